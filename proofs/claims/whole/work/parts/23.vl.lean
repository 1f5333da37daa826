-- The value of a run: steps no longer counted.
theorem ab_gC {α : Type} {b : Bool} {x : Option α} {y : Nat → Option α} {v : α} (hxy : x = some v → ∃ n, y n = some v) (h : ab_g b x = some v) : ∃ n, ab_g b (y n) = some v := by
  cases b with
  | false => exact ⟨0, h⟩
  | true => exact hxy h
theorem ab_piC {α : Type} {st : List ab_V} {f : Int32 → List ab_V → Option α} {g : Nat → Int32 → List ab_V → Option α} {v : α} (hfg : ∀ a r, f a r = some v → ∃ n, g n a r = some v) (h : ab_pi st f = some v) : ∃ n, ab_pi st (g n) = some v := by
  obtain ⟨x, r, rfl, h⟩ := ab_piE h
  exact hfg _ _ h
theorem ab_plC {α : Type} {st : List ab_V} {f : Int64 → List ab_V → Option α} {g : Nat → Int64 → List ab_V → Option α} {v : α} (hfg : ∀ a r, f a r = some v → ∃ n, g n a r = some v) (h : ab_pl st f = some v) : ∃ n, ab_pl st (g n) = some v := by
  obtain ⟨x, r, rfl, h⟩ := ab_plE h
  exact hfg _ _ h
theorem ab_prC {α : Type} {st : List ab_V} {f : Nat → List ab_V → Option α} {g : Nat → Nat → List ab_V → Option α} {v : α} (hfg : ∀ a r, f a r = some v → ∃ n, g n a r = some v) (h : ab_pr st f = some v) : ∃ n, ab_pr st (g n) = some v := by
  obtain ⟨x, r, rfl, h⟩ := ab_prE h
  exact hfg _ _ h
theorem ab_liC {α : Type} {L : ab_L} {i : Nat} {f : Int32 → Option α} {g : Nat → Int32 → Option α} {v : α} (hfg : ∀ a, f a = some v → ∃ n, g n a = some v) (h : ab_li L i f = some v) : ∃ n, ab_li L i (g n) = some v := by
  obtain ⟨x, hx, h⟩ := ab_liE h
  unfold ab_li
  rw [hx]
  exact hfg _ h
theorem ab_llC {α : Type} {L : ab_L} {i : Nat} {f : Int64 → Option α} {g : Nat → Int64 → Option α} {v : α} (hfg : ∀ a, f a = some v → ∃ n, g n a = some v) (h : ab_ll L i f = some v) : ∃ n, ab_ll L i (g n) = some v := by
  obtain ⟨x, hx, h⟩ := ab_llE h
  unfold ab_ll
  rw [hx]
  exact hfg _ h
theorem ab_lrC {α : Type} {L : ab_L} {i : Nat} {f : Nat → Option α} {g : Nat → Nat → Option α} {v : α} (hfg : ∀ a, f a = some v → ∃ n, g n a = some v) (h : ab_lr L i f = some v) : ∃ n, ab_lr L i (g n) = some v := by
  obtain ⟨x, hx, h⟩ := ab_lrE h
  unfold ab_lr
  rw [hx]
  exact hfg _ h
theorem ab_czC {α : Type} {c : ClassFile.Cond} {x y : Int32} {a b : Option α} {a' b' : Nat → Option α} {v : α} (ha : a = some v → ∃ n, a' n = some v) (hb : b = some v → ∃ n, b' n = some v) (h : ab_cz c x y a b = some v) : ∃ n, ab_cz c x y (a' n) (b' n) = some v := by
  unfold ab_cz at h ⊢
  cases c <;> (dsimp only at h ⊢; split at h <;> simp only [*, if_true, if_false] <;> first | exact ha h | exact hb h)
theorem ab_swC {α : Type} {x : Int32} {df : Nat} {f : Nat → Option α} {g : Nat → Nat → Option α} {v : α} (hfg : ∀ t, f t = some v → ∃ n, g n t = some v) : ∀ (cs : List (Int × Nat)), ab_sw x df f cs = some v → ∃ n, ab_sw x df (g n) cs = some v
  | [], h => hfg _ h
  | w :: cs, h => by
    unfold ab_sw at h ⊢
    split at h
    · rename_i hx
      simp only [if_pos hx]
      exact hfg _ h
    · rename_i hx
      simp only [if_neg hx]
      exact ab_swC hfg cs h
theorem ab_doC {k pc : Nat} {L : ab_L} {st : List ab_V} {S : ab_S} {K : Nat → ab_L → List ab_V → ab_S → ab_R} {C : Nat → ab_L → ab_S → ab_R} {K' : Nat → Nat → ab_L → List ab_V → ab_S → ab_R} {C' : Nat → Nat → ab_L → ab_S → ab_R} {r : ab_O × ab_S} (hK : ∀ pc L st S, K pc L st S = some r → ∃ n, K' n pc L st S = some r) (hC : ∀ j L S r, C j L S = some r → ∃ n, C' n j L S = some r) (mK : ∀ n m pc L st S r, n ≤ m → K' n pc L st S = some r → K' m pc L st S = some r) (mC : ∀ n m j L S r, n ≤ m → C' n j L S = some r → C' m j L S = some r) {j n : Nat} (h : ab_do k pc K C L st S j n = some r) : ∃ m, ab_do k pc (K' m) (C' m) L st S j n = some r := by
  unfold ab_do at h ⊢
  refine ab_gC (fun h => ?_) h
  obtain ⟨r1, hr1, h⟩ := ab_bdE h
  obtain ⟨n1, h1⟩ := hC _ _ _ _ hr1
  split at h
  · rename_i h0
    obtain ⟨n2, h2⟩ := hK _ _ _ _ h
    refine ⟨n1 + n2, ?_⟩
    rw [mC n1 (n1 + n2) _ _ _ _ (by omega) h1]
    show (if _ then _ else _) = _
    rw [if_pos h0]
    exact mK n2 (n1 + n2) _ _ _ _ _ (by omega) h2
  · rename_i h0
    refine ⟨n1, ?_⟩
    rw [h1]
    show (if _ then _ else _) = _
    rw [if_neg h0]
    exact h
theorem ab_exC {q k pc : Nat} {L : ab_L} {st : List ab_V} {S : ab_S} {K : Nat → ab_L → List ab_V → ab_S → ab_R} {C : Nat → ab_L → ab_S → ab_R} {K' : Nat → Nat → ab_L → List ab_V → ab_S → ab_R} {C' : Nat → Nat → ab_L → ab_S → ab_R} {i : Instr} {f : Nat × Nat × Nat} {r : ab_O × ab_S} (hK : ∀ pc L st S, K pc L st S = some r → ∃ n, K' n pc L st S = some r) (hC : ∀ j L S r, C j L S = some r → ∃ n, C' n j L S = some r) (mK : ∀ n m pc L st S r, n ≤ m → K' n pc L st S = some r → K' m pc L st S = some r) (mC : ∀ n m j L S r, n ≤ m → C' n j L S = some r → C' m j L S = some r) (h : ab_ex q k pc K C L st S i f = some r) : ∃ n, ab_ex q k pc (K' n) (C' n) L st S i f = some r := by
  cases i with
  | iconst n => exact hK _ _ _ _ h
  | bipush n => exact hK _ _ _ _ h
  | sipush n => exact hK _ _ _ _ h
  | lconst n => exact hK _ _ _ _ h
  | goto o => exact hK _ _ _ _ h
  | iload i => exact ab_liC (fun _ h => hK _ _ _ _ h) h
  | iload_n i => exact ab_liC (fun _ h => hK _ _ _ _ h) h
  | iinc i n => exact ab_liC (fun _ h => hK _ _ _ _ h) h
  | lload i => exact ab_llC (fun _ h => hK _ _ _ _ h) h
  | lload_n i => exact ab_llC (fun _ h => hK _ _ _ _ h) h
  | aload i => exact ab_lrC (fun _ h => hK _ _ _ _ h) h
  | aload_n i => exact ab_lrC (fun _ h => hK _ _ _ _ h) h
  | istore i => exact ab_piC (fun _ _ h => ab_gC (fun h => hK _ _ _ _ h) h) h
  | istore_n i => exact ab_piC (fun _ _ h => ab_gC (fun h => hK _ _ _ _ h) h) h
  | lstore i => exact ab_plC (fun _ _ h => ab_gC (fun h => hK _ _ _ _ h) h) h
  | lstore_n i => exact ab_plC (fun _ _ h => ab_gC (fun h => hK _ _ _ _ h) h) h
  | astore i => exact ab_prC (fun _ _ h => ab_gC (fun h => hK _ _ _ _ h) h) h
  | astore_n i => exact ab_prC (fun _ _ h => ab_gC (fun h => hK _ _ _ _ h) h) h
  | iadd => exact ab_piC (fun _ _ h => ab_piC (fun _ _ h => hK _ _ _ _ h) h) h
  | isub => exact ab_piC (fun _ _ h => ab_piC (fun _ _ h => hK _ _ _ _ h) h) h
  | imul => exact ab_piC (fun _ _ h => ab_piC (fun _ _ h => hK _ _ _ _ h) h) h
  | iand => exact ab_piC (fun _ _ h => ab_piC (fun _ _ h => hK _ _ _ _ h) h) h
  | ior => exact ab_piC (fun _ _ h => ab_piC (fun _ _ h => hK _ _ _ _ h) h) h
  | ishl => exact ab_piC (fun _ _ h => ab_piC (fun _ _ h => hK _ _ _ _ h) h) h
  | ishr => exact ab_piC (fun _ _ h => ab_piC (fun _ _ h => hK _ _ _ _ h) h) h
  | iushr => exact ab_piC (fun _ _ h => ab_piC (fun _ _ h => hK _ _ _ _ h) h) h
  | idiv => exact ab_piC (fun _ _ h => ab_piC (fun _ _ h => ab_gC (fun h => hK _ _ _ _ h) h) h) h
  | ineg => exact ab_piC (fun _ _ h => hK _ _ _ _ h) h
  | i2l => exact ab_piC (fun _ _ h => hK _ _ _ _ h) h
  | i2c => exact ab_piC (fun _ _ h => hK _ _ _ _ h) h
  | l2i => exact ab_plC (fun _ _ h => hK _ _ _ _ h) h
  | ladd => exact ab_plC (fun _ _ h => ab_plC (fun _ _ h => hK _ _ _ _ h) h) h
  | lsub => exact ab_plC (fun _ _ h => ab_plC (fun _ _ h => hK _ _ _ _ h) h) h
  | lmul => exact ab_plC (fun _ _ h => ab_plC (fun _ _ h => hK _ _ _ _ h) h) h
  | land => exact ab_plC (fun _ _ h => ab_plC (fun _ _ h => hK _ _ _ _ h) h) h
  | lor => exact ab_plC (fun _ _ h => ab_plC (fun _ _ h => hK _ _ _ _ h) h) h
  | lxor => exact ab_plC (fun _ _ h => ab_plC (fun _ _ h => hK _ _ _ _ h) h) h
  | lcmp => exact ab_plC (fun _ _ h => ab_plC (fun _ _ h => hK _ _ _ _ h) h) h
  | lshl => exact ab_piC (fun _ _ h => ab_plC (fun _ _ h => hK _ _ _ _ h) h) h
  | lshr => exact ab_piC (fun _ _ h => ab_plC (fun _ _ h => hK _ _ _ _ h) h) h
  | lushr => exact ab_piC (fun _ _ h => ab_plC (fun _ _ h => hK _ _ _ _ h) h) h
  | dup2 => exact ab_piC (fun _ _ h => ab_prC (fun _ _ h => hK _ _ _ _ h) h) h
  | getfield i => exact ab_prC (fun _ _ h => ab_gC (fun h => hK _ _ _ _ h) h) h
  | getstatic i => exact hK _ _ _ _ h
  | arraylength => exact ab_prC (fun _ _ h => ab_gC (fun h => hK _ _ _ _ h) h) h
  | iaload => exact ab_piC (fun _ _ h => ab_prC (fun _ _ h => ab_gC (fun h => ab_gC (fun h => hK _ _ _ _ h) h) h) h) h
  | laload => exact ab_piC (fun _ _ h => ab_prC (fun _ _ h => ab_gC (fun h => ab_gC (fun h => hK _ _ _ _ h) h) h) h) h
  | caload => exact ab_piC (fun _ _ h => ab_prC (fun _ _ h => ab_gC (fun h => ab_gC (fun h => hK _ _ _ _ h) h) h) h) h
  | baload => exact ab_piC (fun _ _ h => ab_prC (fun _ _ h => ab_gC (fun h => ab_gC (fun h => hK _ _ _ _ h) h) h) h) h
  | aaload => exact ab_piC (fun _ _ h => ab_prC (fun _ _ h => ab_gC (fun h => ab_gC (fun h => hK _ _ _ _ h) h) h) h) h
  | iastore => exact ab_piC (fun _ _ h => ab_piC (fun _ _ h => ab_prC (fun _ _ h => ab_gC (fun h => ab_gC (fun h => hK _ _ _ _ h) h) h) h) h) h
  | lastore => exact ab_plC (fun _ _ h => ab_piC (fun _ _ h => ab_prC (fun _ _ h => ab_gC (fun h => ab_gC (fun h => hK _ _ _ _ h) h) h) h) h) h
  | castore => exact ab_piC (fun _ _ h => ab_piC (fun _ _ h => ab_prC (fun _ _ h => ab_gC (fun h => ab_gC (fun h => hK _ _ _ _ h) h) h) h) h) h
  | bastore => exact ab_piC (fun _ _ h => ab_piC (fun _ _ h => ab_prC (fun _ _ h => ab_gC (fun h => ab_gC (fun h => hK _ _ _ _ h) h) h) h) h) h
  | aastore => exact ab_prC (fun _ _ h => ab_piC (fun _ _ h => ab_prC (fun _ _ h => ab_gC (fun h => ab_gC (fun h => hK _ _ _ _ h) h) h) h) h) h
  | newarray t => exact ab_piC (fun _ _ h => ab_gC (fun h => hK _ _ _ _ h) h) h
  | anewarray i => exact ab_piC (fun _ _ h => ab_gC (fun h => hK _ _ _ _ h) h) h
  | ldc_w i =>
    unfold ab_ex at h ⊢
    dsimp only at h ⊢
    split at h
    · cases h
    · exact hK _ _ _ _ h
  | ldc2_w i =>
    unfold ab_ex at h ⊢
    dsimp only at h ⊢
    split at h
    · cases h
    · exact hK _ _ _ _ h
  | dup =>
    unfold ab_ex at h ⊢
    dsimp only at h ⊢
    split at h
    · exact hK _ _ _ _ h
    · exact hK _ _ _ _ h
    · cases h
  | pop =>
    unfold ab_ex at h ⊢
    dsimp only at h ⊢
    split at h
    · exact hK _ _ _ _ h
    · exact hK _ _ _ _ h
    · cases h
  | ifCond c o => exact ab_piC (fun _ _ h => ab_czC (fun h => hK _ _ _ _ h) (fun h => hK _ _ _ _ h) h) h
  | if_icmp c o => exact ab_piC (fun _ _ h => ab_piC (fun _ _ h => ab_czC (fun h => hK _ _ _ _ h) (fun h => hK _ _ _ _ h) h) h) h
  | tableswitch df lo hi offs => exact ab_piC (fun _ _ h => ab_swC (fun _ h => hK _ _ _ _ h) _ h) h
  | lookupswitch df ps => exact ab_piC (fun _ _ h => ab_swC (fun _ h => hK _ _ _ _ h) _ h) h
  | putfield i =>
    unfold ab_ex at h ⊢
    dsimp only at h ⊢
    split at h
    · exact ab_piC (fun _ _ h => ab_prC (fun _ _ h => ab_gC (fun h => hK _ _ _ _ h) h) h) h
    · exact ab_piC (fun _ _ h => ab_prC (fun _ _ h => ab_gC (fun h => hK _ _ _ _ h) h) h) h
    · exact ab_prC (fun _ _ h => ab_prC (fun _ _ h => ab_gC (fun h => hK _ _ _ _ h) h) h) h
    · exact ab_prC (fun _ _ h => ab_prC (fun _ _ h => ab_gC (fun h => hK _ _ _ _ h) h) h) h
  | new i =>
    unfold ab_ex at h ⊢
    dsimp only at h ⊢
    split at h
    · exact ab_gC (fun h => hK _ _ _ _ h) h
    · exact ⟨0, h⟩
    · cases h
  | invokevirtual i => exact ab_gC (fun h => ab_gC (fun h => ab_doC hK hC mK mC h) h) h
  | invokestatic i =>
    unfold ab_ex at h ⊢
    dsimp only at h ⊢
    split at h
    · exact ab_doC hK hC mK mC h
    · exact ab_piC (fun _ _ h => ab_piC (fun _ _ h => ab_prC (fun _ _ h => ab_piC (fun _ _ h => ab_prC (fun _ _ h => ab_gC (fun h => ab_gC (fun h => hK _ _ _ _ h) h) h) h) h) h) h) h
    · cases h
  | invokespecial i =>
    unfold ab_ex at h ⊢
    dsimp only at h ⊢
    split at h
    · exact ab_gC (fun h => ab_doC hK hC mK mC h) h
    · exact ab_prC (fun _ _ h => ab_gC (fun h => hK _ _ _ _ h) h) h
    · cases h
  | ireturn => exact ⟨0, h⟩
  | lreturn => exact ⟨0, h⟩
  | areturn => exact ⟨0, h⟩
  | return_ => exact ⟨0, h⟩
  | _ => exact nomatch (show (none : ab_R) = some r from h)
theorem ab_one {q n d k pc : Nat} {L : ab_L} {st : List ab_V} {S : ab_S} {x : Instr × Nat × Nat × Nat} (h : ab_ins k pc = some x) : ab_run q (n + 1) d k pc L st S = ab_ex q k pc (fun pc' L' st' S' => ab_run q n d k pc' (ab_zip (ab_msk k pc') L') st' S') (fun j L' S' => match d with
      | 0 => none
      | d + 1 => ab_run q n d j 0 L' [] S') L st S x.1 x.2 := by
  rw [ab_run, h]
  rfl
/-- what a run comes to -/
noncomputable def vl (q d k pc : Nat) (L : ab_L) (st : List ab_V) (S : ab_S) : ab_R := by
  classical
  exact if h : ∃ r, pu q d k pc L st S r then some (Classical.choose h) else none
theorem vl_of {q d k pc : Nat} {L : ab_L} {st : List ab_V} {S : ab_S} {r : ab_O × ab_S} (h : pu q d k pc L st S r) : vl q d k pc L st S = some r := by
  have he : ∃ r, pu q d k pc L st S r := ⟨r, h⟩
  unfold vl
  rw [dif_pos he]
  obtain ⟨n1, h1⟩ := Classical.choose_spec he
  obtain ⟨n2, h2⟩ := h
  have a := pu_up h1 (Nat.le_add_right n1 n2) (Nat.le_refl _)
  have b := pu_up h2 (Nat.le_add_left n2 n1) (Nat.le_refl _)
  rw [a] at b
  exact b
theorem vl_pu {q d k pc : Nat} {L : ab_L} {st : List ab_V} {S : ab_S} {r : ab_O × ab_S} (h : vl q d k pc L st S = some r) : pu q d k pc L st S r := by
  unfold vl at h
  split at h
  · rename_i he
    cases h
    exact Classical.choose_spec he
  · cases h
theorem vl_more {q d d' k pc : Nat} {L : ab_L} {st : List ab_V} {S : ab_S} {r : ab_O × ab_S} (h2 : d ≤ d') (h : vl q d k pc L st S = some r) : vl q d' k pc L st S = some r := vl_of (pu_more (vl_pu h) h2)
theorem ab_ext {x y : ab_R} (h1 : ∀ r, x = some r → y = some r) (h2 : ∀ r, y = some r → x = some r) : x = y := by
  cases x with
  | some r => exact (h1 r rfl).symm
  | none =>
    cases y with
    | none => rfl
    | some r => exact h2 r rfl
def ab_cd (C : Nat → Nat → ab_L → ab_S → ab_R) (d : Nat) : Nat → ab_L → ab_S → ab_R := fun j L' S' => match d with
      | 0 => none
      | d + 1 => C d j L' S'
theorem vl_one {q d k pc : Nat} {L : ab_L} {st : List ab_V} {S : ab_S} {x : Instr × Nat × Nat × Nat} (h : ab_ins k pc = some x) : vl q d k pc L st S = ab_ex q k pc (fun pc' L' st' S' => vl q d k pc' (ab_zip (ab_msk k pc') L') st' S') (ab_cd (fun d j L' S' => vl q d j 0 L' [] S') d) L st S x.1 x.2 := by
  refine ab_ext (fun r hr => ?_) (fun r hr => ?_)
  · obtain ⟨n, hn⟩ := vl_pu hr
    cases n with
    | zero => cases hn
    | succ n =>
      rw [ab_one h] at hn
      refine ab_exN (fun pc L st S h => vl_of ⟨n, h⟩) (fun j L S r h => ?_) hn
      cases d with
      | zero => cases h
      | succ d => exact vl_of ⟨n, h⟩
  · obtain ⟨n, hn⟩ := ab_exC (K' := fun n pc' L' st' S' => ab_run q n d k pc' (ab_zip (ab_msk k pc') L') st' S') (C' := fun n => ab_cd (fun d j L' S' => ab_run q n d j 0 L' [] S') d) (fun pc L st S h => vl_pu h) (fun j L S r h => by
      cases d with
      | zero => cases h
      | succ d => exact vl_pu h) (fun n m pc L st S r hnm h => pu_up h hnm (Nat.le_refl _)) (fun n m j L S r hnm h => by
      cases d with
      | zero => cases h
      | succ d => exact pu_up h hnm (Nat.le_refl _)) hr
    exact vl_of ⟨n + 1, (ab_one h).trans hn⟩
/-- steps up to the next joins -/
noncomputable def ab_rv (q : Nat) : Nat → Nat → Nat → Nat → ab_L → List ab_V → ab_S → ab_R
  | 0, d, k, pc, L, st, S => vl q d k pc L st S
  | n + 1, d, k, pc, L, st, S => match ab_ins k pc with
    | none => vl q d k pc L st S
    | some x => ab_ex q k pc (fun pc' L' st' S' => match ab_msk k pc' with
      | [] => ab_rv q n d k pc' L' st' S'
      | m => vl q d k pc' (ab_zip m L') st' S') (ab_cd (fun d j L' S' => vl q d j 0 L' [] S') d) L st S x.1 x.2
theorem vl_rv (q : Nat) : ∀ (n d k pc : Nat) (L : ab_L) (st : List ab_V) (S : ab_S), vl q d k pc L st S = ab_rv q n d k pc L st S
  | 0, _, _, _, _, _, _ => rfl
  | n + 1, d, k, pc, L, st, S => by
    unfold ab_rv
    split
    · rfl
    · rename_i x hx
      rw [vl_one hx]
      congr 1
      funext pc' L' st' S'
      split
      · rename_i hm
        rw [hm]
        exact vl_rv q n d k pc' L' st' S'
      · rfl
