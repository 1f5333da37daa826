-- More steps and deeper calls change nothing.
theorem ab_gM {α : Type} {b : Bool} {x y : Option α} {v : α} (hxy : x = some v → y = some v) (h : ab_g b x = some v) : ab_g b y = some v := by
  cases b with
  | false => exact h
  | true => exact hxy h
theorem ab_piM {α : Type} {st : List ab_V} {f g : Int32 → List ab_V → Option α} {v : α} (hfg : ∀ a r, f a r = some v → g a r = some v) (h : ab_pi st f = some v) : ab_pi st g = some v := by
  obtain ⟨x, r, rfl, h⟩ := ab_piE h
  exact hfg _ _ h
theorem ab_plM {α : Type} {st : List ab_V} {f g : Int64 → List ab_V → Option α} {v : α} (hfg : ∀ a r, f a r = some v → g a r = some v) (h : ab_pl st f = some v) : ab_pl st g = some v := by
  obtain ⟨x, r, rfl, h⟩ := ab_plE h
  exact hfg _ _ h
theorem ab_prM {α : Type} {st : List ab_V} {f g : Nat → List ab_V → Option α} {v : α} (hfg : ∀ a r, f a r = some v → g a r = some v) (h : ab_pr st f = some v) : ab_pr st g = some v := by
  obtain ⟨x, r, rfl, h⟩ := ab_prE h
  exact hfg _ _ h
theorem ab_liM {α : Type} {L : ab_L} {i : Nat} {f g : Int32 → Option α} {v : α} (hfg : ∀ a, f a = some v → g a = some v) (h : ab_li L i f = some v) : ab_li L i g = some v := by
  obtain ⟨x, hx, h⟩ := ab_liE h
  unfold ab_li
  rw [hx]
  exact hfg _ h
theorem ab_llM {α : Type} {L : ab_L} {i : Nat} {f g : Int64 → Option α} {v : α} (hfg : ∀ a, f a = some v → g a = some v) (h : ab_ll L i f = some v) : ab_ll L i g = some v := by
  obtain ⟨x, hx, h⟩ := ab_llE h
  unfold ab_ll
  rw [hx]
  exact hfg _ h
theorem ab_lrM {α : Type} {L : ab_L} {i : Nat} {f g : Nat → Option α} {v : α} (hfg : ∀ a, f a = some v → g a = some v) (h : ab_lr L i f = some v) : ab_lr L i g = some v := by
  obtain ⟨x, hx, h⟩ := ab_lrE h
  unfold ab_lr
  rw [hx]
  exact hfg _ h
theorem ab_czM {α : Type} {c : ClassFile.Cond} {x y : Int32} {a b a' b' : Option α} {v : α} (ha : a = some v → a' = some v) (hb : b = some v → b' = some v) (h : ab_cz c x y a b = some v) : ab_cz c x y a' b' = some v := by
  unfold ab_cz at h ⊢
  cases c <;> (dsimp only at h ⊢; split at h <;> simp only [*, if_true, if_false] <;> first | exact ha h | exact hb h)
theorem ab_swM {α : Type} {x : Int32} {df : Nat} {f g : Nat → Option α} {v : α} (hfg : ∀ t, f t = some v → g t = some v) : ∀ (cs : List (Int × Nat)), ab_sw x df f cs = some v → ab_sw x df g cs = some v
  | [], h => hfg _ h
  | w :: cs, h => by
    unfold ab_sw at h ⊢
    split at h
    · rename_i hx
      rw [if_pos hx]
      exact hfg _ h
    · rename_i hx
      rw [if_neg hx]
      exact ab_swM hfg cs h
theorem ab_doN {k pc : Nat} {L : ab_L} {st : List ab_V} {S : ab_S} {K K' : Nat → ab_L → List ab_V → ab_S → ab_R} {C C' : Nat → ab_L → ab_S → ab_R} {r : ab_O × ab_S} (hK : ∀ pc L st S, K pc L st S = some r → K' pc L st S = some r) (hC : ∀ j L S r, C j L S = some r → C' j L S = some r) {j n : Nat} (h : ab_do k pc K C L st S j n = some r) : ab_do k pc K' C' L st S j n = some r := by
  unfold ab_do at h ⊢
  refine ab_gM (fun h => ?_) h
  obtain ⟨r1, hr1, h⟩ := ab_bdE h
  rw [hC _ _ _ _ hr1]
  show (if _ then _ else _) = _
  split at h
  · rename_i h0
    rw [if_pos h0]
    exact hK _ _ _ _ h
  · rename_i h0
    rw [if_neg h0]
    exact h
theorem ab_exN {q k pc : Nat} {L : ab_L} {st : List ab_V} {S : ab_S} {K K' : Nat → ab_L → List ab_V → ab_S → ab_R} {C C' : Nat → ab_L → ab_S → ab_R} {i : Instr} {f : Nat × Nat × Nat} {r : ab_O × ab_S} (hK : ∀ pc L st S, K pc L st S = some r → K' pc L st S = some r) (hC : ∀ j L S r, C j L S = some r → C' j L S = some r) (h : ab_ex q k pc K C L st S i f = some r) : ab_ex q k pc K' C' L st S i f = some r := by
  cases i with
  | iconst n => exact hK _ _ _ _ h
  | bipush n => exact hK _ _ _ _ h
  | sipush n => exact hK _ _ _ _ h
  | lconst n => exact hK _ _ _ _ h
  | goto o => exact hK _ _ _ _ h
  | iload i => exact ab_liM (fun _ h => hK _ _ _ _ h) h
  | iload_n i => exact ab_liM (fun _ h => hK _ _ _ _ h) h
  | iinc i n => exact ab_liM (fun _ h => hK _ _ _ _ h) h
  | lload i => exact ab_llM (fun _ h => hK _ _ _ _ h) h
  | lload_n i => exact ab_llM (fun _ h => hK _ _ _ _ h) h
  | aload i => exact ab_lrM (fun _ h => hK _ _ _ _ h) h
  | aload_n i => exact ab_lrM (fun _ h => hK _ _ _ _ h) h
  | istore i => exact ab_piM (fun _ _ h => ab_gM (fun h => hK _ _ _ _ h) h) h
  | istore_n i => exact ab_piM (fun _ _ h => ab_gM (fun h => hK _ _ _ _ h) h) h
  | lstore i => exact ab_plM (fun _ _ h => ab_gM (fun h => hK _ _ _ _ h) h) h
  | lstore_n i => exact ab_plM (fun _ _ h => ab_gM (fun h => hK _ _ _ _ h) h) h
  | astore i => exact ab_prM (fun _ _ h => ab_gM (fun h => hK _ _ _ _ h) h) h
  | astore_n i => exact ab_prM (fun _ _ h => ab_gM (fun h => hK _ _ _ _ h) h) h
  | iadd => exact ab_piM (fun _ _ h => ab_piM (fun _ _ h => hK _ _ _ _ h) h) h
  | isub => exact ab_piM (fun _ _ h => ab_piM (fun _ _ h => hK _ _ _ _ h) h) h
  | imul => exact ab_piM (fun _ _ h => ab_piM (fun _ _ h => hK _ _ _ _ h) h) h
  | iand => exact ab_piM (fun _ _ h => ab_piM (fun _ _ h => hK _ _ _ _ h) h) h
  | ior => exact ab_piM (fun _ _ h => ab_piM (fun _ _ h => hK _ _ _ _ h) h) h
  | ishl => exact ab_piM (fun _ _ h => ab_piM (fun _ _ h => hK _ _ _ _ h) h) h
  | ishr => exact ab_piM (fun _ _ h => ab_piM (fun _ _ h => hK _ _ _ _ h) h) h
  | iushr => exact ab_piM (fun _ _ h => ab_piM (fun _ _ h => hK _ _ _ _ h) h) h
  | idiv => exact ab_piM (fun _ _ h => ab_piM (fun _ _ h => ab_gM (fun h => hK _ _ _ _ h) h) h) h
  | ineg => exact ab_piM (fun _ _ h => hK _ _ _ _ h) h
  | i2l => exact ab_piM (fun _ _ h => hK _ _ _ _ h) h
  | i2c => exact ab_piM (fun _ _ h => hK _ _ _ _ h) h
  | l2i => exact ab_plM (fun _ _ h => hK _ _ _ _ h) h
  | ladd => exact ab_plM (fun _ _ h => ab_plM (fun _ _ h => hK _ _ _ _ h) h) h
  | lsub => exact ab_plM (fun _ _ h => ab_plM (fun _ _ h => hK _ _ _ _ h) h) h
  | lmul => exact ab_plM (fun _ _ h => ab_plM (fun _ _ h => hK _ _ _ _ h) h) h
  | land => exact ab_plM (fun _ _ h => ab_plM (fun _ _ h => hK _ _ _ _ h) h) h
  | lor => exact ab_plM (fun _ _ h => ab_plM (fun _ _ h => hK _ _ _ _ h) h) h
  | lxor => exact ab_plM (fun _ _ h => ab_plM (fun _ _ h => hK _ _ _ _ h) h) h
  | lcmp => exact ab_plM (fun _ _ h => ab_plM (fun _ _ h => hK _ _ _ _ h) h) h
  | lshl => exact ab_piM (fun _ _ h => ab_plM (fun _ _ h => hK _ _ _ _ h) h) h
  | lshr => exact ab_piM (fun _ _ h => ab_plM (fun _ _ h => hK _ _ _ _ h) h) h
  | lushr => exact ab_piM (fun _ _ h => ab_plM (fun _ _ h => hK _ _ _ _ h) h) h
  | dup2 => exact ab_piM (fun _ _ h => ab_prM (fun _ _ h => hK _ _ _ _ h) h) h
  | getfield i => exact ab_prM (fun _ _ h => ab_gM (fun h => hK _ _ _ _ h) h) h
  | getstatic i => exact hK _ _ _ _ h
  | arraylength => exact ab_prM (fun _ _ h => ab_gM (fun h => hK _ _ _ _ h) h) h
  | iaload => exact ab_piM (fun _ _ h => ab_prM (fun _ _ h => ab_gM (fun h => ab_gM (fun h => hK _ _ _ _ h) h) h) h) h
  | laload => exact ab_piM (fun _ _ h => ab_prM (fun _ _ h => ab_gM (fun h => ab_gM (fun h => hK _ _ _ _ h) h) h) h) h
  | caload => exact ab_piM (fun _ _ h => ab_prM (fun _ _ h => ab_gM (fun h => ab_gM (fun h => hK _ _ _ _ h) h) h) h) h
  | baload => exact ab_piM (fun _ _ h => ab_prM (fun _ _ h => ab_gM (fun h => ab_gM (fun h => hK _ _ _ _ h) h) h) h) h
  | aaload => exact ab_piM (fun _ _ h => ab_prM (fun _ _ h => ab_gM (fun h => ab_gM (fun h => hK _ _ _ _ h) h) h) h) h
  | iastore => exact ab_piM (fun _ _ h => ab_piM (fun _ _ h => ab_prM (fun _ _ h => ab_gM (fun h => ab_gM (fun h => hK _ _ _ _ h) h) h) h) h) h
  | lastore => exact ab_plM (fun _ _ h => ab_piM (fun _ _ h => ab_prM (fun _ _ h => ab_gM (fun h => ab_gM (fun h => hK _ _ _ _ h) h) h) h) h) h
  | castore => exact ab_piM (fun _ _ h => ab_piM (fun _ _ h => ab_prM (fun _ _ h => ab_gM (fun h => ab_gM (fun h => hK _ _ _ _ h) h) h) h) h) h
  | bastore => exact ab_piM (fun _ _ h => ab_piM (fun _ _ h => ab_prM (fun _ _ h => ab_gM (fun h => ab_gM (fun h => hK _ _ _ _ h) h) h) h) h) h
  | aastore => exact ab_prM (fun _ _ h => ab_piM (fun _ _ h => ab_prM (fun _ _ h => ab_gM (fun h => ab_gM (fun h => hK _ _ _ _ h) h) h) h) h) h
  | newarray t => exact ab_piM (fun _ _ h => ab_gM (fun h => hK _ _ _ _ h) h) h
  | anewarray i => exact ab_piM (fun _ _ h => ab_gM (fun h => hK _ _ _ _ h) h) h
  | ldc_w i =>
    unfold ab_ex at h ⊢
    dsimp only at h ⊢
    split at h
    · cases h
    · exact hK _ _ _ _ h
  | ldc2_w i =>
    unfold ab_ex at h ⊢
    dsimp only at h ⊢
    split at h
    · cases h
    · exact hK _ _ _ _ h
  | dup =>
    unfold ab_ex at h ⊢
    dsimp only at h ⊢
    split at h
    · exact hK _ _ _ _ h
    · exact hK _ _ _ _ h
    · cases h
  | pop =>
    unfold ab_ex at h ⊢
    dsimp only at h ⊢
    split at h
    · exact hK _ _ _ _ h
    · exact hK _ _ _ _ h
    · cases h
  | ifCond c o => exact ab_piM (fun _ _ h => ab_czM (fun h => hK _ _ _ _ h) (fun h => hK _ _ _ _ h) h) h
  | if_icmp c o => exact ab_piM (fun _ _ h => ab_piM (fun _ _ h => ab_czM (fun h => hK _ _ _ _ h) (fun h => hK _ _ _ _ h) h) h) h
  | tableswitch df lo hi offs => exact ab_piM (fun _ _ h => ab_swM (fun _ h => hK _ _ _ _ h) _ h) h
  | lookupswitch df ps => exact ab_piM (fun _ _ h => ab_swM (fun _ h => hK _ _ _ _ h) _ h) h
  | putfield i =>
    unfold ab_ex at h ⊢
    dsimp only at h ⊢
    split at h
    · exact ab_piM (fun _ _ h => ab_prM (fun _ _ h => ab_gM (fun h => hK _ _ _ _ h) h) h) h
    · exact ab_piM (fun _ _ h => ab_prM (fun _ _ h => ab_gM (fun h => hK _ _ _ _ h) h) h) h
    · exact ab_prM (fun _ _ h => ab_prM (fun _ _ h => ab_gM (fun h => hK _ _ _ _ h) h) h) h
    · exact ab_prM (fun _ _ h => ab_prM (fun _ _ h => ab_gM (fun h => hK _ _ _ _ h) h) h) h
  | new i =>
    unfold ab_ex at h ⊢
    dsimp only at h ⊢
    split at h
    · exact ab_gM (fun h => hK _ _ _ _ h) h
    · exact h
    · cases h
  | invokevirtual i => exact ab_gM (fun h => ab_gM (fun h => ab_doN hK hC h) h) h
  | invokestatic i =>
    unfold ab_ex at h ⊢
    dsimp only at h ⊢
    split at h
    · exact ab_doN hK hC h
    · exact ab_piM (fun _ _ h => ab_piM (fun _ _ h => ab_prM (fun _ _ h => ab_piM (fun _ _ h => ab_prM (fun _ _ h => ab_gM (fun h => ab_gM (fun h => hK _ _ _ _ h) h) h) h) h) h) h) h
    · cases h
  | invokespecial i =>
    unfold ab_ex at h ⊢
    dsimp only at h ⊢
    split at h
    · exact ab_gM (fun h => ab_doN hK hC h) h
    · exact ab_prM (fun _ _ h => ab_gM (fun h => hK _ _ _ _ h) h) h
    · cases h
  | ireturn => exact h
  | lreturn => exact h
  | areturn => exact h
  | return_ => exact h
  | _ => exact nomatch (show (none : ab_R) = some r from h)
theorem ab_more (q : Nat) : ∀ (n n' d d' k pc : Nat) (L : ab_L) (st : List ab_V) (S : ab_S) (r : ab_O × ab_S), n ≤ n' → d ≤ d' → ab_run q n d k pc L st S = some r → ab_run q n' d' k pc L st S = some r
  | 0, _, _, _, _, _, _, _, _, _, _, _, h => nomatch (show (none : ab_R) = some _ from h)
  | n + 1, 0, _, _, _, _, _, _, _, _, h1, _, _ => absurd h1 (by omega)
  | n + 1, n' + 1, d, d', k, pc, L, st, S, r, h1, h2, h => by
    unfold ab_run at h ⊢
    split at h
    · cases h
    · refine ab_exN (fun pc L st S h => ab_more q n n' d d' _ _ _ _ _ _ (by omega) h2 h) (fun j L S r h => ?_) h
      cases d with
      | zero => cases h
      | succ d =>
        cases d' with
        | zero => omega
        | succ d' => exact ab_more q n n' d d' _ _ _ _ _ _ (by omega) (by omega) h
/-- a run from a place of a method comes to an end -/
def pu (q d k pc : Nat) (L : ab_L) (st : List ab_V) (S : ab_S) (r : ab_O × ab_S) : Prop := ∃ n, ab_run q n d k pc L st S = some r
theorem pu_up {q n d k pc : Nat} {L : ab_L} {st : List ab_V} {S : ab_S} {r : ab_O × ab_S} (h : ab_run q n d k pc L st S = some r) {n' d' : Nat} (h1 : n ≤ n') (h2 : d ≤ d') : ab_run q n' d' k pc L st S = some r := ab_more q n n' d d' k pc L st S r h1 h2 h
theorem pu_more {q d d' k pc : Nat} {L : ab_L} {st : List ab_V} {S : ab_S} {r : ab_O × ab_S} (h : pu q d k pc L st S r) (h2 : d ≤ d') : pu q d' k pc L st S r := by
  obtain ⟨n, h⟩ := h
  exact ⟨n, pu_up h (Nat.le_refl _) h2⟩
