-- The abstract machine is sound: all instructions, and the run.
section ab_step
variable {p : Program} {l : Launch} {e : Env} {R : Room} {s : State} {m : MethodId} {args : Array Value} {below : List Frame} {meth : Method} {c : Code} {D : va_G} {q sa wa B n0 z0 k pc : Nat} {Hb : Heap} {L : ab_L} {st : List ab_V} {S : ab_S}
def ab_le (S S' : ab_S) : Prop := S.2.2.2.2.1 ≤ S'.2.2.2.2.1 ∧ S.2.2.2.2.2 ≤ S'.2.2.2.2.2
theorem ab_czE {α : Type} {c : ClassFile.Cond} {x y : Int32} {a b r : Option α} (h : ab_cz c x y a b = r) : a = r ∨ b = r := by
  unfold ab_cz at h
  cases c <;> (dsimp only at h; split at h <;> first | exact Or.inl h | exact Or.inr h)
theorem ab_swE {α : Type} {x : Int32} {df : Nat} {f : Nat → Option α} {r : Option α} : ∀ (cs : List (Int × Nat)), ab_sw x df f cs = r → ∃ t, f t = r
  | [], h => ⟨_, h⟩
  | v :: cs, h => by
    unfold ab_sw at h
    split at h
    · exact ⟨_, h⟩
    · exact ab_swE cs h
theorem ab_bdE {x : ab_R} {f : ab_O × ab_S → ab_R} {v : ab_O × ab_S} (h : ab_bd x f = some v) : ∃ r, x = some r ∧ f r = some v := by
  cases x with
  | none => cases h
  | some r => exact ⟨r, rfl, h⟩
theorem ab_doM {K : Nat → ab_L → List ab_V → ab_S → ab_R} {C : Nat → ab_L → ab_S → ab_R} (hK : ∀ pc L st S r, K pc L st S = some r → ab_le S r.2) (hC : ∀ j L S r, C j L S = some r → ab_le S r.2) {j n : Nat} {r : ab_O × ab_S} (h : ab_do k pc K C L st S j n = some r) : ab_le S r.2 := by
  unfold ab_do at h
  obtain ⟨-, h⟩ := ab_gE h
  obtain ⟨r1, hr1, h⟩ := ab_bdE h
  have h1 := hC _ _ _ _ hr1
  split at h
  · have h2 := hK _ _ _ _ _ h
    exact ⟨Nat.le_trans h1.1 h2.1, Nat.le_trans h1.2 h2.2⟩
  · unfold ab_th at h
    split at h
    · cases hb : ab_hh k with
      | true => rw [hb] at h; cases h
      | false =>
        rw [hb] at h
        cases h
        exact h1
    · cases h
      exact h1
theorem ab_exM {K : Nat → ab_L → List ab_V → ab_S → ab_R} {C : Nat → ab_L → ab_S → ab_R} (hK : ∀ pc L st S r, K pc L st S = some r → ab_le S r.2) (hC : ∀ j L S r, C j L S = some r → ab_le S r.2) {i : Instr} {f : Nat × Nat × Nat} {r : ab_O × ab_S} (h : ab_ex q k pc K C L st S i f = some r) : ab_le S r.2 := by
  cases i with

  | iconst n => exact (hK _ _ _ _ _ h :)
  | bipush n => exact (hK _ _ _ _ _ h :)
  | sipush n => exact (hK _ _ _ _ _ h :)
  | lconst n => exact (hK _ _ _ _ _ h :)
  | goto o => exact (hK _ _ _ _ _ h :)
  | iload i => obtain ⟨_, _, h⟩ := ab_liE h; exact (hK _ _ _ _ _ h :)
  | iload_n i => obtain ⟨_, _, h⟩ := ab_liE h; exact (hK _ _ _ _ _ h :)
  | iinc i n => obtain ⟨_, _, h⟩ := ab_liE h; exact (hK _ _ _ _ _ h :)
  | lload i => obtain ⟨_, _, h⟩ := ab_llE h; exact (hK _ _ _ _ _ h :)
  | lload_n i => obtain ⟨_, _, h⟩ := ab_llE h; exact (hK _ _ _ _ _ h :)
  | aload i => obtain ⟨_, _, h⟩ := ab_lrE h; exact (hK _ _ _ _ _ h :)
  | aload_n i => obtain ⟨_, _, h⟩ := ab_lrE h; exact (hK _ _ _ _ _ h :)
  | istore i => obtain ⟨_, _, -, h⟩ := ab_piE h; obtain ⟨_, h⟩ := ab_gE h; exact (hK _ _ _ _ _ h :)
  | istore_n i => obtain ⟨_, _, -, h⟩ := ab_piE h; obtain ⟨_, h⟩ := ab_gE h; exact (hK _ _ _ _ _ h :)
  | lstore i => obtain ⟨_, _, -, h⟩ := ab_plE h; obtain ⟨_, h⟩ := ab_gE h; exact (hK _ _ _ _ _ h :)
  | lstore_n i => obtain ⟨_, _, -, h⟩ := ab_plE h; obtain ⟨_, h⟩ := ab_gE h; exact (hK _ _ _ _ _ h :)
  | astore i => obtain ⟨_, _, -, h⟩ := ab_prE h; obtain ⟨_, h⟩ := ab_gE h; exact (hK _ _ _ _ _ h :)
  | astore_n i => obtain ⟨_, _, -, h⟩ := ab_prE h; obtain ⟨_, h⟩ := ab_gE h; exact (hK _ _ _ _ _ h :)
  | iadd => obtain ⟨_, _, -, h⟩ := ab_piE h; obtain ⟨_, _, -, h⟩ := ab_piE h; exact (hK _ _ _ _ _ h :)
  | isub => obtain ⟨_, _, -, h⟩ := ab_piE h; obtain ⟨_, _, -, h⟩ := ab_piE h; exact (hK _ _ _ _ _ h :)
  | imul => obtain ⟨_, _, -, h⟩ := ab_piE h; obtain ⟨_, _, -, h⟩ := ab_piE h; exact (hK _ _ _ _ _ h :)
  | iand => obtain ⟨_, _, -, h⟩ := ab_piE h; obtain ⟨_, _, -, h⟩ := ab_piE h; exact (hK _ _ _ _ _ h :)
  | ior => obtain ⟨_, _, -, h⟩ := ab_piE h; obtain ⟨_, _, -, h⟩ := ab_piE h; exact (hK _ _ _ _ _ h :)
  | ishl => obtain ⟨_, _, -, h⟩ := ab_piE h; obtain ⟨_, _, -, h⟩ := ab_piE h; exact (hK _ _ _ _ _ h :)
  | ishr => obtain ⟨_, _, -, h⟩ := ab_piE h; obtain ⟨_, _, -, h⟩ := ab_piE h; exact (hK _ _ _ _ _ h :)
  | iushr => obtain ⟨_, _, -, h⟩ := ab_piE h; obtain ⟨_, _, -, h⟩ := ab_piE h; exact (hK _ _ _ _ _ h :)
  | idiv => obtain ⟨_, _, -, h⟩ := ab_piE h; obtain ⟨_, _, -, h⟩ := ab_piE h; obtain ⟨_, h⟩ := ab_gE h; exact (hK _ _ _ _ _ h :)
  | ineg => obtain ⟨_, _, -, h⟩ := ab_piE h; exact (hK _ _ _ _ _ h :)
  | i2l => obtain ⟨_, _, -, h⟩ := ab_piE h; exact (hK _ _ _ _ _ h :)
  | i2c => obtain ⟨_, _, -, h⟩ := ab_piE h; exact (hK _ _ _ _ _ h :)
  | l2i => obtain ⟨_, _, -, h⟩ := ab_plE h; exact (hK _ _ _ _ _ h :)
  | ladd => obtain ⟨_, _, -, h⟩ := ab_plE h; obtain ⟨_, _, -, h⟩ := ab_plE h; exact (hK _ _ _ _ _ h :)
  | lsub => obtain ⟨_, _, -, h⟩ := ab_plE h; obtain ⟨_, _, -, h⟩ := ab_plE h; exact (hK _ _ _ _ _ h :)
  | lmul => obtain ⟨_, _, -, h⟩ := ab_plE h; obtain ⟨_, _, -, h⟩ := ab_plE h; exact (hK _ _ _ _ _ h :)
  | land => obtain ⟨_, _, -, h⟩ := ab_plE h; obtain ⟨_, _, -, h⟩ := ab_plE h; exact (hK _ _ _ _ _ h :)
  | lor => obtain ⟨_, _, -, h⟩ := ab_plE h; obtain ⟨_, _, -, h⟩ := ab_plE h; exact (hK _ _ _ _ _ h :)
  | lxor => obtain ⟨_, _, -, h⟩ := ab_plE h; obtain ⟨_, _, -, h⟩ := ab_plE h; exact (hK _ _ _ _ _ h :)
  | lcmp => obtain ⟨_, _, -, h⟩ := ab_plE h; obtain ⟨_, _, -, h⟩ := ab_plE h; exact (hK _ _ _ _ _ h :)
  | lshl => obtain ⟨_, _, -, h⟩ := ab_piE h; obtain ⟨_, _, -, h⟩ := ab_plE h; exact (hK _ _ _ _ _ h :)
  | lshr => obtain ⟨_, _, -, h⟩ := ab_piE h; obtain ⟨_, _, -, h⟩ := ab_plE h; exact (hK _ _ _ _ _ h :)
  | lushr => obtain ⟨_, _, -, h⟩ := ab_piE h; obtain ⟨_, _, -, h⟩ := ab_plE h; exact (hK _ _ _ _ _ h :)
  | dup2 => obtain ⟨_, _, -, h⟩ := ab_piE h; obtain ⟨_, _, -, h⟩ := ab_prE h; exact (hK _ _ _ _ _ h :)
  | getfield i => obtain ⟨_, _, -, h⟩ := ab_prE h; obtain ⟨_, h⟩ := ab_gE h; exact (hK _ _ _ _ _ h :)
  | getstatic i => exact (hK _ _ _ _ _ h :)
  | arraylength => obtain ⟨_, _, -, h⟩ := ab_prE h; obtain ⟨_, h⟩ := ab_gE h; exact (hK _ _ _ _ _ h :)
  | iaload => obtain ⟨_, _, -, h⟩ := ab_piE h; obtain ⟨_, _, -, h⟩ := ab_prE h; obtain ⟨_, h⟩ := ab_gE h; obtain ⟨_, h⟩ := ab_gE h; exact (hK _ _ _ _ _ h :)
  | laload => obtain ⟨_, _, -, h⟩ := ab_piE h; obtain ⟨_, _, -, h⟩ := ab_prE h; obtain ⟨_, h⟩ := ab_gE h; obtain ⟨_, h⟩ := ab_gE h; exact (hK _ _ _ _ _ h :)
  | caload => obtain ⟨_, _, -, h⟩ := ab_piE h; obtain ⟨_, _, -, h⟩ := ab_prE h; obtain ⟨_, h⟩ := ab_gE h; obtain ⟨_, h⟩ := ab_gE h; exact (hK _ _ _ _ _ h :)
  | baload => obtain ⟨_, _, -, h⟩ := ab_piE h; obtain ⟨_, _, -, h⟩ := ab_prE h; obtain ⟨_, h⟩ := ab_gE h; obtain ⟨_, h⟩ := ab_gE h; exact (hK _ _ _ _ _ h :)
  | aaload => obtain ⟨_, _, -, h⟩ := ab_piE h; obtain ⟨_, _, -, h⟩ := ab_prE h; obtain ⟨_, h⟩ := ab_gE h; obtain ⟨_, h⟩ := ab_gE h; exact (hK _ _ _ _ _ h :)
  | iastore => obtain ⟨_, _, -, h⟩ := ab_piE h; obtain ⟨_, _, -, h⟩ := ab_piE h; obtain ⟨_, _, -, h⟩ := ab_prE h; obtain ⟨_, h⟩ := ab_gE h; obtain ⟨_, h⟩ := ab_gE h; exact (hK _ _ _ _ _ h :)
  | lastore => obtain ⟨_, _, -, h⟩ := ab_plE h; obtain ⟨_, _, -, h⟩ := ab_piE h; obtain ⟨_, _, -, h⟩ := ab_prE h; obtain ⟨_, h⟩ := ab_gE h; obtain ⟨_, h⟩ := ab_gE h; exact (hK _ _ _ _ _ h :)
  | castore => obtain ⟨_, _, -, h⟩ := ab_piE h; obtain ⟨_, _, -, h⟩ := ab_piE h; obtain ⟨_, _, -, h⟩ := ab_prE h; obtain ⟨_, h⟩ := ab_gE h; obtain ⟨_, h⟩ := ab_gE h; exact (hK _ _ _ _ _ h :)
  | bastore => obtain ⟨_, _, -, h⟩ := ab_piE h; obtain ⟨_, _, -, h⟩ := ab_piE h; obtain ⟨_, _, -, h⟩ := ab_prE h; obtain ⟨_, h⟩ := ab_gE h; obtain ⟨_, h⟩ := ab_gE h; exact (hK _ _ _ _ _ h :)
  | aastore => obtain ⟨_, _, -, h⟩ := ab_prE h; obtain ⟨_, _, -, h⟩ := ab_piE h; obtain ⟨_, _, -, h⟩ := ab_prE h; obtain ⟨_, h⟩ := ab_gE h; obtain ⟨_, h⟩ := ab_gE h; exact (hK _ _ _ _ _ h :)
  | ldc_w i =>
    unfold ab_ex at h
    dsimp only at h
    split at h
    · cases h
    · exact (hK _ _ _ _ _ h :)
  | ldc2_w i =>
    unfold ab_ex at h
    dsimp only at h
    split at h
    · cases h
    · exact (hK _ _ _ _ _ h :)
  | dup =>
    unfold ab_ex at h
    dsimp only at h
    split at h
    · exact (hK _ _ _ _ _ h :)
    · exact (hK _ _ _ _ _ h :)
    · cases h
  | pop =>
    unfold ab_ex at h
    dsimp only at h
    split at h
    · exact (hK _ _ _ _ _ h :)
    · exact (hK _ _ _ _ _ h :)
    · cases h
  | ifCond c o =>
    obtain ⟨_, _, -, h⟩ := ab_piE h
    rcases ab_czE h with h | h <;> exact (hK _ _ _ _ _ h :)
  | if_icmp c o =>
    obtain ⟨_, _, -, h⟩ := ab_piE h
    obtain ⟨_, _, -, h⟩ := ab_piE h
    rcases ab_czE h with h | h <;> exact (hK _ _ _ _ _ h :)
  | tableswitch df lo hi offs =>
    obtain ⟨_, _, -, h⟩ := ab_piE h
    obtain ⟨t, h⟩ := ab_swE _ h
    exact (hK _ _ _ _ _ h :)
  | lookupswitch df ps =>
    obtain ⟨_, _, -, h⟩ := ab_piE h
    obtain ⟨t, h⟩ := ab_swE _ h
    exact (hK _ _ _ _ _ h :)
  | putfield i =>
    unfold ab_ex at h
    dsimp only at h
    split at h
    · obtain ⟨_, _, -, h⟩ := ab_piE h; obtain ⟨_, _, -, h⟩ := ab_prE h; obtain ⟨_, h⟩ := ab_gE h; exact (hK _ _ _ _ _ h :)
    · obtain ⟨_, _, -, h⟩ := ab_piE h; obtain ⟨_, _, -, h⟩ := ab_prE h; obtain ⟨_, h⟩ := ab_gE h; exact (hK _ _ _ _ _ h :)
    · obtain ⟨_, _, -, h⟩ := ab_prE h; obtain ⟨_, _, -, h⟩ := ab_prE h; obtain ⟨_, h⟩ := ab_gE h; exact (hK _ _ _ _ _ h :)
    · obtain ⟨_, _, -, h⟩ := ab_prE h; obtain ⟨_, _, -, h⟩ := ab_prE h; obtain ⟨_, h⟩ := ab_gE h; exact (hK _ _ _ _ _ h :)
  | new i =>
    unfold ab_ex at h
    dsimp only at h
    split at h
    · obtain ⟨_, h⟩ := ab_gE h
      have := hK _ _ _ _ _ h
      exact ⟨Nat.le_trans (Nat.le_succ _) this.1, Nat.le_trans (Nat.le_add_right _ _) this.2⟩
    · obtain ⟨_, h⟩ := ab_gE h
      cases h
      exact ⟨Nat.le_succ _, Nat.le_add_right _ _⟩
    · cases h
  | newarray t =>
    obtain ⟨_, _, -, h⟩ := ab_piE h
    obtain ⟨_, h⟩ := ab_gE h
    have := hK _ _ _ _ _ h
    exact ⟨Nat.le_trans (Nat.le_succ _) this.1, Nat.le_trans (Nat.le_add_right _ _) this.2⟩
  | anewarray i =>
    obtain ⟨_, _, -, h⟩ := ab_piE h
    obtain ⟨_, h⟩ := ab_gE h
    have := hK _ _ _ _ _ h
    exact ⟨Nat.le_trans (Nat.le_succ _) this.1, Nat.le_trans (Nat.le_add_right _ _) this.2⟩
  | invokevirtual i =>
    obtain ⟨_, h⟩ := ab_gE h
    obtain ⟨_, h⟩ := ab_gE h
    exact ab_doM hK hC h
  | invokestatic i =>
    unfold ab_ex at h
    dsimp only at h
    split at h
    · exact ab_doM hK hC h
    · obtain ⟨_, _, -, h⟩ := ab_piE h; obtain ⟨_, _, -, h⟩ := ab_piE h; obtain ⟨_, _, -, h⟩ := ab_prE h; obtain ⟨_, _, -, h⟩ := ab_piE h; obtain ⟨_, _, -, h⟩ := ab_prE h
      obtain ⟨_, h⟩ := ab_gE h; obtain ⟨_, h⟩ := ab_gE h
      exact (hK _ _ _ _ _ h :)
    · cases h
  | invokespecial i =>
    unfold ab_ex at h
    dsimp only at h
    split at h
    · obtain ⟨_, h⟩ := ab_gE h
      exact ab_doM hK hC h
    · obtain ⟨_, _, -, h⟩ := ab_prE h
      obtain ⟨_, h⟩ := ab_gE h
      exact (hK _ _ _ _ _ h :)
    · cases h
  | ireturn =>
    unfold ab_ex at h
    dsimp only at h
    split at h
    · split at h <;> first | (cases h; exact ⟨Nat.le_refl _, Nat.le_refl _⟩) | cases h
    · cases h
  | lreturn =>
    unfold ab_ex at h
    dsimp only at h
    split at h
    · cases hb : Nat.beq (ab_ret k) 2 with
      | true => rw [hb] at h; cases h; exact ⟨Nat.le_refl _, Nat.le_refl _⟩
      | false => rw [hb] at h; cases h
    · cases h
  | areturn =>
    unfold ab_ex at h
    dsimp only at h
    split at h
    · cases hb : Nat.beq (ab_ret k) 3 with
      | true => rw [hb] at h; cases h; exact ⟨Nat.le_refl _, Nat.le_refl _⟩
      | false => rw [hb] at h; cases h
    · cases h
  | return_ =>
    unfold ab_ex at h
    dsimp only at h
    split at h
    · cases hb : Nat.beq (ab_ret k) 0 with
      | true => rw [hb] at h; cases h; exact ⟨Nat.le_refl _, Nat.le_refl _⟩
      | false => rw [hb] at h; cases h
    · cases h
  | _ => exact nomatch (show (none : ab_R) = some r from h)
theorem ab_mono (q : Nat) : ∀ (n d k pc : Nat) (L : ab_L) (st : List ab_V) (S : ab_S) (r : ab_O × ab_S), ab_run q n d k pc L st S = some r → ab_le S r.2
  | 0, _, _, _, _, _, _, _, h => nomatch (show (none : ab_R) = some _ from h)
  | n + 1, d, k, pc, L, st, S, r, h => by
    unfold ab_run at h
    split at h
    · cases h
    · refine ab_exM (fun pc L st S r h => ab_mono q n _ _ _ _ _ _ _ h) (fun j L S r h => ?_) h
      split at h
      · cases h
      · exact ab_mono q n _ _ _ _ _ _ _ h

end ab_step
