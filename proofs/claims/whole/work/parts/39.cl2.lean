-- Sets of rules, in the class and in the reference.
def isSh (r : Nat) : Prop := r = 14 ∨ r = 25 ∨ r = 36 ∨ r = 47 ∨ r = 58 ∨ r = 69 ∨ r = 80 ∨ r = 91 ∨ r = 103
theorem ok_sh {r : Nat} (h : isSh r) {k : Nat} (hk : ab_md k = true) (S : ab_S) : ab_ok k S r 12 = true := by
  unfold ab_ok
  rw [hk]
  rcases h with h | h | h | h | h | h | h | h | h <;> subst h <;> rfl
theorem and_p (s i : Nat) : s &&& 2 ^ i = if s.testBit i = true then 2 ^ i else 0 := by
  apply Nat.eq_of_testBit_eq
  intro j
  rw [Nat.testBit_and, Nat.testBit_two_pow]
  by_cases h : i = j
  · subst h
    by_cases g : s.testBit i = true
    · rw [if_pos g, g, Nat.testBit_two_pow_self, decide_eq_true rfl]
      rfl
    · rw [if_neg g, Nat.zero_testBit, (Bool.not_eq_true _).mp g]
      rfl
  · rw [decide_eq_false h, Bool.and_false]
    split
    · rw [Nat.testBit_two_pow, decide_eq_false h]
    · rw [Nat.zero_testBit]
theorem p2_8 {i : Nat} (h : i < 8) : 2 ^ i < 256 := Nat.pow_lt_pow_right (by decide) (show i < 8 from h)
theorem has_v (q d : Nat) {s i : Nat} (hs : s < 256) (hi : i < 8) (S : ab_S) : v_61_0 q d (n32 s) (n32 i) S = some ((0, n32 (s.testBit i).toNat, 0, 0), S) := by
  have p := p2_8 hi
  have p0 : 0 < 2 ^ i := Nat.two_pow_pos i
  rw [e_61_0, n32_shl _ (by omega), Nat.one_mul, n32_and, and_p]
  by_cases g : s.testBit i = true
  · rw [if_pos g, i_eq (by omega) (by omega), if_neg (by omega), e_61_13, nz_1, g]
    rfl
  · rw [if_neg g, if_pos rfl, e_61_13, nz_0, (Bool.not_eq_true _).mp g]
    rfl
theorem bit_v {s i : Nat} (hs : s < 256) (hi : i < 8) : (n32 s >>> (n32 i &&& 31)) &&& n32 1 = n32 (s.testBit i).toNat := by
  rw [n32_shr (by omega) (by omega), n32_and, Nat.and_one_is_mod, Nat.shiftRight_eq_div_pow, Nat.toNat_testBit]
theorem i_b1 {α : Type} (b : Bool) (x y : α) : (if n32 b.toNat = n32 1 then x else y) = if b = true then x else y := by cases b <;> rfl
def cRl (D : Nat → Bool) (L B : Nat → Nat) (S : ab_S) : Prop := ∀ i, i < 8 → isSh (S.2.2.1 13 i) ∧ S.1 (S.2.2.1 13 i) 10 = n32 (D i).toNat ∧ S.1 (S.2.2.1 13 i) 13 = n32 (L i) ∧ S.1 (S.2.2.1 13 i) 14 = n32 (B i)
theorem onc_v (q d : Nat) {D : Nat → Bool} {L B : Nat → Nat} {S : ab_S} (h : cRl D L B S) (bar : Bool) {s : Nat} (hs : s < 256) : ∀ m i a, i + m = 8 → v_58_5 q (d + 1) (n32 s) (n32 bar.toNat) (n32 a) (n32 i) S = some ((0, n32 (onc (bif bar then B else L) s m i a), 0, 0), S)
  | 0, i, a, e => by
    rw [e_58_5, if_neg (by rw [n32_lt (by omega) (by omega)]; omega)]
    rfl
  | m + 1, i, a, e => by
    have hi := h i (by omega)
    rw [e_58_5, if_pos (by rw [n32_lt (by omega) (by omega)]; omega), has_v q d hs (by omega), cI_0, i_bz, n32_in (by omega) (by omega), g_t, n32_cl (by omega), ok_sh hi.1 rfl, g_t, i_bz, g_t, g_t, hi.2.2.1, hi.2.2.2, e_58_49, e_58_49, n32_or, n32_or, e_58_51, e_58_51, e_58_51, n32_add]
    unfold onc
    by_cases g : s.testBit i = true
    · rw [if_pos g, if_pos g]
      cases bar with
      | true => exact (if_pos rfl).trans (onc_v q d h true hs m (i + 1) _ (by omega))
      | false => exact (if_neg (by decide)).trans (onc_v q d h false hs m (i + 1) _ (by omega))
    · rw [if_neg g, if_neg g]
      exact onc_v q d h bar hs m (i + 1) _ (by omega)
theorem onc_p (L : Nat → Nat) {r : Nat} (h : r < 8) : onc L (2 ^ r) 8 0 0 = L r := by
  have k := onc_sb (L := L) (2 ^ r) 8 0 0
  apply sb_as (k.2.2 (L r) (sb_0 _) (fun j _ _ x => ?_)) (k.2.1 r (by omega) (by omega) Nat.testBit_two_pow_self)
  rw [Nat.testBit_two_pow, decide_eq_true_iff] at x
  rw [← x]
  exact sb_rf _
theorem led_v (q d : Nat) {D : Nat → Bool} {L B : Nat → Nat} {S : ab_S} (h : cRl D L B S) (hL : ∀ i, i < 8 → L i < 256) (hB : ∀ i, i < 8 → B i < 256) (bar : Bool) : ∀ m i f b, i + m = 8 → f < 256 → b < 256 → v_57_15 q (d + 2) (n32 bar.toNat) (n32 f) (n32 b) (n32 i) S = some ((0, n32 (led (bif bar then B else L) m f b), 0, 0), S)
  | 0, i, f, b, e, hf, hb => by
    rw [e_57_15, if_neg (by rw [n32_lt (by omega) (by omega)]; omega), e_57_46]
    rfl
  | m + 1, i, f, b, e, hf, hb => by
    have hX : ∀ i, i < 8 → (bif bar then B else L) i < 256 := by cases bar; exact hL; exact hB
    rw [e_57_15, if_pos (by rw [n32_lt (by omega) (by omega)]; omega), i_eq (by omega) (by omega)]
    unfold led
    by_cases g : f = b
    · rw [if_pos g, if_pos g, e_57_46]
    · rw [if_neg g, if_neg g, e_58_0, onc_v q d h bar hf 8 0 0 rfl, cI_0, n32_or, n32_add]
      exact led_v q d h hL hB bar m (i + 1) _ _ (by omega) (or_256 hf (onc_lt hX f 8 0 0 rfl (by decide))) hf
theorem ldt_v (q d : Nat) {D : Nat → Bool} {L B : Nat → Nat} {S : ab_S} (h : cRl D L B S) (hL : ∀ i, i < 8 → L i < 256) (hB : ∀ i, i < 8 → B i < 256) (bar : Bool) {r : Nat} (hr : r < 8) : v_57_0 q (d + 2) (n32 r) (n32 bar.toNat) S = some ((0, n32 (cl (bif bar then B else L) ((bif bar then B else L) r)), 0, 0), S) := by
  have hX : ∀ i, i < 8 → (bif bar then B else L) i < 256 := by cases bar; exact hL; exact hB
  rw [e_57_0, n32_shl _ (by omega), Nat.one_mul, e_58_0, onc_v q d h bar (p2_8 hr) 8 0 0 rfl, cI_0, onc_p _ hr, led_v q d h hL hB bar 8 0 _ 0 rfl (hX r hr) (by decide), led_cl hX (hX r hr)]
theorem anyF_s (P : Nat → Bool) (m i : Nat) : anyF P (m + 1) i = (P i || anyF P m (i + 1)) := rfl
theorem def_v (q d : Nat) {D : Nat → Bool} {L B : Nat → Nat} {S : ab_S} (h : cRl D L B S) {s : Nat} (hs : s < 256) : ∀ m i, i + m = 8 → v_59_2 q (d + 1) (n32 s) (n32 i) S = some ((0, n32 (!anyF (fun i => s.testBit i && !D i) m i).toNat, 0, 0), S)
  | 0, i, e => by
    rw [e_59_2, if_neg (by rw [n32_lt (by omega) (by omega)]; omega)]
    rfl
  | m + 1, i, e => by
    have hi := h i (by omega)
    rw [e_59_2, if_pos (by rw [n32_lt (by omega) (by omega)]; omega), has_v q d hs (by omega), cI_0, i_bz, n32_in (by omega) (by omega), g_t, n32_cl (by omega), ok_sh hi.1 rfl, g_t, hi.2.1, i_bz, e_59_30, n32_add, def_v q d h hs m (i + 1) (by omega)]
    rw [anyF_s]
    cases s.testBit i with
    | false => rfl
    | true =>
      cases D i with
      | false => rfl
      | true => rfl
theorem cmb_v (q d : Nat) {D : Nat → Bool} {L B : Nat → Nat} {S : ab_S} (h : cRl D L B S) (hL : ∀ i, i < 8 → L i < 256) (hB : ∀ i, i < 8 → B i < 256) {s : Nat} (hs : s < 256) : ∀ m i, i + m = 8 → v_60_2 q (d + 3) (n32 s) (n32 i) S = some ((0, n32 (anyF (fun i => s.testBit i && (cl B (B i)).testBit i) m i).toNat, 0, 0), S)
  | 0, i, e => by
    rw [e_60_2, if_neg (by rw [n32_lt (by omega) (by omega)]; omega)]
    rfl
  | m + 1, i, e => by
    have l : v_57_0 q (d + 2) (n32 i) (n32 (true).toNat) S = some ((0, n32 (cl B (B i)), 0, 0), S) := ldt_v q d h hL hB true (by omega : i < 8)
    rw [e_60_2, if_pos (by rw [n32_lt (by omega) (by omega)]; omega), has_v q _ hs (by omega), cI_0, i_bz, show n32 1 = n32 (true).toNat from rfl, l, cI_0, has_v q _ (cl_lt hB (hB i (by omega))) (by omega), cI_0, i_bz, e_60_31, show n32 (true).toNat = n32 1 from rfl, n32_add, cmb_v q d h hL hB hs m (i + 1) (by omega)]
    rw [anyF_s]
    cases s.testBit i with
    | false => rfl
    | true =>
      show (if true = true then (if (cl B (B i)).testBit i = true then _ else _) else _) = _
      rw [if_pos rfl]
      cases (cl B (B i)).testBit i with
      | false => rfl
      | true => rfl
/-- the reference's word for what is wrong with a rule's rules -/
def snd (D : Nat → Bool) (L B : Nat → Nat) (r : Nat) : Nat := if anyF (fun i => (cl L (2 ^ r)).testBit i && !D i) 8 0 = true then 2 else if anyF (fun i => (cl L (2 ^ r)).testBit i && (cl B (B i)).testBit i) 8 0 = true then 3 else 0
theorem i_nb {α : Type} (b : Bool) (x y : α) : (if n32 (!b).toNat = n32 0 then x else y) = if b = true then x else y := by cases b <;> rfl
theorem snd_v (q d : Nat) {D : Nat → Bool} {L B : Nat → Nat} {S : ab_S} (h : cRl D L B S) (hL : ∀ i, i < 8 → L i < 256) (hB : ∀ i, i < 8 → B i < 256) {r : Nat} (hr : r < 8) : v_19_0 q (d + 4) (n32 r) S = if snd D L B r = 0 then some ((0, n32 (cl L (2 ^ r)), 0, 0), S) else some ((snd D L B r + 1, 0, 0, 0), ab_wx S) := by
  have c := cl_lt hL (p2_8 hr)
  have l : v_57_0 q (d + 3) (n32 r) (n32 (false).toNat) S = some ((0, n32 (cl L (L r)), 0, 0), S) := ldt_v q (d + 1) h hL hB false hr
  rw [e_19_0, e_16_0, if_neg (by rw [n32_lt (by omega) (by omega)]; omega), if_pos (by rw [n32_lt (by omega) (by omega)]; omega), cV_0, show n32 0 = n32 (false).toNat from rfl, l, cI_0, n32_shl _ (by omega), Nat.one_mul, n32_or, ← cl_p hL hr, e_59_0, def_v q _ h c 8 0 rfl, cI_0, show n32 (false).toNat = n32 0 from rfl, i_nb, e_60_0, cmb_v q d h hL hB c 8 0 rfl, cI_0, i_bz]
  unfold snd
  cases anyF (fun i => (cl L (2 ^ r)).testBit i && !D i) 8 0 with
  | true => rfl
  | false =>
    cases anyF (fun i => (cl L (2 ^ r)).testBit i && (cl B (B i)).testBit i) 8 0 with
    | true => rfl
    | false => rfl
theorem bc_256 : ∀ n, n < 256 → ∀ q d S, v_131_0 q d (n32 n) S = some ((0, n32 (cd n), 0, 0), S) := by
  intro n hn q d S
  rw [e_131_0]
  congr 3
  revert n
  decide +kernel
