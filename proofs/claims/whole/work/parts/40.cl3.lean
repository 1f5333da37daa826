-- Sets of rules in the reference; check.
def rRl (D : Nat → Bool) (L B : Nat → Nat) (S : ab_S) : Prop := ∀ i, i < 8 → S.1 120 i = n32 (D i).toNat ∧ (D i = true → S.1 123 i = n32 (L i) ∧ S.1 124 i = n32 (B i)) ∧ (D i = false → L i = 0 ∧ B i = 0)
theorem pas_s (L : Nat → Nat) (m r a : Nat) : pas L (m + 1) r a = pas L m (r + 1) (if a.testBit r = true then a ||| L r else a) := rfl
theorem pas_v (q d : Nat) {D : Nat → Bool} {L B : Nat → Nat} {S : ab_S} (h : rRl D L B S) (hL : ∀ i, i < 8 → L i < 256) (hB : ∀ i, i < 8 → B i < 256) (bar : Bool) (u4 : Int32) : ∀ m i a, i + m = 8 → a < 256 → v_98_15 q d (n32 bar.toNat) (n32 a) u4 (n32 i) S = v_98_5 q d (n32 bar.toNat) (n32 (pas (bif bar then B else L) m i a)) (u4 + n32 1) S
  | 0, i, a, e, ha => by
    rw [e_98_15, if_neg (by rw [n32_lt (by omega) (by omega)]; omega)]
    rfl
  | m + 1, i, a, e, ha => by
    have hi := h i (by omega)
    have hX : ∀ i, i < 8 → (bif bar then B else L) i < 256 := by cases bar; exact hL; exact hB
    have nx : v_98_66 q d (n32 bar.toNat) (n32 a) u4 (n32 i) S = v_98_5 q d (n32 bar.toNat) (n32 (pas (bif bar then B else L) m (i + 1) a)) (u4 + n32 1) S := by
      rw [e_98_66, n32_add]
      exact pas_v q d h hL hB bar u4 m (i + 1) a (by omega) ha
    rw [e_98_15, if_pos (by rw [n32_lt (by omega) (by omega)]; omega), bit_v ha (by omega), i_b1, n32_in (by omega) (by omega), g_t, n32_cl (by omega), hi.1, i_bz, n32_in (by omega) (by omega), g_t, g_t, pas_s]
    cases hb : a.testBit i with
    | false => exact nx
    | true =>
      rw [if_pos rfl, if_pos rfl]
      cases hD : D i with
      | false =>
        rw [if_neg (by decide)]
        have z := hi.2.2 hD
        have : (bif bar then B else L) i = 0 := by cases bar; exact z.1; exact z.2
        rw [this, Nat.or_zero]
        exact nx
      | true =>
        rw [if_pos rfl, i_bz, (hi.2.1 hD).1, (hi.2.1 hD).2, e_98_64, e_98_64, n32_or, n32_or, e_98_66, e_98_66, n32_add]
        cases bar with
        | true => exact (if_pos rfl).trans (pas_v q d h hL hB true u4 m (i + 1) _ (by omega) (or_256 ha (hX i (by omega))))
        | false => exact (if_neg (by decide)).trans (pas_v q d h hL hB false u4 m (i + 1) _ (by omega) (or_256 ha (hX i (by omega))))
theorem trn_v (q d : Nat) {D : Nat → Bool} {L B : Nat → Nat} {S : ab_S} (h : rRl D L B S) (hL : ∀ i, i < 8 → L i < 256) (hB : ∀ i, i < 8 → B i < 256) (bar : Bool) : ∀ m i a, i + m = 8 → a < 256 → v_98_5 q d (n32 bar.toNat) (n32 a) (n32 i) S = some ((0, n32 (trn (bif bar then B else L) m a), 0, 0), S)
  | 0, i, a, e, ha => by
    rw [e_98_5, if_neg (by rw [n32_lt (by omega) (by omega)]; omega)]
    rfl
  | m + 1, i, a, e, ha => by
    have hX : ∀ i, i < 8 → (bif bar then B else L) i < 256 := by cases bar; exact hL; exact hB
    rw [e_98_5, if_pos (by rw [n32_lt (by omega) (by omega)]; omega), pas_v q d h hL hB bar _ 8 0 a rfl ha, n32_add]
    exact trn_v q d h hL hB bar m (i + 1) _ (by omega) (pas_lt hX 8 0 a rfl ha)
theorem rcl_v (q d : Nat) {D : Nat → Bool} {L B : Nat → Nat} {S : ab_S} (h : rRl D L B S) (hL : ∀ i, i < 8 → L i < 256) (hB : ∀ i, i < 8 → B i < 256) (bar : Bool) {s : Nat} (hs : s < 256) : v_98_0 q d (n32 s) (n32 bar.toNat) S = some ((0, n32 (cl (bif bar then B else L) s), 0, 0), S) := by
  rw [e_98_0]
  exact trn_v q d h hL hB bar 8 0 s rfl hs
theorem rm_v (q d : Nat) {D : Nat → Bool} {L B : Nat → Nat} {S : ab_S} (h : rRl D L B S) {s : Nat} (hs : s < 256) (u3 : Int32) : ∀ m i, i + m = 8 → v_99_26 q (d + 1) (n32 s) u3 (n32 i) S = if anyF (fun i => s.testBit i && !D i) m i = true then some ((0, n32 2, 0, 0), S) else v_99_64 q (d + 1) (n32 s) u3 (n32 0) S
  | 0, i, e => by
    rw [e_99_26, if_neg (by rw [n32_lt (by omega) (by omega)]; omega)]
    rfl
  | m + 1, i, e => by
    have hi := h i (by omega)
    rw [e_99_26, if_pos (by rw [n32_lt (by omega) (by omega)]; omega), bit_v hs (by omega), i_b1, n32_in (by omega) (by omega), g_t, n32_cl (by omega), hi.1, i_bz, e_99_55, n32_add, rm_v q d h hs u3 m (i + 1) (by omega), anyF_s]
    cases s.testBit i with
    | false => rfl
    | true =>
      cases D i with
      | false => rfl
      | true => rfl
theorem rc_v (q d : Nat) {D : Nat → Bool} {L B : Nat → Nat} {S : ab_S} (h : rRl D L B S) (hL : ∀ i, i < 8 → L i < 256) (hB : ∀ i, i < 8 → B i < 256) {s : Nat} (hs : s < 256) : ∀ m i (f : Bool), i + m = 8 → (∀ j, i ≤ j → j < 8 → s.testBit j = true → D j = true) → v_99_64 q (d + 1) (n32 s) (n32 (bif f then 3 else 0)) (n32 i) S = some ((0, n32 (bif f || anyF (fun i => s.testBit i && (cl B (B i)).testBit i) m i then 3 else 0), 0, 0), S)
  | 0, i, f, e, hd => by
    rw [e_99_64, if_neg (by rw [n32_lt (by omega) (by omega)]; omega)]
    cases f <;> rfl
  | m + 1, i, f, e, hd => by
    have hi := h i (by omega)
    have ih (f : Bool) : v_99_104 q (d + 1) (n32 s) (n32 (bif f then 3 else 0)) (n32 i) S = some ((0, n32 (bif f || anyF (fun i => s.testBit i && (cl B (B i)).testBit i) m (i + 1) then 3 else 0), 0, 0), S) := by
      rw [e_99_104, n32_add]
      exact rc_v q d h hL hB hs m (i + 1) f (by omega) (fun j a b => hd j (by omega) b)
    rw [e_99_64, if_pos (by rw [n32_lt (by omega) (by omega)]; omega), bit_v hs (by omega), i_b1, n32_in (by omega) (by omega), g_t, n32_cl (by omega), anyF_s]
    cases hb : s.testBit i with
    | false =>
      rw [if_neg (by decide), ih f]
      rfl
    | true =>
      have hD := hd i (by omega) (by omega) hb
      rw [if_pos rfl, (hi.2.1 hD).2, show n32 1 = n32 (true).toNat from rfl, rcl_v q d h hL hB true (hB i (by omega)), cI_0]
      show (if n32 (cl B (B i)) >>> (n32 i &&& 31) &&& n32 1 = n32 1 then v_99_104 q (d + 1) (n32 s) (n32 (bif true then 3 else 0)) (n32 i) S else _) = _
      rw [bit_v (cl_lt hB (hB i (by omega))) (by omega), i_b1, ih true, ih f]
      cases (cl B (B i)).testBit i with
      | false => rfl
      | true => cases f <;> rfl
theorem anyF_f {P : Nat → Bool} : ∀ m i, anyF P m i = false → ∀ j, i ≤ j → j < i + m → P j = false
  | 0, i, _, j, h1, h2 => absurd h2 (by omega)
  | m + 1, i, h, j, h1, h2 => by
    rw [anyF_s, Bool.or_eq_false_iff] at h
    by_cases e : j = i
    · rw [e]; exact h.1
    · exact anyF_f m (i + 1) h.2 j (by omega) (by omega)
theorem rsn_v (q d : Nat) {D : Nat → Bool} {L B : Nat → Nat} {S : ab_S} (h : rRl D L B S) (hL : ∀ i, i < 8 → L i < 256) (hB : ∀ i, i < 8 → B i < 256) {r : Nat} (hr : r < 8) : v_99_0 q (d + 1) (n32 r) S = some ((0, n32 (snd D L B r), 0, 0), S) := by
  have c := cl_lt hL (p2_8 hr)
  have l : v_98_0 q d (n32 (2 ^ r)) (n32 0) S = some ((0, n32 (cl L (2 ^ r)), 0, 0), S) := rcl_v q d h hL hB false (p2_8 hr)
  rw [e_99_0, if_neg (by rw [n32_lt (by omega) (by omega)]; omega), if_neg (by rw [n32_lt (by omega) (by omega)]; omega), n32_shl _ (by omega), Nat.one_mul, l, cI_0, rm_v q d h c _ 8 0 rfl]
  unfold snd
  cases hm : anyF (fun i => (cl L (2 ^ r)).testBit i && !D i) 8 0 with
  | true => rfl
  | false =>
    have k := rc_v q d h hL hB c 8 0 false rfl (fun j _ hj x => by
      have := anyF_f 8 0 hm j (by omega) (by omega)
      rw [x, Bool.true_and] at this
      cases hD : D j with
      | true => rfl
      | false => rw [hD] at this; cases this)
    rw [if_neg (by decide), if_neg (by decide)]
    refine Eq.trans k ?_
    cases anyF (fun i => (cl L (2 ^ r)).testBit i && (cl B (B i)).testBit i) 8 0 with
    | true => rfl
    | false => rfl
theorem ix_r (u : Int32) : (∃ r, r < 8 ∧ u = n32 r) ∨ ((∀ r, r < 8 → u ≠ n32 r) ∧ (u < n32 0 ∨ (¬ u < n32 0 ∧ ¬ u < n32 8 ∧ n32 7 < u))) := by
  rcases ix_c u (by decide : 8 ≤ 24) with h | ⟨h, g | ⟨g, k⟩⟩
  · exact Or.inl h
  · exact Or.inr ⟨h, Or.inl g⟩
  · refine Or.inr ⟨h, Or.inr ⟨g, k, ?_⟩⟩
    rw [Int32.lt_iff_toInt_lt, n32_int (by omega)] at k ⊢
    omega
theorem rsn_x (q d : Nat) {u : Int32} (h : u < n32 0 ∨ (¬ u < n32 0 ∧ ¬ u < n32 8 ∧ n32 7 < u)) (S : ab_S) : v_99_0 q (d + 1) u S = some ((0, n32 1, 0, 0), S) := by
  rw [e_99_0, e_99_10]
  rcases h with h | ⟨h, _, g⟩
  · rw [if_pos h]
  · rw [if_neg h, if_pos g]
theorem snd_x (q d : Nat) {u : Int32} (h : u < n32 0 ∨ (¬ u < n32 0 ∧ ¬ u < n32 8 ∧ n32 7 < u)) (S : ab_S) : v_19_0 q (d + 2) u S = some ((2, 0, 0, 0), ab_wx S) := by
  rw [e_19_0, e_16_0, e_16_10]
  rcases h with h | ⟨h, g, _⟩
  · rw [if_pos h, cV_x (by omega)]
  · rw [if_neg h, if_neg g, cV_x (by omega)]
def cdl (t : Nat) : Nat → Nat → Nat → Nat
  | 0, _, a => a
  | m + 1, i, a => cdl t m (i + 1) (a + (t.testBit i).toNat)
theorem cdl_8 (t : Nat) : cdl t 8 0 0 = cd t := by
  show 0 + (t.testBit 0).toNat + (t.testBit 1).toNat + (t.testBit 2).toNat + (t.testBit 3).toNat + (t.testBit 4).toNat + (t.testBit 5).toNat + (t.testBit 6).toNat + (t.testBit 7).toNat = _
  rw [Nat.zero_add]
  rfl
theorem rck_lp (q d : Nat) {D : Nat → Bool} {L B : Nat → Nat} {S : ab_S} (h : rRl D L B S) (hL : ∀ i, i < 8 → L i < 256) (hB : ∀ i, i < 8 → B i < 256) (hz : S.1 117 0 = n32 0) {r : Nat} (hr : r < 8) : ∀ m i a, i + m = 8 → v_100_13 q (d + 1) (n32 r) (n32 a) (n32 i) S = some ((0, n32 (cdl (cl L (2 ^ r)) m i a), 0, 0), S)
  | 0, i, a, e => by
    rw [e_100_13, if_neg (by rw [n32_lt (by omega) (by omega)]; omega), e_100_47]
    rfl
  | m + 1, i, a, e => by
    have l : v_98_0 q d (n32 (2 ^ r)) (n32 0) S = some ((0, n32 (cl L (2 ^ r)), 0, 0), S) := rcl_v q d h hL hB false (p2_8 hr)
    rw [e_100_13, if_pos (by rw [n32_lt (by omega) (by omega)]; omega), hz, if_pos rfl, n32_shl _ (by omega), Nat.one_mul, l, cI_0, bit_v (cl_lt hL (p2_8 hr)) (by omega), n32_add, n32_add]
    exact rck_lp q d h hL hB hz hr m (i + 1) _ (by omega)
/-- the reference's check -/
theorem rck_v (q d : Nat) {D : Nat → Bool} {L B : Nat → Nat} {S : ab_S} (h : rRl D L B S) (hL : ∀ i, i < 8 → L i < 256) (hB : ∀ i, i < 8 → B i < 256) {r : Nat} (hr : r < 8) : v_100_0 q (d + 2) (n32 r) S = some ((0, n32 (if snd D L B r = 0 then cd (cl L (2 ^ r)) else 0), 0, 0), ab_wi S 117 0 (n32 (snd D L B r))) := by
  have s3 : snd D L B r ≤ 3 := by
    unfold snd
    split
    · omega
    · split <;> omega
  rw [e_100_0, rsn_v q d h hL hB hr, cI_0]
  by_cases e : snd D L B r = 0
  · rw [if_pos e, e, show cd (cl L (2 ^ r)) = cdl (cl L (2 ^ r)) 8 0 0 from (cdl_8 _).symm]
    exact rck_lp q (d + 1) (S := ab_wi S 117 0 (n32 0)) (fun i hi => h i hi) hL hB rfl hr 8 0 0 rfl
  · rw [if_neg e, e_100_13, if_pos (by decide)]
    have : (ab_wi S 117 0 (n32 (snd D L B r))).1 117 0 = n32 (snd D L B r) := rfl
    rw [this, i_eq (by omega) (by omega), if_neg e, e_100_47]
theorem rck_x (q d : Nat) {u : Int32} (h : u < n32 0 ∨ (¬ u < n32 0 ∧ ¬ u < n32 8 ∧ n32 7 < u)) (S : ab_S) : v_100_0 q (d + 2) u S = some ((0, n32 0, 0, 0), ab_wi S 117 0 (n32 1)) := by
  rw [e_100_0, rsn_x q d h, cI_0, e_100_13, if_pos (by decide)]
  have : (ab_wi S 117 0 (n32 1)).1 117 0 = n32 1 := rfl
  rw [this, if_neg one_z, e_100_47]
/-- the class's -/
theorem cck_v (q d : Nat) {D : Nat → Bool} {L B : Nat → Nat} {S : ab_S} (h : cRl D L B S) (hL : ∀ i, i < 8 → L i < 256) (hB : ∀ i, i < 8 → B i < 256) {r : Nat} (hr : r < 8) : v_10_0 q (d + 5) (n32 r) S = if snd D L B r = 0 then some ((0, n32 (cd (cl L (2 ^ r))), 0, 0), S) else some ((snd D L B r + 1, 0, 0, 0), ab_wx S) := by
  rw [e_10_0, snd_v q d h hL hB hr]
  by_cases e : snd D L B r = 0
  · rw [if_pos e, if_pos e, cI_0, bc_256 _ (cl_lt hL (p2_8 hr)), cI_0]
  · rw [if_neg e, if_neg e, cI_x (by omega)]
theorem cck_x (q d : Nat) {u : Int32} (h : u < n32 0 ∨ (¬ u < n32 0 ∧ ¬ u < n32 8 ∧ n32 7 < u)) (S : ab_S) : v_10_0 q (d + 3) u S = some ((2, 0, 0, 0), ab_wx S) := by
  rw [e_10_0, snd_x q d h, cI_x (by omega)]
