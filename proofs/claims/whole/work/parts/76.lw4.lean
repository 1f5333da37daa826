-- The law's loop.
theorem bl_f {S : ab_S} (h : ab_inv S = true) {k : Nat} (hk : k < 148) : Nat.blt k S.2.2.2.1 = true := by
  rw [inv_f h]
  exact Nat.ble_eq.mpr (by omega)
theorem J_inv {q : Nat} {xs : Nat → Int32} {n : Nat} {S : ab_S} (h : J q xs n S) : ab_inv S = true ∧ ∀ j, S.1 1 j = xs j := by
  obtain ⟨⟨t, tn, b, bn, D, L, B, ls, hp, hc, hr, hi, hx⟩, _, _⟩ := h
  exact ⟨hi, hx⟩
theorem J_mo {q : Nat} {xs : Nat → Int32} {n m : Nat} {S : ab_S} (h : J q xs n S) (hm : n ≤ m) : J q xs m S := ⟨h.1, by have := h.2.1; omega, by have := h.2.2; omega⟩
theorem bk100 (q d : Nat) {xs : Nat → Int32} {n : Nat} {S : ab_S} (hJ : J q xs n S) {p : Nat} (hq : q ≤ 2048) (hp : p + 4 ≤ q) : ∃ S', J q xs (n + 1) S' ∧ v_133_100 q (d + 201) (n32 p) S = v_133_769 q (d + 201) (n32 p) S' := by
  obtain ⟨hi, hx⟩ := J_inv hJ
  obtain ⟨y1, S1, y2, S2, h1, h2, h3, h4, h5, h6, h7⟩ := op0 q d hJ (xs (p + 1))
  have i2 := (J_inv h5).1
  have h4' : v_75_0 q (d + 200) (xs (p + 1)) S1 = some ((0, y2, 0, 0), S2) := h4
  refine ⟨S2, h5, ?_⟩
  rw [e_133_100, bl_f hi (k := 1) (by omega), g_t, n32_add, n32_in (by omega) (by omega), g_t, hi, g_t, n32_cl (by omega), hx, h1, cI_0, bl_f h2 (k := 1) (by omega), g_t, g_t, bl_f h2 (k := 117) (by omega), g_t, h2, g_t, h3, h4', cI_0, bl_f i2 (k := 117) (by omega), g_t, i2, g_t, e_74_0, cI_0, h6, if_pos rfl]
  by_cases z : y1 = n32 0
  · rw [if_pos z, bl_f i2 (k := 147) (by omega), g_t, h7 z]
    unfold bV
    by_cases w : y2 = n32 0
    · rw [if_pos w, if_pos w, e_133_154, i_ceq, if_pos rfl, e_133_160]
    · rw [if_neg w, if_neg w, e_133_154, i_ceq, if_pos rfl, e_133_160]
  · rw [if_neg z, e_133_160]
theorem bk163 (q d : Nat) {xs : Nat → Int32} {n : Nat} {S : ab_S} (hJ : J q xs n S) {p : Nat} (hq : q ≤ 2048) (hp : p + 4 ≤ q) : ∃ S', J q xs (n + 1) S' ∧ v_133_163 q (d + 201) (n32 p) S = v_133_769 q (d + 201) (n32 p) S' := by
  obtain ⟨hi, hx⟩ := J_inv hJ
  obtain ⟨y1, S1, y2, S2, h1, h2, h3, h4, h5, h6, h7⟩ := op1 q d hJ (xs (p + 1))
  have i2 := (J_inv h5).1
  have h4' : v_96_0 q (d + 200) (xs (p + 1)) S1 = some ((0, y2, 0, 0), S2) := h4
  refine ⟨S2, h5, ?_⟩
  rw [e_133_163, bl_f hi (k := 1) (by omega), g_t, n32_add, n32_in (by omega) (by omega), g_t, hi, g_t, n32_cl (by omega), hx, h1, cI_0, bl_f h2 (k := 1) (by omega), g_t, g_t, bl_f h2 (k := 117) (by omega), g_t, h2, g_t, h3, h4', cI_0, bl_f i2 (k := 117) (by omega), g_t, i2, g_t, e_74_0, cI_0, h6, if_pos rfl]
  by_cases z : y1 = n32 0
  · rw [if_pos z, bl_f i2 (k := 147) (by omega), g_t, h7 z, i_ceq, if_pos rfl, e_133_216]
  · rw [if_neg z, e_133_216]
theorem bk219 (q d : Nat) {xs : Nat → Int32} {n : Nat} {S : ab_S} (hJ : J q xs n S) {p : Nat} (hq : q ≤ 2048) (hp : p + 4 ≤ q) : ∃ S', J q xs (n + 1) S' ∧ v_133_219 q (d + 201) (n32 p) S = v_133_769 q (d + 201) (n32 p) S' := by
  obtain ⟨hi, hx⟩ := J_inv hJ
  obtain ⟨y1, S1, y2, S2, h1, h2, h3, h4, h5, h6, h7⟩ := op2 q d hJ (xs (p + 1))
  have i2 := (J_inv h5).1
  have h4' : v_97_0 q (d + 200) (xs (p + 1)) S1 = some ((0, y2, 0, 0), S2) := h4
  refine ⟨S2, h5, ?_⟩
  rw [e_133_219, bl_f hi (k := 1) (by omega), g_t, n32_add, n32_in (by omega) (by omega), g_t, hi, g_t, n32_cl (by omega), hx, h1, cI_0, bl_f h2 (k := 1) (by omega), g_t, g_t, bl_f h2 (k := 117) (by omega), g_t, h2, g_t, h3, h4', cI_0, bl_f i2 (k := 117) (by omega), g_t, i2, g_t, e_74_0, cI_0, h6, if_pos rfl]
  by_cases z : y1 = n32 0
  · rw [if_pos z, bl_f i2 (k := 147) (by omega), g_t, h7 z]
    unfold bV
    by_cases w : y2 = n32 0
    · rw [if_pos w, if_pos w, e_133_273, i_ceq, if_pos rfl, e_133_279]
    · rw [if_neg w, if_neg w, e_133_273, i_ceq, if_pos rfl, e_133_279]
  · rw [if_neg z, e_133_279]
theorem bk364 (q d : Nat) {xs : Nat → Int32} {n : Nat} {S : ab_S} (hJ : J q xs n S) {p : Nat} (hq : q ≤ 2048) (hp : p + 4 ≤ q) : ∃ S', J q xs (n + 1) S' ∧ v_133_364 q (d + 201) (n32 p) S = v_133_769 q (d + 201) (n32 p) S' := by
  obtain ⟨hi, hx⟩ := J_inv hJ
  obtain ⟨y1, S1, y2, S2, h1, h2, h3, h4, h5, h6, h7⟩ := op5 q d hJ
  have i2 := (J_inv h5).1
  have h4' : v_105_0 q (d + 200)  S1 = some ((0, y2, 0, 0), S2) := h4
  refine ⟨S2, h5, ?_⟩
  rw [e_133_364, hi, g_t, h1, cI_0, bl_f h2 (k := 117) (by omega), g_t, h2, g_t, h4', cI_0, bl_f i2 (k := 117) (by omega), g_t, i2, g_t, e_74_0, cI_0, h6, if_pos rfl]
  by_cases z : y1 = n32 0
  · rw [if_pos z, bl_f i2 (k := 147) (by omega), g_t, h7 z, i_ceq, if_pos rfl, e_133_405]
  · rw [if_neg z, e_133_405]
theorem bk408 (q d : Nat) {xs : Nat → Int32} {n : Nat} {S : ab_S} (hJ : J q xs n S) {p : Nat} (hq : q ≤ 2048) (hp : p + 4 ≤ q) : ∃ S', J q xs (n + 1) S' ∧ v_133_408 q (d + 201) (n32 p) S = v_133_769 q (d + 201) (n32 p) S' := by
  obtain ⟨hi, hx⟩ := J_inv hJ
  obtain ⟨y1, S1, y2, S2, h1, h2, h3, h4, h5, h6, h7⟩ := (op678 q d hJ (xs (p + 1))).1
  have i2 := (J_inv h5).1
  have h4' : v_107_0 q (d + 200) (xs (p + 1)) S1 = some ((0, y2, 0, 0), S2) := h4
  refine ⟨S2, h5, ?_⟩
  rw [e_133_408, bl_f hi (k := 1) (by omega), g_t, n32_add, n32_in (by omega) (by omega), g_t, hi, g_t, n32_cl (by omega), hx, h1, cI_0, bl_f h2 (k := 1) (by omega), g_t, g_t, bl_f h2 (k := 117) (by omega), g_t, h2, g_t, h3, h4', cI_0, bl_f i2 (k := 117) (by omega), g_t, i2, g_t, e_74_0, cI_0, h6, if_pos rfl]
  by_cases z : y1 = n32 0
  · rw [if_pos z, bl_f i2 (k := 147) (by omega), g_t, h7 z, i_ceq, if_pos rfl, e_133_461]
  · rw [if_neg z, e_133_461]
theorem bk464 (q d : Nat) {xs : Nat → Int32} {n : Nat} {S : ab_S} (hJ : J q xs n S) {p : Nat} (hq : q ≤ 2048) (hp : p + 4 ≤ q) : ∃ S', J q xs (n + 1) S' ∧ v_133_464 q (d + 201) (n32 p) S = v_133_769 q (d + 201) (n32 p) S' := by
  obtain ⟨hi, hx⟩ := J_inv hJ
  obtain ⟨y1, S1, y2, S2, h1, h2, h3, h4, h5, h6, h7⟩ := (op678 q d hJ (xs (p + 1))).2.2
  have i2 := (J_inv h5).1
  have h4' : v_108_0 q (d + 200) (xs (p + 1)) S1 = some ((0, 0, y2, 0), S2) := h4
  refine ⟨S2, h5, ?_⟩
  rw [e_133_464, bl_f hi (k := 1) (by omega), g_t, n32_add, n32_in (by omega) (by omega), g_t, hi, g_t, n32_cl (by omega), hx, h1, cI_0, bl_f h2 (k := 1) (by omega), g_t, g_t, bl_f h2 (k := 117) (by omega), g_t, h2, g_t, h3, h4', cL_0, bl_f i2 (k := 117) (by omega), g_t, i2, g_t, e_74_0, cI_0, h6, if_pos rfl]
  by_cases z : y1 = n32 0
  · rw [if_pos z, bl_f i2 (k := 147) (by omega), g_t, h7 z, i_ceq, if_pos rfl, e_133_516]
  · rw [if_neg z, e_133_516]
theorem bk519 (q d : Nat) {xs : Nat → Int32} {n : Nat} {S : ab_S} (hJ : J q xs n S) {p : Nat} (hq : q ≤ 2048) (hp : p + 4 ≤ q) : ∃ S', J q xs (n + 1) S' ∧ v_133_519 q (d + 201) (n32 p) S = v_133_769 q (d + 201) (n32 p) S' := by
  obtain ⟨hi, hx⟩ := J_inv hJ
  obtain ⟨y1, S1, y2, S2, h1, h2, h3, h4, h5, h6, h7⟩ := (op678 q d hJ (xs (p + 1))).2.1
  have i2 := (J_inv h5).1
  have h4' : v_109_0 q (d + 200) (xs (p + 1)) S1 = some ((0, y2, 0, 0), S2) := h4
  refine ⟨S2, h5, ?_⟩
  rw [e_133_519, bl_f hi (k := 1) (by omega), g_t, n32_add, n32_in (by omega) (by omega), g_t, hi, g_t, n32_cl (by omega), hx, h1, cI_0, bl_f h2 (k := 1) (by omega), g_t, g_t, bl_f h2 (k := 117) (by omega), g_t, h2, g_t, h3, h4', cI_0, bl_f i2 (k := 117) (by omega), g_t, i2, g_t, e_74_0, cI_0, h6, if_pos rfl]
  by_cases z : y1 = n32 0
  · rw [if_pos z, bl_f i2 (k := 147) (by omega), g_t, h7 z, i_ceq, if_pos rfl, e_133_572]
  · rw [if_neg z, e_133_572]
theorem bk575 (q d : Nat) {xs : Nat → Int32} {n : Nat} {S : ab_S} (hJ : J q xs n S) {p : Nat} (hq : q ≤ 2048) (hp : p + 4 ≤ q) : ∃ S', J q xs (n + 1) S' ∧ v_133_575 q (d + 201) (n32 p) S = v_133_769 q (d + 201) (n32 p) S' := by
  obtain ⟨hi, hx⟩ := J_inv hJ
  obtain ⟨y1, S1, y2, S2, h1, h2, h3, h4, h5, h6, h7⟩ := op9 q d hJ (xs (p + 1))
  have i2 := (J_inv h5).1
  have h4' : v_100_0 q (d + 200) (xs (p + 1)) S1 = some ((0, y2, 0, 0), S2) := h4
  refine ⟨S2, h5, ?_⟩
  rw [e_133_575, bl_f hi (k := 1) (by omega), g_t, n32_add, n32_in (by omega) (by omega), g_t, hi, g_t, n32_cl (by omega), hx, h1, cI_0, bl_f h2 (k := 1) (by omega), g_t, g_t, bl_f h2 (k := 117) (by omega), g_t, h2, g_t, h3, h4', cI_0, bl_f i2 (k := 117) (by omega), g_t, i2, g_t, e_74_0, cI_0, h6, if_pos rfl]
  by_cases z : y1 = n32 0
  · rw [if_pos z, bl_f i2 (k := 147) (by omega), g_t, h7 z, i_ceq, if_pos rfl, e_133_628]
  · rw [if_neg z, e_133_628]
theorem bk631 (q d : Nat) {xs : Nat → Int32} {n : Nat} {S : ab_S} (hJ : J q xs n S) {p : Nat} (hq : q ≤ 2048) (hp : p + 4 ≤ q) : ∃ S', J q xs (n + 1) S' ∧ v_133_631 q (d + 201) (n32 p) S = v_133_769 q (d + 201) (n32 p) S' := by
  obtain ⟨hi, hx⟩ := J_inv hJ
  obtain ⟨y1, S1, y2, S2, h1, h2, h3, h4, h5, h6, h7⟩ := op10 q d hJ (xs (p + 1))
  have i2 := (J_inv h5).1
  have h4' : v_119_0 q (d + 200) (xs (p + 1)) S1 = some ((0, y2, 0, 0), S2) := h4
  refine ⟨S2, h5, ?_⟩
  rw [e_133_631, bl_f hi (k := 1) (by omega), g_t, n32_add, n32_in (by omega) (by omega), g_t, hi, g_t, n32_cl (by omega), hx, h1, cI_0, bl_f h2 (k := 1) (by omega), g_t, g_t, bl_f h2 (k := 117) (by omega), g_t, h2, g_t, h3, h4', cI_0, bl_f i2 (k := 117) (by omega), g_t, i2, g_t, e_74_0, cI_0, h6, if_pos rfl]
  by_cases z : y1 = n32 0
  · rw [if_pos z, bl_f i2 (k := 147) (by omega), g_t, h7 z]
    unfold bV
    by_cases w : y2 = n32 0
    · rw [if_pos w, if_pos w, e_133_685, i_ceq, if_pos rfl, e_133_691]
    · rw [if_neg w, if_neg w, e_133_685, i_ceq, if_pos rfl, e_133_691]
  · rw [if_neg z, e_133_691]
theorem bk694 (q d : Nat) {xs : Nat → Int32} {n : Nat} {S : ab_S} (hJ : J q xs n S) {p : Nat} (hq : q ≤ 2048) (hp : p + 4 ≤ q) : ∃ S', J q xs (n + 1) S' ∧ v_133_694 q (d + 201) (n32 p) S = v_133_769 q (d + 201) (n32 p) S' := by
  obtain ⟨hi, hx⟩ := J_inv hJ
  obtain ⟨y1, S1, y2, S2, h1, h2, h3, h4, h5, h6, h7⟩ := op11 q d hJ (xs (p + 1)) (xs (p + 2))
  have i2 := (J_inv h5).1
  have h4' : v_120_0 q (d + 200) (xs (p + 1)) (xs (p + 2)) S1 = some ((0, y2, 0, 0), S2) := h4
  refine ⟨S2, h5, ?_⟩
  rw [e_133_694, bl_f hi (k := 1) (by omega), g_t, n32_add p 1, n32_add p 2, n32_in (show p + 1 < 2147483648 by omega) (show p + 1 < q by omega), g_t, g_t, n32_in (show p + 2 < 2147483648 by omega) (show p + 2 < q by omega), g_t, hi, g_t, n32_cl (show p + 1 < 2147483648 by omega), n32_cl (show p + 2 < 2147483648 by omega), hx, hx, h1, cI_0, bl_f h2 (k := 1) (by omega), g_t, g_t, g_t, g_t, bl_f h2 (k := 117) (by omega), g_t, h2, g_t, h3, h3, h4', cI_0, bl_f i2 (k := 117) (by omega), g_t, i2, g_t, e_74_0, cI_0, h6, if_pos rfl]
  by_cases z : y1 = n32 0
  · rw [if_pos z, bl_f i2 (k := 147) (by omega), g_t, h7 z]
    unfold bV
    by_cases w : y2 = n32 0
    · rw [if_pos w, if_pos w, e_133_760, i_ceq, if_pos rfl, e_133_766]
    · rw [if_neg w, if_neg w, e_133_760, i_ceq, if_pos rfl, e_133_766]
  · rw [if_neg z, e_133_766]
theorem bk282 (q d : Nat) {xs : Nat → Int32} {n : Nat} {S : ab_S} (hJ : J q xs n S) {p : Nat} (hq : q ≤ 2048) (hp : p + 4 ≤ q) : ∃ S', J q xs (n + 1) S' ∧ v_133_282 q (d + 201) (n32 p) S = v_133_769 q (d + 201) (n32 p) S' := by
  obtain ⟨hi, hx⟩ := J_inv hJ
  obtain ⟨y, S1, S2, h1, h2, h3, h4, h5⟩ := op3 q d hJ (((Int32.toInt64 (xs (p + 1))) <<< (Int32.toInt64 (n32 32) &&& 63)) ||| ((Int32.toInt64 (xs (p + 2))) &&& (n64 4294967295))) (xs (p + 3))
  refine ⟨S2, h5, ?_⟩
  rw [e_133_282, bl_f hi (k := 1) (by omega), g_t, n32_add p 1, n32_add p 2, n32_add p 3, n32_in (show p + 1 < 2147483648 by omega) (show p + 1 < q by omega), g_t, g_t, n32_in (show p + 2 < 2147483648 by omega) (show p + 2 < q by omega), g_t, g_t, n32_in (show p + 3 < 2147483648 by omega) (show p + 3 < q by omega), g_t, bl_f hi (k := 3) (by omega), g_t, hi, g_t, n32_cl (show p + 1 < 2147483648 by omega), n32_cl (show p + 2 < 2147483648 by omega), n32_cl (show p + 3 < 2147483648 by omega), hx, hx, hx, h1, cI_0, bl_f h2 (k := 1) (by omega), g_t, g_t, g_t, g_t, g_t, g_t, bl_f h2 (k := 117) (by omega), g_t, h2, g_t, h3, h3, h3, h4, cI_0, if_pos rfl]
theorem bk351 (q d : Nat) {xs : Nat → Int32} {n : Nat} {S : ab_S} (hJ : J q xs n S) {p : Nat} : ∃ S', J q xs (n + 1) S' ∧ v_133_351 q (d + 201) (n32 p) S = v_133_769 q (d + 201) (n32 p) S' := by
  obtain ⟨hi, hx⟩ := J_inv hJ
  obtain ⟨y, S1, S2, h1, h2, h3, h4, h5⟩ := op4 q d hJ
  refine ⟨S2, h5, ?_⟩
  rw [e_133_351, bl_f hi (k := 3) (by omega), g_t, hi, g_t, h1, cI_0, bl_f h2 (k := 117) (by omega), g_t, h2, g_t, h4, cI_0, if_pos rfl]
theorem cnd_q {q p : Nat} (hq : q ≤ 2048) (hp : p ≤ 4096) : (n32 q - n32 4 < n32 p) ↔ q < p + 4 := by
  by_cases h : 4 ≤ q
  · rw [n32_sub h, n32_lt (by omega) (by omega)]
    omega
  · have e : ∀ q, q < 4 → (n32 q - n32 4).toInt < 0 := by decide +kernel
    have := e q (by omega)
    rw [Int32.lt_iff_toInt_lt, n32_int (by omega)]
    omega
theorem st_p (q d : Nat) {xs : Nat → Int32} {n : Nat} {S : ab_S} (hJ : J q xs n S) {p : Nat} (hq : q ≤ 2048) (hp : p + 4 ≤ q) : ∃ S', J q xs (n + 1) S' ∧ v_133_23 q (d + 201) (n32 p) S = v_133_769 q (d + 201) (n32 p) S' := by
  obtain ⟨hi, hx⟩ := J_inv hJ
  have c : ¬ (Int32.ofNat (ab_N q 1) - n32 4 < n32 p) := fun z => by
    have := (cnd_q hq (by omega : p ≤ 4096)).mp z
    omega
  rw [e_133_23, bl_f hi (k := 1) (by omega), g_t, if_neg c, g_t, n32_in (by omega) (by omega), g_t]
  generalize S.1 1 (Int32.toNatClampNeg (n32 p)) &&& n32 15 = o
  by_cases z0 : o = n32 0
  · obtain ⟨S', a1, a2⟩ := bk100 q d hJ hq hp
    exact ⟨S', a1, by rw [if_pos z0]; exact a2⟩
  by_cases z1 : o = n32 1
  · obtain ⟨S', a1, a2⟩ := bk163 q d hJ hq hp
    exact ⟨S', a1, by rw [if_neg z0, if_pos z1]; exact a2⟩
  by_cases z2 : o = n32 2
  · obtain ⟨S', a1, a2⟩ := bk219 q d hJ hq hp
    exact ⟨S', a1, by rw [if_neg z0, if_neg z1, if_pos z2]; exact a2⟩
  by_cases z3 : o = n32 3
  · obtain ⟨S', a1, a2⟩ := bk282 q d hJ hq hp
    exact ⟨S', a1, by rw [if_neg z0, if_neg z1, if_neg z2, if_pos z3]; exact a2⟩
  by_cases z4 : o = n32 4
  · obtain ⟨S', a1, a2⟩ := bk351 q d hJ (p := p)
    exact ⟨S', a1, by rw [if_neg z0, if_neg z1, if_neg z2, if_neg z3, if_pos z4]; exact a2⟩
  by_cases z5 : o = n32 5
  · obtain ⟨S', a1, a2⟩ := bk364 q d hJ hq hp
    exact ⟨S', a1, by rw [if_neg z0, if_neg z1, if_neg z2, if_neg z3, if_neg z4, if_pos z5]; exact a2⟩
  by_cases z6 : o = n32 6
  · obtain ⟨S', a1, a2⟩ := bk408 q d hJ hq hp
    exact ⟨S', a1, by rw [if_neg z0, if_neg z1, if_neg z2, if_neg z3, if_neg z4, if_neg z5, if_pos z6]; exact a2⟩
  by_cases z7 : o = n32 7
  · obtain ⟨S', a1, a2⟩ := bk464 q d hJ hq hp
    exact ⟨S', a1, by rw [if_neg z0, if_neg z1, if_neg z2, if_neg z3, if_neg z4, if_neg z5, if_neg z6, if_pos z7]; exact a2⟩
  by_cases z8 : o = n32 8
  · obtain ⟨S', a1, a2⟩ := bk519 q d hJ hq hp
    exact ⟨S', a1, by rw [if_neg z0, if_neg z1, if_neg z2, if_neg z3, if_neg z4, if_neg z5, if_neg z6, if_neg z7, if_pos z8]; exact a2⟩
  by_cases z9 : o = n32 9
  · obtain ⟨S', a1, a2⟩ := bk575 q d hJ hq hp
    exact ⟨S', a1, by rw [if_neg z0, if_neg z1, if_neg z2, if_neg z3, if_neg z4, if_neg z5, if_neg z6, if_neg z7, if_neg z8, if_pos z9]; exact a2⟩
  by_cases z10 : o = n32 10
  · obtain ⟨S', a1, a2⟩ := bk631 q d hJ hq hp
    exact ⟨S', a1, by rw [if_neg z0, if_neg z1, if_neg z2, if_neg z3, if_neg z4, if_neg z5, if_neg z6, if_neg z7, if_neg z8, if_neg z9, if_pos z10]; exact a2⟩
  by_cases z11 : o = n32 11
  · obtain ⟨S', a1, a2⟩ := bk694 q d hJ hq hp
    exact ⟨S', a1, by rw [if_neg z0, if_neg z1, if_neg z2, if_neg z3, if_neg z4, if_neg z5, if_neg z6, if_neg z7, if_neg z8, if_neg z9, if_neg z10, if_pos z11]; exact a2⟩
  exact ⟨S, J_mo hJ (Nat.le_succ n), by rw [if_neg z0, if_neg z1, if_neg z2, if_neg z3, if_neg z4, if_neg z5, if_neg z6, if_neg z7, if_neg z8, if_neg z9, if_neg z10, if_neg z11]⟩
theorem lp_p (q d : Nat) {xs : Nat → Int32} (hq : q ≤ 2048) : ∀ m n p S, J q xs n S → q ≤ p + 4 * m → p ≤ 2052 → ∃ S', v_133_23 q (d + 201) (n32 p) S = some ((0, n32 1, 0, 0), S') ∧ J q xs (n + m) S' := by
  intro m
  induction m with
  | zero =>
    intro n p S hJ h1 h2
    obtain ⟨hi, hx⟩ := J_inv hJ
    refine ⟨S, ?_, hJ⟩
    have c : Int32.ofNat (ab_N q 1) - n32 4 < n32 p := (cnd_q hq (by omega : p ≤ 4096)).mpr (by omega)
    rw [e_133_23, bl_f hi (k := 1) (by omega), g_t, if_pos c]
  | succ m ih =>
    intro n p S hJ h1 h2
    by_cases h : q < p + 4
    · obtain ⟨hi, hx⟩ := J_inv hJ
      refine ⟨S, ?_, J_mo hJ (by omega)⟩
      have c : Int32.ofNat (ab_N q 1) - n32 4 < n32 p := (cnd_q hq (by omega : p ≤ 4096)).mpr h
      rw [e_133_23, bl_f hi (k := 1) (by omega), g_t, if_pos c]
    · obtain ⟨S1, a1, a2⟩ := st_p q d hJ hq (by omega : p + 4 ≤ q)
      obtain ⟨S2, b1, b2⟩ := ih (n + 1) (p + 4) S1 a1 (by omega) (by omega)
      refine ⟨S2, ?_, J_mo b2 (by omega)⟩
      rw [a2, e_133_769, n32_add]
      exact b1
