-- Matching in the class: where, and the alternatives without parts.
theorem ok_a1 {r : Nat} (h : isSh r) {k : Nat} (hk : ab_md k = true) (S : ab_S) : ab_ok k S (r + 1) 3 = true := by
  unfold ab_ok
  rw [hk]
  rcases h with h | h | h | h | h | h | h | h | h <;> subst h <;> rfl
theorem ok_a2 {r : Nat} (h : isSh r) {k : Nat} (hk : ab_md k = true) (S : ab_S) : ab_ok k S (r + 2) 3 = true := by
  unfold ab_ok
  rw [hk]
  rcases h with h | h | h | h | h | h | h | h | h <;> subst h <;> rfl
theorem ok_a3 {r : Nat} (h : isSh r) {k : Nat} (hk : ab_md k = true) (S : ab_S) : ab_ok k S (r + 3) 1 = true := by
  unfold ab_ok
  rw [hk]
  rcases h with h | h | h | h | h | h | h | h | h <;> subst h <;> rfl
theorem ok_a4 {r : Nat} (h : isSh r) {k : Nat} (hk : ab_md k = true) (S : ab_S) : ab_ok k S (r + 4) 1 = true := by
  unfold ab_ok
  rw [hk]
  rcases h with h | h | h | h | h | h | h | h | h <;> subst h <;> rfl
theorem ok_a5 {r : Nat} (h : isSh r) {k : Nat} (hk : ab_md k = true) (S : ab_S) : ab_ok k S (r + 5) 1 = true := by
  unfold ab_ok
  rw [hk]
  rcases h with h | h | h | h | h | h | h | h | h <;> subst h <;> rfl
theorem ok_a6 {r : Nat} (h : isSh r) {k : Nat} (hk : ab_md k = true) (S : ab_S) : ab_ok k S (r + 6) 3 = true := by
  unfold ab_ok
  rw [hk]
  rcases h with h | h | h | h | h | h | h | h | h <;> subst h <;> rfl
theorem ok_a7 {r : Nat} (h : isSh r) {k : Nat} (hk : ab_md k = true) (S : ab_S) : ab_ok k S (r + 7) 1 = true := by
  unfold ab_ok
  rw [hk]
  rcases h with h | h | h | h | h | h | h | h | h <;> subst h <;> rfl
theorem ok_a8 {r : Nat} (h : isSh r) {k : Nat} (hk : ab_md k = true) (S : ab_S) : ab_ok k S (r + 8) 1 = true := by
  unfold ab_ok
  rw [hk]
  rcases h with h | h | h | h | h | h | h | h | h <;> subst h <;> rfl
theorem ok_a9 {r : Nat} (h : isSh r) {k : Nat} (hk : ab_md k = true) (S : ab_S) : ab_ok k S (r + 9) 4 = true := by
  unfold ab_ok
  rw [hk]
  rcases h with h | h | h | h | h | h | h | h | h <;> subst h <;> rfl
theorem ok_a10 {r : Nat} (h : isSh r) {k : Nat} (hk : ab_md k = true) (S : ab_S) : ab_ok k S (r + 10) 1 = true := by
  unfold ab_ok
  rw [hk]
  rcases h with h | h | h | h | h | h | h | h | h <;> subst h <;> rfl
theorem sh_mem {r : Nat} (h : isSh r) : r ∈ [14, 25, 36, 47, 58, 69, 80, 91, 103] := by
  rcases h with h | h | h | h | h | h | h | h | h <;> subst h <;> decide
theorem sh_ge {r : Nat} (h : isSh r) : 14 ≤ r ∧ r ≤ 103 := by
  rcases h with h | h | h | h | h | h | h | h | h <;> subst h <;> decide
theorem N_ar {r : Nat} (h : isSh r) (q : Nat) {j : Nat} (h1 : 1 ≤ j) (h2 : j ≤ 10) : ab_N q (r + j) = 40 := by
  have key : ∀ r, r ∈ [14, 25, 36, 47, 58, 69, 80, 91, 103] → ∀ j, j < 11 → 1 ≤ j → ab_N0 (r + j) = 40 := by decide +kernel
  have g := sh_ge h
  have e : Nat.beq (r + j) 1 = false := by
    cases x : Nat.beq (r + j) 1 with
    | false => rfl
    | true => have := Nat.eq_of_beq_eq_true x; omega
  unfold ab_N
  rw [e]
  exact key r (sh_mem h) j (by omega) h1
theorem in_ar {r : Nat} (h : isSh r) (q : Nat) {j x : Nat} (hx : x < 40) (h1 : 1 ≤ j) (h2 : j ≤ 10) : ab_in (n32 x) (ab_N q (r + j)) = true := by
  rw [N_ar h q h1 h2]
  exact n32_in (by omega) hx
theorem bl_ar {r : Nat} (h : isSh r) (j : Nat) : Nat.blt 2 (r + j) = true := by
  have g := sh_ge h
  exact Nat.ble_eq_true_of_le (by omega)
/-- the items, where an alternative is matched -/
def cx (S : ab_S) (c : ctx) (cnt bn : Nat) : Prop := bn ≤ 40 ∧ cnt ≤ 24 ∧ tw S (cnt, c.2.1) ∧ (∀ i, i < bn → S.1 6 i = n32 (c.1 i) ∧ c.1 i < 256) ∧ (∀ k, k < cnt → Fct bn c.2.1 k ∧ c.2.1 4 k ≤ cnt) ∧ ∀ j, j < 6 → S.2.1 2 j = ab_wo j
/-- all but the table of answers is as it was -/
def mx (S0 S : ab_S) : Prop := S.2 = S0.2 ∧ ∀ c j, c ≠ 115 → c ≠ 116 → S.1 c j = S0.1 c j
theorem mx_rf (S : ab_S) : mx S S := ⟨rfl, fun _ _ _ _ => rfl⟩
theorem mx_tr {S S1 S2 : ab_S} (h : mx S S1) (g : mx S1 S2) : mx S S2 := ⟨g.1.trans h.1, fun c j x y => (g.2 c j x y).trans (h.2 c j x y)⟩
theorem cx_mx {S0 S : ab_S} {c : ctx} {cnt bn : Nat} (h : cx S0 c cnt bn) (g : mx S0 S) : cx S c cnt bn := by
  refine ⟨h.1, h.2.1, ⟨(g.2 5 6 (by decide) (by decide)).trans h.2.2.1.1, fun k hk => ?_⟩, fun i hi => ⟨(g.2 6 i (by decide) (by decide)).trans (h.2.2.2.1 i hi).1, (h.2.2.2.1 i hi).2⟩, h.2.2.2.2.1, fun j hj => ?_⟩
  · have t := h.2.2.1.2 k hk
    refine ⟨(g.2 7 k (by decide) (by decide)).trans t.1, ?_, (g.2 9 k (by decide) (by decide)).trans t.2.2.1, (g.2 10 k (by decide) (by decide)).trans t.2.2.2.1, (g.2 11 k (by decide) (by decide)).trans t.2.2.2.2⟩
    rw [g.1]
    exact t.2.1
  · rw [g.1]
    exact h.2.2.2.2.2 j hj
/-- the table of answers is right -/
def mm (c : ctx) (cnt : Nat) (S : ab_S) : Prop := ∃ kn an : Nat → Nat, (∀ x, x < 192 → S.1 115 x = n32 (kn x) ∧ S.1 116 x = n32 (an x) ∧ kn x < 2097152 ∧ an x < 2097152) ∧ ∀ r i lv, r < 8 → i < cnt → lv ≤ 20 → (an (r * 24 + i)).testBit lv = ((kn (r * 24 + i)).testBit lv && c.2.2 r i lv)
def gA (S0 : ab_S) (c : ctx) (cnt : Nat) (x : ab_S → ab_R) (v : Bool) : Prop := ∀ S, mx S0 S → mm c cnt S → ∃ S', mx S0 S' ∧ mm c cnt S' ∧ x S = some ((0, n32 v.toNat, 0, 0), S')
theorem cx_1 {S : ab_S} {c : ctx} {cnt bn : Nat} (h : cx S c cnt bn) {i : Nat} (hi : i < cnt) : i < 24 ∧ S.1 7 i = n32 (maj c i) ∧ S.2.1 8 i = n64 (nmb c i) ∧ S.1 10 i = n32 (sta c i) ∧ S.1 11 i = n32 (bhd c i) ∧ maj c i < 8 ∧ nmb c i < 4294967296 ∧ bhd c i ≤ 24 := by
  have t := h.2.2.1.2 i hi
  have f := h.2.2.2.2.1 i hi
  exact ⟨Nat.lt_of_lt_of_le hi h.2.1, t.1, t.2.1, t.2.2.2.1, t.2.2.2.2, f.1.1, f.1.2.1, Nat.le_trans f.2 h.2.1⟩
theorem isI_v (q d : Nat) {S : ab_S} {c : ctx} {cnt bn i : Nat} (h : cx S c cnt bn) (hi : i < cnt) : v_29_0 q d (n32 i) S = some ((0, n32 (decide (maj c i < 2)).toNat, 0, 0), S) := by
  have t := cx_1 h hi
  rw [e_29_0, n32_in (by omega) (by omega), g_t, g_t, n32_cl (by omega), t.2.1, i_eq (by omega) (by omega), i_eq (by omega) (by omega)]
  by_cases g : maj c i = 0
  · rw [if_pos g, e_29_19, e_29_24, nz_1, decide_eq_true (by omega : maj c i < 2)]
    rfl
  · rw [if_neg g]
    by_cases k : maj c i = 1
    · rw [if_pos k, e_29_19, e_29_24, nz_1, decide_eq_true (by omega : maj c i < 2)]
      rfl
    · rw [if_neg k, e_29_24, nz_0, decide_eq_false (by omega : ¬ maj c i < 2)]
      rfl
theorem itA_v (q d : Nat) {S : ab_S} {c : ctx} {cnt bn i : Nat} (h : cx S c cnt bn) (hi : i < cnt) : v_30_0 q d (n32 i) S = some ((0, 0, val c i, 0), S) := by
  have t := cx_1 h hi
  unfold val
  rw [e_30_0, n32_in (by omega) (by omega), g_t, g_t, g_t, n32_cl (by omega), t.2.1, i_eq (by omega) (by omega), t.2.2.1, e_30_28, e_30_28]
  by_cases g : maj c i = 0
  · rw [if_pos g, if_pos g]
  · rw [if_neg g, if_neg g]
theorem k66_105 {q d r x i : Nat} (hr : isSh r) (hx : x < 40) {S : ab_S} {c : ctx} {cnt bn : Nat} (h : cx S c cnt bn) (hi : i < cnt) (hk : S.1 (r + 2) x = n32 105) (lv : Nat) : v_66_0 q (d + 1) r (n32 x) (n32 i) (n32 lv) S = some ((0, n32 (sgn 105 c i lv).toNat, 0, 0), S) := by
  have t := cx_1 h hi
  rw [e_66_0, n32_in (by omega) (by omega), g_t, ok_sh hr (k := 66) rfl, g_t, ok_a2 hr (k := 66) rfl, g_t, in_ar hr q hx (by omega) (by omega), g_t, n32_cl (show x < 2147483648 by omega), hk, if_neg (by decide : ¬ n32 105 = n32 34), if_neg (by decide : ¬ n32 105 = n32 35), if_neg (by decide : ¬ n32 105 = n32 46), if_neg (by decide : ¬ n32 105 = n32 48), if_neg (by decide : ¬ n32 105 = n32 65), if_neg (by decide : ¬ n32 105 = n32 91), if_neg (by decide : ¬ n32 105 = n32 98), if_pos rfl, isI_v q d h hi, cI_0, bo_nz]
  rfl
theorem k66_115 {q d r x i : Nat} (hr : isSh r) (hx : x < 40) {S : ab_S} {c : ctx} {cnt bn : Nat} (h : cx S c cnt bn) (hi : i < cnt) (hk : S.1 (r + 2) x = n32 115) (lv : Nat) : v_66_0 q (d + 1) r (n32 x) (n32 i) (n32 lv) S = some ((0, n32 (sgn 115 c i lv).toNat, 0, 0), S) := by
  have t := cx_1 h hi
  rw [e_66_0, n32_in (by omega) (by omega), g_t, ok_sh hr (k := 66) rfl, g_t, ok_a2 hr (k := 66) rfl, g_t, in_ar hr q hx (by omega) (by omega), g_t, n32_cl (show x < 2147483648 by omega), hk, if_neg (by decide : ¬ n32 115 = n32 34), if_neg (by decide : ¬ n32 115 = n32 35), if_neg (by decide : ¬ n32 115 = n32 46), if_neg (by decide : ¬ n32 115 = n32 48), if_neg (by decide : ¬ n32 115 = n32 65), if_neg (by decide : ¬ n32 115 = n32 91), if_neg (by decide : ¬ n32 115 = n32 98), if_neg (by decide : ¬ n32 115 = n32 105), if_neg (by decide : ¬ n32 115 = n32 110), if_pos rfl, n32_cl (by omega), t.2.1, i_eq (by omega) (by omega), e_66_152, e_66_152, nz_1, nz_0]
  show _ = some ((0, n32 (decide (maj c i = 2)).toNat, 0, 0), S)
  by_cases g : maj c i = 2
  · rw [if_pos g, decide_eq_true g]; rfl
  · rw [if_neg g, decide_eq_false g]; rfl
theorem k66_116 {q d r x i : Nat} (hr : isSh r) (hx : x < 40) {S : ab_S} {c : ctx} {cnt bn : Nat} (h : cx S c cnt bn) (hi : i < cnt) (hk : S.1 (r + 2) x = n32 116) (lv : Nat) : v_66_0 q (d + 1) r (n32 x) (n32 i) (n32 lv) S = some ((0, n32 (sgn 116 c i lv).toNat, 0, 0), S) := by
  have t := cx_1 h hi
  rw [e_66_0, n32_in (by omega) (by omega), g_t, ok_sh hr (k := 66) rfl, g_t, ok_a2 hr (k := 66) rfl, g_t, in_ar hr q hx (by omega) (by omega), g_t, n32_cl (show x < 2147483648 by omega), hk, if_neg (by decide : ¬ n32 116 = n32 34), if_neg (by decide : ¬ n32 116 = n32 35), if_neg (by decide : ¬ n32 116 = n32 46), if_neg (by decide : ¬ n32 116 = n32 48), if_neg (by decide : ¬ n32 116 = n32 65), if_neg (by decide : ¬ n32 116 = n32 91), if_neg (by decide : ¬ n32 116 = n32 98), if_neg (by decide : ¬ n32 116 = n32 105), if_neg (by decide : ¬ n32 116 = n32 110), if_neg (by decide : ¬ n32 116 = n32 115), if_pos rfl, n32_cl (by omega), t.2.1, i_eq (by omega) (by omega), e_66_164, e_66_164, nz_1, nz_0]
  show _ = some ((0, n32 (decide (maj c i = 3)).toNat, 0, 0), S)
  by_cases g : maj c i = 3
  · rw [if_pos g, decide_eq_true g]; rfl
  · rw [if_neg g, decide_eq_false g]; rfl
theorem k66_98 {q d r x i : Nat} (hr : isSh r) (hx : x < 40) {S : ab_S} {c : ctx} {cnt bn : Nat} (h : cx S c cnt bn) (hi : i < cnt) (hk : S.1 (r + 2) x = n32 98) (lv : Nat) : v_66_0 q (d + 1) r (n32 x) (n32 i) (n32 lv) S = some ((0, n32 (sgn 98 c i lv).toNat, 0, 0), S) := by
  have t := cx_1 h hi
  rw [e_66_0, n32_in (by omega) (by omega), g_t, ok_sh hr (k := 66) rfl, g_t, ok_a2 hr (k := 66) rfl, g_t, in_ar hr q hx (by omega) (by omega), g_t, n32_cl (show x < 2147483648 by omega), hk, if_neg (by decide : ¬ n32 98 = n32 34), if_neg (by decide : ¬ n32 98 = n32 35), if_neg (by decide : ¬ n32 98 = n32 46), if_neg (by decide : ¬ n32 98 = n32 48), if_neg (by decide : ¬ n32 98 = n32 65), if_neg (by decide : ¬ n32 98 = n32 91), if_pos rfl, n32_cl (by omega), t.2.1, i_eq (by omega) (by omega), t.2.2.1, i_ceq, i_leq (by omega) (by omega), e_66_192, e_66_193, e_66_193, nz_1, nz_0, g_t]
  show _ = some ((0, n32 (decide (maj c i = 7) && decide (nmb c i ≠ 22)).toNat, 0, 0), S)
  by_cases g : maj c i = 7
  · rw [if_pos g, decide_eq_true g]
    by_cases l : nmb c i = 22
    · rw [if_pos l, decide_eq_false (fun x => x l)]; rfl
    · rw [if_neg l, decide_eq_true l]; rfl
  · rw [if_neg g, decide_eq_false g]; rfl
theorem k66_110 {q d r x i : Nat} (hr : isSh r) (hx : x < 40) {S : ab_S} {c : ctx} {cnt bn : Nat} (h : cx S c cnt bn) (hi : i < cnt) (hk : S.1 (r + 2) x = n32 110) (lv : Nat) : v_66_0 q (d + 1) r (n32 x) (n32 i) (n32 lv) S = some ((0, n32 (sgn 110 c i lv).toNat, 0, 0), S) := by
  have t := cx_1 h hi
  rw [e_66_0, n32_in (by omega) (by omega), g_t, ok_sh hr (k := 66) rfl, g_t, ok_a2 hr (k := 66) rfl, g_t, in_ar hr q hx (by omega) (by omega), g_t, n32_cl (show x < 2147483648 by omega), hk, if_neg (by decide : ¬ n32 110 = n32 34), if_neg (by decide : ¬ n32 110 = n32 35), if_neg (by decide : ¬ n32 110 = n32 46), if_neg (by decide : ¬ n32 110 = n32 48), if_neg (by decide : ¬ n32 110 = n32 65), if_neg (by decide : ¬ n32 110 = n32 91), if_neg (by decide : ¬ n32 110 = n32 98), if_neg (by decide : ¬ n32 110 = n32 105), if_pos rfl, n32_cl (by omega), t.2.1, i_eq (by omega) (by omega), t.2.2.1, i_ceq, i_leq (by omega) (by omega), e_66_221, e_66_222, e_66_222, nz_1, nz_0, g_t]
  show _ = some ((0, n32 (decide (maj c i = 7) && decide (nmb c i = 22)).toNat, 0, 0), S)
  by_cases g : maj c i = 7
  · rw [if_pos g, decide_eq_true g]
    by_cases l : nmb c i = 22
    · rw [if_pos l, decide_eq_true l]; rfl
    · rw [if_neg l, decide_eq_false l]; rfl
  · rw [if_neg g, decide_eq_false g]; rfl
theorem k66_121 {q d r x i : Nat} (hr : isSh r) (hx : x < 40) {S : ab_S} {c : ctx} {cnt bn : Nat} (h : cx S c cnt bn) (hi : i < cnt) (hk : S.1 (r + 2) x = n32 121) (lv : Nat) : v_66_0 q (d + 1) r (n32 x) (n32 i) (n32 lv) S = some ((0, n32 (sgn 121 c i lv).toNat, 0, 0), S) := by
  have t := cx_1 h hi
  rw [e_66_0, n32_in (by omega) (by omega), g_t, ok_sh hr (k := 66) rfl, g_t, ok_a2 hr (k := 66) rfl, g_t, in_ar hr q hx (by omega) (by omega), g_t, n32_cl (show x < 2147483648 by omega), hk, if_neg (by decide : ¬ n32 121 = n32 34), if_neg (by decide : ¬ n32 121 = n32 35), if_neg (by decide : ¬ n32 121 = n32 46), if_neg (by decide : ¬ n32 121 = n32 48), if_neg (by decide : ¬ n32 121 = n32 65), if_neg (by decide : ¬ n32 121 = n32 91), if_neg (by decide : ¬ n32 121 = n32 98), if_neg (by decide : ¬ n32 121 = n32 105), if_neg (by decide : ¬ n32 121 = n32 110), if_neg (by decide : ¬ n32 121 = n32 115), if_neg (by decide : ¬ n32 121 = n32 116), if_pos rfl]
  rfl
theorem btw_v (q d : Nat) {S : ab_S} {c : ctx} {cnt bn i : Nat} (h : cx S c cnt bn) (hi : i < cnt) (lo hg : Int32) (lv : Nat) : v_67_0 q (d + 1) (n32 i) lo hg S = some ((0, n32 (itg lo hg c i lv).toNat, 0, 0), S) := by
  rw [e_67_0, isI_v q d h hi, cI_0, i_bz, itA_v q d h hi, cL_0, i_clt, itA_v q d h hi, cL_0, i_cgt, e_67_43, e_67_44, e_67_44, nz_1, nz_0]
  unfold itg
  by_cases g : maj c i < 2
  · rw [if_pos (decide_eq_true g), decide_eq_true g]
    by_cases k : val c i < lo.toInt64
    · rw [if_pos k, decide_eq_false (Int64.not_le.mpr k)]; rfl
    · rw [if_neg k, decide_eq_true (Int64.not_lt.mp k)]
      by_cases l : hg.toInt64 < val c i
      · rw [if_pos l, decide_eq_false (Int64.not_le.mpr l)]; rfl
      · rw [if_neg l, decide_eq_true (Int64.not_lt.mp l)]; rfl
  · rw [if_neg (fun x => g (of_decide_eq_true x)), decide_eq_false g]; rfl
theorem k66_46 {q d r x i : Nat} (hr : isSh r) (hx : x < 40) {S : ab_S} {c : ctx} {cnt bn : Nat} (h : cx S c cnt bn) (hi : i < cnt) (hk : S.1 (r + 2) x = n32 46) (lv : Nat) : v_66_0 q (d + 2) r (n32 x) (n32 i) (n32 lv) S = some ((0, n32 (itg (S.1 (r + 4) x) (S.1 (r + 5) x) c i lv).toNat, 0, 0), S) := by
  have t := cx_1 h hi
  rw [e_66_0, n32_in (by omega) (by omega), g_t, ok_sh hr (k := 66) rfl, g_t, ok_a2 hr (k := 66) rfl, g_t, in_ar hr q hx (by omega) (by omega), g_t, n32_cl (show x < 2147483648 by omega), hk, if_neg (by decide : ¬ n32 46 = n32 34), if_neg (by decide : ¬ n32 46 = n32 35), if_pos rfl, g_t, ok_a4 hr (k := 66) rfl, g_t, in_ar hr q hx (by omega) (by omega), g_t, g_t, ok_a5 hr (k := 66) rfl, g_t, in_ar hr q hx (by omega) (by omega), g_t, btw_v q d h hi _ _ lv, cI_0, bo_nz]
theorem k66_48 {q d r x i : Nat} (hr : isSh r) (hx : x < 40) {S : ab_S} {c : ctx} {cnt bn : Nat} (h : cx S c cnt bn) (hi : i < cnt) (hk : S.1 (r + 2) x = n32 48) (lv : Nat) : v_66_0 q (d + 2) r (n32 x) (n32 i) (n32 lv) S = some ((0, n32 (itg (S.1 (r + 4) x) (S.1 (r + 5) x) c i lv).toNat, 0, 0), S) := by
  have t := cx_1 h hi
  rw [e_66_0, n32_in (by omega) (by omega), g_t, ok_sh hr (k := 66) rfl, g_t, ok_a2 hr (k := 66) rfl, g_t, in_ar hr q hx (by omega) (by omega), g_t, n32_cl (show x < 2147483648 by omega), hk, if_neg (by decide : ¬ n32 48 = n32 34), if_neg (by decide : ¬ n32 48 = n32 35), if_neg (by decide : ¬ n32 48 = n32 46), if_pos rfl, g_t, ok_a4 hr (k := 66) rfl, g_t, in_ar hr q hx (by omega) (by omega), g_t, g_t, ok_a5 hr (k := 66) rfl, g_t, in_ar hr q hx (by omega) (by omega), g_t, btw_v q d h hi _ _ lv, cI_0, bo_nz]
theorem hch_lp {q d r i : Nat} (hr : isSh r) {S : ab_S} {c : ctx} {cnt bn : Nat} (h : cx S c cnt bn) (hi : i < cnt) {t : Nat → Nat} {f n : Nat} (hf : f + n ≤ 40) (hs : sta c i + n ≤ bn) (ht : ∀ y, f ≤ y → y < f + n → S.1 (r + 1) y = n32 (t y) ∧ t y < 256) : ∀ m j, j + m = n → v_68_40 q d (n32 i) r (n32 f) (n32 n) (n32 j) S = some ((0, n32 (eqs c.1 t m (sta c i + j) (f + j)).toNat, 0, 0), S)
  | 0, j, e => by
    rw [e_68_40, if_neg (by rw [n32_lt (by omega) (by omega)]; omega)]
    rfl
  | m + 1, j, e => by
    have u := cx_1 h hi
    have hb := h.1
    have b1 := h.2.2.2.1 (sta c i + j) (by omega)
    have t1 := ht (f + j) (by omega) (by omega)
    rw [e_68_40, if_pos (by rw [n32_lt (by omega) (by omega)]; omega), n32_in (by omega) (by omega), g_t, n32_cl (by omega), u.2.2.2.1, n32_add, n32_in (by omega) (by omega), g_t, ok_sh hr (k := 68) rfl, g_t, ok_a1 hr (k := 68) rfl, g_t, n32_add, in_ar hr q (by omega : f + j < 40) (by omega) (by omega), g_t, n32_cl (by omega), n32_cl (by omega), b1.1, t1.1, i_eq (by omega) (by omega), n32_add]
    unfold eqs
    by_cases g : c.1 (sta c i + j) = t (f + j)
    · rw [if_pos g, hch_lp hr h hi hf hs ht m (j + 1) (by omega), decide_eq_true g]
      rfl
    · rw [if_neg g, decide_eq_false g]
      rfl
theorem k66_34 {q d r x i : Nat} (hr : isSh r) (hx : x < 40) {S : ab_S} {c : ctx} {cnt bn : Nat} (h : cx S c cnt bn) (hi : i < cnt) (hk : S.1 (r + 2) x = n32 34) {t : Nat → Nat} {f n : Nat} (h4 : S.1 (r + 4) x = n32 f) (h5 : S.1 (r + 5) x = n32 (f + n)) (hf : f + n ≤ 40) (ht : ∀ y, f ≤ y → y < f + n → S.1 (r + 1) y = n32 (t y) ∧ t y < 256) (lv : Nat) : v_66_0 q (d + 1) r (n32 x) (n32 i) (n32 lv) S = some ((0, n32 (txt t f n c i lv).toNat, 0, 0), S) := by
  have u := cx_1 h hi
  rw [e_66_0, n32_in (by omega) (by omega), g_t, ok_sh hr (k := 66) rfl, g_t, ok_a2 hr (k := 66) rfl, g_t, in_ar hr q hx (by omega) (by omega), g_t, n32_cl (show x < 2147483648 by omega), hk, if_pos rfl, n32_cl (show i < 2147483648 by omega), u.2.1, i_eq (by omega) (by omega)]
  unfold txt
  by_cases g : maj c i = 3
  · rw [if_pos g, decide_eq_true g, e_68_0, ok_sh hr (k := 68) rfl, g_t, ok_a4 hr (k := 68) rfl, g_t, in_ar hr q hx (by omega) (by omega), g_t, g_t, ok_a5 hr (k := 68) rfl, g_t, in_ar hr q hx (by omega) (by omega), g_t, n32_in (by omega) (by omega), g_t, n32_cl (by omega), n32_cl (show x < 2147483648 by omega), h4, h5, u.2.2.1, n32_sub (by omega), show f + n - f = n by omega, n32_i2l (by omega), i_ceq, i_leq (by omega) (by omega)]
    by_cases l : nmb c i = n
    · have fc := (h.2.2.2.2.1 i hi).1.2.2.2.1 (Or.inr g)
      rw [if_pos l, hch_lp hr h hi hf (by rw [← l]; exact fc) ht n 0 (Nat.zero_add _), cI_0, i_bz, e_66_263, e_66_264, e_66_264, nz_1, nz_0, decide_eq_true l]
      cases eqs c.1 t n (sta c i) f with
      | true => rfl
      | false => rfl
    · rw [if_neg l, cI_0, if_pos rfl, e_66_263, e_66_264, nz_0, decide_eq_false l]
      rfl
  · rw [if_neg g, e_66_263, e_66_264, nz_0, decide_eq_false g]
    rfl
