-- Matching in the reference: fits.
theorem ft0 (q d : Nat) {S : ab_S} {B : Nat → Nat → Nat → Bool} {c : ctx} {cnt bn : Nat} (hI : mI S c.1 c.2.1 cnt bn) {r p i lv pn : Nat} (hr : r < 8) (hi : i < cnt) (hl : lv ≤ 20) (hb : mB S B i cnt r p lv) {P : Nat → Nat → Nat} {tx : Nat → Nat} {tn : Nat} (hQ : mQ S r pn P tx tn) (hp : p < pn) (hk : P 0 p = 0) : v_117_0 q (d + 3) (n32 i) (n32 (64 * r + p)) (n32 lv) S = some ((0, n32 (fitP P tx c (Br B r) i p lv).toNat, 0, 0), S) := by
  have c24 := hI.1
  have p60 := hQ.1
  have row := hI.2.2.1.2 i hi
  have f := hI.2.2.2.2.2 i hi
  have o := hQ.2.1 p hp
  have m1 : S.1 137 i = n32 (maj c i) := row.2.1
  have m2 : S.2.1 138 i = n64 (nmb c i) := row.1
  have l1 : maj c i < 8 := f.1.1
  have l2 : nmb c i < 4294967296 := f.1.2.1
  have fp : fitP P tx c (Br B r) i p lv = decide (maj c i < 2) := by
    unfold fitP
    rw [hk]
    rfl
  rw [fp, e_117_0, n32_in (by omega) (by omega), g_t, n32_in (by omega) (by omega), g_t, n32_cl (show i < 2147483648 by omega), n32_cl (show 64 * r + p < 2147483648 by omega), o.1, hk, if_pos (rfl : n32 0 = n32 0), m1, i_lt (by omega) (by omega), e_117_91, e_117_91, nz_0, nz_1]
  by_cases g : maj c i < 2
  · rw [if_pos g, decide_eq_true g]
    rfl
  · rw [if_neg g, decide_eq_false g]
    rfl
theorem ft1 (q d : Nat) {S : ab_S} {B : Nat → Nat → Nat → Bool} {c : ctx} {cnt bn : Nat} (hI : mI S c.1 c.2.1 cnt bn) {r p i lv pn : Nat} (hr : r < 8) (hi : i < cnt) (hl : lv ≤ 20) (hb : mB S B i cnt r p lv) {P : Nat → Nat → Nat} {tx : Nat → Nat} {tn : Nat} (hQ : mQ S r pn P tx tn) (hp : p < pn) (hk : P 0 p = 1) : v_117_0 q (d + 3) (n32 i) (n32 (64 * r + p)) (n32 lv) S = some ((0, n32 (fitP P tx c (Br B r) i p lv).toNat, 0, 0), S) := by
  have c24 := hI.1
  have p60 := hQ.1
  have row := hI.2.2.1.2 i hi
  have f := hI.2.2.2.2.2 i hi
  have o := hQ.2.1 p hp
  have m1 : S.1 137 i = n32 (maj c i) := row.2.1
  have m2 : S.2.1 138 i = n64 (nmb c i) := row.1
  have l1 : maj c i < 8 := f.1.1
  have l2 : nmb c i < 4294967296 := f.1.2.1
  have fp : fitP P tx c (Br B r) i p lv = decide (maj c i = 2) := by
    unfold fitP
    rw [hk]
    rfl
  rw [fp, e_117_0, n32_in (by omega) (by omega), g_t, n32_in (by omega) (by omega), g_t, n32_cl (show i < 2147483648 by omega), n32_cl (show 64 * r + p < 2147483648 by omega), o.1, hk, if_neg (by decide : ¬ n32 1 = n32 0), if_pos (rfl : n32 1 = n32 1), m1, i_eq (by omega) (by omega), e_117_103, e_117_103, nz_0, nz_1]
  by_cases g : maj c i = 2
  · rw [if_pos g, decide_eq_true g]
    rfl
  · rw [if_neg g, decide_eq_false g]
    rfl
theorem ft2 (q d : Nat) {S : ab_S} {B : Nat → Nat → Nat → Bool} {c : ctx} {cnt bn : Nat} (hI : mI S c.1 c.2.1 cnt bn) {r p i lv pn : Nat} (hr : r < 8) (hi : i < cnt) (hl : lv ≤ 20) (hb : mB S B i cnt r p lv) {P : Nat → Nat → Nat} {tx : Nat → Nat} {tn : Nat} (hQ : mQ S r pn P tx tn) (hp : p < pn) (hk : P 0 p = 2) : v_117_0 q (d + 3) (n32 i) (n32 (64 * r + p)) (n32 lv) S = some ((0, n32 (fitP P tx c (Br B r) i p lv).toNat, 0, 0), S) := by
  have c24 := hI.1
  have p60 := hQ.1
  have row := hI.2.2.1.2 i hi
  have f := hI.2.2.2.2.2 i hi
  have o := hQ.2.1 p hp
  have m1 : S.1 137 i = n32 (maj c i) := row.2.1
  have m2 : S.2.1 138 i = n64 (nmb c i) := row.1
  have l1 : maj c i < 8 := f.1.1
  have l2 : nmb c i < 4294967296 := f.1.2.1
  have fp : fitP P tx c (Br B r) i p lv = decide (maj c i = 3) := by
    unfold fitP
    rw [hk]
    rfl
  rw [fp, e_117_0, n32_in (by omega) (by omega), g_t, n32_in (by omega) (by omega), g_t, n32_cl (show i < 2147483648 by omega), n32_cl (show 64 * r + p < 2147483648 by omega), o.1, hk, if_neg (by decide : ¬ n32 2 = n32 0), if_neg (by decide : ¬ n32 2 = n32 1), if_pos (rfl : n32 2 = n32 2), m1, i_eq (by omega) (by omega), e_117_115, e_117_115, nz_0, nz_1]
  by_cases g : maj c i = 3
  · rw [if_pos g, decide_eq_true g]
    rfl
  · rw [if_neg g, decide_eq_false g]
    rfl
theorem ft3 (q d : Nat) {S : ab_S} {B : Nat → Nat → Nat → Bool} {c : ctx} {cnt bn : Nat} (hI : mI S c.1 c.2.1 cnt bn) {r p i lv pn : Nat} (hr : r < 8) (hi : i < cnt) (hl : lv ≤ 20) (hb : mB S B i cnt r p lv) {P : Nat → Nat → Nat} {tx : Nat → Nat} {tn : Nat} (hQ : mQ S r pn P tx tn) (hp : p < pn) (hk : P 0 p = 3) : v_117_0 q (d + 3) (n32 i) (n32 (64 * r + p)) (n32 lv) S = some ((0, n32 (fitP P tx c (Br B r) i p lv).toNat, 0, 0), S) := by
  have c24 := hI.1
  have p60 := hQ.1
  have row := hI.2.2.1.2 i hi
  have f := hI.2.2.2.2.2 i hi
  have o := hQ.2.1 p hp
  have m1 : S.1 137 i = n32 (maj c i) := row.2.1
  have m2 : S.2.1 138 i = n64 (nmb c i) := row.1
  have l1 : maj c i < 8 := f.1.1
  have l2 : nmb c i < 4294967296 := f.1.2.1
  have fp : fitP P tx c (Br B r) i p lv = (decide (maj c i = 7) && decide (nmb c i < 22)) := by
    unfold fitP
    rw [hk]
    rfl
  rw [fp, e_117_0, n32_in (by omega) (by omega), g_t, n32_in (by omega) (by omega), g_t, n32_cl (show i < 2147483648 by omega), n32_cl (show 64 * r + p < 2147483648 by omega), o.1, hk, if_neg (by decide : ¬ n32 3 = n32 0), if_neg (by decide : ¬ n32 3 = n32 1), if_neg (by decide : ¬ n32 3 = n32 2), if_pos (rfl : n32 3 = n32 3), m1, i_eq (by omega) (by omega), g_t, m2, i_clt, i_llt (by omega) (by omega), e_117_140, e_117_141, e_117_141, nz_0, nz_1]
  by_cases g : maj c i = 7
  · rw [if_pos g, decide_eq_true g]
    by_cases g2 : nmb c i < 22
    · rw [if_pos g2, decide_eq_true g2]
      rfl
    · rw [if_neg g2, decide_eq_false g2]
      rfl
  · rw [if_neg g, decide_eq_false g]
    rfl
theorem ft4 (q d : Nat) {S : ab_S} {B : Nat → Nat → Nat → Bool} {c : ctx} {cnt bn : Nat} (hI : mI S c.1 c.2.1 cnt bn) {r p i lv pn : Nat} (hr : r < 8) (hi : i < cnt) (hl : lv ≤ 20) (hb : mB S B i cnt r p lv) {P : Nat → Nat → Nat} {tx : Nat → Nat} {tn : Nat} (hQ : mQ S r pn P tx tn) (hp : p < pn) (hk : P 0 p = 4) : v_117_0 q (d + 3) (n32 i) (n32 (64 * r + p)) (n32 lv) S = some ((0, n32 (fitP P tx c (Br B r) i p lv).toNat, 0, 0), S) := by
  have c24 := hI.1
  have p60 := hQ.1
  have row := hI.2.2.1.2 i hi
  have f := hI.2.2.2.2.2 i hi
  have o := hQ.2.1 p hp
  have m1 : S.1 137 i = n32 (maj c i) := row.2.1
  have m2 : S.2.1 138 i = n64 (nmb c i) := row.1
  have l1 : maj c i < 8 := f.1.1
  have l2 : nmb c i < 4294967296 := f.1.2.1
  have fp : fitP P tx c (Br B r) i p lv = (decide (maj c i = 7) && decide (nmb c i = 22)) := by
    unfold fitP
    rw [hk]
    rfl
  rw [fp, e_117_0, n32_in (by omega) (by omega), g_t, n32_in (by omega) (by omega), g_t, n32_cl (show i < 2147483648 by omega), n32_cl (show 64 * r + p < 2147483648 by omega), o.1, hk, if_neg (by decide : ¬ n32 4 = n32 0), if_neg (by decide : ¬ n32 4 = n32 1), if_neg (by decide : ¬ n32 4 = n32 2), if_neg (by decide : ¬ n32 4 = n32 3), if_pos (rfl : n32 4 = n32 4), m1, i_eq (by omega) (by omega), g_t, m2, i_ceq, i_leq (by omega) (by omega), e_117_166, e_117_167, e_117_167, nz_0, nz_1]
  by_cases g : maj c i = 7
  · rw [if_pos g, decide_eq_true g]
    by_cases g2 : nmb c i = 22
    · rw [if_pos g2, decide_eq_true g2]
      rfl
    · rw [if_neg g2, decide_eq_false g2]
      rfl
  · rw [if_neg g, decide_eq_false g]
    rfl
theorem ft5 (q d : Nat) {S : ab_S} {B : Nat → Nat → Nat → Bool} {c : ctx} {cnt bn : Nat} (hI : mI S c.1 c.2.1 cnt bn) {r p i lv pn : Nat} (hr : r < 8) (hi : i < cnt) (hl : lv ≤ 20) (hb : mB S B i cnt r p lv) {P : Nat → Nat → Nat} {tx : Nat → Nat} {tn : Nat} (hQ : mQ S r pn P tx tn) (hp : p < pn) (hk : P 0 p = 5) : v_117_0 q (d + 3) (n32 i) (n32 (64 * r + p)) (n32 lv) S = some ((0, n32 (fitP P tx c (Br B r) i p lv).toNat, 0, 0), S) := by
  have c24 := hI.1
  have p60 := hQ.1
  have row := hI.2.2.1.2 i hi
  have f := hI.2.2.2.2.2 i hi
  have o := hQ.2.1 p hp
  have m1 : S.1 137 i = n32 (maj c i) := row.2.1
  have m2 : S.2.1 138 i = n64 (nmb c i) := row.1
  have l1 : maj c i < 8 := f.1.1
  have l2 : nmb c i < 4294967296 := f.1.2.1
  have fp : fitP P tx c (Br B r) i p lv = true := by
    unfold fitP
    rw [hk]
    rfl
  rw [fp, e_117_0, n32_in (by omega) (by omega), g_t, n32_in (by omega) (by omega), g_t, n32_cl (show i < 2147483648 by omega), n32_cl (show 64 * r + p < 2147483648 by omega), o.1, hk, if_neg (by decide : ¬ n32 5 = n32 0), if_neg (by decide : ¬ n32 5 = n32 1), if_neg (by decide : ¬ n32 5 = n32 2), if_neg (by decide : ¬ n32 5 = n32 3), if_neg (by decide : ¬ n32 5 = n32 4), if_pos (rfl : n32 5 = n32 5)]
  rfl
theorem ft6 (q d : Nat) {S : ab_S} {B : Nat → Nat → Nat → Bool} {c : ctx} {cnt bn : Nat} (hI : mI S c.1 c.2.1 cnt bn) {r p i lv pn : Nat} (hr : r < 8) (hi : i < cnt) (hl : lv ≤ 20) (hb : mB S B i cnt r p lv) {P : Nat → Nat → Nat} {tx : Nat → Nat} {tn : Nat} (hQ : mQ S r pn P tx tn) (hp : p < pn) (hk : P 0 p = 6) : v_117_0 q (d + 3) (n32 i) (n32 (64 * r + p)) (n32 lv) S = some ((0, n32 (fitP P tx c (Br B r) i p lv).toNat, 0, 0), S) := by
  have c24 := hI.1
  have p60 := hQ.1
  have row := hI.2.2.1.2 i hi
  have f := hI.2.2.2.2.2 i hi
  have o := hQ.2.1 p hp
  have m1 : S.1 137 i = n32 (maj c i) := row.2.1
  have m2 : S.2.1 138 i = n64 (nmb c i) := row.1
  have l1 : maj c i < 8 := f.1.1
  have l2 : nmb c i < 4294967296 := f.1.2.1
  have fp : fitP P tx c (Br B r) i p lv = (decide (maj c i < 2) && (decide ((n32 (P 1 p)).toInt64 ≤ val c i) && decide (val c i ≤ (n32 (P 2 p)).toInt64))) := by
    unfold fitP
    rw [hk]
    rfl
  have o1 : S.1 126 (64 * r + p) = n32 (P 1 p) := by
    rw [o.2.1, hk]
    rfl
  have o2 : S.1 127 (64 * r + p) = n32 (P 2 p) := by
    rw [o.2.2.1, hk]
    rfl
  rw [fp, e_117_0, n32_in (by omega) (by omega), g_t, n32_in (by omega) (by omega), g_t, n32_cl (show i < 2147483648 by omega), n32_cl (show 64 * r + p < 2147483648 by omega), o.1, hk, if_neg (by decide : ¬ n32 6 = n32 0), if_neg (by decide : ¬ n32 6 = n32 1), if_neg (by decide : ¬ n32 6 = n32 2), if_neg (by decide : ¬ n32 6 = n32 3), if_neg (by decide : ¬ n32 6 = n32 4), if_neg (by decide : ¬ n32 6 = n32 5), if_pos (rfl : n32 6 = n32 6), m1, i_lt (by omega) (by omega), val_v q (d + 2) hI hi, cL_0, g_t, o1, i_clt, val_v q (d + 2) hI hi, cL_0, g_t, o2, i_cgt, e_117_212, e_117_213, e_117_213, nz_0, nz_1]
  by_cases g : maj c i < 2
  · rw [if_pos g, decide_eq_true g]
    by_cases g2 : val c i < (n32 (P 1 p)).toInt64
    · rw [if_pos g2, decide_eq_false (Int64.not_le.mpr g2)]
      rfl
    · rw [if_neg g2, decide_eq_true (Int64.not_lt.mp g2)]
      by_cases g3 : (n32 (P 2 p)).toInt64 < val c i
      · rw [if_pos g3, decide_eq_false (Int64.not_le.mpr g3)]
        rfl
      · rw [if_neg g3, decide_eq_true (Int64.not_lt.mp g3)]
        rfl
  · rw [if_neg g, decide_eq_false g]
    rfl
theorem ft7 (q d : Nat) {S : ab_S} {B : Nat → Nat → Nat → Bool} {c : ctx} {cnt bn : Nat} (hI : mI S c.1 c.2.1 cnt bn) {r p i lv pn : Nat} (hr : r < 8) (hi : i < cnt) (hl : lv ≤ 20) (hb : mB S B i cnt r p lv) {P : Nat → Nat → Nat} {tx : Nat → Nat} {tn : Nat} (hQ : mQ S r pn P tx tn) (hp : p < pn) (hk : P 0 p = 7) (h40 : P 2 p ≤ 40) (hne : ∀ k, k < P 2 p → tx (P 1 p + k) ≠ 0) : v_117_0 q (d + 3) (n32 i) (n32 (64 * r + p)) (n32 lv) S = some ((0, n32 (fitP P tx c (Br B r) i p lv).toNat, 0, 0), S) := by
  have c24 := hI.1
  have p60 := hQ.1
  have row := hI.2.2.1.2 i hi
  have f := hI.2.2.2.2.2 i hi
  have o := hQ.2.1 p hp
  have m1 : S.1 137 i = n32 (maj c i) := row.2.1
  have m2 : S.2.1 138 i = n64 (nmb c i) := row.1
  have l1 : maj c i < 8 := f.1.1
  have l2 : nmb c i < 4294967296 := f.1.2.1
  have fp : fitP P tx c (Br B r) i p lv = txt tx (P 1 p) (P 2 p) c i lv := by
    unfold fitP
    rw [hk]
    rfl
  rw [fp, e_117_0, n32_in (by omega) (by omega), g_t, n32_in (by omega) (by omega), g_t, n32_cl (show i < 2147483648 by omega), n32_cl (show 64 * r + p < 2147483648 by omega), o.1, hk, if_neg (by decide : ¬ n32 7 = n32 0), if_neg (by decide : ¬ n32 7 = n32 1), if_neg (by decide : ¬ n32 7 = n32 2), if_neg (by decide : ¬ n32 7 = n32 3), if_neg (by decide : ¬ n32 7 = n32 4), if_neg (by decide : ¬ n32 7 = n32 5), if_neg (by decide : ¬ n32 7 = n32 6), if_pos (rfl : n32 7 = n32 7), lit_v q (d + 2) hI hr hi hQ hp hk h40 hne lv, cI_0, bo_nz]
theorem ft8 (q d : Nat) {S : ab_S} {B : Nat → Nat → Nat → Bool} {c : ctx} {cnt bn : Nat} (hI : mI S c.1 c.2.1 cnt bn) {r p i lv pn : Nat} (hr : r < 8) (hi : i < cnt) (hl : lv ≤ 20) (hb : mB S B i cnt r p lv) {P : Nat → Nat → Nat} {tx : Nat → Nat} {tn : Nat} (hQ : mQ S r pn P tx tn) (hp : p < pn) (hk : P 0 p = 8) {n ey : Nat} (hey : ey ≤ pn) (h6 : n ≤ 6) (h8 : rch P false n (p + 1) (P 1 p) ey) : v_117_0 q (d + 3) (n32 i) (n32 (64 * r + p)) (n32 lv) S = some ((0, n32 (fitP P tx c (Br B r) i p lv).toNat, 0, 0), S) := by
  have c24 := hI.1
  have p60 := hQ.1
  have row := hI.2.2.1.2 i hi
  have f := hI.2.2.2.2.2 i hi
  have o := hQ.2.1 p hp
  have m1 : S.1 137 i = n32 (maj c i) := row.2.1
  have m2 : S.2.1 138 i = n64 (nmb c i) := row.1
  have l1 : maj c i < 8 := f.1.1
  have l2 : nmb c i < 4294967296 := f.1.2.1
  have fp : fitP P tx c (Br B r) i p lv = (decide (maj c i = 4) && entC P c (hv (Br B r) (lv + 1)) (bhd c i) 128 (P 1 p) (i + 1)) := by
    unfold fitP
    rw [hk]
    rfl
  have o1 : S.1 126 (64 * r + p) = eO (64 * r) (P 1 p) := by
    rw [o.2.1, hk]
    rfl
  rw [fp, e_117_0, n32_in (by omega) (by omega), g_t, n32_in (by omega) (by omega), g_t, n32_cl (show i < 2147483648 by omega), n32_cl (show 64 * r + p < 2147483648 by omega), o.1, hk, if_neg (by decide : ¬ n32 8 = n32 0), if_neg (by decide : ¬ n32 8 = n32 1), if_neg (by decide : ¬ n32 8 = n32 2), if_neg (by decide : ¬ n32 8 = n32 3), if_neg (by decide : ¬ n32 8 = n32 4), if_neg (by decide : ¬ n32 8 = n32 5), if_neg (by decide : ¬ n32 8 = n32 6), if_neg (by decide : ¬ n32 8 = n32 7), if_pos (rfl : n32 8 = n32 8), m1, i_eq (by omega) (by omega)]
  by_cases g : maj c i = 4
  · have f5 := f.1.2.2.2.2.2.1
    have g' : c.2.1 0 i = 4 := g
    rw [g', show inn 4 (c.2.1 1 i) = c.2.1 1 i from rfl] at f5
    rw [if_pos g, decide_eq_true g, e_113_0, n32_in (by omega) (by omega), g_t, n32_cl (by omega), o1, n32_add, ent_r q (d + 1) hI hr hi hl hb hQ hey n 128 (p + 1) (P 1 p) (i + 1) (by omega) h8 (by omega) ⟨_, f5⟩, cI_0, i_bz, e_117_241, e_117_242, e_117_242, nz_0, nz_1, Bool.true_and]
    cases entC P c (hv (Br B r) (lv + 1)) (bhd c i) 128 (P 1 p) (i + 1) <;> rfl
  · rw [if_neg g, decide_eq_false g, e_117_241, e_117_242, nz_0]
    rfl
theorem ft9 (q d : Nat) {S : ab_S} {B : Nat → Nat → Nat → Bool} {c : ctx} {cnt bn : Nat} (hI : mI S c.1 c.2.1 cnt bn) {r p i lv pn : Nat} (hr : r < 8) (hi : i < cnt) (hl : lv ≤ 20) (hb : mB S B i cnt r p lv) {P : Nat → Nat → Nat} {tx : Nat → Nat} {tn : Nat} (hQ : mQ S r pn P tx tn) (hp : p < pn) (hk : P 0 p = 9) {n ey : Nat} (hey : ey ≤ pn) (h6 : n ≤ 6) (h8 : rch P true n (p + 1) (P 1 p) ey) : ∃ T, m56 S T ∧ v_117_0 q (d + 3) (n32 i) (n32 (64 * r + p)) (n32 lv) S = some ((0, n32 (fitP P tx c (Br B r) i p lv).toNat, 0, 0), T) := by
  have c24 := hI.1
  have p60 := hQ.1
  have row := hI.2.2.1.2 i hi
  have f := hI.2.2.2.2.2 i hi
  have o := hQ.2.1 p hp
  have m1 : S.1 137 i = n32 (maj c i) := row.2.1
  have m2 : S.2.1 138 i = n64 (nmb c i) := row.1
  have l1 : maj c i < 8 := f.1.1
  have l2 : nmb c i < 4294967296 := f.1.2.1
  have fp : fitP P tx c (Br B r) i p lv = (decide (maj c i = 5) && anyF (fun s => shrC P c (hv (Br B r) (lv + 1)) (bhd c i) (P 1 p) 24 (i + 1) (fun s => decide (s = 0)) s && nedC P 128 (P 1 p) 0 s) 64 0) := by
    unfold fitP
    rw [hk]
    rfl
  by_cases g : maj c i = 5
  · obtain ⟨T, t1, t2⟩ := map_v q d hI hr hi hl hb hQ hp hk hey h6 h8 g
    refine ⟨T, t1, ?_⟩
    rw [fp, e_117_0, n32_in (by omega) (by omega), g_t, n32_in (by omega) (by omega), g_t, n32_cl (show i < 2147483648 by omega), n32_cl (show 64 * r + p < 2147483648 by omega), o.1, hk, if_neg (by decide : ¬ n32 9 = n32 0), if_neg (by decide : ¬ n32 9 = n32 1), if_neg (by decide : ¬ n32 9 = n32 2), if_neg (by decide : ¬ n32 9 = n32 3), if_neg (by decide : ¬ n32 9 = n32 4), if_neg (by decide : ¬ n32 9 = n32 5), if_neg (by decide : ¬ n32 9 = n32 6), if_neg (by decide : ¬ n32 9 = n32 7), if_neg (by decide : ¬ n32 9 = n32 8), if_pos (rfl : n32 9 = n32 9), m1, i_eq (by omega) (by omega), if_pos g, decide_eq_true g, t2, cI_0, i_bz, e_117_263, e_117_264, e_117_264, nz_0, nz_1, Bool.true_and]
    cases anyF (fun s => shrC P c (hv (Br B r) (lv + 1)) (bhd c i) (P 1 p) 24 (i + 1) (fun s => decide (s = 0)) s && nedC P 128 (P 1 p) 0 s) 64 0 <;> rfl
  · refine ⟨S, m56_rf S, ?_⟩
    rw [fp, e_117_0, n32_in (by omega) (by omega), g_t, n32_in (by omega) (by omega), g_t, n32_cl (show i < 2147483648 by omega), n32_cl (show 64 * r + p < 2147483648 by omega), o.1, hk, if_neg (by decide : ¬ n32 9 = n32 0), if_neg (by decide : ¬ n32 9 = n32 1), if_neg (by decide : ¬ n32 9 = n32 2), if_neg (by decide : ¬ n32 9 = n32 3), if_neg (by decide : ¬ n32 9 = n32 4), if_neg (by decide : ¬ n32 9 = n32 5), if_neg (by decide : ¬ n32 9 = n32 6), if_neg (by decide : ¬ n32 9 = n32 7), if_neg (by decide : ¬ n32 9 = n32 8), if_pos (rfl : n32 9 = n32 9), m1, i_eq (by omega) (by omega), if_neg g, decide_eq_false g, e_117_263, e_117_264, nz_0]
    rfl
theorem ft10 (q d : Nat) {S : ab_S} {B : Nat → Nat → Nat → Bool} {c : ctx} {cnt bn : Nat} (hI : mI S c.1 c.2.1 cnt bn) {r p i lv pn : Nat} (hr : r < 8) (hi : i < cnt) (hl : lv ≤ 20) (hb : mB S B i cnt r p lv) {P : Nat → Nat → Nat} {tx : Nat → Nat} {tn : Nat} (hQ : mQ S r pn P tx tn) (hp : p < pn) (hk : P 0 p = 10) (h8 : P 1 p < 8) {D : Nat → Bool} (hD : S.1 120 (P 1 p) = n32 (D (P 1 p)).toNat) (hR : c.2.2 (P 1 p) i (lv + 1) = (D (P 1 p) && hv (Br B (P 1 p)) (lv + 1) i 0)) : v_117_0 q (d + 3) (n32 i) (n32 (64 * r + p)) (n32 lv) S = some ((0, n32 (fitP P tx c (Br B r) i p lv).toNat, 0, 0), S) := by
  have c24 := hI.1
  have p60 := hQ.1
  have row := hI.2.2.1.2 i hi
  have f := hI.2.2.2.2.2 i hi
  have o := hQ.2.1 p hp
  have m1 : S.1 137 i = n32 (maj c i) := row.2.1
  have m2 : S.2.1 138 i = n64 (nmb c i) := row.1
  have l1 : maj c i < 8 := f.1.1
  have l2 : nmb c i < 4294967296 := f.1.2.1
  have fp : fitP P tx c (Br B r) i p lv = c.2.2 (P 1 p) i (lv + 1) := by
    unfold fitP
    rw [hk]
    rfl
  have o1 : S.1 126 (64 * r + p) = n32 (P 1 p) := by
    rw [o.2.1, hk]
    rfl
  have hu : v_110_0 q (d + 2) (n32 i) (n32 (64 * P 1 p)) (n32 (lv + 1)) S = some ((0, n32 (hv (Br B (P 1 p)) (lv + 1) i 0).toNat, 0, 0), S) := has_u q (d + 2) c24 hr hl hb (Nat.le_refl i) hi (by omega : 0 < 60) h8
  rw [fp, e_117_0, n32_in (by omega) (by omega), g_t, n32_in (by omega) (by omega), g_t, n32_cl (show i < 2147483648 by omega), n32_cl (show 64 * r + p < 2147483648 by omega), o.1, hk, if_neg (by decide : ¬ n32 10 = n32 0), if_neg (by decide : ¬ n32 10 = n32 1), if_neg (by decide : ¬ n32 10 = n32 2), if_neg (by decide : ¬ n32 10 = n32 3), if_neg (by decide : ¬ n32 10 = n32 4), if_neg (by decide : ¬ n32 10 = n32 5), if_neg (by decide : ¬ n32 10 = n32 6), if_neg (by decide : ¬ n32 10 = n32 7), if_neg (by decide : ¬ n32 10 = n32 8), if_neg (by decide : ¬ n32 10 = n32 9), if_pos (rfl : n32 10 = n32 10), g_t, o1, n32_in (by omega) h8, g_t, n32_cl (by omega), hD, i_bz, n32_mul, n32_add, hu, cI_0, i_bz, e_117_303, e_117_304, e_117_304, nz_0, nz_1, hR]
  cases D (P 1 p) with
  | false => rfl
  | true => cases hv (Br B (P 1 p)) (lv + 1) i 0 <;> rfl
theorem ft11 (q d : Nat) {S : ab_S} {B : Nat → Nat → Nat → Bool} {c : ctx} {cnt bn : Nat} (hI : mI S c.1 c.2.1 cnt bn) {r p i lv pn : Nat} (hr : r < 8) (hi : i < cnt) (hl : lv ≤ 20) (hb : mB S B i cnt r p lv) {P : Nat → Nat → Nat} {tx : Nat → Nat} {tn : Nat} (hQ : mQ S r pn P tx tn) (hp : p < pn) (hk : P 0 p = 11) {l : List ral} {ey : Nat} (hey : ey ≤ pn) (g1 : P 1 p = rfs l) (g2 : rly (p + 1) l ey) (g3 : rlk P l) : v_117_0 q (d + 3) (n32 i) (n32 (64 * r + p)) (n32 lv) S = some ((0, n32 (fitP P tx c (Br B r) i p lv).toNat, 0, 0), S) := by
  have c24 := hI.1
  have p60 := hQ.1
  have row := hI.2.2.1.2 i hi
  have f := hI.2.2.2.2.2 i hi
  have o := hQ.2.1 p hp
  have m1 : S.1 137 i = n32 (maj c i) := row.2.1
  have m2 : S.2.1 138 i = n64 (nmb c i) := row.1
  have l1 : maj c i < 8 := f.1.1
  have l2 : nmb c i < 4294967296 := f.1.2.1
  have fp : fitP P tx c (Br B r) i p lv = anyC P (fun a => hv (Br B r) lv i a) 128 (P 1 p) := by
    unfold fitP
    rw [hk]
    rfl
  have o1 : S.1 126 (64 * r + p) = eO (64 * r) (P 1 p) := by
    rw [o.2.1, hk]
    rfl
  have an := any_v q (d + 1) c24 hr hl hi hb p60 hQ.2.1 hey l 128 (p + 1) false (Nat.lt_succ_self _) g2 g3 (by omega)
  rw [Bool.false_or, ← g1] at an
  have an' : v_116_11 q (d + 2) (n32 i) (n32 lv) (n32 0) (eO (64 * r) (P 1 p)) S = _ := an
  rw [fp, e_117_0, n32_in (by omega) (by omega), g_t, n32_in (by omega) (by omega), g_t, n32_cl (show i < 2147483648 by omega), n32_cl (show 64 * r + p < 2147483648 by omega), o.1, hk, if_neg (by decide : ¬ n32 11 = n32 0), if_neg (by decide : ¬ n32 11 = n32 1), if_neg (by decide : ¬ n32 11 = n32 2), if_neg (by decide : ¬ n32 11 = n32 3), if_neg (by decide : ¬ n32 11 = n32 4), if_neg (by decide : ¬ n32 11 = n32 5), if_neg (by decide : ¬ n32 11 = n32 6), if_neg (by decide : ¬ n32 11 = n32 7), if_neg (by decide : ¬ n32 11 = n32 8), if_neg (by decide : ¬ n32 11 = n32 9), if_neg (by decide : ¬ n32 11 = n32 10), if_pos (rfl : n32 11 = n32 11), e_116_0, n32_in (by omega) (by omega), g_t, n32_cl (by omega), o1, an', cI_0, bo_nz]
theorem ft12 (q d : Nat) {S : ab_S} {B : Nat → Nat → Nat → Bool} {c : ctx} {cnt bn : Nat} (hI : mI S c.1 c.2.1 cnt bn) {r p i lv pn : Nat} (hr : r < 8) (hi : i < cnt) (hl : lv ≤ 20) (hb : mB S B i cnt r p lv) {P : Nat → Nat → Nat} {tx : Nat → Nat} {tn : Nat} (hQ : mQ S r pn P tx tn) (hp : p < pn) (hk : P 0 p = 12) (h1 : P 1 p < 10) (h2 : P 2 p < pn) : v_117_0 q (d + 3) (n32 i) (n32 (64 * r + p)) (n32 lv) S = some ((0, n32 (fitP P tx c (Br B r) i p lv).toNat, 0, 0), S) := by
  have c24 := hI.1
  have p60 := hQ.1
  have row := hI.2.2.1.2 i hi
  have f := hI.2.2.2.2.2 i hi
  have o := hQ.2.1 p hp
  have m1 : S.1 137 i = n32 (maj c i) := row.2.1
  have m2 : S.2.1 138 i = n64 (nmb c i) := row.1
  have l1 : maj c i < 8 := f.1.1
  have l2 : nmb c i < 4294967296 := f.1.2.1
  have fp : fitP P tx c (Br B r) i p lv = (decide (maj c i = 6) && (decide (nmb c i = P 1 p) && hv (Br B r) (lv + 1) (i + 1) (P 2 p))) := by
    unfold fitP
    rw [hk]
    rfl
  have o1 : S.1 126 (64 * r + p) = n32 (P 1 p) := by
    rw [o.2.1, hk]
    rfl
  have o2 : S.1 127 (64 * r + p) = n32 (64 * r + P 2 p) := by
    rw [o.2.2.1, hk]
    exact eO_some (by omega)
  rw [fp, e_117_0, n32_in (by omega) (by omega), g_t, n32_in (by omega) (by omega), g_t, n32_cl (show i < 2147483648 by omega), n32_cl (show 64 * r + p < 2147483648 by omega), o.1, hk, if_neg (by decide : ¬ n32 12 = n32 0), if_neg (by decide : ¬ n32 12 = n32 1), if_neg (by decide : ¬ n32 12 = n32 2), if_neg (by decide : ¬ n32 12 = n32 3), if_neg (by decide : ¬ n32 12 = n32 4), if_neg (by decide : ¬ n32 12 = n32 5), if_neg (by decide : ¬ n32 12 = n32 6), if_neg (by decide : ¬ n32 12 = n32 7), if_neg (by decide : ¬ n32 12 = n32 8), if_neg (by decide : ¬ n32 12 = n32 9), if_neg (by decide : ¬ n32 12 = n32 10), if_neg (by decide : ¬ n32 12 = n32 11), if_pos (rfl : n32 12 = n32 12), m1, i_eq (by omega) (by omega), g_t, g_t, g_t, m2, o1, o2, n32_i2l (by omega), i_ceq, i_leq (by omega) (by omega), n32_add, n32_add]
  by_cases g : maj c i = 6
  · have f5 := f.1.2.2.2.2.2.1
    have g' : c.2.1 0 i = 6 := g
    rw [g', show inn 6 (c.2.1 1 i) = 1 from rfl] at f5
    have f51 := f5.1
    have f52 := f.2
    rw [if_pos g, decide_eq_true g]
    by_cases g2 : nmb c i = P 1 p
    · rw [if_pos g2, decide_eq_true g2, has_u q (d + 2) c24 hr hl hb (by omega) (by omega) (by omega) hr, cI_0, i_bz, e_117_360, e_117_361, e_117_361, nz_0, nz_1, Bool.true_and, Bool.true_and]
      cases hv (Br B r) (lv + 1) (i + 1) (P 2 p) <;> rfl
    · rw [if_neg g2, decide_eq_false g2, e_117_360, e_117_361, nz_0]
      rfl
  · rw [if_neg g, decide_eq_false g, e_117_360, e_117_361, nz_0]
    rfl
theorem ft13 (q d : Nat) {S : ab_S} {B : Nat → Nat → Nat → Bool} {c : ctx} {cnt bn : Nat} (hI : mI S c.1 c.2.1 cnt bn) {r p i lv pn : Nat} (hr : r < 8) (hi : i < cnt) (hl : lv ≤ 20) (hb : mB S B i cnt r p lv) {P : Nat → Nat → Nat} {tx : Nat → Nat} {tn : Nat} (hQ : mQ S r pn P tx tn) (hp : p < pn) (hk : P 0 p = 13) : v_117_0 q (d + 3) (n32 i) (n32 (64 * r + p)) (n32 lv) S = some ((0, n32 (fitP P tx c (Br B r) i p lv).toNat, 0, 0), S) := by
  have c24 := hI.1
  have p60 := hQ.1
  have row := hI.2.2.1.2 i hi
  have f := hI.2.2.2.2.2 i hi
  have o := hQ.2.1 p hp
  have m1 : S.1 137 i = n32 (maj c i) := row.2.1
  have m2 : S.2.1 138 i = n64 (nmb c i) := row.1
  have l1 : maj c i < 8 := f.1.1
  have l2 : nmb c i < 4294967296 := f.1.2.1
  have fp : fitP P tx c (Br B r) i p lv = false := by
    unfold fitP
    rw [hk]
    rfl
  rw [fp, e_117_0, n32_in (by omega) (by omega), g_t, n32_in (by omega) (by omega), g_t, n32_cl (show i < 2147483648 by omega), n32_cl (show 64 * r + p < 2147483648 by omega), o.1, hk, if_neg (by decide : ¬ n32 13 = n32 0), if_neg (by decide : ¬ n32 13 = n32 1), if_neg (by decide : ¬ n32 13 = n32 2), if_neg (by decide : ¬ n32 13 = n32 3), if_neg (by decide : ¬ n32 13 = n32 4), if_neg (by decide : ¬ n32 13 = n32 5), if_neg (by decide : ¬ n32 13 = n32 6), if_neg (by decide : ¬ n32 13 = n32 7), if_neg (by decide : ¬ n32 13 = n32 8), if_neg (by decide : ¬ n32 13 = n32 9), if_neg (by decide : ¬ n32 13 = n32 10), if_neg (by decide : ¬ n32 13 = n32 11), if_neg (by decide : ¬ n32 13 = n32 12)]
  rfl
theorem ft14 (q d : Nat) {S : ab_S} {B : Nat → Nat → Nat → Bool} {c : ctx} {cnt bn : Nat} (hI : mI S c.1 c.2.1 cnt bn) {r p i lv pn : Nat} (hr : r < 8) (hi : i < cnt) (hl : lv ≤ 20) (hb : mB S B i cnt r p lv) {P : Nat → Nat → Nat} {tx : Nat → Nat} {tn : Nat} (hQ : mQ S r pn P tx tn) (hp : p < pn) (hk : P 0 p = 14) : v_117_0 q (d + 3) (n32 i) (n32 (64 * r + p)) (n32 lv) S = some ((0, n32 (fitP P tx c (Br B r) i p lv).toNat, 0, 0), S) := by
  have c24 := hI.1
  have p60 := hQ.1
  have row := hI.2.2.1.2 i hi
  have f := hI.2.2.2.2.2 i hi
  have o := hQ.2.1 p hp
  have m1 : S.1 137 i = n32 (maj c i) := row.2.1
  have m2 : S.2.1 138 i = n64 (nmb c i) := row.1
  have l1 : maj c i < 8 := f.1.1
  have l2 : nmb c i < 4294967296 := f.1.2.1
  have fp : fitP P tx c (Br B r) i p lv = false := by
    unfold fitP
    rw [hk]
    rfl
  rw [fp, e_117_0, n32_in (by omega) (by omega), g_t, n32_in (by omega) (by omega), g_t, n32_cl (show i < 2147483648 by omega), n32_cl (show 64 * r + p < 2147483648 by omega), o.1, hk, if_neg (by decide : ¬ n32 14 = n32 0), if_neg (by decide : ¬ n32 14 = n32 1), if_neg (by decide : ¬ n32 14 = n32 2), if_neg (by decide : ¬ n32 14 = n32 3), if_neg (by decide : ¬ n32 14 = n32 4), if_neg (by decide : ¬ n32 14 = n32 5), if_neg (by decide : ¬ n32 14 = n32 6), if_neg (by decide : ¬ n32 14 = n32 7), if_neg (by decide : ¬ n32 14 = n32 8), if_neg (by decide : ¬ n32 14 = n32 9), if_neg (by decide : ¬ n32 14 = n32 10), if_neg (by decide : ¬ n32 14 = n32 11), if_neg (by decide : ¬ n32 14 = n32 12)]
  rfl
def RR (D : Nat → Bool) (B : Nat → Nat → Nat → Bool) : Nat → Nat → Nat → Bool := fun r i l => D r && hv (Br B r) l i 0
/-- whether an item fits a part -/
theorem fit_v (q d : Nat) {S : ab_S} {B : Nat → Nat → Nat → Bool} {b : Nat → Nat} {I : Nat → Nat → Nat} {D : Nat → Bool} {cnt bn : Nat} (hI : mI S b I cnt bn) {r p i lv pn : Nat} (hr : r < 8) (hi : i < cnt) (hl : lv ≤ 20) (hb : mB S B i cnt r p lv) {P : Nat → Nat → Nat} {tx : Nat → Nat} {tn : Nat} (hQ : mQ S r pn P tx tn) (hp : p < pn) (hD : ∀ r, r < 8 → S.1 120 r = n32 (D r).toNat) : ∃ T, m56 S T ∧ v_117_0 q (d + 3) (n32 i) (n32 (64 * r + p)) (n32 lv) S = some ((0, n32 (fitP P tx (b, I, RR D B) (Br B r) i p lv).toNat, 0, 0), T) := by
  obtain ⟨ey, a1, a2, a3, ⟨s1, s2, s3, s4, s5, s6, s7, s8, s9, s10⟩, a5⟩ := hQ.2.2.1 p (Nat.zero_le _) hp
  have hI' : mI S (b, I, RR D B).1 (b, I, RR D B).2.1 cnt bn := hI
  have hk : P 0 p = 0 ∨ P 0 p = 1 ∨ P 0 p = 2 ∨ P 0 p = 3 ∨ P 0 p = 4 ∨ P 0 p = 5 ∨ P 0 p = 6 ∨ P 0 p = 7 ∨ P 0 p = 8 ∨ P 0 p = 9 ∨ P 0 p = 10 ∨ P 0 p = 11 ∨ P 0 p = 12 ∨ P 0 p = 13 ∨ P 0 p = 14 := by omega
  rcases hk with k | k | k | k | k | k | k | k | k | k | k | k | k | k | k
  · exact ⟨S, m56_rf S, ft0 q d hI' hr hi hl hb hQ hp k⟩
  · exact ⟨S, m56_rf S, ft1 q d hI' hr hi hl hb hQ hp k⟩
  · exact ⟨S, m56_rf S, ft2 q d hI' hr hi hl hb hQ hp k⟩
  · exact ⟨S, m56_rf S, ft3 q d hI' hr hi hl hb hQ hp k⟩
  · exact ⟨S, m56_rf S, ft4 q d hI' hr hi hl hb hQ hp k⟩
  · exact ⟨S, m56_rf S, ft5 q d hI' hr hi hl hb hQ hp k⟩
  · exact ⟨S, m56_rf S, ft6 q d hI' hr hi hl hb hQ hp k⟩
  · exact ⟨S, m56_rf S, ft7 q d hI' hr hi hl hb hQ hp k (s2 k).1 (s2 k).2⟩
  · obtain ⟨n, n1, n2⟩ := s7 k
    exact ⟨S, m56_rf S, ft8 q d hI' hr hi hl hb hQ hp k a2 n1 n2⟩
  · obtain ⟨n, n1, n2⟩ := s8 k
    exact ft9 q d hI' hr hi hl hb hQ hp k a2 n1 n2
  · exact ⟨S, m56_rf S, ft10 q d hI' hr hi hl hb hQ hp k (s3 k) (hD _ (s3 k)) rfl⟩
  · obtain ⟨l, l1, l2, l3⟩ := s6 k
    exact ⟨S, m56_rf S, ft11 q d hI' hr hi hl hb hQ hp k a2 l1 l2 l3⟩
  · exact ⟨S, m56_rf S, ft12 q d hI' hr hi hl hb hQ hp k (s4 k) (by have := s5 (Or.inl k); omega)⟩
  · exact ⟨S, m56_rf S, ft13 q d hI' hr hi hl hb hQ hp k⟩
  · exact ⟨S, m56_rf S, ft14 q d hI' hr hi hl hb hQ hp k⟩
