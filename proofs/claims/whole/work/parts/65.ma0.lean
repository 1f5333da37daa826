-- Matching in the reference: the bits, types, literals.
def wS (S : ab_S) (i p : Nat) : Nat := (S.1 144 (512 * i + p)).toBitVec.toNat
theorem bit_w {s i : Nat} (hs : s < 2147483648) (hi : i < 32) : (n32 s >>> (n32 i &&& 31)) &&& n32 1 = n32 (s.testBit i).toNat := by
  rw [n32_shr hs hi, n32_and, Nat.and_one_is_mod, Nat.shiftRight_eq_div_pow, Nat.toNat_testBit]
theorem hasv (q d : Nat) {S : ab_S} {i p lv : Nat} (hi : i < 24) (hp : p < 512) (hl : lv ≤ 21) (hw : wS S i p < 2097152) : v_110_0 q d (n32 i) (n32 p) (n32 lv) S = some ((0, n32 (lvl lv ((wS S i p).testBit lv)).toNat, 0, 0), S) := by
  have w : S.1 144 (512 * i + p) = n32 (wS S i p) := n32_self _
  rw [e_110_0, i_lt (by omega) (by omega), n32_mul, n32_add, n32_in (by omega) (by omega), g_t, n32_cl (by omega), w, bit_w (by omega) (by omega), i_b1, e_110_30, e_110_31, e_110_31, nz_0, nz_1]
  unfold lvl
  by_cases g : 20 < lv
  · rw [if_pos g, decide_eq_false (by omega : ¬ lv ≤ 20)]
    rfl
  · rw [if_neg g, decide_eq_true (by omega : lv ≤ 20), Bool.true_and]
    cases (wS S i p).testBit lv <;> rfl
def mI (S : ab_S) (b : Nat → Nat) (I : Nat → Nat → Nat) (cnt bn : Nat) : Prop := cnt ≤ 24 ∧ bn ≤ 40 ∧ rtw S (cnt, I) ∧ rB b bn S ∧ (∀ i, i < bn → b i < 256) ∧ ∀ k, k < cnt → Fct bn I k ∧ I 4 k ≤ cnt
def mQ (S : ab_S) (r pn : Nat) (P : Nat → Nat → Nat) (tx : Nat → Nat) (tn : Nat) : Prop := pn ≤ 60 ∧ (∀ p, p < pn → rP (64 * r) S P p) ∧ sR tx P 0 pn 0 ∧ (∀ j, j < tn → S.1 121 (40 * r + j) = n32 (tx j)) ∧ tok tx tn ∧ ∀ j, tn ≤ j → tx j = 0
def mB (S : ab_S) (B : Nat → Nat → Nat → Bool) (i cnt r p lv : Nat) : Prop := (∀ x y, i ≤ x → x < cnt → y < 512 → wS S x y < 2097152) ∧ ∀ x y l, i ≤ x → x < cnt → y < 512 → l ≤ 20 → (i < x ∨ lv < l ∨ (l = lv ∧ 64 * r + p < y ∧ y < 64 * r + 64)) → (wS S x y).testBit l = B x y l
def Br (B : Nat → Nat → Nat → Bool) (r : Nat) : Nat → Nat → Nat → Bool := fun i p lv => B i (64 * r + p) lv
/-- only the flags are changed -/
def m56 (S S' : ab_S) : Prop := S'.2 = S.2 ∧ ∀ c j, c ≠ 145 → c ≠ 146 → S'.1 c j = S.1 c j
theorem m56_rf (S : ab_S) : m56 S S := ⟨rfl, fun _ _ _ _ => rfl⟩
theorem m56_tr {S S1 S2 : ab_S} (h : m56 S S1) (g : m56 S1 S2) : m56 S S2 := ⟨g.1.trans h.1, fun c j x y => (g.2 c j x y).trans (h.2 c j x y)⟩
theorem m56_wi {S S' : ab_S} (h : m56 S S') {c : Nat} (hc : c = 145 ∨ c = 146) (k : Nat) (v : Int32) : m56 S (ab_wi S' c k v) := ⟨h.1, fun c' j x y => by rw [wi_rd, if_neg (by omega)]; exact h.2 c' j x y⟩
theorem mI_fr {S S' : ab_S} {b : Nat → Nat} {I : Nat → Nat → Nat} {cnt bn : Nat} (h : mI S b I cnt bn) (g2 : S'.2 = S.2) (g : ∀ c j, c < 144 → S'.1 c j = S.1 c j) : mI S' b I cnt bn := by
  obtain ⟨h1, h2, h3, h4, h5⟩ := h
  refine ⟨h1, h2, ⟨(g _ _ (by omega)).trans h3.1, fun k hk => ?_⟩, ⟨(g _ _ (by omega)).trans h4.1, fun i hi => (g _ _ (by omega)).trans (h4.2 i hi)⟩, h5⟩
  rw [g2, g _ _ (by omega), g _ _ (by omega), g _ _ (by omega), g _ _ (by omega)]
  exact h3.2 k hk
theorem mQ_fr {S S' : ab_S} {r pn : Nat} {P : Nat → Nat → Nat} {tx : Nat → Nat} {tn : Nat} (h : mQ S r pn P tx tn) (g : ∀ c j, c < 144 → S'.1 c j = S.1 c j) : mQ S' r pn P tx tn := ⟨h.1, fun p hp => rP_fr (h.2.1 p hp) (fun c _ _ => g _ _ (by omega)), h.2.2.1, fun j hj => (g _ _ (by omega)).trans (h.2.2.2.1 j hj), h.2.2.2.2⟩
theorem mB_fr {S S' : ab_S} {B : Nat → Nat → Nat → Bool} {i cnt r p lv : Nat} (h : mB S B i cnt r p lv) (g : ∀ j, S'.1 144 j = S.1 144 j) : mB S' B i cnt r p lv := by
  have w (x y : Nat) : wS S' x y = wS S x y := by unfold wS; rw [g]
  exact ⟨fun x y a b c => by rw [w]; exact h.1 x y a b c, fun x y l a b c d e => by rw [w]; exact h.2 x y l a b c d e⟩
theorem has_u (q d : Nat) {S : ab_S} {B : Nat → Nat → Nat → Bool} {i cnt r p lv : Nat} (hc : cnt ≤ 24) (hr : r < 8) (hl : lv ≤ 20) (hb : mB S B i cnt r p lv) {x y : Nat} (hx : i ≤ x) (hx2 : x < cnt) (hy : y < 60) {r' : Nat} (hr' : r' < 8) : v_110_0 q d (n32 x) (n32 (64 * r' + y)) (n32 (lv + 1)) S = some ((0, n32 (hv (Br B r') (lv + 1) x y).toNat, 0, 0), S) := by
  rw [hasv q d (by omega) (by omega) (by omega) (hb.1 x _ hx hx2 (by omega))]
  unfold hv lvl
  by_cases g : lv + 1 ≤ 20
  · rw [hb.2 x _ (lv + 1) hx hx2 (by omega) g (by omega)]
    rfl
  · rw [decide_eq_false g]
    rfl
theorem has_s (q d : Nat) {S : ab_S} {B : Nat → Nat → Nat → Bool} {i cnt r p lv : Nat} (hc : cnt ≤ 24) (hr : r < 8) (hl : lv ≤ 20) (hi : i < cnt) (hb : mB S B i cnt r p lv) {y : Nat} (hy : y < 60) (hp : p < y) : v_110_0 q d (n32 i) (n32 (64 * r + y)) (n32 lv) S = some ((0, n32 (hv (Br B r) lv i y).toNat, 0, 0), S) := by
  rw [hasv q d (by omega) (by omega) (by omega) (hb.1 i _ (Nat.le_refl _) hi (by omega))]
  unfold hv lvl
  rw [hb.2 i _ lv (Nat.le_refl _) hi (by omega) hl (by omega)]
  rfl
theorem any_v (q d : Nat) {S : ab_S} {B : Nat → Nat → Nat → Bool} {i cnt r p lv pn : Nat} {P : Nat → Nat → Nat} (hc : cnt ≤ 24) (hr : r < 8) (hl : lv ≤ 20) (hi : i < cnt) (hb : mB S B i cnt r p lv) (h60 : pn ≤ 60) (hP : ∀ y, y < pn → rP (64 * r) S P y) {ey : Nat} (he : ey ≤ pn) : ∀ (l : List ral) n a (f : Bool), p < a → rly a l ey → rlk P l → 128 ≤ n + a → v_116_11 q (d + 1) (n32 i) (n32 lv) (n32 f.toNat) (eO (64 * r) (rfs l)) S = some ((0, n32 (f || anyC P (fun a => hv (Br B r) lv i a) n (rfs l)).toNat, 0, 0), S)
  | [], n, a, f, _, _, _, _ => by
    have z : anyC P (fun a => hv (Br B r) lv i a) n 4294967295 = false := by
      cases n with
      | zero => rfl
      | succ n => exact if_pos rfl
    rw [show rfs [] = 4294967295 from rfl, eO_none, e_116_11, if_pos m1_lt, bo_nz, z, Bool.or_false]
  | x :: l, n, a, f, ha, h1, h2, hn => by
    have b1 := rly_in _ _ _ h1 x (List.mem_cons_self ..)
    cases n with
    | zero => exact absurd hn (by omega)
    | succ n =>
      have o := hP x.1 (by omega)
      have nx (g : Bool) : v_116_37 q (d + 1) (n32 i) (n32 lv) (n32 (64 * r + x.1)) (n32 g.toNat) S = some ((0, n32 (g || anyC P (fun a => hv (Br B r) lv i a) n (P 3 x.1)).toNat, 0, 0), S) := by
        rw [e_116_37, n32_in (by omega) (by omega), g_t, n32_cl (by omega), o.2.2.2.1, h2.1]
        exact any_v q d hc hr hl hi hb h60 hP he l n x.2.1 g (by omega) h1.2.2 h2.2 (by omega)
      have z : anyC P (fun a => hv (Br B r) lv i a) (n + 1) (rfs (x :: l)) = (hv (Br B r) lv i x.1 || anyC P (fun a => hv (Br B r) lv i a) n (P 3 x.1)) := if_neg (by show ¬ x.1 = _; omega)
      have n1 := nx true
      have n0 := nx false
      rw [z, show rfs (x :: l) = x.1 from rfl, eO_some (by omega), e_116_11, if_neg (by rw [n32_lt (by omega) (by omega)]; omega), i_bz, has_s q d hc hr hl hi hb (by omega) (by omega), cI_0, i_bz, e_116_32]
      cases f with
      | true => exact n1
      | false =>
        cases hv (Br B r) lv i x.1 with
        | true => exact n1
        | false => exact n0
theorem n32_d64 : ∀ x, x < 512 → n32 x / n32 64 = n32 (x / 64) := by decide +kernel
theorem lit_lp (q d : Nat) {S : ab_S} {b : Nat → Nat} {I : Nat → Nat → Nat} {cnt bn : Nat} (hI : mI S b I cnt bn) {r p i pn : Nat} (hr : r < 8) (hi : i < cnt) {P : Nat → Nat → Nat} {tx : Nat → Nat} {tn : Nat} (hQ : mQ S r pn P tx tn) (hp : p < pn) (hk : P 0 p = 7) (h40 : P 2 p ≤ 40) (hne : ∀ k, k < P 2 p → tx (P 1 p + k) ≠ 0) : ∀ m k (f : Bool), k + m = P 2 p → (f = true → I 3 i + P 2 p ≤ bn) → v_111_39 q d (n32 i) (n32 (64 * r + p)) (n32 (P 2 p)) (n32 f.toNat) (n32 k) S = some ((0, n32 (f && eqs b tx m (I 3 i + k) (P 1 p + k)).toNat, 0, 0), S)
  | 0, k, f, e, _ => by
    rw [e_111_39, if_neg (by rw [n32_lt (by omega) (by omega)]; omega), e_111_102, bo_nz, show eqs b tx 0 (I 3 i + k) (P 1 p + k) = true from rfl, Bool.and_true]
  | m + 1, k, f, e, hf => by
    have p60 := hQ.1
    have c24 := hI.1
    have b40 := hI.2.1
    rw [e_111_39, if_pos (by rw [n32_lt (by omega) (by omega)]; omega), i_bz]
    cases f with
    | false =>
      rw [if_neg (by decide), e_111_102, bo_nz, Bool.false_and]
    | true =>
      have le := hf rfl
      have rw := hI.2.2.1.2 i hi
      have t0 := hne k (by omega)
      have tl : P 1 p + k < tn := by
        by_cases g : P 1 p + k < tn
        · exact g
        · exact absurd (hQ.2.2.2.2.2 _ (by omega)) t0
      have t40 := hQ.2.2.2.2.1
      have tk := t40.2 _ tl
      have tn40 := t40.1
      have o := (hQ.2.1 p hp).2.1
      rw [hk] at o
      have o' : S.1 126 (64 * r + p) = n32 (P 1 p) := o
      have a1 := hI.2.2.2.1.2 (I 3 i + k) (by omega)
      have a2 := hI.2.2.2.2.1 (I 3 i + k) (by omega)
      have a3 := hQ.2.2.2.1 _ tl
      have rr : S.1 141 i = n32 (I 3 i) := rw.2.2.2.1
      have nx (g : Bool) : v_111_39 q d (n32 i) (n32 (64 * r + p)) (n32 (P 2 p)) (n32 g.toNat) (n32 (k + 1)) S = some ((0, n32 (g && eqs b tx m (I 3 i + k + 1) (P 1 p + k + 1)).toNat, 0, 0), S) := lit_lp q d hI hr hi hQ hp hk h40 hne m (k + 1) g (by omega) (fun _ => le)
      rw [if_pos rfl, n32_in (by omega) (by omega), g_t, n32_cl (by omega), rr, n32_add, n32_in (by omega) (by omega), g_t, n32_in (by omega) (by omega), g_t, n32_d64 _ (by omega), show (64 * r + p) / 64 = r by omega, n32_cl (show 64 * r + p < 2147483648 by omega), o', n32_mul, n32_add, n32_add, n32_in (by omega) (by omega), g_t, n32_cl (by omega), n32_cl (by omega), a1, show 40 * r + P 1 p + k = 40 * r + (P 1 p + k) by omega, a3, i_eq (by omega) (by omega), e_111_94, e_111_94, n32_add]
      have es : eqs b tx (m + 1) (I 3 i + k) (P 1 p + k) = (decide (b (I 3 i + k) = tx (P 1 p + k)) && eqs b tx m (I 3 i + k + 1) (P 1 p + k + 1)) := rfl
      rw [es]
      by_cases g : b (I 3 i + k) = tx (P 1 p + k)
      · rw [if_pos g, decide_eq_true g]
        exact nx true
      · rw [if_neg g, decide_eq_false g]
        exact nx false
theorem lit_v (q d : Nat) {S : ab_S} {c : ctx} {cnt bn : Nat} (hI : mI S c.1 c.2.1 cnt bn) {r p i pn : Nat} (hr : r < 8) (hi : i < cnt) {P : Nat → Nat → Nat} {tx : Nat → Nat} {tn : Nat} (hQ : mQ S r pn P tx tn) (hp : p < pn) (hk : P 0 p = 7) (h40 : P 2 p ≤ 40) (hne : ∀ k, k < P 2 p → tx (P 1 p + k) ≠ 0) (lv : Nat) : v_111_0 q d (n32 i) (n32 (64 * r + p)) S = some ((0, n32 (txt tx (P 1 p) (P 2 p) c i lv).toNat, 0, 0), S) := by
  have p60 := hQ.1
  have c24 := hI.1
  have rw := hI.2.2.1.2 i hi
  have o := (hQ.2.1 p hp).2.2.1
  rw [hk] at o
  have o' : S.1 127 (64 * r + p) = n32 (P 2 p) := o
  have f := (hI.2.2.2.2.2 i hi).1
  have m1 : S.1 137 i = n32 (c.2.1 0 i) := rw.2.1
  have m2 : S.2.1 138 i = n64 (c.2.1 1 i) := rw.1
  have m3 := f.1
  have m4 := f.2.1
  rw [e_111_0, n32_in (by omega) (by omega), g_t, n32_in (by omega) (by omega), g_t, n32_cl (by omega), n32_cl (by omega), o', m1, i_eq (by omega) (by omega), g_t, m2, n32_i2l (by omega), i_ceq, i_leq (by omega) (by omega), e_111_33, e_111_34, e_111_34]
  have l0 : v_111_39 q d (n32 i) (n32 (64 * r + p)) (n32 (P 2 p)) (n32 0) (n32 0) S = some ((0, n32 0, 0, 0), S) := lit_lp q d hI hr hi hQ hp hk h40 hne (P 2 p) 0 false (Nat.zero_add _) nofun
  unfold txt maj nmb sta
  by_cases g : c.2.1 0 i = 3
  · rw [if_pos g, decide_eq_true g]
    by_cases k : c.2.1 1 i = P 2 p
    · rw [if_pos k, decide_eq_true k]
      have l1 : v_111_39 q d (n32 i) (n32 (64 * r + p)) (n32 (P 2 p)) (n32 1) (n32 0) S = some ((0, n32 (eqs c.1 tx (P 2 p) (c.2.1 3 i) (P 1 p)).toNat, 0, 0), S) := lit_lp q d hI hr hi hQ hp hk h40 hne (P 2 p) 0 true (Nat.zero_add _) (fun _ => by have := f.2.2.2.1 (Or.inr g); omega)
      exact l1
    · rw [if_neg k, decide_eq_false k]
      exact l0
  · rw [if_neg g, decide_eq_false g]
    exact l0
theorem val_v (q d : Nat) {S : ab_S} {c : ctx} {cnt bn : Nat} (hI : mI S c.1 c.2.1 cnt bn) {i : Nat} (hi : i < cnt) : v_112_0 q d (n32 i) S = some ((0, 0, val c i, 0), S) := by
  have c24 := hI.1
  have rw := hI.2.2.1.2 i hi
  have f := (hI.2.2.2.2.2 i hi).1.1
  have m1 : S.1 137 i = n32 (c.2.1 0 i) := rw.2.1
  have m2 : S.2.1 138 i = n64 (c.2.1 1 i) := rw.1
  rw [e_112_0, n32_in (by omega) (by omega), g_t, g_t, g_t, n32_cl (by omega), m1, i_eq (by omega) (by omega), m2, e_112_28, e_112_28]
  unfold val maj nmb
  by_cases g : c.2.1 0 i = 0
  · rw [if_pos g, if_pos g]
  · rw [if_neg g, if_neg g]
