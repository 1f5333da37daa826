-- The reference reads types: its steps.
theorem uP_s (P : Nat → Nat → Nat) (j p v : Nat) : uP P j p v j p = v := if_pos ⟨rfl, rfl⟩
theorem uP_j (P : Nat → Nat → Nat) {j p v a b : Nat} (h : a ≠ j) : uP P j p v a b = P a b := if_neg (fun x => h x.1)
theorem uP_p (P : Nat → Nat → Nat) {j p v a b : Nat} (h : b ≠ p) : uP P j p v a b = P a b := if_neg (fun x => h x.2)
theorem uP_id {P : Nat → Nat → Nat} {j p v : Nat} (h : P j p = v) : uP P j p v = P := by
  funext a b
  unfold uP
  by_cases g : a = j ∧ b = p
  · rw [if_pos g, g.1, g.2, h]
  · rw [if_neg g]
theorem mkP_s (P : Nat → Nat → Nat) (pn k a b : Nat) : mkP P pn k a b 0 pn = k ∧ mkP P pn k a b 1 pn = a ∧ mkP P pn k a b 2 pn = b ∧ mkP P pn k a b 3 pn = 4294967295 ∧ mkP P pn k a b 4 pn = 0 := by
  refine ⟨?_, ?_, ?_, ?_, ?_⟩ <;> (unfold mkP; rw [if_pos rfl]; rfl)
theorem mkP_o (P : Nat → Nat → Nat) {pn k a b j p : Nat} (h : p ≠ pn) : mkP P pn k a b j p = P j p := if_neg h
theorem eO_ge {o v : Nat} (h : v < 1000) (ho : o ≤ 1000) : eO o v = n32 (o + v) := eO_some (by omega)
theorem i_eO {α : Type} {v : Nat} (h : v = 4294967295 ∨ v < 1000) (x y : α) : (if eO 512 v < n32 0 then x else y) = if v = 4294967295 then x else y := by
  rcases h with h | h
  · rw [h, eO_none, if_pos neg_0, if_pos rfl]
  · rw [eO_ge h (by decide), i_lt (by omega) (by omega), if_neg (by omega), if_neg (by omega)]
def attP (P K : Nat → Nat → Nat) (dp p : Nat) : Nat → Nat → Nat := if K 6 dp = 0 then (if K 4 dp = 4294967295 then uP P 1 (K 2 dp) p else uP P 3 (K 4 dp) p) else uP P 1 (K 3 dp) p
def attK (K : Nat → Nat → Nat) (dp p : Nat) : Nat → Nat → Nat := if K 6 dp = 0 then uP K 4 dp p else K
/-- the level is ready for an alternative -/
def wfL (P K : Nat → Nat → Nat) (pn dp : Nat) : Prop := (K 6 dp = 0 ∧ K 2 dp < pn ∧ P 0 (K 2 dp) = 11 ∧ (K 4 dp = 4294967295 ∨ K 4 dp < pn)) ∨ (K 6 dp = 1 ∧ 1 ≤ dp ∧ K 3 dp < pn ∧ P 0 (K 3 dp) = 14)
theorem at_v (q d : Nat) {t : Nat → Nat} {n : Nat} {S : ab_S} {at' bd dp al pn ld br : Nat} {P K : Nat → Nat → Nat} (h : RS S t n at' bd dp al pn ld br P K) (hd : dp ≤ 4) (hp : pn ≤ 128) (hw : wfL P K pn dp) {p : Nat} (hpp : p < 128) : ∃ S', gr S S' ∧ RS S' t n at' bd dp al pn ld br (attP P K dp p) (attK K dp p) ∧ v_85_0 q d (n32 (512 + p)) S = some ((0, 0, 0, 0), S') := by
  have k := h.2.2.2.2.2.2.2.2.2.2 dp (Nat.le_refl _)
  have ep : n32 (512 + p) = eO 512 p := (eO_ge (by omega) (by decide)).symm
  rw [e_85_0, h.2.2.2.2.1, n32_in (by omega) (by omega), g_t, n32_cl (by omega), k.2.2.2.1, k.2.1, k.2.2.1, e_85_95, e_85_95, e_85_95, g_t, g_t, g_t]
  unfold attP attK
  rcases hw with ⟨w6, w2, w11, w4⟩ | ⟨w6, w1, w3, w14⟩
  · rw [w6, if_pos rfl, if_pos rfl, if_pos rfl, i_eO (by omega)]
    by_cases l : K 4 dp = 4294967295
    · rw [if_pos l, if_pos l, eO_ge (by omega : K 2 dp < 1000) (by decide), n32_in (by omega) (by omega), g_t, n32_cl (by omega), ep]
      exact ⟨_, gr_wi (gr_wi (gr_rf S) _ (by omega)) _ (by omega), RS_k (RS_p h (j := 1) (Or.inl rfl) (fun _ => by rw [w11]; rfl) nofun p) (j := 4) (by omega) dp p _ rfl, rfl⟩
    · rw [if_neg l, if_neg l, g_t, eO_ge (by omega : K 4 dp < 1000) (by decide), n32_in (by omega) (by omega), g_t, n32_cl (by omega), ep]
      exact ⟨_, gr_wi (gr_wi (gr_rf S) _ (by omega)) _ (by omega), RS_k (RS_p h (j := 3) (Or.inr (Or.inr rfl)) nofun nofun p) (j := 4) (by omega) dp p _ rfl, rfl⟩
  · rw [w6, if_neg one_z, if_neg (by omega), if_neg (by omega), (k.2.2.2.2 w1).2.1, eO_ge (by omega : K 3 dp < 1000) (by decide), n32_in (by omega) (by omega), g_t, n32_cl (by omega), ep]
    exact ⟨_, gr_wi (gr_rf S) _ (by omega), RS_p h (j := 1) (Or.inl rfl) (fun _ => by rw [w14]; rfl) nofun p, rfl⟩
def pshK (K : Nat → Nat → Nat) (l b p : Nat) : Nat → Nat → Nat := fun j x => if x = l then (if j = 0 then b else if j = 1 then p else if j = 2 then p else if j = 3 then 4294967295 else if j = 4 then 4294967295 else 0) else K j x
theorem pu_v (q d : Nat) {t : Nat → Nat} {n : Nat} {S : ab_S} {at' bd dp al pn ld br : Nat} {P K : Nat → Nat → Nat} (h : RS S t n at' bd dp al pn ld br P K) (hd : dp ≤ 4) (b : Nat) {p : Nat} (hpp : p < 128) : (dp = 4 → ∃ S', gr S S' ∧ RS S' t n at' 1 dp al pn ld br P K ∧ v_82_0 q d (n32 b) (n32 (512 + p)) S = some ((0, 0, 0, 0), S')) ∧ (dp < 4 → ∃ S', gr S S' ∧ RS S' t n at' bd (dp + 1) al pn ld br P (pshK K (dp + 1) b p) ∧ v_82_0 q d (n32 b) (n32 (512 + p)) S = some ((0, 0, 0, 0), S')) := by
  rw [e_82_0, h.2.2.2.2.1, i_eq (by omega) (by omega), n32_add]
  refine ⟨fun e => ?_, fun e => ?_⟩
  · rw [if_pos e]
    exact ⟨_, gr_wi (gr_rf S) _ (by omega), RS_bd h 1, rfl⟩
  · rw [if_neg (by omega), n32_in (by omega) (by omega), g_t, g_t, g_t, g_t, g_t, g_t, g_t, n32_cl (by omega), n32_m1]
    refine ⟨_, ?_, ?_, rfl⟩
    · exact gr_wi (gr_wi (gr_wi (gr_wi (gr_wi (gr_wi (gr_wi (gr_wi (gr_rf S) _ (by omega)) _ (by omega)) _ (by omega)) _ (by omega)) _ (by omega)) _ (by omega)) _ (by omega)) _ (by omega)
    refine ⟨h.1, h.2.1, h.2.2.1, h.2.2.2.1, rfl, h.2.2.2.2.2.1, h.2.2.2.2.2.2.1, h.2.2.2.2.2.2.2.1, h.2.2.2.2.2.2.2.2.1, h.2.2.2.2.2.2.2.2.2.1, fun l hl => ?_⟩
    have ep : n32 (512 + p) = eO 512 p := (eO_ge (by omega) (by decide)).symm
    by_cases el : l = dp + 1
    · subst el
      have m (j : Nat) : pshK K (dp + 1) b p j (dp + 1) = (if j = 0 then b else if j = 1 then p else if j = 2 then p else if j = 3 then 4294967295 else if j = 4 then 4294967295 else 0) := if_pos rfl
      unfold rK
      rw [m 0, m 1, m 2, m 3, m 4, m 5, m 6]
      refine ⟨?_, ?_, ?_, ?_, fun _ => ⟨?_, ?_, ?_⟩⟩
      · rw [wi_rd, if_neg (by omega), wi_rd, if_neg (by omega), wi_rd, if_neg (by omega), wi_rd, if_neg (by omega), wi_rd, if_neg (by omega), wi_rd, if_neg (by omega), wi_rd, if_pos ⟨rfl, rfl⟩]; rfl
      · rw [wi_rd, if_neg (by omega), wi_rd, if_neg (by omega), wi_rd, if_neg (by omega), wi_rd, if_neg (by omega), wi_rd, if_pos ⟨rfl, rfl⟩, ep]; rfl
      · rw [wi_rd, if_neg (by omega), wi_rd, if_neg (by omega), wi_rd, if_pos ⟨rfl, rfl⟩]; rfl
      · rw [wi_rd, if_pos ⟨rfl, rfl⟩]; rfl
      · rw [wi_rd, if_neg (by omega), wi_rd, if_neg (by omega), wi_rd, if_neg (by omega), wi_rd, if_neg (by omega), wi_rd, if_neg (by omega), wi_rd, if_pos ⟨rfl, rfl⟩, ep]; rfl
      · rw [wi_rd, if_neg (by omega), wi_rd, if_neg (by omega), wi_rd, if_neg (by omega), wi_rd, if_pos ⟨rfl, rfl⟩]; rfl
      · rw [wi_rd, if_neg (by omega), wi_rd, if_pos ⟨rfl, rfl⟩]; rfl
    · have o := h.2.2.2.2.2.2.2.2.2.2 l (by omega)
      have m (j : Nat) : pshK K (dp + 1) b p j l = K j l := if_neg el
      unfold rK
      rw [m 0, m 1, m 2, m 3, m 4, m 5, m 6]
      have w (c : Nat) (hc : c ≠ 117) : (ab_wi (ab_wi (ab_wi (ab_wi (ab_wi (ab_wi (ab_wi (ab_wi S 117 17 (n32 (dp + 1))) 130 (dp + 1) (n32 b)) 131 (dp + 1) (n32 (512 + p))) 132 (dp + 1) (n32 (512 + p))) 133 (dp + 1) (n32 4294967295)) 134 (dp + 1) (n32 4294967295)) 135 (dp + 1) (n32 0)) 136 (dp + 1) (n32 0)).1 c l = S.1 c l := by
        rw [wi_rd, if_neg (by omega), wi_rd, if_neg (by omega), wi_rd, if_neg (by omega), wi_rd, if_neg (by omega), wi_rd, if_neg (by omega), wi_rd, if_neg (by omega), wi_rd, if_neg (by omega), wi_rd, if_neg (by omega)]
      rw [w 130 (by decide), w 131 (by decide), w 132 (by decide), w 133 (by decide), w 134 (by decide), w 135 (by decide), w 136 (by decide)]
      exact o
def nwP (P : Nat → Nat → Nat) (pn : Nat) : Nat → Nat → Nat := mkP P pn 11 4294967295 0
def nwK (K : Nat → Nat → Nat) (dp pn : Nat) : Nat → Nat → Nat := uP (uP K 2 dp pn) 4 dp 4294967295
theorem nt_v (q d : Nat) {t : Nat → Nat} {n : Nat} {S : ab_S} {at' bd dp al pn ld br : Nat} {P K : Nat → Nat → Nat} (h : RS S t n at' bd dp al pn ld br P K) (hd : dp ≤ 4) (hp : pn < 128) : ∃ S', gr S S' ∧ RS S' t n at' bd dp al (pn + 1) ld br (nwP P pn) (nwK K dp pn) ∧ v_83_0 q (d + 1) S = some ((0, n32 (512 + pn), 0, 0), S') := by
  obtain ⟨S1, a1, a2, a3⟩ := mk_v q d h hp 11 4294967295 0
  have e : v_81_0 q d (n32 11) (i32 (-1)) (n32 0) S = v_81_0 q d (n32 11) (eA 512 11 4294967295) (eB 512 11 0) S := by
    rw [n32_m1]
    rfl
  have ep : n32 (512 + pn) = eO 512 pn := (eO_ge (by omega) (by decide)).symm
  refine ⟨ab_wi (ab_wi S1 132 dp (n32 (512 + pn))) 134 dp (n32 4294967295), gr_wi (gr_wi a1 _ (by omega)) _ (by omega), ?_, ?_⟩
  · exact RS_k (RS_k a2 (j := 2) (by omega) dp pn _ ep) (j := 4) (by omega) dp 4294967295 _ (eO_none 512).symm
  · rw [e_83_0, e, a3, cI_0, a2.2.2.2.2.1, n32_in (by omega) (by omega), g_t, g_t, n32_cl (by omega), n32_m1]
def barA (K : Nat → Nat → Nat) : Nat → Nat → Bool
  | 0, _ => true
  | m + 1, k => decide (K 0 k = 40) && barA K m (k + 1)
def bar (K : Nat → Nat → Nat) (dp : Nat) : Bool := barA K dp 1
theorem bar_lp (q d : Nat) {t : Nat → Nat} {n : Nat} {S : ab_S} {at' bd dp al pn ld br : Nat} {P K : Nat → Nat → Nat} (h : RS S t n at' bd dp al pn ld br P K) (hd : dp ≤ 4) (hk : ∀ l, 1 ≤ l → l ≤ dp → K 0 l < 128) : ∀ m k (f : Bool), 1 ≤ k → k + m = dp + 1 → v_86_4 q d (n32 f.toNat) (n32 k) S = some ((0, n32 (f && barA K m k).toNat, 0, 0), S)
  | 0, k, f, h1, e => by
    rw [e_86_4, h.2.2.2.2.1, if_pos (by rw [n32_lt (by omega) (by omega)]; omega), bo_nz]
    unfold barA
    rw [Bool.and_true]
  | m + 1, k, f, h1, e => by
    have kk := h.2.2.2.2.2.2.2.2.2.2 k (by omega)
    have k1 := hk k h1 (by omega)
    have ih := bar_lp q d h hd hk m (k + 1)
    have n0 : v_86_32 q d (n32 k) (n32 0) S = some ((0, n32 0, 0, 0), S) := by
      rw [e_86_32, n32_add]
      exact ih false (by omega) (by omega)
    rw [e_86_4, h.2.2.2.2.1, if_neg (by rw [n32_lt (by omega) (by omega)]; omega), i_bz, n32_in (by omega) (by omega), g_t, n32_cl (by omega), kk.1, i_eq (by omega) (by omega), e_86_31, n0]
    unfold barA
    cases f with
    | false => rfl
    | true =>
      rw [if_pos rfl]
      by_cases g : K 0 k = 40
      · rw [if_pos g, decide_eq_true g, e_86_32, n32_add]
        exact ih true (by omega) (by omega)
      · rw [if_neg g, decide_eq_false g]
        rfl
theorem bar_v (q d : Nat) {t : Nat → Nat} {n : Nat} {S : ab_S} {at' bd dp al pn ld br : Nat} {P K : Nat → Nat → Nat} (h : RS S t n at' bd dp al pn ld br P K) (hd : dp ≤ 4) (hk : ∀ l, 1 ≤ l → l ≤ dp → K 0 l < 128) : v_86_0 q d S = some ((0, n32 (bar K dp).toNat, 0, 0), S) := by
  rw [e_86_0]
  exact bar_lp q d h hd hk dp 1 true (Nat.le_refl _) (by omega)
theorem wd_w (q d : Nat) {c : Nat} (hc : c < 128) (S : ab_S) : v_91_0 q d (n32 c) S = some ((0, n32 (if c = 105 then 0 else if c = 115 then 1 else if c = 116 then 2 else if c = 98 then 3 else if c = 110 then 4 else if c = 121 then 5 else 4294967295), 0, 0), S) := by
  rw [e_91_0, i_eq (by omega) (by omega), i_eq (by omega) (by omega), i_eq (by omega) (by omega), i_eq (by omega) (by omega), i_eq (by omega) (by omega), i_eq (by omega) (by omega), e_91_61, e_91_61, e_91_61, e_91_61, e_91_61, e_91_61, e_91_61, n32_m1]
  by_cases a1 : c = 105
  · rw [if_pos a1, if_pos a1]
  rw [if_neg a1, if_neg a1]
  by_cases a2 : c = 115
  · rw [if_pos a2, if_pos a2]
  rw [if_neg a2, if_neg a2]
  by_cases a3 : c = 116
  · rw [if_pos a3, if_pos a3]
  rw [if_neg a3, if_neg a3]
  by_cases a4 : c = 98
  · rw [if_pos a4, if_pos a4]
  rw [if_neg a4, if_neg a4]
  by_cases a5 : c = 110
  · rw [if_pos a5, if_pos a5]
  rw [if_neg a5, if_neg a5]
  by_cases a6 : c = 121
  · rw [if_pos a6, if_pos a6]
  rw [if_neg a6, if_neg a6]
-- integers
theorem rdg_v (q d : Nat) {t : Nat → Nat} {n : Nat} (ht : tok t n) (u1 : Int32) : ∀ k j v S at' bd dp al pn ld br P K, RS S t n at' bd dp al pn ld br P K → bd ≤ 1 → at' ≤ n → j + k = 4 → ∃ S', gr S S' ∧ ((dig (chr t n (dgs t n k at' v).2) = false ∧ (0 < j ∨ at' < (dgs t n k at' v).2) ∧ RS S' t n (dgs t n k at' v).2 bd dp al pn ld br P K ∧ v_87_11 q (d + 1) u1 (n32 v) (n32 j) S = v_87_76 q (d + 1) u1 (n32 (dgs t n k at' v).1) (n32 bd) S') ∨ (dig (chr t n (dgs t n k at' v).2) = false ∧ j = 0 ∧ at' = (dgs t n k at' v).2 ∧ ∃ z, RS S' t n at' 1 dp al pn ld br P K ∧ v_87_11 q (d + 1) u1 (n32 v) (n32 j) S = some ((0, z, 0, 0), S')) ∨ (dig (chr t n (dgs t n k at' v).2) = true ∧ ∃ z x, x ≤ n ∧ RS S' t n x 1 dp al pn ld br P K ∧ v_87_11 q (d + 1) u1 (n32 v) (n32 j) S = some ((0, z, 0, 0), S')))
  | k, j, v, S, at', bd, dp, al, pn, ld, br, P, K, h, hb, ha, e => by
    have c126 := chr_le ht at'
    rw [e_87_11, lk_v q d ht h ha, cI_0, idg_v q d (by omega), cI_0, i_bz]
    by_cases g : dig (chr t n at') = true
    · have gc := dig_c g
      have lt := chr_lt (t := t) (n := n) (p := at') rfl (by omega)
      rw [if_pos g, lk_v q d ht h ha, cI_0, n32_add, i_lt (by omega) (by omega), h.2.2.1, n32_add]
      cases k with
      | zero =>
        rw [if_pos (by omega)]
        exact ⟨_, gr_wi (gr_wi (gr_rf S) _ (by omega)) _ (by omega), Or.inr (Or.inr ⟨g, _, at' + 1, lt, RS_bd (RS_at h (at' + 1)) 1, rfl⟩)⟩
      | succ k =>
        rw [if_neg (by omega), n32_mul, n32_add, n32_sub (by omega), dgs_s, if_pos g, show 10 * v + chr t n at' - 48 = v * 10 + (chr t n at' - 48) by omega]
        obtain ⟨S', a1, a2⟩ := rdg_v q d ht u1 k (j + 1) (v * 10 + (chr t n at' - 48)) _ (at' + 1) bd dp al pn ld br P K (RS_at h (at' + 1)) hb lt (by omega)
        have dl := dgs_le (t := t) (n := n) k (at' + 1) (v * 10 + (chr t n at' - 48)) lt
        refine ⟨S', gr_tr (gr_wi (gr_rf S) _ (by omega)) a1, ?_⟩
        rcases a2 with ⟨b1, b2, b3, b4⟩ | ⟨b1, b2, b3⟩ | ⟨b1, b2⟩
        · exact Or.inl ⟨b1, Or.inr (by omega), b3, b4⟩
        · omega
        · exact Or.inr (Or.inr ⟨b1, b2⟩)
    · have dz : dgs t n k at' v = (v, at') := by
        cases k with
        | zero => rfl
        | succ k => rw [dgs_s, if_neg g]
      rw [if_neg g, dz, h.2.2.2.1, i_eq (by omega) (by omega), i_eq (by omega) (by omega), e_87_71]
      have gf : dig (chr t n at') = false := (Bool.not_eq_true _).mp g
      by_cases j0 : j = 0
      · refine ⟨ab_wi S 117 16 (n32 1), gr_wi (gr_rf S) _ (by omega), Or.inr (Or.inl ⟨gf, j0, rfl, ?_⟩)⟩
        rw [if_pos j0, ite_self, e_87_76, show ab_zb (n32 1) = true from rfl, g_t, e_87_89, e_87_89]
        by_cases u0 : u1 = n32 0
        · rw [if_pos u0]
          exact ⟨_, RS_bd h 1, rfl⟩
        · rw [if_neg u0]
          exact ⟨_, RS_bd h 1, rfl⟩
      · refine ⟨S, gr_rf S, Or.inl ⟨gf, Or.inl (by omega), h, ?_⟩⟩
        rw [if_neg j0]
        by_cases b0 : bd = 0
        · rw [if_pos b0, b0]
        · rw [if_neg b0, show bd = 1 by omega]
/-- an integer is read: it is one, and no digit stands behind it, or all is bad -/
theorem rin_v (q d : Nat) {t : Nat → Nat} {n : Nat} (ht : tok t n) {S : ab_S} {at' bd dp al pn ld br : Nat} {P K : Nat → Nat → Nat} (h : RS S t n at' bd dp al pn ld br P K) (hb : bd ≤ 1) (ha : at' ≤ n) : ∃ S', gr S S' ∧ ((∃ z, pin t n at' = some z ∧ dig (chr t n z.2) = false ∧ RS S' t n z.2 bd dp al pn ld br P K ∧ v_87_0 q (d + 2) S = some ((0, z.1, 0, 0), S')) ∨ ((∀ z, pin t n at' = some z → dig (chr t n z.2) = true) ∧ ∃ z x, x ≤ n ∧ RS S' t n x 1 dp al pn ld br P K ∧ v_87_0 q (d + 2) S = some ((0, z, 0, 0), S'))) := by
  have gen (p1 : Nat) (neg : Bool) (h1 : (if chr t n at' = 45 then at' + 1 else at') = p1) (h2 : decide (chr t n at' = 45) = neg) (hp : p1 ≤ n) (S1 : ab_S) (g1 : gr S S1) (r1 : RS S1 t n p1 bd dp al pn ld br P K) (e : v_87_0 q (d + 2) S = v_87_11 q (d + 2) (n32 neg.toNat) (n32 0) (n32 0) S1) : ∃ S', gr S S' ∧ ((∃ z, pin t n at' = some z ∧ dig (chr t n z.2) = false ∧ RS S' t n z.2 bd dp al pn ld br P K ∧ v_87_0 q (d + 2) S = some ((0, z.1, 0, 0), S')) ∨ ((∀ z, pin t n at' = some z → dig (chr t n z.2) = true) ∧ ∃ z x, x ≤ n ∧ RS S' t n x 1 dp al pn ld br P K ∧ v_87_0 q (d + 2) S = some ((0, z, 0, 0), S'))) := by
    rw [e, pin_c t n at' p1 neg h1 h2]
    obtain ⟨S', a1, a2⟩ := rdg_v q (d + 1) ht (n32 neg.toNat) 4 0 0 S1 p1 bd dp al pn ld br P K r1 hb hp rfl
    rcases a2 with ⟨b1, b2, b3, b4⟩ | ⟨b1, b2, b3, z, b4, b5⟩ | ⟨b1, z, x, b2, b3, b4⟩
    · have dg1 : dig (chr t n p1) = true := by
        cases g : dig (chr t n p1) with
        | true => rfl
        | false =>
          have : dgs t n 4 p1 0 = (0, p1) := by rw [dgs_s, g]; rfl
          rw [this] at b2
          have b2 : 0 < 0 ∨ p1 < p1 := b2
          omega
      refine ⟨ab_wi S' 117 16 (n32 bd), gr_tr g1 (gr_wi a1 _ (by omega)), Or.inl ⟨_, by rw [if_pos dg1], b1, RS_bd b3 bd, ?_⟩⟩
      have z0 : ab_zb (n32 bd) = true := by
        have : bd = 0 ∨ bd = 1 := by omega
        rcases this with x | x <;> rw [x] <;> rfl
      rw [b4, e_87_76, z0, g_t, i_bz, e_87_89, e_87_89]
      cases neg with
      | true => rfl
      | false => rfl
    · have dg1 : dig (chr t n p1) = false := by
        rw [← b3] at b1
        exact b1
      refine ⟨S', gr_tr g1 a1, Or.inr ⟨fun z hz => ?_, z, p1, hp, b4, b5⟩⟩
      rw [dg1] at hz
      cases hz
    · refine ⟨S', gr_tr g1 a1, Or.inr ⟨fun w hw => ?_, z, x, b2, b3, b4⟩⟩
      split at hw
      · cases hw
        exact b1
      · cases hw
  by_cases m : chr t n at' = 45
  · refine gen (at' + 1) true (if_pos m) (decide_eq_true m) (chr_lt m (by decide)) _ (gr_wi (gr_rf S) _ (by omega)) (RS_at h (at' + 1)) ?_
    rw [e_87_0, tk_v q _ ht h ha (by decide), if_pos m, cI_0]
    rfl
  · refine gen at' false (if_neg m) (decide_eq_false m) ha S (gr_rf S) h ?_
    rw [e_87_0, tk_v q _ ht h ha (by decide), if_neg m, cI_0]
    rfl
