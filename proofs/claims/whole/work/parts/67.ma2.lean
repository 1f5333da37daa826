-- Matching in the reference: a member for a pair.
def itr (P : Nat → Nat → Nat) : Nat → Nat → Nat
  | 0, a => a
  | n + 1, a => itr P n (P 3 a)
theorem itr_s (P : Nat → Nat → Nat) : ∀ n a, itr P (n + 1) a = P 3 (itr P n a)
  | 0, _ => rfl
  | n + 1, a => itr_s P n (P 3 a)
theorem rch_it {P : Nat → Nat → Nat} {mp : Bool} {b : Nat} : ∀ j n lo a, j ≤ n → rch P mp n lo a b → ∃ lo', lo ≤ lo' ∧ rch P mp (n - j) lo' (itr P j a) b
  | 0, n, lo, a, _, h => ⟨lo, Nat.le_refl _, h⟩
  | j + 1, 0, lo, a, hj, h => absurd hj (by omega)
  | j + 1, n + 1, lo, a, hj, h => by
    obtain ⟨h1, _, _, _, _, _, _, h8⟩ := h
    obtain ⟨lo', a1, a2⟩ := rch_it j n (a + 1) (P 3 a) (by omega) h8
    exact ⟨lo', by omega, by rw [show n + 1 - (j + 1) = n - j by omega]; exact a2⟩
theorem rch_ge {P : Nat → Nat → Nat} {mp : Bool} {b : Nat} {j n lo a : Nat} (hj : j < n) (h : rch P mp n lo a b) : lo ≤ itr P j a ∧ itr P j a < b := by
  obtain ⟨lo', a1, a2⟩ := rch_it j n lo a (by omega) h
  obtain ⟨k, hk⟩ : ∃ k, n - j = k + 1 := ⟨n - j - 1, by omega⟩
  rw [hk] at a2
  have := a2.1
  have := a2.2.1
  exact ⟨by omega, by omega⟩
def XC (h : Nat → Nat → Bool) (k : Nat) (P : Nat → Nat → Nat) : Nat → Nat → Bool
  | 0, _ => true
  | m + 1, a => !(h k (P 1 a) && sgl P (P 1 a)) && XC h k P m (P 3 a)
theorem XC_s (h : Nat → Nat → Bool) (k : Nat) (P : Nat → Nat → Nat) : ∀ m a, XC h k P (m + 1) a = (XC h k P m a && !(h k (P 1 (itr P m a)) && sgl P (P 1 (itr P m a))))
  | 0, a => by
    show (!(h k (P 1 a) && sgl P (P 1 a)) && true) = (true && !(h k (P 1 a) && sgl P (P 1 a)))
    rw [Bool.and_true, Bool.true_and]
  | m + 1, a => by
    show (!(h k (P 1 a) && sgl P (P 1 a)) && XC h k P (m + 1) (P 3 a)) = ((!(h k (P 1 a) && sgl P (P 1 a)) && XC h k P m (P 3 a)) && !(h k (P 1 (itr P m (P 3 a))) && sgl P (P 1 (itr P m (P 3 a)))))
    rw [XC_s h k P m (P 3 a), Bool.and_assoc]
theorem i_sgl {α : Type} {P : Nat → Nat → Nat} {y : Nat} (x z : α) : (if P 0 y = 7 then x else if P 0 y = 6 then (if P 4 y = 1 then x else z) else z) = if sgl P y = true then x else z := by
  unfold sgl
  by_cases a : P 0 y = 7 <;> by_cases b : P 0 y = 6 <;> by_cases c : P 4 y = 1 <;> simp [a, b, c]
theorem p4_b {t : Nat → Nat} {P : Nat → Nat → Nat} {pn : Nat} (h : sR t P 0 pn 0) {y : Nat} (hy : y < pn) : P 0 y ≤ 14 ∧ (P 0 y = 6 → P 4 y ≤ 1) := by
  obtain ⟨ey, a1, a2, a3, ⟨s1, s2, s3, s4, s5, s6, s7, s8, s9, s10⟩, a5⟩ := h y (Nat.zero_le _) hy
  exact ⟨s1, s10⟩
theorem may_lp (q d : Nat) {S : ab_S} {B : Nat → Nat → Nat → Bool} {cnt : Nat} (c24 : cnt ≤ 24) {r p i lv pn : Nat} (hr : r < 8) (hl : lv ≤ 20) (hb : mB S B i cnt r p lv) {P : Nat → Nat → Nat} {tx : Nat → Nat} {tn : Nat} (hQ : mQ S r pn P tx tn) {ey : Nat} (hey : ey ≤ pn) {k : Nat} (hk : i ≤ k) (hk2 : k < cnt) : ∀ m n lo cu (acc : Bool), m < n → rch P true n lo cu ey → v_114_54 q (d + 1) (n32 (64 * r + itr P m cu)) (n32 k) (n32 lv) (n32 acc.toNat) (n32 (64 * r + cu)) S = some ((0, n32 (acc && XC (hv (Br B r) (lv + 1)) k P m cu).toNat, 0, 0), S)
  | 0, n, lo, cu, acc, hm, h => by
    rw [show itr P 0 cu = cu from rfl, e_114_54, if_pos rfl, bo_nz, show XC (hv (Br B r) (lv + 1)) k P 0 cu = true from rfl, Bool.and_true]
  | m + 1, 0, lo, cu, acc, hm, h => absurd hm (by omega)
  | m + 1, n + 1, lo, cu, acc, hm, h => by
    obtain ⟨h1, h2, h3, h4, h5, h6, h7, h8⟩ := h
    have h7' := h7 rfl
    have p60 := hQ.1
    have ge := rch_ge (by omega : m < n) h8
    have nx3 : P 3 cu < ey := (rch_ge (j := 0) (by omega : 0 < n) h8).2
    have o := hQ.2.1 cu (by omega)
    have o1 : S.1 126 (64 * r + cu) = n32 (64 * r + P 1 cu) := by
      rw [o.2.1, h3]
      exact eO_some (by omega)
    have o3 : S.1 128 (64 * r + cu) = n32 (64 * r + P 3 cu) := by
      rw [o.2.2.2.1]
      exact eO_some (by omega)
    have ky := hQ.2.1 (P 1 cu) (by omega)
    have kb := p4_b hQ.2.2.1 (y := P 1 cu) (by omega)
    have nx (s : Bool) : v_114_109 q (d + 1) (n32 (64 * r + itr P m (P 3 cu))) (n32 k) (n32 lv) (n32 acc.toNat) (n32 (64 * r + cu)) (n32 (64 * r + P 1 cu)) (n32 s.toNat) S = some ((0, n32 ((acc && !(s && hv (Br B r) (lv + 1) k (P 1 cu))) && XC (hv (Br B r) (lv + 1)) k P m (P 3 cu)).toNat, 0, 0), S) := by
      have n2 (g : Bool) : v_114_140 q (d + 1) (n32 (64 * r + itr P m (P 3 cu))) (n32 k) (n32 lv) (n32 (64 * r + cu)) (n32 g.toNat) S = some ((0, n32 (g && XC (hv (Br B r) (lv + 1)) k P m (P 3 cu)).toNat, 0, 0), S) := by
        rw [e_114_140, n32_in (by omega) (by omega), g_t, n32_cl (by omega), o3]
        exact may_lp q d c24 hr hl hb hQ hey hk hk2 m n (cu + 1) (P 3 cu) g (by omega) h8
      have n21 := n2 true
      have n20 := n2 false
      rw [e_114_109, i_bz, i_bz, n32_add, has_u q d c24 hr hl hb hk hk2 (by omega) hr, cI_0, i_bz, e_114_135, e_114_139]
      cases acc with
      | false => exact n20
      | true =>
        cases s with
        | false => exact n21
        | true =>
          cases hv (Br B r) (lv + 1) k (P 1 cu) with
          | true => exact n20
          | false => exact n21
    have n1 := nx true
    have n0 := nx false
    have k1 : (if S.1 125 (64 * r + P 1 cu) = n32 7 then v_114_104 q (d + 1) (n32 (64 * r + itr P m (P 3 cu))) (n32 k) (n32 lv) (n32 acc.toNat) (n32 (64 * r + cu)) (n32 (64 * r + P 1 cu)) S else if S.1 125 (64 * r + P 1 cu) = n32 6 then (if S.1 129 (64 * r + P 1 cu) = n32 1 then v_114_104 q (d + 1) (n32 (64 * r + itr P m (P 3 cu))) (n32 k) (n32 lv) (n32 acc.toNat) (n32 (64 * r + cu)) (n32 (64 * r + P 1 cu)) S else v_114_108 q (d + 1) (n32 (64 * r + itr P m (P 3 cu))) (n32 k) (n32 lv) (n32 acc.toNat) (n32 (64 * r + cu)) (n32 (64 * r + P 1 cu)) S) else v_114_108 q (d + 1) (n32 (64 * r + itr P m (P 3 cu))) (n32 k) (n32 lv) (n32 acc.toNat) (n32 (64 * r + cu)) (n32 (64 * r + P 1 cu)) S) = v_114_109 q (d + 1) (n32 (64 * r + itr P m (P 3 cu))) (n32 k) (n32 lv) (n32 acc.toNat) (n32 (64 * r + cu)) (n32 (64 * r + P 1 cu)) (n32 (sgl P (P 1 cu)).toNat) S := by
      rw [ky.1, ky.2.2.2.2, i_eq (by omega) (by omega), i_eq (by omega) (by omega), e_114_104, e_114_108]
      by_cases a6 : P 0 (P 1 cu) = 6
      · have := kb.2 a6
        rw [i_eq (by omega) (by omega), i_sgl]
        cases sgl P (P 1 cu) <;> rfl
      · have sg : sgl P (P 1 cu) = decide (P 0 (P 1 cu) = 7) := by
          unfold sgl
          rw [decide_eq_false a6, Bool.false_and, Bool.or_false]
        rw [if_neg a6, sg]
        by_cases a7 : P 0 (P 1 cu) = 7
        · rw [if_pos a7, decide_eq_true a7]
          rfl
        · rw [if_neg a7, decide_eq_false a7]
          rfl
    have ni : itr P (m + 1) cu = itr P m (P 3 cu) := rfl
    rw [ni, e_114_54, i_eq (by omega) (by omega), if_neg (by omega), n32_in (by omega) (by omega), g_t, n32_cl (by omega), o1, n32_in (by omega) (by omega), g_t, g_t, g_t, n32_cl (by omega), k1, nx]
    show _ = some ((0, n32 (acc && (!(hv (Br B r) (lv + 1) k (P 1 cu) && sgl P (P 1 cu)) && XC (hv (Br B r) (lv + 1)) k P m (P 3 cu))).toNat, 0, 0), S)
    rw [Bool.and_assoc, Bool.and_comm (sgl P (P 1 cu))]
/-- may a member take a pair -/
theorem may_v (q d : Nat) {S : ab_S} {B : Nat → Nat → Nat → Bool} {c : ctx} {cnt bn : Nat} (hI : mI S c.1 c.2.1 cnt bn) {r p i lv pn : Nat} (hr : r < 8) (hl : lv ≤ 20) (hb : mB S B i cnt r p lv) {P : Nat → Nat → Nat} {tx : Nat → Nat} {tn : Nat} (hQ : mQ S r pn P tx tn) (hp : p < pn) (kp : P 0 p = 9) {ey : Nat} (hey : ey ≤ pn) {k : Nat} (hk : i ≤ k) (hk2 : k < cnt) (hk3 : bhd c k < cnt) {m n lo : Nat} (hm : m < n) (h : rch P true n lo (P 1 p) ey) : v_114_0 q (d + 1) (n32 (64 * r + p)) (n32 (64 * r + itr P m (P 1 p))) (n32 k) (n32 lv) S = some ((0, n32 ((hv (Br B r) (lv + 1) k (P 1 (itr P m (P 1 p))) && hv (Br B r) (lv + 1) (bhd c k) (P 2 (itr P m (P 1 p)))) && XC (hv (Br B r) (lv + 1)) k P m (P 1 p)).toNat, 0, 0), S) := by
  have c24 := hI.1
  have p60 := hQ.1
  obtain ⟨lo', a1, a2⟩ := rch_it m n lo _ (by omega) h
  obtain ⟨j, hj⟩ : ∃ j, n - m = j + 1 := ⟨n - m - 1, by omega⟩
  rw [hj] at a2
  obtain ⟨b1, b2, b3, b4, b5, b6, b7, b8⟩ := a2
  have b7' := b7 rfl
  have l := may_lp q d c24 hr hl hb hQ hey hk hk2 m n lo (P 1 p) true hm h
  have f0 := (rch_ge (j := 0) (by omega : 0 < n) h).2
  have f0' : P 1 p < ey := f0
  revert b1 b2 b3 b4 b5 b6 b7' b8 l
  generalize itr P m (P 1 p) = a
  intro b1 b2 b3 b4 b5 b6 b8 b7' l
  have bk : k < bhd c k := (hI.2.2.2.2.2 k hk2).1.2.2.2.2.1
  have e140 : S.1 140 k = n32 (bhd c k) := (hI.2.2.1.2 k hk2).2.2.2.2
  have o := hQ.2.1 a (by omega)
  have o1 : S.1 126 (64 * r + a) = n32 (64 * r + P 1 a) := by
    rw [o.2.1, b3]
    exact eO_some (by omega)
  have o2 : S.1 127 (64 * r + a) = n32 (64 * r + P 2 a) := by
    rw [o.2.2.1, b3]
    exact eO_some (by omega)
  have op : S.1 126 (64 * r + p) = n32 (64 * r + P 1 p) := by
    rw [(hQ.2.1 p hp).2.1, kp]
    exact eO_some (by omega)
  rw [e_114_0, n32_in (by omega) (by omega), g_t, n32_cl (by omega), o1, n32_add, has_u q d c24 hr hl hb hk hk2 (by omega) hr, cI_0, i_bz, n32_in (by omega) (by omega), g_t, n32_in (by omega) (by omega), g_t, n32_cl (by omega), e140, n32_cl (by omega), o2, has_u q d c24 hr hl hb (by omega) hk3 (by omega) hr, cI_0, i_bz, g_t, op, e_114_41]
  cases hv (Br B r) (lv + 1) k (P 1 a) with
  | false => rfl
  | true =>
    cases hv (Br B r) (lv + 1) (bhd c k) (P 2 a) with
    | false => rfl
    | true => exact l
