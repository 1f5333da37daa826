-- rule and forget in the reference.
def rG1 (S : ab_S) (r : Nat) (l : List alt) : Prop := ∃ pn P tx tn, 0 < pn ∧ pn ≤ 60 ∧ S.1 122 r = n32 pn ∧ (∀ p, p < pn → rP (64 * r) S P p) ∧ denP tx P 0 pn (anyS l) ∧ sR tx P 0 pn 0 ∧ (∀ j, j < tn → S.1 121 (40 * r + j) = n32 (tx j)) ∧ tok tx tn ∧ ∀ j, tn ≤ j → tx j = 0
def rG (S : ab_S) (D : Nat → Bool) (L B : Nat → Nat) (ls : Nat → List alt) : Prop := rRl D L B S ∧ ∀ r, r < 8 → D r = true → rG1 S r (ls r)
theorem rP_fr {o : Nat} {S S' : ab_S} {P : Nat → Nat → Nat} {p : Nat} (h : rP o S P p) (g : ∀ c, 125 ≤ c → c ≤ 129 → S'.1 c (o + p) = S.1 c (o + p)) : rP o S' P p := by
  unfold rP at h ⊢
  rw [g 125 (by omega) (by omega), g 126 (by omega) (by omega), g 127 (by omega) (by omega), g 128 (by omega) (by omega), g 129 (by omega) (by omega)]
  exact h
theorem rG1_fr {S S' : ab_S} {r : Nat} {l : List alt} (h : rG1 S r l) (g1 : S'.1 122 r = S.1 122 r) (g2 : ∀ c j, 125 ≤ c → c ≤ 129 → 64 * r ≤ j → j < 64 * r + 60 → S'.1 c j = S.1 c j) (g3 : ∀ j, 40 * r ≤ j → j < 40 * r + 40 → S'.1 121 j = S.1 121 j) : rG1 S' r l := by
  obtain ⟨pn, P, tx, tn, h1, h2, h3, h4, h5, h6, h7, h8, h9⟩ := h
  have := h8.1
  exact ⟨pn, P, tx, tn, h1, h2, g1.trans h3, fun p hp => rP_fr (h4 p hp) (fun c c1 c2 => g2 c _ c1 c2 (by omega) (by omega)), h5, h6, fun j hj => (g3 _ (by omega) (by omega)).trans (h7 j hj), h8, h9⟩
theorem rG_fr {S S' : ab_S} {D : Nat → Bool} {L B : Nat → Nat} {ls : Nat → List alt} (h : rG S D L B ls) (g : ∀ c j, ((120 ≤ c ∧ c ≤ 124 ∧ j < 8) ∨ c = 121 ∨ (125 ≤ c ∧ c ≤ 129 ∧ j < 512)) → S'.1 c j = S.1 c j) : rG S' D L B ls := by
  refine ⟨fun i hi => ?_, fun r hr hD => rG1_fr (h.2 r hr hD) (g _ _ (by omega)) (fun c j c1 c2 j1 j2 => g c j (by omega)) (fun j _ _ => g _ _ (by omega))⟩
  have o := h.1 i hi
  rw [g 120 i (by omega), g 123 i (by omega), g 124 i (by omega)]
  exact o
theorem n32_by : ∀ r, r < 8 → n32 64 * n32 r - n32 512 = n32 (64 * r + 4294966784) := by decide +kernel
theorem by_ad (r v : Nat) : n32 (512 + v) + n32 (64 * r + 4294966784) = n32 (64 * r + v) := by
  rw [n32_add, show 512 + v + (64 * r + 4294966784) = 64 * r + v + 4294967296 by omega, n32_up]
theorem m1_lt : n32 4294967295 < n32 0 := by decide
theorem i_pA {α : Type} (k : Nat) (x y : α) : (if k = 8 then x else if k = 9 then x else if k = 11 then x else if k = 14 then x else y) = bif pA k then x else y := by
  unfold pA
  by_cases a : k = 8 <;> by_cases b : k = 9 <;> by_cases c : k = 11 <;> by_cases d : k = 14 <;> simp [a, b, c, d]
theorem i_pB {α : Type} (k : Nat) (x y : α) : (if k = 12 then x else if k = 13 then x else if k = 14 then x else y) = bif pB k then x else y := by
  unfold pB
  by_cases a : k = 12 <;> by_cases b : k = 13 <;> by_cases c : k = 14 <;> simp [a, b, c]
/-- the numbers of a part are small where they are moved -/
def smP (P : Nat → Nat → Nat) (p : Nat) : Prop := P 0 p ≤ 14 ∧ (pA (P 0 p) = true → P 1 p = 4294967295 ∨ P 1 p < 1000) ∧ (pB (P 0 p) = true → P 2 p < 1000) ∧ v3 P p
theorem sR_sm {t : Nat → Nat} {P : Nat → Nat → Nat} {pn : Nat} (h60 : pn ≤ 60) (h : sR t P 0 pn 0) {p : Nat} (hp : p < pn) : smP P p := by
  obtain ⟨ey, a1, a2, a3, ⟨s1, s2, s3, s4, s5, s6, s7, s8, s9, s10⟩, a5⟩ := h p (Nat.zero_le _) hp
  refine ⟨s1, fun k => ?_, fun k => ?_, a5⟩
  · unfold pA at k
    simp only [Bool.or_eq_true, decide_eq_true_eq] at k
    rcases k with k | k | k | k
    · obtain ⟨n, n1, n2⟩ := s7 k
      cases n with
      | zero => exact Or.inl n2
      | succ n => exact Or.inr (by have := n2.2.1; omega)
    · obtain ⟨n, n1, n2⟩ := s8 k
      cases n with
      | zero => exact Or.inl n2
      | succ n => exact Or.inr (by have := n2.2.1; omega)
    · obtain ⟨l, l1, l2, l3⟩ := s6 k
      cases l with
      | nil => exact Or.inl l1
      | cons a l =>
        refine Or.inr ?_
        have := rly_in _ _ _ l2 a (List.mem_cons_self ..)
        rw [l1]
        show a.1 < 1000
        omega
    · exact Or.inr (by have := s9 k; omega)
  · unfold pB at k
    simp only [Bool.or_eq_true, decide_eq_true_eq] at k
    have := s5 k
    omega
/-- one part is copied -/
theorem cp_1 (q d : Nat) {r p : Nat} (hr : r < 8) (hp : p < 60) {S : ab_S} {P : Nat → Nat → Nat} {pn : Nat} (hn : S.1 122 8 = n32 pn) (h60 : pn ≤ 60) (hpn : p < pn) (h : rP 512 S P p) (hs : smP P p) : v_96_139 q (d + 1) (n32 (64 * r + 4294966784)) (n32 (512 + p)) S = v_96_139 q (d + 1) (n32 (64 * r + 4294966784)) (n32 (512 + (p + 1))) (ab_wi (ab_wi (ab_wi (ab_wi (ab_wi S 125 (64 * r + p) (n32 (P 0 p))) 126 (64 * r + p) (eA (64 * r) (P 0 p) (P 1 p))) 127 (64 * r + p) (eB (64 * r) (P 0 p) (P 2 p))) 128 (64 * r + p) (eO (64 * r) (P 3 p))) 129 (64 * r + p) (n32 (P 4 p))) := by
  obtain ⟨h0, h1, h2, h3, h4⟩ := h
  obtain ⟨s0, s1, s2, s3⟩ := hs
  have c1 : Int32.toNatClampNeg (n32 (512 + p)) = 512 + p := n32_cl (by omega)
  have c2 : Int32.toNatClampNeg (n32 (64 * r + p)) = 64 * r + p := n32_cl (by omega)
  have i1 : ab_in (n32 (512 + p)) 640 = true := n32_in (by omega) (by omega)
  have i2 : ab_in (n32 (64 * r + p)) 640 = true := n32_in (by omega) (by omega)
  -- next and often
  have w4 (T : ab_S) (t3 : T.1 128 (512 + p) = eO 512 (P 3 p)) (t4 : T.1 129 (512 + p) = n32 (P 4 p)) (x : Int32) : v_96_313 q (d + 1) (n32 (64 * r + 4294966784)) (n32 (512 + p)) x (n32 (64 * r + p)) T = v_96_139 q (d + 1) (n32 (64 * r + 4294966784)) (n32 (512 + (p + 1))) (ab_wi (ab_wi (ab_wi T 127 (64 * r + p) x) 128 (64 * r + p) (eO (64 * r) (P 3 p))) 129 (64 * r + p) (n32 (P 4 p))) := by
    have w5 (y : Int32) : v_96_345 q (d + 1) (n32 (64 * r + 4294966784)) (n32 (512 + p)) y (n32 (64 * r + p)) (ab_wi T 127 (64 * r + p) x) = v_96_139 q (d + 1) (n32 (64 * r + 4294966784)) (n32 (512 + (p + 1))) (ab_wi (ab_wi (ab_wi T 127 (64 * r + p) x) 128 (64 * r + p) y) 129 (64 * r + p) (n32 (P 4 p))) := by
      rw [e_96_345, i2, g_t, i1, g_t, by_ad, i2, g_t, c1, c2, wi_rd, if_neg (by omega), t4, n32_add]
      rfl
    rw [e_96_313, i2, g_t, i1, g_t, g_t, c1, c2, by_ad, t3, n32_m1, w5, w5]
    rcases s3 with z | z
    · rw [z, eO_none, eO_none, if_pos m1_lt]
    · rw [eO_some (by omega), eO_some (by omega), if_neg (by rw [n32_lt (by omega) (by omega)]; omega), by_ad]
  -- bs
  have w3 (T : ab_S) (t2 : T.1 127 (512 + p) = eB 512 (P 0 p) (P 2 p)) (t3 : T.1 128 (512 + p) = eO 512 (P 3 p)) (t4 : T.1 129 (512 + p) = n32 (P 4 p)) (x : Int32) : v_96_280 q (d + 1) (n32 (64 * r + 4294966784)) (n32 (512 + p)) (n32 (pB (P 0 p)).toNat) x (n32 (64 * r + p)) T = v_96_139 q (d + 1) (n32 (64 * r + 4294966784)) (n32 (512 + (p + 1))) (ab_wi (ab_wi (ab_wi (ab_wi T 126 (64 * r + p) x) 127 (64 * r + p) (eB (64 * r) (P 0 p) (P 2 p))) 128 (64 * r + p) (eO (64 * r) (P 3 p))) 129 (64 * r + p) (n32 (P 4 p))) := by
    have t3' : (ab_wi T 126 (64 * r + p) x).1 128 (512 + p) = eO 512 (P 3 p) := by rw [wi_rd, if_neg (by omega)]; exact t3
    have t4' : (ab_wi T 126 (64 * r + p) x).1 129 (512 + p) = n32 (P 4 p) := by rw [wi_rd, if_neg (by omega)]; exact t4
    rw [e_96_280, i2, g_t, i1, g_t, g_t, c1, c2, by_ad, t2, i_bz, w4 _ t3' t4', w4 _ t3' t4']
    unfold eB
    cases hb : pB (P 0 p) with
    | false => rfl
    | true =>
      have z := s2 hb
      rw [if_pos rfl, cond_true, cond_true, eO_some (o := 512) (v := P 2 p) (by omega), eO_some (o := 64 * r) (v := P 2 p) (by omega), by_ad]
  -- as
  have w2 : v_96_225 q (d + 1) (n32 (64 * r + 4294966784)) (n32 (512 + p)) (n32 (P 0 p)) (n32 (pA (P 0 p)).toNat) (n32 (pB (P 0 p)).toNat) S = v_96_139 q (d + 1) (n32 (64 * r + 4294966784)) (n32 (512 + (p + 1))) (ab_wi (ab_wi (ab_wi (ab_wi (ab_wi S 125 (64 * r + p) (n32 (P 0 p))) 126 (64 * r + p) (eA (64 * r) (P 0 p) (P 1 p))) 127 (64 * r + p) (eB (64 * r) (P 0 p) (P 2 p))) 128 (64 * r + p) (eO (64 * r) (P 3 p))) 129 (64 * r + p) (n32 (P 4 p))) := by
    have t1' : (ab_wi S 125 (64 * r + p) (n32 (P 0 p))).1 126 (512 + p) = eA 512 (P 0 p) (P 1 p) := by rw [wi_rd, if_neg (by omega)]; exact h1
    have t2' : (ab_wi S 125 (64 * r + p) (n32 (P 0 p))).1 127 (512 + p) = eB 512 (P 0 p) (P 2 p) := by rw [wi_rd, if_neg (by omega)]; exact h2
    have t3' : (ab_wi S 125 (64 * r + p) (n32 (P 0 p))).1 128 (512 + p) = eO 512 (P 3 p) := by rw [wi_rd, if_neg (by omega)]; exact h3
    have t4' : (ab_wi S 125 (64 * r + p) (n32 (P 0 p))).1 129 (512 + p) = n32 (P 4 p) := by rw [wi_rd, if_neg (by omega)]; exact h4
    have u : v_96_273 q (d + 1) (n32 (64 * r + 4294966784)) (n32 (512 + p)) (n32 (pB (P 0 p)).toNat) (n32 (64 * r + p)) (ab_wi S 125 (64 * r + p) (n32 (P 0 p))) = v_96_280 q (d + 1) (n32 (64 * r + 4294966784)) (n32 (512 + p)) (n32 (pB (P 0 p)).toNat) (eA 512 (P 0 p) (P 1 p)) (n32 (64 * r + p)) (ab_wi S 125 (64 * r + p) (n32 (P 0 p))) := by
      rw [e_96_273, i1, g_t, c1, t1']
    rw [e_96_225, by_ad, i2, g_t, i1, g_t, g_t, c1, c2, u, h1, i_bz, w3 _ t2' t3' t4', w3 _ t2' t3' t4']
    unfold eA
    cases ha : pA (P 0 p) with
    | false => rfl
    | true =>
      rw [if_pos rfl, cond_true, cond_true]
      rcases s1 ha with z | z
      · rw [z, eO_none, eO_none, if_pos m1_lt]
      · rw [eO_some (o := 512) (v := P 1 p) (by omega), eO_some (o := 64 * r) (v := P 1 p) (by omega), if_neg (by rw [n32_lt (by omega) (by omega)]; omega), by_ad]
  rw [e_96_139, hn, n32_add, if_pos (by rw [n32_lt (by omega) (by omega)]; omega), i1, g_t, c1, h0, i_eq (by omega) (by omega), i_eq (by omega) (by omega), i_eq (by omega) (by omega), i_eq (by omega) (by omega), i_pA, e_96_192]
  have w (x : Bool) : v_96_197 q (d + 1) (n32 (64 * r + 4294966784)) (n32 (512 + p)) (n32 (P 0 p)) (n32 x.toNat) S = v_96_225 q (d + 1) (n32 (64 * r + 4294966784)) (n32 (512 + p)) (n32 (P 0 p)) (n32 x.toNat) (n32 (pB (P 0 p)).toNat) S := by
    rw [e_96_197, i_eq (by omega) (by omega), i_eq (by omega) (by omega), i_eq (by omega) (by omega), i_pB, e_96_220]
    cases pB (P 0 p) <;> rfl
  rw [← w2, ← w]
  cases pA (P 0 p) <;> rfl
/-- all parts are copied -/
theorem cp_all (q d : Nat) {r : Nat} (hr : r < 8) {P : Nat → Nat → Nat} {pn : Nat} (h60 : pn ≤ 60) (hs : ∀ p, p < pn → smP P p) : ∀ m p S, p + m = pn → S.1 122 8 = n32 pn → (∀ y, p ≤ y → y < pn → rP 512 S P y) → (∀ y, y < p → rP (64 * r) S P y) → ∃ S', v_96_139 q (d + 1) (n32 (64 * r + 4294966784)) (n32 (512 + p)) S = some ((0, S.1 117 18, 0, 0), S') ∧ S'.2 = S.2 ∧ (∀ c j, (c < 125 ∨ 129 < c ∨ j < 64 * r ∨ 64 * r + 60 ≤ j) → S'.1 c j = S.1 c j) ∧ ∀ y, y < pn → rP (64 * r) S' P y
  | 0, p, S, e, hn, h, g => by
    refine ⟨S, ?_, rfl, fun _ _ _ => rfl, fun y hy => g y (by omega)⟩
    rw [e_96_139, hn, n32_add, if_neg (by rw [n32_lt (by omega) (by omega)]; omega)]
  | m + 1, p, S, e, hn, h, g => by
    have st := cp_1 q d hr (by omega) hn h60 (by omega) (h p (Nat.le_refl _) (by omega)) (hs p (by omega))
    obtain ⟨T, hT⟩ : ∃ T, T = ab_wi (ab_wi (ab_wi (ab_wi (ab_wi S 125 (64 * r + p) (n32 (P 0 p))) 126 (64 * r + p) (eA (64 * r) (P 0 p) (P 1 p))) 127 (64 * r + p) (eB (64 * r) (P 0 p) (P 2 p))) 128 (64 * r + p) (eO (64 * r) (P 3 p))) 129 (64 * r + p) (n32 (P 4 p)) := ⟨_, rfl⟩
    have w (c j : Nat) (k : c < 125 ∨ 129 < c ∨ j ≠ 64 * r + p) : T.1 c j = S.1 c j := by
      rw [hT, wi_rd, if_neg (by omega), wi_rd, if_neg (by omega), wi_rd, if_neg (by omega), wi_rd, if_neg (by omega), wi_rd, if_neg (by omega)]
    obtain ⟨S', a1, a2, a3, a4⟩ := cp_all q d hr h60 hs m (p + 1) T (by omega) ((w _ _ (by omega)).trans hn) (fun y y1 y2 => rP_fr (h y (by omega) y2) (fun c _ _ => w _ _ (by omega))) (fun y hy => by
      by_cases z : y = p
      · subst z
        unfold rP
        rw [hT]
        refine ⟨?_, ?_, ?_, ?_, ?_⟩
        · rw [wi_rd, if_neg (by omega), wi_rd, if_neg (by omega), wi_rd, if_neg (by omega), wi_rd, if_neg (by omega), wi_rd, if_pos ⟨rfl, rfl⟩]
        · rw [wi_rd, if_neg (by omega), wi_rd, if_neg (by omega), wi_rd, if_neg (by omega), wi_rd, if_pos ⟨rfl, rfl⟩]
        · rw [wi_rd, if_neg (by omega), wi_rd, if_neg (by omega), wi_rd, if_pos ⟨rfl, rfl⟩]
        · rw [wi_rd, if_neg (by omega), wi_rd, if_pos ⟨rfl, rfl⟩]
        · rw [wi_rd, if_pos ⟨rfl, rfl⟩]
      · exact rP_fr (g y (by omega)) (fun c _ _ => w _ _ (by omega)))
    refine ⟨S', ?_, by rw [a2, hT]; rfl, fun c j k => (a3 c j k).trans (w c j (by omega)), a4⟩
    rw [st, ← hT, a1, w 117 18 (by omega)]
/-- the text is copied -/
theorem cp_t (q d : Nat) {r n : Nat} (hr : r < 8) (hn : n ≤ 40) : ∀ m j S, j + m = n → ∃ S', v_96_97 q (d + 1) (n32 r) (n32 n) (n32 j) S = v_96_139 q (d + 1) (n32 (64 * r + 4294966784)) (n32 512) S' ∧ S'.2 = S.2 ∧ (∀ c k, (c ≠ 121 ∨ k < 40 * r + j ∨ 40 * r + 40 ≤ k) → S'.1 c k = S.1 c k) ∧ ∀ i, j ≤ i → i < n → S'.1 121 (40 * r + i) = S.1 118 i
  | 0, j, S, e => ⟨S, by rw [e_96_97, if_neg (by rw [n32_lt (by omega) (by omega)]; omega), n32_by r hr], rfl, fun _ _ _ => rfl, fun i i1 i2 => by omega⟩
  | m + 1, j, S, e => by
    obtain ⟨S', a1, a2, a3, a4⟩ := cp_t q d hr hn m (j + 1) (ab_wi S 121 (40 * r + j) (S.1 118 j)) (by omega)
    refine ⟨S', ?_, by rw [a2]; rfl, fun c k h => ?_, fun i i1 i2 => ?_⟩
    · rw [e_96_97, if_pos (by rw [n32_lt (by omega) (by omega)]; omega), n32_mul, n32_add, n32_in (by omega) (by omega), g_t, n32_in (by omega) (by omega), g_t, n32_cl (by omega), n32_cl (by omega), n32_add]
      exact a1
    · rw [a3 c k (by omega), wi_rd, if_neg (by omega)]
    · by_cases z : i = j
      · subst z
        rw [a3 121 _ (by omega), wi_rd, if_pos ⟨rfl, rfl⟩]
      · rw [a4 i (by omega) i2, wi_rd, if_neg (by omega)]
/-- what rule and forget keep -/
def rfr (S S' : ab_S) : Prop := S'.2 = S.2 ∧ (∀ c j, (c < 117 ∨ c = 118 ∨ c = 119) → S'.1 c j = S.1 c j) ∧ ∀ j, 2 < j → j < 15 → S'.1 117 j = S.1 117 j
theorem rru_x (q d : Nat) {u : Int32} (h : u < n32 0 ∨ (¬ u < n32 0 ∧ ¬ u < n32 8 ∧ n32 7 < u)) (S : ab_S) : v_96_0 q (d + 1) u S = some ((0, n32 0, 0, 0), ab_wi (ab_wi S 117 0 (n32 1)) 117 2 (n32 0)) := by
  rw [e_96_0, e_96_11, e_96_27, if_pos (show n32 0 < n32 1 by decide)]
  rcases h with h | ⟨h, _, g⟩
  · rw [if_pos h]
  · rw [if_neg h, if_pos g]
theorem rru_v (q e : Nat) {t : Nat → Nat} {n : Nat} (ht : tok t n) (hz : ∀ j, n ≤ j → t j = 0) {S : ab_S} (hT : rT t n S) {D : Nat → Bool} {L B : Nat → Nat} {ls : Nat → List alt} (hG : rG S D L B ls) {r : Nat} (hr : r < 8) :
    (par t n = none → ∃ S1, v_96_0 q (e + 6) (n32 r) S = some ((0, n32 0, 0, 0), S1) ∧ rfr S S1 ∧ S1.1 117 0 = n32 2 ∧ S1.1 117 2 = n32 0 ∧ rG S1 D L B ls) ∧ ∀ y, par t n = some y → ∃ S1, v_96_0 q (e + 6) (n32 r) S = some ((0, n32 y.1.length, 0, 0), S1) ∧ rfr S S1 ∧ S1.1 117 0 = n32 0 ∧ S1.1 117 2 = n32 0 ∧ rG S1 (up1 D r true) (up1 L r y.2.1) (up1 B r y.2.2) (up1 ls r y.1) := by
  have n40 := ht.1
  obtain ⟨a1, a2⟩ := rrd_v q e ht hT
  have e0 : v_96_0 q (e + 6) (n32 r) S = (cI (v_95_0 q (e + 5) S) fun y1 S1 => (if y1 = (n32 0) then (v_96_27 q (e + 6) (n32 r) (n32 2) S1) else (v_96_27 q (e + 6) (n32 r) (n32 0) S1))) := by
    rw [e_96_0, if_neg (by rw [n32_lt (by omega) (by omega)]; omega), if_neg (by rw [n32_lt (by omega) (by omega)]; omega)]
  rw [e0]
  refine ⟨fun hp => ?_, fun y hp => ?_⟩
  · obtain ⟨S', b1, b2⟩ := a1 hp
    refine ⟨ab_wi (ab_wi S' 117 0 (n32 2)) 117 2 (n32 0), ?_, ⟨b1.1, fun c j h => ?_, fun j j1 j2 => ?_⟩, rfl, rfl, rG_fr hG (fun c j h => ?_)⟩
    · rw [b2, cI_0, if_pos rfl, e_96_27, if_pos (show n32 0 < n32 2 by decide)]
    · rw [wi_rd, if_neg (by omega), wi_rd, if_neg (by omega)]
      exact b1.2.1 c j (by omega)
    · rw [wi_rd, if_neg (by omega), wi_rd, if_neg (by omega)]
      exact b1.2.2.1 j (by omega)
    · rw [wi_rd, if_neg (by omega), wi_rd, if_neg (by omega)]
      by_cases c1 : c < 122
      · exact b1.2.1 c j (by omega)
      · by_cases c2 : c ≤ 124
        · exact b1.2.2.2.1 c j (by omega) c2 (by omega)
        · exact b1.2.2.2.2 c j (by omega) (by omega) (by omega)
  · obtain ⟨S', pn, P, K, b1, b2, b3, b4, b5, b6, b7, b8, b9⟩ := a2 y hp
    obtain ⟨Sw, hw⟩ : ∃ Sw, Sw = ab_wi (ab_wi (ab_wi (ab_wi (ab_wi (ab_wi S' 117 0 (n32 0)) 117 2 (n32 0)) 120 r (n32 1)) 123 r (n32 y.2.1)) 124 r (n32 y.2.2)) 122 r (n32 pn) := ⟨_, rfl⟩
    have f (c j : Nat) (h : c ≠ 117 ∨ (j ≠ 0 ∧ j ≠ 2)) (h2 : j ≠ r ∨ (c ≠ 120 ∧ c ≠ 122 ∧ c ≠ 123 ∧ c ≠ 124)) : Sw.1 c j = S'.1 c j := by
      rw [hw, wi_rd, if_neg (by omega), wi_rd, if_neg (by omega), wi_rd, if_neg (by omega), wi_rd, if_neg (by omega), wi_rd, if_neg (by omega), wi_rd, if_neg (by omega)]
    have f120 : Sw.1 120 r = n32 1 := by
      rw [hw, wi_rd, if_neg (by omega), wi_rd, if_neg (by omega), wi_rd, if_neg (by omega), wi_rd, if_pos ⟨rfl, rfl⟩]
    have f123 : Sw.1 123 r = n32 y.2.1 := by
      rw [hw, wi_rd, if_neg (by omega), wi_rd, if_neg (by omega), wi_rd, if_pos ⟨rfl, rfl⟩]
    have f124 : Sw.1 124 r = n32 y.2.2 := by
      rw [hw, wi_rd, if_neg (by omega), wi_rd, if_pos ⟨rfl, rfl⟩]
    have f122 : Sw.1 122 r = n32 pn := by
      rw [hw, wi_rd, if_pos ⟨rfl, rfl⟩]
    have f0 : Sw.1 117 0 = n32 0 := by
      rw [hw, wi_rd, if_neg (by omega), wi_rd, if_neg (by omega), wi_rd, if_neg (by omega), wi_rd, if_neg (by omega), wi_rd, if_neg (by omega), wi_rd, if_pos ⟨rfl, rfl⟩]
    have f2 : Sw.1 117 2 = n32 0 := by
      rw [hw, wi_rd, if_neg (by omega), wi_rd, if_neg (by omega), wi_rd, if_neg (by omega), wi_rd, if_neg (by omega), wi_rd, if_pos ⟨rfl, rfl⟩]
    have sw2 : Sw.2 = S'.2 := by rw [hw]; rfl
    have e1 : v_96_27 q (e + 6) (n32 r) (n32 0) S' = v_96_97 q (e + 6) (n32 r) (n32 n) (n32 0) Sw := by
      rw [e_96_27, if_neg (by decide), n32_in (by omega) (by omega), g_t, n32_in (by omega) (by omega), g_t, g_t, g_t, n32_cl (by omega), b2.1, b2.2.2.2.2.2.2.1, b2.2.2.2.2.2.2.2.1, b2.2.2.2.2.2.2.2.2.1, ← hw]
    obtain ⟨St, t1, t2, t3, t4⟩ := cp_t q (e + 5) hr n40 n 0 Sw (Nat.zero_add _)
    have g122 : St.1 122 8 = n32 pn := by rw [t3 _ _ (by omega), f _ _ (by omega) (by omega)]; exact b2.2.2.2.2.2.2.1
    obtain ⟨Sp, p1, p2, p3, p4⟩ := cp_all q (e + 5) hr b3 (fun p hp => sR_sm b3 b8 hp) pn 0 St (Nat.zero_add _) g122 (fun y y1 y2 => rP_fr (b2.2.2.2.2.2.2.2.2.2.1 y y2) (fun c _ _ => by rw [t3 _ _ (by omega), f _ _ (by omega) (by omega)])) (fun y hy => absurd hy (Nat.not_lt_zero _))
    have F (c j : Nat) (h : c < 125 ∨ 129 < c ∨ j < 64 * r ∨ 64 * r + 60 ≤ j) (h2 : c ≠ 121 ∨ j < 40 * r ∨ 40 * r + 40 ≤ j) : Sp.1 c j = Sw.1 c j := by
      rw [p3 c j h, t3 c j (by omega)]
    refine ⟨Sp, ?_, ⟨?_, fun c j h => ?_, fun j j1 j2 => ?_⟩, ?_, ?_, ?_, ?_⟩
    · rw [b9, cI_0, if_neg (by decide), e1, t1]
      refine p1.trans ?_
      rw [t3 _ _ (by omega), f _ _ (by omega) (by omega), b2.2.2.2.2.2.1]
    · rw [p2, t2, sw2]
      exact b1.1
    · rw [F c j (by omega) (by omega), f _ _ (by omega) (by omega)]
      exact b1.2.1 c j (by omega)
    · rw [F _ j (by omega) (by omega), f _ _ (by omega) (by omega)]
      exact b1.2.2.1 j (by omega)
    · rw [F _ _ (by omega) (by omega)]
      exact f0
    · rw [F _ _ (by omega) (by omega)]
      exact f2
    · intro i hi
      have o := hG.1 i hi
      rw [F _ _ (by omega) (by omega), F _ _ (by omega) (by omega), F _ _ (by omega) (by omega)]
      by_cases z : i = r
      · subst z
        rw [f120, f123, f124, up1_s, up1_s, up1_s]
        exact ⟨rfl, fun _ => ⟨rfl, rfl⟩, nofun⟩
      · rw [up1_o _ _ z, up1_o _ _ z, up1_o _ _ z, f _ _ (by omega) (by omega), f _ _ (by omega) (by omega), f _ _ (by omega) (by omega), b1.2.1 120 i (by omega), b1.2.2.2.1 123 i (by omega) (by omega) (by omega), b1.2.2.2.1 124 i (by omega) (by omega) (by omega)]
        exact o
    · intro i hi hD
      by_cases z : i = r
      · subst z
        rw [up1_s]
        refine ⟨pn, P, t, n, b4, b3, ?_, p4, b7, b8, fun j hj => ?_, ht, hz⟩
        · rw [F _ _ (by omega) (by omega)]
          exact f122
        · rw [p3 _ _ (by omega), t4 j (Nat.zero_le _) hj, f _ _ (by omega) (by omega)]
          exact b2.2.1 j hj
      · rw [up1_o _ _ z] at hD ⊢
        refine rG1_fr (hG.2 i hi hD) ?_ (fun c j c1 c2 j1 j2 => ?_) (fun j j1 j2 => ?_)
        · rw [F _ _ (by omega) (by omega), f _ _ (by omega) (by omega)]
          exact b1.2.2.2.1 122 i (by omega) (by omega) (by omega)
        · rw [F _ _ (by omega) (by omega), f _ _ (by omega) (by omega)]
          exact b1.2.2.2.2 c j (by omega) (by omega) (by omega)
        · rw [F _ _ (by omega) (by omega), f _ _ (by omega) (by omega)]
          exact b1.2.1 121 j (by omega)
theorem rfo_x (q d : Nat) {u : Int32} (h : u < n32 0 ∨ (¬ u < n32 0 ∧ ¬ u < n32 8 ∧ n32 7 < u)) (S : ab_S) : v_97_0 q d u S = some ((0, n32 0, 0, 0), ab_wi S 117 0 (n32 1)) := by
  rw [e_97_0, e_97_11, e_97_16, if_pos (show n32 0 < n32 1 by decide)]
  rcases h with h | ⟨h, _, g⟩
  · rw [if_pos h]
  · rw [if_neg h, if_pos g]
theorem rfo_v (q d : Nat) {S : ab_S} {D : Nat → Bool} {L B : Nat → Nat} {ls : Nat → List alt} (hG : rG S D L B ls) {r : Nat} (hr : r < 8) : v_97_0 q d (n32 r) S = some ((0, n32 (D r).toNat, 0, 0), ab_wi (ab_wi S 117 0 (n32 0)) 120 r (n32 0)) ∧ rG (ab_wi (ab_wi S 117 0 (n32 0)) 120 r (n32 0)) (up1 D r false) (up1 L r 0) (up1 B r 0) ls := by
  refine ⟨?_, fun i hi => ?_, fun i hi hD => ?_⟩
  · rw [e_97_0, if_neg (by rw [n32_lt (by omega) (by omega)]; omega), if_neg (by rw [n32_lt (by omega) (by omega)]; omega), e_97_16, if_neg (by decide), n32_in (by omega) (by omega), g_t, g_t, n32_cl (by omega), (hG.1 r hr).1, bo_nz]
  · have o := hG.1 i hi
    by_cases z : i = r
    · subst z
      rw [up1_s, up1_s, up1_s, wi_rd, if_pos ⟨rfl, rfl⟩]
      exact ⟨rfl, nofun, fun _ => ⟨rfl, rfl⟩⟩
    · rw [up1_o _ _ z, up1_o _ _ z, up1_o _ _ z, wi_rd, if_neg (by omega), wi_rd, if_neg (by omega), wi_rd, if_neg (by omega), wi_rd, if_neg (by omega), wi_rd, if_neg (by omega), wi_rd, if_neg (by omega)]
      exact o
  · have z : i ≠ r := fun z => by rw [z, up1_s] at hD; cases hD
    rw [up1_o _ _ z] at hD
    exact rG1_fr (hG.2 i hi hD) rfl (fun c j c1 c2 _ _ => by rw [wi_rd, if_neg (by omega), wi_rd, if_neg (by omega)]) (fun j _ _ => by rw [wi_rd, if_neg (by omega), wi_rd, if_neg (by omega)])
