-- Matching in the reference: all bits.
def mF (S T : ab_S) : Prop := T.2 = S.2 ∧ ∀ c j, c ≠ 144 → c ≠ 145 → c ≠ 146 → T.1 c j = S.1 c j
theorem mF_rf (S : ab_S) : mF S S := ⟨rfl, fun _ _ _ _ _ => rfl⟩
theorem mF_tr {S S1 S2 : ab_S} (h : mF S S1) (g : mF S1 S2) : mF S S2 := ⟨g.1.trans h.1, fun c j x y z => (g.2 c j x y z).trans (h.2 c j x y z)⟩
theorem mF_56 {S T : ab_S} (h : m56 S T) : mF S T := ⟨h.1, fun c j _ y z => h.2 c j y z⟩
theorem mF_wi (S : ab_S) (k : Nat) (v : Int32) : mF S (ab_wi S 144 k v) := ⟨rfl, fun c j x _ _ => by rw [wi_rd, if_neg (fun z => x z.1)]⟩
theorem mF_I {S T : ab_S} {b : Nat → Nat} {I : Nat → Nat → Nat} {cnt bn : Nat} (h : mI S b I cnt bn) (g : mF S T) : mI T b I cnt bn := mI_fr h g.1 (fun c j _ => g.2 c j (by omega) (by omega) (by omega))
theorem mF_Q {S T : ab_S} {r pn : Nat} {P : Nat → Nat → Nat} {tx : Nat → Nat} {tn : Nat} (h : mQ S r pn P tx tn) (g : mF S T) : mQ T r pn P tx tn := mQ_fr h (fun c j _ => g.2 c j (by omega) (by omega) (by omega))
theorem ws_56 {S T : ab_S} (h : m56 S T) (x y : Nat) : wS T x y = wS S x y := by
  unfold wS
  rw [h.2 144 _ (by omega) (by omega)]
def EQ (S : ab_S) (D : Nat → Bool) (b : Nat → Nat) (I : Nat → Nat → Nat) (B : Nat → Nat → Nat → Bool) (i lv r : Nat) : Prop := D r = true → ∀ pn P tx tn, S.1 122 r = n32 pn → mQ S r pn P tx tn → ∀ p, p < pn → B i (64 * r + p) lv = fitP P tx (b, I, RR D B) (Br B r) i p lv
theorem nx_1 (m : Nat) : n32 (m + 1 + 4294967295) = n32 m := by
  rw [show m + 1 + 4294967295 = m + 4294967296 by omega, n32_up]
theorem bo_in {x y : Bool} (h : n32 x.toNat = n32 y.toNat) : x = y := by
  cases x <;> cases y <;> first | rfl | exact absurd h (by decide)
/-- the parts of a rule, at an item and a level -/
theorem pt_lp (q d : Nat) {S : ab_S} {b : Nat → Nat} {I : Nat → Nat → Nat} {D : Nat → Bool} {cnt bn : Nat} (hI : mI S b I cnt bn) (hD : ∀ r, r < 8 → S.1 120 r = n32 (D r).toNat) {r i lv pn : Nat} (hr : r < 8) (hi : i < cnt) (hl : lv ≤ 20) (hDr : D r = true) {P0 : Nat → Nat → Nat} {tx0 : Nat → Nat} {tn0 : Nat} (hQ0 : mQ S r pn P0 tx0 tn0) : ∀ m T, m ≤ pn → mF S T → (∀ x y, i ≤ x → x < cnt → y < 512 → wS T x y < 2097152) → (∀ p, p < m → (wS T i (64 * r + p)).testBit lv = false) → ∃ T', mF S T' ∧ (∀ x y, y < 512 → (x ≠ i ∨ y < 64 * r ∨ 64 * r + m ≤ y) → wS T' x y = wS T x y) ∧ (∀ y l, y < 512 → l ≠ lv → (wS T' i y).testBit l = (wS T i y).testBit l) ∧ (∀ x y, i ≤ x → x < cnt → y < 512 → wS T' x y < 2097152) ∧ (∀ B : Nat → Nat → Nat → Bool, (∀ x y l, i ≤ x → x < cnt → y < 512 → l ≤ 20 → (i < x ∨ lv < l ∨ (l = lv ∧ 64 * r ≤ y ∧ y < 64 * r + 64)) → (wS T' x y).testBit l = B x y l) → ∀ P tx tn, mQ S r pn P tx tn → ∀ p, p < m → B i (64 * r + p) lv = fitP P tx (b, I, RR D B) (Br B r) i p lv) ∧ ∀ u1, v_118_74 q (d + 4) u1 (n32 i) (n32 lv) (n32 r) (n32 (64 * r + m + 4294967295)) T = v_118_141 q (d + 4) u1 (n32 i) (n32 lv) (n32 r) T'
  | 0, T, hm, g, hw, hz => by
    refine ⟨T, g, fun _ _ _ _ => rfl, fun _ _ _ _ => rfl, hw, fun B _ P tx tn _ p hp => absurd hp (Nat.not_lt_zero _), fun u1 => ?_⟩
    rw [e_118_74, n32_mul]
    rcases Nat.eq_zero_or_pos r with z | z
    · subst z
      rw [if_pos (show n32 (64 * 0 + 0 + 4294967295) < n32 (64 * 0) by decide)]
    · obtain ⟨r', rfl⟩ : ∃ r', r = r' + 1 := ⟨r - 1, by omega⟩
      rw [show 64 * (r' + 1) + 0 + 4294967295 = 64 * r' + 63 + 1 + 4294967295 by omega, nx_1, if_pos (by rw [n32_lt (by omega) (by omega)]; omega)]
  | m + 1, T, hm, g, hw, hz => by
    have c24 := hI.1
    have p60 := hQ0.1
    -- the run, with the bits as they are
    obtain ⟨T1, t1, t2⟩ := fit_v q d (mF_I hI g) (D := D) hr hi hl (B := fun x y l => (wS T x y).testBit l) (p := m) ⟨hw, fun _ _ _ _ _ _ _ _ => rfl⟩ (mF_Q hQ0 g) (by omega) (fun r hr => (g.2 _ _ (by omega) (by omega) (by omega)).trans (hD r hr))
    revert t2
    generalize fitP P0 tx0 (b, I, RR D fun x y l => (wS T x y).testBit l) (Br (fun x y l => (wS T x y).testBit l) r) i m lv = X
    intro t2
    have wT := hw i (64 * r + m) (Nat.le_refl _) hi (by omega)
    have wz := hz m (Nat.lt_succ_self _)
    have p2 : 2 ^ lv < 2097152 := p_21 hl
    -- the bit is set
    obtain ⟨T2, hT2⟩ : ∃ T2, T2 = (if X = true then ab_wi T1 144 (512 * i + (64 * r + m)) (n32 (wS T i (64 * r + m) ||| 2 ^ lv)) else T1) := ⟨_, rfl⟩
    have e2 (u1 : Int32) : v_118_74 q (d + 4) u1 (n32 i) (n32 lv) (n32 r) (n32 (64 * r + (m + 1) + 4294967295)) T = v_118_74 q (d + 4) u1 (n32 i) (n32 lv) (n32 r) (n32 (64 * r + m + 4294967295)) T2 := by
      have a120 : T.1 120 r = n32 1 := by
        rw [g.2 _ _ (by omega) (by omega) (by omega), hD r hr, hDr]
        rfl
      have a144 : T1.1 144 (512 * i + (64 * r + m)) = n32 (wS T i (64 * r + m)) := by
        rw [t1.2 _ _ (by omega) (by omega)]
        exact n32_self _
      rw [← Nat.add_assoc, nx_1, e_118_74, n32_mul, if_neg (by rw [n32_lt (by omega) (by omega)]; omega), n32_in (by omega) (by omega), g_t, n32_cl (by omega), a120, if_neg one_z, t2, cI_0, i_bz, n32_mul, n32_add, n32_in (by omega) (by omega), g_t, g_t, n32_cl (by omega), a144, n32_shl _ (by omega), Nat.one_mul, n32_or, e_118_135, e_118_135, n32_m1, n32_add, hT2]
      cases X <;> rfl
    have or2 : wS T i (64 * r + m) ||| 2 ^ lv < 2097152 := or_21 wT p2
    have ws (x y : Nat) (hy : y < 512) : wS T2 x y = if x = i ∧ y = 64 * r + m then (if X = true then wS T i (64 * r + m) ||| 2 ^ lv else wS T i (64 * r + m)) else wS T x y := by
      rw [hT2]
      cases X with
      | false =>
        rw [if_neg (by decide : ¬ false = true), if_neg (by decide : ¬ false = true), ws_56 t1]
        by_cases z : x = i ∧ y = 64 * r + m
        · rw [if_pos z, z.1, z.2]
        · rw [if_neg z]
      | true =>
        rw [if_pos rfl, if_pos rfl]
        by_cases z : x = i ∧ y = 64 * r + m
        · rw [if_pos z]
          unfold wS
          rw [z.1, z.2, wi_rd, if_pos ⟨rfl, rfl⟩, n32_nat]
          exact Nat.mod_eq_of_lt (Nat.lt_of_lt_of_le or2 (by decide))
        · rw [if_neg z]
          unfold wS
          rw [wi_rd, if_neg (by omega), t1.2 _ _ (by omega) (by omega)]
    have gT2 : mF S T2 := by
      rw [hT2]
      cases X with
      | false => exact mF_tr g (mF_56 t1)
      | true => exact mF_tr g (mF_tr (mF_56 t1) (mF_wi _ _ _))
    have bit (l : Nat) : (wS T2 i (64 * r + m)).testBit l = ((wS T i (64 * r + m)).testBit l || (X && decide (lv = l))) := by
      rw [ws _ _ (by omega), if_pos ⟨rfl, rfl⟩]
      cases X with
      | false => rw [if_neg (by decide), Bool.false_and, Bool.or_false]
      | true => rw [if_pos rfl, Nat.testBit_or, Nat.testBit_two_pow, Bool.true_and]
    obtain ⟨T', b1, b2, b3, b4, b5, b6⟩ := pt_lp q d hI hD hr hi hl hDr hQ0 m T2 (by omega) gT2 (fun x y x1 x2 y1 => by
      rw [ws x y y1]
      by_cases z : x = i ∧ y = 64 * r + m
      · rw [if_pos z]
        split
        · exact or2
        · exact wT
      · rw [if_neg z]
        exact hw x y x1 x2 y1) (fun p hp => by
      rw [ws _ _ (by omega), if_neg (by omega)]
      exact hz p (by omega))
    have b3' (y l : Nat) (hy : y < 512) (hl : l ≠ lv) : (wS T' i y).testBit l = (wS T i y).testBit l := by
      rw [b3 y l hy hl]
      by_cases z : y = 64 * r + m
      · rw [z, bit l, decide_eq_false (fun w => hl w.symm), Bool.and_false, Bool.or_false]
      · rw [ws _ _ hy, if_neg (fun w => z w.2)]
    refine ⟨T', b1, fun x y hy h => ?_, b3', b4, fun B hB P tx tn hQ p hp => ?_, fun u1 => (e2 u1).trans (b6 u1)⟩
    · rw [b2 x y hy (by omega), ws x y hy, if_neg (by omega)]
    · by_cases z : p = m
      · subst z
        have ag : mB T B i cnt r p lv := ⟨hw, fun x y l x1 x2 y1 l1 o => by
          rw [← hB x y l x1 x2 y1 l1 (by omega)]
          by_cases xi : x = i
          · subst xi
            by_cases ll : l = lv
            · rw [b2 x y y1 (by omega), ws x y y1, if_neg (by omega)]
            · rw [b3' y l y1 ll]
          · rw [b2 x y y1 (Or.inl xi), ws x y y1, if_neg (fun w => xi w.1)]⟩
        obtain ⟨T3, _, t3⟩ := fit_v q d (mF_I hI g) (D := D) hr hi hl ag (mF_Q hQ g) (by omega) (fun r hr => (g.2 _ _ (by omega) (by omega) (by omega)).trans (hD r hr))
        have eX : n32 X.toNat = n32 (fitP P tx (b, I, RR D B) (Br B r) i p lv).toNat := by
          have := t2.symm.trans t3
          injection this with h1
          injection h1 with h2 h3
          injection h2 with h4 h5
          injection h5 with h6 h7
        rw [← bo_in eX, ← hB i (64 * r + p) lv (Nat.le_refl _) hi (by omega) hl (by omega), b2 i _ (by omega) (by omega), bit lv, wz, decide_eq_true rfl, Bool.false_or, Bool.and_true]
      · exact b5 B hB P tx tn hQ p (by omega)
/-- the rules, at an item and a level -/
theorem ru_lp (q d : Nat) {S : ab_S} {b : Nat → Nat} {I : Nat → Nat → Nat} {D : Nat → Bool} {cnt bn : Nat} (hI : mI S b I cnt bn) (hD : ∀ r, r < 8 → S.1 120 r = n32 (D r).toNat) (hG : ∀ r, r < 8 → D r = true → ∃ pn P tx tn, 0 < pn ∧ S.1 122 r = n32 pn ∧ mQ S r pn P tx tn) {i lv : Nat} (hi : i < cnt) (hl : lv ≤ 20) : ∀ m r T, r + m = 8 → mF S T → (∀ x y, i ≤ x → x < cnt → y < 512 → wS T x y < 2097152) → (∀ y, 64 * r ≤ y → y < 512 → (wS T i y).testBit lv = false) → ∃ T', mF S T' ∧ (∀ x y, y < 512 → (x ≠ i ∨ y < 64 * r) → wS T' x y = wS T x y) ∧ (∀ y l, y < 512 → l ≠ lv → (wS T' i y).testBit l = (wS T i y).testBit l) ∧ (∀ x y, i ≤ x → x < cnt → y < 512 → wS T' x y < 2097152) ∧ (∀ B : Nat → Nat → Nat → Bool, (∀ x y l, i ≤ x → x < cnt → y < 512 → l ≤ 20 → (i < x ∨ lv < l ∨ (l = lv ∧ 64 * r ≤ y)) → (wS T' x y).testBit l = B x y l) → ∀ r', r ≤ r' → r' < 8 → EQ S D b I B i lv r') ∧ ∀ u1, v_118_50 q (d + 4) u1 (n32 i) (n32 lv) (n32 r) T = v_118_43 q (d + 4) u1 (n32 i) (n32 (lv + 4294967295)) T'
  | 0, r, T, e, g, hw, hz => by
    refine ⟨T, g, fun _ _ _ _ => rfl, fun _ _ _ _ => rfl, hw, fun B _ r' h1 h2 => absurd h2 (by omega), fun u1 => ?_⟩
    rw [e_118_50, if_neg (by rw [n32_lt (by omega) (by omega)]; omega), n32_m1, n32_add]
  | m + 1, r, T, e, g, hw, hz => by
    have c24 := hI.1
    -- one rule
    have one : ∃ T1, mF S T1 ∧ (∀ x y, y < 512 → (x ≠ i ∨ y < 64 * r ∨ 64 * r + 64 ≤ y) → wS T1 x y = wS T x y) ∧ (∀ y l, y < 512 → l ≠ lv → (wS T1 i y).testBit l = (wS T i y).testBit l) ∧ (∀ x y, i ≤ x → x < cnt → y < 512 → wS T1 x y < 2097152) ∧ (∀ B : Nat → Nat → Nat → Bool, (∀ x y l, i ≤ x → x < cnt → y < 512 → l ≤ 20 → (i < x ∨ lv < l ∨ (l = lv ∧ 64 * r ≤ y ∧ y < 64 * r + 64)) → (wS T1 x y).testBit l = B x y l) → EQ S D b I B i lv r) ∧ ∀ u1, v_118_50 q (d + 4) u1 (n32 i) (n32 lv) (n32 r) T = v_118_141 q (d + 4) u1 (n32 i) (n32 lv) (n32 r) T1 := by
      have e0 (u1 : Int32) : v_118_50 q (d + 4) u1 (n32 i) (n32 lv) (n32 r) T = v_118_74 q (d + 4) u1 (n32 i) (n32 lv) (n32 r) (((n32 64 * n32 r) + (S.1 122 r)) - n32 1) T := by
        rw [e_118_50, if_pos (by rw [n32_lt (by omega) (by omega)]; omega), n32_in (by omega) (by omega), g_t, n32_cl (by omega), g.2 _ _ (by omega) (by omega) (by omega)]
      cases hDr : D r with
      | false =>
        refine ⟨T, g, fun _ _ _ _ => rfl, fun _ _ _ _ => rfl, hw, fun B _ => ?_, fun u1 => ?_⟩
        · intro x
          rw [hDr] at x
          cases x
        have a120 : T.1 120 r = n32 0 := by
          rw [g.2 _ _ (by omega) (by omega) (by omega), hD r (by omega), hDr]
          rfl
        rw [e0, e_118_74, n32_in (by omega) (by omega), g_t, n32_cl (by omega), a120]
        split
        · rfl
        · rfl
      | true =>
        obtain ⟨pn, P0, tx0, tn0, h1, h2, h3⟩ := hG r (by omega) hDr
        have p60 := h3.1
        obtain ⟨T1, a1, a2, a3, a4, a5, a6⟩ := pt_lp q d hI hD (by omega : r < 8) hi hl hDr h3 pn T (Nat.le_refl _) g hw (fun p hp => hz _ (by omega) (by omega))
        refine ⟨T1, a1, fun x y y1 o => a2 x y y1 (by omega), a3, a4, fun B hB _ pn' P tx tn k1 k2 p hp => ?_, fun u1 => ?_⟩
        · have p6 := k2.1
          have pe : pn' = pn := by
            have := k1.symm.trans h2
            rw [n32_eq (by omega) (by omega)] at this
            exact this
          subst pe
          exact a5 B hB P tx tn k2 p hp
        · obtain ⟨k, rfl⟩ : ∃ k, pn = k + 1 := ⟨pn - 1, by omega⟩
          rw [e0, h2, n32_mul, n32_add, n32_sub (by omega), ← a6, ← Nat.add_assoc, nx_1, Nat.add_sub_cancel]
    obtain ⟨T1, a1, a2, a3, a4, a5, a6⟩ := one
    obtain ⟨T', b1, b2, b3, b4, b5, b6⟩ := ru_lp q d hI hD hG hi hl m (r + 1) T1 (by omega) a1 a4 (fun y y1 y2 => by rw [a2 i y y2 (by omega)]; exact hz y (by omega) y2)
    refine ⟨T', b1, fun x y y1 o => ?_, fun y l y1 l1 => ?_, b4, fun B hB r' r1 r2 => ?_, fun u1 => ?_⟩
    · rw [b2 x y y1 (by omega), a2 x y y1 (by omega)]
    · rw [b3 y l y1 l1, a3 y l y1 l1]
    · by_cases z : r' = r
      · subst z
        refine a5 B (fun x y l x1 x2 y1 l1 o => ?_)
        rw [← hB x y l x1 x2 y1 l1 (by omega)]
        by_cases xi : x = i
        · subst xi
          by_cases ll : l = lv
          · rw [b2 x y y1 (by omega)]
          · rw [b3 y l y1 ll]
        · rw [b2 x y y1 (Or.inl xi)]
      · exact b5 B (fun x y l x1 x2 y1 l1 o => hB x y l x1 x2 y1 l1 (by omega)) r' (by omega) r2
    · rw [a6, e_118_141, n32_add]
      exact b6 u1
/-- the levels, at an item -/
theorem le_lp (q d : Nat) {S : ab_S} {b : Nat → Nat} {I : Nat → Nat → Nat} {D : Nat → Bool} {cnt bn : Nat} (hI : mI S b I cnt bn) (hD : ∀ r, r < 8 → S.1 120 r = n32 (D r).toNat) (hG : ∀ r, r < 8 → D r = true → ∃ pn P tx tn, 0 < pn ∧ S.1 122 r = n32 pn ∧ mQ S r pn P tx tn) {i : Nat} (hi : i < cnt) : ∀ m T, m ≤ 21 → mF S T → (∀ x y, i ≤ x → x < cnt → y < 512 → wS T x y < 2097152) → (∀ y l, y < 512 → l < m → (wS T i y).testBit l = false) → ∃ T', mF S T' ∧ (∀ x y, y < 512 → x ≠ i → wS T' x y = wS T x y) ∧ (∀ y l, y < 512 → m ≤ l → (wS T' i y).testBit l = (wS T i y).testBit l) ∧ (∀ x y, i ≤ x → x < cnt → y < 512 → wS T' x y < 2097152) ∧ (∀ B : Nat → Nat → Nat → Bool, (∀ x y l, i ≤ x → x < cnt → y < 512 → l ≤ 20 → (wS T' x y).testBit l = B x y l) → ∀ l r, l < m → r < 8 → EQ S D b I B i l r) ∧ ∀ u1, v_118_43 q (d + 4) u1 (n32 i) (n32 (m + 4294967295)) T = v_118_7 q (d + 4) u1 (n32 (i + 4294967295)) T'
  | 0, T, hm, g, hw, hz => by
    refine ⟨T, g, fun _ _ _ _ => rfl, fun _ _ _ _ => rfl, hw, fun B _ l r h => absurd h (Nat.not_lt_zero _), fun u1 => ?_⟩
    rw [e_118_43, Nat.zero_add, if_pos m1_lt, n32_m1, n32_add]
  | m + 1, T, hm, g, hw, hz => by
    have c24 := hI.1
    obtain ⟨T1, a1, a2, a3, a4, a5, a6⟩ := ru_lp q d hI hD hG hi (by omega : m ≤ 20) 8 0 T rfl g hw (fun y _ y2 => hz y m y2 (Nat.lt_succ_self _))
    obtain ⟨T', b1, b2, b3, b4, b5, b6⟩ := le_lp q d hI hD hG hi m T1 (by omega) a1 a4 (fun y l y1 l1 => by rw [a3 y l y1 (by omega)]; exact hz y l y1 (by omega))
    refine ⟨T', b1, fun x y y1 o => ?_, fun y l y1 l1 => ?_, b4, fun B hB l r l1 r1 => ?_, fun u1 => ?_⟩
    · rw [b2 x y y1 o, a2 x y y1 (Or.inl o)]
    · rw [b3 y l y1 (by omega), a3 y l y1 (by omega)]
    · by_cases z : l = m
      · subst z
        refine a5 B (fun x y l' x1 x2 y1 l2 o => ?_) r (Nat.zero_le _) r1
        rw [← hB x y l' x1 x2 y1 l2]
        by_cases xi : x = i
        · subst xi
          rw [b3 y l' y1 (by omega)]
        · rw [b2 x y y1 xi]
      · exact b5 B hB l r (by omega) r1
    · rw [nx_1, e_118_43, if_neg (by rw [n32_lt (by omega) (by omega)]; omega)]
      exact (a6 u1).trans (b6 u1)
theorem ze_lp (q d : Nat) {S : ab_S} {i : Nat} (hi : i < 24) : ∀ m j T, j + m = 512 → mF S T → ∃ T', mF S T' ∧ (∀ x y, y < 512 → (x ≠ i ∨ y < j) → wS T' x y = wS T x y) ∧ (∀ y, j ≤ y → y < 512 → wS T' i y = 0) ∧ ∀ u1, v_118_14 q (d + 1) u1 (n32 i) (n32 j) T = v_118_43 q (d + 1) u1 (n32 i) (n32 20) T'
  | 0, j, T, e, g => ⟨T, g, fun _ _ _ _ => rfl, fun y h1 h2 => by omega, fun u1 => by rw [e_118_14, if_neg (by rw [n32_lt (by omega) (by omega)]; omega)]⟩
  | m + 1, j, T, e, g => by
    obtain ⟨T', a1, a2, a3, a4⟩ := ze_lp q d hi m (j + 1) (ab_wi T 144 (512 * i + j) (n32 0)) (by omega) (mF_tr g (mF_wi _ _ _))
    refine ⟨T', a1, fun x y y1 o => ?_, fun y h1 h2 => ?_, fun u1 => ?_⟩
    · rw [a2 x y y1 (by omega)]
      unfold wS
      rw [wi_rd, if_neg (by omega)]
    · by_cases z : y = j
      · subst z
        rw [a2 i y h2 (by omega)]
        unfold wS
        rw [wi_rd, if_pos ⟨rfl, rfl⟩]
        rfl
      · exact a3 y (by omega) h2
    · rw [e_118_14, if_pos (by rw [n32_lt (by omega) (by omega)]; omega), n32_mul, n32_add, n32_in (by omega) (by omega), g_t, n32_cl (by omega), n32_add]
      exact a4 u1
/-- the items -/
theorem im_lp (q d : Nat) {S : ab_S} {b : Nat → Nat} {I : Nat → Nat → Nat} {D : Nat → Bool} {cnt bn : Nat} (hI : mI S b I cnt bn) (hD : ∀ r, r < 8 → S.1 120 r = n32 (D r).toNat) (hG : ∀ r, r < 8 → D r = true → ∃ pn P tx tn, 0 < pn ∧ S.1 122 r = n32 pn ∧ mQ S r pn P tx tn) : ∀ m k T, k + m ≤ cnt → mF S T → (∀ x y, k + m ≤ x → x < cnt → y < 512 → wS T x y < 2097152) → ∃ T', mF S T' ∧ (∀ x y, y < 512 → k + m ≤ x → wS T' x y = wS T x y) ∧ (∀ x y, k ≤ x → x < cnt → y < 512 → wS T' x y < 2097152) ∧ (∀ B : Nat → Nat → Nat → Bool, (∀ x y l, k ≤ x → x < cnt → y < 512 → l ≤ 20 → (wS T' x y).testBit l = B x y l) → ∀ i l r, k ≤ i → i < k + m → l ≤ 20 → r < 8 → EQ S D b I B i l r) ∧ ∀ fr, fr ≤ k → v_118_7 q (d + 4) (n32 fr) (n32 (k + m + 4294967295)) T = v_118_7 q (d + 4) (n32 fr) (n32 (k + 4294967295)) T'
  | 0, k, T, hm, g, hw => ⟨T, g, fun _ _ _ _ => rfl, hw, fun B _ i l r h1 h2 => absurd h2 (by omega), fun _ _ => rfl⟩
  | m + 1, k, T, hm, g, hw => by
    have c24 := hI.1
    obtain ⟨T0, z1, z2, z3, z4⟩ := ze_lp q (d + 3) (by omega : k + m < 24) 512 0 T rfl g
    obtain ⟨T1, a1, a2, a3, a4, a5, a6⟩ := le_lp q d hI hD hG (by omega : k + m < cnt) 21 T0 (Nat.le_refl _) z1 (fun x y x1 x2 y1 => by
      by_cases xi : x = k + m
      · rw [xi, z3 y (Nat.zero_le _) y1]
        decide
      · rw [z2 x y y1 (Or.inl xi)]
        exact hw x y (by omega) x2 y1) (fun y l y1 _ => by rw [z3 y (Nat.zero_le _) y1, Nat.zero_testBit])
    obtain ⟨T', b1, b2, b3, b4, b5⟩ := im_lp q d hI hD hG m k T1 (by omega) a1 a4
    refine ⟨T', b1, fun x y y1 o => ?_, b3, fun B hB i l r i1 i2 l1 r1 => ?_, fun fr hf => ?_⟩
    · rw [b2 x y y1 (by omega), a2 x y y1 (by omega), z2 x y y1 (by omega)]
    · by_cases z : i = k + m
      · subst z
        exact a5 B (fun x y l' x1 x2 y1 l2 => by rw [← hB x y l' (by omega) x2 y1 l2, b2 x y y1 x1]) l r (by omega) r1
      · exact b4 B hB i l r i1 (by omega) l1 r1
    · rw [← Nat.add_assoc k m 1, nx_1, e_118_7, if_neg (by rw [n32_lt (by omega) (by omega)]; omega), z4]
      exact (a6 (n32 fr)).trans (b5 fr hf)
/-- the reference matches -/
theorem mall_v (q d : Nat) {S : ab_S} {b : Nat → Nat} {I : Nat → Nat → Nat} {D : Nat → Bool} {L B : Nat → Nat} {ls : Nat → List alt} {cnt bn : Nat} (hI : mI S b I cnt bn) (hG : rG S D L B ls) {fr : Nat} (hf : fr < cnt) : ∃ R T, mF S T ∧ v_118_0 q (d + 4) (n32 fr) S = some ((0, 0, 0, 0), T) ∧ fix (b, I, R) cnt D ls ∧ ∀ r, r < 8 → D r = true → v_110_0 q (d + 4) (n32 fr) (n32 64 * n32 r) (n32 0) T = some ((0, n32 (R r fr 0).toNat, 0, 0), T) := by
  have c24 := hI.1
  have hD : ∀ r, r < 8 → S.1 120 r = n32 (D r).toNat := fun r hr => (hG.1 r hr).1
  have hG' : ∀ r, r < 8 → D r = true → ∃ pn P tx tn, 0 < pn ∧ S.1 122 r = n32 pn ∧ mQ S r pn P tx tn := fun r hr h => by
    obtain ⟨pn, P, tx, tn, h1, h2, h3, h4, h5, h6, h7, h8, h9⟩ := hG.2 r hr h
    exact ⟨pn, P, tx, tn, h1, h3, h2, h4, h6, h7, h8, h9⟩
  obtain ⟨T1, a1, a2, a3, a4, a5⟩ := im_lp q d hI hD hG' (cnt - fr) fr S (by omega) (mF_rf S) (fun x y x1 x2 _ => by omega)
  obtain ⟨T0, b1, b2, b3, b4, _⟩ := im_lp q d hI hD hG' fr 0 T1 (by omega) a1 (fun x y x1 x2 y1 => a3 x y (by omega) x2 y1)
  have eqs' : ∀ i l r, i < cnt → l ≤ 20 → r < 8 → EQ S D b I (fun x y l => (wS T0 x y).testBit l) i l r := fun i l r i1 l1 r1 => by
    by_cases z : fr ≤ i
    · exact a4 _ (fun x y l x1 x2 y1 l2 => by rw [b2 x y y1 (by omega)]) i l r z (by omega) l1 r1
    · exact b4 _ (fun x y l x1 x2 y1 l2 => rfl) i l r (Nat.zero_le _) (by omega) l1 r1
  refine ⟨RR D (fun x y l => (wS T0 x y).testBit l), T1, a1, ?_, fun r i lv hr hi => ?_, fun r hr hDr => ?_⟩
  · have e26 : S.1 117 26 = n32 cnt := hI.2.2.1.1
    have e5 := a5 fr (Nat.le_refl _)
    rw [show fr + (cnt - fr) = cnt by omega] at e5
    obtain ⟨k, hk⟩ : ∃ k, cnt = k + 1 := ⟨cnt - 1, by omega⟩
    rw [e_118_0, e26, n32_sub (by omega)]
    rw [hk, nx_1, ← Nat.add_sub_cancel (n := k) (m := 1), ← hk] at e5
    rw [e5, e_118_7]
    rcases Nat.eq_zero_or_pos fr with z | z
    · subst z
      rw [if_pos (show n32 (0 + 4294967295) < n32 0 by decide)]
    · obtain ⟨f, rfl⟩ : ∃ f, fr = f + 1 := ⟨fr - 1, by omega⟩
      rw [nx_1, if_pos (by rw [n32_lt (by omega) (by omega)]; omega)]
  · show (D r && hv (Br (fun x y l => (wS T0 x y).testBit l) r) lv i 0) = lvl lv (D r && anyS (ls r) (b, I, RR D (fun x y l => (wS T0 x y).testBit l)) i lv)
    unfold hv lvl
    by_cases g : lv ≤ 20
    · cases hDr : D r with
      | false => rw [Bool.false_and, Bool.false_and, Bool.and_false]
      | true =>
        obtain ⟨pn, P, tx, tn, h1, h2, h3, h4, h5, h6, h7, h8, h9⟩ := hG.2 r hr hDr
        have mq : mQ S r pn P tx tn := ⟨h2, h4, h6, h7, h8, h9⟩
        have fx : fxB P tx (b, I, RR D (fun x y l => (wS T0 x y).testBit l)) (Br (fun x y l => (wS T0 x y).testBit l) r) 0 cnt 0 pn := fun i p lv _ i2 _ p2 l1 => eqs' i lv r i2 l1 hr hDr pn P tx tn h3 mq p p2
        have dn := h5 P (fun _ _ _ _ _ => rfl) (b, I, RR D (fun x y l => (wS T0 x y).testBit l)) 0 cnt bn _ ⟨c24, hI.2.2.2.2.2⟩ fx i lv (Nat.zero_le _) hi g
        rw [dn, Bool.true_and, Bool.true_and]
    · rw [decide_eq_false g, Bool.false_and, Bool.false_and, Bool.and_false]
  · have w := a3 fr (64 * r) (Nat.le_refl _) hf (by omega)
    rw [n32_mul, hasv q (d + 4) (by omega) (by omega) (by omega) w]
    show _ = some ((0, n32 (D r && hv (Br (fun x y l => (wS T0 x y).testBit l) r) 0 fr 0).toNat, 0, 0), T1)
    have e : hv (Br (fun x y l => (wS T0 x y).testBit l) r) 0 fr 0 = lvl 0 ((wS T1 fr (64 * r)).testBit 0) := by
      show lvl 0 ((wS T0 fr (64 * r)).testBit 0) = _
      rw [b2 fr (64 * r) (by omega) (by omega)]
    rw [hDr, Bool.true_and, e]
