-- Matching in the class: rules, with the table of answers.
def cSh (q : Nat) (S : ab_S) (D : Nat → Bool) (ls : Nat → List alt) : Prop := ∀ r, r < 8 → isSh (S.2.2.1 13 r) ∧ (D r = true → S.1 (S.2.2.1 13 r) 12 = n32 (fst (ls r)) ∧ dT q (S.2.2.1 13 r) S 0 40 (ls r)) ∧ (D r = false → S.1 (S.2.2.1 13 r) 12 = n32 4294967295 ∨ (S.1 (S.2.2.1 13 r) 12 = n32 0 ∧ S.1 (S.2.2.1 13 r + 2) 0 = n32 0 ∧ S.1 (S.2.2.1 13 r + 3) 0 = n32 0))
/-- the answers of rules are what their types say -/
def fix (c : ctx) (cnt : Nat) (D : Nat → Bool) (ls : Nat → List alt) : Prop := ∀ r i lv, r < 8 → i < cnt → c.2.2 r i lv = lvl lv (D r && anyS (ls r) c i lv)
theorem k66_0 {q d r x i : Nat} (hr : isSh r) (hx : x < 40) (hi : i < 24) {S : ab_S} (hk : S.1 (r + 2) x = n32 0) (u4 : Int32) : v_66_0 q (d + 1) r (n32 x) (n32 i) u4 S = some ((0, n32 0, 0, 0), S) := by
  rw [e_66_0, n32_in (by omega) (by omega), g_t, ok_sh hr (k := 66) rfl, g_t, ok_a2 hr (k := 66) rfl, g_t, in_ar hr q hx (by omega) (by omega), g_t, n32_cl (show x < 2147483648 by omega), hk, if_neg (by decide : ¬ n32 0 = n32 34), if_neg (by decide : ¬ n32 0 = n32 35), if_neg (by decide : ¬ n32 0 = n32 46), if_neg (by decide : ¬ n32 0 = n32 48), if_neg (by decide : ¬ n32 0 = n32 65), if_neg (by decide : ¬ n32 0 = n32 91), if_neg (by decide : ¬ n32 0 = n32 98), if_neg (by decide : ¬ n32 0 = n32 105), if_neg (by decide : ¬ n32 0 = n32 110), if_neg (by decide : ¬ n32 0 = n32 115), if_neg (by decide : ¬ n32 0 = n32 116), if_neg (by decide : ¬ n32 0 = n32 121), if_neg (by decide : ¬ n32 0 = n32 123)]
theorem und_lp {q d r i : Nat} (hr : isSh r) (hi : i < 24) {S : ab_S} (h2 : S.1 (r + 2) 0 = n32 0) (h3 : S.1 (r + 3) 0 = n32 0) (u4 : Int32) : ∀ m n, n + m = 40 → v_65_15 q (d + 2) r (n32 i) u4 (n32 0) (n32 n) S = some ((0, n32 0, 0, 0), S)
  | 0, n, e => by
    rw [e_65_15, if_neg (by rw [n32_lt (by omega) (by omega)]; omega), e_65_58]
  | m + 1, n, e => by
    rw [e_65_15, if_pos (by rw [n32_lt (by omega) (by omega)]; omega), n32_m1, if_neg (by decide), k66_0 hr (by omega) hi h2, cI_0, if_pos rfl, ok_sh hr (k := 65) rfl, g_t, ok_a3 hr (k := 65) rfl, g_t, in_ar hr q (by omega : 0 < 40) (by omega) (by omega), g_t, n32_cl (by omega), h3, n32_add]
    exact und_lp hr hi h2 h3 u4 m (n + 1) (by omega)
theorem or_21 {a b : Nat} (h : a < 2097152) (g : b < 2097152) : a ||| b < 2097152 := Nat.or_lt_two_pow (n := 21) h g
theorem p_21 {lv : Nat} (h : lv ≤ 20) : 2 ^ lv < 2097152 := Nat.lt_of_le_of_lt (Nat.pow_le_pow_right (by decide) h) (by decide)
theorem i_and {α : Type} {a lv : Nat} (ha : a < 2097152) (h : lv ≤ 20) (x y : α) : (if n32 a &&& (n32 1 <<< (n32 lv &&& 31)) = n32 0 then x else y) = if a.testBit lv = true then y else x := by
  have p := p_21 h
  have p0 : 0 < 2 ^ lv := Nat.two_pow_pos lv
  rw [n32_shl _ (by omega), Nat.one_mul, n32_and, and_p]
  by_cases g : a.testBit lv = true
  · rw [if_pos g, if_pos g, i_eq (by omega) (by omega), if_neg (by omega)]
  · rw [if_neg g, if_neg g, if_pos rfl]
theorem fr_st {q : Nat} {S0 : ab_S} {c : ctx} {cnt bn : Nat} (h : cx S0 c cnt bn) {D : Nat → Bool} {ls : Nat → List alt} (hS : cSh q S0 D ls) (hR : fix c cnt D ls) {L : Nat} (hL : L ≤ 21) (hF : FR q S0 c cnt (L + 1)) : FR q S0 c cnt L := by
  intro lv l1 l2 r i d hr hi hd
  by_cases l3 : L + 1 ≤ lv
  · exact hF lv l3 l2 r i d hr hi hd
  have l4 : lv = L := by omega
  subst l4
  obtain ⟨d, rfl⟩ := dsuc hd
  intro S m1 m2
  have hc := h.2.1
  by_cases g : 20 < lv
  · refine ⟨S, m1, m2, ?_⟩
    rw [e_64_0, i_lt (by omega) (by omega), if_pos g, hR r i lv hr hi]
    unfold lvl
    rw [decide_eq_false (by omega : ¬ lv ≤ 20)]
    rfl
  obtain ⟨s1, s2, s3⟩ := hS r hr
  have sg := sh_ge s1
  obtain ⟨kn, an, k1, k2⟩ := m2
  have hat : r * 24 + i < 192 := by omega
  have e0 := k1 (r * 24 + i) hat
  have e1 : v_64_0 q (d + 1) (n32 r) (n32 i) (n32 lv) S = if (kn (r * 24 + i)).testBit lv = true then v_64_93 q (d + 1) (n32 (r * 24 + i)) (n32 1 <<< (n32 lv &&& 31)) S else (cI (v_65_0 q d (S0.2.2.1 13 r) (S0.1 (S0.2.2.1 13 r) 12) (n32 i) (n32 lv) S) fun y1 S1 => (if y1 = n32 0 then v_64_91 q (d + 1) (n32 (r * 24 + i)) (n32 1 <<< (n32 lv &&& 31)) (n32 0) (S1.1 116 (r * 24 + i)) (n32 (r * 24 + i)) (ab_wi S1 115 (r * 24 + i) (S1.1 115 (r * 24 + i) ||| (n32 1 <<< (n32 lv &&& 31)))) else v_64_91 q (d + 1) (n32 (r * 24 + i)) (n32 1 <<< (n32 lv &&& 31)) (n32 1 <<< (n32 lv &&& 31)) (S1.1 116 (r * 24 + i)) (n32 (r * 24 + i)) (ab_wi S1 115 (r * 24 + i) (S1.1 115 (r * 24 + i) ||| (n32 1 <<< (n32 lv &&& 31)))))) := by
    rw [e_64_0, i_lt (by omega) (by omega), if_neg g, n32_mul, n32_add, n32_in (by omega) hat, g_t, n32_cl (by omega), e0.1, i_and e0.2.2.1 (by omega), n32_in (by omega) (by omega), g_t, n32_cl (by omega), m1.1, ok_sh s1 (k := 64) rfl, g_t, m1.2 _ 12 (by omega) (by omega)]
    rfl
  have an93 (S' : ab_S) (n1 : mx S0 S') (kn' an' : Nat → Nat) (k1' : ∀ x, x < 192 → S'.1 115 x = n32 (kn' x) ∧ S'.1 116 x = n32 (an' x) ∧ kn' x < 2097152 ∧ an' x < 2097152) (k2' : ∀ r i lv, r < 8 → i < cnt → lv ≤ 20 → (an' (r * 24 + i)).testBit lv = ((kn' (r * 24 + i)).testBit lv && c.2.2 r i lv)) (kt : (kn' (r * 24 + i)).testBit lv = true) : ∃ S'', mx S0 S'' ∧ mm c cnt S'' ∧ v_64_93 q (d + 1) (n32 (r * 24 + i)) (n32 1 <<< (n32 lv &&& 31)) S' = some ((0, n32 (c.2.2 r i lv).toNat, 0, 0), S'') := by
    refine ⟨S', n1, ⟨kn', an', k1', k2'⟩, ?_⟩
    have a0 := k1' (r * 24 + i) hat
    have a1 := k2' r i lv hr hi (by omega)
    rw [kt, Bool.true_and] at a1
    rw [e_64_93, n32_in (by omega) hat, g_t, n32_cl (by omega), a0.2.1, i_and a0.2.2.2 (by omega), a1, e_64_111, e_64_111, nz_0, nz_1]
    cases c.2.2 r i lv with
    | true => rfl
    | false => rfl
  rw [e1]
  by_cases kt : (kn (r * 24 + i)).testBit lv = true
  · rw [if_pos kt]
    exact an93 S m1 kn an k1 k2 kt
  rw [if_neg kt]
  have ty : ∃ S1, mx S0 S1 ∧ mm c cnt S1 ∧ v_65_0 q d (S0.2.2.1 13 r) (S0.1 (S0.2.2.1 13 r) 12) (n32 i) (n32 lv) S = some ((0, n32 (c.2.2 r i lv).toNat, 0, 0), S1) := by
    cases hD : D r with
    | true =>
      obtain ⟨t1, t2⟩ := s2 hD
      rw [t1, hR r i lv hr hi, hD, Bool.true_and]
      exact fty s1 h hF (Nat.le_refl _) l2 hi (by omega) (Nat.le_refl _) t2 S m1 ⟨kn, an, k1, k2⟩
    | false =>
      refine ⟨S, m1, ⟨kn, an, k1, k2⟩, ?_⟩
      obtain ⟨d, rfl⟩ := dsuc (by omega : 4 * (21 - lv) + 3 + 1 ≤ d)
      obtain ⟨d, rfl⟩ := dsuc (by omega : 4 * (21 - lv) + 2 + 1 ≤ d)
      have hz : c.2.2 r i lv = false := by
        rw [hR r i lv hr hi, hD, Bool.false_and]
        unfold lvl
        exact Bool.and_false _
      rw [hz, e_65_0, i_lt (by omega) (by omega), if_neg g]
      rcases s3 hD with t | ⟨t1, t2, t3⟩
      · rw [t, e_65_15, if_pos (by decide), n32_m1, if_pos rfl, e_65_58]
        rfl
      · rw [t1]
        exact und_lp s1 (by omega) ((m1.2 _ 0 (by omega) (by omega)).trans t2) ((m1.2 _ 0 (by omega) (by omega)).trans t3) _ 40 0 rfl
  obtain ⟨S1, n1, ⟨kn', an', k1', k2'⟩, t3⟩ := ty
  have a0 := k1' (r * 24 + i) hat
  have p := p_21 (by omega : lv ≤ 20)
  rw [t3, cI_0, i_bz, e_64_91, e_64_91, n32_in (by omega) hat, g_t, g_t, n32_cl (by omega), a0.1, a0.2.1, n32_shl _ (by omega), Nat.one_mul, n32_or, n32_or, n32_or]
  have aux (v : Nat) (hv : v < 2097152) (hb : ∀ l, v.testBit l = (decide (l = lv) && c.2.2 r i lv)) : ∃ S'', mx S0 S'' ∧ mm c cnt S'' ∧ v_64_93 q (d + 1) (n32 (r * 24 + i)) (n32 (2 ^ lv)) (ab_wi (ab_wi S1 115 (r * 24 + i) (n32 (kn' (r * 24 + i) ||| 2 ^ lv))) 116 (r * 24 + i) (n32 (an' (r * 24 + i) ||| v))) = some ((0, n32 (c.2.2 r i lv).toNat, 0, 0), S'') := by
    have := an93 (ab_wi (ab_wi S1 115 (r * 24 + i) (n32 (kn' (r * 24 + i) ||| 2 ^ lv))) 116 (r * 24 + i) (n32 (an' (r * 24 + i) ||| v))) ⟨n1.1, fun cc j x y => by rw [wi_rd, if_neg (by omega), wi_rd, if_neg (by omega)]; exact n1.2 cc j x y⟩
      (fun x => if x = r * 24 + i then kn' x ||| 2 ^ lv else kn' x) (fun x => if x = r * 24 + i then an' x ||| v else an' x)
      (fun x hx => by
        have b0 := k1' x hx
        by_cases ex : x = r * 24 + i
        · subst ex
          refine ⟨?_, ?_, ?_, ?_⟩
          · rw [wi_rd, if_neg (by omega), wi_rd, if_pos ⟨rfl, rfl⟩, if_pos rfl]
          · rw [wi_rd, if_pos ⟨rfl, rfl⟩, if_pos rfl]
          · rw [if_pos rfl]; exact or_21 b0.2.2.1 p
          · rw [if_pos rfl]; exact or_21 b0.2.2.2 hv
        · rw [if_neg ex, if_neg ex]
          refine ⟨?_, ?_, b0.2.2⟩
          · rw [wi_rd, if_neg (by omega), wi_rd, if_neg (fun z => ex z.2)]; exact b0.1
          · rw [wi_rd, if_neg (fun z => ex z.2), wi_rd, if_neg (by omega)]; exact b0.2.1)
      (fun r' i' lv' hr' hi' hl' => by
        have b0 := k2' r' i' lv' hr' hi' hl'
        by_cases ex : r' * 24 + i' = r * 24 + i
        · have er : r' = r := by omega
          have ei : i' = i := by omega
          subst er
          subst ei
          rw [if_pos rfl, if_pos rfl, Nat.testBit_or, Nat.testBit_or, b0, hb lv', Nat.testBit_two_pow]
          by_cases el : lv' = lv
          · subst el
            rw [decide_eq_true rfl]
            cases (kn' (r' * 24 + i')).testBit lv' <;> cases c.2.2 r' i' lv' <;> rfl
          · rw [decide_eq_false el, decide_eq_false (fun z => el z.symm), Bool.false_and, Bool.or_false, Bool.or_false]
        · rw [if_neg ex, if_neg ex]
          exact b0)
      (by rw [if_pos rfl, Nat.testBit_or, Nat.testBit_two_pow_self, Bool.or_true])
    rw [n32_shl _ (by omega), Nat.one_mul] at this
    exact this
  cases hv : c.2.2 r i lv with
  | true =>
    rw [hv] at aux
    rw [if_pos rfl]
    exact aux (2 ^ lv) p (fun l => by
      rw [Nat.testBit_two_pow, Bool.and_true]
      by_cases e : lv = l
      · rw [decide_eq_true e, decide_eq_true e.symm]
      · rw [decide_eq_false e, decide_eq_false (fun z => e z.symm)])
  | false =>
    rw [hv] at aux
    rw [if_neg (by decide)]
    exact aux 0 (by decide) (fun l => by rw [Nat.zero_testBit, Bool.and_false])
theorem fr_all {q : Nat} {S0 : ab_S} {c : ctx} {cnt bn : Nat} (h : cx S0 c cnt bn) {D : Nat → Bool} {ls : Nat → List alt} (hS : cSh q S0 D ls) (hR : fix c cnt D ls) : ∀ m L, L + m = 22 → FR q S0 c cnt L
  | 0, L, e => fun lv l1 l2 => absurd l1 (by omega)
  | m + 1, L, e => fr_st h hS hR (by omega) (fr_all h hS hR m (L + 1) (by omega))
theorem fil_v (q d : Nat) {o : Nat} (ho : o = 115 ∨ o = 116) : ∀ m n S, n + m = 192 → (∀ x, x < n → S.1 o x = n32 0) → ∃ S', v_132_5 q d o (n32 0) (n32 n) (n32 192) S = some ((0, 0, 0, 0), S') ∧ S'.2 = S.2 ∧ (∀ a b, a ≠ o → S'.1 a b = S.1 a b) ∧ ∀ x, x < 192 → S'.1 o x = n32 0
  | 0, n, S, e, h => by
    refine ⟨S, ?_, rfl, fun _ _ _ => rfl, fun x hx => h x (by omega)⟩
    rw [e_132_5, if_neg (by rw [n32_lt (by omega) (by omega)]; omega)]
  | m + 1, n, S, e, h => by
    obtain ⟨S', a1, a2, a3, a4⟩ := fil_v q d ho m (n + 1) (ab_wi S o n (n32 0)) (by omega) (fun x hx => by
      rw [wi_rd]
      by_cases ex : x = n
      · rw [if_pos ⟨rfl, ex⟩]
      · rw [if_neg (fun z => ex z.2)]
        exact h x (by omega))
    refine ⟨S', ?_, a2, fun a b hab => ?_, a4⟩
    · have o1 : ab_ok 132 S o 1 = true ∧ Nat.blt 2 o = true ∧ ab_N q o = 192 := by
        rcases ho with rfl | rfl <;> exact ⟨rfl, rfl, rfl⟩
      rw [e_132_5, if_pos (by rw [n32_lt (by omega) (by omega)]; omega), o1.1, o1.2.1, o1.2.2, n32_in (by omega) (by omega), Bool.and_true, g_t, g_t, n32_cl (by omega), n32_add]
      exact a1
    · rw [a3 a b hab, wi_rd, if_neg (fun z => hab z.1)]
theorem fil_0 (q d : Nat) {o : Nat} (ho : o = 115 ∨ o = 116) (S : ab_S) : ∃ S', v_132_0 q d o (n32 0) S = some ((0, 0, 0, 0), S') ∧ S'.2 = S.2 ∧ (∀ a b, a ≠ o → S'.1 a b = S.1 a b) ∧ ∀ x, x < 192 → S'.1 o x = n32 0 := by
  obtain ⟨S', a⟩ := fil_v q d ho 192 0 S rfl (fun x hx => absurd hx (by omega))
  refine ⟨S', ?_, a.2⟩
  have o1 : ab_ok 132 S o 1 = true ∧ ab_N q o = 192 := by
    rcases ho with rfl | rfl <;> exact ⟨rfl, rfl⟩
  rw [e_132_0, o1.1, o1.2, g_t]
  exact a.1
/-- whether an item fits a rule as a whole -/
theorem faw_v {q : Nat} {S : ab_S} {c : ctx} {cnt bn : Nat} (h : cx S c cnt bn) {D : Nat → Bool} {ls : Nat → List alt} (hS : cSh q S D ls) (hR : fix c cnt D ls) {d : Nat} (hd : 90 ≤ d) {r i : Nat} (hr : r < 8) (hi : i < cnt) : ∃ S', v_63_0 q d (n32 r) (n32 i) S = some ((0, n32 (c.2.2 r i 0).toNat, 0, 0), S') ∧ mx S S' := by
  obtain ⟨d, rfl⟩ := dsuc hd
  obtain ⟨S1, a1, a2, a3, a4⟩ := fil_0 q d (Or.inl rfl) S
  obtain ⟨S2, b1, b2, b3, b4⟩ := fil_0 q d (Or.inr rfl) S1
  have m2 : mx S S2 := ⟨b2.trans a2, fun x y z w => (b3 x y w).trans (a3 x y z)⟩
  have mm2 : mm c cnt S2 := ⟨fun _ => 0, fun _ => 0, fun x hx => ⟨(b3 115 x (by decide)).trans (a4 x hx), b4 x hx, show 0 < 2097152 by decide, show 0 < 2097152 by decide⟩, fun r i lv _ _ _ => by rw [Nat.zero_testBit]; rfl⟩
  obtain ⟨S3, c1, c2, c3⟩ := fr_all h hS hR 22 0 rfl 0 (Nat.le_refl _) (by omega) r i d hr hi (by omega) S2 m2 mm2
  refine ⟨S3, ?_, c1⟩
  rw [e_63_0, a1, cV_0, b1, cV_0, c3, cI_0, bo_nz]
