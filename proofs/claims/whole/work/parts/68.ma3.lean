-- Matching in the reference: the pairs of a map shared out.
def fl (T : ab_S) (c : Nat) (F : Nat → Bool) : Prop := ∀ s, s < 64 → T.1 c s = n32 (F s).toNat
theorem sh_i (q d : Nat) (u1 u2 u3 : Int32) : ∀ m j T, j + m = 64 → (∀ s, s < j → T.1 145 s = n32 (decide (s = 0)).toNat) → ∃ T', m56 T T' ∧ fl T' 145 (fun s => decide (s = 0)) ∧ v_115_3 q (d + 1) u1 u2 u3 (n32 j) T = v_115_38 q (d + 1) u1 u2 u3 (u1 + n32 1) T'
  | 0, j, T, e, h => ⟨T, m56_rf T, fun s hs => h s (by omega), by rw [e_115_3, if_neg (by rw [n32_lt (by omega) (by omega)]; omega)]⟩
  | m + 1, j, T, e, h => by
    obtain ⟨T', a1, a2, a3⟩ := sh_i q d u1 u2 u3 m (j + 1) (ab_wi T 145 j (n32 (decide (j = 0)).toNat)) (by omega) (fun s hs => by
      by_cases z : s = j
      · rw [z, wi_rd, if_pos ⟨rfl, rfl⟩]
      · rw [wi_rd, if_neg (fun w => z w.2)]
        exact h s (by omega))
    refine ⟨T', m56_tr (m56_wi (m56_rf T) (Or.inl rfl) _ _) a1, a2, ?_⟩
    have w (g : Bool) : v_115_26 q (d + 1) u1 u2 u3 (n32 j) (n32 g.toNat) (n32 j) T = v_115_3 q (d + 1) u1 u2 u3 (n32 (j + 1)) (ab_wi T 145 j (n32 g.toNat)) := by
      rw [e_115_26, n32_in (by omega) (by omega), g_t, n32_cl (by omega), bo_nz, n32_add]
    rw [← a3, ← w, e_115_3, if_pos (by rw [n32_lt (by omega) (by omega)]; omega), i_eq (by omega) (by omega)]
    by_cases z : j = 0
    · rw [if_pos z, decide_eq_true z]
      rfl
    · rw [if_neg z, decide_eq_false z]
      rfl
theorem sh_z (q d : Nat) (u1 u3 u4 : Int32) {x : Nat} (hx : x < 640) : ∀ m j T, j + m = 64 → (∀ s, s < j → T.1 146 s = n32 0) → ∃ T', m56 T T' ∧ (∀ j, T'.1 145 j = T.1 145 j) ∧ fl T' 146 (fun _ => false) ∧ v_115_52 q (d + 1) u1 (n32 x) u3 u4 (n32 j) T = v_115_84 q (d + 1) u1 (n32 x) u3 u4 (n32 1) (T.1 126 x) T'
  | 0, j, T, e, h => ⟨T, m56_rf T, fun _ => rfl, fun s hs => h s (by omega), by rw [e_115_52, if_neg (by rw [n32_lt (by omega) (by omega)]; omega), n32_in (by omega) hx, g_t, n32_cl (by omega)]⟩
  | m + 1, j, T, e, h => by
    obtain ⟨T', a1, a2, a3, a4⟩ := sh_z q d u1 u3 u4 hx m (j + 1) (ab_wi T 146 j (n32 0)) (by omega) (fun s hs => by
      by_cases z : s = j
      · rw [z, wi_rd, if_pos ⟨rfl, rfl⟩]
      · rw [wi_rd, if_neg (fun w => z w.2)]
        exact h s (by omega))
    refine ⟨T', m56_tr (m56_wi (m56_rf T) (Or.inr rfl) _ _) a1, fun y => ?_, a3, ?_⟩
    · rw [a2, wi_rd, if_neg (by omega)]
    · rw [e_115_52, if_pos (by rw [n32_lt (by omega) (by omega)]; omega), n32_in (by omega) (by omega), g_t, n32_cl (by omega), n32_add]
      exact a4
theorem sh_c (q d : Nat) (u1 u2 u3 : Int32) {k k2 k3 : Nat} (hk : k < 24) (hk2 : k2 < 24) {G : Nat → Bool} : ∀ m j T, j + m = 64 → T.1 140 k = n32 k2 → T.1 140 k2 = n32 k3 → fl T 146 G → (∀ s, s < j → T.1 145 s = n32 (G s).toNat) → ∃ T', m56 T T' ∧ fl T' 145 G ∧ v_115_231 q (d + 1) u1 u2 u3 (n32 k) (n32 j) T = v_115_38 q (d + 1) u1 u2 u3 (n32 k3) T'
  | 0, j, T, e, h1, h2, hg, h => ⟨T, m56_rf T, fun s hs => h s (by omega), by rw [e_115_231, if_neg (by rw [n32_lt (by omega) (by omega)]; omega), n32_in (by omega) hk, g_t, n32_cl (by omega), h1, n32_in (by omega) hk2, g_t, n32_cl (by omega), h2]⟩
  | m + 1, j, T, e, h1, h2, hg, h => by
    obtain ⟨T', a1, a2, a3⟩ := sh_c q d u1 u2 u3 hk hk2 m (j + 1) (ab_wi T 145 j (n32 (G j).toNat)) (by omega) h1 h2 (fun s hs => by rw [wi_rd, if_neg (by omega)]; exact hg s hs) (fun s hs => by
      by_cases z : s = j
      · rw [z, wi_rd, if_pos ⟨rfl, rfl⟩]
      · rw [wi_rd, if_neg (fun w => z w.2)]
        exact h s (by omega))
    refine ⟨T', m56_tr (m56_wi (m56_rf T) (Or.inl rfl) _ _) a1, a2, ?_⟩
    rw [e_115_231, if_pos (by rw [n32_lt (by omega) (by omega)]; omega), n32_in (by omega) (by omega), g_t, g_t, n32_cl (by omega), hg j (by omega), bo_nz, n32_add]
    exact a3
-- one member for one pair
theorem pw_1 : ∀ m, m < 6 → ∀ j, j < 64 → j.testBit m = true → j ||| 2 ^ m = j := by decide +kernel
theorem pw_2 : ∀ m, m < 6 → ∀ j, j < 64 → j.testBit m = false → j ||| 2 ^ m = j + 2 ^ m ∧ j + 2 ^ m < 64 ∧ (j + 2 ^ m).testBit m = true := by decide +kernel
theorem pw_3 : ∀ m, m < 6 → ∀ s, s < 64 → s.testBit m = true → 2 ^ m ≤ s ∧ (s - 2 ^ m).testBit m = false := by decide +kernel
theorem pw_4 : ∀ m, m < 6 → 0 < 2 ^ m ∧ 2 ^ m < 64 := by decide +kernel
def putj (G F : Nat → Bool) (m : Nat) (mn : Bool) (j : Nat) : Nat → Bool := fun s => G s || (s.testBit m && ((F (s - 2 ^ m) && decide (s - 2 ^ m < j)) || (mn && (F s && decide (s < j)))))
theorem putj_0 (G F : Nat → Bool) (m : Nat) (mn : Bool) (s : Nat) : putj G F m mn 0 s = G s := by
  unfold putj
  rw [decide_eq_false (Nat.not_lt_zero _), decide_eq_false (Nat.not_lt_zero _), Bool.and_false, Bool.and_false, Bool.and_false, Bool.or_false, Bool.and_false, Bool.or_false]
theorem putj_64 (G F : Nat → Bool) {m : Nat} (hm : m < 6) (mn : Bool) {s : Nat} (hs : s < 64) : putj G F m mn 64 s = (G s || put F m mn s) := by
  unfold putj put
  rw [decide_eq_true (Nat.lt_of_le_of_lt (Nat.sub_le s (2 ^ m)) hs), decide_eq_true hs, Bool.and_true, Bool.and_true]
theorem putj_s (G F : Nat → Bool) {m : Nat} (hm : m < 6) (mn : Bool) {j : Nat} (hj : j < 64) {s : Nat} (hs : s < 64) : putj G F m mn (j + 1) s = if s = j ||| 2 ^ m then (putj G F m mn j s || (F j && !(!mn && j.testBit m))) else putj G F m mn j s := by
  have p4 := pw_4 m hm
  unfold putj
  cases hb : s.testBit m with
  | false =>
    have ne : s ≠ j ||| 2 ^ m := fun z => by
      rw [z, Nat.testBit_or, Nat.testBit_two_pow_self, Bool.or_true] at hb
      cases hb
    rw [if_neg ne, Bool.false_and, Bool.false_and]
  | true =>
    have p3 := pw_3 m hm s hs hb
    cases hjb : j.testBit m with
    | true =>
      rw [pw_1 m hm j hj hjb]
      have n1 : s - 2 ^ m ≠ j := fun z => by rw [z, hjb] at p3; cases p3.2
      have d1 : decide (s - 2 ^ m < j + 1) = decide (s - 2 ^ m < j) := decide_eq_decide.mpr (by omega)
      by_cases sj : s = j
      · subst sj
        rw [if_pos rfl, d1, decide_eq_true (Nat.lt_succ_self s), decide_eq_false (Nat.lt_irrefl s)]
        cases G s <;> cases F s <;> cases mn <;> cases F (s - 2 ^ m) <;> cases decide (s - 2 ^ m < s) <;> rfl
      · have d2 : decide (s < j + 1) = decide (s < j) := decide_eq_decide.mpr (by omega)
        rw [if_neg sj, d1, d2]
    | false =>
      have p2 := pw_2 m hm j hj hjb
      rw [p2.1]
      have n1 : s ≠ j := fun z => by rw [z, hjb] at hb; cases hb
      have d2 : decide (s < j + 1) = decide (s < j) := decide_eq_decide.mpr (by omega)
      by_cases sj : s = j + 2 ^ m
      · have e : s - 2 ^ m = j := by omega
        rw [if_pos sj, d2, e, decide_eq_true (Nat.lt_succ_self j), decide_eq_false (Nat.lt_irrefl j)]
        cases G s <;> cases F s <;> cases mn <;> cases F j <;> cases decide (s < j) <;> rfl
      · have d1 : decide (s - 2 ^ m < j + 1) = decide (s - 2 ^ m < j) := decide_eq_decide.mpr (by omega)
        rw [if_neg sj, d1, d2]
/-- a member that may take the pair -/
theorem shr_m (q d : Nat) (u1 u2 u3 u4 u6 : Int32) {m : Nat} (hm : m < 6) (mn : Bool) {F G : Nat → Bool} {S : ab_S} (ha : ∀ T, m56 S T → v_114_0 q d u2 u6 u4 u3 T = some ((0, n32 1, 0, 0), T)) : ∀ k j T, j + k = 64 → m56 S T → fl T 145 F → fl T 146 (putj G F m mn j) → ∃ T', m56 S T' ∧ fl T' 145 F ∧ fl T' 146 (fun s => G s || put F m mn s) ∧ v_115_121 q (d + 1) u1 u2 u3 u4 (n32 (2 ^ m)) u6 (n32 (!mn).toNat) (n32 j) T = v_115_210 q (d + 1) u1 u2 u3 u4 (n32 (2 ^ m)) u6 T'
  | 0, j, T, e, h, h1, h2 => ⟨T, h, h1, fun s hs => by
      have := h2 s hs
      rw [show j = 64 by omega, putj_64 G F hm mn hs] at this
      exact this, by rw [e_115_121, if_neg (by rw [n32_lt (by omega) (by omega)]; omega)]⟩
  | k + 1, j, T, e, h, h1, h2 => by
    have p4 := pw_4 m hm
    have jl : j ||| 2 ^ m < 64 := Nat.or_lt_two_pow (n := 6) (by omega) (by omega)
    have st : v_115_121 q (d + 1) u1 u2 u3 u4 (n32 (2 ^ m)) u6 (n32 (!mn).toNat) (n32 j) T = v_115_121 q (d + 1) u1 u2 u3 u4 (n32 (2 ^ m)) u6 (n32 (!mn).toNat) (n32 (j + 1)) (ab_wi T 146 (j ||| 2 ^ m) (n32 (putj G F m mn j (j ||| 2 ^ m) || (F j && !(!mn && j.testBit m))).toNat)) := by
      have w (g : Bool) : v_115_169 q (d + 1) u1 u2 u3 u4 (n32 (2 ^ m)) u6 (n32 (!mn).toNat) (n32 j) (n32 g.toNat) T = v_115_121 q (d + 1) u1 u2 u3 u4 (n32 (2 ^ m)) u6 (n32 (!mn).toNat) (n32 (j + 1)) (ab_wi T 146 (j ||| 2 ^ m) (n32 (putj G F m mn j (j ||| 2 ^ m) || g).toNat)) := by
        have w2 (b : Bool) : v_115_203 q (d + 1) u1 u2 u3 u4 (n32 (2 ^ m)) u6 (n32 (!mn).toNat) (n32 j) (n32 b.toNat) (n32 (j ||| 2 ^ m)) T = v_115_121 q (d + 1) u1 u2 u3 u4 (n32 (2 ^ m)) u6 (n32 (!mn).toNat) (n32 (j + 1)) (ab_wi T 146 (j ||| 2 ^ m) (n32 b.toNat)) := by
          rw [e_115_203, n32_in (by omega) jl, g_t, n32_cl (by omega), bo_nz, n32_add]
        have w1 := w2 true
        have w0 := w2 false
        rw [e_115_169, n32_or, n32_in (by omega) jl, g_t, n32_cl (by omega), h2 _ jl, i_bz, i_bz, e_115_198]
        cases putj G F m mn j (j ||| 2 ^ m) with
        | true => exact w1
        | false =>
          cases g with
          | true => exact w1
          | false => exact w0
      have w1 := w true
      have w0 := w false
      rw [e_115_121, if_pos (by rw [n32_lt (by omega) (by omega)]; omega), ha T h, cI_0, if_neg one_z, n32_in (by omega) (by omega), g_t, n32_cl (by omega), h1 j (by omega), i_bz, i_bz, n32_and, and_p, e_115_164, e_115_168]
      cases F j with
      | false => exact w0
      | true =>
        cases mn with
        | true => exact w1
        | false =>
          cases hb : j.testBit m with
          | true =>
            rw [if_pos rfl, if_pos rfl, if_pos (show (!false) = true from rfl), i_eq (by omega) (by omega), if_neg (by omega)]
            exact w0
          | false =>
            rw [if_pos rfl, if_neg (by decide : ¬ false = true), if_pos (show (!false) = true from rfl), if_pos rfl]
            exact w1
    rw [st]
    exact shr_m q d u1 u2 u3 u4 u6 hm mn ha k (j + 1) _ (by omega) (m56_wi h (Or.inr rfl) _ _) (fun s hs => by rw [wi_rd, if_neg (by omega)]; exact h1 s hs) (fun s hs => by
      rw [putj_s G F hm mn (by omega) hs, wi_rd]
      by_cases z : s = j ||| 2 ^ m
      · rw [if_pos ⟨rfl, z⟩, if_pos z, z]
      · rw [if_neg (fun w => z w.2), if_neg z]
        exact h2 s hs)
/-- a member, whether or not it may take the pair -/
theorem sh_1 (q d : Nat) (u1 u2 u3 u4 u6 : Int32) {m : Nat} (hm : m < 6) (mn : Bool) {F G : Nat → Bool} {S : ab_S} (b : Bool) (ha : ∀ T, m56 S T → v_114_0 q d u2 u6 u4 u3 T = some ((0, n32 b.toNat, 0, 0), T)) {T : ab_S} (h : m56 S T) (h1 : fl T 145 F) (h2 : fl T 146 G) : ∃ T', m56 S T' ∧ fl T' 145 F ∧ fl T' 146 (fun s => G s || (b && put F m mn s)) ∧ v_115_121 q (d + 1) u1 u2 u3 u4 (n32 (2 ^ m)) u6 (n32 (!mn).toNat) (n32 0) T = v_115_210 q (d + 1) u1 u2 u3 u4 (n32 (2 ^ m)) u6 T' := by
  cases b with
  | false =>
    refine ⟨T, h, h1, fun s hs => by show _ = n32 (G s || (false && put F m mn s)).toNat; rw [Bool.false_and, Bool.or_false]; exact h2 s hs, ?_⟩
    rw [e_115_121, if_pos (by decide), ha T h, cI_0]
    exact if_pos rfl
  | true =>
    obtain ⟨T', a1, a2, a3, a4⟩ := shr_m q d u1 u2 u3 u4 u6 hm mn (G := G) ha 64 0 T rfl h h1 (fun s hs => by rw [putj_0]; exact h2 s hs)
    exact ⟨T', a1, a2, a3, a4⟩
