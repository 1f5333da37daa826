-- feed and wipe
theorem ix_8 (u : Int32) : (∃ n, 1 ≤ n ∧ n ≤ 8 ∧ u = n32 n) ∨ u < n32 1 ∨ (¬ u < n32 1 ∧ n32 8 < u) := by
  by_cases h : u < n32 1
  · exact Or.inr (Or.inl h)
  · by_cases g : n32 8 < u
    · exact Or.inr (Or.inr ⟨h, g⟩)
    · rw [Int32.lt_iff_toInt_lt, n32_int (by omega)] at g h
      refine Or.inl ⟨u.toInt.toNat, by omega, by omega, ?_⟩
      apply Int32.toInt_inj.mp
      rw [n32_int (by omega)]
      omega
/-- the bytes that feed takes, if it takes any -/
def fdn (bn : Nat) (u : Int32) (o : Option Nat) : Prop := (o = none ∧ (u < n32 1 ∨ (¬ u < n32 1 ∧ n32 8 < u) ∨ ∃ n, 1 ≤ n ∧ n ≤ 8 ∧ u = n32 n ∧ 40 < bn + n)) ∨ ∃ n, o = some n ∧ 1 ≤ n ∧ n ≤ 8 ∧ u = n32 n ∧ bn + n ≤ 40
theorem fdn_ex (bn : Nat) (u : Int32) : ∃ o, fdn bn u o := by
  rcases ix_8 u with ⟨n, h1, h2, h3⟩ | h | h
  · by_cases g : bn + n ≤ 40
    · exact ⟨some n, Or.inr ⟨n, rfl, h1, h2, h3, g⟩⟩
    · exact ⟨none, Or.inl ⟨rfl, Or.inr (Or.inr ⟨n, h1, h2, h3, by omega⟩)⟩⟩
  · exact ⟨none, Or.inl ⟨rfl, Or.inl h⟩⟩
  · exact ⟨none, Or.inl ⟨rfl, Or.inr (Or.inl h)⟩⟩
def fF (S S' : ab_S) : Prop := S'.2 = S.2 ∧ ∀ r j, r ≠ 5 → r ≠ 6 → S'.1 r j = S.1 r j
theorem fF_rf (S : ab_S) : fF S S := ⟨rfl, fun _ _ _ _ => rfl⟩
theorem fF_wi {S S' : ab_S} (g : fF S S') {r k : Nat} (v : Int32) (h : r = 5 ∨ r = 6) : fF S (ab_wi S' r k v) := ⟨g.1, fun r' j x y => by rw [wi_rd, if_neg (by omega)]; exact g.2 r' j x y⟩
theorem fd_lp (q d : Nat) (w : Int64) {b : Nat → Nat} {bn n : Nat} (h1 : bn + n ≤ 40) (h2 : n ≤ 8) (S0 : ab_S) : ∀ m i S, i + m = n → fF S0 S → S.1 5 7 = n32 bn → (∀ x, x < bn + i → S.1 6 x = n32 (app b bn (bt w) x)) → ∃ S', fF S0 S' ∧ cB (app b bn (bt w)) (bn + n) S' ∧ v_21_27 q (d + 1) w (n32 n) (n32 i) S = some ((0, n32 (bn + n), 0, 0), S')
  | 0, i, S, e, f, h, g => by
    have e : i = n := by omega
    subst e
    refine ⟨ab_wi (ab_wi S 5 7 (n32 (bn + i))) 5 9 (n32 0), fF_wi (fF_wi f _ (Or.inl rfl)) _ (Or.inl rfl), ⟨rfl, fun x hx => by rw [wi_rd, if_neg (by omega), wi_rd, if_neg (by omega)]; exact g x hx, Or.inl rfl⟩, ?_⟩
    rw [e_21_27, if_neg (by rw [n32_lt (by omega) (by omega)]; omega), h, n32_add]
  | m + 1, i, S, e, f, h, g => by
    have hb := bt_lt w i
    obtain ⟨S', a1, a2, a3⟩ := fd_lp q d w h1 h2 S0 m (i + 1) (ab_wi S 6 (bn + i) (n32 (bt w i))) (by omega) (fF_wi f _ (Or.inr rfl)) (by rw [wi_rd, if_neg (by omega)]; exact h) (fun x hx => by
      rw [wi_rd]
      by_cases l : x = bn + i
      · rw [if_pos ⟨rfl, l⟩, l]
        unfold app
        rw [if_neg (by omega), show bn + i - bn = i by omega]
      · rw [if_neg (by omega)]
        exact g x (by omega))
    refine ⟨S', a1, a2, ?_⟩
    rw [e_21_27, if_pos (by rw [n32_lt (by omega) (by omega)]; omega), e_13_0, by_u w (by omega), cI_0, h, n32_add, n32_in (by omega) (by omega), g_t, n32_cl (by omega), n32_add]
    exact a3
theorem cfd_v (q d : Nat) (w : Int64) (u : Int32) {b : Nat → Nat} {bn : Nat} (hn : bn ≤ 40) {S : ab_S} (h : cB b bn S) {o : Option Nat} (ho : fdn bn u o) :
    (o = none → v_4_0 q (d + 2) w u S = some ((0, n32 4294967295, 0, 0), S)) ∧ ∀ n, o = some n → ∃ S', fF S S' ∧ cB (app b bn (bt w)) (bn + n) S' ∧ v_4_0 q (d + 2) w u S = some ((0, n32 (bn + n), 0, 0), S') := by
  rcases ho with ⟨rfl, ho⟩ | ⟨n, rfl, n1, n2, rfl, n3⟩
  · refine ⟨fun _ => ?_, nofun⟩
    rw [e_4_0, e_21_0, e_21_22, n32_m1, h.1]
    rcases ho with ho | ⟨h1, h2⟩ | ⟨n, n1, n2, rfl, n3⟩
    · rw [if_pos ho, cI_0]
    · rw [if_neg h1, if_pos h2, cI_0]
    · rw [if_neg (by rw [n32_lt (by omega) (by omega)]; omega), if_neg (by rw [n32_lt (by omega) (by omega)]; omega), n32_add, if_pos (by rw [n32_lt (by omega) (by omega)]; omega), cI_0]
  · refine ⟨nofun, fun n' e => ?_⟩
    cases e
    obtain ⟨S', a1, a2, a3⟩ := fd_lp q d w (b := b) n3 n2 S n 0 S (by omega) (fF_rf S) h.1 (fun x hx => by
      rw [h.2.1 x hx]
      unfold app
      rw [if_pos (by omega)])
    refine ⟨S', a1, a2, ?_⟩
    rw [e_4_0, e_21_0, h.1, if_neg (by rw [n32_lt (by omega) (by omega)]; omega), if_neg (by rw [n32_lt (by omega) (by omega)]; omega), n32_add, if_neg (by rw [n32_lt (by omega) (by omega)]; omega), a3, cI_0]
theorem cwp_v (q d : Nat) {b : Nat → Nat} {bn : Nat} {S : ab_S} (h : cB b bn S) : ∃ S', fF S S' ∧ cB b 0 S' ∧ v_5_0 q (d + 1) S = some ((0, n32 bn, 0, 0), S') := by
  refine ⟨ab_wi (ab_wi S 5 7 (n32 0)) 5 9 (n32 0), fF_wi (fF_wi (fF_rf S) _ (Or.inl rfl)) _ (Or.inl rfl), ⟨rfl, fun i hi => absurd hi (by omega), Or.inl rfl⟩, ?_⟩
  rw [e_5_0, e_22_0, cI_0, h.1]
def gF (S S' : ab_S) : Prop := S'.2 = S.2 ∧ (∀ r j, r ≠ 117 → r ≠ 119 → S'.1 r j = S.1 r j) ∧ ∀ j, j ≠ 0 → j ≠ 4 → S'.1 117 j = S.1 117 j
theorem gF_rf (S : ab_S) : gF S S := ⟨rfl, fun _ _ _ _ => rfl, fun _ _ _ => rfl⟩
theorem gF_wi {S S' : ab_S} (g : gF S S') {r k : Nat} (v : Int32) (h : r = 119 ∨ (r = 117 ∧ (k = 0 ∨ k = 4))) : gF S (ab_wi S' r k v) := ⟨g.1, fun r' j x y => by rw [wi_rd, if_neg (by omega)]; exact g.2.1 r' j x y, fun j x y => by rw [wi_rd, if_neg (by omega)]; exact g.2.2 j x y⟩
theorem rfd_lp (q d : Nat) (w : Int64) {b : Nat → Nat} {bn n : Nat} (h1 : bn + n ≤ 40) (h2 : n ≤ 8) (S0 : ab_S) : ∀ m i S, i + m = n → gF S0 S → rB (app b bn (bt w)) (bn + i) S → ∃ S', gF S0 S' ∧ rB (app b bn (bt w)) (bn + n) S' ∧ v_76_32 q d w (n32 n) (n32 i) S = some ((0, n32 (bn + n), 0, 0), S')
  | 0, i, S, e, f, g => by
    have e : i = n := by omega
    subst e
    refine ⟨S, f, g, ?_⟩
    rw [e_76_32, if_neg (by rw [n32_lt (by omega) (by omega)]; omega), g.1]
  | m + 1, i, S, e, f, g => by
    have hb := bt_lt w i
    obtain ⟨S', a1, a2, a3⟩ := rfd_lp q d w h1 h2 S0 m (i + 1) (ab_wi (ab_wi S 119 (bn + i) (n32 (bt w i))) 117 4 (n32 (bn + i + 1))) (by omega) (gF_wi (gF_wi f _ (Or.inl rfl)) _ (Or.inr ⟨rfl, Or.inr rfl⟩)) ⟨rfl, fun x hx => by
      rw [wi_rd, if_neg (by omega), wi_rd]
      by_cases l : x = bn + i
      · rw [if_pos ⟨rfl, l⟩, l]
        unfold app
        rw [if_neg (by omega), show bn + i - bn = i by omega]
      · rw [if_neg (by omega)]
        exact g.2 x (by omega)⟩
    refine ⟨S', a1, a2, ?_⟩
    rw [e_76_32, if_pos (by rw [n32_lt (by omega) (by omega)]; omega), g.1, n32_in (by omega) (by omega), g_t, n32_cl (by omega), by_s w (by omega), n64_l2i, n32_add, n32_add]
    exact a3
theorem rfd_v (q d : Nat) (w : Int64) (u : Int32) {b : Nat → Nat} {bn : Nat} (hn : bn ≤ 40) {S : ab_S} (h : rB b bn S) {o : Option Nat} (ho : fdn bn u o) :
    (o = none → ∃ S', gF S S' ∧ rB b bn S' ∧ v_76_0 q d w u S = some ((0, n32 4294967295, 0, 0), S')) ∧ ∀ n, o = some n → ∃ S', gF S S' ∧ rB (app b bn (bt w)) (bn + n) S' ∧ v_76_0 q d w u S = some ((0, n32 (bn + n), 0, 0), S') := by
  have f0 : gF S (ab_wi S 117 0 (n32 0)) := gF_wi (gF_rf S) _ (Or.inr ⟨rfl, Or.inl rfl⟩)
  have r0 : rB b bn (ab_wi S 117 0 (n32 0)) := ⟨h.1, h.2⟩
  rcases ho with ⟨rfl, ho⟩ | ⟨n, rfl, n1, n2, rfl, n3⟩
  · refine ⟨fun _ => ⟨_, f0, r0, ?_⟩, nofun⟩
    rw [e_76_0, e_76_27, n32_m1, h.1]
    rcases ho with ho | ⟨h1, h2⟩ | ⟨n, n1, n2, rfl, n3⟩
    · rw [if_pos ho]
    · rw [if_neg h1, if_pos h2]
    · rw [if_neg (by rw [n32_lt (by omega) (by omega)]; omega), if_neg (by rw [n32_lt (by omega) (by omega)]; omega), n32_add, if_pos (by rw [n32_lt (by omega) (by omega)]; omega)]
  · refine ⟨nofun, fun n' e => ?_⟩
    cases e
    obtain ⟨S', a1, a2, a3⟩ := rfd_lp q d w (b := b) n3 n2 S n 0 _ (by omega) f0 ⟨r0.1, fun x hx => by
      rw [r0.2 x hx]
      unfold app
      rw [if_pos (by omega)]⟩
    refine ⟨S', a1, a2, ?_⟩
    rw [e_76_0, h.1, if_neg (by rw [n32_lt (by omega) (by omega)]; omega), if_neg (by rw [n32_lt (by omega) (by omega)]; omega), n32_add, if_neg (by rw [n32_lt (by omega) (by omega)]; omega), a3]
theorem rwp_v (q d : Nat) {b : Nat → Nat} {bn : Nat} {S : ab_S} (h : rB b bn S) : ∃ S', gF S S' ∧ rB b 0 S' ∧ v_77_0 q d S = some ((0, n32 bn, 0, 0), S') := by
  refine ⟨ab_wi (ab_wi S 117 0 (n32 0)) 117 4 (n32 0), gF_wi (gF_wi (gF_rf S) _ (Or.inr ⟨rfl, Or.inl rfl⟩)) _ (Or.inr ⟨rfl, Or.inr rfl⟩), ⟨rfl, fun i hi => absurd hi (by omega)⟩, ?_⟩
  rw [e_77_0, h.1]
