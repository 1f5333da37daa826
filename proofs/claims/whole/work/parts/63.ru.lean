-- rule and forget in the class.
def up1 {α : Type} (f : Nat → α) (r : Nat) (v : α) : Nat → α := fun i => if i = r then v else f i
theorem up1_s {α : Type} (f : Nat → α) (r : Nat) (v : α) : up1 f r v r = v := if_pos rfl
theorem up1_o {α : Type} (f : Nat → α) {r i : Nat} (v : α) (h : i ≠ r) : up1 f r v i = f i := if_neg h
theorem sh_dis {a b : Nat} (ha : isSh a) (hb : isSh b) (h : a ≠ b) : a + 10 < b ∨ b + 10 < a := by
  rcases ha with x | x | x | x | x | x | x | x | x <;> rcases hb with y | y | y | y | y | y | y | y | y <;> omega
def cG (q : Nat) (S : ab_S) (D : Nat → Bool) (L B : Nat → Nat) (ls : Nat → List alt) : Prop := cRl D L B S ∧ cSh q S D ls ∧ isSh (S.2.2.1 102 0) ∧ (∀ i, i < 8 → S.2.2.1 13 i ≠ S.2.2.1 102 0) ∧ ∀ i j, i < 8 → j < 8 → i ≠ j → S.2.2.1 13 i ≠ S.2.2.1 13 j
/-- what rule and forget may change -/
def cfr (S S' : ab_S) : Prop := (∀ c j, (c < 3 ∨ (3 < c ∧ c < 14) ∨ 113 < c) → S'.1 c j = S.1 c j) ∧ S'.2.1 = S.2.1 ∧ (∀ c j, c ≠ 13 → (c ≠ 102 ∨ j ≠ 0) → S'.2.2.1 c j = S.2.2.1 c j) ∧ S'.2.2.2 = S.2.2.2
/-- shapes stay where no cell of theirs is changed -/
theorem cG_fr {q : Nat} {S S' : ab_S} {D : Nat → Bool} {L B : Nat → Nat} {ls : Nat → List alt} (h : cG q S D L B ls) (hr : S'.2.2.1 = S.2.2.1) (g : ∀ i, i < 8 → ∀ c j, S.2.2.1 13 i ≤ c → c ≤ S.2.2.1 13 i + 10 → S'.1 c j = S.1 c j) : cG q S' D L B ls := by
  obtain ⟨h1, h2, h3, h4, h5⟩ := h
  refine ⟨fun i hi => ?_, fun i hi => ?_, by rw [hr]; exact h3, fun i hi => by rw [hr]; exact h4 i hi, fun i j hi hj hij => by rw [hr]; exact h5 i j hi hj hij⟩
  · have o := h1 i hi
    have gi := g i hi
    rw [hr, gi _ 10 (Nat.le_refl _) (by omega), gi _ 13 (Nat.le_refl _) (by omega), gi _ 14 (Nat.le_refl _) (by omega)]
    exact o
  · have o := h2 i hi
    have gi := g i hi
    rw [hr, gi _ 12 (Nat.le_refl _) (by omega), gi (S.2.2.1 13 i + 2) 0 (by omega) (by omega), gi (S.2.2.1 13 i + 3) 0 (by omega) (by omega)]
    exact ⟨o.1, fun z => ⟨(o.2.1 z).1, dT_fr (o.2.1 z).2 (fun j j1 j2 y _ _ => gi _ y (by omega) (by omega))⟩, o.2.2⟩
theorem cru_x (q d : Nat) {u : Int32} (h : u < n32 0 ∨ (¬ u < n32 0 ∧ ¬ u < n32 8 ∧ n32 7 < u)) (S : ab_S) : v_2_0 q (d + 2) u S = some ((2, 0, 0, 0), ab_wx (ab_wi S 3 1 (n32 0))) := by
  rw [e_2_0, e_16_0, e_16_10]
  rcases h with h | ⟨h, g, _⟩
  · rw [if_pos h, cV_x (by omega)]
  · rw [if_neg h, if_neg g, cV_x (by omega)]
theorem cru_v {q : Nat} {t : Nat → Nat} {n : Nat} (ht : tok t n) {S : ab_S} (hT : cT t n S) {D : Nat → Bool} {L B : Nat → Nat} {ls : Nat → List alt} (hG : cG q S D L B ls) {d : Nat} (hd : 25 ≤ d) {r : Nat} (hr : r < 8) :
    (par t n = none → ∃ S1, v_2_0 q d (n32 r) S = some ((1, 0, 0, 0), ab_wx S1) ∧ cfr S S1 ∧ S1.1 3 1 = n32 0 ∧ cG q S1 D L B ls) ∧ ∀ y, par t n = some y → y.2.1 < 256 ∧ y.2.2 < 256 ∧ y.1.length ≤ 40 ∧ ∃ S1, v_2_0 q d (n32 r) S = some ((0, n32 y.1.length, 0, 0), S1) ∧ cfr S S1 ∧ S1.1 3 1 = n32 0 ∧ cG q S1 (up1 D r true) (up1 L r y.2.1) (up1 B r y.2.2) (up1 ls r y.1) := by
  obtain ⟨d, rfl⟩ := dsuc hd
  have g1 : cG q (ab_wi S 3 1 (n32 0)) D L B ls := cG_fr hG rfl (fun i hi c j c1 c2 => by
    have := sh_ge (hG.1 i hi).1
    rw [wi_rd, if_neg (by omega)])
  have e0 : v_2_0 q (d + 1) (n32 r) S = (cI (v_36_0 q d (n32 n) (ab_wi S 3 1 (n32 0))) fun y2 S2 => (ab_g (ab_in (n32 r) 8) (cR (v_37_0 q d (S2.2.2.1 13 r) S2) fun y3 S3 => (ab_g (ab_ok 2 S3 y3 12) (ab_g (ab_in (n32 r) 8) (some ((0, y2, 0, 0), (ab_wr S3 13 r y3)))))))) := by
    obtain ⟨d, rfl⟩ := dsuc (by omega : 0 + 1 ≤ d)
    rw [e_2_0, e_16_0, if_neg (by rw [n32_lt (by omega) (by omega)]; omega), if_pos (by rw [n32_lt (by omega) (by omega)]; omega), cV_0, hT.1, n32_cl (by omega)]
  have fr1 : cfr S (ab_wi S 3 1 (n32 0)) := ⟨fun c j h => by rw [wi_rd, if_neg (by omega)], rfl, fun _ _ _ _ => rfl, rfl⟩
  have hT1 : ∀ i, i < n → (ab_wi S 3 1 (n32 0)).1 4 i = n32 (t i) := fun i hi => by rw [wi_rd, if_neg (by omega)]; exact hT.2 i hi
  have z1 : (ab_wi S 3 1 (n32 0)).1 3 1 = n32 0 := rfl
  rw [e0]
  revert g1 fr1 hT1 z1
  generalize ab_wi S 3 1 (n32 0) = Sa
  intro g1 fr1 hT1 z1
  have sh := g1.2.2.1
  have shg := sh_ge sh
  obtain ⟨a1, a2⟩ := rsh_v (q := q) sh ht (S := Sa) rfl hT1 (by omega : 24 ≤ d)
  have nch (S2 : ab_S) (h2 : S2.2 = Sa.2) (hc : ∀ c j, c ≠ 102 → (c < Sa.2.2.1 102 0 ∨ Sa.2.2.1 102 0 + 10 < c) → S2.1 c j = Sa.1 c j) : cG q S2 D L B ls ∧ cfr S S2 ∧ S2.1 3 1 = n32 0 := by
    refine ⟨cG_fr g1 (by rw [h2]) (fun i hi c j c1 c2 => ?_), ⟨fun c j h => ?_, ?_, fun c j x y => ?_, ?_⟩, ?_⟩
    · have d1 := sh_dis (g1.1 i hi).1 sh (g1.2.2.2.1 i hi)
      have ne := sh_ne (g1.1 i hi).1
      refine hc c j (fun z => ?_) (by omega)
      subst z
      by_cases w : Sa.2.2.1 13 i = 102
      · exact ne.1 w
      · exact ne.2 (102 - Sa.2.2.1 13 i) (by omega) (by omega) (by omega)
    · rw [hc c j (by omega) (by omega)]; exact fr1.1 c j h
    · rw [h2]; exact fr1.2.1
    · rw [h2]; exact fr1.2.2.1 c j x y
    · rw [h2]; exact fr1.2.2.2
    · rw [hc 3 1 (by omega) (by omega)]; exact z1
  refine ⟨fun hp => ?_, fun y hp => ?_⟩
  · obtain ⟨S', ⟨S1, b1, b2, b3⟩, b4⟩ := a1 hp
    obtain ⟨c1, c2, c3⟩ := nch S1 b2 b3
    refine ⟨S1, ?_, c2, c3, c1⟩
    rw [b4, b1, cI_x (by omega)]
  · obtain ⟨b1, b2, b3, S2, c1, c2, c3, c4, c5, c6, c7, c8⟩ := a2 y hp
    obtain ⟨d1, d2, d3⟩ := nch S2 c1 c2
    have rr : S2.2.2.1 = Sa.2.2.1 := by rw [c1]
    refine ⟨b1, b2, b3, ab_wr (ab_wr S2 102 0 (S2.2.2.1 13 r)) 13 r (S2.2.2.1 102 0), ?_, ?_, d3, ?_⟩
    · rw [c8, cI_0, n32_in (by omega) (by omega), g_t, e_37_0, cR_0, ok_sh d1.2.2.1 (k := 2) rfl, g_t, g_t]
    · refine ⟨d2.1, d2.2.1, fun c j x w => ?_, d2.2.2.2⟩
      rw [wr_rd, if_neg (fun z => x z.1), wr_rd, if_neg (by omega)]
      exact d2.2.2.1 c j x w
    · have R (i : Nat) : (ab_wr (ab_wr S2 102 0 (S2.2.2.1 13 r)) 13 r (S2.2.2.1 102 0)).2.2.1 13 i = if i = r then S2.2.2.1 102 0 else S2.2.2.1 13 i := by
        rw [wr_rd]
        by_cases e : i = r
        · rw [if_pos ⟨rfl, e⟩, if_pos e]
        · rw [if_neg (fun z => e z.2), if_neg e, wr_rd, if_neg (by omega)]
      have R2 : (ab_wr (ab_wr S2 102 0 (S2.2.2.1 13 r)) 13 r (S2.2.2.1 102 0)).2.2.1 102 0 = S2.2.2.1 13 r := by
        rw [wr_rd, if_neg (by omega), wr_rd, if_pos ⟨rfl, rfl⟩]
      have I : (ab_wr (ab_wr S2 102 0 (S2.2.2.1 13 r)) 13 r (S2.2.2.1 102 0)).1 = S2.1 := rfl
      refine ⟨fun i hi => ?_, fun i hi => ?_, ?_, fun i hi => ?_, fun i j hi hj hij => ?_⟩
      · rw [R i, I]
        by_cases e : i = r
        · rw [if_pos e, e, up1_s, up1_s, up1_s, rr]
          exact ⟨sh, c3, c5, c6⟩
        · rw [if_neg e, up1_o _ _ e, up1_o _ _ e, up1_o _ _ e]
          exact d1.1 i hi
      · rw [R i, I]
        by_cases e : i = r
        · rw [if_pos e, e, up1_s, up1_s, rr]
          exact ⟨sh, fun _ => ⟨c4, dT_fr c7 (fun _ _ _ _ _ _ => rfl)⟩, nofun⟩
        · rw [if_neg e, up1_o _ _ e, up1_o _ _ e]
          have o := d1.2.1 i hi
          exact ⟨o.1, fun z => ⟨(o.2.1 z).1, dT_fr (o.2.1 z).2 (fun _ _ _ _ _ _ => rfl)⟩, o.2.2⟩
      · rw [R2]
        exact (d1.1 r hr).1
      · rw [R i, R2]
        by_cases e : i = r
        · rw [if_pos e]
          exact fun z => d1.2.2.2.1 r hr z.symm
        · rw [if_neg e]
          exact d1.2.2.2.2 i r hi hr e
      · rw [R i, R j]
        by_cases e : i = r
        · rw [if_pos e, if_neg (fun z => hij (e.trans z.symm))]
          exact fun z => d1.2.2.2.1 j hj z.symm
        · rw [if_neg e]
          by_cases f : j = r
          · rw [if_pos f]
            exact d1.2.2.2.1 i hi
          · rw [if_neg f]
            exact d1.2.2.2.2 i j hi hj hij
theorem cfo_x (q d : Nat) {u : Int32} (h : u < n32 0 ∨ (¬ u < n32 0 ∧ ¬ u < n32 8 ∧ n32 7 < u)) (S : ab_S) : v_3_0 q (d + 2) u S = some ((2, 0, 0, 0), ab_wx S) := by
  rw [e_3_0, e_16_0, e_16_10]
  rcases h with h | ⟨h, g, _⟩
  · rw [if_pos h, cV_x (by omega)]
  · rw [if_neg h, if_neg g, cV_x (by omega)]
theorem cfo_v {q d : Nat} {S : ab_S} {D : Nat → Bool} {L B : Nat → Nat} {ls : Nat → List alt} (hG : cG q S D L B ls) {r : Nat} (hr : r < 8) : ∃ S1, v_3_0 q (d + 2) (n32 r) S = some ((0, n32 (D r).toNat, 0, 0), S1) ∧ cfr S S1 ∧ S1.1 3 1 = S.1 3 1 ∧ cG q S1 (up1 D r false) (up1 L r 0) (up1 B r 0) ls := by
  have o := hG.1 r hr
  have sg := sh_ge o.1
  refine ⟨ab_wi (ab_wi (ab_wi (ab_wi (ab_wi S (S.2.2.1 13 r) 10 (n32 0)) (S.2.2.1 13 r) 11 (n32 0)) (S.2.2.1 13 r) 12 (n32 4294967295)) (S.2.2.1 13 r) 13 (n32 0)) (S.2.2.1 13 r) 14 (n32 0), ?_, ?_, ?_, ?_⟩
  · rw [e_3_0, e_16_0, if_neg (by rw [n32_lt (by omega) (by omega)]; omega), if_pos (by rw [n32_lt (by omega) (by omega)]; omega), cV_0, n32_in (by omega) (by omega), g_t, n32_cl (by omega), ok_sh o.1 (k := 3) rfl, g_t, g_t, g_t, e_32_0, ok_sh o.1 (k := 32) rfl, show ab_zb (n32 0) = true from rfl, Bool.and_true, g_t, ok_sh o.1 (k := 32) rfl, g_t, ok_sh o.1 (k := 32) rfl, g_t, ok_sh o.1 (k := 32) rfl, g_t, ok_sh o.1 (k := 32) rfl, g_t, n32_m1, cV_0, o.2.1, bo_nz]
  · exact ⟨fun c j h => by rw [wi_rd, if_neg (by omega), wi_rd, if_neg (by omega), wi_rd, if_neg (by omega), wi_rd, if_neg (by omega), wi_rd, if_neg (by omega)], rfl, fun _ _ _ _ => rfl, rfl⟩
  · rw [wi_rd, if_neg (by omega), wi_rd, if_neg (by omega), wi_rd, if_neg (by omega), wi_rd, if_neg (by omega), wi_rd, if_neg (by omega)]
  · have w (c j : Nat) (h : c ≠ S.2.2.1 13 r) : (ab_wi (ab_wi (ab_wi (ab_wi (ab_wi S (S.2.2.1 13 r) 10 (n32 0)) (S.2.2.1 13 r) 11 (n32 0)) (S.2.2.1 13 r) 12 (n32 4294967295)) (S.2.2.1 13 r) 13 (n32 0)) (S.2.2.1 13 r) 14 (n32 0)).1 c j = S.1 c j := by
      rw [wi_rd, if_neg (by omega), wi_rd, if_neg (by omega), wi_rd, if_neg (by omega), wi_rd, if_neg (by omega), wi_rd, if_neg (by omega)]
    refine ⟨fun i hi => ?_, fun i hi => ?_, hG.2.2.1, hG.2.2.2.1, hG.2.2.2.2⟩
    · by_cases e : i = r
      · subst e
        rw [up1_s, up1_s, up1_s]
        refine ⟨o.1, ?_, ?_, ?_⟩
        · show (ab_wi (ab_wi (ab_wi (ab_wi (ab_wi S (S.2.2.1 13 i) 10 (n32 0)) (S.2.2.1 13 i) 11 (n32 0)) (S.2.2.1 13 i) 12 (n32 4294967295)) (S.2.2.1 13 i) 13 (n32 0)) (S.2.2.1 13 i) 14 (n32 0)).1 (S.2.2.1 13 i) 10 = _
          rw [wi_rd, if_neg (by omega), wi_rd, if_neg (by omega), wi_rd, if_neg (by omega), wi_rd, if_neg (by omega), wi_rd, if_pos ⟨rfl, rfl⟩]
          rfl
        · show (ab_wi (ab_wi (ab_wi (ab_wi (ab_wi S (S.2.2.1 13 i) 10 (n32 0)) (S.2.2.1 13 i) 11 (n32 0)) (S.2.2.1 13 i) 12 (n32 4294967295)) (S.2.2.1 13 i) 13 (n32 0)) (S.2.2.1 13 i) 14 (n32 0)).1 (S.2.2.1 13 i) 13 = _
          rw [wi_rd, if_neg (by omega), wi_rd, if_pos ⟨rfl, rfl⟩]
        · show (ab_wi (ab_wi (ab_wi (ab_wi (ab_wi S (S.2.2.1 13 i) 10 (n32 0)) (S.2.2.1 13 i) 11 (n32 0)) (S.2.2.1 13 i) 12 (n32 4294967295)) (S.2.2.1 13 i) 13 (n32 0)) (S.2.2.1 13 i) 14 (n32 0)).1 (S.2.2.1 13 i) 14 = _
          rw [wi_rd, if_pos ⟨rfl, rfl⟩]
      · have ne := hG.2.2.2.2 i r hi hr e
        have oi := hG.1 i hi
        rw [up1_o _ _ e, up1_o _ _ e, up1_o _ _ e]
        exact ⟨oi.1, (w _ _ ne).trans oi.2.1, (w _ _ ne).trans oi.2.2.1, (w _ _ ne).trans oi.2.2.2⟩
    · have oi := hG.2.1 i hi
      by_cases e : i = r
      · subst e
        rw [up1_s]
        refine ⟨oi.1, nofun, fun _ => Or.inl ?_⟩
        show (ab_wi (ab_wi (ab_wi (ab_wi (ab_wi S (S.2.2.1 13 i) 10 (n32 0)) (S.2.2.1 13 i) 11 (n32 0)) (S.2.2.1 13 i) 12 (n32 4294967295)) (S.2.2.1 13 i) 13 (n32 0)) (S.2.2.1 13 i) 14 (n32 0)).1 (S.2.2.1 13 i) 12 = _
        rw [wi_rd, if_neg (by omega), wi_rd, if_neg (by omega), wi_rd, if_pos ⟨rfl, rfl⟩]
      · have ne := hG.2.2.2.2 i r hi hr e
        have dis := sh_dis oi.1 o.1 ne
        rw [up1_o _ _ e]
        refine ⟨oi.1, fun z => ⟨(w _ _ ne).trans (oi.2.1 z).1, dT_fr (oi.2.1 z).2 (fun j j1 j2 y _ _ => w _ _ (by show S.2.2.1 13 i + j ≠ _; omega))⟩, fun z => ?_⟩
        rcases oi.2.2 z with k | ⟨k1, k2, k3⟩
        · exact Or.inl ((w _ _ ne).trans k)
        · exact Or.inr ⟨(w _ _ ne).trans k1, (w _ _ (by show S.2.2.1 13 i + 2 ≠ _; omega)).trans k2, (w _ _ (by show S.2.2.1 13 i + 3 ≠ _; omega)).trans k3⟩
