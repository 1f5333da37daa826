-- The calls over items, of the class and of the reference.
def rtw (S : ab_S) (w : wt) : Prop := S.1 117 26 = n32 w.1 ∧ ∀ k, k < w.1 → S.2.1 138 k = n64 (w.2 1 k) ∧ S.1 137 k = n32 (w.2 0 k) ∧ S.1 139 k = n32 (w.2 2 k) ∧ S.1 141 k = n32 (w.2 3 k) ∧ S.1 140 k = n32 (w.2 4 k)
def rB (b : Nat → Nat) (bn : Nat) (S : ab_S) : Prop := S.1 117 4 = n32 bn ∧ ∀ i, i < bn → S.1 119 i = n32 (b i)
def jS (S : ab_S) : Nat → Nat → Nat := fun j k => if j = 1 then (S.2.1 138 k).toBitVec.toNat else if j = 0 then (S.1 137 k).toBitVec.toNat else if j = 2 then (S.1 139 k).toBitVec.toNat else if j = 3 then (S.1 141 k).toBitVec.toNat else (S.1 140 k).toBitVec.toNat
theorem jS_R {b : Nat → Nat} {bn : Nat} {S : ab_S} {p c : Nat} (h2 : S.1 117 26 = n32 c) (h : rB b bn S) : rI b bn S (p, c, jS S) :=
  ⟨h2, h.1, h.2, fun k _ => ⟨n64_self _, n32_self _, n32_self _, n32_self _, n32_self _⟩⟩
theorem rd_v {b : Nat → Nat} {bn : Nat} (hbn : bn ≤ 40) (hb : ∀ i, i < bn → b i < 256) (q d : Nat) {S : ab_S} (h : rB b bn S) :
    ∃ S1, fR S S1 ∧ ((wf b bn = none ∧ v_102_0 q (d + 1) S = some ((0, n32 0, 0, 0), S1)) ∨ ∃ w, wf b bn = some w ∧ rtw S1 w ∧ v_102_0 q (d + 1) S = some ((0, n32 1, 0, 0), S1)) := by
  have i0 : rI b bn (ab_wi S 117 26 (n32 0)) (0, 0, jS (ab_wi S 117 26 (n32 0))) := jS_R rfl h
  have f0 : fR S (ab_wi S 117 26 (n32 0)) := fR_wi (fR_rf S) _ (Or.inr ⟨rfl, rfl⟩)
  rw [e_102_0]
  revert i0 f0
  generalize ab_wi S 117 26 (n32 0) = S0
  intro i0 f0
  have k := ry_v hbn hb q d 6 (Nat.le_refl _) S0 _ i0 (Nat.zero_le _) (Nat.zero_le _)
  have en (s : ic) (S' : ab_S) (hs : s.1 ≤ bn) (r : rI b bn S' s) : CL q d (6 - 6) s.1 S' = if s.1 = bn then some ((0, n32 1, 0, 0), S') else some ((0, n32 0, 0, 0), S') := by
    unfold CL
    show cI (v_104_12 q d (n32 0) (n32 0) S') _ = _
    rw [e_104_12, if_pos rfl, cI_0, if_pos rfl, e_102_360, e_102_361, e_102_11, if_neg one_z, r.2.1, i_eq (by omega) (by omega), e_102_377, e_102_377, nz_1, nz_0]
  rcases wf_any (b := b) (bn := bn) (jS S0) with ⟨a1, a2⟩ | ⟨s, a1, a2⟩
  · obtain ⟨S1, f1, e1⟩ := k.1 a1
    exact ⟨S1, fR_tr f0 f1, Or.inl ⟨a2, e1⟩⟩
  · obtain ⟨S1, f1, _, r1, e1⟩ := k.2 s a1
    have ks := itm_inc hb 6 _ _ (Nat.zero_le _) (Nat.zero_le _) a1
    rw [en s S1 ks.2.1 r1] at e1
    refine ⟨S1, fR_tr f0 f1, ?_⟩
    rcases a2 with ⟨a2, a3⟩ | ⟨a2, w, a3, a4, a5⟩
    · rw [if_neg a2] at e1
      exact Or.inl ⟨a3, e1⟩
    · rw [if_pos a2] at e1
      refine Or.inr ⟨w, a3, ⟨by rw [r1.1, a4], fun x hx => ?_⟩, e1⟩
      have y := r1.2.2.2 x (by omega)
      rw [a5 0 x hx (by omega), a5 1 x hx (by omega), a5 2 x hx (by omega), a5 3 x hx (by omega), a5 4 x hx (by omega)] at y
      exact y
def fR' (S S' : ab_S) : Prop := S'.2.2 = S.2.2 ∧ (∀ r j, (r < 117 ∨ (117 < r ∧ r < 137) ∨ 143 < r) → S'.1 r j = S.1 r j) ∧ (∀ j, j ≠ 26 → j ≠ 0 → S'.1 117 j = S.1 117 j) ∧ ∀ r j, (r < 137 ∨ 143 < r) → S'.2.1 r j = S.2.1 r j
theorem fR_0 {S S' : ab_S} (h : fR S S') (v : Int32) : fR' S (ab_wi S' 117 0 v) := ⟨h.1, fun r j x => by rw [wi_rd, if_neg (by omega)]; exact h.2.1 r j x, fun j x y => by rw [wi_rd, if_neg (by omega)]; exact h.2.2.1 j x, fun r j x => h.2.2.2 r j x⟩
theorem rit_v {b : Nat → Nat} {bn : Nat} (hbn : bn ≤ 40) (hb : ∀ i, i < bn → b i < 256) (q d : Nat) {S : ab_S} (h : rB b bn S) :
    ∃ S1, fR' S S1 ∧ ((wf b bn = none ∧ S1.1 117 0 = n32 1 ∧ v_105_0 q (d + 2) S = some ((0, n32 0, 0, 0), S1)) ∨ ∃ w, wf b bn = some w ∧ S1.1 117 0 = n32 0 ∧ v_105_0 q (d + 2) S = some ((0, n32 w.1, 0, 0), S1)) := by
  obtain ⟨S1, f1, ⟨a1, e1⟩ | ⟨w, a1, a2, e1⟩⟩ := rd_v hbn hb q d h
  · refine ⟨_, fR_0 f1 (n32 1), Or.inl ⟨a1, rfl, ?_⟩⟩
    rw [e_105_0, e1, cI_0, if_pos rfl, e_105_13, if_pos (by decide), e_105_31]
  · refine ⟨_, fR_0 f1 (n32 0), Or.inr ⟨w, a1, rfl, ?_⟩⟩
    rw [e_105_0, e1, cI_0, if_neg one_z, e_105_13, if_neg (by decide), e_105_31, a2.1]
theorem rhs_v {b : Nat → Nat} {bn : Nat} (hbn : bn ≤ 40) (hb : ∀ i, i < bn → b i < 256) (q d : Nat) {S : ab_S} (h : rB b bn S) (u : Int32) :
    ∃ S1, fR' S S1 ∧ ((wf b bn = none ∧ S1.1 117 0 = n32 1 ∧ v_106_0 q (d + 2) u S = some ((0, n32 0, 0, 0), S1)) ∨ ∃ w, wf b bn = some w ∧ rtw S1 w ∧ ((∃ k, k < w.1 ∧ u = n32 k ∧ S1.1 117 0 = n32 0 ∧ v_106_0 q (d + 2) u S = some ((0, n32 1, 0, 0), S1)) ∨ ((∀ k, k < w.1 → u ≠ n32 k) ∧ S1.1 117 0 = n32 2 ∧ v_106_0 q (d + 2) u S = some ((0, n32 0, 0, 0), S1)))) := by
  obtain ⟨S1, f1, ⟨a1, e1⟩ | ⟨w, a1, a2, e1⟩⟩ := rd_v hbn hb q d h
  · refine ⟨_, fR_0 f1 (n32 1), Or.inl ⟨a1, rfl, ?_⟩⟩
    rw [e_106_0, e1, cI_0, if_pos rfl, e_106_29, if_neg one_z, e_106_44, nz_0]
  · have hw := wf_ok hb a1
    have t2 (v : Int32) : rtw (ab_wi S1 117 0 v) w := ⟨a2.1, a2.2⟩
    rcases ix_c u hw.2.1 with ⟨k, hk, e⟩ | ⟨hk, e⟩
    · subst e
      refine ⟨_, fR_0 f1 (n32 0), Or.inr ⟨w, a1, t2 _, Or.inl ⟨k, hk, rfl, rfl, ?_⟩⟩⟩
      rw [e_106_0, e1, cI_0, if_neg one_z, i_lt (by omega) (by omega), if_neg (by omega), a2.1, i_lt (by omega) (by omega), if_pos hk, e_106_29, if_pos rfl, e_106_44, nz_1]
    · refine ⟨_, fR_0 f1 (n32 2), Or.inr ⟨w, a1, t2 _, Or.inr ⟨hk, rfl, ?_⟩⟩⟩
      rcases e with e | ⟨e, e'⟩
      · rw [e_106_0, e1, cI_0, if_neg one_z, if_pos e, e_106_24, e_106_29, if_neg (by decide), e_106_44, nz_0]
      · rw [e_106_0, e1, cI_0, if_neg one_z, if_neg e, a2.1, if_neg e', e_106_24, e_106_29, if_neg (by decide), e_106_44, nz_0]
/-- what a call over an item answers: the exception's number at the reference, or the item -/
def aIt (b : Nat → Nat) (bn : Nat) (u : Int32) (t : Nat) (o : Option (wt × Nat)) : Prop := (wf b bn = none ∧ t = 1 ∧ o = none) ∨ ∃ w, wf b bn = some w ∧ ((∃ k, k < w.1 ∧ u = n32 k ∧ t = 0 ∧ o = some (w, k)) ∨ ((∀ k, k < w.1 → u ≠ n32 k) ∧ t = 2 ∧ o = none))
theorem aIt_un {b : Nat → Nat} {bn : Nat} {u : Int32} {t t' : Nat} {o o' : Option (wt × Nat)} (hb : ∀ i, i < bn → b i < 256) (h : aIt b bn u t o) (g : aIt b bn u t' o') : t = t' ∧ o = o' := by
  rcases h with ⟨h1, h2, h3⟩ | ⟨w, h1, h2⟩
  · rcases g with ⟨g1, g2, g3⟩ | ⟨w', g1, g2⟩
    · exact ⟨h2.trans g2.symm, h3.trans g3.symm⟩
    · cases h1.symm.trans g1
  · rcases g with ⟨g1, g2, g3⟩ | ⟨w', g1, g2⟩
    · cases h1.symm.trans g1
    · cases h1.symm.trans g1
      have hw := wf_ok hb h1
      rcases h2 with ⟨k, a1, a2, a3, a4⟩ | ⟨a1, a2, a3⟩
      · rcases g2 with ⟨k', c1, c2, c3, c4⟩ | ⟨c1, c2, c3⟩
        · have : k = k' := by
            have := a2.symm.trans c2
            rw [n32_eq (by omega) (by omega)] at this
            exact this
          subst this
          exact ⟨a3.trans c3.symm, a4.trans c4.symm⟩
        · exact absurd a2 (c1 k a1)
      · rcases g2 with ⟨k', c1, c2, c3, c4⟩ | ⟨c1, c2, c3⟩
        · exact absurd c2 (a1 k' c1)
        · exact ⟨a2.trans c2.symm, a3.trans c3.symm⟩
/-- the reference's major, number, depth -/
theorem rmj_v {b : Nat → Nat} {bn : Nat} (hbn : bn ≤ 40) (hb : ∀ i, i < bn → b i < 256) (q d : Nat) {S : ab_S} (h : rB b bn S) (u : Int32) :
    ∃ S1 t o, fR' S S1 ∧ aIt b bn u t o ∧ S1.1 117 0 = n32 t ∧ v_107_0 q (d + 3) u S = some ((0, (match o with | none => n32 0 | some x => n32 (x.1.2 0 x.2)), 0, 0), S1) ∧ v_108_0 q (d + 3) u S = some ((0, 0, (match o with | none => n64 0 | some x => n64 (x.1.2 1 x.2)), 0), S1) ∧ v_109_0 q (d + 3) u S = some ((0, (match o with | none => n32 0 | some x => n32 (x.1.2 2 x.2)), 0, 0), S1) := by
  obtain ⟨S1, f1, ⟨a1, a2, e1⟩ | ⟨w, a1, a2, ⟨k, hk, a3, a4, e1⟩ | ⟨a3, a4, e1⟩⟩⟩ := rhs_v hbn hb q d h u
  · refine ⟨S1, 1, none, f1, Or.inl ⟨a1, rfl, rfl⟩, a2, ?_, ?_, ?_⟩
    · rw [e_107_0, e1, cI_0, if_pos rfl, e_107_18]
    · rw [e_108_0, e1, cI_0, if_pos rfl, e_108_18]
    · rw [e_109_0, e1, cI_0, if_pos rfl, e_109_18]
  · have hw := wf_ok hb a1
    refine ⟨S1, 0, some (w, k), f1, Or.inr ⟨w, a1, Or.inl ⟨k, hk, a3, rfl, rfl⟩⟩, a4, ?_, ?_, ?_⟩
    · rw [e_107_0, e1, cI_0, if_neg one_z, a3, n32_in (by omega) (by omega), g_t, n32_cl (by omega), e_107_18, (a2.2 k hk).2.1]
    · rw [e_108_0, e1, cI_0, if_neg one_z, a3, n32_in (by omega) (by omega), g_t, n32_cl (by omega), e_108_18, (a2.2 k hk).1]
    · rw [e_109_0, e1, cI_0, if_neg one_z, a3, n32_in (by omega) (by omega), g_t, n32_cl (by omega), e_109_18, (a2.2 k hk).2.2.1]
  · refine ⟨S1, 2, none, f1, Or.inr ⟨w, a1, Or.inr ⟨a3, rfl, rfl⟩⟩, a4, ?_, ?_, ?_⟩
    · rw [e_107_0, e1, cI_0, if_pos rfl, e_107_18]
    · rw [e_108_0, e1, cI_0, if_pos rfl, e_108_18]
    · rw [e_109_0, e1, cI_0, if_pos rfl, e_109_18]
/-- the class's -/
theorem cmj_v {b : Nat → Nat} {bn : Nat} (hbn : bn ≤ 40) (hb : ∀ i, i < bn → b i < 256) (q : Nat) {d : Nat} (hd : 24 ≤ d) {S : ab_S} (h : cB b bn S) (u : Int32) :
    ∃ S1 t o, fB S S1 ∧ cB b bn S1 ∧ aIt b bn u t o ∧ (∀ x, o = some x → t = 0 ∧ v_7_0 q d u S = some ((0, n32 (x.1.2 0 x.2), 0, 0), S1) ∧ v_8_0 q d u S = some ((0, 0, n64 (x.1.2 1 x.2), 0), S1) ∧ v_9_0 q d u S = some ((0, n32 (x.1.2 2 x.2), 0, 0), S1)) ∧ (o = none → 1 ≤ t ∧ t ≤ 2 ∧ v_7_0 q d u S = some ((t, 0, 0, 0), ab_wx S1) ∧ v_8_0 q d u S = some ((t, 0, 0, 0), ab_wx S1) ∧ v_9_0 q d u S = some ((t, 0, 0, 0), ab_wx S1)) := by
  obtain ⟨d, rfl⟩ := dsuc hd
  obtain ⟨S1, f1, c1, ⟨a1, e1⟩ | ⟨w, a1, a2, ⟨k, hk, a3, e1⟩ | ⟨a3, e1⟩⟩⟩ := ri_v hbn hb q (by omega : 23 ≤ d) h u
  · refine ⟨S1, 1, none, f1, c1, Or.inl ⟨a1, rfl, rfl⟩, nofun, fun _ => ⟨by omega, by omega, ?_, ?_, ?_⟩⟩
    · rw [e_7_0, e1, cV_x (by omega)]
    · rw [e_8_0, e1, cV_x (by omega)]
    · rw [e_9_0, e1, cV_x (by omega)]
  · have hw := wf_ok hb a1
    refine ⟨S1, 0, some (w, k), f1, c1, Or.inr ⟨w, a1, Or.inl ⟨k, hk, a3, rfl, rfl⟩⟩, fun x hx => ?_, nofun⟩
    cases hx
    refine ⟨rfl, ?_, ?_, ?_⟩
    · rw [e_7_0, e1, cV_0, a3, n32_in (by omega) (by omega), g_t, n32_cl (by omega), (a2.2 k hk).1]
    · rw [e_8_0, e1, cV_0, a3, n32_in (by omega) (by omega), g_t, n32_cl (by omega), (a2.2 k hk).2.1]
    · rw [e_9_0, e1, cV_0, a3, n32_in (by omega) (by omega), g_t, n32_cl (by omega), (a2.2 k hk).2.2.1]
  · refine ⟨S1, 2, none, f1, c1, Or.inr ⟨w, a1, Or.inr ⟨a3, rfl, rfl⟩⟩, nofun, fun _ => ⟨by omega, by omega, ?_, ?_, ?_⟩⟩
    · rw [e_7_0, e1, cV_x (by omega)]
    · rw [e_8_0, e1, cV_x (by omega)]
    · rw [e_9_0, e1, cV_x (by omega)]
theorem cit_v {b : Nat → Nat} {bn : Nat} (hbn : bn ≤ 40) (hb : ∀ i, i < bn → b i < 256) (q : Nat) {d : Nat} (hd : 23 ≤ d) {S : ab_S} (h : cB b bn S) :
    ∃ S1, fB S S1 ∧ cB b bn S1 ∧ ((wf b bn = none ∧ v_6_0 q d S = some ((1, 0, 0, 0), ab_wx S1)) ∨ ∃ w, wf b bn = some w ∧ v_6_0 q d S = some ((0, n32 w.1, 0, 0), S1)) := by
  obtain ⟨d, rfl⟩ := dsuc hd
  obtain ⟨S1, f1, c1, ⟨a1, e1⟩ | ⟨w, a1, a2, e1⟩⟩ := rq_v hbn hb q (by omega : 22 ≤ d) h
  · refine ⟨S1, f1, c1, Or.inl ⟨a1, ?_⟩⟩
    rw [e_6_0, e1, cV_x (by omega)]
  · refine ⟨S1, f1, c1, Or.inr ⟨w, a1, ?_⟩⟩
    rw [e_6_0, e1, cV_0, a2.1]
