-- What was in the rows before doesn't matter; the class's methods over items.
def eqv (Q : Nat → Nat → Prop) (s t : ic) : Prop := s.1 = t.1 ∧ s.2.1 = t.2.1 ∧ ∀ j k, Q j k → s.2.2 j k = t.2.2 j k
def eqo (Q : Nat → Nat → Prop) (c : Nat) (x y : Option ic) : Prop := (x = none ∧ y = none) ∨ ∃ a a', x = some a ∧ y = some a' ∧ eqv (fun j k => Q j k ∨ (c ≤ k ∧ k < a.2.1 ∧ j < 5)) a a'
theorem eqo_rf {Q : Nat → Nat → Prop} {s t : ic} (h : eqv Q s t) {p : Nat} : eqo Q s.2.1 (some (p, s.2)) (some (p, t.2)) :=
  Or.inr ⟨_, _, rfl, rfl, rfl, h.2.1, fun j k hq => hq.elim (fun x => h.2.2 j k x) (fun (x : s.2.1 ≤ k ∧ k < s.2.1 ∧ j < 5) => absurd x.1 (by omega))⟩
theorem many_ind {f : ic → Option ic} (F : ∀ Q s t, eqv Q s t → eqo Q s.2.1 (f s) (f t)) : ∀ n Q s t, eqv Q s t → eqo Q s.2.1 (many f n s) (many f n t)
  | 0, Q, s, t, h => by
    have := @eqo_rf Q s t h s.1
    unfold many
    have e : t = (s.1, t.2) := by rw [h.1]
    rw [e]
    exact this
  | n + 1, Q, s, t, h => by
    unfold many
    rcases F Q s t h with ⟨a, b⟩ | ⟨a, a', e1, e2, e3⟩
    · rw [a, b]
      exact Or.inl ⟨rfl, rfl⟩
    · rw [e1, e2]
      rcases many_ind F n _ a a' e3 with ⟨c, d⟩ | ⟨c, c', g1, g2, g3⟩
      · exact Or.inl ⟨c, d⟩
      · refine Or.inr ⟨c, c', g1, g2, g3.1, g3.2.1, fun j k hq => g3.2.2 j k ?_⟩
        rcases hq with hq | hq
        · exact Or.inl (Or.inl hq)
        · by_cases l : k < a.2.1
          · exact Or.inl (Or.inr ⟨hq.1, l, hq.2.2⟩)
          · exact Or.inr ⟨by omega, hq.2.1, hq.2.2⟩
theorem rest_ind {b : Nat → Nat} {bn : Nat} {f : ic → Option ic} (F : ∀ Q s t, eqv Q s t → eqo Q s.2.1 (f s) (f t)) (major n : Nat) (Q : Nat → Nat → Prop) (s t : ic) (h : eqv Q s t) : eqo Q s.2.1 (rest f b bn major n s) (rest f b bn major n t) := by
  unfold rest
  rw [← h.1]
  by_cases c2 : major = 2
  · rw [if_pos c2, if_pos c2]
    by_cases g : bn < s.1 + n
    · rw [if_pos g, if_pos g]
      exact Or.inl ⟨rfl, rfl⟩
    · rw [if_neg g, if_neg g]
      exact eqo_rf h
  rw [if_neg c2, if_neg c2]
  by_cases c3 : major = 3
  · rw [if_pos c3, if_pos c3]
    by_cases g : bn < s.1 + n
    · rw [if_pos g, if_pos g]
      exact Or.inl ⟨rfl, rfl⟩
    · rw [if_neg g, if_neg g]
      by_cases k : prs b s.1 n = true
      · rw [if_pos k, if_pos k]
        exact eqo_rf h
      · rw [if_neg k, if_neg k]
        exact Or.inl ⟨rfl, rfl⟩
  rw [if_neg c3, if_neg c3]
  by_cases c4 : major = 4
  · rw [if_pos c4, if_pos c4]
    exact many_ind F _ _ _ _ h
  rw [if_neg c4, if_neg c4]
  by_cases c5 : major = 5
  · rw [if_pos c5, if_pos c5]
    exact many_ind F _ _ _ _ h
  rw [if_neg c5, if_neg c5]
  by_cases c6 : major = 6
  · rw [if_pos c6, if_pos c6]
    exact many_ind F _ _ _ _ h
  rw [if_neg c6, if_neg c6]
  exact many_ind F 0 _ _ _ h
theorem uI_c {I J : Nat → Nat → Nat} {j k x y v : Nat} (h : ¬ (x = j ∧ y = k) → I x y = J x y) : uI I j k v x y = uI J j k v x y := by
  unfold uI
  by_cases g : x = j ∧ y = k
  · rw [if_pos g, if_pos g]
  · rw [if_neg g, if_neg g]
    exact h g
theorem itm_ind (b : Nat → Nat) (bn : Nat) : ∀ f Q s t, eqv Q s t → eqo Q s.2.1 (itm b bn f s) (itm b bn f t)
  | 0, _, _, _, _ => Or.inl ⟨rfl, rfl⟩
  | f + 1, Q, (p, c, I), (p', c', J), ⟨h1, h2, h3⟩ => by
    have h1 : p = p' := h1
    have h2 : c = c' := h2
    have h3 : ∀ j k, Q j k → I j k = J j k := h3
    subst h1
    subst h2
    unfold itm
    show eqo Q c (if 24 ≤ c then none else if bn ≤ p then none else if b p / 32 = 7 ∧ (b p % 32 < 20 ∨ 22 < b p % 32) then none else _) (if 24 ≤ c then none else if bn ≤ p then none else if b p / 32 = 7 ∧ (b p % 32 < 20 ∨ 22 < b p % 32) then none else _)
    by_cases g1 : 24 ≤ c
    · rw [if_pos g1, if_pos g1]
      exact Or.inl ⟨rfl, rfl⟩
    rw [if_neg g1, if_neg g1]
    by_cases g2 : bn ≤ p
    · rw [if_pos g2, if_pos g2]
      exact Or.inl ⟨rfl, rfl⟩
    rw [if_neg g2, if_neg g2]
    by_cases g3 : b p / 32 = 7 ∧ (b p % 32 < 20 ∨ 22 < b p % 32)
    · rw [if_pos g3, if_pos g3]
      exact Or.inl ⟨rfl, rfl⟩
    rw [if_neg g3, if_neg g3]
    show eqo Q c (match num b bn (p + 1) (b p % 32) with | none => none | some x => _) (match num b bn (p + 1) (b p % 32) with | none => none | some x => _)
    cases num b bn (p + 1) (b p % 32) with
    | none => exact Or.inl ⟨rfl, rfl⟩
    | some x =>
      have r := rest_ind (b := b) (bn := bn) (itm_ind b bn f) (b p / 32) x.1 (fun j k => Q j k ∨ (k = c ∧ j < 4)) (x.2, c + 1, put4 I c (b p / 32) x.1 (6 - f) x.2) (x.2, c + 1, put4 J c (b p / 32) x.1 (6 - f) x.2) ⟨rfl, rfl, fun j k hq => by
        show put4 I c (b p / 32) x.1 (6 - f) x.2 j k = put4 J c (b p / 32) x.1 (6 - f) x.2 j k
        unfold put4
        refine uI_c fun z3 => uI_c fun z2 => uI_c fun z1 => uI_c fun z0 => ?_
        rcases hq with hq | hq
        · exact h3 j k hq
        · omega⟩
      show eqo Q c (match rest (itm b bn f) b bn (b p / 32) x.1 (x.2, c + 1, put4 I c (b p / 32) x.1 (6 - f) x.2) with | none => none | some s' => some (s'.1, s'.2.1, uI s'.2.2 4 c s'.2.1)) (match rest (itm b bn f) b bn (b p / 32) x.1 (x.2, c + 1, put4 J c (b p / 32) x.1 (6 - f) x.2) with | none => none | some s' => some (s'.1, s'.2.1, uI s'.2.2 4 c s'.2.1))
      rcases r with ⟨r1, r2⟩ | ⟨a, a', r1, r2, r3⟩
      · rw [r1, r2]
        exact Or.inl ⟨rfl, rfl⟩
      · rw [r1, r2]
        refine Or.inr ⟨_, _, rfl, rfl, r3.1, r3.2.1, fun j k hq => ?_⟩
        show uI a.2.2 4 c a.2.1 j k = uI a'.2.2 4 c a'.2.1 j k
        rw [← r3.2.1]
        refine uI_c fun z => r3.2.2 j k ?_
        rcases hq with hq | hq
        · exact Or.inl (Or.inl hq)
        · have hq : c ≤ k ∧ k < a.2.1 ∧ j < 5 := hq
          by_cases l : k = c
          · exact Or.inl (Or.inr (by omega))
          · exact Or.inr ⟨show c + 1 ≤ k by omega, hq.2.1, hq.2.2⟩
abbrev wt : Type := Nat × (Nat → Nat → Nat)
def wf (b : Nat → Nat) (bn : Nat) : Option wt := match itm b bn 6 (0, 0, fun _ _ => 0) with
  | none => none
  | some s => if s.1 = bn then some s.2 else none
theorem wf_ok {b : Nat → Nat} {bn : Nat} (hb : ∀ i, i < bn → b i < 256) {w : wt} (h : wf b bn = some w) : 0 < w.1 ∧ w.1 ≤ 24 ∧ ∀ k, k < w.1 → Fct bn w.2 k ∧ w.2 4 k ≤ w.1 := by
  unfold wf at h
  split at h
  · cases h
  · rename_i s hs
    split at h
    · cases h
      have i := itm_inc hb 6 _ _ (Nat.zero_le _) (Nat.zero_le _) hs
      have k := itm_F hb 6 (Nat.le_refl _) _ _ (Nat.zero_le _) (Nat.zero_le _) hs
      exact ⟨i.2.2.1, i.2.2.2, fun x hx => k.1.2 x (Nat.zero_le _) hx⟩
    · cases h
theorem wf_any {b : Nat → Nat} {bn : Nat} (I : Nat → Nat → Nat) : (itm b bn 6 (0, 0, I) = none ∧ wf b bn = none) ∨ ∃ s, itm b bn 6 (0, 0, I) = some s ∧ ((s.1 ≠ bn ∧ wf b bn = none) ∨ (s.1 = bn ∧ ∃ w, wf b bn = some w ∧ w.1 = s.2.1 ∧ ∀ j k, k < w.1 → j < 5 → s.2.2 j k = w.2 j k)) := by
  unfold wf
  rcases itm_ind b bn 6 (fun _ _ => False) (0, 0, I) (0, 0, fun _ _ => 0) ⟨rfl, rfl, fun _ _ h => h.elim⟩ with ⟨h1, h2⟩ | ⟨a, a', h1, h2, h3⟩
  · rw [h2]
    exact Or.inl ⟨h1, rfl⟩
  · rw [h2]
    refine Or.inr ⟨a, h1, ?_⟩
    by_cases g : a.1 = bn
    · refine Or.inr ⟨g, a'.2, if_pos (by rw [← h3.1]; exact g), h3.2.1.symm, fun j k hk hj => h3.2.2 j k (Or.inr ⟨Nat.zero_le _, by rw [h3.2.1]; exact hk, hj⟩)⟩
    · exact Or.inl ⟨g, if_neg (by rw [← h3.1]; exact g)⟩
/-- the rows of the class hold w -/
def tw (S : ab_S) (w : wt) : Prop := S.1 5 6 = n32 w.1 ∧ ∀ k, k < w.1 → S.1 7 k = n32 (w.2 0 k) ∧ S.2.1 8 k = n64 (w.2 1 k) ∧ S.1 9 k = n32 (w.2 2 k) ∧ S.1 10 k = n32 (w.2 3 k) ∧ S.1 11 k = n32 (w.2 4 k)
def tb (b : Nat → Nat) (bn : Nat) (S : ab_S) : Prop := S.1 5 10 = n32 (wf b bn).isSome.toNat ∧ ∀ w, wf b bn = some w → tw S w
def cB (b : Nat → Nat) (bn : Nat) (S : ab_S) : Prop := S.1 5 7 = n32 bn ∧ (∀ i, i < bn → S.1 6 i = n32 (b i)) ∧ (S.1 5 9 = n32 0 ∨ (S.1 5 9 = n32 1 ∧ tb b bn S))
/-- all but the items' cells is as it was, and the bytes are -/
def fB (S S' : ab_S) : Prop := S'.2.2 = S.2.2 ∧ (∀ r j, (r < 5 ∨ 11 < r) → S'.1 r j = S.1 r j) ∧ (∀ r j, (r < 5 ∨ 11 < r) → S'.2.1 r j = S.2.1 r j) ∧ (∀ j, S'.1 6 j = S.1 6 j) ∧ S'.1 5 7 = S.1 5 7
theorem fB_rf (S : ab_S) : fB S S := ⟨rfl, fun _ _ _ => rfl, fun _ _ _ => rfl, fun _ => rfl, rfl⟩
theorem fB_tr {S S1 S2 : ab_S} (h : fB S S1) (g : fB S1 S2) : fB S S2 := ⟨g.1.trans h.1, fun r j x => (g.2.1 r j x).trans (h.2.1 r j x), fun r j x => (g.2.2.1 r j x).trans (h.2.2.1 r j x), fun j => (g.2.2.2.1 j).trans (h.2.2.2.1 j), g.2.2.2.2.trans h.2.2.2.2⟩
theorem fB_5 (S : ab_S) (j : Nat) (hj : j ≠ 7) (v : Int32) : fB S (ab_wi S 5 j v) := ⟨rfl, fun r' i x => by rw [wi_rd, if_neg (by omega)], fun _ _ _ => rfl, fun i => by rw [wi_rd, if_neg (by omega)], by rw [wi_rd, if_neg (by omega)]⟩
theorem fI_fB {S S' : ab_S} (h : fI S S') : fB S S' := ⟨h.1, h.2.1, h.2.2.1, h.2.2.2.1, h.2.2.2.2 7 (by omega) (by omega)⟩
def iS (S : ab_S) : Nat → Nat → Nat := fun j k => if j = 1 then (S.2.1 8 k).toBitVec.toNat else if j = 0 then (S.1 7 k).toBitVec.toNat else if j = 2 then (S.1 9 k).toBitVec.toNat else if j = 3 then (S.1 10 k).toBitVec.toNat else (S.1 11 k).toBitVec.toNat
theorem n32_self (x : Int32) : x = n32 x.toBitVec.toNat := n32_of (by rw [Nat.mod_eq_of_lt x.toBitVec.isLt])
theorem n64_self (x : Int64) : x = n64 x.toBitVec.toNat := n64_of (by rw [Nat.mod_eq_of_lt x.toBitVec.isLt])
theorem iS_R {b : Nat → Nat} {bn : Nat} {S : ab_S} {p c : Nat} (h1 : S.1 5 8 = n32 p) (h2 : S.1 5 6 = n32 c) (h3 : S.1 5 7 = n32 bn) (h4 : ∀ i, i < bn → S.1 6 i = n32 (b i)) : iR b bn S (p, c, iS S) :=
  ⟨h1, h2, h3, h4, fun k _ => ⟨n32_self _, n64_self _, n32_self _, n32_self _, n32_self _⟩⟩
theorem aw_v {b : Nat → Nat} {bn : Nat} (hbn : bn ≤ 40) (hb : ∀ i, i < bn → b i < 256) (q : Nat) {d : Nat} (hd : 21 ≤ d) {S : ab_S} (h : cB b bn S) : ∃ S1, fB S S1 ∧ cB b bn S1 ∧ tb b bn S1 ∧ v_23_0 q d S = some ((0, n32 (wf b bn).isSome.toNat, 0, 0), S1) := by
  obtain ⟨d, rfl⟩ := dsuc hd
  obtain ⟨h1, h2, h3 | ⟨h3, h4⟩⟩ := h
  · rw [e_23_0, if_pos h3]
    have i0 : iR b bn (ab_wi (ab_wi S 5 6 (n32 0)) 5 8 (n32 0)) (0, 0, iS (ab_wi (ab_wi S 5 6 (n32 0)) 5 8 (n32 0))) := iS_R rfl rfl h1 (fun i hi => by rw [wi_rd, if_neg (by omega), wi_rd, if_neg (by omega)]; exact h2 i hi)
    have f0 : fB S (ab_wi (ab_wi S 5 6 (n32 0)) 5 8 (n32 0)) := fB_tr (fB_5 S 6 (by omega) _) (fB_5 _ 8 (by omega) _)
    revert i0 f0
    generalize ab_wi (ab_wi S 5 6 (n32 0)) 5 8 (n32 0) = S0
    intro i0 f0
    obtain ⟨S1, g1, g2, g3⟩ := it_v hbn hb q 6 (Nat.le_refl _) S0 (0, 0, iS S0) d i0 (Nat.zero_le _) (Nat.zero_le _) (by omega)
    have f1 := fB_tr f0 (fI_fB g1)
    have fin (x : Int32) : fB S (ab_wi (ab_wi S1 5 10 x) 5 9 (n32 1)) := fB_tr (fB_tr f1 (fB_5 _ 10 (by omega) _)) (fB_5 _ 9 (by omega) _)
    have no (hw : wf b bn = none) : ∃ S1', fB S S1' ∧ cB b bn S1' ∧ tb b bn S1' ∧ v_23_41 q (d + 1) S1 = some ((0, n32 (wf b bn).isSome.toNat, 0, 0), S1') := by
      have t0 : tb b bn (ab_wi (ab_wi S1 5 10 (n32 0)) 5 9 (n32 1)) := ⟨by rw [hw]; rfl, fun w e => nomatch hw.symm.trans e⟩
      refine ⟨ab_wi (ab_wi S1 5 10 (n32 0)) 5 9 (n32 1), fin _, ⟨(fin _).2.2.2.2.trans h1, fun i hi => ((fin _).2.2.2.1 i).trans (h2 i hi), Or.inr ⟨rfl, t0⟩⟩, t0, ?_⟩
      rw [e_23_41, e_23_42, show ab_zb (n32 0) = true from rfl, g_t, e_23_50, t0.1, bo_nz]
    rcases wf_any (b := b) (bn := bn) (iS S0) with ⟨a1, a2⟩ | ⟨s, a1, ⟨a2, a3⟩ | ⟨a2, w, a3, a4, a5⟩⟩
    · rw [show (7 - 6) = 1 from rfl, a1] at g2
      rw [g2 rfl, cI_0, if_pos rfl]
      exact no a2
    · have k := g3 s a1
      rw [show (7 - 6) = 1 from rfl] at k
      have ks := itm_inc hb 6 _ _ (Nat.zero_le _) (Nat.zero_le _) a1
      rw [k.1, cI_0, if_neg one_z, k.2.1, k.2.2.2.1, i_eq (by omega) (by omega), if_neg a2]
      exact no a3
    · have k := g3 s a1
      rw [show (7 - 6) = 1 from rfl] at k
      have ks := itm_inc hb 6 _ _ (Nat.zero_le _) (Nat.zero_le _) a1
      rw [k.1, cI_0, if_neg one_z, k.2.1, k.2.2.2.1, i_eq (by omega) (by omega), if_pos a2, e_23_42, show ab_zb (n32 1) = true from rfl, g_t, e_23_50]
      have t1 : tb b bn (ab_wi (ab_wi S1 5 10 (n32 1)) 5 9 (n32 1)) := by
        refine ⟨by rw [a3]; rfl, fun w' e => ?_⟩
        rw [a3] at e
        cases e
        refine ⟨by rw [wi_rd, if_neg (by omega), wi_rd, if_neg (by omega), k.2.2.1, a4], fun x hx => ?_⟩
        have y := k.2.2.2.2.2 x (by omega)
        rw [a5 0 x hx (by omega), a5 1 x hx (by omega), a5 2 x hx (by omega), a5 3 x hx (by omega), a5 4 x hx (by omega)] at y
        refine ⟨?_, y.2.1, ?_, ?_, ?_⟩
        · rw [wi_rd, if_neg (by omega), wi_rd, if_neg (by omega)]; exact y.1
        · rw [wi_rd, if_neg (by omega), wi_rd, if_neg (by omega)]; exact y.2.2.1
        · rw [wi_rd, if_neg (by omega), wi_rd, if_neg (by omega)]; exact y.2.2.2.1
        · rw [wi_rd, if_neg (by omega), wi_rd, if_neg (by omega)]; exact y.2.2.2.2
      refine ⟨ab_wi (ab_wi S1 5 10 (n32 1)) 5 9 (n32 1), fin _, ⟨(fin _).2.2.2.2.trans h1, fun i hi => ((fin _).2.2.2.1 i).trans (h2 i hi), Or.inr ⟨rfl, t1⟩⟩, t1, ?_⟩
      rw [t1.1, bo_nz]
  · rw [e_23_0, h3, if_neg one_z, e_23_50, h4.1, bo_nz]
    exact ⟨S, fB_rf S, ⟨h1, h2, Or.inr ⟨h3, h4⟩⟩, h4, rfl⟩
theorem rq_v {b : Nat → Nat} {bn : Nat} (hbn : bn ≤ 40) (hb : ∀ i, i < bn → b i < 256) (q : Nat) {d : Nat} (hd : 22 ≤ d) {S : ab_S} (h : cB b bn S) : ∃ S1, fB S S1 ∧ cB b bn S1 ∧ ((wf b bn = none ∧ v_17_0 q d S = some ((1, 0, 0, 0), ab_wx S1)) ∨ ∃ w, wf b bn = some w ∧ tw S1 w ∧ v_17_0 q d S = some ((0, 0, 0, 0), S1)) := by
  obtain ⟨d, rfl⟩ := dsuc hd
  obtain ⟨S1, f1, c1, t1, e1⟩ := aw_v hbn hb q (by omega : 21 ≤ d) h
  refine ⟨S1, f1, c1, ?_⟩
  rw [e_17_0, e1, cI_0, i_bz]
  cases hw : wf b bn with
  | none => exact Or.inl ⟨rfl, rfl⟩
  | some w => exact Or.inr ⟨w, rfl, t1.2 w hw, rfl⟩
theorem ix_c (u : Int32) {c : Nat} (hc : c ≤ 24) : (∃ k, k < c ∧ u = n32 k) ∨ ((∀ k, k < c → u ≠ n32 k) ∧ (u < n32 0 ∨ (¬ u < n32 0 ∧ ¬ u < n32 c))) := by
  by_cases h : u < n32 0
  · refine Or.inr ⟨fun k hk e => ?_, Or.inl h⟩
    rw [e, n32_lt (by omega) (by omega)] at h
    omega
  · by_cases g : u < n32 c
    · refine Or.inl ⟨u.toInt.toNat, ?_, ?_⟩
      · rw [Int32.lt_iff_toInt_lt, n32_int (by omega)] at g
        rw [Int32.lt_iff_toInt_lt, n32_int (by omega)] at h
        omega
      · apply Int32.toInt_inj.mp
        rw [Int32.lt_iff_toInt_lt, n32_int (by omega)] at g
        rw [Int32.lt_iff_toInt_lt, n32_int (by omega)] at h
        rw [n32_int (by omega)]
        omega
    · refine Or.inr ⟨fun k hk e => ?_, Or.inr ⟨h, g⟩⟩
      rw [e, n32_lt (by omega) (by omega)] at g
      omega
theorem ri_v {b : Nat → Nat} {bn : Nat} (hbn : bn ≤ 40) (hb : ∀ i, i < bn → b i < 256) (q : Nat) {d : Nat} (hd : 23 ≤ d) {S : ab_S} (h : cB b bn S) (u : Int32) : ∃ S1, fB S S1 ∧ cB b bn S1 ∧ ((wf b bn = none ∧ v_18_0 q d u S = some ((1, 0, 0, 0), ab_wx S1)) ∨ ∃ w, wf b bn = some w ∧ tw S1 w ∧ ((∃ k, k < w.1 ∧ u = n32 k ∧ v_18_0 q d u S = some ((0, 0, 0, 0), S1)) ∨ ((∀ k, k < w.1 → u ≠ n32 k) ∧ v_18_0 q d u S = some ((2, 0, 0, 0), ab_wx S1)))) := by
  obtain ⟨d, rfl⟩ := dsuc hd
  obtain ⟨S1, f1, c1, ⟨w1, e1⟩ | ⟨w, w1, w2, e1⟩⟩ := rq_v hbn hb q (by omega : 22 ≤ d) h
  · refine ⟨S1, f1, c1, Or.inl ⟨w1, ?_⟩⟩
    rw [e_18_0, e1]
    rfl
  · refine ⟨S1, f1, c1, Or.inr ⟨w, w1, w2, ?_⟩⟩
    have hw := wf_ok hb w1
    rw [e_18_0, e1, cV_0, w2.1]
    rcases ix_c u hw.2.1 with ⟨k, hk, e⟩ | ⟨hk, e | ⟨e, e'⟩⟩
    · subst e
      refine Or.inl ⟨k, hk, rfl, ?_⟩
      rw [i_lt (by omega) (by omega), if_neg (by omega), i_lt (by omega) (by omega), if_pos hk]
    · rw [if_pos e, e_18_19]
      exact Or.inr ⟨hk, rfl⟩
    · rw [if_neg e, if_neg e', e_18_19]
      exact Or.inr ⟨hk, rfl⟩
