-- The law's loop: what holds of both sides, and what each call keeps.
theorem cT_fr {t : Nat → Nat} {tn : Nat} {S S' : ab_S} (h : cT t tn S) (g : ∀ c j, (c = 3 ∧ j = 1) ∨ c = 4 → S'.1 c j = S.1 c j) : cT t tn S' := ⟨(g 3 1 (Or.inl ⟨rfl, rfl⟩)).trans h.1, fun i hi => (g 4 i (Or.inr rfl)).trans (h.2 i hi)⟩
theorem cB_fr {b : Nat → Nat} {bn : Nat} {S S' : ab_S} (h : cB b bn S) (g : ∀ c j, 5 ≤ c → c ≤ 11 → S'.1 c j = S.1 c j) (l : ∀ c j, 5 ≤ c → c ≤ 11 → S'.2.1 c j = S.2.1 c j) : cB b bn S' := by
  obtain ⟨h1, h2, h3⟩ := h
  refine ⟨(g _ _ (by omega) (by omega)).trans h1, fun i hi => (g _ _ (by omega) (by omega)).trans (h2 i hi), ?_⟩
  rw [g 5 9 (by omega) (by omega)]
  rcases h3 with h3 | ⟨h3, h4, h5⟩
  · exact Or.inl h3
  · refine Or.inr ⟨h3, (g _ _ (by omega) (by omega)).trans h4, fun w hw => ?_⟩
    obtain ⟨k1, k2⟩ := h5 w hw
    refine ⟨(g _ _ (by omega) (by omega)).trans k1, fun k hk => ?_⟩
    rw [g 7 k (by omega) (by omega), l 8 k (by omega) (by omega), g 9 k (by omega) (by omega), g 10 k (by omega) (by omega), g 11 k (by omega) (by omega)]
    exact k2 k hk
theorem cG_f2 {q : Nat} {S S' : ab_S} {D : Nat → Bool} {L B : Nat → Nat} {ls : Nat → List alt} (h : cG q S D L B ls) (hr : S'.2.2.1 = S.2.2.1) (g : ∀ c j, 14 ≤ c → c ≤ 113 → S'.1 c j = S.1 c j) : cG q S' D L B ls := cG_fr h hr (fun i hi c j c1 c2 => by
  have := sh_ge (h.1 i hi).1
  exact g c j (by omega) (by omega))
theorem sh_le {r : Nat} (h : isSh r) : 14 ≤ r ∧ r ≤ 103 := by
  rcases h with h | h | h | h | h | h | h | h | h <;> omega
def cSd (q : Nat) (S : ab_S) (t : Nat → Nat) (tn : Nat) (b : Nat → Nat) (bn : Nat) (D : Nat → Bool) (L B : Nat → Nat) (ls : Nat → List alt) : Prop := cT t tn S ∧ cB b bn S ∧ cG q S D L B ls ∧ ∀ j, j < 6 → S.2.1 2 j = ab_wo j
def rSd (S : ab_S) (t : Nat → Nat) (tn : Nat) (b : Nat → Nat) (bn : Nat) (D : Nat → Bool) (L B : Nat → Nat) (ls : Nat → List alt) : Prop := rT t tn S ∧ rB b bn S ∧ rG S D L B ls
def pF (t : Nat → Nat) (tn : Nat) (b : Nat → Nat) (bn : Nat) (L B : Nat → Nat) : Prop := tok t tn ∧ bn ≤ 40 ∧ (∀ i, i < bn → b i < 256) ∧ (∀ i, i < 8 → L i < 256) ∧ ∀ i, i < 8 → B i < 256
/-- what a call of the class keeps -/
def kC (S S' : ab_S) : Prop := (∀ c j, (c < 3 ∨ 116 < c) → S'.1 c j = S.1 c j) ∧ (∀ c j, (c < 3 ∨ 116 < c) → S'.2.1 c j = S.2.1 c j) ∧ (∀ c j, c ≠ 13 → (c ≠ 102 ∨ j ≠ 0) → S'.2.2.1 c j = S.2.2.1 c j) ∧ S'.2.2.2.1 = S.2.2.2.1 ∧ S'.2.2.2.2.1 ≤ S.2.2.2.2.1 + 1 ∧ S'.2.2.2.2.2 ≤ S.2.2.2.2.2 + 6
/-- the same, with nothing made -/
def k0 (S S' : ab_S) : Prop := (∀ c j, (c < 3 ∨ 116 < c) → S'.1 c j = S.1 c j) ∧ (∀ c j, (c < 3 ∨ 116 < c) → S'.2.1 c j = S.2.1 c j) ∧ (∀ c j, c ≠ 13 → (c ≠ 102 ∨ j ≠ 0) → S'.2.2.1 c j = S.2.2.1 c j) ∧ S'.2.2.2 = S.2.2.2
theorem k0_rf (S : ab_S) : k0 S S := ⟨fun _ _ _ => rfl, fun _ _ _ => rfl, fun _ _ _ _ => rfl, rfl⟩
theorem k0_tr {S S1 S2 : ab_S} (h : k0 S S1) (g : k0 S1 S2) : k0 S S2 := ⟨fun c j x => (g.1 c j x).trans (h.1 c j x), fun c j x => (g.2.1 c j x).trans (h.2.1 c j x), fun c j x y => (g.2.2.1 c j x y).trans (h.2.2.1 c j x y), g.2.2.2.trans h.2.2.2⟩
theorem k0_C {S S1 : ab_S} (h : k0 S S1) : kC S S1 := ⟨h.1, h.2.1, h.2.2.1, by rw [h.2.2.2], by rw [h.2.2.2]; omega, by rw [h.2.2.2]; omega⟩
theorem k0_x {S S1 : ab_S} (h : k0 S S1) : kC S (ab_wx S1) := ⟨h.1, h.2.1, h.2.2.1, by show S1.2.2.2.1 = _; rw [h.2.2.2], by show S1.2.2.2.2.1 + 1 ≤ _; rw [h.2.2.2]; omega, by show S1.2.2.2.2.2 + 6 ≤ _; rw [h.2.2.2]; omega⟩
theorem k0_cfr {S S1 : ab_S} (h : cfr S S1) : k0 S S1 := ⟨fun c j x => h.1 c j (by omega), fun c j _ => by rw [h.2.1], h.2.2.1, h.2.2.2⟩
theorem k0_fT {S S1 : ab_S} (h : fT S S1) : k0 S S1 := ⟨fun c j x => h.2 c j (by omega) (by omega), fun c j _ => by rw [h.1], fun c j _ _ => by rw [h.1], by rw [h.1]⟩
theorem k0_fF {S S1 : ab_S} (h : fF S S1) : k0 S S1 := ⟨fun c j x => h.2 c j (by omega) (by omega), fun c j _ => by rw [h.1], fun c j _ _ => by rw [h.1], by rw [h.1]⟩
theorem k0_fB {S S1 : ab_S} (h : fB S S1) : k0 S S1 := ⟨fun c j x => h.2.1 c j (by omega), fun c j x => h.2.2.1 c j (by omega), fun c j _ _ => by rw [h.1], by rw [h.1]⟩
theorem k0_mx {S S1 : ab_S} (h : mx S S1) : k0 S S1 := ⟨fun c j x => h.2 c j (by omega) (by omega), fun c j _ => by rw [h.1], fun c j _ _ => by rw [h.1], by rw [h.1]⟩
/-- what a call of the reference keeps -/
def kR (S S' : ab_S) : Prop := (∀ c j, c < 117 → S'.1 c j = S.1 c j) ∧ (∀ c j, (c < 117 ∨ 146 < c) → S'.2.1 c j = S.2.1 c j) ∧ S'.2.2 = S.2.2
theorem kR_tr {S S1 S2 : ab_S} (h : kR S S1) (g : kR S1 S2) : kR S S2 := ⟨fun c j x => (g.1 c j x).trans (h.1 c j x), fun c j x => (g.2.1 c j x).trans (h.2.1 c j x), g.2.2.trans h.2.2⟩
theorem kR_rf (S : ab_S) : kR S S := ⟨fun _ _ _ => rfl, fun _ _ _ => rfl, rfl⟩
theorem kR_wi (S : ab_S) {c : Nat} (hc : 117 ≤ c) (_ : c ≤ 146) (k : Nat) (v : Int32) : kR S (ab_wi S c k v) := ⟨fun c' j x => by rw [wi_rd, if_neg (by omega)], fun _ _ _ => rfl, rfl⟩
theorem kR_gT {S S1 : ab_S} (h : gT S S1) : kR S S1 := ⟨fun c j x => h.2.1 c j (by omega) (by omega), fun c j _ => by rw [h.1], by rw [h.1]⟩
theorem kR_gF {S S1 : ab_S} (h : gF S S1) : kR S S1 := ⟨fun c j x => h.2.1 c j (by omega) (by omega), fun c j _ => by rw [h.1], by rw [h.1]⟩
theorem kR_fR {S S1 : ab_S} (h : fR S S1) : kR S S1 := ⟨fun c j x => h.2.1 c j (by omega), fun c j x => h.2.2.2 c j (by omega), h.1⟩
theorem kR_fR' {S S1 : ab_S} (h : fR' S S1) : kR S S1 := ⟨fun c j x => h.2.1 c j (by omega), fun c j x => h.2.2.2 c j (by omega), h.1⟩
theorem kR_mF {S S1 : ab_S} (h : mF S S1) : kR S S1 := ⟨fun c j x => h.2 c j (by omega) (by omega) (by omega), fun c j _ => by rw [h.1], by rw [h.1]⟩
theorem cSd_fr {q : Nat} {S S' : ab_S} {t : Nat → Nat} {tn : Nat} {b : Nat → Nat} {bn : Nat} {D : Nat → Bool} {L B : Nat → Nat} {ls : Nat → List alt} (h : cSd q S t tn b bn D L B ls) (g : ∀ c j, c < 117 → S'.1 c j = S.1 c j) (l : ∀ c j, c < 117 → S'.2.1 c j = S.2.1 c j) (r : S'.2.2.1 = S.2.2.1) : cSd q S' t tn b bn D L B ls := ⟨cT_fr h.1 (fun c j x => g c j (by omega)), cB_fr h.2.1 (fun c j _ _ => g c j (by omega)) (fun c j _ _ => l c j (by omega)), cG_f2 h.2.2.1 r (fun c j _ _ => g c j (by omega)), fun j hj => (l 2 j (by omega)).trans (h.2.2.2 j hj)⟩
theorem rSd_fr {S S' : ab_S} {t : Nat → Nat} {tn : Nat} {b : Nat → Nat} {bn : Nat} {D : Nat → Bool} {L B : Nat → Nat} {ls : Nat → List alt} (h : rSd S t tn b bn D L B ls) (g : ∀ c j, 116 < c → S'.1 c j = S.1 c j) : rSd S' t tn b bn D L B ls := ⟨⟨(g _ _ (by omega)).trans h.1.1, fun i hi => (g _ _ (by omega)).trans (h.1.2 i hi)⟩, ⟨(g _ _ (by omega)).trans h.2.1.1, fun i hi => (g _ _ (by omega)).trans (h.2.1.2 i hi)⟩, rG_fr h.2.2 (fun c j _ => g c j (by omega))⟩
theorem rB_fr {b : Nat → Nat} {bn : Nat} {S S' : ab_S} (h : rB b bn S) (g1 : S'.1 117 4 = S.1 117 4) (g2 : ∀ j, S'.1 119 j = S.1 119 j) : rB b bn S' := ⟨g1.trans h.1, fun i hi => (g2 i).trans (h.2 i hi)⟩
theorem rT_fr {t : Nat → Nat} {tn : Nat} {S S' : ab_S} (h : rT t tn S) (g1 : S'.1 117 2 = S.1 117 2) (g2 : ∀ j, S'.1 118 j = S.1 118 j) : rT t tn S' := ⟨g1.trans h.1, fun i hi => (g2 i).trans (h.2 i hi)⟩
-- matching, both sides
theorem rdR {b : Nat → Nat} {bn : Nat} {S S1 : ab_S} (h : rB b bn S) (f : fR S S1) : rB b bn S1 := rB_fr h (f.2.2.1 4 (by omega)) (fun j => f.2.1 119 j (by omega))
theorem rdG {S S1 : ab_S} {D : Nat → Bool} {L B : Nat → Nat} {ls : Nat → List alt} (h : rG S D L B ls) (f : fR S S1) : rG S1 D L B ls := rG_fr h (fun c j _ => f.2.1 c j (by omega))
theorem ex_R {b : Nat → Nat} {bn : Nat} (hbn : bn ≤ 40) (hb : ∀ i, i < bn → b i < 256) {S : ab_S} (h : rB b bn S) {D : Nat → Bool} {L B : Nat → Nat} {ls : Nat → List alt} (hG : rG S D L B ls) {w : wt} (hw : wf b bn = some w) : ∃ R, fix (b, w.2, R) w.1 D ls := by
  have ok := wf_ok hb hw
  obtain ⟨S1, f1, ⟨a1, e1⟩ | ⟨w', a1, a2, e1⟩⟩ := rd_v hbn hb 0 0 h
  · cases a1.symm.trans hw
  · cases a1.symm.trans hw
    have mi : mI S1 b w.2 w.1 bn := ⟨ok.2.1, hbn, a2, rdR h f1, hb, ok.2.2⟩
    obtain ⟨R, T, _, _, r3, _⟩ := mall_v 0 0 mi (rdG hG f1) ok.1
    exact ⟨R, r3⟩
theorem snd_D {D : Nat → Bool} {L B : Nat → Nat} (hL : ∀ i, i < 8 → L i < 256) {r : Nat} (hr : r < 8) (h : snd D L B r = 0) : D r = true := by
  have c : (cl L (2 ^ r)).testBit r = true := by
    rw [cl_p hL hr]
    exact sb_p.mp (sb_l _ _)
  unfold snd at h
  by_cases g : anyF (fun i => (cl L (2 ^ r)).testBit i && !D i) 8 0 = true
  · rw [if_pos g] at h
    cases h
  · have := anyF_f 8 0 ((Bool.not_eq_true _).mp g) r (Nat.zero_le _) (by omega)
    rw [c, Bool.true_and] at this
    cases hD : D r with
    | true => rfl
    | false => rw [hD] at this; cases this
/-- the outcome of matching: the reference's word for what is thrown, and the answer -/
def mO (b : Nat → Nat) (bn : Nat) (D : Nat → Bool) (L B : Nat → Nat) (ls : Nat → List alt) (u1 u2 : Int32) (k : Nat) (y : Bool) : Prop := ((u1 < n32 0 ∨ (¬ u1 < n32 0 ∧ ¬ u1 < n32 8 ∧ n32 7 < u1)) ∧ k = 1) ∨ ∃ r, r < 8 ∧ u1 = n32 r ∧ ((snd D L B r ≠ 0 ∧ k = snd D L B r) ∨ (snd D L B r = 0 ∧ ((wf b bn = none ∧ k = 4) ∨ ∃ w, wf b bn = some w ∧ (((∀ i, i < w.1 → u2 ≠ n32 i) ∧ k = 1) ∨ ∃ i, i < w.1 ∧ u2 = n32 i ∧ k = 0 ∧ ∀ R, fix (b, w.2, R) w.1 D ls → y = R r i 0))))
def mOr (b : Nat → Nat) (bn : Nat) (D : Nat → Bool) (L B : Nat → Nat) (ls : Nat → List alt) (u1 u2 : Int32) (k : Nat) (y : Bool) : Prop := ((u1 < n32 0 ∨ (¬ u1 < n32 0 ∧ ¬ u1 < n32 8 ∧ n32 7 < u1)) ∧ k = 1) ∨ ∃ r, r < 8 ∧ u1 = n32 r ∧ ((snd D L B r ≠ 0 ∧ k = snd D L B r) ∨ (snd D L B r = 0 ∧ ((wf b bn = none ∧ k = 4) ∨ ∃ w, wf b bn = some w ∧ (((∀ i, i < w.1 → u2 ≠ n32 i) ∧ k = 1) ∨ ∃ i, i < w.1 ∧ u2 = n32 i ∧ k = 0 ∧ ∃ R, fix (b, w.2, R) w.1 D ls ∧ y = R r i 0))))
/-- what the class throws, by the reference's word -/
def xk (k : Nat) : Nat := if k = 4 then 1 else k + 1
theorem cmx {q : Nat} {S S' : ab_S} {t : Nat → Nat} {tn : Nat} {b : Nat → Nat} {bn : Nat} {D : Nat → Bool} {L B : Nat → Nat} {ls : Nat → List alt} (h : cSd q S t tn b bn D L B ls) (g : mx S S') : cSd q S' t tn b bn D L B ls := ⟨cT_fr h.1 (fun c j x => g.2 c j (by omega) (by omega)), cB_fr h.2.1 (fun c j _ _ => g.2 c j (by omega) (by omega)) (fun c j _ _ => by rw [g.1]), cG_f2 h.2.2.1 (by rw [g.1]) (fun c j _ _ => g.2 c j (by omega) (by omega)), fun j hj => by rw [g.1]; exact h.2.2.2 j hj⟩
theorem cmB {q : Nat} {S S' : ab_S} {t : Nat → Nat} {tn : Nat} {b : Nat → Nat} {bn : Nat} {D : Nat → Bool} {L B : Nat → Nat} {ls : Nat → List alt} (h : cSd q S t tn b bn D L B ls) (g : fB S S') (c : cB b bn S') : cSd q S' t tn b bn D L B ls := ⟨cT_fr h.1 (fun c j x => g.2.1 c j (by omega)), c, cG_f2 h.2.2.1 (by rw [g.1]) (fun c j _ _ => g.2.1 c j (by omega)), fun j hj => by rw [g.2.2.1 2 j (by omega)]; exact h.2.2.2 j hj⟩
theorem snd_3 (D : Nat → Bool) (L B : Nat → Nat) (r : Nat) : snd D L B r ≤ 3 := by
  unfold snd
  split
  · omega
  · split <;> omega
/-- the class's matching -/
theorem cma_c {q d : Nat} (hd : 90 ≤ d) {S : ab_S} {t : Nat → Nat} {tn : Nat} {b : Nat → Nat} {bn : Nat} {D : Nat → Bool} {L B : Nat → Nat} {ls : Nat → List alt} (hp : pF t tn b bn L B) (h : cSd q S t tn b bn D L B ls) (hr : rSd S t tn b bn D L B ls) (u1 u2 : Int32) {CK : ab_S → ab_R} (hC : ∃ S1, fB S S1 ∧ cB b bn S1 ∧ ((wf b bn = none ∧ CK S = some ((1, 0, 0, 0), ab_wx S1)) ∨ ∃ w, wf b bn = some w ∧ tw S1 w ∧ ((∃ k, k < w.1 ∧ u2 = n32 k ∧ CK S = some ((0, 0, 0, 0), S1)) ∨ ((∀ k, k < w.1 → u2 ≠ n32 k) ∧ CK S = some ((2, 0, 0, 0), ab_wx S1))))) : ∃ S1 k y, k ≤ 4 ∧ k0 S S1 ∧ cSd q S1 t tn b bn D L B ls ∧ mO b bn D L B ls u1 u2 k y ∧ (cI (v_19_0 q d u1 S) fun _ S1 => (cV (CK S1) fun S2 => (cI (v_63_0 q d u1 u2 S2) fun y3 S3 => (some ((0, (ab_nz y3), 0, 0), S3))))) = (if k = 0 then some ((0, n32 y.toNat, 0, 0), S1) else some ((xk k, 0, 0, 0), ab_wx S1)) := by
  obtain ⟨ht, hbn, hb, hL, hB⟩ := hp
  rcases ix_r u1 with ⟨r, hr8, rfl⟩ | ⟨_, hx⟩
  · obtain ⟨d', hd'⟩ : ∃ d', d = d' + 4 := ⟨d - 4, by omega⟩
    have s := snd_v q d' h.2.2.1.1 hL hB hr8
    rw [← hd'] at s
    have s3 := snd_3 D L B r
    by_cases e : snd D L B r = 0
    · rw [if_pos e] at s
      obtain ⟨S1, f1, c1, ⟨w1, e1⟩ | ⟨w, w1, w2, ⟨k, hk, hu, e1⟩ | ⟨hk, e1⟩⟩⟩ := hC
      · refine ⟨S1, 4, false, by omega, k0_fB f1, cmB h f1 c1, Or.inr ⟨r, hr8, rfl, Or.inr ⟨e, Or.inl ⟨w1, rfl⟩⟩⟩, ?_⟩
        rw [s, cI_0, e1, cV_x (by omega)]
        rfl
      · have ok := wf_ok hb w1
        have c' := cmB h f1 c1
        have cxx (R : Nat → Nat → Nat → Bool) : cx S1 (b, w.2, R) w.1 bn := ⟨hbn, ok.2.1, w2, fun i hi => ⟨c1.2.1 i hi, hb i hi⟩, ok.2.2, c'.2.2.2⟩
        obtain ⟨R0, hR0⟩ := ex_R hbn hb hr.2.1 hr.2.2 w1
        obtain ⟨S2, a1, a2⟩ := faw_v (cxx R0) c'.2.2.1.2.1 hR0 hd hr8 hk
        refine ⟨S2, 0, R0 r k 0, by omega, k0_tr (k0_fB f1) (k0_mx a2), cmx c' a2, Or.inr ⟨r, hr8, rfl, Or.inr ⟨e, Or.inr ⟨w, w1, Or.inr ⟨k, hk, hu, rfl, fun R hR => ?_⟩⟩⟩⟩, ?_⟩
        · obtain ⟨S3, b1, b2⟩ := faw_v (cxx R) c'.2.2.1.2.1 hR hd hr8 hk
          have := a1.symm.trans b1
          injection this with h1
          injection h1 with h2 h3
          injection h2 with h4 h5
          injection h5 with h6 h7
          exact bo_in h6
        · rw [s, cI_0, e1, cV_0, hu, a1, cI_0, if_pos rfl]
          show some ((0, ab_nz (n32 (R0 r k 0).toNat), 0, 0), S2) = _
          rw [bo_nz]
      · refine ⟨S1, 1, false, by omega, k0_fB f1, cmB h f1 c1, Or.inr ⟨r, hr8, rfl, Or.inr ⟨e, Or.inr ⟨w, w1, Or.inl ⟨hk, rfl⟩⟩⟩⟩, ?_⟩
        rw [s, cI_0, e1, cV_x (by omega)]
        rfl
    · rw [if_neg e] at s
      refine ⟨S, snd D L B r, false, by omega, k0_rf S, h, Or.inr ⟨r, hr8, rfl, Or.inl ⟨e, rfl⟩⟩, ?_⟩
      have x : xk (snd D L B r) = snd D L B r + 1 := if_neg (by omega)
      rw [s, cI_x (by omega), if_neg e, x]
  · obtain ⟨d', hd'⟩ : ∃ d', d = d' + 2 := ⟨d - 2, by omega⟩
    refine ⟨S, 1, false, by omega, k0_rf S, h, Or.inl ⟨hx, rfl⟩, ?_⟩
    rw [hd', snd_x q d' hx, cI_x (by omega)]
    rfl
theorem cma_v (q d : Nat) {S : ab_S} {t : Nat → Nat} {tn : Nat} {b : Nat → Nat} {bn : Nat} {D : Nat → Bool} {L B : Nat → Nat} {ls : Nat → List alt} (hp : pF t tn b bn L B) (h : cSd q S t tn b bn D L B ls) (hr : rSd S t tn b bn D L B ls) (u1 : Int32) : ∃ S1 k y, k ≤ 4 ∧ k0 S S1 ∧ cSd q S1 t tn b bn D L B ls ∧ mO b bn D L B ls u1 (n32 0) k y ∧ v_11_0 q (d + 91) u1 S = (if k = 0 then some ((0, n32 y.toNat, 0, 0), S1) else some ((xk k, 0, 0, 0), ab_wx S1)) := by
  rw [show d + 91 = d + 90 + 1 from rfl, e_11_0]
  refine cma_c (by omega) hp h hr u1 (n32 0) (CK := fun S => v_17_0 q (d + 90) S) ?_
  obtain ⟨S2, f2, c2, ⟨w1, e2⟩ | ⟨w, w1, w2, e2⟩⟩ := rq_v hp.2.1 hp.2.2.1 q (by omega : 22 ≤ d + 90) h.2.1
  · exact ⟨S2, f2, c2, Or.inl ⟨w1, e2⟩⟩
  · exact ⟨S2, f2, c2, Or.inr ⟨w, w1, w2, Or.inl ⟨0, (wf_ok hp.2.2.1 w1).1, rfl, e2⟩⟩⟩
theorem cmt_v (q d : Nat) {S : ab_S} {t : Nat → Nat} {tn : Nat} {b : Nat → Nat} {bn : Nat} {D : Nat → Bool} {L B : Nat → Nat} {ls : Nat → List alt} (hp : pF t tn b bn L B) (h : cSd q S t tn b bn D L B ls) (hr : rSd S t tn b bn D L B ls) (u1 u2 : Int32) : ∃ S1 k y, k ≤ 4 ∧ k0 S S1 ∧ cSd q S1 t tn b bn D L B ls ∧ mO b bn D L B ls u1 u2 k y ∧ v_12_0 q (d + 91) u1 u2 S = (if k = 0 then some ((0, n32 y.toNat, 0, 0), S1) else some ((xk k, 0, 0, 0), ab_wx S1)) := by
  rw [show d + 91 = d + 90 + 1 from rfl, e_12_0]
  exact cma_c (by omega) hp h hr u1 u2 (CK := fun S => v_18_0 q (d + 90) u2 S) (ri_v hp.2.1 hp.2.2.1 q (by omega : 23 ≤ d + 90) h.2.1 u2)
theorem mO_un {b : Nat → Nat} {bn : Nat} (hb : ∀ i, i < bn → b i < 256) {D : Nat → Bool} {L B : Nat → Nat} {ls : Nat → List alt} {u1 u2 : Int32} {k k' : Nat} {y y' : Bool} (h : mO b bn D L B ls u1 u2 k y) (g : mOr b bn D L B ls u1 u2 k' y') : k = k' ∧ (k = 0 → y = y') := by
  have nx (r : Nat) (hr : r < 8) : ¬ (n32 r < n32 0 ∨ (¬ n32 r < n32 0 ∧ ¬ n32 r < n32 8 ∧ n32 7 < n32 r)) := by
    rw [n32_lt (by omega) (by omega), n32_lt (by omega) (by omega), n32_lt (by omega) (by omega)]
    omega
  rcases h with ⟨h1, h2⟩ | ⟨r, h1, h2, h3⟩
  · rcases g with ⟨g1, g2⟩ | ⟨r', g1, g2, g3⟩
    · exact ⟨h2.trans g2.symm, fun z => by omega⟩
    · rw [g2] at h1
      exact absurd h1 (nx r' g1)
  · rcases g with ⟨g1, g2⟩ | ⟨r', g1, g2, g3⟩
    · rw [h2] at g1
      exact absurd g1 (nx r h1)
    · have rr : r = r' := by
        have := h2.symm.trans g2
        rw [n32_eq (by omega) (by omega)] at this
        exact this
      subst rr
      rcases h3 with ⟨h3, h4⟩ | ⟨h3, h4⟩
      · rcases g3 with ⟨g3, g4⟩ | ⟨g3, g4⟩
        · exact ⟨h4.trans g4.symm, fun z => by omega⟩
        · exact absurd g3 h3
      · rcases g3 with ⟨g3, g4⟩ | ⟨g3, g4⟩
        · exact absurd h3 g3
        · rcases h4 with ⟨h4, h5⟩ | ⟨w, h4, h5⟩
          · rcases g4 with ⟨g4, g5⟩ | ⟨w', g4, g5⟩
            · exact ⟨h5.trans g5.symm, fun z => by omega⟩
            · cases h4.symm.trans g4
          · rcases g4 with ⟨g4, g5⟩ | ⟨w', g4, g5⟩
            · cases h4.symm.trans g4
            · cases h4.symm.trans g4
              have ok := wf_ok hb h4
              rcases h5 with ⟨h5, h6⟩ | ⟨i, h5, h6, h7, h8⟩
              · rcases g5 with ⟨g5, g6⟩ | ⟨i', g5, g6, g7, R, g8, g9⟩
                · exact ⟨h6.trans g6.symm, fun z => by omega⟩
                · exact absurd g6 (h5 i' g5)
              · rcases g5 with ⟨g5, g6⟩ | ⟨i', g5, g6, g7, R, g8, g9⟩
                · exact absurd h6 (g5 i h5)
                · have ii : i = i' := by
                    have := h6.symm.trans g6
                    rw [n32_eq (by omega) (by omega)] at this
                    exact this
                  subst ii
                  exact ⟨h7.trans g7.symm, fun _ => (h8 R g8).trans g9.symm⟩
