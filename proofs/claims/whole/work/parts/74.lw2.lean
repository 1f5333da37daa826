-- The law's loop: each call on both sides.
def kD (S S' : ab_S) : Prop := (∀ c j, (c < 3 ∨ 116 < c) → S'.1 c j = S.1 c j) ∧ (∀ c j, c ≠ 13 → (c ≠ 102 ∨ j ≠ 0) → S'.2.2.1 c j = S.2.2.1 c j) ∧ S'.2.2.2.1 = S.2.2.2.1 ∧ S'.2.2.2.2.1 ≤ S.2.2.2.2.1 + 1 ∧ S'.2.2.2.2.2 ≤ S.2.2.2.2.2 + 6
theorem kD_C {S S' : ab_S} (h : kC S S') : kD S S' := ⟨h.1, h.2.2.1, h.2.2.2.1, h.2.2.2.2.1, h.2.2.2.2.2⟩
theorem kD_0 {S S' : ab_S} (h : k0 S S') : kD S S' := kD_C (k0_C h)
theorem kD_x {S S' : ab_S} (h : k0 S S') : kD S (ab_wx S') := kD_C (k0_x h)
theorem kD_wl {S S' : ab_S} (h : kD S S') (v : Int64) : kD S (ab_wl S' 147 0 v) := ⟨h.1, h.2.1, h.2.2.1, h.2.2.2.1, h.2.2.2.2⟩
theorem cSd_wl {q : Nat} {S : ab_S} {t : Nat → Nat} {tn : Nat} {b : Nat → Nat} {bn : Nat} {D : Nat → Bool} {L B : Nat → Nat} {ls : Nat → List alt} (h : cSd q S t tn b bn D L B ls) (v : Int64) : cSd q (ab_wl S 147 0 v) t tn b bn D L B ls := cSd_fr h (fun _ _ _ => rfl) (fun c j x => by rw [wl_rd, if_neg (by omega)]) rfl
theorem cSd_x {q : Nat} {S : ab_S} {t : Nat → Nat} {tn : Nat} {b : Nat → Nat} {bn : Nat} {D : Nat → Bool} {L B : Nat → Nat} {ls : Nat → List alt} (h : cSd q S t tn b bn D L B ls) : cSd q (ab_wx S) t tn b bn D L B ls := cSd_fr h (fun _ _ _ => rfl) (fun _ _ _ => rfl) rfl
theorem finl_ok : ∀ e, e ∈ ab_finl → e.1 ≠ 13 ∧ (e.1 ≠ 102 ∨ e.2.1 ≠ 0) := by decide +kernel
theorem inv_fr {S S' : ab_S} (h : ab_inv S = true) (g1 : S'.2.2.2.1 = S.2.2.2.1) (g2 : ∀ c j, c ≠ 13 → (c ≠ 102 ∨ j ≠ 0) → S'.2.2.1 c j = S.2.2.1 c j) : ab_inv S' = true := by
  unfold ab_inv at h ⊢
  rw [Bool.and_eq_true, List.all_eq_true] at h ⊢
  refine ⟨by rw [g1]; exact h.1, fun e he => ?_⟩
  have := finl_ok e he
  rw [g2 e.1 e.2.1 this.1 this.2]
  exact h.2 e he
theorem inv_D {S S' : ab_S} (h : ab_inv S = true) (g : kD S S') : ab_inv S' = true := inv_fr h g.2.2.1 g.2.1
theorem inv_R {S S' : ab_S} (h : ab_inv S = true) (g : kR S S') : ab_inv S' = true := inv_fr h (by rw [g.2.2]) (fun _ _ _ _ => by rw [g.2.2])
theorem inv_f {S : ab_S} (h : ab_inv S = true) : S.2.2.2.1 = 148 := by
  unfold ab_inv at h
  rw [Bool.and_eq_true] at h
  exact Nat.eq_of_beq_eq_true h.1
def Jp (q : Nat) (xs : Nat → Int32) (S : ab_S) (t : Nat → Nat) (tn : Nat) (b : Nat → Nat) (bn : Nat) (D : Nat → Bool) (L B : Nat → Nat) (ls : Nat → List alt) : Prop := pF t tn b bn L B ∧ cSd q S t tn b bn D L B ls ∧ rSd S t tn b bn D L B ls ∧ ab_inv S = true ∧ ∀ j, S.1 1 j = xs j
def J (q : Nat) (xs : Nat → Int32) (n : Nat) (S : ab_S) : Prop := (∃ t tn b bn D L B ls, Jp q xs S t tn b bn D L B ls) ∧ S.2.2.2.2.1 ≤ 1000 + n ∧ S.2.2.2.2.2 ≤ 100000 + 6 * n
def op (q : Nat) (xs : Nat → Int32) (n : Nat) (W : ab_R) (Rf : ab_S → ab_R) (V : Int32 → Int64) : Prop := ∃ y1 S1 y2 S2, W = some ((0, y1, 0, 0), S1) ∧ ab_inv S1 = true ∧ (∀ j, S1.1 1 j = xs j) ∧ Rf S1 = some ((0, y2, 0, 0), S2) ∧ J q xs (n + 1) S2 ∧ S2.1 117 0 = y1 ∧ (y1 = n32 0 → S2.2.1 147 0 = V y2)
theorem J_go {q : Nat} {xs : Nat → Int32} {n : Nat} {S S1 S2 : ab_S} {t : Nat → Nat} {tn : Nat} {b : Nat → Nat} {bn : Nat} {D : Nat → Bool} {L B : Nat → Nat} {ls : Nat → List alt} (hi : ab_inv S = true) (hx : ∀ j, S.1 1 j = xs j) (c1 : S.2.2.2.2.1 ≤ 1000 + n) (c2 : S.2.2.2.2.2 ≤ 100000 + 6 * n) (hp : pF t tn b bn L B) (kd : kD S S1) (hc : cSd q S1 t tn b bn D L B ls) (kr : kR S1 S2) (hr : rSd S2 t tn b bn D L B ls) : ab_inv S1 = true ∧ (∀ j, S1.1 1 j = xs j) ∧ J q xs (n + 1) S2 := by
  have i1 := inv_D hi kd
  refine ⟨i1, fun j => (kd.1 1 j (by omega)).trans (hx j), ⟨t, tn, b, bn, D, L, B, ls, hp, cSd_fr hc (fun c j x => kr.1 c j (by omega)) (fun c j x => kr.2.1 c j (by omega)) (by rw [kr.2.2]), hr, inv_R i1 kr, fun j => ((kr.1 1 j (by omega)).trans (kd.1 1 j (by omega))).trans (hx j)⟩, ?_, ?_⟩
  · rw [kr.2.2]
    have := kd.2.2.2.1
    omega
  · rw [kr.2.2]
    have := kd.2.2.2.2
    omega
theorem op_go {q : Nat} {xs : Nat → Int32} {n : Nat} {S S1 S2 : ab_S} {t : Nat → Nat} {tn : Nat} {b : Nat → Nat} {bn : Nat} {D : Nat → Bool} {L B : Nat → Nat} {ls : Nat → List alt} (hi : ab_inv S = true) (hx : ∀ j, S.1 1 j = xs j) (c1 : S.2.2.2.2.1 ≤ 1000 + n) (c2 : S.2.2.2.2.2 ≤ 100000 + 6 * n) (hp : pF t tn b bn L B) (kd : kD S S1) (hc : cSd q S1 t tn b bn D L B ls) (kr : kR S1 S2) (hr : rSd S2 t tn b bn D L B ls) {W : ab_R} {Rf : ab_S → ab_R} {V : Int32 → Int64} {y1 y2 : Int32} (hW : W = some ((0, y1, 0, 0), S1)) (hR : Rf S1 = some ((0, y2, 0, 0), S2)) (ht : S2.1 117 0 = y1) (hv : y1 = n32 0 → S1.2.1 147 0 = V y2) : op q xs n W Rf V := by
  have g := J_go hi hx c1 c2 hp kd hc kr hr
  exact ⟨y1, S1, y2, S2, hW, g.1, g.2.1, hR, g.2.2, ht, fun z => (kr.2.1 147 0 (by omega)).trans (hv z)⟩
def bV (y : Int32) : Int64 := if y = n32 0 then n64 0 else n64 1
theorem bV_b (x : Bool) : n64 x.toNat = bV (n32 x.toNat) := by cases x <;> rfl
theorem rS1 {S S1 : ab_S} {t : Nat → Nat} {tn : Nat} {b : Nat → Nat} {bn : Nat} {D : Nat → Bool} {L B : Nat → Nat} {ls : Nat → List alt} (h : rSd S t tn b bn D L B ls) (k : kD S S1) : rSd S1 t tn b bn D L B ls := rSd_fr h (fun c j x => k.1 c j (Or.inr x))
theorem i_tw {α : Type} (x : Bool) (f : Int64 → α) : (if n32 x.toNat = n32 0 then f (n64 0) else f (n64 1)) = f (n64 x.toNat) := by cases x <;> rfl
theorem w121 {q d : Nat} {u : Int32} {S S1 : ab_S} {x : Bool} (h : v_1_0 q (d + 199) u S = some ((0, n32 x.toNat, 0, 0), S1)) : v_121_0 q (d + 200) u S = some ((0, n32 0, 0, 0), ab_wl S1 147 0 (n64 x.toNat)) := by
  rw [e_121_0, h, cIh_0, e_121_15, e_121_15]
  cases x <;> rfl
theorem w123 {q d : Nat} {u : Int32} {S S1 : ab_S} {x : Bool} (h : v_3_0 q (d + 199) u S = some ((0, n32 x.toNat, 0, 0), S1)) : v_123_0 q (d + 200) u S = some ((0, n32 0, 0, 0), ab_wl S1 147 0 (n64 x.toNat)) := by
  rw [e_123_0, h, cIh_0, e_123_15, e_123_15]
  cases x <;> rfl
theorem w129 {q d : Nat} {u : Int32} {S S1 : ab_S} {x : Bool} (h : v_11_0 q (d + 199) u S = some ((0, n32 x.toNat, 0, 0), S1)) : v_129_0 q (d + 200) u S = some ((0, n32 0, 0, 0), ab_wl S1 147 0 (n64 x.toNat)) := by
  rw [e_129_0, h, cIh_0, e_129_15, e_129_15]
  cases x <;> rfl
theorem w130 {q d : Nat} {u w : Int32} {S S1 : ab_S} {x : Bool} (h : v_12_0 q (d + 199) u w S = some ((0, n32 x.toNat, 0, 0), S1)) : v_130_0 q (d + 200) u w S = some ((0, n32 0, 0, 0), ab_wl S1 147 0 (n64 x.toNat)) := by
  rw [e_130_0, h, cIh_0, e_130_16, e_130_16]
  cases x <;> rfl
/-- type -/
theorem op0 (q d : Nat) {xs : Nat → Int32} {n : Nat} {S : ab_S} (hJ : J q xs n S) (u : Int32) : op q xs n (v_121_0 q (d + 200) u S) (fun S => v_75_0 q (d + 200) u S) bV := by
  obtain ⟨⟨t, tn, b, bn, D, L, B, ls, hp, hc, hr, hi, hx⟩, c1, c2⟩ := hJ
  obtain ⟨a1, a2⟩ := cty_v q (d + 197) u hp.1.1 hc.1
  cases hcn : cin u 4 0 with
  | none =>
    have kd : kD S (ab_wx S) := kD_x (k0_rf S)
    obtain ⟨S2, g1, g2, g3, g4⟩ := (rty_v q (d + 200) u hp.1.1 (rS1 hr kd).1).1 hcn
    have r1 := rS1 hr kd
    refine op_go hi hx c1 c2 hp kd (cSd_x hc) (kR_gT g1) ⟨g3, rB_fr r1.2.1 (g1.2.2 4 (by omega) (by omega)) (fun j => g1.2.1 119 j (by omega) (by omega)), rG_fr r1.2.2 (fun c j _ => g1.2.1 c j (by omega) (by omega))⟩ (y1 := n32 1) ?_ g4 g2 (fun z => absurd z one_z)
    rw [e_121_0, a1 hcn, cIh_x (by decide)]
    rfl
  | some m =>
    obtain ⟨a3, a4⟩ := a2 m hcn
    by_cases g : 40 < tn + m
    · have w := w121 (x := false) (a3 g)
      have kd : kD S (ab_wl S 147 0 (n64 (false).toNat)) := kD_wl (kD_0 (k0_rf S)) _
      have r1 := rS1 hr kd
      obtain ⟨S2, g1, g2, g3, g4⟩ := ((rty_v q (d + 200) u hp.1.1 r1.1).2 m hcn).1 g
      exact op_go hi hx c1 c2 hp kd (cSd_wl hc _) (kR_gT g1) ⟨g3, rB_fr r1.2.1 (g1.2.2 4 (by omega) (by omega)) (fun j => g1.2.1 119 j (by omega) (by omega)), rG_fr r1.2.2 (fun c j _ => g1.2.1 c j (by omega) (by omega))⟩ w g4 g2 (fun _ => rfl)
    · obtain ⟨Sc, f1, f2, f3⟩ := a4 (by omega)
      have w := w121 (x := true) f3
      have kd : kD S (ab_wl Sc 147 0 (n64 (true).toNat)) := kD_wl (kD_0 (k0_fT f1)) _
      have r1 := rS1 hr kd
      obtain ⟨S2, g1, g2, g3, g4⟩ := ((rty_v q (d + 200) u hp.1.1 r1.1).2 m hcn).2 (by omega)
      have cs : cSd q Sc (app t tn (bf u)) (tn + m) b bn D L B ls := ⟨f2, cB_fr hc.2.1 (fun c j _ _ => f1.2 c j (by omega) (by omega)) (fun c j _ _ => by rw [f1.1]), cG_f2 hc.2.2.1 (by rw [f1.1]) (fun c j _ _ => f1.2 c j (by omega) (by omega)), fun j hj => by rw [f1.1]; exact hc.2.2.2 j hj⟩
      have tk : tok (app t tn (bf u)) (tn + m) := ⟨by omega, fun i hi => by
        unfold app
        by_cases z : i < tn
        · rw [if_pos z]
          exact hp.1.2 i z
        · rw [if_neg z]
          have := cin_pr u 4 0 m hcn (i - tn) (by omega) (by omega)
          unfold pr at this
          simp only [Bool.and_eq_true, decide_eq_true_eq] at this
          omega⟩
      exact op_go hi hx c1 c2 ⟨tk, hp.2⟩ kd (cSd_wl cs _) (kR_gT g1) ⟨g3, rB_fr r1.2.1 (g1.2.2 4 (by omega) (by omega)) (fun j => g1.2.1 119 j (by omega) (by omega)), rG_fr r1.2.2 (fun c j _ => g1.2.1 c j (by omega) (by omega))⟩ w g4 g2 (fun _ => rfl)
theorem w122 {q d : Nat} {u : Int32} {S S1 : ab_S} {y : Int32} (h : v_2_0 q (d + 199) u S = some ((0, y, 0, 0), S1)) : v_122_0 q (d + 200) u S = some ((0, n32 0, 0, 0), ab_wl S1 147 0 y.toInt64) := by
  rw [e_122_0, h, cIh_0]
theorem cS_cfr {q : Nat} {S S1 : ab_S} {t : Nat → Nat} {tn : Nat} {b : Nat → Nat} {bn : Nat} {D D' : Nat → Bool} {L B L' B' : Nat → Nat} {ls ls' : Nat → List alt} (h : cSd q S t tn b bn D L B ls) (f : cfr S S1) (hz : S1.1 3 1 = n32 0) (hG : cG q S1 D' L' B' ls') (t' : Nat → Nat) : cSd q S1 t' 0 b bn D' L' B' ls' := ⟨⟨hz, fun i hi => absurd hi (Nat.not_lt_zero _)⟩, cB_fr h.2.1 (fun c j _ _ => f.1 c j (by omega)) (fun c j _ _ => by rw [f.2.1]), hG, fun j hj => by rw [f.2.1]; exact h.2.2.2 j hj⟩
def tz (t : Nat → Nat) (tn : Nat) : Nat → Nat := fun j => if j < tn then t j else 0
theorem tz_l (t : Nat → Nat) {tn j : Nat} (h : j < tn) : tz t tn j = t j := if_pos h
theorem tz_z (t : Nat → Nat) {tn j : Nat} (h : tn ≤ j) : tz t tn j = 0 := if_neg (by omega)
/-- rule -/
theorem op1 (q d : Nat) {xs : Nat → Int32} {n : Nat} {S : ab_S} (hJ : J q xs n S) (u : Int32) : op q xs n (v_122_0 q (d + 200) u S) (fun S => v_96_0 q (d + 200) u S) Int32.toInt64 := by
  obtain ⟨⟨t, tn, b, bn, D, L, B, ls, hp, hc, hr, hi, hx⟩, c1, c2⟩ := hJ
  have p0 : pF t 0 b bn L B := ⟨⟨by omega, fun i hi => absurd hi (Nat.not_lt_zero _)⟩, hp.2⟩
  rcases ix_r u with ⟨r, hr8, rfl⟩ | ⟨_, hu⟩
  · have tk : tok (tz t tn) tn := ⟨hp.1.1, fun i hi => by rw [tz_l t hi]; exact hp.1.2 i hi⟩
    have hT : cT (tz t tn) tn S := ⟨hc.1.1, fun i hi => by rw [hc.1.2 i hi, tz_l t hi]⟩
    obtain ⟨a1, a2⟩ := cru_v (q := q) tk hT hc.2.2.1 (by omega : 25 ≤ d + 199) hr8
    have rf (S1 : ab_S) (k : kD S S1) := rru_v q (d + 194) tk (fun j hj => tz_z t hj) (show rT (tz t tn) tn S1 from ⟨(rS1 hr k).1.1, fun i hi => by rw [(rS1 hr k).1.2 i hi, tz_l t hi]⟩) (rS1 hr k).2.2 hr8
    cases hpar : par (tz t tn) tn with
    | none =>
      obtain ⟨Sc, b1, b2, b3, b4⟩ := a1 hpar
      have kd : kD S (ab_wx Sc) := kD_x (k0_cfr b2)
      obtain ⟨S2, e1, e2, e3, e4, e5⟩ := (rf _ kd).1 hpar
      have r1 := rS1 hr kd
      refine op_go hi hx c1 c2 p0 kd (cSd_x (cS_cfr hc b2 b3 b4 t)) ⟨fun c j x => e2.2.1 c j (Or.inl x), fun c j x => by rw [e2.1], by rw [e2.1]⟩ ⟨⟨e4, fun i hi => absurd hi (Nat.not_lt_zero _)⟩, rB_fr r1.2.1 (e2.2.2 4 (by omega) (by omega)) (fun j => e2.2.1 119 j (by omega)), e5⟩ (y1 := n32 2) ?_ e1 e3 (fun z => absurd z (by decide))
      rw [e_122_0, b1, cIh_x (by decide)]
      rfl
    | some y =>
      obtain ⟨b1, b2, b3, Sc, d1, d2, d3, d4⟩ := a2 y hpar
      have w := w122 d1
      have kd : kD S (ab_wl Sc 147 0 (n32 y.1.length).toInt64) := kD_wl (kD_0 (k0_cfr d2)) _
      obtain ⟨S2, e1, e2, e3, e4, e5⟩ := (rf _ kd).2 y hpar
      have r1 := rS1 hr kd
      have p1 : pF t 0 b bn (up1 L r y.2.1) (up1 B r y.2.2) := ⟨p0.1, hp.2.1, hp.2.2.1, fun i hi => by
        by_cases z : i = r
        · rw [z, up1_s]; exact b1
        · rw [up1_o _ _ z]; exact hp.2.2.2.1 i hi, fun i hi => by
        by_cases z : i = r
        · rw [z, up1_s]; exact b2
        · rw [up1_o _ _ z]; exact hp.2.2.2.2 i hi⟩
      exact op_go hi hx c1 c2 p1 kd (cSd_wl (cS_cfr hc d2 d3 d4 t) _) ⟨fun c j x => e2.2.1 c j (Or.inl x), fun c j x => by rw [e2.1], by rw [e2.1]⟩ ⟨⟨e4, fun i hi => absurd hi (Nat.not_lt_zero _)⟩, rB_fr r1.2.1 (e2.2.2 4 (by omega) (by omega)) (fun j => e2.2.1 119 j (by omega)), e5⟩ w e1 e3 (fun _ => rfl)
  · have kd : kD S (ab_wx (ab_wi S 3 1 (n32 0))) := kD_x ⟨fun c j x => by rw [wi_rd, if_neg (by omega)], fun _ _ _ => rfl, fun _ _ _ _ => rfl, rfl⟩
    have r1 := rS1 hr kd
    have e1 := rru_x q (d + 199) hu (ab_wx (ab_wi S 3 1 (n32 0)))
    have cs : cSd q (ab_wx (ab_wi S 3 1 (n32 0))) t 0 b bn D L B ls := cSd_x ⟨⟨rfl, fun i hi => absurd hi (Nat.not_lt_zero _)⟩, cB_fr hc.2.1 (fun c j _ _ => by rw [wi_rd, if_neg (by omega)]) (fun _ _ _ _ => rfl), cG_f2 hc.2.2.1 rfl (fun c j _ _ => by rw [wi_rd, if_neg (by omega)]), hc.2.2.2⟩
    have r2 := rSd_0 r1 (n32 1)
    refine op_go hi hx c1 c2 p0 kd cs (kR_tr (kR_wi (c := 117) _ (by omega) (by omega) 0 (n32 1)) (kR_wi (c := 117) _ (by omega) (by omega) 2 (n32 0))) ⟨⟨rfl, fun i hi => absurd hi (Nat.not_lt_zero _)⟩, ⟨r2.2.1.1, r2.2.1.2⟩, rG_fr r2.2.2 (fun c j _ => by rw [wi_rd, if_neg (by omega)])⟩ (y1 := n32 1) ?_ e1 rfl (fun z => absurd z one_z)
    rw [e_122_0, cru_x q (d + 197) hu, cIh_x (by decide)]
    rfl
