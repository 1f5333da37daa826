-- The law's loop: the other calls.
/-- forget -/
theorem op2 (q d : Nat) {xs : Nat → Int32} {n : Nat} {S : ab_S} (hJ : J q xs n S) (u : Int32) : op q xs n (v_123_0 q (d + 200) u S) (fun S => v_97_0 q (d + 200) u S) bV := by
  obtain ⟨⟨t, tn, b, bn, D, L, B, ls, hp, hc, hr, hi, hx⟩, c1, c2⟩ := hJ
  rcases ix_r u with ⟨r, hr8, rfl⟩ | ⟨_, hu⟩
  · obtain ⟨Sc, a1, a2, a3, a4⟩ := cfo_v (q := q) (d := d + 197) hc.2.2.1 hr8
    have w := w123 a1
    have kd : kD S (ab_wl Sc 147 0 (n64 (D r).toNat)) := kD_wl (kD_0 (k0_cfr a2)) _
    have r1 := rS1 hr kd
    obtain ⟨e1, e2⟩ := rfo_v q (d + 200) r1.2.2 hr8
    have cs : cSd q Sc t tn b bn (up1 D r false) (up1 L r 0) (up1 B r 0) ls := ⟨cT_fr hc.1 (fun c j x => by
      rcases x with ⟨rfl, rfl⟩ | rfl
      · exact a3
      · exact a2.1 4 j (by omega)), cB_fr hc.2.1 (fun c j _ _ => a2.1 c j (by omega)) (fun c j _ _ => by rw [a2.2.1]), a4, fun j hj => by rw [a2.2.1]; exact hc.2.2.2 j hj⟩
    have p1 : pF t tn b bn (up1 L r 0) (up1 B r 0) := ⟨hp.1, hp.2.1, hp.2.2.1, fun i hi => by
      by_cases z : i = r
      · rw [z, up1_s]; omega
      · rw [up1_o _ _ z]; exact hp.2.2.2.1 i hi, fun i hi => by
      by_cases z : i = r
      · rw [z, up1_s]; omega
      · rw [up1_o _ _ z]; exact hp.2.2.2.2 i hi⟩
    exact op_go hi hx c1 c2 p1 kd (cSd_wl cs _) (kR_tr (kR_wi (c := 117) _ (by omega) (by omega) 0 (n32 0)) (kR_wi (c := 120) _ (by omega) (by omega) r (n32 0))) ⟨⟨r1.1.1, r1.1.2⟩, ⟨r1.2.1.1, r1.2.1.2⟩, e2⟩ w e1 rfl (fun _ => bV_b (D r))
  · have kd : kD S (ab_wx S) := kD_x (k0_rf S)
    have r1 := rS1 hr kd
    refine op_go hi hx c1 c2 hp kd (cSd_x hc) (kR_wi (c := 117) _ (by omega) (by omega) 0 (n32 1)) (rSd_0 r1 _) (y1 := n32 1) ?_ (rfo_x q (d + 200) hu _) rfl (fun z => absurd z one_z)
    rw [e_123_0, cfo_x q (d + 197) hu, cIh_x (by decide)]
    rfl
/-- feed and wipe: no exception -/
theorem op3 (q d : Nat) {xs : Nat → Int32} {n : Nat} {S : ab_S} (hJ : J q xs n S) (w : Int64) (u : Int32) : ∃ y S1 S2, v_4_0 q (d + 200) w u S = some ((0, y, 0, 0), S1) ∧ ab_inv S1 = true ∧ (∀ j, S1.1 1 j = xs j) ∧ v_76_0 q (d + 200) w u S1 = some ((0, y, 0, 0), S2) ∧ J q xs (n + 1) S2 := by
  obtain ⟨⟨t, tn, b, bn, D, L, B, ls, hp, hc, hr, hi, hx⟩, c1, c2⟩ := hJ
  obtain ⟨o, ho⟩ := fdn_ex bn u
  obtain ⟨a1, a2⟩ := cfd_v q (d + 198) w u hp.2.1 hc.2.1 ho
  cases o with
  | none =>
    have kd : kD S S := kD_0 (k0_rf S)
    obtain ⟨S2, g1, g2, g3⟩ := (rfd_v q (d + 200) w u hp.2.1 hr.2.1 ho).1 rfl
    have g := J_go hi hx c1 c2 hp kd hc (kR_gF g1) (show rSd S2 t tn b bn D L B ls from ⟨rT_fr hr.1 (g1.2.2 2 (by omega) (by omega)) (fun j => g1.2.1 118 j (by omega) (by omega)), g2, rG_fr hr.2.2 (fun c j _ => g1.2.1 c j (by omega) (by omega))⟩)
    exact ⟨_, S, S2, a1 rfl, g.1, g.2.1, g3, g.2.2⟩
  | some m =>
    obtain ⟨Sc, f1, f2, f3⟩ := a2 m rfl
    have kd : kD S Sc := kD_0 (k0_fF f1)
    have r1 := rS1 hr kd
    obtain ⟨S2, g1, g2, g3⟩ := (rfd_v q (d + 200) w u hp.2.1 r1.2.1 ho).2 m rfl
    have b40 : bn + m ≤ 40 := by
      rcases ho with ⟨h, _⟩ | ⟨m', h, _, _, _, h4⟩
      · cases h
      · cases h; exact h4
    have p1 : pF t tn (app b bn (bt w)) (bn + m) L B := ⟨hp.1, b40, fun i hi => by
      unfold app
      by_cases z : i < bn
      · rw [if_pos z]; exact hp.2.2.1 i z
      · rw [if_neg z]; exact bt_lt w _, hp.2.2.2⟩
    have cs : cSd q Sc t tn (app b bn (bt w)) (bn + m) D L B ls := ⟨cT_fr hc.1 (fun c j x => f1.2 c j (by omega) (by omega)), f2, cG_f2 hc.2.2.1 (by rw [f1.1]) (fun c j _ _ => f1.2 c j (by omega) (by omega)), fun j hj => by rw [f1.1]; exact hc.2.2.2 j hj⟩
    have g := J_go hi hx c1 c2 p1 kd cs (kR_gF g1) (show rSd S2 t tn (app b bn (bt w)) (bn + m) D L B ls from ⟨rT_fr r1.1 (g1.2.2 2 (by omega) (by omega)) (fun j => g1.2.1 118 j (by omega) (by omega)), g2, rG_fr r1.2.2 (fun c j _ => g1.2.1 c j (by omega) (by omega))⟩)
    exact ⟨_, Sc, S2, f3, g.1, g.2.1, g3, g.2.2⟩
theorem op4 (q d : Nat) {xs : Nat → Int32} {n : Nat} {S : ab_S} (hJ : J q xs n S) : ∃ y S1 S2, v_5_0 q (d + 200) S = some ((0, y, 0, 0), S1) ∧ ab_inv S1 = true ∧ (∀ j, S1.1 1 j = xs j) ∧ v_77_0 q (d + 200) S1 = some ((0, y, 0, 0), S2) ∧ J q xs (n + 1) S2 := by
  obtain ⟨⟨t, tn, b, bn, D, L, B, ls, hp, hc, hr, hi, hx⟩, c1, c2⟩ := hJ
  obtain ⟨Sc, f1, f2, f3⟩ := cwp_v q (d + 199) hc.2.1
  have kd : kD S Sc := kD_0 (k0_fF f1)
  have r1 := rS1 hr kd
  obtain ⟨S2, g1, g2, g3⟩ := rwp_v q (d + 200) r1.2.1
  have p1 : pF t tn b 0 L B := ⟨hp.1, by omega, fun i hi => absurd hi (Nat.not_lt_zero _), hp.2.2.2⟩
  have cs : cSd q Sc t tn b 0 D L B ls := ⟨cT_fr hc.1 (fun c j x => f1.2 c j (by omega) (by omega)), f2, cG_f2 hc.2.2.1 (by rw [f1.1]) (fun c j _ _ => f1.2 c j (by omega) (by omega)), fun j hj => by rw [f1.1]; exact hc.2.2.2 j hj⟩
  have g := J_go hi hx c1 c2 p1 kd cs (kR_gF g1) (show rSd S2 t tn b 0 D L B ls from ⟨rT_fr r1.1 (g1.2.2 2 (by omega) (by omega)) (fun j => g1.2.1 118 j (by omega) (by omega)), g2, rG_fr r1.2.2 (fun c j _ => g1.2.1 c j (by omega) (by omega))⟩)
  exact ⟨_, Sc, S2, f3, g.1, g.2.1, g3, g.2.2⟩
/-- items -/
theorem op5 (q d : Nat) {xs : Nat → Int32} {n : Nat} {S : ab_S} (hJ : J q xs n S) : op q xs n (v_124_0 q (d + 200) S) (fun S => v_105_0 q (d + 200) S) Int32.toInt64 := by
  obtain ⟨⟨t, tn, b, bn, D, L, B, ls, hp, hc, hr, hi, hx⟩, c1, c2⟩ := hJ
  obtain ⟨Sc, f1, f2, ⟨w1, e1⟩ | ⟨w, w1, e1⟩⟩ := cit_v hp.2.1 hp.2.2.1 q (by omega : 23 ≤ d + 199) hc.2.1
  · have kd : kD S (ab_wx Sc) := kD_x (k0_fB f1)
    have r1 := rS1 hr kd
    obtain ⟨S2, g1, ⟨g2, g3, g4⟩ | ⟨w', g2, g3, g4⟩⟩ := rit_v hp.2.1 hp.2.2.1 q (d + 198) r1.2.1
    · refine op_go hi hx c1 c2 hp kd (cSd_x (cmB hc f1 f2)) (kR_fR' g1) (rSd_fR' r1 g1) (y1 := n32 1) ?_ g4 g3 (fun z => absurd z one_z)
      rw [e_124_0, e1, cIh_x (by decide)]
      rfl
    · cases w1.symm.trans g2
  · have kd : kD S (ab_wl Sc 147 0 (n32 w.1).toInt64) := kD_wl (kD_0 (k0_fB f1)) _
    have r1 := rS1 hr kd
    obtain ⟨S2, g1, ⟨g2, g3, g4⟩ | ⟨w', g2, g3, g4⟩⟩ := rit_v hp.2.1 hp.2.2.1 q (d + 198) r1.2.1
    · cases w1.symm.trans g2
    · cases w1.symm.trans g2
      refine op_go hi hx c1 c2 hp kd (cSd_wl (cmB hc f1 f2) _) (kR_fR' g1) (rSd_fR' r1 g1) (y1 := n32 0) ?_ g4 g3 (fun _ => rfl)
      rw [e_124_0, e1, cIh_0]
/-- major, number, depth -/
theorem op678 (q d : Nat) {xs : Nat → Int32} {n : Nat} {S : ab_S} (hJ : J q xs n S) (u : Int32) : op q xs n (v_125_0 q (d + 200) u S) (fun S => v_107_0 q (d + 200) u S) Int32.toInt64 ∧ op q xs n (v_127_0 q (d + 200) u S) (fun S => v_109_0 q (d + 200) u S) Int32.toInt64 ∧ ∃ y1 S1 y2 S2, v_126_0 q (d + 200) u S = some ((0, y1, 0, 0), S1) ∧ ab_inv S1 = true ∧ (∀ j, S1.1 1 j = xs j) ∧ v_108_0 q (d + 200) u S1 = some ((0, 0, y2, 0), S2) ∧ J q xs (n + 1) S2 ∧ S2.1 117 0 = y1 ∧ (y1 = n32 0 → S2.2.1 147 0 = y2) := by
  obtain ⟨⟨t, tn, b, bn, D, L, B, ls, hp, hc, hr, hi, hx⟩, c1, c2⟩ := hJ
  obtain ⟨Sc, tt, o, f1, f2, f3, f4, f5⟩ := cmj_v hp.2.1 hp.2.2.1 q (by omega : 24 ≤ d + 199) hc.2.1 u
  cases o with
  | none =>
    obtain ⟨t1, t2, e1, e2, e3⟩ := f5 rfl
    have kd : kD S (ab_wx Sc) := kD_x (k0_fB f1)
    have r1 := rS1 hr kd
    obtain ⟨S2, tt', o', g1, g2, g3, g4, g5, g6⟩ := rmj_v hp.2.1 hp.2.2.1 q (d + 197) r1.2.1 u
    obtain ⟨u1, u2⟩ := aIt_un hp.2.2.1 f3 g2
    subst u1
    subst u2
    have nz : ¬ n32 tt = n32 0 := by
      rw [n32_eq (by omega) (by omega)]
      omega
    have th (k : Nat) (hk : k = 125 ∨ k = 126 ∨ k = 127) : ab_th k ((tt, 0, 0, 0), ab_wx Sc) = some ((0, n32 tt, 0, 0), ab_wx Sc) := by
      rcases (by omega : tt = 1 ∨ tt = 2) with z | z <;> subst z <;> rcases hk with k | k | k <;> subst k <;> rfl
    have jg := J_go hi hx c1 c2 hp kd (cSd_x (cmB hc f1 f2)) (kR_fR' g1) (rSd_fR' r1 g1)
    refine ⟨⟨n32 tt, _, _, S2, ?_, jg.1, jg.2.1, g4, jg.2.2, g3, fun z => absurd z nz⟩, ⟨n32 tt, _, _, S2, ?_, jg.1, jg.2.1, g6, jg.2.2, g3, fun z => absurd z nz⟩, n32 tt, _, _, S2, ?_, jg.1, jg.2.1, g5, jg.2.2, g3, fun z => absurd z nz⟩
    · rw [e_125_0, e1, cIh_x (by omega), th _ (Or.inl rfl)]
    · rw [e_127_0, e3, cIh_x (by omega), th _ (Or.inr (Or.inr rfl))]
    · rw [e_126_0, e2, cLh_x (by omega), th _ (Or.inr (Or.inl rfl))]
  | some x =>
    obtain ⟨t1, e1, e2, e3⟩ := f4 x rfl
    subst t1
    have fin (v : Int64) : ∃ S2, ab_inv (ab_wl Sc 147 0 v) = true ∧ (∀ j, (ab_wl Sc 147 0 v).1 1 j = xs j) ∧ J q xs (n + 1) S2 ∧ S2.1 117 0 = n32 0 ∧ S2.2.1 147 0 = v ∧ v_107_0 q (d + 200) u (ab_wl Sc 147 0 v) = some ((0, n32 (x.1.2 0 x.2), 0, 0), S2) ∧ v_108_0 q (d + 200) u (ab_wl Sc 147 0 v) = some ((0, 0, n64 (x.1.2 1 x.2), 0), S2) ∧ v_109_0 q (d + 200) u (ab_wl Sc 147 0 v) = some ((0, n32 (x.1.2 2 x.2), 0, 0), S2) := by
      have kd : kD S (ab_wl Sc 147 0 v) := kD_wl (kD_0 (k0_fB f1)) _
      have r1 := rS1 hr kd
      obtain ⟨S2, tt', o', g1, g2, g3, g4, g5, g6⟩ := rmj_v hp.2.1 hp.2.2.1 q (d + 197) r1.2.1 u
      obtain ⟨u1, u2⟩ := aIt_un hp.2.2.1 f3 g2
      subst u1
      subst u2
      have jg := J_go hi hx c1 c2 hp kd (cSd_wl (cmB hc f1 f2) _) (kR_fR' g1) (rSd_fR' r1 g1)
      exact ⟨S2, jg.1, jg.2.1, jg.2.2, g3, (kR_fR' g1).2.1 147 0 (by omega), g4, g5, g6⟩
    obtain ⟨S2, j1, j2, j3, j4, j5, j6, _, _⟩ := fin (n32 (x.1.2 0 x.2)).toInt64
    obtain ⟨S3, k1, k2, k3, k4, k5, _, _, k6⟩ := fin (n32 (x.1.2 2 x.2)).toInt64
    obtain ⟨S4, l1, l2, l3, l4, l5, _, l6, _⟩ := fin (n64 (x.1.2 1 x.2))
    refine ⟨⟨n32 0, _, _, S2, ?_, j1, j2, j6, j3, j4, fun _ => j5⟩, ⟨n32 0, _, _, S3, ?_, k1, k2, k6, k3, k4, fun _ => k5⟩, n32 0, _, _, S4, ?_, l1, l2, l6, l3, l4, fun _ => l5⟩
    · rw [e_125_0, e1, cIh_0]
    · rw [e_127_0, e3, cIh_0]
    · rw [e_126_0, e2, cLh_0]
/-- check -/
theorem op9 (q d : Nat) {xs : Nat → Int32} {n : Nat} {S : ab_S} (hJ : J q xs n S) (u : Int32) : op q xs n (v_128_0 q (d + 200) u S) (fun S => v_100_0 q (d + 200) u S) Int32.toInt64 := by
  obtain ⟨⟨t, tn, b, bn, D, L, B, ls, hp, hc, hr, hi, hx⟩, c1, c2⟩ := hJ
  rcases ix_r u with ⟨r, hr8, rfl⟩ | ⟨_, hu⟩
  · have s3 := snd_3 D L B r
    have ck := cck_v q (d + 194) hc.2.2.1.1 hp.2.2.2.1 hp.2.2.2.2 hr8
    by_cases e : snd D L B r = 0
    · rw [if_pos e] at ck
      have kd : kD S (ab_wl S 147 0 (n32 (cd (cl L (2 ^ r)))).toInt64) := kD_wl (kD_0 (k0_rf S)) _
      have r1 := rS1 hr kd
      have rk := rck_v q (d + 198) r1.2.2.1 hp.2.2.2.1 hp.2.2.2.2 hr8
      rw [if_pos e] at rk
      refine op_go hi hx c1 c2 hp kd (cSd_wl hc _) (kR_wi (c := 117) _ (by omega) (by omega) 0 _) (rSd_0 r1 _) (y1 := n32 0) ?_ rk (by rw [wi_rd, if_pos ⟨rfl, rfl⟩, e]) (fun _ => rfl)
      rw [e_128_0, ck, cIh_0]
    · rw [if_neg e] at ck
      have kd : kD S (ab_wx S) := kD_x (k0_rf S)
      have r1 := rS1 hr kd
      have rk := rck_v q (d + 198) r1.2.2.1 hp.2.2.2.1 hp.2.2.2.2 hr8
      rw [if_neg e] at rk
      have nz : ¬ n32 (snd D L B r) = n32 0 := by
        rw [n32_eq (by omega) (by omega)]
        omega
      refine op_go hi hx c1 c2 hp kd (cSd_x hc) (kR_wi (c := 117) _ (by omega) (by omega) 0 _) (rSd_0 r1 _) (y1 := n32 (snd D L B r)) ?_ rk (by rw [wi_rd, if_pos ⟨rfl, rfl⟩]) (fun z => absurd z nz)
      rw [e_128_0, ck, cIh_x (by omega)]
      revert e s3
      generalize snd D L B r = k
      intro s3 e
      rcases (by omega : k = 1 ∨ k = 2 ∨ k = 3) with z | z | z <;> subst z <;> rfl
  · have kd : kD S (ab_wx S) := kD_x (k0_rf S)
    have r1 := rS1 hr kd
    refine op_go hi hx c1 c2 hp kd (cSd_x hc) (kR_wi (c := 117) _ (by omega) (by omega) 0 (n32 1)) (rSd_0 r1 _) (y1 := n32 1) ?_ (rck_x q (d + 198) hu _) rfl (fun z => absurd z one_z)
    rw [e_128_0, cck_x q (d + 196) hu, cIh_x (by decide)]
    rfl
theorem th_m {k : Nat} (h0 : k ≠ 0) (h4 : k ≤ 4) {m : Nat} (hm : m = 129 ∨ m = 130) (S : ab_S) : ab_th m ((xk k, 0, 0, 0), S) = some ((0, n32 k, 0, 0), S) := by
  rcases (by omega : k = 1 ∨ k = 2 ∨ k = 3 ∨ k = 4) with z | z | z | z <;> subst z <;> rcases hm with m | m <;> subst m <;> rfl
theorem xk_0 (k : Nat) : xk k ≠ 0 := by
  unfold xk
  split <;> omega
/-- matches -/
theorem op10 (q d : Nat) {xs : Nat → Int32} {n : Nat} {S : ab_S} (hJ : J q xs n S) (u : Int32) : op q xs n (v_129_0 q (d + 200) u S) (fun S => v_119_0 q (d + 200) u S) bV := by
  obtain ⟨⟨t, tn, b, bn, D, L, B, ls, hp, hc, hr, hi, hx⟩, c1, c2⟩ := hJ
  obtain ⟨Sc, k, y, k4, a1, a2, a3, a4⟩ := cma_v q (d + 108) hp hc hr u
  by_cases z : k = 0
  · rw [if_pos z] at a4
    have w := w129 a4
    have kd : kD S (ab_wl Sc 147 0 (n64 y.toNat)) := kD_wl (kD_0 a1) _
    have r1 := rS1 hr kd
    obtain ⟨S2, k', y', y2, b1, b2, b3, b4, b5, b6, b7⟩ := rma_v q (d + 195) hp r1 u
    obtain ⟨u1, u2⟩ := mO_un hp.2.2.1 a3 b5
    subst u1
    refine op_go hi hx c1 c2 hp kd (cSd_wl a2 _) b2 b3 w b6 (by rw [b4, z]) (fun _ => ?_)
    rw [b7 z, ← u2 z]
    exact bV_b y
  · rw [if_neg z] at a4
    have kd : kD S (ab_wx Sc) := kD_x a1
    have r1 := rS1 hr kd
    obtain ⟨S2, k', y', y2, b1, b2, b3, b4, b5, b6, b7⟩ := rma_v q (d + 195) hp r1 u
    obtain ⟨u1, u2⟩ := mO_un hp.2.2.1 a3 b5
    subst u1
    refine op_go hi hx c1 c2 hp kd (cSd_x a2) b2 b3 (y1 := n32 k) ?_ b6 b4 (fun w => ?_)
    · rw [e_129_0, a4, cIh_x (xk_0 k), th_m z k4 (Or.inl rfl)]
    · rw [n32_eq (by omega) (by omega)] at w
      exact absurd w z
/-- matchesAt -/
theorem op11 (q d : Nat) {xs : Nat → Int32} {n : Nat} {S : ab_S} (hJ : J q xs n S) (u v : Int32) : op q xs n (v_130_0 q (d + 200) u v S) (fun S => v_120_0 q (d + 200) u v S) bV := by
  obtain ⟨⟨t, tn, b, bn, D, L, B, ls, hp, hc, hr, hi, hx⟩, c1, c2⟩ := hJ
  obtain ⟨Sc, k, y, k4, a1, a2, a3, a4⟩ := cmt_v q (d + 108) hp hc hr u v
  by_cases z : k = 0
  · rw [if_pos z] at a4
    have w := w130 a4
    have kd : kD S (ab_wl Sc 147 0 (n64 y.toNat)) := kD_wl (kD_0 a1) _
    have r1 := rS1 hr kd
    obtain ⟨S2, k', y', y2, b1, b2, b3, b4, b5, b6, b7⟩ := rmt_v q (d + 195) hp r1 u v
    obtain ⟨u1, u2⟩ := mO_un hp.2.2.1 a3 b5
    subst u1
    refine op_go hi hx c1 c2 hp kd (cSd_wl a2 _) b2 b3 w b6 (by rw [b4, z]) (fun _ => ?_)
    rw [b7 z, ← u2 z]
    exact bV_b y
  · rw [if_neg z] at a4
    have kd : kD S (ab_wx Sc) := kD_x a1
    have r1 := rS1 hr kd
    obtain ⟨S2, k', y', y2, b1, b2, b3, b4, b5, b6, b7⟩ := rmt_v q (d + 195) hp r1 u v
    obtain ⟨u1, u2⟩ := mO_un hp.2.2.1 a3 b5
    subst u1
    refine op_go hi hx c1 c2 hp kd (cSd_x a2) b2 b3 (y1 := n32 k) ?_ b6 b4 (fun w => ?_)
    · rw [e_130_0, a4, cIh_x (xk_0 k), th_m z k4 (Or.inr rfl)]
    · rw [n32_eq (by omega) (by omega)] at w
      exact absurd w z
