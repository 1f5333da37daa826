-- The reference's matches and matchesAt.
theorem rSd_0 {S : ab_S} {t : Nat → Nat} {tn : Nat} {b : Nat → Nat} {bn : Nat} {D : Nat → Bool} {L B : Nat → Nat} {ls : Nat → List alt} (h : rSd S t tn b bn D L B ls) (v : Int32) : rSd (ab_wi S 117 0 v) t tn b bn D L B ls := ⟨⟨h.1.1, h.1.2⟩, ⟨h.2.1.1, h.2.1.2⟩, rG_fr h.2.2 (fun c j _ => by rw [wi_rd, if_neg (by omega)])⟩
theorem rSd_fR {S S1 : ab_S} {t : Nat → Nat} {tn : Nat} {b : Nat → Nat} {bn : Nat} {D : Nat → Bool} {L B : Nat → Nat} {ls : Nat → List alt} (h : rSd S t tn b bn D L B ls) (f : fR S S1) : rSd S1 t tn b bn D L B ls := ⟨rT_fr h.1 (f.2.2.1 2 (by omega)) (fun j => f.2.1 118 j (by omega)), rdR h.2.1 f, rdG h.2.2 f⟩
theorem rSd_fR' {S S1 : ab_S} {t : Nat → Nat} {tn : Nat} {b : Nat → Nat} {bn : Nat} {D : Nat → Bool} {L B : Nat → Nat} {ls : Nat → List alt} (h : rSd S t tn b bn D L B ls) (f : fR' S S1) : rSd S1 t tn b bn D L B ls := ⟨rT_fr h.1 (f.2.2.1 2 (by omega) (by omega)) (fun j => f.2.1 118 j (by omega)), rB_fr h.2.1 (f.2.2.1 4 (by omega) (by omega)) (fun j => f.2.1 119 j (by omega)), rG_fr h.2.2 (fun c j _ => f.2.1 c j (by omega))⟩
theorem rSd_mF {S S1 : ab_S} {t : Nat → Nat} {tn : Nat} {b : Nat → Nat} {bn : Nat} {D : Nat → Bool} {L B : Nat → Nat} {ls : Nat → List alt} (h : rSd S t tn b bn D L B ls) (f : mF S S1) : rSd S1 t tn b bn D L B ls := ⟨rT_fr h.1 (f.2 _ _ (by omega) (by omega) (by omega)) (fun j => f.2 _ _ (by omega) (by omega) (by omega)), rB_fr h.2.1 (f.2 _ _ (by omega) (by omega) (by omega)) (fun j => f.2 _ _ (by omega) (by omega) (by omega)), rG_fr h.2.2 (fun c j _ => f.2 c j (by omega) (by omega) (by omega))⟩
theorem k3_p {k : Nat} (h : k ≠ 0) (h2 : k ≤ 4) : n32 0 < n32 k := by
  rw [n32_lt (by omega) (by omega)]
  omega
/-- the matching itself -/
theorem rm_go (q d : Nat) {S : ab_S} {t : Nat → Nat} {tn : Nat} {b : Nat → Nat} {bn : Nat} {D : Nat → Bool} {L B : Nat → Nat} {ls : Nat → List alt} (hp : pF t tn b bn L B) (h : rSd S t tn b bn D L B ls) {w : wt} (hw : wf b bn = some w) (hr : rtw S w) {r i : Nat} (r8 : r < 8) (hD : D r = true) (hi : i < w.1) : ∃ R T, fix (b, w.2, R) w.1 D ls ∧ kR S T ∧ rSd T t tn b bn D L B ls ∧ T.1 117 0 = S.1 117 0 ∧ (cV (v_118_0 q (d + 4) (n32 i) S) fun S1 => (cI (v_110_0 q (d + 4) (n32 i) ((n32 64) * (n32 r)) (n32 0) S1) fun y2 S2 => (some ((0, (ab_nz y2), 0, 0), S2)))) = some ((0, n32 (R r i 0).toNat, 0, 0), T) := by
  have ok := wf_ok hp.2.2.1 hw
  have mi : mI S b w.2 w.1 bn := ⟨ok.2.1, hp.2.1, hr, h.2.1, hp.2.2.1, ok.2.2⟩
  obtain ⟨R, T, r1, r2, r3, r4⟩ := mall_v q d mi h.2.2 hi
  refine ⟨R, T, r3, kR_mF r1, rSd_mF h r1, r1.2 _ _ (by omega) (by omega) (by omega), ?_⟩
  rw [r2, cV_0, r4 r r8 hD, cI_0, bo_nz]
theorem rma_v (q d : Nat) {S : ab_S} {t : Nat → Nat} {tn : Nat} {b : Nat → Nat} {bn : Nat} {D : Nat → Bool} {L B : Nat → Nat} {ls : Nat → List alt} (hp : pF t tn b bn L B) (h : rSd S t tn b bn D L B ls) (u1 : Int32) : ∃ S1 k y y2, k ≤ 4 ∧ kR S S1 ∧ rSd S1 t tn b bn D L B ls ∧ S1.1 117 0 = n32 k ∧ mOr b bn D L B ls u1 (n32 0) k y ∧ v_119_0 q (d + 5) u1 S = some ((0, y2, 0, 0), S1) ∧ (k = 0 → y2 = n32 y.toNat) := by
  have kw (S : ab_S) (v : Int32) : kR S (ab_wi S 117 0 v) := kR_wi S (by omega) (by omega) 0 v
  rcases ix_r u1 with ⟨r, hr8, rfl⟩ | ⟨_, hx⟩
  · have s := rsn_v q (d + 3) h.2.2.1 hp.2.2.2.1 hp.2.2.2.2 hr8
    have s3 := snd_3 D L B r
    by_cases e : snd D L B r = 0
    · have h0 := rSd_0 h (n32 (snd D L B r))
      obtain ⟨S2, f2, ⟨a1, e1⟩ | ⟨w, a1, a2, e1⟩⟩ := rd_v hp.2.1 hp.2.2.1 q (d + 3) h0.2.1
      · refine ⟨ab_wi S2 117 0 (n32 4), 4, false, n32 0, by omega, kR_tr (kR_tr (kw _ _) (kR_fR f2)) (kw _ _), rSd_0 (rSd_fR h0 f2) _, rfl, Or.inr ⟨r, hr8, rfl, Or.inr ⟨e, Or.inl ⟨a1, rfl⟩⟩⟩, ?_, fun z => by omega⟩
        rw [e_119_0, s, cI_0, e1, cI_0, e, if_pos rfl, if_pos rfl, e_119_32, if_pos (show n32 0 < n32 4 by decide)]
      · have t0 : S2.1 117 0 = n32 0 := by
          rw [f2.2.2.1 0 (by omega), e]
          rfl
        have h2 := rSd_0 (rSd_fR h0 f2) (n32 0)
        obtain ⟨R, T, r1, r2, r3, r4, r5⟩ := rm_go q d hp h2 a1 ⟨a2.1, a2.2⟩ hr8 (snd_D hp.2.2.2.1 hr8 e) (wf_ok hp.2.2.1 a1).1
        refine ⟨T, 0, R r 0 0, n32 (R r 0 0).toNat, by omega, kR_tr (kR_tr (kR_tr (kw _ _) (kR_fR f2)) (kw _ _)) r2, r3, r4.trans rfl, Or.inr ⟨r, hr8, rfl, Or.inr ⟨e, Or.inr ⟨w, a1, Or.inr ⟨0, (wf_ok hp.2.2.1 a1).1, rfl, rfl, R, r1, rfl⟩⟩⟩⟩, ?_, fun _ => rfl⟩
        rw [e_119_0, s, cI_0, e1, cI_0, e, if_pos rfl, if_neg one_z, e_119_28, t0, e_119_32, if_neg (by decide)]
        exact r5
    · refine ⟨ab_wi (ab_wi S 117 0 (n32 (snd D L B r))) 117 0 (n32 (snd D L B r)), snd D L B r, false, n32 0, by omega, kR_tr (kw _ _) (kw _ _), rSd_0 (rSd_0 h _) _, rfl, Or.inr ⟨r, hr8, rfl, Or.inl ⟨e, rfl⟩⟩, ?_, fun z => absurd z e⟩
      have t0 : (ab_wi S 117 0 (n32 (snd D L B r))).1 117 0 = n32 (snd D L B r) := rfl
      rw [e_119_0, s, cI_0, i_eq (by omega) (by omega), if_neg e, e_119_28, t0, e_119_32, if_pos (k3_p e (by omega))]
  · refine ⟨ab_wi (ab_wi S 117 0 (n32 1)) 117 0 (n32 1), 1, false, n32 0, by omega, kR_tr (kw _ _) (kw _ _), rSd_0 (rSd_0 h _) _, rfl, Or.inl ⟨hx, rfl⟩, ?_, fun z => by omega⟩
    have t0 : (ab_wi S 117 0 (n32 1)).1 117 0 = n32 1 := rfl
    rw [e_119_0, rsn_x q (d + 3) hx, cI_0, if_neg one_z, e_119_28, t0, e_119_32, if_pos (show n32 0 < n32 1 by decide)]
theorem rmt_v (q d : Nat) {S : ab_S} {t : Nat → Nat} {tn : Nat} {b : Nat → Nat} {bn : Nat} {D : Nat → Bool} {L B : Nat → Nat} {ls : Nat → List alt} (hp : pF t tn b bn L B) (h : rSd S t tn b bn D L B ls) (u1 u2 : Int32) : ∃ S1 k y y2, k ≤ 4 ∧ kR S S1 ∧ rSd S1 t tn b bn D L B ls ∧ S1.1 117 0 = n32 k ∧ mOr b bn D L B ls u1 u2 k y ∧ v_120_0 q (d + 5) u1 u2 S = some ((0, y2, 0, 0), S1) ∧ (k = 0 → y2 = n32 y.toNat) := by
  have kw (S : ab_S) (v : Int32) : kR S (ab_wi S 117 0 v) := kR_wi S (by omega) (by omega) 0 v
  have thr (S : ab_S) (k : Nat) (k1 : k ≠ 0) (k2 : k ≤ 4) (u : Int32) : v_120_32 q (d + 5) u u2 (n32 k) S = some ((0, n32 0, 0, 0), ab_wi (ab_wi S 117 0 (n32 k)) 117 0 (n32 k)) := by
    have t0 : (ab_wi S 117 0 (n32 k)).1 117 0 = n32 k := rfl
    rw [e_120_32, i_eq (by omega) (by omega), if_neg k1, e_120_59, t0, e_120_63, if_pos (k3_p k1 k2)]
  rcases ix_r u1 with ⟨r, hr8, rfl⟩ | ⟨_, hx⟩
  · have s := rsn_v q (d + 3) h.2.2.1 hp.2.2.2.1 hp.2.2.2.2 hr8
    have s3 := snd_3 D L B r
    by_cases e : snd D L B r = 0
    · have h0 := rSd_0 h (n32 (snd D L B r))
      obtain ⟨S2, f2, ⟨a1, e1⟩ | ⟨w, a1, a2, e1⟩⟩ := rd_v hp.2.1 hp.2.2.1 q (d + 3) h0.2.1
      · refine ⟨ab_wi (ab_wi S2 117 0 (n32 4)) 117 0 (n32 4), 4, false, n32 0, by omega, kR_tr (kR_tr (kR_tr (kw _ _) (kR_fR f2)) (kw _ _)) (kw _ _), rSd_0 (rSd_0 (rSd_fR h0 f2) _) _, rfl, Or.inr ⟨r, hr8, rfl, Or.inr ⟨e, Or.inl ⟨a1, rfl⟩⟩⟩, ?_, fun z => by omega⟩
        rw [e_120_0, s, cI_0, e1, cI_0, e, if_pos rfl, if_pos rfl, thr _ 4 (by omega) (by omega)]
      · have t0 : S2.1 117 0 = n32 0 := by
          rw [f2.2.2.1 0 (by omega), e]
          rfl
        have ok := wf_ok hp.2.2.1 a1
        have e3 : v_120_0 q (d + 5) (n32 r) u2 S = (if u2 < (n32 0) then (v_120_55 q (d + 5) (n32 r) u2 (ab_wi S2 117 0 (n32 0))) else (if u2 < n32 w.1 then (v_120_59 q (d + 5) (n32 r) u2 (ab_wi S2 117 0 (n32 0))) else (v_120_55 q (d + 5) (n32 r) u2 (ab_wi S2 117 0 (n32 0))))) := by
          rw [e_120_0, s, cI_0, e1, cI_0, e, if_pos rfl, if_neg one_z, e_120_28, t0, e_120_32, if_pos rfl, a2.1]
        rw [e3]
        rcases ix_c u2 ok.2.1 with ⟨i, hi, rfl⟩ | ⟨hn, ho⟩
        · have h2 := rSd_0 (rSd_0 (rSd_fR h0 f2) (n32 0)) (n32 0)
          obtain ⟨R, T, r1, r2, r3, r4, r5⟩ := rm_go q d hp h2 a1 ⟨a2.1, a2.2⟩ hr8 (snd_D hp.2.2.2.1 hr8 e) hi
          refine ⟨T, 0, R r i 0, n32 (R r i 0).toNat, by omega, kR_tr (kR_tr (kR_tr (kR_tr (kw _ _) (kR_fR f2)) (kw _ _)) (kw _ _)) r2, r3, r4.trans rfl, Or.inr ⟨r, hr8, rfl, Or.inr ⟨e, Or.inr ⟨w, a1, Or.inr ⟨i, hi, rfl, rfl, R, r1, rfl⟩⟩⟩⟩, ?_, fun _ => rfl⟩
          have t1 : (ab_wi S2 117 0 (n32 0)).1 117 0 = n32 0 := rfl
          rw [i_lt (by omega) (by omega), if_neg (by omega), i_lt (by omega) (by omega), if_pos hi, e_120_59, t1, e_120_63, if_neg (by decide)]
          exact r5
        · refine ⟨ab_wi (ab_wi S2 117 0 (n32 0)) 117 0 (n32 1), 1, false, n32 0, by omega, kR_tr (kR_tr (kR_tr (kw _ _) (kR_fR f2)) (kw _ _)) (kw _ _), rSd_0 (rSd_0 (rSd_fR h0 f2) _) _, rfl, Or.inr ⟨r, hr8, rfl, Or.inr ⟨e, Or.inr ⟨w, a1, Or.inl ⟨hn, rfl⟩⟩⟩⟩, ?_, fun z => by omega⟩
          have e5 : v_120_55 q (d + 5) (n32 r) u2 (ab_wi S2 117 0 (n32 0)) = some ((0, n32 0, 0, 0), ab_wi (ab_wi S2 117 0 (n32 0)) 117 0 (n32 1)) := by
            rw [e_120_55, e_120_63, if_pos (show n32 0 < n32 1 by decide)]
          rw [e5]
          rcases ho with ho | ⟨ho, ho'⟩
          · rw [if_pos ho]
          · rw [if_neg ho, if_neg ho']
    · refine ⟨ab_wi (ab_wi (ab_wi S 117 0 (n32 (snd D L B r))) 117 0 (n32 (snd D L B r))) 117 0 (n32 (snd D L B r)), snd D L B r, false, n32 0, by omega, kR_tr (kR_tr (kw _ _) (kw _ _)) (kw _ _), rSd_0 (rSd_0 (rSd_0 h _) _) _, rfl, Or.inr ⟨r, hr8, rfl, Or.inl ⟨e, rfl⟩⟩, ?_, fun z => absurd z e⟩
      have t0 : (ab_wi S 117 0 (n32 (snd D L B r))).1 117 0 = n32 (snd D L B r) := rfl
      rw [e_120_0, s, cI_0, i_eq (by omega) (by omega), if_neg e, e_120_28, t0, thr _ _ e (by omega)]
  · refine ⟨ab_wi (ab_wi (ab_wi S 117 0 (n32 1)) 117 0 (n32 1)) 117 0 (n32 1), 1, false, n32 0, by omega, kR_tr (kR_tr (kw _ _) (kw _ _)) (kw _ _), rSd_0 (rSd_0 (rSd_0 h _) _) _, rfl, Or.inl ⟨hx, rfl⟩, ?_, fun z => by omega⟩
    have t0 : (ab_wi S 117 0 (n32 1)).1 117 0 = n32 1 := rfl
    rw [e_120_0, rsn_x q (d + 3) hx, cI_0, if_neg one_z, e_120_28, t0, thr _ 1 (by omega) (by omega)]
