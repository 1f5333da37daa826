-- The reference reads types: brackets and tags.
def psA (A : rdA) : Prop := ∀ bare s y, A bare s = some y → s.1 ≤ y.2.1 ∧ ∀ a, a ∈ y.1 → s.1 ≤ a.1
theorem mor_ps {t : Nat → Nat} {n : Nat} {A : rdA} (h : psA A) (bare : Bool) (p : Nat) : ∀ k l s y, (∀ a, a ∈ l → p ≤ a.1) → p ≤ s.1 → mor t n A bare k l s = some y → s.1 ≤ y.2.1 ∧ ∀ a, a ∈ y.1 → p ≤ a.1
  | 0, l, s, y, h1, h2, e => by
    cases e
    exact ⟨Nat.le_refl _, h1⟩
  | k + 1, l, s, y, h1, h2, e => by
    unfold mor at e
    by_cases c : chr t n s.1 = 47
    · rw [if_pos c] at e
      cases hx : A bare (s.1 + 1, s.2) with
      | none =>
        rw [hx] at e
        cases e
      | some x =>
        rw [hx] at e
        have a := h _ _ _ hx
        have a1 : s.1 + 1 ≤ x.2.1 := a.1
        have := mor_ps h bare p k (l ++ x.1) x.2 y (fun b hb => by
          rcases List.mem_append.mp hb with hb | hb
          · exact h1 b hb
          · have : s.1 + 1 ≤ b.1 := a.2 b hb
            omega) (by omega) e
        exact ⟨by omega, this.2⟩
    · rw [if_neg c] at e
      cases e
      exact ⟨Nat.le_refl _, h1⟩
theorem typ_ps {t : Nat → Nat} {n : Nat} {A : rdA} (h : psA A) : psA (typ t n A) := fun bare s y e => by
  unfold typ at e
  cases hx : A bare s with
  | none =>
    rw [hx] at e
    cases e
  | some x =>
    rw [hx] at e
    have a := h _ _ _ hx
    have := mor_ps h bare s.1 40 x.1 x.2 y a.2 a.1 e
    exact ⟨by omega, this.2⟩
theorem btw_ps {t : Nat → Nat} {n : Nat} {A : rdA} (h : psA A) {bare : Bool} {s : pst} {y : List alt × pst} (e : btw t n A bare s = some y) : s.1 ≤ y.2.1 ∧ ∀ a, a ∈ y.1 → s.1 + 1 ≤ a.1 := by
  unfold btw at e
  by_cases c : chr t n s.1 = 40
  · rw [if_pos c] at e
    cases hx : typ t n A bare (s.1 + 1, s.2) with
    | none =>
      rw [hx] at e
      cases e
    | some x =>
      rw [hx] at e
      have a := typ_ps h _ _ _ hx
      have a1 : s.1 + 1 ≤ x.2.1 := a.1
      have e : (if chr t n x.2.1 = 41 then some (x.1, (x.2.1 + 1, x.2.2)) else none) = some y := e
      split at e
      · cases e
        exact ⟨show s.1 ≤ x.2.1 + 1 by omega, a.2⟩
      · cases e
  · rw [if_neg c] at e
    cases e
theorem kep_gt {l : List alt} {p : Nat} (h : ∀ a, a ∈ l → p + 1 ≤ a.1) : kep l p = false := by
  cases l with
  | nil => rfl
  | cons a l =>
    have := h a (List.mem_cons_self ..)
    show (decide (a.1 = p) && (decide (a.2.2.1 = 48) || decide (a.2.2.1 = 34))) = false
    rw [decide_eq_false (by omega : ¬ a.1 = p)]
    rfl
/-- nothing simple stands here -/
theorem lt_op (q e : Nat) {t : Nat → Nat} {n : Nat} (ht : tok t n) {S : ab_S} {at' dp al pn ld br : Nat} {P K : Nat → Nat → Nat} (h : RS S t n at' 0 dp al pn ld br P K) (ha : at' ≤ n) (c1 : isg (chr t n at') = false) (c2 : chr t n at' ≠ 45) (c3 : dig (chr t n at') = false) (c4 : chr t n at' ≠ 34) (c5 : chr t n at' < 65 ∨ 72 < chr t n at') : LT q e S = (cI (v_93_0 q (e + 4) S) fun y2 S2 => (if y2 = (n32 0) then (v_95_104 q (e + 5) (n32 0) S2) else (v_95_99 q (e + 5) S2))) := by
  have c126 := chr_le ht at'
  have e0 : v_92_91 q (e + 4) (i32 (-1)) S = some ((0, n32 0, 0, 0), S) := by
    rw [e_92_91, n32_m1, if_pos neg_0]
  rw [lt_1 q e h.2.2.2.1, e_92_0, lk_v q _ ht h ha, cI_0, wd_w q _ (by omega), cI_0, nsg_w c1, if_pos neg_0, i_eq (by omega) (by omega), if_neg c2, idg_v q _ (by omega), cI_0, c3, i_bz, if_neg (by decide), i_eq (by omega) (by omega), if_neg c4, i_lt (by omega) (by omega), i_lt (by omega) (by omega), e0]
  by_cases l : chr t n at' < 65
  · rw [if_pos l, cI_0, if_pos rfl]
  · rw [if_neg l, if_pos (by omega), cI_0, if_pos rfl]
theorem lt_n (q e : Nat) {S : ab_S} (h : S.1 117 16 = n32 0) : v_95_104 q (e + 5) (n32 0) S = LT q e S := by
  rw [e_95_104, h, if_pos rfl, if_pos rfl, fin_L]
/-- attached and pushed -/
theorem opn_v (q d : Nat) {t : Nat → Nat} {n : Nat} {S1 : ab_S} {a1 dp al pn ld br : Nat} {P P1 K : Nat → Nat → Nat} (h : RS S1 t n a1 0 dp al (pn + 1) ld br P1 K) (hd : dp ≤ 4) (hp : pn < 128) (hw : wfL P K pn dp) (hP : ∀ j p, p < pn → P1 j p = P j p) (b : Nat) : (dp = 4 → ∃ S3, gr S1 S3 ∧ S3.1 117 16 = n32 1 ∧ ∀ f : ab_S → ab_R, (cV (v_85_0 q d (n32 (512 + pn)) S1) fun S2 => (cV (v_82_0 q d (n32 b) (n32 (512 + pn)) S2) f)) = f S3) ∧ (dp < 4 → ∃ S3, gr S1 S3 ∧ RS S3 t n a1 0 (dp + 1) al (pn + 1) ld br (attP P1 K dp pn) (pshK (attK K dp pn) (dp + 1) b pn) ∧ ∀ f : ab_S → ab_R, (cV (v_85_0 q d (n32 (512 + pn)) S1) fun S2 => (cV (v_82_0 q d (n32 b) (n32 (512 + pn)) S2) f)) = f S3) := by
  obtain ⟨S2, b1, b2, b3⟩ := at_v q d h hd (by omega) (wfL_up hw hP (Nat.le_succ _)) hp
  obtain ⟨c1, c2⟩ := pu_v q d b2 hd b hp
  refine ⟨fun e => ?_, fun e => ?_⟩
  · obtain ⟨S3, d1, d2, d3⟩ := c1 e
    exact ⟨S3, gr_tr b1 d1, d2.2.2.2.1, fun f => by rw [b3, cV_0, d3, cV_0]⟩
  · obtain ⟨S3, d1, d2, d3⟩ := c2 e
    exact ⟨S3, gr_tr b1 d1, d2, fun f => by rw [b3, cV_0, d3, cV_0]⟩
theorem psh_s (K : Nat → Nat → Nat) (l b p : Nat) : pshK K l b p 0 l = b ∧ pshK K l b p 1 l = p ∧ pshK K l b p 2 l = p ∧ pshK K l b p 3 l = 4294967295 ∧ pshK K l b p 4 l = 4294967295 ∧ pshK K l b p 5 l = 0 ∧ pshK K l b p 6 l = 0 := by
  refine ⟨?_, ?_, ?_, ?_, ?_, ?_, ?_⟩ <;> (unfold pshK; rw [if_pos rfl]; rfl)
theorem psh_o (K : Nat → Nat → Nat) {l b p j x : Nat} (h : x ≠ l) : pshK K l b p j x = K j x := if_neg h
theorem bar_psh (K : Nat → Nat → Nat) (dp b p x : Nat) : bar (pshK (attK K dp x) (dp + 1) b p) (dp + 1) = (bar K dp && decide (b = 40)) := by
  rw [bar_s, (psh_s _ _ _ _).1, bar_cg (K := K) dp (fun l hl => by rw [psh_o _ (by omega), attK_6 _ _ _ _ _ (by omega)])]
/-- the outcome for a whole alternative -/
def rC (q e : Nat) (t : Nat → Nat) (n : Nat) (S : ab_S) (at' dp al pn : Nat) (P K : Nat → Nat → Nat) (bare : Bool) (o : Option (List alt × pst)) : Prop := (∀ y, o = some y → ∃ S', rEf t n S at' dp al pn P K bare y S' ∧ LT q e S = GO q e S') ∧ (o = none → ∃ S', gr S S' ∧ LT q e S = some ((0, n32 0, 0, 0), S'))
theorem rpa_v (q e : Nat) {t : Nat → Nat} {n : Nat} (ht : tok t n) {dp f : Nat} (hf : dp + f = 4) {A : rdA} (hA : 0 < f → rAl q e t n (dp + 1) A) (hps : psA A) {S : ab_S} {at' al pn ld br : Nat} {P K : Nat → Nat → Nat} (h : RS S t n at' 0 dp al pn ld br P K) (ha : at' ≤ n) (h1 : ld < 256) (h2 : br < 256) (hpn : pn ≤ 1 + 3 * at') (hw : wfL P K pn dp) (hk : ∀ l, l ≤ dp → K 0 l < 128) (hc : chr t n at' = 40) : rC q e t n S at' dp al pn P K (bar K dp) (if f = 0 then none else btw t n A (bar K dp) (at', ld, br)) := by
  have n40 := ht.1
  have lt := chr_lt hc (by decide)
  have r1 := RS_at h (at' + 1)
  have g1 : gr S (ab_wi S 117 15 (n32 (at' + 1))) := gr_wi (gr_rf S) _ (by omega)
  obtain ⟨S2, a1, a2, a3⟩ := mk_v q (e + 3) r1 (by omega : pn < 128) 11 4294967295 0
  have a3' : v_81_0 q (e + 3) (n32 11) (i32 (-1)) (n32 0) (ab_wi S 117 15 (n32 (at' + 1))) = some ((0, n32 (512 + pn), 0, 0), S2) := by
    rw [n32_m1]
    exact a3
  have hLT : LT q e S = (cI (cV (v_85_0 q (e + 3) (n32 (512 + pn)) S2) fun S3 => (cV (v_82_0 q (e + 3) (n32 40) (n32 (512 + pn)) S3) fun S4 => (some ((0, (n32 0), 0, 0), S4)))) fun y2 S2 => (if y2 = (n32 0) then (v_95_104 q (e + 5) (n32 0) S2) else (v_95_99 q (e + 5) S2))) := by
    rw [lt_op q e ht h ha (by rw [hc]; rfl) (by rw [hc]; decide) (by rw [hc]; rfl) (by rw [hc]; decide) (by rw [hc]; omega), e_93_0, lk_v q _ ht h ha, cI_0, hc, if_neg (by decide), if_neg (by decide), if_pos rfl, h.2.2.1, n32_add, a3', cI_0]
  obtain ⟨o4, o3⟩ := opn_v q (e + 3) a2 (by omega) (by omega) hw (mkP_lo P) 40
  by_cases f0 : f = 0
  · rw [if_pos f0]
    obtain ⟨S3, b1, b2, b3⟩ := o4 (by omega)
    refine ⟨nofun, fun _ => ⟨S3, gr_tr (gr_tr g1 a1) b1, ?_⟩⟩
    rw [hLT, b3, cI_0, if_pos rfl, fin_b q e b2]
  rw [if_neg f0]
  obtain ⟨S3, b1, b2, b3⟩ := o3 (by omega)
  have e3 : LT q e S = LT q e S3 := by
    rw [hLT, b3, cI_0, if_pos rfl, lt_n q e b2.2.2.2.1]
  have g3 := gr_tr (gr_tr g1 a1) b1
  have bk : bar (pshK (attK K dp pn) (dp + 1) 40 pn) (dp + 1) = bar K dp := by
    rw [bar_psh, decide_eq_true rfl, Bool.and_true]
  have ps := psh_s (attK K dp pn) (dp + 1) 40 pn
  have hi (j : Nat) : attP (mkP P pn 11 4294967295 0) K dp pn j pn = mkP P pn 11 4294967295 0 j pn := attP_hi hw (by omega) j pn (Nat.le_refl _) (by omega)
  have m := mkP_s P pn 11 4294967295 0
  have hk3 : ∀ l, l ≤ dp + 1 → pshK (attK K dp pn) (dp + 1) 40 pn 0 l < 128 := fun l hl => by
    by_cases el : l = dp + 1
    · rw [el, ps.1]; decide
    · rw [psh_o _ el, attK_6 _ _ _ _ _ (by omega)]; exact hk l (by omega)
  obtain ⟨t1, t2⟩ := rtyp_v q e ht (by omega) (hA (by omega)) b2 lt h1 h2 (by omega) hk3 ps.2.2.2.2.2.2 ps.2.2.1 ps.2.2.2.2.1 (Nat.lt_succ_self _) ((hi 0).trans m.1) ((hi 1).trans m.2.1)
  rw [bk] at t1 t2
  unfold btw
  show rC q e t n S at' dp al pn P K (bar K dp) (if chr t n at' = 40 then (match typ t n A (bar K dp) (at' + 1, ld, br) with | none => none | some x => if chr t n x.2.1 = 41 then some (x.1, (x.2.1 + 1, x.2.2)) else none) else none)
  rw [if_pos hc]
  cases hx : typ t n A (bar K dp) (at' + 1, ld, br) with
  | none =>
    obtain ⟨S', c1, c2⟩ := t2 (fun y hy => by rw [hx] at hy; cases hy)
    exact ⟨nofun, fun _ => ⟨S', gr_tr g3 c1, e3.trans c2⟩⟩
  | some x =>
    show rC q e t n S at' dp al pn P K (bar K dp) (if chr t n x.2.1 = 41 then some (x.1, (x.2.1 + 1, x.2.2)) else none)
    by_cases dg : dig (chr t n x.2.1) = true
    · have c41 : chr t n x.2.1 ≠ 41 := fun z => by rw [z] at dg; cases dg
      obtain ⟨S', c1, c2⟩ := t2 (fun y hy => by rw [hx] at hy; cases hy; exact dg)
      rw [if_neg c41]
      exact ⟨nofun, fun _ => ⟨S', gr_tr g3 c1, e3.trans c2⟩⟩
    · obtain ⟨S4, ⟨d1, pn4, P4, lp, d2, d3, d4, d5, d6, d7, d8, d9, d10, d11, d12, d13, dBB⟩, d14⟩ := t1 x hx ((Bool.not_eq_true _).mp dg)
      have kk (j l : Nat) (hl : l ≤ dp) : uP (pshK (attK K dp pn) (dp + 1) 40 pn) 4 (dp + 1) (rls lp) j l = attK K dp pn j l := by
        rw [uP_p _ (by omega), psh_o _ (by omega)]
      have k6 : uP (pshK (attK K dp pn) (dp + 1) 40 pn) 4 (dp + 1) (rls lp) 6 (dp + 1) = 0 := by rw [uP_j _ (by omega)]; exact ps.2.2.2.2.2.2
      have k0 : uP (pshK (attK K dp pn) (dp + 1) 40 pn) 4 (dp + 1) (rls lp) 0 (dp + 1) = 40 := by rw [uP_j _ (by omega)]; exact ps.1
      by_cases c41 : chr t n x.2.1 = 41
      · rw [if_pos c41]
        have l2 := chr_lt c41 (by decide)
        refine ⟨fun y hy => ?_, nofun⟩
        cases hy
        obtain ⟨S5, f1, f2, f3⟩ := go_cl q e ht d2 (by omega) d6 (by rw [k0]; decide) k6 (by rw [k0]; exact c41)
        have hpos := typ_ps hps _ _ _ hx
        refine ⟨S5, ⟨gr_tr (gr_tr g3 d1) f1, pn4, P4, RS_P f2 (fun _ _ _ => rfl) (fun j l hl => (kk j l hl).symm), by omega, show 2 * pn4 + 1 + 3 * at' ≤ 3 * (x.2.1 + 1) + 2 * pn by omega, show at' < x.2.1 + 1 by omega, l2, d7, d8, fun j p hp => ?_, ?_, ?_, ?_, sR_hd (by omega) (sfe_ty (by rw [d9 0 pn (Nat.lt_succ_self _) (Or.inl (by omega)), hi]; exact m.1) d10 d11) (Or.inl (by rw [d9 3 pn (Nat.lt_succ_self _) (Or.inl (by omega)), hi]; exact m.2.2.2.1)) dBB⟩, ?_⟩
        · rw [d9 j p (by omega) (by omega), attP_lo (mkP_lo P) j p hp]
        · show denP t P4 pn pn4 (anyS x.1)
          rw [← d12]
          exact denP_ty (by omega) (by rw [d9 0 pn (Nat.lt_succ_self _) (Or.inl (by omega)), hi]; exact m.1) d10 d11 (by omega)
        · rw [d9 3 pn (Nat.lt_succ_self _) (Or.inl (by omega)), hi]; exact m.2.2.2.1
        · show sgl P4 pn = kep x.1 at'
          rw [kep_gt hpos.2]
          unfold sgl
          rw [d9 0 pn (Nat.lt_succ_self _) (Or.inl (by omega)), hi, m.1]
          rfl
        · rw [e3, d14, f3]
      · rw [if_neg c41]
        refine ⟨nofun, fun _ => ?_⟩
        have gx := go_nx q e ht d2 (by omega) d6 (by rw [k0]; decide) k6 d13 (fun z => by rw [k0] at z; omega) (fun z => by rw [k0] at z; exact c41 z.2)
        rw [if_neg (by omega)] at gx
        exact ⟨ab_wi S4 117 16 (n32 1), gr_wi (gr_tr g3 d1) _ (by omega), by rw [e3, d14, gx]⟩
theorem rtg_v (q e : Nat) {t : Nat → Nat} {n : Nat} (ht : tok t n) {dp f : Nat} (hf : dp + f = 4) {A : rdA} (hA : 0 < f → rAl q e t n (dp + 1) A) {S : ab_S} {at' al pn ld br : Nat} {P K : Nat → Nat → Nat} (h : RS S t n at' 0 dp al pn ld br P K) (ha : at' ≤ n) (h1 : ld < 256) (h2 : br < 256) (hpn : pn ≤ 1 + 3 * at') (hw : wfL P K pn dp) (hk : ∀ l, l ≤ dp → K 0 l < 128) (hc : chr t n at' = 35) : rC q e t n S at' dp al pn P K (bar K dp) (if dig (chr t n (at' + 1)) = true then (if f = 0 then none else match btw t n A false (at' + 2, ld, br) with | none => none | some x => some ([(at', x.2.1, 35, tgS (chr t n (at' + 1) - 48) x.1)], x.2)) else none) := by
  have n40 := ht.1
  have lt := chr_lt hc (by decide)
  have bad : LT q e S = (cI (v_93_228 q (e + 4) S) fun y2 S2 => (if y2 = (n32 0) then (v_95_104 q (e + 5) (n32 0) S2) else (v_95_99 q (e + 5) S2))) → ∃ S', gr S S' ∧ LT q e S = some ((0, n32 0, 0, 0), S') := fun hh => by
    refine ⟨ab_wi S 117 16 (n32 1), gr_wi (gr_rf S) _ (by omega), ?_⟩
    rw [hh, e_93_228, e_93_229, if_pos rfl, e_93_240, show ab_zb (n32 1) = true from rfl, g_t, if_pos rfl, e_93_332, cI_0, if_pos rfl, fin_b q e rfl]
  have e0 : LT q e S = (cI (if at' + 2 < n then (if dig (chr t n (at' + 1)) = true then (if chr t n (at' + 2) = 40 then v_93_229 q (e + 4) (n32 1) S else v_93_228 q (e + 4) S) else v_93_228 q (e + 4) S) else v_93_228 q (e + 4) S) fun y2 S2 => (if y2 = (n32 0) then (v_95_104 q (e + 5) (n32 0) S2) else (v_95_99 q (e + 5) S2))) := by
    rw [lt_op q e ht h ha (by rw [hc]; rfl) (by rw [hc]; decide) (by rw [hc]; rfl) (by rw [hc]; decide) (by rw [hc]; omega), e_93_0, lk_v q _ ht h ha, cI_0, hc, if_neg (by decide), if_neg (by decide), if_neg (by decide), if_pos rfl, h.2.2.1, n32_add, n32_add, h.1, i_lt (by omega) (by omega)]
    by_cases l : at' + 2 < n
    · have ca : chr t n (at' + 1) = t (at' + 1) := if_pos (by omega)
      have cb : chr t n (at' + 2) = t (at' + 2) := if_pos l
      have t1 := ht.2 (at' + 1) (by omega)
      have t2 := ht.2 (at' + 2) l
      rw [if_pos l, if_pos l, n32_in (by omega) (by omega), g_t, n32_cl (by omega), h.2.1 _ (by omega), idg_v q _ (by omega), cI_0, i_bz, h.2.2.1, n32_add, n32_in (by omega) (by omega), g_t, n32_cl (by omega), h.2.1 _ l, i_eq (by omega) (by omega), ca, cb]
    · rw [if_neg l, if_neg l]
  by_cases dg1 : dig (chr t n (at' + 1)) = true
  · rw [if_pos dg1]
    by_cases c40 : chr t n (at' + 2) = 40
    · have l2 := chr_lt c40 (by decide)
      rw [if_pos l2, if_pos dg1, if_pos c40] at e0
      have dc := dig_c dg1
      have ca : chr t n (at' + 1) = t (at' + 1) := if_pos (by omega)
      -- the tag's part
      have r0 := RS_bd h 0
      have r1 := RS_al r0 (al + (bar K dp).toNat)
      have g1 : gr S (ab_wi (ab_wi S 117 16 (n32 0)) 117 18 (n32 (al + (bar K dp).toNat))) := gr_wi (gr_wi (gr_rf S) _ (by omega)) _ (by omega)
      obtain ⟨S2, a1, a2, a3⟩ := mk_v q (e + 3) r1 (by omega : pn < 128) 12 (chr t n (at' + 1) - 48) 4294966784
      have a3' : v_81_0 q (e + 3) (n32 12) (n32 (chr t n (at' + 1) - 48)) (n32 0) (ab_wi (ab_wi S 117 16 (n32 0)) 117 18 (n32 (al + (bar K dp).toNat))) = some ((0, n32 (512 + pn), 0, 0), S2) := by
        have eb : eB 512 12 4294966784 = n32 0 := by decide
        rw [eb] at a3
        exact a3
      have r2 := RS_at a2 (at' + 3)
      have g2 : gr S (ab_wi S2 117 15 (n32 (at' + 3))) := gr_wi (gr_tr g1 a1) _ (by omega)
      have m := mkP_s P pn 12 (chr t n (at' + 1) - 48) 4294966784
      have e1 : LT q e S = (cI (cV (v_85_0 q (e + 3) (n32 (512 + pn)) (ab_wi S2 117 15 (n32 (at' + 3)))) fun S2 => (cV (v_82_0 q (e + 3) (n32 35) (n32 (512 + pn)) S2) fun S3 => (if (S3.1 117 16) = (n32 0) then (cI (v_83_0 q (e + 3) S3) fun y4 S4 => (ab_g (ab_in (n32 (512 + pn)) 640) (v_93_332 q (e + 4) (ab_wi S4 127 (512 + pn) y4)))) else (v_93_332 q (e + 4) S3)))) fun y2 S2 => (if y2 = (n32 0) then (v_95_104 q (e + 5) (n32 0) S2) else (v_95_99 q (e + 5) S2))) := by
        have q15 : (ab_wi S 117 16 (n32 0)).1 117 15 = n32 at' := h.2.2.1
        have q118 : (ab_wi S 117 16 (n32 0)).1 118 (at' + 1) = n32 (t (at' + 1)) := h.2.1 _ (by omega)
        have e268 : v_93_268 q (e + 4) (n32 (al + (bar K dp).toNat)) (ab_wi S 117 16 (n32 0)) = (cV (v_85_0 q (e + 3) (n32 (512 + pn)) (ab_wi S2 117 15 (n32 (at' + 3)))) fun S2 => (cV (v_82_0 q (e + 3) (n32 35) (n32 (512 + pn)) S2) fun S3 => (if (S3.1 117 16) = (n32 0) then (cI (v_83_0 q (e + 3) S3) fun y4 S4 => (ab_g (ab_in (n32 (512 + pn)) 640) (v_93_332 q (e + 4) (ab_wi S4 127 (512 + pn) y4)))) else (v_93_332 q (e + 4) S3)))) := by
          rw [e_93_268, q15, n32_add, n32_in (by omega) (by omega), g_t, n32_cl (by omega), q118, ← ca, n32_sub dc.1, a3', cI_0, a2.2.2.1, n32_add, n32_cl (by omega)]
        rw [e0, e_93_229, if_neg one_z, e_93_240, show ab_zb (n32 0) = true from rfl, g_t, if_neg one_z, bar_v q _ r0 (by omega) (fun l _ hl => hk l hl), cI_0, i_bz, r0.2.2.2.2.2.1, n32_add]
        have : (if bar K dp = true then v_93_268 q (e + 3 + 1) (n32 (al + 1)) (ab_wi S 117 16 (n32 0)) else v_93_268 q (e + 3 + 1) (n32 al) (ab_wi S 117 16 (n32 0))) = v_93_268 q (e + 4) (n32 (al + (bar K dp).toNat)) (ab_wi S 117 16 (n32 0)) := by
          cases bar K dp <;> rfl
        rw [this, e268]
      obtain ⟨o4, o3⟩ := opn_v q (e + 3) r2 (by omega) (by omega) hw (mkP_lo P) 35
      by_cases f0 : f = 0
      · rw [if_pos f0]
        obtain ⟨S3, b1, b2, b3⟩ := o4 (by omega)
        refine ⟨nofun, fun _ => ⟨S3, gr_tr g2 b1, ?_⟩⟩
        rw [e1, b3, b2, if_neg one_z, e_93_332, cI_0, if_pos rfl, fin_b q e b2]
      rw [if_neg f0]
      obtain ⟨S3, b1, b2, b3⟩ := o3 (by omega)
      have ps := psh_s (attK K dp pn) (dp + 1) 35 pn
      have hi (j : Nat) : attP (mkP P pn 12 (chr t n (at' + 1) - 48) 4294966784) K dp pn j pn = mkP P pn 12 (chr t n (at' + 1) - 48) 4294966784 j pn := attP_hi hw (by omega) j pn (Nat.le_refl _) (by omega)
      obtain ⟨S4, c1, c2, c3⟩ := nt_v q (e + 2) b2 (by omega) (by omega : pn + 1 < 128)
      have ep : n32 (512 + (pn + 1)) = eO 512 (pn + 1) := (eO_ge (by omega) (by decide)).symm
      obtain ⟨P3, hP3⟩ : ∃ P3, P3 = attP (mkP P pn 12 (chr t n (at' + 1) - 48) 4294966784) K dp pn := ⟨_, rfl⟩
      obtain ⟨K3, hK3⟩ : ∃ K3, K3 = pshK (attK K dp pn) (dp + 1) 35 pn := ⟨_, rfl⟩
      rw [← hP3, ← hK3] at c2
      have nw (j : Nat) : nwP P3 (pn + 1) j pn = P3 j pn := mkP_o _ (by omega)
      have nw1 := mkP_s P3 (pn + 1) 11 4294967295 0
      have r5 : RS (ab_wi S4 127 (512 + pn) (eO 512 (pn + 1))) t n (at' + 3) 0 (dp + 1) (al + (bar K dp).toNat) (pn + 1 + 1) ld br (uP (nwP P3 (pn + 1)) 2 pn (pn + 1)) (nwK K3 (dp + 1) (pn + 1)) := RS_p c2 (j := 2) (Or.inr (Or.inl rfl)) nofun (fun _ => by rw [nw, hP3, hi, m.1]; rfl) (pn + 1)
      have g5 : gr S (ab_wi S4 127 (512 + pn) (eO 512 (pn + 1))) := gr_wi (gr_tr (gr_tr g2 b1) c1) _ (by omega)
      have e5 : LT q e S = LT q e (ab_wi S4 127 (512 + pn) (eO 512 (pn + 1))) := by
        rw [e1, b3, b2.2.2.2.1, if_pos rfl, c3, cI_0, n32_in (by omega) (by omega), g_t, ep, e_93_332, cI_0, if_pos rfl, lt_n q e r5.2.2.2.1]
      have bk : bar (nwK K3 (dp + 1) (pn + 1)) (dp + 1) = false := by
        rw [bar_cg (K := K3) (dp + 1) (fun l hl => by unfold nwK; rw [uP_j _ (by omega), uP_j _ (by omega)]), hK3, bar_psh]
        exact Bool.and_false _
      have hk5 : ∀ l, l ≤ dp + 1 → nwK K3 (dp + 1) (pn + 1) 0 l < 128 := fun l hl => by
        unfold nwK
        rw [uP_j _ (by omega), uP_j _ (by omega), hK3]
        by_cases el : l = dp + 1
        · rw [el, ps.1]; decide
        · rw [psh_o _ el, attK_6 _ _ _ _ _ (by omega)]; exact hk l (by omega)
      have k6 : nwK K3 (dp + 1) (pn + 1) 6 (dp + 1) = 0 := by unfold nwK; rw [uP_j _ (by omega), uP_j _ (by omega), hK3]; exact ps.2.2.2.2.2.2
      have k0 : nwK K3 (dp + 1) (pn + 1) 0 (dp + 1) = 35 := by unfold nwK; rw [uP_j _ (by omega), uP_j _ (by omega), hK3]; exact ps.1
      obtain ⟨t1, t2⟩ := rtyp_v q e ht (by omega) (hA (by omega)) (ty := pn + 1) r5 (by omega) h1 h2 (by omega) hk5 k6 (by unfold nwK; rw [uP_j _ (by omega), uP_s]) (by unfold nwK; rw [uP_s]) (Nat.lt_succ_self _) (by rw [uP_j _ (by omega)]; exact nw1.1) (by rw [uP_j _ (by omega)]; exact nw1.2.1)
      rw [bk] at t1 t2
      unfold btw
      show rC q e t n S at' dp al pn P K (bar K dp) (match (if chr t n (at' + 2) = 40 then (match typ t n A false (at' + 2 + 1, ld, br) with | none => none | some x => if chr t n x.2.1 = 41 then some (x.1, (x.2.1 + 1, x.2.2)) else none) else none) with | none => none | some x => some ([(at', x.2.1, 35, tgS (chr t n (at' + 1) - 48) x.1)], x.2))
      rw [if_pos c40]
      have t1' : ∀ y, typ t n A false (at' + 2 + 1, ld, br) = some y → _ := t1
      have t2' : (∀ y, typ t n A false (at' + 2 + 1, ld, br) = some y → _) → _ := t2
      cases hx : typ t n A false (at' + 2 + 1, ld, br) with
      | none =>
        obtain ⟨S', f1, f2⟩ := t2' (fun y hy => by rw [hx] at hy; cases hy)
        exact ⟨nofun, fun _ => ⟨S', gr_tr g5 f1, e5.trans f2⟩⟩
      | some x =>
        show rC q e t n S at' dp al pn P K (bar K dp) (match (if chr t n x.2.1 = 41 then some (x.1, (x.2.1 + 1, x.2.2)) else none) with | none => none | some x => some ([(at', x.2.1, 35, tgS (chr t n (at' + 1) - 48) x.1)], x.2))
        by_cases dg : dig (chr t n x.2.1) = true
        · have c41 : chr t n x.2.1 ≠ 41 := fun z => by rw [z] at dg; cases dg
          obtain ⟨S', f1, f2⟩ := t2' (fun y hy => by rw [hx] at hy; cases hy; exact dg)
          rw [if_neg c41]
          exact ⟨nofun, fun _ => ⟨S', gr_tr g5 f1, e5.trans f2⟩⟩
        · obtain ⟨S6, ⟨d1, pn6, P6, lp, d2, d3, d4, d5, d6, d7, d8, d9, d10, d11, d12, d13, dBB⟩, d14⟩ := t1' x hx ((Bool.not_eq_true _).mp dg)
          have kk (j l : Nat) (hl : l ≤ dp) : uP (nwK K3 (dp + 1) (pn + 1)) 4 (dp + 1) (rls lp) j l = attK K dp pn j l := by
            unfold nwK
            rw [uP_p _ (by omega), uP_p _ (by omega), uP_p _ (by omega), hK3, psh_o _ (by omega)]
          have k6' : uP (nwK K3 (dp + 1) (pn + 1)) 4 (dp + 1) (rls lp) 6 (dp + 1) = 0 := by rw [uP_j _ (by omega)]; exact k6
          have k0' : uP (nwK K3 (dp + 1) (pn + 1)) 4 (dp + 1) (rls lp) 0 (dp + 1) = 35 := by rw [uP_j _ (by omega)]; exact k0
          by_cases c41 : chr t n x.2.1 = 41
          · rw [if_pos c41]
            have l4 := chr_lt c41 (by decide)
            refine ⟨fun y hy => ?_, nofun⟩
            cases hy
            obtain ⟨S7, f1, f2, f3⟩ := go_cl q e ht d2 (by omega) d6 (by rw [k0']; decide) k6' (by rw [k0']; exact c41)
            have lo6 (j p : Nat) (hp : p < pn) : P6 j p = attP P K dp pn j p := by
              rw [d9 j p (by omega) (by omega), uP_p _ (by omega), show nwP P3 (pn + 1) j p = P3 j p from mkP_o _ (by omega), hP3, attP_lo (mkP_lo P) j p hp]
            have p6 (j : Nat) (hj : j ≠ 2) : P6 j pn = mkP P pn 12 (chr t n (at' + 1) - 48) 4294966784 j pn := by
              rw [d9 j pn (by omega) (by omega), uP_j _ hj, nw, hP3, hi]
            have p62 : P6 2 pn = pn + 1 := by rw [d9 2 pn (by omega) (by omega), uP_s]
            have q1 : P6 0 (pn + 1) = 11 := by rw [d9 0 (pn + 1) (by omega) (by omega), uP_j _ (by omega)]; exact nw1.1
            have x21 : at' + 3 < x.2.1 := d5
            refine ⟨S7, ⟨gr_tr (gr_tr g5 d1) f1, pn6, P6, RS_P ?_ (fun _ _ _ => rfl) (fun j l hl => (kk j l hl).symm), by omega, show 2 * pn6 + 1 + 3 * at' ≤ 3 * (x.2.1 + 1) + 2 * pn by omega, show at' < x.2.1 + 1 by omega, l4, d7, d8, lo6, ?_, ?_, ?_, sR_hd (by omega) (by unfold sfe; rw [p6 0 (by omega), m.1, p6 1 (by omega), m.2.1, p62]; exact ⟨by decide, nofun, nofun, fun _ => by omega, fun _ => by omega, nofun, nofun, nofun, nofun, nofun⟩) (Or.inl (by rw [p6 3 (by omega)]; exact m.2.2.2.1)) (sR_hd (by omega) (sfe_ty q1 d10 d11) (Or.inl (by rw [d9 3 (pn + 1) (by omega) (by omega), uP_j _ (by omega)]; exact nw1.2.2.2.1)) dBB)⟩, ?_⟩
            · have : (al + bif bar K dp then 1 else 0) = al + (bar K dp).toNat + (bif false then x.1.length else 0) := by cases bar K dp <;> rfl
              show RS S7 t n (x.2.1 + 1) 0 dp (al + bif bar K dp then 1 else 0) pn6 x.2.2.1 x.2.2.2 P6 _
              rw [this]
              exact f2
            · have hany : anyS [(at', x.2.1 + 1, 35, tgS (chr t n (at' + 1) - 48) x.1)] = tgS (chr t n (at' + 1) - 48) x.1 := by
                funext c i lv
                exact Bool.or_false _
              show denP t P6 pn pn6 (anyS [(at', x.2.1 + 1, 35, tgS (chr t n (at' + 1) - 48) x.1)])
              rw [hany]
              refine denP_tg (by rw [p6 0 (by omega)]; exact m.1) (by rw [p6 1 (by omega)]; exact m.2.1) p62 (Nat.lt_succ_self _) (Nat.le_refl pn6) (by omega) ?_
              rw [← d12]
              exact denP_ty (by omega) q1 d10 d11 (by omega)
            · rw [p6 3 (by omega)]; exact m.2.2.2.1
            · show sgl P6 pn = kep [(at', x.2.1 + 1, 35, tgS (chr t n (at' + 1) - 48) x.1)] at'
              unfold sgl
              rw [p6 0 (by omega), m.1]
              show false = (decide (at' = at') && (decide (35 = 48) || decide (35 = 34)))
              rw [decide_eq_true rfl]
              rfl
            · rw [e5, d14, f3]
          · rw [if_neg c41]
            refine ⟨nofun, fun _ => ?_⟩
            have gx := go_nx q e ht d2 (by omega) d6 (by rw [k0']; decide) k6' d13 (fun z => by rw [k0'] at z; omega) (fun z => by rw [k0'] at z; exact c41 z.2)
            rw [if_neg (by omega)] at gx
            exact ⟨ab_wi S6 117 16 (n32 1), gr_wi (gr_tr g5 d1) _ (by omega), by rw [e5, d14, gx]⟩
    · have hb : btw t n A false (at' + 2, ld, br) = none := if_neg c40
      rw [hb]
      have : (if f = 0 then (none : Option (List alt × pst)) else match (none : Option (List alt × pst)) with | none => none | some x => some ([(at', x.2.1, 35, tgS (chr t n (at' + 1) - 48) x.1)], x.2)) = none := by split <;> rfl
      rw [this]
      refine ⟨nofun, fun _ => bad ?_⟩
      rw [e0, if_neg c40, ite_self, ite_self]
  · rw [if_neg dg1]
    refine ⟨nofun, fun _ => bad ?_⟩
    rw [e0, if_neg dg1, ite_self]
