-- The reference reads types: arrays and maps, whole types.
theorem rprl_v (q e : Nat) {t : Nat → Nat} {n : Nat} (ht : tok t n) {dp : Nat} (hdp : dp + 1 ≤ 4) {A : rdA} (hA : rAl q e t n (dp + 1) A) (mp : Bool) {arr at0 : Nat} : ∀ k j l S at' al pn ld br P K L, j + k = 6 → l.length = j → RS S t n at' 0 (dp + 1) al pn ld br P K → at' ≤ n → ld < 256 → br < 256 → pn ≤ 1 + 3 * at' → (∀ l, l ≤ dp + 1 → K 0 l < 128) → bar K (dp + 1) = false → K 0 (dp + 1) = (bif mp then 123 else 91) → K 3 (dp + 1) = L → K 5 (dp + 1) = j → K 6 (dp + 1) = 0 → rpl t P mp (arr + 1) l (P 1 arr) pn L → P 3 L = 4294967295 → chr t n at' ≠ 47 → 2 * pn + 3 * at0 ≤ 3 * at' + 2 * arr + 2 → sR t P (arr + 1) pn L →
    (∀ y, prl t n A mp k l (at', ld, br) = some y → chr t n y.2.1 = (bif mp then 125 else 93) → ∃ S' pn' P' K', gr S S' ∧ RS S' t n (y.2.1 + 1) 0 dp al pn' y.2.2.1 y.2.2.2 P' K' ∧ pn ≤ pn' ∧ 2 * pn' + 3 * at0 ≤ 3 * y.2.1 + 2 * arr + 2 ∧ at' ≤ y.2.1 ∧ y.2.1 < n ∧ y.2.2.1 < 256 ∧ y.2.2.2 < 256 ∧ rps t P' mp (arr + 1) y.1 (P' 1 arr) pn' ∧ y.1.length ≤ 6 ∧ (∀ j p, p ≤ arr → P' j p = P j p) ∧ (∀ j l, l ≤ dp → K' j l = K j l) ∧ sR t P' (arr + 1) pn' (arr + 1) ∧ GO q e S = GO q e S') ∧ ((∀ y, prl t n A mp k l (at', ld, br) = some y → chr t n y.2.1 ≠ (bif mp then 125 else 93)) → ∃ S', gr S S' ∧ GO q e S = some ((0, n32 0, 0, 0), S'))
  | k, j, l, S, at', al, pn, ld, br, P, K, L, ej, hl, h, ha, h1, h2, hpn, hk, hbar, hb, hL, h5, h6, hP, h3, c47, hcount, hbB => by
    have n40 := ht.1
    have li := rpl_in l _ _ _ _ hP
    have cb : cls (K 0 (dp + 1)) = (bif mp then 125 else 93) := by rw [hb]; cases mp <;> rfl
    have hbb : K 0 (dp + 1) = 91 ∨ K 0 (dp + 1) = 123 := by rw [hb]; cases mp; exact Or.inl rfl; exact Or.inr rfl
    -- not a comma
    have stop (c44 : chr t n at' ≠ 44) : (∀ y, some (l, (at', ld, br)) = some y → chr t n y.2.1 = (bif mp then 125 else 93) → ∃ S' pn' P' K', gr S S' ∧ RS S' t n (y.2.1 + 1) 0 dp al pn' y.2.2.1 y.2.2.2 P' K' ∧ pn ≤ pn' ∧ 2 * pn' + 3 * at0 ≤ 3 * y.2.1 + 2 * arr + 2 ∧ at' ≤ y.2.1 ∧ y.2.1 < n ∧ y.2.2.1 < 256 ∧ y.2.2.2 < 256 ∧ rps t P' mp (arr + 1) y.1 (P' 1 arr) pn' ∧ y.1.length ≤ 6 ∧ (∀ j p, p ≤ arr → P' j p = P j p) ∧ (∀ j l, l ≤ dp → K' j l = K j l) ∧ sR t P' (arr + 1) pn' (arr + 1) ∧ GO q e S = GO q e S') ∧ ((∀ y, some (l, (at', ld, br)) = some y → chr t n y.2.1 ≠ (bif mp then 125 else 93)) → ∃ S', gr S S' ∧ GO q e S = some ((0, n32 0, 0, 0), S')) := by
      refine ⟨fun y hy hc => ?_, fun hn => ?_⟩
      · cases hy
        have hc : chr t n at' = (bif mp then 125 else 93) := hc
        have lt : at' < n := chr_lt hc (by cases mp <;> decide)
        obtain ⟨S', f1, f2, f3⟩ := go_cl q e ht h hdp ha (hk _ (Nat.le_refl _)) h6 (by rw [cb]; exact hc)
        exact ⟨S', pn, P, K, f1, f2, Nat.le_refl _, hcount, Nat.le_refl _, lt, h1, h2, rpl_cl l _ _ _ _ hP h3, by show l.length ≤ 6; omega, fun _ _ _ => rfl, fun _ _ _ => rfl, sR_any hbB, f3⟩
      · have hc : chr t n at' ≠ (bif mp then 125 else 93) := hn _ rfl
        have gx := go_nx q e ht h hdp ha (hk _ (Nat.le_refl _)) h6 c47 (fun z => c44 z.2) (fun z => by rw [cb] at z; exact hc z.2)
        rw [if_neg (by omega)] at gx
        exact ⟨ab_wi S 117 16 (n32 1), gr_wi (gr_rf S) _ (by omega), gx⟩
    by_cases c44 : chr t n at' = 44
    · have l1 := chr_lt c44 (by decide)
      have r1 := RS_at h (at' + 1)
      have g1 : gr S (ab_wi S 117 15 (n32 (at' + 1))) := gr_wi (gr_rf S) _ (by omega)
      have gc := go_co q e ht h hdp ha hbb h6 c44
      cases k with
      | zero =>
        refine ⟨fun y hy hc => ?_, fun _ => ?_⟩
        · cases hy
          have hc : chr t n at' = (bif mp then 125 else 93) := hc
          rw [c44] at hc
          cases mp <;> exact absurd hc (by decide)
        · obtain ⟨S2, a1, a2, a3⟩ := np_v q (e + 1) ht r1 hdp (by omega) (by omega) l1 (by omega) (!mp) (by rw [hb]; cases mp <;> rfl) (Or.inr (by omega))
          rw [if_pos (by omega)] at a2
          refine ⟨S2, gr_tr g1 a1, ?_⟩
          rw [gc, a3, cV_0, cI_0, if_neg one_z, fin_L, lt_bd q e a2.2.2.2.1]
      | succ k =>
        obtain ⟨S2, a1, a2, a3, a4, a5⟩ := rnp_v q e ht hdp (by omega) hA mp (x0 := at') r1 l1 h1 h2 (by omega) hk hbar hb (by omega) (Or.inr (by omega))
        have e1 : GO q e S = LT q e S2 := by
          rw [gc, a2, cV_0, cI_0, if_neg one_z, fin_L]
        unfold prl
        show (∀ y, (if chr t n at' = 44 then (match prR t n A mp at' (at' + 1, ld, br) with | none => none | some x => prl t n A mp k (l ++ [x.1]) x.2) else some (l, (at', ld, br))) = some y → _) ∧ ((∀ y, (if chr t n at' = 44 then (match prR t n A mp at' (at' + 1, ld, br) with | none => none | some x => prl t n A mp k (l ++ [x.1]) x.2) else some (l, (at', ld, br))) = some y → _) → _)
        rw [if_pos c44]
        cases hx : prR t n A mp at' (at' + 1, ld, br) with
        | none =>
          obtain ⟨S', f1, f2⟩ := a5 (fun y hy => by rw [hx] at hy; cases hy)
          exact ⟨nofun, fun _ => ⟨S', gr_tr g1 f1, e1.trans f2⟩⟩
        | some x =>
          show (∀ y, prl t n A mp k (l ++ [x.1]) x.2 = some y → _) ∧ ((∀ y, prl t n A mp k (l ++ [x.1]) x.2 = some y → _) → _)
          by_cases dg : dig (chr t n x.2.1) = true
          · have d' := dig_c dg
            have px : prl t n A mp k (l ++ [x.1]) x.2 = some (l ++ [x.1], x.2) := by
              cases k with
              | zero => rfl
              | succ k => exact if_neg (by omega)
            refine ⟨fun y hy hc => ?_, fun _ => ?_⟩
            · rw [px] at hy
              cases hy
              have hc : chr t n x.2.1 = (bif mp then 125 else 93) := hc
              cases mp
              · have hc : chr t n x.2.1 = 93 := hc
                omega
              · have hc : chr t n x.2.1 = 125 := hc
                omega
            · obtain ⟨S', f1, f2⟩ := a5 (fun y hy => by rw [hx] at hy; cases hy; exact dg)
              exact ⟨S', gr_tr g1 f1, e1.trans f2⟩
          · obtain ⟨S3, pn3, P3, K3, c1, c2, c3, c4, c5, c6, c7, c8, c9, c10, c11, c12, c13, c14, c15, c16, c17, c18, cBB, c19⟩ := a4 x hx ((Bool.not_eq_true _).mp dg)
            have nL : ¬ K 3 (dp + 1) = 4294967295 := by omega
            have lo (j p : Nat) (hp : p < pn) : P3 j p = uP P 3 L pn j p := by
              rw [c11 j p hp, if_neg nL, hL]
            have rp3 : rpl t P3 mp (arr + 1) (l ++ [x.1]) (P3 1 arr) pn3 pn := by
              have hb := rpl_fr (P' := P3) l _ _ _ _ hP (fun j y y1 y2 o => by
                rw [lo j y y2]
                exact if_neg (by omega))
              have e3 : P3 1 arr = P 1 arr := by rw [lo 1 arr (by omega), uP_j _ (by omega)]
              rw [e3]
              exact rpl_ap (by omega) c9 l _ _ _ _ hb (by rw [lo 3 L (by omega), uP_s]) (Nat.le_refl _)
            obtain ⟨m1, m2⟩ := rprl_v q e ht hdp hA mp (arr := arr) (at0 := at0) k (j + 1) (l ++ [x.1]) S3 x.2.1 al pn3 x.2.2.1 x.2.2.2 P3 K3 pn (by omega) (by rw [List.length_append, hl]; rfl) c2 c6 c7 c8 (by omega) (fun l hl => by
              by_cases z : l = dp + 1
              · rw [z, c13]; exact hk _ (Nat.le_refl _)
              · rw [c12 0 l (by omega)]; exact hk l hl) (by
              rw [bar_cg (K := K) (dp + 1) (fun l hl => by
                by_cases z : l = dp + 1
                · rw [z, c13]
                · rw [c12 0 l (by omega)])]
              exact hbar) (c13.trans hb) c15 (by omega) c17 rp3 c10 c18 (by omega) (sR_ap (by omega) (sR_fr hbB (Or.inr (by rw [lo 3 L li.2, uP_s]; omega)) (fun j y y1 y2 o => by rw [lo j y y2]; exact if_neg (by omega))) cBB)
            have e3 : GO q e S = GO q e S3 := e1.trans c19
            refine ⟨fun y hy hc => ?_, fun hn => ?_⟩
            · obtain ⟨S', pn', P', K', d1, d2, d3, d4, d5, d6, d7, d8, d9, d10, d11, d12, dBB, d13⟩ := m1 y hy hc
              refine ⟨S', pn', P', K', gr_tr (gr_tr g1 c1) d1, d2, by omega, d4, by omega, d6, d7, d8, d9, d10, fun j p hp => ?_, fun j l hl => ?_, dBB, e3.trans d13⟩
              · rw [d11 j p hp, lo j p (by omega), uP_p _ (by omega)]
              · rw [d12 j l hl, c12 j l (by omega)]
            · obtain ⟨S', d1, d2⟩ := m2 hn
              exact ⟨S', gr_tr (gr_tr g1 c1) d1, e3.trans d2⟩
    · have px : prl t n A mp k l (at', ld, br) = some (l, (at', ld, br)) := by
        cases k with
        | zero => rfl
        | succ k => exact if_neg c44
      rw [px]
      exact stop c44
theorem sfe_ar {t : Nat → Nat} {P : Nat → Nat → Nat} {y e : Nat} {mp : Bool} (h0 : P 0 y = (bif mp then 9 else 8)) {n : Nat} (hn : n ≤ 6) (h : rch P mp n (y + 1) (P 1 y) e) : sfe t P y e := by
  unfold sfe
  rw [h0]
  cases mp
  · exact ⟨by decide, nofun, nofun, nofun, nofun, nofun, fun _ => ⟨n, hn, h⟩, nofun, nofun, nofun⟩
  · exact ⟨by decide, nofun, nofun, nofun, nofun, nofun, nofun, fun _ => ⟨n, hn, h⟩, nofun, nofun⟩
theorem rpt_v (q e : Nat) {t : Nat → Nat} {n : Nat} (ht : tok t n) {dp f : Nat} (hf : dp + f = 4) {A : rdA} (hA : 0 < f → rAl q e t n (dp + 1) A) (mp : Bool) {S : ab_S} {at' al pn ld br : Nat} {P K : Nat → Nat → Nat} (h : RS S t n at' 0 dp al pn ld br P K) (ha : at' ≤ n) (h1 : ld < 256) (h2 : br < 256) (hpn : pn ≤ 1 + 3 * at') (hw : wfL P K pn dp) (hk : ∀ l, l ≤ dp → K 0 l < 128) (hc : chr t n at' = (bif mp then 123 else 91)) : rC q e t n S at' dp al pn P K (bar K dp) (if f = 0 then none else match pts t n A mp (bif mp then 125 else 93) (at', ld, br) with | none => none | some x => some ([(at', x.2.1, (bif mp then 123 else 91), pSm mp x.1)], x.2)) := by
  have n40 := ht.1
  have lt : at' < n := chr_lt hc (by cases mp <;> decide)
  have r1 := RS_at (RS_al h (al + (bar K dp).toNat)) (at' + 1)
  have g1 : gr S (ab_wi (ab_wi S 117 18 (n32 (al + (bar K dp).toNat))) 117 15 (n32 (at' + 1))) := gr_wi (gr_wi (gr_rf S) _ (by omega)) _ (by omega)
  obtain ⟨S2, a1, a2, a3⟩ := mk_v q (e + 3) r1 (by omega : pn < 128) (bif mp then 9 else 8) 4294967295 0
  have m := mkP_s P pn (bif mp then 9 else 8) 4294967295 0
  have a3' : v_81_0 q (e + 3) (n32 (bif mp then 9 else 8)) (i32 (-1)) (n32 0) (ab_wi (ab_wi S 117 18 (n32 (al + (bar K dp).toNat))) 117 15 (n32 (at' + 1))) = some ((0, n32 (512 + pn), 0, 0), S2) := by
    rw [n32_m1]
    cases mp
    · exact a3
    · exact a3
  have e1 : LT q e S = (cI (cV (v_85_0 q (e + 3) (n32 (512 + pn)) S2) fun S2 => (cV (v_82_0 q (e + 3) (n32 (bif mp then 123 else 91)) (n32 (512 + pn)) S2) fun S3 => (if (S3.1 117 16) = (n32 0) then (v_93_103 q (e + 4) (n32 (bif mp then 125 else 93)) S3) else (v_93_121 q (e + 4) S3)))) fun y2 S2 => (if y2 = (n32 0) then (v_95_104 q (e + 5) (n32 0) S2) else (v_95_99 q (e + 5) S2))) := by
    have q15 : (ab_wi S 117 18 (n32 (al + (bar K dp).toNat))).1 117 15 = n32 at' := h.2.2.1
    have e17 : v_93_17 q (e + 4) (n32 (bif mp then 123 else 91)) S = v_93_38 q (e + 4) (n32 (bif mp then 123 else 91)) (n32 (al + (bar K dp).toNat)) S := by
      rw [e_93_17, bar_v q _ h (by omega) (fun l _ hl => hk l hl), cI_0, i_bz, h.2.2.2.2.2.1, n32_add]
      cases bar K dp <;> rfl
    have e38 : v_93_38 q (e + 4) (n32 (bif mp then 123 else 91)) (n32 (al + (bar K dp).toNat)) S = v_93_65 q (e + 4) (n32 (bif mp then 123 else 91)) (n32 (bif mp then 9 else 8)) (ab_wi (ab_wi S 117 18 (n32 (al + (bar K dp).toNat))) 117 15 (n32 (at' + 1))) := by
      rw [e_93_38, h.2.2.1, n32_add]
      cases mp
      · exact if_pos rfl
      · exact if_neg (by decide)
    have e65 : v_93_65 q (e + 4) (n32 (bif mp then 123 else 91)) (n32 (bif mp then 9 else 8)) (ab_wi (ab_wi S 117 18 (n32 (al + (bar K dp).toNat))) 117 15 (n32 (at' + 1))) = (cV (v_85_0 q (e + 3) (n32 (512 + pn)) S2) fun S2 => (cV (v_82_0 q (e + 3) (n32 (bif mp then 123 else 91)) (n32 (512 + pn)) S2) fun S3 => (if (S3.1 117 16) = (n32 0) then (v_93_103 q (e + 4) (n32 (bif mp then 125 else 93)) S3) else (v_93_121 q (e + 4) S3)))) := by
      rw [e_93_65, a3', cI_0]
      congr 1
      funext S5
      congr 1
      funext S6
      cases mp
      · rw [if_pos (show n32 (bif false then 123 else 91) = n32 91 from rfl)]
        rfl
      · rw [if_neg (show ¬ n32 (bif true then 123 else 91) = n32 91 by decide)]
        rfl
    have cc : isg (chr t n at') = false ∧ chr t n at' ≠ 45 ∧ dig (chr t n at') = false ∧ chr t n at' ≠ 34 ∧ (chr t n at' < 65 ∨ 72 < chr t n at') := by
      rw [hc]
      cases mp <;> decide
    rw [lt_op q e ht h ha cc.1 cc.2.1 cc.2.2.1 cc.2.2.2.1 cc.2.2.2.2, e_93_0, lk_v q _ ht h ha, cI_0, hc, e17, e38, e65]
    cases mp
    · rw [if_pos (show n32 (bif false then 123 else 91) = n32 91 from rfl)]
    · rw [if_neg (show ¬ n32 (bif true then 123 else 91) = n32 91 by decide), if_pos (show n32 (bif true then 123 else 91) = n32 123 from rfl)]
  obtain ⟨o4, o3⟩ := opn_v q (e + 3) a2 (by omega) (by omega) hw (mkP_lo P) (bif mp then 123 else 91)
  by_cases f0 : f = 0
  · rw [if_pos f0]
    obtain ⟨S3, b1, b2, b3⟩ := o4 (by omega)
    refine ⟨nofun, fun _ => ⟨S3, gr_tr (gr_tr g1 a1) b1, ?_⟩⟩
    rw [e1, b3, b2, if_neg one_z, e_93_121, b2, if_neg one_z, e_93_132, cI_0, if_pos rfl, fin_b q e b2]
  rw [if_neg f0]
  obtain ⟨S3, b1, b2, b3⟩ := o3 (by omega)
  have g3 := gr_tr (gr_tr g1 a1) b1
  have ps := psh_s (attK K dp pn) (dp + 1) (bif mp then 123 else 91) pn
  have hi (j : Nat) : attP (mkP P pn (bif mp then 9 else 8) 4294967295 0) K dp pn j pn = mkP P pn (bif mp then 9 else 8) 4294967295 0 j pn := attP_hi hw (by omega) j pn (Nat.le_refl _) (by omega)
  have bk : bar (pshK (attK K dp pn) (dp + 1) (bif mp then 123 else 91) pn) (dp + 1) = false := by
    rw [bar_psh, decide_eq_false (by cases mp <;> decide), Bool.and_false]
  have hk3 : ∀ l, l ≤ dp + 1 → pshK (attK K dp pn) (dp + 1) (bif mp then 123 else 91) pn 0 l < 128 := fun l hl => by
    by_cases el : l = dp + 1
    · rw [el, ps.1]; cases mp <;> decide
    · rw [psh_o _ el, attK_6 _ _ _ _ _ (by omega)]; exact hk l (by omega)
  have e2 : LT q e S = (cI (v_93_103 q (e + 4) (n32 (bif mp then 125 else 93)) S3) fun y2 S2 => (if y2 = (n32 0) then (v_95_104 q (e + 5) (n32 0) S2) else (v_95_99 q (e + 5) S2))) := by
    rw [e1, b3, b2.2.2.2.1, if_pos rfl]
  have hany (y1 : Nat) (m' : Sem) : anyS [(at', y1, (bif mp then 123 else 91), m')] = m' := by
    funext c i lv
    exact Bool.or_false _
  have hkp (y1 : Nat) (m' : Sem) : kep [(at', y1, (bif mp then 123 else 91), m')] at' = false := by
    show (decide (at' = at') && (decide ((bif mp then 123 else 91) = 48) || decide ((bif mp then 123 else 91) = 34))) = false
    rw [decide_eq_true rfl]
    cases mp <;> rfl
  have hal : (al + bif bar K dp then 1 else 0) = al + (bar K dp).toNat := by cases bar K dp <;> rfl
  have den (P' : Nat → Nat → Nat) (pn' : Nat) (lsx : List prt) (hp : pn < pn') (k0 : P' 0 pn = (bif mp then 9 else 8)) (hl : lsx.length ≤ 6) (hr : rps t P' mp (pn + 1) lsx (P' 1 pn) pn') : denP t P' pn pn' (pSm mp lsx) := by
    cases mp
    · exact denP_ar hp k0 hl hr
    · exact denP_ma hp k0 hl hr
  unfold pts
  show rC q e t n S at' dp al pn P K (bar K dp) (match (if chr t n (at' + 1) = (bif mp then 125 else 93) then some ([], (at' + 2, ld, br)) else (match prR t n A mp at' (at' + 1, ld, br) with | none => none | some x => (match prl t n A mp 5 [x.1] x.2 with | none => none | some y => if chr t n y.2.1 = (bif mp then 125 else 93) then some (y.1, (y.2.1 + 1, y.2.2)) else none))) with | none => none | some x => some ([(at', x.2.1, (bif mp then 123 else 91), pSm mp x.1)], x.2))
  by_cases cl : chr t n (at' + 1) = (bif mp then 125 else 93)
  · rw [if_pos cl]
    have l2 : at' + 1 < n := chr_lt cl (by cases mp <;> decide)
    refine ⟨fun y hy => ?_, nofun⟩
    cases hy
    have r4 := RS_dp (RS_at b2 (at' + 1 + 1)) (Nat.le_succ dp)
    have q17 : (ab_wi S3 117 15 (n32 (at' + 1 + 1))).1 117 17 = n32 (dp + 1) := b2.2.2.2.2.1
    refine ⟨ab_wi (ab_wi S3 117 15 (n32 (at' + 1 + 1))) 117 17 (n32 dp), ⟨gr_wi (gr_wi g3 _ (by omega)) _ (by omega), pn + 1, attP (mkP P pn (bif mp then 9 else 8) 4294967295 0) K dp pn, RS_P (K := pshK (attK K dp pn) (dp + 1) (bif mp then 123 else 91) pn) ?_ (fun _ _ _ => rfl) (fun j l hl => (psh_o _ (by omega)).symm), Nat.lt_succ_self _, show 2 * (pn + 1) + 1 + 3 * at' ≤ 3 * (at' + 2) + 2 * pn by omega, show at' < at' + 2 by omega, l2, h1, h2, fun j p hp => attP_lo (mkP_lo P) j p hp, ?_, by rw [hi]; exact m.2.2.2.1, ?_, sR_1 (sfe_ar (by rw [hi]; exact m.1) (n := 0) (by omega) (by rw [hi]; exact m.2.1)) (Or.inl (by rw [hi]; exact m.2.2.2.1))⟩, ?_⟩
    · show RS _ t n (at' + 2) 0 dp (al + bif bar K dp then 1 else 0) (pn + 1) ld br _ _
      rw [hal]
      exact r4
    · show denP t _ pn (pn + 1) (anyS [(at', at' + 2, (bif mp then 123 else 91), pSm mp [])])
      rw [hany]
      exact den _ _ [] (Nat.lt_succ_self _) (by rw [hi]; exact m.1) (by show 0 ≤ 6; omega) ⟨by rw [hi]; exact m.2.1, Nat.le_refl _⟩
    · show sgl _ pn = kep [(at', at' + 2, (bif mp then 123 else 91), pSm mp [])] at'
      rw [hkp]
      unfold sgl
      rw [hi, m.1]
      cases mp <;> rfl
    · rw [e2, e_93_103, tk_v q _ ht b2 (by omega) (by cases mp <;> decide), if_pos cl, cI_0, if_neg one_z, q17, n32_sub (by omega), show dp + 1 - 1 = dp by omega, cI_0, if_neg one_z, e_95_99, fin_G q e r4.2.2.2.1]
  · rw [if_neg cl]
    obtain ⟨S4, c1, c2, c3, c4, c5⟩ := rnp_v q e ht (by omega) (by omega) (hA (by omega)) mp (x0 := at') b2 (by omega : at' + 1 ≤ n) h1 h2 (by omega) hk3 bk ps.1 (by rw [ps.2.2.2.2.2.1]; omega) (Or.inl ⟨ps.2.2.2.1, by rw [ps.2.1]; exact Nat.lt_succ_self _, by rw [ps.2.1, hi]; exact m.1⟩)
    have e3 : LT q e S = LT q e S4 := by
      rw [e2, e_93_103, tk_v q _ ht b2 (by omega) (by cases mp <;> decide), if_neg cl, cI_0, if_pos rfl, e_93_121, b2.2.2.2.1, if_pos rfl, c2, cV_0, e_93_132, cI_0, if_pos rfl, lt_n q e c3]
    cases hx : prR t n A mp at' (at' + 1, ld, br) with
    | none =>
      obtain ⟨S', f1, f2⟩ := c5 (fun y hy => by rw [hx] at hy; cases hy)
      exact ⟨nofun, fun _ => ⟨S', gr_tr g3 f1, e3.trans f2⟩⟩
    | some x =>
      show rC q e t n S at' dp al pn P K (bar K dp) (match (match prl t n A mp 5 [x.1] x.2 with | none => none | some y => if chr t n y.2.1 = (bif mp then 125 else 93) then some (y.1, (y.2.1 + 1, y.2.2)) else none) with | none => none | some x => some ([(at', x.2.1, (bif mp then 123 else 91), pSm mp x.1)], x.2))
      by_cases dg : dig (chr t n x.2.1) = true
      · have d' := dig_c dg
        have px : prl t n A mp 5 [x.1] x.2 = some ([x.1], x.2) := if_neg (by omega)
        have nc : ¬ chr t n x.2.1 = (bif mp then 125 else 93) := by
          cases mp
          · show ¬ chr t n x.2.1 = 93
            omega
          · show ¬ chr t n x.2.1 = 125
            omega
        rw [px]
        show rC q e t n S at' dp al pn P K (bar K dp) (match (if chr t n x.2.1 = (bif mp then 125 else 93) then some ([x.1], (x.2.1 + 1, x.2.2)) else none) with | none => none | some x => some ([(at', x.2.1, (bif mp then 123 else 91), pSm mp x.1)], x.2))
        rw [if_neg nc]
        obtain ⟨S', f1, f2⟩ := c5 (fun y hy => by rw [hx] at hy; cases hy; exact dg)
        exact ⟨nofun, fun _ => ⟨S', gr_tr g3 f1, e3.trans f2⟩⟩
      · obtain ⟨S5, pn5, P5, K5, d1, d2, d3, d4, d5, d6, d7, d8, d9, d10, d11, d12, d13, d14, d15, d16, d17, d18, dBB, d19⟩ := c4 x hx ((Bool.not_eq_true _).mp dg)
        have e5 : LT q e S = GO q e S5 := e3.trans d19
        have lo (j p : Nat) (hp : p < pn + 1) : P5 j p = uP (attP (mkP P pn (bif mp then 9 else 8) 4294967295 0) K dp pn) 1 pn (pn + 1) j p := by
          rw [d11 j p hp, if_pos ps.2.2.2.1, ps.2.1]
        have rp5 : rpl t P5 mp (pn + 1) [x.1] (P5 1 pn) pn5 (pn + 1) := by
          rw [lo 1 pn (Nat.lt_succ_self _), uP_s]
          exact ⟨Nat.le_refl _, pn5, by omega, d9, Or.inl ⟨rfl, rfl, Nat.le_refl _⟩⟩
        have k5 : K5 5 (dp + 1) = 1 := by rw [d16, ps.2.2.2.2.2.1]
        obtain ⟨m1, m2⟩ := rprl_v q e ht (by omega : dp + 1 ≤ 4) (hA (by omega)) mp (arr := pn) (at0 := at') 5 1 [x.1] S5 x.2.1 _ pn5 x.2.2.1 x.2.2.2 P5 K5 (pn + 1) rfl rfl d2 d6 d7 d8 (by omega) (fun l hl => by
          by_cases z : l = dp + 1
          · rw [z, d13]; exact hk3 _ (Nat.le_refl _)
          · rw [d12 0 l (by omega)]; exact hk3 l hl) (by
          rw [bar_cg (K := pshK (attK K dp pn) (dp + 1) (bif mp then 123 else 91) pn) (dp + 1) (fun l hl => by
            by_cases z : l = dp + 1
            · rw [z, d13]
            · rw [d12 0 l (by omega)])]
          exact bk) (d13.trans ps.1) d15 k5 d17 rp5 d10 d18 (by omega) dBB
        have m1' : ∀ y, prl t n A mp 5 [x.1] x.2 = some y → _ := m1
        have m2' : (∀ y, prl t n A mp 5 [x.1] x.2 = some y → _) → _ := m2
        cases hL : prl t n A mp 5 [x.1] x.2 with
        | none =>
          obtain ⟨S', f1, f2⟩ := m2' (fun y hy => by rw [hL] at hy; cases hy)
          exact ⟨nofun, fun _ => ⟨S', gr_tr (gr_tr g3 d1) f1, e5.trans f2⟩⟩
        | some y =>
          show rC q e t n S at' dp al pn P K (bar K dp) (match (if chr t n y.2.1 = (bif mp then 125 else 93) then some (y.1, (y.2.1 + 1, y.2.2)) else none) with | none => none | some x => some ([(at', x.2.1, (bif mp then 123 else 91), pSm mp x.1)], x.2))
          by_cases nc : chr t n y.2.1 = (bif mp then 125 else 93)
          · rw [if_pos nc]
            refine ⟨fun y' hy' => ?_, nofun⟩
            cases hy'
            obtain ⟨S6, pn6, P6, K6, f1, f2, f3, f4, f5, f6, f7, f8, f9, f10, f11, f12, fBB, f13⟩ := m1' y hL nc
            have p6 (j : Nat) (hj : j ≠ 1) : P6 j pn = mkP P pn (bif mp then 9 else 8) 4294967295 0 j pn := by
              rw [f11 j pn (Nat.le_refl _), lo j pn (Nat.lt_succ_self _), uP_j _ hj, hi]
            refine ⟨S6, ⟨gr_tr (gr_tr g3 d1) f1, pn6, P6, RS_P (K := K6) ?_ (fun _ _ _ => rfl) (fun j l hl => ?_), by omega, show 2 * pn6 + 1 + 3 * at' ≤ 3 * (y.2.1 + 1) + 2 * pn by omega, show at' < y.2.1 + 1 by omega, f6, f7, f8, fun j p hp => ?_, ?_, by rw [p6 3 (by omega)]; exact m.2.2.2.1, ?_, sR_hd (by omega) (sfe_ar (by rw [p6 0 (by omega)]; exact m.1) f10 (rps_ch y.1 _ _ _ f9)) (Or.inl (by rw [p6 3 (by omega)]; exact m.2.2.2.1)) fBB⟩, e5.trans f13⟩
            · show RS _ t n (y.2.1 + 1) 0 dp (al + bif bar K dp then 1 else 0) pn6 y.2.2.1 y.2.2.2 _ _
              rw [hal]
              exact f2
            · rw [f12 j l hl, d12 j l (by omega), psh_o _ (by omega)]
            · rw [f11 j p (by omega), lo j p (by omega), uP_p _ (by omega), attP_lo (mkP_lo P) j p hp]
            · show denP t P6 pn pn6 (anyS [(at', y.2.1 + 1, (bif mp then 123 else 91), pSm mp y.1)])
              rw [hany]
              exact den _ _ y.1 (by omega) (by rw [p6 0 (by omega)]; exact m.1) f10 f9
            · show sgl P6 pn = kep [(at', y.2.1 + 1, (bif mp then 123 else 91), pSm mp y.1)] at'
              rw [hkp]
              unfold sgl
              rw [p6 0 (by omega), m.1]
              cases mp <;> rfl
          · rw [if_neg nc]
            obtain ⟨S', f1, f2⟩ := m2' (fun y' hy' => by rw [hL] at hy'; cases hy'; exact nc)
            exact ⟨nofun, fun _ => ⟨S', gr_tr (gr_tr g3 d1) f1, e5.trans f2⟩⟩
