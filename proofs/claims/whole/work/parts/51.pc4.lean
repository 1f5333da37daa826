-- The class reads types: all alternatives.
theorem lnp_a2 {q r : Nat} {S S' : ab_S} {mp : Bool} {p' : prt} : ∀ ps a b, ps ≠ [] → dPs q r S mp a ps b → (∀ y, a ≤ y → y < b → y ≠ lsp ps → S'.1 (r + 10) y = S.1 (r + 10) y) → S'.1 (r + 10) (lsp ps) = n32 p'.1 → S'.1 (r + 10) p'.1 = n32 4294967295 → lnp r S ps → lnp r S' (ps ++ [p'])
  | [], _, _, h, _, _, _, _, _ => absurd rfl h
  | [p], a, b, _, h, hg, h1, h10, hl => ⟨h1, h10, trivial⟩
  | p :: p2 :: ps, a, b, _, h, hg, h1, h10, hl => by
    obtain ⟨k1, e, k2, k3, k4, k5⟩ := h
    have k := lsp_in (p2 :: ps) e b nofun k5
    exact ⟨(hg p.1 k1 (by omega) (by show p.1 ≠ lsp (p2 :: ps); omega)).trans hl.1, lnp_a2 (p2 :: ps) e b nofun k5 (fun y y1 y2 y3 => hg y (by omega) y2 y3) h1 h10 hl.2⟩
theorem dPs_up {q r : Nat} {S : ab_S} {mp : Bool} {c : Nat} : ∀ ps a b, b ≤ c → dPs q r S mp a ps b → dPs q r S mp a ps c
  | [], _, _, h, k => Nat.le_trans k h
  | p :: ps, a, b, h, k => by
    obtain ⟨h1, e, h2, h3, h4, h5⟩ := k
    exact ⟨h1, e, h2, h3, h4, dPs_up ps e b h h5⟩
theorem prl_v {q r : Nat} (hr : isSh r) {t : Nat → Nat} {n : Nat} (ht : tok t n) {dp D : Nat} (hdp : dp < 4) {A : rdA} (h : hA q r t n (dp + 1) D A) (hD : 1 ≤ D) {d : Nat} (hd : D + 2 ≤ d) (mp : Bool) (cl : Int32) (x0 : Nat) : ∀ k j l S s, j + k = 6 → l.length = j → l ≠ [] → dPs q r S mp x0 l s.1 → lnp r S l → rdr r t n S s → s.1 ≤ n → s.2.1 < 256 → s.2.2 < 256 →
    (prl t n A mp k l s = none → ∃ S', ff r S S' ∧ v_52_89 q (d + 1) (n32 (bif mp then 123 else 91)) cl (n32 dp) (n32 (lsp l)) (n32 j) S = some ((1, 0, 0, 0), S')) ∧ ∀ y, prl t n A mp k l s = some y → s.1 ≤ y.2.1 ∧ y.2.1 ≤ n ∧ y.2.2.1 < 256 ∧ y.2.2.2 < 256 ∧ fsp y.1 = fsp l ∧ y.1.length ≤ 6 ∧ ∃ S', pf r x0 y.2.1 S S' ∧ rdr r t n S' y.2 ∧ dPs q r S' mp x0 y.1 y.2.1 ∧ lnp r S' y.1 ∧ (S'.1 (r + 2) x0 = S.1 (r + 2) x0 ∧ S'.1 (r + 4) x0 = S.1 (r + 4) x0) ∧ v_52_89 q (d + 1) (n32 (bif mp then 123 else 91)) cl (n32 dp) (n32 (lsp l)) (n32 j) S = v_52_151 q (d + 1) cl S'
  | 0, j, l, S, s, e, hj, hl, hP, hN, hs, hn, h1, h2 => by
    refine ⟨nofun, fun y hy => ?_⟩
    cases hy
    refine ⟨Nat.le_refl _, hn, h1, h2, rfl, by show l.length ≤ 6; omega, S, pf_rf _ _ _ _, hs, hP, hN, ⟨rfl, rfl⟩, ?_⟩
    rw [e_52_89, if_neg (by rw [n32_lt (by omega) (by omega)]; omega)]
  | k + 1, j, l, S, s, e, hj, hl, hP, hN, hs, hn, h1, h2 => by
    have n40 := ht.1
    have g := sh_ne hr
    have g10 := g.2 10 (by omega) (by omega)
    have ll := lsp_in l _ _ hl hP
    have c126 := chr_le ht s.1
    unfold prl
    by_cases c : chr t n s.1 = 44
    · have l1 := chr_lt c (by decide)
      rw [if_pos c]
      have r0 := rdr_tb hr hs (k := 10) (by omega) (by omega) (lsp l) (n32 s.1)
      have r1 := rdr_mv hr r0 (s.1 + 1)
      have e1 : v_52_89 q (d + 1) (n32 (bif mp then 123 else 91)) cl (n32 dp) (n32 (lsp l)) (n32 j) S = (cV (v_53_0 q d (n32 s.1) (n32 (bif mp then 123 else 91)) (n32 (dp + 1)) (ab_wi (ab_wi S (r + 10) (lsp l) (n32 s.1)) 102 1 (n32 (s.1 + 1)))) fun S2 => (v_52_89 q (d + 1) (n32 (bif mp then 123 else 91)) cl (n32 dp) (n32 s.1) (n32 (j + 1)) S2)) := by
        rw [e_52_89, if_pos (by rw [n32_lt (by omega) (by omega)]; omega), he_v q d hr ht hs hn, cI_0, i_eq (by omega) (by omega), if_pos c, hs.1, ok_sh hr (k := 52) rfl, g_t, ok_a10 hr (k := 52) rfl, bl_ar hr 10, Bool.and_true, g_t, in_ar hr q (by omega : lsp l < 40) (by omega) (by omega), g_t, n32_cl (by omega), hs.2.1, r0.2.1, n32_add, n32_add, n32_add]
      rw [e1]
      have f1 : pf r x0 s.1 S (ab_wi (ab_wi S (r + 10) (lsp l) (n32 s.1)) 102 1 (n32 (s.1 + 1))) := pf_tr (pf_tb (p := x0) (p' := s.1) S (by omega) (by omega) ll.1 ll.2.1 _) (pf_102 r x0 s.1 _ (Or.inl rfl) _) (Nat.le_refl _) (Nat.le_refl _) (Nat.le_refl _) (Nat.le_refl _)
      have P1 : dPs q r (ab_wi (ab_wi S (r + 10) (lsp l) (n32 s.1)) 102 1 (n32 (s.1 + 1))) mp x0 l s.1 := dPs_fr l _ _ (fun j j1 j2 y _ _ => by have := g.2 j j1 j2; rw [wi_rd, if_neg (by omega)]) (dPs_nx l _ _ hl hP)
      have w1 : (ab_wi (ab_wi S (r + 10) (lsp l) (n32 s.1)) 102 1 (n32 (s.1 + 1))).1 (r + 10) (lsp l) = n32 s.1 := by rw [wi_rd, if_neg (by omega), wi_rd, if_pos ⟨rfl, rfl⟩]
      have g2 := g.2 2 (by omega) (by omega)
      have g4 := g.2 4 (by omega) (by omega)
      have w24 : (ab_wi (ab_wi S (r + 10) (lsp l) (n32 s.1)) 102 1 (n32 (s.1 + 1))).1 (r + 2) x0 = S.1 (r + 2) x0 ∧ (ab_wi (ab_wi S (r + 10) (lsp l) (n32 s.1)) 102 1 (n32 (s.1 + 1))).1 (r + 4) x0 = S.1 (r + 4) x0 := ⟨by rw [wi_rd, if_neg (by omega), wi_rd, if_neg (by omega)], by rw [wi_rd, if_neg (by omega), wi_rd, if_neg (by omega)]⟩
      have w2 : ∀ y, y ≠ lsp l → (ab_wi (ab_wi S (r + 10) (lsp l) (n32 s.1)) 102 1 (n32 (s.1 + 1))).1 (r + 10) y = S.1 (r + 10) y := fun y hy => by rw [wi_rd, if_neg (by omega), wi_rd, if_neg (by omega)]
      revert r1 f1 P1 w1 w24 w2
      generalize ab_wi (ab_wi S (r + 10) (lsp l) (n32 s.1)) 102 1 (n32 (s.1 + 1)) = S1
      intro r1 f1 P1 w1 w24 w2
      obtain ⟨a1, a2⟩ := prR_v hr ht (by omega : dp + 1 < 10) h hD hd mp (S := S1) (x := s.1) (s := (s.1 + 1, s.2)) rfl r1 l1 h1 h2
      cases hR : prR t n A mp s.1 (s.1 + 1, s.2) with
      | none =>
        obtain ⟨S', b1, b2⟩ := a1 hR
        refine ⟨fun _ => ⟨S', ff_tr f1 b1, ?_⟩, nofun⟩
        rw [b2, cV_x (by omega)]
      | some x =>
        obtain ⟨b0, b1, b2, b3, b4, S2, c1, c2, c3, c4, _, c5⟩ := a2 x hR
        have b1 : s.1 + 1 < x.2.1 := b1
        rw [c5, cV_0]
        have P2 : dPs q r S2 mp x0 (l ++ [x.1]) x.2.1 := dPs_ap l x0 s.1 x.2.1 [x.1] (dPs_fr l _ _ (fun j j1 j2 y _ y2 => pf_row hr c1 j1 j2 (Or.inl y2)) P1) ⟨by rw [b0]; exact Nat.le_refl _, x.2.1, c3, by omega, by rw [b0]; omega, Nat.le_refl _⟩
        have N2 : lnp r S2 (l ++ [x.1]) := lnp_a2 l x0 s.1 hl hP (fun y y1 y2 y3 => (pf_row hr c1 (by omega) (by omega) (Or.inl y2)).trans (w2 y y3)) (by rw [pf_row hr c1 (by omega) (by omega) (Or.inl ll.2.1), w1, b0]) (by rw [b0]; exact c4) hN
        obtain ⟨m1, m2⟩ := prl_v hr ht hdp h hD hd mp cl x0 k (j + 1) (l ++ [x.1]) S2 x.2 (by omega) (by rw [List.length_append, hj]; rfl) (by intro z; exact hl (List.append_eq_nil_iff.mp z).1) P2 N2 c2 b2 b3 b4
        rw [lsp_ap, b0] at m1 m2
        have f2 : pf r x0 x.2.1 S S2 := pf_tr f1 c1 (Nat.le_refl _) (by omega) (by omega) (Nat.le_refl _)
        have fs : fsp (l ++ [x.1]) = fsp l := by
          cases l with
          | nil => exact absurd rfl hl
          | cons a l => rfl
        refine ⟨fun hm => ?_, fun y hy => ?_⟩
        · obtain ⟨S', d1, d2⟩ := m1 hm
          exact ⟨S', ff_tr f2 d1, d2⟩
        · obtain ⟨d1, d2, d3, d4, d5, d6, S', d7, d8, d9, d10, d11, d12⟩ := m2 y hy
          exact ⟨by omega, d2, d3, d4, d5.trans fs, d6, S', pf_tr f2 d7 (Nat.le_refl _) d1 (Nat.le_refl _) (Nat.le_refl _), d8, d9, d10, ⟨(d11.1.trans (pf_row hr c1 (by omega) (by omega) (Or.inl (by omega)))).trans w24.1, (d11.2.trans (pf_row hr c1 (by omega) (by omega) (Or.inl (by omega)))).trans w24.2⟩, d12⟩
    · rw [if_neg c]
      refine ⟨nofun, fun y hy => ?_⟩
      cases hy
      refine ⟨Nat.le_refl _, hn, h1, h2, rfl, by show l.length ≤ 6; omega, S, pf_rf _ _ _ _, hs, hP, hN, ⟨rfl, rfl⟩, ?_⟩
      rw [e_52_89, if_pos (by rw [n32_lt (by omega) (by omega)]; omega), he_v q d hr ht hs hn, cI_0, i_eq (by omega) (by omega), if_neg c]
theorem dPs_x {q r : Nat} {S S' : ab_S} {mp : Bool} {x0 : Nat} : ∀ ps a b, x0 ≤ a → (∀ j, 1 ≤ j → j ≤ 10 → ∀ y, a ≤ y → y < b → (j ≠ 3 ∨ y ≠ x0) → S'.1 (r + j) y = S.1 (r + j) y) → dPs q r S mp a ps b → dPs q r S' mp a ps b
  | [], _, _, _, _, h => h
  | p :: ps, a, b, hx, g, h => by
    obtain ⟨h1, e, h2, h3, h4, h5⟩ := h
    have := dPs_le ps e b h5
    refine ⟨h1, e, ⟨h2.1, h2.2.1, (g 6 (by omega) (by omega) p.1 h1 (by omega) (by omega)).trans h2.2.2.1, (g 8 (by omega) (by omega) p.1 h1 (by omega) (by omega)).trans h2.2.2.2.1, dT_fr h2.2.2.2.2.1 (fun j j1 j2 y y1 y2 => g j j1 j2 y (by omega) (by omega) (by omega)), fun m => ⟨(g 7 (by omega) (by omega) p.1 h1 (by omega) (by omega)).trans (h2.2.2.2.2.2 m).1, (g 9 (by omega) (by omega) p.1 h1 (by omega) (by omega)).trans (h2.2.2.2.2.2 m).2.1, dT_fr (h2.2.2.2.2.2 m).2.2 (fun j j1 j2 y y1 y2 => g j j1 j2 y (by omega) (by omega) (by omega))⟩⟩, h3, h4, dPs_x ps e b (by omega) (fun j j1 j2 y y1 y2 => g j j1 j2 y (by omega) (by omega)) h5⟩
def pSm (mp : Bool) (ps : List prt) : Sem := bif mp then maS ps else arS ps
theorem denA_pt {q r : Nat} (hr : isSh r) (mp : Bool) {S : ab_S} {x e : Nat} (hx : x < 40) (he : x < e) {ps : List prt} (h : S.1 (r + 2) x = n32 (bif mp then 123 else 91)) (h4 : S.1 (r + 4) x = n32 (fsp ps)) (hl : ps.length ≤ 6) (hP : dPs q r S mp x ps e) (hN : lnp r S ps) : denA q r S x e (pSm mp ps) := fun S0 c cnt bn a b L hF lv i d l1 l2 hi hd => by
  have k2 := (b 2 (by omega) (by omega) x (Nat.le_refl _) he (Or.inl (by omega))).trans h
  have k4 := (b 4 (by omega) (by omega) x (Nat.le_refl _) he (Or.inl (by omega))).trans h4
  have P0 : dPs q r S0 mp x ps e := dPs_x (x0 := x) ps x e (Nat.le_refl _) b hP
  have N0 : lnp r S0 ps := lnp_g ps x e hP (fun y y1 y2 => b 10 (by omega) (by omega) y y1 y2 (by omega)) hN
  cases mp with
  | true => exact k66_123 hr hx a hi k2 k4 hF l1 l2 hd (Nat.le_refl _) hl N0 (dPs_all ps x e P0)
  | false => exact k66_91 hr hx a hi k2 k4 hF l1 l2 hd (Nat.le_refl _) hl N0 (dPs_all ps x e P0)
theorem pts_v {q r : Nat} (hr : isSh r) {t : Nat → Nat} {n : Nat} (ht : tok t n) {dp f D : Nat} (hf : dp + f = 4) {A : rdA} (h : 0 < f → hA q r t n (dp + 1) D A) (hD : 1 ≤ D) {d : Nat} (hd : D + 3 ≤ d) (mp : Bool) {S : ab_S} {s : pst} (hs : rdr r t n S s) (hn : s.1 < n) (h1 : s.2.1 < 256) (h2 : s.2.2 < 256) : oB q r t n S s (v_52_0 q d (n32 (bif mp then 123 else 91)) (n32 (bif mp then 125 else 93)) (n32 dp) S) (if f = 0 then none else match pts t n A mp (bif mp then 125 else 93) s with | none => none | some x => some ((s.1, x.2.1, (bif mp then 123 else 91), pSm mp x.1), x.2)) := by
  obtain ⟨d, rfl⟩ := dsuc hd
  obtain ⟨d, rfl⟩ := dsuc (by omega : D + 1 + 1 ≤ d)
  have n40 := ht.1
  have g := sh_ne hr
  have g2 := g.2 2 (by omega) (by omega)
  have g4 := g.2 4 (by omega) (by omega)
  rw [e_52_0, i_lt (by omega) (by omega)]
  by_cases f0 : f = 0
  · rw [if_pos f0, if_neg (by omega), e_52_10, rq_0, cV_x (by omega)]
    exact ⟨fun _ => ⟨_, ff_wx (pf_rf r 0 0 S), rfl⟩, nofun⟩
  rw [if_neg f0, if_pos (by omega)]
  have hA' := h (by omega)
  have kc : (bif mp then 123 else 91) < 128 := by cases mp <;> decide
  have cc : (bif mp then 125 else 93) < 4294967296 ∧ (bif mp then 125 else 93) ≠ 0 := by cases mp <;> decide
  have r1 := rdr_tb hr (rdr_tb hr hs (k := 2) (by omega) (by omega) s.1 (n32 (bif mp then 123 else 91))) (k := 4) (by omega) (by omega) s.1 (n32 4294967295)
  have r2 := rdr_mv hr r1 (s.1 + 1)
  have f2 : pf r s.1 (s.1 + 1) S (ab_wi (ab_wi (ab_wi S (r + 2) s.1 (n32 (bif mp then 123 else 91))) (r + 4) s.1 (n32 4294967295)) 102 1 (n32 (s.1 + 1))) := pf_tr (pf_tr (pf_tb (p := s.1) (p' := s.1 + 1) S (by omega) (by omega) (Nat.le_refl _) (Nat.lt_succ_self _) _) (pf_tb (p := s.1) (p' := s.1 + 1) _ (by omega) (by omega) (Nat.le_refl _) (Nat.lt_succ_self _) _) (Nat.le_refl _) (Nat.le_refl _) (Nat.le_refl _) (Nat.le_refl _)) (pf_102 r s.1 (s.1 + 1) _ (Or.inl rfl) _) (Nat.le_refl _) (Nat.le_refl _) (Nat.le_refl _) (Nat.le_refl _)
  have w2 : (ab_wi (ab_wi (ab_wi S (r + 2) s.1 (n32 (bif mp then 123 else 91))) (r + 4) s.1 (n32 4294967295)) 102 1 (n32 (s.1 + 1))).1 (r + 2) s.1 = n32 (bif mp then 123 else 91) := by rw [wi_rd, if_neg (by omega), wi_rd, if_neg (by omega), wi_rd, if_pos ⟨rfl, rfl⟩]
  have w4 : (ab_wi (ab_wi (ab_wi S (r + 2) s.1 (n32 (bif mp then 123 else 91))) (r + 4) s.1 (n32 4294967295)) 102 1 (n32 (s.1 + 1))).1 (r + 4) s.1 = n32 4294967295 := by rw [wi_rd, if_neg (by omega), wi_rd, if_pos ⟨rfl, rfl⟩]
  have z1 : (s.1 + 1, s.2).1 = s.1 + 1 := rfl
  have e : v_52_10 q (d + 1 + 1) (n32 (bif mp then 123 else 91)) (n32 (bif mp then 125 else 93)) (n32 dp) (n32 1) S = (cI (v_41_0 q (d + 1) (n32 (bif mp then 125 else 93)) (ab_wi (ab_wi (ab_wi S (r + 2) s.1 (n32 (bif mp then 123 else 91))) (r + 4) s.1 (n32 4294967295)) 102 1 (n32 (s.1 + 1)))) fun y2 S2 => (if y2 = (n32 0) then (ab_g (ab_ok 52 S2 (S2.2.2.1 102 0) 12) (ab_g (ab_ok 52 S2 ((S2.2.2.1 102 0) + 4) 1 && Nat.blt 2 ((S2.2.2.1 102 0) + 4)) (ab_g (ab_in (n32 s.1) (ab_N q ((S2.2.2.1 102 0) + 4))) (cV (v_53_0 q (d + 1) (n32 s.1) (n32 (bif mp then 123 else 91)) (n32 (dp + 1)) (ab_wi S2 ((S2.2.2.1 102 0) + 4) s.1 (n32 s.1))) fun S3 => (v_52_89 q (d + 1 + 1) (n32 (bif mp then 123 else 91)) (n32 (bif mp then 125 else 93)) (n32 dp) (n32 s.1) (n32 1) S3))))) else (some ((0, 0, 0, 0), S2)))) := by
    rw [e_52_10, rq_1, cV_0, hs.1, ok_sh hr (k := 52) rfl, g_t, ok_a2 hr (k := 52) rfl, bl_ar hr 2, Bool.and_true, g_t, hs.2.1, in_ar hr q (by omega : s.1 < 40) (by omega) (by omega), g_t, n32_cl (show s.1 < 2147483648 by omega), n32_nc (by omega), n32_m1, ok_sh hr (k := 52) rfl, g_t, ok_a4 hr (k := 52) rfl, bl_ar hr 4, Bool.and_true, g_t, in_ar hr q (by omega : s.1 < 40) (by omega) (by omega), g_t, r1.2.1, n32_add, n32_add]
  rw [e]
  revert r2 f2 w2 w4
  generalize ab_wi (ab_wi (ab_wi S (r + 2) s.1 (n32 (bif mp then 123 else 91))) (r + 4) s.1 (n32 4294967295)) 102 1 (n32 (s.1 + 1)) = S2
  intro r2 f2 w2 w4
  rw [ps_v q d hr ht r2 hn cc.1, z1]
  unfold pts
  by_cases c : chr t n (s.1 + 1) = (bif mp then 125 else 93)
  · have l1 := chr_lt c cc.2
    rw [if_pos c, if_pos c, cI_0, if_neg one_z]
    refine ⟨nofun, fun y hy => ?_⟩
    cases hy
    have u (k : Nat) (k1 : 1 ≤ k) (k2 : k ≤ 10) : (ab_wi S2 102 1 (n32 (s.1 + 1 + 1))).1 (r + k) s.1 = S2.1 (r + k) s.1 := by
      have := g.2 k k1 k2
      rw [wi_rd, if_neg (by omega)]
    refine ⟨rfl, rfl, show s.1 < s.1 + 2 by omega, l1, h1, h2, kc, ab_wi S2 102 1 (n32 (s.1 + 1 + 1)), ?_, rdr_mv hr r2 _, (u 2 (by omega) (by omega)).trans w2, ?_, rfl⟩
    · exact pf_tr f2 (pf_102 r s.1 (s.1 + 2) _ (Or.inl rfl) _) (Nat.le_refl _) (show s.1 + 1 ≤ s.1 + 2 by omega) (Nat.le_refl _) (Nat.le_refl _)
    · exact denA_pt hr mp (by omega) (show s.1 < s.1 + 2 by omega) ((u 2 (by omega) (by omega)).trans w2) ((u 4 (by omega) (by omega)).trans w4) (show 0 ≤ 6 by omega) (show s.1 ≤ s.1 + 2 by omega) trivial
  · rw [if_neg c, if_neg c, cI_0, if_pos rfl, r2.1, ok_sh hr (k := 52) rfl, g_t, ok_a4 hr (k := 52) rfl, bl_ar hr 4, Bool.and_true, g_t, in_ar hr q (by omega : s.1 < 40) (by omega) (by omega), g_t]
    have r3 := rdr_tb hr r2 (k := 4) (by omega) (by omega) s.1 (n32 s.1)
    have f3 : pf r s.1 (s.1 + 1) S (ab_wi S2 (r + 4) s.1 (n32 s.1)) := pf_tr f2 (pf_tb (p := s.1) (p' := s.1 + 1) S2 (by omega) (by omega) (Nat.le_refl _) (Nat.lt_succ_self _) _) (Nat.le_refl _) (Nat.le_refl _) (Nat.le_refl _) (Nat.le_refl _)
    have v2 : (ab_wi S2 (r + 4) s.1 (n32 s.1)).1 (r + 2) s.1 = n32 (bif mp then 123 else 91) := by rw [wi_rd, if_neg (by omega)]; exact w2
    have v4 : (ab_wi S2 (r + 4) s.1 (n32 s.1)).1 (r + 4) s.1 = n32 s.1 := by rw [wi_rd, if_pos ⟨rfl, rfl⟩]
    revert r3 f3 v2 v4
    generalize ab_wi S2 (r + 4) s.1 (n32 s.1) = S3
    intro r3 f3 v2 v4
    obtain ⟨a1, a2⟩ := prR_v hr ht (by omega : dp + 1 < 10) hA' hD (by omega : D + 2 ≤ d + 1) mp (S := S3) (x := s.1) (s := (s.1 + 1, s.2)) rfl r3 hn h1 h2
    cases hR : prR t n A mp s.1 (s.1 + 1, s.2) with
    | none =>
      obtain ⟨S', b1, b2⟩ := a1 hR
      refine ⟨fun _ => ⟨S', ff_tr f3 b1, ?_⟩, nofun⟩
      rw [b2, cV_x (by omega)]
    | some x =>
      obtain ⟨b0, b1, b2, b3, b4, S4, c1, c2, c3, c4, c24, c5⟩ := a2 x hR
      have b1 : s.1 + 1 < x.2.1 := b1
      rw [c5, cV_0]
      obtain ⟨m1, m2⟩ := prl_v hr ht (by omega : dp < 4) hA' hD (by omega : D + 2 ≤ d + 1) mp (n32 (bif mp then 125 else 93)) s.1 5 1 [x.1] S4 x.2 rfl rfl nofun ⟨by rw [b0]; exact Nat.le_refl _, x.2.1, c3, by omega, by rw [b0]; omega, Nat.le_refl _⟩ ⟨by rw [b0]; exact c4, trivial⟩ c2 b2 b3 b4
      have ls : lsp [x.1] = s.1 := b0
      rw [ls] at m1 m2
      have f4 : pf r s.1 x.2.1 S S4 := pf_tr f3 c1 (Nat.le_refl _) (by omega) (Nat.le_refl _) (Nat.le_refl _)
      show oB q r t n S s _ (match (match prl t n A mp 5 [x.1] x.2 with | none => none | some y => if chr t n y.2.1 = (bif mp then 125 else 93) then some (y.1, (y.2.1 + 1, y.2.2)) else none) with | none => none | some x => some ((s.1, x.2.1, (bif mp then 123 else 91), pSm mp x.1), x.2))
      cases hL : prl t n A mp 5 [x.1] x.2 with
      | none =>
        obtain ⟨S', d1, d2⟩ := m1 hL
        exact ⟨fun _ => ⟨S', ff_tr f4 d1, d2⟩, nofun⟩
      | some y =>
        obtain ⟨d1, d2, d3, d4, d5, d6, S5, d7, d8, d9, d10, d24, d11⟩ := m2 y hL
        rw [d11, e_52_151, ps_v q d hr ht d8 d2 cc.1]
        have f5 : pf r s.1 y.2.1 S S5 := pf_tr f4 d7 (Nat.le_refl _) d1 (Nat.le_refl _) (Nat.le_refl _)
        show oB q r t n S s _ (match (if chr t n y.2.1 = (bif mp then 125 else 93) then some (y.1, (y.2.1 + 1, y.2.2)) else none) with | none => none | some x => some ((s.1, x.2.1, (bif mp then 123 else 91), pSm mp x.1), x.2))
        by_cases c' : chr t n y.2.1 = (bif mp then 125 else 93)
        · have l2 := chr_lt c' cc.2
          rw [if_pos c', if_pos c', cI_0, rq_1, cV_0]
          refine ⟨nofun, fun y' hy' => ?_⟩
          cases hy'
          have kd : S5.1 (r + 2) s.1 = n32 (bif mp then 123 else 91) ∧ S5.1 (r + 4) s.1 = n32 s.1 := ⟨(d24.1.trans c24.1).trans v2, (d24.2.trans c24.2).trans v4⟩
          have u (k : Nat) (k1 : 1 ≤ k) (k2 : k ≤ 10) (w : Nat) : (ab_wi S5 102 1 (n32 (y.2.1 + 1))).1 (r + k) w = S5.1 (r + k) w := by
            have := g.2 k k1 k2
            rw [wi_rd, if_neg (by omega)]
          refine ⟨rfl, rfl, show s.1 < y.2.1 + 1 by omega, l2, d3, d4, kc, ab_wi S5 102 1 (n32 (y.2.1 + 1)), ?_, rdr_mv hr d8 _, (u 2 (by omega) (by omega) _).trans kd.1, ?_, rfl⟩
          · exact pf_tr f5 (pf_102 r s.1 (y.2.1 + 1) _ (Or.inl rfl) _) (Nat.le_refl _) (show y.2.1 ≤ y.2.1 + 1 by omega) (Nat.le_refl _) (Nat.le_refl _)
          · refine denA_pt hr mp (by omega) (show s.1 < y.2.1 + 1 by omega) ((u 2 (by omega) (by omega) _).trans kd.1) ?_ d6 ?_ ?_
            · rw [u 4 (by omega) (by omega), kd.2, d5]
              show n32 s.1 = n32 x.1.1
              rw [b0]
            · have := dPs_fr (S' := ab_wi S5 102 1 (n32 (y.2.1 + 1))) y.1 _ _ (fun j j1 j2 w _ _ => u j j1 j2 w) d9
              exact dPs_up y.1 _ _ (Nat.le_succ _) this
            · exact lnp_fr (fun j j1 j2 w => u j j1 j2 w) y.1 d10
        · rw [if_neg c', if_neg c', cI_0, rq_0, cV_x (by omega)]
          exact ⟨fun _ => ⟨_, ff_wx f5, rfl⟩, nofun⟩
