-- The reference reads types: entries and members.
def rpl (t : Nat → Nat) (P : Nat → Nat → Nat) (mp : Bool) : Nat → List prt → Nat → Nat → Nat → Prop
  | _, [], _, _, _ => False
  | a, p :: ps, x, b, L => a ≤ x ∧ ∃ e, e ≤ 128 ∧ rpe t P mp p x e ∧ ((ps = [] ∧ x = L ∧ e ≤ b) ∨ (ps ≠ [] ∧ rpl t P mp e ps (P 3 x) b L))
theorem rpl_in {t : Nat → Nat} {P : Nat → Nat → Nat} {mp : Bool} : ∀ ps a x b L, rpl t P mp a ps x b L → a ≤ L ∧ L < b
  | [], _, _, _, _, h => h.elim
  | p :: ps, a, x, b, L, h => by
    obtain ⟨h1, e, h2, h3, ⟨h4, h5, h6⟩ | ⟨h4, h5⟩⟩ := h
    · have := h3.1
      omega
    · have := rpl_in ps e _ b L h5
      have := h3.1
      omega
theorem rpl_fr {t : Nat → Nat} {P P' : Nat → Nat → Nat} {mp : Bool} : ∀ ps a x b L, rpl t P mp a ps x b L → (∀ j y, a ≤ y → y < b → (j ≠ 3 ∨ y ≠ L) → P' j y = P j y) → rpl t P' mp a ps x b L
  | [], _, _, _, _, h, _ => h
  | p :: ps, a, x, b, L, h, g => by
    obtain ⟨h1, e, h2, h3, h4⟩ := h
    have l2 := h3.1
    rcases h4 with ⟨h4, h5, h6⟩ | ⟨h4, h5⟩
    · exact ⟨h1, e, h2, rpe_fr h3 (fun j y y1 y2 o => g j y (by omega) (by omega) (by omega)), Or.inl ⟨h4, h5, h6⟩⟩
    · have k := rpl_in ps e _ b L h5
      refine ⟨h1, e, h2, rpe_fr h3 (fun j y y1 y2 o => g j y (by omega) (by omega) (by omega)), Or.inr ⟨h4, ?_⟩⟩
      rw [g 3 x h1 (by omega) (by omega)]
      exact rpl_fr ps e _ b L h5 (fun j y y1 y2 o => g j y (by omega) y2 o)
theorem rpl_cl {t : Nat → Nat} {P : Nat → Nat → Nat} {mp : Bool} : ∀ ps a x b L, rpl t P mp a ps x b L → P 3 L = 4294967295 → rps t P mp a ps x b
  | [], _, _, _, _, h, _ => h.elim
  | p :: ps, a, x, b, L, h, g => by
    obtain ⟨h1, e, h2, h3, h4⟩ := h
    rcases h4 with ⟨h4, h5, h6⟩ | ⟨h4, h5⟩
    · subst h4
      rw [← h5] at g
      exact ⟨h1, e, h2, h3, g, h6⟩
    · exact ⟨h1, e, h2, h3, rpl_cl ps e _ b L h5 g⟩
theorem rpl_ap {t : Nat → Nat} {P : Nat → Nat → Nat} {mp : Bool} {p' : prt} {y e' : Nat} (he : e' ≤ 128) (hp : rpe t P mp p' y e') : ∀ ps a x b L, rpl t P mp a ps x b L → P 3 L = y → b ≤ y → rpl t P mp a (ps ++ [p']) x e' y
  | [], _, _, _, _, h, _, _ => h.elim
  | p :: ps, a, x, b, L, h, g, hb => by
    obtain ⟨h1, e, h2, h3, h4⟩ := h
    refine ⟨h1, e, h2, h3, Or.inr ⟨(fun z => by have w := (List.append_eq_nil_iff.mp z).2; exact nomatch w), ?_⟩⟩
    rcases h4 with ⟨h4, h5, h6⟩ | ⟨h4, h5⟩
    · subst h4
      rw [h5, g]
      exact ⟨by omega, e', he, hp, Or.inl ⟨rfl, rfl, Nat.le_refl _⟩⟩
    · exact rpl_ap he hp ps e _ b L h5 g hb
/-- an entry or a member is read, its part being there -/
theorem rprt_v (q e : Nat) {t : Nat → Nat} {n : Nat} (ht : tok t n) {D : Nat} (hD : D ≤ 4) (hD1 : 1 ≤ D) {A : rdA} (hA : rAl q e t n D A) (mp : Bool) {S : ab_S} {s0 a1 o x0 al pn ld br x : Nat} {P K : Nat → Nat → Nat} (h : RS S t n a1 0 D al pn ld br P K) (ha : a1 ≤ n) (h1 : ld < 256) (h2 : br < 256) (hpn : pn ≤ 1 + 3 * a1) (hk : ∀ l, l ≤ D → K 0 l < 128) (hbar : bar K D = false) (ho : oft t n s0 = (o, a1)) (hoo : ofo o) (h4 : P 4 x = (if o = 49 then 0 else o)) (h3 : P 3 x = 4294967295) (hxp : x < pn) (hen : mp = false → x + 2 = pn ∧ K 6 D = 0 ∧ K 2 D = x + 1 ∧ K 4 D = 4294967295 ∧ P 0 (x + 1) = 11 ∧ P 1 (x + 1) = 4294967295 ∧ P 2 x = x + 1 ∧ P 0 x = 13 ∧ P 3 (x + 1) = 4294967295) (hme : mp = true → x + 1 = pn ∧ K 6 D = 1 ∧ K 3 D = x ∧ P 0 x = 14) :
    (∀ y, prR t n A mp x0 (s0, ld, br) = some y → dig (chr t n y.2.1) = false → ∃ S' pn' P' K', gr S S' ∧ RS S' t n y.2.1 0 D al pn' y.2.2.1 y.2.2.2 P' K' ∧ pn < pn' ∧ 2 * pn' + 1 + 3 * a1 ≤ 3 * y.2.1 + 2 * pn ∧ a1 < y.2.1 ∧ y.2.1 ≤ n ∧ y.2.2.1 < 256 ∧ y.2.2.2 < 256 ∧ rpe t P' mp y.1 x pn' ∧ P' 3 x = 4294967295 ∧ (∀ j p, p < x → P' j p = P j p) ∧ (∀ j l, l < D → K' j l = K j l) ∧ K' 0 D = K 0 D ∧ K' 1 D = K 1 D ∧ K' 3 D = K 3 D ∧ K' 5 D = K 5 D ∧ K' 6 D = 0 ∧ chr t n y.2.1 ≠ 47 ∧ sR t P' x pn' x ∧ LT q e S = GO q e S') ∧ ((∀ y, prR t n A mp x0 (s0, ld, br) = some y → dig (chr t n y.2.1) = true) → ∃ S', gr S S' ∧ LT q e S = some ((0, n32 0, 0, 0), S')) := by
  have n40 := ht.1
  unfold prR
  rw [ho]
  cases mp with
  | false =>
    rw [if_neg (by decide : ¬ false = true)]
    obtain ⟨e1, e2, e3, e4, e5, e6, e7, e8, e9⟩ := hen rfl
    obtain ⟨t1, t2⟩ := rtyp_v q e ht hD hA (ty := x + 1) h ha h1 h2 hpn hk e2 e3 e4 (by omega) e5 e6
    rw [hbar] at t1 t2
    show (∀ y, (match typ t n A false (a1, ld, br) with | none => none | some z => some ((x0, o, [], false, z.1), z.2)) = some y → _) ∧ ((∀ y, (match typ t n A false (a1, ld, br) with | none => none | some z => some ((x0, o, [], false, z.1), z.2)) = some y → _) → _)
    cases hx : typ t n A false (a1, ld, br) with
    | none => exact ⟨nofun, fun _ => t2 (fun y hy => by rw [hx] at hy; cases hy)⟩
    | some z =>
      refine ⟨fun y hy hdg => ?_, fun hn => t2 (fun y hy => by rw [hx] at hy; cases hy; exact hn _ rfl)⟩
      cases hy
      obtain ⟨S', ⟨d1, pn', P', lp, d2, d3, d4, d5, d6, d7, d8, d9, d10, d11, d12, d13, dBB⟩, d14⟩ := t1 z hx hdg
      refine ⟨S', pn', P', _, d1, d2, d3, d4, d5, d6, d7, d8, ⟨⟨by omega, by rw [d9 0 x (by omega) (by omega)]; exact e8⟩, hoo, by rw [d9 4 x (by omega) (by omega)]; exact h4, ⟨x + 1, pn', by rw [d9 2 x (by omega) (by omega)]; exact e7, Nat.lt_succ_self _, ⟨by omega, Nat.le_refl _⟩, ?_⟩, nofun⟩, by rw [d9 3 x (by omega) (by omega)]; exact h3, fun j p hp => d9 j p (by omega) (by omega), fun j l hl => uP_p _ (by omega), uP_j _ (by omega), uP_j _ (by omega), uP_j _ (by omega), uP_j _ (by omega), by rw [uP_j _ (by omega)]; exact e2, d13, sR_hd (by omega) (sfe_pt (Or.inl (by rw [d9 0 x (by omega) (by omega)]; exact e8)) (by rw [d9 2 x (by omega) (by omega), e7]; omega)) (Or.inl (by rw [d9 3 x (by omega) (by omega)]; exact h3)) (sR_hd (by omega) (sfe_ty (by rw [d9 0 (x + 1) (by omega) (by omega)]; exact e5) d10 (by rw [show x + 1 + 1 = pn by omega]; exact d11)) (Or.inl (by rw [d9 3 (x + 1) (by omega) (by omega)]; exact e9)) (by rw [show x + 1 + 1 = pn by omega]; exact dBB)), d14⟩
      show denP t P' (x + 1) pn' (anyS z.1)
      rw [← d12]
      exact denP_ty (by omega) (by rw [d9 0 (x + 1) (by omega) (by omega)]; exact e5) d10 (by rw [show x + 1 + 1 = pn by omega]; exact d11) (by omega)
  | true =>
    rw [if_pos rfl]
    obtain ⟨e1, e2, e3, e4⟩ := hme rfl
    have wf : wfL P K pn D := Or.inr ⟨e2, hD1, by omega, by rw [e3]; exact e4⟩
    obtain ⟨k1, k2⟩ := hA S a1 al pn ld br P K h ha h1 h2 hpn wf hk
    rw [hbar] at k1 k2
    show (∀ y, (match A false (a1, ld, br) with | none => none | some y => if chr t n y.2.1 = 58 then (match typ t n A false (y.2.1 + 1, y.2.2) with | none => none | some z => some ((x0, o, y.1, kep y.1 a1, z.1), z.2)) else none) = some y → _) ∧ ((∀ y, (match A false (a1, ld, br) with | none => none | some y => if chr t n y.2.1 = 58 then (match typ t n A false (y.2.1 + 1, y.2.2) with | none => none | some z => some ((x0, o, y.1, kep y.1 a1, z.1), z.2)) else none) = some y → _) → _)
    cases hy : A false (a1, ld, br) with
    | none => exact ⟨nofun, fun _ => k2 (fun y hy' => by rw [hy] at hy'; cases hy')⟩
    | some y =>
      show (∀ y', (if chr t n y.2.1 = 58 then (match typ t n A false (y.2.1 + 1, y.2.2) with | none => none | some z => some ((x0, o, y.1, kep y.1 a1, z.1), z.2)) else none) = some y' → _) ∧ ((∀ y', (if chr t n y.2.1 = 58 then (match typ t n A false (y.2.1 + 1, y.2.2) with | none => none | some z => some ((x0, o, y.1, kep y.1 a1, z.1), z.2)) else none) = some y' → _) → _)
      by_cases dg : dig (chr t n y.2.1) = true
      · have c58 : chr t n y.2.1 ≠ 58 := fun z => by rw [z] at dg; cases dg
        rw [if_neg c58]
        exact ⟨nofun, fun _ => k2 (fun y' hy' => by rw [hy] at hy'; cases hy'; exact dg)⟩
      · obtain ⟨S2, ⟨b1, pn2, P2, b2, b3, b4, b5, b6, b7, b8, b9, b10, b11, b12, bB1⟩, b13⟩ := k1 y hy ((Bool.not_eq_true _).mp dg)
        have aK : attK K D pn = K := if_neg (by omega)
        have aP : attP P K D pn = uP P 1 x pn := by
          unfold attP
          rw [if_neg (by omega), e3]
        rw [aK] at b2
        rw [aP] at b9
        have b2' : RS S2 t n y.2.1 0 D al pn2 y.2.2.1 y.2.2.2 P2 K := b2
        by_cases c58 : chr t n y.2.1 = 58
        · rw [if_pos c58]
          have l1 := chr_lt c58 (by decide)
          obtain ⟨S3, c1, c2, c3⟩ := go_k1 q e ht b2' hD (by omega) b6 e2 (by omega) (by rw [e3, b9 0 x (by omega), uP_j _ (by omega)]; exact e4) hD1 c58
          rw [e3] at c2
          have nw1 := mkP_s P2 pn2 11 4294967295 0
          have nw (j p : Nat) (hp : p < pn2) : nwP P2 pn2 j p = P2 j p := mkP_o _ (by omega)
          have hk3 : ∀ l, l ≤ D → nwK (uP K 6 D 0) D pn2 0 l < 128 := fun l hl => by
            unfold nwK
            rw [uP_j _ (by omega), uP_j _ (by omega), uP_j _ (by omega)]
            exact hk l hl
          have bk : bar (nwK (uP K 6 D 0) D pn2) D = false := by
            rw [bar_cg (K := K) D (fun l hl => by unfold nwK; rw [uP_j _ (by omega), uP_j _ (by omega), uP_j _ (by omega)])]
            exact hbar
          have k6 : nwK (uP K 6 D 0) D pn2 6 D = 0 := by unfold nwK; rw [uP_j _ (by omega), uP_j _ (by omega), uP_s]
          obtain ⟨t1, t2⟩ := rtyp_v q e ht hD hA (ty := pn2) c2 l1 b7 b8 (by omega) hk3 k6 (by unfold nwK; rw [uP_j _ (by omega), uP_s]) (by unfold nwK; rw [uP_s]) (Nat.lt_succ_self _) (by rw [uP_p _ (by omega)]; exact nw1.1) (by rw [uP_p _ (by omega)]; exact nw1.2.1)
          rw [bk] at t1 t2
          have e13 : LT q e S = LT q e S3 := b13.trans c3
          have t1' : ∀ z, typ t n A false (y.2.1 + 1, y.2.2) = some z → _ := t1
          have t2' : (∀ z, typ t n A false (y.2.1 + 1, y.2.2) = some z → _) → _ := t2
          cases hx : typ t n A false (y.2.1 + 1, y.2.2) with
          | none =>
            obtain ⟨S', f1, f2⟩ := t2' (fun y hy => by rw [hx] at hy; cases hy)
            exact ⟨nofun, fun _ => ⟨S', gr_tr (gr_tr b1 c1) f1, e13.trans f2⟩⟩
          | some z =>
            refine ⟨fun y' hy' hdg => ?_, fun hn => ?_⟩
            · cases hy'
              obtain ⟨S4, ⟨d1, pn', P', lp, d2, d3, d4, d5, d6, d7, d8, d9, d10, d11, d12, d13, dBB⟩, d14⟩ := t1' z hx hdg
              have lo (j p : Nat) (hp : p < pn2) (hx : j ≠ 2 ∨ p ≠ x) : P' j p = P2 j p := by
                rw [d9 j p (by omega) (by omega)]
                unfold uP
                rw [if_neg (by omega)]
                exact nw j p hp
              have p2x : P' 2 x = pn2 := by rw [d9 2 x (by omega) (by omega), uP_s]
              have y21 : a1 < y.2.1 := b5
              have p3x : P' 3 x = 4294967295 := by rw [lo 3 x (by omega) (by omega), b9 3 x (by omega), uP_j _ (by omega)]; exact h3
              have p0x : P' 0 x = 14 := by rw [lo 0 x (by omega) (by omega), b9 0 x (by omega), uP_j _ (by omega)]; exact e4
              have q1 : P' 0 pn2 = 11 := by rw [d9 0 pn2 (by omega) (by omega), uP_p _ (by omega)]; exact nw1.1
              refine ⟨S4, pn', P', _, gr_tr (gr_tr b1 c1) d1, d2, by omega, show 2 * pn' + 1 + 3 * a1 ≤ 3 * z.2.1 + 2 * pn by omega, show a1 < z.2.1 by omega, d6, d7, d8, ⟨⟨by omega, p0x⟩, hoo, ?_, ⟨pn2, pn', p2x, by omega, ⟨by omega, Nat.le_refl _⟩, ?_⟩, fun _ => ⟨pn, pn2, ?_, by omega, b3, by omega, ?_, ?_⟩⟩, ?_, fun j p hp => ?_, fun j l hl => ?_, ?_, ?_, ?_, ?_, ?_, d13, sR_hd (by omega) (sfe_pt (Or.inr ⟨p0x, by rw [lo 1 x (by omega) (by omega), b9 1 x (by omega), uP_s]; omega⟩) (by rw [p2x]; omega)) (Or.inl p3x) (by rw [e1]; exact sR_ap (by omega) (sR_fr bB1 (Or.inl (by rw [lo 3 pn b3 (by omega)]; exact b11)) (fun j w w1 w2 _ => lo j w w2 (by omega))) (sR_hd (by omega) (sfe_ty q1 d10 d11) (Or.inl (by rw [d9 3 pn2 (by omega) (by omega), uP_p _ (by omega)]; exact nw1.2.2.2.1)) dBB)), e13.trans d14⟩
              · rw [lo 4 x (by omega) (by omega), b9 4 x (by omega), uP_j _ (by omega)]; exact h4
              · show denP t P' pn2 pn' (anyS z.1)
                rw [← d12]
                exact denP_ty (by omega) q1 d10 d11 (by omega)
              · rw [lo 1 x (by omega) (by omega), b9 1 x (by omega), uP_s]
              · show denP t P' pn pn2 (anyS y.1)
                exact denP_fr b10 (fun j w w1 w2 _ => lo j w w2 (by omega))
              · show sgl P' pn = kep y.1 a1
                rw [← b12]
                unfold sgl
                rw [lo 0 pn b3 (by omega), lo 4 pn b3 (by omega)]
              · rw [lo 3 x (by omega) (by omega), b9 3 x (by omega), uP_j _ (by omega)]; exact h3
              · rw [lo j p (by omega) (by omega), b9 j p (by omega), uP_p _ (by omega)]
              · unfold nwK
                rw [uP_p _ (by omega), uP_p _ (by omega), uP_p _ (by omega), uP_p _ (by omega)]
              · unfold nwK
                rw [uP_j _ (by omega), uP_j _ (by omega), uP_j _ (by omega), uP_j _ (by omega)]
              · unfold nwK
                rw [uP_j _ (by omega), uP_j _ (by omega), uP_j _ (by omega), uP_j _ (by omega)]
              · unfold nwK
                rw [uP_j _ (by omega), uP_j _ (by omega), uP_j _ (by omega), uP_j _ (by omega)]
              · unfold nwK
                rw [uP_j _ (by omega), uP_j _ (by omega), uP_j _ (by omega), uP_j _ (by omega)]
              · rw [uP_j _ (by omega)]; exact k6
            · obtain ⟨S', f1, f2⟩ := t2' (fun w hw => by rw [hx] at hw; cases hw; exact hn _ rfl)
              exact ⟨S', gr_tr (gr_tr b1 c1) f1, e13.trans f2⟩
        · rw [if_neg c58]
          refine ⟨nofun, fun _ => ?_⟩
          obtain ⟨S', f1, f2⟩ := go_k0 q e ht b2' hD b6 e2 c58
          exact ⟨S', gr_tr b1 f1, b13.trans f2⟩
theorem lt_bd (q e : Nat) {S : ab_S} (h : S.1 117 16 = n32 1) : LT q e S = some ((0, n32 0, 0, 0), S) := by
  unfold LT
  rw [e_95_74, if_neg one_z, h, if_neg one_z, e_95_132, h, if_neg one_z, e_95_144, nz_0]
theorem go_co (q e : Nat) {t : Nat → Nat} {n : Nat} (ht : tok t n) {S : ab_S} {at' D al pn ld br : Nat} {P K : Nat → Nat → Nat} (h : RS S t n at' 0 D al pn ld br P K) (hD : D ≤ 4) (ha : at' ≤ n) (hb : K 0 D = 91 ∨ K 0 D = 123) (hk : K 6 D = 0) (c : chr t n at' = 44) : GO q e S = (cI (cV (v_84_0 q (e + 3) (ab_wi S 117 15 (n32 (at' + 1)))) fun S2 => (some ((0, (n32 1), 0, 0), S2))) fun y1 S1 => (if y1 = (n32 0) then (v_95_127 q (e + 5) S1) else (v_95_123 q (e + 5) S1))) := by
  have k := h.2.2.2.2.2.2.2.2.2.2 D (Nat.le_refl _)
  have e115 : v_94_115 q (e + 4) (n32 0) (n32 (K 0 D)) S = (cV (v_84_0 q (e + 3) (ab_wi S 117 15 (n32 (at' + 1)))) fun S2 => (some ((0, (n32 1), 0, 0), S2))) := by
    rw [e_94_115, tk_v q _ ht h ha (by decide), if_pos c, cI_0, if_neg one_z]
  unfold GO
  rw [e_94_2, if_neg one_z, h.2.2.2.1, if_pos rfl, h.2.2.2.2.1, n32_in (by omega) (by omega), g_t, g_t, n32_cl (by omega), k.2.2.2.1, hk, if_pos rfl, tk_v q _ ht h ha (by decide), if_neg (by rw [c]; decide), cI_0, if_pos rfl, k.1, i_eq (by omega) (by omega), i_eq (by omega) (by omega), e115]
  rcases hb with hb | hb
  · rw [if_pos hb]
  · rw [if_neg (by omega), if_pos hb]
theorem oft_o (t : Nat → Nat) (n p : Nat) : oft t n p = ((oft t n p).1, (oft t n p).2) ∧ ofo (oft t n p).1 ∧ npO t n p = (if (oft t n p).1 = 49 then 0 else (oft t n p).1) := by
  refine ⟨rfl, ?_⟩
  unfold oft npO
  by_cases c : chr t n p = 63 ∨ chr t n p = 42 ∨ chr t n p = 43
  · rw [if_pos c, if_pos c]
    refine ⟨Or.inr c, ?_⟩
    rw [if_neg (show ¬ chr t n p = 49 by omega)]
  · rw [if_neg c, if_neg c]
    exact ⟨Or.inl rfl, rfl⟩
theorem oft_le {t : Nat → Nat} {n p : Nat} (h : p ≤ n) : p ≤ (oft t n p).2 ∧ (oft t n p).2 ≤ n := by
  unfold oft
  by_cases c : chr t n p = 63 ∨ chr t n p = 42 ∨ chr t n p = 43
  · rw [if_pos c]
    have := chr_lt (t := t) (n := n) (p := p) rfl (by omega)
    exact ⟨Nat.le_succ _, this⟩
  · rw [if_neg c]
    exact ⟨Nat.le_refl _, h⟩
/-- a new part, and what stands in it -/
theorem rnp_v (q e : Nat) {t : Nat → Nat} {n : Nat} (ht : tok t n) {D : Nat} (hD : D ≤ 4) (hD1 : 1 ≤ D) {A : rdA} (hA : rAl q e t n D A) (mp : Bool) {S : ab_S} {a x0 al pn ld br : Nat} {P K : Nat → Nat → Nat} (h : RS S t n a 0 D al pn ld br P K) (ha : a ≤ n) (h1 : ld < 256) (h2 : br < 256) (hpn : pn + 2 ≤ 1 + 3 * a) (hk : ∀ l, l ≤ D → K 0 l < 128) (hbar : bar K D = false) (hb : K 0 D = (bif mp then 123 else 91)) (h5 : K 5 D ≤ 5) (h3 : (K 3 D = 4294967295 ∧ K 1 D < pn ∧ P 0 (K 1 D) = (bif mp then 9 else 8)) ∨ K 3 D < pn) :
    ∃ S1, gr S S1 ∧ v_84_0 q (e + 3) S = some ((0, 0, 0, 0), S1) ∧ S1.1 117 16 = n32 0 ∧ (∀ y, prR t n A mp x0 (a, ld, br) = some y → dig (chr t n y.2.1) = false → ∃ S' pn' P' K', gr S S' ∧ RS S' t n y.2.1 0 D al pn' y.2.2.1 y.2.2.2 P' K' ∧ pn < pn' ∧ 2 * pn' + 3 * a ≤ 3 * y.2.1 + 2 * pn + 3 ∧ a < y.2.1 ∧ y.2.1 ≤ n ∧ y.2.2.1 < 256 ∧ y.2.2.2 < 256 ∧ rpe t P' mp y.1 pn pn' ∧ P' 3 pn = 4294967295 ∧ (∀ j p, p < pn → P' j p = (if K 3 D = 4294967295 then uP P 1 (K 1 D) pn j p else uP P 3 (K 3 D) pn j p)) ∧ (∀ j l, l < D → K' j l = K j l) ∧ K' 0 D = K 0 D ∧ K' 1 D = K 1 D ∧ K' 3 D = pn ∧ K' 5 D = K 5 D + 1 ∧ K' 6 D = 0 ∧ chr t n y.2.1 ≠ 47 ∧ sR t P' pn pn' pn ∧ LT q e S1 = GO q e S') ∧ ((∀ y, prR t n A mp x0 (a, ld, br) = some y → dig (chr t n y.2.1) = true) → ∃ S', gr S S' ∧ LT q e S1 = some ((0, n32 0, 0, 0), S')) := by
  have n40 := ht.1
  obtain ⟨S1, a1, a2, a3⟩ := np_v q (e + 1) ht h hD hD1 (by omega) ha (by omega) (!mp) (by rw [hb]; cases mp <;> rfl) (by
    rcases h3 with ⟨z1, z2, z3⟩ | z
    · exact Or.inl ⟨z1, z2, by rw [z3]; cases mp <;> rfl⟩
    · exact Or.inr z)
  rw [if_neg (by omega)] at a2
  have oo := oft_o t n a
  have ol := oft_le (t := t) ha
  refine ⟨S1, a1, a3, a2.2.2.2.1, ?_⟩
  have nlo (en : Bool) (j p : Nat) (hp : p < pn) : npP P K D pn (npO t n a) en j p = (if K 3 D = 4294967295 then uP P 1 (K 1 D) pn j p else uP P 3 (K 3 D) pn j p) := by
    unfold npP
    by_cases z : K 3 D = 4294967295
    · rw [if_pos z, if_pos z]
      unfold uP
      by_cases w : j = 1 ∧ p = K 1 D
      · rw [if_pos w, if_pos w]
      · rw [if_neg w, if_neg w, if_neg (by omega), mkP_o _ (by omega)]
    · rw [if_neg z, if_neg z]
      unfold uP
      by_cases w : j = 3 ∧ p = K 3 D
      · rw [if_pos w, if_pos w]
      · rw [if_neg w, if_neg w, if_neg (by omega), mkP_o _ (by omega)]
  have nhi (en : Bool) : npP P K D pn (npO t n a) en 0 pn = (bif en then 13 else 14) ∧ npP P K D pn (npO t n a) en 3 pn = 4294967295 ∧ npP P K D pn (npO t n a) en 4 pn = npO t n a := by
    have m := mkP_s P pn (bif en then 13 else 14) 4294967295 4294967295
    have k1 : K 3 D = 4294967295 → K 1 D ≠ pn := fun z => by rcases h3 with ⟨_, z2, _⟩ | z2 <;> omega
    have k3 : K 3 D ≠ 4294967295 → K 3 D ≠ pn := fun z => by rcases h3 with ⟨z2, _⟩ | z2 <;> omega
    unfold npP
    by_cases z : K 3 D = 4294967295
    · have := k1 z
      rw [if_pos z]
      refine ⟨?_, ?_, ?_⟩
      · rw [uP_j _ (by omega), uP_j _ (by omega)]; exact m.1
      · rw [uP_j _ (by omega), uP_j _ (by omega)]; exact m.2.2.2.1
      · rw [uP_j _ (by omega), uP_s]
    · have := k3 z
      rw [if_neg z]
      refine ⟨?_, ?_, ?_⟩
      · rw [uP_j _ (by omega), uP_j _ (by omega)]; exact m.1
      · rw [uP_p _ (by omega), uP_j _ (by omega)]; exact m.2.2.2.1
      · rw [uP_j _ (by omega), uP_s]
  have kn (en : Bool) : npK K D pn en 0 D = K 0 D ∧ npK K D pn en 1 D = K 1 D ∧ npK K D pn en 3 D = pn ∧ npK K D pn en 5 D = K 5 D + 1 ∧ npK K D pn en 6 D = (bif en then 0 else 1) ∧ ∀ j l, l < D → npK K D pn en j l = K j l := by
    unfold npK
    refine ⟨?_, ?_, ?_, ?_, uP_s _ _ _ _, fun j l hl => ?_⟩
    · rw [uP_j _ (by omega), uP_j _ (by omega), uP_j _ (by omega)]
    · rw [uP_j _ (by omega), uP_j _ (by omega), uP_j _ (by omega)]
    · rw [uP_j _ (by omega), uP_s]
    · rw [uP_j _ (by omega), uP_j _ (by omega), uP_s]
    · rw [uP_p _ (by omega), uP_p _ (by omega), uP_p _ (by omega)]
  cases mp with
  | false =>
    have a2' : RS S1 t n (oft t n a).2 0 D al (pn + 2) ld br (uP (nwP (npP P K D pn (npO t n a) true) (pn + 1)) 2 pn (pn + 1)) (nwK (npK K D pn true) D (pn + 1)) := a2
    have nw1 := mkP_s (npP P K D pn (npO t n a) true) (pn + 1) 11 4294967295 0
    have nw (j p : Nat) (hp : p < pn + 1) : nwP (npP P K D pn (npO t n a) true) (pn + 1) j p = npP P K D pn (npO t n a) true j p := mkP_o _ (by omega)
    have k1 (j l : Nat) (h2 : j ≠ 2) (h4 : j ≠ 4) : nwK (npK K D pn true) D (pn + 1) j l = npK K D pn true j l := by unfold nwK; rw [uP_j _ h4, uP_j _ h2]
    have kt := kn true
    obtain ⟨t1, t2⟩ := rprt_v q e ht hD hD1 hA false (s0 := a) (x0 := x0) (x := pn) a2' ol.2 h1 h2 (by omega) (fun l hl => by
      rw [k1 0 l (by omega) (by omega)]
      by_cases z : l = D
      · rw [z, kt.1]; exact hk D (Nat.le_refl _)
      · rw [kt.2.2.2.2.2 0 l (by omega)]; exact hk l hl) (by
      rw [bar_cg (K := K) D (fun l hl => by
        rw [k1 0 l (by omega) (by omega)]
        by_cases z : l = D
        · rw [z, kt.1]
        · rw [kt.2.2.2.2.2 0 l (by omega)])]
      exact hbar) oo.1 oo.2.1 (by rw [uP_j _ (by omega), nw 4 pn (by omega), (nhi true).2.2, oo.2.2]) (by rw [uP_j _ (by omega), nw 3 pn (by omega)]; exact (nhi true).2.1) (by omega) (fun _ => ⟨rfl, by rw [k1 6 D (by omega) (by omega)]; exact kt.2.2.2.2.1, by unfold nwK; rw [uP_j _ (by omega), uP_s], by unfold nwK; rw [uP_s], by rw [uP_j _ (by omega)]; exact nw1.1, by rw [uP_j _ (by omega)]; exact nw1.2.1, uP_s _ _ _ _, by rw [uP_j _ (by omega), nw 0 pn (by omega)]; exact (nhi true).1, by rw [uP_j _ (by omega)]; exact nw1.2.2.2.1⟩) nofun
    refine ⟨fun y hy hdg => ?_, fun hn => ?_⟩
    · obtain ⟨S', pn', P', K', c1, c2, c3, c4, c5, c6, c7, c8, c9, c10, c11, c12, c13, c14, c15, c16, c17, c18, cBB, c19⟩ := t1 y hy hdg
      refine ⟨S', pn', P', K', gr_tr a1 c1, c2, by omega, by omega, by omega, c6, c7, c8, c9, c10, fun j p hp => ?_, fun j l hl => ?_, ?_, ?_, ?_, ?_, c17, c18, cBB, c19⟩
      · rw [c11 j p hp, uP_p _ (by omega), nw j p (by omega), nlo true j p hp]
      · rw [c12 j l hl]
        unfold nwK
        rw [uP_p _ (by omega), uP_p _ (by omega)]
        exact kt.2.2.2.2.2 j l hl
      · rw [c13, k1 0 D (by omega) (by omega), kt.1]
      · rw [c14, k1 1 D (by omega) (by omega), kt.2.1]
      · rw [c15, k1 3 D (by omega) (by omega), kt.2.2.1]
      · rw [c16, k1 5 D (by omega) (by omega), kt.2.2.2.1]
    · obtain ⟨S', c1, c2⟩ := t2 hn
      exact ⟨S', gr_tr a1 c1, c2⟩
  | true =>
    have a2' : RS S1 t n (oft t n a).2 0 D al (pn + 1) ld br (npP P K D pn (npO t n a) false) (npK K D pn false) := a2
    have kt := kn false
    obtain ⟨t1, t2⟩ := rprt_v q e ht hD hD1 hA true (s0 := a) (x0 := x0) (x := pn) a2' ol.2 h1 h2 (by omega) (fun l hl => by
      by_cases z : l = D
      · rw [z, kt.1]; exact hk D (Nat.le_refl _)
      · rw [kt.2.2.2.2.2 0 l (by omega)]; exact hk l hl) (by
      rw [bar_cg (K := K) D (fun l hl => by
        by_cases z : l = D
        · rw [z, kt.1]
        · rw [kt.2.2.2.2.2 0 l (by omega)])]
      exact hbar) oo.1 oo.2.1 (by rw [(nhi false).2.2, oo.2.2]) (nhi false).2.1 (by omega) nofun (fun _ => ⟨rfl, kt.2.2.2.2.1, kt.2.2.1, (nhi false).1⟩)
    refine ⟨fun y hy hdg => ?_, fun hn => ?_⟩
    · obtain ⟨S', pn', P', K', c1, c2, c3, c4, c5, c6, c7, c8, c9, c10, c11, c12, c13, c14, c15, c16, c17, c18, cBB, c19⟩ := t1 y hy hdg
      exact ⟨S', pn', P', K', gr_tr a1 c1, c2, by omega, by omega, by omega, c6, c7, c8, c9, c10, fun j p hp => by rw [c11 j p hp, nlo false j p hp], fun j l hl => (c12 j l hl).trans (kt.2.2.2.2.2 j l hl), c13.trans kt.1, c14.trans kt.2.1, c15.trans kt.2.2.1, c16.trans kt.2.2.2.1, c17, c18, cBB, c19⟩
    · obtain ⟨S', c1, c2⟩ := t2 hn
      exact ⟨S', gr_tr a1 c1, c2⟩
