-- The class reads types: entries and members.
def lsp : List prt → Nat
  | [] => 0
  | [p] => p.1
  | _ :: p :: ps => lsp (p :: ps)
/-- parts, one behind the other -/
def dPs (q r : Nat) (S : ab_S) (mp : Bool) : Nat → List prt → Nat → Prop
  | a, [], b => a ≤ b
  | a, p :: ps, b => a ≤ p.1 ∧ ∃ e, dP q r S e mp p ∧ e ≤ 40 ∧ p.1 < e ∧ dPs q r S mp e ps b
theorem dP_g {q r : Nat} {S S' : ab_S} {e : Nat} {mp : Bool} {p : prt} (h : dP q r S e mp p) (g : ∀ j, 1 ≤ j → j ≤ 10 → ∀ y, p.1 ≤ y → y < e → (j ≠ 10 ∨ y ≠ p.1) → S'.1 (r + j) y = S.1 (r + j) y) (hp : p.1 < e) : dP q r S' e mp p :=
  ⟨h.1, h.2.1, (g 6 (by omega) (by omega) p.1 (Nat.le_refl _) hp (by omega)).trans h.2.2.1, (g 8 (by omega) (by omega) p.1 (Nat.le_refl _) hp (by omega)).trans h.2.2.2.1, dT_fr h.2.2.2.2.1 (fun j j1 j2 y y1 y2 => g j j1 j2 y (by omega) y2 (by omega)), fun m => ⟨(g 7 (by omega) (by omega) p.1 (Nat.le_refl _) hp (by omega)).trans (h.2.2.2.2.2 m).1, (g 9 (by omega) (by omega) p.1 (Nat.le_refl _) hp (by omega)).trans (h.2.2.2.2.2 m).2.1, dT_fr (h.2.2.2.2.2 m).2.2 (fun j j1 j2 y y1 y2 => g j j1 j2 y (by omega) y2 (by omega))⟩⟩
theorem dPs_le {q r : Nat} {S : ab_S} {mp : Bool} : ∀ ps a b, dPs q r S mp a ps b → a ≤ b
  | [], _, _, h => h
  | p :: ps, a, b, h => by
    obtain ⟨h1, e, h2, h3, h4, h5⟩ := h
    have := dPs_le ps e b h5
    omega
theorem dPs_fr {q r : Nat} {S S' : ab_S} {mp : Bool} : ∀ ps a b, (∀ j, 1 ≤ j → j ≤ 10 → ∀ y, a ≤ y → y < b → S'.1 (r + j) y = S.1 (r + j) y) → dPs q r S mp a ps b → dPs q r S' mp a ps b
  | [], _, _, _, h => h
  | p :: ps, a, b, g, h => by
    obtain ⟨h1, e, h2, h3, h4, h5⟩ := h
    have := dPs_le ps e b h5
    exact ⟨h1, e, dP_g h2 (fun j j1 j2 y y1 y2 _ => g j j1 j2 y (by omega) (by omega)) h4, h3, h4, dPs_fr ps e b (fun j j1 j2 y y1 y2 => g j j1 j2 y (by omega) (by omega)) h5⟩
theorem lsp_in {q r : Nat} {S : ab_S} {mp : Bool} : ∀ ps a b, ps ≠ [] → dPs q r S mp a ps b → a ≤ lsp ps ∧ lsp ps < b ∧ lsp ps < 40
  | [], _, _, h, _ => absurd rfl h
  | [p], a, b, _, h => by
    obtain ⟨h1, e, h2, h3, h4, h5⟩ := h
    have h5 : e ≤ b := h5
    exact ⟨h1, by show p.1 < b; omega, h2.1⟩
  | p :: p2 :: ps, a, b, _, h => by
    obtain ⟨h1, e, h2, h3, h4, h5⟩ := h
    have k := lsp_in (p2 :: ps) e b nofun h5
    exact ⟨by show a ≤ lsp (p2 :: ps); omega, k.2⟩
theorem dPs_nx {q r : Nat} {S : ab_S} {mp : Bool} {v : Int32} : ∀ ps a b, ps ≠ [] → dPs q r S mp a ps b → dPs q r (ab_wi S (r + 10) (lsp ps) v) mp a ps b
  | [], _, _, h, _ => absurd rfl h
  | [p], a, b, _, h => by
    obtain ⟨h1, e, h2, h3, h4, h5⟩ := h
    refine ⟨h1, e, dP_g h2 (fun j j1 j2 y y1 y2 o => ?_) h4, h3, h4, h5⟩
    show (ab_wi S (r + 10) p.1 v).1 (r + j) y = _
    rw [wi_rd, if_neg (by omega)]
  | p :: p2 :: ps, a, b, _, h => by
    obtain ⟨h1, e, h2, h3, h4, h5⟩ := h
    have k := lsp_in (p2 :: ps) e b nofun h5
    refine ⟨h1, e, dP_g h2 (fun j j1 j2 y y1 y2 o => ?_) h4, h3, h4, dPs_nx (p2 :: ps) e b nofun h5⟩
    show (ab_wi S (r + 10) (lsp (p2 :: ps)) v).1 (r + j) y = _
    rw [wi_rd, if_neg (by omega)]
theorem dPs_ap {q r : Nat} {S : ab_S} {mp : Bool} : ∀ ps a b c qs, dPs q r S mp a ps b → dPs q r S mp b qs c → dPs q r S mp a (ps ++ qs) c
  | [], a, b, c, qs, h, g => by
    cases qs with
    | nil =>
      have h : a ≤ b := h
      have g : b ≤ c := g
      exact Nat.le_trans h g
    | cons p qs =>
      have h : a ≤ b := h
      obtain ⟨h1, k⟩ := g
      exact ⟨Nat.le_trans h h1, k⟩
  | p :: ps, a, b, c, qs, h, g => by
    obtain ⟨h1, e, h2, h3, h4, h5⟩ := h
    exact ⟨h1, e, h2, h3, h4, dPs_ap ps e b c qs h5 g⟩
theorem dPs_all {q r : Nat} {S : ab_S} {mp : Bool} : ∀ ps a b, dPs q r S mp a ps b → ∀ p, p ∈ ps → dP q r S 40 mp p
  | [], _, _, _, p, hp => nomatch hp
  | p :: ps, a, b, h, p', hp => by
    obtain ⟨h1, e, h2, h3, h4, h5⟩ := h
    rcases List.mem_cons.mp hp with x | x
    · rw [x]
      exact ⟨h2.1, h2.2.1, h2.2.2.1, h2.2.2.2.1, dT_wd h2.2.2.2.2.1 (Nat.le_refl _) h3, fun m => ⟨(h2.2.2.2.2.2 m).1, (h2.2.2.2.2.2 m).2.1, dT_wd (h2.2.2.2.2.2 m).2.2 (Nat.le_refl _) h3⟩⟩
    · exact dPs_all ps e b h5 p' x
theorem lnp_g {q r : Nat} {S S' : ab_S} {mp : Bool} : ∀ ps a b, dPs q r S mp a ps b → (∀ y, a ≤ y → y < b → S'.1 (r + 10) y = S.1 (r + 10) y) → lnp r S ps → lnp r S' ps
  | [], _, _, _, _, _ => trivial
  | p :: ps, a, b, h, g, k => by
    obtain ⟨h1, e, h2, h3, h4, h5⟩ := h
    have := dPs_le ps e b h5
    exact ⟨(g p.1 h1 (by omega)).trans k.1, lnp_g ps e b h5 (fun y y1 y2 => g y (by omega) y2) k.2⟩
theorem lnp_ap {q r : Nat} {S : ab_S} {mp : Bool} {p' : prt} : ∀ ps a b, ps ≠ [] → dPs q r S mp a ps b → b ≤ p'.1 → S.1 (r + 10) p'.1 = n32 4294967295 → lnp r S ps → lnp r (ab_wi S (r + 10) (lsp ps) (n32 p'.1)) (ps ++ [p'])
  | [], _, _, h, _, _, _, _ => absurd rfl h
  | [p], a, b, _, h, hb, h10, hl => by
    obtain ⟨h1, e, h2, h3, h4, h5⟩ := h
    have h5 : e ≤ b := h5
    refine ⟨?_, ?_, trivial⟩
    · show (ab_wi S (r + 10) p.1 (n32 p'.1)).1 (r + 10) p.1 = n32 p'.1
      rw [wi_rd, if_pos ⟨rfl, rfl⟩]
    · show (ab_wi S (r + 10) p.1 (n32 p'.1)).1 (r + 10) p'.1 = _
      rw [wi_rd, if_neg (by omega)]
      exact h10
  | p :: p2 :: ps, a, b, _, h, hb, h10, hl => by
    obtain ⟨h1, e, h2, h3, h4, h5⟩ := h
    have k := lsp_in (p2 :: ps) e b nofun h5
    refine ⟨?_, lnp_ap (p2 :: ps) e b nofun h5 hb h10 hl.2⟩
    show (ab_wi S (r + 10) (lsp (p2 :: ps)) (n32 p'.1)).1 (r + 10) p.1 = _
    rw [wi_rd, if_neg (by omega)]
    exact hl.1
theorem lsp_ap : ∀ (ps : List prt) (p : prt), lsp (ps ++ [p]) = p.1
  | [], _ => rfl
  | [_], _ => rfl
  | _ :: p2 :: ps, p => lsp_ap (p2 :: ps) p
theorem oft_v (q d : Nat) {r : Nat} (hr : isSh r) {t : Nat → Nat} {n : Nat} (ht : tok t n) {S : ab_S} {s : pst} (h : rdr r t n S s) (hs : s.1 ≤ n) : ofo (oft t n s.1).1 ∧ s.1 ≤ (oft t n s.1).2 ∧ (oft t n s.1).2 ≤ n ∧ v_54_0 q (d + 1) S = some ((0, n32 (oft t n s.1).1, 0, 0), ab_wi S 102 1 (n32 (oft t n s.1).2)) := by
  have c := chr_le ht s.1
  rw [e_54_0, he_v q d hr ht h hs, cI_0, i_eq (by omega) (by omega), i_eq (by omega) (by omega), i_eq (by omega) (by omega), e_54_26, h.2.1, n32_add, n32_nc (by omega), show ab_nc (n32 49) = n32 49 from rfl]
  unfold oft
  by_cases c1 : chr t n s.1 = 63
  · rw [if_pos c1, if_pos (Or.inl c1)]
    exact ⟨Or.inr (Or.inl c1), Nat.le_succ _, chr_lt c1 (by decide), rfl⟩
  rw [if_neg c1]
  by_cases c2 : chr t n s.1 = 42
  · rw [if_pos c2, if_pos (Or.inr (Or.inl c2))]
    exact ⟨Or.inr (Or.inr (Or.inl c2)), Nat.le_succ _, chr_lt c2 (by decide), rfl⟩
  rw [if_neg c2]
  by_cases c3 : chr t n s.1 = 43
  · rw [if_pos c3, if_pos (Or.inr (Or.inr c3))]
    exact ⟨Or.inr (Or.inr (Or.inr c3)), Nat.le_succ _, chr_lt c3 (by decide), rfl⟩
  rw [if_neg c3, if_neg (by omega)]
  refine ⟨Or.inl rfl, Nat.le_refl _, hs, ?_⟩
  rw [wi_id h.2.1]
/-- an entry or a member is read -/
theorem prR_v {q r : Nat} (hr : isSh r) {t : Nat → Nat} {n : Nat} (ht : tok t n) {dp D : Nat} (hdp : dp < 10) {A : rdA} (h : hA q r t n dp D A) (hD : 1 ≤ D) {d : Nat} (hd : D + 2 ≤ d) (mp : Bool) {S : ab_S} {x : Nat} {s : pst} (hx : x + 1 = s.1) (hs : rdr r t n S s) (hn : s.1 ≤ n) (h1 : s.2.1 < 256) (h2 : s.2.2 < 256) :
    (prR t n A mp x s = none → ∃ S', ff r S S' ∧ v_53_0 q d (n32 x) (n32 (bif mp then 123 else 91)) (n32 dp) S = some ((1, 0, 0, 0), S')) ∧ ∀ y, prR t n A mp x s = some y → y.1.1 = x ∧ s.1 < y.2.1 ∧ y.2.1 ≤ n ∧ y.2.2.1 < 256 ∧ y.2.2.2 < 256 ∧ ∃ S', pf r x y.2.1 S S' ∧ rdr r t n S' y.2 ∧ dP q r S' y.2.1 mp y.1 ∧ S'.1 (r + 10) x = n32 4294967295 ∧ (S'.1 (r + 2) x = S.1 (r + 2) x ∧ S'.1 (r + 4) x = S.1 (r + 4) x) ∧ v_53_0 q d (n32 x) (n32 (bif mp then 123 else 91)) (n32 dp) S = some ((0, 0, 0, 0), S') := by
  obtain ⟨d, rfl⟩ := dsuc hd
  have n40 := ht.1
  have g := sh_ne hr
  have g6 := g.2 6 (by omega) (by omega)
  have g7 := g.2 7 (by omega) (by omega)
  have g8 := g.2 8 (by omega) (by omega)
  have g9 := g.2 9 (by omega) (by omega)
  have g10 := g.2 10 (by omega) (by omega)
  have g2 := g.2 2 (by omega) (by omega)
  have g4 := g.2 4 (by omega) (by omega)
  obtain ⟨d, rfl⟩ := dsuc (by omega : D + 1 ≤ d)
  have r1 := rdr_tb hr hs (k := 10) (by omega) (by omega) x (n32 4294967295)
  obtain ⟨o1, o2, o3, o4⟩ := oft_v q d hr ht r1 hn
  have e : v_53_0 q (d + 1 + 1) (n32 x) (n32 (bif mp then 123 else 91)) (n32 dp) S = if mp = true then (cV (v_55_0 q (d + 1) (n32 x) (n32 dp) (ab_wi (ab_wi (ab_wi S (r + 10) x (n32 4294967295)) 102 1 (n32 (oft t n s.1).2)) (r + 6) x (n32 (oft t n s.1).1))) fun S2 => (v_53_35 q (d + 1 + 1) (n32 x) (n32 dp) S2)) else (v_53_35 q (d + 1 + 1) (n32 x) (n32 dp) (ab_wi (ab_wi (ab_wi S (r + 10) x (n32 4294967295)) 102 1 (n32 (oft t n s.1).2)) (r + 6) x (n32 (oft t n s.1).1))) := by
    rw [e_53_0, hs.1, ok_sh hr (k := 53) rfl, g_t, ok_a10 hr (k := 53) rfl, bl_ar hr 10, Bool.and_true, g_t, in_ar hr q (by omega : x < 40) (by omega) (by omega), g_t, n32_cl (by omega), n32_m1, ok_sh hr (k := 53) rfl, g_t, o4, cI_0, ok_a6 hr (k := 53) rfl, bl_ar hr 6, Bool.and_true, g_t, in_ar hr q (by omega : x < 40) (by omega) (by omega), g_t, n32_nc (by rcases o1 with z | z | z | z <;> omega)]
    cases mp with
    | true => rfl
    | false => rfl
  rw [e]
  have r2 := rdr_tb hr (rdr_mv hr r1 (oft t n s.1).2) (k := 6) (by omega) (by omega) x (n32 (oft t n s.1).1)
  have f2 : pf r x s.1 S (ab_wi (ab_wi (ab_wi S (r + 10) x (n32 4294967295)) 102 1 (n32 (oft t n s.1).2)) (r + 6) x (n32 (oft t n s.1).1)) := pf_tr (pf_tr (pf_tb (p := x) (p' := s.1) S (by omega) (by omega) (Nat.le_refl _) (by omega) _) (pf_102 r x s.1 _ (Or.inl rfl) _) (Nat.le_refl _) (Nat.le_refl _) (Nat.le_refl _) (Nat.le_refl _)) (pf_tb (p := x) (p' := s.1) _ (by omega) (by omega) (Nat.le_refl _) (by omega) _) (Nat.le_refl _) (Nat.le_refl _) (Nat.le_refl _) (Nat.le_refl _)
  have w10 : (ab_wi (ab_wi (ab_wi S (r + 10) x (n32 4294967295)) 102 1 (n32 (oft t n s.1).2)) (r + 6) x (n32 (oft t n s.1).1)).1 (r + 10) x = n32 4294967295 := by rw [wi_rd, if_neg (by omega), wi_rd, if_neg (by omega), wi_rd, if_pos ⟨rfl, rfl⟩]
  have w6 : (ab_wi (ab_wi (ab_wi S (r + 10) x (n32 4294967295)) 102 1 (n32 (oft t n s.1).2)) (r + 6) x (n32 (oft t n s.1).1)).1 (r + 6) x = n32 (oft t n s.1).1 := by rw [wi_rd, if_pos ⟨rfl, rfl⟩]
  have w24 : (ab_wi (ab_wi (ab_wi S (r + 10) x (n32 4294967295)) 102 1 (n32 (oft t n s.1).2)) (r + 6) x (n32 (oft t n s.1).1)).1 (r + 2) x = S.1 (r + 2) x ∧ (ab_wi (ab_wi (ab_wi S (r + 10) x (n32 4294967295)) 102 1 (n32 (oft t n s.1).2)) (r + 6) x (n32 (oft t n s.1).1)).1 (r + 4) x = S.1 (r + 4) x := ⟨by rw [wi_rd, if_neg (by omega), wi_rd, if_neg (by omega), wi_rd, if_neg (by omega)], by rw [wi_rd, if_neg (by omega), wi_rd, if_neg (by omega), wi_rd, if_neg (by omega)]⟩
  revert r2 f2 w10 w6 w24
  generalize ab_wi (ab_wi (ab_wi S (r + 10) x (n32 4294967295)) 102 1 (n32 (oft t n s.1).2)) (r + 6) x (n32 (oft t n s.1).1) = S2
  intro r2 f2 w10 w6 w24
  unfold prR
  revert o1 o2 o3 r2 w6
  generalize oft t n s.1 = o
  intro o1 o2 o3 r2 w6
  -- the value
  have va (s3 : pst) (S3 : ab_S) (hs3 : rdr r t n S3 s3) (l3 : s3.1 ≤ n) (l31 : s.1 ≤ s3.1) (i1 : s3.2.1 < 256) (i2 : s3.2.2 < 256) (f3 : pf r x s3.1 S S3) :
      (typ t n A false s3 = none → ∃ S', ff r S S' ∧ v_53_35 q (d + 1 + 1) (n32 x) (n32 dp) S3 = some ((1, 0, 0, 0), S')) ∧ ∀ z, typ t n A false s3 = some z → s3.1 < z.2.1 ∧ z.2.1 ≤ n ∧ z.2.2.1 < 256 ∧ z.2.2.2 < 256 ∧ ∃ S4, pf r s3.1 z.2.1 S3 S4 ∧ rdr r t n (ab_wi S4 (r + 8) x (n32 (fst z.1))) z.2 ∧ dT q r (ab_wi S4 (r + 8) x (n32 (fst z.1))) s3.1 z.2.1 z.1 ∧ pf r x z.2.1 S (ab_wi S4 (r + 8) x (n32 (fst z.1))) ∧ v_53_35 q (d + 1 + 1) (n32 x) (n32 dp) S3 = some ((0, 0, 0, 0), ab_wi S4 (r + 8) x (n32 (fst z.1))) := by
    obtain ⟨a1, a2⟩ := typ_v hr ht h hD (by omega : D + 1 ≤ d + 1) false hs3 l3 i1 i2
    have a1' : typ t n A false s3 = none → ∃ S', ff r S3 S' ∧ v_43_0 q (d + 1) (n32 dp) (n32 0) S3 = some ((1, 0, 0, 0), S') := a1
    refine ⟨fun hz => ?_, fun z hz => ?_⟩
    · obtain ⟨S', b1, b2⟩ := a1' hz
      refine ⟨S', ff_tr f3 b1, ?_⟩
      rw [e_53_35, hs3.1, ok_sh hr (k := 53) rfl, g_t, b2, cI_x (by omega)]
    · obtain ⟨b1, b2, b3, b4, S4, c1, c2, c3, c4, c5, c6⟩ := a2 z hz
      have c6' : v_43_0 q (d + 1) (n32 dp) (n32 0) S3 = some ((0, n32 (fst z.1), 0, 0), S4) := c6
      refine ⟨b1, b2, b3, b4, S4, c1, rdr_tb hr c2 (by omega) (by omega) _ _, dT_fr c3 (fun j j1 j2 y y1 y2 => by rw [wi_rd, if_neg (by omega)]), ?_, ?_⟩
      · exact pf_tr (pf_tr f3 c1 (Nat.le_refl _) (by omega) (by omega) (Nat.le_refl _)) (pf_tb (p := x) (p' := z.2.1) _ (by omega) (by omega) (Nat.le_refl _) (by omega) _) (Nat.le_refl _) (Nat.le_refl _) (Nat.le_refl _) (Nat.le_refl _)
      · rw [e_53_35, hs3.1, ok_sh hr (k := 53) rfl, g_t, c6', cI_0, ok_a8 hr (k := 53) rfl, bl_ar hr 8, Bool.and_true, g_t, in_ar hr q (by omega : x < 40) (by omega) (by omega), g_t, n32_cl (by omega)]
  cases mp with
  | false =>
    rw [if_neg (by decide), if_neg (by decide)]
    obtain ⟨v1, v2⟩ := va (o.2, s.2) S2 r2 o3 o2 h1 h2 (pf_wd f2 (Nat.le_refl _) o2)
    cases hT : typ t n A false (o.2, s.2) with
    | none => exact ⟨fun _ => v1 hT, nofun⟩
    | some z =>
      refine ⟨nofun, fun y hy => ?_⟩
      cases hy
      obtain ⟨b1, b2, b3, b4, S4, c1, c2, c3, c4, c5⟩ := v2 z hT
      have b1 : o.2 < z.2.1 := b1
      have c1 : pf r o.2 z.2.1 S2 S4 := c1
      have c3 : dT q r (ab_wi S4 (r + 8) x (n32 (fst z.1))) o.2 z.2.1 z.1 := c3
      refine ⟨rfl, show s.1 < z.2.1 by omega, b2, b3, b4, _, c4, c2, ⟨show x < 40 by omega, o1, ?_, ?_, dT_wd c3 (show x + 1 ≤ o.2 by omega) (Nat.le_refl _), nofun⟩, ?_, ⟨?_, ?_⟩, c5⟩
      · show (ab_wi S4 (r + 8) x (n32 (fst z.1))).1 (r + 6) x = _
        rw [wi_rd, if_neg (by omega), pf_row hr c1 (by omega) (by omega) (Or.inl (by omega))]
        exact w6
      · show (ab_wi S4 (r + 8) x (n32 (fst z.1))).1 (r + 8) x = _
        rw [wi_rd, if_pos ⟨rfl, rfl⟩]
      · rw [wi_rd, if_neg (by omega), pf_row hr c1 (by omega) (by omega) (Or.inl (by omega))]
        exact w10
      · rw [wi_rd, if_neg (by omega), pf_row hr c1 (by omega) (by omega) (Or.inl (by omega))]
        exact w24.1
      · rw [wi_rd, if_neg (by omega), pf_row hr c1 (by omega) (by omega) (Or.inl (by omega))]
        exact w24.2
  | true =>
    rw [if_pos rfl, if_pos rfl]
    obtain ⟨a1, a2⟩ := h false S2 (o.2, s.2) d r2 o3 h1 h2 (by omega)
    have a1' : A false (o.2, s.2) = none → ∃ S', ff r S2 S' ∧ v_44_0 q d (n32 dp) (n32 0) S2 = some ((1, 0, 0, 0), S') := a1
    cases hK : A false (o.2, s.2) with
    | none =>
      obtain ⟨S', b1, b2⟩ := a1' hK
      refine ⟨fun _ => ⟨S', ff_tr f2 b1, ?_⟩, nofun⟩
      rw [e_55_0, b2, cI_x (by omega), cV_x (by omega)]
    | some y =>
      obtain ⟨b1, b2, b3, b4, S3, c1, c2, c3, c4, c5, c6⟩ := a2 y hK
      have b1 : o.2 < y.2.1 := b1
      have c1 : pf r o.2 y.2.1 S2 S3 := c1
      have c3 : dT q r S3 o.2 y.2.1 y.1 := c3
      have c6' : v_44_0 q d (n32 dp) (n32 0) S2 = some ((0, n32 (fst y.1), 0, 0), S3) := c6
      obtain ⟨a, l, hy⟩ : ∃ a l, y.1 = a :: l := by
        cases hq : y.1 with
        | nil => exact absurd hq c3.1
        | cons a l => exact ⟨a, l, rfl⟩
      have ya := lay_in _ _ _ c3.2.1 a (by rw [hy]; exact List.mem_cons_self ..)
      have yk := c4 a (by rw [hy]; exact List.mem_cons_self ..)
      have yf : fst y.1 = a.1 := by rw [hy]; rfl
      have kp : kep y.1 o.2 = (decide (a.1 = o.2) && (decide (a.2.2.1 = 48) || decide (a.2.2.1 = 34))) := by rw [hy]; rfl
      have e55 : v_55_0 q (d + 1) (n32 x) (n32 dp) S2 = v_55_69 q (d + 1) (n32 (kep y.1 o.2).toNat) (n32 x) (r + 9) (ab_wi S3 (r + 7) x (n32 a.1)) := by
        rw [e_55_0, c6', cI_0, yf, c2.1, ok_sh hr (k := 55) rfl, g_t, ok_a2 hr (k := 55) rfl, g_t, in_ar hr q (by omega : a.1 < 40) (by omega) (by omega), g_t, g_t, ok_a7 hr (k := 55) rfl, bl_ar hr 7, Bool.and_true, g_t, in_ar hr q (by omega : x < 40) (by omega) (by omega), g_t, ok_sh hr (k := 55) rfl, g_t, n32_cl (show x < 2147483648 by omega), n32_cl (show a.1 < 2147483648 by omega), yk.1, r2.2.1, i_eq (by omega) (show o.2 < 4294967296 by omega), i_eq (by omega) (by omega), i_eq (by omega) (by omega), e_55_64, e_55_68, kp]
        by_cases k1 : a.1 = o.2
        · rw [if_pos k1, decide_eq_true k1]
          by_cases k2 : a.2.2.1 = 48
          · rw [if_pos k2, decide_eq_true k2]; rfl
          · rw [if_neg k2, decide_eq_false k2]
            by_cases k3 : a.2.2.1 = 34
            · rw [if_pos k3, decide_eq_true k3]; rfl
            · rw [if_neg k3, decide_eq_false k3]; rfl
        · rw [if_neg k1, decide_eq_false k1]; rfl
      have r4 := rdr_tb hr (rdr_tb hr c2 (k := 7) (by omega) (by omega) x (n32 a.1)) (k := 9) (by omega) (by omega) x (n32 (kep y.1 o.2).toNat)
      have f4 : pf r x y.2.1 S (ab_wi (ab_wi S3 (r + 7) x (n32 a.1)) (r + 9) x (n32 (kep y.1 o.2).toNat)) := pf_tr (pf_tr (pf_tr f2 c1 (Nat.le_refl _) (by omega) (by omega) (Nat.le_refl _)) (pf_tb (p := x) (p' := y.2.1) _ (by omega) (by omega) (Nat.le_refl _) (by omega) _) (Nat.le_refl _) (Nat.le_refl _) (Nat.le_refl _) (Nat.le_refl _)) (pf_tb (p := x) (p' := y.2.1) _ (by omega) (by omega) (Nat.le_refl _) (by omega) _) (Nat.le_refl _) (Nat.le_refl _) (Nat.le_refl _) (Nat.le_refl _)
      have j6 : (ab_wi (ab_wi S3 (r + 7) x (n32 a.1)) (r + 9) x (n32 (kep y.1 o.2).toNat)).1 (r + 6) x = n32 o.1 := by rw [wi_rd, if_neg (by omega), wi_rd, if_neg (by omega), pf_row hr c1 (by omega) (by omega) (Or.inl (by omega))]; exact w6
      have j10 : (ab_wi (ab_wi S3 (r + 7) x (n32 a.1)) (r + 9) x (n32 (kep y.1 o.2).toNat)).1 (r + 10) x = n32 4294967295 := by rw [wi_rd, if_neg (by omega), wi_rd, if_neg (by omega), pf_row hr c1 (by omega) (by omega) (Or.inl (by omega))]; exact w10
      have j7 : (ab_wi (ab_wi S3 (r + 7) x (n32 a.1)) (r + 9) x (n32 (kep y.1 o.2).toNat)).1 (r + 7) x = n32 (fst y.1) := by rw [wi_rd, if_neg (by omega), wi_rd, if_pos ⟨rfl, rfl⟩, yf]
      have j9 : (ab_wi (ab_wi S3 (r + 7) x (n32 a.1)) (r + 9) x (n32 (kep y.1 o.2).toNat)).1 (r + 9) x = n32 (kep y.1 o.2).toNat := by rw [wi_rd, if_pos ⟨rfl, rfl⟩]
      have j24 : (ab_wi (ab_wi S3 (r + 7) x (n32 a.1)) (r + 9) x (n32 (kep y.1 o.2).toNat)).1 (r + 2) x = S.1 (r + 2) x ∧ (ab_wi (ab_wi S3 (r + 7) x (n32 a.1)) (r + 9) x (n32 (kep y.1 o.2).toNat)).1 (r + 4) x = S.1 (r + 4) x := ⟨by rw [wi_rd, if_neg (by omega), wi_rd, if_neg (by omega), pf_row hr c1 (by omega) (by omega) (Or.inl (by omega))]; exact w24.1, by rw [wi_rd, if_neg (by omega), wi_rd, if_neg (by omega), pf_row hr c1 (by omega) (by omega) (Or.inl (by omega))]; exact w24.2⟩
      have T4 : dT q r (ab_wi (ab_wi S3 (r + 7) x (n32 a.1)) (r + 9) x (n32 (kep y.1 o.2).toNat)) o.2 y.2.1 y.1 := dT_fr c3 (fun j j1 j2 z z1 z2 => by rw [wi_rd, if_neg (by omega), wi_rd, if_neg (by omega)])
      have e69 : v_55_0 q (d + 1) (n32 x) (n32 dp) S2 = (cI (v_41_0 q d (n32 58) (ab_wi (ab_wi S3 (r + 7) x (n32 a.1)) (r + 9) x (n32 (kep y.1 o.2).toNat))) fun y1 S1 => (cV (v_39_0 q d y1 S1) fun S2 => (some ((0, 0, 0, 0), S2)))) := by
        rw [e55, e_55_69, ok_a9 hr (k := 55) rfl, bl_ar hr 9, Bool.and_true, g_t, in_ar hr q (by omega : x < 40) (by omega) (by omega), g_t, n32_cl (by omega), bo_nz]
      rw [e69]
      revert r4 f4 j6 j7 j9 j10 j24 T4
      generalize ab_wi (ab_wi S3 (r + 7) x (n32 a.1)) (r + 9) x (n32 (kep y.1 o.2).toNat) = S5
      intro r4 f4 j6 j10 j7 j9 j24 T4
      obtain ⟨d, rfl⟩ := dsuc (by omega : 0 + 1 ≤ d)
      rw [ps_v q d hr ht r4 b2 (by decide)]
      show (((if chr t n y.2.1 = 58 then _ else _) = none → _) ∧ ∀ y' , (if chr t n y.2.1 = 58 then _ else _) = some y' → _)
      by_cases c : chr t n y.2.1 = 58
      · have l1 := chr_lt c (by decide)
        rw [if_pos c, if_pos c, cI_0, rq_1, cV_0, cV_0]
        have r6 := rdr_mv hr r4 (y.2.1 + 1)
        obtain ⟨v1, v2⟩ := va (y.2.1 + 1, y.2.2) _ r6 l1 (show s.1 ≤ y.2.1 + 1 by omega) b3 b4 (pf_tr f4 (pf_102 r x (y.2.1 + 1) _ (Or.inl rfl) _) (Nat.le_refl _) (Nat.le_succ _) (Nat.le_refl _) (Nat.le_refl _))
        cases hT : typ t n A false (y.2.1 + 1, y.2.2) with
        | none => exact ⟨fun _ => v1 hT, nofun⟩
        | some z =>
          refine ⟨nofun, fun y' hy' => ?_⟩
          cases hy'
          obtain ⟨i1, i2, i3, i4, S6, m1, m2, m3, m4, m5⟩ := v2 z hT
          have i1 : y.2.1 + 1 < z.2.1 := i1
          have m1 : pf r (y.2.1 + 1) z.2.1 (ab_wi S5 102 1 (n32 (y.2.1 + 1))) S6 := m1
          have m3 : dT q r (ab_wi S6 (r + 8) x (n32 (fst z.1))) (y.2.1 + 1) z.2.1 z.1 := m3
          have u (k : Nat) (k1 : 1 ≤ k) (k2 : k ≤ 10) (w : Nat) (hw : w < y.2.1) (k8 : k ≠ 8 ∨ w ≠ x) : (ab_wi S6 (r + 8) x (n32 (fst z.1))).1 (r + k) w = S5.1 (r + k) w := by
            have := g.2 k k1 k2
            rw [wi_rd, if_neg (by omega), pf_row hr m1 k1 k2 (Or.inl (by omega)), wi_rd, if_neg (by omega)]
          refine ⟨rfl, show s.1 < z.2.1 by omega, i2, i3, i4, _, m4, m2, ⟨show x < 40 by omega, o1, (u 6 (by omega) (by omega) x (by omega) (by omega)).trans j6, ?_, dT_wd m3 (show x + 1 ≤ y.2.1 + 1 by omega) (Nat.le_refl _), fun _ => ⟨(u 7 (by omega) (by omega) x (by omega) (by omega)).trans j7, (u 9 (by omega) (by omega) x (by omega) (by omega)).trans j9, dT_wd (dT_fr T4 (fun j j1 j2 w w1 w2 => u j j1 j2 w w2 (by omega))) (show x + 1 ≤ o.2 by omega) (show y.2.1 ≤ z.2.1 by omega)⟩⟩, (u 10 (by omega) (by omega) x (by omega) (by omega)).trans j10, ⟨(u 2 (by omega) (by omega) x (by omega) (by omega)).trans j24.1, (u 4 (by omega) (by omega) x (by omega) (by omega)).trans j24.2⟩, m5⟩
          show (ab_wi S6 (r + 8) x (n32 (fst z.1))).1 (r + 8) x = _
          rw [wi_rd, if_pos ⟨rfl, rfl⟩]
      · rw [if_neg c, if_neg c, cI_0, rq_0, cV_x (by omega), cV_x (by omega)]
        exact ⟨fun _ => ⟨_, ff_wx f4, rfl⟩, nofun⟩
