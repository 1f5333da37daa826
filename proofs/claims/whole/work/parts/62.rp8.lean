-- The reference reads whole types.
theorem dgs_ge (t : Nat → Nat) (n : Nat) : ∀ k p v, p ≤ (dgs t n k p v).2
  | 0, _, _ => Nat.le_refl _
  | k + 1, p, v => by
    rw [dgs_s]
    split
    · have := dgs_ge t n k (p + 1) (v * 10 + (chr t n p - 48))
      omega
    · exact Nat.le_refl _
theorem pin_ge {t : Nat → Nat} {n p : Nat} {z : Int32 × Nat} (h : pin t n p = some z) : p ≤ z.2 := by
  obtain ⟨p1, hp1⟩ : ∃ p1, (if chr t n p = 45 then p + 1 else p) = p1 := ⟨_, rfl⟩
  have pp : p ≤ p1 := by
    rw [← hp1]
    split <;> omega
  rw [pin_c t n p p1 _ hp1 rfl] at h
  split at h
  · cases h
    have := dgs_ge t n 4 p1 0
    exact Nat.le_trans pp this
  · cases h
theorem pis_ge {t : Nat → Nat} {n p : Nat} {x : Nat × Int32 × Int32 × Nat} (h : pis t n p = some x) : p ≤ x.2.2.2 := by
  unfold pis at h
  cases hz : pin t n p with
  | none =>
    rw [hz] at h
    cases h
  | some z =>
    rw [hz] at h
    have g := pin_ge hz
    have h : (if chr t n z.2 = 46 then (if chr t n (z.2 + 1) = 46 then (match pin t n (z.2 + 2) with | none => none | some y => some (46, z.1, y.1, y.2)) else none) else some (48, z.1, z.1, z.2)) = some x := h
    by_cases c : chr t n z.2 = 46
    · rw [if_pos c] at h
      by_cases c2 : chr t n (z.2 + 1) = 46
      · rw [if_pos c2] at h
        cases hy : pin t n (z.2 + 2) with
        | none =>
          rw [hy] at h
          cases h
        | some y =>
          rw [hy] at h
          cases h
          have := pin_ge hy
          show p ≤ y.2
          omega
      · rw [if_neg c2] at h
        cases h
    · rw [if_neg c] at h
      cases h
      exact g
theorem clq_ge (t : Nat → Nat) (n : Nat) : ∀ k p, p ≤ clq t n k p
  | 0, _ => Nat.le_refl _
  | k + 1, p => by
    rw [clq_s]
    split
    · exact Nat.le_refl _
    · have := clq_ge t n k (p + 1)
      omega
theorem oft_ge (t : Nat → Nat) (n p : Nat) : p ≤ (oft t n p).2 := by
  unfold oft
  split
  · exact Nat.le_succ _
  · exact Nat.le_refl _
theorem prR_ge {t : Nat → Nat} {n : Nat} {A : rdA} (h : psA A) {mp : Bool} {x : Nat} {s : pst} {y : prt × pst} (e : prR t n A mp x s = some y) : s.1 ≤ y.2.1 := by
  unfold prR at e
  have og := oft_ge t n s.1
  cases mp with
  | false =>
    rw [if_neg (by decide)] at e
    cases hx : typ t n A false ((oft t n s.1).2, s.2) with
    | none =>
      rw [hx] at e
      cases e
    | some z =>
      rw [hx] at e
      cases e
      have a := (typ_ps h _ _ _ hx).1
      exact Nat.le_trans og a
  | true =>
    rw [if_pos rfl] at e
    cases hx : A false ((oft t n s.1).2, s.2) with
    | none =>
      rw [hx] at e
      cases e
    | some z =>
      rw [hx] at e
      have a : (oft t n s.1).2 ≤ z.2.1 := (h _ _ _ hx).1
      have e : (if chr t n z.2.1 = 58 then (match typ t n A false (z.2.1 + 1, z.2.2) with | none => none | some w => some ((x, (oft t n s.1).1, z.1, kep z.1 (oft t n s.1).2, w.1), w.2)) else none) = some y := e
      by_cases c : chr t n z.2.1 = 58
      · rw [if_pos c] at e
        cases hw : typ t n A false (z.2.1 + 1, z.2.2) with
        | none =>
          rw [hw] at e
          cases e
        | some w =>
          rw [hw] at e
          cases e
          have b : z.2.1 + 1 ≤ w.2.1 := (typ_ps h _ _ _ hw).1
          show s.1 ≤ w.2.1
          omega
      · rw [if_neg c] at e
        cases e
theorem prl_ge {t : Nat → Nat} {n : Nat} {A : rdA} (h : psA A) {mp : Bool} : ∀ k l s y, prl t n A mp k l s = some y → s.1 ≤ y.2.1
  | 0, l, s, y, e => by
    cases e
    exact Nat.le_refl _
  | k + 1, l, s, y, e => by
    unfold prl at e
    by_cases c : chr t n s.1 = 44
    · rw [if_pos c] at e
      cases hx : prR t n A mp s.1 (s.1 + 1, s.2) with
      | none =>
        rw [hx] at e
        cases e
      | some x =>
        rw [hx] at e
        have a : s.1 + 1 ≤ x.2.1 := prR_ge h hx
        have := prl_ge h k _ _ _ e
        omega
    · rw [if_neg c] at e
      cases e
      exact Nat.le_refl _
theorem pts_ge {t : Nat → Nat} {n : Nat} {A : rdA} (h : psA A) {mp : Bool} {cl : Nat} {s : pst} {y : List prt × pst} (e : pts t n A mp cl s = some y) : s.1 ≤ y.2.1 := by
  unfold pts at e
  by_cases c : chr t n (s.1 + 1) = cl
  · rw [if_pos c] at e
    cases e
    show s.1 ≤ s.1 + 2
    omega
  · rw [if_neg c] at e
    cases hx : prR t n A mp s.1 (s.1 + 1, s.2) with
    | none =>
      rw [hx] at e
      cases e
    | some x =>
      rw [hx] at e
      have a : s.1 + 1 ≤ x.2.1 := prR_ge h hx
      have e : (match prl t n A mp 5 [x.1] x.2 with | none => none | some y => if chr t n y.2.1 = cl then some (y.1, (y.2.1 + 1, y.2.2)) else none) = some y := e
      cases hz : prl t n A mp 5 [x.1] x.2 with
      | none =>
        rw [hz] at e
        cases e
      | some z =>
        rw [hz] at e
        have b := prl_ge h _ _ _ _ hz
        have e : (if chr t n z.2.1 = cl then some (z.1, (z.2.1 + 1, z.2.2)) else none) = some y := e
        split at e
        · cases e
          show s.1 ≤ z.2.1 + 1
          omega
        · cases e
theorem ps_1 {s : pst} {e k : Nat} {m : Sem} {s' : pst} (h : s.1 ≤ s'.1) {y : List alt × pst} (hy : some ([(s.1, e, k, m)], s') = some y) : s.1 ≤ y.2.1 ∧ ∀ a, a ∈ y.1 → s.1 ≤ a.1 := by
  cases hy
  refine ⟨h, fun a ha => ?_⟩
  rw [List.mem_singleton.mp ha]
  exact Nat.le_refl _
theorem alS_ps {t : Nat → Nat} {n f : Nat} {A : rdA} (h : psA A) : psA (alS t n f A) := fun bare s y e => by
  unfold alS at e
  split at e
  · split at e
    · cases e
    · have := btw_ps h e
      exact ⟨this.1, fun a ha => by have := this.2 a ha; omega⟩
  split at e
  · cases e
  split at e
  · split at e
    · cases e
    · split at e
      · cases e
      · rename_i x hx
        exact ps_1 (pts_ge h hx) e
  split at e
  · split at e
    · cases e
    · split at e
      · cases e
      · rename_i x hx
        exact ps_1 (pts_ge h hx) e
  split at e
  · split at e
    · split at e
      · cases e
      · split at e
        · cases e
        · rename_i x hx
          have : s.1 + 2 ≤ x.2.1 := (btw_ps h hx).1
          exact ps_1 (by omega) e
    · cases e
  split at e
  · split at e
    · have := clq_ge t n 40 (s.1 + 1)
      exact ps_1 (show s.1 ≤ clq t n 40 (s.1 + 1) + 1 by omega) e
    · cases e
  split at e
  · split at e
    · cases e
    · rename_i x hx
      exact ps_1 (pis_ge hx) e
  split at e
  · split at e
    · cases e
    · exact ps_1 (Nat.le_succ _) e
  split at e
  · exact ps_1 (Nat.le_succ _) e
  · cases e
theorem alR_ps (t : Nat → Nat) (n : Nat) : ∀ f, psA (alR t n f)
  | 0 => alS_ps (fun _ _ _ e => nomatch e)
  | f + 1 => alS_ps (alR_ps t n f)
theorem rC_al {q e : Nat} {t : Nat → Nat} {n : Nat} (ht : tok t n) {S : ab_S} {at' dp al pn : Nat} {P K : Nat → Nat → Nat} {o : Option (List alt × pst)} (hdp : dp ≤ 4) (hw : wfL P K pn dp) (hk : ∀ l, l ≤ dp → K 0 l < 128) (h : rC q e t n S at' dp al pn P K (bar K dp) o) : (∀ y, o = some y → dig (chr t n y.2.1) = false → ∃ S', rEf t n S at' dp al pn P K (bar K dp) y S' ∧ LT q e S = GO q e S') ∧ ((∀ y, o = some y → dig (chr t n y.2.1) = true) → ∃ S', gr S S' ∧ LT q e S = some ((0, n32 0, 0, 0), S')) := by
  refine ⟨fun y hy _ => h.1 y hy, fun hn => ?_⟩
  cases o with
  | none => exact h.2 rfl
  | some y =>
    obtain ⟨S', ⟨b1, pn', P', b2, b3, b4, b5, b6, _⟩, b7⟩ := h.1 y rfl
    have w6 : attK K dp pn 6 dp = 0 ∨ attK K dp pn 6 dp = 1 := by
      rw [attK_6 _ _ _ _ _ (by omega)]
      rcases hw with ⟨w, _⟩ | ⟨w, _⟩
      · exact Or.inl w
      · exact Or.inr w
    obtain ⟨S2, c1, c2⟩ := go_dg q e ht b2 hdp b6 (fun l hl => by rw [attK_6 _ _ _ _ _ (by omega)]; exact hk l hl) w6 (hn y rfl)
    exact ⟨S2, gr_tr b1 c1, b7.trans c2⟩
theorem rAl_S {q e : Nat} {t : Nat → Nat} {n : Nat} (ht : tok t n) {dp f : Nat} (hf : dp + f = 4) {A : rdA} (hA : 0 < f → rAl q e t n (dp + 1) A) (hps : psA A) : rAl q e t n dp (alS t n f A) := by
  intro S at' al pn ld br P K h ha h1 h2 hpn hw hk
  have n40 := ht.1
  have c126 := chr_le ht at'
  have hp : pn < 128 := by omega
  unfold alS
  show (∀ y, (if chr t n at' = 40 then _ else _) = some y → _) ∧ ((∀ y, (if chr t n at' = 40 then _ else _) = some y → _) → _)
  by_cases c40 : chr t n at' = 40
  · rw [if_pos c40]
    exact rC_al ht (by omega) hw hk (rpa_v q e ht hf hA hps h ha h1 h2 hpn hw hk c40)
  rw [if_neg c40]
  have bad (c91 : chr t n at' ≠ 91) (c123 : chr t n at' ≠ 123) (c35 : chr t n at' ≠ 35) (d1 : isg (chr t n at') = false) (d2 : chr t n at' ≠ 45) (d3 : dig (chr t n at') = false) (d4 : chr t n at' ≠ 34) (d5 : chr t n at' < 65 ∨ 72 < chr t n at') : ∃ S', gr S S' ∧ LT q e S = some ((0, n32 0, 0, 0), S') := by
    refine ⟨ab_wi S 117 16 (n32 1), gr_wi (gr_rf S) _ (by omega), ?_⟩
    rw [lt_op q e ht h ha d1 d2 d3 d4 d5, e_93_0, lk_v q _ ht h ha, cI_0, i_eq (by omega) (by omega), if_neg c91, i_eq (by omega) (by omega), if_neg c123, i_eq (by omega) (by omega), if_neg c40, i_eq (by omega) (by omega), if_neg c35, e_93_228, e_93_229, if_pos rfl, e_93_240, show ab_zb (n32 1) = true from rfl, g_t, if_pos rfl, e_93_332, cI_0, if_pos rfl, fin_b q e rfl]
  by_cases c0 : chr t n at' = 0
  · rw [if_pos c0]
    exact ⟨nofun, fun _ => bad (by omega) (by omega) (by omega) (by rw [c0]; rfl) (by omega) (by rw [c0]; rfl) (by omega) (by omega)⟩
  rw [if_neg c0]
  by_cases c91 : chr t n at' = 91
  · rw [if_pos c91]
    exact rC_al ht (by omega) hw hk (rpt_v q e ht hf hA false h ha h1 h2 hpn hw hk c91)
  rw [if_neg c91]
  by_cases c123 : chr t n at' = 123
  · rw [if_pos c123]
    exact rC_al ht (by omega) hw hk (rpt_v q e ht hf hA true h ha h1 h2 hpn hw hk c123)
  rw [if_neg c123]
  by_cases c35 : chr t n at' = 35
  · rw [if_pos c35]
    exact rC_al ht (by omega) hw hk (rtg_v q e ht hf hA h ha h1 h2 hpn hw hk c35)
  rw [if_neg c35]
  by_cases c34 : chr t n at' = 34
  · rw [if_pos c34]
    obtain ⟨a1, a2⟩ := rtx_v q e ht h (by omega) ha h1 h2 hp hw hk c34
    refine rC_al ht (by omega) hw hk ⟨fun y hy => ?_, fun hy => ?_⟩
    · split at hy
      · rename_i g
        cases hy
        exact a1 g
      · cases hy
    · split at hy
      · cases hy
      · rename_i g
        exact a2 g
  rw [if_neg c34]
  by_cases cn : chr t n at' = 45 ∨ dig (chr t n at') = true
  · rw [if_pos cn]
    obtain ⟨a1, a2⟩ := rit_v' q e ht h (by omega) ha h1 h2 hp hw hk cn
    show (∀ y, (match pis t n at' with | none => none | some x => some ([(at', x.2.2.2, x.1, itg x.2.1 x.2.2.1)], (x.2.2.2, ld, br))) = some y → _) ∧ ((∀ y, (match pis t n at' with | none => none | some x => some ([(at', x.2.2.2, x.1, itg x.2.1 x.2.2.1)], (x.2.2.2, ld, br))) = some y → _) → _)
    cases hx : pis t n at' with
    | none => exact ⟨nofun, fun _ => a2 (fun x hx' => by rw [hx] at hx'; cases hx')⟩
    | some x =>
      refine ⟨fun y hy hd => ?_, fun hn => a2 (fun x' hx' => by rw [hx] at hx'; cases hx'; exact hn _ rfl)⟩
      cases hy
      exact a1 x hx hd
  rw [if_neg cn]
  have c45 : chr t n at' ≠ 45 := fun z => cn (Or.inl z)
  have cd : dig (chr t n at') = false := by
    cases hz : dig (chr t n at') with
    | true => exact absurd (Or.inr hz) cn
    | false => rfl
  by_cases cA : 65 ≤ chr t n at' ∧ chr t n at' ≤ 72
  · rw [if_pos cA]
    obtain ⟨a1, a2⟩ := rle_v q e ht h (by omega) ha h1 h2 hp hw hk cA
    refine rC_al ht (by omega) hw hk ⟨fun y hy => ?_, fun hy => ?_⟩
    · split at hy
      · cases hy
      · rename_i g
        cases hy
        exact a1 g
    · split at hy
      · rename_i g
        exact a2 g
      · cases hy
  rw [if_neg cA]
  cases hi : isg (chr t n at') with
  | true =>
    rw [if_pos rfl]
    refine rC_al ht (by omega) hw hk ⟨fun y hy => ?_, nofun⟩
    cases hy
    exact rsg_v q e ht h (by omega) ha h1 h2 hp hw hk hi
  | false =>
    rw [if_neg (by decide)]
    exact ⟨nofun, fun _ => bad c91 c123 c35 hi c45 cd c34 (by omega)⟩
theorem rAl_R {q e : Nat} {t : Nat → Nat} {n : Nat} (ht : tok t n) : ∀ f dp, dp + f = 4 → rAl q e t n dp (alR t n f)
  | 0, dp, h => rAl_S ht h (fun z => absurd z (by omega)) (fun _ _ _ e => nomatch e)
  | f + 1, dp, h => rAl_S ht h (fun _ => rAl_R ht f (dp + 1) (by omega)) (alR_ps t n f)
theorem rrd_0 {t : Nat → Nat} {n : Nat} {S0 S1 : ab_S} (f0 : S0.1 117 2 = n32 n ∧ (∀ i, i < n → S0.1 118 i = n32 (t i)) ∧ S0.1 117 15 = n32 0 ∧ S0.1 117 16 = n32 0 ∧ S0.1 117 17 = n32 0 ∧ S0.1 117 18 = n32 0 ∧ S0.1 122 8 = n32 0 ∧ S0.1 123 8 = n32 0 ∧ S0.1 124 8 = n32 0 ∧ S0.1 130 0 = n32 40 ∧ S0.1 136 0 = n32 0) (hS1 : S1 = ab_wi (ab_wi (ab_wi (ab_wi (ab_wi (ab_wi (ab_wi (ab_wi S0 122 8 (n32 1)) 125 512 (n32 11)) 126 512 (n32 4294967295)) 127 512 (n32 0)) 128 512 (n32 4294967295)) 129 512 (n32 0)) 132 0 (n32 512)) 134 0 (n32 4294967295)) : RS S1 t n 0 0 0 0 1 0 0 (mkP (fun _ _ => 0) 0 11 4294967295 0) (fun j _ => if j = 0 then 40 else if j = 4 then 4294967295 else 0) := by
  have w (c j : Nat) (h : c < 122 ∨ c = 123 ∨ c = 124 ∨ c = 130 ∨ c = 136) : S1.1 c j = S0.1 c j := by
    rw [hS1, wi_rd, if_neg (by omega), wi_rd, if_neg (by omega), wi_rd, if_neg (by omega), wi_rd, if_neg (by omega), wi_rd, if_neg (by omega), wi_rd, if_neg (by omega), wi_rd, if_neg (by omega), wi_rd, if_neg (by omega)]
  have m := mkP_s (fun _ _ => 0) 0 11 4294967295 0
  refine ⟨(w _ _ (by omega)).trans f0.1, fun i hi => (w _ _ (by omega)).trans (f0.2.1 i hi), (w _ _ (by omega)).trans f0.2.2.1, (w _ _ (by omega)).trans f0.2.2.2.1, (w _ _ (by omega)).trans f0.2.2.2.2.1, (w _ _ (by omega)).trans f0.2.2.2.2.2.1, ?_, (w _ _ (by omega)).trans f0.2.2.2.2.2.2.2.1, (w _ _ (by omega)).trans f0.2.2.2.2.2.2.2.2.1, fun p hp => ?_, fun l hl => ?_⟩
  · rw [hS1, wi_rd, if_neg (by omega), wi_rd, if_neg (by omega), wi_rd, if_neg (by omega), wi_rd, if_neg (by omega), wi_rd, if_neg (by omega), wi_rd, if_neg (by omega), wi_rd, if_neg (by omega), wi_rd, if_pos ⟨rfl, rfl⟩]
  · have : p = 0 := by omega
    subst this
    unfold rP
    rw [m.1, m.2.1, m.2.2.1, m.2.2.2.1, m.2.2.2.2, Nat.add_zero, hS1]
    refine ⟨?_, ?_, ?_, ?_, ?_⟩
    · rw [wi_rd, if_neg (by omega), wi_rd, if_neg (by omega), wi_rd, if_neg (by omega), wi_rd, if_neg (by omega), wi_rd, if_neg (by omega), wi_rd, if_neg (by omega), wi_rd, if_pos ⟨rfl, rfl⟩]
    · rw [wi_rd, if_neg (by omega), wi_rd, if_neg (by omega), wi_rd, if_neg (by omega), wi_rd, if_neg (by omega), wi_rd, if_neg (by omega), wi_rd, if_pos ⟨rfl, rfl⟩]
      exact (eO_none 512).symm
    · rw [wi_rd, if_neg (by omega), wi_rd, if_neg (by omega), wi_rd, if_neg (by omega), wi_rd, if_neg (by omega), wi_rd, if_pos ⟨rfl, rfl⟩]
      rfl
    · rw [wi_rd, if_neg (by omega), wi_rd, if_neg (by omega), wi_rd, if_neg (by omega), wi_rd, if_pos ⟨rfl, rfl⟩]
      exact (eO_none 512).symm
    · rw [wi_rd, if_neg (by omega), wi_rd, if_neg (by omega), wi_rd, if_pos ⟨rfl, rfl⟩]
  · have : l = 0 := by omega
    subst this
    refine ⟨(w _ _ (by omega)).trans f0.2.2.2.2.2.2.2.2.2.1, ?_, ?_, (w _ _ (by omega)).trans f0.2.2.2.2.2.2.2.2.2.2, fun z => absurd z (by omega)⟩
    · rw [hS1, wi_rd, if_neg (by omega), wi_rd, if_pos ⟨rfl, rfl⟩]
      exact (eO_ge (o := 512) (v := 0) (by decide) (by decide)).symm
    · rw [hS1, wi_rd, if_pos ⟨rfl, rfl⟩]
      exact (eO_none 512).symm
/-- the reference reads a whole type from what was typed -/
theorem rrd_v (q e : Nat) {t : Nat → Nat} {n : Nat} (ht : tok t n) {S : ab_S} (hT : rT t n S) :
    (par t n = none → ∃ S', gr S S' ∧ v_95_0 q (e + 5) S = some ((0, n32 0, 0, 0), S')) ∧ ∀ y, par t n = some y → ∃ S' pn P K, gr S S' ∧ RS S' t n n 0 0 y.1.length pn y.2.1 y.2.2 P K ∧ pn ≤ 60 ∧ 0 < pn ∧ y.2.1 < 256 ∧ y.2.2 < 256 ∧ denP t P 0 pn (anyS y.1) ∧ sR t P 0 pn 0 ∧ v_95_0 q (e + 5) S = some ((0, n32 1, 0, 0), S') := by
  have n40 := ht.1
  -- the start
  obtain ⟨S0, hS0⟩ : ∃ S0, S0 = ab_wi (ab_wi (ab_wi (ab_wi (ab_wi (ab_wi (ab_wi (ab_wi (ab_wi S 117 15 (n32 0)) 117 16 (n32 0)) 117 17 (n32 0)) 117 18 (n32 0)) 122 8 (n32 0)) 123 8 (n32 0)) 124 8 (n32 0)) 130 0 (n32 40)) 136 0 (n32 0) := ⟨_, rfl⟩
  have g0 : gr S S0 := by
    rw [hS0]
    exact gr_wi (gr_wi (gr_wi (gr_wi (gr_wi (gr_wi (gr_wi (gr_wi (gr_wi (gr_rf S) _ (by omega)) _ (by omega)) _ (by omega)) _ (by omega)) _ (by omega)) _ (by omega)) _ (by omega)) _ (by omega)) _ (by omega)
  have f0 : S0.1 117 2 = n32 n ∧ (∀ i, i < n → S0.1 118 i = n32 (t i)) ∧ S0.1 117 15 = n32 0 ∧ S0.1 117 16 = n32 0 ∧ S0.1 117 17 = n32 0 ∧ S0.1 117 18 = n32 0 ∧ S0.1 122 8 = n32 0 ∧ S0.1 123 8 = n32 0 ∧ S0.1 124 8 = n32 0 ∧ S0.1 130 0 = n32 40 ∧ S0.1 136 0 = n32 0 := by
    rw [hS0]
    exact ⟨hT.1, hT.2, rfl, rfl, rfl, rfl, rfl, rfl, rfl, rfl, rfl⟩
  have e81 : v_81_0 q (e + 3) (n32 11) (i32 (-1)) (n32 0) S0 = some ((0, n32 512, 0, 0), ab_wi (ab_wi (ab_wi (ab_wi (ab_wi (ab_wi S0 122 8 (n32 1)) 125 512 (n32 11)) 126 512 (n32 4294967295)) 127 512 (n32 0)) 128 512 (n32 4294967295)) 129 512 (n32 0)) := by
    rw [e_81_0, f0.2.2.2.2.2.2.1, n32_add, n32_in (by omega) (by omega), g_t, g_t, g_t, g_t, g_t, n32_cl (by omega), n32_add, n32_m1]
  obtain ⟨S1, hS1⟩ : ∃ S1, S1 = ab_wi (ab_wi (ab_wi (ab_wi (ab_wi (ab_wi (ab_wi (ab_wi S0 122 8 (n32 1)) 125 512 (n32 11)) 126 512 (n32 4294967295)) 127 512 (n32 0)) 128 512 (n32 4294967295)) 129 512 (n32 0)) 132 0 (n32 512)) 134 0 (n32 4294967295) := ⟨_, rfl⟩
  have e83 : v_83_0 q (e + 4) S0 = some ((0, n32 512, 0, 0), S1) := by
    have q17 : (ab_wi (ab_wi (ab_wi (ab_wi (ab_wi (ab_wi S0 122 8 (n32 1)) 125 512 (n32 11)) 126 512 (n32 4294967295)) 127 512 (n32 0)) 128 512 (n32 4294967295)) 129 512 (n32 0)).1 117 17 = n32 0 := f0.2.2.2.2.1
    rw [e_83_0, e81, cI_0, q17, n32_in (by omega) (by omega), g_t, g_t, n32_cl (by omega), n32_m1, hS1]
  have g1 : gr S S1 := by
    rw [hS1]
    exact gr_wi (gr_wi (gr_wi (gr_wi (gr_wi (gr_wi (gr_wi (gr_wi g0 _ (by omega)) _ (by omega)) _ (by omega)) _ (by omega)) _ (by omega)) _ (by omega)) _ (by omega)) _ (by omega)
  have r1 : RS S1 t n 0 0 0 0 1 0 0 (mkP (fun _ _ => 0) 0 11 4294967295 0) (fun j _ => if j = 0 then 40 else if j = 4 then 4294967295 else 0) := rrd_0 f0 hS1
  have eL : v_95_0 q (e + 5) S = LT q e S1 := by
    rw [e_95_0, ← hS0, e83, cI_0, if_neg (by decide), e_95_73]
    rfl
  have m := mkP_s (fun _ _ => 0) 0 11 4294967295 0
  obtain ⟨t1, t2⟩ := rtyp_v q e ht (by omega : 0 ≤ 4) (rAl_R ht 4 0 rfl) (ty := 0) r1 (Nat.zero_le _) (by decide) (by decide) (by omega) (fun l hl => by show 40 < 128; decide) rfl rfl rfl (by omega) m.1 m.2.1
  have t1' : ∀ y, typ t n (alR t n 4) true (0, 0, 0) = some y → _ := t1
  have t2' : (∀ y, typ t n (alR t n 4) true (0, 0, 0) = some y → _) → _ := t2
  rw [eL]
  unfold par
  cases hx : typ t n (alR t n 4) true (0, 0, 0) with
  | none =>
    obtain ⟨S', c1, c2⟩ := t2' (fun y hy => by rw [hx] at hy; cases hy)
    exact ⟨fun _ => ⟨S', gr_tr g1 c1, c2⟩, nofun⟩
  | some x =>
    show ((if x.2.1 = n then some (x.1, x.2.2) else none) = none → _) ∧ ∀ y, (if x.2.1 = n then some (x.1, x.2.2) else none) = some y → _
    by_cases dg : dig (chr t n x.2.1) = true
    · have d' := dig_c dg
      have lt := chr_lt (t := t) (n := n) (p := x.2.1) rfl (by omega)
      rw [if_neg (by omega)]
      obtain ⟨S', c1, c2⟩ := t2' (fun y hy => by rw [hx] at hy; cases hy; exact dg)
      exact ⟨fun _ => ⟨S', gr_tr g1 c1, c2⟩, nofun⟩
    · obtain ⟨S2, ⟨d1, pn, P, lp, d2, d3, d4, d5, d6, d7, d8, d9, d10, d11, d12, d13, dBB⟩, d14⟩ := t1' x hx ((Bool.not_eq_true _).mp dg)
      have gx := go_nx q e ht d2 (by omega) d6 (by show 40 < 128; decide) rfl d13 (fun z => by
        have z1 : (40 : Nat) = 91 ∨ (40 : Nat) = 123 := z.1
        omega) (fun z => absurd z.1 (by omega))
      by_cases en : x.2.1 = n
      · rw [if_pos en]
        rw [if_pos ⟨rfl, en⟩] at gx
        refine ⟨nofun, fun y hy => ?_⟩
        cases hy
        have q0 : P 0 0 = 11 := by rw [d9 0 0 (by omega) (by omega)]; exact m.1
        refine ⟨ab_wi S2 117 16 (n32 0), pn, P, uP (fun j _ => if j = 0 then 40 else if j = 4 then 4294967295 else 0) 4 0 (rls lp), gr_wi (gr_tr g1 d1) _ (by omega), ?_, by omega, by omega, d7, d8, ?_, sR_hd (by omega) (sfe_ty q0 d10 d11) (Or.inl (by rw [d9 3 0 (by omega) (by omega)]; exact m.2.2.2.1)) dBB, d14.trans gx⟩
        · have := RS_bd d2 0
          rw [en] at this
          have z : 0 + (bif bar (fun j _ => if j = 0 then 40 else if j = 4 then 4294967295 else 0) 0 then x.1.length else 0) = x.1.length := Nat.zero_add _
          rw [z] at this
          exact this
        · show denP t P 0 pn (anyS x.1)
          rw [← d12]
          exact denP_ty (by omega) q0 d10 d11 (by omega)
      · rw [if_neg en]
        rw [if_neg (fun z => en z.2)] at gx
        exact ⟨fun _ => ⟨ab_wi S2 117 16 (n32 1), gr_wi (gr_tr g1 d1) _ (by omega), d14.trans gx⟩, nofun⟩
