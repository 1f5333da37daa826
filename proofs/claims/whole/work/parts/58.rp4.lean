-- The reference reads types: chains of alternatives.
def rls : List ral → Nat
  | [] => 4294967295
  | [a] => a.1
  | _ :: b :: l => rls (b :: l)
theorem rls_ap : ∀ (l : List ral) (a : ral), rls (l ++ [a]) = a.1
  | [], _ => rfl
  | [_], _ => rfl
  | _ :: b :: l, a => rls_ap (b :: l) a
theorem rls_in : ∀ l p p', l ≠ [] → rly p l p' → p ≤ rls l ∧ rls l < p' ∧ ∀ a, a ∈ l → rls l = a.1 ∨ a.2.1 ≤ rls l
  | [], _, _, h, _ => absurd rfl h
  | [a], p, p', _, h => by
    refine ⟨h.1, ?_, fun b hb => ?_⟩
    · have : a.2.1 ≤ p' := h.2.2
      have := h.2.1
      show a.1 < p'
      omega
    · rw [List.mem_singleton] at hb
      rw [hb]
      exact Or.inl rfl
  | a :: b :: l, p, p', _, h => by
    have k := rls_in (b :: l) a.2.1 p' nofun h.2.2
    have h1 := h.1
    have h2 := h.2.1
    refine ⟨?_, k.2.1, fun c hc => ?_⟩
    · show p ≤ rls (b :: l)
      omega
    · rcases List.mem_cons.mp hc with e | e
      · rw [e]
        exact Or.inr k.1
      · exact k.2.2 c e
theorem rfs_app {l l2 : List ral} (h : l ≠ []) : rfs (l ++ l2) = rfs l := by
  cases l with
  | nil => exact absurd rfl h
  | cons a l => rfl
theorem rly_app : ∀ l p p1 p' a, rly p l p1 → p1 ≤ a.1 → a.1 < a.2.1 → a.2.1 ≤ p' → rly p (l ++ [a]) p'
  | [], p, p1, p', a, h, g1, g2, g3 => ⟨Nat.le_trans h g1, g2, g3⟩
  | b :: l, p, p1, p', a, h, g1, g2, g3 => ⟨h.1, h.2.1, rly_app l _ p1 p' a h.2.2 g1 g2 g3⟩
theorem rlk_app {P : Nat → Nat → Nat} {a : ral} : ∀ l p p1, l ≠ [] → rly p l p1 → (∀ b, b ∈ l → b.1 ≠ rls l → True) → (∀ P0 : Nat → Nat → Nat, rlk P0 l → (∀ b, b ∈ l → b.1 ≠ rls l → P 3 b.1 = P0 3 b.1) → P 3 (rls l) = a.1 → P 3 a.1 = 4294967295 → rlk P (l ++ [a]))
  | [], _, _, h, _, _ => absurd rfl h
  | [b], p, p1, _, hl, _ => fun P0 _ _ h1 h2 => ⟨h1, h2, trivial⟩
  | b :: b2 :: l, p, p1, _, hl, _ => fun P0 h0 hP h1 h2 => by
    have k := rls_in (b2 :: l) b.2.1 p1 nofun hl.2.2
    have l1 := hl.2.1
    refine ⟨(hP b (List.mem_cons_self ..) (by show b.1 ≠ rls (b2 :: l); omega)).trans h0.1, rlk_app (b2 :: l) b.2.1 p1 nofun hl.2.2 (fun _ _ _ => trivial) P0 h0.2 (fun c hc => hP c (List.mem_cons_of_mem _ hc)) h1 h2⟩
theorem anyR_ap (l : List ral) (a : ral) (c : ctx) (i lv : Nat) : anyR (l ++ [a]) c i lv = (anyR l c i lv || a.2.2 c i lv) := by
  unfold anyR
  rw [List.any_append]
  show (l.any _ || (a.2.2 c i lv || false)) = _
  rw [Bool.or_false]
theorem anyS_ap (l l2 : List alt) (c : ctx) (i lv : Nat) : anyS (l ++ l2) c i lv = (anyS l c i lv || anyS l2 c i lv) := by
  unfold anyS
  rw [List.any_append]
/-- a chain of alternatives grows by one -/
theorem dR_ap {t : Nat → Nat} {P P' K : Nat → Nat → Nat} {dp ty p0 pn pn' : Nat} {lp : List ral} {m : Sem} (h6 : K 6 dp = 0) (h2 : K 2 dp = ty) (h4 : K 4 dp = rls lp) (h1 : P 1 ty = rfs lp) (hty : ty < p0) (hpn : pn < 1000) (hd : dR t P p0 pn lp) (hp : pn < pn') (hP : ∀ j p, p < pn → P' j p = attP P K dp pn j p) (hden : denP t P' pn pn' m) (h3 : P' 3 pn = 4294967295) : dR t P' p0 pn' (lp ++ [(pn, pn', m)]) ∧ P' 1 ty = rfs (lp ++ [(pn, pn', m)]) ∧ ∀ j p, p < p0 → (j ≠ 1 ∨ p ≠ ty) → P' j p = P j p := by
  have le := rly_le _ _ _ hd.1
  by_cases e : lp = []
  · subst e
    have ea : attP P K dp pn = uP P 1 ty pn := by
      unfold attP
      rw [if_pos h6, h4, if_pos (show rls [] = 4294967295 from rfl), h2]
    rw [ea] at hP
    refine ⟨⟨⟨le, hp, Nat.le_refl _⟩, ⟨h3, trivial⟩, fun a ha => ?_⟩, ?_, fun j p hp1 o => ?_⟩
    · rw [List.mem_singleton.mp ha]
      exact hden
    · rw [hP 1 ty (by omega), uP_s]
      rfl
    · rw [hP j p (by omega)]
      exact if_neg (by omega)
  · have k := rls_in lp _ _ e hd.1
    have i := rly_in lp _ _ hd.1
    have ea : attP P K dp pn = uP P 3 (rls lp) pn := by
      unfold attP
      rw [if_pos h6, h4, if_neg (by omega)]
    rw [ea] at hP
    refine ⟨⟨rly_app lp _ _ _ _ hd.1 (Nat.le_refl _) hp (Nat.le_refl _), ?_, fun a ha => ?_⟩, ?_, fun j p hp1 o => ?_⟩
    · refine rlk_app lp p0 pn e hd.1 (fun _ _ _ => trivial) P hd.2.1 (fun b hb hne => ?_) ?_ h3
      · rw [hP 3 b.1 (by have := i b hb; omega), uP_p P hne]
      · rw [hP 3 (rls lp) (by omega), uP_s]
    · rcases List.mem_append.mp ha with ha | ha
      · refine denP_fr (hd.2.2 a ha) (fun j y y1 y2 o => ?_)
        have := k.2.2 a ha
        have := i a ha
        rw [hP j y (by omega)]
        exact if_neg (by omega)
      · rw [List.mem_singleton.mp ha]
        exact hden
    · rw [hP 1 ty (by omega), uP_j P (by omega), rfs_app e]
      exact h1
    · rw [hP j p (by omega)]
      exact if_neg (by omega)
/-- what is not a sign that goes on -/
theorem go_no (q e : Nat) {t : Nat → Nat} {n : Nat} (ht : tok t n) {S : ab_S} {a dp al pn1 ld br : Nat} {P1 K : Nat → Nat → Nat} (h : RS S t n a 0 dp al pn1 ld br P1 K) (hd : dp ≤ 4) (ha : a ≤ n) (hk : ∀ l, l ≤ dp → K 0 l < 128) (h6 : K 6 dp = 0 ∨ K 6 dp = 1) (an : a < n) (c1 : chr t n a ≠ 47) (c2 : chr t n a ≠ 44) (c3 : chr t n a ≠ 93) (c4 : chr t n a ≠ 125) (c5 : chr t n a ≠ 41) (c6 : chr t n a ≠ 58) : ∃ S', gr S S' ∧ GO q e S = some ((0, n32 0, 0, 0), S') := by
  rcases h6 with w6 | w6
  · have := go_nx q e ht h hd ha (hk dp (Nat.le_refl _)) w6 c1 (fun z => c2 z.2) (fun z => by
      have z2 := z.2
      unfold cls at z2
      split at z2
      · exact c3 z2
      · split at z2
        · exact c4 z2
        · exact c5 z2)
    rw [if_neg (by omega)] at this
    exact ⟨_, gr_wi (gr_rf S) _ (by omega), this⟩
  · exact go_k0 q e ht h hd ha w6 c6
theorem go_dg (q e : Nat) {t : Nat → Nat} {n : Nat} (ht : tok t n) {S : ab_S} {a dp al pn1 ld br : Nat} {P1 K : Nat → Nat → Nat} (h : RS S t n a 0 dp al pn1 ld br P1 K) (hd : dp ≤ 4) (ha : a ≤ n) (hk : ∀ l, l ≤ dp → K 0 l < 128) (h6 : K 6 dp = 0 ∨ K 6 dp = 1) (c : dig (chr t n a) = true) : ∃ S', gr S S' ∧ GO q e S = some ((0, n32 0, 0, 0), S') := by
  have d := dig_c c
  exact go_no q e ht h hd ha hk h6 (chr_lt (t := t) (n := n) (p := a) rfl (by omega)) (by omega) (by omega) (by omega) (by omega) (by omega) (by omega)
theorem barA_cg {K K' : Nat → Nat → Nat} : ∀ m k, (∀ l, k ≤ l → l < k + m → K' 0 l = K 0 l) → barA K' m k = barA K m k
  | 0, _, _ => rfl
  | m + 1, k, h => by
    unfold barA
    rw [h k (Nat.le_refl _) (by omega), barA_cg m (k + 1) (fun l h1 h2 => h l (by omega) (by omega))]
theorem bar_cg {K K' : Nat → Nat → Nat} (dp : Nat) (h : ∀ l, l ≤ dp → K' 0 l = K 0 l) : bar K' dp = bar K dp := barA_cg dp 1 (fun l h1 h2 => h l (by omega))
theorem barA_s {K : Nat → Nat → Nat} : ∀ m k, barA K (m + 1) k = (barA K m k && decide (K 0 (k + m) = 40))
  | 0, k => by
    show (decide (K 0 k = 40) && true) = (true && decide (K 0 (k + 0) = 40))
    rw [Bool.and_true, Bool.true_and, Nat.add_zero]
  | m + 1, k => by
    show (decide (K 0 k = 40) && barA K (m + 1) (k + 1)) = ((decide (K 0 k = 40) && barA K m (k + 1)) && decide (K 0 (k + (m + 1)) = 40))
    rw [barA_s m (k + 1), Bool.and_assoc, show k + 1 + m = k + (m + 1) by omega]
theorem bar_s (K : Nat → Nat → Nat) (dp : Nat) : bar K (dp + 1) = (bar K dp && decide (K 0 (dp + 1) = 40)) := by
  have := barA_s (K := K) dp 1
  rw [show 1 + dp = dp + 1 by omega] at this
  exact this
theorem attP_x {t : Nat → Nat} {P K : Nat → Nat → Nat} {dp ty p0 pn : Nat} {lp : List ral} (h6 : K 6 dp = 0) (h2 : K 2 dp = ty) (h4 : K 4 dp = rls lp) (hlp : lp ≠ []) (hd : dR t P p0 pn lp) (hty : ty < p0) (hpn : pn < 1000) (j y : Nat) (hy : p0 ≤ y) (o : j ≠ 3 ∨ y ≠ rls lp) : attP P K dp pn j y = P j y := by
  have k := rls_in lp _ _ hlp hd.1
  unfold attP
  rw [if_pos h6, h4, if_neg (by omega)]
  exact if_neg (by omega)
theorem attP_3 {t : Nat → Nat} {P K : Nat → Nat → Nat} {dp p0 pn : Nat} {lp : List ral} (h6 : K 6 dp = 0) (h4 : K 4 dp = rls lp) (hlp : lp ≠ []) (hd : dR t P p0 pn lp) (hpn : pn < 1000) : attP P K dp pn 3 (rls lp) = pn := by
  have k := rls_in lp _ _ hlp hd.1
  unfold attP
  rw [if_pos h6, h4, if_neg (by omega), uP_s]
/-- what a type's reading leaves -/
def rTf (t : Nat → Nat) (n : Nat) (S : ab_S) (at' dp al pn ty : Nat) (P K : Nat → Nat → Nat) (bare : Bool) (y : List alt × pst) (S' : ab_S) : Prop := gr S S' ∧ ∃ pn' P' lp, RS S' t n y.2.1 0 dp (al + bif bare then y.1.length else 0) pn' y.2.2.1 y.2.2.2 P' (uP K 4 dp (rls lp)) ∧ pn < pn' ∧ 2 * pn' + 1 + 3 * at' ≤ 3 * y.2.1 + 2 * pn ∧ at' < y.2.1 ∧ y.2.1 ≤ n ∧ y.2.2.1 < 256 ∧ y.2.2.2 < 256 ∧ (∀ j p, p < pn → (j ≠ 1 ∨ p ≠ ty) → P' j p = P j p) ∧ P' 1 ty = rfs lp ∧ dR t P' pn pn' lp ∧ anyR lp = anyS y.1 ∧ chr t n y.2.1 ≠ 47 ∧ sR t P' pn pn' pn
theorem rmor_v (q e : Nat) {t : Nat → Nat} {n : Nat} (ht : tok t n) {dp : Nat} (hdp : dp ≤ 4) {A : rdA} (hA : rAl q e t n dp A) {ty p0 at0 al0 : Nat} (hty : ty < p0) : ∀ k j l lp S at' al pn ld br P K, j + k = 40 → j ≤ at' → RS S t n at' 0 dp al pn ld br P K → at' ≤ n → ld < 256 → br < 256 → pn ≤ 1 + 3 * at' → (∀ l, l ≤ dp → K 0 l < 128) → K 6 dp = 0 → K 2 dp = ty → K 4 dp = rls lp → P 0 ty = 11 → P 1 ty = rfs lp → lp ≠ [] → dR t P p0 pn lp → anyR lp = anyS l → al = al0 + (bif bar K dp then l.length else 0) → p0 < pn → 2 * pn + 1 + 3 * at0 ≤ 3 * at' + 2 * p0 → sR t P p0 pn (rls lp) →
    (∀ y, mor t n A (bar K dp) k l (at', ld, br) = some y → dig (chr t n y.2.1) = false → ∃ S' pn' P' lp', gr S S' ∧ RS S' t n y.2.1 0 dp (al0 + bif bar K dp then y.1.length else 0) pn' y.2.2.1 y.2.2.2 P' (uP K 4 dp (rls lp')) ∧ pn ≤ pn' ∧ 2 * pn' + 1 + 3 * at0 ≤ 3 * y.2.1 + 2 * p0 ∧ at' ≤ y.2.1 ∧ y.2.1 ≤ n ∧ y.2.2.1 < 256 ∧ y.2.2.2 < 256 ∧ (∀ j p, p < p0 → (j ≠ 1 ∨ p ≠ ty) → P' j p = P j p) ∧ P' 1 ty = rfs lp' ∧ dR t P' p0 pn' lp' ∧ anyR lp' = anyS y.1 ∧ chr t n y.2.1 ≠ 47 ∧ sR t P' p0 pn' p0 ∧ GO q e S = GO q e S') ∧ ((∀ y, mor t n A (bar K dp) k l (at', ld, br) = some y → dig (chr t n y.2.1) = true) → ∃ S', gr S S' ∧ GO q e S = some ((0, n32 0, 0, 0), S'))
  | k, j, l, lp, S, at', al, pn, ld, br, P, K, ej, hj, h, ha, h1, h2, hpn, hk, h6, hK2, hK4, hP0, hP1, hlp, hd, hany, hal, hpp, hcount, hbB => by
    have n40 := ht.1
    have stop (hc : chr t n at' ≠ 47) : (∀ y, some (l, (at', ld, br)) = some y → dig (chr t n y.2.1) = false → ∃ S' pn' P' lp', gr S S' ∧ RS S' t n y.2.1 0 dp (al0 + bif bar K dp then y.1.length else 0) pn' y.2.2.1 y.2.2.2 P' (uP K 4 dp (rls lp')) ∧ pn ≤ pn' ∧ 2 * pn' + 1 + 3 * at0 ≤ 3 * y.2.1 + 2 * p0 ∧ at' ≤ y.2.1 ∧ y.2.1 ≤ n ∧ y.2.2.1 < 256 ∧ y.2.2.2 < 256 ∧ (∀ j p, p < p0 → (j ≠ 1 ∨ p ≠ ty) → P' j p = P j p) ∧ P' 1 ty = rfs lp' ∧ dR t P' p0 pn' lp' ∧ anyR lp' = anyS y.1 ∧ chr t n y.2.1 ≠ 47 ∧ sR t P' p0 pn' p0 ∧ GO q e S = GO q e S') ∧ ((∀ y, some (l, (at', ld, br)) = some y → dig (chr t n y.2.1) = true) → ∃ S', gr S S' ∧ GO q e S = some ((0, n32 0, 0, 0), S')) := by
      refine ⟨fun y hy _ => ?_, fun hn => ?_⟩
      · cases hy
        exact ⟨S, pn, P, lp, gr_rf S, by rw [← hal, uP_id hK4]; exact h, Nat.le_refl _, hcount, Nat.le_refl _, ha, h1, h2, fun _ _ _ _ => rfl, hP1, hd, hany, hc, sR_any hbB, rfl⟩
      · exact go_dg q e ht h hdp ha hk (Or.inl h6) (hn _ rfl)
    cases k with
    | zero =>
      have hz : chr t n at' = 0 := if_neg (by omega)
      exact stop (by rw [hz]; decide)
    | succ k =>
      unfold mor
      show (∀ y, (if chr t n at' = 47 then (match A (bar K dp) (at' + 1, ld, br) with | none => none | some x => mor t n A (bar K dp) k (l ++ x.1) x.2) else some (l, (at', ld, br))) = some y → _) ∧ ((∀ y, (if chr t n at' = 47 then (match A (bar K dp) (at' + 1, ld, br) with | none => none | some x => mor t n A (bar K dp) k (l ++ x.1) x.2) else some (l, (at', ld, br))) = some y → _) → _)
      by_cases c : chr t n at' = 47
      · rw [if_pos c]
        have l1 := chr_lt c (by decide)
        have r1 := RS_at h (at' + 1)
        have wf : wfL P K pn dp := by
          have k1 := rls_in lp _ _ hlp hd.1
          exact Or.inl ⟨h6, by omega, by rw [hK2]; exact hP0, Or.inr (by omega)⟩
        obtain ⟨a1, a2⟩ := hA _ (at' + 1) al pn ld br P K r1 l1 h1 h2 (by omega) wf hk
        have gs := go_sl q e ht h hdp ha h6 c
        have g0 : gr S (ab_wi S 117 15 (n32 (at' + 1))) := gr_wi (gr_rf S) _ (by omega)
        have failA (hn : ∀ y, A (bar K dp) (at' + 1, ld, br) = some y → dig (chr t n y.2.1) = true) : ∃ S', gr S S' ∧ GO q e S = some ((0, n32 0, 0, 0), S') := by
          obtain ⟨S', b1, b2⟩ := a2 hn
          exact ⟨S', gr_tr g0 b1, gs.trans b2⟩
        cases hx : A (bar K dp) (at' + 1, ld, br) with
        | none => exact ⟨nofun, fun _ => failA (fun y hy => by rw [hx] at hy; cases hy)⟩
        | some x =>
          by_cases dg : dig (chr t n x.2.1) = true
          · have c47 : chr t n x.2.1 ≠ 47 := fun z => by rw [z] at dg; cases dg
            have mx : mor t n A (bar K dp) k (l ++ x.1) x.2 = some (l ++ x.1, x.2) := by
              cases k with
              | zero => rfl
              | succ k => exact if_neg c47
            refine ⟨fun y hy hdy => ?_, fun _ => failA (fun y hy => by rw [hx] at hy; cases hy; exact dg)⟩
            have hy : mor t n A (bar K dp) k (l ++ x.1) x.2 = some y := hy
            rw [mx] at hy
            cases hy
            rw [show dig (chr t n x.2.1) = false from hdy] at dg
            cases dg
          · have dg : dig (chr t n x.2.1) = false := (Bool.not_eq_true _).mp dg
            obtain ⟨S1, ⟨b1, pn1, P1, b2, b3, b4, b5, b6, b7, b8, b9, b10, b11, b12, bB1⟩, b13⟩ := a1 x hx dg
            have b5' : at' + 1 < x.2.1 := b5
            have aK : attK K dp pn = uP K 4 dp pn := if_pos h6
            obtain ⟨d1, d2, d3⟩ := dR_ap (p0 := p0) h6 hK2 hK4 hP1 hty (by omega) hd b3 b9 b10 b11
            have e13 : GO q e S = GO q e S1 := gs.trans b13
            rw [aK] at b2
            have bk : bar (uP K 4 dp pn) dp = bar K dp := bar_cg dp (fun l _ => uP_j K (by omega))
            have lenx : (bif bar K dp then (l ++ x.1).length else 0) = (bif bar K dp then l.length else 0) + (bif bar K dp then x.1.length else 0) := by
              cases bar K dp with
              | true => exact List.length_append
              | false => rfl
            have b8' : x.2 = (x.2.1, x.2.2.1, x.2.2.2) := rfl
            obtain ⟨m1, m2⟩ := rmor_v q e ht hdp hA (at0 := at0) (al0 := al0) hty k (j + 1) (l ++ x.1) (lp ++ [(pn, pn1, anyS x.1)]) S1 x.2.1 _ pn1 x.2.2.1 x.2.2.2 P1 (uP K 4 dp pn) (by omega) (by omega) b2 b6 b7 b8 (by omega) (fun l hl => by rw [uP_j K (by omega)]; exact hk l hl) (by rw [uP_j K (by omega)]; exact h6) (by rw [uP_j K (by omega)]; exact hK2) (by rw [uP_s, rls_ap]) (by rw [d3 0 ty hty (Or.inl (by omega))]; exact hP0) d2 (by intro z; exact hlp (List.append_eq_nil_iff.mp z).1) d1 (by
              funext c i lv
              rw [anyR_ap, anyS_ap, hany]) (by rw [bk, lenx, hal, Nat.add_assoc]) (by omega) (by omega) (by rw [rls_ap]; exact sR_ap (by omega) (sR_fr hbB (Or.inr (by rw [b9 3 (rls lp) (rls_in lp _ _ hlp hd.1).2.1, attP_3 h6 hK4 hlp hd (by omega)]; omega)) (fun j y y1 y2 o => by rw [b9 j y y2]; exact attP_x h6 hK2 hK4 hlp hd hty (by omega) j y y1 o)) bB1)
            rw [bk] at m1 m2
            refine ⟨fun y hy hdy => ?_, fun hn => ?_⟩
            · obtain ⟨S2, pn2, P2, lp2, c1, c2, c3, c4, c5, c6, c7, c8, c9, c10, c11, c12, c13, cBB, c14⟩ := m1 y hy hdy
              refine ⟨S2, pn2, P2, lp2, gr_tr (gr_tr g0 b1) c1, RS_P c2 (fun _ _ _ => rfl) (fun j l hl => ?_), by omega, c4, by omega, c6, c7, c8, fun j p hp o => (c9 j p hp o).trans (d3 j p hp o), c10, c11, c12, c13, cBB, e13.trans c14⟩
              unfold uP
              by_cases z : j = 4 ∧ l = dp
              · rw [if_pos z, if_pos z]
              · rw [if_neg z, if_neg z, if_neg z]
            · obtain ⟨S2, c1, c2⟩ := m2 hn
              exact ⟨S2, gr_tr (gr_tr g0 b1) c1, e13.trans c2⟩
      · rw [if_neg c]
        exact stop c
/-- a type is read at a level that is ready -/
theorem rtyp_v (q e : Nat) {t : Nat → Nat} {n : Nat} (ht : tok t n) {dp : Nat} (hdp : dp ≤ 4) {A : rdA} (hA : rAl q e t n dp A) {S : ab_S} {at' al pn ld br ty : Nat} {P K : Nat → Nat → Nat} (h : RS S t n at' 0 dp al pn ld br P K) (ha : at' ≤ n) (h1 : ld < 256) (h2 : br < 256) (hpn : pn ≤ 1 + 3 * at') (hk : ∀ l, l ≤ dp → K 0 l < 128) (h6 : K 6 dp = 0) (hK2 : K 2 dp = ty) (hK4 : K 4 dp = 4294967295) (hty : ty < pn) (hP0 : P 0 ty = 11) (hP1 : P 1 ty = 4294967295) :
    (∀ y, typ t n A (bar K dp) (at', ld, br) = some y → dig (chr t n y.2.1) = false → ∃ S', rTf t n S at' dp al pn ty P K (bar K dp) y S' ∧ LT q e S = GO q e S') ∧ ((∀ y, typ t n A (bar K dp) (at', ld, br) = some y → dig (chr t n y.2.1) = true) → ∃ S', gr S S' ∧ LT q e S = some ((0, n32 0, 0, 0), S')) := by
  have n40 := ht.1
  obtain ⟨a1, a2⟩ := hA S at' al pn ld br P K h ha h1 h2 hpn (Or.inl ⟨h6, by omega, by rw [hK2]; exact hP0, Or.inl hK4⟩) hk
  unfold typ
  cases hx : A (bar K dp) (at', ld, br) with
  | none => exact ⟨nofun, fun _ => a2 (fun y hy => by rw [hx] at hy; cases hy)⟩
  | some x =>
    show (∀ y, mor t n A (bar K dp) 40 x.1 x.2 = some y → _) ∧ ((∀ y, mor t n A (bar K dp) 40 x.1 x.2 = some y → _) → _)
    by_cases dg : dig (chr t n x.2.1) = true
    · have c47 : chr t n x.2.1 ≠ 47 := fun z => by rw [z] at dg; cases dg
      have mx : mor t n A (bar K dp) 40 x.1 x.2 = some (x.1, x.2) := if_neg c47
      refine ⟨fun y hy hdy => ?_, fun _ => a2 (fun y hy => by rw [hx] at hy; cases hy; exact dg)⟩
      rw [mx] at hy
      cases hy
      rw [show dig (chr t n x.2.1) = false from hdy] at dg
      cases dg
    · have dg : dig (chr t n x.2.1) = false := (Bool.not_eq_true _).mp dg
      obtain ⟨S1, ⟨b1, pn1, P1, b2, b3, b4, b5, b6, b7, b8, b9, b10, b11, b12, bB1⟩, b13⟩ := a1 x hx dg
      have b5' : at' < x.2.1 := b5
      have aK : attK K dp pn = uP K 4 dp pn := if_pos h6
      obtain ⟨d1, d2, d3⟩ := dR_ap (lp := []) (p0 := pn) h6 hK2 hK4 hP1 hty (by omega) ⟨Nat.le_refl _, trivial, nofun⟩ b3 b9 b10 b11
      rw [aK] at b2
      have bk : bar (uP K 4 dp pn) dp = bar K dp := bar_cg dp (fun l _ => uP_j K (by omega))
      obtain ⟨m1, m2⟩ := rmor_v q e ht hdp hA (p0 := pn) (at0 := at') (al0 := al) hty 40 0 x.1 [(pn, pn1, anyS x.1)] S1 x.2.1 _ pn1 x.2.2.1 x.2.2.2 P1 (uP K 4 dp pn) rfl (by omega) b2 b6 b7 b8 (by omega) (fun l hl => by rw [uP_j K (by omega)]; exact hk l hl) (by rw [uP_j K (by omega)]; exact h6) (by rw [uP_j K (by omega)]; exact hK2) (by rw [uP_s]; rfl) (by rw [d3 0 ty hty (Or.inl (by omega))]; exact hP0) d2 nofun d1 (by
        funext c i lv
        show (anyS x.1 c i lv || false) = _
        exact Bool.or_false _) (by rw [bk]) b3 b4 bB1
      rw [bk] at m1 m2
      refine ⟨fun y hy hdy => ?_, fun hn => ?_⟩
      · obtain ⟨S2, pn2, P2, lp2, c1, c2, c3, c4, c5, c6, c7, c8, c9, c10, c11, c12, c13, cBB, c14⟩ := m1 y hy hdy
        refine ⟨S2, ⟨gr_tr b1 c1, pn2, P2, lp2, RS_P c2 (fun _ _ _ => rfl) (fun j l hl => ?_), by omega, c4, by omega, c6, c7, c8, fun j p hp o => (c9 j p hp o).trans (d3 j p hp o), c10, c11, c12, c13, cBB⟩, b13.trans c14⟩
        unfold uP
        by_cases z : j = 4 ∧ l = dp
        · rw [if_pos z, if_pos z]
        · rw [if_neg z, if_neg z, if_neg z]
      · obtain ⟨S2, c1, c2⟩ := m2 hn
        exact ⟨S2, gr_tr b1 c1, b13.trans c2⟩
