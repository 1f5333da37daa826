-- Matching in the class: entries.
def fsp (ps : List prt) : Nat := match ps with
  | [] => 4294967295
  | p :: _ => p.1
def lnp (r : Nat) (S : ab_S) : List prt → Prop
  | [] => True
  | p :: ps => S.1 (r + 10) p.1 = n32 (fsp ps) ∧ lnp r S ps
def ofo (o : Nat) : Prop := o = 49 ∨ o = 63 ∨ o = 42 ∨ o = 43
def dP (q r : Nat) (S : ab_S) (b : Nat) (mp : Bool) (p : prt) : Prop := p.1 < 40 ∧ ofo p.2.1 ∧ S.1 (r + 6) p.1 = n32 p.2.1 ∧ S.1 (r + 8) p.1 = n32 (fst p.2.2.2.2) ∧ dT q r S (p.1 + 1) b p.2.2.2.2 ∧ (mp = true → S.1 (r + 7) p.1 = n32 (fst p.2.2.1) ∧ S.1 (r + 9) p.1 = n32 p.2.2.2.1.toNat ∧ dT q r S (p.1 + 1) b p.2.2.1)
theorem ned_v (q d : Nat) {r x o : Nat} (hr : isSh r) (hx : x < 40) (ho : ofo o) {S : ab_S} (h : S.1 (r + 6) x = n32 o) : v_33_0 q d r (n32 x) S = some ((0, n32 (ned o).toNat, 0, 0), S) := by
  rw [e_33_0, ok_sh hr (k := 33) rfl, g_t, ok_a6 hr (k := 33) rfl, g_t, in_ar hr q hx (by omega) (by omega), g_t, g_t, g_t, g_t, n32_cl (by omega), h, e_33_22, e_33_27, e_33_27, nz_1, nz_0]
  rcases ho with rfl | rfl | rfl | rfl <;> rfl
theorem mny_v (q d : Nat) {r x o : Nat} (hr : isSh r) (hx : x < 40) (ho : ofo o) {S : ab_S} (h : S.1 (r + 6) x = n32 o) : v_34_0 q d r (n32 x) S = some ((0, n32 (mny o).toNat, 0, 0), S) := by
  rw [e_34_0, ok_sh hr (k := 34) rfl, g_t, ok_a6 hr (k := 34) rfl, g_t, in_ar hr q hx (by omega) (by omega), g_t, g_t, g_t, g_t, n32_cl (by omega), h, e_34_22, e_34_27, e_34_27, nz_1, nz_0]
  rcases ho with rfl | rfl | rfl | rfl <;> rfl
theorem tak_le {g : Nat → Nat} {f : Nat → Bool} {e : Nat} (hg : ∀ y, y < e → g y ≤ 24) : ∀ n i, i ≤ 24 → tak g f e n i ≤ 24
  | 0, _, h => h
  | n + 1, i, h => by
    unfold tak
    split
    · rename_i k
      exact tak_le hg n _ (hg i k.1)
    · exact h
theorem tak_lp {q r : Nat} (hr : isSh r) {S0 : ab_S} {c : ctx} {cnt bn : Nat} (h : cx S0 c cnt bn) {L : Nat} (hF : FR q S0 c cnt (L + 1)) {lv d : Nat} (h1 : L ≤ lv) (h2 : lv ≤ 21) (h4 : 4 * (21 - lv) + 4 ≤ d) {b : Nat} (hb : b ≤ 40) {mp : Bool} {p : prt} (hp : dP q r S0 b mp p) {e : Nat} (he : e ≤ cnt) {most : Nat} (hm : most ≤ 24) : ∀ n j i, j + n = most → i ≤ 24 → gI S0 c cnt (v_70_22 q (d + 1) r (n32 p.1) (n32 e) (n32 lv) (n32 most) (n32 i) (n32 j)) (n32 (tak (bhd c) (fun x => lvl lv (anyS p.2.2.2.2 c x lv)) e n i))
  | 0, j, i, ej, hi => fun S m1 m2 => by
    refine ⟨S, m1, m2, ?_⟩
    rw [e_70_22, if_neg (by rw [n32_lt (by omega) (by omega)]; omega), e_70_75]
    rfl
  | n + 1, j, i, ej, hi => fun S m1 m2 => by
    have hc := h.2.1
    have g := sh_ge hr
    rw [e_70_22, if_pos (by rw [n32_lt (by omega) (by omega)]; omega), i_lt (by omega) (by omega), e_70_75]
    unfold tak
    by_cases ie : i < e
    · obtain ⟨S1, k1, k2, k3⟩ := fty hr h hF h1 h2 (by omega : i < cnt) h4 hb hp.2.2.2.2.1 S m1 m2
      rw [if_pos ie, ok_sh hr (k := 70) rfl, g_t, ok_a8 hr (k := 70) rfl, g_t, in_ar hr q hp.1 (by omega) (by omega), g_t, n32_cl (by have := hp.1; omega), m1.2 (r + 8) p.1 (by omega) (by omega), hp.2.2.2.1, k3, cI_0, i_bz]
      cases hv : lvl lv (anyS p.2.2.2.2 c i lv) with
      | false =>
        rw [if_neg (by decide), if_neg (fun x => nomatch x.2)]
        exact ⟨S1, k1, k2, rfl⟩
      | true =>
        have t := cx_1 (cx_mx h k1) (by omega : i < cnt)
        rw [if_pos rfl, if_pos ⟨ie, rfl⟩, n32_in (by omega) (by omega), g_t, n32_cl (by omega), t.2.2.2.2.1, n32_add]
        exact tak_lp hr h hF h1 h2 h4 hb hp he hm n (j + 1) (bhd c i) (by omega) t.2.2.2.2.2.2.2 S1 k1 k2
    · rw [if_neg ie, if_neg (fun x => ie x.1)]
      exact ⟨S, m1, m2, rfl⟩
theorem ibe_v {q r : Nat} (hr : isSh r) {S0 : ab_S} {c : ctx} {cnt bn : Nat} (h : cx S0 c cnt bn) {L : Nat} (hF : FR q S0 c cnt (L + 1)) {lv d : Nat} (h1 : L ≤ lv) (h2 : lv ≤ 21) (h4 : 4 * (21 - lv) + 5 ≤ d) {b : Nat} (hb : b ≤ 40) {mp : Bool} {p : prt} (hp : dP q r S0 b mp p) {e : Nat} (he : e ≤ cnt) {i : Nat} (hi : i ≤ 24) : gI S0 c cnt (v_70_0 q d r (n32 p.1) (n32 i) (n32 e) (n32 lv)) (n32 (tak (bhd c) (fun x => lvl lv (anyS p.2.2.2.2 c x lv)) e (bif mny p.2.1 then 24 else 1) i)) := by
  obtain ⟨d, rfl⟩ := dsuc h4
  intro S m1 m2
  have g := sh_ge hr
  have e1 : v_70_0 q (d + 1) r (n32 p.1) (n32 i) (n32 e) (n32 lv) S = v_70_22 q (d + 1) r (n32 p.1) (n32 e) (n32 lv) (n32 (bif mny p.2.1 then 24 else 1)) (n32 i) (n32 0) S := by
    rw [e_70_0, ok_sh hr (k := 70) rfl, g_t, mny_v q d hr hp.1 hp.2.1 ((m1.2 (r + 6) p.1 (by omega) (by omega)).trans hp.2.2.1), cI_0, i_bz, e_70_14, e_70_14]
    cases mny p.2.1 with
    | true => rfl
    | false => rfl
  rw [e1]
  exact tak_lp hr h hF h1 h2 (by omega) hb hp he (by cases mny p.2.1 <;> decide) _ 0 i (Nat.zero_add _) hi S m1 m2
theorem ent_lp {q r : Nat} (hr : isSh r) {S0 : ab_S} {c : ctx} {cnt bn : Nat} (h : cx S0 c cnt bn) {L : Nat} (hF : FR q S0 c cnt (L + 1)) {lv d : Nat} (h1 : L ≤ lv) (h2 : lv ≤ 21) (h4 : 4 * (21 - lv) + 5 ≤ d) {b : Nat} (hb : b ≤ 40) {mp : Bool} {e : Nat} (he : e ≤ cnt) : ∀ ps k i, k + ps.length ≤ 6 → i ≤ 24 → lnp r S0 ps → (∀ p, p ∈ ps → dP q r S0 b mp p) → gA S0 c cnt (v_69_22 q (d + 1) r (n32 lv) (n32 e) (n32 i) (n32 (fsp ps)) (n32 k)) (ents c lv e ps i)
  | [], k, i, hk, hi, _, _ => fun S m1 m2 => by
    have hc := h.2.1
    refine ⟨S, m1, m2, ?_⟩
    rw [show fsp [] = 4294967295 from rfl, e_69_22, n32_m1, if_pos (rfl : n32 4294967295 = n32 4294967295), ite_self, e_69_87, i_eq (by omega) (by omega), e_69_99, e_69_99, nz_1, nz_0]
    unfold ents
    by_cases g : i = e
    · rw [if_pos g, decide_eq_true g]; rfl
    · rw [if_neg g, decide_eq_false g]; rfl
  | p :: ps, k, i, hk, hi, hl, hd => fun S m1 m2 => by
    have hc := h.2.1
    have g := sh_ge hr
    have hp := hd p (List.mem_cons_self ..)
    have p40 := hp.1
    have hk : k + (ps.length + 1) ≤ 6 := hk
    have tl : tak (bhd c) (fun x => lvl lv (anyS p.2.2.2.2 c x lv)) e (bif mny p.2.1 then 24 else 1) i ≤ 24 := tak_le (fun y hy => (cx_1 h (by omega : y < cnt)).2.2.2.2.2.2.2) _ _ hi
    obtain ⟨S1, k1, k2, k3⟩ := ibe_v hr h hF h1 h2 h4 hb hp he hi S m1 m2
    rw [show fsp (p :: ps) = p.1 from rfl, e_69_22, if_pos (by rw [n32_lt (by omega) (by omega)]; omega), n32_m1, i_eq (by omega) (by omega), if_neg (by omega), k3, cI_0, i_eq (by omega) (by omega)]
    unfold ents
    revert tl
    generalize tak (bhd c) (fun x => lvl lv (anyS p.2.2.2.2 c x lv)) e (bif mny p.2.1 then 24 else 1) i = j
    intro tl
    have nx : ∃ S', mx S0 S' ∧ mm c cnt S' ∧ v_69_72 q (d + 1) r (n32 lv) (n32 e) (n32 j) (n32 p.1) (n32 k) S1 = some ((0, n32 (ents c lv e ps j).toNat, 0, 0), S') := by
      rw [e_69_72, ok_sh hr (k := 69) rfl, g_t, ok_a10 hr (k := 69) rfl, g_t, in_ar hr q p40 (by omega) (by omega), g_t, n32_cl (by omega), k1.2 (r + 10) p.1 (by omega) (by omega), hl.1, n32_add]
      exact ent_lp hr h hF h1 h2 h4 hb he ps (k + 1) j (by omega) tl hl.2 (fun p' hp' => hd p' (List.mem_cons_of_mem _ hp')) S1 k1 k2
    by_cases ji : j = i
    · rw [if_pos ji, ok_sh hr (k := 69) rfl, g_t, ned_v q d hr p40 hp.2.1 ((k1.2 (r + 6) p.1 (by omega) (by omega)).trans hp.2.2.1), cI_0, i_bz]
      cases hn : ned p.2.1 with
      | true =>
        rw [if_pos rfl, if_pos ⟨ji, rfl⟩]
        exact ⟨S1, k1, k2, rfl⟩
      | false =>
        rw [if_neg (by decide), if_neg (fun x => nomatch x.2)]
        exact nx
    · rw [if_neg ji, if_neg (fun x => ji x.1)]
      exact nx
theorem k66_91 {q d r x i : Nat} (hr : isSh r) (hx : x < 40) {S0 : ab_S} {c : ctx} {cnt bn : Nat} (h : cx S0 c cnt bn) (hi : i < cnt) (hk : S0.1 (r + 2) x = n32 91) {ps : List prt} (h4 : S0.1 (r + 4) x = n32 (fsp ps)) {L : Nat} (hF : FR q S0 c cnt (L + 1)) {lv : Nat} (l1 : L ≤ lv) (l2 : lv ≤ 20) (hd : 4 * (21 - lv) + 3 ≤ d) {b : Nat} (hb : b ≤ 40) (hl : ps.length ≤ 6) (hn : lnp r S0 ps) {mp : Bool} (hp : ∀ p, p ∈ ps → dP q r S0 b mp p) : gA S0 c cnt (v_66_0 q d r (n32 x) (n32 i) (n32 lv)) (arS ps c i lv) := by
  obtain ⟨d, rfl⟩ := dsuc hd
  obtain ⟨d, rfl⟩ := dsuc (by omega : 4 * (21 - lv) + 1 + 1 ≤ d)
  intro S m1 m2
  have t := cx_1 (cx_mx h m1) hi
  have g := sh_ge hr
  have rd (j y : Nat) (hj : j ≤ 10) : S.1 (r + j) y = S0.1 (r + j) y := m1.2 (r + j) y (by omega) (by omega)
  have hk' := (rd 2 x (by omega)).trans hk
  have e : v_66_0 q (d + 1 + 1) r (n32 x) (n32 i) (n32 lv) S = if maj c i = 4 then (cI (v_69_22 q (d + 1) r (n32 (lv + 1)) (n32 (bhd c i)) (n32 (i + 1)) (n32 (fsp ps)) (n32 0) S) fun y2 S2 => (if y2 = (n32 0) then (v_66_294 q (d + 1 + 1) S2) else (v_66_295 q (d + 1 + 1) (n32 1) S2))) else (v_66_294 q (d + 1 + 1) S) := by
    rw [e_66_0, n32_in (by omega) (by omega), g_t, ok_sh hr (k := 66) rfl, g_t, ok_a2 hr (k := 66) rfl, g_t, in_ar hr q hx (by omega) (by omega), g_t, n32_cl (show x < 2147483648 by omega), hk', if_neg (by decide : ¬ n32 91 = n32 34), if_neg (by decide : ¬ n32 91 = n32 35), if_neg (by decide : ¬ n32 91 = n32 46), if_neg (by decide : ¬ n32 91 = n32 48), if_neg (by decide : ¬ n32 91 = n32 65), if_pos rfl, n32_cl (by omega), t.2.1, i_eq (by omega) (by omega), g_t, ok_a4 hr (k := 66) rfl, g_t, in_ar hr q hx (by omega) (by omega), g_t, rd 4 x (by omega), h4, n32_add, e_69_0, n32_in (by omega) (by omega), g_t, n32_cl (by omega), t.2.2.2.2.1, n32_add]
  rw [e]
  unfold arS
  by_cases g4 : maj c i = 4
  · rw [if_pos g4, decide_eq_true g4, Bool.true_and]
    obtain ⟨S2, k1, k2, k3⟩ := ent_lp hr h hF (by omega : L ≤ lv + 1) (by omega) (by omega : 4 * (21 - (lv + 1)) + 5 ≤ d) hb (h.2.2.2.2.1 i hi).2 ps 0 (i + 1) (by omega) (by omega) hn hp S m1 m2
    refine ⟨S2, k1, k2, ?_⟩
    have k3' : v_69_22 q (d + 1) r (n32 (lv + 1)) (n32 (bhd c i)) (n32 (i + 1)) (n32 (fsp ps)) (n32 0) S = _ := k3
    rw [k3', cI_0, i_bz, e_66_294, e_66_295, e_66_295, nz_0, nz_1]
    show _ = some ((0, n32 (ents c (lv + 1) (bhd c i) ps (i + 1)).toNat, 0, 0), S2)
    show (if ents c (lv + 1) (bhd c i) ps (i + 1) = true then _ else _) = _
    cases ents c (lv + 1) (bhd c i) ps (i + 1) with
    | true => rfl
    | false => rfl
  · rw [if_neg g4, decide_eq_false g4, Bool.false_and, e_66_294, e_66_295, nz_0]
    exact ⟨S, m1, m2, rfl⟩
