-- The class reads types: chains of alternatives, brackets, tags.
theorem pf_row {r p p' : Nat} (hr : isSh r) {S S' : ab_S} (h : pf r p p' S S') {j y : Nat} (h1 : 1 ≤ j) (h2 : j ≤ 10) (hy : y < p ∨ p' ≤ y) : S'.1 (r + j) y = S.1 (r + j) y := by
  have := (sh_ne hr).2 j h1 h2
  exact h.2 (r + j) y (by omega) (by omega) (by omega)
theorem lsa_in : ∀ l p p', l ≠ [] → lay p l p' → p ≤ lsa l ∧ lsa l < p' ∧ ∀ a, a ∈ l → lsa l = a.1 ∨ a.2.1 ≤ lsa l
  | [], _, _, h, _ => absurd rfl h
  | [a], p, p', _, h => by
    refine ⟨h.1, ?_, fun b hb => ?_⟩
    · have : a.2.1 ≤ p' := h.2.2
      have := h.2.1
      show a.1 < p'
      omega
    · rw [List.mem_singleton] at hb
      rw [hb]
      exact Or.inl rfl
  | a :: b :: l, p, p', _, h => by
    have k := lsa_in (b :: l) a.2.1 p' nofun h.2.2
    have h1 := h.1
    have h2 := h.2.1
    refine ⟨?_, k.2.1, fun c hc => ?_⟩
    · show p ≤ lsa (b :: l)
      omega
    · rcases List.mem_cons.mp hc with e | e
      · rw [e]
        exact Or.inr k.1
      · exact k.2.2 c e
theorem fst_app {l l2 : List alt} (h : l ≠ []) : fst (l ++ l2) = fst l := by
  cases l with
  | nil => exact absurd rfl h
  | cons a l => rfl
theorem lsa_app : ∀ (l l2 : List alt), l2 ≠ [] → lsa (l ++ l2) = lsa l2
  | [], _, _ => rfl
  | [a], [], h => absurd rfl h
  | [a], b :: l, _ => rfl
  | a :: b :: l, l2, h => by
    show lsa (b :: l ++ l2) = lsa l2
    exact lsa_app (b :: l) l2 h
theorem lay_app : ∀ l p p1 p2 p' l2, lay p l p1 → p1 ≤ p2 → lay p2 l2 p' → lay p (l ++ l2) p'
  | [], p, p1, p2, p', l2, h, g, k => lay_up l2 _ _ (Nat.le_trans h g) k
  | a :: l, p, p1, p2, p', l2, h, g, k => ⟨h.1, h.2.1, lay_app l _ p1 p2 p' l2 h.2.2 g k⟩
theorem lnk_w {r : Nat} {S : ab_S} {z : Nat} {v : Int32} : ∀ l, (∀ a, a ∈ l → a.1 ≠ z) → lnk r S l → lnk r (ab_wi S (r + 3) z v) l
  | [], _, _ => trivial
  | a :: l, h, k => ⟨by rw [wi_rd, if_neg (fun x => h a (List.mem_cons_self ..) x.2)]; exact k.1, lnk_w l (fun b hb => h b (List.mem_cons_of_mem _ hb)) k.2⟩
theorem lnk_app {r : Nat} {S : ab_S} {l2 : List alt} : ∀ l p p1, l ≠ [] → lay p l p1 → lnk r S l → lnk r S l2 → (∀ a, a ∈ l2 → p1 ≤ a.1) → lnk r (ab_wi S (r + 3) (lsa l) (n32 (fst l2))) (l ++ l2)
  | [], _, _, h, _, _, _, _ => absurd rfl h
  | [a], p, p1, _, hl, h1, h2, h3 => by
    have l1 := hl.2.1
    have l2' : a.2.1 ≤ p1 := hl.2.2
    refine ⟨?_, lnk_w l2 (fun b hb => ?_) h2⟩
    · show (ab_wi S (r + 3) a.1 (n32 (fst l2))).1 (r + 3) a.1 = _
      rw [wi_rd, if_pos ⟨rfl, rfl⟩]
      rfl
    · have := h3 b hb
      show b.1 ≠ a.1
      omega
  | a :: b :: l, p, p1, _, hl, h1, h2, h3 => by
    have k := lsa_in (b :: l) a.2.1 p1 nofun hl.2.2
    have l1 := hl.2.1
    refine ⟨?_, lnk_app (b :: l) a.2.1 p1 nofun hl.2.2 h1.2 h2 h3⟩
    show (ab_wi S (r + 3) (lsa (b :: l)) (n32 (fst l2))).1 (r + 3) a.1 = _
    rw [wi_rd, if_neg (by omega)]
    exact h1.1
theorem dT_app {q r : Nat} (hr : isSh r) {S : ab_S} {p p1 p2 p' : Nat} {l l2 : List alt} (h : dT q r S p p1 l) (g : dT q r S p2 p' l2) (hp : p1 ≤ p2) : dT q r (ab_wi S (r + 3) (lsa l) (n32 (fst l2))) p p' (l ++ l2) := by
  have k := lsa_in l p p1 h.1 h.2.1
  have i1 := lay_in l p p1 h.2.1
  have i2 := lay_in l2 p2 p' g.2.1
  refine ⟨?_, lay_app l p p1 p2 p' l2 h.2.1 hp g.2.1, lnk_app l p p1 h.1 h.2.1 h.2.2.1 g.2.2.1 (fun a ha => by have := i2 a ha; omega), fun a ha => ?_⟩
  · intro e
    exact h.1 (List.append_eq_nil_iff.mp e).1
  · rcases List.mem_append.mp ha with ha | ha
    · refine denA_fr (h.2.2.2 a ha) (fun j j1 j2 y y1 y2 o => ?_)
      have := k.2.2 a ha
      have := i1 a ha
      rw [wi_rd, if_neg (by omega)]
    · refine denA_fr (g.2.2.2 a ha) (fun j j1 j2 y y1 y2 o => ?_)
      have := i2 a ha
      rw [wi_rd, if_neg (by omega)]
/-- alternatives are read so, at this depth -/
def hA (q r : Nat) (t : Nat → Nat) (n dp D : Nat) (A : rdA) : Prop := ∀ bare S s d, rdr r t n S s → s.1 ≤ n → s.2.1 < 256 → s.2.2 < 256 → D ≤ d → oA q r t n S s (v_44_0 q d (n32 dp) (n32 (Bool.toNat bare)) S) (A bare s)
theorem mor_v {q r : Nat} (hr : isSh r) {t : Nat → Nat} {n : Nat} (ht : tok t n) {dp D : Nat} {A : rdA} (h : hA q r t n dp D A) {d : Nat} (hd : D ≤ d) (hd1 : 1 ≤ d) (bare : Bool) (p0 : Nat) : ∀ k j l S s, j + k = 40 → rdr r t n S s → s.1 ≤ n → s.2.1 < 256 → s.2.2 < 256 → dT q r S p0 s.1 l → (∀ a, a ∈ l → S.1 (r + 2) a.1 = n32 a.2.2.1 ∧ a.2.2.1 < 128) → S.1 102 2 = n32 (lsa l) → (mor t n A bare k l s = none → ∃ S', ff r S S' ∧ v_43_10 q (d + 1) (n32 dp) (n32 bare.toNat) (n32 (fst l)) (n32 j) S = some ((1, 0, 0, 0), S')) ∧ ∀ y, mor t n A bare k l s = some y → s.1 ≤ y.2.1 ∧ y.2.1 ≤ n ∧ y.2.2.1 < 256 ∧ y.2.2.2 < 256 ∧ fst y.1 = fst l ∧ ∃ S', pf r p0 y.2.1 S S' ∧ rdr r t n S' y.2 ∧ dT q r S' p0 y.2.1 y.1 ∧ (∀ a, a ∈ y.1 → S'.1 (r + 2) a.1 = n32 a.2.2.1 ∧ a.2.2.1 < 128) ∧ S'.1 102 2 = n32 (lsa y.1) ∧ v_43_10 q (d + 1) (n32 dp) (n32 bare.toNat) (n32 (fst l)) (n32 j) S = some ((0, n32 (fst l), 0, 0), S')
  | 0, j, l, S, s, e, hs, hn, h1, h2, hT, hK, hL => by
    refine ⟨nofun, fun y hy => ?_⟩
    cases hy
    refine ⟨Nat.le_refl _, hn, h1, h2, rfl, S, pf_rf _ _ _ _, hs, hT, hK, hL, ?_⟩
    rw [e_43_10, if_neg (by rw [n32_lt (by omega) (by omega)]; omega), e_43_54]
  | k + 1, j, l, S, s, e, hs, hn, h1, h2, hT, hK, hL => by
    have n40 := ht.1
    have g := sh_ne hr
    have g3 := g.2 3 (by omega) (by omega)
    have g2 := g.2 2 (by omega) (by omega)
    have ll := lsa_in l _ _ hT.1 hT.2.1
    obtain ⟨d, rfl⟩ := dsuc hd1
    rw [e_43_10, if_pos (by rw [n32_lt (by omega) (by omega)]; omega), ps_v q d hr ht hs hn (by decide)]
    unfold mor
    by_cases c : chr t n s.1 = 47
    · have l1 := chr_lt c (by decide)
      rw [if_pos c, if_pos c, cI_0, if_neg one_z]
      have r1 := rdr_mv hr hs (s.1 + 1)
      have f1 : pf r p0 s.1 S (ab_wi S 102 1 (n32 (s.1 + 1))) := pf_102 r p0 s.1 S (Or.inl rfl) _
      have t1 : (ab_wi S 102 1 (n32 (s.1 + 1))).1 102 2 = n32 (lsa l) := hL
      have T1 : dT q r (ab_wi S 102 1 (n32 (s.1 + 1))) p0 s.1 l := dT_fr hT (fun j j1 j2 y _ _ => by have := g.2 j j1 j2; rw [wi_rd, if_neg (by omega)])
      have K1 : ∀ a, a ∈ l → (ab_wi S 102 1 (n32 (s.1 + 1))).1 (r + 2) a.1 = n32 a.2.2.1 ∧ a.2.2.1 < 128 := fun a ha => by rw [wi_rd, if_neg (by omega)]; exact hK a ha
      rw [r1.1, ok_sh hr (k := 43) rfl, g_t, t1]
      revert r1 f1 T1 K1
      generalize ab_wi S 102 1 (n32 (s.1 + 1)) = S1
      intro r1 f1 T1 K1
      obtain ⟨a1, a2⟩ := h bare S1 (s.1 + 1, s.2) (d + 1) r1 l1 h1 h2 hd
      cases hA' : A bare (s.1 + 1, s.2) with
      | none =>
        obtain ⟨S', b1, b2⟩ := a1 hA'
        refine ⟨fun _ => ⟨S', ff_tr f1 b1, ?_⟩, nofun⟩
        rw [b2, cI_x (by omega)]
      | some x =>
        obtain ⟨b1, b2, b3, b4, S2, c1, c2, c3, c4, c5, c6⟩ := a2 x hA'
        have b1' : s.1 + 1 < x.2.1 := b1
        have c1' : pf r (s.1 + 1) x.2.1 S1 S2 := c1
        have c3' : dT q r S2 (s.1 + 1) x.2.1 x.1 := c3
        rw [c6, cI_0, ok_a3 hr (k := 43) rfl, bl_ar hr 3, Bool.and_true, g_t, in_ar hr q (by omega : lsa l < 40) (by omega) (by omega), g_t, n32_cl (by omega), n32_add]
        have T2 : dT q r S2 p0 s.1 l := dT_fr T1 (fun j j1 j2 y y1 y2 => pf_row hr c1' j1 j2 (Or.inl (by omega)))
        have T3 := dT_app hr T2 c3' (by omega : s.1 ≤ s.1 + 1)
        have K2 : ∀ a, a ∈ l ++ x.1 → (ab_wi S2 (r + 3) (lsa l) (n32 (fst x.1))).1 (r + 2) a.1 = n32 a.2.2.1 ∧ a.2.2.1 < 128 := fun a ha => by
          rw [wi_rd, if_neg (by omega)]
          rcases List.mem_append.mp ha with ha | ha
          · rw [pf_row hr c1' (by omega) (by omega) (Or.inl (by have := lay_in l _ _ hT.2.1 a ha; omega))]
            exact K1 a ha
          · exact c4 a ha
        have r3 := rdr_tb hr c2 (k := 3) (by omega) (by omega) (lsa l) (n32 (fst x.1))
        have f3 : pf r p0 x.2.1 S (ab_wi S2 (r + 3) (lsa l) (n32 (fst x.1))) := pf_tr (pf_tr f1 c1' (Nat.le_refl _) (show s.1 ≤ x.2.1 by omega) (by omega) (Nat.le_refl _)) (pf_tb (p := p0) (p' := x.2.1) S2 (by omega) (by omega) ll.1 (by omega) _) (Nat.le_refl _) (Nat.le_refl _) (Nat.le_refl _) (Nat.le_refl _)
        have t3 : (ab_wi S2 (r + 3) (lsa l) (n32 (fst x.1))).1 102 2 = n32 (lsa (l ++ x.1)) := by
          rw [wi_rd, if_neg (by omega), c5, lsa_app l x.1 c3'.1]
        obtain ⟨m1, m2⟩ := mor_v hr ht h hd hd1 bare p0 k (j + 1) (l ++ x.1) _ x.2 (by omega) r3 b2 b3 b4 T3 K2 t3
        rw [fst_app hT.1] at m1 m2
        refine ⟨fun hm => ?_, fun y hy => ?_⟩
        · obtain ⟨S', d1, d2⟩ := m1 hm
          exact ⟨S', ff_tr f3 d1, d2⟩
        · obtain ⟨d1, d2, d3, d4, d5, S', d6, d7⟩ := m2 y hy
          exact ⟨by omega, d2, d3, d4, d5, S', pf_tr f3 d6 (Nat.le_refl _) d1 (Nat.le_refl _) (Nat.le_refl _), d7⟩
    · rw [if_neg c, if_neg c, cI_0, if_pos rfl, e_43_54]
      refine ⟨nofun, fun y hy => ?_⟩
      cases hy
      exact ⟨Nat.le_refl _, hn, h1, h2, rfl, S, pf_rf _ _ _ _, hs, hT, hK, hL, rfl⟩
theorem typ_v {q r : Nat} (hr : isSh r) {t : Nat → Nat} {n : Nat} (ht : tok t n) {dp D : Nat} {A : rdA} (h : hA q r t n dp D A) (hD : 1 ≤ D) {d : Nat} (hd : D + 1 ≤ d) (bare : Bool) {S : ab_S} {s : pst} (hs : rdr r t n S s) (hn : s.1 ≤ n) (h1 : s.2.1 < 256) (h2 : s.2.2 < 256) : oA q r t n S s (v_43_0 q d (n32 dp) (n32 bare.toNat) S) (typ t n A bare s) := by
  obtain ⟨d, rfl⟩ := dsuc hd
  obtain ⟨a1, a2⟩ := h bare S s d hs hn h1 h2 (by omega)
  unfold typ
  rw [e_43_0]
  cases hA' : A bare s with
  | none =>
    obtain ⟨S', b1, b2⟩ := a1 hA'
    refine ⟨fun _ => ⟨S', b1, ?_⟩, nofun⟩
    rw [b2, cI_x (by omega)]
  | some x =>
    obtain ⟨b1, b2, b3, b4, S2, c1, c2, c3, c4, c5, c6⟩ := a2 x hA'
    rw [c6, cI_0]
    obtain ⟨m1, m2⟩ := mor_v hr ht h (by omega : D ≤ d) (by omega) bare s.1 40 0 x.1 S2 x.2 rfl c2 b2 b3 b4 c3 c4 c5
    refine ⟨fun hm => ?_, fun y hy => ?_⟩
    · obtain ⟨S', d1, d2⟩ := m1 hm
      exact ⟨S', ff_tr c1 d1, d2⟩
    · obtain ⟨d1, d2, d3, d4, d5, S', d6, d7, d8, d9, d10, d11⟩ := m2 y hy
      exact ⟨by omega, d2, d3, d4, S', pf_tr c1 d6 (Nat.le_refl _) d1 (Nat.le_refl _) (Nat.le_refl _), d7, d8, d9, d10, by rw [d5]; exact d11⟩
theorem btw_v' {q r : Nat} (hr : isSh r) {t : Nat → Nat} {n : Nat} (ht : tok t n) {dp D : Nat} (hdp : dp < 4) {A : rdA} (h : hA q r t n (dp + 1) D A) (hD : 1 ≤ D) {d : Nat} (hd : D + 2 ≤ d) (bare : Bool) {S : ab_S} {s : pst} (hs : rdr r t n S s) (hn : s.1 ≤ n) (h1 : s.2.1 < 256) (h2 : s.2.2 < 256) : oA q r t n S s (v_45_0 q d (n32 dp) (n32 bare.toNat) S) (btw t n A bare s) := by
  obtain ⟨d, rfl⟩ := dsuc hd
  obtain ⟨d, rfl⟩ := dsuc (by omega : D + 1 ≤ d)
  unfold btw
  have g := sh_ne hr
  rw [e_45_0, i_lt (by omega) (by omega), if_pos hdp, ps_v q d hr ht hs hn (by decide)]
  by_cases c : chr t n s.1 = 40
  · have l1 := chr_lt c (by decide)
    rw [if_pos c, if_pos c, cI_0, if_neg one_z, e_45_19, rq_1, cV_0, n32_add]
    have r1 := rdr_mv hr hs (s.1 + 1)
    have f1 : pf r s.1 s.1 S (ab_wi S 102 1 (n32 (s.1 + 1))) := pf_102 r s.1 s.1 S (Or.inl rfl) _
    obtain ⟨a1, a2⟩ := typ_v hr ht h hD (by omega : D + 1 ≤ d + 1) bare r1 l1 h1 h2
    cases hT : typ t n A bare (s.1 + 1, s.2) with
    | none =>
      obtain ⟨S', b1, b2⟩ := a1 hT
      refine ⟨fun _ => ⟨S', ff_tr f1 b1, ?_⟩, nofun⟩
      rw [b2, cI_x (by omega)]
    | some x =>
      obtain ⟨b1, b2, b3, b4, S2, c1, c2, c3, c4, c5, c6⟩ := a2 x hT
      have b1' : s.1 + 1 < x.2.1 := b1
      have c1' : pf r (s.1 + 1) x.2.1 _ S2 := c1
      have c3' : dT q r S2 (s.1 + 1) x.2.1 x.1 := c3
      rw [c6, cI_0, ps_v q d hr ht c2 b2 (by decide)]
      show oA q r t n S s _ (if chr t n x.2.1 = 41 then some (x.1, (x.2.1 + 1, x.2.2)) else none)
      by_cases c' : chr t n x.2.1 = 41
      · have l2 := chr_lt c' (by decide)
        rw [if_pos c', if_pos c', cI_0, rq_1, cV_0]
        refine ⟨nofun, fun y hy => ?_⟩
        cases hy
        refine ⟨show s.1 < x.2.1 + 1 by omega, l2, b3, b4, ab_wi S2 102 1 (n32 (x.2.1 + 1)), ?_, rdr_mv hr c2 _, ?_, fun a ha => ?_, c5, rfl⟩
        · exact pf_tr (pf_tr f1 c1' (Nat.le_refl _) (show s.1 ≤ x.2.1 by omega) (by omega) (Nat.le_refl _)) (pf_102 r s.1 (x.2.1 + 1) _ (Or.inl rfl) _) (Nat.le_refl _) (show x.2.1 ≤ x.2.1 + 1 by omega) (Nat.le_refl _) (Nat.le_refl _)
        · exact dT_wd (dT_fr c3' (fun j j1 j2 y _ _ => by have := g.2 j j1 j2; rw [wi_rd, if_neg (by omega)])) (by omega) (Nat.le_succ _)
        · have := g.2 2 (by omega) (by omega)
          rw [wi_rd, if_neg (by omega)]
          exact c4 a ha
      · rw [if_neg c', if_neg c', cI_0, rq_0, cV_x (by omega)]
        exact ⟨fun _ => ⟨_, ff_wx (pf_tr f1 c1' (Nat.le_refl _) (show s.1 ≤ x.2.1 by omega) (by omega) (Nat.le_refl _)), rfl⟩, nofun⟩
  · rw [if_neg c, if_neg c, cI_0, if_pos rfl, e_45_18, e_45_19, rq_0, cV_x (by omega)]
    exact ⟨fun _ => ⟨_, ff_wx (pf_rf r 0 0 S), rfl⟩, nofun⟩
theorem btw_x (q d : Nat) {r : Nat} {dp : Nat} (h4 : 4 ≤ dp) (h5 : dp < 100) (b : Int32) (S : ab_S) : ∃ S', ff r S S' ∧ v_45_0 q (d + 2) (n32 dp) b S = some ((1, 0, 0, 0), S') := by
  refine ⟨_, ff_wx (pf_rf r 0 0 S), ?_⟩
  rw [e_45_0, i_lt (by omega) (by omega), if_neg (by omega), e_45_18, e_45_19, rq_0, cV_x (by omega)]
theorem denA_tg {q r : Nat} (hr : isSh r) {S : ab_S} {x e v : Nat} (hx : x < 40) (he : x < e) (he4 : e ≤ 40) (hv : v < 10) (h : S.1 (r + 2) x = n32 35) (h4 : S.1 (r + 4) x = n32 v) {l : List alt} (h5 : S.1 (r + 5) x = n32 (fst l)) (hl : dT q r S (x + 1) e l) : denA q r S x e (tgS v l) := fun S0 c cnt bn a b L hF lv i d l1 l2 hi hd =>
  k66_35 hr hx a hi ((b 2 (by omega) (by omega) x (Nat.le_refl _) he (Or.inl (by omega))).trans h) hv ((b 4 (by omega) (by omega) x (Nat.le_refl _) he (Or.inl (by omega))).trans h4) ((b 5 (by omega) (by omega) x (Nat.le_refl _) he (Or.inl (by omega))).trans h5) hF l1 l2 hd he4 (dT_fr hl (fun j j1 j2 y y1 y2 => b j j1 j2 y (by omega) y2 (Or.inr (by omega))))
theorem tag_v {q r : Nat} (hr : isSh r) {t : Nat → Nat} {n : Nat} (ht : tok t n) {dp f D : Nat} (hf : dp + f = 4) {A : rdA} (h : 0 < f → hA q r t n (dp + 1) D A) (hD : 1 ≤ D) {d : Nat} (hd : D + 3 ≤ d) {S : ab_S} {s : pst} (hs : rdr r t n S s) (hn : s.1 < n) (h1 : s.2.1 < 256) (h2 : s.2.2 < 256) : oB q r t n S s (v_46_0 q d (n32 dp) S) (if dig (chr t n (s.1 + 1)) = true then (if f = 0 then none else match btw t n A false (s.1 + 2, s.2) with | none => none | some x => some ((s.1, x.2.1, 35, tgS (chr t n (s.1 + 1) - 48) x.1), x.2)) else none) := by
  obtain ⟨d, rfl⟩ := dsuc hd
  obtain ⟨d, rfl⟩ := dsuc (by omega : D + 1 + 1 ≤ d)
  have n40 := ht.1
  have g := sh_ne hr
  have g2 := g.2 2 (by omega) (by omega)
  have g4 := g.2 4 (by omega) (by omega)
  have g5 := g.2 5 (by omega) (by omega)
  have r1 := rdr_mv hr hs (s.1 + 1)
  have f1 : pf r s.1 s.1 S (ab_wi S 102 1 (n32 (s.1 + 1))) := pf_102 r s.1 s.1 S (Or.inl rfl) _
  have z1 : (s.1 + 1, s.2).1 = s.1 + 1 := rfl
  rw [e_46_0, hs.2.1, n32_add, dg_v q d hr ht r1 hn, cI_0, z1, rq_b]
  by_cases c : dig (chr t n (s.1 + 1)) = true
  · have c' := dig_c c
    have l1 := chr_lt (t := t) (n := n) (p := s.1 + 1) rfl (by omega)
    rw [if_pos c, if_pos c, cV_0, r1.1, ok_sh hr (k := 46) rfl, g_t, ok_a2 hr (k := 46) rfl, bl_ar hr 2, Bool.and_true, g_t, in_ar hr q (by omega : s.1 < 40) (by omega) (by omega), g_t, n32_cl (by omega), show ab_nc (n32 35) = n32 35 from rfl, ok_sh hr (k := 46) rfl, g_t]
    have r2 := rdr_tb hr r1 (k := 2) (by omega) (by omega) s.1 (n32 35)
    have f2 : pf r s.1 (s.1 + 1) S (ab_wi (ab_wi S 102 1 (n32 (s.1 + 1))) (r + 2) s.1 (n32 35)) := pf_tr f1 (pf_tb (p := s.1) (p' := s.1 + 1) _ (by omega) (by omega) (Nat.le_refl _) (Nat.lt_succ_self _) _) (Nat.le_refl _) (by omega) (Nat.le_refl _) (Nat.le_refl _)
    rw [he_v q _ hr ht r2 hn, cI_0, z1, n32_sub c'.1, ok_a4 hr (k := 46) rfl, bl_ar hr 4, Bool.and_true, g_t, in_ar hr q (by omega : s.1 < 40) (by omega) (by omega), g_t]
    have r3 := rdr_tb hr r2 (k := 4) (by omega) (by omega) s.1 (n32 (chr t n (s.1 + 1) - 48))
    have f3 : pf r s.1 (s.1 + 1) S (ab_wi (ab_wi (ab_wi S 102 1 (n32 (s.1 + 1))) (r + 2) s.1 (n32 35)) (r + 4) s.1 (n32 (chr t n (s.1 + 1) - 48))) := pf_tr f2 (pf_tb (p := s.1) (p' := s.1 + 1) _ (by omega) (by omega) (Nat.le_refl _) (Nat.lt_succ_self _) _) (Nat.le_refl _) (Nat.le_refl _) (Nat.le_refl _) (Nat.le_refl _)
    have w2 : (ab_wi (ab_wi (ab_wi S 102 1 (n32 (s.1 + 1))) (r + 2) s.1 (n32 35)) (r + 4) s.1 (n32 (chr t n (s.1 + 1) - 48))).1 (r + 2) s.1 = n32 35 := by rw [wi_rd, if_neg (by omega), wi_rd, if_pos ⟨rfl, rfl⟩]
    have w4 : (ab_wi (ab_wi (ab_wi S 102 1 (n32 (s.1 + 1))) (r + 2) s.1 (n32 35)) (r + 4) s.1 (n32 (chr t n (s.1 + 1) - 48))).1 (r + 4) s.1 = n32 (chr t n (s.1 + 1) - 48) := by rw [wi_rd, if_pos ⟨rfl, rfl⟩]
    rw [r3.2.1, r2.1, z1, n32_add, ok_sh hr (k := 46) rfl, g_t]
    revert r3 f3 w2 w4
    generalize ab_wi (ab_wi (ab_wi S 102 1 (n32 (s.1 + 1))) (r + 2) s.1 (n32 35)) (r + 4) s.1 (n32 (chr t n (s.1 + 1) - 48)) = S3
    intro r3 f3 w2 w4
    have r4 := rdr_mv hr r3 (s.1 + 2)
    have f4 : pf r s.1 (s.1 + 1) S (ab_wi S3 102 1 (n32 (s.1 + 2))) := pf_tr f3 (pf_102 r s.1 (s.1 + 1) S3 (Or.inl rfl) _) (Nat.le_refl _) (Nat.le_refl _) (Nat.le_refl _) (Nat.le_refl _)
    have w2' : (ab_wi S3 102 1 (n32 (s.1 + 2))).1 (r + 2) s.1 = n32 35 := by rw [wi_rd, if_neg (by omega)]; exact w2
    have w4' : (ab_wi S3 102 1 (n32 (s.1 + 2))).1 (r + 4) s.1 = n32 (chr t n (s.1 + 1) - 48) := by rw [wi_rd, if_neg (by omega)]; exact w4
    show oB q r t n S s (cI (v_45_0 q (d + 1) (n32 dp) (n32 0) (ab_wi S3 102 1 (n32 (s.1 + 2)))) _) _
    revert r4 f4 w2' w4'
    generalize ab_wi S3 102 1 (n32 (s.1 + 2)) = S4
    intro r4 f4 w2' w4'
    by_cases f0 : f = 0
    · rw [if_pos f0]
      obtain ⟨d, rfl⟩ := dsuc (by omega : D + 1 ≤ d)
      obtain ⟨S', b1, b2⟩ := btw_x q d (r := r) (by omega : 4 ≤ dp) (by omega) (n32 0) S4
      refine ⟨fun _ => ⟨S', ff_tr f4 b1, ?_⟩, nofun⟩
      rw [b2, cI_x (by omega)]
    · rw [if_neg f0]
      obtain ⟨a1, a2⟩ := btw_v' hr ht (by omega : dp < 4) (h (by omega)) hD (by omega : D + 2 ≤ d + 1) false r4 l1 h1 h2
      have a1' : btw t n A false (s.1 + 2, s.2) = none → ∃ S', ff r S4 S' ∧ v_45_0 q (d + 1) (n32 dp) (n32 0) S4 = some ((1, 0, 0, 0), S') := a1
      cases hT : btw t n A false (s.1 + 2, s.2) with
      | none =>
        obtain ⟨S', b1, b2⟩ := a1' hT
        refine ⟨fun _ => ⟨S', ff_tr f4 b1, ?_⟩, nofun⟩
        rw [b2, cI_x (by omega)]
      | some x =>
        obtain ⟨b1, b2, b3, b4, S5, c1, c2, c3, c4, c5, c6⟩ := a2 x hT
        have b1' : s.1 + 2 < x.2.1 := b1
        have c1' : pf r (s.1 + 2) x.2.1 S4 S5 := c1
        have c3' : dT q r S5 (s.1 + 2) x.2.1 x.1 := c3
        have c6' : v_45_0 q (d + 1) (n32 dp) (n32 0) S4 = some ((0, n32 (fst x.1), 0, 0), S5) := c6
        refine ⟨nofun, fun y hy => ?_⟩
        cases hy
        have u (k : Nat) (k1 : 1 ≤ k) (k2 : k ≤ 10) (k5 : k ≠ 5) : (ab_wi S5 (r + 5) s.1 (n32 (fst x.1))).1 (r + k) s.1 = S4.1 (r + k) s.1 := by
          rw [wi_rd, if_neg (by omega)]
          exact pf_row hr c1' k1 k2 (Or.inl (by omega))
        refine ⟨rfl, rfl, show s.1 < x.2.1 by omega, b2, b3, b4, show 35 < 128 by decide, ab_wi S5 (r + 5) s.1 (n32 (fst x.1)), ?_, rdr_tb hr c2 (by omega) (by omega) _ _, (u 2 (by omega) (by omega) (by omega)).trans w2', ?_, ?_⟩
        · exact pf_tr (pf_tr f4 c1' (Nat.le_refl _) (show s.1 + 1 ≤ x.2.1 by omega) (by omega) (Nat.le_refl _)) (pf_tb (p := s.1) (p' := x.2.1) _ (by omega) (by omega) (Nat.le_refl _) (by omega) _) (Nat.le_refl _) (Nat.le_refl _) (Nat.le_refl _) (Nat.le_refl _)
        · exact denA_tg hr (by omega) (show s.1 < x.2.1 by omega) (show x.2.1 ≤ 40 by omega) (by omega) ((u 2 (by omega) (by omega) (by omega)).trans w2') ((u 4 (by omega) (by omega) (by omega)).trans w4') (by rw [wi_rd, if_pos ⟨rfl, rfl⟩]) (dT_wd (dT_fr c3' (fun j j1 j2 y y1 y2 => by rw [wi_rd, if_neg (by omega)])) (show s.1 + 1 ≤ s.1 + 2 by omega) (Nat.le_refl _))
        · rw [c6', cI_0, ok_a5 hr (k := 46) rfl, bl_ar hr 5, Bool.and_true, g_t, in_ar hr q (by omega : s.1 < 40) (by omega) (by omega), g_t]
  · rw [if_neg c, if_neg c, cV_x (by omega)]
    exact ⟨fun _ => ⟨_, ff_wx f1, rfl⟩, nofun⟩
