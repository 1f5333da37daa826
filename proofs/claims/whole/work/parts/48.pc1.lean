-- The class reads types: signs, letters, integers, texts.
theorem wi_wi (S : ab_S) (o k : Nat) (a b : Int32) : ab_wi (ab_wi S o k a) o k b = ab_wi S o k b := by
  show (ab_up (ab_up S.1 o k a) o k b, S.2) = (ab_up S.1 o k b, S.2)
  have : ab_up (ab_up S.1 o k a) o k b = ab_up S.1 o k b := by
    funext x y
    unfold ab_up
    by_cases h : x = o ∧ y = k
    · rw [if_pos h, if_pos h]
    · rw [if_neg h, if_neg h, if_neg h]
  rw [this]
theorem den_leaf {q r : Nat} {S : ab_S} {x e : Nat} {m : Sem} (hr : isSh r) (h : ∀ S' c cnt bn i lv d, cx S' c cnt bn → agr r S S' x e → i < cnt → lv ≤ 20 → v_66_0 q (d + 3) r (n32 x) (n32 i) (n32 lv) S' = some ((0, n32 (m c i lv).toNat, 0, 0), S')) : denA q r S x e m := fun S0 c cnt bn a b L _ lv i d l1 l2 hi hd S' m1 m2 => by
  have g := sh_ge hr
  refine ⟨S', m1, m2, ?_⟩
  obtain ⟨d, rfl⟩ : ∃ e, d = e + 3 := ⟨d - 3, by omega⟩
  exact h S' c cnt bn i lv d (cx_mx a m1) (fun j j1 j2 y y1 y2 o => (m1.2 (r + j) y (by omega) (by omega)).trans (b j j1 j2 y y1 y2 o)) hi l2
theorem isg_c {c : Nat} (h : isg c = true) : c = 105 ∨ c = 115 ∨ c = 116 ∨ c = 98 ∨ c = 110 ∨ c = 121 := by
  unfold isg at h
  simp only [Bool.or_eq_true, decide_eq_true_eq] at h
  exact h
theorem denA_sg {q r : Nat} (hr : isSh r) {S : ab_S} {x e c : Nat} (hx : x < 40) (he : x < e) (hc : isg c = true) (h : S.1 (r + 2) x = n32 c) : denA q r S x e (sgn c) := den_leaf hr (fun S' cc cnt bn i lv d a b hi l2 => by
  have h2 : S'.1 (r + 2) x = n32 c := (b 2 (by omega) (by omega) x (Nat.le_refl _) he (Or.inl (by omega))).trans h
  rcases isg_c hc with rfl | rfl | rfl | rfl | rfl | rfl
  · exact k66_105 hr hx a hi h2 lv
  · exact k66_115 hr hx a hi h2 lv
  · exact k66_116 hr hx a hi h2 lv
  · exact k66_98 hr hx a hi h2 lv
  · exact k66_110 hr hx a hi h2 lv
  · exact k66_121 hr hx a hi h2 lv)
theorem denA_it {q r : Nat} (hr : isSh r) {S : ab_S} {x e c : Nat} (hx : x < 40) (he : x < e) (hc : c = 46 ∨ c = 48) (h : S.1 (r + 2) x = n32 c) {lo hg : Int32} (h4 : S.1 (r + 4) x = lo) (h5 : S.1 (r + 5) x = hg) : denA q r S x e (itg lo hg) := den_leaf hr (fun S' cc cnt bn i lv d a b hi l2 => by
  have h2 : S'.1 (r + 2) x = n32 c := (b 2 (by omega) (by omega) x (Nat.le_refl _) he (Or.inl (by omega))).trans h
  have h4' : S'.1 (r + 4) x = lo := (b 4 (by omega) (by omega) x (Nat.le_refl _) he (Or.inl (by omega))).trans h4
  have h5' : S'.1 (r + 5) x = hg := (b 5 (by omega) (by omega) x (Nat.le_refl _) he (Or.inl (by omega))).trans h5
  rw [← h4', ← h5']
  rcases hc with rfl | rfl
  · exact k66_46 hr hx a hi h2 lv
  · exact k66_48 hr hx a hi h2 lv)
theorem denA_tx {q r : Nat} (hr : isSh r) {S : ab_S} {x e : Nat} (hx : x < 40) (h : S.1 (r + 2) x = n32 34) {t : Nat → Nat} {f n : Nat} (h4 : S.1 (r + 4) x = n32 f) (h5 : S.1 (r + 5) x = n32 (f + n)) (hf : x < f) (he : f + n < e) (he4 : f + n ≤ 40) (ht : ∀ y, f ≤ y → y < f + n → S.1 (r + 1) y = n32 (t y) ∧ t y < 256) : denA q r S x e (txt t f n) := den_leaf hr (fun S' cc cnt bn i lv d a b hi l2 =>
  k66_34 hr hx a hi ((b 2 (by omega) (by omega) x (Nat.le_refl _) (by omega) (Or.inl (by omega))).trans h) ((b 4 (by omega) (by omega) x (Nat.le_refl _) (by omega) (Or.inl (by omega))).trans h4) ((b 5 (by omega) (by omega) x (Nat.le_refl _) (by omega) (Or.inl (by omega))).trans h5) he4 (fun y y1 y2 => ⟨(b 1 (by omega) (by omega) y (by omega) (by omega) (Or.inl (by omega))).trans (ht y y1 y2).1, (ht y y1 y2).2⟩) lv)
theorem denA_le {q r : Nat} (hr : isSh r) {S : ab_S} {x e v : Nat} (hx : x < 40) (he : x < e) (hv : v < 8) (h : S.1 (r + 2) x = n32 65) (h4 : S.1 (r + 4) x = n32 v) : denA q r S x e (leS v) := fun S0 c cnt bn a b L hF lv i d l1 l2 hi hd =>
  k66_65 hr hx a hi ((b 2 (by omega) (by omega) x (Nat.le_refl _) he (Or.inl (by omega))).trans h) hv ((b 4 (by omega) (by omega) x (Nat.le_refl _) he (Or.inl (by omega))).trans h4) hF l1 l2 hd
-- a sign
theorem sg_v (q d : Nat) {r : Nat} (hr : isSh r) {t : Nat → Nat} {n : Nat} (ht : tok t n) {S : ab_S} {s : pst} (h : rdr r t n S s) (hs : s.1 < n) (h1 : s.2.1 < 256) (h2 : s.2.2 < 256) : oB q r t n S s (v_51_0 q (d + 2) S) (if isg (chr t n s.1) = true then some ((s.1, s.1 + 1, chr t n s.1, sgn (chr t n s.1)), (s.1 + 1, s.2)) else none) := by
  have hn := ht.1
  have c := chr_le ht s.1
  have g := sh_ne hr
  have e : v_51_0 q (d + 2) S = v_51_46 q (d + 2) (n32 (chr t n s.1)) (n32 (isg (chr t n s.1)).toNat) S := by
    rw [e_51_0, he_v q _ hr ht h (by omega), cI_0, e_51_41, i_eq (by omega) (by omega), i_eq (by omega) (by omega), i_eq (by omega) (by omega), i_eq (by omega) (by omega), i_eq (by omega) (by omega), i_eq (by omega) (by omega)]
    unfold isg
    generalize chr t n s.1 = x
    by_cases a1 : x = 105
    · rw [if_pos a1, decide_eq_true a1]; rfl
    rw [if_neg a1, decide_eq_false a1]
    by_cases a2 : x = 115
    · rw [if_pos a2, decide_eq_true a2]; rfl
    rw [if_neg a2, decide_eq_false a2]
    by_cases a3 : x = 116
    · rw [if_pos a3, decide_eq_true a3]; rfl
    rw [if_neg a3, decide_eq_false a3]
    by_cases a4 : x = 98
    · rw [if_pos a4, decide_eq_true a4]; rfl
    rw [if_neg a4, decide_eq_false a4]
    by_cases a5 : x = 110
    · rw [if_pos a5, decide_eq_true a5]; rfl
    rw [if_neg a5, decide_eq_false a5]
    by_cases a6 : x = 121
    · rw [if_pos a6, decide_eq_true a6]; rfl
    rw [if_neg a6, decide_eq_false a6]; rfl
  rw [e]
  cases hi : isg (chr t n s.1) with
  | false =>
    refine ⟨fun _ => ⟨ab_wx S, ff_wx (pf_rf r 0 0 S), ?_⟩, nofun⟩
    rw [e_51_46, rq_b, if_neg (by decide), cV_x (by omega)]
  | true =>
    refine ⟨nofun, fun y hy => ?_⟩
    cases hy
    have rt := rdr_tb hr h (k := 2) (by omega) (by omega) s.1 (n32 (chr t n s.1))
    refine ⟨rfl, rfl, Nat.lt_succ_self _, hs, h1, h2, by show chr t n s.1 < 128; omega, ab_wi (ab_wi S (r + 2) s.1 (n32 (chr t n s.1))) 102 1 (n32 (s.1 + 1)), ?_, ?_, ?_, ?_, ?_⟩
    · exact pf_tr (pf_tb S (by omega) (by omega) (Nat.le_refl _) (Nat.lt_succ_self _) _) (pf_102 r s.1 (s.1 + 1) _ (Or.inl rfl) _) (Nat.le_refl _) (Nat.le_refl _) (Nat.le_refl _) (Nat.le_refl _)
    · exact rdr_mv hr rt _
    · have := g.2 2 (by omega) (by omega)
      rw [wi_rd, if_neg (by omega), wi_rd, if_pos ⟨rfl, rfl⟩]
    · apply denA_sg hr (by omega) (Nat.lt_succ_self _) hi
      have := g.2 2 (by omega) (by omega)
      rw [wi_rd, if_neg (by omega), wi_rd, if_pos ⟨rfl, rfl⟩]
    · rw [e_51_46, rq_b, if_pos rfl, cV_0, h.1, ok_sh hr (k := 51) rfl, g_t, ok_a2 hr (k := 51) rfl, bl_ar hr 2, Bool.and_true, g_t, h.2.1, in_ar hr q (by omega : s.1 < 40) (by omega) (by omega), g_t, n32_cl (by omega), n32_nc (by omega), rt.2.1, n32_add]
-- a letter
theorem le_v (q d : Nat) {r : Nat} (hr : isSh r) {t : Nat → Nat} {n : Nat} (ht : tok t n) {S : ab_S} {s : pst} (h : rdr r t n S s) (hs : s.1 < n) (h1 : s.2.1 < 256) (h2 : s.2.2 < 256) (hc : 65 ≤ chr t n s.1 ∧ chr t n s.1 ≤ 72) (bare : Bool) : oB q r t n S s (v_50_0 q (d + 2) (n32 bare.toNat) S) (if bare = true ∧ s.2.2.testBit (chr t n s.1 - 65) = true then none else some ((s.1, s.1 + 1, 65, leS (chr t n s.1 - 65)), (s.1 + 1, s.2.1 ||| 2 ^ (chr t n s.1 - 65), bif bare then s.2.2 ||| 2 ^ (chr t n s.1 - 65) else s.2.2))) := by
  have hn := ht.1
  have g := sh_ne hr
  obtain ⟨v, hv⟩ : ∃ v, v = chr t n s.1 - 65 := ⟨_, rfl⟩
  have v8 : v < 8 := by omega
  have p8 := p2_8 v8
  have g2 := g.2 2 (by omega) (by omega)
  have g4 := g.2 4 (by omega) (by omega)
  rw [← hv]
  have ra := rdr_tb hr h (k := 2) (by omega) (by omega) s.1 (n32 65)
  have rb := rdr_tb hr ra (k := 4) (by omega) (by omega) s.1 (n32 v)
  have fa : pf r s.1 (s.1 + 1) S (ab_wi (ab_wi S (r + 2) s.1 (n32 65)) (r + 4) s.1 (n32 v)) := pf_tr (pf_tb S (by omega) (by omega) (Nat.le_refl _) (Nat.lt_succ_self _) _) (pf_tb _ (by omega) (by omega) (Nat.le_refl _) (Nat.lt_succ_self _) _) (Nat.le_refl _) (Nat.le_refl _) (Nat.le_refl _) (Nat.le_refl _)
  have k2 : (ab_wi (ab_wi S (r + 2) s.1 (n32 65)) (r + 4) s.1 (n32 v)).1 (r + 2) s.1 = n32 65 := by rw [wi_rd, if_neg (by omega), wi_rd, if_pos ⟨rfl, rfl⟩]
  have k4 : (ab_wi (ab_wi S (r + 2) s.1 (n32 65)) (r + 4) s.1 (n32 v)).1 (r + 4) s.1 = n32 v := by rw [wi_rd, if_pos ⟨rfl, rfl⟩]
  have e : v_50_0 q (d + 2) (n32 bare.toNat) S = if bare = true then (if n32 (s.2.2) &&& n32 (2 ^ v) = n32 0 then v_50_73 q (d + 2) (n32 (2 ^ v)) (n32 1) (ab_wi (ab_wi (ab_wi S (r + 2) s.1 (n32 65)) (r + 4) s.1 (n32 v)) r 13 (n32 (s.2.1 ||| 2 ^ v))) else v_50_73 q (d + 2) (n32 (2 ^ v)) (n32 0) (ab_wi (ab_wi (ab_wi S (r + 2) s.1 (n32 65)) (r + 4) s.1 (n32 v)) r 13 (n32 (s.2.1 ||| 2 ^ v)))) else v_50_89 q (d + 2) (ab_wi (ab_wi (ab_wi S (r + 2) s.1 (n32 65)) (r + 4) s.1 (n32 v)) r 13 (n32 (s.2.1 ||| 2 ^ v))) := by
    have b14 : (ab_wi (ab_wi (ab_wi S (r + 2) s.1 (n32 65)) (r + 4) s.1 (n32 v)) r 13 (n32 (s.2.1 ||| 2 ^ v))).1 r 14 = n32 s.2.2 := by
      rw [wi_rd, if_neg (by omega)]
      exact rb.2.2.2.2.2
    rw [e_50_0, he_v q _ hr ht h (by omega), cI_0, n32_sub hc.1, ← hv, n32_shl _ (by omega), Nat.one_mul, h.1, ok_sh hr (k := 50) rfl, g_t, ok_a2 hr (k := 50) rfl, bl_ar hr 2, Bool.and_true, g_t, h.2.1, in_ar hr q (by omega : s.1 < 40) (by omega) (by omega), g_t, n32_cl (show s.1 < 2147483648 by omega), show ab_nc (n32 65) = n32 65 from rfl, ok_sh hr (k := 50) rfl, g_t, ok_a4 hr (k := 50) rfl, bl_ar hr 4, Bool.and_true, g_t, ra.2.1, in_ar hr q (by omega : s.1 < 40) (by omega) (by omega), g_t, n32_cl (show s.1 < 2147483648 by omega), ok_sh hr (k := 50) rfl, g_t, g_t, rb.2.2.2.2.1, n32_or, ok_sh hr (k := 50) rfl, g_t, b14, i_bz]
  rw [e]
  revert k2 k4 fa rb
  generalize ab_wi (ab_wi S (r + 2) s.1 (n32 65)) (r + 4) s.1 (n32 v) = S2
  intro rb fa k2 k4
  have rc : rdr r t n (ab_wi S2 r 13 (n32 (s.2.1 ||| 2 ^ v))) (s.1, s.2.1 ||| 2 ^ v, s.2.2) := rdr_pf hr rb (pf_r r 0 0 S2 (Or.inl rfl) _) (by rw [wi_rd, if_neg (by omega)]; exact rb.2.1) (by rw [wi_rd, if_pos ⟨rfl, rfl⟩]) (by rw [wi_rd, if_neg (by omega)]; exact rb.2.2.2.2.2)
  have fc : pf r s.1 (s.1 + 1) S (ab_wi S2 r 13 (n32 (s.2.1 ||| 2 ^ v))) := pf_tr fa (pf_r r s.1 s.1 S2 (Or.inl rfl) _) (Nat.le_refl _) (Nat.le_refl _) (Nat.le_refl _) (by omega)
  have k2' : (ab_wi S2 r 13 (n32 (s.2.1 ||| 2 ^ v))).1 (r + 2) s.1 = n32 65 := by rw [wi_rd, if_neg (by omega)]; exact k2
  have k4' : (ab_wi S2 r 13 (n32 (s.2.1 ||| 2 ^ v))).1 (r + 4) s.1 = n32 v := by rw [wi_rd, if_neg (by omega)]; exact k4
  revert rc fc k2' k4'
  generalize ab_wi S2 r 13 (n32 (s.2.1 ||| 2 ^ v)) = S3
  intro rc fc k2' k4'
  have fin (S4 : ab_S) (br : Nat) (hb : br < 256) (rd : rdr r t n S4 (s.1, s.2.1 ||| 2 ^ v, br)) (fd : pf r s.1 (s.1 + 1) S S4) (j2 : S4.1 (r + 2) s.1 = n32 65) (j4 : S4.1 (r + 4) s.1 = n32 v) : oB q r t n S s (v_50_89 q (d + 2) S4) (some ((s.1, s.1 + 1, 65, leS v), (s.1 + 1, s.2.1 ||| 2 ^ v, br))) := by
    refine ⟨nofun, fun y hy => ?_⟩
    cases hy
    have j2' : (ab_wi S4 102 1 (n32 (s.1 + 1))).1 (r + 2) s.1 = n32 65 := by rw [wi_rd, if_neg (by omega)]; exact j2
    have j4' : (ab_wi S4 102 1 (n32 (s.1 + 1))).1 (r + 4) s.1 = n32 v := by rw [wi_rd, if_neg (by omega)]; exact j4
    refine ⟨rfl, rfl, Nat.lt_succ_self _, hs, or_256 h1 p8, hb, show 65 < 128 by decide, ab_wi S4 102 1 (n32 (s.1 + 1)), pf_tr fd (pf_102 r s.1 (s.1 + 1) _ (Or.inl rfl) _) (Nat.le_refl _) (Nat.le_refl _) (Nat.le_refl _) (Nat.le_refl _), rdr_mv hr rd _, j2', denA_le hr (by omega) (Nat.lt_succ_self _) v8 j2' j4', ?_⟩
    rw [e_50_89, rd.2.1, n32_add]
  cases bare with
  | false =>
    rw [if_neg (by decide), if_neg (fun x => nomatch x.1)]
    exact fin S3 _ h2 rc fc k2' k4'
  | true =>
    rw [if_pos rfl, n32_and, and_p]
    have p0 : 0 < 2 ^ v := Nat.two_pow_pos v
    by_cases bt : s.2.2.testBit v = true
    · rw [if_pos bt, i_eq (by omega) (by omega), if_neg (by omega), if_pos ⟨rfl, bt⟩]
      refine ⟨fun _ => ⟨ab_wx S3, ff_wx fc, ?_⟩, nofun⟩
      rw [e_50_73, rq_0, cV_x (by omega)]
    · rw [if_neg bt, if_pos rfl, if_neg (fun x => bt x.2), e_50_73, rq_1, cV_0, rc.1, ok_sh hr (k := 50) rfl, g_t, g_t, rc.2.2.2.2.2, n32_or]
      refine fin _ _ (or_256 h2 p8) ?_ ?_ ?_ ?_
      · exact rdr_pf hr rc (pf_r r 0 0 S3 (Or.inr rfl) _) (by rw [wi_rd, if_neg (by omega)]; exact rc.2.1) (by rw [wi_rd, if_neg (by omega)]; exact rc.2.2.2.2.1) (by rw [wi_rd, if_pos ⟨rfl, rfl⟩]; rfl)
      · exact pf_tr fc (pf_r r s.1 s.1 S3 (Or.inr rfl) _) (Nat.le_refl _) (Nat.le_refl _) (Nat.le_refl _) (by omega)
      · rw [wi_rd, if_neg (by omega)]; exact k2'
      · rw [wi_rd, if_neg (by omega)]; exact k4'
-- integers
theorem dig_c {c : Nat} (h : dig c = true) : 48 ≤ c ∧ c ≤ 57 := by
  unfold dig at h
  rw [Bool.and_eq_true, decide_eq_true_iff, decide_eq_true_iff] at h
  exact h
theorem dgs_le {t : Nat → Nat} {n : Nat} : ∀ k p v, p ≤ n → p ≤ (dgs t n k p v).2 ∧ (dgs t n k p v).2 ≤ n
  | 0, p, v, h => ⟨Nat.le_refl _, h⟩
  | k + 1, p, v, h => by
    unfold dgs
    split
    · rename_i g
      have a := dig_c g
      have b := chr_lt (c := chr t n p) rfl (by omega)
      have := dgs_le (t := t) k (p + 1) (v * 10 + (chr t n p - 48)) b
      exact ⟨by omega, this.2⟩
    · exact ⟨Nat.le_refl _, h⟩
theorem dgs_s (t : Nat → Nat) (n k p v : Nat) : dgs t n (k + 1) p v = if dig (chr t n p) = true then dgs t n k (p + 1) (v * 10 + (chr t n p - 48)) else (v, p) := rfl
theorem dgs_v (q d : Nat) {r : Nat} (hr : isSh r) {t : Nat → Nat} {n : Nat} (ht : tok t n) (u1 : Int32) : ∀ k j v S s, rdr r t n S s → s.1 ≤ n → j + k = 4 → v_49_18 q (d + 2) u1 (n32 v) (n32 j) S = v_49_59 q (d + 2) u1 (n32 (dgs t n k s.1 v).1) (ab_wi S 102 1 (n32 (dgs t n k s.1 v).2))
  | 0, j, v, S, s, h, hs, e => by
    have : ab_wi S 102 1 (n32 (dgs t n 0 s.1 v).2) = S := wi_id h.2.1
    rw [this, e_49_18, if_neg (by rw [n32_lt (by omega) (by omega)]; omega)]
    rfl
  | k + 1, j, v, S, s, h, hs, e => by
    rw [e_49_18, if_pos (by rw [n32_lt (by omega) (by omega)]; omega), dg_v q d hr ht h hs, cI_0, i_bz, dgs_s]
    by_cases g : dig (chr t n s.1) = true
    · have a := dig_c g
      have b := chr_lt (c := chr t n s.1) rfl (by omega)
      rw [if_pos g, if_pos g, he_v q _ hr ht h hs, cI_0, n32_mul, n32_add, n32_sub (by omega), h.2.1, n32_add, n32_add, show v * 10 + chr t n s.1 - 48 = v * 10 + (chr t n s.1 - 48) by omega]
      have := dgs_v q d hr ht u1 k (j + 1) (v * 10 + (chr t n s.1 - 48)) (ab_wi S 102 1 (n32 (s.1 + 1))) (s.1 + 1, s.2) (rdr_mv hr h _) b (by omega)
      rw [wi_wi] at this
      exact this
    · rw [if_neg g, if_neg g, wi_id h.2.1]
theorem pin_c (t : Nat → Nat) (n p : Nat) (p1 : Nat) (neg : Bool) (h1 : (if chr t n p = 45 then p + 1 else p) = p1) (h2 : decide (chr t n p = 45) = neg) : pin t n p = if dig (chr t n p1) = true then some (sig neg (dgs t n 4 p1 0).1, (dgs t n 4 p1 0).2) else none := by
  unfold pin
  rw [h1, h2]
theorem int_v (q d : Nat) {r : Nat} (hr : isSh r) {t : Nat → Nat} {n : Nat} (ht : tok t n) {S : ab_S} {s : pst} (h : rdr r t n S s) (hs : s.1 ≤ n) : (pin t n s.1 = none → ∃ S', ff r S S' ∧ v_49_0 q (d + 3) S = some ((1, 0, 0, 0), S')) ∧ ∀ z, pin t n s.1 = some z → s.1 < z.2 ∧ z.2 ≤ n ∧ v_49_0 q (d + 3) S = some ((0, z.1, 0, 0), ab_wi S 102 1 (n32 z.2)) := by
  have gen (p1 : Nat) (neg : Bool) (h1 : (if chr t n s.1 = 45 then s.1 + 1 else s.1) = p1) (h2 : decide (chr t n s.1 = 45) = neg) (hp : p1 ≤ n) (hp1 : s.1 ≤ p1) (e : v_49_0 q (d + 3) S = (cI (v_42_0 q (d + 2) (ab_wi S 102 1 (n32 p1))) fun y2 S2 => (cV (v_39_0 q (d + 2) y2 S2) fun S3 => (v_49_18 q (d + 3) (n32 neg.toNat) (n32 0) (n32 0) S3)))) : (pin t n s.1 = none → ∃ S', ff r S S' ∧ v_49_0 q (d + 3) S = some ((1, 0, 0, 0), S')) ∧ ∀ z, pin t n s.1 = some z → s.1 < z.2 ∧ z.2 ≤ n ∧ v_49_0 q (d + 3) S = some ((0, z.1, 0, 0), ab_wi S 102 1 (n32 z.2)) := by
    have r1 := rdr_mv hr h p1
    rw [e, pin_c t n s.1 p1 neg h1 h2, dg_v q _ hr ht r1 hp, cI_0]
    have r11 : (p1, s.2).1 = p1 := rfl
    rw [r11, rq_b]
    by_cases g : dig (chr t n p1) = true
    · have a := dig_c g
      have b := chr_lt (c := chr t n p1) rfl (by omega)
      rw [if_pos g, if_pos g, cV_0]
      have dl := dgs_le (t := t) (n := n) 3 (p1 + 1) (0 * 10 + (chr t n p1 - 48)) b
      have d4 : dgs t n 4 p1 0 = dgs t n 3 (p1 + 1) (0 * 10 + (chr t n p1 - 48)) := by rw [dgs_s, if_pos g]
      refine ⟨nofun, fun z hz => ?_⟩
      cases hz
      refine ⟨by rw [d4]; show s.1 < (dgs t n 3 (p1 + 1) (0 * 10 + (chr t n p1 - 48))).2; omega, by rw [d4]; exact dl.2, ?_⟩
      have dv := dgs_v q (d + 1) hr ht (n32 neg.toNat) 4 0 0 (ab_wi S 102 1 (n32 p1)) (p1, s.2) r1 hp rfl
      rw [wi_wi] at dv
      have dv' : v_49_18 q (d + 3) (n32 neg.toNat) (n32 0) (n32 0) (ab_wi S 102 1 (n32 p1)) = v_49_59 q (d + 3) (n32 neg.toNat) (n32 (dgs t n 4 p1 0).1) (ab_wi S 102 1 (n32 (dgs t n 4 p1 0).2)) := dv
      rw [dv', e_49_59, i_bz, e_49_69, e_49_69]
      cases neg with
      | true => rfl
      | false => rfl
    · rw [if_neg g, if_neg g, cV_x (by omega)]
      exact ⟨fun _ => ⟨_, ff_wx (pf_102 r 0 0 S (Or.inl rfl) _), rfl⟩, nofun⟩
  by_cases m : chr t n s.1 = 45
  · refine gen (s.1 + 1) true (if_pos m) (decide_eq_true m) (chr_lt m (by decide)) (by omega) ?_
    rw [e_49_0, ps_v q _ hr ht h hs (by decide), if_pos m, cI_0]
    rfl
  · refine gen s.1 false (if_neg m) (decide_eq_false m) hs (Nat.le_refl _) ?_
    rw [e_49_0, ps_v q _ hr ht h hs (by decide), if_neg m, cI_0, wi_id h.2.1]
    rfl
theorem its_v (q d : Nat) {r : Nat} (hr : isSh r) {t : Nat → Nat} {n : Nat} (ht : tok t n) {S : ab_S} {s : pst} (h : rdr r t n S s) (hs : s.1 < n) (h1 : s.2.1 < 256) (h2 : s.2.2 < 256) : oB q r t n S s (v_48_0 q (d + 4) S) (match pis t n s.1 with | none => none | some x => some ((s.1, x.2.2.2, x.1, itg x.2.1 x.2.2.1), (x.2.2.2, s.2))) := by
  have hn := ht.1
  have g := sh_ne hr
  have g2 := g.2 2 (by omega) (by omega)
  have g4 := g.2 4 (by omega) (by omega)
  have g5 := g.2 5 (by omega) (by omega)
  obtain ⟨i1, i2⟩ := int_v q d hr ht h (by omega)
  unfold pis
  cases hp : pin t n s.1 with
  | none =>
    obtain ⟨S', a, b⟩ := i1 hp
    refine ⟨fun _ => ⟨S', a, ?_⟩, nofun⟩
    rw [e_48_0, b, cI_x (by omega)]
  | some z =>
    obtain ⟨a1, a2, a3⟩ := i2 z hp
    have r1 := rdr_mv hr h z.2
    have r2 := rdr_tb hr (rdr_tb hr (rdr_tb hr r1 (k := 2) (by omega) (by omega) s.1 (n32 48)) (k := 4) (by omega) (by omega) s.1 z.1) (k := 5) (by omega) (by omega) s.1 z.1
    have f2 : pf r s.1 (s.1 + 1) S (ab_wi (ab_wi (ab_wi (ab_wi S 102 1 (n32 z.2)) (r + 2) s.1 (n32 48)) (r + 4) s.1 z.1) (r + 5) s.1 z.1) := pf_tr (pf_tr (pf_tr (pf_102 r s.1 (s.1 + 1) S (Or.inl rfl) _) (pf_tb _ (by omega) (by omega) (Nat.le_refl _) (Nat.lt_succ_self _) _) (Nat.le_refl _) (Nat.le_refl _) (Nat.le_refl _) (Nat.le_refl _)) (pf_tb _ (by omega) (by omega) (Nat.le_refl _) (Nat.lt_succ_self _) _) (Nat.le_refl _) (Nat.le_refl _) (Nat.le_refl _) (Nat.le_refl _)) (pf_tb _ (by omega) (by omega) (Nat.le_refl _) (Nat.lt_succ_self _) _) (Nat.le_refl _) (Nat.le_refl _) (Nat.le_refl _) (Nat.le_refl _)
    have w2 : (ab_wi (ab_wi (ab_wi (ab_wi S 102 1 (n32 z.2)) (r + 2) s.1 (n32 48)) (r + 4) s.1 z.1) (r + 5) s.1 z.1).1 (r + 2) s.1 = n32 48 := by rw [wi_rd, if_neg (by omega), wi_rd, if_neg (by omega), wi_rd, if_pos ⟨rfl, rfl⟩]
    have w4 : (ab_wi (ab_wi (ab_wi (ab_wi S 102 1 (n32 z.2)) (r + 2) s.1 (n32 48)) (r + 4) s.1 z.1) (r + 5) s.1 z.1).1 (r + 4) s.1 = z.1 := by rw [wi_rd, if_neg (by omega), wi_rd, if_pos ⟨rfl, rfl⟩]
    have w5 : (ab_wi (ab_wi (ab_wi (ab_wi S 102 1 (n32 z.2)) (r + 2) s.1 (n32 48)) (r + 4) s.1 z.1) (r + 5) s.1 z.1).1 (r + 5) s.1 = z.1 := by rw [wi_rd, if_pos ⟨rfl, rfl⟩]
    have e : v_48_0 q (d + 4) S = (cI (v_41_0 q (d + 3) (n32 46) (ab_wi (ab_wi (ab_wi (ab_wi S 102 1 (n32 z.2)) (r + 2) s.1 (n32 48)) (r + 4) s.1 z.1) (r + 5) s.1 z.1)) fun y2 S2 => (if y2 = (n32 0) then (v_48_83 q (d + 4) S2) else (cI (v_41_0 q (d + 3) (n32 46) S2) fun y3 S3 => (cV (v_39_0 q (d + 3) y3 S3) fun S4 => (ab_g (ab_ok 48 S4 (S4.2.2.1 102 0) 12) (ab_g (ab_ok 48 S4 ((S4.2.2.1 102 0) + 2) 3 && Nat.blt 2 ((S4.2.2.1 102 0) + 2)) (ab_g (ab_in (n32 s.1) (ab_N q ((S4.2.2.1 102 0) + 2))) (ab_g (ab_ok 48 (ab_wi S4 ((S4.2.2.1 102 0) + 2) s.1 (ab_nc (n32 46))) (S4.2.2.1 102 0) 12) (cI (v_49_0 q (d + 3) (ab_wi S4 ((S4.2.2.1 102 0) + 2) s.1 (ab_nc (n32 46)))) fun y5 S5 => (ab_g (ab_ok 48 S5 ((S4.2.2.1 102 0) + 5) 1 && Nat.blt 2 ((S4.2.2.1 102 0) + 5)) (ab_g (ab_in (n32 s.1) (ab_N q ((S4.2.2.1 102 0) + 5))) (v_48_83 q (d + 4) (ab_wi S5 ((S4.2.2.1 102 0) + 5) s.1 y5))))))))))))) := by
      rw [e_48_0, a3, cI_0, r1.1, ok_sh hr (k := 48) rfl, g_t, ok_a2 hr (k := 48) rfl, bl_ar hr 2, Bool.and_true, g_t, h.2.1, in_ar hr q (by omega : s.1 < 40) (by omega) (by omega), g_t, n32_cl (show s.1 < 2147483648 by omega), show ab_nc (n32 48) = n32 48 from rfl, ok_sh hr (k := 48) rfl, g_t, ok_a4 hr (k := 48) rfl, bl_ar hr 4, Bool.and_true, g_t, in_ar hr q (by omega : s.1 < 40) (by omega) (by omega), g_t, ok_sh hr (k := 48) rfl, g_t, ok_a5 hr (k := 48) rfl, bl_ar hr 5, Bool.and_true, g_t, in_ar hr q (by omega : s.1 < 40) (by omega) (by omega), g_t]
    rw [e]
    revert r2 f2 w2 w4 w5
    generalize ab_wi (ab_wi (ab_wi (ab_wi S 102 1 (n32 z.2)) (r + 2) s.1 (n32 48)) (r + 4) s.1 z.1) (r + 5) s.1 z.1 = S2
    intro r2 f2 w2 w4 w5
    show oB q r t n S s _ (match (if chr t n z.2 = 46 then (if chr t n (z.2 + 1) = 46 then (match pin t n (z.2 + 2) with | none => none | some y => some (46, z.1, y.1, y.2)) else none) else some (48, z.1, z.1, z.2)) with | none => none | some x => some ((s.1, x.2.2.2, x.1, itg x.2.1 x.2.2.1), (x.2.2.2, s.2)))
    rw [ps_v q _ hr ht r2 a2 (by decide)]
    have z21 : (z.2, s.2).1 = z.2 := rfl
    rw [z21]
    by_cases c1 : chr t n z.2 = 46
    · rw [if_pos c1, if_pos c1, cI_0, if_neg one_z]
      have l1 := chr_lt c1 (by decide)
      have r3 := rdr_mv hr r2 (z.2 + 1)
      rw [ps_v q _ hr ht r3 l1 (by decide)]
      have z31 : (z.2 + 1, (z.2, s.2).2).1 = z.2 + 1 := rfl
      rw [z31]
      by_cases c2 : chr t n (z.2 + 1) = 46
      · have l2 := chr_lt c2 (by decide)
        rw [if_pos c2, if_pos c2, cI_0, rq_1, cV_0, wi_wi]
        have r4 := rdr_mv hr r2 (z.2 + 1 + 1)
        have r5 := rdr_tb hr r4 (k := 2) (by omega) (by omega) s.1 (n32 46)
        have f5 : pf r s.1 (s.1 + 1) S (ab_wi (ab_wi S2 102 1 (n32 (z.2 + 1 + 1))) (r + 2) s.1 (n32 46)) := pf_tr (pf_tr f2 (pf_102 r s.1 (s.1 + 1) _ (Or.inl rfl) _) (Nat.le_refl _) (Nat.le_refl _) (Nat.le_refl _) (Nat.le_refl _)) (pf_tb _ (by omega) (by omega) (Nat.le_refl _) (Nat.lt_succ_self _) _) (Nat.le_refl _) (Nat.le_refl _) (Nat.le_refl _) (Nat.le_refl _)
        have v2 : (ab_wi (ab_wi S2 102 1 (n32 (z.2 + 1 + 1))) (r + 2) s.1 (n32 46)).1 (r + 2) s.1 = n32 46 := by rw [wi_rd, if_pos ⟨rfl, rfl⟩]
        have v4 : (ab_wi (ab_wi S2 102 1 (n32 (z.2 + 1 + 1))) (r + 2) s.1 (n32 46)).1 (r + 4) s.1 = z.1 := by rw [wi_rd, if_neg (by omega), wi_rd, if_neg (by omega)]; exact w4
        rw [r4.1, ok_sh hr (k := 48) rfl, g_t, ok_a2 hr (k := 48) rfl, bl_ar hr 2, Bool.and_true, g_t, in_ar hr q (by omega : s.1 < 40) (by omega) (by omega), g_t, show ab_nc (n32 46) = n32 46 from rfl, ok_sh hr (k := 48) rfl, g_t]
        revert r5 f5 v2 v4
        generalize ab_wi (ab_wi S2 102 1 (n32 (z.2 + 1 + 1))) (r + 2) s.1 (n32 46) = S5
        intro r5 f5 v2 v4
        obtain ⟨j1, j2⟩ := int_v q d hr ht r5 l2
        have z51 : (z.2 + 1 + 1, (z.2, s.2).2).1 = z.2 + 2 := rfl
        rw [z51] at j1 j2
        cases hy : pin t n (z.2 + 2) with
        | none =>
          obtain ⟨S', b1, b2⟩ := j1 hy
          refine ⟨fun _ => ⟨S', ff_tr f5 b1, ?_⟩, nofun⟩
          rw [b2, cI_x (by omega)]
        | some y =>
          obtain ⟨b1, b2, b3⟩ := j2 y hy
          refine ⟨nofun, fun w hw => ?_⟩
          cases hw
          have r6 := rdr_mv hr r5 y.2
          have r7 := rdr_tb hr r6 (k := 5) (by omega) (by omega) s.1 y.1
          have u2 : (ab_wi (ab_wi S5 102 1 (n32 y.2)) (r + 5) s.1 y.1).1 (r + 2) s.1 = n32 46 := by rw [wi_rd, if_neg (by omega), wi_rd, if_neg (by omega)]; exact v2
          have u4 : (ab_wi (ab_wi S5 102 1 (n32 y.2)) (r + 5) s.1 y.1).1 (r + 4) s.1 = z.1 := by rw [wi_rd, if_neg (by omega), wi_rd, if_neg (by omega)]; exact v4
          have u5 : (ab_wi (ab_wi S5 102 1 (n32 y.2)) (r + 5) s.1 y.1).1 (r + 5) s.1 = y.1 := by rw [wi_rd, if_pos ⟨rfl, rfl⟩]
          refine ⟨rfl, rfl, show s.1 < y.2 by omega, b2, h1, h2, show 46 < 128 by decide, ab_wi (ab_wi S5 102 1 (n32 y.2)) (r + 5) s.1 y.1, ?_, r7, u2, denA_it hr (by omega) (show s.1 < y.2 by omega) (Or.inl rfl) u2 u4 u5, ?_⟩
          · exact pf_tr (pf_tr f5 (pf_102 r s.1 (s.1 + 1) _ (Or.inl rfl) _) (Nat.le_refl _) (Nat.le_refl _) (Nat.le_refl _) (Nat.le_refl _)) (pf_tb (p := s.1) (p' := s.1 + 1) _ (by omega) (by omega) (Nat.le_refl _) (Nat.lt_succ_self _) _) (Nat.le_refl _) (show s.1 + 1 ≤ y.2 by omega) (Nat.le_refl _) (show s.1 + 1 ≤ y.2 by omega)
          · rw [b3, cI_0, ok_a5 hr (k := 48) rfl, bl_ar hr 5, Bool.and_true, g_t, in_ar hr q (by omega : s.1 < 40) (by omega) (by omega), g_t, e_48_83]
      · rw [if_neg c2, if_neg c2, cI_0, rq_0, cV_x (by omega)]
        exact ⟨fun _ => ⟨_, ff_wx (pf_tr f2 (pf_102 r s.1 (s.1 + 1) S2 (Or.inl rfl) _) (Nat.le_refl _) (Nat.le_refl _) (Nat.le_refl _) (Nat.le_refl _)), rfl⟩, nofun⟩
    · rw [if_neg c1, if_neg c1, cI_0, if_pos rfl, e_48_83]
      refine ⟨nofun, fun w hw => ?_⟩
      cases hw
      exact ⟨rfl, rfl, a1, a2, h1, h2, show 48 < 128 by decide, S2, pf_wd f2 (Nat.le_refl _) a1, r2, w2, denA_it hr (by omega) a1 (Or.inr rfl) w2 w4 w5, rfl⟩
-- a text
theorem clq_le {t : Nat → Nat} {n : Nat} (ht : tok t n) : ∀ k p, p ≤ n → p ≤ clq t n k p ∧ clq t n k p ≤ n
  | 0, p, h => ⟨Nat.le_refl _, h⟩
  | k + 1, p, h => by
    unfold clq
    split
    · exact ⟨Nat.le_refl _, h⟩
    · rename_i g
      have b := chr_lt (t := t) (n := n) (p := p) rfl (by omega)
      have := clq_le ht k (p + 1) b
      exact ⟨by omega, this.2⟩
theorem clq_s (t : Nat → Nat) (n k p : Nat) : clq t n (k + 1) p = if chr t n p = 34 ∨ chr t n p = 0 then p else clq t n k (p + 1) := rfl
theorem clq_v (q d : Nat) {r : Nat} (hr : isSh r) {t : Nat → Nat} {n : Nat} (ht : tok t n) (u1 : Int32) : ∀ k j S s, rdr r t n S s → s.1 ≤ n → j + k = 40 → v_47_17 q (d + 1) u1 (n32 j) S = v_47_55 q (d + 1) u1 (ab_wi S 102 1 (n32 (clq t n k s.1)))
  | 0, j, S, s, h, hs, e => by
    have : ab_wi S 102 1 (n32 (clq t n 0 s.1)) = S := wi_id h.2.1
    rw [this, e_47_17, if_neg (by rw [n32_lt (by omega) (by omega)]; omega)]
  | k + 1, j, S, s, h, hs, e => by
    have c := chr_le ht s.1
    rw [e_47_17, if_pos (by rw [n32_lt (by omega) (by omega)]; omega), he_v q d hr ht h hs, cI_0, i_eq (by omega) (by omega), he_v q d hr ht h hs, cI_0, i_eq (by omega) (by omega), clq_s, h.2.1, n32_add, n32_add]
    by_cases g : chr t n s.1 = 34
    · rw [if_pos g, if_pos (Or.inl g), wi_id h.2.1]
    · rw [if_neg g]
      by_cases z : chr t n s.1 = 0
      · rw [if_pos z, if_pos (Or.inr z), wi_id h.2.1]
      · have b := chr_lt (t := t) (n := n) (p := s.1) rfl z
        rw [if_neg z, if_neg (fun x => x.elim g z)]
        have := clq_v q d hr ht u1 k (j + 1) (ab_wi S 102 1 (n32 (s.1 + 1))) (s.1 + 1, s.2) (rdr_mv hr h _) b (by omega)
        rw [wi_wi] at this
        exact this
theorem tx_v (q d : Nat) {r : Nat} (hr : isSh r) {t : Nat → Nat} {n : Nat} (ht : tok t n) {S : ab_S} {s : pst} (h : rdr r t n S s) (hs : s.1 < n) (h1 : s.2.1 < 256) (h2 : s.2.2 < 256) : oB q r t n S s (v_47_0 q (d + 2) S) (if chr t n (clq t n 40 (s.1 + 1)) = 34 then some ((s.1, clq t n 40 (s.1 + 1) + 1, 34, txt t (s.1 + 1) (clq t n 40 (s.1 + 1) - (s.1 + 1))), (clq t n 40 (s.1 + 1) + 1, s.2)) else none) := by
  have hn := ht.1
  have g := sh_ne hr
  have g1 := g.2 1 (by omega) (by omega)
  have g2 := g.2 2 (by omega) (by omega)
  have g4 := g.2 4 (by omega) (by omega)
  have g5 := g.2 5 (by omega) (by omega)
  have cl := clq_le ht 40 (s.1 + 1) hs
  have e0 := clq_v q (d + 1) hr ht (n32 s.1) 40 0 (ab_wi S 102 1 (n32 (s.1 + 1))) (s.1 + 1, s.2) (rdr_mv hr h _) hs rfl
  rw [wi_wi] at e0
  have e0' : v_47_17 q (d + 2) (n32 s.1) (n32 0) (ab_wi S 102 1 (n32 (s.1 + 1))) = v_47_55 q (d + 2) (n32 s.1) (ab_wi S 102 1 (n32 (clq t n 40 (s.1 + 1)))) := e0
  revert cl e0'
  generalize clq t n 40 (s.1 + 1) = p
  intro cl e0'
  have r1 := rdr_mv hr h p
  have r2 := rdr_tb hr (rdr_tb hr (rdr_tb hr r1 (k := 2) (by omega) (by omega) s.1 (n32 34)) (k := 4) (by omega) (by omega) s.1 (n32 (s.1 + 1))) (k := 5) (by omega) (by omega) s.1 (n32 p)
  have f2 : pf r s.1 (s.1 + 1) S (ab_wi (ab_wi (ab_wi (ab_wi S 102 1 (n32 p)) (r + 2) s.1 (n32 34)) (r + 4) s.1 (n32 (s.1 + 1))) (r + 5) s.1 (n32 p)) := pf_tr (pf_tr (pf_tr (pf_102 r s.1 (s.1 + 1) S (Or.inl rfl) _) (pf_tb _ (by omega) (by omega) (Nat.le_refl _) (Nat.lt_succ_self _) _) (Nat.le_refl _) (Nat.le_refl _) (Nat.le_refl _) (Nat.le_refl _)) (pf_tb _ (by omega) (by omega) (Nat.le_refl _) (Nat.lt_succ_self _) _) (Nat.le_refl _) (Nat.le_refl _) (Nat.le_refl _) (Nat.le_refl _)) (pf_tb _ (by omega) (by omega) (Nat.le_refl _) (Nat.lt_succ_self _) _) (Nat.le_refl _) (Nat.le_refl _) (Nat.le_refl _) (Nat.le_refl _)
  have w2 : (ab_wi (ab_wi (ab_wi (ab_wi S 102 1 (n32 p)) (r + 2) s.1 (n32 34)) (r + 4) s.1 (n32 (s.1 + 1))) (r + 5) s.1 (n32 p)).1 (r + 2) s.1 = n32 34 := by rw [wi_rd, if_neg (by omega), wi_rd, if_neg (by omega), wi_rd, if_pos ⟨rfl, rfl⟩]
  have w4 : (ab_wi (ab_wi (ab_wi (ab_wi S 102 1 (n32 p)) (r + 2) s.1 (n32 34)) (r + 4) s.1 (n32 (s.1 + 1))) (r + 5) s.1 (n32 p)).1 (r + 4) s.1 = n32 (s.1 + 1) := by rw [wi_rd, if_neg (by omega), wi_rd, if_pos ⟨rfl, rfl⟩]
  have w5 : (ab_wi (ab_wi (ab_wi (ab_wi S 102 1 (n32 p)) (r + 2) s.1 (n32 34)) (r + 4) s.1 (n32 (s.1 + 1))) (r + 5) s.1 (n32 p)).1 (r + 5) s.1 = n32 p := by rw [wi_rd, if_pos ⟨rfl, rfl⟩]
  have pl : (ab_wi (ab_wi (ab_wi S 102 1 (n32 p)) (r + 2) s.1 (n32 34)) (r + 4) s.1 (n32 (s.1 + 1))).1 102 1 = n32 p := (rdr_tb hr (rdr_tb hr r1 (k := 2) (by omega) (by omega) s.1 (n32 34)) (k := 4) (by omega) (by omega) s.1 (n32 (s.1 + 1))).2.1
  have e : v_47_0 q (d + 2) S = (cI (v_41_0 q (d + 1) (n32 34) (ab_wi (ab_wi (ab_wi (ab_wi S 102 1 (n32 p)) (r + 2) s.1 (n32 34)) (r + 4) s.1 (n32 (s.1 + 1))) (r + 5) s.1 (n32 p))) fun y1 S1 => (cV (v_39_0 q (d + 1) y1 S1) fun S2 => (some ((0, 0, 0, 0), S2)))) := by
    rw [e_47_0, h.2.1, n32_add, e0', e_47_55, r1.1, ok_sh hr (k := 47) rfl, g_t, ok_a2 hr (k := 47) rfl, bl_ar hr 2, Bool.and_true, g_t, in_ar hr q (by omega : s.1 < 40) (by omega) (by omega), g_t, n32_cl (show s.1 < 2147483648 by omega), show ab_nc (n32 34) = n32 34 from rfl, ok_sh hr (k := 47) rfl, g_t, ok_a4 hr (k := 47) rfl, bl_ar hr 4, Bool.and_true, g_t, in_ar hr q (by omega : s.1 < 40) (by omega) (by omega), g_t, n32_add, ok_sh hr (k := 47) rfl, g_t, ok_a5 hr (k := 47) rfl, bl_ar hr 5, Bool.and_true, g_t, in_ar hr q (by omega : s.1 < 40) (by omega) (by omega), g_t, pl]
  rw [e]
  revert r2 f2 w2 w4 w5
  generalize ab_wi (ab_wi (ab_wi (ab_wi S 102 1 (n32 p)) (r + 2) s.1 (n32 34)) (r + 4) s.1 (n32 (s.1 + 1))) (r + 5) s.1 (n32 p) = S2
  intro r2 f2 w2 w4 w5
  rw [ps_v q _ hr ht r2 cl.2 (by decide)]
  have p1 : (p, s.2).1 = p := rfl
  rw [p1]
  by_cases c : chr t n p = 34
  · have l := chr_lt c (by decide)
    rw [if_pos c, if_pos c, cI_0, rq_1, cV_0]
    refine ⟨nofun, fun w hw => ?_⟩
    cases hw
    have u (k : Nat) (k1 : 1 ≤ k) (k2 : k ≤ 10) (y : Nat) : (ab_wi S2 102 1 (n32 (p + 1))).1 (r + k) y = S2.1 (r + k) y := by
      have := g.2 k k1 k2
      rw [wi_rd, if_neg (by omega)]
    refine ⟨rfl, rfl, show s.1 < p + 1 by omega, l, h1, h2, show 34 < 128 by decide, ab_wi S2 102 1 (n32 (p + 1)), ?_, rdr_mv hr r2 _, (u 2 (by omega) (by omega) _).trans w2, ?_, rfl⟩
    · exact pf_tr f2 (pf_102 r s.1 (s.1 + 1) _ (Or.inl rfl) _) (Nat.le_refl _) (show s.1 + 1 ≤ p + 1 by omega) (Nat.le_refl _) (show s.1 + 1 ≤ p + 1 by omega)
    · exact denA_tx hr (by omega) ((u 2 (by omega) (by omega) _).trans w2) ((u 4 (by omega) (by omega) _).trans w4) (((u 5 (by omega) (by omega) _).trans w5).trans (by rw [show s.1 + 1 + (p - (s.1 + 1)) = p by omega])) (Nat.lt_succ_self _) (show s.1 + 1 + (p - (s.1 + 1)) < p + 1 by omega) (by omega) (fun y y1 y2 => ⟨(u 1 (by omega) (by omega) _).trans (r2.2.2.2.1 y (by omega)), by have := ht.2 y (by omega); omega⟩)
  · rw [if_neg c, if_neg c, cI_0, rq_0, cV_x (by omega)]
    exact ⟨fun _ => ⟨_, ff_wx f2, rfl⟩, nofun⟩
