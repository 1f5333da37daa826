-- The class reads types: an alternative, a whole type.
theorem al_v {q r : Nat} (hr : isSh r) {t : Nat → Nat} {n : Nat} (ht : tok t n) {dp f D : Nat} (hf : dp + f = 4) {A : rdA} (h : 0 < f → hA q r t n (dp + 1) D A) (hD : 1 ≤ D) : hA q r t n dp (D + 4) (alS t n f A) := by
  intro bare S s d hs hn h1 h2 hd
  obtain ⟨d, rfl⟩ := dsuc hd
  have c126 := chr_le ht s.1
  unfold alS
  rw [e_44_0, he_v q d hr ht hs hn, cI_0, i_eq (by omega) (by omega)]
  by_cases c40 : chr t n s.1 = 40
  · rw [if_pos c40, if_pos c40]
    by_cases f0 : f = 0
    · rw [if_pos f0]
      obtain ⟨d, rfl⟩ := dsuc (by omega : D + 2 + 1 ≤ d)
      obtain ⟨d, rfl⟩ := dsuc (by omega : D + 1 + 1 ≤ d)
      obtain ⟨S', b1, b2⟩ := btw_x q d (r := r) (by omega : 4 ≤ dp) (by omega) (n32 bare.toNat) S
      refine ⟨fun _ => ⟨S', b1, ?_⟩, nofun⟩
      rw [b2, cI_x (by omega)]
    · rw [if_neg f0]
      obtain ⟨a1, a2⟩ := btw_v' hr ht (by omega : dp < 4) (h (by omega)) hD (by omega : D + 2 ≤ d) bare hs hn h1 h2
      refine ⟨fun e => ?_, fun y e => ?_⟩
      · obtain ⟨S', b1, b2⟩ := a1 e
        exact ⟨S', b1, by rw [b2, cI_x (by omega)]⟩
      · obtain ⟨b1, b2, b3, b4, S', b5, b6, b7, b8, b9, b10⟩ := a2 y e
        exact ⟨b1, b2, b3, b4, S', b5, b6, b7, b8, b9, by rw [b10, cI_0]⟩
  rw [if_neg c40, if_neg c40, he_v q d hr ht hs hn, cI_0, i_eq (by omega) (by omega)]
  obtain ⟨d, rfl⟩ := dsuc (by omega : D + 2 + 1 ≤ d)
  by_cases c0 : chr t n s.1 = 0
  · rw [if_pos c0, if_pos c0, e_44_28, rq_0, cV_x (by omega)]
    exact ⟨fun _ => ⟨_, ff_wx (pf_rf r 0 0 S), rfl⟩, nofun⟩
  have hlt : s.1 < n := chr_lt rfl c0
  have H := he_v q (d + 1) hr ht hs hn
  rw [if_neg c0, if_neg c0, e_44_28, rq_1, cV_0, H, cI_0, i_eq (by omega) (by omega), hs.2.1]
  by_cases c91 : chr t n s.1 = 91
  · rw [if_pos c91, if_pos c91]
    have b := pts_v hr ht hf h hD (by omega : D + 3 ≤ d + 1) false hs hlt h1 h2
    have a := al_fin (d := d + 1) hr ht hlt b
    refine Eq.subst (motive := fun o => oA q r t n S s _ o) ?_ a
    by_cases f0 : f = 0
    · rw [if_pos f0, if_pos f0]; rfl
    · rw [if_neg f0, if_neg f0]
      show one1 (match pts t n A false 93 s with | none => none | some x => some ((s.1, x.2.1, 91, arS x.1), x.2)) = _
      cases pts t n A false 93 s with
      | none => rfl
      | some x => rfl
  rw [if_neg c91, if_neg c91, H, cI_0, i_eq (by omega) (by omega)]
  by_cases c123 : chr t n s.1 = 123
  · rw [if_pos c123, if_pos c123]
    have b := pts_v hr ht hf h hD (by omega : D + 3 ≤ d + 1) true hs hlt h1 h2
    have a := al_fin (d := d + 1) hr ht hlt b
    refine Eq.subst (motive := fun o => oA q r t n S s _ o) ?_ a
    by_cases f0 : f = 0
    · rw [if_pos f0, if_pos f0]; rfl
    · rw [if_neg f0, if_neg f0]
      show one1 (match pts t n A true 125 s with | none => none | some x => some ((s.1, x.2.1, 123, maS x.1), x.2)) = _
      cases pts t n A true 125 s with
      | none => rfl
      | some x => rfl
  rw [if_neg c123, if_neg c123, H, cI_0, i_eq (by omega) (by omega)]
  by_cases c35 : chr t n s.1 = 35
  · rw [if_pos c35, if_pos c35]
    have b := tag_v hr ht hf h hD (by omega : D + 3 ≤ d + 1) hs hlt h1 h2
    have a := al_fin (d := d + 1) hr ht hlt b
    refine Eq.subst (motive := fun o => oA q r t n S s _ o) ?_ a
    by_cases g : dig (chr t n (s.1 + 1)) = true
    · rw [if_pos g, if_pos g]
      by_cases f0 : f = 0
      · rw [if_pos f0, if_pos f0]; rfl
      · rw [if_neg f0, if_neg f0]
        cases btw t n A false (s.1 + 2, s.2) with
        | none => rfl
        | some x => rfl
    · rw [if_neg g, if_neg g]; rfl
  rw [if_neg c35, if_neg c35, H, cI_0, i_eq (by omega) (by omega)]
  obtain ⟨d, rfl⟩ := dsuc (by omega : D + 1 + 1 ≤ d)
  by_cases c34 : chr t n s.1 = 34
  · rw [if_pos c34, if_pos c34]
    have b := tx_v q d hr ht hs hlt h1 h2
    have a := al_fin (d := d + 1 + 1) hr ht hlt b
    refine Eq.subst (motive := fun o => oA q r t n S s _ o) ?_ a
    by_cases g : chr t n (clq t n 40 (s.1 + 1)) = 34
    · rw [if_pos g, if_pos g]; rfl
    · rw [if_neg g, if_neg g]; rfl
  rw [if_neg c34, if_neg c34, H, cI_0, i_eq (by omega) (by omega), dg_v q (d + 1) hr ht hs hn, cI_0, i_bz]
  have ints : oA q r t n S s (v_44_127 q (d + 1 + 1 + 1) (n32 s.1) S) (match pis t n s.1 with | none => none | some x => some ([(s.1, x.2.2.2, x.1, itg x.2.1 x.2.2.1)], (x.2.2.2, s.2))) := by
    obtain ⟨d, rfl⟩ := dsuc (by omega : D + 1 ≤ d)
    obtain ⟨d, rfl⟩ := dsuc (by omega : 0 + 1 ≤ d)
    have b := its_v q d hr ht hs hlt h1 h2
    have a := al_fin (d := d + 1 + 1 + 1 + 1) hr ht hlt b
    rw [e_44_127]
    refine Eq.subst (motive := fun o => oA q r t n S s _ o) ?_ a
    cases pis t n s.1 with
    | none => rfl
    | some x => rfl
  by_cases c45 : chr t n s.1 = 45
  · rw [if_pos c45, if_pos (Or.inl c45)]
    exact ints
  rw [if_neg c45]
  by_cases cd : dig (chr t n s.1) = true
  · rw [if_pos cd, if_pos (Or.inr cd)]
    exact ints
  rw [if_neg cd, if_neg (fun x => x.elim c45 cd), H, cI_0, i_lt (by omega) (by omega), H, cI_0, i_lt (by omega) (by omega)]
  have sgs : oA q r t n S s (v_44_160 q (d + 1 + 1 + 1) (n32 s.1) S) (if isg (chr t n s.1) = true then some ([(s.1, s.1 + 1, chr t n s.1, sgn (chr t n s.1))], (s.1 + 1, s.2)) else none) := by
    have b := sg_v q d hr ht hs hlt h1 h2
    have a := al_fin (d := d + 1 + 1) hr ht hlt b
    rw [e_44_160]
    refine Eq.subst (motive := fun o => oA q r t n S s _ o) ?_ a
    by_cases g : isg (chr t n s.1) = true
    · rw [if_pos g, if_pos g]; rfl
    · rw [if_neg g, if_neg g]; rfl
  by_cases cA : chr t n s.1 < 65
  · rw [if_pos cA, if_neg (by omega)]
    exact sgs
  rw [if_neg cA]
  by_cases cH : 72 < chr t n s.1
  · rw [if_pos cH, if_neg (by omega)]
    exact sgs
  rw [if_neg cH, if_pos (by omega)]
  have b := le_v q d hr ht hs hlt h1 h2 (by omega) bare
  have a := al_fin (d := d + 1 + 1) hr ht hlt b
  refine Eq.subst (motive := fun o => oA q r t n S s _ o) ?_ a
  by_cases g : bare = true ∧ s.2.2.testBit (chr t n s.1 - 65) = true
  · rw [if_pos g, if_pos g]; rfl
  · rw [if_neg g, if_neg g]; rfl
theorem alR_v {q r : Nat} (hr : isSh r) {t : Nat → Nat} {n : Nat} (ht : tok t n) : ∀ f dp, dp + f = 4 → hA q r t n dp (4 * f + 5) (alR t n f)
  | 0, dp, e => al_v hr ht e (D := 1) (fun h => absurd h (by omega)) (by omega)
  | f + 1, dp, e => by
    have := al_v (q := q) hr ht e (D := 4 * f + 5) (fun _ => alR_v hr ht f (dp + 1) (by omega)) (by omega)
    exact this
theorem chn_v {q d r : Nat} (hr : isSh r) {S : ab_S} (hS : S.2.2.1 102 0 = r) {p' : Nat} (hp : p' ≤ 40) : ∀ l k p, lay p l p' → k ≤ p → lnk r S l → v_38_4 q d (n32 k) (n32 (fst l)) S = some ((0, n32 (k + l.length), 0, 0), S)
  | [], k, p, ha, hk, hl => by
    rw [show fst [] = 4294967295 from rfl, e_38_4, n32_m1, if_pos rfl, e_38_31]
    rfl
  | a :: l, k, p, ha, hk, hl => by
    have a1 := ha.1
    have a2 := ha.2.1
    have a3 := lay_le _ _ _ ha.2.2
    rw [show fst (a :: l) = a.1 from rfl, e_38_4, n32_m1, i_eq (by omega) (by omega), if_neg (by omega), i_lt (by omega) (by omega), if_pos (by omega), hS, ok_sh hr (k := 38) rfl, g_t, ok_a3 hr (k := 38) rfl, g_t, in_ar hr q (by omega : a.1 < 40) (by omega) (by omega), g_t, n32_cl (by omega), hl.1, n32_add, chn_v hr hS hp l (k + 1) a.2.1 ha.2.2 (by omega) hl.2]
    rw [List.length_cons, Nat.add_assoc, Nat.add_comm 1]
theorem lay_len : ∀ (l : List alt) p p', lay p l p' → p' ≤ 40 + p → l.length + p ≤ p' := fun l => by
  induction l with
  | nil => intro p p' h _; show 0 + p ≤ p'; have h : p ≤ p' := h; omega
  | cons a l ih =>
    intro p p' h k
    have h1 := h.1
    have h2 := h.2.1
    have := ih a.2.1 p' h.2.2 (by omega)
    show l.length + 1 + p ≤ p'
    omega
/-- a whole type is read from what was typed -/
theorem rsh_v {q r : Nat} (hr : isSh r) {t : Nat → Nat} {n : Nat} (ht : tok t n) {S : ab_S} (hS : S.2.2.1 102 0 = r) (hT : ∀ i, i < n → S.1 4 i = n32 (t i)) {d : Nat} (hd : 24 ≤ d) :
    (par t n = none → ∃ S', ff r S S' ∧ v_36_0 q d (n32 n) S = some ((1, 0, 0, 0), S')) ∧ ∀ y, par t n = some y → y.2.1 < 256 ∧ y.2.2 < 256 ∧ y.1.length ≤ 40 ∧ ∃ S', S'.2 = S.2 ∧ (∀ c j, c ≠ 102 → (c < r ∨ r + 10 < c) → S'.1 c j = S.1 c j) ∧ S'.1 r 10 = n32 1 ∧ S'.1 r 12 = n32 (fst y.1) ∧ S'.1 r 13 = n32 y.2.1 ∧ S'.1 r 14 = n32 y.2.2 ∧ dT q r S' 0 40 y.1 ∧ v_36_0 q d (n32 n) S = some ((0, n32 y.1.length, 0, 0), S') := by
  obtain ⟨d, rfl⟩ := dsuc hd
  have n40 := ht.1
  have g := sh_ge hr
  have gn := sh_ne hr
  have g1 := gn.2 1 (by omega) (by omega)
  -- the state before reading
  have e32 : v_32_0 q d r S = some ((0, 0, 0, 0), ab_wi (ab_wi (ab_wi (ab_wi (ab_wi S r 10 (n32 0)) r 11 (n32 0)) r 12 (n32 4294967295)) r 13 (n32 0)) r 14 (n32 0)) := by
    rw [e_32_0, ok_sh hr (k := 32) rfl, show ab_zb (n32 0) = true from rfl, Bool.and_true, g_t, ok_sh hr (k := 32) rfl, g_t, ok_sh hr (k := 32) rfl, g_t, ok_sh hr (k := 32) rfl, g_t, ok_sh hr (k := 32) rfl, g_t, n32_m1]
  have frm : ∀ c j, c ≠ r → (ab_wi (ab_wi (ab_wi (ab_wi (ab_wi S r 10 (n32 0)) r 11 (n32 0)) r 12 (n32 4294967295)) r 13 (n32 0)) r 14 (n32 0)).1 c j = S.1 c j := fun c j hc => by
    rw [wi_rd, if_neg (by omega), wi_rd, if_neg (by omega), wi_rd, if_neg (by omega), wi_rd, if_neg (by omega), wi_rd, if_neg (by omega)]
  have f13 : (ab_wi (ab_wi (ab_wi (ab_wi (ab_wi S r 10 (n32 0)) r 11 (n32 0)) r 12 (n32 4294967295)) r 13 (n32 0)) r 14 (n32 0)).1 r 13 = n32 0 := by
    rw [wi_rd, if_neg (by omega), wi_rd, if_pos ⟨rfl, rfl⟩]
  have f14 : (ab_wi (ab_wi (ab_wi (ab_wi (ab_wi S r 10 (n32 0)) r 11 (n32 0)) r 12 (n32 4294967295)) r 13 (n32 0)) r 14 (n32 0)).1 r 14 = n32 0 := by
    rw [wi_rd, if_pos ⟨rfl, rfl⟩]
  have fR2 : (ab_wi (ab_wi (ab_wi (ab_wi (ab_wi S r 10 (n32 0)) r 11 (n32 0)) r 12 (n32 4294967295)) r 13 (n32 0)) r 14 (n32 0)).2 = S.2 := rfl
  revert e32 frm f13 f14 fR2
  generalize ab_wi (ab_wi (ab_wi (ab_wi (ab_wi S r 10 (n32 0)) r 11 (n32 0)) r 12 (n32 4294967295)) r 13 (n32 0)) r 14 (n32 0) = Sa
  intro e32 frm f13 f14 fR2
  have hSa : Sa.2.2.1 102 0 = r := by rw [fR2]; exact hS
  have hTa : ∀ i, i < n → Sa.1 4 i = n32 (t i) := fun i hi => (frm 4 i (by omega)).trans (hT i hi)
  -- the characters copied
  have cf : ab_cf Sa 4 0 n = true := by
    unfold ab_cf
    rw [List.all_eq_true]
    intro i hi
    rw [List.mem_range] at hi
    rw [Nat.zero_add, hTa i hi]
    have := ht.2 i hi
    generalize t i = x at this
    have key : ∀ x, x < 127 → fits .char (.int (n32 x)) = true := by decide +kernel
    exact key x (by omega)
  have N4 : ab_N q 4 = 40 := rfl
  have N1 := N_ar hr q (j := 1) (by omega) (by omega)
  have wc (x y : Nat) : (ab_wc Sa 4 0 (r + 1) 0 n).1 x y = if x = r + 1 ∧ 0 ≤ y ∧ y < 0 + n then Sa.1 4 (0 + (y - 0)) else Sa.1 x y := rfl
  have w2 : (ab_wc Sa 4 0 (r + 1) 0 n).2 = Sa.2 := rfl
  have b2 : Nat.blt 2 (r + 1) = true := bl_ar hr 1
  have b4 : (!Nat.beq 4 (r + 1)) = true := by
    cases x : Nat.beq 4 (r + 1) with
    | false => rfl
    | true => have := Nat.eq_of_beq_eq_true x; omega
  have gd : (!decide (n32 n < 0) && (!decide ((n32 0) < 0) && (!decide ((n32 0) < 0) && (Nat.ble (Int32.toNatClampNeg (n32 0) + Int32.toNatClampNeg (n32 n)) (ab_N q 4) && (Nat.ble (Int32.toNatClampNeg (n32 0) + Int32.toNatClampNeg (n32 n)) (ab_N q (r + 1)) && ab_cf Sa 4 (Int32.toNatClampNeg (n32 0)) (Int32.toNatClampNeg (n32 n))))))) = true := by
    rw [n32_cl (show 0 < 2147483648 by omega), n32_cl (show n < 2147483648 by omega), N4, N1, cf, Nat.ble_eq_true_of_le (by omega : 0 + n ≤ 40)]
    have : ¬ n32 n < 0 := by rw [n32_z, n32_lt (by omega) (by omega)]; omega
    rw [decide_eq_false this]
    rfl
  have e0 : v_36_0 q (d + 1) (n32 n) S = (cI (v_43_0 q d (n32 0) (n32 1) (ab_wi (ab_wi (ab_wc Sa 4 0 (r + 1) 0 n) r 11 (n32 n)) 102 1 (n32 0))) fun y2 S2 => (ab_g (ab_ok 36 S2 r 12) (if ((ab_wi S2 r 12 y2).1 102 1) = n32 n then (v_36_60 q (d + 1) (n32 1) (ab_wi S2 r 12 y2)) else (v_36_60 q (d + 1) (n32 0) (ab_wi S2 r 12 y2))))) := by
    rw [e_36_0, hS, ok_sh hr (k := 36) rfl, g_t, e32, cV_0, hSa, ok_sh hr (k := 36) rfl, g_t, ok_a1 hr (k := 36) rfl, b2, b4, Bool.and_true, Bool.and_true, Bool.and_true, g_t, gd, g_t, n32_cl (show n < 2147483648 by omega), w2, hSa, ok_sh hr (k := 36) rfl, g_t]
  rw [e0]
  have r0 : rdr r t n (ab_wi (ab_wi (ab_wc Sa 4 0 (r + 1) 0 n) r 11 (n32 n)) 102 1 (n32 0)) (0, 0, 0) := by
    refine ⟨hSa, rfl, ?_, fun i hi => ?_, ?_, ?_⟩
    · rw [wi_rd, if_neg (by omega), wi_rd, if_pos ⟨rfl, rfl⟩]
    · rw [wi_rd, if_neg (by omega), wi_rd, if_neg (by omega), wc, if_pos ⟨rfl, by omega, by omega⟩, Nat.zero_add, Nat.sub_zero]
      exact hTa i hi
    · rw [wi_rd, if_neg (by omega), wi_rd, if_neg (by omega), wc, if_neg (by omega)]
      exact f13
    · rw [wi_rd, if_neg (by omega), wi_rd, if_neg (by omega), wc, if_neg (by omega)]
      exact f14
  have fr0 : ∀ c j, c ≠ 102 → (c < r ∨ r + 10 < c) → (ab_wi (ab_wi (ab_wc Sa 4 0 (r + 1) 0 n) r 11 (n32 n)) 102 1 (n32 0)).1 c j = S.1 c j := fun c j h1 h2 => by
    rw [wi_rd, if_neg (by omega), wi_rd, if_neg (by omega), wc, if_neg (by omega)]
    exact frm c j (by omega)
  have f20 : (ab_wi (ab_wi (ab_wc Sa 4 0 (r + 1) 0 n) r 11 (n32 n)) 102 1 (n32 0)).2 = S.2 := fR2
  revert r0 fr0 f20
  generalize ab_wi (ab_wi (ab_wc Sa 4 0 (r + 1) 0 n) r 11 (n32 n)) 102 1 (n32 0) = S0
  intro r0 fr0 f20
  obtain ⟨a1, a2⟩ := typ_v hr ht (alR_v hr ht 4 0 rfl) (by omega) (by omega : 4 * 4 + 5 + 1 ≤ d) true r0 (Nat.zero_le _) (by show 0 < 256; omega) (by show 0 < 256; omega)
  have a1' : typ t n (alR t n 4) true (0, 0, 0) = none → ∃ S', ff r S0 S' ∧ v_43_0 q d (n32 0) (n32 1) S0 = some ((1, 0, 0, 0), S') := a1
  unfold par
  have ffS (S' : ab_S) (h : ff r S0 S') : ff r S S' := by
    obtain ⟨S3, x1, x2, x3⟩ := h
    exact ⟨S3, x1, x2.trans f20, fun c j y z => (x3 c j y z).trans (fr0 c j y z)⟩
  cases hT' : typ t n (alR t n 4) true (0, 0, 0) with
  | none =>
    obtain ⟨S', b1, b2⟩ := a1' hT'
    refine ⟨fun _ => ⟨S', ffS S' b1, ?_⟩, nofun⟩
    rw [b2, cI_x (by omega)]
  | some x =>
    obtain ⟨b1, b2, b3, b4, S2, c1, c2, c3, c4, c5, c6⟩ := a2 x hT'
    have c6' : v_43_0 q d (n32 0) (n32 1) S0 = some ((0, n32 (fst x.1), 0, 0), S2) := c6
    have c3' : dT q r S2 0 x.2.1 x.1 := c3
    have b1' : 0 < x.2.1 := b1
    have pl : (ab_wi S2 r 12 (n32 (fst x.1))).1 102 1 = n32 x.2.1 := by rw [wi_rd, if_neg (by omega)]; exact c2.2.1
    obtain ⟨d, rfl⟩ := dsuc (by omega : 0 + 1 ≤ d)
    rw [c6', cI_0, ok_sh hr (k := 36) rfl, g_t, pl, i_eq (by omega) (by omega)]
    show ((if x.2.1 = n then some (x.1, x.2.2) else none) = none → _) ∧ ∀ y, (if x.2.1 = n then some (x.1, x.2.2) else none) = some y → _
    have fr2 : ∀ c j, c ≠ 102 → (c < r ∨ r + 10 < c) → S2.1 c j = S.1 c j := fun c j h1 h2 => (c1.2 c j (by omega) (by omega) (by omega)).trans (fr0 c j h1 h2)
    by_cases en : x.2.1 = n
    · rw [if_pos en, if_pos en]
      refine ⟨nofun, fun y hy => ?_⟩
      cases hy
      have len : x.1.length ≤ 40 := by
        have := lay_len x.1 0 x.2.1 c3'.2.1 (by omega)
        omega
      have S4 : (ab_wi (ab_wi S2 r 12 (n32 (fst x.1))) r 10 (n32 1)).2.2.1 102 0 = r := c2.1
      have rw4 : ∀ j, 1 ≤ j → j ≤ 10 → ∀ w, (ab_wi (ab_wi S2 r 12 (n32 (fst x.1))) r 10 (n32 1)).1 (r + j) w = S2.1 (r + j) w := fun j j1 j2 w => by
        rw [wi_rd, if_neg (by omega), wi_rd, if_neg (by omega)]
      have T4 : dT q r (ab_wi (ab_wi S2 r 12 (n32 (fst x.1))) r 10 (n32 1)) 0 x.2.1 x.1 := dT_fr c3' (fun j j1 j2 w _ _ => rw4 j j1 j2 w)
      have f12 : (ab_wi (ab_wi S2 r 12 (n32 (fst x.1))) r 10 (n32 1)).1 r 12 = n32 (fst x.1) := by rw [wi_rd, if_neg (by omega), wi_rd, if_pos ⟨rfl, rfl⟩]
      refine ⟨b3, b4, len, ab_wi (ab_wi S2 r 12 (n32 (fst x.1))) r 10 (n32 1), ?_, ?_, ?_, f12, ?_, ?_, dT_wd T4 (Nat.le_refl _) (by omega), ?_⟩
      · exact c1.1.trans f20
      · intro c j h1 h2
        rw [wi_rd, if_neg (by omega), wi_rd, if_neg (by omega)]
        exact fr2 c j h1 h2
      · rw [wi_rd, if_pos ⟨rfl, rfl⟩]
      · rw [wi_rd, if_neg (by omega), wi_rd, if_neg (by omega)]
        exact c2.2.2.2.2.1
      · rw [wi_rd, if_neg (by omega), wi_rd, if_neg (by omega)]
        exact c2.2.2.2.2.2
      · have w12 : (ab_wi S2 r 12 (n32 (fst x.1))).2.2.1 102 0 = r := c2.1
        rw [e_36_60, rq_1, cV_0, w12, ok_sh hr (k := 36) rfl, show ab_zb (n32 1) = true from rfl, Bool.and_true, g_t, ok_sh hr (k := 36) rfl, g_t, f12, e_38_0, chn_v hr S4 (by omega : x.2.1 ≤ 40) x.1 0 0 T4.2.1 (Nat.le_refl _) T4.2.2.1, cI_0, Nat.zero_add]
    · rw [if_neg en, if_neg en]
      refine ⟨fun _ => ⟨ab_wx (ab_wi S2 r 12 (n32 (fst x.1))), ⟨ab_wi S2 r 12 (n32 (fst x.1)), rfl, c1.1.trans f20, fun c j h1 h2 => ?_⟩, ?_⟩, nofun⟩
      · rw [wi_rd, if_neg (by omega)]
        exact fr2 c j h1 h2
      · rw [e_36_60, rq_0, cV_x (by omega)]
