-- The class reads items.
theorem i_lt {α : Type} {a b : Nat} (ha : a < 2147483648) (hb : b < 2147483648) (x y : α) : (if n32 a < n32 b then x else y) = if a < b then x else y := by simp only [n32_lt ha hb]
theorem i_eq {α : Type} {a b : Nat} (ha : a < 4294967296) (hb : b < 4294967296) (x y : α) : (if n32 a = n32 b then x else y) = if a = b then x else y := by simp only [n32_eq ha hb]
theorem i_cgt {α : Type} (a b : Int64) (x y : α) : (if n32 0 < lg_cmp a b then x else y) = if b < a then x else y := by simp only [cmp_gt]
theorem i_clt {α : Type} (a b : Int64) (x y : α) : (if lg_cmp a b < n32 0 then x else y) = if a < b then x else y := by simp only [cmp_lt]
theorem i_ceq {α : Type} (a b : Int64) (x y : α) : (if lg_cmp a b = n32 0 then x else y) = if a = b then x else y := by simp only [cmp_eq]
theorem i_llt {α : Type} {a b : Nat} (ha : a < 9223372036854775808) (hb : b < 9223372036854775808) (x y : α) : (if n64 a < n64 b then x else y) = if a < b then x else y := by simp only [n64_lt ha hb]
theorem i_leq {α : Type} {a b : Nat} (ha : a < 18446744073709551616) (hb : b < 18446744073709551616) (x y : α) : (if n64 a = n64 b then x else y) = if a = b then x else y := by simp only [n64_eq ha hb]
theorem dsuc {k d : Nat} (h : k + 1 ≤ d) : ∃ e, d = e + 1 := ⟨d - 1, by omega⟩
theorem bo_z (x : Bool) : (n32 x.toNat = n32 0) = (x = false) := by cases x <;> simp <;> decide
theorem bo_nz (x : Bool) : ab_nz (n32 x.toNat) = n32 x.toNat := by cases x <;> rfl
theorem bo_zb (x : Bool) : ab_zb (n32 x.toNat) = true := by cases x <;> rfl
theorem one_z : ¬ n32 1 = n32 0 := by decide
theorem i_bz {α : Type} (b : Bool) (x y : α) : (if n32 b.toNat = n32 0 then x else y) = if b = true then y else x := by cases b <;> rfl
theorem nz_0 : ab_nz (n32 0) = n32 0 := rfl
theorem nz_1 : ab_nz (n32 1) = n32 1 := rfl
theorem pr_v (q d : Nat) {c : Nat} (h : c < 2147483648) (S : ab_S) : v_14_0 q d (n32 c) S = some ((0, n32 (pr c).toNat, 0, 0), S) := by
  rw [e_14_0, i_lt h (by omega), i_lt (by omega) h]
  unfold pr
  by_cases h1 : c < 32
  · rw [if_pos h1, e_14_16, e_14_17, decide_eq_false (by omega : ¬ 32 ≤ c), nz_0]
    rfl
  · rw [if_neg h1, decide_eq_true (by omega : 32 ≤ c)]
    by_cases h2 : 126 < c
    · rw [if_pos h2, e_14_16, e_14_17, decide_eq_false (by omega : ¬ c ≤ 126), nz_0]
      rfl
    · rw [if_neg h2, e_14_17, decide_eq_true (by omega : c ≤ 126), nz_1]
      rfl
theorem iR_pl {b : Nat → Nat} {bn : Nat} {S : ab_S} {s : ic} (h : iR b bn S s) (p : Nat) : iR b bn (ab_wi S 5 8 (n32 p)) (p, s.2) :=
  ⟨rfl, h.2.1, h.2.2.1, fun i hi => by rw [wi_rd, if_neg (by omega)]; exact h.2.2.2.1 i hi, fun k hk => ⟨by rw [wi_rd, if_neg (by omega)]; exact (h.2.2.2.2 k hk).1, (h.2.2.2.2 k hk).2.1, by rw [wi_rd, if_neg (by omega)]; exact (h.2.2.2.2 k hk).2.2.1, by rw [wi_rd, if_neg (by omega)]; exact (h.2.2.2.2 k hk).2.2.2.1, by rw [wi_rd, if_neg (by omega)]; exact (h.2.2.2.2 k hk).2.2.2.2⟩⟩
theorem iR_ct {b : Nat → Nat} {bn : Nat} {S : ab_S} {s : ic} (h : iR b bn S s) (c : Nat) : iR b bn (ab_wi S 5 6 (n32 c)) (s.1, c, s.2.2) :=
  ⟨h.1, rfl, h.2.2.1, fun i hi => by rw [wi_rd, if_neg (by omega)]; exact h.2.2.2.1 i hi, fun k hk => ⟨by rw [wi_rd, if_neg (by omega)]; exact (h.2.2.2.2 k hk).1, (h.2.2.2.2 k hk).2.1, by rw [wi_rd, if_neg (by omega)]; exact (h.2.2.2.2 k hk).2.2.1, by rw [wi_rd, if_neg (by omega)]; exact (h.2.2.2.2 k hk).2.2.2.1, by rw [wi_rd, if_neg (by omega)]; exact (h.2.2.2.2 k hk).2.2.2.2⟩⟩
theorem uI_o (I : Nat → Nat → Nat) {j k v a b : Nat} (h : a ≠ j) : uI I j k v a b = I a b := if_neg (fun x => h x.1)
theorem uI_s (I : Nat → Nat → Nat) (j k v b : Nat) : uI I j k v j b = if b = k then v else I j b := by
  unfold uI
  by_cases h : b = k
  · rw [if_pos ⟨rfl, h⟩, if_pos h]
  · rw [if_neg (fun x => h x.2), if_neg h]
theorem iR_w0 {b : Nat → Nat} {bn : Nat} {S : ab_S} {s : ic} (h : iR b bn S s) (c v : Nat) : iR b bn (ab_wi S 7 c (n32 v)) (s.1, s.2.1, uI s.2.2 0 c v) :=
  ⟨h.1, h.2.1, h.2.2.1, fun i hi => by rw [wi_rd, if_neg (by omega)]; exact h.2.2.2.1 i hi, fun k hk => by
    have g := h.2.2.2.2 k hk
    refine ⟨?_, ?_, ?_, ?_, ?_⟩
    · show _ = n32 (uI s.2.2 0 c v 0 k)
      rw [wi_rd, uI_s]
      by_cases e : k = c
      · rw [if_pos ⟨rfl, e⟩, if_pos e]
      · rw [if_neg (fun x => e x.2), if_neg e]; exact g.1
    · exact g.2.1
    · rw [wi_rd, if_neg (by omega)]; exact g.2.2.1
    · rw [wi_rd, if_neg (by omega)]; exact g.2.2.2.1
    · rw [wi_rd, if_neg (by omega)]; exact g.2.2.2.2⟩
theorem iR_w1 {b : Nat → Nat} {bn : Nat} {S : ab_S} {s : ic} (h : iR b bn S s) (c v : Nat) : iR b bn (ab_wl S 8 c (n64 v)) (s.1, s.2.1, uI s.2.2 1 c v) :=
  ⟨h.1, h.2.1, h.2.2.1, h.2.2.2.1, fun k hk => by
    have g := h.2.2.2.2 k hk
    refine ⟨g.1, ?_, g.2.2.1, g.2.2.2.1, g.2.2.2.2⟩
    show _ = n64 (uI s.2.2 1 c v 1 k)
    rw [wl_rd, uI_s]
    by_cases e : k = c
    · rw [if_pos ⟨rfl, e⟩, if_pos e]
    · rw [if_neg (fun x => e x.2), if_neg e]; exact g.2.1⟩
theorem iR_w2 {b : Nat → Nat} {bn : Nat} {S : ab_S} {s : ic} (h : iR b bn S s) (c v : Nat) : iR b bn (ab_wi S 9 c (n32 v)) (s.1, s.2.1, uI s.2.2 2 c v) :=
  ⟨h.1, h.2.1, h.2.2.1, fun i hi => by rw [wi_rd, if_neg (by omega)]; exact h.2.2.2.1 i hi, fun k hk => by
    have g := h.2.2.2.2 k hk
    refine ⟨?_, g.2.1, ?_, ?_, ?_⟩
    · rw [wi_rd, if_neg (by omega)]; exact g.1
    · show _ = n32 (uI s.2.2 2 c v 2 k)
      rw [wi_rd, uI_s]
      by_cases e : k = c
      · rw [if_pos ⟨rfl, e⟩, if_pos e]
      · rw [if_neg (fun x => e x.2), if_neg e]; exact g.2.2.1
    · rw [wi_rd, if_neg (by omega)]; exact g.2.2.2.1
    · rw [wi_rd, if_neg (by omega)]; exact g.2.2.2.2⟩
theorem iR_w3 {b : Nat → Nat} {bn : Nat} {S : ab_S} {s : ic} (h : iR b bn S s) (c v : Nat) : iR b bn (ab_wi S 10 c (n32 v)) (s.1, s.2.1, uI s.2.2 3 c v) :=
  ⟨h.1, h.2.1, h.2.2.1, fun i hi => by rw [wi_rd, if_neg (by omega)]; exact h.2.2.2.1 i hi, fun k hk => by
    have g := h.2.2.2.2 k hk
    refine ⟨?_, g.2.1, ?_, ?_, ?_⟩
    · rw [wi_rd, if_neg (by omega)]; exact g.1
    · rw [wi_rd, if_neg (by omega)]; exact g.2.2.1
    · show _ = n32 (uI s.2.2 3 c v 3 k)
      rw [wi_rd, uI_s]
      by_cases e : k = c
      · rw [if_pos ⟨rfl, e⟩, if_pos e]
      · rw [if_neg (fun x => e x.2), if_neg e]; exact g.2.2.2.1
    · rw [wi_rd, if_neg (by omega)]; exact g.2.2.2.2⟩
theorem iR_w4 {b : Nat → Nat} {bn : Nat} {S : ab_S} {s : ic} (h : iR b bn S s) (c v : Nat) : iR b bn (ab_wi S 11 c (n32 v)) (s.1, s.2.1, uI s.2.2 4 c v) :=
  ⟨h.1, h.2.1, h.2.2.1, fun i hi => by rw [wi_rd, if_neg (by omega)]; exact h.2.2.2.1 i hi, fun k hk => by
    have g := h.2.2.2.2 k hk
    refine ⟨?_, g.2.1, ?_, ?_, ?_⟩
    · rw [wi_rd, if_neg (by omega)]; exact g.1
    · rw [wi_rd, if_neg (by omega)]; exact g.2.2.1
    · rw [wi_rd, if_neg (by omega)]; exact g.2.2.2.1
    · show _ = n32 (uI s.2.2 4 c v 4 k)
      rw [wi_rd, uI_s]
      by_cases e : k = c
      · rw [if_pos ⟨rfl, e⟩, if_pos e]
      · rw [if_neg (fun x => e x.2), if_neg e]; exact g.2.2.2.2⟩
theorem rn_lp {b : Nat → Nat} {bn : Nat} {S : ab_S} {s : ic} (h : iR b bn S s) (hbn : bn ≤ 40) (hb : ∀ i, i < bn → b i < 256) (q d : Nat) {z : Nat} (hz : s.1 + z ≤ bn) : ∀ m i, i + m = z → v_25_49 q d (n32 z) (n64 (be b s.1 i)) (n32 i) S = some ((0, 0, n64 (be b s.1 z), 0), ab_wi S 5 8 (n32 (s.1 + z)))
  | 0, i, e => by
    have e : i = z := by omega
    subst e
    rw [e_25_49, if_neg (by rw [n32_lt (by omega) (by omega)]; omega), h.1, n32_add]
  | m + 1, i, e => by
    have h5 := hb (s.1 + i) (by omega)
    rw [e_25_49, if_pos (by rw [n32_lt (by omega) (by omega)]; omega), h.1, n32_add, n32_in (by omega) (by omega), g_t, n32_cl (by omega), h.2.2.2.1 _ (by omega), n32_i2l (by omega), n64_mul, n64_add, n32_add]
    exact rn_lp h hbn hb q d hz m (i + 1) (by omega)
theorem rn_v {b : Nat → Nat} {bn : Nat} {S : ab_S} {s : ic} (h : iR b bn S s) (hbn : bn ≤ 40) (hb : ∀ i, i < bn → b i < 256) (hs : s.1 ≤ bn) (q d : Nat) {info : Nat} (hi : info < 32) :
    (num b bn s.1 info = none → v_25_0 q d (n32 info) S = some ((0, 0, -1, 0), S)) ∧
    ∀ x, num b bn s.1 info = some x → ∃ S', v_25_0 q d (n32 info) S = some ((0, 0, n64 x.1, 0), S') ∧ fI S S' ∧ iR b bn S' (x.2, s.2) := by
  unfold num
  by_cases h1 : info < 24
  · rw [if_pos h1]
    refine ⟨nofun, fun x hx => ?_⟩
    cases hx
    rw [e_25_0, if_pos (by rw [n32_lt (by omega) (by omega)]; exact h1), n32_i2l (by omega)]
    exact ⟨S, rfl, fI_rf S, h⟩
  · rw [if_neg h1]
    by_cases h2 : 26 < info
    · rw [if_pos h2]
      refine ⟨fun _ => ?_, nofun⟩
      rw [e_25_0, if_neg (by rw [n32_lt (by omega) (by omega)]; exact h1), if_pos (by rw [n32_lt (by omega) (by omega)]; exact h2), e_25_26, if_pos]
      rw [h.2.2.1, h.1, n32_sub hs, n32_lt (by omega) (by omega)]
      omega
    · rw [if_neg h2]
      have hz : 2 ^ (info - 24) ≤ 4 := Nat.le_trans (Nat.pow_le_pow_right (by decide) (by omega : info - 24 ≤ 2)) (by decide)
      have e : v_25_0 q d (n32 info) S = v_25_26 q d (n32 (2 ^ (info - 24))) S := by
        rw [e_25_0, if_neg (by rw [n32_lt (by omega) (by omega)]; exact h1), if_neg (by rw [n32_lt (by omega) (by omega)]; exact h2), n32_sub (by omega), n32_shl _ (by omega), Nat.one_mul]
      rw [e, e_25_26, h.2.2.1, h.1, n32_sub hs, i_lt (by omega) (by omega)]
      by_cases h3 : bn < s.1 + 2 ^ (info - 24)
      · rw [if_pos h3, if_pos (by omega)]
        exact ⟨fun _ => rfl, nofun⟩
      · rw [if_neg h3, if_neg (by omega)]
        refine ⟨nofun, fun x hx => ?_⟩
        cases hx
        exact ⟨_, rn_lp h hbn hb q d (by omega) _ 0 (Nat.zero_add _), fI_wi (fI_rf S) _ (Or.inr ⟨rfl, Or.inr rfl⟩), iR_pl h _⟩
def iO (b : Nat → Nat) (bn : Nat) (S : ab_S) (x : ab_R) (o : Option ic) : Prop :=
  ∃ S', fI S S' ∧ (o = none → x = some ((0, n32 0, 0, 0), S')) ∧ ∀ s', o = some s' → x = some ((0, n32 1, 0, 0), S') ∧ iR b bn S' s'
theorem rc_lp0 {b : Nat → Nat} {bn : Nat} {S : ab_S} {s : ic} (h : iR b bn S s) (q d : Nat) {n : Nat} (hn : s.1 + n ≤ bn) (hbn : bn ≤ 40) : ∀ m i, i + m = n → v_27_20 q (d + 1) (n64 n) (n32 0) (n32 i) S = some ((0, n32 1, 0, 0), ab_wi S 5 8 (n32 (s.1 + n)))
  | 0, i, e => by
    have e : i = n := by omega
    subst e
    rw [e_27_20, if_neg (by rw [cmp_lt, n32_i2l (by omega), n64_lt (by omega) (by omega)]; omega), h.1, n64_l2i, n32_add]
  | m + 1, i, e => by
    rw [e_27_20, if_pos (by rw [cmp_lt, n32_i2l (by omega), n64_lt (by omega) (by omega)]; omega), if_pos rfl, e_27_52, n32_add]
    exact rc_lp0 h q d hn hbn m (i + 1) (by omega)
theorem rc_lp1 {b : Nat → Nat} {bn : Nat} {S : ab_S} {s : ic} (h : iR b bn S s) (hb : ∀ i, i < bn → b i < 256) (q d : Nat) {n : Nat} (hn : s.1 + n ≤ bn) (hbn : bn ≤ 40) : ∀ m i, i + m = n → v_27_20 q (d + 1) (n64 n) (n32 1) (n32 i) S = if prs b (s.1 + i) m = true then some ((0, n32 1, 0, 0), ab_wi S 5 8 (n32 (s.1 + n))) else some ((0, n32 0, 0, 0), S)
  | 0, i, e => by
    have e : i = n := by omega
    subst e
    rw [e_27_20, if_neg (by rw [cmp_lt, n32_i2l (by omega), n64_lt (by omega) (by omega)]; omega), h.1, n64_l2i, n32_add]
    rfl
  | m + 1, i, e => by
    have h5 := hb (s.1 + i) (by omega)
    rw [e_27_20, if_pos (by rw [cmp_lt, n32_i2l (by omega), n64_lt (by omega) (by omega)]; omega), if_neg one_z, h.1, n32_add, n32_in (by omega) (by omega), g_t, n32_cl (by omega), h.2.2.2.1 _ (by omega), pr_v q d (by omega), cI_0, i_bz]
    unfold prs
    by_cases g : pr (b (s.1 + i)) = true
    · rw [if_pos g, e_27_52, n32_add, rc_lp1 h hb q d hn hbn m (i + 1) (by omega), g]
      rfl
    · rw [if_neg g, (Bool.not_eq_true _).mp g]
      rfl
theorem many_big' {b : Nat → Nat} {bn f : Nat} (hb : ∀ i, i < bn → b i < 256) : ∀ n s, s.1 ≤ bn → s.2.1 ≤ 24 → 24 < n + s.2.1 → many (itm b bn f) n s = none
  | 0, s, _, h1, h2 => absurd h2 (by omega)
  | n + 1, s, h0, h1, h2 => by
    unfold many
    split
    · rfl
    · rename_i s' hs
      have := itm_inc hb f s s' h0 h1 hs
      exact many_big' hb n s' this.2.1 this.2.2.2 (by omega)
theorem ma_v {b : Nat → Nat} {bn : Nat} {q : Nat} {f : Nat} (F : ∀ S s d, iR b bn S s → s.1 ≤ bn → s.2.1 ≤ 24 → 3 * f + 2 ≤ d → iO b bn S (v_24_0 q d (n32 (7 - f)) S) (itm b bn f s)) (hb : ∀ i, i < bn → b i < 256) {n : Nat} (hn : n ≤ 24) {d : Nat} (hd : 3 * f + 2 ≤ d) : ∀ m i S s, iR b bn S s → s.1 ≤ bn → s.2.1 ≤ 24 → i + m = n → iO b bn S (v_28_13 q (d + 1) (n64 n) (n32 (7 - f)) (n32 i) S) (many (itm b bn f) m s)
  | 0, i, S, s, h, _, _, e => by
    rw [e_28_13, if_neg (by rw [cmp_lt, n32_i2l (by omega), n64_lt (by omega) (by omega)]; omega)]
    exact ⟨S, fI_rf S, nofun, fun s' hs => ⟨rfl, by cases hs; exact h⟩⟩
  | m + 1, i, S, s, h, h1, h2, e => by
    rw [e_28_13, if_pos (by rw [cmp_lt, n32_i2l (by omega), n64_lt (by omega) (by omega)]; omega)]
    obtain ⟨S1, g1, g2, g3⟩ := F S s d h h1 h2 hd
    unfold many
    cases hc : itm b bn f s with
    | none =>
      rw [g2 hc, cI_0, if_pos rfl]
      exact ⟨S1, g1, fun _ => rfl, nofun⟩
    | some s1 =>
      have a := g3 _ hc
      rw [a.1, cI_0, if_neg one_z, n32_add]
      have c := itm_inc hb f s s1 h1 h2 hc
      obtain ⟨S2, k1, k2, k3⟩ := ma_v F hb hn hd m (i + 1) S1 s1 a.2 c.2.1 c.2.2.2 (by omega)
      exact ⟨S2, fI_tr g1 k1, k2, k3⟩
theorem mo_v {b : Nat → Nat} {bn : Nat} {q : Nat} {f : Nat} (F : ∀ S s d, iR b bn S s → s.1 ≤ bn → s.2.1 ≤ 24 → 3 * f + 2 ≤ d → iO b bn S (v_24_0 q d (n32 (7 - f)) S) (itm b bn f s)) (hb : ∀ i, i < bn → b i < 256) {n : Nat} (hn : n < 9223372036854775808) {d : Nat} (hd : 3 * f + 2 ≤ d) (S s) (h : iR b bn S s) (h1 : s.1 ≤ bn) (h2 : s.2.1 ≤ 24) : iO b bn S (v_28_0 q (d + 1) (n64 n) (n32 (7 - f)) S) (many (itm b bn f) n s) := by
  rw [e_28_0, i_cgt, i_llt (by omega) hn]
  by_cases g : 24 < n
  · rw [if_pos g, many_big' hb n s h1 h2 (by omega)]
    exact ⟨S, fI_rf S, fun _ => rfl, nofun⟩
  · rw [if_neg g]
    exact ma_v F hb (by omega) hd n 0 S s h h1 h2 (Nat.zero_add _)
theorem iO_nz {b : Nat → Nat} {bn : Nat} {S : ab_S} {x : ab_R} {o : Option ic} (h : iO b bn S x o) : iO b bn S (cI x fun y S1 => some ((0, ab_nz y, 0, 0), S1)) o := by
  obtain ⟨S1, g1, g2, g3⟩ := h
  refine ⟨S1, g1, fun e => ?_, fun s' e => ⟨?_, (g3 s' e).2⟩⟩
  · rw [g2 e, cI_0, nz_0]
  · rw [(g3 s' e).1, cI_0, nz_1]
theorem rr_v {b : Nat → Nat} {bn : Nat} (hbn : bn ≤ 40) {q : Nat} {f : Nat} (hf : f ≤ 5) (F : ∀ S s d, iR b bn S s → s.1 ≤ bn → s.2.1 ≤ 24 → 3 * f + 2 ≤ d → iO b bn S (v_24_0 q d (n32 (7 - f)) S) (itm b bn f s)) (hb : ∀ i, i < bn → b i < 256) {n major : Nat} (hn : n < 4294967296) (hm : major < 8) {d : Nat} (hd : 3 * f + 4 ≤ d) (S s) (h : iR b bn S s) (h1 : s.1 ≤ bn) (h2 : s.2.1 ≤ 24) : iO b bn S (v_26_0 q d (n32 major) (n64 n) (n32 (6 - f)) S) (rest (itm b bn f) b bn major n s) := by
  obtain ⟨d, rfl⟩ := dsuc hd
  obtain ⟨d, rfl⟩ := dsuc (by omega : 3 * f + 2 + 1 ≤ d)
  rw [e_26_0, i_eq (by omega) (by omega), i_eq (by omega) (by omega), i_eq (by omega) (by omega), i_eq (by omega) (by omega), i_eq (by omega) (by omega), n32_add, show 6 - f + 1 = 7 - f by omega]
  unfold rest
  by_cases c2 : major = 2
  · rw [if_pos c2, if_pos c2]
    apply iO_nz
    rw [e_27_0, h.2.2.1, h.1, i_cgt, n32_sub h1, n32_i2l (by omega), i_llt (by omega) (by omega)]
    by_cases g : bn < s.1 + n
    · rw [if_pos g, if_pos (by omega)]
      exact ⟨S, fI_rf S, fun _ => rfl, nofun⟩
    · rw [if_neg g, if_neg (by omega), rc_lp0 h q d (by omega) hbn n 0 (Nat.zero_add _)]
      exact ⟨_, fI_wi (fI_rf S) _ (Or.inr ⟨rfl, Or.inr rfl⟩), nofun, fun s' e => ⟨rfl, by cases e; exact iR_pl h _⟩⟩
  rw [if_neg c2, if_neg c2]
  by_cases c3 : major = 3
  · rw [if_pos c3, if_pos c3]
    apply iO_nz
    rw [e_27_0, h.2.2.1, h.1, i_cgt, n32_sub h1, n32_i2l (by omega), i_llt (by omega) (by omega)]
    by_cases g : bn < s.1 + n
    · rw [if_pos g, if_pos (by omega)]
      exact ⟨S, fI_rf S, fun _ => rfl, nofun⟩
    · rw [if_neg g, if_neg (by omega), rc_lp1 h hb q d (by omega) hbn n 0 (Nat.zero_add _), Nat.add_zero]
      by_cases k : prs b s.1 n = true
      · rw [if_pos k, if_pos k]
        exact ⟨_, fI_wi (fI_rf S) _ (Or.inr ⟨rfl, Or.inr rfl⟩), nofun, fun s' e => ⟨rfl, by cases e; exact iR_pl h _⟩⟩
      · rw [if_neg k, if_neg k]
        exact ⟨_, fI_rf S, fun _ => rfl, nofun⟩
  rw [if_neg c3, if_neg c3]
  by_cases c4 : major = 4
  · rw [if_pos c4, if_pos c4]
    exact iO_nz (mo_v F hb (by omega) (by omega) S s h h1 h2)
  rw [if_neg c4, if_neg c4]
  by_cases c5 : major = 5
  · rw [if_pos c5, if_pos c5, n64_mul]
    exact iO_nz (mo_v F hb (by omega) (by omega) S s h h1 h2)
  rw [if_neg c5, if_neg c5]
  by_cases c6 : major = 6
  · rw [if_pos c6, if_pos c6]
    exact iO_nz (mo_v F hb (by omega) (by omega) S s h h1 h2)
  rw [if_neg c6, if_neg c6]
  exact ⟨S, fI_rf S, nofun, fun s' e => ⟨rfl, by cases e; exact h⟩⟩
theorem b_hi {x : Nat} (h : x < 256) : n32 x >>> (n32 5 &&& 31) = n32 (x / 32) := by
  rw [n32_shr (by omega) (by omega), Nat.shiftRight_eq_div_pow]
theorem b_lo (x : Nat) : n32 x &&& n32 31 = n32 (x % 32) := by
  rw [n32_and, show 31 = 2 ^ 5 - 1 from rfl, Nat.and_two_pow_sub_one_eq_mod]
theorem it_v {b : Nat → Nat} {bn : Nat} (hbn : bn ≤ 40) (hb : ∀ i, i < bn → b i < 256) (q : Nat) : ∀ f, f ≤ 6 → ∀ S s d, iR b bn S s → s.1 ≤ bn → s.2.1 ≤ 24 → 3 * f + 2 ≤ d → iO b bn S (v_24_0 q d (n32 (7 - f)) S) (itm b bn f s)
  | 0, _, S, s, d, h, h1, h2, hd => by
    obtain ⟨d, rfl⟩ := dsuc hd
    rw [e_24_0, if_pos (by decide), e_24_26]
    exact ⟨S, fI_rf S, fun _ => rfl, nofun⟩
  | f + 1, hf, S, s, d, h, h1, h2, hd => by
    obtain ⟨d, rfl⟩ := dsuc hd
    have F := it_v hbn hb q f (by omega)
    rw [e_24_0, show 7 - (f + 1) = 6 - f by omega, if_neg (by rw [n32_lt (by omega) (by omega)]; omega), h.2.1, h.2.2.1, h.1, i_lt (by omega) (by omega), i_lt (by omega) (by omega)]
    unfold itm
    by_cases g1 : 24 ≤ s.2.1
    · rw [if_neg (by omega), if_pos g1, e_24_26]
      exact ⟨S, fI_rf S, fun _ => rfl, nofun⟩
    rw [if_pos (by omega), if_neg g1]
    by_cases g2 : bn ≤ s.1
    · rw [if_neg (by omega), if_pos g2, e_24_26]
      exact ⟨S, fI_rf S, fun _ => rfl, nofun⟩
    have hp := hb s.1 (by omega)
    rw [if_pos (by omega), if_neg g2, n32_in (by omega) (by omega), g_t, g_t, n32_cl (by omega), h.2.2.2.1 _ (by omega), b_hi hp, b_lo, i_eq (by omega) (by omega), i_lt (by omega) (by omega), i_lt (by omega) (by omega), n32_add, n32_add]
    have hS := iR_pl (iR_ct h (s.2.1 + 1)) (s.1 + 1)
    have fS : fI S (ab_wi (ab_wi S 5 6 (n32 (s.2.1 + 1))) 5 8 (n32 (s.1 + 1))) := fI_wi (fI_wi (fI_rf S) _ (Or.inr ⟨rfl, Or.inl rfl⟩)) _ (Or.inr ⟨rfl, Or.inr rfl⟩)
    revert hS fS
    generalize ab_wi (ab_wi S 5 6 (n32 (s.2.1 + 1))) 5 8 (n32 (s.1 + 1)) = S0
    intro hS fS
    by_cases g3 : b s.1 / 32 = 7 ∧ (b s.1 % 32 < 20 ∨ 22 < b s.1 % 32)
    · rw [if_pos g3.1, if_pos g3]
      by_cases g4 : b s.1 % 32 < 20
      · rw [if_pos g4, e_24_99]
        exact ⟨_, fS, fun _ => rfl, nofun⟩
      · rw [if_neg g4, if_pos (by omega), e_24_99]
        exact ⟨_, fS, fun _ => rfl, nofun⟩
    rw [if_neg g3]
    have e1 : (if b s.1 / 32 = 7 then (if b s.1 % 32 < 20 then v_24_99 q (d + 1) S0 else if 22 < b s.1 % 32 then v_24_99 q (d + 1) S0 else v_24_101 q (d + 1) (n32 (6 - f)) (n32 s.2.1) (n32 (b s.1 / 32)) (n32 (b s.1 % 32)) S0) else v_24_101 q (d + 1) (n32 (6 - f)) (n32 s.2.1) (n32 (b s.1 / 32)) (n32 (b s.1 % 32)) S0) = v_24_101 q (d + 1) (n32 (6 - f)) (n32 s.2.1) (n32 (b s.1 / 32)) (n32 (b s.1 % 32)) S0 := by
      by_cases g4 : b s.1 / 32 = 7
      · rw [if_pos g4, if_neg (by omega), if_neg (by omega)]
      · rw [if_neg g4]
    rw [e1, e_24_101, n32_in (by omega) (by omega), n32_cl (by omega)]
    obtain ⟨k1, k2⟩ := rn_v hS hbn hb (by show s.1 + 1 ≤ bn; omega) q d (by omega : b s.1 % 32 < 32)
    cases hc : num b bn (s.1 + 1) (b s.1 % 32) with
    | none =>
      rw [k1 hc, cL_0, g_t, g_t, g_t, g_t, if_pos (by rw [cmp_eq]), e_24_165, e_24_166, n32_in (by omega) (by omega), g_t, n32_cl (by omega)]
      exact ⟨_, fI_wi (fI_wi (fI_wi (fI_wl (fI_wi fS _ (Or.inl (by omega))) _ (by omega)) _ (Or.inl (by omega))) _ (Or.inl (by omega))) _ (Or.inl (by omega)), fun _ => rfl, nofun⟩
    | some x =>
      obtain ⟨S1, a1, a2, a3⟩ := k2 x hc
      have hx := num_ok hb (by omega : s.1 + 1 ≤ bn) hc
      rw [a1, cL_0, g_t, g_t, g_t, g_t, if_neg (by rw [cmp_eq, n64_m1, n64_eq (by omega) (by omega)]; omega), a3.1]
      have r1 := iR_w3 (iR_w2 (iR_w1 (iR_w0 a3 s.2.1 (b s.1 / 32)) s.2.1 x.1) s.2.1 (6 - f)) s.2.1 x.2
      have f1 : fI S (ab_wi (ab_wi (ab_wl (ab_wi S1 7 s.2.1 (n32 (b s.1 / 32))) 8 s.2.1 (n64 x.1)) 9 s.2.1 (n32 (6 - f))) 10 s.2.1 (n32 x.2)) := fI_wi (fI_wi (fI_wl (fI_wi (fI_tr fS a2) _ (Or.inl (by omega))) _ (by omega)) _ (Or.inl (by omega))) _ (Or.inl (by omega))
      obtain ⟨S2, b1, b2, b3⟩ := rr_v hbn (by omega) F hb hx.1 (by omega : b s.1 / 32 < 8) (by omega : 3 * f + 4 ≤ d) _ _ r1 hx.2.2 (by show s.2.1 + 1 ≤ 24; omega)
      show iO b bn S _ (match rest (itm b bn f) b bn (b s.1 / 32) x.1 (x.2, s.2.1 + 1, put4 s.2.2 s.2.1 (b s.1 / 32) x.1 (6 - f) x.2) with
        | none => none
        | some s' => some (s'.1, s'.2.1, uI s'.2.2 4 s.2.1 s'.2.1))
      cases hr : rest (itm b bn f) b bn (b s.1 / 32) x.1 (x.2, s.2.1 + 1, put4 s.2.2 s.2.1 (b s.1 / 32) x.1 (6 - f) x.2) with
      | none =>
        rw [b2 hr, cI_0, if_pos rfl, e_24_165, e_24_166, n32_in (by omega) (by omega), g_t, n32_cl (by omega)]
        exact ⟨_, fI_wi (fI_tr f1 b1) _ (Or.inl (by omega)), fun _ => rfl, nofun⟩
      | some s1 =>
        have c := b3 _ hr
        rw [c.1, cI_0, if_neg one_z, e_24_166, n32_in (by omega) (by omega), g_t, n32_cl (by omega), c.2.2.1]
        exact ⟨_, fI_wi (fI_tr f1 b1) _ (Or.inl (by omega)), nofun, fun s' e => ⟨rfl, by cases e; exact iR_w4 c.2 _ _⟩⟩
