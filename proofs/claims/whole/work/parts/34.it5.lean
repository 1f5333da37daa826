-- The reference reads items.
def rI (b : Nat → Nat) (bn : Nat) (S : ab_S) (s : ic) : Prop :=
  S.1 117 26 = n32 s.2.1 ∧ S.1 117 4 = n32 bn ∧ (∀ i, i < bn → S.1 119 i = n32 (b i)) ∧ ∀ k, k < 24 → S.2.1 138 k = n64 (s.2.2 1 k) ∧ S.1 137 k = n32 (s.2.2 0 k) ∧ S.1 139 k = n32 (s.2.2 2 k) ∧ S.1 141 k = n32 (s.2.2 3 k) ∧ S.1 140 k = n32 (s.2.2 4 k)
def fR (S S' : ab_S) : Prop := S'.2.2 = S.2.2 ∧ (∀ r j, (r < 117 ∨ (117 < r ∧ r < 137) ∨ 143 < r) → S'.1 r j = S.1 r j) ∧ (∀ j, j ≠ 26 → S'.1 117 j = S.1 117 j) ∧ ∀ r j, (r < 137 ∨ 143 < r) → S'.2.1 r j = S.2.1 r j
def stk (o : Nat) (S S' : ab_S) : Prop := ∀ i, i ≤ o → S'.2.1 142 i = S.2.1 142 i ∧ S'.1 143 i = S.1 143 i
theorem fR_rf (S : ab_S) : fR S S := ⟨rfl, fun _ _ _ => rfl, fun _ _ => rfl, fun _ _ _ => rfl⟩
theorem fR_tr {S S1 S2 : ab_S} (h : fR S S1) (g : fR S1 S2) : fR S S2 := ⟨g.1.trans h.1, fun r j x => (g.2.1 r j x).trans (h.2.1 r j x), fun j x => (g.2.2.1 j x).trans (h.2.2.1 j x), fun r j x => (g.2.2.2 r j x).trans (h.2.2.2 r j x)⟩
theorem fR_wi {S S' : ab_S} (g : fR S S') {r k : Nat} (v : Int32) (h : (137 ≤ r ∧ r ≤ 143) ∨ (r = 117 ∧ k = 26)) : fR S (ab_wi S' r k v) := fR_tr g ⟨rfl, fun r' j x => by rw [wi_rd, if_neg (by omega)], fun j x => by rw [wi_rd, if_neg (by omega)], fun _ _ _ => rfl⟩
theorem fR_wl {S S' : ab_S} (g : fR S S') {r k : Nat} (v : Int64) (h : 137 ≤ r ∧ r ≤ 143) : fR S (ab_wl S' r k v) := fR_tr g ⟨rfl, fun _ _ _ => rfl, fun _ _ => rfl, fun r' j x => by rw [wl_rd, if_neg (by omega)]⟩
theorem stk_rf (o : Nat) (S : ab_S) : stk o S S := fun _ _ => ⟨rfl, rfl⟩
theorem stk_tr {o o' : Nat} {S S1 S2 : ab_S} (h : stk o S S1) (g : stk o' S1 S2) (l : o ≤ o') : stk o S S2 := fun i hi => ⟨((g i (by omega)).1).trans (h i hi).1, ((g i (by omega)).2).trans (h i hi).2⟩
theorem stk_wi {o : Nat} {S S' : ab_S} (g : stk o S S') {r k : Nat} (v : Int32) (h : r ≠ 143 ∨ o < k) : stk o S (ab_wi S' r k v) := fun i hi => ⟨(g i hi).1, by rw [wi_rd, if_neg (by omega)]; exact (g i hi).2⟩
theorem stk_wl {o : Nat} {S S' : ab_S} (g : stk o S S') {r k : Nat} (v : Int64) (h : r ≠ 142 ∨ o < k) : stk o S (ab_wl S' r k v) := fun i hi => ⟨by rw [wl_rd, if_neg (by omega)]; exact (g i hi).1, (g i hi).2⟩
theorem rI_o {b : Nat → Nat} {bn : Nat} {S : ab_S} {s : ic} (h : rI b bn S s) {r j : Nat} (v : Int32) (hr : r = 143) : rI b bn (ab_wi S r j v) s := by
  subst hr
  refine ⟨h.1, h.2.1, h.2.2.1, h.2.2.2⟩
theorem rI_l {b : Nat → Nat} {bn : Nat} {S : ab_S} {s : ic} (h : rI b bn S s) {r j : Nat} (v : Int64) (hr : r = 142) : rI b bn (ab_wl S r j v) s := by
  subst hr
  refine ⟨h.1, h.2.1, h.2.2.1, h.2.2.2⟩
theorem rI_ct {b : Nat → Nat} {bn : Nat} {S : ab_S} {s : ic} (h : rI b bn S s) (c : Nat) : rI b bn (ab_wi S 117 26 (n32 c)) (s.1, c, s.2.2) := ⟨rfl, h.2.1, h.2.2.1, h.2.2.2⟩
theorem rI_w1 {b : Nat → Nat} {bn : Nat} {S : ab_S} {s : ic} (h : rI b bn S s) (c v : Nat) : rI b bn (ab_wl S 138 c (n64 v)) (s.1, s.2.1, uI s.2.2 1 c v) :=
  ⟨h.1, h.2.1, h.2.2.1, fun k hk => by
    have g := h.2.2.2 k hk
    refine ⟨?_, g.2⟩
    show _ = n64 (uI s.2.2 1 c v 1 k)
    rw [wl_rd, uI_s]
    by_cases e : k = c
    · rw [if_pos ⟨rfl, e⟩, if_pos e]
    · rw [if_neg (fun x => e x.2), if_neg e]; exact g.1⟩
theorem rI_w0 {b : Nat → Nat} {bn : Nat} {S : ab_S} {s : ic} (h : rI b bn S s) (c v : Nat) : rI b bn (ab_wi S 137 c (n32 v)) (s.1, s.2.1, uI s.2.2 0 c v) :=
  ⟨h.1, h.2.1, h.2.2.1, fun k hk => by
    have g := h.2.2.2 k hk
    refine ⟨g.1, ?_, ?_, ?_, ?_⟩
    · show _ = n32 (uI s.2.2 0 c v 0 k)
      rw [wi_rd, uI_s]
      by_cases e : k = c
      · rw [if_pos ⟨rfl, e⟩, if_pos e]
      · rw [if_neg (fun x => e x.2), if_neg e]; exact g.2.1
    · rw [wi_rd, if_neg (by omega)]; exact g.2.2.1
    · rw [wi_rd, if_neg (by omega)]; exact g.2.2.2.1
    · rw [wi_rd, if_neg (by omega)]; exact g.2.2.2.2⟩
theorem rI_w2 {b : Nat → Nat} {bn : Nat} {S : ab_S} {s : ic} (h : rI b bn S s) (c v : Nat) : rI b bn (ab_wi S 139 c (n32 v)) (s.1, s.2.1, uI s.2.2 2 c v) :=
  ⟨h.1, h.2.1, h.2.2.1, fun k hk => by
    have g := h.2.2.2 k hk
    refine ⟨g.1, ?_, ?_, ?_, ?_⟩
    · rw [wi_rd, if_neg (by omega)]; exact g.2.1
    · show _ = n32 (uI s.2.2 2 c v 2 k)
      rw [wi_rd, uI_s]
      by_cases e : k = c
      · rw [if_pos ⟨rfl, e⟩, if_pos e]
      · rw [if_neg (fun x => e x.2), if_neg e]; exact g.2.2.1
    · rw [wi_rd, if_neg (by omega)]; exact g.2.2.2.1
    · rw [wi_rd, if_neg (by omega)]; exact g.2.2.2.2⟩
theorem rI_w3 {b : Nat → Nat} {bn : Nat} {S : ab_S} {s : ic} (h : rI b bn S s) (c v : Nat) : rI b bn (ab_wi S 141 c (n32 v)) (s.1, s.2.1, uI s.2.2 3 c v) :=
  ⟨h.1, h.2.1, h.2.2.1, fun k hk => by
    have g := h.2.2.2 k hk
    refine ⟨g.1, ?_, ?_, ?_, ?_⟩
    · rw [wi_rd, if_neg (by omega)]; exact g.2.1
    · rw [wi_rd, if_neg (by omega)]; exact g.2.2.1
    · show _ = n32 (uI s.2.2 3 c v 3 k)
      rw [wi_rd, uI_s]
      by_cases e : k = c
      · rw [if_pos ⟨rfl, e⟩, if_pos e]
      · rw [if_neg (fun x => e x.2), if_neg e]; exact g.2.2.2.1
    · rw [wi_rd, if_neg (by omega)]; exact g.2.2.2.2⟩
theorem rI_w4 {b : Nat → Nat} {bn : Nat} {S : ab_S} {s : ic} (h : rI b bn S s) (c v : Nat) : rI b bn (ab_wi S 140 c (n32 v)) (s.1, s.2.1, uI s.2.2 4 c v) :=
  ⟨h.1, h.2.1, h.2.2.1, fun k hk => by
    have g := h.2.2.2 k hk
    refine ⟨g.1, ?_, ?_, ?_, ?_⟩
    · rw [wi_rd, if_neg (by omega)]; exact g.2.1
    · rw [wi_rd, if_neg (by omega)]; exact g.2.2.1
    · rw [wi_rd, if_neg (by omega)]; exact g.2.2.2.1
    · show _ = n32 (uI s.2.2 4 c v 4 k)
      rw [wi_rd, uI_s]
      by_cases e : k = c
      · rw [if_pos ⟨rfl, e⟩, if_pos e]
      · rw [if_neg (fun x => e x.2), if_neg e]; exact g.2.2.2.2⟩
theorem wd_v (q d : Nat) {x : Nat} (hx : x < 32) (S : ab_S) : v_101_0 q d (n32 x) S = some ((0, n32 (if x < 24 then 0 else if 26 < x then 4294967295 else 2 ^ (x - 24)), 0, 0), S) := by
  rw [e_101_0, i_lt (by omega) (by omega), i_eq (by omega) (by omega), i_eq (by omega) (by omega), i_eq (by omega) (by omega)]
  by_cases h : x < 24
  · rw [if_pos h, if_pos h, e_101_41]
  rw [if_neg h, if_neg h]
  by_cases h1 : x = 24
  · subst h1
    rw [if_pos rfl, e_101_41]
    rfl
  rw [if_neg h1]
  by_cases h2 : x = 25
  · subst h2
    rw [if_pos rfl, e_101_41]
    rfl
  rw [if_neg h2]
  by_cases h3 : x = 26
  · subst h3
    rw [if_pos rfl, e_101_41]
    rfl
  rw [if_neg h3, if_pos (by omega : 26 < x), e_101_41, n32_m1]
theorem rx_lp {b : Nat → Nat} {bn : Nat} {S : ab_S} {s : ic} (h : rI b bn S s) (hbn : bn ≤ 40) (hb : ∀ i, i < bn → b i < 256) (q d : Nat) (u2 u3 u4 : Int32) {p z : Nat} (hz : p + z ≤ bn) : ∀ m i, i + m = z → v_102_126 q (d + 1) (n32 p) u2 u3 u4 (n32 z) (n64 (be b p i)) (n32 i) S = v_102_126 q (d + 1) (n32 p) u2 u3 u4 (n32 z) (n64 (be b p z)) (n32 z) S
  | 0, i, e => by
    have e : i = z := by omega
    rw [e]
  | m + 1, i, e => by
    have h5 := hb (p + i) (by omega)
    rw [e_102_126, if_pos (by rw [n32_lt (by omega) (by omega)]; omega), n32_add, n32_in (by omega) (by omega), g_t, n32_cl (by omega), h.2.2.1 _ (by omega), n32_i2l (by omega), n64_mul, n64_add, n32_add, Nat.mul_comm]
    exact rx_lp h hbn hb q d u2 u3 u4 hz m (i + 1) (by omega)
theorem neg_0 : n32 4294967295 < n32 0 := by decide
theorem rx_1 {b : Nat → Nat} {bn : Nat} {S : ab_S} {s : ic} (h : rI b bn S s) (hbn : bn ≤ 40) (hb : ∀ i, i < bn → b i < 256) (q d : Nat) {o : Nat} (ho : o ≤ 5) (h1 : s.2.1 < 24) (h2 : s.1 < bn) (h3 : ¬ (b s.1 / 32 = 7 ∧ (b s.1 % 32 < 20 ∨ 22 < b s.1 % 32))) :
    (num b bn (s.1 + 1) (b s.1 % 32) = none → v_102_11 q (d + 1) (n32 s.1) (n32 o) (n32 0) S = some ((0, n32 0, 0, 0), S)) ∧
    ∀ x, num b bn (s.1 + 1) (b s.1 % 32) = some x → ∃ z, x.2 = s.1 + 1 + z ∧ z ≤ 4 ∧ v_102_11 q (d + 1) (n32 s.1) (n32 o) (n32 0) S = v_102_126 q (d + 1) (n32 (s.1 + 1)) (n32 o) (n32 0) (n32 (b s.1 / 32)) (n32 z) (n64 x.1) (n32 z) S := by
  have hp := hb s.1 h2
  have e0 : v_102_11 q (d + 1) (n32 s.1) (n32 o) (n32 0) S = (cI (v_101_0 q d (n32 (b s.1 % 32)) S) fun y1 S1 => (if y1 < (n32 0) then (v_102_107 q (d + 1) S1) else (if (S1.1 117 4) < (n32 (s.1 + 1) + y1) then (v_102_107 q (d + 1) S1) else v_102_109 q (d + 1) (n32 (s.1 + 1)) (n32 o) (n32 0) (n32 (b s.1 / 32)) (n32 (b s.1 % 32)) y1 S1))) := by
    rw [e_102_11, if_pos rfl, h.2.1, i_lt (by omega) (by omega), if_pos h2, i_lt (by omega) (by omega), if_neg (by omega), h.1, i_eq (by omega) (by omega), if_neg (by omega), n32_in (by omega) (by omega), g_t, g_t, n32_cl (by omega), h.2.2.1 _ h2, b_hi hp, b_lo, n32_add]
    congr 1
    funext y1 S1
    rw [i_eq (by omega) (by omega), i_lt (by omega) (by omega), i_lt (by omega) (by omega)]
    by_cases g4 : b s.1 / 32 = 7
    · rw [if_pos g4, if_neg (by omega : ¬ b s.1 % 32 < 20), if_neg (by omega : ¬ 22 < b s.1 % 32)]
    · rw [if_neg g4]
  rw [e0, wd_v q d (by omega), cI_0]
  unfold num
  by_cases c1 : b s.1 % 32 < 24
  · rw [if_pos c1, if_pos c1, if_neg (by rw [n32_lt (by omega) (by omega)]; omega), h.2.1, n32_add, if_neg (by rw [n32_lt (by omega) (by omega)]; omega), e_102_109, if_pos rfl, e_102_121, n32_i2l (by omega)]
    refine ⟨nofun, fun x hx => ?_⟩
    cases hx
    exact ⟨0, rfl, by omega, rfl⟩
  rw [if_neg c1, if_neg c1]
  by_cases c2 : 26 < b s.1 % 32
  · rw [if_pos c2, if_pos c2, if_pos neg_0, e_102_107]
    exact ⟨fun _ => rfl, nofun⟩
  rw [if_neg c2, if_neg c2]
  have hz : 2 ^ (b s.1 % 32 - 24) ≤ 4 := Nat.le_trans (Nat.pow_le_pow_right (by decide) (by omega : b s.1 % 32 - 24 ≤ 2)) (by decide)
  have hz1 : 0 < 2 ^ (b s.1 % 32 - 24) := Nat.two_pow_pos _
  rw [if_neg (show ¬ n32 (2 ^ (b s.1 % 32 - 24)) < n32 0 by rw [n32_lt (by omega) (by omega)]; omega), h.2.1, n32_add, i_lt (by omega) (by omega)]
  by_cases c3 : bn < s.1 + 1 + 2 ^ (b s.1 % 32 - 24)
  · rw [if_pos c3, if_pos c3, e_102_107]
    exact ⟨fun _ => rfl, nofun⟩
  · rw [if_neg c3, if_neg c3, e_102_109, i_eq (by omega) (by omega), if_neg (by omega), e_102_121]
    refine ⟨nofun, fun x hx => ?_⟩
    cases hx
    exact ⟨_, rfl, hz, rx_lp h hbn hb q d _ _ _ (by omega) _ 0 (Nat.zero_add _)⟩
theorem tx_lp {b : Nat → Nat} {bn : Nat} {S : ab_S} {s : ic} (h : rI b bn S s) (hbn : bn ≤ 40) (hb : ∀ i, i < bn → b i < 256) (q d : Nat) {p n : Nat} (hn : p + n ≤ bn) : ∀ m i (fl : Bool), i + m = n → v_103_5 q d (n32 p) (n32 n) (n32 fl.toNat) (n32 (p + i)) S = some ((0, n32 (fl && prs b (p + i) m).toNat, 0, 0), S)
  | 0, i, fl, e => by
    rw [e_103_5, n32_add, if_neg (by rw [n32_lt (by omega) (by omega)]; omega), bo_nz]
    unfold prs
    rw [Bool.and_true]
  | m + 1, i, fl, e => by
    have h5 := hb (p + i) (by omega)
    have hh := tx_lp h hbn hb q d hn m (i + 1)
    rw [e_103_5, n32_add, if_pos (by rw [n32_lt (by omega) (by omega)]; omega), i_bz, n32_in (by omega) (by omega), n32_cl (by omega), h.2.2.1 _ (by omega), g_t, g_t, i_lt (by omega) (by omega), i_lt (by omega) (by omega)]
    have hf : v_103_45 q d (n32 p) (n32 n) (n32 (p + i)) S = some ((0, n32 0, 0, 0), S) := by
      rw [e_103_45, e_103_46, n32_add]
      exact (hh false (by omega)).trans rfl
    unfold prs pr
    cases fl with
    | false => exact hf
    | true =>
      rw [if_pos rfl]
      by_cases g1 : b (p + i) < 32
      · rw [if_pos g1, hf, decide_eq_false (by omega : ¬ 32 ≤ b (p + i))]
        rfl
      · rw [if_neg g1, decide_eq_true (by omega : 32 ≤ b (p + i))]
        by_cases g2 : 126 < b (p + i)
        · rw [if_pos g2, hf, decide_eq_false (by omega : ¬ b (p + i) ≤ 126)]
          rfl
        · rw [if_neg g2, decide_eq_true (by omega : b (p + i) ≤ 126), e_103_46, n32_add]
          exact hh true (by omega)
/-- an item is read to its end at this place in o open ones -/
noncomputable def CL (q d o p : Nat) (S : ab_S) : ab_R := cI (v_104_12 q d (n32 o) (n32 (decide (0 < o)).toNat) S) fun y1 S1 => (if y1 = (n32 0) then (v_102_360 q (d + 1) (n32 p) y1 (n32 1) S1) else (v_102_360 q (d + 1) (n32 p) y1 (n32 0) S1))
theorem cl_0 (q d : Nat) {o : Nat} (h : o < 8) (S : ab_S) : v_104_0 q d (n32 o) S = v_104_12 q d (n32 o) (n32 (decide (0 < o)).toNat) S := by
  rw [e_104_0, i_lt (by omega) (by omega)]
  by_cases g : 0 < o
  · rw [if_pos g, e_104_11, decide_eq_true g]
    rfl
  · rw [if_neg g, e_104_11, decide_eq_false g]
    rfl
def rO (b : Nat → Nat) (bn q d o : Nat) (S : ab_S) (x : ab_R) (r : Option ic) : Prop :=
  (r = none → ∃ S', fR S S' ∧ x = some ((0, n32 0, 0, 0), S')) ∧ ∀ s', r = some s' → ∃ S', fR S S' ∧ stk o S S' ∧ rI b bn S' s' ∧ x = CL q d o s'.1 S'
theorem rO_tr {b : Nat → Nat} {bn q d o o' : Nat} {S S1 : ab_S} {x : ab_R} {r : Option ic} (h : fR S S1) (g : stk o S S1) (l : o ≤ o') (k : rO b bn q d o S1 x r) : rO b bn q d o S x r :=
  ⟨fun e => by obtain ⟨S', a, b⟩ := k.1 e; exact ⟨S', fR_tr h a, b⟩, fun s' e => by obtain ⟨S', a, c, f⟩ := k.2 s' e; exact ⟨S', fR_tr h a, stk_tr g c (Nat.le_refl _), f⟩⟩
theorem ry_m {b : Nat → Nat} {bn : Nat} {q d : Nat} {f : Nat} (hf : f ≤ 5) (F : ∀ S s, rI b bn S s → s.1 ≤ bn → s.2.1 ≤ 24 → rO b bn q d (6 - f) S (v_102_11 q (d + 1) (n32 s.1) (n32 (6 - f)) (n32 0) S) (itm b bn f s)) (hb : ∀ i, i < bn → b i < 256) {c : Nat} (hc : c < 24) : ∀ m S s, rI b bn S s → s.1 ≤ bn → s.2.1 ≤ 24 → m + 1 < 9223372036854775808 → S.2.1 142 (6 - f) = n64 (m + 1) → S.1 143 (6 - f) = n32 c → rO b bn q d (5 - f) S (v_102_11 q (d + 1) (n32 s.1) (n32 (6 - f)) (n32 0) S) (match many (itm b bn f) (m + 1) s with | none => none | some s' => some (s'.1, s'.2.1, uI s'.2.2 4 c s'.2.1))
  | m, S, s, h, h1, h2, hm, hl, hh => by
    have k := F S s h h1 h2
    unfold many
    cases hc1 : itm b bn f s with
    | none => exact ⟨fun _ => k.1 hc1, nofun⟩
    | some s1 =>
      have i1 := itm_inc hb f s s1 h1 h2 hc1
      obtain ⟨S1, a1, a2, a3, a4⟩ := k.2 s1 hc1
      have l1 := a2 (6 - f) (Nat.le_refl _)
      rw [a4]
      unfold CL
      rw [decide_eq_true (by omega : 0 < 6 - f), show n32 (true).toNat = n32 1 from rfl, e_104_12, if_neg one_z, n32_in (by omega) (by omega), g_t, g_t, g_t, n32_cl (by omega), l1.1, hl]
      rw [show (n64 (m + 1) - n64 1) = n64 m by rw [n64_sub (by omega)]; rfl]
      have l2 : ((ab_wl S1 142 (6 - f) (n64 m)).2.1 142 (6 - f)) = n64 m := by rw [wl_rd, if_pos ⟨rfl, rfl⟩]
      rw [l2, i_ceq, show (n64 0) = n64 0 from rfl, i_leq (by omega) (by omega)]
      have f2 : fR S (ab_wl S1 142 (6 - f) (n64 m)) := fR_wl a1 _ (by omega)
      have s2 : stk (5 - f) S (ab_wl S1 142 (6 - f) (n64 m)) := stk_wl (fun i hi => a2 i (by omega)) _ (by omega)
      have r2 : rI b bn (ab_wl S1 142 (6 - f) (n64 m)) s1 := rI_l a3 _ rfl
      have l3 : (ab_wl S1 142 (6 - f) (n64 m)).1 143 (6 - f) = n32 c := l1.2.trans hh
      revert f2 s2 r2 l2 l3
      generalize ab_wl S1 142 (6 - f) (n64 m) = S2
      intro l2 f2 s2 r2 l3
      cases m with
      | zero =>
        rw [if_pos rfl, e_104_42, if_neg one_z, n32_in (by omega) (by omega), g_t, n32_cl (by omega), l3, n32_in (by omega) (by omega), g_t, n32_cl (by omega), r2.1, show n32 (6 - f) = n32 (5 - f + 1) by rw [show 6 - f = 5 - f + 1 by omega], n32_dec, i_lt (by omega) (by omega)]
        have e5 : (if 0 < 5 - f then v_104_74 q d (n32 (5 - f)) (n32 1) (ab_wi S2 140 c (n32 s1.2.1)) else v_104_74 q d (n32 (5 - f)) (n32 0) (ab_wi S2 140 c (n32 s1.2.1))) = v_104_12 q d (n32 (5 - f)) (n32 (decide (0 < 5 - f)).toNat) (ab_wi S2 140 c (n32 s1.2.1)) := by
          by_cases g : 0 < 5 - f
          · rw [if_pos g, e_104_74, decide_eq_true g]
            rfl
          · rw [if_neg g, e_104_74, decide_eq_false g]
            rfl
        rw [e5]
        refine ⟨nofun, fun s' e => ?_⟩
        cases e
        exact ⟨ab_wi S2 140 c (n32 s1.2.1), fR_wi f2 _ (Or.inl (by omega)), stk_wi s2 _ (Or.inl (by omega)), rI_w4 r2 c s1.2.1, rfl⟩
      | succ m =>
        rw [if_neg (by omega), e_104_42, if_pos rfl, e_104_12, if_pos rfl, cI_0, i_eq (by omega) (by omega), if_neg (by omega), e_102_360, e_102_361]
        exact rO_tr f2 s2 (Nat.le_refl _) (ry_m hf F hb hc m S2 s1 r2 i1.2.1 i1.2.2.2 (by omega) l2 l3)
theorem ry_v {b : Nat → Nat} {bn : Nat} (hbn : bn ≤ 40) (hb : ∀ i, i < bn → b i < 256) (q d : Nat) : ∀ f, f ≤ 6 → ∀ S s, rI b bn S s → s.1 ≤ bn → s.2.1 ≤ 24 → rO b bn q d (6 - f) S (v_102_11 q (d + 1) (n32 s.1) (n32 (6 - f)) (n32 0) S) (itm b bn f s)
  | 0, _, S, s, h, h1, h2 => by
    refine ⟨fun _ => ⟨S, fR_rf S, ?_⟩, nofun⟩
    rw [e_102_11, if_pos rfl, h.2.1, i_lt (by omega) (by omega)]
    by_cases g : s.1 < bn
    · rw [if_pos g, if_pos (by decide), e_102_37]
    · rw [if_neg g, e_102_37]
  | f + 1, hf, S, s, h, h1, h2 => by
    have F := ry_v hbn hb q d f (by omega)
    have no (x : ab_R) (e : x = some ((0, n32 0, 0, 0), S)) : rO b bn q d (6 - (f + 1)) S x none := ⟨fun _ => ⟨S, fR_rf S, e⟩, nofun⟩
    unfold itm
    by_cases g2 : bn ≤ s.1
    · have e : v_102_11 q (d + 1) (n32 s.1) (n32 (6 - (f + 1))) (n32 0) S = some ((0, n32 0, 0, 0), S) := by
        rw [e_102_11, if_pos rfl, h.2.1, i_lt (by omega) (by omega), if_neg (by omega), e_102_37]
      by_cases g1 : 24 ≤ s.2.1
      · rw [if_pos g1]
        exact no _ e
      · rw [if_neg g1, if_pos g2]
        exact no _ e
    by_cases g1 : 24 ≤ s.2.1
    · rw [if_pos g1]
      apply no
      rw [e_102_11, if_pos rfl, h.2.1, i_lt (by omega) (by omega), if_pos (by omega), i_lt (by omega) (by omega), if_neg (by omega), h.1, i_eq (by omega) (by omega), if_pos (by omega), e_102_37]
    rw [if_neg g1, if_neg g2]
    have hp := hb s.1 (by omega)
    by_cases g3 : b s.1 / 32 = 7 ∧ (b s.1 % 32 < 20 ∨ 22 < b s.1 % 32)
    · rw [if_pos g3]
      apply no
      rw [e_102_11, if_pos rfl, h.2.1, i_lt (by omega) (by omega), if_pos (by omega), i_lt (by omega) (by omega), if_neg (by omega), h.1, i_eq (by omega) (by omega), if_neg (by omega), n32_in (by omega) (by omega), g_t, g_t, n32_cl (by omega), h.2.2.1 _ (by omega), b_hi hp, b_lo, wd_v q d (by omega), cI_0, e_102_107]
      generalize n32 (if b s.1 % 32 < 24 then 0 else if 26 < b s.1 % 32 then 4294967295 else 2 ^ (b s.1 % 32 - 24)) = wd
      rw [i_eq (by omega) (by omega), if_pos g3.1, i_lt (by omega) (by omega), i_lt (by omega) (by omega)]
      have : (if b s.1 % 32 < 20 then some ((0, n32 0, 0, 0), S) else if 22 < b s.1 % 32 then some ((0, n32 0, 0, 0), S) else v_102_109 q (d + 1) (n32 s.1 + n32 1) (n32 (6 - (f + 1))) (n32 0) (n32 (b s.1 / 32)) (n32 (b s.1 % 32)) wd S) = some ((0, n32 0, 0, 0), S) := by
        by_cases g4 : b s.1 % 32 < 20
        · rw [if_pos g4]
        · rw [if_neg g4, if_pos (by omega : 22 < b s.1 % 32)]
      rw [this, ite_self, ite_self]
    rw [if_neg g3]
    obtain ⟨k1, k2⟩ := rx_1 h hbn hb q d (by omega : 6 - (f + 1) ≤ 5) (by omega) (by omega) g3
    cases hc : num b bn (s.1 + 1) (b s.1 % 32) with
    | none => exact no _ (k1 hc)
    | some x =>
      obtain ⟨z, z1, z2, z3⟩ := k2 x hc
      have hx := num_ok hb (by omega : s.1 + 1 ≤ bn) hc
      have hcc : s.2.1 < 24 := by omega
      show rO b bn q d (6 - (f + 1)) S _ (match rest (itm b bn f) b bn (b s.1 / 32) x.1 (x.2, s.2.1 + 1, put4 s.2.2 s.2.1 (b s.1 / 32) x.1 (6 - f) x.2) with | none => none | some s' => some (s'.1, s'.2.1, uI s'.2.2 4 s.2.1 s'.2.1))
      rw [z3, e_102_126, if_neg (by rw [n32_lt (by omega) (by omega)]; omega), h.1, n32_in (by omega) (by omega), g_t, g_t, g_t, g_t, n32_cl (by omega), n32_add, n32_add, n32_add, ← z1, i_eq (by omega) (by omega), i_eq (by omega) (by omega), show 6 - (f + 1) + 1 = 6 - f by omega]
      have r2 : rI b bn (ab_wi (ab_wi (ab_wl (ab_wi (ab_wi S 117 26 (n32 (s.2.1 + 1))) 137 s.2.1 (n32 (b s.1 / 32))) 138 s.2.1 (n64 x.1)) 139 s.2.1 (n32 (6 - f))) 141 s.2.1 (n32 x.2)) (x.2, s.2.1 + 1, put4 s.2.2 s.2.1 (b s.1 / 32) x.1 (6 - f) x.2) := rI_w3 (rI_w2 (rI_w1 (rI_w0 (rI_ct h (s.2.1 + 1)) s.2.1 (b s.1 / 32)) s.2.1 x.1) s.2.1 (6 - f)) s.2.1 x.2
      have f2 : fR S (ab_wi (ab_wi (ab_wl (ab_wi (ab_wi S 117 26 (n32 (s.2.1 + 1))) 137 s.2.1 (n32 (b s.1 / 32))) 138 s.2.1 (n64 x.1)) 139 s.2.1 (n32 (6 - f))) 141 s.2.1 (n32 x.2)) := fR_wi (fR_wi (fR_wl (fR_wi (fR_wi (fR_rf S) _ (Or.inr ⟨rfl, rfl⟩)) _ (Or.inl (by omega))) _ (by omega)) _ (Or.inl (by omega))) _ (Or.inl (by omega))
      have s2 : stk (6 - (f + 1)) S (ab_wi (ab_wi (ab_wl (ab_wi (ab_wi S 117 26 (n32 (s.2.1 + 1))) 137 s.2.1 (n32 (b s.1 / 32))) 138 s.2.1 (n64 x.1)) 139 s.2.1 (n32 (6 - f))) 141 s.2.1 (n32 x.2)) := stk_wi (stk_wi (stk_wl (stk_wi (stk_wi (stk_rf _ S) _ (Or.inl (by omega))) _ (Or.inl (by omega))) _ (Or.inl (by omega))) _ (Or.inl (by omega))) _ (Or.inl (by omega))
      revert r2 f2 s2
      generalize ab_wi (ab_wi (ab_wl (ab_wi (ab_wi S 117 26 (n32 (s.2.1 + 1))) 137 s.2.1 (n32 (b s.1 / 32))) 138 s.2.1 (n64 x.1)) 139 s.2.1 (n32 (6 - f))) 141 s.2.1 (n32 x.2) = S2
      generalize put4 s.2.2 s.2.1 (b s.1 / 32) x.1 (6 - f) x.2 = I2
      intro r2 f2 s2
      -- nothing inside: its end, and on
      have en (p : Nat) : rO b bn q d (6 - (f + 1)) S (v_102_303 q (d + 1) (n32 p) (n32 (6 - (f + 1))) (n32 0) (n32 s.2.1) (n64 0) S2) (some (p, s.2.1 + 1, uI I2 4 s.2.1 (s.2.1 + 1))) := by
        rw [e_102_303, i_cgt, i_llt (by omega) (by omega), if_neg (by omega), n32_in (by omega) (by omega), g_t, n32_cl (by omega), r2.1, cl_0 q d (by omega)]
        refine ⟨nofun, fun s' e => ?_⟩
        cases e
        have := rI_w4 r2 s.2.1 (s.2.1 + 1)
        exact ⟨ab_wi S2 140 s.2.1 (n32 (s.2.1 + 1)), fR_wi f2 _ (Or.inl (by omega)), stk_wi s2 _ (Or.inl (by omega)), ⟨this.1, this.2.1, this.2.2.1, this.2.2.2⟩, rfl⟩
      have op (m : Nat) (hm : m < 9223372036854775808) : rO b bn q d (6 - (f + 1)) S (v_102_303 q (d + 1) (n32 x.2) (n32 (6 - (f + 1))) (n32 0) (n32 s.2.1) (n64 m) S2) (match many (itm b bn f) m (x.2, s.2.1 + 1, I2) with | none => none | some s' => some (s'.1, s'.2.1, uI s'.2.2 4 s.2.1 s'.2.1)) := by
        cases m with
        | zero => exact en x.2
        | succ m =>
          rw [e_102_303, i_cgt, i_llt (by omega) (by omega), if_pos (by omega), n32_add, show 6 - (f + 1) + 1 = 6 - f by omega, n32_in (by omega) (by omega), g_t, g_t, n32_cl (by omega), e_102_361]
          have f3 : fR S (ab_wi (ab_wl S2 142 (6 - f) (n64 (m + 1))) 143 (6 - f) (n32 s.2.1)) := fR_wi (fR_wl f2 _ (by omega)) _ (Or.inl (by omega))
          have s3 : stk (6 - (f + 1)) S (ab_wi (ab_wl S2 142 (6 - f) (n64 (m + 1))) 143 (6 - f) (n32 s.2.1)) := stk_wi (stk_wl s2 _ (Or.inr (by omega))) _ (Or.inr (by omega))
          have t := ry_m (by omega) F hb hcc m (ab_wi (ab_wl S2 142 (6 - f) (n64 (m + 1))) 143 (6 - f) (n32 s.2.1)) (x.2, s.2.1 + 1, I2) (rI_o (rI_l r2 _ rfl) _ rfl) hx.2.2 (by show s.2.1 + 1 ≤ 24; omega) hm (by show (ab_wl S2 142 (6 - f) (n64 (m + 1))).2.1 142 (6 - f) = _; rw [wl_rd, if_pos ⟨rfl, rfl⟩]) (by rw [wi_rd, if_pos ⟨rfl, rfl⟩])
          rw [show 5 - f = 6 - (f + 1) by omega] at t
          exact rO_tr f3 s3 (Nat.le_refl _) t
      have no2 (S' : ab_S) (e : S' = S2) : rO b bn q d (6 - (f + 1)) S (some ((0, n32 0, 0, 0), S')) none := ⟨fun _ => ⟨S2, f2, by rw [e]⟩, nofun⟩
      show rO b bn q d (6 - (f + 1)) S _ (match rest (itm b bn f) b bn (b s.1 / 32) x.1 (x.2, s.2.1 + 1, I2) with | none => none | some s' => some (s'.1, s'.2.1, uI s'.2.2 4 s.2.1 s'.2.1))
      unfold rest
      by_cases c2 : b s.1 / 32 = 2
      · rw [if_pos c2, if_pos c2, e_102_227, r2.2.1, n32_sub hx.2.2, i_cgt, n32_i2l (by omega), i_llt (by omega) (by omega)]
        by_cases g : bn < x.2 + x.1
        · rw [if_pos (by omega), if_pos g, e_102_257]
          exact no2 _ rfl
        · rw [if_neg (by omega), if_neg g, c2, i_eq (by omega) (by omega), if_neg (by omega), e_102_259, e_102_265, n64_l2i, n32_add, i_eq (by omega) (by omega), i_eq (by omega) (by omega), i_eq (by omega) (by omega), if_neg (by omega), if_neg (by omega), if_neg (by omega)]
          exact en _
      rw [if_neg c2, if_neg c2]
      by_cases c3 : b s.1 / 32 = 3
      · rw [if_pos c3, if_pos c3, e_102_227, r2.2.1, n32_sub hx.2.2, i_cgt, n32_i2l (by omega), i_llt (by omega) (by omega)]
        by_cases g : bn < x.2 + x.1
        · rw [if_pos (by omega), if_pos g, e_102_257]
          exact no2 _ rfl
        · have tx := tx_lp r2 hbn hb q d (by omega : x.2 + x.1 ≤ bn) x.1 0 true (Nat.zero_add _)
          rw [Nat.add_zero, Bool.true_and] at tx
          rw [if_neg (by omega), if_neg g, c3, if_pos rfl, n64_l2i, e_103_0, show n32 1 = n32 (true).toNat from rfl, tx, cI_0, i_bz]
          by_cases k : prs b x.2 x.1 = true
          · rw [if_pos k, if_pos k, e_102_259, e_102_265, n64_l2i, n32_add, i_eq (by omega) (by omega), i_eq (by omega) (by omega), i_eq (by omega) (by omega), if_neg (by omega), if_neg (by omega), if_neg (by omega)]
            exact en _
          · rw [if_neg k, if_neg k, e_102_257]
            exact no2 _ rfl
      rw [if_neg c3, if_neg c3, e_102_265, i_eq (by omega) (by omega), i_eq (by omega) (by omega), i_eq (by omega) (by omega)]
      by_cases c4 : b s.1 / 32 = 4
      · rw [if_pos c4, if_pos c4]
        exact op _ (by omega)
      rw [if_neg c4, if_neg c4]
      by_cases c5 : b s.1 / 32 = 5
      · rw [if_pos c5, if_pos c5, n64_mul]
        exact op _ (by omega)
      rw [if_neg c5, if_neg c5]
      by_cases c6 : b s.1 / 32 = 6
      · rw [if_pos c6, if_pos c6]
        exact op _ (by omega)
      rw [if_neg c6, if_neg c6]
      exact en _
