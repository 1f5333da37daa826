-- type, feed and wipe, of the class and of the reference.
theorem wi_same (S : ab_S) (o k : Nat) : ab_wi S o k (S.1 o k) = S := by
  show (ab_up S.1 o k (S.1 o k), S.2) = S
  have : ab_up S.1 o k (S.1 o k) = S.1 := by
    funext a b
    unfold ab_up
    by_cases h : a = o ∧ b = k
    · rw [if_pos h, h.1, h.2]
    · rw [if_neg h]
  rw [this]
theorem wi_id {S : ab_S} {o k : Nat} {v : Int32} (h : S.1 o k = v) : ab_wi S o k v = S := by rw [← h, wi_same]
/-- how many characters a word holds -/
def cin (u : Int32) : Nat → Nat → Option Nat
  | 0, i => some i
  | m + 1, i => if bf u i = 0 then some i else if pr (bf u i) = true then cin u m (i + 1) else none
theorem cin_le (u : Int32) : ∀ m i n, cin u m i = some n → i ≤ n ∧ n ≤ i + m
  | 0, i, n, h => by cases h; omega
  | m + 1, i, n, h => by
    unfold cin at h
    split at h
    · cases h; omega
    · split at h
      · have := cin_le u m (i + 1) n h; omega
      · cases h
theorem cin_pr (u : Int32) : ∀ m i n, cin u m i = some n → ∀ j, i ≤ j → j < n → pr (bf u j) = true
  | 0, i, n, h, j, h1, h2 => by cases h; omega
  | m + 1, i, n, h, j, h1, h2 => by
    unfold cin at h
    split at h
    · cases h; omega
    · split at h
      · rename_i g
        by_cases e : j = i
        · rw [e]; exact g
        · exact cin_pr u m (i + 1) n h j (by omega) h2
      · cases h
theorem by_0 (q d : Nat) (u : Int32) {i : Nat} (h : i < 4) (S : ab_S) : v_13_0 q d (Int32.toInt64 u) (n32 i) S = some ((0, n32 (bf u i), 0, 0), S) := by
  rw [e_13_0, by_u _ (by omega), bt_bf u h]
theorem cin_v (q d : Nat) (u : Int32) (S : ab_S) : ∀ m i, i + m = 4 → v_15_2 q (d + 1) u (n32 i) S = match cin u m i with | none => some ((1, 0, 0, 0), ab_wx S) | some n => some ((0, n32 n, 0, 0), S)
  | 0, i, e => by
    have e : i = 4 := by omega
    subst e
    rw [e_15_2, if_neg (by decide)]
    rfl
  | m + 1, i, e => by
    have hb := bf_lt u i
    rw [e_15_2, if_pos (by rw [n32_lt (by omega) (by omega)]; omega), by_0 q d u (by omega), cI_0, i_eq (by omega) (by omega)]
    unfold cin
    by_cases g : bf u i = 0
    · rw [if_pos g, if_pos g]
    · rw [if_neg g, if_neg g, pr_v q d (by omega), cI_0, i_bz]
      by_cases k : pr (bf u i) = true
      · rw [if_pos k, if_pos k, n32_add]
        exact cin_v q d u S m (i + 1) (by omega)
      · rw [if_neg k, if_neg k]
def cT (t : Nat → Nat) (tn : Nat) (S : ab_S) : Prop := S.1 3 1 = n32 tn ∧ ∀ i, i < tn → S.1 4 i = n32 (t i)
def rT (t : Nat → Nat) (tn : Nat) (S : ab_S) : Prop := S.1 117 2 = n32 tn ∧ ∀ i, i < tn → S.1 118 i = n32 (t i)
def fT (S S' : ab_S) : Prop := S'.2 = S.2 ∧ ∀ r j, r ≠ 3 → r ≠ 4 → S'.1 r j = S.1 r j
theorem fT_rf (S : ab_S) : fT S S := ⟨rfl, fun _ _ _ _ => rfl⟩
theorem fT_wi {S S' : ab_S} (g : fT S S') {r k : Nat} (v : Int32) (h : r = 3 ∨ r = 4) : fT S (ab_wi S' r k v) := ⟨g.1, fun r' j x y => by rw [wi_rd, if_neg (by omega)]; exact g.2 r' j x y⟩
/-- characters put behind -/
def app (t : Nat → Nat) (tn : Nat) (g : Nat → Nat) : Nat → Nat := fun i => if i < tn then t i else g (i - tn)
theorem ty_lp (q d : Nat) (u : Int32) {t : Nat → Nat} {tn n : Nat} (h1 : tn + n ≤ 40) (h2 : n ≤ 4) (S0 : ab_S) : ∀ m i S, i + m = n → fT S0 S → S.1 3 1 = n32 tn → (∀ x, x < tn + i → S.1 4 x = n32 (app t tn (bf u) x)) → ∃ S', fT S0 S' ∧ cT (app t tn (bf u)) (tn + n) S' ∧ v_1_20 q (d + 1) u (n32 n) (n32 i) S = some ((0, n32 1, 0, 0), S')
  | 0, i, S, e, f, h, g => by
    have e : i = n := by omega
    subst e
    refine ⟨ab_wi S 3 1 (n32 (tn + i)), fT_wi f _ (Or.inl rfl), ⟨rfl, fun x hx => by rw [wi_rd, if_neg (by omega)]; exact g x hx⟩, ?_⟩
    rw [e_1_20, if_neg (by rw [n32_lt (by omega) (by omega)]; omega), h, n32_add]
  | m + 1, i, S, e, f, h, g => by
    have hb := bf_lt u i
    obtain ⟨S', a1, a2, a3⟩ := ty_lp q d u h1 h2 S0 m (i + 1) (ab_wi S 4 (tn + i) (n32 (bf u i))) (by omega) (fT_wi f _ (Or.inr rfl)) (by rw [wi_rd, if_neg (by omega)]; exact h) (fun x hx => by
      rw [wi_rd]
      by_cases l : x = tn + i
      · rw [if_pos ⟨rfl, l⟩, l]
        unfold app
        rw [if_neg (by omega), show tn + i - tn = i by omega]
      · rw [if_neg (by omega)]
        exact g x (by omega))
    refine ⟨S', a1, a2, ?_⟩
    rw [e_1_20, if_pos (by rw [n32_lt (by omega) (by omega)]; omega), by_0 q d u (by omega), cI_0, h, n32_add, n32_in (by omega) (by omega), g_t, n32_cl (by omega), n32_i2c (by omega), n32_nc (by omega), n32_add]
    exact a3
/-- what type answers: bad, no room, or so many characters more -/
theorem cty_v (q d : Nat) (u : Int32) {t : Nat → Nat} {tn : Nat} (hn : tn ≤ 40) {S : ab_S} (h : cT t tn S) :
    (cin u 4 0 = none → v_1_0 q (d + 2) u S = some ((1, 0, 0, 0), ab_wx S)) ∧ ∀ n, cin u 4 0 = some n → (40 < tn + n → v_1_0 q (d + 2) u S = some ((0, n32 0, 0, 0), S)) ∧ (tn + n ≤ 40 → ∃ S', fT S S' ∧ cT (app t tn (bf u)) (tn + n) S' ∧ v_1_0 q (d + 2) u S = some ((0, n32 1, 0, 0), S')) := by
  have e := cin_v q d u S 4 0 rfl
  refine ⟨fun g => ?_, fun n g => ?_⟩
  · rw [e_1_0, e_15_0, e, g]
    exact cI_x (by omega) _ _ _
  · have l := cin_le u 4 0 n g
    rw [g] at e
    have e' : v_1_0 q (d + 2) u S = if 40 < tn + n then some ((0, n32 0, 0, 0), S) else v_1_20 q (d + 1 + 1) u (n32 n) (n32 0) S := by
      rw [e_1_0, e_15_0, e]
      show cI (some ((0, n32 n, 0, 0), S)) _ = _
      rw [cI_0, h.1, n32_add, i_lt (by omega) (by omega)]
    refine ⟨fun k => by rw [e', if_pos k], fun k => ?_⟩
    obtain ⟨S', a1, a2, a3⟩ := ty_lp q (d + 1) u (t := t) k (by omega) S n 0 S (by omega) (fT_rf S) h.1 (fun x hx => by
      rw [h.2 x hx]
      unfold app
      rw [if_pos (by omega)])
    exact ⟨S', a1, a2, by rw [e', if_neg (by omega)]; exact a3⟩
-- the reference
def gT (S S' : ab_S) : Prop := S'.2 = S.2 ∧ (∀ r j, r ≠ 117 → r ≠ 118 → S'.1 r j = S.1 r j) ∧ ∀ j, j ≠ 0 → j ≠ 2 → S'.1 117 j = S.1 117 j
theorem gT_rf (S : ab_S) : gT S S := ⟨rfl, fun _ _ _ _ => rfl, fun _ _ _ => rfl⟩
theorem gT_wi {S S' : ab_S} (g : gT S S') {r k : Nat} (v : Int32) (h : r = 118 ∨ (r = 117 ∧ (k = 0 ∨ k = 2))) : gT S (ab_wi S' r k v) := ⟨g.1, fun r' j x y => by rw [wi_rd, if_neg (by omega)]; exact g.2.1 r' j x y, fun j x y => by rw [wi_rd, if_neg (by omega)]; exact g.2.2 j x y⟩
theorem rty_1 (q d : Nat) (u : Int32) {S : ab_S} (h : S.1 117 0 = n32 1) : ∀ m i (n mo : Int32), i + m = 4 → v_75_12 q d u n mo (n32 i) S = some ((0, n32 0, 0, 0), S)
  | 0, i, n, mo, e => by
    have e : i = 4 := by omega
    subst e
    rw [e_75_12, if_neg (by decide), h, if_pos (by decide), e_75_112]
  | m + 1, i, n, mo, e => by
    have w0 : ab_wi S 117 0 (S.1 117 0) = S := wi_same _ _ _
    have w1 : ab_wi S 117 0 (n32 1) = S := wi_id h
    have nx (n s0 : Int32) : v_75_87 q d u s0 (n32 i) n S = some ((0, n32 0, 0, 0), S) := by
      rw [e_75_87, n32_add]
      exact rty_1 q d u h m (i + 1) n s0 (by omega)
    have n3 (n s0 : Int32) : v_75_69 q d u n s0 (n32 i) S = some ((0, n32 0, 0, 0), S) := by
      rw [e_75_69, e_75_73, w0, nx, nx, ite_self]
    have n5 (n s0 : Int32) : v_75_65 q d u n s0 (n32 i) S = some ((0, n32 0, 0, 0), S) := by
      rw [e_75_65, e_75_73, w1, nx, nx, ite_self]
    have n2 (n x s0 : Int32) : v_75_45 q d u n (n32 i) x s0 S = some ((0, n32 0, 0, 0), S) := by
      rw [e_75_45, n3, n5, ite_self, ite_self, ite_self]
    rw [e_75_12, if_pos (by rw [n32_lt (by omega) (by omega)]; omega), e_75_44, n2, n2, ite_self, ite_self]
theorem rty_0 (q d : Nat) (u : Int32) (n : Int32) (S : ab_S) : ∀ m i, i + m = 4 → v_75_12 q d u n (n32 0) (n32 i) S = v_75_12 q d u n (n32 0) (n32 4) S
  | 0, i, e => by
    have e : i = 4 := by omega
    rw [e]
  | m + 1, i, e => by
    rw [e_75_12, if_pos (by rw [n32_lt (by omega) (by omega)]; omega), if_pos rfl, e_75_44, e_75_45, if_pos rfl, e_75_69, e_75_73, if_pos rfl, wi_same, e_75_87, n32_add]
    exact rty_0 q d u n S m (i + 1) (by omega)
theorem rty_2 (q d : Nat) (u : Int32) {S : ab_S} (h : S.1 117 0 = n32 0) : ∀ m i, i + m = 4 → v_75_12 q d u (n32 i) (n32 1) (n32 i) S = match cin u m i with | none => some ((0, n32 0, 0, 0), ab_wi S 117 0 (n32 1)) | some n => (if n32 40 < S.1 117 2 + n32 n then v_75_112 q d S else v_75_117 q d u (n32 n) (n32 0) S)
  | 0, i, e => by
    have e : i = 4 := by omega
    subst e
    rw [e_75_12, if_neg (by decide), h, if_neg (by decide)]
    rfl
  | m + 1, i, e => by
    have hb := bf_lt u i
    rw [e_75_12, if_pos (by rw [n32_lt (by omega) (by omega)]; omega), if_neg one_z, by_t u (by omega), i_eq (by omega) (by omega)]
    unfold cin
    by_cases g : bf u i = 0
    · rw [if_pos g, if_pos g, e_75_44, e_75_45, if_pos rfl, e_75_69, e_75_73, if_pos rfl, wi_same, e_75_87, n32_add, rty_0 q d u _ S m (i + 1) (by omega), e_75_12, if_neg (by decide), h, if_neg (by decide)]
    · rw [if_neg g, if_neg g, e_75_45, if_neg one_z, i_lt (by omega) (by omega), i_lt (by omega) (by omega)]
      have bad : v_75_65 q d u (n32 i) (n32 1) (n32 i) S = some ((0, n32 0, 0, 0), ab_wi S 117 0 (n32 1)) := by
        rw [e_75_65, e_75_73, if_neg one_z, e_75_87, n32_add]
        exact rty_1 q d u rfl m (i + 1) _ _ (by omega)
      by_cases k : pr (bf u i) = true
      · have k' := k
        unfold pr at k'
        rw [Bool.and_eq_true, decide_eq_true_iff, decide_eq_true_iff] at k'
        rw [if_neg (by omega), if_neg (by omega), if_pos k, e_75_69, e_75_73, if_neg one_z, wi_same, e_75_87, n32_add]
        exact rty_2 q d u h m (i + 1) (by omega)
      · rw [if_neg k, bad]
        have k' : bf u i < 32 ∨ 126 < bf u i := by
          unfold pr at k
          rw [Bool.and_eq_true, decide_eq_true_iff, decide_eq_true_iff] at k
          omega
        by_cases l : bf u i < 32
        · rw [if_pos l]
        · rw [if_neg l, if_pos (by omega)]
theorem rty_lp (q d : Nat) (u : Int32) {t : Nat → Nat} {tn n : Nat} (h1 : tn + n ≤ 40) (h2 : n ≤ 4) (S0 : ab_S) : ∀ m i S, i + m = n → gT S0 S → S.1 117 0 = n32 0 → rT (app t tn (bf u)) (tn + i) S → ∃ S', gT S0 S' ∧ S'.1 117 0 = n32 0 ∧ rT (app t tn (bf u)) (tn + n) S' ∧ v_75_117 q d u (n32 n) (n32 i) S = some ((0, n32 1, 0, 0), S')
  | 0, i, S, e, f, h, g => by
    have e : i = n := by omega
    subst e
    refine ⟨S, f, h, g, ?_⟩
    rw [e_75_117, if_neg (by rw [n32_lt (by omega) (by omega)]; omega)]
  | m + 1, i, S, e, f, h, g => by
    have hb := bf_lt u i
    obtain ⟨S', a1, a2, a3, a4⟩ := rty_lp q d u h1 h2 S0 m (i + 1) (ab_wi (ab_wi S 118 (tn + i) (n32 (bf u i))) 117 2 (n32 (tn + i + 1))) (by omega) (gT_wi (gT_wi f _ (Or.inl rfl)) _ (Or.inr ⟨rfl, Or.inr rfl⟩)) h ⟨rfl, fun x hx => by
      rw [wi_rd, if_neg (by omega), wi_rd]
      by_cases l : x = tn + i
      · rw [if_pos ⟨rfl, l⟩, l]
        unfold app
        rw [if_neg (by omega), show tn + i - tn = i by omega]
      · rw [if_neg (by omega)]
        exact g.2 x (by omega)⟩
    refine ⟨S', a1, a2, a3, ?_⟩
    rw [e_75_117, if_pos (by rw [n32_lt (by omega) (by omega)]; omega), g.1, n32_in (by omega) (by omega), g_t, n32_cl (by omega), by_t u (by omega), n32_add, n32_add]
    exact a4
theorem rty_v (q d : Nat) (u : Int32) {t : Nat → Nat} {tn : Nat} (hn : tn ≤ 40) {S : ab_S} (h : rT t tn S) :
    (cin u 4 0 = none → ∃ S', gT S S' ∧ S'.1 117 0 = n32 1 ∧ rT t tn S' ∧ v_75_0 q d u S = some ((0, n32 0, 0, 0), S')) ∧ ∀ n, cin u 4 0 = some n → (40 < tn + n → ∃ S', gT S S' ∧ S'.1 117 0 = n32 0 ∧ rT t tn S' ∧ v_75_0 q d u S = some ((0, n32 0, 0, 0), S')) ∧ (tn + n ≤ 40 → ∃ S', gT S S' ∧ S'.1 117 0 = n32 0 ∧ rT (app t tn (bf u)) (tn + n) S' ∧ v_75_0 q d u S = some ((0, n32 1, 0, 0), S')) := by
  have f0 : gT S (ab_wi S 117 0 (n32 0)) := gT_wi (gT_rf S) _ (Or.inr ⟨rfl, Or.inl rfl⟩)
  have r0 : rT t tn (ab_wi S 117 0 (n32 0)) := ⟨h.1, h.2⟩
  have e0 : v_75_0 q d u S = v_75_12 q d u (n32 0) (n32 1) (n32 0) (ab_wi S 117 0 (n32 0)) := e_75_0 q d u S
  have e := rty_2 q d u (S := ab_wi S 117 0 (n32 0)) rfl 4 0 rfl
  rw [e0, e]
  refine ⟨fun g => ?_, fun n g => ?_⟩
  · rw [g]
    exact ⟨_, gT_wi f0 (n32 1) (Or.inr ⟨rfl, Or.inl rfl⟩), rfl, ⟨h.1, h.2⟩, rfl⟩
  · have l := cin_le u 4 0 n g
    rw [g]
    show (40 < tn + n → ∃ S', gT S S' ∧ S'.1 117 0 = n32 0 ∧ rT t tn S' ∧ (if n32 40 < (ab_wi S 117 0 (n32 0)).1 117 2 + n32 n then v_75_112 q d (ab_wi S 117 0 (n32 0)) else v_75_117 q d u (n32 n) (n32 0) (ab_wi S 117 0 (n32 0))) = _) ∧ (tn + n ≤ 40 → ∃ S', gT S S' ∧ S'.1 117 0 = n32 0 ∧ rT (app t tn (bf u)) (tn + n) S' ∧ (if n32 40 < (ab_wi S 117 0 (n32 0)).1 117 2 + n32 n then v_75_112 q d (ab_wi S 117 0 (n32 0)) else v_75_117 q d u (n32 n) (n32 0) (ab_wi S 117 0 (n32 0))) = _)
    rw [r0.1, n32_add, i_lt (by omega) (by omega)]
    refine ⟨fun k => ?_, fun k => ?_⟩
    · rw [if_pos k, e_75_112]
      exact ⟨_, f0, rfl, r0, rfl⟩
    · rw [if_neg (by omega)]
      exact rty_lp q d u k (by omega) S n 0 _ (by omega) f0 rfl ⟨r0.1, fun x hx => by
        rw [r0.2 x hx]
        unfold app
        rw [if_pos (by omega)]⟩
