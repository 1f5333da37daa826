-- Matching in the reference: maps.
theorem m56_I {S T : ab_S} {b : Nat → Nat} {I : Nat → Nat → Nat} {cnt bn : Nat} (h : mI S b I cnt bn) (g : m56 S T) : mI T b I cnt bn := mI_fr h g.1 (fun c j _ => g.2 c j (by omega) (by omega))
theorem m56_Q {S T : ab_S} {r pn : Nat} {P : Nat → Nat → Nat} {tx : Nat → Nat} {tn : Nat} (h : mQ S r pn P tx tn) (g : m56 S T) : mQ T r pn P tx tn := mQ_fr h (fun c j _ => g.2 c j (by omega) (by omega))
theorem m56_B {S T : ab_S} {B : Nat → Nat → Nat → Bool} {i cnt r p lv : Nat} (h : mB S B i cnt r p lv) (g : m56 S T) : mB T B i cnt r p lv := mB_fr h (fun j => g.2 _ _ (by omega) (by omega))
/-- all members, for one pair -/
theorem sh_k (q d : Nat) {S : ab_S} {B : Nat → Nat → Nat → Bool} {c : ctx} {cnt bn : Nat} (hI : mI S c.1 c.2.1 cnt bn) {r p i lv pn : Nat} (hr : r < 8) (hl : lv ≤ 20) (hb : mB S B i cnt r p lv) {P : Nat → Nat → Nat} {tx : Nat → Nat} {tn : Nat} (hQ : mQ S r pn P tx tn) (hp : p < pn) (kp : P 0 p = 9) {ey : Nat} (hey : ey ≤ pn) {k : Nat} (hk : i ≤ k) (hk2 : k < cnt) (hk3 : bhd c k < cnt) {n0 lo0 : Nat} (h6 : n0 ≤ 6) (h0 : rch P true n0 lo0 (P 1 p) ey) (u1 : Int32) {F : Nat → Bool} : ∀ n N m lo T (G : Nat → Bool), n < N → m + n = n0 → rch P true n lo (itr P m (P 1 p)) ey → m56 S T → fl T 145 F → fl T 146 G → ∃ T', m56 S T' ∧ fl T' 145 F ∧ fl T' 146 (fun s => G s || (XC (hv (Br B r) (lv + 1)) k P m (P 1 p) && paiC P c (hv (Br B r) (lv + 1)) k F N (itr P m (P 1 p)) m s)) ∧ v_115_84 q (d + 2) u1 (n32 (64 * r + p)) (n32 lv) (n32 k) (n32 (2 ^ m)) (eO (64 * r) (itr P m (P 1 p))) T = v_115_231 q (d + 2) u1 (n32 (64 * r + p)) (n32 lv) (n32 k) (n32 0) T'
  | 0, N, m, lo, T, G, hN, hm, h, g, h1, h2 => by
    have h' : itr P m (P 1 p) = 4294967295 := h
    refine ⟨T, g, h1, fun s hs => ?_, by rw [h', eO_none, e_115_84, if_pos m1_lt]⟩
    have z : paiC P c (hv (Br B r) (lv + 1)) k F N 4294967295 m s = false := by
      cases N with
      | zero => rfl
      | succ N => exact if_pos rfl
    show _ = n32 (G s || (XC (hv (Br B r) (lv + 1)) k P m (P 1 p) && paiC P c (hv (Br B r) (lv + 1)) k F N (itr P m (P 1 p)) m s)).toNat
    rw [h', z, Bool.and_false, Bool.or_false]
    exact h2 s hs
  | n + 1, 0, m, lo, T, G, hN, hm, h, g, h1, h2 => absurd hN (by omega)
  | n + 1, N + 1, m, lo, T, G, hN, hm, h, g, h1, h2 => by
    have p60 := hQ.1
    have my := fun (T : ab_S) (t : m56 S T) => may_v q d (m56_I hI t) hr hl (m56_B hb t) (m56_Q hQ t) hp kp hey hk hk2 hk3 (by omega : m < n0) h0
    have xs := XC_s (hv (Br B r) (lv + 1)) k P m (P 1 p)
    have its := itr_s P m (P 1 p)
    have nx := fun (T : ab_S) (G : Nat → Bool) (h : rch P true n (itr P m (P 1 p) + 1) (itr P (m + 1) (P 1 p)) ey) => sh_k q d hI hr hl hb hQ hp kp hey hk hk2 hk3 h6 h0 u1 (F := F) n N (m + 1) (itr P m (P 1 p) + 1) T G (by omega) (by omega) h
    rw [xs, its] at nx
    revert h my nx
    generalize itr P m (P 1 p) = a
    intro h my nx
    obtain ⟨b1, b2, b3, b4, b5, b6, b7, b8⟩ := h
    have o := (m56_Q hQ g).2.1 a (by omega)
    have P4 : P 4 a < 64 := by rcases b4 with z | z | z | z <;> omega
    obtain ⟨T1, c1, c2, c3, c4⟩ := sh_1 q (d + 1) u1 (n32 (64 * r + p)) (n32 lv) (n32 k) (n32 (64 * r + a)) (by omega : m < 6) (mny (P 4 a)) (G := G) _ my g h1 h2
    obtain ⟨T2, d1, d2, d3, d4⟩ := nx T1 _ b8 c1 c2 c3
    have o' := (m56_Q hQ c1).2.1 a (by omega)
    refine ⟨T2, d1, d2, fun s hs => ?_, ?_⟩
    · refine (d3 s hs).trans ?_
      have pc : paiC P c (hv (Br B r) (lv + 1)) k F (N + 1) a m s = (((hv (Br B r) (lv + 1) k (P 1 a) && hv (Br B r) (lv + 1) (bhd c k) (P 2 a)) && put F m (mny (P 4 a)) s) || (!(hv (Br B r) (lv + 1) k (P 1 a) && sgl P (P 1 a)) && paiC P c (hv (Br B r) (lv + 1)) k F N (P 3 a) (m + 1) s)) := if_neg (by omega)
      show n32 ((G s || (((hv (Br B r) (lv + 1) k (P 1 a) && hv (Br B r) (lv + 1) (bhd c k) (P 2 a)) && XC (hv (Br B r) (lv + 1)) k P m (P 1 p)) && put F m (mny (P 4 a)) s)) || ((XC (hv (Br B r) (lv + 1)) k P m (P 1 p) && !(hv (Br B r) (lv + 1) k (P 1 a) && sgl P (P 1 a))) && paiC P c (hv (Br B r) (lv + 1)) k F N (P 3 a) (m + 1) s)).toNat = n32 (G s || (XC (hv (Br B r) (lv + 1)) k P m (P 1 p) && paiC P c (hv (Br B r) (lv + 1)) k F (N + 1) a m s)).toNat
      rw [pc]
      generalize hv (Br B r) (lv + 1) k (P 1 a) = x1
      generalize hv (Br B r) (lv + 1) (bhd c k) (P 2 a) = x2
      generalize XC (hv (Br B r) (lv + 1)) k P m (P 1 p) = x3
      generalize put F m (mny (P 4 a)) s = x4
      generalize sgl P (P 1 a) = x5
      generalize paiC P c (hv (Br B r) (lv + 1)) k F N (P 3 a) (m + 1) s = x6
      generalize G s = x7
      cases x1 <;> cases x2 <;> cases x3 <;> cases x4 <;> cases x5 <;> cases x6 <;> cases x7 <;> rfl
    · have e1 : v_115_84 q (d + 2) u1 (n32 (64 * r + p)) (n32 lv) (n32 k) (n32 (2 ^ m)) (eO (64 * r) a) T = v_115_121 q (d + 2) u1 (n32 (64 * r + p)) (n32 lv) (n32 k) (n32 (2 ^ m)) (n32 (64 * r + a)) (n32 (!mny (P 4 a)).toNat) (n32 0) T := by
        rw [eO_some (by omega), e_115_84, if_neg (by rw [n32_lt (by omega) (by omega)]; omega), n32_in (by omega) (by omega), g_t, g_t, n32_cl (by omega), o.2.2.2.2, i_eq (by omega) (by omega), i_eq (by omega) (by omega), e_115_111, e_115_116, e_115_116]
        rcases b4 with z | z | z | z <;> rw [z] <;> rfl
      rw [e1, c4, e_115_210, n32_in (by omega) (by omega), g_t, n32_cl (by omega), o'.2.2.2.1, n32_mul, Nat.mul_comm 2, ← Nat.pow_succ]
      exact d4
theorem ch_ln {g : Nat → Nat} {e : Nat} : ∀ n k, ch g n k e → k + n ≤ e
  | 0, k, h => Nat.le_of_eq h
  | n + 1, k, h => by
    have := ch_ln n _ h.2.2.2
    have := h.2.1
    omega
/-- all pairs -/
theorem sh_p (q d : Nat) {S : ab_S} {B : Nat → Nat → Nat → Bool} {c : ctx} {cnt bn : Nat} (hI : mI S c.1 c.2.1 cnt bn) {r p i lv pn : Nat} (hr : r < 8) (hi : i < cnt) (hl : lv ≤ 20) (hb : mB S B i cnt r p lv) {P : Nat → Nat → Nat} {tx : Nat → Nat} {tn : Nat} (hQ : mQ S r pn P tx tn) (hp : p < pn) (kp : P 0 p = 9) {ey : Nat} (hey : ey ≤ pn) {n0 : Nat} (h6 : n0 ≤ 6) (h0 : rch P true n0 (p + 1) (P 1 p) ey) : ∀ z N k T (F : Nat → Bool), z ≤ N → i < k → ch (bhd c) (2 * z) k (bhd c i) → m56 S T → fl T 145 F → ∃ T', m56 S T' ∧ fl T' 145 (shrC P c (hv (Br B r) (lv + 1)) (bhd c i) (P 1 p) N k F) ∧ v_115_38 q (d + 2) (n32 i) (n32 (64 * r + p)) (n32 lv) (n32 k) T = v_115_289 q (d + 2) (n32 0) (n32 1) (eO (64 * r) (P 1 p)) T'
  | 0, N, k, T, F, hz, hk, hc, g, h1 => by
    have c24 := hI.1
    have p60 := hQ.1
    have ke : k = bhd c i := hc
    have ei : bhd c i ≤ cnt := (hI.2.2.2.2.2 i hi).2
    have e140 : T.1 140 i = n32 (bhd c i) := ((m56_I hI g).2.2.1.2 i hi).2.2.2.2
    have o : T.1 126 (64 * r + p) = eO (64 * r) (P 1 p) := by
      rw [((m56_Q hQ g).2.1 p hp).2.1, kp]
      rfl
    refine ⟨T, g, ?_, by rw [e_115_38, n32_in (by omega) (by omega), g_t, n32_cl (by omega), e140, ke, if_neg (by rw [n32_lt (by omega) (by omega)]; omega), n32_in (by omega) (by omega), g_t, n32_cl (by omega), o]⟩
    have z : shrC P c (hv (Br B r) (lv + 1)) (bhd c i) (P 1 p) N k F = F := by
      cases N with
      | zero => rfl
      | succ N => exact if_neg (by omega)
    rw [z]
    exact h1
  | z + 1, 0, k, T, F, hz, hk, hc, g, h1 => absurd hz (by omega)
  | z + 1, N + 1, k, T, F, hz, hk, hc, g, h1 => by
    have c24 := hI.1
    have p60 := hQ.1
    have hc' : ch (bhd c) (2 * z + 1 + 1) k (bhd c i) := hc
    obtain ⟨k1, k2, k3, ⟨j1, j2, j3, j4⟩⟩ := hc'
    have ei : bhd c i ≤ cnt := (hI.2.2.2.2.2 i hi).2
    have e140 : T.1 140 i = n32 (bhd c i) := ((m56_I hI g).2.2.1.2 i hi).2.2.2.2
    have o : T.1 126 (64 * r + p) = eO (64 * r) (P 1 p) := by
      rw [((m56_Q hQ g).2.1 p hp).2.1, kp]
      rfl
    obtain ⟨T1, a1, a2, a3, a4⟩ := sh_z q (d + 1) (n32 i) (n32 lv) (n32 k) (by omega : 64 * r + p < 640) 64 0 T rfl (fun s hs => absurd hs (Nat.not_lt_zero _))
    have g1 := m56_tr g a1
    obtain ⟨T2, b1, b2, b3, b4⟩ := sh_k q d hI hr hl hb hQ hp kp hey (by omega : i ≤ k) (by omega) (by omega) h6 h0 (n32 i) (F := F) n0 128 0 (p + 1) T1 (fun _ => false) (by omega) (Nat.zero_add _) h0 g1 (fun s hs => (a2 s).trans (h1 s hs)) a3
    have t140 := (m56_I hI b1).2.2.1.2
    obtain ⟨T3, c1, c2, c3⟩ := sh_c q (d + 1) (n32 i) (n32 (64 * r + p)) (n32 lv) (by omega : k < 24) (by omega : bhd c k < 24) (k3 := bhd c (bhd c k)) 64 0 T2 rfl (t140 k (by omega)).2.2.2.2 (t140 (bhd c k) (by omega)).2.2.2.2 b3 (fun s hs => absurd hs (Nat.not_lt_zero _))
    obtain ⟨T', d1, d2, d3⟩ := sh_p q d hI hr hi hl hb hQ hp kp hey h6 h0 z N (bhd c (bhd c k)) T3 _ (by omega) (by omega) j4 (m56_tr b1 c1) c2
    refine ⟨T', d1, ?_, ?_⟩
    · have e : shrC P c (hv (Br B r) (lv + 1)) (bhd c i) (P 1 p) (N + 1) k F = shrC P c (hv (Br B r) (lv + 1)) (bhd c i) (P 1 p) N (bhd c (bhd c k)) (paiC P c (hv (Br B r) (lv + 1)) k F 128 (P 1 p) 0) := if_pos k1
      rw [e]
      have e2 : (fun s => false || (XC (hv (Br B r) (lv + 1)) k P 0 (P 1 p) && paiC P c (hv (Br B r) (lv + 1)) k F 128 (itr P 0 (P 1 p)) 0 s)) = paiC P c (hv (Br B r) (lv + 1)) k F 128 (P 1 p) 0 := by
        funext s
        show (false || (true && paiC P c (hv (Br B r) (lv + 1)) k F 128 (P 1 p) 0 s)) = _
        rw [Bool.false_or, Bool.true_and]
      rw [e2] at d2
      exact d2
    · rw [e_115_38, n32_in (by omega) (by omega), g_t, n32_cl (by omega), e140, if_pos (by rw [n32_lt (by omega) (by omega)]; omega), a4, o]
      exact b4.trans (c3.trans d3)
-- what is needed
def nm (P : Nat → Nat → Nat) : Nat → Nat → Nat → Nat → Nat
  | 0, _, _, acc => acc
  | n + 1, a, m, acc => nm P n (P 3 a) (m + 1) (if neR (P 4 a) = true then acc ||| 2 ^ m else acc)
theorem sb_an {a s : Nat} : s &&& a = a ↔ sb a s := by
  constructor
  · intro h i x
    rw [← h, Nat.testBit_and, Bool.and_eq_true] at x
    exact x.1
  · intro h
    apply Nat.eq_of_testBit_eq
    intro i
    rw [Nat.testBit_and]
    cases x : a.testBit i with
    | false => rw [Bool.and_false]
    | true => rw [h i x]; rfl
theorem nm_v {P : Nat → Nat → Nat} {mp : Bool} {b : Nat} (hb : b ≤ 1000) (s : Nat) : ∀ n N lo a m acc, n < N → rch P mp n lo a b → (s &&& nm P n a m acc = nm P n a m acc ↔ (s &&& acc = acc ∧ nedC P N a m s = true))
  | 0, N, lo, a, m, acc, hN, h => by
    have h' : a = 4294967295 := h
    have z : nedC P N a m s = true := by
      cases N with
      | zero => rfl
      | succ N => exact if_pos h'
    rw [z]
    exact ⟨fun x => ⟨x, rfl⟩, fun x => x.1⟩
  | n + 1, 0, lo, a, m, acc, hN, h => absurd hN (by omega)
  | n + 1, N + 1, lo, a, m, acc, hN, h => by
    obtain ⟨b1, b2, b3, b4, b5, b6, b7, b8⟩ := h
    have e : nedC P (N + 1) a m s = ((!neR (P 4 a) || s.testBit m) && nedC P N (P 3 a) (m + 1) s) := if_neg (by omega)
    have ih := nm_v hb s n N (a + 1) (P 3 a) (m + 1) (if neR (P 4 a) = true then acc ||| 2 ^ m else acc) (by omega) b8
    show (s &&& nm P n (P 3 a) (m + 1) (if neR (P 4 a) = true then acc ||| 2 ^ m else acc) = nm P n (P 3 a) (m + 1) (if neR (P 4 a) = true then acc ||| 2 ^ m else acc) ↔ _)
    rw [ih, e]
    cases hn : neR (P 4 a) with
    | false => rw [if_neg (by decide)]; rfl
    | true =>
      rw [if_pos rfl, sb_an, sb_an, Bool.not_true, Bool.false_or, Bool.and_eq_true]
      constructor
      · intro x
        exact ⟨sb_tr (sb_l _ _) x.1, sb_p.mp (sb_tr (sb_r _ _) x.1), x.2⟩
      · intro x
        exact ⟨sb_o x.1 (sb_p.mpr x.2.1), x.2.2⟩
theorem nm_lt {P : Nat → Nat → Nat} : ∀ n a m acc, m + n ≤ 6 → acc < 64 → nm P n a m acc < 64
  | 0, _, _, _, _, h => h
  | n + 1, a, m, acc, hm, h => by
    refine nm_lt n (P 3 a) (m + 1) _ (by omega) ?_
    have := (pw_4 m (by omega)).2
    split
    · exact Nat.or_lt_two_pow (n := 6) h this
    · exact h
theorem nd_v (q d : Nat) {T : ab_S} {r pn : Nat} (hr : r < 8) {P : Nat → Nat → Nat} {tx : Nat → Nat} {tn : Nat} (hQ : mQ T r pn P tx tn) {mp : Bool} {ey : Nat} (hey : ey ≤ pn) : ∀ n lo a m acc, rch P mp n lo a ey → v_115_289 q (d + 1) (n32 acc) (n32 (2 ^ m)) (eO (64 * r) a) T = v_115_352 q (d + 1) (n32 (nm P n a m acc)) (n32 0) (n32 0) T
  | 0, lo, a, m, acc, h => by
    have h' : a = 4294967295 := h
    rw [h', eO_none, e_115_289, if_pos m1_lt]
    rfl
  | n + 1, lo, a, m, acc, h => by
    obtain ⟨b1, b2, b3, b4, b5, b6, b7, b8⟩ := h
    have p60 := hQ.1
    have o := hQ.2.1 a (by omega)
    have P4 : P 4 a < 64 := by rcases b4 with z | z | z | z <;> omega
    have nx (acc : Nat) : v_115_326 q (d + 1) (n32 (2 ^ m)) (n32 (64 * r + a)) (n32 acc) T = v_115_352 q (d + 1) (n32 (nm P n (P 3 a) (m + 1) acc)) (n32 0) (n32 0) T := by
      rw [e_115_326, n32_in (by omega) (by omega), g_t, n32_cl (by omega), o.2.2.2.1, n32_mul, Nat.mul_comm 2, ← Nat.pow_succ]
      exact nd_v q d hr hQ hey n (a + 1) (P 3 a) (m + 1) acc b8
    rw [eO_some (by omega), e_115_289, if_neg (by rw [n32_lt (by omega) (by omega)]; omega), n32_in (by omega) (by omega), g_t, g_t, n32_cl (by omega), o.2.2.2.2, i_eq (by omega) (by omega), i_eq (by omega) (by omega), e_115_316, n32_or, nx, nx]
    show _ = v_115_352 q (d + 1) (n32 (nm P n (P 3 a) (m + 1) (if neR (P 4 a) = true then acc ||| 2 ^ m else acc))) (n32 0) (n32 0) T
    rcases b4 with z | z | z | z <;> rw [z] <;> rfl
theorem fn_v (q d : Nat) {T : ab_S} {F : Nat → Bool} (h : fl T 145 F) {nd : Nat} (hn : nd < 64) : ∀ m s (f : Bool), s + m = 64 → v_115_352 q (d + 1) (n32 nd) (n32 f.toNat) (n32 s) T = some ((0, n32 (f || anyF (fun s => F s && decide (s &&& nd = nd)) m s).toNat, 0, 0), T)
  | 0, s, f, e => by
    rw [e_115_352, if_neg (by rw [n32_lt (by omega) (by omega)]; omega), bo_nz, show anyF (fun s => F s && decide (s &&& nd = nd)) 0 s = false from rfl, Bool.or_false]
  | m + 1, s, f, e => by
    have al : s &&& nd < 64 := Nat.and_lt_two_pow (n := 6) s hn
    have w (g : Bool) : v_115_389 q (d + 1) (n32 nd) (n32 s) (n32 g.toNat) T = some ((0, n32 (g || anyF (fun s => F s && decide (s &&& nd = nd)) m (s + 1)).toNat, 0, 0), T) := by
      rw [e_115_389, n32_add]
      exact fn_v q d h hn m (s + 1) g (by omega)
    have w1 := w true
    have w0 := w false
    rw [e_115_352, if_pos (by rw [n32_lt (by omega) (by omega)]; omega), i_bz, n32_in (by omega) (by omega), g_t, n32_cl (by omega), h s (by omega), i_bz, n32_and, i_eq (by omega) (by omega), e_115_384, e_115_388, anyF_s]
    cases f with
    | true => exact w1
    | false =>
      cases F s with
      | false => exact w0
      | true =>
        by_cases g : s &&& nd = nd
        · rw [if_neg (by decide), if_pos rfl, if_pos g, decide_eq_true g]
          exact w1
        · rw [if_neg (by decide), if_pos rfl, if_neg g, decide_eq_false g]
          exact w0
/-- a map is matched -/
theorem map_v (q d : Nat) {S : ab_S} {B : Nat → Nat → Nat → Bool} {c : ctx} {cnt bn : Nat} (hI : mI S c.1 c.2.1 cnt bn) {r p i lv pn : Nat} (hr : r < 8) (hi : i < cnt) (hl : lv ≤ 20) (hb : mB S B i cnt r p lv) {P : Nat → Nat → Nat} {tx : Nat → Nat} {tn : Nat} (hQ : mQ S r pn P tx tn) (hp : p < pn) (kp : P 0 p = 9) {ey : Nat} (hey : ey ≤ pn) {n0 : Nat} (h6 : n0 ≤ 6) (h0 : rch P true n0 (p + 1) (P 1 p) ey) (m5 : maj c i = 5) : ∃ T, m56 S T ∧ v_115_0 q (d + 2) (n32 i) (n32 (64 * r + p)) (n32 lv) S = some ((0, n32 (anyF (fun s => shrC P c (hv (Br B r) (lv + 1)) (bhd c i) (P 1 p) 24 (i + 1) (fun s => decide (s = 0)) s && nedC P 128 (P 1 p) 0 s) 64 0).toNat, 0, 0), T) := by
  have c24 := hI.1
  have p60 := hQ.1
  obtain ⟨T1, a1, a2, a3⟩ := sh_i q (d + 1) (n32 i) (n32 (64 * r + p)) (n32 lv) 64 0 S rfl (fun s hs => absurd hs (Nat.not_lt_zero _))
  have f := hI.2.2.2.2.2 i hi
  have ei : bhd c i ≤ cnt := f.2
  have f5 := f.1.2.2.2.2.2.1
  have m5' : c.2.1 0 i = 5 := m5
  rw [m5', show inn 5 (c.2.1 1 i) = 2 * c.2.1 1 i from rfl] at f5
  have ln := ch_ln _ _ f5
  have ln' : i + 1 + 2 * c.2.1 1 i ≤ bhd c i := ln
  obtain ⟨T2, b1, b2, b3⟩ := sh_p q d hI hr hi hl hb hQ hp kp hey h6 h0 (c.2.1 1 i) 24 (i + 1) T1 _ (by omega) (by omega) f5 a1 a2
  refine ⟨T2, b1, ?_⟩
  have e1 : (1 : Nat) = 2 ^ 0 := rfl
  have ndv := nd_v q (d + 1) hr (m56_Q hQ b1) hey n0 (p + 1) (P 1 p) 0 0 h0
  have fnv := fn_v q (d + 1) b2 (nm_lt (P := P) n0 (P 1 p) 0 0 (by omega) (by omega)) 64 0 false rfl
  rw [e_115_0, a3, n32_add]
  refine (b3.trans (ndv.trans fnv)).trans ?_
  rw [Bool.false_or]
  rw [anyF_c (Q := fun s => shrC P c (hv (Br B r) (lv + 1)) (bhd c i) (P 1 p) 24 (i + 1) (fun s => decide (s = 0)) s && nedC P 128 (P 1 p) 0 s) 64 0 (fun s _ _ => by
    have v := nm_v (P := P) (mp := true) (b := ey) (by omega) s n0 128 (p + 1) (P 1 p) 0 0 (by omega) h0
    rw [Nat.and_zero] at v
    have v' : decide (s &&& nm P n0 (P 1 p) 0 0 = nm P n0 (P 1 p) 0 0) = nedC P 128 (P 1 p) 0 s := by
      cases z : nedC P 128 (P 1 p) 0 s with
      | true => exact decide_eq_true (v.mpr ⟨rfl, z⟩)
      | false => exact decide_eq_false (fun w => by rw [(v.mp w).2] at z; cases z)
    rw [v'])]
