-- Matching in the class: members.
def sw (F : Nat → Bool) (w : Int64) : Prop := ∀ s, s < 64 → w.toBitVec.getLsbD s = F s
theorem wo_b : ∀ m, m < 6 → ∀ s, s < 64 → (ab_wo m).toBitVec.getLsbD s = !(s.testBit m) := by decide +kernel
theorem sh_m : ∀ m, m < 6 → ((Int32.toInt64 (n32 1 <<< (n32 m &&& 31)) &&& 63).toBitVec.smod 64).toNat = 2 ^ m := by decide +kernel
theorem put_b : ∀ m, m < 6 → ∀ s, s < 64 → (!decide (s < 2 ^ m) && !((s - 2 ^ m).testBit m)) = s.testBit m := by decide +kernel
theorem m1_b : ∀ s, s < 64 → (-1 : Int64).toBitVec.getLsbD s = true := by decide +kernel
theorem sw_wo {F : Nat → Bool} {w : Int64} (h : sw F w) {m : Nat} (hm : m < 6) : sw (fun s => F s && s.testBit m) (w &&& (ab_wo m ^^^ (-1 : Int64))) := fun s hs => by
  show (w.toBitVec &&& ((ab_wo m).toBitVec ^^^ (-1 : Int64).toBitVec)).getLsbD s = _
  rw [BitVec.getLsbD_and, BitVec.getLsbD_xor, h s hs, wo_b m hm s hs, m1_b s hs]
  show _ = (F s && s.testBit m)
  cases F s <;> cases s.testBit m <;> rfl
theorem sw_or {F G : Nat → Bool} {w v : Int64} (h : sw F w) (g : sw G v) : sw (fun s => F s || G s) (w ||| v) := fun s hs => by
  show (w.toBitVec ||| v.toBitVec).getLsbD s = _
  rw [BitVec.getLsbD_or, h s hs, g s hs]
theorem sw_sh {F : Nat → Bool} {w : Int64} (h : sw F w) {m : Nat} (hm : m < 6) : sw (fun s => s.testBit m && F (s - 2 ^ m)) ((w &&& ab_wo m) <<< (Int32.toInt64 (n32 1 <<< (n32 m &&& 31)) &&& 63)) := fun s hs => by
  show ((w.toBitVec &&& (ab_wo m).toBitVec) <<< ((Int32.toInt64 (n32 1 <<< (n32 m &&& 31)) &&& 63).toBitVec.smod 64)).getLsbD s = _
  rw [BitVec.shiftLeft_eq', sh_m m hm, BitVec.getLsbD_shiftLeft, BitVec.getLsbD_and, h _ (Nat.lt_of_le_of_lt (Nat.sub_le _ _) hs), wo_b m hm _ (Nat.lt_of_le_of_lt (Nat.sub_le _ _) hs)]
  show _ = (s.testBit m && F (s - 2 ^ m))
  rw [← put_b m hm s hs, decide_eq_true hs]
  cases F (s - 2 ^ m) <;> cases (s - 2 ^ m).testBit m <;> cases decide (s < 2 ^ m) <;> rfl
theorem sw_z : sw (fun _ => false) (n64 0) := fun s _ => by
  show (BitVec.ofNat 64 0).getLsbD s = false
  rw [BitVec.getLsbD_ofNat, Nat.zero_testBit, Bool.and_false]
theorem sw_cg {F G : Nat → Bool} {w : Int64} (h : sw F w) (g : ∀ s, s < 64 → F s = G s) : sw G w := fun s hs => (h s hs).trans (g s hs)
theorem anyF_c {P Q : Nat → Bool} : ∀ m i, (∀ s, i ≤ s → s < i + m → P s = Q s) → anyF P m i = anyF Q m i
  | 0, _, _ => rfl
  | m + 1, i, h => by
    rw [anyF_s, anyF_s, h i (by omega) (by omega), anyF_c m (i + 1) (fun s a b => h s (by omega) (by omega))]
theorem anyF_z : ∀ m i, anyF (fun _ => false) m i = false
  | 0, _ => rfl
  | m + 1, i => anyF_z m (i + 1)
theorem sw_0 {F : Nat → Bool} {w : Int64} (h : sw F w) : (w = n64 0) = (anyF F 64 0 = false) := by
  apply propext
  constructor
  · intro e
    rw [anyF_c (Q := fun _ => false) 64 0 (fun s _ hs => ?_), anyF_z]
    rw [← h s (by omega), e]
    exact sw_z s (by omega)
  · intro e
    apply Int64.toBitVec.inj
    apply BitVec.eq_of_getLsbD_eq
    intro s hs
    rw [h s hs, anyF_f 64 0 e s (by omega) (by omega)]
    exact (sw_z s hs).symm
theorem i_sw {α : Type} {F : Nat → Bool} {w : Int64} (h : sw F w) (x y : α) : (if w = n64 0 then x else y) = if anyF F 64 0 = true then y else x := by
  have := sw_0 h
  by_cases g : w = n64 0
  · rw [if_pos g, if_neg]
    rw [this.mp g]
    decide
  · rw [if_neg g, if_pos]
    cases k : anyF F 64 0 with
    | true => rfl
    | false => exact absurd (this.mpr k) g
theorem lnp_fr {r : Nat} {S S' : ab_S} (g : ∀ j, 1 ≤ j → j ≤ 10 → ∀ y, S'.1 (r + j) y = S.1 (r + j) y) : ∀ ps, lnp r S ps → lnp r S' ps
  | [], _ => trivial
  | p :: ps, h => ⟨(g 10 (by omega) (by omega) p.1).trans h.1, lnp_fr g ps h.2⟩
theorem dP_fr {q r : Nat} {S S' : ab_S} (g : ∀ j, 1 ≤ j → j ≤ 10 → ∀ y, S'.1 (r + j) y = S.1 (r + j) y) {b : Nat} {mp : Bool} {p : prt} (h : dP q r S b mp p) : dP q r S' b mp p :=
  ⟨h.1, h.2.1, (g 6 (by omega) (by omega) p.1).trans h.2.2.1, (g 8 (by omega) (by omega) p.1).trans h.2.2.2.1, dT_fr h.2.2.2.2.1 (fun j a b y _ _ => g j a b y), fun e => ⟨(g 7 (by omega) (by omega) p.1).trans (h.2.2.2.2.2 e).1, (g 9 (by omega) (by omega) p.1).trans (h.2.2.2.2.2 e).2.1, dT_fr (h.2.2.2.2.2 e).2.2 (fun j a b y _ _ => g j a b y)⟩⟩
theorem ned_lp {q r d : Nat} (hr : isSh r) {S : ab_S} (hw : ∀ j, j < 6 → S.2.1 2 j = ab_wo j) {b : Nat} {mp : Bool} : ∀ ps m F u7, m + ps.length ≤ 6 → lnp r S ps → (∀ p, p ∈ ps → dP q r S b mp p) → sw F u7 → v_71_89 q (d + 1) r u7 (n32 (fsp ps)) (n32 m) S = some ((0, n32 (anyF (fun s => F s && neds ps m s) 64 0).toNat, 0, 0), S)
  | [], m, F, u7, hm, _, _, hs => by
    rw [show fsp [] = 4294967295 from rfl, e_71_89, n32_m1, if_pos (rfl : n32 4294967295 = n32 4294967295), ite_self, e_71_141, i_ceq, i_sw hs, e_71_153, e_71_153, nz_0, nz_1]
    have : anyF (fun s => F s && neds [] m s) 64 0 = anyF F 64 0 := anyF_c 64 0 (fun s _ _ => Bool.and_true _)
    rw [this]
    cases anyF F 64 0 with
    | true => rfl
    | false => rfl
  | p :: ps, m, F, u7, hm, hl, hd, hs => by
    have hp := hd p (List.mem_cons_self ..)
    have p40 := hp.1
    have hm : m + (ps.length + 1) ≤ 6 := hm
    have nx (F' : Nat → Bool) (u : Int64) (h' : sw F' u) (he : ∀ s, s < 64 → F' s = (F s && (!ned p.2.1 || s.testBit m))) : v_71_126 q (d + 1) r u (n32 p.1) (n32 m) S = some ((0, n32 (anyF (fun s => F s && neds (p :: ps) m s) 64 0).toNat, 0, 0), S) := by
      rw [e_71_126, ok_sh hr (k := 71) rfl, g_t, ok_a10 hr (k := 71) rfl, g_t, in_ar hr q p40 (by omega) (by omega), g_t, n32_cl (by omega), hl.1, n32_add, ned_lp hr hw ps (m + 1) F' u (by omega) hl.2 (fun p' hp' => hd p' (List.mem_cons_of_mem _ hp')) h']
      have : anyF (fun s => F' s && neds ps (m + 1) s) 64 0 = anyF (fun s => F s && neds (p :: ps) m s) 64 0 := anyF_c 64 0 (fun s _ h64 => by
        rw [he s (by omega)]
        show _ = (F s && ((!ned p.2.1 || s.testBit m) && neds ps (m + 1) s))
        rw [Bool.and_assoc])
      rw [this]
    rw [show fsp (p :: ps) = p.1 from rfl, e_71_89, if_pos (by rw [n32_lt (by omega) (by omega)]; omega), n32_m1, i_eq (by omega) (by omega), if_neg (by omega), ok_sh hr (k := 71) rfl, g_t, ned_v q d hr p40 hp.2.1 hp.2.2.1, cI_0, i_bz, n32_in (by omega) (by omega), g_t, n32_cl (by omega), hw m (by omega)]
    cases hn : ned p.2.1 with
    | true =>
      rw [if_pos rfl]
      exact nx _ _ (sw_wo hs (by omega)) (fun s _ => by rw [hn]; rfl)
    | false =>
      rw [if_neg (by decide)]
      exact nx F _ hs (fun s _ => by rw [hn]; exact (Bool.and_true _).symm)
def gW (S0 : ab_S) (c : ctx) (cnt : Nat) (x : ab_S → ab_R) (P : Int64 → Prop) : Prop := ∀ S, mx S0 S → mm c cnt S → ∃ S' w, mx S0 S' ∧ mm c cnt S' ∧ P w ∧ x S = some ((0, 0, w, 0), S')
theorem pai_lp {q r : Nat} (hr : isSh r) {S0 : ab_S} {c : ctx} {cnt bn : Nat} (h : cx S0 c cnt bn) {L : Nat} (hF : FR q S0 c cnt (L + 1)) {lv d : Nat} (h1 : L ≤ lv) (h2 : lv ≤ 21) (h4 : 4 * (21 - lv) + 4 ≤ d) {b : Nat} (hb : b ≤ 40) {k : Nat} (hk : k < cnt) (hv : bhd c k < cnt) {F : Nat → Bool} {u5 : Int64} (h5 : sw F u5) : ∀ ps m G u8, m + ps.length ≤ 6 → lnp r S0 ps → (∀ p, p ∈ ps → dP q r S0 b true p) → sw G u8 → gW S0 c cnt (v_72_20 q (d + 1) r (n32 k) (n32 lv) u5 (n32 (bhd c k)) u8 (n32 (fsp ps)) (n32 m)) (sw fun s => G s || pai c lv k F ps m s)
  | [], m, G, u8, hm, _, _, hs => fun S m1 m2 => by
    refine ⟨S, u8, m1, m2, sw_cg hs (fun s _ => (Bool.or_false _).symm), ?_⟩
    rw [show fsp [] = 4294967295 from rfl, e_72_20, n32_m1, if_pos (rfl : n32 4294967295 = n32 4294967295), ite_self, e_72_157]
  | p :: ps, m, G, u8, hm, hl, hd, hs => fun S m1 m2 => by
    have hp := hd p (List.mem_cons_self ..)
    have hk7 := hp.2.2.2.2.2 rfl
    have p40 := hp.1
    have g := sh_ge hr
    have hm : m + (ps.length + 1) ≤ 6 := hm
    obtain ⟨S1, a1, a2, a3⟩ := fty hr h hF h1 h2 hk h4 hb hk7.2.2 S m1 m2
    rw [show fsp (p :: ps) = p.1 from rfl, e_72_20, if_pos (by rw [n32_lt (by omega) (by omega)]; omega), n32_m1, i_eq (by omega) (by omega), if_neg (by omega), ok_sh hr (k := 72) rfl, g_t, ok_a7 hr (k := 72) rfl, g_t, in_ar hr q p40 (by omega) (by omega), g_t, n32_cl (show p.1 < 2147483648 by omega), m1.2 (r + 7) p.1 (by omega) (by omega), hk7.1, a3, cI_0, i_bz]
    -- on to the next member
    have nx (S' : ab_S) (n1 : mx S0 S') (n2 : mm c cnt S') (G' : Nat → Bool) (u : Int64) (hu : sw G' u) : ∃ S'' w, mx S0 S'' ∧ mm c cnt S'' ∧ sw (fun s => G' s || pai c lv k F ps (m + 1) s) w ∧ v_72_142 q (d + 1) r (n32 k) (n32 lv) u5 (n32 (bhd c k)) u (n32 p.1) (n32 m) S' = some ((0, 0, w, 0), S'') := by
      rw [e_72_142, ok_sh hr (k := 72) rfl, g_t, ok_a10 hr (k := 72) rfl, g_t, in_ar hr q p40 (by omega) (by omega), g_t, n32_cl (by omega), n1.2 (r + 10) p.1 (by omega) (by omega), hl.1, n32_add]
      exact pai_lp hr h hF h1 h2 h4 hb hk hv h5 ps (m + 1) G' u (by omega) hl.2 (fun p' hp' => hd p' (List.mem_cons_of_mem _ hp')) hu S' n1 n2
    have ex (s : Nat) : pai c lv k F (p :: ps) m s = (((lvl lv (anyS p.2.2.1 c k lv) && lvl lv (anyS p.2.2.2.2 c (bhd c k) lv)) && put F m (mny p.2.1) s) || (!(lvl lv (anyS p.2.2.1 c k lv) && p.2.2.2.1) && pai c lv k F ps (m + 1) s)) := rfl
    cases hkf : lvl lv (anyS p.2.2.1 c k lv) with
    | false =>
      rw [if_neg (by decide), e_72_124, show n32 (false).toNat = n32 0 from rfl, if_pos rfl]
      obtain ⟨S2, w, b1, b2, b3, b4⟩ := nx S1 a1 a2 G u8 hs
      refine ⟨S2, w, b1, b2, sw_cg b3 (fun s _ => ?_), b4⟩
      rw [ex, hkf]
      rfl
    | true =>
      rw [if_pos rfl]
      -- behind the pair: is the key kept?
      have kp (S' : ab_S) (n1 : mx S0 S') (n2 : mm c cnt S') (G' : Nat → Bool) (u : Int64) (hu : sw G' u) : ∃ S'' w, mx S0 S'' ∧ mm c cnt S'' ∧ sw (fun s => G' s || (!p.2.2.2.1 && pai c lv k F ps (m + 1) s)) w ∧ v_72_124 q (d + 1) r (n32 k) (n32 lv) u5 (n32 (bhd c k)) u (n32 p.1) (n32 m) (n32 (true).toNat) S' = some ((0, 0, w, 0), S'') := by
        rw [e_72_124, if_neg (show ¬ n32 (true).toNat = n32 0 from one_z), ok_sh hr (k := 72) rfl, g_t, ok_a9 hr (k := 72) rfl, g_t, in_ar hr q p40 (by omega) (by omega), g_t, n32_cl (by omega), n1.2 (r + 9) p.1 (by omega) (by omega), hk7.2.1, i_bz]
        cases hkp : p.2.2.2.1 with
        | true =>
          rw [if_pos rfl]
          exact ⟨S', u, n1, n2, sw_cg hu (fun s _ => (Bool.or_false _).symm), rfl⟩
        | false =>
          rw [if_neg (by decide)]
          obtain ⟨S2, w, b1, b2, b3, b4⟩ := nx S' n1 n2 G' u hu
          exact ⟨S2, w, b1, b2, b3, b4⟩
      obtain ⟨S2, c1, c2, c3⟩ := fty hr h hF h1 h2 hv h4 hb hp.2.2.2.2.1 S1 a1 a2
      rw [ok_sh hr (k := 72) rfl, g_t, ok_a8 hr (k := 72) rfl, g_t, in_ar hr q p40 (by omega) (by omega), g_t, a1.2 (r + 8) p.1 (by omega) (by omega), hp.2.2.2.1, c3, cI_0, i_bz]
      cases hvf : lvl lv (anyS p.2.2.2.2 c (bhd c k) lv) with
      | false =>
        rw [if_neg (by decide)]
        obtain ⟨S3, w, b1, b2, b3, b4⟩ := kp S2 c1 c2 G u8 hs
        refine ⟨S3, w, b1, b2, sw_cg b3 (fun s _ => ?_), b4⟩
        rw [ex, hkf, hvf]
        rfl
      | true =>
        have w2 := (cx_mx h c1).2.2.2.2.2 m (by omega)
        rw [if_pos rfl, n32_in (by omega) (by omega), g_t, ok_sh hr (k := 72) rfl, g_t, mny_v q d hr p40 hp.2.1 ((c1.2 (r + 6) p.1 (by omega) (by omega)).trans hp.2.2.1), cI_0, i_bz, g_t, n32_cl (by omega), w2, e_72_121, e_72_121]
        have fin (mn : Bool) (hmn : mny p.2.1 = mn) (x : Int64) (hx : sw (fun s => mn && (F s && s.testBit m)) x) : ∃ S'' w, mx S0 S'' ∧ mm c cnt S'' ∧ sw (fun s => G s || pai c lv k F (p :: ps) m s) w ∧ v_72_124 q (d + 1) r (n32 k) (n32 lv) u5 (n32 (bhd c k)) ((u8 ||| ((u5 &&& ab_wo m) <<< (Int32.toInt64 (n32 1 <<< (n32 m &&& 31)) &&& 63))) ||| x) (n32 p.1) (n32 m) (n32 (true).toNat) S2 = some ((0, 0, w, 0), S'') := by
          obtain ⟨S3, w, b1, b2, b3, b4⟩ := kp S2 c1 c2 _ _ (sw_or (sw_or hs (sw_sh h5 (by omega : m < 6))) hx)
          refine ⟨S3, w, b1, b2, sw_cg b3 (fun s _ => ?_), b4⟩
          rw [ex, hkf, hvf]
          unfold put
          rw [hmn]
          cases G s <;> cases F s <;> cases F (s - 2 ^ m) <;> cases s.testBit m <;> cases mn <;> rfl
        cases hmn : mny p.2.1 with
        | true =>
          rw [if_pos rfl]
          exact fin true hmn _ (sw_cg (sw_wo h5 (by omega)) (fun s _ => rfl))
        | false =>
          rw [if_neg (by decide)]
          exact fin false hmn _ (sw_cg sw_z (fun s _ => rfl))
theorem pai_z {c : ctx} {lv k : Nat} {F : Nat → Bool} (hF : ∀ s, s < 64 → F s = false) : ∀ ps m s, s < 64 → pai c lv k F ps m s = false
  | [], _, _, _ => rfl
  | p :: ps, m, s, hs => by
    show (((lvl lv (anyS p.2.2.1 c k lv) && lvl lv (anyS p.2.2.2.2 c (bhd c k) lv)) && put F m (mny p.2.1) s) || (!(lvl lv (anyS p.2.2.1 c k lv) && p.2.2.2.1) && pai c lv k F ps (m + 1) s)) = false
    unfold put
    rw [hF s hs, hF (s - 2 ^ m) (Nat.lt_of_le_of_lt (Nat.sub_le _ _) hs), pai_z hF ps (m + 1) s hs]
    simp
theorem shr_z {c : ctx} {lv e : Nat} {ps : List prt} : ∀ n k F, (∀ s, s < 64 → F s = false) → ∀ s, s < 64 → shr c lv e ps n k F s = false
  | 0, _, _, h, s, hs => h s hs
  | n + 1, k, F, h, s, hs => by
    unfold shr
    split
    · exact shr_z n _ _ (pai_z h ps 0) s hs
    · exact h s hs
theorem ch_2 {g : Nat → Nat} {z k e : Nat} (h : ch g (2 * z) k e) (hk : k < e) : g k < e ∧ ∃ z', ch g (2 * z') (g (g k)) e := by
  cases z with
  | zero => have : k = e := h; omega
  | succ z =>
    have h' : ch g (2 * z + 1 + 1) k e := h
    exact ⟨h'.2.2.2.1, z, h'.2.2.2.2.2.2⟩
theorem shr_lp {q r : Nat} (hr : isSh r) {S0 : ab_S} {c : ctx} {cnt bn : Nat} (h : cx S0 c cnt bn) {L : Nat} (hF : FR q S0 c cnt (L + 1)) {lv d : Nat} (h1 : L ≤ lv) (h2 : lv ≤ 21) (h4 : 4 * (21 - lv) + 5 ≤ d) {b : Nat} (hb : b ≤ 40) {e : Nat} (he : e ≤ cnt) {ps : List prt} (hl : ps.length ≤ 6) (hn : lnp r S0 ps) (hd : ∀ p, p ∈ ps → dP q r S0 b true p) : ∀ n j k F u7, j + n = 24 → k ≤ 24 → (∃ z, ch (bhd c) (2 * z) k e) → sw F u7 → gA S0 c cnt (v_71_22 q (d + 1) r (n32 (fsp ps)) (n32 lv) (n32 e) (n32 k) u7 (n32 j)) (anyF (fun s => shr c lv e ps n k F s && neds ps 0 s) 64 0)
  | n, j, k, F, u7, hj, hk, hz, hs => fun S m1 m2 => by
    have hc := h.2.1
    have fin (S' : ab_S) (n1 : mx S0 S') (F' : Nat → Bool) (u : Int64) (h' : sw F' u) : v_71_83 q (d + 1) r (n32 (fsp ps)) u S' = some ((0, n32 (anyF (fun s => F' s && neds ps 0 s) 64 0).toNat, 0, 0), S') := by
      rw [e_71_83]
      have g := sh_ge hr
      have fr : ∀ i, 1 ≤ i → i ≤ 10 → ∀ y, S'.1 (r + i) y = S0.1 (r + i) y := fun i i1 i2 y => n1.2 (r + i) y (by omega) (by omega)
      refine ned_lp hr (fun x hx => (cx_mx h n1).2.2.2.2.2 x hx) (b := b) (mp := true) ps 0 F' u (by omega) (lnp_fr fr ps hn) (fun p hp => dP_fr fr (hd p hp)) h'
    cases n with
    | zero =>
      refine ⟨S, m1, m2, ?_⟩
      rw [e_71_22, if_neg (by rw [n32_lt (by omega) (by omega)]; omega)]
      exact fin S m1 F u7 hs
    | succ n =>
      rw [e_71_22, if_pos (by rw [n32_lt (by omega) (by omega)]; omega), i_lt (by omega) (by omega)]
      by_cases ke : k < e
      · rw [if_pos ke, i_ceq, i_sw hs]
        cases ha : anyF F 64 0 with
        | false =>
          rw [if_neg (by decide), fin S m1 F u7 hs]
          refine ⟨S, m1, m2, ?_⟩
          have z := fun s (hs : s < 64) => anyF_f 64 0 ha s (by omega) (by omega)
          rw [anyF_c (Q := fun s => shr c lv e ps (n + 1) k F s && neds ps 0 s) 64 0 (fun s _ h64 => by rw [z s (by omega), shr_z (n + 1) k F z s (by omega)])]
        | true =>
          obtain ⟨z, hz⟩ := hz
          have c2 := ch_2 hz ke
          have t0 := cx_1 h (by omega : k < cnt)
          have t1 := cx_1 h (by omega : bhd c k < cnt)
          obtain ⟨d, rfl⟩ := dsuc h4
          obtain ⟨S1, w, a1, a2, a3, a4⟩ := pai_lp hr h hF h1 h2 (by omega : 4 * (21 - lv) + 4 ≤ d) hb (by omega : k < cnt) (by omega) hs ps 0 (fun _ => false) (n64 0) (by omega) hn hd sw_z S m1 m2
          have t2 := cx_1 (cx_mx h m1) (by omega : k < cnt)
          have t3 := cx_1 (cx_mx h a1) (by omega : k < cnt)
          have t4 := cx_1 (cx_mx h a1) (by omega : bhd c k < cnt)
          have e5 : v_72_0 q (d + 1) r (n32 (fsp ps)) (n32 k) (n32 lv) u7 S = some ((0, 0, w, 0), S1) := by
            rw [e_72_0, n32_in (by omega) (by omega), g_t, n32_cl (by omega), t2.2.2.2.2.1]
            exact a4
          rw [if_pos rfl, e5, cL_0, n32_in (by omega) (by omega), g_t, n32_cl (by omega), t3.2.2.2.2.1, n32_in (by omega) (by omega), g_t, n32_cl (by omega), t4.2.2.2.2.1, n32_add]
          have e6 : shr c lv e ps (n + 1) k F = shr c lv e ps n (bhd c (bhd c k)) (pai c lv k F ps 0) := by
            show (if k < e then _ else _) = _
            rw [if_pos ke]
          rw [e6]
          exact shr_lp hr h hF h1 h2 h4 hb he hl hn hd n (j + 1) (bhd c (bhd c k)) (pai c lv k F ps 0) w (by omega) t4.2.2.2.2.2.2.2 c2.2 (sw_cg a3 (fun s _ => Bool.false_or _)) S1 a1 a2
      · rw [if_neg ke, fin S m1 F u7 hs]
        refine ⟨S, m1, m2, ?_⟩
        have e6 : shr c lv e ps (n + 1) k F = F := by
          show (if k < e then _ else _) = _
          rw [if_neg ke]
        rw [e6]
theorem sw_1 : sw (fun s => decide (s = 0)) (n64 1) := by
  have : ∀ s, s < 64 → (n64 1).toBitVec.getLsbD s = decide (s = 0) := by decide +kernel
  exact this
theorem k66_123 {q d r x i : Nat} (hr : isSh r) (hx : x < 40) {S0 : ab_S} {c : ctx} {cnt bn : Nat} (h : cx S0 c cnt bn) (hi : i < cnt) (hk : S0.1 (r + 2) x = n32 123) {ps : List prt} (h4 : S0.1 (r + 4) x = n32 (fsp ps)) {L : Nat} (hF : FR q S0 c cnt (L + 1)) {lv : Nat} (l1 : L ≤ lv) (l2 : lv ≤ 20) (hd : 4 * (21 - lv) + 3 ≤ d) {b : Nat} (hb : b ≤ 40) (hl : ps.length ≤ 6) (hn : lnp r S0 ps) (hp : ∀ p, p ∈ ps → dP q r S0 b true p) : gA S0 c cnt (v_66_0 q d r (n32 x) (n32 i) (n32 lv)) (maS ps c i lv) := by
  obtain ⟨d, rfl⟩ := dsuc hd
  obtain ⟨d, rfl⟩ := dsuc (by omega : 4 * (21 - lv) + 1 + 1 ≤ d)
  intro S m1 m2
  have t := cx_1 (cx_mx h m1) hi
  have g := sh_ge hr
  have rd (j y : Nat) (hj : j ≤ 10) : S.1 (r + j) y = S0.1 (r + j) y := m1.2 (r + j) y (by omega) (by omega)
  have hk' := (rd 2 x (by omega)).trans hk
  have e : v_66_0 q (d + 1 + 1) r (n32 x) (n32 i) (n32 lv) S = if maj c i = 5 then (cI (v_71_22 q (d + 1) r (n32 (fsp ps)) (n32 (lv + 1)) (n32 (bhd c i)) (n32 (i + 1)) (n64 1) (n32 0) S) fun y2 S2 => (if y2 = (n32 0) then (v_66_325 q (d + 1 + 1) S2) else (v_66_326 q (d + 1 + 1) (n32 1) S2))) else (v_66_325 q (d + 1 + 1) S) := by
    rw [e_66_0, n32_in (by omega) (by omega), g_t, ok_sh hr (k := 66) rfl, g_t, ok_a2 hr (k := 66) rfl, g_t, in_ar hr q hx (by omega) (by omega), g_t, n32_cl (show x < 2147483648 by omega), hk', if_neg (by decide : ¬ n32 123 = n32 34), if_neg (by decide : ¬ n32 123 = n32 35), if_neg (by decide : ¬ n32 123 = n32 46), if_neg (by decide : ¬ n32 123 = n32 48), if_neg (by decide : ¬ n32 123 = n32 65), if_neg (by decide : ¬ n32 123 = n32 91), if_neg (by decide : ¬ n32 123 = n32 98), if_neg (by decide : ¬ n32 123 = n32 105), if_neg (by decide : ¬ n32 123 = n32 110), if_neg (by decide : ¬ n32 123 = n32 115), if_neg (by decide : ¬ n32 123 = n32 116), if_neg (by decide : ¬ n32 123 = n32 121), if_pos rfl, n32_cl (by omega), t.2.1, i_eq (by omega) (by omega), g_t, ok_a4 hr (k := 66) rfl, g_t, in_ar hr q hx (by omega) (by omega), g_t, rd 4 x (by omega), h4, n32_add, e_71_0, n32_in (by omega) (by omega), g_t, n32_cl (by omega), t.2.2.2.2.1, n32_add]
  rw [e]
  unfold maS
  by_cases g5 : maj c i = 5
  · rw [if_pos g5, decide_eq_true g5, Bool.true_and]
    have f := h.2.2.2.2.1 i hi
    have f5 := f.1.2.2.2.2.2.1
    have g5' : c.2.1 0 i = 5 := g5
    rw [g5', show inn 5 (c.2.1 1 i) = 2 * c.2.1 1 i from rfl] at f5
    obtain ⟨S2, k1, k2, k3⟩ := shr_lp hr h hF (by omega : L ≤ lv + 1) (by omega) (by omega : 4 * (21 - (lv + 1)) + 5 ≤ d) hb (h.2.2.2.2.1 i hi).2 hl hn hp 24 0 (i + 1) _ _ rfl (by omega) ⟨_, f5⟩ sw_1 S m1 m2
    refine ⟨S2, k1, k2, ?_⟩
    have k3' : v_71_22 q (d + 1) r (n32 (fsp ps)) (n32 (lv + 1)) (n32 (bhd c i)) (n32 (i + 1)) (n64 1) (n32 0) S = _ := k3
    rw [k3', cI_0, i_bz, e_66_325, e_66_326, e_66_326, nz_0, nz_1]
    show (if anyF (fun s => shr c (lv + 1) (bhd c i) ps 24 (i + 1) (fun s => decide (s = 0)) s && neds ps 0 s) 64 0 = true then _ else _) = _
    cases anyF (fun s => shr c (lv + 1) (bhd c i) ps 24 (i + 1) (fun s => decide (s = 0)) s && neds ps 0 s) 64 0 with
    | true => rfl
    | false => rfl
  · rw [if_neg g5, decide_eq_false g5, Bool.false_and, e_66_325, e_66_326, nz_0]
    exact ⟨S, m1, m2, rfl⟩
