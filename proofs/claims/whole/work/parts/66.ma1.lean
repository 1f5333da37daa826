-- Matching in the reference: entries.
theorem tak_s (g : Nat → Nat) (f : Nat → Bool) (e n i : Nat) : tak g f e (n + 1) i = if i < e ∧ f i = true then tak g f e n (g i) else i := rfl
/-- items are taken by one entry -/
theorem tk_lp (q d : Nat) {S : ab_S} {B : Nat → Nat → Nat → Bool} {c : ctx} {cnt bn : Nat} (hI : mI S c.1 c.2.1 cnt bn) {r p i lv pn : Nat} (hr : r < 8) (hi : i < cnt) (hl : lv ≤ 20) (hb : mB S B i cnt r p lv) {P : Nat → Nat → Nat} {tx : Nat → Nat} {tn : Nat} (hQ : mQ S r pn P tx tn) {a : Nat} (ha : a < pn) (ka : P 0 a = 13) (hv2 : P 2 a < pn) : ∀ F x k (one : Bool), i < x → (∃ z, ch (bhd c) z x (bhd c i)) → (one = false → bhd c i ≤ x + F) → (one = true → F + k = 1) → F + k ≤ 24 → ∃ k', k ≤ k' ∧ k' ≤ 24 ∧ (k < k' ↔ tak (bhd c) (fun y => hv (Br B r) (lv + 1) y (P 2 a)) (bhd c i) F x ≠ x) ∧ x ≤ tak (bhd c) (fun y => hv (Br B r) (lv + 1) y (P 2 a)) (bhd c i) F x ∧ (∃ z, ch (bhd c) z (tak (bhd c) (fun y => hv (Br B r) (lv + 1) y (P 2 a)) (bhd c i) F x) (bhd c i)) ∧ v_113_58 q (d + 1) (n32 i) (n32 lv) (n32 x) (n32 (64 * r + a)) (n32 one.toNat) (n32 k) S = v_113_114 q (d + 1) (n32 i) (n32 lv) (n32 (tak (bhd c) (fun y => hv (Br B r) (lv + 1) y (P 2 a)) (bhd c i) F x)) (n32 (64 * r + a)) (n32 k') S
  | F, x, k, one, hx, he, h0, h1, h24 => by
    have hxe : x ≤ bhd c i := by
      obtain ⟨z, hz⟩ := he
      cases z with
      | zero => exact Nat.le_of_eq hz
      | succ z => exact Nat.le_of_lt hz.1
    have c24 := hI.1
    have p60 := hQ.1
    have ei := (hI.2.2.2.2.2 i hi).2
    have e140 : S.1 140 i = n32 (bhd c i) := (hI.2.2.1.2 i hi).2.2.2.2
    have ei' : bhd c i ≤ cnt := ei
    have o := (hQ.2.1 a ha).2.2.1
    have o' : S.1 127 (64 * r + a) = n32 (64 * r + P 2 a) := by
      rw [o, ka]
      exact eO_some (by omega)
    have hd : v_113_58 q (d + 1) (n32 i) (n32 lv) (n32 x) (n32 (64 * r + a)) (n32 one.toNat) (n32 k) S = if x < bhd c i then (if hv (Br B r) (lv + 1) x (P 2 a) = true then (if one = true then (if k = 1 then v_113_114 q (d + 1) (n32 i) (n32 lv) (n32 x) (n32 (64 * r + a)) (n32 k) S else v_113_99 q (d + 1) (n32 i) (n32 lv) (n32 x) (n32 (64 * r + a)) (n32 one.toNat) (n32 k) S) else v_113_99 q (d + 1) (n32 i) (n32 lv) (n32 x) (n32 (64 * r + a)) (n32 one.toNat) (n32 k) S) else v_113_114 q (d + 1) (n32 i) (n32 lv) (n32 x) (n32 (64 * r + a)) (n32 k) S) else v_113_114 q (d + 1) (n32 i) (n32 lv) (n32 x) (n32 (64 * r + a)) (n32 k) S := by
      rw [e_113_58, n32_in (by omega) (by omega), g_t, n32_cl (by omega), e140, i_lt (by omega) (by omega)]
      by_cases g : x < bhd c i
      · rw [if_pos g, if_pos g, n32_in (by omega) (by omega), g_t, n32_cl (by omega), o', n32_add, has_u q d c24 hr hl hb (by omega) (by omega) (by omega) hr, cI_0, i_bz, i_bz, i_eq (by omega) (by omega)]
      · rw [if_neg g, if_neg g]
    rw [hd]
    by_cases g : x < bhd c i
    · rw [if_pos g]
      cases hf : hv (Br B r) (lv + 1) x (P 2 a) with
      | false =>
        have tk : tak (bhd c) (fun y => hv (Br B r) (lv + 1) y (P 2 a)) (bhd c i) F x = x := by
          cases F with
          | zero => rfl
          | succ F => rw [tak_s]; exact if_neg (fun z => by rw [hf] at z; cases z.2)
        rw [tk]
        exact ⟨k, Nat.le_refl _, by omega, ⟨fun z => by omega, fun z => absurd rfl z⟩, Nat.le_refl _, he, if_neg (by decide)⟩
      | true =>
        rw [if_pos rfl]
        cases F with
        | zero =>
          cases one with
          | false =>
            have := h0 rfl
            omega
          | true =>
            have k1 := h1 rfl
            rw [if_pos rfl, if_pos (by omega)]
            exact ⟨k, Nat.le_refl _, by omega, ⟨fun z => by omega, fun z => absurd rfl z⟩, Nat.le_refl _, he, rfl⟩
        | succ F =>
          have fx := (hI.2.2.2.2.2 x (by omega))
          have gx : x < bhd c x := fx.1.2.2.2.2.1
          have lx : ∃ z, ch (bhd c) z (bhd c x) (bhd c i) := by
            obtain ⟨z, hz⟩ := he
            cases z with
            | zero => exact absurd (show x = bhd c i from hz) (by omega)
            | succ z => exact ⟨z, hz.2.2.2⟩
          have st : v_113_99 q (d + 1) (n32 i) (n32 lv) (n32 x) (n32 (64 * r + a)) (n32 one.toNat) (n32 k) S = v_113_58 q (d + 1) (n32 i) (n32 lv) (n32 (bhd c x)) (n32 (64 * r + a)) (n32 one.toNat) (n32 (k + 1)) S := by
            have e1 : S.1 140 x = n32 (bhd c x) := (hI.2.2.1.2 x (by omega)).2.2.2.2
            rw [e_113_99, n32_in (by omega) (by omega), g_t, n32_cl (by omega), e1, n32_add]
          obtain ⟨k', a1, a2, a3, a4, a5, a6⟩ := tk_lp q d hI hr hi hl hb hQ ha ka hv2 F (bhd c x) (k + 1) one (by omega) lx (fun z => by have := h0 z; omega) (fun z => by have := h1 z; omega) (by omega)
          have tk : tak (bhd c) (fun y => hv (Br B r) (lv + 1) y (P 2 a)) (bhd c i) (F + 1) x = tak (bhd c) (fun y => hv (Br B r) (lv + 1) y (P 2 a)) (bhd c i) F (bhd c x) := by
            rw [tak_s]
            exact if_pos ⟨g, hf⟩
          rw [tk, st]
          refine ⟨k', by omega, a2, ⟨fun _ => by omega, fun _ => by omega⟩, by omega, a5, ?_⟩
          cases one with
          | false => exact (if_neg (by decide)).trans a6
          | true =>
            have := h1 rfl
            rw [if_pos rfl, if_neg (by omega)]
            exact a6
    · have tk : tak (bhd c) (fun y => hv (Br B r) (lv + 1) y (P 2 a)) (bhd c i) F x = x := by
        cases F with
        | zero => rfl
        | succ F => rw [tak_s]; exact if_neg (fun z => g z.1)
      rw [tk, if_neg g]
      exact ⟨k, Nat.le_refl _, by omega, ⟨fun z => by omega, fun z => absurd rfl z⟩, Nat.le_refl _, he, rfl⟩
theorem wi_ch {g : Nat → Nat} {z x e : Nat} (h : ch g z x e) : x ≤ e := by
  cases z with
  | zero => exact Nat.le_of_eq h
  | succ z => exact Nat.le_of_lt h.1
theorem fi0r (q d : Nat) (i lv x : Nat) (u6 : Int32) (S : ab_S) : v_113_16 q (d + 1) (n32 i) (n32 lv) (n32 x) (n32 0) u6 S = some ((0, n32 0, 0, 0), S) := by
  rw [e_113_16, if_pos rfl, e_113_162, if_pos rfl, e_113_182, e_113_183, nz_0]
  split <;> rfl
/-- the entries of an array take all its items -/
theorem ent_r (q d : Nat) {S : ab_S} {B : Nat → Nat → Nat → Bool} {c : ctx} {cnt bn : Nat} (hI : mI S c.1 c.2.1 cnt bn) {r p i lv pn : Nat} (hr : r < 8) (hi : i < cnt) (hl : lv ≤ 20) (hb : mB S B i cnt r p lv) {P : Nat → Nat → Nat} {tx : Nat → Nat} {tn : Nat} (hQ : mQ S r pn P tx tn) {ey : Nat} (hey : ey ≤ pn) : ∀ n N lo a x, n < N → rch P false n lo a ey → i < x → (∃ z, ch (bhd c) z x (bhd c i)) → v_113_16 q (d + 1) (n32 i) (n32 lv) (n32 x) (n32 1) (eO (64 * r) a) S = some ((0, n32 (entC P c (hv (Br B r) (lv + 1)) (bhd c i) N a x).toNat, 0, 0), S)
  | 0, N, lo, a, x, hN, h, hx, hz => by
    have c24 := hI.1
    have e140 : S.1 140 i = n32 (bhd c i) := (hI.2.2.1.2 i hi).2.2.2.2
    have ei : bhd c i ≤ cnt := (hI.2.2.2.2.2 i hi).2
    have xe : x ≤ bhd c i := by
      obtain ⟨z, hz⟩ := hz
      exact wi_ch hz
    have h' : a = 4294967295 := h
    have en : entC P c (hv (Br B r) (lv + 1)) (bhd c i) N a x = decide (x = bhd c i) := by
      cases N with
      | zero => rfl
      | succ N => exact if_pos h'
    rw [en, h', eO_none, e_113_16, if_pos m1_lt, e_113_162, if_neg one_z, n32_in (by omega) (by omega), g_t, n32_cl (by omega), e140, i_eq (by omega) (by omega), e_113_182, e_113_183, e_113_183, nz_0, nz_1]
    by_cases g : x = bhd c i
    · rw [if_pos g, decide_eq_true g]
      rfl
    · rw [if_neg g, decide_eq_false g]
      rfl
  | n + 1, 0, lo, a, x, hN, h, hx, hz => absurd hN (Nat.not_lt_zero _)
  | n + 1, N + 1, lo, a, x, hN, h, hx, hz => by
    obtain ⟨h1, h2, h3, h4, h5, h6, h7, h8⟩ := h
    have c24 := hI.1
    have p60 := hQ.1
    have ei : bhd c i ≤ cnt := (hI.2.2.2.2.2 i hi).2
    have o := hQ.2.1 a (by omega)
    have o4 := o.2.2.2.2
    have o3 := o.2.2.2.1
    have P4 : P 4 a < 64 := by rcases h4 with z | z | z | z <;> omega
    have en : entC P c (hv (Br B r) (lv + 1)) (bhd c i) (N + 1) a x = if tak (bhd c) (fun y => hv (Br B r) (lv + 1) y (P 2 a)) (bhd c i) (bif mny (P 4 a) then 24 else 1) x = x ∧ neR (P 4 a) = true then false else entC P c (hv (Br B r) (lv + 1)) (bhd c i) N (P 3 a) (tak (bhd c) (fun y => hv (Br B r) (lv + 1) y (P 2 a)) (bhd c i) (bif mny (P 4 a) then 24 else 1) x) := if_neg (by omega)
    have e0 : v_113_16 q (d + 1) (n32 i) (n32 lv) (n32 x) (n32 1) (eO (64 * r) a) S = v_113_58 q (d + 1) (n32 i) (n32 lv) (n32 x) (n32 (64 * r + a)) (n32 (!mny (P 4 a)).toNat) (n32 0) S := by
      rw [eO_some (by omega), e_113_16, if_neg (by rw [n32_lt (by omega) (by omega)]; omega), if_neg one_z, n32_in (by omega) (by omega), g_t, g_t, n32_cl (by omega), o4, i_eq (by omega) (by omega), i_eq (by omega) (by omega), e_113_48, e_113_53, e_113_53]
      rcases h4 with z | z | z | z <;> rw [z] <;> rfl
    obtain ⟨k', a1, a2, a3, a4, ⟨z', a5⟩, a6⟩ := tk_lp q d hI hr hi hl hb hQ (by omega : a < pn) h3 (by omega) (bif mny (P 4 a) then 24 else 1) x 0 (!mny (P 4 a)) hx hz (fun z => by
      cases hm : mny (P 4 a) with
      | true => show bhd c i ≤ x + 24; omega
      | false => rw [hm] at z; cases z) (fun z => by
      cases hm : mny (P 4 a) with
      | true => rw [hm] at z; cases z
      | false => rfl) (by cases mny (P 4 a) <;> decide)
    rw [en, e0, a6]
    revert a3 a4 a5
    generalize tak (bhd c) (fun y => hv (Br B r) (lv + 1) y (P 2 a)) (bhd c i) (bif mny (P 4 a) then 24 else 1) x = x'
    intro a3 a4 a5
    have xe := wi_ch a5
    have nx : v_113_148 q (d + 1) (n32 i) (n32 lv) (n32 x') (n32 (64 * r + a)) (n32 1) S = some ((0, n32 (entC P c (hv (Br B r) (lv + 1)) (bhd c i) N (P 3 a) x').toNat, 0, 0), S) := by
      rw [e_113_148, n32_in (by omega) (by omega), g_t, n32_cl (by omega), o3]
      exact ent_r q d hI hr hi hl hb hQ hey n N (a + 1) (P 3 a) x' (by omega) h8 (by omega) ⟨z', a5⟩
    have n0 : v_113_148 q (d + 1) (n32 i) (n32 lv) (n32 x') (n32 (64 * r + a)) (n32 0) S = some ((0, n32 0, 0, 0), S) := by
      rw [e_113_148, n32_in (by omega) (by omega), g_t, fi0r]
    rw [e_113_114, i_lt (by omega) (by omega), n32_in (by omega) (by omega), g_t, g_t, n32_cl (by omega), o4, i_eq (by omega) (by omega), i_eq (by omega) (by omega), e_113_143, nx, n0]
    by_cases g : 0 < k'
    · rw [if_pos g, if_neg (fun z => a3.mp g z.1)]
    · have xx : x' = x := Classical.byContradiction (fun z => g (a3.mpr z))
      rw [if_neg g]
      rcases h4 with z | z | z | z <;> rw [z]
      · rw [if_neg (by decide), if_neg (by decide), if_pos ⟨xx, rfl⟩]
        rfl
      · rw [if_pos rfl, if_neg (fun w => by cases w.2)]
      · rw [if_neg (by decide), if_pos rfl, if_neg (fun w => by cases w.2)]
      · rw [if_neg (by decide), if_neg (by decide), if_pos ⟨xx, rfl⟩]
        rfl
