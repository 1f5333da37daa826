-- The reference reads types: how it goes on.
noncomputable def LT (q e : Nat) (S : ab_S) : ab_R := v_95_74 q (e + 5) (n32 1) S
noncomputable def GO (q e : Nat) (S : ab_S) : ab_R := cI (v_94_2 q (e + 4) (n32 1) S) fun y1 S1 => (if y1 = (n32 0) then (v_95_127 q (e + 5) S1) else (v_95_123 q (e + 5) S1))
theorem fin_0 (q e : Nat) {S : ab_S} (h : S.1 117 16 = n32 1) : v_95_127 q (e + 5) S = some ((0, n32 0, 0, 0), S) := by
  rw [e_95_127, e_95_128, e_95_74, if_pos rfl, e_95_132, h, if_neg one_z, e_95_144, nz_0]
theorem fin_1 (q e : Nat) {S : ab_S} (h : S.1 117 16 = n32 0) : v_95_127 q (e + 5) S = some ((0, n32 1, 0, 0), S) := by
  rw [e_95_127, e_95_128, e_95_74, if_pos rfl, e_95_132, h, if_pos rfl, e_95_144, nz_1]
theorem fin_b (q e : Nat) {S : ab_S} (h : S.1 117 16 = n32 1) (s0 : Int32) : v_95_104 q (e + 5) s0 S = some ((0, n32 0, 0, 0), S) := by
  rw [e_95_104, h, if_neg one_z, fin_0 q e h]
theorem fin_L (q e : Nat) (S : ab_S) : v_95_123 q (e + 5) S = LT q e S := by
  rw [e_95_123, e_95_128]
  rfl
theorem fin_G (q e : Nat) {S : ab_S} (h : S.1 117 16 = n32 0) : v_95_104 q (e + 5) (n32 1) S = GO q e S := by
  rw [e_95_104, h, if_pos rfl, if_neg one_z, e_94_0]
  rfl
theorem lt_1 (q e : Nat) {S : ab_S} (h : S.1 117 16 = n32 0) : LT q e S = (cI (v_92_0 q (e + 4) S) fun y1 S1 => (if y1 = (n32 0) then (cI (v_93_0 q (e + 4) S1) fun y2 S2 => (if y2 = (n32 0) then (v_95_104 q (e + 5) (n32 0) S2) else (v_95_99 q (e + 5) S2))) else (v_95_99 q (e + 5) S1))) := by
  unfold LT
  rw [e_95_74, if_neg one_z, h, if_pos rfl]
theorem go_k1 (q e : Nat) {t : Nat → Nat} {n : Nat} (ht : tok t n) {S : ab_S} {at' dp al pn ld br : Nat} {P K : Nat → Nat → Nat} (h : RS S t n at' 0 dp al pn ld br P K) (hd : dp ≤ 4) (hp : pn < 128) (ha : at' ≤ n) (hk : K 6 dp = 1) (h3 : K 3 dp < pn) (h14 : P 0 (K 3 dp) = 14) (h1 : 1 ≤ dp) (c : chr t n at' = 58) : ∃ S', gr S S' ∧ RS S' t n (at' + 1) 0 dp al (pn + 1) ld br (uP (nwP P pn) 2 (K 3 dp) pn) (nwK (uP K 6 dp 0) dp pn) ∧ GO q e S = LT q e S' := by
  have k := h.2.2.2.2.2.2.2.2.2.2 dp (Nat.le_refl _)
  have r1 := RS_k (RS_bd (RS_at h (at' + 1)) 0) (j := 6) (by omega) dp 0 (n32 0) rfl
  obtain ⟨S2, a1, a2, a3⟩ := nt_v q (e + 2) r1 hd hp
  have ep : n32 (512 + pn) = eO 512 pn := (eO_ge (by omega) (by decide)).symm
  have k3 : nwP P pn 0 (K 3 dp) = 14 := by
    unfold nwP
    rw [mkP_o P (by omega)]
    exact h14
  refine ⟨ab_wi S2 127 (512 + K 3 dp) (eO 512 pn), gr_wi (gr_tr (gr_wi (gr_wi (gr_wi (gr_rf S) _ (by omega)) _ (by omega)) _ (by omega)) a1) _ (by omega), RS_p a2 (j := 2) (Or.inr (Or.inl rfl)) nofun (fun _ => by rw [k3]; rfl) pn, ?_⟩
  have q3 : (ab_wi S 117 15 (n32 (at' + 1))).1 133 dp = eO 512 (K 3 dp) := (k.2.2.2.2 h1).2.1
  have q17 : (ab_wi S 117 15 (n32 (at' + 1))).1 117 17 = n32 dp := h.2.2.2.2.1
  unfold GO
  rw [e_94_2, if_neg one_z, h.2.2.2.1, if_pos rfl, h.2.2.2.2.1, n32_in (by omega) (by omega), g_t, g_t, n32_cl (by omega), k.2.2.2.1, hk, if_neg one_z, tk_v q _ ht h ha (by decide), if_pos c, cI_0, if_neg one_z, e_94_52, show ab_zb (n32 0) = true from rfl, g_t, q17, n32_in (by omega) (by omega), g_t, if_pos rfl, g_t, n32_cl (by omega), a3, cI_0, q3, eO_ge (by omega : K 3 dp < 1000) (by decide), n32_in (by omega) (by omega), g_t, n32_cl (by omega), ep, e_94_90, cI_0, if_neg one_z, fin_L]
theorem go_k0 (q e : Nat) {t : Nat → Nat} {n : Nat} (ht : tok t n) {S : ab_S} {at' dp al pn ld br : Nat} {P K : Nat → Nat → Nat} (h : RS S t n at' 0 dp al pn ld br P K) (hd : dp ≤ 4) (ha : at' ≤ n) (hk : K 6 dp = 1) (c : chr t n at' ≠ 58) : ∃ S', gr S S' ∧ GO q e S = some ((0, n32 0, 0, 0), S') := by
  have k := h.2.2.2.2.2.2.2.2.2.2 dp (Nat.le_refl _)
  refine ⟨ab_wi (ab_wi S 117 16 (n32 1)) 136 dp (n32 0), gr_wi (gr_wi (gr_rf S) _ (by omega)) _ (by omega), ?_⟩
  have bb : (ab_wi (ab_wi S 117 16 (n32 1)) 136 dp (n32 0)).1 117 16 = n32 1 := rfl
  unfold GO
  rw [e_94_2, if_neg one_z, h.2.2.2.1, if_pos rfl, h.2.2.2.2.1, n32_in (by omega) (by omega), g_t, g_t, n32_cl (by omega), k.2.2.2.1, hk, if_neg one_z, tk_v q _ ht h ha (by decide), if_neg c, cI_0, if_pos rfl, e_94_52, show ab_zb (n32 1) = true from rfl, g_t, h.2.2.2.2.1, n32_in (by omega) (by omega), g_t, if_neg one_z, n32_cl (by omega), e_94_90, cI_0, if_neg one_z, fin_L]
  unfold LT
  rw [e_95_74, if_neg one_z, bb, if_neg one_z, e_95_132, bb, if_neg one_z, e_95_144, nz_0]
theorem go_sl (q e : Nat) {t : Nat → Nat} {n : Nat} (ht : tok t n) {S : ab_S} {at' dp al pn ld br : Nat} {P K : Nat → Nat → Nat} (h : RS S t n at' 0 dp al pn ld br P K) (hd : dp ≤ 4) (ha : at' ≤ n) (hk : K 6 dp = 0) (c : chr t n at' = 47) : GO q e S = LT q e (ab_wi S 117 15 (n32 (at' + 1))) := by
  have k := h.2.2.2.2.2.2.2.2.2.2 dp (Nat.le_refl _)
  unfold GO
  rw [e_94_2, if_neg one_z, h.2.2.2.1, if_pos rfl, h.2.2.2.2.1, n32_in (by omega) (by omega), g_t, g_t, n32_cl (by omega), k.2.2.2.1, hk, if_pos rfl, tk_v q _ ht h ha (by decide), if_pos c, cI_0, if_neg one_z, cI_0, if_neg one_z, fin_L]
/-- the character that closes a bracket -/
def cls (b : Nat) : Nat := if b = 91 then 93 else if b = 123 then 125 else 41
/-- no / and no , : on to closing -/
theorem go_x (q e : Nat) {t : Nat → Nat} {n : Nat} (ht : tok t n) {S : ab_S} {at' dp al pn ld br : Nat} {P K : Nat → Nat → Nat} (h : RS S t n at' 0 dp al pn ld br P K) (hd : dp ≤ 4) (ha : at' ≤ n) (hb : K 0 dp < 128) (hk : K 6 dp = 0) (c : chr t n at' ≠ 47) (c2 : ¬ ((K 0 dp = 91 ∨ K 0 dp = 123) ∧ chr t n at' = 44)) : GO q e S = (cI (v_94_130 q (e + 4) (n32 0) (n32 (K 0 dp)) S) fun y1 S1 => (if y1 = (n32 0) then (v_95_127 q (e + 5) S1) else (v_95_123 q (e + 5) S1))) := by
  have k := h.2.2.2.2.2.2.2.2.2.2 dp (Nat.le_refl _)
  have e1 : v_94_2 q (e + 4) (n32 1) S = v_94_130 q (e + 4) (n32 0) (n32 (K 0 dp)) S := by
    rw [e_94_2, if_neg one_z, h.2.2.2.1, if_pos rfl, h.2.2.2.2.1, n32_in (by omega) (by omega), g_t, g_t, n32_cl (by omega), k.2.2.2.1, hk, if_pos rfl, tk_v q _ ht h ha (by decide), if_neg c, cI_0, if_pos rfl, k.1, i_eq (by omega) (by omega), i_eq (by omega) (by omega)]
    have e2 (hh : chr t n at' ≠ 44) : v_94_115 q (e + 4) (n32 0) (n32 (K 0 dp)) S = v_94_130 q (e + 4) (n32 0) (n32 (K 0 dp)) S := by
      rw [e_94_115, tk_v q _ ht h ha (by decide), if_neg hh, cI_0, if_pos rfl]
    by_cases b1 : K 0 dp = 91
    · rw [if_pos b1, e2 (fun z => c2 ⟨Or.inl b1, z⟩)]
    · rw [if_neg b1]
      by_cases b2 : K 0 dp = 123
      · rw [if_pos b2, e2 (fun z => c2 ⟨Or.inr b2, z⟩)]
      · rw [if_neg b2]
  unfold GO
  rw [e1]
theorem go_cl (q e : Nat) {t : Nat → Nat} {n : Nat} (ht : tok t n) {S : ab_S} {at' dp al pn ld br : Nat} {P K : Nat → Nat → Nat} (h : RS S t n at' 0 (dp + 1) al pn ld br P K) (hd : dp + 1 ≤ 4) (ha : at' ≤ n) (hb : K 0 (dp + 1) < 128) (hk : K 6 (dp + 1) = 0) (c : chr t n at' = cls (K 0 (dp + 1))) : ∃ S', gr S S' ∧ RS S' t n (at' + 1) 0 dp al pn ld br P K ∧ GO q e S = GO q e S' := by
  have cc : chr t n at' ≠ 47 ∧ chr t n at' ≠ 44 ∧ cls (K 0 (dp + 1)) < 128 := by
    rw [c]
    unfold cls
    split
    · decide
    · split <;> decide
  refine ⟨ab_wi (ab_wi S 117 15 (n32 (at' + 1))) 117 17 (n32 dp), gr_wi (gr_wi (gr_rf S) _ (by omega)) _ (by omega), RS_dp (RS_at h (at' + 1)) (Nat.le_succ _), ?_⟩
  rw [go_x q e ht h hd ha hb hk cc.1 (fun z => cc.2.1 z.2)]
  have e3 : v_94_130 q (e + 4) (n32 0) (n32 (K 0 (dp + 1))) S = v_94_162 q (e + 4) (n32 0) (n32 (cls (K 0 (dp + 1)))) S := by
    rw [e_94_130, h.2.2.2.2.1, if_pos (by rw [n32_lt (by omega) (by omega)]; omega), i_eq (by omega) (by omega), i_eq (by omega) (by omega)]
    unfold cls
    by_cases b1 : K 0 (dp + 1) = 91
    · rw [if_pos b1, if_pos b1]
    · rw [if_neg b1, if_neg b1]
      by_cases b2 : K 0 (dp + 1) = 123
      · rw [if_pos b2, if_pos b2]
      · rw [if_neg b2, if_neg b2]
  have q17 : (ab_wi S 117 15 (n32 (at' + 1))).1 117 17 = n32 (dp + 1) := h.2.2.2.2.1
  rw [e3, e_94_162, tk_v q _ ht h ha (by omega), if_pos c, cI_0, if_neg one_z, q17, n32_sub (by omega), show dp + 1 - 1 = dp by omega, e_94_180]
  rfl
theorem go_nx (q e : Nat) {t : Nat → Nat} {n : Nat} (ht : tok t n) {S : ab_S} {at' dp al pn ld br : Nat} {P K : Nat → Nat → Nat} (h : RS S t n at' 0 dp al pn ld br P K) (hd : dp ≤ 4) (ha : at' ≤ n) (hb : K 0 dp < 128) (hk : K 6 dp = 0) (c : chr t n at' ≠ 47) (c2 : ¬ ((K 0 dp = 91 ∨ K 0 dp = 123) ∧ chr t n at' = 44)) (c3 : ¬ (0 < dp ∧ chr t n at' = cls (K 0 dp))) : GO q e S = if dp = 0 ∧ at' = n then some ((0, n32 1, 0, 0), ab_wi S 117 16 (n32 0)) else some ((0, n32 0, 0, 0), ab_wi S 117 16 (n32 1)) := by
  have n40 := ht.1
  rw [go_x q e ht h hd ha hb hk c c2]
  have e4 : v_94_180 q (e + 4) (n32 0) S = v_94_183 q (e + 4) S := by
    rw [e_94_180, e_94_2, if_pos rfl]
  have cl128 : cls (K 0 dp) < 128 := by
    unfold cls
    split
    · decide
    · split <;> decide
  have e3 : v_94_130 q (e + 4) (n32 0) (n32 (K 0 dp)) S = v_94_183 q (e + 4) S := by
    rw [e_94_130, h.2.2.2.2.1, i_lt (by omega) (by omega)]
    by_cases d0 : 0 < dp
    · have cn : chr t n at' ≠ cls (K 0 dp) := fun z => c3 ⟨d0, z⟩
      have e5 : v_94_162 q (e + 4) (n32 0) (n32 (cls (K 0 dp))) S = v_94_183 q (e + 4) S := by
        rw [e_94_162, tk_v q _ ht h ha (by omega), if_neg cn, cI_0, if_pos rfl, e4]
      rw [if_pos d0, i_eq (by omega) (by omega), i_eq (by omega) (by omega)]
      unfold cls at e5
      by_cases b1 : K 0 dp = 91
      · rw [if_pos b1] at e5
        rw [if_pos b1, e5]
      · rw [if_neg b1] at e5
        rw [if_neg b1]
        by_cases b2 : K 0 dp = 123
        · rw [if_pos b2] at e5
          rw [if_pos b2, e5]
        · rw [if_neg b2] at e5
          rw [if_neg b2, e5]
    · rw [if_neg d0, e4]
  have bb : (ab_wi S 117 16 (n32 1)).1 117 16 = n32 1 := rfl
  have b0 : (ab_wi S 117 16 (n32 0)).1 117 16 = n32 0 := rfl
  rw [e3, e_94_183, h.2.2.2.1, if_pos rfl, h.2.2.2.2.1, i_lt (by omega) (by omega), h.2.2.1, h.1, i_lt (by omega) (by omega), e_94_209, e_94_214, e_94_214, show ab_zb (n32 1) = true from rfl, show ab_zb (n32 0) = true from rfl, g_t, g_t]
  by_cases d0 : 0 < dp
  · rw [if_pos d0, if_neg (by omega), cI_0, if_pos rfl, fin_0 q e bb]
  · rw [if_neg d0]
    by_cases l : at' < n
    · rw [if_pos l, if_neg (by omega), cI_0, if_pos rfl, fin_0 q e bb]
    · rw [if_neg l, if_pos (by omega), cI_0, if_pos rfl, fin_1 q e b0]
-- a new entry or member
def npO (t : Nat → Nat) (n p : Nat) : Nat := if chr t n p = 63 ∨ chr t n p = 42 ∨ chr t n p = 43 then chr t n p else 0
def npP (P K : Nat → Nat → Nat) (dp pn o : Nat) (en : Bool) : Nat → Nat → Nat :=
  if K 3 dp = 4294967295 then uP (uP (mkP P pn (bif en then 13 else 14) 4294967295 4294967295) 4 pn o) 1 (K 1 dp) pn else uP (uP (mkP P pn (bif en then 13 else 14) 4294967295 4294967295) 4 pn o) 3 (K 3 dp) pn
def npK (K : Nat → Nat → Nat) (dp pn : Nat) (en : Bool) : Nat → Nat → Nat := uP (uP (uP K 5 dp (K 5 dp + 1)) 3 dp pn) 6 dp (bif en then 0 else 1)
theorem RS_P {t : Nat → Nat} {n : Nat} {S : ab_S} {at' bd dp al pn ld br : Nat} {P K P' K' : Nat → Nat → Nat} (h : RS S t n at' bd dp al pn ld br P K) (g : ∀ j p, p < pn → P' j p = P j p) (g2 : ∀ j l, l ≤ dp → K' j l = K j l) : RS S t n at' bd dp al pn ld br P' K' := by
  refine ⟨h.1, h.2.1, h.2.2.1, h.2.2.2.1, h.2.2.2.2.1, h.2.2.2.2.2.1, h.2.2.2.2.2.2.1, h.2.2.2.2.2.2.2.1, h.2.2.2.2.2.2.2.2.1, fun p hp => ?_, fun l hl => ?_⟩
  · unfold rP
    rw [g 0 p hp, g 1 p hp, g 2 p hp, g 3 p hp, g 4 p hp]
    exact h.2.2.2.2.2.2.2.2.2.1 p hp
  · unfold rK
    rw [g2 0 l hl, g2 1 l hl, g2 2 l hl, g2 3 l hl, g2 4 l hl, g2 5 l hl, g2 6 l hl]
    exact h.2.2.2.2.2.2.2.2.2.2 l hl
theorem np_v (q d : Nat) {t : Nat → Nat} {n : Nat} (ht : tok t n) {S : ab_S} {at' dp al pn ld br : Nat} {P K : Nat → Nat → Nat} (h : RS S t n at' 0 dp al pn ld br P K) (hd : dp ≤ 4) (h1 : 1 ≤ dp) (hp : pn + 1 < 128) (ha : at' ≤ n) (h5 : K 5 dp ≤ 6) (en : Bool) (hen : K 0 dp = (bif en then 91 else 123)) (h3 : (K 3 dp = 4294967295 ∧ K 1 dp < pn ∧ P 0 (K 1 dp) = (bif en then 8 else 9)) ∨ K 3 dp < pn) :
    ∃ S', gr S S' ∧ RS S' t n (oft t n at').2 (if 6 < K 5 dp + 1 then 1 else 0) dp al (bif en then pn + 2 else pn + 1) ld br (bif en then uP (nwP (npP P K dp pn (npO t n at') en) (pn + 1)) 2 pn (pn + 1) else npP P K dp pn (npO t n at') en) (bif en then nwK (npK K dp pn en) dp (pn + 1) else npK K dp pn en) ∧ v_84_0 q (d + 2) S = some ((0, 0, 0, 0), S') := by
  have k := h.2.2.2.2.2.2.2.2.2.2 dp (Nat.le_refl _)
  have k5 := (k.2.2.2.2 h1).2.2
  have c126 := chr_le ht at'
  -- how many
  have r1 := RS_k h (j := 5) (by omega) dp (K 5 dp + 1) (n32 (K 5 dp + 1)) rfl
  have bw : (if 6 < K 5 dp + 1 then 1 else 0) ≤ 1 := by split <;> omega
  have r2 := RS_bd r1 (if 6 < K 5 dp + 1 then 1 else 0)
  have q130 : (ab_wi S 135 dp (n32 (K 5 dp + 1))).1 130 dp = n32 (K 0 dp) := k.1
  have q17 : (ab_wi S 135 dp (n32 (K 5 dp + 1))).1 117 17 = n32 dp := h.2.2.2.2.1
  have e1 : v_84_0 q (d + 2) S = v_84_75 q (d + 2) (n32 en.toNat) (n32 (bif en then 13 else 14)) (ab_wi (ab_wi S 135 dp (n32 (K 5 dp + 1))) 117 16 (n32 (if 6 < K 5 dp + 1 then 1 else 0))) := by
    have e2 (x : Nat) (hx : x ≤ 1) : v_84_40 q (d + 2) (n32 x) (ab_wi S 135 dp (n32 (K 5 dp + 1))) = v_84_75 q (d + 2) (n32 en.toNat) (n32 (bif en then 13 else 14)) (ab_wi (ab_wi S 135 dp (n32 (K 5 dp + 1))) 117 16 (n32 x)) := by
      have z0 : ab_zb (n32 x) = true := by
        have : x = 0 ∨ x = 1 := by omega
        rcases this with y | y <;> rw [y] <;> rfl
      rw [e_84_40, z0, g_t, q17, n32_in (by omega) (by omega), g_t, n32_cl (by omega), q130, hen]
      cases en with
      | true => exact (if_pos rfl).trans (by rw [e_84_62, if_neg one_z]; rfl)
      | false => exact (if_neg (by decide)).trans (by rw [e_84_62, if_pos rfl]; rfl)
    have w5 : (ab_wi S 135 dp (n32 (K 5 dp + 1))).1 135 dp = n32 (K 5 dp + 1) := by rw [wi_rd, if_pos ⟨rfl, rfl⟩]
    rw [e_84_0, h.2.2.2.2.1, n32_in (by omega) (by omega), g_t, g_t, n32_cl (by omega), h.2.2.2.1, if_pos rfl, g_t, k5, n32_add, w5, i_lt (by omega) (by omega), e_84_35]
    by_cases b : 6 < K 5 dp + 1
    · rw [if_pos b, if_pos b]
      exact e2 1 (by omega)
    · rw [if_neg b, if_neg b]
      exact e2 0 (by omega)
  rw [e1]
  have gA : gr S (ab_wi (ab_wi S 135 dp (n32 (K 5 dp + 1))) 117 16 (n32 (if 6 < K 5 dp + 1 then 1 else 0))) := gr_wi (gr_wi (gr_rf S) _ (by omega)) _ (by omega)
  revert r2 gA
  generalize ab_wi (ab_wi S 135 dp (n32 (K 5 dp + 1))) 117 16 (n32 (if 6 < K 5 dp + 1 then 1 else 0)) = S2
  generalize (if 6 < K 5 dp + 1 then 1 else 0) = bd
  intro r2 gA
  -- the part
  obtain ⟨S3, a1, a2, a3⟩ := mk_v q (d + 1) r2 (by omega : pn < 128) (bif en then 13 else 14) 4294967295 4294967295
  have e2 : v_81_0 q (d + 1) (n32 (bif en then 13 else 14)) (i32 (-1)) (i32 (-1)) S2 = v_81_0 q (d + 1) (n32 (bif en then 13 else 14)) (eA 512 (bif en then 13 else 14) 4294967295) (eB 512 (bif en then 13 else 14) 4294967295) S2 := by
    rw [n32_m1]
    cases en <;> rfl
  -- how often
  have e3 : ∃ S4, gr S3 S4 ∧ RS S4 t n (oft t n at').2 bd dp al (pn + 1) ld br (uP (mkP P pn (bif en then 13 else 14) 4294967295 4294967295) 4 pn (npO t n at')) (uP K 5 dp (K 5 dp + 1)) ∧ v_84_75 q (d + 2) (n32 en.toNat) (n32 (bif en then 13 else 14)) S2 = v_84_121 q (d + 2) (n32 en.toNat) (n32 (512 + pn)) S4 := by
    have e4 (hh : chr t n at' = 63 ∨ chr t n at' = 42 ∨ chr t n at' = 43) : ∃ S4, gr S3 S4 ∧ RS S4 t n (oft t n at').2 bd dp al (pn + 1) ld br (uP (mkP P pn (bif en then 13 else 14) 4294967295 4294967295) 4 pn (npO t n at')) (uP K 5 dp (K 5 dp + 1)) ∧ v_84_104 q (d + 2) (n32 en.toNat) (n32 (512 + pn)) (n32 (chr t n at')) S3 = v_84_121 q (d + 2) (n32 en.toNat) (n32 (512 + pn)) S4 := by
      unfold oft npO
      rw [if_pos hh, if_pos hh]
      refine ⟨ab_wi (ab_wi S3 129 (512 + pn) (n32 (chr t n at'))) 117 15 (n32 (at' + 1)), gr_wi (gr_wi (gr_rf S3) _ (by omega)) _ (by omega), RS_at (RS_o a2 pn _) (at' + 1), ?_⟩
      rw [e_84_104, n32_in (by omega) (by omega), g_t, n32_cl (by omega), a2.2.2.1, n32_add]
    rw [e_84_75, e2, a3, cI_0, lk_v q _ ht a2 ha, cI_0, i_eq (by omega) (by omega), i_eq (by omega) (by omega), i_eq (by omega) (by omega)]
    by_cases c1 : chr t n at' = 63
    · rw [if_pos c1]
      exact e4 (Or.inl c1)
    rw [if_neg c1]
    by_cases c2 : chr t n at' = 42
    · rw [if_pos c2]
      exact e4 (Or.inr (Or.inl c2))
    rw [if_neg c2]
    by_cases c3 : chr t n at' = 43
    · rw [if_pos c3]
      exact e4 (Or.inr (Or.inr c3))
    rw [if_neg c3]
    refine ⟨S3, gr_rf S3, ?_, rfl⟩
    unfold oft npO
    rw [if_neg (by omega), if_neg (by omega), uP_id (mkP_s P pn (bif en then 13 else 14) 4294967295 4294967295).2.2.2.2]
    exact a2
  obtain ⟨S4, b1, b2, b3⟩ := e3
  rw [b3]
  have g4 := gr_tr (gr_tr gA a1) b1
  -- tied to its holder or to the part before
  have k4 := b2.2.2.2.2.2.2.2.2.2.2 dp (Nat.le_refl _)
  have u5 (j : Nat) (hj : j ≠ 5) : uP K 5 dp (K 5 dp + 1) j dp = K j dp := uP_j K hj
  have k43 := (k4.2.2.2.2 h1).2.1
  have k41 := (k4.2.2.2.2 h1).1
  rw [u5 3 (by omega)] at k43
  rw [u5 1 (by omega)] at k41
  have ep : n32 (512 + pn) = eO 512 pn := (eO_ge (by omega) (by decide)).symm
  have e5 : ∃ S5, gr S4 S5 ∧ RS S5 t n (oft t n at').2 bd dp al (pn + 1) ld br (npP P K dp pn (npO t n at') en) (uP K 5 dp (K 5 dp + 1)) ∧ v_84_121 q (d + 2) (n32 en.toNat) (n32 (512 + pn)) S4 = v_84_166 q (d + 2) (n32 en.toNat) (n32 (512 + pn)) S5 := by
    unfold npP
    rw [e_84_121, b2.2.2.2.2.1, n32_in (by omega) (by omega), g_t, n32_cl (by omega), k43, k41, i_eO (by omega), g_t, g_t]
    rcases h3 with ⟨h3, h31, h8⟩ | h3
    · rw [if_pos h3, if_pos h3, eO_ge (by omega : K 1 dp < 1000) (by decide), n32_in (by omega) (by omega), g_t, n32_cl (by omega), ep]
      refine ⟨_, ?_, ?_, rfl⟩
      · exact gr_wi (gr_rf S4) _ (by omega)
      · refine RS_p b2 (j := 1) (Or.inl rfl) (fun _ => ?_) nofun pn
        rw [uP_j _ (by omega), mkP_o P (by omega), h8]
        cases en <;> rfl
    · rw [if_neg (by omega), if_neg (by omega), eO_ge (by omega : K 3 dp < 1000) (by decide), n32_in (by omega) (by omega), g_t, n32_cl (by omega), ep]
      refine ⟨_, ?_, ?_, rfl⟩
      · exact gr_wi (gr_rf S4) _ (by omega)
      · exact RS_p b2 (j := 3) (Or.inr (Or.inr rfl)) nofun nofun pn
  obtain ⟨S5, c1, c2, c3⟩ := e5
  rw [c3]
  have r6 := RS_k c2 (j := 3) (by omega) dp pn (n32 (512 + pn)) ep
  have r7 := RS_k r6 (j := 6) (by omega) dp (bif en then 0 else 1) (n32 (bif en then 0 else 1)) rfl
  have g7 := gr_wi (gr_wi (gr_tr g4 c1) (c := 130 + 3) (k := dp) (n32 (512 + pn)) (by omega)) (c := 130 + 6) (k := dp) (n32 (bif en then 0 else 1)) (by omega)
  have e6 : v_84_166 q (d + 2) (n32 en.toNat) (n32 (512 + pn)) S5 = if en = true then (cI (v_83_0 q (d + 1) (ab_wi (ab_wi S5 133 dp (n32 (512 + pn))) 136 dp (n32 (bif en then 0 else 1)))) fun y1 S1 => (ab_g (ab_in (n32 (512 + pn)) 640) (v_84_208 q (d + 2) (ab_wi S1 127 (Int32.toNatClampNeg (n32 (512 + pn))) y1)))) else v_84_208 q (d + 2) (ab_wi (ab_wi S5 133 dp (n32 (512 + pn))) 136 dp (n32 (bif en then 0 else 1))) := by
    rw [e_84_166, c2.2.2.2.2.1, n32_in (by omega) (by omega), g_t, n32_cl (by omega), i_bz, e_84_193, e_84_193, n32_in (by omega) (by omega), g_t, g_t, n32_cl (by omega), nz_0, nz_1]
    cases en with
    | true => exact (if_pos rfl).trans (if_neg one_z)
    | false => exact (if_neg (by decide)).trans (if_pos rfl)
  rw [e6]
  have r7' : RS (ab_wi (ab_wi S5 133 dp (n32 (512 + pn))) 136 dp (n32 (bif en then 0 else 1))) t n (oft t n at').2 bd dp al (pn + 1) ld br (npP P K dp pn (npO t n at') en) (npK K dp pn en) := r7
  have g7' : gr S (ab_wi (ab_wi S5 133 dp (n32 (512 + pn))) 136 dp (n32 (bif en then 0 else 1))) := g7
  revert r7' g7'
  generalize ab_wi (ab_wi S5 133 dp (n32 (512 + pn))) 136 dp (n32 (bif en then 0 else 1)) = S7
  intro r7' g7'
  cases en with
  | false =>
    rw [if_neg (by decide), e_84_208]
    exact ⟨S7, g7', r7', rfl⟩
  | true =>
    rw [if_pos rfl]
    obtain ⟨S8, f1, f2, f3⟩ := nt_v q d r7' hd (by omega : pn + 1 < 128)
    rw [f3, cI_0, n32_in (by omega) (by omega), g_t, n32_cl (by omega), e_84_208, show n32 (512 + (pn + 1)) = eO 512 (pn + 1) from (eO_ge (by omega) (by decide)).symm]
    refine ⟨_, ?_, ?_, rfl⟩
    · exact gr_wi (gr_tr g7' f1) _ (by omega)
    · refine RS_p f2 (j := 2) (Or.inr (Or.inl rfl)) nofun (fun _ => ?_) (pn + 1)
      have z : npP P K dp pn (npO t n at') true 0 pn = 13 := by
        unfold npP
        split
        · rw [uP_j _ (by omega), uP_j _ (by omega)]
          exact (mkP_s P pn 13 4294967295 4294967295).1
        · rw [uP_j _ (by omega), uP_j _ (by omega)]
          exact (mkP_s P pn 13 4294967295 4294967295).1
      unfold nwP
      rw [mkP_o _ (by omega), z]
      rfl
