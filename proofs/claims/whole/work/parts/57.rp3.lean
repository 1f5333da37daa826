-- The reference reads types: alternatives without parts.
theorem attP_lo {P P1 K : Nat → Nat → Nat} {dp x pn : Nat} (h : ∀ j p, p < pn → P1 j p = P j p) (j p : Nat) (hp : p < pn) : attP P1 K dp x j p = attP P K dp x j p := by
  unfold attP
  split
  · split
    · unfold uP
      rw [h j p hp]
    · unfold uP
      rw [h j p hp]
  · unfold uP
    rw [h j p hp]
theorem attP_hi {P P1 K : Nat → Nat → Nat} {dp x pn : Nat} (hw : wfL P K pn dp) (hpn : pn ≤ 1000) (j p : Nat) (hp : pn ≤ p) (hp2 : p < 4294967295) : attP P1 K dp x j p = P1 j p := by
  unfold attP
  rcases hw with ⟨w6, w2, w11, w4⟩ | ⟨w6, w1, w3, w14⟩
  · rw [if_pos w6]
    split
    · exact uP_p _ (by omega)
    · exact uP_p _ (by omega)
  · rw [if_neg (by omega)]
    exact uP_p _ (by omega)
theorem wfL_up {P P1 K : Nat → Nat → Nat} {dp pn pn1 : Nat} (hw : wfL P K pn dp) (h : ∀ j p, p < pn → P1 j p = P j p) (h1 : pn ≤ pn1) : wfL P1 K pn1 dp := by
  rcases hw with ⟨w6, w2, w11, w4⟩ | ⟨w6, w1, w3, w14⟩
  · exact Or.inl ⟨w6, by omega, by rw [h 0 _ w2]; exact w11, by omega⟩
  · exact Or.inr ⟨w6, w1, by omega, by rw [h 0 _ w3]; exact w14⟩
def rEf (t : Nat → Nat) (n : Nat) (S : ab_S) (at' dp al pn : Nat) (P K : Nat → Nat → Nat) (bare : Bool) (y : List alt × pst) (S' : ab_S) : Prop := gr S S' ∧ ∃ pn' P', RS S' t n y.2.1 0 dp (al + bif bare then y.1.length else 0) pn' y.2.2.1 y.2.2.2 P' (attK K dp pn) ∧ pn < pn' ∧ 2 * pn' + 1 + 3 * at' ≤ 3 * y.2.1 + 2 * pn ∧ at' < y.2.1 ∧ y.2.1 ≤ n ∧ y.2.2.1 < 256 ∧ y.2.2.2 < 256 ∧ (∀ j p, p < pn → P' j p = attP P K dp pn j p) ∧ denP t P' pn pn' (anyS y.1) ∧ P' 3 pn = 4294967295 ∧ sgl P' pn = kep y.1 at' ∧ sR t P' pn pn' pn
/-- the reference reads alternatives so at this depth -/
def rAl (q e : Nat) (t : Nat → Nat) (n dp : Nat) (A : rdA) : Prop := ∀ S at' al pn ld br P K, RS S t n at' 0 dp al pn ld br P K → at' ≤ n → ld < 256 → br < 256 → pn ≤ 1 + 3 * at' → wfL P K pn dp → (∀ l, l ≤ dp → K 0 l < 128) → (∀ y, A (bar K dp) (at', ld, br) = some y → dig (chr t n y.2.1) = false → ∃ S', rEf t n S at' dp al pn P K (bar K dp) y S' ∧ LT q e S = GO q e S') ∧ ((∀ y, A (bar K dp) (at', ld, br) = some y → dig (chr t n y.2.1) = true) → ∃ S', gr S S' ∧ LT q e S = some ((0, n32 0, 0, 0), S'))
theorem sim_fin (q d : Nat) {t : Nat → Nat} {n : Nat} {S1 : ab_S} {at1 bd dp al pn ld1 br1 : Nat} {P P1 K : Nat → Nat → Nat} (h : RS S1 t n at1 bd dp al (pn + 1) ld1 br1 P1 K) (hd : dp ≤ 4) (hp : pn < 128) (hw : wfL P K pn dp) (hP : ∀ j p, p < pn → P1 j p = P j p) (hk : ∀ l, l ≤ dp → K 0 l < 128) : ∃ S2, gr S1 S2 ∧ RS S2 t n at1 bd dp (al + (bar K dp).toNat) (pn + 1) ld1 br1 (attP P1 K dp pn) (attK K dp pn) ∧ v_92_91 q (d + 1) (n32 (512 + pn)) S1 = some ((0, n32 1, 0, 0), S2) := by
  have r1 := RS_al h (al + (bar K dp).toNat)
  obtain ⟨S2, a1, a2, a3⟩ := at_v q d r1 hd (by omega) (wfL_up hw hP (Nat.le_succ _)) hp
  refine ⟨S2, gr_tr (gr_wi (gr_rf S1) _ (by omega)) a1, a2, ?_⟩
  rw [e_92_91, if_neg (by rw [n32_lt (by omega) (by omega)]; omega), bar_v q d h hd (fun l _ hl => hk l hl), cI_0, i_bz, h.2.2.2.2.2.1, n32_add]
  have e : v_92_118 q (d + 1) (n32 (512 + pn)) (n32 (al + (bar K dp).toNat)) S1 = some ((0, n32 1, 0, 0), S2) := by
    rw [e_92_118, a3, cV_0]
  cases hb : bar K dp with
  | true =>
    rw [hb] at e
    exact (if_pos rfl).trans e
  | false =>
    rw [hb] at e
    exact (if_neg (by decide)).trans e
/-- how an alternative of one part ends -/
theorem sim_ok (q e : Nat) {t : Nat → Nat} {n : Nat} {S S1 : ab_S} {at' at1 dp al pn ld1 br1 : Nat} {P P1 K : Nat → Nat → Nat} (g : gr S S1) (h : RS S1 t n at1 0 dp al (pn + 1) ld1 br1 P1 K) (hd : dp ≤ 4) (hp : pn < 128) (hw : wfL P K pn dp) (hP : ∀ j p, p < pn → P1 j p = P j p) (hk : ∀ l, l ≤ dp → K 0 l < 128) (h1 : at' < at1) (h2 : at1 ≤ n) (h3 : ld1 < 256) (h4 : br1 < 256) {k : Nat} {m : Sem} (hden : denP t P1 pn (pn + 1) m) (h3n : P1 3 pn = 4294967295) (hs : sgl P1 pn = (decide (k = 48) || decide (k = 34))) (hsf : sfe t P1 pn (pn + 1)) (hLT : LT q e S = (cI (v_92_91 q (e + 4) (n32 (512 + pn)) S1) fun y1 S1 => (if y1 = (n32 0) then (cI (v_93_0 q (e + 4) S1) fun y2 S2 => (if y2 = (n32 0) then (v_95_104 q (e + 5) (n32 0) S2) else (v_95_99 q (e + 5) S2))) else (v_95_99 q (e + 5) S1)))) : ∃ S', rEf t n S at' dp al pn P K (bar K dp) ([(at', at1, k, m)], (at1, ld1, br1)) S' ∧ LT q e S = GO q e S' := by
  obtain ⟨S2, a1, a2, a3⟩ := sim_fin q (e + 3) h hd hp hw hP hk
  have hi (j : Nat) : attP P1 K dp pn j pn = P1 j pn := attP_hi hw (by omega) j pn (Nat.le_refl _) (by omega)
  refine ⟨S2, ⟨gr_tr g a1, pn + 1, attP P1 K dp pn, ?_, Nat.lt_succ_self _, by show 2 * (pn + 1) + 1 + 3 * at' ≤ 3 * at1 + 2 * pn; omega, h1, h2, h3, h4, fun j p hp => attP_lo hP j p hp, ?_, (hi 3).trans h3n, ?_, sR_1 (sfe_fr hsf (Nat.lt_succ_self _) (fun j w w1 w2 _ => by rw [show w = pn by omega]; exact hi j)) (Or.inl ((hi 3).trans h3n))⟩, ?_⟩
  · have : (al + bif bar K dp then 1 else 0) = al + (bar K dp).toNat := by cases bar K dp <;> rfl
    show RS S2 t n at1 0 dp (al + bif bar K dp then 1 else 0) (pn + 1) ld1 br1 _ _
    rw [this]
    exact a2
  · have hany : anyS [(at', at1, k, m)] = m := by
      funext c i lv
      show (m c i lv || false) = m c i lv
      exact Bool.or_false _
    show denP t _ pn (pn + 1) (anyS [(at', at1, k, m)])
    rw [hany]
    exact denP_fr hden (fun j y y1 y2 _ => by rw [show y = pn by omega]; exact hi j)
  · have : kep [(at', at1, k, m)] at' = (decide (k = 48) || decide (k = 34)) := by
      show (decide (at' = at') && (decide (k = 48) || decide (k = 34))) = _
      rw [decide_eq_true rfl, Bool.true_and]
    show _ = kep [(at', at1, k, m)] at'
    rw [this, ← hs]
    unfold sgl
    rw [hi 0, hi 4]
  · have b0 : S2.1 117 16 = n32 0 := a2.2.2.2.1
    rw [hLT, a3, cI_0, if_neg one_z, e_95_99, fin_G q e b0]
theorem sim_no (q e : Nat) {t : Nat → Nat} {n : Nat} {S S1 : ab_S} {at1 dp al pn ld1 br1 : Nat} {P P1 K : Nat → Nat → Nat} (g : gr S S1) (h : RS S1 t n at1 1 dp al (pn + 1) ld1 br1 P1 K) (hd : dp ≤ 4) (hp : pn < 128) (hw : wfL P K pn dp) (hP : ∀ j p, p < pn → P1 j p = P j p) (hk : ∀ l, l ≤ dp → K 0 l < 128) (hLT : LT q e S = (cI (v_92_91 q (e + 4) (n32 (512 + pn)) S1) fun y1 S1 => (if y1 = (n32 0) then (cI (v_93_0 q (e + 4) S1) fun y2 S2 => (if y2 = (n32 0) then (v_95_104 q (e + 5) (n32 0) S2) else (v_95_99 q (e + 5) S2))) else (v_95_99 q (e + 5) S1)))) : ∃ S', gr S S' ∧ LT q e S = some ((0, n32 0, 0, 0), S') := by
  obtain ⟨S2, a1, a2, a3⟩ := sim_fin q (e + 3) h hd hp hw hP hk
  have b1 : S2.1 117 16 = n32 1 := a2.2.2.2.1
  refine ⟨S2, gr_tr g a1, ?_⟩
  rw [hLT, a3, cI_0, if_neg one_z, e_95_99, fin_b q e b1]
theorem mkP_lo (P : Nat → Nat → Nat) {pn k a b : Nat} : ∀ j p, p < pn → mkP P pn k a b j p = P j p := fun j p h => mkP_o P (by omega)
theorem uP_lo {P Q : Nat → Nat → Nat} {pn i v : Nat} (h : ∀ j p, p < pn → Q j p = P j p) : ∀ j p, p < pn → uP Q i pn v j p = P j p := fun j p hp => (uP_p Q (by omega)).trans (h j p hp)
/-- signs -/
theorem rsg_v (q e : Nat) {t : Nat → Nat} {n : Nat} (ht : tok t n) {S : ab_S} {at' dp al pn ld br : Nat} {P K : Nat → Nat → Nat} (h : RS S t n at' 0 dp al pn ld br P K) (hd : dp ≤ 4) (ha : at' ≤ n) (h1 : ld < 256) (h2 : br < 256) (hp : pn < 128) (hw : wfL P K pn dp) (hk : ∀ l, l ≤ dp → K 0 l < 128) (hi : isg (chr t n at') = true) : ∃ S', rEf t n S at' dp al pn P K (bar K dp) ([(at', at' + 1, chr t n at', sgn (chr t n at'))], (at' + 1, ld, br)) S' ∧ LT q e S = GO q e S' := by
  have c126 := chr_le ht at'
  have ic := isg_c hi
  have lt := chr_lt (t := t) (n := n) (p := at') rfl (by omega)
  obtain ⟨w, hwd⟩ : ∃ w, w = (if chr t n at' = 105 then 0 else if chr t n at' = 115 then 1 else if chr t n at' = 116 then 2 else if chr t n at' = 98 then 3 else if chr t n at' = 110 then 4 else if chr t n at' = 121 then 5 else 4294967295) := ⟨_, rfl⟩
  have w6 : w < 6 := by
    rw [hwd]
    rcases ic with x | x | x | x | x | x <;> rw [x] <;> decide
  have r1 := RS_at h (at' + 1)
  obtain ⟨S1, a1, a2, a3⟩ := mk_v q (e + 3) r1 hp w 0 0
  have e1 : v_81_0 q (e + 3) (n32 w) (n32 0) (n32 0) (ab_wi S 117 15 (n32 (at' + 1))) = v_81_0 q (e + 3) (n32 w) (eA 512 w 0) (eB 512 w 0) (ab_wi S 117 15 (n32 (at' + 1))) := by
    have pa : pA w = false := by
      have : ∀ w, w < 6 → pA w = false := by decide
      exact this w w6
    have pb : pB w = false := by
      have : ∀ w, w < 6 → pB w = false := by decide
      exact this w w6
    unfold eA eB
    rw [pa, pb]
    rfl
  have m := mkP_s P pn w 0 0
  refine sim_ok q e (gr_tr (gr_wi (gr_rf S) _ (by omega)) a1) a2 hd hp hw (mkP_lo P) hk (Nat.lt_succ_self _) lt h1 h2 (denP_sg (Nat.lt_succ_self _) hi (by rw [m.1, hwd])) m.2.2.2.1 ?_ (by
    unfold sfe
    rw [m.1]
    exact ⟨by omega, by omega, by omega, by omega, by omega, by omega, by omega, by omega, by omega, by omega⟩) ?_
  · unfold sgl
    rw [m.1, decide_eq_false (by omega : ¬ w = 7), decide_eq_false (by omega : ¬ w = 6)]
    rcases ic with x | x | x | x | x | x <;> rw [x] <;> rfl
  · rw [lt_1 q e h.2.2.2.1, e_92_0, lk_v q _ ht h ha, cI_0, wd_w q _ (by omega), cI_0, ← hwd, if_neg (by rw [n32_lt (by omega) (by omega)]; omega), h.2.2.1, n32_add, wd_w q _ (by omega), cI_0, ← hwd, e1, a3, cI_0]
theorem nsg_w {c : Nat} (h : isg c = false) : (if c = 105 then 0 else if c = 115 then 1 else if c = 116 then 2 else if c = 98 then 3 else if c = 110 then 4 else if c = 121 then 5 else 4294967295) = 4294967295 := by
  unfold isg at h
  simp only [Bool.or_eq_false_iff, decide_eq_false_iff_not] at h
  rw [if_neg h.1, if_neg h.2.1, if_neg h.2.2.1, if_neg h.2.2.2.1, if_neg h.2.2.2.2.1, if_neg h.2.2.2.2.2]
/-- a letter -/
theorem rle_v (q e : Nat) {t : Nat → Nat} {n : Nat} (ht : tok t n) {S : ab_S} {at' dp al pn ld br : Nat} {P K : Nat → Nat → Nat} (h : RS S t n at' 0 dp al pn ld br P K) (hd : dp ≤ 4) (ha : at' ≤ n) (h1 : ld < 256) (h2 : br < 256) (hp : pn < 128) (hw : wfL P K pn dp) (hk : ∀ l, l ≤ dp → K 0 l < 128) (hc : 65 ≤ chr t n at' ∧ chr t n at' ≤ 72) :
    (¬ (bar K dp = true ∧ br.testBit (chr t n at' - 65) = true) → ∃ S', rEf t n S at' dp al pn P K (bar K dp) ([(at', at' + 1, 65, leS (chr t n at' - 65))], (at' + 1, ld ||| 2 ^ (chr t n at' - 65), bif bar K dp then br ||| 2 ^ (chr t n at' - 65) else br)) S' ∧ LT q e S = GO q e S') ∧ ((bar K dp = true ∧ br.testBit (chr t n at' - 65) = true) → ∃ S', gr S S' ∧ LT q e S = some ((0, n32 0, 0, 0), S')) := by
  have c126 := chr_le ht at'
  have lt := chr_lt (t := t) (n := n) (p := at') rfl (by omega)
  have ni : isg (chr t n at') = false := by
    generalize chr t n at' = x at hc
    have : ∀ x, x < 73 → 65 ≤ x → isg x = false := by decide
    exact this x (by omega) hc.1
  have nd : dig (chr t n at') = false := by
    generalize chr t n at' = x at hc
    have : ∀ x, x < 73 → 65 ≤ x → dig x = false := by decide
    exact this x (by omega) hc.1
  obtain ⟨v, hv'⟩ : ∃ v, v = chr t n at' - 65 := ⟨_, rfl⟩
  have v8 : v < 8 := by omega
  have p8 := p2_8 v8
  have p0 : 0 < 2 ^ v := Nat.two_pow_pos v
  rw [← hv']
  have r1 := RS_ld (RS_at h (at' + 1)) (ld ||| 2 ^ v)
  have gr1 : gr S (ab_wi (ab_wi S 117 15 (n32 (at' + 1))) 123 8 (n32 (ld ||| 2 ^ v))) := gr_wi (gr_wi (gr_rf S) _ (by omega)) _ (by omega)
  have hLT (S1 : ab_S) (e90 : v_90_0 q (e + 3) (n32 (chr t n at')) S = some ((0, n32 (512 + pn), 0, 0), S1)) : LT q e S = (cI (v_92_91 q (e + 4) (n32 (512 + pn)) S1) fun y1 S1 => (if y1 = (n32 0) then (cI (v_93_0 q (e + 4) S1) fun y2 S2 => (if y2 = (n32 0) then (v_95_104 q (e + 5) (n32 0) S2) else (v_95_99 q (e + 5) S2))) else (v_95_99 q (e + 5) S1))) := by
    rw [lt_1 q e h.2.2.2.1, e_92_0, lk_v q _ ht h ha, cI_0, wd_w q _ (by omega), cI_0, nsg_w ni, if_pos neg_0, i_eq (by omega) (by omega), if_neg (by omega), idg_v q _ (by omega), cI_0, nd, i_bz, if_neg (by decide), i_eq (by omega) (by omega), if_neg (by omega), i_lt (by omega) (by omega), if_neg (by omega), i_lt (by omega) (by omega), if_neg (by omega), e90, cI_0]
  have e0 : v_90_0 q (e + 3) (n32 (chr t n at')) S = if bar K dp = true then (if br.testBit v = true then v_90_65 q (e + 3) (n32 (chr t n at')) (n32 (2 ^ v)) (n32 1) (ab_wi (ab_wi S 117 15 (n32 (at' + 1))) 123 8 (n32 (ld ||| 2 ^ v))) else v_90_65 q (e + 3) (n32 (chr t n at')) (n32 (2 ^ v)) (n32 0) (ab_wi (ab_wi S 117 15 (n32 (at' + 1))) 123 8 (n32 (ld ||| 2 ^ v)))) else v_90_84 q (e + 3) (n32 (chr t n at')) (ab_wi (ab_wi S 117 15 (n32 (at' + 1))) 123 8 (n32 (ld ||| 2 ^ v))) := by
    rw [e_90_0, n32_sub hc.1, ← hv', n32_shl _ (by omega), Nat.one_mul, h.2.2.1, n32_add, h.2.2.2.2.2.2.2.1, n32_or, bar_v q _ r1 hd (fun l _ hl => hk l hl), cI_0, i_bz, r1.2.2.2.1, if_pos rfl, r1.2.2.2.2.2.2.2.2.1, n32_and, and_p]
    by_cases bt : br.testBit v = true
    · rw [if_pos bt, if_pos bt, i_eq (by omega) (by omega), if_neg (by omega : ¬ 2 ^ v = 0), e_90_60]
    · rw [if_neg bt, if_neg bt, if_pos rfl]
  have fin (bd br' : Nat) (S3 : ab_S) (g3 : gr S S3) (r3 : RS S3 t n (at' + 1) bd dp al pn (ld ||| 2 ^ v) br' P K) : ∃ S4, gr S S4 ∧ RS S4 t n (at' + 1) bd dp al (pn + 1) (ld ||| 2 ^ v) br' (mkP P pn 10 v 0) K ∧ v_90_84 q (e + 3) (n32 (chr t n at')) S3 = some ((0, n32 (512 + pn), 0, 0), S4) := by
    obtain ⟨S4, a1, a2, a3⟩ := mk_v q (e + 2) r3 hp 10 v 0
    refine ⟨S4, gr_tr g3 a1, a2, ?_⟩
    have a3' : v_81_0 q (e + 2) (n32 10) (n32 v) (n32 0) S3 = some ((0, n32 (512 + pn), 0, 0), S4) := a3
    rw [e_90_84, n32_sub hc.1, ← hv', a3', cI_0]
  have m := mkP_s P pn 10 v 0
  have ok (br' : Nat) (hb : br' < 256) (S4 : ab_S) (g4 : gr S S4) (r4 : RS S4 t n (at' + 1) 0 dp al (pn + 1) (ld ||| 2 ^ v) br' (mkP P pn 10 v 0) K) (e90 : v_90_0 q (e + 3) (n32 (chr t n at')) S = some ((0, n32 (512 + pn), 0, 0), S4)) : ∃ S', rEf t n S at' dp al pn P K (bar K dp) ([(at', at' + 1, 65, leS v)], (at' + 1, ld ||| 2 ^ v, br')) S' ∧ LT q e S = GO q e S' := by
    refine sim_ok q e g4 r4 hd hp hw (mkP_lo P) hk (Nat.lt_succ_self _) lt (or_256 h1 p8) hb (denP_le (Nat.lt_succ_self _) m.1 m.2.1) m.2.2.2.1 ?_ (by unfold sfe; rw [m.1, m.2.1]; exact ⟨by decide, nofun, fun _ => v8, nofun, nofun, nofun, nofun, nofun, nofun, nofun⟩) (hLT S4 e90)
    unfold sgl
    rw [m.1]
    rfl
  cases hb : bar K dp with
  | false =>
    rw [hb, if_neg (by decide)] at e0
    obtain ⟨S4, g4, r4, e4⟩ := fin 0 br _ gr1 r1
    refine ⟨fun _ => ?_, fun z => nomatch z.1⟩
    have := ok br h2 S4 g4 r4 (e0.trans e4)
    rw [hb] at this
    exact this
  | true =>
    rw [hb, if_pos rfl] at e0
    have r2 := RS_br (RS_bd r1 0) (br ||| 2 ^ v)
    have r2' := RS_br (RS_bd r1 1) (br ||| 2 ^ v)
    refine ⟨fun nb => ?_, fun z => ?_⟩
    · have bt : ¬ br.testBit v = true := fun z => nb ⟨rfl, z⟩
      obtain ⟨S4, g4, r4, e4⟩ := fin 0 (br ||| 2 ^ v) _ (gr_wi (gr_wi gr1 _ (by omega)) _ (by omega)) r2
      rw [if_neg bt, e_90_65, show ab_zb (n32 0) = true from rfl, g_t, r1.2.2.2.2.2.2.2.2.1, n32_or, e4] at e0
      have := ok (br ||| 2 ^ v) (or_256 h2 p8) S4 g4 r4 e0
      rw [hb] at this
      exact this
    · obtain ⟨S4, g4, r4, e4⟩ := fin 1 (br ||| 2 ^ v) _ (gr_wi (gr_wi gr1 _ (by omega)) _ (by omega)) r2'
      rw [if_pos z.2, e_90_65, show ab_zb (n32 1) = true from rfl, g_t, r1.2.2.2.2.2.2.2.2.1, n32_or, e4] at e0
      exact sim_no q e g4 r4 hd hp hw (mkP_lo P) hk (hLT S4 e0)
/-- a text -/
theorem rlt_lp (q d : Nat) {t : Nat → Nat} {n : Nat} (ht : tok t n) (u1 : Int32) : ∀ k at' S dp al pn ld br P K, RS S t n at' 0 dp al pn ld br P K → at' ≤ n → n ≤ at' + k → ∃ S', gr S S' ∧ RS S' t n (clq t n k at') 0 dp al pn ld br P K ∧ clq t n k at' ≤ n ∧ (chr t n (clq t n k at') = 34 ∨ clq t n k at' = n) ∧ v_89_15 q (d + 1) u1 S = v_89_48 q (d + 1) u1 S'
  | k, at', S, dp, al, pn, ld, br, P, K, h, ha, hk => by
    have n40 := ht.1
    have c126 := chr_le ht at'
    rw [e_89_15, h.2.2.1, h.1, i_lt (by omega) (by omega)]
    by_cases l : at' < n
    · rw [if_pos l, lk_v q d ht h ha, cI_0, i_eq (by omega) (by omega)]
      have c32 : chr t n at' ≠ 0 := by
        have : chr t n at' = t at' := if_pos l
        have := ht.2 at' l
        omega
      cases k with
      | zero => omega
      | succ k =>
        rw [clq_s]
        by_cases g : chr t n at' = 34
        · rw [if_pos g, if_pos (Or.inl g)]
          exact ⟨S, gr_rf S, h, ha, Or.inl g, rfl⟩
        · rw [if_neg g, if_neg (fun z => z.elim g c32), h.2.2.1, n32_add]
          obtain ⟨S', a1, a2⟩ := rlt_lp q d ht u1 k (at' + 1) _ dp al pn ld br P K (RS_at h (at' + 1)) l (by omega)
          exact ⟨S', gr_tr (gr_wi (gr_rf S) _ (by omega)) a1, a2⟩
    · have en : at' = n := by omega
      have cz : clq t n k at' = at' := by
        cases k with
        | zero => rfl
        | succ k =>
          rw [clq_s, if_pos (Or.inr ?_)]
          exact if_neg l
      rw [if_neg l, cz]
      exact ⟨S, gr_rf S, h, ha, Or.inr en, rfl⟩
theorem rtx_v (q e : Nat) {t : Nat → Nat} {n : Nat} (ht : tok t n) {S : ab_S} {at' dp al pn ld br : Nat} {P K : Nat → Nat → Nat} (h : RS S t n at' 0 dp al pn ld br P K) (hd : dp ≤ 4) (ha : at' ≤ n) (h1 : ld < 256) (h2 : br < 256) (hp : pn < 128) (hw : wfL P K pn dp) (hk : ∀ l, l ≤ dp → K 0 l < 128) (hc : chr t n at' = 34) :
    (chr t n (clq t n 40 (at' + 1)) = 34 → ∃ S', rEf t n S at' dp al pn P K (bar K dp) ([(at', clq t n 40 (at' + 1) + 1, 34, txt t (at' + 1) (clq t n 40 (at' + 1) - (at' + 1)))], (clq t n 40 (at' + 1) + 1, ld, br)) S' ∧ LT q e S = GO q e S') ∧ (chr t n (clq t n 40 (at' + 1)) ≠ 34 → ∃ S', gr S S' ∧ LT q e S = some ((0, n32 0, 0, 0), S')) := by
  have n40 := ht.1
  have lt := chr_lt hc (by decide)
  have cl := clq_le ht 40 (at' + 1) lt
  obtain ⟨S1, g1, r1, l1, o1, e1⟩ := rlt_lp q (e + 2) ht (n32 (at' + 1)) 40 (at' + 1) _ dp al pn ld br P K (RS_at h (at' + 1)) lt (by omega)
  revert cl r1 l1 o1
  generalize clq t n 40 (at' + 1) = p
  intro cl r1 l1 o1
  have g1' : gr S S1 := gr_tr (gr_wi (gr_rf S) _ (by omega)) g1
  have hLT (S2 : ab_S) (e89 : v_89_0 q (e + 3) S = some ((0, n32 (512 + pn), 0, 0), S2)) : LT q e S = (cI (v_92_91 q (e + 4) (n32 (512 + pn)) S2) fun y1 S1 => (if y1 = (n32 0) then (cI (v_93_0 q (e + 4) S1) fun y2 S2 => (if y2 = (n32 0) then (v_95_104 q (e + 5) (n32 0) S2) else (v_95_99 q (e + 5) S2))) else (v_95_99 q (e + 5) S1))) := by
    rw [lt_1 q e h.2.2.2.1, e_92_0, lk_v q _ ht h ha, cI_0, hc, wd_w q _ (by omega), cI_0, nsg_w rfl, if_pos neg_0, if_neg (by decide : ¬ n32 34 = n32 45), idg_v q _ (by omega), cI_0, show dig 34 = false from rfl, i_bz, if_neg (by decide), if_pos rfl, e89, cI_0]
  have e2 : v_89_0 q (e + 3) S = v_89_48 q (e + 3) (n32 (at' + 1)) S1 := by
    rw [e_89_0, h.2.2.1, n32_add]
    exact e1
  have fin (bd : Nat) (hb : bd ≤ 1) : ∃ S3, gr S S3 ∧ RS S3 t n (p + 1) bd dp al (pn + 1) ld br (mkP P pn 7 (at' + 1) (p - (at' + 1))) K ∧ v_89_72 q (e + 3) (n32 (at' + 1)) (n32 bd) S1 = some ((0, n32 (512 + pn), 0, 0), S3) := by
    obtain ⟨S3, a1, a2, a3⟩ := mk_v q (e + 2) (RS_bd r1 bd) hp 7 (at' + 1) (p - (at' + 1))
    have a3' : v_81_0 q (e + 2) (n32 7) (n32 (at' + 1)) (n32 (p - (at' + 1))) (ab_wi S1 117 16 (n32 bd)) = some ((0, n32 (512 + pn), 0, 0), S3) := a3
    refine ⟨ab_wi S3 117 15 (n32 (p + 1)), gr_wi (gr_tr (gr_wi g1' _ (by omega)) a1) _ (by omega), RS_at a2 (p + 1), ?_⟩
    have z0 : ab_zb (n32 bd) = true := by
      have : bd = 0 ∨ bd = 1 := by omega
      rcases this with x | x <;> rw [x] <;> rfl
    rw [e_89_72, z0, g_t, r1.2.2.1, n32_sub (by omega), a3', cI_0, a2.2.2.1, n32_add]
  have m := mkP_s P pn 7 (at' + 1) (p - (at' + 1))
  refine ⟨fun c => ?_, fun c => ?_⟩
  · have lp := chr_lt c (by decide)
    obtain ⟨S3, a1, a2, a3⟩ := fin 0 (by omega)
    have e3 : v_89_0 q (e + 3) S = some ((0, n32 (512 + pn), 0, 0), S3) := by
      rw [e2, e_89_48, r1.2.2.2.1, if_pos rfl, r1.2.2.1, r1.1, i_lt (by omega) (by omega), if_pos lp, a3]
    refine sim_ok q e a1 a2 hd hp hw (mkP_lo P) hk (by omega) lp h1 h2 (denP_tx (Nat.lt_succ_self _) m.1 m.2.1 m.2.2.1) m.2.2.2.1 ?_ (by unfold sfe; rw [m.1, m.2.1, m.2.2.1]; exact ⟨by decide, fun _ => ⟨by omega, fun k hk => by have := ht.2 (at' + 1 + k) (by omega); omega⟩, nofun, nofun, nofun, nofun, nofun, nofun, nofun, nofun⟩) (hLT S3 e3)
    unfold sgl
    rw [m.1]
    rfl
  · have lp : ¬ p < n := by
      rcases o1 with x | x
      · exact absurd x c
      · omega
    obtain ⟨S3, a1, a2, a3⟩ := fin 1 (by omega)
    have e3 : v_89_0 q (e + 3) S = some ((0, n32 (512 + pn), 0, 0), S3) := by
      rw [e2, e_89_48, r1.2.2.2.1, if_pos rfl, r1.2.2.1, r1.1, i_lt (by omega) (by omega), if_neg lp, e_89_67, a3]
    exact sim_no q e a1 a2 hd hp hw (mkP_lo P) hk (hLT S3 e3)
theorem pin_lt {t : Nat → Nat} {n p : Nat} {z : Int32 × Nat} (h : pin t n p = some z) (hp : p ≤ n) : p < z.2 ∧ z.2 ≤ n := by
  obtain ⟨p1, hp1⟩ : ∃ p1, (if chr t n p = 45 then p + 1 else p) = p1 := ⟨_, rfl⟩
  have pp : p ≤ p1 := by
    rw [← hp1]
    split <;> omega
  rw [pin_c t n p p1 _ hp1 rfl] at h
  by_cases g : dig (chr t n p1) = true
  · rw [if_pos g] at h
    cases h
    have a := dig_c g
    have b := chr_lt (t := t) (n := n) (p := p1) rfl (by omega)
    have d4 : dgs t n 4 p1 0 = dgs t n 3 (p1 + 1) (0 * 10 + (chr t n p1 - 48)) := by rw [dgs_s, if_pos g]
    have dl := dgs_le (t := t) (n := n) 3 (p1 + 1) (0 * 10 + (chr t n p1 - 48)) b
    rw [← d4] at dl
    exact ⟨by show p < (dgs t n 4 p1 0).2; omega, dl.2⟩
  · rw [if_neg g] at h
    cases h
/-- a raw number is put into as or bs -/
theorem RS_raw {t : Nat → Nat} {n : Nat} {S : ab_S} {at' bd dp al pn ld br : Nat} {P K : Nat → Nat → Nat} (h : RS S t n at' bd dp al pn ld br P K) {j p : Nat} (hj : j = 1 ∨ j = 2) (hA : j = 1 → pA (P 0 p) = false) (hB : j = 2 → pB (P 0 p) = false) (v : Nat) {x : Int32} (hx : x = n32 v) : RS (ab_wi S (125 + j) (512 + p) x) t n at' bd dp al pn ld br (uP P j p v) K := by
  refine ⟨?_, fun i hi => ?_, ?_, ?_, ?_, ?_, ?_, ?_, ?_, fun p' hp => ?_, fun l hl => ?_⟩
  · rw [wi_rd, if_neg (by omega)]; exact h.1
  · rw [wi_rd, if_neg (by omega)]; exact h.2.1 i hi
  · rw [wi_rd, if_neg (by omega)]; exact h.2.2.1
  · rw [wi_rd, if_neg (by omega)]; exact h.2.2.2.1
  · rw [wi_rd, if_neg (by omega)]; exact h.2.2.2.2.1
  · rw [wi_rd, if_neg (by omega)]; exact h.2.2.2.2.2.1
  · rw [wi_rd, if_neg (by omega)]; exact h.2.2.2.2.2.2.1
  · rw [wi_rd, if_neg (by omega)]; exact h.2.2.2.2.2.2.2.1
  · rw [wi_rd, if_neg (by omega)]; exact h.2.2.2.2.2.2.2.2.1
  · have o := h.2.2.2.2.2.2.2.2.2.1 p' hp
    have k0 : uP P j p v 0 p' = P 0 p' := uP_j P (by omega)
    have k3 : uP P j p v 3 p' = P 3 p' := uP_j P (by omega)
    have k4 : uP P j p v 4 p' = P 4 p' := uP_j P (by omega)
    unfold rP
    rw [k0, k3, k4]
    by_cases ep : p' = p
    · subst ep
      rcases hj with hj | hj
      · subst hj
        have a := hA rfl
        rw [uP_s, uP_j P (by omega : (2 : Nat) ≠ 1)]
        refine ⟨?_, ?_, ?_, ?_, ?_⟩
        · rw [wi_rd, if_neg (by omega)]; exact o.1
        · rw [wi_rd, if_pos ⟨rfl, rfl⟩, hx]; unfold eA; rw [a]; rfl
        · rw [wi_rd, if_neg (by omega)]; exact o.2.2.1
        · rw [wi_rd, if_neg (by omega)]; exact o.2.2.2.1
        · rw [wi_rd, if_neg (by omega)]; exact o.2.2.2.2
      · subst hj
        have a := hB rfl
        rw [uP_s, uP_j P (by omega : (1 : Nat) ≠ 2)]
        refine ⟨?_, ?_, ?_, ?_, ?_⟩
        · rw [wi_rd, if_neg (by omega)]; exact o.1
        · rw [wi_rd, if_neg (by omega)]; exact o.2.1
        · rw [wi_rd, if_pos ⟨rfl, rfl⟩, hx]; unfold eB; rw [a]; rfl
        · rw [wi_rd, if_neg (by omega)]; exact o.2.2.2.1
        · rw [wi_rd, if_neg (by omega)]; exact o.2.2.2.2
    · have w (c : Nat) : (ab_wi S (125 + j) (512 + p) x).1 c (512 + p') = S.1 c (512 + p') := by rw [wi_rd, if_neg (by omega)]
      rw [uP_p P ep, uP_p P ep, w, w, w, w, w]
      exact o
  · have o := h.2.2.2.2.2.2.2.2.2.2 l hl
    have w (c : Nat) (hc : 130 ≤ c) : (ab_wi S (125 + j) (512 + p) x).1 c l = S.1 c l := by rw [wi_rd, if_neg (by omega)]
    unfold rK
    rw [w 130 (by omega), w 131 (by omega), w 132 (by omega), w 133 (by omega), w 134 (by omega), w 135 (by omega), w 136 (by omega)]
    exact o
theorem attK_6 (K : Nat → Nat → Nat) (dp p j l : Nat) (h : j ≠ 4) : attK K dp p j l = K j l := by
  unfold attK
  split
  · exact uP_j K h
  · rfl
/-- a point goes on to nothing -/
theorem go_46 (q e : Nat) {t : Nat → Nat} {n : Nat} (ht : tok t n) {S : ab_S} {a dp al pn pn1 ld br : Nat} {P P1 K : Nat → Nat → Nat} (h : RS S t n a 0 dp al pn1 ld br P1 (attK K dp pn)) (hd : dp ≤ 4) (ha : a ≤ n) (hk : ∀ l, l ≤ dp → K 0 l < 128) (hw : wfL P K pn dp) (c : chr t n a = 46) : ∃ S', gr S S' ∧ GO q e S = some ((0, n32 0, 0, 0), S') := by
  have l := chr_lt c (by decide)
  rcases hw with ⟨w6, _⟩ | ⟨w6, _⟩
  · have := go_nx q e ht h hd ha (by rw [attK_6 _ _ _ _ _ (by omega)]; exact hk dp (Nat.le_refl _)) (by rw [attK_6 _ _ _ _ _ (by omega)]; exact w6) (by rw [c]; decide) (fun z => by rw [c] at z; exact absurd z.2 (by decide)) (fun z => by
      have z2 := z.2
      rw [c] at z2
      unfold cls at z2
      split at z2
      · cases z2
      · split at z2 <;> cases z2)
    rw [if_neg (by omega)] at this
    exact ⟨_, gr_wi (gr_rf S) _ (by omega), this⟩
  · exact go_k0 q e ht h hd ha (by rw [attK_6 _ _ _ _ _ (by omega)]; exact w6) (by rw [c]; decide)
/-- integers: one or two that no digit follows; or bad; or a point that stays -/
theorem rig_v (q d : Nat) {t : Nat → Nat} {n : Nat} (ht : tok t n) {S : ab_S} {at' dp al pn ld br : Nat} {P K : Nat → Nat → Nat} (h : RS S t n at' 0 dp al pn ld br P K) (ha : at' ≤ n) (hp : pn < 128) : ∃ S' P1, gr S S' ∧ (∀ j p, p < pn → P1 j p = P j p) ∧ P1 3 pn = 4294967295 ∧ v_88_0 q (d + 3) S = some ((0, n32 (512 + pn), 0, 0), S') ∧
    ((∃ x, pis t n at' = some x ∧ dig (chr t n x.2.2.2) = false ∧ at' < x.2.2.2 ∧ x.2.2.2 ≤ n ∧ RS S' t n x.2.2.2 0 dp al (pn + 1) ld br P1 K ∧ P1 0 pn = 6 ∧ n32 (P1 1 pn) = x.2.1 ∧ n32 (P1 2 pn) = x.2.2.1 ∧ (x.1 = 48 ∨ x.1 = 46) ∧ P1 4 pn = (if x.1 = 48 then 1 else 0)) ∨ ((∀ x, pis t n at' = some x → dig (chr t n x.2.2.2) = true) ∧ ∃ a, RS S' t n a 1 dp al (pn + 1) ld br P1 K) ∨ (pis t n at' = none ∧ ∃ a, a ≤ n ∧ RS S' t n a 0 dp al (pn + 1) ld br P1 K ∧ chr t n a = 46)) := by
  have n40 := ht.1
  have gen (lo : Int32) (a bd : Nat) (hb : bd ≤ 1) (hal : a ≤ n) (S1 : ab_S) (g1 : gr S S1) (r1 : RS S1 t n a bd dp al pn ld br P K) (e1 : v_87_0 q (d + 2) S = some ((0, lo, 0, 0), S1)) : ∃ S' P1, gr S S' ∧ (∀ j p, p < pn → P1 j p = P j p) ∧ P1 3 pn = 4294967295 ∧ v_88_0 q (d + 3) S = some ((0, n32 (512 + pn), 0, 0), S') ∧ P1 0 pn = 6 ∧ n32 (P1 1 pn) = lo ∧ ((¬ (chr t n a = 46 ∧ chr t n (a + 1) = 46) ∧ RS S' t n a bd dp al (pn + 1) ld br P1 K ∧ n32 (P1 2 pn) = lo ∧ P1 4 pn = 1) ∨ (chr t n a = 46 ∧ chr t n (a + 1) = 46 ∧ P1 4 pn = 0 ∧ ((∃ z, pin t n (a + 2) = some z ∧ dig (chr t n z.2) = false ∧ RS S' t n z.2 bd dp al (pn + 1) ld br P1 K ∧ n32 (P1 2 pn) = z.1) ∨ ((∀ z, pin t n (a + 2) = some z → dig (chr t n z.2) = true) ∧ ∃ a', RS S' t n a' 1 dp al (pn + 1) ld br P1 K)))) := by
    obtain ⟨S2, a1, a2, a3⟩ := mk_v q (d + 2) r1 hp 6 lo.toBitVec.toNat lo.toBitVec.toNat
    have a3' : v_81_0 q (d + 2) (n32 6) lo lo S1 = some ((0, n32 (512 + pn), 0, 0), S2) := by
      have ea : eA 512 6 lo.toBitVec.toNat = lo := (n32_self lo).symm
      have eb : eB 512 6 lo.toBitVec.toNat = lo := (n32_self lo).symm
      rw [ea, eb] at a3
      exact a3
    have m := mkP_s P pn 6 lo.toBitVec.toNat lo.toBitVec.toNat
    have r3 := RS_o a2 pn 1
    have g3 : gr S (ab_wi S2 129 (512 + pn) (n32 1)) := gr_wi (gr_tr g1 a1) _ (by omega)
    have c126 := chr_le ht a
    have e2 : v_88_0 q (d + 3) S = (if chr t n a = 46 then (if a + 1 < n then (if chr t n (a + 1) = 46 then (cI (v_87_0 q (d + 2) (ab_wi (ab_wi S2 129 (512 + pn) (n32 1)) 117 15 (n32 (a + 2)))) fun y4 S4 => (ab_g (ab_in (n32 (512 + pn)) 640) (ab_g (ab_in (n32 (512 + pn)) 640) (v_88_86 q (d + 3) (n32 (512 + pn)) (ab_wi (ab_wi S4 127 (512 + pn) y4) 129 (512 + pn) (n32 0)))))) else (v_88_86 q (d + 3) (n32 (512 + pn)) (ab_wi S2 129 (512 + pn) (n32 1)))) else (v_88_86 q (d + 3) (n32 (512 + pn)) (ab_wi S2 129 (512 + pn) (n32 1)))) else (v_88_86 q (d + 3) (n32 (512 + pn)) (ab_wi S2 129 (512 + pn) (n32 1)))) := by
      rw [e_88_0, e1, cI_0, a3', cI_0, n32_in (by omega) (by omega), g_t, n32_cl (by omega), lk_v q _ ht r3 hal, cI_0, i_eq (by omega) (by omega), r3.2.2.1, n32_add, n32_add, r3.1, i_lt (by omega) (by omega)]
      by_cases l : a + 1 < n
      · have ca : chr t n (a + 1) = t (a + 1) := if_pos l
        have := ht.2 (a + 1) l
        rw [if_pos l, if_pos l, n32_in (by omega) (by omega), g_t, n32_cl (by omega), r3.2.1 _ l, i_eq (by omega) (by omega), ca]
      · rw [if_neg l, if_neg l]
    have base (hno : ¬ (chr t n a = 46 ∧ chr t n (a + 1) = 46)) (e3 : v_88_0 q (d + 3) S = v_88_86 q (d + 3) (n32 (512 + pn)) (ab_wi S2 129 (512 + pn) (n32 1))) : ∃ S' P1, gr S S' ∧ (∀ j p, p < pn → P1 j p = P j p) ∧ P1 3 pn = 4294967295 ∧ v_88_0 q (d + 3) S = some ((0, n32 (512 + pn), 0, 0), S') ∧ P1 0 pn = 6 ∧ n32 (P1 1 pn) = lo ∧ ((¬ (chr t n a = 46 ∧ chr t n (a + 1) = 46) ∧ RS S' t n a bd dp al (pn + 1) ld br P1 K ∧ n32 (P1 2 pn) = lo ∧ P1 4 pn = 1) ∨ (chr t n a = 46 ∧ chr t n (a + 1) = 46 ∧ P1 4 pn = 0 ∧ ((∃ z, pin t n (a + 2) = some z ∧ dig (chr t n z.2) = false ∧ RS S' t n z.2 bd dp al (pn + 1) ld br P1 K ∧ n32 (P1 2 pn) = z.1) ∨ ((∀ z, pin t n (a + 2) = some z → dig (chr t n z.2) = true) ∧ ∃ a', RS S' t n a' 1 dp al (pn + 1) ld br P1 K)))) := by
      refine ⟨_, _, g3, uP_lo (mkP_lo P), by rw [uP_j _ (by omega)]; exact m.2.2.2.1, by rw [e3, e_88_86], by rw [uP_j _ (by omega)]; exact m.1, by rw [uP_j _ (by omega), m.2.1]; exact (n32_self lo).symm, Or.inl ⟨hno, r3, by rw [uP_j _ (by omega), m.2.2.1]; exact (n32_self lo).symm, uP_s _ _ _ _⟩⟩
    by_cases c1 : chr t n a = 46
    · by_cases c2 : chr t n (a + 1) = 46
      · have l := chr_lt c2 (by decide)
        rw [if_pos c1, if_pos l, if_pos c2] at e2
        have r4 := RS_at r3 (a + 2)
        obtain ⟨S4, b1, b2⟩ := rin_v q d ht r4 hb (by omega : a + 2 ≤ n)
        have fin (y4 : Int32) (e4 : v_87_0 q (d + 2) (ab_wi (ab_wi S2 129 (512 + pn) (n32 1)) 117 15 (n32 (a + 2))) = some ((0, y4, 0, 0), S4)) : v_88_0 q (d + 3) S = some ((0, n32 (512 + pn), 0, 0), ab_wi (ab_wi S4 127 (512 + pn) y4) 129 (512 + pn) (n32 0)) := by
          rw [e2, e4, cI_0, n32_in (by omega) (by omega), g_t, g_t, e_88_86]
        have r5 (y4 : Int32) (a' bd' : Nat) (r : RS S4 t n a' bd' dp al (pn + 1) ld br (uP (mkP P pn 6 lo.toBitVec.toNat lo.toBitVec.toNat) 4 pn 1) K) : RS (ab_wi (ab_wi S4 127 (512 + pn) y4) 129 (512 + pn) (n32 0)) t n a' bd' dp al (pn + 1) ld br (uP (uP (uP (mkP P pn 6 lo.toBitVec.toNat lo.toBitVec.toNat) 4 pn 1) 2 pn y4.toBitVec.toNat) 4 pn 0) K := by
          refine RS_o ?_ pn 0
          refine RS_raw r (Or.inr rfl) ?_ ?_ y4.toBitVec.toNat (n32_self y4)
          · intro z
            omega
          · intro _
            rw [uP_j _ (by omega), m.1]
            rfl
        have lo5 (y4 : Int32) : ∀ j p, p < pn → (uP (uP (uP (mkP P pn 6 lo.toBitVec.toNat lo.toBitVec.toNat) 4 pn 1) 2 pn y4.toBitVec.toNat) 4 pn 0) j p = P j p := uP_lo (uP_lo (uP_lo (mkP_lo P)))
        have f5 (y4 : Int32) : (uP (uP (uP (mkP P pn 6 lo.toBitVec.toNat lo.toBitVec.toNat) 4 pn 1) 2 pn y4.toBitVec.toNat) 4 pn 0) 3 pn = 4294967295 ∧ (uP (uP (uP (mkP P pn 6 lo.toBitVec.toNat lo.toBitVec.toNat) 4 pn 1) 2 pn y4.toBitVec.toNat) 4 pn 0) 0 pn = 6 ∧ n32 ((uP (uP (uP (mkP P pn 6 lo.toBitVec.toNat lo.toBitVec.toNat) 4 pn 1) 2 pn y4.toBitVec.toNat) 4 pn 0) 1 pn) = lo ∧ n32 ((uP (uP (uP (mkP P pn 6 lo.toBitVec.toNat lo.toBitVec.toNat) 4 pn 1) 2 pn y4.toBitVec.toNat) 4 pn 0) 2 pn) = y4 ∧ (uP (uP (uP (mkP P pn 6 lo.toBitVec.toNat lo.toBitVec.toNat) 4 pn 1) 2 pn y4.toBitVec.toNat) 4 pn 0) 4 pn = 0 := by
          refine ⟨?_, ?_, ?_, ?_, uP_s _ _ _ _⟩
          · rw [uP_j _ (by omega), uP_j _ (by omega), uP_j _ (by omega)]; exact m.2.2.2.1
          · rw [uP_j _ (by omega), uP_j _ (by omega), uP_j _ (by omega)]; exact m.1
          · rw [uP_j _ (by omega), uP_j _ (by omega), uP_j _ (by omega), m.2.1]; exact (n32_self lo).symm
          · rw [uP_j _ (by omega), uP_s]; exact (n32_self y4).symm
        have g5 (y4 : Int32) : gr S (ab_wi (ab_wi S4 127 (512 + pn) y4) 129 (512 + pn) (n32 0)) := gr_wi (gr_wi (gr_tr (gr_wi g3 _ (by omega)) b1) _ (by omega)) _ (by omega)
        rcases b2 with ⟨z, z1, z2, z3, z4⟩ | ⟨z1, z, x, z2, z3, z4⟩
        · exact ⟨_, _, g5 z.1, lo5 z.1, (f5 z.1).1, fin z.1 z4, (f5 z.1).2.1, (f5 z.1).2.2.1, Or.inr ⟨c1, c2, (f5 z.1).2.2.2.2, Or.inl ⟨z, z1, z2, r5 z.1 _ _ z3, (f5 z.1).2.2.2.1⟩⟩⟩
        · exact ⟨_, _, g5 z, lo5 z, (f5 z).1, fin z z4, (f5 z).2.1, (f5 z).2.2.1, Or.inr ⟨c1, c2, (f5 z).2.2.2.2, Or.inr ⟨z1, x, r5 z _ _ z3⟩⟩⟩
      · refine base (fun z => c2 z.2) ?_
        rw [e2, if_pos c1, if_neg c2, ite_self]
    · refine base (fun z => c1 z.1) ?_
      rw [e2, if_neg c1]
  obtain ⟨S1, b1, b2⟩ := rin_v q d ht h (by omega) ha
  unfold pis
  rcases b2 with ⟨z, z1, z2, z3, z4⟩ | ⟨z1, z, x, z2, z3, z4⟩
  · have zl := pin_lt z1 ha
    obtain ⟨S', P1, c1, c2, c3, c4, c5, c6, c7⟩ := gen z.1 z.2 0 (by omega) zl.2 S1 b1 z3 z4
    refine ⟨S', P1, c1, c2, c3, c4, ?_⟩
    rw [z1]
    show (∃ x, (if chr t n z.2 = 46 then (if chr t n (z.2 + 1) = 46 then (match pin t n (z.2 + 2) with | none => none | some y => some (46, z.1, y.1, y.2)) else none) else some (48, z.1, z.1, z.2)) = some x ∧ _) ∨ ((∀ x, (if chr t n z.2 = 46 then (if chr t n (z.2 + 1) = 46 then (match pin t n (z.2 + 2) with | none => none | some y => some (46, z.1, y.1, y.2)) else none) else some (48, z.1, z.1, z.2)) = some x → _) ∧ _) ∨ ((if chr t n z.2 = 46 then (if chr t n (z.2 + 1) = 46 then (match pin t n (z.2 + 2) with | none => none | some y => some (46, z.1, y.1, y.2)) else none) else some (48, z.1, z.1, z.2)) = none ∧ _)
    rcases c7 with ⟨d1, d2, d3, d4⟩ | ⟨d1, d2, d3, d4⟩
    · by_cases k : chr t n z.2 = 46
      · have k2 : ¬ chr t n (z.2 + 1) = 46 := fun w => d1 ⟨k, w⟩
        rw [if_pos k, if_neg k2]
        exact Or.inr (Or.inr ⟨rfl, z.2, zl.2, d2, k⟩)
      · rw [if_neg k]
        exact Or.inl ⟨_, rfl, z2, zl.1, zl.2, d2, c5, c6, d3, Or.inl rfl, d4⟩
    · rw [if_pos d1, if_pos d2]
      have l2 := chr_lt d2 (by decide)
      rcases d4 with ⟨w, w1, w2, w3, w4⟩ | ⟨w1, a', w2⟩
      · rw [w1]
        have wl := pin_lt w1 (by omega)
        exact Or.inl ⟨_, rfl, w2, show at' < w.2 by omega, wl.2, w3, c5, c6, w4, Or.inr rfl, d3⟩
      · refine Or.inr (Or.inl ⟨fun x hx => ?_, a', w2⟩)
        cases hy : pin t n (z.2 + 2) with
        | none =>
          rw [hy] at hx
          cases hx
        | some y =>
          rw [hy] at hx
          cases hx
          exact w1 y hy
  · obtain ⟨S', P1, c1, c2, c3, c4, c5, c6, c7⟩ := gen z x 1 (by omega) z2 S1 b1 z3 z4
    refine ⟨S', P1, c1, c2, c3, c4, Or.inr (Or.inl ⟨fun w hw => ?_, ?_⟩)⟩
    · cases hy : pin t n at' with
      | none =>
        rw [hy] at hw
        cases hw
      | some y =>
        rw [hy] at hw
        have yd := z1 y hy
        have y46 : chr t n y.2 ≠ 46 := fun w => by rw [w] at yd; cases yd
        have hw : (if chr t n y.2 = 46 then (if chr t n (y.2 + 1) = 46 then (match pin t n (y.2 + 2) with | none => none | some y' => some (46, y.1, y'.1, y'.2)) else none) else some (48, y.1, y.1, y.2)) = some w := hw
        rw [if_neg y46] at hw
        cases hw
        exact yd
    · rcases c7 with ⟨d1, d2, d3, d4⟩ | ⟨d1, d2, d3, d4⟩
      · exact ⟨_, d2⟩
      · rcases d4 with ⟨w, w1, w2, w3, w4⟩ | ⟨w1, a', w2⟩
        · exact ⟨_, w3⟩
        · exact ⟨_, w2⟩
theorem rit_v' (q e : Nat) {t : Nat → Nat} {n : Nat} (ht : tok t n) {S : ab_S} {at' dp al pn ld br : Nat} {P K : Nat → Nat → Nat} (h : RS S t n at' 0 dp al pn ld br P K) (hd : dp ≤ 4) (ha : at' ≤ n) (h1 : ld < 256) (h2 : br < 256) (hp : pn < 128) (hw : wfL P K pn dp) (hk : ∀ l, l ≤ dp → K 0 l < 128) (hc : chr t n at' = 45 ∨ dig (chr t n at') = true) :
    (∀ x, pis t n at' = some x → dig (chr t n x.2.2.2) = false → ∃ S', rEf t n S at' dp al pn P K (bar K dp) ([(at', x.2.2.2, x.1, itg x.2.1 x.2.2.1)], (x.2.2.2, ld, br)) S' ∧ LT q e S = GO q e S') ∧ ((∀ x, pis t n at' = some x → dig (chr t n x.2.2.2) = true) → ∃ S', gr S S' ∧ LT q e S = some ((0, n32 0, 0, 0), S')) := by
  have n40 := ht.1
  have c126 := chr_le ht at'
  have c58 : chr t n at' = 45 ∨ (48 ≤ chr t n at' ∧ chr t n at' ≤ 57) := hc.elim Or.inl (fun z => Or.inr (dig_c z))
  have ni : isg (chr t n at') = false := by
    generalize chr t n at' = x at c58
    have : ∀ x, x < 58 → isg x = false := by decide
    exact this x (by omega)
  obtain ⟨S1, P1, g1, lo, p3, e88, out⟩ := rig_v q e ht h ha hp
  have hLT : LT q e S = (cI (v_92_91 q (e + 4) (n32 (512 + pn)) S1) fun y1 S1 => (if y1 = (n32 0) then (cI (v_93_0 q (e + 4) S1) fun y2 S2 => (if y2 = (n32 0) then (v_95_104 q (e + 5) (n32 0) S2) else (v_95_99 q (e + 5) S2))) else (v_95_99 q (e + 5) S1))) := by
    have e51 : v_92_51 q (e + 4) S = v_92_91 q (e + 4) (n32 (512 + pn)) S1 := by
      rw [e_92_51, e88, cI_0]
    rw [lt_1 q e h.2.2.2.1, e_92_0, lk_v q _ ht h ha, cI_0, wd_w q _ (by omega), cI_0, nsg_w ni, if_pos neg_0, i_eq (by omega) (by omega), idg_v q _ (by omega), cI_0, i_bz, e51]
    by_cases c45 : chr t n at' = 45
    · rw [if_pos c45]
    · rw [if_neg c45, if_pos (hc.elim (fun z => absurd z c45) id)]
  rcases out with ⟨x, x1, x2, x3, x4, x5, x6, x7, x8, x9, x10⟩ | ⟨x1, a, x2⟩ | ⟨x1, a, x2, x3, x4⟩
  · refine ⟨fun y hy yd => ?_, fun hn => ?_⟩
    · cases x1.symm.trans hy
      refine sim_ok q e g1 x5 hd hp hw lo hk x3 x4 h1 h2 (denP_it (Nat.lt_succ_self _) x6 x7 x8) p3 ?_ (by unfold sfe; rw [x6]; exact ⟨by decide, nofun, nofun, nofun, nofun, nofun, nofun, nofun, nofun, fun _ => by rw [x10]; split <;> decide⟩) hLT
      unfold sgl
      rw [x6, x10]
      rcases x9 with z | z <;> rw [z] <;> rfl
    · have := hn x x1
      rw [x2] at this
      cases this
  · refine ⟨fun y hy yd => ?_, fun _ => sim_no q e g1 x2 hd hp hw lo hk hLT⟩
    rw [x1 y hy] at yd
    cases yd
  · refine ⟨fun y hy yd => ?_, fun _ => ?_⟩
    · cases x1.symm.trans hy
    · obtain ⟨S2, a1, a2, a3⟩ := sim_fin q (e + 3) x3 hd hp hw lo hk
      have b0 : S2.1 117 16 = n32 0 := a2.2.2.2.1
      have eg : LT q e S = GO q e S2 := by
        rw [hLT, a3, cI_0, if_neg one_z, e_95_99, fin_G q e b0]
      obtain ⟨S3, c1, c2⟩ := go_46 q e ht a2 hd x2 (by
        intro l hl
        exact hk l hl) hw x4
      exact ⟨S3, gr_tr (gr_tr g1 a1) c1, eg.trans c2⟩
