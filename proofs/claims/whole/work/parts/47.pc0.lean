-- The class reads types: characters.
def rdr (r : Nat) (t : Nat → Nat) (n : Nat) (S : ab_S) (s : pst) : Prop := S.2.2.1 102 0 = r ∧ S.1 102 1 = n32 s.1 ∧ S.1 r 11 = n32 n ∧ (∀ i, i < n → S.1 (r + 1) i = n32 (t i)) ∧ S.1 r 13 = n32 s.2.1 ∧ S.1 r 14 = n32 s.2.2
def tok (t : Nat → Nat) (n : Nat) : Prop := n ≤ 40 ∧ ∀ i, i < n → 32 ≤ t i ∧ t i ≤ 126
theorem chr_le {t : Nat → Nat} {n : Nat} (h : tok t n) (p : Nat) : chr t n p ≤ 126 := by
  unfold chr
  split
  · rename_i g
    exact (h.2 p g).2
  · omega
theorem chr_lt {t : Nat → Nat} {n p c : Nat} (h : chr t n p = c) (hc : c ≠ 0) : p < n := by
  unfold chr at h
  split at h
  · assumption
  · exact absurd h.symm hc
theorem chr_0 {t : Nat → Nat} {n : Nat} (h : tok t n) {p : Nat} (g : chr t n p = 0) : n ≤ p := by
  unfold chr at g
  split at g
  · rename_i k
    have := h.2 p k
    omega
  · omega
def pf (r p p' : Nat) (S S' : ab_S) : Prop := S'.2 = S.2 ∧ ∀ c j, (c = 102 → j ≠ 1 ∧ j ≠ 2) → (c = r → j ≠ 13 ∧ j ≠ 14) → (r + 2 ≤ c → c ≤ r + 10 → ¬ (p ≤ j ∧ j < p')) → S'.1 c j = S.1 c j
def ff (r : Nat) (S S' : ab_S) : Prop := ∃ S1, S' = ab_wx S1 ∧ S1.2 = S.2 ∧ ∀ c j, c ≠ 102 → (c < r ∨ r + 10 < c) → S1.1 c j = S.1 c j
theorem pf_rf (r p p' : Nat) (S : ab_S) : pf r p p' S S := ⟨rfl, fun _ _ _ _ _ => rfl⟩
theorem pf_tr {r p p1 p2 p' p3 p4 : Nat} {S S1 S2 : ab_S} (h : pf r p p1 S S1) (g : pf r p2 p' S1 S2) (h1 : p3 ≤ p) (h2 : p1 ≤ p4) (h3 : p3 ≤ p2) (h4 : p' ≤ p4) : pf r p3 p4 S S2 := ⟨g.1.trans h.1, fun c j a b d => (g.2 c j a b (fun x y z => d x y (by omega))).trans (h.2 c j a b (fun x y z => d x y (by omega)))⟩
theorem pf_wd {r p p1 p3 p4 : Nat} {S S1 : ab_S} (h : pf r p p1 S S1) (h1 : p3 ≤ p) (h2 : p1 ≤ p4) : pf r p3 p4 S S1 := ⟨h.1, fun c j a b d => h.2 c j a b (fun x y z => d x y (by omega))⟩
theorem pf_102 (r p p' : Nat) (S : ab_S) {k : Nat} (hk : k = 1 ∨ k = 2) (v : Int32) : pf r p p' S (ab_wi S 102 k v) := ⟨rfl, fun c j a _ _ => by rw [wi_rd, if_neg (by omega)]⟩
theorem pf_r (r p p' : Nat) (S : ab_S) {k : Nat} (hk : k = 13 ∨ k = 14) (v : Int32) : pf r p p' S (ab_wi S r k v) := ⟨rfl, fun c j _ b _ => by rw [wi_rd, if_neg (by omega)]⟩
theorem pf_tb {r p p' k x : Nat} (S : ab_S) (h1 : 2 ≤ k) (h2 : k ≤ 10) (h3 : p ≤ x) (h4 : x < p') (v : Int32) : pf r p p' S (ab_wi S (r + k) x v) := ⟨rfl, fun c j _ _ d => by rw [wi_rd, if_neg (by intro z; exact d (by omega) (by omega) (by omega))]⟩
theorem ff_wx {r p p' : Nat} {S S1 : ab_S} (h : pf r p p' S S1) : ff r S (ab_wx S1) := ⟨S1, rfl, h.1, fun c j x y => h.2 c j (by omega) (by omega) (by omega)⟩
theorem ff_tr {r p p' : Nat} {S S1 S2 : ab_S} (h : pf r p p' S S1) (g : ff r S1 S2) : ff r S S2 := by
  obtain ⟨S3, a, b, d⟩ := g
  exact ⟨S3, a, b.trans h.1, fun c j x y => (d c j x y).trans (h.2 c j (by omega) (by omega) (by omega))⟩
theorem rdr_pf {r : Nat} {t : Nat → Nat} {n : Nat} {S S' : ab_S} {s s' : pst} {p p' : Nat} (hr : isSh r) (h : rdr r t n S s) (g : pf r p p' S S') (h1 : S'.1 102 1 = n32 s'.1) (h2 : S'.1 r 13 = n32 s'.2.1) (h3 : S'.1 r 14 = n32 s'.2.2) : rdr r t n S' s' := by
  have := sh_ge hr
  have h102 : r ≠ 102 := by rcases hr with h | h | h | h | h | h | h | h | h <;> omega
  have h101 : r ≠ 101 := by rcases hr with h | h | h | h | h | h | h | h | h <;> omega
  refine ⟨by rw [g.1]; exact h.1, h1, (g.2 r 11 (by omega) (by omega) (by omega)).trans h.2.2.1, fun i hi => (g.2 (r + 1) i (by omega) (by omega) (by omega)).trans (h.2.2.2.1 i hi), h2, h3⟩
theorem sh_ne {r : Nat} (hr : isSh r) : r ≠ 102 ∧ ∀ k, 1 ≤ k → k ≤ 10 → r + k ≠ 102 := by
  refine ⟨?_, fun k h1 h2 => ?_⟩ <;> rcases hr with h | h | h | h | h | h | h | h | h <;> omega
theorem rdr_mv {r : Nat} {t : Nat → Nat} {n : Nat} {S : ab_S} {s : pst} (hr : isSh r) (h : rdr r t n S s) (p : Nat) : rdr r t n (ab_wi S 102 1 (n32 p)) (p, s.2) := by
  have g := sh_ne hr
  have g1 := g.2 1 (by omega) (by omega)
  exact ⟨h.1, rfl, by rw [wi_rd, if_neg (by omega)]; exact h.2.2.1, fun i hi => by rw [wi_rd, if_neg (by omega)]; exact h.2.2.2.1 i hi, by rw [wi_rd, if_neg (by omega)]; exact h.2.2.2.2.1, by rw [wi_rd, if_neg (by omega)]; exact h.2.2.2.2.2⟩
theorem rdr_tb {r : Nat} {t : Nat → Nat} {n : Nat} {S : ab_S} {s : pst} (hr : isSh r) (h : rdr r t n S s) {k : Nat} (h1 : 2 ≤ k) (h2 : k ≤ 10) (x : Nat) (v : Int32) : rdr r t n (ab_wi S (r + k) x v) s := by
  have g := (sh_ne hr).2 k (by omega) h2
  exact ⟨h.1, by rw [wi_rd, if_neg (by omega)]; exact h.2.1, by rw [wi_rd, if_neg (by omega)]; exact h.2.2.1, fun i hi => by rw [wi_rd, if_neg (by omega)]; exact h.2.2.2.1 i hi, by rw [wi_rd, if_neg (by omega)]; exact h.2.2.2.2.1, by rw [wi_rd, if_neg (by omega)]; exact h.2.2.2.2.2⟩
theorem rdr_tl {r : Nat} {t : Nat → Nat} {n : Nat} {S : ab_S} {s : pst} (hr : isSh r) (h : rdr r t n S s) (v : Int32) : rdr r t n (ab_wi S 102 2 v) s := by
  have g := sh_ne hr
  have g1 := g.2 1 (by omega) (by omega)
  exact ⟨h.1, by rw [wi_rd, if_neg (by omega)]; exact h.2.1, by rw [wi_rd, if_neg (by omega)]; exact h.2.2.1, fun i hi => by rw [wi_rd, if_neg (by omega)]; exact h.2.2.2.1 i hi, by rw [wi_rd, if_neg (by omega)]; exact h.2.2.2.2.1, by rw [wi_rd, if_neg (by omega)]; exact h.2.2.2.2.2⟩
theorem he_v (q d : Nat) {r : Nat} (hr : isSh r) {t : Nat → Nat} {n : Nat} (ht : tok t n) {S : ab_S} {s : pst} (h : rdr r t n S s) (hs : s.1 ≤ n) : v_40_0 q d S = some ((0, n32 (chr t n s.1), 0, 0), S) := by
  have hn := ht.1
  have c := chr_le ht s.1
  rw [e_40_0, h.1, ok_sh hr (k := 40) rfl, g_t, h.2.1, h.2.2.1, i_lt (by omega) (by omega), g_t, ok_a1 hr (k := 40) rfl, g_t]
  by_cases g : s.1 < n
  · have c' : chr t n s.1 = t s.1 := if_pos g
    rw [if_pos g, in_ar hr q (by omega : s.1 < 40) (by omega) (by omega), g_t, n32_cl (by omega), h.2.2.2.1 _ g, e_40_30, n32_nc (by omega), c']
  · have c' : chr t n s.1 = 0 := if_neg g
    rw [if_neg g, e_40_30, c']
    rfl
theorem ps_v (q d : Nat) {r : Nat} (hr : isSh r) {t : Nat → Nat} {n : Nat} (ht : tok t n) {S : ab_S} {s : pst} (h : rdr r t n S s) (hs : s.1 ≤ n) {c : Nat} (hc : c < 4294967296) : v_41_0 q (d + 1) (n32 c) S = if chr t n s.1 = c then some ((0, n32 1, 0, 0), ab_wi S 102 1 (n32 (s.1 + 1))) else some ((0, n32 0, 0, 0), S) := by
  have := chr_le ht s.1
  rw [e_41_0, he_v q d hr ht h hs, cI_0, i_eq (by omega) hc, h.2.1, n32_add]
theorem dg_v (q d : Nat) {r : Nat} (hr : isSh r) {t : Nat → Nat} {n : Nat} (ht : tok t n) {S : ab_S} {s : pst} (h : rdr r t n S s) (hs : s.1 ≤ n) : v_42_0 q (d + 1) S = some ((0, n32 (dig (chr t n s.1)).toNat, 0, 0), S) := by
  have := chr_le ht s.1
  rw [e_42_0, he_v q d hr ht h hs, cI_0, i_lt (by omega) (by omega), he_v q d hr ht h hs, cI_0, i_lt (by omega) (by omega), e_42_22, e_42_23, e_42_23, nz_0, nz_1]
  unfold dig
  by_cases g : chr t n s.1 < 48
  · rw [if_pos g, decide_eq_false (by omega : ¬ 48 ≤ chr t n s.1)]; rfl
  · rw [if_neg g, decide_eq_true (by omega : 48 ≤ chr t n s.1)]
    by_cases k : 57 < chr t n s.1
    · rw [if_pos k, decide_eq_false (by omega : ¬ chr t n s.1 ≤ 57)]; rfl
    · rw [if_neg k, decide_eq_true (by omega : chr t n s.1 ≤ 57)]; rfl
theorem rq_b (q d : Nat) (b : Bool) (S : ab_S) : v_39_0 q (d + 1) (n32 b.toNat) S = if b = true then some ((0, 0, 0, 0), S) else some ((1, 0, 0, 0), ab_wx S) := by rw [e_39_0, i_bz]
theorem rq_1 (q d : Nat) (S : ab_S) : v_39_0 q (d + 1) (n32 1) S = some ((0, 0, 0, 0), S) := by rw [e_39_0, if_neg one_z]
theorem rq_0 (q d : Nat) (S : ab_S) : v_39_0 q (d + 1) (n32 0) S = some ((1, 0, 0, 0), ab_wx S) := by rw [e_39_0, if_pos rfl]
/-- what comes of reading: an alternative, or several -/
def oB (q r : Nat) (t : Nat → Nat) (n : Nat) (S : ab_S) (s : pst) (x : ab_R) (o : Option (alt × pst)) : Prop := (o = none → ∃ S', ff r S S' ∧ x = some ((1, 0, 0, 0), S')) ∧ ∀ y, o = some y → y.1.1 = s.1 ∧ y.1.2.1 = y.2.1 ∧ s.1 < y.2.1 ∧ y.2.1 ≤ n ∧ y.2.2.1 < 256 ∧ y.2.2.2 < 256 ∧ y.1.2.2.1 < 128 ∧ ∃ S', pf r s.1 y.2.1 S S' ∧ rdr r t n S' y.2 ∧ S'.1 (r + 2) s.1 = n32 y.1.2.2.1 ∧ denA q r S' s.1 y.2.1 y.1.2.2.2 ∧ x = some ((0, 0, 0, 0), S')
def lsa : List alt → Nat
  | [] => 0
  | [a] => a.1
  | _ :: b :: l => lsa (b :: l)
def oA (q r : Nat) (t : Nat → Nat) (n : Nat) (S : ab_S) (s : pst) (x : ab_R) (o : Option (List alt × pst)) : Prop := (o = none → ∃ S', ff r S S' ∧ x = some ((1, 0, 0, 0), S')) ∧ ∀ y, o = some y → s.1 < y.2.1 ∧ y.2.1 ≤ n ∧ y.2.2.1 < 256 ∧ y.2.2.2 < 256 ∧ ∃ S', pf r s.1 y.2.1 S S' ∧ rdr r t n S' y.2 ∧ dT q r S' s.1 y.2.1 y.1 ∧ (∀ a, a ∈ y.1 → S'.1 (r + 2) a.1 = n32 a.2.2.1 ∧ a.2.2.1 < 128) ∧ S'.1 102 2 = n32 (lsa y.1) ∧ x = some ((0, n32 (fst y.1), 0, 0), S')
def one1 (o : Option (alt × pst)) : Option (List alt × pst) := match o with
  | none => none
  | some y => some ([y.1], y.2)
theorem al_fin {q d r : Nat} (hr : isSh r) {t : Nat → Nat} {n : Nat} (ht : tok t n) {S : ab_S} {s : pst} (hs : s.1 < n) {x : ab_R} {o : Option (alt × pst)} (h : oB q r t n S s x o) : oA q r t n S s (cV x fun S1 => v_44_164 q (d + 1) (n32 s.1) S1) (one1 o) := by
  have hn := ht.1
  have g := sh_ne hr
  refine ⟨fun e => ?_, fun y e => ?_⟩
  · cases o with
    | none =>
      obtain ⟨S', a, b⟩ := h.1 rfl
      exact ⟨S', a, by rw [b, cV_x (by omega)]⟩
    | some y => cases e
  · cases o with
    | none => cases e
    | some z =>
      cases e
      obtain ⟨b1, b2, b3, b4, b5, b6, b7, S1, c1, c2, c3, c4, c5⟩ := h.2 z rfl
      have rd := c2.1
      refine ⟨b3, b4, b5, b6, ab_wi (ab_wi S1 (r + 3) s.1 (n32 4294967295)) 102 2 (n32 s.1), ?_, ?_, ?_, ?_, ?_, ?_⟩
      · exact pf_tr (pf_tr c1 (pf_tb S1 (by omega) (by omega) (Nat.le_refl _) b3 _) (Nat.le_refl _) (Nat.le_refl _) (Nat.le_refl _) (Nat.le_refl _)) (pf_102 r s.1 z.2.1 _ (Or.inr rfl) _) (Nat.le_refl _) (Nat.le_refl _) (Nat.le_refl _) (Nat.le_refl _)
      · exact rdr_tl hr (rdr_tb hr c2 (by omega) (by omega) _ _) _
      · have g3 := g.2 3 (by omega) (by omega)
        refine ⟨nofun, ⟨by rw [b1]; exact Nat.le_refl _, by rw [b1, b2]; exact b3, by rw [b2]; exact Nat.le_refl _⟩, ⟨?_, trivial⟩, fun a ha => ?_⟩
        · rw [b1, wi_rd, if_neg (by omega), wi_rd, if_pos ⟨rfl, rfl⟩]
          rfl
        · rw [List.mem_singleton] at ha
          rw [ha, b1, b2]
          exact denA_fr c4 (fun j j1 j2 y y1 y2 o => by
            have := g.2 j j1 j2
            rw [wi_rd, if_neg (by omega), wi_rd, if_neg (by omega)])
      · intro a ha
        rw [List.mem_singleton] at ha
        have g2 := g.2 2 (by omega) (by omega)
        rw [ha, b1, wi_rd, if_neg (by omega), wi_rd, if_neg (by omega)]
        exact ⟨c3, b7⟩
      · show n32 s.1 = n32 z.1.1
        rw [b1]
      · rw [c5, cV_0, e_44_164, rd, ok_sh hr (k := 44) rfl, g_t, ok_a3 hr (k := 44) rfl, bl_ar hr 3, Bool.and_true, g_t, in_ar hr q (by omega : s.1 < 40) (by omega) (by omega), g_t, n32_cl (by omega), n32_m1]
        show _ = some ((0, n32 z.1.1, 0, 0), _)
        rw [b1]
