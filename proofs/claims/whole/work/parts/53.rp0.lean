-- The reference reads types: its parts and its stack.
def eO (o v : Nat) : Int32 := if v = 4294967295 then n32 4294967295 else n32 (o + v)
def pA (k : Nat) : Bool := decide (k = 8) || (decide (k = 9) || (decide (k = 11) || decide (k = 14)))
def pB (k : Nat) : Bool := decide (k = 12) || (decide (k = 13) || decide (k = 14))
def eA (o k v : Nat) : Int32 := bif pA k then eO o v else n32 v
def eB (o k v : Nat) : Int32 := bif pB k then eO o v else n32 v
/-- part p of the rows from o on is what P says: kind, as, bs, next, often -/
def rP (o : Nat) (S : ab_S) (P : Nat → Nat → Nat) (p : Nat) : Prop := S.1 125 (o + p) = n32 (P 0 p) ∧ S.1 126 (o + p) = eA o (P 0 p) (P 1 p) ∧ S.1 127 (o + p) = eB o (P 0 p) (P 2 p) ∧ S.1 128 (o + p) = eO o (P 3 p) ∧ S.1 129 (o + p) = n32 (P 4 p)
/-- a level of the stack: bracket, holder, type, last part, last alternative, how many, key due -/
def rK (S : ab_S) (K : Nat → Nat → Nat) (l : Nat) : Prop := S.1 130 l = n32 (K 0 l) ∧ S.1 132 l = eO 512 (K 2 l) ∧ S.1 134 l = eO 512 (K 4 l) ∧ S.1 136 l = n32 (K 6 l) ∧ (1 ≤ l → S.1 131 l = eO 512 (K 1 l) ∧ S.1 133 l = eO 512 (K 3 l) ∧ S.1 135 l = n32 (K 5 l))
def RS (S : ab_S) (t : Nat → Nat) (n at' bd dp al pn ld br : Nat) (P K : Nat → Nat → Nat) : Prop := S.1 117 2 = n32 n ∧ (∀ i, i < n → S.1 118 i = n32 (t i)) ∧ S.1 117 15 = n32 at' ∧ S.1 117 16 = n32 bd ∧ S.1 117 17 = n32 dp ∧ S.1 117 18 = n32 al ∧ S.1 122 8 = n32 pn ∧ S.1 123 8 = n32 ld ∧ S.1 124 8 = n32 br ∧ (∀ p, p < pn → rP 512 S P p) ∧ ∀ l, l ≤ dp → rK S K l
def gr (S S' : ab_S) : Prop := S'.2 = S.2 ∧ (∀ c j, (c < 117 ∨ (117 < c ∧ c < 122) ∨ 136 < c) → S'.1 c j = S.1 c j) ∧ (∀ j, (j < 15 ∨ 18 < j) → S'.1 117 j = S.1 117 j) ∧ (∀ c j, 122 ≤ c → c ≤ 124 → j ≠ 8 → S'.1 c j = S.1 c j) ∧ ∀ c j, 125 ≤ c → c ≤ 129 → j < 512 → S'.1 c j = S.1 c j
theorem gr_rf (S : ab_S) : gr S S := ⟨rfl, fun _ _ _ => rfl, fun _ _ => rfl, fun _ _ _ _ _ => rfl, fun _ _ _ _ _ => rfl⟩
theorem gr_tr {S S1 S2 : ab_S} (h : gr S S1) (g : gr S1 S2) : gr S S2 := ⟨g.1.trans h.1, fun c j x => (g.2.1 c j x).trans (h.2.1 c j x), fun j x => (g.2.2.1 j x).trans (h.2.2.1 j x), fun c j x y z => (g.2.2.2.1 c j x y z).trans (h.2.2.2.1 c j x y z), fun c j x y z => (g.2.2.2.2 c j x y z).trans (h.2.2.2.2 c j x y z)⟩
theorem gr_wi {S S' : ab_S} (g : gr S S') {c k : Nat} (v : Int32) (h : (c = 117 ∧ 15 ≤ k ∧ k ≤ 18) ∨ (122 ≤ c ∧ c ≤ 124 ∧ k = 8) ∨ (125 ≤ c ∧ c ≤ 129 ∧ 512 ≤ k) ∨ (130 ≤ c ∧ c ≤ 136)) : gr S (ab_wi S' c k v) := gr_tr g ⟨rfl, fun c' j x => by rw [wi_rd, if_neg (by omega)], fun j x => by rw [wi_rd, if_neg (by omega)], fun c' j x y z => by rw [wi_rd, if_neg (by omega)], fun c' j x y z => by rw [wi_rd, if_neg (by omega)]⟩
theorem eO_none (o : Nat) : eO o 4294967295 = n32 4294967295 := if_pos rfl
theorem eO_some {o v : Nat} (h : v < 4294967295) : eO o v = n32 (o + v) := if_neg (by omega)
theorem lk_v (q d : Nat) {t : Nat → Nat} {n : Nat} (ht : tok t n) {S : ab_S} {at' bd dp al pn ld br : Nat} {P K : Nat → Nat → Nat} (h : RS S t n at' bd dp al pn ld br P K) (ha : at' ≤ n) : v_78_0 q d S = some ((0, n32 (chr t n at'), 0, 0), S) := by
  have hn := ht.1
  rw [e_78_0, h.1, h.2.2.1, i_lt (by omega) (by omega)]
  by_cases g : at' < n
  · have c' : chr t n at' = t at' := if_pos g
    rw [if_pos g, n32_in (by omega) (by omega), g_t, n32_cl (by omega), h.2.1 _ g, e_78_24, c']
  · have c' : chr t n at' = 0 := if_neg g
    rw [if_neg g, e_78_24, c']
theorem RS_at {t : Nat → Nat} {n : Nat} {S : ab_S} {at' bd dp al pn ld br : Nat} {P K : Nat → Nat → Nat} (h : RS S t n at' bd dp al pn ld br P K) (x : Nat) : RS (ab_wi S 117 15 (n32 x)) t n x bd dp al pn ld br P K := ⟨h.1, h.2.1, rfl, h.2.2.2.1, h.2.2.2.2.1, h.2.2.2.2.2.1, h.2.2.2.2.2.2.1, h.2.2.2.2.2.2.2.1, h.2.2.2.2.2.2.2.2.1, h.2.2.2.2.2.2.2.2.2.1, h.2.2.2.2.2.2.2.2.2.2⟩
theorem RS_bd {t : Nat → Nat} {n : Nat} {S : ab_S} {at' bd dp al pn ld br : Nat} {P K : Nat → Nat → Nat} (h : RS S t n at' bd dp al pn ld br P K) (x : Nat) : RS (ab_wi S 117 16 (n32 x)) t n at' x dp al pn ld br P K := ⟨h.1, h.2.1, h.2.2.1, rfl, h.2.2.2.2.1, h.2.2.2.2.2.1, h.2.2.2.2.2.2.1, h.2.2.2.2.2.2.2.1, h.2.2.2.2.2.2.2.2.1, h.2.2.2.2.2.2.2.2.2.1, h.2.2.2.2.2.2.2.2.2.2⟩
theorem RS_al {t : Nat → Nat} {n : Nat} {S : ab_S} {at' bd dp al pn ld br : Nat} {P K : Nat → Nat → Nat} (h : RS S t n at' bd dp al pn ld br P K) (x : Nat) : RS (ab_wi S 117 18 (n32 x)) t n at' bd dp x pn ld br P K := ⟨h.1, h.2.1, h.2.2.1, h.2.2.2.1, h.2.2.2.2.1, rfl, h.2.2.2.2.2.2.1, h.2.2.2.2.2.2.2.1, h.2.2.2.2.2.2.2.2.1, h.2.2.2.2.2.2.2.2.2.1, h.2.2.2.2.2.2.2.2.2.2⟩
theorem RS_ld {t : Nat → Nat} {n : Nat} {S : ab_S} {at' bd dp al pn ld br : Nat} {P K : Nat → Nat → Nat} (h : RS S t n at' bd dp al pn ld br P K) (x : Nat) : RS (ab_wi S 123 8 (n32 x)) t n at' bd dp al pn x br P K := ⟨h.1, h.2.1, h.2.2.1, h.2.2.2.1, h.2.2.2.2.1, h.2.2.2.2.2.1, h.2.2.2.2.2.2.1, rfl, h.2.2.2.2.2.2.2.2.1, h.2.2.2.2.2.2.2.2.2.1, h.2.2.2.2.2.2.2.2.2.2⟩
theorem RS_br {t : Nat → Nat} {n : Nat} {S : ab_S} {at' bd dp al pn ld br : Nat} {P K : Nat → Nat → Nat} (h : RS S t n at' bd dp al pn ld br P K) (x : Nat) : RS (ab_wi S 124 8 (n32 x)) t n at' bd dp al pn ld x P K := ⟨h.1, h.2.1, h.2.2.1, h.2.2.2.1, h.2.2.2.2.1, h.2.2.2.2.2.1, h.2.2.2.2.2.2.1, h.2.2.2.2.2.2.2.1, rfl, h.2.2.2.2.2.2.2.2.2.1, h.2.2.2.2.2.2.2.2.2.2⟩
theorem RS_dp {t : Nat → Nat} {n : Nat} {S : ab_S} {at' bd dp al pn ld br : Nat} {P K : Nat → Nat → Nat} (h : RS S t n at' bd dp al pn ld br P K) {x : Nat} (hx : x ≤ dp) : RS (ab_wi S 117 17 (n32 x)) t n at' bd x al pn ld br P K := ⟨h.1, h.2.1, h.2.2.1, h.2.2.2.1, rfl, h.2.2.2.2.2.1, h.2.2.2.2.2.2.1, h.2.2.2.2.2.2.2.1, h.2.2.2.2.2.2.2.2.1, h.2.2.2.2.2.2.2.2.2.1, fun l hl => h.2.2.2.2.2.2.2.2.2.2 l (Nat.le_trans hl hx)⟩
theorem tk_v (q d : Nat) {t : Nat → Nat} {n : Nat} (ht : tok t n) {S : ab_S} {at' bd dp al pn ld br : Nat} {P K : Nat → Nat → Nat} (h : RS S t n at' bd dp al pn ld br P K) (ha : at' ≤ n) {c : Nat} (hc : c < 4294967296) : v_79_0 q (d + 1) (n32 c) S = if chr t n at' = c then some ((0, n32 1, 0, 0), ab_wi S 117 15 (n32 (at' + 1))) else some ((0, n32 0, 0, 0), S) := by
  have := chr_le ht at'
  rw [e_79_0, lk_v q d ht h ha, cI_0, i_eq (by omega) hc, h.2.2.1, n32_add]
theorem idg_v (q d : Nat) {c : Nat} (hc : c < 2147483648) (S : ab_S) : v_80_0 q d (n32 c) S = some ((0, n32 (dig c).toNat, 0, 0), S) := by
  rw [e_80_0, i_lt hc (by omega), i_lt (by omega) hc, e_80_16, e_80_17, e_80_17, nz_0, nz_1]
  unfold dig
  by_cases g : c < 48
  · rw [if_pos g, decide_eq_false (by omega : ¬ 48 ≤ c)]; rfl
  · rw [if_neg g, decide_eq_true (by omega : 48 ≤ c)]
    by_cases k : 57 < c
    · rw [if_pos k, decide_eq_false (by omega : ¬ c ≤ 57)]; rfl
    · rw [if_neg k, decide_eq_true (by omega : c ≤ 57)]; rfl
/-- field j of part p becomes v -/
def uP (P : Nat → Nat → Nat) (j p v : Nat) : Nat → Nat → Nat := fun a b => if a = j ∧ b = p then v else P a b
def mkP (P : Nat → Nat → Nat) (pn k a b : Nat) : Nat → Nat → Nat := fun j p => if p = pn then (if j = 0 then k else if j = 1 then a else if j = 2 then b else if j = 3 then 4294967295 else 0) else P j p
theorem mk_v (q d : Nat) {t : Nat → Nat} {n : Nat} {S : ab_S} {at' bd dp al pn ld br : Nat} {P K : Nat → Nat → Nat} (h : RS S t n at' bd dp al pn ld br P K) (hp : pn < 128) (k a b : Nat) : ∃ S', gr S S' ∧ RS S' t n at' bd dp al (pn + 1) ld br (mkP P pn k a b) K ∧ v_81_0 q d (n32 k) (eA 512 k a) (eB 512 k b) S = some ((0, n32 (512 + pn), 0, 0), S') := by
  have e : v_81_0 q d (n32 k) (eA 512 k a) (eB 512 k b) S = some ((0, n32 (512 + pn), 0, 0), ab_wi (ab_wi (ab_wi (ab_wi (ab_wi (ab_wi S 122 8 (n32 (pn + 1))) 125 (512 + pn) (n32 k)) 126 (512 + pn) (eA 512 k a)) 127 (512 + pn) (eB 512 k b)) 128 (512 + pn) (n32 4294967295)) 129 (512 + pn) (n32 0)) := by
    rw [e_81_0, h.2.2.2.2.2.2.1, n32_add, n32_in (by omega) (by omega), g_t, g_t, g_t, g_t, g_t, n32_cl (by omega), n32_add, n32_m1]
  refine ⟨_, ?_, ?_, e⟩
  · exact gr_wi (gr_wi (gr_wi (gr_wi (gr_wi (gr_wi (gr_rf S) _ (by omega)) _ (by omega)) _ (by omega)) _ (by omega)) _ (by omega)) _ (by omega)
  · refine ⟨h.1, h.2.1, h.2.2.1, h.2.2.2.1, h.2.2.2.2.1, h.2.2.2.2.2.1, rfl, h.2.2.2.2.2.2.2.1, h.2.2.2.2.2.2.2.2.1, fun p hpp => ?_, h.2.2.2.2.2.2.2.2.2.2⟩
    by_cases ep : p = pn
    · subst ep
      have m (j : Nat) : mkP P p k a b j p = (if j = 0 then k else if j = 1 then a else if j = 2 then b else if j = 3 then 4294967295 else 0) := if_pos rfl
      unfold rP
      rw [m 0, m 1, m 2, m 3, m 4]
      refine ⟨?_, ?_, ?_, ?_, ?_⟩
      · rw [wi_rd, if_neg (by omega), wi_rd, if_neg (by omega), wi_rd, if_neg (by omega), wi_rd, if_neg (by omega), wi_rd, if_pos ⟨rfl, rfl⟩]; rfl
      · rw [wi_rd, if_neg (by omega), wi_rd, if_neg (by omega), wi_rd, if_neg (by omega), wi_rd, if_pos ⟨rfl, rfl⟩]; rfl
      · rw [wi_rd, if_neg (by omega), wi_rd, if_neg (by omega), wi_rd, if_pos ⟨rfl, rfl⟩]; rfl
      · rw [wi_rd, if_neg (by omega), wi_rd, if_pos ⟨rfl, rfl⟩]; rfl
      · rw [wi_rd, if_pos ⟨rfl, rfl⟩]; rfl
    · have m (j : Nat) : mkP P pn k a b j p = P j p := if_neg ep
      have o := h.2.2.2.2.2.2.2.2.2.1 p (by omega)
      have w (c : Nat) : (ab_wi (ab_wi (ab_wi (ab_wi (ab_wi (ab_wi S 122 8 (n32 (pn + 1))) 125 (512 + pn) (n32 k)) 126 (512 + pn) (eA 512 k a)) 127 (512 + pn) (eB 512 k b)) 128 (512 + pn) (n32 4294967295)) 129 (512 + pn) (n32 0)).1 c (512 + p) = S.1 c (512 + p) := by
        rw [wi_rd, if_neg (by omega), wi_rd, if_neg (by omega), wi_rd, if_neg (by omega), wi_rd, if_neg (by omega), wi_rd, if_neg (by omega), wi_rd, if_neg (by omega)]
      unfold rP
      rw [m 0, m 1, m 2, m 3, m 4, w, w, w, w, w]
      exact o
/-- a reference to a part is put into as, bs or next of a part -/
theorem RS_p {t : Nat → Nat} {n : Nat} {S : ab_S} {at' bd dp al pn ld br : Nat} {P K : Nat → Nat → Nat} (h : RS S t n at' bd dp al pn ld br P K) {j p : Nat} (hj : j = 1 ∨ j = 2 ∨ j = 3) (hA : j = 1 → pA (P 0 p) = true) (hB : j = 2 → pB (P 0 p) = true) (v : Nat) : RS (ab_wi S (125 + j) (512 + p) (eO 512 v)) t n at' bd dp al pn ld br (uP P j p v) K := by
  refine ⟨?_, fun i hi => ?_, ?_, ?_, ?_, ?_, ?_, ?_, ?_, fun p' hp => ?_, fun l hl => ?_⟩
  · rw [wi_rd, if_neg (by omega)]; exact h.1
  · rw [wi_rd, if_neg (by omega)]; exact h.2.1 i hi
  · rw [wi_rd, if_neg (by omega)]; exact h.2.2.1
  · rw [wi_rd, if_neg (by omega)]; exact h.2.2.2.1
  · rw [wi_rd, if_neg (by omega)]; exact h.2.2.2.2.1
  · rw [wi_rd, if_neg (by omega)]; exact h.2.2.2.2.2.1
  · rw [wi_rd, if_neg (by omega)]; exact h.2.2.2.2.2.2.1
  · rw [wi_rd, if_neg (by omega)]; exact h.2.2.2.2.2.2.2.1
  · rw [wi_rd, if_neg (by omega)]; exact h.2.2.2.2.2.2.2.2.1
  · have o := h.2.2.2.2.2.2.2.2.2.1 p' hp
    have k0 : uP P j p v 0 p' = P 0 p' := if_neg (by omega)
    have k4 : uP P j p v 4 p' = P 4 p' := if_neg (by omega)
    unfold rP
    rw [k0, k4]
    by_cases ep : p' = p
    · subst ep
      rcases hj with hj | hj | hj
      · subst hj
        have a := hA rfl
        have k1 : uP P 1 p' v 1 p' = v := if_pos ⟨rfl, rfl⟩
        have k2 : uP P 1 p' v 2 p' = P 2 p' := if_neg (by omega)
        have k3 : uP P 1 p' v 3 p' = P 3 p' := if_neg (by omega)
        rw [k1, k2, k3]
        refine ⟨?_, ?_, ?_, ?_, ?_⟩
        · rw [wi_rd, if_neg (by omega)]; exact o.1
        · rw [wi_rd, if_pos ⟨rfl, rfl⟩]; unfold eA; rw [a]; rfl
        · rw [wi_rd, if_neg (by omega)]; exact o.2.2.1
        · rw [wi_rd, if_neg (by omega)]; exact o.2.2.2.1
        · rw [wi_rd, if_neg (by omega)]; exact o.2.2.2.2
      · subst hj
        have a := hB rfl
        have k1 : uP P 2 p' v 1 p' = P 1 p' := if_neg (by omega)
        have k2 : uP P 2 p' v 2 p' = v := if_pos ⟨rfl, rfl⟩
        have k3 : uP P 2 p' v 3 p' = P 3 p' := if_neg (by omega)
        rw [k1, k2, k3]
        refine ⟨?_, ?_, ?_, ?_, ?_⟩
        · rw [wi_rd, if_neg (by omega)]; exact o.1
        · rw [wi_rd, if_neg (by omega)]; exact o.2.1
        · rw [wi_rd, if_pos ⟨rfl, rfl⟩]; unfold eB; rw [a]; rfl
        · rw [wi_rd, if_neg (by omega)]; exact o.2.2.2.1
        · rw [wi_rd, if_neg (by omega)]; exact o.2.2.2.2
      · subst hj
        have k1 : uP P 3 p' v 1 p' = P 1 p' := if_neg (by omega)
        have k2 : uP P 3 p' v 2 p' = P 2 p' := if_neg (by omega)
        have k3 : uP P 3 p' v 3 p' = v := if_pos ⟨rfl, rfl⟩
        rw [k1, k2, k3]
        refine ⟨?_, ?_, ?_, ?_, ?_⟩
        · rw [wi_rd, if_neg (by omega)]; exact o.1
        · rw [wi_rd, if_neg (by omega)]; exact o.2.1
        · rw [wi_rd, if_neg (by omega)]; exact o.2.2.1
        · rw [wi_rd, if_pos ⟨rfl, rfl⟩]
        · rw [wi_rd, if_neg (by omega)]; exact o.2.2.2.2
    · have k (i : Nat) : uP P j p v i p' = P i p' := if_neg (fun x => ep x.2)
      have w (c : Nat) : (ab_wi S (125 + j) (512 + p) (eO 512 v)).1 c (512 + p') = S.1 c (512 + p') := by rw [wi_rd, if_neg (by omega)]
      rw [k 1, k 2, k 3, w, w, w, w, w]
      exact o
  · have o := h.2.2.2.2.2.2.2.2.2.2 l hl
    have w (c : Nat) (hc : 130 ≤ c) : (ab_wi S (125 + j) (512 + p) (eO 512 v)).1 c l = S.1 c l := by rw [wi_rd, if_neg (by omega)]
    unfold rK
    rw [w 130 (by omega), w 131 (by omega), w 132 (by omega), w 133 (by omega), w 134 (by omega), w 135 (by omega), w 136 (by omega)]
    exact o
/-- how often a part, or that it is a single integer -/
theorem RS_o {t : Nat → Nat} {n : Nat} {S : ab_S} {at' bd dp al pn ld br : Nat} {P K : Nat → Nat → Nat} (h : RS S t n at' bd dp al pn ld br P K) (p v : Nat) : RS (ab_wi S 129 (512 + p) (n32 v)) t n at' bd dp al pn ld br (uP P 4 p v) K := by
  refine ⟨h.1, h.2.1, h.2.2.1, h.2.2.2.1, h.2.2.2.2.1, h.2.2.2.2.2.1, h.2.2.2.2.2.2.1, h.2.2.2.2.2.2.2.1, h.2.2.2.2.2.2.2.2.1, fun p' hp => ?_, h.2.2.2.2.2.2.2.2.2.2⟩
  have o := h.2.2.2.2.2.2.2.2.2.1 p' hp
  have k (i : Nat) (hi : i ≠ 4) : uP P 4 p v i p' = P i p' := if_neg (fun x => hi x.1)
  unfold rP
  rw [k 0 (by omega), k 1 (by omega), k 2 (by omega), k 3 (by omega)]
  refine ⟨o.1, o.2.1, o.2.2.1, o.2.2.2.1, ?_⟩
  by_cases ep : p' = p
  · subst ep
    have k4 : uP P 4 p' v 4 p' = v := if_pos ⟨rfl, rfl⟩
    rw [k4, wi_rd, if_pos ⟨rfl, rfl⟩]
  · have k4 : uP P 4 p v 4 p' = P 4 p' := if_neg (fun x => ep x.2)
    rw [k4, wi_rd, if_neg (by omega)]
    exact o.2.2.2.2
/-- a cell of the stack -/
theorem RS_k {t : Nat → Nat} {n : Nat} {S : ab_S} {at' bd dp al pn ld br : Nat} {P K : Nat → Nat → Nat} (h : RS S t n at' bd dp al pn ld br P K) {j : Nat} (hj : j ≤ 6) (l v : Nat) (x : Int32) (hx : x = (if j = 0 ∨ j = 5 ∨ j = 6 then n32 v else eO 512 v)) : RS (ab_wi S (130 + j) l x) t n at' bd dp al pn ld br P (uP K j l v) := by
  refine ⟨?_, fun i hi => ?_, ?_, ?_, ?_, ?_, ?_, ?_, ?_, fun p hp => ?_, fun l' hl => ?_⟩
  · rw [wi_rd, if_neg (by omega)]; exact h.1
  · rw [wi_rd, if_neg (by omega)]; exact h.2.1 i hi
  · rw [wi_rd, if_neg (by omega)]; exact h.2.2.1
  · rw [wi_rd, if_neg (by omega)]; exact h.2.2.2.1
  · rw [wi_rd, if_neg (by omega)]; exact h.2.2.2.2.1
  · rw [wi_rd, if_neg (by omega)]; exact h.2.2.2.2.2.1
  · rw [wi_rd, if_neg (by omega)]; exact h.2.2.2.2.2.2.1
  · rw [wi_rd, if_neg (by omega)]; exact h.2.2.2.2.2.2.2.1
  · rw [wi_rd, if_neg (by omega)]; exact h.2.2.2.2.2.2.2.2.1
  · have o := h.2.2.2.2.2.2.2.2.2.1 p hp
    have w (c : Nat) (hc : c < 130) : (ab_wi S (130 + j) l x).1 c (512 + p) = S.1 c (512 + p) := by rw [wi_rd, if_neg (by omega)]
    unfold rP
    rw [w 125 (by omega), w 126 (by omega), w 127 (by omega), w 128 (by omega), w 129 (by omega)]
    exact o
  · have o := h.2.2.2.2.2.2.2.2.2.2 l' hl
    have w (i : Nat) (hi : i ≤ 6) : (ab_wi S (130 + j) l x).1 (130 + i) l' = if i = j ∧ l' = l then x else S.1 (130 + i) l' := by
      rw [wi_rd]
      by_cases e : i = j ∧ l' = l
      · rw [if_pos e, if_pos (by omega)]
      · rw [if_neg e, if_neg (by omega)]
    have kk (i : Nat) : uP K j l v i l' = if i = j ∧ l' = l then v else K i l' := rfl
    by_cases e : l' = l
    · have w0 := w 0 (by omega)
      have w1 := w 1 (by omega)
      have w2 := w 2 (by omega)
      have w3 := w 3 (by omega)
      have w4 := w 4 (by omega)
      have w5 := w 5 (by omega)
      have w6 := w 6 (by omega)
      have hj' : j = 0 ∨ j = 1 ∨ j = 2 ∨ j = 3 ∨ j = 4 ∨ j = 5 ∨ j = 6 := by omega
      unfold rK
      rw [kk 0, kk 1, kk 2, kk 3, kk 4, kk 5, kk 6]
      rw [show 130 + 0 = 130 from rfl] at w0
      rw [w0, w1, w2, w3, w4, w5, w6]
      rcases hj' with hj' | hj' | hj' | hj' | hj' | hj' | hj' <;> subst hj' <;> subst e <;> simp at hx <;> simp [hx] <;> simp_all [rK]
    · have w' (i : Nat) (hi : i ≤ 6) : (ab_wi S (130 + j) l x).1 (130 + i) l' = S.1 (130 + i) l' := by rw [w i hi, if_neg (fun z => e z.2)]
      have kk' (i : Nat) : uP K j l v i l' = K i l' := if_neg (fun z => e z.2)
      unfold rK
      rw [kk' 0, kk' 1, kk' 2, kk' 3, kk' 4, kk' 5, kk' 6]
      have w0 := w' 0 (by omega)
      have w1 := w' 1 (by omega)
      have w2 := w' 2 (by omega)
      have w3 := w' 3 (by omega)
      have w4 := w' 4 (by omega)
      have w5 := w' 5 (by omega)
      have w6 := w' 6 (by omega)
      rw [show 130 + 0 = 130 from rfl] at w0
      rw [w0, w1, w2, w3, w4, w5, w6]
      exact o
