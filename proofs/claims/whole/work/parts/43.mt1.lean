-- Matching in the class: types, tags, letters.
def gI (S0 : ab_S) (c : ctx) (cnt : Nat) (x : ab_S → ab_R) (v : Int32) : Prop := ∀ S, mx S0 S → mm c cnt S → ∃ S', mx S0 S' ∧ mm c cnt S' ∧ x S = some ((0, v, 0, 0), S')
def FR (q : Nat) (S0 : ab_S) (c : ctx) (cnt L : Nat) : Prop := ∀ lv, L ≤ lv → lv ≤ 21 → ∀ r i d, r < 8 → i < cnt → 4 * (21 - lv) + 5 ≤ d → gA S0 c cnt (v_64_0 q d (n32 r) (n32 i) (n32 lv)) (c.2.2 r i lv)
/-- the rows of an alternative, but for what comes next to it, are as they were -/
def agr (r : Nat) (S S0 : ab_S) (x e : Nat) : Prop := ∀ j, 1 ≤ j → j ≤ 10 → ∀ y, x ≤ y → y < e → (j ≠ 3 ∨ y ≠ x) → S0.1 (r + j) y = S.1 (r + j) y
def denA (q r : Nat) (S : ab_S) (x e : Nat) (m : Sem) : Prop := ∀ S0 c cnt bn, cx S0 c cnt bn → agr r S S0 x e → ∀ L, FR q S0 c cnt (L + 1) → ∀ lv i d, L ≤ lv → lv ≤ 20 → i < cnt → 4 * (21 - lv) + 3 ≤ d → gA S0 c cnt (v_66_0 q d r (n32 x) (n32 i) (n32 lv)) (m c i lv)
theorem agr_rf (r : Nat) (S : ab_S) (x e : Nat) : agr r S S x e := fun _ _ _ _ _ _ _ => rfl
theorem denA_fr {q r : Nat} {S S' : ab_S} {x e : Nat} {m : Sem} (h : denA q r S x e m) (g : agr r S S' x e) : denA q r S' x e m := fun S0 c cnt bn a b => h S0 c cnt bn a (fun j j1 j2 y y1 y2 o => (b j j1 j2 y y1 y2 o).trans (g j j1 j2 y y1 y2 o))
def fst (l : List alt) : Nat := match l with
  | [] => 4294967295
  | a :: _ => a.1
def lnk (r : Nat) (S : ab_S) : List alt → Prop
  | [] => True
  | a :: l => S.1 (r + 3) a.1 = n32 (fst l) ∧ lnk r S l
def lay : Nat → List alt → Nat → Prop
  | p, [], p' => p ≤ p'
  | p, a :: l, p' => p ≤ a.1 ∧ a.1 < a.2.1 ∧ lay a.2.1 l p'
theorem lay_le : ∀ l p p', lay p l p' → p ≤ p'
  | [], _, _, h => h
  | a :: l, p, p', h => by
    have := lay_le l _ _ h.2.2
    have := h.1
    have := h.2.1
    omega
theorem lay_in : ∀ l p p', lay p l p' → ∀ a, a ∈ l → p ≤ a.1 ∧ a.1 < a.2.1 ∧ a.2.1 ≤ p'
  | [], _, _, _, a, h => nomatch h
  | b :: l, p, p', h, a, ha => by
    rcases List.mem_cons.mp ha with e | e
    · rw [e]
      exact ⟨h.1, h.2.1, lay_le l _ _ h.2.2⟩
    · have := lay_in l _ _ h.2.2 a e
      have := h.1
      have := h.2.1
      exact ⟨by omega, by omega, by omega⟩
def dT (q r : Nat) (S : ab_S) (p p' : Nat) (l : List alt) : Prop := l ≠ [] ∧ lay p l p' ∧ lnk r S l ∧ ∀ a, a ∈ l → denA q r S a.1 a.2.1 a.2.2.2
theorem lnk_fr {r : Nat} {S S' : ab_S} {p p' : Nat} (g : ∀ j, 1 ≤ j → j ≤ 10 → ∀ y, p ≤ y → y < p' → S'.1 (r + j) y = S.1 (r + j) y) : ∀ l, (∀ a, a ∈ l → p ≤ a.1 ∧ a.1 < p') → lnk r S l → lnk r S' l
  | [], _, _ => trivial
  | a :: l, h, k => ⟨(g 3 (by omega) (by omega) a.1 (h a (List.mem_cons_self ..)).1 (h a (List.mem_cons_self ..)).2).trans k.1, lnk_fr g l (fun b hb => h b (List.mem_cons_of_mem _ hb)) k.2⟩
theorem dT_fr {q r : Nat} {S S' : ab_S} {p p' : Nat} {l : List alt} (h : dT q r S p p' l) (g : ∀ j, 1 ≤ j → j ≤ 10 → ∀ y, p ≤ y → y < p' → S'.1 (r + j) y = S.1 (r + j) y) : dT q r S' p p' l := by
  have i := lay_in _ _ _ h.2.1
  exact ⟨h.1, h.2.1, lnk_fr g l (fun a ha => ⟨(i a ha).1, by have := i a ha; omega⟩) h.2.2.1, fun a ha => denA_fr (h.2.2.2 a ha) (fun j j1 j2 y y1 y2 _ => g j j1 j2 y (by have := i a ha; omega) (by have := i a ha; omega))⟩
theorem lay_up {p1 : Nat} : ∀ l p p', p1 ≤ p → lay p l p' → lay p1 l p'
  | [], _, _, h, k => Nat.le_trans h k
  | _ :: _, _, _, h, k => ⟨Nat.le_trans h k.1, k.2⟩
theorem lay_dn {p2 : Nat} : ∀ l p p', p' ≤ p2 → lay p l p' → lay p l p2
  | [], _, _, h, k => Nat.le_trans k h
  | _ :: l, _, _, h, k => ⟨k.1, k.2.1, lay_dn l _ _ h k.2.2⟩
theorem dT_wd {q r : Nat} {S : ab_S} {p p' p1 p2 : Nat} {l : List alt} (h : dT q r S p p' l) (g1 : p1 ≤ p) (g2 : p' ≤ p2) : dT q r S p1 p2 l := ⟨h.1, lay_dn l _ _ g2 (lay_up l _ _ g1 h.2.1), h.2.2⟩
theorem fty_lp {q r : Nat} (hr : isSh r) {S0 : ab_S} {c : ctx} {cnt bn : Nat} (h : cx S0 c cnt bn) {L : Nat} (hF : FR q S0 c cnt (L + 1)) {lv i d : Nat} (h1 : L ≤ lv) (h2 : lv ≤ 20) (h3 : i < cnt) (h4 : 4 * (21 - lv) + 3 ≤ d) {p' : Nat} (hp : p' ≤ 40) : ∀ l n p, lay p l p' → n ≤ p → lnk r S0 l → (∀ a, a ∈ l → denA q r S0 a.1 a.2.1 a.2.2.2) → gA S0 c cnt (v_65_15 q (d + 1) r (n32 i) (n32 lv) (n32 (fst l)) (n32 n)) (anyS l c i lv)
  | [], n, p, ha, hn, hl, hd => fun S m1 m2 => by
    refine ⟨S, m1, m2, ?_⟩
    rw [show fst [] = 4294967295 from rfl, e_65_15, e_65_58, n32_m1, if_pos (rfl : n32 4294967295 = n32 4294967295), ite_self]
    rfl
  | a :: l, n, p, ha, hn, hl, hd => fun S m1 m2 => by
    have al := lay_le _ _ _ ha.2.2
    have a1 := ha.1
    have a2 := ha.2.1
    have aS : fst (a :: l) = a.1 := rfl
    obtain ⟨S1, k1, k2, k3⟩ := hd a (List.mem_cons_self ..) S0 c cnt bn h (agr_rf r S0 _ _) L hF lv i d h1 h2 h3 h4 S m1 m2
    have k3' : v_66_0 q d r (n32 a.1) (n32 i) (n32 lv) S = some ((0, n32 (a.2.2.2 c i lv).toNat, 0, 0), S1) := k3
    have e : v_65_15 q (d + 1) r (n32 i) (n32 lv) (n32 (fst (a :: l))) (n32 n) S = if a.2.2.2 c i lv = true then some ((0, n32 1, 0, 0), S1) else v_65_15 q (d + 1) r (n32 i) (n32 lv) (n32 (fst l)) (n32 (n + 1)) S1 := by
      rw [e_65_15, aS, i_lt (by omega) (by omega), if_pos (by omega), n32_m1, i_eq (by omega) (by omega), if_neg (by omega), k3', cI_0, i_bz, ok_sh hr (k := 65) rfl, g_t, ok_a3 hr (k := 65) rfl, g_t, in_ar hr q (by omega : a.1 < 40) (by omega) (by omega), g_t, n32_cl (by omega), k1.2 (r + 3) a.1 (by have := sh_ge hr; omega) (by have := sh_ge hr; omega), hl.1, n32_add]
    rw [e]
    show ∃ S', mx S0 S' ∧ mm c cnt S' ∧ _ = some ((0, n32 (a.2.2.2 c i lv || anyS l c i lv).toNat, 0, 0), S')
    cases hv : a.2.2.2 c i lv with
    | true => exact ⟨S1, k1, k2, rfl⟩
    | false => exact fty_lp hr h hF h1 h2 h3 h4 hp l (n + 1) _ ha.2.2 (by omega) hl.2 (fun b hb => hd b (List.mem_cons_of_mem _ hb)) S1 k1 k2
theorem fty {q r : Nat} (hr : isSh r) {S0 : ab_S} {c : ctx} {cnt bn : Nat} (h : cx S0 c cnt bn) {L : Nat} (hF : FR q S0 c cnt (L + 1)) {lv i d : Nat} (h1 : L ≤ lv) (h2 : lv ≤ 21) (h3 : i < cnt) (h4 : 4 * (21 - lv) + 4 ≤ d) {p p' : Nat} (hp : p' ≤ 40) {l : List alt} (hd : dT q r S0 p p' l) : gA S0 c cnt (v_65_0 q d r (n32 (fst l)) (n32 i) (n32 lv)) (lvl lv (anyS l c i lv)) := by
  obtain ⟨d, rfl⟩ := dsuc h4
  intro S m1 m2
  unfold lvl
  by_cases g : lv ≤ 20
  · have e : v_65_0 q (d + 1) r (n32 (fst l)) (n32 i) (n32 lv) S = v_65_15 q (d + 1) r (n32 i) (n32 lv) (n32 (fst l)) (n32 0) S := by
      rw [e_65_0, i_lt (by omega) (by omega), if_neg (by omega)]
    rw [e, decide_eq_true g, Bool.true_and]
    exact fty_lp hr h hF h1 g h3 (by omega) hp l 0 p hd.2.1 (Nat.zero_le _) hd.2.2.1 hd.2.2.2 S m1 m2
  · refine ⟨S, m1, m2, ?_⟩
    rw [e_65_0, i_lt (by omega) (by omega), if_pos (by omega), decide_eq_false g]
    rfl
theorem k66_35 {q d r x i : Nat} (hr : isSh r) (hx : x < 40) {S0 : ab_S} {c : ctx} {cnt bn : Nat} (h : cx S0 c cnt bn) (hi : i < cnt) (hk : S0.1 (r + 2) x = n32 35) {v : Nat} (hv : v < 10) (h4 : S0.1 (r + 4) x = n32 v) {l : List alt} (h5 : S0.1 (r + 5) x = n32 (fst l)) {L : Nat} (hF : FR q S0 c cnt (L + 1)) {lv : Nat} (l1 : L ≤ lv) (l2 : lv ≤ 20) (hd : 4 * (21 - lv) + 3 ≤ d) {p p' : Nat} (hp : p' ≤ 40) (hl : dT q r S0 p p' l) : gA S0 c cnt (v_66_0 q d r (n32 x) (n32 i) (n32 lv)) (tgS v l c i lv) := by
  obtain ⟨d, rfl⟩ := dsuc hd
  intro S m1 m2
  have t := cx_1 (cx_mx h m1) hi
  have g := sh_ge hr
  have rd (j y : Nat) (hj : j ≤ 10) : S.1 (r + j) y = S0.1 (r + j) y := m1.2 (r + j) y (by omega) (by omega)
  have hk' := (rd 2 x (by omega)).trans hk
  have e : v_66_0 q (d + 1) r (n32 x) (n32 i) (n32 lv) S = if maj c i = 6 then (if nmb c i = v then (cI (v_65_0 q d r (n32 (fst l)) (n32 (i + 1)) (n32 (lv + 1)) S) fun y2 S2 => (if y2 = (n32 0) then (v_66_379 q (d + 1) S2) else (v_66_380 q (d + 1) (n32 1) S2))) else (v_66_379 q (d + 1) S)) else (v_66_379 q (d + 1) S) := by
    rw [e_66_0, n32_in (by omega) (by omega), g_t, ok_sh hr (k := 66) rfl, g_t, ok_a2 hr (k := 66) rfl, g_t, in_ar hr q hx (by omega) (by omega), g_t, n32_cl (show x < 2147483648 by omega), hk', if_neg (by decide : ¬ n32 35 = n32 34), if_pos rfl, n32_cl (by omega), t.2.1, i_eq (by omega) (by omega), g_t, g_t, ok_a4 hr (k := 66) rfl, g_t, in_ar hr q hx (by omega) (by omega), g_t, t.2.2.1, rd 4 x (by omega), h4, n32_i2l (by omega), i_ceq, i_leq (by omega) (by omega), g_t, ok_a5 hr (k := 66) rfl, g_t, in_ar hr q hx (by omega) (by omega), g_t, rd 5 x (by omega), h5, n32_add, n32_add]
  rw [e]
  unfold tgS
  have no (b : Bool) (hb : b = false) : ∃ S', mx S0 S' ∧ mm c cnt S' ∧ v_66_379 q (d + 1) S = some ((0, n32 b.toNat, 0, 0), S') := ⟨S, m1, m2, by rw [e_66_379, e_66_380, nz_0, hb]; rfl⟩
  by_cases g6 : maj c i = 6
  · rw [if_pos g6]
    by_cases gn : nmb c i = v
    · rw [if_pos gn, decide_eq_true g6, decide_eq_true gn, Bool.true_and, Bool.true_and]
      have f := h.2.2.2.2.1 i hi
      have f5 := f.1.2.2.2.2.2.1
      have g6' : c.2.1 0 i = 6 := g6
      rw [g6', show inn 6 (c.2.1 1 i) = 1 from rfl] at f5
      obtain ⟨S2, k1, k2, k3⟩ := fty hr h hF (by omega : L ≤ lv + 1) (by omega) (by have := f5.1; omega : i + 1 < cnt) (by omega : 4 * (21 - (lv + 1)) + 4 ≤ d) hp hl S m1 m2
      refine ⟨S2, k1, k2, ?_⟩
      rw [k3, cI_0, i_bz, e_66_379, e_66_380, e_66_380, nz_0, nz_1]
      cases lvl (lv + 1) (anyS l c (i + 1) (lv + 1)) with
      | true => rfl
      | false => rfl
    · rw [if_neg gn]
      exact no _ (by rw [decide_eq_false gn, Bool.false_and, Bool.and_false])
  · rw [if_neg g6]
    exact no _ (by rw [decide_eq_false g6, Bool.false_and])
theorem k66_65 {q d r x i : Nat} (hr : isSh r) (hx : x < 40) {S0 : ab_S} {c : ctx} {cnt bn : Nat} (h : cx S0 c cnt bn) (hi : i < cnt) (hk : S0.1 (r + 2) x = n32 65) {v : Nat} (hv : v < 8) (h4 : S0.1 (r + 4) x = n32 v) {L : Nat} (hF : FR q S0 c cnt (L + 1)) {lv : Nat} (l1 : L ≤ lv) (l2 : lv ≤ 20) (hd : 4 * (21 - lv) + 3 ≤ d) : gA S0 c cnt (v_66_0 q d r (n32 x) (n32 i) (n32 lv)) (leS v c i lv) := by
  obtain ⟨d, rfl⟩ := dsuc hd
  intro S m1 m2
  have t := cx_1 (cx_mx h m1) hi
  have g := sh_ge hr
  have rd (j y : Nat) (hj : j ≤ 10) : S.1 (r + j) y = S0.1 (r + j) y := m1.2 (r + j) y (by omega) (by omega)
  have hk' := (rd 2 x (by omega)).trans hk
  obtain ⟨S2, k1, k2, k3⟩ := hF (lv + 1) (by omega) (by omega) v i d hv hi (by omega) S m1 m2
  refine ⟨S2, k1, k2, ?_⟩
  rw [e_66_0, n32_in (by omega) (by omega), g_t, ok_sh hr (k := 66) rfl, g_t, ok_a2 hr (k := 66) rfl, g_t, in_ar hr q hx (by omega) (by omega), g_t, n32_cl (show x < 2147483648 by omega), hk', if_neg (by decide : ¬ n32 65 = n32 34), if_neg (by decide : ¬ n32 65 = n32 35), if_neg (by decide : ¬ n32 65 = n32 46), if_neg (by decide : ¬ n32 65 = n32 48), if_pos rfl, g_t, ok_a4 hr (k := 66) rfl, g_t, in_ar hr q hx (by omega) (by omega), g_t, rd 4 x (by omega), h4, n32_add, k3, cI_0, bo_nz]
  rfl
