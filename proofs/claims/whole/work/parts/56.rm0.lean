-- What the reference's parts say.
def sgl (P : Nat → Nat → Nat) (a : Nat) : Bool := decide (P 0 a = 7) || (decide (P 0 a = 6) && decide (P 4 a = 1))
def hv (B : Nat → Nat → Nat → Bool) (lv x p : Nat) : Bool := lvl lv (B x p lv)
def neR (o : Nat) : Bool := decide (o = 0) || decide (o = 43)
def anyC (P : Nat → Nat → Nat) (f : Nat → Bool) : Nat → Nat → Bool
  | 0, _ => false
  | n + 1, a => if a = 4294967295 then false else f a || anyC P f n (P 3 a)
def entC (P : Nat → Nat → Nat) (c : ctx) (h : Nat → Nat → Bool) (e : Nat) : Nat → Nat → Nat → Bool
  | 0, _, i => decide (i = e)
  | n + 1, a, i => if a = 4294967295 then decide (i = e) else if tak (bhd c) (fun x => h x (P 2 a)) e (bif mny (P 4 a) then 24 else 1) i = i ∧ neR (P 4 a) = true then false else entC P c h e n (P 3 a) (tak (bhd c) (fun x => h x (P 2 a)) e (bif mny (P 4 a) then 24 else 1) i)
def paiC (P : Nat → Nat → Nat) (c : ctx) (h : Nat → Nat → Bool) (k : Nat) (F : Nat → Bool) : Nat → Nat → Nat → Nat → Bool
  | 0, _, _, _ => false
  | n + 1, a, m, s => if a = 4294967295 then false else ((h k (P 1 a) && h (bhd c k) (P 2 a)) && put F m (mny (P 4 a)) s) || (!(h k (P 1 a) && sgl P (P 1 a)) && paiC P c h k F n (P 3 a) (m + 1) s)
def shrC (P : Nat → Nat → Nat) (c : ctx) (h : Nat → Nat → Bool) (e a : Nat) : Nat → Nat → (Nat → Bool) → Nat → Bool
  | 0, _, F => F
  | n + 1, k, F => if k < e then shrC P c h e a n (bhd c (bhd c k)) (paiC P c h k F 128 a 0) else F
def nedC (P : Nat → Nat → Nat) : Nat → Nat → Nat → Nat → Bool
  | 0, _, _, _ => true
  | n + 1, a, m, s => if a = 4294967295 then true else (!neR (P 4 a) || s.testBit m) && nedC P n (P 3 a) (m + 1) s
def fitP (P : Nat → Nat → Nat) (t : Nat → Nat) (c : ctx) (B : Nat → Nat → Nat → Bool) (i p lv : Nat) : Bool :=
  if P 0 p = 0 then decide (maj c i < 2) else if P 0 p = 1 then decide (maj c i = 2) else if P 0 p = 2 then decide (maj c i = 3)
  else if P 0 p = 3 then decide (maj c i = 7) && decide (nmb c i < 22) else if P 0 p = 4 then decide (maj c i = 7) && decide (nmb c i = 22)
  else if P 0 p = 5 then true else if P 0 p = 6 then itg (n32 (P 1 p)) (n32 (P 2 p)) c i lv else if P 0 p = 7 then txt t (P 1 p) (P 2 p) c i lv
  else if P 0 p = 8 then decide (maj c i = 4) && entC P c (hv B (lv + 1)) (bhd c i) 128 (P 1 p) (i + 1)
  else if P 0 p = 9 then decide (maj c i = 5) && anyF (fun s => shrC P c (hv B (lv + 1)) (bhd c i) (P 1 p) 24 (i + 1) (fun s => decide (s = 0)) s && nedC P 128 (P 1 p) 0 s) 64 0
  else if P 0 p = 10 then c.2.2 (P 1 p) i (lv + 1) else if P 0 p = 11 then anyC P (fun a => hv B lv i a) 128 (P 1 p)
  else if P 0 p = 12 then decide (maj c i = 6) && (decide (nmb c i = P 1 p) && hv B (lv + 1) (i + 1) (P 2 p)) else false
def agP (P P' : Nat → Nat → Nat) (p e : Nat) : Prop := ∀ j y, p ≤ y → y < e → (j ≠ 3 ∨ y ≠ p) → P' j y = P j y
def FF (c : ctx) (cnt bn : Nat) : Prop := cnt ≤ 24 ∧ ∀ k, k < cnt → Fct bn c.2.1 k ∧ c.2.1 4 k ≤ cnt
/-- in the parts from p to e, for items from fr on, the bits are as they must be -/
def fxB (P : Nat → Nat → Nat) (t : Nat → Nat) (c : ctx) (B : Nat → Nat → Nat → Bool) (fr cnt p e : Nat) : Prop := ∀ i p' lv, fr ≤ i → i < cnt → p ≤ p' → p' < e → lv ≤ 20 → B i p' lv = fitP P t c B i p' lv
def denP (t : Nat → Nat) (P : Nat → Nat → Nat) (p e : Nat) (m : Sem) : Prop := ∀ P', agP P P' p e → ∀ c fr cnt bn B, FF c cnt bn → fxB P' t c B fr cnt p e → ∀ i lv, fr ≤ i → i < cnt → lv ≤ 20 → B i p lv = m c i lv
theorem denP_fr {t : Nat → Nat} {P P' : Nat → Nat → Nat} {p e : Nat} {m : Sem} (h : denP t P p e m) (g : agP P P' p e) : denP t P' p e m := fun Q hQ => h Q (fun j y y1 y2 o => (hQ j y y1 y2 o).trans (g j y y1 y2 o))
theorem fxB_sub {P : Nat → Nat → Nat} {t : Nat → Nat} {c : ctx} {B : Nat → Nat → Nat → Bool} {fr cnt p e p1 e1 : Nat} (h : fxB P t c B fr cnt p e) (h1 : p ≤ p1) (h2 : e1 ≤ e) : fxB P t c B fr cnt p1 e1 := fun i p' lv a b d f g => h i p' lv a b (by omega) (by omega) g
theorem denP_lf {t : Nat → Nat} {P : Nat → Nat → Nat} {p e : Nat} {m : Sem} (he : p < e) (h : ∀ P', (∀ j, j ≠ 3 → P' j p = P j p) → ∀ c cnt bn B i lv, FF c cnt bn → i < cnt → fitP P' t c B i p lv = m c i lv) : denP t P p e m := fun P' g c fr cnt bn B hF hB i lv i1 i2 l => by
  rw [hB i p lv i1 i2 (Nat.le_refl _) he l]
  exact h P' (fun j hj => g j p (Nat.le_refl _) he (Or.inl hj)) c cnt bn B i lv hF i2
theorem denP_sg {t : Nat → Nat} {P : Nat → Nat → Nat} {p e h : Nat} (he : p < e) (hi : isg h = true) (hk : P 0 p = (if h = 105 then 0 else if h = 115 then 1 else if h = 116 then 2 else if h = 98 then 3 else if h = 110 then 4 else if h = 121 then 5 else 4294967295)) : denP t P p e (sgn h) := denP_lf he (fun P' g c cnt bn B i lv hF i2 => by
  have k := (g 0 (by omega)).trans hk
  unfold fitP
  rcases isg_c hi with rfl | rfl | rfl | rfl | rfl | rfl
  · rw [show P' 0 p = 0 from k]; rfl
  · rw [show P' 0 p = 1 from k]; rfl
  · rw [show P' 0 p = 2 from k]; rfl
  · rw [show P' 0 p = 3 from k]
    show (decide (maj c i = 7) && decide (nmb c i < 22)) = (decide (maj c i = 7) && decide (nmb c i ≠ 22))
    by_cases m7 : maj c i = 7
    · have f := (hF.2 i i2).1.2.2.1 m7
      have f2 : nmb c i ≤ 22 := f.2
      rw [decide_eq_true m7]
      by_cases n22 : nmb c i = 22
      · rw [decide_eq_false (by omega : ¬ nmb c i < 22), decide_eq_false (fun z => z n22)]
      · rw [decide_eq_true (by omega : nmb c i < 22), decide_eq_true n22]
    · rw [decide_eq_false m7]
      rfl
  · rw [show P' 0 p = 4 from k]; rfl
  · rw [show P' 0 p = 5 from k]; rfl)
theorem denP_it {t : Nat → Nat} {P : Nat → Nat → Nat} {p e : Nat} (he : p < e) (hk : P 0 p = 6) {lo hg : Int32} (h1 : n32 (P 1 p) = lo) (h2 : n32 (P 2 p) = hg) : denP t P p e (itg lo hg) := denP_lf he (fun P' g c cnt bn B i lv hF i2 => by
  unfold fitP
  rw [g 0 (by omega), hk, g 1 (by omega), g 2 (by omega), h1, h2]
  rfl)
theorem denP_tx {t : Nat → Nat} {P : Nat → Nat → Nat} {p e f n : Nat} (he : p < e) (hk : P 0 p = 7) (h1 : P 1 p = f) (h2 : P 2 p = n) : denP t P p e (txt t f n) := denP_lf he (fun P' g c cnt bn B i lv hF i2 => by
  unfold fitP
  rw [g 0 (by omega), hk, g 1 (by omega), g 2 (by omega), h1, h2]
  rfl)
theorem denP_le {t : Nat → Nat} {P : Nat → Nat → Nat} {p e v : Nat} (he : p < e) (hk : P 0 p = 10) (h1 : P 1 p = v) : denP t P p e (leS v) := denP_lf he (fun P' g c cnt bn B i lv hF i2 => by
  unfold fitP
  rw [g 0 (by omega), hk, g 1 (by omega), h1]
  rfl)
-- types
abbrev ral : Type := Nat × Nat × Sem
def rfs (l : List ral) : Nat := match l with
  | [] => 4294967295
  | a :: _ => a.1
def rlk (P : Nat → Nat → Nat) : List ral → Prop
  | [] => True
  | a :: l => P 3 a.1 = rfs l ∧ rlk P l
def rly : Nat → List ral → Nat → Prop
  | p, [], p' => p ≤ p'
  | p, a :: l, p' => p ≤ a.1 ∧ a.1 < a.2.1 ∧ rly a.2.1 l p'
def anyR (l : List ral) : Sem := fun c i lv => l.any fun a => a.2.2 c i lv
def dR (t : Nat → Nat) (P : Nat → Nat → Nat) (p p' : Nat) (l : List ral) : Prop := rly p l p' ∧ rlk P l ∧ ∀ a, a ∈ l → denP t P a.1 a.2.1 a.2.2
theorem rly_le : ∀ l p p', rly p l p' → p ≤ p'
  | [], _, _, h => h
  | a :: l, p, p', h => by
    have := rly_le l _ _ h.2.2
    have := h.1
    have := h.2.1
    omega
theorem rly_in : ∀ l p p', rly p l p' → ∀ a, a ∈ l → p ≤ a.1 ∧ a.1 < a.2.1 ∧ a.2.1 ≤ p'
  | [], _, _, _, a, h => nomatch h
  | b :: l, p, p', h, a, ha => by
    rcases List.mem_cons.mp ha with e | e
    · rw [e]
      exact ⟨h.1, h.2.1, rly_le l _ _ h.2.2⟩
    · have := rly_in l _ _ h.2.2 a e
      have := h.1
      have := h.2.1
      exact ⟨by omega, by omega, by omega⟩
theorem rlk_fr {P P' : Nat → Nat → Nat} : ∀ l, (∀ a, a ∈ l → P' 3 a.1 = P 3 a.1) → rlk P l → rlk P' l
  | [], _, _ => trivial
  | a :: l, h, k => ⟨(h a (List.mem_cons_self ..)).trans k.1, rlk_fr l (fun b hb => h b (List.mem_cons_of_mem _ hb)) k.2⟩
theorem dR_fr {t : Nat → Nat} {P P' : Nat → Nat → Nat} {p p' : Nat} {l : List ral} (h : dR t P p p' l) (g : ∀ j y, p ≤ y → y < p' → P' j y = P j y) : dR t P' p p' l := by
  have i := rly_in _ _ _ h.1
  exact ⟨h.1, rlk_fr l (fun a ha => g 3 a.1 (i a ha).1 (by have := i a ha; omega)) h.2.1, fun a ha => denP_fr (h.2.2 a ha) (fun j y y1 y2 _ => g j y (by have := i a ha; omega) (by have := i a ha; omega))⟩
theorem anyC_l {t : Nat → Nat} {P : Nat → Nat → Nat} {c : ctx} {B : Nat → Nat → Nat → Bool} {fr cnt bn i lv : Nat} (hF : FF c cnt bn) (i1 : fr ≤ i) (i2 : i < cnt) (l1 : lv ≤ 20) {p' : Nat} (hp : p' ≤ 128) : ∀ l n p, rly p l p' → 128 ≤ n + p → rlk P l → (∀ a, a ∈ l → denP t P a.1 a.2.1 a.2.2) → fxB P t c B fr cnt p p' → anyC P (fun a => hv B lv i a) n (rfs l) = anyR l c i lv
  | [], n, p, hl, hn, hk, hd, hB => by
    cases n with
    | zero => rfl
    | succ n => rfl
  | a :: l, n, p, hl, hn, hk, hd, hB => by
    have a1 := hl.1
    have a2 := hl.2.1
    have a3 := rly_le _ _ _ hl.2.2
    cases n with
    | zero => omega
    | succ n =>
      show (if a.1 = 4294967295 then false else hv B lv i a.1 || anyC P (fun a => hv B lv i a) n (P 3 a.1)) = (a.2.2 c i lv || anyR l c i lv)
      rw [if_neg (by omega), hk.1, anyC_l hF i1 i2 l1 hp l n a.2.1 hl.2.2 (by omega) hk.2 (fun b hb => hd b (List.mem_cons_of_mem _ hb)) (fxB_sub hB (by omega) (Nat.le_refl _))]
      have := hd a (List.mem_cons_self ..) P (fun j y _ _ _ => rfl) c fr cnt bn B hF (fxB_sub hB a1 a3) i lv i1 i2 l1
      unfold hv lvl
      rw [this, decide_eq_true l1, Bool.true_and]
theorem denP_ty {t : Nat → Nat} {P : Nat → Nat → Nat} {p e : Nat} (he : e ≤ 128) (hk : P 0 p = 11) {l : List ral} (h1 : P 1 p = rfs l) (hd : dR t P (p + 1) e l) (hp : p < e) : denP t P p e (anyR l) := fun P' g c fr cnt bn B hF hB i lv i1 i2 l1 => by
  have d' : dR t P' (p + 1) e l := dR_fr hd (fun j y y1 y2 => g j y (by omega) y2 (Or.inr (by omega)))
  rw [hB i p lv i1 i2 (Nat.le_refl _) hp l1]
  unfold fitP
  rw [g 0 p (Nat.le_refl _) hp (Or.inl (by omega)), hk, g 1 p (Nat.le_refl _) hp (Or.inl (by omega)), h1]
  show anyC P' (fun a => hv B lv i a) 128 (rfs l) = _
  exact anyC_l hF i1 i2 l1 he l 128 (p + 1) d'.1 (by omega) d'.2.1 d'.2.2 (fxB_sub hB (by omega) (Nat.le_refl _))
theorem denP_tg {t : Nat → Nat} {P : Nat → Nat → Nat} {p e v p1 e1 : Nat} {l : List alt} (hk : P 0 p = 12) (h1 : P 1 p = v) (h2 : P 2 p = p1) (hp : p < p1) (he : e1 ≤ e) (hpe : p < e) (hd : denP t P p1 e1 (anyS l)) : denP t P p e (tgS v l) := fun P' g c fr cnt bn B hF hB i lv i1 i2 l1 => by
  rw [hB i p lv i1 i2 (Nat.le_refl _) hpe l1]
  unfold fitP
  rw [g 0 p (Nat.le_refl _) hpe (Or.inl (by omega)), hk, g 1 p (Nat.le_refl _) hpe (Or.inl (by omega)), h1, g 2 p (Nat.le_refl _) hpe (Or.inl (by omega)), h2]
  show (decide (maj c i = 6) && (decide (nmb c i = v) && hv B (lv + 1) (i + 1) p1)) = tgS v l c i lv
  unfold tgS
  by_cases m6 : maj c i = 6
  · have f := hF.2 i i2
    have f5 := f.1.2.2.2.2.2.1
    have m6' : c.2.1 0 i = 6 := m6
    rw [m6', show inn 6 (c.2.1 1 i) = 1 from rfl] at f5
    have f51 := f5.1
    have hi : hv B (lv + 1) (i + 1) p1 = lvl (lv + 1) (anyS l c (i + 1) (lv + 1)) := by
      unfold hv lvl
      by_cases l2 : lv + 1 ≤ 20
      · rw [hd P' (fun j y y1 y2 _ => g j y (by omega) (by omega) (Or.inr (by omega))) c fr cnt bn B hF (fxB_sub hB (by omega) he) (i + 1) (lv + 1) (by omega) (by omega) l2]
      · rw [decide_eq_false l2]
        rfl
    rw [hi]
  · rw [decide_eq_false m6]
    rfl
-- entries and members
def rpe (t : Nat → Nat) (P : Nat → Nat → Nat) (mp : Bool) (p : prt) (x e : Nat) : Prop := (x < e ∧ P 0 x = (bif mp then 14 else 13)) ∧ ofo p.2.1 ∧ P 4 x = (if p.2.1 = 49 then 0 else p.2.1) ∧ (∃ v1 v2, P 2 x = v1 ∧ x < v1 ∧ (v1 < v2 ∧ v2 ≤ e) ∧ denP t P v1 v2 (anyS p.2.2.2.2)) ∧ (mp = true → ∃ k1 k2, P 1 x = k1 ∧ x < k1 ∧ k1 < k2 ∧ k2 ≤ e ∧ denP t P k1 k2 (anyS p.2.2.1) ∧ sgl P k1 = p.2.2.2.1)
def rps (t : Nat → Nat) (P : Nat → Nat → Nat) (mp : Bool) : Nat → List prt → Nat → Nat → Prop
  | a, [], x, b => x = 4294967295 ∧ a ≤ b
  | a, p :: ps, x, b => a ≤ x ∧ ∃ e, e ≤ 128 ∧ rpe t P mp p x e ∧ rps t P mp e ps (P 3 x) b
theorem rpe_fr {t : Nat → Nat} {P P' : Nat → Nat → Nat} {mp : Bool} {p : prt} {x e : Nat} (h : rpe t P mp p x e) (g : ∀ j y, x ≤ y → y < e → (j ≠ 3 ∨ y ≠ x) → P' j y = P j y) : rpe t P' mp p x e := by
  obtain ⟨h1, h2, h3, ⟨v1, v2, h4, h5, h6, h7⟩, h8⟩ := h
  refine ⟨⟨h1.1, (g 0 x (Nat.le_refl _) h1.1 (by omega)).trans h1.2⟩, h2, (g 4 x (Nat.le_refl _) h1.1 (by omega)).trans h3, ⟨v1, v2, (g 2 x (Nat.le_refl _) h1.1 (by omega)).trans h4, h5, h6, denP_fr h7 (fun j y y1 y2 _ => g j y (by omega) (by omega) (by omega))⟩, fun m => ?_⟩
  obtain ⟨k1, k2, k3, k4, k5, k6, k7, k8⟩ := h8 m
  refine ⟨k1, k2, (g 1 x (Nat.le_refl _) h1.1 (by omega)).trans k3, k4, k5, k6, denP_fr k7 (fun j y y1 y2 _ => g j y (by omega) (by omega) (by omega)), ?_⟩
  unfold sgl at k8 ⊢
  rw [g 0 k1 (by omega) (by omega) (by omega), g 4 k1 (by omega) (by omega) (by omega)]
  exact k8
theorem rps_le {t : Nat → Nat} {P : Nat → Nat → Nat} {mp : Bool} : ∀ ps a x b, rps t P mp a ps x b → a ≤ b
  | [], _, _, _, h => h.2
  | p :: ps, a, x, b, h => by
    obtain ⟨h1, e, h2, h3, h4⟩ := h
    have := rps_le ps e _ b h4
    have := h3.1
    omega
theorem rps_fr {t : Nat → Nat} {P P' : Nat → Nat → Nat} {mp : Bool} : ∀ ps a x b, rps t P mp a ps x b → (∀ j y, a ≤ y → y < b → P' j y = P j y) → rps t P' mp a ps x b
  | [], _, _, _, h, _ => h
  | p :: ps, a, x, b, h, g => by
    obtain ⟨h1, e, h2, h3, h4⟩ := h
    have l := rps_le ps e _ b h4
    have l2 := h3.1
    refine ⟨h1, e, h2, rpe_fr h3 (fun j y y1 y2 _ => g j y (by omega) (by omega)), ?_⟩
    rw [g 3 x h1 (by omega)]
    exact rps_fr ps e _ b h4 (fun j y y1 y2 => g j y (by omega) y2)
theorem tak_cg {g : Nat → Nat} {f f' : Nat → Bool} {e i0 : Nat} (hg : ∀ y, y < e → y < g y) (h : ∀ y, i0 ≤ y → y < e → f y = f' y) : ∀ n i, i0 ≤ i → tak g f e n i = tak g f' e n i
  | 0, _, _ => rfl
  | n + 1, i, hi => by
    unfold tak
    by_cases k : i < e
    · rw [h i hi k, tak_cg hg h n (g i) (by have := hg i k; omega)]
    · rw [if_neg (fun z => k z.1), if_neg (fun z => k z.1)]
theorem tak_ge {g : Nat → Nat} {f : Nat → Bool} {e : Nat} (hg : ∀ y, y < e → y < g y) : ∀ n i, i ≤ tak g f e n i
  | 0, _ => Nat.le_refl _
  | n + 1, i => by
    unfold tak
    split
    · rename_i k
      have := tak_ge (f := f) hg n (g i)
      have := hg i k.1
      omega
    · exact Nat.le_refl _
theorem ofo_R {o : Nat} (h : ofo o) : mny (if o = 49 then 0 else o) = mny o ∧ neR (if o = 49 then 0 else o) = ned o := by
  rcases h with rfl | rfl | rfl | rfl <;> exact ⟨rfl, rfl⟩
theorem hv_d {t : Nat → Nat} {P : Nat → Nat → Nat} {v1 v2 : Nat} {m : Sem} (hd : denP t P v1 v2 m) {c : ctx} {cnt bn : Nat} {B : Nat → Nat → Nat → Bool} {fr p e : Nat} (hF : FF c cnt bn) (hB : fxB P t c B fr cnt p e) (h1 : p ≤ v1) (h2 : v2 ≤ e) (lv : Nat) {y : Nat} (y1 : fr ≤ y) (y2 : y < cnt) : hv B lv y v1 = lvl lv (m c y lv) := by
  unfold hv lvl
  by_cases l2 : lv ≤ 20
  · rw [hd P (fun j y y1 y2 _ => rfl) c fr cnt bn B hF (fxB_sub hB h1 h2) y lv y1 y2 l2]
  · rw [decide_eq_false l2]
    rfl
theorem entC_l {t : Nat → Nat} {P : Nat → Nat → Nat} {mp : Bool} {c : ctx} {cnt bn : Nat} {B : Nat → Nat → Nat → Bool} {fr p0 e0 : Nat} (hF : FF c cnt bn) (hB : fxB P t c B fr cnt p0 e0) {lv e : Nat} (he : e ≤ cnt) : ∀ ps n a x b i, rps t P mp a ps x b → p0 ≤ a → b ≤ e0 → ps.length < n → fr ≤ i → entC P c (hv B lv) e n x i = ents c lv e ps i
  | [], n, a, x, b, i, h, _, _, hn, _ => by
    cases n with
    | zero => rfl
    | succ n => exact if_pos h.1
  | p :: ps, n, a, x, b, i, h, ha, hb, hn, hi => by
    obtain ⟨h1, e1, h2, h3, h4⟩ := h
    have l := rps_le ps e1 _ b h4
    cases n with
    | zero => exact absurd hn (Nat.not_lt_zero _)
    | succ n =>
      have hn : ps.length < n := Nat.lt_of_succ_lt_succ hn
      obtain ⟨x1, x2, x3, ⟨v1, v2, x4, x5, x6, x7⟩, _⟩ := h3
      have hg : ∀ y, y < e → y < bhd c y := fun y hy => (hF.2 y (by omega)).1.2.2.2.2.1
      have r := ofo_R x2
      have tk : tak (bhd c) (fun y => hv B lv y (P 2 x)) e (bif mny (P 4 x) then 24 else 1) i = tak (bhd c) (fun y => lvl lv (anyS p.2.2.2.2 c y lv)) e (bif mny p.2.1 then 24 else 1) i := by
        rw [x3, r.1, x4]
        exact tak_cg hg (fun y y1 y2 => hv_d x7 hF hB (by omega) (by omega) lv (by omega) (by omega)) _ _ (Nat.le_refl i)
      show (if x = 4294967295 then decide (i = e) else if tak (bhd c) (fun y => hv B lv y (P 2 x)) e (bif mny (P 4 x) then 24 else 1) i = i ∧ neR (P 4 x) = true then false else entC P c (hv B lv) e n (P 3 x) (tak (bhd c) (fun y => hv B lv y (P 2 x)) e (bif mny (P 4 x) then 24 else 1) i)) = ents c lv e (p :: ps) i
      rw [if_neg (by omega), tk, x3, r.2, entC_l hF hB he ps n e1 _ b _ h4 (by omega) hb hn (Nat.le_trans hi (tak_ge hg _ _))]
      rfl
theorem denP_ar {t : Nat → Nat} {P : Nat → Nat → Nat} {p e : Nat} (hpe : p < e) (hk : P 0 p = 8) {ps : List prt} (hl : ps.length ≤ 6) {mp : Bool} (h1 : rps t P mp (p + 1) ps (P 1 p) e) : denP t P p e (arS ps) := fun P' g c fr cnt bn B hF hB i lv i1 i2 l1 => by
  have r := rps_fr ps _ _ _ h1 (fun j y y1 y2 => g j y (by omega) y2 (Or.inr (by omega)))
  rw [hB i p lv i1 i2 (Nat.le_refl _) hpe l1]
  unfold fitP
  rw [g 0 p (Nat.le_refl _) hpe (Or.inl (by omega)), hk, g 1 p (Nat.le_refl _) hpe (Or.inl (by omega))]
  show (decide (maj c i = 4) && entC P' c (hv B (lv + 1)) (bhd c i) 128 (P 1 p) (i + 1)) = arS ps c i lv
  unfold arS
  rw [entC_l hF hB (e := bhd c i) (hF.2 i i2).2 ps 128 (p + 1) _ e (i + 1) r (by omega) (Nat.le_refl _) (by omega) (by omega)]
theorem paiC_l {t : Nat → Nat} {P : Nat → Nat → Nat} {c : ctx} {cnt bn : Nat} {B : Nat → Nat → Nat → Bool} {fr p0 e0 : Nat} (hF : FF c cnt bn) (hB : fxB P t c B fr cnt p0 e0) {lv k : Nat} (k1 : fr ≤ k) (k2 : k < cnt) (k3 : bhd c k < cnt) (F : Nat → Bool) : ∀ ps n a x b m s, rps t P true a ps x b → p0 ≤ a → b ≤ e0 → ps.length < n → paiC P c (hv B lv) k F n x m s = pai c lv k F ps m s
  | [], n, a, x, b, m, s, h, _, _, hn => by
    cases n with
    | zero => rfl
    | succ n => exact if_pos h.1
  | p :: ps, n, a, x, b, m, s, h, ha, hb, hn => by
    obtain ⟨h1, e1, h2, h3, h4⟩ := h
    have l := rps_le ps e1 _ b h4
    cases n with
    | zero => exact absurd hn (Nat.not_lt_zero _)
    | succ n =>
      have hn : ps.length < n := Nat.lt_of_succ_lt_succ hn
      obtain ⟨x1, x2, x3, ⟨v1, v2, x4, x5, x6, x7⟩, x8⟩ := h3
      obtain ⟨y1, y2, y3, y4, y5, y6, y7, y8⟩ := x8 rfl
      have r := ofo_R x2
      have bk : k < bhd c k := (hF.2 k k2).1.2.2.2.2.1
      show (if x = 4294967295 then false else ((hv B lv k (P 1 x) && hv B lv (bhd c k) (P 2 x)) && put F m (mny (P 4 x)) s) || (!(hv B lv k (P 1 x) && sgl P (P 1 x)) && paiC P c (hv B lv) k F n (P 3 x) (m + 1) s)) = pai c lv k F (p :: ps) m s
      rw [if_neg (by omega), paiC_l hF hB k1 k2 k3 F ps n e1 _ b (m + 1) s h4 (by omega) hb hn, x3, r.1, x4, y3, y8, hv_d y7 hF hB (by omega) (by omega) lv k1 k2, hv_d x7 hF hB (by omega) (by omega) lv (by omega) k3]
      rfl
theorem shrC_l {t : Nat → Nat} {P : Nat → Nat → Nat} {c : ctx} {cnt bn : Nat} {B : Nat → Nat → Nat → Bool} {fr p0 e0 : Nat} (hF : FF c cnt bn) (hB : fxB P t c B fr cnt p0 e0) {lv e : Nat} (he : e ≤ cnt) {ps : List prt} {a x b : Nat} (h : rps t P true a ps x b) (ha : p0 ≤ a) (hb : b ≤ e0) (hn : ps.length ≤ 6) : ∀ n k F, fr ≤ k → (∃ z, ch (bhd c) (2 * z) k e) → shrC P c (hv B lv) e x n k F = shr c lv e ps n k F
  | 0, _, _, _, _ => rfl
  | n + 1, k, F, hk, hz => by
    unfold shrC shr
    by_cases ke : k < e
    · obtain ⟨z, hz⟩ := hz
      have c2 := ch_2 hz ke
      have b1 : k < bhd c k := (hF.2 k (by omega)).1.2.2.2.2.1
      have b2 : bhd c k < bhd c (bhd c k) := (hF.2 (bhd c k) (by omega)).1.2.2.2.2.1
      have e2 : paiC P c (hv B lv) k F 128 x 0 = pai c lv k F ps 0 := by
        funext s
        exact paiC_l hF hB hk (by omega) (by omega) F ps 128 a x b 0 s h ha hb (by omega)
      rw [if_pos ke, if_pos ke, e2]
      exact shrC_l hF hB he h ha hb hn n _ _ (by omega) c2.2
    · rw [if_neg ke, if_neg ke]
theorem nedC_l {t : Nat → Nat} {P : Nat → Nat → Nat} {mp : Bool} : ∀ ps n a x b m s, rps t P mp a ps x b → ps.length < n → nedC P n x m s = neds ps m s
  | [], n, a, x, b, m, s, h, hn => by
    cases n with
    | zero => rfl
    | succ n => exact if_pos h.1
  | p :: ps, n, a, x, b, m, s, h, hn => by
    obtain ⟨h1, e1, h2, h3, h4⟩ := h
    cases n with
    | zero => exact absurd hn (Nat.not_lt_zero _)
    | succ n =>
      have hn : ps.length < n := Nat.lt_of_succ_lt_succ hn
      obtain ⟨x1, x2, x3, _⟩ := h3
      have r := ofo_R x2
      show (if x = 4294967295 then true else (!neR (P 4 x) || s.testBit m) && nedC P n (P 3 x) (m + 1) s) = neds (p :: ps) m s
      rw [if_neg (by omega), nedC_l ps n e1 _ b (m + 1) s h4 hn, x3, r.2]
      rfl
theorem denP_ma {t : Nat → Nat} {P : Nat → Nat → Nat} {p e : Nat} (hpe : p < e) (hk : P 0 p = 9) {ps : List prt} (hl : ps.length ≤ 6) (h1 : rps t P true (p + 1) ps (P 1 p) e) : denP t P p e (maS ps) := fun P' g c fr cnt bn B hF hB i lv i1 i2 l1 => by
  have r := rps_fr ps _ _ _ h1 (fun j y y1 y2 => g j y (by omega) y2 (Or.inr (by omega)))
  rw [hB i p lv i1 i2 (Nat.le_refl _) hpe l1]
  unfold fitP
  rw [g 0 p (Nat.le_refl _) hpe (Or.inl (by omega)), hk, g 1 p (Nat.le_refl _) hpe (Or.inl (by omega))]
  show (decide (maj c i = 5) && anyF (fun s => shrC P' c (hv B (lv + 1)) (bhd c i) (P 1 p) 24 (i + 1) (fun s => decide (s = 0)) s && nedC P' 128 (P 1 p) 0 s) 64 0) = maS ps c i lv
  unfold maS
  by_cases m5 : maj c i = 5
  · have f := hF.2 i i2
    have f5 := f.1.2.2.2.2.2.1
    have m5' : c.2.1 0 i = 5 := m5
    rw [m5', show inn 5 (c.2.1 1 i) = 2 * c.2.1 1 i from rfl] at f5
    rw [shrC_l hF hB (e := bhd c i) f.2 r (by omega) (Nat.le_refl _) hl 24 (i + 1) _ (by omega) ⟨_, f5⟩]
    rw [anyF_c (Q := fun s => shr c (lv + 1) (bhd c i) ps 24 (i + 1) (fun s => decide (s = 0)) s && neds ps 0 s) 64 0 (fun s _ _ => by rw [nedC_l ps 128 (p + 1) _ e 0 s r (by omega)])]
  · rw [decide_eq_false m5]
    rfl
-- what the reference's matching needs of each part
def rch (P : Nat → Nat → Nat) (mp : Bool) : Nat → Nat → Nat → Nat → Prop
  | 0, _, x, _ => x = 4294967295
  | n + 1, a, x, b => a ≤ x ∧ x < b ∧ P 0 x = (bif mp then 14 else 13) ∧ (P 4 x = 0 ∨ P 4 x = 63 ∨ P 4 x = 42 ∨ P 4 x = 43) ∧ x < P 2 x ∧ P 2 x < b ∧ (mp = true → x < P 1 x ∧ P 1 x < b) ∧ rch P mp n (x + 1) (P 3 x) b
theorem rch_fr {P P' : Nat → Nat → Nat} {mp : Bool} {b : Nat} : ∀ n a x, (∀ j y, a ≤ y → y < b → P' j y = P j y) → rch P mp n a x b → rch P' mp n a x b
  | 0, _, _, _, h => h
  | n + 1, a, x, g, h => by
    obtain ⟨h1, h2, h3, h4, h5, h6, h7, h8⟩ := h
    have e (j : Nat) : P' j x = P j x := g j x h1 h2
    refine ⟨h1, h2, by rw [e]; exact h3, by rw [e]; exact h4, by rw [e]; exact h5, by rw [e]; exact h6, fun m => by rw [e]; exact h7 m, ?_⟩
    rw [e]
    exact rch_fr n (x + 1) _ (fun j y y1 y2 => g j y (by omega) y2) h8
theorem rch_lo {P : Nat → Nat → Nat} {mp : Bool} {b a' : Nat} : ∀ n a x, a' ≤ a → rch P mp n a x b → rch P mp n a' x b
  | 0, _, _, _, h => h
  | n + 1, a, x, g, h => ⟨Nat.le_trans g h.1, h.2⟩
theorem rch_hi {P : Nat → Nat → Nat} {mp : Bool} {b b' : Nat} (hb : b ≤ b') : ∀ n a x, rch P mp n a x b → rch P mp n a x b'
  | 0, _, _, h => h
  | n + 1, a, x, h => by
    obtain ⟨h1, h2, h3, h4, h5, h6, h7, h8⟩ := h
    exact ⟨h1, by omega, h3, h4, h5, by omega, fun m => ⟨(h7 m).1, by have := (h7 m).2; omega⟩, rch_hi hb n (x + 1) _ h8⟩
theorem rps_ch {t : Nat → Nat} {P : Nat → Nat → Nat} {mp : Bool} : ∀ ps a x b, rps t P mp a ps x b → rch P mp ps.length a x b
  | [], _, _, _, h => h.1
  | p :: ps, a, x, b, h => by
    obtain ⟨h1, e, h2, h3, h4⟩ := h
    have l := rps_le ps e _ b h4
    obtain ⟨x1, x2, x3, ⟨v1, v2, x4, x5, x6, x7⟩, x8⟩ := h3
    refine ⟨h1, by omega, x1.2, ?_, by omega, by omega, fun m => ?_, rch_lo ps.length e _ (by omega) (rps_ch ps e _ b h4)⟩
    · rw [x3]
      rcases x2 with z | z | z | z <;> rw [z] <;> simp
    · obtain ⟨k1, k2, k3, k4, k5, k6, k7, k8⟩ := x8 m
      omega
def sfe (t : Nat → Nat) (P : Nat → Nat → Nat) (y e : Nat) : Prop := P 0 y ≤ 14 ∧ (P 0 y = 7 → P 2 y ≤ 40 ∧ ∀ k, k < P 2 y → t (P 1 y + k) ≠ 0) ∧ (P 0 y = 10 → P 1 y < 8) ∧ (P 0 y = 12 → P 1 y < 10) ∧ (P 0 y = 12 ∨ P 0 y = 13 ∨ P 0 y = 14 → P 2 y < e) ∧ (P 0 y = 11 → ∃ l, P 1 y = rfs l ∧ rly (y + 1) l e ∧ rlk P l) ∧ (P 0 y = 8 → ∃ n, n ≤ 6 ∧ rch P false n (y + 1) (P 1 y) e) ∧ (P 0 y = 9 → ∃ n, n ≤ 6 ∧ rch P true n (y + 1) (P 1 y) e) ∧ (P 0 y = 14 → P 1 y < e) ∧ (P 0 y = 6 → P 4 y ≤ 1)
theorem sfe_fr {t : Nat → Nat} {P P' : Nat → Nat → Nat} {y e : Nat} (h : sfe t P y e) (hy : y < e) (g : ∀ j w, y ≤ w → w < e → (j ≠ 3 ∨ w ≠ y) → P' j w = P j w) : sfe t P' y e := by
  obtain ⟨h1, h2, h3, h4, h5, h6, h7, h8, h9, h10⟩ := h
  have e4 := g 4 y (Nat.le_refl _) hy (by omega)
  have e0 := g 0 y (Nat.le_refl _) hy (by omega)
  have e1 := g 1 y (Nat.le_refl _) hy (by omega)
  have e2 := g 2 y (Nat.le_refl _) hy (by omega)
  unfold sfe
  rw [e0, e1, e2, e4]
  refine ⟨h1, h2, h3, h4, h5, fun z => ?_, fun z => ?_, fun z => ?_, h9, h10⟩
  · obtain ⟨l, l1, l2, l3⟩ := h6 z
    have i := rly_in _ _ _ l2
    exact ⟨l, l1, l2, rlk_fr l (fun a ha => g 3 a.1 (by have := i a ha; omega) (by have := i a ha; omega) (by have := i a ha; omega)) l3⟩
  · obtain ⟨k, k1, k2⟩ := h7 z
    exact ⟨k, k1, rch_fr k _ _ (fun j w w1 w2 => g j w (by omega) w2 (by omega)) k2⟩
  · obtain ⟨k, k1, k2⟩ := h8 z
    exact ⟨k, k1, rch_fr k _ _ (fun j w w1 w2 => g j w (by omega) w2 (by omega)) k2⟩
def v3 (P : Nat → Nat → Nat) (y : Nat) : Prop := P 3 y = 4294967295 ∨ P 3 y < 1000
/-- every part from p to e is sound, and none reaches over the place z -/
def sR (t : Nat → Nat) (P : Nat → Nat → Nat) (p e z : Nat) : Prop := ∀ y, p ≤ y → y < e → ∃ ey, y < ey ∧ ey ≤ e ∧ (z ≤ y ∨ ey ≤ z) ∧ sfe t P y ey ∧ v3 P y
theorem sR_ap {t : Nat → Nat} {P : Nat → Nat → Nat} {p m e z : Nat} (hm : m ≤ e) (h : sR t P p m z) (g : sR t P m e m) : sR t P p e m := fun y y1 y2 => by
  by_cases l : y < m
  · obtain ⟨ey, a1, a2, a3, a4⟩ := h y y1 l
    exact ⟨ey, a1, by omega, Or.inr a2, a4⟩
  · obtain ⟨ey, a1, a2, a3, a4⟩ := g y (by omega) y2
    exact ⟨ey, a1, a2, a3, a4⟩
theorem sR_any {t : Nat → Nat} {P : Nat → Nat → Nat} {p e z : Nat} (h : sR t P p e z) : sR t P p e p := fun y y1 y2 => by
  obtain ⟨ey, a1, a2, a3, a4⟩ := h y y1 y2
  exact ⟨ey, a1, a2, Or.inl y1, a4⟩
theorem sR_fr {t : Nat → Nat} {P P' : Nat → Nat → Nat} {p e z : Nat} (h : sR t P p e z) (hz : v3 P' z) (g : ∀ j y, p ≤ y → y < e → (j ≠ 3 ∨ y ≠ z) → P' j y = P j y) : sR t P' p e z := fun y y1 y2 => by
  obtain ⟨ey, a1, a2, a3, a4, a5⟩ := h y y1 y2
  refine ⟨ey, a1, a2, a3, sfe_fr a4 a1 (fun j w w1 w2 o => g j w (by omega) (by omega) (by omega)), ?_⟩
  by_cases l : y = z
  · rw [l]
    exact hz
  · unfold v3
    rw [g 3 y y1 y2 (Or.inr l)]
    exact a5
theorem sR_1 {t : Nat → Nat} {P : Nat → Nat → Nat} {p : Nat} (h : sfe t P p (p + 1)) (h3 : v3 P p) : sR t P p (p + 1) p := fun y y1 y2 => by
  rw [show y = p by omega]
  exact ⟨p + 1, Nat.lt_succ_self _, Nat.le_refl _, Or.inl (Nat.le_refl _), h, h3⟩
theorem sR_hd {t : Nat → Nat} {P : Nat → Nat → Nat} {p e z : Nat} (hp : p < e) (h : sfe t P p e) (h3 : v3 P p) (g : sR t P (p + 1) e z) : sR t P p e p := fun y y1 y2 => by
  by_cases l : y = p
  · rw [l]
    exact ⟨e, hp, Nat.le_refl _, Or.inl (Nat.le_refl _), h, h3⟩
  · obtain ⟨ey, a1, a2, a3, a4⟩ := g y (by omega) y2
    exact ⟨ey, a1, a2, Or.inl y1, a4⟩
theorem sfe_ty {t : Nat → Nat} {P : Nat → Nat → Nat} {y e : Nat} (h0 : P 0 y = 11) {l : List ral} (h1 : P 1 y = rfs l) (h2 : dR t P (y + 1) e l) : sfe t P y e := by
  unfold sfe
  rw [h0]
  exact ⟨by decide, nofun, nofun, nofun, nofun, fun _ => ⟨l, h1, h2.1, h2.2.1⟩, nofun, nofun, nofun, nofun⟩
theorem sfe_pt {t : Nat → Nat} {P : Nat → Nat → Nat} {y e : Nat} (h0 : P 0 y = 13 ∨ (P 0 y = 14 ∧ P 1 y < e)) (h2 : P 2 y < e) : sfe t P y e := by
  unfold sfe
  rcases h0 with h0 | ⟨h0, h1⟩
  · rw [h0]
    exact ⟨by decide, nofun, nofun, nofun, fun _ => h2, nofun, nofun, nofun, nofun, nofun⟩
  · rw [h0]
    exact ⟨by decide, nofun, nofun, nofun, fun _ => h2, nofun, nofun, nofun, fun _ => h1, nofun⟩
