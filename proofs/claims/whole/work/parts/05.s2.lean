-- The abstract machine is sound: the world.
def ab_ad (sa wa B : Nat) : Nat → Nat
  | 0 => 0
  | 1 => sa
  | 2 => wa
  | r + 3 => B + r
theorem ab_ad_inj {sa wa B : Nat} (h1 : sa < B) (h2 : wa < B) (h3 : sa ≠ wa) : ∀ {a b : Nat}, 0 < a → 0 < b → ab_ad sa wa B a = ab_ad sa wa B b → a = b
  | 1, 1, _, _, _ => rfl
  | 1, 2, _, _, h => absurd h h3
  | 1, b + 3, _, _, h => by simp only [ab_ad] at h; omega
  | 2, 1, _, _, h => absurd h.symm h3
  | 2, 2, _, _, _ => rfl
  | 2, b + 3, _, _, h => by simp only [ab_ad] at h; omega
  | a + 3, 1, _, _, h => by simp only [ab_ad] at h; omega
  | a + 3, 2, _, _, h => by simp only [ab_ad] at h; omega
  | a + 3, b + 3, _, _, h => by simp only [ab_ad] at h; omega
theorem ab_ad_eq {sa wa B r : Nat} (h : 2 < r) : ab_ad sa wa B r = B + (r - 3) := by
  match r, h with
  | r + 3, _ => simp [ab_ad]
def ab_fv (ad : Nat → Nat) (S : ab_S) (c r f : Nat) : Value := bif Nat.blt (ab_knd c f) 2 then .int (S.1 r f) else ab_cv ad (.inr (.inr (S.2.2.1 r f)))
def ab_xv (ad : Nat → Nat) (S : ab_S) (t r j : Nat) : Value := match t with
  | 2 => .long (S.2.1 r j)
  | 5 => ab_cv ad (.inr (.inr (S.2.2.1 r j)))
  | _ => .int (S.1 r j)
def ab_aty (t : Nat) : FieldType := match t with
  | 1 => .int
  | 2 => .long
  | 3 => .char
  | 4 => .boolean
  | _ => .object "ShapedItems$Shape"
def ab_ce (D : va_G) (q : Nat) (ad : Nat → Nat) (S : ab_S) (U : State) (H : Heap) (r : Nat) : Prop :=
  (10 ≤ ab_T r → ∃ cell : Cell, H[ad r]? = some cell ∧ cell.cls = D.1 (ab_T r - 10) ∧ cell.vm = .none ∧ ∀ f, f < ab_nf (ab_T r - 10) → cell.slots[D.2 (ab_T r - 10) f]? = some (ab_fv ad S (ab_T r - 10) r f)) ∧
  (ab_T r < 10 → ∃ cell : Cell, H[ad r]? = some cell ∧ U.isArrayOf cell (ab_aty (ab_T r)) ∧ cell.vm ≠ .unknown ∧ (ab_N q r ≤ cell.slots.size ∧ cell.slots.size.toInt32 = Int32.ofNat (ab_N q r)) ∧ (∀ j, j < ab_N q r → cell.slots[j]? = some (ab_xv ad S (ab_T r) r j)) ∧
    (ab_T r = 5 → ∃ kA : Class, U.vm.classes[cell.cls]? = some kA ∧ kA.kind = .array (D.1 2) (.object "ShapedItems$Shape")))
theorem ab_ce.kept {D : va_G} {q : Nat} {ad : Nat → Nat} {S S' : ab_S} {U : State} {H H' : Heap} {r : Nat} (h : ab_ce D q ad S U H r) (hH : H'[ad r]? = H[ad r]?) (h1 : ∀ k, S'.1 r k = S.1 r k) (h2 : ∀ k, S'.2.1 r k = S.2.1 r k) (h3 : ∀ k, S'.2.2.1 r k = S.2.2.1 r k) : ab_ce D q ad S' U H' r := by
  have hf : ∀ c f, ab_fv ad S' c r f = ab_fv ad S c r f := fun c f => by simp only [ab_fv, h1, h3]
  have hx : ∀ t j, ab_xv ad S' t r j = ab_xv ad S t r j := fun t j => by
    unfold ab_xv
    split <;> simp only [h1, h2, h3]
  refine ⟨fun hT => ?_, fun hT => ?_⟩
  · obtain ⟨cell, a1, a2, a3, a4⟩ := h.1 hT
    exact ⟨cell, hH.trans a1, a2, a3, fun f hf' => by rw [hf]; exact a4 f hf'⟩
  · obtain ⟨cell, a1, a2, a3, a4, a5, a6⟩ := h.2 hT
    exact ⟨cell, hH.trans a1, a2, a3, a4, fun j hj => by rw [hx]; exact a5 j hj, a6⟩
theorem ab_ce.moved {D : va_G} {q : Nat} {ad : Nat → Nat} {S : ab_S} {u U : State} {H : Heap} {r : Nat} (hvm : u.vm.Alike U.vm) (h : ab_ce D q ad S u H r) : ab_ce D q ad S U H r := by
  refine ⟨h.1, fun hT => ?_⟩
  obtain ⟨cell, a1, a2, a3, a4, a5, a6⟩ := h.2 hT
  refine ⟨cell, a1, State.isArrayOf_alike hvm a2, a3, a4, a5, fun h5 => ?_⟩
  obtain ⟨kA, b1, b2⟩ := a6 h5
  obtain ⟨k', hk', he⟩ := hvm.2.2 _ _ b1
  exact ⟨k', hk', by rw [he]; exact b2⟩
def ab_Wd (D : va_G) (q sa wa B : Nat) (S : ab_S) (U : State) (H : Heap) : Prop :=
  (∀ r, 0 < r → r < S.2.2.2.1 → ab_ce D q (ab_ad sa wa B) S U H r) ∧ 3 ≤ S.2.2.2.1 ∧ S.2.2.2.1 ≤ ab_C ∧ B + (S.2.2.2.1 - 3) ≤ H.size ∧ (S.2.2.2.1 < ab_C → H.size = B + (S.2.2.2.1 - 3)) ∧
  ∀ r k, S.2.2.2.1 ≤ r → S.1 r k = 0 ∧ S.2.1 r k = 0 ∧ S.2.2.1 r k = 0
theorem ab_Wd.moved {D : va_G} {q sa wa B : Nat} {S : ab_S} {u U : State} {H : Heap} (hvm : u.vm.Alike U.vm) (h : ab_Wd D q sa wa B S u H) : ab_Wd D q sa wa B S U H := ⟨fun r a b => (h.1 r a b).moved hvm, h.2⟩
/-- what a walk carries of heap and stores -/
def ab_X (D : va_G) (q sa wa B n0 z0 k : Nat) (Hb : Heap) (s : State) (S : ab_S) (H : Heap) (locs : List Loc) : Prop :=
  ab_Wd D q sa wa B S s H ∧ (ab_md k = true → ab_inv S = true) ∧ (∀ a, a < B → H[a]? = Hb[a]?) ∧ (∀ x ∈ locs, B ≤ x.base) ∧ n0 ≤ S.2.2.2.2.1 ∧ z0 ≤ S.2.2.2.2.2
theorem ab_okE {k r t : Nat} {S : ab_S} (h : ab_ok k S r t = true) (hi : ab_md k = true → ab_inv S = true) : ab_T r = t ∧ 0 < r ∧ r < S.2.2.2.1 := by
  simp only [ab_ok, Bool.and_eq_true] at h
  obtain ⟨h1, h2, h3⟩ := h
  refine ⟨Nat.eq_of_beq_eq_true h1, ab_blt h2, ?_⟩
  cases hm : ab_md k with
  | false =>
    rw [hm] at h3
    exact ab_blt h3
  | true =>
    rw [hm] at h3
    have := hi hm
    simp only [ab_inv, Bool.and_eq_true] at this
    have e := Nat.eq_of_beq_eq_true this.1
    rw [e]
    exact ab_blt h3
/-- one cell is written: the world behind it -/
theorem ab_Wd.set {D : va_G} {q sa wa B : Nat} {S S' : ab_S} {U : State} {H H' : Heap} {r : Nat} (hsa : sa < B) (hwa : wa < B) (hne : sa ≠ wa) (h : ab_Wd D q sa wa B S U H) (h0 : 0 < r) (hr : r < S.2.2.2.1)
    (hz : H'.size = H.size) (ho : ∀ a, a ≠ ab_ad sa wa B r → H'[a]? = H[a]?) (hf : S'.2.2.2 = S.2.2.2) (h1 : ∀ x k, x ≠ r → S'.1 x k = S.1 x k) (h2 : ∀ x k, x ≠ r → S'.2.1 x k = S.2.1 x k) (h3 : ∀ x k, x ≠ r → S'.2.2.1 x k = S.2.2.1 x k)
    (hc : ab_ce D q (ab_ad sa wa B) S' U H' r) : ab_Wd D q sa wa B S' U H' := by
  have hf1 : S'.2.2.2.1 = S.2.2.2.1 := by rw [hf]
  refine ⟨fun x a b => ?_, by rw [hf1]; exact h.2.1, by rw [hf1]; exact h.2.2.1, by rw [hf1, hz]; exact h.2.2.2.1, fun hl => ?_, fun x k hx => ?_⟩
  · rw [hf1] at b
    by_cases e : x = r
    · subst e
      exact hc
    · exact (h.1 x a b).kept (ho _ fun q => e (ab_ad_inj hsa hwa hne a h0 q)) (fun k => h1 x k e) (fun k => h2 x k e) (fun k => h3 x k e)
  · rw [hf1] at hl ⊢
    rw [hz]
    exact h.2.2.2.2.1 hl
  · rw [hf1] at hx
    have e : x ≠ r := by omega
    rw [h1 x k e, h2 x k e, h3 x k e]
    exact h.2.2.2.2.2 x k hx
theorem ab_up_ne {α : Type} (f : Nat → Nat → α) {o k a b : Nat} (v : α) (h : a ≠ o) : ab_up f o k v a b = f a b := by simp [ab_up, h]
theorem ab_up_eq {α : Type} (f : Nat → Nat → α) (o k : Nat) (v : α) : ab_up f o k v o k = v := by simp [ab_up]
theorem ab_up_nk {α : Type} (f : Nat → Nat → α) {o k b : Nat} (v : α) (h : b ≠ k) : ab_up f o k v o b = f o b := by simp [ab_up, h]
theorem ab_X.locs {D : va_G} {q sa wa B n0 z0 k : Nat} {Hb : Heap} {s : State} {S S' : ab_S} {H H' : Heap} {locs L : List Loc} {r : Nat} (hX : ab_X D q sa wa B n0 z0 k Hb s S H locs) (hr : 2 < r) (hW : ab_Wd D q sa wa B S' s H') (hi : ab_md k = true → ab_inv S' = true)
    (ho : ∀ a, a ≠ ab_ad sa wa B r → H'[a]? = H[a]?) (hL : ∀ x ∈ L, x.base = ab_ad sa wa B r) (hf : S'.2.2.2 = S.2.2.2) : ab_X D q sa wa B n0 z0 k Hb s S' H' (locs ++ L) := by
  have hb : B ≤ ab_ad sa wa B r := by rw [ab_ad_eq hr]; omega
  refine ⟨hW, hi, fun a ha => ?_, fun x hx => ?_, ?_, ?_⟩
  · rw [ho a (by omega)]
    exact hX.2.2.1 a ha
  · rcases List.mem_append.mp hx with h | h
    · exact hX.2.2.2.1 x h
    · rw [hL x h]
      exact hb
  · rw [hf]; exact hX.2.2.2.2.1
  · rw [hf]; exact hX.2.2.2.2.2
