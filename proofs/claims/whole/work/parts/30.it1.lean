-- Items: what bytes are read as, and the class's reading.
def uI (I : Nat → Nat → Nat) (j k v : Nat) : Nat → Nat → Nat := fun a b => if a = j ∧ b = k then v else I a b
def be (b : Nat → Nat) (p : Nat) : Nat → Nat
  | 0 => 0
  | i + 1 => be b p i * 256 + b (p + i)
def num (b : Nat → Nat) (bn p info : Nat) : Option (Nat × Nat) :=
  if info < 24 then some (info, p) else if 26 < info then none else if bn < p + 2 ^ (info - 24) then none else some (be b p (2 ^ (info - 24)), p + 2 ^ (info - 24))
def pr (c : Nat) : Bool := decide (32 ≤ c) && decide (c ≤ 126)
/-- n characters from p on are printed -/
def prs (b : Nat → Nat) : Nat → Nat → Bool
  | _, 0 => true
  | p, n + 1 => pr (b p) && prs b (p + 1) n
abbrev ic : Type := Nat × Nat × (Nat → Nat → Nat)
def many (f : ic → Option ic) : Nat → ic → Option ic
  | 0, s => some s
  | n + 1, s => match f s with
    | none => none
    | some s' => many f n s'
def rest (f : ic → Option ic) (b : Nat → Nat) (bn major n : Nat) (s : ic) : Option ic :=
  if major = 2 then (if bn < s.1 + n then none else some (s.1 + n, s.2))
  else if major = 3 then (if bn < s.1 + n then none else if prs b s.1 n = true then some (s.1 + n, s.2) else none)
  else if major = 4 then many f n s
  else if major = 5 then many f (2 * n) s
  else if major = 6 then many f 1 s
  else some s
def put4 (I : Nat → Nat → Nat) (c major n deep p : Nat) : Nat → Nat → Nat := uI (uI (uI (uI I 0 c major) 1 c n) 2 c deep) 3 c p
def itm (b : Nat → Nat) (bn : Nat) : Nat → ic → Option ic
  | 0, _ => none
  | f + 1, s =>
    if 24 ≤ s.2.1 then none else if bn ≤ s.1 then none else
    if b s.1 / 32 = 7 ∧ (b s.1 % 32 < 20 ∨ 22 < b s.1 % 32) then none else
    match num b bn (s.1 + 1) (b s.1 % 32) with
    | none => none
    | some x => match rest (itm b bn f) b bn (b s.1 / 32) x.1 (x.2, s.2.1 + 1, put4 s.2.2 s.2.1 (b s.1 / 32) x.1 (6 - f) x.2) with
      | none => none
      | some s' => some (s'.1, s'.2.1, uI s'.2.2 4 s.2.1 s'.2.1)
theorem be_lt (b : Nat → Nat) (p : Nat) : ∀ i, (∀ j, j < i → b (p + j) < 256) → be b p i < 256 ^ i
  | 0, _ => by show 0 < 1; decide
  | i + 1, h => by
    have h1 := be_lt b p i (fun j hj => h j (by omega))
    have h2 := h i (by omega)
    show be b p i * 256 + b (p + i) < 256 ^ (i + 1)
    rw [Nat.pow_succ]
    omega
theorem num_ok {b : Nat → Nat} {bn p info : Nat} {x : Nat × Nat} (hb : ∀ i, i < bn → b i < 256) (hp : p ≤ bn) (h : num b bn p info = some x) : x.1 < 4294967296 ∧ p ≤ x.2 ∧ x.2 ≤ bn := by
  unfold num at h
  split at h
  · cases h
    exact ⟨by omega, Nat.le_refl _, hp⟩
  · split at h
    · cases h
    · split at h
      · cases h
      · cases h
        rename_i h1 h2 h3
        have h4 : 2 ^ (info - 24) ≤ 4 := Nat.le_trans (Nat.pow_le_pow_right (by decide) (by omega : info - 24 ≤ 2)) (by decide)
        have h5 := be_lt b p (2 ^ (info - 24)) (fun j hj => hb _ (by omega))
        have h6 : 256 ^ (2 ^ (info - 24)) ≤ 256 ^ 4 := Nat.pow_le_pow_right (by decide) h4
        exact ⟨by omega, Nat.le_add_right _ _, Nat.le_of_not_lt h3⟩
theorem many_big {f : ic → Option ic} (hf : ∀ s s', f s = some s' → s.2.1 < s'.2.1 ∧ s'.2.1 ≤ 24) : ∀ n s, s.2.1 ≤ 24 → 24 < n + s.2.1 → many f n s = none
  | 0, s, h1, h2 => absurd h2 (by omega)
  | n + 1, s, h1, h2 => by
    unfold many
    split
    · rfl
    · rename_i s' hs
      have := hf _ _ hs
      exact many_big hf n s' this.2 (by omega)
theorem many_inc {f : ic → Option ic} {bn : Nat} (hf : ∀ s s', s.1 ≤ bn → s.2.1 ≤ 24 → f s = some s' → s.1 < s'.1 ∧ s'.1 ≤ bn ∧ s.2.1 < s'.2.1 ∧ s'.2.1 ≤ 24) : ∀ n s s', s.1 ≤ bn → s.2.1 ≤ 24 → many f n s = some s' → s.1 ≤ s'.1 ∧ s'.1 ≤ bn ∧ s.2.1 ≤ s'.2.1 ∧ s'.2.1 ≤ 24
  | 0, s, s', h1, h2, h => by
    cases h
    exact ⟨Nat.le_refl _, h1, Nat.le_refl _, h2⟩
  | n + 1, s, s', h1, h2, h => by
    unfold many at h
    split at h
    · cases h
    · rename_i s1 hs
      have a := hf _ _ h1 h2 hs
      have c := many_inc hf n s1 s' a.2.1 a.2.2.2 h
      omega
theorem rest_inc {f : ic → Option ic} {b : Nat → Nat} {bn major n : Nat} {s s' : ic} (hf : ∀ s s', s.1 ≤ bn → s.2.1 ≤ 24 → f s = some s' → s.1 < s'.1 ∧ s'.1 ≤ bn ∧ s.2.1 < s'.2.1 ∧ s'.2.1 ≤ 24) (h1 : s.1 ≤ bn) (h2 : s.2.1 ≤ 24) (h : rest f b bn major n s = some s') : s.1 ≤ s'.1 ∧ s'.1 ≤ bn ∧ s.2.1 ≤ s'.2.1 ∧ s'.2.1 ≤ 24 := by
  unfold rest at h
  split at h
  · split at h
    · cases h
    · cases h
      exact ⟨Nat.le_add_right _ _, by show s.1 + n ≤ bn; omega, Nat.le_refl _, h2⟩
  · split at h
    · split at h
      · cases h
      · split at h
        · cases h
          exact ⟨Nat.le_add_right _ _, by show s.1 + n ≤ bn; omega, Nat.le_refl _, h2⟩
        · cases h
    · split at h
      · exact many_inc hf _ _ _ h1 h2 h
      · split at h
        · exact many_inc hf _ _ _ h1 h2 h
        · split at h
          · exact many_inc hf _ _ _ h1 h2 h
          · cases h
            exact ⟨Nat.le_refl _, h1, Nat.le_refl _, h2⟩
theorem itm_inc {b : Nat → Nat} {bn : Nat} (hb : ∀ i, i < bn → b i < 256) : ∀ f s s', s.1 ≤ bn → s.2.1 ≤ 24 → itm b bn f s = some s' → s.1 < s'.1 ∧ s'.1 ≤ bn ∧ s.2.1 < s'.2.1 ∧ s'.2.1 ≤ 24
  | 0, _, _, _, _, h => nomatch (show (none : Option ic) = some _ from h)
  | f + 1, s, s', h1, h2, h => by
    unfold itm at h
    split at h
    · cases h
    · split at h
      · cases h
      · split at h
        · cases h
        · split at h
          · cases h
          · rename_i x hx
            split at h
            · cases h
            · rename_i s1 hs
              cases h
              rename_i h3 h4 _ _
              have a := num_ok hb (by omega) hx
              have c := rest_inc (itm_inc hb f) a.2.2 (by show s.2.1 + 1 ≤ 24; omega) hs
              exact ⟨by have := c.1; have := a.2.1; show s.1 < s1.1; omega, c.2.1, by have : s.2.1 + 1 ≤ s1.2.1 := c.2.2.1; show s.2.1 < s1.2.1; omega, c.2.2.2⟩
-- the class
def iR (b : Nat → Nat) (bn : Nat) (S : ab_S) (s : ic) : Prop :=
  S.1 5 8 = n32 s.1 ∧ S.1 5 6 = n32 s.2.1 ∧ S.1 5 7 = n32 bn ∧ (∀ i, i < bn → S.1 6 i = n32 (b i)) ∧ (∀ k, k < 24 → S.1 7 k = n32 (s.2.2 0 k) ∧ S.2.1 8 k = n64 (s.2.2 1 k) ∧ S.1 9 k = n32 (s.2.2 2 k) ∧ S.1 10 k = n32 (s.2.2 3 k) ∧ S.1 11 k = n32 (s.2.2 4 k))
/-- all but the items' rows, place and count is as it was -/
def fI (S S' : ab_S) : Prop := S'.2.2 = S.2.2 ∧ (∀ r j, (r < 5 ∨ 11 < r) → S'.1 r j = S.1 r j) ∧ (∀ r j, (r < 5 ∨ 11 < r) → S'.2.1 r j = S.2.1 r j) ∧ (∀ j, S'.1 6 j = S.1 6 j) ∧ (∀ j, j ≠ 6 → j ≠ 8 → S'.1 5 j = S.1 5 j)
theorem fI_rf (S : ab_S) : fI S S := ⟨rfl, fun _ _ _ => rfl, fun _ _ _ => rfl, fun _ => rfl, fun _ _ _ => rfl⟩
theorem fI_tr {S S1 S2 : ab_S} (h : fI S S1) (g : fI S1 S2) : fI S S2 := ⟨g.1.trans h.1, fun r j x => (g.2.1 r j x).trans (h.2.1 r j x), fun r j x => (g.2.2.1 r j x).trans (h.2.2.1 r j x), fun j => (g.2.2.2.1 j).trans (h.2.2.2.1 j), fun j x y => (g.2.2.2.2 j x y).trans (h.2.2.2.2 j x y)⟩
theorem fI_wi {S S' : ab_S} (g : fI S S') {r k : Nat} (v : Int32) (h : (7 ≤ r ∧ r ≤ 11) ∨ (r = 5 ∧ (k = 6 ∨ k = 8))) : fI S (ab_wi S' r k v) := fI_tr g ⟨rfl, fun r' j x => by rw [wi_rd, if_neg (by omega)], fun _ _ _ => rfl, fun j => by rw [wi_rd, if_neg (by omega)], fun j x y => by rw [wi_rd, if_neg (by omega)]⟩
theorem fI_wl {S S' : ab_S} (g : fI S S') {r k : Nat} (v : Int64) (h : 7 ≤ r ∧ r ≤ 11) : fI S (ab_wl S' r k v) := fI_tr g ⟨rfl, fun _ _ _ => rfl, fun r' j x => by rw [wl_rd, if_neg (by omega)], fun _ => rfl, fun _ _ _ => rfl⟩
