-- Sets of rules and what they lead to.
def sb (a b : Nat) : Prop := ∀ i, a.testBit i = true → b.testBit i = true
def clo (L : Nat → Nat) (t : Nat) : Prop := ∀ i, i < 8 → t.testBit i = true → sb (L i) t
def lst (L : Nat → Nat) (s t : Nat) : Prop := sb s t ∧ clo L t ∧ ∀ u, sb s u → clo L u → sb t u
theorem sb_rf (a : Nat) : sb a a := fun _ h => h
theorem sb_tr {a b c : Nat} (h : sb a b) (g : sb b c) : sb a c := fun i x => g i (h i x)
theorem sb_as {a b : Nat} (h : sb a b) (g : sb b a) : a = b := Nat.eq_of_testBit_eq fun i => by
  cases x : a.testBit i with
  | true => rw [h i x]
  | false =>
    cases y : b.testBit i with
    | true => rw [g i y] at x; cases x
    | false => rfl
theorem sb_l (a b : Nat) : sb a (a ||| b) := fun i h => by rw [Nat.testBit_or, h, Bool.true_or]
theorem sb_r (a b : Nat) : sb b (a ||| b) := fun i h => by rw [Nat.testBit_or, h, Bool.or_true]
theorem sb_o {a b c : Nat} (h : sb a c) (g : sb b c) : sb (a ||| b) c := fun i x => by
  rw [Nat.testBit_or, Bool.or_eq_true] at x
  exact x.elim (h i) (g i)
theorem sb_0 (a : Nat) : sb 0 a := fun i h => by rw [Nat.zero_testBit] at h; cases h
theorem sb_p {r a : Nat} : sb (2 ^ r) a ↔ a.testBit r = true := ⟨fun h => h r Nat.testBit_two_pow_self, fun h i x => by
  rw [Nat.testBit_two_pow, decide_eq_true_iff] at x
  rw [← x]; exact h⟩
theorem lst_un {L : Nat → Nat} {s t t' : Nat} (h : lst L s t) (g : lst L s t') : t = t' := sb_as (h.2.2 t' g.1 g.2.1) (g.2.2 t h.1 h.2.1)
theorem or_256 {a b : Nat} (h : a < 256) (g : b < 256) : a ||| b < 256 := Nat.or_lt_two_pow (n := 8) h g
def cd (t : Nat) : Nat := (t.testBit 0).toNat + (t.testBit 1).toNat + (t.testBit 2).toNat + (t.testBit 3).toNat + (t.testBit 4).toNat + (t.testBit 5).toNat + (t.testBit 6).toNat + (t.testBit 7).toNat
theorem bo_le (x : Bool) : x.toNat ≤ 1 := by cases x <;> decide
theorem cd_le (t : Nat) : cd t ≤ 8 := by
  unfold cd
  have := bo_le (t.testBit 0); have := bo_le (t.testBit 1); have := bo_le (t.testBit 2); have := bo_le (t.testBit 3)
  have := bo_le (t.testBit 4); have := bo_le (t.testBit 5); have := bo_le (t.testBit 6); have := bo_le (t.testBit 7)
  omega
theorem bo_mo {x y : Bool} (h : x = true → y = true) : x.toNat ≤ y.toNat := by cases x <;> cases y <;> simp_all
theorem bo_inj {x y : Bool} (h : x.toNat = y.toNat) : x = y := by cases x <;> cases y <;> simp_all
theorem cd_lt {a b : Nat} (ha : a < 256) (hb : b < 256) (h : sb a b) (n : a ≠ b) : cd a < cd b := by
  apply Nat.lt_of_not_le
  intro g
  unfold cd at g
  have h0 := bo_mo (h 0); have h1 := bo_mo (h 1); have h2 := bo_mo (h 2); have h3 := bo_mo (h 3)
  have h4 := bo_mo (h 4); have h5 := bo_mo (h 5); have h6 := bo_mo (h 6); have h7 := bo_mo (h 7)
  apply n
  apply Nat.eq_of_testBit_eq
  intro i
  by_cases l : i < 8
  · match i, l with
    | 0, _ => exact bo_inj (by omega)
    | 1, _ => exact bo_inj (by omega)
    | 2, _ => exact bo_inj (by omega)
    | 3, _ => exact bo_inj (by omega)
    | 4, _ => exact bo_inj (by omega)
    | 5, _ => exact bo_inj (by omega)
    | 6, _ => exact bo_inj (by omega)
    | 7, _ => exact bo_inj (by omega)
  · have e : 2 ^ 8 ≤ 2 ^ i := Nat.pow_le_pow_right (by decide) (by omega)
    rw [Nat.testBit_lt_two_pow (by omega), Nat.testBit_lt_two_pow (by omega)]
theorem cd_1 {a : Nat} (ha : a < 256) (n : a ≠ 0) : 1 ≤ cd a := by
  have := cd_lt (a := 0) (by decide) ha (sb_0 a) (fun e => n e.symm)
  omega
-- once
def onc (L : Nat → Nat) (s : Nat) : Nat → Nat → Nat → Nat
  | 0, _, a => a
  | m + 1, i, a => onc L s m (i + 1) (if s.testBit i = true then a ||| L i else a)
theorem onc_lt {L : Nat → Nat} (hL : ∀ i, i < 8 → L i < 256) (s : Nat) : ∀ m i a, i + m = 8 → a < 256 → onc L s m i a < 256
  | 0, _, _, _, h => h
  | m + 1, i, a, e, h => by
    unfold onc
    apply onc_lt hL s m (i + 1) _ (by omega)
    split
    · exact or_256 h (hL i (by omega))
    · exact h
theorem onc_sb {L : Nat → Nat} (s : Nat) : ∀ m i a, sb a (onc L s m i a) ∧ (∀ j, i ≤ j → j < i + m → s.testBit j = true → sb (L j) (onc L s m i a)) ∧ ∀ u, sb a u → (∀ j, i ≤ j → j < i + m → s.testBit j = true → sb (L j) u) → sb (onc L s m i a) u
  | 0, i, a => ⟨sb_rf a, fun j h1 h2 => absurd h2 (by omega), fun u h _ => h⟩
  | m + 1, i, a => by
    unfold onc
    by_cases g : s.testBit i = true
    · rw [if_pos g]
      have k := onc_sb (L := L) s m (i + 1) (a ||| L i)
      refine ⟨sb_tr (sb_l _ _) k.1, fun j h1 h2 h3 => ?_, fun u h1 h2 => k.2.2 u (sb_o h1 (h2 i (by omega) (by omega) g)) (fun j a b => h2 j (by omega) (by omega))⟩
      by_cases e : j = i
      · rw [e]; exact sb_tr (sb_r _ _) k.1
      · exact k.2.1 j (by omega) (by omega) h3
    · rw [if_neg g]
      have k := onc_sb (L := L) s m (i + 1) a
      refine ⟨k.1, fun j h1 h2 h3 => ?_, fun u h1 h2 => k.2.2 u h1 (fun j a b => h2 j (by omega) (by omega))⟩
      by_cases e : j = i
      · rw [e] at h3; exact absurd h3 g
      · exact k.2.1 j (by omega) (by omega) h3
def led (L : Nat → Nat) : Nat → Nat → Nat → Nat
  | 0, f, _ => f
  | m + 1, f, b => if f = b then f else led L m (f ||| onc L f 8 0 0) f
theorem led_lt {L : Nat → Nat} (hL : ∀ i, i < 8 → L i < 256) : ∀ m f b, f < 256 → led L m f b < 256
  | 0, _, _, h => h
  | m + 1, f, b, h => by
    unfold led
    split
    · exact h
    · exact led_lt hL m _ _ (or_256 h (onc_lt hL f 8 0 0 rfl (by decide)))
theorem led_l {L : Nat → Nat} (hL : ∀ i, i < 8 → L i < 256) (s : Nat) : ∀ m f b, f < 256 → sb s f → (∀ u, sb s u → clo L u → sb f u) → (f = b → clo L f) → (f ≠ b → 9 ≤ cd f + m) → lst L s (led L m f b)
  | 0, f, b, h1, h2, h3, h4, h5 => by
    by_cases e : f = b
    · exact ⟨h2, h4 e, h3⟩
    · have := h5 e
      have := cd_le f
      omega
  | m + 1, f, b, h1, h2, h3, h4, h5 => by
    unfold led
    by_cases e : f = b
    · rw [if_pos e]
      exact ⟨h2, h4 e, h3⟩
    · rw [if_neg e]
      have k := onc_sb (L := L) f 8 0 0
      have l := or_256 h1 (onc_lt hL f 8 0 0 rfl (by decide))
      apply led_l hL s m _ _ l (sb_tr h2 (sb_l _ _))
      · intro u a b
        exact sb_o (h3 u a b) (k.2.2 u (sb_0 u) (fun j _ hj x => b j (by omega) (h3 u a b j x)))
      · intro x i hi hx
        rw [x] at hx ⊢
        have : sb (onc L f 8 0 0) f := by
          have := sb_r f (onc L f 8 0 0)
          rw [x] at this
          exact this
        exact sb_tr (k.2.1 i (by omega) (by omega) hx) this
      · intro x
        have := cd_lt h1 l (sb_l _ _) (fun y => x y.symm)
        have := h5 e
        omega
theorem led_lst {L : Nat → Nat} (hL : ∀ i, i < 8 → L i < 256) {f : Nat} (h : f < 256) : lst L f (led L 8 f 0) := led_l hL f 8 f 0 h (sb_rf f) (fun u a _ => a) (fun e => by rw [e]; intro i _ x; rw [Nat.zero_testBit] at x; cases x) (fun e => by have := cd_1 h e; omega)
-- the reference's passes
def pas (L : Nat → Nat) : Nat → Nat → Nat → Nat
  | 0, _, a => a
  | m + 1, r, a => pas L m (r + 1) (if a.testBit r = true then a ||| L r else a)
theorem pas_lt {L : Nat → Nat} (hL : ∀ i, i < 8 → L i < 256) : ∀ m i a, i + m = 8 → a < 256 → pas L m i a < 256
  | 0, _, _, _, h => h
  | m + 1, i, a, e, h => by
    unfold pas
    apply pas_lt hL m (i + 1) _ (by omega)
    split
    · exact or_256 h (hL i (by omega))
    · exact h
theorem pas_sb {L : Nat → Nat} : ∀ m i a, i + m = 8 → sb a (pas L m i a) ∧ (∀ j, i ≤ j → j < i + m → a.testBit j = true → sb (L j) (pas L m i a)) ∧ ∀ u, sb a u → clo L u → sb (pas L m i a) u
  | 0, i, a, _ => ⟨sb_rf a, fun j h1 h2 => absurd h2 (by omega), fun u h _ => h⟩
  | m + 1, i, a, e => by
    unfold pas
    by_cases g : a.testBit i = true
    · rw [if_pos g]
      have k := pas_sb (L := L) m (i + 1) (a ||| L i) (by omega)
      refine ⟨sb_tr (sb_l _ _) k.1, fun j h1 h2 h3 => ?_, fun u h1 h2 => k.2.2 u (sb_o h1 (h2 i (by omega) (h1 i g))) h2⟩
      by_cases e : j = i
      · rw [e]; exact sb_tr (sb_r _ _) k.1
      · exact k.2.1 j (by omega) (by omega) (sb_l _ _ j h3)
    · rw [if_neg g]
      have k := pas_sb (L := L) m (i + 1) a (by omega)
      refine ⟨k.1, fun j h1 h2 h3 => ?_, k.2.2⟩
      by_cases e : j = i
      · rw [e] at h3; exact absurd h3 g
      · exact k.2.1 j (by omega) (by omega) h3
def trn (L : Nat → Nat) : Nat → Nat → Nat
  | 0, a => a
  | k + 1, a => trn L k (pas L 8 0 a)
theorem trn_lt {L : Nat → Nat} (hL : ∀ i, i < 8 → L i < 256) : ∀ k a, a < 256 → trn L k a < 256
  | 0, _, h => h
  | k + 1, a, h => trn_lt hL k _ (pas_lt hL 8 0 a rfl h)
theorem trn_l {L : Nat → Nat} (hL : ∀ i, i < 8 → L i < 256) (s : Nat) : ∀ k a, a < 256 → sb s a → (∀ u, sb s u → clo L u → sb a u) → (clo L a ∨ 9 ≤ cd a + k) → lst L s (trn L k a)
  | 0, a, h1, h2, h3, h4 => by
    have := cd_le a
    exact ⟨h2, h4.elim id (fun x => absurd x (by omega)), h3⟩
  | k + 1, a, h1, h2, h3, h4 => by
    unfold trn
    have p := pas_sb (L := L) 8 0 a rfl
    have l := pas_lt hL 8 0 a rfl h1
    apply trn_l hL s k _ l (sb_tr h2 p.1) (fun u x y => p.2.2 u (h3 u x y) y)
    by_cases e : pas L 8 0 a = a
    · left
      intro i hi hx
      rw [e] at hx
      exact p.2.1 i (by omega) (by omega) hx
    · rcases h4 with h4 | h4
      · exact absurd (sb_as (p.2.2 a (sb_rf a) h4) p.1) e
      · right
        have := cd_lt h1 l p.1 (fun y => e y.symm)
        omega
/-- all that a set of rules leads to, and itself -/
def cl (L : Nat → Nat) (s : Nat) : Nat := trn L 8 s
theorem cl_lt {L : Nat → Nat} (hL : ∀ i, i < 8 → L i < 256) {s : Nat} (h : s < 256) : cl L s < 256 := trn_lt hL 8 s h
theorem cl_lst {L : Nat → Nat} (hL : ∀ i, i < 8 → L i < 256) {s : Nat} (h : s < 256) : lst L s (cl L s) := by
  apply trn_l hL s 8 s h (sb_rf s) (fun u a _ => a)
  by_cases e : s = 0
  · left
    rw [e]
    intro i _ x
    rw [Nat.zero_testBit] at x
    cases x
  · right
    have := cd_1 h e
    omega
theorem led_cl {L : Nat → Nat} (hL : ∀ i, i < 8 → L i < 256) {f : Nat} (h : f < 256) : led L 8 f 0 = cl L f := lst_un (led_lst hL h) (cl_lst hL h)
theorem cl_p {L : Nat → Nat} (hL : ∀ i, i < 8 → L i < 256) {r : Nat} (h : r < 8) : cl L (2 ^ r) = 2 ^ r ||| cl L (L r) := by
  have p : 2 ^ r < 256 := Nat.pow_lt_pow_right (by decide) (show r < 8 from h)
  have a := cl_lst hL p
  have c := cl_lst hL (hL r h)
  apply lst_un a
  refine ⟨sb_l _ _, fun i hi x => ?_, fun u h1 h2 => sb_o h1 (c.2.2 u (h2 r h (sb_p.mp h1)) h2)⟩
  rw [Nat.testBit_or, Bool.or_eq_true] at x
  rcases x with x | x
  · rw [Nat.testBit_two_pow, decide_eq_true_iff] at x
    rw [← x]
    exact sb_tr c.1 (sb_r _ _)
  · exact sb_tr (c.2.1 i hi x) (sb_r _ _)
def anyF (P : Nat → Bool) : Nat → Nat → Bool
  | 0, _ => false
  | m + 1, i => P i || anyF P m (i + 1)
