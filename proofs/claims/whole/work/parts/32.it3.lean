-- Facts of items that were read.
def ch (g : Nat → Nat) : Nat → Nat → Nat → Prop
  | 0, c, e => c = e
  | n + 1, c, e => c < e ∧ c < g c ∧ g c ≤ e ∧ ch g n (g c) e
theorem ch_fr {g g' : Nat → Nat} {e : Nat} : ∀ n c, (∀ x, c ≤ x → x < e → g' x = g x) → ch g n c e → ch g' n c e
  | 0, _, _, k => k
  | n + 1, c, h, k => by
    obtain ⟨k1, k2, k3, k4⟩ := k
    have := ch_fr n _ (fun x hx => h x (by omega)) k4
    rw [← h c (Nat.le_refl _) k1] at this k2 k3
    exact ⟨k1, k2, k3, this⟩
def inn (major n : Nat) : Nat := if major = 4 then n else if major = 5 then 2 * n else if major = 6 then 1 else 0
def Fct (bn : Nat) (I : Nat → Nat → Nat) (k : Nat) : Prop :=
  I 0 k < 8 ∧ I 1 k < 4294967296 ∧ (I 0 k = 7 → 20 ≤ I 1 k ∧ I 1 k ≤ 22) ∧ (I 0 k = 2 ∨ I 0 k = 3 → I 3 k + I 1 k ≤ bn) ∧ k < I 4 k ∧ ch (I 4) (inn (I 0 k) (I 1 k)) (k + 1) (I 4 k) ∧ 1 ≤ I 2 k ∧ I 2 k ≤ 6
theorem Fct_fr {bn : Nat} {I I' : Nat → Nat → Nat} {k e : Nat} (h : ∀ j x, k ≤ x → x < e → I' j x = I j x) (g : I 4 k ≤ e) (f : Fct bn I k) : Fct bn I' k := by
  have hk : k < e := Nat.lt_of_lt_of_le f.2.2.2.2.1 g
  unfold Fct
  rw [h 0 k (Nat.le_refl _) hk, h 1 k (Nat.le_refl _) hk, h 3 k (Nat.le_refl _) hk, h 4 k (Nat.le_refl _) hk, h 2 k (Nat.le_refl _) hk]
  exact ⟨f.1, f.2.1, f.2.2.1, f.2.2.2.1, f.2.2.2.2.1, ch_fr _ _ (fun x hx1 hx => h 4 x (by omega) (Nat.lt_of_lt_of_le hx g)) f.2.2.2.2.2.1, f.2.2.2.2.2.2⟩
def Kf (bn : Nat) (s a : ic) : Prop := (∀ j k, k < s.2.1 → a.2.2 j k = s.2.2 j k) ∧ ∀ k, s.2.1 ≤ k → k < a.2.1 → Fct bn a.2.2 k ∧ a.2.2 4 k ≤ a.2.1
theorem Kf_rf (bn : Nat) (s : ic) {p : Nat} : Kf bn s (p, s.2) := ⟨fun _ _ _ => rfl, fun k h1 (h2 : k < s.2.1) => absurd h2 (by omega)⟩
theorem many_F {b : Nat → Nat} {bn f : Nat} (hb : ∀ i, i < bn → b i < 256) (F : ∀ s a, s.1 ≤ bn → s.2.1 ≤ 24 → itm b bn f s = some a → Kf bn s a ∧ a.2.2 4 s.2.1 = a.2.1) : ∀ n s a, s.1 ≤ bn → s.2.1 ≤ 24 → many (itm b bn f) n s = some a → Kf bn s a ∧ ch (a.2.2 4) n s.2.1 a.2.1
  | 0, s, a, _, _, h => by
    cases h
    exact ⟨Kf_rf bn s, rfl⟩
  | n + 1, s, a, h1, h2, h => by
    unfold many at h
    split at h
    · cases h
    · rename_i s1 hs
      have c := itm_inc hb f _ _ h1 h2 hs
      have k := F _ _ h1 h2 hs
      have m := many_F hb F n s1 a c.2.1 c.2.2.2 h
      have i := many_inc (bn := bn) (itm_inc hb f) n _ _ c.2.1 c.2.2.2 h
      have e : a.2.2 4 s.2.1 = s1.2.1 := by rw [m.1.1 4 s.2.1 c.2.2.1]; exact k.2
      refine ⟨⟨fun j x hx => ?_, fun x hx1 hx2 => ?_⟩, ?_⟩
      · rw [m.1.1 j x (by omega), k.1.1 j x hx]
      · by_cases g : x < s1.2.1
        · have t := k.1.2 x hx1 g
          have u := Fct_fr (fun j y _ hy => m.1.1 j y hy) t.2 t.1
          refine ⟨u, ?_⟩
          rw [m.1.1 4 x g]
          omega
        · exact m.1.2 x (by omega) hx2
      · refine ⟨by omega, by rw [e]; exact c.2.2.1, by rw [e]; omega, by rw [e]; exact m.2⟩
theorem put4_o (I : Nat → Nat → Nat) {c m n d p j k : Nat} (h : k ≠ c) : put4 I c m n d p j k = I j k := by
  unfold put4 uI
  rw [if_neg (fun x => h x.2), if_neg (fun x => h x.2), if_neg (fun x => h x.2), if_neg (fun x => h x.2)]
theorem put4_s (I : Nat → Nat → Nat) (c m n d p : Nat) : put4 I c m n d p 0 c = m ∧ put4 I c m n d p 1 c = n ∧ put4 I c m n d p 2 c = d ∧ put4 I c m n d p 3 c = p := by
  unfold put4 uI
  refine ⟨?_, ?_, ?_, ?_⟩ <;> simp
theorem rest_F {b : Nat → Nat} {bn f : Nat} (hb : ∀ i, i < bn → b i < 256) (F : ∀ s a, s.1 ≤ bn → s.2.1 ≤ 24 → itm b bn f s = some a → Kf bn s a ∧ a.2.2 4 s.2.1 = a.2.1) {major n : Nat} {s a : ic} (h1 : s.1 ≤ bn) (h2 : s.2.1 ≤ 24) (h : rest (itm b bn f) b bn major n s = some a) : Kf bn s a ∧ ch (a.2.2 4) (inn major n) s.2.1 a.2.1 ∧ (major = 2 ∨ major = 3 → s.1 + n ≤ bn) := by
  unfold rest at h
  unfold inn
  by_cases c2 : major = 2
  · subst c2
    rw [if_pos rfl] at h
    by_cases g : bn < s.1 + n
    · rw [if_pos g] at h
      cases h
    · rw [if_neg g] at h
      cases h
      exact ⟨Kf_rf bn s, rfl, fun _ => Nat.le_of_not_lt g⟩
  rw [if_neg c2] at h
  by_cases c3 : major = 3
  · subst c3
    rw [if_pos rfl] at h
    by_cases g : bn < s.1 + n
    · rw [if_pos g] at h
      cases h
    · rw [if_neg g] at h
      by_cases k : prs b s.1 n = true
      · rw [if_pos k] at h
        cases h
        exact ⟨Kf_rf bn s, rfl, fun _ => Nat.le_of_not_lt g⟩
      · rw [if_neg k] at h
        cases h
  rw [if_neg c3] at h
  have hn : major = 2 ∨ major = 3 → s.1 + n ≤ bn := by omega
  by_cases c4 : major = 4
  · rw [if_pos c4] at h
    rw [if_pos c4]
    have t := many_F hb F _ _ _ h1 h2 h
    exact ⟨t.1, t.2, hn⟩
  rw [if_neg c4] at h
  rw [if_neg c4]
  by_cases c5 : major = 5
  · rw [if_pos c5] at h
    rw [if_pos c5]
    have t := many_F hb F _ _ _ h1 h2 h
    exact ⟨t.1, t.2, hn⟩
  rw [if_neg c5] at h
  rw [if_neg c5]
  by_cases c6 : major = 6
  · rw [if_pos c6] at h
    rw [if_pos c6]
    have t := many_F hb F _ _ _ h1 h2 h
    exact ⟨t.1, t.2, hn⟩
  rw [if_neg c6] at h
  rw [if_neg c6]
  cases h
  exact ⟨Kf_rf bn s, rfl, hn⟩
theorem itm_F {b : Nat → Nat} {bn : Nat} (hb : ∀ i, i < bn → b i < 256) : ∀ f, f ≤ 6 → ∀ s a, s.1 ≤ bn → s.2.1 ≤ 24 → itm b bn f s = some a → Kf bn s a ∧ a.2.2 4 s.2.1 = a.2.1
  | 0, _, _, _, _, _, h => nomatch (show (none : Option ic) = some _ from h)
  | f + 1, hf, s, a, h1, h2, h => by
    unfold itm at h
    split at h
    · cases h
    rename_i g1
    split at h
    · cases h
    rename_i g2
    split at h
    · cases h
    rename_i g3
    split at h
    · cases h
    rename_i x hx
    split at h
    · cases h
    rename_i s1 hs
    cases h
    have hp := hb s.1 (by omega)
    have nk := num_ok hb (by omega) hx
    have r := rest_F hb (itm_F hb f (by omega)) nk.2.2 (by show s.2.1 + 1 ≤ 24; omega) hs
    have i := rest_inc (itm_inc hb f) nk.2.2 (by show s.2.1 + 1 ≤ 24; omega) hs
    have i3 : s.2.1 + 1 ≤ s1.2.1 := i.2.2.1
    have p4 := put4_s s.2.2 s.2.1 (b s.1 / 32) x.1 (6 - f) x.2
    have w (j : Nat) : s1.2.2 j s.2.1 = put4 s.2.2 s.2.1 (b s.1 / 32) x.1 (6 - f) x.2 j s.2.1 := r.1.1 j s.2.1 (Nat.lt_succ_self _)
    have u (j y : Nat) (hy : y ≠ s.2.1) : uI s1.2.2 4 s.2.1 s1.2.1 j y = s1.2.2 j y := if_neg (fun x => hy x.2)
    have u4 : uI s1.2.2 4 s.2.1 s1.2.1 4 s.2.1 = s1.2.1 := if_pos ⟨rfl, rfl⟩
    have uo (j : Nat) (hj : j ≠ 4) : uI s1.2.2 4 s.2.1 s1.2.1 j s.2.1 = put4 s.2.2 s.2.1 (b s.1 / 32) x.1 (6 - f) x.2 j s.2.1 := by rw [uI_o _ hj, w]
    refine ⟨⟨fun j k hk => ?_, fun k hk1 hk2 => ?_⟩, u4⟩
    · show uI s1.2.2 4 s.2.1 s1.2.1 j k = s.2.2 j k
      rw [u j k (by omega), r.1.1 j k (show k < s.2.1 + 1 by omega)]
      exact put4_o _ (by omega)
    · show Fct bn (uI s1.2.2 4 s.2.1 s1.2.1) k ∧ uI s1.2.2 4 s.2.1 s1.2.1 4 k ≤ s1.2.1
      have hk2 : k < s1.2.1 := hk2
      by_cases e : k = s.2.1
      · subst e
        rw [u4]
        refine ⟨?_, Nat.le_refl _⟩
        unfold Fct
        rw [u4, uo 0 (by omega), uo 1 (by omega), uo 3 (by omega), uo 2 (by omega), p4.1, p4.2.1, p4.2.2.1, p4.2.2.2]
        refine ⟨by omega, nk.1, fun h7 => ?_, r.2.2, hk2, ?_, by omega, by omega⟩
        · have : x.1 = b s.1 % 32 := by
            unfold num at hx
            rw [if_pos (by omega)] at hx
            cases hx
            rfl
          omega
        · exact ch_fr _ _ (fun y hy1 hy => u 4 y (by omega)) r.2.1
      · have t := r.1.2 k (show s.2.1 + 1 ≤ k by omega) hk2
        rw [u 4 k e]
        exact ⟨Fct_fr (fun j y hy _ => u j y (by omega)) t.2 t.1, t.2⟩
