-- The start, and the law.
theorem R13 : ∀ i, i < 8 → lw_R 13 i = 14 + 11 * i := by decide +kernel
theorem R102 : lw_R 102 0 = 103 := by decide +kernel
theorem Rfin : (ab_finl.all fun e => Nat.beq (lw_R e.1 e.2.1) e.2.2) = true := by decide +kernel
theorem J_s {q : Nat} {xs : Nat → Int32} {S : ab_S} (mi : ∀ r j, r ≠ 1 → S.1 r j = n32 0) (h1 : ∀ j, S.1 1 j = xs j) (hl : ∀ j, S.2.1 2 j = ab_wo j) (hR : S.2.2.1 = lw_R) (hf : S.2.2.2.1 = 148) (hc : S.2.2.2.2.1 ≤ 1000) (hz : S.2.2.2.2.2 ≤ 100000) : J q xs 0 S := by
  have sh (i : Nat) (hi : i < 8) : isSh (14 + 11 * i) := by
    rcases (by omega : i = 0 ∨ i = 1 ∨ i = 2 ∨ i = 3 ∨ i = 4 ∨ i = 5 ∨ i = 6 ∨ i = 7) with h | h | h | h | h | h | h | h <;> subst h <;> simp [isSh]
  have e (i : Nat) (hi : i < 8) : S.2.2.1 13 i = 14 + 11 * i := by rw [hR, R13 i hi]
  have e2 : S.2.2.1 102 0 = 103 := by rw [hR, R102]
  refine ⟨⟨fun _ => 0, 0, fun _ => 0, 0, fun _ => false, fun _ => 0, fun _ => 0, fun _ => [], ?_, ?_, ?_, ?_, h1⟩, hc, hz⟩
  · exact ⟨⟨by omega, fun i hi => absurd hi (Nat.not_lt_zero _)⟩, by omega, fun i hi => absurd hi (Nat.not_lt_zero _), fun i _ => show 0 < 256 by omega, fun i _ => show 0 < 256 by omega⟩
  · refine ⟨⟨mi 3 1 (by omega), fun i hi => absurd hi (Nat.not_lt_zero _)⟩, ⟨mi 5 7 (by omega), fun i hi => absurd hi (Nat.not_lt_zero _), Or.inl (mi 5 9 (by omega))⟩, ⟨fun i hi => ?_, fun i hi => ?_, ?_, fun i hi => ?_, fun i j hi hj hij => ?_⟩, fun j _ => hl j⟩
    · rw [e i hi]
      exact ⟨sh i hi, mi _ 10 (by omega), mi _ 13 (by omega), mi _ 14 (by omega)⟩
    · rw [e i hi]
      exact ⟨sh i hi, nofun, fun _ => Or.inr ⟨mi _ 12 (by omega), mi (14 + 11 * i + 2) 0 (by omega), mi (14 + 11 * i + 3) 0 (by omega)⟩⟩
    · rw [e2]
      simp [isSh]
    · rw [e2, e i hi]
      omega
    · rw [e i hi, e j hj]
      omega
  · exact ⟨⟨mi 117 2 (by omega), fun i hi => absurd hi (Nat.not_lt_zero _)⟩, ⟨mi 117 4 (by omega), fun i hi => absurd hi (Nat.not_lt_zero _)⟩, fun i hi => ⟨mi 120 i (by omega), nofun, fun _ => ⟨rfl, rfl⟩⟩, fun r hr h => by cases h⟩
  · unfold ab_inv
    rw [Bool.and_eq_true, hf, hR]
    exact ⟨rfl, Rfin⟩
theorem J_0 (q : Nat) (xs : Nat → Int32) {c z : Nat} (hc : c ≤ 1000) (hz : z ≤ 100000) : J q xs 0 ((fun r j => if r = 1 then xs j else 0), (fun r j => if r = 2 then ab_wo j else 0), lw_R, 148, c, z) := J_s (fun r j h => show (if r = 1 then xs j else 0) = n32 0 from if_neg h) (fun j => show (if 1 = 1 then xs j else 0) = xs j from if_pos rfl) (fun j => show (if 2 = 2 then ab_wo j else 0) = ab_wo j from if_pos rfl) rfl rfl hc hz
theorem ab_law : ab_Law := by
  intro q xs hq
  have pre := lw_pre q 596 (fun r j => if r = 1 then xs j else 0) (fun r j => if r = 2 then ab_wo j else 0) (fun _ _ => 0) 0 0
  obtain ⟨c, z, hc, hz, pre'⟩ : ∃ c z, c ≤ 1000 ∧ z ≤ 100000 ∧ vl q 600 133 0 [some (.inr (.inr 1)), none, none, none, none, none, none, none] [] (ab_S0 xs) = v_133_23 q 600 (n32 0) ((fun r j => if r = 1 then xs j else 0), (fun r j => if r = 2 then ab_wo j else 0), lw_R, 148, c, z) := ⟨_, _, by decide, by decide, pre⟩
  obtain ⟨S', a1, a2⟩ := lp_p q 399 hq 512 0 0 _ (J_0 q xs hc hz) (by omega) (by omega)
  have r := pre'.trans a1
  obtain ⟨n, hn⟩ := vl_pu r
  refine ⟨n, S', ?_, ?_, ?_⟩
  · exact hn
  · have := a2.2.1
    omega
  · have := a2.2.2
    omega
