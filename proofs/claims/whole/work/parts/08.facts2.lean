-- What a checked instruction says of its pool's entry.
theorem ab_rvF {k pc i : Nat} {f : Nat × Nat × Nat} (h : ab_fll.contains (ab_own k, i, f) = true) : (ab_own k, i, f) ∈ ab_fll := by simpa using h
theorem ab_rvC {k i : Nat} {f : Nat × Nat × Nat} (h : ab_cll.contains (ab_own k, i, f) = true) : (ab_own k, i, f) ∈ ab_cll := by simpa using h
theorem ab_rvM {k pc i : Nat} {f : Nat × Nat × Nat} (h : ((Nat.beq f.1 7 || ab_mtl.contains (ab_own k, i, f)) && ab_cov k pc) = true) (hf : f.1 ≠ 7) : (ab_own k, i, f) ∈ ab_mtl := by
  simp only [Bool.and_eq_true, Bool.or_eq_true] at h
  rcases h.1 with q | q
  · exact absurd (Nat.eq_of_beq_eq_true q) hf
  · simpa using q
theorem ab_cst_ok {k i : Nat} {v : Int64} (h : ab_cst (ab_own k) i = some v) (hc : ab_csk.contains (ab_own k, i) = true) : Jvm.Cond.constantLong (ab_cn (ab_own k)) i v ∈ lw_tbl := by
  have := ab_cskW (ab_own k, i) (by simpa using hc)
  unfold ab_csw at this
  rw [h] at this
  exact this
theorem ab_csi_ok {k i : Nat} {v : Int32} (h : ab_csi (ab_own k) i = some v) (hc : ab_cik.contains (ab_own k, i) = true) : Jvm.Cond.constant (ab_cn (ab_own k)) i v ∈ lw_tbl := by
  have := ab_cikW (ab_own k, i) (by simpa using hc)
  unfold ab_ciw at this
  rw [h] at this
  exact this
theorem ab_ctE {a b : Bool} (hh : (a && b) = true) : a = true ∧ b = true := by simpa using hh
theorem ab_tgE {pc : Nat} {o : Int} (h : decide (0 ≤ (pc : Int) + o) = true) : (pc : Int) + o = (ab_tg pc o : Int) := by
  have := of_decide_eq_true h
  unfold ab_tg
  omega
