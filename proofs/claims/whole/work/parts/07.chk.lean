-- The code tables are the code.
def ab_isw (i : Instr) : Bool := match i with
  | .tableswitch _ _ _ _ => true
  | .lookupswitch _ _ => true
  | _ => false
def ab_iv1 (i : Instr) : Bool := match i with
  | .invokevirtual _ => true
  | .invokestatic _ => true
  | .invokespecial _ => true
  | _ => false
def ab_tok (pc : Nat) (i : Instr) : Bool := match i with
  | .goto o => decide (0 ≤ (pc : Int) + o)
  | .ifCond _ o => decide (0 ≤ (pc : Int) + o)
  | .if_icmp _ o => decide (0 ≤ (pc : Int) + o)
  | .tableswitch df lo hi offs => decide (0 ≤ (pc : Int) + df) && (offs.toList.all (fun o => decide (0 ≤ (pc : Int) + o)) && (decide ((offs.size : Int) = hi - lo + 1) && (decide (-2147483648 ≤ lo) && decide (hi ≤ 2147483647))))
  | .lookupswitch df ps => decide (0 ≤ (pc : Int) + df) && (ps.toList.all (fun o => decide (0 ≤ (pc : Int) + o.2) && (decide (-2147483648 ≤ o.1) && decide (o.1 ≤ 2147483647))) && (ps.toList.zip (ps.toList.drop 1)).all (fun (a, next) => a.1 < next.1))
  | _ => true
/-- where an exception is made and thrown: method, place, which, and the pool's entries: class, text, constructor -/
def ab_thl : List (Nat × Nat × Nat × Nat × Nat × Nat) := [(15, 27, 1, 123, 125, 127), (16, 10, 2, 130, 132, 134), (17, 10, 1, 123, 139, 127), (18, 19, 2, 130, 141, 134), (19, 29, 3, 150, 152, 154), (19, 50, 4, 158, 160, 162), (39, 4, 1, 61, 63, 65)]
def ab_cov (k pc : Nat) : Bool := (ab_ht k).all fun h => Nat.ble h.1 pc && Nat.blt pc h.2.1
def ab_rsv (k pc : Nat) (i : Instr) (f : Nat × Nat × Nat) : Bool := match i with
  | .getfield j => ab_fll.contains (ab_own k, j, f)
  | .putfield j => ab_fll.contains (ab_own k, j, f)
  | .getstatic j => ab_stl.contains (ab_own k, j)
  | .new j => ab_cll.contains (ab_own k, j, f) && (!(Nat.beq f.1 1) || ab_thl.any fun y => Nat.beq y.1 k && (Nat.beq y.2.1 pc && (Nat.beq y.2.2.1 f.2.1 && Nat.beq y.2.2.2.1 j)))
  | .anewarray j => ab_cll.contains (ab_own k, j, f)
  | .invokevirtual j => (Nat.beq f.1 7 || ab_mtl.contains (ab_own k, j, f)) && ab_cov k pc
  | .invokestatic j => (Nat.beq f.1 7 || ab_mtl.contains (ab_own k, j, f)) && ab_cov k pc
  | .invokespecial j => (Nat.beq f.1 7 || ab_mtl.contains (ab_own k, j, f)) && ab_cov k pc
  | .ldc2_w j => ab_csk.contains (ab_own k, j)
  | .ldc_w j => ab_cik.contains (ab_own k, j)
  | _ => true
def ab_chk (k pc : Nat) (i : Instr) (f : Nat × Nat × Nat) : Bool := (match decode (ab_by k) pc with
  | .ok (j, len) => decide (j = i) && (ab_isw i || Nat.beq len (ab_ln i))
  | .error _ => false) && (ab_tok pc i && ab_rsv k pc i f)
theorem ab_chkE {k pc : Nat} {i : Instr} {f : Nat × Nat × Nat} (h : ab_chk k pc i f = true) : ∃ len, decode (ab_by k) pc = .ok (i, len) ∧ (len = ab_ln i ∨ ab_isw i = true) ∧ ab_tok pc i = true ∧ ab_rsv k pc i f = true := by
  simp only [ab_chk, Bool.and_eq_true] at h
  obtain ⟨h1, h2, h3⟩ := h
  split at h1
  · rename_i j len hd
    simp only [Bool.and_eq_true, decide_eq_true_eq, Bool.or_eq_true] at h1
    obtain ⟨rfl, h4⟩ := h1
    refine ⟨len, hd, ?_, h2, h3⟩
    rcases h4 with h4 | h4
    · exact Or.inr h4
    · exact Or.inl (Nat.eq_of_beq_eq_true h4)
  · cases h1
