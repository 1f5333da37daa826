-- Numbers of 32 and 64 bits as natural numbers; states read behind writes; calls that end.
theorem n32_add (a b : Nat) : n32 a + n32 b = n32 (a + b) := (Int32.ofNat_add a b).symm
theorem n32_mul (a b : Nat) : n32 a * n32 b = n32 (a * b) := (Int32.ofNat_mul a b).symm
theorem n32_sub {a b : Nat} (h : b ≤ a) : n32 a - n32 b = n32 (a - b) := (Int32.ofNat_sub a b h).symm
theorem n32_lt {a b : Nat} (ha : a < 2147483648) (hb : b < 2147483648) : (n32 a < n32 b) = (a < b) := propext (Int32.ofNat_lt_iff_lt ha hb)
theorem n32_int {a : Nat} (ha : a < 2147483648) : (n32 a).toInt = a := Int32.toInt_ofNat_of_lt ha
theorem n32_nat (a : Nat) : (n32 a).toBitVec.toNat = a % 2 ^ 32 := BitVec.toNat_ofNat a 32
theorem n32_of {x : Int32} {n : Nat} (h : x.toBitVec.toNat = n % 2 ^ 32) : x = n32 n := by
  apply Int32.toBitVec.inj
  apply BitVec.eq_of_toNat_eq
  rw [n32_nat, ← h]
theorem n32_eq {a b : Nat} (ha : a < 4294967296) (hb : b < 4294967296) : (n32 a = n32 b) = (a = b) := propext ⟨fun h => by
    have := congrArg (fun x => x.toBitVec.toNat) h
    simp only [n32_nat] at this
    omega, fun h => by rw [h]⟩
theorem n32_cl {a : Nat} (ha : a < 2147483648) : Int32.toNatClampNeg (n32 a) = a := Int32.toNatClampNeg_ofNat_of_lt ha
theorem n32_in {a n : Nat} (ha : a < 2147483648) (h : a < n) : ab_in (n32 a) n = true := by
  unfold ab_in
  have h0 : ¬ n32 a < 0 := by
    rw [show (0 : Int32) = n32 0 from rfl, n32_lt ha (by omega)]
    omega
  rw [n32_cl ha]
  simp [h0, h]
theorem n32_up (a : Nat) : n32 (a + 4294967296) = n32 a := by
  apply n32_of
  rw [n32_nat]
  omega
theorem n32_m1 : i32 (-1) = n32 4294967295 := by decide
theorem n32_dec (a : Nat) : n32 (a + 1) + i32 (-1) = n32 a := by
  rw [n32_m1, n32_add, show a + 1 + 4294967295 = a + 4294967296 by omega]
  exact n32_up a
theorem n32_and (a b : Nat) : n32 a &&& n32 b = n32 (a &&& b) := by
  apply n32_of
  show ((n32 a).toBitVec &&& (n32 b).toBitVec).toNat = _
  rw [BitVec.toNat_and, n32_nat, n32_nat, Nat.and_mod_two_pow]
theorem n32_or (a b : Nat) : n32 a ||| n32 b = n32 (a ||| b) := by
  apply n32_of
  show ((n32 a).toBitVec ||| (n32 b).toBitVec).toNat = _
  rw [BitVec.toNat_or, n32_nat, n32_nat, Nat.or_mod_two_pow]
theorem n32_sy : ∀ k, k < 32 → (n32 k &&& 31).toBitVec.smod 32 = BitVec.ofNat 32 k := by decide +kernel
theorem n32_shl (a : Nat) {k : Nat} (hk : k < 32) : n32 a <<< (n32 k &&& 31) = n32 (a * 2 ^ k) := by
  apply n32_of
  show ((n32 a).toBitVec <<< ((n32 k &&& 31).toBitVec.smod 32)).toNat = _
  rw [n32_sy k hk, BitVec.shiftLeft_eq', BitVec.toNat_shiftLeft, n32_nat, BitVec.toNat_ofNat, Nat.mod_eq_of_lt (by omega : k < 2 ^ 32), Nat.shiftLeft_eq, Nat.mod_mul_mod]
theorem n32_shr {a k : Nat} (ha : a < 2147483648) (hk : k < 32) : n32 a >>> (n32 k &&& 31) = n32 (a >>> k) := by
  apply n32_of
  show ((n32 a).toBitVec.sshiftRight' ((n32 k &&& 31).toBitVec.smod 32)).toNat = _
  have hm : (n32 a).toBitVec.msb = false := by
    rw [BitVec.msb_eq_decide, n32_nat]
    simp
    omega
  rw [n32_sy k hk, BitVec.toNat_sshiftRight'_of_msb_false hm, n32_nat, BitVec.toNat_ofNat, Nat.mod_eq_of_lt (by omega : k < 2 ^ 32), Nat.mod_eq_of_lt (by omega : a < 2 ^ 32), Nat.mod_eq_of_lt]
  exact Nat.lt_of_le_of_lt (by rw [Nat.shiftRight_eq_div_pow]; exact Nat.div_le_self _ _) (by omega : a < 2 ^ 32)
theorem n32_z : (0 : Int32) = n32 0 := rfl
theorem n32_nz (a : Nat) : ab_nz (n32 a) = n32 (a % 2) := by
  show n32 a &&& n32 1 = _
  rw [n32_and, Nat.and_one_is_mod]
theorem n32_nc {a : Nat} (h : a < 65536) : ab_nc (n32 a) = n32 a := by
  apply n32_of
  show (((n32 a).toBitVec.setWidth 16).setWidth 32).toNat = _
  rw [BitVec.toNat_setWidth, BitVec.toNat_setWidth, n32_nat]
  omega
theorem n32_i2c {a : Nat} (h : a < 65536) : (Int32.toUInt32 (n32 a) % 65536).toInt32 = n32 a := by
  apply n32_of
  show ((n32 a).toBitVec % (65536 : BitVec 32)).toNat = _
  rw [BitVec.toNat_umod, n32_nat]
  show a % 2 ^ 32 % 65536 = _
  omega
theorem n64_nat (a : Nat) : (n64 a).toBitVec.toNat = a % 2 ^ 64 := BitVec.toNat_ofNat a 64
theorem n64_of {x : Int64} {n : Nat} (h : x.toBitVec.toNat = n % 2 ^ 64) : x = n64 n := by
  apply Int64.toBitVec.inj
  apply BitVec.eq_of_toNat_eq
  rw [n64_nat, ← h]
theorem n64_add (a b : Nat) : n64 a + n64 b = n64 (a + b) := (Int64.ofNat_add a b).symm
theorem n64_mul (a b : Nat) : n64 a * n64 b = n64 (a * b) := (Int64.ofNat_mul a b).symm
theorem n64_sub {a b : Nat} (h : b ≤ a) : n64 a - n64 b = n64 (a - b) := (Int64.ofNat_sub a b h).symm
theorem n64_lt {a b : Nat} (ha : a < 9223372036854775808) (hb : b < 9223372036854775808) : (n64 a < n64 b) = (a < b) := propext (Int64.ofNat_lt_iff_lt ha hb)
theorem n64_int {a : Nat} (ha : a < 9223372036854775808) : (n64 a).toInt = a := Int64.toInt_ofNat_of_lt ha
theorem n64_eq {a b : Nat} (ha : a < 18446744073709551616) (hb : b < 18446744073709551616) : (n64 a = n64 b) = (a = b) := propext ⟨fun h => by
    have := congrArg (fun x => x.toBitVec.toNat) h
    simp only [n64_nat] at this
    omega, fun h => by rw [h]⟩
theorem n64_m1 : (-1 : Int64) = n64 18446744073709551615 := by decide
theorem n32_i2l {a : Nat} (ha : a < 2147483648) : Int32.toInt64 (n32 a) = n64 a := by
  apply Int64.toInt_inj.mp
  rw [Int32.toInt_toInt64, n32_int ha, n64_int (by omega)]
theorem n64_l2i (a : Nat) : Int64.toInt32 (n64 a) = n32 a := Int64.toInt32_ofNat'
theorem cmp_gt (x y : Int64) : (n32 0 < lg_cmp x y) = (y < x) := by
  unfold lg_cmp
  simp only [gt_iff_lt]
  split
  · rename_i h
    simp only [h, eq_iff_iff, iff_true]
    decide
  · rename_i h
    simp only [h, eq_iff_iff, iff_false]
    split <;> decide
theorem cmp_lt (x y : Int64) : (lg_cmp x y < n32 0) = (x < y) := by
  unfold lg_cmp
  simp only [gt_iff_lt, Int64.lt_iff_toInt_lt, ← Int64.toInt_inj]
  split
  · rename_i h
    simp only [eq_iff_iff]
    exact ⟨fun h => absurd h (by decide), fun _ => by omega⟩
  · split
    · simp only [eq_iff_iff]
      exact ⟨fun h => absurd h (by decide), fun _ => by omega⟩
    · simp only [eq_iff_iff]
      exact ⟨fun h => by omega, fun _ => by decide⟩
theorem cmp_eq (x y : Int64) : (lg_cmp x y = n32 0) = (x = y) := by
  unfold lg_cmp
  simp only [gt_iff_lt, Int64.lt_iff_toInt_lt, ← Int64.toInt_inj]
  split
  · simp only [eq_iff_iff]
    exact ⟨fun h => absurd h (by decide), fun _ => by omega⟩
  · split
    · rename_i h
      simp only [h, eq_iff_iff, iff_true]
      decide
    · rename_i h
      simp only [h, eq_iff_iff, iff_false]
      decide
-- bytes of a word
def bt (w : Int64) (i : Nat) : Nat := (w.toBitVec.toNat >>> (8 * i)) % 256
def bf (w : Int32) (i : Nat) : Nat := (w.toBitVec.toNat >>> (8 * i)) % 256
theorem bt_lt (w : Int64) (i : Nat) : bt w i < 256 := Nat.mod_lt _ (by decide)
theorem bf_lt (w : Int32) (i : Nat) : bf w i < 256 := Nat.mod_lt _ (by decide)
theorem bt_tb (w : Int64) (i j : Nat) : (bt w i).testBit j = (decide (j < 8) && w.toBitVec.getLsbD (8 * i + j)) := by
  unfold bt
  rw [show 256 = 2 ^ 8 from rfl, Nat.testBit_mod_two_pow, Nat.testBit_shiftRight]
  rfl
theorem bf_tb (w : Int32) (i j : Nat) : (bf w i).testBit j = (decide (j < 8) && w.toBitVec.getLsbD (8 * i + j)) := by
  unfold bf
  rw [show 256 = 2 ^ 8 from rfl, Nat.testBit_mod_two_pow, Nat.testBit_shiftRight]
  rfl
theorem bt_bf (w : Int32) {i : Nat} (h : i < 4) : bt w.toInt64 i = bf w i := by
  apply Nat.eq_of_testBit_eq
  intro j
  rw [bt_tb, bf_tb]
  show (_ && (w.toBitVec.signExtend 64).getLsbD _) = _
  by_cases hj : j < 8
  · rw [BitVec.getLsbD_signExtend]
    have h1 : 8 * i + j < 64 := by omega
    have h2 : 8 * i + j < 32 := by omega
    simp [h1, h2]
  · simp [hj]
theorem sh_u : ∀ i, i < 8 → ((Int32.toInt64 (n32 8 * n32 i)).toUInt64 &&& Int64.toUInt64 63).toNat % 64 = 8 * i := by decide +kernel
theorem by_u (w : Int64) {i : Nat} (h : i < 8) : (Int64.toInt32 ((Int64.toUInt64 w >>> ((Int32.toInt64 (n32 8 * n32 i)).toUInt64 &&& Int64.toUInt64 63)).toInt64)) &&& n32 255 = n32 (bt w i) := by
  apply n32_of
  show (((Int64.toUInt64 w >>> ((Int32.toInt64 (n32 8 * n32 i)).toUInt64 &&& Int64.toUInt64 63)).toBitVec.signExtend 32) &&& (n32 255).toBitVec).toNat = _
  rw [BitVec.signExtend_eq_setWidth_of_le _ (by decide), BitVec.toNat_and, BitVec.toNat_setWidth]
  show (Int64.toUInt64 w >>> ((Int32.toInt64 (n32 8 * n32 i)).toUInt64 &&& Int64.toUInt64 63)).toNat % 2 ^ 32 &&& (2 ^ 8 - 1) = _
  rw [UInt64.toNat_shiftRight, sh_u i h, Nat.and_two_pow_sub_one_eq_mod]
  have := bt_lt w i
  rw [Nat.mod_eq_of_lt (by omega : bt w i < 2 ^ 32)]
  show _ = (w.toBitVec.toNat >>> (8 * i)) % 256
  show w.toBitVec.toNat >>> (8 * i) % 2 ^ 32 % 2 ^ 8 = _
  omega
theorem sh_s : ∀ i, i < 8 → ((Int32.toInt64 (n32 8 * n32 i) &&& 63).toBitVec.smod 64).toNat = 8 * i := by decide +kernel
theorem by_s (w : Int64) {i : Nat} (h : i < 8) : (w >>> (Int32.toInt64 (n32 8 * n32 i) &&& 63)) &&& n64 255 = n64 (bt w i) := by
  apply Int64.toBitVec.inj
  apply BitVec.eq_of_getLsbD_eq
  intro j hj
  show (w.toBitVec.sshiftRight' ((Int32.toInt64 (n32 8 * n32 i) &&& 63).toBitVec.smod 64) &&& (BitVec.ofNat 64 255)).getLsbD j = (BitVec.ofNat 64 (bt w i)).getLsbD j
  rw [BitVec.getLsbD_and, BitVec.getLsbD_sshiftRight', sh_s i h, BitVec.getLsbD_ofNat, BitVec.getLsbD_ofNat, bt_tb, show 255 = 2 ^ 8 - 1 from rfl, Nat.testBit_two_pow_sub_one]
  by_cases h8 : j < 8
  · have h1 : 8 * i + j < 64 := by omega
    have h2 : ¬ 64 ≤ j := by omega
    simp [h8, h1, h2, hj]
  · simp [h8]
theorem sh_t : ∀ i, i < 4 → ((n32 8 * n32 i &&& 31).toBitVec.smod 32).toNat = 8 * i := by decide +kernel
theorem by_t (w : Int32) {i : Nat} (h : i < 4) : (w >>> (n32 8 * n32 i &&& 31)) &&& n32 255 = n32 (bf w i) := by
  apply Int32.toBitVec.inj
  apply BitVec.eq_of_getLsbD_eq
  intro j hj
  show (w.toBitVec.sshiftRight' ((n32 8 * n32 i &&& 31).toBitVec.smod 32) &&& (BitVec.ofNat 32 255)).getLsbD j = (BitVec.ofNat 32 (bf w i)).getLsbD j
  rw [BitVec.getLsbD_and, BitVec.getLsbD_sshiftRight', sh_t i h, BitVec.getLsbD_ofNat, BitVec.getLsbD_ofNat, bf_tb, show 255 = 2 ^ 8 - 1 from rfl, Nat.testBit_two_pow_sub_one]
  by_cases h8 : j < 8
  · have h1 : 8 * i + j < 32 := by omega
    have h2 : ¬ 32 ≤ j := by omega
    simp [h8, h1, h2, hj]
  · simp [h8]
-- states
theorem wi_rd (S : ab_S) (o k : Nat) (v : Int32) (a b : Nat) : (ab_wi S o k v).1 a b = if a = o ∧ b = k then v else S.1 a b := rfl
theorem wi_2 (S : ab_S) (o k : Nat) (v : Int32) : (ab_wi S o k v).2 = S.2 := rfl
theorem wl_1 (S : ab_S) (o k : Nat) (v : Int64) : (ab_wl S o k v).1 = S.1 := rfl
theorem wl_rd (S : ab_S) (o k : Nat) (v : Int64) (a b : Nat) : (ab_wl S o k v).2.1 a b = if a = o ∧ b = k then v else S.2.1 a b := rfl
theorem wl_2 (S : ab_S) (o k : Nat) (v : Int64) : (ab_wl S o k v).2.2 = S.2.2 := rfl
theorem wr_1 (S : ab_S) (o k : Nat) (v : Nat) : (ab_wr S o k v).1 = S.1 := rfl
theorem wr_l (S : ab_S) (o k : Nat) (v : Nat) : (ab_wr S o k v).2.1 = S.2.1 := rfl
theorem wr_rd (S : ab_S) (o k : Nat) (v : Nat) (a b : Nat) : (ab_wr S o k v).2.2.1 a b = if a = o ∧ b = k then v else S.2.2.1 a b := rfl
theorem wr_2 (S : ab_S) (o k : Nat) (v : Nat) : (ab_wr S o k v).2.2.2 = S.2.2.2 := rfl
theorem wx_1 (S : ab_S) : (ab_wx S).1 = S.1 := rfl
theorem wx_l (S : ab_S) : (ab_wx S).2.1 = S.2.1 := rfl
theorem wx_r (S : ab_S) : (ab_wx S).2.2.1 = S.2.2.1 := rfl
theorem wx_f (S : ab_S) : (ab_wx S).2.2.2.1 = S.2.2.2.1 := rfl
theorem g_t {α : Type} (x : Option α) : ab_g true x = x := rfl
-- calls
theorem cI_0 (v : Int32) (w : Int64 × Nat) (S : ab_S) (f : Int32 → ab_S → ab_R) : cI (some ((0, v, w), S)) f = f v S := rfl
theorem cL_0 (u : Int32) (v : Int64) (w : Nat) (S : ab_S) (f : Int64 → ab_S → ab_R) : cL (some ((0, u, v, w), S)) f = f v S := rfl
theorem cR_0 (u : Int32) (v : Int64) (w : Nat) (S : ab_S) (f : Nat → ab_S → ab_R) : cR (some ((0, u, v, w), S)) f = f w S := rfl
theorem cV_0 (v : Int32 × Int64 × Nat) (S : ab_S) (f : ab_S → ab_R) : cV (some ((0, v), S)) f = f S := rfl
theorem cI_x {x : Nat} (h : x ≠ 0) (v : Int32 × Int64 × Nat) (S : ab_S) (f : Int32 → ab_S → ab_R) : cI (some ((x, v), S)) f = some ((x, v), S) := if_neg h
theorem cL_x {x : Nat} (h : x ≠ 0) (v : Int32 × Int64 × Nat) (S : ab_S) (f : Int64 → ab_S → ab_R) : cL (some ((x, v), S)) f = some ((x, v), S) := if_neg h
theorem cR_x {x : Nat} (h : x ≠ 0) (v : Int32 × Int64 × Nat) (S : ab_S) (f : Nat → ab_S → ab_R) : cR (some ((x, v), S)) f = some ((x, v), S) := if_neg h
theorem cV_x {x : Nat} (h : x ≠ 0) (v : Int32 × Int64 × Nat) (S : ab_S) (f : ab_S → ab_R) : cV (some ((x, v), S)) f = some ((x, v), S) := if_neg h
theorem cIh_0 (k : Nat) (v : Int32) (w : Int64 × Nat) (S : ab_S) (f : Int32 → ab_S → ab_R) : cIh k (some ((0, v, w), S)) f = f v S := rfl
theorem cLh_0 (k : Nat) (u : Int32) (v : Int64) (w : Nat) (S : ab_S) (f : Int64 → ab_S → ab_R) : cLh k (some ((0, u, v, w), S)) f = f v S := rfl
theorem cIh_x {k x : Nat} (h : x ≠ 0) (v : Int32 × Int64 × Nat) (S : ab_S) (f : Int32 → ab_S → ab_R) : cIh k (some ((x, v), S)) f = ab_th k ((x, v), S) := if_neg h
theorem cLh_x {k x : Nat} (h : x ≠ 0) (v : Int32 × Int64 × Nat) (S : ab_S) (f : Int64 → ab_S → ab_R) : cLh k (some ((x, v), S)) f = ab_th k ((x, v), S) := if_neg h
