-- The words of the exceptions.
def ab_ta : List Jvm.Cond := Bundle.throwableAtoms ++ Bundle.throwableSAtoms ++ Bundle.chainSAtoms "java/lang/RuntimeException" ["java/lang/Exception"]
theorem ab_taW : ∀ w ∈ ab_ta, w ∈ lw_tbl := ab_zipW id _ [8, 285, 294, 299, 302, 304, 286, 287, 24, 25, 288, 293, 300, 320, 275, 321, 277, 322, 279, 289, 290, 291, 292, 281, 316, 317, 319, 281, 310, 311, 312, 313, 269, 313, 314, 315, 316, 271] (by decide +kernel) (by decide +kernel)
def ab_xi (x : Nat) : Nat := bif Nat.beq x 3 then 13 else 7
def ab_xb (x : Nat) : ByteArray := bif Nat.beq x 3 then ⟨#[0x2a, 0x2b, 0xb7, 0x00, 0x0d, 0xb1]⟩ else ⟨#[0x2a, 0x2b, 0xb7, 0x00, 0x07, 0xb1]⟩
def ab_xa (X : String) (ix : Nat) (rx : ByteArray) : List Jvm.Cond := Bundle.passSAtoms X "java/lang/RuntimeException" ix rx ++
  [.instantiable X 6, .initialized X, .selects X Bundle.tFill0 Bundle.tFill0, .selects X Bundle.tFill Bundle.tFill, .lays X Bundle.tN "cause" "Ljava/lang/Throwable;", .lays X Bundle.tN "stackTrace" Bundle.steD, .lays X Bundle.tN "suppressedExceptions" Bundle.listD, .lays X Bundle.tN "detailMessage" "Ljava/lang/String;",
   .fieldLink Bundle.tN 198 Bundle.tN "backtrace" "Ljava/lang/Object;", .lays Bundle.tN Bundle.tN "backtrace" "Ljava/lang/Object;", .lays X Bundle.tN "backtrace" "Ljava/lang/Object;"]
theorem ab_xaW1 : ∀ w ∈ ab_xa (ab_xn 1) (ab_xi 1) (ab_xb 1), w ∈ lw_tbl := ab_zipW id _ [307, 308, 309, 310, 267, 264, 11, 272, 273, 274, 276, 278, 280, 284, 283, 282] (by decide +kernel) (by decide +kernel)
theorem ab_xaW2 : ∀ w ∈ ab_xa (ab_xn 2) (ab_xi 2) (ab_xb 2), w ∈ lw_tbl := ab_zipW id _ [354, 355, 356, 310, 267, 344, 12, 346, 297, 347, 348, 349, 350, 284, 283, 351] (by decide +kernel) (by decide +kernel)
theorem ab_xaW3 : ∀ w ∈ ab_xa (ab_xn 3) (ab_xi 3) (ab_xb 3), w ∈ lw_tbl := ab_zipW id _ [562, 563, 564, 310, 267, 552, 14, 554, 298, 555, 556, 557, 558, 284, 283, 559] (by decide +kernel) (by decide +kernel)
theorem ab_xaW4 : ∀ w ∈ ab_xa (ab_xn 4) (ab_xi 4) (ab_xb 4), w ∈ lw_tbl := ab_zipW id _ [583, 584, 585, 310, 267, 573, 15, 575, 296, 576, 577, 578, 579, 284, 283, 580] (by decide +kernel) (by decide +kernel)
theorem ab_xaW {x : Nat} (h : 1 ≤ x) (h4 : x ≤ 4) : ∀ w ∈ ab_xa (ab_xn x) (ab_xi x) (ab_xb x), w ∈ lw_tbl := by
  match x, h, h4 with
  | 1, _, _ => exact ab_xaW1
  | 2, _, _ => exact ab_xaW2
  | 3, _, _ => exact ab_xaW3
  | 4, _, _ => exact ab_xaW4
theorem ab_xbD : ∀ x, x < 5 → decode (ab_xb x) 0 = .ok (.aload_n 0, 1) ∧ decode (ab_xb x) 1 = .ok (.aload_n 1, 1) ∧ decode (ab_xb x) 2 = .ok (.invokespecial (ab_xi x), 3) ∧ decode (ab_xb x) 5 = .ok (.return_, 1) := by decide +kernel
theorem ab_xnF : ∀ x, x < 5 → 1 ≤ x → Bundle.fit (ab_xn x) = true := by decide +kernel
def ab_t1 (y : Nat × Nat × Nat × Nat × Nat × Nat) : Jvm.Cond := .classLink (ab_cn (ab_own y.1)) y.2.2.2.1 (ab_xn y.2.2.1)
theorem ab_t1W : ∀ y ∈ ab_thl, ab_t1 y ∈ lw_tbl := ab_zipW _ _ [263, 343, 263, 343, 551, 572, 393] (by decide +kernel) (by decide +kernel)
def ab_tx (c i : Nat) : String := bif Nat.beq c 0 && Nat.beq i 125 then "a character is not 32 .. 126" else bif Nat.beq c 0 && Nat.beq i 132 then "a rule is not 0 .. 7" else bif Nat.beq c 0 && Nat.beq i 139 then "the bytes are not well formed" else bif Nat.beq c 0 && Nat.beq i 141 then "there is no such item" else bif Nat.beq c 0 && Nat.beq i 152 then "a rule is undefined" else bif Nat.beq c 0 && Nat.beq i 160 then "a rule comes back to itself barely" else bif Nat.beq c 3 && Nat.beq i 63 then "what was typed is no TYPE" else ""
def ab_t2 (y : Nat × Nat × Nat × Nat × Nat × Nat) : Jvm.Cond := .stringRef (ab_cn (ab_own y.1)) y.2.2.2.2.1 (ab_tx (ab_own y.1) y.2.2.2.2.1)
theorem ab_t2W : ∀ y ∈ ab_thl, ab_t2 y ∈ lw_tbl := ab_zipW _ _ [305, 352, 496, 508, 560, 581, 394] (by decide +kernel) (by decide +kernel)
def ab_t3 (y : Nat × Nat × Nat × Nat × Nat × Nat) : Jvm.Cond := .methodLink (ab_cn (ab_own y.1)) y.2.2.2.2.2 (Bundle.initS (ab_xn y.2.2.1))
theorem ab_t3W : ∀ y ∈ ab_thl, ab_t3 y ∈ lw_tbl := ab_zipW _ _ [306, 353, 306, 353, 561, 582, 395] (by decide +kernel) (by decide +kernel)
theorem ab_thD : ∀ y ∈ ab_thl, (1 ≤ y.2.2.1 ∧ y.2.2.1 < 5) ∧ ab_ht y.1 = [] ∧ decode (ab_by y.1) (y.2.1 + 3) = .ok (.dup, 1) ∧ decode (ab_by y.1) (y.2.1 + 4) = .ok (.ldc y.2.2.2.2.1, 2) ∧ decode (ab_by y.1) (y.2.1 + 6) = .ok (.invokespecial y.2.2.2.2.2, 3) ∧ decode (ab_by y.1) (y.2.1 + 9) = .ok (.athrow, 1) := by decide +kernel
