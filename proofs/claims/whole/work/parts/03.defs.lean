-- The abstract machine: values, stores, one instruction. (Tables ab_T, ab_N, ab_C, ab_own, ab_ins, ab_fld, ab_fin, ab_mth, ab_cls, ab_cst, ab_ret, ab_mxl, ab_md, ab_hnd, ab_msk stand before this.)
abbrev ab_V : Type := Int32 ⊕ (Int64 ⊕ Nat)
abbrev ab_L : Type := List (Option ab_V)
abbrev ab_S : Type := (Nat → Nat → Int32) × (Nat → Nat → Int64) × (Nat → Nat → Nat) × Nat × Nat × Nat
abbrev ab_O : Type := Nat × Int32 × Int64 × Nat
abbrev ab_R : Type := Option (ab_O × ab_S)
def ab_g {α : Type} (b : Bool) (x : Option α) : Option α := bif b then x else none
def ab_up {α : Type} (f : Nat → Nat → α) (o k : Nat) (v : α) : Nat → Nat → α := fun a b => if a = o ∧ b = k then v else f a b
def ab_wi (S : ab_S) (o k : Nat) (v : Int32) : ab_S := (ab_up S.1 o k v, S.2)
def ab_wl (S : ab_S) (o k : Nat) (v : Int64) : ab_S := (S.1, ab_up S.2.1 o k v, S.2.2)
def ab_wr (S : ab_S) (o k : Nat) (v : Nat) : ab_S := (S.1, S.2.1, ab_up S.2.2.1 o k v, S.2.2.2)
/-- a cell more of n slots that is no one's: an exception -/
def ab_wx (S : ab_S) : ab_S := (S.1, S.2.1, S.2.2.1, S.2.2.2.1, S.2.2.2.2.1 + 1, S.2.2.2.2.2 + 6)
/-- the next cell, of n slots -/
def ab_wn (S : ab_S) (n : Nat) : ab_S := (S.1, S.2.1, S.2.2.1, S.2.2.2.1 + 1, S.2.2.2.2.1 + 1, S.2.2.2.2.2 + n)
/-- n elements of an array into another -/
def ab_wc (S : ab_S) (a sp o dp n : Nat) : ab_S := (fun x k => if x = o ∧ dp ≤ k ∧ k < dp + n then S.1 a (sp + (k - dp)) else S.1 x k, S.2)
def ab_in (i : Int32) (n : Nat) : Bool := !decide (i < 0) && Nat.blt i.toNatClampNeg n
/-- what is copied are characters -/
def ab_cf (S : ab_S) (a sp n : Nat) : Bool := (List.range n).all fun i => fits .char (.int (S.1 a (sp + i)))
def ab_zb (x : Int32) : Bool := x == 0 || x == 1
def ab_nz (x : Int32) : Int32 := x &&& 1
def ab_nc (x : Int32) : Int32 := x.toUInt32.toUInt16.toUInt32.toInt32
def ab_tg (pc : Nat) (off : Int) : Nat := ((pc : Int) + off).toNat
/-- r is a cell of type code t that is there -/
def ab_ok (k : Nat) (S : ab_S) (r t : Nat) : Bool := Nat.beq (ab_T r) t && (Nat.blt 0 r && Nat.blt r (bif ab_md k then ab_C else S.2.2.2.1))
def ab_clr (L : ab_L) : Nat → ab_L
  | 0 => L
  | i + 1 => match L[i]? with
    | some (some (.inr (.inl _))) => L.set i none
    | _ => L
def ab_st1 (L : ab_L) (i : Nat) (v : ab_V) : ab_L := (ab_clr L i).set i (some v)
def ab_st2 (L : ab_L) (i : Nat) (v : ab_V) : ab_L := ((ab_clr L i).set i (some v)).set (i + 1) none
def ab_zip : List Bool → ab_L → ab_L
  | b :: bs, v :: vs => (bif b then v else none) :: ab_zip bs vs
  | _, vs => vs
def ab_exp : List ab_V → ab_L
  | [] => []
  | .inl x :: r => some (.inl x) :: ab_exp r
  | .inr (.inl x) :: r => some (.inr (.inl x)) :: none :: ab_exp r
  | .inr (.inr x) :: r => some (.inr (.inr x)) :: ab_exp r
def ab_ent (k : Nat) (vs : List ab_V) : ab_L := ab_exp vs ++ List.replicate (ab_mxl k - (ab_exp vs).length) none
def ab_push (t : Nat) (o : ab_O) (st : List ab_V) : List ab_V := match t with
  | 0 => st
  | 2 => .inr (.inl o.2.2.1) :: st
  | 3 => .inr (.inr o.2.2.2) :: st
  | _ => .inl o.2.1 :: st
def ab_cz {α : Type} (c : ClassFile.Cond) (x y : Int32) (a b : α) : α := match c with
  | .eq => if x = y then a else b
  | .ne => if x = y then b else a
  | .lt => if x < y then a else b
  | .ge => if x < y then b else a
  | .gt => if y < x then a else b
  | .le => if y < x then b else a
def ab_sw {α : Type} (x : Int32) (df : Nat) (f : Nat → α) : List (Int × Nat) → α
  | [] => f df
  | v :: r => if x = Int32.ofInt v.1 then f v.2 else ab_sw x df f r
def ab_tcs (pc : Nat) (lo : Int) (offs : Array Int) : List (Int × Nat) := offs.toList.zipIdx.map fun o => (lo + o.2, ab_tg pc o.1)
def ab_lcs (pc : Nat) (ps : Array (Int × Int)) : List (Int × Nat) := ps.toList.map fun o => (o.1, ab_tg pc o.2)
def ab_pi {α : Type} (st : List ab_V) (f : Int32 → List ab_V → Option α) : Option α := match st with
  | .inl x :: r => f x r
  | _ => none
def ab_pl {α : Type} (st : List ab_V) (f : Int64 → List ab_V → Option α) : Option α := match st with
  | .inr (.inl x) :: r => f x r
  | _ => none
def ab_pr {α : Type} (st : List ab_V) (f : Nat → List ab_V → Option α) : Option α := match st with
  | .inr (.inr x) :: r => f x r
  | _ => none
def ab_li {α : Type} (L : ab_L) (i : Nat) (f : Int32 → Option α) : Option α := match L[i]? with
  | some (some (.inl x)) => f x
  | _ => none
def ab_ll {α : Type} (L : ab_L) (i : Nat) (f : Int64 → Option α) : Option α := match L[i]? with
  | some (some (.inr (.inl x))) => f x
  | _ => none
def ab_lr {α : Type} (L : ab_L) (i : Nat) (f : Nat → Option α) : Option α := match L[i]? with
  | some (some (.inr (.inr x))) => f x
  | _ => none
/-- what a field read gives: an int, or a reference; a final one is known by its place -/
def ab_rd (k : Nat) (S : ab_S) (f : Nat × Nat × Nat) (r : Nat) : ab_V := match f.2.2 with
  | 2 => .inr (.inr (S.2.2.1 r f.2.1))
  | 3 => .inr (.inr (bif ab_md k then ab_fin f.1 f.2.1 r else S.2.2.1 r f.2.1))
  | _ => .inl (S.1 r f.2.1)
/-- the receiver's class -/
def ab_thk (k : Nat) (S : ab_S) (j : Nat) : List ab_V → Bool
  | .inr (.inr r) :: _ => ab_ok k S r (10 + ab_own j)
  | _ => false
/-- the final references are what they are known to be, and all cells are there -/
def ab_inv (S : ab_S) : Bool := Nat.beq S.2.2.2.1 ab_C && ab_finl.all fun e => Nat.beq (S.2.2.1 e.1 e.2.1) e.2.2
def ab_bd (x : ab_R) (f : ab_O × ab_S → ab_R) : ab_R := match x with
  | none => none
  | some r => f r
/-- an exception comes out of a call: caught, or it goes on -/
def ab_th (k : Nat) (r : ab_O × ab_S) : ab_R := match ab_hnd k r.1.1 with
  | none => bif ab_hh k then none else some r
  | some v => some ((0, v, 0, 0), r.2)
/-- a call: kind, method, how many values -/
def ab_do (k pc : Nat) (K : Nat → ab_L → List ab_V → ab_S → ab_R) (C : Nat → ab_L → ab_S → ab_R) (L : ab_L) (st : List ab_V) (S : ab_S) (j n : Nat) : ab_R :=
  ab_g (Nat.ble n st.length && (Nat.ble (st.drop n).length 8 && (Nat.ble (ab_exp (st.take n).reverse).length (ab_mxl j) && (bif ab_md k then ab_md j else (!ab_md j || ab_inv S))))) <|
    ab_bd (C j (ab_ent j (st.take n).reverse) S) fun r => if r.1.1 = 0 then K (pc + 3) L (ab_push (ab_ret j) r.1 (st.drop n)) r.2 else ab_th k r
/-- one instruction -/
def ab_ex (q k pc : Nat) (K : Nat → ab_L → List ab_V → ab_S → ab_R) (C : Nat → ab_L → ab_S → ab_R) (L : ab_L) (st : List ab_V) (S : ab_S) (i : Instr) (f : Nat × Nat × Nat) : ab_R := match i with
  | .iconst n => K (pc + 1) L (.inl (Int32.ofInt n) :: st) S
  | .bipush n => K (pc + 2) L (.inl (Int8.ofInt n).toInt32 :: st) S
  | .sipush n => K (pc + 3) L (.inl (Int16.ofInt n).toInt32 :: st) S
  | .lconst n => K (pc + 1) L (.inr (.inl (Int64.ofNat n)) :: st) S
  | .ldc2_w i => match ab_cst (ab_own k) i with
    | none => none
    | some v => K (pc + 3) L (.inr (.inl v) :: st) S
  | .ldc_w i => match ab_csi (ab_own k) i with
    | none => none
    | some v => K (pc + 3) L (.inl v :: st) S
  | .iload i => ab_li L i fun x => K (pc + 2) L (.inl x :: st) S
  | .iload_n i => ab_li L i fun x => K (pc + 1) L (.inl x :: st) S
  | .lload i => ab_ll L i fun x => K (pc + 2) L (.inr (.inl x) :: st) S
  | .lload_n i => ab_ll L i fun x => K (pc + 1) L (.inr (.inl x) :: st) S
  | .aload i => ab_lr L i fun x => K (pc + 2) L (.inr (.inr x) :: st) S
  | .aload_n i => ab_lr L i fun x => K (pc + 1) L (.inr (.inr x) :: st) S
  | .istore i => ab_pi st fun x st => ab_g (Nat.blt i L.length) (K (pc + 2) (ab_st1 L i (.inl x)) st S)
  | .istore_n i => ab_pi st fun x st => ab_g (Nat.blt i L.length) (K (pc + 1) (ab_st1 L i (.inl x)) st S)
  | .lstore i => ab_pl st fun x st => ab_g (Nat.blt (i + 1) L.length) (K (pc + 2) (ab_st2 L i (.inr (.inl x))) st S)
  | .lstore_n i => ab_pl st fun x st => ab_g (Nat.blt (i + 1) L.length) (K (pc + 1) (ab_st2 L i (.inr (.inl x))) st S)
  | .astore i => ab_pr st fun x st => ab_g (Nat.blt i L.length) (K (pc + 2) (ab_st1 L i (.inr (.inr x))) st S)
  | .astore_n i => ab_pr st fun x st => ab_g (Nat.blt i L.length) (K (pc + 1) (ab_st1 L i (.inr (.inr x))) st S)
  | .iinc i n => ab_li L i fun x => K (pc + 3) (ab_st1 L i (.inl (x + Int32.ofInt n))) st S
  | .iadd => ab_pi st fun y st => ab_pi st fun x st => K (pc + 1) L (.inl (x + y) :: st) S
  | .isub => ab_pi st fun y st => ab_pi st fun x st => K (pc + 1) L (.inl (x - y) :: st) S
  | .imul => ab_pi st fun y st => ab_pi st fun x st => K (pc + 1) L (.inl (x * y) :: st) S
  | .iand => ab_pi st fun y st => ab_pi st fun x st => K (pc + 1) L (.inl (x &&& y) :: st) S
  | .ior => ab_pi st fun y st => ab_pi st fun x st => K (pc + 1) L (.inl (x ||| y) :: st) S
  | .ishl => ab_pi st fun y st => ab_pi st fun x st => K (pc + 1) L (.inl (x <<< (y &&& 31)) :: st) S
  | .ishr => ab_pi st fun y st => ab_pi st fun x st => K (pc + 1) L (.inl (x >>> (y &&& 31)) :: st) S
  | .iushr => ab_pi st fun y st => ab_pi st fun x st => K (pc + 1) L (.inl (x.toUInt32 >>> (y.toUInt32 &&& Int32.toUInt32 31)).toInt32 :: st) S
  | .idiv => ab_pi st fun y st => ab_pi st fun x st => ab_g (!(y == 0)) (K (pc + 1) L (.inl (x / y) :: st) S)
  | .ineg => ab_pi st fun x st => K (pc + 1) L (.inl (-x) :: st) S
  | .i2l => ab_pi st fun x st => K (pc + 1) L (.inr (.inl x.toInt64) :: st) S
  | .i2c => ab_pi st fun x st => K (pc + 1) L (.inl (x.toUInt32 % 65536).toInt32 :: st) S
  | .l2i => ab_pl st fun x st => K (pc + 1) L (.inl x.toInt32 :: st) S
  | .ladd => ab_pl st fun y st => ab_pl st fun x st => K (pc + 1) L (.inr (.inl (x + y)) :: st) S
  | .lsub => ab_pl st fun y st => ab_pl st fun x st => K (pc + 1) L (.inr (.inl (x - y)) :: st) S
  | .lmul => ab_pl st fun y st => ab_pl st fun x st => K (pc + 1) L (.inr (.inl (x * y)) :: st) S
  | .land => ab_pl st fun y st => ab_pl st fun x st => K (pc + 1) L (.inr (.inl (x &&& y)) :: st) S
  | .lor => ab_pl st fun y st => ab_pl st fun x st => K (pc + 1) L (.inr (.inl (x ||| y)) :: st) S
  | .lxor => ab_pl st fun y st => ab_pl st fun x st => K (pc + 1) L (.inr (.inl (x ^^^ y)) :: st) S
  | .lshl => ab_pi st fun y st => ab_pl st fun x st => K (pc + 1) L (.inr (.inl (x <<< (y.toInt64 &&& 63))) :: st) S
  | .lshr => ab_pi st fun y st => ab_pl st fun x st => K (pc + 1) L (.inr (.inl (x >>> (y.toInt64 &&& 63))) :: st) S
  | .lushr => ab_pi st fun y st => ab_pl st fun x st => K (pc + 1) L (.inr (.inl (x.toUInt64 >>> (y.toInt64.toUInt64 &&& Int64.toUInt64 63)).toInt64) :: st) S
  | .lcmp => ab_pl st fun y st => ab_pl st fun x st => K (pc + 1) L (.inl (lg_cmp x y) :: st) S
  | .dup => match st with
    | .inl x :: r => K (pc + 1) L (.inl x :: .inl x :: r) S
    | .inr (.inr x) :: r => K (pc + 1) L (.inr (.inr x) :: .inr (.inr x) :: r) S
    | _ => none
  | .dup2 => ab_pi st fun y st => ab_pr st fun x st => K (pc + 1) L (.inl y :: .inr (.inr x) :: .inl y :: .inr (.inr x) :: st) S
  | .pop => match st with
    | .inl _ :: r => K (pc + 1) L r S
    | .inr (.inr _) :: r => K (pc + 1) L r S
    | _ => none
  | .goto o => K (ab_tg pc o) L st S
  | .ifCond c o => ab_pi st fun x st => ab_cz c x 0 (K (ab_tg pc o) L st S) (K (pc + 3) L st S)
  | .if_icmp c o => ab_pi st fun y st => ab_pi st fun x st => ab_cz c x y (K (ab_tg pc o) L st S) (K (pc + 3) L st S)
  | .tableswitch df lo _ offs => ab_pi st fun x st => ab_sw x (ab_tg pc df) (fun t => K t L st S) (ab_tcs pc lo offs)
  | .lookupswitch df ps => ab_pi st fun x st => ab_sw x (ab_tg pc df) (fun t => K t L st S) (ab_lcs pc ps)
  | .getfield _ => ab_pr st fun r st => ab_g (ab_ok k S r (10 + f.1)) (K (pc + 3) L (ab_rd k S f r :: st) S)
  | .putfield _ => match f.2.2 with
      | 0 => ab_pi st fun x st => ab_pr st fun r st => ab_g (ab_ok k S r (10 + f.1)) (K (pc + 3) L st (ab_wi S r f.2.1 x))
      | 1 => ab_pi st fun x st => ab_pr st fun r st => ab_g (ab_ok k S r (10 + f.1) && ab_zb x) (K (pc + 3) L st (ab_wi S r f.2.1 x))
      | 2 => ab_pr st fun x st => ab_pr st fun r st => ab_g (ab_ok k S r (10 + f.1)) (K (pc + 3) L st (ab_wr S r f.2.1 x))
      | _ => ab_pr st fun x st => ab_pr st fun r st => ab_g (!ab_md k && (Nat.beq f.1 (ab_own k) && ab_ok k S r (10 + f.1))) (K (pc + 3) L st (ab_wr S r f.2.1 x))
  | .getstatic _ => K (pc + 3) L (.inr (.inr 2) :: st) S
  | .arraylength => ab_pr st fun r st => ab_g (ab_ok k S r 1) (K (pc + 1) L (.inl (Int32.ofNat (ab_N q r)) :: st) S)
  | .iaload => ab_pi st fun i st => ab_pr st fun r st => ab_g (ab_ok k S r 1) (ab_g (ab_in i (ab_N q r)) (K (pc + 1) L (.inl (S.1 r i.toNatClampNeg) :: st) S))
  | .laload => ab_pi st fun i st => ab_pr st fun r st => ab_g (ab_ok k S r 2) (ab_g (ab_in i (ab_N q r)) (K (pc + 1) L (.inr (.inl (S.2.1 r i.toNatClampNeg)) :: st) S))
  | .caload => ab_pi st fun i st => ab_pr st fun r st => ab_g (ab_ok k S r 3) (ab_g (ab_in i (ab_N q r)) (K (pc + 1) L (.inl (S.1 r i.toNatClampNeg) :: st) S))
  | .baload => ab_pi st fun i st => ab_pr st fun r st => ab_g (ab_ok k S r 4) (ab_g (ab_in i (ab_N q r)) (K (pc + 1) L (.inl (S.1 r i.toNatClampNeg) :: st) S))
  | .aaload => ab_pi st fun i st => ab_pr st fun r st => ab_g (ab_ok k S r 5) (ab_g (ab_in i (ab_N q r)) (K (pc + 1) L (.inr (.inr (S.2.2.1 r i.toNatClampNeg)) :: st) S))
  | .iastore => ab_pi st fun x st => ab_pi st fun i st => ab_pr st fun r st => ab_g (ab_ok k S r 1 && Nat.blt 2 r) (ab_g (ab_in i (ab_N q r)) (K (pc + 1) L st (ab_wi S r i.toNatClampNeg x)))
  | .lastore => ab_pl st fun x st => ab_pi st fun i st => ab_pr st fun r st => ab_g (ab_ok k S r 2 && Nat.blt 2 r) (ab_g (ab_in i (ab_N q r)) (K (pc + 1) L st (ab_wl S r i.toNatClampNeg x)))
  | .castore => ab_pi st fun x st => ab_pi st fun i st => ab_pr st fun r st => ab_g (ab_ok k S r 3 && Nat.blt 2 r) (ab_g (ab_in i (ab_N q r)) (K (pc + 1) L st (ab_wi S r i.toNatClampNeg (ab_nc x))))
  | .bastore => ab_pi st fun x st => ab_pi st fun i st => ab_pr st fun r st => ab_g (ab_ok k S r 4 && Nat.blt 2 r) (ab_g (ab_in i (ab_N q r)) (K (pc + 1) L st (ab_wi S r i.toNatClampNeg (ab_nz x))))
  | .aastore => ab_pr st fun x st => ab_pi st fun i st => ab_pr st fun r st => ab_g (ab_ok k S r 5 && (Nat.blt 2 r && ab_ok k S x ab_shc)) (ab_g (ab_in i (ab_N q r)) (K (pc + 1) L st (ab_wr S r i.toNatClampNeg x)))
  | .new _ => match f.1 with
      | 0 => ab_g (!ab_md k && (Nat.blt S.2.2.2.1 ab_C && Nat.beq (ab_T S.2.2.2.1) (10 + f.2.1))) (K (pc + 3) L (.inr (.inr S.2.2.2.1) :: st) (ab_wn S f.2.2))
      | 1 => ab_g (ab_md k && Nat.ble st.length 4) (some ((f.2.1, 0, 0, 0), ab_wx S))
      | _ => none
  | .newarray t => ab_pi st fun n st => ab_g (!ab_md k && (Nat.blt S.2.2.2.1 ab_C && (Nat.beq (ab_T S.2.2.2.1) (ab_atc t) && (!decide (n < 0) && Nat.beq n.toNatClampNeg (ab_N q S.2.2.2.1))))) (K (pc + 2) L (.inr (.inr S.2.2.2.1) :: st) (ab_wn S n.toNatClampNeg))
  | .anewarray _ => ab_pi st fun n st => ab_g ((Nat.beq f.1 0 && Nat.beq f.2.1 2) && (!ab_md k && (Nat.blt S.2.2.2.1 ab_C && (Nat.beq (ab_T S.2.2.2.1) 5 && (!decide (n < 0) && Nat.beq n.toNatClampNeg (ab_N q S.2.2.2.1)))))) (K (pc + 3) L (.inr (.inr S.2.2.2.1) :: st) (ab_wn S n.toNatClampNeg))
  | .invokevirtual _ => ab_g (Nat.beq f.1 0) (ab_g (ab_thk k S f.2.1 (st.drop (f.2.2 - 1))) (ab_do k pc K C L st S f.2.1 f.2.2))
  | .invokestatic _ => match f.1 with
      | 1 => ab_do k pc K C L st S f.2.1 f.2.2
      | 9 => ab_pi st fun n st => ab_pi st fun dp st => ab_pr st fun o st => ab_pi st fun sp st => ab_pr st fun a st =>
        ab_g (ab_ok k S a 3 && (ab_ok k S o 3 && (Nat.blt 2 o && (!Nat.beq a o && Nat.ble st.length 8)))) (ab_g (!decide (n < 0) && (!decide (sp < 0) && (!decide (dp < 0) && (Nat.ble (sp.toNatClampNeg + n.toNatClampNeg) (ab_N q a) && (Nat.ble (dp.toNatClampNeg + n.toNatClampNeg) (ab_N q o) && ab_cf S a sp.toNatClampNeg n.toNatClampNeg))))) (K (pc + 3) L st (ab_wc S a sp.toNatClampNeg o dp.toNatClampNeg n.toNatClampNeg)))
      | _ => none
  | .invokespecial _ => match f.1 with
      | 2 => ab_g (ab_thk k S f.2.1 (st.drop (f.2.2 - 1))) (ab_do k pc K C L st S f.2.1 f.2.2)
      | 8 => ab_pr st fun r st => ab_g (Nat.blt 0 r && Nat.ble st.length 8) (K (pc + 3) L st S)
      | _ => none
  | .ireturn => match st with
    | [.inl x] => match ab_ret k with
      | 1 => some ((0, x, 0, 0), S)
      | 4 => some ((0, ab_nz x, 0, 0), S)
      | 5 => some ((0, ab_nc x, 0, 0), S)
      | _ => none
    | _ => none
  | .lreturn => match st with
    | [.inr (.inl x)] => bif Nat.beq (ab_ret k) 2 then some ((0, 0, x, 0), S) else none
    | _ => none
  | .areturn => match st with
    | [.inr (.inr x)] => bif Nat.beq (ab_ret k) 3 then some ((0, 0, 0, x), S) else none
    | _ => none
  | .return_ => match st with
    | [] => bif Nat.beq (ab_ret k) 0 then some ((0, 0, 0, 0), S) else none
    | _ => none
  | _ => none
/-- n steps at most; calls nest at most d deep -/
def ab_run (q : Nat) : Nat → Nat → Nat → Nat → ab_L → List ab_V → ab_S → ab_R
  | 0, _, _, _, _, _, _ => none
  | n + 1, d, k, pc, L, st, S => match ab_ins k pc with
    | none => none
    | some x => ab_ex q k pc (fun pc' L' st' S' => ab_run q n d k pc' (ab_zip (ab_msk k pc') L') st' S') (fun j L' S' => match d with
      | 0 => none
      | d + 1 => ab_run q n d j 0 L' [] S') L st S x.1 x.2
