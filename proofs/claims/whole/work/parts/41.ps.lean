-- Types: what a text is read as, and what it says of an item.
abbrev ctx : Type := (Nat → Nat) × (Nat → Nat → Nat) × (Nat → Nat → Nat → Bool)
/-- of bytes, rows of items and answers of rules (rule, item, level): does the item, at the level, fit? -/
abbrev Sem : Type := ctx → Nat → Nat → Bool
/-- its place, the place behind it, its kind, what it says -/
abbrev alt : Type := Nat × Nat × Nat × Sem
/-- of an entry or a member: its place, how often, key, whether the key is kept, value -/
abbrev prt : Type := Nat × Nat × List alt × Bool × List alt
def maj (c : ctx) (i : Nat) : Nat := c.2.1 0 i
def nmb (c : ctx) (i : Nat) : Nat := c.2.1 1 i
def sta (c : ctx) (i : Nat) : Nat := c.2.1 3 i
def bhd (c : ctx) (i : Nat) : Nat := c.2.1 4 i
def lvl (lv : Nat) (x : Bool) : Bool := decide (lv ≤ 20) && x
def anyS (l : List alt) : Sem := fun c i lv => l.any fun a => a.2.2.2 c i lv
def sgn (h : Nat) : Sem := fun c i _ =>
  if h = 105 then decide (maj c i < 2) else if h = 115 then decide (maj c i = 2) else if h = 116 then decide (maj c i = 3)
  else if h = 98 then decide (maj c i = 7) && decide (nmb c i ≠ 22) else if h = 110 then decide (maj c i = 7) && decide (nmb c i = 22) else true
def val (c : ctx) (i : Nat) : Int64 := if maj c i = 0 then n64 (nmb c i) else -1 - n64 (nmb c i)
def itg (lo hi : Int32) : Sem := fun c i _ => decide (maj c i < 2) && (decide (lo.toInt64 ≤ val c i) && decide (val c i ≤ hi.toInt64))
def eqs (b t : Nat → Nat) : Nat → Nat → Nat → Bool
  | 0, _, _ => true
  | n + 1, p, f => decide (b p = t f) && eqs b t n (p + 1) (f + 1)
def txt (t : Nat → Nat) (f n : Nat) : Sem := fun c i _ => decide (maj c i = 3) && (decide (nmb c i = n) && eqs c.1 t n (sta c i) f)
def tgS (v : Nat) (l : List alt) : Sem := fun c i lv => decide (maj c i = 6) && (decide (nmb c i = v) && lvl (lv + 1) (anyS l c (i + 1) (lv + 1)))
def leS (r : Nat) : Sem := fun c i lv => c.2.2 r i (lv + 1)
def ned (o : Nat) : Bool := decide (o = 49) || decide (o = 43)
def mny (o : Nat) : Bool := decide (o = 42) || decide (o = 43)
/-- items taken one after another -/
def tak (g : Nat → Nat) (f : Nat → Bool) (e : Nat) : Nat → Nat → Nat
  | 0, i => i
  | n + 1, i => if i < e ∧ f i = true then tak g f e n (g i) else i
def ents (c : ctx) (lv e : Nat) : List prt → Nat → Bool
  | [], i => decide (i = e)
  | p :: ps, i => if tak (bhd c) (fun x => lvl lv (anyS p.2.2.2.2 c x lv)) e (bif mny p.2.1 then 24 else 1) i = i ∧ ned p.2.1 = true then false else ents c lv e ps (tak (bhd c) (fun x => lvl lv (anyS p.2.2.2.2 c x lv)) e (bif mny p.2.1 then 24 else 1) i)
def arS (ps : List prt) : Sem := fun c i lv => decide (maj c i = 4) && ents c (lv + 1) (bhd c i) ps (i + 1)
/-- sets of members, after member m has a pair more -/
def put (F : Nat → Bool) (m : Nat) (mn : Bool) : Nat → Bool := fun s => s.testBit m && (F (s - 2 ^ m) || (mn && F s))
def pai (c : ctx) (lv k : Nat) (F : Nat → Bool) : List prt → Nat → Nat → Bool
  | [], _, _ => false
  | p :: ps, m, s => ((lvl lv (anyS p.2.2.1 c k lv) && lvl lv (anyS p.2.2.2.2 c (bhd c k) lv)) && put F m (mny p.2.1) s) || (!(lvl lv (anyS p.2.2.1 c k lv) && p.2.2.2.1) && pai c lv k F ps (m + 1) s)
def shr (c : ctx) (lv e : Nat) (ps : List prt) : Nat → Nat → (Nat → Bool) → Nat → Bool
  | 0, _, F => F
  | n + 1, k, F => if k < e then shr c lv e ps n (bhd c (bhd c k)) (pai c lv k F ps 0) else F
def neds : List prt → Nat → Nat → Bool
  | [], _, _ => true
  | p :: ps, m, s => (!ned p.2.1 || s.testBit m) && neds ps (m + 1) s
def maS (ps : List prt) : Sem := fun c i lv => decide (maj c i = 5) && anyF (fun s => shr c (lv + 1) (bhd c i) ps 24 (i + 1) (fun s => decide (s = 0)) s && neds ps 0 s) 64 0
-- reading
abbrev pst : Type := Nat × Nat × Nat
def chr (t : Nat → Nat) (n p : Nat) : Nat := if p < n then t p else 0
def dig (c : Nat) : Bool := decide (48 ≤ c) && decide (c ≤ 57)
def dgs (t : Nat → Nat) (n : Nat) : Nat → Nat → Nat → Nat × Nat
  | 0, p, v => (v, p)
  | k + 1, p, v => if dig (chr t n p) = true then dgs t n k (p + 1) (v * 10 + (chr t n p - 48)) else (v, p)
def sig (g : Bool) (v : Nat) : Int32 := bif g then - n32 v else n32 v
def pin (t : Nat → Nat) (n p : Nat) : Option (Int32 × Nat) :=
  if dig (chr t n (if chr t n p = 45 then p + 1 else p)) = true then some (sig (decide (chr t n p = 45)) (dgs t n 4 (if chr t n p = 45 then p + 1 else p) 0).1, (dgs t n 4 (if chr t n p = 45 then p + 1 else p) 0).2) else none
/-- kind, lower, higher, place behind -/
def pis (t : Nat → Nat) (n p : Nat) : Option (Nat × Int32 × Int32 × Nat) := match pin t n p with
  | none => none
  | some x => if chr t n x.2 = 46 then (if chr t n (x.2 + 1) = 46 then (match pin t n (x.2 + 2) with
    | none => none
    | some y => some (46, x.1, y.1, y.2)) else none) else some (48, x.1, x.1, x.2)
def clq (t : Nat → Nat) (n : Nat) : Nat → Nat → Nat
  | 0, p => p
  | k + 1, p => if chr t n p = 34 ∨ chr t n p = 0 then p else clq t n k (p + 1)
abbrev rdA : Type := Bool → pst → Option (List alt × pst)
def mor (t : Nat → Nat) (n : Nat) (A : rdA) (bare : Bool) : Nat → List alt → pst → Option (List alt × pst)
  | 0, l, s => some (l, s)
  | k + 1, l, s => if chr t n s.1 = 47 then (match A bare (s.1 + 1, s.2) with
    | none => none
    | some x => mor t n A bare k (l ++ x.1) x.2) else some (l, s)
def typ (t : Nat → Nat) (n : Nat) (A : rdA) : rdA := fun bare s => match A bare s with
  | none => none
  | some x => mor t n A bare 40 x.1 x.2
def btw (t : Nat → Nat) (n : Nat) (A : rdA) : rdA := fun bare s => if chr t n s.1 = 40 then (match typ t n A bare (s.1 + 1, s.2) with
  | none => none
  | some x => if chr t n x.2.1 = 41 then some (x.1, (x.2.1 + 1, x.2.2)) else none) else none
def oft (t : Nat → Nat) (n p : Nat) : Nat × Nat := if chr t n p = 63 ∨ chr t n p = 42 ∨ chr t n p = 43 then (chr t n p, p + 1) else (49, p)
def kep (l : List alt) (p : Nat) : Bool := match l with
  | [] => false
  | a :: _ => decide (a.1 = p) && (decide (a.2.2.1 = 48) || decide (a.2.2.1 = 34))
def prR (t : Nat → Nat) (n : Nat) (A : rdA) (mp : Bool) (x : Nat) (s : pst) : Option (prt × pst) :=
  if mp = true then (match A false ((oft t n s.1).2, s.2) with
    | none => none
    | some y => if chr t n y.2.1 = 58 then (match typ t n A false (y.2.1 + 1, y.2.2) with
      | none => none
      | some z => some ((x, (oft t n s.1).1, y.1, kep y.1 (oft t n s.1).2, z.1), z.2)) else none)
  else (match typ t n A false ((oft t n s.1).2, s.2) with
    | none => none
    | some z => some ((x, (oft t n s.1).1, [], false, z.1), z.2))
def prl (t : Nat → Nat) (n : Nat) (A : rdA) (mp : Bool) : Nat → List prt → pst → Option (List prt × pst)
  | 0, l, s => some (l, s)
  | k + 1, l, s => if chr t n s.1 = 44 then (match prR t n A mp s.1 (s.1 + 1, s.2) with
    | none => none
    | some x => prl t n A mp k (l ++ [x.1]) x.2) else some (l, s)
def pts (t : Nat → Nat) (n : Nat) (A : rdA) (mp : Bool) (cl : Nat) (s : pst) : Option (List prt × pst) :=
  if chr t n (s.1 + 1) = cl then some ([], (s.1 + 2, s.2)) else (match prR t n A mp s.1 (s.1 + 1, s.2) with
    | none => none
    | some x => (match prl t n A mp 5 [x.1] x.2 with
      | none => none
      | some y => if chr t n y.2.1 = cl then some (y.1, (y.2.1 + 1, y.2.2)) else none))
def isg (c : Nat) : Bool := decide (c = 105) || (decide (c = 115) || (decide (c = 116) || (decide (c = 98) || (decide (c = 110) || decide (c = 121)))))
def alS (t : Nat → Nat) (n f : Nat) (A : rdA) : rdA := fun bare s =>
  if chr t n s.1 = 40 then (if f = 0 then none else btw t n A bare s)
  else if chr t n s.1 = 0 then none
  else if chr t n s.1 = 91 then (if f = 0 then none else match pts t n A false 93 s with
    | none => none
    | some x => some ([(s.1, x.2.1, 91, arS x.1)], x.2))
  else if chr t n s.1 = 123 then (if f = 0 then none else match pts t n A true 125 s with
    | none => none
    | some x => some ([(s.1, x.2.1, 123, maS x.1)], x.2))
  else if chr t n s.1 = 35 then (if dig (chr t n (s.1 + 1)) = true then (if f = 0 then none else match btw t n A false (s.1 + 2, s.2) with
    | none => none
    | some x => some ([(s.1, x.2.1, 35, tgS (chr t n (s.1 + 1) - 48) x.1)], x.2)) else none)
  else if chr t n s.1 = 34 then (if chr t n (clq t n 40 (s.1 + 1)) = 34 then some ([(s.1, clq t n 40 (s.1 + 1) + 1, 34, txt t (s.1 + 1) (clq t n 40 (s.1 + 1) - (s.1 + 1)))], (clq t n 40 (s.1 + 1) + 1, s.2)) else none)
  else if chr t n s.1 = 45 ∨ dig (chr t n s.1) = true then (match pis t n s.1 with
    | none => none
    | some x => some ([(s.1, x.2.2.2, x.1, itg x.2.1 x.2.2.1)], (x.2.2.2, s.2)))
  else if 65 ≤ chr t n s.1 ∧ chr t n s.1 ≤ 72 then (if bare = true ∧ s.2.2.testBit (chr t n s.1 - 65) = true then none
    else some ([(s.1, s.1 + 1, 65, leS (chr t n s.1 - 65))], (s.1 + 1, s.2.1 ||| 2 ^ (chr t n s.1 - 65), bif bare then s.2.2 ||| 2 ^ (chr t n s.1 - 65) else s.2.2)))
  else if isg (chr t n s.1) = true then some ([(s.1, s.1 + 1, chr t n s.1, sgn (chr t n s.1))], (s.1 + 1, s.2)) else none
def alR (t : Nat → Nat) (n : Nat) : Nat → rdA
  | 0 => alS t n 0 fun _ _ => none
  | f + 1 => alS t n (f + 1) (alR t n f)
def par (t : Nat → Nat) (n : Nat) : Option (List alt × Nat × Nat) := match typ t n (alR t n 4) true (0, 0, 0) with
  | none => none
  | some x => if x.2.1 = n then some (x.1, x.2.2) else none
