-- Numbers, calls.
def n32 (n : Nat) : Int32 := Int32.ofNat n
def i32 (z : Int) : Int32 := Int32.ofInt z
def n64 (n : Nat) : Int64 := Int64.ofNat n
def cI (x : ab_R) (f : Int32 → ab_S → ab_R) : ab_R := ab_bd x fun r => if r.1.1 = 0 then f r.1.2.1 r.2 else some r
def cL (x : ab_R) (f : Int64 → ab_S → ab_R) : ab_R := ab_bd x fun r => if r.1.1 = 0 then f r.1.2.2.1 r.2 else some r
def cR (x : ab_R) (f : Nat → ab_S → ab_R) : ab_R := ab_bd x fun r => if r.1.1 = 0 then f r.1.2.2.2 r.2 else some r
def cV (x : ab_R) (f : ab_S → ab_R) : ab_R := ab_bd x fun r => if r.1.1 = 0 then f r.2 else some r
def cIh (k : Nat) (x : ab_R) (f : Int32 → ab_S → ab_R) : ab_R := ab_bd x fun r => if r.1.1 = 0 then f r.1.2.1 r.2 else ab_th k r
def cLh (k : Nat) (x : ab_R) (f : Int64 → ab_S → ab_R) : ab_R := ab_bd x fun r => if r.1.1 = 0 then f r.1.2.2.1 r.2 else ab_th k r
