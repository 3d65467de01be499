/-! what the tables say -/
abbrev wD : wME := (objectInit, ⟨#[]⟩, 0, 0, none, 0, 0, 0, 0, 0, 0, 0)
def mX (k : Nat) : wME := mE.getD k wD
def mN (k : Nat) : MethodName := (mX k).1
def mB (k : Nat) : ByteArray := (mX k).2.1
def mO (k : Nat) : Nat := (mX k).2.2.1
def mL (k : Nat) : Nat := (mX k).2.2.2.1
def mR (k : Nat) : Option FieldType := (mX k).2.2.2.2.1
def mA (k : Nat) : Nat := (mX k).2.2.2.2.2.1
def mF (k : Nat) : Nat := (mX k).2.2.2.2.2.2.2.2.2.2.1
def mQ (k : Nat) : Nat := (mX k).2.2.2.2.2.2.2.2.2.2.2
def lk {α : Type} : List (Nat × α) → Nat → Option α
  | [], _ => none
  | (a, v) :: r, q => if a = q then some v else lk r q
def pF (o q : Nat) : Option (Nat × Nat × Nat × Nat × Nat) := if q < 1000 then lk fT (o * 1000 + q) else none
def pM (o q : Nat) : Option (Nat × Nat × Nat) := if q < 1000 then lk mT (o * 1000 + q) else none
def pK (o q : Nat) : Option (Nat × Nat) := if q < 1000 then lk kT (o * 1000 + q) else none
def pC (o q : Nat) : Option (Int × Nat) := if q < 1000 then lk cT (o * 1000 + q) else none
def pS (o q : Nat) : Option (String × Nat) := if q < 1000 then lk sT (o * 1000 + q) else none
def pL (o q : Nat) : Option (Int × Nat) := if q < 1000 then lk lT (o * 1000 + q) else none
def hnd (k pc e : Nat) : Option (Nat × Nat) := (lk hT k).bind fun L => (L.find? fun q => decide (q.1 ≤ pc) && decide (pc < q.2.1) && decide (q.2.2.2.2.1 = e)).map fun q => (q.2.2.2.2.2.1, q.2.2.2.2.2.2)
/-- the kind of what an array of kind k holds: 0 int, 1 boolean, 2 long, 3 + kind -/
def elK (k : Nat) : Nat := if k = 13 then 0 else if k = 15 then 1 else if k = 14 then 2 else if k = 16 then 3 else if k = 17 then 4 else if k = 18 then 7 else if k = 19 then 12 else if k = 20 then 13 else 16
def arK (c : Nat) : Nat := if c = 0 then 16 else if c = 1 then 17 else if c = 4 then 18 else if c = 9 then 19 else 20
/-- where an object lies, counted from the first -/
def ad (x k i : Nat) : Nat := ((adL.getD x []).getD k []).getD (i - 1) 0
/-- the type of what stands at a place: 0 int, 1 boolean, 2 long, 3 + kind -/
def tyS (k s : Nat) : Nat := if k < 13 then (tyT.getD k []).getD s 0 else elK k
def aE (a : Nat) : Nat × Nat × Nat × Nat := aT.getD a (0, 99, 0, 0)
def nfK (K : Nat) : Nat := [9, 13, 9, 2, 7, 5, 6, 3, 4, 9, 17, 6, 6].getD K 0
