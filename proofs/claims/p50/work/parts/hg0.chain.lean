/-! the memory of an exchange as its constructors make it -/
def Zp : PM := (fun _ _ _ => 0, fun _ _ _ => 0, fun _ _ _ => 0)
def e1 : PM := pN Zp 5 1
def e2 : PM := pN e1 17 1
def bki (p : PM) (b : Nat) : PM := pI (pI (pI p 1 (b + 1) 0 (cn b)) 1 (b + 1) 1 (if b < 4 then cn b else cn b - cn 4)) 1 (b + 1) 2 (if b < 4 then cn (-100000) else cn b - cn 4 + cn 1)
def bk : Nat → PM
  | 0 => e2
  | b + 1 => pR (bki (pN (bk b) 1 (b + 1)) b) 17 1 b (b + 1)
def e4 : PM := pN (bk 6) 7 1
def e5 : PM := pR (pN e4 16 1) 7 1 0 1
def e6 : PM := pR (pN e5 18 1) 7 1 1 1
def aci (p : PM) (a : Nat) : PM := pI (pI (pR (pN (pR (pN p 13 (2 * a + 1)) 0 (a + 1) 2 (2 * a + 1)) 13 (2 * a + 2)) 0 (a + 1) 3 (2 * a + 2)) 0 (a + 1) 0 (cn a)) 0 (a + 1) 1 (cn a / cn 2)
def ac : Nat → PM
  | 0 => e6
  | a + 1 => pR (aci (pN (ac a) 0 (a + 1)) a) 16 1 a (a + 1)
def dli (p : PM) (k : Nat) : PM := pR (pR (pR p 4 (k + 1) 0 1) 4 (k + 1) 1 9) 4 (k + 1) 2 9
def dl : Nat → PM
  | 0 => ac 9
  | k + 1 => pR (dli (pN (dl k) 4 (k + 1)) k) 18 1 k (k + 1)
def e9 : PM := pR (dl 60) 5 1 1 1
def e10 : PM := pN e9 6 1
def e11 : PM := pR (pN e10 20 1) 6 1 1 1
def e12 : PM := pR e11 6 1 0 1
def ori (p : PM) (i : Nat) : PM := pR (pR p 10 (i + 1) 3 9) 10 (i + 1) 4 1
def orr : Nat → PM
  | 0 => e12
  | i + 1 => pR (ori (pN (orr i) 10 (i + 1)) i) 20 1 i (i + 1)
def e14 : PM := pR (orr 40) 5 1 0 1
def e15 : PM := pN e14 8 1
def e16 : PM := pR (pN e15 20 2) 8 1 2 2
def e17 : PM := pR (pN e16 13 19) 8 1 3 19
def e19 : PM := pR (pR e17 8 1 0 1) 8 1 1 1
def qu : Nat → PM
  | 0 => e19
  | i + 1 => pR (qu i) 20 2 i (i + 1)
def e21 : PM := pR (qu 40) 5 1 2 1
def e22 : PM := pN e21 3 1
def e23 : PM := pR (pR e22 3 1 0 1) 3 1 1 1
def e24 : PM := pR e23 5 1 3 1
def e25 : PM := pN e24 2 1
def e26 : PM := pR (pN e25 19 1) 2 1 2 1
def e27a : PM := pR (pN (pN e26 21 1) 13 20) 21 1 0 20
def e27b : PM := pR (pN e27a 13 21) 21 1 1 21
def e27c : PM := pR (pN e27b 13 22) 21 1 2 22
def e27 : PM := pR (pN e27c 13 23) 21 1 3 23
def e28 : PM := pR e27 2 1 3 1
def e29 : PM := pR (pR e28 2 1 0 1) 2 1 1 1
def mb : Nat → PM
  | 0 => e29
  | m + 1 => pR (pN (mb m) 9 (m + 1)) 19 1 m (m + 1)
def e31 : PM := pR (mb 4) 5 1 4 1
