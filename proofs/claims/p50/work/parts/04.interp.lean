/-! AN INTERPRETER OF ITS OWN over the same bytes: values with references as (part, kind, number), a memory typed by kinds; its soundness over the machine is part 06 -/
abbrev AV : Type := Int32 ⊕ (Int64 ⊕ (Option (Nat × Nat × Nat) ⊕ Unit))
def vI (x : Int32) : AV := Sum.inl x
def vL (x : Int64) : AV := Sum.inr (Sum.inl x)
def vN : AV := Sum.inr (Sum.inr (Sum.inl none))
def vR (x k i : Nat) : AV := Sum.inr (Sum.inr (Sum.inl (if i = 0 then none else some (x, k, i))))
def vJ : AV := Sum.inr (Sum.inr (Sum.inr ()))
abbrev PM : Type := (Nat → Nat → Nat → Int32) × (Nat → Nat → Nat → Int64) × (Nat → Nat → Nat → Nat)
/-- the parts (0, 1: the exchanges; 2: the reference; 3: the class's own object, its log, the law's row; 4: the script), how many objects are made, the script's length, how many exceptions were made -/
abbrev Mem : Type := (Nat → PM) × (Nat × Nat × Nat)
def gI (M : Mem) (x k i s : Nat) : Int32 := (M.1 x).1 k i s
def gJ (M : Mem) (x k i s : Nat) : Int64 := (M.1 x).2.1 k i s
def gR (M : Mem) (x k i s : Nat) : Nat := (M.1 x).2.2 k i s
def u3 {α : Type} (f : Nat → Nat → Nat → α) (k i s : Nat) (v : α) : Nat → Nat → Nat → α := fun k' i' s' => if k' = k ∧ i' = i ∧ s' = s then v else f k' i' s'
def sP (M : Mem) (x : Nat) (p : PM) : Mem := (fun y => if y = x then p else M.1 y, M.2)
def sI (M : Mem) (x k i s : Nat) (v : Int32) : Mem := sP M x (u3 (M.1 x).1 k i s v, (M.1 x).2)
def sJ (M : Mem) (x k i s : Nat) (v : Int64) : Mem := sP M x ((M.1 x).1, u3 (M.1 x).2.1 k i s v, (M.1 x).2.2)
def sR (M : Mem) (x k i s : Nat) (v : Nat) : Mem := sP M x ((M.1 x).1, (M.1 x).2.1, u3 (M.1 x).2.2 k i s v)
def z2 {α : Type} (f : Nat → Nat → Nat → α) (k i : Nat) (v : α) : Nat → Nat → Nat → α := fun k' i' s' => if k' = k ∧ i' = i then v else f k' i' s'
/-- a new object (x, k, i), all of it 0 or null -/
def sN (M : Mem) (x k i : Nat) : Mem := (fun y => if y = x then (z2 (M.1 x).1 k i 0, z2 (M.1 x).2.1 k i 0, z2 (M.1 x).2.2 k i 0) else M.1 y, (M.2.1 + 1, M.2.2))
def lenA (M : Mem) (x k i : Nat) : Nat := if x = 4 then M.2.2.1 else (aE (ad x k i)).2.2.2
/-- the part in which what a field refers to lies: the class's own object refers to both exchanges -/
def xp (k s x : Nat) : Nat := if k = 11 ∧ s < 2 then s else x
/-- a value read: type 0 int, 1 boolean, 2 long, 3 + kind -/
def rdv (M : Mem) (x k i s t : Nat) : AV := match t with
  | 0 => vI (gI M x k i s)
  | 1 => vI (gI M x k i s)
  | 2 => vL (gJ M x k i s)
  | j + 3 => vR (xp k s x) j (gR M x k i s)
/-- a value written, if it is of the type -/
def wrv (M : Mem) (x k i s t : Nat) (v : AV) : Option Mem := match t, v with
  | 0, .inl y => some (sI M x k i s y)
  | 1, .inl y => if y = 0 ∨ y = 1 then some (sI M x k i s y) else none
  | 2, .inr (.inl y) => some (sJ M x k i s y)
  | j + 3, .inr (.inr (.inl none)) => some (sR M x k i s 0)
  | j + 3, .inr (.inr (.inl (some (x', k', i')))) => if x' = xp k s x ∧ k' = j then some (sR M x k i s i') else none
  | _, _ => none
abbrev inb (j : Int32) (n : Nat) : Prop := 0 ≤ j ∧ j.toNatClampNeg < n
abbrev Cfg : Type := Nat × Nat × List AV × List AV × Mem
abbrev Out : Type := Option AV ⊕ Nat
abbrev Nx : Type := Option (Out × Mem) ⊕ (Cfg ⊕ (Cfg × (Nat × Nat × List AV × List AV)))
def bad : Nx := Sum.inl none
def hlt (o : Out) (M : Mem) : Nx := Sum.inl (some (o, M))
def go (k pc : Nat) (la sa : List AV) (M : Mem) : Nx := Sum.inr (Sum.inl (k, pc, la, sa, M))
def iv (v : AV) : AV := match v with
  | .inr (.inl _) => vJ
  | v => v
def isL (v : AV) : Bool := match v with
  | .inr (.inl _) => true
  | _ => false
/-- a store of a value of one place; a long before it is gone -/
def st1 : List AV → Nat → AV → List AV
  | [], _, _ => []
  | _ :: r, 0, v => v :: r
  | a :: r, 1, v => iv a :: st1 r 0 v
  | a :: r, i + 2, v => a :: st1 r (i + 1) v
def st2 : List AV → Nat → AV → List AV
  | _ :: _ :: r, 0, v => v :: vJ :: r
  | a :: r, 1, v => iv a :: st2 r 0 v
  | a :: r, i + 2, v => a :: st2 r (i + 1) v
  | _, _, _ => []
def lay : List AV → List AV
  | [] => []
  | a :: r => if isL a then a :: vJ :: lay r else a :: lay r
def entr (c : Nat) (as : List AV) : List AV := lay as ++ List.replicate (mL c - (lay as).length) vJ
def ldl (la : List AV) (i : Nat) : AV := la.getD i vJ
def nIld (k pc i : Nat) (la sa : List AV) (M : Mem) : Nx := match ldl la i with
  | .inl x => go k pc la (vI x :: sa) M
  | _ => bad
def nLld (k pc i : Nat) (la sa : List AV) (M : Mem) : Nx := match ldl la i with
  | .inr (.inl x) => go k pc la (vL x :: sa) M
  | _ => bad
def nAld (k pc i : Nat) (la sa : List AV) (M : Mem) : Nx := match ldl la i with
  | .inr (.inr (.inl r)) => go k pc la (Sum.inr (Sum.inr (Sum.inl r)) :: sa) M
  | _ => bad
def nIst (k pc i : Nat) (la sa : List AV) (M : Mem) : Nx := match sa with
  | .inl x :: st => if i < la.length then go k pc (st1 la i (vI x)) st M else bad
  | _ => bad
def nLst (k pc i : Nat) (la sa : List AV) (M : Mem) : Nx := match sa with
  | .inr (.inl x) :: st => if i + 1 < la.length then go k pc (st2 la i (vL x)) st M else bad
  | _ => bad
def nAst (k pc i : Nat) (la sa : List AV) (M : Mem) : Nx := match sa with
  | .inr (.inr (.inl r)) :: st => if i < la.length then go k pc (st1 la i (Sum.inr (Sum.inr (Sum.inl r)))) st M else bad
  | _ => bad
def nII (k pc : Nat) (la sa : List AV) (M : Mem) (f : Int32 → Int32 → Int32) : Nx := match sa with
  | .inl y :: .inl x :: st => go k pc la (vI (f x y) :: st) M
  | _ => bad
def nLL (k pc : Nat) (la sa : List AV) (M : Mem) (f : Int64 → Int64 → Int64) : Nx := match sa with
  | .inr (.inl y) :: .inr (.inl x) :: st => go k pc la (vL (f x y) :: st) M
  | _ => bad
def tgt (pc : Nat) (off : Int) : Nat := ((pc : Int) + off).toNat
def okT (pc : Nat) (off : Int) : Prop := 0 ≤ (pc : Int) + off
def cmpI (c : Jvm.ClassFile.Cond) (x y : Int32) : Bool := match c with
  | .eq => decide (x = y)
  | .ne => decide (¬ x = y)
  | .lt => decide (x < y)
  | .ge => decide (y ≤ x)
  | .gt => decide (y < x)
  | .le => decide (x ≤ y)
def nIf (k pc : Nat) (la st : List AV) (M : Mem) (off : Int) (c : Bool) : Nx := if 0 ≤ (pc : Int) + off then (if c then go k (tgt pc off) la st M else go k (pc + 3) la st M) else bad
def nGet (k pc q : Nat) (la sa : List AV) (M : Mem) : Nx := match pF (mO k) q, sa with
  | some (K, S, t, _), .inr (.inr (.inl (some (x, K', i)))) :: st => if K' = K then go k (pc + 3) la (rdv M x K i S t :: st) M else bad
  | _, _ => bad
def nPut (k pc q : Nat) (la sa : List AV) (M : Mem) : Nx := match pF (mO k) q, sa with
  | some (K, S, t, f, _), v :: .inr (.inr (.inl (some (x, K', i)))) :: st => if K' = K ∧ x < 4 ∧ (f = 0 ∨ (f = 1 ∧ K = mO k ∧ (mN k).name = "<init>")) then (match wrv M x K i S t v with
      | some M' => go k (pc + 3) la st M'
      | none => bad) else bad
  | _, _ => bad
def nAget (k pc : Nat) (la sa : List AV) (M : Mem) (t : Nat → Bool) : Nx := match sa with
  | .inl j :: .inr (.inr (.inl (some (x, K, i)))) :: st => if t K = true ∧ inb j (lenA M x K i) then go k (pc + 1) la (rdv M x K i j.toNatClampNeg (elK K) :: st) M else bad
  | _ => bad
def nAput (k pc : Nat) (la sa : List AV) (M : Mem) (t : Nat → Bool) : Nx := match sa with
  | v :: .inl j :: .inr (.inr (.inl (some (x, K, i)))) :: st => if t K = true ∧ x < 4 ∧ inb j (lenA M x K i) then (match wrv M x K i j.toNatClampNeg (elK K) v with
      | some M' => go k (pc + 1) la st M'
      | none => bad) else bad
  | _ => bad
/-- the next object of the order -/
def nNew (k pc : Nat) (la st : List AV) (M : Mem) (K len : Nat) : Nx := match aE M.2.1 with
  | (x, K', i, len') => if K' = K ∧ len' = len ∧ M.2.2.2 = 0 then go k pc la (vR x K i :: st) (sN M x K i) else bad
def okC (k c : Nat) : Bool := decide (mF c + 1 ≤ mF k) && decide (19 + mL c + mQ c ≤ mQ k)
def recv (c kd : Nat) (as : List AV) : Bool := match kd, as with
  | 1, _ => true
  | _, .inr (.inr (.inl (some (x, K, _)))) :: _ => decide (K = mO c) && decide (x < 4)
  | _, _ => false
/-- of which sort the callee is: 0 by the receiver, 1 static, 2 and 3 a constructor -/
def okK (c kd : Nat) : Bool := match kd with
  | 0 => (decide (mSt c = 0) && decide (mO c < 13)) && !decide ((mN c).name = "<init>")
  | 1 => decide (mSt c = 1)
  | _ => (decide (mSt c = 0) && decide (mO c < 13)) && (decide ((mN c).name = "<init>") && ((lk hT c).isNone && (mR c).isNone))
def nInv (k pc q : Nat) (la sa : List AV) (M : Mem) (kd : Nat) : Nx := match pM (mO k) q with
  | some (c, kd', _) => if (kd' = kd ∧ mA c ≤ sa.length ∧ (lay (sa.drop (mA c))).length ≤ 8) ∧ okC k c = true ∧ (lay (sa.take (mA c)).reverse).length ≤ mL c ∧ (recv c kd (sa.take (mA c)).reverse = true ∧ okK c kd = true) then
      Sum.inr (Sum.inr ((c, 0, entr c (sa.take (mA c)).reverse, [], M), (k, pc + 3, la, sa.drop (mA c)))) else bad
  | none => bad
def nSpc (k pc q : Nat) (la sa : List AV) (M : Mem) : Nx := match pM (mO k) q, sa with
  | some (_, 4, _), .inr (.inr (.inl (some _))) :: st => if st.length ≤ 4 then go k (pc + 3) la st M else bad
  | some (_, 2, _), _ => nInv k pc q la sa M 2
  | some (_, 3, _), _ => nInv k pc q la sa M 3
  | _, _ => bad
/-- new E("text") and its throw, in one: the class's link, the constructor's, the exception -/
def tT : List (Nat × Nat × Nat × Nat) := [(11, 95, 99, 0), (11, 260, 264, 1), (11, 265, 269, 2)]
def thrS (k pc q e : Nat) : Bool := (decide (6 ≤ mF k) && decide (100 ≤ mQ k) && (lk hT k).isNone) && (match decode (mB k) (pc + 3), decode (mB k) (pc + 4) with
  | .ok (.dup, 1), .ok (.ldc i, 2) => (match decode (mB k) (pc + 6), decode (mB k) (pc + 9) with
    | .ok (.invokespecial ic, 3), .ok (.athrow, 1) => (pS (mO k) i).isSome && decide ((mO k, q, ic, e) ∈ tT)
    | _, _ => false)
  | .ok (.dup, 1), .ok (.ldc_w i, 3) => (match decode (mB k) (pc + 7), decode (mB k) (pc + 10) with
    | .ok (.invokespecial ic, 3), .ok (.athrow, 1) => (pS (mO k) i).isSome && decide ((mO k, q, ic, e) ∈ tT)
    | _, _ => false)
  | _, _ => false)
def nNewC (k pc q : Nat) (la sa : List AV) (M : Mem) : Nx := match pK (mO k) q with
  | some (K, _) => if K < 13 then nNew k (pc + 3) la sa M K (nfK K) else if 100 ≤ K ∧ thrS k pc q (K - 100) = true ∧ sa = [] then hlt (.inr (K - 100)) (M.1, (M.2.1, M.2.2.1, M.2.2.2 + 1)) else bad
  | none => bad
def nArr (k pc : Nat) (la sa : List AV) (M : Mem) (K : Nat) : Nx := match sa with
  | .inl n :: st => if 0 ≤ n then nNew k pc la st M K n.toNatClampNeg else bad
  | _ => bad
/-- the rows of a new array of arrays, and the outer one's places -/
def mRows (x K i : Nat) : Nat → Nat → Mem → Mem
  | 0, _, M => M
  | n + 1, j, M => match aE M.2.1 with
    | (x', K', i', _) => mRows x K i n (j + 1) (sR (sN M x' K' i') x K i j i')
def nMul (k pc q : Nat) (la sa : List AV) (M : Mem) : Nx := match sa with
  | .inl m :: .inl n :: st => if m = 4 ∧ n = 4 ∧ ((pK (mO k) q).map fun z => z.1) = some 21 ∧ M.2.1 ∈ mulA ∧ M.2.2.2 = 0 then (match aE M.2.1 with
      | (x, K, i, _) => go k pc la (vR x K i :: st) (mRows x K i 4 0 (sN M x K i))) else bad
  | _ => bad
def nTab (k pc : Nat) (la sa : List AV) (M : Mem) (d lo hi : Int) (os : Array Int) : Nx := match sa with
  | .inl x :: st => if x.toInt < lo ∨ hi < x.toInt then (if 0 ≤ (pc : Int) + d then go k (tgt pc d) la st M else bad) else (match os[(x.toInt - lo).toNat]? with
      | some o => if 0 ≤ (pc : Int) + o then go k (tgt pc o) la st M else bad
      | none => bad)
  | _ => bad
def nRet (k : Nat) (sa : List AV) (M : Mem) : Nx := match sa with
  | [.inl x] => (match mR k with
    | some .int => hlt (.inl (some (vI x))) M
    | some .boolean => hlt (.inl (some (vI (x &&& 1)))) M
    | _ => bad)
  | _ => bad
def nLret (k : Nat) (sa : List AV) (M : Mem) : Nx := match sa with
  | [.inr (.inl x)] => if mR k = some .long then hlt (.inl (some (vL x))) M else bad
  | _ => bad
def nAret (k : Nat) (sa : List AV) (M : Mem) : Nx := match sa with
  | [.inr (.inr (.inl r))] => (match mR k with
    | some (.object _) => hlt (.inl (some (Sum.inr (Sum.inr (Sum.inl r))))) M
    | _ => bad)
  | _ => bad
def nDup (k pc : Nat) (la sa : List AV) (M : Mem) : Nx := match sa with
  | a :: st => if isL a = false then go k (pc + 1) la (a :: a :: st) M else bad
  | _ => bad
def nDup2 (k pc : Nat) (la sa : List AV) (M : Mem) : Nx := match sa with
  | a :: b :: st => if isL a = false ∧ isL b = false then go k (pc + 1) la (a :: b :: a :: b :: st) M else bad
  | _ => bad
def nPop (k pc : Nat) (la sa : List AV) (M : Mem) : Nx := match sa with
  | a :: st => if isL a = false then go k (pc + 1) la st M else bad
  | _ => bad
def nInc (k pc i : Nat) (n : Int) (la sa : List AV) (M : Mem) : Nx := match ldl la i with
  | .inl x => go k (pc + 3) (st1 la i (vI (x + Int32.ofInt n))) sa M
  | _ => bad
def nAlen (k pc : Nat) (la sa : List AV) (M : Mem) : Nx := match sa with
  | .inr (.inr (.inl (some (x, K, i)))) :: st => if 13 ≤ K then go k (pc + 1) la (vI (Int32.ofNat (lenA M x K i)) :: st) M else bad
  | _ => bad
def nRef (k pc : Nat) (la sa : List AV) (M : Mem) (off : Int) (b : Bool) : Nx := match sa with
  | .inr (.inr (.inl r)) :: st => nIf k pc la st M off (r.isNone == b)
  | _ => bad
def nAcmp (k pc : Nat) (la sa : List AV) (M : Mem) (off : Int) (b : Bool) : Nx := match sa with
  | .inr (.inr (.inl r)) :: .inr (.inr (.inl r')) :: st => nIf k pc la st M off (decide (r' = r) == b)
  | _ => bad
/-- a shift without sign -/
def ush (x y : Int32) : Int32 := (x.toUInt32 >>> (y.toUInt32 &&& Int32.toUInt32 31)).toInt32
def nxi (k pc : Nat) (la sa : List AV) (M : Mem) (i : Instr) : Nx := match i with
  | .iconst n => go k (pc + 1) la (vI (Int32.ofInt n) :: sa) M
  | .bipush n => go k (pc + 2) la (vI (Int8.ofInt n).toInt32 :: sa) M
  | .sipush n => go k (pc + 3) la (vI (Int16.ofInt n).toInt32 :: sa) M
  | .lconst n => go k (pc + 1) la (vL (Int64.ofNat (n : Nat)) :: sa) M
  | .aconst_null => go k (pc + 1) la (vN :: sa) M
  | .ldc q => (match pC (mO k) q with
    | some (v, _) => go k (pc + 2) la (vI (Int32.ofInt v) :: sa) M
    | none => bad)
  | .ldc2_w q => (match pL (mO k) q with
    | some (v, _) => go k (pc + 3) la (vL (Int64.ofInt v) :: sa) M
    | none => bad)
  | .iload_n n => nIld k (pc + 1) n la sa M
  | .iload n => nIld k (pc + 2) n la sa M
  | .lload_n n => nLld k (pc + 1) n la sa M
  | .lload n => nLld k (pc + 2) n la sa M
  | .aload_n n => nAld k (pc + 1) n la sa M
  | .aload n => nAld k (pc + 2) n la sa M
  | .istore_n n => nIst k (pc + 1) n la sa M
  | .istore n => nIst k (pc + 2) n la sa M
  | .lstore_n n => nLst k (pc + 1) n la sa M
  | .lstore n => nLst k (pc + 2) n la sa M
  | .astore_n n => nAst k (pc + 1) n la sa M
  | .astore n => nAst k (pc + 2) n la sa M
  | .iinc i n => nInc k pc i n la sa M
  | .iadd => nII k (pc + 1) la sa M (fun x y => x + y)
  | .isub => nII k (pc + 1) la sa M (fun x y => x - y)
  | .imul => nII k (pc + 1) la sa M (fun x y => x * y)
  | .iand => nII k (pc + 1) la sa M (fun x y => x &&& y)
  | .ixor => nII k (pc + 1) la sa M (fun x y => x ^^^ y)
  | .iushr => nII k (pc + 1) la sa M ush
  | .idiv => (match sa with
    | .inl y :: .inl x :: st => if y = 0 then bad else go k (pc + 1) la (vI (x / y) :: st) M
    | _ => bad)
  | .irem => (match sa with
    | .inl y :: .inl x :: st => if y = 0 then bad else go k (pc + 1) la (vI (x - x / y * y) :: st) M
    | _ => bad)
  | .ineg => (match sa with
    | .inl x :: st => go k (pc + 1) la (vI (-x) :: st) M
    | _ => bad)
  | .ladd => nLL k (pc + 1) la sa M (fun x y => x + y)
  | .lsub => nLL k (pc + 1) la sa M (fun x y => x - y)
  | .lmul => nLL k (pc + 1) la sa M (fun x y => x * y)
  | .lxor => nLL k (pc + 1) la sa M (fun x y => x ^^^ y)
  | .ldiv => (match sa with
    | .inr (.inl y) :: .inr (.inl x) :: st => if y = 0 then bad else go k (pc + 1) la (vL (x / y) :: st) M
    | _ => bad)
  | .lrem => (match sa with
    | .inr (.inl y) :: .inr (.inl x) :: st => if y = 0 then bad else go k (pc + 1) la (vL (x - x / y * y) :: st) M
    | _ => bad)
  | .lneg => (match sa with
    | .inr (.inl x) :: st => go k (pc + 1) la (vL (-x) :: st) M
    | _ => bad)
  | .i2l => (match sa with
    | .inl x :: st => go k (pc + 1) la (vL x.toInt64 :: st) M
    | _ => bad)
  | .l2i => (match sa with
    | .inr (.inl x) :: st => go k (pc + 1) la (vI x.toInt32 :: st) M
    | _ => bad)
  | .lcmp => (match sa with
    | .inr (.inl y) :: .inr (.inl x) :: st => go k (pc + 1) la (vI (lg_cmp x y) :: st) M
    | _ => bad)
  | .dup => nDup k pc la sa M
  | .dup2 => nDup2 k pc la sa M
  | .pop => nPop k pc la sa M
  | .ifCond c off => (match sa with
    | .inl x :: st => nIf k pc la st M off (cmpI c x 0)
    | _ => bad)
  | .if_icmp c off => (match sa with
    | .inl y :: .inl x :: st => nIf k pc la st M off (cmpI c x y)
    | _ => bad)
  | .ifnull off => nRef k pc la sa M off true
  | .ifnonnull off => nRef k pc la sa M off false
  | .if_acmp .eq off => nAcmp k pc la sa M off true
  | .if_acmp .ne off => nAcmp k pc la sa M off false
  | .goto off => if 0 ≤ (pc : Int) + off then go k (tgt pc off) la sa M else bad
  | .tableswitch d lo hi os => nTab k pc la sa M d lo hi os
  | .getfield q => nGet k pc q la sa M
  | .putfield q => nPut k pc q la sa M
  | .iaload => nAget k pc la sa M (fun K => decide (K = 13))
  | .laload => nAget k pc la sa M (fun K => decide (K = 14))
  | .aaload => nAget k pc la sa M (fun K => decide (16 ≤ K) && decide (K < 22))
  | .iastore => nAput k pc la sa M (fun K => decide (K = 13))
  | .lastore => nAput k pc la sa M (fun K => decide (K = 14))
  | .aastore => nAput k pc la sa M (fun K => decide (16 ≤ K) && decide (K < 21))
  | .arraylength => nAlen k pc la sa M
  | .new q => nNewC k pc q la sa M
  | .newarray .int => nArr k (pc + 2) la sa M 13
  | .newarray .long => nArr k (pc + 2) la sa M 14
  | .anewarray q => (match pK (mO k) q with
    | some (c, _) => if c ∈ [0, 1, 4, 9, 10] then nArr k (pc + 3) la sa M (arK c) else bad
    | none => bad)
  | .multianewarray q 2 => nMul k (pc + 4) q la sa M
  | .invokevirtual q => nInv k pc q la sa M 0
  | .invokestatic q => nInv k pc q la sa M 1
  | .invokespecial q => nSpc k pc q la sa M
  | .ireturn => nRet k sa M
  | .lreturn => nLret k sa M
  | .areturn => nAret k sa M
  | .return_ => if mR k = none ∧ sa = [] then hlt (.inl none) M else bad
  | _ => bad
/-- an instruction's length, in its plain form -/
def iln (i : Instr) (len : Nat) : Bool := match i with
  | .tableswitch _ _ _ _ => true
  | .bipush _ => decide (len = 2)
  | .iload _ => decide (len = 2)
  | .istore _ => decide (len = 2)
  | .lload _ => decide (len = 2)
  | .lstore _ => decide (len = 2)
  | .aload _ => decide (len = 2)
  | .astore _ => decide (len = 2)
  | .ldc _ => decide (len = 2)
  | .newarray _ => decide (len = 2)
  | .sipush _ => decide (len = 3)
  | .ldc_w _ => decide (len = 3)
  | .ldc2_w _ => decide (len = 3)
  | .iinc _ _ => decide (len = 3)
  | .ifCond _ _ => decide (len = 3)
  | .if_icmp _ _ => decide (len = 3)
  | .if_acmp _ _ => decide (len = 3)
  | .ifnull _ => decide (len = 3)
  | .ifnonnull _ => decide (len = 3)
  | .goto _ => decide (len = 3)
  | .getfield _ => decide (len = 3)
  | .putfield _ => decide (len = 3)
  | .invokevirtual _ => decide (len = 3)
  | .invokespecial _ => decide (len = 3)
  | .invokestatic _ => decide (len = 3)
  | .new _ => decide (len = 3)
  | .anewarray _ => decide (len = 3)
  | .multianewarray _ _ => decide (len = 4)
  | _ => decide (len = 1)
def nx (c : Cfg) : Nx := match decode (mB c.1) c.2.1 with
  | .ok (i, len) => if iln i len = true then nxi c.1 c.2.1 c.2.2.1 c.2.2.2.1 c.2.2.2.2 i else bad
  | .error _ => bad
def spc (k pc : Nat) : Bool := match decode (mB k) pc with
  | .ok (.invokespecial _, _) => true
  | _ => false
/-- where a method goes on behind a call; no constructor throws -/
def aft (k pc : Nat) (la sa : List AV) (r : Out × Mem) : Option (Out × Mem) ⊕ Cfg := match r with
  | (.inl (some v), M1) => Sum.inr (k, pc, la, v :: sa, M1)
  | (.inl none, M1) => Sum.inr (k, pc, la, sa, M1)
  | (.inr e, M1) => if spc k (pc - 3) = true then Sum.inl none else match hnd k (pc - 3) e with
    | none => Sum.inl (some (.inr e, M1))
    | some (h, j) => if j < la.length then Sum.inr (k, h, st1 la j vJ, [], M1) else Sum.inl none
def exec : Nat → Cfg → Option (Out × Mem)
  | 0, _ => none
  | n + 1, c => match nx c with
    | .inl r => r
    | .inr (.inl c') => exec n c'
    | .inr (.inr (c', (k, pc, la, sa))) => match exec n c' with
      | none => none
      | some r => match aft k pc la sa r with
        | .inl r' => r'
        | .inr c'' => exec n c''
