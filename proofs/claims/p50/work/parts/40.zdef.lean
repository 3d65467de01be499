/-! Z: one part of the memory alone; an evaluator of resolved code over any answers (values; the conditions on them) -/
abbrev ZV : Type := Int ⊕ (Int32 ⊕ (Int64 ⊕ ((Nat × Nat) ⊕ Unit)))
def zC (n : Int) : ZV := Sum.inl n
def zI (x : Int32) : ZV := Sum.inr (Sum.inl x)
def zL (x : Int64) : ZV := Sum.inr (Sum.inr (Sum.inl x))
def zR (k i : Nat) : ZV := Sum.inr (Sum.inr (Sum.inr (Sum.inl (k, i))))
def zJ : ZV := Sum.inr (Sum.inr (Sum.inr (Sum.inr ())))
def cn (n : Int) : Int32 := Int32.ofInt n
def cl (n : Int) : Int64 := Int64.ofInt n
def em (x : Nat) (v : ZV) : AV := match v with
  | .inl n => vI (cn n)
  | .inr (.inl y) => vI y
  | .inr (.inr (.inl y)) => vL y
  | .inr (.inr (.inr (.inl (k, i)))) => vR x k i
  | .inr (.inr (.inr (.inr _))) => vJ
def pI (p : PM) (k i s : Nat) (v : Int32) : PM := (u3 p.1 k i s v, p.2)
def pJ (p : PM) (k i s : Nat) (v : Int64) : PM := (p.1, u3 p.2.1 k i s v, p.2.2)
def pR (p : PM) (k i s : Nat) (v : Nat) : PM := (p.1, p.2.1, u3 p.2.2 k i s v)
def b01 (x : Int32) : Prop := x = 0 ∨ x = 1
def irm (x y : Int32) : Int32 := x - x / y * y
def lrm (x y : Int64) : Int64 := x - x / y * y
/-- lengths of the arrays of a part (0: an exchange, else the reference), by kind and number -/
def zlT (w K : Nat) : List Nat := match w with
  | 0 => (match K with
    | 13 => [4, 4, 4, 4, 4, 4, 4, 4, 4, 4, 4, 4, 4, 4, 4, 4, 4, 4, 40, 4, 4, 4, 4]
    | 16 => [9]
    | 17 => [6]
    | 18 => [60]
    | 19 => [4]
    | 20 => [40, 40]
    | 21 => [4]
    | _ => [])
  | _ => (match K with
    | 13 => [36, 32, 8, 8, 8, 6, 6, 6, 6, 6, 6, 6, 6, 44, 44, 44, 44, 44, 44, 44, 44, 44, 44, 44, 44, 44, 44, 44, 44, 60, 60, 60, 60, 60, 16, 4, 4, 4, 4, 3640, 44, 44]
    | 14 => [9, 4, 4]
    | 15 => [8, 6, 44, 44, 44, 44, 60, 60, 4, 4]
    | _ => [])
def zln (w K i : Nat) : Nat := match i with
  | 0 => 0
  | j + 1 => (zlT w K).getD j 0
/-- references that never change: kind, place, number -/
def grT (w : Nat) : List (Nat × Nat × Nat) := match w with
  | 0 => [(2, 0, 1), (2, 1, 1), (2, 2, 1), (2, 3, 1), (3, 0, 1), (3, 1, 1), (5, 0, 1), (5, 1, 1), (5, 2, 1), (5, 3, 1), (5, 4, 1), (6, 0, 1), (6, 1, 1), (7, 0, 1), (7, 1, 1), (8, 0, 1), (8, 1, 1), (8, 2, 2), (8, 3, 19)]
  | _ => [(12, 1, 1), (12, 2, 1), (12, 3, 2), (12, 4, 3), (12, 5, 4), (12, 6, 1), (12, 7, 5), (12, 8, 6), (12, 9, 7), (12, 10, 8), (12, 11, 9), (12, 12, 10), (12, 13, 11), (12, 14, 12), (12, 15, 13), (12, 16, 2), (12, 19, 3), (12, 20, 14), (12, 21, 15), (12, 22, 16), (12, 23, 4), (12, 24, 17), (12, 25, 5), (12, 26, 18), (12, 27, 19), (12, 28, 20), (12, 29, 21), (12, 30, 22), (12, 31, 23), (12, 32, 24), (12, 33, 25), (12, 34, 26), (12, 35, 27), (12, 36, 28), (12, 37, 6), (12, 38, 29), (12, 41, 30), (12, 42, 31), (12, 43, 32), (12, 44, 33), (12, 45, 34), (12, 46, 7), (12, 47, 8), (12, 49, 35), (12, 51, 36), (12, 52, 37), (12, 53, 38), (12, 54, 9), (12, 55, 10), (12, 56, 39), (12, 59, 40), (12, 62, 41), (12, 63, 42), (12, 66, 2), (12, 67, 3)]
/-- arrays of objects that never change: kind, number of the first, length -/
def geT : List (Nat × Nat × Nat) := [(16, 1, 9), (17, 1, 6), (18, 1, 60), (19, 1, 4), (20, 1, 40), (21, 20, 4)]
/-- places of references that change -/
def dyT : List (Nat × Nat) := [(10, 3), (10, 4), (4, 0), (4, 1), (4, 2)]
def Gr (w : Nat) (p : PM) : Prop := (∀ q ∈ grT w, p.2.2 q.1 1 q.2.1 = q.2.2) ∧ (w = 0 → (∀ i, ¬ i = 0 → i ≤ 9 → p.2.2 0 i 2 = 2 * i - 1 ∧ p.2.2 0 i 3 = 2 * i) ∧ ∀ q ∈ geT, ∀ s, s < q.2.2 → p.2.2 q.1 1 s = s + q.2.1)
def okx (w x : Nat) : Prop := (w = 0 ∧ (x = 0 ∨ x = 1)) ∨ (w = 2 ∧ False)
/-- the judgement: from here on, in any memory with this part, the method answers that -/
def ZJ (w k pc : Nat) (la sa : List ZV) (p : PM) (r : Option ZV × PM) : Prop := (∀ x M, okx w x → X k pc (la.map (em x)) (sa.map (em x)) (sP M x p) = some (.inl (r.1.map (em x)), sP M x r.2)) ∧ Gr w r.2
/-- operands -/
def zi {R : Type} (v : ZV) (jk : R) (f : Int32 → R) : R := match v with
  | .inl n => f (cn n)
  | .inr (.inl y) => f y
  | _ => jk
def zl {R : Type} (v : ZV) (jk : R) (f : Int64 → R) : R := match v with
  | .inr (.inr (.inl y)) => f y
  | _ => jk
def zr {R : Type} (v : ZV) (jk : R) (f : Nat → Nat → R) : R := match v with
  | .inr (.inr (.inr (.inl (k, i)))) => f k i
  | _ => jk
def z0 {R : Type} (sa : List ZV) (jk : R) (f : ZV → List ZV → R) : R := match sa with
  | v :: st => f v st
  | [] => jk
def zsw {R : Type} (b : Bool) (jk : R) (r : R) : R := match b with
  | true => r
  | false => jk
def znl (v : ZV) : Bool := match v with
  | .inr (.inr (.inl _)) => false
  | _ => true
def ziv (v : ZV) : ZV := match v with
  | .inr (.inr (.inl _)) => zJ
  | v => v
def zs1 : List ZV → Nat → ZV → List ZV
  | [], _, _ => []
  | _ :: r, 0, v => v :: r
  | a :: r, 1, v => ziv a :: zs1 r 0 v
  | a :: r, i + 2, v => a :: zs1 r (i + 1) v
def zs2 : List ZV → Nat → ZV → List ZV
  | _ :: _ :: r, 0, v => v :: zJ :: r
  | a :: r, 1, v => ziv a :: zs2 r 0 v
  | a :: r, i + 2, v => a :: zs2 r (i + 1) v
  | _, _, _ => []
def zlay : List ZV → List ZV
  | [] => []
  | a :: r => match znl a with
    | false => a :: zJ :: zlay r
    | true => a :: zlay r
def zent (c : Nat) (as : List ZV) : List ZV := zlay as ++ List.replicate (mL c - (zlay as).length) zJ
def zld (la : List ZV) (i : Nat) : ZV := la.getD i zJ
/-- types of values: 0 int, 1 long, 2 anything, 3 + kind -/
def tck (v : ZV) (t : Nat) : Bool := match t with
  | 0 => (match v with
    | .inl _ => true
    | .inr (.inl _) => true
    | _ => false)
  | 1 => (match v with
    | .inr (.inr (.inl _)) => true
    | _ => false)
  | 2 => true
  | j + 3 => (match v with
    | .inr (.inr (.inr (.inl (k, _)))) => Nat.beq k j
    | _ => false)
def tchk : List ZV → List Nat → Bool
  | [], [] => true
  | v :: r, t :: ts => tck v t && tchk r ts
  | _, _ => false
def spl : Nat → List ZV → List ZV → Option (List ZV × List ZV)
  | 0, sa, acc => some (acc, sa)
  | n + 1, v :: sa, acc => spl n sa (v :: acc)
  | _ + 1, [], _ => none
def ai (la : List ZV) (j : Nat) : Int32 := match la.getD j zJ with
  | .inl n => cn n
  | .inr (.inl y) => y
  | _ => 0
def al (la : List ZV) (j : Nat) : Int64 := match la.getD j zJ with
  | .inr (.inr (.inl y)) => y
  | _ => 0
def ar (la : List ZV) (j : Nat) : Nat := match la.getD j zJ with
  | .inr (.inr (.inr (.inl (_, i)))) => i
  | _ => 0
/-- method, types of its arguments, what it answers (0 nothing), does it leave the memory; values; conditions -/
abbrev Cal : Type := Nat × List Nat × Nat × Bool × (List ZV → PM → ZV × PM) × (List ZV → PM → Prop)
/-- pc, instruction, length, cut, (a, b, c, d, e, n) -/
abbrev Row : Type := Nat × Instr × Nat × Nat × (Nat × Nat × Nat × Nat × Nat × Int)
def frm : List Row → Nat → List Row
  | [], _ => []
  | r :: t, pc => match Nat.beq r.1 pc with
    | true => r :: t
    | false => frm t pc
def bra {R : Type} (c : Jvm.ClassFile.Cond) (x y : Int32) (T F : R) : R := match c with
  | .eq => if x = y then T else F
  | .ne => if x = y then F else T
  | .lt => if x < y then T else F
  | .ge => if x < y then F else T
  | .gt => if y < x then T else F
  | .le => if y < x then F else T
def cmz (c : Jvm.ClassFile.Cond) (m : Int) : Bool := match c with
  | .eq => decide (m = 0)
  | .ne => !decide (m = 0)
  | .lt => decide (m < 0)
  | .ge => !decide (m < 0)
  | .gt => decide (0 < m)
  | .le => !decide (0 < m)
def rng (m : Int) : Bool := decide (-2147483648 ≤ m) && decide (m ≤ 2147483647)
def c01 (m : Int) : Bool := decide (m = 0) || decide (m = 1)
def cps (m : Int) : Bool := decide (0 < m) && decide (m ≤ 2147483647)
section ZX
variable {σ R : Type} (w : Nat) (cs : List Cal) (pm : σ → PM) (up : σ → PM → Option σ) (gd : Prop → R → R) (jk : R) (rI : Int32 → σ → R) (rL : Int64 → σ → R) (rR : Nat → σ → R) (rV : σ → R)
def zup (s : σ) (p : PM) (f : σ → R) : R := match up s p with
  | some s' => f s'
  | none => jk
def rcv (d i : Nat) (r : R) : R := match d with
  | 0 => gd (¬ i = 0) r
  | _ => (match i with
    | 0 => jk
    | _ + 1 => r)
def zGet (s : σ) (a i b c d e : Nat) (f : ZV → R) : R := match c with
  | 0 => rcv gd jk d i (f (zI ((pm s).1 a i b)))
  | 1 => rcv gd jk d i (f (zI ((pm s).1 a i b)))
  | 2 => rcv gd jk d i (f (zL ((pm s).2.1 a i b)))
  | j + 3 => (match d with
    | 0 => gd (¬ i = 0) (f (zR j ((pm s).2.2 a i b)))
    | 1 => rcv gd jk 1 i (f (zR j ((pm s).2.2 a i b)))
    | 2 => zsw (Nat.beq i 1) jk (f (zR j e))
    | 3 => gd (¬ i = 0 ∧ i ≤ 9) (f (zR j (2 * i - 1)))
    | 4 => gd (¬ i = 0 ∧ i ≤ 9) (f (zR j (2 * i)))
    | _ => jk)
def zPut (s : σ) (a i b c d : Nat) (v : ZV) (f : σ → R) : R := match c with
  | 0 => zi v jk fun x => rcv gd jk d i (zup up jk s (pI (pm s) a i b x) f)
  | 1 => (match v with
    | .inl m => zsw (c01 m) jk (rcv gd jk d i (zup up jk s (pI (pm s) a i b (cn m)) f))
    | _ => zi v jk fun x => rcv gd jk d i (gd (b01 x) (zup up jk s (pI (pm s) a i b x) f)))
  | 2 => zl v jk fun x => rcv gd jk d i (zup up jk s (pJ (pm s) a i b x) f)
  | j + 3 => zr v jk fun k' i' => zsw (Nat.beq k' j) jk (rcv gd jk d i (zup up jk s (pR (pm s) a i b i') f))
/-- an index into an array of kind a, number i: its length b, told by the mode c -/
def zIx (a i b c : Nat) (j : ZV) (f : Nat → R) : R := match c with
  | 0 => zsw (Nat.beq (zln w a i) b) jk (match j with
    | .inl m => zsw (decide (0 ≤ m) && decide (m < (b : Int)) && rng m) jk (f m.toNat)
    | _ => zi j jk fun x => gd (inb x b) (f x.toNatClampNeg))
  | 1 => zi j jk fun x => gd ((¬ i = 0 ∧ i ≤ 18) ∧ inb x 4) (f x.toNatClampNeg)
  | 2 => zi j jk fun x => gd ((20 ≤ i ∧ i ≤ 23) ∧ inb x 4) (f x.toNatClampNeg)
  | _ => zi j jk fun x => gd (¬ i = 0 ∧ inb x (zln w a i)) (f x.toNatClampNeg)
def zSt (s : σ) (a i q d : Nat) (v : ZV) (f : σ → R) : R := match d with
  | 0 => zi v jk fun x => zup up jk s (pI (pm s) a i q x) f
  | 1 => (match v with
    | .inl m => zsw (c01 m) jk (zup up jk s (pI (pm s) a i q (cn m)) f)
    | _ => zi v jk fun x => gd (b01 x) (zup up jk s (pI (pm s) a i q x) f))
  | 2 => zl v jk fun x => zup up jk s (pJ (pm s) a i q x) f
  | _ => zr v jk fun k' i' => zsw (Nat.beq k' 10 && Nat.beq i 2) jk (zup up jk s (pR (pm s) a i q i') f)
def zLd (s : σ) (a i q d e : Nat) (f : ZV → R) : R := match a with
  | 13 => f (zI ((pm s).1 13 i q))
  | 15 => f (zI ((pm s).1 15 i q))
  | 14 => f (zL ((pm s).2.1 14 i q))
  | _ => (match d with
    | 0 => f (zR (elK a - 3) ((pm s).2.2 a i q))
    | _ => zsw (Nat.beq i 1) jk (f (zR (elK a - 3) (q + e))))
def zAln (a i b c : Nat) (n : Int) (f : ZV → R) : R := match c with
  | 0 => zsw (Nat.beq (zln w a i) b) jk (f (zC n))
  | 1 => gd (¬ i = 0 ∧ i ≤ 18) (f (zC n))
  | 2 => gd (20 ≤ i ∧ i ≤ 23) (f (zC n))
  | _ => jk
def zCall (s : σ) (C : Cal) (e : Nat) (as st la : List ZV) (K : List ZV → List ZV → σ → R) : R :=
  zsw (tchk as C.2.1 && Nat.ble (zlay st).length 8) jk
    ((fun r : R => match e with
      | 0 => r
      | e + 1 => z0 as jk fun v _ => zr v jk fun _ i => rcv gd jk (1 - e) i r)
    (gd (C.2.2.2.2.2 as (pm s)) (match C.2.2.1, C.2.2.2.1 with
      | 0, true => K la st s
      | 0, false => zup up jk s (C.2.2.2.2.1 as (pm s)).2 fun s' => K la st s'
      | _ + 1, true => K la ((C.2.2.2.2.1 as (pm s)).1 :: st) s
      | _ + 1, false => zup up jk s (C.2.2.2.2.1 as (pm s)).2 fun s' => K la ((C.2.2.2.2.1 as (pm s)).1 :: st) s')))
def swt (x : Int32) (J : Int → R) : List Int → Int → R → R
  | [], _, r => r
  | o :: t, lo, r => if x = cn lo then J o else swt x J t (lo + 1) r
def zX (K : List ZV → List ZV → σ → R) (J : Nat → List ZV → List ZV → σ → R) (pc : Nat) (i : Instr) (a b c d e : Nat) (n : Int) (la sa : List ZV) (s : σ) : R := match i with
  | .iconst _ => K la (zC n :: sa) s
  | .bipush _ => K la (zC n :: sa) s
  | .sipush _ => K la (zC n :: sa) s
  | .ldc _ => K la (zC n :: sa) s
  | .lconst _ => K la (zL (cl n) :: sa) s
  | .ldc2_w _ => K la (zL (cl n) :: sa) s
  | .aconst_null => K la (zR a 0 :: sa) s
  | .iload_n j => zi (zld la j) jk fun _ => K la (zld la j :: sa) s
  | .iload j => zi (zld la j) jk fun _ => K la (zld la j :: sa) s
  | .lload_n j => zl (zld la j) jk fun _ => K la (zld la j :: sa) s
  | .lload j => zl (zld la j) jk fun _ => K la (zld la j :: sa) s
  | .aload_n j => zr (zld la j) jk fun _ _ => K la (zld la j :: sa) s
  | .aload j => zr (zld la j) jk fun _ _ => K la (zld la j :: sa) s
  | .istore_n j => z0 sa jk fun v st => zi v jk fun _ => zsw (Nat.blt j la.length) jk (K (zs1 la j v) st s)
  | .istore j => z0 sa jk fun v st => zi v jk fun _ => zsw (Nat.blt j la.length) jk (K (zs1 la j v) st s)
  | .lstore_n j => z0 sa jk fun v st => zl v jk fun _ => zsw (Nat.blt (j + 1) la.length) jk (K (zs2 la j v) st s)
  | .lstore j => z0 sa jk fun v st => zl v jk fun _ => zsw (Nat.blt (j + 1) la.length) jk (K (zs2 la j v) st s)
  | .astore_n j => z0 sa jk fun v st => zr v jk fun _ _ => zsw (Nat.blt j la.length) jk (K (zs1 la j v) st s)
  | .astore j => z0 sa jk fun v st => zr v jk fun _ _ => zsw (Nat.blt j la.length) jk (K (zs1 la j v) st s)
  | .iinc j _ => zi (zld la j) jk fun x => K (zs1 la j (zI (x + cn n))) sa s
  | .iadd => z0 sa jk fun v st => z0 st jk fun u st => zi u jk fun x => zi v jk fun y => K la (zI (x + y) :: st) s
  | .isub => z0 sa jk fun v st => z0 st jk fun u st => zi u jk fun x => zi v jk fun y => K la (zI (x - y) :: st) s
  | .imul => z0 sa jk fun v st => z0 st jk fun u st => zi u jk fun x => zi v jk fun y => K la (zI (x * y) :: st) s
  | .iand => z0 sa jk fun v st => z0 st jk fun u st => zi u jk fun x => zi v jk fun y => K la (zI (x &&& y) :: st) s
  | .ixor => z0 sa jk fun v st => z0 st jk fun u st => zi u jk fun x => zi v jk fun y => K la (zI (x ^^^ y) :: st) s
  | .idiv => z0 sa jk fun v st => z0 st jk fun u st => zi u jk fun x => (match v with
    | .inl m => zsw (cps m) jk (K la (zI (x / cn m) :: st) s)
    | _ => zi v jk fun y => gd (¬ y = 0) (K la (zI (x / y) :: st) s))
  | .irem => z0 sa jk fun v st => z0 st jk fun u st => zi u jk fun x => (match v with
    | .inl m => zsw (cps m) jk (K la (zI (irm x (cn m)) :: st) s)
    | _ => zi v jk fun y => gd (¬ y = 0) (K la (zI (irm x y) :: st) s))
  | .ineg => z0 sa jk fun v st => zi v jk fun x => K la (zI (-x) :: st) s
  | .ladd => z0 sa jk fun v st => z0 st jk fun u st => zl u jk fun x => zl v jk fun y => K la (zL (x + y) :: st) s
  | .lsub => z0 sa jk fun v st => z0 st jk fun u st => zl u jk fun x => zl v jk fun y => K la (zL (x - y) :: st) s
  | .lmul => z0 sa jk fun v st => z0 st jk fun u st => zl u jk fun x => zl v jk fun y => K la (zL (x * y) :: st) s
  | .lxor => z0 sa jk fun v st => z0 st jk fun u st => zl u jk fun x => zl v jk fun y => K la (zL (x ^^^ y) :: st) s
  | .ldiv => z0 sa jk fun v st => z0 st jk fun u st => zl u jk fun x => zl v jk fun y => gd (¬ y = 0) (K la (zL (x / y) :: st) s)
  | .lrem => z0 sa jk fun v st => z0 st jk fun u st => zl u jk fun x => zl v jk fun y => gd (¬ y = 0) (K la (zL (lrm x y) :: st) s)
  | .lneg => z0 sa jk fun v st => zl v jk fun x => K la (zL (-x) :: st) s
  | .i2l => z0 sa jk fun v st => zi v jk fun x => K la (zL x.toInt64 :: st) s
  | .l2i => z0 sa jk fun v st => zl v jk fun x => K la (zI x.toInt32 :: st) s
  | .lcmp => z0 sa jk fun v st => z0 st jk fun u st => zl u jk fun x => zl v jk fun y => K la (zI (lg_cmp x y) :: st) s
  | .dup => z0 sa jk fun v st => zsw (znl v) jk (K la (v :: v :: st) s)
  | .dup2 => z0 sa jk fun v st => z0 st jk fun u st => zsw (znl v && znl u) jk (K la (v :: u :: v :: u :: st) s)
  | .pop => z0 sa jk fun v st => zsw (znl v) jk (K la st s)
  | .ifCond c off => z0 sa jk fun v st => (match v with
    | .inl m => zsw (rng m) jk (match cmz c m with
      | true => J (tgt pc off) la st s
      | false => K la st s)
    | _ => zi v jk fun x => bra c x 0 (J (tgt pc off) la st s) (K la st s))
  | .if_icmp c off => z0 sa jk fun v st => z0 st jk fun u st => zi u jk fun x => zi v jk fun y => bra c x y (J (tgt pc off) la st s) (K la st s)
  | .ifnull off => z0 sa jk fun v st => zr v jk fun _ i => if i = 0 then J (tgt pc off) la st s else K la st s
  | .ifnonnull off => z0 sa jk fun v st => zr v jk fun _ i => if i = 0 then K la st s else J (tgt pc off) la st s
  | .if_acmp .eq off => z0 sa jk fun v st => z0 st jk fun u st => zr u jk fun k i => zr v jk fun k' i' => zsw (Nat.beq k k') jk (if i = i' then J (tgt pc off) la st s else K la st s)
  | .if_acmp .ne off => z0 sa jk fun v st => z0 st jk fun u st => zr u jk fun k i => zr v jk fun k' i' => zsw (Nat.beq k k') jk (if i = i' then K la st s else J (tgt pc off) la st s)
  | .goto off => J (tgt pc off) la sa s
  | .tableswitch df lo _ os => z0 sa jk fun v st => zi v jk fun x => swt x (fun o => J (tgt pc o) la st s) os.toList lo (J (tgt pc df) la st s)
  | .getfield _ => z0 sa jk fun v st => zr v jk fun k i => zsw (Nat.beq k a) jk (zGet pm gd jk s a i b c d e fun u => K la (u :: st) s)
  | .putfield _ => z0 sa jk fun v st => z0 st jk fun u st => zr u jk fun k i => zsw (Nat.beq k a) jk (zPut pm up gd jk s a i b c d v fun s' => K la st s')
  | .iaload => z0 sa jk fun v st => z0 st jk fun u st => zr u jk fun k i => zsw (Nat.beq k a) jk (zIx w gd jk a i b c v fun q => zLd pm jk s a i q d e fun r => K la (r :: st) s)
  | .baload => z0 sa jk fun v st => z0 st jk fun u st => zr u jk fun k i => zsw (Nat.beq k a) jk (zIx w gd jk a i b c v fun q => zLd pm jk s a i q d e fun r => K la (r :: st) s)
  | .laload => z0 sa jk fun v st => z0 st jk fun u st => zr u jk fun k i => zsw (Nat.beq k a) jk (zIx w gd jk a i b c v fun q => zLd pm jk s a i q d e fun r => K la (r :: st) s)
  | .aaload => z0 sa jk fun v st => z0 st jk fun u st => zr u jk fun k i => zsw (Nat.beq k a) jk (zIx w gd jk a i b c v fun q => zLd pm jk s a i q d e fun r => K la (r :: st) s)
  | .iastore => z0 sa jk fun y st => z0 st jk fun v st => z0 st jk fun u st => zr u jk fun k i => zsw (Nat.beq k a) jk (zIx w gd jk a i b c v fun q => zSt pm up gd jk s a i q 0 y fun s' => K la st s')
  | .bastore => z0 sa jk fun y st => z0 st jk fun v st => z0 st jk fun u st => zr u jk fun k i => zsw (Nat.beq k a) jk (zIx w gd jk a i b c v fun q => zSt pm up gd jk s a i q 1 y fun s' => K la st s')
  | .lastore => z0 sa jk fun y st => z0 st jk fun v st => z0 st jk fun u st => zr u jk fun k i => zsw (Nat.beq k a) jk (zIx w gd jk a i b c v fun q => zSt pm up gd jk s a i q 2 y fun s' => K la st s')
  | .aastore => z0 sa jk fun y st => z0 st jk fun v st => z0 st jk fun u st => zr u jk fun k i => zsw (Nat.beq k a) jk (zIx w gd jk a i b c v fun q => zSt pm up gd jk s a i q 3 y fun s' => K la st s')
  | .arraylength => z0 sa jk fun v st => zr v jk fun k i => zsw (Nat.beq k a) jk (zAln w gd jk a i b c n fun u => K la (u :: st) s)
  | .invokevirtual _ => (match cs[a]?, spl b sa [] with
    | some C, some (as, st) => zCall pm up gd jk s C e as st la K
    | _, _ => jk)
  | .invokestatic _ => (match cs[a]?, spl b sa [] with
    | some C, some (as, st) => zCall pm up gd jk s C e as st la K
    | _, _ => jk)
  | .ireturn => z0 sa jk fun v st => (match st with
    | [] => (match a with
      | 0 => zi v jk fun x => rI x s
      | _ => (match v with
        | .inl m => zsw (c01 m) jk (rI (cn m) s)
        | _ => zi v jk fun x => gd (b01 x) (rI x s)))
    | _ => jk)
  | .lreturn => z0 sa jk fun v st => (match st with
    | [] => zl v jk fun x => rL x s
    | _ => jk)
  | .areturn => z0 sa jk fun v st => (match st with
    | [] => zr v jk fun k i => zsw (Nat.beq k a) jk (rR i s)
    | _ => jk)
  | .return_ => (match sa with
    | [] => rV s
    | _ => jk)
  | _ => jk
/-- the evaluator: fuel, is it the first, what stands here, locals, stack, state; at a cut it goes on as told -/
noncomputable def zE (tab : List Row) (ks : List (List ZV → List ZV → σ → R)) (n : Nat) : Bool → List Row → List ZV → List ZV → σ → R :=
  Nat.rec (motive := fun _ => Bool → List Row → List ZV → List ZV → σ → R) (fun _ _ _ _ _ => jk)
    (fun _ ih fst rest la sa s => match rest with
      | [] => jk
      | (pc, i, _, cut, a, b, c, d, e, m) :: rest' => (match fst, cut with
        | false, q + 1 => (match ks[q]? with
          | some κ => κ la sa s
          | none => jk)
        | _, _ => zX w cs pm up gd jk rI rL rR rV (ih false rest') (fun q => ih false (frm tab q)) pc i a b c d e m la sa s)) n
end ZX
