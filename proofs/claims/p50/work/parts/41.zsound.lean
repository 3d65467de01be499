/-! the evaluator is sound: where its conditions hold, its values are what X answers -/
theorem sP_x {M : Mem} {x : Nat} {p : PM} : (sP M x p).1 x = p := if_pos rfl
theorem sP_sP {M : Mem} {x : Nat} {p q : PM} : sP (sP M x p) x q = sP M x q := by
  unfold sP
  refine Prod.ext (funext fun y => ?_) rfl
  by_cases h : y = x
  · dsimp only; rw [if_pos h, if_pos h]
  · dsimp only; rw [if_neg h, if_neg h, if_neg h]
theorem gI_sP {M : Mem} {x k i s : Nat} {p : PM} : gI (sP M x p) x k i s = p.1 k i s := by unfold gI; rw [sP_x]
theorem gJ_sP {M : Mem} {x k i s : Nat} {p : PM} : gJ (sP M x p) x k i s = p.2.1 k i s := by unfold gJ; rw [sP_x]
theorem gR_sP {M : Mem} {x k i s : Nat} {p : PM} : gR (sP M x p) x k i s = p.2.2 k i s := by unfold gR; rw [sP_x]
theorem sI_sP {M : Mem} {x k i s : Nat} {p : PM} {v : Int32} : sI (sP M x p) x k i s v = sP M x (pI p k i s v) := by
  unfold sI; rw [sP_x, sP_sP]; rfl
theorem sJ_sP {M : Mem} {x k i s : Nat} {p : PM} {v : Int64} : sJ (sP M x p) x k i s v = sP M x (pJ p k i s v) := by
  unfold sJ; rw [sP_x, sP_sP]; rfl
theorem sR_sP {M : Mem} {x k i s : Nat} {p : PM} {v : Nat} : sR (sP M x p) x k i s v = sP M x (pR p k i s v) := by
  unfold sR; rw [sP_x, sP_sP]; rfl
theorem ldl_em {la : List ZV} {x j : Nat} : ldl (la.map (em x)) j = em x (zld la j) := by
  unfold ldl zld
  rw [List.getD_eq_getElem?_getD, List.getElem?_map, List.getD_eq_getElem?_getD]
  cases la[j]? <;> rfl
theorem iv_em {x : Nat} {v : ZV} : iv (em x v) = em x (ziv v) := by
  rcases v with n | y | y | ⟨k, i⟩ | u
  · rfl
  · rfl
  · rfl
  · show iv (vR x k i) = vR x k i
    unfold vR
    split <;> rfl
  · rfl
theorem st1_em {x : Nat} {v : ZV} : ∀ {la : List ZV} {j : Nat}, st1 (la.map (em x)) j (em x v) = (zs1 la j v).map (em x)
  | [], j => by cases j with
    | zero => rfl
    | succ j => cases j <;> rfl
  | a :: r, 0 => rfl
  | a :: r, 1 => by
    show iv (em x a) :: st1 (r.map (em x)) 0 (em x v) = em x (ziv a) :: (zs1 r 0 v).map (em x)
    rw [iv_em, st1_em]
  | a :: r, i + 2 => by
    show em x a :: st1 (r.map (em x)) (i + 1) (em x v) = em x a :: (zs1 r (i + 1) v).map (em x)
    rw [st1_em]
theorem st2_em {x : Nat} {v : ZV} : ∀ {la : List ZV} {j : Nat}, st2 (la.map (em x)) j (em x v) = (zs2 la j v).map (em x)
  | [], j => by cases j with
    | zero => rfl
    | succ j => cases j <;> rfl
  | [a], 0 => rfl
  | a :: b :: r, 0 => rfl
  | a :: r, 1 => by
    have e1 : st2 ((a :: r).map (em x)) 1 (em x v) = iv (em x a) :: st2 (r.map (em x)) 0 (em x v) := by cases r <;> rfl
    have e2 : zs2 (a :: r) 1 v = ziv a :: zs2 r 0 v := by cases r <;> rfl
    rw [e1, e2, iv_em, st2_em]
    rfl
  | a :: r, i + 2 => by
    have e1 : st2 ((a :: r).map (em x)) (i + 2) (em x v) = em x a :: st2 (r.map (em x)) (i + 1) (em x v) := by cases r <;> rfl
    have e2 : zs2 (a :: r) (i + 2) v = a :: zs2 r (i + 1) v := by cases r <;> rfl
    rw [e1, e2, st2_em]
    rfl
theorem isL_em {x : Nat} {v : ZV} : isL (em x v) = !znl v := by
  rcases v with n | y | y | ⟨k, i⟩ | u
  · rfl
  · rfl
  · rfl
  · show isL (vR x k i) = false
    unfold vR
    split <;> rfl
  · rfl
theorem lay_em {x : Nat} : ∀ {as : List ZV}, lay (as.map (em x)) = (zlay as).map (em x)
  | [] => rfl
  | a :: r => by
    show (if isL (em x a) then em x a :: vJ :: lay (r.map (em x)) else em x a :: lay (r.map (em x))) = _
    rw [lay_em, isL_em, show zlay (a :: r) = (match znl a with
      | false => a :: zJ :: zlay r
      | true => a :: zlay r) from rfl]
    cases znl a <;> rfl
theorem ent_em {x c : Nat} {as : List ZV} : entr c (as.map (em x)) = (zent c as).map (em x) := by
  unfold entr zent
  rw [lay_em, List.map_append, List.length_map, List.map_replicate]
  rfl
section R0
variable {R : Type} {Z : R → Prop} {jk : R}
theorem zi_r {v : ZV} {T : Int32 → Prop} {V : Int32 → R} (h : ∀ y, (∀ x, em x v = vI y) → T y → Z (V y)) (H : zi v False T) : Z (zi v jk V) := by
  rcases v with n | y | y | ⟨k, i⟩ | u
  · exact h _ (fun x => rfl) H
  · exact h _ (fun x => rfl) H
  · exact H.elim
  · exact H.elim
  · exact H.elim
theorem zl_r {v : ZV} {T : Int64 → Prop} {V : Int64 → R} (h : ∀ y, v = zL y → T y → Z (V y)) (H : zl v False T) : Z (zl v jk V) := by
  rcases v with n | y | y | ⟨k, i⟩ | u
  · exact H.elim
  · exact H.elim
  · exact h _ rfl H
  · exact H.elim
  · exact H.elim
theorem zr_r {v : ZV} {T : Nat → Nat → Prop} {V : Nat → Nat → R} (h : ∀ k i, v = zR k i → T k i → Z (V k i)) (H : zr v False T) : Z (zr v jk V) := by
  rcases v with n | y | y | ⟨k, i⟩ | u
  · exact H.elim
  · exact H.elim
  · exact H.elim
  · exact h _ _ rfl H
  · exact H.elim
theorem z0_r {sa : List ZV} {T : ZV → List ZV → Prop} {V : ZV → List ZV → R} (h : ∀ v st, sa = v :: st → T v st → Z (V v st)) (H : z0 sa False T) : Z (z0 sa jk V) := by
  cases sa with
  | nil => exact H.elim
  | cons v st => exact h v st rfl H
theorem zsw_r {b : Bool} {T : Prop} {V : R} (h : b = true → T → Z V) (H : zsw b False T) : Z (zsw b jk V) := by
  cases b with
  | false => exact H.elim
  | true => exact h rfl H
theorem ite_r0 {c : Prop} [Decidable c] {T F : Prop} {V W : R} (h1 : c → T → Z V) (h2 : ¬ c → F → Z W) (H : if c then T else F) : Z (if c then V else W) := by
  by_cases hc : c
  · rw [if_pos hc] at H ⊢; exact h1 hc H
  · rw [if_neg hc] at H ⊢; exact h2 hc H
theorem rcv_r {d i : Nat} {T : Prop} {V : R} (h : ¬ i = 0 → T → Z V) (H : rcv (fun g r => g ∧ r) False d i T) : Z (rcv (fun _ r => r) jk d i V) := by
  cases d with
  | zero => exact h H.1 H.2
  | succ d => cases i with
    | zero => exact H.elim
    | succ i => exact h (Nat.succ_ne_zero i) H
end R0
theorem lt_i {x y : Int32} : ¬ x < y ↔ y ≤ x := Int32.not_lt
theorem cmp_bra {R : Type} {c : Jvm.ClassFile.Cond} {x y : Int32} {T F : R} : bra c x y T F = if cmpI c x y = true then T else F := by
  cases c
  · show (if x = y then T else F) = if decide (x = y) = true then T else F
    simp only [decide_eq_true_eq]
  · show (if x = y then F else T) = if decide (¬ x = y) = true then T else F
    by_cases h : x = y
    · rw [if_pos h, if_neg (by simp [h])]
    · rw [if_neg h, if_pos (by simp [h])]
  · show (if x < y then T else F) = if decide (x < y) = true then T else F
    simp only [decide_eq_true_eq]
  · show (if x < y then F else T) = if decide (y ≤ x) = true then T else F
    by_cases h : x < y
    · rw [if_pos h, if_neg (by simp only [decide_eq_true_eq]; exact fun q => absurd h (lt_i.mpr q))]
    · rw [if_neg h, if_pos (by simp only [decide_eq_true_eq]; exact lt_i.mp h)]
  · show (if y < x then T else F) = if decide (y < x) = true then T else F
    simp only [decide_eq_true_eq]
  · show (if y < x then F else T) = if decide (x ≤ y) = true then T else F
    by_cases h : y < x
    · rw [if_pos h, if_neg (by simp only [decide_eq_true_eq]; exact fun q => absurd h (lt_i.mpr q))]
    · rw [if_neg h, if_pos (by simp only [decide_eq_true_eq]; exact lt_i.mp h)]
theorem cn_toInt {m : Int} (h : rng m = true) : (cn m).toInt = m := by
  unfold rng at h
  simp only [Bool.and_eq_true, decide_eq_true_eq] at h
  unfold cn
  exact Int32.toInt_ofInt_of_le (by omega) (by omega)
theorem cn_lt {a b : Int32} : a < b ↔ a.toInt < b.toInt := Int32.lt_iff_toInt_lt
theorem cn_inj {a b : Int32} : a = b ↔ a.toInt = b.toInt := Int32.toInt_inj.symm
theorem cmz_s {c : Jvm.ClassFile.Cond} {m : Int} (h : rng m = true) : cmpI c (cn m) 0 = cmz c m := by
  have h1 := cn_toInt h
  have h0 : (0 : Int32).toInt = 0 := by decide
  cases c
  · show decide (cn m = 0) = decide (m = 0)
    rw [decide_eq_decide, cn_inj, h1, h0]
  · show decide (¬ cn m = 0) = !decide (m = 0)
    rw [decide_not, Bool.not_inj_iff, decide_eq_decide, cn_inj, h1, h0]
  · show decide (cn m < 0) = decide (m < 0)
    rw [decide_eq_decide, cn_lt, h1, h0]
  · show decide (0 ≤ cn m) = !decide (m < 0)
    rw [← decide_not, decide_eq_decide, ← lt_i, cn_lt, h1, h0]
  · show decide (0 < cn m) = decide (0 < m)
    rw [decide_eq_decide, cn_lt, h1, h0]
  · show decide (cn m ≤ 0) = !decide (0 < m)
    rw [← decide_not, decide_eq_decide, ← lt_i, cn_lt, h1, h0]
theorem cps_s {m : Int} (h : cps m = true) : ¬ cn m = 0 := by
  unfold cps at h
  simp only [Bool.and_eq_true, decide_eq_true_eq] at h
  have h1 : (cn m).toInt = m := cn_toInt (by unfold rng; simp only [Bool.and_eq_true, decide_eq_true_eq]; omega)
  rw [cn_inj, h1]
  have h0 : (0 : Int32).toInt = 0 := by decide
  rw [h0]
  omega
theorem c01_s {m : Int} (h : c01 m = true) : cn m = 0 ∨ cn m = 1 := by
  unfold c01 at h
  simp only [Bool.or_eq_true, decide_eq_true_eq] at h
  rcases h with rfl | rfl
  · exact Or.inl (by decide)
  · exact Or.inr (by decide)
theorem and1 {x : Int32} (h : b01 x) : x &&& 1 = x := by
  rcases h with rfl | rfl <;> decide
