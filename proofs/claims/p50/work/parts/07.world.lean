/-! the picture of the heap: where the objects of a memory lie, from the cell B = s0.heap.size on -/
abbrev wG : Type := State × Nat × Nat × (Nat → Int32) × (Nat → ClassId) × (Nat → Nat → Nat) × (Nat → ClassId)
def gB (G : wG) : Nat := G.1.heap.size
def gD (G : wG) : va_G := (G.2.2.2.2.1, G.2.2.2.2.2.1)
def gY (G : wG) : Nat → ClassId := G.2.2.2.2.2.2
def gA (G : wG) : Nat → Prop := fun q => gB G ≤ q
def cad (G : wG) (x k i : Nat) : Nat := if x = 4 then G.2.1 else gB G + ad x k i
def cv (G : wG) (v : AV) : Value := match v with
  | .inl x => .int x
  | .inr (.inl x) => .long x
  | .inr (.inr (.inl none)) => .null
  | .inr (.inr (.inl (some (x, k, i)))) => .ref (cad G x k i)
  | .inr (.inr (.inr _)) => .null
/-- made already: an object of the order, or the script -/
def VO (n x k i : Nat) : Prop := (x = 4 ∧ k = 13 ∧ i = 1) ∨ (x < 4 ∧ ad x k i < n ∧ n ≤ aT.length ∧ ∃ len, aE (ad x k i) = (x, k, i, len))
def VV (n : Nat) (v : AV) : Prop := match v with
  | .inr (.inr (.inl (some (x, k, i)))) => VO n x k i
  | _ => True
def NJ (v : AV) : Prop := match v with
  | .inr (.inr (.inr _)) => False
  | _ => True
def rfo (G : wG) (x j r : Nat) : Option Nat := if r = 0 then none else some (cad G x j r)
def ent (G : wG) (M : Mem) (a : Nat) : va_E := match aE a with
  | (x, k, i, len) => if k < 13 then .inr (k, (List.range len).map fun s => cv G (rdv M x k i s (tyS k s)))
    else .inl (gY G k, len, if k = 14 then .inr (.inl (gJ M x k i)) else if k = 13 ∨ k = 15 then .inl (gI M x k i) else .inr (.inr (.inr (.inr (fun s => rfo G x (elK k - 3) (gR M x k i s))))))
def WL (G : wG) (M : Mem) : va_W := (List.range M.2.1).map fun a => (gB G + a, ent G M a)
/-- the references in the memory are of what is made -/
def WF (M : Mem) : Prop := ∀ x k i s j, x < 4 → VO M.2.1 x k i → tyS k s = j + 3 → gR M x k i s ≠ 0 → VO M.2.1 (xp k s x) j (gR M x k i s)
def HW (G : wG) (M : Mem) (H : Heap) : Prop := va_P (gD G) vwCl (WL G M) H ∧ WF M ∧ M.2.1 ≤ aT.length ∧ gB G + M.2.1 ≤ H.size ∧ (∀ q : Nat, q < gB G → H[q]? = G.1.heap[q]?) ∧ M.2.2.1 = G.2.2.1 ∧ ∀ j : Nat, gI M 4 13 1 j = G.2.2.2.1 j
theorem WL_at {G : wG} {M : Mem} {a : Nat} (h : a < M.2.1) : (WL G M)[a]? = some (gB G + a, ent G M a) := by
  unfold WL
  rw [List.getElem?_map, List.getElem?_range h]
  rfl
theorem WL_D (G : wG) (M : Mem) : va_D (gA G) (WL G M) := by
  refine ⟨fun i j p q hi hj hpq => ?_, fun k q hk => ?_⟩
  · unfold WL at hi hj
    rw [List.getElem?_map] at hi hj
    have li : i < M.2.1 := by
      rcases Nat.lt_or_ge i M.2.1 with h | h
      · exact h
      · rw [List.getElem?_eq_none (by rw [List.length_range]; exact h)] at hi; cases hi
    have lj : j < M.2.1 := by
      rcases Nat.lt_or_ge j M.2.1 with h | h
      · exact h
      · rw [List.getElem?_eq_none (by rw [List.length_range]; exact h)] at hj; cases hj
    rw [List.getElem?_range li] at hi
    rw [List.getElem?_range lj] at hj
    cases hi
    cases hj
    dsimp only at hpq
    omega
  · obtain ⟨a, -, rfl⟩ := List.mem_map.mp (List.mem_of_getElem? hk)
    exact Nat.le_add_right _ _
/-- the types of the array kinds 13 .. 21 -/
def aTy (k : Nat) : FieldType := match k with
  | 13 => .int
  | 14 => .long
  | 15 => .int
  | 16 => .object RX0
  | 17 => .object RX1
  | 18 => .object RX4
  | 19 => .object RX9
  | 20 => .object RX10
  | _ => .array .int
def tysG (G : wG) : List (ClassId × FieldType) := [(gY G 13, .int), (gY G 14, .long), (gY G 15, .int), (gY G 16, .object RX0), (gY G 17, .object RX1), (gY G 18, .object RX4), (gY G 19, .object RX9), (gY G 20, .object RX10), (gY G 21, .array .int)]
/-- what is known of the start -/
def exN (e : Nat) : String := ["java/lang/IndexOutOfBoundsException", "java/lang/IllegalArgumentException", "java/lang/IllegalStateException"].getD e ""
def exC : List String := ["java/lang/RuntimeException", "java/lang/Exception"]
def exY : List String := ["java/lang/RuntimeException", "java/lang/Exception", "java/lang/Throwable"]
def G1 (G : wG) : Prop := (∀ K ∈ [0, 1, 4, 9, 10], va_AO (cN K) G.1) ∧ va_AOA .int G.1 ∧ va_Nw (.methodLinkNest "Openbook$Clearing" 30 yX9_init "Openbook") G.1 ∧
  vx_Zq Bundle.tN "UNASSIGNED_STACK" Bundle.steD (gA G) G.1 G.1.heap ∧ vx_Zq Bundle.tN "SUPPRESSED_SENTINEL" Bundle.listD (gA G) G.1 G.1.heap ∧
  (∀ z ∈ sT, ∃ sa, vk_R (cN (z.1 / 1000)) (z.1 % 1000) z.2.1 sa G.1) ∧ (∀ e, e < 3 → va_Nw (.castable (exN e) (exN e)) G.1) ∧ (∀ e e', e < 3 → (e' < 3 ∧ e' ≠ 1) → e ≠ e' → va_Nc (exN e) (exN e') G.1) ∧ ∀ y ∈ exY, va_Nw (.declares (Bundle.initS y)) G.1
def G0 (G : wG) : Prop := va_K (gD G) vwCl (tysG G) G.1 ∧ va_X G.2.1 G.2.2.1 G.2.2.2.1 G.1 G.1.heap ∧ G.2.1 < gB G ∧ G.2.2.1 ≤ 260 ∧ G1 G
/-- a frame of the method k -/
def Fr (G : wG) (p : Program) (l : Launch) (s : State) (m : MethodId) (args : Array Value) (meth : Method) (c : Code) (k : Nat) : Prop :=
  p.tables.exec = Jvm.exec ∧ c.code = mB k ∧ c.maxLocals = mL k ∧ meth.sig.returnType = mR k ∧ s.vm.findClass (cN (mO k)) = some m.cls ∧ (∀ w ∈ GW, w.before args s = true) ∧ meth.locks = false ∧ ((mN k).name = "<init>" → meth.name = "<init>") ∧ G0 G ∧ G.1.WarmedH s.vm ∧ (∀ q : Nat, q < gB G → s.heap[q]? = G.1.heap[q]?) ∧ gB G ≤ s.heap.size
/-- the listed locals -/
def lvl (G : wG) : Nat → List AV → List (Nat × Value)
  | _, [] => []
  | j, a :: r => match a with
    | .inr (.inr (.inr _)) => lvl G (j + 1) r
    | a => (j, cv G a) :: lvl G (j + 1) r
/-- the state of a frame: memory, locals, stack -/
def RC (G : wG) (k : Nat) (M : Mem) (la sa : List AV) (s : State) (H : Heap) (locs : List Loc) (ls : Array Slot) (st : List Value) : Prop :=
  HW G M H ∧ va_S (gA G) s.heap H locs ∧ lv_has ls (mL k) (lvl G 0 la) ∧ la.length = mL k ∧ st = sa.map (cv G) ∧ (∀ v ∈ la, VV M.2.1 v) ∧ ∀ v ∈ sa, VV M.2.1 v ∧ NJ v
theorem lvl_mem {G : wG} : ∀ (la : List AV) (j0 i : Nat) (a : AV), la[i]? = some a → NJ a → (j0 + i, cv G a) ∈ lvl G j0 la
  | [], _, i, a, h, _ => by simp at h
  | b :: r, j0, 0, a, h, hn => by
    have e : b = a := by simpa using h
    subst e
    rcases b with x | x | x | x
    · exact List.mem_cons_self
    · exact List.mem_cons_self
    · exact List.mem_cons_self
    · exact hn.elim
  | b :: r, j0, i + 1, a, h, hn => by
    have h1 := lvl_mem (G := G) r (j0 + 1) i a (by simpa using h) hn
    have e : j0 + 1 + i = j0 + (i + 1) := by omega
    rw [e] at h1
    rcases b with x | x | x | x
    · exact List.mem_cons_of_mem _ h1
    · exact List.mem_cons_of_mem _ h1
    · exact List.mem_cons_of_mem _ h1
    · exact h1
theorem lvl_of {G : wG} : ∀ (la : List AV) (j0 : Nat) (q : Nat × Value), q ∈ lvl G j0 la → ∃ (i : Nat) (a : AV), la[i]? = some a ∧ NJ a ∧ q = (j0 + i, cv G a)
  | [], _, q, h => by cases h
  | b :: r, j0, q, h => by
    have go : q ∈ lvl G (j0 + 1) r → ∃ (i : Nat) (a : AV), (b :: r)[i]? = some a ∧ NJ a ∧ q = (j0 + i, cv G a) := by
      intro h1
      obtain ⟨i, a, h2, h3, h4⟩ := lvl_of r (j0 + 1) q h1
      exact ⟨i + 1, a, by simpa using h2, h3, by rw [h4]; congr 1; omega⟩
    rcases b with x | x | x | x
    · rcases List.mem_cons.mp h with h1 | h1
      · exact ⟨0, _, rfl, trivial, h1⟩
      · exact go h1
    · rcases List.mem_cons.mp h with h1 | h1
      · exact ⟨0, _, rfl, trivial, h1⟩
      · exact go h1
    · rcases List.mem_cons.mp h with h1 | h1
      · exact ⟨0, _, rfl, trivial, h1⟩
      · exact go h1
    · exact go h
theorem ldl_at {G : wG} {la : List AV} {i : Nat} {a : AV} {ls : Array Slot} {nL : Nat} (hl : lv_has ls nL (lvl G 0 la)) (h : ldl la i = a) (hn : NJ a) : ls[i]? = some (.val (cv G a)) ∧ a ∈ la ∧ i < la.length := by
  unfold ldl at h
  rw [List.getD_eq_getElem?_getD] at h
  cases h1 : la[i]? with
  | none => rw [h1] at h; rw [← h] at hn; exact hn.elim
  | some b =>
    rw [h1] at h
    have e : b = a := h
    rw [e] at h1
    have h2 := lvl_mem (G := G) la 0 i a h1 hn
    rw [Nat.zero_add] at h2
    exact ⟨hl.2.2 _ h2, List.mem_of_getElem? h1, (List.getElem?_eq_some_iff.mp h1).1⟩
theorem lv_mono {ls : Array Slot} {nL : Nat} {l l' : List (Nat × Value)} (h : lv_has ls nL l) (hs : ∀ q ∈ l', q ∈ l) : lv_has ls nL l' := ⟨h.1, h.2.1, fun q hq => h.2.2 q (hs q hq)⟩
theorem iv_NJ {a : AV} (h : NJ (iv a)) : iv a = a ∧ isL a = false := by
  rcases a with x | x | x | x
  · exact ⟨rfl, rfl⟩
  · exact h.elim
  · exact ⟨rfl, rfl⟩
  · exact h.elim
theorem st1_len (v : AV) : ∀ (la : List AV) (i : Nat), (st1 la i v).length = la.length
  | [], _ => rfl
  | _ :: r, 0 => rfl
  | a :: r, 1 => by rw [st1, List.length_cons, List.length_cons, st1_len v r 0]
  | a :: r, i + 2 => by rw [st1, List.length_cons, List.length_cons, st1_len v r (i + 1)]
theorem st1_get (v : AV) : ∀ (la : List AV) (i j : Nat) (a : AV), i < la.length → (st1 la i v)[j]? = some a → NJ a → (j = i ∧ a = v) ∨ (j ≠ i ∧ la[j]? = some a ∧ (j + 1 = i → isL a = false))
  | [], i, j, a, hi, _, _ => by simp at hi
  | b :: r, 0, j, a, _, h, hn => by
    cases j with
    | zero => left; simp [st1] at h; exact ⟨rfl, h.symm⟩
    | succ j => right; exact ⟨by omega, by simpa [st1] using h, fun q => by omega⟩
  | b :: r, 1, j, a, hi, h, hn => by
    cases j with
    | zero =>
      right
      have e : iv b = a := by simpa [st1] using h
      have h1 := iv_NJ (a := b) (by rw [e]; exact hn)
      refine ⟨by omega, ?_, fun _ => ?_⟩
      · rw [← e, h1.1]; rfl
      · rw [← e, h1.1]; exact h1.2
    | succ j =>
      have h1 := st1_get v r 0 j a (by simpa using hi) (by simpa [st1] using h) hn
      rcases h1 with ⟨h2, h3⟩ | ⟨h2, h3, h4⟩
      · left; exact ⟨by omega, h3⟩
      · right; exact ⟨by omega, by simpa using h3, fun q => by omega⟩
  | b :: r, i + 2, j, a, hi, h, hn => by
    cases j with
    | zero => right; exact ⟨by omega, by simpa [st1] using h, fun q => by omega⟩
    | succ j =>
      have h1 := st1_get v r (i + 1) j a (by simp at hi; omega) (by simpa [st1] using h) hn
      rcases h1 with ⟨h2, h3⟩ | ⟨h2, h3, h4⟩
      · left; exact ⟨by omega, h3⟩
      · right; exact ⟨by omega, by simpa using h3, fun q => h4 (by omega)⟩
theorem st2_len (v : AV) : ∀ (la : List AV) (i : Nat), i + 1 < la.length → (st2 la i v).length = la.length
  | [], _, h => by simp at h
  | [_], 0, h => by simp at h
  | _ :: _ :: r, 0, _ => rfl
  | a :: r, 1, h => by rw [st2, List.length_cons, List.length_cons, st2_len v r 0 (by simp at h; omega)]
  | a :: r, i + 2, h => by rw [st2, List.length_cons, List.length_cons, st2_len v r (i + 1) (by simp at h; omega)]
theorem st2_get (v : AV) : ∀ (la : List AV) (i j : Nat) (a : AV), i + 1 < la.length → (st2 la i v)[j]? = some a → NJ a → (j = i ∧ a = v) ∨ (j ≠ i ∧ j ≠ i + 1 ∧ la[j]? = some a ∧ (j + 1 = i → isL a = false))
  | [], i, j, a, hi, _, _ => by simp at hi
  | [_], 0, j, a, hi, _, _ => by simp at hi
  | b :: b2 :: r, 0, j, a, _, h, hn => by
    match j with
    | 0 => left; simp [st2] at h; exact ⟨rfl, h.symm⟩
    | 1 => simp [st2] at h; rw [← h] at hn; exact hn.elim
    | j + 2 => right; exact ⟨by omega, by omega, by simpa [st2] using h, fun q => by omega⟩
  | b :: r, 1, j, a, hi, h, hn => by
    cases j with
    | zero =>
      right
      have e : iv b = a := by simpa [st2] using h
      have h1 := iv_NJ (a := b) (by rw [e]; exact hn)
      refine ⟨by omega, by omega, ?_, fun _ => ?_⟩
      · rw [← e, h1.1]; rfl
      · rw [← e, h1.1]; exact h1.2
    | succ j =>
      have h1 := st2_get v r 0 j a (by simp at hi; omega) (by simpa [st2] using h) hn
      rcases h1 with ⟨h2, h3⟩ | ⟨h2, h3, h4, h5⟩
      · left; exact ⟨by omega, h3⟩
      · right; exact ⟨by omega, by omega, by simpa using h4, fun q => by omega⟩
  | b :: r, i + 2, j, a, hi, h, hn => by
    cases j with
    | zero => right; exact ⟨by omega, by omega, by simpa [st2] using h, fun q => by omega⟩
    | succ j =>
      have h1 := st2_get v r (i + 1) j a (by simp at hi; omega) (by simpa [st2] using h) hn
      rcases h1 with ⟨h2, h3⟩ | ⟨h2, h3, h4, h5⟩
      · left; exact ⟨by omega, h3⟩
      · right; exact ⟨by omega, by omega, by simpa using h4, fun q => h5 (by omega)⟩
theorem cv_cat {G : wG} {a : AV} (h : NJ a) : (cv G a).category = if isL a then 2 else 1 := by
  rcases a with x | x | x | x
  · rfl
  · rfl
  · rcases x with _ | ⟨x, k, i⟩ <;> rfl
  · exact h.elim
theorem VV_iv {n : Nat} {a : AV} (h : VV n a) : VV n (iv a) := by
  rcases a with x | x | x | x
  · exact h
  · trivial
  · exact h
  · exact h
theorem VV_st1 {n : Nat} {v : AV} (hv : VV n v) : ∀ (la : List AV) (i : Nat), (∀ a ∈ la, VV n a) → ∀ a ∈ st1 la i v, VV n a
  | [], _, _, a, ha => by cases ha
  | b :: r, 0, h, a, ha => by
    rcases List.mem_cons.mp ha with e | e
    · rw [e]; exact hv
    · exact h a (List.mem_cons_of_mem _ e)
  | b :: r, 1, h, a, ha => by
    rcases List.mem_cons.mp ha with e | e
    · rw [e]; exact VV_iv (h b List.mem_cons_self)
    · exact VV_st1 hv r 0 (fun a ha => h a (List.mem_cons_of_mem _ ha)) a e
  | b :: r, i + 2, h, a, ha => by
    rcases List.mem_cons.mp ha with e | e
    · rw [e]; exact h b List.mem_cons_self
    · exact VV_st1 hv r (i + 1) (fun a ha => h a (List.mem_cons_of_mem _ ha)) a e
theorem VV_st2 {n : Nat} {v : AV} (hv : VV n v) : ∀ (la : List AV) (i : Nat), (∀ a ∈ la, VV n a) → ∀ a ∈ st2 la i v, VV n a
  | [], i, _, a, ha => by cases i <;> cases ha
  | [_], 0, _, a, ha => by cases ha
  | b :: b2 :: r, 0, h, a, ha => by
    rcases List.mem_cons.mp ha with e | e
    · rw [e]; exact hv
    · rcases List.mem_cons.mp e with e | e
      · rw [e]; trivial
      · exact h a (List.mem_cons_of_mem _ (List.mem_cons_of_mem _ e))
  | b :: r, 1, h, a, ha => by
    rw [st2] at ha
    rcases List.mem_cons.mp ha with e | e
    · rw [e]; exact VV_iv (h b List.mem_cons_self)
    · exact VV_st2 hv r 0 (fun a ha => h a (List.mem_cons_of_mem _ ha)) a e
  | b :: r, i + 2, h, a, ha => by
    rw [st2] at ha
    rcases List.mem_cons.mp ha with e | e
    · rw [e]; exact h b List.mem_cons_self
    · exact VV_st2 hv r (i + 1) (fun a ha => h a (List.mem_cons_of_mem _ ha)) a e
