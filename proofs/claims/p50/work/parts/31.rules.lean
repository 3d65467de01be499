/-! rules of X, an instruction each: references as vR part kind number, 0 is null -/
section Rules31
variable {k pc : Nat} {la st : List AV} {M : Mem}
theorem xr {i : Instr} {len : Nat} (hd : decode (mB k) pc = .ok (i, len)) (hl : iln i len = true) {k' pc' : Nat} {la' sa' sa : List AV} {M' : Mem} (h : nxi k pc la sa M i = go k' pc' la' sa' M') : X k pc la sa M = X k' pc' la' sa' M' := Xc_go ((nx_of hd hl).trans h)
theorem xh {i : Instr} {len : Nat} (hd : decode (mB k) pc = .ok (i, len)) (hl : iln i len = true) {sa : List AV} {o : Out} {M' : Mem} (h : nxi k pc la sa M i = hlt o M') : X k pc la sa M = some (o, M') := Xc_hlt ((nx_of hd hl).trans h)
theorem xb {i : Instr} {len : Nat} (hd : decode (mB k) pc = .ok (i, len)) (hl : iln i len = true) {sa : List AV} (h : nxi k pc la sa M i = bad) : X k pc la sa M = none := Xc_hlt ((nx_of hd hl).trans h)
theorem ite_r {α : Type} {c : Prop} [Decidable c] {a b b' : α} (h : b = b') : (if c then a else b) = if c then a else b' := by rw [h]
theorem ite_l {α : Type} {c : Prop} [Decidable c] {a a' b : α} (h : a = a') : (if c then a else b) = if c then a' else b := by rw [h]
theorem ite_2 {α : Type} {c : Prop} [Decidable c] {a a' b b' : α} (h : a = a') (h2 : b = b') : (if c then a else b) = if c then a' else b' := by rw [h, h2]
/-- branches -/
theorem x_br {i : Instr} (hd : decode (mB k) pc = .ok (i, 3)) (hl : iln i 3 = true) {sa : List AV} {off : Int} {b : Bool} {c : Prop} [Decidable c] (h : nxi k pc la sa M i = nIf k pc la st M off b) (ht : 0 ≤ (pc : Int) + off) (hc : b = true ↔ c) : X k pc la sa M = if c then X k (tgt pc off) la st M else X k (pc + 3) la st M := by
  by_cases h9 : c
  · rw [if_pos h9]
    refine xr hd hl (h.trans ?_)
    unfold nIf
    rw [if_pos ht, if_pos (hc.mpr h9)]
  · rw [if_neg h9]
    refine xr hd hl (h.trans ?_)
    unfold nIf
    rw [if_pos ht, if_neg (fun h8 => h9 (hc.mp h8))]
theorem x_if {cd : Jvm.ClassFile.Cond} {off : Int} {x : Int32} {c : Prop} [Decidable c] (hd : decode (mB k) pc = .ok (.ifCond cd off, 3)) (ht : 0 ≤ (pc : Int) + off) (hc : cmpI cd x 0 = true ↔ c) : X k pc la (vI x :: st) M = if c then X k (tgt pc off) la st M else X k (pc + 3) la st M := x_br hd rfl rfl ht hc
theorem x_icmp {cd : Jvm.ClassFile.Cond} {off : Int} {x y : Int32} {c : Prop} [Decidable c] (hd : decode (mB k) pc = .ok (.if_icmp cd off, 3)) (ht : 0 ≤ (pc : Int) + off) (hc : cmpI cd x y = true ↔ c) : X k pc la (vI y :: vI x :: st) M = if c then X k (tgt pc off) la st M else X k (pc + 3) la st M := x_br hd rfl rfl ht hc
theorem cm {p : Prop} [Decidable p] : decide p = true ↔ p := decide_eq_true_iff
theorem x_null {off : Int} {x K i : Nat} (hd : decode (mB k) pc = .ok (.ifnull off, 3)) (ht : 0 ≤ (pc : Int) + off) : X k pc la (vR x K i :: st) M = if i = 0 then X k (tgt pc off) la st M else X k (pc + 3) la st M := by
  by_cases h : i = 0
  · subst h
    exact x_br hd rfl (b := true) rfl ht ⟨fun _ => rfl, fun _ => rfl⟩
  · rw [vR_pos h]
    exact x_br hd rfl (b := false) rfl ht ⟨fun q => (by cases q), fun q => absurd q h⟩
theorem x_nonnull {off : Int} {x K i : Nat} (hd : decode (mB k) pc = .ok (.ifnonnull off, 3)) (ht : 0 ≤ (pc : Int) + off) : X k pc la (vR x K i :: st) M = if i = 0 then X k (pc + 3) la st M else X k (tgt pc off) la st M := by
  by_cases h : i = 0
  · subst h
    have h1 := x_br (la := la) (st := st) (M := M) (sa := vR x K 0 :: st) (c := False) hd rfl (b := false) rfl ht ⟨fun q => (by cases q), fun q => q.elim⟩
    rw [h1, if_neg (fun q => q), if_pos rfl]
  · rw [vR_pos h, if_neg h]
    have h1 := x_br (la := la) (st := st) (M := M) (sa := Sum.inr (Sum.inr (Sum.inl (some (x, K, i)))) :: st) (c := True) hd rfl (b := true) rfl ht ⟨fun _ => trivial, fun _ => rfl⟩
    rw [h1, if_pos trivial]
theorem vR_inj {x K i j : Nat} : (vR x K i = vR x K j) ↔ i = j := by
  constructor
  · intro h
    unfold vR at h
    by_cases hi : i = 0 <;> by_cases hj : j = 0
    · omega
    · rw [if_pos hi, if_neg hj] at h; cases h
    · rw [if_neg hi, if_pos hj] at h; cases h
    · rw [if_neg hi, if_neg hj] at h; cases h; rfl
  · rintro rfl; rfl
theorem x_acmp {cd : Jvm.ClassFile.ACond} {off : Int} {x K i j : Nat} {b : Bool} (hb : cd = .eq ∧ b = true ∨ cd = .ne ∧ b = false) (hd : decode (mB k) pc = .ok (.if_acmp cd off, 3)) (ht : 0 ≤ (pc : Int) + off) : X k pc la (vR x K j :: vR x K i :: st) M = if i = j then (if b then X k (tgt pc off) la st M else X k (pc + 3) la st M) else (if b then X k (pc + 3) la st M else X k (tgt pc off) la st M) := by
  have key : ∀ r r' : Option (Nat × Nat × Nat), vR x K j = Sum.inr (Sum.inr (Sum.inl r)) → vR x K i = Sum.inr (Sum.inr (Sum.inl r')) → (r' = r ↔ i = j) := by
    intro r r' h1 h2
    rw [← vR_inj (x := x) (K := K) (i := i) (j := j), h1, h2]
    exact ⟨fun q => by rw [q], fun q => by injection q with q; injection q with q; injection q⟩
  obtain ⟨r, hr⟩ : ∃ r, vR x K j = Sum.inr (Sum.inr (Sum.inl r)) := ⟨_, rfl⟩
  obtain ⟨r', hr'⟩ : ∃ r, vR x K i = Sum.inr (Sum.inr (Sum.inl r)) := ⟨_, rfl⟩
  have h9 := key r r' hr hr'
  rw [hr, hr']
  rcases hb with ⟨rfl, rfl⟩ | ⟨rfl, rfl⟩
  · have h1 := x_br (la := la) (st := st) (M := M) (sa := Sum.inr (Sum.inr (Sum.inl r)) :: Sum.inr (Sum.inr (Sum.inl r')) :: st) (b := (decide (r' = r) == true)) (c := i = j) hd rfl rfl ht (by rw [← h9]; simp)
    rw [h1]
    simp
  · have h1 := x_br (la := la) (st := st) (M := M) (sa := Sum.inr (Sum.inr (Sum.inl r)) :: Sum.inr (Sum.inr (Sum.inl r')) :: st) (b := (decide (r' = r) == false)) (c := ¬ i = j) hd rfl rfl ht (by rw [← h9]; simp)
    rw [h1]
    by_cases h8 : i = j
    · rw [if_neg (fun q => q h8), if_pos h8]; simp
    · rw [if_pos h8, if_neg h8]; simp
/-- fields -/
theorem x_get {q K S t f ps x i : Nat} (hd : decode (mB k) pc = .ok (.getfield q, 3)) (hp : pF (mO k) q = some (K, S, t, f, ps)) : X k pc la (vR x K i :: st) M = if i = 0 then none else X k (pc + 3) la (rdv M x K i S t :: st) M := by
  by_cases h : i = 0
  · subst h
    rw [if_pos rfl]
    refine xb hd rfl ?_
    show nGet k pc q la (vN :: st) M = bad
    unfold nGet
    rw [hp]
    rfl
  · rw [if_neg h, vR_pos h]
    refine xr hd rfl ?_
    show nGet k pc q la (Sum.inr (Sum.inr (Sum.inl (some (x, K, i)))) :: st) M = _
    unfold nGet
    rw [hp]
    exact if_pos rfl
theorem x_put {q K S t f ps x i : Nat} {v : AV} {M' : Mem} (hd : decode (mB k) pc = .ok (.putfield q, 3)) (hp : pF (mO k) q = some (K, S, t, f, ps)) (hx : x < 4) (hf : f = 0 ∨ (f = 1 ∧ K = mO k ∧ (mN k).name = "<init>")) (hw : wrv M x K i S t v = some M') : X k pc la (v :: vR x K i :: st) M = if i = 0 then none else X k (pc + 3) la st M' := by
  by_cases h : i = 0
  · subst h
    rw [if_pos rfl]
    refine xb hd rfl ?_
    show nPut k pc q la (v :: vN :: st) M = bad
    unfold nPut
    rw [hp]
    rfl
  · rw [if_neg h, vR_pos h]
    refine xr hd rfl ?_
    show nPut k pc q la (v :: Sum.inr (Sum.inr (Sum.inl (some (x, K, i)))) :: st) M = _
    unfold nPut
    rw [hp]
    dsimp only
    rw [if_pos ⟨rfl, hx, hf⟩, hw]
theorem wr_I {x K i S : Nat} {y : Int32} : wrv M x K i S 0 (vI y) = some (sI M x K i S y) := rfl
theorem wr_Z {x K i S : Nat} {y : Int32} (h : y = 0 ∨ y = 1) : wrv M x K i S 1 (vI y) = some (sI M x K i S y) := if_pos h
theorem wr_J {x K i S : Nat} {y : Int64} : wrv M x K i S 2 (vL y) = some (sJ M x K i S y) := rfl
theorem wr_R {x K i S j r : Nat} (hK : ¬ K = 11) : wrv M x K i S (j + 3) (vR x j r) = some (sR M x K i S r) := by
  by_cases h : r = 0
  · subst h; rfl
  · rw [vR_pos h]
    exact if_pos ⟨(xp_ne hK).symm, rfl⟩
/-- arrays -/
theorem x_alen {x K i : Nat} (hd : decode (mB k) pc = .ok (.arraylength, 1)) (hK : 13 ≤ K) : X k pc la (vR x K i :: st) M = if i = 0 then none else X k (pc + 1) la (vI (Int32.ofNat (lenA M x K i)) :: st) M := by
  by_cases h : i = 0
  · subst h
    rw [if_pos rfl]
    exact xb hd rfl rfl
  · rw [if_neg h, vR_pos h]
    exact xr hd rfl (if_pos hK)
theorem x_aget {ins : Instr} {t : Nat → Bool} {x K i : Nat} {j : Int32} (hd : decode (mB k) pc = .ok (ins, 1)) (hl : iln ins 1 = true) (h : ∀ sa, nxi k pc la sa M ins = nAget k pc la sa M t) (ht : t K = true) : X k pc la (vI j :: vR x K i :: st) M = if i ≠ 0 ∧ inb j (lenA M x K i) then X k (pc + 1) la (rdv M x K i j.toNatClampNeg (elK K) :: st) M else none := by
  by_cases h0 : i = 0
  · subst h0
    rw [if_neg (fun q => q.1 rfl)]
    refine xb hd hl ((h _).trans rfl)
  · by_cases hj : inb j (lenA M x K i)
    · rw [if_pos ⟨h0, hj⟩, vR_pos h0]
      exact xr hd hl ((h _).trans (if_pos ⟨ht, hj⟩))
    · rw [if_neg (fun q => hj q.2), vR_pos h0]
      exact xb hd hl ((h _).trans (if_neg fun q => hj q.2))
theorem x_aput {ins : Instr} {t : Nat → Bool} {x K i : Nat} {j : Int32} {v : AV} {M' : Mem} (hd : decode (mB k) pc = .ok (ins, 1)) (hl : iln ins 1 = true) (h : ∀ sa, nxi k pc la sa M ins = nAput k pc la sa M t) (ht : t K = true) (hx : x < 4) (hw : wrv M x K i j.toNatClampNeg (elK K) v = some M') : X k pc la (v :: vI j :: vR x K i :: st) M = if i ≠ 0 ∧ inb j (lenA M x K i) then X k (pc + 1) la st M' else none := by
  by_cases h0 : i = 0
  · subst h0
    rw [if_neg (fun q => q.1 rfl)]
    refine xb hd hl ((h _).trans ?_)
    unfold nAput
    split
    · next heq => cases heq
    · rfl
  · by_cases hj : inb j (lenA M x K i)
    · rw [if_pos ⟨h0, hj⟩, vR_pos h0]
      refine xr hd hl ((h _).trans ?_)
      have h7 : nAput k pc la (v :: vI j :: Sum.inr (Sum.inr (Sum.inl (some (x, K, i)))) :: st) M t = if t K = true ∧ x < 4 ∧ inb j (lenA M x K i) then (match wrv M x K i j.toNatClampNeg (elK K) v with
        | some M' => go k (pc + 1) la st M'
        | none => bad) else bad := rfl
      rw [h7, if_pos ⟨ht, hx, hj⟩, hw]
    · rw [if_neg (fun q => hj q.2), vR_pos h0]
      refine xb hd hl ((h _).trans ?_)
      have h7 : nAput k pc la (v :: vI j :: Sum.inr (Sum.inr (Sum.inl (some (x, K, i)))) :: st) M t = if t K = true ∧ x < 4 ∧ inb j (lenA M x K i) then (match wrv M x K i j.toNatClampNeg (elK K) v with
        | some M' => go k (pc + 1) la st M'
        | none => bad) else bad := rfl
      rw [h7, if_neg fun q => hj q.2.2]
/-- calls -/
theorem x_call {ins : Instr} {q kd c ps : Nat} {sa : List AV} (hd : decode (mB k) pc = .ok (ins, 3)) (hl : iln ins 3 = true) (h : nxi k pc la sa M ins = nInv k pc q la sa M kd) (hp : pM (mO k) q = some (c, kd, ps)) (hc : ((mA c ≤ sa.length ∧ (lay (sa.drop (mA c))).length ≤ 8) ∧ okC k c = true) ∧ (lay (sa.take (mA c)).reverse).length ≤ mL c ∧ recv c kd (sa.take (mA c)).reverse = true ∧ okK c kd = true) : X k pc la sa M = rsm k (pc + 3) la (sa.drop (mA c)) (X c 0 (entr c (sa.take (mA c)).reverse) [] M) := by
  refine Xc_cal ((nx_of hd hl).trans (h.trans ?_))
  unfold nInv
  rw [hp]
  exact if_pos ⟨⟨rfl, hc.1.1⟩, hc.1.2, hc.2⟩
end Rules31
