/-! a row of resolved code, checked against the tables; one step of the evaluator is sound -/
def laysz : List Nat → Nat
  | [] => 0
  | t :: r => laysz r + if t = 1 then 2 else 1
abbrev Sig : Type := Nat × List Nat
def sgC (C : Cal) : Sig := (C.1, C.2.1)
def rokC (w k : Nat) (cs : List Sig) (q kd a b e : Nat) : Bool := match pM (mO k) q, cs[a]? with
  | some (c, kd', _), some C => (decide (kd' = kd) && decide (C.1 = c)) && (decide (mA c = b) && decide (C.2.length = b)) && (okC k c && okK c kd) && decide (laysz C.2 ≤ mL c) && (match kd with
    | 0 => (decide (e = 1) || decide (e = 2)) && decide (C.2.head? = some (3 + mO c))
    | _ => decide (e = 0)) && C.2.all (fun t => !decide (t = 2))
  | _, _ => false
def rokF (w k q a b c d e : Nat) (f9 : Bool) : Bool := match pF (mO k) q with
  | some (K, S, t, f, _) => (decide (K = a) && decide (S = b) && decide (t = c) && !decide (K = 11)) && (if f9 then decide (f = 0) && (decide (c < 3) || decide ((a, b) ∈ dyT)) else (decide (c < 3) || decide (d = 0) || decide (d = 1) || (decide (d = 2) && decide ((a, b, e) ∈ grT w)) || (decide (d = 3) && decide (w = 0 ∧ a = 0 ∧ b = 2)) || (decide (d = 4) && decide (w = 0 ∧ a = 0 ∧ b = 3))))
  | none => false
def rokX (w a b c : Nat) : Bool := match c with
  | 0 => !decide (b = 0) && decide (b < 2147483648)
  | 1 => decide (w = 0 ∧ a = 13 ∧ b = 4)
  | 2 => decide (w = 0 ∧ a = 13 ∧ b = 4)
  | _ => decide (w = 2 ∧ a = 13)
def rokI (w k rt : Nat) (cs : List Sig) (pc : Nat) (i : Instr) (a b c d e : Nat) (n : Int) : Bool := match i with
  | .iconst m => decide (Int32.ofInt m = cn n)
  | .bipush m => decide ((Int8.ofInt m).toInt32 = cn n)
  | .sipush m => decide ((Int16.ofInt m).toInt32 = cn n)
  | .ldc q => (match pC (mO k) q with
      | some (v, _) => decide (Int32.ofInt v = cn n)
      | none => false)
  | .lconst m => decide (Int64.ofNat m = cl n)
  | .ldc2_w q => (match pL (mO k) q with
      | some (v, _) => decide (Int64.ofInt v = cl n)
      | none => false)
  | .iinc _ m => decide (n = m)
  | .ifCond _ off => decide (0 ≤ (pc : Int) + off)
  | .if_icmp _ off => decide (0 ≤ (pc : Int) + off)
  | .ifnull off => decide (0 ≤ (pc : Int) + off)
  | .ifnonnull off => decide (0 ≤ (pc : Int) + off)
  | .if_acmp _ off => decide (0 ≤ (pc : Int) + off)
  | .goto off => decide (0 ≤ (pc : Int) + off)
  | .tableswitch df lo hi os => decide (0 ≤ (pc : Int) + df) && os.toList.all (fun o => decide (0 ≤ (pc : Int) + o)) && decide (hi = lo + os.toList.length - 1) && rng lo && rng hi && rng (hi + 1)
  | .getfield q => rokF w k q a b c d e false
  | .putfield q => rokF w k q a b c d e true
  | .iaload => decide (a = 13) && rokX w a b c
  | .baload => false
  | .laload => decide (a = 14) && rokX w a b c
  | .aaload => decide (a ∈ [16, 17, 18, 19, 20, 21]) && rokX w a b c && (decide (d = 0) || decide (w = 0 ∧ (a, e, b) ∈ geT ∧ c = 0))
  | .iastore => decide (a = 13) && rokX w a b c
  | .bastore => false
  | .lastore => decide (a = 14) && rokX w a b c
  | .aastore => decide (a = 20) && rokX w a b c
  | .arraylength => decide (13 ≤ a) && rokX w a b c && decide (Int32.ofNat b = cn n) && decide (a < 22)
  | .invokevirtual q => rokC w k cs q 0 a b e
  | .invokestatic q => rokC w k cs q 1 a b e
  | .ireturn => decide (rt = 1) && (match a with
      | 0 => decide (mR k = some .int)
      | _ => decide (mR k = some .boolean))
  | .lreturn => decide (rt = 2) && decide (mR k = some .long)
  | .areturn => decide (rt = 3 + a) && (match mR k with
      | some (.object _) => true
      | _ => false)
  | .return_ => decide (rt = 0) && decide (mR k = none)
  | _ => true
def rok (w k rt : Nat) (cs : List Sig) (r : Row) : Bool := match r with
  | (pc, i, len, _, a, b, c, d, e, n) => iln i len && rokI w k rt cs pc i a b c d e n
/-- what is to be known of a callee -/
def CalOK (w : Nat) (C : Cal) : Prop := ∀ as p, Gr w p → tchk as C.2.1 = true → C.2.2.2.2.2 as p → ZJ w C.1 0 (zent C.1 as) [] p (if C.2.2.1 = 0 then none else some (C.2.2.2.2.1 as p).1, if C.2.2.2.1 = true then p else (C.2.2.2.2.1 as p).2)
set_option maxRecDepth 100000 in
theorem zln_0 : ∀ x < 2, ∀ K < 22, ∀ j < 64, (zlT 0 K).getD j 0 ≠ 0 → (aE (ad x K (j + 1))).2.2.2 = (zlT 0 K).getD j 0 := by decide +kernel
theorem zlT_len (w K : Nat) : (zlT w K).length ≤ 64 := by
  unfold zlT
  split <;> split <;> simp
theorem zlT_K {w K : Nat} (h : 22 ≤ K) : zlT w K = [] := by
  unfold zlT
  split <;> split <;> first | rfl | omega
theorem zln_s {w x K i n : Nat} (hx : okx w x) (hn : n ≠ 0) (h : zln w K i = n) (M : Mem) : ¬ i = 0 ∧ lenA M x K i = n := by
  cases i with
  | zero => exact absurd h.symm hn
  | succ j =>
    refine ⟨Nat.succ_ne_zero j, ?_⟩
    unfold zln at h
    dsimp only at h
    have hne : (zlT w K).getD j 0 ≠ 0 := by rw [h]; exact hn
    have hj : j < 64 := by
      have h1 := zlT_len w K
      rcases Nat.lt_or_ge j 64 with h2 | h2
      · exact h2
      · rw [List.getD_eq_getElem?_getD, List.getElem?_eq_none (by omega)] at hne
        exact absurd rfl hne
    have hK : K < 22 := by
      rcases Nat.lt_or_ge K 22 with h2 | h2
      · exact h2
      · rw [zlT_K h2] at hne
        exact absurd rfl hne
    have hx4 : ¬ x = 4 := by rcases hx with ⟨-, h1⟩ | ⟨-, h1⟩ <;> first | omega | exact h1.elim
    unfold lenA
    rw [if_neg hx4]
    rcases hx with ⟨rfl, h1⟩ | ⟨rfl, h1⟩
    · rw [zln_0 x (by omega) K hK j hj hne]; exact h
    · exact h1.elim
theorem zln_pos {i : Nat} (h0 : ¬ i = 0) (h : i ≤ 18) : zln 0 13 i = 4 := by
  have h1 : ∀ j < 18, zln 0 13 (j + 1) = 4 := by decide
  have h2 := h1 (i - 1) (by omega)
  rwa [show i - 1 + 1 = i by omega] at h2
theorem zln_row {i : Nat} (h0 : 20 ≤ i) (h : i ≤ 23) : zln 0 13 i = 4 := by
  have h1 : i = 20 ∨ i = 21 ∨ i = 22 ∨ i = 23 := by omega
  rcases h1 with rfl | rfl | rfl | rfl <;> rfl
theorem okx_4 {w x : Nat} (h : okx w x) : x < 4 := by rcases h with ⟨-, h⟩ | ⟨-, h⟩ <;> first | omega | exact h.elim
theorem Gr_eq {w : Nat} {p q : PM} (h : q.2.2 = p.2.2) (hg : Gr w p) : Gr w q := by
  unfold Gr at hg ⊢
  rw [h]; exact hg
theorem Gr_pR {w : Nat} {p : PM} {K i S v : Nat} (hd : (K, S) ∈ dyT ∨ (K = 20 ∧ i = 2)) (hg : Gr w p) : Gr w (pR p K i S v) := by
  obtain ⟨h1, h2⟩ := hg
  have key : ∀ K' i' S', ¬ ((K', S') ∈ dyT ∨ (K' = 20 ∧ i' = 2)) → (pR p K i S v).2.2 K' i' S' = p.2.2 K' i' S' := by
    intro K' i' S' hn
    show (if K' = K ∧ i' = i ∧ S' = S then v else p.2.2 K' i' S') = _
    rw [if_neg]
    rintro ⟨rfl, rfl, rfl⟩
    exact hn hd
  refine ⟨fun q hq => ?_, fun hw => ⟨fun a ha ha9 => ?_, fun q hq s hs => ?_⟩⟩
  · rw [key _ _ _ ?_]
    · exact h1 q hq
    · have h5 : ∀ w' < 2, ∀ q ∈ grT w', ¬ ((q.1, q.2.1) ∈ dyT ∨ (q.1 = 20 ∧ 1 = 2)) := by decide
      have h6 : ∀ w', grT w' = grT 0 ∨ grT w' = grT 1 := by
        intro w'
        cases w' with
        | zero => exact Or.inl rfl
        | succ n => exact Or.inr rfl
      rcases h6 w with h7 | h7
      · rw [h7] at hq; exact h5 0 (by decide) q hq
      · rw [h7] at hq; exact h5 1 (by decide) q hq
  · obtain ⟨h3, h4⟩ := h2 hw
    rw [key _ _ _ (by rintro (h | ⟨h, -⟩) <;> revert h <;> decide), key _ _ _ (by rintro (h | ⟨h, -⟩) <;> revert h <;> decide)]
    exact h3 a ha ha9
  · obtain ⟨h3, h4⟩ := h2 hw
    rw [key _ _ _ ?_]
    · exact h4 q hq s hs
    · have h5 : ∀ q ∈ geT, ¬ (q.1 = 10 ∨ q.1 = 4) := by decide
      rintro (h | ⟨-, h⟩)
      · refine h5 q hq ?_
        have h8 : ∀ z ∈ dyT, z.1 = 10 ∨ z.1 = 4 := by decide
        exact h8 _ h
      · omega
theorem spl_s : ∀ {n : Nat} {sa acc as st : List ZV}, spl n sa acc = some (as, st) → ∃ u, sa = u ++ st ∧ as = u.reverse ++ acc ∧ u.length = n
  | 0, sa, acc, as, st, h => by
    unfold spl at h
    cases h
    exact ⟨[], rfl, rfl, rfl⟩
  | n + 1, v :: sa, acc, as, st, h => by
    unfold spl at h
    obtain ⟨u, h1, h2, h3⟩ := spl_s h
    exact ⟨v :: u, by rw [h1]; rfl, by rw [h2]; simp, by simp [h3]⟩
  | n + 1, [], acc, as, st, h => by unfold spl at h; cases h
theorem lay_len : ∀ {as : List ZV} {ts : List Nat}, tchk as ts = true → ts.all (fun t => !decide (t = 2)) = true → (zlay as).length = laysz ts
  | [], [], _, _ => rfl
  | [], _ :: _, h, _ => by cases h
  | _ :: _, [], h, _ => by cases h
  | v :: r, t :: ts, h, h2 => by
    unfold tchk at h
    simp only [Bool.and_eq_true] at h
    simp only [List.all_cons, Bool.and_eq_true] at h2
    have ih := lay_len h.2 h2.2
    have ht : znl v = !decide (t = 1) := by
      have h1 := h.1
      unfold tck at h1
      have h9 := h2.1
      match t, h1, h9 with
      | 0, h1, _ =>
        rcases v with n | y | y | ⟨k, i⟩ | u <;> first | rfl | (cases h1)
      | 1, h1, _ =>
        rcases v with n | y | y | ⟨k, i⟩ | u <;> first | rfl | (cases h1)
      | 2, _, h9 => cases h9
      | j + 3, h1, _ =>
        rcases v with n | y | y | ⟨k, i⟩ | u <;> first | (cases h1; done) | (simp [znl])
    unfold zlay
    rw [ht]
    by_cases h1 : t = 1
    · subst h1
      show (v :: zJ :: zlay r).length = laysz ts + 2
      simp [ih]
    · rw [decide_eq_false h1]
      have h3 : laysz (t :: ts) = laysz ts + 1 := by
        show laysz ts + (if t = 1 then 2 else 1) = _
        rw [if_neg h1]
      rw [h3]
      show (v :: zlay r).length = _
      simp [ih]
