/-! Y: steps by a code table whose operands are told, for the methods that go over several parts -/
abbrev YR : Type := Nat × Instr × Nat × (Nat × Nat × Nat × Nat × Int)
def rR (x K i : Nat) : AV := Sum.inr (Sum.inr (Sum.inl (some (x, K, i))))
def frm3 : List YR → Nat → List YR
  | [], _ => []
  | r :: t, pc => match Nat.beq r.1 pc with
    | true => r :: t
    | false => frm3 t pc
def nxt3 (tab rest : List YR) (pc : Nat) : List YR := match rest with
  | [] => frm3 tab pc
  | r :: t => match Nat.beq r.1 pc with
    | true => r :: t
    | false => frm3 tab pc
def ysp : Nat → List AV → List AV → Option (List AV × List AV)
  | 0, sa, acc => some (acc, sa)
  | n + 1, v :: sa, acc => ysp n sa (v :: acc)
  | _ + 1, [], _ => none
def yrc (kd O : Nat) (as : List AV) : Bool := match kd with
  | 1 => true
  | _ => (match as with
    | .inr (.inr (.inl (some (x, K, _)))) :: _ => Nat.beq K O && Nat.blt x 4
    | _ => false)
def yInv (k pc : Nat) (la sa : List AV) (M : Mem) (c b m kd O : Nat) : Nx := match ysp b sa [] with
  | some (as, st) => (match yrc kd O as && (Nat.ble (lay as).length m && Nat.ble (lay st).length 8) with
    | true => Sum.inr (Sum.inr ((c, 0, lay as ++ List.replicate (m - (lay as).length) vJ, [], M), (k, pc + 3, la, st)))
    | false => bad)
  | none => bad
def yGet (k pc : Nat) (la sa : List AV) (M : Mem) (K S t : Nat) : Nx := match sa with
  | .inr (.inr (.inl (some (x, K', i)))) :: st => (match Nat.beq K' K with
    | true => go k (pc + 3) la (rdv M x K i S t :: st) M
    | false => bad)
  | _ => bad
def yPut (k pc : Nat) (la sa : List AV) (M : Mem) (K S t : Nat) : Nx := match sa with
  | v :: .inr (.inr (.inl (some (x, K', i)))) :: st => (match Nat.beq K' K && Nat.blt x 4 with
    | true => (match wrv M x K i S t v with
      | some M' => go k (pc + 3) la st M'
      | none => bad)
    | false => bad)
  | _ => bad
/-- one more exception -/
def xc (M : Mem) : Mem := (M.1, (M.2.1, M.2.2.1, M.2.2.2 + 1))
def yX (k pc : Nat) (la sa : List AV) (M : Mem) (i : Instr) (a b c d : Nat) (n : Int) : Nx := match i with
  | .iconst _ => go k (pc + 1) la (vI (cn n) :: sa) M
  | .bipush _ => go k (pc + 2) la (vI (cn n) :: sa) M
  | .sipush _ => go k (pc + 3) la (vI (cn n) :: sa) M
  | .ldc _ => (match a with
    | 0 => go k (pc + 2) la (vI (cn n) :: sa) M
    | _ => bad)
  | .getfield _ => yGet k pc la sa M a b c
  | .putfield _ => yPut k pc la sa M a b c
  | .invokevirtual _ => yInv k pc la sa M a b c 0 d
  | .invokestatic _ => yInv k pc la sa M a b c 1 d
  | .invokespecial _ => (match n with
    | .ofNat 2 => yInv k pc la sa M a b c 2 d
    | .ofNat 3 => yInv k pc la sa M a b c 3 d
    | .ofNat 9 => bad
    | _ => (match sa with
      | .inr (.inr (.inl (some _))) :: st => (match Nat.ble st.length 4 with
        | true => go k (pc + 3) la st M
        | false => bad)
      | _ => bad))
  | .new q => (match d with
    | 0 => (match sa with
      | [] => hlt (.inr a) (xc M)
      | _ => bad)
    | _ => nxi k pc la sa M (.new q))
  | .ireturn => (match sa with
    | [.inl x] => hlt (.inl (some (vI (match a with
      | 0 => x
      | _ => x &&& 1)))) M
    | _ => bad)
  | .lreturn => (match sa with
    | [.inr (.inl x)] => hlt (.inl (some (vL x))) M
    | _ => bad)
  | .areturn => (match sa with
    | [.inr (.inr (.inl r))] => hlt (.inl (some (Sum.inr (Sum.inr (Sum.inl r))))) M
    | _ => bad)
  | .return_ => (match sa with
    | [] => hlt (.inl none) M
    | _ => bad)
  | i => nxi k pc la sa M i
def yokC (k q c b m kd O : Nat) : Bool := match pM (mO k) q with
  | some (c', kd', _) => ((decide (c' = c) && decide (kd' = kd)) && (decide (mA c = b) && decide (mL c = m))) && ((okC k c && okK c kd) && decide (mO c = O))
  | none => false
def rok3 (k : Nat) (r : YR) : Bool := iln r.2.1 r.2.2.1 && (match r.2.1 with
  | .iconst m => decide (m = r.2.2.2.2.2.2.2)
  | .bipush m => decide ((Int8.ofInt m).toInt32 = cn r.2.2.2.2.2.2.2)
  | .sipush m => decide ((Int16.ofInt m).toInt32 = cn r.2.2.2.2.2.2.2)
  | .ldc q => (match r.2.2.2.1 with
    | 0 => (match pC (mO k) q with
      | some (v, _) => decide (v = r.2.2.2.2.2.2.2)
      | none => false)
    | _ => true)
  | .getfield q => (match pF (mO k) q with
    | some (K, S, t, _) => decide (K = r.2.2.2.1) && (decide (S = r.2.2.2.2.1) && decide (t = r.2.2.2.2.2.1))
    | none => false)
  | .putfield q => (match pF (mO k) q with
    | some (K, S, t, f, _) => (decide (K = r.2.2.2.1) && (decide (S = r.2.2.2.2.1) && decide (t = r.2.2.2.2.2.1))) && decide (f = 0 ∨ (f = 1 ∧ K = mO k ∧ (mN k).name = "<init>"))
    | none => false)
  | .invokevirtual q => yokC k q r.2.2.2.1 r.2.2.2.2.1 r.2.2.2.2.2.1 0 r.2.2.2.2.2.2.1
  | .invokestatic q => yokC k q r.2.2.2.1 r.2.2.2.2.1 r.2.2.2.2.2.1 1 r.2.2.2.2.2.2.1
  | .invokespecial q => (match r.2.2.2.2.2.2.2 with
    | .ofNat 2 => yokC k q r.2.2.2.1 r.2.2.2.2.1 r.2.2.2.2.2.1 2 r.2.2.2.2.2.2.1
    | .ofNat 3 => yokC k q r.2.2.2.1 r.2.2.2.2.1 r.2.2.2.2.2.1 3 r.2.2.2.2.2.2.1
    | .ofNat 9 => true
    | _ => (match pM (mO k) q with
      | some (_, 4, _) => true
      | _ => false))
  | .new q => (match r.2.2.2.2.2.2.1 with
    | 0 => (match pK (mO k) q with
      | some (K, _) => decide (K = 100 + r.2.2.2.1) && thrS k r.1 q r.2.2.2.1
      | none => false)
    | _ => true)
  | .ireturn => (match r.2.2.2.1 with
    | 0 => decide (mR k = some .int)
    | _ => decide (mR k = some .boolean))
  | .lreturn => decide (mR k = some .long)
  | .areturn => (match mR k with
    | some (.object _) => true
    | _ => false)
  | .return_ => decide (mR k = none)
  | _ => true)
theorem ysp_s : ∀ (n : Nat) (sa acc : List AV) (r : List AV × List AV), ysp n sa acc = some r → n ≤ sa.length ∧ r.1 = (sa.take n).reverse ++ acc ∧ r.2 = sa.drop n
  | 0, sa, acc, r, h => by
    cases h
    exact ⟨Nat.zero_le _, rfl, rfl⟩
  | n + 1, [], acc, r, h => by cases h
  | n + 1, v :: sa, acc, r, h => by
    obtain ⟨h1, h2, h3⟩ := ysp_s n sa (v :: acc) r h
    refine ⟨Nat.succ_le_succ h1, ?_, h3⟩
    rw [h2, List.take_succ_cons, List.reverse_cons, List.append_assoc]
    rfl
theorem yrc_s {c kd O : Nat} {as : List AV} (h : yrc kd O as = true) (hO : mO c = O) : recv c kd as = true := by
  unfold yrc at h
  split at h
  · rfl
  · next hne =>
    split at h
    · next x K i t =>
      simp only [Bool.and_eq_true] at h
      have h1 := Nat.eq_of_beq_eq_true h.1
      have h2 := Nat.blt_eq.mp h.2
      unfold recv
      split
      · rfl
      · next x' K' i' t' _ e =>
        cases e
        rw [Bool.and_eq_true]
        exact ⟨decide_eq_true (h1.trans hO.symm), decide_eq_true h2⟩
      · next hn => exact absurd rfl (hn _ _ _ _)
    · cases h
theorem yInv_s {k pc q c b m kd O : Nat} {la sa : List AV} {M : Mem} (h : yokC k q c b m kd O = true) : nInv k pc q la sa M kd = yInv k pc la sa M c b m kd O ∨ yInv k pc la sa M c b m kd O = bad := by
  unfold yokC at h
  split at h
  · next c' kd' ps hp =>
    simp only [Bool.and_eq_true, decide_eq_true_eq] at h
    obtain ⟨⟨⟨rfl, rfl⟩, rfl, rfl⟩, ⟨h5, h6⟩, rfl⟩ := h
    unfold yInv
    cases hs : ysp (mA c') sa [] with
    | none => exact Or.inr rfl
    | some r =>
      obtain ⟨as, st⟩ := r
      obtain ⟨h1, h2, h3⟩ := ysp_s _ _ _ _ hs
      dsimp only at h2 h3 ⊢
      rw [List.append_nil] at h2
      cases hb : yrc kd' (mO c') as && (Nat.ble (lay as).length (mL c') && Nat.ble (lay st).length 8) with
      | false => exact Or.inr rfl
      | true =>
        left
        simp only [Bool.and_eq_true] at hb
        obtain ⟨hb1, hb2, hb3⟩ := hb
        have e := yrc_s hb1 rfl
        unfold nInv
        rw [hp]
        dsimp only
        rw [← h2, ← h3, if_pos ⟨⟨rfl, h1, Nat.ble_eq.mp hb3⟩, h5, Nat.ble_eq.mp hb2, e, h6⟩]
        rfl
  · cases h
theorem yX_s {k pc len a b c d : Nat} {n : Int} {i : Instr} {la sa : List AV} {M : Mem} (h : rok3 k (pc, i, len, a, b, c, d, n) = true) : nxi k pc la sa M i = yX k pc la sa M i a b c d n ∨ yX k pc la sa M i a b c d n = bad := by
  unfold rok3 at h
  rw [Bool.and_eq_true] at h
  replace h := h.2
  dsimp only at h
  unfold yX
  split
  · left
    have h1 := of_decide_eq_true h
    show go k (pc + 1) la (vI (Int32.ofInt _) :: sa) M = _
    rw [h1]
    rfl
  · left
    have h1 := of_decide_eq_true h
    show go k (pc + 2) la (vI _ :: sa) M = _
    rw [h1]
  · left
    have h1 := of_decide_eq_true h
    show go k (pc + 3) la (vI _ :: sa) M = _
    rw [h1]
  · next q =>
    dsimp only at h
    cases a with
    | succ a => exact Or.inr rfl
    | zero =>
    left
    replace h : (match pC (mO k) q with
      | some (v, _) => decide (v = n)
      | none => false) = true := h
    split at h
    · next v ps hp =>
      have h1 := of_decide_eq_true h
      show (match pC (mO k) q with
        | some (v, _) => go k (pc + 2) la (vI (Int32.ofInt v) :: sa) M
        | none => bad) = _
      rw [hp]
      dsimp only
      rw [h1]
      rfl
    · cases h
  · next q =>
    dsimp only at h
    split at h
    · next K S t z hp =>
      simp only [Bool.and_eq_true, decide_eq_true_eq] at h
      obtain ⟨rfl, rfl, rfl⟩ := h
      show nGet k pc q la sa M = _ ∨ _
      unfold yGet
      split
      · next x K' i st =>
        cases hb : Nat.beq K' K with
        | false => exact Or.inr rfl
        | true =>
          left
          have h1 := Nat.eq_of_beq_eq_true hb
          unfold nGet
          rw [hp]
          exact if_pos h1
      · exact Or.inr rfl
    · cases h
  · next q =>
    dsimp only at h
    split at h
    · next K S t f ps hp =>
      simp only [Bool.and_eq_true, decide_eq_true_eq] at h
      obtain ⟨⟨rfl, rfl, rfl⟩, hf⟩ := h
      show nPut k pc q la sa M = _ ∨ _
      unfold yPut
      split
      · next v x K' i st =>
        cases hb : Nat.beq K' K && Nat.blt x 4 with
        | false => exact Or.inr rfl
        | true =>
          left
          simp only [Bool.and_eq_true] at hb
          have h1 := Nat.eq_of_beq_eq_true hb.1
          have h2 := Nat.blt_eq.mp hb.2
          unfold nPut
          rw [hp]
          exact if_pos ⟨h1, h2, hf⟩
      · exact Or.inr rfl
    · cases h
  · exact yInv_s h
  · exact yInv_s h
  · next q =>
    dsimp only at h
    split at h
    · next heq =>
      rcases yInv_s (pc := pc) (la := la) (sa := sa) (M := M) h with h1 | h1
      · left
        rw [← h1]
        show nSpc k pc q la sa M = _
        unfold yokC at h
        unfold nSpc
        split at h
        · next c' kd' ps hp =>
          simp only [Bool.and_eq_true, decide_eq_true_eq] at h
          rw [hp, h.1.1.2]
          rcases sa with _ | ⟨y | y | ⟨⟩ | y, st⟩ <;> rfl
        · cases h
      · exact Or.inr h1
    · next heq =>
      rcases yInv_s (pc := pc) (la := la) (sa := sa) (M := M) h with h1 | h1
      · left
        rw [← h1]
        show nSpc k pc q la sa M = _
        unfold yokC at h
        unfold nSpc
        split at h
        · next c' kd' ps hp =>
          simp only [Bool.and_eq_true, decide_eq_true_eq] at h
          rw [hp, h.1.1.2]
          rcases sa with _ | ⟨y | y | ⟨⟩ | y, st⟩ <;> rfl
        · cases h
      · exact Or.inr h1
    · exact Or.inr rfl
    · next n2 n3 n9 =>
      split at h
      · next c' ps hp =>
        split
        · next z st =>
          cases hb : Nat.ble st.length 4 with
          | false => exact Or.inr rfl
          | true =>
            left
            show nSpc k pc q la _ M = _
            unfold nSpc
            rw [hp]
            exact if_pos (Nat.ble_eq.mp hb)
        · exact Or.inr rfl
      · cases h
  · next q =>
    dsimp only at h
    cases d with
    | zero =>
      replace h : (match pK (mO k) q with
        | some (K, _) => decide (K = 100 + a) && thrS k pc q a
        | none => false) = true := h
      split at h
      · next K ps hp =>
        simp only [Bool.and_eq_true, decide_eq_true_eq] at h
        cases sa with
        | nil =>
          left
          show nNewC k pc q la [] M = _
          unfold nNewC
          rw [hp]
          dsimp only
          have h3 : K - 100 = a := by omega
          rw [if_neg (by omega), if_pos ⟨by omega, by rw [h3]; exact h.2, rfl⟩, h3]
          rfl
        | cons v st => exact Or.inr rfl
      · cases h
    | succ d => exact Or.inl rfl
  · dsimp only at h
    split
    · next x =>
      left
      show nRet k [Sum.inl x] M = _
      cases a with
      | zero =>
        have h1 := of_decide_eq_true h
        unfold nRet
        rw [h1]
        rfl
      | succ a =>
        have h1 := of_decide_eq_true h
        unfold nRet
        rw [h1]
        rfl
    · exact Or.inr rfl
  · have h1 := of_decide_eq_true h
    split
    · left
      exact if_pos h1
    · exact Or.inr rfl
  · dsimp only at h
    split at h
    · next s hs =>
      split
      · next r =>
        left
        show nAret k [Sum.inr (Sum.inr (Sum.inl r))] M = _
        unfold nAret
        rw [hs]
      · exact Or.inr rfl
    · cases h
  · have h1 := of_decide_eq_true h
    split
    · left
      exact if_pos ⟨h1, rfl⟩
    · exact Or.inr rfl
  · exact Or.inl rfl
def T3OK (k : Nat) (tab : List YR) : Prop := ∀ r ∈ tab, decode (mB k) r.1 = .ok (r.2.1, r.2.2.1) ∧ rok3 k r = true
theorem t3_ok {k : Nat} {tab : List YR} {K : List (Nat × Instr × Nat)} (hm : tab.map (fun r => (r.1, r.2.1, r.2.2.1)) = K) (hd : ∀ {j pc len : Nat} {i : Instr}, K[j]? = some (pc, i, len) → decode (mB k) pc = .ok (i, len)) (hr : tab.all (rok3 k) = true) : T3OK k tab := by
  refine fun r h => ⟨?_, List.all_eq_true.mp hr r h⟩
  obtain ⟨j, hj⟩ := List.mem_iff_getElem?.mp h
  refine hd (j := j) (pc := r.1) (i := r.2.1) (len := r.2.2.1) ?_
  rw [← hm, List.getElem?_map, hj]
  rfl
def yS (k : Nat) (tab : List YR) (n : Nat) : Nat → List YR → List AV → List AV → Mem → Nx :=
  Nat.rec (motive := fun _ => Nat → List YR → List AV → List AV → Mem → Nx) (fun pc _ la sa M => go k pc la sa M)
    (fun _ ih pc rest la sa M => match rest with
      | [] => go k pc la sa M
      | (q, i, _, a, b, c, d, n) :: t => (match Nat.beq q pc with
        | false => go k pc la sa M
        | true => (match yX k q la sa M i a b c d n with
          | .inr (.inl (k', pc', la', sa', M')) => (match Nat.beq k' k with
            | true => ih pc' (nxt3 tab t pc') la' sa' M'
            | false => bad)
          | z => z))) n
noncomputable def xn (z : Nx) : Option (Out × Mem) := match z with
  | .inl o => o
  | .inr (.inl c) => Xc c
  | .inr (.inr (c', (k, pc, la, sa))) => rsm k pc la sa (Xc c')
theorem frm3_sub : ∀ {tab : List YR} {pc : Nat} {r : YR}, r ∈ frm3 tab pc → r ∈ tab
  | [], _, _, h => h
  | q :: t, pc, r, h => by
    unfold frm3 at h
    split at h
    · exact h
    · exact List.mem_cons_of_mem _ (frm3_sub h)
theorem nxt3_sub {tab rest : List YR} {pc : Nat} {r : YR} (h : r ∈ nxt3 tab rest pc) : r ∈ rest ∨ r ∈ tab := by
  unfold nxt3 at h
  split at h
  · exact Or.inr (frm3_sub h)
  · split at h
    · exact Or.inl h
    · exact Or.inr (frm3_sub h)
theorem yS_s {k : Nat} {tab : List YR} (hk : T3OK k tab) : ∀ (n pc : Nat) (rest : List YR) (la sa : List AV) (M : Mem), (∀ r ∈ rest, r ∈ tab) → X k pc la sa M = xn (yS k tab n pc rest la sa M) ∨ yS k tab n pc rest la sa M = bad
  | 0, pc, rest, la, sa, M, _ => Or.inl rfl
  | n + 1, pc, [], la, sa, M, _ => Or.inl rfl
  | n + 1, pc, (q, i, len, a, b, c, d, z) :: t, la, sa, M, hr => by
    show _ = xn (match Nat.beq q pc with
        | false => go k pc la sa M
        | true => (match yX k q la sa M i a b c d z with
          | .inr (.inl (k', pc', la', sa', M')) => (match Nat.beq k' k with
            | true => yS k tab n pc' (nxt3 tab t pc') la' sa' M'
            | false => bad)
          | z => z)) ∨ (match Nat.beq q pc with
        | false => go k pc la sa M
        | true => (match yX k q la sa M i a b c d z with
          | .inr (.inl (k', pc', la', sa', M')) => (match Nat.beq k' k with
            | true => yS k tab n pc' (nxt3 tab t pc') la' sa' M'
            | false => bad)
          | z => z)) = bad
    cases hq : Nat.beq q pc with
    | false => exact Or.inl rfl
    | true =>
      have hq' := Nat.eq_of_beq_eq_true hq
      subst hq'
      obtain ⟨hd, ho⟩ := hk _ (hr _ List.mem_cons_self)
      dsimp only at hd ⊢
      have hl : iln i len = true := by
        unfold rok3 at ho
        rw [Bool.and_eq_true] at ho
        exact ho.1
      have hnx := nx_of (la := la) (sa := sa) (M := M) hd hl
      rcases yX_s (pc := q) (len := len) (la := la) (sa := sa) (M := M) ho with h1 | h1
      · rw [h1] at hnx
        generalize yX k q la sa M i a b c d z = w at hnx
        rcases w with o | ⟨k', pc', la', sa', M'⟩ | ⟨c', k', pc', la', sa'⟩
        · exact Or.inl (Xc_hlt hnx)
        · dsimp only
          cases hkk : Nat.beq k' k with
          | false => exact Or.inr rfl
          | true =>
            have hkk' := Nat.eq_of_beq_eq_true hkk
            subst hkk'
            have h3 := yS_s hk n pc' (nxt3 tab t pc') la' sa' M' (fun r h => by
              rcases nxt3_sub h with h4 | h4
              · exact hr _ (List.mem_cons_of_mem _ h4)
              · exact h4)
            rcases h3 with h3 | h3
            · left
              rw [← h3]
              exact Xc_go hnx
            · exact Or.inr h3
        · exact Or.inl (Xc_cal hnx)
      · rw [h1]
        exact Or.inr rfl
section YUse
variable {k : Nat} {tab : List YR} {pc : Nat} {la sa : List AV} {M : Mem} {r : Option (Out × Mem)}
theorem y_run (hk : T3OK k tab) (n : Nat) {z : Nx} (h : yS k tab n pc (frm3 tab pc) la sa M = z) (hz : z ≠ bad) : X k pc la sa M = xn z := by
  rcases yS_s hk n pc (frm3 tab pc) la sa M (fun r h => frm3_sub h) with h1 | h1
  · rw [h1, h]
  · rw [h] at h1
    exact absurd h1 hz
theorem y_go (hk : T3OK k tab) (n pc' : Nat) {la' sa' : List AV} {M' : Mem} (h : yS k tab n pc (frm3 tab pc) la sa M = go k pc' la' sa' M') (h2 : X k pc' la' sa' M' = r) : X k pc la sa M = r := (y_run hk n h (fun e => by cases e)).trans h2
theorem y_ret (hk : T3OK k tab) (n : Nat) {o : Out} {M' : Mem} (h : yS k tab n pc (frm3 tab pc) la sa M = hlt o M') (h2 : some (o, M') = r) : X k pc la sa M = r := (y_run hk n h (fun e => by cases e)).trans h2
theorem y_cal (hk : T3OK k tab) (n pc' : Nat) {c : Nat} {ent la' sa' : List AV} {v : AV} {M1 M2 : Mem} (h : yS k tab n pc (frm3 tab pc) la sa M = Sum.inr (Sum.inr ((c, 0, ent, [], M1), (k, pc', la', sa')))) (hc : X c 0 ent [] M1 = some (.inl (some v), M2)) (h2 : X k pc' la' (v :: sa') M2 = r) : X k pc la sa M = r := by
  refine (y_run hk n h (fun e => by cases e)).trans ?_
  show rsm k pc' la' sa' (X c 0 ent [] M1) = r
  rw [hc]
  exact h2
theorem y_ca0 (hk : T3OK k tab) (n pc' : Nat) {c : Nat} {ent la' sa' : List AV} {M1 M2 : Mem} (h : yS k tab n pc (frm3 tab pc) la sa M = Sum.inr (Sum.inr ((c, 0, ent, [], M1), (k, pc', la', sa')))) (hc : X c 0 ent [] M1 = some (.inl none, M2)) (h2 : X k pc' la' sa' M2 = r) : X k pc la sa M = r := by
  refine (y_run hk n h (fun e => by cases e)).trans ?_
  show rsm k pc' la' sa' (X c 0 ent [] M1) = r
  rw [hc]
  exact h2
/-- the callee throws, and nothing catches it here -/
theorem y_thr (hk : T3OK k tab) (n pc' : Nat) {c e : Nat} {ent la' sa' : List AV} {M1 M2 : Mem} (h : yS k tab n pc (frm3 tab pc) la sa M = Sum.inr (Sum.inr ((c, 0, ent, [], M1), (k, pc', la', sa')))) (hc : X c 0 ent [] M1 = some (.inr e, M2)) (hs : spc k (pc' - 3) = false) (hh : lk hT k = none) (h2 : some (.inr e, M2) = r) : X k pc la sa M = r := by
  refine (y_run hk n h (fun e => by cases e)).trans ?_
  show rsm k pc' la' sa' (X c 0 ent [] M1) = r
  rw [hc]
  refine (rsm_t hs ?_).trans h2
  unfold hnd
  rw [hh]
  rfl
theorem y_hnd (hk : T3OK k tab) (n pc' hp j : Nat) {c e : Nat} {ent la' sa' : List AV} {M1 M2 : Mem} (h : yS k tab n pc (frm3 tab pc) la sa M = Sum.inr (Sum.inr ((c, 0, ent, [], M1), (k, pc', la', sa')))) (hc : X c 0 ent [] M1 = some (.inr e, M2)) (hs : spc k (pc' - 3) = false) (hh : hnd k (pc' - 3) e = some (hp, j)) (hj : Nat.blt j la'.length = true) (h2 : X k hp (st1 la' j vJ) [] M2 = r) : X k pc la sa M = r := by
  refine (y_run hk n h (fun e => by cases e)).trans ?_
  show rsm k pc' la' sa' (X c 0 ent [] M1) = r
  rw [hc]
  exact (rsm_h hs hh (Nat.blt_eq.mp hj)).trans h2
theorem row3 {q : Nat} {u : YR} {t : List YR} (hk : T3OK k tab) (hi : frm3 tab q = u :: t) : decode (mB k) u.1 = .ok (u.2.1, u.2.2.1) ∧ rok3 k u = true := hk _ (frm3_sub (pc := q) (by rw [hi]; exact List.mem_cons_self))
theorem hd3 {q pc len : Nat} {i : Instr} {z : Nat × Nat × Nat × Nat × Int} {t : List YR} (hk : T3OK k tab) (hi : frm3 tab q = (pc, i, len, z) :: t) : decode (mB k) pc = .ok (i, len) := (row3 hk hi).1
/-- branches: on a number and 0, or on two -/
theorem y_ifT (hk : T3OK k tab) (n pc' q : Nat) {cd : Jvm.ClassFile.Cond} {off : Int} {z : Nat × Nat × Nat × Nat × Int} {t : List YR} {la' st : List AV} {x : Int32} {M' : Mem} (h : yS k tab n pc (frm3 tab pc) la sa M = go k pc' la' (vI x :: st) M') (hi : frm3 tab pc' = (pc', .ifCond cd off, 3, z) :: t) (hq : (pc' : Int) + off = q) (hc : cmpI cd x 0 = true) (h2 : X k q la' st M' = r) : X k pc la sa M = r := by
  refine y_go hk n pc' h ?_
  have h9 : tgt pc' off = q := by unfold tgt; rw [hq]; rfl
  rw [x_if (c := True) (hd3 hk hi) (by rw [hq]; exact Int.natCast_nonneg q) ⟨fun _ => trivial, fun _ => hc⟩, if_pos trivial, h9]
  exact h2
theorem y_ifF (hk : T3OK k tab) (n pc' q : Nat) {cd : Jvm.ClassFile.Cond} {off : Int} {z : Nat × Nat × Nat × Nat × Int} {t : List YR} {la' st : List AV} {x : Int32} {M' : Mem} (h : yS k tab n pc (frm3 tab pc) la sa M = go k pc' la' (vI x :: st) M') (hi : frm3 tab pc' = (pc', .ifCond cd off, 3, z) :: t) (hq : pc' + 3 = q) (h0 : 0 ≤ (pc' : Int) + off) (hc : cmpI cd x 0 = false) (h2 : X k q la' st M' = r) : X k pc la sa M = r := by
  refine y_go hk n pc' h ?_
  rw [x_if (c := False) (hd3 hk hi) h0 ⟨fun h => (by rw [hc] at h; cases h), fun h => h.elim⟩, if_neg (fun h => h), hq]
  exact h2
theorem y_icT (hk : T3OK k tab) (n pc' q : Nat) {cd : Jvm.ClassFile.Cond} {off : Int} {z : Nat × Nat × Nat × Nat × Int} {t : List YR} {la' st : List AV} {x y : Int32} {M' : Mem} (h : yS k tab n pc (frm3 tab pc) la sa M = go k pc' la' (vI y :: vI x :: st) M') (hi : frm3 tab pc' = (pc', .if_icmp cd off, 3, z) :: t) (hq : (pc' : Int) + off = q) (hc : cmpI cd x y = true) (h2 : X k q la' st M' = r) : X k pc la sa M = r := by
  refine y_go hk n pc' h ?_
  have h9 : tgt pc' off = q := by unfold tgt; rw [hq]; rfl
  rw [x_icmp (c := True) (hd3 hk hi) (by rw [hq]; exact Int.natCast_nonneg q) ⟨fun _ => trivial, fun _ => hc⟩, if_pos trivial, h9]
  exact h2
theorem y_icF (hk : T3OK k tab) (n pc' q : Nat) {cd : Jvm.ClassFile.Cond} {off : Int} {z : Nat × Nat × Nat × Nat × Int} {t : List YR} {la' st : List AV} {x y : Int32} {M' : Mem} (h : yS k tab n pc (frm3 tab pc) la sa M = go k pc' la' (vI y :: vI x :: st) M') (hi : frm3 tab pc' = (pc', .if_icmp cd off, 3, z) :: t) (hq : pc' + 3 = q) (h0 : 0 ≤ (pc' : Int) + off) (hc : cmpI cd x y = false) (h2 : X k q la' st M' = r) : X k pc la sa M = r := by
  refine y_go hk n pc' h ?_
  rw [x_icmp (c := False) (hd3 hk hi) h0 ⟨fun h => (by rw [hc] at h; cases h), fun h => h.elim⟩, if_neg (fun h => h), hq]
  exact h2
/-- a switch, where its number is known -/
theorem y_tab (hk : T3OK k tab) (n pc' q j : Nat) {d lo hi o : Int} {os : Array Int} {len : Nat} {z : Nat × Nat × Nat × Nat × Int} {t : List YR} {la' st : List AV} {x : Int32} {M' : Mem} (h : yS k tab n pc (frm3 tab pc) la sa M = go k pc' la' (vI x :: st) M') (hr : frm3 tab pc' = (pc', .tableswitch d lo hi os, len, z) :: t) (hx : x.toInt = lo + j) (hj : lo + j ≤ hi) (ho : os[j]? = some o) (hq : (pc' : Int) + o = q) (h2 : X k q la' st M' = r) : X k pc la sa M = r := by
  refine y_go hk n pc' h ?_
  have h9 : tgt pc' o = q := by unfold tgt; rw [hq]; rfl
  refine Eq.trans (xr (i := .tableswitch d lo hi os) (len := len) (hd3 hk hr) rfl ?_) h2
  show nTab k pc' la' (vI x :: st) M' d lo hi os = _
  unfold nTab
  show (if x.toInt < lo ∨ hi < x.toInt then _ else _) = _
  have h8 : (lo + (j : Int) - lo).toNat = j := by omega
  rw [hx, if_neg (by omega), h8, ho]
  show (if 0 ≤ (pc' : Int) + o then go k (tgt pc' o) la' st M' else bad) = _
  rw [if_pos (by rw [hq]; exact Int.natCast_nonneg q), h9]
theorem y_taD (hk : T3OK k tab) (n pc' q : Nat) {d lo hi : Int} {os : Array Int} {len : Nat} {z : Nat × Nat × Nat × Nat × Int} {t : List YR} {la' st : List AV} {x : Int32} {M' : Mem} (h : yS k tab n pc (frm3 tab pc) la sa M = go k pc' la' (vI x :: st) M') (hr : frm3 tab pc' = (pc', .tableswitch d lo hi os, len, z) :: t) (hx : x.toInt < lo ∨ hi < x.toInt) (hq : (pc' : Int) + d = q) (h2 : X k q la' st M' = r) : X k pc la sa M = r := by
  refine y_go hk n pc' h ?_
  have h9 : tgt pc' d = q := by unfold tgt; rw [hq]; rfl
  refine Eq.trans (xr (i := .tableswitch d lo hi os) (len := len) (hd3 hk hr) rfl ?_) h2
  show nTab k pc' la' (vI x :: st) M' d lo hi os = _
  unfold nTab
  show (if x.toInt < lo ∨ hi < x.toInt then _ else _) = _
  rw [if_pos hx, if_pos (by rw [hq]; exact Int.natCast_nonneg q), h9]
/-- a reference read, where it is known -/
theorem y_gfr (hk : T3OK k tab) (n pc' q j e y : Nat) {c x K i S T : Nat} {z : Nat × Int} {t : List YR} {la' st : List AV} {M' : Mem} (h : yS k tab n pc (frm3 tab pc) la sa M = go k pc' la' (rR x K i :: st) M') (hi : frm3 tab pc' = (pc', .getfield c, 3, K, S, T, z) :: t) (hT : j + 3 = T) (hy : xp K S x = y) (hq : pc' + 3 = q) (hv : (M'.1 x).2.2 K i S = e) (he : ¬ e = 0) (h2 : X k q la' (rR y j e :: st) M' = r) : X k pc la sa M = r := by
  refine y_go hk n pc' h ?_
  obtain ⟨h3, h4⟩ := row3 hk hi
  refine Eq.trans (xr (i := .getfield c) (len := 3) h3 rfl (k' := k) (pc' := q) (la' := la') (sa' := rR y j e :: st) (M' := M') ?_) h2
  unfold rok3 at h4
  rw [Bool.and_eq_true] at h4
  replace h4 := h4.2
  dsimp only at h4
  split at h4
  · next K' S' t' zz hp =>
    simp only [Bool.and_eq_true, decide_eq_true_eq] at h4
    obtain ⟨rfl, rfl, rfl⟩ := h4
    show nGet k pc' c la' (rR x K' i :: st) M' = _
    unfold nGet
    rw [hp]
    refine (if_pos rfl).trans ?_
    subst hT
    show go k (pc' + 3) la' (vR (xp K' S' x) j (gR M' x K' i S') :: st) M' = _
    unfold gR vR
    rw [hv, hy, hq, if_neg he]
    rfl
  · cases h4
/-- arrays of numbers -/
theorem y_ald (hk : T3OK k tab) (n pc' q : Nat) {x i : Nat} (v : Int32) {z : Nat × Nat × Nat × Nat × Int} {t : List YR} {la' st : List AV} {j : Int32} {M' : Mem} (h : yS k tab n pc (frm3 tab pc) la sa M = go k pc' la' (vI j :: rR x 13 i :: st) M') (hi : frm3 tab pc' = (pc', .iaload, 1, z) :: t) (hq : pc' + 1 = q) (hj : inb j (lenA M' x 13 i)) (hv : (M'.1 x).1 13 i j.toNatClampNeg = v) (h2 : X k q la' (vI v :: st) M' = r) : X k pc la sa M = r := by
  refine y_go hk n pc' h ?_
  subst hq hv
  refine Eq.trans (xr (i := .iaload) (len := 1) (hd3 hk hi) rfl ?_) h2
  show nAget k pc' la' (vI j :: rR x 13 i :: st) M' (fun K => decide (K = 13)) = _
  exact if_pos ⟨rfl, hj⟩
theorem y_ast (hk : T3OK k tab) (n pc' q : Nat) {x i : Nat} {z : Nat × Nat × Nat × Nat × Int} {t : List YR} {la' st : List AV} {j v : Int32} {M' : Mem} (M2 : Mem) (h : yS k tab n pc (frm3 tab pc) la sa M = go k pc' la' (vI v :: vI j :: rR x 13 i :: st) M') (hi : frm3 tab pc' = (pc', .iastore, 1, z) :: t) (hq : pc' + 1 = q) (hx : x < 4) (hj : inb j (lenA M' x 13 i)) (hM : sI M' x 13 i j.toNatClampNeg v = M2) (h2 : X k q la' st M2 = r) : X k pc la sa M = r := by
  refine y_go hk n pc' h ?_
  subst hq hM
  refine Eq.trans (xr (i := .iastore) (len := 1) (hd3 hk hi) rfl ?_) h2
  show nAput k pc' la' (vI v :: vI j :: rR x 13 i :: st) M' (fun K => decide (K = 13)) = _
  exact (if_pos ⟨rfl, hx, hj⟩).trans rfl
theorem y_lst (hk : T3OK k tab) (n pc' q : Nat) {x i : Nat} {z : Nat × Nat × Nat × Nat × Int} {t : List YR} {la' st : List AV} {j : Int32} {v : Int64} {M' : Mem} (M2 : Mem) (h : yS k tab n pc (frm3 tab pc) la sa M = go k pc' la' (vL v :: vI j :: rR x 14 i :: st) M') (hi : frm3 tab pc' = (pc', .lastore, 1, z) :: t) (hq : pc' + 1 = q) (hx : x < 4) (hj : inb j (lenA M' x 14 i)) (hM : sJ M' x 14 i j.toNatClampNeg v = M2) (h2 : X k q la' st M2 = r) : X k pc la sa M = r := by
  refine y_go hk n pc' h ?_
  subst hq hM
  refine Eq.trans (xr (i := .lastore) (len := 1) (hd3 hk hi) rfl ?_) h2
  show nAput k pc' la' (vL v :: vI j :: rR x 14 i :: st) M' (fun K => decide (K = 14)) = _
  exact (if_pos ⟨rfl, hx, hj⟩).trans rfl
theorem y_lld (hk : T3OK k tab) (n pc' q : Nat) {x i : Nat} (v : Int64) {z : Nat × Nat × Nat × Nat × Int} {t : List YR} {la' st : List AV} {j : Int32} {M' : Mem} (h : yS k tab n pc (frm3 tab pc) la sa M = go k pc' la' (vI j :: rR x 14 i :: st) M') (hi : frm3 tab pc' = (pc', .laload, 1, z) :: t) (hq : pc' + 1 = q) (hj : inb j (lenA M' x 14 i)) (hv : (M'.1 x).2.1 14 i j.toNatClampNeg = v) (h2 : X k q la' (vL v :: st) M' = r) : X k pc la sa M = r := by
  refine y_go hk n pc' h ?_
  subst hq hv
  refine Eq.trans (xr (i := .laload) (len := 1) (hd3 hk hi) rfl ?_) h2
  show nAget k pc' la' (vI j :: rR x 14 i :: st) M' (fun K => decide (K = 14)) = _
  exact if_pos ⟨rfl, hj⟩
/-- the length of an array, where it is known -/
theorem y_len (hk : T3OK k tab) (n pc' q : Nat) (m : Int32) {x K i : Nat} {z : Nat × Nat × Nat × Nat × Int} {t : List YR} {la' st : List AV} {M' : Mem} (h : yS k tab n pc (frm3 tab pc) la sa M = go k pc' la' (rR x K i :: st) M') (hi : frm3 tab pc' = (pc', .arraylength, 1, z) :: t) (hq : pc' + 1 = q) (hK : 13 ≤ K) (hm : Int32.ofNat (lenA M' x K i) = m) (h2 : X k q la' (vI m :: st) M' = r) : X k pc la sa M = r := by
  refine y_go hk n pc' h ?_
  subst hq hm
  refine Eq.trans (xr (i := .arraylength) (len := 1) (hd3 hk hi) rfl ?_) h2
  show nAlen k pc' la' (rR x K i :: st) M' = _
  exact if_pos hK
end YUse
