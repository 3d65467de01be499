/-! a frame runs as the interpreter says -/
def hcp (e : Nat) : Nat := if e = 0 then 55 else 14
def hOK (k : Nat) (q : Nat × Nat × Nat × Nat × Nat × Nat × Nat) : Bool := decide (mO k = 13) && (decide (q.2.2.2.2.1 < 3 ∧ q.2.2.2.2.1 ≠ 1) && (decide (q.2.2.2.1 = hcp q.2.2.2.2.1) && (match decode (mB k) q.2.2.1 with
  | .ok (.astore j, 2) => decide (j = q.2.2.2.2.2.2) && decide (q.2.2.2.2.2.1 = q.2.2.1 + 2)
  | .ok (.astore_n j, 1) => decide ((j : Nat) = q.2.2.2.2.2.2) && decide (q.2.2.2.2.2.1 = q.2.2.1 + 1)
  | _ => false)))
set_option maxRecDepth 100000 in
theorem hT_ok : (hT.all fun z => z.2.all fun q => hOK z.1 q) = true := by decide +kernel
theorem hrow {k : Nat} {L : List (Nat × Nat × Nat × Nat × Nat × Nat × Nat)} {q : Nat × Nat × Nat × Nat × Nat × Nat × Nat} (h : lk hT k = some L) (hq : q ∈ L) : hOK k q = true := List.all_eq_true.mp (List.all_eq_true.mp hT_ok _ (lk_mem h)) _ hq
set_option maxRecDepth 100000 in
theorem hcl0 : Cond.classLink "OpenbookLaw" 55 "java/lang/IndexOutOfBoundsException" ∈ tables_1 ∧ Cond.classLink "OpenbookLaw" 14 "java/lang/IllegalStateException" ∈ tables_1 := by decide +kernel
theorem hcp_0 (e : Nat) : hcp e ≠ 0 := by
  unfold hcp
  split <;> decide
theorem hclw {e : Nat} (h : e < 3 ∧ e ≠ 1) : Cond.classLink (cN 13) (hcp e) (exN e) ∈ GW := by
  have h1 : e = 0 ∨ e = 2 := by omega
  rcases h1 with rfl | rfl
  · exact gw_of hcl0.1 rfl
  · exact gw_of hcl0.2 rfl
theorem lvl_stJ {G : wG} {la : List AV} {i : Nat} {w : Value} (hi : i < la.length) : ∀ q ∈ lvl G 0 (st1 la i vJ), q ∈ (i, w) :: (lvl G 0 la).filter (fun q => !(q.1 == i) && !(q.1 + 1 == i && q.2.category == 2)) := by
  intro q hq
  obtain ⟨j, a, h1, h2, h3⟩ := lvl_of _ _ _ hq
  rw [Nat.zero_add] at h3
  rcases st1_get vJ la i j a hi h1 h2 with ⟨e1, e2⟩ | ⟨e1, e2, e3⟩
  · rw [e2] at h2
    exact h2.elim
  · refine List.mem_cons_of_mem _ (List.mem_filter.mpr ⟨?_, ?_⟩)
    · have h4 := lvl_mem (G := G) la 0 j a e2 h2
      rw [Nat.zero_add] at h4
      rw [h3]
      exact h4
    · rw [h3]
      simp only [Bool.and_eq_true, Bool.not_eq_true', beq_eq_false_iff_ne, ne_eq, Bool.and_eq_false_iff]
      refine ⟨e1, ?_⟩
      by_cases e4 : j + 1 = i
      · right
        rw [cv_cat h2, e3 e4]
        decide
      · exact Or.inl e4
def sy : Nx → Prop := fun z => match z with
  | .inl none => True
  | .inl (some _) => False
  | .inr (.inl _) => True
  | .inr (.inr _) => False
def isEnd (i : Instr) : Bool := match i with
  | .invokevirtual _ => true
  | .invokestatic _ => true
  | .invokespecial _ => true
  | .new _ => true
  | .ireturn => true
  | .lreturn => true
  | .areturn => true
  | .return_ => true
  | _ => false
theorem sy_bad : sy bad := trivial
theorem sy_go {k pc : Nat} {la sa : List AV} {M : Mem} : sy (go k pc la sa M) := trivial
section Sy
variable {k pc : Nat} {la sa st : List AV} {M : Mem}
theorem sy_nIf {off : Int} {b : Bool} : sy (nIf k pc la st M off b) := by
  unfold nIf
  (repeat' split)
  all_goals first | exact sy_bad | exact sy_go
theorem sy_nNew {K len : Nat} : sy (nNew k pc la st M K len) := by
  unfold nNew
  (repeat' split)
  all_goals first | exact sy_bad | exact sy_go
theorem sy_nMul {q : Nat} : sy (nMul k pc q la sa M) := by
  unfold nMul
  (repeat' split)
  all_goals first | exact sy_bad | exact sy_go
theorem sy_nPut {q : Nat} : sy (nPut k pc q la sa M) := by
  unfold nPut
  (repeat' split)
  all_goals first | exact sy_bad | exact sy_go
theorem sy_nAput {t : Nat → Bool} : sy (nAput k pc la sa M t) := by
  unfold nAput
  (repeat' split)
  all_goals first | exact sy_bad | exact sy_go
theorem sy_nArr {K : Nat} : sy (nArr k pc la sa M K) := by
  unfold nArr
  (repeat' split)
  all_goals first | exact sy_bad | exact sy_go | exact sy_nNew
theorem sy_nTab {d lo hi : Int} {os : Array Int} : sy (nTab k pc la sa M d lo hi os) := by
  unfold nTab
  (repeat' split)
  all_goals first | exact sy_bad | exact sy_go
theorem sy_nRef {off : Int} {b : Bool} : sy (nRef k pc la sa M off b) := by
  unfold nRef
  (repeat' split)
  all_goals first | exact sy_bad | exact sy_go | exact sy_nIf
theorem sy_nAcmp {off : Int} {b : Bool} : sy (nAcmp k pc la sa M off b) := by
  unfold nAcmp
  (repeat' split)
  all_goals first | exact sy_bad | exact sy_go | exact sy_nIf
theorem sy_nIld {i : Nat} : sy (nIld k pc i la sa M) := by
  unfold nIld
  (repeat' split)
  all_goals first | exact sy_bad | exact sy_go
theorem sy_nLld {i : Nat} : sy (nLld k pc i la sa M) := by
  unfold nLld
  (repeat' split)
  all_goals first | exact sy_bad | exact sy_go
theorem sy_nAld {i : Nat} : sy (nAld k pc i la sa M) := by
  unfold nAld
  (repeat' split)
  all_goals first | exact sy_bad | exact sy_go
theorem sy_nIst {i : Nat} : sy (nIst k pc i la sa M) := by
  unfold nIst
  (repeat' split)
  all_goals first | exact sy_bad | exact sy_go
theorem sy_nLst {i : Nat} : sy (nLst k pc i la sa M) := by
  unfold nLst
  (repeat' split)
  all_goals first | exact sy_bad | exact sy_go
theorem sy_nAst {i : Nat} : sy (nAst k pc i la sa M) := by
  unfold nAst
  (repeat' split)
  all_goals first | exact sy_bad | exact sy_go
theorem sy_nII {f : Int32 → Int32 → Int32} : sy (nII k pc la sa M f) := by
  unfold nII
  (repeat' split)
  all_goals first | exact sy_bad | exact sy_go
theorem sy_nLL {f : Int64 → Int64 → Int64} : sy (nLL k pc la sa M f) := by
  unfold nLL
  (repeat' split)
  all_goals first | exact sy_bad | exact sy_go
theorem sy_nGet {q : Nat} : sy (nGet k pc q la sa M) := by
  unfold nGet
  (repeat' split)
  all_goals first | exact sy_bad | exact sy_go
theorem sy_nAget {t : Nat → Bool} : sy (nAget k pc la sa M t) := by
  unfold nAget
  (repeat' split)
  all_goals first | exact sy_bad | exact sy_go
theorem sy_nDup : sy (nDup k pc la sa M) := by
  unfold nDup
  (repeat' split)
  all_goals first | exact sy_bad | exact sy_go
theorem sy_nDup2 : sy (nDup2 k pc la sa M) := by
  unfold nDup2
  (repeat' split)
  all_goals first | exact sy_bad | exact sy_go
theorem sy_nPop : sy (nPop k pc la sa M) := by
  unfold nPop
  (repeat' split)
  all_goals first | exact sy_bad | exact sy_go
theorem sy_nInc {i : Nat} {n : Int} : sy (nInc k pc i n la sa M) := by
  unfold nInc
  (repeat' split)
  all_goals first | exact sy_bad | exact sy_go
theorem sy_nAlen : sy (nAlen k pc la sa M) := by
  unfold nAlen
  (repeat' split)
  all_goals first | exact sy_bad | exact sy_go
theorem nxi_sy {i : Instr} (hE : isEnd i = false) : sy (nxi k pc la sa M i) := by
  cases i
  case multianewarray q d =>
    rcases d with _ | _ | _ | n9
    · exact sy_bad
    · exact sy_bad
    · exact sy_nMul
    · exact sy_bad
  case if_acmp c off => cases c <;> first | exact sy_nAcmp | exact sy_bad
  case newarray t => cases t <;> first | exact sy_nArr | exact sy_bad
  all_goals first | (cases hE; done) | exact sy_bad | exact sy_go | exact sy_nIf | exact sy_nMul | exact sy_nPut | exact sy_nAput | exact sy_nTab | exact sy_nRef | exact sy_nIld | exact sy_nLld | exact sy_nAld | exact sy_nIst | exact sy_nLst | exact sy_nAst | exact sy_nII | exact sy_nLL | exact sy_nGet | exact sy_nAget | exact sy_nDup | exact sy_nDup2 | exact sy_nPop | exact sy_nInc | exact sy_nAlen | skip
  all_goals simp only [nxi]
  all_goals (repeat' split)
  all_goals first | exact sy_bad | exact sy_go | exact sy_nIf | exact sy_nArr
theorem g_inv {q kd : Nat} {z : Cfg × (Nat × Nat × List AV × List AV)} (h : nInv k pc q la sa M kd = Sum.inr (Sum.inr z)) : ∃ c ps, pM (mO k) q = some (c, kd, ps) ∧ mA c ≤ sa.length ∧ (lay (sa.drop (mA c))).length ≤ 8 ∧ okC k c = true ∧ (lay (sa.take (mA c)).reverse).length ≤ mL c ∧ recv c kd (sa.take (mA c)).reverse = true ∧ okK c kd = true ∧ z = ((c, 0, entr c (sa.take (mA c)).reverse, [], M), (k, pc + 3, la, sa.drop (mA c))) := by
  unfold nInv at h
  split at h
  · next c kd' ps hp =>
    split at h
    · next hc =>
      obtain ⟨⟨h1, h2, h3⟩, h4, h5, h6, h7⟩ := hc
      subst h1
      cases h
      exact ⟨c, ps, hp, h2, h3, h4, h5, h6, h7, rfl⟩
    · cases h
  · cases h
theorem g_call {i : Instr} {z : Cfg × (Nat × Nat × List AV × List AV)} (h : nxi k pc la sa M i = Sum.inr (Sum.inr z)) : ∃ q kd c ps, ((i = .invokevirtual q ∧ kd = 0) ∨ (i = .invokestatic q ∧ kd = 1) ∨ (i = .invokespecial q ∧ (kd = 2 ∨ kd = 3))) ∧ pM (mO k) q = some (c, kd, ps) ∧ mA c ≤ sa.length ∧ (lay (sa.drop (mA c))).length ≤ 8 ∧ okC k c = true ∧ (lay (sa.take (mA c)).reverse).length ≤ mL c ∧ recv c kd (sa.take (mA c)).reverse = true ∧ okK c kd = true ∧ z = ((c, 0, entr c (sa.take (mA c)).reverse, [], M), (k, pc + 3, la, sa.drop (mA c))) := by
  cases hE : isEnd i with
  | false =>
    have h1 := nxi_sy (k := k) (pc := pc) (la := la) (sa := sa) (M := M) hE
    rw [h] at h1
    exact h1.elim
  | true =>
    cases i
    case invokevirtual q =>
      obtain ⟨c, ps, h1⟩ := g_inv h
      exact ⟨q, 0, c, ps, Or.inl ⟨rfl, rfl⟩, h1⟩
    case invokestatic q =>
      obtain ⟨c, ps, h1⟩ := g_inv h
      exact ⟨q, 1, c, ps, Or.inr (Or.inl ⟨rfl, rfl⟩), h1⟩
    case invokespecial q =>
      have h0 : nSpc k pc q la sa M = Sum.inr (Sum.inr z) := h
      unfold nSpc at h0
      split at h0
      · split at h0 <;> cases h0
      · obtain ⟨c, ps, h1⟩ := g_inv h0
        exact ⟨q, 2, c, ps, Or.inr (Or.inr ⟨rfl, Or.inl rfl⟩), h1⟩
      · obtain ⟨c, ps, h1⟩ := g_inv h0
        exact ⟨q, 3, c, ps, Or.inr (Or.inr ⟨rfl, Or.inr rfl⟩), h1⟩
      · cases h0
    case new q =>
      have h0 : nNewC k pc q la sa M = Sum.inr (Sum.inr z) := h
      unfold nNewC at h0
      split at h0
      · next K9 ps9 hp9 =>
        split at h0
        · have h1 := sy_nNew (k := k) (pc := pc + 3) (la := la) (st := sa) (M := M) (K := K9) (len := nfK K9)
          rw [h0] at h1
          exact h1.elim
        · split at h0 <;> cases h0
      · cases h0
    case ireturn =>
      have h0 : nRet k sa M = Sum.inr (Sum.inr z) := h
      unfold nRet at h0
      (repeat' split at h0)
      all_goals cases h0
    case lreturn =>
      have h0 : nLret k sa M = Sum.inr (Sum.inr z) := h
      unfold nLret at h0
      (repeat' split at h0)
      all_goals cases h0
    case areturn =>
      have h0 : nAret k sa M = Sum.inr (Sum.inr z) := h
      unfold nAret at h0
      (repeat' split at h0)
      all_goals cases h0
    case return_ =>
      simp only [nxi] at h
      split at h <;> cases h
    all_goals (cases hE)
theorem g_halt {i : Instr} {o : Out} {M' : Mem} (h : nxi k pc la sa M i = Sum.inl (some (o, M'))) :
    (i = .ireturn ∧ ∃ x, sa = [vI x] ∧ M' = M ∧ ((mR k = some .int ∧ o = .inl (some (vI x))) ∨ (mR k = some .boolean ∧ o = .inl (some (vI (x &&& 1)))))) ∨
    (i = .lreturn ∧ ∃ x, sa = [vL x] ∧ M' = M ∧ mR k = some .long ∧ o = .inl (some (vL x))) ∨
    (i = .areturn ∧ ∃ r n, sa = [Sum.inr (Sum.inr (Sum.inl r))] ∧ M' = M ∧ mR k = some (.object n) ∧ o = .inl (some (Sum.inr (Sum.inr (Sum.inl r))))) ∨
    (i = .return_ ∧ sa = [] ∧ M' = M ∧ mR k = none ∧ o = .inl none) ∨
    (∃ q e, i = .new q ∧ sa = [] ∧ thrS k pc q e = true ∧ o = .inr e ∧ M' = Mt M) := by
  cases hE : isEnd i with
  | false =>
    have h1 := nxi_sy (k := k) (pc := pc) (la := la) (sa := sa) (M := M) hE
    rw [h] at h1
    exact h1.elim
  | true =>
    cases i
    case invokevirtual q =>
      have h0 : nInv k pc q la sa M 0 = Sum.inl (some (o, M')) := h
      unfold nInv at h0
      (repeat' split at h0)
      all_goals cases h0
    case invokestatic q =>
      have h0 : nInv k pc q la sa M 1 = Sum.inl (some (o, M')) := h
      unfold nInv at h0
      (repeat' split at h0)
      all_goals cases h0
    case invokespecial q =>
      have h0 : nSpc k pc q la sa M = Sum.inl (some (o, M')) := h
      unfold nSpc nInv at h0
      (repeat' split at h0)
      all_goals cases h0
    case new q =>
      have h0 : nNewC k pc q la sa M = Sum.inl (some (o, M')) := h
      unfold nNewC at h0
      split at h0
      · next K9 ps9 hp9 =>
        split at h0
        · have h1 := sy_nNew (k := k) (pc := pc + 3) (la := la) (st := sa) (M := M) (K := K9) (len := nfK K9)
          rw [h0] at h1
          exact h1.elim
        · split at h0
          · next hc =>
            cases h0
            exact Or.inr (Or.inr (Or.inr (Or.inr ⟨q, _, rfl, hc.2.2, hc.2.1, rfl, rfl⟩)))
          · cases h0
      · cases h0
    case ireturn =>
      have h0 : nRet k sa M = Sum.inl (some (o, M')) := h
      unfold nRet at h0
      split at h0
      · split at h0
        · next hm => cases h0; exact Or.inl ⟨rfl, _, rfl, rfl, Or.inl ⟨hm, rfl⟩⟩
        · next hm => cases h0; exact Or.inl ⟨rfl, _, rfl, rfl, Or.inr ⟨hm, rfl⟩⟩
        · cases h0
      · cases h0
    case lreturn =>
      have h0 : nLret k sa M = Sum.inl (some (o, M')) := h
      unfold nLret at h0
      split at h0
      · split at h0
        · next hm => cases h0; exact Or.inr (Or.inl ⟨rfl, _, rfl, rfl, hm, rfl⟩)
        · cases h0
      · cases h0
    case areturn =>
      have h0 : nAret k sa M = Sum.inl (some (o, M')) := h
      unfold nAret at h0
      split at h0
      · split at h0
        · next hm => cases h0; exact Or.inr (Or.inr (Or.inl ⟨rfl, _, _, rfl, rfl, hm, rfl⟩))
        · cases h0
      · cases h0
    case return_ =>
      simp only [nxi] at h
      split at h
      · next hm => cases h; exact Or.inr (Or.inr (Or.inr (Or.inl ⟨rfl, hm.2, rfl, hm.1, rfl⟩)))
      · cases h
    all_goals (cases hE)
end Sy
