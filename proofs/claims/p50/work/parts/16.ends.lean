/-! nothing made falls away; the ends of a method -/
def le2 (M M' : Mem) : Prop := M.2.1 ≤ M'.2.1 ∧ M.2.2.2 ≤ M'.2.2.2
theorem le2_refl (M : Mem) : le2 M M := ⟨Nat.le_refl _, Nat.le_refl _⟩
theorem le2_eq {M M' : Mem} (h : M'.2 = M.2) : le2 M M' := by unfold le2; rw [h]; exact ⟨Nat.le_refl _, Nat.le_refl _⟩
theorem le2_trans {M M' M2 : Mem} (h : le2 M M') (h' : le2 M' M2) : le2 M M2 := ⟨Nat.le_trans h.1 h'.1, Nat.le_trans h.2 h'.2⟩
theorem SL_le {n m : Nat} (h : n ≤ m) : SL n ≤ SL m := by
  induction h with
  | refl => exact Nat.le_refl _
  | step _ ih => rw [sl_range]; omega
theorem le2_cu {M M' : Mem} (h : le2 M M') : cu M ≤ cu M' := by unfold cu; have := h.1; have := h.2; omega
theorem le2_su {M M' : Mem} (h : le2 M M') : su M ≤ su M' := by unfold su; have := SL_le h.1; have := h.2; omega
def leN (M : Mem) : Nx → Prop := fun z => match z with
  | .inl none => True
  | .inl (some (_, M')) => le2 M M'
  | .inr (.inl (_, _, _, _, M')) => le2 M M'
  | .inr (.inr ((_, _, _, _, M'), _)) => M' = M
theorem bad_le {M : Mem} : leN M bad := trivial
theorem go_le {k pc : Nat} {la sa : List AV} {M M' : Mem} (h : M'.2 = M.2) : leN M (go k pc la sa M') := le2_eq h
theorem hlt_le {o : Out} {M : Mem} : leN M (hlt o M) := le2_refl M
theorem wrv_2 {M M' : Mem} {x k i s t : Nat} {v : AV} (h : wrv M x k i s t v = some M') : M'.2 = M.2 := by
  unfold wrv at h
  split at h
  · cases h; rfl
  · split at h
    · cases h; rfl
    · cases h
  · cases h; rfl
  · cases h; rfl
  · split at h
    · cases h; rfl
    · cases h
  · cases h
section LeN
variable {k pc : Nat} {la sa st : List AV} {M : Mem}
theorem le_if {off : Int} {b : Bool} : leN M (nIf k pc la st M off b) := by
  unfold nIf
  split
  · split <;> exact go_le rfl
  · exact bad_le
theorem le_new {K len : Nat} : leN M (nNew k pc la st M K len) := by
  unfold nNew
  split
  split
  · exact ⟨Nat.le_succ _, Nat.le_refl _⟩
  · exact bad_le
theorem le_inv {q kd : Nat} : leN M (nInv k pc q la sa M kd) := by
  unfold nInv
  split
  · split
    · exact rfl
    · exact bad_le
  · exact bad_le
theorem le_rows : ∀ (n j x K i : Nat) (M : Mem), le2 M (mRows x K i n j M)
  | 0, _, _, _, _, M => le2_refl M
  | n + 1, j, x, K, i, M => by
    rw [mRows]
    split
    refine le2_trans ?_ (le_rows n _ _ _ _ _)
    exact ⟨Nat.le_succ _, Nat.le_refl _⟩
theorem le_mul {q : Nat} : leN M (nMul k pc q la sa M) := by
  unfold nMul
  split
  · split
    · split
      refine le2_trans ?_ (le_rows _ _ _ _ _ _)
      exact ⟨Nat.le_succ _, Nat.le_refl _⟩
    · exact bad_le
  · exact bad_le
theorem le_put {q : Nat} : leN M (nPut k pc q la sa M) := by
  unfold nPut
  split
  · split
    · split
      · next hw => exact go_le (wrv_2 hw)
      · exact bad_le
    · exact bad_le
  · exact bad_le
theorem le_aput {t : Nat → Bool} : leN M (nAput k pc la sa M t) := by
  unfold nAput
  split
  · split
    · split
      · next hw => exact go_le (wrv_2 hw)
      · exact bad_le
    · exact bad_le
  · exact bad_le
theorem le_newC {q : Nat} : leN M (nNewC k pc q la sa M) := by
  unfold nNewC
  split
  · split
    · exact le_new
    · split
      · exact ⟨Nat.le_refl _, Nat.le_succ _⟩
      · exact bad_le
  · exact bad_le
theorem le_arr {K : Nat} : leN M (nArr k pc la sa M K) := by
  unfold nArr
  split
  · split
    · exact le_new
    · exact bad_le
  · exact bad_le
theorem le_spc {q : Nat} : leN M (nSpc k pc q la sa M) := by
  unfold nSpc
  split
  · split
    · exact go_le rfl
    · exact bad_le
  · exact le_inv
  · exact le_inv
  · exact bad_le
theorem le_tab {d lo hi : Int} {os : Array Int} : leN M (nTab k pc la sa M d lo hi os) := by
  unfold nTab
  split
  · split
    · split
      · exact go_le rfl
      · exact bad_le
    · split
      · split
        · exact go_le rfl
        · exact bad_le
      · exact bad_le
  · exact bad_le
theorem le_ref {off : Int} {b : Bool} : leN M (nRef k pc la sa M off b) := by
  unfold nRef
  split
  · exact le_if
  · exact bad_le
theorem le_acmp {off : Int} {b : Bool} : leN M (nAcmp k pc la sa M off b) := by
  unfold nAcmp
  split
  · exact le_if
  · exact bad_le
theorem le_nIld {i : Nat} : leN M (nIld k pc i la sa M) := by
  unfold nIld
  (repeat' split)
  all_goals first | exact bad_le | exact go_le rfl | exact hlt_le
theorem le_nLld {i : Nat} : leN M (nLld k pc i la sa M) := by
  unfold nLld
  (repeat' split)
  all_goals first | exact bad_le | exact go_le rfl | exact hlt_le
theorem le_nAld {i : Nat} : leN M (nAld k pc i la sa M) := by
  unfold nAld
  (repeat' split)
  all_goals first | exact bad_le | exact go_le rfl | exact hlt_le
theorem le_nIst {i : Nat} : leN M (nIst k pc i la sa M) := by
  unfold nIst
  (repeat' split)
  all_goals first | exact bad_le | exact go_le rfl | exact hlt_le
theorem le_nLst {i : Nat} : leN M (nLst k pc i la sa M) := by
  unfold nLst
  (repeat' split)
  all_goals first | exact bad_le | exact go_le rfl | exact hlt_le
theorem le_nAst {i : Nat} : leN M (nAst k pc i la sa M) := by
  unfold nAst
  (repeat' split)
  all_goals first | exact bad_le | exact go_le rfl | exact hlt_le
theorem le_nII {f : Int32 → Int32 → Int32} : leN M (nII k pc la sa M f) := by
  unfold nII
  (repeat' split)
  all_goals first | exact bad_le | exact go_le rfl | exact hlt_le
theorem le_nLL {f : Int64 → Int64 → Int64} : leN M (nLL k pc la sa M f) := by
  unfold nLL
  (repeat' split)
  all_goals first | exact bad_le | exact go_le rfl | exact hlt_le
theorem le_nGet {q : Nat} : leN M (nGet k pc q la sa M) := by
  unfold nGet
  (repeat' split)
  all_goals first | exact bad_le | exact go_le rfl | exact hlt_le
theorem le_nAget {t : Nat → Bool} : leN M (nAget k pc la sa M t) := by
  unfold nAget
  (repeat' split)
  all_goals first | exact bad_le | exact go_le rfl | exact hlt_le
theorem le_nRet : leN M (nRet k sa M) := by
  unfold nRet
  (repeat' split)
  all_goals first | exact bad_le | exact go_le rfl | exact hlt_le
theorem le_nLret : leN M (nLret k sa M) := by
  unfold nLret
  (repeat' split)
  all_goals first | exact bad_le | exact go_le rfl | exact hlt_le
theorem le_nAret : leN M (nAret k sa M) := by
  unfold nAret
  (repeat' split)
  all_goals first | exact bad_le | exact go_le rfl | exact hlt_le
theorem le_nDup : leN M (nDup k pc la sa M) := by
  unfold nDup
  (repeat' split)
  all_goals first | exact bad_le | exact go_le rfl | exact hlt_le
theorem le_nDup2 : leN M (nDup2 k pc la sa M) := by
  unfold nDup2
  (repeat' split)
  all_goals first | exact bad_le | exact go_le rfl | exact hlt_le
theorem le_nPop : leN M (nPop k pc la sa M) := by
  unfold nPop
  (repeat' split)
  all_goals first | exact bad_le | exact go_le rfl | exact hlt_le
theorem le_nInc {i : Nat} {n : Int} : leN M (nInc k pc i n la sa M) := by
  unfold nInc
  (repeat' split)
  all_goals first | exact bad_le | exact go_le rfl | exact hlt_le
theorem le_nAlen : leN M (nAlen k pc la sa M) := by
  unfold nAlen
  (repeat' split)
  all_goals first | exact bad_le | exact go_le rfl | exact hlt_le
theorem nxi_le {i : Instr} : leN M (nxi k pc la sa M i) := by
  cases i
  case multianewarray q d =>
    rcases d with _ | _ | _ | n9
    · exact bad_le
    · exact bad_le
    · exact le_mul
    · exact bad_le
  case if_acmp c off => cases c <;> first | exact le_acmp | exact bad_le
  case newarray t => cases t <;> first | exact le_arr | exact bad_le
  all_goals first | exact le_nIld | exact le_nLld | exact le_nAld | exact le_nIst | exact le_nLst | exact le_nAst | exact le_nII | exact le_nLL | exact le_nGet | exact le_nAget | exact le_nRet | exact le_nLret | exact le_nAret | exact le_nDup | exact le_nDup2 | exact le_nPop | exact le_nInc | exact le_nAlen | exact bad_le | exact go_le rfl | exact le_if | exact le_mul | exact le_put | exact le_aput | exact le_newC | exact le_spc | exact le_inv | exact le_tab | exact le_ref | skip
  all_goals simp only [nxi]
  all_goals (repeat' split)
  all_goals first | exact bad_le | exact go_le rfl | exact hlt_le | exact le_if | exact le_arr
end LeN
theorem nx_le (c : Cfg) : leN c.2.2.2.2 (nx c) := by
  unfold nx
  split
  · split
    · exact nxi_le
    · exact bad_le
  · exact bad_le
theorem exec_le : ∀ (n : Nat) {c : Cfg} {o : Out} {M' : Mem}, exec n c = some (o, M') → le2 c.2.2.2.2 M'
  | 0, c, o, M', h => by cases h
  | n + 1, c, o, M', h => by
    rw [exec] at h
    have h1 := nx_le c
    generalize nx c = z at h h1
    rcases z with r | c' | ⟨c', k, pc, la, sa⟩
    · dsimp only at h
      subst h
      exact h1
    · exact le2_trans h1 (exec_le n h)
    · dsimp only at h
      have h1' : c'.2.2.2.2 = c.2.2.2.2 := h1
      cases h2 : exec n c' with
      | none => rw [h2] at h; cases h
      | some r =>
        obtain ⟨o1, M1⟩ := r
        rw [h2] at h
        have h3 : le2 c.2.2.2.2 M1 := h1' ▸ exec_le n h2
        dsimp only at h
        cases h4 : aft k pc la sa (o1, M1) with
        | inl r' =>
          rw [h4] at h
          dsimp only at h
          subst h
          unfold aft at h4
          split at h4
          · cases h4
          · cases h4
          · next heq =>
            cases heq
            split at h4
            · cases h4
            · split at h4
              · cases h4; exact h3
              · split at h4 <;> cases h4
        | inr c'' =>
          rw [h4] at h
          have h5 : c''.2.2.2.2 = M1 := by
            unfold aft at h4
            split at h4
            · next heq => cases heq; cases h4; rfl
            · next heq => cases heq; cases h4; rfl
            · next heq =>
              cases heq
              split at h4
              · cases h4
              · split at h4
                · cases h4
                · split at h4
                  · cases h4; rfl
                  · cases h4
          exact le2_trans h3 (h5 ▸ exec_le n h)
section Ends16
variable {p : Program} {l : Launch} {e : Env} {R : Room} {s : State} {m : MethodId} {args : Array Value} {below : List Frame} {meth : Method} {c : Code} {H : Heap} {locs : List Loc} {cells slots : Nat}
theorem W_bret {cc : ByteArray} {Qc : Array Value → State → Outcome → State → Prop} {free : Addr → Prop} {v : Int32} (hexec : p.tables.exec = Jvm.exec) (hb : c.code = cc) (hr : meth.sig.returnType = some .boolean)
    (hq : ∀ t : State, t.heap = H → s.WarmedH t.vm → Qc args s (.returned (some (.int (v &&& 1)))) t) (hf : ∀ q ∈ locs, free q.base)
    {pc : Nat} {ls : Array Slot} (hdg : decode cc pc = .ok (.ireturn, 1)) (hlocks : meth.locks = false) : W p l e R s m args below meth c H locs cells slots (MQ below Qc args s cells slots free) (F0 m pc ls [.int v]) := by
  intro T hT X
  obtain ⟨fs, hret, hrun, hended, hW, hframe⟩ := X.leave (v := some (.int (v &&& 1))) (fun h => by rw [hr] at h; cases h)
  have hmeth' : T.vm.method? m = some meth := X.method'
  refine ⟨T.setFrames fs, ?_, .returned (some (.int (v &&& 1))), hrun, hended, hq _ hT hW, locs, ⟨⟨_, rfl⟩, hW, hframe⟩, hf⟩
  jvm_step X.here [X.here.top, hexec, hb, hdg, hmeth', hr, narrow]
  (try refine ⟨rfl, ?_⟩); (try refine ⟨rfl, ?_⟩)
  first | (intro acts; rw [hret _ acts rfl rfl rfl]) | rw [hret _ _ rfl rfl rfl]
  exact Steps.refl _
end Ends16
