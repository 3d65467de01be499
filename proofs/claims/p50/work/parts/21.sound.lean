section Sound21
theorem tab_map {k : Nat} {L : List (Nat × Nat × Nat × Nat × Nat × Nat × Nat)} (h : lk hT k = some L) : tableOf (hhK k) = L.map fun q => (⟨q.1, q.2.1, q.2.2.1, q.2.2.2.1⟩ : ExceptionTableEntry) := by
  unfold hhK
  rw [h]
  unfold tableOf
  rw [List.map_map]
  rfl
/-- the end of a frame -/
theorem end_sound {G : wG} {p : Program} {l : Launch} {e : Env} {R : Room} {s : State} {m : MethodId} {args : Array Value} {below : List Frame} {meth : Method} {c : Code} {H : Heap} {locs : List Loc} {cells slots : Nat} {k pc : Nat} {la sa : List AV} {M M' : Mem} {ls : Array Slot} {st : List Value} {i : Instr} {len c0 s0 mc ms : Nat} {o : Out}
    (F : Fr G p l s m args meth c k) (hl : l.stackTraces = false) (htab : c.exceptionTable.toList = tableOf (hhK k) ∨ (lk hT k = none ∧ ∃ v, o = .inl v)) (hr : RC G k M la sa s H locs ls st) (hc0 : cells + c0 = cu M) (hs0 : slots + s0 = su M) (hmc : mc + c0 = cu M') (hms : ms + s0 = su M') (hRc : mc ≤ R.cells) (hRs : ms ≤ R.slots) (hRf : mF k ≤ R.frames) (hRq : mQ k ≤ R.locals)
    (hd : decode (mB k) pc = .ok (i, len)) (hln : iln i len = true) (h : nxi k pc la sa M i = Sum.inl (some (o, M'))) : W p l e R s m args below meth c H locs cells slots (vx_MQ below (QcK G M' o) (XCK G M' o) args s mc ms (gA G)) (F0 m pc ls st) := by
  obtain ⟨hx, hb, hml, hret, hown, hts, hlk, hnm, hG0, hwm, hold, hsz⟩ := id F
  have hst := RC_eq hr
  have hin := RC_in hr
  have hf : ∀ q ∈ locs, gA G q.base := hr.2.1.2.2
  rcases g_halt h with ⟨rfl, x, h0, hM, hx9⟩ | ⟨rfl, x, h0, hM, hm, ho⟩ | ⟨rfl, r, n, h0, hM, hm, ho⟩ | ⟨rfl, h0, hM, hm, ho⟩ | ⟨q, e9, rfl, h0, ht, ho, hM⟩
  · have hl9 := of_decide_eq_true hln
    subst hl9; subst h0; subst hst; subst hM
    obtain rfl : mc = cells := by omega
    obtain rfl : ms = slots := by omega
    rcases hx9 with ⟨hm, ho⟩ | ⟨hm, ho⟩
    · subst ho
      rw [hm] at hret
      exact vx_ret (W.iret hx hb hret (fun t ht _ => ⟨_, rfl, rfl, fun a ha => by cases ha; exact ⟨trivial, trivial⟩, by rw [ht]; exact hr.1, va_S.F hr.2.1 ht⟩) hf hd hlk)
    · subst ho
      rw [hm] at hret
      exact vx_ret (W_bret hx hb hret (fun t ht _ => ⟨_, rfl, rfl, fun a ha => by cases ha; exact ⟨trivial, trivial⟩, by rw [ht]; exact hr.1, va_S.F hr.2.1 ht⟩) hf hd hlk)
  · have hl9 := of_decide_eq_true hln
    subst hl9; subst h0; subst hst; subst hM; subst ho
    obtain rfl : mc = cells := by omega
    obtain rfl : ms = slots := by omega
    rw [hm] at hret
    exact vx_ret (W.lret hx hb hret (fun t ht _ => ⟨_, rfl, rfl, fun a ha => by cases ha; exact ⟨trivial, trivial⟩, by rw [ht]; exact hr.1, va_S.F hr.2.1 ht⟩) hf hd hlk)
  · have hl9 := of_decide_eq_true hln
    subst hl9; subst h0; subst hst; subst hM; subst ho
    obtain rfl : mc = cells := by omega
    obtain rfl : ms = slots := by omega
    rw [hm] at hret
    have hv : cv G (Sum.inr (Sum.inr (Sum.inl r))) = .null ∨ ∃ a, cv G (Sum.inr (Sum.inr (Sum.inl r))) = .ref a := by
      rcases r with _ | ⟨x, k9, i9⟩
      · exact Or.inl rfl
      · exact Or.inr ⟨_, rfl⟩
    exact vx_ret (W.aret hx hb hret (Or.inl ⟨n, rfl⟩) hv (fun t ht _ => ⟨_, rfl, rfl, fun a ha => by cases ha; exact hin _ List.mem_cons_self, by rw [ht]; exact hr.1, va_S.F hr.2.1 ht⟩) hf hd hlk)
  · have hl9 := of_decide_eq_true hln
    subst hl9; subst h0; subst hst; subst hM; subst ho
    obtain rfl : mc = cells := by omega
    obtain rfl : ms = slots := by omega
    rw [hm] at hret
    exact vx_ret (W.vret hx hb hret (fun t ht _ => ⟨_, rfl, rfl, fun a ha => (by cases ha), by rw [ht]; exact hr.1, va_S.F hr.2.1 ht⟩) hf hd hlk)
  · have hl9 := of_decide_eq_true hln
    subst hl9; subst h0; subst hM; subst ho
    have e1 : cu (Mt M) = cu M + 1 := by unfold cu Mt; dsimp only; omega
    have e2 : su (Mt M) = su M + 6 := by unfold su Mt; dsimp only; omega
    have htab : c.exceptionTable.toList = tableOf (hhK k) := by
      rcases htab with h6 | ⟨-, v, hv⟩
      · exact h6
      · cases hv
    exact go_throw F hr ht hl hd htab hRf hRq hRc hRs (by omega) (by omega)
theorem HW_n {G : wG} {M : Mem} {H : Heap} (h : HW G M H) : M.2.1 ≤ aT.length := h.2.2.1
set_option maxHeartbeats 1000000 in
theorem run_sound : ∀ n, Snd n := by
  intro n
  induction n with
  | zero =>
    unfold Snd
    intro k pc la sa M M' o hex
    cases hex
  | succ n IH =>
    unfold Snd
    intro k pc la sa M M' o hex G p l e R s m args below meth c H locs cells slots ls st c0 s0 mc ms F hl htab hr hz hc0 hs0 hmc hms hRc hRs hRf hRq h1 h30
    rw [exec] at hex
    cases hd : decode (mB k) pc with
    | error z =>
      have hb : nx (k, pc, la, sa, M) = bad := by
        unfold nx
        dsimp only
        rw [hd]
      rw [hb] at hex
      cases hex
    | ok z =>
      obtain ⟨i, len⟩ := z
      by_cases hln : iln i len = true
      · rw [nx_of hd hln] at hex
        cases hnx : nxi k pc la sa M i with
        | inl r =>
          rw [hnx] at hex
          dsimp only at hex
          subst hex
          exact end_sound F hl htab hr hc0 hs0 hmc hms hRc hRs hRf hRq hd hln hnx
        | inr z =>
          rcases z with c' | z
          · rw [hnx] at hex
            dsimp only at hex
            obtain ⟨k', pc', la', sa', M2⟩ := c'
            have hle := exec_le n hex
            have q1 := le2_cu hle
            have q2 := le2_su hle
            dsimp only at q1 q2
            refine go_sound F hr hd hln hnx h1 h30 hz hc0 hs0 (by omega) (by omega) ?_
            intro hk ls' H' locs' cells' slots' hrc hcc hss
            subst hk
            exact IH hex F hl htab hrc hz hcc hss hmc hms hRc hRs hRf hRq h1 h30
          · obtain ⟨q, kd, c9, ps, hi, hp, hn, h4, hok, hlay, hrecv, hKK, rfl⟩ := g_call hnx
            rw [hnx] at hex
            dsimp only at hex
            have hlen : len = 3 := by
              rcases hi with ⟨rfl, -⟩ | ⟨rfl, -⟩ | ⟨rfl, -⟩ <;> exact of_decide_eq_true hln
            subst hlen
            have hin := RC_in hr
            have has : ∀ a ∈ (sa.take (mA c9)).reverse, VV M.2.1 a ∧ NJ a := fun a ha => hin a (List.mem_of_mem_take (List.mem_reverse.mp ha))
            have pkd := pM_ok hp
            have hc9 : c9 < 234 := by
              rcases hi with ⟨-, rfl⟩ | ⟨-, rfl⟩ | ⟨-, rfl | rfl⟩
              · exact (pkd.2.2 (by decide)).1
              · exact (pkd.2.2 (by decide)).1
              · exact (pkd.2.2 (by decide)).1
              · rw [(pkd.2.1 rfl).2.2]; decide
            cases hex1 : exec n (c9, 0, entr c9 (sa.take (mA c9)).reverse, [], M) with
            | none => rw [hex1] at hex; cases hex
            | some r1 =>
              obtain ⟨o1, M1⟩ := r1
              rw [hex1] at hex
              dsimp only at hex
              have hG0 : G0 G := F.2.2.2.2.2.2.2.2.1
              have hM := met_of IH (l := l) hc9 hG0 hl hex1 has hlay
              have hle1 := exec_le n hex1
              have q1 := le2_cu hle1
              have q2 := le2_su hle1
              dsimp only at q1 q2
              have hspc : (kd = 2 ∨ kd = 3) → spc k (pc + 3 - 3) = true := by
                intro h9
                rcases hi with ⟨-, rfl⟩ | ⟨-, rfl⟩ | ⟨rfl, -⟩
                · omega
                · omega
                · unfold spc
                  rw [Nat.add_sub_cancel, hd]
              -- what lies behind the call
              have hafter : (∃ v, o1 = .inl v ∧ exec n (k, pc + 3, la, v.toList ++ sa.drop (mA c9), M1) = some (o, M')) ∨
                  (∃ e9, o1 = .inr e9 ∧ spc k pc = false ∧ ((hnd k pc e9 = none ∧ o = .inr e9 ∧ M' = M1) ∨ ∃ h j, hnd k pc e9 = some (h, j) ∧ j < la.length ∧ exec n (k, h, st1 la j vJ, [], M1) = some (o, M'))) := by
                rcases o1 with v | e9
                · left
                  refine ⟨v, rfl, ?_⟩
                  cases v with
                  | none => exact hex
                  | some a => exact hex
                · right
                  refine ⟨e9, rfl, ?_⟩
                  have h9 : aft k (pc + 3) la (sa.drop (mA c9)) (Sum.inr e9, M1) = if spc k (pc + 3 - 3) = true then Sum.inl none else match hnd k (pc + 3 - 3) e9 with
                    | none => Sum.inl (some (.inr e9, M1))
                    | some (h, j) => if j < la.length then Sum.inr (k, h, st1 la j vJ, [], M1) else Sum.inl none := rfl
                  rw [h9, Nat.add_sub_cancel] at hex
                  cases hs9 : spc k pc with
                  | true => rw [hs9] at hex; cases hex
                  | false =>
                    rw [hs9] at hex
                    refine ⟨rfl, ?_⟩
                    cases hh : hnd k pc e9 with
                    | none =>
                      rw [hh] at hex
                      left
                      have h8 : some ((Sum.inr e9 : Out), M1) = some (o, M') := hex
                      cases h8
                      exact ⟨rfl, rfl, rfl⟩
                    | some hj =>
                      obtain ⟨h, j⟩ := hj
                      rw [hh] at hex
                      right
                      by_cases hjl : j < la.length
                      · refine ⟨h, j, rfl, hjl, ?_⟩
                        dsimp only at hex
                        rw [if_neg (by decide), if_pos hjl] at hex
                        exact hex
                      · dsimp only at hex
                        rw [if_neg (by decide), if_neg hjl] at hex
                        cases hex
              have hth : kd = 2 ∨ kd = 3 → ∃ v, o1 = .inl v := by
                intro h9
                rcases hafter with ⟨v, h8, -⟩ | ⟨e9, -, h8, -⟩
                · exact ⟨v, h8⟩
                · have h7 := hspc h9
                  rw [Nat.add_sub_cancel, h8] at h7
                  cases h7
              have hcu1 : cu M1 ≤ cu M' := by
                rcases hafter with ⟨v, -, h8⟩ | ⟨e9, -, -, ⟨-, -, h8⟩ | ⟨h, j, -, -, h8⟩⟩
                · exact le2_cu (exec_le n h8)
                · rw [h8]; exact Nat.le_refl _
                · exact le2_cu (exec_le n h8)
              have hsu1 : su M1 ≤ su M' := by
                rcases hafter with ⟨v, -, h8⟩ | ⟨e9, -, -, ⟨-, -, h8⟩ | ⟨h, j, -, -, h8⟩⟩
                · exact le2_su (exec_le n h8)
                · rw [h8]; exact Nat.le_refl _
                · exact le2_su (exec_le n h8)
              intro T hTh X
              have hsize := X.heapSize
              rw [hTh] at hsize
              have hrun := crun F hr hd hi hp hn h4 hok hrecv hKK hc9 (H := H) (by omega) hM hth hRf hRq (cells := cells) (slots := slots) (by omega) (by omega) (e := e) (R := R) (below := below)
              have hkp : ∀ {st₀ t T' : State} {L : List Loc}, st₀.heap = H → T'.heap = t.heap → (∀ q ∈ L, gA G q.base) → HW G M1 t.heap → va_F (gA G) st₀ t → HW G M1 T'.heap ∧ va_S (gA G) s.heap T'.heap (locs ++ L) := by
                intro st₀ t T' L z1 z2 z3 z4 z5
                have z6 := vx_keep (free := gA G) z1 z2 hr.2.1 (fun _ _ h => h) (fun _ h => h) z3 z5
                exact ⟨by rw [z2]; exact z4, z6.2.2⟩
              rcases hrun T hTh X with ⟨v, st₀, t, T', L, z1, X', hL, e1, e2, hq, go9⟩ | ⟨qa, st₀, t, T', L, E, ce, z1, X', hL, e1, e2, hq, hce, hcv, hcl, go9⟩
              · obtain ⟨v', hv, ho, hvv, hW1, hF1⟩ := hq
                subst hv
                obtain ⟨h8, h9⟩ := hkp z1 e1 hL hW1 hF1
                rcases hafter with ⟨v2, hv2, hex2⟩ | ⟨e9, he9, -⟩
                · cases hv2
                  have hn1 := HW_n hW1
                  have hmm : ∀ a, VV M.2.1 a → VV M1.2.1 a := fun a ha => VV_mono ha hle1.1 hn1
                  have hrc : RC G k M1 la (v'.toList ++ sa.drop (mA c9)) s T'.heap (locs ++ L) ls ((v'.toList ++ sa.drop (mA c9)).map (cv G)) := by
                    refine ⟨h8, h9, hr.2.2.1, hr.2.2.2.1, rfl, fun a ha => hmm a (hr.2.2.2.2.2.1 a ha), ?_⟩
                    intro a ha
                    rcases List.mem_append.mp ha with ha | ha
                    · cases v' with
                      | none => cases ha
                      | some a0 =>
                        rw [List.mem_singleton.mp ha]
                        exact hvv _ rfl
                    · exact ⟨hmm a (hin a (List.mem_of_mem_drop ha)).1, (hin a (List.mem_of_mem_drop ha)).2⟩
                  have hW2 := IH hex2 (e := e) (R := R) (below := below) (cells := cells + (cu M1 - cu M)) (slots := slots + (su M1 - su M)) F hl htab hrc hz (by omega) (by omega) hmc hms hRc hRs hRf hRq h1 h30
                  obtain ⟨t2, a1, b1⟩ := hW2 T' rfl X'
                  refine ⟨t2, go9 t2 ?_, b1⟩
                  have hvo : v = v'.map (cv G) := by
                    injection ho
                  subst hvo
                  cases v' with
                  | none => exact a1
                  | some a0 => exact a1
                · cases he9
              · obtain ⟨e8, he8, hlt, hE, hW1, hF1⟩ := hq
                subst he8; subst hE
                obtain ⟨h8, h9⟩ := hkp z1 e1 hL hW1 hF1
                rcases hafter with ⟨v2, hv2, -⟩ | ⟨e9, he9, hsp, hcase⟩
                · cases hv2
                · cases he9
                  have hg1 := hG0.2.2.2.2
                  have hwm := F.2.2.2.2.2.2.2.2.2.1
                  have hce' : T'.heap[qa]? = some ce := by rw [e1]; exact hce
                  have hNc : ∀ e2, (e2 < 3 ∧ e2 ≠ 1) → e2 ≠ e8 → va_Nc (exN e8) (exN e2) s := fun e2 h6 h7 => va_Nc.moved hwm.alike (hg1.2.2.2.2.2.2.2.1 e8 e2 hlt h6 (fun h5 => h7 h5.symm))
                  -- a row that does not catch
                  have hno : ∀ {L9 : List (Nat × Nat × Nat × Nat × Nat × Nat × Nat)} {q9 : Nat × Nat × Nat × Nat × Nat × Nat × Nat}, lk hT k = some L9 → q9 ∈ L9 → ¬ (decide (q9.1 ≤ pc) && decide (pc < q9.2.1) && decide (q9.2.2.2.2.1 = e8)) = true → covers (⟨q9.1, q9.2.1, q9.2.2.1, q9.2.2.2.1⟩ : ExceptionTableEntry) pc = false ∨ (q9.2.2.2.1 ≠ 0 ∧ ∃ nm : String, (Cond.classLink (cN (mO k)) q9.2.2.2.1 nm).before args s = true ∧ va_Nc (exN e8) nm s) := by
                    intro L9 q9 hL9 hq9 hnot
                    have h7 := hrow hL9 hq9
                    unfold hOK at h7
                    rw [Bool.and_eq_true, Bool.and_eq_true, Bool.and_eq_true] at h7
                    obtain ⟨r1, r2, r3, -⟩ := h7
                    have r1 := of_decide_eq_true r1
                    have r2 := of_decide_eq_true r2
                    have r3 := of_decide_eq_true r3
                    by_cases hcov : covers (⟨q9.1, q9.2.1, q9.2.2.1, q9.2.2.2.1⟩ : ExceptionTableEntry) pc = true
                    · right
                      refine ⟨by rw [r3]; exact hcp_0 _, exN q9.2.2.2.2.1, ?_, hNc _ r2 ?_⟩
                      · rw [r1, r3]
                        exact F.2.2.2.2.2.1 _ (hclw r2)
                      · intro h6
                        apply hnot
                        rw [h6]
                        have h5 : (decide (q9.1 ≤ pc) && decide (pc < q9.2.1)) = true := hcov
                        rw [h5, decide_eq_true rfl]
                        rfl
                    · left
                      simpa using hcov
                  rcases hcase with ⟨hh, ho, hM'⟩ | ⟨h, j, hh, hjl, hex2⟩
                  · subst ho; subst hM'
                    have hpass : ∀ z ∈ c.exceptionTable.toList, covers z pc = false ∨ (z.catchType ≠ 0 ∧ ∃ nm : String, (Cond.classLink (cN (mO k)) z.catchType nm).before args s = true ∧ va_Nc (exN e8) nm s) := by
                      intro z hz9
                      have htab : c.exceptionTable.toList = tableOf (hhK k) := by
                        rcases htab with h6 | ⟨-, v, hv⟩
                        · exact h6
                        · cases hv
                      rw [htab] at hz9
                      cases hL9 : lk hT k with
                      | none =>
                        unfold hhK at hz9
                        rw [hL9] at hz9
                        cases hz9
                      | some L9 =>
                        rw [tab_map hL9] at hz9
                        obtain ⟨q9, hq9, rfl⟩ := List.mem_map.mp hz9
                        refine hno hL9 hq9 ?_
                        intro h7
                        unfold hnd at hh
                        rw [hL9] at hh
                        have h6 : (L9.find? fun q => decide (q.1 ≤ pc) && decide (pc < q.2.1) && decide (q.2.2.2.2.1 = e8)) = none := by
                          have h5 : ((L9.find? fun q => decide (q.1 ≤ pc) && decide (pc < q.2.1) && decide (q.2.2.2.2.1 = e8)).map fun q => (q.2.2.2.2.2.1, q.2.2.2.2.2.2)) = none := hh
                          exact Option.map_eq_none_iff.mp h5
                        exact (List.find?_eq_none.mp h6 q9 hq9) h7
                    have hout := vx_outP (l := l) (e := e) (R := R) (below := below) (locs := locs ++ L) (cells := cells + (cu M' - cu M)) (slots := slots + (su M' - su M)) (free := gA G) (ls := ls) (rest := (sa.drop (mA c9)).map (cv G)) (Qc := QcK G M' (.inr e8)) (XC := XCK G M' (.inr e8)) (mc := mc) (ms := ms) (p := p) F.2.2.2.2.1 F.2.2.2.2.2.2.1 hpass hce' hcv hcl
                      (fun t2 ht2 _ => ⟨e8, rfl, hlt, rfl, by rw [ht2]; exact h8, va_S.F h9 ht2⟩) h9.2.2 (by omega) (by omega)
                    obtain ⟨t2, a1, b1⟩ := hout T' rfl X'
                    exact ⟨t2, go9.trans a1, b1⟩
                  · unfold hnd at hh
                    cases hL9 : lk hT k with
                    | none => rw [hL9] at hh; cases hh
                    | some L9 =>
                      rw [hL9] at hh
                      have h5 : ((L9.find? fun q => decide (q.1 ≤ pc) && decide (pc < q.2.1) && decide (q.2.2.2.2.1 = e8)).map fun q => (q.2.2.2.2.2.1, q.2.2.2.2.2.2)) = some (h, j) := hh
                      obtain ⟨q9, hq9, hq8⟩ := Option.map_eq_some_iff.mp h5
                      cases hq8
                      obtain ⟨hpq, as, bs, hsp9, hpre⟩ := List.find?_eq_some_iff_append.mp hq9
                      have hq9m : q9 ∈ L9 := by rw [hsp9]; exact List.mem_append_right _ List.mem_cons_self
                      have h7 := hrow hL9 hq9m
                      unfold hOK at h7
                      rw [Bool.and_eq_true, Bool.and_eq_true, Bool.and_eq_true] at h7
                      obtain ⟨r1, r2, r3, r4⟩ := h7
                      have r1 := of_decide_eq_true r1
                      have r2 := of_decide_eq_true r2
                      have r3 := of_decide_eq_true r3
                      rw [Bool.and_eq_true] at hpq
                      have hee : q9.2.2.2.2.1 = e8 := of_decide_eq_true hpq.2
                      have hlocs : c.maxLocals = mL k := F.2.2.1
                      have hrcJ : ∀ ls', lv_has ls' (mL k) ((q9.2.2.2.2.2.2, Value.ref qa) :: (lvl G 0 la).filter (fun q => !(q.1 == q9.2.2.2.2.2.2) && !(q.1 + 1 == q9.2.2.2.2.2.2 && q.2.category == 2))) → RC G k M1 (st1 la q9.2.2.2.2.2.2 vJ) [] s T'.heap (locs ++ L) ls' [] := by
                        intro ls' hls'
                        have hn1 := HW_n hW1
                        refine ⟨h8, h9, lv_mono hls' (lvl_stJ hjl), (st1_len _ _ _).trans hr.2.2.2.1, rfl, ?_, fun a ha => by cases ha⟩
                        exact VV_st1 (v := vJ) trivial la _ (fun a ha => VV_mono (hr.2.2.2.2.2.1 a ha) hle1.1 hn1)
                      have hgo : ∀ ls', lv_has ls' (mL k) ((q9.2.2.2.2.2.2, Value.ref qa) :: (lvl G 0 la).filter (fun q => !(q.1 == q9.2.2.2.2.2.2) && !(q.1 + 1 == q9.2.2.2.2.2.2 && q.2.category == 2))) → W p l e R s m args below meth c T'.heap (locs ++ L) (cells + (cu M1 - cu M)) (slots + (su M1 - su M)) (vx_MQ below (QcK G M' o) (XCK G M' o) args s mc ms (gA G)) (F0 m q9.2.2.2.2.2.1 ls' []) := by
                        intro ls' hls'
                        exact IH hex2 F hl htab (hrcJ ls' hls') hz (by omega) (by omega) hmc hms hRc hRs hRf hRq h1 h30
                      have hst : W p l e R s m args below meth c T'.heap (locs ++ L) (cells + (cu M1 - cu M)) (slots + (su M1 - su M)) (vx_MQ below (QcK G M' o) (XCK G M' o) args s mc ms (gA G)) (F0 m q9.2.2.1 ls [.ref qa]) := by
                        have hjn : q9.2.2.2.2.2.2 < mL k := by rw [← hr.2.2.2.1]; exact hjl
                        split at r4
                        · next j9 hd9 =>
                          rw [Bool.and_eq_true] at r4
                          have r5 := of_decide_eq_true r4.1
                          have r6 := of_decide_eq_true r4.2
                          subst r5
                          refine lv_astore (cc := mB k) F.1 F.2.1 hd9 hr.2.2.1 hjn rfl (fun ls' hls' => ?_)
                          rw [← r6]
                          exact hgo ls' hls'
                        · next j9 hd9 =>
                          rw [Bool.and_eq_true] at r4
                          have r5 := of_decide_eq_true r4.1
                          have r6 := of_decide_eq_true r4.2
                          refine lv_astore_n (cc := mB k) F.1 F.2.1 hd9 r5 hr.2.2.1 hjn rfl (fun ls' hls' => ?_)
                          rw [← r6]
                          exact hgo ls' hls'
                        · cases r4
                      have hcast : (Cond.castable (exN e8) (exN e8)).before args s = true := (va_Nw.warmC hwm (hg1.2.2.2.2.2.2.1 e8 hlt)).use rfl
                      have htab2 : c.exceptionTable.toList = as.map (fun q => (⟨q.1, q.2.1, q.2.2.1, q.2.2.2.1⟩ : ExceptionTableEntry)) ++ (⟨q9.1, q9.2.1, q9.2.2.1, q9.2.2.2.1⟩ : ExceptionTableEntry) :: bs.map (fun q => (⟨q.1, q.2.1, q.2.2.1, q.2.2.2.1⟩ : ExceptionTableEntry)) := by
                        have htab : c.exceptionTable.toList = tableOf (hhK k) := by
                          rcases htab with h6 | ⟨h6, -⟩
                          · exact h6
                          · rw [hL9] at h6; cases h6
                        rw [htab, tab_map hL9, hsp9, List.map_append, List.map_cons]
                      have hpass : ∀ z ∈ as.map (fun q => (⟨q.1, q.2.1, q.2.2.1, q.2.2.2.1⟩ : ExceptionTableEntry)), covers z pc = false ∨ (z.catchType ≠ 0 ∧ ∃ nm : String, (Cond.classLink (cN (mO k)) z.catchType nm).before args s = true ∧ va_Nc (exN e8) nm s) := by
                        intro z hz9
                        obtain ⟨q7, hq7, rfl⟩ := List.mem_map.mp hz9
                        refine hno hL9 (by rw [hsp9]; exact List.mem_append_left _ hq7) ?_
                        intro h6
                        have h5 := hpre q7 hq7
                        rw [h6] at h5
                        cases h5
                      have hcatch := vx_catch (l := l) (e := e) (R := R) (below := below) (p := p) (ls := ls) (rest := (sa.drop (mA c9)).map (cv G)) F.2.2.2.2.1 _ _ _ htab2 hpass hpq.1 (by show q9.2.2.2.1 ≠ 0; rw [r3]; exact hcp_0 _)
                        (by rw [r1, r3, hee]; exact F.2.2.2.2.2.1 _ (hclw (by rw [← hee]; exact r2))) hcast hce' hcv hcl hst
                      obtain ⟨t2, a1, b1⟩ := hcatch T' rfl X'
                      exact ⟨t2, go9.trans a1, b1⟩
      · have hb : nx (k, pc, la, sa, M) = bad := by
          unfold nx
          dsimp only
          rw [hd]
          exact if_neg hln
        rw [hb] at hex
        cases hex
end Sound21
