/-! the run of a call; the run of a frame -/
theorem recv_at {c kd : Nat} {as : List AV} (h : recv c kd as = true) (hk : kd ≠ 1) : ∃ x i r, as = Sum.inr (Sum.inr (Sum.inl (some (x, mO c, i)))) :: r ∧ x < 4 := by
  unfold recv at h
  split at h
  · exact absurd rfl hk
  · rw [Bool.and_eq_true] at h
    have h1 := of_decide_eq_true h.1
    subst h1
    exact ⟨_, _, _, rfl, of_decide_eq_true h.2⟩
  · cases h
section Run19
variable {G : wG} {p : Program} {l : Launch} {e : Env} {R : Room} {s : State} {m : MethodId} {args : Array Value} {below : List Frame} {meth : Method} {c : Code} {H : Heap} {locs : List Loc} {cells slots : Nat}
variable {k pc : Nat} {la sa : List AV} {M : Mem} {ls : Array Slot} {st : List Value}
theorem obj_cell (F : Fr G p l s m args meth c k) (hr : RC G k M la sa s H locs ls st) {x K i : Nat} (h : VO M.2.1 x K i) (hx : x < 4) (hK : K < 13) : ∃ cell : Cell, H[cad G x K i]? = some cell ∧ cell.vm.isStatics = false ∧ s.vm.findClass (cN K) = some cell.cls := by
  obtain ⟨len, ha, hlt, -⟩ := VO_at h hx
  have hP := hr.1.1
  have hw := WL_at (G := G) hlt
  have he : ent G M (ad x K i) = .inr (K, (List.range len).map fun s => cv G (rdv M x K i s (tyS K s))) := by
    unfold ent
    rw [ha]
    exact if_pos hK
  rw [he] at hw
  have h1 := va_recv (Fr_K F) hP (vwCl_at hK) hw
  have h2 : cad G x K i = gB G + ad x K i := by unfold cad; rw [if_neg (by omega)]
  rw [h2]
  exact h1
theorem cats_lay {G : wG} : ∀ {sa : List AV}, (∀ v ∈ sa, NJ v) → ((sa.map (cv G)).map fun v => v.category).sum = (lay sa).length
  | [], _ => rfl
  | a :: r, h => by
    have h1 := cats_lay (G := G) (sa := r) (fun v hv => h v (List.mem_cons_of_mem _ hv))
    have h2 := cv_cat (G := G) (h a List.mem_cons_self)
    rw [List.map_cons, List.map_cons, List.sum_cons, h1, h2]
    show _ = (if isL a then a :: vJ :: lay r else a :: lay r).length
    split
    · rw [List.length_cons, List.length_cons]; omega
    · rw [List.length_cons]; omega
theorem crun (F : Fr G p l s m args meth c k) (hr : RC G k M la sa s H locs ls st) {q kd c9 ps : Nat} {i : Instr} (hd : decode (mB k) pc = .ok (i, 3)) (hi : (i = .invokevirtual q ∧ kd = 0) ∨ (i = .invokestatic q ∧ kd = 1) ∨ (i = .invokespecial q ∧ (kd = 2 ∨ kd = 3))) (hp : pM (mO k) q = some (c9, kd, ps))
    (hn : mA c9 ≤ sa.length) (h4 : (lay (sa.drop (mA c9))).length ≤ 8) (hok : okC k c9 = true) (hrecv : recv c9 kd (sa.take (mA c9)).reverse = true) (hKK : okK c9 kd = true) (hc9 : c9 < 234) {M1 : Mem} {o1 : Out} (hH : H.size ≤ gB G + cu M)
    (hM : vx_Met l (mN c9) (wsK c9) { frames := mF c9, cells := cu M1 - cu M, slots := su M1 - su M, locals := mQ c9 } (PcK G M (sa.take (mA c9)).reverse) (QcK G M1 o1) (XCK G M1 o1) (cu M1 - cu M) (su M1 - su M) (gA G))
    (hth : kd = 2 ∨ kd = 3 → ∃ v, o1 = .inl v) (hRf : mF k ≤ R.frames) (hRq : mQ k ≤ R.locals) (hc : cells + (cu M1 - cu M) ≤ R.cells) (hs : slots + (su M1 - su M) ≤ R.slots) :
    vx_Run p l e R s m args below meth c H locs cells slots (cu M1 - cu M) (su M1 - su M) (F0 m pc ls st) ((sa.drop (mA c9)).map (cv G)) (QcK G M1 o1 #[]) (XCK G M1 o1) (gA G) := by
  obtain ⟨hx, hb, hml, hret, hown, hts, hlk, hnm, hG0, hwm, hold, hsz⟩ := id F
  have hE := EM_ok hc9
  have hE1 := hE.1
  unfold EMc at hE1
  obtain ⟨y1, y2, y3, y4, y5, y6, y7⟩ := hE1
  have hok2 := hok
  unfold okC at hok2
  rw [Bool.and_eq_true] at hok2
  have f1 := of_decide_eq_true hok2.1
  have f2 := of_decide_eq_true hok2.2
  have hin := RC_in hr
  have hst := RC_eq hr
  have hlen : ((sa.take (mA c9)).reverse).length = mA c9 := by rw [List.length_reverse, List.length_take]; omega
  have hsplit : sa = ((sa.take (mA c9)).reverse).reverse ++ sa.drop (mA c9) := by rw [List.reverse_reverse, List.take_append_drop]
  have hasin : ∀ a ∈ (sa.take (mA c9)).reverse, VV M.2.1 a ∧ NJ a := fun a ha => hin a (List.mem_of_mem_take (List.mem_reverse.mp ha))
  have hcat : (((sa.drop (mA c9)).map (cv G)).map fun v => v.category).sum ≤ 8 := by
    rw [cats_lay (G := G) (sa := sa.drop (mA c9)) fun v hv => (hin v (List.mem_of_mem_drop hv)).2]
    exact h4
  have S : CallFix p m c (mB k) (mL k) s args GW (cN (mO k)) := ⟨hx, hb, hml, hown, hts⟩
  have hsize : (F0 m pc ls st).locals.size = mL k := hr.2.2.1.1
  have pay := pay_in (s := s) hts (ws_good hc9)
  have hPc : ∀ U : State, U.heap = H → s.WarmedH U.vm → PcK G M (sa.take (mA c9)).reverse (((sa.take (mA c9)).reverse).map (cv G)).toArray U := by
    intro U hU hW
    refine ⟨rfl, State.WarmedH.trans hwm hW, ?_, ?_⟩
    · rw [hU]; exact hr.1
    · rw [hU]; exact hH
  have hmon : 2 * (F0 m pc ls st).monitorRoom + (((sa.drop (mA c9)).map (cv G)).map fun v => v.category).sum ≤ 8 := by
    have h0 : (F0 m pc ls st).monitorRoom = 0 := rfl
    rw [h0]
    omega
  generalize has : (sa.take (mA c9)).reverse = as at *
  generalize hrs : sa.drop (mA c9) = rs at *
  have hst2 : st = (as.map (cv G)).reverse ++ rs.map (cv G) := by rw [hst, hsplit, List.map_append, List.map_reverse]
  have pkd := pM_ok hp
  have room : mF c9 + 1 ≤ R.frames ∧ 8 + (mL c9 + 11) + mQ c9 ≤ R.locals := ⟨by omega, by omega⟩
  have hwin : cwK c9 ∈ wsK c9 := List.mem_cons_self
  have hwb : (cwK c9).before args s = true := hts _ (cw_in hc9)
  have hini : (Cond.initialized (mN c9).cls).before args s = true := hts _ y4
  rcases hi with ⟨rfl, rfl⟩ | ⟨rfl, rfl⟩ | ⟨rfl, hkd⟩
  · -- by the receiver
    obtain ⟨x, i9, as', ha, hx4⟩ := recv_at hrecv (by decide)
    subst ha
    have hKK : ((decide (mSt c9 = 0) && decide (mO c9 < 13)) && !decide ((mN c9).name = "<init>")) = true := hKK
    rw [Bool.and_eq_true, Bool.and_eq_true] at hKK
    have k1 := of_decide_eq_true hKK.1.1
    have k2 := of_decide_eq_true hKK.1.2
    have k3 : ¬ (mN c9).name = "<init>" := by
      have h9 := hKK.2
      intro q9
      rw [decide_eq_true q9] at h9
      cases h9
    obtain ⟨z1, z2⟩ := y6 k1
    have hsel : (Cond.selects (cN (mO c9)) (mN c9) (mN c9)).before args s = true := by
      rcases y7 k1 with h9 | h9
      · exact absurd h9 k3
      · exact hts _ h9
    have hnp : ∀ sig, parseMethodDescriptor (mN c9).desc = some sig → as'.length = sig.parameters.length := by
      intro sig h9
      rw [h9] at z2
      have h8 : sig.parameters.length + 1 = mA c9 := Option.some.inj z2
      have h7 : as'.length + 1 = mA c9 := hlen
      omega
    have hlink : (Cond.methodLink (cN (mO k)) q (mN c9)).before args s = true := hts _ (pkd.2.2 (by decide)).2
    have hprev : PreV s H (cN (mO c9)) (cad G x (mO c9) i9) (PcK G M (Sum.inr (Sum.inr (Sum.inl (some (x, mO c9, i9)))) :: as')) (as'.map (cv G)) :=
      ⟨PcK_blind, obj_cell F hr (hasin _ List.mem_cons_self).1 hx4 k2, hPc⟩
    have hstk : (F0 m pc ls st).stack = (as'.map (cv G)).reverse ++ .ref (cad G x (mO c9) i9) :: rs.map (cv G) := by
      show st = _
      rw [hst2, List.map_cons, List.reverse_cons, List.append_assoc]
      rfl
    cases hno : lk hT c9 with
    | none =>
      have hcw : cwK c9 = .code (mN c9) (mB c9) (mL c9) (mR c9) := by unfold cwK; rw [hno]
      rw [hcw] at hwin hwb
      exact vx_runV (As := as'.map (cv G)) (C := cN (mO c9)) (bytes := mB c9) (maxL := mL c9) (ret := mR c9) (n := as'.length) S hM ⟨⟨rfl, rfl, room.1, room.2, pay, hwin, hwb, hini, y3, hnp, hlink⟩, hts _ z1, hsel⟩ hprev rfl (by rw [List.length_map]) hsize hstk hmon hd ⟨hc, hs⟩
    | some L =>
      have hcw : cwK c9 = .codeWith (mN c9) (mB c9) (mL c9) (mR c9) (hhK c9) := by unfold cwK; rw [hno]
      rw [hcw] at hwin hwb
      exact vx_runVX (As := as'.map (cv G)) (C := cN (mO c9)) (bytes := mB c9) (maxL := mL c9) (ret := mR c9) (n := as'.length) S hM ⟨⟨rfl, rfl, room.1, room.2, pay, hwin⟩, hwb, hini, y3, hnp, hlink, hts _ z1, hsel⟩ hprev rfl (by rw [List.length_map]) hsize hstk hmon hd ⟨hc, hs⟩
  · -- static
    have hKK : decide (mSt c9 = 1) = true := hKK
    obtain ⟨z1, z2⟩ := y5 (of_decide_eq_true hKK)
    have hnp : ∀ sig, parseMethodDescriptor (mN c9).desc = some sig → as.length = sig.parameters.length := by
      intro sig h9
      rw [h9] at z2
      have h8 : sig.parameters.length = mA c9 := Option.some.inj z2
      omega
    have hlink : (Cond.methodLink (cN (mO k)) q (mN c9)).before args s = true := hts _ (pkd.2.2 (by decide)).2
    cases hno : lk hT c9 with
    | none =>
      have hcw : cwK c9 = .code (mN c9) (mB c9) (mL c9) (mR c9) := by unfold cwK; rw [hno]
      rw [hcw] at hwin hwb
      exact vx_runS (As := as.map (cv G)) (bytes := mB c9) (maxL := mL c9) (ret := mR c9) (n := as.length) S hM ⟨⟨rfl, rfl, room.1, room.2, pay, hwin, hwb, hini, y3, hnp, hlink⟩, hts _ z1⟩ ⟨PcK_blind, hPc⟩ rfl (by rw [List.length_map]) hsize hst2 hmon hd ⟨hc, hs⟩
    | some L =>
      have hcw : cwK c9 = .codeWith (mN c9) (mB c9) (mL c9) (mR c9) (hhK c9) := by unfold cwK; rw [hno]
      rw [hcw] at hwin hwb
      exact vx_runSX (As := as.map (cv G)) (bytes := mB c9) (maxL := mL c9) (ret := mR c9) (n := as.length) S hM ⟨⟨rfl, rfl, room.1, room.2, pay, hwin⟩, hwb, hini, y3, hnp, hlink, hts _ z1⟩ ⟨PcK_blind, hPc⟩ rfl (by rw [List.length_map]) hsize hst2 hmon hd ⟨hc, hs⟩
  · -- a constructor
    obtain ⟨x, i9, as', ha, hx4⟩ := recv_at hrecv (by omega)
    subst ha
    have hK2 : ((decide (mSt c9 = 0) && decide (mO c9 < 13)) && (decide ((mN c9).name = "<init>") && ((lk hT c9).isNone && (mR c9).isNone))) = true := by
      rcases hkd with rfl | rfl <;> exact hKK
    simp only [Bool.and_eq_true, decide_eq_true_eq, Option.isNone_iff_eq_none] at hK2
    obtain ⟨⟨k1, k2⟩, k3, k4, k5⟩ := hK2
    obtain ⟨z1, z2⟩ := y6 k1
    have hnp : ∀ sig, parseMethodDescriptor (mN c9).desc = some sig → as'.length = sig.parameters.length := by
      intro sig h9
      rw [h9] at z2
      have h8 : sig.parameters.length + 1 = mA c9 := Option.some.inj z2
      have h7 : as'.length + 1 = mA c9 := hlen
      omega
    have hstk : (F0 m pc ls st).stack = (as'.map (cv G)).reverse ++ .ref (cad G x (mO c9) i9) :: rs.map (cv G) := by
      show st = _
      rw [hst2, List.map_cons, List.reverse_cons, List.append_assoc]
      rfl
    have hcw : cwK c9 = .code (mN c9) (mB c9) (mL c9) none := by unfold cwK; rw [k4, k5]
    rw [hcw] at hwin hwb
    obtain ⟨v9, rfl⟩ := hth hkd
    have hM2 := met_plain hM
    have hpre : PreS s H (PcK G M (Sum.inr (Sum.inr (Sum.inl (some (x, mO c9, i9)))) :: as')) (.ref (cad G x (mO c9) i9) :: as'.map (cv G)) := ⟨PcK_blind, hPc⟩
    have hrun : va_Run p l e R s m args below meth c H locs cells slots (cu M1 - cu M) (su M1 - su M) (F0 m pc ls st) (rs.map (cv G)) (QcK G M1 (.inl v9) #[]) (gA G) := by
      rcases hkd with rfl | rfl
      · have hlink : (Cond.methodLink (cN (mO k)) q (mN c9)).before args s = true := hts _ (pkd.2.2 (by decide)).2
        exact va_runI (As := as'.map (cv G)) (bytes := mB c9) (maxL := mL c9) (n := as'.length) S hM2 ⟨⟨rfl, rfl, room.1, room.2, pay, hwin, hwb, hini, y3, hnp, hlink⟩, k3, hts _ z1⟩ hpre rfl (by rw [List.length_map]) hsize hstk hmon hd ⟨hc, hs⟩
      · obtain ⟨o2, o3, o4⟩ := pkd.2.1 rfl
        subst o3; subst o4
        have hlink : (Cond.methodLinkNest (cN (mO k)) 30 (mN 137) "Openbook").before args s = true := by
          rw [o2]
          exact (va_Nw.warmM hwm hG0.2.2.2.2.2.2.1).use rfl
        exact va_runIN (As := as'.map (cv G)) (host := "Openbook") (bytes := mB 137) (maxL := mL 137) (n := as'.length) S hM2 ⟨⟨⟨rfl, rfl, room.1, room.2, pay, hwin⟩, hwb, hini, y3, hnp, hlink⟩, k3, hts _ z1⟩ hpre rfl (by rw [List.length_map]) hsize hstk hmon hd ⟨hc, hs⟩
    intro T hT X
    exact Or.inl (hrun T hT X)
end Run19
