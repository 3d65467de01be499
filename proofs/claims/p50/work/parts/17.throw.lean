/-! the throw of a new exception with a text, in one -/
set_option maxRecDepth 100000 in
theorem thn_0 : ∀ w ∈ (vx_atS "Openbook" 99 "java/lang/IndexOutOfBoundsException" exC).filter (fun w => !goodWord w), w ∈ Cond.castable "java/lang/IndexOutOfBoundsException" "java/lang/IndexOutOfBoundsException" :: exY.map (fun y => Cond.declares (Bundle.initS y)) := by decide +kernel
set_option maxRecDepth 100000 in
theorem thg_0 : ∀ w ∈ (vx_atS "Openbook" 99 "java/lang/IndexOutOfBoundsException" exC).filter goodWord, w ∈ lw_tbl := by decide +kernel
set_option maxRecDepth 100000 in
theorem tho_0 : ∀ w ∈ Cond.classLink "Openbook" 95 "java/lang/IndexOutOfBoundsException" :: Cond.initialized "java/lang/IndexOutOfBoundsException" :: vx_atS "Openbook" 99 "java/lang/IndexOutOfBoundsException" exC, vx_ot w = true := by decide +kernel
set_option maxRecDepth 100000 in
theorem thi_0 : Cond.initialized "java/lang/IndexOutOfBoundsException" ∈ lw_tbl ∧ goodWord (Cond.initialized "java/lang/IndexOutOfBoundsException") = true ∧ Cond.classLink "Openbook" 95 "java/lang/IndexOutOfBoundsException" ∈ lw_tbl ∧ goodWord (Cond.classLink "Openbook" 95 "java/lang/IndexOutOfBoundsException") = true ∧ Bundle.fit "java/lang/IndexOutOfBoundsException" = true := by decide +kernel
set_option maxRecDepth 100000 in
theorem thn_1 : ∀ w ∈ (vx_atS "Openbook" 264 "java/lang/IllegalArgumentException" exC).filter (fun w => !goodWord w), w ∈ Cond.castable "java/lang/IllegalArgumentException" "java/lang/IllegalArgumentException" :: exY.map (fun y => Cond.declares (Bundle.initS y)) := by decide +kernel
set_option maxRecDepth 100000 in
theorem thg_1 : ∀ w ∈ (vx_atS "Openbook" 264 "java/lang/IllegalArgumentException" exC).filter goodWord, w ∈ lw_tbl := by decide +kernel
set_option maxRecDepth 100000 in
theorem tho_1 : ∀ w ∈ Cond.classLink "Openbook" 260 "java/lang/IllegalArgumentException" :: Cond.initialized "java/lang/IllegalArgumentException" :: vx_atS "Openbook" 264 "java/lang/IllegalArgumentException" exC, vx_ot w = true := by decide +kernel
set_option maxRecDepth 100000 in
theorem thi_1 : Cond.initialized "java/lang/IllegalArgumentException" ∈ lw_tbl ∧ goodWord (Cond.initialized "java/lang/IllegalArgumentException") = true ∧ Cond.classLink "Openbook" 260 "java/lang/IllegalArgumentException" ∈ lw_tbl ∧ goodWord (Cond.classLink "Openbook" 260 "java/lang/IllegalArgumentException") = true ∧ Bundle.fit "java/lang/IllegalArgumentException" = true := by decide +kernel
set_option maxRecDepth 100000 in
theorem thn_2 : ∀ w ∈ (vx_atS "Openbook" 269 "java/lang/IllegalStateException" exC).filter (fun w => !goodWord w), w ∈ Cond.castable "java/lang/IllegalStateException" "java/lang/IllegalStateException" :: exY.map (fun y => Cond.declares (Bundle.initS y)) := by decide +kernel
set_option maxRecDepth 100000 in
theorem thg_2 : ∀ w ∈ (vx_atS "Openbook" 269 "java/lang/IllegalStateException" exC).filter goodWord, w ∈ lw_tbl := by decide +kernel
set_option maxRecDepth 100000 in
theorem tho_2 : ∀ w ∈ Cond.classLink "Openbook" 265 "java/lang/IllegalStateException" :: Cond.initialized "java/lang/IllegalStateException" :: vx_atS "Openbook" 269 "java/lang/IllegalStateException" exC, vx_ot w = true := by decide +kernel
set_option maxRecDepth 100000 in
theorem thi_2 : Cond.initialized "java/lang/IllegalStateException" ∈ lw_tbl ∧ goodWord (Cond.initialized "java/lang/IllegalStateException") = true ∧ Cond.classLink "Openbook" 265 "java/lang/IllegalStateException" ∈ lw_tbl ∧ goodWord (Cond.classLink "Openbook" 265 "java/lang/IllegalStateException") = true ∧ Bundle.fit "java/lang/IllegalStateException" = true := by decide +kernel
theorem thc : ∀ n ∈ exC, Bundle.fit n = true := by decide +kernel
theorem th_at {o ik ic e : Nat} (h : (o, ik, ic, e) ∈ tT) : o = 11 ∧ e < 3 ∧ (∀ w ∈ (vx_atS "Openbook" ic (exN e) exC).filter (fun w => !goodWord w), w ∈ Cond.castable (exN e) (exN e) :: exY.map (fun y => Cond.declares (Bundle.initS y))) ∧
    (∀ w ∈ (vx_atS "Openbook" ic (exN e) exC).filter goodWord, w ∈ GW) ∧ (∀ w ∈ Cond.classLink "Openbook" ik (exN e) :: Cond.initialized (exN e) :: vx_atS "Openbook" ic (exN e) exC, vx_ot w = true) ∧ Cond.initialized (exN e) ∈ GW ∧ Cond.classLink "Openbook" ik (exN e) ∈ GW ∧ Bundle.fit (exN e) = true := by
  simp only [tT, List.mem_cons, Prod.mk.injEq, List.not_mem_nil, or_false] at h
  rcases h with ⟨rfl, rfl, rfl, rfl⟩ | ⟨rfl, rfl, rfl, rfl⟩ | ⟨rfl, rfl, rfl, rfl⟩
  · exact ⟨rfl, by omega, thn_0, fun w hw => List.mem_filter.mpr ⟨thg_0 w hw, (List.mem_filter.mp hw).2⟩, tho_0, List.mem_filter.mpr ⟨thi_0.1, thi_0.2.1⟩, List.mem_filter.mpr ⟨thi_0.2.2.1, thi_0.2.2.2.1⟩, thi_0.2.2.2.2⟩
  · exact ⟨rfl, by omega, thn_1, fun w hw => List.mem_filter.mpr ⟨thg_1 w hw, (List.mem_filter.mp hw).2⟩, tho_1, List.mem_filter.mpr ⟨thi_1.1, thi_1.2.1⟩, List.mem_filter.mpr ⟨thi_1.2.2.1, thi_1.2.2.2.1⟩, thi_1.2.2.2.2⟩
  · exact ⟨rfl, by omega, thn_2, fun w hw => List.mem_filter.mpr ⟨thg_2 w hw, (List.mem_filter.mp hw).2⟩, tho_2, List.mem_filter.mpr ⟨thi_2.1, thi_2.2.1⟩, List.mem_filter.mpr ⟨thi_2.2.2.1, thi_2.2.2.2.1⟩, thi_2.2.2.2.2⟩
theorem thr_inv {k pc q e : Nat} (h : thrS k pc q e = true) : 6 ≤ mF k ∧ 100 ≤ mQ k ∧ lk hT k = none ∧ ∃ i ic, (mO k, q, ic, e) ∈ tT ∧ (pS (mO k) i).isSome = true ∧ decode (mB k) (pc + 3) = .ok (.dup, 1) ∧
    ((decode (mB k) (pc + 4) = .ok (.ldc i, 2) ∧ decode (mB k) (pc + 6) = .ok (.invokespecial ic, 3) ∧ decode (mB k) (pc + 9) = .ok (.athrow, 1)) ∨ (decode (mB k) (pc + 4) = .ok (.ldc_w i, 3) ∧ decode (mB k) (pc + 7) = .ok (.invokespecial ic, 3) ∧ decode (mB k) (pc + 10) = .ok (.athrow, 1))) := by
  unfold thrS at h
  rw [Bool.and_eq_true, Bool.and_eq_true, Bool.and_eq_true] at h
  obtain ⟨⟨⟨h1, h2⟩, h3⟩, h4⟩ := h
  refine ⟨of_decide_eq_true h1, of_decide_eq_true h2, Option.isNone_iff_eq_none.mp h3, ?_⟩
  split at h4
  · next d3 d4 =>
    split at h4
    · next d6 d9 =>
      rw [Bool.and_eq_true] at h4
      exact ⟨_, _, of_decide_eq_true h4.2, h4.1, d3, Or.inl ⟨d4, d6, d9⟩⟩
    · cases h4
  · next d3 d4 =>
    split at h4
    · next d6 d9 =>
      rw [Bool.and_eq_true] at h4
      exact ⟨_, _, of_decide_eq_true h4.2, h4.1, d3, Or.inr ⟨d4, d6, d9⟩⟩
    · cases h4
  · cases h4
/-- the memory behind a throw -/
def Mt (M : Mem) : Mem := (M.1, (M.2.1, M.2.2.1, M.2.2.2 + 1))
theorem HW_grow {G : wG} {M : Mem} {H H1 : Heap} (h : HW G M H) (hs : H.size ≤ H1.size) (hq : ∀ q : Nat, q < H.size → H1[q]? = H[q]?) : HW G M H1 := by
  obtain ⟨h1, h2, h3, h4, h5, h6, h7⟩ := h
  have hb : gB G ≤ H.size := by omega
  exact ⟨h1.kept fun k q hk => hq _ (vx_lt h1 hk), h2, h3, by omega, fun q hlt => (hq q (by omega)).trans (h5 q hlt), h6, h7⟩
/-- what a callee that returns leaves; what one that throws leaves -/
def QcK (G : wG) (M : Mem) (o : Out) : Array Value → State → Outcome → State → Prop := fun _ st o' t => ∃ v : Option AV, o = .inl v ∧ o' = .returned (v.map (cv G)) ∧ (∀ a, v = some a → VV M.2.1 a ∧ NJ a) ∧ HW G M t.heap ∧ va_F (gA G) st t
def XCK (G : wG) (M : Mem) (o : Out) : String → State → State → Prop := fun E st t => ∃ e : Nat, o = .inr e ∧ e < 3 ∧ E = exN e ∧ HW G M t.heap ∧ va_F (gA G) st t
section Throw17
variable {G : wG} {p : Program} {l : Launch} {e : Env} {R : Room} {s : State} {m : MethodId} {args : Array Value} {below : List Frame} {meth : Method} {c : Code} {H : Heap} {locs : List Loc} {cells slots : Nat}
variable {k pc : Nat} {la : List AV} {M : Mem} {ls : Array Slot} {st : List Value}
theorem go_throw (F : Fr G p l s m args meth c k) (hr : RC G k M la [] s H locs ls st) {q e9 mc ms : Nat} {Qc : Array Value → State → Outcome → State → Prop} (ht : thrS k pc q e9 = true) (hl : l.stackTraces = false) (hd : decode (mB k) pc = .ok (.new q, 3)) (htab : c.exceptionTable.toList = tableOf (hhK k)) (hRf : mF k ≤ R.frames) (hRq : mQ k ≤ R.locals) (hRc : mc ≤ R.cells) (hRs : ms ≤ R.slots) (hc : cells + 1 ≤ mc) (hs : slots + 6 ≤ ms) :
    W p l e R s m args below meth c H locs cells slots (vx_MQ below Qc (XCK G (Mt M) (.inr e9)) args s mc ms (gA G)) (F0 m pc ls st) := by
  obtain ⟨hx, hb, hml, hret, hown, hts, hlk, hnm, hG0, hwm, hold, hsz⟩ := id F
  obtain ⟨t1, t2, t3, i, ic, t4, t5, d3, d4⟩ := thr_inv ht
  obtain ⟨o1, o2, o3, o4, o5, o6, o7, o8⟩ := th_at t4
  obtain ⟨-, -, -, -, g1⟩ := id hG0
  obtain ⟨-, -, -, gU, gN, gS, gC, -, gD9⟩ := id g1
  rw [o1] at hown
  have hown : s.vm.findClass "Openbook" = some m.cls := hown
  have hat : ∀ w ∈ vx_atS "Openbook" ic (exN e9) exC, w.before args s = true := by
    refine vx_hat (fun w hw => hts w (o4 w hw)) o3 ?_
    refine vx_c ((va_Nw.warmC hwm (gC e9 o2)).use rfl) ?_
    intro w hw
    obtain ⟨y, hy, rfl⟩ := List.mem_map.mp hw
    exact (va_Nw.warmD hwm (gD9 y hy)).use rfl
  have hU : vx_Zq Bundle.tN "UNASSIGNED_STACK" Bundle.steD (gA G) s s.heap := vx_Zq.moved hwm.alike (gU.kept fun a ha _ => hold a ha)
  have hN : vx_Zq Bundle.tN "SUPPRESSED_SENTINEL" Bundle.listD (gA G) s s.heap := vx_Zq.moved hwm.alike (gN.kept fun a ha _ => hold a ha)
  obtain ⟨z, hz⟩ := Option.isSome_iff_exists.mp t5
  have hstr : ∃ sa, vk_R "Openbook" i z.1 sa s := by
    unfold pS at hz
    by_cases hi : i < 1000
    · rw [if_pos hi] at hz
      have h1 := gS _ (lk_mem hz)
      have h2 := key_div (o := mO k) hi
      dsimp only at h1
      rw [h2.1, h2.2, o1] at h1
      obtain ⟨sa, h3⟩ := h1
      exact ⟨sa, vk_R.warm hwm h3⟩
    · rw [if_neg hi] at hz
      cases hz
  obtain ⟨sa, hstr⟩ := hstr
  have hout : ∀ pc9, ∀ x ∈ c.exceptionTable.toList, covers x pc9 = false := by
    intro pc9 x hx9
    rw [htab] at hx9
    unfold hhK at hx9
    rw [t3] at hx9
    cases hx9
  have hst : st = [] := hr.2.2.2.2.1
  subst hst
  have hXC : ∀ t : State, s.vm.Alike t.vm → H.size ≤ t.heap.size → (∀ q : Nat, q < H.size → t.heap[q]? = H[q]?) → XCK G (Mt M) (.inr e9) (exN e9) s t := by
    intro t _ h1 h2
    refine ⟨e9, rfl, o2, rfl, ?_, ?_⟩
    · have h3 : HW G (Mt M) H := hr.1
      exact HW_grow h3 h1 h2
    · have h4 := hr.2.1
      exact ⟨Nat.le_trans h4.1 h1, fun q h5 h6 => (h2 q (Nat.lt_of_lt_of_le h5 h4.1)).trans (h4.2.1 q h5 h6)⟩
  have hls : ls.size = c.maxLocals := hr.2.2.1.1.trans hml.symm
  rcases d4 with ⟨d4, d6, d9⟩ | ⟨d4, d7, d10⟩
  · exact vx_throwS (names := exC) (A := gA G) hx hb hl hown o8 thc (hts _ o7) (hts _ o6) hstr hat o5 hU hN hr.2.1 hls hd d3 d4 d6 d9 (hout _) (by show 2 + 3 < R.frames; omega) (by show 0 + (13 * (2 + 1) + 43) ≤ R.locals; omega) (by omega) (by omega) hlk hXC hr.2.1.2.2 hc hs
  · exact vx_throwSW (names := exC) (A := gA G) hx hb hl hown o8 thc (hts _ o7) (hts _ o6) hstr hat o5 hU hN hr.2.1 hls hd d3 d4 d7 d10 (hout _) (by show 2 + 3 < R.frames; omega) (by show 0 + (13 * (2 + 1) + 43) ≤ R.locals; omega) (by omega) (by omega) hlk hXC hr.2.1.2.2 hc hs
end Throw17
