/-! the entry of a frame, the contract of a callee, the run of a call -/
theorem laid_eq : ∀ vs : List Value, Jvm.Sym.laidSlots vs = lg_sl vs
  | [] => rfl
  | v :: vs => by
    rw [Jvm.Sym.laidSlots, laid_eq vs]
    unfold lg_sl
    rw [List.flatMap_cons]
    split <;> rfl
theorem args_eq (args : Array Value) (n : Nat) : argsToLocals args n = (lg_sl args.toList ++ List.replicate (n - (lg_sl args.toList).length) Slot.unset).toArray := by
  apply Array.toList_inj.mp
  rw [Jvm.Sym.argsToLocals_toList, laid_eq]
theorem sl_len {G : wG} : ∀ {as : List AV}, (∀ a ∈ as, NJ a) → (lg_sl (as.map (cv G))).length = (lay as).length
  | [], _ => rfl
  | a :: r, h => by
    have h1 := sl_len (G := G) (as := r) fun a ha => h a (List.mem_cons_of_mem _ ha)
    have h2 := cv_cat (G := G) (h a List.mem_cons_self)
    unfold lg_sl at h1 ⊢
    rw [List.map_cons, List.flatMap_cons, List.length_append, h1, lay, h2]
    cases isL a
    · show 1 + _ = _ + 1; omega
    · show 2 + _ = _ + 1 + 1; omega
theorem lvl_rep {G : wG} : ∀ (n j : Nat), lvl G j (List.replicate n vJ) = []
  | 0, _ => rfl
  | n + 1, j => by
    rw [List.replicate_succ]
    exact lvl_rep n (j + 1)
theorem lvl_lay {G : wG} {n : Nat} : ∀ (as : List AV) (j : Nat), (∀ a ∈ as, NJ a) → lvl G j (lay as ++ List.replicate n vJ) = lv_args j (as.map (cv G))
  | [], j, _ => lvl_rep n j
  | a :: r, j, h => by
    have h2 := cv_cat (G := G) (h a List.mem_cons_self)
    have ih := fun j => lvl_lay (G := G) (n := n) r j fun a ha => h a (List.mem_cons_of_mem _ ha)
    rw [List.map_cons, lv_args, h2]
    rcases a with x | x | x | x
    · show (j, cv G (Sum.inl x)) :: lvl G (j + 1) (lay r ++ List.replicate n vJ) = _
      rw [ih]; rfl
    · show (j, cv G (Sum.inr (Sum.inl x))) :: lvl G (j + 2) (lay r ++ List.replicate n vJ) = _
      rw [ih]; rfl
    · show (j, cv G (Sum.inr (Sum.inr (Sum.inl x)))) :: lvl G (j + 1) (lay r ++ List.replicate n vJ) = _
      rw [ih]; rfl
    · exact (h _ List.mem_cons_self).elim
theorem entr_has {G : wG} {as : List AV} {k : Nat} (hn : ∀ a ∈ as, NJ a) (hl : (lay as).length ≤ mL k) : lv_has (argsToLocals (as.map (cv G)).toArray (mL k)) (mL k) (lvl G 0 (entr k as)) := by
  rw [args_eq]
  show lv_has ((lg_sl (as.map (cv G)) ++ List.replicate (mL k - (lg_sl (as.map (cv G))).length) Slot.unset).toArray) (mL k) (lvl G 0 (entr k as))
  have h1 := lv_entry (as.map (cv G)) (n := mL k) (by rw [sl_len hn]; exact hl)
  unfold entr
  rw [lvl_lay as 0 hn]
  exact h1
theorem entr_len {as : List AV} {k : Nat} (hl : (lay as).length ≤ mL k) : (entr k as).length = mL k := by
  unfold entr
  rw [List.length_append, List.length_replicate]
  omega
theorem lay_VV {n : Nat} : ∀ {as : List AV}, (∀ a ∈ as, VV n a) → ∀ a ∈ lay as, VV n a
  | [], _, a, ha => by cases ha
  | b :: r, h, a, ha => by
    have ih := lay_VV (n := n) (as := r) (fun a ha => h a (List.mem_cons_of_mem _ ha))
    rw [lay] at ha
    split at ha
    · rcases List.mem_cons.mp ha with rfl | ha
      · exact h _ List.mem_cons_self
      · rcases List.mem_cons.mp ha with rfl | ha
        · trivial
        · exact ih a ha
    · rcases List.mem_cons.mp ha with rfl | ha
      · exact h _ List.mem_cons_self
      · exact ih a ha
theorem entr_VV {n k : Nat} {as : List AV} (h : ∀ a ∈ as, VV n a) : ∀ a ∈ entr k as, VV n a := by
  intro a ha
  rcases List.mem_append.mp ha with h1 | h1
  · exact lay_VV h a h1
  · rw [(List.mem_replicate.mp h1).2]
    trivial
/-- the callee's start; its words -/
def PcK (G : wG) (M : Mem) (as : List AV) : Array Value → State → Prop := fun a U => a = (as.map (cv G)).toArray ∧ G.1.WarmedH U.vm ∧ HW G M U.heap ∧ U.heap.size ≤ gB G + cu M
def cwK (k : Nat) : Cond := match lk hT k with
  | none => .code (mN k) (mB k) (mL k) (mR k)
  | some _ => .codeWith (mN k) (mB k) (mL k) (mR k) (hhK k)
def wsK (k : Nat) : List Cond := cwK k :: GW
theorem PcK_blind {G : wG} {M : Mem} {as : List AV} : FrameBlind (PcK G M as) := fun _ _ _ _ h => h
theorem cw_in {k : Nat} (hk : k < 234) : cwK k ∈ GW := by
  have h := (EM_ok hk).2.1
  unfold cwK
  rcases h with ⟨h1, h2⟩ | ⟨h1, h2⟩
  · rw [h1]; exact h2
  · cases h3 : lk hT k with
    | none => rw [h3] at h1; cases h1
    | some L => exact h2
theorem ws_in {k : Nat} (hk : k < 234) : ∀ w ∈ wsK k, w ∈ GW := by
  intro w hw
  rcases List.mem_cons.mp hw with rfl | hw
  · exact cw_in hk
  · exact hw
theorem ws_good {k : Nat} (hk : k < 234) : GoodIn GW (wsK k) := fun w hw => ⟨ws_in hk w hw, good_of_word (List.mem_filter.mp (ws_in hk w hw)).2⟩
/-- what the interpreter answers of a method is a contract of it -/
def Snd (n : Nat) : Prop := ∀ {k pc : Nat} {la sa : List AV} {M M' : Mem} {o : Out}, exec n (k, pc, la, sa, M) = some (o, M') →
  ∀ {G : wG} {p : Program} {l : Launch} {e : Env} {R : Room} {s : State} {m : MethodId} {args : Array Value} {below : List Frame} {meth : Method} {c : Code} {H : Heap} {locs : List Loc} {cells slots : Nat} {ls : Array Slot} {st : List Value} {c0 s0 mc ms : Nat},
    Fr G p l s m args meth c k → l.stackTraces = false → (c.exceptionTable.toList = tableOf (hhK k) ∨ (lk hT k = none ∧ ∃ v, o = .inl v)) → RC G k M la sa s H locs ls st → s.heap.size ≤ gB G + c0 → cells + c0 = cu M → slots + s0 = su M → mc + c0 = cu M' → ms + s0 = su M' → mc ≤ R.cells → ms ≤ R.slots → mF k ≤ R.frames → mQ k ≤ R.locals → 1 ≤ R.frames → 30 ≤ R.locals →
    W p l e R s m args below meth c H locs cells slots (vx_MQ below (QcK G M' o) (XCK G M' o) args s mc ms (gA G)) (F0 m pc ls st)
theorem met_of {n : Nat} (IH : Snd n) {G : wG} {l : Launch} {k : Nat} {as : List AV} {M M' : Mem} {o : Out} (hk : k < 234) (hG0 : G0 G) (hl : l.stackTraces = false) (hex : exec n (k, 0, entr k as, [], M) = some (o, M')) (has : ∀ a ∈ as, VV M.2.1 a ∧ NJ a) (hlay : (lay as).length ≤ mL k) :
    vx_Met l (mN k) (wsK k) { frames := mF k, cells := cu M' - cu M, slots := su M' - su M, locals := mQ k } (PcK G M as) (QcK G M' o) (XCK G M' o) (cu M' - cu M) (su M' - su M) (gA G) := by
  have hE := EM_ok hk
  have hE1 := hE.1
  unfold EMc at hE1
  have hle := exec_le n hex
  have h1 := le2_cu hle
  have h2 := le2_su hle
  dsimp only at h1 h2
  refine MetFree.of_bodySF (code := mB k) (maxLocals := mL k) (ret := mR k) hE1.2.1 ?_ ?_
  · intro args s m h hn
    have hw := atoms_spec (ws := wsK k) h _ List.mem_cons_self
    unfold cwK at hw
    split at hw
    · obtain ⟨meth, c, h1, h2, h3, h4, h5, h6, -, -⟩ := Cond.code_spec hn hw
      exact ⟨meth, c, h1, h2, h3, h4, h5, h6⟩
    · obtain ⟨m9, meth, c, hn9, h1, h2, h3, h4, -, h5, h6, -⟩ := Cond.codeWith_spec hw
      cases hn.symm.trans hn9
      exact ⟨meth, c, h1, h2, h3, h4, h5, h6⟩
  · intro p e s m args below meth c s₁ B hml hP _
    obtain ⟨hP1, hP2, hP3, hP4⟩ := hP
    have hh0 : s₁.heap = s.heap := by rw [B.state]; rfl
    have hat := atoms_spec (ws := wsK k) B.pre
    have htab : c.exceptionTable.toList = tableOf (hhK k) := by
      have hw := hat _ List.mem_cons_self
      unfold cwK at hw
      split at hw
      · next hno =>
        obtain ⟨meth9, c9, h1, h2, -, -, -, -, h7, -⟩ := Cond.code_spec B.named hw
        cases Option.some.inj (h1.symm.trans B.method)
        cases Option.some.inj (h2.symm.trans (Stand.of_body B).code)
        unfold hhK
        rw [hno, Array.isEmpty_iff.mp h7]
        rfl
      · exact vx_table (x := mN k) B hw
    have hown : s.vm.findClass (cN (mO k)) = some m.cls := by
      have h9 := findClass_of_methodNamed B.named
      rw [hE1.1] at h9
      exact h9
    have F : Fr G p l s m args meth c k := ⟨B.exec, B.bytes, hml, B.returns, hown, fun w hw => hat w (List.mem_cons_of_mem _ hw), B.notSynchronized, (fun h9 => (name_of_methodNamed B.named B.method).1.trans h9), hG0, hP2, hP3.2.2.2.2.1, by have := hP3.2.2.2.1; omega⟩
    have hRC : RC G k M (entr k as) [] s s.heap [] (argsToLocals args (mL k)) [] := by
      refine ⟨hP3, va_S.rf, ?_, entr_len hlay, rfl, entr_VV fun a ha => (has a ha).1, fun v hv => by cases hv⟩
      rw [hP1]
      exact entr_has (fun a ha => (has a ha).2) hlay
    have hW := IH hex (e := e) (R := { frames := mF k, cells := cu M' - cu M, slots := su M' - su M, locals := mQ k }) (below := below) (cells := 0) (slots := 0) (c0 := cu M) (s0 := su M) (mc := cu M' - cu M) (ms := su M' - su M) F hl (Or.inl htab) hRC hP4 (by omega) (by omega) (by omega) (by omega) (Nat.le_refl _) (Nat.le_refl _) (Nat.le_refl _) (Nat.le_refl _) hE.2.2.1 hE.2.2.2.1
    obtain ⟨t, a1, o, b1, b2, b3⟩ := hW s₁ hh0 (Stand.of_body B)
    exact ⟨t, o, a1, b1, b2, b3⟩
/-- a callee that does not throw -/
theorem met_plain {l : Launch} {y : MethodName} {ws : List Cond} {rm : Room} {Pc : Array Value → State → Prop} {G : wG} {M : Mem} {v : Option AV} {mc ms : Nat} (hM : vx_Met l y ws rm Pc (QcK G M (.inl v)) (XCK G M (.inl v)) mc ms (gA G)) : Met l y ws rm Pc (QcK G M (.inl v)) mc ms (gA G) := by
  intro p e ha hc hk s m args below hf happ hP hK
  obtain ⟨n, o, hw, hr, he, hq⟩ := hM p e ha hc hk s m args below hf happ hP hK
  refine ⟨n, o, hw, hr, he, ?_⟩
  rcases hq with hq | ⟨q, -, E, ce, L, ⟨e9, h9, -⟩, -⟩
  · exact hq
  · cases h9
