/-! one step of a frame, over the machine: all steps that stay in the method, together -/
theorem sl_range {n : Nat} : SL (n + 1) = SL n + (aE n).2.2.2 := by
  unfold SL
  rw [List.range_succ, List.map_append, List.sum_append]
  simp
def ckK (z : Nat × Nat × Nat) : Bool := match z with
  | (key, K, ps) => if K < 13 then decide (lw_tbl[ps]? = some (Cond.classLink (cN (key / 1000)) (key % 1000) (cN K))) && goodWord (Cond.classLink (cN (key / 1000)) (key % 1000) (cN K)) else if K = 21 then decide (lw_tbl[ps]? = some (Cond.classLink (cN (key / 1000)) (key % 1000) "[[I")) else decide (100 ≤ K) && decide (K < 103) && decide (lw_tbl[ps]? = some (Cond.classLink (cN (key / 1000)) (key % 1000) (exN (K - 100)))) && goodWord (Cond.classLink (cN (key / 1000)) (key % 1000) (exN (K - 100)))
set_option maxRecDepth 100000 in
theorem kT_ok : kT.all ckK = true := by decide +kernel
theorem pK_ok {o q K ps : Nat} (h : pK o q = some (K, ps)) : (K < 13 → Cond.classLink (cN o) q (cN K) ∈ GW) ∧ (100 ≤ K → K < 103 ∧ Cond.classLink (cN o) q (exN (K - 100)) ∈ GW) ∧ (K = 21 → Cond.classLink (cN o) q "[[I" ∈ GW) := by
  unfold pK at h
  by_cases hq : q < 1000
  · rw [if_pos hq] at h
    have h1 := List.all_eq_true.mp kT_ok _ (lk_mem h)
    have h2 := key_div (o := o) hq
    unfold ckK at h1
    dsimp only at h1
    rw [h2.1, h2.2] at h1
    by_cases hK : K < 13
    · rw [if_pos hK] at h1
      simp only [Bool.and_eq_true, decide_eq_true_eq] at h1
      exact ⟨fun _ => GW_at ps h1.1 h1.2, fun q => absurd hK (by omega), fun q => absurd hK (by omega)⟩
    · rw [if_neg hK] at h1
      by_cases hK2 : K = 21
      · rw [if_pos hK2] at h1
        simp only [decide_eq_true_eq] at h1
        exact ⟨fun q => absurd q hK, fun q => absurd q (by omega), fun _ => GW_at ps h1 rfl⟩
      · rw [if_neg hK2] at h1
        simp only [Bool.and_eq_true, decide_eq_true_eq] at h1
        exact ⟨fun q => absurd q hK, fun _ => ⟨h1.1.1.2, GW_at ps h1.1.2 h1.2⟩, fun q => absurd q hK2⟩
  · rw [if_neg hq] at h
    cases h
def ckI (K : Nat) : Bool := decide (Cond.instantiable (cN K) (nfK K) ∈ lw_tbl) && decide (Cond.initialized (cN K) ∈ lw_tbl)
set_option maxRecDepth 100000 in
theorem ins_ok : (List.range 13).all ckI = true := by decide +kernel
theorem ins_in {K : Nat} (h : K < 13) : Cond.instantiable (cN K) (nfK K) ∈ GW ∧ Cond.initialized (cN K) ∈ GW := by
  have h1 := List.all_eq_true.mp ins_ok K (List.mem_range.mpr h)
  simp only [ckI, Bool.and_eq_true, decide_eq_true_eq] at h1
  exact ⟨List.mem_filter.mpr ⟨h1.1, rfl⟩, List.mem_filter.mpr ⟨h1.2, rfl⟩⟩
set_option maxRecDepth 100000 in
theorem arr_in : Cond.arrayClass .int ∈ GW ∧ Cond.arrayClass .long ∈ GW := ⟨List.mem_filter.mpr ⟨by decide +kernel, rfl⟩, List.mem_filter.mpr ⟨by decide +kernel, rfl⟩⟩
set_option maxRecDepth 100000 in
theorem obj_in : Cond.instanceMethod objectInit ∈ GW ∧ Cond.code objectInit ⟨#[0xb1]⟩ 1 none ∈ GW := ⟨List.mem_filter.mpr ⟨by decide +kernel, rfl⟩, List.mem_filter.mpr ⟨by decide +kernel, rfl⟩⟩
theorem arK_mem {o q z ps : Nat} (h : pK o q = some (z, ps)) (hz : z < 13) : True := trivial
def cats (sa : List AV) : Nat := (sa.map fun a => if isL a then 2 else 1).sum
theorem cats_of {G : wG} : ∀ {sa : List AV}, (∀ v ∈ sa, NJ v) → ((sa.map (cv G)).map fun v => v.category).sum ≤ 2 * sa.length
  | [], _ => by simp
  | a :: r, h => by
    have h1 := cats_of (G := G) (sa := r) (fun v hv => h v (List.mem_cons_of_mem _ hv))
    have h2 := cv_cat (G := G) (h a List.mem_cons_self)
    rw [List.map_cons, List.map_cons, List.sum_cons, h2, List.length_cons]
    split <;> omega
section Steps6
variable {G : wG} {p : Program} {l : Launch} {e : Env} {R : Room} {s : State} {m : MethodId} {args : Array Value} {below : List Frame} {meth : Method} {c : Code} {H : Heap} {locs : List Loc} {cells slots : Nat} {Q : State → Prop}
variable {k pc : Nat} {la sa : List AV} {M : Mem} {ls : Array Slot} {st : List Value}

theorem go_obj (F : Fr G p l s m args meth c k) (hr : RC G k M la sa s H locs ls st) {q ps cc9 i9 x9 k9 : Nat} {st' : List AV} (hp : pM (mO k) q = some (cc9, 4, ps)) (hlk9 : Cond.methodLink (cN (mO k)) q objectInit ∈ GW) (hsa : sa = Sum.inr (Sum.inr (Sum.inl (some (x9, k9, i9)))) :: st') (hst' : st'.length ≤ 4) (hf : 1 ≤ R.frames) (hq : 30 ≤ R.locals) (hd : decode (mB k) pc = .ok (.invokespecial q, 3))
    (kk : RC G k M la st' s H locs ls (st'.map (cv G)) → W p l e R s m args below meth c H locs cells slots Q (F0 m (pc + 3) ls (st'.map (cv G)))) : W p l e R s m args below meth c H locs cells slots Q (F0 m pc ls st) := by
  obtain ⟨hx, hb, hml, hret, hown, hts, hlk, hnm, hG0, hwm, hold, hsz⟩ := id F
  subst hsa
  have hin := RC_in hr
  obtain rfl := RC_eq hr
  have hc := cats_of (G := G) (sa := st') (fun v hv => (alt hin v hv).2)
  have hmr : 2 * (F0 m pc ls (List.map (cv G) (Sum.inr (Sum.inr (Sum.inl (some (x9, k9, i9)))) :: st'))).monitorRoom = 0 := rfl
  exact W.objInit hx hb hown (hts _ hlk9) (hts _ obj_in.1) (hts _ obj_in.2) rfl (by rw [hml]; exact hr.2.2.1.1) (a := cad G x9 k9 i9) (rest := st'.map (cv G)) rfl hd hf (by rw [hmr]; omega) (kk (RC_st hr (alt hin)))
end Steps6
