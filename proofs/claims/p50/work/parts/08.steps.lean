/-! one step of a frame, over the machine: what touches no memory -/
/-! what the interpreter's small functions answer, told backwards -/
theorem g_Ild {k pc i : Nat} {la sa : List AV} {M : Mem} {z : Cfg} (h : nIld k pc i la sa M = Sum.inr (Sum.inl z)) : ∃ x, ldl la i = vI x ∧ z = (k, pc, la, vI x :: sa, M) := by
  unfold nIld at h
  split at h
  · next x hx => cases h; exact ⟨x, hx, rfl⟩
  · cases h
theorem g_Lld {k pc i : Nat} {la sa : List AV} {M : Mem} {z : Cfg} (h : nLld k pc i la sa M = Sum.inr (Sum.inl z)) : ∃ x, ldl la i = vL x ∧ z = (k, pc, la, vL x :: sa, M) := by
  unfold nLld at h
  split at h
  · next x hx => cases h; exact ⟨x, hx, rfl⟩
  · cases h
theorem g_Ald {k pc i : Nat} {la sa : List AV} {M : Mem} {z : Cfg} (h : nAld k pc i la sa M = Sum.inr (Sum.inl z)) : ∃ r, ldl la i = Sum.inr (Sum.inr (Sum.inl r)) ∧ z = (k, pc, la, Sum.inr (Sum.inr (Sum.inl r)) :: sa, M) := by
  unfold nAld at h
  split at h
  · next x hx => cases h; exact ⟨x, hx, rfl⟩
  · cases h
theorem g_Ist {k pc i : Nat} {la sa : List AV} {M : Mem} {z : Cfg} (h : nIst k pc i la sa M = Sum.inr (Sum.inl z)) : ∃ x st, sa = vI x :: st ∧ i < la.length ∧ z = (k, pc, st1 la i (vI x), st, M) := by
  unfold nIst at h
  split at h
  · split at h
    · next hi => cases h; exact ⟨_, _, rfl, hi, rfl⟩
    · cases h
  · cases h
theorem g_Lst {k pc i : Nat} {la sa : List AV} {M : Mem} {z : Cfg} (h : nLst k pc i la sa M = Sum.inr (Sum.inl z)) : ∃ x st, sa = vL x :: st ∧ i + 1 < la.length ∧ z = (k, pc, st2 la i (vL x), st, M) := by
  unfold nLst at h
  split at h
  · split at h
    · next hi => cases h; exact ⟨_, _, rfl, hi, rfl⟩
    · cases h
  · cases h
theorem g_Ast {k pc i : Nat} {la sa : List AV} {M : Mem} {z : Cfg} (h : nAst k pc i la sa M = Sum.inr (Sum.inl z)) : ∃ r st, sa = Sum.inr (Sum.inr (Sum.inl r)) :: st ∧ i < la.length ∧ z = (k, pc, st1 la i (Sum.inr (Sum.inr (Sum.inl r))), st, M) := by
  unfold nAst at h
  split at h
  · split at h
    · next hi => cases h; exact ⟨_, _, rfl, hi, rfl⟩
    · cases h
  · cases h
theorem g_II {k pc : Nat} {la sa : List AV} {M : Mem} {f : Int32 → Int32 → Int32} {z : Cfg} (h : nII k pc la sa M f = Sum.inr (Sum.inl z)) : ∃ x y st, sa = vI y :: vI x :: st ∧ z = (k, pc, la, vI (f x y) :: st, M) := by
  unfold nII at h
  split at h
  · cases h; exact ⟨_, _, _, rfl, rfl⟩
  · cases h
theorem g_LL {k pc : Nat} {la sa : List AV} {M : Mem} {f : Int64 → Int64 → Int64} {z : Cfg} (h : nLL k pc la sa M f = Sum.inr (Sum.inl z)) : ∃ x y st, sa = vL y :: vL x :: st ∧ z = (k, pc, la, vL (f x y) :: st, M) := by
  unfold nLL at h
  split at h
  · cases h; exact ⟨_, _, _, rfl, rfl⟩
  · cases h
theorem g_If {k pc : Nat} {la st : List AV} {M : Mem} {off : Int} {b : Bool} {z : Cfg} (h : nIf k pc la st M off b = Sum.inr (Sum.inl z)) : (pc : Int) + off = (tgt pc off : Int) ∧ z = (k, if b then tgt pc off else pc + 3, la, st, M) := by
  unfold nIf at h
  split at h
  · next hp =>
    refine ⟨by unfold tgt; omega, ?_⟩
    cases b
    · cases h; rfl
    · cases h; rfl
  · cases h
theorem g_Inc {k pc i : Nat} {n : Int} {la sa : List AV} {M : Mem} {z : Cfg} (h : nInc k pc i n la sa M = Sum.inr (Sum.inl z)) : ∃ x, ldl la i = vI x ∧ z = (k, pc + 3, st1 la i (vI (x + Int32.ofInt n)), sa, M) := by
  unfold nInc at h
  split at h
  · next x hx => cases h; exact ⟨x, hx, rfl⟩
  · cases h
theorem g_Ref {k pc : Nat} {la sa : List AV} {M : Mem} {off : Int} {b : Bool} {z : Cfg} (h : nRef k pc la sa M off b = Sum.inr (Sum.inl z)) : ∃ r st, sa = Sum.inr (Sum.inr (Sum.inl r)) :: st ∧ nIf k pc la st M off (r.isNone == b) = Sum.inr (Sum.inl z) := by
  unfold nRef at h
  split at h
  · exact ⟨_, _, rfl, h⟩
  · cases h
theorem g_Acmp {k pc : Nat} {la sa : List AV} {M : Mem} {off : Int} {b : Bool} {z : Cfg} (h : nAcmp k pc la sa M off b = Sum.inr (Sum.inl z)) : ∃ r r' st, sa = Sum.inr (Sum.inr (Sum.inl r)) :: Sum.inr (Sum.inr (Sum.inl r')) :: st ∧ nIf k pc la st M off (decide (r' = r) == b) = Sum.inr (Sum.inl z) := by
  unfold nAcmp at h
  split at h
  · exact ⟨_, _, _, rfl, h⟩
  · cases h
theorem g_Dup {k pc : Nat} {la sa : List AV} {M : Mem} {z : Cfg} (h : nDup k pc la sa M = Sum.inr (Sum.inl z)) : ∃ a st, sa = a :: st ∧ isL a = false ∧ z = (k, pc + 1, la, a :: a :: st, M) := by
  unfold nDup at h
  split at h
  · split at h
    · next hi => cases h; exact ⟨_, _, rfl, hi, rfl⟩
    · cases h
  · cases h
theorem g_Dup2 {k pc : Nat} {la sa : List AV} {M : Mem} {z : Cfg} (h : nDup2 k pc la sa M = Sum.inr (Sum.inl z)) : ∃ a b st, sa = a :: b :: st ∧ isL a = false ∧ isL b = false ∧ z = (k, pc + 1, la, a :: b :: a :: b :: st, M) := by
  unfold nDup2 at h
  split at h
  · split at h
    · next hi => cases h; exact ⟨_, _, _, rfl, hi.1, hi.2, rfl⟩
    · cases h
  · cases h
theorem g_Pop {k pc : Nat} {la sa : List AV} {M : Mem} {z : Cfg} (h : nPop k pc la sa M = Sum.inr (Sum.inl z)) : ∃ a st, sa = a :: st ∧ isL a = false ∧ z = (k, pc + 1, la, st, M) := by
  unfold nPop at h
  split at h
  · split at h
    · next hi => cases h; exact ⟨_, _, rfl, hi, rfl⟩
    · cases h
  · cases h
theorem g_Tab {k pc : Nat} {la sa : List AV} {M : Mem} {d lo hi : Int} {os : Array Int} {z : Cfg} (h : nTab k pc la sa M d lo hi os = Sum.inr (Sum.inl z)) : ∃ x st, sa = vI x :: st ∧ ((x.toInt < lo ∨ hi < x.toInt) ∧ (pc : Int) + d = (tgt pc d : Int) ∧ z = (k, tgt pc d, la, st, M) ∨ ¬ (x.toInt < lo ∨ hi < x.toInt) ∧ ∃ off, os[(x.toInt - lo).toNat]? = some off ∧ (pc : Int) + off = (tgt pc off : Int) ∧ z = (k, tgt pc off, la, st, M)) := by
  unfold nTab at h
  split at h
  · refine ⟨_, _, rfl, ?_⟩
    split at h
    · next hr =>
      split at h
      · next hp => cases h; exact Or.inl ⟨hr, by unfold tgt; omega, rfl⟩
      · cases h
    · next hr =>
      split at h
      · next off ho =>
        split at h
        · next hp => cases h; exact Or.inr ⟨hr, off, ho, by unfold tgt; omega, rfl⟩
        · cases h
      · cases h
  · cases h
def SL (n : Nat) : Nat := ((List.range n).map fun a => (aE a).2.2.2).sum
def cu (M : Mem) : Nat := M.2.1 + M.2.2.2
def su (M : Mem) : Nat := SL M.2.1 + 6 * M.2.2.2
section Steps1
variable {G : wG} {p : Program} {l : Launch} {e : Env} {R : Room} {s : State} {m : MethodId} {args : Array Value} {below : List Frame} {meth : Method} {c : Code} {H : Heap} {locs : List Loc} {cells slots : Nat} {Q : State → Prop}
variable {k pc : Nat} {la sa : List AV} {M : Mem} {ls : Array Slot} {st : List Value}
theorem RC_st (hr : RC G k M la sa s H locs ls st) {sb : List AV} (h : ∀ v ∈ sb, VV M.2.1 v ∧ NJ v) : RC G k M la sb s H locs ls (sb.map (cv G)) := ⟨hr.1, hr.2.1, hr.2.2.1, hr.2.2.2.1, rfl, hr.2.2.2.2.2.1, h⟩
theorem RC_in (hr : RC G k M la sa s H locs ls st) : ∀ v ∈ sa, VV M.2.1 v ∧ NJ v := hr.2.2.2.2.2.2
theorem RC_eq (hr : RC G k M la sa s H locs ls st) : st = sa.map (cv G) := hr.2.2.2.2.1
theorem al1 {n : Nat} {a : AV} {r : List AV} (ha : VV n a ∧ NJ a) (h : ∀ v ∈ r, VV n v ∧ NJ v) : ∀ v ∈ a :: r, VV n v ∧ NJ v := fun v hv => (List.mem_cons.mp hv).elim (fun q => q ▸ ha) (h v)
theorem alt {n : Nat} {a : AV} {r : List AV} (h : ∀ v ∈ a :: r, VV n v ∧ NJ v) : ∀ v ∈ r, VV n v ∧ NJ v := fun v hv => h v (List.mem_cons_of_mem _ hv)
theorem alh {n : Nat} {a : AV} {r : List AV} (h : ∀ v ∈ a :: r, VV n v ∧ NJ v) : VV n a ∧ NJ a := h a List.mem_cons_self
theorem nI1 {n : Nat} {x : Int32} : VV n (vI x) ∧ NJ (vI x) := ⟨trivial, trivial⟩
theorem nL1 {n : Nat} {x : Int64} : VV n (vL x) ∧ NJ (vL x) := ⟨trivial, trivial⟩
theorem nN1 {n : Nat} : VV n vN ∧ NJ vN := ⟨trivial, trivial⟩
/-- stores: the new locals hold the new list -/
theorem lvl_st1 {v : AV} {i : Nat} (hi : i < la.length) (hv : NJ v) : ∀ q ∈ lvl G 0 (st1 la i v), q ∈ (i, cv G v) :: (lvl G 0 la).filter (fun q => !(q.1 == i) && !(q.1 + 1 == i && q.2.category == 2)) := by
  intro q hq
  obtain ⟨j, a, h1, h2, h3⟩ := lvl_of _ _ _ hq
  rw [Nat.zero_add] at h3
  rcases st1_get v la i j a hi h1 h2 with ⟨e1, e2⟩ | ⟨e1, e2, e3⟩
  · rw [h3, e1, e2]
    exact List.mem_cons_self
  · refine List.mem_cons_of_mem _ (List.mem_filter.mpr ⟨?_, ?_⟩)
    · have h4 := lvl_mem (G := G) la 0 j a e2 h2
      rw [Nat.zero_add] at h4
      rw [h3]
      exact h4
    · rw [h3]
      simp only [Bool.and_eq_true, Bool.not_eq_true', beq_eq_false_iff_ne, ne_eq, Bool.and_eq_false_iff]
      refine ⟨e1, ?_⟩
      by_cases e4 : j + 1 = i
      · right
        rw [cv_cat h2, e3 e4]
        decide
      · exact Or.inl e4
theorem lvl_st2 {v : AV} {i : Nat} (hi : i + 1 < la.length) (hv : NJ v) : ∀ q ∈ lvl G 0 (st2 la i v), q ∈ (i, cv G v) :: (lvl G 0 la).filter (fun q => !(q.1 == i) && (!(q.1 == i + 1) && !(q.1 + 1 == i && q.2.category == 2))) := by
  intro q hq
  obtain ⟨j, a, h1, h2, h3⟩ := lvl_of _ _ _ hq
  rw [Nat.zero_add] at h3
  rcases st2_get v la i j a hi h1 h2 with ⟨e1, e2⟩ | ⟨e1, e1b, e2, e3⟩
  · rw [h3, e1, e2]
    exact List.mem_cons_self
  · refine List.mem_cons_of_mem _ (List.mem_filter.mpr ⟨?_, ?_⟩)
    · have h4 := lvl_mem (G := G) la 0 j a e2 h2
      rw [Nat.zero_add] at h4
      rw [h3]
      exact h4
    · rw [h3]
      simp only [Bool.and_eq_true, Bool.not_eq_true', beq_eq_false_iff_ne, ne_eq, Bool.and_eq_false_iff]
      refine ⟨e1, e1b, ?_⟩
      by_cases e4 : j + 1 = i
      · right
        rw [cv_cat h2, e3 e4]
        decide
      · exact Or.inl e4
theorem RC_s1 (hr : RC G k M la sa s H locs ls st) {v : AV} {i : Nat} {sb : List AV} {ls' : Array Slot} (hi : i < la.length) (hv : VV M.2.1 v ∧ NJ v) (hb : ∀ v ∈ sb, VV M.2.1 v ∧ NJ v) (hl : lv_has ls' (mL k) ((i, cv G v) :: (lvl G 0 la).filter (fun q => !(q.1 == i) && !(q.1 + 1 == i && q.2.category == 2)))) : RC G k M (st1 la i v) sb s H locs ls' (sb.map (cv G)) :=
  ⟨hr.1, hr.2.1, lv_mono hl (lvl_st1 hi hv.2), (st1_len v la i).trans hr.2.2.2.1, rfl, VV_st1 hv.1 la i hr.2.2.2.2.2.1, hb⟩
theorem RC_s2 (hr : RC G k M la sa s H locs ls st) {v : AV} {i : Nat} {sb : List AV} {ls' : Array Slot} (hi : i + 1 < la.length) (hv : VV M.2.1 v ∧ NJ v) (hb : ∀ v ∈ sb, VV M.2.1 v ∧ NJ v) (hl : lv_has ls' (mL k) ((i, cv G v) :: (lvl G 0 la).filter (fun q => !(q.1 == i) && (!(q.1 == i + 1) && !(q.1 + 1 == i && q.2.category == 2))))) : RC G k M (st2 la i v) sb s H locs ls' (sb.map (cv G)) :=
  ⟨hr.1, hr.2.1, lv_mono hl (lvl_st2 hi hv.2), (st2_len v la i hi).trans hr.2.2.2.1, rfl, VV_st2 hv.1 la i hr.2.2.2.2.2.1, hb⟩
theorem cad_inj {n x k i x' k' i' : Nat} (h : VO n x k i) (h' : VO n x' k' i') (hb : G.2.1 < gB G) (e : cad G x k i = cad G x' k' i') : (x, k, i) = (x', k', i') := by
  unfold cad at e
  rcases h with ⟨a1, a2, a2'⟩ | ⟨a1, a2, -, len, a3⟩ <;> rcases h' with ⟨b1, b2, b2'⟩ | ⟨b1, b2, -, len', b3⟩
  · rw [a1, a2, a2', b1, b2, b2']
  · rw [if_pos a1, if_neg (by omega)] at e; omega
  · rw [if_neg (by omega), if_pos b1] at e; omega
  · rw [if_neg (by omega), if_neg (by omega)] at e
    have e2 : ad x k i = ad x' k' i' := by omega
    rw [e2, b3] at a3
    cases a3
    rfl

theorem go_cond (F : Fr G p l s m args meth c k) (hr : RC G k M la sa s H locs ls st) {st' : List AV} {x : Int32} {cd : Jvm.ClassFile.Cond} {off : Int} (hsa : sa = vI x :: st') (hd : decode (mB k) pc = .ok (.ifCond cd off, 3)) (ht : (pc : Int) + off = (tgt pc off : Int)) (kk : W p l e R s m args below meth c H locs cells slots Q (F0 m (if cmpI cd x 0 then tgt pc off else pc + 3) ls (st'.map (cv G)))) : W p l e R s m args below meth c H locs cells slots Q (F0 m pc ls st) := by
  obtain ⟨hx, hb, hml, hret, hown, hts, hlk, hnm, hG0, hwm, hold, hsz⟩ := F
  obtain rfl := RC_eq hr
  subst hsa
  cases cd
  · refine lv_if_eq (tgt := tgt pc off) hx hb hd ht (fun q => ?_) (fun q => ?_)
    · simpa [cmpI, q] using kk
    · simpa [cmpI, q] using kk
  · refine lv_if_ne (tgt := tgt pc off) hx hb hd ht (fun q => ?_) (fun q => ?_)
    · simpa [cmpI, q] using kk
    · simpa [cmpI, q] using kk
  · refine lv_if_lt (tgt := tgt pc off) hx hb hd ht (fun q => ?_) (fun q => ?_)
    · simpa [cmpI, q] using kk
    · simpa [cmpI, q] using kk
  · refine lv_if_ge (tgt := tgt pc off) hx hb hd ht (fun q => ?_) (fun q => ?_)
    · simpa [cmpI, q] using kk
    · simpa [cmpI, q] using kk
  · refine lv_if_gt (tgt := tgt pc off) hx hb hd ht (fun q => ?_) (fun q => ?_)
    · simpa [cmpI, q] using kk
    · simpa [cmpI, q] using kk
  · refine lv_if_le (tgt := tgt pc off) hx hb hd ht (fun q => ?_) (fun q => ?_)
    · simpa [cmpI, q] using kk
    · simpa [cmpI, q] using kk
theorem go_icmp (F : Fr G p l s m args meth c k) (hr : RC G k M la sa s H locs ls st) {st' : List AV} {x y : Int32} {cd : Jvm.ClassFile.Cond} {off : Int} (hsa : sa = vI y :: vI x :: st') (hd : decode (mB k) pc = .ok (.if_icmp cd off, 3)) (ht : (pc : Int) + off = (tgt pc off : Int)) (kk : W p l e R s m args below meth c H locs cells slots Q (F0 m (if cmpI cd x y then tgt pc off else pc + 3) ls (st'.map (cv G)))) : W p l e R s m args below meth c H locs cells slots Q (F0 m pc ls st) := by
  obtain ⟨hx, hb, hml, hret, hown, hts, hlk, hnm, hG0, hwm, hold, hsz⟩ := F
  obtain rfl := RC_eq hr
  subst hsa
  cases cd
  · refine lv_icmp_eq (tgt := tgt pc off) hx hb hd ht (fun q => ?_) (fun q => ?_)
    · simpa [cmpI, q] using kk
    · simpa [cmpI, q] using kk
  · refine lv_icmp_ne (tgt := tgt pc off) hx hb hd ht (fun q => ?_) (fun q => ?_)
    · simpa [cmpI, q] using kk
    · simpa [cmpI, q] using kk
  · refine lv_icmp_lt (tgt := tgt pc off) hx hb hd ht (fun q => ?_) (fun q => ?_)
    · simpa [cmpI, q] using kk
    · simpa [cmpI, q] using kk
  · refine lv_icmp_ge (tgt := tgt pc off) hx hb hd ht (fun q => ?_) (fun q => ?_)
    · simpa [cmpI, q] using kk
    · simpa [cmpI, q] using kk
  · refine lv_icmp_gt (tgt := tgt pc off) hx hb hd ht (fun q => ?_) (fun q => ?_)
    · simpa [cmpI, q] using kk
    · simpa [cmpI, q] using kk
  · refine lv_icmp_le (tgt := tgt pc off) hx hb hd ht (fun q => ?_) (fun q => ?_)
    · simpa [cmpI, q] using kk
    · simpa [cmpI, q] using kk
end Steps1
