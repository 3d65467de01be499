/-! one step of a frame, over the machine: what makes objects -/
def ckT (K : Nat) : Bool := (List.range (nfK K)).all fun s => tyOK (tyXs K s) (tyS K s)
theorem tys_ok : (List.range 13).all ckT = true := by decide +kernel
theorem tyOKs {K s : Nat} (hK : K < 13) (hs : s < nfK K) : tyOK (tyXs K s) (tyS K s) = true := List.all_eq_true.mp (List.all_eq_true.mp tys_ok K (List.mem_range.mpr hK)) s (List.mem_range.mpr hs)
theorem AOA_moved {ty : FieldType} {u U : State} (hvm : u.vm.Alike U.vm) (h : va_AOA ty u) : va_AOA ty U := by
  obtain ⟨comp, c, k, h1, h2, h3, h4, h5⟩ := arrayOverA_spec h
  obtain ⟨k', hk', he⟩ := hvm.2.2 _ _ h3
  have e1 := va_idx_bare U.vm comp
  have e2 := va_idx_bare u.vm comp
  have e3 : U.vm.bare = u.vm.bare := by first | exact hvm.bare_eq | exact hvm.bare_eq.symm
  rw [e3] at e1
  have hi := (e1.symm.trans e2).trans h2
  have hkind : k'.kind = .array comp (.array ty) := by rw [he]; exact h4
  have f1 : U.vm.findClass (FieldType.array ty).toString = some comp := by rw [hvm.findClass]; exact h1
  have f2 : U.vm.findClass ("[" ++ (FieldType.array ty).toString) = some c := by rw [hvm.findClass]; exact h5
  unfold va_AOA Cond.before Cond.holds
  simp only [Cond.value]
  rw [f1, Option.bind_some]
  refine (congrArg (fun o : Option Nat => (o.bind (fun c => (U.vm.classes[c]?).map fun (k : Class) => match k.kind with | .array _ ty9 => decide (ty9 = FieldType.array ty) && decide (U.vm.findClass ("[" ++ (FieldType.array ty).toString) = some c) | _ => false) == some true)) hi).trans ?_
  simp [hk', hkind, f2]
theorem VO_mono {n n' x k i : Nat} (h : VO n x k i) (hn : n ≤ n') (hN : n' ≤ aT.length) : VO n' x k i := by
  rcases h with h | ⟨a1, a2, a3, a4⟩
  · exact Or.inl h
  · exact Or.inr ⟨a1, by omega, hN, a4⟩
theorem VV_mono {n n' : Nat} {v : AV} (h : VV n v) (hn : n ≤ n') (hN : n' ≤ aT.length) : VV n' v := by
  rcases v with y | y | y | y
  · trivial
  · trivial
  · rcases y with _ | ⟨x, k, i⟩
    · trivial
    · exact VO_mono h hn hN
  · trivial
theorem gI_sN {M : Mem} {x k i x' k' i' s' : Nat} : gI (sN M x k i) x' k' i' s' = if x' = x ∧ k' = k ∧ i' = i then 0 else gI M x' k' i' s' := by
  unfold gI sN z2
  by_cases h : x' = x
  · subst h
    simp only [if_true, true_and]
  · simp only [h, if_false, false_and]
theorem gJ_sN {M : Mem} {x k i x' k' i' s' : Nat} : gJ (sN M x k i) x' k' i' s' = if x' = x ∧ k' = k ∧ i' = i then 0 else gJ M x' k' i' s' := by
  unfold gJ sN z2
  by_cases h : x' = x
  · subst h
    simp only [if_true, true_and]
  · simp only [h, if_false, false_and]
theorem gR_sN {M : Mem} {x k i x' k' i' s' : Nat} : gR (sN M x k i) x' k' i' s' = if x' = x ∧ k' = k ∧ i' = i then 0 else gR M x' k' i' s' := by
  unfold gR sN z2
  by_cases h : x' = x
  · subst h
    simp only [if_true, true_and]
  · simp only [h, if_false, false_and]
theorem WL_push {G : wG} {M M' : Mem} (hn : M'.2.1 = M.2.1 + 1) (ho : ∀ b, b < M.2.1 → ent G M' b = ent G M b) : WL G M' = WL G M ++ [(gB G + M.2.1, ent G M' M.2.1)] := by
  unfold WL
  rw [hn, List.range_succ, List.map_append]
  congr 1
  apply List.map_congr_left
  intro b hb
  rw [ho b (List.mem_range.mp hb)]
/-- the next object: its row, and what stays -/
theorem sN_all {G : wG} {M : Mem} {x K i len : Nat} (ha : aE M.2.1 = (x, K, i, len)) (hn : M.2.1 < aT.length) (hW : WF M) : WL G (sN M x K i) = WL G M ++ [(gB G + M.2.1, ent G (sN M x K i) M.2.1)] ∧ WF (sN M x K i) ∧ ad x K i = M.2.1 ∧ x < 4 ∧ K < 22 ∧ i ≠ 0 ∧ (K < 13 → len = nfK K) ∧ len ≤ 4000 ∧ VO (M.2.1 + 1) x K i := by
  obtain ⟨h1, h2, h3, h4, h5, h6⟩ := aE_ok hn ha
  have hVn : VO (M.2.1 + 1) x K i := Or.inr ⟨h1, by omega, by omega, len, by rw [h4]; exact ha⟩
  refine ⟨WL_push rfl fun b hb => ?_, ?_, h4, h1, h2, h3, h5, h6, hVn⟩
  · generalize hz : aE b = z
    obtain ⟨x', k', i', len'⟩ := z
    have hne : ¬ (x' = x ∧ k' = K ∧ i' = i) := by
      rintro ⟨q1, q2, q3⟩
      have hb2 := (aE_ok (by omega) hz).2.2.2.1
      rw [q1, q2, q3, h4] at hb2
      omega
    refine ent_eq hz fun s => ⟨?_, ?_, ?_⟩
    · rw [gI_sN, if_neg hne]
    · rw [gJ_sN, if_neg hne]
    · rw [gR_sN, if_neg hne]
  · intro x' k' i' s j hx hV ht h0
    rw [gR_sN] at h0 ⊢
    by_cases hc : x' = x ∧ k' = K ∧ i' = i
    · rw [if_pos hc] at h0; exact absurd rfl h0
    · rw [if_neg hc] at h0 ⊢
      have hV' : VO M.2.1 x' k' i' := by
        rcases hV with hV | ⟨a1, a2, a3, len', a4⟩
        · exact Or.inl hV
        · refine Or.inr ⟨a1, ?_, by omega, len', a4⟩
          have a2' : ad x' k' i' < M.2.1 + 1 := a2
          rcases Nat.lt_or_ge (ad x' k' i') M.2.1 with q | q
          · exact q
          · have e9 : ad x' k' i' = M.2.1 := by omega
            rw [e9, ha] at a4
            cases a4
            exact absurd ⟨rfl, rfl, rfl⟩ hc
      exact VO_mono (hW x' k' i' s j hx hV' ht h0) (Nat.le_succ _) (by show M.2.1 + 1 ≤ aT.length; omega)
theorem RA_uni {s : State} {c1 c2 : ClassId} {ty : FieldType} (h1 : va_RA s c1 ty) (h2 : va_RA s c2 ty) : c1 = c2 := by
  cases ty with
  | object C =>
    obtain ⟨-, -, -, -, -, a⟩ := h1
    obtain ⟨-, -, -, -, -, b⟩ := h2
    exact Option.some.inj (a.symm.trans b)
  | _ => exact Option.some.inj (Eq.trans (Eq.symm h1) h2)
section Steps5
variable {G : wG} {p : Program} {l : Launch} {e : Env} {R : Room} {s : State} {m : MethodId} {args : Array Value} {below : List Frame} {meth : Method} {c : Code} {H : Heap} {locs : List Loc} {cells slots : Nat} {Q : State → Prop}
variable {k pc : Nat} {la sa : List AV} {M : Mem} {ls : Array Slot} {st : List Value}
theorem W_size {g : JFrame} (kk : H.size ≤ s.heap.size + cells → W p l e R s m args below meth c H locs cells slots Q g) : W p l e R s m args below meth c H locs cells slots Q g := fun T hT X => kk (by rw [← hT]; exact X.heapSize) T hT X
/-- where a new cell lies -/
theorem new_at {M : Mem} {c0 q : Nat} {H1 : Heap} {E : va_E} (hP1 : va_P (gD G) vwCl (WL G M ++ [(q, E)]) H1) (hD1 : va_D (gA G) (WL G M ++ [(q, E)])) (hg : M.2.2.2 = 0) (hz : s.heap.size ≤ gB G + c0) (hc0 : cells + c0 = cu M) (h1 : H1.size ≤ s.heap.size + (cells + 1)) : q = gB G + M.2.1 := by
  have hlen : (WL G M).length = M.2.1 := by unfold WL; rw [List.length_map, List.length_range]
  have hq : (WL G M ++ [(q, E)])[M.2.1]? = some (q, E) := by
    rw [List.getElem?_append_right (by omega), hlen, Nat.sub_self]
    rfl
  have a1 : gB G ≤ q := hD1.2 _ _ hq
  have a2 : q < H1.size := (hP1 _ _ hq).lt
  have a3 : ¬ q < gB G + M.2.1 := by
    intro h9
    have hb : q - gB G < M.2.1 := by omega
    have he := WL_at (G := G) hb
    have hq2 : (WL G M ++ [(q, E)])[q - gB G]? = some (gB G + (q - gB G), ent G M (q - gB G)) := by
      rw [List.getElem?_append_left (by omega)]
      exact he
    have := hD1.1 _ _ _ _ hq hq2 (by dsimp only; omega)
    omega
  unfold cu at hc0
  omega

theorem new_end9 (F : Fr G p l s m args meth c k) (hr : RC G k M la sa s H locs ls st) {x K i len c0 q : Nat} {st' : List AV} {H1 : Heap} {locs1 : List Loc} {E : va_E} (hst : ∀ v ∈ st', VV M.2.1 v ∧ NJ v) (ha : aE M.2.1 = (x, K, i, len)) (hn : M.2.1 < aT.length) (hg : M.2.2.2 = 0) (hz : s.heap.size ≤ gB G + c0) (hc0 : cells + c0 = cu M) (hE : ent G (sN M x K i) M.2.1 = E)
    (hP1 : va_P (gD G) vwCl (WL G M ++ [(q, E)]) H1) (hD1 : va_D (gA G) (WL G M ++ [(q, E)])) (hS1 : va_S (gA G) s.heap H1 locs1) (h1 : H1.size ≤ s.heap.size + (cells + 1)) :
    RC G k (sN M x K i) la (vR x K i :: st') s H1 locs1 ls ((vR x K i :: st').map (cv G)) ∧ Value.ref q = cv G (vR x K i) := by
  obtain ⟨hP, hWF, hN, hsize, hlow, hL, hxs⟩ := id hr.1
  obtain ⟨a1, a2, a3, a4, a5, a6, a7, a8, a9⟩ := sN_all (G := G) ha hn hWF
  have hq := new_at hP1 hD1 hg hz hc0 h1
  rw [hq, ← hE, ← a1] at hP1
  have hmono : ∀ v, VV M.2.1 v → VV (M.2.1 + 1) v := fun v h => VV_mono h (Nat.le_succ _) (by omega)
  refine ⟨⟨HW_mk F hr hP1 a2 (by show M.2.1 + 1 ≤ aT.length; omega) hS1 rfl (fun j => ?_), hS1, hr.2.2.1, hr.2.2.2.1, rfl, fun v hv => hmono v (hr.2.2.2.2.2.1 v hv), al1 ?_ (fun v hv => ⟨hmono v (hst v hv).1, (hst v hv).2⟩)⟩, ?_⟩
  · rw [gI_sN, if_neg (by omega)]
  · rw [vR_pos a6]
    exact ⟨a9, trivial⟩
  · rw [vR_pos a6, hq]
    show Value.ref _ = Value.ref (cad G x K i)
    unfold cad
    rw [if_neg (by omega), a3]
theorem go_new (F : Fr G p l s m args meth c k) (hr : RC G k M la sa s H locs ls st) {q x K i len ps c0 : Nat} {st' : List AV} (ha : aE M.2.1 = (x, K, i, len)) (hg : M.2.2.2 = 0) (hz : s.heap.size ≤ gB G + c0) (hc0 : cells + c0 = cu M) (hcR : cells + 1 ≤ R.cells) (hsR : slots + len ≤ R.slots) (hsa : sa = st') (hKc : K < 13) (hlink : Cond.classLink (cN (mO k)) q (cN K) ∈ GW) (hins : Cond.instantiable (cN K) (nfK K) ∈ GW) (hini : Cond.initialized (cN K) ∈ GW) (hd : decode (mB k) pc = .ok (.new q, 3))
    (kk : ∀ (H' : Heap) (locs' : List Loc), RC G k (sN M x K i) la (vR x K i :: st') s H' locs' ls ((vR x K i :: st').map (cv G)) → W p l e R s m args below meth c H' locs' (cells + 1) (slots + len) Q (F0 m (pc + 3) ls ((vR x K i :: st').map (cv G)))) : W p l e R s m args below meth c H locs cells slots Q (F0 m pc ls st) := by
  obtain ⟨hx, hb, hml, hret, hown, hts, hlk, hnm, hG0, hwm, hold, hsz⟩ := id F
  subst hsa
  have hin := RC_in hr
  obtain rfl := RC_eq hr
  have hn : M.2.1 < aT.length := by
    rcases Nat.lt_or_ge M.2.1 aT.length with h | h
    · exact h
    · have : aE M.2.1 = (0, 99, 0, 0) := by unfold aE; rw [List.getD_eq_getElem?_getD, List.getElem?_eq_none h]; rfl
      rw [this] at ha
      cases ha
      omega
  obtain ⟨hP, hWF, hN, hsize, hlow, hL, hxs⟩ := id hr.1
  obtain ⟨a1, a2, a3, a4, a5, a6, a7, a8, a9⟩ := sN_all (G := G) ha hn hWF
  have hlen := a7 hKc
  subst hlen
  have hE : ent G (sN M x K i) M.2.1 = .inr (K, (List.range (nfK K)).map fun s9 => cv G (rdv (sN M x K i) x K i s9 (tyS K s9))) := ent_obj ha hKc
  have hfs : ∀ j, j < nfK K → defaultValue (tyXs K j) = vp_V ((List.range (nfK K)).map fun s9 => cv G (rdv (sN M x K i) x K i s9 (tyS K s9))) j := by
    intro j hj
    unfold vp_V
    rw [List.getD_eq_getElem?_getD, List.getElem?_map, List.getElem?_range hj]
    show _ = cv G (rdv (sN M x K i) x K i j (tyS K j))
    have h9 := tyOKs hKc hj
    generalize tyXs K j = ty at h9
    generalize tyS K j = t at h9
    rcases t with _ | _ | _ | t
    · cases ty <;> first | (simp [tyOK] at h9; done) | (show Value.int 0 = Value.int (gI (sN M x K i) x K i j); rw [gI_sN, if_pos ⟨rfl, rfl, rfl⟩])
    · cases ty <;> first | (simp [tyOK] at h9; done) | (show Value.int 0 = Value.int (gI (sN M x K i) x K i j); rw [gI_sN, if_pos ⟨rfl, rfl, rfl⟩])
    · cases ty <;> first | (simp [tyOK] at h9; done) | (show Value.long 0 = Value.long (gJ (sN M x K i) x K i j); rw [gJ_sN, if_pos ⟨rfl, rfl, rfl⟩])
    · cases ty <;> first | (simp [tyOK] at h9; done) | (show Value.null = cv G (vR (xp K j x) t (gR (sN M x K i) x K i j)); rw [gR_sN, if_pos ⟨rfl, rfl, rfl⟩]; rfl)
  refine va_new hx hb hts (uws_in hKc) (tyXs K) (tyXs_ok hKc) hown (hts _ hlink) (hts _ hins) (hts _ hini) (Fr_K F) hP (WL_D G M) hr.2.1 (fun q hq => Nat.le_trans hsz hq) (vwCl_at hKc) hfs hcR hsR hd fun q9 H1 hP1 hD1 hS1 => ?_
  refine W_size fun h1 => ?_
  obtain ⟨b1, b2⟩ := new_end9 F hr hin ha hn hg hz hc0 hE hP1 hD1 hS1 h1
  have K1 := kk H1 locs b1
  rw [List.map_cons, ← b2] at K1
  exact K1
theorem go_newaI (F : Fr G p l s m args meth c k) (hr : RC G k M la sa s H locs ls st) {q x K i len ps c0 : Nat} {st' : List AV} (ha : aE M.2.1 = (x, K, i, len)) (hg : M.2.2.2 = 0) (hz : s.heap.size ≤ gB G + c0) (hc0 : cells + c0 = cu M) (hcR : cells + 1 ≤ R.cells) (hsR : slots + len ≤ R.slots) {n : Int32} (hsa : sa = vI n :: st') (hKc : K = 13) (hn0 : 0 ≤ n) (hnl : n.toNatClampNeg = len) (hd : decode (mB k) pc = .ok (.newarray .int, 2)) (harr : Cond.arrayClass .int ∈ GW)
    (kk : ∀ (H' : Heap) (locs' : List Loc), RC G k (sN M x K i) la (vR x K i :: st') s H' locs' ls ((vR x K i :: st').map (cv G)) → W p l e R s m args below meth c H' locs' (cells + 1) (slots + len) Q (F0 m (pc + 2) ls ((vR x K i :: st').map (cv G)))) : W p l e R s m args below meth c H locs cells slots Q (F0 m pc ls st) := by
  obtain ⟨hx, hb, hml, hret, hown, hts, hlk, hnm, hG0, hwm, hold, hsz⟩ := id F
  subst hsa
  subst hKc
  have hin := RC_in hr
  obtain rfl := RC_eq hr
  have hn : M.2.1 < aT.length := by
    rcases Nat.lt_or_ge M.2.1 aT.length with h | h
    · exact h
    · have : aE M.2.1 = (0, 99, 0, 0) := by unfold aE; rw [List.getD_eq_getElem?_getD, List.getElem?_eq_none h]; rfl
      rw [this] at ha
      cases ha
  obtain ⟨hP, hWF, hN, hsize, hlow, hL, hxs⟩ := id hr.1
  obtain ⟨a1, a2, a3, a4, a5, a6, a7, a8, a9⟩ := sN_all (G := G) ha hn hWF
  have hE : ent G (sN M x 13 i) M.2.1 = .inl (gY G 13, (len, .inl (fun _ => 0))) := by
    rw [ent_arr ha (by omega)]
    have e1 : gI (sN M x 13 i) x 13 i = fun _ => 0 := funext fun s9 => by rw [gI_sN, if_pos ⟨rfl, rfl, rfl⟩]
    rw [e1]
    rfl
  have hneg : ¬ n < 0 := by
    intro q
    rw [Int32.lt_iff_toInt_lt] at q
    rw [Int32.le_iff_toInt_le] at hn0
    omega
  refine va_newa (atype := .int) hx hb (hts _ harr) rfl (Fr_K F) hP (WL_D G M) hr.2.1 (fun q hq => Nat.le_trans hsz hq) (a0 := (len, .inl (fun _ => 0))) (fun cA => rfl) hneg hnl (by show len * _ ≤ _; simp only [newarray.typeOf, componentBytes]; omega) hcR hsR hd fun q9 cA H1 hK1 hP1 hD1 hS1 => ?_
  have hcA : cA = gY G 13 := RA_uni (hK1.2 9 _ rfl).2 ((Fr_K F).2 0 _ rfl).2
  subst hcA
  refine W_size fun h1 => ?_
  obtain ⟨b1, b2⟩ := new_end9 F hr (alt hin) ha hn hg hz hc0 hE hP1 hD1 hS1 h1
  have K1 := kk H1 locs b1
  rw [List.map_cons, ← b2] at K1
  exact K1
theorem go_newaJ (F : Fr G p l s m args meth c k) (hr : RC G k M la sa s H locs ls st) {q x K i len ps c0 : Nat} {st' : List AV} (ha : aE M.2.1 = (x, K, i, len)) (hg : M.2.2.2 = 0) (hz : s.heap.size ≤ gB G + c0) (hc0 : cells + c0 = cu M) (hcR : cells + 1 ≤ R.cells) (hsR : slots + len ≤ R.slots) {n : Int32} (hsa : sa = vI n :: st') (hKc : K = 14) (hn0 : 0 ≤ n) (hnl : n.toNatClampNeg = len) (hd : decode (mB k) pc = .ok (.newarray .long, 2)) (harr : Cond.arrayClass .long ∈ GW)
    (kk : ∀ (H' : Heap) (locs' : List Loc), RC G k (sN M x K i) la (vR x K i :: st') s H' locs' ls ((vR x K i :: st').map (cv G)) → W p l e R s m args below meth c H' locs' (cells + 1) (slots + len) Q (F0 m (pc + 2) ls ((vR x K i :: st').map (cv G)))) : W p l e R s m args below meth c H locs cells slots Q (F0 m pc ls st) := by
  obtain ⟨hx, hb, hml, hret, hown, hts, hlk, hnm, hG0, hwm, hold, hsz⟩ := id F
  subst hsa
  subst hKc
  have hin := RC_in hr
  obtain rfl := RC_eq hr
  have hn : M.2.1 < aT.length := by
    rcases Nat.lt_or_ge M.2.1 aT.length with h | h
    · exact h
    · have : aE M.2.1 = (0, 99, 0, 0) := by unfold aE; rw [List.getD_eq_getElem?_getD, List.getElem?_eq_none h]; rfl
      rw [this] at ha
      cases ha
  obtain ⟨hP, hWF, hN, hsize, hlow, hL, hxs⟩ := id hr.1
  obtain ⟨a1, a2, a3, a4, a5, a6, a7, a8, a9⟩ := sN_all (G := G) ha hn hWF
  have hE : ent G (sN M x 14 i) M.2.1 = .inl (gY G 14, (len, .inr (.inl (fun _ => 0)))) := by
    rw [ent_arr ha (by omega)]
    have e1 : gJ (sN M x 14 i) x 14 i = fun _ => 0 := funext fun s9 => by rw [gJ_sN, if_pos ⟨rfl, rfl, rfl⟩]
    rw [e1]
    rfl
  have hneg : ¬ n < 0 := by
    intro q
    rw [Int32.lt_iff_toInt_lt] at q
    rw [Int32.le_iff_toInt_le] at hn0
    omega
  refine va_newa (atype := .long) hx hb (hts _ harr) rfl (Fr_K F) hP (WL_D G M) hr.2.1 (fun q hq => Nat.le_trans hsz hq) (a0 := (len, .inr (.inl (fun _ => 0)))) (fun cA => rfl) hneg hnl (by show len * _ ≤ _; simp only [newarray.typeOf, componentBytes]; omega) hcR hsR hd fun q9 cA H1 hK1 hP1 hD1 hS1 => ?_
  have hcA : cA = gY G 14 := RA_uni (hK1.2 9 _ rfl).2 ((Fr_K F).2 1 _ rfl).2
  subst hcA
  refine W_size fun h1 => ?_
  obtain ⟨b1, b2⟩ := new_end9 F hr (alt hin) ha hn hg hz hc0 hE hP1 hD1 hS1 h1
  have K1 := kk H1 locs b1
  rw [List.map_cons, ← b2] at K1
  exact K1
theorem go_newq (F : Fr G p l s m args meth c k) (hr : RC G k M la sa s H locs ls st) {q x K i len ps c0 : Nat} {st' : List AV} (ha : aE M.2.1 = (x, K, i, len)) (hg : M.2.2.2 = 0) (hz : s.heap.size ≤ gB G + c0) (hc0 : cells + c0 = cu M) (hcR : cells + 1 ≤ R.cells) (hsR : slots + len ≤ R.slots) {n : Int32} {z : Nat} (hsa : sa = vI n :: st') (hKc : K = arK z) (hzz : z ∈ [0, 1, 4, 9, 10]) (hn0 : 0 ≤ n) (hnl : n.toNatClampNeg = len) (hlink : Cond.classLink (cN (mO k)) q (cN z) ∈ GW) (hd : decode (mB k) pc = .ok (.anewarray q, 3))
    (kk : ∀ (H' : Heap) (locs' : List Loc), RC G k (sN M x K i) la (vR x K i :: st') s H' locs' ls ((vR x K i :: st').map (cv G)) → W p l e R s m args below meth c H' locs' (cells + 1) (slots + len) Q (F0 m (pc + 3) ls ((vR x K i :: st').map (cv G)))) : W p l e R s m args below meth c H locs cells slots Q (F0 m pc ls st) := by
  obtain ⟨hx, hb, hml, hret, hown, hts, hlk, hnm, hG0, hwm, hold, hsz⟩ := id F
  subst hsa
  have hin := RC_in hr
  obtain rfl := RC_eq hr
  have hK16 : 16 ≤ K ∧ K < 21 ∧ aTy K = .object (cN z) := by
    simp only [List.mem_cons, List.not_mem_nil, or_false] at hzz
    rcases hzz with h | h | h | h | h <;> (subst h; subst hKc; exact ⟨by decide, by decide, rfl⟩)
  have hn : M.2.1 < aT.length := by
    rcases Nat.lt_or_ge M.2.1 aT.length with h | h
    · exact h
    · have : aE M.2.1 = (0, 99, 0, 0) := by unfold aE; rw [List.getD_eq_getElem?_getD, List.getElem?_eq_none h]; rfl
      rw [this] at ha
      cases ha
      omega
  obtain ⟨hP, hWF, hN, hsize, hlow, hL, hxs⟩ := id hr.1
  obtain ⟨a1, a2, a3, a4, a5, a6, a7, a8, a9⟩ := sN_all (G := G) ha hn hWF
  have hE : ent G (sN M x K i) M.2.1 = .inl (gY G K, (len, .inr (.inr (.inr (.inr (fun _ => none)))))) := by
    rw [ent_arr ha (by omega), if_neg (by omega), if_neg (by omega)]
    have e1 : (fun s9 => rfo G x (elK K - 3) (gR (sN M x K i) x K i s9)) = fun _ => none := funext fun s9 => by rw [gR_sN, if_pos ⟨rfl, rfl, rfl⟩]; rfl
    rw [e1]
  have hneg : ¬ n < 0 := by
    intro q
    rw [Int32.lt_iff_toInt_lt] at q
    rw [Int32.le_iff_toInt_le] at hn0
    omega
  have hAO : va_AO (cN z) s := va_AO.moved hwm.alike (hG0.2.2.2.2.1 z hzz)
  refine va_newq hx hb hown (hts _ hlink) hAO (Fr_K F) hP (WL_D G M) hr.2.1 (fun q hq => Nat.le_trans hsz hq) hneg hnl (by omega) hcR hsR hd fun q9 cA H1 hK1 hP1 hD1 hS1 => ?_
  have hty := tys_at (G := G) (k := K) ⟨by omega, by omega⟩
  rw [hK16.2.2] at hty
  have hcA : cA = gY G K := RA_uni (hK1.2 9 _ rfl).2 ((Fr_K F).2 _ _ hty).2
  subst hcA
  refine W_size fun h1 => ?_
  obtain ⟨b1, b2⟩ := new_end9 F hr (alt hin) ha hn hg hz hc0 hE hP1 hD1 hS1 h1
  have K1 := kk H1 locs b1
  rw [List.map_cons, ← b2] at K1
  exact K1
end Steps5
