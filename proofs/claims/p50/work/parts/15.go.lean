/-! one step of a frame, over the machine: all instructions that stay in the method -/
theorem go_inj {k pc : Nat} {la sa : List AV} {M : Mem} {z : Cfg} (h : go k pc la sa M = Sum.inr (Sum.inl z)) : z = (k, pc, la, sa, M) := by
  unfold go at h
  cases h
  rfl
theorem n_bad {z : Cfg} (h : bad = Sum.inr (Sum.inl z)) : False := by
  unfold bad at h
  cases h
theorem g_1I {k : Nat} {la sa : List AV} {M : Mem} {f : Int32 → AV} {pc : Nat} {z : Cfg} (h : (match sa with
    | .inl x :: st => go k pc la (f x :: st) M
    | _ => bad) = Sum.inr (Sum.inl z)) : ∃ x st, sa = vI x :: st ∧ z = (k, pc, la, f x :: st, M) := by
  split at h
  · exact ⟨_, _, rfl, go_inj h⟩
  · exact (n_bad h).elim
theorem g_1L {k : Nat} {la sa : List AV} {M : Mem} {f : Int64 → AV} {pc : Nat} {z : Cfg} (h : (match sa with
    | .inr (.inl x) :: st => go k pc la (f x :: st) M
    | _ => bad) = Sum.inr (Sum.inl z)) : ∃ x st, sa = vL x :: st ∧ z = (k, pc, la, f x :: st, M) := by
  split at h
  · exact ⟨_, _, rfl, go_inj h⟩
  · exact (n_bad h).elim
theorem g_2I {k : Nat} {la sa : List AV} {M : Mem} {f : Int32 → Int32 → AV} {pc : Nat} {z : Cfg} (h : (match sa with
    | .inl y :: .inl x :: st => if y = 0 then bad else go k pc la (f x y :: st) M
    | _ => bad) = Sum.inr (Sum.inl z)) : ∃ x y st, sa = vI y :: vI x :: st ∧ ¬ y = 0 ∧ z = (k, pc, la, f x y :: st, M) := by
  split at h
  · split at h
    · exact (n_bad h).elim
    · next hy => exact ⟨_, _, _, rfl, hy, go_inj h⟩
  · exact (n_bad h).elim
theorem g_2L {k : Nat} {la sa : List AV} {M : Mem} {f : Int64 → Int64 → AV} {pc : Nat} {z : Cfg} (h : (match sa with
    | .inr (.inl y) :: .inr (.inl x) :: st => if y = 0 then bad else go k pc la (f x y :: st) M
    | _ => bad) = Sum.inr (Sum.inl z)) : ∃ x y st, sa = vL y :: vL x :: st ∧ ¬ y = 0 ∧ z = (k, pc, la, f x y :: st, M) := by
  split at h
  · split at h
    · exact (n_bad h).elim
    · next hy => exact ⟨_, _, _, rfl, hy, go_inj h⟩
  · exact (n_bad h).elim
theorem g_cmpL {k : Nat} {la sa : List AV} {M : Mem} {pc : Nat} {z : Cfg} (h : (match sa with
    | .inr (.inl y) :: .inr (.inl x) :: st => go k pc la (vI (lg_cmp x y) :: st) M
    | _ => bad) = Sum.inr (Sum.inl z)) : ∃ x y st, sa = vL y :: vL x :: st ∧ z = (k, pc, la, vI (lg_cmp x y) :: st, M) := by
  split at h
  · exact ⟨_, _, _, rfl, go_inj h⟩
  · exact (n_bad h).elim
theorem g_c1 {k pc : Nat} {la sa : List AV} {M : Mem} {off : Int} {cd : Jvm.ClassFile.Cond} {z : Cfg} (h : (match sa with
    | .inl x :: st => nIf k pc la st M off (cmpI cd x 0)
    | _ => bad) = Sum.inr (Sum.inl z)) : ∃ x st, sa = vI x :: st ∧ nIf k pc la st M off (cmpI cd x 0) = Sum.inr (Sum.inl z) := by
  split at h
  · exact ⟨_, _, rfl, h⟩
  · exact (n_bad h).elim
theorem g_c2 {k pc : Nat} {la sa : List AV} {M : Mem} {off : Int} {cd : Jvm.ClassFile.Cond} {z : Cfg} (h : (match sa with
    | .inl y :: .inl x :: st => nIf k pc la st M off (cmpI cd x y)
    | _ => bad) = Sum.inr (Sum.inl z)) : ∃ x y st, sa = vI y :: vI x :: st ∧ nIf k pc la st M off (cmpI cd x y) = Sum.inr (Sum.inl z) := by
  split at h
  · exact ⟨_, _, _, rfl, h⟩
  · exact (n_bad h).elim
theorem g_goto {k pc : Nat} {la sa : List AV} {M : Mem} {off : Int} {z : Cfg} (h : (if 0 ≤ (pc : Int) + off then go k (tgt pc off) la sa M else bad) = Sum.inr (Sum.inl z)) : (pc : Int) + off = (tgt pc off : Int) ∧ z = (k, tgt pc off, la, sa, M) := by
  split at h
  · exact ⟨by unfold tgt; omega, go_inj h⟩
  · exact (n_bad h).elim
theorem g_Get {k pc q : Nat} {la sa : List AV} {M : Mem} {z : Cfg} (h : nGet k pc q la sa M = Sum.inr (Sum.inl z)) : ∃ K S t f ps x i st, pF (mO k) q = some (K, S, t, f, ps) ∧ sa = Sum.inr (Sum.inr (Sum.inl (some (x, K, i)))) :: st ∧ z = (k, pc + 3, la, rdv M x K i S t :: st, M) := by
  unfold nGet at h
  split at h
  · next K S t fp x K' i st hp =>
    split at h
    · next hK =>
      subst hK
      exact ⟨_, _, _, fp.1, fp.2, _, _, _, hp, rfl, go_inj h⟩
    · exact (n_bad h).elim
  · exact (n_bad h).elim
theorem g_Put {k pc q : Nat} {la sa : List AV} {M : Mem} {z : Cfg} (h : nPut k pc q la sa M = Sum.inr (Sum.inl z)) : ∃ K S t f ps v x i st M2, pF (mO k) q = some (K, S, t, f, ps) ∧ sa = v :: Sum.inr (Sum.inr (Sum.inl (some (x, K, i)))) :: st ∧ x < 4 ∧ (f = 0 ∨ (f = 1 ∧ K = mO k ∧ (mN k).name = "<init>")) ∧ wrv M x K i S t v = some M2 ∧ z = (k, pc + 3, la, st, M2) := by
  unfold nPut at h
  split at h
  · next K S t f ps v x K' i st hp =>
    split at h
    · next hK =>
      obtain ⟨h1, h2, h3⟩ := hK
      subst h1
      split at h
      · next M2 hw => exact ⟨_, _, _, _, _, _, _, _, _, M2, hp, rfl, h2, h3, hw, go_inj h⟩
      · exact (n_bad h).elim
    · exact (n_bad h).elim
  · exact (n_bad h).elim
theorem g_Aget {k pc : Nat} {la sa : List AV} {M : Mem} {t : Nat → Bool} {z : Cfg} (h : nAget k pc la sa M t = Sum.inr (Sum.inl z)) : ∃ j x K i st, sa = vI j :: Sum.inr (Sum.inr (Sum.inl (some (x, K, i)))) :: st ∧ t K = true ∧ inb j (lenA M x K i) ∧ z = (k, pc + 1, la, rdv M x K i j.toNatClampNeg (elK K) :: st, M) := by
  unfold nAget at h
  split at h
  · split at h
    · next hK => exact ⟨_, _, _, _, _, rfl, hK.1, hK.2, go_inj h⟩
    · exact (n_bad h).elim
  · exact (n_bad h).elim
theorem g_Aput {k pc : Nat} {la sa : List AV} {M : Mem} {t : Nat → Bool} {z : Cfg} (h : nAput k pc la sa M t = Sum.inr (Sum.inl z)) : ∃ v j x K i st M2, sa = v :: vI j :: Sum.inr (Sum.inr (Sum.inl (some (x, K, i)))) :: st ∧ t K = true ∧ x < 4 ∧ inb j (lenA M x K i) ∧ wrv M x K i j.toNatClampNeg (elK K) v = some M2 ∧ z = (k, pc + 1, la, st, M2) := by
  unfold nAput at h
  split at h
  · split at h
    · next hK =>
      split at h
      · next M2 hw => exact ⟨_, _, _, _, _, _, M2, rfl, hK.1, hK.2.1, hK.2.2, hw, go_inj h⟩
      · exact (n_bad h).elim
    · exact (n_bad h).elim
  · exact (n_bad h).elim
theorem g_Alen {k pc : Nat} {la sa : List AV} {M : Mem} {z : Cfg} (h : nAlen k pc la sa M = Sum.inr (Sum.inl z)) : ∃ x K i st, sa = Sum.inr (Sum.inr (Sum.inl (some (x, K, i)))) :: st ∧ 13 ≤ K ∧ z = (k, pc + 1, la, vI (Int32.ofNat (lenA M x K i)) :: st, M) := by
  unfold nAlen at h
  split at h
  · split at h
    · next hK => exact ⟨_, _, _, _, rfl, hK, go_inj h⟩
    · exact (n_bad h).elim
  · exact (n_bad h).elim
theorem g_New {k pc : Nat} {la st : List AV} {M : Mem} {K len : Nat} {z : Cfg} (h : nNew k pc la st M K len = Sum.inr (Sum.inl z)) : ∃ x i, aE M.2.1 = (x, K, i, len) ∧ M.2.2.2 = 0 ∧ z = (k, pc, la, vR x K i :: st, sN M x K i) := by
  unfold nNew at h
  split at h
  next x K' i len' ha =>
  split at h
  · next hK =>
    obtain ⟨h1, h2, h3⟩ := hK
    subst h1; subst h2
    exact ⟨_, _, ha, h3, go_inj h⟩
  · exact (n_bad h).elim
theorem g_NewC {k pc q : Nat} {la sa : List AV} {M : Mem} {z : Cfg} (h : nNewC k pc q la sa M = Sum.inr (Sum.inl z)) : ∃ K ps, pK (mO k) q = some (K, ps) ∧ K < 13 ∧ nNew k (pc + 3) la sa M K (nfK K) = Sum.inr (Sum.inl z) := by
  unfold nNewC at h
  split at h
  · next K ps hp =>
    split at h
    · next hK => exact ⟨_, _, hp, hK, h⟩
    · split at h
      · unfold hlt at h; cases h
      · exact (n_bad h).elim
  · exact (n_bad h).elim
theorem g_Arr {k pc : Nat} {la sa : List AV} {M : Mem} {K : Nat} {z : Cfg} (h : nArr k pc la sa M K = Sum.inr (Sum.inl z)) : ∃ n st, sa = vI n :: st ∧ 0 ≤ n ∧ nNew k pc la st M K n.toNatClampNeg = Sum.inr (Sum.inl z) := by
  unfold nArr at h
  split at h
  · split at h
    · next hn => exact ⟨_, _, rfl, hn, h⟩
    · exact (n_bad h).elim
  · exact (n_bad h).elim
theorem g_Mul {k pc q : Nat} {la sa : List AV} {M : Mem} {z : Cfg} (h : nMul k pc q la sa M = Sum.inr (Sum.inl z)) : ∃ x K i len st ps, sa = vI 4 :: vI 4 :: st ∧ pK (mO k) q = some (21, ps) ∧ M.2.1 ∈ mulA ∧ M.2.2.2 = 0 ∧ aE M.2.1 = (x, K, i, len) ∧ z = (k, pc, la, vR x K i :: st, mRows x K i 4 0 (sN M x K i)) := by
  unfold nMul at h
  split at h
  · split at h
    · next hc =>
      obtain ⟨h1, h2, h3, h4, h5⟩ := hc
      subst h1; subst h2
      split at h
      next x K i len ha =>
      cases hp : pK (mO k) q with
      | none => rw [hp] at h3; cases h3
      | some r =>
        rw [hp] at h3
        obtain ⟨r1, r2⟩ := r
        have h3' : r1 = 21 := Option.some.inj h3
        subst h3'
        exact ⟨_, _, _, _, _, _, rfl, rfl, h4, h5, ha, go_inj h⟩
    · exact (n_bad h).elim
  · exact (n_bad h).elim
theorem g_Spc {k pc q : Nat} {la sa : List AV} {M : Mem} {z : Cfg} (h : nSpc k pc q la sa M = Sum.inr (Sum.inl z)) : ∃ c9 ps x K i st, pM (mO k) q = some (c9, 4, ps) ∧ sa = Sum.inr (Sum.inr (Sum.inl (some (x, K, i)))) :: st ∧ st.length ≤ 4 ∧ z = (k, pc + 3, la, st, M) := by
  unfold nSpc at h
  split at h
  · next c9 ps r st hp =>
    obtain ⟨x, K, i⟩ := r
    split at h
    · next hl => exact ⟨_, _, _, _, _, _, hp, rfl, hl, go_inj h⟩
    · exact (n_bad h).elim
  · exfalso
    unfold nInv at h
    split at h
    · split at h
      · cases h
      · exact n_bad h
    · exact n_bad h
  · exfalso
    unfold nInv at h
    split at h
    · split at h
      · cases h
      · exact n_bad h
    · exact n_bad h
  · exact (n_bad h).elim
theorem g_Inv {k pc q kd : Nat} {la sa : List AV} {M : Mem} {z : Cfg} (h : nInv k pc q la sa M kd = Sum.inr (Sum.inl z)) : False := by
  unfold nInv at h
  split at h
  · split at h
    · cases h
    · exact n_bad h
  · exact n_bad h
section Steps8
variable {G : wG} {p : Program} {l : Launch} {e : Env} {R : Room} {s : State} {m : MethodId} {args : Array Value} {below : List Frame} {meth : Method} {c : Code} {H : Heap} {locs : List Loc} {cells slots : Nat} {Q : State → Prop}
variable {k pc : Nat} {la sa : List AV} {M : Mem} {ls : Array Slot} {st : List Value}
theorem VO_i1 {n x K i : Nat} {r : List AV} (h : ∀ v ∈ Sum.inr (Sum.inr (Sum.inl (some (x, K, i)))) :: r, VV n v ∧ NJ v) : x = 4 → i = 1 := by
  intro hx4
  have h1 : VO n x K i := (alh h).1
  rcases h1 with ⟨-, -, a⟩ | ⟨a, -⟩
  · exact a
  · omega
theorem ldl_lvl {la : List AV} {i : Nat} {a : AV} (h : ldl la i = a) (hn : NJ a) : (i, cv G a) ∈ lvl G 0 la := by
  unfold ldl at h
  rw [List.getD_eq_getElem?_getD] at h
  cases h1 : la[i]? with
  | none => rw [h1] at h; rw [← h] at hn; exact hn.elim
  | some b =>
    rw [h1] at h
    have e : b = a := h
    rw [e] at h1
    have h2 := lvl_mem (G := G) la 0 i a h1 hn
    rw [Nat.zero_add] at h2
    exact h2
theorem cat1 {a : AV} (h : NJ a) (h2 : isL a = false) : (cv G a).category = 1 := by
  rw [cv_cat h, h2]
  rfl
theorem acmp_iff {n : Nat} {r r' : Option (Nat × Nat × Nat)} (hb : G.2.1 < gB G) (h : VV n (Sum.inr (Sum.inr (Sum.inl r)))) (h' : VV n (Sum.inr (Sum.inr (Sum.inl r')))) : cv G (Sum.inr (Sum.inr (Sum.inl r))) = va_rf (r.map fun z => cad G z.1 z.2.1 z.2.2) ∧ cv G (Sum.inr (Sum.inr (Sum.inl r'))) = va_rf (r'.map fun z => cad G z.1 z.2.1 z.2.2) ∧ ((r'.map fun z => cad G z.1 z.2.1 z.2.2) = (r.map fun z => cad G z.1 z.2.1 z.2.2) ↔ r' = r) := by
  refine ⟨by rcases r with _ | ⟨x, k9, i9⟩ <;> rfl, by rcases r' with _ | ⟨x, k9, i9⟩ <;> rfl, ⟨fun q => ?_, fun q => by rw [q]⟩⟩
  rcases r with _ | ⟨x, k9, i9⟩ <;> rcases r' with _ | ⟨x', k', i'⟩
  · rfl
  · cases q
  · cases q
  · have q1 : cad G x' k' i' = cad G x k9 i9 := Option.some.inj q
    rw [cad_inj h' h hb q1]
theorem go_sound (F : Fr G p l s m args meth c k) (hr : RC G k M la sa s H locs ls st) {i : Instr} {len k' pc' c0 s0 : Nat} {la' sa' : List AV} {M' : Mem} (hd : decode (mB k) pc = .ok (i, len)) (hl : iln i len = true) (h : nxi k pc la sa M i = Sum.inr (Sum.inl (k', pc', la', sa', M'))) (hRf : 1 ≤ R.frames) (hRq : 30 ≤ R.locals) (hz : s.heap.size ≤ gB G + c0) (hc0 : cells + c0 = cu M) (hs0 : slots + s0 = su M) (hRc : cu M' ≤ R.cells + c0) (hRs : su M' ≤ R.slots + s0)
    (kk : k' = k → ∀ (ls' : Array Slot) (H' : Heap) (locs' : List Loc) (cells' slots' : Nat), RC G k M' la' sa' s H' locs' ls' (sa'.map (cv G)) → cells' + c0 = cu M' → slots' + s0 = su M' → W p l e R s m args below meth c H' locs' cells' slots' Q (F0 m pc' ls' (sa'.map (cv G)))) : W p l e R s m args below meth c H locs cells slots Q (F0 m pc ls st) := by
  obtain ⟨hx, hb, hml, hret, hown, hts, hlk, hnm, hG0, hwm, hold, hsz⟩ := id F
  have hin := RC_in hr
  have hst := RC_eq hr
  -- a step that changes the stack alone
  have stk : ∀ {sb : List AV} {pc2 : Nat}, (k', pc', la', sa', M') = (k, pc2, la, sb, M) → (∀ v ∈ sb, VV M.2.1 v ∧ NJ v) → W p l e R s m args below meth c H locs cells slots Q (F0 m pc2 ls (sb.map (cv G))) := by
    intro sb pc2 he hsb
    cases he
    exact kk rfl ls H locs cells slots (RC_st hr hsb) hc0 hs0
  -- a step that changes the locals
  have lcl : ∀ {sb lb : List AV} {pc2 : Nat} {ls' : Array Slot}, (k', pc', la', sa', M') = (k, pc2, lb, sb, M) → RC G k M lb sb s H locs ls' (sb.map (cv G)) → W p l e R s m args below meth c H locs cells slots Q (F0 m pc2 ls' (sb.map (cv G))) := by
    intro sb lb pc2 ls' he hsb
    cases he
    exact kk rfl ls' H locs cells slots hsb hc0 hs0
  have wrt : ∀ {M2 : Mem} {sb : List AV} {pc2 : Nat} (H' : Heap) (locs' : List Loc), (k', pc', la', sa', M') = (k, pc2, la, sb, M2) → M2.2 = M.2 → RC G k M2 la sb s H' locs' ls (sb.map (cv G)) → W p l e R s m args below meth c H' locs' cells slots Q (F0 m pc2 ls (sb.map (cv G))) := by
    intro M2 sb pc2 H' locs' he h2 hsb
    cases he
    exact kk rfl ls H' locs' cells slots hsb (by unfold cu; rw [h2]; exact hc0) (by unfold su; rw [h2]; exact hs0)
  have new1 : ∀ {x K i2 len2 : Nat} {sb : List AV} {pc2 : Nat} (H' : Heap) (locs' : List Loc), aE M.2.1 = (x, K, i2, len2) → (k', pc', la', sa', M') = (k, pc2, la, vR x K i2 :: sb, sN M x K i2) → RC G k (sN M x K i2) la (vR x K i2 :: sb) s H' locs' ls ((vR x K i2 :: sb).map (cv G)) → W p l e R s m args below meth c H' locs' (cells + 1) (slots + len2) Q (F0 m pc2 ls ((vR x K i2 :: sb).map (cv G))) := by
    intro x K i2 len2 sb pc2 H' locs' ha he hsb
    cases he
    refine kk rfl ls H' locs' (cells + 1) (slots + len2) hsb ?_ ?_
    · show cells + 1 + c0 = M.2.1 + 1 + M.2.2.2
      unfold cu at hc0
      omega
    · show slots + len2 + s0 = SL (M.2.1 + 1) + 6 * M.2.2.2
      rw [sl_range, ha]
      unfold su at hs0
      dsimp only
      omega
  have rm1 : ∀ {x K i2 len2 : Nat} {sb : List AV} {pc2 : Nat}, aE M.2.1 = (x, K, i2, len2) → (k', pc', la', sa', M') = (k, pc2, la, vR x K i2 :: sb, sN M x K i2) → cells + 1 ≤ R.cells ∧ slots + len2 ≤ R.slots := by
    intro x K i2 len2 sb pc2 ha he
    cases he
    have e1 : cu (sN M x K i2) = cu M + 1 := by unfold cu; show M.2.1 + 1 + M.2.2.2 = _; omega
    have e2 : su (sN M x K i2) = su M + len2 := by
      unfold su
      show SL (M.2.1 + 1) + 6 * M.2.2.2 = _
      rw [sl_range, ha]
      dsimp only
      omega
    omega
  cases i
  case aaload =>
    have hl9 := of_decide_eq_true hl; subst hl9; obtain ⟨j, x, K, i9, sb, h0, ht, hj, h2⟩ := g_Aget h; have hin2 := hin; rw [h0] at hin2; exact go_aget (t := fun _ => true) F hr h0 hj hd (VO_i1 (alt hin2)) (Or.inr (Or.inr (Or.inr ⟨rfl, by (simp only [Bool.and_eq_true, decide_eq_true_eq] at ht; exact ht)⟩))) (fun hrc => stk h2 (RC_in hrc))
  case aastore =>
    have hl9 := of_decide_eq_true hl; subst hl9; obtain ⟨v, j, x, K, i9, sb, M2, h0, ht, hx4, hj, hw, h2⟩ := g_Aput h; have hin2 := hin; rw [h0] at hin2; exact go_aput F hr h0 hx4 hj hw hd (Or.inr (Or.inr (Or.inr ⟨rfl, by (simp only [Bool.and_eq_true, decide_eq_true_eq] at ht; exact ht)⟩))) (fun H' locs' hrc => wrt H' locs' h2 (wr_all hw (hn0_of hw hx4 (alh hin2).1)).1 hrc)
  case aconst_null =>
    have hl9 := of_decide_eq_true hl
    subst hl9
    subst hst
    exact lv_null hx hb hd (stk (go_inj h) (al1 nN1 hin))
  case aload index =>
    have hl9 := of_decide_eq_true hl; subst hl9; subst hst; obtain ⟨r, h1, h2⟩ := g_Ald h; obtain ⟨a1, a2, -⟩ := ldl_at (G := G) hr.2.2.1 h1 trivial; have K := stk h2 (al1 ⟨hr.2.2.2.2.2.1 _ a2, trivial⟩ hin); rcases r with _ | ⟨x1, k1, i1⟩ <;> first | (exact lv_aloadN hx hb hd a1 K) | (exact lv_aload hx hb hd a1 K)
  case aload_n n =>
    have hl9 := of_decide_eq_true hl; subst hl9; subst hst; obtain ⟨r, h1, h2⟩ := g_Ald h; obtain ⟨a1, a2, -⟩ := ldl_at (G := G) hr.2.2.1 h1 trivial; have K := stk h2 (al1 ⟨hr.2.2.2.2.2.1 _ a2, trivial⟩ hin); rcases r with _ | ⟨x1, k1, i1⟩ <;> first | (exact lv_aload_nN hx hb hd rfl a1 K) | (exact lv_aload_n hx hb hd rfl a1 K)
  case anewarray index =>
    have hl9 := of_decide_eq_true hl; subst hl9; unfold nxi at h
    dsimp only at h
    split at h
    · next z9 ps hp =>
      split at h
      · next hz9 =>
        obtain ⟨n, sb, h0, hn, h1⟩ := g_Arr h
        obtain ⟨x, i9, ha, hg, h2⟩ := g_New h1
        obtain ⟨r1, r2⟩ := rm1 ha h2
        have h13 : z9 < 13 := by
          simp only [List.mem_cons, List.not_mem_nil, or_false] at hz9
          omega
        exact go_newq (ps := 0) F hr ha hg hz hc0 r1 r2 h0 rfl hz9 hn rfl ((pK_ok hp).1 h13) hd (fun H' locs' hrc => new1 H' locs' ha h2 hrc)
      · exact (n_bad h).elim
    · exact (n_bad h).elim
  case areturn =>
    exfalso; unfold nxi at h; dsimp only at h; unfold nAret at h; (repeat' split at h); all_goals first | (exact n_bad h) | (unfold hlt at h; cases h)
  case arraylength =>
    have hl9 := of_decide_eq_true hl
    subst hl9
    obtain ⟨x, K, i9, sb, h0, hK, h2⟩ := g_Alen h
    have hin2 := hin
    rw [h0] at hin2
    exact go_alen F hr h0 hK hd (VO_i1 hin2) (fun hrc => stk h2 (RC_in hrc))
  case astore index =>
    have hl9 := of_decide_eq_true hl; subst hl9; obtain ⟨r, sb, h0, hi, h2⟩ := g_Ast h; subst h0; subst hst; have hv := alh hin; rcases r with _ | ⟨x1, k1, i1⟩ <;> first | (exact lv_astoreN hx hb hd hr.2.2.1 (by rw [← hr.2.2.2.1]; exact hi) rfl (fun ls' hl' => lcl h2 (RC_s1 hr hi hv (alt hin) hl'))) | (exact lv_astore hx hb hd hr.2.2.1 (by rw [← hr.2.2.2.1]; exact hi) rfl (fun ls' hl' => lcl h2 (RC_s1 hr hi hv (alt hin) hl')))
  case astore_n n =>
    have hl9 := of_decide_eq_true hl; subst hl9; obtain ⟨r, sb, h0, hi, h2⟩ := g_Ast h; subst h0; subst hst; have hv := alh hin; rcases r with _ | ⟨x1, k1, i1⟩ <;> first | (exact lv_astore_nN hx hb hd rfl hr.2.2.1 (by rw [← hr.2.2.2.1]; exact hi) rfl (fun ls' hl' => lcl h2 (RC_s1 hr hi hv (alt hin) hl'))) | (exact lv_astore_n hx hb hd rfl hr.2.2.1 (by rw [← hr.2.2.2.1]; exact hi) rfl (fun ls' hl' => lcl h2 (RC_s1 hr hi hv (alt hin) hl')))
  case athrow =>
    exact (n_bad h).elim
  case baload =>
    exact (n_bad h).elim
  case bastore =>
    exact (n_bad h).elim
  case bipush byte =>
    have hl9 := of_decide_eq_true hl
    subst hl9
    subst hst
    exact lv_bipush hx hb hd rfl (stk (go_inj h) (al1 nI1 hin))
  case caload =>
    exact (n_bad h).elim
  case castore =>
    exact (n_bad h).elim
  case checkcast index =>
    exact (n_bad h).elim
  case d2f =>
    exact (n_bad h).elim
  case d2i =>
    exact (n_bad h).elim
  case d2l =>
    exact (n_bad h).elim
  case dadd =>
    exact (n_bad h).elim
  case daload =>
    exact (n_bad h).elim
  case dastore =>
    exact (n_bad h).elim
  case dcmp op =>
    exact (n_bad h).elim
  case dconst d =>
    exact (n_bad h).elim
  case ddiv =>
    exact (n_bad h).elim
  case dload index =>
    exact (n_bad h).elim
  case dload_n n =>
    exact (n_bad h).elim
  case dmul =>
    exact (n_bad h).elim
  case dneg =>
    exact (n_bad h).elim
  case drem =>
    exact (n_bad h).elim
  case dreturn =>
    exact (n_bad h).elim
  case dstore index =>
    exact (n_bad h).elim
  case dstore_n n =>
    exact (n_bad h).elim
  case dsub =>
    exact (n_bad h).elim
  case dup =>
    have hl9 := of_decide_eq_true hl
    subst hl9
    obtain ⟨a, sb, h0, ha, h2⟩ := g_Dup h
    subst h0
    subst hst
    exact lv_dup hx hb hd (cat1 (alh hin).2 ha) (stk h2 (al1 (alh hin) hin))
  case dup_x1 =>
    exact (n_bad h).elim
  case dup_x2 =>
    exact (n_bad h).elim
  case dup2 =>
    have hl9 := of_decide_eq_true hl
    subst hl9
    obtain ⟨a, b, sb, h0, ha, hb9, h2⟩ := g_Dup2 h
    subst h0
    subst hst
    exact lv_dup2_11 hx hb hd (cat1 (alh hin).2 ha) (cat1 (alh (alt hin)).2 hb9) (stk h2 (al1 (alh hin) (al1 (alh (alt hin)) hin)))
  case dup2_x1 =>
    exact (n_bad h).elim
  case dup2_x2 =>
    exact (n_bad h).elim
  case f2d =>
    exact (n_bad h).elim
  case f2i =>
    exact (n_bad h).elim
  case f2l =>
    exact (n_bad h).elim
  case fadd =>
    exact (n_bad h).elim
  case faload =>
    exact (n_bad h).elim
  case fastore =>
    exact (n_bad h).elim
  case fcmp op =>
    exact (n_bad h).elim
  case fconst f =>
    exact (n_bad h).elim
  case fdiv =>
    exact (n_bad h).elim
  case fload index =>
    exact (n_bad h).elim
  case fload_n n =>
    exact (n_bad h).elim
  case fmul =>
    exact (n_bad h).elim
  case fneg =>
    exact (n_bad h).elim
  case frem =>
    exact (n_bad h).elim
  case freturn =>
    exact (n_bad h).elim
  case fstore index =>
    exact (n_bad h).elim
  case fstore_n n =>
    exact (n_bad h).elim
  case fsub =>
    exact (n_bad h).elim
  case getfield index =>
    have hl9 := of_decide_eq_true hl
    subst hl9
    obtain ⟨K, S, t, f, ps, x, i9, sb, hp, h0, h2⟩ := g_Get h
    exact go_get F hr hp h0 hd (fun hrc => stk h2 (RC_in hrc))
  case getstatic index =>
    exact (n_bad h).elim
  case goto offset =>
    have hl9 := of_decide_eq_true hl
    subst hl9
    subst hst
    obtain ⟨ht, h2⟩ := g_goto h
    exact lv_goto hx hb hd ht (stk h2 hin)
  case goto_w offset =>
    exact (n_bad h).elim
  case i2b =>
    exact (n_bad h).elim
  case i2c =>
    exact (n_bad h).elim
  case i2d =>
    exact (n_bad h).elim
  case i2f =>
    exact (n_bad h).elim
  case i2l =>
    have hl9 := of_decide_eq_true hl
    subst hl9
    obtain ⟨x, sb, h0, h2⟩ := g_1I (f := fun x => vL x.toInt64) h
    subst h0
    subst hst
    exact lv_i2l hx hb hd rfl (stk h2 (al1 nL1 (alt hin)))
  case i2s =>
    exact (n_bad h).elim
  case iadd =>
    have hl9 := of_decide_eq_true hl
    subst hl9
    obtain ⟨x, y, sb, h0, h2⟩ := g_II h
    subst h0
    subst hst
    exact lv_iadd hx hb hd (stk h2 (al1 nI1 (alt (alt hin))))
  case iaload =>
    have hl9 := of_decide_eq_true hl
    subst hl9
    obtain ⟨j, x, K, i9, sb, h0, ht, hj, h2⟩ := g_Aget h
    have hin2 := hin
    rw [h0] at hin2
    exact go_aget (t := fun _ => true) F hr h0 hj hd (VO_i1 (alt hin2)) (Or.inl ⟨rfl, of_decide_eq_true ht⟩) (fun hrc => stk h2 (RC_in hrc))
  case iand =>
    have hl9 := of_decide_eq_true hl
    subst hl9
    obtain ⟨x, y, sb, h0, h2⟩ := g_II h
    subst h0
    subst hst
    exact lv_iand hx hb hd (stk h2 (al1 nI1 (alt (alt hin))))
  case iastore =>
    have hl9 := of_decide_eq_true hl
    subst hl9
    obtain ⟨v, j, x, K, i9, sb, M2, h0, ht, hx4, hj, hw, h2⟩ := g_Aput h
    have hin2 := hin
    rw [h0] at hin2
    exact go_aput F hr h0 hx4 hj hw hd (Or.inl ⟨rfl, of_decide_eq_true ht⟩) (fun H' locs' hrc => wrt H' locs' h2 (wr_all hw (hn0_of hw hx4 (alh hin2).1)).1 hrc)
  case iconst i =>
    have hl9 := of_decide_eq_true hl
    subst hl9
    subst hst
    exact lv_iconst hx hb hd rfl (stk (go_inj h) (al1 nI1 hin))
  case idiv =>
    have hl9 := of_decide_eq_true hl
    subst hl9
    obtain ⟨x, y, sb, h0, hy, h2⟩ := g_2I (f := fun x y => vI (x / y)) h
    subst h0
    subst hst
    exact lv_idiv hx hb hd hy (stk h2 (al1 nI1 (alt (alt hin))))
  case if_acmp cond offset =>
    have hl9 := of_decide_eq_true hl; subst hl9; cases cond
    · obtain ⟨r, r', sb, h0, h1⟩ := g_Acmp h
      obtain ⟨ht, h2⟩ := g_If h1
      subst h0; subst hst
      obtain ⟨e1, e2, e3⟩ := acmp_iff (G := G) hG0.2.2.1 (alh hin).1 (alh (alt hin)).1
      show W p l e R s m args below meth c H locs cells slots Q (F0 m pc ls (cv G (Sum.inr (Sum.inr (Sum.inl r))) :: cv G (Sum.inr (Sum.inr (Sum.inl r'))) :: sb.map (cv G)))
      rw [e1, e2]
      refine lv_acmp_eq hx hb hd ht (fun q => ?_) (fun q => ?_)
      · rw [decide_eq_true (e3.mp q)] at h2
        exact stk h2 (alt (alt hin))
      · rw [decide_eq_false (fun z => q (e3.mpr z))] at h2
        exact stk h2 (alt (alt hin))
    · obtain ⟨r, r', sb, h0, h1⟩ := g_Acmp h
      obtain ⟨ht, h2⟩ := g_If h1
      subst h0; subst hst
      obtain ⟨e1, e2, e3⟩ := acmp_iff (G := G) hG0.2.2.1 (alh hin).1 (alh (alt hin)).1
      show W p l e R s m args below meth c H locs cells slots Q (F0 m pc ls (cv G (Sum.inr (Sum.inr (Sum.inl r))) :: cv G (Sum.inr (Sum.inr (Sum.inl r'))) :: sb.map (cv G)))
      rw [e1, e2]
      refine lv_acmp_ne hx hb hd ht (fun q => ?_) (fun q => ?_)
      · rw [decide_eq_false (fun z => q (e3.mpr z))] at h2
        exact stk h2 (alt (alt hin))
      · rw [decide_eq_true (e3.mp q)] at h2
        exact stk h2 (alt (alt hin))
  case if_icmp cond offset =>
    have hl9 := of_decide_eq_true hl
    subst hl9
    obtain ⟨x, y, sb, h0, h1⟩ := g_c2 h
    obtain ⟨ht, h2⟩ := g_If h1
    have hin2 := hin
    rw [h0] at hin2
    exact go_icmp F hr h0 hd ht (stk h2 (alt (alt hin2)))
  case ifCond cond offset =>
    have hl9 := of_decide_eq_true hl
    subst hl9
    obtain ⟨x, sb, h0, h1⟩ := g_c1 h
    obtain ⟨ht, h2⟩ := g_If h1
    have hin2 := hin
    rw [h0] at hin2
    exact go_cond F hr h0 hd ht (stk h2 (alt hin2))
  case ifnonnull offset =>
    have hl9 := of_decide_eq_true hl; subst hl9; obtain ⟨r, sb, h0, h1⟩ := g_Ref h; obtain ⟨ht, h2⟩ := g_If h1; subst h0; subst hst; rcases r with _ | ⟨x1, k1, i1⟩ <;> first | (exact lv_ifnonnullN hx hb hd (stk h2 (alt hin))) | (exact lv_ifnonnull hx hb hd ht (stk h2 (alt hin)))
  case ifnull offset =>
    have hl9 := of_decide_eq_true hl; subst hl9; obtain ⟨r, sb, h0, h1⟩ := g_Ref h; obtain ⟨ht, h2⟩ := g_If h1; subst h0; subst hst; rcases r with _ | ⟨x1, k1, i1⟩ <;> first | (exact lv_ifnullN hx hb hd ht (stk h2 (alt hin))) | (exact lv_ifnull hx hb hd (stk h2 (alt hin)))
  case iinc index const =>
    have hl9 := of_decide_eq_true hl; subst hl9; subst hst; obtain ⟨x, h1, h2⟩ := g_Inc h; obtain ⟨a1, a2, hi⟩ := ldl_at (G := G) hr.2.2.1 h1 trivial; obtain ⟨k9, h9⟩ := List.getElem?_of_mem (ldl_lvl (G := G) h1 trivial); exact lv_iinc hx hb hd hr.2.2.1 h9 rfl (by rw [← hr.2.2.2.1]; exact hi) rfl (fun ls' hl' => lcl h2 (RC_s1 hr hi nI1 hin hl'))
  case iload index =>
    have hl9 := of_decide_eq_true hl
    subst hl9
    subst hst
    obtain ⟨x, h1, h2⟩ := g_Ild h
    obtain ⟨a1, a2, -⟩ := ldl_at (G := G) hr.2.2.1 h1 trivial
    exact lv_iload hx hb hd a1 (stk h2 (al1 ⟨hr.2.2.2.2.2.1 _ a2, trivial⟩ hin))
  case iload_n n =>
    have hl9 := of_decide_eq_true hl
    subst hl9
    subst hst
    obtain ⟨x, h1, h2⟩ := g_Ild h
    obtain ⟨a1, a2, -⟩ := ldl_at (G := G) hr.2.2.1 h1 trivial
    exact lv_iload_n hx hb hd rfl a1 (stk h2 (al1 ⟨hr.2.2.2.2.2.1 _ a2, trivial⟩ hin))
  case imul =>
    have hl9 := of_decide_eq_true hl
    subst hl9
    obtain ⟨x, y, sb, h0, h2⟩ := g_II h
    subst h0
    subst hst
    exact lv_imul hx hb hd (stk h2 (al1 nI1 (alt (alt hin))))
  case ineg =>
    have hl9 := of_decide_eq_true hl
    subst hl9
    obtain ⟨x, sb, h0, h2⟩ := g_1I (f := fun x => vI (-x)) h
    subst h0
    subst hst
    exact lv_ineg hx hb hd (stk h2 (al1 nI1 (alt hin)))
  case instanceof index =>
    exact (n_bad h).elim
  case invokedynamic index =>
    exact (n_bad h).elim
  case invokeinterface index count =>
    exact (n_bad h).elim
  case invokespecial index =>
    have hl9 := of_decide_eq_true hl
    subst hl9
    obtain ⟨c9, ps, x, K, i9, sb, hp, h0, hl4, h2⟩ := g_Spc h
    exact go_obj F hr hp ((pM_ok hp).1 rfl) h0 hl4 hRf hRq hd (fun hrc => stk h2 (RC_in hrc))
  case invokestatic index =>
    exact (g_Inv h).elim
  case invokevirtual index =>
    exact (g_Inv h).elim
  case ior =>
    exact (n_bad h).elim
  case irem =>
    have hl9 := of_decide_eq_true hl
    subst hl9
    obtain ⟨x, y, sb, h0, hy, h2⟩ := g_2I (f := fun x y => vI (x - x / y * y)) h
    subst h0
    subst hst
    exact lv_irem hx hb hd hy (stk h2 (al1 nI1 (alt (alt hin))))
  case ireturn =>
    exfalso; unfold nxi at h; dsimp only at h; unfold nRet at h; (repeat' split at h); all_goals first | (exact n_bad h) | (unfold hlt at h; cases h)
  case ishl =>
    exact (n_bad h).elim
  case ishr =>
    exact (n_bad h).elim
  case istore index =>
    have hl9 := of_decide_eq_true hl
    subst hl9
    obtain ⟨x, sb, h0, hi, h2⟩ := g_Ist h
    subst h0
    subst hst
    exact lv_istore hx hb hd hr.2.2.1 (by rw [← hr.2.2.2.1]; exact hi) rfl (fun ls' hl' => lcl h2 (RC_s1 hr hi nI1 (alt hin) hl'))
  case istore_n n =>
    have hl9 := of_decide_eq_true hl
    subst hl9
    obtain ⟨x, sb, h0, hi, h2⟩ := g_Ist h
    subst h0
    subst hst
    exact lv_istore_n hx hb hd rfl hr.2.2.1 (by rw [← hr.2.2.2.1]; exact hi) rfl (fun ls' hl' => lcl h2 (RC_s1 hr hi nI1 (alt hin) hl'))
  case isub =>
    have hl9 := of_decide_eq_true hl
    subst hl9
    obtain ⟨x, y, sb, h0, h2⟩ := g_II h
    subst h0
    subst hst
    exact lv_isub hx hb hd (stk h2 (al1 nI1 (alt (alt hin))))
  case iushr =>
    have hl9 := of_decide_eq_true hl
    subst hl9
    obtain ⟨x, y, sb, h0, h2⟩ := g_II h
    subst h0
    subst hst
    exact lv_iushr hx hb hd rfl (stk h2 (al1 nI1 (alt (alt hin))))
  case ixor =>
    have hl9 := of_decide_eq_true hl
    subst hl9
    obtain ⟨x, y, sb, h0, h2⟩ := g_II h
    subst h0
    subst hst
    exact lv_ixor hx hb hd (stk h2 (al1 nI1 (alt (alt hin))))
  case jsr offset =>
    exact (n_bad h).elim
  case jsr_w offset =>
    exact (n_bad h).elim
  case l2d =>
    exact (n_bad h).elim
  case l2f =>
    exact (n_bad h).elim
  case l2i =>
    have hl9 := of_decide_eq_true hl
    subst hl9
    obtain ⟨x, sb, h0, h2⟩ := g_1L (f := fun x => vI x.toInt32) h
    subst h0
    subst hst
    exact lv_l2i hx hb hd rfl (stk h2 (al1 nI1 (alt hin)))
  case ladd =>
    have hl9 := of_decide_eq_true hl
    subst hl9
    obtain ⟨x, y, sb, h0, h2⟩ := g_LL h
    subst h0
    subst hst
    exact lv_ladd hx hb hd (stk h2 (al1 nL1 (alt (alt hin))))
  case laload =>
    have hl9 := of_decide_eq_true hl
    subst hl9
    obtain ⟨j, x, K, i9, sb, h0, ht, hj, h2⟩ := g_Aget h
    have hin2 := hin
    rw [h0] at hin2
    exact go_aget (t := fun _ => true) F hr h0 hj hd (VO_i1 (alt hin2)) (Or.inr (Or.inr (Or.inl ⟨rfl, of_decide_eq_true ht⟩))) (fun hrc => stk h2 (RC_in hrc))
  case land =>
    exact (n_bad h).elim
  case lastore =>
    have hl9 := of_decide_eq_true hl
    subst hl9
    obtain ⟨v, j, x, K, i9, sb, M2, h0, ht, hx4, hj, hw, h2⟩ := g_Aput h
    have hin2 := hin
    rw [h0] at hin2
    exact go_aput F hr h0 hx4 hj hw hd (Or.inr (Or.inr (Or.inl ⟨rfl, of_decide_eq_true ht⟩))) (fun H' locs' hrc => wrt H' locs' h2 (wr_all hw (hn0_of hw hx4 (alh hin2).1)).1 hrc)
  case lcmp =>
    have hl9 := of_decide_eq_true hl
    subst hl9
    obtain ⟨x, y, sb, h0, h2⟩ := g_cmpL h
    subst h0
    subst hst
    exact W.lcmp hx hb hd (stk h2 (al1 nI1 (alt (alt hin))))
  case lconst l =>
    have hl9 := of_decide_eq_true hl
    subst hl9
    subst hst
    exact lv_lconst hx hb hd rfl (stk (go_inj h) (al1 nL1 hin))
  case ldc index =>
    have hl9 := of_decide_eq_true hl; subst hl9; subst hst; unfold nxi at h; dsimp only at h; split at h <;> first | (exact (n_bad h).elim) | (rename_i v ps hp; exact lv_ldc hx hb hown (hts _ (pC_ok hp)) hd (stk (go_inj h) (al1 nI1 hin)))
  case ldc_w index =>
    exact (n_bad h).elim
  case ldc2_w index =>
    have hl9 := of_decide_eq_true hl; subst hl9; subst hst; unfold nxi at h; dsimp only at h; split at h <;> first | (exact (n_bad h).elim) | (rename_i v ps hp; exact lv_ldc2 hx hb hown (hts _ (pL_ok hp)) hd (stk (go_inj h) (al1 nL1 hin)))
  case ldiv =>
    have hl9 := of_decide_eq_true hl
    subst hl9
    obtain ⟨x, y, sb, h0, hy, h2⟩ := g_2L (f := fun x y => vL (x / y)) h
    subst h0
    subst hst
    exact lv_ldiv hx hb hd hy (stk h2 (al1 nL1 (alt (alt hin))))
  case lload index =>
    have hl9 := of_decide_eq_true hl
    subst hl9
    subst hst
    obtain ⟨x, h1, h2⟩ := g_Lld h
    obtain ⟨a1, a2, -⟩ := ldl_at (G := G) hr.2.2.1 h1 trivial
    exact lv_lload hx hb hd a1 (stk h2 (al1 ⟨hr.2.2.2.2.2.1 _ a2, trivial⟩ hin))
  case lload_n n =>
    have hl9 := of_decide_eq_true hl
    subst hl9
    subst hst
    obtain ⟨x, h1, h2⟩ := g_Lld h
    obtain ⟨a1, a2, -⟩ := ldl_at (G := G) hr.2.2.1 h1 trivial
    exact lv_lload_n hx hb hd rfl a1 (stk h2 (al1 ⟨hr.2.2.2.2.2.1 _ a2, trivial⟩ hin))
  case lmul =>
    have hl9 := of_decide_eq_true hl
    subst hl9
    obtain ⟨x, y, sb, h0, h2⟩ := g_LL h
    subst h0
    subst hst
    exact lv_lmul hx hb hd (stk h2 (al1 nL1 (alt (alt hin))))
  case lneg =>
    have hl9 := of_decide_eq_true hl
    subst hl9
    obtain ⟨x, sb, h0, h2⟩ := g_1L (f := fun x => vL (-x)) h
    subst h0
    subst hst
    exact lv_lneg hx hb hd (stk h2 (al1 nL1 (alt hin)))
  case lookupswitch default9 pairs =>
    exact (n_bad h).elim
  case lor =>
    exact (n_bad h).elim
  case lrem =>
    have hl9 := of_decide_eq_true hl
    subst hl9
    obtain ⟨x, y, sb, h0, hy, h2⟩ := g_2L (f := fun x y => vL (x - x / y * y)) h
    subst h0
    subst hst
    exact lv_lrem hx hb hd hy (stk h2 (al1 nL1 (alt (alt hin))))
  case lreturn =>
    exfalso; unfold nxi at h; dsimp only at h; unfold nLret at h; (repeat' split at h); all_goals first | (exact n_bad h) | (unfold hlt at h; cases h)
  case lshl =>
    exact (n_bad h).elim
  case lshr =>
    exact (n_bad h).elim
  case lstore index =>
    have hl9 := of_decide_eq_true hl
    subst hl9
    obtain ⟨x, sb, h0, hi, h2⟩ := g_Lst h
    subst h0
    subst hst
    exact lv_lstore hx hb hd hr.2.2.1 (by rw [← hr.2.2.2.1]; exact hi) rfl (fun ls' hl' => lcl h2 (RC_s2 hr hi nL1 (alt hin) hl'))
  case lstore_n n =>
    have hl9 := of_decide_eq_true hl
    subst hl9
    obtain ⟨x, sb, h0, hi, h2⟩ := g_Lst h
    subst h0
    subst hst
    exact lv_lstore_n hx hb hd rfl hr.2.2.1 (by rw [← hr.2.2.2.1]; exact hi) rfl (fun ls' hl' => lcl h2 (RC_s2 hr hi nL1 (alt hin) hl'))
  case lsub =>
    have hl9 := of_decide_eq_true hl
    subst hl9
    obtain ⟨x, y, sb, h0, h2⟩ := g_LL h
    subst h0
    subst hst
    exact lv_lsub hx hb hd (stk h2 (al1 nL1 (alt (alt hin))))
  case lushr =>
    exact (n_bad h).elim
  case lxor =>
    have hl9 := of_decide_eq_true hl
    subst hl9
    obtain ⟨x, y, sb, h0, h2⟩ := g_LL h
    subst h0
    subst hst
    exact lv_lxor hx hb hd (stk h2 (al1 nL1 (alt (alt hin))))
  case monitorenter =>
    exact (n_bad h).elim
  case monitorexit =>
    exact (n_bad h).elim
  case multianewarray index dimensions =>
    have hl9 := of_decide_eq_true hl; subst hl9; by_cases hdm : dimensions = 2
    · subst hdm
      obtain ⟨x, K, i9, len9, sb, ps, h0, hp, hm, hg, ha, h2⟩ := g_Mul h
      obtain ⟨x0, hx4, a0, a1, a2, a3, a4, a5, a6, a7⟩ := mul_at hm
      rw [a0] at ha
      cases ha
      have e1 := mR_eq a0 a1 a2 a3 a4
      have hM2 : (mRows x 21 1 4 0 (sN M x 21 1)).2 = (M.2.1 + 5, M.2.2) := by rw [e1]; rfl
      have hcu : cu (mRows x 21 1 4 0 (sN M x 21 1)) = cu M + 5 := by
        unfold cu
        rw [hM2]
        dsimp only
        omega
      have hsu : su (mRows x 21 1 4 0 (sN M x 21 1)) = su M + 20 := by
        unfold su
        rw [hM2]
        dsimp only
        rw [sl_range, sl_range, sl_range, sl_range, sl_range, a0, a1, a2, a3, a4]
        dsimp only
        omega
      have hM' : M' = mRows x 21 1 4 0 (sN M x 21 1) := congrArg (fun z : Cfg => z.2.2.2.2) h2
      rw [hM', hcu] at hRc
      rw [hM', hsu] at hRs
      refine go_mul F hr h0 hm a0 hg hz hc0 (by omega) (by omega) ((pK_ok hp).2.2 rfl) hd (fun H' locs' hrc => ?_)
      cases h2
      exact kk rfl ls H' locs' (cells + 5) (slots + 20) hrc (by rw [hcu]; omega) (by rw [hsu]; omega)
    · exfalso
      rcases dimensions with _ | _ | _ | n9 <;> first | (exact n_bad h) | (exact hdm rfl)
  case new index =>
    have hl9 := of_decide_eq_true hl
    subst hl9
    obtain ⟨K, ps, hp, hK, h1⟩ := g_NewC h
    obtain ⟨x, i9, ha, hg, h2⟩ := g_New h1
    obtain ⟨r1, r2⟩ := rm1 ha h2
    exact go_new (ps := 0) F hr ha hg hz hc0 r1 r2 rfl hK ((pK_ok hp).1 hK) (ins_in hK).1 (ins_in hK).2 hd (fun H' locs' hrc => new1 H' locs' ha h2 hrc)
  case newarray atype =>
    have hl9 := of_decide_eq_true hl; subst hl9; cases atype <;> first | (exact (n_bad h).elim) | skip
    all_goals (obtain ⟨n, sb, h0, hn, h1⟩ := g_Arr h; obtain ⟨x, i9, ha, hg, h2⟩ := g_New h1; obtain ⟨r1, r2⟩ := rm1 ha h2)
    all_goals first | (exact go_newaI (q := 0) (ps := 0) F hr ha hg hz hc0 r1 r2 h0 rfl hn rfl hd arr_in.1 (fun H' locs' hrc => new1 H' locs' ha h2 hrc)) | (exact go_newaJ (q := 0) (ps := 0) F hr ha hg hz hc0 r1 r2 h0 rfl hn rfl hd arr_in.2 (fun H' locs' hrc => new1 H' locs' ha h2 hrc))
  case nop =>
    exact (n_bad h).elim
  case pop =>
    have hl9 := of_decide_eq_true hl
    subst hl9
    obtain ⟨a, sb, h0, ha, h2⟩ := g_Pop h
    subst h0
    subst hst
    exact lv_pop hx hb hd (cat1 (alh hin).2 ha) (stk h2 (alt hin))
  case pop2 =>
    exact (n_bad h).elim
  case putfield index =>
    have hl9 := of_decide_eq_true hl
    subst hl9
    obtain ⟨K, S, t, f, ps, v, x, i9, sb, M2, hp, h0, hx4, hf, hw, h2⟩ := g_Put h
    have hin2 := hin
    rw [h0] at hin2
    exact go_put F hr hp h0 hx4 hf hw hd (fun H' locs' hrc => wrt H' locs' h2 (wr_all hw (hn0_of hw hx4 (alh hin2).1)).1 hrc)
  case putstatic index =>
    exact (n_bad h).elim
  case ret index =>
    exact (n_bad h).elim
  case return_ =>
    exfalso; unfold nxi at h; dsimp only at h; split at h; all_goals first | (exact n_bad h) | (unfold hlt at h; cases h)
  case saload =>
    exact (n_bad h).elim
  case sastore =>
    exact (n_bad h).elim
  case sipush value =>
    have hl9 := of_decide_eq_true hl
    subst hl9
    subst hst
    exact lv_sipush hx hb hd rfl (stk (go_inj h) (al1 nI1 hin))
  case swap =>
    exact (n_bad h).elim
  case tableswitch default9 low high offsets =>
    obtain ⟨x, sb, h0, h1⟩ := g_Tab h
    subst h0; subst hst
    rcases h1 with ⟨hr9, ht, h2⟩ | ⟨hr9, off, ho, ht, h2⟩
    · exact lv_tableOut hx hb hd hr9 ht (stk h2 (alt hin))
    · exact lv_tableIn hx hb hd (fun q => hr9 (Or.inl q)) (fun q => hr9 (Or.inr q)) ho ht (stk h2 (alt hin))
end Steps8
