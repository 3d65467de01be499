/-! the law's frame: the picture of the heap at the start, and the law as a statement on X -/
/-- the memory at the start: a script of L ints, nothing made -/
def Mz (L : Nat) (xs : Nat → Int32) : Mem := (fun x => ((fun k i s => if x = 4 ∧ k = 13 ∧ i = 1 then xs s else 0), (fun _ _ _ => 0), (fun _ _ _ => 0)), (0, L, 0))
/-- the law on the interpreter -/
def LawX : Prop := ∀ (L : Nat) (xs : Nat → Int32), L ≤ 260 → ∃ M' : Mem, X 234 0 (entr 234 [vR 4 13 1]) [] (Mz L xs) = some (.inl (some (vI 1)), M') ∧ cu M' ≤ 600074 ∧ su M' ≤ 7301550
theorem arr_prim {s : State} {args : Array Value} {ty : FieldType} (h : (Cond.arrayClass ty).before args s = true) : ∃ cA, ArrOfT s cA ty ∧ s.vm.findClass ("[" ++ ty.toString) = some cA := by
  obtain ⟨c, k, comp, h1, h2, h3⟩ := Cond.arrayClass_spec h
  exact ⟨c, fun n z => ⟨fun q hq => (by cases hq), k, h2, comp, h3⟩, h1⟩
theorem arr_obj {s : State} {args : Array Value} {C : String} (h : (Cond.arrayOver (.object C)).before args s = true) : ∃ cA, ArrOfT s cA (.object C) ∧ va_RA s cA (.object C) := by
  obtain ⟨comp, c, k, h1, h2, h3, h4, h5⟩ := Cond.arrayOver_spec h
  exact ⟨c, fun n z => ⟨fun q hq => (by cases hq), k, h3, comp, h4⟩, k, comp, h3, h4, h1, h5⟩
theorem arr_arr {s : State} {args : Array Value} {t : FieldType} (h : (Cond.arrayOver (.array t)).before args s = true) : ∃ cA, ArrOfT s cA (.array t) ∧ va_RA s cA (.array t) := by
  obtain ⟨comp, c, k, h1, h2, h3, h4, h5⟩ := arrayOverA_spec h
  exact ⟨c, fun n z => ⟨fun q hq => (by cases hq), k, h3, comp, h4⟩, h5⟩
set_option maxRecDepth 100000 in
theorem st_ws : (∀ K ∈ [0, 1, 4, 9, 10], Cond.arrayOver (.object (cN K)) ∈ lw_tbl) ∧ Cond.arrayOver (.array .int) ∈ lw_tbl := by decide +kernel
set_option maxRecDepth 100000 in
theorem st_ws2 : Cond.methodLinkNest "Openbook$Clearing" 30 yX9_init "Openbook" ∈ lw_tbl ∧ Cond.laysStatic Bundle.tN "UNASSIGNED_STACK" Bundle.steD ∈ lw_tbl ∧ Cond.laysStatic Bundle.tN "SUPPRESSED_SENTINEL" Bundle.listD ∈ lw_tbl ∧ Cond.initialized Bundle.tN ∈ lw_tbl := by decide +kernel
set_option maxRecDepth 100000 in
theorem st_ws3 : ∀ y ∈ exY, Cond.declares (Bundle.initS y) ∈ lw_tbl := by decide +kernel
set_option maxRecDepth 100000 in
theorem st_ws4 : ∀ z ∈ sT, z.1 / 1000 = 11 ∧ Cond.stringRef "Openbook" (z.1 % 1000) z.2.1 ∈ lw_tbl := by decide +kernel
set_option maxRecDepth 100000 in
theorem st_ws5 : ∀ e ∈ [0, 1, 2], Cond.castable (exN e) (exN e) ∈ lw_tbl ∨ Cond.castable (exN e) (exN e) ∈ flatC (Jvm.Cond.and given_1 narrow_1) := by decide +kernel
set_option maxRecDepth 100000 in
theorem st_ws6 : ∀ e ∈ [0, 1, 2], ∀ e' ∈ [0, 2], e ≠ e' → Cond.not (.castable (exN e) (exN e')) ∈ flatC (Jvm.Cond.and given_1 narrow_1) := by decide +kernel
set_option maxRecDepth 100000 in
theorem st_ws7 : Cond.isRef (.static Bundle.tN "UNASSIGNED_STACK" Bundle.steD) ∈ flatC (Jvm.Cond.and given_1 narrow_1) ∧ Cond.isRef (.static Bundle.tN "SUPPRESSED_SENTINEL" Bundle.listD) ∈ flatC (Jvm.Cond.and given_1 narrow_1) := by decide +kernel
theorem l3 {e : Nat} (h : e < 3) : e ∈ [0, 1, 2] := by
  have h1 : e = 0 ∨ e = 1 ∨ e = 2 := by omega
  rcases h1 with rfl | rfl | rfl <;> decide
theorem l32 {e : Nat} (h : e < 3 ∧ e ≠ 1) : e ∈ [0, 2] := by
  have h1 : e = 0 ∨ e = 2 := by omega
  rcases h1 with rfl | rfl <;> decide
theorem gw_tbl {w : Cond} (h : w ∈ GW) : w ∈ lw_tbl := (List.mem_filter.mp h).1
section Start22
variable {p : Program} {s : State} {m : MethodId} {meth : Method} {c : Code} {b L : Nat} {xs : Nat → Int32}
theorem start_G (hL : L ≤ 260) (C0 : lw_At p s m meth c b L xs) : ∃ G : wG, G.1 = s ∧ G.2.1 = b ∧ G.2.2.1 = L ∧ G.2.2.2.1 = xs ∧ G0 G := by
  obtain ⟨hx, hb, hret, hml, hown, hts, hX, hbl, hlk, hgv⟩ := C0
  have hK : ∀ K, ∃ q : ClassId × (Nat → Nat), K < 13 → u_Kn s (cN K) (TXs K) (nfK K) q.1 q.2 := by
    intro K
    by_cases h : K < 13
    · obtain ⟨cC, iS, h1⟩ := u_known (n := nfK K) hts (fun w hw => gw_tbl (uws_in h w hw)) (hts _ (gw_tbl (ins_in h).1))
      exact ⟨(cC, iS), fun _ => h1⟩
    · exact ⟨(0, fun _ => 0), fun h1 => absurd h1 h⟩
  obtain ⟨a13, b13, f13⟩ := arr_prim (hts _ (gw_tbl arr_in.1))
  obtain ⟨a14, b14, f14⟩ := arr_prim (hts _ (gw_tbl arr_in.2))
  obtain ⟨a15, b15, f15⟩ := arr_prim (hts _ (gw_tbl arr_in.1))
  obtain ⟨a16, b16, f16⟩ := arr_obj (C := RX0) (hts _ (st_ws.1 0 (by decide)))
  obtain ⟨a17, b17, f17⟩ := arr_obj (C := RX1) (hts _ (st_ws.1 1 (by decide)))
  obtain ⟨a18, b18, f18⟩ := arr_obj (C := RX4) (hts _ (st_ws.1 4 (by decide)))
  obtain ⟨a19, b19, f19⟩ := arr_obj (C := RX9) (hts _ (st_ws.1 9 (by decide)))
  obtain ⟨a20, b20, f20⟩ := arr_obj (C := RX10) (hts _ (st_ws.1 10 (by decide)))
  obtain ⟨a21, b21, f21⟩ := arr_arr (hts _ st_ws.2)
  refine ⟨(s, b, L, xs, (fun K => (Classical.choose (hK K)).1), (fun K => (Classical.choose (hK K)).2), fun j => [a13, a14, a15, a16, a17, a18, a19, a20, a21].getD (j - 13) a13), rfl, rfl, rfl, rfl, ?_⟩
  have hcls : ∀ K, K < 13 → ∃ cc, s.vm.findClass (cN K) = some cc := fun K h => ⟨_, (Classical.choose_spec (hK K) h).2.1⟩
  refine ⟨⟨?_, ?_⟩, hX, hbl, hL, ?_⟩
  · intro K q hq
    have hlt : K < 13 := by
      have h1 : vwCl.length = 13 := rfl
      have h2 := (List.getElem?_eq_some_iff.mp hq).1
      omega
    rw [vwCl_at hlt] at hq
    cases hq
    exact Classical.choose_spec (hK K) hlt
  · intro k q hq
    have h1 := List.mem_of_getElem? hq
    unfold tysG at h1
    simp only [List.mem_cons, List.not_mem_nil, or_false] at h1
    rcases h1 with rfl | rfl | rfl | rfl | rfl | rfl | rfl | rfl | rfl
    · exact ⟨b13, f13⟩
    · exact ⟨b14, f14⟩
    · exact ⟨b15, f15⟩
    · exact ⟨b16, f16⟩
    · exact ⟨b17, f17⟩
    · exact ⟨b18, f18⟩
    · exact ⟨b19, f19⟩
    · exact ⟨b20, f20⟩
    · exact ⟨b21, f21⟩
  · have hA : ∀ a : Nat, a < s.heap.size → ¬ s.heap.size ≤ a := fun a h1 h2 => by omega
    refine ⟨fun K hK9 => va_AO.of (hts _ (st_ws.1 K hK9)), hts _ st_ws.2, va_Nw.of rfl (hts _ st_ws2.1), ?_, ?_, ?_, ?_, ?_, ?_⟩
    · exact vx_Zqof (hts _ st_ws2.2.1) (hts _ st_ws2.2.2.2) (flat_of_before _ hgv _ st_ws7.1) hA
    · exact vx_Zqof (hts _ st_ws2.2.2.1) (hts _ st_ws2.2.2.2) (flat_of_before _ hgv _ st_ws7.2) hA
    · intro z hz
      obtain ⟨h1, h2⟩ := st_ws4 z hz
      obtain ⟨cc, hcc⟩ := hcls 11 (by decide)
      have h3 := hts _ h2
      obtain ⟨k9, cf, i9, a, -, -, -, -, -, h4⟩ := Cond.stringRef_spec hcc h3
      rw [h1]
      exact ⟨a, vk_R.of h3 h4⟩
    · intro e he
      rcases st_ws5 e (l3 he) with h1 | h1
      · exact va_Nw.of rfl (hts _ h1)
      · exact va_Nw.of rfl (flat_of_before _ hgv _ h1)
    · intro e e' he he' hne
      exact va_Nc.of (flat_of_before _ hgv _ (st_ws6 e (l3 he) e' (l32 he') hne))
    · intro y hy
      exact va_Nw.of rfl (hts _ (st_ws3 y hy))
end Start22
theorem law_row : mB 234 = code ∧ mL 234 = 8 ∧ mR 234 = ret ∧ mO 234 = 13 ∧ lk hT 234 = none ∧ (mN 234).name = "law" := ⟨rfl, rfl, rfl, rfl, rfl, rfl⟩
theorem law_room : (1 ≤ mF 234 ∧ mF 234 ≤ 13) ∧ 30 ≤ mQ 234 ∧ mQ 234 ≤ 558 := by decide
theorem whole_X (hLX : LawX) {p : Program} {e : Env} {s : State} {m : MethodId} {below : List Frame} {meth : Method} {c : Code} (l : Launch) (hflags : l.flags = flags0) {b L : Nat} {xs : Nat → Int32} (hL : L ≤ 260) (C0 : lw_At p s m meth c b L xs) : W p l e room_1 s m #[Value.ref b] below meth c s.heap [] 0 0 (lw_Z below #[Value.ref b] s) (entryFrame m ([Value.ref b] : List Value).toArray 8) := by
  obtain ⟨G, g1, g2, g3, g4, hG0⟩ := start_G hL C0
  obtain ⟨hx, hb, hret, hml, hown, hts, hX, hbl, hlk, hgv⟩ := C0
  obtain ⟨M', hM, hcu, hsu⟩ := hLX L xs hL
  obtain ⟨n, hex⟩ := Xc_iff.mp hM
  have hl : l.stackTraces = false := by
    unfold Launch.stackTraces
    rw [hflags]
    decide
  have hB : gB G = s.heap.size := by unfold gB; rw [g1]
  have hHW : HW G (Mz L xs) s.heap := by
    refine ⟨fun k q hk => (by cases hk), ?_, Nat.zero_le _, by rw [hB]; exact Nat.le_refl _, fun q _ => by rw [g1], g3.symm, fun j => ?_⟩
    · intro x k i s9 j hx4 hv _ _
      rcases hv with ⟨h1, -⟩ | ⟨-, h1, -⟩
      · omega
      · exact absurd h1 (Nat.not_lt_zero _)
    · rw [g4]
      rfl
  have F : Fr G p l s m #[Value.ref b] meth c 234 := by
    refine ⟨hx, hb.trans law_row.1.symm, hml.trans law_row.2.1.symm, hret.trans law_row.2.2.1.symm, ?_, fun w hw => hts w (gw_tbl hw), hlk, ?_, hG0, by rw [g1]; exact State.WarmedH.refl s, fun q _ => by rw [g1], by rw [hB]; exact Nat.le_refl _⟩
    · rw [law_row.2.2.2.1]; exact hown
    · intro h9
      rw [law_row.2.2.2.2.2] at h9
      exact absurd h9 (by decide)
  have hin : ∀ a ∈ [vR 4 13 1], VV (Mz L xs).2.1 a ∧ NJ a := by
    intro a ha
    rw [List.mem_singleton.mp ha]
    exact ⟨Or.inl ⟨rfl, rfl, rfl⟩, trivial⟩
  have hlay : (lay [vR 4 13 1]).length ≤ mL 234 := by decide
  have hcv : [vR 4 13 1].map (cv G) = [Value.ref b] := by
    show [Value.ref (cad G 4 13 1)] = _
    unfold cad
    rw [if_pos rfl, g2]
  have hRC : RC G 234 (Mz L xs) (entr 234 [vR 4 13 1]) [] s s.heap [] (argsToLocals ([Value.ref b] : List Value).toArray 8) [] := by
    refine ⟨hHW, va_S.rf, ?_, entr_len hlay, rfl, entr_VV fun a ha => (hin a ha).1, fun v hv => by cases hv⟩
    have h1 := entr_has (G := G) (k := 234) (fun a ha => (hin a ha).2) hlay
    rw [hcv] at h1
    exact h1
  have hW := run_sound n hex (e := e) (R := room_1) (below := below) (cells := 0) (slots := 0) (c0 := 0) (s0 := 0) (mc := cu M') (ms := su M') F hl (Or.inr ⟨law_row.2.2.2.2.1, _, rfl⟩) hRC (by rw [hB]; exact Nat.le_refl _) rfl rfl rfl rfl hcu hsu law_room.1.2 law_room.2.2 (by decide) (by decide)
  intro T hT X0
  obtain ⟨t, a1, o, b1, b2, b3⟩ := hW T hT X0
  refine ⟨t, a1, o, b1, b2, ?_⟩
  rcases b3 with ⟨⟨v, hv, ho, -⟩, L9, hfe, hL9⟩ | ⟨q, -, E, ce, L9, ⟨e9, h9, -⟩, -⟩
  · cases hv
    refine ⟨ho, ?_⟩
    obtain ⟨hr9, hw9, hsm⟩ := hfe
    refine ⟨hr9, hw9, ?_⟩
    obtain ⟨q1, q2, q3, q4, q5, q6⟩ := hsm
    refine ⟨q1, q2, by omega, q4, Nat.le_trans q5 hsu, fun a cc hc9 => ?_⟩
    obtain ⟨c', z1, z2, z3, z4⟩ := q6 a cc hc9
    refine ⟨c', z1, z2, z3, fun i _ => z4 i (fun hm => ?_)⟩
    have h1 : gB G ≤ a := hL9 _ hm
    have h2 := (Array.getElem?_eq_some_iff.mp hc9).1
    omega
  · cases h9
