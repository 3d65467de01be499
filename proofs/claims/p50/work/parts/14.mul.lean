/-! one step of a frame, over the machine: new int[4][4] -/
theorem mul_at {n : Nat} (h : n ∈ mulA) : ∃ x, x < 4 ∧ aE n = (x, 21, 1, 4) ∧ aE (n + 1) = (x, 13, 20, 4) ∧ aE (n + 2) = (x, 13, 21, 4) ∧ aE (n + 3) = (x, 13, 22, 4) ∧ aE (n + 4) = (x, 13, 23, 4) ∧ n + 5 ≤ aT.length ∧ ad x 21 1 = n ∧ ∀ j, j < 4 → ad x 13 (20 + j) = n + 1 + j := by
  have h1 : n = 147 ∨ n = 302 := by simpa [mulA] using h
  rcases h1 with rfl | rfl
  · exact ⟨0, by decide, by decide +kernel, by decide +kernel, by decide +kernel, by decide +kernel, by decide +kernel, by decide +kernel, by decide +kernel, by decide +kernel⟩
  · exact ⟨1, by decide, by decide +kernel, by decide +kernel, by decide +kernel, by decide +kernel, by decide +kernel, by decide +kernel, by decide +kernel, by decide +kernel⟩
/-- the memory behind it -/
theorem mR_eq {M : Mem} {x : Nat} (h0 : aE M.2.1 = (x, 21, 1, 4)) (h1 : aE (M.2.1 + 1) = (x, 13, 20, 4)) (h2 : aE (M.2.1 + 2) = (x, 13, 21, 4)) (h3 : aE (M.2.1 + 3) = (x, 13, 22, 4)) (h4 : aE (M.2.1 + 4) = (x, 13, 23, 4)) :
    mRows x 21 1 4 0 (sN M x 21 1) = sR (sN (sR (sN (sR (sN (sR (sN (sN M x 21 1) x 13 20) x 21 1 0 20) x 13 21) x 21 1 1 21) x 13 22) x 21 1 2 22) x 13 23) x 21 1 3 23 := by
  have e1 : (sN M x 21 1).2.1 = M.2.1 + 1 := rfl
  unfold mRows
  rw [e1, h1]
  dsimp only
  unfold mRows
  have e2 : (sR (sN (sN M x 21 1) x 13 20) x 21 1 0 20).2.1 = M.2.1 + 2 := rfl
  rw [e2, h2]
  dsimp only
  unfold mRows
  have e3 : (sR (sN (sR (sN (sN M x 21 1) x 13 20) x 21 1 0 20) x 13 21) x 21 1 (0 + 1) 21).2.1 = M.2.1 + 3 := rfl
  rw [e3, h3]
  dsimp only
  unfold mRows
  have e4 : (sR (sN (sR (sN (sR (sN (sN M x 21 1) x 13 20) x 21 1 0 20) x 13 21) x 21 1 (0 + 1) 21) x 13 22) x 21 1 (0 + 1 + 1) 22).2.1 = M.2.1 + 4 := rfl
  rw [e4, h4]
  dsimp only
  unfold mRows
  rfl
theorem mR_get {M : Mem} {x x' k' i' s' : Nat} :
    gI (sR (sN (sR (sN (sR (sN (sR (sN (sN M x 21 1) x 13 20) x 21 1 0 20) x 13 21) x 21 1 1 21) x 13 22) x 21 1 2 22) x 13 23) x 21 1 3 23) x' k' i' s' = (if x' = x ∧ (k' = 21 ∧ i' = 1 ∨ k' = 13 ∧ 20 ≤ i' ∧ i' < 24) then 0 else gI M x' k' i' s') ∧
    gJ (sR (sN (sR (sN (sR (sN (sR (sN (sN M x 21 1) x 13 20) x 21 1 0 20) x 13 21) x 21 1 1 21) x 13 22) x 21 1 2 22) x 13 23) x 21 1 3 23) x' k' i' s' = (if x' = x ∧ (k' = 21 ∧ i' = 1 ∨ k' = 13 ∧ 20 ≤ i' ∧ i' < 24) then 0 else gJ M x' k' i' s') ∧
    gR (sR (sN (sR (sN (sR (sN (sR (sN (sN M x 21 1) x 13 20) x 21 1 0 20) x 13 21) x 21 1 1 21) x 13 22) x 21 1 2 22) x 13 23) x 21 1 3 23) x' k' i' s' = (if x' = x ∧ k' = 21 ∧ i' = 1 then (if s' < 4 then 20 + s' else 0) else if x' = x ∧ k' = 13 ∧ 20 ≤ i' ∧ i' < 24 then 0 else gR M x' k' i' s') := by
  refine ⟨?_, ?_, ?_⟩
  · simp only [gI_sR, gI_sN]
    by_cases hc : x' = x ∧ (k' = 21 ∧ i' = 1 ∨ k' = 13 ∧ 20 ≤ i' ∧ i' < 24)
    · rw [if_pos hc]
      obtain ⟨c1, c2⟩ := hc
      rcases c2 with ⟨c2, c3⟩ | ⟨c2, c3, c4⟩
      · simp [c1, c2, c3]
      · have : i' = 20 ∨ i' = 21 ∨ i' = 22 ∨ i' = 23 := by omega
        rcases this with h | h | h | h <;> simp [c1, c2, h]
    · rw [if_neg hc]
      have n1 : ¬ (x' = x ∧ k' = 13 ∧ i' = 23) := fun q => hc ⟨q.1, Or.inr ⟨q.2.1, by omega, by omega⟩⟩
      have n2 : ¬ (x' = x ∧ k' = 13 ∧ i' = 22) := fun q => hc ⟨q.1, Or.inr ⟨q.2.1, by omega, by omega⟩⟩
      have n3 : ¬ (x' = x ∧ k' = 13 ∧ i' = 21) := fun q => hc ⟨q.1, Or.inr ⟨q.2.1, by omega, by omega⟩⟩
      have n4 : ¬ (x' = x ∧ k' = 13 ∧ i' = 20) := fun q => hc ⟨q.1, Or.inr ⟨q.2.1, by omega, by omega⟩⟩
      have n5 : ¬ (x' = x ∧ k' = 21 ∧ i' = 1) := fun q => hc ⟨q.1, Or.inl ⟨q.2.1, q.2.2⟩⟩
      rw [if_neg n1, if_neg n2, if_neg n3, if_neg n4, if_neg n5]
  · simp only [gJ_sR, gJ_sN]
    by_cases hc : x' = x ∧ (k' = 21 ∧ i' = 1 ∨ k' = 13 ∧ 20 ≤ i' ∧ i' < 24)
    · rw [if_pos hc]
      obtain ⟨c1, c2⟩ := hc
      rcases c2 with ⟨c2, c3⟩ | ⟨c2, c3, c4⟩
      · simp [c1, c2, c3]
      · have : i' = 20 ∨ i' = 21 ∨ i' = 22 ∨ i' = 23 := by omega
        rcases this with h | h | h | h <;> simp [c1, c2, h]
    · rw [if_neg hc]
      have n1 : ¬ (x' = x ∧ k' = 13 ∧ i' = 23) := fun q => hc ⟨q.1, Or.inr ⟨q.2.1, by omega, by omega⟩⟩
      have n2 : ¬ (x' = x ∧ k' = 13 ∧ i' = 22) := fun q => hc ⟨q.1, Or.inr ⟨q.2.1, by omega, by omega⟩⟩
      have n3 : ¬ (x' = x ∧ k' = 13 ∧ i' = 21) := fun q => hc ⟨q.1, Or.inr ⟨q.2.1, by omega, by omega⟩⟩
      have n4 : ¬ (x' = x ∧ k' = 13 ∧ i' = 20) := fun q => hc ⟨q.1, Or.inr ⟨q.2.1, by omega, by omega⟩⟩
      have n5 : ¬ (x' = x ∧ k' = 21 ∧ i' = 1) := fun q => hc ⟨q.1, Or.inl ⟨q.2.1, q.2.2⟩⟩
      rw [if_neg n1, if_neg n2, if_neg n3, if_neg n4, if_neg n5]
  · simp only [gR_sR, gR_sN]
    by_cases hc : x' = x ∧ k' = 21 ∧ i' = 1
    · rw [if_pos hc]
      obtain ⟨c1, c2, c3⟩ := hc
      subst c1; subst c2; subst c3
      by_cases h3 : s' = 3
      · simp [h3]
      · by_cases h2 : s' = 2
        · simp [h2]
        · by_cases h1 : s' = 1
          · simp [h1]
          · by_cases h0 : s' = 0
            · simp [h0]
            · have h4 : ¬ s' < 4 := by omega
              simp [h0, h1, h2, h3, h4]
    · rw [if_neg hc]
      have m0 : ∀ j : Nat, ¬ (x' = x ∧ k' = 21 ∧ i' = 1 ∧ s' = j) := fun j q => hc ⟨q.1, q.2.1, q.2.2.1⟩
      simp only [if_neg (m0 0), if_neg (m0 1), if_neg (m0 2), if_neg (m0 3), if_neg hc]
      by_cases hd : x' = x ∧ k' = 13 ∧ 20 ≤ i' ∧ i' < 24
      · rw [if_pos hd]
        obtain ⟨c1, c2, c3, c4⟩ := hd
        have : i' = 20 ∨ i' = 21 ∨ i' = 22 ∨ i' = 23 := by omega
        rcases this with h | h | h | h <;> simp [c1, c2, h]
      · rw [if_neg hd]
        have n1 : ¬ (x' = x ∧ k' = 13 ∧ i' = 23) := fun q => hd ⟨q.1, q.2.1, by omega, by omega⟩
        have n2 : ¬ (x' = x ∧ k' = 13 ∧ i' = 22) := fun q => hd ⟨q.1, q.2.1, by omega, by omega⟩
        have n3 : ¬ (x' = x ∧ k' = 13 ∧ i' = 21) := fun q => hd ⟨q.1, q.2.1, by omega, by omega⟩
        have n4 : ¬ (x' = x ∧ k' = 13 ∧ i' = 20) := fun q => hd ⟨q.1, q.2.1, by omega, by omega⟩
        rw [if_neg n1, if_neg n2, if_neg n3, if_neg n4]
/-- five rows more -/
theorem WL_push5 {G : wG} {M M' : Mem} (hn : M'.2.1 = M.2.1 + 5) (ho : ∀ b, b < M.2.1 → ent G M' b = ent G M b) : WL G M' = WL G M ++ [(gB G + M.2.1, ent G M' M.2.1), (gB G + (M.2.1 + 1), ent G M' (M.2.1 + 1)), (gB G + (M.2.1 + 2), ent G M' (M.2.1 + 2)), (gB G + (M.2.1 + 3), ent G M' (M.2.1 + 3)), (gB G + (M.2.1 + 4), ent G M' (M.2.1 + 4))] := by
  unfold WL
  rw [hn, List.range_succ, List.range_succ, List.range_succ, List.range_succ, List.range_succ]
  simp only [List.map_append, List.map_cons, List.map_nil, List.append_assoc, List.cons_append, List.nil_append]
  congr 1
  apply List.map_congr_left
  intro b hb
  rw [ho b (List.mem_range.mp hb)]
section Steps7
variable {G : wG} {p : Program} {l : Launch} {e : Env} {R : Room} {s : State} {m : MethodId} {args : Array Value} {below : List Frame} {meth : Method} {c : Code} {H : Heap} {locs : List Loc} {cells slots : Nat} {Q : State → Prop}
variable {k pc : Nat} {la sa : List AV} {M : Mem} {ls : Array Slot} {st : List Value}

theorem go_mul (F : Fr G p l s m args meth c k) (hr : RC G k M la sa s H locs ls st) {q x c0 : Nat} {st' : List AV} (hsa : sa = vI 4 :: vI 4 :: st') (hm : M.2.1 ∈ mulA) (ha : aE M.2.1 = (x, 21, 1, 4)) (hg : M.2.2.2 = 0) (hz : s.heap.size ≤ gB G + c0) (hc0 : cells + c0 = cu M) (hcR : cells + 5 ≤ R.cells) (hsR : slots + 20 ≤ R.slots) (hlink : Cond.classLink (cN (mO k)) q "[[I" ∈ GW) (hd : decode (mB k) pc = .ok (.multianewarray q 2, 4))
    (kk : ∀ (H' : Heap) (locs' : List Loc), RC G k (mRows x 21 1 4 0 (sN M x 21 1)) la (vR x 21 1 :: st') s H' locs' ls ((vR x 21 1 :: st').map (cv G)) → W p l e R s m args below meth c H' locs' (cells + 5) (slots + 20) Q (F0 m (pc + 4) ls ((vR x 21 1 :: st').map (cv G)))) : W p l e R s m args below meth c H locs cells slots Q (F0 m pc ls st) := by
  obtain ⟨hx, hb, hml, hret, hown, hts, hlk, hnm, hG0, hwm, hold, hsz⟩ := id F
  subst hsa
  have hin := RC_in hr
  obtain rfl := RC_eq hr
  obtain ⟨x0, hx4, a0, a1, a2, a3, a4, a5, a6, a7⟩ := mul_at hm
  have hxx : x0 = x := by
    rw [a0] at ha
    cases ha
    rfl
  subst hxx
  obtain ⟨hP, hWF, hN, hsize, hlow, hL, hxs⟩ := id hr.1
  refine W_size fun hHs => ?_
  have hH : H.size = gB G + M.2.1 := by
    unfold cu at hc0
    omega
  rw [mR_eq a0 a1 a2 a3 a4] at kk
  have hget := fun x' k' i' s' => mR_get (M := M) (x := x0) (x' := x') (k' := k') (i' := i') (s' := s')
  have hM2 : (sR (sN (sR (sN (sR (sN (sR (sN (sN M x0 21 1) x0 13 20) x0 21 1 0 20) x0 13 21) x0 21 1 1 21) x0 13 22) x0 21 1 2 22) x0 13 23) x0 21 1 3 23).2 = (M.2.1 + 5, M.2.2) := rfl
  generalize hMM : sR (sN (sR (sN (sR (sN (sR (sN (sN M x0 21 1) x0 13 20) x0 21 1 0 20) x0 13 21) x0 21 1 1 21) x0 13 22) x0 21 1 2 22) x0 13 23) x0 21 1 3 23 = M' at kk hget hM2
  have hM21 : M'.2.1 = M.2.1 + 5 := by rw [hM2]
  have hcls : ∀ b x' k' i' len', b < M.2.1 → aE b = (x', k', i', len') → ¬ (x' = x0 ∧ (k' = 21 ∧ i' = 1 ∨ k' = 13 ∧ 20 ≤ i' ∧ i' < 24)) := by
    intro b x' k' i' len' hb hz' q
    have hb2 := (aE_ok (by omega) hz').2.2.2.1
    obtain ⟨q1, q2⟩ := q
    rcases q2 with ⟨q2, q3⟩ | ⟨q2, q3, q4⟩
    · rw [q1, q2, q3, a6] at hb2
      omega
    · have := a7 (i' - 20) (by omega)
      rw [show 20 + (i' - 20) = i' by omega] at this
      rw [q1, q2, this] at hb2
      omega
  have hold5 : ∀ b, b < M.2.1 → ent G M' b = ent G M b := by
    intro b hb
    generalize hz' : aE b = z
    obtain ⟨x', k', i', len'⟩ := z
    have hne := hcls b x' k' i' len' hb hz'
    refine ent_eq hz' fun s' => ?_
    obtain ⟨g1, g2, g3⟩ := hget x' k' i' s'
    rw [if_neg hne] at g1 g2
    rw [if_neg (fun q => hne ⟨q.1, Or.inl q.2⟩), if_neg (fun q => hne ⟨q.1, Or.inr q.2⟩)] at g3
    exact ⟨g1, g2, g3⟩
  have hWL := WL_push5 (G := G) hM21 hold5
  have hrow : ∀ j, j < 4 → aE (M.2.1 + 1 + j) = (x0, 13, 20 + j, 4) → ent G M' (M.2.1 + 1 + j) = .inl (gY G 13, (4, .inl (fun _ => 0))) := by
    intro j hj hae
    rw [ent_arr hae (by omega), if_neg (by omega), if_pos (Or.inl rfl)]
    have e1 : gI M' x0 13 (20 + j) = fun _ => 0 := funext fun s9 => by
      have := (hget x0 13 (20 + j) s9).1
      rw [if_pos ⟨rfl, Or.inr ⟨rfl, by omega, by omega⟩⟩] at this
      exact this
    rw [e1]
  have hout : ent G M' M.2.1 = .inl (gY G 21, 4, .inr (.inr (.inr (.inr (fun i => if i < 4 then some (H.size + 1 + i) else none))))) := by
    rw [ent_arr a0 (by omega), if_neg (by omega), if_neg (by omega)]
    have e1 : (fun s9 => rfo G x0 (elK 21 - 3) (gR M' x0 21 1 s9)) = fun i => if i < 4 then some (H.size + 1 + i) else none := by
      funext s9
      have := (hget x0 21 1 s9).2.2
      rw [if_pos ⟨rfl, rfl, rfl⟩] at this
      rw [this]
      by_cases h4 : s9 < 4
      · rw [if_pos h4, if_pos h4]
        unfold rfo
        rw [if_neg (by omega)]
        show some (cad G x0 13 (20 + s9)) = _
        unfold cad
        rw [if_neg (by omega), a7 s9 h4, hH]
        congr 1
        omega
      · rw [if_neg h4, if_neg h4]
        rfl
    rw [e1]
  have hAO : va_AOA .int s := AOA_moved hwm.alike hG0.2.2.2.2.2.1
  have hP9 : va_P (gD G) vwCl (WL G M ++ va_pl [] (fun _ => .inr (0, []))) H := by
    show va_P _ _ (WL G M ++ []) H
    rw [List.append_nil]
    exact hP
  have hD9 : va_D (gA G) (WL G M ++ va_pl [] (fun _ => .inr (0, []))) := by
    show va_D _ (WL G M ++ [])
    rw [List.append_nil]
    exact WL_D G M
  have hcy : s.vm.findClass (FieldType.array .int).toString = some (gY G 13) := ((Fr_K F).2 0 _ rfl).2
  refine va_mna (X := WL G M) (L := []) (f := fun _ => .inr (0, [])) (ty := .int) (N' := 4) (K' := 4) (z := (4, .inl (fun _ => 0))) hx hb hown (hts _ hlink) hAO (hts _ arr_in.1) hcy (Fr_K F) hP9 hD9 hr.2.1 (fun q hq => Nat.le_trans hsz hq) (by decide) (by decide) rfl rfl (by decide) (by decide) (by decide) rfl rfl hcR hsR (fun c9 => by first | rfl | (show (_ : Cell) = arrV c9 4 _; rw [← arrV_new]; rfl)) hd fun q9 r9 cA H1 hqr hinj hnl hK1 hP1 hD1 hS1 => ?_
  obtain ⟨hq9, hr9⟩ := hqr
  have hcA : cA = gY G 21 := RA_uni (hK1.2 9 _ rfl).2 ((Fr_K F).2 8 _ rfl).2
  subst hcA
  subst hq9
  have hr10 : r9 = fun i => H.size + 1 + i := funext hr9
  subst hr10
  have hWL2 : WL G M' = (WL G M ++ [(H.size, .inl (gY G 21, 4, .inr (.inr (.inr (.inr (fun i => if i < 4 then some (H.size + 1 + i) else none))))))]) ++ va_pl ([] ++ (List.range 4).map (fun i => H.size + 1 + i)) (vr_up (fun _ => .inr (0, [])) ((List.range 4).map (fun i => H.size + 1 + i)) (.inl (gY G 13, (4, .inl (fun _ => 0))))) := by
    rw [hWL, hout, hH]
    have r0 := hrow 0 (by omega) a1
    have r1 := hrow 1 (by omega) a2
    have r2 := hrow 2 (by omega) a3
    have r3 := hrow 3 (by omega) a4
    have u := fun a (ha : a ∈ (List.range 4).map (fun i => gB G + M.2.1 + 1 + i)) => vr_up_in (f := fun _ => (.inr (0, []) : va_E)) (v := (.inl (gY G 13, (4, .inl (fun _ => 0))) : va_E)) ha
    show _ = _ ++ List.map _ _
    rw [List.append_assoc]
    congr 1
    show _ = _ :: List.map _ (List.map _ (List.range 4))
    have rg : List.range 4 = [0, 1, 2, 3] := by decide
    rw [rg] at u ⊢
    simp only [List.map_cons, List.map_nil] at u ⊢
    have u0 := u (gB G + M.2.1 + 1 + 0) (by simp)
    have u1 := u (gB G + M.2.1 + 1 + 1) (by simp)
    have u2 := u (gB G + M.2.1 + 1 + 2) (by simp)
    have u3 := u (gB G + M.2.1 + 1 + 3) (by simp)
    rw [u0, u1, u2, u3]
    rw [show M.2.1 + 1 = M.2.1 + 1 + 0 by rfl, show M.2.1 + 2 = M.2.1 + 1 + 1 by rfl, show M.2.1 + 3 = M.2.1 + 1 + 2 by rfl, show M.2.1 + 4 = M.2.1 + 1 + 3 by rfl, r0, r1, r2, r3]
    simp only [Nat.add_assoc]
  rw [← hWL2] at hP1
  have hmono : ∀ v, VV M.2.1 v → VV M'.2.1 v := fun v h => VV_mono h (by omega) (by omega)
  have hWF' : WF M' := by
    intro x' k' i' s9 j hx' hV ht h0
    obtain ⟨-, -, g3⟩ := hget x' k' i' s9
    rw [g3] at h0 ⊢
    by_cases c1 : x' = x0 ∧ k' = 21 ∧ i' = 1
    · rw [if_pos c1] at h0 ⊢
      obtain ⟨c1, c2, c3⟩ := c1
      subst c1; subst c2; subst c3
      by_cases h4 : s9 < 4
      · rw [if_pos h4] at h0 ⊢
        have ej : j = 13 := by
          have : tyS 21 s9 = 16 := rfl
          omega
        subst ej
        rw [xp_ne (by omega)]
        refine Or.inr ⟨hx', ?_, by omega, 4, ?_⟩
        · rw [a7 s9 h4]; omega
        · rw [a7 s9 h4]
          have : s9 = 0 ∨ s9 = 1 ∨ s9 = 2 ∨ s9 = 3 := by omega
          rcases this with h | h | h | h <;> subst h
          · exact a1
          · exact a2
          · exact a3
          · exact a4
      · rw [if_neg h4] at h0; exact absurd rfl h0
    · rw [if_neg c1] at h0 ⊢
      by_cases c2 : x' = x0 ∧ k' = 13 ∧ 20 ≤ i' ∧ i' < 24
      · rw [if_pos c2] at h0; exact absurd rfl h0
      · rw [if_neg c2] at h0 ⊢
        have hV' : VO M.2.1 x' k' i' := by
          rcases hV with hV | ⟨b1, b2, b3, len', b4⟩
          · exact Or.inl hV
          · refine Or.inr ⟨b1, ?_, by omega, len', b4⟩
            rcases Nat.lt_or_ge (ad x' k' i') M.2.1 with q | q
            · exact q
            · exfalso
              have : ad x' k' i' = M.2.1 ∨ ad x' k' i' = M.2.1 + 1 ∨ ad x' k' i' = M.2.1 + 2 ∨ ad x' k' i' = M.2.1 + 3 ∨ ad x' k' i' = M.2.1 + 4 := by omega
              rcases this with h | h | h | h | h
              · rw [h, a0] at b4; cases b4; exact c1 ⟨rfl, rfl, rfl⟩
              · rw [h, a1] at b4; cases b4; exact c2 ⟨rfl, rfl, by omega, by omega⟩
              · rw [h, a2] at b4; cases b4; exact c2 ⟨rfl, rfl, by omega, by omega⟩
              · rw [h, a3] at b4; cases b4; exact c2 ⟨rfl, rfl, by omega, by omega⟩
              · rw [h, a4] at b4; cases b4; exact c2 ⟨rfl, rfl, by omega, by omega⟩
        exact VO_mono (hWF x' k' i' s9 j hx' hV' ht h0) (by omega) (by omega)
  have K1 := kk H1 locs ⟨HW_mk F hr hP1 hWF' (by omega) hS1 (by rw [hM2]) (fun j => by have := (hget 4 13 1 j).1; rw [if_neg (by omega)] at this; exact this), hS1, hr.2.2.1, hr.2.2.2.1, rfl, fun v hv => hmono v (hr.2.2.2.2.2.1 v hv), al1 ⟨Or.inr ⟨hx4, by omega, by omega, 4, by rw [a6]; exact a0⟩, trivial⟩ (fun v hv => ⟨hmono v (alt (alt hin) v hv).1, (alt (alt hin) v hv).2⟩)⟩
  rw [List.map_cons] at K1
  have ev : cv G (vR x0 21 1) = .ref H.size := by
    show Value.ref (cad G x0 21 1) = _
    unfold cad
    rw [if_neg (by omega), a6, hH]
  rw [ev] at K1
  exact K1
end Steps7
