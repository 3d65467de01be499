/-! one step of a frame, over the machine: stores into arrays -/
theorem hn0_of {n x k i s t : Nat} {M M' : Mem} {v : AV} (hw : wrv M x k i s t v = some M') (hx4 : x < 4) (hv : VV n v) : ∀ x' k' i', v = Sum.inr (Sum.inr (Sum.inl (some (x', k', i')))) → i' ≠ 0 := by
  intro x' k' i' hv1
  rw [hv1] at hv
  have hv3 : VO n x' k' i' := hv
  rcases id hv3 with ⟨a1, a2⟩ | ⟨a1, a2⟩
  · rw [hv1] at hw
    unfold wrv at hw
    split at hw <;> first | (cases hw; done) | skip
    · rename_i heq; cases heq
    · rename_i heq; cases heq
    · rename_i heq; cases heq
    · rename_i heq; cases heq
    · rename_i heq
      cases heq
      split at hw
      · next hc =>
        have h9 := xp_lt (k := k) (s := s) hx4
        omega
      · cases hw
  · exact (VO_at hv3 a1).choose_spec.2.2.2.2.1
section Steps4
variable {G : wG} {p : Program} {l : Launch} {e : Env} {R : Room} {s : State} {m : MethodId} {args : Array Value} {below : List Frame} {meth : Method} {c : Code} {H : Heap} {locs : List Loc} {cells slots : Nat} {Q : State → Prop}
variable {k pc : Nat} {la sa : List AV} {M : Mem} {ls : Array Slot} {st : List Value}
theorem go_aput (F : Fr G p l s m args meth c k) (hr : RC G k M la sa s H locs ls st) {K x i : Nat} {j : Int32} {v : AV} {M' : Mem} {ins : Instr} {st' : List AV} (hsa : sa = v :: vI j :: Sum.inr (Sum.inr (Sum.inl (some (x, K, i)))) :: st') (hx4 : x < 4) (hj : inb j (lenA M x K i)) (hw : wrv M x K i j.toNatClampNeg (elK K) v = some M') (hd : decode (mB k) pc = .ok (ins, 1))
    (ht : (ins = .iastore ∧ K = 13) ∨ (False ∧ K = 15) ∨ (ins = .lastore ∧ K = 14) ∨ (ins = .aastore ∧ 16 ≤ K ∧ K < 21))
    (kk : ∀ (H' : Heap) (locs' : List Loc), RC G k M' la st' s H' locs' ls (st'.map (cv G)) → W p l e R s m args below meth c H' locs' cells slots Q (F0 m (pc + 1) ls (st'.map (cv G)))) : W p l e R s m args below meth c H locs cells slots Q (F0 m pc ls st) := by
  obtain ⟨hx, hb, hml, hret, hown, hts, hlk, hnm, hG0, hwm, hold, hsz⟩ := id F
  subst hsa
  have hin := RC_in hr
  obtain rfl := RC_eq hr
  have hV : VO M.2.1 x K i := (alh (alt (alt hin))).1
  obtain ⟨len, ha, han, hnN, hk22, hi0, -, -⟩ := VO_at hV hx4
  obtain ⟨hP, hWF, hN, hsize, hlow, hL, hxs⟩ := id hr.1
  have hK13 : ¬ K < 13 := by
    rcases ht with ⟨-, a⟩ | ⟨-, a⟩ | ⟨-, a⟩ | ⟨-, a, -⟩ <;> omega
  have he := WL_at (G := G) han
  rw [ent_arr ha hK13] at he
  have hcad : cad G x K i = gB G + ad x K i := if_neg (by omega)
  show W p l e R s m args below meth c H locs cells slots Q (F0 m pc ls (cv G v :: .int j :: .ref (cad G x K i) :: st'.map (cv G)))
  rw [hcad]
  have hvv : VV M.2.1 v := (alh hin).1
  have hn0 := hn0_of hw hx4 hvv
  obtain ⟨w2, wr, wo⟩ := wr_all hw hn0
  have htS : tyS K j.toNatClampNeg = elK K := if_neg hK13
  have hlA : lenA M x K i = len := by
    unfold lenA
    rw [if_neg (by omega), ha]
  rw [hlA] at hj
  have hty := tys_at (G := G) (k := K) ⟨by omega, hk22⟩
  have fin : ∀ (E : va_E), ent G M' (ad x K i) = E → ∀ (H1 : Heap) (locs1 : List Loc), va_P (gD G) vwCl ((WL G M).set (ad x K i) (gB G + ad x K i, E)) H1 → va_D (gA G) ((WL G M).set (ad x K i) (gB G + ad x K i, E)) → va_S (gA G) s.heap H1 locs1 → W p l e R s m args below meth c H1 locs1 cells slots Q (F0 m (pc + 1) ls (st'.map (cv G))) := by
    intro E hE H1 locs1 hP1 hD1 hS1
    have hWL := WL_wr (G := G) hw hn0 ha hN hE
    rw [← hWL] at hP1
    have hv0 : ∀ v ∈ la, VV M'.2.1 v := VV_of w2 hr.2.2.2.2.2.1
    refine kk H1 locs1 ⟨HW_mk F hr hP1 (wr_WF hw hWF hvv htS) (by rw [w2]; exact hN) hS1 (by rw [w2]) (fun z => (wo 4 13 1 z (fun z => by omega)).1), hS1, hr.2.2.1, hr.2.2.2.1, rfl, hv0, fun z hz => ?_⟩
    rw [w2]
    exact alt (alt (alt hin)) z hz
  rcases ht with ⟨a, b⟩ | ⟨a, b⟩ | ⟨a, b⟩ | ⟨a, b, b2⟩
  · subst a; subst b
    obtain ⟨y, rfl⟩ : ∃ y, v = vI y := by
      rcases v with y | y | y | y
      · exact ⟨y, rfl⟩
      · cases hw
      · cases y <;> cases hw
      · cases hw
    have hM : M' = sI M x 13 i j.toNatClampNeg y := by cases hw; rfl
    refine va_iast hx hb (Fr_K F) hP (WL_D G M) hr.2.1 (ad x 13 i) 0 he hty (inb_vp hj) hd (fin _ ?_)
    rw [ent_arr ha (by omega), hM]
    have e1 : gI (sI M x 13 i j.toNatClampNeg y) x 13 i = upd (gI M x 13 i) j.toNatClampNeg y := by
      funext z
      rw [gI_sI]
      unfold upd
      by_cases hz : z = j.toNatClampNeg
      · rw [if_pos ⟨rfl, rfl, rfl, hz⟩, if_pos hz]
      · rw [if_neg (fun q => hz q.2.2.2), if_neg hz]
    rw [e1]
    rfl
  · exact a.elim
  · subst a; subst b
    obtain ⟨y, rfl⟩ : ∃ y, v = vL y := by
      rcases v with y | y | y | y
      · cases hw
      · exact ⟨y, rfl⟩
      · cases y <;> cases hw
      · cases hw
    have hM : M' = sJ M x 14 i j.toNatClampNeg y := by cases hw; rfl
    refine va_last hx hb (Fr_K F) hP (WL_D G M) hr.2.1 (ad x 14 i) 1 he hty (inb_vp hj) hd (fin _ ?_)
    rw [ent_arr ha (by omega), hM]
    have e1 : gJ (sJ M x 14 i j.toNatClampNeg y) x 14 i = vp_updL (gJ M x 14 i) j.toNatClampNeg y := by
      funext z
      rw [gJ_sJ]
      unfold vp_updL
      by_cases hz : z = j.toNatClampNeg
      · rw [if_pos ⟨rfl, rfl, rfl, hz⟩, if_pos hz]
      · rw [if_neg (fun q => hz q.2.2.2), if_neg hz]
    rw [e1]
    rfl
  · subst a
    have hz : ∃ z, elK K = z + 3 ∧ z < 13 ∧ aTy K = .object (cN z) := by
      have : K = 16 ∨ K = 17 ∨ K = 18 ∨ K = 19 ∨ K = 20 := by omega
      rcases this with h | h | h | h | h
      · subst h; exact ⟨0, rfl, by omega, rfl⟩
      · subst h; exact ⟨1, rfl, by omega, rfl⟩
      · subst h; exact ⟨4, rfl, by omega, rfl⟩
      · subst h; exact ⟨9, rfl, by omega, rfl⟩
      · subst h; exact ⟨10, rfl, by omega, rfl⟩
    obtain ⟨z, hz1, hz2, hz3⟩ := hz
    rw [if_neg (by omega), if_neg (by omega)] at he
    rw [hz1] at hw
    have e2 : elK K - 3 = z := by omega
    have en : ∀ r, M' = sR M x K i j.toNatClampNeg r → ent G M' (ad x K i) = .inl (gY G K, len, .inr (.inr (.inr (.inr (va_up (fun s9 => rfo G x (elK K - 3) (gR M x K i s9)) j.toNatClampNeg (rfo G x z r)))))) := by
      intro r hM
      rw [ent_arr ha (by omega), if_neg (by omega), if_neg (by omega), hM]
      have e1 : (fun s9 => rfo G x (elK K - 3) (gR (sR M x K i j.toNatClampNeg r) x K i s9)) = va_up (fun s9 => rfo G x (elK K - 3) (gR M x K i s9)) j.toNatClampNeg (rfo G x z r) := by
        funext z9
        unfold va_up
        rw [gR_sR]
        by_cases hz : z9 = j.toNatClampNeg
        · rw [if_pos ⟨rfl, rfl, rfl, hz⟩, if_pos hz, e2]
        · rw [if_neg (fun q => hz q.2.2.2), if_neg hz]
      rw [e1]
    rw [hz3] at hty
    rcases v with y | y | y | y
    · cases hw
    · cases hw
    · rcases y with _ | ⟨x', k', i'⟩
      · have hM : M' = sR M x K i j.toNatClampNeg 0 := by cases hw; rfl
        exact va_astqN hx hb (Fr_K F) hP (WL_D G M) hr.2.1 (ad x K i) (K - 13) he hty (inb_vp hj) hd (fin _ (en 0 hM))
      · by_cases hc : x' = x ∧ k' = z
        · have h9 : wrv M x K i j.toNatClampNeg (z + 3) (Sum.inr (Sum.inr (Sum.inl (some (x', k', i'))))) = some (sR M x K i j.toNatClampNeg i') := if_pos ⟨by rw [xp_ne (by omega)]; exact hc.1, hc.2⟩
          rw [h9] at hw
          have hM : M' = sR M x K i j.toNatClampNeg i' := by cases hw; rfl
          obtain ⟨c1, c2⟩ := hc
          subst c1; subst c2
          have hV2 : VO M.2.1 x' k' i' := hvv
          obtain ⟨len2, ha2, han2, -, -, hi02, hlen2, -⟩ := VO_at hV2 hx4
          have he2 := WL_at (G := G) han2
          rw [ent_obj ha2 hz2] at he2
          have hcad2 : cad G x' k' i' = gB G + ad x' k' i' := if_neg (by omega)
          have ef : rfo G x' k' i' = some (gB G + ad x' k' i') := by unfold rfo; rw [if_neg hi02, hcad2]
          have en2 := en i' hM
          rw [ef] at en2
          show W p l e R s m args below meth c H locs cells slots Q (F0 m pc ls (.ref (cad G x' k' i') :: .int j :: .ref (gB G + ad x' K i) :: st'.map (cv G)))
          rw [hcad2]
          exact va_astq hx hb (Fr_K F) hP (WL_D G M) hr.2.1 (ad x' K i) (K - 13) (ad x' k' i') k' he hty he2 (vwCl_at hz2) (inb_vp hj) hd (fin _ en2)
        · have h9 : wrv M x K i j.toNatClampNeg (z + 3) (Sum.inr (Sum.inr (Sum.inl (some (x', k', i'))))) = none := if_neg fun q => hc ⟨by have q1 := q.1; rwa [xp_ne (by omega)] at q1, q.2⟩
          rw [h9] at hw
          cases hw
    · cases hw
end Steps4
