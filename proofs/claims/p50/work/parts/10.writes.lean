/-! one step of a frame, over the machine: what writes the memory -/
theorem gI_sI {M : Mem} {x k i s : Nat} {v : Int32} {x' k' i' s' : Nat} : gI (sI M x k i s v) x' k' i' s' = if x' = x ∧ k' = k ∧ i' = i ∧ s' = s then v else gI M x' k' i' s' := by
  unfold gI sI sP u3
  by_cases h : x' = x
  · subst h
    simp only [if_true, true_and]
  · simp only [h, if_false, false_and]
theorem gJ_sI {M : Mem} {x k i s : Nat} {v : Int32} {x' k' i' s' : Nat} : gJ (sI M x k i s v) x' k' i' s' = gJ M x' k' i' s' := by
  unfold gJ sI sP
  by_cases h : x' = x
  · subst h; simp only [if_true]
  · simp only [h, if_false]
theorem gR_sI {M : Mem} {x k i s : Nat} {v : Int32} {x' k' i' s' : Nat} : gR (sI M x k i s v) x' k' i' s' = gR M x' k' i' s' := by
  unfold gR sI sP
  by_cases h : x' = x
  · subst h; simp only [if_true]
  · simp only [h, if_false]
theorem gJ_sJ {M : Mem} {x k i s : Nat} {v : Int64} {x' k' i' s' : Nat} : gJ (sJ M x k i s v) x' k' i' s' = if x' = x ∧ k' = k ∧ i' = i ∧ s' = s then v else gJ M x' k' i' s' := by
  unfold gJ sJ sP u3
  by_cases h : x' = x
  · subst h
    simp only [if_true, true_and]
  · simp only [h, if_false, false_and]
theorem gI_sJ {M : Mem} {x k i s : Nat} {v : Int64} {x' k' i' s' : Nat} : gI (sJ M x k i s v) x' k' i' s' = gI M x' k' i' s' := by
  unfold gI sJ sP
  by_cases h : x' = x
  · subst h; simp only [if_true]
  · simp only [h, if_false]
theorem gR_sJ {M : Mem} {x k i s : Nat} {v : Int64} {x' k' i' s' : Nat} : gR (sJ M x k i s v) x' k' i' s' = gR M x' k' i' s' := by
  unfold gR sJ sP
  by_cases h : x' = x
  · subst h; simp only [if_true]
  · simp only [h, if_false]
theorem gR_sR {M : Mem} {x k i s : Nat} {v : Nat} {x' k' i' s' : Nat} : gR (sR M x k i s v) x' k' i' s' = if x' = x ∧ k' = k ∧ i' = i ∧ s' = s then v else gR M x' k' i' s' := by
  unfold gR sR sP u3
  by_cases h : x' = x
  · subst h
    simp only [if_true, true_and]
  · simp only [h, if_false, false_and]
theorem gI_sR {M : Mem} {x k i s : Nat} {v : Nat} {x' k' i' s' : Nat} : gI (sR M x k i s v) x' k' i' s' = gI M x' k' i' s' := by
  unfold gI sR sP
  by_cases h : x' = x
  · subst h; simp only [if_true]
  · simp only [h, if_false]
theorem gJ_sR {M : Mem} {x k i s : Nat} {v : Nat} {x' k' i' s' : Nat} : gJ (sR M x k i s v) x' k' i' s' = gJ M x' k' i' s' := by
  unfold gJ sR sP
  by_cases h : x' = x
  · subst h; simp only [if_true]
  · simp only [h, if_false]
/-- what a write does: the counts stay; other places stay; the place reads what was written -/
theorem wr_all {M M' : Mem} {x k i s t : Nat} {v : AV} (h : wrv M x k i s t v = some M') (hn : ∀ x' k' i', v = Sum.inr (Sum.inr (Sum.inl (some (x', k', i')))) → i' ≠ 0) : M'.2 = M.2 ∧ rdv M' x k i s t = v ∧ (∀ x' k' i' s', ¬ (x' = x ∧ k' = k ∧ i' = i ∧ s' = s) → gI M' x' k' i' s' = gI M x' k' i' s' ∧ gJ M' x' k' i' s' = gJ M x' k' i' s' ∧ gR M' x' k' i' s' = gR M x' k' i' s') := by
  unfold wrv at h
  split at h
  · cases h
    refine ⟨rfl, ?_, fun x' k' i' s' hne => ⟨?_, gJ_sI, gR_sI⟩⟩
    · show vI _ = _
      rw [gI_sI, if_pos ⟨rfl, rfl, rfl, rfl⟩]; rfl
    · rw [gI_sI, if_neg hne]
  · split at h
    · cases h
      refine ⟨rfl, ?_, fun x' k' i' s' hne => ⟨?_, gJ_sI, gR_sI⟩⟩
      · show vI _ = _
        rw [gI_sI, if_pos ⟨rfl, rfl, rfl, rfl⟩]; rfl
      · rw [gI_sI, if_neg hne]
    · cases h
  · cases h
    refine ⟨rfl, ?_, fun x' k' i' s' hne => ⟨gI_sJ, ?_, gR_sJ⟩⟩
    · show vL _ = _
      rw [gJ_sJ, if_pos ⟨rfl, rfl, rfl, rfl⟩]; rfl
    · rw [gJ_sJ, if_neg hne]
  · cases h
    refine ⟨rfl, ?_, fun x' k' i' s' hne => ⟨gI_sR, gJ_sR, ?_⟩⟩
    · show vR _ _ _ = _
      rw [gR_sR, if_pos ⟨rfl, rfl, rfl, rfl⟩]; rfl
    · rw [gR_sR, if_neg hne]
  · split at h
    · next hc =>
      cases h
      obtain ⟨e1, e2⟩ := hc
      refine ⟨rfl, ?_, fun x' k' i' s' hne => ⟨gI_sR, gJ_sR, ?_⟩⟩
      · show vR _ _ _ = _
        rw [gR_sR, if_pos ⟨rfl, rfl, rfl, rfl⟩, vR_pos (hn _ _ _ rfl), e1, e2]
      · rw [gR_sR, if_neg hne]
    · cases h
  · cases h
theorem wr_nar {G : wG} {M M' : Mem} {x k i s t : Nat} {v : AV} {ty : FieldType} (h : wrv M x k i s t v = some M') (hty : tyOK ty t = true) : narrow ty (cv G v) = cv G v ∧ fits ty (cv G v) = true := by
  unfold wrv at h
  split at h
  · cases ty <;> first | exact ⟨rfl, rfl⟩ | (exact absurd hty (by simp [tyOK]))
  · split at h
    · next y hy =>
      rcases hy with rfl | rfl <;> cases ty <;> first | exact ⟨rfl, rfl⟩ | (exact absurd hty (by simp [tyOK]))
    · cases h
  · cases ty <;> first | exact ⟨rfl, rfl⟩ | (exact absurd hty (by simp [tyOK]))
  · cases ty <;> first | exact ⟨rfl, rfl⟩ | (exact absurd hty (by simp [tyOK]))
  · cases ty <;> first | exact ⟨rfl, rfl⟩ | (exact absurd hty (by simp [tyOK]))
  · cases h
theorem wr_WF {M M' : Mem} {x k i s t : Nat} {v : AV} (h : wrv M x k i s t v = some M') (hW : WF M) (hv : VV M.2.1 v) (ht : tyS k s = t) : WF M' := by
  intro x' k' i' s' j hx hV ht' h0
  unfold wrv at h
  split at h
  · cases h
    rw [gR_sI] at h0 ⊢
    exact hW x' k' i' s' j hx hV ht' h0
  · split at h
    · cases h
      rw [gR_sI] at h0 ⊢
      exact hW x' k' i' s' j hx hV ht' h0
    · cases h
  · cases h
    rw [gR_sJ] at h0 ⊢
    exact hW x' k' i' s' j hx hV ht' h0
  · cases h
    rw [gR_sR] at h0 ⊢
    by_cases e : x' = x ∧ k' = k ∧ i' = i ∧ s' = s
    · rw [if_pos e] at h0; exact absurd rfl h0
    · rw [if_neg e] at h0 ⊢
      exact hW x' k' i' s' j hx hV ht' h0
  · split at h
    · next hc =>
      cases h
      rw [gR_sR] at h0 ⊢
      by_cases e : x' = x ∧ k' = k ∧ i' = i ∧ s' = s
      · rw [if_pos e] at h0 ⊢
        obtain ⟨e1, e2, e3, e4⟩ := e
        subst e1; subst e2; subst e3; subst e4
        obtain ⟨c1, c2⟩ := hc
        subst c1; subst c2
        rw [ht] at ht'
        have ej := Nat.succ.inj (Nat.succ.inj (Nat.succ.inj ht'))
        rw [← ej]
        exact hv
      · rw [if_neg e] at h0 ⊢
        exact hW x' k' i' s' j hx hV ht' h0
    · cases h
  · cases h
theorem rdv_eq {M M' : Mem} {x k i s t : Nat} (h : gI M' x k i s = gI M x k i s ∧ gJ M' x k i s = gJ M x k i s ∧ gR M' x k i s = gR M x k i s) : rdv M' x k i s t = rdv M x k i s t := by
  obtain ⟨h1, h2, h3⟩ := h
  rcases t with _ | _ | _ | j
  · exact congrArg vI h1
  · exact congrArg vI h1
  · exact congrArg vL h2
  · exact congrArg (vR (xp k s x) j) h3
theorem ent_eq {G : wG} {M M' : Mem} {a x k i len : Nat} (ha : aE a = (x, k, i, len)) (h : ∀ s, gI M' x k i s = gI M x k i s ∧ gJ M' x k i s = gJ M x k i s ∧ gR M' x k i s = gR M x k i s) : ent G M' a = ent G M a := by
  by_cases hk : k < 13
  · rw [ent_obj ha hk, ent_obj ha hk]
    congr 2
    exact List.map_congr_left fun s _ => congrArg (cv G) (rdv_eq (h s))
  · rw [ent_arr ha hk, ent_arr ha hk]
    have e1 : gI M' x k i = gI M x k i := funext fun s => (h s).1
    have e2 : gJ M' x k i = gJ M x k i := funext fun s => (h s).2.1
    have e3 : (fun s => rfo G x (elK k - 3) (gR M' x k i s)) = (fun s => rfo G x (elK k - 3) (gR M x k i s)) := funext fun s => by rw [(h s).2.2]
    rw [e1, e2, e3]
theorem WL_set {G : wG} {M M' : Mem} {a : Nat} {E : va_E} (hn : M'.2.1 = M.2.1) (ho : ∀ b, b < M.2.1 → b ≠ a → ent G M' b = ent G M b) (hE : ent G M' a = E) : WL G M' = (WL G M).set a (gB G + a, E) := by
  apply List.ext_getElem?
  intro b
  unfold WL
  rw [List.getElem?_set, List.getElem?_map, List.getElem?_map, hn]
  by_cases hb : b < M.2.1
  · rw [List.getElem?_range hb]
    by_cases e : a = b
    · subst e
      rw [if_pos rfl, List.length_map, List.length_range, if_pos hb, ← hE]
      rfl
    · rw [if_neg e]
      show some (gB G + b, ent G M' b) = some (gB G + b, ent G M b)
      rw [ho b hb (Ne.symm e)]
  · rw [List.getElem?_eq_none (by rw [List.length_range]; omega)]
    by_cases e : a = b
    · subst e
      rw [if_pos rfl, List.length_map, List.length_range, if_neg hb]
      rfl
    · rw [if_neg e]
      rfl
/-- a write to one object leaves the others' rows -/
theorem WL_wr {G : wG} {M M' : Mem} {x k i len s t : Nat} {v : AV} {E : va_E} (hw : wrv M x k i s t v = some M') (hi : ∀ x' k' i', v = Sum.inr (Sum.inr (Sum.inl (some (x', k', i')))) → i' ≠ 0) (ha : aE (ad x k i) = (x, k, i, len)) (hN : M.2.1 ≤ aT.length) (hE : ent G M' (ad x k i) = E) : WL G M' = (WL G M).set (ad x k i) (gB G + ad x k i, E) := by
  obtain ⟨h2, -, h3⟩ := wr_all hw hi
  refine WL_set (by rw [h2]) (fun b hb hne => ?_) hE
  generalize hz : aE b = z
  obtain ⟨x', k', i', len'⟩ := z
  refine ent_eq hz fun s' => h3 x' k' i' s' fun q => ?_
  obtain ⟨q1, q2, q3, -⟩ := q
  have hb2 := (aE_ok (by omega) hz).2.2.2.1
  rw [q1, q2, q3] at hb2
  exact hne hb2.symm
section Steps3
variable {G : wG} {p : Program} {l : Launch} {e : Env} {R : Room} {s : State} {m : MethodId} {args : Array Value} {below : List Frame} {meth : Method} {c : Code} {H : Heap} {locs : List Loc} {cells slots : Nat} {Q : State → Prop}
variable {k pc : Nat} {la sa : List AV} {M : Mem} {ls : Array Slot} {st : List Value}
theorem HW_mk {M' : Mem} {H' : Heap} {locs' : List Loc} (F : Fr G p l s m args meth c k) (hr : RC G k M la sa s H locs ls st) (hP : va_P (gD G) vwCl (WL G M') H') (hWF : WF M') (hN : M'.2.1 ≤ aT.length) (hS : va_S (gA G) s.heap H' locs') (hL : M'.2.2.1 = M.2.2.1) (hx : ∀ j, gI M' 4 13 1 j = gI M 4 13 1 j) : HW G M' H' := by
  obtain ⟨-, -, -, -, -, -, -, -, -, -, hold, hsz⟩ := F
  refine ⟨hP, hWF, hN, ?_, fun q hq => ?_, hL.trans hr.1.2.2.2.2.2.1, fun j => (hx j).trans (hr.1.2.2.2.2.2.2 j)⟩
  · rcases Nat.eq_zero_or_pos M'.2.1 with h0 | h0
    · rw [h0]
      exact Nat.le_trans hsz hS.1
    · have h1 := (hP _ _ (WL_at (G := G) (M := M') (a := M'.2.1 - 1) (by omega))).lt
      have h2 : gB G + (M'.2.1 - 1) < H'.size := h1
      omega
  · rw [hS.2.1 q (Nat.lt_of_lt_of_le hq hsz) (fun z => Nat.not_le.mpr hq z)]
    exact hold q hq
theorem VV_of {M' : Mem} (h : M'.2 = M.2) {r : List AV} (hr : ∀ v ∈ r, VV M.2.1 v) : ∀ v ∈ r, VV M'.2.1 v := by
  rw [h]; exact hr

theorem go_put (F : Fr G p l s m args meth c k) (hr : RC G k M la sa s H locs ls st) {q K S t f ps x i : Nat} {v : AV} {M' : Mem} {st' : List AV} (hp : pF (mO k) q = some (K, S, t, f, ps)) (hsa : sa = v :: Sum.inr (Sum.inr (Sum.inl (some (x, K, i)))) :: st') (hx4 : x < 4) (hf : f = 0 ∨ (f = 1 ∧ K = mO k ∧ (mN k).name = "<init>")) (hw : wrv M x K i S t v = some M') (hd : decode (mB k) pc = .ok (.putfield q, 3))
    (kk : ∀ (H' : Heap) (locs' : List Loc), RC G k M' la st' s H' locs' ls (st'.map (cv G)) → W p l e R s m args below meth c H' locs' cells slots Q (F0 m (pc + 3) ls (st'.map (cv G)))) : W p l e R s m args below meth c H locs cells slots Q (F0 m pc ls st) := by
  obtain ⟨hx, hb, hml, hret, hown, hts, hlk, hnm, hG0, hwm, hold, hsz⟩ := id F
  obtain ⟨hK13, hS, hty, hlink, hcl, hfin, hf1, htok⟩ := pF_ok hp
  subst hsa
  have hin := RC_in hr
  obtain rfl := RC_eq hr
  have hV : VO M.2.1 x K i := (alh (alt hin)).1
  obtain ⟨len, ha, han, hnN, hk22, hi0, hlen, -⟩ := VO_at hV hx4
  have hlen := hlen hK13
  subst hlen
  obtain ⟨hP, hWF, hN, hsize, hlow, hL, hxs⟩ := id hr.1
  have he := WL_at (G := G) han
  rw [ent_obj ha hK13] at he
  have hcad : cad G x K i = gB G + ad x K i := if_neg (by omega)
  show W p l e R s m args below meth c H locs cells slots Q (F0 m pc ls (cv G v :: .ref (cad G x K i) :: st'.map (cv G)))
  rw [hcad]
  have hn0 : ∀ x' k' i', v = Sum.inr (Sum.inr (Sum.inl (some (x', k', i')))) → i' ≠ 0 := by
    intro x' k' i' hv
    have hv2 : VV M.2.1 v := (alh hin).1
    rw [hv] at hv2
    have hv3 : VO M.2.1 x' k' i' := hv2
    rcases id hv3 with ⟨a1, a2⟩ | ⟨a1, a2⟩
    · rw [hv] at hw
      unfold wrv at hw
      split at hw <;> first | (cases hw; done) | skip
      · rename_i heq; cases heq
      · rename_i heq; cases heq
      · rename_i heq; cases heq
      · rename_i heq; cases heq
      · rename_i heq
        cases heq
        split at hw
        · next hc =>
          have h9 := xp_lt (k := K) (s := S) hx4
          omega
        · cases hw
    · exact (VO_at hv3 a1).choose_spec.2.2.2.2.1
  obtain ⟨w2, wr, wo⟩ := wr_all hw hn0
  obtain ⟨nn, nf⟩ := wr_nar (G := G) hw htok
  have hEn : ent G M' (ad x K i) = .inr (K, ((List.range (nfK K)).map fun s9 => cv G (rdv M x K i s9 (tyS K s9))).set S (cv G v)) := by
    rw [ent_obj ha hK13]
    congr 2
    apply List.ext_getElem?
    intro j
    rw [List.getElem?_set, List.getElem?_map, List.getElem?_map, List.length_map, List.length_range]
    by_cases hj : j < nfK K
    · rw [List.getElem?_range hj]
      by_cases e : S = j
      · subst e
        rw [if_pos rfl, if_pos hj]
        show some (cv G (rdv M' x K i S (tyS K S))) = some (cv G v)
        rw [hty, wr]
      · rw [if_neg e]
        show some (cv G (rdv M' x K i j (tyS K j))) = some (cv G (rdv M x K i j (tyS K j)))
        rw [rdv_eq (wo x K i j (fun z => e z.2.2.2.symm))]
    · rw [List.getElem?_eq_none (by rw [List.length_range]; omega)]
      by_cases e : S = j
      · omega
      · rw [if_neg e]
        rfl
  have hWL := WL_wr (G := G) hw hn0 ha hN hEn
  have fin : ∀ (H1 : Heap) (locs1 : List Loc), va_P (gD G) vwCl ((WL G M).set (ad x K i) (gB G + ad x K i, .inr (K, ((List.range (nfK K)).map fun s9 => cv G (rdv M x K i s9 (tyS K s9))).set S (cv G v)))) H1 → va_D (gA G) ((WL G M).set (ad x K i) (gB G + ad x K i, .inr (K, ((List.range (nfK K)).map fun s9 => cv G (rdv M x K i s9 (tyS K s9))).set S (cv G v)))) → va_S (gA G) s.heap H1 locs1 → W p l e R s m args below meth c H1 locs1 cells slots Q (F0 m (pc + 3) ls (st'.map (cv G))) := by
    intro H1 locs1 hP1 hD1 hS1
    rw [← hWL] at hP1
    have hv0 : ∀ v ∈ la, VV M'.2.1 v := VV_of w2 hr.2.2.2.2.2.1
    refine kk H1 locs1 ⟨HW_mk F hr hP1 (wr_WF hw hWF (alh hin).1 hty) (by rw [w2]; exact hN) hS1 (by rw [w2]) (fun j => (wo 4 13 1 j (fun z => by omega)).1), hS1, hr.2.2.1, hr.2.2.2.1, rfl, hv0, fun z hz => ?_⟩
    rw [w2]
    exact alt (alt hin) z hz
  have hll : S < ((List.range (nfK K)).map fun s9 => cv G (rdv M x K i s9 (tyS K s9))).length := by rw [List.length_map, List.length_range]; exact hS
  rcases hf with hf0 | ⟨hf1', hKk, hini⟩
  · have hfin' : (TXs K S).2.2.2 = false := by rw [hfin, hf0]; rfl
    exact va_put hx hb hts (uws_in hK13) (tyXs K) (tyXs_ok hK13) (nmXs hK13) hown (Fr_K F) hP (WL_D G M) hr.2.1 (ad x K i) he (vwCl_at hK13) S hS (hts _ hlink) (fun z hz => by rw [hcl] at hz; exact hz) hfin' (tyXs_ok hK13 S hS) nn nf hll hd fin
  · have hfin' : (TXs K S).2.2.2 = true := by rw [hfin, hf1']; rfl
    exact va_putF hx hb hts (uws_in hK13) (tyXs K) (tyXs_ok hK13) (nmXs hK13) hown (Fr_K F) hP (WL_D G M) hr.2.1 (ad x K i) he (vwCl_at hK13) S hS (hts _ hlink) (fun z hz => by rw [hcl] at hz; exact hz) hfin' (hnm hini) (by rw [hcl, hKk]) (tyXs_ok hK13 S hS) nn nf hll hd fin
end Steps3
