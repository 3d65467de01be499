/-! pieces of a strike -/
theorem lv_c {p p' q q' : PM} {x y i a b : Nat} {r s z : Int} (hp : ∀ S, p'.1 10 (i + 1) S = p.1 10 (i + 1) S) (hR : ∀ S, p'.2.2 10 (i + 1) S = p.2.2 10 (i + 1) S) (h3 : ∀ K, 14 ≤ K → K ≤ 28 → ¬ K = 23 → q'.1 13 K i = q.1 13 K i) (h4 : ∀ K, 4 ≤ K → K ≤ 6 → q'.1 15 K i = q.1 15 K i) (H : LV p q x y i a b r s z) : LV p' q' x y i a b r s z := by
  have e14 := h3 14 (by decide) (by decide) (by decide)
  have e15 := h3 15 (by decide) (by decide) (by decide)
  have e16 := h3 16 (by decide) (by decide) (by decide)
  have e17 := h3 17 (by decide) (by decide) (by decide)
  have e18 := h3 18 (by decide) (by decide) (by decide)
  have e19 := h3 19 (by decide) (by decide) (by decide)
  have e20 := h3 20 (by decide) (by decide) (by decide)
  have e21 := h3 21 (by decide) (by decide) (by decide)
  have e22 := h3 22 (by decide) (by decide) (by decide)
  have e24 := h3 24 (by decide) (by decide) (by decide)
  have e25 := h3 25 (by decide) (by decide) (by decide)
  have e26 := h3 26 (by decide) (by decide) (by decide)
  have e27 := h3 27 (by decide) (by decide) (by decide)
  have e28 := h3 28 (by decide) (by decide) (by decide)
  have f4 := h4 4 (by decide) (by decide)
  have f5 := h4 5 (by decide) (by decide)
  have f6 := h4 6 (by decide) (by decide)
  unfold LV StatR BookedR CauseR at H ⊢
  simp only [hp, hR, e14, e15, e16, e17, e18, e19, e20, e21, e22, e24, e25, e26, e27, e28, f4, f5, f6]
  exact H
theorem fallC_fr {p : PM} {o : Nat} {r n : Int} (h : p.1 10 (o + 1) 9 = cn r) (h1 : rg (r - n)) : (∀ k, ¬ k = 10 → (v10_fall p (o + 1) (cn n)).1 k = p.1 k) ∧ (∀ i S, ¬ i = o → (v10_fall p (o + 1) (cn n)).1 10 (i + 1) S = p.1 10 (i + 1) S) ∧ (∀ S, ¬ (S = 9 ∨ S = 11 ∨ S = 16 ∨ S = 2) → (v10_fall p (o + 1) (cn n)).1 10 (o + 1) S = p.1 10 (o + 1) S) ∧ (v10_fall p (o + 1) (cn n)).2 = p.2 := by
  rw [fallC_e h h1]
  refine ⟨fun k hk => ?_, fun i S hi => ?_, fun S hS => ?_, ?_⟩
  · split
    · exact fC_k hk
    · funext i S
      rw [pI_1, u3_k hk, fC_k hk]
  · split
    · exact fC_i hi
    · rw [pI_1, u3_i (by omega)]
      exact fC_i hi
  · split
    · exact fC_s (by omega) (by omega) (by omega)
    · rw [pI_1, u3_s (by omega)]
      exact fC_s (by omega) (by omega) (by omega)
  · split <;> rfl
theorem fallQ_fr {q : PM} {o a : Nat} {r n : Int} {st : Int32} (ho : o ≤ 2147483647) (ha : a ≤ 2147483647) (h : q.1 13 17 o = cn r) (h2 : q.1 13 15 o = cn a) (h1 : rg (r - n)) : (∀ k, ¬ k = 13 → ¬ k = 15 → (v12_falls q (cn o) (cn n) st).1 k = q.1 k) ∧ (∀ K i, ¬ K = 4 → ¬ (i = o ∧ (K = 17 ∨ K = 22)) → (v12_falls q (cn o) (cn n) st).1 13 K i = q.1 13 K i) ∧ (∀ K i, ¬ (i = o ∧ (K = 6 ∨ K = 3)) → (v12_falls q (cn o) (cn n) st).1 15 K i = q.1 15 K i) ∧ (v12_falls q (cn o) (cn n) st).2 = q.2 ∧ (v12_falls q (cn o) (cn n) st).1 13 17 o = cn (r - n) := by
  rw [fallQ_e ho ha h h2 h1]
  refine ⟨fun k k1 k2 => ?_, fun K i k1 k2 => ?_, fun K i k1 => ?_, rfl, ?_⟩
  · funext i S
    unfold fQ
    simp only [pI_1, u3_k k1, u3_k k2]
  · rw [pI_1, u3_k (by decide)]
    by_cases e : i = o
    · rw [fQ_K (fun e2 => k2 ⟨e, Or.inl e2⟩) (fun e2 => k2 ⟨e, Or.inr e2⟩) k1]
    · exact fQ_i e k1
  · by_cases e : i = o
    · rw [pI_1, u3_i (fun e2 => k1 ⟨e, Or.inr e2⟩), fQ_15 (fun e2 => k1 ⟨e, Or.inl e2⟩)]
    · rw [pI_1, u3_s e]
      by_cases hK : K = 6
      · rw [hK]
        exact fQ_15i e
      · rw [fQ_15 hK]
  · rw [pI_1, u3_k (by decide)]
    exact fQ_17
/-- cells that belong to no relation -/
theorem ww_scr {p q q' : PM} {lg : Nat → Int32} {x y N T D l : Nat} {w : Nat → Prop} {f : Nat → Int} (H : WW p q lg x y w N T D l f) (k1 : ∀ K, ¬ K = 29 → ¬ K = 41 → ¬ K = 42 → q'.1 13 K = q.1 13 K) (k2 : q'.1 15 = q.1 15) (k3 : ∀ S, ¬ S = 64 → ¬ S = 65 → ¬ S = 0 → q'.1 12 1 S = q.1 12 1 S) (k4 : q'.2 = q.2) : WW p q' lg x y w N T D l f := by
  obtain ⟨hO, hA, hB, hD, hK, hI0, hI, hF⟩ := H
  refine ⟨?_, ?_, ?_, ?_, hK, ?_, ?_, ?_⟩
  · exact ord_c rfl rfl rfl rfl (fun K h1 h2 => k1 K (by omega) (by omega) (by omega)) (fun K _ _ => by rw [k2]) (k3 39 (by decide) (by decide) (by decide)) (k3 40 (by decide) (by decide) (by decide)) hO
  · exact af_c rfl (fun _ _ => rfl) rfl (k1 1 (by decide) (by decide) (by decide)) (k1 2 (by decide) (by decide) (by decide)) (k1 3 (by decide) (by decide) (by decide)) (k1 4 (by decide) (by decide) (by decide)) (k1 5 (by decide) (by decide) (by decide)) (by rw [k2]) (by rw [k4]) hA
  · exact brl_c rfl (fun i h1 h2 => k1 i (by omega) (by omega) (by omega)) (by rw [k2]) hB
  · exact dr_c rfl rfl rfl (fun i h1 h2 => k1 i (by omega) (by omega) (by omega)) (by rw [k2]) (by rw [k2]) (k3 48 (by decide) (by decide) (by decide)) hD
  · exact ot_c rfl (fun _ _ => rfl) rfl rfl rfl (fun i h1 h2 => k1 i (by omega) (by omega) (by omega)) (by rw [k2]) (by rw [k2]) (fun i h => k3 i (by omega) (by omega) (by omega)) hI0 (pd_c (k1 1 (by decide) (by decide) (by decide)) (k3 48 (by decide) (by decide) (by decide)) (by rw [k4]) hI0)
  · exact iq_c (fun K h1 h2 => k1 K (by omega) (by omega) (by omega)) (fun K _ _ => by rw [k2]) (k1 12 (by decide) (by decide) (by decide)) (k1 30 (by decide) (by decide) (by decide)) (k3 17 (by decide) (by decide) (by decide)) hI
  · exact fb_c (by rw [k2]) (k1 17 (by decide) (by decide) (by decide)) (k1 4 (by decide) (by decide) (by decide)) (k3 95 (by decide) (by decide) (by decide)) hF
/-- the class's scratch: the queue and what it gets -/
theorem ww_scrC {p p' q : PM} {lg : Nat → Int32} {x y N T D l : Nat} {w : Nat → Prop} {f : Nat → Int} (H : WW p q lg x y w N T D l f) (h1 : ∀ K, ¬ K = 13 → p'.1 K = p.1 K) (h2 : ∀ i, ¬ i = 19 → p'.1 13 i = p.1 13 i) (h3 : p'.2.1 = p.2.1) (h4 : ∀ K, ¬ K = 20 → p'.2.2 K = p.2.2 K) : WW p' q lg x y w N T D l f := by
  obtain ⟨hO, hA, hB, hD, hK, hI0, hI, hF⟩ := H
  refine ⟨?_, ?_, ?_, ?_, ?_, ?_, hI, hF⟩
  · exact ord_c (h1 10 (by decide)) (h4 10 (by decide)) (by rw [h1 6 (by decide)]) (by rw [h1 6 (by decide)]) (fun _ _ _ => rfl) (fun _ _ _ => rfl) rfl rfl hO
  · exact af_c (h1 0 (by decide)) (fun i hi => h2 i (by omega)) h3 rfl rfl rfl rfl rfl rfl rfl hA
  · exact brl_c (h1 1 (by decide)) (fun _ _ _ => rfl) rfl hB
  · exact dr_c (h1 4 (by decide)) (h1 7 (by decide)) (h4 4 (by decide)) (fun _ _ _ => rfl) rfl rfl rfl hD
  · exact ck_c (h1 0 (by decide)) (h1 1 (by decide)) hK
  · exact ot_c (h1 9 (by decide)) (fun i hi => h2 i (by omega)) (h1 2 (by decide)) (by rw [h1 6 (by decide)]) (by rw [h1 6 (by decide)]) (fun _ _ _ => rfl) rfl rfl (fun _ _ => rfl) hI0 (pd_c rfl rfl rfl hI0)
theorem kq_pI {q : PM} {K : Nat → Bool} {k i s : Nat} {v : Int32} (h1 : ¬ k = 15) (h2 : ¬ (k = 13 ∧ (i = 15 ∨ i = 19))) : kq (pI q k i s v) K = pI (kq q K) k i s v := by
  refine pm_ext (fun k' i' s' => ?_) rfl
  have e1 : ∀ s, (pI q k i s v).1 13 19 = (fun s' => (pI q k i s v).1 13 19 s') := fun _ => rfl
  have c1 : ∀ s'', (pI q k i s v).1 13 19 s'' = q.1 13 19 s'' := fun s'' => by
    rw [pI_1]
    by_cases e : k = 13
    · exact u3_i fun e2 => h2 ⟨e, Or.inr e2.symm⟩
    · exact u3_k fun e2 => e e2.symm
  have c2 : ∀ s'', (pI q k i s v).1 13 15 s'' = q.1 13 15 s'' := fun s'' => by
    rw [pI_1]
    by_cases e : k = 13
    · exact u3_i fun e2 => h2 ⟨e, Or.inl e2.symm⟩
    · exact u3_k fun e2 => e e2.symm
  by_cases hk : k' = 15
  · subst hk
    have c3 : ∀ i'' s'', (pI q k i s v).1 15 i'' s'' = q.1 15 i'' s'' := fun i'' s'' => by rw [pI_1, u3_k fun e => h1 e.symm]
    have c4 : (pI (kq q K) k i s v).1 15 i' s' = (kq q K).1 15 i' s' := by rw [pI_1, u3_k fun e => h1 e.symm]
    rw [c4]
    by_cases h3 : i' = 3
    · subst h3
      rw [kq_3, kq_3, c1, c2, c3]
    · by_cases h5 : i' = 1
      · subst h5
        rw [kq_1, kq_1, c3]
      · rw [kq_15 h3 h5, kq_15 h3 h5, c3]
  · rw [kq_k hk, pI_1, pI_1]
    unfold u3
    by_cases h5 : k' = k ∧ i' = i ∧ s' = s
    · rw [if_pos h5, if_pos h5]
    · rw [if_neg h5, if_neg h5, kq_k hk]
theorem sQ_kq {q : PM} {K : Nat → Bool} {o T : Nat} {r s : Int} (ho : o < 40) (h1 : q.1 13 17 o = cn r) (h2 : q.1 13 21 o = cn s) (k1 : rg r) (k2 : rg s) (hT : q.1 12 1 40 = cn T) : kq (sQ q o) K = sQ (kq q K) o := by
  unfold sQ
  have e1 : (kq q K).1 13 19 o = q.1 13 19 o := by rw [kq_k (by decide)]
  have e2 : (kq q K).1 13 22 o = q.1 13 22 o := by rw [kq_k (by decide)]
  rw [e1, e2]
  by_cases h3 : q.1 13 19 o = cn 1
  · have e3 : (kq q K).1 15 3 o = q.1 15 3 o := by
      rw [kq_3, if_neg]
      intro h
      rw [h3] at h
      exact absurd h.2.1 (by decide)
    rw [e3]
    by_cases h4 : q.1 15 3 o = 0
    · rw [if_pos h4, if_pos h4]
    · rw [if_neg h4, if_neg h4, if_pos h3, if_pos h3]
      by_cases h5 : q.1 13 22 o = 0
      · rw [if_pos h5, if_pos h5, shAn_e (r := r) (s := s) q (by omega) h1 h2 k1 k2, shAn_e (r := r) (s := s) (kq q K) (by omega) (by rw [kq_k (by decide)]; exact h1) (by rw [kq_k (by decide)]; exact h2) k1 k2]
        rw [newT_e (T := T) _ (by omega) (by simp (decide := true) only [pI_1, pI_J, pI_R, u3_same, u3_k, u3_i, u3_s, not_false_eq_true]; exact hT), newT_e (T := T) _ (by omega) (by simp (decide := true) only [pI_1, pI_J, pI_R, u3_same, u3_k, u3_i, u3_s, not_false_eq_true]; rw [kq_k (by decide)]; exact hT)]
        rw [kq_pI (by decide) (by decide), kq_pI (by decide) (by decide), kq_pI (by decide) (by decide)]
      · rw [if_neg h5, if_neg h5]
  · rw [if_neg h3, if_neg h3]
    by_cases h4 : q.1 15 3 o = 0
    · rw [if_pos h4]
      split <;> rfl
    · rw [if_neg h4]
      split <;> rfl
theorem sQ_fr {q : PM} {o T : Nat} {r s : Int} (ho : o < 40) (h1 : q.1 13 17 o = cn r) (h2 : q.1 13 21 o = cn s) (k1 : rg r) (k2 : rg s) (hT : q.1 12 1 40 = cn T) : (∀ k, ¬ k = 13 → ¬ k = 12 → (sQ q o).1 k = q.1 k) ∧ (∀ K i, ¬ (i = o ∧ (K = 22 ∨ K = 23)) → (sQ q o).1 13 K i = q.1 13 K i) ∧ (∀ S, ¬ S = 40 → (sQ q o).1 12 1 S = q.1 12 1 S) ∧ (sQ q o).2 = q.2 := by
  have hq : sQ q o = q ∨ sQ q o = pI (pI (pI q 13 22 o (cn (if s < r then s else r))) 13 23 o (cn T)) 12 1 40 (cn (T + 1 : Nat)) := by
    unfold sQ
    split
    · exact Or.inl rfl
    · split
      · split
        · right
          rw [shAn_e (r := r) (s := s) q (by omega) h1 h2 k1 k2, newT_e (T := T) _ (by omega) (by simp (decide := true) only [pI_1, pI_J, pI_R, u3_same, u3_k, u3_i, u3_s, not_false_eq_true]; exact hT)]
        · exact Or.inl rfl
      · exact Or.inl rfl
  rcases hq with hq | hq <;> rw [hq]
  · exact ⟨fun _ _ _ => rfl, fun _ _ _ => rfl, fun _ _ => rfl, rfl⟩
  · refine ⟨fun k h3 h4 => ?_, fun K i h3 => ?_, fun S h3 => ?_, rfl⟩
    · funext i S
      simp only [pI_1, u3_k h3, u3_k h4]
    · rw [pI_1, u3_k (by decide), pI_1, pI_1]
      by_cases e : i = o
      · rw [u3_i (fun e2 => h3 ⟨e, Or.inr e2⟩), u3_i (fun e2 => h3 ⟨e, Or.inl e2⟩)]
      · rw [u3_s e, u3_s e]
    · rw [pI_1, u3_s h3]
      simp (decide := true) only [pI_1, pI_J, pI_R, u3_same, u3_k, u3_i, u3_s, not_false_eq_true]
/-- the class's part of an iceberg that shows anew -/
theorem showC_fr {p : PM} {o T : Nat} (hT : p.1 6 1 5 = cn T) : (∀ k, ¬ k = 10 → ¬ k = 6 → (v6_showAnew p (o + 1)).1 k = p.1 k) ∧ (∀ i S, ¬ i = o → (v6_showAnew p (o + 1)).1 10 (i + 1) S = p.1 10 (i + 1) S) ∧ (v6_showAnew p (o + 1)).2 = p.2 := by
  unfold v6_showAnew bv6_showAnew
  split
  · split
    · exact ⟨fun _ _ _ => rfl, fun _ _ _ => rfl, rfl⟩
    · dsimp only
      rw [nextT_e (T := T) _ (by simp (decide := true) only [pI_1, pI_J, pI_R, u3_same, u3_k, u3_i, u3_s, not_false_eq_true]; exact hT)]
      refine ⟨fun k h1 h2 => ?_, fun i S h => ?_, rfl⟩
      · funext i S
        simp only [pI_1, u3_k h1, u3_k h2]
      · simp (decide := true) only [pI_1, u3_k, not_false_eq_true, u3_i (show ¬ i + 1 = o + 1 by omega)]
  · exact ⟨fun _ _ _ => rfl, fun _ _ _ => rfl, rfl⟩
theorem guardC_fr {p : PM} {o a : Nat} {v : Int32} : (∀ k, ¬ k = 10 → ¬ k = 0 → (v6_guard p (o + 1) v).1 k = p.1 k) ∧ (∀ i S, ¬ S = 2 → (v6_guard p (o + 1) v).1 10 i S = p.1 10 i S) ∧ (v6_guard p (o + 1) v).2 = p.2 := by
  unfold v6_guard bv6_guard
  dsimp only
  split
  · split
    · exact ⟨fun k _ h => by funext i S; rw [pI_1, u3_k h], fun i S _ => rfl, rfl⟩
    · split
      · exact ⟨fun k _ h => by funext i S; rw [pI_1, u3_k h], fun i S _ => rfl, rfl⟩
      · obtain ⟨-, l2, l3, -⟩ := g62_loop (A := p.2.2 10 (o + 1) 3) 40 0 FU (pI (pI p 0 (p.2.2 10 (o + 1) 3) 6 (p.1 0 (p.2.2 10 (o + 1) 3) 6 + v)) 0 (p.2.2 10 (o + 1) 3) 7 (cn 1)) rfl (by decide)
        refine ⟨fun k h1 h2 => ?_, fun i S h => ?_, l3⟩
        · funext i S
          refine (l2 k i S fun h3 => h1 h3.1).trans ?_
          rw [pI_1, u3_k h2, pI_1, u3_k h2]
        · refine (l2 10 i S fun h3 => h h3.2).trans ?_
          rw [pI_1, u3_k (by decide), pI_1, u3_k (by decide)]
  · exact ⟨fun _ _ _ => rfl, fun _ _ _ => rfl, rfl⟩
