/-! one peg: it waits, or gets a price and a turn -/
def PgF (j : Nat) (q q' : PM) : Prop := (∀ K, ¬ (K = 23 ∨ K = 24 ∨ K = 25) → q'.1 13 K = q.1 13 K) ∧ q'.1 15 = q.1 15 ∧ ∀ i, ¬ i = j → q'.1 13 24 i = q.1 13 24 i
theorem hold_e (p : PM) (o : Nat) : v10_hold p (o + 1) = pI (pI p 10 (o + 1) 2 (cn 2)) 10 (o + 1) 7 (cn (-100000)) ∧ g10_hold p (o + 1) := by
  have hz : ¬ o + 1 = 0 := by omega
  exact ⟨rfl, hz, hz, trivial⟩
noncomputable def cM (p : PM) (j : Nat) (v : Int32) : PM :=
  let p2 : PM := pI (pI p 10 (j + 1) 2 (cn 1)) 10 (j + 1) 7 v
  let p3 : PM := pI p2 10 (j + 1) 11 (v10_showable p2 (j + 1))
  pI (v6_nextTurn p3).2 10 (j + 1) 12 (v6_nextTurn p3).1
theorem move_e {p : PM} {j : Nat} {v : Int32} (hv : ¬ v = cn (-100000)) : v6_movePeg p (j + 1) v = (if p.1 10 (j + 1) 2 = cn 2 then cM p j v else if p.1 10 (j + 1) 7 = v then p else cM p j v) := by
  unfold v6_movePeg bv6_movePeg
  simp only [if_neg hv]
  rfl
theorem g_move (p : PM) (j : Nat) (v : Int32) : g6_movePeg p (j + 1) v := by
  have hz : ¬ j + 1 = 0 := by omega
  unfold g6_movePeg bg6_movePeg g10_showable bg10_showable g14_min_7cf53 bg14_min_7cf53 g6_nextTurn bg6_nextTurn g10_hold bg10_hold
  repeat' first
    | with_reducible exact hz
    | exact trivial
    | exact not_false
    | apply And.intro
    | (split <;> rename_i h9 <;> first | simp only [if_neg h9, if_true, if_false] | simp only [if_pos h9, if_true, if_false] | skip)
section One
variable {p q : PM} {lg : Nat → Int32} {N T D l j a b : Nat} {r s z : Int}
theorem ww_wait (H : WW p q lg 99 99 (fun _ => False) N T D l (fun _ => 0)) (hj : j < 40) (hl : q.1 15 3 j = cn 1) (hL : LV p q 99 99 j a b r s z) (hk : q.1 13 19 j = cn 2) : WW (v10_hold p (j + 1)) (pI q 13 24 j (cn 2)) lg 99 99 (fun _ => False) N T D l (fun _ => 0) ∧ RS (pI q 13 24 j (cn 2)) 40 = RS q 40 := by
  rw [(hold_e p j).1]
  have q24 : (pI q 13 24 j (cn 2)).1 13 24 j = cn 2 := pI_at
  have hno : ¬ stnd (pI q 13 24 j (cn 2)) j := fun h => by
    have := h.2
    rw [q24] at this
    exact absurd this (by decide)
  refine ww_st (x' := 99) (w' := fun _ => False) (T' := T) H hj hl hL ?_ ?_ ?_ rfl ?_ ?_ ?_ rfl (fun _ _ _ => rfl) ?_ ?_ (fun h => absurd h hno) (fun h => absurd h hno) (fun _ _ h => h) (fun _ h => absurd q24 h)
  · intro i S h
    rw [pI_1, pI_1]
    by_cases e : i = j + 1
    · rw [u3_s (fun e2 => h ⟨e, by omega⟩), u3_s (fun e2 => h ⟨e, by omega⟩)]
    · rw [u3_i e, u3_i e]
  · intro K h1 h2
    funext i S
    rw [pI_1, u3_k h1, pI_1, u3_k h1]
  · intro S h
    rw [pI_1, u3_k (by decide), pI_1, u3_k (by decide)]
  · intro K i h
    rw [pI_1]
    by_cases e : i = j
    · rw [u3_i (fun e2 => h ⟨e, by omega⟩)]
    · rw [u3_s e]
  · funext i S
    rw [pI_1, u3_k (by decide)]
  · intro S h
    rw [pI_1, u3_k (by decide)]
  · refine Or.inr (Or.inr ⟨by omega, ?_, q24, pI_at, Or.inl ?_⟩)
    · rw [pI_1, u3_s (by decide), pI_at]
    · rw [pI_1, u3_i (by decide)]
      exact hk
  · refine Or.inl ⟨rfl, ?_, ?_, fun h => absurd h hno⟩
    · rw [pI_1, u3_k (by decide), pI_1, u3_k (by decide)]
      exact H.1.2.2.1.2.2.1
    · rw [pI_1, u3_k (by decide)]
      exact H.1.2.2.1.2.2.2.1
theorem ww_move {v : Int} (H : WW p q lg 99 99 (fun _ => False) N T D l (fun _ => 0)) (hj : j < 40) (hl : q.1 15 3 j = cn 1) (hL : LV p q 99 99 j a b r s z) (hk : q.1 13 19 j = cn 2) (hv : PrB b v) (hT : T + 1 ≤ 1000000000) : WW (cM p j (cn v)) (v12_newTurn (pI (pI q 13 24 j (cn 1)) 13 25 j (cn v)) (cn j)) lg 99 99 (fun _ => False) N (T + 1) D l (fun _ => 0) ∧ RS (v12_newTurn (pI (pI q 13 24 j (cn 1)) 13 25 j (cn v)) (cn j)) 40 = RS q 40 ∧ PgF j q (v12_newTurn (pI (pI q 13 24 j (cn 1)) 13 25 j (cn v)) (cn j)) := by
  obtain ⟨r1, r2, r3, r4⟩ := hL.2.2.2.2.2.2.2.1
  obtain ⟨s1, s2, s3, s4, s5⟩ := hL.2.2.2.2.2.2.2.2.1
  have k10 := (hL.2.2.2.2.2.2.2.2.2.1 hk).1
  have hni : ¬ q.1 13 19 j = cn 1 := by
    rw [hk]
    decide
  have hns : ¬ q.1 13 19 j = cn 3 := by
    rw [hk]
    decide
  have hsr := s5.resolve_left hni
  have hmm : (if s < r then s else r) = r := by
    split <;> omega
  have t1 := H.1.2.2.1.2.2.1
  have t2 := H.1.2.2.1.2.2.2.1
  unfold cM
  dsimp only
  rw [showable_e (r := r) (s := s) _ (by simp (decide := true) only [pI_1, pI_J, pI_R, u3_same, u3_k, u3_i, u3_s, not_false_eq_true]; exact r3) (by simp (decide := true) only [pI_1, pI_J, pI_R, u3_same, u3_k, u3_i, u3_s, not_false_eq_true]; exact s3) ⟨by omega, by omega⟩ ⟨by omega, by omega⟩, hmm]
  rw [nextT_e (T := T) _ (by simp (decide := true) only [pI_1, pI_J, pI_R, u3_same, u3_k, u3_i, u3_s, not_false_eq_true]; exact t1), newT_e (T := T) _ (by omega) (by simp (decide := true) only [pI_1, pI_J, pI_R, u3_same, u3_k, u3_i, u3_s, not_false_eq_true]; exact t2)]
  dsimp only
  rw [← and_assoc]
  refine ⟨ww_st (x' := 99) (w' := fun _ => False) (T' := T + 1) H hj hl hL ?_ ?_ ?_ rfl ?_ ?_ ?_ rfl (fun _ _ _ => rfl) ?_ ?_ ?_ ?_ (fun _ _ h => h) ?_, ?_⟩
  · intro i S hi
    by_cases e : i = j + 1
    · have h1 : ¬ S = 2 := fun e2 => hi ⟨e, by omega⟩
      have h2 : ¬ S = 7 := fun e2 => hi ⟨e, by omega⟩
      have h3 : ¬ S = 11 := fun e2 => hi ⟨e, by omega⟩
      have h4 : ¬ S = 12 := fun e2 => hi ⟨e, by omega⟩
      rw [e, pI_1, u3_s h4, pI_1, u3_k (by decide), pI_1, u3_s h3, pI_1, u3_s h2, pI_1, u3_s h1]
    · rw [pI_1, u3_i e, pI_1, u3_k (by decide), pI_1, u3_i e, pI_1, u3_i e, pI_1, u3_i e]
  · intro K k1 k2
    funext i S
    rw [pI_1, u3_k k1, pI_1, u3_k k2, pI_1, u3_k k1, pI_1, u3_k k1, pI_1, u3_k k1]
  · intro S k1
    rw [pI_1, u3_k (by decide), pI_1, u3_s k1, pI_1, u3_k (by decide), pI_1, u3_k (by decide), pI_1, u3_k (by decide)]
  · intro K i hi
    by_cases e : i = j
    · have h2 : ¬ K = 23 := fun e2 => hi ⟨e, by omega⟩
      have h3 : ¬ K = 24 := fun e2 => hi ⟨e, by omega⟩
      have h4 : ¬ K = 25 := fun e2 => hi ⟨e, by omega⟩
      rw [pI_1, u3_k (by decide), pI_1, u3_i h2, pI_1, u3_i h4, pI_1, u3_i h3]
    · rw [pI_1, u3_k (by decide), pI_1, u3_s e, pI_1, u3_s e, pI_1, u3_s e]
  · funext i S
    simp (decide := true) only [pI_1, pI_J, pI_R, u3_same, u3_k, u3_i, u3_s, not_false_eq_true]
  · intro S k1
    rw [pI_1, u3_s k1]
    simp (decide := true) only [pI_1, pI_J, pI_R, u3_same, u3_k, u3_i, u3_s, not_false_eq_true]
  · refine Or.inr (Or.inl ⟨by omega, ?_, ?_, v, ?_, ?_, fun hy2 => ⟨r, by omega, by omega, by omega, ?_, ?_⟩, ?_⟩)
    · simp (decide := true) only [pI_1, pI_J, pI_R, u3_same, u3_k, u3_i, u3_s, not_false_eq_true]
    · simp (decide := true) only [pI_1, pI_J, pI_R, u3_same, u3_k, u3_i, u3_s, not_false_eq_true]
    · simp (decide := true) only [pI_1, pI_J, pI_R, u3_same, u3_k, u3_i, u3_s, not_false_eq_true]
    · refine Or.inr ⟨?_, hv, ?_, Or.inl ?_⟩
      · simp (decide := true) only [pI_1, pI_J, pI_R, u3_same, u3_k, u3_i, u3_s, not_false_eq_true]
        exact k10
      · simp (decide := true) only [pI_1, pI_J, pI_R, u3_same, u3_k, u3_i, u3_s, not_false_eq_true]
      · simp (decide := true) only [pI_1, pI_J, pI_R, u3_same, u3_k, u3_i, u3_s, not_false_eq_true]
        exact hk
    · simp (decide := true) only [pI_1, pI_J, pI_R, u3_same, u3_k, u3_i, u3_s, not_false_eq_true]
    · refine Or.inr ⟨?_, rfl⟩
      simp (decide := true) only [pI_1, pI_J, pI_R, u3_same, u3_k, u3_i, u3_s, not_false_eq_true]
      exact hni
    · intro h
      have h' : q.1 13 19 j = cn 3 := by
        rw [← h]
        simp (decide := true) only [pI_1, pI_J, pI_R, u3_same, u3_k, u3_i, u3_s, not_false_eq_true]
      exact absurd h' hns
  · refine Or.inr ⟨rfl, hT, ?_, ?_, ?_, ?_⟩
    · simp (decide := true) only [pI_1, pI_J, pI_R, u3_same, u3_k, u3_i, u3_s, not_false_eq_true]
    · simp (decide := true) only [pI_1, pI_J, pI_R, u3_same, u3_k, u3_i, u3_s, not_false_eq_true]
    · simp (decide := true) only [pI_1, pI_J, pI_R, u3_same, u3_k, u3_i, u3_s, not_false_eq_true]
    · simp (decide := true) only [pI_1, pI_J, pI_R, u3_same, u3_k, u3_i, u3_s, not_false_eq_true]
  · intro _ h
    exact absurd (h.symm.trans k10) cn01
  · intro _ _ _ h
    exact absurd h hni
  · intro h
    exact absurd h hns
  · refine ⟨fun K hK => ?_, ?_, fun i hi => ?_⟩
    · funext i
      rw [pI_1, u3_k (by decide), pI_1, u3_i (fun e => hK (Or.inl e)), pI_1, u3_i (fun e => hK (Or.inr (Or.inr e))), pI_1, u3_i (fun e => hK (Or.inr (Or.inl e)))]
    · funext i S
      simp (decide := true) only [pI_1, pI_J, pI_R, u3_same, u3_k, u3_i, u3_s, not_false_eq_true]
    · rw [pI_1, u3_k (by decide), pI_1, u3_s hi, pI_1, u3_s hi, pI_1, u3_s hi]
end One
