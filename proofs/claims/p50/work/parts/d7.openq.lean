/-! a book opens: the reference's loop -/
def OqP (q : PM) (b j : Nat) : Prop := ¬ q.1 15 3 j = 0 ∧ q.1 13 16 j = cn b ∧ q.1 13 24 j = cn 1
def shv (q : PM) (j : Nat) : Int32 := if q.1 13 21 j < q.1 13 17 j then q.1 13 21 j else q.1 13 17 j
theorem shA_e (q : PM) {o : Nat} (ho : o < 44) : v12_showsAnew q (cn o) = pI q 13 22 o (shv q o) ∧ g12_showsAnew q (cn o) := by
  have hi := cninb (i := o) (n := 44) ho (by omega)
  refine ⟨?_, ?_⟩
  · unfold v12_showsAnew bv12_showsAnew shv
    simp only [cntk (i := o) (by omega)]
    by_cases h : q.1 13 21 o < q.1 13 17 o
    · rw [if_pos h, if_pos h]
    · rw [if_neg h, if_neg h]
  · unfold g12_showsAnew bg12_showsAnew
    repeat' first
      | with_reducible exact hi
      | exact trivial
      | exact not_false
      | apply And.intro
      | (split <;> rename_i h9 <;> first | simp only [if_neg h9, if_true, if_false] | simp only [if_pos h9, if_true, if_false] | skip)
section OpenQ
variable {b : Nat}
theorem open_loopQ : ∀ (d i n : Nat) (q : PM), i + d = 44 → d < n → ∃ q', v12_endsAuction_92 n q (cn b) (cn i) = v12_works q' ∧ (g12_works q' → g12_endsAuction_92 n q (cn b) (cn i)) ∧ (∀ k j s, ¬ (k = 15 ∧ j = 3) → ¬ (k = 13 ∧ j = 22) → q'.1 k j s = q.1 k j s) ∧ q'.2 = q.2 ∧ (∀ j, i ≤ j → j < 44 → OqP q b j → q'.1 15 3 j = (if q.1 15 5 j = 0 then cn 1 else cn 0) ∧ q'.1 13 22 j = if q.1 13 19 j = cn 1 then shv q j else q.1 13 22 j) ∧ ∀ j, (j < i ∨ 44 ≤ j ∨ ¬ OqP q b j) → q'.1 15 3 j = q.1 15 3 j ∧ q'.1 13 22 j = q.1 13 22 j := by
  intro d
  induction d with
  | zero =>
    intro i n q h1 h2
    obtain ⟨m, rfl⟩ : ∃ m, n = m + 1 := ⟨n - 1, by omega⟩
    have e : i = 44 := by omega
    subst e
    have hn := lpf (i := 44) (N := 44) (by omega) (by omega) (by omega)
    refine ⟨q, ?_, ?_, fun _ _ _ _ _ => rfl, rfl, fun j j1 j2 => by omega, fun _ _ => ⟨rfl, rfl⟩⟩
    · rw [ev12_endsAuction_92]
      unfold bv12_endsAuction_92
      rw [if_neg hn]
    · intro h
      rw [eg12_endsAuction_92]
      unfold bg12_endsAuction_92
      rw [if_neg hn]
      exact ⟨h, trivial⟩
  | succ d ih =>
    intro i n q h1 h2
    obtain ⟨m, rfl⟩ : ∃ m, n = m + 1 := ⟨n - 1, by omega⟩
    have hi := cninb (i := i) (n := 44) (by omega) (by omega)
    have l44 : cn (i : Int) < cn 44 := lpt (by omega) (by omega)
    have up : ∀ j, i ≤ j → j = i ∨ i + 1 ≤ j := fun j h => by omega
    have skip : ¬ OqP q b i → v12_endsAuction_92 (m + 1) q (cn b) (cn i) = v12_endsAuction_92 m q (cn b) (cn (i + 1 : Nat)) → (g12_endsAuction_92 m q (cn b) (cn (i + 1 : Nat)) → g12_endsAuction_92 (m + 1) q (cn b) (cn i)) → ∃ q', v12_endsAuction_92 (m + 1) q (cn b) (cn i) = v12_works q' ∧ (g12_works q' → g12_endsAuction_92 (m + 1) q (cn b) (cn i)) ∧ (∀ k j s, ¬ (k = 15 ∧ j = 3) → ¬ (k = 13 ∧ j = 22) → q'.1 k j s = q.1 k j s) ∧ q'.2 = q.2 ∧ (∀ j, i ≤ j → j < 44 → OqP q b j → q'.1 15 3 j = (if q.1 15 5 j = 0 then cn 1 else cn 0) ∧ q'.1 13 22 j = if q.1 13 19 j = cn 1 then shv q j else q.1 13 22 j) ∧ ∀ j, (j < i ∨ 44 ≤ j ∨ ¬ OqP q b j) → q'.1 15 3 j = q.1 15 3 j ∧ q'.1 13 22 j = q.1 13 22 j := by
      intro hno e1 e2
      obtain ⟨q', k1, k2, k3, k4, k5, k6⟩ := ih (i + 1) m q (by omega) (by omega)
      refine ⟨q', e1.trans k1, fun h => e2 (k2 h), k3, k4, fun j j1 j2 hj => ?_, fun j hj => ?_⟩
      · rcases up j j1 with e | e
        · rw [e] at hj
          exact absurd hj hno
        · exact k5 j e j2 hj
      · rcases hj with h | h | h
        · exact k6 j (Or.inl (by omega))
        · exact k6 j (Or.inr (Or.inl h))
        · exact k6 j (Or.inr (Or.inr h))
    by_cases c1 : q.1 15 3 i = 0
    · refine skip (fun h => h.1 c1) ?_ ?_
      · rw [ev12_endsAuction_92]
        unfold bv12_endsAuction_92
        simp only [if_pos l44, cntk (i := i) (by omega), if_pos c1, cnsucc]
      · intro h
        rw [eg12_endsAuction_92]
        unfold bg12_endsAuction_92
        simp only [if_pos l44, cntk (i := i) (by omega), if_pos c1, cnsucc]
        exact ⟨hi, h⟩
    · by_cases c2 : q.1 13 16 i = cn b
      · by_cases c3 : q.1 13 24 i = cn 1
        · have hop : OqP q b i := ⟨c1, c2, c3⟩
          obtain ⟨P, hP1, hP2, hPk, hPR, hP3, hP22⟩ : ∃ P, v12_endsAuction_92 (m + 1) q (cn b) (cn i) = v12_endsAuction_92 m P (cn b) (cn (i + 1 : Nat)) ∧ (g12_endsAuction_92 m P (cn b) (cn (i + 1 : Nat)) → g12_endsAuction_92 (m + 1) q (cn b) (cn i)) ∧ (∀ k j s, ¬ (k = 15 ∧ j = 3 ∧ s = i) → ¬ (k = 13 ∧ j = 22 ∧ s = i) → P.1 k j s = q.1 k j s) ∧ P.2 = q.2 ∧ P.1 15 3 i = (if q.1 15 5 i = 0 then cn 1 else cn 0) ∧ P.1 13 22 i = if q.1 13 19 i = cn 1 then shv q i else q.1 13 22 i := by
            obtain ⟨v, hv⟩ : ∃ v : Int32, v = if q.1 15 5 i = 0 then cn 1 else cn 0 := ⟨_, rfl⟩
            have e19 : (pI q 15 3 i v).1 13 19 i = q.1 13 19 i := by rw [pI_1, u3_k (by decide)]
            have esh : shv (pI q 15 3 i v) i = shv q i := by
              unfold shv
              rw [pI_1, u3_k (by decide), u3_k (by decide)]
            obtain ⟨a1, a2⟩ := shA_e (pI q 15 3 i v) (o := i) (by omega)
            rw [esh] at a1
            by_cases c4 : q.1 13 19 i = cn 1
            · have c4' : (pI q 15 3 i v).1 13 19 i = cn 1 := by rw [e19]; exact c4
              refine ⟨pI (pI q 15 3 i v) 13 22 i (shv q i), ?_, ?_, fun k j s h h' => ?_, rfl, ?_, ?_⟩
              · rw [ev12_endsAuction_92]
                unfold bv12_endsAuction_92
                by_cases c5 : q.1 15 5 i = 0
                · rw [if_pos c5] at hv
                  rw [hv] at a1 c4' ⊢
                  simp only [if_pos l44, cntk (i := i) (by omega), if_neg c1, if_pos c2, if_pos c3, if_pos c5, if_pos c4', a1, cnsucc]
                · rw [if_neg c5] at hv
                  rw [hv] at a1 c4' ⊢
                  simp only [if_pos l44, cntk (i := i) (by omega), if_neg c1, if_pos c2, if_pos c3, if_neg c5, if_pos c4', a1, cnsucc]
              · intro h
                rw [eg12_endsAuction_92]
                unfold bg12_endsAuction_92
                by_cases c5 : q.1 15 5 i = 0
                · rw [if_pos c5] at hv
                  rw [hv] at a1 a2 c4' h
                  simp only [if_pos l44, cntk (i := i) (by omega), if_neg c1, if_pos c2, if_pos c3, if_pos c5, if_pos c4', a1, cnsucc]
                  exact ⟨hi, hi, hi, hi, hi, hi, a2, h⟩
                · rw [if_neg c5] at hv
                  rw [hv] at a1 a2 c4' h
                  simp only [if_pos l44, cntk (i := i) (by omega), if_neg c1, if_pos c2, if_pos c3, if_neg c5, if_pos c4', a1, cnsucc]
                  exact ⟨hi, hi, hi, hi, hi, hi, a2, h⟩
              · rw [pI_1, u3_ne h', pI_1, u3_ne h]
              · rw [pI_1, u3_k (by decide), pI_at, hv]
              · rw [pI_at, if_pos c4]
            · have c4' : ¬ (pI q 15 3 i v).1 13 19 i = cn 1 := by rw [e19]; exact c4
              refine ⟨pI q 15 3 i v, ?_, ?_, fun k j s h h' => ?_, rfl, ?_, ?_⟩
              · rw [ev12_endsAuction_92]
                unfold bv12_endsAuction_92
                by_cases c5 : q.1 15 5 i = 0
                · rw [if_pos c5] at hv
                  rw [hv] at c4' ⊢
                  simp only [if_pos l44, cntk (i := i) (by omega), if_neg c1, if_pos c2, if_pos c3, if_pos c5, if_neg c4', cnsucc]
                · rw [if_neg c5] at hv
                  rw [hv] at c4' ⊢
                  simp only [if_pos l44, cntk (i := i) (by omega), if_neg c1, if_pos c2, if_pos c3, if_neg c5, if_neg c4', cnsucc]
              · intro h
                rw [eg12_endsAuction_92]
                unfold bg12_endsAuction_92
                by_cases c5 : q.1 15 5 i = 0
                · rw [if_pos c5] at hv
                  rw [hv] at c4' h
                  simp only [if_pos l44, cntk (i := i) (by omega), if_neg c1, if_pos c2, if_pos c3, if_pos c5, if_neg c4', cnsucc]
                  exact ⟨hi, hi, hi, hi, hi, hi, h⟩
                · rw [if_neg c5] at hv
                  rw [hv] at c4' h
                  simp only [if_pos l44, cntk (i := i) (by omega), if_neg c1, if_pos c2, if_pos c3, if_neg c5, if_neg c4', cnsucc]
                  exact ⟨hi, hi, hi, hi, hi, hi, h⟩
              · rw [pI_1, u3_ne h]
              · rw [pI_at, hv]
              · rw [pI_1, u3_k (by decide), if_neg c4]
          obtain ⟨q', k1, k2, k3, k4, k5, k6⟩ := ih (i + 1) m P (by omega) (by omega)
          have s13 : ∀ K j, ¬ K = 22 → P.1 13 K j = q.1 13 K j := fun K j h => hPk 13 K j (fun e => absurd e.1 (by decide)) (fun e => h e.2.1)
          have s13j : ∀ K j, ¬ j = i → P.1 13 K j = q.1 13 K j := fun K j h => hPk 13 K j (fun e => absurd e.1 (by decide)) (fun e => h e.2.2)
          have s15j : ∀ K j, ¬ j = i → P.1 15 K j = q.1 15 K j := fun K j h => hPk 15 K j (fun e => h e.2.2) (fun e => absurd e.1 (by decide))
          have hopj : ∀ j, ¬ j = i → (OqP P b j ↔ OqP q b j) := fun j h => by
            unfold OqP
            rw [s15j 3 j h, s13 16 j (by decide), s13 24 j (by decide)]
          refine ⟨q', hP1.trans k1, fun h => hP2 (k2 h), fun k j s h h' => (k3 k j s h h').trans (hPk k j s (fun e => h ⟨e.1, e.2.1⟩) fun e => h' ⟨e.1, e.2.1⟩), k4.trans hPR, fun j j1 j2 hj => ?_, fun j hj => ?_⟩
          · rcases up j j1 with e | e
            · obtain ⟨w1, w2⟩ := k6 j (Or.inl (by omega))
              rw [w1, w2, e, hP3, hP22]
              exact ⟨rfl, rfl⟩
            · have hne : ¬ j = i := by omega
              obtain ⟨w1, w2⟩ := k5 j e j2 ((hopj j hne).2 hj)
              have esh : shv P j = shv q j := by
                unfold shv
                rw [s13 21 j (by decide), s13 17 j (by decide)]
              rw [w1, w2, s15j 5 j hne, s13 19 j (by decide), esh, s13j 22 j hne]
              exact ⟨rfl, rfl⟩
          · have hne : ¬ j = i := by
              intro e
              rcases hj with h | h | h
              · omega
              · omega
              · rw [e] at h
                exact h hop
            obtain ⟨w1, w2⟩ := k6 j (by
              rcases hj with h | h | h
              · exact Or.inl (by omega)
              · exact Or.inr (Or.inl h)
              · exact Or.inr (Or.inr fun h2 => h ((hopj j hne).1 h2)))
            rw [w1, w2, s15j 3 j hne, s13j 22 j hne]
            exact ⟨rfl, rfl⟩
        · refine skip (fun h => c3 h.2.2) ?_ ?_
          · rw [ev12_endsAuction_92]
            unfold bv12_endsAuction_92
            simp only [if_pos l44, cntk (i := i) (by omega), if_neg c1, if_pos c2, if_neg c3, cnsucc]
          · intro h
            rw [eg12_endsAuction_92]
            unfold bg12_endsAuction_92
            simp only [if_pos l44, cntk (i := i) (by omega), if_neg c1, if_pos c2, if_neg c3, cnsucc]
            exact ⟨hi, hi, hi, h⟩
      · refine skip (fun h => c2 h.2.1) ?_ ?_
        · rw [ev12_endsAuction_92]
          unfold bv12_endsAuction_92
          simp only [if_pos l44, cntk (i := i) (by omega), if_neg c1, if_neg c2, cnsucc]
        · intro h
          rw [eg12_endsAuction_92]
          unfold bg12_endsAuction_92
          simp only [if_pos l44, cntk (i := i) (by omega), if_neg c1, if_neg c2, cnsucc]
          exact ⟨hi, hi, h⟩
end OpenQ
