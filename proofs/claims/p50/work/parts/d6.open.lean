/-! a book opens: the two loops, each by itself -/
section Open
variable {b : Nat}
theorem showable_c {p p' : PM} {o : Nat} (h9 : p'.1 10 (o + 1) 9 = p.1 10 (o + 1) 9) (h10 : p'.1 10 (o + 1) 10 = p.1 10 (o + 1) 10) : v10_showable p' (o + 1) = v10_showable p (o + 1) := by
  unfold v10_showable bv10_showable v14_min_7cf53 bv14_min_7cf53
  rw [h9, h10]
theorem g_showable (p : PM) (o : Nat) : g10_showable p (o + 1) := by
  have hz : ¬ o + 1 = 0 := by omega
  unfold g10_showable bg10_showable
  exact ⟨hz, hz, g_min _ _ _, trivial⟩
/-- who is looked at when the book opens -/
def OpP (p : PM) (b j : Nat) : Prop := p.1 10 (j + 1) 2 = cn 1 ∧ p.2.2 10 (j + 1) 4 = b + 1
theorem open_loopC : ∀ (d i n : Nat) (p : PM), i + d = 40 → d < n → g6_openBook_16 n p (b + 1) (cn i) ∧ (∀ k j s, ¬ (k = 10 ∧ (s = 2 ∨ s = 11)) → (v6_openBook_16 n p (b + 1) (cn i)).1 k j s = p.1 k j s) ∧ (v6_openBook_16 n p (b + 1) (cn i)).2 = p.2 ∧ (∀ j, i ≤ j → j < 40 → OpP p b j → (v6_openBook_16 n p (b + 1) (cn i)).1 10 (j + 1) 2 = (if p.1 10 (j + 1) 6 = cn (-100000) then cn 0 else cn 1) ∧ (v6_openBook_16 n p (b + 1) (cn i)).1 10 (j + 1) 11 = v10_showable p (j + 1)) ∧ ∀ j, (j < i ∨ 40 ≤ j ∨ ¬ OpP p b j) → (v6_openBook_16 n p (b + 1) (cn i)).1 10 (j + 1) 2 = p.1 10 (j + 1) 2 ∧ (v6_openBook_16 n p (b + 1) (cn i)).1 10 (j + 1) 11 = p.1 10 (j + 1) 11 := by
  intro d
  induction d with
  | zero =>
    intro i n p h1 h2
    obtain ⟨m, rfl⟩ : ∃ m, n = m + 1 := ⟨n - 1, by omega⟩
    have e : i = 40 := by omega
    subst e
    have hn := lpf (i := 40) (N := 40) (by omega) (by omega) (by omega)
    rw [ev6_openBook_16, eg6_openBook_16]
    unfold bv6_openBook_16 bg6_openBook_16
    rw [if_neg hn, if_neg hn]
    exact ⟨trivial, fun _ _ _ _ => rfl, rfl, fun j j1 j2 => by omega, fun _ _ => ⟨rfl, rfl⟩⟩
  | succ d ih =>
    intro i n p h1 h2
    obtain ⟨m, rfl⟩ : ∃ m, n = m + 1 := ⟨n - 1, by omega⟩
    have hi := cninb (i := i) (n := 40) (by omega) (by omega)
    have hz : ¬ i + 1 = 0 := by omega
    have l40 : cn (i : Int) < cn 40 := lpt (by omega) (by omega)
    have up : ∀ j, i ≤ j → j = i ∨ i + 1 ≤ j := fun j h => by omega
    have skip : ¬ OpP p b i → v6_openBook_16 (m + 1) p (b + 1) (cn i) = v6_openBook_16 m p (b + 1) (cn (i + 1 : Nat)) → (g6_openBook_16 m p (b + 1) (cn (i + 1 : Nat)) → g6_openBook_16 (m + 1) p (b + 1) (cn i)) → g6_openBook_16 (m + 1) p (b + 1) (cn i) ∧ (∀ k j s, ¬ (k = 10 ∧ (s = 2 ∨ s = 11)) → (v6_openBook_16 (m + 1) p (b + 1) (cn i)).1 k j s = p.1 k j s) ∧ (v6_openBook_16 (m + 1) p (b + 1) (cn i)).2 = p.2 ∧ (∀ j, i ≤ j → j < 40 → OpP p b j → (v6_openBook_16 (m + 1) p (b + 1) (cn i)).1 10 (j + 1) 2 = (if p.1 10 (j + 1) 6 = cn (-100000) then cn 0 else cn 1) ∧ (v6_openBook_16 (m + 1) p (b + 1) (cn i)).1 10 (j + 1) 11 = v10_showable p (j + 1)) ∧ ∀ j, (j < i ∨ 40 ≤ j ∨ ¬ OpP p b j) → (v6_openBook_16 (m + 1) p (b + 1) (cn i)).1 10 (j + 1) 2 = p.1 10 (j + 1) 2 ∧ (v6_openBook_16 (m + 1) p (b + 1) (cn i)).1 10 (j + 1) 11 = p.1 10 (j + 1) 11 := by
      intro hno e1 e2
      obtain ⟨k1, k2, k3, k4, k5⟩ := ih (i + 1) m p (by omega) (by omega)
      rw [e1]
      refine ⟨e2 k1, k2, k3, fun j j1 j2 hj => ?_, fun j hj => ?_⟩
      · rcases up j j1 with e | e
        · rw [e] at hj
          exact absurd hj hno
        · exact k4 j e j2 hj
      · rcases hj with h | h | h
        · exact k5 j (Or.inl (by omega))
        · exact k5 j (Or.inr (Or.inl h))
        · exact k5 j (Or.inr (Or.inr h))
    by_cases c1 : p.1 10 (i + 1) 2 = cn 1
    · by_cases c2 : p.2.2 10 (i + 1) 4 = b + 1
      · -- looked at
        have hop : OpP p b i := ⟨c1, c2⟩
        obtain ⟨P, hP1, hP2, hPk, hPR, hPi, hP11⟩ : ∃ P, v6_openBook_16 (m + 1) p (b + 1) (cn i) = v6_openBook_16 m P (b + 1) (cn (i + 1 : Nat)) ∧ (g6_openBook_16 m P (b + 1) (cn (i + 1 : Nat)) → g6_openBook_16 (m + 1) p (b + 1) (cn i)) ∧ (∀ k j s, ¬ (k = 10 ∧ j = i + 1 ∧ (s = 2 ∨ s = 11)) → P.1 k j s = p.1 k j s) ∧ P.2 = p.2 ∧ P.1 10 (i + 1) 2 = (if p.1 10 (i + 1) 6 = cn (-100000) then cn 0 else cn 1) ∧ P.1 10 (i + 1) 11 = v10_showable p (i + 1) := by
          by_cases c3 : p.1 10 (i + 1) 6 = cn (-100000)
          · refine ⟨pI (pI p 10 (i + 1) 2 (cn 0)) 10 (i + 1) 11 (v10_showable (pI p 10 (i + 1) 2 (cn 0)) (i + 1)), ?_, ?_, fun k j s h => ?_, rfl, ?_, ?_⟩
            · rw [ev6_openBook_16]
              unfold bv6_openBook_16
              simp only [if_pos l40, cntk (i := i) (by omega), if_pos c1, if_pos c2, if_pos c3, cnsucc]
            · intro h
              rw [eg6_openBook_16]
              unfold bg6_openBook_16
              simp only [if_pos l40, cntk (i := i) (by omega), if_pos c1, if_pos c2, if_pos c3, cnsucc]
              repeat' first
                | with_reducible exact hi
                | with_reducible exact hz
                | with_reducible exact g_showable _ _
                | with_reducible exact h
                | exact trivial
                | exact not_false
                | apply And.intro
                | (split <;> rename_i h9 <;> first | simp only [if_neg h9, if_true, if_false] | simp only [if_pos h9, if_true, if_false] | skip)
            · rw [pI_1, u3_ne (fun e => h ⟨e.1, e.2.1, Or.inr e.2.2⟩), pI_1, u3_ne (fun e => h ⟨e.1, e.2.1, Or.inl e.2.2⟩)]
            · rw [pI_1, u3_s (by decide), pI_at, if_pos c3]
            · rw [pI_at]
              exact showable_c (by rw [pI_1, u3_s (by decide)]) (by rw [pI_1, u3_s (by decide)])
          · refine ⟨pI p 10 (i + 1) 11 (v10_showable p (i + 1)), ?_, ?_, fun k j s h => ?_, rfl, ?_, pI_at⟩
            · rw [ev6_openBook_16]
              unfold bv6_openBook_16
              simp only [if_pos l40, cntk (i := i) (by omega), if_pos c1, if_pos c2, if_neg c3, cnsucc]
            · intro h
              rw [eg6_openBook_16]
              unfold bg6_openBook_16
              simp only [if_pos l40, cntk (i := i) (by omega), if_pos c1, if_pos c2, if_neg c3, cnsucc]
              repeat' first
                | with_reducible exact hi
                | with_reducible exact hz
                | with_reducible exact g_showable _ _
                | with_reducible exact h
                | exact trivial
                | exact not_false
                | apply And.intro
                | (split <;> rename_i h9 <;> first | simp only [if_neg h9, if_true, if_false] | simp only [if_pos h9, if_true, if_false] | skip)
            · rw [pI_1, u3_ne (fun e => h ⟨e.1, e.2.1, Or.inr e.2.2⟩)]
            · rw [pI_1, u3_s (by decide), if_neg c3]
              exact c1
        obtain ⟨k1, k2, k3, k4, k5⟩ := ih (i + 1) m P (by omega) (by omega)
        have hsame : ∀ j s, ¬ j = i → P.1 10 (j + 1) s = p.1 10 (j + 1) s := fun j s h => hPk 10 (j + 1) s fun e => h (by omega)
        have hopj : ∀ j, ¬ j = i → (OpP P b j ↔ OpP p b j) := fun j h => by
          unfold OpP
          rw [hsame j 2 h, hPR]
        rw [hP1]
        refine ⟨hP2 k1, fun k j s h => (k2 k j s h).trans (hPk k j s fun e => h ⟨e.1, e.2.2⟩), k3.trans hPR, fun j j1 j2 hj => ?_, fun j hj => ?_⟩
        · rcases up j j1 with e | e
          · obtain ⟨w1, w2⟩ := k5 j (Or.inl (by omega))
            rw [w1, w2, e, hPi, hP11]
            exact ⟨rfl, rfl⟩
          · have hne : ¬ j = i := by omega
            obtain ⟨w1, w2⟩ := k4 j e j2 ((hopj j hne).2 hj)
            rw [w1, w2, hsame j 6 hne]
            exact ⟨rfl, showable_c (hsame j 9 hne) (hsame j 10 hne)⟩
        · have hne : ¬ j = i := by
            intro e
            rcases hj with h | h | h
            · omega
            · omega
            · rw [e] at h
              exact h hop
          obtain ⟨w1, w2⟩ := k5 j (by
            rcases hj with h | h | h
            · exact Or.inl (by omega)
            · exact Or.inr (Or.inl h)
            · exact Or.inr (Or.inr fun h2 => h ((hopj j hne).1 h2)))
          rw [w1, w2, hsame j 2 hne, hsame j 11 hne]
          exact ⟨rfl, rfl⟩
      · refine skip (fun h => c2 h.2) ?_ ?_
        · rw [ev6_openBook_16]
          unfold bv6_openBook_16
          simp only [if_pos l40, cntk (i := i) (by omega), if_pos c1, if_neg c2, cnsucc]
        · intro h
          rw [eg6_openBook_16]
          unfold bg6_openBook_16
          simp only [if_pos l40, cntk (i := i) (by omega), if_pos c1, if_neg c2, cnsucc]
          exact ⟨hi, h⟩
    · refine skip (fun h => c1 h.1) ?_ ?_
      · rw [ev6_openBook_16]
        unfold bv6_openBook_16
        simp only [if_pos l40, cntk (i := i) (by omega), if_neg c1, cnsucc]
      · intro h
        rw [eg6_openBook_16]
        unfold bg6_openBook_16
        simp only [if_pos l40, cntk (i := i) (by omega), if_neg c1, cnsucc]
        exact ⟨hi, h⟩
end Open
