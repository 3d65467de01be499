/-! one trade of an auction -/
section Auc
variable {p q : PM} {lg : Nat → Int32} {b N T D l u o au ao : Nat} {ru ro su so zu zo z n : Int}
theorem auc_trade (H : WW p q lg 99 b (fun _ => False) N T D l (fun _ => 0)) (hu : u < 40) (ho : o < 40) (hne : ¬ o = u) (lu : q.1 15 3 u = cn 1) (lo : q.1 15 3 o = cn 1) (hLu : LV p q 99 b u au b ru su zu) (hLo : LV p q 99 b o ao b ro so zo) (hs : q.1 15 4 u = cn 1) (hz : PrB b z) (h1 : 1 ≤ n) (h2 : n ≤ ru) (h3 : n ≤ ro) (hD1 : D + 1 ≤ 1000000000) : ∃ (P Q q1 q2 q3 q4 : PM), (v8_strike p (u + 1) (o + 1) (cn z) (cn n) = P ∧ g8_strike p (u + 1) (o + 1) (cn z) (cn n)) ∧ (v12_deals q (cn b) (cn au) (cn ao) (cn z) (cn n) = q1 ∧ v12_falls q1 (cn u) (cn n) (cn 0) = q2 ∧ v12_falls q2 (cn o) (cn n) (cn 0) = q3 ∧ v12_guards q3 (cn u) = q4 ∧ v12_guards q4 (cn o) = Q) ∧ (g12_deals q (cn b) (cn au) (cn ao) (cn z) (cn n) ∧ g12_falls q1 (cn u) (cn n) (cn 0) ∧ g12_falls q2 (cn o) (cn n) (cn 0) ∧ g12_guards q3 (cn u) ∧ g12_guards q4 (cn o)) ∧ WW P Q lg 99 b (fun _ => False) N T (D + 1) l (fun _ => 0) ∧ RS Q 40 + n + n ≤ RS q 40 ∧ (∀ i, i < 40 → stnd Q i → stnd q i ∧ Q.1 13 16 i = q.1 13 16 i ∧ Q.1 13 19 i = q.1 13 19 i) ∧ (∀ K, 2 ≤ K → K ≤ 13 → ¬ K = 4 → ¬ K = 10 → Q.1 13 K = q.1 13 K) ∧ (∀ S, ¬ S = 48 → Q.1 12 1 S = q.1 12 1 S) := by
  have hzu : ¬ u + 1 = 0 := by omega
  have hzo : ¬ o + 1 = 0 := by omega
  have au8 := hLu.1.1
  have ao8 := hLo.1.1
  have hb6 := hLu.2.1.1
  generalize e1 : v7_record p (b + 1) (au + 1) (ao + 1) (cn z) (cn n) = p1
  generalize e2 : v10_fall p1 (u + 1) (cn n) = p2
  generalize e3 : v10_fall p2 (o + 1) (cn n) = p3
  generalize e4 : v6_guard p3 (o + 1) (cn n) = p4
  generalize e5 : v6_guard p4 (u + 1) (cn n) = p5
  generalize k1 : v12_deals q (cn b) (cn au) (cn ao) (cn z) (cn n) = q1
  generalize k2 : v12_falls q1 (cn u) (cn n) (cn 0) = q2
  generalize k3 : v12_falls q2 (cn o) (cn n) (cn 0) = q3
  obtain ⟨⟨g1, g2, g3, g4, g5⟩, ⟨g6, g7, g8⟩, ⟨K, hK, W5⟩, r3, ⟨l1, l2⟩, m1, m2, ⟨m3, m4⟩, m5, m6, m7, m8, m9, m10, hO3⟩ := ww_core (A := au) (B := ao) (stu := cn 0) (sto := cn 0) H hu ho hne lu lo hLu hLo hz h1 h2 h3 (Or.inr ⟨rfl, Or.inr rfl⟩) (Or.inr ⟨rfl, Or.inr rfl⟩) (Or.inl ⟨rfl, rfl⟩) hD1 e1.symm e2.symm e3.symm e4.symm e5.symm k1.symm k2.symm k3.symm
  obtain ⟨hb3, hacc3⟩ := or_acc hO3
  have eu : q3.1 13 15 u = cn au := by rw [m1 15 u (by decide) (by decide) (by omega)]; exact hLu.1.2.1
  have eo : q3.1 13 15 o = cn ao := by rw [m1 15 o (by decide) (by decide) (by omega)]; exact hLo.1.2.1
  obtain ⟨gg1, gg2, gg3⟩ := guards2 (q := q3) (u := u) (o := o) (K := K) (by omega) (by omega) au8 ao8 eu eo hb3 hacc3 hK
  have eC : v8_strike p (u + 1) (o + 1) (cn z) (cn n) = p5 ∧ g8_strike p (u + 1) (o + 1) (cn z) (cn n) := by
    have d5 := hLu.2.2.2.2.1.1
    have hs0 : ¬ q.1 15 4 u = 0 := by
      rw [hs]
      exact cn01
    unfold g8_strike bg8_strike v8_strike bv8_strike
    simp only [d5, if_neg hs0, hLu.2.1.2.2, hLu.1.2.2, hLo.1.2.2, e1, e2, e3, e4, e5]
    refine ⟨trivial, ?_⟩
    repeat' first
      | with_reducible exact hzu
      | with_reducible exact hzo
      | with_reducible exact g1
      | with_reducible exact g2
      | with_reducible exact g3
      | with_reducible exact g4
      | with_reducible exact g5
      | exact trivial
      | exact not_false
      | apply And.intro
      | (split <;> rename_i h9 <;> first | simp only [if_neg h9, if_true, if_false] | simp only [if_pos h9, if_true, if_false] | skip)
  have W6 : WW p5 (kq q3 K) lg 99 b (fun _ => False) N T (D + 1) l (fun _ => 0) := ww_w W5 fun i hi _ => by
    have e16 : ∀ j, (kq q3 K).1 13 16 j = q.1 13 16 j := fun j => by rw [kq_k (by decide), m1 16 j (by decide) (by decide) (by omega)]
    by_cases ei : i = u
    · refine Or.inr fun _ h => ?_
      rw [ei, e16, hLu.2.1.2.1] at h
      exact absurd rfl h
    · by_cases ei2 : i = o
      · refine Or.inr fun _ h => ?_
        rw [ei2, e16, hLo.2.1.2.1] at h
        exact absurd rfl h
      · exact Or.inl fun h => by
          rcases h with (h | h) | h
          · exact h
          · exact ei h
          · exact ei2 h
  refine ⟨p5, kq q3 K, q1, q2, q3, v12_guards q3 (cn u), eC, ⟨rfl, k2, k3, rfl, gg3⟩, ⟨g6, g7, g8, gg1, gg2⟩, W6, ?_, fun i hi h => ?_, fun K' h h' k4 k10 => by rw [kq_k (by decide)]; exact m5 K' h h' k4 k10, fun S h => by rw [kq_k (by decide)]; exact m6 S h⟩
  · have := rs_kq (K := K) hO3
    omega
  · have e24 : (kq q3 K).1 13 24 i = q.1 13 24 i := by rw [kq_k (by decide), m1 24 i (by decide) (by decide) (by omega)]
    refine ⟨⟨?_, by rw [← e24]; exact h.2⟩, by rw [kq_k (by decide), m1 16 i (by decide) (by decide) (by omega)], by rw [kq_k (by decide), m1 19 i (by decide) (by decide) (by omega)]⟩
    have h3 : q3.1 15 3 i = cn 1 := by
      have := h.1
      rw [kq_3] at this
      split at this
      · exact absurd this (by decide)
      · exact this
    by_cases ei : i = u
    · rw [ei]
      exact lu
    · by_cases ei2 : i = o
      · rw [ei2]
        exact lo
      · rw [← m2 3 i (by decide) (by omega)]
        exact h3
end Auc
