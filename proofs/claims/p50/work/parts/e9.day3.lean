/-! the next day, whole -/
section Day3
variable {p q : PM} {lg : Nat → Int32} {N T D l : Nat}
theorem ww_day {t : Nat} (H : WW p q lg 99 99 (fun _ => False) N T D l (fun _ => 0)) (ht : t + 1 ≤ 900000) : WW (pI p 6 1 3 (cn (t + 1 : Nat))) (pI q 12 1 18 (cn (t + 1 : Nat))) lg 99 99 (fun _ => False) N T D l (fun _ => 0) ∧ RS (pI q 12 1 18 (cn (t + 1 : Nat))) 40 = RS q 40 := by
  obtain ⟨hO, hA, hB, hD, hK, ⟨a1, a2, a3, a4, a5, a6, a7, a8, a9, a10, a11⟩, hI, hF⟩ := H
  have pk : ∀ K, ¬ K = 6 → (pI p 6 1 3 (cn (t + 1 : Nat))).1 K = p.1 K := by
    intro K h
    funext i S
    rw [pI_1, u3_k h]
  have p6 : ∀ S, ¬ S = 3 → (pI p 6 1 3 (cn (t + 1 : Nat))).1 6 1 S = p.1 6 1 S := fun S h => by rw [pI_1, u3_s h]
  have qk : ∀ K, ¬ K = 12 → (pI q 12 1 18 (cn (t + 1 : Nat))).1 K = q.1 K := by
    intro K h
    funext i S
    rw [pI_1, u3_k h]
  have q12 : ∀ S, ¬ S = 18 → (pI q 12 1 18 (cn (t + 1 : Nat))).1 12 1 S = q.1 12 1 S := fun S h => by rw [pI_1, u3_s h]
  refine ⟨⟨?_, ?_, ?_, ?_, ?_, ?_, ?_, ?_⟩, RS_same 40 fun i _ => ?_⟩
  · exact ord_c (pk 10 (by decide)) rfl (p6 4 (by decide)) (p6 5 (by decide)) (fun K _ _ => by rw [qk 13 (by decide)]) (fun K _ _ => by rw [qk 15 (by decide)]) (q12 39 (by decide)) (q12 40 (by decide)) hO
  · exact af_c (pk 0 (by decide)) (fun i _ => by rw [pk 13 (by decide)]) rfl (by rw [qk 13 (by decide)]) (by rw [qk 13 (by decide)]) (by rw [qk 13 (by decide)]) (by rw [qk 13 (by decide)]) (by rw [qk 13 (by decide)]) (by rw [qk 15 (by decide)]) rfl hA
  · exact brl_c (pk 1 (by decide)) (fun i _ _ => by rw [qk 13 (by decide)]) (by rw [qk 15 (by decide)]) hB
  · exact dr_c (pk 4 (by decide)) (pk 7 (by decide)) rfl (fun i _ _ => by rw [qk 13 (by decide)]) (by rw [qk 15 (by decide)]) (by rw [qk 15 (by decide)]) (q12 48 (by decide)) hD
  · exact ck_c (pk 0 (by decide)) (pk 1 (by decide)) hK
  · refine ⟨fun m hm => ?_, fun s c hs hc => ?_, ?_, ?_, ?_, ?_, ⟨t + 1, ht, pI_at, pI_at⟩, fun j => ?_, ?_, ?_, ?_⟩
    · rw [pk 9 (by decide), qk 13 (by decide), qk 15 (by decide)]
      exact a1 m hm
    · rw [pk 13 (by decide), qk 13 (by decide)]
      exact a2 s c hs hc
    · rw [pk 2 (by decide), q12 50 (by decide)]
      exact a3
    · rw [pk 2 (by decide), q12 58 (by decide)]
      exact a4
    · rw [pk 2 (by decide), q12 57 (by decide)]
      exact a5
    · rw [p6 2 (by decide), q12 17 (by decide)]
      exact a6
    · rw [qk 13 (by decide)]
      exact a8 j
    · rw [q12 60 (by decide)]
      exact a9
    · rw [q12 61 (by decide)]
      exact a10
    · unfold PD at a11 ⊢
      rw [qk 13 (by decide), q12 48 (by decide)]
      exact a11
  · exact iq_c (fun K _ _ => by rw [qk 13 (by decide)]) (fun K _ _ => by rw [qk 15 (by decide)]) (by rw [qk 13 (by decide)]) (by rw [qk 13 (by decide)]) (q12 17 (by decide)) hI
  · exact fb_c (by rw [qk 15 (by decide)]) (by rw [qk 13 (by decide)]) (by rw [qk 13 (by decide)]) (q12 95 (by decide)) hF
  · unfold rs
    rw [qk 15 (by decide), qk 13 (by decide)]
end Day3
