/-! anew, what is carried holds -/
section Fresh3
variable {p q : PM} {lg : Nat → Int32}
theorem RS_dead : ∀ n : Nat, n ≤ 44 → (∀ i, i < 44 → q.1 15 3 i = cn 0) → RS q n = 0
  | 0, _, _ => rfl
  | n + 1, h, hd => by
    show RS q n + rs q n = 0
    rw [RS_dead n (by omega) hd]
    unfold rs
    have h0 : q.1 15 3 n = 0 := hd n (by omega)
    rw [if_pos h0]
    rfl
theorem psF_z {f : Nat → Int32} {c : Nat} (hc : c < 4) : ∀ n : Nat, n ≤ 9 → (∀ k, k < 36 → f k = cn 0) → psF f c n = 0
  | 0, _, _ => rfl
  | n + 1, h, hz => by
    show psF f c n + max (f (4 * n + c)).toInt (-(f (4 * n + c)).toInt) = 0
    rw [psF_z hc n (by omega) hz, hz (4 * n + c) (by omega)]
    rfl
theorem s3F_z {f : Nat → Int32} : ∀ n : Nat, n ≤ 9 → (∀ k, k < 36 → f k = cn 0) → s3F f n = 0
  | 0, _, _ => rfl
  | n + 1, h, hz => by
    show s3F f n + f (4 * n + 3) = 0
    rw [s3F_z n (by omega) hz, hz (4 * n + 3) (by omega)]
    rfl
theorem csF_z {f : Nat → Int64} : ∀ n : Nat, n ≤ 9 → (∀ k, k < 9 → f k = cl 0) → csF f n = 0
  | 0, _, _ => rfl
  | n + 1, h, hz => by
    show csF f n + max (f n).toInt (-(f n).toInt) = 0
    rw [csF_z n (by omega) hz, hz n (by omega)]
    rfl
theorem fresh (hfl : ¬ lg 4006 = cn 1) (hK : CK p) (hD : ∀ k, k < 60 → ∃ b, b < 6 ∧ p.2.2 4 (k + 1) 0 = b + 1) (h8 : ∀ k, k < 60 → b01 (q.1 15 8 k)) (hlg : ∀ j, j < 4000 → q.1 13 40 j = lg j) (h60 : q.1 12 1 60 = lg 4000) (h61 : q.1 12 1 61 = lg 4001) : (g5_restore p ∧ g12_resets q) ∧ IV lg (v5_restore p) (v12_resets q) 0 0 0 0 := by
  obtain ⟨P, hP, gP, pR, pJ4, p6, p10, p1, p7, p4, p13, p0, ⟨p24, p25, p26⟩, p13m, p9, pK⟩ := rv5 hK
  obtain ⟨Q, hQ, gQ, qR, qJ, q1, q2, q3, q6, q15, q35, q36, ⟨q50, q57, q58, q17, q18, q39, q40', q48⟩, qlog, q8, q12, qB, qL⟩ := rq_all q
  rw [hP, hQ]
  refine ⟨⟨gP, gQ⟩, ?_⟩
  have dead : ∀ i, i < 44 → ¬ Q.1 15 3 i = cn 1 := fun i hi h => by
    rw [q15 i hi] at h
    exact absurd h (by decide)
  have dst : ∀ i, i < 40 → ¬ stnd Q i := fun i hi h => dead i (by omega) h.1
  have r0 : RS Q 40 = 0 := RS_dead 40 (by decide) q15
  have z00 : cn ((0 : Nat) : Int) = cn 0 := rfl
  refine ⟨⟨?_, ?_, ?_, ?_, pK, ?_, ?_, ?_⟩, ?_, ?_, by omega, by rw [r0]; decide, by rw [r0]; decide⟩
  · refine ⟨⟨fun i hi => Or.inl ⟨p10 _ (by omega) (by omega), q15 i (by omega)⟩, fun i h1 h2 => q15 i h2⟩, ⟨fun i j hi _ h => absurd h (dead i (by omega)), fun i hi h => absurd h (dead i (by omega)), p6 4 (by decide) (by decide), q39, by decide⟩, ⟨fun i j hi _ h => absurd h (dst i hi), fun i hi h => absurd h (dst i hi), p6 5 (by decide) (by decide), q40', by decide⟩, fun i j hi _ h => absurd h (dead i (by omega))⟩
  · refine ⟨fun a ha => ⟨fun c hc => ?_, ?_⟩, fun a ha => ⟨Int.le_refl _, fun c hc => ⟨999, by decide, by decide, ?_, q2 _ (by omega)⟩, ⟨0, by decide, by decide, p0 _ 5 (by omega) (by omega) (by decide) (by decide), (q3 a ha).1⟩, ⟨0, by decide, by show (0 : Int) + 0 ≤ 1000000000; decide, p0 _ 6 (by omega) (by omega) (by decide) (by decide), (q3 a ha).2.1⟩, ⟨?_, ?_⟩, ?_⟩⟩
    · rw [p13 _ c (by omega) (by omega) hc, if_pos (by omega), q1 _ (by omega)]
    · rw [pJ4 _ (by omega) (by omega), qJ a ha]
    · rw [p13 _ c (by omega) (by omega) hc, if_neg (by omega)]
    · rw [p0 _ 7 (by omega) (by omega) (by decide) (by decide), (q3 a ha).2.2.1]
    · rw [(q3 a ha).2.2.1]
      exact Or.inl rfl
    · rw [p0 _ 8 (by omega) (by omega) (by decide) (by decide), (q3 a ha).2.2.2]
  · intro b hb
    obtain ⟨x3, x4, x5⟩ := p1 (b + 1) (by omega) (by omega)
    obtain ⟨y6, y7, y8, y9, y10, y11, y12⟩ := q6 b hb
    have hpr : ∃ z : Int, PrB b z ∧ (if b + 1 < 5 then cn 100 else cn 0) = cn z ∧ (if b < 4 then cn 100 else cn 0) = cn z := by
      by_cases h : b < 4
      · exact ⟨100, ⟨by decide, by decide, fun _ => by decide⟩, by rw [if_pos (by omega)], by rw [if_pos h]⟩
      · exact ⟨0, ⟨by decide, by decide, fun h2 => absurd h2 h⟩, by rw [if_neg (by omega)], by rw [if_neg h]⟩
    obtain ⟨z, z1, z2, z3⟩ := hpr
    refine ⟨⟨z, z1, x3.trans z2, y10.trans z3⟩, ⟨z, z1, x4.trans z2, y11.trans z3⟩, Or.inl ⟨x5 5 (by decide) (by decide), y12⟩, ⟨0, by decide, by decide, x5 9 (by decide) (by decide), y6⟩, ⟨0, by decide, by decide, x5 10 (by decide) (by decide), y7⟩, ⟨0, by decide, by decide, x5 11 (by decide) (by decide), y8⟩, ⟨0, by decide, by decide, x5 12 (by decide) (by decide), y9⟩⟩
  · refine ⟨fun k hk => ⟨?_, ?_, Or.inr ⟨p4 _ (by omega) (by omega), Or.inl (by omega)⟩⟩, p7, q48, by decide⟩
    · rw [pR]
      exact hD k hk
    · rw [q8]
      exact h8 k hk
  · refine ⟨fun m hm => ?_, fun s c hs hc => ⟨0, by decide, by decide, p13m _ c (by omega) (by omega) hc, q35 _ (by omega)⟩, ⟨0, by decide, by decide, p24, q50⟩, ⟨500, by decide, by decide, p25, q58⟩, Or.inl ⟨p26, q57⟩, ⟨0, by decide, p6 2 (by decide) (by decide), q17⟩, ⟨0, by decide, p6 3 (by decide) (by decide), q18⟩, fun j hj => ?_, ?_, ?_, fun c hc => ?_, ?_, ?_, fun h => absurd (by rw [lgB_o (by decide) (by decide)] at h; exact h) hfl, fun h => absurd (by rw [lgB_o (by decide) (by decide)] at h; exact h) hfl⟩
    · obtain ⟨y1, y2, y3, y4, y5⟩ := q36 m hm
      have e := fun S (h : S ≤ 5) => p9 (m + 1) S (by omega) (by omega) h
      refine ⟨⟨0, by decide, by decide, ?_, y1⟩, ⟨0, by decide, by decide, ?_, y2⟩, ⟨200, by decide, by decide, ?_, y3⟩, ⟨?_, ?_⟩, ⟨?_, ?_⟩, fun h => ?_⟩
      · rw [e 0 (by decide), if_neg (by decide)]
      · rw [e 1 (by decide), if_neg (by decide)]
      · rw [e 2 (by decide), if_pos rfl]
      · rw [e 3 (by decide), if_neg (by decide), y4]
      · rw [y4]
        exact Or.inl rfl
      · rw [e 4 (by decide), if_neg (by decide), y5]
      · rw [y5]
        exact Or.inl rfl
      · rw [y5] at h
        exact absurd h (by decide)
    · rw [qlog, lgB_o (by omega) (by omega)]
      exact hlg j hj
    · rw [q12 60 (by decide), lgB_o (by decide) (by decide)]
      exact h60
    · rw [q12 61 (by decide), lgB_o (by decide) (by decide)]
      exact h61
    · rw [psF_z hc 9 (by decide) q1, lgB_2 (by decide), q48]
      decide
    · exact s3F_z 9 (by decide) q1
    · rw [csF_z 9 (by decide) qJ, lgB_3 (by decide), q48]
      decide
  · refine ⟨fun i hi h => absurd h (dst i hi), fun i hi _ h => absurd h (dst i hi), fun i t hi h => absurd h (dead i (by omega)), fun b hb h => absurd (q6 b hb).2.2.2.2.2.2 h⟩
  · refine ⟨fun a ha => ⟨0, (q3 a ha).2.1, by decide, by rw [r0]; decide⟩, 0, 0, qB, qL, by decide, by rw [r0]; decide, by decide⟩
  · exact fun i hi h => absurd h (dst i hi)
  · refine ⟨fun m hm => ⟨⟨0, by decide, by decide, (q36 m hm).1⟩, ⟨0, by decide, by decide, (q36 m hm).2.1⟩⟩, ⟨fun k hk h => ?_, fun m hm h => ?_, fun _ k hk => (q36 k hk).2.2.2.2⟩, ⟨0, by decide, q17⟩, 0, by decide, q18⟩
    · rw [(q36 k hk).2.2.2.2] at h
      exact absurd h (by decide)
    · rw [q57, cneq (by decide) ⟨by omega, by omega⟩] at h
      omega
end Fresh3
