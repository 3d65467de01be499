/-! a close-out, and how far positions can have come -/
theorem psF_cg {f g : Nat → Int32} {c : Nat} : ∀ n, (∀ a, a < n → g (4 * a + c) = f (4 * a + c)) → psF g c n = psF f c n
  | 0, _ => rfl
  | n + 1, h => by
    show psF g c n + _ = psF f c n + _
    rw [psF_cg n (fun a ha => h a (by omega)), h n (by omega)]
section BnX
variable {q q' : PM} {G : Nat → Nat} {M : Nat → Int} {t m s : Nat}
theorem hov_ps {C : Nat} (hC : C < 4) (hm : m < 4) (hs : s < 9) (h1 : ¬ s = 2 * m) (h2 : ¬ s = 2 * m + 1) (hH : HOV q q' m s 0) : psF (q'.1 13 1) C 8 ≤ psF (q.1 13 1) C 8 := by
  obtain ⟨f, hf⟩ : ∃ f, q.1 13 1 = f := ⟨_, rfl⟩
  obtain ⟨g, hg⟩ : ∃ g, q'.1 13 1 = g := ⟨_, rfl⟩
  have hP : ∀ a, a < 9 → g (4 * a + C) = if a = 2 * m ∨ a = 2 * m + 1 then cn 0 else if a = s then f (4 * s + C) + (f (8 * m + C) + f (8 * m + 4 + C)) else f (4 * a + C) := fun a ha => by
    have h := hH a C ha hC
    rw [if_pos (Nat.zero_le _), hf, hg] at h
    exact h
  rw [hf, hg]
  obtain ⟨f1, hf1⟩ : ∃ f1 : Nat → Int32, ∀ k, f1 k = if k = 4 * s + C then g (4 * s + C) else f k := ⟨_, fun k => rfl⟩
  obtain ⟨f2, hf2⟩ : ∃ f2 : Nat → Int32, ∀ k, f2 k = if k = 4 * (2 * m) + C then cn 0 else f1 k := ⟨_, fun k => rfl⟩
  obtain ⟨f3, hf3⟩ : ∃ f3 : Nat → Int32, ∀ k, f3 k = if k = 4 * (2 * m + 1) + C then cn 0 else f2 k := ⟨_, fun k => rfl⟩
  have e0 : psF g C 8 = psF f3 C 8 := by
    refine psF_cg 8 fun a ha => ?_
    rw [hP a (by omega), hf3, hf2, hf1]
    by_cases g1 : a = 2 * m + 1
    · rw [if_pos (Or.inr g1), if_pos (by rw [g1])]
    · rw [if_neg (show ¬ 4 * a + C = 4 * (2 * m + 1) + C by omega)]
      by_cases g2 : a = 2 * m
      · rw [if_pos (Or.inl g2), if_pos (by rw [g2])]
      · rw [if_neg (show ¬ (a = 2 * m ∨ a = 2 * m + 1) by omega), if_neg (show ¬ 4 * a + C = 4 * (2 * m) + C by omega)]
        by_cases g3 : a = s
        · rw [if_pos g3, if_pos (by rw [g3]), hP s hs, if_neg (show ¬ (s = 2 * m ∨ s = 2 * m + 1) by omega), if_pos rfl]
        · rw [if_neg g3, if_neg (show ¬ 4 * a + C = 4 * s + C by omega)]
  have a1 := ps_set (f := f) (g := f1) (A := s) (C := C) (c := C) hC hC (fun k hk => by rw [hf1, if_neg hk]) 8
  have a2 := ps_set (f := f1) (g := f2) (A := 2 * m) (C := C) (c := C) hC hC (fun k hk => by rw [hf2, if_neg hk]) 8
  have a3 := ps_set (f := f2) (g := f3) (A := 2 * m + 1) (C := C) (c := C) hC hC (fun k hk => by rw [hf3, if_neg hk]) 8
  have v1 : f1 (4 * s + C) = f (4 * s + C) + (f (8 * m + C) + f (8 * m + 4 + C)) := by
    rw [hf1, if_pos rfl, hP s hs, if_neg (show ¬ (s = 2 * m ∨ s = 2 * m + 1) by omega), if_pos rfl]
  have v2 : f2 (4 * (2 * m) + C) = cn 0 := by rw [hf2, if_pos rfl]
  have v3 : f1 (4 * (2 * m) + C) = f (8 * m + C) := by
    rw [hf1, if_neg (by omega)]
    congr 1
    omega
  have v4 : f3 (4 * (2 * m + 1) + C) = cn 0 := by rw [hf3, if_pos rfl]
  have v5 : f2 (4 * (2 * m + 1) + C) = f (8 * m + 4 + C) := by
    rw [hf2, if_neg (by omega), hf1, if_neg (by omega)]
    congr 1
    omega
  have z0 : (cn 0).toInt = 0 := rfl
  rw [if_pos ⟨rfl, show 2 * m < 8 by omega⟩, v2, v3, z0] at a2
  rw [if_pos ⟨rfl, show 2 * m + 1 < 8 by omega⟩, v4, v5, z0] at a3
  have b1 := i32_add_abs (f (4 * s + C)) (f (8 * m + C) + f (8 * m + 4 + C))
  have b2 := i32_add_abs (f (8 * m + C)) (f (8 * m + 4 + C))
  by_cases hs8 : s < 8
  · rw [if_pos ⟨rfl, hs8⟩, v1] at a1
    omega
  · rw [if_neg (fun e => hs8 e.2)] at a1
    omega
theorem s4_add {T1 T2 M E : Int} {g1 g2 : Nat} (H1 : S4 T1 M E g1) (H2 : S4 T2 M E g2) : S4 (T1 + T2) M E (g1 + g2) := by
  obtain ⟨a1, a2⟩ := H1
  obtain ⟨b1, b2⟩ := H2
  have e : ((g1 + g2 : Nat) : Int) = (g1 : Int) + (g2 : Int) := rfl
  unfold S4
  rw [e, Int.add_mul, Int.add_mul, Int.add_mul]
  exact ⟨by omega, by omega⟩
theorem bn_close (H : BN q G M t) (hFI : FI q) (h01 : ∀ k, k < 4 → b01 (q.1 15 9 k)) (hm : m < 4) (hs : s < 9) (h1 : ¬ s = 2 * m) (h2 : ¬ s = 2 * m + 1) (h57 : q.1 12 1 57 = cn (m : Int)) (hw : (s = 8 ∧ ∀ k, k < 4 → q.1 15 10 k = cn 0) ∨ ∃ j : Nat, j < 4 ∧ s = 2 * j ∧ ¬ j = m ∧ q.1 15 10 j = cn 1) (hH : HOV q q' m s 0) (hX : CLX q q' m (fun _ => 20000)) (hFI' : FI q') : ∃ G', BN q' G' M (t + 1) := by
  obtain ⟨⟨p0, m1, m2⟩, ⟨f1, f2, f3⟩, ⟨s1, s2⟩, s3, s4', s5, ⟨s6, s6'⟩, s7, ⟨g1, g2, g3, g4⟩, s8⟩ := H
  obtain ⟨x1, x2, x3, x4, x5⟩ := hX
  have eF : q'.1 13 4 = q.1 13 4 := x2 4 (by decide) (by decide)
  have e95 : q'.1 12 1 95 = q.1 12 1 95 := x5 95 (by decide) (by decide) (by decide) (by decide)
  have e9 : q'.1 15 9 = q.1 15 9 := x3 9 (by decide)
  have hE0 : 0 ≤ EE q G := by
    unfold EE
    exact Int.mul_nonneg f1 (by omega)
  have h9m : q.1 15 9 m = cn 1 := hFI.2.1 m hm h57
  have hmv : ∀ s C, mvI q' s C = mvI q s C := fun s C => by
    unfold mvI
    rw [x2 35 (by decide) (by decide)]
  have n1m : ∀ k : Nat, k < 4 → ¬ cn (-1) = cn (k : Int) := fun k hk => by
    rw [cneq (by decide) ⟨by omega, by omega⟩]
    omega
  have hG' : ∀ k, k < 4 → (Gone q' k ↔ q.1 15 9 k = cn 1) := fun k hk => by
    unfold Gone
    rw [e9, x4]
    exact ⟨fun h => h.1, fun h => ⟨h, n1m k hk⟩⟩
  have hmm : ∀ k : Nat, k < 4 → (cn (m : Int) = cn (k : Int) ↔ m = k) := fun k hk => by
    rw [cneq ⟨by omega, by omega⟩ ⟨by omega, by omega⟩]
    omega
  have hGq : ∀ k, k < 4 → (Gone q k ↔ (q.1 15 9 k = cn 1 ∧ ¬ k = m)) := fun k hk => by
    unfold Gone
    rw [h57]
    constructor
    · intro h
      exact ⟨h.1, fun e => h.2 (by rw [e])⟩
    · intro h
      exact ⟨h.1, fun e => h.2 ((hmm k hk).mp e).symm⟩
  have hgm : ¬ Gone q m := fun h => ((hGq m hm).mp h).2 rfl
  have gnE : ∀ k, k < 4 → gn q' k = if k = m then 1 else gn q k := fun k hk => by
    have i1 := hG' k hk
    have i2 := hGq k hk
    unfold Gone at i1 i2
    unfold gn
    by_cases e : k = m
    · rw [if_pos e, if_pos (i1.mpr (by rw [e]; exact h9m))]
    · rw [if_neg e]
      by_cases e2 : q.1 15 9 k = cn 1
      · rw [if_pos (i1.mpr e2), if_pos (i2.mpr ⟨e2, e⟩)]
      · rw [if_neg (fun h => e2 (i1.mp h)), if_neg (fun h => e2 (i2.mp h).1)]
  have gnm : gn q m = 0 := if_neg hgm
  have hop : opn q' = 0 := if_pos x4
  have hopq : 1 ≤ opn q ∧ ((∃ j : Nat, j < 4 ∧ q.1 15 10 j = cn 1) → opn q = 2) := by
    unfold opn
    rw [if_neg (by rw [h57]; exact fun e => n1m m hm e.symm)]
    refine ⟨by split <;> omega, fun ⟨j, hj, h⟩ => if_pos ?_⟩
    have hh : j = 0 ∨ j = 1 ∨ j = 2 ∨ j = 3 := by omega
    rcases hh with rfl | rfl | rfl | rfl
    · exact Or.inl h
    · exact Or.inr (Or.inl h)
    · exact Or.inr (Or.inr (Or.inl h))
    · exact Or.inr (Or.inr (Or.inr h))
  have hps : ∀ C, C < 4 → psF (q'.1 13 1) C 8 ≤ psF (q.1 13 1) C 8 := fun C hC => hov_ps hC hm hs h1 h2 hH
  have hpos : ∀ a C, a < 9 → C < 4 → q'.1 13 1 (4 * a + C) = if a = 2 * m ∨ a = 2 * m + 1 then cn 0 else if a = s then q.1 13 1 (4 * s + C) + (q.1 13 1 (8 * m + C) + q.1 13 1 (8 * m + 4 + C)) else q.1 13 1 (4 * a + C) := fun a C ha hC => by
    have h := hH a C ha hC
    rw [if_pos (Nat.zero_le _)] at h
    exact h
  have hst : ∀ a C, a < 9 → C < 4 → ¬ a = 2 * m → ¬ a = 2 * m + 1 → ¬ a = s → q'.1 13 1 (4 * a + C) = q.1 13 1 (4 * a + C) := fun a C ha hC e1 e2 e3 => by
    rw [hpos a C ha hC, if_neg (by omega), if_neg e3]
  have hqs : ∀ k C, k < 4 → C < 4 → ¬ k = m → ¬ s = 2 * k → ¬ s = 2 * k + 1 → qs q' k C = qs q k C := fun k C hk hC e1 e2 e3 => by
    have y1 := hst (2 * k) C (by omega) hC (by omega) (by omega) (by omega)
    have y2 := hst (2 * k + 1) C (by omega) hC (by omega) (by omega) (by omega)
    rw [show 4 * (2 * k) + C = 8 * k + C by omega] at y1
    rw [show 4 * (2 * k + 1) + C = 8 * k + 4 + C by omega] at y2
    unfold qs
    rw [y1, y2]
  -- what does not depend on who takes over
  have hPL : PrL q' M := pb_c (p := q) (fun i hi => x2 i (by omega) (by omega)) (by rw [x3 8 (by decide)]) p0
  have hcash : ∀ (E' : Int), E' = EE q G → ∀ k, k < 4 → q'.1 15 9 k = cn 0 → ab (q'.2.1 14 1 (2 * k)).toInt ≤ 20000 * (E' + ((t + 1 : Nat) : Int)) ∧ ab (q'.2.1 14 1 (2 * k + 1)).toInt ≤ 20000 * (E' + ((t + 1 : Nat) : Int)) := fun E' hE' k hk h0 => by
    rw [e9] at h0
    have hkm : ¬ k = m := fun e => by
      rw [e, h9m] at h0
      exact absurd h0 (by decide)
    obtain ⟨c1, c2⟩ := s7 k hk h0
    have d1 := x1 (2 * k) (by omega) (by omega) (by omega)
    have d2 := x1 (2 * k + 1) (by omega) (by omega) (by omega)
    dsimp only at d1 d2
    unfold ab at c1 c2 ⊢
    rw [hE']
    omega
  have one : 1 ≤ G (8 + m) := g2 m hm hgm
  rcases hw with ⟨hs8, hb0⟩ | ⟨j, hj, hsj, hjm, hbj⟩
  · -- the house
    obtain ⟨G', hG1⟩ : ∃ G' : Nat → Nat, G' = uN (uN G (8 + m) 0) 7 (G 7 + 1) := ⟨_, rfl⟩
    have v7 : G' 7 = G 7 + 1 := by rw [hG1, uN_s]
    have vm : G' (8 + m) = 0 := by rw [hG1, uN_n (show ¬ 8 + m = 7 by omega), uN_s]
    have vo : ∀ i, ¬ i = 7 → ¬ i = 8 + m → G' i = G i := fun i a b => by rw [hG1, uN_n a, uN_n b]
    have hEE : EE q' G' = EE q G := by
      unfold EE
      rw [eF, vo 4 (by decide) (by omega)]
    refine ⟨G', ⟨hPL, m1, m2⟩, ⟨by rw [eF]; exact f1, by rw [eF, e95]; exact f2, by rw [e95, vo 3 (by decide) (by omega)]; exact f3⟩, ⟨fun C hC => ?_, ?_⟩, fun k C hk hC hgo => ?_, fun h7 => absurd h7 (by omega), fun r hr => ?_, ⟨fun s C hs hC4 => ?_, ?_⟩, fun k hk h0 => hcash _ hEE k hk h0, ⟨fun k hk h => ?_, fun k hk h => ?_, ?_, ?_⟩, ?_⟩
    · rw [hEE, vo C (by omega) (by omega)]
      have hM := m1 C (by omega)
      exact s3_up (e := 0) (s1 C hC) (by have := hps C (by omega); omega) (Int.le_refl _) (by omega) (by omega) (by omega) (pw_1 _)
    · rw [hEE]
      have := hps 3 (by decide)
      omega
    · have hk9 : ¬ q.1 15 9 k = cn 1 := fun h => hgo ((hG' k hk).mpr h)
      have hkm : ¬ k = m := fun e => hk9 (by rw [e]; exact h9m)
      rw [hEE, vo (8 + k) (by omega) (by omega), hqs k C hk (by omega) hkm (by omega) (by omega)]
      exact s3 k C hk hC (fun h => hk9 ((hGq k hk).mp h).1)
    · rw [x2 34 (by decide) (by decide), eF]
      exact s5 r hr
    · rw [hmv, vo (12 + C) (by omega) (by omega)]
      exact s6 s C hs hC4
    · rw [vo 12 (by omega) (by omega), vo 13 (by omega) (by omega), vo 14 (by omega) (by omega), vo 15 (by omega) (by omega), vo 5 (by omega) (by omega)]
      exact s6'
    · by_cases e : k = m
      · rw [e]
        exact vm
      · rw [vo (8 + k) (by omega) (by omega)]
        exact g1 k hk ((hGq k hk).mpr ⟨(hG' k hk).mp h, e⟩)
    · have hk9 : ¬ q.1 15 9 k = cn 1 := fun h' => h ((hG' k hk).mpr h')
      have hkm : ¬ k = m := fun e => hk9 (by rw [e]; exact h9m)
      rw [vo (8 + k) (by omega) (by omega)]
      exact g2 k hk (fun h => hk9 ((hGq k hk).mp h).1)
    · have hh : m = 0 ∨ m = 1 ∨ m = 2 ∨ m = 3 := by omega
      rcases hh with rfl | rfl | rfl | rfl
      · have a1 := vo 9 (by decide) (by decide)
        have a2 := vo 10 (by decide) (by decide)
        have a3 := vo 11 (by decide) (by decide)
        simp only [Nat.reduceAdd] at vm one
        omega
      · have a1 := vo 8 (by decide) (by decide)
        have a2 := vo 10 (by decide) (by decide)
        have a3 := vo 11 (by decide) (by decide)
        simp only [Nat.reduceAdd] at vm one
        omega
      · have a1 := vo 8 (by decide) (by decide)
        have a2 := vo 9 (by decide) (by decide)
        have a3 := vo 11 (by decide) (by decide)
        simp only [Nat.reduceAdd] at vm one
        omega
      · have a1 := vo 8 (by decide) (by decide)
        have a2 := vo 9 (by decide) (by decide)
        have a3 := vo 10 (by decide) (by decide)
        simp only [Nat.reduceAdd] at vm one
        omega
    · rw [gnE 0 (by decide), gnE 1 (by decide), gnE 2 (by decide), gnE 3 (by decide), v7, vo 6 (by decide) (by omega)]
      have hh : m = 0 ∨ m = 1 ∨ m = 2 ∨ m = 3 := by omega
      rcases hh with rfl | rfl | rfl | rfl
      · rw [if_pos rfl, if_neg (by decide), if_neg (by decide), if_neg (by decide)]
        omega
      · rw [if_neg (by decide), if_pos rfl, if_neg (by decide), if_neg (by decide)]
        omega
      · rw [if_neg (by decide), if_neg (by decide), if_pos rfl, if_neg (by decide)]
        omega
      · rw [if_neg (by decide), if_neg (by decide), if_neg (by decide), if_pos rfl]
        omega
    · rw [hop, vo 0 (by omega) (by omega), vo 1 (by omega) (by omega), vo 2 (by omega) (by omega), vo 3 (by omega) (by omega), vo 4 (by omega) (by omega), vo 5 (by omega) (by omega), vo 6 (by omega) (by omega)]
      omega
  · -- another member
    obtain ⟨G', hG1⟩ : ∃ G' : Nat → Nat, G' = uN (uN (uN G (8 + j) (G (8 + j) + G (8 + m))) (8 + m) 0) 6 (G 6 + 1) := ⟨_, rfl⟩
    have v6 : G' 6 = G 6 + 1 := by rw [hG1, uN_s]
    have vm : G' (8 + m) = 0 := by rw [hG1, uN_n (show ¬ 8 + m = 6 by omega), uN_s]
    have vj : G' (8 + j) = G (8 + j) + G (8 + m) := by rw [hG1, uN_n (show ¬ 8 + j = 6 by omega), uN_n (show ¬ 8 + j = 8 + m by omega), uN_s]
    have vo : ∀ i, ¬ i = 6 → ¬ i = 8 + m → ¬ i = 8 + j → G' i = G i := fun i a b c => by rw [hG1, uN_n a, uN_n b, uN_n c]
    have hEE : EE q' G' = EE q G := by
      unfold EE
      rw [eF, vo 4 (by decide) (by omega) (by omega)]
    have hj9 : q.1 15 9 j = cn 0 := hFI.1 j hj hbj
    have hop2 := hopq.2 ⟨j, hj, hbj⟩
    refine ⟨G', ⟨hPL, m1, m2⟩, ⟨by rw [eF]; exact f1, by rw [eF, e95]; exact f2, by rw [e95, vo 3 (by decide) (by omega) (by omega)]; exact f3⟩, ⟨fun C hC => ?_, ?_⟩, fun k C hk hC hgo => ?_, fun h7 C hC => ?_, fun r hr => ?_, ⟨fun s C hs hC4 => ?_, ?_⟩, fun k hk h0 => hcash _ hEE k hk h0, ⟨fun k hk h => ?_, fun k hk h => ?_, ?_, ?_⟩, ?_⟩
    · rw [hEE, vo C (by omega) (by omega) (by omega)]
      have hM := m1 C (by omega)
      exact s3_up (e := 0) (s1 C hC) (by have := hps C (by omega); omega) (Int.le_refl _) (by omega) (by omega) (by omega) (pw_1 _)
    · rw [hEE]
      have := hps 3 (by decide)
      omega
    · have hk9 : ¬ q.1 15 9 k = cn 1 := fun h => hgo ((hG' k hk).mpr h)
      have hkm : ¬ k = m := fun e => hk9 (by rw [e]; exact h9m)
      rw [hEE]
      by_cases ekj : k = j
      · subst ekj
        rw [vj]
        have hM := m1 C (by omega)
        have y := s4_add (s3 k C hk hC (fun h => hk9 ((hGq k hk).mp h).1)) (s3 m C hm hC hgm)
        have z1 := hpos (2 * k) C (by omega) (by omega)
        rw [if_neg (by omega), if_pos hsj.symm, hsj, show 4 * (2 * k) + C = 8 * k + C by omega] at z1
        have z2 := hst (2 * k + 1) C (by omega) (by omega) (by omega) (by omega) (by omega)
        rw [show 4 * (2 * k + 1) + C = 8 * k + 4 + C by omega] at z2
        have hle : qs q' k C ≤ qs q k C + qs q m C := by
          unfold qs ab
          rw [z1, z2]
          have b1 := i32_add_abs (q.1 13 1 (8 * k + C)) (q.1 13 1 (8 * m + C) + q.1 13 1 (8 * m + 4 + C))
          have b2 := i32_add_abs (q.1 13 1 (8 * m + C)) (q.1 13 1 (8 * m + 4 + C))
          omega
        exact s4_up (e := 0) y (by omega) (Int.le_refl _) (by omega) (by omega) (by omega) (by omega)
      · rw [vo (8 + k) (by omega) (by omega) (by omega), hqs k C hk (by omega) hkm (by omega) (by omega)]
        exact s3 k C hk hC (fun h => hk9 ((hGq k hk).mp h).1)
    · rw [vo 7 (by decide) (by omega) (by omega)] at h7
      have h := s4' h7 C hC
      have y := hst 8 C (by decide) (by omega) (by omega) (by omega) (by omega)
      rw [show 4 * 8 + C = 32 + C by omega] at y
      rw [vo C (by omega) (by omega) (by omega)]
      unfold hh at h ⊢
      rw [y]
      exact h
    · rw [x2 34 (by decide) (by decide), eF]
      exact s5 r hr
    · rw [hmv, vo (12 + C) (by omega) (by omega) (by omega)]
      exact s6 s C hs hC4
    · rw [vo 12 (by omega) (by omega) (by omega), vo 13 (by omega) (by omega) (by omega), vo 14 (by omega) (by omega) (by omega), vo 15 (by omega) (by omega) (by omega), vo 5 (by omega) (by omega) (by omega)]
      exact s6'
    · by_cases e : k = m
      · rw [e]
        exact vm
      · have hk9 := (hG' k hk).mp h
        have ekj : ¬ k = j := fun e2 => by
          rw [e2, hj9] at hk9
          exact absurd hk9 (by decide)
        rw [vo (8 + k) (by omega) (by omega) (by omega)]
        exact g1 k hk ((hGq k hk).mpr ⟨hk9, e⟩)
    · have hk9 : ¬ q.1 15 9 k = cn 1 := fun h' => h ((hG' k hk).mpr h')
      have hkm : ¬ k = m := fun e => hk9 (by rw [e]; exact h9m)
      have y := g2 k hk (fun h => hk9 ((hGq k hk).mp h).1)
      by_cases ekj : k = j
      · subst ekj
        omega
      · rw [vo (8 + k) (by omega) (by omega) (by omega)]
        exact y
    · have v7 := vo 7 (by decide) (by omega) (by omega)
      have hh : m = 0 ∨ m = 1 ∨ m = 2 ∨ m = 3 := by omega
      have hh2 : j = 0 ∨ j = 1 ∨ j = 2 ∨ j = 3 := by omega
      have w8 : ∀ i, i < 4 → ¬ i = m → ¬ i = j → G' (8 + i) = G (8 + i) := fun i hi a b => vo (8 + i) (by omega) (by omega) (by omega)
      have w0 := w8 0 (by decide)
      have w1 := w8 1 (by decide)
      have w2 := w8 2 (by decide)
      have w3 := w8 3 (by decide)
      rcases hh with rfl | rfl | rfl | rfl <;> rcases hh2 with rfl | rfl | rfl | rfl <;> first | exact absurd rfl hjm | (simp only [Nat.reduceAdd] at vm vj w0 w1 w2 w3; omega)
    · rw [gnE 0 (by decide), gnE 1 (by decide), gnE 2 (by decide), gnE 3 (by decide), v6, vo 7 (by decide) (by omega) (by omega)]
      have hh : m = 0 ∨ m = 1 ∨ m = 2 ∨ m = 3 := by omega
      rcases hh with rfl | rfl | rfl | rfl
      · rw [if_pos rfl, if_neg (by decide), if_neg (by decide), if_neg (by decide)]
        omega
      · rw [if_neg (by decide), if_pos rfl, if_neg (by decide), if_neg (by decide)]
        omega
      · rw [if_neg (by decide), if_neg (by decide), if_pos rfl, if_neg (by decide)]
        omega
      · rw [if_neg (by decide), if_neg (by decide), if_neg (by decide), if_pos rfl]
        omega
    · rw [hop, v6, vo 0 (by omega) (by omega) (by omega), vo 1 (by omega) (by omega) (by omega), vo 2 (by omega) (by omega) (by omega), vo 3 (by omega) (by omega) (by omega), vo 4 (by omega) (by omega) (by omega), vo 5 (by omega) (by omega) (by omega)]
      omega
end BnX
