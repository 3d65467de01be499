/-! failing over, and what is told then -/
section OverL
variable {P0 P1 Q : PM} {cl' lg : Nat → Int32} {kp fo : Int32} {ou : Int64} {L e N T D tt f g t : Nat} {xs : Nat → Int32}
/-- begun anew -/
theorem fr_re (I : IV lg P0 Q N T D t) : g5_restore P0 ∧ FR (v5_restore P0) := by
  obtain ⟨h1, h2, h3, h4⟩ := iv_log I
  have hD := fun k hk => (I.1.2.2.2.1.1 k hk).1
  obtain ⟨lg0, hlg, hl⟩ : ∃ lg0 : Nat → Int32, ¬ lg0 4006 = cn 1 ∧ ∀ j, ¬ j = 4006 → lg0 j = lg j := ⟨fun j => if j = 4006 then cn 0 else lg j, show ¬ (if 4006 = 4006 then cn 0 else lg 4006) = cn 1 by rw [if_pos rfl]; decide, fun j h => if_neg h⟩
  exact ⟨(fresh (lg := lg0) hlg I.1.2.2.2.2.1 hD h4 (fun j hj => (h1 j hj).trans (hl j (by omega)).symm) (h2.trans (hl 4000 (by decide)).symm) (h3.trans (hl 4001 (by decide)).symm)).1.1, fun lg' Q' a0 a1 a2 a3 a4 => (fresh (lg := lg') a0 I.1.2.2.2.2.1 hD a4 a1 a2 a3).2⟩
theorem jn_fo (J : JN lg P0 P1 Q cl' N T D t f g) : ∃ (P' P1' Q2 : PM) (g' : Nat) (lg' : Nat → Int32) (N2 T2 D2 : Nat), X 172 0 [rR 3 11 1, vJ, vJ] [] (mm P0 P1 Zp cl' (cn t) (cn f) (cn g) ou L xs e) = some (.inl (some (vI (cn t - cn f))), mm P' P1' Zp cl' (cn f) (cn f) (cn g') ou L xs e) ∧ JN lg' P' P1' Q2 cl' N2 T2 D2 f f g' := by
  obtain ⟨I, ⟨hg0, hg1, hg2⟩, ⟨h60, h61⟩, ⟨hf, hgt, ht5⟩, hR, ⟨Pz, z1, z2, z3⟩, ⟨Ps, s1, s2, s3⟩⟩ := J
  have hO := row_o hR
  have hRf : ROW lg cl' f := fun i hi => hR i (by omega)
  have hOf := row_o hRf
  have l1 : ∀ j, ¬ j = 4000 → (fun j => if j = 4000 then cn (f : Int) else lg j) j = lg j := fun j h => if_neg h
  obtain ⟨R0, g12, hE, Q2, N2, T2, D2, e12, ez, I3⟩ := fo_eq (lg' := fun j => if j = 4000 then cn f else lg j) hg2 ht5 hf I.1 h60 h61 (fun Q' a1 a2 a3 a4 => z1 lg Q' hg2 a1 a2 a3 a4) hOf (fun i hi => z3 i (by omega)) l1 (if_pos rfl)
  obtain ⟨-, F0⟩ := fr_re I
  obtain ⟨N8, T8, D8, I8⟩ := rep_all (n := g) hg2 (by omega) (fun i hi => hO i (by omega)) (fr_iv hg2 s1 I) s3
  rw [← s2] at I8
  obtain ⟨R1, F1⟩ := fr_re I8
  have hGW := fun i (hi : i < f) => fr_g (n := f) hg2 (by omega) F0 I hOf hE hi
  obtain ⟨hF, hgn⟩ := x_fo (P0 := P0) (P1 := P1) (Q := Zp) (ou := ou) (L := L) (xs := xs) (e := e) ht5 hf hgt hRf hg0 hg1 R0 R1 hGW
  have l2 : ∀ n, n ≤ 512 → ∀ j, j < 7 * n → (fun j => if j = 4000 then cn (f : Int) else lg j) j = lg j := fun n hn j h => if_neg (by omega)
  have hR2 : ROW (fun j => if j = 4000 then cn (f : Int) else lg j) cl' f := fun i hi => by
    obtain ⟨k, hk, r0, r1, r2, r3, r4, r5, r6, r7⟩ := hRf i hi
    exact ⟨k, hk, (l1 _ (by omega)).trans r0, r1, r2.trans (l1 _ (by omega)).symm, r3.trans (l1 _ (by omega)).symm, r4.trans (l1 _ (by omega)).symm, r5.trans (l1 _ (by omega)).symm, r6.trans (l1 _ (by omega)).symm, r7.trans (l1 _ (by omega)).symm⟩
  have hP2 : PLD (fun j => if j = 4000 then cn (f : Int) else lg j) (plC lg (v5_restore P0) f) f := pld_c (l2 f (by omega)) ⟨_, F0, rfl, hE⟩
  have hq2 : (fun j => if j = 4000 then cn (f : Int) else lg j) 4000 = cn f ∧ (fun j => if j = 4000 then cn (f : Int) else lg j) 4001 = cn f := ⟨if_pos rfl, (if_neg (by omega)).trans h61⟩
  have hfl : ¬ (fun j => if j = 4000 then cn (f : Int) else lg j) 4006 = cn 1 := fun h => hg2 ((l1 4006 (by decide)).symm.trans h)
  by_cases hgf : g ≤ f
  · rw [if_pos hgf, if_pos hgf] at hF
    exact ⟨_, P1, Q2, g, _, N2, T2, D2, hF, I3, ⟨hgn, hg1, hfl⟩, hq2, ⟨Nat.le_refl _, hgf, by omega⟩, hR2, hP2, pld_c (l2 g (by omega)) ⟨Ps, s1, s2, s3⟩⟩
  · rw [if_neg hgf, if_neg hgf] at hF
    have z00 : cn ((0 : Nat) : Int) = cn 0 := rfl
    rw [← z00] at hF
    exact ⟨_, _, Q2, 0, _, N2, T2, D2, hF, I3, ⟨hgn, gr_V (t5_restore P1 hg1 R1), hfl⟩, hq2, ⟨Nat.le_refl _, by omega, by omega⟩, hR2, hP2, ⟨_, F1, rfl, fun i hi => absurd hi (by omega)⟩⟩
/-- two that have played the same rows know one reference -/
theorem one_ref {PA PB P1A P1B QA QB : PM} {cA cB lA lB : Nat → Int32} {NA TA DA NB TB DB fA fB gA gB n : Nat} (JA : JN lA PA P1A QA cA NA TA DA n fA gA) (JB : JN lB PB P1B QB cB NB TB DB n fB gB) (hc : ∀ j, j < 7 * n → cB j = cA j) : ∃ Q9 N9 T9 D9 N8 T8 D8, IV lA PA Q9 N9 T9 D9 n ∧ IV lA PB Q9 N8 T8 D8 n := by
  obtain ⟨I, ⟨-, -, hg2⟩, -, ⟨-, -, ht5⟩, hR, ⟨Pz, z1, z2, z3⟩, -⟩ := JA
  obtain ⟨-, -, -, -, hR', hP', -⟩ := JB
  have hl : ∀ j, j < 7 * n → lA j = lB j := fun j hj => by
    obtain ⟨k, hk, r0, r1, r2, r3, r4, r5, r6, r7⟩ := hR (j / 7) (by omega)
    obtain ⟨k', hk', q0, q1, q2, q3, q4, q5, q6, q7⟩ := hR' (j / 7) (by omega)
    rw [hc _ (by omega)] at q1 q2 q3 q4 q5 q6 q7
    have hh : j = 7 * (j / 7) ∨ j = 7 * (j / 7) + 1 ∨ j = 7 * (j / 7) + 2 ∨ j = 7 * (j / 7) + 3 ∨ j = 7 * (j / 7) + 4 ∨ j = 7 * (j / 7) + 5 ∨ j = 7 * (j / 7) + 6 := by omega
    rcases hh with h | h | h | h | h | h | h
    · rw [h, r0, q0]
      rw [r1, cneq ⟨by omega, by omega⟩ ⟨by omega, by omega⟩] at q1
      exact congrArg cn (by omega)
    · rw [h, ← r2, ← q2]
    · rw [h, ← r3, ← q3]
    · rw [h, ← r4, ← q4]
    · rw [h, ← r5, ← q5]
    · rw [h, ← r6, ← q6]
    · rw [h, ← r7, ← q7]
  obtain ⟨Ps, s1, s2, s3⟩ := pld_c hl hP'
  have hO := row_o hR
  obtain ⟨N9, T9, D9, I9⟩ := rep_all (n := n) hg2 (by omega) hO (fr_iv hg2 z1 I) z3
  obtain ⟨N8, T8, D8, I8⟩ := rep_all (n := n) hg2 (by omega) hO (fr_iv hg2 s1 I) s3
  rw [← z2] at I9
  rw [← s2] at I8
  exact ⟨_, N9, T9, D9, N8, T8, D8, I9, I8⟩
/-- the sum is a number of the log's rows -/
theorem sum_ref (J : JN lg P0 P1 Q cl' N T D t f g) : ∃ S : Int64, (∀ (kp fo : Int32) (ou : Int64) (P1' : PM) (c9 : Nat → Int32) (e : Nat), X 233 0 [rR 3 11 1, vJ, vJ, vJ, vJ] [] (mm P0 P1' Zp c9 (cn t) kp fo ou L xs e) = some (.inl (some (vL S)), mm P0 P1' Zp c9 (cn t) kp fo ou L xs e)) ∧ ∀ {PB P1B QB : PM} {cB lB : Nat → Int32} {NB TB DB fB gB : Nat}, JN lB PB P1B QB cB NB TB DB t fB gB → (∀ j, j < 7 * t → cB j = cl' j) → ∀ (kp fo : Int32) (ou : Int64) (P1' : PM) (c9 : Nat → Int32) (e : Nat), X 233 0 [rR 3 11 1, vJ, vJ, vJ, vJ] [] (mm PB P1' Zp c9 (cn t) kp fo ou L xs e) = some (.inl (some (vL S)), mm PB P1' Zp c9 (cn t) kp fo ou L xs e) := by
  have J2 := J
  obtain ⟨I, ⟨hg0, -, hg2⟩, -, ⟨-, -, ht5⟩, hR, ⟨Pz, z1, z2, z3⟩, -⟩ := J
  obtain ⟨N9, T9, D9, I9⟩ := rep_all (n := t) hg2 (by omega) (row_o hR) (fr_iv hg2 z1 I) z3
  rw [← z2] at I9
  refine ⟨sumQ (plQ lg (v12_resets Q) t), fun kp fo ou P1' c9 e => x_sum I9 hg0, fun {PB P1B QB cB lB NB TB DB fB gB} JB hc kp fo ou P1' c9 e => ?_⟩
  obtain ⟨Q7, N7, T7, D7, N6, T6, D6, I7, I6⟩ := one_ref J2 JB hc
  have e1 := x_sum (P1 := P1') (cl' := c9) (kp := kp) (fo := fo) (ou := ou) (L := L) (e := e) (xs := xs) I7 hg0
  have e2 := x_sum (P1 := P1') (cl' := c9) (kp := kp) (fo := fo) (ou := ou) (L := L) (e := e) (xs := xs) I9 hg0
  have e3 := x_sum (P1 := P1') (cl' := c9) (kp := kp) (fo := fo) (ou := ou) (L := L) (e := e) (xs := xs) I6 JB.2.1.1
  have e4 : sumQ Q7 = sumQ (plQ lg (v12_resets Q) t) := by
    have h := e1.symm.trans e2
    injection h with h
    injection h with h1 h2
    injection h1 with h1
    injection h1 with h1
    injection h1 with h1
    injection h1 with h1
  rw [e4] at e3
  exact e3
end OverL
