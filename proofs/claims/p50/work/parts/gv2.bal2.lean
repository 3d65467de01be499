/-! pay adds its money, a close-out leaves all -/
section Bal2
variable {p q p1 q1 : PM} {lg lg' : Nat → Int32} {N T D e n m l : Nat} {a b c d x f : Int32}
theorem mo_w {xx y : Nat} {ww : Nat → Prop} {ff : Nat → Int} (H : WW p q lg xx y ww N T D l ff) : (∀ m, m < 4 → ∃ z : Int, 0 ≤ z ∧ z ≤ 10000000 ∧ p.1 9 (m + 1) 0 = cn z ∧ q.1 13 36 m = cn z) ∧ (∀ m, m < 4 → q.1 13 38 m = p.1 9 (m + 1) 2) ∧ q.1 12 1 58 = p.1 2 1 5 := by
  obtain ⟨a1, a2, a3, ⟨z, -, -, z1, z2⟩, -⟩ := H.2.2.2.2.2.1
  refine ⟨fun m hm => (a1 m hm).1, fun m hm => ?_, z2.trans z1.symm⟩
  obtain ⟨y, -, -, y1, y2⟩ := (a1 m hm).2.2.1
  exact y2.trans y1.symm
theorem moq_pay {v : Int} {u : Int32} {N' T' D' : Nat} (H : WW p q lg 99 99 (fun _ => False) N T D 6 (fun _ => 0)) (H1 : WW (v2_bring p (cn m) (cn v) u).2 q1 lg' 99 99 (fun _ => False) N' T' D' 6 (fun _ => 0)) (hm : m < 4) (v1 : 0 ≤ v) (v2 : v ≤ 9999) : MoQ q1 = MoQ q + cl v := by
  obtain ⟨h1, h2, h3⟩ := mo_w H
  obtain ⟨k1, k2, k3⟩ := mo_w H1
  have em := member_e p (a := m) (by omega)
  have hP : (v2_bring p (cn m) (cn v) u).2 = pI (pI p 9 (m + 1) 0 (p.1 9 (m + 1) 0 + cn v)) 9 (m + 1) 1 ((pI p 9 (m + 1) 0 (p.1 9 (m + 1) 0 + cn v)).1 9 (m + 1) 1 + u) := by
    unfold v2_bring bv2_bring
    simp only [em]
  have c38 : ∀ j, j < 4 → (q1.1 13 38 j).toInt64 = (q.1 13 38 j).toInt64 := by
    intro j hj
    rw [k2 j hj, h2 j hj, hP, pI_1, u3_s (by decide), pI_1, u3_s (by decide)]
  have c58 : q1.1 12 1 58 = q.1 12 1 58 := by
    rw [k3, h3, hP, pI_1, u3_k (by decide), pI_1, u3_k (by decide)]
  have c36 : ∀ j, j < 4 → ¬ j = m → (q1.1 13 36 j).toInt64 = (q.1 13 36 j).toInt64 := by
    intro j hj hne
    obtain ⟨z, -, -, z1, z2⟩ := k1 j hj
    obtain ⟨w, -, -, w1, w2⟩ := h1 j hj
    rw [z2, ← z1, w2, ← w1, hP, pI_1, u3_s (by decide), pI_1, u3_i (by omega)]
  have c36m : (q1.1 13 36 m).toInt64 = (q.1 13 36 m).toInt64 + cl v := by
    obtain ⟨z, -, -, z1, z2⟩ := k1 m hm
    obtain ⟨w, w3, w4, w1, w2⟩ := h1 m hm
    rw [z2, ← z1, w2, hP, pI_1, u3_s (by decide), pI_at, w1, cnadd, cn64 ⟨by omega, by omega⟩, cn64 ⟨by omega, by omega⟩, cladd]
  have s38 : cSu (fun m => (q1.1 13 38 m).toInt64) 4 = cSu (fun m => (q.1 13 38 m).toInt64) 4 := by
    show 0 + (q1.1 13 38 0).toInt64 + (q1.1 13 38 1).toInt64 + (q1.1 13 38 2).toInt64 + (q1.1 13 38 3).toInt64 = 0 + (q.1 13 38 0).toInt64 + (q.1 13 38 1).toInt64 + (q.1 13 38 2).toInt64 + (q.1 13 38 3).toInt64
    rw [c38 0 (by decide), c38 1 (by decide), c38 2 (by decide), c38 3 (by decide)]
  have s36 : cSu (fun m => (q1.1 13 36 m).toInt64) 4 = cSu (fun m => (q.1 13 36 m).toInt64) 4 + cl v := by
    show 0 + (q1.1 13 36 0).toInt64 + (q1.1 13 36 1).toInt64 + (q1.1 13 36 2).toInt64 + (q1.1 13 36 3).toInt64 = 0 + (q.1 13 36 0).toInt64 + (q.1 13 36 1).toInt64 + (q.1 13 36 2).toInt64 + (q.1 13 36 3).toInt64 + cl v
    have hh : m = 0 ∨ m = 1 ∨ m = 2 ∨ m = 3 := by omega
    rcases hh with rfl | rfl | rfl | rfl
    · rw [c36m, c36 1 (by decide) (by decide), c36 2 (by decide) (by decide), c36 3 (by decide) (by decide)]
      ac_rfl
    · rw [c36m, c36 0 (by decide) (by decide), c36 2 (by decide) (by decide), c36 3 (by decide) (by decide)]
      ac_rfl
    · rw [c36m, c36 0 (by decide) (by decide), c36 1 (by decide) (by decide), c36 3 (by decide) (by decide)]
      ac_rfl
    · rw [c36m, c36 0 (by decide) (by decide), c36 1 (by decide) (by decide), c36 2 (by decide) (by decide)]
      ac_rfl
  unfold MoQ
  rw [s36, s38, c58]
  ac_rfl
/-- pay -/
theorem toq_pay {v : Int} {u : Int32} (hm : m < 4) (v1 : 0 ≤ v) (v2 : v ≤ 9999) (he : e + 1 ≤ 600) (hn : n < 520) (I : IV lg p q N T D e) (hfl : ¬ lg 4006 = cn 1) (h60 : lg 4000 = cn n) (hS : S0 q) (h0 : kE p (cn m) (cn v) u d x f 22 = 0) : ToQ (logQ (v12_works (v12_does q (cn 22) (cn m) (cn v) u d x f).2) n (cn 22) (cn m) (cn v) u d x f) = ToQ q + cl v := by
  obtain ⟨-, h2, -⟩ := bal_act (a := cn m) (b := cn v) (c := u) (d := d) (x := x) (f := f) (k := 22) (by decide) (by decide) he hn I h60 hS h0
  obtain ⟨-, ⟨A1, -⟩, -⟩ := does_all (a := cn m) (b := cn v) (c := u) (d := d) (x := x) (f := f) (k := 22) (by decide) (Or.inl hfl) (Or.inl hfl) he I
  obtain ⟨-, -, -, N2, T2, D2, -, -, W, -⟩ := A1 h0
  have e22 : cn ((22 : Nat) : Int) = cn 22 := rfl
  rw [e22] at h2 W
  have hM := moq_pay (q1 := (v12_does q (cn 22) (cn m) (cn v) u d x f).2) I.1 W hm v1 v2
  unfold ToQ
  rw [h2, moq_log, moq_fb (fb_v12_works (fb_refl _)), hM, Int64.add_assoc]
/-- a close-out -/
theorem does26 : (v12_does q (cn 26) a b c d x f).2 = (v12_doCloseOut q).2 := by
  unfold v12_does bv12_does
  simp only [if_neg (show ¬ cn 26 = cn 0 by decide), if_neg (show ¬ cn 26 = cn 1 by decide), if_neg (show ¬ cn 26 = cn 2 by decide), if_neg (show ¬ cn 26 = cn 3 by decide), if_neg (show ¬ cn 26 = cn 4 by decide), if_neg (show ¬ cn 26 = cn 5 by decide), if_neg (show ¬ cn 26 = cn 6 by decide), if_neg (show ¬ cn 26 = cn 7 by decide), if_neg (show ¬ cn 26 = cn 8 by decide), if_neg (show ¬ cn 26 = cn 9 by decide), if_neg (show ¬ cn 26 = cn 10 by decide), if_neg (show ¬ cn 26 = cn 11 by decide), if_neg (show ¬ cn 26 = cn 12 by decide), if_neg (show ¬ cn 26 = cn 13 by decide), if_neg (show ¬ cn 26 = cn 14 by decide), if_neg (show ¬ cn 26 = cn 15 by decide), if_neg (show ¬ cn 26 = cn 16 by decide)]
  unfold v12_doesMore bv12_doesMore
  simp only [if_neg (show ¬ cn 26 = cn 17 by decide), if_neg (show ¬ cn 26 = cn 18 by decide), if_neg (show ¬ cn 26 = cn 19 by decide), if_neg (show ¬ cn 26 = cn 20 by decide), if_neg (show ¬ cn 26 = cn 21 by decide), if_neg (show ¬ cn 26 = cn 22 by decide), if_neg (show ¬ cn 26 = cn 23 by decide), if_neg (show ¬ cn 26 = cn 24 by decide), if_neg (show ¬ cn 26 = cn 25 by decide)]
theorem bal_close (he : e + 1 ≤ 600) (hn : n < 520) (I : IV lg p q N T D e) (hfl : ¬ lg 4006 = cn 1) (hS : S0 q) (h0 : kClose p = 0) : S0 (logQ (v12_works (v12_does q (cn 26) a b c d x f).2) n (cn 26) a b c d x f) ∧ ToQ (logQ (v12_works (v12_does q (cn 26) a b c d x f).2) n (cn 26) a b c d x f) = ToQ q ∧ ∀ i, i < 3 → (logQ (v12_works (v12_does q (cn 26) a b c d x f).2) n (cn 26) a b c d x f).1 13 1 (32 + i) = (v12_doCloseOut q).2.1 13 1 (32 + i) := by
  have hRS := RS_rng I.1.1.1 40 (by decide)
  have hd := I.2.2.2.2.2
  have ht := I.2.2.2.2.1
  obtain ⟨⟨-, A1, -⟩, A3⟩ := do_close hfl (e := e) (by omega) (by omega) I.1 I.2.2.1.2.1
  obtain ⟨-, -, -, N2, T2, D2, -, -, W, w1, w2⟩ := A1 h0
  obtain ⟨-, -, ⟨b1, b2⟩, -⟩ := A3 h0
  rw [does26]
  obtain ⟨q1, hq1⟩ : ∃ q1, (v12_doCloseOut q).2 = q1 := ⟨_, rfl⟩
  rw [hq1] at W w1 w2 b1 b2 ⊢
  have hRS1 := RS_rng W.1.1 40 (by decide)
  have hS1 : S0 q1 := fun i hi => (b1 i hi).trans (hS i hi)
  have hC : -1000000000000000000 ≤ (cSu (q1.2.1 14 1) 9).toInt ∧ (cSu (q1.2.1 14 1) 9).toInt ≤ 1000000000000000000 := by
    have h := cSu_abs (q1.2.1 14 1) 9
    have h2 := W.2.2.2.2.2.1.2.2.2.2.2.2.2.2.2.2.2.2.1
    rw [lgB_3 (by omega), W.2.2.2.1.2.2.1, cn_I ⟨by omega, by omega⟩] at h2
    omega
  obtain ⟨u, v, hU⟩ := enc64 hC.1 hC.2
  have W2 := ww_flg (w := cn 1) W hS1 hU
  obtain ⟨-, T3, D3, -, W3, -⟩ := ww_work W2 (by omega) (by omega)
  obtain ⟨-, -, -, p4, p5⟩ := W3.2.2.2.2.2.1.2.2.2.2.2.2.2.2.2.2
  rw [lgB_o (by decide) (by decide), lgB_o (by decide) (by decide), lgB_o (by decide) (by decide), flg_4, flg_5, flg_6] at p4
  rw [lgB_o (by decide) (by decide), lgB_o (by decide) (by decide), flg_6, flg_7] at p5
  obtain ⟨s1, s2⟩ := p4 rfl
  have l1 : (logQ (v12_works q1) n (cn 26) a b c d x f).1 13 1 = (v12_works q1).1 13 1 := log_13 (by decide)
  have l2 : (logQ (v12_works q1) n (cn 26) a b c d x f).2.1 = (v12_works q1).2.1 := rfl
  refine ⟨?_, ?_, fun i hi => ?_⟩
  · unfold S0
    rw [l1]
    exact s1
  · unfold ToQ at b2 ⊢
    rw [l2, s2, ← hU, moq_log, moq_fb (fb_v12_works (fb_refl _))]
    exact b2
  · have h := p5 rfl rfl i hi
    rw [lgB_o (by omega) (by omega), flg_h hi] at h
    rw [l1]
    exact h
end Bal2
