/-! funds and cash give, one after another -/
section Fund
variable {p0 q0 p q p' q' : PM} {B l e w : Int} {m : Nat} {lay : Int32} {g : Nat → Int}
theorem pJ_comm {k i s k2 i2 s2 : Nat} {v u : Int64} (hne : ¬ (k = k2 ∧ i = i2 ∧ s = s2)) : pJ (pJ p k i s v) k2 i2 s2 u = pJ (pJ p k2 i2 s2 u) k i s v := by
  unfold pJ
  rw [u3_comm hne]
theorem pJ_id {k i s : Nat} : pJ p k i s (p.2.1 k i s) = p := by
  unfold pJ
  rw [u3_id]
theorem pJ_0 {k i s : Nat} : pJ p k i s (p.2.1 k i s - cl 0) = p := by
  have e : p.2.1 k i s - cl 0 = p.2.1 k i s := by
    rw [cl_of (p.2.1 k i s), clsub]
    congr 1
    omega
  rw [e, pJ_id]
theorem pI_0 {k i s : Nat} : pI p k i s (p.1 k i s - (cl 0).toInt32) = p := by
  have e : p.1 k i s - (cl 0).toInt32 = p.1 k i s := by
    rw [cl32, cn_of (p.1 k i s), cnsub]
    congr 1
    omega
  rw [e, pI_id]
theorem cvQ_pJ {a : Nat} {v : Int64} (h : ¬ a = 2 * m) : cvQ (pJ q 14 1 a v) m lay l w = pJ (cvQ q m lay l w) 14 1 a v := by
  unfold cvQ
  by_cases h2 : 0 < w
  · rw [if_pos h2, if_pos h2, pJ_J, u3_s (fun h' => h h'.symm), pJ_comm (k := 12) (by omega), ← pJ_comm (k := 14) (s := a) (k2 := 14) (by omega)]
    rfl
  · rw [if_neg h2, if_neg h2, pJ_J, u3_s (fun h' => h h'.symm), pJ_comm (k := 12) (by omega), ← pJ_comm (k := 14) (s := a) (k2 := 14) (by omega)]
theorem cv_pm (H : CV p0 q0 B m p q l e) (h1 : p'.1 = p.1) (h2 : p'.2.2 = p.2.2) (h3 : ∀ K i S, ¬ K = 9 → p'.2.1 K i S = p.2.1 K i S) (k1 : q'.1 = q.1) (k3 : ∀ K i S, ¬ (K = 14 ∧ 2 ≤ i) → q'.2.1 K i S = q.2.1 K i S) : CV p0 q0 B m p' q' l e := by
  obtain ⟨⟨a1, a2, a3, a4⟩, ⟨b1', b2', b3'⟩, c1, c2, ⟨d1, d2, d3⟩, ⟨f1, f2, f3⟩, h1', h2', hB⟩ := H
  have e14 : q'.2.1 14 1 = q.2.1 14 1 := by
    funext S
    exact k3 14 1 S (by omega)
  refine ⟨⟨fun K h h' => ?_, fun i S h => ?_, fun S h h' => ?_, ?_⟩, ⟨fun K h => ?_, ?_, fun S h h' => ?_⟩, fun k hk => ?_, ?_, ⟨fun a ha h => ?_, ?_, ?_⟩, ⟨?_, ?_, ?_⟩, h1', h2', ?_⟩
  · rw [h1]
    exact a1 K h h'
  · rw [h1]
    exact a2 i S h
  · rw [h1]
    exact a3 S h h'
  · rw [h2]
    exact a4
  · rw [k1]
    exact b1' K h
  · rw [k1]
    exact b2'
  · rw [k1]
    exact b3' S h h'
  · rw [h1, k1]
    exact c1 k hk
  · rw [h1, k1]
    exact c2
  · rw [h3 0 _ _ (by decide), e14]
    exact d1 a ha h
  · rw [h3 0 _ _ (by decide)]
    exact d2
  · rw [e14]
    exact d3
  · rw [h3 2 _ _ (by decide)]
    exact f1
  · rw [k3 12 1 69 (by omega)]
    exact f2
  · rw [h1, k1]
    exact f3
  · rw [e14]
    exact hB
theorem cv_up {B' : Int} (H : CV p0 q0 B m p q l e) (h : B ≤ B') : CV p0 q0 B' m p q l e := by
  obtain ⟨ha, hb, c1, c2, hd, hf, h1', h2', hB⟩ := H
  exact ⟨ha, hb, c1, c2, hd, hf, h1', h2', by omega⟩
theorem cv_cash {z : Int} {a : Nat} (hz : rl z) (ha : a < 9) (hm : ¬ a = 2 * m) (H : CV p0 q0 B m p q l e) : CV p0 q0 (B + max z (-z)) m (pJ p 0 (a + 1) 4 (p.2.1 0 (a + 1) 4 - cl z)) (pJ q 14 1 a (q.2.1 14 1 a - cl z)) l e := by
  obtain ⟨⟨a1, a2, a3, a4⟩, ⟨b1', b2', b3'⟩, c1, c2, ⟨d1, d2, d3⟩, ⟨f1, f2, f3⟩, h1', h2', hB⟩ := H
  refine ⟨⟨a1, a2, a3, a4⟩, ⟨b1', b2', b3'⟩, c1, c2, ⟨fun b hb h => ?_, ?_, ?_⟩, ⟨?_, ?_, f3⟩, h1', h2', ?_⟩
  · by_cases hba : b = a
    · rw [hba, pJ_J, u3_same, pJ_J, u3_same, d1 a ha hm]
    · rw [pJ_J, u3_i (by omega), pJ_J, u3_s hba]
      exact d1 b hb h
  · rw [pJ_J, u3_i (by omega)]
    exact d2
  · rw [pJ_J, u3_s (by omega)]
    exact d3
  · rw [pJ_J, u3_k (by decide)]
    exact f1
  · rw [pJ_J, u3_k (by decide)]
    exact f2
  · have h := cs_set (f := q.2.1 14 1) (g := (pJ q 14 1 a (q.2.1 14 1 a - cl z)).2.1 14 1) (a := a) (fun k hk => by rw [pJ_J, u3_s hk]) 9
    have h2 := i64_sub_abs (q.2.1 14 1 a) (cl z)
    rw [cl_I hz] at h2
    rw [if_pos ha, pJ_J, u3_same] at h
    rw [pJ_J]
    omega
theorem loop96_z {v3 : Int32} : ∀ (d i n : Nat) (p : PM), i + d = 4 → d < n → (∀ k, k < 4 → p.2.1 9 (k + 1) 8 = cl 0) → v2_shareLayer_96 n p v3 (cn i) = p ∧ g2_shareLayer_96 n p v3 (cn i) := by
  intro d
  induction d with
  | zero =>
    intro i n p h1 h2 hp
    obtain ⟨n1, rfl⟩ : ∃ z9, n = z9 + 1 := ⟨n - 1, by omega⟩
    have e : i = 4 := by omega
    subst e
    have hn := lpf (i := 4) (N := 4) (by omega) (by omega) (by omega)
    rw [ev2_shareLayer_96, eg2_shareLayer_96]
    unfold bv2_shareLayer_96 bg2_shareLayer_96
    rw [if_neg hn, if_neg hn]
    exact ⟨rfl, trivial⟩
  | succ d ih =>
    intro i n p h1 h2 hp
    obtain ⟨n1, rfl⟩ : ∃ z9, n = z9 + 1 := ⟨n - 1, by omega⟩
    have l4 : cn (i : Int) < cn 4 := lpt (by omega) (by omega)
    obtain ⟨⟨g1, e1⟩, -⟩ := lower_e (p := p) (m := i) (by omega)
    obtain ⟨k1, k2⟩ := ih (i + 1) n1 p (by omega) (by omega) hp
    rw [ev2_shareLayer_96, eg2_shareLayer_96]
    unfold bv2_shareLayer_96 bg2_shareLayer_96
    rw [if_pos l4, if_pos l4]
    simp only [member_e p (a := i) (by omega), e1, hp i (by omega), pI_0, pJ_0, cnsucc]
    by_cases h3 : v3 = 0
    · simp only [if_pos h3]
      exact ⟨k1, g_member p (by omega), by omega, by omega, by omega, k2⟩
    · simp only [if_neg h3]
      exact ⟨k1, g_member p (by omega), g1, by omega, by omega, by omega, k2⟩
theorem fund_loop {v3 : Int32} (hm : m < 4) (hv : (v3 = cn 0 ∧ lay = cn 6) ∨ (v3 = cn 1 ∧ lay = cn 5)) (w0 : 0 ≤ w) (w1 : w ≤ l) (l1 : l ≤ 9000000000000000000) : ∀ (d i n : Nat) (p q : PM), i + d = 4 → d < n → CV p0 q0 B m p (cvQ q m lay l w) (l - w) e → q.2.1 12 1 69 = cl l → (∀ k, k < 4 → p.2.1 9 (k + 1) 8 = cl (g k) ∧ q.2.1 14 3 k = cl (g k)) → (∀ k, i ≤ k → k < 4 → 0 ≤ g k ∧ ∀ z, 0 ≤ z → z ≤ 9999 → q.1 13 38 k = cn z → g k ≤ z) → CV p0 q0 B m (v2_shareLayer_96 n p (cn 0) (cn i)) (v12_coversByFunds_103 n q (cn m) v3 (cl w) (cn i)) (l - w) e ∧ g2_shareLayer_96 n p (cn 0) (cn i) ∧ g12_coversByFunds_103 n q (cn m) v3 (cl w) (cn i) ∧ ToQ (v12_coversByFunds_103 n q (cn m) v3 (cl w) (cn i)) = ToQ q + cl (w - sgu g i d) := by
  intro d
  induction d with
  | zero =>
    intro i n p q h1 h2 H hl hg hz
    obtain ⟨n1, rfl⟩ : ∃ z9, n = z9 + 1 := ⟨n - 1, by omega⟩
    have e : i = 4 := by omega
    subst e
    have hn := lpf (i := 4) (N := 4) (by omega) (by omega) (by omega)
    obtain ⟨k1, k2⟩ := cov_e (lay := lay) (g := w) hm hl (by omega) l1 w0 (by omega)
    rw [ev2_shareLayer_96, eg2_shareLayer_96, ev12_coversByFunds_103, eg12_coversByFunds_103]
    unfold bv2_shareLayer_96 bg2_shareLayer_96 bv12_coversByFunds_103 bg12_coversByFunds_103
    rw [if_neg hn, if_neg hn, if_neg hn, if_neg hn]
    rcases hv with ⟨rfl, rfl⟩ | ⟨rfl, rfl⟩
    · have z0 : cn 0 = 0 := rfl
      rw [if_pos z0, if_pos z0, k1]
      exact ⟨H, trivial, ⟨k2, trivial⟩, by rw [tt_cv hm, show w - sgu g 4 0 = w by show w - 0 = w; omega]⟩
    · have z1 : ¬ cn 1 = 0 := by decide
      rw [if_neg z1, if_neg z1, k1]
      exact ⟨H, trivial, ⟨k2, trivial⟩, by rw [tt_cv hm, show w - sgu g 4 0 = w by show w - 0 = w; omega]⟩
  | succ d ih =>
    intro i n p q h1 h2 H hl hg hz
    obtain ⟨n1, rfl⟩ : ∃ z9, n = z9 + 1 := ⟨n - 1, by omega⟩
    have l4 : cn (i : Int) < cn 4 := lpt (by omega) (by omega)
    have hi := cninb (i := i) (n := 4) (by omega) (by omega)
    obtain ⟨z, z0, z1, z2, z3⟩ := (H.2.2.1 i (by omega)).1
    rw [cvQ_1 (by omega)] at z3
    obtain ⟨g0, g1⟩ := hz i (by omega) (by omega)
    have g2 := g1 z z0 z1 z3
    obtain ⟨hg1, hg2⟩ := hg i (by omega)
    have H1 := cv_fund (j := i) (z' := z - g i) H (by omega) (by omega)
    rw [← cvQ_pI (by omega)] at H1
    obtain ⟨k1, k2, k3, k4⟩ := ih (i + 1) n1 (pI p 9 (i + 1) 2 (cn (z - g i))) (pI q 13 38 i (cn (z - g i))) (by omega) (by omega) H1 hl hg (fun k hk1 hk2 => by
      obtain ⟨x1, x2⟩ := hz k (by omega) hk2
      refine ⟨x1, fun y y0 y1 y2 => x2 y y0 y1 ?_⟩
      rw [← y2, pI_1, u3_s (by omega)])
    rw [ev2_shareLayer_96, eg2_shareLayer_96, ev12_coversByFunds_103, eg12_coversByFunds_103]
    unfold bv2_shareLayer_96 bg2_shareLayer_96 bv12_coversByFunds_103 bg12_coversByFunds_103
    rw [if_pos l4, if_pos l4, if_pos l4, if_pos l4]
    have z00 : cn 0 = 0 := rfl
    simp only [if_pos z00, member_e p (a := i) (by omega), cntk (i := i) (by omega), hg1, hg2, z2, z3, cl32, cnsub, cnsucc]
    refine ⟨k1, ⟨g_member p (by omega), by omega, by omega, by omega, k2⟩, ⟨hi, hi, hi, k3⟩, ?_⟩
    rw [k4, tt_38 (by omega), z3, cn64 ⟨by omega, by omega⟩, cn64 ⟨by omega, by omega⟩, clsub, Int64.add_assoc, cladd]
    congr 2
    show z - g i - z + (w - sgu g (i + 1) d) = w - (g i + sgu g (i + 1) d)
    omega
theorem cash_loop (hm : m < 4) (w0 : 0 ≤ w) (w1 : w ≤ l) (l1 : l ≤ 9000000000000000000) (gm : g m = 0) (hz : ∀ k, k < 4 → 0 ≤ g k ∧ g k ≤ 9999) : ∀ (d i n : Nat) (p q : PM) (B : Int), i + d = 4 → d < n → CV p0 q0 B m p (cvQ q m (cn 7) l w) (l - w) e → q.2.1 12 1 69 = cl l → (∀ k, k < 4 → p.2.1 9 (k + 1) 8 = cl (g k) ∧ q.2.1 14 3 k = cl (g k)) → ∃ Q, CV p0 q0 (B + 9999 * d) m (v2_shareLayer_96 n p (cn 1) (cn i)) Q (l - w) e ∧ v12_coversAll_325 n q (cn m) (cl w) (cn i) = v12_covers (pJ Q 14 1 8 (Q.2.1 14 1 8 - Q.2.1 12 1 69)) (cn 8) (Q.2.1 12 1 69) (cn m) ∧ g2_shareLayer_96 n p (cn 1) (cn i) ∧ g12_coversAll_325 n q (cn m) (cl w) (cn i) ∧ ToQ Q = ToQ q + cl (w - sgu g i d) ∧ ∀ a, a < 8 → ¬ a = 2 * m → max (Q.2.1 14 1 a).toInt (-(Q.2.1 14 1 a).toInt) ≤ max (q.2.1 14 1 a).toInt (-(q.2.1 14 1 a).toInt) + (if 2 * i ≤ a then 9999 else 0) := by
  have i9 := cninb (i := 2 * m) (n := 9) (by omega) (by omega)
  have g8 : ∀ (Q : PM) (v : Int64), g12_covers Q (cn 8) v (cn m) := fun Q v => g_cov (by rw [two_m]; exact i9)
  have z1 : ¬ cn 1 = 0 := by decide
  intro d
  induction d with
  | zero =>
    intro i n p q B h1 h2 H hl hg
    obtain ⟨n1, rfl⟩ : ∃ z9, n = z9 + 1 := ⟨n - 1, by omega⟩
    have e : i = 4 := by omega
    subst e
    have hn := lpf (i := 4) (N := 4) (by omega) (by omega) (by omega)
    obtain ⟨k1, k2⟩ := cov_e (lay := cn 7) (g := w) hm hl (by omega) l1 w0 (by omega)
    refine ⟨cvQ q m (cn 7) l w, ?_⟩
    rw [ev2_shareLayer_96, eg2_shareLayer_96, ev12_coversAll_325, eg12_coversAll_325]
    unfold bv2_shareLayer_96 bg2_shareLayer_96 bv12_coversAll_325 bg12_coversAll_325
    rw [if_neg hn, if_neg hn, if_neg hn, if_neg hn, k1]
    exact ⟨cv_up H (by omega), rfl, trivial, ⟨k2, g8 _ _, trivial⟩, by rw [tt_cv hm, show w - sgu g 4 0 = w by show w - 0 = w; omega], fun a ha h => by
      rw [cvQ_J h]
      split <;> omega⟩
  | succ d ih =>
    intro i n p q B h1 h2 H hl hg
    obtain ⟨n1, rfl⟩ : ∃ z9, n = z9 + 1 := ⟨n - 1, by omega⟩
    have l4 : cn (i : Int) < cn 4 := lpt (by omega) (by omega)
    have hi := cninb (i := i) (n := 4) (by omega) (by omega)
    have hi9 := cninb (i := 2 * i) (n := 9) (by omega) (by omega)
    obtain ⟨⟨y1, y2⟩, -⟩ := lower_e (p := p) (m := i) (by omega)
    obtain ⟨hg1, hg2⟩ := hg i (by omega)
    obtain ⟨g0, g1⟩ := hz i (by omega)
    have H1 : CV p0 q0 (B + 9999) m (pJ p 0 (2 * i + 1) 4 (p.2.1 0 (2 * i + 1) 4 - cl (g i))) (cvQ (pJ q 14 1 (2 * i) (q.2.1 14 1 (2 * i) - cl (g i))) m (cn 7) l w) (l - w) e := by
      by_cases him : i = m
      · rw [him, gm, pJ_0, pJ_0]
        exact cv_up H (by omega)
      · have h := cv_cash (z := g i) (a := 2 * i) ⟨by omega, by omega⟩ (by omega) (by omega) H
        rw [cvQ_J (by omega)] at h
        rw [cvQ_pJ (by omega)]
        exact cv_up h (by omega)
    obtain ⟨Q, k1, k2, k3, k4, k5, k6⟩ := ih (i + 1) n1 _ _ (B + 9999) (by omega) (by omega) H1 hl (fun k hk => by
      obtain ⟨x1, x2⟩ := hg k hk
      rw [pJ_J, u3_k (by decide), pJ_J, u3_i (by decide)]
      exact ⟨x1, x2⟩)
    have k1' := cv_up (B' := B + 9999 * (d + 1 : Nat)) k1 (by omega)
    refine ⟨Q, ?_⟩
    rw [ev2_shareLayer_96, eg2_shareLayer_96, ev12_coversAll_325, eg12_coversAll_325]
    unfold bv2_shareLayer_96 bg2_shareLayer_96 bv12_coversAll_325 bg12_coversAll_325
    rw [if_pos l4, if_pos l4, if_pos l4, if_pos l4]
    simp only [if_neg z1, member_e p (a := i) (by omega), y2, two_m, cntk (i := 2 * i) (by omega), cntk (i := i) (by omega), hg1, hg2, cnsucc]
    refine ⟨k1', k2, ⟨g_member p (by omega), y1, by omega, by omega, by omega, k3⟩, ⟨hi9, hi, hi9, k4⟩, ?_, fun a ha h => ?_⟩
    rotate_left
    · have h6 := k6 a ha h
      rw [pJ_J] at h6
      by_cases ea : a = 2 * i
      · subst ea
        rw [u3_same, if_neg (show ¬ 2 * (i + 1) ≤ 2 * i by omega)] at h6
        have h7 := i64_sub_abs (q.2.1 14 1 (2 * i)) (cl (g i))
        rw [cl_I (a := g i) ⟨by omega, by omega⟩] at h7
        rw [if_pos (Nat.le_refl _)]
        omega
      · rw [u3_s ea] at h6
        by_cases e2 : 2 * (i + 1) ≤ a
        · rw [if_pos e2] at h6
          rw [if_pos (by omega)]
          exact h6
        · rw [if_neg e2] at h6
          split <;> omega
    have e : q.2.1 14 1 (2 * i) - cl (g i) - q.2.1 14 1 (2 * i) = cl (-g i) := by
      rw [Int64.sub_eq_add_neg, Int64.sub_eq_add_neg, clneg, Int64.add_comm, ← Int64.add_assoc, Int64.add_comm (-q.2.1 14 1 (2 * i)), ← Int64.sub_eq_add_neg, Int64.sub_self, Int64.zero_add]
    rw [k5, tt_pJ (by omega), e, Int64.add_assoc, cladd]
    congr 2
    show -g i + (w - sgu g (i + 1) d) = w - (g i + sgu g (i + 1) d)
    omega
end Fund
