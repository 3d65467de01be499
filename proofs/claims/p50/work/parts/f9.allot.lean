/-! part of a position is allotted -/
noncomputable def kAllot (p : PM) (a j c Q : Int32) : Nat := if isW a (cn 0) (cn 7) = 0 then 1 else if isW j (cn 0) (cn 7) = 0 then 1 else if isW c (cn 0) (cn 3) = 0 then 1 else if isW Q (cn (-999)) (cn 999) = 0 then 2 else if Q = 0 then 2 else if a = j then 2 else if v7_canAllot p a c Q = 0 then 3 else 0
theorem put_e (p : PM) {A c : Nat} (hA : ¬ A = 0) (hA9 : A ≤ 9) (hc : c < 4) (w : Int32) : g0_put p A (cn c) w ∧ v0_put p A (cn c) w = pI p 13 (2 * A - 1) c w := by
  have h0 : ¬ cn (c : Int) < 0 := cnge (by omega)
  have h4 : cn (c : Int) < cn 4 := lpt (by omega) (by decide)
  have hi := cninb (i := c) (n := 4) hc (by omega)
  have i1 : ¬ A = 0 ∧ A ≤ 9 := ⟨hA, hA9⟩
  have i2 : ¬ 2 * A - 1 = 0 ∧ 2 * A - 1 ≤ 18 := ⟨by omega, by omega⟩
  unfold g0_put bg0_put v0_put bv0_put
  simp only [if_neg h0, if_pos h4, cntk (i := c) (by omega)]
  exact ⟨⟨i1, i2, i1, ⟨i2, hi⟩, trivial⟩, trivial⟩
theorem al_e {p : PM} {a j c : Nat} {Q z : Int} {X : Int64} (hc : c < 4) (hQ : rg Q) (hQ' : rg (-Q)) (hz : rg z) (hX : X = cl (Q * z)) : pJ (pJ (pI (pI p 13 (2 * (a + 1) - 1) c (p.1 13 (2 * (a + 1) - 1) c - cn Q)) 13 (2 * (j + 1) - 1) c ((pI p 13 (2 * (a + 1) - 1) c (p.1 13 (2 * (a + 1) - 1) c - cn Q)).1 13 (2 * (j + 1) - 1) c + cn Q)) 0 (a + 1) 4 (p.2.1 0 (a + 1) 4 + X)) 0 (j + 1) 4 ((pJ (pI (pI p 13 (2 * (a + 1) - 1) c (p.1 13 (2 * (a + 1) - 1) c - cn Q)) 13 (2 * (j + 1) - 1) c ((pI p 13 (2 * (a + 1) - 1) c (p.1 13 (2 * (a + 1) - 1) c - cn Q)).1 13 (2 * (j + 1) - 1) c + cn Q)) 0 (a + 1) 4 (p.2.1 0 (a + 1) 4 + X)).2.1 0 (j + 1) 4 - X) = tkC (tkC p a c (cn (-Q)) (cn z)) j c (cn Q) (cn z) := by
  have e1 : p.1 13 (2 * (a + 1) - 1) c + cn (-Q) = p.1 13 (2 * (a + 1) - 1) c - cn Q := by rw [← cnneg, Int32.sub_eq_add_neg]
  have e2 : p.2.1 0 (a + 1) 4 - (cn (-Q)).toInt64 * (cn z).toInt64 = p.2.1 0 (a + 1) 4 + X := by
    rw [cl_mul hQ' hz, Int64.sub_eq_add_neg, clneg, hX, Int.neg_mul, Int.neg_neg]
  have e3 : (cn Q).toInt64 * (cn z).toInt64 = X := by rw [cl_mul hQ hz, hX]
  unfold tkC
  rw [if_pos hc, if_pos hc, e1, e2, e3]
  rfl
section Allot
variable {p q : PM} {lg : Nat → Int32} {N T D : Nat}
theorem allot_t {q : PM} {a j c Q s : Int32} (h : ¬ q.1 12 1 0 = 0) : v12_doAllot_88 q a j c Q s = (cn 0, q) ∧ g12_doAllot_88 q a j c Q s := by
  unfold v12_doAllot_88 bv12_doAllot_88 g12_doAllot_88 bg12_doAllot_88
  simp only [if_neg h]
  exact ⟨trivial, trivial⟩
theorem do_allot {e : Nat} {va vj vc vQ : Int32} (he : e + 1 ≤ 2000) (H : WW p q (lgB lg e) 99 99 (fun _ => False) N T D 6 (fun _ => 0)) : g12_doAllot q va vj vc vQ ∧ DoE (lgB lg (e + 1)) q N T D 60 0 (kAllot p va vj vc vQ) (g7_allotLots p va vj vc vQ) (v7_allotLots p va vj vc vQ) (v12_doAllot q va vj vc vQ) := by
  have hDR := H.2.2.2.1
  have hK := H.2.2.2.2.1
  have c10 : ¬ cn 1 = (0 : Int32) := by decide
  have c20 : ¬ cn 2 = (0 : Int32) := by decide
  have c30 : ¬ cn 3 = (0 : Int32) := by decide
  obtain ⟨ea, ga⟩ := acc_e q va
  obtain ⟨ej, gj⟩ := acc_e q vj
  have g24 : v12_doAllot_24 q va vj vc vQ = (cn 0, pI q 12 1 0 (cn 1)) ∧ g12_doAllot_24 q va vj vc vQ := by
    obtain ⟨x1, x2⟩ := allot_t (q := pI q 12 1 0 (cn 1)) (a := va) (j := vj) (c := vc) (Q := vQ) (s := cn (-100000)) (by rw [t_1]; exact c10)
    unfold v12_doAllot_24 bv12_doAllot_24 g12_doAllot_24 bg12_doAllot_24
    simp only [t_1, if_neg c10]
    exact ⟨x1, x2⟩
  have g52 : v12_doAllot_52 q va vj vc vQ = (cn 0, pI q 12 1 0 (cn 2)) ∧ g12_doAllot_52 q va vj vc vQ := by
    obtain ⟨x1, x2⟩ := allot_t (q := pI q 12 1 0 (cn 2)) (a := va) (j := vj) (c := vc) (Q := vQ) (s := cn (-100000)) (by rw [t_1]; exact c20)
    unfold v12_doAllot_52 bv12_doAllot_52 g12_doAllot_52 bg12_doAllot_52
    simp only [t_1, if_neg c20]
    exact ⟨x1, x2⟩
  by_cases ha : isW va (cn 0) (cn 7) = 0
  · have kA : kAllot p va vj vc vQ = 1 := by
      unfold kAllot
      rw [if_pos ha]
    have ha' : v12_isAccount q va = 0 := by rw [ea]; exact ha
    rw [kA]
    refine ⟨?_, fun h => absurd h (by decide), fun _ => ?_⟩
    · unfold g12_doAllot bg12_doAllot
      simp only [if_pos ha']
      exact ⟨ga, g24.2⟩
    · unfold v12_doAllot bv12_doAllot
      simp only [if_pos ha', g24.1]
      all_goals rfl
  have ha' : ¬ v12_isAccount q va = 0 := by rw [ea]; exact ha
  by_cases hj : isW vj (cn 0) (cn 7) = 0
  · have kA : kAllot p va vj vc vQ = 1 := by
      unfold kAllot
      rw [if_neg ha, if_pos hj]
    have hj' : v12_isAccount q vj = 0 := by rw [ej]; exact hj
    rw [kA]
    refine ⟨?_, fun h => absurd h (by decide), fun _ => ?_⟩
    · unfold g12_doAllot bg12_doAllot
      simp only [if_neg ha', if_pos hj']
      exact ⟨ga, gj, g24.2⟩
    · unfold v12_doAllot bv12_doAllot
      simp only [if_neg ha', if_pos hj', g24.1]
      all_goals rfl
  have hj' : ¬ v12_isAccount q vj = 0 := by rw [ej]; exact hj
  by_cases hc : isW vc (cn 0) (cn 3) = 0
  · have kA : kAllot p va vj vc vQ = 1 := by
      unfold kAllot
      rw [if_neg ha, if_neg hj, if_pos hc]
    have hc' : v12_in q vc (cn 0) (cn 3) = 0 := hc
    rw [kA]
    refine ⟨?_, fun h => absurd h (by decide), fun _ => ?_⟩
    · unfold g12_doAllot bg12_doAllot
      simp only [if_neg ha', if_neg hj', if_pos hc']
      exact ⟨ga, gj, g_in _ _ _ _, g24.2⟩
    · unfold v12_doAllot bv12_doAllot
      simp only [if_neg ha', if_neg hj', if_pos hc', g24.1]
      all_goals rfl
  have hc' : ¬ v12_in q vc (cn 0) (cn 3) = 0 := hc
  by_cases hQ : isW vQ (cn (-999)) (cn 999) = 0
  · have kA : kAllot p va vj vc vQ = 2 := by
      unfold kAllot
      rw [if_neg ha, if_neg hj, if_neg hc, if_pos hQ]
    have hQ' : v12_in q vQ (cn (-999)) (cn 999) = 0 := hQ
    rw [kA]
    refine ⟨?_, fun h => absurd h (by decide), fun _ => ?_⟩
    · unfold g12_doAllot bg12_doAllot
      simp only [if_neg ha', if_neg hj', if_neg hc', if_pos hQ']
      exact ⟨ga, gj, g_in _ _ _ _, g_in _ _ _ _, g52.2⟩
    · unfold v12_doAllot bv12_doAllot
      simp only [if_neg ha', if_neg hj', if_neg hc', if_pos hQ', g52.1]
      all_goals rfl
  have hQ' : ¬ v12_in q vQ (cn (-999)) (cn 999) = 0 := hQ
  by_cases hQ0 : vQ = 0
  · have kA : kAllot p va vj vc vQ = 2 := by
      unfold kAllot
      rw [if_neg ha, if_neg hj, if_neg hc, if_neg hQ, if_pos hQ0]
    rw [kA]
    refine ⟨?_, fun h => absurd h (by decide), fun _ => ?_⟩
    · unfold g12_doAllot bg12_doAllot
      simp only [if_neg ha', if_neg hj', if_neg hc', if_neg hQ', if_pos hQ0]
      exact ⟨ga, gj, g_in _ _ _ _, g_in _ _ _ _, g52.2⟩
    · unfold v12_doAllot bv12_doAllot
      simp only [if_neg ha', if_neg hj', if_neg hc', if_neg hQ', if_pos hQ0, g52.1]
      all_goals rfl
  by_cases haj : va = vj
  · have kA : kAllot p va vj vc vQ = 2 := by
      unfold kAllot
      rw [if_neg ha, if_neg hj, if_neg hc, if_neg hQ, if_neg hQ0, if_pos haj]
    rw [kA]
    refine ⟨?_, fun h => absurd h (by decide), fun _ => ?_⟩
    · unfold g12_doAllot bg12_doAllot
      simp only [if_neg ha', if_neg hj', if_neg hc', if_neg hQ', if_neg hQ0, if_pos haj]
      exact ⟨ga, gj, g_in _ _ _ _, g_in _ _ _ _, g52.2⟩
    · unfold v12_doAllot bv12_doAllot
      simp only [if_neg ha', if_neg hj', if_neg hc', if_neg hQ', if_neg hQ0, if_pos haj, g52.1]
      all_goals rfl
  obtain ⟨a, a7, rfl⟩ := isW_n (b := 7) (by decide) ha
  obtain ⟨j, j7, rfl⟩ := isW_n (b := 7) (by decide) hj
  obtain ⟨c, c3, rfl⟩ := isW_n (b := 3) (by decide) hc
  obtain ⟨Q, Q1, Q2, rfl⟩ := isW_z (a := -999) (b := 999) (by decide) (by decide) hQ
  have W0 := ww_th (cn 0) H
  generalize hQ0' : pI q 12 1 0 (cn 0) = Q0 at W0
  have r13 : Q0.1 13 = q.1 13 := by rw [← hQ0']; exact th_k (by decide)
  have r0 : Q0.1 12 1 0 = 0 := by rw [← hQ0']; exact t_1
  have RQ0 : RS Q0 40 = RS q 40 := by rw [← hQ0', RS_th]
  have t3 : pI Q0 12 1 0 (cn 3) = pI q 12 1 0 (cn 3) := by rw [← hQ0', t_t]
  have aa := account_e p (a := a) (by omega)
  have gaa := g_account p (a := a) (by omega)
  have aj := account_e p (a := j) (by omega)
  have gaj := g_account p (a := j) (by omega)
  have hza : ¬ a + 1 = 0 := by omega
  have hzj : ¬ j + 1 = 0 := by omega
  have hi36 := cninb (i := 4 * a + c) (n := 36) (by omega) (by omega)
  have hpos : p.1 13 (2 * (a + 1) - 1) c = Q0.1 13 1 (4 * a + c) := (W0.2.1.1 a (by omega)).1 c (by omega)
  have hh : v0_holds p (a + 1) (cn c) = Q0.1 13 1 (4 * a + c) := by rw [holds_e p (a + 1) (by omega), hpos]
  have ghh := g_holds p (a := a) (c := c) (by omega) (by omega)
  obtain ⟨S, hS, hS1⟩ : ∃ S : Int32, S = (if 0 < cn Q then cn 1 else cn 0) ∧ True := ⟨_, rfl, trivial⟩
  obtain ⟨⟨gv1, gv2⟩, ev, hv⟩ := average_eq (p := p) (q := Q0) (D := D) (s := S) (a := a) (c := c) W0.2.2.2.1 hK (by omega) (by omega)
  -- both refuse alike
  have eK : v7_canAllot p (cn a) (cn c) (cn Q) = (if (if 0 < cn Q then Q0.1 13 1 (4 * a + c) < cn Q else cn Q < Q0.1 13 1 (4 * a + c)) then cn 0 else if v12_average Q0 (cn a) (cn c) S = cn (-100000) then cn 0 else cn 1) := by
    unfold v7_canAllot bv7_canAllot
    by_cases h : 0 < cn Q
    · rw [if_pos h] at hS
      rw [hS] at ev
      simp only [aa, hh, if_pos h, ev, hS]
    · rw [if_neg h] at hS
      rw [hS] at ev
      simp only [aa, hh, if_neg h, ev, hS]
  have e88 : v12_doAllot q (cn a) (cn j) (cn c) (cn Q) = v12_doAllot_88 Q0 (cn a) (cn j) (cn c) (cn Q) (v12_average Q0 (cn a) (cn c) S) := by
    unfold v12_doAllot bv12_doAllot
    by_cases h : 0 < cn Q
    · rw [if_pos h] at hS
      simp only [if_neg ha', if_neg hj', if_neg hc', if_neg hQ', if_neg hQ0, if_neg haj, hQ0', if_pos r0, if_pos h, hS]
    · rw [if_neg h] at hS
      simp only [if_neg ha', if_neg hj', if_neg hc', if_neg hQ', if_neg hQ0, if_neg haj, hQ0', if_pos r0, if_neg h, hS]
  have g88 : g12_doAllot_88 Q0 (cn a) (cn j) (cn c) (cn Q) (v12_average Q0 (cn a) (cn c) S) → g12_doAllot q (cn a) (cn j) (cn c) (cn Q) := by
    intro hg
    unfold g12_doAllot bg12_doAllot
    by_cases h : 0 < cn Q
    · rw [if_pos h] at hS
      rw [hS] at hg gv2
      simp only [if_neg ha', if_neg hj', if_neg hc', if_neg hQ', if_neg hQ0, if_neg haj, hQ0', if_pos r0, if_pos h]
      exact ⟨ga, gj, g_in _ _ _ _, g_in _ _ _ _, gv2, hg⟩
    · rw [if_neg h] at hS
      rw [hS] at hg gv2
      simp only [if_neg ha', if_neg hj', if_neg hc', if_neg hQ', if_neg hQ0, if_neg haj, hQ0', if_pos r0, if_neg h]
      exact ⟨ga, gj, g_in _ _ _ _, g_in _ _ _ _, gv2, hg⟩
  have kB : kAllot p (cn a) (cn j) (cn c) (cn Q) = if v7_canAllot p (cn a) (cn c) (cn Q) = 0 then 3 else 0 := by
    unfold kAllot
    rw [if_neg ha, if_neg hj, if_neg hc, if_neg hQ, if_neg hQ0, if_neg haj]
  rw [kB, eK, e88]
  have t31 : ∀ Q : PM, (pI Q 12 1 0 (cn 3)).1 12 1 0 = cn 3 := fun Q => t_1
  by_cases hn : v12_average Q0 (cn a) (cn c) S = cn (-100000)
  · have e3 : v12_doAllot_88 Q0 (cn a) (cn j) (cn c) (cn Q) (v12_average Q0 (cn a) (cn c) S) = (cn 0, pI q 12 1 0 (cn 3)) ∧ g12_doAllot_88 Q0 (cn a) (cn j) (cn c) (cn Q) (v12_average Q0 (cn a) (cn c) S) := by
      unfold v12_doAllot_88 bv12_doAllot_88 g12_doAllot_88 bg12_doAllot_88
      simp only [if_pos r0, if_pos hn, t31, if_neg c30, t3]
      exact ⟨trivial, trivial⟩
    rw [e3.1]
    refine ⟨g88 e3.2, fun h => ?_, fun h => ?_⟩
    · rw [if_pos hn, ite_self, if_pos cn0e'] at h
      exact absurd h (by decide)
    · rw [if_pos hn, ite_self, if_pos cn0e']
      rfl
  by_cases hp : (if 0 < cn Q then Q0.1 13 1 (4 * a + c) < cn Q else cn Q < Q0.1 13 1 (4 * a + c))
  · have e3 : v12_doAllot_88 Q0 (cn a) (cn j) (cn c) (cn Q) (v12_average Q0 (cn a) (cn c) S) = (cn 0, pI q 12 1 0 (cn 3)) ∧ g12_doAllot_88 Q0 (cn a) (cn j) (cn c) (cn Q) (v12_average Q0 (cn a) (cn c) S) := by
      unfold v12_doAllot_88 bv12_doAllot_88 g12_doAllot_88 bg12_doAllot_88
      by_cases h : 0 < cn Q
      · rw [if_pos h] at hp
        simp only [if_pos r0, if_neg hn, if_pos h, idx4, cntk (i := 4 * a + c) (by omega), if_pos hp, t31, if_neg c30, t3]
        exact ⟨trivial, hi36, trivial⟩
      · rw [if_neg h] at hp
        simp only [if_pos r0, if_neg hn, if_neg h, idx4, cntk (i := 4 * a + c) (by omega), if_pos hp, t31, if_neg c30, t3]
        exact ⟨trivial, hi36, trivial⟩
    rw [e3.1]
    refine ⟨g88 e3.2, fun h => ?_, fun h => ?_⟩
    · rw [if_pos hp, if_pos cn0e'] at h
      exact absurd h (by decide)
    · rw [if_pos hp, if_pos cn0e']
      rfl
  -- it is done
  rw [if_neg hp, if_neg hn, if_neg cn01]
  rcases hv with hv | ⟨z, z1, z2, hv⟩
  · exact absurd hv hn
  have hjA : ¬ j = a := fun h => haj (by rw [h])
  have enQ : -cn Q = cn (-Q) := cnneg Q
  obtain ⟨y1, y2⟩ := holds_q (q := Q0) (a := a) (b := c) (by omega) (by omega) (cn (-Q)) (cn z)
  obtain ⟨y3, y4⟩ := holds_q (q := hdQ Q0 a c (cn (-Q)) (cn z)) (a := j) (b := c) (by omega) (by omega) (cn Q) (cn z)
  obtain ⟨W1, R1⟩ := ww_swap (s := a) (j := j) (b := c) (u := Q) (z := z) he W0 (by omega) (by omega) (by omega) (by omega) (by omega) (by omega) (by omega)
  have e3 : v12_doAllot_88 Q0 (cn a) (cn j) (cn c) (cn Q) (v12_average Q0 (cn a) (cn c) S) = (cn z, hdQ (hdQ Q0 a c (cn (-Q)) (cn z)) j c (cn Q) (cn z)) ∧ g12_doAllot_88 Q0 (cn a) (cn j) (cn c) (cn Q) (v12_average Q0 (cn a) (cn c) S) := by
    rw [hv] at hn ⊢
    unfold v12_doAllot_88 bv12_doAllot_88 g12_doAllot_88 bg12_doAllot_88
    by_cases h : 0 < cn Q
    · rw [if_pos h] at hp
      simp only [if_pos r0, if_neg hn, if_pos h, idx4, cntk (i := 4 * a + c) (by omega), if_neg hp, enQ, y2, y4]
      exact ⟨trivial, hi36, y1, y3, trivial⟩
    · rw [if_neg h] at hp
      simp only [if_pos r0, if_neg hn, if_neg h, idx4, cntk (i := 4 * a + c) (by omega), if_neg hp, enQ, y2, y4]
      exact ⟨trivial, hi36, y1, y3, trivial⟩
  have bX := mul_bd (n := Q) (m := z) (A := 999) (B := 9999) (by omega) (by omega) (by omega) (by omega)
  have eX : (cn Q).toInt64 * (cn z).toInt64 = cl (Q * z) := cl_mul ⟨by omega, by omega⟩ ⟨by omega, by omega⟩
  have al := al_e (p := p) (a := a) (j := j) (c := c) (Q := Q) (z := z) (X := cl (Q * z)) (by omega) ⟨by omega, by omega⟩ ⟨by omega, by omega⟩ ⟨by omega, by omega⟩ rfl
  obtain ⟨u1, u2⟩ := put_e p (A := a + 1) (c := c) hza (by omega) (by omega) (p.1 13 (2 * (a + 1) - 1) c - cn Q)
  generalize hP1 : pI p 13 (2 * (a + 1) - 1) c (p.1 13 (2 * (a + 1) - 1) c - cn Q) = P1 at *
  obtain ⟨u3', u4⟩ := put_e P1 (A := j + 1) (c := c) hzj (by omega) (by omega) (P1.1 13 (2 * (j + 1) - 1) c + cn Q)
  have gh1 := g_holds P1 (a := j) (c := c) (by omega) (by omega)
  have eh1 := holds_e P1 (j + 1) (c := c) (by omega)
  have eh0 := holds_e p (a + 1) (c := c) (by omega)
  have eJ : ∀ w, (pI P1 13 (2 * (j + 1) - 1) c w).2.1 0 (a + 1) 4 = p.2.1 0 (a + 1) 4 := fun w => by rw [pI_J, ← hP1, pI_J]
  have eC : v7_allotLots p (cn a) (cn j) (cn c) (cn Q) = (cn z, tkC (tkC p a c (cn (-Q)) (cn z)) j c (cn Q) (cn z)) ∧ g7_allotLots p (cn a) (cn j) (cn c) (cn Q) := by
    unfold v7_allotLots bv7_allotLots g7_allotLots bg7_allotLots
    by_cases h : 0 < cn Q
    · rw [if_pos h] at hS
      rw [hS] at ev gv1 hv
      simp only [if_pos h, aa, aj, ev, hv, eh0, u2, eh1, u4, eJ, eX, al]
      exact ⟨trivial, gaa, gaj, gv1, hza, ghh, hza, u1, hzj, gh1, hzj, u3', hza, hza, hzj, hzj, trivial⟩
    · rw [if_neg h] at hS
      rw [hS] at ev gv1 hv
      simp only [if_neg h, aa, aj, ev, hv, eh0, u2, eh1, u4, eJ, eX, al]
      exact ⟨trivial, gaa, gaj, gv1, hza, ghh, hza, u1, hzj, gh1, hzj, u3', hza, hza, hzj, hzj, trivial⟩
  refine ⟨g88 e3.2, fun _ => ⟨eC.2, ?_, ?_⟩, fun h => absurd rfl h⟩
  · rw [e3.1]
    show (hdQ _ _ _ _ _).1 12 1 0 = cn 0
    rw [hdQ_k (by decide), hdQ_k (by decide)]
    exact r0
  · rw [eC.1, e3.1]
    exact ⟨rfl, N, T, D, ⟨Nat.le_refl _, Nat.le_refl _⟩, ⟨Nat.le_refl _, Nat.le_refl _⟩, W1, by show (T : Int) + RS (hdQ _ _ _ _ _) 40 ≤ _; omega, by show (D : Int) + RS (hdQ _ _ _ _ _) 40 ≤ _; omega⟩
end Allot
