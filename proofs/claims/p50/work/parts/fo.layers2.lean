/-! the layers of the failed member itself, and the assessment -/
section Layers2
variable {p0 q0 p q : PM} {B l e : Int} {m : Nat} {w best : Int32}
theorem lay_1 (hm : m < 4) (H : CV p0 q0 B m p q l e) : ∃ p' q' g, (0 ≤ g ∧ g ≤ l) ∧ CV p0 q0 B m p' q' (l - g) e ∧ ToQ q' = ToQ q ∧ pI (v2_give p (cn 1) (p.1 9 (m + 1) 0).toInt64).2 9 (m + 1) 0 (p.1 9 (m + 1) 0 - (v2_give p (cn 1) (p.1 9 (m + 1) 0).toInt64).1.toInt32) = p' ∧ v12_covers (pI q 13 36 m (q.1 13 36 m - (v12_upTo q (q.1 13 36 m).toInt64).toInt32)) (cn 1) (v12_upTo q (q.1 13 36 m).toInt64) (cn m) = q' ∧ g2_give p (cn 1) (p.1 9 (m + 1) 0).toInt64 ∧ g12_upTo q (q.1 13 36 m).toInt64 ∧ (l = 0 → p' = p) ∧ ∀ k, ¬ k = m → p'.1 9 (k + 1) 2 = p.1 9 (k + 1) 2 := by
  have l0 := H.2.2.2.2.2.2.1
  have hl := H.2.2.2.2.2.1.1
  have hl2 := H.2.2.2.2.2.1.2.1
  obtain ⟨z, zz, z0, z1, z2, -, z3, z4⟩ := (H.2.2.1 m hm).2.1
  obtain ⟨g, hg⟩ : ∃ g, g = if z < l then z else l := ⟨_, rfl⟩
  have g0 : 0 ≤ g ∧ g ≤ l ∧ g ≤ z := by
    rw [hg]
    split <;> omega
  obtain ⟨k1, k2⟩ := give_e (lay := cn 1) (m := z) hl l0.1 (by omega) z0 (by omega) hg
  obtain ⟨k3, k4⟩ := upTo_e (v := z) hl2 l0.1 l0.2 z0 (by omega)
  rw [← hg] at k3
  obtain ⟨k5, -⟩ := cov_e (q := pI q 13 36 m (cn (z - g))) (lay := cn 1) (g := g) hm hl2 l0.1 l0.2 g0.1 (by omega)
  rw [cvQ_pI (by omega)] at k5
  have h := cv_money (z := z) (z' := z - g) hm (cv_give (lay := cn 1) hm H g0.1 g0.2.1) (by rw [cvQ_1 (by omega)]; exact z4) (by omega) (by omega) (by omega)
  rw [z3, z4, cn64 ⟨by omega, by omega⟩, k1, k3, cl32, cnsub, k5]
  refine ⟨_, _, g, ⟨g0.1, g0.2.1⟩, h, tt_l36 hm z4 ⟨by omega, by omega⟩ ⟨by omega, by omega⟩, ?_, rfl, k2, k4, fun hz => ?_, fun k hk => ?_⟩
  · rfl
  · have e0 : g = 0 := by omega
    unfold gvC
    rw [if_neg (by omega), e0, show z - 0 = z by omega, ← z3, pI_id]
  · rw [pI_1, u3_s (by decide), gvC_1 (by omega)]
theorem lay_3 (hm : m < 4) (H : CV p0 q0 B m p q l e) : ∃ p' q' g, (0 ≤ g ∧ g ≤ l) ∧ CV p0 q0 B m p' q' (l - g) e ∧ ToQ q' = ToQ q ∧ pI (v2_give p (cn 3) (p.1 9 (m + 1) 2).toInt64).2 9 (m + 1) 2 (p.1 9 (m + 1) 2 - (v2_give p (cn 3) (p.1 9 (m + 1) 2).toInt64).1.toInt32) = p' ∧ v12_covers (pI q 13 38 m (q.1 13 38 m - (v12_upTo q (q.1 13 38 m).toInt64).toInt32)) (cn 3) (v12_upTo q (q.1 13 38 m).toInt64) (cn m) = q' ∧ g2_give p (cn 3) (p.1 9 (m + 1) 2).toInt64 ∧ g12_upTo q (q.1 13 38 m).toInt64 ∧ (l = 0 → p' = p) ∧ ∀ k, ¬ k = m → p'.1 9 (k + 1) 2 = p.1 9 (k + 1) 2 := by
  have l0 := H.2.2.2.2.2.2.1
  have hl := H.2.2.2.2.2.1.1
  have hl2 := H.2.2.2.2.2.1.2.1
  obtain ⟨z, z0, z1, z3, z4⟩ := (H.2.2.1 m hm).1
  obtain ⟨g, hg⟩ : ∃ g, g = if z < l then z else l := ⟨_, rfl⟩
  have g0 : 0 ≤ g ∧ g ≤ l ∧ g ≤ z := by
    rw [hg]
    split <;> omega
  obtain ⟨k1, k2⟩ := give_e (lay := cn 3) (m := z) hl l0.1 (by omega) z0 (by omega) hg
  obtain ⟨k3, k4⟩ := upTo_e (v := z) hl2 l0.1 l0.2 z0 (by omega)
  rw [← hg] at k3
  obtain ⟨k5, -⟩ := cov_e (q := pI q 13 38 m (cn (z - g))) (lay := cn 3) (g := g) hm hl2 l0.1 l0.2 g0.1 (by omega)
  rw [cvQ_pI (by omega)] at k5
  have h := cv_fund (z' := z - g) (j := m) (cv_give (lay := cn 3) hm H g0.1 g0.2.1) (by omega) (by omega)
  rw [z3, z4, cn64 ⟨by omega, by omega⟩, k1, k3, cl32, cnsub, k5]
  refine ⟨_, _, g, ⟨g0.1, g0.2.1⟩, h, tt_l38 hm z4 ⟨by omega, by omega⟩ ⟨by omega, by omega⟩, ?_, rfl, k2, k4, fun hz => ?_, fun k hk => ?_⟩
  · rfl
  · have e0 : g = 0 := by omega
    unfold gvC
    rw [if_neg (by omega), e0, show z - 0 = z by omega, ← z3, pI_id]
  · rw [pI_1, u3_i (by omega), gvC_1 (by omega)]
theorem lay_4 (hm : m < 4) (H : CV p0 q0 B m p q l e) : ∃ p' q' g, (0 ≤ g ∧ g ≤ l) ∧ CV p0 q0 B m p' q' (l - g) e ∧ ToQ q' = ToQ q ∧ pI (v2_give p (cn 4) (p.1 2 1 5).toInt64).2 2 1 5 (p.1 2 1 5 - (v2_give p (cn 4) (p.1 2 1 5).toInt64).1.toInt32) = p' ∧ v12_covers (pI q 12 1 58 (q.1 12 1 58 - (v12_upTo q (q.1 12 1 58).toInt64).toInt32)) (cn 4) (v12_upTo q (q.1 12 1 58).toInt64) (cn m) = q' ∧ g2_give p (cn 4) (p.1 2 1 5).toInt64 ∧ g12_upTo q (q.1 12 1 58).toInt64 ∧ (l = 0 → p' = p) ∧ ∀ k, ¬ k = m → p'.1 9 (k + 1) 2 = p.1 9 (k + 1) 2 := by
  have l0 := H.2.2.2.2.2.2.1
  have hl := H.2.2.2.2.2.1.1
  have hl2 := H.2.2.2.2.2.1.2.1
  obtain ⟨z, z0, z1, z3, z4⟩ := H.2.2.2.1
  obtain ⟨g, hg⟩ : ∃ g, g = if z < l then z else l := ⟨_, rfl⟩
  have g0 : 0 ≤ g ∧ g ≤ l ∧ g ≤ z := by
    rw [hg]
    split <;> omega
  obtain ⟨k1, k2⟩ := give_e (lay := cn 4) (m := z) hl l0.1 (by omega) z0 (by omega) hg
  obtain ⟨k3, k4⟩ := upTo_e (v := z) hl2 l0.1 l0.2 z0 (by omega)
  rw [← hg] at k3
  obtain ⟨k5, -⟩ := cov_e (q := pI q 12 1 58 (cn (z - g))) (lay := cn 4) (g := g) hm hl2 l0.1 l0.2 g0.1 (by omega)
  rw [cvQ_pI (by omega)] at k5
  have h := cv_stake (z' := z - g) (cv_give (lay := cn 4) hm H g0.1 g0.2.1) (by omega) (by omega)
  rw [z3, z4, cn64 ⟨by omega, by omega⟩, k1, k3, cl32, cnsub, k5]
  refine ⟨_, _, g, ⟨g0.1, g0.2.1⟩, h, tt_l58 hm z4 ⟨by omega, by omega⟩ ⟨by omega, by omega⟩, ?_, rfl, k2, k4, fun hz => ?_, fun k hk => ?_⟩
  · rfl
  · have e0 : g = 0 := by omega
    unfold gvC
    rw [if_neg (by omega), e0, show z - 0 = z by omega, ← z3, pI_id]
  · rw [pI_1, u3_k (by decide), gvC_1 (by omega)]
/-- more may be given than is lost: the rest stays with the failed member -/
theorem cv_give2 {lay : Int32} {g v : Int} (hm : m < 4) (H : CV p0 q0 B m p q l 0) (hg : g = if v < l then v else l) (v0 : 0 ≤ v) (v1 : v ≤ l + 9999) (v2 : l = 0 → v = 0) : CV p0 q0 B m (pJ (gvC p lay l g) 0 (2 * m + 1) 4 (p.2.1 0 (2 * m + 1) 4 + cl (v - g))) (cvQ q m lay l v) (l - g) (v - g) := by
  obtain ⟨⟨a1, a2, a3, a4⟩, ⟨b1', b2', b3'⟩, c1, c2, ⟨d1, d2, d3⟩, ⟨f1, f2, f3⟩, ⟨l0, l1⟩, ⟨e0, e1⟩, hB⟩ := H
  have g0 : 0 ≤ g ∧ g ≤ l ∧ g ≤ v := by
    rw [hg]
    split <;> omega
  have gv : (0 < g) = (0 < v) := by
    refine propext ⟨fun h => by omega, fun h => ?_⟩
    rw [hg]
    split <;> omega
  refine ⟨⟨fun K h h' => ?_, fun i S h => ?_, fun S h h' => ?_, ?_⟩, ⟨fun K h => ?_, ?_, fun S h h' => ?_⟩, fun k hk => ?_, ?_, ⟨fun a ha h => ?_, ?_, ?_⟩, ⟨?_, ?_, ?_⟩, ⟨by omega, by omega⟩, ⟨by omega, ?_⟩, ?_⟩
  · rw [← a1 K h h']
    funext i S
    exact gvC_1 (by omega)
  · rw [pJ_1, gvC_1 (by omega)]
    exact a2 i S h
  · rw [pJ_1, gvC_1 (by omega)]
    exact a3 S h h'
  · rw [pJ_R, gvC_R]
    exact a4
  · rw [← b1' K h]
    funext i
    exact cvQ_1 (by omega)
  · rw [← b2']
    funext i S
    exact cvQ_1 (by omega)
  · rw [cvQ_1 (by omega)]
    exact b3' S h h'
  · rw [pJ_1, gvC_1 (by omega), gvC_1 (by omega), gvC_1 (by omega), cvQ_1 (by omega), cvQ_1 (by omega), cvQ_1 (by omega)]
    exact c1 k hk
  · rw [pJ_1, gvC_1 (by omega), cvQ_1 (by omega)]
    exact c2
  · rw [pJ_J, u3_i (by omega), gvC_J (by omega), cvQ_J h]
    exact d1 a ha h
  · rw [pJ_J, u3_same, d2, cladd]
    congr 1
    omega
  · rw [cvQ_m, d3, cladd]
    congr 1
    omega
  · rw [pJ_J, u3_k (by decide)]
    exact gvC_7 f1 g0.1
  · rw [cvQ_l]
    congr 1
    rw [hg]
    split <;> omega
  · rw [pJ_1, gvC_8, cvQ_68, f3]
    by_cases h : 0 < v
    · rw [if_pos h, if_pos (by omega)]
    · rw [if_neg h, if_neg (by omega)]
  · rw [hg]
    split <;> omega
  · have h := cs_set (f := q.2.1 14 1) (g := (cvQ q m lay l v).2.1 14 1) (a := 2 * m) (fun k hk => cvQ_J hk) 9
    rw [if_pos (by omega), cvQ_m, d3, cladd, cl_I (a := 0 - l + v) ⟨by omega, by omega⟩, cl_I (a := 0 - l) ⟨by omega, by omega⟩] at h
    have hgg : g = v ∨ (g = l ∧ l ≤ v) := by
      rw [hg]
      split <;> omega
    omega
theorem ceil_e {l pr : Int} (h : 0 < pr) : -((-l) / pr) = (l + pr - 1) / pr := by
  have h1 := Int.mul_ediv_add_emod (l + pr - 1) pr
  have h2 := Int.emod_nonneg (l + pr - 1) (by omega : pr ≠ 0)
  have h3 := Int.emod_lt_of_pos (l + pr - 1) h
  have h4 := Int.mul_ediv_add_emod (-l) pr
  have h5 := Int.emod_nonneg (-l) (by omega : pr ≠ 0)
  have h6 := Int.emod_lt_of_pos (-l) h
  generalize hx : (l + pr - 1) / pr = x at *
  generalize hy : (-l) / pr = y at *
  have h7 : pr * (x + y) < pr * 1 := by
    rw [Int.mul_add]
    omega
  have h8 : pr * (-1) < pr * (x + y) := by
    rw [Int.mul_add]
    omega
  have h9 := Int.lt_of_mul_lt_mul_left h7 (by omega)
  have h10 := Int.lt_of_mul_lt_mul_left h8 (by omega)
  omega
theorem lay_2 {pr : Int} (hm : m < 4) (H : CV p0 q0 B m p q l 0) (hp : p.1 1 2 3 = cn pr) (hq : q.1 13 10 1 = cn pr) (p1 : 1 ≤ pr) (p2 : pr ≤ 9999) : ∃ (p' : PM) (N u l' e' : Int), (0 ≤ l' ∧ l' ≤ l ∧ e' ≤ 9999) ∧ (q.1 13 37 m = cn N ∧ 0 ≤ N ∧ N ≤ 100000) ∧ u = (if N < (l + pr - 1) / pr then N else (l + pr - 1) / pr) ∧ 0 ≤ (l + pr - 1) / pr ∧ (l + pr - 1) / pr ≤ 9000000000000010000 ∧ (0 ≤ u * pr ∧ u * pr ≤ 1000000000) ∧ CV p0 q0 (B + 1000000000) m p' (cvQ (pJ (pI q 13 37 m (cn (N - u))) 14 1 8 (q.2.1 14 1 8 - cl (u * pr))) m (cn 2) l (u * pr)) l' e' ∧ pJ (v2_sellUnits p (m + 1)).2 0 (2 * m + 1) 4 (p.2.1 0 (2 * m + 1) 4 + (v2_sellUnits p (m + 1)).1) = p' ∧ g2_sellUnits p (m + 1) ∧ (l = 0 → p' = p) ∧ ∀ k, ¬ k = m → p'.1 9 (k + 1) 2 = p.1 9 (k + 1) 2 := by
  have l0 := H.2.2.2.2.2.2.1
  have hl := H.2.2.2.2.2.1.1
  have hl2 := H.2.2.2.2.2.1.2.1
  obtain ⟨N, NN, n0, n1, n2, -, n3, n4⟩ := (H.2.2.1 m hm).2.2
  have a1 := Int.mul_ediv_add_emod (l + pr - 1) pr
  have a2 := Int.emod_nonneg (l + pr - 1) (by omega : pr ≠ 0)
  have a3 := Int.emod_lt_of_pos (l + pr - 1) (by omega : 0 < pr)
  have a4 : 0 ≤ (l + pr - 1) / pr := Int.ediv_nonneg (by omega) (by omega)
  have a5 : (l + pr - 1) / pr ≤ l + pr - 1 := Int.ediv_le_self _ (by omega)
  have a6 := ceil_e (l := l) (by omega : 0 < pr)
  obtain ⟨K, hK⟩ : ∃ K, (l + pr - 1) / pr = K := ⟨_, rfl⟩
  rw [hK] at a1 a4 a5 a6 ⊢
  obtain ⟨u, hu⟩ : ∃ u, u = if N < K then N else K := ⟨_, rfl⟩
  have u0 : 0 ≤ u ∧ u ≤ N ∧ u ≤ K := by
    rw [hu]
    split <;> omega
  have v0 : 0 ≤ u * pr := Int.mul_nonneg u0.1 (by omega)
  have v1 : u * pr ≤ pr * K := by
    rw [Int.mul_comm u pr]
    exact Int.mul_le_mul_of_nonneg_left u0.2.2 (by omega)
  have v2 : u * pr ≤ 100000 * 10000 := Int.mul_le_mul (by omega) (by omega) (by omega) (by omega)
  have v3 : l = 0 → u = 0 := by
    intro h
    have h1 : pr * K < pr * 1 := by omega
    have h2 := Int.lt_of_mul_lt_mul_left h1 (by omega)
    omega
  obtain ⟨v, hv⟩ : ∃ v, v = u * pr := ⟨_, rfl⟩
  rw [← hv] at v0 v1 v2
  have vz : u = 0 → v = 0 := by
    intro h
    rw [hv, h]
    exact Int.zero_mul _
  obtain ⟨g, hg⟩ : ∃ g, g = if v < l then v else l := ⟨_, rfl⟩
  have g0 : 0 ≤ g ∧ g ≤ l ∧ g ≤ v := by
    rw [hg]
    split <;> omega
  have H1 := cv_units (z := N) (z' := N - u) hm H n4 (by omega) (by omega) (by omega)
  have H2 := cv_cash (z := v) (a := 8) ⟨by omega, by omega⟩ (by decide) (by omega) H1
  have H3 := cv_give2 (lay := cn 2) hm H2 hg v0 (by omega) (fun h => vz (v3 h))
  have H4 : CV p0 q0 (B + 1000000000) m _ _ _ _ := cv_up H3 (by omega)
  obtain ⟨P, hP⟩ : ∃ P, P = pJ (gvC (pJ (pI p 9 (m + 1) 1 (cn (N - u))) 0 9 4 ((pI p 9 (m + 1) 1 (cn (N - u))).2.1 0 9 4 - cl v)) (cn 2) l g) 0 (2 * m + 1) 4 ((pJ (pI p 9 (m + 1) 1 (cn (N - u))) 0 9 4 ((pI p 9 (m + 1) 1 (cn (N - u))).2.1 0 9 4 - cl v)).2.1 0 (2 * m + 1) 4 + cl (v - g)) := ⟨_, rfl⟩
  have hPz : u = 0 → P = p := by
    intro h
    have hv0 := vz h
    have hg0 : g = 0 := by omega
    rw [hP]
    unfold gvC
    rw [if_neg (by omega), h, hv0, hg0, show N - 0 = N by omega, ← n3, pI_id, pJ_0, show (0 : Int) - 0 = 0 from rfl]
    have e1 : p.2.1 0 (2 * m + 1) 4 + cl 0 = p.2.1 0 (2 * m + 1) 4 := by
      rw [cl_of (p.2.1 0 (2 * m + 1) 4), cladd]
      congr 1
      omega
    rw [e1, pJ_id]
  refine ⟨P, N, u, l - g, v - g, ⟨by omega, by omega, by rw [hg]; split <;> omega⟩, ⟨n4, n0, by omega⟩, hu, a4, by omega, by rw [← hv]; exact ⟨v0, by omega⟩, ?_, ?_, ?_, fun h => hPz (v3 h), fun k hk => ?_⟩
  · rw [hP, ← hv]
    exact H4
  · unfold v2_sellUnits bv2_sellUnits
    have t1 : (cl 0 < cl l) = (0 < l) := cllt (by decide) ⟨by omega, by omega⟩
    have t2 : ((0 : Int32) < cn N) = (0 < N) := by rw [zcn, cnlt (by decide) ⟨by omega, by omega⟩]
    have t3 : (0 : Int32) < cn pr := by
      rw [zcn, cnlt (by decide) ⟨by omega, by omega⟩]
      omega
    have ez : ∀ P2 : PM, P2 = p → u = 0 → pJ p 0 (2 * m + 1) 4 (p.2.1 0 (2 * m + 1) 4 + cl 0) = P := by
      intro P2 _ h
      rw [hPz h]
      have e1 : p.2.1 0 (2 * m + 1) 4 + cl 0 = p.2.1 0 (2 * m + 1) 4 := by
        rw [cl_of (p.2.1 0 (2 * m + 1) 4), cladd]
        congr 1
        omega
      rw [e1, pJ_id]
    have eb : v6_bookAt p (cn 1) = 2 := book_e p (a := 1) (by decide)
    simp only [eb, hp, n3, hl, lg_lt0, t1, t2, if_pos t3]
    by_cases h1 : 0 < l
    · by_cases h2 : 0 < N
      · obtain ⟨-, y1⟩ := fd_e (A := -l) (B := pr) p ⟨by omega, by omega⟩ (by omega) (by omega)
        obtain ⟨y2, -⟩ := lmin_cl p (a := N) (b := K) ⟨by omega, by omega⟩ ⟨by omega, by omega⟩
        have y3 : (if K < N then K else N) = u := by
          rw [hu]
          split <;> split <;> omega
        rw [y3] at y2
        have y4 := account_e (pI p 9 (m + 1) 1 (cn (N - u))) (a := 8) (by decide)
        obtain ⟨y5, -⟩ := give_e (p := pJ (pI p 9 (m + 1) 1 (cn (N - u))) 0 9 4 ((pI p 9 (m + 1) 1 (cn (N - u))).2.1 0 9 4 - cl v)) (lay := cn 2) (m := v) (l := l) (by rw [pJ_J, u3_k (by decide)]; exact hl) l0.1 (by omega) v0 (by omega) hg
        have e8 : cn ((8 : Nat) : Int) = cn 8 := rfl
        rw [e8] at y4
        simp only [if_pos h1, if_pos h2, cn64 (a := pr) ⟨by omega, by omega⟩, cn64 (a := N) ⟨by omega, by omega⟩, clneg, y1, a6, y2, cl32, cn64 (a := u) ⟨by omega, by omega⟩, clmul, ← hv, cnsub, y4, y5, clsub]
        rw [hP, pJ_J, u3_i (by omega)]
        rfl
      · simp only [if_pos h1, if_neg h2]
        exact ez p rfl (by omega)
    · simp only [if_neg h1]
      exact ez p rfl (v3 (by omega))
  · unfold g2_sellUnits bg2_sellUnits
    have t1 : (cl 0 < cl l) = (0 < l) := cllt (by decide) ⟨by omega, by omega⟩
    have t2 : ((0 : Int32) < cn N) = (0 < N) := by rw [zcn, cnlt (by decide) ⟨by omega, by omega⟩]
    have t3 : (0 : Int32) < cn pr := by
      rw [zcn, cnlt (by decide) ⟨by omega, by omega⟩]
      omega
    have gb : g6_bookAt p (cn 1) := g_book p (a := 1) (by decide)
    have eb : v6_bookAt p (cn 1) = 2 := book_e p (a := 1) (by decide)
    simp only [eb, hp, n3, hl, lg_lt0, t1, t2, if_pos t3]
    refine ⟨gb, by decide, ?_⟩
    by_cases h1 : 0 < l
    · by_cases h2 : 0 < N
      · obtain ⟨y0, y1⟩ := fd_e (A := -l) (B := pr) p ⟨by omega, by omega⟩ (by omega) (by omega)
        obtain ⟨y2, y2g⟩ := lmin_cl p (a := N) (b := K) ⟨by omega, by omega⟩ ⟨by omega, by omega⟩
        have y3 : (if K < N then K else N) = u := by
          rw [hu]
          split <;> split <;> omega
        rw [y3] at y2
        have y4 := account_e (pI p 9 (m + 1) 1 (cn (N - u))) (a := 8) (by decide)
        have y4g := g_account (pI p 9 (m + 1) 1 (cn (N - u))) (a := 8) (by decide)
        obtain ⟨-, y5⟩ := give_e (p := pJ (pI p 9 (m + 1) 1 (cn (N - u))) 0 9 4 ((pI p 9 (m + 1) 1 (cn (N - u))).2.1 0 9 4 - cl v)) (lay := cn 2) (m := v) (l := l) (by rw [pJ_J, u3_k (by decide)]; exact hl) l0.1 (by omega) v0 (by omega) hg
        have e8 : cn ((8 : Nat) : Int) = cn 8 := rfl
        rw [e8] at y4 y4g
        simp only [if_pos h1, if_pos h2, cn64 (a := pr) ⟨by omega, by omega⟩, cn64 (a := N) ⟨by omega, by omega⟩, clneg, y1, a6, y2, cl32, cn64 (a := u) ⟨by omega, by omega⟩, clmul, ← hv, cnsub, y4]
        exact ⟨by omega, y0, by omega, y2g, by omega, by omega, y4g, by decide, by decide, y5, trivial⟩
      · simp only [if_pos h1, if_neg h2]
        exact ⟨by omega, trivial⟩
    · simp only [if_neg h1]
  · rw [hP, pJ_1, gvC_1 (by omega), pJ_1, pI_1, u3_s (by decide)]
theorem lay_7 {A : Nat → Int32} (hm : m < 4) (H : CV p0 q0 B m p q l e) (hM : MeR p q) (hW : WnR q w best) (h9 : q.1 15 9 m = cn 1) (hf : ∀ k, k < 4 → ∃ z : Int, 0 ≤ z ∧ z ≤ 9999 ∧ p.1 9 (k + 1) 6 = cn z ∧ (¬ k = m → A k = cn z)) : ∃ Q l', (0 ≤ l' ∧ l' ≤ l) ∧ CV p0 q0 (B + 40000) m (v2_shareLayer p (cn 7) w) Q l' e ∧ ToQ Q = ToQ q ∧ v12_coversAll_242 (pJ q 14 2 0 (A 0).toInt64) (cn m) (A 1) (A 2) (A 3) = v12_covers (pJ Q 14 1 8 (Q.2.1 14 1 8 - Q.2.1 12 1 69)) (cn 8) (Q.2.1 12 1 69) (cn m) ∧ (l = 0 → CV p0 q0 B m (v2_shareLayer p (cn 7) w) q l e) ∧ g2_shareLayer p (cn 7) w ∧ g12_coversAll_242 (pJ q 14 2 0 (A 0).toInt64) (cn m) (A 1) (A 2) (A 3) ∧ CH q Q m 9999 := by
  obtain ⟨F, hF, hF2⟩ : ∃ F, FU = F ∧ 100 < F := ⟨FU, rfl, by decide⟩
  have z0 : cn ((0 : Nat) : Int) = cn 0 := rfl
  have t10 : ¬ cn 1 = 0 := by decide
  have t00 : cn 0 = 0 := rfl
  obtain ⟨P, hP⟩ : ∃ P : Nat → Int, ∀ k, P k = if k < 4 ∧ q.1 15 9 k = 0 then (p.1 9 (k + 1) 6).toInt else 0 := ⟨_, fun k => rfl⟩
  have hfz : ∀ k, k < 4 → ∃ z : Int, 0 ≤ z ∧ z ≤ 9999 ∧ p.1 9 (k + 1) 6 = cn z ∧ (¬ k = m → A k = cn z) ∧ P k = if q.1 15 9 k = 0 then z else 0 := by
    intro k hk
    obtain ⟨z, z0, z1, z2, z3⟩ := hf k hk
    refine ⟨z, z0, z1, z2, z3, ?_⟩
    rw [hP k, z2, cn_I ⟨by omega, by omega⟩]
    by_cases h : q.1 15 9 k = 0
    · rw [if_pos h, if_pos ⟨hk, h⟩]
    · rw [if_neg h, if_neg (fun h2 => h h2.2)]
  have hb : ∀ k, 0 ≤ P k ∧ P k ≤ 9999 := by
    intro k
    by_cases hk : k < 4
    · obtain ⟨z, z0, z1, z2, z3, z4⟩ := hfz k hk
      rw [z4]
      split <;> omega
    · rw [hP k, if_neg (fun h => hk h.1)]
      omega
  have hPc : ∀ k, k < 4 → (if v2_givesIn p (cn 7) (k + 1) w = 0 then cl 0 else (if cn 1 = 0 then p.1 9 (k + 1) 2 else p.1 9 (k + 1) 6).toInt64) = cl (P k) := by
    intro k hk
    obtain ⟨z, z0, z1, z2, z3, z4⟩ := hfz k hk
    rw [(in_e5 hk hM hW (Or.inr (Or.inr rfl))).2, z4, if_neg t10, z2, cn64 ⟨by omega, by omega⟩, if_pos (show (7 : Int) = 7 from rfl)]
    by_cases h9 : q.1 15 9 k = 0
    · rw [if_pos h9, if_neg t10, if_pos h9]
    · rw [if_neg h9, if_pos t00, if_neg h9]
  have hPq : ∀ k, k < 4 → (if q.1 15 9 k = 0 then (A k).toInt64 else cl 0) = cl (P k) := by
    intro k hk
    obtain ⟨z, z0, z1, z2, z3, z4⟩ := hfz k hk
    rw [z4]
    by_cases h : q.1 15 9 k = 0
    · have hkm : ¬ k = m := by
        intro h2
        rw [h2, h9] at h
        exact t10 h
      rw [if_pos h, if_pos h, z3 hkm, cn64 ⟨by omega, by omega⟩]
    · rw [if_neg h, if_neg h]
  have hPm : P m = 0 := by
    rw [hP m, h9, if_neg (fun h => t10 h.2)]
  obtain ⟨P1, a1, a2, a3, a4⟩ := parts_c hF (Or.inr rfl) hM hW (Or.inr (Or.inr rfl)) hPc 4 0 F p rfl (by omega) ⟨rfl, rfl, fun _ _ _ _ => rfl⟩ (fun k hk => absurd hk (by omega))
  obtain ⟨Q1, c1, c2, c3, c4⟩ := parts_7 (q := q) (v1 := cn m) hF hPq 4 0 F (pJ (pJ (pJ (pJ q 14 2 0 (A 0).toInt64) 14 2 1 (A 1).toInt64) 14 2 2 (A 2).toInt64) 14 2 3 (A 3).toInt64) rfl (by omega) ⟨rfl, rfl, fun K i S h => by
    rw [pJ_J, u3_ne (fun h2 => h ⟨h2.1, h2.2.1⟩), pJ_J, u3_ne (fun h2 => h ⟨h2.1, h2.2.1⟩), pJ_J, u3_ne (fun h2 => h ⟨h2.1, h2.2.1⟩), pJ_J, u3_ne (fun h2 => h ⟨h2.1, h2.2.1⟩)]⟩ (fun k hk => absurd hk (by omega)) (fun k _ hk => by
    have e : k = 0 ∨ k = 1 ∨ k = 2 ∨ k = 3 := by omega
    rcases e with rfl | rfl | rfl | rfl
    · rfl
    · rfl
    · rfl
    · rfl)
  obtain ⟨x, g, hx, s1, s2, s3, s4', s5, s6, s7⟩ := sh_cv (lay := 7) hm H a1 c1 a2 c2 hb
  obtain ⟨Q, k1, k2, k3, k4, k5, k6⟩ := cash_loop hm hx.1 hx.2.1 H.2.2.2.2.2.2.1.2 (by have h := s3 m; omega) (fun k _ => by have h := s3 k; have h2 := hb k; omega) 4 0 F _ (gQ Q1 g) B rfl (by omega) s4' s5 s6
  rw [z0] at a3 a4 c3 c4 k1 k2 k3 k4
  rw [s1.1] at a3 a4
  rw [s2.1] at c3 c4
  have e1 : v2_shareLayer p (cn 7) w = v2_shareLayer_96 F (gC (gvC P1 (cn 7) l x) g) (cn 1) (cn 0) := by
    unfold v2_shareLayer bv2_shareLayer
    rw [if_pos rfl, hF]
    exact a3
  have e2 : v12_coversAll_242 (pJ q 14 2 0 (A 0).toInt64) (cn m) (A 1) (A 2) (A 3) = v12_coversAll_325 F (gQ Q1 g) (cn m) (cl x) (cn 0) := by
    unfold v12_coversAll_242 bv12_coversAll_242
    rw [hF]
    exact c3
  rw [e1, e2]
  have hTQ : ToQ Q = ToQ q := by
    have z9 : ToQ Q = ToQ (gQ Q1 g) + cl (x - sgu g 0 4) := k5
    have e9 : ToQ (gQ Q1 g) = ToQ q := tt_c (by
      funext k
      rw [gQ_o (by omega)]
      exact c1.2.2 14 1 k (by omega)) (by show Q1.1 13 36 = _; rw [c1.1]) (by show Q1.1 13 38 = _; rw [c1.1]) (by show Q1.1 12 1 58 = _; rw [c1.1])
    rw [z9, sg_4, hx.2.2, e9]
    exact tt_0 _ (by omega)
  have hCH : CH q Q m 9999 := fun a ha h => by
    have h6 := k6 a ha h
    rw [gQ_o (by omega), c1.2.2 14 1 a (by omega), if_pos (Nat.zero_le _)] at h6
    exact h6
  refine ⟨Q, l - x, ⟨by omega, by omega⟩, cv_up k1 (by omega), hTQ, k2, fun hz => ?_, ?_, ?_, hCH⟩
  · obtain ⟨y1, y2⟩ := s7 hz
    have h := (loop96_z (v3 := cn 1) 4 0 F (gC (gvC P1 (cn 7) l x) g) rfl (by omega) (fun k hk => by rw [(s6 k hk).1, y1 k hk])).1
    rw [z0] at h
    rw [h]
    exact y2
  · unfold g2_shareLayer bg2_shareLayer
    rw [if_pos rfl, hF]
    exact a4 s1.2 k3
  · unfold g12_coversAll_242 bg12_coversAll_242
    rw [hF]
    exact c4 s2.2 k4
end Layers2
