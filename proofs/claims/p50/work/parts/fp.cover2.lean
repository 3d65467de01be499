/-! the loss is covered -/
section Cover2
variable {p q : PM} {B l e : Int} {m : Nat} {w best : Int32}
theorem c170 {F : Nat} (hF2 : 10 < F) {pc : PM} {l : Int} (h : v2_shareLayer (v2_shareLayer (v2_shareLayer p (cn 5) w) (cn 6) w) (cn 7) w = pc) (hg : v2_give pc (cn 8) (pc.2.1 2 1 7) = (cl l, gvC pc (cn 8) l l)) : v2_cover_170 F p w (cn 5) = hoC pc l ∧ (g2_shareLayer p (cn 5) w → g2_shareLayer (v2_shareLayer p (cn 5) w) (cn 6) w → g2_shareLayer (v2_shareLayer (v2_shareLayer p (cn 5) w) (cn 6) w) (cn 7) w → g2_give pc (cn 8) (pc.2.1 2 1 7) → g2_cover_170 F p w (cn 5)) := by
  obtain ⟨n, rfl⟩ : ∃ n, F = n + 4 := ⟨F - 4, by omega⟩
  have s5 : cn 5 + cn 1 = cn 6 := rfl
  have s6 : cn 6 + cn 1 = cn 7 := rfl
  have s7 : cn 7 + cn 1 = cn 8 := rfl
  have c5 : ¬ cn 7 < cn 5 := by decide
  have c6 : ¬ cn 7 < cn 6 := by decide
  have c7 : ¬ cn 7 < cn 7 := by decide
  have c8 : cn 7 < cn 8 := by decide
  have ea : v7_accountAt pc (cn 8) = 9 := account_e pc (a := 8) (by decide)
  have ga : g7_accountAt pc (cn 8) := g_account pc (a := 8) (by decide)
  constructor
  · rw [ev2_cover_170]
    unfold bv2_cover_170
    rw [if_neg c5, s5, ev2_cover_170]
    unfold bv2_cover_170
    rw [if_neg c6, s6, ev2_cover_170]
    unfold bv2_cover_170
    rw [if_neg c7, s7, h, ev2_cover_170]
    unfold bv2_cover_170
    rw [if_pos c8, hg, ea]
    rfl
  · intro g5 g6 g7 g8
    rw [eg2_cover_170]
    unfold bg2_cover_170
    rw [if_neg c5, s5, eg2_cover_170]
    unfold bg2_cover_170
    rw [if_neg c6, s6, eg2_cover_170]
    unfold bg2_cover_170
    rw [if_neg c7, s7, h, eg2_cover_170]
    unfold bg2_cover_170
    rw [if_pos c8, ea]
    exact ⟨g5, g6, g7, ga, by decide, g8, by decide, trivial⟩
theorem sell_z {pr : Int} (hl : p.2.1 2 1 7 = cl 0) : v2_sellUnits p (m + 1) = (cl 0, p) ∧ g2_sellUnits p (m + 1) := by
  have t1 : ¬ cl 0 < cl 0 := by decide
  have eb : v6_bookAt p (cn 1) = 2 := book_e p (a := 1) (by decide)
  have gb : g6_bookAt p (cn 1) := g_book p (a := 1) (by decide)
  unfold v2_sellUnits bv2_sellUnits g2_sellUnits bg2_sellUnits
  simp only [hl, lg_lt0, if_neg t1, eb]
  exact ⟨trivial, gb, by decide, trivial⟩
/-- no loss: the class does nothing -/
theorem cover_z {F : Nat} (hF : FU = F) (hF2 : 10 < F) (hm : m < 4) (H : CV p q B m p q 0 e) (hS : ∀ k, k < 4 → p.1 9 (k + 1) 6 = p.1 9 (k + 1) 2) (hM : MeR p q) (hW : WnR q w best) (h9 : q.1 15 9 m = cn 1) : CV p q B m (v2_cover_63 F p w (m + 1) (2 * m + 1) (cn 4)) q 0 e ∧ g2_cover_63 F p w (m + 1) (2 * m + 1) (cn 4) := by
  obtain ⟨n, hn⟩ : ∃ n, F = n + 1 := ⟨F - 1, by omega⟩
  have z1 : p.2.1 0 (2 * m + 1) 4 + cl 0 = p.2.1 0 (2 * m + 1) 4 := by
    rw [cl_of (p.2.1 0 (2 * m + 1) 4), cladd]
    congr 1
    omega
  obtain ⟨p1, -, -, -, -, -, k1, -, k2, -, k3, -⟩ := lay_1 hm H
  obtain ⟨j1, j2⟩ := sell_z (m := m) (pr := 0) H.2.2.2.2.2.1.1
  obtain ⟨p3, -, -, -, -, -, k5, -, k6, -, k7, -⟩ := lay_3 hm H
  obtain ⟨p4, -, -, -, -, -, k9, -, ka, -, kb, -⟩ := lay_4 hm H
  rw [k3 rfl] at k1
  rw [k7 rfl] at k5
  rw [kb rfl] at k9
  obtain ⟨-, -, -, -, a2, a3, -⟩ := lay_56 (v3 := cn 1) (lay := 5) hm H hM hW (Or.inr ⟨rfl, rfl⟩)
  have Ha := a2 rfl
  obtain ⟨-, -, -, -, b2, b3, -⟩ := lay_56 (v3 := cn 0) (lay := 6) hm Ha (mer_cv hM Ha) hW (Or.inl ⟨rfl, rfl⟩)
  have Hb := b2 rfl
  obtain ⟨-, -, -, -, -, -, c2, c3, -⟩ := lay_7 (A := fun k => q.1 13 38 k) hm Hb (mer_cv hM Hb) hW h9 (fun k hk => by
    obtain ⟨z, z0, z1, z2, z3⟩ := (H.2.2.1 k hk).1
    refine ⟨z, z0, z1, ?_, fun _ => z3⟩
    rw [Hb.1.2.1 (k + 1) 6 (by omega), hS k hk, z2])
  have Hc := c2 rfl
  obtain ⟨-, -, -, d1, d2, d3⟩ := lay_8 hm Hc
  obtain ⟨e1, e2⟩ := c170 (F := F) hF2 rfl d2
  have e3 := e2 a3 b3 c3 d3
  rw [d1 rfl] at e1
  have n4 : ¬ cn 4 < cn 4 := by decide
  constructor
  · rw [hn, ev2_cover_63, hF]
    unfold bv2_cover_63
    simp only [if_neg n4, k1, j1, z1, pJ_id, k5, k9, e1]
    exact Hc
  · rw [hn, eg2_cover_63, hF]
    unfold bg2_cover_63
    simp only [if_neg n4, k1, j1, z1, pJ_id, k5, k9]
    exact ⟨by omega, by omega, k2, by omega, by omega, j2, by omega, by omega, by omega, k6, by omega, ka, e3⟩
/-- a loss -/
theorem cover_n {F : Nat} {pr : Int} (hF : FU = F) (hF2 : 10 < F) (hm : m < 4) (H : CV p q B m p q l 0) (hS : ∀ k, k < 4 → p.1 9 (k + 1) 6 = p.1 9 (k + 1) 2) (hM : MeR p q) (hW : WnR q w best) (h9 : q.1 15 9 m = cn 1) (hp : p.1 1 2 3 = cn pr) (hq : q.1 13 10 1 = cn pr) (p1 : 1 ≤ pr) (p2 : pr ≤ 9999) : ∃ e', e' ≤ 9999 ∧ CV p q (B + 1000040000 + l) m (v2_cover_63 F p w (m + 1) (2 * m + 1) (cn 4)) (v12_coversAll q (cn m) best) 0 e' ∧ g2_cover_63 F p w (m + 1) (2 * m + 1) (cn 4) ∧ g12_coversAll q (cn m) best ∧ ToQ (v12_coversAll q (cn m) best) = ToQ q ∧ CH q (v12_coversAll q (cn m) best) m 9999 := by
  obtain ⟨n, hn⟩ : ∃ n, F = n + 1 := ⟨F - 1, by omega⟩
  have l0 := H.2.2.2.2.2.2.1
  have i4 := cninb (i := m) (n := 4) hm (by omega)
  have i9 := cninb (i := 2 * m) (n := 9) (by omega) (by omega)
  have gc : ∀ (Q : PM) (v1 : Int32) (v2 : Int64), g12_covers Q v1 v2 (cn m) := fun Q v1 v2 => g_cov (by rw [two_m]; exact i9)
  obtain ⟨pA, qA, gA, hgA, HA, TA, A1, A2, A3, A4, -, A5⟩ := lay_1 hm H
  obtain ⟨pB, N, u, lB, eB, hlB, ⟨hN, n0, n1⟩, hu, K0, K1, ⟨v0, v1⟩, HB, B1, B2, -, B5⟩ := lay_2 (pr := pr) hm HA (by rw [HA.1.1 1 (by decide) (by decide)]; exact hp) (by rw [HA.2.1.1 10 (by omega)]; exact hq) p1 p2
  obtain ⟨pC, qC, gC', hgC, HC, TC, C1, C2, C3, C4, -, C5⟩ := lay_3 hm HB
  obtain ⟨pD, qD, gD, hgD, HD, TD, D1, D2, D3, D4, -, D5⟩ := lay_4 hm HC
  have hWc : ∀ {p' q' : PM} {B' l' e' : Int}, CV p q B' m p' q' l' e' → WnR q' w best := by
    intro p' q' B' l' e' h
    have e := h.2.1.2.1
    unfold WnR
    rw [e]
    exact hW
  obtain ⟨lE, hlE, HE, TE, -, E1, E2⟩ := lay_56 (v3 := cn 1) (lay := 5) hm HD (mer_cv hM HD) (hWc HD) (Or.inr ⟨rfl, rfl⟩)
  obtain ⟨lG, hlG, HG, TG, -, G1, G2⟩ := lay_56 (v3 := cn 0) (lay := 6) hm HE (mer_cv hM HE) (hWc HE) (Or.inl ⟨rfl, rfl⟩)
  obtain ⟨Q, lH, hlH, HH, TH, H1, -, H2, H3, HC7⟩ := lay_7 (A := fun k => qD.1 13 38 k) hm HG (mer_cv hM HG) (hWc HG) (by rw [HG.2.1.2.1]; exact h9) (fun k hk => by
    obtain ⟨z, z0, z1, z2, z3⟩ := (HD.2.2.1 k hk).1
    obtain ⟨y, y0, y1, y2, y3⟩ := (H.2.2.1 k hk).1
    refine ⟨y, y0, y1, ?_, fun hk2 => ?_⟩
    · rw [HG.1.2.1 (k + 1) 6 (by omega), hS k hk, y2]
    · rw [z3, ← z2, D5 k hk2, C5 k hk2, B5 k hk2, A5 k hk2, y2])
  obtain ⟨I1, TI, I2, -, I4, I5⟩ := lay_8 hm HH
  obtain ⟨e1, e2⟩ := c170 (F := F) hF2 rfl I4
  have e3 := e2 E1 G1 H2 I5
  have n4 : ¬ cn 4 < cn 4 := by decide
  have hQ : v12_coversAll_159 qC (cn m) best = v12_covers (pJ Q 14 1 8 (Q.2.1 14 1 8 - Q.2.1 12 1 69)) (cn 8) (Q.2.1 12 1 69) (cn m) ∧ g12_coversAll_159 qC (cn m) best := by
    unfold v12_coversAll_159 bv12_coversAll_159 g12_coversAll_159 bg12_coversAll_159
    simp only [D2, H1]
    exact ⟨trivial, D4, gc _ _ _, E2, G2, H3⟩
  have hl1 := HA.2.2.2.2.2.1.2.1
  have hr1 : qA.1 13 10 1 = cn pr := by rw [HA.2.1.1 10 (by omega)]; exact hq
  have nz : ¬ cl pr = 0 := by
    rw [zcl, cleq ⟨by omega, by omega⟩ (by decide)]
    omega
  have hK : (cl (l - gA) + cl pr - cl 1) / cl pr = cl ((l - gA + pr - 1) / pr) := by
    rw [cladd, clsub, cldiv ⟨by omega, by omega⟩ (by omega) (by omega), Int.tdiv_eq_ediv_of_nonneg (by omega)]
  generalize hKK : (l - gA + pr - 1) / pr = K at hu K0 K1 hK
  have hr2 : ∀ v : Int32, (pI qA 13 37 m v).1 13 10 1 = cn pr := fun v => by
    rw [pI_1, u3_i (by decide)]
    exact hr1
  have hr3 : ∀ (v : Int32) (x : Int64), (pJ (pI qA 13 37 m v) 14 1 8 x).1 13 10 1 = cn pr := fun v x => hr2 v
  obtain ⟨y1, -⟩ := cov_e (q := pJ (pI qA 13 37 m (cn (N - u))) 14 1 8 (qA.2.1 14 1 8 - cl (u * pr))) (lay := cn 2) (g := u * pr) (m := m) (l := l - gA) hm hl1 (by omega) (by omega) v0 (by omega)
  have cNK : (cl N < cl K) = (N < K) := cllt ⟨by omega, by omega⟩ ⟨by omega, by omega⟩
  have hAll : v12_coversAll q (cn m) best = v12_coversAll_159 qC (cn m) best ∧ g12_coversAll q (cn m) best := by
    have hN' : qA.1 13 37 m = cn N := hN
    by_cases hc : N < K
    · have hu' : u = N := by rw [hu, if_pos hc]
      rw [hu'] at y1 C2 C4
      unfold v12_coversAll bv12_coversAll g12_coversAll bg12_coversAll
      simp only [cntk (i := m) (by omega), A2, hl1, hr1, hr2, hr3, hK, hN', lg_gt0, cn64 (a := N) ⟨by omega, by omega⟩, cn64 (a := pr) ⟨by omega, by omega⟩, cNK, if_pos hc, cl32, cnsub, clmul, pI_J, y1, C2]
      exact ⟨trivial, i4, A4, i4, i4, gc _ _ _, nz, i4, i4, i4, i4, gc _ _ _, i4, C4, i4, i4, gc _ _ _, hQ.2⟩
    · have hu' : u = K := by rw [hu, if_neg hc]
      rw [hu'] at y1 C2 C4
      unfold v12_coversAll bv12_coversAll g12_coversAll bg12_coversAll
      simp only [cntk (i := m) (by omega), A2, hl1, hr1, hr2, hr3, hK, hN', lg_gt0, cn64 (a := N) ⟨by omega, by omega⟩, cn64 (a := pr) ⟨by omega, by omega⟩, cNK, if_neg hc, cl32, cnsub, clmul, pI_J, y1, C2]
      exact ⟨trivial, i4, A4, i4, i4, gc _ _ _, nz, i4, i4, i4, gc _ _ _, i4, C4, i4, i4, gc _ _ _, hQ.2⟩
  have TB : ToQ (cvQ (pJ (pI qA 13 37 m (cn (N - u))) 14 1 8 (qA.2.1 14 1 8 - cl (u * pr))) m (cn 2) (l - gA) (u * pr)) = ToQ qA := by
    have e9 : ToQ (pI qA 13 37 m (cn (N - u))) = ToQ qA := by
      refine tt_c rfl ?_ ?_ ?_
      · funext k
        rw [pI_1, u3_i (by decide)]
      · funext k
        rw [pI_1, u3_i (by decide)]
      · rw [pI_1, u3_k (by decide)]
    rw [← e9]
    exact tt_l8 (q := pI qA 13 37 m (cn (N - u))) hm (by decide) (u * pr)
  have b2m : (cn 2 * cn (m : Int)).toNatClampNeg = 2 * m := by
    rw [two_m, cntk (i := 2 * m) (by omega)]
  have hCH : CH q (v12_covers (pJ Q 14 1 8 (Q.2.1 14 1 8 - Q.2.1 12 1 69)) (cn 8) (Q.2.1 12 1 69) (cn m)) m 9999 := fun a ha h => by
    have x1 : qA.2.1 14 1 a = q.2.1 14 1 a := by
      rw [← A2]
      exact ce_v12_covers _ _ _ b2m (ce_pI (ce_refl q)) a h
    have x2 : qC.2.1 14 1 a = qA.2.1 14 1 a := by
      rw [← C2, ce_v12_covers (q := pJ (pI qA 13 37 m (cn (N - u))) 14 1 8 (qA.2.1 14 1 8 - cl (u * pr))) _ _ _ b2m (ce_pI (fun a h => cvQ_J h)) a h, pJ_J, u3_s (by omega), pI_J]
    have x3 : qD.2.1 14 1 a = qC.2.1 14 1 a := by
      rw [← D2]
      exact ce_v12_covers _ _ _ b2m (ce_pI (ce_refl qC)) a h
    have x4 : (v12_coversByFunds (v12_coversByFunds qD (cn m) best (cn 1)) (cn m) best (cn 0)).2.1 14 1 a = qD.2.1 14 1 a := ce_v12_coversByFunds _ _ _ b2m (ce_v12_coversByFunds _ _ _ b2m (ce_refl qD)) a h
    have x5 := HC7 a ha h
    have x6 : (v12_covers (pJ Q 14 1 8 (Q.2.1 14 1 8 - Q.2.1 12 1 69)) (cn 8) (Q.2.1 12 1 69) (cn m)).2.1 14 1 a = Q.2.1 14 1 a := by
      rw [ce_v12_covers _ _ _ b2m (ce_refl _) a h, pJ_J, u3_s (by omega)]
    rw [x4, x3, x2, x1] at x5
    rw [x6]
    exact x5
  refine ⟨eB, hlB.2.2, ?_, ?_, hAll.2, ?_, by rw [hAll.1, hQ.1]; exact hCH⟩
  · rw [hAll.1, hQ.1, hn, ev2_cover_63, hF]
    unfold bv2_cover_63
    simp only [if_neg n4, A1, B1, C1, D1, e1]
    exact cv_up I1 (by omega)
  · rw [hn, eg2_cover_63, hF]
    unfold bg2_cover_63
    simp only [if_neg n4, A1, B1, C1, D1]
    exact ⟨by omega, by omega, A3, by omega, by omega, B2, by omega, by omega, by omega, C3, by omega, D3, e3⟩
  · rw [hAll.1, hQ.1, TI, TH, TG, TE, TD, TC, TB, TA]
end Cover2
