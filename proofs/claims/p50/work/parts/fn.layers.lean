/-! the layers, one after another -/
section Layers
variable {p0 q0 p q : PM} {B l e : Int} {m : Nat} {w best : Int32} {g : Nat → Int}
theorem mer_cv (hM : MeR p0 q0) (H : CV p0 q0 B m p q l e) : MeR p q := by
  obtain ⟨⟨-, a2, -, -⟩, ⟨b1', b2', -⟩, -⟩ := H
  intro k hk
  rw [a2 (k + 1) 3 (by omega), a2 (k + 1) 4 (by omega), a2 (k + 1) 5 (by omega), b2', b1' 39 (by omega)]
  exact hM k hk
theorem gQ_pJ {k i s : Nat} {v : Int64} (h : ¬ (k = 14 ∧ i = 3)) : gQ (pJ q k i s v) g = pJ (gQ q g) k i s v := by
  refine Prod.ext rfl (Prod.ext ?_ rfl)
  funext K I S
  show (if K = 14 ∧ I = 3 ∧ S < 4 then cl (g S) else u3 q.2.1 k i s v K I S) = u3 (gQ q g).2.1 k i s v K I S
  by_cases h2 : K = 14 ∧ I = 3 ∧ S < 4
  · rw [if_pos h2, u3_ne (fun h3 => h ⟨h3.1.symm.trans h2.1, h3.2.1.symm.trans h2.2.1⟩)]
    exact (if_pos h2).symm
  · rw [if_neg h2]
    unfold u3
    by_cases h3 : K = k ∧ I = i ∧ S = s
    · rw [if_pos h3, if_pos h3]
    · rw [if_neg h3, if_neg h3]
      exact (if_neg h2).symm
theorem gQ_J {k i s : Nat} (h : ¬ (k = 14 ∧ i = 3)) : (gQ q g).2.1 k i s = q.2.1 k i s := if_neg (fun h2 => h ⟨h2.1, h2.2.1⟩)
theorem cvQ_gQ {lay : Int32} {x : Int} : cvQ (gQ q g) m lay l x = gQ (cvQ q m lay l x) g := by
  unfold cvQ
  rw [gQ_J (by decide), gQ_pJ (by decide), gQ_pJ (by decide)]
  by_cases h : 0 < x
  · rw [if_pos h, if_pos h]
    rfl
  · rw [if_neg h, if_neg h]
theorem s4_z (h : s4 g = 0) (h0 : ∀ k, 0 ≤ g k) : ∀ k, k < 4 → g k = 0 := by
  intro k hk
  have a0 := h0 0
  have a1 := h0 1
  have a2 := h0 2
  have a3 := h0 3
  unfold s4 at h
  have e : k = 0 ∨ k = 1 ∨ k = 2 ∨ k = 3 := by omega
  rcases e with rfl | rfl | rfl | rfl
  · omega
  · omega
  · omega
  · omega
/-- a share of a layer is given: the class before the funds, the reference before all -/
theorem sh_cv {lay : Int} {P1 Q1 : PM} {P : Nat → Int} (hm : m < 4) (H : CV p0 q0 B m p q l e) (hP1 : PtC p P1) (hQ1 : PtQ q Q1) (hPc : ∀ k, k < 4 → P1.2.1 9 (k + 1) 7 = cl (P k)) (hPq : ∀ k, k < 4 → Q1.2.1 14 2 k = cl (P k)) (hb : ∀ k, 0 ≤ P k ∧ P k ≤ 9999) : ∃ (x : Int) (g : Nat → Int), (0 ≤ x ∧ x ≤ l ∧ s4 g = x) ∧ (v2_shareLoss P1 (cn lay) = gC (gvC P1 (cn lay) l x) g ∧ g2_shareLoss P1 (cn lay)) ∧ (v12_shares Q1 (Q1.2.1 12 1 69) = (cl x, gQ Q1 g) ∧ g12_shares Q1 (Q1.2.1 12 1 69)) ∧ (∀ k, 0 ≤ g k ∧ g k ≤ P k) ∧ CV p0 q0 B m (gC (gvC P1 (cn lay) l x) g) (cvQ (gQ Q1 g) m (cn lay) l x) (l - x) e ∧ (gQ Q1 g).2.1 12 1 69 = cl l ∧ (∀ k, k < 4 → (gC (gvC P1 (cn lay) l x) g).2.1 9 (k + 1) 8 = cl (g k) ∧ (gQ Q1 g).2.1 14 3 k = cl (g k)) ∧ (l = 0 → (∀ k, k < 4 → g k = 0) ∧ CV p0 q0 B m (gC (gvC P1 (cn lay) l x) g) q l e) := by
  obtain ⟨p1, p2, p3⟩ := hP1
  obtain ⟨q1, q2, q3⟩ := hQ1
  have H1 : CV p0 q0 B m P1 Q1 l e := cv_pm H p1 p2 (fun K i S h => p3 K i S (by omega)) q1 (fun K i S h => q3 K i S (by omega))
  have l0 := H1.2.2.2.2.2.2.1
  have hl := H1.2.2.2.2.2.1.1
  have hl2 := H1.2.2.2.2.2.1.2.1
  obtain ⟨x, g, hx, hc, hq, hg, hs⟩ := shares_eq (lay := cn lay) hl l0.1 (by omega) hPc hPq hb
  have b0 := hb 0
  have b1 := hb 1
  have b2 := hb 2
  have b3 := hb 3
  have sP : 0 ≤ s4 P := by
    unfold s4
    omega
  have hx0 : 0 ≤ x ∧ x ≤ l := by
    rw [hx]
    split <;> omega
  refine ⟨x, g, ⟨hx0.1, hx0.2, hs⟩, hc, ?_, hg, ?_, ?_, fun k hk => ⟨?_, ?_⟩, fun hz => ?_⟩
  · rw [hl2]
    exact hq
  · rw [cvQ_gQ]
    exact cv_pm (cv_give (lay := cn lay) hm H1 hx0.1 hx0.2) rfl rfl (fun K i S h => if_neg (by omega)) rfl (fun K i S h => if_neg (by omega))
  · rw [gQ_J (by decide)]
    exact hl2
  · exact if_pos ⟨rfl, rfl, by omega, by omega⟩
  · exact if_pos ⟨rfl, rfl, hk⟩
  · have x0 : x = 0 := by omega
    refine ⟨s4_z (by omega) (fun k => (hg k).1), ?_⟩
    have e1 : gvC P1 (cn lay) l x = P1 := by
      unfold gvC
      rw [if_neg (by omega)]
    rw [e1]
    exact cv_pm H p1 p2 (fun K i S h => by
      rw [← p3 K i S (by omega)]
      exact if_neg (by omega)) rfl (fun K i S h => rfl)
theorem lay_56 {lay : Int} {v3 : Int32} (hm : m < 4) (H : CV p0 q0 B m p q l e) (hM : MeR p q) (hW : WnR q w best) (hl : (v3 = cn 0 ∧ lay = 6) ∨ (v3 = cn 1 ∧ lay = 5)) : ∃ l', (0 ≤ l' ∧ l' ≤ l) ∧ CV p0 q0 B m (v2_shareLayer p (cn lay) w) (v12_coversByFunds q (cn m) best v3) l' e ∧ ToQ (v12_coversByFunds q (cn m) best v3) = ToQ q ∧ (l = 0 → CV p0 q0 B m (v2_shareLayer p (cn lay) w) q l e) ∧ g2_shareLayer p (cn lay) w ∧ g12_coversByFunds q (cn m) best v3 := by
  obtain ⟨F, hF, hF2⟩ : ∃ F, FU = F ∧ 100 < F := ⟨FU, rfl, by decide⟩
  have z0 : cn ((0 : Nat) : Int) = cn 0 := rfl
  have n7 : ¬ cn lay = cn 7 := by
    rcases hl with ⟨-, rfl⟩ | ⟨-, rfl⟩
    · decide
    · decide
  have hlay : lay = 5 ∨ lay = 6 ∨ lay = 7 := by omega
  have hbest : best < 0 ∨ inb best 4 := by
    rcases hW with ⟨-, rfl, -⟩ | ⟨j, hj, -, rfl, -⟩
    · exact Or.inl (by decide)
    · exact Or.inr (cninb hj (by omega))
  obtain ⟨P, hP⟩ : ∃ P : Nat → Int, ∀ k, P k = if k < 4 ∧ q.1 15 9 k = 0 ∧ jnQ q best k = v3 then (q.1 13 38 k).toInt else 0 := ⟨_, fun k => rfl⟩
  have hfz : ∀ k, k < 4 → ∃ z : Int, 0 ≤ z ∧ z ≤ 9999 ∧ p.1 9 (k + 1) 2 = cn z ∧ q.1 13 38 k = cn z ∧ P k = if q.1 15 9 k = 0 ∧ jnQ q best k = v3 then z else 0 := by
    intro k hk
    obtain ⟨z, z0, z1, z2, z3⟩ := (H.2.2.1 k hk).1
    refine ⟨z, z0, z1, z2, z3, ?_⟩
    rw [hP k, z3, cn_I ⟨by omega, by omega⟩]
    by_cases h : q.1 15 9 k = 0 ∧ jnQ q best k = v3
    · rw [if_pos h, if_pos ⟨hk, h⟩]
    · rw [if_neg h, if_neg (fun h2 => h h2.2)]
  have hb : ∀ k, 0 ≤ P k ∧ P k ≤ 9999 := by
    intro k
    by_cases hk : k < 4
    · obtain ⟨z, z0, z1, z2, z3, z4⟩ := hfz k hk
      rw [z4]
      split <;> omega
    · rw [hP k, if_neg (fun h => hk h.1)]
      omega
  have t10 : ¬ cn 1 = 0 := by decide
  have t00 : cn 0 = 0 := rfl
  have hPc : ∀ k, k < 4 → (if v2_givesIn p (cn lay) (k + 1) w = 0 then cl 0 else (if cn 0 = 0 then p.1 9 (k + 1) 2 else p.1 9 (k + 1) 6).toInt64) = cl (P k) := by
    intro k hk
    obtain ⟨z, z0, z1, z2, z3, z4⟩ := hfz k hk
    rw [(in_e5 hk hM hW hlay).2, z4, if_pos t00, z2, cn64 ⟨by omega, by omega⟩]
    by_cases h9 : q.1 15 9 k = 0
    · rw [if_pos h9]
      rcases hl with ⟨rfl, rfl⟩ | ⟨rfl, rfl⟩
      · rw [if_neg (show ¬ (6 : Int) = 7 by decide), if_neg (show ¬ (6 : Int) = 5 by decide)]
        by_cases hj : jnQ q best k = cn 0
        · rw [if_pos hj, if_neg t10, if_pos ⟨h9, hj⟩]
        · rw [if_neg hj, if_pos t00, if_neg (fun h => hj h.2)]
      · rw [if_neg (show ¬ (5 : Int) = 7 by decide), if_pos (show (5 : Int) = 5 from rfl)]
        by_cases hj : jnQ q best k = cn 1
        · rw [if_pos hj, if_neg t10, if_pos ⟨h9, hj⟩]
        · rw [if_neg hj, if_pos t00, if_neg (fun h => hj h.2)]
    · rw [if_neg h9, if_pos t00, if_neg (fun h => h9 h.1)]
  have hPq : ∀ k, k < 4 → (if q.1 15 9 k = 0 then (if jnQ q best k = v3 then (q.1 13 38 k).toInt64 else cl 0) else cl 0) = cl (P k) := by
    intro k hk
    obtain ⟨z, z0, z1, z2, z3, z4⟩ := hfz k hk
    rw [z4, z3, cn64 ⟨by omega, by omega⟩]
    by_cases h9 : q.1 15 9 k = 0
    · rw [if_pos h9]
      by_cases hj : jnQ q best k = v3
      · rw [if_pos hj, if_pos ⟨h9, hj⟩]
      · rw [if_neg hj, if_neg (fun h => hj h.2)]
    · rw [if_neg h9, if_neg (fun h => h9 h.1)]
  obtain ⟨P1, a1, a2, a3, a4⟩ := parts_c hF (Or.inl rfl) hM hW hlay hPc 4 0 F p rfl (by omega) ⟨rfl, rfl, fun _ _ _ _ => rfl⟩ (fun k hk => absurd hk (by omega))
  obtain ⟨Q1, c1, c2, c3, c4⟩ := parts_q (v1 := cn m) hF hbest hPq 4 0 F q rfl (by omega) ⟨rfl, rfl, fun _ _ _ _ => rfl⟩ (fun k hk => absurd hk (by omega))
  obtain ⟨x, g, hx, s1, s2, s3, s4', s5, s6, s7⟩ := sh_cv (lay := lay) hm H a1 c1 a2 c2 hb
  have hlay2 : (v3 = cn 0 ∧ cn lay = cn 6) ∨ (v3 = cn 1 ∧ cn lay = cn 5) := by
    rcases hl with ⟨rfl, rfl⟩ | ⟨rfl, rfl⟩
    · exact Or.inl ⟨rfl, rfl⟩
    · exact Or.inr ⟨rfl, rfl⟩
  obtain ⟨k1, k2, k3, k4⟩ := fund_loop hm hlay2 hx.1 hx.2.1 H.2.2.2.2.2.2.1.2 4 0 F _ (gQ Q1 g) rfl (by omega) s4' s5 s6 (fun k _ hk => ⟨(s3 k).1, fun z z0 z1 z2 => by
    obtain ⟨y, y0, y1, y2, y3, y4⟩ := hfz k hk
    have h : q.1 13 38 k = cn z := by
      rw [← c1.1]
      exact z2
    rw [y3, cneq ⟨by omega, by omega⟩ ⟨by omega, by omega⟩] at h
    have h2 := (s3 k).2
    rw [y4] at h2
    split at h2 <;> omega⟩)
  rw [z0] at a3 a4 c3 c4 k1 k2 k3 k4
  rw [s1.1] at a3 a4
  rw [s2.1] at c3 c4
  have e1 : v2_shareLayer p (cn lay) w = v2_shareLayer_96 F (gC (gvC P1 (cn lay) l x) g) (cn 0) (cn 0) := by
    unfold v2_shareLayer bv2_shareLayer
    rw [if_neg n7, hF]
    exact a3
  have e2 : v12_coversByFunds q (cn m) best v3 = v12_coversByFunds_103 F (gQ Q1 g) (cn m) v3 (cl x) (cn 0) := by
    unfold v12_coversByFunds bv12_coversByFunds
    rw [hF]
    exact c3
  rw [e1, e2]
  refine ⟨l - x, ⟨by omega, by omega⟩, k1, ?_, fun hz => ?_, ?_, ?_⟩
  · rw [k4, sg_4, hx.2.2]
    have e9 : ToQ (gQ Q1 g) = ToQ q := tt_c (by
      funext k
      rw [gQ_o (by omega)]
      exact c1.2.2 14 1 k (by omega)) (by show Q1.1 13 36 = _; rw [c1.1]) (by show Q1.1 13 38 = _; rw [c1.1]) (by show Q1.1 12 1 58 = _; rw [c1.1])
    rw [e9]
    exact tt_0 _ (by omega)
  · obtain ⟨y1, y2⟩ := s7 hz
    have h := (loop96_z (v3 := cn 0) 4 0 F (gC (gvC P1 (cn lay) l x) g) rfl (by omega) (fun k hk => by rw [(s6 k hk).1, y1 k hk])).1
    rw [z0] at h
    rw [h]
    exact y2
  · unfold g2_shareLayer bg2_shareLayer
    rw [if_neg n7, hF]
    exact a4 s1.2 k2
  · unfold g12_coversByFunds bg12_coversByFunds
    rw [hF]
    exact c4 s2.2 k3
/-- parts of the assessment, in the reference -/
theorem parts_7 {v1 : Int32} {F : Nat} {A : Nat → Int32} {P : Nat → Int} (hF : FU = F) (hP : ∀ k, k < 4 → (if q.1 15 9 k = 0 then (A k).toInt64 else cl 0) = cl (P k)) : ∀ (d i n : Nat) (q' : PM), i + d = 4 → d < n → PtQ q q' → (∀ k, k < i → q'.2.1 14 2 k = cl (P k)) → (∀ k, i ≤ k → k < 4 → q'.2.1 14 2 k = (A k).toInt64) → ∃ Q1 : PM, PtQ q Q1 ∧ (∀ k, k < 4 → Q1.2.1 14 2 k = cl (P k)) ∧ v12_coversAll_272 n q' v1 (cn i) = v12_coversAll_325 F (v12_shares Q1 (Q1.2.1 12 1 69)).2 v1 (v12_shares Q1 (Q1.2.1 12 1 69)).1 (cn 0) ∧ (g12_shares Q1 (Q1.2.1 12 1 69) → g12_coversAll_325 F (v12_shares Q1 (Q1.2.1 12 1 69)).2 v1 (v12_shares Q1 (Q1.2.1 12 1 69)).1 (cn 0) → g12_coversAll_272 n q' v1 (cn i)) := by
  intro d
  induction d with
  | zero =>
    intro i n q' h1 h2 hf hp hr
    obtain ⟨n1, rfl⟩ : ∃ z9, n = z9 + 1 := ⟨n - 1, by omega⟩
    have e : i = 4 := by omega
    subst e
    have hn := lpf (i := 4) (N := 4) (by omega) (by omega) (by omega)
    refine ⟨q', hf, hp, ?_, fun h3 h4 => ?_⟩
    · rw [ev12_coversAll_272, hF]
      unfold bv12_coversAll_272
      rw [if_neg hn]
    · rw [eg12_coversAll_272, hF]
      unfold bg12_coversAll_272
      rw [if_neg hn]
      exact ⟨h3, h4⟩
  | succ d ih =>
    intro i n q' h1 h2 hf hp hr
    obtain ⟨n1, rfl⟩ : ∃ z9, n = z9 + 1 := ⟨n - 1, by omega⟩
    obtain ⟨f1, f2, f3⟩ := hf
    have l4 : cn (i : Int) < cn 4 := lpt (by omega) (by omega)
    have hi := cninb (i := i) (n := 4) (by omega) (by omega)
    have hPi := hP i (by omega)
    have hri := hr i (by omega) (by omega)
    have hv := fun v (hvv : v = cl (P i)) => ih (i + 1) n1 (pJ q' 14 2 i v) (by omega) (by omega) ⟨f1, f2, fun K j S h => by
      rw [pJ_J, u3_ne (fun h2 => h ⟨h2.1, h2.2.1⟩)]
      exact f3 K j S h⟩ (fun k hk => by
      by_cases ek : k = i
      · rw [ek, pJ_J, u3_same, hvv]
      · rw [pJ_J, u3_s ek]
        exact hp k (by omega)) (fun k h3 h4 => by
      rw [pJ_J, u3_s (by omega)]
      exact hr k (by omega) h4)
    rw [ev12_coversAll_272, eg12_coversAll_272]
    unfold bv12_coversAll_272 bg12_coversAll_272
    by_cases h9 : q.1 15 9 i = 0
    · rw [if_pos h9, ← hri] at hPi
      obtain ⟨Q1, k1, k2, k3, k4⟩ := hv _ hPi
      refine ⟨Q1, k1, k2, ?_, fun h3 h4 => ?_⟩
      · simp only [if_pos l4, cntk (i := i) (by omega), f1, if_pos h9, cnsucc]
        exact k3
      · simp only [if_pos l4, cntk (i := i) (by omega), f1, if_pos h9, cnsucc]
        exact ⟨hi, hi, hi, k4 h3 h4⟩
    · rw [if_neg h9] at hPi
      obtain ⟨Q1, k1, k2, k3, k4⟩ := hv _ hPi
      refine ⟨Q1, k1, k2, ?_, fun h3 h4 => ?_⟩
      · simp only [if_pos l4, cntk (i := i) (by omega), f1, if_neg h9, cnsucc]
        exact k3
      · simp only [if_pos l4, cntk (i := i) (by omega), f1, if_neg h9, cnsucc]
        exact ⟨hi, hi, k4 h3 h4⟩
/-- the house gives what is left -/
noncomputable def hoC (p : PM) (l : Int) : PM := pJ (gvC p (cn 8) l l) 0 9 4 (p.2.1 0 9 4 - cl l)
theorem lay_8 (hm : m < 4) (H : CV p0 q0 B m p q l e) : CV p0 q0 (B + l) m (hoC p l) (v12_covers (pJ q 14 1 8 (q.2.1 14 1 8 - q.2.1 12 1 69)) (cn 8) (q.2.1 12 1 69) (cn m)) 0 e ∧ ToQ (v12_covers (pJ q 14 1 8 (q.2.1 14 1 8 - q.2.1 12 1 69)) (cn 8) (q.2.1 12 1 69) (cn m)) = ToQ q ∧ g12_covers (pJ q 14 1 8 (q.2.1 14 1 8 - q.2.1 12 1 69)) (cn 8) (q.2.1 12 1 69) (cn m) ∧ (l = 0 → hoC p l = p) ∧ v2_give p (cn 8) (p.2.1 2 1 7) = (cl l, gvC p (cn 8) l l) ∧ g2_give p (cn 8) (p.2.1 2 1 7) := by
  have l0 := H.2.2.2.2.2.2.1
  have hl := H.2.2.2.2.2.1.1
  have hl2 := H.2.2.2.2.2.1.2.1
  obtain ⟨k1, k2⟩ := give_e (lay := cn 8) (m := l) hl l0.1 (by omega) l0.1 (by omega) (by rw [if_neg (by omega)])
  obtain ⟨c1, c2⟩ := cov_e (q := pJ q 14 1 8 (q.2.1 14 1 8 - cl l)) (lay := cn 8) (g := l) hm (by rw [pJ_J, u3_k (by decide)]; exact hl2) l0.1 l0.2 l0.1 l0.2
  rw [hl, hl2, c1]
  refine ⟨?_, tt_l8 hm (by decide) l, c2, fun hz => ?_, k1, k2⟩
  · have h := cv_cash (z := l) (a := 8) ⟨by omega, by omega⟩ (by decide) (by omega) (cv_give (lay := cn 8) hm H l0.1 (by omega))
    rw [cvQ_pJ (by omega)]
    rw [cvQ_J (by omega), gvC_J (by omega), show l - l = 0 by omega] at h
    exact cv_up h (by omega)
  · unfold hoC gvC
    rw [if_neg (by omega), hz, pJ_0]
end Layers
