/-! risk, worth, value and call, on both sides -/
/-- what they look at -/
def MgR (p q : PM) : Prop := (∀ a, a < 9 → AcR p q a) ∧ (∀ s c, s < 4 → c < 4 → p.1 13 (20 + s) c = q.1 13 35 (4 * s + c)) ∧ (∀ b, b < 6 → ∃ z : Int, -9999 ≤ z ∧ z ≤ 9999 ∧ p.1 1 (b + 1) 3 = cn z ∧ q.1 13 10 b = cn z) ∧ ∃ z : Int, 0 ≤ z ∧ z ≤ 100 ∧ p.1 2 1 4 = cn z ∧ q.1 12 1 50 = cn z
theorem mg_ww {p q : PM} {lg : Nat → Int32} {x y N T D l : Nat} {w : Nat → Prop} {f : Nat → Int} (H : WW p q lg x y w N T D l f) : MgR p q := by
  obtain ⟨-, hA, hB, -, -, hT, -, -⟩ := H
  refine ⟨hA.1, fun s c hs hc => ?_, fun b hb => ?_, hT.2.2.1⟩
  · obtain ⟨z, -, -, z3, z4⟩ := hT.2.1 s c hs hc
    rw [z3, z4]
  · obtain ⟨z, z1, z2, z3⟩ := (hB b hb).1
    exact ⟨z, z1.1, z1.2.1, z2, z3⟩
section Risk
variable {p q : PM} {m : Nat}
theorem net_rng {c : Nat} (hm : m < 4) (hc : c < 4) : ∃ Z : Int, -4294967296 ≤ Z ∧ Z ≤ 4294967296 ∧ v12_net q (cn m) (cn c) = cl Z := by
  rw [(net_q (q := q) hm hc).2, cn_of (q.1 13 1 (8 * m + c)), cn_of (q.1 13 1 (8 * m + 4 + c)), cn64 (I_rg _), cn64 (I_rg _), cladd]
  have h1 := I_rg (q.1 13 1 (8 * m + c))
  have h2 := I_rg (q.1 13 1 (8 * m + 4 + c))
  have h3 := h1.1
  have h4 := h1.2
  have h5 := h2.1
  have h6 := h2.2
  exact ⟨_, by omega, by omega, rfl⟩
theorem labs_cl (p : PM) {Z : Int} (h : rl Z) : v14_abs_067f4 p (cl Z) = cl (if Z < 0 then -Z else Z) := by
  unfold v14_abs_067f4 bv14_abs_067f4
  simp only [lg_gt0, cllt h (show rl 0 by decide)]
  by_cases hz : Z < 0
  · rw [if_pos hz, if_pos hz, clneg]
  · rw [if_neg hz, if_neg hz]
theorem risk_in {kv : Int32 → Int32 → Int64 → Int32 → Int64} {kv' : Int32 → Int64 → Int32 → Int64} {kg : Int32 → Int32 → Int64 → Int32 → Prop} {kg' : Int32 → Int64 → Int32 → Prop} {U : Int32} {w : Int64} {s : Nat} (H : MgR p q) (hm : m < 4) (hs : s < 4) (hk : ∀ w', (kg (cn m) U w' (cn ((s + 1 : Nat) : Int)) ∧ kg' (cn m) w' (cn ((s + 1 : Nat) : Int))) ∧ kv (cn m) U w' (cn ((s + 1 : Nat) : Int)) = kv' (cn m) w' (cn ((s + 1 : Nat) : Int))) : ∀ (d c n n' : Nat) (g : Int64), c + d = 4 → d < n → d < n' → (g2_riskOf_27 p kg n (cn m) U w (cn s) g (cn c) ∧ g12_risk_37 q kg' n' (cn m) w (cn s) (-g) (cn c)) ∧ v2_riskOf_27 p kv n (cn m) U w (cn s) g (cn c) = v12_risk_37 q kv' n' (cn m) w (cn s) (-g) (cn c) := by
  obtain ⟨hA, hM, -, -⟩ := H
  intro d
  induction d with
  | zero =>
    intro c n n' g h1 h2 h3
    obtain ⟨n1, rfl⟩ : ∃ m, n = m + 1 := ⟨n - 1, by omega⟩
    obtain ⟨n2, rfl⟩ : ∃ m, n' = m + 1 := ⟨n' - 1, by omega⟩
    have e : c = 4 := by omega
    subst e
    have hn := lpf (i := 4) (N := 4) (by omega) (by omega) (by omega)
    rw [ev2_riskOf_27, eg2_riskOf_27, ev12_risk_37, eg12_risk_37]
    unfold bv2_riskOf_27 bg2_riskOf_27 bv12_risk_37 bg12_risk_37
    simp only [if_neg hn, lmax_e, lg_lt0, cnsucc]
    by_cases h : w < -g
    · simp only [if_pos h]
      exact ⟨⟨⟨g_lmax _ _ _, (hk (-g)).1.1⟩, (hk (-g)).1.2⟩, (hk (-g)).2⟩
    · simp only [if_neg h]
      exact ⟨⟨⟨g_lmax _ _ _, (hk w).1.1⟩, (hk w).1.2⟩, (hk w).2⟩
  | succ d ih =>
    intro c n n' g h1 h2 h3
    obtain ⟨n1, rfl⟩ : ∃ m, n = m + 1 := ⟨n - 1, by omega⟩
    obtain ⟨n2, rfl⟩ : ∃ m, n' = m + 1 := ⟨n' - 1, by omega⟩
    have l4 : cn (c : Int) < cn 4 := lpt (by omega) (by omega)
    have en := net_eq hA hm (c := c) (by omega)
    have gq := (net_q (q := q) hm (c := c) (by omega)).1
    have gp := (net_p (p := p) hm (c := c) (by omega)).1
    have mv := move_r (p := p) hs (c := c) (by omega)
    have i16 := cninb (i := 4 * s + c) (n := 16) (by omega) (by omega)
    have hM' := hM s c hs (by omega)
    have eg : -g - v12_net q (cn m) (cn c) * (q.1 13 35 (4 * s + c)).toInt64 = -(g + v12_net q (cn m) (cn c) * (q.1 13 35 (4 * s + c)).toInt64) := (i64_na _ _).symm
    rw [ev2_riskOf_27, eg2_riskOf_27, ev12_risk_37, eg12_risk_37]
    unfold bv2_riskOf_27 bg2_riskOf_27 bv12_risk_37 bg12_risk_37
    simp only [if_pos l4, en, mv.2, hM', idx4, cntk (i := 4 * s + c) (by omega), cnsucc, eg]
    obtain ⟨⟨k1, k2⟩, k3⟩ := ih (c + 1) n1 n2 (g + v12_net q (cn m) (cn c) * (q.1 13 35 (4 * s + c)).toInt64) (by omega) (by omega) (by omega)
    exact ⟨⟨⟨gp, mv.1, k1⟩, gq, i16, k2⟩, k3⟩
theorem risk_tl (H : MgR p q) (hm : m < 4) : ∀ (d c n n' : Nat) (w : Int64), c + d = 4 → d < n → d < n' → (g2_riskOf_78 p n (cn m) w (cn c) ∧ g12_risk_98 q n' (cn m) w (cn c)) ∧ v2_riskOf_78 p n (cn m) w (cn c) = v12_risk_98 q n' (cn m) w (cn c) := by
  obtain ⟨hA, hM, -, -⟩ := H
  intro d
  induction d with
  | zero =>
    intro c n n' w h1 h2 h3
    obtain ⟨n1, rfl⟩ : ∃ m, n = m + 1 := ⟨n - 1, by omega⟩
    obtain ⟨n2, rfl⟩ : ∃ m, n' = m + 1 := ⟨n' - 1, by omega⟩
    have e : c = 4 := by omega
    subst e
    have hn := lpf (i := 4) (N := 4) (by omega) (by omega) (by omega)
    rw [ev2_riskOf_78, eg2_riskOf_78, ev12_risk_98, eg12_risk_98]
    unfold bv2_riskOf_78 bg2_riskOf_78 bv12_risk_98 bg12_risk_98
    rw [if_neg hn, if_neg hn, if_neg hn, if_neg hn]
    exact ⟨⟨trivial, trivial⟩, rfl⟩
  | succ d ih =>
    intro c n n' w h1 h2 h3
    obtain ⟨n1, rfl⟩ : ∃ m, n = m + 1 := ⟨n - 1, by omega⟩
    obtain ⟨n2, rfl⟩ : ∃ m, n' = m + 1 := ⟨n' - 1, by omega⟩
    have l4 : cn (c : Int) < cn 4 := lpt (by omega) (by omega)
    have en := net_eq hA hm (c := c) (by omega)
    have gq := (net_q (q := q) hm (c := c) (by omega)).1
    have gp := (net_p (p := p) hm (c := c) (by omega)).1
    obtain ⟨Z, z1, z2, z3⟩ := net_rng (q := q) hm (c := c) (by omega)
    rw [ev2_riskOf_78, eg2_riskOf_78, ev12_risk_98, eg12_risk_98]
    unfold bv2_riskOf_78 bg2_riskOf_78 bv12_risk_98 bg12_risk_98
    have ea := labs_cl p (Z := Z) ⟨by omega, by omega⟩
    have c1 : (cl Z < cl 0) = (Z < 0) := cllt ⟨by omega, by omega⟩ (by decide)
    have c2 : (cl 30 < cl Z) = (30 < Z) := cllt (by decide) ⟨by omega, by omega⟩
    have c3 : (cl 30 < cl (-Z)) = (30 < -Z) := cllt (by decide) ⟨by omega, by omega⟩
    have m5 : cl 5 * cl 0 = cl 0 := by rw [clmul]; rfl
    have gq' : g12_net q (cn m) (cn c) := (net_q (q := q) hm (c := c) (by omega)).1
    by_cases hz : Z < 0
    · rw [if_pos hz] at ea
      have c5 := lmax_cl p (a := 0) (b := -Z - 30) (by decide) ⟨by omega, by omega⟩
      by_cases h30 : 30 < -Z
      · rw [if_pos (by omega)] at c5
        obtain ⟨⟨k1, k2⟩, k3⟩ := ih (c + 1) n1 n2 (w + cl 5 * cl (-Z - 30)) (by omega) (by omega) (by omega)
        simp only [if_pos l4, en, z3, ea, lg_gt0, lg_lt0, c1, if_pos hz, clneg, c3, if_pos h30, clsub, c5, cnsucc]
        exact ⟨⟨⟨gp, g_labs _ _, g_lmax _ _ _, k1⟩, gq', gq', k2⟩, k3⟩
      · rw [if_neg (by omega)] at c5
        obtain ⟨⟨k1, k2⟩, k3⟩ := ih (c + 1) n1 n2 (w + cl 0) (by omega) (by omega) (by omega)
        simp only [if_pos l4, en, z3, ea, lg_gt0, lg_lt0, c1, if_pos hz, clneg, c3, if_neg h30, clsub, c5, m5, cnsucc]
        exact ⟨⟨⟨gp, g_labs _ _, g_lmax _ _ _, k1⟩, gq', gq', k2⟩, k3⟩
    · rw [if_neg hz] at ea
      have c5 := lmax_cl p (a := 0) (b := Z - 30) (by decide) ⟨by omega, by omega⟩
      by_cases h30 : 30 < Z
      · rw [if_pos (by omega)] at c5
        obtain ⟨⟨k1, k2⟩, k3⟩ := ih (c + 1) n1 n2 (w + cl 5 * cl (Z - 30)) (by omega) (by omega) (by omega)
        simp only [if_pos l4, en, z3, ea, lg_gt0, lg_lt0, c1, if_neg hz, c2, if_pos h30, clsub, c5, cnsucc]
        exact ⟨⟨⟨gp, g_labs _ _, g_lmax _ _ _, k1⟩, gq', gq', k2⟩, k3⟩
      · rw [if_neg (by omega)] at c5
        obtain ⟨⟨k1, k2⟩, k3⟩ := ih (c + 1) n1 n2 (w + cl 0) (by omega) (by omega) (by omega)
        simp only [if_pos l4, en, z3, ea, lg_gt0, lg_lt0, c1, if_neg hz, c2, if_neg h30, clsub, c5, m5, cnsucc]
        exact ⟨⟨⟨gp, g_labs _ _, g_lmax _ _ _, k1⟩, gq', gq', k2⟩, k3⟩
theorem risk_out {U : Int32} (H : MgR p q) (hm : m < 4) (hU : q.1 13 37 m = U) : ∀ (d s n n' : Nat) (w : Int64), s + d = 4 → d < n → d < n' → (g2_riskOf_5 p n (cn m) U w (cn s) ∧ g12_risk_5 q n' (cn m) w (cn s)) ∧ v2_riskOf_5 p n (cn m) U w (cn s) = v12_risk_5 q n' (cn m) w (cn s) := by
  obtain ⟨F, hF, hF2⟩ : ∃ F, FU = F ∧ 100 < F := ⟨FU, rfl, by decide⟩
  have z0 : cn ((0 : Nat) : Int) = cn 0 := rfl
  intro d
  induction d with
  | zero =>
    intro s n n' w h1 h2 h3
    obtain ⟨n1, rfl⟩ : ∃ m, n = m + 1 := ⟨n - 1, by omega⟩
    obtain ⟨n2, rfl⟩ : ∃ m, n' = m + 1 := ⟨n' - 1, by omega⟩
    have e : s = 4 := by omega
    subst e
    have hn := lpf (i := 4) (N := 4) (by omega) (by omega) (by omega)
    rw [ev2_riskOf_5, eg2_riskOf_5, ev12_risk_5, eg12_risk_5, hF]
    unfold bv2_riskOf_5 bg2_riskOf_5 bv12_risk_5 bg12_risk_5
    rw [if_neg hn, if_neg hn, if_neg hn, if_neg hn, ← z0]
    exact risk_tl H hm 4 0 F F w rfl (by omega) (by omega)
  | succ d ih =>
    intro s n n' w h1 h2 h3
    obtain ⟨n1, rfl⟩ : ∃ m, n = m + 1 := ⟨n - 1, by omega⟩
    obtain ⟨n2, rfl⟩ : ∃ m, n' = m + 1 := ⟨n' - 1, by omega⟩
    have l4 : cn (s : Int) < cn 4 := lpt (by omega) (by omega)
    have mv := move_r (p := p) (s := s) (by omega) (c := 1) (by omega)
    have hM' := H.2.1 s 1 (by omega) (by omega)
    have i16 := cninb (i := 4 * s + 1) (n := 16) (by omega) (by omega)
    have i4 := cninb (i := m) (n := 4) hm (by omega)
    have e1 : cn 4 * cn (s : Int) + cn 1 = cn ((4 * s + 1 : Nat) : Int) := idx4 (a := s) (c := 1)
    have e2 := i64_nm U.toInt64 (q.1 13 35 (4 * s + 1)).toInt64
    have o1 : cn ((1 : Nat) : Int) = cn 1 := rfl
    rw [o1] at mv
    rw [ev2_riskOf_5, eg2_riskOf_5, ev12_risk_5, eg12_risk_5, hF]
    unfold bv2_riskOf_5 bg2_riskOf_5 bv12_risk_5 bg12_risk_5
    simp only [if_pos l4, mv.2, hM', e1, cntk (i := 4 * s + 1) (by omega), cntk (i := m) (by omega), hU, e2]
    rw [← z0]
    obtain ⟨⟨k1, k2⟩, k3⟩ := risk_in (s := s) (w := w) (U := U) (kv := v2_riskOf_5 p n1) (kv' := v12_risk_5 q n2) (kg := g2_riskOf_5 p n1) (kg' := g12_risk_5 q n2) H hm (by omega) (fun w' => ih (s + 1) n1 n2 w' (by omega) (by omega) (by omega)) 4 0 F F (U.toInt64 * (q.1 13 35 (4 * s + 1)).toInt64) rfl (by omega) (by omega)
    exact ⟨⟨⟨mv.1, k1⟩, i4, i16, k2⟩, k3⟩
theorem risk_eq {U : Int32} (H : MgR p q) (hm : m < 4) (hU : q.1 13 37 m = U) : (g2_riskOf p (cn m) U ∧ g12_risk q (cn m)) ∧ v2_riskOf p (cn m) U = v12_risk q (cn m) := by
  obtain ⟨F, hF, hF2⟩ : ∃ F, FU = F ∧ 100 < F := ⟨FU, rfl, by decide⟩
  unfold g2_riskOf bg2_riskOf g12_risk bg12_risk v2_riskOf bv2_riskOf v12_risk bv12_risk
  rw [hF]
  exact risk_out H hm hU 4 0 F F (cl 0) rfl (by omega) (by omega)
theorem worth_lp (H : MgR p q) (hm : m < 4) : ∀ (d c n n' : Nat) (w : Int64), c + d = 4 → d < n → d < n' → (g2_worthOf_5 p n (cn m) w (cn c) ∧ g12_worth_5 q n' (cn m) w (cn c)) ∧ v2_worthOf_5 p n (cn m) w (cn c) = v12_worth_5 q n' (cn m) w (cn c) := by
  obtain ⟨hA, -, hB, -⟩ := H
  intro d
  induction d with
  | zero =>
    intro c n n' w h1 h2 h3
    obtain ⟨n1, rfl⟩ : ∃ m, n = m + 1 := ⟨n - 1, by omega⟩
    obtain ⟨n2, rfl⟩ : ∃ m, n' = m + 1 := ⟨n' - 1, by omega⟩
    have e : c = 4 := by omega
    subst e
    have hn := lpf (i := 4) (N := 4) (by omega) (by omega) (by omega)
    rw [ev2_worthOf_5, eg2_worthOf_5, ev12_worth_5, eg12_worth_5]
    unfold bv2_worthOf_5 bg2_worthOf_5 bv12_worth_5 bg12_worth_5
    rw [if_neg hn, if_neg hn, if_neg hn, if_neg hn]
    exact ⟨⟨trivial, trivial⟩, rfl⟩
  | succ d ih =>
    intro c n n' w h1 h2 h3
    obtain ⟨n1, rfl⟩ : ∃ m, n = m + 1 := ⟨n - 1, by omega⟩
    obtain ⟨n2, rfl⟩ : ∃ m, n' = m + 1 := ⟨n' - 1, by omega⟩
    have l4 : cn (c : Int) < cn 4 := lpt (by omega) (by omega)
    have en := net_eq hA hm (c := c) (by omega)
    have gq := (net_q (q := q) hm (c := c) (by omega)).1
    have gp := (net_p (p := p) hm (c := c) (by omega)).1
    obtain ⟨z, -, -, z3, z4⟩ := hB c (by omega)
    have bk := book_e p (a := c) (by omega)
    have gb := g_book p (a := c) (by omega)
    have i6 := cninb (i := c) (n := 6) (by omega) (by omega)
    have hz : ¬ c + 1 = 0 := by omega
    rw [ev2_worthOf_5, eg2_worthOf_5, ev12_worth_5, eg12_worth_5]
    unfold bv2_worthOf_5 bg2_worthOf_5 bv12_worth_5 bg12_worth_5
    simp only [if_pos l4, en, bk, z3, z4, cntk (i := c) (by omega), cnsucc]
    obtain ⟨⟨k1, k2⟩, k3⟩ := ih (c + 1) n1 n2 (w + v12_net q (cn m) (cn c) * (cn z).toInt64) (by omega) (by omega) (by omega)
    exact ⟨⟨⟨gp, gb, hz, k1⟩, gq, i6, k2⟩, k3⟩
theorem worth_eq (H : MgR p q) (hm : m < 4) : (g2_worthOf p (cn m) ∧ g12_worth q (cn m)) ∧ v2_worthOf p (cn m) = v12_worth q (cn m) := by
  obtain ⟨F, hF, hF2⟩ : ∃ F, FU = F ∧ 100 < F := ⟨FU, rfl, by decide⟩
  unfold g2_worthOf bg2_worthOf g12_worth bg12_worth v2_worthOf bv2_worthOf v12_worth bv12_worth
  rw [hF]
  exact worth_lp H hm 4 0 F F (cl 0) rfl (by omega) (by omega)
theorem lower_e (hm : m < 4) : (g2_lowerOf p (cn m) ∧ v2_lowerOf p (cn m) = 2 * m + 1) ∧ g2_upperOf p (cn m) ∧ v2_upperOf p (cn m) = 2 * m + 2 := by
  have a1 := account_e p (a := 2 * m) (by omega)
  have a2 := account_e p (a := 2 * m + 1) (by omega)
  have b1 := g_account p (a := 2 * m) (by omega)
  have b2 := g_account p (a := 2 * m + 1) (by omega)
  unfold g2_lowerOf bg2_lowerOf v2_lowerOf bv2_lowerOf g2_upperOf bg2_upperOf v2_upperOf bv2_upperOf
  simp only [two_m, cnsucc, a1, a2]
  exact ⟨⟨⟨b1, trivial⟩, trivial⟩, ⟨b2, trivial⟩, trivial⟩
theorem value_eq (H : MgR p q) (hm : m < 4) : (g2_valueOf p (cn m) ∧ g12_value q (cn m)) ∧ v2_valueOf p (cn m) = v12_value q (cn m) := by
  obtain ⟨⟨w1, w2⟩, w3⟩ := worth_eq H hm
  obtain ⟨⟨l1, l2⟩, l3, l4⟩ := lower_e (p := p) hm
  have c1 := (H.1 (2 * m) (by omega)).2
  have c2 := (H.1 (2 * m + 1) (by omega)).2
  have z1 : ¬ 2 * m + 1 = 0 := by omega
  have z2 : ¬ 2 * m + 2 = 0 := by omega
  have i1 := cninb (i := 2 * m) (n := 9) (by omega) (by omega)
  have i2 := cninb (i := 2 * m + 1) (n := 9) (by omega) (by omega)
  unfold g2_valueOf bg2_valueOf g12_value bg12_value v2_valueOf bv2_valueOf v12_value bv12_value
  simp only [l2, l4, two_m, cnsucc, cntk (i := 2 * m) (by omega), cntk (i := 2 * m + 1) (by omega), w3]
  rw [c1, c2]
  exact ⟨⟨⟨l1, z1, l3, z2, w1, trivial⟩, i1, i2, w2, trivial⟩, rfl⟩
theorem mg_37 {U : Int32} (H : MgR p q) : MgR p (pI q 13 37 m U) := by
  have e : ∀ K, ¬ K = 37 → (pI q 13 37 m U).1 13 K = q.1 13 K := by
    intro K h
    funext i
    rw [pI_1, u3_i h]
  have e12 : (pI q 13 37 m U).1 12 = q.1 12 := by
    funext i S
    rw [pI_1, u3_k (by decide)]
  unfold MgR AcR at H ⊢
  rw [e 1 (by decide), e 35 (by decide), e 10 (by decide), e12]
  exact H
theorem call_eq (H : MgR p q) (hm : m < 4) (C U : Int32) : (g2_callOf p (cn m) C U ∧ g12_call q (cn m) C.toInt64 U.toInt64) ∧ v12_call q (cn m) C.toInt64 U.toInt64 = (v2_callOf p (cn m) C U, q) := by
  have H2 := mg_37 (m := m) (U := U) H
  obtain ⟨⟨r1, r2⟩, r3⟩ := risk_eq (U := U) H2 hm pI_at
  obtain ⟨⟨w1, w2⟩, w3⟩ := value_eq H2 hm
  obtain ⟨z, y1, y2, z3, z4⟩ := H.2.2.1 1 (by decide)
  obtain ⟨h, h1, h2, h3, h4⟩ := H.2.2.2
  have bk : v6_bookAt p (cn 1) = 2 := book_e p (a := 1) (by omega)
  have gb : g6_bookAt p (cn 1) := g_book p (a := 1) (by omega)
  have i4 := cninb (i := m) (n := 4) hm (by omega)
  have ur := I_rg U
  have ur1 := ur.1
  have ur2 := ur.2
  have eU : U.toInt64.toInt32 = U := by
    rw [cn_of U, cn64 ur, cl32]
  have e10 : (pI q 13 37 m U).1 13 10 1 = cn z := by
    rw [pI_1, u3_i (by decide)]
    exact z4
  have e50 : (pI q 13 37 m U).1 12 1 50 = cn h := by
    rw [pI_1, u3_k (by decide)]
    exact h4
  have b1 := mul_bd (n := U.toInt) (m := z) (A := 2147483648) (B := 9999) (by omega) (by omega) (by omega) (by omega)
  have b2 := mul_bd (n := U.toInt * z) (m := 100 - h) (A := 2147483648 * 9999) (B := 100) (by omega) (by omega) (by omega) (by omega)
  have ep : U.toInt64 * (cn z).toInt64 * (cn 100 - cn h).toInt64 = cl (U.toInt * z * (100 - h)) := by
    rw [cn64 (a := z) ⟨by omega, by omega⟩, cnsub, cn64 (a := 100 - h) ⟨by omega, by omega⟩]
    conv => lhs; rw [cn_of U, cn64 ur]
    rw [clmul, clmul]
  have f1 := fd_e p (A := U.toInt * z * (100 - h)) (B := 100) ⟨by omega, by omega⟩ (by decide) (by decide)
  have f2 := fl_e (pI q 13 37 m U) (A := U.toInt * z * (100 - h)) (B := 100) ⟨by omega, by omega⟩ (by decide) (by decide)
  have eb : pI (pI q 13 37 m U) 13 37 m (q.1 13 37 m) = q := by rw [pI_pI, pI_id]
  have z3' : p.1 1 2 3 = cn z := z3
  have hz2 : ¬ (2 : Nat) = 0 := by decide
  obtain ⟨R, hR⟩ : ∃ R, v12_risk (pI q 13 37 m U) (cn m) = R := ⟨_, rfl⟩
  obtain ⟨V, hV⟩ : ∃ V, v12_value (pI q 13 37 m U) (cn m) = V := ⟨_, rfl⟩
  rw [hR] at r3
  rw [hV] at w3
  obtain ⟨A, hA⟩ : ∃ A, U.toInt * z * (100 - h) = A := ⟨_, rfl⟩
  rw [hA] at ep f1 f2
  obtain ⟨Y, hY⟩ : ∃ Y, A / 100 = Y := ⟨_, rfl⟩
  rw [hY] at f1 f2
  obtain ⟨f11, f12⟩ := f1
  obtain ⟨f21, f22⟩ := f2
  have eC : v2_callOf p (cn m) C U = if cl 0 < R - V - C.toInt64 - cl Y then R - V - C.toInt64 - cl Y else cl 0 := by
    unfold v2_callOf bv2_callOf
    simp only [bk, z3', h3, ep, f12, r3, w3, lmax_e]
  have gC' : g2_callOf p (cn m) C U := by
    unfold g2_callOf bg2_callOf
    have gm := g_lmax p (cl 0) (R - V - C.toInt64 - cl Y)
    simp only [bk, z3', h3, ep, f12, r3, w3]
    exact ⟨gb, hz2, f11, r1, w1, gm, trivial⟩
  have eQ : v12_call q (cn m) C.toInt64 U.toInt64 = (if cl 0 < R - V - C.toInt64 - cl Y then R - V - C.toInt64 - cl Y else cl 0, q) := by
    unfold v12_call bv12_call
    simp only [eU, cntk (i := m) (by omega), e10, e50, ep, f22, hR, hV, eb, lg_lt0]
    by_cases hx : cl 0 < R - V - C.toInt64 - cl Y
    · simp only [if_pos hx]
    · simp only [if_neg hx]
  have gQ' : g12_call q (cn m) C.toInt64 U.toInt64 := by
    unfold g12_call bg12_call
    simp only [eU, cntk (i := m) (by omega), e10, e50, ep, ite_self]
    exact ⟨i4, i4, r2, w2, f21, i4, trivial⟩
  exact ⟨⟨gC', gQ'⟩, by rw [eQ, eC]⟩
theorem callOf_eq {M U : Int32} (H : MgR p q) (hm : m < 4) (h1 : q.1 13 36 m = M) (h2 : q.1 13 37 m = U) : (g2_callOf p (cn m) M U ∧ g12_callOf q (cn m)) ∧ v12_callOf q (cn m) = (v2_callOf p (cn m) M U, q) := by
  obtain ⟨⟨k1, k2⟩, k3⟩ := call_eq H hm M U
  have i4 := cninb (i := m) (n := 4) hm (by omega)
  unfold g12_callOf bg12_callOf v12_callOf bv12_callOf
  simp only [cntk (i := m) (by omega), h1, h2, k3]
  exact ⟨⟨k1, i4, i4, k2, trivial⟩, trivial⟩
end Risk
