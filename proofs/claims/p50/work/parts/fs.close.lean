/-! the loss is covered, from the state before -/
def CO (p p2 q q2 : PM) : Prop :=
  ((∀ K, ¬ K = 2 → ¬ K = 9 → p2.1 K = p.1 K) ∧ (∀ i S, (S = 3 ∨ S = 4 ∨ S = 5) → p2.1 9 i S = p.1 9 i S) ∧ (∀ S, ¬ S = 5 → ¬ S = 8 → p2.1 2 1 S = p.1 2 1 S) ∧ p2.2.2 = p.2.2) ∧
  ((∀ K, (K < 36 ∨ 38 < K) → q2.1 13 K = q.1 13 K) ∧ q2.1 15 = q.1 15 ∧ (∀ S, ¬ S = 58 → ¬ S = 68 → q2.1 12 1 S = q.1 12 1 S)) ∧
  (∀ k, k < 4 → (∃ z : Int, 0 ≤ z ∧ z ≤ 9999 ∧ p2.1 9 (k + 1) 2 = cn z ∧ q2.1 13 38 k = cn z) ∧ (∃ z z0 : Int, 0 ≤ z ∧ z ≤ z0 ∧ z0 ≤ 10000000 ∧ q.1 13 36 k = cn z0 ∧ p2.1 9 (k + 1) 0 = cn z ∧ q2.1 13 36 k = cn z) ∧ (∃ z z0 : Int, 0 ≤ z ∧ z ≤ z0 ∧ z0 ≤ 100000 ∧ q.1 13 37 k = cn z0 ∧ p2.1 9 (k + 1) 1 = cn z ∧ q2.1 13 37 k = cn z)) ∧
  (∃ z : Int, 0 ≤ z ∧ z ≤ 500 ∧ p2.1 2 1 5 = cn z ∧ q2.1 12 1 58 = cn z) ∧
  (∀ a, a < 9 → p2.2.1 0 (a + 1) 4 = q2.2.1 14 1 a) ∧ p2.1 2 1 8 = q2.1 12 1 68
/-- what is known before -/
def CB (p q : PM) : Prop := (∀ k, k < 4 → (∃ z : Int, 0 ≤ z ∧ z ≤ 10000000 ∧ p.1 9 (k + 1) 0 = cn z ∧ q.1 13 36 k = cn z) ∧ (∃ z : Int, 0 ≤ z ∧ z ≤ 100000 ∧ p.1 9 (k + 1) 1 = cn z ∧ q.1 13 37 k = cn z) ∧ (∃ z : Int, 0 ≤ z ∧ z ≤ 9999 ∧ p.1 9 (k + 1) 2 = cn z ∧ q.1 13 38 k = cn z)) ∧ (∃ z : Int, 0 ≤ z ∧ z ≤ 500 ∧ p.1 2 1 5 = cn z ∧ q.1 12 1 58 = cn z) ∧ (∀ a, a < 9 → p.2.1 0 (a + 1) 4 = q.2.1 14 1 a)
section Close
variable {p q : PM} {m : Nat} {w best : Int32}
theorem fs_loop {a b F : Nat} (hF2 : 0 < F) : ∀ (d i n : Nat) (p' : PM), i + d = 4 → d < n → (p'.2 = p.2 ∧ (∀ K j S, ¬ (K = 9 ∧ S = 6) → p'.1 K j S = p.1 K j S) ∧ ∀ k, k < i → p'.1 9 (k + 1) 6 = p.1 9 (k + 1) 2) → ∃ pS : PM, (pS.2 = p.2 ∧ (∀ K j S, ¬ (K = 9 ∧ S = 6) → pS.1 K j S = p.1 K j S) ∧ ∀ k, k < 4 → pS.1 9 (k + 1) 6 = p.1 9 (k + 1) 2) ∧ v2_cover_63 n p' w a b (cn i) = v2_cover_63 F pS w a b (cn 4) ∧ (g2_cover_63 F pS w a b (cn 4) → g2_cover_63 n p' w a b (cn i)) := by
  intro d
  induction d with
  | zero =>
    intro i n p' h1 h2 h
    obtain ⟨n1, rfl⟩ : ∃ z9, n = z9 + 1 := ⟨n - 1, by omega⟩
    obtain ⟨n2, hn2⟩ : ∃ n2, F = n2 + 1 := ⟨F - 1, by omega⟩
    have e : i = 4 := by omega
    subst e
    have n4 : ¬ cn 4 < cn 4 := by decide
    have e4 : cn ((4 : Nat) : Int) = cn 4 := rfl
    refine ⟨p', h, ?_, fun g => ?_⟩
    · rw [hn2, e4, ev2_cover_63, ev2_cover_63]
      unfold bv2_cover_63
      rw [if_neg n4, if_neg n4]
    · rw [hn2, eg2_cover_63] at g
      rw [e4, eg2_cover_63]
      unfold bg2_cover_63 at g ⊢
      rw [if_neg n4] at g ⊢
      exact g
  | succ d ih =>
    intro i n p' h1 h2 h
    obtain ⟨n1, rfl⟩ : ∃ z9, n = z9 + 1 := ⟨n - 1, by omega⟩
    obtain ⟨f1, f2, f3⟩ := h
    have l4 : cn (i : Int) < cn 4 := lpt (by omega) (by omega)
    have hi := cninb (i := i) (n := 4) (by omega) (by omega)
    obtain ⟨pS, k1, k2, k3⟩ := ih (i + 1) n1 (pI p' 9 (i + 1) 6 (p'.1 9 (i + 1) 2)) (by omega) (by omega) ⟨f1, fun K j S h => by
      rw [pI_1, u3_ne (fun h2 => h ⟨h2.1, h2.2.2⟩)]
      exact f2 K j S h, fun k hk => by
      by_cases e : k = i
      · rw [e, pI_at]
        exact f2 9 (i + 1) 2 (by decide)
      · rw [pI_1, u3_i (by omega)]
        exact f3 k (by omega)⟩
    refine ⟨pS, k1, ?_, fun g => ?_⟩
    · rw [ev2_cover_63]
      unfold bv2_cover_63
      simp only [if_pos l4, cntk (i := i) (by omega), cnsucc]
      exact k2
    · rw [eg2_cover_63]
      unfold bg2_cover_63
      simp only [if_pos l4, cntk (i := i) (by omega), cnsucc]
      exact ⟨hi, k3 g⟩
theorem co_cover {Y pr : Int} (hm : m < 4) (hC : CB p q) (h6 : p.1 2 1 6 = cn m) (hM : MeR p q) (hW : WnR q w best) (h9 : q.1 15 9 m = cn 1) (hp : p.1 1 2 3 = cn pr) (hq : q.1 13 10 1 = cn pr) (p1 : 1 ≤ pr) (p2 : pr ≤ 9999) (hY : csF (q.2.1 14 1) 9 ≤ Y) (hY2 : Y ≤ 8000000000000000000) : ∃ q2, v12_doCloseOut_180 q (cn m) best = v12_doCloseOut_238 FU (pI q2 12 1 57 (cn (-1))) (cn 0) ∧ CO p (v2_cover p w) q q2 ∧ csF (q2.2.1 14 1) 9 ≤ Y + 1000050000 ∧ ToQ q2 = ToQ q ∧ g2_cover p w ∧ (g12_doCloseOut_238 FU (pI q2 12 1 57 (cn (-1))) (cn 0) → g12_doCloseOut_180 q (cn m) best) ∧ CH q q2 m 9999 := by
  obtain ⟨F, hF, hF2⟩ : ∃ F, FU = F ∧ 100 < F := ⟨FU, rfl, by decide⟩
  obtain ⟨c1, c2, c3⟩ := hC
  obtain ⟨z, hz⟩ : ∃ z, z = (q.2.1 14 1 (2 * m)).toInt := ⟨_, rfl⟩
  have hzq : q.2.1 14 1 (2 * m) = cl z := by rw [hz]; exact cl_of _
  have hzp : p.2.1 0 (2 * m + 1) 4 = cl z := by rw [c3 (2 * m) (by omega), hzq]
  have hzb := csF_one (f := q.2.1 14 1) (a := 2 * m) 9 (by omega)
  rw [← hz] at hzb
  obtain ⟨l, e, hl0, he0, hel, hle, hlc⟩ : ∃ l e : Int, 0 ≤ l ∧ 0 ≤ e ∧ e - l = z ∧ (l = 0 ∨ e = 0) ∧ l = (if 0 < -z then -z else 0) := by
    by_cases h : 0 < -z
    · exact ⟨-z, 0, by omega, by omega, by omega, Or.inr rfl, by rw [if_pos h]⟩
    · exact ⟨0, z, by omega, by omega, by omega, Or.inl rfl, by rw [if_neg h]⟩
  obtain ⟨pA, hpA⟩ : ∃ pA, pA = pJ (pI (pJ p 2 1 7 (cl l)) 2 1 8 (cn 0)) 0 (2 * m + 1) 4 (cl e) := ⟨_, rfl⟩
  obtain ⟨qS, hqS⟩ : ∃ qS, qS = pJ (pI q 12 1 68 (cn 0)) 12 1 69 (cl l) := ⟨_, rfl⟩
  obtain ⟨pS, ⟨s1, s2, s3⟩, s4', s5⟩ := fs_loop (p := pA) (w := w) (a := m + 1) (b := 2 * m + 1) (F := F) (by omega) 4 0 F pA rfl (by omega) ⟨rfl, fun _ _ _ _ => rfl, fun k hk => absurd hk (by omega)⟩
  have z00 : cn ((0 : Nat) : Int) = cn 0 := rfl
  rw [z00] at s4' s5
  have hcov : v2_cover p w = v2_cover_63 F pS w (m + 1) (2 * m + 1) (cn 4) ∧ (g2_cover_63 F pS w (m + 1) (2 * m + 1) (cn 4) → g2_cover p w) := by
    obtain ⟨⟨g1, e1⟩, -⟩ := lower_e (p := p) hm
    have em := member_e p hm
    have gm := g_member p hm
    have e7 : (pJ (pI (pJ p 2 1 7 (cl l)) 2 1 8 (cn 0)) 0 (2 * m + 1) 4 (cl z + cl l)) = pA := by
      rw [hpA, cladd]
      congr 2
      omega
    have e8 : (pJ p 2 1 7 (cl l)).2.1 0 (2 * m + 1) 4 = cl z := by
      rw [pJ_J, u3_k (by decide)]
      exact hzp
    have e9 : (pJ p 2 1 7 (cl l)).2.1 2 1 7 = cl l := by rw [pJ_J, u3_same]
    have em2 : v14_max_f86c9 p (cl 0) (cl (-z)) = cl l := by
      rw [lmax_cl p (by decide) ⟨by omega, by omega⟩, ← hlc]
    constructor
    · unfold v2_cover bv2_cover
      rw [hF]
      simp only [h6, em, e1, hzp, clneg, em2, pI_J, e8, e9, e7]
      exact s4'
    · intro g
      unfold g2_cover bg2_cover
      rw [hF]
      simp only [h6, em, e1, hzp, clneg, em2, pI_J, e8, e9, e7]
      exact ⟨gm, g1, by omega, g_lmax p _ _, by omega, by omega, s5 g⟩
  have k1 : ∀ K i S, ¬ (K = 9 ∧ S = 6) → ¬ (K = 2 ∧ i = 1 ∧ S = 8) → pS.1 K i S = p.1 K i S := by
    intro K i S h h'
    rw [s2 K i S h, hpA, pJ_1, pI_1, u3_ne h', pJ_1]
  have k2 : pS.1 2 1 8 = cn 0 := by rw [s2 2 1 8 (by decide), hpA, pJ_1, pI_at]
  have k3 : pS.2.2 = p.2.2 := by
    rw [s1, hpA]
    rfl
  have k4 : ∀ a, a < 9 → ¬ a = 2 * m → pS.2.1 0 (a + 1) 4 = q.2.1 14 1 a := by
    intro a ha h
    rw [s1, hpA, pJ_J, u3_i (by omega), pI_J, pJ_J, u3_k (by decide)]
    exact c3 a ha
  have k5 : pS.2.1 0 (2 * m + 1) 4 = cl e := by rw [s1, hpA, pJ_J, u3_same]
  have k6 : pS.2.1 2 1 7 = cl l := by rw [s1, hpA, pJ_J, u3_k (by decide), pI_J, pJ_J, u3_same]
  have q1 : ∀ K i S, ¬ (K = 12 ∧ i = 1 ∧ S = 68) → qS.1 K i S = q.1 K i S := by
    intro K i S h
    rw [hqS, pJ_1, pI_1, u3_ne h]
  have q14 : qS.2.1 14 1 = q.2.1 14 1 := by
    funext S
    rw [hqS, pJ_J, u3_k (by decide), pI_J]
  have hTS : ToQ qS = ToQ q := by
    refine tt_c q14 ?_ ?_ ?_
    · funext k
      exact q1 _ _ _ (by omega)
    · funext k
      exact q1 _ _ _ (by omega)
    · exact q1 _ _ _ (by omega)
  have hCV : CV pS qS (csF (q.2.1 14 1) 9 - max (e - l) (l - e)) m pS qS l e := by
    refine ⟨⟨fun _ _ _ => rfl, fun _ _ _ => rfl, fun _ _ _ => rfl, rfl⟩, ⟨fun _ _ => rfl, rfl, fun _ _ _ => rfl⟩, fun k hk => ?_, ?_, ⟨?_, k5, ?_⟩, ⟨k6, ?_, ?_⟩, ⟨hl0, by omega⟩, ⟨he0, by omega⟩, ?_⟩
    · rw [k1 _ _ _ (by omega) (by omega), k1 _ _ _ (by omega) (by omega), k1 _ _ _ (by omega) (by omega), q1 _ _ _ (by omega), q1 _ _ _ (by omega), q1 _ _ _ (by omega)]
      obtain ⟨⟨x, x0, x1, x2, x3⟩, ⟨y, y0, y1, y2, y3⟩, x4⟩ := c1 k hk
      exact ⟨x4, ⟨x, x, x0, by omega, x1, x3, x2, x3⟩, ⟨y, y, y0, by omega, y1, y3, y2, y3⟩⟩
    · rw [k1 _ _ _ (by omega) (by omega), q1 _ _ _ (by omega)]
      exact c2
    · rw [q14]
      exact k4
    · rw [q14, hel]
      exact hzq
    · rw [hqS, pJ_J, u3_same]
    · rw [k2, hqS, pJ_1, pI_at]
    · rw [q14]
      omega
  have hMS : MeR pS qS := by
    intro k hk
    rw [k1 _ _ _ (by omega) (by omega), k1 _ _ _ (by omega) (by omega), k1 _ _ _ (by omega) (by omega), q1 _ _ _ (by omega), q1 _ _ _ (by omega), q1 _ _ _ (by omega)]
    exact hM k hk
  have hWS : WnR qS w best := by
    have e : qS.1 15 = q.1 15 := by
      funext i S
      exact q1 _ _ _ (by omega)
    unfold WnR
    rw [e]
    exact hW
  have hS : ∀ k, k < 4 → pS.1 9 (k + 1) 6 = pS.1 9 (k + 1) 2 := by
    intro k hk
    rw [s3 k hk, s2 9 (k + 1) 2 (by decide)]
  have h9S : qS.1 15 9 m = cn 1 := by
    rw [q1 _ _ _ (by omega)]
    exact h9
  have fin : ∀ (P Q : PM) (B' e' : Int), CV pS qS B' m P Q 0 e' → CO p P q Q := by
    intro P Q B' e' hh
    obtain ⟨⟨a1, a2, a3, a4⟩, ⟨b1', b2', b3'⟩, x1, x2, ⟨d1, d2, d3⟩, ⟨-, -, f3⟩, -⟩ := hh
    refine ⟨⟨fun K h h' => ?_, fun i S h => ?_, fun S h h' => ?_, a4.trans k3⟩, ⟨fun K h => ?_, ?_, fun S h h' => ?_⟩, fun k hk => ?_, x2, fun a ha => ?_, f3⟩
    · rw [a1 K h h']
      funext i S
      exact k1 K i S (by omega) (by omega)
    · rw [a2 i S (by omega)]
      exact k1 9 i S (by omega) (by omega)
    · rw [a3 S h h']
      exact k1 2 1 S (by omega) (by omega)
    · rw [b1' K h]
      funext i
      exact q1 _ _ _ (by omega)
    · rw [b2']
      funext i S
      exact q1 _ _ _ (by omega)
    · rw [b3' S h h']
      exact q1 _ _ _ (by omega)
    · have y := x1 k hk
      rw [q1 13 36 k (by omega), q1 13 37 k (by omega)] at y
      exact y
    · by_cases h : a = 2 * m
      · rw [h, d2, d3]
        congr 1
        omega
      · exact d1 a ha h
  have i9 := cninb (i := 2 * m) (n := 9) (by omega) (by omega)
  have c0l : (cl 0 < cl l) = (0 < l) := cllt (by decide) ⟨by omega, by omega⟩
  have cz0 : (cl z < cl 0) = (z < 0) := cllt ⟨by omega, by omega⟩ (by decide)
  have q69S : qS.2.1 12 1 69 = cl l := by rw [hqS, pJ_J, u3_same]
  have hq69 : ∀ v, (pJ (pI q 12 1 68 (cn 0)) 12 1 69 v).2.1 12 1 69 = v := fun v => by rw [pJ_J, u3_same]
  by_cases hlz : 0 < l
  · have hzn : z < 0 := by omega
    have ez : e = 0 := by omega
    have eqS : pJ (pI q 12 1 68 (cn 0)) 12 1 69 (cl (-z)) = qS := by
      rw [hqS]
      congr 2
      omega
    have cc : (cl 0 < cl (-z)) := by
      rw [cllt (by decide) ⟨by omega, by omega⟩]
      omega
    rw [ez] at hCV
    obtain ⟨e', he', H1, H2, H3, HT, HCH⟩ := cover_n (pr := pr) hF (by omega) hm hCV hS hMS hWS h9S (by rw [k1 _ _ _ (by omega) (by omega)]; exact hp) (by rw [q1 _ _ _ (by omega)]; exact hq) p1 p2
    refine ⟨v12_coversAll qS (cn m) best, ?_, ?_, ?_, HT.trans hTS, hcov.2 H2, fun g => ?_, fun a ha h => by rw [← q14]; exact HCH a ha h⟩
    · unfold v12_doCloseOut_180 bv12_doCloseOut_180
      simp only [two_m, cntk (i := 2 * m) (by omega), pI_J, hzq, lg_gt0, lg_lt0, cz0, if_pos hzn, clneg, eqS, q69S, c0l, if_pos hlz]
    · rw [hcov.1]
      exact fin _ _ _ _ H1
    · have hB := H1.2.2.2.2.2.2.2.2
      have e1 : max (0 - l) (l - 0) = l := by omega
      have he0' := H1.2.2.2.2.2.2.2.1.1
      have e2 : max (e' - 0) (0 - e') = e' := by omega
      rw [e1, e2] at hB
      omega
    · unfold g12_doCloseOut_180 bg12_doCloseOut_180
      simp only [two_m, cntk (i := 2 * m) (by omega), pI_J, hzq, lg_gt0, lg_lt0, cz0, if_pos hzn, clneg, eqS, q69S, c0l, if_pos hlz]
      exact ⟨i9, i9, H3, g⟩
  · have hzn : ¬ z < 0 := by omega
    have lz : l = 0 := by omega
    have eqS : pJ (pI q 12 1 68 (cn 0)) 12 1 69 (cl 0) = qS := by
      rw [hqS, lz]
    have cc : ¬ (cl 0 < cl 0) := by decide
    rw [lz] at hCV
    obtain ⟨H1, H2⟩ := cover_z (w := w) hF (by omega) hm hCV hS hMS hWS h9S
    refine ⟨qS, ?_, ?_, ?_, hTS, hcov.2 H2, fun g => ?_, fun a ha h => by rw [q14]; omega⟩
    · unfold v12_doCloseOut_180 bv12_doCloseOut_180
      simp only [two_m, cntk (i := 2 * m) (by omega), pI_J, hzq, lg_gt0, lg_lt0, cz0, if_neg hzn, eqS, q69S, c0l, if_neg hlz]
    · rw [hcov.1]
      exact fin _ _ _ _ H1
    · have hB := H1.2.2.2.2.2.2.2.2
      have e2 : max (e - 0) (0 - e) = e := by omega
      rw [e2] at hB
      omega
    · unfold g12_doCloseOut_180 bg12_doCloseOut_180
      simp only [two_m, cntk (i := 2 * m) (by omega), pI_J, hzq, lg_gt0, lg_lt0, cz0, if_neg hzn, eqS, q69S, c0l, if_neg hlz]
      exact ⟨i9, g⟩
end Close
