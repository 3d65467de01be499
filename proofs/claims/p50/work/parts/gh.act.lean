/-! an event, its working, and its row in the log -/
def lgw (lg : Nat → Int32) (n : Nat) (v a b c d x f : Int32) : Nat → Int32 := fun j => if j = 7 * n then v else if j = 7 * n + 1 then a else if j = 7 * n + 2 then b else if j = 7 * n + 3 then c else if j = 7 * n + 4 then d else if j = 7 * n + 5 then x else if j = 7 * n + 6 then f else if j = 4000 then cn ((n + 1 : Nat) : Int) else lg j
def logQ (q : PM) (n : Nat) (v a b c d x f : Int32) : PM := pI (pI (pI (pI (pI (pI (pI (pI q 13 40 (7 * n) v) 13 40 (7 * n + 1) a) 13 40 (7 * n + 2) b) 13 40 (7 * n + 3) c) 13 40 (7 * n + 4) d) 13 40 (7 * n + 5) x) 13 40 (7 * n + 6) f) 12 1 60 (cn ((n + 1 : Nat) : Int))
section Act
variable {p q q' : PM} {lg lg' : Nat → Int32} {N T D e : Nat} {a b c d x f v : Int32}
theorem ww_log {xx y l : Nat} {w : Nat → Prop} {ff : Nat → Int} (H : WW p q lg xx y w N T D l ff) (k13 : ∀ K, ¬ K = 40 → q'.1 13 K = q.1 13 K) (k12 : ∀ S, ¬ S = 60 → q'.1 12 1 S = q.1 12 1 S) (k15 : q'.1 15 = q.1 15) (kJ : q'.2 = q.2) (h1 : ∀ j, j < 4000 → q'.1 13 40 j = lg' j) (h2 : q'.1 12 1 60 = lg' 4000) (h3 : lg' 4001 = lg 4001) (h4 : lg' 4002 = lg 4002) (h5 : lg' 4003 = lg 4003) (h6 : ∀ j, 4004 ≤ j → j ≤ 4014 → lg' j = lg j) : WW p q' lg' xx y w N T D l ff ∧ RS q' 40 = RS q 40 := by
  obtain ⟨hO, hA, hB, hD, hK, ⟨a1, a2, a3, a4, a5, a6, a7, a8, a9, a10, a11⟩, hI, hF⟩ := H
  refine ⟨⟨?_, ?_, ?_, ?_, hK, ?_, ?_, ?_⟩, RS_c (by rw [k15]) (k13 17 (by decide))⟩
  · exact ord_c rfl rfl rfl rfl (fun K _ _ => k13 K (by omega)) (fun K _ _ => by rw [k15]) (k12 39 (by decide)) (k12 40 (by decide)) hO
  · exact af_c rfl (fun _ _ => rfl) rfl (k13 1 (by decide)) (k13 2 (by decide)) (k13 3 (by decide)) (k13 4 (by decide)) (k13 5 (by decide)) (by rw [k15]) (by rw [kJ]) hA
  · exact brl_c rfl (fun i _ _ => k13 i (by omega)) (by rw [k15]) hB
  · exact dr_c rfl rfl rfl (fun i _ _ => k13 i (by omega)) (by rw [k15]) (by rw [k15]) (k12 48 (by decide)) hD
  · refine ⟨fun m hm => ?_, fun s c hs hc => ?_, ?_, ?_, ?_, ?_, ?_, h1, h2, ?_, ?_⟩
    · rw [k13 36 (by decide), k13 37 (by decide), k13 38 (by decide), k13 39 (by decide), k15]
      exact a1 m hm
    · rw [k13 35 (by decide)]
      exact a2 s c hs hc
    · rw [k12 50 (by decide)]
      exact a3
    · rw [k12 58 (by decide)]
      exact a4
    · rw [k12 57 (by decide)]
      exact a5
    · rw [k12 17 (by decide)]
      exact a6
    · rw [k12 18 (by decide)]
      exact a7
    · rw [k12 61 (by decide), h3]
      exact a10
    · unfold PD at a11 ⊢
      rw [k13 1 (by decide), k12 48 (by decide), kJ, h4, h5, h6 4004 (by decide) (by decide), h6 4005 (by decide) (by decide), h6 4006 (by decide) (by decide), h6 4007 (by decide) (by decide)]
      exact ⟨a11.1, a11.2.1, a11.2.2.1, a11.2.2.2.1, fun g1 g2 c hc => (a11.2.2.2.2 g1 g2 c hc).trans (h6 (4012 + c) (by omega) (by omega)).symm⟩
  · exact iq_c (fun K _ _ => k13 K (by omega)) (fun K _ _ => by rw [k15]) (k13 12 (by decide)) (k13 30 (by decide)) (k12 17 (by decide)) hI
  · exact fb_c (by rw [k15]) (k13 17 (by decide)) (k13 4 (by decide)) (k12 95 (by decide)) hF
theorem npa_c (h : NPA q) (k13 : ∀ K, ¬ K = 40 → q'.1 13 K = q.1 13 K) (k15 : q'.1 15 = q.1 15) : NPA q' := by
  intro i hi hs hk
  unfold stnd at hs
  rw [k15, k13 24 (by decide)] at hs
  rw [k13 19 (by decide)] at hk
  rw [k13 16 (by decide), open_c (k13 12 (by decide))]
  exact h i hi hs hk
theorem sb_c (h : SB q e) (k13 : ∀ K, ¬ K = 40 → q'.1 13 K = q.1 13 K) (k12 : ∀ S, S = 17 ∨ S = 18 ∨ S = 57 → q'.1 12 1 S = q.1 12 1 S) (k15 : q'.1 15 = q.1 15) : SB q' e := by
  obtain ⟨s1, s2, ⟨t, t1, t2⟩, dd, d1, d2⟩ := h
  refine ⟨?_, fi_c s2 (by rw [k15]) (by rw [k15]) (k12 57 (by decide)), ⟨t, t1, ?_⟩, dd, d1, ?_⟩
  · unfold MB
    rw [k13 36 (by decide), k13 37 (by decide)]
    exact s1
  · rw [k12 17 (by decide)]
    exact t2
  · rw [k12 18 (by decide)]
    exact d2
theorem sb_fx (h : SB q e) (F : FX q q') : SB q' e := by
  obtain ⟨s1, s2, ⟨t, t1, t2⟩, dd, d1, d2⟩ := h
  obtain ⟨f1, f2, f3⟩ := F
  refine ⟨?_, fi_c s2 (f3 9 (by decide)) (f3 10 (by decide)) (f1 57 (by decide)), ⟨t, t1, ?_⟩, dd, d1, ?_⟩
  · unfold MB
    rw [f2 36 (by decide), f2 37 (by decide)]
    exact s1
  · rw [f1 17 (by decide)]
    exact t2
  · rw [f1 18 (by decide)]
    exact d2
theorem iv_th {x : Int32} (h : IV lg p q N T D e) : IV lg p (pI q 12 1 0 x) N T D e := by
  obtain ⟨H, hN, hS, n1, t1, d1⟩ := h
  refine ⟨ww_th x H, npa_c hN (fun K _ => by rw [th_k (by decide)]) (th_k (by decide)), sb_c hS (fun K _ => by rw [th_k (by decide)]) (fun S hS => th_1 (by omega)) (th_k (by decide)), n1, ?_, ?_⟩
  · rw [RS_th]
    exact t1
  · rw [RS_th]
    exact d1
theorem log_13 {n K : Nat} (h : ¬ K = 40) : (logQ q n v a b c d x f).1 13 K = q.1 13 K := by
  funext i
  unfold logQ
  rw [pI_1, u3_k (by decide), pI_1, u3_i h, pI_1, u3_i h, pI_1, u3_i h, pI_1, u3_i h, pI_1, u3_i h, pI_1, u3_i h, pI_1, u3_i h]
theorem log_12 {n S : Nat} (h : ¬ S = 60) : (logQ q n v a b c d x f).1 12 1 S = q.1 12 1 S := by
  unfold logQ
  rw [pI_1, u3_s h, pI_1, u3_k (by decide), pI_1, u3_k (by decide), pI_1, u3_k (by decide), pI_1, u3_k (by decide), pI_1, u3_k (by decide), pI_1, u3_k (by decide), pI_1, u3_k (by decide)]
theorem log_15 {n : Nat} : (logQ q n v a b c d x f).1 15 = q.1 15 := by
  funext i S
  unfold logQ
  rw [pI_1, u3_k (by decide), pI_1, u3_k (by decide), pI_1, u3_k (by decide), pI_1, u3_k (by decide), pI_1, u3_k (by decide), pI_1, u3_k (by decide), pI_1, u3_k (by decide), pI_1, u3_k (by decide)]
theorem log_40 {n j : Nat} (hj : j < 4000) (h : q.1 13 40 j = lg j) : (logQ q n v a b c d x f).1 13 40 j = lgw lg n v a b c d x f j := by
  unfold logQ lgw
  rw [pI_1, u3_k (by decide)]
  by_cases h6 : j = 7 * n + 6
  · rw [h6, pI_1, u3_same, if_neg (by omega), if_neg (by omega), if_neg (by omega), if_neg (by omega), if_neg (by omega), if_neg (by omega), if_pos rfl]
  rw [pI_1, u3_s h6]
  by_cases h5 : j = 7 * n + 5
  · rw [h5, pI_1, u3_same, if_neg (by omega), if_neg (by omega), if_neg (by omega), if_neg (by omega), if_neg (by omega), if_pos rfl]
  rw [pI_1, u3_s h5]
  by_cases h4 : j = 7 * n + 4
  · rw [h4, pI_1, u3_same, if_neg (by omega), if_neg (by omega), if_neg (by omega), if_neg (by omega), if_pos rfl]
  rw [pI_1, u3_s h4]
  by_cases h3 : j = 7 * n + 3
  · rw [h3, pI_1, u3_same, if_neg (by omega), if_neg (by omega), if_neg (by omega), if_pos rfl]
  rw [pI_1, u3_s h3]
  by_cases h2 : j = 7 * n + 2
  · rw [h2, pI_1, u3_same, if_neg (by omega), if_neg (by omega), if_pos rfl]
  rw [pI_1, u3_s h2]
  by_cases h1 : j = 7 * n + 1
  · rw [h1, pI_1, u3_same, if_neg (by omega), if_pos rfl]
  rw [pI_1, u3_s h1]
  by_cases h0 : j = 7 * n
  · rw [h0, pI_1, u3_same, if_pos rfl]
  rw [pI_1, u3_s h0, if_neg h0, if_neg h1, if_neg h2, if_neg h3, if_neg h4, if_neg h5, if_neg h6, if_neg (by omega)]
  exact h
theorem lgw_f {n j : Nat} (hn : n < 520) (hj : 4004 ≤ j) : lgw lg n v a b c d x f j = lg j := by
  unfold lgw
  rw [if_neg (by omega), if_neg (by omega), if_neg (by omega), if_neg (by omega), if_neg (by omega), if_neg (by omega), if_neg (by omega), if_neg (by omega)]
theorem act_eq {k n : Nat} (hk : k < 27) (hfl : ¬ lg 4006 = cn 1 ∨ ¬ (k = 15 ∨ k = 18 ∨ k = 26)) (hfc : ¬ lg 4006 = cn 1 ∨ ¬ lg 4007 = cn 1 ∨ ¬ k = 19) (he : e + 1 ≤ 600) (hn : n < 520) (h : IV lg p q N T D e) (h60 : lg 4000 = cn n) : (kE p a b c d x f k = 0 → gE p a b c d x f k ∧ g5_work (vE p a b c d x f k).2 ∧ g12_act q (cn k) a b c d x f ∧ ∃ q2 N2 T2 D2, v12_act q (cn k) a b c d x f = ((vE p a b c d x f k).1, q2) ∧ q2.1 12 1 0 = cn 0 ∧ IV (lgw lg n (cn k) a b c d x f) (v5_work (vE p a b c d x f k).2) q2 N2 T2 D2 (e + 1) ∧ q2 = logQ (v12_works (v12_does q (cn k) a b c d x f).2) n (cn k) a b c d x f) ∧ (¬ kE p a b c d x f k = 0 → kE p a b c d x f k < 4 → g12_act q (cn k) a b c d x f ∧ v12_act q (cn k) a b c d x f = (cn 0, pI q 12 1 0 (cn (kE p a b c d x f k))) ∧ IV lg p (pI q 12 1 0 (cn (kE p a b c d x f k))) N T D e) := by
  obtain ⟨G, ⟨A1, A2⟩, A3⟩ := does_all (a := a) (b := b) (c := c) (d := d) (x := x) (f := f) hk hfl hfc he h
  obtain ⟨H, hN, hS, n1, t1, d1⟩ := h
  have hRS := RS_rng H.1.1 40 (by decide)
  constructor
  · intro h0
    obtain ⟨g1, r0, e1, N2, T2, D2, b1', b2', W, b3', b4'⟩ := A1 h0
    have S1 := A3 h0
    dsimp only at r0 e1 W b3' b4'
    have hRS2 := RS_rng W.1.1 40 (by decide)
    obtain ⟨⟨w1, w2⟩, T3, D3, w3, W3, w4, w5, w6⟩ := ww_work W (by omega) (by omega)
    have hRS3 := RS_rng W3.1.1 40 (by decide)
    have F := fx_v12_works (q := (v12_does q (cn k) a b c d x f).2) (fx_refl _)
    obtain ⟨R, hR⟩ : ∃ R, v12_works (v12_does q (cn k) a b c d x f).2 = R := ⟨_, rfl⟩
    rw [hR] at W3 w4 w5 w6 F hRS3
    have h60' : R.1 12 1 60 = cn n := by
      rw [W3.2.2.2.2.2.1.2.2.2.2.2.2.2.2.1, lgB_o (by decide) (by decide)]
      exact h60
    have i0 : cn 7 * cn (n : Int) = cn ((7 * n : Nat) : Int) := by
      rw [cnmul]
      exact congrArg cn (by omega)
    have ii : ∀ i : Nat, i < 7 → cn ((7 * n : Nat) : Int) + cn i = cn ((7 * n + i : Nat) : Int) := fun i hi => by
      rw [cnadd]
      exact congrArg cn (by omega)
    have r0' : (v12_does q (cn k) a b c d x f).2.1 12 1 0 = 0 := r0
    have hact : v12_act q (cn k) a b c d x f = ((v12_does q (cn k) a b c d x f).1.toInt32, logQ R n (cn k) a b c d x f) ∧ g12_act q (cn k) a b c d x f := by
      have j1 := ii 1 (by decide)
      have j2 := ii 2 (by decide)
      have j3 := ii 3 (by decide)
      have j4 := ii 4 (by decide)
      have j5 := ii 5 (by decide)
      have j6 := ii 6 (by decide)
      have hx : ∀ i : Nat, i < 7 → inb (cn ((7 * n + i : Nat) : Int)) 3640 := fun i hi => cninb (by omega) (by omega)
      have l60 : ∀ (Q : PM) (i : Nat) (u : Int32), (pI Q 13 40 i u).1 12 1 60 = Q.1 12 1 60 := fun Q i u => by rw [pI_1, u3_k (by decide)]
      constructor
      · unfold v12_act bv12_act
        simp only [if_pos r0', hR, h60', i0, l60]
        have e1' : cn ((7 * n : Nat) : Int) + cn 1 = cn ((7 * n + 1 : Nat) : Int) := j1
        have e2' : cn ((7 * n : Nat) : Int) + cn 2 = cn ((7 * n + 2 : Nat) : Int) := j2
        have e3' : cn ((7 * n : Nat) : Int) + cn 3 = cn ((7 * n + 3 : Nat) : Int) := j3
        have e4' : cn ((7 * n : Nat) : Int) + cn 4 = cn ((7 * n + 4 : Nat) : Int) := j4
        have e5' : cn ((7 * n : Nat) : Int) + cn 5 = cn ((7 * n + 5 : Nat) : Int) := j5
        have e6' : cn ((7 * n : Nat) : Int) + cn 6 = cn ((7 * n + 6 : Nat) : Int) := j6
        simp only [e1', e2', e3', e4', e5', e6', cntk (i := 7 * n) (by omega), cntk (i := 7 * n + 1) (by omega), cntk (i := 7 * n + 2) (by omega), cntk (i := 7 * n + 3) (by omega), cntk (i := 7 * n + 4) (by omega), cntk (i := 7 * n + 5) (by omega), cntk (i := 7 * n + 6) (by omega), cnsucc]
        rfl
      · unfold g12_act bg12_act
        have e1' : cn ((7 * n : Nat) : Int) + cn 1 = cn ((7 * n + 1 : Nat) : Int) := j1
        have e2' : cn ((7 * n : Nat) : Int) + cn 2 = cn ((7 * n + 2 : Nat) : Int) := j2
        have e3' : cn ((7 * n : Nat) : Int) + cn 3 = cn ((7 * n + 3 : Nat) : Int) := j3
        have e4' : cn ((7 * n : Nat) : Int) + cn 4 = cn ((7 * n + 4 : Nat) : Int) := j4
        have e5' : cn ((7 * n : Nat) : Int) + cn 5 = cn ((7 * n + 5 : Nat) : Int) := j5
        have e6' : cn ((7 * n : Nat) : Int) + cn 6 = cn ((7 * n + 6 : Nat) : Int) := j6
        simp only [if_pos r0', hR, h60', i0, e1', e2', e3', e4', e5', e6']
        exact ⟨G, w2, hx 0 (by decide), hx 1 (by decide), hx 2 (by decide), hx 3 (by decide), hx 4 (by decide), hx 5 (by decide), hx 6 (by decide), trivial⟩
    have hOT := W3.2.2.2.2.2.1
    obtain ⟨WL, RL⟩ := ww_log (q' := logQ R n (cn k) a b c d x f) (lg' := lgB (lgw lg n (cn k) a b c d x f) (e + 1)) W3 (fun K h => log_13 h) (fun S h => log_12 h) log_15 rfl (fun j hj => by
      rw [log_40 hj (hOT.2.2.2.2.2.2.2.1 j hj)]
      unfold lgw
      rw [lgB_o (lg := lg) (by omega) (by omega), lgB_o (by omega) (by omega)]) (by
      rw [lgB_o (by decide) (by decide)]
      unfold logQ lgw
      rw [pI_at, if_neg (by omega), if_neg (by omega), if_neg (by omega), if_neg (by omega), if_neg (by omega), if_neg (by omega), if_neg (by omega), if_pos rfl]) (by
      rw [lgB_o (by decide) (by decide), lgB_o (by decide) (by decide)]
      unfold lgw
      rw [if_neg (by omega), if_neg (by omega), if_neg (by omega), if_neg (by omega), if_neg (by omega), if_neg (by omega), if_neg (by omega), if_neg (by omega)]) rfl rfl (fun j h1 h2 => by
      rw [lgB_o (by omega) (by omega), lgB_o (by omega) (by omega), lgw_f hn h1])
    refine ⟨g1, w1, hact.2, logQ R n (cn k) a b c d x f, N2, T3, D3, ?_, ?_, ⟨WL, npa_c w4 (fun K h => log_13 h) log_15, sb_c (sb_fx S1 F) (fun K h => log_13 h) (fun S h => log_12 (by omega)) log_15, by omega, by omega, by omega⟩, by rw [hR]⟩
    · rw [hact.1, e1]
    · rw [log_12 (by decide), F.1 0 (by decide)]
      exact r0
  · intro h0 h4
    have r2 := A2 h0
    dsimp only at r2
    have nz : ¬ cn (kE p a b c d x f k : Int) = 0 := by
      rw [zcn, cneq ⟨by omega, by omega⟩ (by decide)]
      omega
    have rt : ¬ (v12_does q (cn k) a b c d x f).2.1 12 1 0 = 0 := by
      rw [r2, t_1]
      exact nz
    refine ⟨?_, ?_, iv_th ⟨H, hN, hS, n1, t1, d1⟩⟩
    · unfold g12_act bg12_act
      simp only [if_neg rt]
      exact ⟨G, trivial⟩
    · unfold v12_act bv12_act
      simp only [if_neg rt]
      rw [r2]
end Act
