/-! a failed portfolio is closed out -/
noncomputable def kClose (p : PM) : Nat := if p.1 2 1 6 = cn (-100000) then 1 else 0
/-- who bids has not failed; whose portfolio is open has -/
def FI (q : PM) : Prop := (∀ k, k < 4 → q.1 15 10 k = cn 1 → q.1 15 9 k = cn 0) ∧ (∀ m : Nat, m < 4 → q.1 12 1 57 = cn m → q.1 15 9 m = cn 1) ∧ (q.1 12 1 57 = cn (-1) → ∀ k, k < 4 → q.1 15 10 k = cn 0)
/-- money and units do not grow -/
def ML (q q2 : PM) : Prop := ∀ k, k < 4 → (∃ z z0 : Int, 0 ≤ z ∧ z ≤ z0 ∧ z0 ≤ 10000000 ∧ q.1 13 36 k = cn z0 ∧ q2.1 13 36 k = cn z) ∧ (∃ z z0 : Int, 0 ≤ z ∧ z ≤ z0 ∧ z0 ≤ 100000 ∧ q.1 13 37 k = cn z0 ∧ q2.1 13 37 k = cn z)
/-- bids are forgotten -/
def FG (p p' q q' : PM) (i : Nat) : Prop := (∀ K, ¬ K = 9 → p'.1 K = p.1 K) ∧ (∀ j S, ¬ S = 4 → ¬ S = 5 → p'.1 9 j S = p.1 9 j S) ∧ p'.2 = p.2 ∧ (∀ k, k < i → p'.1 9 (k + 1) 4 = cn 0) ∧ (∀ K, ¬ K = 15 → q'.1 K = q.1 K) ∧ (∀ K, ¬ K = 10 → q'.1 15 K = q.1 15 K) ∧ q'.2 = q.2 ∧ ∀ k, k < i → q'.1 15 10 k = cn 0
section Close2
variable {p q p' q' : PM} {lg lg' : Nat → Int32} {N T D m : Nat}
theorem fgb_loop : ∀ (d i n n' : Nat) (p' q' : PM), i + d = 4 → d < n → d < n' → FG p p' q q' i → ∃ p2 q2, FG p p2 q q2 4 ∧ v2_closePortfolio_37 n p' (cn i) = (p.1 2 1 8, pI p2 2 1 6 (cn (-100000))) ∧ v12_doCloseOut_238 n' q' (cn i) = (q.1 12 1 68, q2) ∧ g2_closePortfolio_37 n p' (cn i) ∧ g12_doCloseOut_238 n' q' (cn i) := by
  intro d
  induction d with
  | zero =>
    intro i n n' p' q' h1 h2 h3 H
    obtain ⟨n1, rfl⟩ : ∃ z9, n = z9 + 1 := ⟨n - 1, by omega⟩
    obtain ⟨n2, rfl⟩ : ∃ z9, n' = z9 + 1 := ⟨n' - 1, by omega⟩
    have e : i = 4 := by omega
    subst e
    have hn := lpf (i := 4) (N := 4) (by omega) (by omega) (by omega)
    refine ⟨p', q', H, ?_, ?_, ?_, ?_⟩
    · rw [ev2_closePortfolio_37]
      unfold bv2_closePortfolio_37
      rw [if_neg hn]
      show ((pI p' 2 1 6 (cn (-100000))).1 2 1 8, pI p' 2 1 6 (cn (-100000))) = _
      rw [pI_1, u3_s (by decide), H.1 2 (by decide)]
    · rw [ev12_doCloseOut_238]
      unfold bv12_doCloseOut_238
      rw [if_neg hn, H.2.2.2.2.1 12 (by decide)]
    · rw [eg2_closePortfolio_37]
      unfold bg2_closePortfolio_37
      rw [if_neg hn]
      exact trivial
    · rw [eg12_doCloseOut_238]
      unfold bg12_doCloseOut_238
      rw [if_neg hn]
      exact trivial
  | succ d ih =>
    intro i n n' p' q' h1 h2 h3 H
    obtain ⟨n1, rfl⟩ : ∃ z9, n = z9 + 1 := ⟨n - 1, by omega⟩
    obtain ⟨n2, rfl⟩ : ∃ z9, n' = z9 + 1 := ⟨n' - 1, by omega⟩
    obtain ⟨f1, f2, f3, f4, f5, f6, f7, f8⟩ := H
    have l4 : cn (i : Int) < cn 4 := lpt (by omega) (by omega)
    have hi := cninb (i := i) (n := 4) (by omega) (by omega)
    have efb : ∀ P : PM, v9_forgetBid P (i + 1) = pI (pI P 9 (i + 1) 4 (cn 0)) 9 (i + 1) 5 (cn 0) := fun _ => rfl
    have gfb : ∀ P : PM, g9_forgetBid P (i + 1) := fun _ => ⟨by omega, by omega, trivial⟩
    obtain ⟨p2, q2, k1, k2, k3, k4, k5⟩ := ih (i + 1) n1 n2 (pI (pI p' 9 (i + 1) 4 (cn 0)) 9 (i + 1) 5 (cn 0)) (pI q' 15 10 i (cn 0)) (by omega) (by omega) (by omega) ⟨fun K h => by
      rw [← f1 K h]
      funext j S
      rw [pI_1, u3_k h, pI_1, u3_k h], fun j S h h' => by
      rw [pI_1, u3_s h', pI_1, u3_s h]
      exact f2 j S h h', f3, fun k hk => by
      by_cases e : k = i
      · rw [e, pI_1, u3_s (by decide), pI_at]
      · rw [pI_1, u3_i (by omega), pI_1, u3_i (by omega)]
        exact f4 k (by omega), fun K h => by
      rw [← f5 K h]
      funext j S
      rw [pI_1, u3_k h], fun K h => by
      rw [← f6 K h]
      funext j
      rw [pI_1, u3_i h], f7, fun k hk => by
      by_cases e : k = i
      · rw [e, pI_at]
      · rw [pI_1, u3_s e]
        exact f8 k (by omega)⟩
    refine ⟨p2, q2, k1, ?_, ?_, ?_, ?_⟩
    · rw [ev2_closePortfolio_37]
      unfold bv2_closePortfolio_37
      simp only [if_pos l4, cntk (i := i) (by omega), efb, cnsucc]
      exact k2
    · rw [ev12_doCloseOut_238]
      unfold bv12_doCloseOut_238
      simp only [if_pos l4, cntk (i := i) (by omega), cnsucc]
      exact k3
    · rw [eg2_closePortfolio_37]
      unfold bg2_closePortfolio_37
      simp only [if_pos l4, cntk (i := i) (by omega), efb, cnsucc]
      exact ⟨hi, gfb _, k4⟩
    · rw [eg12_doCloseOut_238]
      unfold bg12_doCloseOut_238
      simp only [if_pos l4, cntk (i := i) (by omega), cnsucc]
      exact ⟨hi, k5⟩
theorem ww_clo {l : Nat} {f : Nat → Int} (H : WW p q lg 99 99 (fun _ => False) N T D l f) (hlg : ∀ j, ¬ j = 4002 → ¬ j = 4003 → lg' j = lg j) (h1 : ∀ K, ¬ K = 2 → ¬ K = 9 → ¬ K = 13 → p'.1 K = p.1 K) (h72 : ∀ i, i % 2 = 0 ∨ 19 ≤ i → p'.1 13 i = p.1 13 i) (h2 : p'.2.2 = p.2.2) (k1 : ∀ K, ¬ K = 1 → (K < 36 ∨ 38 < K) → q'.1 13 K = q.1 13 K) (k2 : ∀ K, ¬ K = 10 → q'.1 15 K = q.1 15 K) (k3 : ∀ S, ¬ S = 0 → ¬ S = 57 → ¬ S = 58 → ¬ S = 68 → q'.1 12 1 S = q.1 12 1 S) (hA : ∀ a, a < 9 → AcR p' q' a) (m1 : ∀ m, m < 4 → (∃ z : Int, 0 ≤ z ∧ z ≤ 10000000 ∧ p'.1 9 (m + 1) 0 = cn z ∧ q'.1 13 36 m = cn z) ∧ (∃ z : Int, 0 ≤ z ∧ z ≤ 100000 ∧ p'.1 9 (m + 1) 1 = cn z ∧ q'.1 13 37 m = cn z) ∧ (∃ z : Int, 0 ≤ z ∧ z ≤ 9999 ∧ p'.1 9 (m + 1) 2 = cn z ∧ q'.1 13 38 m = cn z) ∧ (p'.1 9 (m + 1) 3 = q'.1 15 9 m ∧ b01 (q'.1 15 9 m)) ∧ (p'.1 9 (m + 1) 4 = q'.1 15 10 m ∧ b01 (q'.1 15 10 m)) ∧ (q'.1 15 10 m = cn 1 → ∃ z : Int, -9999 ≤ z ∧ z ≤ 9999 ∧ p'.1 9 (m + 1) 5 = cn z ∧ q'.1 13 39 m = cn z)) (m3 : p'.1 2 1 4 = p.1 2 1 4) (m4 : ∃ z : Int, 0 ≤ z ∧ z ≤ 500 ∧ p'.1 2 1 5 = cn z ∧ q'.1 12 1 58 = cn z) (m5 : p'.1 2 1 6 = cn (-100000) ∧ q'.1 12 1 57 = cn (-1)) (hP : PD q' lg') : WW p' q' lg' 99 99 (fun _ => False) N T D l f ∧ RS q' 40 = RS q 40 := by
  obtain ⟨hO, hA0, hB, hD, hK, hT, hI, hF⟩ := H
  have e0 := h1 0 (by decide) (by decide) (by decide)
  have e1 := h1 1 (by decide) (by decide) (by decide)
  refine ⟨⟨?_, ⟨hA, fun a ha => ⟨(hA0.2 a ha).1, ?_⟩⟩, ?_, ?_, ck_c e0 e1 hK, ?_, ?_, ?_⟩, ?_⟩
  · exact ord_c (h1 10 (by decide) (by decide) (by decide)) (by rw [h2]) (by rw [h1 6 (by decide) (by decide) (by decide)]) (by rw [h1 6 (by decide) (by decide) (by decide)]) (fun K _ _ => k1 K (by omega) (by omega)) (fun K _ _ => k2 K (by omega)) (k3 39 (by decide) (by decide) (by decide) (by decide)) (k3 40 (by decide) (by decide) (by decide) (by decide)) hO
  · have h := (hA0.2 a ha).2
    unfold TrF at h ⊢
    rw [e0, h72 (2 * (a + 1)) (by omega), k1 2 (by decide) (by decide), k1 3 (by decide) (by decide), k1 4 (by decide) (by decide), k1 5 (by decide) (by decide), k2 1 (by decide)]
    exact h
  · exact brl_c e1 (fun i _ _ => k1 i (by omega) (by omega)) (k2 2 (by decide)) hB
  · exact dr_c (h1 4 (by decide) (by decide) (by decide)) (h1 7 (by decide) (by decide) (by decide)) (by rw [h2]) (fun i _ _ => k1 i (by omega) (by omega)) (k2 7 (by decide)) (k2 8 (by decide)) (k3 48 (by decide) (by decide) (by decide) (by decide)) hD
  · obtain ⟨a1, a2, a3, a4, a5, a6, a7, a8, a9, a10, -⟩ := hT
    have e6 := h1 6 (by decide) (by decide) (by decide)
    refine ⟨m1, fun s c hs hc => ?_, ?_, m4, Or.inl m5, ?_, ?_, fun j hj => ?_, ?_, ?_, hP⟩
    · rw [h72 (20 + s) (by omega), k1 35 (by decide) (by decide)]
      exact a2 s c hs hc
    · rw [m3, k3 50 (by decide) (by decide) (by decide) (by decide)]
      exact a3
    · rw [e6, k3 17 (by decide) (by decide) (by decide) (by decide)]
      exact a6
    · rw [e6, k3 18 (by decide) (by decide) (by decide) (by decide)]
      exact a7
    · rw [k1 40 (by decide) (by decide), hlg j (by omega) (by omega)]
      exact a8 j hj
    · rw [k3 60 (by decide) (by decide) (by decide) (by decide), hlg 4000 (by decide) (by decide)]
      exact a9
    · rw [k3 61 (by decide) (by decide) (by decide) (by decide), hlg 4001 (by decide) (by decide)]
      exact a10
  · exact iq_c (fun K _ _ => k1 K (by omega) (by omega)) (fun K _ _ => k2 K (by omega)) (k1 12 (by decide) (by decide)) (k1 30 (by decide) (by decide)) (k3 17 (by decide) (by decide) (by decide) (by decide)) hI
  · exact fb_c (k2 3 (by decide)) (k1 17 (by decide) (by decide)) (k1 4 (by decide) (by decide)) (k3 95 (by decide) (by decide) (by decide) (by decide)) hF
  · exact RS_c (k2 3 (by decide)) (k1 17 (by decide) (by decide))
/-- what else is so behind a close-out -/
def CLX (q Q : PM) (m : Nat) (F : Nat → Int) : Prop := (∀ a, a < 8 → ¬ a = 2 * m → ¬ a = 2 * m + 1 → max (Q.2.1 14 1 a).toInt (-(Q.2.1 14 1 a).toInt) ≤ max (q.2.1 14 1 a).toInt (-(q.2.1 14 1 a).toInt) + F a) ∧ (∀ K, ¬ K = 1 → (K < 36 ∨ 38 < K) → Q.1 13 K = q.1 13 K) ∧ (∀ K, ¬ K = 10 → Q.1 15 K = q.1 15 K) ∧ Q.1 12 1 57 = cn (-1) ∧ ∀ S, ¬ S = 0 → ¬ S = 57 → ¬ S = 58 → ¬ S = 68 → Q.1 12 1 S = q.1 12 1 S
/-- handed over, covered, forgotten -/
theorem clo_do {e t : Nat} {w best : Int32} {am : Int64} {A : Int} (hfl : ¬ lg 4006 = cn 1) (he : e + 1 ≤ 2000) (hD : D ≤ 1000000) (H : WW p q (lgB lg e) 99 99 (fun _ => False) N T D 6 (fun _ => 0)) (hm : m < 4) (h6 : p.1 2 1 6 = cn m) (h9 : q.1 15 9 m = cn 1) (hW : WnR q w best) (ht : t < 9) (h1 : ¬ t = 2 * m) (h2 : ¬ t = 2 * m + 1) (hA1 : max am.toInt (-am.toInt) ≤ A) (hA2 : A ≤ 20000000000000) : ∃ (P Q : PM) (r : Int32), v2_closePortfolio_37 FU (v2_cover (v2_handOver_74 FU p (2 * m + 1) (2 * m + 2) (t + 1) am (cn 0)) w) (cn 0) = (r, P) ∧ v12_doCloseOut_72 FU q (cn m) best am (cn t) (cn 0) = (r, Q) ∧ WW P Q (lgB lg (e + 1)) 99 99 (fun _ => False) N T D 6 (fun _ => 0) ∧ RS Q 40 = RS q 40 ∧ Q.1 12 1 0 = q.1 12 1 0 ∧ FI Q ∧ (ML q Q ∧ BaL q Q) ∧ (g2_handOver_74 FU p (2 * m + 1) (2 * m + 2) (t + 1) am (cn 0) ∧ g2_cover (v2_handOver_74 FU p (2 * m + 1) (2 * m + 2) (t + 1) am (cn 0)) w ∧ g2_closePortfolio_37 FU (v2_cover (v2_handOver_74 FU p (2 * m + 1) (2 * m + 2) (t + 1) am (cn 0)) w) (cn 0)) ∧ g12_doCloseOut_72 FU q (cn m) best am (cn t) (cn 0) ∧ CLX q Q m (fun a => 9999 + (if a = t then A else 0)) := by
  obtain ⟨F, hF, hF2⟩ : ∃ F, FU = F ∧ 100 < F := ⟨FU, rfl, by decide⟩
  have z00 : cn ((0 : Nat) : Int) = cn 0 := rfl
  have hAc := H.2.1.1
  have hT := H.2.2.2.2.2.1
  have hPD := hT.2.2.2.2.2.2.2.2.2.2
  have h48 := H.2.2.2.1.2.2.1
  obtain ⟨p2, q2, k1, k2, k3, k4, k5⟩ := hov_loop (best := best) (am := am) hm ht h1 h2 h6 4 0 F F p q rfl (by omega) (by omega) ⟨fun _ _ => rfl, fun _ _ => rfl, rfl, fun _ _ => rfl, fun _ _ => rfl, rfl, hAc, fun _ _ => Int.le_refl _, rfl, fun _ _ => rfl⟩
  rw [z00] at k2 k3 k4 k5
  obtain ⟨s1, s2, s3, s4', s5, s6, s7, s8, s9, sX⟩ := k1
  obtain ⟨a1, a2⟩ := hc2_acr (am := am) s7 hm ht h1 h2
  obtain ⟨ph, hph⟩ : ∃ ph, hcC2 p2 m t am = ph := ⟨_, rfl⟩
  obtain ⟨qh, hqh⟩ : ∃ qh, hcQ2 q2 m t am = qh := ⟨_, rfl⟩
  have ph1 : ph.1 = p2.1 := by rw [← hph]; rfl
  have phR : ph.2.2 = p2.2.2 := by rw [← hph]; rfl
  have qh1 : qh.1 = q2.1 := by rw [← hqh]; rfl
  rw [hph, hqh] at a1
  rw [hqh] at a2
  rw [hph] at k2
  rw [hqh] at k3 k5
  have hpk : ∀ K, ¬ K = 13 → ph.1 K = p.1 K := fun K h => by rw [ph1]; exact s1 K h
  have hqk : ∀ K, ¬ K = 13 → qh.1 K = q.1 K := fun K h => by rw [qh1]; exact s4' K h
  have hq13 : ∀ K, ¬ K = 1 → qh.1 13 K = q.1 13 K := fun K h => by rw [qh1]; exact s5 K h
  have hcs : csF (qh.2.1 14 1) 9 ≤ csF (q.2.1 14 1) 9 + 2 * A := by
    rw [s6] at a2
    omega
  have hYb : csF (q.2.1 14 1) 9 ≤ 500000000000000000 := by
    have h := hPD.2.2.1
    rw [lgB_3 (by omega), h48, cn_I ⟨by omega, by omega⟩] at h
    omega
  have hM : MeR ph qh := by
    intro k hk
    obtain ⟨-, -, -, b4, b5, b6⟩ := hT.1 k hk
    rw [hpk 9 (by decide), hqk 15 (by decide), hq13 39 (by decide)]
    exact ⟨b4.1, b5.1, b5.2, b6⟩
  have hCB : CB ph qh := by
    refine ⟨fun k hk => ?_, ?_, fun a ha => (a1 a ha).2⟩
    · obtain ⟨b1', b2', b3', -⟩ := hT.1 k hk
      rw [hpk 9 (by decide), hq13 36 (by decide), hq13 37 (by decide), hq13 38 (by decide)]
      exact ⟨b1', b2', b3'⟩
    · rw [hpk 2 (by decide), hqk 12 (by decide)]
      exact hT.2.2.2.1
  have hWh : WnR qh w best := by
    unfold WnR
    rw [hqk 15 (by decide)]
    exact hW
  obtain ⟨pr, hpr, pr1, pr2⟩ := (H.2.2.1 1 (by decide)).1
  obtain ⟨q3, c1, ⟨⟨o1, o2, o3, o4⟩, ⟨o5, o6, o7⟩, o8, o9, oa, ob⟩, c3, cT, c4, c5, cCH⟩ := co_cover (w := w) (best := best) (pr := pr) (Y := csF (q.2.1 14 1) 9 + 2 * A) hm hCB (by rw [hpk 2 (by decide)]; exact h6) hM hWh (by rw [hqk 15 (by decide)]; exact h9) (by rw [hpk 1 (by decide)]; exact pr1) (by rw [hq13 10 (by decide)]; exact pr2) (hpr.2.2 (by decide)) hpr.2.1 hcs (by omega)
  obtain ⟨p3, hp3⟩ : ∃ p3, v2_cover ph w = p3 := ⟨_, rfl⟩
  rw [hp3] at o1 o2 o3 o4 o8 o9 oa ob
  obtain ⟨p4, q4, ⟨f1, f2, f3, f4, f5, f6, f7, f8⟩, g1, g2, g3, g4⟩ := fgb_loop (p := p3) (q := pI q3 12 1 57 (cn (-1))) 4 0 F F p3 (pI q3 12 1 57 (cn (-1))) rfl (by omega) (by omega) ⟨fun _ _ => rfl, fun _ _ _ _ => rfl, rfl, fun k hk => absurd hk (by omega), fun _ _ => rfl, fun _ _ => rfl, rfl, fun k hk => absurd hk (by omega)⟩
  rw [z00] at g1 g2 g3 g4
  rw [hF] at c1 c5
  have e68 : (pI q3 12 1 57 (cn (-1))).1 12 1 68 = p3.1 2 1 8 := by rw [pI_1, u3_s (by decide), ob]
  rw [e68] at g2
  have Q13 : q4.1 13 = q3.1 13 := by
    rw [f5 13 (by decide)]
    funext i S
    rw [pI_1, u3_k (by decide)]
  have Q12 : ∀ S, ¬ S = 57 → q4.1 12 1 S = q3.1 12 1 S := by
    intro S h
    rw [f5 12 (by decide), pI_1, u3_s h]
  have Q15 : ∀ K, ¬ K = 10 → q4.1 15 K = q.1 15 K := by
    intro K h
    rw [f6 K h]
    funext i
    rw [pI_1, u3_k (by decide), o6, hqk 15 (by decide)]
  have P9 : ∀ j S, ¬ S = 4 → ¬ S = 5 → (pI p4 2 1 6 (cn (-100000))).1 9 j S = p3.1 9 j S := by
    intro j S h h'
    rw [pI_1, u3_k (by decide)]
    exact f2 j S h h'
  have PK : ∀ K, ¬ K = 2 → ¬ K = 9 → (pI p4 2 1 6 (cn (-100000))).1 K = ph.1 K := by
    intro K h h'
    rw [← o1 K h h', ← f1 K h']
    funext i S
    rw [pI_1, u3_k h]
  have P2 : ∀ S, ¬ S = 6 → (pI p4 2 1 6 (cn (-100000))).1 2 1 S = p3.1 2 1 S := by
    intro S h
    rw [pI_1, u3_s h, f1 2 (by decide)]
  have hAf : ∀ a, a < 9 → AcR (pI p4 2 1 6 (cn (-100000))) q4 a := by
    intro a ha
    refine ⟨fun c hc => ?_, ?_⟩
    · rw [PK 13 (by decide) (by decide), Q13, o5 1 (by decide)]
      exact (a1 a ha).1 c hc
    · rw [pI_J, f3, f7, pI_J]
      exact oa a ha
  have h10 : ∀ k, k < 4 → q4.1 15 10 k = cn 0 := f8
  have hMf : ML q q4 := by
    intro k hk
    obtain ⟨-, b2', b3'⟩ := o8 k hk
    rw [hq13 36 (by decide)] at b2'
    rw [hq13 37 (by decide)] at b3'
    rw [Q13]
    obtain ⟨x, x0, y1, y2, y3, y4, y5, y6⟩ := b2'
    obtain ⟨u, u0, w1, w2, w3, w4, w5, w6⟩ := b3'
    exact ⟨⟨x, x0, y1, y2, y3, y4, y6⟩, ⟨u, u0, w1, w2, w3, w4, w6⟩⟩
  have hFI : FI q4 := by
    refine ⟨fun k hk h => ?_, fun m' hm' h => ?_, fun _ => h10⟩
    · rw [h10 k hk] at h
      exact absurd h (by decide)
    · rw [f5 12 (by decide), pI_at, cneq (by decide) ⟨by omega, by omega⟩] at h
      omega
  have hWW : WW (pI p4 2 1 6 (cn (-100000))) q4 (lgB lg (e + 1)) 99 99 (fun _ => False) N T D 6 (fun _ => 0) ∧ RS q4 40 = RS q 40 := by
    refine ww_clo H lgB_lg (fun K x1 x2 x3 => ?_) (fun i hi => ?_) ?_ (fun K x1 x2 => ?_) Q15 (fun S x1 x2 x3 x4 => ?_) hAf (fun k hk => ?_) ?_ ?_ ⟨pI_at, ?_⟩ ?_
    · rw [PK K x1 x2]
      exact hpk K x3
    · rw [PK 13 (by decide) (by decide), ph1]
      exact s2 i hi
    · rw [pI_R, f3, o4, phR, s3]
    · rw [Q13, o5 K x2]
      exact hq13 K x1
    · rw [Q12 S x2, o7 S x3 x4, hqk 12 (by decide)]
    · obtain ⟨b1', ⟨x, x0, y1, y2, y3, y4, y5, y6⟩, ⟨u, u0, w1, w2, w3, w4, w5, w6⟩⟩ := o8 k hk
      obtain ⟨-, -, -, b4, -, -⟩ := hT.1 k hk
      rw [P9 _ 0 (by decide) (by decide), P9 _ 1 (by decide) (by decide), P9 _ 2 (by decide) (by decide), P9 _ 3 (by decide) (by decide), Q13, Q15 9 (by decide), h10 k hk]
      refine ⟨⟨x, y1, by omega, y5, y6⟩, ⟨u, w1, by omega, w5, w6⟩, b1', ⟨?_, b4.2⟩, ⟨?_, Or.inl rfl⟩, fun h => absurd h (by decide)⟩
      · rw [o2 _ 3 (by omega), hpk 9 (by decide)]
        exact b4.1
      · rw [pI_1, u3_k (by decide)]
        exact f4 k hk
    · rw [P2 4 (by decide), o3 4 (by decide) (by decide), hpk 2 (by decide)]
    · rw [P2 5 (by decide), Q12 58 (by decide)]
      exact o9
    · rw [f5 12 (by decide), pI_at]
    · refine pd_up he hPD ?_ (fun c hc => ?_) ?_ ?_ (fun h => absurd h hfl) (fun h => absurd h hfl)
      · rw [Q12 48 (by decide), o7 48 (by decide) (by decide), hqk 12 (by decide)]
      · have h := s8 c hc
        rw [Q13, o5 1 (by decide), qh1]
        omega
      · rw [Q13, o5 1 (by decide), qh1]
        exact s9
      · rw [f7, pI_J]
        omega
  have hBL : BaL q q4 := by
    refine ⟨fun c hc => ?_, ?_⟩
    · rw [Q13, o5 1 (by decide), qh1]
      exact sX c (by omega)
    · have t1 : ToQ q4 = ToQ q3 := tt_c (by rw [f7, pI_J]) (by rw [Q13]) (by rw [Q13]) (Q12 58 (by decide))
      have t2 : ToQ qh = ToQ q2 := by
        rw [← hqh]
        exact hc2_tt hm ht h1 h2
      have t3 : ToQ q2 = ToQ q := tt_c (by rw [s6]) (s5 36 (by decide)) (s5 38 (by decide)) (by rw [s4' 12 (by decide)])
      rw [t1, cT, t2, t3]
  rw [hF]
  have hCash : CLX q q4 m (fun a => 9999 + (if a = t then A else 0)) := by
    refine ⟨fun a ha e1 e2 => ?_, fun K x1 x2 => ?_, Q15, by rw [f5 12 (by decide), pI_at], fun S _ x2 x3 x4 => ?_⟩
    rotate_left
    · rw [Q13, o5 K x2]
      exact hq13 K x1
    · rw [Q12 S x2, o7 S x3 x4, hqk 12 (by decide)]
    show _ ≤ _ + (9999 + (if a = t then A else 0))
    have x1 : q4.2.1 14 1 a = q3.2.1 14 1 a := by rw [f7, pI_J]
    have x2 := cCH a ha e1
    have x3 : qh.2.1 14 1 a = (pJ q 14 1 t (q.2.1 14 1 t - am)).2.1 14 1 a := by
      rw [← hqh]
      unfold hcQ2
      rw [pJ_J, u3_s e2, pJ_J, u3_s e1, pJ_J, pJ_J, s6]
    rw [x1]
    rw [x3, pJ_J] at x2
    by_cases e3 : a = t
    · subst e3
      rw [u3_same] at x2
      have h7 := i64_sub_abs (q.2.1 14 1 a) am
      rw [if_pos rfl]
      omega
    · rw [u3_s e3] at x2
      rw [if_neg e3]
      omega
  refine ⟨pI p4 2 1 6 (cn (-100000)), q4, p3.1 2 1 8, ?_, ?_, hWW.1, hWW.2, ?_, hFI, ⟨hMf, hBL⟩, ⟨k4, ?_, ?_⟩, ?_, hCash⟩
  · rw [k2, hp3]
    exact g1
  · rw [k3, c1]
    exact g2
  · rw [Q12 0 (by decide), o7 0 (by decide) (by decide), hqk 12 (by decide)]
  · rw [k2]
    exact c4
  · rw [k2, hp3]
    exact g3
  · exact k5 (c5 g4)
theorem do_close {e : Nat} (hfl : ¬ lg 4006 = cn 1) (he : e + 1 ≤ 2000) (hD : D ≤ 1000000) (H : WW p q (lgB lg e) 99 99 (fun _ => False) N T D 6 (fun _ => 0)) (hFI : FI q) : (g12_doCloseOut q ∧ DoE (lgB lg (e + 1)) q N T D 60 0 (kClose p) (g2_closePortfolio p) (v2_closePortfolio p) (v12_doCloseOut q)) ∧ (kClose p = 0 → FI (v12_doCloseOut q).2 ∧ ML q (v12_doCloseOut q).2 ∧ BaL q (v12_doCloseOut q).2 ∧ ∀ m : Nat, m < 4 → q.1 12 1 57 = cn m → CLX q (v12_doCloseOut q).2 m (fun _ => 20000)) := by
  have hT := H.2.2.2.2.2.1
  have c10 : ¬ cn 1 = (0 : Int32) := by decide
  rcases hT.2.2.2.2.1 with ⟨x1, x2⟩ | ⟨m, hm, x1, x2⟩
  · have hn : cn (-1) < (0 : Int32) := by decide
    have kk : kClose p = 1 := by
      unfold kClose
      rw [if_pos x1]
    rw [kk]
    refine ⟨⟨?_, fun h => absurd h (by decide), fun _ => ?_⟩, fun h => absurd h (by decide)⟩
    · unfold g12_doCloseOut bg12_doCloseOut
      simp only [x2, if_pos hn, t_1, if_neg c10]
    · unfold v12_doCloseOut bv12_doCloseOut
      simp only [x2, if_pos hn, t_1, if_neg c10]
      all_goals rfl
  · have hn : ¬ cn (m : Int) < (0 : Int32) := cnge (by omega)
    have hne : ¬ cn (m : Int) = cn (-100000) := by
      rw [cneq ⟨by omega, by omega⟩ (by decide)]
      omega
    have kk : kClose p = 0 := by
      unfold kClose
      rw [x1, if_neg hne]
    rw [kk]
    have W0 := ww_th (cn 0) H
    generalize hQ0 : pI q 12 1 0 (cn 0) = Q0 at W0
    have r0 : Q0.1 12 1 0 = 0 := by rw [← hQ0]; exact t_1
    have r13 : Q0.1 13 = q.1 13 := by rw [← hQ0]; exact th_k (by decide)
    have r15 : Q0.1 15 = q.1 15 := by rw [← hQ0]; exact th_k (by decide)
    have r57 : Q0.1 12 1 57 = cn m := by
      rw [← hQ0, th_1 (by decide)]
      exact x2
    have RQ0 : RS Q0 40 = RS q 40 := by rw [← hQ0, RS_th]
    have hT0 := W0.2.2.2.2.2.1
    have hM : MeR p Q0 := by
      intro k hk
      obtain ⟨-, -, -, b4, b5, b6⟩ := hT0.1 k hk
      exact ⟨b4.1, b5.1, b5.2, b6⟩
    obtain ⟨hW, gw, gw2⟩ := win_eq hM
    have h9 : Q0.1 15 9 m = cn 1 := by
      rw [r15]
      exact hFI.2.1 m hm x2
    have em := member_e p hm
    obtain ⟨⟨gl, el⟩, gu, eu⟩ := lower_e (p := p) hm
    have mg := mg_ww W0
    obtain ⟨⟨wg1, wg2⟩, we⟩ := worth_eq mg hm
    have hPD := hT0.2.2.2.2.2.2.2.2.2.2
    have hMb : ∀ c, c < 4 → psF (Q0.1 13 1) c 9 ≤ 200000000 := by
      intro c hc
      have h := hPD.1 c hc
      rw [lgB_2 (by omega), W0.2.2.2.1.2.2.1, cn_I ⟨by omega, by omega⟩] at h
      omega
    obtain ⟨Y, wY, wY1, wY2⟩ := worth_b (q := Q0) (M := 200000000) (fun c hc => by
      obtain ⟨z, hz, z1, z2⟩ := (W0.2.2.1 c (by omega)).1
      exact ⟨z, hz.1, hz.2.1, z2⟩) hm hMb (by omega)
    -- one way to end
    have fin : ∀ (t : Nat) (am : Int64), t < 9 → ¬ t = 2 * m → ¬ t = 2 * m + 1 → max am.toInt (-am.toInt) ≤ 20000000000000 → (t < 8 → max am.toInt (-am.toInt) ≤ 9999) → v2_handOver p (v2_highestBidder p) = v2_handOver_74 FU p (2 * m + 1) (2 * m + 2) (t + 1) am (cn 0) → (g2_handOver_74 FU p (2 * m + 1) (2 * m + 2) (t + 1) am (cn 0) → g2_handOver p (v2_highestBidder p)) → v12_doCloseOut q = v12_doCloseOut_72 FU Q0 (cn m) (v12_winner Q0) am (cn t) (cn 0) → (g12_doCloseOut_72 FU Q0 (cn m) (v12_winner Q0) am (cn t) (cn 0) → g12_doCloseOut q) → (g12_doCloseOut q ∧ DoE (lgB lg (e + 1)) q N T D 60 0 0 (g2_closePortfolio p) (v2_closePortfolio p) (v12_doCloseOut q)) ∧ (0 = 0 → FI (v12_doCloseOut q).2 ∧ ML q (v12_doCloseOut q).2 ∧ BaL q (v12_doCloseOut q).2 ∧ ∀ m : Nat, m < 4 → q.1 12 1 57 = cn m → CLX q (v12_doCloseOut q).2 m (fun _ => 20000)) := by
      intro t am ht t1 t2 hA hA8 u1 u2 u3' u4
      obtain ⟨A, hA9, hAA, hA20⟩ : ∃ A : Int, (t < 8 → A ≤ 9999) ∧ max am.toInt (-am.toInt) ≤ A ∧ A ≤ 20000000000000 := ⟨max am.toInt (-am.toInt), hA8, Int.le_refl _, hA⟩
      obtain ⟨P, Q, r, v1, v2, v3, v4, v5, v6, v7, ⟨v8, v9, va⟩, vb, vc⟩ := clo_do hfl he hD W0 hm x1 h9 hW ht t1 t2 hAA hA20
      rw [u3', v2]
      refine ⟨⟨u4 vb, fun _ => ⟨?_, ?_, ?_⟩, fun h => absurd rfl h⟩, fun _ => ⟨v6, ?_, ?_, fun m' hm' em' => ?_⟩⟩
      · unfold g2_closePortfolio bg2_closePortfolio
        rw [x1, if_neg hne]
        simp only [u1]
        exact ⟨gw, u2 v8, v9, va⟩
      · show Q.1 12 1 0 = cn 0
        rw [v5, r0]
        rfl
      · have e1 : v2_closePortfolio p = (r, P) := by
          unfold v2_closePortfolio bv2_closePortfolio
          rw [x1, if_neg hne]
          simp only [u1]
          exact v1
        rw [e1]
        refine ⟨rfl, N, T, D, ⟨Nat.le_refl _, by omega⟩, ⟨Nat.le_refl _, Nat.le_refl _⟩, v3, ?_, ?_⟩
        · show T + RS Q 40 ≤ T + RS q 40 + 60
          rw [v4, RQ0]
          omega
        · show D + RS Q 40 ≤ D + RS q 40 + 60
          rw [v4, RQ0]
          omega
      · intro k hk
        have h := v7.1 k hk
        rw [r13] at h
        exact h
      · refine ⟨fun c hc => ?_, v7.2.2.trans ?_⟩
        · have h := v7.2.1 c hc
          rw [r13] at h
          exact h
        · rw [← hQ0]
          refine tt_c rfl ?_ ?_ ?_
          · rw [th_k (by decide)]
          · rw [th_k (by decide)]
          · rw [pI_1, u3_s (by decide)]
      · rw [x2, cneq ⟨by omega, by omega⟩ ⟨by omega, by omega⟩] at em'
        have emm : m' = m := by omega
        subst emm
        refine ⟨fun a ha e1 e2 => ?_, fun K y1 y2 => (vc.2.1 K y1 y2).trans (by rw [r13]), fun K y1 => (vc.2.2.1 K y1).trans (by rw [r15]), vc.2.2.2.1, fun S y1 y2 y3 y4 => (vc.2.2.2.2 S y1 y2 y3 y4).trans (by rw [← hQ0, th_1 (fun e => y1 e.2)])⟩
        have h : max (Q.2.1 14 1 a).toInt (-(Q.2.1 14 1 a).toInt) ≤ max (Q0.2.1 14 1 a).toInt (-(Q0.2.1 14 1 a).toInt) + (9999 + (if a = t then A else 0)) := vc.1 a ha e1 e2
        have hq0 : Q0.2.1 14 1 a = q.2.1 14 1 a := by rw [← hQ0]; rfl
        rw [hq0] at h
        have h8 : (if a = t then A else 0) ≤ 9999 := by
          by_cases e : a = t
          · rw [if_pos e]
            exact hA9 (by omega)
          · rw [if_neg e]
            omega
        show max (Q.2.1 14 1 a).toInt (-(Q.2.1 14 1 a).toInt) ≤ _ + 20000
        omega
    rcases hW with ⟨w1, w2, w3⟩ | ⟨j, hj, w1, w2, w3⟩
    · have e8 : v7_accountAt p (cn 8) = 9 := account_e p (a := 8) (by decide)
      have g8 : g7_accountAt p (cn 8) := g_account p (a := 8) (by decide)
      have b1' : cn (-1) < (0 : Int32) := by decide
      have t100 : cn (-100000) = cn (-100000) := rfl
      refine fin 8 (v12_worth Q0 (cn m)) (by decide) (by omega) (by omega) ?_ (fun h => absurd h (by decide)) ?_ (fun g => ?_) ?_ (fun g => ?_)
      · rw [wY, cl_I ⟨by omega, by omega⟩]
        omega
      · unfold v2_handOver bv2_handOver
        simp only [w1, x1, el, eu, e8, we, if_true]
        all_goals rfl
      · unfold g2_handOver bg2_handOver
        simp only [w1, x1, el, eu, e8, we, if_true]
        exact ⟨gl, gu, g8, wg1, g⟩
      · unfold v12_doCloseOut bv12_doCloseOut
        simp only [x2, if_neg hn, hQ0, if_pos r0, r57, w2, if_pos b1']
        rfl
      · unfold g12_doCloseOut bg12_doCloseOut
        rw [w2] at g
        simp only [x2, if_neg hn, hQ0, if_pos r0, r57, w2, if_pos b1']
        exact ⟨gw2, wg2, g⟩
    · have hjn : ¬ cn (j : Int) < (0 : Int32) := cnge (by omega)
      have hj1 : ¬ cn (j : Int) = cn (-100000) := by
        rw [cneq ⟨by omega, by omega⟩ (by decide)]
        omega
      have hjm : ¬ j = m := by
        intro h
        rw [r15] at w3 h9
        have h3 := hFI.1 j hj w3
        rw [h, h9] at h3
        exact absurd h3 (by decide)
      obtain ⟨z, z1, z2, z3, z4⟩ := (hM j hj).2.2.2 w3
      have ej := member_e p hj
      have gj := g_member p hj
      obtain ⟨⟨glj, elj⟩, -⟩ := lower_e (p := p) hj
      have i4 := cninb (i := j) (n := 4) hj (by omega)
      refine fin (2 * j) (cl z) (by omega) (by omega) (by omega) ?_ (fun _ => ?_) ?_ (fun g => ?_) ?_ (fun g => ?_)
      · rw [cl_I ⟨by omega, by omega⟩]
        omega
      · rw [cl_I ⟨by omega, by omega⟩]
        omega
      · unfold v2_handOver bv2_handOver
        simp only [w1, x1, el, eu, ej, elj, z3, cn64 (a := z) ⟨by omega, by omega⟩, if_neg hj1]
      · unfold g2_handOver bg2_handOver
        simp only [w1, x1, el, eu, ej, elj, z3, cn64 (a := z) ⟨by omega, by omega⟩, if_neg hj1]
        exact ⟨gl, gu, glj, gj, by omega, g⟩
      · unfold v12_doCloseOut bv12_doCloseOut
        simp only [x2, if_neg hn, hQ0, if_pos r0, r57, w2, if_neg hjn, two_m, cntk (i := j) (by omega), z4, cn64 (a := z) ⟨by omega, by omega⟩]
      · unfold g12_doCloseOut bg12_doCloseOut
        rw [w2] at g
        simp only [x2, if_neg hn, hQ0, if_pos r0, r57, w2, if_neg hjn, two_m, cntk (i := j) (by omega), z4, cn64 (a := z) ⟨by omega, by omega⟩]
        exact ⟨gw2, i4, g⟩
end Close2
