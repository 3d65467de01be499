/-! what the law keeps, event by event -/
noncomputable def dQ (Q : PM) (k : Nat) (a b c d x y : Int32) : PM := (v12_does Q (cn (k : Int)) a b c d x y).2
noncomputable def eQ2 (Q : PM) (n k : Nat) (a b c d x y : Int32) : PM := logQ (v12_works (dQ Q k a b c d x y)) n (cn (k : Int)) a b c d x y
/-- positions sum up to nothing, all that there is to what was brought in, and calls stay low -/
def LI (Q : PM) (t : Nat) (ou : Int64) : Prop := S0 Q ∧ ToQ Q = cl 1300 + ou ∧ LB Q t
section Evs
variable {P0 P1 Q : PM} {cl' lg : Nat → Int32} {N T D tt f g k t t' : Nat} {a b c d x y : Int32} {ou : Int64}
theorem ps_ww {p q : PM} {e xx yy l : Nat} {w : Nat → Prop} {ff : Nat → Int} (W : WW p q (lgB lg e) xx yy w N T D l ff) (he : e ≤ 2000) (hD : D ≤ 1000000) : ∀ C, C < 4 → psF (q.1 13 1) C 9 ≤ 2000000000 := by
  intro C hC
  have h := W.2.2.2.2.2.1.2.2.2.2.2.2.2.2.2.2.1 C hC
  rw [lgB_2 he, W.2.2.2.1.2.2.1, cn_I ⟨by omega, by omega⟩] at h
  omega
theorem jn_mid (hk : k < 27) (htt : tt < 512) (J : JN lg P0 P1 Q cl' N T D tt f g) (h0 : kE P0 a b c d x y k = 0) : (dQ Q k a b c d x y).1 12 1 0 = 0 ∧ FeF (dQ Q k a b c d x y) ∧ FeF (v12_works (dQ Q k a b c d x y)) ∧ FI (dQ Q k a b c d x y) ∧ ∀ C, C < 4 → psF ((dQ Q k a b c d x y).1 13 1) C 9 ≤ 2000000000 := by
  obtain ⟨I, ⟨hg0, hg1, hfl⟩, ⟨h60, h61⟩, ⟨hf, hgt, ht5⟩, -⟩ := id J
  obtain ⟨-, ⟨A1, -⟩, A3⟩ := does_all (a := a) (b := b) (c := c) (d := d) (x := x) (f := y) (k := k) hk (Or.inl hfl) (Or.inl hfl) (e := tt) (by omega) I
  obtain ⟨-, h12, -, N2, T2, D2, -, -, W, -, hD⟩ := A1 h0
  obtain ⟨-, -, r, Q2, -, -, s1, -⟩ := sem_ev (a := a) (b := b) (c := c) (d := d) (x := x) (y := y) hk htt J
  obtain ⟨⟨-, eQ⟩, lg2, N3, T3, D3, J3⟩ := s1 h0
  have F2 := fe_ww J3.1.1
  rw [eQ] at F2
  have hR1 := (RS_rng W.1.1 40 (by decide)).1
  have hR0 := (RS_rng I.1.1.1 40 (by decide)).2
  have hD0 := I.2.2.2.2.2
  have hRa := (RS_rng I.1.1.1 40 (by decide)).1
  refine ⟨h12, fe_ww W, fe_c (log_13 (by decide)).symm (log_12 (by decide)).symm F2, (A3 h0).2.1, ps_ww W (by omega) ?_⟩
  dsimp only at hD hR1
  omega
theorem lb_fin (hk : k < 27) (htt : tt < 512) (J : JN lg P0 P1 Q cl' N T D tt f g) (h0 : kE P0 a b c d x y k = 0) (H : LB (dQ Q k a b c d x y) t) : LB (eQ2 Q tt k a b c d x y) t := by
  obtain ⟨-, -, h, -⟩ := jn_mid hk htt J h0
  exact lb_log (lb_works H h) h
theorem li_ev (hk : lkd k) (htt : tt < 512) (J : JN lg P0 P1 Q cl' N T D tt f g) (h0 : kE P0 a b c d x y k = 0) (L : LI Q t ou) (H : LB (dQ Q k a b c d x y) t') : LI (eQ2 Q tt k a b c d x y) t' ou := by
  obtain ⟨I, ⟨hg0, hg1, hfl⟩, ⟨h60, h61⟩, ⟨hf, hgt, ht5⟩, -⟩ := id J
  have hk27 : k < 27 ∧ ¬ (k = 15 ∨ k = 18 ∨ k = 26) := by
    unfold lkd at hk
    omega
  have B := bal_act (a := a) (b := b) (c := c) (d := d) (x := x) (f := y) hk27.1 hk27.2 (e := tt) (by omega) (n := tt) (by omega) I h60 L.1 h0
  have TQ := toq_act (a := a) (b := b) (c := c) (d := d) (x := x) (f := y) hk hk27.1 hk27.2 (e := tt) (by omega) (n := tt) (by omega) I h60 L.1 h0
  exact ⟨B.1, TQ.trans L.2.1, lb_fin hk27.1 htt J h0 H⟩
theorem li_pay {m : Nat} {v : Int} {u : Int32} (hm : m < 4) (v1 : 0 ≤ v) (v2 : v ≤ 9999) (htt : tt < 512) (J : JN lg P0 P1 Q cl' N T D tt f g) (h0 : kE P0 (cn m) (cn v) u d x y 22 = 0) (L : LI Q t ou) : LI (eQ2 Q tt 22 (cn m) (cn v) u d x y) t (ou + cl v) := by
  obtain ⟨I, ⟨hg0, hg1, hfl⟩, ⟨h60, h61⟩, ⟨hf, hgt, ht5⟩, -⟩ := id J
  have B := bal_act (a := cn m) (b := cn v) (c := u) (d := d) (x := x) (f := y) (k := 22) (by decide) (by decide) (e := tt) (by omega) (n := tt) (by omega) I h60 L.1 h0
  have TQ := toq_pay (d := d) (x := x) (f := y) hm v1 v2 (e := tt) (by omega) (n := tt) (by omega) I hfl h60 L.1 h0
  refine ⟨B.1, ?_, lb_fin (k := 22) (by decide) htt J h0 (lb_qt L.2.2 qt_22 (fe_ww J.1.1))⟩
  rw [← Int64.add_assoc, ← L.2.1]
  exact TQ
theorem li_close (htt : tt < 512) (ht : t ≤ 1000) (J : JN lg P0 P1 Q cl' N T D tt f g) (h0 : kE P0 a b c d x y 26 = 0) (L : LI Q t ou) : LI (eQ2 Q tt 26 a b c d x y) (t + 1) ou := by
  obtain ⟨I, ⟨hg0, hg1, hfl⟩, ⟨h60, h61⟩, ⟨hf, hgt, ht5⟩, -⟩ := id J
  have hk0 : kClose P0 = 0 := h0
  have B := bal_close (a := a) (b := b) (c := c) (d := d) (x := x) (f := y) (e := tt) (by omega) (n := tt) (by omega) I hfl L.1 hk0
  have hFI : FI Q := I.2.2.1.2.1
  have hRS := RS_rng I.1.1.1 40 (by decide)
  have hd := I.2.2.2.2.2
  obtain ⟨-, A3⟩ := do_close hfl (e := tt) (by omega) (by omega) I.1 hFI
  obtain ⟨f1, -, -, f4⟩ := A3 hk0
  obtain ⟨m, s, hm, hs, e1, e2, h57, hw, hH⟩ := clo_pos I.1 hFI hk0
  obtain ⟨G, M, hM, H⟩ := L.2.2
  obtain ⟨G', H'⟩ := bn_close (t := t) H hFI (fun k hk => (I.1.2.2.2.2.2.1.1 k hk).2.2.2.1.2) hm hs e1 e2 h57 hw hH (f4 m hm h57) f1
  have e : dQ Q 26 a b c d x y = (v12_doCloseOut Q).2 := does26
  have H2 : LB (dQ Q 26 a b c d x y) (t + 1) := by
    rw [e]
    exact lb_of H'
  exact ⟨B.1, B.2.1.trans L.2.1, lb_fin (k := 26) (by decide) htt J h0 H2⟩
theorem lq_up {q p : PM} {A B : Nat} (h : A ≤ B) (H : LQ q p A) : LQ q p B := by
  obtain ⟨j, hj, e⟩ := H
  exact ⟨j, by omega, e⟩
theorem hi_p {B : Nat} {z : Int} (hB : B < 6) (h1 : B < 4 → 96 ≤ z ∧ z ≤ 108) (h2 : ¬ B < 4 → -4 ≤ z ∧ z ≤ 8) : -100000 ≤ (cn z).toInt ∧ (cn z).toInt ≤ hi (cn (B : Int)) 8 108 := by
  unfold hi
  by_cases h : B < 4
  · have hz := h1 h
    have hc : ¬ (cn (B : Int) = cn 4 ∨ cn (B : Int) = cn 5) := by
      rw [cneq ⟨by omega, by omega⟩ (by decide), cneq ⟨by omega, by omega⟩ (by decide)]
      omega
    rw [if_neg hc, cn_I ⟨by omega, by omega⟩]
    omega
  · have hz := h2 h
    have hc : cn (B : Int) = cn 4 ∨ cn (B : Int) = cn 5 := by
      rw [cneq ⟨by omega, by omega⟩ (by decide), cneq ⟨by omega, by omega⟩ (by decide)]
      omega
    rw [if_pos hc, cn_I ⟨by omega, by omega⟩]
    omega
theorem li_or (hk6 : k < 6) (O : OrdA k a b c d x y) (htt : tt < 512) (ht : t ≤ 1000) (J : JN lg P0 P1 Q cl' N T D tt f g) (h0 : kE P0 a b c d x y k = 0) (L : LI Q t ou) : LI (eQ2 Q tt k a b c d x y) (t + 1) ou := by
  refine li_ev (by unfold lkd; omega) htt J h0 L ?_
  have F := (jn_mid (by omega) htt J h0).2.1
  obtain ⟨A, B, z, v, hA, hB, ⟨z1, z2⟩, ⟨v1, v2, v0⟩, rfl, rfl, hh⟩ := O
  have hp := hi_p (z := z) hB (fun h => by have := z1 h; omega) (fun h => by have := z2 h; omega)
  have hp4 := hi_p (z := z + 4) hB (fun h => by have := z1 h; omega) (fun h => by have := z2 h; omega)
  have hv7 : (cn v).toInt.natAbs ≤ 7 := by
    rw [cn_I ⟨by omega, by omega⟩]
    omega
  have hA8 : (cn (A : Int)).toNatClampNeg < 8 := by
    rw [cntk (by omega)]
    exact hA
  rcases hh with ⟨rfl, rfl, rfl, rfl, rfl⟩ | ⟨rfl, rfl, rfl, rfl, rfl⟩ | ⟨rfl, rfl, rfl, rfl, rfl⟩ | ⟨rfl, rfl, rfl, rfl, rfl⟩ | ⟨rfl, -, rfl, rfl, rfl, rfl⟩ | ⟨rfl, rfl, rfl, rfl, rfl⟩
  · have e : dQ Q 0 (cn (A : Int)) (cn (B : Int)) (cn z) (cn v) (cn 0) (cn 1) = (v12_doLimit Q (cn (A : Int)) (cn (B : Int)) (cn z) (cn v) (cn 0) (cn 1)).2 := dk_0
    rw [e] at F ⊢
    exact lb_or L.2.2 ht (zr_v12_doLimit _ _ _ _ _ _ (zr_refl Q)) (kr_v12_doLimit _ _ _ _ _ _ (kr_refl Q)) (lq_up hv7 (lq_v12_doLimit _ _ _ _ _ _ (lr_refl Q))) (fun M hM h => pl_v12_doLimit hM _ _ _ _ _ _ hp h) F
  · have e : dQ Q 1 (cn (A : Int)) (cn (B : Int)) (cn v) (cn 0) (cn 0) (cn 0) = (v12_doMarket Q (cn (A : Int)) (cn (B : Int)) (cn v)).2 := dk_1
    rw [e] at F ⊢
    exact lb_or L.2.2 ht (zr_v12_doMarket _ _ _ (zr_refl Q)) (kr_v12_doMarket _ _ _ (kr_refl Q)) (lq_up hv7 (lq_v12_doMarket _ _ _ (lr_refl Q))) (fun M hM h => pl_v12_doMarket hM _ _ _ h) F
  · have e : dQ Q 2 (cn (A : Int)) (cn (B : Int)) (cn z) (cn v) (cn 1) (cn 0) = (v12_doIceberg Q (cn (A : Int)) (cn (B : Int)) (cn z) (cn v) (cn 1)).2 := dk_2
    rw [e] at F ⊢
    exact lb_or L.2.2 ht (zr_v12_doIceberg _ _ _ _ _ (zr_refl Q)) (kr_v12_doIceberg _ _ _ _ _ (kr_refl Q)) (lq_up hv7 (lq_v12_doIceberg _ _ _ _ _ (lr_refl Q))) (fun M hM h => pl_v12_doIceberg hM _ _ _ _ _ hp h) F
  · have e : dQ Q 3 (cn (A : Int)) (cn (B : Int)) (cn z) (cn v) (cn 2) (cn 0) = (v12_doPeg Q (cn (A : Int)) (cn (B : Int)) (cn z) (cn v) (cn 2)).2 := dk_3
    rw [e] at F ⊢
    exact lb_or L.2.2 ht (zr_v12_doPeg _ _ _ _ _ (zr_refl Q)) (kr_v12_doPeg _ _ _ _ _ (kr_refl Q)) (lq_up hv7 (lq_v12_doPeg _ _ _ _ _ (lr_refl Q))) (fun M hM h => pl_v12_doPeg hM _ _ _ _ _ hp (by decide) h) F
  · have e : dQ Q 4 (cn (A : Int)) (cn (B : Int)) (cn z) (cn 0) (cn v) (cn 0) = (v12_doStop Q (cn (A : Int)) (cn (B : Int)) (cn z) (cn 0) (cn v)).2 := dk_4
    rw [e] at F ⊢
    exact lb_or L.2.2 ht (zr_v12_doStop _ _ _ _ _ (zr_refl Q)) (kr_v12_doStop _ _ _ _ _ (kr_refl Q)) (lq_up hv7 (lq_v12_doStop _ _ _ _ _ (lr_refl Q))) (fun M hM h => pl_v12_doStop hM _ _ _ _ _ (pl_mkt _) h) F
  · have e : dQ Q 5 (cn (A : Int)) (cn (B : Int)) (cn z) (cn z + cn 4) (cn 3) (cn 0) = (v12_doQuote Q (cn (A : Int)) (cn (B : Int)) (cn z) (cn z + cn 4) (cn 3)).2 := dk_5
    rw [e] at F ⊢
    exact lb_or L.2.2 ht (zr_v12_doQuote _ _ _ _ _ hA8 (zr_refl Q)) (kr_v12_doQuote _ _ _ _ _ (kr_refl Q)) (lq_up (by decide) (lq_v12_doQuote _ _ _ _ _ (by decide) (lr_refl Q))) (fun M hM h => pl_v12_doQuote hM _ _ _ _ _ hp (by rw [cnadd]; exact hp4) h) F
theorem li_7 (htt : tt < 512) (J : JN lg P0 P1 Q cl' N T D tt f g) (h0 : kE P0 a b c d x y 7 = 0) (L : LI Q t ou) : LI (eQ2 Q tt 7 a b c d x y) t ou := by
  refine li_ev (by unfold lkd; omega) htt J h0 L ?_
  have F := (jn_mid (k := 7) (by decide) htt J h0).2.1
  have e : dQ Q 7 a b c d x y = (v12_doRule Q a b c d).2 := dk_7
  rw [e] at F ⊢
  exact lb_fr L.2.2 (zr_v12_doRule _ _ _ _ (zr_refl Q)) (kr_v12_doRule _ _ _ _ (kr_refl Q)) (lr_v12_doRule _ _ _ _ (lr_refl Q)) (fun M hM h => (pf_v12_doRule hM _ _ _ _ (pf_refl h)).2) F
theorem li_8 (htt : tt < 512) (J : JN lg P0 P1 Q cl' N T D tt f g) (h0 : kE P0 a b c d x y 8 = 0) (L : LI Q t ou) : LI (eQ2 Q tt 8 a b c d x y) t ou := li_ev (by unfold lkd; omega) htt J h0 L (lb_qt L.2.2 qt_8 (fe_ww J.1.1))
theorem li_9 (htt : tt < 512) (J : JN lg P0 P1 Q cl' N T D tt f g) (h0 : kE P0 a b c d x y 9 = 0) (L : LI Q t ou) : LI (eQ2 Q tt 9 a b c d x y) t ou := li_ev (by unfold lkd; omega) htt J h0 L (lb_qt L.2.2 qt_9 (fe_ww J.1.1))
theorem li_21 (htt : tt < 512) (J : JN lg P0 P1 Q cl' N T D tt f g) (h0 : kE P0 a b c d x y 21 = 0) (L : LI Q t ou) : LI (eQ2 Q tt 21 a b c d x y) t ou := by
  have h : LB (v12_does Q (cn 21) a b c d x y).2 t := lb_qt (q' := (v12_does Q (cn 21) a b c d x y).2) L.2.2 qt_21 (fe_ww J.1.1)
  have e : dQ Q 21 a b c d x y = (v12_does Q (cn 21) a b c d x y).2 := by
    unfold dQ
    rw [show cn ((21 : Nat) : Int) = cn 21 from rfl]
  exact li_ev (by unfold lkd; omega) htt J h0 L (by rw [e]; exact h)
theorem li_11 (htt : tt < 512) (J : JN lg P0 P1 Q cl' N T D tt f g) (h0 : kE P0 a b c d x y 11 = 0) (L : LI Q t ou) : LI (eQ2 Q tt 11 a b c d x y) t ou := by
  refine li_ev (by unfold lkd; omega) htt J h0 L ?_
  have F := (jn_mid (k := 11) (by decide) htt J h0).2.1
  have e : dQ Q 11 a b c d x y = (v12_doAuction Q a b c d).2 := dk_11
  rw [e] at F ⊢
  exact lb_fr L.2.2 (zr_v12_doAuction _ _ _ _ (zr_refl Q)) (kr_v12_doAuction _ _ _ _ (kr_refl Q)) (lr_v12_doAuction _ _ _ _ (lr_refl Q)) (fun M hM h => (pf_v12_doAuction hM _ _ _ _ (pf_refl h)).2) F
theorem li_12 (htt : tt < 512) (J : JN lg P0 P1 Q cl' N T D tt f g) (h0 : kE P0 a b c d x y 12 = 0) (L : LI Q t ou) : LI (eQ2 Q tt 12 a b c d x y) t ou := by
  refine li_ev (by unfold lkd; omega) htt J h0 L ?_
  have F := (jn_mid (k := 12) (by decide) htt J h0).2.1
  have e : dQ Q 12 a b c d x y = (v12_doPass Q a).2 := dk_12
  rw [e] at F ⊢
  exact lb_fr L.2.2 (zr_v12_doPass _ (zr_refl Q)) (kr_v12_doPass _ (kr_refl Q)) (lr_v12_doPass _ (lr_refl Q)) (fun M hM h => (pf_v12_doPass hM _ (pf_refl h)).2) F
theorem li_13 (htt : tt < 512) (J : JN lg P0 P1 Q cl' N T D tt f g) (h0 : kE P0 a b c d x y 13 = 0) (L : LI Q t ou) : LI (eQ2 Q tt 13 a b c d x y) t ou := by
  refine li_ev (by unfold lkd; omega) htt J h0 L ?_
  have F := (jn_mid (k := 13) (by decide) htt J h0).2.1
  have e : dQ Q 13 a b c d x y = (v12_doEndDay Q).2 := dk_13
  rw [e] at F ⊢
  exact lb_fr L.2.2 (zr_v12_doEndDay (zr_refl Q)) (kr_v12_doEndDay (kr_refl Q)) (lr_v12_doEndDay (lr_refl Q)) (fun M hM h => (pf_v12_doEndDay hM (pf_refl h)).2) F
theorem li_14 (htt : tt < 512) (J : JN lg P0 P1 Q cl' N T D tt f g) (h0 : kE P0 a b c d x y 14 = 0) (L : LI Q t ou) : LI (eQ2 Q tt 14 a b c d x y) (t + 1) ou := by
  refine li_ev (by unfold lkd; omega) htt J h0 L ?_
  have F := (jn_mid (k := 14) (by decide) htt J h0).2.1
  have e : dQ Q 14 a b c d x y = (v12_doBust Q a).2 := dk_14
  rw [e] at F ⊢
  obtain ⟨k, n, u, X, hk, hn, hX, hu, B⟩ := bust_e (e := tt) (by omega) J.1.1 (show kBust P0 a = 0 from h0)
  exact lb_bust L.2.2 hk hn hX hu B (mvr_kr (kr_v12_doBust _ (kr_refl Q))) F
theorem li_19 {c0 : Nat} {n dd : Int} (hc : c0 < 3) (n1 : 1 ≤ n) (n3 : n ≤ 3) (d1 : 1 ≤ dd) (d3 : dd ≤ 3) (htt : tt < 512) (J : JN lg P0 P1 Q cl' N T D tt f g) (h0 : kE P0 (cn (c0 : Int)) (cn n) (cn dd) d x y 19 = 0) (L : LI Q t ou) : LI (eQ2 Q tt 19 (cn (c0 : Int)) (cn n) (cn dd) d x y) (t + 1) ou := by
  obtain ⟨I, ⟨hg0, hg1, hfl⟩, ⟨h60, h61⟩, ⟨hf, hgt, ht5⟩, -⟩ := id J
  refine li_ev (by unfold lkd; omega) htt J h0 L ?_
  obtain ⟨-, -, -, -, hps⟩ := jn_mid (k := 19) (by decide) htt J h0
  obtain ⟨z1, z2⟩ := iv_cs I (by omega)
  obtain ⟨u, v, hU⟩ := enc64 z1 z2
  have I2 : IV (flg Q lg u v (cn 0)) P0 Q N T D tt := ⟨ww_flg I.1 L.1 hU, I.2⟩
  obtain ⟨-, ⟨A1, -⟩, -⟩ := does_all (a := cn (c0 : Int)) (b := cn n) (c := cn dd) (d := d) (x := x) (f := y) (k := 19) (by decide) (Or.inr (by decide)) (Or.inr (Or.inl (by rw [flg_7]; decide))) (e := tt) (by omega) I2
  obtain ⟨-, -, -, N2, T2, D2, -, -, W, -⟩ := A1 h0
  have p4 := W.2.2.2.2.2.1.2.2.2.2.2.2.2.2.2.2.2.2.2.1
  rw [lgB_o (by decide) (by decide), flg_6] at p4
  have S1 : S0 (dQ Q 19 (cn (c0 : Int)) (cn n) (cn dd) d x y) := (p4 rfl).1
  have hRS := RS_rng I.1.1.1 40 (by decide)
  have hd := I.2.2.2.2.2
  have hps0 := ps_ww I.1 (by omega) (by omega)
  have e : dQ Q 19 (cn (c0 : Int)) (cn n) (cn dd) d x y = (v12_doConvert Q (cn (c0 : Int)) (cn n) (cn dd)).2 := dk_19
  obtain ⟨Q', zl, zr, eQ', a1, a2, a3, a4, a5, a6, a7, a8, a9, a10⟩ := conv_e hc n1 (by omega) d1 (by omega) I.1 (show kConv P0 (cn (c0 : Int)) (cn n) (cn dd) = 0 from h0)
  rw [e, eQ'] at S1 hps ⊢
  obtain ⟨G, M, hM, H⟩ := L.2.2
  exact lb_of (bn_conv hc n1 n3 d1 d3 H (hps0 c0 (by omega)) (hps c0 (by omega)) (L.1 c0 hc) (S1 c0 hc) a1 a2 a3 a4 a5 a6 a7 a8 a9 a10)
theorem li_20 {s0 c0 : Nat} {z : Int} (hs : s0 < 4) (hc : c0 < 4) (z1 : -20 ≤ z) (z2 : z ≤ 20) (htt : tt < 512) (ht : t ≤ 1000) (J : JN lg P0 P1 Q cl' N T D tt f g) (h0 : kE P0 (cn (s0 : Int)) (cn (c0 : Int)) (cn z) d x y 20 = 0) (L : LI Q t ou) : LI (eQ2 Q tt 20 (cn (s0 : Int)) (cn (c0 : Int)) (cn z) d x y) (t + 1) ou := by
  refine li_ev (by unfold lkd; omega) htt J h0 L ?_
  have h12 : (v12_does Q (cn 20) (cn (s0 : Int)) (cn (c0 : Int)) (cn z) d x y).2.1 12 1 0 = 0 := (jn_mid (k := 20) (by decide) htt J h0).1
  exact lb_move (q' := (v12_does Q (cn 20) (cn (s0 : Int)) (cn (c0 : Int)) (cn z) d x y).2) L.2.2 ht hs hc z1 z2 qt_20 (mv_20 hs hc h12)
theorem li_24 {m : Nat} (hm : m < 4) (htt : tt < 512) (ht : t ≤ 1000) (J : JN lg P0 P1 Q cl' N T D tt f g) (h0 : kE P0 (cn (m : Int)) b c d x y 24 = 0) (L : LI Q t ou) : LI (eQ2 Q tt 24 (cn (m : Int)) b c d x y) (t + 1) ou := by
  obtain ⟨I, -⟩ := id J
  refine li_ev (by unfold lkd; omega) htt J h0 L ?_
  have h12 := (jn_mid (k := 24) (by decide) htt J h0).1
  have e : dQ Q 24 (cn (m : Int)) b c d x y = (v12_doFail Q (cn (m : Int))).2 := dk_24
  rw [e] at h12 ⊢
  obtain ⟨f1, f2, f3, f4, ⟨f5, f6⟩, f7, f8, f9, fa⟩ := fail_x h12
  rw [cntk (i := m) (by omega)] at f1 f6
  have h57 : Q.1 12 1 57 = cn (-1) := by
    rcases I.1.2.2.2.2.2.1.2.2.2.2.1 with ⟨-, h⟩ | ⟨k, hk, -, h⟩
    · exact h
    · rw [h] at f5
      exact absurd f5 (cnge (by omega))
  exact lb_fail L.2.2 ht hm I.2.2.1.2.1 h57 f6 f1 f2 f3 f4 f7 f8 f9 fa
theorem li_25 {m : Nat} (hm : m < 4) (htt : tt < 512) (ht : t ≤ 1000) (J : JN lg P0 P1 Q cl' N T D tt f g) (h0 : kE P0 (cn (m : Int)) b c d x y 25 = 0) (L : LI Q t ou) : LI (eQ2 Q tt 25 (cn (m : Int)) b c d x y) (t + 1) ou := by
  refine li_ev (by unfold lkd; omega) htt J h0 L ?_
  have h12 := (jn_mid (k := 25) (by decide) htt J h0).1
  have e : dQ Q 25 (cn (m : Int)) b c d x y = (v12_doBid Q (cn (m : Int)) b).2 := dk_25
  rw [e] at h12 ⊢
  obtain ⟨f1, f2, f3, f4, f5, f6, f7, f8, f9⟩ := bid_x h12
  exact lb_bid (m := m) L.2.2 ht f1 f2 (fun h => f5 (by rw [h]; decide)) f4 f6 f7 f8 f9
/-- what is refused leaves all -/
theorem li_ref {v : Int32} (J : JN lg P0 P1 Q cl' N T D tt f g) (L : LI Q t ou) : LI (pI Q 12 1 0 v) t ou := by
  have e13 : ∀ K, (pI Q 12 1 0 v).1 13 K = Q.1 13 K := fun K => by
    funext j
    rw [pI_1, u3_k (by decide)]
  refine ⟨fun c hc => ?_, ?_, lb_ref L.2.2 (fe_ww J.1.1)⟩
  · rw [e13]
    exact L.1 c hc
  · rw [← L.2.1]
    exact tt_c rfl (e13 36) (e13 38) (by rw [pI_1, u3_s (by decide)])
theorem li_up (h : t ≤ t') (L : LI Q t ou) : LI Q t' ou := ⟨L.1, L.2.1, lb_up L.2.2 h⟩
end Evs
