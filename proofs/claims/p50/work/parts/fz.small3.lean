/-! payments, withdrawals, auctions, time, days: with their refusals -/
section Small3
variable {p q : PM} {lg : Nat → Int32} {N T D e : Nat}
theorem do_pay {m c u : Int32} (he : e + 1 ≤ 600) (H : WW p q (lgB lg e) 99 99 (fun _ => False) N T D 6 (fun _ => 0)) (hS : SB q e) : (g12_doPay q m c u ∧ DoE (lgB lg (e + 1)) q N T D 60 0 (kPay p m c u) (g2_bring p m c u) (v2_bring p m c u) ((v12_doPay q m c u).1.toInt32, (v12_doPay q m c u).2)) ∧ (kPay p m c u = 0 → SB (v12_doPay q m c u).2 (e + 1)) := by
  have c10 : ¬ cn 1 = (0 : Int32) := by decide
  have c20 : ¬ cn 2 = (0 : Int32) := by decide
  have c30 : ¬ cn 3 = (0 : Int32) := by decide
  have c00 : cn 0 = (0 : Int32) := rfl
  have gi : ∀ a b c, g12_in q a b c := fun a b c => g_in q a b c
  obtain ⟨k1, k1g⟩ := pay_t (q := pI q 12 1 0 (cn 1)) (a := m) (b := c) (c := u) (by rw [t_1]; exact c10)
  obtain ⟨k2, k2g⟩ := pay_t (q := pI q 12 1 0 (cn 2)) (a := m) (b := c) (c := u) (by rw [t_1]; exact c20)
  obtain ⟨k3, k3g⟩ := pay_t (q := pI q 12 1 0 (cn 3)) (a := m) (b := c) (c := u) (by rw [t_1]; exact c30)
  have e38 : v12_doPay_38 q m c u = (cl 0, pI q 12 1 0 (cn 2)) ∧ g12_doPay_38 q m c u := by
    unfold v12_doPay_38 bv12_doPay_38 g12_doPay_38 bg12_doPay_38
    simp only [t_1, if_neg c20, k2]
    exact ⟨trivial, k2g⟩
  by_cases h1 : isW m (cn 0) (cn 3) = 0
  · have h1' : v12_in q m (cn 0) (cn 3) = 0 := h1
    unfold kPay v12_doPay bv12_doPay g12_doPay bg12_doPay
    simp only [t_1, if_neg c10, if_pos h1, if_pos h1', k1]
    exact ⟨⟨⟨gi _ _ _, k1g⟩, doe_x (by decide) rfl⟩, fun h => absurd h (by decide)⟩
  have h1' : ¬ v12_in q m (cn 0) (cn 3) = 0 := h1
  by_cases h2 : isW c (cn (-9999)) (cn 9999) = 0
  · have h2' : v12_in q c (cn (-9999)) (cn 9999) = 0 := h2
    unfold kPay v12_doPay bv12_doPay g12_doPay bg12_doPay
    simp only [if_neg h1, if_neg h1', if_pos h2, if_pos h2', e38.1]
    exact ⟨⟨⟨gi _ _ _, gi _ _ _, e38.2⟩, doe_x (by decide) rfl⟩, fun h => absurd h (by decide)⟩
  have h2' : ¬ v12_in q c (cn (-9999)) (cn 9999) = 0 := h2
  by_cases h3 : isW u (cn (-99)) (cn 99) = 0
  · have h3' : v12_in q u (cn (-99)) (cn 99) = 0 := h3
    unfold kPay v12_doPay bv12_doPay g12_doPay bg12_doPay
    simp only [if_neg h1, if_neg h1', if_neg h2, if_neg h2', if_pos h3, if_pos h3', e38.1]
    exact ⟨⟨⟨gi _ _ _, gi _ _ _, gi _ _ _, e38.2⟩, doe_x (by decide) rfl⟩, fun h => absurd h (by decide)⟩
  have h3' : ¬ v12_in q u (cn (-99)) (cn 99) = 0 := h3
  obtain ⟨m, hm, rfl⟩ := isW_n (b := 3) (by decide) h1
  obtain ⟨c, w1, w2, rfl⟩ := isW_z (a := -9999) (b := 9999) (by decide) (by decide) h2
  obtain ⟨u, u1, u2, rfl⟩ := isW_z (a := -99) (b := 99) (by decide) (by decide) h3
  have i4 := cninb (i := m) (n := 4) (by omega) (by omega)
  have em := member_e p (a := m) (by omega)
  have W0 := ww_th (cn 0) H
  obtain ⟨Q0, hQ0⟩ : ∃ Q0, pI q 12 1 0 (cn 0) = Q0 := ⟨_, rfl⟩
  rw [hQ0] at W0
  have r0 : Q0.1 12 1 0 = 0 := by rw [← hQ0]; exact t_1
  have r13 : Q0.1 13 = q.1 13 := by rw [← hQ0]; exact th_k (by decide)
  have r15 : Q0.1 15 = q.1 15 := by rw [← hQ0]; exact th_k (by decide)
  have t3 : pI Q0 12 1 0 (cn 3) = pI q 12 1 0 (cn 3) := by rw [← hQ0, t_t]
  have hB0 : MB Q0 (e : Int) := by
    unfold MB
    rw [r13]
    exact hS.1
  obtain ⟨⟨z, z0, z1, z2, z3⟩, ⟨y, y0, y1, y2, y3⟩, -, ⟨ef, -⟩, -⟩ := W0.2.2.2.2.2.1.1 m (by omega)
  have e36 : p.1 9 (m + 1) 0 = Q0.1 13 36 m := by rw [z2, z3]
  have e37 : p.1 9 (m + 1) 1 = Q0.1 13 37 m := by rw [y2, y3]
  have ep37 : ∀ v, (pI Q0 13 36 m v).1 13 37 m = Q0.1 13 37 m := fun v => by rw [pI_1, u3_i (by decide)]
  obtain ⟨A, hA⟩ : ∃ A, Q0.1 13 36 m + cn c = A := ⟨_, rfl⟩
  obtain ⟨U, hU⟩ : ∃ U, Q0.1 13 37 m + cn u = U := ⟨_, rfl⟩
  obtain ⟨⟨gc1, gc2⟩, ec⟩ := call_eq (mg_ww W0) (m := m) (by omega) A U
  have hk : v2_canPay p (cn m) (cn c) (cn u) = if Q0.1 15 9 m = 0 then (if A < 0 then cn 0 else if U < 0 then cn 0 else if cn c < 0 then (if lg_cmp (v2_callOf p (cn m) A U) (cl 0) = 0 then cn 1 else cn 0) else if cn u < 0 then (if lg_cmp (v2_callOf p (cn m) A U) (cl 0) = 0 then cn 1 else cn 0) else cn 1) else cn 0 := by
    unfold v2_canPay bv2_canPay
    simp only [em, ef, e36, e37, hA, hU]
  -- the reference, before the payment
  have hP : v12_doPay q (cn m) (cn c) (cn u) = (if Q0.1 15 9 m = 0 then (if A < 0 then (cl 0, pI q 12 1 0 (cn 3)) else if U < 0 then (cl 0, pI q 12 1 0 (cn 3)) else v12_doPay_89 Q0 (cn m) (cn c) (cn u)) else (cl 0, pI q 12 1 0 (cn 3))) ∧ ((Q0.1 15 9 m = 0 → ¬ A < 0 → ¬ U < 0 → g12_doPay_89 Q0 (cn m) (cn c) (cn u)) → g12_doPay q (cn m) (cn c) (cn u)) := by
    constructor
    · unfold v12_doPay bv12_doPay
      simp only [if_neg h1', if_neg h2', if_neg h3', hQ0, r0, if_true, cntk (i := m) (by omega), hA, hU, t3, k3]
    · intro g
      unfold g12_doPay bg12_doPay
      simp only [if_neg h1', if_neg h2', if_neg h3', hQ0, r0, if_true, cntk (i := m) (by omega), hA, hU, t3]
      refine ⟨gi _ _ _, gi _ _ _, gi _ _ _, i4, ?_⟩
      by_cases x1 : Q0.1 15 9 m = 0
      · rw [if_pos x1]
        refine ⟨i4, ?_⟩
        by_cases x2 : A < 0
        · rw [if_pos x2]
          exact k3g
        · rw [if_neg x2]
          refine ⟨i4, ?_⟩
          by_cases x3 : U < 0
          · rw [if_pos x3]
            exact k3g
          · rw [if_neg x3]
            exact g x1 x2 x3
      · rw [if_neg x1]
        exact k3g
  have kk : kPay p (cn m) (cn c) (cn u) = if v2_canPay p (cn m) (cn c) (cn u) = 0 then 3 else 0 := by
    unfold kPay
    rw [if_neg h1, if_neg h2, if_neg h3]
  rw [kk, hk]
  by_cases x1 : Q0.1 15 9 m = 0
  · rw [if_pos x1] at hP ⊢
    by_cases x2 : A < 0
    · rw [if_pos x2] at hP ⊢
      rw [hP.1]
      exact ⟨⟨hP.2 (fun _ h => absurd x2 h), doe_x (by decide) rfl⟩, fun h => absurd h (by decide)⟩
    rw [if_neg x2] at hP ⊢
    by_cases x3 : U < 0
    · rw [if_pos x3] at hP ⊢
      rw [hP.1]
      exact ⟨⟨hP.2 (fun _ _ h => absurd x3 h), doe_x (by decide) rfl⟩, fun h => absurd h (by decide)⟩
    rw [if_neg x3] at hP ⊢
    obtain ⟨⟨o1, o2⟩, ⟨v, o3, o4⟩, o5⟩ := pay_do W0 (m := m) (by omega) hB0 (by omega) (by omega) w1 w2 u1 u2 (by rw [hA]; exact x2) (by rw [hU]; exact x3)
    rw [hA, hU] at o2 o3 o4 o5
    -- it is done
    have acc : v12_doPay_89 Q0 (cn m) (cn c) (cn u) = (v, pI (pI Q0 13 36 m A) 13 37 m U) → ((Q0.1 15 9 m = 0 → ¬ A < 0 → ¬ U < 0 → g12_doPay_89 Q0 (cn m) (cn c) (cn u))) → (g12_doPay q (cn m) (cn c) (cn u) ∧ DoE (lgB lg (e + 1)) q N T D 60 0 0 (g2_bring p (cn m) (cn c) (cn u)) (v2_bring p (cn m) (cn c) (cn u)) ((v12_doPay q (cn m) (cn c) (cn u)).1.toInt32, (v12_doPay q (cn m) (cn c) (cn u)).2)) ∧ (0 = 0 → SB (v12_doPay q (cn m) (cn c) (cn u)).2 (e + 1)) := by
      intro ev eg
      rw [hP.1, ev]
      obtain ⟨s1, s2, ⟨t, t1, t2⟩, d, d1, d2⟩ := hS
      have q12 : ∀ S, ¬ S = 0 → (pI (pI Q0 13 36 m A) 13 37 m U).1 12 1 S = q.1 12 1 S := by
        intro S h
        rw [pI_1, u3_k (by decide), pI_1, u3_k (by decide), ← hQ0, pI_1, u3_s h]
      have q15 : ∀ K, (pI (pI Q0 13 36 m A) 13 37 m U).1 15 K = q.1 15 K := by
        intro K
        rw [← r15]
        funext i
        rw [pI_1, u3_k (by decide), pI_1, u3_k (by decide)]
      refine ⟨⟨hP.2 eg, doe_a (by omega) o1 ?_ (by rw [hQ0]; exact o4)⟩, fun _ => ⟨o5, fi_c s2 (q15 9) (q15 10) (q12 57 (by decide)), ⟨t, by omega, ?_⟩, d, by omega, ?_⟩⟩
      · show (pI (pI Q0 13 36 m A) 13 37 m U).1 12 1 0 = cn 0
        rw [pI_1, u3_k (by decide), pI_1, u3_k (by decide), r0]
        rfl
      · rw [q12 17 (by decide)]
        exact t2
      · rw [q12 18 (by decide)]
        exact d2
    have rcl : lg_cmp (cl 0) (cl 0) = 0 := by decide
    by_cases x4 : cn c < 0
    · rw [if_pos x4]
      by_cases x5 : lg_cmp (v2_callOf p (cn m) A U) (cl 0) = 0
      · rw [if_pos x5, if_neg cn01]
        have x6 : ¬ 0 < lg_cmp (v2_callOf p (cn m) A U) (cl 0) := by
          rw [co_nn]
          exact fun h => h x5
        refine acc ?_ (fun _ _ _ => ?_)
        · unfold v12_doPay_89 bv12_doPay_89
          simp only [r0, if_true, if_pos x4, cntk (i := m) (by omega), hA, hU, ec, if_neg x6, ep37, o3]
        · unfold g12_doPay_89 bg12_doPay_89
          simp only [r0, if_true, if_pos x4, cntk (i := m) (by omega), hA, hU, ec, if_neg x6, ep37]
          exact ⟨i4, i4, gc2, i4, i4, i4, i4, o2, trivial⟩
      · have x6 : 0 < lg_cmp (v2_callOf p (cn m) A U) (cl 0) := by
          rw [co_nn]
          exact x5
        have e89 : v12_doPay_89 Q0 (cn m) (cn c) (cn u) = (cl 0, pI q 12 1 0 (cn 3)) ∧ g12_doPay_89 Q0 (cn m) (cn c) (cn u) := by
          unfold v12_doPay_89 bv12_doPay_89 g12_doPay_89 bg12_doPay_89
          simp only [r0, if_true, if_pos x4, cntk (i := m) (by omega), hA, hU, ec, if_pos x6, t_1, if_neg c30, t3]
          exact ⟨trivial, i4, i4, gc2, trivial⟩
        rw [if_neg x5, if_pos c00, hP.1, e89.1]
        exact ⟨⟨hP.2 (fun _ _ _ => e89.2), doe_x (by decide) rfl⟩, fun h => absurd h (by decide)⟩
    · rw [if_neg x4]
      by_cases x7 : cn u < 0
      · rw [if_pos x7]
        by_cases x5 : lg_cmp (v2_callOf p (cn m) A U) (cl 0) = 0
        · rw [if_pos x5, if_neg cn01]
          have x6 : ¬ 0 < lg_cmp (v2_callOf p (cn m) A U) (cl 0) := by
            rw [co_nn]
            exact fun h => h x5
          refine acc ?_ (fun _ _ _ => ?_)
          · unfold v12_doPay_89 bv12_doPay_89
            simp only [r0, if_true, if_neg x4, if_pos x7, cntk (i := m) (by omega), hA, hU, ec, if_neg x6, ep37, o3]
          · unfold g12_doPay_89 bg12_doPay_89
            simp only [r0, if_true, if_neg x4, if_pos x7, cntk (i := m) (by omega), hA, hU, ec, if_neg x6, ep37]
            exact ⟨i4, i4, gc2, i4, i4, i4, i4, o2, trivial⟩
        · have x6 : 0 < lg_cmp (v2_callOf p (cn m) A U) (cl 0) := by
            rw [co_nn]
            exact x5
          have e89 : v12_doPay_89 Q0 (cn m) (cn c) (cn u) = (cl 0, pI q 12 1 0 (cn 3)) ∧ g12_doPay_89 Q0 (cn m) (cn c) (cn u) := by
            unfold v12_doPay_89 bv12_doPay_89 g12_doPay_89 bg12_doPay_89
            simp only [r0, if_true, if_neg x4, if_pos x7, cntk (i := m) (by omega), hA, hU, ec, if_pos x6, t_1, if_neg c30, t3]
            exact ⟨trivial, i4, i4, gc2, trivial⟩
          rw [if_neg x5, if_pos c00, hP.1, e89.1]
          exact ⟨⟨hP.2 (fun _ _ _ => e89.2), doe_x (by decide) rfl⟩, fun h => absurd h (by decide)⟩
      · rw [if_neg x7, if_neg cn01]
        refine acc ?_ (fun _ _ _ => ?_)
        · unfold v12_doPay_89 bv12_doPay_89
          simp only [r0, if_true, if_neg x4, if_neg x7, cntk (i := m) (by omega), hA, hU, ep37, o3]
        · unfold g12_doPay_89 bg12_doPay_89
          simp only [r0, if_true, if_neg x4, if_neg x7, cntk (i := m) (by omega), hA, hU, ep37]
          exact ⟨i4, i4, i4, i4, o2, trivial⟩
  · rw [if_neg x1] at hP ⊢
    rw [hP.1]
    exact ⟨⟨hP.2 (fun h => absurd h x1), doe_x (by decide) rfl⟩, fun h => absurd h (by decide)⟩
theorem do_cancel {v : Int32} (he : e + 1 ≤ 2000) (H : WW p q (lgB lg e) 99 99 (fun _ => False) N T D 6 (fun _ => 0)) : g12_doCancel q v ∧ DoE (lgB lg (e + 1)) q N T D 60 0 (kCancel p v) (g6_withdraw p v) (v6_withdraw p v) (v12_doCancel q v) := by
  have c10 : ¬ cn 1 = (0 : Int32) := by decide
  have c20 : ¬ cn 2 = (0 : Int32) := by decide
  have c00 : cn 0 = (0 : Int32) := rfl
  obtain ⟨⟨g1, g2⟩, hf⟩ := find_eq H.1.1 H.1.2.1 v
  unfold kCancel v12_doCancel bv12_doCancel g12_doCancel bg12_doCancel
  simp only [t_1, if_neg c10, if_neg c20, if_pos c00]
  rcases hf with ⟨f1, f2⟩ | ⟨j, hj, f1, f2, f3, f4⟩
  · have n1 : cn (-1) < (0 : Int32) := by decide
    simp only [f1, f2, if_pos n1, if_true]
    exact ⟨⟨g2, trivial⟩, doe_x (by decide) rfl⟩
  · have hzj : ¬ j + 1 = 0 := by omega
    have nj : ¬ cn (j : Int) < 0 := cnge (by omega)
    have i44 := cninb (i := j) (n := 44) (by omega) (by omega)
    obtain ⟨_, a, b, r, s, z, hL⟩ := slot_live (H.1.1.1 j hj) (by rw [f3]; exact cn01)
    obtain ⟨hb, b1', b2'⟩ := hL.2.1
    have i6 := cninb (i := b) (n := 6) hb (by omega)
    obtain ⟨t, -, t1, t2⟩ := H.2.2.2.2.2.1.2.2.2.2.2.1
    obtain ⟨x1, x2⟩ := ww_cancel (ww_th (cn 0) H) hj (by rw [th_k (by decide)]; exact f3) f1 g1
    have hop := open_eq hb H.2.2.1
    have gop := g_open (q := q) hb
    have fin : ∀ K : Nat, K = 0 → DoE (lgB lg (e + 1)) q N T D 60 0 K (g6_withdraw p v) (v6_withdraw p v) ((pI (pI q 12 1 0 (cn 0)) 15 3 j (cn 0)).1 13 17 j, pI (pI q 12 1 0 (cn 0)) 15 3 j (cn 0)) := by
      intro K hK
      rw [hK]
      refine doe_a (x := cn 0) he x1 ?_ ?_
      · rw [pI_1, u3_k (by decide), pI_at]
      · rw [pI_1, u3_k (by decide)]
        exact x2
    simp only [f1, f2, if_neg hzj, if_neg nj, cntk (i := j) (by omega), b1', b2']
    unfold v1_isFrozen bv1_isFrozen
    rcases (H.2.2.1 b hb).2.2.1 with ⟨y1, y2⟩ | ⟨y1, y2, ⟨E, E1, E2, E3⟩, ⟨f, w1, w2, w3, w4⟩, -⟩
    · have ho : ¬ v12_isOpen q (cn b) = 0 := by
        rw [← hop, y1]
        rfl
      have hz : p.1 1 (b + 1) 5 = 0 := y1
      simp only [if_neg ho, if_pos hz, if_pos c00]
      exact ⟨⟨g2, i44, gop, i44, i44, trivial⟩, fin _ (by rfl)⟩
    · have ho : v12_isOpen q (cn b) = 0 := by
        rw [open_e q (by omega), E3, if_neg (by rw [cneq ⟨by omega, by omega⟩ (by decide)]; omega)]
        rfl
      have hz : ¬ p.1 1 (b + 1) 5 = 0 := by
        rw [y1]
        exact cn01
      simp only [if_pos ho, if_neg hz, y2, w3, E3, w4, t1, t2, cntk (i := b) (by omega)]
      by_cases hlt : cn (t : Int) < cn E - cn f
      · simp only [if_pos hlt, if_pos c00]
        exact ⟨⟨g2, i44, gop, i44, i6, i44, i6, i44, i44, trivial⟩, fin _ rfl⟩
      · simp only [if_neg hlt, if_neg c10]
        exact ⟨⟨g2, i44, gop, i44, i6, i44, i6, trivial⟩, doe_x (by decide) rfl⟩
end Small3
