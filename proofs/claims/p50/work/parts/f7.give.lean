/-! giving up, whole -/
section Give
variable {p q : PM} {lg : Nat → Int32} {N T D : Nat}
theorem undo_e {q : PM} {a b k : Nat} {z : Int} {v : Int32} (ha : a < 9) (hb : b < 6) (hk : k < 60) (h1 : q.1 13 30 k = cn b) (h2 : q.1 13 33 k = cn z) : g12_undoes q (cn a) (cn k) v ∧ v12_undoes q (cn a) (cn k) v = hdQ q a b v (cn z) := by
  have hki := cninb (i := k) (n := 60) hk (by omega)
  obtain ⟨g, e⟩ := holds_q (q := q) ha hb v (cn z)
  unfold g12_undoes bg12_undoes v12_undoes bv12_undoes
  simp only [cntk (i := k) (by omega), h1, h2, e]
  exact ⟨⟨hki, hki, g, trivial⟩, trivial⟩
theorem do_give {e : Nat} {a s to : Int32} (he : e + 1 ≤ 2000) (hs : b01 s) (H : WW p q (lgB lg e) 99 99 (fun _ => False) N T D 6 (fun _ => 0)) : g12_doGiveUp q a s to ∧ DoE (lgB lg (e + 1)) q N T D 60 0 (kGive p a to) (g7_replaceSide p a s to) (v7_replaceSide p a s to) (v12_doGiveUp q a s to) := by
  have hDR := H.2.2.2.1
  have hK := H.2.2.2.2.1
  have c10 : ¬ cn 1 = (0 : Int32) := by decide
  have c20 : ¬ cn 2 = (0 : Int32) := by decide
  obtain ⟨⟨gf, gk⟩, hk⟩ := kept_t (v := a) hDR
  rcases hk with ⟨f0, k0⟩ | ⟨t, rfl, t1, t2, f1, k1, c6, c8, b, A, B, z, n, hb, hA, hB, d0, d30, d1, d31, d2, d32, hz, d3, d33, n1, n2, d4, d34, d5, d7⟩
  · have kA : kGive p a to = 1 := by
      unfold kGive
      rw [if_pos f0]
    rw [kA]
    refine ⟨?_, fun h => absurd h (by decide), fun _ => ?_⟩
    · unfold g12_doGiveUp bg12_doGiveUp g12_doGiveUp_16 bg12_doGiveUp_16
      simp only [k0, if_pos cn0e', t_1, if_neg c10]
      exact ⟨gk, gk, trivial⟩
    · unfold v12_doGiveUp bv12_doGiveUp v12_doGiveUp_16 bv12_doGiveUp_16
      simp only [k0, if_pos cn0e', t_1, if_neg c10]
      all_goals rfl
  have hD2 : D ≤ 1000000000 := hDR.2.2.2
  obtain ⟨k, hkk⟩ : ∃ k, t % 60 = k := ⟨_, rfl⟩
  rw [hkk] at f1 c6 c8 d0 d30 d1 d31 d2 d32 d3 d33 d4 d34 d5 d7
  have hk60 : k < 60 := by rw [← hkk]; exact Nat.mod_lt _ (by decide)
  have hki := cninb (i := k) (n := 60) hk60 (by omega)
  have eir : irm (cn (t : Int)) (cn 60) = cn (k : Int) := by rw [← hkk]; exact irm60 (by omega)
  have hzk : ¬ k + 1 = 0 := by omega
  have hzA : ¬ A + 1 = 0 := by omega
  have hzB : ¬ B + 1 = 0 := by omega
  obtain ⟨ea, ga⟩ := acc_e q to
  by_cases hw : isW to (cn 0) (cn 7) = 0
  · have kA : kGive p (cn t) to = 1 := by
      unfold kGive
      rw [f1, if_neg hzk, if_pos hw]
    have hw' : v12_isAccount q to = 0 := by rw [ea]; exact hw
    rw [kA]
    refine ⟨?_, fun h => absurd h (by decide), fun _ => ?_⟩
    · unfold g12_doGiveUp bg12_doGiveUp g12_doGiveUp_16 bg12_doGiveUp_16
      simp only [k1, if_neg cn01, eir, if_pos hw', t_1, if_neg c10]
      exact ⟨gk, gk, ga, trivial⟩
    · unfold v12_doGiveUp bv12_doGiveUp v12_doGiveUp_16 bv12_doGiveUp_16
      simp only [k1, if_neg cn01, eir, if_pos hw', t_1, if_neg c10]
      all_goals rfl
  obtain ⟨j, hj7, rfl⟩ := isW_n (b := 7) (by decide) hw
  have hw' : ¬ v12_isAccount q (cn j) = 0 := by rw [ea]; exact hw
  have xA : p.1 0 (A + 1) 0 = cn A := (hK.1 A (by omega)).1
  have xB : p.1 0 (B + 1) 0 = cn B := (hK.1 B (by omega)).1
  by_cases h7 : q.1 15 7 k = 0
  · have h5 : p.1 4 (k + 1) 5 = 0 := by rw [d5]; exact h7
    by_cases hjA : cn (A : Int) = cn (j : Int)
    · have kA : kGive p (cn t) (cn j) = 2 := by
        unfold kGive
        rw [f1, if_neg hzk, if_neg hw, if_pos h5, d1, xA, if_pos hjA]
      rw [kA]
      refine ⟨?_, fun h => absurd h (by decide), fun _ => ?_⟩
      · unfold g12_doGiveUp bg12_doGiveUp g12_doGiveUp_16 bg12_doGiveUp_16 g12_doGiveUp_70 bg12_doGiveUp_70
        simp only [k1, if_neg cn01, eir, cntk (i := k) (by omega), if_neg hw', if_pos h7, d31, if_pos hjA, t_1, if_neg c20]
        exact ⟨gk, gk, ga, hki, hki, trivial⟩
      · unfold v12_doGiveUp bv12_doGiveUp v12_doGiveUp_16 bv12_doGiveUp_16 v12_doGiveUp_70 bv12_doGiveUp_70
        simp only [k1, if_neg cn01, eir, cntk (i := k) (by omega), if_neg hw', if_pos h7, d31, if_pos hjA, t_1, if_neg c20]
        all_goals rfl
    by_cases hjB : cn (B : Int) = cn (j : Int)
    · have kA : kGive p (cn t) (cn j) = 2 := by
        unfold kGive
        rw [f1, if_neg hzk, if_neg hw, if_pos h5, d1, xA, if_neg hjA, d2, xB, if_pos hjB]
      rw [kA]
      refine ⟨?_, fun h => absurd h (by decide), fun _ => ?_⟩
      · unfold g12_doGiveUp bg12_doGiveUp g12_doGiveUp_16 bg12_doGiveUp_16 g12_doGiveUp_70 bg12_doGiveUp_70
        simp only [k1, if_neg cn01, eir, cntk (i := k) (by omega), if_neg hw', if_pos h7, d31, if_neg hjA, d32, if_pos hjB, t_1, if_neg c20]
        exact ⟨gk, gk, ga, hki, hki, hki, trivial⟩
      · unfold v12_doGiveUp bv12_doGiveUp v12_doGiveUp_16 bv12_doGiveUp_16 v12_doGiveUp_70 bv12_doGiveUp_70
        simp only [k1, if_neg cn01, eir, cntk (i := k) (by omega), if_neg hw', if_pos h7, d31, if_neg hjA, d32, if_pos hjB, t_1, if_neg c20]
        all_goals rfl
    have kA : kGive p (cn t) (cn j) = 0 := by
      unfold kGive
      rw [f1, if_neg hzk, if_neg hw, if_pos h5, d1, xA, if_neg hjA, d2, xB, if_neg hjB]
    rw [kA]
    have hz1 := hz.1
    have hz2 := hz.2.1
    have W0 := ww_th (cn 0) H
    generalize hQ0 : pI q 12 1 0 (cn 0) = Q0 at W0
    have r13 : Q0.1 13 = q.1 13 := by rw [← hQ0]; exact th_k (by decide)
    have r0 : Q0.1 12 1 0 = 0 := by rw [← hQ0]; exact t_1
    have RQ0 : RS Q0 40 = RS q 40 := by rw [← hQ0, RS_th]
    have g31 : Q0.1 13 31 k = cn A := by rw [r13]; exact d31
    have g32 : Q0.1 13 32 k = cn B := by rw [r13]; exact d32
    have g34 : Q0.1 13 34 k = cn n := by rw [r13]; exact d34
    have g30 : Q0.1 13 30 k = cn b := by rw [r13]; exact d30
    have g33 : Q0.1 13 33 k = cn z := by rw [r13]; exact d33
    have aj := account_e p (a := j) (by omega)
    have gj := g_account p (a := j) (by omega)
    have hzj : ¬ j + 1 = 0 := by omega
    have nn : -cn n = cn (-n) := cnneg n
    have n2n : -cn (-n) = cn (- -n) := cnneg (-n)
    -- what the both sides have in common
    have main : ∀ (S c : Nat) (u : Int), S < 8 → (c = 1 ∨ c = 2) → (u = n ∨ u = -n) → (p.1 0 (S + 1) 0 = cn S) → 
        (g0_take p (S + 1) (b + 1) (cn (-u)) (cn z) ∧ g0_take (tkC p S b (cn (-u)) (cn z)) (j + 1) (b + 1) (cn u) (cn z)) ∧ (v0_take p (S + 1) (b + 1) (cn (-u)) (cn z) = tkC p S b (cn (-u)) (cn z) ∧ v0_take (tkC p S b (cn (-u)) (cn z)) (j + 1) (b + 1) (cn u) (cn z) = tkC (tkC p S b (cn (-u)) (cn z)) j b (cn u) (cn z)) ∧
        (g12_undoes Q0 (cn S) (cn k) (cn (-u)) ∧ g12_undoes (hdQ Q0 S b (cn (-u)) (cn z)) (cn j) (cn k) (cn u)) ∧ (v12_undoes Q0 (cn S) (cn k) (cn (-u)) = hdQ Q0 S b (cn (-u)) (cn z) ∧ v12_undoes (hdQ Q0 S b (cn (-u)) (cn z)) (cn j) (cn k) (cn u) = hdQ (hdQ Q0 S b (cn (-u)) (cn z)) j b (cn u) (cn z)) ∧
        (pR (tkC (tkC p S b (cn (-u)) (cn z)) j b (cn u) (cn z)) 4 (k + 1) c (j + 1)).1 0 (S + 1) 0 = cn S ∧ (pI (hdQ (hdQ Q0 S b (cn (-u)) (cn z)) j b (cn u) (cn z)) 13 (30 + c) k (cn j)).1 12 1 0 = cn 0 ∧
        EvR (lgB lg (e + 1)) q N T D 6 60 0 (cn S, pR (tkC (tkC p S b (cn (-u)) (cn z)) j b (cn u) (cn z)) 4 (k + 1) c (j + 1)) (cn S, pI (hdQ (hdQ Q0 S b (cn (-u)) (cn z)) j b (cn u) (cn z)) 13 (30 + c) k (cn j)) := by
      intro S c u hS hc hu hx
      have hu1 : -999 ≤ u := by omega
      have hu2 : u ≤ 999 := by omega
      obtain ⟨x1, x2⟩ := take_e (p := p) (a := S) (b := b) (by omega) hb hK (cn (-u)) (cn z)
      obtain ⟨x3, x4⟩ := take_e (p := tkC p S b (cn (-u)) (cn z)) (a := j) (b := b) (by omega) hb (ck_c (tkC_k (by decide)) (tkC_k (by decide)) hK) (cn u) (cn z)
      obtain ⟨y1, y2⟩ := undo_e (q := Q0) (a := S) (v := cn (-u)) (by omega) hb hk60 g30 g33
      obtain ⟨y3, y4⟩ := undo_e (q := hdQ Q0 S b (cn (-u)) (cn z)) (a := j) (v := cn u) (by omega) hb hk60 (by rw [hdQ_13 (by decide)]; exact g30) (by rw [hdQ_13 (by decide)]; exact g33)
      obtain ⟨W1, R1⟩ := ww_swap (s := S) (j := j) (b := b) (u := u) (z := z) he W0 (by omega) (by omega) hb hu1 hu2 (by omega) (by omega)
      obtain ⟨W2, R2⟩ := ww_side (k := k) (j := j) (c := c) W1 hk60 (by omega) hc (by rw [tkC_k (by decide), tkC_k (by decide)]; exact c6)
      refine ⟨⟨x1, x3⟩, ⟨x2, x4⟩, ⟨y1, y3⟩, ⟨y2, y4⟩, ?_, ?_, rfl, N, T, D, ⟨Nat.le_refl _, Nat.le_refl _⟩, ⟨Nat.le_refl _, Nat.le_refl _⟩, W2, by show (T : Int) + RS (pI _ _ _ _ _) 40 ≤ _; omega, by show (D : Int) + RS (pI _ _ _ _ _) 40 ≤ _; omega⟩
      · rw [pR_1, tkC_k (by decide), tkC_k (by decide)]
        exact hx
      · rw [pI_1, u3_k (by decide), hdQ_k (by decide), hdQ_k (by decide)]
        exact r0
    have id1 : ∀ Q : PM, pI Q 13 31 k (Q.1 13 31 k) = Q := fun Q => pI_id
    have id2 : ∀ Q : PM, pI Q 13 32 k (Q.1 13 32 k) = Q := fun Q => pI_id
    rcases hs with rfl | rfl
    · obtain ⟨⟨x1, x3⟩, ⟨x2, x4⟩, ⟨y1, y3⟩, ⟨y2, y4⟩, w1, w2, w3⟩ := main B 2 (-n) hB (Or.inr rfl) (Or.inr rfl) xB
      have z0 : (0 : Int32) = 0 := rfl
      have eC : v7_replaceSide p (cn t) 0 (cn j) = (cn B, pR (tkC (tkC p B b (cn (- -n)) (cn z)) j b (cn (-n)) (cn z)) 4 (k + 1) 2 (j + 1)) ∧ g7_replaceSide p (cn t) 0 (cn j) := by
        unfold v7_replaceSide bv7_replaceSide g7_replaceSide bg7_replaceSide
        simp only [f1, if_neg hzk, if_true, d2, d0, d3, d4, nn, n2n, x2, aj, tkC_R, tkC_k (k := 4) (by decide), x4, w1]
        exact ⟨trivial, gf, hzk, gj, hzk, hzk, hzk, hzB, x1, hzk, hzk, hzj, x3, hzk, hzB, trivial⟩
      have eQ : v12_doGiveUp q (cn t) 0 (cn j) = (cn B, pI (hdQ (hdQ Q0 B b (cn (- -n)) (cn z)) j b (cn (-n)) (cn z)) 13 32 k (cn j)) ∧ g12_doGiveUp q (cn t) 0 (cn j) := by
        unfold v12_doGiveUp bv12_doGiveUp g12_doGiveUp bg12_doGiveUp v12_doGiveUp_16 bv12_doGiveUp_16 g12_doGiveUp_16 bg12_doGiveUp_16 v12_doGiveUp_108 bv12_doGiveUp_108 g12_doGiveUp_108 bg12_doGiveUp_108
        simp only [k1, if_neg cn01, eir, cntk (i := k) (by omega), if_neg hw', if_pos h7, d31, if_neg hjA, d32, if_neg hjB, hQ0, if_pos r0, if_true, g32, g34, nn, n2n, y2, y4, id1]
        exact ⟨trivial, gk, gk, ga, hki, hki, hki, hki, hki, y1, y3, hki, hki, hki, trivial⟩
      refine ⟨eQ.2, fun _ => ⟨eC.2, ?_, ?_⟩, fun h => absurd rfl h⟩
      · rw [eQ.1]
        exact w2
      · rw [eC.1, eQ.1]
        exact w3
    · obtain ⟨⟨x1, x3⟩, ⟨x2, x4⟩, ⟨y1, y3⟩, ⟨y2, y4⟩, w1, w2, w3⟩ := main A 1 n hA (Or.inl rfl) (Or.inl rfl) xA
      have z1' : ¬ (1 : Int32) = 0 := by decide
      have eC : v7_replaceSide p (cn t) 1 (cn j) = (cn A, pR (tkC (tkC p A b (cn (-n)) (cn z)) j b (cn n) (cn z)) 4 (k + 1) 1 (j + 1)) ∧ g7_replaceSide p (cn t) 1 (cn j) := by
        unfold v7_replaceSide bv7_replaceSide g7_replaceSide bg7_replaceSide
        simp only [f1, if_neg hzk, if_neg z1', d1, d0, d3, d4, nn, x2, aj, tkC_R, tkC_k (k := 4) (by decide), x4, w1]
        exact ⟨trivial, gf, hzk, gj, hzk, hzk, hzk, hzA, x1, hzk, hzk, hzj, x3, hzk, hzA, trivial⟩
      have eQ : v12_doGiveUp q (cn t) 1 (cn j) = (cn A, pI (hdQ (hdQ Q0 A b (cn (-n)) (cn z)) j b (cn n) (cn z)) 13 31 k (cn j)) ∧ g12_doGiveUp q (cn t) 1 (cn j) := by
        unfold v12_doGiveUp bv12_doGiveUp g12_doGiveUp bg12_doGiveUp v12_doGiveUp_16 bv12_doGiveUp_16 g12_doGiveUp_16 bg12_doGiveUp_16 v12_doGiveUp_108 bv12_doGiveUp_108 g12_doGiveUp_108 bg12_doGiveUp_108
        simp only [k1, if_neg cn01, eir, cntk (i := k) (by omega), if_neg hw', if_pos h7, d31, if_neg hjA, d32, if_neg hjB, hQ0, if_pos r0, if_neg z1', g31, g34, nn, y2, y4, id2]
        exact ⟨trivial, gk, gk, ga, hki, hki, hki, hki, hki, y1, y3, hki, hki, hki, trivial⟩
      refine ⟨eQ.2, fun _ => ⟨eC.2, ?_, ?_⟩, fun h => absurd rfl h⟩
      · rw [eQ.1]
        exact w2
      · rw [eC.1, eQ.1]
        exact w3
  · have h5 : ¬ p.1 4 (k + 1) 5 = 0 := by rw [d5]; exact h7
    have kA : kGive p (cn t) (cn j) = 2 := by
      unfold kGive
      rw [f1, if_neg hzk, if_neg hw, if_neg h5]
    rw [kA]
    refine ⟨?_, fun h => absurd h (by decide), fun _ => ?_⟩
    · unfold g12_doGiveUp bg12_doGiveUp g12_doGiveUp_16 bg12_doGiveUp_16 g12_doGiveUp_70 bg12_doGiveUp_70
      simp only [k1, if_neg cn01, eir, cntk (i := k) (by omega), if_neg hw', if_neg h7, t_1, if_neg c20]
      exact ⟨gk, gk, ga, hki, trivial⟩
    · unfold v12_doGiveUp bv12_doGiveUp v12_doGiveUp_16 bv12_doGiveUp_16 v12_doGiveUp_70 bv12_doGiveUp_70
      simp only [k1, if_neg cn01, eir, cntk (i := k) (by omega), if_neg hw', if_neg h7, t_1, if_neg c20]
      all_goals rfl
end Give
