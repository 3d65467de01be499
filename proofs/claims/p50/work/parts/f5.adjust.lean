/-! a trade gets another price -/
/-- what the reference's call throws (code), or what the event answers and leaves -/
def DoE (lg : Nat → Int32) (q : PM) (N T D k n code : Nat) (G : Prop) (c r : Int32 × PM) : Prop := (code = 0 → G ∧ r.2.1 12 1 0 = cn 0 ∧ EvR lg q N T D 6 k n c r) ∧ (¬ code = 0 → r.2 = pI q 12 1 0 (cn code))
section Adjust
variable {p q : PM} {lg : Nat → Int32} {b N T D l : Nat}
theorem acr_J {A : Nat} {u w : Int64} (h : ∀ a, a < 9 → AcR p q a) (e : u = w) : ∀ a, a < 9 → AcR (pJ p 0 (A + 1) 4 u) (pJ q 14 1 A w) a := by
  intro c hc
  obtain ⟨h1, h2⟩ := h c hc
  refine ⟨h1, ?_⟩
  rw [pJ_J, pJ_J]
  by_cases ec : c = A
  · rw [ec, u3_same, u3_same, e]
  · rw [u3_i (by omega), u3_s ec]
    exact h2
theorem cs_J {A : Nat} {w : Int64} {d : Int} (hd : 0 ≤ d) (h : max w.toInt (-w.toInt) ≤ max (q.2.1 14 1 A).toInt (-(q.2.1 14 1 A).toInt) + d) : csF ((pJ q 14 1 A w).2.1 14 1) 9 ≤ csF (q.2.1 14 1) 9 + d := by
  have h := csF_upd (f := q.2.1 14 1) (g := (pJ q 14 1 A w).2.1 14 1) (a := A) (d := d) hd (fun m hm => by
    rw [pJ_J, u3_s hm]) (by
    rw [pJ_J, u3_same]
    exact h) 9
  split at h <;> omega
theorem cs_sub {A : Nat} {X : Int} (h1 : -1000000000000 ≤ X) (h2 : X ≤ 1000000000000) : csF ((pJ q 14 1 A (q.2.1 14 1 A - cl X)).2.1 14 1) 9 ≤ csF (q.2.1 14 1) 9 + max X (-X) := by
  refine cs_J (by omega) ?_
  have h := i64_sub_abs (q.2.1 14 1 A) (cl X)
  rw [cl_I (a := X) ⟨by omega, by omega⟩] at h
  exact h
theorem cs_add {A : Nat} {X : Int} (h1 : -1000000000000 ≤ X) (h2 : X ≤ 1000000000000) : csF ((pJ q 14 1 A (q.2.1 14 1 A + cl X)).2.1 14 1) 9 ≤ csF (q.2.1 14 1) 9 + max X (-X) := by
  refine cs_J (by omega) ?_
  have h := i64_add_abs (q.2.1 14 1 A) (cl X)
  rw [cl_I (a := X) ⟨by omega, by omega⟩] at h
  exact h
/-- the last price of a book changes -/
theorem ww_last {v : Int} (H : WW p q lg 99 99 (fun _ => False) N T D l (fun _ => 0)) (hb : b < 6) (hv : PrB b v) : WW (pI p 1 (b + 1) 3 (cn v)) (pI q 13 10 b (cn v)) lg 99 99 (fun _ => False) N T D l (fun _ => 0) ∧ RS (pI q 13 10 b (cn v)) 40 = RS q 40 := by
  have e1 : ∀ i S, ¬ S = 3 → (pI p 1 (b + 1) 3 (cn v)).1 1 i S = p.1 1 i S := fun i S h => by rw [pI_1, u3_s h]
  have ek : ∀ K, ¬ K = 1 → (pI p 1 (b + 1) 3 (cn v)).1 K = p.1 K := fun K h => by
    funext i S
    rw [pI_1, u3_k h]
  have e13 : ∀ K, ¬ K = 10 → (pI q 13 10 b (cn v)).1 13 K = q.1 13 K := fun K h => by
    funext i
    rw [pI_1, u3_i h]
  have eqk : ∀ K, ¬ K = 13 → (pI q 13 10 b (cn v)).1 K = q.1 K := fun K h => by
    funext i S
    rw [pI_1, u3_k h]
  refine ww_lat H (fun _ _ _ => rfl) (fun K h _ _ => ek K h) (fun i _ => by rw [ek 13 (by decide)]) rfl (fun K _ h _ _ => e13 K h) (e13 30 (by decide)) (fun K _ _ => by rw [eqk 15 (by decide)]) (fun S _ => by rw [eqk 12 (by decide)]) (fun a ha => ?_) (fun c hc => ?_) ?_ ?_ ?_
  · have h := H.2.1.1 a ha
    unfold AcR at h ⊢
    rw [ek 13 (by decide), e13 1 (by decide)]
    exact h
  · have h := H.2.2.1 c hc
    unfold BkR AucR at h ⊢
    rw [e1 _ 4 (by decide), e1 _ 5 (by decide), e1 _ 6 (by decide), e1 _ 7 (by decide), e1 _ 8 (by decide), e1 _ 9 (by decide), e1 _ 10 (by decide), e1 _ 11 (by decide), e1 _ 12 (by decide), e13 11 (by decide), e13 12 (by decide), e13 13 (by decide), e13 6 (by decide), e13 7 (by decide), e13 8 (by decide), e13 9 (by decide), eqk 15 (by decide)]
    refine ⟨?_, h.2⟩
    by_cases e : c = b
    · rw [e]
      exact ⟨v, hv, pI_at, pI_at⟩
    · rw [pI_1, u3_i (by omega), pI_1, u3_s e]
      exact h.1
  · exact dr_c (ek 4 (by decide)) (ek 7 (by decide)) rfl (fun i _ _ => e13 i (by omega)) (by rw [eqk 15 (by decide)]) (by rw [eqk 15 (by decide)]) (by rw [eqk 12 (by decide)]) H.2.2.2.1
  · obtain ⟨j1, j2⟩ := H.2.2.2.2.1
    refine ⟨fun c hc => ?_, fun c hc => ?_⟩
    · rw [ek 0 (by decide)]
      exact j1 c hc
    · rw [e1 _ 0 (by decide), e1 _ 1 (by decide), e1 _ 2 (by decide)]
      exact j2 c hc
  · exact pd_c (e13 1 (by decide)) (by rw [eqk 12 (by decide)]) rfl H.2.2.2.2.2.1
/-- the class's code -/
noncomputable def kAdjust (p : PM) (a v : Int32) : Nat := if v7_find p a = 0 then 1 else if v1_hasPrice p (p.2.2 4 (v7_find p a) 0) v = 0 then 2 else if p.1 4 (v7_find p a) 5 = 0 then 0 else 3
theorem pr_rg {b : Nat} {z : Int} (h : PrB b z) : rg z := by
  have h1 := h.1
  have h2 := h.2.1
  exact ⟨by omega, by omega⟩
theorem hp_pr {b : Nat} {v : Int32} (hb : b < 6) (hK : CK p) (h : ¬ v1_hasPrice p (b + 1) v = 0) : ∃ z : Int, v = cn z ∧ PrB b z := by
  refine ⟨v.toInt, cn_of v, ?_⟩
  have e := (price_e (p := p) (q := p) hb hK (I_rg v)).2.1
  rw [← cn_of v] at e
  rw [e] at h
  exact Classical.not_not.mp h
theorem do_adjust {e : Nat} {a v : Int32} (hfl : ¬ lg 4006 = cn 1) (he : e + 1 ≤ 2000) (H : WW p q (lgB lg e) 99 99 (fun _ => False) N T D 6 (fun _ => 0)) : g12_doAdjust q a v ∧ DoE (lgB lg (e + 1)) q N T D 60 0 (kAdjust p a v) (g7_reprice p a v) (v7_reprice p a v) (v12_doAdjust q a v) := by
  have hDR := H.2.2.2.1
  have hK := H.2.2.2.2.1
  have c10 : ¬ cn 1 = (0 : Int32) := by decide
  have c20 : ¬ cn 2 = (0 : Int32) := by decide
  have c30 : ¬ cn 3 = (0 : Int32) := by decide
  obtain ⟨⟨gf, gk⟩, hk⟩ := kept_t (v := a) hDR
  rcases hk with ⟨f0, k0⟩ | ⟨t, rfl, t1, t2, f1, k1, c6, c8, b, A, B, z, n, hb, hA, hB, d0, d30, d1, d31, d2, d32, hz, d3, d33, n1, n2, d4, d34, d5, d7⟩
  · have kA : kAdjust p a v = 1 := by
      unfold kAdjust
      rw [if_pos f0]
    rw [kA]
    refine ⟨?_, fun h => absurd h (by decide), fun _ => ?_⟩
    · unfold g12_doAdjust bg12_doAdjust g12_doAdjust_16 bg12_doAdjust_16
      simp only [k0, if_pos cn0e', t_1, if_neg c10]
      exact ⟨gk, gk, trivial⟩
    · unfold v12_doAdjust bv12_doAdjust v12_doAdjust_16 bv12_doAdjust_16
      simp only [k0, if_pos cn0e', t_1, if_neg c10]
      rfl
  have hD2 : D ≤ 1000000000 := hDR.2.2.2
  obtain ⟨k, hkk⟩ : ∃ k, t % 60 = k := ⟨_, rfl⟩
  rw [hkk] at f1 c6 c8 d0 d30 d1 d31 d2 d32 d3 d33 d4 d34 d5 d7
  have hk60 : k < 60 := by rw [← hkk]; exact Nat.mod_lt _ (by decide)
  have hki := cninb (i := k) (n := 60) hk60 (by omega)
  have eir : irm (cn (t : Int)) (cn 60) = cn (k : Int) := by rw [← hkk]; exact irm60 (by omega)
  have hzk : ¬ k + 1 = 0 := by omega
  have hzb : ¬ b + 1 = 0 := by omega
  have hzA : ¬ A + 1 = 0 := by omega
  have hzB : ¬ B + 1 = 0 := by omega
  have gP := fun q' : PM => (price_e (p := p) (q := q') hb hK (I_rg v)).1.2
  have eP := fun q' : PM => (price_e (p := p) (q := q') hb hK (I_rg v)).2
  rw [← cn_of v] at gP eP
  by_cases hp : v1_hasPrice p (b + 1) v = 0
  · have kA : kAdjust p (cn t) v = 2 := by
      unfold kAdjust
      rw [f1, if_neg hzk, d0, if_pos hp]
    have hp' : v12_isPrice q (cn b) v = 0 := by
      rw [(eP q).2, ← (eP q).1]
      exact hp
    rw [kA]
    refine ⟨?_, fun h => absurd h (by decide), fun _ => ?_⟩
    · unfold g12_doAdjust bg12_doAdjust g12_doAdjust_16 bg12_doAdjust_16
      simp only [k1, if_neg cn01, eir, cntk (i := k) (by omega), d30, if_pos hp', t_1, if_neg c20]
      exact ⟨gk, gk, hki, gP q, trivial⟩
    · unfold v12_doAdjust bv12_doAdjust v12_doAdjust_16 bv12_doAdjust_16
      simp only [k1, if_neg cn01, eir, cntk (i := k) (by omega), d30, if_pos hp', t_1, if_neg c20]
      rfl
  have hp' : ¬ v12_isPrice q (cn b) v = 0 := by
    rw [(eP q).2, ← (eP q).1]
    exact hp
  by_cases h7 : q.1 15 7 k = 0
  · have h5 : p.1 4 (k + 1) 5 = 0 := by rw [d5]; exact h7
    have kA : kAdjust p (cn t) v = 0 := by
      unfold kAdjust
      rw [f1, if_neg hzk, d0, if_neg hp, if_pos h5]
    obtain ⟨y, rfl, hy⟩ := hp_pr hb hK hp
    have hz1 := hz.1
    have hz2 := hz.2.1
    have hy1 := hy.1
    have hy2 := hy.2.1
    rw [kA]
    have W0 := ww_th (cn 0) H
    generalize hQ0 : pI q 12 1 0 (cn 0) = Q0 at W0
    have r13 : Q0.1 13 = q.1 13 := by rw [← hQ0]; exact th_k (by decide)
    have r15 : Q0.1 15 = q.1 15 := by rw [← hQ0]; exact th_k (by decide)
    have rJ : Q0.2 = q.2 := by rw [← hQ0]; rfl
    have r0 : Q0.1 12 1 0 = cn 0 := by rw [← hQ0]; exact t_1
    have eX : (cn n).toInt64 * (cn y - cn z).toInt64 = cl (n * (y - z)) := by
      rw [cnsub, cl_mul ⟨by omega, by omega⟩ ⟨by omega, by omega⟩]
    have bX := mul_bd (n := n) (m := y - z) (A := 50) (B := 20000) (by omega) (by omega) (by omega) (by omega)
    generalize hX : cl (n * (y - z)) = X at eX
    -- the class
    generalize hP2 : pI p 4 (k + 1) 3 (cn y) = P2
    generalize hP3 : pJ P2 0 (A + 1) 4 (P2.2.1 0 (A + 1) 4 - X) = P3
    generalize hP4 : pJ P3 0 (B + 1) 4 (P3.2.1 0 (B + 1) 4 + X) = P4
    -- the reference
    generalize hQ3 : pJ Q0 14 1 A (Q0.2.1 14 1 A - X) = Q3
    generalize hQ4 : pJ Q3 14 1 B (Q3.2.1 14 1 B + X) = Q4
    generalize hQ5 : pI Q4 13 33 k (cn y) = Q5
    have p1 : P4.1 = P2.1 := by rw [← hP4, pJ_1, ← hP3, pJ_1]
    have pR : P4.2.2 = p.2.2 := by rw [← hP4, pJ_R, ← hP3, pJ_R, ← hP2, pI_R]
    have p3R : P3.2.2 = p.2.2 := by rw [← hP3, pJ_R, ← hP2, pI_R]
    have p2R : P2.2.2 = p.2.2 := by rw [← hP2, pI_R]
    have pk : ∀ K, ¬ K = 4 → P4.1 K = p.1 K := fun K h => by
      rw [p1, ← hP2]
      funext i S
      rw [pI_1, u3_k h]
    have p4 : ∀ i S, ¬ S = 3 → P4.1 4 i S = p.1 4 i S := fun i S h => by rw [p1, ← hP2, pI_1, u3_s h]
    have p4i : ∀ i S, ¬ i = k + 1 → P4.1 4 i S = p.1 4 i S := fun i S h => by rw [p1, ← hP2, pI_1, u3_i h]
    have p43 : P4.1 4 (k + 1) 3 = cn y := by rw [p1, ← hP2, pI_at]
    have q41 : Q4.1 = Q0.1 := by rw [← hQ4, pJ_1, ← hQ3, pJ_1]
    have q31 : Q3.1 = Q0.1 := by rw [← hQ3, pJ_1]
    have q13 : ∀ K, ¬ K = 33 → Q5.1 13 K = q.1 13 K := fun K h => by
      funext i
      rw [← hQ5, pI_1, u3_i h, q41, r13]
    have q33 : ∀ i, ¬ i = k → Q5.1 13 33 i = q.1 13 33 i := fun i h => by rw [← hQ5, pI_1, u3_s h, q41, r13]
    have q33k : Q5.1 13 33 k = cn y := by rw [← hQ5, pI_at]
    have qk : ∀ K, ¬ K = 13 → Q5.1 K = Q0.1 K := fun K h => by
      funext i S
      rw [← hQ5, pI_1, u3_k h, q41]
    have qJ : Q5.2.1 = Q4.2.1 := by rw [← hQ5, pI_J]
    have hDR5 : DR P4 Q5 D := by
      obtain ⟨z1, z2, z3, z4⟩ := W0.2.2.2.1
      refine ⟨fun j hj => ?_, by rw [pk 7 (by decide)]; exact z2, by rw [qk 12 (by decide)]; exact z3, z4⟩
      obtain ⟨y1, y2, y3⟩ := z1 j hj
      rw [pR, p4 _ 6 (by decide), qk 15 (by decide)]
      refine ⟨y1, y2, ?_⟩
      rcases y3 with ⟨s1, s2, s3, s4⟩ | y3
      · refine Or.inl ⟨s1, s2, s3, ?_⟩
        unfold DealV at s4 ⊢
        rw [pR, p4 _ 4 (by decide), p4 _ 5 (by decide), q13 30 (by decide), q13 31 (by decide), q13 32 (by decide), q13 34 (by decide), qk 15 (by decide)]
        rw [r13] at s4
        by_cases ej : j = k
        · rw [ej, p43, q33k]
          exact ⟨b, A, B, y, n, hb, hA, hB, d0, d30, d1, d31, d2, d32, hy, rfl, rfl, n1, n2, d4, d34, by rw [r15]; exact d5, by rw [r15]; exact d7⟩
        · rw [p4i _ _ (by omega), q33 j ej]
          exact s4
      · exact Or.inr y3
    have hAc : ∀ c, c < 9 → AcR P4 Q5 c := by
      have h0 : ∀ c, c < 9 → AcR P2 Q0 c := fun c hc => by
        have h := W0.2.1.1 c hc
        unfold AcR at h ⊢
        have e1 : P2.1 13 = p.1 13 := by
          rw [← hP2]
          funext i S
          rw [pI_1, u3_k (by decide)]
        have e2 : P2.2.1 = p.2.1 := by rw [← hP2, pI_J]
        rw [e1, e2]
        exact h
      have h1 := acr_J (A := A) h0 (u := P2.2.1 0 (A + 1) 4 - X) (w := Q0.2.1 14 1 A - X) (by rw [(h0 A (by omega)).2])
      rw [hP3, hQ3] at h1
      have h2 := acr_J (A := B) h1 (u := P3.2.1 0 (B + 1) 4 + X) (w := Q3.2.1 14 1 B + X) (by rw [(h1 B (by omega)).2])
      rw [hP4, hQ4] at h2
      intro c hc
      have h := h2 c hc
      unfold AcR at h ⊢
      rw [q13 1 (by decide), qJ]
      rw [q41, r13] at h
      exact h
    have hPD : PD Q5 (lgB lg (e + 1)) := by
      refine pd_up he W0.2.2.2.2.2.1.2.2.2.2.2.2.2.2.2.2 (by rw [qk 12 (by decide)]) (fun c _ => ?_) ?_ ?_ (fun h => absurd h hfl) (fun h => absurd h hfl)
      · rw [q13 1 (by decide), r13]
        omega
      · rw [q13 1 (by decide), r13]
      · rw [qJ]
        have m1 := cs_sub (q := Q0) (A := A) (X := n * (y - z)) (by omega) (by omega)
        rw [hX, hQ3] at m1
        have m2 := cs_add (q := Q3) (A := B) (X := n * (y - z)) (by omega) (by omega)
        rw [hX, hQ4] at m2
        omega
    obtain ⟨W1, R1⟩ := ww_lat (p' := P4) (q' := Q5) W0 (lgB_lg (e := e) (e' := e + 1)) (fun K _ h _ => pk K h) (fun i _ => by rw [pk 13 (by decide)]) (by rw [pR]) (fun K _ _ _ h => by rw [q13 K (by omega), r13]) (by rw [q13 30 (by decide), r13]) (fun K _ _ => by rw [qk 15 (by decide)]) (fun S _ => by rw [qk 12 (by decide)]) hAc (brl_c (pk 1 (by decide)) (fun i _ _ => by rw [q13 i (by omega), r13]) (by rw [qk 15 (by decide)]) W0.2.2.1) hDR5 (ck_c (pk 0 (by decide)) (pk 1 (by decide)) hK) hPD
    have RQ : RS Q5 40 = RS q 40 := by rw [R1, ← hQ0, RS_th]
    obtain ⟨⟨gl1, gl2⟩, hl⟩ := latest_kp hDR5 hb
    have hL : (v7_latestOf P4 (b + 1) = cn (t : Int)) = (v12_latest Q5 (cn b) = cn (t : Int)) := by
      rcases hl with ⟨l1, l2⟩ | ⟨u, l1, l2, l3, -⟩
      · rw [l1, l2, cneq (by decide) ⟨by omega, by omega⟩, cneq (by decide) ⟨by omega, by omega⟩]
        exact propext ⟨fun h => by omega, fun h => by omega⟩
      · rw [l1, l2]
    have i9A := cninb (i := A) (n := 9) (by omega) (by omega)
    have i9B := cninb (i := B) (n := 9) (by omega) (by omega)
    have i6 := cninb (i := b) (n := 6) hb (by omega)
    have eC : (v7_reprice p (cn t) (cn y) = (cn z, if v7_latestOf P4 (b + 1) = cn (t : Int) then pI P4 1 (b + 1) 3 (cn y) else P4)) ∧ g7_reprice p (cn t) (cn y) := by
      unfold v7_reprice bv7_reprice g7_reprice bg7_reprice
      simp only [f1, if_neg hzk, d4, d3, eX, hP2, p2R, d1, hP3, p3R, d2, hP4, pR, d0]
      refine ⟨?_, gf, hzk, hzk, hzk, hzk, hzA, hzA, hzk, hzB, hzB, hzk, gl1, ?_⟩
      · split <;> rfl
      · split
        · exact ⟨hzk, hzb, trivial⟩
        · trivial
    have eQ : (v12_doAdjust q (cn t) (cn y) = (cn z, if v12_latest Q5 (cn b) = cn (t : Int) then pI Q5 13 10 b (cn y) else Q5)) ∧ g12_doAdjust q (cn t) (cn y) := by
      have x0 : Q0.1 12 1 0 = 0 := r0
      have g1 : Q0.1 13 33 k = cn z := by rw [r13]; exact d33
      have g2 : Q0.1 13 31 k = cn A := by rw [r13]; exact d31
      have g3 : Q0.1 13 34 k = cn n := by rw [r13]; exact d34
      have g4 : Q3.1 13 32 k = cn B := by rw [q31, r13]; exact d32
      have g5 : Q3.1 13 34 k = cn n := by rw [q31, r13]; exact d34
      have g6 : Q5.1 13 30 k = cn b := by rw [q13 30 (by decide)]; exact d30
      have g7 : pI Q5 13 10 b (Q5.1 13 10 b) = Q5 := pI_id
      unfold v12_doAdjust bv12_doAdjust g12_doAdjust bg12_doAdjust v12_doAdjust_16 bv12_doAdjust_16 g12_doAdjust_16 bg12_doAdjust_16
      simp only [k1, if_neg cn01, eir, cntk (i := k) (by omega), d30, if_neg hp', if_pos h7, hQ0, if_pos x0, g1, g2, g3, cntk (i := A) (by omega), eX, hQ3, g4, g5, cntk (i := B) (by omega), hQ4, hQ5, g6, cntk (i := b) (by omega), g7]
      refine ⟨?_, gk, gk, hki, gP q, hki, hki, hki, i9A, hki, i9A, hki, i9B, hki, i9B, hki, hki, hki, gl2, ?_⟩
      · split <;> rfl
      · split
        · exact ⟨i6, trivial⟩
        · exact ⟨hki, i6, i6, trivial⟩
    refine ⟨eQ.2, fun _ => ⟨eC.2, ?_, ?_⟩, fun h => absurd rfl h⟩
    · rw [eQ.1]
      show (if _ then _ else _ : PM).1 12 1 0 = cn 0
      split
      · rw [pI_1, u3_k (by decide), qk 12 (by decide)]
        exact r0
      · rw [qk 12 (by decide)]
        exact r0
    · rw [eC.1, eQ.1]
      by_cases hlt : v12_latest Q5 (cn b) = cn (t : Int)
      · obtain ⟨W2, R2⟩ := ww_last W1 hb hy
        rw [if_pos hlt, if_pos (by rw [hL]; exact hlt)]
        exact ⟨rfl, N, T, D, ⟨Nat.le_refl _, Nat.le_refl _⟩, ⟨Nat.le_refl _, Nat.le_refl _⟩, W2, by show (T : Int) + RS (pI _ _ _ _ _) 40 ≤ _; omega, by show (D : Int) + RS (pI _ _ _ _ _) 40 ≤ _; omega⟩
      · rw [if_neg hlt, if_neg (by rw [hL]; exact hlt)]
        exact ⟨rfl, N, T, D, ⟨Nat.le_refl _, Nat.le_refl _⟩, ⟨Nat.le_refl _, Nat.le_refl _⟩, W1, by show (T : Int) + RS Q5 40 ≤ _; omega, by show (D : Int) + RS Q5 40 ≤ _; omega⟩
  · have h5 : ¬ p.1 4 (k + 1) 5 = 0 := by rw [d5]; exact h7
    have kA : kAdjust p (cn t) v = 3 := by
      unfold kAdjust
      rw [f1, if_neg hzk, d0, if_neg hp, if_neg h5]
    rw [kA]
    refine ⟨?_, fun h => absurd h (by decide), fun _ => ?_⟩
    · unfold g12_doAdjust bg12_doAdjust g12_doAdjust_16 bg12_doAdjust_16
      simp only [k1, if_neg cn01, eir, cntk (i := k) (by omega), d30, if_neg hp', if_neg h7, t_1, if_neg c30]
      exact ⟨gk, gk, hki, gP q, hki, trivial⟩
    · unfold v12_doAdjust bv12_doAdjust v12_doAdjust_16 bv12_doAdjust_16
      simp only [k1, if_neg cn01, eir, cntk (i := k) (by omega), d30, if_neg hp', if_neg h7, t_1, if_neg c30]
      rfl
end Adjust
