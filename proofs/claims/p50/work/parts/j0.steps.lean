/-! the bound, event by event -/
def FeF (q : PM) : Prop := (q.1 13 4 8).toInt < 1000000000 ∧ (q.1 13 4 8).toInt ≤ (q.1 12 1 95).toInt
def MVR (q p : PM) : Prop := p.1 13 35 = q.1 13 35 ∧ p.1 15 9 = q.1 15 9 ∧ p.1 15 10 = q.1 15 10 ∧ p.1 12 1 57 = q.1 12 1 57
def mxM (M : Nat → Int) : Nat → Int := fun c => if c < 4 then M c else 116
def LB (q : PM) (t : Nat) : Prop := ∃ G M, (∀ c, 116 ≤ M c) ∧ BN q G M t
section Steps
variable {p q q' : PM} {G : Nat → Nat} {M : Nat → Int} {t t' : Nat}
theorem fe_ww {lg : Nat → Int32} {x y N T D l : Nat} {w : Nat → Prop} {f : Nat → Int} (H : WW p q lg x y w N T D l f) : FeF q := by
  have hN := H.1.2.1.2.2.2.2
  have hR := (RS_rng H.1.1 40 (by decide)).1
  obtain ⟨z, L, h1, h2, h3, h4, h5⟩ := H.2.2.2.2.2.2.2.2
  unfold FeF
  rw [h1, h2, cn_I ⟨by omega, by omega⟩, cn_I ⟨by omega, by omega⟩]
  omega
theorem fe_c (h4 : q'.1 13 4 = q.1 13 4) (h95 : q'.1 12 1 95 = q.1 12 1 95) (h : FeF q) : FeF q' := by
  unfold FeF at h ⊢
  rw [h4, h95]
  exact h
theorem mvr_kr (h : KR q p) : MVR q p := ⟨h.1.1, h.2.1.1, h.2.1.2, h.2.2.1⟩
theorem mvr_qt (h : QT 9 q p) : MVR q p := ⟨h.1 35 (by decide) (by decide) (by decide) (by decide) (by decide), by rw [h.2.1], by rw [h.2.1], h.2.2.2 57 (by decide) (by decide)⟩
theorem bn_mx (H : BN q G M t) : BN q G (mxM M) t ∧ ∀ c, 116 ≤ mxM M c := by
  have e : ∀ c, c < 4 → mxM M c = M c := fun c hc => if_pos hc
  obtain ⟨⟨⟨p1, p2, p3, p4, p5⟩, m1, m2⟩, f, ⟨s1, s2⟩, s3, s4', s5, s6, s7, g, s8⟩ := H
  refine ⟨⟨⟨⟨p1, p2, p3, fun c hc => by rw [e c hc]; exact p4 c hc, fun k hk => ⟨(p5 k hk).1, fun c hc h1 h2 => by rw [e c hc]; exact (p5 k hk).2 c hc h1 h2⟩⟩, fun c hc => by rw [e c hc]; exact m1 c hc, by rw [e 3 (by decide)]; exact m2⟩, f, ⟨fun c hc => by rw [e c (by omega)]; exact s1 c hc, s2⟩, fun m c hm hc h => by rw [e c (by omega)]; exact s3 m c hm hc h, fun h c hc => by rw [e c (by omega)]; exact s4' h c hc, s5, s6, s7, g, s8⟩, fun c => ?_⟩
  by_cases h : c < 4
  · rw [e c h]
    exact (m1 c h).1
  · have e2 : mxM M c = 116 := if_neg h
    omega
theorem lb_of (H : BN q G M t) : LB q t := ⟨G, mxM M, (bn_mx H).2, (bn_mx H).1⟩
theorem lb_up (H : LB q t) (h : t ≤ t') : LB q t' := by
  obtain ⟨G, M, hM, a1, a2, a3, a4, a5, a6, a7, a8, a9, a10⟩ := H
  refine ⟨G, M, hM, a1, a2, a3, a4, a5, a6, a7, fun m hm h0 => ?_, a9, by omega⟩
  obtain ⟨b1, b2⟩ := a8 m hm h0
  omega
/-- a step that leaves the defaults and moves, and tells 7 times δ at most -/
theorem bn_ev {δ : Nat} (H : BN q G M t) (Z : ZR q q') (V : MVR q q') (P : PrL q' M) (hF : FeF q') (hT : (q'.1 12 1 95).toInt ≤ (q.1 12 1 95).toInt + 7 * δ) : BN q' (uN G 3 (G 3 + δ)) M (t + δ) := by
  obtain ⟨X, y, w, u, l1, l2, l3, Z⟩ := Z
  obtain ⟨v35, v9, v10, v57⟩ := V
  have hf := Z.1 hF.1
  have f3 := H.2.1.2.2
  have f1 := H.2.1.1
  have s6 := H.2.2.2.2.2.2.1
  have s8 := H.2.2.2.2.2.2.2.2.2
  have hmv : ∀ s C, mvI q' s C = mvI q s C := fun s C => by
    unfold mvI
    rw [v35]
  have hop : opn q' = opn q := by
    unfold opn
    rw [v57, v10]
  refine bn_gen (e := (y : Int)) H Z hF.1 (fun c hc => by have := l1 c hc; omega) (by omega) l2 (by omega) ?_ hF.2 ?_ P ⟨fun s c hs hc => ?_, ?_⟩ (fun m hm => ?_) (fun m hm h => ?_) (fun i hi => uN_n (by omega)) (by omega) ?_
  · unfold EE
    rw [uN_n (show ¬ 4 = 3 by decide), hf, Int.add_mul]
    have h1 := mul_le_l (x := (y : Int)) (by omega) (show (1 : Int) ≤ 1 + 2 * (G 4 : Int) by omega)
    omega
  · rw [uN_s]
    omega
  · rw [hmv, uN_n (show ¬ 12 + c = 3 by omega)]
    exact s6.1 s c hs hc
  · rw [uN_n (show ¬ 12 = 3 by decide), uN_n (show ¬ 13 = 3 by decide), uN_n (show ¬ 14 = 3 by decide), uN_n (show ¬ 15 = 3 by decide), uN_n (show ¬ 5 = 3 by decide)]
    exact s6.2
  · unfold Gone
    rw [v9, v57]
  · rw [v9] at h
    exact h
  · rw [hop, uN_s, uN_n (show ¬ 0 = 3 by decide), uN_n (show ¬ 1 = 3 by decide), uN_n (show ¬ 2 = 3 by decide), uN_n (show ¬ 4 = 3 by decide), uN_n (show ¬ 5 = 3 by decide), uN_n (show ¬ 6 = 3 by decide)]
    omega
theorem bn_fe (H : BN q G M t) (ht : t ≤ 100000) : FeF q := by
  obtain ⟨-, ⟨f1, f2, f3⟩, -, -, -, -, -, -, -, s8⟩ := H
  exact ⟨by omega, f2⟩
theorem lb_works (H : LB q t) (hF : FeF (v12_works q)) : LB (v12_works q) t := by
  obtain ⟨G, M, hM, H⟩ := H
  have h := bn_ev (δ := 0) H (zr_v12_works (zr_refl q)) (mvr_kr (kr_v12_works (kr_refl q))) (pf_v12_works hM (pf_refl H.1.1)).2 hF (by rw [show (v12_works q).1 12 1 95 = q.1 12 1 95 from lr_v12_works (lr_refl q)]; omega)
  exact lb_of h
theorem lb_log {n : Nat} {v a b c d x f : Int32} (H : LB q t) (hF : FeF q) : LB (logQ q n v a b c d x f) t := by
  obtain ⟨G, M, hM, H⟩ := H
  have hz : ZR q (logQ q n v a b c d x f) := by
    unfold logQ
    exact zr_pI (by decide) (zr_pI (by decide) (zr_pI (by decide) (zr_pI (by decide) (zr_pI (by decide) (zr_pI (by decide) (zr_pI (by decide) (zr_pI (by decide) (zr_refl q))))))))
  have e12 : ∀ S, ¬ S = 60 → (logQ q n v a b c d x f).1 12 1 S = q.1 12 1 S := fun S h => log_12 h
  have e13 : ∀ K, ¬ K = 40 → (logQ q n v a b c d x f).1 13 K = q.1 13 K := fun K h => log_13 h
  have e15 : (logQ q n v a b c d x f).1 15 = q.1 15 := log_15
  have h := bn_ev (δ := 0) H hz ⟨e13 35 (by decide), by rw [e15], by rw [e15], e12 57 (by decide)⟩ (pb_c (p := q) (fun i hi => e13 i (by omega)) (by rw [e15]) H.1.1) (fe_c (e13 4 (by decide)) (e12 95 (by decide)) hF) (by rw [e12 95 (by decide)]; omega)
  exact lb_of h
theorem lb_ref {v : Int32} (H : LB q t) (hF : FeF q) : LB (pI q 12 1 0 v) t := by
  obtain ⟨G, M, hM, H⟩ := H
  have e13 : ∀ K, (pI q 12 1 0 v).1 13 K = q.1 13 K := fun K => by
    funext j
    rw [pI_1, u3_k (by decide)]
  have e15 : (pI q 12 1 0 v).1 15 = q.1 15 := by
    funext i j
    rw [pI_1, u3_k (by decide)]
  have e12 : ∀ S, ¬ S = 0 → (pI q 12 1 0 v).1 12 1 S = q.1 12 1 S := fun S h => by rw [pI_1, u3_s h]
  have h := bn_ev (δ := 0) H (zr_pI (by decide) (zr_refl q)) ⟨e13 35, by rw [e15], by rw [e15], e12 57 (by decide)⟩ (pf_12 (pf_refl H.1.1)).2 (fe_c (e13 4) (e12 95 (by decide)) hF) (by rw [e12 95 (by decide)]; omega)
  exact lb_of h
/-- small events -/
theorem lb_qt (H : LB q t) (Q : QT 9 q q') (hF : FeF q) : LB q' t := by
  obtain ⟨G, M, hM, H⟩ := H
  obtain ⟨a1, a2, a3, a4⟩ := Q
  have e13 : ∀ K, ¬ K = 3 → ¬ K = 9 → ¬ K = 36 → ¬ K = 37 → q'.1 13 K = q.1 13 K := fun K h1 h2 h3 h4 => a1 K h1 h2 h3 h4 h2
  have hz : ZR q q' := ⟨fun _ => 0, 0, 0, 0, fun _ _ => Nat.le_refl _, Nat.le_refl _, Nat.zero_le _, zl_c (e13 1 (by decide) (by decide) (by decide) (by decide)) (by rw [e13 4 (by decide) (by decide) (by decide) (by decide)]) (e13 34 (by decide) (by decide) (by decide) (by decide)) (by rw [a3])⟩
  have h := bn_ev (δ := 0) H hz (mvr_qt ⟨a1, a2, a3, a4⟩) (pb_c (p := q) (fun i hi => e13 i (by omega) (by omega) (by omega) (by omega)) (by rw [a2]) H.1.1) (fe_c (e13 4 (by decide) (by decide) (by decide) (by decide)) (a4 95 (by decide) (by decide)) hF) (by rw [a4 95 (by decide) (by decide)]; omega)
  exact lb_of h
/-- events by frames -/
theorem lb_fr (H : LB q t) (Z : ZR q q') (K : KR q q') (L : LR q q') (P : ∀ M, (∀ c, 116 ≤ M c) → PrL q M → PrL q' M) (hF : FeF q') : LB q' t := by
  obtain ⟨G, M, hM, H⟩ := H
  have h := bn_ev (δ := 0) H Z (mvr_kr K) (P M hM H.1.1) hF (by rw [show q'.1 12 1 95 = q.1 12 1 95 from L]; omega)
  exact lb_of h
theorem lb_or (H : LB q t) (ht : t ≤ 1000) (Z : ZR q q') (K : KR q q') (L : LQ q q' 7) (P : ∀ M, (∀ c, 116 ≤ M c) → PrL q M → PrL q' M) (hF : FeF q') : LB q' (t + 1) := by
  obtain ⟨G, M, hM, H⟩ := H
  obtain ⟨-, ⟨f1, f2, f3⟩, -, -, -, -, -, -, -, s8⟩ := id H
  obtain ⟨j, hj, e⟩ := L
  have e2 : (q'.1 12 1 95).toInt = (q.1 12 1 95).toInt + j := by
    obtain ⟨z, hz⟩ : ∃ z, (q.1 12 1 95).toInt = z := ⟨_, rfl⟩
    have e3 : q.1 12 1 95 = cn z := by
      rw [← hz]
      exact cn_of _
    rw [hz] at f2 f3
    rw [e, e3, cnadd, cn_I ⟨by omega, by omega⟩, cn_I ⟨by omega, by omega⟩]
  have h := bn_ev (δ := 1) H Z (mvr_kr K) (P M hM H.1.1) hF (by omega)
  exact lb_of h
/-- a bust -/
theorem lb_bust {X : Nat → Nat} {k n u : Nat} (H : LB q t) (hk : k < 60) (hn : (q.1 13 34 k).toInt = n) (hX : ∀ c, X c ≤ 2 * n) (hu : u ≤ 2 * n) (B : BsR q q' X u) (V : MVR q q') (hF : FeF q') : LB q' (t + 1) := by
  obtain ⟨G, M, hM, H⟩ := H
  obtain ⟨Z, P, L⟩ := B
  obtain ⟨v35, v9, v10, v57⟩ := V
  have hf := Z.1 hF.1
  have f1 := H.2.1.1
  have f3 := H.2.1.2.2
  have s5 := H.2.2.2.2.2.1 k hk
  have s6 := H.2.2.2.2.2.2.1
  have s8 := H.2.2.2.2.2.2.2.2.2
  have hmv : ∀ s C, mvI q' s C = mvI q s C := fun s C => by
    unfold mvI
    rw [v35]
  have hop : opn q' = opn q := by
    unfold opn
    rw [v57, v10]
  refine lb_of (G := uN G 4 (G 4 + 1)) (M := M) (bn_gen (e := 2 * (q.1 13 4 8).toInt) H Z hF.1 (fun c hc => by have := hX c; omega) (by omega) (Nat.le_refl _) (by omega) ?_ hF.2 ?_ (P M H.1.1) ⟨fun s c hs hc => ?_, ?_⟩ (fun m hm => ?_) (fun m hm h => ?_) (fun i hi => uN_n (by omega)) (by omega) ?_)
  · unfold EE
    have e0 : (q'.1 13 4 8).toInt = (q.1 13 4 8).toInt := by
      have : (q'.1 13 4 8).toInt = (q.1 13 4 8).toInt + ((0 : Nat) : Int) := hf
      omega
    rw [uN_s, e0]
    have e1 : ((G 4 + 1 : Nat) : Int) = (G 4 : Int) + 1 := rfl
    have e2 : (q.1 13 4 8).toInt * (1 + 2 * ((G 4 : Int) + 1)) = (q.1 13 4 8).toInt * (1 + 2 * (G 4 : Int)) + (q.1 13 4 8).toInt * 2 := by
      rw [← Int.mul_add]
      congr 1
    rw [e1, e2]
    omega
  · rw [uN_n (show ¬ 3 = 4 by decide), L]
    exact f3
  · rw [hmv, uN_n (show ¬ 12 + c = 4 by omega)]
    exact s6.1 s c hs hc
  · rw [uN_n (show ¬ 12 = 4 by decide), uN_n (show ¬ 13 = 4 by decide), uN_n (show ¬ 14 = 4 by decide), uN_n (show ¬ 15 = 4 by decide), uN_n (show ¬ 5 = 4 by decide)]
    exact s6.2
  · unfold Gone
    rw [v9, v57]
  · rw [v9] at h
    exact h
  · rw [hop, uN_s, uN_n (show ¬ 0 = 4 by decide), uN_n (show ¬ 1 = 4 by decide), uN_n (show ¬ 2 = 4 by decide), uN_n (show ¬ 3 = 4 by decide), uN_n (show ¬ 5 = 4 by decide), uN_n (show ¬ 6 = 4 by decide)]
    omega
/-- cells that count stay: what else is wanted -/
theorem bn_same (H : BN q G M t) (ht : t ≤ 100000) (e13 : ∀ K, ¬ K = 3 → ¬ K = 9 → ¬ K = 35 → ¬ K = 36 → ¬ K = 37 → ¬ K = 39 → q'.1 13 K = q.1 13 K) (eJ : q'.2.1 14 = q.2.1 14) (e8 : q'.1 15 8 = q.1 15 8) (e95 : q'.1 12 1 95 = q.1 12 1 95) {G' : Nat → Nat} (hmv : (∀ s c, s < 4 → c < 4 → -20 ≤ mvI q' s c ∧ mvI q' s c ≤ 20 ∧ (G' (12 + c) = 0 → mvI q' s c = 0)) ∧ G' 12 + G' 13 + G' 14 + G' 15 ≤ G' 5) (hg : ∀ m, m < 4 → (Gone q' m ↔ Gone q m)) (h9 : ∀ m, m < 4 → q'.1 15 9 m = cn 0 → q.1 15 9 m = cn 0) (hG : ∀ i, i < 5 ∨ (6 ≤ i ∧ i < 12) → G' i = G i) (htt : t ≤ t') (hb : G' 0 + G' 1 + G' 2 + G' 3 + G' 4 + G' 5 + 3 * G' 6 + opn q' ≤ t') : BN q' G' M t' := by
  have hF := fe_c (q' := q') (e13 4 (by decide) (by decide) (by decide) (by decide) (by decide) (by decide)) e95 (bn_fe H ht)
  have f3 := H.2.1.2.2
  have Z : ZL q q' (fun _ => 0) 0 0 0 := zl_c (e13 1 (by decide) (by decide) (by decide) (by decide) (by decide) (by decide)) (by rw [e13 4 (by decide) (by decide) (by decide) (by decide) (by decide) (by decide)]) (e13 34 (by decide) (by decide) (by decide) (by decide) (by decide) (by decide)) (by rw [eJ])
  refine bn_gen (e := 0) H Z hF.1 (fun _ _ => Int.le_refl _) (by decide) (Nat.le_refl _) (by decide) ?_ hF.2 ?_ (pb_c (p := q) (fun i hi => e13 i (by omega) (by omega) (by omega) (by omega) (by omega) (by omega)) e8 H.1.1) hmv hg h9 (fun i hi => hG i (by omega)) htt hb
  · unfold EE
    rw [e13 4 (by decide) (by decide) (by decide) (by decide) (by decide) (by decide), hG 4 (by omega)]
    omega
  · rw [e95, hG 3 (by omega)]
    exact f3
/-- a move is set -/
theorem lb_move {s0 c0 : Nat} {z : Int} (H : LB q t) (ht : t ≤ 1000) (hs : s0 < 4) (hc : c0 < 4) (z1 : -20 ≤ z) (z2 : z ≤ 20) (Q : QT 35 q q') (hm : ∀ j, q'.1 13 35 j = if j = 4 * s0 + c0 then cn z else q.1 13 35 j) : LB q' (t + 1) := by
  obtain ⟨G, M, hM, H⟩ := H
  obtain ⟨a1, a2, a3, a4⟩ := Q
  have s6 := H.2.2.2.2.2.2.1
  have s8 := H.2.2.2.2.2.2.2.2.2
  have v57 := a4 57 (by decide) (by decide)
  have hop : opn q' = opn q := by
    unfold opn
    rw [v57, a2]
  refine lb_of (G := uN (uN G (12 + c0) (G (12 + c0) + 1)) 5 (G 5 + 1)) (M := M) (bn_same H (by omega) (fun K h1 h2 h3 h4 h5 _ => a1 K h1 h2 h4 h5 h3) a3 (by rw [a2]) (a4 95 (by decide) (by decide)) ⟨fun s c hs4 hc4 => ?_, ?_⟩ (fun m hm4 => ?_) (fun m hm4 h => ?_) (fun i hi => by rw [uN_n (by omega), uN_n (by omega)]) (by omega) ?_)
  · rw [uN_n (show ¬ 12 + c = 5 by omega)]
    obtain ⟨b1, b2, b3⟩ := s6.1 s c hs4 hc4
    unfold mvI at b1 b2 b3 ⊢
    rw [hm]
    by_cases e : 4 * s + c = 4 * s0 + c0
    · have ec : c = c0 := by omega
      rw [if_pos e, cn_I ⟨by omega, by omega⟩, ec, uN_s]
      exact ⟨z1, z2, fun h => absurd h (by omega)⟩
    · rw [if_neg e]
      refine ⟨b1, b2, fun h => ?_⟩
      by_cases ec : c = c0
      · rw [ec, uN_s] at h
        exact absurd h (by omega)
      · rw [uN_n (by omega)] at h
        exact b3 h
  · rw [uN_s, uN_n (show ¬ 12 = 5 by decide), uN_n (show ¬ 13 = 5 by decide), uN_n (show ¬ 14 = 5 by decide), uN_n (show ¬ 15 = 5 by decide)]
    have h := s6.2
    have hh : c0 = 0 ∨ c0 = 1 ∨ c0 = 2 ∨ c0 = 3 := by omega
    rcases hh with rfl | rfl | rfl | rfl
    · rw [uN_s, uN_n (by decide), uN_n (by decide), uN_n (by decide)]
      simp only [Nat.reduceAdd]
      omega
    · rw [uN_n (show ¬ 12 = 12 + 1 by decide), uN_n (show ¬ 14 = 12 + 1 by decide), uN_n (show ¬ 15 = 12 + 1 by decide), show 13 = 12 + 1 from rfl, uN_s]
      simp only [Nat.reduceAdd]
      omega
    · rw [uN_n (show ¬ 12 = 12 + 2 by decide), uN_n (show ¬ 13 = 12 + 2 by decide), uN_n (show ¬ 15 = 12 + 2 by decide), show 14 = 12 + 2 from rfl, uN_s]
      simp only [Nat.reduceAdd]
      omega
    · rw [uN_n (show ¬ 12 = 12 + 3 by decide), uN_n (show ¬ 13 = 12 + 3 by decide), uN_n (show ¬ 14 = 12 + 3 by decide), show 15 = 12 + 3 from rfl, uN_s]
      simp only [Nat.reduceAdd]
      omega
  · unfold Gone
    rw [a2, v57]
  · rw [a2] at h
    exact h
  · rw [hop, uN_s, uN_n (show ¬ 0 = 5 by decide), uN_n (show ¬ 1 = 5 by decide), uN_n (show ¬ 2 = 5 by decide), uN_n (show ¬ 3 = 5 by decide), uN_n (show ¬ 4 = 5 by decide), uN_n (show ¬ 6 = 5 by decide), uN_n (show ¬ 0 = 12 + c0 by omega), uN_n (show ¬ 1 = 12 + c0 by omega), uN_n (show ¬ 2 = 12 + c0 by omega), uN_n (show ¬ 3 = 12 + c0 by omega), uN_n (show ¬ 4 = 12 + c0 by omega), uN_n (show ¬ 6 = 12 + c0 by omega)]
    omega
theorem mv_same (s6 : (∀ s c, s < 4 → c < 4 → -20 ≤ mvI q s c ∧ mvI q s c ≤ 20 ∧ (G (12 + c) = 0 → mvI q s c = 0)) ∧ G 12 + G 13 + G 14 + G 15 ≤ G 5) (e : q'.1 13 35 = q.1 13 35) : (∀ s c, s < 4 → c < 4 → -20 ≤ mvI q' s c ∧ mvI q' s c ≤ 20 ∧ (G (12 + c) = 0 → mvI q' s c = 0)) ∧ G 12 + G 13 + G 14 + G 15 ≤ G 5 := by
  have h : ∀ s c, mvI q' s c = mvI q s c := fun s c => by
    unfold mvI
    rw [e]
  simp only [h]
  exact s6
/-- a member fails -/
theorem lb_fail {m : Nat} (H : LB q t) (ht : t ≤ 1000) (hm : m < 4) (hFI : FI q) (h57 : q.1 12 1 57 = cn (-1)) (h9m : q.1 15 9 m = 0) (h9 : ∀ j, q'.1 15 9 j = if j = m then cn 1 else q.1 15 9 j) (h57' : q'.1 12 1 57 = cn (m : Int)) (h10 : q'.1 15 10 = q.1 15 10) (h35 : q'.1 13 35 = q.1 13 35) (e13 : ∀ K, ¬ K = 3 → ¬ K = 9 → ¬ K = 36 → ¬ K = 37 → q'.1 13 K = q.1 13 K) (eJ : q'.2.1 14 = q.2.1 14) (e8 : q'.1 15 8 = q.1 15 8) (e95 : q'.1 12 1 95 = q.1 12 1 95) : LB q' (t + 1) := by
  obtain ⟨G, M, hM, H⟩ := H
  have s6 := H.2.2.2.2.2.2.1
  have s8 := H.2.2.2.2.2.2.2.2.2
  have n1m : ∀ k : Nat, k < 4 → ¬ cn (-1) = cn (k : Int) := fun k hk => by
    rw [cneq (by decide) ⟨by omega, by omega⟩]
    omega
  have b0 := hFI.2.2 h57
  have hop : opn q' = 1 := by
    unfold opn
    rw [h57', if_neg (fun e => n1m m hm e.symm), h10, b0 0 (by decide), b0 1 (by decide), b0 2 (by decide), b0 3 (by decide), if_neg (by decide)]
  have hoq : opn q = 0 := if_pos h57
  refine lb_of (G := G) (M := M) (bn_same H (by omega) (fun K h1 h2 h3 h4 h5 _ => e13 K h1 h2 h4 h5) eJ e8 e95 (mv_same s6 h35) (fun k hk => ?_) (fun k hk h => ?_) (fun i hi => rfl) (by omega) (by omega))
  · unfold Gone
    rw [h57, h57', h9]
    by_cases e : k = m
    · subst e
      rw [if_pos rfl, h9m]
      exact ⟨fun h => absurd rfl h.2, fun h => absurd h.1 (by decide)⟩
    · rw [if_neg e]
      refine ⟨fun h => ⟨h.1, n1m k hk⟩, fun h => ⟨h.1, fun h2 => e ?_⟩⟩
      rw [cneq ⟨by omega, by omega⟩ ⟨by omega, by omega⟩] at h2
      omega
  · rw [h9] at h
    by_cases e : k = m
    · rw [if_pos e] at h
      exact absurd h (by decide)
    · rw [if_neg e] at h
      exact h
/-- a bid -/
theorem lb_bid {m : Nat} (H : LB q t) (ht : t ≤ 1000) (h9 : q'.1 15 9 = q.1 15 9) (h57' : q'.1 12 1 57 = q.1 12 1 57) (h57 : ¬ q.1 12 1 57 = cn (-1)) (h35 : q'.1 13 35 = q.1 13 35) (e13 : ∀ K, ¬ K = 39 → q'.1 13 K = q.1 13 K) (eJ : q'.2.1 14 = q.2.1 14) (e8 : q'.1 15 8 = q.1 15 8) (e95 : q'.1 12 1 95 = q.1 12 1 95) : LB q' (t + 1) := by
  obtain ⟨G, M, hM, H⟩ := H
  have s6 := H.2.2.2.2.2.2.1
  have s8 := H.2.2.2.2.2.2.2.2.2
  have hop : opn q' ≤ opn q + 1 := by
    unfold opn
    rw [h57', if_neg h57, if_neg h57]
    split <;> split <;> omega
  refine lb_of (G := G) (M := M) (bn_same H (by omega) (fun K _ _ _ _ _ h6 => e13 K h6) eJ e8 e95 (mv_same s6 h35) (fun k hk => ?_) (fun k hk h => ?_) (fun i hi => rfl) (by omega) (by omega))
  · unfold Gone
    rw [h9, h57']
  · rw [h9] at h
    exact h
end Steps
