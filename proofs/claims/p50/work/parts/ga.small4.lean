/-! auctions, time, days, haircuts: with their refusals -/
noncomputable def kHair (v : Int32) : Nat := if isW v (cn 0) (cn 100) = 0 then 1 else 0
/-- what an event answers and leaves, turns and deals each by its own -/
def EvA (lg : Nat → Int32) (q : PM) (N T D : Nat) (c r : Int32 × PM) : Prop := c.1 = r.1 ∧ ∃ N2 T2 D2, (N ≤ N2 ∧ N2 ≤ N + 2) ∧ (T ≤ T2 ∧ D ≤ D2) ∧ WW c.2 r.2 lg 99 99 (fun _ => False) N2 T2 D2 6 (fun _ => 0) ∧ T2 + RS r.2 40 ≤ T + RS q 40 + 9600 ∧ D2 + RS r.2 40 ≤ D + RS q 40 + 120
def DoA (lg : Nat → Int32) (q : PM) (N T D code : Nat) (G : Prop) (c r : Int32 × PM) : Prop := (code = 0 → G ∧ r.2.1 12 1 0 = cn 0 ∧ EvA lg q N T D c r) ∧ (¬ code = 0 → r.2 = pI q 12 1 0 (cn code))
theorem doa_of {lg : Nat → Int32} {q : PM} {N T D k n code : Nat} {G : Prop} {c r : Int32 × PM} (hk : k ≤ 120) (hn : n ≤ 2) (h : DoE lg q N T D k n code G c r) : DoA lg q N T D code G c r := by
  refine ⟨fun h0 => ?_, h.2⟩
  obtain ⟨g, h1, h2, N2, T2, D2, h3, h4, W, h5, h6⟩ := h.1 h0
  exact ⟨g, h1, h2, N2, T2, D2, ⟨h3.1, by omega⟩, h4, W, by omega, by omega⟩
section Small4
variable {p q : PM} {lg : Nat → Int32} {N T D e : Nat}
theorem to32 (x : Int32) : x.toInt64.toInt32 = x := by
  rw [cn_of x, cn64 (I_rg _), cl32]
theorem do_hair {v s : Int32} (he : e + 1 ≤ 2000) (hs : s = if isW v (cn 0) (cn 100) = 0 then cn 1 else cn 0) (H : WW p q (lgB lg e) 99 99 (fun _ => False) N T D 6 (fun _ => 0)) : g12_doesMore_149 q v s ∧ DoE (lgB lg (e + 1)) q N T D 60 0 (kHair v) (g2_changeHaircut p v) (v2_changeHaircut p v) ((v12_doesMore_149 q v s).1.toInt32, (v12_doesMore_149 q v s).2) := by
  have c10 : ¬ cn 1 = (0 : Int32) := by decide
  have c00 : cn 0 = (0 : Int32) := rfl
  unfold kHair
  by_cases h1 : isW v (cn 0) (cn 100) = 0
  · rw [if_pos h1] at hs ⊢
    subst hs
    have k1 : v12_doesMore_149 q v (cn 1) = (cl 0, pI q 12 1 0 (cn 1)) ∧ g12_doesMore_149 q v (cn 1) := by
      unfold v12_doesMore_149 bv12_doesMore_149 g12_doesMore_149 bg12_doesMore_149
      simp only [t_1, if_neg c10, pI_id]
      exact ⟨trivial, trivial⟩
    rw [k1.1]
    exact ⟨k1.2, doe_x (by decide) rfl⟩
  · rw [if_neg h1] at hs ⊢
    subst hs
    obtain ⟨v, w1, w2, rfl⟩ := isW_z (a := 0) (b := 100) (by decide) (by decide) h1
    have e0 : (pI (pI q 12 1 0 (cn 0)) 12 1 50 (cn v)).1 12 1 0 = 0 := by
      rw [pI_1, u3_s (by decide), pI_at]
      rfl
    have k1 : v12_doesMore_149 q (cn v) (cn 0) = (((pI q 12 1 0 (cn 0)).1 12 1 50).toInt64, pI (pI q 12 1 0 (cn 0)) 12 1 50 (cn v)) ∧ g12_doesMore_149 q (cn v) (cn 0) := by
      unfold v12_doesMore_149 bv12_doesMore_149 g12_doesMore_149 bg12_doesMore_149
      simp only [t_1, if_pos c00, e0, if_true]
      exact ⟨trivial, trivial⟩
    obtain ⟨x1, x2⟩ := ww_hair (ww_th (cn 0) H) w1 w2
    rw [k1.1]
    refine ⟨k1.2, doe_a (x := cn 0) he x1 e0 ?_⟩
    show EvR _ _ _ _ _ _ _ _ _ (((pI q 12 1 0 (cn 0)).1 12 1 50).toInt64.toInt32, _)
    rw [to32]
    exact x2
theorem do_auction {b t f x : Int32} (he : e + 1 ≤ 2000) (H : WW p q (lgB lg e) 99 99 (fun _ => False) N T D 6 (fun _ => 0)) : g12_doAuction q b t f x ∧ DoE (lgB lg (e + 1)) q N T D 60 0 (kAuction p b t f x) (g6_bookAt p b ∧ g6_beginAuction p (v6_bookAt p b) (t + x) f) (v6_beginAuction p (v6_bookAt p b) (t + x) f) (v12_doAuction q b t f x) := by
  have c10 : ¬ cn 1 = (0 : Int32) := by decide
  have c20 : ¬ cn 2 = (0 : Int32) := by decide
  have c30 : ¬ cn 3 = (0 : Int32) := by decide
  have c00 : cn 0 = (0 : Int32) := rfl
  have gi : ∀ a b c, g12_in q a b c := fun a b c => g_in q a b c
  unfold kAuction v12_doAuction bv12_doAuction g12_doAuction bg12_doAuction
  simp only [t_1, if_neg c10, if_neg c20, if_neg c30, if_pos c00]
  by_cases h1 : isW b (cn 0) (cn 5) = 0
  · have h1' : v12_in q b (cn 0) (cn 5) = 0 := h1
    simp only [if_pos h1, if_pos h1']
    exact ⟨⟨gi _ _ _, trivial⟩, doe_x (by decide) rfl⟩
  have h1' : ¬ v12_in q b (cn 0) (cn 5) = 0 := h1
  by_cases h2 : isW t (cn 1) (cn 20) = 0
  · have h2' : v12_in q t (cn 1) (cn 20) = 0 := h2
    simp only [if_neg h1, if_neg h1', if_pos h2, if_pos h2']
    exact ⟨⟨gi _ _ _, gi _ _ _, trivial⟩, doe_x (by decide) rfl⟩
  have h2' : ¬ v12_in q t (cn 1) (cn 20) = 0 := h2
  by_cases h3 : isW f (cn 0) t = 0
  · have h3' : v12_in q f (cn 0) t = 0 := h3
    simp only [if_neg h1, if_neg h1', if_neg h2, if_neg h2', if_pos h3, if_pos h3']
    exact ⟨⟨gi _ _ _, gi _ _ _, gi _ _ _, trivial⟩, doe_x (by decide) rfl⟩
  have h3' : ¬ v12_in q f (cn 0) t = 0 := h3
  by_cases h4 : isW x (cn 0) (cn 9) = 0
  · have h4' : v12_in q x (cn 0) (cn 9) = 0 := h4
    simp only [if_neg h1, if_neg h1', if_neg h2, if_neg h2', if_neg h3, if_neg h3', if_pos h4, if_pos h4']
    exact ⟨⟨gi _ _ _, gi _ _ _, gi _ _ _, gi _ _ _, trivial⟩, doe_x (by decide) rfl⟩
  have h4' : ¬ v12_in q x (cn 0) (cn 9) = 0 := h4
  obtain ⟨b, hb, rfl⟩ := isW_n (b := 5) (by decide) h1
  obtain ⟨t, t1, t2, rfl⟩ := isW_z (a := 1) (b := 20) (by decide) (by decide) h2
  obtain ⟨f, f1, f2, rfl⟩ := isW_z (a := 0) (b := t) (by decide) ⟨by omega, by omega⟩ h3
  obtain ⟨x, x1, x2, rfl⟩ := isW_z (a := 0) (b := 9) (by decide) (by decide) h4
  have i6 := cninb (i := b) (n := 6) (by omega) (by omega)
  have hop := open_eq (b := b) (by omega) H.2.2.1
  have gop := g_open (q := q) (b := b) (by omega)
  have eb := book_e p (a := b) (by omega)
  simp only [if_neg h1, if_neg h1', if_neg h2, if_neg h2', if_neg h3, if_neg h3', if_neg h4, if_neg h4', eb, hop]
  by_cases ho : v12_isOpen q (cn b) = 0
  · have ho2 : ¬ ¬ v12_isOpen q (cn b) = 0 := fun h => h ho
    simp only [if_pos ho, if_neg ho2]
    exact ⟨⟨gi _ _ _, gi _ _ _, gi _ _ _, gi _ _ _, gop, trivial⟩, doe_x (by decide) rfl⟩
  · obtain ⟨⟨y1, y2⟩, y3⟩ := ev_auction (E := (pI q 12 1 0 (cn 0)).1 12 1 17 + cn t + cn x) (ww_th (cn 0) H) (b := b) (k := t + x) (fz := f) (by omega) (by omega) (by omega) f1 (by omega) (by rw [Int32.add_assoc, cnadd])
    rw [← cnadd] at y1 y3
    simp only [if_neg ho, if_pos ho, cntk (i := b) (by omega)]
    refine ⟨⟨gi _ _ _, gi _ _ _, gi _ _ _, gi _ _ _, gop, y2, i6, trivial⟩, doe_a (x := cn 0) he ⟨g_book p (by omega), y1⟩ ?_ y3⟩
    unfold v12_beginsAuction bv12_beginsAuction
    show (pI (pI (pI (pI q 12 1 0 (cn 0)) 13 12 _ _) 13 13 _ _) 15 2 _ _).1 12 1 0 = cn 0
    rw [pI_1, u3_k (by decide), pI_1, u3_k (by decide), pI_1, u3_k (by decide), pI_at]
theorem do_pass {v : Int32} (he : e + 1 ≤ 2000) (H : WW p q (lgB lg e) 99 99 (fun _ => False) N T D 6 (fun _ => 0)) (hN : NPA q) (hS : SB q e) (hT : T + RS q 40 + 20000 ≤ 1000000000) (hD : D + RS q 40 + 20000 ≤ 1000000000) : (g12_doPass q v ∧ DoA (lgB lg (e + 1)) q N T D (kPass v) (g5_letPass p v) (v5_letPass p v) (v12_doPass q v)) ∧ (kPass v = 0 → SB (v12_doPass q v).2 (e + 1)) := by
  have c10 : ¬ cn 1 = (0 : Int32) := by decide
  have c00 : cn 0 = (0 : Int32) := rfl
  have gi : ∀ a b c, g12_in q a b c := fun a b c => g_in q a b c
  by_cases h1 : isW v (cn 1) (cn 20) = 0
  · have h1' : v12_in q v (cn 1) (cn 20) = 0 := h1
    unfold kPass v12_doPass bv12_doPass g12_doPass bg12_doPass
    simp only [t_1, if_neg c10, if_pos h1, if_pos h1']
    exact ⟨⟨⟨gi _ _ _, trivial⟩, fun h => absurd h (by decide), fun _ => rfl⟩, fun h => absurd h (by decide)⟩
  have h1' : ¬ v12_in q v (cn 1) (cn 20) = 0 := h1
  obtain ⟨z, z1, z2, hz⟩ := isW_z (a := 1) (b := 20) (by decide) (by decide) h1
  obtain ⟨m, hm⟩ : ∃ m : Nat, (m : Int) = z := ⟨z.toNat, by omega⟩
  rw [← hm] at hz
  subst hz
  obtain ⟨s1, s2, ⟨t, t1, t2⟩, d, d1, d2⟩ := hS
  have W0 := ww_th (cn 0) H
  have N0 : NPA (pI q 12 1 0 (cn 0)) := by
    intro i hi hs hk
    unfold stnd at hs
    rw [th_k (by decide), th_k (by decide)] at hs
    rw [th_k (by decide)] at hk ⊢
    rw [open_c (q := q) (by rw [th_k (by decide)])]
    exact hN i hi hs hk
  have ht : (pI q 12 1 0 (cn 0)).1 12 1 17 = cn t := by
    rw [th_1 (by decide)]
    exact t2
  obtain ⟨F, hF, hF2⟩ : ∃ F, FU = F ∧ 100 < F := ⟨FU, rfl, by decide⟩
  have hP := pass_loop (m := m) (by omega) m 0 F F p (pI q 12 1 0 (cn 0)) T D t (by omega) (by omega) (by omega) W0 N0 ht (by omega) (by rw [RS_th]; omega) (by rw [RS_th]; omega)
  have Y := fy_v12_passes_2 (q := pI q 12 1 0 (cn 0)) F (cn (m : Int)) (cn ((0 : Nat) : Int)) (fy_refl _)
  have ev : v12_passes (pI q 12 1 0 (cn 0)) (cn (m : Int)) = v12_passes_2 F (pI q 12 1 0 (cn 0)) (cn (m : Int)) (cn ((0 : Nat) : Int)) := by
    unfold v12_passes bv12_passes
    rw [hF]
    rfl
  have eg : g12_passes (pI q 12 1 0 (cn 0)) (cn (m : Int)) = g12_passes_2 F (pI q 12 1 0 (cn 0)) (cn (m : Int)) (cn ((0 : Nat) : Int)) := by
    unfold g12_passes bg12_passes
    rw [hF]
    rfl
  have ec : v5_letPass p (cn (m : Int)) = v5_letPass_2 F p (cn (m : Int)) (cn ((0 : Nat) : Int)) := by
    unfold v5_letPass bv5_letPass
    rw [hF]
    rfl
  have ecg : g5_letPass p (cn (m : Int)) = g5_letPass_2 F p (cn (m : Int)) (cn ((0 : Nat) : Int)) := by
    unfold g5_letPass bg5_letPass
    rw [hF]
    rfl
  generalize v12_passes_2 F (pI q 12 1 0 (cn 0)) (cn (m : Int)) (cn ((0 : Nat) : Int)) = Q at *
  generalize v5_letPass_2 F p (cn (m : Int)) (cn ((0 : Nat) : Int)) = C at *
  obtain ⟨⟨g1, g2⟩, k1, T2, D2, k2, k3, k4, k5, k6, k7⟩ := hP
  obtain ⟨Y1, Y2, Y3⟩ := Y
  have q0 : Q.1 12 1 0 = 0 := by
    rw [Y1 0 (by decide), t_1]
    rfl
  have hv : v12_doPass q (cn (m : Int)) = (Q.1 12 1 17, Q) ∧ g12_doPass q (cn (m : Int)) := by
    unfold v12_doPass bv12_doPass g12_doPass bg12_doPass
    simp only [t_1, if_neg h1', if_pos c00, ev, q0, if_true]
    exact ⟨trivial, gi _ _ _, by rw [eg]; exact g2, trivial⟩
  have kk : kPass (cn (m : Int)) = 0 := by
    unfold kPass
    rw [if_neg h1]
  rw [kk, hv.1, ec, ecg]
  refine ⟨⟨hv.2, fun _ => ⟨g1, q0, ?_⟩, fun h => absurd rfl h⟩, fun _ => ⟨mb_up s1 (fun k _ => ?_) (fun k _ => ?_), fi_c s2 ?_ ?_ ?_, ⟨t + m, by omega, k5⟩, d, by omega, ?_⟩⟩
  · refine ⟨?_, N, T2, D2, ⟨Nat.le_refl _, by omega⟩, k2, ww_bud he k3, ?_, ?_⟩
    · rw [k1]
      exact k5.symm
    · rw [RS_th] at k6
      show T2 + RS Q 40 ≤ _
      omega
    · rw [RS_th] at k7
      show D2 + RS Q 40 ≤ _
      omega
  · rw [Y2 36 (by decide), th_k (by decide)]
  · rw [Y2 37 (by decide), th_k (by decide)]
  · rw [Y3 9 (by decide), th_k (by decide)]
  · rw [Y3 10 (by decide), th_k (by decide)]
  · rw [Y1 57 (by decide), th_1 (by decide)]
  · rw [Y1 18 (by decide), th_1 (by decide)]
    exact d2
theorem day_b {F : Nat} (hF : FU = F) : ∀ (d i n : Nat), i + d = 6 → d < n → v12_doEndDay_4 n q (cn 0) (cn i) = v12_doEndDay_51 F (pI q 12 1 0 (cn 1)) (cn 0) (cn 0) (cn 0) ∧ (g12_doEndDay_51 F (pI q 12 1 0 (cn 1)) (cn 0) (cn 0) (cn 0) → g12_doEndDay_4 n q (cn 0) (cn i)) := by
  have c00 : cn 0 = (0 : Int32) := rfl
  intro d
  induction d with
  | zero =>
    intro i n h1 h2
    obtain ⟨n1, rfl⟩ : ∃ z9, n = z9 + 1 := ⟨n - 1, by omega⟩
    have ei : i = 6 := by omega
    subst ei
    have hn := lpf (i := 6) (N := 6) (by omega) (by omega) (by omega)
    rw [ev12_doEndDay_4, eg12_doEndDay_4, hF]
    unfold bv12_doEndDay_4 bg12_doEndDay_4
    rw [if_neg hn, if_neg hn, if_pos c00, if_pos c00]
    exact ⟨rfl, fun g => g⟩
  | succ d ih =>
    intro i n h1 h2
    obtain ⟨n1, rfl⟩ : ∃ z9, n = z9 + 1 := ⟨n - 1, by omega⟩
    have l6 : cn (i : Int) < cn 6 := lpt (by omega) (by omega)
    obtain ⟨k1, k2⟩ := ih (i + 1) n1 (by omega) (by omega)
    rw [ev12_doEndDay_4, eg12_doEndDay_4]
    unfold bv12_doEndDay_4 bg12_doEndDay_4
    rw [if_pos l6, if_pos l6, if_pos c00, if_pos c00, cnsucc]
    exact ⟨k1, k2⟩
theorem day_a {F : Nat} (hF : FU = F) (H : BR p q) : ∀ (d i n n' : Nat), i + d = 6 → d < n → d < n' → g6_hasAuction_10 p n (cn i) ∧ v12_doEndDay_4 n' q (cn 1) (cn i) = (if v6_hasAuction_10 p n (cn i) = 0 then v12_doEndDay_51 F (pI q 12 1 0 (cn 0)) (cn 1) (cn 0) (cn 0) else v12_doEndDay_51 F (pI q 12 1 0 (cn 1)) (cn 0) (cn 0) (cn 0)) ∧ ((v6_hasAuction_10 p n (cn i) = 0 → g12_doEndDay_51 F (pI q 12 1 0 (cn 0)) (cn 1) (cn 0) (cn 0)) → g12_doEndDay_51 F (pI q 12 1 0 (cn 1)) (cn 0) (cn 0) (cn 0) → g12_doEndDay_4 n' q (cn 1) (cn i)) := by
  have c00 : cn 0 = (0 : Int32) := rfl
  have c10 : ¬ cn 1 = (0 : Int32) := by decide
  intro d
  induction d with
  | zero =>
    intro i n n' h1 h2 h3
    obtain ⟨n1, rfl⟩ : ∃ z9, n = z9 + 1 := ⟨n - 1, by omega⟩
    obtain ⟨n2, rfl⟩ : ∃ z9, n' = z9 + 1 := ⟨n' - 1, by omega⟩
    have ei : i = 6 := by omega
    subst ei
    have hn := lpf (i := 6) (N := 6) (by omega) (by omega) (by omega)
    rw [ev12_doEndDay_4, eg12_doEndDay_4, ev6_hasAuction_10, eg6_hasAuction_10, hF]
    unfold bv12_doEndDay_4 bg12_doEndDay_4 bv6_hasAuction_10 bg6_hasAuction_10
    rw [if_neg hn, if_neg hn, if_neg hn, if_neg hn, if_neg c10, if_neg c10, if_pos c00]
    exact ⟨trivial, rfl, fun g _ => g c00⟩
  | succ d ih =>
    intro i n n' h1 h2 h3
    obtain ⟨n1, rfl⟩ : ∃ z9, n = z9 + 1 := ⟨n - 1, by omega⟩
    obtain ⟨n2, rfl⟩ : ∃ z9, n' = z9 + 1 := ⟨n' - 1, by omega⟩
    have l6 : cn (i : Int) < cn 6 := lpt (by omega) (by omega)
    have i6 := cninb (i := i) (n := 6) (by omega) (by omega)
    have hop := open_eq (b := i) (by omega) H
    have gop := g_open (q := q) (b := i) (by omega)
    obtain ⟨k0, k1, k2⟩ := ih (i + 1) n1 n2 (by omega) (by omega) (by omega)
    rw [ev12_doEndDay_4, eg12_doEndDay_4, ev6_hasAuction_10, eg6_hasAuction_10]
    unfold bv12_doEndDay_4 bg12_doEndDay_4 bv6_hasAuction_10 bg6_hasAuction_10
    rw [if_pos l6, if_pos l6, if_pos l6, if_pos l6, if_neg c10, if_neg c10, cntk (by omega), cnsucc]
    by_cases ho : v12_isOpen q (cn i) = 0
    · have hz : ¬ p.1 1 (i + 1) 5 = 0 := by
        rw [hop]
        exact fun h => h ho
      obtain ⟨b1', b2'⟩ := day_b (q := q) hF d (i + 1) n2 (by omega) (by omega)
      rw [if_pos ho, if_pos ho, if_neg hz, if_neg hz, if_neg c10]
      exact ⟨⟨i6, trivial⟩, b1', fun _ g => ⟨gop, b2' g⟩⟩
    · have hz : p.1 1 (i + 1) 5 = 0 := by
        rw [hop]
        exact ho
      rw [if_neg ho, if_neg ho, if_pos hz, if_pos hz]
      exact ⟨⟨i6, k0⟩, k1, fun g g' => ⟨gop, k2 g g'⟩⟩
theorem day18_101 : ∀ (d i n : Nat) (Q : PM) (a : Int32), i + d = 6 → d < n → (v12_doEndDay_101 n Q (cn 1) a (cn i)).2.1 12 1 18 = Q.1 12 1 18 + cn 1 := by
  have c10 : ¬ cn 1 = (0 : Int32) := by decide
  intro d
  induction d with
  | zero =>
    intro i n Q a h1 h2
    obtain ⟨n1, rfl⟩ : ∃ z9, n = z9 + 1 := ⟨n - 1, by omega⟩
    have ei : i = 6 := by omega
    subst ei
    have hn := lpf (i := 6) (N := 6) (by omega) (by omega) (by omega)
    rw [ev12_doEndDay_101]
    unfold bv12_doEndDay_101
    rw [if_neg hn, if_neg c10]
    exact pI_at
  | succ d ih =>
    intro i n Q a h1 h2
    obtain ⟨n1, rfl⟩ : ∃ z9, n = z9 + 1 := ⟨n - 1, by omega⟩
    have l6 : cn (i : Int) < cn 6 := lpt (by omega) (by omega)
    rw [ev12_doEndDay_101]
    unfold bv12_doEndDay_101
    rw [if_pos l6, if_neg c10, cnsucc]
    refine (ih (i + 1) n1 _ _ (by omega) (by omega)).trans ?_
    rw [pI_1, u3_k (by decide)]
theorem day18_51 {F : Nat} (hF : FU = F) (hF2 : 10 < F) : ∀ (d i n : Nat) (Q : PM) (a : Int32), i + d = 44 → d < n → (v12_doEndDay_51 n Q (cn 1) a (cn i)).2.1 12 1 18 = Q.1 12 1 18 + cn 1 := by
  have c10 : ¬ cn 1 = (0 : Int32) := by decide
  have z00 : cn ((0 : Nat) : Int) = cn 0 := rfl
  intro d
  induction d with
  | zero =>
    intro i n Q a h1 h2
    obtain ⟨n1, rfl⟩ : ∃ z9, n = z9 + 1 := ⟨n - 1, by omega⟩
    have ei : i = 44 := by omega
    subst ei
    have hn := lpf (i := 44) (N := 44) (by omega) (by omega) (by omega)
    rw [ev12_doEndDay_51, hF]
    unfold bv12_doEndDay_51
    rw [if_neg hn]
    have h := day18_101 6 0 F Q a rfl (by omega)
    rw [z00] at h
    exact h
  | succ d ih =>
    intro i n Q a h1 h2
    obtain ⟨n1, rfl⟩ : ∃ z9, n = z9 + 1 := ⟨n - 1, by omega⟩
    have l6 : cn (i : Int) < cn 44 := lpt (by omega) (by omega)
    rw [ev12_doEndDay_51]
    unfold bv12_doEndDay_51
    rw [if_pos l6, if_neg c10, cnsucc]
    by_cases x1 : Q.1 15 3 (cn (i : Int)).toNatClampNeg = 0
    · rw [if_pos x1]
      exact ih (i + 1) n1 _ _ (by omega) (by omega)
    · rw [if_neg x1]
      by_cases x2 : Q.1 12 1 18 < Q.1 13 20 (cn (i : Int)).toNatClampNeg
      · rw [if_pos x2]
        exact ih (i + 1) n1 _ _ (by omega) (by omega)
      · rw [if_neg x2]
        refine (ih (i + 1) n1 _ _ (by omega) (by omega)).trans ?_
        rw [pI_1, u3_k (by decide)]
theorem do_day (he : e + 1 ≤ 2000) (H : WW p q (lgB lg e) 99 99 (fun _ => False) N T D 6 (fun _ => 0)) (hS : SB q e) : (g6_hasAuction p ∧ g12_doEndDay q ∧ DoE (lgB lg (e + 1)) q N T D 60 0 (kDay p) (g6_turnDay p) (v6_turnDay p) (v12_doEndDay q)) ∧ (kDay p = 0 → SB (v12_doEndDay q).2 (e + 1)) := by
  obtain ⟨F, hF, hF2⟩ : ∃ F, FU = F ∧ 100 < F := ⟨FU, rfl, by decide⟩
  have c00 : cn 0 = (0 : Int32) := rfl
  have z00 : cn ((0 : Nat) : Int) = cn 0 := rfl
  obtain ⟨a1, a2, a3⟩ := day_a hF H.2.2.1 6 0 F F rfl (by omega) (by omega)
  rw [z00] at a1 a2 a3
  have eA : v6_hasAuction p = v6_hasAuction_10 p F (cn 0) := by
    unfold v6_hasAuction bv6_hasAuction
    rw [hF]
  have gA : g6_hasAuction p = g6_hasAuction_10 p F (cn 0) := by
    unfold g6_hasAuction bg6_hasAuction
    rw [hF]
  have eD : v12_doEndDay q = v12_doEndDay_4 F q (cn 1) (cn 0) := by
    unfold v12_doEndDay bv12_doEndDay
    rw [hF]
  have gD : g12_doEndDay q = g12_doEndDay_4 F q (cn 1) (cn 0) := by
    unfold g12_doEndDay bg12_doEndDay
    rw [hF]
  have x51 : v12_doEndDay_51 F (pI q 12 1 0 (cn 1)) (cn 0) (cn 0) (cn 0) = (cn 0, pI q 12 1 0 (cn 1)) ∧ g12_doEndDay_51 F (pI q 12 1 0 (cn 1)) (cn 0) (cn 0) (cn 0) := by
    obtain ⟨n, hn⟩ : ∃ n, F = n + 1 := ⟨F - 1, by omega⟩
    have l44 : cn 0 < cn 44 := by decide
    have l6 : cn 0 < cn 6 := by decide
    have e18 : (pI q 12 1 0 (cn 1)).1 12 1 18 + cn 0 = (pI q 12 1 0 (cn 1)).1 12 1 18 := addz _
    constructor
    · rw [hn, ev12_doEndDay_51, hF, hn]
      unfold bv12_doEndDay_51
      rw [if_pos l44, if_pos c00, ev12_doEndDay_101]
      unfold bv12_doEndDay_101
      rw [if_pos l6, if_pos c00, if_pos c00]
      show (cn 0, pI (pI q 12 1 0 (cn 1)) 12 1 18 ((pI q 12 1 0 (cn 1)).1 12 1 18 + cn 0)) = _
      rw [e18, pI_id]
    · rw [hn, eg12_doEndDay_51, hF, hn]
      unfold bg12_doEndDay_51
      rw [if_pos l44, if_pos c00, eg12_doEndDay_101]
      unfold bg12_doEndDay_101
      rw [if_pos l6, if_pos c00, if_pos c00]
      exact trivial
  unfold kDay
  rw [eA, gA, eD, gD]
  by_cases hh : v6_hasAuction_10 p F (cn 0) = 0
  · obtain ⟨s1, s2, ⟨t, t1, t2⟩, d, d1, d2⟩ := hS
    have h18 : (pI q 12 1 0 (cn 0)).1 12 1 18 = cn d := by
      rw [th_1 (by decide)]
      exact d2
    obtain ⟨⟨y1, y2⟩, y3⟩ := ev_day (ww_th (cn 0) H) h18 (by omega)
    have k18 := day18_51 hF (by omega) 44 0 F (pI q 12 1 0 (cn 0)) (cn 0) rfl (by omega)
    have Y := fz_v12_doEndDay_51 (q := pI q 12 1 0 (cn 0)) F (cn 1) (cn 0) (cn 0) (fz_refl _)
    rw [z00] at k18
    rw [if_pos hh] at a2 ⊢
    rw [hF] at y2 y3
    rw [a2]
    generalize v12_doEndDay_51 F (pI q 12 1 0 (cn 0)) (cn 1) (cn 0) (cn 0) = R at *
    obtain ⟨Y1, Y2, Y3⟩ := Y
    refine ⟨⟨a1, a3 (fun _ => y2) x51.2, doe_a (x := cn 0) he y1 ?_ y3⟩, fun _ => ⟨mb_up s1 (fun k _ => ?_) (fun k _ => ?_), fi_c s2 ?_ ?_ ?_, ⟨t, by omega, ?_⟩, d + 1, by omega, ?_⟩⟩
    · rw [Y1 0 (by decide), t_1]
    · rw [Y2 36 (by decide), th_k (by decide)]
    · rw [Y2 37 (by decide), th_k (by decide)]
    · rw [Y3 9 (by decide), th_k (by decide)]
    · rw [Y3 10 (by decide), th_k (by decide)]
    · rw [Y1 57 (by decide), th_1 (by decide)]
    · rw [Y1 17 (by decide), th_1 (by decide)]
      exact t2
    · rw [k18, h18, cnsucc]
  · rw [if_neg hh] at a2 ⊢
    rw [a2, x51.1]
    exact ⟨⟨a1, a3 (fun h => absurd h hh) x51.2, doe_x (by decide) rfl⟩, fun h => absurd h (by decide)⟩
end Small4
