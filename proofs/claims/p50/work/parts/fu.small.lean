/-! the small events, with their refusals -/
theorem doe_x {lg : Nat → Int32} {q : PM} {N T D k n code : Nat} {G : Prop} {c r : Int32 × PM} (hc : ¬ code = 0) (h : r.2 = pI q 12 1 0 (cn code)) : DoE lg q N T D k n code G c r := ⟨fun h => absurd h hc, fun _ => h⟩
theorem doe_a {lg : Nat → Int32} {q : PM} {N T D e k n : Nat} {G : Prop} {c r : Int32 × PM} {x : Int32} (he : e + 1 ≤ 2000) (g : G) (h0 : r.2.1 12 1 0 = cn 0) (ev : EvR (lgB lg e) (pI q 12 1 0 x) N T D 6 k n c r) : DoE (lgB lg (e + 1)) q N T D k n 0 G c r := ⟨fun _ => ⟨g, h0, ev_bud he (ev_th ev)⟩, fun h => absurd rfl h⟩
noncomputable def kBand (b w : Int32) : Nat := if isW b (cn 0) (cn 5) = 0 then 1 else if isW w (cn 0) (cn 9999) = 0 then 2 else 0
noncomputable def kProt (a v : Int32) : Nat := if isW a (cn 0) (cn 7) = 0 then 1 else if isW v (cn 0) (cn 999) = 0 then 2 else 0
noncomputable def kMost (a c v : Int32) : Nat := if isW a (cn 0) (cn 7) = 0 then 1 else if isW c (cn 0) (cn 3) = 0 then 1 else if isW v (cn 0) (cn 999) = 0 then 2 else 0
noncomputable def kMove (s c v : Int32) : Nat := if isW s (cn 0) (cn 3) = 0 then 1 else if isW c (cn 0) (cn 3) = 0 then 1 else if isW v (cn (-99)) (cn 99) = 0 then 2 else 0
noncomputable def kRule (b r t s : Int32) : Nat := if isW b (cn 0) (cn 5) = 0 then 1 else if isW r (cn 0) (cn 2) = 0 then 2 else if isW t (cn 0) (cn 50) = 0 then 2 else if isW s (cn 0) (cn 2) = 0 then 2 else 0
noncomputable def kFund (p : PM) (m v : Int32) : Nat := if isW m (cn 0) (cn 3) = 0 then 1 else if isW v (cn 0) (cn 9999) = 0 then 2 else if p.1 9 (v2_memberAt p m) 3 = 0 then 0 else 3
noncomputable def kBid (p : PM) (m v : Int32) : Nat := if isW m (cn 0) (cn 3) = 0 then 1 else if isW v (cn (-9999)) (cn 9999) = 0 then 2 else if p.1 2 1 6 = cn (-100000) then 3 else if p.1 9 (v2_memberAt p m) 3 = 0 then 0 else 3
noncomputable def kFail (p : PM) (m : Int32) : Nat := if isW m (cn 0) (cn 3) = 0 then 1 else if v2_canFail p m = 0 then 2 else 0
noncomputable def kPay (p : PM) (m c u : Int32) : Nat := if isW m (cn 0) (cn 3) = 0 then 1 else if isW c (cn (-9999)) (cn 9999) = 0 then 2 else if isW u (cn (-99)) (cn 99) = 0 then 2 else if v2_canPay p m c u = 0 then 3 else 0
section Small
variable {p q : PM} {lg : Nat → Int32} {N T D e : Nat}
theorem puts_x1 {K : Nat} {i v o1 o2 : Int32} (h : o1 = 0) : v12_puts q K i o1 v o2 = (cn 0, pI q 12 1 0 (cn 1)) ∧ g12_puts q K i o1 v o2 := by
  have c10 : ¬ cn 1 = (0 : Int32) := by decide
  unfold v12_puts bv12_puts g12_puts bg12_puts
  simp only [if_pos h, t_1, if_neg c10]
  exact ⟨trivial, trivial⟩
theorem puts_x2 {K : Nat} {i v o1 o2 : Int32} (h : ¬ o1 = 0) (h2 : o2 = 0) : v12_puts q K i o1 v o2 = (cn 0, pI q 12 1 0 (cn 2)) ∧ g12_puts q K i o1 v o2 := by
  have c20 : ¬ cn 2 = (0 : Int32) := by decide
  unfold v12_puts bv12_puts g12_puts bg12_puts
  simp only [if_neg h, if_pos h2, t_1, if_neg c20]
  exact ⟨trivial, trivial⟩
theorem puts_a {K : Nat} {i v o1 o2 : Int32} (h : ¬ o1 = 0) (h2 : ¬ o2 = 0) : v12_puts q K i o1 v o2 = ((pI q 12 1 0 (cn 0)).1 13 K i.toNatClampNeg, pI (pI q 12 1 0 (cn 0)) 13 K i.toNatClampNeg v) ∧ ((¬ K = 0 ∧ inb i (zln 2 13 K)) → g12_puts q K i o1 v o2) := by
  have c00 : cn 0 = (0 : Int32) := rfl
  unfold v12_puts bv12_puts g12_puts bg12_puts
  simp only [if_neg h, if_neg h2, t_1, if_pos c00]
  exact ⟨trivial, fun g => ⟨g, g, trivial⟩⟩
theorem th0_13 {K i : Nat} {v x : Int32} : (pI (pI q 12 1 0 x) 13 K i v).1 12 1 0 = x := by rw [pI_1, u3_k (by decide), pI_at]
theorem do_band {b w : Int32} (he : e + 1 ≤ 2000) (H : WW p q (lgB lg e) 99 99 (fun _ => False) N T D 6 (fun _ => 0)) : g12_puts q 9 b (v12_in q b (cn 0) (cn 5)) w (v12_in q w (cn 0) (cn 9999)) ∧ DoE (lgB lg (e + 1)) q N T D 60 0 (kBand b w) (g6_bookAt p b ∧ g1_changeBand p (v6_bookAt p b) w) (v1_changeBand p (v6_bookAt p b) w) (v12_puts q 9 b (v12_in q b (cn 0) (cn 5)) w (v12_in q w (cn 0) (cn 9999))) := by
  unfold kBand
  rw [in_w, in_w]
  by_cases h1 : isW b (cn 0) (cn 5) = 0
  · obtain ⟨k1, k2⟩ := puts_x1 (q := q) (K := 9) (i := b) (v := w) (o2 := isW w (cn 0) (cn 9999)) h1
    rw [if_pos h1]
    exact ⟨k2, doe_x (by decide) (by rw [k1]; rfl)⟩
  · by_cases h2 : isW w (cn 0) (cn 9999) = 0
    · obtain ⟨k1, k2⟩ := puts_x2 (q := q) (K := 9) (i := b) (v := w) h1 h2
      rw [if_neg h1, if_pos h2]
      exact ⟨k2, doe_x (by decide) (by rw [k1]; rfl)⟩
    · obtain ⟨k1, k2⟩ := puts_a (q := q) (K := 9) (i := b) (v := w) h1 h2
      rw [if_neg h1, if_neg h2]
      obtain ⟨b, hb, rfl⟩ := isW_n (b := 5) (by decide) h1
      obtain ⟨w, w1, w2, rfl⟩ := isW_z (a := 0) (b := 9999) (by decide) (by decide) h2
      obtain ⟨x1, x2⟩ := ww_band (ww_th (cn 0) H) (b := b) (by omega) w1 w2
      rw [book_e p (by omega), k1, cntk (by omega)]
      exact ⟨k2 ⟨by decide, cninb (n := 6) (by omega) (by omega)⟩, doe_a he ⟨g_book p (by omega), x1⟩ th0_13 x2⟩
theorem do_prot {a v : Int32} (he : e + 1 ≤ 2000) (H : WW p q (lgB lg e) 99 99 (fun _ => False) N T D 6 (fun _ => 0)) : g12_puts q 3 a (v12_isAccount q a) v (v12_in q v (cn 0) (cn 999)) ∧ DoE (lgB lg (e + 1)) q N T D 60 0 (kProt a v) (g7_accountAt p a ∧ g0_changeProtection p (v7_accountAt p a) v) (v0_changeProtection p (v7_accountAt p a) v) (v12_puts q 3 a (v12_isAccount q a) v (v12_in q v (cn 0) (cn 999))) := by
  unfold kProt
  rw [in_w, (acc_e q a).1]
  by_cases h1 : isW a (cn 0) (cn 7) = 0
  · obtain ⟨k1, k2⟩ := puts_x1 (q := q) (K := 3) (i := a) (v := v) (o2 := isW v (cn 0) (cn 999)) h1
    rw [if_pos h1]
    exact ⟨k2, doe_x (by decide) (by rw [k1]; rfl)⟩
  · by_cases h2 : isW v (cn 0) (cn 999) = 0
    · obtain ⟨k1, k2⟩ := puts_x2 (q := q) (K := 3) (i := a) (v := v) h1 h2
      rw [if_neg h1, if_pos h2]
      exact ⟨k2, doe_x (by decide) (by rw [k1]; rfl)⟩
    · obtain ⟨k1, k2⟩ := puts_a (q := q) (K := 3) (i := a) (v := v) h1 h2
      rw [if_neg h1, if_neg h2]
      obtain ⟨a, ha, rfl⟩ := isW_n (b := 7) (by decide) h1
      obtain ⟨v, w1, w2, rfl⟩ := isW_z (a := 0) (b := 999) (by decide) (by decide) h2
      obtain ⟨x1, x2⟩ := ww_prot (ww_th (cn 0) H) (a := a) (by omega) w1 w2
      rw [account_e p (by omega), k1, cntk (by omega)]
      exact ⟨k2 ⟨by decide, cninb (n := 8) (by omega) (by omega)⟩, doe_a he ⟨g_account p (by omega), x1⟩ th0_13 x2⟩
theorem do_most {a c v X : Int32} (he : e + 1 ≤ 2000) (hX : X = if isW a (cn 0) (cn 7) = 0 then cn 0 else if isW c (cn 0) (cn 3) = 0 then cn 0 else cn 1) (H : WW p q (lgB lg e) 99 99 (fun _ => False) N T D 6 (fun _ => 0)) : g12_puts q 2 (cn 4 * a + c) X v (v12_in q v (cn 0) (cn 999)) ∧ DoE (lgB lg (e + 1)) q N T D 60 0 (kMost a c v) (g7_accountAt p a ∧ g0_changeLimit p (v7_accountAt p a) c v) (v0_changeLimit p (v7_accountAt p a) c v) (v12_puts q 2 (cn 4 * a + c) X v (v12_in q v (cn 0) (cn 999))) := by
  unfold kMost
  rw [in_w]
  by_cases h1 : isW a (cn 0) (cn 7) = 0
  · rw [if_pos h1] at hX
    obtain ⟨k1, k2⟩ := puts_x1 (q := q) (K := 2) (i := cn 4 * a + c) (v := v) (o2 := isW v (cn 0) (cn 999)) hX
    rw [if_pos h1]
    exact ⟨k2, doe_x (by decide) (by rw [k1]; rfl)⟩
  by_cases h3 : isW c (cn 0) (cn 3) = 0
  · rw [if_neg h1, if_pos h3] at hX
    obtain ⟨k1, k2⟩ := puts_x1 (q := q) (K := 2) (i := cn 4 * a + c) (v := v) (o2 := isW v (cn 0) (cn 999)) hX
    rw [if_neg h1, if_pos h3]
    exact ⟨k2, doe_x (by decide) (by rw [k1]; rfl)⟩
  have hX1 : ¬ X = 0 := by
    rw [hX, if_neg h1, if_neg h3]
    decide
  by_cases h2 : isW v (cn 0) (cn 999) = 0
  · obtain ⟨k1, k2⟩ := puts_x2 (q := q) (K := 2) (i := cn 4 * a + c) (v := v) hX1 h2
    rw [if_neg h1, if_neg h3, if_pos h2]
    exact ⟨k2, doe_x (by decide) (by rw [k1]; rfl)⟩
  · obtain ⟨k1, k2⟩ := puts_a (q := q) (K := 2) (i := cn 4 * a + c) (v := v) hX1 h2
    rw [if_neg h1, if_neg h3, if_neg h2]
    obtain ⟨a, ha, rfl⟩ := isW_n (b := 7) (by decide) h1
    obtain ⟨c, hc, rfl⟩ := isW_n (b := 3) (by decide) h3
    obtain ⟨v, w1, w2, rfl⟩ := isW_z (a := 0) (b := 999) (by decide) (by decide) h2
    have i0 : cn 4 * cn (a : Int) + cn (c : Int) = cn ((4 * a + c : Nat) : Int) := by
      rw [cnmul, cnadd]
      exact congrArg cn (by omega)
    rw [i0] at k1 k2 ⊢
    obtain ⟨x1, x2⟩ := ww_lim (ww_th (cn 0) H) (a := a) (c0 := c) (by omega) (by omega) w1 w2
    rw [account_e p (by omega), k1, cntk (by omega)]
    exact ⟨k2 ⟨by decide, cninb (n := 32) (by omega) (by omega)⟩, doe_a he ⟨g_account p (by omega), x1⟩ th0_13 x2⟩
theorem do_move {s c v X : Int32} (he : e + 1 ≤ 2000) (hX : X = if isW s (cn 0) (cn 3) = 0 then cn 0 else if isW c (cn 0) (cn 3) = 0 then cn 0 else cn 1) (H : WW p q (lgB lg e) 99 99 (fun _ => False) N T D 6 (fun _ => 0)) : g12_puts q 35 (cn 4 * s + c) X v (v12_in q v (cn (-99)) (cn 99)) ∧ DoE (lgB lg (e + 1)) q N T D 60 0 (kMove s c v) (g2_changeMove p s c v) (v2_changeMove p s c v) (v12_puts q 35 (cn 4 * s + c) X v (v12_in q v (cn (-99)) (cn 99))) := by
  unfold kMove
  rw [in_w]
  by_cases h1 : isW s (cn 0) (cn 3) = 0
  · rw [if_pos h1] at hX
    obtain ⟨k1, k2⟩ := puts_x1 (q := q) (K := 35) (i := cn 4 * s + c) (v := v) (o2 := isW v (cn (-99)) (cn 99)) hX
    rw [if_pos h1]
    exact ⟨k2, doe_x (by decide) (by rw [k1]; rfl)⟩
  by_cases h3 : isW c (cn 0) (cn 3) = 0
  · rw [if_neg h1, if_pos h3] at hX
    obtain ⟨k1, k2⟩ := puts_x1 (q := q) (K := 35) (i := cn 4 * s + c) (v := v) (o2 := isW v (cn (-99)) (cn 99)) hX
    rw [if_neg h1, if_pos h3]
    exact ⟨k2, doe_x (by decide) (by rw [k1]; rfl)⟩
  have hX1 : ¬ X = 0 := by
    rw [hX, if_neg h1, if_neg h3]
    decide
  by_cases h2 : isW v (cn (-99)) (cn 99) = 0
  · obtain ⟨k1, k2⟩ := puts_x2 (q := q) (K := 35) (i := cn 4 * s + c) (v := v) hX1 h2
    rw [if_neg h1, if_neg h3, if_pos h2]
    exact ⟨k2, doe_x (by decide) (by rw [k1]; rfl)⟩
  · obtain ⟨k1, k2⟩ := puts_a (q := q) (K := 35) (i := cn 4 * s + c) (v := v) hX1 h2
    rw [if_neg h1, if_neg h3, if_neg h2]
    obtain ⟨s, hs, rfl⟩ := isW_n (b := 3) (by decide) h1
    obtain ⟨c, hc, rfl⟩ := isW_n (b := 3) (by decide) h3
    obtain ⟨v, w1, w2, rfl⟩ := isW_z (a := -99) (b := 99) (by decide) (by decide) h2
    have i0 : cn 4 * cn (s : Int) + cn (c : Int) = cn ((4 * s + c : Nat) : Int) := by
      rw [cnmul, cnadd]
      exact congrArg cn (by omega)
    rw [i0] at k1 k2 ⊢
    obtain ⟨x1, x2⟩ := ww_move2 (ww_th (cn 0) H) (s := s) (c := c) (by omega) (by omega) w1 w2
    rw [k1, cntk (by omega)]
    exact ⟨k2 ⟨by decide, cninb (n := 16) (by omega) (by omega)⟩, doe_a he x1 th0_13 x2⟩
theorem do_rule {b r t s : Int32} (he : e + 1 ≤ 2000) (H : WW p q (lgB lg e) 99 99 (fun _ => False) N T D 6 (fun _ => 0)) : g12_doRule q b r t s ∧ DoE (lgB lg (e + 1)) q N T D 60 0 (kRule b r t s) (g6_bookAt p b ∧ g1_changeRule p (v6_bookAt p b) r t s) (v1_changeRule p (v6_bookAt p b) r t s) (v12_doRule q b r t s) := by
  have c10 : ¬ cn 1 = (0 : Int32) := by decide
  have c20 : ¬ cn 2 = (0 : Int32) := by decide
  have c00 : cn 0 = (0 : Int32) := rfl
  have k43 : v12_doRule_43 q b r t s = (cn 0, pI q 12 1 0 (cn 2)) ∧ g12_doRule_43 q b r t s := by
    unfold v12_doRule_43 bv12_doRule_43 g12_doRule_43 bg12_doRule_43
    simp only [t_1, if_neg c20]
    exact ⟨trivial, trivial⟩
  unfold kRule v12_doRule bv12_doRule g12_doRule bg12_doRule
  simp only [in_w, t_1, if_neg c10, if_pos c00]
  have gi : ∀ a b c, g12_in q a b c := fun a b c => g_in q a b c
  by_cases h1 : isW b (cn 0) (cn 5) = 0
  · simp only [if_pos h1]
    exact ⟨⟨gi _ _ _, trivial⟩, doe_x (by decide) rfl⟩
  by_cases h2 : isW r (cn 0) (cn 2) = 0
  · simp only [if_neg h1, if_pos h2, k43.1]
    exact ⟨⟨gi _ _ _, gi _ _ _, k43.2⟩, doe_x (by decide) rfl⟩
  by_cases h3 : isW t (cn 0) (cn 50) = 0
  · simp only [if_neg h1, if_neg h2, if_pos h3, k43.1]
    exact ⟨⟨gi _ _ _, gi _ _ _, gi _ _ _, k43.2⟩, doe_x (by decide) rfl⟩
  by_cases h4 : isW s (cn 0) (cn 2) = 0
  · simp only [if_neg h1, if_neg h2, if_neg h3, if_pos h4, k43.1]
    exact ⟨⟨gi _ _ _, gi _ _ _, gi _ _ _, gi _ _ _, k43.2⟩, doe_x (by decide) rfl⟩
  simp only [if_neg h1, if_neg h2, if_neg h3, if_neg h4]
  obtain ⟨b, hb, rfl⟩ := isW_n (b := 5) (by decide) h1
  obtain ⟨r, r1, r2, rfl⟩ := isW_z (a := 0) (b := 2) (by decide) (by decide) h2
  obtain ⟨t, t1, t2, rfl⟩ := isW_z (a := 0) (b := 50) (by decide) (by decide) h3
  obtain ⟨s, s1, s2, rfl⟩ := isW_z (a := 0) (b := 2) (by decide) (by decide) h4
  obtain ⟨x1, x2⟩ := ww_rule (ww_th (cn 0) H) (b := b) (by omega) r1 r2 t1 t2 s1 s2
  have i6 := cninb (i := b) (n := 6) (by omega) (by omega)
  rw [book_e p (by omega), cntk (by omega)]
  exact ⟨⟨gi _ _ _, gi _ _ _, gi _ _ _, gi _ _ _, i6, i6, i6, i6, trivial⟩, doe_a he ⟨g_book p (by omega), x1⟩ (by rw [pI_1, u3_k (by decide), pI_1, u3_k (by decide)]; exact th0_13) x2⟩
theorem do_fund {m v : Int32} (he : e + 1 ≤ 2000) (H : WW p q (lgB lg e) 99 99 (fun _ => False) N T D 6 (fun _ => 0)) : g12_doFund q m v ∧ DoE (lgB lg (e + 1)) q N T D 60 0 (kFund p m v) (g2_changeFund p m v) (v2_changeFund p m v) (v12_doFund q m v) := by
  have c00 : cn 0 = (0 : Int32) := rfl
  have gi : ∀ a b c, g12_in q a b c := fun a b c => g_in q a b c
  have k43 : ∀ s : Int32, ¬ s = 0 → v12_doFund_43 q m v s = (cn 0, pI q 12 1 0 s) ∧ g12_doFund_43 q m v s := by
    intro s hs
    unfold v12_doFund_43 bv12_doFund_43 g12_doFund_43 bg12_doFund_43
    simp only [t_1, if_neg hs]
    exact ⟨trivial, trivial⟩
  unfold kFund v12_doFund bv12_doFund g12_doFund bg12_doFund
  by_cases h1 : isW m (cn 0) (cn 3) = 0
  · have h1' : v12_in q m (cn 0) (cn 3) = 0 := h1
    simp only [if_pos h1, if_pos h1', (k43 (cn 1) (by decide)).1]
    exact ⟨⟨gi _ _ _, (k43 (cn 1) (by decide)).2⟩, doe_x (by decide) rfl⟩
  have h1' : ¬ v12_in q m (cn 0) (cn 3) = 0 := h1
  by_cases h2 : isW v (cn 0) (cn 9999) = 0
  · have h2' : v12_in q v (cn 0) (cn 9999) = 0 := h2
    simp only [if_neg h1, if_neg h1', if_pos h2, if_pos h2', (k43 (cn 2) (by decide)).1]
    exact ⟨⟨gi _ _ _, gi _ _ _, (k43 (cn 2) (by decide)).2⟩, doe_x (by decide) rfl⟩
  have h2' : ¬ v12_in q v (cn 0) (cn 9999) = 0 := h2
  obtain ⟨m, hm, rfl⟩ := isW_n (b := 3) (by decide) h1
  obtain ⟨v, w1, w2, rfl⟩ := isW_z (a := 0) (b := 9999) (by decide) (by decide) h2
  have i4 := cninb (i := m) (n := 4) (by omega) (by omega)
  have em := member_e p (a := m) (by omega)
  have ef : p.1 9 (m + 1) 3 = q.1 15 9 m := (H.2.2.2.2.2.1.1 m (by omega)).2.2.2.1.1
  simp only [if_neg h1, if_neg h2, if_neg h1', if_neg h2', em, ef, cntk (i := m) (by omega)]
  by_cases h3 : q.1 15 9 m = 0
  · simp only [if_pos h3]
    obtain ⟨x1, x2⟩ := ww_fund (ww_th (cn 0) H) (m0 := m) (by omega) w1 w2
    have k0 : v12_doFund_43 q (cn m) (cn v) (cn 0) = ((pI q 12 1 0 (cn 0)).1 13 38 m, pI (pI q 12 1 0 (cn 0)) 13 38 m (cn v)) ∧ g12_doFund_43 q (cn m) (cn v) (cn 0) := by
      unfold v12_doFund_43 bv12_doFund_43 g12_doFund_43 bg12_doFund_43
      simp only [t_1, if_pos c00, cntk (i := m) (by omega)]
      exact ⟨trivial, i4, i4, trivial⟩
    rw [k0.1]
    exact ⟨⟨gi _ _ _, gi _ _ _, i4, k0.2⟩, doe_a he x1 th0_13 x2⟩
  · simp only [if_neg h3, (k43 (cn 3) (by decide)).1]
    exact ⟨⟨gi _ _ _, gi _ _ _, i4, (k43 (cn 3) (by decide)).2⟩, doe_x (by decide) rfl⟩
end Small
