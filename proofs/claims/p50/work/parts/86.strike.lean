/-! a new order trades with one in the book -/
theorem rs_kq {p q : PM} {x y : Nat} {K : Nat → Bool} (H : OR p q x y) : RS (kq q K) 40 ≤ RS q 40 := by
  refine RS_le 40 fun i hi => ?_
  have h0 := (rs_rng (H.1 i hi)).1
  unfold rs at h0 ⊢
  rw [kq_3, kq_k (by decide)]
  split
  · rw [if_pos cn0e']
    exact h0
  · exact Int.le_refl _
section Strike
variable {p q : PM} {lg : Nat → Int32} {x y o ax ao b N T D l : Nat} {rx sx zx ro so zo z n : Int}
theorem ww_strike (H : WW p q lg x y (fun _ => False) N T D l (fun _ => 0)) (hx : x < 40) (ho : o < 40) (hne : ¬ o = x) (lx : q.1 15 3 x = cn 1) (lo : q.1 15 3 o = cn 1) (hLx : LV p q x y x ax b rx sx zx) (hLo : LV p q x y o ao b ro so zo) (hy : ¬ b = y) (hz : PrB b z) (h1 : 1 ≤ n) (h2 : n ≤ rx) (h3 : n ≤ ro) (hsh : ∀ h : Int, 0 ≤ h → h ≤ 50 → p.1 10 (o + 1) 11 = cn h → n ≤ h) (hg : q.1 13 29 o = cn n) (hD1 : D + 1 ≤ 1000000000) (hT1 : T + 1 ≤ 1000000000) :
    ((g8_strike p (x + 1) (o + 1) (cn z) (cn n) ∧ g6_showAnew (v8_strike p (x + 1) (o + 1) (cn z) (cn n)) (o + 1)) ∧ g12_tradesWith q (cn x) (cn o) (cn z)) ∧ ∃ T', T ≤ T' ∧ T' ≤ T + 1 ∧
    WW (v6_showAnew (v8_strike p (x + 1) (o + 1) (cn z) (cn n)) (o + 1)) (v12_tradesWith q (cn x) (cn o) (cn z)) lg x y (fun _ => False) N T' (D + 1) l (fun _ => 0) ∧
    RS (v12_tradesWith q (cn x) (cn o) (cn z)) 40 + n + n ≤ RS q 40 ∧
    ((v12_tradesWith q (cn x) (cn o) (cn z)).1 15 3 x = cn 1 → n < rx) ∧ (v12_tradesWith q (cn x) (cn o) (cn z)).1 13 17 x = cn (rx - n) ∧
    (∀ K i, 14 ≤ K → K ≤ 28 → ¬ i = o → ¬ (i = x ∧ (K = 17 ∨ K = 22)) → (v12_tradesWith q (cn x) (cn o) (cn z)).1 13 K i = q.1 13 K i) ∧
    (∀ K i, 4 ≤ K → K ≤ 5 → (v12_tradesWith q (cn x) (cn o) (cn z)).1 15 K i = q.1 15 K i) ∧
    (∀ i, (v12_tradesWith q (cn x) (cn o) (cn z)).1 15 3 i = cn 1 → q.1 15 3 i = cn 1) ∧
    (v12_tradesWith q (cn x) (cn o) (cn z)).1 13 29 = (pI q 13 29 o (cn 0)).1 13 29 ∧
    (∀ K, 35 ≤ K → (v12_tradesWith q (cn x) (cn o) (cn z)).1 13 K = q.1 13 K) ∧
    (∀ K, 2 ≤ K → K ≤ 13 → ¬ K = 4 → ¬ K = 10 → (v12_tradesWith q (cn x) (cn o) (cn z)).1 13 K = q.1 13 K) ∧
    (∀ i, ¬ i = x → ¬ i = o → (v6_showAnew (v8_strike p (x + 1) (o + 1) (cn z) (cn n)) (o + 1)).1 10 (i + 1) 11 = p.1 10 (i + 1) 11) ∧
    (v6_showAnew (v8_strike p (x + 1) (o + 1) (cn z) (cn n)) (o + 1)).2.2 20 = p.2.2 20 ∧
    (v6_showAnew (v8_strike p (x + 1) (o + 1) (cn z) (cn n)) (o + 1)).1 13 19 = p.1 13 19 := by
  have hzx : ¬ x + 1 = 0 := by omega
  have hzo : ¬ o + 1 = 0 := by omega
  have hix := cninb (i := x) (n := 44) (by omega) (by omega)
  have hio := cninb (i := o) (n := 44) (by omega) (by omega)
  have ax8 := hLx.1.1
  have ao8 := hLo.1.1
  have rrx := hLx.2.2.2.2.2.2.2.1
  have rro := hLo.2.2.2.2.2.2.2.1
  have sso := hLo.2.2.2.2.2.2.2.2.1
  have W0 : WW p (pI q 13 29 o (cn 0)) lg x y (fun _ => False) N T D l (fun _ => 0) := ww_scr H (fun K h _ _ => by
    funext s
    exact u3_i h) rfl (fun _ _ _ _ => rfl) rfl
  have c0 : ∀ K i, ¬ K = 29 → (pI q 13 29 o (cn 0)).1 13 K i = q.1 13 K i := fun K i h => u3_i h
  have hLx0 : LV p (pI q 13 29 o (cn 0)) x y x ax b rx sx zx := lv_c (fun _ => rfl) (fun _ => rfl) (fun K h h' _ => c0 K x (by omega)) (fun _ _ _ => rfl) hLx
  have hLo0 : LV p (pI q 13 29 o (cn 0)) x y o ao b ro so zo := lv_c (fun _ => rfl) (fun _ => rfl) (fun K h h' _ => c0 K o (by omega)) (fun _ _ _ => rfl) hLo
  have hAB : ∃ A B : Nat, ((A = ax ∧ B = ao) ∨ (A = ao ∧ B = ax)) ∧ ((q.1 15 4 x = 0 ∧ A = ao ∧ B = ax) ∨ (¬ q.1 15 4 x = 0 ∧ A = ax ∧ B = ao)) := by
    by_cases hb : q.1 15 4 x = 0
    · exact ⟨ao, ax, Or.inr ⟨rfl, rfl⟩, Or.inl ⟨hb, rfl, rfl⟩⟩
    · exact ⟨ax, ao, Or.inl ⟨rfl, rfl⟩, Or.inr ⟨hb, rfl, rfl⟩⟩
  obtain ⟨A, B, hAB, hbuy⟩ := hAB
  generalize e1 : v7_record p (b + 1) (A + 1) (B + 1) (cn z) (cn n) = p1
  generalize e2 : v10_fall p1 (x + 1) (cn n) = p2
  generalize e3 : v10_fall p2 (o + 1) (cn n) = p3
  generalize e4 : v6_guard p3 (o + 1) (cn n) = p4
  generalize e5 : v6_guard p4 (x + 1) (cn n) = p5
  generalize k1 : v12_deals (pI q 13 29 o (cn 0)) (cn b) (cn A) (cn B) (cn z) (cn n) = q1
  generalize k2 : v12_falls q1 (cn x) (cn n) (cn 0) = q2
  generalize k3 : v12_falls q2 (cn o) (cn n) (cn 1) = q3
  obtain ⟨⟨g1, g2, g3, g4, g5⟩, ⟨g6, g7, g8⟩, ⟨K, hK, W5⟩, r3, ⟨l1, l2⟩, m1, m2, ⟨m3, m4⟩, m5, m6, m7, m8, m9, m10, hO3⟩ := ww_core (A := A) (B := B) (stu := cn 0) (sto := cn 1) W0 hx ho hne lx lo hLx0 hLo0 hz h1 h2 h3 (Or.inr ⟨rfl, Or.inl rfl⟩) (Or.inl ⟨rfl, hsh⟩) hAB hD1 e1.symm e2.symm e3.symm e4.symm e5.symm k1.symm k2.symm k3.symm
  have hT3 : q3.1 12 1 40 = cn T := by
    rw [m6 40 (by decide)]
    exact H.1.2.2.1.2.2.2.1
  have h21 : q3.1 13 21 o = cn so := by rw [m1 21 o (by decide) (by decide) (by omega), c0 21 o (by decide)]; exact sso.2.2.2.1
  obtain ⟨s1, s2, s3, s4⟩ := sQ_fr (T := T) (r := ro - n) (s := so) ho m4 h21 ⟨by omega, by omega⟩ ⟨by omega, by omega⟩ hT3
  have skq := sQ_kq (T := T) (r := ro - n) (s := so) (K := K) ho m4 h21 ⟨by omega, by omega⟩ ⟨by omega, by omega⟩ hT3
  obtain ⟨hb3, hacc3⟩ := or_acc hO3
  have ea : q3.1 13 15 x = cn ax := by rw [m1 15 x (by decide) (by decide) (by omega), c0 15 x (by decide)]; exact hLx.1.2.1
  have eo : q3.1 13 15 o = cn ao := by rw [m1 15 o (by decide) (by decide) (by omega), c0 15 o (by decide)]; exact hLo.1.2.1
  have s15 : (sQ q3 o).1 15 = q3.1 15 := s1 15 (by decide) (by decide)
  have stst : ∀ v a, tst (sQ q3 o) v a = tst q3 v a := by
    intro v a
    unfold tst
    rw [s2 19 v (by omega), s2 3 a (by omega), s2 4 a (by omega)]
  obtain ⟨gg1, gg2, gg3⟩ := guards2 (q := sQ q3 o) (u := x) (o := o) (K := K) (by omega) (by omega) ax8 ao8 (by rw [s2 15 x (by omega)]; exact ea) (by rw [s2 15 o (by omega)]; exact eo) (fun s hs => by rw [s15]; exact hb3 s hs) (fun s hs h => by
    rw [s15] at h
    rw [s2 15 s (by omega)]
    exact hacc3 s hs h) (fun c => by rw [hK c, stst, stst])
  -- the class
  have eC : g8_strike p (x + 1) (o + 1) (cn z) (cn n) ∧ v8_strike p (x + 1) (o + 1) (cn z) (cn n) = p5 := by
    unfold g8_strike bg8_strike v8_strike bv8_strike
    have d5 := hLx.2.2.2.2.1.1
    rcases hbuy with ⟨hb, rfl, rfl⟩ | ⟨hb, rfl, rfl⟩
    · simp only [d5, if_pos hb, hLx.2.1.2.2, hLx.1.2.2, hLo.1.2.2, e1, e2, e3, e4, e5]
      refine ⟨?_, trivial⟩
      repeat' first
        | with_reducible exact hzx
        | with_reducible exact hzo
        | with_reducible exact g1
        | with_reducible exact g2
        | with_reducible exact g3
        | with_reducible exact g4
        | with_reducible exact g5
        | exact trivial
        | exact not_false
        | apply And.intro
        | (split <;> rename_i h9 <;> first | simp only [if_neg h9, if_true, if_false] | simp only [if_pos h9, if_true, if_false] | skip)
    · simp only [d5, if_neg hb, hLx.2.1.2.2, hLx.1.2.2, hLo.1.2.2, e1, e2, e3, e4, e5]
      refine ⟨?_, trivial⟩
      repeat' first
        | with_reducible exact hzx
        | with_reducible exact hzo
        | with_reducible exact g1
        | with_reducible exact g2
        | with_reducible exact g3
        | with_reducible exact g4
        | with_reducible exact g5
        | exact trivial
        | exact not_false
        | apply And.intro
        | (split <;> rename_i h9 <;> first | simp only [if_neg h9, if_true, if_false] | simp only [if_pos h9, if_true, if_false] | skip)
  -- the reference
  have eleast : v12_least q (cn n) (cn rx) = cn n := by
    unfold v12_least bv12_least
    simp only [cnlt (show rg n from ⟨by omega, by omega⟩) (show rg rx from ⟨by omega, by omega⟩)]
    split
    · rfl
    · rw [show rx = n by omega]
  have eQ : g12_tradesWith q (cn x) (cn o) (cn z) ∧ v12_tradesWith q (cn x) (cn o) (cn z) = v12_guards (v12_guards (sQ q3 o) (cn x)) (cn o) := by
    have b4 : (pI q 13 29 o (cn 0)).1 15 4 x = q.1 15 4 x := rfl
    have a15 : (pI q 13 29 o (cn 0)).1 13 15 x = cn ax := by rw [c0 15 x (by decide)]; exact hLx.1.2.1
    have a15o : (pI q 13 29 o (cn 0)).1 13 15 o = cn ao := by rw [c0 15 o (by decide)]; exact hLo.1.2.1
    have a16 : (pI q 13 29 o (cn 0)).1 13 16 x = cn b := by rw [c0 16 x (by decide)]; exact hLx.2.1.2.1
    have gl := g_least q (cn n) (cn rx)
    have gsa := fun q => g_comes q (o := o) (by omega)
    have gnT : ∀ q, g12_newTurn q (cn o) := by
      intro q
      unfold g12_newTurn bg12_newTurn
      repeat' first
        | with_reducible exact hio
        | exact trivial
        | exact not_false
        | apply And.intro
        | (split <;> rename_i h9 <;> first | simp only [if_neg h9, if_true, if_false] | simp only [if_pos h9, if_true, if_false] | skip)
    have gsh : ∀ q, g12_showsAnew q (cn o) := by
      intro q
      unfold g12_showsAnew bg12_showsAnew
      repeat' first
        | with_reducible exact hio
        | exact trivial
        | exact not_false
        | apply And.intro
        | (split <;> rename_i h9 <;> first | simp only [if_neg h9, if_true, if_false] | simp only [if_pos h9, if_true, if_false] | skip)
    unfold g12_tradesWith bg12_tradesWith v12_tradesWith bv12_tradesWith g12_tradesWith_49 bg12_tradesWith_49 v12_tradesWith_49 bv12_tradesWith_49
    have hsq : ∀ P : PM → Prop, P (sQ q3 o) → (if q3.1 15 3 o = 0 then P q3 else if q3.1 13 19 o = cn 1 then (if q3.1 13 22 o = 0 then P (v12_newTurn (v12_showsAnew q3 (cn o)) (cn o)) else P q3) else P q3) := by
      intro P hP
      unfold sQ at hP
      split
      · rename_i h
        rw [if_pos h] at hP
        exact hP
      · rename_i h
        rw [if_neg h] at hP
        split
        · rename_i h'
          rw [if_pos h'] at hP
          split
          · rename_i h''
            rw [if_pos h''] at hP
            exact hP
          · rename_i h''
            rw [if_neg h''] at hP
            exact hP
        · rename_i h'
          rw [if_neg h'] at hP
          exact hP
    have fin := hsq (fun q4 => g12_guards q4 (cn x) ∧ g12_guards (v12_guards q4 (cn x)) (cn o) ∧ v12_guards (v12_guards q4 (cn x)) (cn o) = v12_guards (v12_guards (sQ q3 o) (cn x)) (cn o)) ⟨gg1, gg2, rfl⟩
    rcases hbuy with ⟨hb, rfl, rfl⟩ | ⟨hb, rfl, rfl⟩
    · simp only [cntk (i := x) (by omega), cntk (i := o) (by omega), hg, rrx.2.2.2, eleast, b4, if_pos hb, a15, a15o, a16, k1, k2, k3]
      by_cases d1 : q3.1 15 3 o = 0
      · simp only [if_pos d1] at fin ⊢
        exact ⟨⟨hio, hix, gl, hio, hix, hix, hix, hio, hix, g6, g7, g8, hio, fin.1, fin.2.1, trivial⟩, fin.2.2⟩
      · by_cases d2 : q3.1 13 19 o = cn 1
        · by_cases d3 : q3.1 13 22 o = 0
          · simp only [if_neg d1, if_pos d2, if_pos d3] at fin ⊢
            exact ⟨⟨hio, hix, gl, hio, hix, hix, hix, hio, hix, g6, g7, g8, hio, hio, hio, gsh _, gnT _, fin.1, fin.2.1, trivial⟩, fin.2.2⟩
          · simp only [if_neg d1, if_pos d2, if_neg d3] at fin ⊢
            exact ⟨⟨hio, hix, gl, hio, hix, hix, hix, hio, hix, g6, g7, g8, hio, hio, hio, fin.1, fin.2.1, trivial⟩, fin.2.2⟩
        · simp only [if_neg d1, if_neg d2] at fin ⊢
          exact ⟨⟨hio, hix, gl, hio, hix, hix, hix, hio, hix, g6, g7, g8, hio, hio, fin.1, fin.2.1, trivial⟩, fin.2.2⟩
    · simp only [cntk (i := x) (by omega), cntk (i := o) (by omega), hg, rrx.2.2.2, eleast, b4, if_neg hb, a15, a15o, a16, k1, k2, k3]
      by_cases d1 : q3.1 15 3 o = 0
      · simp only [if_pos d1] at fin ⊢
        exact ⟨⟨hio, hix, gl, hio, hix, hio, hix, hix, hix, g6, g7, g8, hio, fin.1, fin.2.1, trivial⟩, fin.2.2⟩
      · by_cases d2 : q3.1 13 19 o = cn 1
        · by_cases d3 : q3.1 13 22 o = 0
          · simp only [if_neg d1, if_pos d2, if_pos d3] at fin ⊢
            exact ⟨⟨hio, hix, gl, hio, hix, hio, hix, hix, hix, g6, g7, g8, hio, hio, hio, gsh _, gnT _, fin.1, fin.2.1, trivial⟩, fin.2.2⟩
          · simp only [if_neg d1, if_pos d2, if_neg d3] at fin ⊢
            exact ⟨⟨hio, hix, gl, hio, hix, hio, hix, hix, hix, g6, g7, g8, hio, hio, hio, fin.1, fin.2.1, trivial⟩, fin.2.2⟩
        · simp only [if_neg d1, if_neg d2] at fin ⊢
          exact ⟨⟨hio, hix, gl, hio, hix, hio, hix, hix, hix, g6, g7, g8, hio, hio, fin.1, fin.2.1, trivial⟩, fin.2.2⟩
  rw [eC.2, eQ.2, gg3, skq]
  have kb : (kq q3 K).1 13 16 o = cn b := by rw [kq_k (by decide), m1 16 o (by decide) (by decide) (by omega), c0 16 o (by decide)]; exact hLo.2.1.2.1
  obtain ⟨T', t1, t2, W6, r6⟩ := ww_show W5 ho hne (fun c hc h => by
    rw [kb, cneq ⟨by have := hLo.2.1.1; omega, by have := hLo.2.1.1; omega⟩ ⟨by omega, by omega⟩] at h
    have : c = b := by omega
    rw [this]
    exact hy) hT1
  have hk13 : (kq q3 K).1 13 = q3.1 13 := kq_k (by decide)
  obtain ⟨u1, u2, u3', u4⟩ := sQ_fr (q := kq q3 K) (T := T) (r := ro - n) (s := so) ho (by rw [hk13]; exact m4) (by rw [hk13]; exact h21) ⟨by omega, by omega⟩ ⟨by omega, by omega⟩ (by rw [kq_k (by decide)]; exact hT3)
  have u15 : (sQ (kq q3 K) o).1 15 = (kq q3 K).1 15 := u1 15 (by decide) (by decide)
  have hlive : ∀ i, (sQ (kq q3 K) o).1 15 3 i = cn 1 → q3.1 15 3 i = cn 1 := by
    intro i h
    rw [u15, kq_3] at h
    split at h
    · exact absurd h (by decide)
    · exact h
  obtain ⟨v1, v2, v3⟩ := showC_fr (p := p5) (o := o) (T := T) (by rw [m10]; exact H.1.2.2.1.2.2.1)
  refine ⟨⟨⟨eC.1, g_show _ _⟩, eQ.1⟩, T', t1, t2, ?_, ?_, ?_, ?_, fun K' i j1 j2 j3 j4 => ?_, fun K' i j1 j2 => ?_, fun i h => ?_, ?_, fun K' j1 => ?_, fun K' j1 j2 j3 j4 => ?_, fun i j1 j2 => ?_, ?_, ?_⟩
  · refine ww_w W6 fun i hi _ => ?_
    by_cases e : i = o
    · exact Or.inl fun h => h.2 e
    · by_cases e' : i = x
      · refine Or.inr fun hst => ?_
        rcases W6.1.1.1 i hi with h | ⟨h, a', b', r', s', z', hL'⟩
        · have := hst.1
          rw [h.2] at this
          exact absurd this (by decide)
        · rcases hL'.2.2.2.2.2.2.2.2.2.2.2.2 with h9 | h9 | h9
          · have := hst.2
            rcases h9.2.2.1 with h8 | h8 <;> rw [h8] at this <;> exact absurd this (by decide)
          · exact absurd e' h9.1
          · exact absurd e' h9.1
      · exact Or.inl fun h => by
          rcases h.1 with (h' | h') | h'
          · exact h'
          · exact e' h'
          · exact e h'
  · have hq0 : RS (pI q 13 29 o (cn 0)) 40 = RS q 40 := RS_c rfl (by funext i; exact c0 17 i (by decide))
    have h9 := rs_kq (K := K) hO3
    rw [r6]
    omega
  · intro h
    have h9 := hlive x h
    rw [l1] at h9
    by_cases h8 : n < rx
    · exact h8
    · rw [if_neg h8] at h9
      exact absurd h9 (by decide)
  · rw [u2 17 x (by omega), hk13]
    exact m3
  · rw [u2 K' i (by omega), hk13, m1 K' i j1 (by omega) (by omega), c0 K' i (by omega)]
  · rw [u15, kq_15 (by omega) (by omega), m2 K' i (by omega) (by omega)]
    rw [pI_1, u3_k (by decide)]
  · have h9 := hlive i h
    by_cases e : i = x
    · rw [e]
      exact lx
    · by_cases e' : i = o
      · rw [e']
        exact lo
      · rw [m2 3 i (by decide) (by omega)] at h9
        exact h9
  · funext i
    rw [u2 29 i (by omega), hk13, m1 29 i (by decide) (by omega) (by omega)]
  · funext i
    rw [u2 K' i (by omega), hk13, m1 K' i (by omega) (by omega) (by omega), c0 K' i (by omega)]
  · funext i
    rw [u2 K' i (by omega), hk13, m5 K' j1 j2 j3 j4]
    exact c0 K' i (by omega)
  · rw [v2 i 11 j2]
    exact m7 i 11 j1 j2 (by decide)
  · rw [v3]
    exact m8 20 (by decide)
  · rw [v1 13 (by decide) (by decide)]
    exact m9 19 (Nat.le_refl _)
end Strike
