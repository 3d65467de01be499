/-! a strike: the trade, both rests, both protections -/
theorem f0_bk {a b : Nat} {d e : Int} : fu (fu (fu (fu (fun _ => 0) a d) b e) b (-e)) a (-d) = fun _ => 0 := by
  funext c
  unfold fu
  dsimp only
  split <;> split <;> omega
theorem fu_le {a b : Nat} {d e : Int} (h : 0 ≤ d) : e ≤ fu (fu (fun _ => 0) a d) b e b := by
  unfold fu
  dsimp only
  rw [if_pos rfl]
  split <;> omega
theorem fu_at {a b : Nat} {d e : Int} : fu (fu (fu (fun _ => 0) a d) b e) b (-e) a = d := by
  unfold fu
  dsimp only
  rw [if_pos rfl]
  split <;> omega
theorem or_acc {p q : PM} {x y : Nat} (H : OR p q x y) : (∀ s, s < 44 → b01 (q.1 15 3 s)) ∧ ∀ s, s < 44 → q.1 15 3 s = cn 1 → ∃ c : Nat, c < 8 ∧ q.1 13 15 s = cn c := by
  refine ⟨or_b H, fun s hs h => ?_⟩
  by_cases h4 : s < 40
  · obtain ⟨_, a, b, r, s', z, hL⟩ := slot_live (H.1 s h4) (by rw [h]; exact cn01)
    exact ⟨a, hL.1.1, hL.1.2.1⟩
  · have := H.2 s (by omega) hs
    rw [this] at h
    exact absurd h (by decide)
section Core
variable {p q : PM} {lg : Nat → Int32} {x0 y u o au ao b N T D l A B : Nat} {w : Nat → Prop} {ru su zu ro so zo z n : Int} {stu sto : Int32}
theorem ww_core (H : WW p q lg x0 y w N T D l (fun _ => 0)) (hu : u < 40) (ho : o < 40) (hne : ¬ o = u) (lu : q.1 15 3 u = cn 1) (lo : q.1 15 3 o = cn 1) (hLu : LV p q x0 y u au b ru su zu) (hLo : LV p q x0 y o ao b ro so zo) (hz : PrB b z) (h1 : 1 ≤ n) (h2 : n ≤ ru) (h3 : n ≤ ro)
    (hstu : (stu = cn 1 ∧ ∀ h : Int, 0 ≤ h → h ≤ 50 → p.1 10 (u + 1) 11 = cn h → n ≤ h) ∨ (stu = cn 0 ∧ (u = x0 ∨ b = y)))
    (hsto : (sto = cn 1 ∧ ∀ h : Int, 0 ≤ h → h ≤ 50 → p.1 10 (o + 1) 11 = cn h → n ≤ h) ∨ (sto = cn 0 ∧ (o = x0 ∨ b = y)))
    (hAB : (A = au ∧ B = ao) ∨ (A = ao ∧ B = au)) (hD1 : D + 1 ≤ 1000000000)
    {p1 p2 p3 p4 p5 q1 q2 q3 : PM} (e1 : p1 = v7_record p (b + 1) (A + 1) (B + 1) (cn z) (cn n)) (e2 : p2 = v10_fall p1 (u + 1) (cn n)) (e3 : p3 = v10_fall p2 (o + 1) (cn n)) (e4 : p4 = v6_guard p3 (o + 1) (cn n)) (e5 : p5 = v6_guard p4 (u + 1) (cn n))
    (k1 : q1 = v12_deals q (cn b) (cn A) (cn B) (cn z) (cn n)) (k2 : q2 = v12_falls q1 (cn u) (cn n) stu) (k3 : q3 = v12_falls q2 (cn o) (cn n) sto) :
    (g7_record p (b + 1) (A + 1) (B + 1) (cn z) (cn n) ∧ g10_fall p1 (u + 1) (cn n) ∧ g10_fall p2 (o + 1) (cn n) ∧ g6_guard p3 (o + 1) (cn n) ∧ g6_guard p4 (u + 1) (cn n)) ∧ (g12_deals q (cn b) (cn A) (cn B) (cn z) (cn n) ∧ g12_falls q1 (cn u) (cn n) stu ∧ g12_falls q2 (cn o) (cn n) sto) ∧
    (∃ K : Nat → Bool, (∀ c, K c = ((decide (c = au) && tst q3 u au) || (decide (c = ao) && tst q3 o ao))) ∧ WW p5 (kq q3 K) lg x0 y (fun i => (w i ∨ i = u) ∨ i = o) N T (D + 1) l (fun _ => 0)) ∧
    RS q3 40 = RS q 40 - n - n ∧
    (q3.1 15 3 u = (if n < ru then cn 1 else cn 0) ∧ q3.1 15 3 o = (if n < ro then cn 1 else cn 0)) ∧
    (∀ K i, 14 ≤ K → (K ≤ 29 ∨ 35 ≤ K) → ¬ ((i = u ∨ i = o) ∧ (K = 17 ∨ K = 22)) → q3.1 13 K i = q.1 13 K i) ∧
    (∀ K i, K < 7 → ¬ ((i = u ∨ i = o) ∧ (K = 6 ∨ K = 3)) → q3.1 15 K i = q.1 15 K i) ∧
    (q3.1 13 17 u = cn (ru - n) ∧ q3.1 13 17 o = cn (ro - n)) ∧
    (∀ K, 2 ≤ K → K ≤ 13 → ¬ K = 4 → ¬ K = 10 → q3.1 13 K = q.1 13 K) ∧ (∀ S, ¬ S = 48 → q3.1 12 1 S = q.1 12 1 S) ∧
    (∀ i S, ¬ i = u → ¬ i = o → ¬ S = 2 → p5.1 10 (i + 1) S = p.1 10 (i + 1) S) ∧ (∀ k, ¬ k = 4 → p5.2.2 k = p.2.2 k) ∧ (∀ i, 19 ≤ i → p5.1 13 i = p.1 13 i) ∧ p5.1 6 = p.1 6 ∧ OR p3 q3 x0 y := by
  have au8 := hLu.1.1
  have ao8 := hLo.1.1
  have hb6 := hLu.2.1.1
  have rr := hLu.2.2.2.2.2.2.2.1
  have rr2 := hLo.2.2.2.2.2.2.2.1
  -- the trade
  obtain ⟨⟨g1, g1'⟩, W1, d1, d2⟩ := ww_deal (A := A) (B := B) (b := b) (z := z) (n := n) H hb6 (by omega) (by omega) hz h1 (by omega) hD1
  rw [← e1, ← k1] at W1
  rw [← e1] at d1
  rw [← k1] at d2
  obtain ⟨c1, c2, c3, c4⟩ := d1
  obtain ⟨j1, j2, j3, j4⟩ := d2
  have p10 : p1.1 10 = p.1 10 := c1 10 (by decide) (by decide) (by decide) (by decide)
  have pR10 : p1.2.2 10 = p.2.2 10 := c4 10 (by decide)
  have hLu1 : LV p1 q1 x0 y u au b ru su zu := lv_c (fun S => by rw [p10]) (fun S => by rw [pR10]) (fun K h h' _ => by rw [j1 K (by omega) (by omega) (by omega)]) (fun K h h' => by rw [j2 K (by omega)]) hLu
  have hLo1 : LV p1 q1 x0 y o ao b ro so zo := lv_c (fun S => by rw [p10]) (fun S => by rw [pR10]) (fun K h h' _ => by rw [j1 K (by omega) (by omega) (by omega)]) (fun K h h' => by rw [j2 K (by omega)]) hLo
  have lu1 : q1.1 15 3 u = cn 1 := by rw [j2 3 (by decide)]; exact lu
  have lo1 : q1.1 15 3 o = cn 1 := by rw [j2 3 (by decide)]; exact lo
  -- the one rest
  obtain ⟨⟨g2, g2'⟩, W2, r2, v2⟩ := ww_fall (n := n) (st := stu) W1 hu lu1 hLu1 h1 h2 (by rw [p10]; exact hstu)
  rw [← e2, ← k2] at W2
  rw [← k2] at r2 v2
  obtain ⟨a1, a2, a3, a4⟩ := fallC_fr (n := n) hLu1.2.2.2.2.2.2.2.1.2.2.1 ⟨by omega, by omega⟩
  rw [← e2] at a1 a2 a3 a4
  obtain ⟨m1, m2, m3, m4, m5⟩ := fallQ_fr (n := n) (st := stu) (by omega) (by omega) hLu1.2.2.2.2.2.2.2.1.2.2.2 hLu1.1.2.1 ⟨by omega, by omega⟩
  rw [← k2] at m1 m2 m3 m4 m5
  have hLo2 : LV p2 q2 x0 y o ao b ro so zo := lv_c (fun S => a2 o S hne) (fun S => by rw [a4]) (fun K h h' _ => m2 K o (by omega) (fun h9 => hne h9.1)) (fun K h h' => m3 K o (fun h9 => hne h9.1)) hLo1
  have lo2 : q2.1 15 3 o = cn 1 := by rw [m3 3 o (fun h9 => hne h9.1)]; exact lo1
  -- the other
  obtain ⟨⟨g3, g3'⟩, W3, r3, v3⟩ := ww_fall (n := n) (st := sto) W2 ho lo2 hLo2 h1 h3 (by rw [a2 o 11 hne, p10]; exact hsto)
  rw [← e3, ← k3] at W3
  rw [← k3] at r3 v3
  obtain ⟨b1, b2, b3, b4⟩ := fallC_fr (n := n) hLo2.2.2.2.2.2.2.2.1.2.2.1 ⟨by omega, by omega⟩
  rw [← e3] at b1 b2 b3 b4
  obtain ⟨s1, s2, s3, s4, s5⟩ := fallQ_fr (n := n) (st := sto) (by omega) (by omega) hLo2.2.2.2.2.2.2.2.1.2.2.2 hLo2.1.2.1 ⟨by omega, by omega⟩
  rw [← k3] at s1 s2 s3 s4 s5
  have hne' : ¬ u = o := fun h => hne h.symm
  -- kinds and owners as the protections see them
  have ku : q3.1 13 19 u = q.1 13 19 u := by rw [s2 19 u (by decide) (fun h9 => hne' h9.1), m2 19 u (by decide) (by omega), j1 19 (by decide) (by decide) (by omega)]
  have ko : q3.1 13 19 o = q.1 13 19 o := by rw [s2 19 o (by decide) (by omega), m2 19 o (by decide) (by omega), j1 19 (by decide) (by decide) (by omega)]
  have ko2 : q2.1 13 19 o = q.1 13 19 o := by rw [m2 19 o (by decide) (by omega), j1 19 (by decide) (by decide) (by omega)]
  have ku1 : q1.1 13 19 u = q.1 13 19 u := by rw [j1 19 (by decide) (by decide) (by omega)]
  have pku : p3.1 10 (u + 1) 1 = p.1 10 (u + 1) 1 := by rw [b2 u 1 hne', a3 1 (by decide), p10]
  have pko : p3.1 10 (o + 1) 1 = p.1 10 (o + 1) 1 := by rw [b3 1 (by decide), a2 o 1 hne, p10]
  have pou : p3.2.2 10 (u + 1) 3 = au + 1 := by rw [b4, a4, pR10]; exact hLu.1.2.2
  have poo : p3.2.2 10 (o + 1) 3 = ao + 1 := by rw [b4, a4, pR10]; exact hLo.1.2.2
  rw [ku1, ko2] at W3
  have W3' : WW p3 (kq q3 fun _ => false) lg x0 y (fun i => (w i ∨ i = u) ∨ i = o) N T (D + 1) l (fu (fu (fun _ => 0) au (if q.1 13 19 u = cn 4 then n else 0)) ao (if q.1 13 19 o = cn 4 then n else 0)) := by
    rw [kq_none fun _ => rfl]
    exact W3
  -- the protection of the other
  obtain ⟨g4, K1, K1a, K1b, K1c, W4⟩ := ww_guard (o := o) (a := ao) (n := n) W3' ao8 (by rw [pko, ko]; exact kind_quote hLo.2.2.2.1) poo h1 (by
    intro h
    rw [ko] at h
    rw [if_pos h]
    exact fu_le (by split <;> omega))
  rw [← e4] at W4
  rw [ko] at W4 K1c
  obtain ⟨t1, t2, t3⟩ := guardC_fr (p := p3) (o := o) (a := ao) (v := cn n)
  rw [← e4] at t1 t2 t3
  -- the protection of the one
  obtain ⟨g5, K2, K2a, K2b, K2c, W5⟩ := ww_guard (o := u) (a := au) (n := n) W4 au8 (by rw [t2 _ 1 (by decide), pku, ku]; exact kind_quote hLu.2.2.2.1) (by rw [t3]; exact pou) h1 (by
    intro h
    rw [ku] at h
    rw [if_pos h]
    have h9 : (if q.1 13 19 o = cn 4 then -n else 0) = -(if q.1 13 19 o = cn 4 then n else 0) := by split <;> omega
    rw [h9, fu_at]
    exact Int.le_refl n)
  rw [← e5] at W5
  rw [ku] at W5 K2c
  obtain ⟨i1, i2, i3⟩ := guardC_fr (p := p4) (o := u) (a := au) (v := cn n)
  rw [← e5] at i1 i2 i3
  have hf5 : fu (fu (fu (fu (fun _ => 0) au (if q.1 13 19 u = cn 4 then n else 0)) ao (if q.1 13 19 o = cn 4 then n else 0)) ao (if q.1 13 19 o = cn 4 then -n else 0)) au (if q.1 13 19 u = cn 4 then -n else 0) = fun _ => 0 := by
    have h9 : (if q.1 13 19 o = cn 4 then -n else 0) = -(if q.1 13 19 o = cn 4 then n else 0) := by split <;> omega
    have h8 : (if q.1 13 19 u = cn 4 then -n else 0) = -(if q.1 13 19 u = cn 4 then n else 0) := by split <;> omega
    rw [h9, h8]
    exact f0_bk
  rw [hf5] at W5
  have tq : ∀ v a, tst q3 v a = true → q3.1 13 19 v = cn 4 := by
    intro v a h
    unfold tst at h
    simp only [Bool.and_eq_true, decide_eq_true_eq] at h
    exact h.1.1
  have tsame : ∀ a, q3.1 13 19 u = cn 4 → q3.1 13 19 o = cn 4 → tst q3 u a = tst q3 o a := by
    intro a h h'
    unfold tst
    rw [h, h']
  have hKeq : ∀ c, K2 c = ((decide (c = au) && tst q3 u au) || (decide (c = ao) && tst q3 o ao)) := by
    intro c
    have hR : ((decide (c = au) && tst q3 u au) || (decide (c = ao) && tst q3 o ao)) = true ↔ (c = au ∧ tst q3 u au = true) ∨ (c = ao ∧ tst q3 o ao = true) := by simp
    have hL : K2 c = true ↔ (c = au ∧ tst q3 u au = true) ∨ (c = ao ∧ tst q3 o ao = true) := by
      refine ⟨fun h => ?_, fun h => ?_⟩
      · rcases K2a c h with h' | h'
        · rcases K1a c h' with h'' | h''
          · exact absurd h'' (by decide)
          · exact Or.inr h''
        · exact Or.inl h'
      · have hau : q.1 13 19 u = cn 4 → tst q3 u au = true → K2 au = true := by
          intro hq ht
          refine K2c hq ?_ ht
          rw [if_pos hq]
          have h9 : (if q.1 13 19 o = cn 4 then -n else 0) = -(if q.1 13 19 o = cn 4 then n else 0) := by split <;> omega
          rw [h9, fu_at]
        rcases h with ⟨hc, ht⟩ | ⟨hc, ht⟩
        · rw [hc]
          have := tq u au ht
          rw [ku] at this
          exact hau this ht
        · rw [hc]
          have hq := tq o ao ht
          rw [ko] at hq
          by_cases hcase : q.1 13 19 u = cn 4 ∧ ao = au
          · have := tsame ao (by rw [ku]; exact hcase.1) (by rw [ko]; exact hq)
            rw [hcase.2]
            exact hau hcase.1 (by rw [← hcase.2, this]; exact ht)
          · refine K2b ao (K1c hq ?_ ht)
            unfold fu
            dsimp only
            rw [if_pos rfl, if_pos hq]
            by_cases e9 : ao = au
            · have : ¬ q.1 13 19 u = cn 4 := fun h9 => hcase ⟨h9, e9⟩
              rw [if_pos e9, if_neg this]
              omega
            · rw [if_neg e9]
              omega
    rw [Bool.eq_iff_iff]
    exact hL.trans hR.symm
  refine ⟨⟨g1, by rw [e1]; rw [← e1]; exact g2, g3, g4, g5⟩, ⟨g1', g2', g3'⟩, ⟨K2, hKeq, W5⟩, ?_, ⟨?_, ?_⟩, fun K i h h' h'' => ?_, fun K i h h' => ?_, ⟨?_, s5⟩, fun K h h' h'' h9 => ?_, fun S h => ?_, fun i S h h' h'' => ?_, fun k h => ?_, fun i h => ?_, ?_, W3.1.1⟩
  · rw [r3, r2, RS_c (j2 3 (by decide)) (j1 17 (by decide) (by decide) (by omega))]
  · rw [s3 3 u (fun h9 => hne' h9.1)]
    exact v2
  · exact v3
  · rw [s2 K i (by omega) (fun h9 => h'' ⟨Or.inr h9.1, h9.2⟩), m2 K i (by omega) (fun h9 => h'' ⟨Or.inl h9.1, h9.2⟩), j1 K (by omega) (by omega) (by omega)]
  · rw [s3 K i (fun h9 => h' ⟨Or.inr h9.1, h9.2⟩), m3 K i (fun h9 => h' ⟨Or.inl h9.1, h9.2⟩), j2 K h]
  · rw [s2 17 u (by decide) (fun h9 => hne' h9.1)]
    exact m5
  · funext i
    rw [s2 K i h'' (by omega), m2 K i h'' (by omega), j1 K (by omega) h9 (by omega)]
  · rw [s1 12 (by decide) (by decide), m1 12 (by decide) (by decide), j3 S h]
  · rw [i2 _ S h'', t2 _ S h'', b2 i S h', a2 i S h, p10]
  · rw [i3, t3, b4, a4]
    exact c4 k h
  · rw [i1 13 (by decide) (by decide), t1 13 (by decide) (by decide), b1 13 (by decide), a1 13 (by decide)]
    exact c2 i h
  · rw [i1 6 (by decide) (by decide), t1 6 (by decide) (by decide), b1 6 (by decide), a1 6 (by decide), c1 6 (by decide) (by decide) (by decide) (by decide)]
end Core
