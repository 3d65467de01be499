/-! what a combination does, whole -/
theorem RS_deal {q q' : PM} (d : DlQ q q') : RS q' 40 = RS q 40 := RS_c (d.2.1 3 (by decide)) (d.1 17 (by decide) (by decide) (by omega))
section Do
variable {p q : PM} {lg : Nat → Int32} {N T D l : Nat} {n : Int}
theorem pair_do {x ax bx y ay bY z az bz b1 b2 A1 C1 A2 C2 : Nat} {z1 z2 : Int} (H : WW p q lg 99 99 (fun _ => False) N T D l (fun _ => 0)) (h1 : 1 ≤ n) (h50 : n ≤ 50) (hx : Rdy p q n x ax bx) (hy : Rdy p q n y ay bY) (hz : Rdy p q n z az bz) (d1 : ¬ y = x) (d2 : ¬ z = x) (d3 : ¬ z = y) (hb1 : b1 < 6) (hb2 : b2 < 6) (k1 : A1 < 8) (k2 : C1 < 8) (k3 : A2 < 8) (k4 : C2 < 8) (hp1 : PrB b1 z1) (hp2 : PrB b2 z2) (hT : T + 3 ≤ 1000000000) (hD : D + 2 ≤ 1000000000) : ∃ P1 P2 Q1 Q2 : PM, (v7_record p (b1 + 1) (A1 + 1) (C1 + 1) (cn z1) (cn n) = P1 ∧ v7_record P1 (b2 + 1) (A2 + 1) (C2 + 1) (cn z2) (cn n) = P2 ∧ v12_deals q (cn b1) (cn A1) (cn C1) (cn z1) (cn n) = Q1 ∧ v12_deals Q1 (cn b2) (cn A2) (cn C2) (cn z2) (cn n) = Q2) ∧ (g7_record p (b1 + 1) (A1 + 1) (C1 + 1) (cn z1) (cn n) ∧ g7_record P1 (b2 + 1) (A2 + 1) (C2 + 1) (cn z2) (cn n) ∧ g12_deals q (cn b1) (cn A1) (cn C1) (cn z1) (cn n) ∧ g12_deals Q1 (cn b2) (cn A2) (cn C2) (cn z2) (cn n)) ∧ (P1.1 10 = p.1 10 ∧ P1.2.2 10 = p.2.2 10 ∧ Q1.1 13 15 = q.1 13 15) ∧ (g3_fallTogether P2 (x + 1) (y + 1) (z + 1) 0 (cn n) ∧ (g12_falls1 Q2 (cn x) (cn n) ∧ g12_falls1 (v12_falls1 Q2 (cn x) (cn n)) (cn y) (cn n) ∧ g12_falls1 (v12_falls1 (v12_falls1 Q2 (cn x) (cn n)) (cn y) (cn n)) (cn z) (cn n) ∧ gdH [x, y, z] (v12_falls1 (v12_falls1 (v12_falls1 Q2 (cn x) (cn n)) (cn y) (cn n)) (cn z) (cn n)))) ∧ ∃ T2, T ≤ T2 ∧ T2 ≤ T + 3 ∧ WW (v3_fallTogether P2 (x + 1) (y + 1) (z + 1) 0 (cn n)) (gdQ [x, y, z] (v12_falls1 (v12_falls1 (v12_falls1 Q2 (cn x) (cn n)) (cn y) (cn n)) (cn z) (cn n))) lg 99 99 (fun _ => False) N T2 (D + 2) l (fun _ => 0) ∧ RS (gdQ [x, y, z] (v12_falls1 (v12_falls1 (v12_falls1 Q2 (cn x) (cn n)) (cn y) (cn n)) (cn z) (cn n))) 40 ≤ RS q 40 - n - n - n := by
  obtain ⟨⟨g1, g2⟩, W1, c1, c2⟩ := ww_deal H hb1 k1 k2 hp1 h1 h50 (by omega)
  generalize hP1 : v7_record p (b1 + 1) (A1 + 1) (C1 + 1) (cn z1) (cn n) = P1 at W1 c1
  generalize hQ1 : v12_deals q (cn b1) (cn A1) (cn C1) (cn z1) (cn n) = Q1 at W1 c2
  obtain ⟨⟨g3, g4⟩, W2, c3, c4⟩ := ww_deal W1 hb2 k3 k4 hp2 h1 h50 (by omega)
  generalize hP2 : v7_record P1 (b2 + 1) (A2 + 1) (C2 + 1) (cn z2) (cn n) = P2 at W2 c3
  generalize hQ2 : v12_deals Q1 (cn b2) (cn A2) (cn C2) (cn z2) (cn n) = Q2 at W2 c4
  obtain ⟨⟨g5, g6⟩, T2, t1, t2, W3, r3⟩ := core3 W2 h1 (rdy_deal (b := 0) (A := 0) (B := 0) (z := 0) c3 c4 (rdy_deal (b := 0) (A := 0) (B := 0) (z := 0) c1 c2 hx)) (rdy_deal (b := 0) (A := 0) (B := 0) (z := 0) c3 c4 (rdy_deal (b := 0) (A := 0) (B := 0) (z := 0) c1 c2 hy)) (rdy_deal (b := 0) (A := 0) (B := 0) (z := 0) c3 c4 (rdy_deal (b := 0) (A := 0) (B := 0) (z := 0) c1 c2 hz)) d1 d2 d3 hT
  have r1 := RS_deal c2
  have r2 := RS_deal c4
  exact ⟨P1, P2, Q1, Q2, ⟨rfl, hP2, rfl, hQ2⟩, ⟨g1, g3, g2, g4⟩, ⟨c1.1 10 (by decide) (by decide) (by decide) (by decide), c1.2.2.2 10 (by decide), c2.1 15 (by decide) (by decide) (by omega)⟩, ⟨g5, g6⟩, T2, t1, t2, W3, by omega⟩
theorem chain_do {x ax bx w aw bw y ay bY z az bz A1 C1 A2 C2 A3 C3 : Nat} {z1 z2 z3 : Int} (H : WW p q lg 99 99 (fun _ => False) N T D l (fun _ => 0)) (h1 : 1 ≤ n) (h50 : n ≤ 50) (hx : Rdy p q n x ax bx) (hw : Rdy p q n w aw bw) (hy : Rdy p q n y ay bY) (hz : Rdy p q n z az bz) (d1 : ¬ w = x) (d2 : ¬ y = x) (d3 : ¬ y = w) (d4 : ¬ z = x) (d5 : ¬ z = w) (d6 : ¬ z = y) (hbk : q.1 13 16 x = cn 4 ∧ q.1 13 16 w = cn 5 ∧ q.1 13 16 y = cn 0 ∧ q.1 13 16 z = cn 2) (k1 : A1 < 8) (k2 : C1 < 8) (k3 : A2 < 8) (k4 : C2 < 8) (k5 : A3 < 8) (k6 : C3 < 8) (hp1 : PrB 0 z1) (hp2 : PrB 1 z2) (hp3 : PrB 2 z3) (hT : T + 4 ≤ 1000000000) (hD : D + 3 ≤ 1000000000) : ∃ P1 P2 P3 Q1 Q2 Q3 : PM, (v7_record p 1 (A1 + 1) (C1 + 1) (cn z1) (cn n) = P1 ∧ v7_record P1 2 (A2 + 1) (C2 + 1) (cn z2) (cn n) = P2 ∧ v7_record P2 3 (A3 + 1) (C3 + 1) (cn z3) (cn n) = P3 ∧ v12_deals q (cn 0) (cn A1) (cn C1) (cn z1) (cn n) = Q1 ∧ v12_deals Q1 (cn 1) (cn A2) (cn C2) (cn z2) (cn n) = Q2 ∧ v12_deals Q2 (cn 2) (cn A3) (cn C3) (cn z3) (cn n) = Q3) ∧ (g7_record p 1 (A1 + 1) (C1 + 1) (cn z1) (cn n) ∧ g7_record P1 2 (A2 + 1) (C2 + 1) (cn z2) (cn n) ∧ g7_record P2 3 (A3 + 1) (C3 + 1) (cn z3) (cn n) ∧ g12_deals q (cn 0) (cn A1) (cn C1) (cn z1) (cn n) ∧ g12_deals Q1 (cn 1) (cn A2) (cn C2) (cn z2) (cn n) ∧ g12_deals Q2 (cn 2) (cn A3) (cn C3) (cn z3) (cn n)) ∧ (P1.1 10 = p.1 10 ∧ P1.2.2 10 = p.2.2 10 ∧ Q1.1 13 15 = q.1 13 15 ∧ P2.1 10 = p.1 10 ∧ P2.2.2 10 = p.2.2 10 ∧ Q2.1 13 15 = q.1 13 15) ∧ (g3_fallTogether P3 (x + 1) (w + 1) (y + 1) (z + 1) (cn n) ∧ (g12_falls1 Q3 (cn x) (cn n) ∧ g12_falls1 (v12_falls1 Q3 (cn x) (cn n)) (cn w) (cn n) ∧ g12_falls1 (v12_falls1 (v12_falls1 Q3 (cn x) (cn n)) (cn w) (cn n)) (cn y) (cn n) ∧ g12_falls1 (v12_falls1 (v12_falls1 (v12_falls1 Q3 (cn x) (cn n)) (cn w) (cn n)) (cn y) (cn n)) (cn z) (cn n) ∧ gdH [x, w, y, z] (v12_falls1 (v12_falls1 (v12_falls1 (v12_falls1 Q3 (cn x) (cn n)) (cn w) (cn n)) (cn y) (cn n)) (cn z) (cn n)))) ∧ ∃ T2, T ≤ T2 ∧ T2 ≤ T + 4 ∧ WW (v3_fallTogether P3 (x + 1) (w + 1) (y + 1) (z + 1) (cn n)) (gdQ [x, w, y, z] (v12_falls1 (v12_falls1 (v12_falls1 (v12_falls1 Q3 (cn x) (cn n)) (cn w) (cn n)) (cn y) (cn n)) (cn z) (cn n))) lg 99 99 (fun _ => False) N T2 (D + 3) l (fun _ => 0) ∧ RS (gdQ [x, w, y, z] (v12_falls1 (v12_falls1 (v12_falls1 (v12_falls1 Q3 (cn x) (cn n)) (cn w) (cn n)) (cn y) (cn n)) (cn z) (cn n))) 40 ≤ RS q 40 - n - n - n - n := by
  obtain ⟨⟨g1, g2⟩, W1, c1, c2⟩ := ww_deal (b := 0) H (by decide) k1 k2 hp1 h1 h50 (by omega)
  have z0 : cn ((0 : Nat) : Int) = cn 0 := rfl
  have z1' : cn ((1 : Nat) : Int) = cn 1 := rfl
  have z2' : cn ((2 : Nat) : Int) = cn 2 := rfl
  rw [z0] at g2 W1 c2
  have n1 : 0 + 1 = 1 := rfl
  have n2 : 1 + 1 = 2 := rfl
  have n3 : 2 + 1 = 3 := rfl
  rw [n1] at g1 W1 c1
  generalize hP1 : v7_record p 1 (A1 + 1) (C1 + 1) (cn z1) (cn n) = P1 at W1 c1
  generalize hQ1 : v12_deals q (cn 0) (cn A1) (cn C1) (cn z1) (cn n) = Q1 at W1 c2
  obtain ⟨⟨g3, g4⟩, W2, c3, c4⟩ := ww_deal (b := 1) W1 (by decide) k3 k4 hp2 h1 h50 (by omega)
  rw [z1'] at g4 W2 c4
  rw [n2] at g3 W2 c3
  generalize hP2 : v7_record P1 2 (A2 + 1) (C2 + 1) (cn z2) (cn n) = P2 at W2 c3
  generalize hQ2 : v12_deals Q1 (cn 1) (cn A2) (cn C2) (cn z2) (cn n) = Q2 at W2 c4
  obtain ⟨⟨g5, g6⟩, W3, c5, c6⟩ := ww_deal (b := 2) W2 (by decide) k5 k6 hp3 h1 h50 (by omega)
  rw [z2'] at g6 W3 c6
  rw [n3] at g5 W3 c5
  generalize hP3 : v7_record P2 3 (A3 + 1) (C3 + 1) (cn z3) (cn n) = P3 at W3 c5
  generalize hQ3 : v12_deals Q2 (cn 2) (cn A3) (cn C3) (cn z3) (cn n) = Q3 at W3 c6
  have rd : ∀ {o a b : Nat}, Rdy p q n o a b → Rdy P3 Q3 n o a b := fun h => rdy_deal (b := 0) (A := 0) (B := 0) (z := 0) c5 c6 (rdy_deal (b := 0) (A := 0) (B := 0) (z := 0) c3 c4 (rdy_deal (b := 0) (A := 0) (B := 0) (z := 0) c1 c2 h))
  have e16 : Q3.1 13 16 = q.1 13 16 := by rw [c6.1 16 (by decide) (by decide) (by omega), c4.1 16 (by decide) (by decide) (by omega), c2.1 16 (by decide) (by decide) (by omega)]
  obtain ⟨⟨g7, g8⟩, T2, t1, t2, W4, r4⟩ := core4 W3 h1 (rd hx) (rd hw) (rd hy) (rd hz) d1 d2 d3 d4 d5 d6 (by rw [e16]; exact hbk) hT
  have r1 := RS_deal c2
  have r2 := RS_deal c4
  have r3 := RS_deal c6
  have p1 : P1.1 10 = p.1 10 := c1.1 10 (by decide) (by decide) (by decide) (by decide)
  have p2 : P1.2.2 10 = p.2.2 10 := c1.2.2.2 10 (by decide)
  have p3 : Q1.1 13 15 = q.1 13 15 := c2.1 15 (by decide) (by decide) (by omega)
  exact ⟨P1, P2, P3, Q1, Q2, Q3, ⟨rfl, hP2, hP3, rfl, hQ2, hQ3⟩, ⟨g1, g3, g5, g2, g4, g6⟩, ⟨p1, p2, p3, by rw [c3.1 10 (by decide) (by decide) (by decide) (by decide), p1], by rw [c3.2.2.2 10 (by decide), p2], by rw [c4.1 15 (by decide) (by decide) (by omega), p3]⟩, ⟨g7, g8⟩, T2, t1, t2, W4, by omega⟩
end Do
/-- what a combination answers, in both -/
def CombR (p q : PM) (lg : Nat → Int32) (N T D l : Nat) (a c : Int32 × PM) : Prop := (a = (cn 0, p) ∧ c = (cn 0, q)) ∨ ∃ (p2 q2 : PM) (T2 D2 : Nat), a = (cn 1, p2) ∧ c = (cn 1, q2) ∧ (T ≤ T2 ∧ D ≤ D2) ∧ WW p2 q2 lg 99 99 (fun _ => False) N T2 D2 l (fun _ => 0) ∧ T2 + RS q2 40 ≤ T + RS q 40 ∧ D2 + RS q2 40 ≤ D + RS q 40 ∧ RS q2 40 < RS q 40
theorem rdy_of {p q : PM} {b j a : Nat} {t v : Int32} {r s z n : Int} (hj : j < 40) (h : QI p q 99 99 b t v j a r s z) (hn : n ≤ sw q j) : Rdy p q n j a b := by
  obtain ⟨hL, h1, h2, h3, h4, h5, h6, h7, h8, h9, h10, h11, h12⟩ := h
  have hr := hL.2.2.2.2.2.2.2.1
  refine ⟨hj, h1.1, ⟨r, s, z, hL, by omega, hr.2.1⟩, fun h k1 k2 k3 => ?_⟩
  rw [h7, cneq ⟨by omega, by omega⟩ ⟨by omega, by omega⟩] at k3
  omega
