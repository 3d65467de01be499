/-! both spreads with two contracts, on both sides -/
section Chain
variable {p q : PM} {lg : Nat → Int32} {N T D l : Nat}
theorem chain_b (H : WW p q lg 99 99 (fun _ => False) N T D l (fun _ => 0)) (hT : T + RS q 40 + 4 ≤ 1000000000) (hD : D + RS q 40 + 4 ≤ 1000000000) : (g3_makeChain p (cn 1) ∧ g12_chains q (cn 1)) ∧ CombR p q lg N T D l (v3_makeChain p (cn 1)) (v12_chains q (cn 1)) := by
  have B0 : v6_bookAt p (cn 0) = 1 := book_e p (a := 0) (by decide)
  have B1 : v6_bookAt p (cn 1) = 2 := book_e p (a := 1) (by decide)
  have B2 : v6_bookAt p (cn 2) = 3 := book_e p (a := 2) (by decide)
  have B4 : v6_bookAt p (cn 4) = 5 := book_e p (a := 4) (by decide)
  have B5 : v6_bookAt p (cn 5) = 6 := book_e p (a := 5) (by decide)
  have G0 : g6_bookAt p (cn 0) := g_book p (a := 0) (by decide)
  have G1 : g6_bookAt p (cn 1) := g_book p (a := 1) (by decide)
  have G2 : g6_bookAt p (cn 2) := g_book p (a := 2) (by decide)
  have G4 : g6_bookAt p (cn 4) := g_book p (a := 4) (by decide)
  have G5 : g6_bookAt p (cn 5) := g_book p (a := 5) (by decide)
  have o0 : (p.1 1 1 5 = 0) = ¬ v12_isOpen q (cn 0) = 0 := open_eq (b := 0) (by decide) H.2.2.1
  have o1 : (p.1 1 2 5 = 0) = ¬ v12_isOpen q (cn 1) = 0 := open_eq (b := 1) (by decide) H.2.2.1
  have o2 : (p.1 1 3 5 = 0) = ¬ v12_isOpen q (cn 2) = 0 := open_eq (b := 2) (by decide) H.2.2.1
  have o4 : (p.1 1 5 5 = 0) = ¬ v12_isOpen q (cn 4) = 0 := open_eq (b := 4) (by decide) H.2.2.1
  have o5 : (p.1 1 6 5 = 0) = ¬ v12_isOpen q (cn 5) = 0 := open_eq (b := 5) (by decide) H.2.2.1
  have gfX := g_firstP p 5 (cn 1)
  have gfW := g_firstP p 6 (cn 1)
  have gfY := g_firstP p 1 (cn 0)
  have gfZ := g_firstP p 3 (cn 1)
  have gqX : g12_firstOf q (cn 4) (cn 1) := g_firstQ (q := q) (b := 4) (by decide) (cn 1)
  have gqW : g12_firstOf q (cn 5) (cn 1) := g_firstQ (q := q) (b := 5) (by decide) (cn 1)
  have gqY : g12_firstOf q (cn 0) (cn 0) := g_firstQ (q := q) (b := 0) (by decide) (cn 0)
  have gqZ : g12_firstOf q (cn 2) (cn 1) := g_firstQ (q := q) (b := 2) (by decide) (cn 1)
  have go1 : g12_isOpen q (cn 1) := g_open (q := q) (b := 1) (by decide)
  have z1 : ¬ (1 : Nat) = 0 := by decide
  have z2 : ¬ (2 : Nat) = 0 := by decide
  have z3 : ¬ (3 : Nat) = 0 := by decide
  have z5 : ¬ (5 : Nat) = 0 := by decide
  have z6 : ¬ (6 : Nat) = 0 := by decide
  -- the reference
  have qno : (v12_firstOf q (cn 4) (cn 1) < 0 ∨ v12_firstOf q (cn 5) (cn 1) < 0 ∨ v12_firstOf q (cn 0) (cn 0) < 0 ∨ v12_firstOf q (cn 2) (cn 1) < 0 ∨ v12_isOpen q (cn 1) = 0) → g12_chains q (cn 1) ∧ v12_chains q (cn 1) = (cn 0, q) := by
    intro h
    unfold v12_chains bv12_chains g12_chains bg12_chains v12_chains_25 bv12_chains_25 g12_chains_25 bg12_chains_25
    simp only [if_neg cn01]
    by_cases k1 : v12_firstOf q (cn 4) (cn 1) < 0
    · simp only [if_pos k1]
      exact ⟨⟨gqX, gqW, gqY, gqZ, trivial⟩, rfl⟩
    · by_cases k2 : v12_firstOf q (cn 5) (cn 1) < 0
      · simp only [if_neg k1, if_pos k2]
        exact ⟨⟨gqX, gqW, gqY, gqZ, trivial⟩, rfl⟩
      · by_cases k3 : v12_firstOf q (cn 0) (cn 0) < 0
        · simp only [if_neg k1, if_neg k2, if_pos k3]
          exact ⟨⟨gqX, gqW, gqY, gqZ, trivial⟩, rfl⟩
        · by_cases k4 : v12_firstOf q (cn 2) (cn 1) < 0
          · simp only [if_neg k1, if_neg k2, if_neg k3, if_pos k4]
            exact ⟨⟨gqX, gqW, gqY, gqZ, trivial⟩, rfl⟩
          · have k5 : v12_isOpen q (cn 1) = 0 := by
              rcases h with h | h | h | h | h
              · exact absurd h k1
              · exact absurd h k2
              · exact absurd h k3
              · exact absurd h k4
              · exact h
            simp only [if_neg k1, if_neg k2, if_neg k3, if_neg k4, if_pos k5]
            exact ⟨⟨gqX, gqW, gqY, gqZ, go1, trivial⟩, rfl⟩
  have shut : ∀ {b : Nat} {t : Int32}, v12_isOpen q (cn b) = 0 → v12_firstOf q (cn b) t < 0 := fun {b t} h => by
    rw [firstQ_shut _ h]
    exact cnm1
  -- a book that is shut
  by_cases h4 : v12_isOpen q (cn 4) = 0
  · obtain ⟨k1, k2⟩ := qno (Or.inl (shut (b := 4) h4))
    have n4 : ¬ p.1 1 5 5 = 0 := by
      rw [o4]
      exact fun h => h h4
    refine ⟨⟨?_, k1⟩, Or.inl ⟨?_, k2⟩⟩
    · unfold g3_makeChain bg3_makeChain
      simp only [B0, B1, B2, B4, B5, if_neg n4]
      exact ⟨G0, G1, G2, G4, z5, trivial⟩
    · unfold v3_makeChain bv3_makeChain
      simp only [B0, B1, B2, B4, B5, if_neg n4]
      rfl
  have n4 : p.1 1 5 5 = 0 := by
    rw [o4]
    exact h4
  by_cases h5 : v12_isOpen q (cn 5) = 0
  · obtain ⟨k1, k2⟩ := qno (Or.inr (Or.inl (shut (b := 5) h5)))
    have n5 : ¬ p.1 1 6 5 = 0 := by
      rw [o5]
      exact fun h => h h5
    refine ⟨⟨?_, k1⟩, Or.inl ⟨?_, k2⟩⟩
    · unfold g3_makeChain bg3_makeChain
      simp only [B0, B1, B2, B4, B5, if_pos n4, if_neg n5]
      exact ⟨G0, G1, G2, G4, z5, G5, z6, trivial⟩
    · unfold v3_makeChain bv3_makeChain
      simp only [B0, B1, B2, B4, B5, if_pos n4, if_neg n5]
      rfl
  have n5 : p.1 1 6 5 = 0 := by
    rw [o5]
    exact h5
  by_cases h0 : v12_isOpen q (cn 0) = 0
  · obtain ⟨k1, k2⟩ := qno (Or.inr (Or.inr (Or.inl (shut (b := 0) h0))))
    have n0 : ¬ p.1 1 1 5 = 0 := by
      rw [o0]
      exact fun h => h h0
    refine ⟨⟨?_, k1⟩, Or.inl ⟨?_, k2⟩⟩
    · unfold g3_makeChain bg3_makeChain
      simp only [B0, B1, B2, B4, B5, if_pos n4, if_pos n5, if_neg n0]
      exact ⟨G0, G1, G2, G4, z5, G5, z6, z1, trivial⟩
    · unfold v3_makeChain bv3_makeChain
      simp only [B0, B1, B2, B4, B5, if_pos n4, if_pos n5, if_neg n0]
      rfl
  have n0 : p.1 1 1 5 = 0 := by
    rw [o0]
    exact h0
  by_cases h1 : v12_isOpen q (cn 1) = 0
  · obtain ⟨k1, k2⟩ := qno (Or.inr (Or.inr (Or.inr (Or.inr h1))))
    have n1 : ¬ p.1 1 2 5 = 0 := by
      rw [o1]
      exact fun h => h h1
    refine ⟨⟨?_, k1⟩, Or.inl ⟨?_, k2⟩⟩
    · unfold g3_makeChain bg3_makeChain
      simp only [B0, B1, B2, B4, B5, if_pos n4, if_pos n5, if_pos n0, if_neg n1]
      exact ⟨G0, G1, G2, G4, z5, G5, z6, z1, z2, trivial⟩
    · unfold v3_makeChain bv3_makeChain
      simp only [B0, B1, B2, B4, B5, if_pos n4, if_pos n5, if_pos n0, if_neg n1]
      rfl
  have n1 : p.1 1 2 5 = 0 := by
    rw [o1]
    exact h1
  by_cases h2 : v12_isOpen q (cn 2) = 0
  · obtain ⟨k1, k2⟩ := qno (Or.inr (Or.inr (Or.inr (Or.inl (shut (b := 2) h2)))))
    have n2 : ¬ p.1 1 3 5 = 0 := by
      rw [o2]
      exact fun h => h h2
    refine ⟨⟨?_, k1⟩, Or.inl ⟨?_, k2⟩⟩
    · unfold g3_makeChain bg3_makeChain
      simp only [B0, B1, B2, B4, B5, if_pos n4, if_pos n5, if_pos n0, if_pos n1, if_neg n2]
      exact ⟨G0, G1, G2, G4, z5, G5, z6, z1, z2, z3, trivial⟩
    · unfold v3_makeChain bv3_makeChain
      simp only [B0, B1, B2, B4, B5, if_pos n4, if_pos n5, if_pos n0, if_pos n1, if_neg n2]
      rfl
  have n2 : p.1 1 3 5 = 0 := by
    rw [o2]
    exact h2
  have eC : v3_makeChain p (cn 1) = v3_makeChain_130 p (cn 1) 1 2 3 (v6_firstOf p 5 (cn 1)) (v6_firstOf p 6 (cn 1)) (cn 0) 1 ∧ (g3_makeChain_130 p (cn 1) 1 2 3 (v6_firstOf p 5 (cn 1)) (v6_firstOf p 6 (cn 1)) (cn 0) 1 → g3_makeChain p (cn 1)) := by
    unfold v3_makeChain bv3_makeChain g3_makeChain bg3_makeChain
    simp only [B0, B1, B2, B4, B5, if_pos n4, if_pos n5, if_pos n0, if_pos n1, if_pos n2, if_neg cn01]
    exact ⟨trivial, fun h => ⟨G0, G1, G2, G4, z5, G5, z6, z1, z2, z3, G4, gfX, G5, gfW, h⟩⟩
  have rX : RefR q 4 (cn 1) (v6_firstOf p 5 (cn 1)) (v12_firstOf q (cn 4) (cn 1)) := first_eq (b := 4) (by decide) H.1.1 H.1.2.2.1 (cn 1) h4
  have rW : RefR q 5 (cn 1) (v6_firstOf p 6 (cn 1)) (v12_firstOf q (cn 5) (cn 1)) := first_eq (b := 5) (by decide) H.1.1 H.1.2.2.1 (cn 1) h5
  have rY : RefR q 0 (cn 0) (v6_firstOf p 1 (cn 0)) (v12_firstOf q (cn 0) (cn 0)) := first_eq (b := 0) (by decide) H.1.1 H.1.2.2.1 (cn 0) h0
  have rZ : RefR q 2 (cn 1) (v6_firstOf p 3 (cn 1)) (v12_firstOf q (cn 2) (cn 1)) := first_eq (b := 2) (by decide) H.1.1 H.1.2.2.1 (cn 1) h2
  have pno : (v6_firstOf p 5 (cn 1) = 0 ∨ v6_firstOf p 6 (cn 1) = 0 ∨ v6_firstOf p 1 (cn 0) = 0 ∨ v6_firstOf p 3 (cn 1) = 0) → g3_makeChain p (cn 1) ∧ v3_makeChain p (cn 1) = (cn 0, p) := by
    intro h
    have k : g3_makeChain_130 p (cn 1) 1 2 3 (v6_firstOf p 5 (cn 1)) (v6_firstOf p 6 (cn 1)) (cn 0) 1 ∧ v3_makeChain_130 p (cn 1) 1 2 3 (v6_firstOf p 5 (cn 1)) (v6_firstOf p 6 (cn 1)) (cn 0) 1 = (cn 0, p) := by
      unfold g3_makeChain_130 bg3_makeChain_130 v3_makeChain_130 bv3_makeChain_130
      by_cases k1 : v6_firstOf p 5 (cn 1) = 0
      · simp only [if_pos k1]
        exact ⟨⟨gfY, gfZ, trivial⟩, rfl⟩
      · by_cases k2 : v6_firstOf p 6 (cn 1) = 0
        · simp only [if_neg k1, if_pos k2]
          exact ⟨⟨gfY, gfZ, trivial⟩, rfl⟩
        · by_cases k3 : v6_firstOf p 1 (cn 0) = 0
          · simp only [if_neg k1, if_neg k2, if_pos k3]
            exact ⟨⟨gfY, gfZ, trivial⟩, rfl⟩
          · have k4 : v6_firstOf p 3 (cn 1) = 0 := by
              rcases h with h | h | h | h
              · exact absurd h k1
              · exact absurd h k2
              · exact absurd h k3
              · exact h
            simp only [if_neg k1, if_neg k2, if_neg k3, if_pos k4]
            exact ⟨⟨gfY, gfZ, trivial⟩, rfl⟩
    exact ⟨eC.2 k.1, by rw [eC.1, k.2]⟩
  rcases rX with ⟨X1, X2⟩ | ⟨x, x1, X1, X2, X3, X4, X5⟩
  · obtain ⟨k1, k2⟩ := qno (Or.inl (by rw [X2]; exact cnm1))
    obtain ⟨k3, k4⟩ := pno (Or.inl X1)
    exact ⟨⟨k3, k1⟩, Or.inl ⟨k4, k2⟩⟩
  rcases rW with ⟨W1, W2⟩ | ⟨w, w1, W1, W2, W3, W4, W5⟩
  · obtain ⟨k1, k2⟩ := qno (Or.inr (Or.inl (by rw [W2]; exact cnm1)))
    obtain ⟨k3, k4⟩ := pno (Or.inr (Or.inl W1))
    exact ⟨⟨k3, k1⟩, Or.inl ⟨k4, k2⟩⟩
  rcases rY with ⟨Y1, Y2⟩ | ⟨y, y1, Y1, Y2, Y3, Y4, Y5⟩
  · obtain ⟨k1, k2⟩ := qno (Or.inr (Or.inr (Or.inl (by rw [Y2]; exact cnm1))))
    obtain ⟨k3, k4⟩ := pno (Or.inr (Or.inr (Or.inl Y1)))
    exact ⟨⟨k3, k1⟩, Or.inl ⟨k4, k2⟩⟩
  rcases rZ with ⟨Z1, Z2⟩ | ⟨z, z1', Z1, Z2, Z3, Z4, Z5⟩
  · obtain ⟨k1, k2⟩ := qno (Or.inr (Or.inr (Or.inr (Or.inl (by rw [Z2]; exact cnm1)))))
    obtain ⟨k3, k4⟩ := pno (Or.inr (Or.inr (Or.inr Z1)))
    exact ⟨⟨k3, k1⟩, Or.inl ⟨k4, k2⟩⟩
  -- four orders
  obtain ⟨ax, rx, sx, lx, QX⟩ := st_inv H x1 (b := 4) (by decide) X3 X4 X5 h4
  obtain ⟨aw, rw', sw', lw, QW⟩ := st_inv H w1 (b := 5) (by decide) W3 W4 W5 h5
  obtain ⟨ay, ry, sy, ly, QY⟩ := st_inv H y1 (b := 0) (by decide) Y3 Y4 Y5 h0
  obtain ⟨az, rz, sz, lz, QZ⟩ := st_inv H z1' (b := 2) (by decide) Z3 Z4 Z5 h2
  have QX' := QX
  have QW' := QW
  have QY' := QY
  have QZ' := QZ
  obtain ⟨LX, -, -, -, -, -, xp, xs, xn, xg, xr, ⟨vx, xv, xP⟩, -, -⟩ := QX'
  obtain ⟨LW, -, -, -, -, -, wp, ws, wn, wg, wr, ⟨vw, wv, wP⟩, -, -⟩ := QW'
  obtain ⟨LY, -, -, -, -, -, yp, ys, yn, yg, yr, ⟨vy, yv, yP⟩, -, -⟩ := QY'
  obtain ⟨LZ, -, -, -, -, -, zp, zs, zn, zg, zr, ⟨vz, zv, zP⟩, -, -⟩ := QZ'
  have rrx := LX.2.2.2.2.2.2.2.1
  have rrw := LW.2.2.2.2.2.2.2.1
  have rry := LY.2.2.2.2.2.2.2.1
  have rrz := LZ.2.2.2.2.2.2.2.1
  rw [xv] at xp
  rw [wv] at wp
  rw [yv] at yp
  rw [zv] at zp
  have hzx : ¬ x + 1 = 0 := by omega
  have hzw : ¬ w + 1 = 0 := by omega
  have hzy : ¬ y + 1 = 0 := by omega
  have hzz : ¬ z + 1 = 0 := by omega
  have hix := cninb (i := x) (n := 44) (by omega) (by omega)
  have hiw := cninb (i := w) (n := 44) (by omega) (by omega)
  have hiy := cninb (i := y) (n := 44) (by omega) (by omega)
  have hiz := cninb (i := z) (n := 44) (by omega) (by omega)
  have dneb : ∀ {i j b c : Nat}, b < 6 → c < 6 → ¬ b = c → q.1 13 16 i = cn b → q.1 13 16 j = cn c → ¬ i = j := by
    intro i j b c hb hc hne h h' e
    rw [e, h', cneq ⟨by omega, by omega⟩ ⟨by omega, by omega⟩] at h
    omega
  have d1 : ¬ w = x := dneb (b := 5) (c := 4) (by decide) (by decide) (by decide) W4 X4
  have d2 : ¬ y = x := dneb (b := 0) (c := 4) (by decide) (by decide) (by decide) Y4 X4
  have d3 : ¬ y = w := dneb (b := 0) (c := 5) (by decide) (by decide) (by decide) Y4 W4
  have d4 : ¬ z = x := dneb (b := 2) (c := 4) (by decide) (by decide) (by decide) Z4 X4
  have d5 : ¬ z = w := dneb (b := 2) (c := 5) (by decide) (by decide) (by decide) Z4 W4
  have d6 : ¬ z = y := dneb (b := 2) (c := 0) (by decide) (by decide) (by decide) Z4 Y4
  have xP1 := xP.1
  have xP2 := xP.2.1
  have wP1 := wP.1
  have wP2 := wP.2.1
  have yP1 := yP.1
  have yP2 := yP.2.1
  have zP1 := zP.1
  have zP2 := zP.2.1
  have BA : (g3_isBarred p 1 (cn vy) (x + 1) (y + 1) ∧ g12_canDeal q (cn 0) (cn x) (cn y) (cn vy) ∧ g12_canDeal q (cn 0) (cn y) (cn x) (cn vy)) ∧ (v3_isBarred p 1 (cn vy) (x + 1) (y + 1) = 0) = (¬ v12_canDeal q (cn 0) (cn x) (cn y) (cn vy) = 0) ∧ (v3_isBarred p 1 (cn vy) (x + 1) (y + 1) = 0) = (¬ v12_canDeal q (cn 0) (cn y) (cn x) (cn vy) = 0) ∧ (v3_isBarred p 1 (cn vy) (x + 1) (y + 1) = 0 → PrB 0 vy) := bar_eq H (b := 0) (by decide) x1 y1 LX LY (v := vy) ⟨by omega, by omega⟩
  have BB : (g3_isBarred p 2 (cn (vw + vz)) (x + 1) (w + 1) ∧ g12_canDeal q (cn 1) (cn x) (cn w) (cn (vw + vz)) ∧ g12_canDeal q (cn 1) (cn w) (cn x) (cn (vw + vz))) ∧ (v3_isBarred p 2 (cn (vw + vz)) (x + 1) (w + 1) = 0) = (¬ v12_canDeal q (cn 1) (cn x) (cn w) (cn (vw + vz)) = 0) ∧ (v3_isBarred p 2 (cn (vw + vz)) (x + 1) (w + 1) = 0) = (¬ v12_canDeal q (cn 1) (cn w) (cn x) (cn (vw + vz)) = 0) ∧ (v3_isBarred p 2 (cn (vw + vz)) (x + 1) (w + 1) = 0 → PrB 1 (vw + vz)) := bar_eq H (b := 1) (by decide) x1 w1 LX LW (v := vw + vz) ⟨by omega, by omega⟩
  have BC : (g3_isBarred p 3 (cn vz) (w + 1) (z + 1) ∧ g12_canDeal q (cn 2) (cn w) (cn z) (cn vz) ∧ g12_canDeal q (cn 2) (cn z) (cn w) (cn vz)) ∧ (v3_isBarred p 3 (cn vz) (w + 1) (z + 1) = 0) = (¬ v12_canDeal q (cn 2) (cn w) (cn z) (cn vz) = 0) ∧ (v3_isBarred p 3 (cn vz) (w + 1) (z + 1) = 0) = (¬ v12_canDeal q (cn 2) (cn z) (cn w) (cn vz) = 0) ∧ (v3_isBarred p 3 (cn vz) (w + 1) (z + 1) = 0 → PrB 2 vz) := bar_eq H (b := 2) (by decide) w1 z1' LW LZ (v := vz) ⟨by omega, by omega⟩
  obtain ⟨⟨gB1, gD1, gD1'⟩, eB1, eB1', pB1⟩ := BA
  obtain ⟨⟨gB2, gD2, gD2'⟩, eB2, eB2', pB2⟩ := BB
  obtain ⟨⟨gB3, gD3, gD3'⟩, eB3, eB3', pB3⟩ := BC
  have gsx := g_showsNow (q := q) (i := x) (by omega)
  have gsw := g_showsNow (q := q) (i := w) (by omega)
  have gsy := g_showsNow (q := q) (i := y) (by omega)
  have gsz := g_showsNow (q := q) (i := z) (by omega)
  -- what they can
  generalize hn : min (min (sw q x) (sw q w)) (min (sw q y) (sw q z)) = n
  have hn1 : 1 ≤ n ∧ n ≤ sw q x ∧ n ≤ sw q w ∧ n ≤ sw q y ∧ n ≤ sw q z := by omega
  have m1 : v14_min_7cf53 p (cn (sw q x)) (cn (sw q w)) = cn (min (sw q x) (sw q w)) := min_cn p ⟨by omega, by omega⟩ ⟨by omega, by omega⟩
  have m2 : v14_min_7cf53 p (cn (sw q y)) (cn (sw q z)) = cn (min (sw q y) (sw q z)) := min_cn p ⟨by omega, by omega⟩ ⟨by omega, by omega⟩
  have m3 : v14_min_7cf53 p (cn (min (sw q x) (sw q w))) (cn (min (sw q y) (sw q z))) = cn n := by rw [min_cn p ⟨by omega, by omega⟩ ⟨by omega, by omega⟩, hn]
  have m4 : v12_least q (cn (sw q x)) (cn (sw q w)) = cn (min (sw q x) (sw q w)) := least_cn q ⟨by omega, by omega⟩ ⟨by omega, by omega⟩
  have m5 : v12_least q (cn (sw q y)) (cn (sw q z)) = cn (min (sw q y) (sw q z)) := least_cn q ⟨by omega, by omega⟩ ⟨by omega, by omega⟩
  have m6 : v12_least q (cn (min (sw q x) (sw q w))) (cn (min (sw q y) (sw q z))) = cn n := by rw [least_cn q ⟨by omega, by omega⟩ ⟨by omega, by omega⟩, hn]
  have gm1 := g_min p (cn (sw q x)) (cn (sw q w))
  have gm2 := g_min p (cn (sw q y)) (cn (sw q z))
  have gm3 := g_min p (cn (min (sw q x) (sw q w))) (cn (min (sw q y) (sw q z)))
  have gm4 := g_least q (cn (sw q x)) (cn (sw q w))
  have gm5 := g_least q (cn (sw q y)) (cn (sw q z))
  have gm6 := g_least q (cn (min (sw q x) (sw q w))) (cn (min (sw q y) (sw q z)))
  -- how far both come
  have gap : (cn vx + cn vw < cn vy - cn vz) = (vx + vw < vy - vz) := by
    rw [cnsub, cnadd, cnlt ⟨by omega, by omega⟩ ⟨by omega, by omega⟩]
  have eC2 : v3_makeChain p (cn 1) = (if vx + vw < vy - vz then (cn 0, p) else v3_makeChain_218 p (cn 1) 1 2 3 (x + 1) (w + 1) (y + 1) (z + 1)) ∧ ((¬ (vx + vw < vy - vz) → g3_makeChain_218 p (cn 1) 1 2 3 (x + 1) (w + 1) (y + 1) (z + 1)) → g3_makeChain p (cn 1)) := by
    refine ⟨?_, fun h => eC.2 ?_⟩
    · rw [eC.1]
      unfold v3_makeChain_130 bv3_makeChain_130
      simp only [X1, W1, Y1, Z1, if_neg hzx, if_neg hzw, if_neg hzy, if_neg hzz, xp, wp, yp, zp, if_neg cn01, gap]
    · unfold g3_makeChain_130 bg3_makeChain_130
      simp only [X1, W1, Y1, Z1, if_neg hzx, if_neg hzw, if_neg hzy, if_neg hzz, xp, wp, yp, zp, if_neg cn01, gap]
      refine ⟨gfY, gfZ, hzx, hzw, hzy, hzz, ?_⟩
      by_cases k : vx + vw < vy - vz
      · simp only [if_pos k]
      · simp only [if_neg k]
        exact h k
  have eQ2 : v12_chains q (cn 1) = (if vx + vw < vy - vz then (cn 0, q) else v12_chains_154 q (cn 1) (cn x) (cn w) (cn y) (cn z) (cn vy) (cn vz) (cn (vw + vz)) (cn 1)) ∧ ((¬ (vx + vw < vy - vz) → g12_chains_154 q (cn 1) (cn x) (cn w) (cn y) (cn z) (cn vy) (cn vz) (cn (vw + vz)) (cn 1)) → g12_chains q (cn 1)) := by
    have ev : cn vw + cn vz = cn (vw + vz) := cnadd _ _
    refine ⟨?_, fun h => ?_⟩
    · unfold v12_chains bv12_chains v12_chains_25 bv12_chains_25
      simp only [X2, W2, Y2, Z2, if_neg (cnge (j := x) (by omega)), if_neg (cnge (j := w) (by omega)), if_neg (cnge (j := y) (by omega)), if_neg (cnge (j := z) (by omega)), if_neg h1, cntk (i := x) (by omega), cntk (i := w) (by omega), cntk (i := y) (by omega), cntk (i := z) (by omega), xv, wv, yv, zv, if_neg cn01, gap, ev]
      split
      · unfold v12_chains_154 bv12_chains_154
        rw [if_pos cn0e']
        rfl
      · rfl
    · unfold g12_chains bg12_chains g12_chains_25 bg12_chains_25
      simp only [X2, W2, Y2, Z2, if_neg (cnge (j := x) (by omega)), if_neg (cnge (j := w) (by omega)), if_neg (cnge (j := y) (by omega)), if_neg (cnge (j := z) (by omega)), if_neg h1, cntk (i := x) (by omega), cntk (i := w) (by omega), cntk (i := y) (by omega), cntk (i := z) (by omega), xv, wv, yv, zv, if_neg cn01, gap, ev]
      refine ⟨gqX, gqW, gqY, gqZ, go1, hiy, hiz, hiw, hix, hiw, ?_⟩
      by_cases k : vx + vw < vy - vz
      · simp only [if_pos k]
        unfold g12_chains_154 bg12_chains_154
        rw [if_pos cn0e']
        trivial
      · simp only [if_neg k]
        exact h k
  by_cases c3 : vx + vw < vy - vz
  · rw [if_pos c3] at eC2 eQ2
    exact ⟨⟨eC2.2 fun h => absurd c3 h, eQ2.2 fun h => absurd c3 h⟩, Or.inl ⟨eC2.1, eQ2.1⟩⟩
  rw [if_neg c3] at eC2 eQ2
  have ev : cn vw + cn vz = cn (vw + vz) := cnadd _ _
  -- what bars it
  by_cases c4 : v3_isBarred p 1 (cn vy) (x + 1) (y + 1) = 0
  case neg =>
    have k1 : v12_canDeal q (cn 0) (cn x) (cn y) (cn vy) = 0 := by
      by_cases h : v12_canDeal q (cn 0) (cn x) (cn y) (cn vy) = 0
      · exact h
      · exact absurd (eB1 ▸ h) c4
    refine ⟨⟨eC2.2 fun _ => ?_, eQ2.2 fun _ => ?_⟩, Or.inl ⟨?_, ?_⟩⟩
    · unfold g3_makeChain_218 bg3_makeChain_218
      simp only [wp, yp, zp, ev, if_neg c4]
      exact ⟨hzw, hzz, hzy, gB1, trivial⟩
    · unfold g12_chains_154 bg12_chains_154
      simp only [if_neg cn01, if_neg cn01, if_pos k1]
      exact ⟨gD1, trivial⟩
    · rw [eC2.1]
      unfold v3_makeChain_218 bv3_makeChain_218
      simp only [wp, yp, zp, ev, if_neg c4]
    · rw [eQ2.1]
      unfold v12_chains_154 bv12_chains_154
      simp only [if_neg cn01, if_neg cn01, if_pos k1]
      rfl
  have k1 : ¬ v12_canDeal q (cn 0) (cn x) (cn y) (cn vy) = 0 := eB1 ▸ c4
  by_cases c5 : v3_isBarred p 2 (cn (vw + vz)) (x + 1) (w + 1) = 0
  case neg =>
    have k2 : v12_canDeal q (cn 1) (cn w) (cn x) (cn (vw + vz)) = 0 := by
      by_cases h : v12_canDeal q (cn 1) (cn w) (cn x) (cn (vw + vz)) = 0
      · exact h
      · exact absurd (eB2' ▸ h) c5
    refine ⟨⟨eC2.2 fun _ => ?_, eQ2.2 fun _ => ?_⟩, Or.inl ⟨?_, ?_⟩⟩
    · unfold g3_makeChain_218 bg3_makeChain_218
      simp only [wp, yp, zp, ev, if_pos c4, if_neg c5]
      exact ⟨hzw, hzz, hzy, gB1, gB2, trivial⟩
    · unfold g12_chains_154 bg12_chains_154
      simp only [if_neg cn01, if_neg cn01, if_neg k1, if_pos k2]
      exact ⟨gD1, gD2', trivial⟩
    · rw [eC2.1]
      unfold v3_makeChain_218 bv3_makeChain_218
      simp only [wp, yp, zp, ev, if_pos c4, if_neg c5]
    · rw [eQ2.1]
      unfold v12_chains_154 bv12_chains_154
      simp only [if_neg cn01, if_neg cn01, if_neg k1, if_pos k2]
      rfl
  have k2 : ¬ v12_canDeal q (cn 1) (cn w) (cn x) (cn (vw + vz)) = 0 := eB2' ▸ c5
  by_cases c6 : v3_isBarred p 3 (cn vz) (w + 1) (z + 1) = 0
  case neg =>
    have k3 : v12_canDeal q (cn 2) (cn z) (cn w) (cn vz) = 0 := by
      by_cases h : v12_canDeal q (cn 2) (cn z) (cn w) (cn vz) = 0
      · exact h
      · exact absurd (eB3' ▸ h) c6
    refine ⟨⟨eC2.2 fun _ => ?_, eQ2.2 fun _ => ?_⟩, Or.inl ⟨?_, ?_⟩⟩
    · unfold g3_makeChain_218 bg3_makeChain_218
      simp only [wp, yp, zp, ev, if_pos c4, if_pos c5, if_neg c6]
      exact ⟨hzw, hzz, hzy, gB1, gB2, hzz, gB3, trivial⟩
    · unfold g12_chains_154 bg12_chains_154
      simp only [if_neg cn01, if_neg cn01, if_neg k1, if_neg k2, if_pos k3]
      exact ⟨gD1, gD2', gD3', trivial⟩
    · rw [eC2.1]
      unfold v3_makeChain_218 bv3_makeChain_218
      simp only [wp, yp, zp, ev, if_pos c4, if_pos c5, if_neg c6]
    · rw [eQ2.1]
      unfold v12_chains_154 bv12_chains_154
      simp only [if_neg cn01, if_neg cn01, if_neg k1, if_neg k2, if_pos k3]
      rfl
  have k3 : ¬ v12_canDeal q (cn 2) (cn z) (cn w) (cn vz) = 0 := eB3' ▸ c6
  -- it is made
  have hRS0 := (RS_rng H.1.1 40 (by decide)).1
  have hRS3 := (rs_live H x1 X3.1)
  obtain ⟨P1, P2, P3, Q1, Q2, Q3, ⟨i1, i2, i3, i4, i5, i6⟩, ⟨j1, j2, j3, j4, j5, j6⟩, ⟨i9, i10, i11, i9', i10', i11'⟩, ⟨f1, f2, f3, f4, f5, f6⟩, T2, t1, t2, W, R⟩ := chain_do (n := n) (z1 := vy) (z2 := vw + vz) (z3 := vz) (A1 := ax) (C1 := ay) (A2 := aw) (C2 := ax) (A3 := az) (C3 := aw) H hn1.1 (by omega) (rdy_of x1 QX hn1.2.1) (rdy_of w1 QW hn1.2.2.1) (rdy_of y1 QY hn1.2.2.2.1) (rdy_of z1' QZ hn1.2.2.2.2) d1 d2 d3 d4 d5 d6 ⟨X4, W4, Y4, Z4⟩ LX.1.1 LY.1.1 LW.1.1 LX.1.1 LZ.1.1 LW.1.1 (pB1 c4) (pB2 c5) (pB3 c6) (by omega) (by omega)
  have ox : p.2.2 10 (x + 1) 3 = ax + 1 := LX.1.2.2
  have ow : p.2.2 10 (w + 1) 3 = aw + 1 := LW.1.2.2
  have oy : p.2.2 10 (y + 1) 3 = ay + 1 := LY.1.2.2
  have oz : p.2.2 10 (z + 1) 3 = az + 1 := LZ.1.2.2
  have qx : q.1 13 15 x = cn ax := LX.1.2.1
  have qw : q.1 13 15 w = cn aw := LW.1.2.1
  have qy : q.1 13 15 y = cn ay := LY.1.2.1
  have qz : q.1 13 15 z = cn az := LZ.1.2.1
  have rc1 : v3_record p 1 (cn 1) (x + 1) (y + 1) (cn vy) (cn n) = P1 ∧ g3_record p 1 (cn 1) (x + 1) (y + 1) (cn vy) (cn n) := by
    unfold v3_record bv3_record g3_record bg3_record
    simp only [if_neg cn01, ox, oy]
    exact ⟨i1, hzx, hzy, j1, trivial⟩
  have rc2 : v3_record P1 2 (cn 1) (w + 1) (x + 1) (cn (vw + vz)) (cn n) = P2 ∧ g3_record P1 2 (cn 1) (w + 1) (x + 1) (cn (vw + vz)) (cn n) := by
    unfold v3_record bv3_record g3_record bg3_record
    simp only [if_neg cn01, i10, ox, ow]
    exact ⟨i2, hzw, hzx, j2, trivial⟩
  have rc3 : v3_record P2 3 (cn 0) (w + 1) (z + 1) (cn vz) (cn n) = P3 ∧ g3_record P2 3 (cn 0) (w + 1) (z + 1) (cn vz) (cn n) := by
    unfold v3_record bv3_record g3_record bg3_record
    simp only [if_pos cn0e', i10', oz, ow]
    exact ⟨i3, hzz, hzw, j3, trivial⟩
  have p7z : P2.1 10 (z + 1) 7 = cn vz := by rw [i9']; exact zp
  refine ⟨⟨eC2.2 fun _ => ?_, eQ2.2 fun _ => ?_⟩, Or.inr ⟨_, _, T2, D + 3, ?_, ?_, ⟨t1, by omega⟩, W, by omega, by omega, by omega⟩⟩
  · unfold g3_makeChain_218 bg3_makeChain_218
    simp only [wp, yp, zp, ev, if_pos c4, if_pos c5, if_pos c6, xs, ws, ys, zs, m1, m2, m3, rc1.1, rc2.1, if_neg cn01, p7z, rc3.1]
    exact ⟨hzw, hzz, hzy, gB1, gB2, hzz, gB3, hzx, hzw, gm1, hzy, hzz, gm2, gm3, hzy, rc1.2, rc2.2, hzz, rc3.2, f1, trivial⟩
  · unfold g12_chains_154 bg12_chains_154 g12_chains_316 bg12_chains_316 g12_chains_364 bg12_chains_364
    simp only [if_neg cn01, if_neg cn01, if_neg k1, if_neg k2, if_neg k3, xn, wn, yn, zn, m4, m5, m6, cntk (i := x) (by omega), cntk (i := w) (by omega), cntk (i := y) (by omega), cntk (i := z) (by omega), qx, qw, qy, qz, i4, i11, i5, i11', i6]
    have e16 := f6
    unfold gdH gdH gdH gdH gdH at e16
    exact ⟨gD1, gD2', gD3', gsx, gsw, gm4, gsy, gsz, gm5, gm6, hix, hiy, j4, hiw, hix, j5, hiz, hiw, j6, f2, f3, f4, f5, e16.1, e16.2.1, e16.2.2.1, e16.2.2.2.1, trivial⟩
  · rw [eC2.1]
    unfold v3_makeChain_218 bv3_makeChain_218
    simp only [wp, yp, zp, ev, if_pos c4, if_pos c5, if_pos c6, xs, ws, ys, zs, m1, m2, m3, rc1.1, rc2.1, if_neg cn01, p7z, rc3.1]
  · rw [eQ2.1]
    unfold v12_chains_154 bv12_chains_154 v12_chains_316 bv12_chains_316 v12_chains_364 bv12_chains_364
    simp only [if_neg cn01, if_neg cn01, if_neg k1, if_neg k2, if_neg k3, xn, wn, yn, zn, m4, m5, m6, cntk (i := x) (by omega), cntk (i := w) (by omega), cntk (i := y) (by omega), cntk (i := z) (by omega), qx, qw, qy, qz, i4, i11, i5, i11', i6]
    rfl
theorem chain_s (H : WW p q lg 99 99 (fun _ => False) N T D l (fun _ => 0)) (hT : T + RS q 40 + 4 ≤ 1000000000) (hD : D + RS q 40 + 4 ≤ 1000000000) : (g3_makeChain p (cn 0) ∧ g12_chains q (cn 0)) ∧ CombR p q lg N T D l (v3_makeChain p (cn 0)) (v12_chains q (cn 0)) := by
  have B0 : v6_bookAt p (cn 0) = 1 := book_e p (a := 0) (by decide)
  have B1 : v6_bookAt p (cn 1) = 2 := book_e p (a := 1) (by decide)
  have B2 : v6_bookAt p (cn 2) = 3 := book_e p (a := 2) (by decide)
  have B4 : v6_bookAt p (cn 4) = 5 := book_e p (a := 4) (by decide)
  have B5 : v6_bookAt p (cn 5) = 6 := book_e p (a := 5) (by decide)
  have G0 : g6_bookAt p (cn 0) := g_book p (a := 0) (by decide)
  have G1 : g6_bookAt p (cn 1) := g_book p (a := 1) (by decide)
  have G2 : g6_bookAt p (cn 2) := g_book p (a := 2) (by decide)
  have G4 : g6_bookAt p (cn 4) := g_book p (a := 4) (by decide)
  have G5 : g6_bookAt p (cn 5) := g_book p (a := 5) (by decide)
  have o0 : (p.1 1 1 5 = 0) = ¬ v12_isOpen q (cn 0) = 0 := open_eq (b := 0) (by decide) H.2.2.1
  have o1 : (p.1 1 2 5 = 0) = ¬ v12_isOpen q (cn 1) = 0 := open_eq (b := 1) (by decide) H.2.2.1
  have o2 : (p.1 1 3 5 = 0) = ¬ v12_isOpen q (cn 2) = 0 := open_eq (b := 2) (by decide) H.2.2.1
  have o4 : (p.1 1 5 5 = 0) = ¬ v12_isOpen q (cn 4) = 0 := open_eq (b := 4) (by decide) H.2.2.1
  have o5 : (p.1 1 6 5 = 0) = ¬ v12_isOpen q (cn 5) = 0 := open_eq (b := 5) (by decide) H.2.2.1
  have gfX := g_firstP p 5 (cn 0)
  have gfW := g_firstP p 6 (cn 0)
  have gfY := g_firstP p 1 (cn 1)
  have gfZ := g_firstP p 3 (cn 0)
  have gqX : g12_firstOf q (cn 4) (cn 0) := g_firstQ (q := q) (b := 4) (by decide) (cn 0)
  have gqW : g12_firstOf q (cn 5) (cn 0) := g_firstQ (q := q) (b := 5) (by decide) (cn 0)
  have gqY : g12_firstOf q (cn 0) (cn 1) := g_firstQ (q := q) (b := 0) (by decide) (cn 1)
  have gqZ : g12_firstOf q (cn 2) (cn 0) := g_firstQ (q := q) (b := 2) (by decide) (cn 0)
  have go1 : g12_isOpen q (cn 1) := g_open (q := q) (b := 1) (by decide)
  have z1 : ¬ (1 : Nat) = 0 := by decide
  have z2 : ¬ (2 : Nat) = 0 := by decide
  have z3 : ¬ (3 : Nat) = 0 := by decide
  have z5 : ¬ (5 : Nat) = 0 := by decide
  have z6 : ¬ (6 : Nat) = 0 := by decide
  -- the reference
  have qno : (v12_firstOf q (cn 4) (cn 0) < 0 ∨ v12_firstOf q (cn 5) (cn 0) < 0 ∨ v12_firstOf q (cn 0) (cn 1) < 0 ∨ v12_firstOf q (cn 2) (cn 0) < 0 ∨ v12_isOpen q (cn 1) = 0) → g12_chains q (cn 0) ∧ v12_chains q (cn 0) = (cn 0, q) := by
    intro h
    unfold v12_chains bv12_chains g12_chains bg12_chains v12_chains_25 bv12_chains_25 g12_chains_25 bg12_chains_25
    simp only [if_pos cn0e']
    by_cases k1 : v12_firstOf q (cn 4) (cn 0) < 0
    · simp only [if_pos k1]
      exact ⟨⟨gqX, gqW, gqY, gqZ, trivial⟩, rfl⟩
    · by_cases k2 : v12_firstOf q (cn 5) (cn 0) < 0
      · simp only [if_neg k1, if_pos k2]
        exact ⟨⟨gqX, gqW, gqY, gqZ, trivial⟩, rfl⟩
      · by_cases k3 : v12_firstOf q (cn 0) (cn 1) < 0
        · simp only [if_neg k1, if_neg k2, if_pos k3]
          exact ⟨⟨gqX, gqW, gqY, gqZ, trivial⟩, rfl⟩
        · by_cases k4 : v12_firstOf q (cn 2) (cn 0) < 0
          · simp only [if_neg k1, if_neg k2, if_neg k3, if_pos k4]
            exact ⟨⟨gqX, gqW, gqY, gqZ, trivial⟩, rfl⟩
          · have k5 : v12_isOpen q (cn 1) = 0 := by
              rcases h with h | h | h | h | h
              · exact absurd h k1
              · exact absurd h k2
              · exact absurd h k3
              · exact absurd h k4
              · exact h
            simp only [if_neg k1, if_neg k2, if_neg k3, if_neg k4, if_pos k5]
            exact ⟨⟨gqX, gqW, gqY, gqZ, go1, trivial⟩, rfl⟩
  have shut : ∀ {b : Nat} {t : Int32}, v12_isOpen q (cn b) = 0 → v12_firstOf q (cn b) t < 0 := fun {b t} h => by
    rw [firstQ_shut _ h]
    exact cnm1
  -- a book that is shut
  by_cases h4 : v12_isOpen q (cn 4) = 0
  · obtain ⟨k1, k2⟩ := qno (Or.inl (shut (b := 4) h4))
    have n4 : ¬ p.1 1 5 5 = 0 := by
      rw [o4]
      exact fun h => h h4
    refine ⟨⟨?_, k1⟩, Or.inl ⟨?_, k2⟩⟩
    · unfold g3_makeChain bg3_makeChain
      simp only [B0, B1, B2, B4, B5, if_neg n4]
      exact ⟨G0, G1, G2, G4, z5, trivial⟩
    · unfold v3_makeChain bv3_makeChain
      simp only [B0, B1, B2, B4, B5, if_neg n4]
      rfl
  have n4 : p.1 1 5 5 = 0 := by
    rw [o4]
    exact h4
  by_cases h5 : v12_isOpen q (cn 5) = 0
  · obtain ⟨k1, k2⟩ := qno (Or.inr (Or.inl (shut (b := 5) h5)))
    have n5 : ¬ p.1 1 6 5 = 0 := by
      rw [o5]
      exact fun h => h h5
    refine ⟨⟨?_, k1⟩, Or.inl ⟨?_, k2⟩⟩
    · unfold g3_makeChain bg3_makeChain
      simp only [B0, B1, B2, B4, B5, if_pos n4, if_neg n5]
      exact ⟨G0, G1, G2, G4, z5, G5, z6, trivial⟩
    · unfold v3_makeChain bv3_makeChain
      simp only [B0, B1, B2, B4, B5, if_pos n4, if_neg n5]
      rfl
  have n5 : p.1 1 6 5 = 0 := by
    rw [o5]
    exact h5
  by_cases h0 : v12_isOpen q (cn 0) = 0
  · obtain ⟨k1, k2⟩ := qno (Or.inr (Or.inr (Or.inl (shut (b := 0) h0))))
    have n0 : ¬ p.1 1 1 5 = 0 := by
      rw [o0]
      exact fun h => h h0
    refine ⟨⟨?_, k1⟩, Or.inl ⟨?_, k2⟩⟩
    · unfold g3_makeChain bg3_makeChain
      simp only [B0, B1, B2, B4, B5, if_pos n4, if_pos n5, if_neg n0]
      exact ⟨G0, G1, G2, G4, z5, G5, z6, z1, trivial⟩
    · unfold v3_makeChain bv3_makeChain
      simp only [B0, B1, B2, B4, B5, if_pos n4, if_pos n5, if_neg n0]
      rfl
  have n0 : p.1 1 1 5 = 0 := by
    rw [o0]
    exact h0
  by_cases h1 : v12_isOpen q (cn 1) = 0
  · obtain ⟨k1, k2⟩ := qno (Or.inr (Or.inr (Or.inr (Or.inr h1))))
    have n1 : ¬ p.1 1 2 5 = 0 := by
      rw [o1]
      exact fun h => h h1
    refine ⟨⟨?_, k1⟩, Or.inl ⟨?_, k2⟩⟩
    · unfold g3_makeChain bg3_makeChain
      simp only [B0, B1, B2, B4, B5, if_pos n4, if_pos n5, if_pos n0, if_neg n1]
      exact ⟨G0, G1, G2, G4, z5, G5, z6, z1, z2, trivial⟩
    · unfold v3_makeChain bv3_makeChain
      simp only [B0, B1, B2, B4, B5, if_pos n4, if_pos n5, if_pos n0, if_neg n1]
      rfl
  have n1 : p.1 1 2 5 = 0 := by
    rw [o1]
    exact h1
  by_cases h2 : v12_isOpen q (cn 2) = 0
  · obtain ⟨k1, k2⟩ := qno (Or.inr (Or.inr (Or.inr (Or.inl (shut (b := 2) h2)))))
    have n2 : ¬ p.1 1 3 5 = 0 := by
      rw [o2]
      exact fun h => h h2
    refine ⟨⟨?_, k1⟩, Or.inl ⟨?_, k2⟩⟩
    · unfold g3_makeChain bg3_makeChain
      simp only [B0, B1, B2, B4, B5, if_pos n4, if_pos n5, if_pos n0, if_pos n1, if_neg n2]
      exact ⟨G0, G1, G2, G4, z5, G5, z6, z1, z2, z3, trivial⟩
    · unfold v3_makeChain bv3_makeChain
      simp only [B0, B1, B2, B4, B5, if_pos n4, if_pos n5, if_pos n0, if_pos n1, if_neg n2]
      rfl
  have n2 : p.1 1 3 5 = 0 := by
    rw [o2]
    exact h2
  have eC : v3_makeChain p (cn 0) = v3_makeChain_130 p (cn 0) 1 2 3 (v6_firstOf p 5 (cn 0)) (v6_firstOf p 6 (cn 0)) (cn 1) 1 ∧ (g3_makeChain_130 p (cn 0) 1 2 3 (v6_firstOf p 5 (cn 0)) (v6_firstOf p 6 (cn 0)) (cn 1) 1 → g3_makeChain p (cn 0)) := by
    unfold v3_makeChain bv3_makeChain g3_makeChain bg3_makeChain
    simp only [B0, B1, B2, B4, B5, if_pos n4, if_pos n5, if_pos n0, if_pos n1, if_pos n2, if_pos cn0e']
    exact ⟨trivial, fun h => ⟨G0, G1, G2, G4, z5, G5, z6, z1, z2, z3, G4, gfX, G5, gfW, h⟩⟩
  have rX : RefR q 4 (cn 0) (v6_firstOf p 5 (cn 0)) (v12_firstOf q (cn 4) (cn 0)) := first_eq (b := 4) (by decide) H.1.1 H.1.2.2.1 (cn 0) h4
  have rW : RefR q 5 (cn 0) (v6_firstOf p 6 (cn 0)) (v12_firstOf q (cn 5) (cn 0)) := first_eq (b := 5) (by decide) H.1.1 H.1.2.2.1 (cn 0) h5
  have rY : RefR q 0 (cn 1) (v6_firstOf p 1 (cn 1)) (v12_firstOf q (cn 0) (cn 1)) := first_eq (b := 0) (by decide) H.1.1 H.1.2.2.1 (cn 1) h0
  have rZ : RefR q 2 (cn 0) (v6_firstOf p 3 (cn 0)) (v12_firstOf q (cn 2) (cn 0)) := first_eq (b := 2) (by decide) H.1.1 H.1.2.2.1 (cn 0) h2
  have pno : (v6_firstOf p 5 (cn 0) = 0 ∨ v6_firstOf p 6 (cn 0) = 0 ∨ v6_firstOf p 1 (cn 1) = 0 ∨ v6_firstOf p 3 (cn 0) = 0) → g3_makeChain p (cn 0) ∧ v3_makeChain p (cn 0) = (cn 0, p) := by
    intro h
    have k : g3_makeChain_130 p (cn 0) 1 2 3 (v6_firstOf p 5 (cn 0)) (v6_firstOf p 6 (cn 0)) (cn 1) 1 ∧ v3_makeChain_130 p (cn 0) 1 2 3 (v6_firstOf p 5 (cn 0)) (v6_firstOf p 6 (cn 0)) (cn 1) 1 = (cn 0, p) := by
      unfold g3_makeChain_130 bg3_makeChain_130 v3_makeChain_130 bv3_makeChain_130
      by_cases k1 : v6_firstOf p 5 (cn 0) = 0
      · simp only [if_pos k1]
        exact ⟨⟨gfY, gfZ, trivial⟩, rfl⟩
      · by_cases k2 : v6_firstOf p 6 (cn 0) = 0
        · simp only [if_neg k1, if_pos k2]
          exact ⟨⟨gfY, gfZ, trivial⟩, rfl⟩
        · by_cases k3 : v6_firstOf p 1 (cn 1) = 0
          · simp only [if_neg k1, if_neg k2, if_pos k3]
            exact ⟨⟨gfY, gfZ, trivial⟩, rfl⟩
          · have k4 : v6_firstOf p 3 (cn 0) = 0 := by
              rcases h with h | h | h | h
              · exact absurd h k1
              · exact absurd h k2
              · exact absurd h k3
              · exact h
            simp only [if_neg k1, if_neg k2, if_neg k3, if_pos k4]
            exact ⟨⟨gfY, gfZ, trivial⟩, rfl⟩
    exact ⟨eC.2 k.1, by rw [eC.1, k.2]⟩
  rcases rX with ⟨X1, X2⟩ | ⟨x, x1, X1, X2, X3, X4, X5⟩
  · obtain ⟨k1, k2⟩ := qno (Or.inl (by rw [X2]; exact cnm1))
    obtain ⟨k3, k4⟩ := pno (Or.inl X1)
    exact ⟨⟨k3, k1⟩, Or.inl ⟨k4, k2⟩⟩
  rcases rW with ⟨W1, W2⟩ | ⟨w, w1, W1, W2, W3, W4, W5⟩
  · obtain ⟨k1, k2⟩ := qno (Or.inr (Or.inl (by rw [W2]; exact cnm1)))
    obtain ⟨k3, k4⟩ := pno (Or.inr (Or.inl W1))
    exact ⟨⟨k3, k1⟩, Or.inl ⟨k4, k2⟩⟩
  rcases rY with ⟨Y1, Y2⟩ | ⟨y, y1, Y1, Y2, Y3, Y4, Y5⟩
  · obtain ⟨k1, k2⟩ := qno (Or.inr (Or.inr (Or.inl (by rw [Y2]; exact cnm1))))
    obtain ⟨k3, k4⟩ := pno (Or.inr (Or.inr (Or.inl Y1)))
    exact ⟨⟨k3, k1⟩, Or.inl ⟨k4, k2⟩⟩
  rcases rZ with ⟨Z1, Z2⟩ | ⟨z, z1', Z1, Z2, Z3, Z4, Z5⟩
  · obtain ⟨k1, k2⟩ := qno (Or.inr (Or.inr (Or.inr (Or.inl (by rw [Z2]; exact cnm1)))))
    obtain ⟨k3, k4⟩ := pno (Or.inr (Or.inr (Or.inr Z1)))
    exact ⟨⟨k3, k1⟩, Or.inl ⟨k4, k2⟩⟩
  -- four orders
  obtain ⟨ax, rx, sx, lx, QX⟩ := st_inv H x1 (b := 4) (by decide) X3 X4 X5 h4
  obtain ⟨aw, rw', sw', lw, QW⟩ := st_inv H w1 (b := 5) (by decide) W3 W4 W5 h5
  obtain ⟨ay, ry, sy, ly, QY⟩ := st_inv H y1 (b := 0) (by decide) Y3 Y4 Y5 h0
  obtain ⟨az, rz, sz, lz, QZ⟩ := st_inv H z1' (b := 2) (by decide) Z3 Z4 Z5 h2
  have QX' := QX
  have QW' := QW
  have QY' := QY
  have QZ' := QZ
  obtain ⟨LX, -, -, -, -, -, xp, xs, xn, xg, xr, ⟨vx, xv, xP⟩, -, -⟩ := QX'
  obtain ⟨LW, -, -, -, -, -, wp, ws, wn, wg, wr, ⟨vw, wv, wP⟩, -, -⟩ := QW'
  obtain ⟨LY, -, -, -, -, -, yp, ys, yn, yg, yr, ⟨vy, yv, yP⟩, -, -⟩ := QY'
  obtain ⟨LZ, -, -, -, -, -, zp, zs, zn, zg, zr, ⟨vz, zv, zP⟩, -, -⟩ := QZ'
  have rrx := LX.2.2.2.2.2.2.2.1
  have rrw := LW.2.2.2.2.2.2.2.1
  have rry := LY.2.2.2.2.2.2.2.1
  have rrz := LZ.2.2.2.2.2.2.2.1
  rw [xv] at xp
  rw [wv] at wp
  rw [yv] at yp
  rw [zv] at zp
  have hzx : ¬ x + 1 = 0 := by omega
  have hzw : ¬ w + 1 = 0 := by omega
  have hzy : ¬ y + 1 = 0 := by omega
  have hzz : ¬ z + 1 = 0 := by omega
  have hix := cninb (i := x) (n := 44) (by omega) (by omega)
  have hiw := cninb (i := w) (n := 44) (by omega) (by omega)
  have hiy := cninb (i := y) (n := 44) (by omega) (by omega)
  have hiz := cninb (i := z) (n := 44) (by omega) (by omega)
  have dneb : ∀ {i j b c : Nat}, b < 6 → c < 6 → ¬ b = c → q.1 13 16 i = cn b → q.1 13 16 j = cn c → ¬ i = j := by
    intro i j b c hb hc hne h h' e
    rw [e, h', cneq ⟨by omega, by omega⟩ ⟨by omega, by omega⟩] at h
    omega
  have d1 : ¬ w = x := dneb (b := 5) (c := 4) (by decide) (by decide) (by decide) W4 X4
  have d2 : ¬ y = x := dneb (b := 0) (c := 4) (by decide) (by decide) (by decide) Y4 X4
  have d3 : ¬ y = w := dneb (b := 0) (c := 5) (by decide) (by decide) (by decide) Y4 W4
  have d4 : ¬ z = x := dneb (b := 2) (c := 4) (by decide) (by decide) (by decide) Z4 X4
  have d5 : ¬ z = w := dneb (b := 2) (c := 5) (by decide) (by decide) (by decide) Z4 W4
  have d6 : ¬ z = y := dneb (b := 2) (c := 0) (by decide) (by decide) (by decide) Z4 Y4
  have xP1 := xP.1
  have xP2 := xP.2.1
  have wP1 := wP.1
  have wP2 := wP.2.1
  have yP1 := yP.1
  have yP2 := yP.2.1
  have zP1 := zP.1
  have zP2 := zP.2.1
  have BA : (g3_isBarred p 1 (cn vy) (x + 1) (y + 1) ∧ g12_canDeal q (cn 0) (cn x) (cn y) (cn vy) ∧ g12_canDeal q (cn 0) (cn y) (cn x) (cn vy)) ∧ (v3_isBarred p 1 (cn vy) (x + 1) (y + 1) = 0) = (¬ v12_canDeal q (cn 0) (cn x) (cn y) (cn vy) = 0) ∧ (v3_isBarred p 1 (cn vy) (x + 1) (y + 1) = 0) = (¬ v12_canDeal q (cn 0) (cn y) (cn x) (cn vy) = 0) ∧ (v3_isBarred p 1 (cn vy) (x + 1) (y + 1) = 0 → PrB 0 vy) := bar_eq H (b := 0) (by decide) x1 y1 LX LY (v := vy) ⟨by omega, by omega⟩
  have BB : (g3_isBarred p 2 (cn (vw + vz)) (x + 1) (w + 1) ∧ g12_canDeal q (cn 1) (cn x) (cn w) (cn (vw + vz)) ∧ g12_canDeal q (cn 1) (cn w) (cn x) (cn (vw + vz))) ∧ (v3_isBarred p 2 (cn (vw + vz)) (x + 1) (w + 1) = 0) = (¬ v12_canDeal q (cn 1) (cn x) (cn w) (cn (vw + vz)) = 0) ∧ (v3_isBarred p 2 (cn (vw + vz)) (x + 1) (w + 1) = 0) = (¬ v12_canDeal q (cn 1) (cn w) (cn x) (cn (vw + vz)) = 0) ∧ (v3_isBarred p 2 (cn (vw + vz)) (x + 1) (w + 1) = 0 → PrB 1 (vw + vz)) := bar_eq H (b := 1) (by decide) x1 w1 LX LW (v := vw + vz) ⟨by omega, by omega⟩
  have BC : (g3_isBarred p 3 (cn vz) (w + 1) (z + 1) ∧ g12_canDeal q (cn 2) (cn w) (cn z) (cn vz) ∧ g12_canDeal q (cn 2) (cn z) (cn w) (cn vz)) ∧ (v3_isBarred p 3 (cn vz) (w + 1) (z + 1) = 0) = (¬ v12_canDeal q (cn 2) (cn w) (cn z) (cn vz) = 0) ∧ (v3_isBarred p 3 (cn vz) (w + 1) (z + 1) = 0) = (¬ v12_canDeal q (cn 2) (cn z) (cn w) (cn vz) = 0) ∧ (v3_isBarred p 3 (cn vz) (w + 1) (z + 1) = 0 → PrB 2 vz) := bar_eq H (b := 2) (by decide) w1 z1' LW LZ (v := vz) ⟨by omega, by omega⟩
  obtain ⟨⟨gB1, gD1, gD1'⟩, eB1, eB1', pB1⟩ := BA
  obtain ⟨⟨gB2, gD2, gD2'⟩, eB2, eB2', pB2⟩ := BB
  obtain ⟨⟨gB3, gD3, gD3'⟩, eB3, eB3', pB3⟩ := BC
  have gsx := g_showsNow (q := q) (i := x) (by omega)
  have gsw := g_showsNow (q := q) (i := w) (by omega)
  have gsy := g_showsNow (q := q) (i := y) (by omega)
  have gsz := g_showsNow (q := q) (i := z) (by omega)
  -- what they can
  generalize hn : min (min (sw q x) (sw q w)) (min (sw q y) (sw q z)) = n
  have hn1 : 1 ≤ n ∧ n ≤ sw q x ∧ n ≤ sw q w ∧ n ≤ sw q y ∧ n ≤ sw q z := by omega
  have m1 : v14_min_7cf53 p (cn (sw q x)) (cn (sw q w)) = cn (min (sw q x) (sw q w)) := min_cn p ⟨by omega, by omega⟩ ⟨by omega, by omega⟩
  have m2 : v14_min_7cf53 p (cn (sw q y)) (cn (sw q z)) = cn (min (sw q y) (sw q z)) := min_cn p ⟨by omega, by omega⟩ ⟨by omega, by omega⟩
  have m3 : v14_min_7cf53 p (cn (min (sw q x) (sw q w))) (cn (min (sw q y) (sw q z))) = cn n := by rw [min_cn p ⟨by omega, by omega⟩ ⟨by omega, by omega⟩, hn]
  have m4 : v12_least q (cn (sw q x)) (cn (sw q w)) = cn (min (sw q x) (sw q w)) := least_cn q ⟨by omega, by omega⟩ ⟨by omega, by omega⟩
  have m5 : v12_least q (cn (sw q y)) (cn (sw q z)) = cn (min (sw q y) (sw q z)) := least_cn q ⟨by omega, by omega⟩ ⟨by omega, by omega⟩
  have m6 : v12_least q (cn (min (sw q x) (sw q w))) (cn (min (sw q y) (sw q z))) = cn n := by rw [least_cn q ⟨by omega, by omega⟩ ⟨by omega, by omega⟩, hn]
  have gm1 := g_min p (cn (sw q x)) (cn (sw q w))
  have gm2 := g_min p (cn (sw q y)) (cn (sw q z))
  have gm3 := g_min p (cn (min (sw q x) (sw q w))) (cn (min (sw q y) (sw q z)))
  have gm4 := g_least q (cn (sw q x)) (cn (sw q w))
  have gm5 := g_least q (cn (sw q y)) (cn (sw q z))
  have gm6 := g_least q (cn (min (sw q x) (sw q w))) (cn (min (sw q y) (sw q z)))
  -- how far both come
  have gap : (cn vy - cn vz < cn vx + cn vw) = (vy - vz < vx + vw) := by
    rw [cnsub, cnadd, cnlt ⟨by omega, by omega⟩ ⟨by omega, by omega⟩]
  have eC2 : v3_makeChain p (cn 0) = (if vy - vz < vx + vw then (cn 0, p) else v3_makeChain_218 p (cn 0) 1 2 3 (x + 1) (w + 1) (y + 1) (z + 1)) ∧ ((¬ (vy - vz < vx + vw) → g3_makeChain_218 p (cn 0) 1 2 3 (x + 1) (w + 1) (y + 1) (z + 1)) → g3_makeChain p (cn 0)) := by
    refine ⟨?_, fun h => eC.2 ?_⟩
    · rw [eC.1]
      unfold v3_makeChain_130 bv3_makeChain_130
      simp only [X1, W1, Y1, Z1, if_neg hzx, if_neg hzw, if_neg hzy, if_neg hzz, xp, wp, yp, zp, if_pos cn0e', gap]
    · unfold g3_makeChain_130 bg3_makeChain_130
      simp only [X1, W1, Y1, Z1, if_neg hzx, if_neg hzw, if_neg hzy, if_neg hzz, xp, wp, yp, zp, if_pos cn0e', gap]
      refine ⟨gfY, gfZ, hzx, hzw, hzy, hzz, ?_⟩
      by_cases k : vy - vz < vx + vw
      · simp only [if_pos k]
      · simp only [if_neg k]
        exact h k
  have eQ2 : v12_chains q (cn 0) = (if vy - vz < vx + vw then (cn 0, q) else v12_chains_154 q (cn 0) (cn x) (cn w) (cn y) (cn z) (cn vy) (cn vz) (cn (vw + vz)) (cn 1)) ∧ ((¬ (vy - vz < vx + vw) → g12_chains_154 q (cn 0) (cn x) (cn w) (cn y) (cn z) (cn vy) (cn vz) (cn (vw + vz)) (cn 1)) → g12_chains q (cn 0)) := by
    have ev : cn vw + cn vz = cn (vw + vz) := cnadd _ _
    refine ⟨?_, fun h => ?_⟩
    · unfold v12_chains bv12_chains v12_chains_25 bv12_chains_25
      simp only [X2, W2, Y2, Z2, if_neg (cnge (j := x) (by omega)), if_neg (cnge (j := w) (by omega)), if_neg (cnge (j := y) (by omega)), if_neg (cnge (j := z) (by omega)), if_neg h1, cntk (i := x) (by omega), cntk (i := w) (by omega), cntk (i := y) (by omega), cntk (i := z) (by omega), xv, wv, yv, zv, if_pos cn0e', gap, ev]
      split
      · unfold v12_chains_154 bv12_chains_154
        rw [if_pos cn0e']
        rfl
      · rfl
    · unfold g12_chains bg12_chains g12_chains_25 bg12_chains_25
      simp only [X2, W2, Y2, Z2, if_neg (cnge (j := x) (by omega)), if_neg (cnge (j := w) (by omega)), if_neg (cnge (j := y) (by omega)), if_neg (cnge (j := z) (by omega)), if_neg h1, cntk (i := x) (by omega), cntk (i := w) (by omega), cntk (i := y) (by omega), cntk (i := z) (by omega), xv, wv, yv, zv, if_pos cn0e', gap, ev]
      refine ⟨gqX, gqW, gqY, gqZ, go1, hiy, hiz, hiw, hix, hiw, ?_⟩
      by_cases k : vy - vz < vx + vw
      · simp only [if_pos k]
        unfold g12_chains_154 bg12_chains_154
        rw [if_pos cn0e']
        trivial
      · simp only [if_neg k]
        exact h k
  by_cases c3 : vy - vz < vx + vw
  · rw [if_pos c3] at eC2 eQ2
    exact ⟨⟨eC2.2 fun h => absurd c3 h, eQ2.2 fun h => absurd c3 h⟩, Or.inl ⟨eC2.1, eQ2.1⟩⟩
  rw [if_neg c3] at eC2 eQ2
  have ev : cn vw + cn vz = cn (vw + vz) := cnadd _ _
  -- what bars it
  by_cases c4 : v3_isBarred p 1 (cn vy) (x + 1) (y + 1) = 0
  case neg =>
    have k1 : v12_canDeal q (cn 0) (cn y) (cn x) (cn vy) = 0 := by
      by_cases h : v12_canDeal q (cn 0) (cn y) (cn x) (cn vy) = 0
      · exact h
      · exact absurd (eB1' ▸ h) c4
    refine ⟨⟨eC2.2 fun _ => ?_, eQ2.2 fun _ => ?_⟩, Or.inl ⟨?_, ?_⟩⟩
    · unfold g3_makeChain_218 bg3_makeChain_218
      simp only [wp, yp, zp, ev, if_neg c4]
      exact ⟨hzw, hzz, hzy, gB1, trivial⟩
    · unfold g12_chains_154 bg12_chains_154
      simp only [if_neg cn01, if_pos cn0e', if_pos k1]
      exact ⟨gD1', trivial⟩
    · rw [eC2.1]
      unfold v3_makeChain_218 bv3_makeChain_218
      simp only [wp, yp, zp, ev, if_neg c4]
    · rw [eQ2.1]
      unfold v12_chains_154 bv12_chains_154
      simp only [if_neg cn01, if_pos cn0e', if_pos k1]
      rfl
  have k1 : ¬ v12_canDeal q (cn 0) (cn y) (cn x) (cn vy) = 0 := eB1' ▸ c4
  by_cases c5 : v3_isBarred p 2 (cn (vw + vz)) (x + 1) (w + 1) = 0
  case neg =>
    have k2 : v12_canDeal q (cn 1) (cn x) (cn w) (cn (vw + vz)) = 0 := by
      by_cases h : v12_canDeal q (cn 1) (cn x) (cn w) (cn (vw + vz)) = 0
      · exact h
      · exact absurd (eB2 ▸ h) c5
    refine ⟨⟨eC2.2 fun _ => ?_, eQ2.2 fun _ => ?_⟩, Or.inl ⟨?_, ?_⟩⟩
    · unfold g3_makeChain_218 bg3_makeChain_218
      simp only [wp, yp, zp, ev, if_pos c4, if_neg c5]
      exact ⟨hzw, hzz, hzy, gB1, gB2, trivial⟩
    · unfold g12_chains_154 bg12_chains_154
      simp only [if_neg cn01, if_pos cn0e', if_neg k1, if_pos k2]
      exact ⟨gD1', gD2, trivial⟩
    · rw [eC2.1]
      unfold v3_makeChain_218 bv3_makeChain_218
      simp only [wp, yp, zp, ev, if_pos c4, if_neg c5]
    · rw [eQ2.1]
      unfold v12_chains_154 bv12_chains_154
      simp only [if_neg cn01, if_pos cn0e', if_neg k1, if_pos k2]
      rfl
  have k2 : ¬ v12_canDeal q (cn 1) (cn x) (cn w) (cn (vw + vz)) = 0 := eB2 ▸ c5
  by_cases c6 : v3_isBarred p 3 (cn vz) (w + 1) (z + 1) = 0
  case neg =>
    have k3 : v12_canDeal q (cn 2) (cn w) (cn z) (cn vz) = 0 := by
      by_cases h : v12_canDeal q (cn 2) (cn w) (cn z) (cn vz) = 0
      · exact h
      · exact absurd (eB3 ▸ h) c6
    refine ⟨⟨eC2.2 fun _ => ?_, eQ2.2 fun _ => ?_⟩, Or.inl ⟨?_, ?_⟩⟩
    · unfold g3_makeChain_218 bg3_makeChain_218
      simp only [wp, yp, zp, ev, if_pos c4, if_pos c5, if_neg c6]
      exact ⟨hzw, hzz, hzy, gB1, gB2, hzz, gB3, trivial⟩
    · unfold g12_chains_154 bg12_chains_154
      simp only [if_neg cn01, if_pos cn0e', if_neg k1, if_neg k2, if_pos k3]
      exact ⟨gD1', gD2, gD3, trivial⟩
    · rw [eC2.1]
      unfold v3_makeChain_218 bv3_makeChain_218
      simp only [wp, yp, zp, ev, if_pos c4, if_pos c5, if_neg c6]
    · rw [eQ2.1]
      unfold v12_chains_154 bv12_chains_154
      simp only [if_neg cn01, if_pos cn0e', if_neg k1, if_neg k2, if_pos k3]
      rfl
  have k3 : ¬ v12_canDeal q (cn 2) (cn w) (cn z) (cn vz) = 0 := eB3 ▸ c6
  -- it is made
  have hRS0 := (RS_rng H.1.1 40 (by decide)).1
  have hRS3 := (rs_live H x1 X3.1)
  obtain ⟨P1, P2, P3, Q1, Q2, Q3, ⟨i1, i2, i3, i4, i5, i6⟩, ⟨j1, j2, j3, j4, j5, j6⟩, ⟨i9, i10, i11, i9', i10', i11'⟩, ⟨f1, f2, f3, f4, f5, f6⟩, T2, t1, t2, W, R⟩ := chain_do (n := n) (z1 := vy) (z2 := vw + vz) (z3 := vz) (A1 := ay) (C1 := ax) (A2 := ax) (C2 := aw) (A3 := aw) (C3 := az) H hn1.1 (by omega) (rdy_of x1 QX hn1.2.1) (rdy_of w1 QW hn1.2.2.1) (rdy_of y1 QY hn1.2.2.2.1) (rdy_of z1' QZ hn1.2.2.2.2) d1 d2 d3 d4 d5 d6 ⟨X4, W4, Y4, Z4⟩ LY.1.1 LX.1.1 LX.1.1 LW.1.1 LW.1.1 LZ.1.1 (pB1 c4) (pB2 c5) (pB3 c6) (by omega) (by omega)
  have ox : p.2.2 10 (x + 1) 3 = ax + 1 := LX.1.2.2
  have ow : p.2.2 10 (w + 1) 3 = aw + 1 := LW.1.2.2
  have oy : p.2.2 10 (y + 1) 3 = ay + 1 := LY.1.2.2
  have oz : p.2.2 10 (z + 1) 3 = az + 1 := LZ.1.2.2
  have qx : q.1 13 15 x = cn ax := LX.1.2.1
  have qw : q.1 13 15 w = cn aw := LW.1.2.1
  have qy : q.1 13 15 y = cn ay := LY.1.2.1
  have qz : q.1 13 15 z = cn az := LZ.1.2.1
  have rc1 : v3_record p 1 (cn 0) (x + 1) (y + 1) (cn vy) (cn n) = P1 ∧ g3_record p 1 (cn 0) (x + 1) (y + 1) (cn vy) (cn n) := by
    unfold v3_record bv3_record g3_record bg3_record
    simp only [if_pos cn0e', ox, oy]
    exact ⟨i1, hzy, hzx, j1, trivial⟩
  have rc2 : v3_record P1 2 (cn 0) (w + 1) (x + 1) (cn (vw + vz)) (cn n) = P2 ∧ g3_record P1 2 (cn 0) (w + 1) (x + 1) (cn (vw + vz)) (cn n) := by
    unfold v3_record bv3_record g3_record bg3_record
    simp only [if_pos cn0e', i10, ox, ow]
    exact ⟨i2, hzx, hzw, j2, trivial⟩
  have rc3 : v3_record P2 3 (cn 1) (w + 1) (z + 1) (cn vz) (cn n) = P3 ∧ g3_record P2 3 (cn 1) (w + 1) (z + 1) (cn vz) (cn n) := by
    unfold v3_record bv3_record g3_record bg3_record
    simp only [if_neg cn01, i10', oz, ow]
    exact ⟨i3, hzw, hzz, j3, trivial⟩
  have p7z : P2.1 10 (z + 1) 7 = cn vz := by rw [i9']; exact zp
  refine ⟨⟨eC2.2 fun _ => ?_, eQ2.2 fun _ => ?_⟩, Or.inr ⟨_, _, T2, D + 3, ?_, ?_, ⟨t1, by omega⟩, W, by omega, by omega, by omega⟩⟩
  · unfold g3_makeChain_218 bg3_makeChain_218
    simp only [wp, yp, zp, ev, if_pos c4, if_pos c5, if_pos c6, xs, ws, ys, zs, m1, m2, m3, rc1.1, rc2.1, if_pos cn0e', p7z, rc3.1]
    exact ⟨hzw, hzz, hzy, gB1, gB2, hzz, gB3, hzx, hzw, gm1, hzy, hzz, gm2, gm3, hzy, rc1.2, rc2.2, hzz, rc3.2, f1, trivial⟩
  · unfold g12_chains_154 bg12_chains_154 g12_chains_316 bg12_chains_316 g12_chains_364 bg12_chains_364
    simp only [if_neg cn01, if_pos cn0e', if_neg k1, if_neg k2, if_neg k3, xn, wn, yn, zn, m4, m5, m6, cntk (i := x) (by omega), cntk (i := w) (by omega), cntk (i := y) (by omega), cntk (i := z) (by omega), qx, qw, qy, qz, i4, i11, i5, i11', i6]
    have e16 := f6
    unfold gdH gdH gdH gdH gdH at e16
    exact ⟨gD1', gD2, gD3, gsx, gsw, gm4, gsy, gsz, gm5, gm6, hiy, hix, j4, hix, hiw, j5, hiw, hiz, j6, f2, f3, f4, f5, e16.1, e16.2.1, e16.2.2.1, e16.2.2.2.1, trivial⟩
  · rw [eC2.1]
    unfold v3_makeChain_218 bv3_makeChain_218
    simp only [wp, yp, zp, ev, if_pos c4, if_pos c5, if_pos c6, xs, ws, ys, zs, m1, m2, m3, rc1.1, rc2.1, if_pos cn0e', p7z, rc3.1]
  · rw [eQ2.1]
    unfold v12_chains_154 bv12_chains_154 v12_chains_316 bv12_chains_316 v12_chains_364 bv12_chains_364
    simp only [if_neg cn01, if_pos cn0e', if_neg k1, if_neg k2, if_neg k3, xn, wn, yn, zn, m4, m5, m6, cntk (i := x) (by omega), cntk (i := w) (by omega), cntk (i := y) (by omega), cntk (i := z) (by omega), qx, qw, qy, qz, i4, i11, i5, i11', i6]
    rfl
end Chain
