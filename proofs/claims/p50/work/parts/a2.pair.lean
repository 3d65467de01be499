/-! a spread with two contracts, on both sides -/
section Pair
variable {p q : PM} {lg : Nat → Int32} {N T D l : Nat}
theorem pair_b {s B1 B2 : Nat} (H : WW p q lg 99 99 (fun _ => False) N T D l (fun _ => 0)) (hs : s = B1 + 4) (hs2 : B2 = B1 + 1) (hB1 : B1 ≤ 1) (hT : T + RS q 40 + 3 ≤ 1000000000) (hD : D + RS q 40 + 3 ≤ 1000000000) : (g3_makePair p (cn s) (cn 1) ∧ g12_joins q (cn s) (cn 1)) ∧ CombR p q lg N T D l (v3_makePair p (cn s) (cn 1)) (v12_joins q (cn s) (cn 1)) := by
  have hs6 : s < 6 := by omega
  have h16 : B1 < 6 := by omega
  have h26 : B2 < 6 := by omega
  have hzs : ¬ s + 1 = 0 := by omega
  have hz1 : ¬ B1 + 1 = 0 := by omega
  have hz2 : ¬ B2 + 1 = 0 := by omega
  have hK := H.2.2.2.2.1
  have bs := book_e p hs6
  have gbs := g_book p hs6
  have c1 : p.1 1 (s + 1) 1 = cn B1 := by
    rw [(hK.2 s hs6).2.1, if_neg (by omega)]
    exact congrArg cn (by omega)
  have c2 : p.1 1 (s + 1) 2 = cn B2 := by
    rw [(hK.2 s hs6).2.2, if_neg (by omega)]
    exact congrArg cn (by omega)
  have b1 := book_e p h16
  have gb1 := g_book p h16
  have b2 := book_e p h26
  have gb2 := g_book p h26
  have os := open_eq hs6 H.2.2.1
  have o1 := open_eq h16 H.2.2.1
  have o2 := open_eq h26 H.2.2.1
  have e4 : cn (s : Int) - cn 4 = cn (B1 : Int) := by
    rw [cnsub]
    exact congrArg cn (by omega)
  have e5 : cn (B1 : Int) + cn 1 = cn (B2 : Int) := by
    rw [cnadd]
    exact congrArg cn (by omega)
  have gfX := g_firstP p (s + 1) (cn 1)
  have gfY := g_firstP p (B1 + 1) (cn 0)
  have gfZ := g_firstP p (B2 + 1) (cn 1)
  have gqX := g_firstQ (q := q) hs6 (cn 1)
  have gqY := g_firstQ (q := q) h16 (cn 0)
  have gqZ := g_firstQ (q := q) h26 (cn 1)
  -- the reference
  have qno : (v12_firstOf q (cn s) (cn 1) < 0 ∨ v12_firstOf q (cn B1) (cn 0) < 0 ∨ v12_firstOf q (cn B2) (cn 1) < 0) → (∀ c : Int32, c = v12_firstOf q (cn s) (cn 1) ∨ c = v12_firstOf q (cn B1) (cn 0) ∨ c = v12_firstOf q (cn B2) (cn 1) → c < 0 ∨ inb c 44) → g12_joins q (cn s) (cn 1) ∧ v12_joins q (cn s) (cn 1) = (cn 0, q) := by
    intro h hin
    unfold v12_joins bv12_joins g12_joins bg12_joins
    simp only [if_neg cn01, e4, e5]
    by_cases k1 : v12_firstOf q (cn s) (cn 1) < 0
    · simp only [if_pos k1]
      exact ⟨⟨gqX, gqY, gqZ, trivial⟩, rfl⟩
    · by_cases k2 : v12_firstOf q (cn B1) (cn 0) < 0
      · simp only [if_neg k1, if_pos k2]
        exact ⟨⟨gqX, gqY, gqZ, trivial⟩, rfl⟩
      · have k3 : v12_firstOf q (cn B2) (cn 1) < 0 := by
          rcases h with h | h | h
          · exact absurd h k1
          · exact absurd h k2
          · exact h
        simp only [if_neg k1, if_neg k2, if_pos k3]
        exact ⟨⟨gqX, gqY, gqZ, trivial⟩, rfl⟩
  have hcm : ∀ c : Int32, c = cn (-1) → c < 0 ∨ inb c 44 := fun c h => Or.inl (by rw [h]; exact cnm1)
  have hrf : ∀ {b : Nat} {t : Int32} {o : Nat} {c : Int32}, RefR q b t o c → c < 0 ∨ inb c 44 := by
    intro b t o c h
    rcases h with ⟨-, rfl⟩ | ⟨j, j1, -, rfl, -⟩
    · exact Or.inl cnm1
    · exact Or.inr (cninb (by omega) (by omega))
  have hin : ∀ c : Int32, c = v12_firstOf q (cn s) (cn 1) ∨ c = v12_firstOf q (cn B1) (cn 0) ∨ c = v12_firstOf q (cn B2) (cn 1) → c < 0 ∨ inb c 44 := by
    intro c h
    have one : ∀ {b : Nat} (hb : b < 6) (t : Int32), v12_firstOf q (cn b) t < 0 ∨ inb (v12_firstOf q (cn b) t) 44 := by
      intro b hb t
      by_cases ho : v12_isOpen q (cn b) = 0
      · exact hcm _ (firstQ_shut t ho)
      · exact hrf (first_eq hb H.1.1 H.1.2.2.1 t ho)
    rcases h with rfl | rfl | rfl
    · exact one hs6 _
    · exact one h16 _
    · exact one h26 _
  -- a book that is shut
  by_cases hos : v12_isOpen q (cn s) = 0
  · obtain ⟨k1, k2⟩ := qno (Or.inl (by rw [firstQ_shut _ hos]; exact cnm1)) hin
    have n1 : ¬ p.1 1 (s + 1) 5 = 0 := by
      rw [os]
      exact fun h => h hos
    refine ⟨⟨?_, k1⟩, Or.inl ⟨?_, k2⟩⟩
    · unfold g3_makePair bg3_makePair
      simp only [bs, c1, c2, b1, b2, if_neg n1]
      exact ⟨gbs, hzs, gb1, hzs, gb2, hzs, trivial⟩
    · unfold v3_makePair bv3_makePair
      simp only [bs, c1, c2, b1, b2, if_neg n1]
      rfl
  have n1 : p.1 1 (s + 1) 5 = 0 := by
    rw [os]
    exact hos
  by_cases ho1 : v12_isOpen q (cn B1) = 0
  · obtain ⟨k1, k2⟩ := qno (Or.inr (Or.inl (by rw [firstQ_shut _ ho1]; exact cnm1))) hin
    have n2 : ¬ p.1 1 (B1 + 1) 5 = 0 := by
      rw [o1]
      exact fun h => h ho1
    refine ⟨⟨?_, k1⟩, Or.inl ⟨?_, k2⟩⟩
    · unfold g3_makePair bg3_makePair
      simp only [bs, c1, c2, b1, b2, if_pos n1, if_neg n2]
      exact ⟨gbs, hzs, gb1, hzs, gb2, hzs, hz1, trivial⟩
    · unfold v3_makePair bv3_makePair
      simp only [bs, c1, c2, b1, b2, if_pos n1, if_neg n2]
      rfl
  have n2 : p.1 1 (B1 + 1) 5 = 0 := by
    rw [o1]
    exact ho1
  by_cases ho2 : v12_isOpen q (cn B2) = 0
  · obtain ⟨k1, k2⟩ := qno (Or.inr (Or.inr (by rw [firstQ_shut _ ho2]; exact cnm1))) hin
    have n3 : ¬ p.1 1 (B2 + 1) 5 = 0 := by
      rw [o2]
      exact fun h => h ho2
    refine ⟨⟨?_, k1⟩, Or.inl ⟨?_, k2⟩⟩
    · unfold g3_makePair bg3_makePair
      simp only [bs, c1, c2, b1, b2, if_pos n1, if_pos n2, if_neg n3]
      exact ⟨gbs, hzs, gb1, hzs, gb2, hzs, hz1, hz2, trivial⟩
    · unfold v3_makePair bv3_makePair
      simp only [bs, c1, c2, b1, b2, if_pos n1, if_pos n2, if_neg n3]
      rfl
  have n3 : p.1 1 (B2 + 1) 5 = 0 := by
    rw [o2]
    exact ho2
  have eC : v3_makePair p (cn s) (cn 1) = v3_makePair_86 p (cn 1) (B1 + 1) (B2 + 1) (v6_firstOf p (s + 1) (cn 1)) (cn 0) (B1 + 1) ∧ (g3_makePair_86 p (cn 1) (B1 + 1) (B2 + 1) (v6_firstOf p (s + 1) (cn 1)) (cn 0) (B1 + 1) → g3_makePair p (cn s) (cn 1)) := by
    unfold v3_makePair bv3_makePair g3_makePair bg3_makePair
    simp only [bs, c1, c2, b1, b2, if_pos n1, if_pos n2, if_pos n3, if_neg cn01]
    exact ⟨trivial, fun h => ⟨gbs, hzs, gb1, hzs, gb2, hzs, hz1, hz2, gfX, h⟩⟩
  have rX := first_eq hs6 H.1.1 H.1.2.2.1 (cn 1) hos
  have rY := first_eq h16 H.1.1 H.1.2.2.1 (cn 0) ho1
  have rZ := first_eq h26 H.1.1 H.1.2.2.1 (cn 1) ho2
  have pno : (v6_firstOf p (s + 1) (cn 1) = 0 ∨ v6_firstOf p (B1 + 1) (cn 0) = 0 ∨ v6_firstOf p (B2 + 1) (cn 1) = 0) → g3_makePair p (cn s) (cn 1) ∧ v3_makePair p (cn s) (cn 1) = (cn 0, p) := by
    intro h
    have k : g3_makePair_86 p (cn 1) (B1 + 1) (B2 + 1) (v6_firstOf p (s + 1) (cn 1)) (cn 0) (B1 + 1) ∧ v3_makePair_86 p (cn 1) (B1 + 1) (B2 + 1) (v6_firstOf p (s + 1) (cn 1)) (cn 0) (B1 + 1) = (cn 0, p) := by
      unfold g3_makePair_86 bg3_makePair_86 v3_makePair_86 bv3_makePair_86
      by_cases k1 : v6_firstOf p (s + 1) (cn 1) = 0
      · simp only [if_pos k1]
        exact ⟨⟨gfY, gfZ, trivial⟩, rfl⟩
      · by_cases k2 : v6_firstOf p (B1 + 1) (cn 0) = 0
        · simp only [if_neg k1, if_pos k2]
          exact ⟨⟨gfY, gfZ, trivial⟩, rfl⟩
        · have k3 : v6_firstOf p (B2 + 1) (cn 1) = 0 := by
            rcases h with h | h | h
            · exact absurd h k1
            · exact absurd h k2
            · exact h
          simp only [if_neg k1, if_neg k2, if_pos k3]
          exact ⟨⟨gfY, gfZ, trivial⟩, rfl⟩
    exact ⟨eC.2 k.1, by rw [eC.1, k.2]⟩
  rcases rX with ⟨X1, X2⟩ | ⟨x, x1, X1, X2, X3, X4, X5⟩
  · obtain ⟨k1, k2⟩ := qno (Or.inl (by rw [X2]; exact cnm1)) hin
    obtain ⟨k3, k4⟩ := pno (Or.inl X1)
    exact ⟨⟨k3, k1⟩, Or.inl ⟨k4, k2⟩⟩
  rcases rY with ⟨Y1, Y2⟩ | ⟨y, y1, Y1, Y2, Y3, Y4, Y5⟩
  · obtain ⟨k1, k2⟩ := qno (Or.inr (Or.inl (by rw [Y2]; exact cnm1))) hin
    obtain ⟨k3, k4⟩ := pno (Or.inr (Or.inl Y1))
    exact ⟨⟨k3, k1⟩, Or.inl ⟨k4, k2⟩⟩
  rcases rZ with ⟨Z1, Z2⟩ | ⟨z, z1, Z1, Z2, Z3, Z4, Z5⟩
  · obtain ⟨k1, k2⟩ := qno (Or.inr (Or.inr (by rw [Z2]; exact cnm1))) hin
    obtain ⟨k3, k4⟩ := pno (Or.inr (Or.inr Z1))
    exact ⟨⟨k3, k1⟩, Or.inl ⟨k4, k2⟩⟩
  -- three orders
  obtain ⟨ax, rx, sx, lx, QX⟩ := st_inv H x1 hs6 X3 X4 X5 hos
  obtain ⟨ay, ry, sy, ly, QY⟩ := st_inv H y1 h16 Y3 Y4 Y5 ho1
  obtain ⟨az, rz, sz, lz, QZ⟩ := st_inv H z1 h26 Z3 Z4 Z5 ho2
  have QX' := QX
  have QY' := QY
  have QZ' := QZ
  obtain ⟨LX, -, -, -, -, -, xp, xs, xn, xg, xr, ⟨vx, xv, xP⟩, -, -⟩ := QX'
  obtain ⟨LY, -, -, -, -, -, yp, ys, yn, yg, yr, ⟨vy, yv, yP⟩, -, -⟩ := QY'
  obtain ⟨LZ, -, -, -, -, -, zp, zs, zn, zg, zr, ⟨vz, zv, zP⟩, -, -⟩ := QZ'
  have rrx := LX.2.2.2.2.2.2.2.1
  have rry := LY.2.2.2.2.2.2.2.1
  have rrz := LZ.2.2.2.2.2.2.2.1
  rw [xv] at xp
  rw [yv] at yp
  rw [zv] at zp
  have hzx : ¬ x + 1 = 0 := by omega
  have hzy : ¬ y + 1 = 0 := by omega
  have hzz : ¬ z + 1 = 0 := by omega
  have hix := cninb (i := x) (n := 44) (by omega) (by omega)
  have hiy := cninb (i := y) (n := 44) (by omega) (by omega)
  have hiz := cninb (i := z) (n := 44) (by omega) (by omega)
  have dneb : ∀ {i j b c : Nat}, b < 6 → c < 6 → ¬ b = c → q.1 13 16 i = cn b → q.1 13 16 j = cn c → ¬ i = j := by
    intro i j b c hb hc hne h h' e
    rw [e, h', cneq ⟨by omega, by omega⟩ ⟨by omega, by omega⟩] at h
    omega
  have d1 : ¬ y = x := dneb h16 hs6 (by omega) Y4 X4
  have d2 : ¬ z = x := dneb h26 hs6 (by omega) Z4 X4
  have d3 : ¬ z = y := dneb h26 h16 (by omega) Z4 Y4
  have xP1 := xP.1
  have xP2 := xP.2.1
  have yP1 := yP.1
  have yP2 := yP.2.1
  have zP1 := zP.1
  have zP2 := zP.2.1
  obtain ⟨⟨gB1, gD1, gD1'⟩, eB1, eB1', pB1⟩ := bar_eq H h16 x1 y1 LX LY (v := vy) ⟨by omega, by omega⟩
  obtain ⟨⟨gB2, gD2, gD2'⟩, eB2, eB2', pB2⟩ := bar_eq H h26 x1 z1 LX LZ (v := vz) ⟨by omega, by omega⟩
  have gsx := g_showsNow (q := q) (i := x) (by omega)
  have gsy := g_showsNow (q := q) (i := y) (by omega)
  have gsz := g_showsNow (q := q) (i := z) (by omega)
  -- what they can
  generalize hn : min (sw q x) (min (sw q y) (sw q z)) = n
  have hn1 : 1 ≤ n ∧ n ≤ sw q x ∧ n ≤ sw q y ∧ n ≤ sw q z := by omega
  have m1 : v14_min_7cf53 p (cn (sw q y)) (cn (sw q z)) = cn (min (sw q y) (sw q z)) := min_cn p ⟨by omega, by omega⟩ ⟨by omega, by omega⟩
  have m2 : v14_min_7cf53 p (cn (sw q x)) (cn (min (sw q y) (sw q z))) = cn n := by rw [min_cn p ⟨by omega, by omega⟩ ⟨by omega, by omega⟩, hn]
  have m3 : v12_least q (cn (sw q y)) (cn (sw q z)) = cn (min (sw q y) (sw q z)) := least_cn q ⟨by omega, by omega⟩ ⟨by omega, by omega⟩
  have m4 : v12_least q (cn (sw q x)) (cn (min (sw q y) (sw q z))) = cn n := by rw [least_cn q ⟨by omega, by omega⟩ ⟨by omega, by omega⟩, hn]
  have gm1 := g_min p (cn (sw q y)) (cn (sw q z))
  have gm2 := g_min p (cn (sw q x)) (cn (min (sw q y) (sw q z)))
  have gm3 := g_least q (cn (sw q y)) (cn (sw q z))
  have gm4 := g_least q (cn (sw q x)) (cn (min (sw q y) (sw q z)))
  -- how far both come
  have gap : (cn vx < cn vy - cn vz) = (vx < vy - vz) := by
    rw [cnsub, cnlt ⟨by omega, by omega⟩ ⟨by omega, by omega⟩]
  have eC2 : v3_makePair p (cn s) (cn 1) = (if vx < vy - vz then (cn 0, p) else v3_makePair_162 p (cn 1) (B1 + 1) (B2 + 1) (x + 1) (y + 1) (z + 1)) ∧ ((¬ (vx < vy - vz) → g3_makePair_162 p (cn 1) (B1 + 1) (B2 + 1) (x + 1) (y + 1) (z + 1)) → g3_makePair p (cn s) (cn 1)) := by
    refine ⟨?_, fun h => eC.2 ?_⟩
    · rw [eC.1]
      unfold v3_makePair_86 bv3_makePair_86
      simp only [X1, Y1, Z1, if_neg hzx, if_neg hzy, if_neg hzz, xp, yp, zp, if_neg cn01, gap]
      split <;> rfl
    · unfold g3_makePair_86 bg3_makePair_86
      simp only [X1, Y1, Z1, if_neg hzx, if_neg hzy, if_neg hzz, xp, yp, zp, if_neg cn01, gap]
      refine ⟨gfY, gfZ, hzy, hzz, hzx, ?_⟩
      by_cases k : vx < vy - vz
      · simp only [if_pos k]
        trivial
      · simp only [if_neg k]
        exact h k
  have eQ2 : v12_joins q (cn s) (cn 1) = (if vx < vy - vz then (cn 0, q) else v12_joins_119 q (cn 1) (cn B1) (cn x) (cn y) (cn z) (cn vy) (cn vz) (cn 1)) ∧ ((¬ (vx < vy - vz) → g12_joins_119 q (cn 1) (cn B1) (cn x) (cn y) (cn z) (cn vy) (cn vz) (cn 1)) → g12_joins q (cn s) (cn 1)) := by
    refine ⟨?_, fun h => ?_⟩
    · unfold v12_joins bv12_joins
      simp only [e4, e5, X2, Y2, Z2, if_neg (cnge (j := x) (by omega)), if_neg (cnge (j := y) (by omega)), if_neg (cnge (j := z) (by omega)), cntk (i := x) (by omega), cntk (i := y) (by omega), cntk (i := z) (by omega), xv, yv, zv, if_neg cn01, gap]
      split
      · unfold v12_joins_119 bv12_joins_119
        rw [if_pos cn0e']
        rfl
      · rfl
    · unfold g12_joins bg12_joins
      simp only [e4, e5, X2, Y2, Z2, if_neg (cnge (j := x) (by omega)), if_neg (cnge (j := y) (by omega)), if_neg (cnge (j := z) (by omega)), cntk (i := x) (by omega), cntk (i := y) (by omega), cntk (i := z) (by omega), xv, yv, zv, if_neg cn01, gap]
      refine ⟨g_firstQ hs6 _, gqY, gqZ, hix, hiy, hiz, ?_⟩
      by_cases k : vx < vy - vz
      · simp only [if_pos k]
        unfold g12_joins_119 bg12_joins_119
        rw [if_pos cn0e']
        trivial
      · simp only [if_neg k]
        exact h k
  by_cases c3 : vx < vy - vz
  · rw [if_pos c3] at eC2 eQ2
    exact ⟨⟨eC2.2 fun h => absurd c3 h, eQ2.2 fun h => absurd c3 h⟩, Or.inl ⟨eC2.1, eQ2.1⟩⟩
  rw [if_neg c3] at eC2 eQ2
  -- what bars it
  by_cases c4 : v3_isBarred p (B1 + 1) (cn vy) (x + 1) (y + 1) = 0
  case neg =>
    have k1 : v12_canDeal q (cn B1) (cn x) (cn y) (cn vy) = 0 := by
      by_cases h : v12_canDeal q (cn B1) (cn x) (cn y) (cn vy) = 0
      · exact h
      · exact absurd (eB1 ▸ h) c4
    refine ⟨⟨eC2.2 fun _ => ?_, eQ2.2 fun _ => ?_⟩, Or.inl ⟨?_, ?_⟩⟩
    · unfold g3_makePair_162 bg3_makePair_162
      simp only [yp, if_neg c4]
      exact ⟨hzy, gB1, trivial⟩
    · unfold g12_joins_119 bg12_joins_119
      simp only [if_neg cn01, if_neg cn01, if_pos k1]
      exact ⟨gD1, trivial⟩
    · rw [eC2.1]
      unfold v3_makePair_162 bv3_makePair_162
      simp only [yp, if_neg c4]
    · rw [eQ2.1]
      unfold v12_joins_119 bv12_joins_119
      simp only [if_neg cn01, if_neg cn01, if_pos k1]
      rfl
  have k1 : ¬ v12_canDeal q (cn B1) (cn x) (cn y) (cn vy) = 0 := eB1 ▸ c4
  by_cases c5 : v3_isBarred p (B2 + 1) (cn vz) (x + 1) (z + 1) = 0
  case neg =>
    have k2 : v12_canDeal q (cn B2) (cn z) (cn x) (cn vz) = 0 := by
      by_cases h : v12_canDeal q (cn B2) (cn z) (cn x) (cn vz) = 0
      · exact h
      · exact absurd (eB2' ▸ h) c5
    refine ⟨⟨eC2.2 fun _ => ?_, eQ2.2 fun _ => ?_⟩, Or.inl ⟨?_, ?_⟩⟩
    · unfold g3_makePair_162 bg3_makePair_162
      simp only [yp, zp, if_pos c4, if_neg c5]
      exact ⟨hzy, gB1, hzz, gB2, trivial⟩
    · unfold g12_joins_119 bg12_joins_119
      simp only [if_neg cn01, if_neg cn01, if_neg k1, e5, if_pos k2]
      exact ⟨gD1, gD2', trivial⟩
    · rw [eC2.1]
      unfold v3_makePair_162 bv3_makePair_162
      simp only [yp, zp, if_pos c4, if_neg c5]
    · rw [eQ2.1]
      unfold v12_joins_119 bv12_joins_119
      simp only [if_neg cn01, if_neg cn01, if_neg k1, e5, if_pos k2]
      rfl
  have k2 : ¬ v12_canDeal q (cn B2) (cn z) (cn x) (cn vz) = 0 := eB2' ▸ c5
  -- it is made
  have hRS0 := (RS_rng H.1.1 40 (by decide)).1
  have hRS3 := (rs_live H x1 X3.1)
  obtain ⟨P1, P2, Q1, Q2, ⟨i1, i2, i3, i4⟩, ⟨i5, i6, i7, i8⟩, ⟨i9, i10, i11⟩, ⟨i12, i13, i14, i15, i16⟩, T2, t1, t2, W, R⟩ := pair_do (n := n) (b1 := B1) (b2 := B2) (z1 := vy) (z2 := vz) (A1 := ax) (C1 := ay) (A2 := az) (C2 := ax) H hn1.1 (by omega) (rdy_of x1 QX hn1.2.1) (rdy_of y1 QY hn1.2.2.1) (rdy_of z1 QZ hn1.2.2.2) d1 d2 d3 h16 h26 LX.1.1 LY.1.1 LZ.1.1 LX.1.1 (pB1 c4) (pB2 c5) (by omega) (by omega)
  have ox : p.2.2 10 (x + 1) 3 = ax + 1 := LX.1.2.2
  have oy : p.2.2 10 (y + 1) 3 = ay + 1 := LY.1.2.2
  have oz : p.2.2 10 (z + 1) 3 = az + 1 := LZ.1.2.2
  have qx : q.1 13 15 x = cn ax := LX.1.2.1
  have qy : q.1 13 15 y = cn ay := LY.1.2.1
  have qz : q.1 13 15 z = cn az := LZ.1.2.1
  have rc1 : v3_record p (B1 + 1) (cn 1) (x + 1) (y + 1) (cn vy) (cn n) = P1 ∧ g3_record p (B1 + 1) (cn 1) (x + 1) (y + 1) (cn vy) (cn n) := by
    unfold v3_record bv3_record g3_record bg3_record
    simp only [if_neg cn01, ox, oy]
    exact ⟨i1, hzx, hzy, i5, trivial⟩
  have rc2 : v3_record P1 (B2 + 1) (cn 0) (x + 1) (z + 1) (cn vz) (cn n) = P2 ∧ g3_record P1 (B2 + 1) (cn 0) (x + 1) (z + 1) (cn vz) (cn n) := by
    unfold v3_record bv3_record g3_record bg3_record
    simp only [if_pos cn0e', i10, ox, oz]
    exact ⟨i2, hzz, hzx, i6, trivial⟩
  have p7z : P1.1 10 (z + 1) 7 = cn vz := by rw [i9]; exact zp
  refine ⟨⟨eC2.2 fun _ => ?_, eQ2.2 fun _ => ?_⟩, Or.inr ⟨_, _, T2, D + 2, ?_, ?_, ⟨t1, by omega⟩, W, by omega, by omega, by omega⟩⟩
  · unfold g3_makePair_162 bg3_makePair_162
    simp only [yp, zp, if_pos c4, if_pos c5, xs, ys, zs, m1, m2, rc1.1, if_neg cn01, p7z, rc2.1]
    exact ⟨hzy, gB1, hzz, gB2, hzx, hzy, hzz, gm1, gm2, hzy, rc1.2, hzz, rc2.2, i12, trivial⟩
  · unfold g12_joins_119 bg12_joins_119 g12_joins_258 bg12_joins_258
    simp only [if_neg cn01, if_neg cn01, if_neg k1, e5, if_neg k2, xn, yn, zn, m3, m4, cntk (i := x) (by omega), cntk (i := y) (by omega), cntk (i := z) (by omega), qx, qy, qz, i3, i11, i4]
    have e16 := i16
    unfold gdH gdH gdH gdH at e16
    exact ⟨gD1, gD2', gsx, gsy, gsz, gm3, gm4, hix, hiy, i7, hiz, hix, i8, i13, i14, i15, e16.1, e16.2.1, e16.2.2.1, trivial⟩
  · rw [eC2.1]
    unfold v3_makePair_162 bv3_makePair_162
    simp only [yp, zp, if_pos c4, if_pos c5, xs, ys, zs, m1, m2, rc1.1, if_neg cn01, p7z, rc2.1]
  · rw [eQ2.1]
    unfold v12_joins_119 bv12_joins_119 v12_joins_258 bv12_joins_258
    simp only [if_neg cn01, if_neg cn01, if_neg k1, e5, if_neg k2, xn, yn, zn, m3, m4, cntk (i := x) (by omega), cntk (i := y) (by omega), cntk (i := z) (by omega), qx, qy, qz, i3, i11, i4]
    rfl
theorem pair_s {s B1 B2 : Nat} (H : WW p q lg 99 99 (fun _ => False) N T D l (fun _ => 0)) (hs : s = B1 + 4) (hs2 : B2 = B1 + 1) (hB1 : B1 ≤ 1) (hT : T + RS q 40 + 3 ≤ 1000000000) (hD : D + RS q 40 + 3 ≤ 1000000000) : (g3_makePair p (cn s) (cn 0) ∧ g12_joins q (cn s) (cn 0)) ∧ CombR p q lg N T D l (v3_makePair p (cn s) (cn 0)) (v12_joins q (cn s) (cn 0)) := by
  have hs6 : s < 6 := by omega
  have h16 : B1 < 6 := by omega
  have h26 : B2 < 6 := by omega
  have hzs : ¬ s + 1 = 0 := by omega
  have hz1 : ¬ B1 + 1 = 0 := by omega
  have hz2 : ¬ B2 + 1 = 0 := by omega
  have hK := H.2.2.2.2.1
  have bs := book_e p hs6
  have gbs := g_book p hs6
  have c1 : p.1 1 (s + 1) 1 = cn B1 := by
    rw [(hK.2 s hs6).2.1, if_neg (by omega)]
    exact congrArg cn (by omega)
  have c2 : p.1 1 (s + 1) 2 = cn B2 := by
    rw [(hK.2 s hs6).2.2, if_neg (by omega)]
    exact congrArg cn (by omega)
  have b1 := book_e p h16
  have gb1 := g_book p h16
  have b2 := book_e p h26
  have gb2 := g_book p h26
  have os := open_eq hs6 H.2.2.1
  have o1 := open_eq h16 H.2.2.1
  have o2 := open_eq h26 H.2.2.1
  have e4 : cn (s : Int) - cn 4 = cn (B1 : Int) := by
    rw [cnsub]
    exact congrArg cn (by omega)
  have e5 : cn (B1 : Int) + cn 1 = cn (B2 : Int) := by
    rw [cnadd]
    exact congrArg cn (by omega)
  have gfX := g_firstP p (s + 1) (cn 0)
  have gfY := g_firstP p (B1 + 1) (cn 1)
  have gfZ := g_firstP p (B2 + 1) (cn 0)
  have gqX := g_firstQ (q := q) hs6 (cn 0)
  have gqY := g_firstQ (q := q) h16 (cn 1)
  have gqZ := g_firstQ (q := q) h26 (cn 0)
  -- the reference
  have qno : (v12_firstOf q (cn s) (cn 0) < 0 ∨ v12_firstOf q (cn B1) (cn 1) < 0 ∨ v12_firstOf q (cn B2) (cn 0) < 0) → (∀ c : Int32, c = v12_firstOf q (cn s) (cn 0) ∨ c = v12_firstOf q (cn B1) (cn 1) ∨ c = v12_firstOf q (cn B2) (cn 0) → c < 0 ∨ inb c 44) → g12_joins q (cn s) (cn 0) ∧ v12_joins q (cn s) (cn 0) = (cn 0, q) := by
    intro h hin
    unfold v12_joins bv12_joins g12_joins bg12_joins
    simp only [if_pos cn0e', e4, e5]
    by_cases k1 : v12_firstOf q (cn s) (cn 0) < 0
    · simp only [if_pos k1]
      exact ⟨⟨gqX, gqY, gqZ, trivial⟩, rfl⟩
    · by_cases k2 : v12_firstOf q (cn B1) (cn 1) < 0
      · simp only [if_neg k1, if_pos k2]
        exact ⟨⟨gqX, gqY, gqZ, trivial⟩, rfl⟩
      · have k3 : v12_firstOf q (cn B2) (cn 0) < 0 := by
          rcases h with h | h | h
          · exact absurd h k1
          · exact absurd h k2
          · exact h
        simp only [if_neg k1, if_neg k2, if_pos k3]
        exact ⟨⟨gqX, gqY, gqZ, trivial⟩, rfl⟩
  have hcm : ∀ c : Int32, c = cn (-1) → c < 0 ∨ inb c 44 := fun c h => Or.inl (by rw [h]; exact cnm1)
  have hrf : ∀ {b : Nat} {t : Int32} {o : Nat} {c : Int32}, RefR q b t o c → c < 0 ∨ inb c 44 := by
    intro b t o c h
    rcases h with ⟨-, rfl⟩ | ⟨j, j1, -, rfl, -⟩
    · exact Or.inl cnm1
    · exact Or.inr (cninb (by omega) (by omega))
  have hin : ∀ c : Int32, c = v12_firstOf q (cn s) (cn 0) ∨ c = v12_firstOf q (cn B1) (cn 1) ∨ c = v12_firstOf q (cn B2) (cn 0) → c < 0 ∨ inb c 44 := by
    intro c h
    have one : ∀ {b : Nat} (hb : b < 6) (t : Int32), v12_firstOf q (cn b) t < 0 ∨ inb (v12_firstOf q (cn b) t) 44 := by
      intro b hb t
      by_cases ho : v12_isOpen q (cn b) = 0
      · exact hcm _ (firstQ_shut t ho)
      · exact hrf (first_eq hb H.1.1 H.1.2.2.1 t ho)
    rcases h with rfl | rfl | rfl
    · exact one hs6 _
    · exact one h16 _
    · exact one h26 _
  -- a book that is shut
  by_cases hos : v12_isOpen q (cn s) = 0
  · obtain ⟨k1, k2⟩ := qno (Or.inl (by rw [firstQ_shut _ hos]; exact cnm1)) hin
    have n1 : ¬ p.1 1 (s + 1) 5 = 0 := by
      rw [os]
      exact fun h => h hos
    refine ⟨⟨?_, k1⟩, Or.inl ⟨?_, k2⟩⟩
    · unfold g3_makePair bg3_makePair
      simp only [bs, c1, c2, b1, b2, if_neg n1]
      exact ⟨gbs, hzs, gb1, hzs, gb2, hzs, trivial⟩
    · unfold v3_makePair bv3_makePair
      simp only [bs, c1, c2, b1, b2, if_neg n1]
      rfl
  have n1 : p.1 1 (s + 1) 5 = 0 := by
    rw [os]
    exact hos
  by_cases ho1 : v12_isOpen q (cn B1) = 0
  · obtain ⟨k1, k2⟩ := qno (Or.inr (Or.inl (by rw [firstQ_shut _ ho1]; exact cnm1))) hin
    have n2 : ¬ p.1 1 (B1 + 1) 5 = 0 := by
      rw [o1]
      exact fun h => h ho1
    refine ⟨⟨?_, k1⟩, Or.inl ⟨?_, k2⟩⟩
    · unfold g3_makePair bg3_makePair
      simp only [bs, c1, c2, b1, b2, if_pos n1, if_neg n2]
      exact ⟨gbs, hzs, gb1, hzs, gb2, hzs, hz1, trivial⟩
    · unfold v3_makePair bv3_makePair
      simp only [bs, c1, c2, b1, b2, if_pos n1, if_neg n2]
      rfl
  have n2 : p.1 1 (B1 + 1) 5 = 0 := by
    rw [o1]
    exact ho1
  by_cases ho2 : v12_isOpen q (cn B2) = 0
  · obtain ⟨k1, k2⟩ := qno (Or.inr (Or.inr (by rw [firstQ_shut _ ho2]; exact cnm1))) hin
    have n3 : ¬ p.1 1 (B2 + 1) 5 = 0 := by
      rw [o2]
      exact fun h => h ho2
    refine ⟨⟨?_, k1⟩, Or.inl ⟨?_, k2⟩⟩
    · unfold g3_makePair bg3_makePair
      simp only [bs, c1, c2, b1, b2, if_pos n1, if_pos n2, if_neg n3]
      exact ⟨gbs, hzs, gb1, hzs, gb2, hzs, hz1, hz2, trivial⟩
    · unfold v3_makePair bv3_makePair
      simp only [bs, c1, c2, b1, b2, if_pos n1, if_pos n2, if_neg n3]
      rfl
  have n3 : p.1 1 (B2 + 1) 5 = 0 := by
    rw [o2]
    exact ho2
  have eC : v3_makePair p (cn s) (cn 0) = v3_makePair_86 p (cn 0) (B1 + 1) (B2 + 1) (v6_firstOf p (s + 1) (cn 0)) (cn 1) (B1 + 1) ∧ (g3_makePair_86 p (cn 0) (B1 + 1) (B2 + 1) (v6_firstOf p (s + 1) (cn 0)) (cn 1) (B1 + 1) → g3_makePair p (cn s) (cn 0)) := by
    unfold v3_makePair bv3_makePair g3_makePair bg3_makePair
    simp only [bs, c1, c2, b1, b2, if_pos n1, if_pos n2, if_pos n3, if_pos cn0e']
    exact ⟨trivial, fun h => ⟨gbs, hzs, gb1, hzs, gb2, hzs, hz1, hz2, gfX, h⟩⟩
  have rX := first_eq hs6 H.1.1 H.1.2.2.1 (cn 0) hos
  have rY := first_eq h16 H.1.1 H.1.2.2.1 (cn 1) ho1
  have rZ := first_eq h26 H.1.1 H.1.2.2.1 (cn 0) ho2
  have pno : (v6_firstOf p (s + 1) (cn 0) = 0 ∨ v6_firstOf p (B1 + 1) (cn 1) = 0 ∨ v6_firstOf p (B2 + 1) (cn 0) = 0) → g3_makePair p (cn s) (cn 0) ∧ v3_makePair p (cn s) (cn 0) = (cn 0, p) := by
    intro h
    have k : g3_makePair_86 p (cn 0) (B1 + 1) (B2 + 1) (v6_firstOf p (s + 1) (cn 0)) (cn 1) (B1 + 1) ∧ v3_makePair_86 p (cn 0) (B1 + 1) (B2 + 1) (v6_firstOf p (s + 1) (cn 0)) (cn 1) (B1 + 1) = (cn 0, p) := by
      unfold g3_makePair_86 bg3_makePair_86 v3_makePair_86 bv3_makePair_86
      by_cases k1 : v6_firstOf p (s + 1) (cn 0) = 0
      · simp only [if_pos k1]
        exact ⟨⟨gfY, gfZ, trivial⟩, rfl⟩
      · by_cases k2 : v6_firstOf p (B1 + 1) (cn 1) = 0
        · simp only [if_neg k1, if_pos k2]
          exact ⟨⟨gfY, gfZ, trivial⟩, rfl⟩
        · have k3 : v6_firstOf p (B2 + 1) (cn 0) = 0 := by
            rcases h with h | h | h
            · exact absurd h k1
            · exact absurd h k2
            · exact h
          simp only [if_neg k1, if_neg k2, if_pos k3]
          exact ⟨⟨gfY, gfZ, trivial⟩, rfl⟩
    exact ⟨eC.2 k.1, by rw [eC.1, k.2]⟩
  rcases rX with ⟨X1, X2⟩ | ⟨x, x1, X1, X2, X3, X4, X5⟩
  · obtain ⟨k1, k2⟩ := qno (Or.inl (by rw [X2]; exact cnm1)) hin
    obtain ⟨k3, k4⟩ := pno (Or.inl X1)
    exact ⟨⟨k3, k1⟩, Or.inl ⟨k4, k2⟩⟩
  rcases rY with ⟨Y1, Y2⟩ | ⟨y, y1, Y1, Y2, Y3, Y4, Y5⟩
  · obtain ⟨k1, k2⟩ := qno (Or.inr (Or.inl (by rw [Y2]; exact cnm1))) hin
    obtain ⟨k3, k4⟩ := pno (Or.inr (Or.inl Y1))
    exact ⟨⟨k3, k1⟩, Or.inl ⟨k4, k2⟩⟩
  rcases rZ with ⟨Z1, Z2⟩ | ⟨z, z1, Z1, Z2, Z3, Z4, Z5⟩
  · obtain ⟨k1, k2⟩ := qno (Or.inr (Or.inr (by rw [Z2]; exact cnm1))) hin
    obtain ⟨k3, k4⟩ := pno (Or.inr (Or.inr Z1))
    exact ⟨⟨k3, k1⟩, Or.inl ⟨k4, k2⟩⟩
  -- three orders
  obtain ⟨ax, rx, sx, lx, QX⟩ := st_inv H x1 hs6 X3 X4 X5 hos
  obtain ⟨ay, ry, sy, ly, QY⟩ := st_inv H y1 h16 Y3 Y4 Y5 ho1
  obtain ⟨az, rz, sz, lz, QZ⟩ := st_inv H z1 h26 Z3 Z4 Z5 ho2
  have QX' := QX
  have QY' := QY
  have QZ' := QZ
  obtain ⟨LX, -, -, -, -, -, xp, xs, xn, xg, xr, ⟨vx, xv, xP⟩, -, -⟩ := QX'
  obtain ⟨LY, -, -, -, -, -, yp, ys, yn, yg, yr, ⟨vy, yv, yP⟩, -, -⟩ := QY'
  obtain ⟨LZ, -, -, -, -, -, zp, zs, zn, zg, zr, ⟨vz, zv, zP⟩, -, -⟩ := QZ'
  have rrx := LX.2.2.2.2.2.2.2.1
  have rry := LY.2.2.2.2.2.2.2.1
  have rrz := LZ.2.2.2.2.2.2.2.1
  rw [xv] at xp
  rw [yv] at yp
  rw [zv] at zp
  have hzx : ¬ x + 1 = 0 := by omega
  have hzy : ¬ y + 1 = 0 := by omega
  have hzz : ¬ z + 1 = 0 := by omega
  have hix := cninb (i := x) (n := 44) (by omega) (by omega)
  have hiy := cninb (i := y) (n := 44) (by omega) (by omega)
  have hiz := cninb (i := z) (n := 44) (by omega) (by omega)
  have dneb : ∀ {i j b c : Nat}, b < 6 → c < 6 → ¬ b = c → q.1 13 16 i = cn b → q.1 13 16 j = cn c → ¬ i = j := by
    intro i j b c hb hc hne h h' e
    rw [e, h', cneq ⟨by omega, by omega⟩ ⟨by omega, by omega⟩] at h
    omega
  have d1 : ¬ y = x := dneb h16 hs6 (by omega) Y4 X4
  have d2 : ¬ z = x := dneb h26 hs6 (by omega) Z4 X4
  have d3 : ¬ z = y := dneb h26 h16 (by omega) Z4 Y4
  have xP1 := xP.1
  have xP2 := xP.2.1
  have yP1 := yP.1
  have yP2 := yP.2.1
  have zP1 := zP.1
  have zP2 := zP.2.1
  obtain ⟨⟨gB1, gD1, gD1'⟩, eB1, eB1', pB1⟩ := bar_eq H h16 x1 y1 LX LY (v := vy) ⟨by omega, by omega⟩
  obtain ⟨⟨gB2, gD2, gD2'⟩, eB2, eB2', pB2⟩ := bar_eq H h26 x1 z1 LX LZ (v := vz) ⟨by omega, by omega⟩
  have gsx := g_showsNow (q := q) (i := x) (by omega)
  have gsy := g_showsNow (q := q) (i := y) (by omega)
  have gsz := g_showsNow (q := q) (i := z) (by omega)
  -- what they can
  generalize hn : min (sw q x) (min (sw q y) (sw q z)) = n
  have hn1 : 1 ≤ n ∧ n ≤ sw q x ∧ n ≤ sw q y ∧ n ≤ sw q z := by omega
  have m1 : v14_min_7cf53 p (cn (sw q y)) (cn (sw q z)) = cn (min (sw q y) (sw q z)) := min_cn p ⟨by omega, by omega⟩ ⟨by omega, by omega⟩
  have m2 : v14_min_7cf53 p (cn (sw q x)) (cn (min (sw q y) (sw q z))) = cn n := by rw [min_cn p ⟨by omega, by omega⟩ ⟨by omega, by omega⟩, hn]
  have m3 : v12_least q (cn (sw q y)) (cn (sw q z)) = cn (min (sw q y) (sw q z)) := least_cn q ⟨by omega, by omega⟩ ⟨by omega, by omega⟩
  have m4 : v12_least q (cn (sw q x)) (cn (min (sw q y) (sw q z))) = cn n := by rw [least_cn q ⟨by omega, by omega⟩ ⟨by omega, by omega⟩, hn]
  have gm1 := g_min p (cn (sw q y)) (cn (sw q z))
  have gm2 := g_min p (cn (sw q x)) (cn (min (sw q y) (sw q z)))
  have gm3 := g_least q (cn (sw q y)) (cn (sw q z))
  have gm4 := g_least q (cn (sw q x)) (cn (min (sw q y) (sw q z)))
  -- how far both come
  have gap : (cn vy - cn vz < cn vx) = (vy - vz < vx) := by
    rw [cnsub, cnlt ⟨by omega, by omega⟩ ⟨by omega, by omega⟩]
  have eC2 : v3_makePair p (cn s) (cn 0) = (if vy - vz < vx then (cn 0, p) else v3_makePair_162 p (cn 0) (B1 + 1) (B2 + 1) (x + 1) (y + 1) (z + 1)) ∧ ((¬ (vy - vz < vx) → g3_makePair_162 p (cn 0) (B1 + 1) (B2 + 1) (x + 1) (y + 1) (z + 1)) → g3_makePair p (cn s) (cn 0)) := by
    refine ⟨?_, fun h => eC.2 ?_⟩
    · rw [eC.1]
      unfold v3_makePair_86 bv3_makePair_86
      simp only [X1, Y1, Z1, if_neg hzx, if_neg hzy, if_neg hzz, xp, yp, zp, if_pos cn0e', gap]
      split <;> rfl
    · unfold g3_makePair_86 bg3_makePair_86
      simp only [X1, Y1, Z1, if_neg hzx, if_neg hzy, if_neg hzz, xp, yp, zp, if_pos cn0e', gap]
      refine ⟨gfY, gfZ, hzy, hzz, hzx, ?_⟩
      by_cases k : vy - vz < vx
      · simp only [if_pos k]
        trivial
      · simp only [if_neg k]
        exact h k
  have eQ2 : v12_joins q (cn s) (cn 0) = (if vy - vz < vx then (cn 0, q) else v12_joins_119 q (cn 0) (cn B1) (cn x) (cn y) (cn z) (cn vy) (cn vz) (cn 1)) ∧ ((¬ (vy - vz < vx) → g12_joins_119 q (cn 0) (cn B1) (cn x) (cn y) (cn z) (cn vy) (cn vz) (cn 1)) → g12_joins q (cn s) (cn 0)) := by
    refine ⟨?_, fun h => ?_⟩
    · unfold v12_joins bv12_joins
      simp only [e4, e5, X2, Y2, Z2, if_neg (cnge (j := x) (by omega)), if_neg (cnge (j := y) (by omega)), if_neg (cnge (j := z) (by omega)), cntk (i := x) (by omega), cntk (i := y) (by omega), cntk (i := z) (by omega), xv, yv, zv, if_pos cn0e', gap]
      split
      · unfold v12_joins_119 bv12_joins_119
        rw [if_pos cn0e']
        rfl
      · rfl
    · unfold g12_joins bg12_joins
      simp only [e4, e5, X2, Y2, Z2, if_neg (cnge (j := x) (by omega)), if_neg (cnge (j := y) (by omega)), if_neg (cnge (j := z) (by omega)), cntk (i := x) (by omega), cntk (i := y) (by omega), cntk (i := z) (by omega), xv, yv, zv, if_pos cn0e', gap]
      refine ⟨g_firstQ hs6 _, gqY, gqZ, hix, hiy, hiz, ?_⟩
      by_cases k : vy - vz < vx
      · simp only [if_pos k]
        unfold g12_joins_119 bg12_joins_119
        rw [if_pos cn0e']
        trivial
      · simp only [if_neg k]
        exact h k
  by_cases c3 : vy - vz < vx
  · rw [if_pos c3] at eC2 eQ2
    exact ⟨⟨eC2.2 fun h => absurd c3 h, eQ2.2 fun h => absurd c3 h⟩, Or.inl ⟨eC2.1, eQ2.1⟩⟩
  rw [if_neg c3] at eC2 eQ2
  -- what bars it
  by_cases c4 : v3_isBarred p (B1 + 1) (cn vy) (x + 1) (y + 1) = 0
  case neg =>
    have k1 : v12_canDeal q (cn B1) (cn y) (cn x) (cn vy) = 0 := by
      by_cases h : v12_canDeal q (cn B1) (cn y) (cn x) (cn vy) = 0
      · exact h
      · exact absurd (eB1' ▸ h) c4
    refine ⟨⟨eC2.2 fun _ => ?_, eQ2.2 fun _ => ?_⟩, Or.inl ⟨?_, ?_⟩⟩
    · unfold g3_makePair_162 bg3_makePair_162
      simp only [yp, if_neg c4]
      exact ⟨hzy, gB1, trivial⟩
    · unfold g12_joins_119 bg12_joins_119
      simp only [if_neg cn01, if_pos cn0e', if_pos k1]
      exact ⟨gD1', trivial⟩
    · rw [eC2.1]
      unfold v3_makePair_162 bv3_makePair_162
      simp only [yp, if_neg c4]
    · rw [eQ2.1]
      unfold v12_joins_119 bv12_joins_119
      simp only [if_neg cn01, if_pos cn0e', if_pos k1]
      rfl
  have k1 : ¬ v12_canDeal q (cn B1) (cn y) (cn x) (cn vy) = 0 := eB1' ▸ c4
  by_cases c5 : v3_isBarred p (B2 + 1) (cn vz) (x + 1) (z + 1) = 0
  case neg =>
    have k2 : v12_canDeal q (cn B2) (cn x) (cn z) (cn vz) = 0 := by
      by_cases h : v12_canDeal q (cn B2) (cn x) (cn z) (cn vz) = 0
      · exact h
      · exact absurd (eB2 ▸ h) c5
    refine ⟨⟨eC2.2 fun _ => ?_, eQ2.2 fun _ => ?_⟩, Or.inl ⟨?_, ?_⟩⟩
    · unfold g3_makePair_162 bg3_makePair_162
      simp only [yp, zp, if_pos c4, if_neg c5]
      exact ⟨hzy, gB1, hzz, gB2, trivial⟩
    · unfold g12_joins_119 bg12_joins_119
      simp only [if_neg cn01, if_pos cn0e', if_neg k1, e5, if_pos k2]
      exact ⟨gD1', gD2, trivial⟩
    · rw [eC2.1]
      unfold v3_makePair_162 bv3_makePair_162
      simp only [yp, zp, if_pos c4, if_neg c5]
    · rw [eQ2.1]
      unfold v12_joins_119 bv12_joins_119
      simp only [if_neg cn01, if_pos cn0e', if_neg k1, e5, if_pos k2]
      rfl
  have k2 : ¬ v12_canDeal q (cn B2) (cn x) (cn z) (cn vz) = 0 := eB2 ▸ c5
  -- it is made
  have hRS0 := (RS_rng H.1.1 40 (by decide)).1
  have hRS3 := (rs_live H x1 X3.1)
  obtain ⟨P1, P2, Q1, Q2, ⟨i1, i2, i3, i4⟩, ⟨i5, i6, i7, i8⟩, ⟨i9, i10, i11⟩, ⟨i12, i13, i14, i15, i16⟩, T2, t1, t2, W, R⟩ := pair_do (n := n) (b1 := B1) (b2 := B2) (z1 := vy) (z2 := vz) (A1 := ay) (C1 := ax) (A2 := ax) (C2 := az) H hn1.1 (by omega) (rdy_of x1 QX hn1.2.1) (rdy_of y1 QY hn1.2.2.1) (rdy_of z1 QZ hn1.2.2.2) d1 d2 d3 h16 h26 LY.1.1 LX.1.1 LX.1.1 LZ.1.1 (pB1 c4) (pB2 c5) (by omega) (by omega)
  have ox : p.2.2 10 (x + 1) 3 = ax + 1 := LX.1.2.2
  have oy : p.2.2 10 (y + 1) 3 = ay + 1 := LY.1.2.2
  have oz : p.2.2 10 (z + 1) 3 = az + 1 := LZ.1.2.2
  have qx : q.1 13 15 x = cn ax := LX.1.2.1
  have qy : q.1 13 15 y = cn ay := LY.1.2.1
  have qz : q.1 13 15 z = cn az := LZ.1.2.1
  have rc1 : v3_record p (B1 + 1) (cn 0) (x + 1) (y + 1) (cn vy) (cn n) = P1 ∧ g3_record p (B1 + 1) (cn 0) (x + 1) (y + 1) (cn vy) (cn n) := by
    unfold v3_record bv3_record g3_record bg3_record
    simp only [if_pos cn0e', ox, oy]
    exact ⟨i1, hzy, hzx, i5, trivial⟩
  have rc2 : v3_record P1 (B2 + 1) (cn 1) (x + 1) (z + 1) (cn vz) (cn n) = P2 ∧ g3_record P1 (B2 + 1) (cn 1) (x + 1) (z + 1) (cn vz) (cn n) := by
    unfold v3_record bv3_record g3_record bg3_record
    simp only [if_neg cn01, i10, ox, oz]
    exact ⟨i2, hzx, hzz, i6, trivial⟩
  have p7z : P1.1 10 (z + 1) 7 = cn vz := by rw [i9]; exact zp
  refine ⟨⟨eC2.2 fun _ => ?_, eQ2.2 fun _ => ?_⟩, Or.inr ⟨_, _, T2, D + 2, ?_, ?_, ⟨t1, by omega⟩, W, by omega, by omega, by omega⟩⟩
  · unfold g3_makePair_162 bg3_makePair_162
    simp only [yp, zp, if_pos c4, if_pos c5, xs, ys, zs, m1, m2, rc1.1, if_pos cn0e', p7z, rc2.1]
    exact ⟨hzy, gB1, hzz, gB2, hzx, hzy, hzz, gm1, gm2, hzy, rc1.2, hzz, rc2.2, i12, trivial⟩
  · unfold g12_joins_119 bg12_joins_119 g12_joins_258 bg12_joins_258
    simp only [if_neg cn01, if_pos cn0e', if_neg k1, e5, if_neg k2, xn, yn, zn, m3, m4, cntk (i := x) (by omega), cntk (i := y) (by omega), cntk (i := z) (by omega), qx, qy, qz, i3, i11, i4]
    have e16 := i16
    unfold gdH gdH gdH gdH at e16
    exact ⟨gD1', gD2, gsx, gsy, gsz, gm3, gm4, hiy, hix, i7, hix, hiz, i8, i13, i14, i15, e16.1, e16.2.1, e16.2.2.1, trivial⟩
  · rw [eC2.1]
    unfold v3_makePair_162 bv3_makePair_162
    simp only [yp, zp, if_pos c4, if_pos c5, xs, ys, zs, m1, m2, rc1.1, if_pos cn0e', p7z, rc2.1]
  · rw [eQ2.1]
    unfold v12_joins_119 bv12_joins_119 v12_joins_258 bv12_joins_258
    simp only [if_neg cn01, if_pos cn0e', if_neg k1, e5, if_neg k2, xn, yn, zn, m3, m4, cntk (i := x) (by omega), cntk (i := y) (by omega), cntk (i := z) (by omega), qx, qy, qz, i3, i11, i4]
    rfl
end Pair
