/-! every peg in its turn -/
theorem g_pegPrice {p : PM} {j b : Nat} (hb : b < 6) (hK : CK p) (b3 : p.2.2 10 (j + 1) 4 = b + 1) : g6_pegPrice p (j + 1) := by
  have hzj : ¬ j + 1 = 0 := by omega
  have hzb : ¬ b + 1 = 0 := by omega
  have gph : ∀ v, g1_hasPrice p (b + 1) v := fun v => by
    rw [cn_of v]
    exact (price_e (q := p) hb hK (I_rg v)).1.1
  unfold g6_pegPrice bg6_pegPrice
  rw [b3]
  have gbe := g_bestP p (b + 1) (p.1 10 (j + 1) 5) (cn 0)
  have hee : (cn (-100000) : Int32) = cn (-100000) := rfl
  generalize v6_bestPrice p (b + 1) (p.1 10 (j + 1) 5) (cn 0) = X
  generalize g6_bestPrice p (b + 1) (p.1 10 (j + 1) 5) (cn 0) = GX at gbe
  refine ⟨hzj, hzb, ?_⟩
  simp only [if_pos hee]
  repeat' first
    | with_reducible exact hzj
    | with_reducible exact hzb
    | with_reducible exact gbe
    | with_reducible exact gph _
    | with_reducible exact g_max p _ _
    | with_reducible exact g_min p _ _
    | exact trivial
    | exact not_false
    | apply And.intro
    | (split <;> rename_i h9 <;> first | simp only [if_neg h9, if_true, if_false] | simp only [if_pos h9, if_true, if_false] | skip)
section Peg
variable {p q : PM} {lg : Nat → Int32} {N T D l : Nat}
theorem peg_what {j a b : Nat} {r s z : Int} (H : WW p q lg 99 99 (fun _ => False) N T D l (fun _ => 0)) (hj : j < 40) (hL : LV p q 99 99 j a b r s z) (hk : q.1 13 19 j = cn 2) : (g6_pegPrice p (j + 1) ∧ g12_pegs q (cn j)) ∧ ((v6_pegPrice p (j + 1) = cn (-100000) ∧ v12_pegs q (cn j) = pI q 13 24 j (cn 2)) ∨ ∃ v : Int, PrB b v ∧ ¬ v12_isOpen q (cn b) = 0 ∧ v6_pegPrice p (j + 1) = cn v ∧ v12_pegs q (cn j) = (if q.1 13 24 j = cn 1 then (if q.1 13 25 j = cn v then q else v12_newTurn (pI (pI q 13 24 j (cn 1)) 13 25 j (cn v)) (cn j)) else v12_newTurn (pI (pI q 13 24 j (cn 1)) 13 25 j (cn v)) (cn j))) := by
  obtain ⟨hb, b2, b3⟩ := hL.2.1
  obtain ⟨k5, o, o1, o2, o3, o4⟩ := hL.2.2.2.2.2.2.2.2.2.1 hk
  obtain ⟨l1, l2⟩ := hL.2.2.2.2.2.1
  obtain ⟨d1, d2⟩ := hL.2.2.2.2.1
  have hz : PrB b z ∧ q.1 13 18 j = cn z := by
    rcases l2 with ⟨h, -⟩ | ⟨-, h1, h2⟩
    · rw [k5] at h
      exact absurd h.symm cn01
    · exact ⟨h1, h2⟩
  obtain ⟨hz, h18⟩ := hz
  have z1 := hz.1
  have z2 := hz.2.1
  have hzj : ¬ j + 1 = 0 := by omega
  have hzb : ¬ b + 1 = 0 := by omega
  have hij := cninb (i := j) (n := 44) (by omega) (by omega)
  have gop : g12_isOpen q (cn b) := g_open hb
  have hop := open_eq hb H.2.2.1
  have gph : ∀ v, g1_hasPrice p (b + 1) v ∧ g12_isPrice q (cn b) v := fun v => by
    rw [cn_of v]
    exact (price_e (q := q) hb H.2.2.2.2.1 (I_rg v)).1
  have gbe := g_bestP p (b + 1) (p.1 10 (j + 1) 5) (cn 0)
  have gbq := g_bestQ q (cn b) (q.1 15 4 j) (cn 0)
  have ebe : v6_bestPrice p (b + 1) (q.1 15 4 j) (cn 0) = v12_bestOf q (cn b) (q.1 15 4 j) (cn 0) := best_eq hb H.1.1 (q.1 15 4 j) (cn 0)
  have hee : (cn (-100000) : Int32) = cn (-100000) := rfl
  have gP : g6_pegPrice p (j + 1) := g_pegPrice hb H.2.2.2.2.1 b3
  by_cases ho : v12_isOpen q (cn b) = 0
  · -- shut
    have np : ¬ p.1 1 (b + 1) 5 = 0 := by
      rw [hop]
      exact fun h => h ho
    obtain ⟨w1, w2⟩ := peg_none (q := q) (b := b) hj (cn b)
    refine ⟨⟨gP, ?_⟩, Or.inl ⟨?_, ?_⟩⟩
    · unfold g12_pegs bg12_pegs
      simp only [cntk (i := j) (by omega), b2, if_pos ho, if_true]
      exact ⟨hij, gop, w2⟩
    · unfold v6_pegPrice bv6_pegPrice
      simp only [b3, if_neg np, if_true]
    · unfold v12_pegs bv12_pegs
      simp only [cntk (i := j) (by omega), b2, if_pos ho, if_true]
      exact w1
  · have np : p.1 1 (b + 1) 5 = 0 := by
      rw [hop]
      exact ho
    have hbp := best_pr H hb (q.1 15 4 j)
    rcases hbp with hE | ⟨e, hE, he⟩
    · obtain ⟨w1, w2⟩ := peg_none (q := q) (b := b) hj (cn b)
      refine ⟨⟨gP, ?_⟩, Or.inl ⟨?_, ?_⟩⟩
      · unfold g12_pegs bg12_pegs
        simp only [cntk (i := j) (by omega), b2, if_neg ho, hE, if_true]
        exact ⟨hij, gop, hij, gbq, w2⟩
      · unfold v6_pegPrice bv6_pegPrice
        simp only [b3, if_pos np, d1, ebe, hE, if_true]
      · unfold v12_pegs bv12_pegs
        simp only [cntk (i := j) (by omega), b2, if_neg ho, hE, if_true]
        exact w1
    · have e1 := he.1
      have e2 := he.2.1
      have hne := pr_ne he
      -- the price wanted
      obtain ⟨v, hv1, hv2, hv3, hv4⟩ : ∃ v : Int, -99999 ≤ v ∧ v ≤ 99999 ∧ v6_pegPrice p (j + 1) = (if v1_hasPrice p (b + 1) (cn v) = 0 then cn (-100000) else cn v) ∧ (v12_pegs q (cn j) = pgR q j b v ∧ g12_pegs q (cn j)) := by
        by_cases ht : q.1 15 4 j = 0
        · obtain ⟨w1, w2⟩ := peg_72 (q := q) (s := e + o) (z := z) hj hb ⟨by omega, by omega⟩ hz h18 (fun v => (gph v).2)
          rw [if_pos ht] at w1
          have em : v14_max_7cf53 p (cn z) (cn e + cn o) = cn (if e + o < z then z else e + o) := by
            rw [cnadd, max_cn p ⟨by omega, by omega⟩ ⟨by omega, by omega⟩]
            congr 1
            split <;> split <;> omega
          refine ⟨if e + o < z then z else e + o, by split <;> omega, by split <;> omega, ?_, ?_, ?_⟩
          · unfold v6_pegPrice bv6_pegPrice
            simp only [b3, if_pos np, d1, ebe, hE, if_neg hne, if_pos ht, l1, o3, em]
          · unfold v12_pegs bv12_pegs
            simp only [cntk (i := j) (by omega), b2, if_neg ho, hE, if_neg hne, if_pos ht, o4, cnadd]
            exact w1
          · unfold g12_pegs bg12_pegs
            simp only [cntk (i := j) (by omega), b2, if_neg ho, hE, if_neg hne, if_pos ht, o4, cnadd]
            exact ⟨hij, gop, hij, gbq, hij, hij, w2⟩
        · obtain ⟨w1, w2⟩ := peg_72 (q := q) (s := e - o) (z := z) hj hb ⟨by omega, by omega⟩ hz h18 (fun v => (gph v).2)
          rw [if_neg ht] at w1
          have em : v14_min_7cf53 p (cn z) (cn e - cn o) = cn (if z < e - o then z else e - o) := by
            rw [cnsub, min_cn p ⟨by omega, by omega⟩ ⟨by omega, by omega⟩]
            congr 1
            split <;> omega
          refine ⟨if z < e - o then z else e - o, by split <;> omega, by split <;> omega, ?_, ?_, ?_⟩
          · unfold v6_pegPrice bv6_pegPrice
            simp only [b3, if_pos np, d1, ebe, hE, if_neg hne, if_neg ht, l1, o3, em]
          · unfold v12_pegs bv12_pegs
            simp only [cntk (i := j) (by omega), b2, if_neg ho, hE, if_neg hne, if_neg ht, o4, cnsub]
            exact w1
          · unfold g12_pegs bg12_pegs
            simp only [cntk (i := j) (by omega), b2, if_neg ho, hE, if_neg hne, if_neg ht, o4, cnsub]
            exact ⟨hij, gop, hij, gbq, hij, hij, w2⟩
      obtain ⟨-, f1, f2⟩ := price_e (p := p) (q := q) hb H.2.2.2.2.1 (z := v) ⟨by omega, by omega⟩
      refine ⟨⟨gP, hv4.2⟩, ?_⟩
      by_cases hp : PrB b v
      · have n1 : ¬ v1_hasPrice p (b + 1) (cn v) = 0 := by
          rw [f1]
          exact fun h => h hp
        have n2 : ¬ v12_isPrice q (cn b) (cn v) = 0 := by
          rw [f2]
          exact fun h => h hp
        refine Or.inr ⟨v, hp, ho, by rw [hv3, if_neg n1], ?_⟩
        rw [hv4.1]
        unfold pgR
        rw [if_neg n2]
      · have n1 : v1_hasPrice p (b + 1) (cn v) = 0 := by
          rw [f1]
          exact hp
        have n2 : v12_isPrice q (cn b) (cn v) = 0 := by
          rw [f2]
          exact hp
        refine Or.inl ⟨by rw [hv3, if_pos n1], ?_⟩
        rw [hv4.1]
        unfold pgR
        rw [if_pos n2]
theorem peg_one {j : Nat} (H : WW p q lg 99 99 (fun _ => False) N T D l (fun _ => 0)) (hj : j < 40) (hl : q.1 15 3 j = cn 1) (hk : q.1 13 19 j = cn 2) (hT : T + 1 ≤ 1000000000) : (g6_pegPrice p (j + 1) ∧ g6_movePeg p (j + 1) (v6_pegPrice p (j + 1)) ∧ g12_pegs q (cn j)) ∧ ∃ T', (T ≤ T' ∧ T' ≤ T + 1) ∧ WW (v6_movePeg p (j + 1) (v6_pegPrice p (j + 1))) (v12_pegs q (cn j)) lg 99 99 (fun _ => False) N T' D l (fun _ => 0) ∧ RS (v12_pegs q (cn j)) 40 = RS q 40 ∧ PgF j q (v12_pegs q (cn j)) ∧ ((v12_pegs q (cn j)).1 13 24 j = cn 1 → ¬ v12_isOpen q (q.1 13 16 j) = 0) := by
  obtain ⟨_, a, b, r, s, z, hL⟩ := slot_live (H.1.1.1 j hj) (by rw [hl]; exact cn01)
  obtain ⟨hb, b2, b3⟩ := hL.2.1
  obtain ⟨⟨g1, g2⟩, hw⟩ := peg_what H hj hL hk
  have gm := g_move p j (v6_pegPrice p (j + 1))
  refine ⟨⟨g1, gm, g2⟩, ?_⟩
  have hk3 : ¬ q.1 13 19 j = cn 1 := by
    rw [hk]
    decide
  rcases hw with ⟨w1, w2⟩ | ⟨v, hv, ho, w1, w2⟩
  · obtain ⟨W, R⟩ := ww_wait H hj hl hL hk
    have em : v6_movePeg p (j + 1) (cn (-100000)) = v10_hold p (j + 1) := by
      unfold v6_movePeg bv6_movePeg
      simp only [if_true]
    rw [w1, w2, em]
    refine ⟨T, ⟨Nat.le_refl _, by omega⟩, W, R, ⟨fun K hK => ?_, ?_, fun i hi => ?_⟩, fun h => ?_⟩
    · funext i
      rw [pI_1, u3_i (fun e => hK (Or.inr (Or.inl e)))]
    · funext i S
      simp (decide := true) only [pI_1, pI_J, pI_R, u3_same, u3_k, u3_i, u3_s, not_false_eq_true]
    · rw [pI_1, u3_s hi]
    · rw [pI_at] at h
      exact absurd h (by decide)
  · obtain ⟨W, R, F⟩ := ww_move H hj hl hL hk hv hT
    have hop : ¬ v12_isOpen q (q.1 13 16 j) = 0 := by
      rw [b2]
      exact ho
    rw [w1, w2, move_e (pr_ne hv)]
    rcases hL.2.2.2.2.2.2.2.2.2.2.2.2 with hs | hs | hs
    · omega
    · obtain ⟨-, s2, s3, w, s4, s5, -⟩ := hs
      have n2 : ¬ p.1 10 (j + 1) 2 = cn 2 := by
        rw [s2]
        decide
      have e25 : q.1 13 25 j = p.1 10 (j + 1) 7 := by
        rw [s4]
        rcases s5 with ⟨h, -⟩ | ⟨-, -, h, -⟩
        · have := (hL.2.2.2.2.2.2.2.2.2.1 hk).1
          rw [this] at h
          exact absurd h.symm cn01
        · exact h
      rw [if_neg n2, if_pos s3, e25]
      by_cases e : p.1 10 (j + 1) 7 = cn v
      · rw [if_pos e, if_pos e]
        exact ⟨T, ⟨Nat.le_refl _, by omega⟩, H, rfl, ⟨fun _ _ => rfl, rfl, fun _ _ => rfl⟩, fun _ => hop⟩
      · rw [if_neg e, if_neg e]
        exact ⟨T + 1, ⟨by omega, Nat.le_refl _⟩, W, R, F, fun _ => hop⟩
    · obtain ⟨-, s2, s3, -⟩ := hs
      have n3 : ¬ q.1 13 24 j = cn 1 := by
        rw [s3]
        decide
      rw [if_pos s2, if_neg n3]
      exact ⟨T + 1, ⟨by omega, Nat.le_refl _⟩, W, R, F, fun _ => hop⟩
end Peg
