/-! an order with a limit is told -/
theorem rNw_c {q : PM} {x N : Nat} {a b t r any lim kind life : Int32} : (rNw q x N a b t r any lim kind life).1 13 15 x = a ∧ (rNw q x N a b t r any lim kind life).1 13 18 x = lim ∧ (rNw q x N a b t r any lim kind life).1 13 24 x = cn 2 ∧ (rNw q x N a b t r any lim kind life).1 15 4 x = t ∧ (rNw q x N a b t r any lim kind life).1 15 5 x = any := by
  unfold rNw
  refine ⟨?_, ?_, ?_, ?_, ?_⟩ <;> simp (decide := true) only [pI_1, u3_same, u3_k, u3_i, not_false_eq_true]
section Limit
variable {p q : PM} {lg : Nat → Int32} {a b N T D l : Nat} {Q z m : Int} {v6 : Int32}
theorem kill_x {P R : PM} {x : Nat} (W : WW P R lg x 99 (fun _ => False) N T D l (fun _ => 0)) (hx : x < 40) : WW (pI P 10 (x + 1) 2 (cn 0)) (pI R 15 3 x (cn 0)) lg 99 99 (fun _ => False) N T D l (fun _ => 0) ∧ RS (pI R 15 3 x (cn 0)) 40 ≤ RS R 40 := by
  refine ⟨ww_x (w_mk (mk_one hx) W) hx pI_at, RS_le 40 fun i hi => ?_⟩
  have h0 := (rs_rng (W.1.1.1 i hi)).1
  unfold rs at h0 ⊢
  by_cases e : i = x
  · rw [e, pI_at, if_pos cn0e']
    rw [e] at h0
    exact h0
  · rw [pI_1, u3_s e, u3_k (by decide)]
    exact Int.le_refl _
theorem tell_limit (H : WW p q lg 99 99 (fun _ => False) N T D l (fun _ => 0)) (hc : q.1 12 1 0 = 0) (hf : LC q 40 < 40) (ha : a < 8) (hb : b < 6) (h1 : -50 ≤ Q) (h2 : Q ≤ 50) (h0 : ¬ Q = 0) (hz : PrB b z) (hm1 : 0 ≤ m) (hm2 : m ≤ Q.natAbs) (hcol : v12_isOpen q (cn b) = 0 → m = 0) (hN : N + 1 ≤ 1000000) (hT : T + 2200 ≤ 1000000000) (hD : D + 2200 ≤ 1000000000) : (g5_tellLimit p (cn a) (cn b) (cn z) (cn Q) (cn m) v6 ∧ g12_doLimit_121 q (cn a) (cn b) (cn z) (cn Q) (cn m) v6) ∧ EvR lg q N T D l 60 1 (v5_tellLimit p (cn a) (cn b) (cn z) (cn Q) (cn m) v6) (v12_doLimit_121 q (cn a) (cn b) (cn z) (cn Q) (cn m) v6) := by
  obtain ⟨x, hx, hd, hfr⟩ := free_at 40 hf
  have R := RS_rng H.1.1 40 (by decide)
  obtain ⟨Lf, hLf⟩ : ∃ Lf, Lf = if v6 = cn (-100000) then cn (-100000) else q.1 12 1 18 + v6 := ⟨_, rfl⟩
  obtain ⟨e1, e2⟩ := draw_e (A := a + 1) (B := b + 1) (Q := Q) (lim := cn z) (day := Lf) H hx hd hfr h1 h2
  obtain ⟨e3, e4⟩ := new_e (a := cn a) (b := cn b) (any := cn 0) (lim := cn z) (kind := cn 0) (life := Lf) (Q := Q) H hx hd hfr h1 h2 b0
  have hday := day_e H
  have hzx : ¬ x + 1 = 0 := by omega
  have hix := cninb (i := x) (n := 44) (by omega) (by omega)
  obtain ⟨W, RR, f3, f16, f19, f0, f14, f39⟩ := ww_drawn (p' := cNw p x N (a + 1) (b + 1) (if 0 < Q then cn 1 else cn 0) (cn Q.natAbs) (cn z) Lf) (q' := rNw q x N (cn a) (cn b) (if 0 < Q then cn 1 else cn 0) (cn Q.natAbs) (cn 0) (cn z) (cn 0) Lf) (x' := x) (s := (Q.natAbs : Int)) (z := z) H hx hd ha hb h1 h2 h0 hN (fun _ _ _ _ => rfl) rfl (fun _ _ _ _ => rfl) rfl (by rw [cNw_cell.1]; exact kr00) ⟨by omega, by omega, cNw_cell.2.1, rNw_cell, Or.inr (Int.le_refl _)⟩ (Or.inr ⟨rfl, hz, rfl⟩) (fun h => absurd h (by decide)) (fun h => absurd h (by decide)) (Or.inl ⟨rfl, by decide⟩) (fun h => absurd h (by decide))
  obtain ⟨c15, c18, c24, c4, c5⟩ := rNw_c (q := q) (x := x) (N := N) (a := cn a) (b := cn b) (t := if 0 < Q then cn 1 else cn 0) (r := cn Q.natAbs) (any := cn 0) (lim := cn z) (kind := cn 0) (life := Lf)
  have q1 : ∀ K, (K < 14 ∨ 28 < K) → (rNw q x N (cn a) (cn b) (if 0 < Q then cn 1 else cn 0) (cn Q.natAbs) (cn 0) (cn z) (cn 0) Lf).1 13 K = q.1 13 K := fun K h => rNw_13 K h
  have q1x : ∀ K i, ¬ i = x → (rNw q x N (cn a) (cn b) (if 0 < Q then cn 1 else cn 0) (cn Q.natAbs) (cn 0) (cn z) (cn 0) Lf).1 13 K i = q.1 13 K i := fun K i h => rNw_13x K i h
  have q2x : ∀ K i, ¬ i = x → (rNw q x N (cn a) (cn b) (if 0 < Q then cn 1 else cn 0) (cn Q.natAbs) (cn 0) (cn z) (cn 0) Lf).1 15 K i = q.1 15 K i := fun K i h => rNw_15x K i h
  generalize hP : cNw p x N (a + 1) (b + 1) (if 0 < Q then cn 1 else cn 0) (cn Q.natAbs) (cn z) Lf = P at e1 W f0
  generalize hR : rNw q x N (cn a) (cn b) (if 0 < Q then cn 1 else cn 0) (cn Q.natAbs) (cn 0) (cn z) (cn 0) Lf = R1 at e3 W RR f3 f16 f19 f14 f39 c15 c18 c24 c4 c5 q1 q1x q2x
  have z1 := hz.1
  have z2 := hz.2.1
  obtain ⟨a', r', s', z', hL⟩ := lv_slot W hx f3 hb f16
  have ea : a' = a := by
    have h := hL.1.2.1
    rw [c15, cneq ⟨by omega, by omega⟩ ⟨by have := hL.1.1; omega, by have := hL.1.1; omega⟩] at h
    omega
  have ez : z' = z := by
    rcases hL.2.2.2.2.2.1.2 with ⟨h, -⟩ | ⟨-, h, h'⟩
    · rw [c5] at h
      exact absurd h.symm cn01
    · have g1 := h.1
      have g2 := h.2.1
      rw [c18, cneq ⟨by omega, by omega⟩ ⟨by omega, by omega⟩] at h'
      omega
  rw [ea, ez] at hL
  obtain ⟨t', htt⟩ : ∃ t' : Int32, ((if 0 < Q then cn 1 else cn 0) = (0 : Int32) ∧ t' = cn 1) ∨ (¬ (if 0 < Q then cn 1 else cn 0) = (0 : Int32) ∧ t' = cn 0) := by
    by_cases h : 0 < Q
    · exact ⟨cn 0, Or.inr ⟨by rw [if_pos h]; exact cn01, rfl⟩⟩
    · exact ⟨cn 1, Or.inl ⟨by rw [if_neg h]; rfl, rfl⟩⟩
  obtain ⟨⟨g1, g2⟩, T2, D2, t1, W2, t2, t3, t4⟩ := ww_place W hb hx f3 f16 (by rw [f19]; decide) (by omega) (by omega)
  have ac := account_e p (a := a) (by omega)
  have bk := book_e p hb
  have gc := g_account p (a := a) (by omega)
  have gk := g_book p hb
  have gop : g12_isOpen q (cn b) := g_open hb
  have eq0 : ((0 : Int32) < cn Q) = (0 < Q) := by rw [zcn, cnlt (by decide) ⟨by omega, by omega⟩]
  have em0 : ((0 : Int32) < cn m) = (0 < m) := by rw [zcn, cnlt (by decide) ⟨by omega, by omega⟩]
  have eo : v12_isOpen R1 (cn b) = v12_isOpen q (cn b) := open_c (q1 12 (by omega)) (cn b)
  -- both, by their ends
  obtain ⟨Pe, hPe⟩ : ∃ Pe, v5_place P (x + 1) = Pe := ⟨_, rfl⟩
  obtain ⟨Qe, hQe⟩ : ∃ Qe, v12_enters R1 (cn x) = Qe := ⟨_, rfl⟩
  rw [hPe] at t4 W2
  rw [hQe] at W2 t2 t3
  have fin : EvR lg q N T D l 60 1 (cn N, Pe) (cn N, Qe) := ⟨rfl, N + 1, T2, D2, ⟨by omega, Nat.le_refl _⟩, t1, W2, by show (T2 : Int) + RS Qe 40 ≤ _; omega, by show (D2 : Int) + RS Qe 40 ≤ _; omega⟩
  -- the class when it is placed, and when it is not
  have cP : ∀ (c : Prop), (c → g5_tellLimit p (cn a) (cn b) (cn z) (cn Q) (cn m) v6) → c → g5_tellLimit p (cn a) (cn b) (cn z) (cn Q) (cn m) v6 := fun c h k => h k
  have drawC : (if v6 = cn (-100000) then v6_draw p (a + 1) (b + 1) (cn z) (cn Q) (cn (-100000)) else v6_draw p (a + 1) (b + 1) (cn z) (cn Q) (p.1 6 1 3 + v6)) = (x + 1, P) := by
    rw [← e1, hLf, hday]
    split <;> rfl
  have drawG : (if v6 = cn (-100000) then g6_draw p (a + 1) (b + 1) (cn z) (cn Q) (cn (-100000)) else g6_draw p (a + 1) (b + 1) (cn z) (cn Q) (p.1 6 1 3 + v6)) := by
    rw [hLf] at e2
    rw [hday]
    by_cases e : v6 = cn (-100000)
    · rw [if_pos e] at e2 ⊢
      exact e2
    · rw [if_neg e] at e2 ⊢
      exact e2
  have newC : (if v6 = cn (-100000) then v12_newOrder q (cn a) (cn b) (cn Q) (cn z) (cn 0) (cn 0) (cn (-100000)) else v12_newOrder q (cn a) (cn b) (cn Q) (cn z) (cn 0) (cn 0) (q.1 12 1 18 + v6)) = (cn x, R1) := by
    rw [← e3, hLf]
    split <;> rfl
  have newG : (if v6 = cn (-100000) then g12_newOrder q (cn a) (cn b) (cn Q) (cn z) (cn 0) (cn 0) (cn (-100000)) else g12_newOrder q (cn a) (cn b) (cn Q) (cn z) (cn 0) (cn 0) (q.1 12 1 18 + v6)) := by
    rw [hLf] at e4
    by_cases e : v6 = cn (-100000)
    · rw [if_pos e] at e4 ⊢
      exact e4
    · rw [if_neg e] at e4 ⊢
      exact e4
  -- is it enough
  have reach : ¬ v12_isOpen q (cn b) = 0 → (g8_reachable P (x + 1) ∧ g12_isEnough q (cn a) (cn b) (cn z) (if 0 < Q then cn 1 else cn 0) (cn m)) ∧ ∃ S : Int, 0 ≤ S ∧ S ≤ 2000 ∧ v8_reachable P (x + 1) = cl S ∧ v12_isEnough q (cn a) (cn b) (cn z) (if 0 < Q then cn 1 else cn 0) (cn m) = if S < m then cn 0 else cn 1 := by
    intro ho
    obtain ⟨F, hF, hF2⟩ : ∃ F, FU = F ∧ 100 < F := ⟨FU, rfl, by decide⟩
    have k := least_loop (q := q) (m := m) W hx hb hL c5 hz c18 c4 htt c24 (by rw [eo]; exact ho) hd H.1.1.2 q1 q1x q2x hm1 (by omega) 40 0 F F 0 rfl (by omega) (by omega) (Int.le_refl _) (by omega)
    have z0 : cn ((0 : Nat) : Int) = cn 0 := rfl
    rw [z0] at k
    unfold g8_reachable bg8_reachable v8_reachable bv8_reachable g12_isEnough bg12_isEnough v12_isEnough bv12_isEnough
    rw [hF]
    exact k
  have hcmp : ∀ S : Int, 0 ≤ S → S ≤ 2000 → (lg_cmp (cl S) (cn m).toInt64 < 0) = (S < m) := by
    intro S k1 k2
    rw [lg_gt0, cn64 ⟨by omega, by omega⟩, cllt ⟨by omega, by omega⟩ ⟨by omega, by omega⟩]
  obtain ⟨K1, K2⟩ := kill_x W hx
  have kn : (pI P 10 (x + 1) 2 (cn 0)).1 10 (x + 1) 0 = cn N := by
    rw [pI_1, u3_s (by decide)]
    exact f0
  have fin2 : EvR lg q N T D l 60 1 (cn N, pI P 10 (x + 1) 2 (cn 0)) (cn N, pI R1 15 3 x (cn 0)) := ⟨rfl, N + 1, T, D, ⟨by omega, Nat.le_refl _⟩, ⟨Nat.le_refl _, Nat.le_refl _⟩, K1, by show (T : Int) + RS (pI _ _ _ _ _) 40 ≤ _; omega, by show (D : Int) + RS (pI _ _ _ _ _) 40 ≤ _; omega⟩
  have eC : (0 < m → g8_reachable P (x + 1)) → g5_tellLimit p (cn a) (cn b) (cn z) (cn Q) (cn m) v6 ∧ v5_tellLimit p (cn a) (cn b) (cn z) (cn Q) (cn m) v6 = if 0 < m ∧ lg_cmp (v8_reachable P (x + 1)) (cn m).toInt64 < 0 then (cn N, pI P 10 (x + 1) 2 (cn 0)) else (cn N, Pe) := by
    intro hG
    unfold v5_tellLimit bv5_tellLimit g5_tellLimit bg5_tellLimit
    by_cases e : v6 = cn (-100000)
    · rw [if_pos e] at drawC drawG
      simp only [if_pos e, ac, bk, drawC, if_neg hzx, em0, hPe, t4, f0, kn]
      by_cases h : 0 < m
      · by_cases k : lg_cmp (v8_reachable P (x + 1)) (cn m).toInt64 < 0
        · simp only [if_pos h, if_pos k, if_pos (And.intro h k)]
          exact ⟨⟨gc, gk, drawG, hG h, hzx, hzx, trivial⟩, trivial⟩
        · simp only [if_pos h, if_neg k, if_neg (fun w : 0 < m ∧ lg_cmp (v8_reachable P (x + 1)) (cn m).toInt64 < 0 => k w.2)]
          exact ⟨⟨gc, gk, drawG, hG h, g1, hzx, trivial⟩, trivial⟩
      · simp only [if_neg h, if_neg (fun w : 0 < m ∧ lg_cmp (v8_reachable P (x + 1)) (cn m).toInt64 < 0 => h w.1)]
        exact ⟨⟨gc, gk, drawG, g1, hzx, trivial⟩, trivial⟩
    · rw [if_neg e] at drawC drawG
      simp only [if_neg e, ac, bk, drawC, if_neg hzx, em0, hPe, t4, f0, kn]
      by_cases h : 0 < m
      · by_cases k : lg_cmp (v8_reachable P (x + 1)) (cn m).toInt64 < 0
        · simp only [if_pos h, if_pos k, if_pos (And.intro h k)]
          exact ⟨⟨gc, gk, drawG, hG h, hzx, hzx, trivial⟩, trivial⟩
        · simp only [if_pos h, if_neg k, if_neg (fun w : 0 < m ∧ lg_cmp (v8_reachable P (x + 1)) (cn m).toInt64 < 0 => k w.2)]
          exact ⟨⟨gc, gk, drawG, hG h, g1, hzx, trivial⟩, trivial⟩
      · simp only [if_neg h, if_neg (fun w : 0 < m ∧ lg_cmp (v8_reachable P (x + 1)) (cn m).toInt64 < 0 => h w.1)]
        exact ⟨⟨gc, gk, drawG, g1, hzx, trivial⟩, trivial⟩
  by_cases ho : v12_isOpen q (cn b) = 0
  · have m0 := hcol ho
    obtain ⟨c1, c2⟩ := eC (fun h => by omega)
    rw [if_neg (fun w => by have := w.1; omega)] at c2
    have eR : g12_doLimit_121 q (cn a) (cn b) (cn z) (cn Q) (cn m) v6 ∧ v12_doLimit_121 q (cn a) (cn b) (cn z) (cn Q) (cn m) v6 = (cn N, Qe) := by
      unfold v12_doLimit_121 bv12_doLimit_121 g12_doLimit_121 bg12_doLimit_121
      by_cases e : v6 = cn (-100000)
      · rw [if_pos e] at newC newG
        simp only [if_pos hc, if_pos ho, if_pos e, newC, cntk (i := x) (by omega), f14, hQe]
        exact ⟨⟨gop, newG, hix, g2, trivial⟩, trivial⟩
      · rw [if_neg e] at newC newG
        simp only [if_pos hc, if_pos ho, if_neg e, newC, cntk (i := x) (by omega), f14, hQe]
        exact ⟨⟨gop, newG, hix, g2, trivial⟩, trivial⟩
    rw [c2, eR.2]
    exact ⟨⟨c1, eR.1⟩, fin⟩
  · obtain ⟨⟨r1, r2⟩, S, s1, s2, r3, r4⟩ := reach ho
    obtain ⟨c1, c2⟩ := eC (fun _ => r1)
    rw [r3] at c2
    simp only [hcmp S s1 s2] at c2
    have eR : g12_doLimit_121 q (cn a) (cn b) (cn z) (cn Q) (cn m) v6 ∧ v12_doLimit_121 q (cn a) (cn b) (cn z) (cn Q) (cn m) v6 = if S < m then (cn N, pI R1 15 3 x (cn 0)) else (cn N, Qe) := by
      unfold v12_doLimit_121 bv12_doLimit_121 g12_doLimit_121 bg12_doLimit_121
      by_cases hQ0 : 0 < Q
      · rw [if_pos hQ0] at r2 r4
        by_cases hS : S < m
        · rw [if_pos hS] at r4
          by_cases e : v6 = cn (-100000)
          · rw [if_pos e] at newC newG
            simp only [if_pos hc, if_neg ho, eq0, if_pos hQ0, r4, if_pos cn0e', if_pos e, newC, cntk (i := x) (by omega), f14, if_pos hS]
            exact ⟨⟨gop, r2, newG, hix, hix, trivial⟩, trivial⟩
          · rw [if_neg e] at newC newG
            simp only [if_pos hc, if_neg ho, eq0, if_pos hQ0, r4, if_pos cn0e', if_neg e, newC, cntk (i := x) (by omega), f14, if_pos hS]
            exact ⟨⟨gop, r2, newG, hix, hix, trivial⟩, trivial⟩
        · rw [if_neg hS] at r4
          by_cases e : v6 = cn (-100000)
          · rw [if_pos e] at newC newG
            simp only [if_pos hc, if_neg ho, eq0, if_pos hQ0, r4, if_neg cn01, if_pos e, newC, cntk (i := x) (by omega), f14, hQe, if_neg hS]
            exact ⟨⟨gop, r2, newG, hix, g2, trivial⟩, trivial⟩
          · rw [if_neg e] at newC newG
            simp only [if_pos hc, if_neg ho, eq0, if_pos hQ0, r4, if_neg cn01, if_neg e, newC, cntk (i := x) (by omega), f14, hQe, if_neg hS]
            exact ⟨⟨gop, r2, newG, hix, g2, trivial⟩, trivial⟩
      · rw [if_neg hQ0] at r2 r4
        by_cases hS : S < m
        · rw [if_pos hS] at r4
          by_cases e : v6 = cn (-100000)
          · rw [if_pos e] at newC newG
            simp only [if_pos hc, if_neg ho, eq0, if_neg hQ0, r4, if_pos cn0e', if_pos e, newC, cntk (i := x) (by omega), f14, if_pos hS]
            exact ⟨⟨gop, r2, newG, hix, hix, trivial⟩, trivial⟩
          · rw [if_neg e] at newC newG
            simp only [if_pos hc, if_neg ho, eq0, if_neg hQ0, r4, if_pos cn0e', if_neg e, newC, cntk (i := x) (by omega), f14, if_pos hS]
            exact ⟨⟨gop, r2, newG, hix, hix, trivial⟩, trivial⟩
        · rw [if_neg hS] at r4
          by_cases e : v6 = cn (-100000)
          · rw [if_pos e] at newC newG
            simp only [if_pos hc, if_neg ho, eq0, if_neg hQ0, r4, if_neg cn01, if_pos e, newC, cntk (i := x) (by omega), f14, hQe, if_neg hS]
            exact ⟨⟨gop, r2, newG, hix, g2, trivial⟩, trivial⟩
          · rw [if_neg e] at newC newG
            simp only [if_pos hc, if_neg ho, eq0, if_neg hQ0, r4, if_neg cn01, if_neg e, newC, cntk (i := x) (by omega), f14, hQe, if_neg hS]
            exact ⟨⟨gop, r2, newG, hix, g2, trivial⟩, trivial⟩
    rw [c2, eR.2]
    refine ⟨⟨c1, eR.1⟩, ?_⟩
    by_cases hS : S < m
    · rw [if_pos hS, if_pos ⟨by omega, hS⟩]
      exact fin2
    · rw [if_neg hS, if_neg (fun w => hS w.2)]
      exact fin
end Limit
