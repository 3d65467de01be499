/-! icebergs, pegs, stops -/
theorem u3_ne {α : Type} {f : Nat → Nat → Nat → α} {w : α} {k i s k' i' s' : Nat} (h : ¬ (k' = k ∧ i' = i ∧ s' = s)) : u3 f k i s w k' i' s' = f k' i' s' := if_neg h
theorem rNw_2 {q : PM} {x N : Nat} {a b t r any lim kind life : Int32} : (rNw q x N a b t r any lim kind life).2 = q.2 := rfl
theorem pI_2 {p : PM} {k i s : Nat} {v : Int32} : (pI p k i s v).2 = p.2 := rfl
section Tell
variable {p q : PM} {lg : Nat → Int32} {a b N T D l : Nat} {Q z s : Int}
theorem tell_iceberg (H : WW p q lg 99 99 (fun _ => False) N T D l (fun _ => 0)) (hf : LC q 40 < 40) (ha : a < 8) (hb : b < 6) (h1 : -50 ≤ Q) (h2 : Q ≤ 50) (h0 : ¬ Q = 0) (hz : PrB b z) (hs1 : 1 ≤ s) (hs2 : s ≤ Q.natAbs) (hN : N + 1 ≤ 1000000) (hT : T + 2200 ≤ 1000000000) (hD : D + 2200 ≤ 1000000000) : (g5_tellIceberg p (cn a) (cn b) (cn z) (cn Q) (cn s) ∧ g12_newOrder q (cn a) (cn b) (cn Q) (cn z) (cn 0) (cn 1) (q.1 12 1 18) ∧ inb (v12_newOrder q (cn a) (cn b) (cn Q) (cn z) (cn 0) (cn 1) (q.1 12 1 18)).1 44 ∧ g12_enters (pI (v12_newOrder q (cn a) (cn b) (cn Q) (cn z) (cn 0) (cn 1) (q.1 12 1 18)).2 13 21 (v12_newOrder q (cn a) (cn b) (cn Q) (cn z) (cn 0) (cn 1) (q.1 12 1 18)).1.toNatClampNeg (cn s)) (v12_newOrder q (cn a) (cn b) (cn Q) (cn z) (cn 0) (cn 1) (q.1 12 1 18)).1) ∧ EvR lg q N T D l 60 1 (v5_tellIceberg p (cn a) (cn b) (cn z) (cn Q) (cn s)) (aIceberg q (cn a) (cn b) (cn z) (cn Q) (cn s)) := by
  obtain ⟨x, hx, hd, hfr⟩ := free_at 40 hf
  have R := RS_rng H.1.1 40 (by decide)
  obtain ⟨e1, e2⟩ := draw_e (A := a + 1) (B := b + 1) (Q := Q) (lim := cn z) (day := p.1 6 1 3) H hx hd hfr h1 h2
  obtain ⟨e3, e4⟩ := new_e (a := cn a) (b := cn b) (any := cn 0) (lim := cn z) (kind := cn 1) (life := q.1 12 1 18) (Q := Q) H hx hd hfr h1 h2 b0
  have hday := day_e H
  rw [hday] at e1 e2
  have hzx : ¬ x + 1 = 0 := by omega
  have hix := cninb (i := x) (n := 44) (by omega) (by omega)
  generalize hP : cNw p x N (a + 1) (b + 1) (if 0 < Q then cn 1 else cn 0) (cn Q.natAbs) (cn z) (q.1 12 1 18) = P at e1
  generalize hR : rNw q x N (cn a) (cn b) (if 0 < Q then cn 1 else cn 0) (cn Q.natAbs) (cn 0) (cn z) (cn 1) (q.1 12 1 18) = RR at e3
  obtain ⟨W, RS1, f3, f16, f19, f0, f14, f39⟩ := ww_drawn (p' := pI P 10 (x + 1) 10 (cn s)) (q' := pI RR 13 21 x (cn s)) (any := cn 0) (lim := cn z) (kind := cn 1) (life := q.1 12 1 18) (x' := x) (s := s) (z := z) H hx hd ha hb h1 h2 h0 hN (fun k i S h => by rw [hP]; exact u3_ne fun e => h ⟨e.1, e.2.1, by omega⟩) (by rw [hP]; first | rw [pI_2, pI_2] | rw [pI_2]) (fun k i S h => by rw [hR]; exact u3_ne fun e => h ⟨e.1, e.2.2, by omega⟩) (by rw [pI_2, ← hR, rNw_2]) (by rw [pI_1, u3_s (by decide), ← hP, cNw_cell.1]; exact kr01) ⟨by omega, by omega, pI_at, pI_at, Or.inl rfl⟩ (Or.inr ⟨rfl, hz, rfl⟩) (fun h => absurd h (by decide)) (fun h => absurd h (by decide)) (Or.inl ⟨rfl, by decide⟩) (fun h => absurd h (by decide))
  obtain ⟨⟨g1, g2⟩, T2, D2, t1, W2, t2, t3, t4⟩ := ww_place W hb hx f3 f16 (by rw [f19]; decide) (by omega) (by omega)
  have n2 := W2.1.2.1.2.2.2.1
  have ac := account_e p (a := a) (by omega)
  have bk := book_e p hb
  have gc := g_account p (a := a) (by omega)
  have gk := g_book p hb
  have eC : v5_tellIceberg p (cn a) (cn b) (cn z) (cn Q) (cn s) = (cn N, v5_place (pI P 10 (x + 1) 10 (cn s)) (x + 1)) ∧ g5_tellIceberg p (cn a) (cn b) (cn z) (cn Q) (cn s) := by
    unfold v5_tellIceberg bv5_tellIceberg g5_tellIceberg bg5_tellIceberg
    simp only [ac, bk, hday, e1, if_neg hzx, t4, f0]
    exact ⟨trivial, gc, gk, e2, hzx, g1, hzx, trivial⟩
  have eR : aIceberg q (cn a) (cn b) (cn z) (cn Q) (cn s) = (cn N, v12_enters (pI RR 13 21 x (cn s)) (cn x)) := by
    unfold aIceberg
    simp only [e3, cntk (i := x) (by omega), n2, n39]
  refine ⟨⟨eC.2, e4, by rw [e3]; exact hix, by rw [e3]; dsimp only; rw [cntk (i := x) (by omega)]; exact g2⟩, ?_⟩
  rw [eC.1, eR]
  exact ⟨rfl, N + 1, T2, D2, ⟨by omega, Nat.le_refl _⟩, t1, W2, by show (T2 : Int) + RS (v12_enters _ _) 40 ≤ _; omega, by show (D2 : Int) + RS (v12_enters _ _) 40 ≤ _; omega⟩
theorem tell_peg {o : Int} (H : WW p q lg 99 99 (fun _ => False) N T D l (fun _ => 0)) (hf : LC q 40 < 40) (ha : a < 8) (hb : b < 6) (h1 : -50 ≤ Q) (h2 : Q ≤ 50) (h0 : ¬ Q = 0) (hz : PrB b z) (ho1 : 0 ≤ o) (ho2 : o ≤ 99) (hN : N + 1 ≤ 1000000) : (g5_tellPeg p (cn a) (cn b) (cn z) (cn Q) (cn o) ∧ g12_newOrder q (cn a) (cn b) (cn Q) (cn z) (cn 0) (cn 2) (q.1 12 1 18) ∧ inb (v12_newOrder q (cn a) (cn b) (cn Q) (cn z) (cn 0) (cn 2) (q.1 12 1 18)).1 44) ∧ EvR lg q N T D l 60 1 (v5_tellPeg p (cn a) (cn b) (cn z) (cn Q) (cn o)) (aPeg q (cn a) (cn b) (cn z) (cn Q) (cn o)) := by
  obtain ⟨x, hx, hd, hfr⟩ := free_at 40 hf
  have R := RS_rng H.1.1 40 (by decide)
  obtain ⟨e1, e2⟩ := draw_e (A := a + 1) (B := b + 1) (Q := Q) (lim := cn z) (day := p.1 6 1 3) H hx hd hfr h1 h2
  obtain ⟨e3, e4⟩ := new_e (a := cn a) (b := cn b) (any := cn 0) (lim := cn z) (kind := cn 2) (life := q.1 12 1 18) (Q := Q) H hx hd hfr h1 h2 b0
  have hday := day_e H
  rw [hday] at e1 e2
  have hzx : ¬ x + 1 = 0 := by omega
  have hix := cninb (i := x) (n := 44) (by omega) (by omega)
  generalize hP : cNw p x N (a + 1) (b + 1) (if 0 < Q then cn 1 else cn 0) (cn Q.natAbs) (cn z) (q.1 12 1 18) = P at e1
  generalize hR : rNw q x N (cn a) (cn b) (if 0 < Q then cn 1 else cn 0) (cn Q.natAbs) (cn 0) (cn z) (cn 2) (q.1 12 1 18) = RR at e3
  obtain ⟨W, RS1, f3, f16, f19, f0, f14, f39⟩ := ww_drawn (p' := pI (pI P 10 (x + 1) 1 (cn 1)) 10 (x + 1) 13 (cn o)) (q' := pI RR 13 26 x (cn o)) (any := cn 0) (lim := cn z) (kind := cn 2) (life := q.1 12 1 18) (x' := 99) (s := (Q.natAbs : Int)) (z := z) H hx hd ha hb h1 h2 h0 hN (fun k i S h => by
    rw [hP, pI_1, u3_ne (fun e => h ⟨e.1, e.2.1, by omega⟩), pI_1, u3_ne (fun e => h ⟨e.1, e.2.1, by omega⟩)]) (by rw [hP]; first | rw [pI_2, pI_2] | rw [pI_2]) (fun k i S h => by rw [hR]; exact u3_ne fun e => h ⟨e.1, e.2.2, by omega⟩) (by rw [pI_2, ← hR, rNw_2]) (by rw [pI_1, u3_s (by decide), pI_at]; exact kr12) ⟨by omega, by omega, by rw [pI_1, u3_s (by decide), pI_1, u3_s (by decide), ← hP, cNw_cell.2.1], by rw [pI_1, u3_i (by decide), ← hR, rNw_cell], Or.inr (Int.le_refl _)⟩ (Or.inr ⟨rfl, hz, rfl⟩) (fun _ => ⟨rfl, o, ho1, ho2, pI_at, pI_at⟩) (fun h => absurd h (by decide)) (Or.inr ⟨rfl, Or.inl rfl⟩) (fun h => absurd h (by decide))
  have ac := account_e p (a := a) (by omega)
  have bk := book_e p hb
  have gc := g_account p (a := a) (by omega)
  have gk := g_book p hb
  have eC : v5_tellPeg p (cn a) (cn b) (cn z) (cn Q) (cn o) = (cn N, pI (pI P 10 (x + 1) 1 (cn 1)) 10 (x + 1) 13 (cn o)) ∧ g5_tellPeg p (cn a) (cn b) (cn z) (cn Q) (cn o) := by
    unfold v5_tellPeg bv5_tellPeg g5_tellPeg bg5_tellPeg
    simp only [ac, bk, hday, e1, if_neg hzx, f0]
    exact ⟨trivial, gc, gk, e2, hzx, hzx, hzx, trivial⟩
  have eR : aPeg q (cn a) (cn b) (cn z) (cn Q) (cn o) = (cn N, pI RR 13 26 x (cn o)) := by
    unfold aPeg
    simp only [e3, cntk (i := x) (by omega), f39, n39]
  refine ⟨⟨eC.2, e4, by rw [e3]; exact hix⟩, ?_⟩
  rw [eC.1, eR]
  exact ⟨rfl, N + 1, T, D, ⟨by omega, Nat.le_refl _⟩, ⟨Nat.le_refl _, Nat.le_refl _⟩, W, by show (T : Int) + RS (pI _ _ _ _ _) 40 ≤ _; omega, by show (D : Int) + RS (pI _ _ _ _ _) 40 ≤ _; omega⟩
theorem tell_stop {g : Int32} (H : WW p q lg 99 99 (fun _ => False) N T D l (fun _ => 0)) (hf : LC q 40 < 40) (ha : a < 8) (hb : b < 4) (h1 : -50 ≤ Q) (h2 : Q ≤ 50) (h0 : ¬ Q = 0) (hz1 : 0 ≤ z) (hz2 : z ≤ 9999) (hN : N + 1 ≤ 1000000) : (g5_tellStop p (cn a) (cn b) g (cn z) (cn Q) ∧ g12_newOrder q (cn a) (cn b) (cn Q) (cn z) (if cn z = 0 then cn 1 else cn 0) (cn 3) (q.1 12 1 18) ∧ inb (v12_newOrder q (cn a) (cn b) (cn Q) (cn z) (if cn z = 0 then cn 1 else cn 0) (cn 3) (q.1 12 1 18)).1 44) ∧ EvR lg q N T D l 60 1 (v5_tellStop p (cn a) (cn b) g (cn z) (cn Q)) (aStop q (cn a) (cn b) g (cn z) (cn Q)) := by
  obtain ⟨x, hx, hd, hfr⟩ := free_at 40 hf
  have hb6 : b < 6 := by omega
  have R := RS_rng H.1.1 40 (by decide)
  -- the limit, in the class
  obtain ⟨zc, any, hany, hcz, hzz, hzc⟩ : ∃ (zc : Int) (any : Int32), b01 any ∧ (if cn z = 0 then cn 1 else cn 0) = any ∧ ((any = cn 1 ∧ zc = -100000) ∨ (any = cn 0 ∧ PrB b zc ∧ cn z = cn zc)) ∧ (if cn z = 0 then cn (-100000) else cn z) = cn zc := by
    by_cases e : cn z = 0
    · exact ⟨-100000, cn 1, b1, if_pos e, Or.inl ⟨rfl, rfl⟩, if_pos e⟩
    · refine ⟨z, cn 0, b0, if_neg e, Or.inr ⟨rfl, ⟨by omega, hz2, fun _ => ?_⟩, rfl⟩, if_neg e⟩
      rw [zcn, cneq ⟨by omega, by omega⟩ (by decide)] at e
      omega
  obtain ⟨e1, e2⟩ := draw_e (A := a + 1) (B := b + 1) (Q := Q) (lim := cn zc) (day := p.1 6 1 3) H hx hd hfr h1 h2
  obtain ⟨e3, e4⟩ := new_e (a := cn a) (b := cn b) (any := any) (lim := cn z) (kind := cn 3) (life := q.1 12 1 18) (Q := Q) H hx hd hfr h1 h2 hany
  have hday := day_e H
  rw [hday] at e1 e2
  have hzx : ¬ x + 1 = 0 := by omega
  have hix := cninb (i := x) (n := 44) (by omega) (by omega)
  generalize hP : cNw p x N (a + 1) (b + 1) (if 0 < Q then cn 1 else cn 0) (cn Q.natAbs) (cn zc) (q.1 12 1 18) = P at e1
  generalize hR : rNw q x N (cn a) (cn b) (if 0 < Q then cn 1 else cn 0) (cn Q.natAbs) any (cn z) (cn 3) (q.1 12 1 18) = RR at e3
  obtain ⟨W, RS1, f3, f16, f19, f0, f14, f39⟩ := ww_drawn (p' := pI (pI P 10 (x + 1) 1 (cn 2)) 10 (x + 1) 14 g) (q' := pI RR 13 27 x g) (any := any) (lim := cn z) (kind := cn 3) (life := q.1 12 1 18) (x' := 99) (s := (Q.natAbs : Int)) (z := zc) H hx hd ha hb6 h1 h2 h0 hN (fun k i S h => by
    rw [hP, pI_1, u3_ne (fun e => h ⟨e.1, e.2.1, by omega⟩), pI_1, u3_ne (fun e => h ⟨e.1, e.2.1, by omega⟩)]) (by rw [hP]; first | rw [pI_2, pI_2] | rw [pI_2]) (fun k i S h => by rw [hR]; exact u3_ne fun e => h ⟨e.1, e.2.2, by omega⟩) (by rw [pI_2, ← hR, rNw_2]) (by rw [pI_1, u3_s (by decide), pI_at]; exact kr23) ⟨by omega, by omega, by rw [pI_1, u3_s (by decide), pI_1, u3_s (by decide), ← hP, cNw_cell.2.1], by rw [pI_1, u3_i (by decide), ← hR, rNw_cell], Or.inr (Int.le_refl _)⟩ hzz (fun h => absurd h (by decide)) (fun _ => by rw [pI_at, pI_at]) (Or.inr ⟨rfl, Or.inr rfl⟩) (fun h => absurd h (by decide))
  have ac := account_e p (a := a) (by omega)
  have bk := book_e p hb6
  have gc := g_account p (a := a) (by omega)
  have gk := g_book p hb6
  have eC : v5_tellStop p (cn a) (cn b) g (cn z) (cn Q) = (cn N, pI (pI P 10 (x + 1) 1 (cn 2)) 10 (x + 1) 14 g) ∧ g5_tellStop p (cn a) (cn b) g (cn z) (cn Q) := by
    unfold v5_tellStop bv5_tellStop g5_tellStop bg5_tellStop
    have e1' : (if cn z = 0 then v6_draw p (a + 1) (b + 1) (cn (-100000)) (cn Q) (q.1 12 1 18) else v6_draw p (a + 1) (b + 1) (cn z) (cn Q) (q.1 12 1 18)) = (x + 1, P) := by
      rw [← e1, ← hzc]
      split <;> rfl
    have e2' : (if cn z = 0 then g6_draw p (a + 1) (b + 1) (cn (-100000)) (cn Q) (q.1 12 1 18) else g6_draw p (a + 1) (b + 1) (cn z) (cn Q) (q.1 12 1 18)) := by
      rw [← hzc] at e2
      by_cases e : cn z = 0
      · rw [if_pos e] at e2 ⊢
        exact e2
      · rw [if_neg e] at e2 ⊢
        exact e2
    by_cases e : cn z = 0
    · rw [if_pos e] at e1' e2'
      simp only [if_pos e, ac, bk, hday, e1', if_neg hzx, f0]
      exact ⟨trivial, gc, gk, e2', hzx, hzx, hzx, trivial⟩
    · rw [if_neg e] at e1' e2'
      simp only [if_neg e, ac, bk, hday, e1', if_neg hzx, f0]
      exact ⟨trivial, gc, gk, e2', hzx, hzx, hzx, trivial⟩
  have eR : aStop q (cn a) (cn b) g (cn z) (cn Q) = (cn N, pI RR 13 27 x g) := by
    unfold aStop
    simp only [hcz, e3, cntk (i := x) (by omega), f39, n39]
  rw [hcz]
  refine ⟨⟨eC.2, e4, by rw [e3]; exact hix⟩, ?_⟩
  rw [eC.1, eR]
  exact ⟨rfl, N + 1, T, D, ⟨by omega, Nat.le_refl _⟩, ⟨Nat.le_refl _, Nat.le_refl _⟩, W, by show (T : Int) + RS (pI _ _ _ _ _) 40 ≤ _; omega, by show (D : Int) + RS (pI _ _ _ _ _) 40 ≤ _; omega⟩
end Tell
