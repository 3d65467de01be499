/-! orders are told: any price, icebergs, pegs, stops -/
noncomputable def aMarket (q : PM) (v1 v2 v3 : Int32) : Int32 × PM :=
  let r := v12_newOrder q v1 v2 v3 (cn 0) (cn 1) (cn 0) (q.1 12 1 18)
  let p := v12_enters r.2 r.1
  ((p.1 12 1 39) - (cn 1), p)
noncomputable def aIceberg (q : PM) (v1 v2 v3 v4 v5 : Int32) : Int32 × PM :=
  let r := v12_newOrder q v1 v2 v4 v3 (cn 0) (cn 1) (q.1 12 1 18)
  let p3 := pI r.2 13 21 (r.1).toNatClampNeg v5
  let p := v12_enters p3 r.1
  ((p.1 12 1 39) - (cn 1), p)
noncomputable def aPeg (q : PM) (v1 v2 v3 v4 v5 : Int32) : Int32 × PM :=
  let r := v12_newOrder q v1 v2 v4 v3 (cn 0) (cn 2) (q.1 12 1 18)
  let p := pI r.2 13 26 (r.1).toNatClampNeg v5
  ((p.1 12 1 39) - (cn 1), p)
noncomputable def aStop (q : PM) (v1 v2 v3 v4 v5 : Int32) : Int32 × PM :=
  let r := v12_newOrder q v1 v2 v5 v4 (if v4 = 0 then cn 1 else cn 0) (cn 3) (q.1 12 1 18)
  let p := pI r.2 13 27 (r.1).toNatClampNeg v3
  ((p.1 12 1 39) - (cn 1), p)
/-- what an event answers and leaves -/
def EvR (lg : Nat → Int32) (q : PM) (N T D l k n : Nat) (c : Int32 × PM) (r : Int32 × PM) : Prop := c.1 = r.1 ∧ ∃ N2 T2 D2, (N ≤ N2 ∧ N2 ≤ N + n) ∧ (T ≤ T2 ∧ D ≤ D2) ∧ WW c.2 r.2 lg 99 99 (fun _ => False) N2 T2 D2 l (fun _ => 0) ∧ T2 + RS r.2 40 ≤ T + RS q 40 + k ∧ D2 + RS r.2 40 ≤ D + RS q 40 + k
theorem kr00 : KindR (cn 0) (cn 0) := Or.inl ⟨rfl, rfl⟩
theorem kr01 : KindR (cn 0) (cn 1) := Or.inr (Or.inl ⟨rfl, rfl⟩)
theorem kr12 : KindR (cn 1) (cn 2) := Or.inr (Or.inr (Or.inl ⟨rfl, rfl⟩))
theorem kr23 : KindR (cn 2) (cn 3) := Or.inr (Or.inr (Or.inr (Or.inl ⟨rfl, rfl⟩)))
theorem kr34 : KindR (cn 3) (cn 4) := Or.inr (Or.inr (Or.inr (Or.inr ⟨rfl, rfl⟩)))
theorem n39 {N : Nat} : cn ((N + 1 : Nat) : Int) - cn 1 = cn N := by
  rw [cnsub]
  congr 1
  omega
section Tell
variable {p q : PM} {lg : Nat → Int32} {a b N T D l : Nat} {Q : Int}
theorem cNw_cell {x A B : Nat} {t r lim day : Int32} : (cNw p x N A B t r lim day).1 10 (x + 1) 1 = cn 0 ∧ (cNw p x N A B t r lim day).1 10 (x + 1) 10 = r ∧ (cNw p x N A B t r lim day).1 10 (x + 1) 0 = cn N := by
  unfold cNw
  refine ⟨?_, ?_, ?_⟩ <;> simp (decide := true) only [pR_1, pI_1, u3_same, u3_k, u3_s, not_false_eq_true]
theorem rNw_cell {x : Nat} {a b t r any lim kind life : Int32} : (rNw q x N a b t r any lim kind life).1 13 21 x = r := by
  unfold rNw
  simp (decide := true) only [pI_1, u3_same, u3_k, u3_i, not_false_eq_true]
theorem day_e (H : WW p q lg 99 99 (fun _ => False) N T D l (fun _ => 0)) : p.1 6 1 3 = q.1 12 1 18 := by
  obtain ⟨t, -, h1, h2⟩ := H.2.2.2.2.2.1.2.2.2.2.2.2.1
  rw [h1, h2]
theorem tell_market (H : WW p q lg 99 99 (fun _ => False) N T D l (fun _ => 0)) (hf : LC q 40 < 40) (ha : a < 8) (hb : b < 6) (h1 : -50 ≤ Q) (h2 : Q ≤ 50) (h0 : ¬ Q = 0) (hN : N + 1 ≤ 1000000) (hT : T + 2200 ≤ 1000000000) (hD : D + 2200 ≤ 1000000000) : (g5_tellMarket p (cn a) (cn b) (cn Q) ∧ g12_newOrder q (cn a) (cn b) (cn Q) (cn 0) (cn 1) (cn 0) (q.1 12 1 18) ∧ g12_enters (v12_newOrder q (cn a) (cn b) (cn Q) (cn 0) (cn 1) (cn 0) (q.1 12 1 18)).2 (v12_newOrder q (cn a) (cn b) (cn Q) (cn 0) (cn 1) (cn 0) (q.1 12 1 18)).1) ∧ EvR lg q N T D l 60 1 (v5_tellMarket p (cn a) (cn b) (cn Q)) (aMarket q (cn a) (cn b) (cn Q)) := by
  obtain ⟨x, hx, hd, hfr⟩ := free_at 40 hf
  have R := RS_rng H.1.1 40 (by decide)
  obtain ⟨e1, e2⟩ := draw_e (A := a + 1) (B := b + 1) (Q := Q) (lim := cn (-100000)) (day := p.1 6 1 3) H hx hd hfr h1 h2
  obtain ⟨e3, e4⟩ := new_e (a := cn a) (b := cn b) (any := cn 1) (lim := cn 0) (kind := cn 0) (life := q.1 12 1 18) (Q := Q) H hx hd hfr h1 h2 b1
  have hday := day_e H
  rw [hday] at e1 e2
  obtain ⟨W, RR, f3, f16, f19, f0, f14, f39⟩ := ww_drawn (p' := cNw p x N (a + 1) (b + 1) (if 0 < Q then cn 1 else cn 0) (cn Q.natAbs) (cn (-100000)) (q.1 12 1 18)) (q' := rNw q x N (cn a) (cn b) (if 0 < Q then cn 1 else cn 0) (cn Q.natAbs) (cn 1) (cn 0) (cn 0) (q.1 12 1 18)) (x' := x) (s := (Q.natAbs : Int)) (z := -100000) H hx hd ha hb h1 h2 h0 hN (fun _ _ _ _ => rfl) rfl (fun _ _ _ _ => rfl) rfl (by rw [cNw_cell.1]; exact kr00) ⟨by omega, by omega, cNw_cell.2.1, rNw_cell, Or.inr (Int.le_refl _)⟩ (Or.inl ⟨rfl, rfl⟩) (fun h => absurd h (by decide)) (fun h => absurd h (by decide)) (Or.inl ⟨rfl, by decide⟩) (fun h => absurd h (by decide))
  obtain ⟨⟨g1, g2⟩, T2, D2, t1, W2, t2, t3, t4⟩ := ww_place W hb hx f3 f16 (by rw [f19]; decide) (by omega) (by omega)
  have hzx : ¬ x + 1 = 0 := by omega
  have n2 := W2.1.2.1.2.2.2.1
  have ac := account_e p (a := a) (by omega)
  have bk := book_e p hb
  have gc := g_account p (a := a) (by omega)
  have gk := g_book p hb
  have eC : v5_tellMarket p (cn a) (cn b) (cn Q) = (cn N, v5_place (cNw p x N (a + 1) (b + 1) (if 0 < Q then cn 1 else cn 0) (cn Q.natAbs) (cn (-100000)) (q.1 12 1 18)) (x + 1)) ∧ g5_tellMarket p (cn a) (cn b) (cn Q) := by
    unfold v5_tellMarket bv5_tellMarket g5_tellMarket bg5_tellMarket
    simp only [ac, bk, hday, e1, if_neg hzx, t4, f0]
    exact ⟨trivial, gc, gk, e2, g1, hzx, trivial⟩
  have eR : aMarket q (cn a) (cn b) (cn Q) = (cn N, v12_enters (rNw q x N (cn a) (cn b) (if 0 < Q then cn 1 else cn 0) (cn Q.natAbs) (cn 1) (cn 0) (cn 0) (q.1 12 1 18)) (cn x)) := by
    unfold aMarket
    simp only [e3, n2, n39]
  refine ⟨⟨eC.2, e4, by rw [e3]; exact g2⟩, ?_⟩
  rw [eC.1, eR]
  exact ⟨rfl, N + 1, T2, D2, ⟨by omega, Nat.le_refl _⟩, t1, W2, by show (T2 : Int) + RS (v12_enters _ _) 40 ≤ _; omega, by show (D2 : Int) + RS (v12_enters _ _) 40 ≤ _; omega⟩
end Tell
