/-! the memories with a new order -/
section Drawn
variable {p q p' q' : PM} {lg : Nat → Int32} {x x' a b N T D l : Nat} {Q s z : Int} {any lim kind life day : Int32}
theorem cNw_i {A B : Nat} {t r : Int32} (i S : Nat) (h : ¬ i = x + 1) : (cNw p x N A B t r lim day).1 10 i S = p.1 10 i S := by
  unfold cNw
  simp (decide := true) only [pI_1, pR_1, u3_i h, u3_k, not_false_eq_true]
theorem cNw_k {A B : Nat} {t r : Int32} (K : Nat) (h : ¬ K = 10) (h2 : ¬ K = 6) : (cNw p x N A B t r lim day).1 K = p.1 K := by
  funext i S
  unfold cNw
  simp only [pI_1, pR_1, u3_k h, u3_k h2]
theorem cNw_6 {A B : Nat} {t r : Int32} (S : Nat) (h : ¬ S = 4) : (cNw p x N A B t r lim day).1 6 1 S = p.1 6 1 S := by
  unfold cNw
  simp (decide := true) only [pI_1, pR_1, u3_s h, u3_k, not_false_eq_true]
theorem cNw_64 {A B : Nat} {t r : Int32} : (cNw p x N A B t r lim day).1 6 1 4 = cn (N + 1 : Nat) := by
  unfold cNw
  simp (decide := true) only [pI_1, pR_1, u3_same, u3_k, not_false_eq_true]
theorem cNw_R {A B : Nat} {t r : Int32} : (cNw p x N A B t r lim day).2.2 = u3 (u3 p.2.2 10 (x + 1) 3 A) 10 (x + 1) 4 B := rfl
theorem cNw_J {A B : Nat} {t r : Int32} : (cNw p x N A B t r lim day).2.1 = p.2.1 := rfl
theorem rNw_13 {a b t r : Int32} (K : Nat) (h : K < 14 ∨ 28 < K) : (rNw q x N a b t r any lim kind life).1 13 K = q.1 13 K := by
  funext i
  unfold rNw
  simp (decide := true) only [pI_1, u3_k, not_false_eq_true, u3_i (show ¬ K = 14 by omega), u3_i (show ¬ K = 15 by omega), u3_i (show ¬ K = 16 by omega), u3_i (show ¬ K = 17 by omega), u3_i (show ¬ K = 18 by omega), u3_i (show ¬ K = 19 by omega), u3_i (show ¬ K = 20 by omega), u3_i (show ¬ K = 21 by omega), u3_i (show ¬ K = 22 by omega), u3_i (show ¬ K = 24 by omega), u3_i (show ¬ K = 28 by omega)]
theorem rNw_13x {a b t r : Int32} (K i : Nat) (h : ¬ i = x) : (rNw q x N a b t r any lim kind life).1 13 K i = q.1 13 K i := by
  unfold rNw
  simp (decide := true) only [pI_1, u3_k, not_false_eq_true, u3_s h]
theorem rNw_15 {a b t r : Int32} (K : Nat) (h : K < 3 ∨ 6 < K) : (rNw q x N a b t r any lim kind life).1 15 K = q.1 15 K := by
  funext i
  unfold rNw
  simp (decide := true) only [pI_1, u3_k, not_false_eq_true, u3_i (show ¬ K = 3 by omega), u3_i (show ¬ K = 4 by omega), u3_i (show ¬ K = 5 by omega), u3_i (show ¬ K = 6 by omega)]
theorem rNw_15x {a b t r : Int32} (K i : Nat) (h : ¬ i = x) : (rNw q x N a b t r any lim kind life).1 15 K i = q.1 15 K i := by
  unfold rNw
  simp (decide := true) only [pI_1, u3_k, not_false_eq_true, u3_s h]
theorem rNw_L {a b t r : Int32} : (rNw q x N a b t r any lim kind life).1 12 1 95 = q.1 12 1 95 + r := by
  unfold rNw
  rw [pI_at]
theorem rNw_12 {a b t r : Int32} (S : Nat) (h : ¬ S = 39) (h2 : ¬ S = 95) : (rNw q x N a b t r any lim kind life).1 12 1 S = q.1 12 1 S := by
  unfold rNw
  rw [pI_1, u3_s h2]
  simp (decide := true) only [pI_1, u3_k, not_false_eq_true, u3_s h]
theorem rNw_39 {a b t r : Int32} : (rNw q x N a b t r any lim kind life).1 12 1 39 = cn (N + 1 : Nat) := by
  unfold rNw
  rw [pI_1, u3_s (by decide)]
  simp (decide := true) only [pI_1, u3_same, u3_k, not_false_eq_true]
theorem ww_drawn (H : WW p q lg 99 99 (fun _ => False) N T D l (fun _ => 0)) (hx : x < 40) (hd : q.1 15 3 x = 0) (ha : a < 8) (hb : b < 6) (h1 : -50 ≤ Q) (h2 : Q ≤ 50) (h0 : ¬ Q = 0) (hN : N + 1 ≤ 1000000)
    (hp : ∀ k i S, ¬ (k = 10 ∧ i = x + 1 ∧ (S = 1 ∨ S = 10 ∨ S = 13 ∨ S = 14)) → p'.1 k i S = (cNw p x N (a + 1) (b + 1) (if 0 < Q then cn 1 else cn 0) (cn Q.natAbs) (cn z) life).1 k i S) (hp2 : p'.2 = (cNw p x N (a + 1) (b + 1) (if 0 < Q then cn 1 else cn 0) (cn Q.natAbs) (cn z) life).2)
    (hq : ∀ k i S, ¬ (k = 13 ∧ S = x ∧ (i = 21 ∨ i = 26 ∨ i = 27)) → q'.1 k i S = (rNw q x N (cn a) (cn b) (if 0 < Q then cn 1 else cn 0) (cn Q.natAbs) any lim kind life).1 k i S) (hq2 : q'.2 = q.2)
    (hk : KindR (p'.1 10 (x + 1) 1) kind) (hs : 1 ≤ s ∧ s ≤ 50 ∧ p'.1 10 (x + 1) 10 = cn s ∧ q'.1 13 21 x = cn s ∧ (kind = cn 1 ∨ (Q.natAbs : Int) ≤ s)) (hl : (any = cn 1 ∧ z = -100000) ∨ (any = cn 0 ∧ PrB b z ∧ lim = cn z))
    (hpeg : kind = cn 2 → any = cn 0 ∧ ∃ o : Int, 0 ≤ o ∧ o ≤ 99 ∧ p'.1 10 (x + 1) 13 = cn o ∧ q'.1 13 26 x = cn o) (hst : kind = cn 3 → p'.1 10 (x + 1) 14 = q'.1 13 27 x)
    (hx' : (x' = x ∧ ¬ kind = cn 3) ∨ (x' = 99 ∧ (kind = cn 2 ∨ kind = cn 3)))
    (hQ : kind = cn 4 → ∀ i, i < 40 → ¬ i = x → q.1 15 3 i = cn 1 → q.1 13 19 i = cn 4 → q.1 13 15 i = cn a → q.1 13 16 i = cn b → ¬ q.1 15 4 i = if 0 < Q then cn 1 else cn 0) : WW p' q' lg x' 99 (fun _ => False) (N + 1) T D l (fun _ => 0) ∧ RS q' 40 = RS q 40 + Q.natAbs ∧ q'.1 15 3 x = cn 1 ∧ q'.1 13 16 x = cn b ∧ q'.1 13 19 x = kind ∧ p'.1 10 (x + 1) 0 = cn N ∧ q'.1 13 14 x = cn N ∧ q'.1 12 1 39 = cn (N + 1 : Nat) := by
  have c : ∀ S, ¬ (S = 1 ∨ S = 10 ∨ S = 13 ∨ S = 14) → p'.1 10 (x + 1) S = (cNw p x N (a + 1) (b + 1) (if 0 < Q then cn 1 else cn 0) (cn Q.natAbs) (cn z) life).1 10 (x + 1) S := fun S h => hp 10 (x + 1) S fun e => h e.2.2
  have d : ∀ K, ¬ (K = 21 ∨ K = 26 ∨ K = 27) → q'.1 13 K x = (rNw q x N (cn a) (cn b) (if 0 < Q then cn 1 else cn 0) (cn Q.natAbs) any lim kind life).1 13 K x := fun K h => hq 13 K x fun e => h e.2.2
  have d15 : ∀ K, q'.1 15 K x = (rNw q x N (cn a) (cn b) (if 0 < Q then cn 1 else cn 0) (cn Q.natAbs) any lim kind life).1 15 K x := fun K => hq 15 K x fun e => absurd e.1 (by decide)
  have hna : 1 ≤ (Q.natAbs : Int) ∧ (Q.natAbs : Int) ≤ 50 := by omega
  have c0 : p'.1 10 (x + 1) 0 = cn N := by
    rw [c 0 (by decide)]
    unfold cNw
    simp (decide := true) only [pI_1, pI_J, pI_R, u3_same, u3_k, u3_i, u3_s, not_false_eq_true]
    simp (decide := true) only [pR_1, pI_1, u3_same, u3_k, u3_s, not_false_eq_true]
  have c2 : p'.1 10 (x + 1) 2 = cn 2 := by
    rw [c 2 (by decide)]
    unfold cNw
    simp (decide := true) only [pR_1, pI_1, u3_same, u3_k, u3_s, not_false_eq_true]
  have c5 : p'.1 10 (x + 1) 5 = if 0 < Q then cn 1 else cn 0 := by
    rw [c 5 (by decide)]
    unfold cNw
    simp (decide := true) only [pR_1, pI_1, u3_same, u3_k, u3_s, not_false_eq_true]
  have c6 : p'.1 10 (x + 1) 6 = cn z := by
    rw [c 6 (by decide)]
    unfold cNw
    simp (decide := true) only [pR_1, pI_1, u3_same, u3_k, u3_s, not_false_eq_true]
  have c7 : p'.1 10 (x + 1) 7 = cn (-100000) := by
    rw [c 7 (by decide)]
    unfold cNw
    simp (decide := true) only [pR_1, pI_1, u3_same, u3_k, u3_s, not_false_eq_true]
  have c8 : p'.1 10 (x + 1) 8 = life := by
    rw [c 8 (by decide)]
    unfold cNw
    simp (decide := true) only [pR_1, pI_1, u3_same, u3_k, u3_s, not_false_eq_true]
  have c9 : p'.1 10 (x + 1) 9 = cn Q.natAbs := by
    rw [c 9 (by decide)]
    unfold cNw
    simp (decide := true) only [pR_1, pI_1, u3_same, u3_k, u3_s, not_false_eq_true]
  have c16 : p'.1 10 (x + 1) 16 = cn 0 := by
    rw [c 16 (by decide)]
    unfold cNw
    simp (decide := true) only [pR_1, pI_1, u3_same, u3_k, u3_s, not_false_eq_true]
  have r3 : p'.2.2 10 (x + 1) 3 = a + 1 := by
    rw [hp2, cNw_R, u3_s (by decide), u3_same]
  have r4 : p'.2.2 10 (x + 1) 4 = b + 1 := by
    rw [hp2, cNw_R, u3_same]
  have d14 : q'.1 13 14 x = cn N := by
    rw [d 14 (by decide)]
    unfold rNw
    simp (decide := true) only [pI_1, u3_same, u3_k, u3_i, not_false_eq_true]
  have d15' : q'.1 13 15 x = cn a := by
    rw [d 15 (by decide)]
    unfold rNw
    simp (decide := true) only [pI_1, u3_same, u3_k, u3_i, not_false_eq_true]
  have d16 : q'.1 13 16 x = cn b := by
    rw [d 16 (by decide)]
    unfold rNw
    simp (decide := true) only [pI_1, u3_same, u3_k, u3_i, not_false_eq_true]
  have d17 : q'.1 13 17 x = cn Q.natAbs := by
    rw [d 17 (by decide)]
    unfold rNw
    simp (decide := true) only [pI_1, u3_same, u3_k, u3_i, not_false_eq_true]
  have d18 : q'.1 13 18 x = lim := by
    rw [d 18 (by decide)]
    unfold rNw
    simp (decide := true) only [pI_1, u3_same, u3_k, u3_i, not_false_eq_true]
  have d19 : q'.1 13 19 x = kind := by
    rw [d 19 (by decide)]
    unfold rNw
    simp (decide := true) only [pI_1, u3_same, u3_k, u3_i, not_false_eq_true]
  have d20 : q'.1 13 20 x = life := by
    rw [d 20 (by decide)]
    unfold rNw
    simp (decide := true) only [pI_1, u3_same, u3_k, u3_i, not_false_eq_true]
  have d24 : q'.1 13 24 x = cn 2 := by
    rw [d 24 (by decide)]
    unfold rNw
    simp (decide := true) only [pI_1, u3_same, u3_k, u3_i, not_false_eq_true]
  have f3 : q'.1 15 3 x = cn 1 := by
    rw [d15 3]
    unfold rNw
    simp (decide := true) only [pI_1, u3_same, u3_k, u3_i, not_false_eq_true]
  have f4 : q'.1 15 4 x = if 0 < Q then cn 1 else cn 0 := by
    rw [d15 4]
    unfold rNw
    simp (decide := true) only [pI_1, u3_same, u3_k, u3_i, not_false_eq_true]
  have f5 : q'.1 15 5 x = any := by
    rw [d15 5]
    unfold rNw
    simp (decide := true) only [pI_1, u3_same, u3_k, u3_i, not_false_eq_true]
  have f6 : q'.1 15 6 x = cn 0 := by
    rw [d15 6]
    unfold rNw
    simp (decide := true) only [pI_1, u3_same, u3_k, u3_i, not_false_eq_true]
  have hb01 : b01 (if 0 < Q then cn 1 else cn 0) := by
    split
    · exact b1
    · exact b0
  have hL : LV p' q' x' 99 x a b (Q.natAbs : Int) s z := by
    unfold LV
    rw [c0, c5, c6, c8, c9, c16, r3, r4, d14, d15', d16, d17, d18, d19, d20, f4, f5, f6]
    refine ⟨⟨ha, rfl, rfl⟩, ⟨hb, rfl, rfl⟩, rfl, hk, ⟨rfl, hb01⟩, ⟨rfl, hl⟩, rfl, ⟨hna.1, hna.2, rfl, rfl⟩, hs, hpeg, hst, ⟨rfl, b0⟩, ?_⟩
    rcases hx' with ⟨e, e2⟩ | ⟨e, e2⟩
    · exact Or.inl ⟨e.symm, c2, Or.inr d24, c7, fun h => absurd (d19.symm.trans h) e2⟩
    · exact Or.inr (Or.inr ⟨by omega, c2, d24, c7, by rw [d19]; exact e2⟩)
  obtain ⟨W, R⟩ := ww_new (x' := x') (a := a) (b := b) (r := (Q.natAbs : Int)) (s := s) (z := z) H hx hd
    (fun i S h => (hp 10 i S fun e => h e.2.1).trans (cNw_i i S h))
    (fun i S h => by rw [hp2, cNw_R, u3_i h, u3_i h])
    (fun K k1 k2 => by
      funext i S
      rw [hp K i S fun e => k1 e.1, cNw_k K k1 k2])
    (fun K h => by
      funext i S
      rw [hp2, cNw_R, u3_k h, u3_k h])
    (fun S h => (hp 6 1 S fun e => absurd e.1 (by decide)).trans (cNw_6 S h))
    (by rw [hp2, cNw_J])
    ((hp 6 1 4 fun e => absurd e.1 (by decide)).trans cNw_64)
    (fun K h => by
      funext i
      rw [hq 13 K i fun e => by omega, rNw_13 K h])
    (fun K i h => (hq 13 K i fun e => h e.2.1).trans (rNw_13x K i h))
    ((hq 12 1 95 fun e => absurd e.1 (by decide)).trans rNw_L)
    (fun K h => by
      funext i
      rw [hq 15 K i fun e => absurd e.1 (by decide), rNw_15 K h])
    (fun K i h => (hq 15 K i fun e => absurd e.1 (by decide)).trans (rNw_15x K i h))
    (fun S h h9 => (hq 12 1 S fun e => absurd e.1 (by decide)).trans (rNw_12 S h h9))
    ((hq 12 1 39 fun e => absurd e.1 (by decide)).trans rNw_39)
    hq2 f3 d24 d14 hL (fun i hi h => by
      rcases hx' with ⟨e, -⟩ | ⟨e, -⟩
      · exact propext ⟨fun k => by omega, fun k => by omega⟩
      · rw [e]) hN (fun h => by
      rw [f4]
      exact hQ (d19.symm.trans h))
  exact ⟨W, R, f3, d16, d19, c0, d14, (hq 12 1 39 fun e => absurd e.1 (by decide)).trans rNw_39⟩
end Drawn
