/-! prices of trades stay low -/
def hi (b : Int32) (x y : Int) : Int := if b = cn 4 ∨ b = cn 5 then x else y
/-- what stands in the books, limits, prices: all low; M bounds the latest prices, the references and the rows of each contract -/
def PB (p : PM) (M : Nat → Int) : Prop := (∀ i, p.1 13 24 i = cn 1 → -100000 ≤ (p.1 13 25 i).toInt ∧ (p.1 13 25 i).toInt ≤ hi (p.1 13 16 i) 10 110 ∧ (¬ p.1 13 19 i = cn 2 → (p.1 13 25 i).toInt ≤ hi (p.1 13 16 i) 8 108)) ∧ (∀ i, -100000 ≤ (p.1 13 18 i).toInt ∧ (p.1 13 18 i).toInt ≤ hi (p.1 13 16 i) 8 108) ∧ (∀ i, 0 ≤ (p.1 13 26 i).toInt ∧ (p.1 13 26 i).toInt ≤ 2) ∧ (∀ c, c < 4 → (p.1 13 10 c).toInt ≤ M c ∧ (p.1 13 11 c).toInt ≤ M c) ∧ ∀ k c, c < 4 → p.1 15 8 k = cn 0 → p.1 13 30 k = cn ((c : Nat) : Int) → (p.1 13 33 k).toInt ≤ M c
def PF (q p : PM) (M : Nat → Int) : Prop := p.1 13 16 = q.1 13 16 ∧ PB p M
def PrB2 (b z : Int32) (M : Nat → Int) : Prop := ∀ c : Nat, c < 4 → b = cn c → z.toInt ≤ M c
def PrX (q : PM) (x z : Int32) (M : Nat → Int) : Prop := PrB2 (q.1 13 16 x.toNatClampNeg) z M
section Low
variable {q p r : PM} {M : Nat → Int}
theorem pb_c (h : ∀ i, i = 16 ∨ i = 24 ∨ i = 25 ∨ i = 19 ∨ i = 18 ∨ i = 26 ∨ i = 10 ∨ i = 11 ∨ i = 33 ∨ i = 30 → r.1 13 i = p.1 13 i) (h8 : r.1 15 8 = p.1 15 8) (H : PB p M) : PB r M := by
  unfold PB at H ⊢
  rw [h 16 (by omega), h 24 (by omega), h 25 (by omega), h 19 (by omega), h 18 (by omega), h 26 (by omega), h 10 (by omega), h 11 (by omega), h 33 (by omega), h 30 (by omega), h8]
  exact H
theorem pf_refl (H : PB p M) : PF p p M := ⟨rfl, H⟩
theorem pf_12 {s : Nat} {v : Int32} (h : PF q p M) : PF q (pI p 12 1 s v) M := by
  have e : ∀ i, (pI p 12 1 s v).1 13 i = p.1 13 i := fun i => by
    funext j
    rw [pI_1, u3_k (by decide)]
  refine ⟨(e 16).trans h.1, pb_c (fun i _ => e i) ?_ h.2⟩
  funext j
  rw [pI_1, u3_k (by decide)]
theorem pf_13 {i s : Nat} {v : Int32} (hi : ¬ (i = 16 ∨ i = 24 ∨ i = 25 ∨ i = 19 ∨ i = 18 ∨ i = 26 ∨ i = 10 ∨ i = 11 ∨ i = 33 ∨ i = 30)) (h : PF q p M) : PF q (pI p 13 i s v) M := by
  have e : ∀ j, (j = 16 ∨ j = 24 ∨ j = 25 ∨ j = 19 ∨ j = 18 ∨ j = 26 ∨ j = 10 ∨ j = 11 ∨ j = 33 ∨ j = 30) → (pI p 13 i s v).1 13 j = p.1 13 j := fun j hj => by
    funext k
    rw [pI_1, u3_i (fun e => hi (by rw [← e]; exact hj))]
  refine ⟨(e 16 (by omega)).trans h.1, pb_c e ?_ h.2⟩
  funext j
  rw [pI_1, u3_k (by decide)]
theorem pf_15 {i s : Nat} {v : Int32} (hi : ¬ i = 8) (h : PF q p M) : PF q (pI p 15 i s v) M := by
  have e : ∀ j, (pI p 15 i s v).1 13 j = p.1 13 j := fun j => by
    funext k
    rw [pI_1, u3_k (by decide)]
  refine ⟨(e 16).trans h.1, pb_c (fun i _ => e i) ?_ h.2⟩
  funext j
  rw [pI_1, u3_i (fun e => hi e.symm)]
theorem pf_pJ {k i s : Nat} {v : Int64} (h : PF q p M) : PF q (pJ p k i s v) M := h
theorem pf_24 {s : Nat} {v : Int32} (hv : ¬ v = cn 1) (h : PF q p M) : PF q (pI p 13 24 s v) M := by
  have e : ∀ j, ¬ j = 24 → (pI p 13 24 s v).1 13 j = p.1 13 j := fun j hj => by
    funext k
    rw [pI_1, u3_i hj]
  have e8 : (pI p 13 24 s v).1 15 8 = p.1 15 8 := by
    funext j
    rw [pI_1, u3_k (by decide)]
  obtain ⟨h0, h1, h2, h3, h4, h5⟩ := h
  refine ⟨(e 16 (by decide)).trans h0, ?_⟩
  unfold PB
  rw [e 25 (by decide), e 16 (by decide), e 19 (by decide), e 18 (by decide), e 26 (by decide), e 10 (by decide), e 11 (by decide), e 33 (by decide), e 30 (by decide), e8]
  refine ⟨fun i hi => ?_, h2, h3, h4, h5⟩
  rw [pI_1] at hi
  by_cases ei : i = s
  · rw [ei, u3_same] at hi
    exact absurd hi hv
  · rw [u3_s ei] at hi
    exact h1 i hi
theorem pf_26 {s : Nat} {v : Int32} (hv : 0 ≤ v.toInt ∧ v.toInt ≤ 2) (h : PF q p M) : PF q (pI p 13 26 s v) M := by
  have e : ∀ j, ¬ j = 26 → (pI p 13 26 s v).1 13 j = p.1 13 j := fun j hj => by
    funext k
    rw [pI_1, u3_i hj]
  have e8 : (pI p 13 26 s v).1 15 8 = p.1 15 8 := by
    funext j
    rw [pI_1, u3_k (by decide)]
  obtain ⟨h0, h1, h2, h3, h4, h5⟩ := h
  refine ⟨(e 16 (by decide)).trans h0, ?_⟩
  unfold PB
  rw [e 25 (by decide), e 16 (by decide), e 19 (by decide), e 18 (by decide), e 24 (by decide), e 10 (by decide), e 11 (by decide), e 33 (by decide), e 30 (by decide), e8]
  refine ⟨h1, h2, fun i => ?_, h4, h5⟩
  rw [pI_1]
  by_cases ei : i = s
  · rw [ei, u3_same]
    exact hv
  · rw [u3_s ei]
    exact h3 i
/-- a latest price, or a reference -/
theorem pf_10 {j s : Nat} {v : Int32} (hj : j = 10 ∨ j = 11) (hv : ∀ c, c < 4 → c = s → v.toInt ≤ M c) (h : PF q p M) : PF q (pI p 13 j s v) M := by
  have e : ∀ i, ¬ i = j → (pI p 13 j s v).1 13 i = p.1 13 i := fun i hi => by
    funext k
    rw [pI_1, u3_i hi]
  have e8 : (pI p 13 j s v).1 15 8 = p.1 15 8 := by
    funext k
    rw [pI_1, u3_k (by decide)]
  obtain ⟨h0, h1, h2, h3, h4, h5⟩ := h
  refine ⟨(e 16 (by omega)).trans h0, ?_⟩
  unfold PB
  rw [e 24 (by omega), e 25 (by omega), e 16 (by omega), e 19 (by omega), e 18 (by omega), e 26 (by omega), e 33 (by omega), e 30 (by omega), e8]
  refine ⟨h1, h2, h3, fun c hc => ?_, h5⟩
  have w : (pI p 13 j s v).1 13 j c = if c = s then v else p.1 13 j c := by
    rw [pI_1]
    by_cases ec : c = s
    · rw [if_pos ec, ec, u3_same]
    · rw [if_neg ec, u3_s ec]
  obtain ⟨k1, k2⟩ := h4 c hc
  rcases hj with rfl | rfl
  · rw [e 11 (by decide), w]
    refine ⟨?_, k2⟩
    by_cases ec : c = s
    · rw [if_pos ec]
      exact hv c hc ec
    · rw [if_neg ec]
      exact k1
  · rw [e 10 (by decide), w]
    refine ⟨k1, ?_⟩
    by_cases ec : c = s
    · rw [if_pos ec]
      exact hv c hc ec
    · rw [if_neg ec]
      exact k2
/-- an order stands at a price -/
theorem pf_book {s : Nat} {v : Int32} (hv : -100000 ≤ v.toInt ∧ v.toInt ≤ hi (p.1 13 16 s) 10 110 ∧ (¬ p.1 13 19 s = cn 2 → v.toInt ≤ hi (p.1 13 16 s) 8 108)) (h : PF q p M) : PF q (pI (pI p 13 24 s (cn 1)) 13 25 s v) M := by
  have e : ∀ j, ¬ j = 24 → ¬ j = 25 → (pI (pI p 13 24 s (cn 1)) 13 25 s v).1 13 j = p.1 13 j := fun j h1 h2 => by
    funext k
    rw [pI_1, u3_i h2, pI_1, u3_i h1]
  have e8 : (pI (pI p 13 24 s (cn 1)) 13 25 s v).1 15 8 = p.1 15 8 := by
    funext k
    rw [pI_1, u3_k (by decide), pI_1, u3_k (by decide)]
  obtain ⟨h0, h1, h2, h3, h4, h5⟩ := h
  refine ⟨(e 16 (by decide) (by decide)).trans h0, ?_⟩
  unfold PB
  rw [e 16 (by decide) (by decide), e 19 (by decide) (by decide), e 18 (by decide) (by decide), e 26 (by decide) (by decide), e 10 (by decide) (by decide), e 11 (by decide) (by decide), e 33 (by decide) (by decide), e 30 (by decide) (by decide), e8]
  refine ⟨fun i hi2 => ?_, h2, h3, h4, h5⟩
  by_cases ei : i = s
  · rw [ei, pI_at]
    exact hv
  · rw [pI_1, u3_i (by decide), pI_1, u3_s ei] at hi2
    rw [pI_1, u3_s ei, pI_1, u3_i (by decide)]
    exact h1 i hi2
theorem hi_le {b : Int32} {x y z : Int} (h1 : x ≤ z) (h2 : y ≤ z) : hi b x y ≤ z := by
  unfold hi
  split
  · exact h1
  · exact h2
theorem hi_mono {b : Int32} {x y x' y' : Int} (h1 : x ≤ x') (h2 : y ≤ y') : hi b x y ≤ hi b x' y' := by
  unfold hi
  split
  · exact h1
  · exact h2
/-- a trade is written down -/
theorem pf_deals {v1 v2 v3 v4 v5 : Int32} (hz : PrB2 v1 v4 M) (h : PF q p M) : PF q (v12_deals p v1 v2 v3 v4 v5) M := by
  unfold v12_deals
  by_cases g : (0 ≤ v1.toInt ∧ v1.toInt < 6) ∧ (0 ≤ v2.toInt ∧ v2.toInt < 8) ∧ (0 ≤ v3.toInt ∧ v3.toInt < 8) ∧ (-9999 ≤ v4.toInt ∧ v4.toInt ≤ 9999) ∧ (1 ≤ v5.toInt ∧ v5.toInt ≤ 50)
  · rw [if_pos g]
    have ho : ∀ {P : PM} {a b n z : Int32}, PF q P M → PF q (v12_holds P a b n z) M := by
      intro P a b n z h
      unfold v12_holds bv12_holds
      dsimp only
      split
      · exact pf_pJ (pf_13 (by decide) h)
      · exact pf_pJ (pf_13 (by decide) (pf_13 (by decide) h))
    have e1 : v1 = cn ((v1.toInt.toNat : Nat) : Int) := by
      have : ((v1.toInt.toNat : Nat) : Int) = v1.toInt := by omega
      rw [this]
      exact cn_of v1
    have key : ∀ (R : PM) (x : Nat), PF q R M → PF q (pI (pI (pI (pI (pI (pI (pI R 13 30 x v1) 13 31 x v2) 13 32 x v3) 13 33 x v4) 13 34 x v5) 15 7 x (cn 0)) 15 8 x (cn 0)) M := by
      intro R x H
      obtain ⟨h0, h1, h2, h3, h4, h5⟩ := H
      obtain ⟨Z, hZ⟩ : ∃ Z, pI (pI (pI (pI (pI (pI (pI R 13 30 x v1) 13 31 x v2) 13 32 x v3) 13 33 x v4) 13 34 x v5) 15 7 x (cn 0)) 15 8 x (cn 0) = Z := ⟨_, rfl⟩
      rw [hZ]
      have e : ∀ j, (j < 30 ∨ 34 < j) → Z.1 13 j = R.1 13 j := fun j hj => by
        funext k
        rw [← hZ, pI_1, u3_k (by decide), pI_1, u3_k (by decide), pI_1, u3_i (by omega), pI_1, u3_i (by omega), pI_1, u3_i (by omega), pI_1, u3_i (by omega), pI_1, u3_i (by omega)]
      have x30 : Z.1 13 30 x = v1 := by
        rw [← hZ, pI_1, u3_k (by decide), pI_1, u3_k (by decide), pI_1, u3_i (by decide), pI_1, u3_i (by decide), pI_1, u3_i (by decide), pI_1, u3_i (by decide), pI_at]
      have x33 : Z.1 13 33 x = v4 := by
        rw [← hZ, pI_1, u3_k (by decide), pI_1, u3_k (by decide), pI_1, u3_i (by decide), pI_at]
      have xs : ∀ k, ¬ k = x → Z.1 13 30 k = R.1 13 30 k ∧ Z.1 13 33 k = R.1 13 33 k ∧ Z.1 15 8 k = R.1 15 8 k := fun k hk => by
        refine ⟨?_, ?_, ?_⟩
        · rw [← hZ, pI_1, u3_k (by decide), pI_1, u3_k (by decide), pI_1, u3_s hk, pI_1, u3_s hk, pI_1, u3_s hk, pI_1, u3_s hk, pI_1, u3_s hk]
        · rw [← hZ, pI_1, u3_k (by decide), pI_1, u3_k (by decide), pI_1, u3_s hk, pI_1, u3_s hk, pI_1, u3_s hk, pI_1, u3_s hk, pI_1, u3_s hk]
        · rw [← hZ, pI_1, u3_s hk, pI_1, u3_s hk, pI_1, u3_k (by decide), pI_1, u3_k (by decide), pI_1, u3_k (by decide), pI_1, u3_k (by decide), pI_1, u3_k (by decide)]
      refine ⟨(e 16 (by omega)).trans h0, ?_⟩
      unfold PB
      rw [e 24 (by omega), e 25 (by omega), e 16 (by omega), e 19 (by omega), e 18 (by omega), e 26 (by omega), e 10 (by omega), e 11 (by omega)]
      refine ⟨h1, h2, h3, h4, fun k c hc k1 k2 => ?_⟩
      by_cases ek : k = x
      · rw [ek, x30] at k2
        rw [ek, x33]
        exact hz c hc k2
      · obtain ⟨y1, y2, y3⟩ := xs k ek
        rw [y3] at k1
        rw [y1] at k2
        rw [y2]
        exact h5 k c hc k1 k2
    unfold bv12_deals
    dsimp only
    refine pf_10 (Or.inl rfl) (fun c hc ec => hz c hc ?_) (pf_12 (key _ _ (ho (ho h))))
    rw [ec]
    have : v1.toNatClampNeg = v1.toInt.toNat := rfl
    rw [this]
    exact e1
  · rw [if_neg g]
    exact h
/-- the best price -/
theorem there_f {v b s : Int32} (h : ¬ v12_isThere p v b s = 0) : p.1 13 24 v.toNatClampNeg = cn 1 ∧ p.1 13 16 v.toNatClampNeg = b := by
  have c0 : cn 0 = (0 : Int32) := rfl
  unfold v12_isThere bv12_isThere at h
  split at h
  · exact absurd c0 h
  · split at h
    · next h1 =>
      split at h
      · next h2 => exact ⟨h1, h2⟩
      · exact absurd c0 h
    · exact absurd c0 h
theorem bo_loop (H : PB p M) (v1 v2 v3 : Int32) : ∀ (n : Nat) (v4 v5 : Int32), (-100000 ≤ v4.toInt ∧ v4.toInt ≤ hi v1 10 110 ∧ (v3 = 0 → v4.toInt ≤ hi v1 8 108)) → (-100000 ≤ (v12_bestOf_7 p n v1 v2 v3 v4 v5).toInt ∧ (v12_bestOf_7 p n v1 v2 v3 v4 v5).toInt ≤ hi v1 10 110 ∧ (v3 = 0 → (v12_bestOf_7 p n v1 v2 v3 v4 v5).toInt ≤ hi v1 8 108)) := by
  intro n
  induction n with
  | zero =>
    intro v4 v5 _
    have e : (v12_bestOf_7 p 0 v1 v2 v3 v4 v5).toInt = 0 := by
      show (0 : Int32).toInt = 0
      decide
    rw [e]
    refine ⟨by decide, ?_, fun _ => ?_⟩
    · unfold hi
      split <;> decide
    · unfold hi
      split <;> decide
  | succ n ih =>
    intro v4 v5 h
    have at_ : ¬ v12_isThere p v5 v1 v2 = 0 → (v3 = 0 → ¬ p.1 13 19 v5.toNatClampNeg = cn 2) → (-100000 ≤ (p.1 13 25 v5.toNatClampNeg).toInt ∧ (p.1 13 25 v5.toNatClampNeg).toInt ≤ hi v1 10 110 ∧ (v3 = 0 → (p.1 13 25 v5.toNatClampNeg).toInt ≤ hi v1 8 108)) := by
      intro h1 h2
      obtain ⟨k1, k2⟩ := there_f h1
      obtain ⟨a1, a2, a3⟩ := H.1 _ k1
      rw [k2] at a2 a3
      exact ⟨a1, a2, fun h3 => a3 (h2 h3)⟩
    rw [ev12_bestOf_7]
    unfold bv12_bestOf_7
    split
    · split
      · exact ih _ _ h
      · next ht =>
        split
        · split
          · split
            · exact ih _ _ h
            · next hk =>
              split
              · exact ih _ _ (at_ ht fun _ => hk)
              · split
                · exact ih _ _ h
                · exact ih _ _ (at_ ht fun _ => hk)
          · next h3 =>
            split
            · exact ih _ _ (at_ ht fun h => absurd h h3)
            · split
              · exact ih _ _ h
              · exact ih _ _ (at_ ht fun h => absurd h h3)
        · exact ih _ _ h
    · exact h
theorem bo_e (H : PB p M) (v1 v2 v3 : Int32) : -100000 ≤ (v12_bestOf p v1 v2 v3).toInt ∧ (v12_bestOf p v1 v2 v3).toInt ≤ hi v1 10 110 ∧ (v3 = 0 → (v12_bestOf p v1 v2 v3).toInt ≤ hi v1 8 108) := by
  have e : (cn (-100000)).toInt = -100000 := by decide
  unfold v12_bestOf bv12_bestOf
  refine bo_loop H v1 v2 v3 _ _ _ ⟨by rw [e]; decide, ?_, fun _ => ?_⟩
  · rw [e]
    unfold hi
    split <;> decide
  · rw [e]
    unfold hi
    split <;> decide
theorem bo_pr (hM : ∀ c, 120 ≤ M c) (H : PB p M) (b s t : Int32) : PrB2 b (v12_bestOf p b s t) M := by
  intro c hc _
  have h := (bo_e H b s t).2.1
  have h2 := hi_le (b := b) (x := 10) (y := 110) (z := 110) (by decide) (by decide)
  have h3 := hM c
  omega
theorem price_rng {p : PM} {b z : Int32} (h : ¬ v12_isPrice p b z = 0) : -9999 ≤ z.toInt ∧ z.toInt ≤ 9999 := by
  unfold v12_isPrice bv12_isPrice at h
  split at h
  · obtain ⟨w, w1, w2, w3⟩ := isW_z (v := z) (a := 1) (b := 9999) ⟨by decide, by decide⟩ ⟨by decide, by decide⟩ h
    rw [w3, cn_I ⟨by omega, by omega⟩]
    omega
  · obtain ⟨w, w1, w2, w3⟩ := isW_z (v := z) (a := -9999) (b := 9999) ⟨by decide, by decide⟩ ⟨by decide, by decide⟩ h
    rw [w3, cn_I ⟨by omega, by omega⟩]
    omega
end Low
