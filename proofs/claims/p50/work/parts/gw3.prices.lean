/-! prices of trades stay low -/
def hi (b : Int32) (x y : Int) : Int := if b = cn 4 ∨ b = cn 5 then x else y
/-- what stands in the books, limits, prices: all low; M bounds the latest prices, the references and the rows of each contract -/
def PrL (p : PM) (M : Nat → Int) : Prop := (∀ i, p.1 13 24 i = cn 1 → -100000 ≤ (p.1 13 25 i).toInt ∧ (p.1 13 25 i).toInt ≤ hi (p.1 13 16 i) 10 110 ∧ (¬ p.1 13 19 i = cn 2 → (p.1 13 25 i).toInt ≤ hi (p.1 13 16 i) 8 108)) ∧ (∀ i, -100000 ≤ (p.1 13 18 i).toInt ∧ (p.1 13 18 i).toInt ≤ hi (p.1 13 16 i) 8 108) ∧ (∀ i, 0 ≤ (p.1 13 26 i).toInt ∧ (p.1 13 26 i).toInt ≤ 2) ∧ (∀ c, c < 4 → (p.1 13 10 c).toInt ≤ M c ∧ (p.1 13 11 c).toInt ≤ M c) ∧ ∀ k, k < 60 → (0 ≤ (p.1 13 30 k).toInt ∧ (p.1 13 30 k).toInt ≤ 5) ∧ ∀ c, c < 4 → p.1 15 8 k = cn 0 → (p.1 13 30 k).toNatClampNeg = c → (p.1 13 33 k).toInt ≤ M c
def PrF (q p : PM) (M : Nat → Int) : Prop := p.1 13 16 = q.1 13 16 ∧ PrL p M
def PrB2 (b z : Int32) (M : Nat → Int) : Prop := ∀ c : Nat, c < 4 → b.toNatClampNeg = c → z.toInt ≤ M c
def PrX (q : PM) (x z : Int32) (M : Nat → Int) : Prop := PrB2 (q.1 13 16 x.toNatClampNeg) z M
section Low
variable {q p r : PM} {M : Nat → Int}
theorem pb_c (h : ∀ i, i = 16 ∨ i = 24 ∨ i = 25 ∨ i = 19 ∨ i = 18 ∨ i = 26 ∨ i = 10 ∨ i = 11 ∨ i = 33 ∨ i = 30 → r.1 13 i = p.1 13 i) (h8 : r.1 15 8 = p.1 15 8) (H : PrL p M) : PrL r M := by
  unfold PrL at H ⊢
  rw [h 16 (by omega), h 24 (by omega), h 25 (by omega), h 19 (by omega), h 18 (by omega), h 26 (by omega), h 10 (by omega), h 11 (by omega), h 33 (by omega), h 30 (by omega), h8]
  exact H
theorem pf_refl (H : PrL p M) : PrF p p M := ⟨rfl, H⟩
theorem pf_12 {s : Nat} {v : Int32} (h : PrF q p M) : PrF q (pI p 12 1 s v) M := by
  have e : ∀ i, (pI p 12 1 s v).1 13 i = p.1 13 i := fun i => by
    funext j
    rw [pI_1, u3_k (by decide)]
  refine ⟨(e 16).trans h.1, pb_c (fun i _ => e i) ?_ h.2⟩
  funext j
  rw [pI_1, u3_k (by decide)]
theorem pf_13 {i s : Nat} {v : Int32} (hi : ¬ (i = 16 ∨ i = 24 ∨ i = 25 ∨ i = 19 ∨ i = 18 ∨ i = 26 ∨ i = 10 ∨ i = 11 ∨ i = 33 ∨ i = 30)) (h : PrF q p M) : PrF q (pI p 13 i s v) M := by
  have e : ∀ j, (j = 16 ∨ j = 24 ∨ j = 25 ∨ j = 19 ∨ j = 18 ∨ j = 26 ∨ j = 10 ∨ j = 11 ∨ j = 33 ∨ j = 30) → (pI p 13 i s v).1 13 j = p.1 13 j := fun j hj => by
    funext k
    rw [pI_1, u3_i (fun e => hi (by rw [← e]; exact hj))]
  refine ⟨(e 16 (by omega)).trans h.1, pb_c e ?_ h.2⟩
  funext j
  rw [pI_1, u3_k (by decide)]
theorem pf_15 {i s : Nat} {v : Int32} (hi : ¬ i = 8) (h : PrF q p M) : PrF q (pI p 15 i s v) M := by
  have e : ∀ j, (pI p 15 i s v).1 13 j = p.1 13 j := fun j => by
    funext k
    rw [pI_1, u3_k (by decide)]
  refine ⟨(e 16).trans h.1, pb_c (fun i _ => e i) ?_ h.2⟩
  funext j
  rw [pI_1, u3_i (fun e => hi e.symm)]
theorem pf_pJ {k i s : Nat} {v : Int64} (h : PrF q p M) : PrF q (pJ p k i s v) M := h
theorem pf_24 {s : Nat} {v : Int32} (hv : ¬ v = cn 1) (h : PrF q p M) : PrF q (pI p 13 24 s v) M := by
  have e : ∀ j, ¬ j = 24 → (pI p 13 24 s v).1 13 j = p.1 13 j := fun j hj => by
    funext k
    rw [pI_1, u3_i hj]
  have e8 : (pI p 13 24 s v).1 15 8 = p.1 15 8 := by
    funext j
    rw [pI_1, u3_k (by decide)]
  obtain ⟨h0, h1, h2, h3, h4, h5⟩ := h
  refine ⟨(e 16 (by decide)).trans h0, ?_⟩
  unfold PrL
  rw [e 25 (by decide), e 16 (by decide), e 19 (by decide), e 18 (by decide), e 26 (by decide), e 10 (by decide), e 11 (by decide), e 33 (by decide), e 30 (by decide), e8]
  refine ⟨fun i hi => ?_, h2, h3, h4, h5⟩
  rw [pI_1] at hi
  by_cases ei : i = s
  · rw [ei, u3_same] at hi
    exact absurd hi hv
  · rw [u3_s ei] at hi
    exact h1 i hi
theorem pf_26 {s : Nat} {v : Int32} (hv : 0 ≤ v.toInt ∧ v.toInt ≤ 2) (h : PrF q p M) : PrF q (pI p 13 26 s v) M := by
  have e : ∀ j, ¬ j = 26 → (pI p 13 26 s v).1 13 j = p.1 13 j := fun j hj => by
    funext k
    rw [pI_1, u3_i hj]
  have e8 : (pI p 13 26 s v).1 15 8 = p.1 15 8 := by
    funext j
    rw [pI_1, u3_k (by decide)]
  obtain ⟨h0, h1, h2, h3, h4, h5⟩ := h
  refine ⟨(e 16 (by decide)).trans h0, ?_⟩
  unfold PrL
  rw [e 25 (by decide), e 16 (by decide), e 19 (by decide), e 18 (by decide), e 24 (by decide), e 10 (by decide), e 11 (by decide), e 33 (by decide), e 30 (by decide), e8]
  refine ⟨h1, h2, fun i => ?_, h4, h5⟩
  rw [pI_1]
  by_cases ei : i = s
  · rw [ei, u3_same]
    exact hv
  · rw [u3_s ei]
    exact h3 i
/-- a latest price, or a reference -/
theorem pf_10 {j s : Nat} {v : Int32} (hj : j = 10 ∨ j = 11) (hv : ∀ c, c < 4 → c = s → v.toInt ≤ M c) (h : PrF q p M) : PrF q (pI p 13 j s v) M := by
  have e : ∀ i, ¬ i = j → (pI p 13 j s v).1 13 i = p.1 13 i := fun i hi => by
    funext k
    rw [pI_1, u3_i hi]
  have e8 : (pI p 13 j s v).1 15 8 = p.1 15 8 := by
    funext k
    rw [pI_1, u3_k (by decide)]
  obtain ⟨h0, h1, h2, h3, h4, h5⟩ := h
  refine ⟨(e 16 (by omega)).trans h0, ?_⟩
  unfold PrL
  rw [e 24 (by omega), e 25 (by omega), e 16 (by omega), e 19 (by omega), e 18 (by omega), e 26 (by omega), e 33 (by omega), e 30 (by omega), e8]
  refine ⟨h1, h2, h3, fun c hc => ?_, h5⟩
  have w : (pI p 13 j s v).1 13 j c = if c = s then v else p.1 13 j c := by
    rw [pI_1]
    by_cases ec : c = s
    · rw [if_pos ec, ec, u3_same]
    · rw [if_neg ec, u3_s ec]
  obtain ⟨k1, k2⟩ := h4 c hc
  rcases hj with rfl | rfl
  · rw [e 11 (by decide), w]
    refine ⟨?_, k2⟩
    by_cases ec : c = s
    · rw [if_pos ec]
      exact hv c hc ec
    · rw [if_neg ec]
      exact k1
  · rw [e 10 (by decide), w]
    refine ⟨k1, ?_⟩
    by_cases ec : c = s
    · rw [if_pos ec]
      exact hv c hc ec
    · rw [if_neg ec]
      exact k2
/-- an order stands at a price -/
theorem pf_book {s : Nat} {v : Int32} (hv : -100000 ≤ v.toInt ∧ v.toInt ≤ hi (p.1 13 16 s) 10 110 ∧ (¬ p.1 13 19 s = cn 2 → v.toInt ≤ hi (p.1 13 16 s) 8 108)) (h : PrF q p M) : PrF q (pI (pI p 13 24 s (cn 1)) 13 25 s v) M := by
  have e : ∀ j, ¬ j = 24 → ¬ j = 25 → (pI (pI p 13 24 s (cn 1)) 13 25 s v).1 13 j = p.1 13 j := fun j h1 h2 => by
    funext k
    rw [pI_1, u3_i h2, pI_1, u3_i h1]
  have e8 : (pI (pI p 13 24 s (cn 1)) 13 25 s v).1 15 8 = p.1 15 8 := by
    funext k
    rw [pI_1, u3_k (by decide), pI_1, u3_k (by decide)]
  obtain ⟨h0, h1, h2, h3, h4, h5⟩ := h
  refine ⟨(e 16 (by decide) (by decide)).trans h0, ?_⟩
  unfold PrL
  rw [e 16 (by decide) (by decide), e 19 (by decide) (by decide), e 18 (by decide) (by decide), e 26 (by decide) (by decide), e 10 (by decide) (by decide), e 11 (by decide) (by decide), e 33 (by decide) (by decide), e 30 (by decide) (by decide), e8]
  refine ⟨fun i hi2 => ?_, h2, h3, h4, h5⟩
  by_cases ei : i = s
  · rw [ei, pI_at]
    exact hv
  · rw [pI_1, u3_i (by decide), pI_1, u3_s ei] at hi2
    rw [pI_1, u3_s ei, pI_1, u3_i (by decide)]
    exact h1 i hi2
theorem hi_le {b : Int32} {x y z : Int} (h1 : x ≤ z) (h2 : y ≤ z) : hi b x y ≤ z := by
  unfold hi
  split
  · exact h1
  · exact h2
theorem hi_mono {b : Int32} {x y x' y' : Int} (h1 : x ≤ x') (h2 : y ≤ y') : hi b x y ≤ hi b x' y' := by
  unfold hi
  split
  · exact h1
  · exact h2
/-- a trade is written down -/
theorem pf_deals {v1 v2 v3 v4 v5 : Int32} (hz : PrB2 v1 v4 M) (h : PrF q p M) : PrF q (v12_deals p v1 v2 v3 v4 v5) M := by
  unfold v12_deals
  by_cases g : (0 ≤ v1.toInt ∧ v1.toInt < 6) ∧ (0 ≤ v2.toInt ∧ v2.toInt < 8) ∧ (0 ≤ v3.toInt ∧ v3.toInt < 8) ∧ (-9999 ≤ v4.toInt ∧ v4.toInt ≤ 9999) ∧ (1 ≤ v5.toInt ∧ v5.toInt ≤ 50)
  · rw [if_pos g]
    have ho : ∀ {P : PM} {a b n z : Int32}, PrF q P M → PrF q (v12_holds P a b n z) M := by
      intro P a b n z h
      unfold v12_holds bv12_holds
      dsimp only
      split
      · exact pf_pJ (pf_13 (by decide) h)
      · exact pf_pJ (pf_13 (by decide) (pf_13 (by decide) h))
    have key : ∀ (R : PM) (x : Nat), PrF q R M → PrF q (pI (pI (pI (pI (pI (pI (pI R 13 30 x v1) 13 31 x v2) 13 32 x v3) 13 33 x v4) 13 34 x v5) 15 7 x (cn 0)) 15 8 x (cn 0)) M := by
      intro R x H
      obtain ⟨h0, h1, h2, h3, h4, h5⟩ := H
      obtain ⟨Z, hZ⟩ : ∃ Z, pI (pI (pI (pI (pI (pI (pI R 13 30 x v1) 13 31 x v2) 13 32 x v3) 13 33 x v4) 13 34 x v5) 15 7 x (cn 0)) 15 8 x (cn 0) = Z := ⟨_, rfl⟩
      rw [hZ]
      have e : ∀ j, (j < 30 ∨ 34 < j) → Z.1 13 j = R.1 13 j := fun j hj => by
        funext k
        rw [← hZ, pI_1, u3_k (by decide), pI_1, u3_k (by decide), pI_1, u3_i (by omega), pI_1, u3_i (by omega), pI_1, u3_i (by omega), pI_1, u3_i (by omega), pI_1, u3_i (by omega)]
      have x30 : Z.1 13 30 x = v1 := by
        rw [← hZ, pI_1, u3_k (by decide), pI_1, u3_k (by decide), pI_1, u3_i (by decide), pI_1, u3_i (by decide), pI_1, u3_i (by decide), pI_1, u3_i (by decide), pI_at]
      have x33 : Z.1 13 33 x = v4 := by
        rw [← hZ, pI_1, u3_k (by decide), pI_1, u3_k (by decide), pI_1, u3_i (by decide), pI_at]
      have xs : ∀ k, ¬ k = x → Z.1 13 30 k = R.1 13 30 k ∧ Z.1 13 33 k = R.1 13 33 k ∧ Z.1 15 8 k = R.1 15 8 k := fun k hk => by
        refine ⟨?_, ?_, ?_⟩
        · rw [← hZ, pI_1, u3_k (by decide), pI_1, u3_k (by decide), pI_1, u3_s hk, pI_1, u3_s hk, pI_1, u3_s hk, pI_1, u3_s hk, pI_1, u3_s hk]
        · rw [← hZ, pI_1, u3_k (by decide), pI_1, u3_k (by decide), pI_1, u3_s hk, pI_1, u3_s hk, pI_1, u3_s hk, pI_1, u3_s hk, pI_1, u3_s hk]
        · rw [← hZ, pI_1, u3_s hk, pI_1, u3_s hk, pI_1, u3_k (by decide), pI_1, u3_k (by decide), pI_1, u3_k (by decide), pI_1, u3_k (by decide), pI_1, u3_k (by decide)]
      refine ⟨(e 16 (by omega)).trans h0, ?_⟩
      unfold PrL
      rw [e 24 (by omega), e 25 (by omega), e 16 (by omega), e 19 (by omega), e 18 (by omega), e 26 (by omega), e 10 (by omega), e 11 (by omega)]
      refine ⟨h1, h2, h3, h4, fun k hk => ?_⟩
      by_cases ek : k = x
      · have g12 := g.1
        rw [ek, x30, x33]
        exact ⟨by omega, fun c hc _ k2 => hz c hc k2⟩
      · obtain ⟨y1, y2, y3⟩ := xs k ek
        rw [y1, y2, y3]
        exact h5 k hk
    unfold bv12_deals
    dsimp only
    exact pf_10 (Or.inl rfl) (fun c hc ec => hz c hc ec.symm) (pf_12 (key _ _ (ho (ho h))))
  · rw [if_neg g]
    exact h
/-- the best price -/
theorem there_f {v b s : Int32} (h : ¬ v12_isThere p v b s = 0) : p.1 13 24 v.toNatClampNeg = cn 1 ∧ p.1 13 16 v.toNatClampNeg = b := by
  have c0 : cn 0 = (0 : Int32) := rfl
  unfold v12_isThere bv12_isThere at h
  split at h
  · exact absurd c0 h
  · split at h
    · next h1 =>
      split at h
      · next h2 => exact ⟨h1, h2⟩
      · exact absurd c0 h
    · exact absurd c0 h
theorem bo_loop (H : PrL p M) (v1 v2 v3 : Int32) : ∀ (n : Nat) (v4 v5 : Int32), (-100000 ≤ v4.toInt ∧ v4.toInt ≤ hi v1 10 110 ∧ (v3 = 0 → v4.toInt ≤ hi v1 8 108)) → (-100000 ≤ (v12_bestOf_7 p n v1 v2 v3 v4 v5).toInt ∧ (v12_bestOf_7 p n v1 v2 v3 v4 v5).toInt ≤ hi v1 10 110 ∧ (v3 = 0 → (v12_bestOf_7 p n v1 v2 v3 v4 v5).toInt ≤ hi v1 8 108)) := by
  intro n
  induction n with
  | zero =>
    intro v4 v5 _
    have e : (v12_bestOf_7 p 0 v1 v2 v3 v4 v5).toInt = 0 := by
      show (0 : Int32).toInt = 0
      decide
    rw [e]
    refine ⟨by decide, ?_, fun _ => ?_⟩
    · unfold hi
      split <;> decide
    · unfold hi
      split <;> decide
  | succ n ih =>
    intro v4 v5 h
    have at_ : ¬ v12_isThere p v5 v1 v2 = 0 → (v3 = 0 → ¬ p.1 13 19 v5.toNatClampNeg = cn 2) → (-100000 ≤ (p.1 13 25 v5.toNatClampNeg).toInt ∧ (p.1 13 25 v5.toNatClampNeg).toInt ≤ hi v1 10 110 ∧ (v3 = 0 → (p.1 13 25 v5.toNatClampNeg).toInt ≤ hi v1 8 108)) := by
      intro h1 h2
      obtain ⟨k1, k2⟩ := there_f h1
      obtain ⟨a1, a2, a3⟩ := H.1 _ k1
      rw [k2] at a2 a3
      exact ⟨a1, a2, fun h3 => a3 (h2 h3)⟩
    rw [ev12_bestOf_7]
    unfold bv12_bestOf_7
    split
    · split
      · exact ih _ _ h
      · next ht =>
        split
        · split
          · split
            · exact ih _ _ h
            · next hk =>
              split
              · exact ih _ _ (at_ ht fun _ => hk)
              · split
                · exact ih _ _ h
                · exact ih _ _ (at_ ht fun _ => hk)
          · next h3 =>
            split
            · exact ih _ _ (at_ ht fun h => absurd h h3)
            · split
              · exact ih _ _ h
              · exact ih _ _ (at_ ht fun h => absurd h h3)
        · exact ih _ _ h
    · exact h
theorem bo_e (H : PrL p M) (v1 v2 v3 : Int32) : -100000 ≤ (v12_bestOf p v1 v2 v3).toInt ∧ (v12_bestOf p v1 v2 v3).toInt ≤ hi v1 10 110 ∧ (v3 = 0 → (v12_bestOf p v1 v2 v3).toInt ≤ hi v1 8 108) := by
  have e : (cn (-100000)).toInt = -100000 := by decide
  unfold v12_bestOf bv12_bestOf
  refine bo_loop H v1 v2 v3 _ _ _ ⟨by rw [e]; decide, ?_, fun _ => ?_⟩
  · rw [e]
    unfold hi
    split <;> decide
  · rw [e]
    unfold hi
    split <;> decide
theorem bo_pr (hM : ∀ c, 116 ≤ M c) (H : PrL p M) (b s t : Int32) : PrB2 b (v12_bestOf p b s t) M := by
  intro c hc _
  have h := (bo_e H b s t).2.1
  have h2 := hi_le (b := b) (x := 10) (y := 110) (z := 110) (by decide) (by decide)
  have h3 := hM c
  omega
theorem price_rng {p : PM} {b z : Int32} (h : ¬ v12_isPrice p b z = 0) : -9999 ≤ z.toInt ∧ z.toInt ≤ 9999 := by
  unfold v12_isPrice bv12_isPrice at h
  split at h
  · obtain ⟨w, w1, w2, w3⟩ := isW_z (v := z) (a := 1) (b := 9999) ⟨by decide, by decide⟩ ⟨by decide, by decide⟩ h
    rw [w3, cn_I ⟨by omega, by omega⟩]
    omega
  · obtain ⟨w, w1, w2, w3⟩ := isW_z (v := z) (a := -9999) (b := 9999) ⟨by decide, by decide⟩ ⟨by decide, by decide⟩ h
    rw [w3, cn_I ⟨by omega, by omega⟩]
    omega
/-- the first of the best price, without pegs -/
def FoG (p : PM) (b r : Int32) : Prop := p.1 13 24 r.toNatClampNeg = cn 1 ∧ p.1 13 16 r.toNatClampNeg = b ∧ ¬ p.1 13 19 r.toNatClampNeg = cn 2
theorem at_f {v b s z : Int32} (h : ¬ v12_isAt p v b s z = 0) : ¬ v12_isThere p v b s = 0 := by
  intro h2
  apply h
  unfold v12_isAt bv12_isAt
  rw [if_pos h2]
  rfl
theorem fst_loop (v1 v2 v3 : Int32) : ∀ (d i n : Nat) (v4 : Int32), i + d = 44 → d < n → (¬ v4 < 0 → FoG p v1 v4) → ¬ v12_firstOf_27 p n v1 v2 v3 v4 (cn i) < 0 → FoG p v1 (v12_firstOf_27 p n v1 v2 v3 v4 (cn i)) := by
  intro d
  induction d with
  | zero =>
    intro i n v4 h1 h2 h
    obtain ⟨m, rfl⟩ : ∃ m, n = m + 1 := ⟨n - 1, by omega⟩
    have e : i = 44 := by omega
    subst e
    have n44 : ¬ cn ((44 : Nat) : Int) < cn 44 := by decide
    rw [ev12_firstOf_27]
    unfold bv12_firstOf_27
    rw [if_neg n44]
    exact h
  | succ d ih =>
    intro i n v4 h1 h2 h
    obtain ⟨m, rfl⟩ : ∃ m, n = m + 1 := ⟨n - 1, by omega⟩
    have l44 : cn (i : Int) < cn 44 := lpt (i := i) (N := 44) (by omega) (by omega)
    have ihn := fun w hw => ih (i + 1) m w (by omega) (by omega) hw
    rw [ev12_firstOf_27]
    unfold bv12_firstOf_27
    rw [if_pos l44, cnsucc]
    split
    · exact h
    · split
      · exact ihn _ h
      · next ha =>
        split
        · exact ihn _ h
        · next hk =>
          obtain ⟨k1, k2⟩ := there_f (at_f ha)
          have g : FoG p v1 (cn i) := ⟨k1, k2, hk⟩
          split
          · exact ihn _ (fun _ => g)
          · split
            · exact ihn _ (fun _ => g)
            · exact ihn _ h
theorem fo_at {b s : Int32} (H : PrL p M) (h : ¬ v12_firstOf p b s < 0) : -100000 ≤ (p.1 13 25 (v12_firstOf p b s).toNatClampNeg).toInt ∧ (p.1 13 25 (v12_firstOf p b s).toNatClampNeg).toInt ≤ hi b 8 108 := by
  have g : FoG p b (v12_firstOf p b s) := by
    obtain ⟨F, hF, hF2⟩ : ∃ F, FU = F ∧ 100 < F := ⟨FU, rfl, by decide⟩
    have z0 : cn 0 = cn ((0 : Nat) : Int) := rfl
    have m1 : cn (-1) < (0 : Int32) := by decide
    unfold v12_firstOf bv12_firstOf at h ⊢
    rw [hF, z0] at h ⊢
    dsimp only at h ⊢
    split
    · next hc =>
      rw [if_pos hc] at h
      exact fst_loop b s _ 44 0 F _ rfl (by omega) (fun h2 => absurd m1 h2) h
    · next hc =>
      rw [if_neg hc] at h
      exact fst_loop b s _ 44 0 F _ rfl (by omega) (fun h2 => absurd m1 h2) h
  obtain ⟨g1, g2, g3⟩ := g
  obtain ⟨a1, a2, a3⟩ := H.1 _ g1
  rw [g2] at a3
  exact ⟨a1, a3 g3⟩
theorem fo_pr (hM : ∀ c, 116 ≤ M c) (H : PrL p M) {b s : Int32} (h : ¬ v12_firstOf p b s < 0) : PrB2 b (p.1 13 25 (v12_firstOf p b s).toNatClampNeg) M := by
  intro c hc _
  have h1 := (fo_at H h).2
  have h2 := hi_le (b := b) (x := 8) (y := 108) (z := 108) (by decide) (by decide)
  have h3 := hM c
  omega
/-- the price of an auction -/
def PG (q p : PM) (M : Nat → Int) (b : Int32) : Prop := PrF q p M ∧ PrB2 b (p.1 12 1 65) M
theorem pg_65 {b v w : Int32} (hv : PrB2 b v M) (h : PrF q p M) : PG q (pI (pI p 12 1 65 v) 12 1 64 w) M b := by
  refine ⟨pf_12 (pf_12 h), ?_⟩
  rw [pI_1, u3_s (by decide), pI_at]
  exact hv
theorem pr_none (hM : ∀ c, 116 ≤ M c) (b : Int32) : PrB2 b (cn (-100000)) M := by
  intro c hc _
  have e : (cn (-100000)).toInt = -100000 := by decide
  have := hM c
  omega
theorem pg_221 {b : Int32} {kv15 : PM → Int32 → Int32 → Int32 → PM} (hkv : ∀ {p : PM} (a2 a3 : Int32), PG q p M b → PG q (kv15 p b a2 a3) M b) (v2 v3 v5 v6 v7 : Int32) (ha : PrB2 b (p.1 13 25 v3.toNatClampNeg) M) (h : PrF q p M) : PG q (v12_finds_221 kv15 p b v2 v3 v5 v6 v7) M b := by
  unfold v12_finds_221 bv12_finds_221
  exact hkv _ _ (pg_65 ha h)
theorem pg_225 {b : Int32} {kv15 : PM → Int32 → Int32 → Int32 → PM} (hkv : ∀ {p : PM} (a2 a3 : Int32), PG q p M b → PG q (kv15 p b a2 a3) M b) (v2 v3 v5 v6 v7 : Int32) (h : PG q p M b) : PG q (v12_finds_225 kv15 p b v2 v3 v5 v6 v7) M b := by
  unfold v12_finds_225 bv12_finds_225
  exact hkv _ _ (pg_65 h.2 h.1)
theorem pg_64 {b : Int32} {kv15 : PM → Int32 → Int32 → Int32 → PM} (hkv : ∀ {p : PM} (a2 a3 : Int32), PG q p M b → PG q (kv15 p b a2 a3) M b) (v2 v3 s0 : Int32) (ha : ¬ s0 = 0 → PrB2 b (p.1 13 25 v3.toNatClampNeg) M) (h : PG q p M b) : PG q (v12_finds_64 kv15 p b v2 v3 s0) M b := by
  unfold v12_finds_64 bv12_finds_64
  by_cases hs : s0 = 0
  · rw [if_pos hs]
    exact hkv _ _ h
  · rw [if_neg hs]
    have h2 := ha hs
    have hp := h.1
    repeat' first
      | with_reducible exact pg_221 hkv _ _ _ _ _ h2 hp
      | with_reducible exact pg_225 hkv _ _ _ _ _ h
      | split
      | dsimp only
theorem pg_339 (hM : ∀ c, 116 ≤ M c) {b : Int32} (h : PG q p M b) : PG q (v12_finds_339 p) M b := by
  have e : ∀ v : Int32, (pI p 12 1 65 v).1 12 1 65 = v := fun v => pI_at
  unfold v12_finds_339 bv12_finds_339
  split
  · refine ⟨pf_12 h.1, ?_⟩
    dsimp only
    rw [e]
    exact pr_none hM b
  · refine ⟨pf_12 h.1, ?_⟩
    dsimp only
    rw [e]
    exact h.2
theorem pg_15 (hM : ∀ c, 116 ≤ M c) {b : Int32} : ∀ (n : Nat) {p : PM} (a2 a3 : Int32), PG q p M b → PG q (v12_finds_15 n p b a2 a3) M b := by
  intro n
  induction n with
  | zero =>
    intro p a2 a3 h
    exact h
  | succ n ih =>
    intro p a2 a3 h
    have no : PG q (v12_finds_63 (v12_finds_15 n) p b a2 a3) M b := by
      unfold v12_finds_63 bv12_finds_63
      exact pg_64 (fun a2 a3 h => ih a2 a3 h) _ _ _ (fun h => absurd rfl h) h
    rw [ev12_finds_15]
    unfold bv12_finds_15
    split
    · split
      · exact no
      · split
        · next h1 =>
          split
          · next h2 =>
            split
            · refine pg_64 (fun a2 a3 h => ih a2 a3 h) _ _ _ (fun _ c hc _ => ?_) h
              have k := (h.1.2.1 _ h1).2.1
              have k2 := hi_le (b := p.1 13 16 a3.toNatClampNeg) (x := 10) (y := 110) (z := 110) (by decide) (by decide)
              have := hM c
              omega
            · exact no
          · exact no
        · exact no
    · split
      · refine pg_339 hM (pg_65 (fun c hc e => ?_) h.1)
        rw [e]
        exact (h.1.2.2.2.2.1 c hc).2
      · exact pg_339 hM h
theorem pg_finds (hM : ∀ c, 116 ≤ M c) (b : Int32) (h : PrF q p M) : PG q (v12_finds p b) M b := by
  unfold v12_finds bv12_finds
  exact pg_15 hM _ _ _ (pg_65 (pr_none hM b) h)
end Low
theorem pf_v12_newTurn {q : PM} {M : Nat → Int} (hM : ∀ c, 116 ≤ M c)  {p : PM} (v1 : Int32)  (h : PrF q p M) : PrF q (v12_newTurn p v1) M := by
  unfold v12_newTurn bv12_newTurn
  repeat' first
    | with_reducible exact h
    | with_reducible exact hM
    | with_reducible refine pf_12 ?_
    | with_reducible refine pf_13 (by decide) ?_
    | with_reducible refine pf_15 (by decide) ?_
    | with_reducible refine pf_24 (by decide) ?_
    | with_reducible refine pf_pJ ?_
    | split
    | dsimp only
theorem pf_v12_pegs_110 {q : PM} {M : Nat → Int} (hM : ∀ c, 116 ≤ M c) {p : PM} (v1 : Int32) (v2 : Int32) (v4 : Int32) (hk : p.1 13 19 v1.toNatClampNeg = cn 2) (hv : ¬ v12_isPrice p v2 v4 = 0 → -100000 ≤ v4.toInt ∧ v4.toInt ≤ hi (p.1 13 16 v1.toNatClampNeg) 10 110) (h : PrF q p M) : PrF q (v12_pegs_110 p v1 v2 v4) M := by
  have c2 : ¬ cn 2 = cn 1 := by decide
  unfold v12_pegs_110 bv12_pegs_110
  split
  · exact pf_24 c2 h
  · split
    · exact pf_24 c2 h
    · next hp =>
      obtain ⟨k1, k2⟩ := hv hp
      have b := pf_book (s := v1.toNatClampNeg) (v := v4) ⟨k1, k2, fun h => absurd hk h⟩ h
      split
      · split
        · exact h
        · exact pf_v12_newTurn hM _ b
      · exact pf_v12_newTurn hM _ b
theorem pf_v12_pegs_72 {q : PM} {M : Nat → Int} (hM : ∀ c, 116 ≤ M c) {p : PM} (v1 : Int32) (v2 : Int32) (s0 : Int32) (hk : p.1 13 19 v1.toNatClampNeg = cn 2) (hv : ¬ v12_isPrice p v2 s0 = 0 → -100000 ≤ s0.toInt ∧ s0.toInt ≤ hi (p.1 13 16 v1.toNatClampNeg) 10 110) (h : PrF q p M) : PrF q (v12_pegs_72 p v1 v2 s0) M := by
  have c2 : ¬ cn 2 = cn 1 := by decide
  obtain ⟨k1, k2⟩ := h.2.2.1 v1.toNatClampNeg
  have k3 := hi_mono (b := p.1 13 16 v1.toNatClampNeg) (x := 8) (y := 108) (x' := 10) (y' := 110) (by decide) (by decide)
  have b := pf_book (s := v1.toNatClampNeg) (v := p.1 13 18 v1.toNatClampNeg) ⟨k1, by omega, fun _ => k2⟩ h
  unfold v12_pegs_72 bv12_pegs_72
  split
  · exact pf_v12_pegs_110 hM _ _ _ hk hv h
  · split
    · exact pf_v12_pegs_110 hM _ _ _ hk hv h
    · dsimp only
      split
      · exact pf_24 c2 h
      · split
        · exact pf_24 c2 h
        · split
          · split
            · exact h
            · exact pf_v12_newTurn hM _ b
          · exact pf_v12_newTurn hM _ b
theorem pf_v12_pegs {q : PM} {M : Nat → Int} (hM : ∀ c, 116 ≤ M c) {p : PM} (v1 : Int32) (hk : p.1 13 19 v1.toNatClampNeg = cn 2) (h : PrF q p M) : PrF q (v12_pegs p v1) M := by
  obtain ⟨o1, o2⟩ := h.2.2.2.1 v1.toNatClampNeg
  have low : ∀ z : Int32, v12_isPrice p (p.1 13 16 v1.toNatClampNeg) z = 0 ∨ (-9999 ≤ z.toInt ∧ z.toInt ≤ 9999) := by
    intro z
    by_cases hz : v12_isPrice p (p.1 13 16 v1.toNatClampNeg) z = 0
    · exact Or.inl hz
    · exact Or.inr (price_rng hz)
  have n0 : ∀ b : Int32, -100000 ≤ (cn (-100000)).toInt ∧ (cn (-100000)).toInt ≤ hi b 10 110 := by
    intro b
    have e : (cn (-100000)).toInt = -100000 := by decide
    rw [e]
    refine ⟨by decide, ?_⟩
    unfold hi
    split <;> decide
  have hx := bo_e h.2 (p.1 13 16 v1.toNatClampNeg) (p.1 15 4 v1.toNatClampNeg) (cn 0)
  obtain ⟨x1, -, x3⟩ := hx
  have x4 := x3 rfl
  have x5 := hi_le (b := p.1 13 16 v1.toNatClampNeg) (x := 8) (y := 108) (z := 108) (by decide) (by decide)
  have x6 : hi (p.1 13 16 v1.toNatClampNeg) 8 108 + 2 = hi (p.1 13 16 v1.toNatClampNeg) 10 110 := by
    unfold hi
    split <;> rfl
  have up : ∀ w o : Int32, -100000 ≤ w.toInt → w.toInt ≤ hi (p.1 13 16 v1.toNatClampNeg) 8 108 → 0 ≤ o.toInt → o.toInt ≤ 2 → -100000 ≤ (w + o).toInt ∧ (w + o).toInt ≤ hi (p.1 13 16 v1.toNatClampNeg) 10 110 := by
    intro w o w1 w2 w3 w4
    have e : (w + o).toInt = w.toInt + o.toInt := by
      rw [cn_of w, cn_of o, cnadd, cn_I ⟨by omega, by omega⟩, ← cn_of, ← cn_of]
    rw [e]
    omega
  have dn : ∀ w o : Int32, -100000 ≤ w.toInt → w.toInt ≤ hi (p.1 13 16 v1.toNatClampNeg) 8 108 → 0 ≤ o.toInt → o.toInt ≤ 2 → (w - o).toInt ≤ hi (p.1 13 16 v1.toNatClampNeg) 10 110 ∧ -100002 ≤ (w - o).toInt := by
    intro w o w1 w2 w3 w4
    have e : (w - o).toInt = w.toInt - o.toInt := by
      rw [cn_of w, cn_of o, cnsub, cn_I ⟨by omega, by omega⟩, ← cn_of, ← cn_of]
    rw [e]
    omega
  have cN : (cn (-100000)).toInt = -100000 := by decide
  have hN : (-100000 : Int) ≤ hi (p.1 13 16 v1.toNatClampNeg) 8 108 := by
    unfold hi
    split <;> decide
  unfold v12_pegs bv12_pegs
  dsimp only
  split
  · split
    · exact pf_v12_pegs_72 hM _ _ _ hk (fun _ => n0 _) h
    · split
      · exact pf_v12_pegs_72 hM _ _ _ hk (fun _ => up _ _ (by rw [cN]; decide) (by rw [cN]; exact hN) o1 o2) h
      · refine pf_v12_pegs_72 hM _ _ _ hk (fun hp => ?_) h
        obtain ⟨d1, d2⟩ := dn _ _ (by rw [cN]; decide) (by rw [cN]; exact hN) o1 o2
        rcases low _ with l | l
        · exact absurd l hp
        · exact ⟨by omega, d1⟩
  · split
    · exact pf_v12_pegs_72 hM _ _ _ hk (fun _ => n0 _) h
    · split
      · exact pf_v12_pegs_72 hM _ _ _ hk (fun _ => up _ _ x1 x4 o1 o2) h
      · refine pf_v12_pegs_72 hM _ _ _ hk (fun hp => ?_) h
        obtain ⟨d1, d2⟩ := dn _ _ x1 x4 o1 o2
        rcases low _ with l | l
        · exact absurd l hp
        · exact ⟨by omega, d1⟩
theorem pf_v12_pegsAll_12 {q : PM} {M : Nat → Int} (hM : ∀ c, 116 ≤ M c) {kv4 : PM → Int32 → Int32 → PM} (hkv4 : ∀ {p : PM} (a1 : Int32) (a2 : Int32), PrF q p M → PrF q (kv4 p a1 a2) M) : ∀ (n : Nat) {p : PM} (c0 : Int32) (c1 : Int32) (c2 : Int32), (¬ c1 < 0 → p.1 13 19 c1.toNatClampNeg = cn 2) → PrF q p M → PrF q (v12_pegsAll_12 kv4 n p c0 c1 c2) M := by
  intro n
  induction n with
  | zero =>
    intro p c0 c1 c2 hc h
    exact h
  | succ n ih =>
    intro p c0 c1 c2 hc h
    rw [ev12_pegsAll_12]
    unfold bv12_pegsAll_12
    split
    · split
      · exact ih _ _ _ hc h
      · split
        · next hk =>
          split
          · split
            · exact ih _ _ _ (fun _ => hk) h
            · split
              · exact ih _ _ _ (fun _ => hk) h
              · exact ih _ _ _ hc h
          · exact ih _ _ _ hc h
        · exact ih _ _ _ hc h
    · split
      · exact hkv4 _ _ h
      · next hn => exact hkv4 _ _ (pf_v12_pegs hM _ (hc hn) h)
theorem pf_v12_pegsAll_4 {q : PM} {M : Nat → Int} (hM : ∀ c, 116 ≤ M c) : ∀ (n : Nat) {p : PM} (c0 : Int32) (c1 : Int32), PrF q p M → PrF q (v12_pegsAll_4 n p c0 c1) M := by
  intro n
  induction n with
  | zero =>
    intro p c0 c1 h
    exact h
  | succ n ih =>
    intro p c0 c1 h
    rw [ev12_pegsAll_4]
    unfold bv12_pegsAll_4
    split
    · exact h
    · exact pf_v12_pegsAll_12 hM (fun a1 a2 h => ih _ _ h) _ _ _ _ (fun h => absurd (by decide) h) h
theorem pf_v12_pegsAll {q : PM} {M : Nat → Int} (hM : ∀ c, 116 ≤ M c)  {p : PM}   (h : PrF q p M) : PrF q (v12_pegsAll p) M := by
  unfold v12_pegsAll bv12_pegsAll
  repeat' first
    | with_reducible exact h
    | with_reducible exact hM
    | with_reducible refine pf_12 ?_
    | with_reducible refine pf_13 (by decide) ?_
    | with_reducible refine pf_15 (by decide) ?_
    | with_reducible refine pf_24 (by decide) ?_
    | with_reducible refine pf_pJ ?_
    | with_reducible apply pf_v12_pegsAll_4
    | split
    | dsimp only
theorem pf_v12_showsAnew {q : PM} {M : Nat → Int} (hM : ∀ c, 116 ≤ M c)  {p : PM} (v1 : Int32)  (h : PrF q p M) : PrF q (v12_showsAnew p v1) M := by
  unfold v12_showsAnew bv12_showsAnew
  repeat' first
    | with_reducible exact h
    | with_reducible exact hM
    | with_reducible refine pf_12 ?_
    | with_reducible refine pf_13 (by decide) ?_
    | with_reducible refine pf_15 (by decide) ?_
    | with_reducible refine pf_24 (by decide) ?_
    | with_reducible refine pf_pJ ?_
    | split
    | dsimp only
theorem pf_v12_comes {q : PM} {M : Nat → Int} (hM : ∀ c, 116 ≤ M c) {p : PM} (v1 : Int32) (h : PrF q p M) : PrF q (v12_comes p v1) M := by
  have e : (pI p 13 24 v1.toNatClampNeg (cn 1)).1 13 18 v1.toNatClampNeg = p.1 13 18 v1.toNatClampNeg := by rw [pI_1, u3_i (by decide)]
  obtain ⟨k1, k2⟩ := h.2.2.1 v1.toNatClampNeg
  have k3 := hi_mono (b := p.1 13 16 v1.toNatClampNeg) (x := 8) (y := 108) (x' := 10) (y' := 110) (by decide) (by decide)
  unfold v12_comes bv12_comes
  dsimp only
  rw [e]
  exact pf_v12_newTurn hM _ (pf_v12_showsAnew hM _ (pf_book ⟨k1, by omega, fun _ => k2⟩ h))
theorem pf_v12_clearsGets_2 {q : PM} {M : Nat → Int} (hM : ∀ c, 116 ≤ M c)  : ∀ (n : Nat) {p : PM} (c0 : Int32), PrF q p M → PrF q (v12_clearsGets_2 n p c0) M := by
  intro n
  induction n with
  | zero =>
    intro p c0 h
    exact h
  | succ n ih =>
    intro p c0 h
    rw [ev12_clearsGets_2]
    unfold bv12_clearsGets_2
    repeat' first
      | with_reducible exact h
      | with_reducible apply ih
      | with_reducible exact hM
      | with_reducible refine pf_12 ?_
      | with_reducible refine pf_13 (by decide) ?_
      | with_reducible refine pf_15 (by decide) ?_
      | with_reducible refine pf_24 (by decide) ?_
      | with_reducible refine pf_pJ ?_
      | split
      | dsimp only
theorem pf_v12_clearsGets {q : PM} {M : Nat → Int} (hM : ∀ c, 116 ≤ M c)  {p : PM}   (h : PrF q p M) : PrF q (v12_clearsGets p) M := by
  unfold v12_clearsGets bv12_clearsGets
  repeat' first
    | with_reducible exact h
    | with_reducible exact hM
    | with_reducible refine pf_12 ?_
    | with_reducible refine pf_13 (by decide) ?_
    | with_reducible refine pf_15 (by decide) ?_
    | with_reducible refine pf_24 (by decide) ?_
    | with_reducible refine pf_pJ ?_
    | with_reducible apply pf_v12_clearsGets_2
    | split
    | dsimp only
theorem pf_v12_sharesByTurns_14 {q : PM} {M : Nat → Int} (hM : ∀ c, 116 ≤ M c)  : ∀ (n : Nat) {p : PM} (c0 : Int32) (c1 : Int32) (c2 : Int32) (c3 : Int32) (c4 : Int32), PrF q p M → PrF q (v12_sharesByTurns_14 n p c0 c1 c2 c3 c4) M := by
  intro n
  induction n with
  | zero =>
    intro p c0 c1 c2 c3 c4 h
    exact h
  | succ n ih =>
    intro p c0 c1 c2 c3 c4 h
    rw [ev12_sharesByTurns_14]
    unfold bv12_sharesByTurns_14
    repeat' first
      | with_reducible exact h
      | with_reducible apply ih
      | with_reducible exact hM
      | with_reducible refine pf_12 ?_
      | with_reducible refine pf_13 (by decide) ?_
      | with_reducible refine pf_15 (by decide) ?_
      | with_reducible refine pf_24 (by decide) ?_
      | with_reducible refine pf_pJ ?_
      | split
      | dsimp only
theorem pf_v12_sharesByTurns {q : PM} {M : Nat → Int} (hM : ∀ c, 116 ≤ M c)  {p : PM} (v1 : Int32) (v2 : Int32) (v3 : Int32) (v4 : Int32)  (h : PrF q p M) : PrF q (v12_sharesByTurns p v1 v2 v3 v4) M := by
  unfold v12_sharesByTurns bv12_sharesByTurns
  repeat' first
    | with_reducible exact h
    | with_reducible exact hM
    | with_reducible refine pf_12 ?_
    | with_reducible refine pf_13 (by decide) ?_
    | with_reducible refine pf_15 (by decide) ?_
    | with_reducible refine pf_24 (by decide) ?_
    | with_reducible refine pf_pJ ?_
    | with_reducible apply pf_v12_sharesByTurns_14
    | split
    | dsimp only
theorem pf_v12_sharesBySize_17 {q : PM} {M : Nat → Int} (hM : ∀ c, 116 ≤ M c)  : ∀ (n : Nat) {p : PM} (c0 : Int32) (c1 : Int32) (c2 : Int32) (c3 : Int32) (c4 : Int32), PrF q p M → PrF q (v12_sharesBySize_17 n p c0 c1 c2 c3 c4) M := by
  intro n
  induction n with
  | zero =>
    intro p c0 c1 c2 c3 c4 h
    exact h
  | succ n ih =>
    intro p c0 c1 c2 c3 c4 h
    rw [ev12_sharesBySize_17]
    unfold bv12_sharesBySize_17
    repeat' first
      | with_reducible exact h
      | with_reducible apply ih
      | with_reducible exact hM
      | with_reducible refine pf_12 ?_
      | with_reducible refine pf_13 (by decide) ?_
      | with_reducible refine pf_15 (by decide) ?_
      | with_reducible refine pf_24 (by decide) ?_
      | with_reducible refine pf_pJ ?_
      | split
      | dsimp only
theorem pf_v12_sharesBySize {q : PM} {M : Nat → Int} (hM : ∀ c, 116 ≤ M c)  {p : PM} (v1 : Int32) (v2 : Int32) (v3 : Int32) (v4 : Int32)  (h : PrF q p M) : PrF q (v12_sharesBySize p v1 v2 v3 v4) M := by
  unfold v12_sharesBySize bv12_sharesBySize
  repeat' first
    | with_reducible exact h
    | with_reducible exact hM
    | with_reducible refine pf_12 ?_
    | with_reducible refine pf_13 (by decide) ?_
    | with_reducible refine pf_15 (by decide) ?_
    | with_reducible refine pf_24 (by decide) ?_
    | with_reducible refine pf_pJ ?_
    | with_reducible apply pf_v12_sharesBySize_17
    | split
    | dsimp only
theorem pf_v12_sharesOut_229 {q : PM} {M : Nat → Int} (hM : ∀ c, 116 ≤ M c) {kv207 : PM → Int32 → Int32 → Int32 → Int32 → Int32 → Int32 → PM} (hkv207 : ∀ {p : PM} (a1 : Int32) (a2 : Int32) (a3 : Int32) (a4 : Int32) (a5 : Int32) (a6 : Int32), PrF q p M → PrF q (kv207 p a1 a2 a3 a4 a5 a6) M) : ∀ (n : Nat) {p : PM} (c0 : Int32) (c1 : Int32) (c2 : Int32) (c3 : Int32) (c4 : Int32) (c5 : Int32) (c6 : Int32), PrF q p M → PrF q (v12_sharesOut_229 kv207 n p c0 c1 c2 c3 c4 c5 c6) M := by
  intro n
  induction n with
  | zero =>
    intro p c0 c1 c2 c3 c4 c5 c6 h
    exact h
  | succ n ih =>
    intro p c0 c1 c2 c3 c4 c5 c6 h
    rw [ev12_sharesOut_229]
    unfold bv12_sharesOut_229
    repeat' first
      | with_reducible exact h
      | with_reducible apply ih
      | with_reducible apply hkv207
      | with_reducible exact hM
      | with_reducible refine pf_12 ?_
      | with_reducible refine pf_13 (by decide) ?_
      | with_reducible refine pf_15 (by decide) ?_
      | with_reducible refine pf_24 (by decide) ?_
      | with_reducible refine pf_pJ ?_
      | split
      | dsimp only
theorem pf_v12_sharesOut_207 {q : PM} {M : Nat → Int} (hM : ∀ c, 116 ≤ M c)  : ∀ (n : Nat) {p : PM} (c0 : Int32) (c1 : Int32) (c2 : Int32) (c3 : Int32) (c4 : Int32) (c5 : Int32), PrF q p M → PrF q (v12_sharesOut_207 n p c0 c1 c2 c3 c4 c5) M := by
  intro n
  induction n with
  | zero =>
    intro p c0 c1 c2 c3 c4 c5 h
    exact h
  | succ n ih =>
    intro p c0 c1 c2 c3 c4 c5 h
    rw [ev12_sharesOut_207]
    unfold bv12_sharesOut_207
    repeat' first
      | with_reducible exact h
      | with_reducible apply ih
      | with_reducible exact hM
      | with_reducible refine pf_12 ?_
      | with_reducible refine pf_13 (by decide) ?_
      | with_reducible refine pf_15 (by decide) ?_
      | with_reducible refine pf_24 (by decide) ?_
      | with_reducible refine pf_pJ ?_
      | with_reducible apply pf_v12_sharesOut_229
      | split
      | dsimp only
theorem pf_v12_sharesOut_116 {q : PM} {M : Nat → Int} (hM : ∀ c, 116 ≤ M c)  : ∀ (n : Nat) {p : PM} (c0 : Int32) (c1 : Int32) (c2 : Int32) (c3 : Int32) (c4 : Int32) (c5 : Int32) (c6 : Int32), PrF q p M → PrF q (v12_sharesOut_116 n p c0 c1 c2 c3 c4 c5 c6) M := by
  intro n
  induction n with
  | zero =>
    intro p c0 c1 c2 c3 c4 c5 c6 h
    exact h
  | succ n ih =>
    intro p c0 c1 c2 c3 c4 c5 c6 h
    rw [ev12_sharesOut_116]
    unfold bv12_sharesOut_116
    repeat' first
      | with_reducible exact h
      | with_reducible apply ih
      | with_reducible exact hM
      | with_reducible refine pf_12 ?_
      | with_reducible refine pf_13 (by decide) ?_
      | with_reducible refine pf_15 (by decide) ?_
      | with_reducible refine pf_24 (by decide) ?_
      | with_reducible refine pf_pJ ?_
      | with_reducible apply pf_v12_sharesOut_207
      | split
      | dsimp only
theorem pf_v12_sharesOut_61 {q : PM} {M : Nat → Int} (hM : ∀ c, 116 ≤ M c)  : ∀ (n : Nat) {p : PM} (c0 : Int32) (c1 : Int32) (c2 : Int32) (c3 : Int32) (c4 : Int32) (c5 : Int32), PrF q p M → PrF q (v12_sharesOut_61 n p c0 c1 c2 c3 c4 c5) M := by
  intro n
  induction n with
  | zero =>
    intro p c0 c1 c2 c3 c4 c5 h
    exact h
  | succ n ih =>
    intro p c0 c1 c2 c3 c4 c5 h
    rw [ev12_sharesOut_61]
    unfold bv12_sharesOut_61
    repeat' first
      | with_reducible exact h
      | with_reducible apply ih
      | with_reducible exact hM
      | with_reducible refine pf_12 ?_
      | with_reducible refine pf_13 (by decide) ?_
      | with_reducible refine pf_15 (by decide) ?_
      | with_reducible refine pf_24 (by decide) ?_
      | with_reducible refine pf_pJ ?_
      | with_reducible apply pf_v12_sharesOut_116
      | split
      | dsimp only
theorem pf_v12_sharesOut {q : PM} {M : Nat → Int} (hM : ∀ c, 116 ≤ M c)  {p : PM} (v1 : Int32) (v2 : Int32) (v3 : Int32) (v4 : Int32)  (h : PrF q p M) : PrF q (v12_sharesOut p v1 v2 v3 v4) M := by
  unfold v12_sharesOut bv12_sharesOut
  repeat' first
    | with_reducible exact h
    | with_reducible exact hM
    | with_reducible refine pf_12 ?_
    | with_reducible refine pf_13 (by decide) ?_
    | with_reducible refine pf_15 (by decide) ?_
    | with_reducible refine pf_24 (by decide) ?_
    | with_reducible refine pf_pJ ?_
    | with_reducible apply pf_v12_sharesOut_61
    | split
    | dsimp only
theorem pf_v12_holds {q : PM} {M : Nat → Int} (hM : ∀ c, 116 ≤ M c)  {p : PM} (v1 : Int32) (v2 : Int32) (v3 : Int32) (v4 : Int32)  (h : PrF q p M) : PrF q (v12_holds p v1 v2 v3 v4) M := by
  unfold v12_holds bv12_holds
  repeat' first
    | with_reducible exact h
    | with_reducible exact hM
    | with_reducible refine pf_12 ?_
    | with_reducible refine pf_13 (by decide) ?_
    | with_reducible refine pf_15 (by decide) ?_
    | with_reducible refine pf_24 (by decide) ?_
    | with_reducible refine pf_pJ ?_
    | split
    | dsimp only
theorem pf_v12_falls {q : PM} {M : Nat → Int} (hM : ∀ c, 116 ≤ M c)  {p : PM} (v1 : Int32) (v2 : Int32) (v3 : Int32)  (h : PrF q p M) : PrF q (v12_falls p v1 v2 v3) M := by
  unfold v12_falls bv12_falls
  repeat' first
    | with_reducible exact h
    | with_reducible exact hM
    | with_reducible refine pf_12 ?_
    | with_reducible refine pf_13 (by decide) ?_
    | with_reducible refine pf_15 (by decide) ?_
    | with_reducible refine pf_24 (by decide) ?_
    | with_reducible refine pf_pJ ?_
    | split
    | dsimp only
theorem pf_v12_guards_50 {q : PM} {M : Nat → Int} (hM : ∀ c, 116 ≤ M c)  : ∀ (n : Nat) {p : PM} (c0 : Int32) (c1 : Int32), PrF q p M → PrF q (v12_guards_50 n p c0 c1) M := by
  intro n
  induction n with
  | zero =>
    intro p c0 c1 h
    exact h
  | succ n ih =>
    intro p c0 c1 h
    rw [ev12_guards_50]
    unfold bv12_guards_50
    repeat' first
      | with_reducible exact h
      | with_reducible apply ih
      | with_reducible exact hM
      | with_reducible refine pf_12 ?_
      | with_reducible refine pf_13 (by decide) ?_
      | with_reducible refine pf_15 (by decide) ?_
      | with_reducible refine pf_24 (by decide) ?_
      | with_reducible refine pf_pJ ?_
      | split
      | dsimp only
theorem pf_v12_guards {q : PM} {M : Nat → Int} (hM : ∀ c, 116 ≤ M c)  {p : PM} (v1 : Int32)  (h : PrF q p M) : PrF q (v12_guards p v1) M := by
  unfold v12_guards bv12_guards
  repeat' first
    | with_reducible exact h
    | with_reducible exact hM
    | with_reducible refine pf_12 ?_
    | with_reducible refine pf_13 (by decide) ?_
    | with_reducible refine pf_15 (by decide) ?_
    | with_reducible refine pf_24 (by decide) ?_
    | with_reducible refine pf_pJ ?_
    | with_reducible apply pf_v12_guards_50
    | split
    | dsimp only
theorem pf_v12_tradesWith_49 {q : PM} {M : Nat → Int} (hM : ∀ c, 116 ≤ M c) {p : PM} (v1 : Int32) (v2 : Int32) (v3 : Int32) (v4 : Int32) (s0 : Int32) (hz : PrX q v1 v3 M) (h : PrF q p M) : PrF q (v12_tradesWith_49 p v1 v2 v3 v4 s0) M := by
  have hb : PrB2 (p.1 13 16 v1.toNatClampNeg) v3 M := by rw [h.1]; exact hz
  unfold v12_tradesWith_49 bv12_tradesWith_49
  repeat' first
    | with_reducible exact h
    | with_reducible exact hM
    | with_reducible apply pf_v12_newTurn
    | with_reducible apply pf_v12_showsAnew
    | with_reducible apply pf_v12_guards
    | with_reducible apply pf_v12_falls
    | with_reducible refine pf_deals hb ?_
    | split
    | dsimp only
theorem pf_v12_tradesWith {q : PM} {M : Nat → Int} (hM : ∀ c, 116 ≤ M c) {p : PM} (v1 : Int32) (v2 : Int32) (v3 : Int32) (hz : PrX q v1 v3 M) (h : PrF q p M) : PrF q (v12_tradesWith p v1 v2 v3) M := by
  unfold v12_tradesWith bv12_tradesWith
  repeat' first
    | with_reducible exact h
    | with_reducible exact hM
    | with_reducible refine pf_13 (by decide) ?_
    | with_reducible refine pf_v12_tradesWith_49 hM _ _ _ _ _ hz ?_
    | split
    | dsimp only
theorem pf_v12_servesAll_147 {q : PM} {M : Nat → Int} (hM : ∀ c, 116 ≤ M c) : ∀ (n : Nat) {p : PM} (c0 : Int32) (c1 : Int32) (c2 : Int32) (c3 : Int32) (c4 : Int32), PrX q c0 c1 M → PrF q p M → PrF q (v12_servesAll_147 n p c0 c1 c2 c3 c4) M := by
  intro n
  induction n with
  | zero =>
    intro p c0 c1 c2 c3 c4 hz h
    exact h
  | succ n ih =>
    intro p c0 c1 c2 c3 c4 hz h
    rw [ev12_servesAll_147]
    unfold bv12_servesAll_147
    repeat' first
      | with_reducible exact h
      | with_reducible exact hM
      | with_reducible exact hz
      | with_reducible apply ih
      | with_reducible refine pf_13 (by decide) ?_
      | with_reducible refine pf_v12_tradesWith hM _ _ _ hz ?_
      | split
      | dsimp only
theorem pf_v12_servesAll_30 {q : PM} {M : Nat → Int} (hM : ∀ c, 116 ≤ M c) : ∀ (n : Nat) {p : PM} (c0 : Int32) (c1 : Int32) (c2 : Int32) (c3 : Int32) (c4 : Int32), PrX q c0 c1 M → PrF q p M → PrF q (v12_servesAll_30 n p c0 c1 c2 c3 c4) M := by
  intro n
  induction n with
  | zero =>
    intro p c0 c1 c2 c3 c4 hz h
    exact h
  | succ n ih =>
    intro p c0 c1 c2 c3 c4 hz h
    rw [ev12_servesAll_30]
    unfold bv12_servesAll_30
    repeat' first
      | with_reducible exact h
      | with_reducible exact hM
      | with_reducible exact hz
      | with_reducible apply ih
      | with_reducible refine pf_13 (by decide) ?_
      | with_reducible apply pf_v12_sharesByTurns
      | with_reducible apply pf_v12_sharesBySize
      | with_reducible apply pf_v12_sharesOut
      | with_reducible apply pf_v12_servesAll_147
      | split
      | dsimp only
theorem pf_v12_servesAll {q : PM} {M : Nat → Int} (hM : ∀ c, 116 ≤ M c) {p : PM} (v1 : Int32) (v2 : Int32) (hz : PrX q v1 v2 M) (h : PrF q p M) : PrF q (v12_servesAll p v1 v2) M := by
  unfold v12_servesAll bv12_servesAll
  repeat' first
    | with_reducible exact h
    | with_reducible exact hM
    | with_reducible exact hz
    | with_reducible apply pf_v12_clearsGets
    | with_reducible apply pf_v12_servesAll_30
    | split
    | dsimp only
theorem pf_v12_removesOwn_2 {q : PM} {M : Nat → Int} (hM : ∀ c, 116 ≤ M c)  : ∀ (n : Nat) {p : PM} (c0 : Int32) (c1 : Int32) (c2 : Int32), PrF q p M → PrF q (v12_removesOwn_2 n p c0 c1 c2) M := by
  intro n
  induction n with
  | zero =>
    intro p c0 c1 c2 h
    exact h
  | succ n ih =>
    intro p c0 c1 c2 h
    rw [ev12_removesOwn_2]
    unfold bv12_removesOwn_2
    repeat' first
      | with_reducible exact h
      | with_reducible apply ih
      | with_reducible exact hM
      | with_reducible refine pf_12 ?_
      | with_reducible refine pf_13 (by decide) ?_
      | with_reducible refine pf_15 (by decide) ?_
      | with_reducible refine pf_24 (by decide) ?_
      | with_reducible refine pf_pJ ?_
      | split
      | dsimp only
theorem pf_v12_removesOwn {q : PM} {M : Nat → Int} (hM : ∀ c, 116 ≤ M c)  {p : PM} (v1 : Int32) (v2 : Int32)  (h : PrF q p M) : PrF q (v12_removesOwn p v1 v2) M := by
  unfold v12_removesOwn bv12_removesOwn
  repeat' first
    | with_reducible exact h
    | with_reducible exact hM
    | with_reducible refine pf_12 ?_
    | with_reducible refine pf_13 (by decide) ?_
    | with_reducible refine pf_15 (by decide) ?_
    | with_reducible refine pf_24 (by decide) ?_
    | with_reducible refine pf_pJ ?_
    | with_reducible apply pf_v12_removesOwn_2
    | split
    | dsimp only
theorem pf_v12_beginsAuction {q : PM} {M : Nat → Int} (hM : ∀ c, 116 ≤ M c)  {p : PM} (v1 : Int32) (v2 : Int32) (v3 : Int32)  (h : PrF q p M) : PrF q (v12_beginsAuction p v1 v2 v3) M := by
  unfold v12_beginsAuction bv12_beginsAuction
  repeat' first
    | with_reducible exact h
    | with_reducible exact hM
    | with_reducible refine pf_12 ?_
    | with_reducible refine pf_13 (by decide) ?_
    | with_reducible refine pf_15 (by decide) ?_
    | with_reducible refine pf_24 (by decide) ?_
    | with_reducible refine pf_pJ ?_
    | split
    | dsimp only
theorem pf_v12_looks_64 {q : PM} {M : Nat → Int} (hM : ∀ c, 116 ≤ M c) {p : PM} (v1 : Int32) (v2 : Int32) (v3 : Int32) (hz : PrX q v1 v3 M) (h : PrF q p M) : PrF q (v12_looks_64 p v1 v2 v3).2 M := by
  unfold v12_looks_64 bv12_looks_64
  repeat' first
    | with_reducible exact h
    | with_reducible exact hM
    | with_reducible exact hz
    | with_reducible refine pf_15 (by decide) ?_
    | with_reducible apply pf_v12_servesAll
    | with_reducible apply pf_v12_removesOwn
    | with_reducible apply pf_v12_beginsAuction
    | split
    | dsimp only
theorem pf_v12_looks {q : PM} {M : Nat → Int} (hM : ∀ c, 116 ≤ M c) {p : PM} (v1 : Int32) (h : PrF q p M) : PrF q (v12_looks p v1).2 M := by
  have hz : ∀ s t : Int32, PrX q v1 (v12_bestOf p (p.1 13 16 v1.toNatClampNeg) s t) M := by
    intro s t
    unfold PrX
    rw [← h.1]
    exact bo_pr hM h.2 _ s t
  unfold v12_looks bv12_looks
  repeat' first
    | with_reducible exact h
    | with_reducible exact hM
    | with_reducible refine pf_v12_looks_64 hM _ _ _ (hz _ _) ?_
    | split
    | dsimp only
theorem pf_v12_matches_9 {q : PM} {M : Nat → Int} (hM : ∀ c, 116 ≤ M c)  : ∀ (n : Nat) {p : PM} (c0 : Int32) (c1 : Int32), PrF q p M → PrF q (v12_matches_9 n p c0 c1) M := by
  intro n
  induction n with
  | zero =>
    intro p c0 c1 h
    exact h
  | succ n ih =>
    intro p c0 c1 h
    rw [ev12_matches_9]
    unfold bv12_matches_9
    repeat' first
      | with_reducible exact h
      | with_reducible apply ih
      | with_reducible exact hM
      | with_reducible refine pf_12 ?_
      | with_reducible refine pf_13 (by decide) ?_
      | with_reducible refine pf_15 (by decide) ?_
      | with_reducible refine pf_24 (by decide) ?_
      | with_reducible refine pf_pJ ?_
      | with_reducible apply pf_v12_comes
      | with_reducible apply pf_v12_looks
      | split
      | dsimp only
theorem pf_v12_matches {q : PM} {M : Nat → Int} (hM : ∀ c, 116 ≤ M c)  {p : PM} (v1 : Int32)  (h : PrF q p M) : PrF q (v12_matches p v1) M := by
  unfold v12_matches bv12_matches
  repeat' first
    | with_reducible exact h
    | with_reducible exact hM
    | with_reducible refine pf_12 ?_
    | with_reducible refine pf_13 (by decide) ?_
    | with_reducible refine pf_15 (by decide) ?_
    | with_reducible refine pf_24 (by decide) ?_
    | with_reducible refine pf_pJ ?_
    | with_reducible apply pf_v12_matches_9
    | split
    | dsimp only
theorem pf_v12_joins_53 {q : PM} {M : Nat → Int} (hM : ∀ c, 116 ≤ M c)  {p : PM}   (h : PrF q p M) : PrF q (v12_joins_53 p).2 M := by
  unfold v12_joins_53 bv12_joins_53
  repeat' first
    | with_reducible exact h
    | with_reducible exact hM
    | with_reducible refine pf_12 ?_
    | with_reducible refine pf_13 (by decide) ?_
    | with_reducible refine pf_15 (by decide) ?_
    | with_reducible refine pf_24 (by decide) ?_
    | with_reducible refine pf_pJ ?_
    | split
    | dsimp only
theorem pf_v12_joins_197 {q : PM} {M : Nat → Int} (hM : ∀ c, 116 ≤ M c)  {p : PM} (v2 : Int32) (v3 : Int32) (v4 : Int32) (v5 : Int32) (v6 : Int32) (v8 : Int32) (v9 : Int32)  (h : PrF q p M) : PrF q (v12_joins_197 p v2 v3 v4 v5 v6 v8 v9).2 M := by
  unfold v12_joins_197 bv12_joins_197
  repeat' first
    | with_reducible exact h
    | with_reducible exact hM
    | with_reducible refine pf_12 ?_
    | with_reducible refine pf_13 (by decide) ?_
    | with_reducible refine pf_15 (by decide) ?_
    | with_reducible refine pf_24 (by decide) ?_
    | with_reducible refine pf_pJ ?_
    | split
    | dsimp only
theorem pf_v12_falls1 {q : PM} {M : Nat → Int} (hM : ∀ c, 116 ≤ M c)  {p : PM} (v1 : Int32) (v2 : Int32)  (h : PrF q p M) : PrF q (v12_falls1 p v1 v2) M := by
  unfold v12_falls1 bv12_falls1
  repeat' first
    | with_reducible exact h
    | with_reducible exact hM
    | with_reducible refine pf_12 ?_
    | with_reducible refine pf_13 (by decide) ?_
    | with_reducible refine pf_15 (by decide) ?_
    | with_reducible refine pf_24 (by decide) ?_
    | with_reducible refine pf_pJ ?_
    | with_reducible apply pf_v12_newTurn
    | with_reducible apply pf_v12_showsAnew
    | with_reducible apply pf_v12_falls
    | split
    | dsimp only
theorem pf_v12_joins_258 {q : PM} {M : Nat → Int} (hM : ∀ c, 116 ≤ M c) {p : PM} (v2 : Int32) (v3 : Int32) (v4 : Int32) (v5 : Int32) (v6 : Int32) (v8 : Int32) (v9 : Int32) (v11 : Int32) (s0 : Int32) (s1 : Int32) (h1 : PrB2 s1 v8 M) (h2 : PrB2 (v3 + cn 1) v9 M) (h : PrF q p M) : PrF q (v12_joins_258 p v2 v3 v4 v5 v6 v8 v9 v11 s0 s1).2 M := by
  unfold v12_joins_258 bv12_joins_258
  repeat' first
    | with_reducible exact h
    | with_reducible exact hM
    | with_reducible apply pf_v12_guards
    | with_reducible apply pf_v12_falls1
    | with_reducible refine pf_deals h1 ?_
    | with_reducible refine pf_deals h2 ?_
    | split
    | dsimp only
theorem pf_v12_joins_119 {q : PM} {M : Nat → Int} (hM : ∀ c, 116 ≤ M c) {p : PM} (v2 : Int32) (v3 : Int32) (v4 : Int32) (v5 : Int32) (v6 : Int32) (v8 : Int32) (v9 : Int32) (s0 : Int32) (h1 : PrB2 v3 v8 M) (h2 : PrB2 (v3 + cn 1) v9 M) (h : PrF q p M) : PrF q (v12_joins_119 p v2 v3 v4 v5 v6 v8 v9 s0).2 M := by
  unfold v12_joins_119 bv12_joins_119
  repeat' first
    | with_reducible exact h
    | with_reducible exact hM
    | with_reducible exact h1
    | with_reducible exact h2
    | with_reducible apply pf_v12_joins_197
    | with_reducible apply pf_v12_joins_258
    | split
    | dsimp only
theorem pf_v12_joins {q : PM} {M : Nat → Int} (hM : ∀ c, 116 ≤ M c) {p : PM} (v1 : Int32) (v2 : Int32) (h : PrF q p M) : PrF q (v12_joins p v1 v2).2 M := by
  have hp := h.2
  unfold v12_joins bv12_joins
  repeat' first
    | with_reducible exact h
    | with_reducible exact hM
    | with_reducible apply pf_v12_joins_53
    | with_reducible apply pf_v12_joins_119
    | with_reducible refine fo_pr hM hp ?_
    | with_reducible assumption
    | split
    | dsimp only
theorem pf_v12_chains_64 {q : PM} {M : Nat → Int} (hM : ∀ c, 116 ≤ M c)  {p : PM}   (h : PrF q p M) : PrF q (v12_chains_64 p).2 M := by
  unfold v12_chains_64 bv12_chains_64
  repeat' first
    | with_reducible exact h
    | with_reducible exact hM
    | with_reducible refine pf_12 ?_
    | with_reducible refine pf_13 (by decide) ?_
    | with_reducible refine pf_15 (by decide) ?_
    | with_reducible refine pf_24 (by decide) ?_
    | with_reducible refine pf_pJ ?_
    | split
    | dsimp only
theorem pf_v12_chains_248 {q : PM} {M : Nat → Int} (hM : ∀ c, 116 ≤ M c)  {p : PM} (v1 : Int32) (v2 : Int32) (v3 : Int32) (v4 : Int32) (v5 : Int32) (v6 : Int32) (v7 : Int32) (v8 : Int32)  (h : PrF q p M) : PrF q (v12_chains_248 p v1 v2 v3 v4 v5 v6 v7 v8).2 M := by
  unfold v12_chains_248 bv12_chains_248
  repeat' first
    | with_reducible exact h
    | with_reducible exact hM
    | with_reducible refine pf_12 ?_
    | with_reducible refine pf_13 (by decide) ?_
    | with_reducible refine pf_15 (by decide) ?_
    | with_reducible refine pf_24 (by decide) ?_
    | with_reducible refine pf_pJ ?_
    | split
    | dsimp only
theorem pf_v12_chains_364 {q : PM} {M : Nat → Int} (hM : ∀ c, 116 ≤ M c) {p : PM} (v1 : Int32) (v2 : Int32) (v3 : Int32) (v4 : Int32) (v5 : Int32) (v7 : Int32) (v8 : Int32) (v10 : Int32) (s0 : Int32) (h1 : PrB2 (cn 1) v8 M) (h2 : PrB2 (cn 2) v7 M) (h : PrF q p M) : PrF q (v12_chains_364 p v1 v2 v3 v4 v5 v7 v8 v10 s0).2 M := by
  unfold v12_chains_364 bv12_chains_364
  repeat' first
    | with_reducible exact h
    | with_reducible exact hM
    | with_reducible apply pf_v12_guards
    | with_reducible apply pf_v12_falls1
    | with_reducible refine pf_deals h1 ?_
    | with_reducible refine pf_deals h2 ?_
    | split
    | dsimp only
theorem pf_v12_chains_316 {q : PM} {M : Nat → Int} (hM : ∀ c, 116 ≤ M c) {p : PM} (v1 : Int32) (v2 : Int32) (v3 : Int32) (v4 : Int32) (v5 : Int32) (v6 : Int32) (v7 : Int32) (v8 : Int32) (v10 : Int32) (s0 : Int32) (h0 : PrB2 (cn 0) v6 M) (h1 : PrB2 (cn 1) v8 M) (h2 : PrB2 (cn 2) v7 M) (h : PrF q p M) : PrF q (v12_chains_316 p v1 v2 v3 v4 v5 v6 v7 v8 v10 s0).2 M := by
  unfold v12_chains_316 bv12_chains_316
  repeat' first
    | with_reducible exact h
    | with_reducible exact hM
    | with_reducible exact h1
    | with_reducible exact h2
    | with_reducible refine pf_deals h0 ?_
    | with_reducible apply pf_v12_chains_364
    | split
    | dsimp only
theorem pf_v12_chains_154 {q : PM} {M : Nat → Int} (hM : ∀ c, 116 ≤ M c) {p : PM} (v1 : Int32) (v2 : Int32) (v3 : Int32) (v4 : Int32) (v5 : Int32) (v6 : Int32) (v7 : Int32) (v8 : Int32) (s0 : Int32) (h0 : PrB2 (cn 0) v6 M) (h1 : PrB2 (cn 1) v8 M) (h2 : PrB2 (cn 2) v7 M) (h : PrF q p M) : PrF q (v12_chains_154 p v1 v2 v3 v4 v5 v6 v7 v8 s0).2 M := by
  unfold v12_chains_154 bv12_chains_154
  repeat' first
    | with_reducible exact h
    | with_reducible exact hM
    | with_reducible exact h0
    | with_reducible exact h1
    | with_reducible exact h2
    | with_reducible apply pf_v12_chains_248
    | with_reducible apply pf_v12_chains_316
    | split
    | dsimp only
theorem pf_v12_chains_25 {q : PM} {M : Nat → Int} (hM : ∀ c, 116 ≤ M c) {p : PM} (v1 : Int32) (v2 : Int32) (v3 : Int32) (s0 : Int32) (hw : ¬ v3 < 0 → -100000 ≤ (p.1 13 25 v3.toNatClampNeg).toInt ∧ (p.1 13 25 v3.toNatClampNeg).toInt ≤ 8) (h : PrF q p M) : PrF q (v12_chains_25 p v1 v2 v3 s0).2 M := by
  have mid : ∀ b s, ¬ v3 < 0 → ¬ v12_firstOf p b s < 0 → PrB2 (cn 1) (p.1 13 25 v3.toNatClampNeg + p.1 13 25 (v12_firstOf p b s).toNatClampNeg) M := by
    intro b s h1 h2 c hc _
    obtain ⟨k1, k2⟩ := hw h1
    obtain ⟨k3, k4⟩ := fo_at h.2 h2
    have k5 := hi_le (b := b) (x := 8) (y := 108) (z := 108) (by decide) (by decide)
    have k6 := hM c
    have e : (p.1 13 25 v3.toNatClampNeg + p.1 13 25 (v12_firstOf p b s).toNatClampNeg).toInt = (p.1 13 25 v3.toNatClampNeg).toInt + (p.1 13 25 (v12_firstOf p b s).toNatClampNeg).toInt := by
      rw [cn_of (p.1 13 25 v3.toNatClampNeg), cn_of (p.1 13 25 (v12_firstOf p b s).toNatClampNeg), cnadd, cn_I ⟨by omega, by omega⟩, ← cn_of, ← cn_of]
    omega
  have hp := h.2
  unfold v12_chains_25 bv12_chains_25
  repeat' first
    | with_reducible exact h
    | with_reducible exact hM
    | with_reducible apply pf_v12_chains_64
    | with_reducible apply pf_v12_chains_154
    | with_reducible refine fo_pr hM hp ?_
    | with_reducible refine mid _ _ ?_ ?_
    | with_reducible assumption
    | split
    | dsimp only
theorem pf_v12_chains {q : PM} {M : Nat → Int} (hM : ∀ c, 116 ≤ M c) {p : PM} (v1 : Int32) (h : PrF q p M) : PrF q (v12_chains p v1).2 M := by
  have hw : ¬ v12_firstOf p (cn 5) v1 < 0 → -100000 ≤ (p.1 13 25 (v12_firstOf p (cn 5) v1).toNatClampNeg).toInt ∧ (p.1 13 25 (v12_firstOf p (cn 5) v1).toNatClampNeg).toInt ≤ 8 := by
    intro h1
    obtain ⟨k3, k4⟩ := fo_at h.2 h1
    have e : hi (cn 5) 8 108 = 8 := if_pos (Or.inr rfl)
    rw [e] at k4
    exact ⟨k3, k4⟩
  unfold v12_chains bv12_chains
  dsimp only
  split
  · exact pf_v12_chains_25 hM _ _ _ _ hw h
  · exact pf_v12_chains_25 hM _ _ _ _ hw h
theorem pf_v12_combines {q : PM} {M : Nat → Int} (hM : ∀ c, 116 ≤ M c)  {p : PM}   (h : PrF q p M) : PrF q (v12_combines p).2 M := by
  unfold v12_combines bv12_combines
  repeat' first
    | with_reducible exact h
    | with_reducible exact hM
    | with_reducible refine pf_12 ?_
    | with_reducible refine pf_13 (by decide) ?_
    | with_reducible refine pf_15 (by decide) ?_
    | with_reducible refine pf_24 (by decide) ?_
    | with_reducible refine pf_pJ ?_
    | with_reducible apply pf_v12_joins
    | with_reducible apply pf_v12_chains
    | split
    | dsimp only
theorem pf_v12_works_11 {q : PM} {M : Nat → Int} (hM : ∀ c, 116 ≤ M c) {kv2 : PM → Int32 → PM} (hkv2 : ∀ {p : PM} (a1 : Int32), PrF q p M → PrF q (kv2 p a1) M) : ∀ (n : Nat) {p : PM} (c0 : Int32), PrF q p M → PrF q (v12_works_11 kv2 n p c0) M := by
  intro n
  induction n with
  | zero =>
    intro p c0 h
    exact h
  | succ n ih =>
    intro p c0 h
    rw [ev12_works_11]
    unfold bv12_works_11
    repeat' first
      | with_reducible exact h
      | with_reducible apply ih
      | with_reducible apply hkv2
      | with_reducible exact hM
      | with_reducible refine pf_12 ?_
      | with_reducible refine pf_13 (by decide) ?_
      | with_reducible refine pf_15 (by decide) ?_
      | with_reducible refine pf_24 (by decide) ?_
      | with_reducible refine pf_pJ ?_
      | with_reducible apply pf_v12_matches
      | with_reducible apply pf_v12_combines
      | split
      | dsimp only
theorem pf_v12_works_2 {q : PM} {M : Nat → Int} (hM : ∀ c, 116 ≤ M c)  : ∀ (n : Nat) {p : PM} (c0 : Int32), PrF q p M → PrF q (v12_works_2 n p c0) M := by
  intro n
  induction n with
  | zero =>
    intro p c0 h
    exact h
  | succ n ih =>
    intro p c0 h
    rw [ev12_works_2]
    unfold bv12_works_2
    repeat' first
      | with_reducible exact h
      | with_reducible apply ih
      | with_reducible exact hM
      | with_reducible refine pf_12 ?_
      | with_reducible refine pf_13 (by decide) ?_
      | with_reducible refine pf_15 (by decide) ?_
      | with_reducible refine pf_24 (by decide) ?_
      | with_reducible refine pf_pJ ?_
      | with_reducible apply pf_v12_pegsAll
      | with_reducible apply pf_v12_works_11
      | split
      | dsimp only
theorem pf_v12_works {q : PM} {M : Nat → Int} (hM : ∀ c, 116 ≤ M c)  {p : PM}   (h : PrF q p M) : PrF q (v12_works p) M := by
  unfold v12_works bv12_works
  repeat' first
    | with_reducible exact h
    | with_reducible exact hM
    | with_reducible refine pf_12 ?_
    | with_reducible refine pf_13 (by decide) ?_
    | with_reducible refine pf_15 (by decide) ?_
    | with_reducible refine pf_24 (by decide) ?_
    | with_reducible refine pf_pJ ?_
    | with_reducible apply pf_v12_works_2
    | split
    | dsimp only
theorem pf_v12_enters {q : PM} {M : Nat → Int} (hM : ∀ c, 116 ≤ M c)  {p : PM} (v1 : Int32)  (h : PrF q p M) : PrF q (v12_enters p v1) M := by
  unfold v12_enters bv12_enters
  repeat' first
    | with_reducible exact h
    | with_reducible exact hM
    | with_reducible refine pf_12 ?_
    | with_reducible refine pf_13 (by decide) ?_
    | with_reducible refine pf_15 (by decide) ?_
    | with_reducible refine pf_24 (by decide) ?_
    | with_reducible refine pf_pJ ?_
    | with_reducible apply pf_v12_comes
    | with_reducible apply pf_v12_matches
    | split
    | dsimp only
theorem pf_v12_doRule_43 {q : PM} {M : Nat → Int} (hM : ∀ c, 116 ≤ M c)  {p : PM} (v1 : Int32) (v2 : Int32) (v3 : Int32) (v4 : Int32)  (h : PrF q p M) : PrF q (v12_doRule_43 p v1 v2 v3 v4).2 M := by
  unfold v12_doRule_43 bv12_doRule_43
  repeat' first
    | with_reducible exact h
    | with_reducible exact hM
    | with_reducible refine pf_12 ?_
    | with_reducible refine pf_13 (by decide) ?_
    | with_reducible refine pf_15 (by decide) ?_
    | with_reducible refine pf_24 (by decide) ?_
    | with_reducible refine pf_pJ ?_
    | split
    | dsimp only
theorem pf_v12_doRule {q : PM} {M : Nat → Int} (hM : ∀ c, 116 ≤ M c)  {p : PM} (v1 : Int32) (v2 : Int32) (v3 : Int32) (v4 : Int32)  (h : PrF q p M) : PrF q (v12_doRule p v1 v2 v3 v4).2 M := by
  unfold v12_doRule bv12_doRule
  repeat' first
    | with_reducible exact h
    | with_reducible exact hM
    | with_reducible refine pf_12 ?_
    | with_reducible refine pf_13 (by decide) ?_
    | with_reducible refine pf_15 (by decide) ?_
    | with_reducible refine pf_24 (by decide) ?_
    | with_reducible refine pf_pJ ?_
    | with_reducible apply pf_v12_doRule_43
    | split
    | dsimp only
theorem pf_v12_doAuction {q : PM} {M : Nat → Int} (hM : ∀ c, 116 ≤ M c)  {p : PM} (v1 : Int32) (v2 : Int32) (v3 : Int32) (v4 : Int32)  (h : PrF q p M) : PrF q (v12_doAuction p v1 v2 v3 v4).2 M := by
  unfold v12_doAuction bv12_doAuction
  repeat' first
    | with_reducible exact h
    | with_reducible exact hM
    | with_reducible refine pf_12 ?_
    | with_reducible refine pf_13 (by decide) ?_
    | with_reducible refine pf_15 (by decide) ?_
    | with_reducible refine pf_24 (by decide) ?_
    | with_reducible refine pf_pJ ?_
    | with_reducible apply pf_v12_beginsAuction
    | split
    | dsimp only
theorem pf_v12_passes_28 {q : PM} {M : Nat → Int} (hM : ∀ c, 116 ≤ M c) {kv2 : PM → Int32 → Int32 → PM} (hkv2 : ∀ {p : PM} (a1 : Int32) (a2 : Int32), PrF q p M → PrF q (kv2 p a1 a2) M) {kv19 : PM → Int32 → Int32 → Int32 → PM} (hkv19 : ∀ {p : PM} (a1 : Int32) (a2 : Int32) (a3 : Int32), PrF q p M → PrF q (kv19 p a1 a2 a3) M) : ∀ (n : Nat) {p : PM} (c0 : Int32) (c1 : Int32) (c2 : Int32) (c3 : Int32), PrF q p M → PrF q (v12_passes_28 kv2 kv19 n p c0 c1 c2 c3) M := by
  intro n
  induction n with
  | zero =>
    intro p c0 c1 c2 c3 h
    exact h
  | succ n ih =>
    intro p c0 c1 c2 c3 h
    rw [ev12_passes_28]
    unfold bv12_passes_28
    repeat' first
      | with_reducible exact h
      | with_reducible apply ih
      | with_reducible apply hkv2
      | with_reducible apply hkv19
      | with_reducible exact hM
      | with_reducible refine pf_12 ?_
      | with_reducible refine pf_13 (by decide) ?_
      | with_reducible refine pf_15 (by decide) ?_
      | with_reducible refine pf_24 (by decide) ?_
      | with_reducible refine pf_pJ ?_
      | split
      | dsimp only
theorem pf_v12_tradesAll_17 {q : PM} {M : Nat → Int} (hM : ∀ c, 116 ≤ M c) : ∀ (n : Nat) {p : PM} (c0 : Int32) (c1 : Int32) (c2 : Int32) (c3 : Int32), PrB2 c0 c1 M → PrF q p M → PrF q (v12_tradesAll_17 n p c0 c1 c2 c3) M := by
  intro n
  induction n with
  | zero =>
    intro p c0 c1 c2 c3 hz h
    exact h
  | succ n ih =>
    intro p c0 c1 c2 c3 hz h
    rw [ev12_tradesAll_17]
    unfold bv12_tradesAll_17
    repeat' first
      | with_reducible exact h
      | with_reducible exact hM
      | with_reducible exact hz
      | with_reducible apply ih
      | with_reducible apply pf_v12_guards
      | with_reducible apply pf_v12_falls
      | with_reducible refine pf_deals hz ?_
      | split
      | dsimp only
theorem pf_v12_tradesAll {q : PM} {M : Nat → Int} (hM : ∀ c, 116 ≤ M c) {p : PM} (v1 : Int32) (v2 : Int32) (hz : PrB2 v1 v2 M) (h : PrF q p M) : PrF q (v12_tradesAll p v1 v2) M := by
  unfold v12_tradesAll bv12_tradesAll
  exact pf_v12_tradesAll_17 hM _ _ _ _ _ hz h
theorem pf_v12_endsAuction_92 {q : PM} {M : Nat → Int} (hM : ∀ c, 116 ≤ M c)  : ∀ (n : Nat) {p : PM} (c0 : Int32) (c1 : Int32), PrF q p M → PrF q (v12_endsAuction_92 n p c0 c1) M := by
  intro n
  induction n with
  | zero =>
    intro p c0 c1 h
    exact h
  | succ n ih =>
    intro p c0 c1 h
    rw [ev12_endsAuction_92]
    unfold bv12_endsAuction_92
    repeat' first
      | with_reducible exact h
      | with_reducible apply ih
      | with_reducible exact hM
      | with_reducible refine pf_12 ?_
      | with_reducible refine pf_13 (by decide) ?_
      | with_reducible refine pf_15 (by decide) ?_
      | with_reducible refine pf_24 (by decide) ?_
      | with_reducible refine pf_pJ ?_
      | with_reducible apply pf_v12_showsAnew
      | with_reducible apply pf_v12_works
      | split
      | dsimp only
theorem pf_v12_endsAuction {q : PM} {M : Nat → Int} (hM : ∀ c, 116 ≤ M c) {p : PM} (v1 : Int32) (h : PrF q p M) : PrF q (v12_endsAuction p v1) M := by
  have g := pg_finds hM v1 h
  unfold v12_endsAuction bv12_endsAuction
  dsimp only
  generalize v12_finds p v1 = p1 at g ⊢
  obtain ⟨g1, g2⟩ := g
  have g3 : ∀ c, c < 4 → c = v1.toNatClampNeg → (p1.1 12 1 65).toInt ≤ M c := fun c hc e => g2 c hc e.symm
  repeat' first
    | with_reducible exact g1
    | with_reducible exact hM
    | with_reducible exact g2
    | with_reducible refine pf_13 (by decide) ?_
    | with_reducible refine pf_15 (by decide) ?_
    | with_reducible refine pf_10 (Or.inr rfl) g3 ?_
    | with_reducible apply pf_v12_endsAuction_92
    | with_reducible apply pf_v12_tradesAll
    | split
theorem pf_v12_passes_94 {q : PM} {M : Nat → Int} (hM : ∀ c, 116 ≤ M c) {kv2 : PM → Int32 → Int32 → PM} (hkv2 : ∀ {p : PM} (a1 : Int32) (a2 : Int32), PrF q p M → PrF q (kv2 p a1 a2) M) : ∀ (n : Nat) {p : PM} (c0 : Int32) (c1 : Int32) (c2 : Int32), PrF q p M → PrF q (v12_passes_94 kv2 n p c0 c1 c2) M := by
  intro n
  induction n with
  | zero =>
    intro p c0 c1 c2 h
    exact h
  | succ n ih =>
    intro p c0 c1 c2 h
    rw [ev12_passes_94]
    unfold bv12_passes_94
    repeat' first
      | with_reducible exact h
      | with_reducible apply ih
      | with_reducible apply hkv2
      | with_reducible exact hM
      | with_reducible refine pf_12 ?_
      | with_reducible refine pf_13 (by decide) ?_
      | with_reducible refine pf_15 (by decide) ?_
      | with_reducible refine pf_24 (by decide) ?_
      | with_reducible refine pf_pJ ?_
      | with_reducible apply pf_v12_endsAuction
      | split
      | dsimp only
theorem pf_v12_passes_19 {q : PM} {M : Nat → Int} (hM : ∀ c, 116 ≤ M c) {kv2 : PM → Int32 → Int32 → PM} (hkv2 : ∀ {p : PM} (a1 : Int32) (a2 : Int32), PrF q p M → PrF q (kv2 p a1 a2) M) : ∀ (n : Nat) {p : PM} (c0 : Int32) (c1 : Int32) (c2 : Int32), PrF q p M → PrF q (v12_passes_19 kv2 n p c0 c1 c2) M := by
  intro n
  induction n with
  | zero =>
    intro p c0 c1 c2 h
    exact h
  | succ n ih =>
    intro p c0 c1 c2 h
    rw [ev12_passes_19]
    unfold bv12_passes_19
    repeat' first
      | with_reducible exact h
      | with_reducible apply ih
      | with_reducible apply hkv2
      | with_reducible exact hM
      | with_reducible refine pf_12 ?_
      | with_reducible refine pf_13 (by decide) ?_
      | with_reducible refine pf_15 (by decide) ?_
      | with_reducible refine pf_24 (by decide) ?_
      | with_reducible refine pf_pJ ?_
      | with_reducible apply pf_v12_passes_28
      | with_reducible apply pf_v12_passes_94
      | split
      | dsimp only
theorem pf_v12_passes_2 {q : PM} {M : Nat → Int} (hM : ∀ c, 116 ≤ M c)  : ∀ (n : Nat) {p : PM} (c0 : Int32) (c1 : Int32), PrF q p M → PrF q (v12_passes_2 n p c0 c1) M := by
  intro n
  induction n with
  | zero =>
    intro p c0 c1 h
    exact h
  | succ n ih =>
    intro p c0 c1 h
    rw [ev12_passes_2]
    unfold bv12_passes_2
    repeat' first
      | with_reducible exact h
      | with_reducible apply ih
      | with_reducible exact hM
      | with_reducible refine pf_12 ?_
      | with_reducible refine pf_13 (by decide) ?_
      | with_reducible refine pf_15 (by decide) ?_
      | with_reducible refine pf_24 (by decide) ?_
      | with_reducible refine pf_pJ ?_
      | with_reducible apply pf_v12_passes_19
      | split
      | dsimp only
theorem pf_v12_passes {q : PM} {M : Nat → Int} (hM : ∀ c, 116 ≤ M c)  {p : PM} (v1 : Int32)  (h : PrF q p M) : PrF q (v12_passes p v1) M := by
  unfold v12_passes bv12_passes
  repeat' first
    | with_reducible exact h
    | with_reducible exact hM
    | with_reducible refine pf_12 ?_
    | with_reducible refine pf_13 (by decide) ?_
    | with_reducible refine pf_15 (by decide) ?_
    | with_reducible refine pf_24 (by decide) ?_
    | with_reducible refine pf_pJ ?_
    | with_reducible apply pf_v12_passes_2
    | split
    | dsimp only
theorem pf_v12_doPass {q : PM} {M : Nat → Int} (hM : ∀ c, 116 ≤ M c)  {p : PM} (v1 : Int32)  (h : PrF q p M) : PrF q (v12_doPass p v1).2 M := by
  unfold v12_doPass bv12_doPass
  repeat' first
    | with_reducible exact h
    | with_reducible exact hM
    | with_reducible refine pf_12 ?_
    | with_reducible refine pf_13 (by decide) ?_
    | with_reducible refine pf_15 (by decide) ?_
    | with_reducible refine pf_24 (by decide) ?_
    | with_reducible refine pf_pJ ?_
    | with_reducible apply pf_v12_passes
    | split
    | dsimp only
theorem pf_v12_doEndDay_101 {q : PM} {M : Nat → Int} (hM : ∀ c, 116 ≤ M c) : ∀ (n : Nat) {p : PM} (c0 : Int32) (c1 : Int32) (c2 : Int32), PrF q p M → PrF q (v12_doEndDay_101 n p c0 c1 c2).2 M := by
  intro n
  induction n with
  | zero =>
    intro p c0 c1 c2 h
    exact h
  | succ n ih =>
    intro p c0 c1 c2 h
    have b : PrF q (pI p 13 11 c2.toNatClampNeg (p.1 13 10 c2.toNatClampNeg)) M := pf_10 (Or.inr rfl) (fun c hc e => by rw [← e]; exact (h.2.2.2.2.1 c hc).1) h
    rw [ev12_doEndDay_101]
    unfold bv12_doEndDay_101
    repeat' first
      | with_reducible exact h
      | with_reducible exact hM
      | with_reducible exact ih _ _ _ b
      | with_reducible refine pf_12 ?_
      | split
      | dsimp only
theorem pf_v12_doEndDay_51 {q : PM} {M : Nat → Int} (hM : ∀ c, 116 ≤ M c)  : ∀ (n : Nat) {p : PM} (c0 : Int32) (c1 : Int32) (c2 : Int32), PrF q p M → PrF q (v12_doEndDay_51 n p c0 c1 c2).2 M := by
  intro n
  induction n with
  | zero =>
    intro p c0 c1 c2 h
    exact h
  | succ n ih =>
    intro p c0 c1 c2 h
    rw [ev12_doEndDay_51]
    unfold bv12_doEndDay_51
    repeat' first
      | with_reducible exact h
      | with_reducible apply ih
      | with_reducible exact hM
      | with_reducible refine pf_12 ?_
      | with_reducible refine pf_13 (by decide) ?_
      | with_reducible refine pf_15 (by decide) ?_
      | with_reducible refine pf_24 (by decide) ?_
      | with_reducible refine pf_pJ ?_
      | with_reducible apply pf_v12_doEndDay_101
      | split
      | dsimp only
theorem pf_v12_doEndDay_4 {q : PM} {M : Nat → Int} (hM : ∀ c, 116 ≤ M c)  : ∀ (n : Nat) {p : PM} (c0 : Int32) (c1 : Int32), PrF q p M → PrF q (v12_doEndDay_4 n p c0 c1).2 M := by
  intro n
  induction n with
  | zero =>
    intro p c0 c1 h
    exact h
  | succ n ih =>
    intro p c0 c1 h
    rw [ev12_doEndDay_4]
    unfold bv12_doEndDay_4
    repeat' first
      | with_reducible exact h
      | with_reducible apply ih
      | with_reducible exact hM
      | with_reducible refine pf_12 ?_
      | with_reducible refine pf_13 (by decide) ?_
      | with_reducible refine pf_15 (by decide) ?_
      | with_reducible refine pf_24 (by decide) ?_
      | with_reducible refine pf_pJ ?_
      | with_reducible apply pf_v12_doEndDay_51
      | split
      | dsimp only
theorem pf_v12_doEndDay {q : PM} {M : Nat → Int} (hM : ∀ c, 116 ≤ M c)  {p : PM}   (h : PrF q p M) : PrF q (v12_doEndDay p).2 M := by
  unfold v12_doEndDay bv12_doEndDay
  repeat' first
    | with_reducible exact h
    | with_reducible exact hM
    | with_reducible refine pf_12 ?_
    | with_reducible refine pf_13 (by decide) ?_
    | with_reducible refine pf_15 (by decide) ?_
    | with_reducible refine pf_24 (by decide) ?_
    | with_reducible refine pf_pJ ?_
    | with_reducible apply pf_v12_doEndDay_4
    | split
    | dsimp only
theorem pf_v12_call {q : PM} {M : Nat → Int} (hM : ∀ c, 116 ≤ M c)  {p : PM} (v1 : Int32) (v2 : Int64) (v4 : Int64)  (h : PrF q p M) : PrF q (v12_call p v1 v2 v4).2 M := by
  unfold v12_call bv12_call
  repeat' first
    | with_reducible exact h
    | with_reducible exact hM
    | with_reducible refine pf_12 ?_
    | with_reducible refine pf_13 (by decide) ?_
    | with_reducible refine pf_15 (by decide) ?_
    | with_reducible refine pf_24 (by decide) ?_
    | with_reducible refine pf_pJ ?_
    | split
    | dsimp only
theorem pf_v12_callOf {q : PM} {M : Nat → Int} (hM : ∀ c, 116 ≤ M c)  {p : PM} (v1 : Int32)  (h : PrF q p M) : PrF q (v12_callOf p v1).2 M := by
  unfold v12_callOf bv12_callOf
  repeat' first
    | with_reducible exact h
    | with_reducible exact hM
    | with_reducible refine pf_12 ?_
    | with_reducible refine pf_13 (by decide) ?_
    | with_reducible refine pf_15 (by decide) ?_
    | with_reducible refine pf_24 (by decide) ?_
    | with_reducible refine pf_pJ ?_
    | with_reducible apply pf_v12_call
    | split
    | dsimp only
theorem pf_v12_doFail_73 {q : PM} {M : Nat → Int} (hM : ∀ c, 116 ≤ M c)  : ∀ (n : Nat) {p : PM} (c0 : Int32) (c1 : Int32) (c2 : Int32), PrF q p M → PrF q (v12_doFail_73 n p c0 c1 c2).2 M := by
  intro n
  induction n with
  | zero =>
    intro p c0 c1 c2 h
    exact h
  | succ n ih =>
    intro p c0 c1 c2 h
    rw [ev12_doFail_73]
    unfold bv12_doFail_73
    repeat' first
      | with_reducible exact h
      | with_reducible apply ih
      | with_reducible exact hM
      | with_reducible refine pf_12 ?_
      | with_reducible refine pf_13 (by decide) ?_
      | with_reducible refine pf_15 (by decide) ?_
      | with_reducible refine pf_24 (by decide) ?_
      | with_reducible refine pf_pJ ?_
      | split
      | dsimp only
theorem pf_v12_doFail {q : PM} {M : Nat → Int} (hM : ∀ c, 116 ≤ M c)  {p : PM} (v1 : Int32)  (h : PrF q p M) : PrF q (v12_doFail p v1).2 M := by
  unfold v12_doFail bv12_doFail
  repeat' first
    | with_reducible exact h
    | with_reducible exact hM
    | with_reducible refine pf_12 ?_
    | with_reducible refine pf_13 (by decide) ?_
    | with_reducible refine pf_15 (by decide) ?_
    | with_reducible refine pf_24 (by decide) ?_
    | with_reducible refine pf_pJ ?_
    | with_reducible apply pf_v12_callOf
    | with_reducible apply pf_v12_doFail_73
    | split
    | dsimp only
theorem pf_v12_doBid_83 {q : PM} {M : Nat → Int} (hM : ∀ c, 116 ≤ M c)  : ∀ (n : Nat) {p : PM} (c0 : Int32) (c1 : Int32), PrF q p M → PrF q (v12_doBid_83 n p c0 c1).2 M := by
  intro n
  induction n with
  | zero =>
    intro p c0 c1 h
    exact h
  | succ n ih =>
    intro p c0 c1 h
    rw [ev12_doBid_83]
    unfold bv12_doBid_83
    repeat' first
      | with_reducible exact h
      | with_reducible apply ih
      | with_reducible exact hM
      | with_reducible refine pf_12 ?_
      | with_reducible refine pf_13 (by decide) ?_
      | with_reducible refine pf_15 (by decide) ?_
      | with_reducible refine pf_24 (by decide) ?_
      | with_reducible refine pf_pJ ?_
      | split
      | dsimp only
theorem pf_v12_doBid {q : PM} {M : Nat → Int} (hM : ∀ c, 116 ≤ M c)  {p : PM} (v1 : Int32) (v2 : Int32)  (h : PrF q p M) : PrF q (v12_doBid p v1 v2).2 M := by
  unfold v12_doBid bv12_doBid
  repeat' first
    | with_reducible exact h
    | with_reducible exact hM
    | with_reducible refine pf_12 ?_
    | with_reducible refine pf_13 (by decide) ?_
    | with_reducible refine pf_15 (by decide) ?_
    | with_reducible refine pf_24 (by decide) ?_
    | with_reducible refine pf_pJ ?_
    | with_reducible apply pf_v12_doBid_83
    | split
    | dsimp only
