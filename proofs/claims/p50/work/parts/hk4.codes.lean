/-! an order of the law's is taken, or refused: no other fault -/
theorem isW_y {z a b : Int} (ha : rg a) (hb : rg b) (h1 : a ≤ z) (h2 : z ≤ b) : ¬ isW (cn z) (cn a) (cn b) = 0 := by
  have hz : rg z := ⟨by have := ha.1; omega, by have := hb.2; omega⟩
  unfold isW
  rw [if_neg (by rw [cnlt hz ha]; omega), if_neg (by rw [cnlt hb hz]; omega)]
  decide
section Codes
variable {p : PM} {A B : Nat} {z v : Int}
theorem o3 {P : Prop} [Decidable P] {a : Nat} (h : a = 0 ∨ a = 3) : (if P then 3 else a) = 0 ∨ (if P then 3 else a) = 3 := by
  split
  · exact Or.inr rfl
  · exact h
theorem q0n (v1 : -50 ≤ v) (v2 : v ≤ 50) (v0 : ¬ v = 0) : ¬ cn v = 0 := by
  rw [zcn, cneq ⟨by omega, by omega⟩ (by decide)]
  exact v0
theorem pr_y (hK : CK p) (hB : B < 6) (hz : PrB B z) : ¬ v1_hasPrice p (v6_bookAt p (cn B)) (cn z) = 0 := by
  have hz1 := hz.1
  have hz2 := hz.2.1
  rw [book_e p (a := B) (by omega), (price_e (q := p) hB hK (z := z) ⟨by omega, by omega⟩).2.1]
  exact fun h => h hz
theorem k_market (hA : A < 8) (hB : B < 6) (v1 : -50 ≤ v) (v2 : v ≤ 50) (v0 : ¬ v = 0) : kMarket p (cn A) (cn B) (cn v) = 0 ∨ kMarket p (cn A) (cn B) (cn v) = 3 := by
  unfold kMarket
  rw [if_neg (isW_y (by decide) (by decide) (by omega) (by omega)), if_neg (isW_y (by decide) (by decide) (by omega) (by omega)), if_neg (isW_y (by decide) (by decide) v1 v2), if_neg (q0n v1 v2 v0)]
  exact o3 (Or.inl rfl)
theorem k_limit (hK : CK p) (hA : A < 8) (hB : B < 6) (hz : PrB B z) (v1 : -50 ≤ v) (v2 : v ≤ 50) (v0 : ¬ v = 0) : kLimit p (cn A) (cn B) (cn z) (cn v) (cn 0) (cn 1) = 0 ∨ kLimit p (cn A) (cn B) (cn z) (cn v) (cn 0) (cn 1) = 3 := by
  unfold kLimit
  rw [if_neg (isW_y (by decide) (by decide) (by omega) (by omega)), if_neg (isW_y (by decide) (by decide) (by omega) (by omega)), if_neg (pr_y hK hB hz), if_neg (isW_y (by decide) (by decide) v1 v2), if_neg (q0n v1 v2 v0), absP_e p v1 v2, if_neg (isW_y (by decide) ⟨by omega, by omega⟩ (by decide) (by omega)), if_neg (isW_y (by decide) (by decide) (by decide) (by decide))]
  unfold kLimS
  refine o3 ?_
  split
  · exact Or.inl rfl
  · exact o3 (o3 (Or.inl rfl))
theorem k_ice (hK : CK p) (hA : A < 8) (hB : B < 6) (hz : PrB B z) (v1 : -50 ≤ v) (v2 : v ≤ 50) (v0 : ¬ v = 0) : kIceberg p (cn A) (cn B) (cn z) (cn v) (cn 1) = 0 ∨ kIceberg p (cn A) (cn B) (cn z) (cn v) (cn 1) = 3 := by
  unfold kIceberg
  rw [if_neg (isW_y (by decide) (by decide) (by omega) (by omega)), if_neg (isW_y (by decide) (by decide) (by omega) (by omega)), if_neg (pr_y hK hB hz), if_neg (isW_y (by decide) (by decide) v1 v2), if_neg (q0n v1 v2 v0), absP_e p v1 v2, if_neg (isW_y (by decide) ⟨by omega, by omega⟩ (by decide) (by omega))]
  exact o3 (Or.inl rfl)
theorem k_peg (hK : CK p) (hA : A < 8) (hB : B < 6) (hz : PrB B z) (v1 : -50 ≤ v) (v2 : v ≤ 50) (v0 : ¬ v = 0) : kPeg p (cn A) (cn B) (cn z) (cn v) (cn 2) = 0 ∨ kPeg p (cn A) (cn B) (cn z) (cn v) (cn 2) = 3 := by
  unfold kPeg
  rw [if_neg (isW_y (by decide) (by decide) (by omega) (by omega)), if_neg (isW_y (by decide) (by decide) (by omega) (by omega)), if_neg (pr_y hK hB hz), if_neg (isW_y (by decide) (by decide) v1 v2), if_neg (q0n v1 v2 v0), if_neg (isW_y (by decide) (by decide) (by decide) (by decide))]
  exact o3 (Or.inl rfl)
theorem k_stop (hA : A < 8) (hB : B < 4) (z1 : 1 ≤ z) (z2 : z ≤ 9999) (v1 : -50 ≤ v) (v2 : v ≤ 50) (v0 : ¬ v = 0) : kStop p (cn A) (cn B) (cn z) (cn 0) (cn v) = 0 ∨ kStop p (cn A) (cn B) (cn z) (cn 0) (cn v) = 3 := by
  unfold kStop
  rw [if_neg (isW_y (by decide) (by decide) (by omega) (by omega)), if_neg (isW_y (by decide) (by decide) (by omega) (by omega)), if_neg (isW_y (by decide) (by decide) z1 z2), if_neg (isW_y (by decide) (by decide) (by decide) (by decide)), if_neg (isW_y (by decide) (by decide) v1 v2), if_neg (q0n v1 v2 v0)]
  exact o3 (Or.inl rfl)
theorem k_quote (hK : CK p) (hA : A < 8) (hB : B < 6) (hz : PrB B z) (hz2 : PrB B (z + 4)) : kQuote p (cn A) (cn B) (cn z) (cn z + cn 4) (cn 3) = 0 ∨ kQuote p (cn A) (cn B) (cn z) (cn z + cn 4) (cn 3) = 3 := by
  have a1 := hz.1
  have a2 := hz.2.1
  have e : cn z < cn (z + 4) := by
    rw [cnlt ⟨by omega, by omega⟩ ⟨by omega, by omega⟩]
    omega
  unfold kQuote
  rw [cnadd, if_neg (isW_y (by decide) (by decide) (by omega) (by omega)), if_neg (isW_y (by decide) (by decide) (by omega) (by omega)), if_neg (pr_y hK hB hz), if_neg (pr_y hK hB hz2), if_pos e, if_neg (isW_y (by decide) (by decide) (by decide) (by decide))]
  exact o3 (o3 (o3 (Or.inl rfl)))
/-- the numbers of isOrdered, as they are -/
theorem nQ_e (Y : Nat) : ∃ v : Int, nQ Y = cn v ∧ -7 ≤ v ∧ v ≤ 7 ∧ ¬ v = 0 := by
  unfold nQ
  split
  · refine ⟨(1 + ((Y / 48 % 7 : Nat) : Int)) * 1, ?_, by omega, by omega, by omega⟩
    rw [cnadd, cnmul]
  · refine ⟨(1 + ((Y / 48 % 7 : Nat) : Int)) * (-1), ?_, by omega, by omega, by omega⟩
    rw [cnadd, cnmul]
theorem prQ_e (Y : Nat) : ∃ z : Int, prQ Y = cn z ∧ (Y / 8 % 6 < 4 → 96 ≤ z ∧ z ≤ 104) ∧ (¬ Y / 8 % 6 < 4 → -4 ≤ z ∧ z ≤ 4) := by
  unfold prQ
  split
  · refine ⟨96 + ((Y / 672 % 9 : Nat) : Int), ?_, fun _ => ⟨by omega, by omega⟩, fun h => absurd (by assumption) h⟩
    rw [cnadd]
  · refine ⟨-4 + ((Y / 672 % 9 : Nat) : Int), ?_, fun h => absurd h (by assumption), fun _ => ⟨by omega, by omega⟩⟩
    rw [cnadd]
end Codes
