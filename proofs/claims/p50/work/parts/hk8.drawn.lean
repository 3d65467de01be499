/-! a number of the law's turns -/
section Drawn
theorem u32_cn (u : UInt32) : u.toInt32 = cn (u.toNat : Int) := by
  apply Int32.toBitVec_inj.mp
  show u.toBitVec = BitVec.ofInt 32 (u.toNat : Int)
  rw [BitVec.ofInt_natCast]
  apply BitVec.eq_of_toNat_eq
  rw [BitVec.toNat_ofNat]
  exact (Nat.mod_eq_of_lt u.toNat_lt).symm
theorem ush_1 (x : Int32) : ∃ n : Nat, n ≤ 2147483647 ∧ ush x (cn 1) = cn (n : Int) := by
  refine ⟨(x.toUInt32 >>> ((cn 1).toUInt32 &&& Int32.toUInt32 31)).toNat, ?_, u32_cn _⟩
  have e : (cn 1).toUInt32 &&& Int32.toUInt32 31 = 1 := by decide
  rw [e, UInt32.toNat_shiftRight, Nat.shiftRight_eq_div_pow]
  have := x.toUInt32.toNat_lt
  show x.toUInt32.toNat / 2 ^ 1 ≤ 2147483647
  omega
variable {M : Mem} {L b i : Nat}
/-- drawn's end -/
theorem dr_end {x : Int32} {v : AV} (hb : 0 < b) (hb2 : b ≤ 2000000) : ∃ n : Nat, n < b ∧ X 211 20 [rR 4 13 1, vI (cn i), vI (cn b), v] [vI x] M = some (.inl (some (vI (cn n))), M) := by
  obtain ⟨n, hn, en⟩ := ush_1 x
  have hz : ¬ cn (b : Int) = 0 := fun h => by
    have h1 : cn 0 < cn (b : Int) := (cnlt (by decide) ⟨by omega, by omega⟩).mpr (by omega)
    rw [h] at h1
    exact absurd h1 (by decide)
  refine ⟨n % b, Nat.mod_lt _ hb, ?_⟩
  refine y_rm yk211 5 25 26 (cn ((n % b : Nat) : Int)) rfl rfl hz rfl (en ▸ rm_n (a := n) (b := b) hn hb (by omega)) ?_
  exact y_ret yk211 1 rfl rfl
theorem x_drawn (hL : M.2.2.1 = L) (hL2 : L ≤ 260) (hi : i < 260) (hb : 0 < b) (hb2 : b ≤ 2000000) : ∃ n : Nat, n < b ∧ X 211 0 [rR 4 13 1, vI (cn i), vI (cn b), vJ] [] M = some (.inl (some (vI (cn n))), M) := by
  have hm : Int32.ofNat (lenA M 4 13 1) = cn (L : Int) := by
    show Int32.ofNat M.2.2.1 = _
    rw [hL]
    rfl
  by_cases h : i < L
  · obtain ⟨n, hn, e⟩ := dr_end (M := M) (i := i) (x := (M.1 4).1 13 1 (cn (i : Int)).toNatClampNeg) (v := vJ) hb hb2
    refine ⟨n, hn, ?_⟩
    refine y_len yk211 2 2 3 (cn (L : Int)) rfl rfl rfl (by decide) hm ?_
    refine y_icF yk211 0 3 6 rfl rfl rfl (by decide) ?_ ?_
    · show decide (cn (L : Int) ≤ cn (i : Int)) = false
      rw [decide_eq_false_iff_not, Int32.not_le]
      exact lpt (i := i) (N := L) (by omega) (by omega)
    · refine y_ald yk211 2 8 9 _ rfl rfl rfl ?_ rfl ?_
      · refine ⟨?_, ?_⟩
        · rw [← Int32.not_lt, show (0 : Int32) = cn 0 from rfl, cnlt ⟨by omega, by omega⟩ (by decide)]
          omega
        · show (cn (i : Int)).toNatClampNeg < M.2.2.1
          rw [hL, cntk (by omega)]
          exact h
      · exact y_go yk211 1 20 rfl e
  · obtain ⟨n, hn, e⟩ := dr_end (M := M) (i := i) (x := cn 50909 * cn (i : Int) + cn 25849) (v := vJ) hb hb2
    refine ⟨n, hn, ?_⟩
    refine y_len yk211 2 2 3 (cn (L : Int)) rfl rfl rfl (by decide) hm ?_
    refine y_icT yk211 0 3 12 rfl rfl rfl ?_ ?_
    · show decide (cn (L : Int) ≤ cn (i : Int)) = true
      rw [decide_eq_true_iff, ← Int32.not_lt, cnlt ⟨by omega, by omega⟩ ⟨by omega, by omega⟩]
      omega
    · refine y_go yk211 5 20 rfl ?_
      exact e
end Drawn
