/-! divisions rounded down; nets and moves -/
theorem tm_rng {A B : Int} (hB : 0 < B) : B * A.tdiv B + A.tmod B = A ∧ A.tmod B < B ∧ -B < A.tmod B ∧ (0 ≤ A → 0 ≤ A.tmod B) ∧ (A ≤ 0 → A.tmod B ≤ 0) := by
  refine ⟨Int.mul_tdiv_add_tmod A B, Int.tmod_lt_of_pos A hB, Int.lt_tmod_of_pos A hB, fun h => Int.tmod_nonneg B h, fun h => ?_⟩
  have h1 := Int.tmod_nonneg (a := -A) B (by omega)
  rw [Int.neg_tmod] at h1
  omega
theorem td_fl {A B : Int} (hB : 0 < B) : A / B = if A.tmod B < 0 then A.tdiv B - 1 else A.tdiv B := by
  obtain ⟨h1, h2, h3, h4, h5⟩ := tm_rng (A := A) hB
  by_cases h : A.tmod B < 0
  · rw [if_pos h]
    refine ((Int.ediv_emod_unique (r := A.tmod B + B) hB).mpr ⟨?_, by omega, by omega⟩).1
    rw [Int.mul_sub]
    omega
  · rw [if_neg h]
    exact ((Int.ediv_emod_unique (r := A.tmod B) hB).mpr ⟨by omega, by omega, by omega⟩).1
theorem td_rng {A B : Int} (hB : 0 < B) : (0 ≤ A → 0 ≤ A.tdiv B ∧ A.tdiv B ≤ A) ∧ (A ≤ 0 → A ≤ A.tdiv B ∧ A.tdiv B ≤ 0) := by
  obtain ⟨h1, h2, h3, h4, h5⟩ := tm_rng (A := A) hB
  refine ⟨fun h => ?_, fun h => ?_⟩
  · have h6 : 0 ≤ A.tdiv B := Int.tdiv_nonneg h (by omega)
    have h7 : A.tdiv B * 1 ≤ A.tdiv B * B := Int.mul_le_mul_of_nonneg_left (by omega) h6
    have h8 := h4 h
    rw [Int.mul_comm] at h1
    omega
  · have h6 : 0 ≤ (-A).tdiv B := Int.tdiv_nonneg (by omega) (by omega)
    have h7 : (-A).tdiv B * 1 ≤ (-A).tdiv B * B := Int.mul_le_mul_of_nonneg_left (by omega) h6
    rw [Int.neg_tdiv] at h6 h7
    rw [Int.neg_mul, Int.neg_mul] at h7
    have h8 := h5 h
    rw [Int.mul_comm] at h1
    omega
theorem lxor_neg {x y : Int64} (hy : ¬ y < 0) : (x ^^^ y < 0) = (x < 0) := by
  have e : ∀ z : Int64, (z < 0) = (z.toBitVec.msb = true) := fun z => by
    refine propext ?_
    show (z.toBitVec.slt (0 : Int64).toBitVec = true) ↔ _
    exact BitVec.slt_zero_iff_msb_cond
  rw [e] at hy
  rw [e, e, Int64.toBitVec_xor, BitVec.msb_xor, Bool.eq_false_iff.mpr hy, Bool.xor_false]
theorem cl0n {B : Int} (h : 0 ≤ B) (h2 : B ≤ 9223372036854775807) : ¬ cl B < 0 := by
  rw [zcl, cllt ⟨by omega, by omega⟩ (by decide)]
  omega
theorem cl0e {B : Int} (h : 0 < B) (h2 : B ≤ 9223372036854775807) : ¬ cl B = 0 := by
  rw [zcl, cleq ⟨by omega, by omega⟩ (by decide)]
  omega
theorem c0l : (cn 0).toInt64 = cl 0 := rfl
theorem c1l : (cn 1).toInt64 = cl 1 := rfl
theorem fd_e {A B : Int} (p : PM) (hA : rl A) (hB : 0 < B) (hB2 : B ≤ 9223372036854775807) : g14_floorDiv_f86c9 p (cl A) (cl B) ∧ v14_floorDiv_f86c9 p (cl A) (cl B) = cl (A / B) := by
  obtain ⟨h1, h2, h3, h4, h5⟩ := tm_rng (A := A) hB
  obtain ⟨h6, h7⟩ := td_rng (A := A) hB
  have hA1 := hA.1
  have hA2 := hA.2
  have et : cl A / cl B = cl (A.tdiv B) := cldiv hA hB hB2
  have em : cl (A.tdiv B) * cl B = cl (A - A.tmod B) := by
    rw [clmul, Int.mul_comm]
    exact congrArg cl (by omega)
  have ex : (cl A ^^^ cl B < cl 0) = (A < 0) := by
    rw [← zcl, lxor_neg (cl0n (by omega) hB2), zcl, cllt hA (by decide)]
  have ez : (cl (A - A.tmod B) = cl A) = (A.tmod B = 0) := by
    rw [cleq ⟨by omega, by omega⟩ hA]
    exact propext ⟨fun h => by omega, fun h => by omega⟩
  refine ⟨?_, ?_⟩
  · unfold g14_floorDiv_f86c9 bg14_floorDiv_f86c9
    refine ⟨cl0e hB hB2, ?_⟩
    split
    · split <;> trivial
    · trivial
  · unfold v14_floorDiv_f86c9 bv14_floorDiv_f86c9
    simp only [lg_gt0, lg_eq0, et, em, ex, ez]
    rw [td_fl hB]
    by_cases ha : A < 0
    · rw [if_pos ha]
      by_cases hm : A.tmod B = 0
      · rw [if_pos hm, if_neg (by omega)]
      · rw [if_neg hm, if_pos (by omega), clsub]
    · rw [if_neg ha, if_neg (by omega)]
theorem fl_e {A B : Int} (q : PM) (hA : rl A) (hB : 0 < B) (hB2 : B ≤ 9223372036854775807) : g12_floor q (cl A) (cl B) ∧ v12_floor q (cl A) (cl B) = cl (A / B) := by
  obtain ⟨h1, h2, h3, h4, h5⟩ := tm_rng (A := A) hB
  have hA1 := hA.1
  have hA2 := hA.2
  have et : cl A / cl B = cl (A.tdiv B) := cldiv hA hB hB2
  have em : lrm (cl A) (cl B) = cl (A.tmod B) := by
    unfold lrm
    rw [et, clmul, clsub, Int.mul_comm]
    exact congrArg cl (by omega)
  have e1 : (cl (A.tmod B) = cl 0) = (A.tmod B = 0) := cleq ⟨by omega, by omega⟩ (by decide)
  have e2 : (cl (A.tmod B) < cl 0) = (A.tmod B < 0) := cllt ⟨by omega, by omega⟩ (by decide)
  have e3 : (cl B < cl 0) = False := by
    rw [cllt ⟨by omega, by omega⟩ (by decide)]
    exact eq_false (by omega)
  have e4 : (cn 1 = cn 0) = False := eq_false (by decide)
  refine ⟨?_, ?_⟩
  · unfold g12_floor bg12_floor
    refine ⟨cl0e hB hB2, cl0e hB hB2, ?_⟩
    split
    · trivial
    · refine ⟨cl0e hB hB2, ?_⟩
      repeat' first
        | exact trivial
        | split
  · unfold v12_floor bv12_floor
    simp only [lg_gt0, lg_eq0, et, em, e1, e2, e3, e4, if_false, if_true, c0l, c1l, clsub, Int.sub_zero]
    rw [td_fl hB]
    by_cases hm : A.tmod B = 0
    · rw [if_pos hm, if_neg (by omega)]
    · rw [if_neg hm]
      split <;> rfl
theorem g_lmax (p : PM) (a b : Int64) : g14_max_f86c9 p a b := by
  unfold g14_max_f86c9 bg14_max_f86c9
  split <;> trivial
theorem g_labs (p : PM) (a : Int64) : g14_abs_067f4 p a := by
  unfold g14_abs_067f4 bg14_abs_067f4
  split <;> trivial
theorem lmax_e (p : PM) (a b : Int64) : v14_max_f86c9 p a b = if a < b then b else a := by
  unfold v14_max_f86c9 bv14_max_f86c9
  simp only [lg_gt0]
theorem lmax_cl (p : PM) {a b : Int} (ha : rl a) (hb : rl b) : v14_max_f86c9 p (cl a) (cl b) = cl (if a < b then b else a) := by
  rw [lmax_e]
  simp only [cllt ha hb]
  split <;> rfl
theorem i64_na (a b : Int64) : -(a + b) = -a - b := by
  rw [cl_of a, cl_of b, cladd, clneg, clneg, clsub]
  exact congrArg cl (by omega)
theorem i64_nm (a b : Int64) : -a * b = -(a * b) := by
  rw [cl_of a, cl_of b, clneg, clmul, clmul, clneg]
  exact congrArg cl (Int.neg_mul _ _)
section Net
variable {p q : PM} {m c : Nat}
theorem idx8 {m c : Nat} : cn 8 * cn (m : Int) + cn (c : Int) = cn ((8 * m + c : Nat) : Int) := by
  rw [cnmul, cnadd]
  exact congrArg cn (by omega)
theorem idx84 {m c : Nat} : cn 8 * cn (m : Int) + cn 4 + cn (c : Int) = cn ((8 * m + 4 + c : Nat) : Int) := by
  rw [cnmul, cnadd, cnadd]
  exact congrArg cn (by omega)
theorem two_m {m : Nat} : cn 2 * cn (m : Int) = cn ((2 * m : Nat) : Int) := by
  rw [cnmul]
  exact congrArg cn (by omega)
theorem two_m1 {m : Nat} : cn 2 * cn (m : Int) + cn 1 = cn ((2 * m + 1 : Nat) : Int) := by
  rw [cnmul, cnadd]
  exact congrArg cn (by omega)
theorem net_q (hm : m < 4) (hc : c < 4) : g12_net q (cn m) (cn c) ∧ v12_net q (cn m) (cn c) = (q.1 13 1 (8 * m + c)).toInt64 + (q.1 13 1 (8 * m + 4 + c)).toInt64 := by
  have h1 := cninb (i := 8 * m + c) (n := 36) (by omega) (by omega)
  have h2 := cninb (i := 8 * m + 4 + c) (n := 36) (by omega) (by omega)
  unfold g12_net bg12_net v12_net bv12_net
  simp only [idx8, idx84, cntk (i := 8 * m + c) (by omega), cntk (i := 8 * m + 4 + c) (by omega)]
  exact ⟨⟨h1, h2, trivial⟩, trivial⟩
theorem net_p (hm : m < 4) (hc : c < 4) : g2_netOf p (cn m) (cn c) ∧ v2_netOf p (cn m) (cn c) = (p.1 13 (4 * m + 1) c).toInt64 + (p.1 13 (4 * m + 3) c).toInt64 := by
  have a1 := account_e p (a := 2 * m) (by omega)
  have a2 := account_e p (a := 2 * m + 1) (by omega)
  have b1 := g_account p (a := 2 * m) (by omega)
  have b2 := g_account p (a := 2 * m + 1) (by omega)
  have h1 := g_holds p (a := 2 * m) (c := c) (by omega) hc
  have h2 := g_holds p (a := 2 * m + 1) (c := c) (by omega) hc
  have z1 : ¬ 2 * m + 1 = 0 := by omega
  have z2 : ¬ 2 * m + 1 + 1 = 0 := by omega
  have i1 : 2 * (2 * m + 1) - 1 = 4 * m + 1 := by omega
  have i2 : 2 * (2 * m + 1 + 1) - 1 = 4 * m + 3 := by omega
  unfold g2_netOf bg2_netOf v2_netOf bv2_netOf
  simp only [two_m, cnsucc, a1, a2, holds_e p _ hc, i1, i2]
  exact ⟨⟨b1, b2, z1, h1, z2, h2, trivial⟩, trivial⟩
theorem net_eq (hA : ∀ a, a < 9 → AcR p q a) (hm : m < 4) (hc : c < 4) : v2_netOf p (cn m) (cn c) = v12_net q (cn m) (cn c) := by
  have h1 := (hA (2 * m) (by omega)).1 c hc
  have h2 := (hA (2 * m + 1) (by omega)).1 c hc
  rw [show 2 * (2 * m + 1) - 1 = 4 * m + 1 by omega, show 4 * (2 * m) + c = 8 * m + c by omega] at h1
  rw [show 2 * (2 * m + 1 + 1) - 1 = 4 * m + 3 by omega, show 4 * (2 * m + 1) + c = 8 * m + 4 + c by omega] at h2
  rw [(net_p hm hc).2, (net_q hm hc).2, h1, h2]
theorem move_r {s : Nat} (hs : s < 4) (hc : c < 4) : g2_moveOf p (cn s) (cn c) ∧ v2_moveOf p (cn s) (cn c) = p.1 13 (20 + s) c := by
  have n0 : ¬ cn (s : Int) < 0 := cnge (by omega)
  have m0 : ¬ cn (c : Int) < 0 := cnge (by omega)
  have n4 : cn (s : Int) < cn 4 := lpt (by omega) (by decide)
  have m4 : cn (c : Int) < cn 4 := lpt (by omega) (by decide)
  have is4 := cninb (i := s) (n := 4) hs (by omega)
  have ic4 := cninb (i := c) (n := 4) hc (by omega)
  have eS : s + 20 = 20 + s := by omega
  unfold v2_moveOf bv2_moveOf g2_moveOf bg2_moveOf
  simp only [if_neg n0, if_pos n4, if_neg m0, if_pos m4, cntk (i := s) (by omega), cntk (i := c) (by omega), eS]
  exact ⟨⟨is4, ⟨by omega, by omega⟩, ⟨⟨by omega, by omega⟩, ic4⟩, trivial⟩, trivial⟩
end Net
