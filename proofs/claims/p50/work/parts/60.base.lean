/-! numbers: what the words of the two exchanges hold, as integers -/
abbrev rg (a : Int) : Prop := -2147483648 ≤ a ∧ a ≤ 2147483647
theorem cn_I {a : Int} (h : rg a) : (cn a).toInt = a := by
  unfold cn
  rw [Int32.toInt_ofInt]
  have h1 := h.1
  have h2 := h.2
  show Int.bmod a 4294967296 = a
  rw [Int.bmod_eq_of_le (by omega) (by omega)]
theorem cn_of (x : Int32) : x = cn x.toInt := by
  unfold cn
  rw [Int32.ofInt_toInt]
theorem I_rg (x : Int32) : rg x.toInt := ⟨Int32.le_toInt x, Int32.toInt_le x⟩
theorem cnadd (a b : Int) : cn a + cn b = cn (a + b) := (Int32.ofInt_add a b).symm
theorem cnsub (a b : Int) : cn a - cn b = cn (a - b) := (Int32.ofInt_sub a b).symm
theorem cnmul (a b : Int) : cn a * cn b = cn (a * b) := (Int32.ofInt_mul a b).symm
theorem cnneg (a : Int) : -cn a = cn (-a) := (Int32.ofInt_neg a).symm
theorem zcn : (0 : Int32) = cn 0 := rfl
theorem cnlt {a b : Int} (ha : rg a) (hb : rg b) : (cn a < cn b) = (a < b) := by
  rw [Int32.lt_iff_toInt_lt, cn_I ha, cn_I hb]
theorem cneq {a b : Int} (ha : rg a) (hb : rg b) : (cn a = cn b) = (a = b) := by
  refine propext ⟨fun h => ?_, fun h => by rw [h]⟩
  rw [← cn_I ha, ← cn_I hb, h]
theorem cntn {a : Int} (h0 : 0 ≤ a) (h : a ≤ 2147483647) : (cn a).toNatClampNeg = a.toNat := by
  show (cn a).toInt.toNat = a.toNat
  rw [cn_I ⟨by omega, h⟩]
theorem cntk {i : Nat} (h : i ≤ 2147483647) : (cn (i : Int)).toNatClampNeg = i := by
  rw [cntn (by omega) (by omega)]
  rfl
theorem cninb {i n : Nat} (h : i < n) (hn : n ≤ 2147483647) : inb (cn (i : Int)) n := by
  refine ⟨?_, by rw [cntk (by omega)]; exact h⟩
  show (0 : Int32) ≤ _
  rw [Int32.le_iff_toInt_le, zcn, cn_I (by decide), cn_I ⟨by omega, by omega⟩]
  omega
theorem cnsucc (i : Nat) : cn (i : Int) + cn 1 = cn ((i + 1 : Nat) : Int) := by
  rw [cnadd]
  rfl
theorem lpt {i : Nat} {N : Int} (h : (i : Int) < N) (hN : N ≤ 2147483647) : cn (i : Int) < cn N := by
  rw [cnlt ⟨by omega, by omega⟩ ⟨by omega, by omega⟩]
  exact h
theorem lpf {i : Nat} {N : Int} (h : N ≤ (i : Int)) (h0 : 0 ≤ N) (hi : i ≤ 2147483647) : ¬ cn (i : Int) < cn N := by
  rw [cnlt ⟨by omega, by omega⟩ ⟨by omega, by omega⟩]
  omega
theorem cn1ne : ¬ cn 1 = 0 := by decide
theorem cn0e : (cn 0 = 0) = True := by simp [zcn]
theorem b0 : b01 (cn 0) := Or.inl rfl
theorem b1 : b01 (cn 1) := Or.inr rfl
theorem b_ne {x : Int32} (h : b01 x) (h0 : ¬ x = 0) : x = cn 1 := by
  rcases h with h | h
  · exact absurd h h0
  · exact h
theorem cndiv {a b : Int} (ha : rg a) (hb : 0 < b) (hb2 : b ≤ 2147483647) : cn a / cn b = cn (a.tdiv b) := by
  unfold cn
  rw [Int32.ofInt_tdiv ha.1 ha.2 (show (-2147483648 : Int) ≤ b by omega) hb2]
theorem cnirm {a b : Int} (ha : rg a) (hb : 0 < b) (hb2 : b ≤ 2147483647) : irm (cn a) (cn b) = cn (a.tmod b) := by
  unfold irm
  rw [cndiv ha hb hb2, cnmul, cnsub]
  congr 1
  have := Int.mul_tdiv_add_tmod a b
  rw [Int.mul_comm] at this
  omega
/-! longs -/
abbrev rl (a : Int) : Prop := -9223372036854775808 ≤ a ∧ a ≤ 9223372036854775807
theorem cl_I {a : Int} (h : rl a) : (cl a).toInt = a := by
  unfold cl
  rw [Int64.toInt_ofInt]
  have h1 := h.1
  have h2 := h.2
  show Int.bmod a 18446744073709551616 = a
  rw [Int.bmod_eq_of_le (by omega) (by omega)]
theorem cl_of (x : Int64) : x = cl x.toInt := by
  unfold cl
  rw [Int64.ofInt_toInt]
theorem cladd (a b : Int) : cl a + cl b = cl (a + b) := (Int64.ofInt_add a b).symm
theorem clsub (a b : Int) : cl a - cl b = cl (a - b) := (Int64.ofInt_sub a b).symm
theorem clmul (a b : Int) : cl a * cl b = cl (a * b) := (Int64.ofInt_mul a b).symm
theorem clneg (a : Int) : -cl a = cl (-a) := (Int64.ofInt_neg a).symm
theorem zcl : (0 : Int64) = cl 0 := rfl
theorem cllt {a b : Int} (ha : rl a) (hb : rl b) : (cl a < cl b) = (a < b) := by
  rw [Int64.lt_iff_toInt_lt, cl_I ha, cl_I hb]
theorem cleq {a b : Int} (ha : rl a) (hb : rl b) : (cl a = cl b) = (a = b) := by
  refine propext ⟨fun h => ?_, fun h => by rw [h]⟩
  rw [← cl_I ha, ← cl_I hb, h]
theorem cn64 {a : Int} (h : rg a) : (cn a).toInt64 = cl a := by
  rw [cl_of (cn a).toInt64, Int32.toInt_toInt64, cn_I h]
theorem cl32 (a : Int) : (cl a).toInt32 = cn a := by
  unfold cl cn
  exact Int64.toInt32_ofInt
theorem cldiv {a b : Int} (ha : rl a) (hb : 0 < b) (hb2 : b ≤ 9223372036854775807) : cl a / cl b = cl (a.tdiv b) := by
  unfold cl
  rw [Int64.ofInt_tdiv ha.1 ha.2 (show (-9223372036854775808 : Int) ≤ b by omega) hb2]
/-! reads behind writes -/
section RW
variable {p : PM} {k i s : Nat} {v : Int32} {u : Int64} {r : Nat}
theorem pI_1 : (pI p k i s v).1 = u3 p.1 k i s v := rfl
theorem pI_J : (pI p k i s v).2.1 = p.2.1 := rfl
theorem pI_R : (pI p k i s v).2.2 = p.2.2 := rfl
theorem pJ_1 : (pJ p k i s u).1 = p.1 := rfl
theorem pJ_J : (pJ p k i s u).2.1 = u3 p.2.1 k i s u := rfl
theorem pJ_R : (pJ p k i s u).2.2 = p.2.2 := rfl
theorem pR_1 : (pR p k i s r).1 = p.1 := rfl
theorem pR_J : (pR p k i s r).2.1 = p.2.1 := rfl
theorem pR_R : (pR p k i s r).2.2 = u3 p.2.2 k i s r := rfl
theorem u3_same {α : Type} {f : Nat → Nat → Nat → α} {w : α} : u3 f k i s w k i s = w := if_pos ⟨rfl, rfl, rfl⟩
theorem u3_k {α : Type} {f : Nat → Nat → Nat → α} {w : α} {k' i' s' : Nat} (h : ¬ k' = k) : u3 f k i s w k' i' s' = f k' i' s' := if_neg fun q => h q.1
theorem u3_i {α : Type} {f : Nat → Nat → Nat → α} {w : α} {k' i' s' : Nat} (h : ¬ i' = i) : u3 f k i s w k' i' s' = f k' i' s' := if_neg fun q => h q.2.1
theorem u3_s {α : Type} {f : Nat → Nat → Nat → α} {w : α} {k' i' s' : Nat} (h : ¬ s' = s) : u3 f k i s w k' i' s' = f k' i' s' := if_neg fun q => h q.2.2
end RW
