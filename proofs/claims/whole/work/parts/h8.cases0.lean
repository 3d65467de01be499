/-! the law's cases: a call of the face and one of the reference, which answer alike -/
/-- the script lies there -/
def SCR (M : Mem) (L : Nat) (xs : Nat → Int32) : Prop := M.2.2.1 = L ∧ (M.1 4).1 13 1 = xs
noncomputable def bzz (v : Int32) : Int32 := if v = 0 then cn 0 else cn 1
theorem sc_in {M : Mem} {L i j : Nat} {xs : Nat → Int32} (s : SCR M L xs) (hi : i + 7 ≤ L) (hL : L ≤ 3584) (hj : j < 7) : inb (cn i + cn j) (lenA M 4 13 1) := by
  have h : lenA M 4 13 1 = L := s.1
  rw [h, cnadd]
  exact cninb (i := i + j) (by omega) (by omega)
theorem sc_v {M : Mem} {L i j : Nat} {xs : Nat → Int32} (s : SCR M L xs) (hi : i + 7 ≤ L) (hL : L ≤ 3584) (hj : j < 7) : (M.1 4).1 13 1 (cn i + cn j).toNatClampNeg = xs (i + j) := by
  rw [s.2, cnadd]
  exact congrArg xs (cntk (i := i + j) (by omega))
theorem lg_self {v : Int64} : lg_cmp v v = 0 := by
  unfold lg_cmp
  simp
theorem cn_nz {c : Nat} (h : ¬ c = 0) (h4 : c < 4) : ¬ cn (c : Int) = 0 := by
  rw [zcn, cneq ⟨by omega, by omega⟩ (by decide)]
  omega
