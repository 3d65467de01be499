/-! division and rest in a walk, with what they give -/
section YD
variable {k : Nat} {tab : List YR} {pc : Nat} {la sa : List AV} {M : Mem} {r : Option (Out × Mem)}
theorem y_dv (hk : T3OK k tab) (n pc' q : Nat) (v : Int32) {z : Nat × Nat × Nat × Nat × Int} {t : List YR} {la' st : List AV} {x y : Int32} {M' : Mem} (h : yS k tab n pc (frm3 tab pc) la sa M = go k pc' la' (vI y :: vI x :: st) M') (hi : frm3 tab pc' = (pc', .idiv, 1, z) :: t) (hy : ¬ y = 0) (hq : pc' + 1 = q) (hv : x / y = v) (h2 : X k q la' (vI v :: st) M' = r) : X k pc la sa M = r := by
  subst hv
  exact y_div hk n pc' q h hi hy hq h2
theorem y_rm (hk : T3OK k tab) (n pc' q : Nat) (v : Int32) {z : Nat × Nat × Nat × Nat × Int} {t : List YR} {la' st : List AV} {x y : Int32} {M' : Mem} (h : yS k tab n pc (frm3 tab pc) la sa M = go k pc' la' (vI y :: vI x :: st) M') (hi : frm3 tab pc' = (pc', .irem, 1, z) :: t) (hy : ¬ y = 0) (hq : pc' + 1 = q) (hv : irm x y = v) (h2 : X k q la' (vI v :: st) M' = r) : X k pc la sa M = r := by
  refine y_go hk n pc' h ?_
  subst hq
  refine Eq.trans (xr (i := .irem) (len := 1) (hd3 hk hi) rfl ?_) h2
  show (if y = 0 then bad else go k (pc' + 1) la' (vI (x - x / y * y) :: st) M') = _
  rw [if_neg hy, ← hv]
  rfl
theorem dv_n {a b : Nat} (ha : a ≤ 2147483647) (hb : 0 < b) (hb2 : b ≤ 2147483647) : cn (a : Int) / cn (b : Int) = cn ((a / b : Nat) : Int) := by
  rw [cndiv ⟨by omega, by omega⟩ (by omega) (by omega)]
  rfl
theorem rm_n {a b : Nat} (ha : a ≤ 2147483647) (hb : 0 < b) (hb2 : b ≤ 2147483647) : irm (cn (a : Int)) (cn (b : Int)) = cn ((a % b : Nat) : Int) := by
  rw [cnirm ⟨by omega, by omega⟩ (by omega) (by omega)]
  rfl
end YD
