/-! isOrdered whole -/
section IsOrd
variable {P0 P1 Q : PM} {cl lg : Nat → Int32} {kp fo : Int32} {ou : Int64} {L e N T D t f g : Nat} {xs : Nat → Int32}
theorem prB_of {B : Nat} {z : Int} (hB : B < 6) (h1 : B < 4 → 96 ≤ z ∧ z ≤ 104) (h2 : ¬ B < 4 → -4 ≤ z ∧ z ≤ 4) : PrB B z ∧ PrB B (z + 4) := by
  unfold PrB
  by_cases h : B < 4
  · have := h1 h
    omega
  · have := h2 h
    omega
theorem is_ordered {Y : Nat} (hY : Y ≤ 400000) (ht : t < 512) (J : JN lg P0 P1 Q cl N T D t f g) : ∃ (k : Nat) (a b c d x y : Int32) (M' : Mem), k < 6 ∧ OrdA k a b c d x y ∧ X 228 0 [rR 3 11 1, vI (cn Y), vJ, vJ, vJ, vJ, vJ, vJ, vJ] [] (mm P0 P1 Zp cl (cn (t : Int)) kp fo ou L xs e) = some (.inl (some (vI (cn 1))), M') ∧ Aft P0 P1 Q cl kp fo ou L xs e t f g k a b c d x y M' := by
  rw [ord_pre hY (x_many ⟨lg, N, T, D, J⟩)]
  obtain ⟨v, ev, v1, v2, v0⟩ := nQ_e Y
  obtain ⟨z, ez, z1, z2⟩ := prQ_e Y
  rw [ev, ez]
  have hA : Y % 8 < 8 := Nat.mod_lt _ (by decide)
  have hB : Y / 8 % 6 < 6 := Nat.mod_lt _ (by decide)
  obtain ⟨p1, p2⟩ := prB_of hB z1 z2
  have w1 : -50 ≤ v := by omega
  have w2 : v ≤ 50 := by omega
  have hW : Y / 6048 % 9 < 9 := Nat.mod_lt _ (by decide)
  generalize hw : Y / 6048 % 9 = w at hW ⊢
  match w, hW with
  | 0, _ =>
    rw [od_0]
    obtain ⟨M', a1, a2⟩ := or_limit (kp := kp) (fo := fo) (ou := ou) (L := L) (xs := xs) (e := e) hA hB p1 p2 w1 w2 v0 ht J
    exact ⟨0, _, _, _, _, _, _, M', by decide, ⟨_, _, z, v, hA, hB, ⟨z1, z2⟩, ⟨v1, v2, v0⟩, rfl, rfl, Or.inl ⟨rfl, rfl, rfl, rfl, rfl⟩⟩, a1, a2⟩
  | 1, _ =>
    rw [od_1]
    obtain ⟨M', a1, a2⟩ := or_limit (kp := kp) (fo := fo) (ou := ou) (L := L) (xs := xs) (e := e) hA hB p1 p2 w1 w2 v0 ht J
    exact ⟨0, _, _, _, _, _, _, M', by decide, ⟨_, _, z, v, hA, hB, ⟨z1, z2⟩, ⟨v1, v2, v0⟩, rfl, rfl, Or.inl ⟨rfl, rfl, rfl, rfl, rfl⟩⟩, a1, a2⟩
  | 2, _ =>
    rw [od_2]
    obtain ⟨M', a1, a2⟩ := or_limit (kp := kp) (fo := fo) (ou := ou) (L := L) (xs := xs) (e := e) hA hB p1 p2 w1 w2 v0 ht J
    exact ⟨0, _, _, _, _, _, _, M', by decide, ⟨_, _, z, v, hA, hB, ⟨z1, z2⟩, ⟨v1, v2, v0⟩, rfl, rfl, Or.inl ⟨rfl, rfl, rfl, rfl, rfl⟩⟩, a1, a2⟩
  | 3, _ =>
    rw [od_3]
    obtain ⟨M', a1, a2⟩ := or_limit (kp := kp) (fo := fo) (ou := ou) (L := L) (xs := xs) (e := e) hA hB p1 p2 w1 w2 v0 ht J
    exact ⟨0, _, _, _, _, _, _, M', by decide, ⟨_, _, z, v, hA, hB, ⟨z1, z2⟩, ⟨v1, v2, v0⟩, rfl, rfl, Or.inl ⟨rfl, rfl, rfl, rfl, rfl⟩⟩, a1, a2⟩
  | 4, _ =>
    rw [od_4]
    obtain ⟨M', a1, a2⟩ := or_market (kp := kp) (fo := fo) (ou := ou) (L := L) (xs := xs) (e := e) hA hB p1 p2 w1 w2 v0 ht J
    exact ⟨1, _, _, _, _, _, _, M', by decide, ⟨_, _, z, v, hA, hB, ⟨z1, z2⟩, ⟨v1, v2, v0⟩, rfl, rfl, Or.inr (Or.inl ⟨rfl, rfl, rfl, rfl, rfl⟩)⟩, a1, a2⟩
  | 5, _ =>
    rw [od_5]
    obtain ⟨M', a1, a2⟩ := or_ice (kp := kp) (fo := fo) (ou := ou) (L := L) (xs := xs) (e := e) hA hB p1 p2 w1 w2 v0 ht J
    exact ⟨2, _, _, _, _, _, _, M', by decide, ⟨_, _, z, v, hA, hB, ⟨z1, z2⟩, ⟨v1, v2, v0⟩, rfl, rfl, Or.inr (Or.inr (Or.inl ⟨rfl, rfl, rfl, rfl, rfl⟩))⟩, a1, a2⟩
  | 6, _ =>
    rw [od_6]
    obtain ⟨M', a1, a2⟩ := or_peg (kp := kp) (fo := fo) (ou := ou) (L := L) (xs := xs) (e := e) hA hB p1 p2 w1 w2 v0 ht J
    exact ⟨3, _, _, _, _, _, _, M', by decide, ⟨_, _, z, v, hA, hB, ⟨z1, z2⟩, ⟨v1, v2, v0⟩, rfl, rfl, Or.inr (Or.inr (Or.inr (Or.inl ⟨rfl, rfl, rfl, rfl, rfl⟩)))⟩, a1, a2⟩
  | 7, _ =>
    rw [od_7]
    obtain ⟨M', a1, a2⟩ := or_stop (Y := Y) (kp := kp) (fo := fo) (ou := ou) (L := L) (xs := xs) (e := e) hA hB p1 p2 w1 w2 v0 hY rfl ht J
    refine ⟨4, _, _, _, _, _, _, M', by decide, ⟨_, Y / 8 % 6 % 4, 96 + ((Y / 672 % 9 : Nat) : Int), v, hA, by omega, ⟨fun _ => by omega, fun h => absurd h (by omega)⟩, ⟨v1, v2, v0⟩, rfl, rfl, Or.inr (Or.inr (Or.inr (Or.inr (Or.inl ⟨rfl, by omega, rfl, rfl, rfl, rfl⟩))))⟩, a1, a2⟩
  | 8, _ =>
    rw [od_8]
    obtain ⟨M', a1, a2⟩ := or_quote (kp := kp) (fo := fo) (ou := ou) (L := L) (xs := xs) (e := e) hA hB p1 p2 w1 w2 v0 ht J
    exact ⟨5, _, _, _, _, _, _, M', by decide, ⟨_, _, z, v, hA, hB, ⟨z1, z2⟩, ⟨v1, v2, v0⟩, rfl, rfl, Or.inr (Or.inr (Or.inr (Or.inr (Or.inr ⟨rfl, rfl, rfl, rfl, rfl⟩))))⟩, a1, a2⟩
end IsOrd
