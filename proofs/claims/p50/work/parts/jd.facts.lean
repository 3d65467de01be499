/-! codes and answers of the law's later doings -/
section FactsL
variable {P0 P1 Q : PM} {cl' lg : Nat → Int32} {L e N T D tt f g t : Nat} {a b c d x y : Int32}
theorem k0_rule {b r u s : Nat} (hb : b < 6) (hr : r < 3) (hu : u < 4) (hs : s < 3) : kRule (cn b) (cn r) (cn u) (cn s) = 0 := by
  unfold kRule
  rw [if_neg (isW_y (z := (b : Int)) (a := 0) (b := 5) (by decide) (by decide) (by omega) (by omega)), if_neg (isW_y (z := (r : Int)) (a := 0) (b := 2) (by decide) (by decide) (by omega) (by omega)), if_neg (isW_y (z := (u : Int)) (a := 0) (b := 50) (by decide) (by decide) (by omega) (by omega)), if_neg (isW_y (z := (s : Int)) (a := 0) (b := 2) (by decide) (by decide) (by omega) (by omega))]
theorem k0_band {b : Nat} {w : Int} (hb : b < 6) (h1 : 0 ≤ w) (h2 : w ≤ 9999) : kBand (cn b) (cn w) = 0 := by
  unfold kBand
  rw [if_neg (isW_y (z := (b : Int)) (a := 0) (b := 5) (by decide) (by decide) (by omega) (by omega)), if_neg (isW_y (a := 0) (b := 9999) (by decide) (by decide) h1 h2)]
theorem k0_prot {b w : Nat} (hb : b < 8) (hw : w < 5) : kProt (cn b) (cn w) = 0 := by
  unfold kProt
  rw [if_neg (isW_y (z := (b : Int)) (a := 0) (b := 7) (by decide) (by decide) (by omega) (by omega)), if_neg (isW_y (z := (w : Int)) (a := 0) (b := 999) (by decide) (by decide) (by omega) (by omega))]
theorem k0_move {s c : Nat} {w : Int} (hs : s < 4) (hc : c < 4) (h1 : -20 ≤ w) (h2 : w ≤ 20) : kMove (cn s) (cn c) (cn w) = 0 := by
  unfold kMove
  rw [if_neg (isW_y (z := (s : Int)) (a := 0) (b := 3) (by decide) (by decide) (by omega) (by omega)), if_neg (isW_y (z := (c : Int)) (a := 0) (b := 3) (by decide) (by decide) (by omega) (by omega)), if_neg (isW_y (a := -99) (b := 99) (by decide) (by decide) (by omega) (by omega))]
theorem k0_hair {w : Nat} (hw : w < 60) : kHair (cn w) = 0 := by
  unfold kHair
  rw [if_neg (isW_y (z := (w : Int)) (a := 0) (b := 100) (by decide) (by decide) (by omega) (by omega))]
theorem k0_pass {w : Int} (h1 : 1 ≤ w) (h2 : w ≤ 20) : kPass (cn w) = 0 := by
  unfold kPass
  rw [if_neg (isW_y (a := 1) (b := 20) (by decide) (by decide) h1 h2)]
theorem k_auct {b : Nat} (hb : b < 6) : kAuction P0 (cn b) (cn 2) (cn 0) (cn 0) = 0 ∨ kAuction P0 (cn b) (cn 2) (cn 0) (cn 0) = 3 := by
  unfold kAuction
  rw [if_neg (isW_y (z := (b : Int)) (a := 0) (b := 5) (by decide) (by decide) (by omega) (by omega)), if_neg (isW_y (z := 2) (a := 1) (b := 20) (by decide) (by decide) (by decide) (by decide)), if_neg (isW_y (z := 0) (a := 0) (b := 2) (by decide) (by decide) (by decide) (by decide)), if_neg (isW_y (z := 0) (a := 0) (b := 9) (by decide) (by decide) (by decide) (by decide))]
  split
  · exact Or.inl rfl
  · exact Or.inr rfl
theorem k_conv {c : Nat} {n d : Int} (hc : c < 3) (n1 : 1 ≤ n) (n2 : n ≤ 3) (d1 : 1 ≤ d) (d2 : d ≤ 3) : kConv P0 (cn c) (cn n) (cn d) = 0 ∨ kConv P0 (cn c) (cn n) (cn d) = 3 := by
  unfold kConv
  rw [if_neg (isW_y (z := (c : Int)) (a := 0) (b := 2) (by decide) (by decide) (by omega) (by omega)), if_neg (isW_y (a := 1) (b := 9) (by decide) (by decide) n1 (by omega)), if_neg (isW_y (a := 1) (b := 9) (by decide) (by decide) d1 (by omega))]
  split
  · exact Or.inr rfl
  · exact Or.inl rfl
theorem k_fail {m : Nat} (hm : m < 4) : kFail P0 (cn m) = 0 ∨ kFail P0 (cn m) = 2 := by
  unfold kFail
  rw [if_neg (isW_y (z := (m : Int)) (a := 0) (b := 3) (by decide) (by decide) (by omega) (by omega))]
  split
  · exact Or.inr rfl
  · exact Or.inl rfl
theorem k_bid {m : Nat} {v : Int} (hm : m < 4) (h1 : -9999 ≤ v) (h2 : v ≤ 9999) : kBid P0 (cn m) (cn v) = 0 ∨ kBid P0 (cn m) (cn v) = 3 := by
  unfold kBid
  rw [if_neg (isW_y (z := (m : Int)) (a := 0) (b := 3) (by decide) (by decide) (by omega) (by omega)), if_neg (isW_y (a := -9999) (b := 9999) (by decide) (by decide) h1 h2)]
  split
  · exact Or.inr rfl
  · split
    · exact Or.inl rfl
    · exact Or.inr rfl
theorem k_close : kClose P0 = 0 ∨ kClose P0 = 1 := by
  unfold kClose
  split
  · exact Or.inr rfl
  · exact Or.inl rfl
theorem k_day : kDay P0 = 0 ∨ kDay P0 = 1 := by
  unfold kDay
  split
  · exact Or.inl rfl
  · exact Or.inr rfl
/-- no less than nothing -/
def nn0 (v : Int32) : Prop := ∃ z : Int, 0 ≤ z ∧ z ≤ 2147483647 ∧ v = cn z
theorem nn_lt {v : Int32} (h : nn0 v) : cmpI .lt v 0 = false := by
  obtain ⟨z, z1, z2, rfl⟩ := h
  refine decide_eq_false ?_
  rw [show (0 : Int32) = cn 0 from rfl, cnlt ⟨by omega, by omega⟩ (by decide)]
  omega
theorem a_rule (I : IV lg P0 Q N T D t) {b : Nat} (hb : b < 6) : nn0 (vE P0 (cn b) c d x a y 7).1 := by
  obtain ⟨z, z1, z2, z3, -⟩ := (I.1.2.2.1 b hb).2.2.2.1
  refine ⟨z, z1, by omega, ?_⟩
  show (v1_changeRule P0 (v6_bookAt P0 (cn b)) c d x).1 = _
  rw [book_e P0 hb]
  exact z3
theorem a_band (I : IV lg P0 Q N T D t) {b : Nat} (hb : b < 6) : nn0 (vE P0 (cn b) c d x a y 8).1 := by
  obtain ⟨z, z1, z2, z3, -⟩ := (I.1.2.2.1 b hb).2.2.2.2.2.2
  refine ⟨z, z1, by omega, ?_⟩
  show (v1_changeBand P0 (v6_bookAt P0 (cn b)) c).1 = _
  rw [book_e P0 hb]
  exact z3
theorem a_prot (I : IV lg P0 Q N T D t) {b : Nat} (hb : b < 8) : nn0 (vE P0 (cn b) c d x a y 9).1 := by
  obtain ⟨z, z1, z2, z3, -⟩ := (I.1.2.1.2 b hb).2.2.1
  refine ⟨z, z1, by omega, ?_⟩
  show (v0_changeProtection P0 (v7_accountAt P0 (cn b)) c).1 = _
  rw [account_e P0 (by omega)]
  exact z3
theorem a_move (I : IV lg P0 Q N T D t) {s c : Nat} (hs : s < 4) (hc : c < 4) : ∃ z : Int, -99 ≤ z ∧ z ≤ 99 ∧ (vE P0 (cn s) (cn c) d x a y 20).1 = cn z := by
  obtain ⟨z, z1, z2, z3, -⟩ := I.1.2.2.2.2.2.1.2.1 s c hs hc
  refine ⟨z, z1, z2, ?_⟩
  show (v2_changeMove P0 (cn s) (cn c) d).1 = _
  unfold v2_changeMove bv2_changeMove
  rw [if_neg (cnge (j := s) (by omega)), if_pos (lpt (i := s) (N := 4) (by omega) (by omega)), if_neg (cnge (j := c) (by omega)), if_pos (lpt (i := c) (N := 4) (by omega) (by omega))]
  show v2_moveOf P0 (cn s) (cn c) = _
  rw [(move_r hs hc).2]
  exact z3
theorem a_hair (I : IV lg P0 Q N T D t) : nn0 (vE P0 b c d x a y 21).1 := by
  obtain ⟨z, z1, z2, z3, -⟩ := I.1.2.2.2.2.2.1.2.2.1
  exact ⟨z, z1, by omega, z3⟩
theorem a_pass (I : IV lg P0 Q N T D t) (ht : t ≤ 512) {m : Nat} (h1 : 1 ≤ m) (h2 : m ≤ 20) : 0 < (vE P0 (cn m) c d x a y 12).1 := by
  obtain ⟨F, hF, hF2⟩ : ∃ F, FU = F ∧ 100 < F := ⟨FU, rfl, by decide⟩
  obtain ⟨u, u1, -, u3⟩ := I.1.2.2.2.2.2.1.2.2.2.2.2.1
  obtain ⟨u', v1, v2⟩ := I.2.2.1.2.2.1
  have hu : u = u' := by
    rw [u3, cneq ⟨by omega, by omega⟩ ⟨by omega, by omega⟩] at v2
    omega
  have r1 := (RS_rng I.1.1.1 40 (by decide))
  have d1 := I.2.2.2.2.1
  have d2 := I.2.2.2.2.2
  have P := (pass_loop (m := m) h2 m 0 F F P0 Q T D u (by omega) (by omega) (by omega) I.1 I.2.1 u3 (by omega) (by omega) (by omega)).2.1
  have e : (vE P0 (cn m) c d x a y 12).1 = cn ((u + m : Nat) : Int) := by
    show (v5_letPass P0 (cn m)).1 = _
    unfold v5_letPass bv5_letPass
    rw [hF]
    exact P
  rw [e, show (0 : Int32) = cn 0 from rfl, cnlt (by decide) ⟨by omega, by omega⟩]
  omega
end FactsL
