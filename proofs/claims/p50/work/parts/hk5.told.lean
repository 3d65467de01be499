/-! an event is told by the law: what is then -/
section ToldL
variable {P0 P1 Q : PM} {cl lg : Nat → Int32} {kp fo : Int32} {ou : Int64} {L e N T D t f g k : Nat} {xs : Nat → Int32} {a b c d x y : Int32}
/-- the memory behind an event that was taken -/
noncomputable def evM (P0 P1 Q : PM) (cl : Nat → Int32) (kp fo : Int32) (ou : Int64) (L : Nat) (xs : Nat → Int32) (e t k : Nat) (a b c d x f : Int32) : Mem := mm (v5_work (vE P0 a b c d x f k).2) P1 Q (clw cl t (cn ((k + 1 : Nat) : Int)) a b c d x f) (cn ((t + 1 : Nat) : Int)) kp fo ou L xs e
theorem okO_e : okO P0 P1 Q cl kp fo ou L xs e t k a b c d x y = some (.inl (some (vI (vE P0 a b c d x y k).1)), evM P0 P1 Q cl kp fo ou L xs e t k a b c d x y) := rfl
/-- taken: one event more; refused: one exception more -/
def Aft (P0 P1 Q : PM) (cl : Nat → Int32) (kp fo : Int32) (ou : Int64) (L : Nat) (xs : Nat → Int32) (e t f g k : Nat) (a b c d x y : Int32) (M' : Mem) : Prop := ∃ (Pn Qn : PM) (cln : Nat → Int32) (tn en : Nat), M' = mm Pn P1 Zp cln (cn (tn : Int)) kp fo ou L xs en ∧ (∀ j, j < 7 * t → cln j = cl j) ∧ INV Pn P1 Qn cln tn f g ∧ ((kE P0 a b c d x y k = 0 ∧ tn = t + 1 ∧ en = e ∧ Pn = v5_work (vE P0 a b c d x y k).2 ∧ Qn = logQ (v12_works (v12_does Q (cn k) a b c d x y).2) t (cn k) a b c d x y) ∨ (¬ kE P0 a b c d x y k = 0 ∧ tn = t ∧ en = e + 1 ∧ Pn = P0 ∧ Qn = pI Q 12 1 0 (cn (kE P0 a b c d x y k))))
theorem tell_all (hk : k < 27) (ht : t < 512) (J : JN lg P0 P1 Q cl N T D t f g) : Aft P0 P1 Q cl kp fo ou L xs e t f g k a b c d x y (if kE P0 a b c d x y k = 0 then evM P0 P1 Zp cl kp fo ou L xs e t k a b c d x y else xc (mm P0 P1 Zp cl (cn (t : Int)) kp fo ou L xs e)) := by
  obtain ⟨-, -, r, Q2, -, -, s1, s2⟩ := sem_ev (a := a) (b := b) (c := c) (d := d) (x := x) (y := y) hk ht J
  by_cases h0 : kE P0 a b c d x y k = 0
  · obtain ⟨⟨-, eQ⟩, hI⟩ := s1 h0
    rw [if_pos h0]
    exact ⟨_, Q2, _, t + 1, e, rfl, fun j hj => by
      unfold clw
      rw [if_neg (by omega), if_neg (by omega), if_neg (by omega), if_neg (by omega), if_neg (by omega), if_neg (by omega), if_neg (by omega)], hI, Or.inl ⟨h0, rfl, rfl, rfl, eQ⟩⟩
  · obtain ⟨eQ, hI⟩ := s2 h0
    rw [if_neg h0]
    exact ⟨P0, Q2, cl, t, e + 1, mm_e, fun _ _ => rfl, hI, Or.inr ⟨h0, rfl, rfl, rfl, eQ⟩⟩
/-- how many events there are -/
theorem x_many (H : INV P0 P1 Q cl t f g) : X 173 0 [rR 3 11 1] [] (mm P0 P1 Zp cl (cn (t : Int)) kp fo ou L xs e) = some (.inl (some (vI (cn (t : Int)))), mm P0 P1 Zp cl (cn (t : Int)) kp fo ou L xs e) := by
  obtain ⟨lg, N, T, D, J⟩ := H
  exact fq_182 J.1 J.2.1.1
/-- a trial of an order, and the number of events then -/
theorem x_case {R : Option (Out × Mem)} {M' : Mem} (hA : Aft P0 P1 Q cl kp fo ou L xs e t f g k a b c d x y M') (ha : kE P0 a b c d x y k = 0 → X 173 0 [rR 3 11 1] [] M' = some (.inl (some (vI (cn ((t + 1 : Nat) : Int)))), M') → R = some (.inl (some (vI (cn 1))), M')) (hr : ¬ kE P0 a b c d x y k = 0 → X 173 0 [rR 3 11 1] [] M' = some (.inl (some (vI (cn (t : Int)))), M') → R = some (.inl (some (vI (cn 1))), M')) : R = some (.inl (some (vI (cn 1))), M') := by
  obtain ⟨Pn, Qn, cln, tn, en, rfl, -, hI, h⟩ := hA
  rcases h with ⟨h0, rfl, -⟩ | ⟨h0, rfl, -⟩
  · exact ha h0 (x_many hI)
  · exact hr h0 (x_many hI)
end ToldL
