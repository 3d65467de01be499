/-! a round of the law -/
/-- a round: from a case's head to its end -/
def RND (pc i L : Nat) (xs : Nat → Int32) (e t : Nat) (j5 j6 j7 : AV) (M : Mem) : Prop := ∃ (P0' P1' Q' : PM) (cl' : Nat → Int32) (t' f' g' : Nat) (ou' : Int64) (e' : Nat) (u5 u6 u7 : AV), INV P0' P1' Q' cl' t' f' g' ∧ t' ≤ t + 1 ∧ e' ≤ e + 1 ∧ X 420 pc [rR 4 13 1, rR 3 11 1, rR 2 12 1, rR 3 14 1, vI (cn i), j5, j6, j7] [] M = X 420 3410 [rR 4 13 1, rR 3 11 1, rR 2 12 1, rR 3 14 1, vI (cn i), u5, u6, u7] [] (mm P0' P1' Q' cl' (cn t') (cn f') (cn g') ou' L xs e')
section Round0
variable {P0 P1 Q Q2 : PM} {cl lg : Nat → Int32} {N T D t f g i L e : Nat} {xs : Nat → Int32} {tl kp fo : Int32} {ou : Int64} {c : Nat}
theorem scr_mm : SCR (mm P0 P1 Q cl tl kp fo ou L xs e) L xs := ⟨rfl, funext fun s => (if_pos ⟨rfl, rfl, rfl⟩ : (if (4 = 4 ∧ 13 = 13 ∧ 1 = 1) then xs s else 0) = xs s)⟩
theorem inv_q (J : JN lg P0 P1 Q cl N T D t f g) (h : Q2 = pI Q 12 1 0 (cn c)) (hg : Gr 2 Q2) : INV P0 P1 Q2 cl t f g := by
  subst h
  exact ⟨lg, N, T, D, iv_th J.1, ⟨J.2.1.1, J.2.1.2.1, hg⟩, J.2.2⟩
end Round0
