/-! between the law's turns -/
section LsS
variable {P0 P1 Q : PM} {cl' lg : Nat → Int32} {kp fo : Int32} {ou : Int64} {L e N T D tt f g k t t' E TT : Nat} {xs : Nat → Int32} {a b c d x y : Int32}
/-- what stands between the law's turns: t counts what was told of weight, at most TT events and E exceptions -/
def LSX (P1 : PM) (kp fo : Int32) (L : Nat) (xs : Nat → Int32) (f g t TT E : Nat) (M : Mem) : Prop := ∃ (P Q : PM) (cln : Nat → Int32) (ou : Int64) (tn en : Nat), M = mm P P1 Zp cln (cn (tn : Int)) kp fo ou L xs en ∧ INV P P1 Q cln tn f g ∧ LI Q t ou ∧ tn ≤ TT ∧ en ≤ E
theorem ls_of (J : JN lg P0 P1 Q cl' N T D tt f g) (H : LI Q t ou) (ht : t ≤ t') (h1 : tt ≤ TT) (h2 : e ≤ E) : LSX P1 kp fo L xs f g t' TT E (mm P0 P1 Zp cl' (cn (tt : Int)) kp fo ou L xs e) := ⟨P0, Q, cl', ou, tt, e, rfl, ⟨lg, N, T, D, J⟩, li_up ht H, h1, h2⟩
/-- an event that was taken -/
theorem ev_acc (hk : k < 27) (ht : tt < 512) (J : JN lg P0 P1 Q cl' N T D tt f g) (h0 : kE P0 a b c d x y k = 0) : ∃ lgn Nn Tn Dn, JN lgn (v5_work (vE P0 a b c d x y k).2) P1 (eQ2 Q tt k a b c d x y) (clw cl' tt (cn ((k + 1 : Nat) : Int)) a b c d x y) Nn Tn Dn (tt + 1) f g := by
  obtain ⟨-, -, r, Q2, -, -, s1, -⟩ := sem_ev (a := a) (b := b) (c := c) (d := d) (x := x) (y := y) hk ht J
  obtain ⟨⟨-, eQ⟩, lg2, N2, T2, D2, J2⟩ := s1 h0
  rw [eQ] at J2
  exact ⟨lg2, N2, T2, D2, J2⟩
theorem ls_acc (hk : k < 27) (ht : tt < 512) (J : JN lg P0 P1 Q cl' N T D tt f g) (h0 : kE P0 a b c d x y k = 0) (H : LI (eQ2 Q tt k a b c d x y) t' ou) (h1 : tt + 1 ≤ TT) (h2 : e ≤ E) : LSX P1 kp fo L xs f g t' TT E (evM P0 P1 Zp cl' kp fo ou L xs e tt k a b c d x y) := by
  obtain ⟨lgn, Nn, Tn, Dn, Jn⟩ := ev_acc hk ht J h0
  exact ls_of Jn H (Nat.le_refl _) h1 h2
theorem ls_rej (J : JN lg P0 P1 Q cl' N T D tt f g) (H : LI Q t ou) (ht : t ≤ t') (h1 : tt ≤ TT) (h2 : e + 1 ≤ E) : LSX P1 kp fo L xs f g t' TT E (xc (mm P0 P1 Zp cl' (cn (tt : Int)) kp fo ou L xs e)) := by
  rw [mm_e]
  exact ls_of J H ht h1 h2
/-- what the works keep -/
theorem eq2_k : (eQ2 Q tt k a b c d x y).1 15 9 = (dQ Q k a b c d x y).1 15 9 ∧ (eQ2 Q tt k a b c d x y).1 12 1 57 = (dQ Q k a b c d x y).1 12 1 57 := by
  have K := kr_v12_works (kr_refl (dQ Q k a b c d x y))
  unfold eQ2
  refine ⟨?_, ?_⟩
  · rw [log_15]
    exact K.2.1.1
  · rw [log_12 (by decide)]
    exact K.2.2.1
end LsS
