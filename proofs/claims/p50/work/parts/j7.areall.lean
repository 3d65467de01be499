/-! areOrders, whole -/
section AreAll
variable {P0 P1 Q Q2 : PM} {cl' lg : Nat → Int32} {kp fo : Int32} {ou : Int64} {L e N T D t f g : Nat} {xs : Nat → Int32}
theorem an_best (I : IV lg P0 Q2 N T D t) (hg : Gr 0 P0) {b : Nat} {s : Int32} (hb : b < 6) : X 176 0 [rR 3 11 1, vI (cn b), vI s] [] (mm P0 P1 Q cl' (cn t) kp fo ou L xs e) = some (.inl (some (vI (v6_bestPrice P0 (b + 1) s (cn 1)))), mm P0 P1 Q cl' (cn t) kp fo ou L xs e) := by
  refine (fq_185 I hg (fun h => ((ask_best I.1).2.2 h).1) rfl).trans ?_
  rw [kBk_0 hb, book_e P0 hb]
  rfl
theorem an_shown (I : IV lg P0 Q2 N T D t) (hg : Gr 0 P0) {b : Nat} {s v : Int32} (hb : b < 6) : X 177 0 [rR 3 11 1, vI (cn b), vI s, vI v] [] (mm P0 P1 Q cl' (cn t) kp fo ou L xs e) = some (.inl (some (vI (v6_sumShown P0 (b + 1) s v))), mm P0 P1 Q cl' (cn t) kp fo ou L xs e) := by
  refine (fq_186 I hg (fun h => ((ask_shown I.1).2.2 h).1) rfl).trans ?_
  rw [kBk_0 hb, book_e P0 hb]
  rfl
theorem an_end (I : IV lg P0 Q2 N T D t) (hg : Gr 0 P0) {b : Nat} (hb : b < 6) : X 182 0 [rR 3 11 1, vI (cn b), vJ] [] (mm P0 P1 Q cl' (cn t) kp fo ou L xs e) = some (.inl (some (vI (if P0.1 1 (b + 1) 5 = 0 then cn (-100000) else P0.1 1 (b + 1) 7))), mm P0 P1 Q cl' (cn t) kp fo ou L xs e) := by
  refine (fq_191 I hg).trans ?_
  rw [kBk_0 hb, book_e P0 hb]
  rfl
theorem an_ind (I : IV lg P0 Q2 N T D t) (hg : Gr 0 P0) (h60 : lg 4000 = cn t) {b : Nat} {s : Int32} (hb : b < 6) : X 183 0 [rR 3 11 1, vI (cn b), vI s, vJ, vJ] [] (mm P0 P1 Q cl' (cn t) kp fo ou L xs e) = some (.inl (some (vI (if s = 0 then (if P0.1 1 (b + 1) 5 = 0 then cn (-100000) else v8_findPrice P0 (b + 1)) else if (if P0.1 1 (b + 1) 5 = 0 then cn (-100000) else v8_findPrice P0 (b + 1)) = cn (-100000) then cn 0 else v8_volumeAt P0 (b + 1) (v8_findPrice P0 (b + 1))))), mm P0 P1 Q cl' (cn t) kp fo ou L xs e) := by
  obtain ⟨-, r, Q3, -, -, -, h⟩ := ask_ind (b := cn b) (t := s) I
  refine (fq_192 I hg (fun h0 => (h h0).1) rfl rfl).trans ?_
  rw [kBk_0 hb, book_e P0 hb]
  rfl
/-- the end of a book that is in an auction is no less than nothing -/
theorem en_cases (I : IV lg P0 Q2 N T D t) {b : Nat} (hb : b < 6) : P0.1 1 (b + 1) 5 = cn 0 ∨ (P0.1 1 (b + 1) 5 = cn 1 ∧ ∃ z : Int, 0 ≤ z ∧ z ≤ 1000000 ∧ P0.1 1 (b + 1) 7 = cn z ∧ Q2.1 13 12 b = cn z) := by
  rcases (I.1.2.2.1 b hb).2.2.1 with ⟨h, -⟩ | ⟨h1, h2, ⟨z, z1, z2, z3⟩, -⟩
  · exact Or.inl h
  · exact Or.inr ⟨h1, z, z1, z2, h2.trans z3, z3⟩
theorem ao_books (J : JN lg P0 P1 Q cl' N T D t f g) : ∀ (d b : Nat), b + d = 6 → ∀ x3 x4 x5 : AV, ∃ x3' x4' x5' : AV, X 231 4 [rR 3 11 1, vI (cn 1), vI (cn b), x3, x4, x5] [] (mm P0 P1 Zp cl' (cn t) kp fo ou L xs e) = X 231 108 [rR 3 11 1, vI (cn 1), vI (cn (0 : Nat)), x3', x4', x5'] [] (mm P0 P1 Zp cl' (cn t) kp fo ou L xs e) := by
  obtain ⟨I, ⟨hg, -⟩, ⟨h60, -⟩, -⟩ := J
  intro d
  induction d with
  | zero =>
    intro b h1 x3 x4 x5
    have e6 : b = 6 := by omega
    subst e6
    refine ⟨x3, x4, x5, ?_⟩
    refine y_icT yk231 2 7 106 rfl rfl rfl (by decide) ?_
    exact y_go yk231 2 108 rfl rfl
  | succ d ih =>
    intro b h1 x3 x4 x5
    have hb : b < 6 := by omega
    have kk := ao_3 (M := mm P0 P1 Zp cl' (cn t) kp fo ou L xs e) (x3 := x3) (x4 := x4) (x5 := x5) (an_best I hg hb) (an_best I hg hb) (an_end I hg hb) (fun h => ⟨_, bs_pos I.1 hb h, an_shown I hg hb⟩) (fun h => ⟨_, bs_pos I.1 hb h, an_shown I hg hb⟩) (fun h => by
      refine (an_ind I hg h60 hb).trans ?_
      rcases en_cases I hb with h5 | ⟨h5, z, z1, z2, z3, -⟩
      · rw [h5]
        rfl
      · rw [h5, if_neg (by decide), z3, cneq ⟨by omega, by omega⟩ (by decide)] at h
        omega) hb
    obtain ⟨y3, y4, y5, e1⟩ := kk
    obtain ⟨w3, w4, w5, e2⟩ := ih (b + 1) (by omega) y3 y4 y5
    rw [← cnsucc] at e2
    exact ⟨w3, w4, w5, e1.trans e2⟩
theorem ao_mems (J : JN lg P0 P1 Q cl' N T D t f g) : ∀ (d m : Nat), m + d = 4 → ∀ x3 x4 x5 : AV, X 231 108 [rR 3 11 1, vI (cn 1), vI (cn m), x3, x4, x5] [] (mm P0 P1 Zp cl' (cn t) kp fo ou L xs e) = some (.inl (some (vI (cn 1))), mm P0 P1 Zp cl' (cn t) kp fo ou L xs e) := by
  obtain ⟨I, ⟨hg, -⟩, -, ⟨-, -, ht⟩, -⟩ := J
  intro d
  induction d with
  | zero =>
    intro m h1 x3 x4 x5
    have e4 : m = 4 := by omega
    subst e4
    refine y_icT yk231 2 110 177 rfl rfl rfl (by decide) ?_
    exact y_ret yk231 2 rfl rfl
  | succ d ih =>
    intro m h1 x3 x4 x5
    have hm : m < 4 := by omega
    obtain ⟨R, V, k, e0, e1, e2, r0, r1, r2, k0, k1, k2⟩ := mb_all I (by omega) hm
    have a0 := an_mem (P1 := P1) (Q := Zp) (cl' := cl') (kp := kp) (fo := fo) (ou := ou) (L := L) (xs := xs) (e := e) (w := 0) I hg hm (by decide)
    have a1 := an_mem (P1 := P1) (Q := Zp) (cl' := cl') (kp := kp) (fo := fo) (ou := ou) (L := L) (xs := xs) (e := e) (w := 1) I hg hm (by decide)
    have a2 := an_mem (P1 := P1) (Q := Zp) (cl' := cl') (kp := kp) (fo := fo) (ou := ou) (L := L) (xs := xs) (e := e) (w := 2) I hg hm (by decide)
    have f0 : v2_tell P0 (cn (m : Int)) (cn ((0 : Nat) : Int)) = cl R := e0
    have f1 : v2_tell P0 (cn (m : Int)) (cn ((1 : Nat) : Int)) = cl V := e1
    have f2 : v2_tell P0 (cn (m : Int)) (cn ((2 : Nat) : Int)) = cl k := e2
    rw [f0] at a0
    rw [f1] at a1
    rw [f2] at a2
    have c0 : ∀ z : Int, 0 ≤ z → rl z → ¬ cl z < (0 : Int64) := fun z hz hr => by
      rw [show (0 : Int64) = cl 0 by decide, cllt hr (by decide)]
      omega
    refine (ao_mem (R := cl R) (V := cl V) (k := cl k) (x3 := x3) (x4 := x4) (x5 := x5) hm a2 a0 a1 (c0 k k0 k1) (c0 R r0 r1) ?_).trans ?_
    · rcases k2 with rfl | h
      · exact Or.inl (by decide)
      · refine Or.inr ?_
        rw [clsub, cllt r2 k1]
        omega
    · have e := ih (m + 1) (by omega) (vL (cl k)) vJ x5
      rw [← cnsucc] at e
      exact e
theorem are_ord (J : JN lg P0 P1 Q cl' N T D t f g) : X 231 0 [rR 3 11 1, vJ, vJ, vJ, vJ, vJ] [] (mm P0 P1 Zp cl' (cn t) kp fo ou L xs e) = some (.inl (some (vI (cn 1))), mm P0 P1 Zp cl' (cn t) kp fo ou L xs e) := by
  refine y_go yk231 4 4 rfl ?_
  obtain ⟨x3, x4, x5, e1⟩ := ao_books (kp := kp) (fo := fo) (ou := ou) (L := L) (e := e) (xs := xs) J 6 0 rfl vJ vJ vJ
  exact e1.trans (ao_mems J 4 0 rfl x3 x4 x5)
end AreAll
