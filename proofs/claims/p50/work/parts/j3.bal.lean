/-! what stands balances, whole -/
section BalW
variable {P0 P1 Q Q2 : PM} {cl' lg : Nat → Int32} {kp fo : Int32} {ou : Int64} {L e N T D t f g : Nat} {xs : Nat → Int32}
theorem kPos_0 {i c : Nat} (hi : i < 9) (hc : c < 4) : kPos (cn i) (cn c) = 0 := by
  unfold kPos
  rw [if_neg (isW_y (z := (i : Int)) (a := 0) (b := 8) (by decide) (by decide) (by omega) (by omega)), if_neg (isW_y (z := (c : Int)) (a := 0) (b := 3) (by decide) (by decide) (by omega) (by omega))]
theorem kAcc_0 {i : Nat} (hi : i < 9) : kAcc (cn i) = 0 := by
  unfold kAcc
  rw [if_neg (isW_y (z := (i : Int)) (a := 0) (b := 8) (by decide) (by decide) (by omega) (by omega))]
theorem kBk_0 {i : Nat} (hi : i < 6) : kBk (cn i) = 0 := by
  unfold kBk
  rw [if_neg (isW_y (z := (i : Int)) (a := 0) (b := 5) (by decide) (by decide) (by omega) (by omega))]
theorem kMem_0 {m w : Nat} (hm : m < 4) (hw : w < 7) : kMem (cn m) (cn w) = 0 := by
  unfold kMem
  rw [if_neg (isW_y (z := (m : Int)) (a := 0) (b := 3) (by decide) (by decide) (by omega) (by omega)), if_neg (isW_y (z := (w : Int)) (a := 0) (b := 6) (by decide) (by decide) (by omega) (by omega))]
theorem an_pos (I : IV lg P0 Q2 N T D t) (hg : Gr 0 P0) {i c : Nat} (hi : i < 9) (hc : c < 4) : X 186 0 [rR 3 11 1, vI (cn i), vI (cn c)] [] (mm P0 P1 Q cl' (cn t) kp fo ou L xs e) = some (.inl (some (vI (Q2.1 13 1 (4 * i + c)))), mm P0 P1 Q cl' (cn t) kp fo ou L xs e) := by
  refine (fq_195 I hg).trans ?_
  rw [kPos_0 hi hc, account_e P0 hi, holds_e P0 (i + 1) hc, (I.1.2.1.1 i hi).1 c hc]
  rfl
theorem an_cash (I : IV lg P0 Q2 N T D t) (hg : Gr 0 P0) {i : Nat} (hi : i < 9) : X 187 0 [rR 3 11 1, vI (cn i)] [] (mm P0 P1 Q cl' (cn t) kp fo ou L xs e) = some (.inl (some (vL (Q2.2.1 14 1 i))), mm P0 P1 Q cl' (cn t) kp fo ou L xs e) := by
  refine (fq_196 I hg).trans ?_
  rw [kAcc_0 hi, account_e P0 hi, (I.1.2.1.1 i hi).2]
  rfl
/-- what a member has, as the class tells it -/
theorem an_mem (I : IV lg P0 Q2 N T D t) (hg : Gr 0 P0) {m w : Nat} (hm : m < 4) (hw : w < 7) : X 188 0 [rR 3 11 1, vI (cn m), vI (cn w)] [] (mm P0 P1 Q cl' (cn t) kp fo ou L xs e) = some (.inl (some (vL (v2_tell P0 (cn m) (cn w)))), mm P0 P1 Q cl' (cn t) kp fo ou L xs e) := by
  have hk := kMem_0 hm hw
  refine (fq_198 I hg (fun h => ((ask_member I.1).2.2 h).1)).trans ?_
  rw [hk]
  rfl
theorem tl_3 {p : PM} {m : Nat} (hm : m < 4) : v2_tell p (cn m) (cn 3) = (p.1 9 (m + 1) 0).toInt64 := by
  unfold v2_tell bv2_tell
  simp only [member_e p hm, if_neg (show ¬ cn 3 = (0 : Int32) by decide), if_neg (show ¬ cn 3 = cn 1 by decide), if_neg (show ¬ cn 3 = cn 2 by decide), if_true, if_neg (show ¬ cn 3 = cn 0 by decide)]
theorem tl_5 {p : PM} {m : Nat} (hm : m < 4) : v2_tell p (cn m) (cn 5) = (p.1 9 (m + 1) 2).toInt64 := by
  unfold v2_tell bv2_tell
  simp only [member_e p hm, if_neg (show ¬ cn 5 = (0 : Int32) by decide), if_neg (show ¬ cn 5 = cn 1 by decide), if_neg (show ¬ cn 5 = cn 2 by decide), if_true, if_neg (show ¬ cn 5 = cn 0 by decide), if_neg (show ¬ cn 5 = cn 3 by decide), if_neg (show ¬ cn 5 = cn 4 by decide)]
theorem smA_s {F : Nat → Int32} {c : Nat} : ∀ n : Nat, smA (fun i c => F (4 * i + c)) c n = sFu F c n := by
  intro n
  induction n with
  | zero => rfl
  | succ n ih =>
    show smA _ c n + _ = sFu F c n + _
    rw [ih]
theorem s3_s {F : Nat → Int32} : ∀ n : Nat, sFu F 3 n = s3F F n := by
  intro n
  induction n with
  | zero => rfl
  | succ n ih =>
    show sFu F 3 n + _ = s3F F n + _
    rw [ih]
theorem smC_s {C : Nat → Int64} {s : Int64} : ∀ n : Nat, smC C s n = s + cSu C n := by
  intro n
  induction n with
  | zero => exact (Int64.add_zero s).symm
  | succ n ih =>
    show smC C s n + C n = s + (cSu C n + C n)
    rw [ih, Int64.add_assoc]
theorem smPots_s {F G : Nat → Int64} {s : Int64} : ∀ n : Nat, smPots F G s n = s + (cSu F n + cSu G n) := by
  intro n
  induction n with
  | zero => exact (Int64.add_zero s).symm
  | succ n ih =>
    show smPots F G s n + (F n + G n) = s + ((cSu F n + F n) + (cSu G n + G n))
    rw [ih]
    ac_rfl
theorem cSu_c {F G : Nat → Int64} : ∀ n : Nat, (∀ i, i < n → F i = G i) → cSu F n = cSu G n := by
  intro n
  induction n with
  | zero => intro _; rfl
  | succ n ih =>
    intro h
    show cSu F n + F n = cSu G n + G n
    rw [ih (fun i hi => h i (by omega)), h n (by omega)]
theorem bal_num (s c m1 m2 : Int64) : s + c + (m1 + m2) = c + (m1 + m2 + s) := by ac_rfl
theorem bal_sum {P Q : PM} {lg : Nat → Int32} (hOT : OT P Q lg) : smPots (fun m => v2_tell P (cn (m : Nat)) (cn 3)) (fun m => v2_tell P (cn (m : Nat)) (cn 5)) (smC (Q.2.1 14 1) (P.1 2 1 5).toInt64 9) 4 = ToQ Q := by
  obtain ⟨z, -, -, z2, z3⟩ := hOT.2.2.2.1
  have e3 : cSu (fun m => v2_tell P (cn (m : Nat)) (cn 3)) 4 = cSu (fun m => (Q.1 13 36 m).toInt64) 4 := cSu_c 4 (fun m hm => by
    obtain ⟨⟨z, -, -, y2, y3⟩, -⟩ := hOT.1 m hm
    show v2_tell P (cn (m : Nat)) (cn 3) = _
    rw [tl_3 hm, y2, y3])
  have e5 : cSu (fun m => v2_tell P (cn (m : Nat)) (cn 5)) 4 = cSu (fun m => (Q.1 13 38 m).toInt64) 4 := cSu_c 4 (fun m hm => by
    obtain ⟨-, -, ⟨z, -, -, y2, y3⟩, -⟩ := hOT.1 m hm
    show v2_tell P (cn (m : Nat)) (cn 5) = _
    rw [tl_5 hm, y2, y3])
  refine (smPots_s 4).trans ?_
  refine (congrArg (fun h => h + _) (smC_s 9)).trans ?_
  show _ = cSu (Q.2.1 14 1) 9 + (cSu (fun m => (Q.1 13 36 m).toInt64) 4 + cSu (fun m => (Q.1 13 38 m).toInt64) 4 + (Q.1 12 1 58).toInt64)
  rw [← e3, ← e5, z3, ← z2]
  exact bal_num _ _ _ _
theorem is_bal (J : JN lg P0 P1 Q cl' N T D t f g) (hS : S0 Q) (hT : ToQ Q = cl 1300 + ou) : X 230 0 [rR 3 11 1, rR 3 14 1, vJ, vJ, vJ, vJ] [] (mm P0 P1 Zp cl' (cn t) kp fo ou L xs e) = some (.inl (some (vI (cn 1))), mm P0 P1 Zp cl' (cn t) kp fo ou L xs e) := by
  obtain ⟨I, ⟨hg, -⟩, -⟩ := J
  have hOT := I.1.2.2.2.2.2.1
  have h3 := hOT.2.2.2.2.2.2.2.2.2.2.2.1
  obtain ⟨x, y, e1⟩ := bal_out (s1 := 3) (s2 := 14) (s3 := 1) (M := mm P0 P1 Zp cl' (cn t) kp fo ou L xs e) (Pf := fun i c => Q.1 13 1 (4 * i + c)) (fun i c hi hc => an_pos I hg hi hc) (fun c hc => by
    rw [smA_s 9]
    by_cases h : c < 3
    · exact hS c h
    · have ec : c = 3 := by omega
      subst ec
      rw [s3_s]
      exact h3) 4 0 rfl vJ vJ
  rw [bal_beg]
  refine e1.trans ?_
  refine (bal_mid (fq_199 I hg)).trans ?_
  refine (bal_cash (s := (P0.1 2 1 5).toInt64) (Cf := Q.2.1 14 1) (fun i hi => an_cash I hg hi) 9 0 rfl).trans ?_
  rw [bal_fst]
  refine (bal_fund (F := fun m => v2_tell P0 (cn m) (cn 3)) (G := fun m => v2_tell P0 (cn m) (cn 5)) (fun i hi => an_mem (w := 3) I hg hi (by decide)) (fun i hi => an_mem (w := 5) I hg hi (by decide)) 4 0 rfl).trans ?_
  refine bal_end (w := ou) (show 0 < 1 by decide) rfl ?_
  exact (bal_sum (P := P0) (Q := Q) hOT).trans (hT.trans (congrArg (fun h => h + ou) (show cl 1300 = (1300 : Int64) by decide)))
end BalW
