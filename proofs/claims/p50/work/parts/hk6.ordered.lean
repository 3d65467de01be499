/-! orders are told -/
section Ordered
variable {P0 P1 Q : PM} {cl lg : Nat → Int32} {kp fo : Int32} {ou : Int64} {L e N T D t f g : Nat} {xs : Nat → Int32}
/-- what an order of the law's is -/
def OrdA (k : Nat) (a b c d x y : Int32) : Prop := ∃ (A B : Nat) (z v : Int), A < 8 ∧ B < 6 ∧ ((B < 4 → 96 ≤ z ∧ z ≤ 104) ∧ (¬ B < 4 → -4 ≤ z ∧ z ≤ 4)) ∧ (-7 ≤ v ∧ v ≤ 7 ∧ ¬ v = 0) ∧ a = cn A ∧ b = cn B ∧ ((k = 0 ∧ c = cn z ∧ d = cn v ∧ x = cn 0 ∧ y = cn 1) ∨ (k = 1 ∧ c = cn v ∧ d = cn 0 ∧ x = cn 0 ∧ y = cn 0) ∨ (k = 2 ∧ c = cn z ∧ d = cn v ∧ x = cn 1 ∧ y = cn 0) ∨ (k = 3 ∧ c = cn z ∧ d = cn v ∧ x = cn 2 ∧ y = cn 0) ∨ (k = 4 ∧ B < 4 ∧ c = cn z ∧ d = cn 0 ∧ x = cn v ∧ y = cn 0) ∨ (k = 5 ∧ c = cn z ∧ d = cn z + cn 4 ∧ x = cn 3 ∧ y = cn 0))
theorem or_limit {A B Y : Nat} {z v : Int} {w : Int32} (hA : A < 8) (hB : B < 6) (hz : PrB B z) (hz4 : PrB B (z + 4)) (hv1 : -50 ≤ v) (hv2 : v ≤ 50) (hv0 : ¬ v = 0) (ht : t < 512) (J : JN lg P0 P1 Q cl N T D t f g) : ∃ M', X 228 80 [rR 3 11 1, vI (cn Y), vI (cn A), vI (cn B), vI (cn v), vI (cn z), vI w, vI (cn t), vI (cn 1)] [] (mm P0 P1 Zp cl (cn (t : Int)) kp fo ou L xs e) = some (.inl (some (vI (cn 1))), M') ∧ Aft P0 P1 Q cl kp fo ou L xs e t f g 0 (cn A) (cn B) (cn z) (cn v) (cn 0) (cn 1) M' := by
  have hK : CK P0 := J.1.1.2.2.2.2.1
  have hc : kLimit P0 (cn A) (cn B) (cn z) (cn v) (cn 0) (cn 1) = 0 ∨ kLimit P0 (cn A) (cn B) (cn z) (cn v) (cn 0) (cn 1) = 3 := k_limit hK hA hB hz hv1 hv2 hv0
  have S := (sem_ev (a := cn A) (b := cn B) (c := cn z) (d := cn v) (x := cn 0) (y := cn 1) (k := 0) (by decide) ht J).1
  have F := fc_0 (P1 := P1) (Q := Zp) (cl := cl) (kp := kp) (fo := fo) (ou := ou) (L := L) (xs := xs) (e := e) (a := cn A) (b := cn B) (c := cn z) (d := cn v) (x := cn 0) (f := cn 1) J.1 ht J.2.1.1 S
  have Nn := no_212 (M1 := evM P0 P1 Zp cl kp fo ou L xs e t 0 (cn A) (cn B) (cn z) (cn v) (cn 0) (cn 1)) (ans := (vE P0 (cn A) (cn B) (cn z) (cn v) (cn 0) (cn 1) 0).1) hc F
  have A2 := tell_all (kp := kp) (fo := fo) (ou := ou) (L := L) (e := e) (xs := xs) (a := cn A) (b := cn B) (c := cn z) (d := cn v) (x := cn 0) (y := cn 1) (k := 0) (by decide) ht J
  have ek : kE P0 (cn A) (cn B) (cn z) (cn v) (cn 0) (cn 1) 0 = kLimit P0 (cn A) (cn B) (cn z) (cn v) (cn 0) (cn 1) := rfl
  rw [ek] at A2
  obtain ⟨M2, hM2⟩ : ∃ M2, (if kLimit P0 (cn A) (cn B) (cn z) (cn v) (cn 0) (cn 1) = 0 then evM P0 P1 Zp cl kp fo ou L xs e t 0 (cn A) (cn B) (cn z) (cn v) (cn 0) (cn 1) else xc (mm P0 P1 Zp cl (cn (t : Int)) kp fo ou L xs e)) = M2 := ⟨_, rfl⟩
  rw [hM2] at A2 Nn
  refine ⟨M2, x_case A2 (fun h0 hE => ?_) (fun h0 hE => ?_), A2⟩
  · rw [if_pos (show kLimit P0 (cn A) (cn B) (cn z) (cn v) (cn 0) (cn 1) = 0 from h0)] at Nn
    exact ob_212a Nn hE
  · rw [if_neg (show ¬ kLimit P0 (cn A) (cn B) (cn z) (cn v) (cn 0) (cn 1) = 0 from h0)] at Nn
    exact ob_212r Nn hE
theorem or_market {A B Y : Nat} {z v : Int} {w : Int32} (hA : A < 8) (hB : B < 6) (hz : PrB B z) (hz4 : PrB B (z + 4)) (hv1 : -50 ≤ v) (hv2 : v ≤ 50) (hv0 : ¬ v = 0) (ht : t < 512) (J : JN lg P0 P1 Q cl N T D t f g) : ∃ M', X 228 137 [rR 3 11 1, vI (cn Y), vI (cn A), vI (cn B), vI (cn v), vI (cn z), vI w, vI (cn t), vI (cn 1)] [] (mm P0 P1 Zp cl (cn (t : Int)) kp fo ou L xs e) = some (.inl (some (vI (cn 1))), M') ∧ Aft P0 P1 Q cl kp fo ou L xs e t f g 1 (cn A) (cn B) (cn v) (cn 0) (cn 0) (cn 0) M' := by
  have hK : CK P0 := J.1.1.2.2.2.2.1
  have hc : kMarket P0 (cn A) (cn B) (cn v) = 0 ∨ kMarket P0 (cn A) (cn B) (cn v) = 3 := k_market hA hB hv1 hv2 hv0
  have S := (sem_ev (a := cn A) (b := cn B) (c := cn v) (d := cn 0) (x := cn 0) (y := cn 0) (k := 1) (by decide) ht J).1
  have F := fc_1 (P1 := P1) (Q := Zp) (cl := cl) (kp := kp) (fo := fo) (ou := ou) (L := L) (xs := xs) (e := e) (a := cn A) (b := cn B) (c := cn v) J.1 ht J.2.1.1 S
  have Nn := no_220 (M1 := evM P0 P1 Zp cl kp fo ou L xs e t 1 (cn A) (cn B) (cn v) (cn 0) (cn 0) (cn 0)) (ans := (vE P0 (cn A) (cn B) (cn v) (cn 0) (cn 0) (cn 0) 1).1) hc F
  have A2 := tell_all (kp := kp) (fo := fo) (ou := ou) (L := L) (e := e) (xs := xs) (a := cn A) (b := cn B) (c := cn v) (d := cn 0) (x := cn 0) (y := cn 0) (k := 1) (by decide) ht J
  have ek : kE P0 (cn A) (cn B) (cn v) (cn 0) (cn 0) (cn 0) 1 = kMarket P0 (cn A) (cn B) (cn v) := rfl
  rw [ek] at A2
  obtain ⟨M2, hM2⟩ : ∃ M2, (if kMarket P0 (cn A) (cn B) (cn v) = 0 then evM P0 P1 Zp cl kp fo ou L xs e t 1 (cn A) (cn B) (cn v) (cn 0) (cn 0) (cn 0) else xc (mm P0 P1 Zp cl (cn (t : Int)) kp fo ou L xs e)) = M2 := ⟨_, rfl⟩
  rw [hM2] at A2 Nn
  refine ⟨M2, x_case A2 (fun h0 hE => ?_) (fun h0 hE => ?_), A2⟩
  · rw [if_pos (show kMarket P0 (cn A) (cn B) (cn v) = 0 from h0)] at Nn
    exact ob_220a Nn hE
  · rw [if_neg (show ¬ kMarket P0 (cn A) (cn B) (cn v) = 0 from h0)] at Nn
    exact ob_220r Nn hE
theorem or_ice {A B Y : Nat} {z v : Int} {w : Int32} (hA : A < 8) (hB : B < 6) (hz : PrB B z) (hz4 : PrB B (z + 4)) (hv1 : -50 ≤ v) (hv2 : v ≤ 50) (hv0 : ¬ v = 0) (ht : t < 512) (J : JN lg P0 P1 Q cl N T D t f g) : ∃ M', X 228 192 [rR 3 11 1, vI (cn Y), vI (cn A), vI (cn B), vI (cn v), vI (cn z), vI w, vI (cn t), vI (cn 1)] [] (mm P0 P1 Zp cl (cn (t : Int)) kp fo ou L xs e) = some (.inl (some (vI (cn 1))), M') ∧ Aft P0 P1 Q cl kp fo ou L xs e t f g 2 (cn A) (cn B) (cn z) (cn v) (cn 1) (cn 0) M' := by
  have hK : CK P0 := J.1.1.2.2.2.2.1
  have hc : kIceberg P0 (cn A) (cn B) (cn z) (cn v) (cn 1) = 0 ∨ kIceberg P0 (cn A) (cn B) (cn z) (cn v) (cn 1) = 3 := k_ice hK hA hB hz hv1 hv2 hv0
  have S := (sem_ev (a := cn A) (b := cn B) (c := cn z) (d := cn v) (x := cn 1) (y := cn 0) (k := 2) (by decide) ht J).1
  have F := fc_2 (P1 := P1) (Q := Zp) (cl := cl) (kp := kp) (fo := fo) (ou := ou) (L := L) (xs := xs) (e := e) (a := cn A) (b := cn B) (c := cn z) (d := cn v) (x := cn 1) J.1 ht J.2.1.1 S
  have Nn := no_221 (M1 := evM P0 P1 Zp cl kp fo ou L xs e t 2 (cn A) (cn B) (cn z) (cn v) (cn 1) (cn 0)) (ans := (vE P0 (cn A) (cn B) (cn z) (cn v) (cn 1) (cn 0) 2).1) hc F
  have A2 := tell_all (kp := kp) (fo := fo) (ou := ou) (L := L) (e := e) (xs := xs) (a := cn A) (b := cn B) (c := cn z) (d := cn v) (x := cn 1) (y := cn 0) (k := 2) (by decide) ht J
  have ek : kE P0 (cn A) (cn B) (cn z) (cn v) (cn 1) (cn 0) 2 = kIceberg P0 (cn A) (cn B) (cn z) (cn v) (cn 1) := rfl
  rw [ek] at A2
  obtain ⟨M2, hM2⟩ : ∃ M2, (if kIceberg P0 (cn A) (cn B) (cn z) (cn v) (cn 1) = 0 then evM P0 P1 Zp cl kp fo ou L xs e t 2 (cn A) (cn B) (cn z) (cn v) (cn 1) (cn 0) else xc (mm P0 P1 Zp cl (cn (t : Int)) kp fo ou L xs e)) = M2 := ⟨_, rfl⟩
  rw [hM2] at A2 Nn
  refine ⟨M2, x_case A2 (fun h0 hE => ?_) (fun h0 hE => ?_), A2⟩
  · rw [if_pos (show kIceberg P0 (cn A) (cn B) (cn z) (cn v) (cn 1) = 0 from h0)] at Nn
    exact ob_221a Nn hE
  · rw [if_neg (show ¬ kIceberg P0 (cn A) (cn B) (cn z) (cn v) (cn 1) = 0 from h0)] at Nn
    exact ob_221r Nn hE
theorem or_peg {A B Y : Nat} {z v : Int} {w : Int32} (hA : A < 8) (hB : B < 6) (hz : PrB B z) (hz4 : PrB B (z + 4)) (hv1 : -50 ≤ v) (hv2 : v ≤ 50) (hv0 : ¬ v = 0) (ht : t < 512) (J : JN lg P0 P1 Q cl N T D t f g) : ∃ M', X 228 250 [rR 3 11 1, vI (cn Y), vI (cn A), vI (cn B), vI (cn v), vI (cn z), vI w, vI (cn t), vI (cn 1)] [] (mm P0 P1 Zp cl (cn (t : Int)) kp fo ou L xs e) = some (.inl (some (vI (cn 1))), M') ∧ Aft P0 P1 Q cl kp fo ou L xs e t f g 3 (cn A) (cn B) (cn z) (cn v) (cn 2) (cn 0) M' := by
  have hK : CK P0 := J.1.1.2.2.2.2.1
  have hc : kPeg P0 (cn A) (cn B) (cn z) (cn v) (cn 2) = 0 ∨ kPeg P0 (cn A) (cn B) (cn z) (cn v) (cn 2) = 3 := k_peg hK hA hB hz hv1 hv2 hv0
  have S := (sem_ev (a := cn A) (b := cn B) (c := cn z) (d := cn v) (x := cn 2) (y := cn 0) (k := 3) (by decide) ht J).1
  have F := fc_3 (P1 := P1) (Q := Zp) (cl := cl) (kp := kp) (fo := fo) (ou := ou) (L := L) (xs := xs) (e := e) (a := cn A) (b := cn B) (c := cn z) (d := cn v) (x := cn 2) J.1 ht J.2.1.1 S
  have Nn := no_222 (M1 := evM P0 P1 Zp cl kp fo ou L xs e t 3 (cn A) (cn B) (cn z) (cn v) (cn 2) (cn 0)) (ans := (vE P0 (cn A) (cn B) (cn z) (cn v) (cn 2) (cn 0) 3).1) hc F
  have A2 := tell_all (kp := kp) (fo := fo) (ou := ou) (L := L) (e := e) (xs := xs) (a := cn A) (b := cn B) (c := cn z) (d := cn v) (x := cn 2) (y := cn 0) (k := 3) (by decide) ht J
  have ek : kE P0 (cn A) (cn B) (cn z) (cn v) (cn 2) (cn 0) 3 = kPeg P0 (cn A) (cn B) (cn z) (cn v) (cn 2) := rfl
  rw [ek] at A2
  obtain ⟨M2, hM2⟩ : ∃ M2, (if kPeg P0 (cn A) (cn B) (cn z) (cn v) (cn 2) = 0 then evM P0 P1 Zp cl kp fo ou L xs e t 3 (cn A) (cn B) (cn z) (cn v) (cn 2) (cn 0) else xc (mm P0 P1 Zp cl (cn (t : Int)) kp fo ou L xs e)) = M2 := ⟨_, rfl⟩
  rw [hM2] at A2 Nn
  refine ⟨M2, x_case A2 (fun h0 hE => ?_) (fun h0 hE => ?_), A2⟩
  · rw [if_pos (show kPeg P0 (cn A) (cn B) (cn z) (cn v) (cn 2) = 0 from h0)] at Nn
    exact ob_222a Nn hE
  · rw [if_neg (show ¬ kPeg P0 (cn A) (cn B) (cn z) (cn v) (cn 2) = 0 from h0)] at Nn
    exact ob_222r Nn hE
theorem or_stop {A B Y : Nat} {z v : Int} {w : Int32} (hA : A < 8) (hB : B < 6) (hz : PrB B z) (hz4 : PrB B (z + 4)) (hv1 : -50 ≤ v) (hv2 : v ≤ 50) (hv0 : ¬ v = 0) (hY : Y ≤ 400000) (eB : B = Y / 8 % 6) (ht : t < 512) (J : JN lg P0 P1 Q cl N T D t f g) : ∃ M', X 228 308 [rR 3 11 1, vI (cn Y), vI (cn A), vI (cn B), vI (cn v), vI (cn z), vI w, vI (cn t), vI (cn 1)] [] (mm P0 P1 Zp cl (cn (t : Int)) kp fo ou L xs e) = some (.inl (some (vI (cn 1))), M') ∧ Aft P0 P1 Q cl kp fo ou L xs e t f g 4 (cn A) (cn ((Y / 8 % 6 % 4 : Nat) : Int)) (cn (96 + ((Y / 672 % 9 : Nat) : Int))) (cn 0) (cn v) (cn 0) M' := by
  subst eB
  have hK : CK P0 := J.1.1.2.2.2.2.1
  have hc : kStop P0 (cn A) (cn ((Y / 8 % 6 % 4 : Nat) : Int)) (cn (96 + ((Y / 672 % 9 : Nat) : Int))) (cn 0) (cn v) = 0 ∨ kStop P0 (cn A) (cn ((Y / 8 % 6 % 4 : Nat) : Int)) (cn (96 + ((Y / 672 % 9 : Nat) : Int))) (cn 0) (cn v) = 3 := k_stop hA (by omega) (by omega) (by omega) hv1 hv2 hv0
  have S := (sem_ev (a := cn A) (b := cn ((Y / 8 % 6 % 4 : Nat) : Int)) (c := cn (96 + ((Y / 672 % 9 : Nat) : Int))) (d := cn 0) (x := cn v) (y := cn 0) (k := 4) (by decide) ht J).1
  have F := fc_4 (P1 := P1) (Q := Zp) (cl := cl) (kp := kp) (fo := fo) (ou := ou) (L := L) (xs := xs) (e := e) (a := cn A) (b := cn ((Y / 8 % 6 % 4 : Nat) : Int)) (c := cn (96 + ((Y / 672 % 9 : Nat) : Int))) (d := cn 0) (x := cn v) J.1 ht J.2.1.1 S
  have Nn := no_219 (M1 := evM P0 P1 Zp cl kp fo ou L xs e t 4 (cn A) (cn ((Y / 8 % 6 % 4 : Nat) : Int)) (cn (96 + ((Y / 672 % 9 : Nat) : Int))) (cn 0) (cn v) (cn 0)) (ans := (vE P0 (cn A) (cn ((Y / 8 % 6 % 4 : Nat) : Int)) (cn (96 + ((Y / 672 % 9 : Nat) : Int))) (cn 0) (cn v) (cn 0) 4).1) hc F
  have A2 := tell_all (kp := kp) (fo := fo) (ou := ou) (L := L) (e := e) (xs := xs) (a := cn A) (b := cn ((Y / 8 % 6 % 4 : Nat) : Int)) (c := cn (96 + ((Y / 672 % 9 : Nat) : Int))) (d := cn 0) (x := cn v) (y := cn 0) (k := 4) (by decide) ht J
  have ek : kE P0 (cn A) (cn ((Y / 8 % 6 % 4 : Nat) : Int)) (cn (96 + ((Y / 672 % 9 : Nat) : Int))) (cn 0) (cn v) (cn 0) 4 = kStop P0 (cn A) (cn ((Y / 8 % 6 % 4 : Nat) : Int)) (cn (96 + ((Y / 672 % 9 : Nat) : Int))) (cn 0) (cn v) := rfl
  rw [ek] at A2
  obtain ⟨M2, hM2⟩ : ∃ M2, (if kStop P0 (cn A) (cn ((Y / 8 % 6 % 4 : Nat) : Int)) (cn (96 + ((Y / 672 % 9 : Nat) : Int))) (cn 0) (cn v) = 0 then evM P0 P1 Zp cl kp fo ou L xs e t 4 (cn A) (cn ((Y / 8 % 6 % 4 : Nat) : Int)) (cn (96 + ((Y / 672 % 9 : Nat) : Int))) (cn 0) (cn v) (cn 0) else xc (mm P0 P1 Zp cl (cn (t : Int)) kp fo ou L xs e)) = M2 := ⟨_, rfl⟩
  rw [hM2] at A2 Nn
  refine ⟨M2, x_case A2 (fun h0 hE => ?_) (fun h0 hE => ?_), A2⟩
  · rw [if_pos (show kStop P0 (cn A) (cn ((Y / 8 % 6 % 4 : Nat) : Int)) (cn (96 + ((Y / 672 % 9 : Nat) : Int))) (cn 0) (cn v) = 0 from h0)] at Nn
    rw [show cn (96 + ((Y / 672 % 9 : Nat) : Int)) = cn 96 + cn ((Y / 672 % 9 : Nat) : Int) from Int32.ofInt_add ..] at Nn
    exact ob_219a hB hY Nn hE
  · rw [if_neg (show ¬ kStop P0 (cn A) (cn ((Y / 8 % 6 % 4 : Nat) : Int)) (cn (96 + ((Y / 672 % 9 : Nat) : Int))) (cn 0) (cn v) = 0 from h0)] at Nn
    rw [show cn (96 + ((Y / 672 % 9 : Nat) : Int)) = cn 96 + cn ((Y / 672 % 9 : Nat) : Int) from Int32.ofInt_add ..] at Nn
    exact ob_219r hB hY Nn hE
theorem or_quote {A B Y : Nat} {z v : Int} {w : Int32} (hA : A < 8) (hB : B < 6) (hz : PrB B z) (hz4 : PrB B (z + 4)) (hv1 : -50 ≤ v) (hv2 : v ≤ 50) (hv0 : ¬ v = 0) (ht : t < 512) (J : JN lg P0 P1 Q cl N T D t f g) : ∃ M', X 228 370 [rR 3 11 1, vI (cn Y), vI (cn A), vI (cn B), vI (cn v), vI (cn z), vI w, vI (cn t), vI (cn 1)] [] (mm P0 P1 Zp cl (cn (t : Int)) kp fo ou L xs e) = some (.inl (some (vI (cn 1))), M') ∧ Aft P0 P1 Q cl kp fo ou L xs e t f g 5 (cn A) (cn B) (cn z) (cn z + cn 4) (cn 3) (cn 0) M' := by
  have hK : CK P0 := J.1.1.2.2.2.2.1
  have hc : kQuote P0 (cn A) (cn B) (cn z) (cn z + cn 4) (cn 3) = 0 ∨ kQuote P0 (cn A) (cn B) (cn z) (cn z + cn 4) (cn 3) = 3 := k_quote hK hA hB hz hz4
  have S := (sem_ev (a := cn A) (b := cn B) (c := cn z) (d := cn z + cn 4) (x := cn 3) (y := cn 0) (k := 5) (by decide) ht J).1
  have F := fc_5 (P1 := P1) (Q := Zp) (cl := cl) (kp := kp) (fo := fo) (ou := ou) (L := L) (xs := xs) (e := e) (a := cn A) (b := cn B) (c := cn z) (d := cn z + cn 4) (x := cn 3) J.1 ht J.2.1.1 S
  have Nn := no_213 (M1 := evM P0 P1 Zp cl kp fo ou L xs e t 5 (cn A) (cn B) (cn z) (cn z + cn 4) (cn 3) (cn 0)) (ans := (vE P0 (cn A) (cn B) (cn z) (cn z + cn 4) (cn 3) (cn 0) 5).1) hc F
  have A2 := tell_all (kp := kp) (fo := fo) (ou := ou) (L := L) (e := e) (xs := xs) (a := cn A) (b := cn B) (c := cn z) (d := cn z + cn 4) (x := cn 3) (y := cn 0) (k := 5) (by decide) ht J
  have ek : kE P0 (cn A) (cn B) (cn z) (cn z + cn 4) (cn 3) (cn 0) 5 = kQuote P0 (cn A) (cn B) (cn z) (cn z + cn 4) (cn 3) := rfl
  rw [ek] at A2
  obtain ⟨M2, hM2⟩ : ∃ M2, (if kQuote P0 (cn A) (cn B) (cn z) (cn z + cn 4) (cn 3) = 0 then evM P0 P1 Zp cl kp fo ou L xs e t 5 (cn A) (cn B) (cn z) (cn z + cn 4) (cn 3) (cn 0) else xc (mm P0 P1 Zp cl (cn (t : Int)) kp fo ou L xs e)) = M2 := ⟨_, rfl⟩
  rw [hM2] at A2 Nn
  refine ⟨M2, x_case A2 (fun h0 hE => ?_) (fun h0 hE => ?_), A2⟩
  · rw [if_pos (show kQuote P0 (cn A) (cn B) (cn z) (cn z + cn 4) (cn 3) = 0 from h0)] at Nn
    exact ob_213a Nn hE
  · rw [if_neg (show ¬ kQuote P0 (cn A) (cn B) (cn z) (cn z + cn 4) (cn 3) = 0 from h0)] at Nn
    exact ob_213r Nn hE
end Ordered
