/-! the law's later doings, one by one -/
section LaterC
variable {P0 P1 Q : PM} {cl' lg : Nat → Int32} {kp fo : Int32} {ou : Int64} {L e N T D tt f g t x : Nat} {xs : Nat → Int32} {v : Int32}
/-- a walk of isLater's from a place on comes to true -/
def LW (P0 P1 : PM) (cl' : Nat → Int32) (kp fo : Int32) (ou : Int64) (L : Nat) (xs : Nat → Int32) (e tt f g t x : Nat) (v : Int32) (pc : Nat) : Prop := ∃ M', X 229 pc [rR 3 11 1, vI (cn x), rR 3 14 1, vI v, vI (cn 1), vJ] [] (mm P0 P1 Zp cl' (cn (tt : Int)) kp fo ou L xs e) = some (.inl (some (vI (cn 1))), M') ∧ LSX P1 kp fo L xs f g (t + 1) (tt + 2) (e + 2) M'
theorem ev_n {n : Nat} (h : n ≤ 1000) : cmpI .le (cn ((n + 1 : Nat) : Int)) 0 = false := icm_leF (by
  rw [show (0 : Int32) = cn 0 from rfl, cnlt (by decide) ⟨by omega, by omega⟩]
  omega)
set_option maxRecDepth 100000 in
theorem la_day (J : JN lg P0 P1 Q cl' N T D tt f g) (H : LI Q t ou) (hx : x ≤ 400000) (htt : tt + 2 ≤ 512) (ht : t ≤ 900)  : LW P0 P1 cl' kp fo ou L xs e tt f g t x v 568 := by
  have S := (sem_ev (k := 13) (a := cn 0) (b := cn 0) (c := cn 0) (d := cn 0) (x := cn 0) (y := cn 0) (by decide) (by omega) J).1
  have F := fc_13 (P1 := P1) (Q := Zp) (cl := cl') (kp := kp) (fo := fo) (ou := ou) (L := L) (xs := xs) (e := e)  J.1 (by omega) J.2.1.1 S
  have hc := k_day (P0 := P0)
  have Nn := no_215 (M1 := evM P0 P1 Zp cl' kp fo ou L xs e tt 13 (cn 0) (cn 0) (cn 0) (cn 0) (cn 0) (cn 0)) (ans := (vE P0 (cn 0) (cn 0) (cn 0) (cn 0) (cn 0) (cn 0) 13).1) hc F
  by_cases h0 : kDay P0 = 0
  · simp only [if_pos h0] at Nn
    have Hn := li_13 (by omega) J (show kE P0 (cn 0) (cn 0) (cn 0) (cn 0) (cn 0) (cn 0) 13 = 0 from h0) H
    obtain ⟨lgn, Nn2, Tn, Dn, Jn⟩ := ev_acc (k := 13) (by decide) (by omega) J (show kE P0 (cn 0) (cn 0) (cn 0) (cn 0) (cn 0) (cn 0) 13 = 0 from h0)
    refine ⟨_, ?_, ls_acc (e := e) (k := 13) (by decide) (by omega) J (show kE P0 (cn 0) (cn 0) (cn 0) (cn 0) (cn 0) (cn 0) 13 = 0 from h0) (li_up (t' := t + 1) (by omega) Hn) (by omega) (by omega)⟩
    refine y_cal yk229 2 572 rfl Nn ?_
    refine y_ifF yk229 0 572 575 rfl rfl rfl (by decide) (by decide) ?_
    refine y_cal yk229 2 579 rfl (x_many ⟨lgn, Nn2, Tn, Dn, Jn⟩) ?_
    refine y_ifF yk229 0 579 582 rfl rfl rfl (by decide) (ev_n (by omega)) ?_
    exact y_ret yk229 6 rfl rfl
  · simp only [if_neg h0] at Nn
    refine ⟨_, ?_, ls_rej (e := e) (t' := t + 1) J H (by omega) (by omega) (by omega)⟩
    refine y_cal yk229 2 572 rfl Nn ?_
    refine y_ifT yk229 0 572 582 rfl rfl rfl (by decide) ?_
    exact y_ret yk229 6 rfl rfl
set_option maxRecDepth 100000 in
theorem la_conv (J : JN lg P0 P1 Q cl' N T D tt f g) (H : LI Q t ou) (hx : x ≤ 400000) (htt : tt + 2 ≤ 512) (ht : t ≤ 900)  : LW P0 P1 cl' kp fo ou L xs e tt f g t x v 521 := by
  have m1 : x / 16 % 3 < 3 := Nat.mod_lt _ (by decide)
  have m2 : x / 48 % 3 < 3 := Nat.mod_lt _ (by decide)
  have m3 : x / 144 % 3 < 3 := Nat.mod_lt _ (by decide)
  have S := (sem_ev (k := 19) (a := cn ((x / 16 % 3 : Nat) : Int)) (b := cn 1 + cn ((x / 48 % 3 : Nat) : Int)) (c := cn 1 + cn ((x / 144 % 3 : Nat) : Int)) (d := cn 0) (x := cn 0) (y := cn 0) (by decide) (by omega) J).1
  have F := fc_19 (P1 := P1) (Q := Zp) (cl := cl') (kp := kp) (fo := fo) (ou := ou) (L := L) (xs := xs) (e := e) (a := cn ((x / 16 % 3 : Nat) : Int)) (b := cn 1 + cn ((x / 48 % 3 : Nat) : Int)) (c := cn 1 + cn ((x / 144 % 3 : Nat) : Int)) J.1 (by omega) J.2.1.1 S
  have hc := k_conv (P0 := P0) (c := x / 16 % 3) (n := 1 + ((x / 48 % 3 : Nat) : Int)) (d := 1 + ((x / 144 % 3 : Nat) : Int)) m1 (by omega) (by omega) (by omega) (by omega)
  rw [← cnadd, ← cnadd] at hc
  have Nn := no_226 (M1 := evM P0 P1 Zp cl' kp fo ou L xs e tt 19 (cn ((x / 16 % 3 : Nat) : Int)) (cn 1 + cn ((x / 48 % 3 : Nat) : Int)) (cn 1 + cn ((x / 144 % 3 : Nat) : Int)) (cn 0) (cn 0) (cn 0)) (ans := (vE P0 (cn ((x / 16 % 3 : Nat) : Int)) (cn 1 + cn ((x / 48 % 3 : Nat) : Int)) (cn 1 + cn ((x / 144 % 3 : Nat) : Int)) (cn 0) (cn 0) (cn 0) 19).1) hc F
  by_cases h0 : kConv P0 (cn ((x / 16 % 3 : Nat) : Int)) (cn 1 + cn ((x / 48 % 3 : Nat) : Int)) (cn 1 + cn ((x / 144 % 3 : Nat) : Int)) = 0
  · simp only [if_pos h0] at Nn
    have Hn := li_19 (c0 := x / 16 % 3) (n := 1 + ((x / 48 % 3 : Nat) : Int)) (dd := 1 + ((x / 144 % 3 : Nat) : Int)) (d := cn 0) (x := cn 0) (y := cn 0) m1 (by omega) (by omega) (by omega) (by omega) (by omega) J (by rw [← cnadd, ← cnadd]; exact h0) H
    rw [← cnadd, ← cnadd] at Hn
    obtain ⟨lgn, Nn2, Tn, Dn, Jn⟩ := ev_acc (k := 19) (by decide) (by omega) J (show kE P0 (cn ((x / 16 % 3 : Nat) : Int)) (cn 1 + cn ((x / 48 % 3 : Nat) : Int)) (cn 1 + cn ((x / 144 % 3 : Nat) : Int)) (cn 0) (cn 0) (cn 0) 19 = 0 from h0)
    refine ⟨_, ?_, ls_acc (e := e) (k := 19) (by decide) (by omega) J (show kE P0 (cn ((x / 16 % 3 : Nat) : Int)) (cn 1 + cn ((x / 48 % 3 : Nat) : Int)) (cn 1 + cn ((x / 144 % 3 : Nat) : Int)) (cn 0) (cn 0) (cn 0) 19 = 0 from h0) (li_up (t' := t + 1) (by omega) Hn) (by omega) (by omega)⟩
    refine y_dv yk229 3 525 526 (cn ((x / 16 : Nat) : Int)) rfl rfl (by decide) rfl (dv_n (b := 16) (by omega) (by decide) (by decide)) ?_
    refine y_rm yk229 1 527 528 (cn ((x / 16 % 3 : Nat) : Int)) rfl rfl (by decide) rfl (rm_n (b := 3) (by omega) (by decide) (by decide)) ?_
    refine y_dv yk229 3 532 533 (cn ((x / 48 : Nat) : Int)) rfl rfl (by decide) rfl (dv_n (b := 48) (by omega) (by decide) (by decide)) ?_
    refine y_rm yk229 1 534 535 (cn ((x / 48 % 3 : Nat) : Int)) rfl rfl (by decide) rfl (rm_n (b := 3) (by omega) (by decide) (by decide)) ?_
    refine y_dv yk229 4 541 542 (cn ((x / 144 : Nat) : Int)) rfl rfl (by decide) rfl (dv_n (b := 144) (by omega) (by decide) (by decide)) ?_
    refine y_rm yk229 1 543 544 (cn ((x / 144 % 3 : Nat) : Int)) rfl rfl (by decide) rfl (rm_n (b := 3) (by omega) (by decide) (by decide)) ?_
    refine y_cal yk229 2 548 rfl Nn ?_
    refine y_ifF yk229 0 548 551 rfl rfl rfl (by decide) (by decide) ?_
    refine y_cal yk229 2 555 rfl (x_many ⟨lgn, Nn2, Tn, Dn, Jn⟩) ?_
    refine y_ifF yk229 0 555 558 rfl rfl rfl (by decide) (ev_n (by omega)) ?_
    exact y_ret yk229 6 rfl rfl
  · simp only [if_neg h0] at Nn
    refine ⟨_, ?_, ls_rej (e := e) (t' := t + 1) J H (by omega) (by omega) (by omega)⟩
    refine y_dv yk229 3 525 526 (cn ((x / 16 : Nat) : Int)) rfl rfl (by decide) rfl (dv_n (b := 16) (by omega) (by decide) (by decide)) ?_
    refine y_rm yk229 1 527 528 (cn ((x / 16 % 3 : Nat) : Int)) rfl rfl (by decide) rfl (rm_n (b := 3) (by omega) (by decide) (by decide)) ?_
    refine y_dv yk229 3 532 533 (cn ((x / 48 : Nat) : Int)) rfl rfl (by decide) rfl (dv_n (b := 48) (by omega) (by decide) (by decide)) ?_
    refine y_rm yk229 1 534 535 (cn ((x / 48 % 3 : Nat) : Int)) rfl rfl (by decide) rfl (rm_n (b := 3) (by omega) (by decide) (by decide)) ?_
    refine y_dv yk229 4 541 542 (cn ((x / 144 : Nat) : Int)) rfl rfl (by decide) rfl (dv_n (b := 144) (by omega) (by decide) (by decide)) ?_
    refine y_rm yk229 1 543 544 (cn ((x / 144 % 3 : Nat) : Int)) rfl rfl (by decide) rfl (rm_n (b := 3) (by omega) (by decide) (by decide)) ?_
    refine y_cal yk229 2 548 rfl Nn ?_
    refine y_ifT yk229 0 548 558 rfl rfl rfl (by decide) ?_
    exact y_ret yk229 6 rfl rfl
/-- the end of a book in an auction lies ahead -/
theorem end_pos {P Q : PM} {b : Nat} (I : IV lg P Q N T D t) (hb : b < 6) (h : ¬ Q.1 13 12 b = cn (-100000)) : 0 < (if P.1 1 (b + 1) 5 = 0 then cn (-100000) else P.1 1 (b + 1) 7) := by
  obtain ⟨e1, u, e2, e3, e4, -, e5⟩ := I.1.2.2.2.2.2.2.1.2.2.2 b hb h
  rw [if_pos hb] at e5
  rcases (I.1.2.2.1 b hb).2.2.1 with ⟨-, h2⟩ | ⟨h1, h2, -⟩
  · exact absurd h2 h
  · rw [h1, if_neg (by decide), h2, e3, show (0 : Int32) = cn 0 from rfl, cnlt (by decide) ⟨by omega, by omega⟩]
    omega
theorem auc_5 {p : PM} {B : Nat} {v9 f9 : Int32} : (v6_beginAuction p B v9 f9).2.1 1 B 5 = cn 1 := by
  unfold v6_beginAuction bv6_beginAuction
  dsimp only
  rw [pI_1, u3_s (by decide), pI_1, u3_s (by decide), pI_1, u3_s (by decide), pI_at]
theorem auc_on {b : Nat} (hb : b < 6) (htt : tt < 512) (J : JN lg P0 P1 Q cl' N T D tt f g) (h0 : kE P0 (cn b) (cn 2) (cn 0) (cn 0) (cn 0) (cn 0) 11 = 0) : ¬ (eQ2 Q tt 11 (cn b) (cn 2) (cn 0) (cn 0) (cn 0) (cn 0)).1 13 12 b = cn (-100000) := by
  obtain ⟨I, ⟨hg0, hg1, hfl⟩, ⟨h60, h61⟩, ⟨hf, hgt, ht5⟩, -⟩ := id J
  obtain ⟨-, ⟨A1, -⟩, A3⟩ := does_all (a := cn b) (b := cn 2) (c := cn 0) (d := cn 0) (x := cn 0) (f := cn 0) (k := 11) (by decide) (Or.inl hfl) (Or.inl hfl) (e := tt) (by omega) I
  obtain ⟨-, h12, -, N2, T2, D2, -, -, W, -, hD⟩ := A1 h0
  obtain ⟨u, u1, -, u3⟩ := W.2.2.2.2.2.1.2.2.2.2.2.1
  have h5 : (vE P0 (cn b) (cn 2) (cn 0) (cn 0) (cn 0) (cn 0) 11).2.1 1 (b + 1) 5 = cn 1 := by
    show (v6_beginAuction P0 (v6_bookAt P0 (cn b)) (cn 2 + cn 0) (cn 0)).2.1 1 (b + 1) 5 = cn 1
    rw [book_e P0 hb]
    exact auc_5
  have hn : ¬ (dQ Q 11 (cn b) (cn 2) (cn 0) (cn 0) (cn 0) (cn 0)).1 13 12 b = cn (-100000) := by
    rcases (W.2.2.1 b hb).2.2.1 with ⟨h1, -⟩ | ⟨-, -, ⟨z, z1, z2, z3⟩, -⟩
    · rw [h5] at h1
      exact absurd h1 (by decide)
    · intro h
      have h2 : (dQ Q 11 (cn b) (cn 2) (cn 0) (cn 0) (cn 0) (cn 0)).1 13 12 b = cn z := z3
      rw [h2, cneq ⟨by omega, by omega⟩ (by decide)] at h
      omega
  have R := en_v12_works (q := dQ Q 11 (cn b) (cn 2) (cn 0) (cn 0) (cn 0) (cn 0)) (p := dQ Q 11 (cn b) (cn 2) (cn 0) (cn 0) (cn 0) (cn 0)) ⟨⟨u, u1, u3⟩, fun _ h => h⟩
  unfold eQ2
  rw [log_13 (by decide)]
  exact R.2 b hn
set_option maxRecDepth 100000 in
theorem la_auc (J : JN lg P0 P1 Q cl' N T D tt f g) (H : LI Q t ou) (hx : x ≤ 400000) (htt : tt + 2 ≤ 512) (ht : t ≤ 900)  : LW P0 P1 cl' kp fo ou L xs e tt f g t x v 145 := by
  have m1 : x / 64 % 6 < 6 := Nat.mod_lt _ (by decide)
  have S := (sem_ev (k := 11) (a := cn ((x / 64 % 6 : Nat) : Int)) (b := cn 2) (c := cn 0) (d := cn 0) (x := cn 0) (y := cn 0) (by decide) (by omega) J).1
  have F := fc_11 (P1 := P1) (Q := Zp) (cl := cl') (kp := kp) (fo := fo) (ou := ou) (L := L) (xs := xs) (e := e) (a := cn ((x / 64 % 6 : Nat) : Int)) (b := cn 2) (c := cn 0) (d := cn 0) J.1 (by omega) J.2.1.1 S
  have hc := k_auct (P0 := P0) m1
  have Nn := no_214 (M1 := evM P0 P1 Zp cl' kp fo ou L xs e tt 11 (cn ((x / 64 % 6 : Nat) : Int)) (cn 2) (cn 0) (cn 0) (cn 0) (cn 0)) (ans := (vE P0 (cn ((x / 64 % 6 : Nat) : Int)) (cn 2) (cn 0) (cn 0) (cn 0) (cn 0) 11).1) hc F
  by_cases h0 : kAuction P0 (cn ((x / 64 % 6 : Nat) : Int)) (cn 2) (cn 0) (cn 0) = 0
  · simp only [if_pos h0] at Nn
    have Hn := li_11 (by omega) J (show kE P0 (cn ((x / 64 % 6 : Nat) : Int)) (cn 2) (cn 0) (cn 0) (cn 0) (cn 0) 11 = 0 from h0) H
    obtain ⟨lgn, Nn2, Tn, Dn, Jn⟩ := ev_acc (k := 11) (by decide) (by omega) J (show kE P0 (cn ((x / 64 % 6 : Nat) : Int)) (cn 2) (cn 0) (cn 0) (cn 0) (cn 0) 11 = 0 from h0)
    refine ⟨_, ?_, ls_acc (e := e) (k := 11) (by decide) (by omega) J (show kE P0 (cn ((x / 64 % 6 : Nat) : Int)) (cn 2) (cn 0) (cn 0) (cn 0) (cn 0) 11 = 0 from h0) (li_up (t' := t + 1) (by omega) Hn) (by omega) (by omega)⟩
    refine y_dv yk229 3 149 150 (cn ((x / 64 : Nat) : Int)) rfl rfl (by decide) rfl (dv_n (b := 64) (by omega) (by decide) (by decide)) ?_
    refine y_rm yk229 1 152 153 (cn ((x / 64 % 6 : Nat) : Int)) rfl rfl (by decide) rfl (rm_n (b := 6) (by omega) (by decide) (by decide)) ?_
    refine y_cal yk229 1 156 rfl Nn ?_
    refine y_ifF yk229 0 156 159 rfl rfl rfl (by decide) (by decide) ?_
    refine y_dv yk229 3 163 164 (cn ((x / 64 : Nat) : Int)) rfl rfl (by decide) rfl (dv_n (b := 64) (by omega) (by decide) (by decide)) ?_
    refine y_rm yk229 1 166 167 (cn ((x / 64 % 6 : Nat) : Int)) rfl rfl (by decide) rfl (rm_n (b := 6) (by omega) (by decide) (by decide)) ?_
    refine y_cal yk229 1 170 rfl (an_end Jn.1 Jn.2.1.1 m1) ?_
    refine y_ifF yk229 0 170 173 rfl rfl rfl (by decide) (icm_leF (end_pos Jn.1 m1 (auc_on m1 (by omega) J h0))) ?_
    exact y_ret yk229 6 rfl rfl
  · simp only [if_neg h0] at Nn
    refine ⟨_, ?_, ls_rej (e := e) (t' := t + 1) J H (by omega) (by omega) (by omega)⟩
    refine y_dv yk229 3 149 150 (cn ((x / 64 : Nat) : Int)) rfl rfl (by decide) rfl (dv_n (b := 64) (by omega) (by decide) (by decide)) ?_
    refine y_rm yk229 1 152 153 (cn ((x / 64 % 6 : Nat) : Int)) rfl rfl (by decide) rfl (rm_n (b := 6) (by omega) (by decide) (by decide)) ?_
    refine y_cal yk229 1 156 rfl Nn ?_
    refine y_ifT yk229 0 156 173 rfl rfl rfl (by decide) ?_
    exact y_ret yk229 6 rfl rfl
end LaterC
