/-! the law's later doings, the second part -/
section LaterD
variable {P0 P1 Q : PM} {cl' lg : Nat → Int32} {kp fo : Int32} {ou : Int64} {L e N T D tt f g k t t' x : Nat} {xs : Nat → Int32} {v a b c d x0 y : Int32}
/-- an event that was taken, and where all stands then -/
theorem ev_st (hk : k < 27) (ht : tt < 512) (J : JN lg P0 P1 Q cl' N T D tt f g) (h0 : kE P0 a b c d x0 y k = 0) (H : LI (eQ2 Q tt k a b c d x0 y) t' ou) : ∃ (P2 Q2 : PM) (cl2 lgn : Nat → Int32) (Nn Tn Dn : Nat), evM P0 P1 Zp cl' kp fo ou L xs e tt k a b c d x0 y = mm P2 P1 Zp cl2 (cn ((tt + 1 : Nat) : Int)) kp fo ou L xs e ∧ JN lgn P2 P1 Q2 cl2 Nn Tn Dn (tt + 1) f g ∧ LI Q2 t' ou ∧ Q2 = eQ2 Q tt k a b c d x0 y := by
  obtain ⟨lgn, Nn, Tn, Dn, Jn⟩ := ev_acc hk ht J h0
  exact ⟨_, _, _, lgn, Nn, Tn, Dn, rfl, Jn, H, rfl⟩
theorem failed_e {P Q : PM} {m : Nat} (I : IV lg P Q N T D t) (hm : m < 4) : v2_tell P (cn m) (cn 6) = if Q.1 15 9 m = 0 then cl 0 else cl 1 := by
  obtain ⟨-, -, -, ⟨e1, -⟩, -⟩ := I.1.2.2.2.2.2.1.1 m hm
  rw [tl_6 hm, e1]
theorem pass_a (m : Nat) : cn 1 + cn (m : Int) = cn ((1 + m : Nat) : Int) := by
  rw [cnadd]
  exact congrArg cn (by omega)
theorem clo_57 (htt : tt < 512) (J : JN lg P0 P1 Q cl' N T D tt f g) (h0 : kE P0 a b c d x0 y 26 = 0) : (eQ2 Q tt 26 a b c d x0 y).1 12 1 57 = cn (-1) := by
  obtain ⟨I, ⟨hg0, hg1, hfl⟩, ⟨h60, h61⟩, ⟨hf, hgt, ht5⟩, -⟩ := id J
  have hk0 : kClose P0 = 0 := h0
  have hFI : FI Q := I.2.2.1.2.1
  have hRS := RS_rng I.1.1.1 40 (by decide)
  have hd := I.2.2.2.2.2
  obtain ⟨-, A3⟩ := do_close hfl (e := tt) (by omega) (by omega) I.1 hFI
  obtain ⟨f1, -, -, f4⟩ := A3 hk0
  obtain ⟨m, s, hm, hs, e1, e2, h57, hw, hH⟩ := clo_pos I.1 hFI hk0
  have e : dQ Q 26 a b c d x0 y = (v12_doCloseOut Q).2 := does26
  rw [eq2_k.2, e]
  exact (f4 m hm h57).2.2.2.1
theorem clo_no {P Q : PM} (I : IV lg P Q N T D t) (h : Q.1 12 1 57 = cn (-1)) : kClose P = 1 := by
  rcases I.1.2.2.2.2.2.1.2.2.2.2.1 with ⟨h1, -⟩ | ⟨m, hm, -, h2⟩
  · unfold kClose
    rw [if_pos h1]
  · rw [h, cneq (by decide) ⟨by omega, by omega⟩] at h2
    omega
theorem bid_f {P Q : PM} {m : Nat} {w : Int32} (I : IV lg P Q N T D t) (hm : m < 4) (h : kBid P (cn m) w = 0) : Q.1 15 9 m = 0 := by
  obtain ⟨-, -, -, ⟨e1, -⟩, -⟩ := I.1.2.2.2.2.2.1.1 m hm
  rw [← e1]
  unfold kBid at h
  rw [member_e P hm] at h
  by_cases h9 : P.1 9 (m + 1) 3 = 0
  · exact h9
  · rw [if_neg h9] at h
    repeat' split at h
    all_goals exact absurd h (by decide)
set_option maxRecDepth 100000 in
theorem la_pass (J : JN lg P0 P1 Q cl' N T D tt f g) (H : LI Q t ou) (hx : x ≤ 400000) (htt : tt + 2 ≤ 512) (ht : t ≤ 900) : LW P0 P1 cl' kp fo ou L xs e tt f g t x v 249 := by
  have m1 : x / 16 % 3 < 3 := Nat.mod_lt _ (by decide)
  have S := (sem_ev (k := 12) (a := cn 1 + cn ((x / 16 % 3 : Nat) : Int)) (b := cn 0) (c := cn 0) (d := cn 0) (x := cn 0) (y := cn 0) (by decide) (by omega) J).1
  have F := fc_12 (P1 := P1) (Q := Zp) (cl := cl') (kp := kp) (fo := fo) (ou := ou) (L := L) (xs := xs) (e := e) (a := cn 1 + cn ((x / 16 % 3 : Nat) : Int)) J.1 (by omega) J.2.1.1 S
  have k0 : kPass (cn 1 + cn ((x / 16 % 3 : Nat) : Int)) = 0 := by rw [pass_a]; exact k0_pass (by omega) (by omega)
  rw [k0] at F
  have F1 : X 161 0 [rR 3 11 1, vI (cn 1 + cn ((x / 16 % 3 : Nat) : Int))] [] (mm P0 P1 Zp cl' (cn (tt : Int)) kp fo ou L xs e) = some (.inl (some (vI (vE P0 (cn 1 + cn ((x / 16 % 3 : Nat) : Int)) (cn 0) (cn 0) (cn 0) (cn 0) (cn 0) 12).1)), evM P0 P1 Zp cl' kp fo ou L xs e tt 12 (cn 1 + cn ((x / 16 % 3 : Nat) : Int)) (cn 0) (cn 0) (cn 0) (cn 0) (cn 0)) := F
  have Hn := li_12 (by omega) J (show kE P0 (cn 1 + cn ((x / 16 % 3 : Nat) : Int)) (cn 0) (cn 0) (cn 0) (cn 0) (cn 0) 12 = 0 from k0) H
  have hp : 0 < (vE P0 (cn 1 + cn ((x / 16 % 3 : Nat) : Int)) (cn 0) (cn 0) (cn 0) (cn 0) (cn 0) 12).1 := by rw [pass_a]; exact a_pass J.1 (by omega) (by omega) (by omega)
  refine ⟨_, ?_, ls_acc (e := e) (k := 12) (by decide) (by omega) J (show kE P0 (cn 1 + cn ((x / 16 % 3 : Nat) : Int)) (cn 0) (cn 0) (cn 0) (cn 0) (cn 0) 12 = 0 from k0) (li_up (t' := t + 1) (by omega) Hn) (by omega) (by omega)⟩
  refine y_dv yk229 4 254 255 (cn ((x / 16 : Nat) : Int)) rfl rfl (by decide) rfl (dv_n (b := 16) (by omega) (by decide) (by decide)) ?_
  refine y_rm yk229 1 256 257 (cn ((x / 16 % 3 : Nat) : Int)) rfl rfl (by decide) rfl (rm_n (b := 3) (by omega) (by decide) (by decide)) ?_
  refine y_cal yk229 2 261 rfl F1 ?_
  refine y_ifF yk229 0 261 264 rfl rfl rfl (by decide) (icm_leF hp) ?_
  exact y_ret yk229 6 rfl rfl
set_option maxRecDepth 100000 in
theorem la_hair (J : JN lg P0 P1 Q cl' N T D tt f g) (H : LI Q t ou) (hx : x ≤ 400000) (htt : tt + 2 ≤ 512) (ht : t ≤ 900) : LW P0 P1 cl' kp fo ou L xs e tt f g t x v 592 := by
  have m1 : x / 16 % 60 < 60 := Nat.mod_lt _ (by decide)
  have S := (sem_ev (k := 21) (a := cn ((x / 16 % 60 : Nat) : Int)) (b := cn 0) (c := cn 0) (d := cn 0) (x := cn 0) (y := cn 0) (by decide) (by omega) J).1
  have F := fc_21 (P1 := P1) (Q := Zp) (cl := cl') (kp := kp) (fo := fo) (ou := ou) (L := L) (xs := xs) (e := e) (a := cn ((x / 16 % 60 : Nat) : Int)) J.1 (by omega) J.2.1.1 S
  have k0 : kHair (cn ((x / 16 % 60 : Nat) : Int)) = 0 := k0_hair m1
  rw [k0] at F
  have F1 : X 166 0 [rR 3 11 1, vI (cn ((x / 16 % 60 : Nat) : Int))] [] (mm P0 P1 Zp cl' (cn (tt : Int)) kp fo ou L xs e) = some (.inl (some (vI (vE P0 (cn ((x / 16 % 60 : Nat) : Int)) (cn 0) (cn 0) (cn 0) (cn 0) (cn 0) 21).1)), evM P0 P1 Zp cl' kp fo ou L xs e tt 21 (cn ((x / 16 % 60 : Nat) : Int)) (cn 0) (cn 0) (cn 0) (cn 0) (cn 0)) := F
  have Hn := li_21 (by omega) J (show kE P0 (cn ((x / 16 % 60 : Nat) : Int)) (cn 0) (cn 0) (cn 0) (cn 0) (cn 0) 21 = 0 from k0) H
  refine ⟨_, ?_, ls_acc (e := e) (k := 21) (by decide) (by omega) J (show kE P0 (cn ((x / 16 % 60 : Nat) : Int)) (cn 0) (cn 0) (cn 0) (cn 0) (cn 0) 21 = 0 from k0) (li_up (t' := t + 1) (by omega) Hn) (by omega) (by omega)⟩
  refine y_dv yk229 3 596 597 (cn ((x / 16 : Nat) : Int)) rfl rfl (by decide) rfl (dv_n (b := 16) (by omega) (by decide) (by decide)) ?_
  refine y_rm yk229 1 599 600 (cn ((x / 16 % 60 : Nat) : Int)) rfl rfl (by decide) rfl (rm_n (b := 60) (by omega) (by decide) (by decide)) ?_
  refine y_cal yk229 1 603 rfl F1 ?_
  refine y_ifF yk229 0 603 606 rfl rfl rfl (by decide) (nn_lt (a_hair J.1)) ?_
  exact y_ret yk229 5 rfl rfl
set_option maxRecDepth 100000 in
theorem la_rule (J : JN lg P0 P1 Q cl' N T D tt f g) (H : LI Q t ou) (hx : x ≤ 400000) (htt : tt + 2 ≤ 512) (ht : t ≤ 900) : LW P0 P1 cl' kp fo ou L xs e tt f g t x v 183 := by
  have m0 : x / 16 % 6 < 6 := Nat.mod_lt _ (by decide)
  have m1 : x / 96 % 3 < 3 := Nat.mod_lt _ (by decide)
  have m2 : x / 288 % 4 < 4 := Nat.mod_lt _ (by decide)
  have m3 : x / 1152 % 3 < 3 := Nat.mod_lt _ (by decide)
  have m4 : x / 96 % 2 < 2 := Nat.mod_lt _ (by decide)
  have eb : cn ((x / 96 % 2 : Nat) : Int) * cn 4 = cn (((x / 96 % 2 : Nat) : Int) * 4) := cnmul _ _
  have S := (sem_ev (k := 7) (a := cn ((x / 16 % 6 : Nat) : Int)) (b := cn ((x / 96 % 3 : Nat) : Int)) (c := cn ((x / 288 % 4 : Nat) : Int)) (d := cn ((x / 1152 % 3 : Nat) : Int)) (x := cn 0) (y := cn 0) (by decide) (by omega) J).1
  have F := fc_7 (P1 := P1) (Q := Zp) (cl := cl') (kp := kp) (fo := fo) (ou := ou) (L := L) (xs := xs) (e := e) (a := cn ((x / 16 % 6 : Nat) : Int)) (b := cn ((x / 96 % 3 : Nat) : Int)) (c := cn ((x / 288 % 4 : Nat) : Int)) (d := cn ((x / 1152 % 3 : Nat) : Int)) J.1 (by omega) J.2.1.1 S
  have k0 : kRule (cn ((x / 16 % 6 : Nat) : Int)) (cn ((x / 96 % 3 : Nat) : Int)) (cn ((x / 288 % 4 : Nat) : Int)) (cn ((x / 1152 % 3 : Nat) : Int)) = 0 := k0_rule m0 m1 m2 m3
  rw [k0] at F
  have F1 : X 157 0 [rR 3 11 1, vI (cn ((x / 16 % 6 : Nat) : Int)), vI (cn ((x / 96 % 3 : Nat) : Int)), vI (cn ((x / 288 % 4 : Nat) : Int)), vI (cn ((x / 1152 % 3 : Nat) : Int))] [] (mm P0 P1 Zp cl' (cn (tt : Int)) kp fo ou L xs e) = some (.inl (some (vI (vE P0 (cn ((x / 16 % 6 : Nat) : Int)) (cn ((x / 96 % 3 : Nat) : Int)) (cn ((x / 288 % 4 : Nat) : Int)) (cn ((x / 1152 % 3 : Nat) : Int)) (cn 0) (cn 0) 7).1)), evM P0 P1 Zp cl' kp fo ou L xs e tt 7 (cn ((x / 16 % 6 : Nat) : Int)) (cn ((x / 96 % 3 : Nat) : Int)) (cn ((x / 288 % 4 : Nat) : Int)) (cn ((x / 1152 % 3 : Nat) : Int)) (cn 0) (cn 0)) := F
  have Hn := li_7 (by omega) J (show kE P0 (cn ((x / 16 % 6 : Nat) : Int)) (cn ((x / 96 % 3 : Nat) : Int)) (cn ((x / 288 % 4 : Nat) : Int)) (cn ((x / 1152 % 3 : Nat) : Int)) (cn 0) (cn 0) 7 = 0 from k0) H
  obtain ⟨P2, Q2, cl2, lgn, Nn, Tn, Dn, hM, J2, H2, -⟩ := ev_st (kp := kp) (fo := fo) (L := L) (e := e) (xs := xs) (k := 7) (by decide) (by omega) J (show kE P0 (cn ((x / 16 % 6 : Nat) : Int)) (cn ((x / 96 % 3 : Nat) : Int)) (cn ((x / 288 % 4 : Nat) : Int)) (cn ((x / 1152 % 3 : Nat) : Int)) (cn 0) (cn 0) 7 = 0 from k0) Hn
  rw [hM] at F1
  have S2 := (sem_ev (k := 8) (a := cn ((x / 16 % 6 : Nat) : Int)) (b := cn ((x / 96 % 2 : Nat) : Int) * cn 4) (c := cn 0) (d := cn 0) (x := cn 0) (y := cn 0) (by decide) (by omega) J2).1
  have F2 := fc_8 (P1 := P1) (Q := Zp) (cl := cl2) (kp := kp) (fo := fo) (ou := ou) (L := L) (xs := xs) (e := e) (a := cn ((x / 16 % 6 : Nat) : Int)) (b := cn ((x / 96 % 2 : Nat) : Int) * cn 4) J2.1 (by omega) J2.2.1.1 S2
  have k2 : kBand (cn ((x / 16 % 6 : Nat) : Int)) (cn ((x / 96 % 2 : Nat) : Int) * cn 4) = 0 := by rw [eb]; exact k0_band m0 (by omega) (by omega)
  rw [k2] at F2
  have F3 : X 158 0 [rR 3 11 1, vI (cn ((x / 16 % 6 : Nat) : Int)), vI (cn ((x / 96 % 2 : Nat) : Int) * cn 4)] [] (mm P2 P1 Zp cl2 (cn ((tt + 1 : Nat) : Int)) kp fo ou L xs e) = some (.inl (some (vI (vE P2 (cn ((x / 16 % 6 : Nat) : Int)) (cn ((x / 96 % 2 : Nat) : Int) * cn 4) (cn 0) (cn 0) (cn 0) (cn 0) 8).1)), evM P2 P1 Zp cl2 kp fo ou L xs e (tt + 1) 8 (cn ((x / 16 % 6 : Nat) : Int)) (cn ((x / 96 % 2 : Nat) : Int) * cn 4) (cn 0) (cn 0) (cn 0) (cn 0)) := F2
  have Hm := li_8 (by omega) J2 (show kE P2 (cn ((x / 16 % 6 : Nat) : Int)) (cn ((x / 96 % 2 : Nat) : Int) * cn 4) (cn 0) (cn 0) (cn 0) (cn 0) 8 = 0 from k2) H2
  refine ⟨_, ?_, ls_acc (e := e) (k := 8) (by decide) (by omega) J2 (show kE P2 (cn ((x / 16 % 6 : Nat) : Int)) (cn ((x / 96 % 2 : Nat) : Int) * cn 4) (cn 0) (cn 0) (cn 0) (cn 0) 8 = 0 from k2) (li_up (t' := t + 1) (by omega) Hm) (by omega) (by omega)⟩
  refine y_dv yk229 3 187 188 (cn ((x / 16 : Nat) : Int)) rfl rfl (by decide) rfl (dv_n (b := 16) (by omega) (by decide) (by decide)) ?_
  refine y_rm yk229 1 190 191 (cn ((x / 16 % 6 : Nat) : Int)) rfl rfl (by decide) rfl (rm_n (b := 6) (by omega) (by decide) (by decide)) ?_
  refine y_dv yk229 2 194 195 (cn ((x / 96 : Nat) : Int)) rfl rfl (by decide) rfl (dv_n (b := 96) (by omega) (by decide) (by decide)) ?_
  refine y_rm yk229 1 196 197 (cn ((x / 96 % 3 : Nat) : Int)) rfl rfl (by decide) rfl (rm_n (b := 3) (by omega) (by decide) (by decide)) ?_
  refine y_dv yk229 2 201 202 (cn ((x / 288 : Nat) : Int)) rfl rfl (by decide) rfl (dv_n (b := 288) (by omega) (by decide) (by decide)) ?_
  refine y_rm yk229 1 203 204 (cn ((x / 288 % 4 : Nat) : Int)) rfl rfl (by decide) rfl (rm_n (b := 4) (by omega) (by decide) (by decide)) ?_
  refine y_dv yk229 2 208 209 (cn ((x / 1152 : Nat) : Int)) rfl rfl (by decide) rfl (dv_n (b := 1152) (by omega) (by decide) (by decide)) ?_
  refine y_rm yk229 1 210 211 (cn ((x / 1152 % 3 : Nat) : Int)) rfl rfl (by decide) rfl (rm_n (b := 3) (by omega) (by decide) (by decide)) ?_
  refine y_cal yk229 1 214 rfl F1 ?_
  refine y_ifF yk229 0 214 217 rfl rfl rfl (by decide) (nn_lt (a_rule J.1 m0)) ?_
  refine y_dv yk229 3 221 222 (cn ((x / 16 : Nat) : Int)) rfl rfl (by decide) rfl (dv_n (b := 16) (by omega) (by decide) (by decide)) ?_
  refine y_rm yk229 1 224 225 (cn ((x / 16 % 6 : Nat) : Int)) rfl rfl (by decide) rfl (rm_n (b := 6) (by omega) (by decide) (by decide)) ?_
  refine y_dv yk229 2 228 229 (cn ((x / 96 : Nat) : Int)) rfl rfl (by decide) rfl (dv_n (b := 96) (by omega) (by decide) (by decide)) ?_
  refine y_rm yk229 1 230 231 (cn ((x / 96 % 2 : Nat) : Int)) rfl rfl (by decide) rfl (rm_n (b := 2) (by omega) (by decide) (by decide)) ?_
  refine y_cal yk229 3 236 rfl F3 ?_
  refine y_ifF yk229 0 236 239 rfl rfl rfl (by decide) (nn_lt (a_band J2.1 m0)) ?_
  exact y_ret yk229 6 rfl rfl
set_option maxRecDepth 100000 in
theorem la_move (J : JN lg P0 P1 Q cl' N T D tt f g) (H : LI Q t ou) (hx : x ≤ 400000) (htt : tt + 2 ≤ 512) (ht : t ≤ 900) : LW P0 P1 cl' kp fo ou L xs e tt f g t x v 274 := by
  have m0 : x / 16 % 4 < 4 := Nat.mod_lt _ (by decide)
  have m1 : x / 64 % 4 < 4 := Nat.mod_lt _ (by decide)
  have m2 : x / 256 % 40 < 40 := Nat.mod_lt _ (by decide)
  have m3 : x / 16 % 8 < 8 := Nat.mod_lt _ (by decide)
  have m4 : x / 128 % 5 < 5 := Nat.mod_lt _ (by decide)
  have eb : cn ((x / 256 % 40 : Nat) : Int) - cn 20 = cn (((x / 256 % 40 : Nat) : Int) - 20) := cnsub _ _
  have S := (sem_ev (k := 20) (a := cn ((x / 16 % 4 : Nat) : Int)) (b := cn ((x / 64 % 4 : Nat) : Int)) (c := cn ((x / 256 % 40 : Nat) : Int) - cn 20) (d := cn 0) (x := cn 0) (y := cn 0) (by decide) (by omega) J).1
  have F := fc_20 (P1 := P1) (Q := Zp) (cl := cl') (kp := kp) (fo := fo) (ou := ou) (L := L) (xs := xs) (e := e) (a := cn ((x / 16 % 4 : Nat) : Int)) (b := cn ((x / 64 % 4 : Nat) : Int)) (c := cn ((x / 256 % 40 : Nat) : Int) - cn 20) J.1 (by omega) J.2.1.1 S
  have k0 : kMove (cn ((x / 16 % 4 : Nat) : Int)) (cn ((x / 64 % 4 : Nat) : Int)) (cn ((x / 256 % 40 : Nat) : Int) - cn 20) = 0 := by rw [eb]; exact k0_move m0 m1 (by omega) (by omega)
  rw [k0] at F
  have F1 : X 165 0 [rR 3 11 1, vI (cn ((x / 16 % 4 : Nat) : Int)), vI (cn ((x / 64 % 4 : Nat) : Int)), vI (cn ((x / 256 % 40 : Nat) : Int) - cn 20)] [] (mm P0 P1 Zp cl' (cn (tt : Int)) kp fo ou L xs e) = some (.inl (some (vI (vE P0 (cn ((x / 16 % 4 : Nat) : Int)) (cn ((x / 64 % 4 : Nat) : Int)) (cn ((x / 256 % 40 : Nat) : Int) - cn 20) (cn 0) (cn 0) (cn 0) 20).1)), evM P0 P1 Zp cl' kp fo ou L xs e tt 20 (cn ((x / 16 % 4 : Nat) : Int)) (cn ((x / 64 % 4 : Nat) : Int)) (cn ((x / 256 % 40 : Nat) : Int) - cn 20) (cn 0) (cn 0) (cn 0)) := F
  have Hn := li_20 (s0 := x / 16 % 4) (c0 := x / 64 % 4) (z := ((x / 256 % 40 : Nat) : Int) - 20) (d := cn 0) (x := cn 0) (y := cn 0) m0 m1 (by omega) (by omega) (by omega) (by omega) J (by rw [← eb]; exact k0) H
  rw [← eb] at Hn
  obtain ⟨zm, z1, z2, z3⟩ := a_move (d := cn ((x / 256 % 40 : Nat) : Int) - cn 20) (x := cn 0) (a := cn 0) (y := cn 0) J.1 m0 m1
  obtain ⟨P2, Q2, cl2, lgn, Nn, Tn, Dn, hM, J2, H2, -⟩ := ev_st (kp := kp) (fo := fo) (L := L) (e := e) (xs := xs) (k := 20) (by decide) (by omega) J (show kE P0 (cn ((x / 16 % 4 : Nat) : Int)) (cn ((x / 64 % 4 : Nat) : Int)) (cn ((x / 256 % 40 : Nat) : Int) - cn 20) (cn 0) (cn 0) (cn 0) 20 = 0 from k0) Hn
  rw [hM] at F1
  have S2 := (sem_ev (k := 9) (a := cn ((x / 16 % 8 : Nat) : Int)) (b := cn ((x / 128 % 5 : Nat) : Int)) (c := cn 0) (d := cn 0) (x := cn 0) (y := cn 0) (by decide) (by omega) J2).1
  have F2 := fc_9 (P1 := P1) (Q := Zp) (cl := cl2) (kp := kp) (fo := fo) (ou := ou) (L := L) (xs := xs) (e := e) (a := cn ((x / 16 % 8 : Nat) : Int)) (b := cn ((x / 128 % 5 : Nat) : Int)) J2.1 (by omega) J2.2.1.1 S2
  have k2 : kProt (cn ((x / 16 % 8 : Nat) : Int)) (cn ((x / 128 % 5 : Nat) : Int)) = 0 := k0_prot m3 m4
  rw [k2] at F2
  have F3 : X 159 0 [rR 3 11 1, vI (cn ((x / 16 % 8 : Nat) : Int)), vI (cn ((x / 128 % 5 : Nat) : Int))] [] (mm P2 P1 Zp cl2 (cn ((tt + 1 : Nat) : Int)) kp fo ou L xs e) = some (.inl (some (vI (vE P2 (cn ((x / 16 % 8 : Nat) : Int)) (cn ((x / 128 % 5 : Nat) : Int)) (cn 0) (cn 0) (cn 0) (cn 0) 9).1)), evM P2 P1 Zp cl2 kp fo ou L xs e (tt + 1) 9 (cn ((x / 16 % 8 : Nat) : Int)) (cn ((x / 128 % 5 : Nat) : Int)) (cn 0) (cn 0) (cn 0) (cn 0)) := F2
  have Hm := li_9 (by omega) J2 (show kE P2 (cn ((x / 16 % 8 : Nat) : Int)) (cn ((x / 128 % 5 : Nat) : Int)) (cn 0) (cn 0) (cn 0) (cn 0) 9 = 0 from k2) H2
  refine ⟨_, ?_, ls_acc (e := e) (k := 9) (by decide) (by omega) J2 (show kE P2 (cn ((x / 16 % 8 : Nat) : Int)) (cn ((x / 128 % 5 : Nat) : Int)) (cn 0) (cn 0) (cn 0) (cn 0) 9 = 0 from k2) (li_up (t' := t + 1) (by omega) Hm) (by omega) (by omega)⟩
  refine y_dv yk229 3 278 279 (cn ((x / 16 : Nat) : Int)) rfl rfl (by decide) rfl (dv_n (b := 16) (by omega) (by decide) (by decide)) ?_
  refine y_rm yk229 1 280 281 (cn ((x / 16 % 4 : Nat) : Int)) rfl rfl (by decide) rfl (rm_n (b := 4) (by omega) (by decide) (by decide)) ?_
  refine y_dv yk229 2 284 285 (cn ((x / 64 : Nat) : Int)) rfl rfl (by decide) rfl (dv_n (b := 64) (by omega) (by decide) (by decide)) ?_
  refine y_rm yk229 1 286 287 (cn ((x / 64 % 4 : Nat) : Int)) rfl rfl (by decide) rfl (rm_n (b := 4) (by omega) (by decide) (by decide)) ?_
  refine y_dv yk229 2 291 292 (cn ((x / 256 : Nat) : Int)) rfl rfl (by decide) rfl (dv_n (b := 256) (by omega) (by decide) (by decide)) ?_
  refine y_rm yk229 1 294 295 (cn ((x / 256 % 40 : Nat) : Int)) rfl rfl (by decide) rfl (rm_n (b := 40) (by omega) (by decide) (by decide)) ?_
  refine y_cal yk229 3 301 rfl F1 ?_
  refine y_icF yk229 1 303 306 rfl rfl rfl (by decide) (by rw [z3]; exact decide_eq_false (by rw [cnlt ⟨by omega, by omega⟩ (by decide)]; omega)) ?_
  refine y_dv yk229 3 310 311 (cn ((x / 16 : Nat) : Int)) rfl rfl (by decide) rfl (dv_n (b := 16) (by omega) (by decide) (by decide)) ?_
  refine y_rm yk229 1 313 314 (cn ((x / 16 % 8 : Nat) : Int)) rfl rfl (by decide) rfl (rm_n (b := 8) (by omega) (by decide) (by decide)) ?_
  refine y_dv yk229 2 318 319 (cn ((x / 128 : Nat) : Int)) rfl rfl (by decide) rfl (dv_n (b := 128) (by omega) (by decide) (by decide)) ?_
  refine y_rm yk229 1 320 321 (cn ((x / 128 % 5 : Nat) : Int)) rfl rfl (by decide) rfl (rm_n (b := 5) (by omega) (by decide) (by decide)) ?_
  refine y_cal yk229 1 324 rfl F3 ?_
  refine y_ifF yk229 0 324 327 rfl rfl rfl (by decide) (nn_lt (a_prot J2.1 m3)) ?_
  exact y_ret yk229 6 rfl rfl
set_option maxRecDepth 100000 in
theorem la_fail (J : JN lg P0 P1 Q cl' N T D tt f g) (H : LI Q t ou) (hx : x ≤ 400000) (htt : tt + 2 ≤ 512) (ht : t ≤ 900)  : LW P0 P1 cl' kp fo ou L xs e tt f g t x v 405 := by
  have m1 : x / 16 % 4 < 4 := Nat.mod_lt _ (by decide)
  have S := (sem_ev (k := 24) (a := cn ((x / 16 % 4 : Nat) : Int)) (b := cn 0) (c := cn 0) (d := cn 0) (x := cn 0) (y := cn 0) (by decide) (by omega) J).1
  have F := fc_24 (P1 := P1) (Q := Zp) (cl := cl') (kp := kp) (fo := fo) (ou := ou) (L := L) (xs := xs) (e := e) (a := cn ((x / 16 % 4 : Nat) : Int)) J.1 (by omega) J.2.1.1 S
  have hc := k_fail (P0 := P0) m1
  have Nn := no_218 (M1 := evM P0 P1 Zp cl' kp fo ou L xs e tt 24 (cn ((x / 16 % 4 : Nat) : Int)) (cn 0) (cn 0) (cn 0) (cn 0) (cn 0)) (ans := (vE P0 (cn ((x / 16 % 4 : Nat) : Int)) (cn 0) (cn 0) (cn 0) (cn 0) (cn 0) 24).1) hc F
  by_cases h0 : kFail P0 (cn ((x / 16 % 4 : Nat) : Int)) = 0
  · simp only [if_pos h0] at Nn
    have Hn := li_24 (m := x / 16 % 4) (b := cn 0) (c := cn 0) (d := cn 0) (x := cn 0) (y := cn 0) m1 (by omega) (by omega) J (show kE P0 (cn ((x / 16 % 4 : Nat) : Int)) (cn 0) (cn 0) (cn 0) (cn 0) (cn 0) 24 = 0 from h0) H
    have h9 : (eQ2 Q tt 24 (cn ((x / 16 % 4 : Nat) : Int)) (cn 0) (cn 0) (cn 0) (cn 0) (cn 0)).1 15 9 (x / 16 % 4) = cn 1 := by
      have h12 := (jn_mid (k := 24) (by decide) (by omega) J (show kE P0 (cn ((x / 16 % 4 : Nat) : Int)) (cn 0) (cn 0) (cn 0) (cn 0) (cn 0) 24 = 0 from h0)).1
      have e : dQ Q 24 (cn ((x / 16 % 4 : Nat) : Int)) (cn 0) (cn 0) (cn 0) (cn 0) (cn 0) = (v12_doFail Q (cn ((x / 16 % 4 : Nat) : Int))).2 := dk_24
      rw [e] at h12
      rw [eq2_k.1, e, (fail_x h12).1, cntk (by omega), if_pos rfl]
    obtain ⟨lgn, Nn2, Tn, Dn, Jn⟩ := ev_acc (k := 24) (by decide) (by omega) J (show kE P0 (cn ((x / 16 % 4 : Nat) : Int)) (cn 0) (cn 0) (cn 0) (cn 0) (cn 0) 24 = 0 from h0)
    refine ⟨_, ?_, ls_acc (e := e) (k := 24) (by decide) (by omega) J (show kE P0 (cn ((x / 16 % 4 : Nat) : Int)) (cn 0) (cn 0) (cn 0) (cn 0) (cn 0) 24 = 0 from h0) (li_up (t' := t + 1) (by omega) Hn) (by omega) (by omega)⟩
    refine y_dv yk229 3 409 410 (cn ((x / 16 : Nat) : Int)) rfl rfl (by decide) rfl (dv_n (b := 16) (by omega) (by decide) (by decide)) ?_
    refine y_rm yk229 1 411 412 (cn ((x / 16 % 4 : Nat) : Int)) rfl rfl (by decide) rfl (rm_n (b := 4) (by omega) (by decide) (by decide)) ?_
    refine y_cal yk229 1 415 rfl Nn ?_
    refine y_ifF yk229 0 415 418 rfl rfl rfl (by decide) (by decide) ?_
    refine y_dv yk229 3 422 423 (cn ((x / 16 : Nat) : Int)) rfl rfl (by decide) rfl (dv_n (b := 16) (by omega) (by decide) (by decide)) ?_
    refine y_rm yk229 1 424 425 (cn ((x / 16 % 4 : Nat) : Int)) rfl rfl (by decide) rfl (rm_n (b := 4) (by omega) (by decide) (by decide)) ?_
    have a1 := an_mem (P1 := P1) (Q := Zp) (cl' := clw cl' tt (cn ((24 + 1 : Nat) : Int)) (cn ((x / 16 % 4 : Nat) : Int)) (cn 0) (cn 0) (cn 0) (cn 0) (cn 0)) (kp := kp) (fo := fo) (ou := ou) (L := L) (xs := xs) (e := e) (w := 6) Jn.1 Jn.2.1.1 m1 (by decide)
    have a2 := failed_e Jn.1 m1
    rw [h9, if_neg (by decide)] at a2
    have a3 : v2_tell _ (cn ((x / 16 % 4 : Nat) : Int)) (cn ((6 : Nat) : Int)) = cl 1 := a2
    rw [a3] at a1
    refine y_cal yk229 2 430 rfl a1 ?_
    refine y_ifF yk229 2 432 435 rfl rfl rfl (by decide) (lcm_neF rfl) ?_
    exact y_ret yk229 6 rfl rfl
  · simp only [if_neg h0] at Nn
    refine ⟨_, ?_, ls_rej (e := e) (t' := t + 1) J H (by omega) (by omega) (by omega)⟩
    refine y_dv yk229 3 409 410 (cn ((x / 16 : Nat) : Int)) rfl rfl (by decide) rfl (dv_n (b := 16) (by omega) (by decide) (by decide)) ?_
    refine y_rm yk229 1 411 412 (cn ((x / 16 % 4 : Nat) : Int)) rfl rfl (by decide) rfl (rm_n (b := 4) (by omega) (by decide) (by decide)) ?_
    refine y_cal yk229 1 415 rfl Nn ?_
    refine y_ifT yk229 0 415 435 rfl rfl rfl (by decide) ?_
    exact y_ret yk229 6 rfl rfl
set_option maxRecDepth 100000 in
theorem la_bid (J : JN lg P0 P1 Q cl' N T D tt f g) (H : LI Q t ou) (hx : x ≤ 400000) (htt : tt + 2 ≤ 512) (ht : t ≤ 900)  : LW P0 P1 cl' kp fo ou L xs e tt f g t x v 445 := by
  have m1 : x / 16 % 4 < 4 := Nat.mod_lt _ (by decide)
  have m2 : x / 64 % 900 < 900 := Nat.mod_lt _ (by decide)
  have eb : cn ((x / 64 % 900 : Nat) : Int) - cn 450 = cn (((x / 64 % 900 : Nat) : Int) - 450) := cnsub _ _
  have S := (sem_ev (k := 25) (a := cn ((x / 16 % 4 : Nat) : Int)) (b := cn ((x / 64 % 900 : Nat) : Int) - cn 450) (c := cn 0) (d := cn 0) (x := cn 0) (y := cn 0) (by decide) (by omega) J).1
  have F := fc_25 (P1 := P1) (Q := Zp) (cl := cl') (kp := kp) (fo := fo) (ou := ou) (L := L) (xs := xs) (e := e) (a := cn ((x / 16 % 4 : Nat) : Int)) (b := cn ((x / 64 % 900 : Nat) : Int) - cn 450) J.1 (by omega) J.2.1.1 S
  have hc := (show kBid P0 (cn ((x / 16 % 4 : Nat) : Int)) (cn ((x / 64 % 900 : Nat) : Int) - cn 450) = 0 ∨ kBid P0 (cn ((x / 16 % 4 : Nat) : Int)) (cn ((x / 64 % 900 : Nat) : Int) - cn 450) = 3 from by rw [eb]; exact k_bid m1 (by omega) (by omega))
  have Nn := no_217 (M1 := evM P0 P1 Zp cl' kp fo ou L xs e tt 25 (cn ((x / 16 % 4 : Nat) : Int)) (cn ((x / 64 % 900 : Nat) : Int) - cn 450) (cn 0) (cn 0) (cn 0) (cn 0)) (ans := (vE P0 (cn ((x / 16 % 4 : Nat) : Int)) (cn ((x / 64 % 900 : Nat) : Int) - cn 450) (cn 0) (cn 0) (cn 0) (cn 0) 25).1) hc F
  by_cases h0 : kBid P0 (cn ((x / 16 % 4 : Nat) : Int)) (cn ((x / 64 % 900 : Nat) : Int) - cn 450) = 0
  · simp only [if_pos h0] at Nn
    have Hn := li_25 (m := x / 16 % 4) (b := cn ((x / 64 % 900 : Nat) : Int) - cn 450) (c := cn 0) (d := cn 0) (x := cn 0) (y := cn 0) m1 (by omega) (by omega) J (show kE P0 (cn ((x / 16 % 4 : Nat) : Int)) (cn ((x / 64 % 900 : Nat) : Int) - cn 450) (cn 0) (cn 0) (cn 0) (cn 0) 25 = 0 from h0) H
    have h9 : (eQ2 Q tt 25 (cn ((x / 16 % 4 : Nat) : Int)) (cn ((x / 64 % 900 : Nat) : Int) - cn 450) (cn 0) (cn 0) (cn 0) (cn 0)).1 15 9 (x / 16 % 4) = 0 := by
      have h12 := (jn_mid (k := 25) (by decide) (by omega) J (show kE P0 (cn ((x / 16 % 4 : Nat) : Int)) (cn ((x / 64 % 900 : Nat) : Int) - cn 450) (cn 0) (cn 0) (cn 0) (cn 0) 25 = 0 from h0)).1
      have e : dQ Q 25 (cn ((x / 16 % 4 : Nat) : Int)) (cn ((x / 64 % 900 : Nat) : Int) - cn 450) (cn 0) (cn 0) (cn 0) (cn 0) = (v12_doBid Q (cn ((x / 16 % 4 : Nat) : Int)) (cn ((x / 64 % 900 : Nat) : Int) - cn 450)).2 := dk_25
      rw [e] at h12
      rw [eq2_k.1, e, (bid_x h12).1]
      exact bid_f J.1 m1 h0
    obtain ⟨lgn, Nn2, Tn, Dn, Jn⟩ := ev_acc (k := 25) (by decide) (by omega) J (show kE P0 (cn ((x / 16 % 4 : Nat) : Int)) (cn ((x / 64 % 900 : Nat) : Int) - cn 450) (cn 0) (cn 0) (cn 0) (cn 0) 25 = 0 from h0)
    refine ⟨_, ?_, ls_acc (e := e) (k := 25) (by decide) (by omega) J (show kE P0 (cn ((x / 16 % 4 : Nat) : Int)) (cn ((x / 64 % 900 : Nat) : Int) - cn 450) (cn 0) (cn 0) (cn 0) (cn 0) 25 = 0 from h0) (li_up (t' := t + 1) (by omega) Hn) (by omega) (by omega)⟩
    refine y_dv yk229 3 449 450 (cn ((x / 16 : Nat) : Int)) rfl rfl (by decide) rfl (dv_n (b := 16) (by omega) (by decide) (by decide)) ?_
    refine y_rm yk229 1 451 452 (cn ((x / 16 % 4 : Nat) : Int)) rfl rfl (by decide) rfl (rm_n (b := 4) (by omega) (by decide) (by decide)) ?_
    refine y_dv yk229 2 455 456 (cn ((x / 64 : Nat) : Int)) rfl rfl (by decide) rfl (dv_n (b := 64) (by omega) (by decide) (by decide)) ?_
    refine y_rm yk229 1 459 460 (cn ((x / 64 % 900 : Nat) : Int)) rfl rfl (by decide) rfl (rm_n (b := 900) (by omega) (by decide) (by decide)) ?_
    refine y_cal yk229 3 467 rfl Nn ?_
    refine y_ifF yk229 0 467 470 rfl rfl rfl (by decide) (by decide) ?_
    refine y_dv yk229 3 474 475 (cn ((x / 16 : Nat) : Int)) rfl rfl (by decide) rfl (dv_n (b := 16) (by omega) (by decide) (by decide)) ?_
    refine y_rm yk229 1 476 477 (cn ((x / 16 % 4 : Nat) : Int)) rfl rfl (by decide) rfl (rm_n (b := 4) (by omega) (by decide) (by decide)) ?_
    have a1 := an_mem (P1 := P1) (Q := Zp) (cl' := clw cl' tt (cn ((25 + 1 : Nat) : Int)) (cn ((x / 16 % 4 : Nat) : Int)) (cn ((x / 64 % 900 : Nat) : Int) - cn 450) (cn 0) (cn 0) (cn 0) (cn 0)) (kp := kp) (fo := fo) (ou := ou) (L := L) (xs := xs) (e := e) (w := 6) Jn.1 Jn.2.1.1 m1 (by decide)
    have a2 := failed_e Jn.1 m1
    rw [h9, if_pos rfl] at a2
    have a3 : v2_tell _ (cn ((x / 16 % 4 : Nat) : Int)) (cn ((6 : Nat) : Int)) = cl 0 := a2
    rw [a3] at a1
    refine y_cal yk229 2 482 rfl a1 ?_
    refine y_ifF yk229 2 484 487 rfl rfl rfl (by decide) (lcm_neF rfl) ?_
    exact y_ret yk229 6 rfl rfl
  · simp only [if_neg h0] at Nn
    refine ⟨_, ?_, ls_rej (e := e) (t' := t + 1) J H (by omega) (by omega) (by omega)⟩
    refine y_dv yk229 3 449 450 (cn ((x / 16 : Nat) : Int)) rfl rfl (by decide) rfl (dv_n (b := 16) (by omega) (by decide) (by decide)) ?_
    refine y_rm yk229 1 451 452 (cn ((x / 16 % 4 : Nat) : Int)) rfl rfl (by decide) rfl (rm_n (b := 4) (by omega) (by decide) (by decide)) ?_
    refine y_dv yk229 2 455 456 (cn ((x / 64 : Nat) : Int)) rfl rfl (by decide) rfl (dv_n (b := 64) (by omega) (by decide) (by decide)) ?_
    refine y_rm yk229 1 459 460 (cn ((x / 64 % 900 : Nat) : Int)) rfl rfl (by decide) rfl (rm_n (b := 900) (by omega) (by decide) (by decide)) ?_
    refine y_cal yk229 3 467 rfl Nn ?_
    refine y_ifT yk229 0 467 487 rfl rfl rfl (by decide) ?_
    exact y_ret yk229 6 rfl rfl
set_option maxRecDepth 100000 in
theorem la_close (J : JN lg P0 P1 Q cl' N T D tt f g) (H : LI Q t ou) (hx : x ≤ 400000) (htt : tt + 2 ≤ 512) (ht : t ≤ 900) : LW P0 P1 cl' kp fo ou L xs e tt f g t x v 497 := by
  have S := (sem_ev (k := 26) (a := cn 0) (b := cn 0) (c := cn 0) (d := cn 0) (x := cn 0) (y := cn 0) (by decide) (by omega) J).1
  have F := fc_26 (P1 := P1) (Q := Zp) (cl := cl') (kp := kp) (fo := fo) (ou := ou) (L := L) (xs := xs) (e := e)  J.1 (by omega) J.2.1.1 S
  have Nn := no_216 (M1 := evM P0 P1 Zp cl' kp fo ou L xs e tt 26 (cn 0) (cn 0) (cn 0) (cn 0) (cn 0) (cn 0)) (ans := (vE P0 (cn 0) (cn 0) (cn 0) (cn 0) (cn 0) (cn 0) 26).1) (k_close (P0 := P0)) F
  by_cases h0 : kClose P0 = 0
  · simp only [if_pos h0] at Nn
    have Hn := li_close (by omega) (by omega) J (show kE P0 (cn 0) (cn 0) (cn 0) (cn 0) (cn 0) (cn 0) 26 = 0 from h0) H
    obtain ⟨P2, Q2, cl2, lgn, Nn2, Tn, Dn, hM, J2, H2, eQ⟩ := ev_st (kp := kp) (fo := fo) (L := L) (e := e) (xs := xs) (k := 26) (by decide) (by omega) J (show kE P0 (cn 0) (cn 0) (cn 0) (cn 0) (cn 0) (cn 0) 26 = 0 from h0) Hn
    rw [hM] at Nn
    have h57 := clo_57 (by omega) J (show kE P0 (cn 0) (cn 0) (cn 0) (cn 0) (cn 0) (cn 0) 26 = 0 from h0)
    rw [← eQ] at h57
    have k1 := clo_no J2.1 h57
    have S2 := (sem_ev (k := 26) (a := cn 0) (b := cn 0) (c := cn 0) (d := cn 0) (x := cn 0) (y := cn 0) (by decide) (by omega) J2).1
    have F2 := fc_26 (P1 := P1) (Q := Zp) (cl := cl2) (kp := kp) (fo := fo) (ou := ou) (L := L) (xs := xs) (e := e)  J2.1 (by omega) J2.2.1.1 S2
    have N2 := no_216 (M1 := mm P2 P1 Zp cl2 (cn ((tt + 1 : Nat) : Int)) kp fo ou L xs e) (ans := cn 0) (Or.inr k1) (F2.trans (by rw [k1]; rfl))
    rw [if_neg (by rw [k1]; decide), if_neg (by rw [k1]; decide)] at N2
    refine ⟨_, ?_, ls_rej (e := e) (t' := t + 1) J2 H2 (by omega) (by omega) (by omega)⟩
    refine y_cal yk229 2 501 rfl Nn ?_
    refine y_ifF yk229 0 501 504 rfl rfl rfl (by decide) (by decide) ?_
    refine y_cal yk229 2 508 rfl N2 ?_
    refine y_ifF yk229 0 508 511 rfl rfl rfl (by decide) (by decide) ?_
    exact y_ret yk229 6 rfl rfl
  · simp only [if_neg h0] at Nn
    refine ⟨_, ?_, ls_rej (e := e) (t' := t + 1) J H (by omega) (by omega) (by omega)⟩
    refine y_cal yk229 2 501 rfl Nn ?_
    refine y_ifT yk229 0 501 511 rfl rfl rfl (by decide) ?_
    exact y_ret yk229 6 rfl rfl
end LaterD
