/-! the law's later doings: a member pays, a trade is busted -/
section LaterE
variable {P0 P1 Q : PM} {cl' lg : Nat → Int32} {kp fo : Int32} {ou : Int64} {L e N T D tt f g k t t' x : Nat} {xs : Nat → Int32} {v a b c d x0 y : Int32}
theorem mg_9 {p q : PM} {i s : Nat} {w : Int32} (H : MgR p q) : MgR (pI p 9 i s w) q := by
  have e : ∀ K, ¬ K = 9 → (pI p 9 i s w).1 K = p.1 K := fun K h => by
    funext i2 s2
    rw [pI_1, u3_k h]
  unfold MgR AcR at H ⊢
  rw [e 13 (by decide), e 1 (by decide), e 2 (by decide)]
  exact H
theorem a_pay {m v u : Nat} (J : JN lg P0 P1 Q cl' N T D tt f g) (H : LI Q t ou) (htt : tt ≤ 90) (ht : t ≤ 39) (hm : m < 4) (hv : v < 50) (hu : u < 3) (h9 : Q.1 15 9 m = cn 0) : nn0 (vE P0 (cn m) (cn v) (cn u) d x0 y 22).1 := by
  have I := J.1
  have W := I.1
  have hps := ps_ww W (by omega) (by
    have h1 := I.2.2.2.2.2
    have h2 := (RS_rng W.1.1 40 (by decide)).1
    omega)
  have hla : ∀ c, c < 4 → 1 ≤ laI Q c ∧ laI Q c ≤ 9999 := fun c hc => by
    obtain ⟨v, v1, -, v3⟩ := (W.2.2.1 c (by omega)).1
    unfold laI
    have h1 := v1.1
    have h2 := v1.2.1
    have h3 := v1.2.2 (by omega)
    rw [v3, cn_I ⟨by omega, by omega⟩]
    omega
  obtain ⟨⟨z, z0, z1, z2⟩, ⟨r, r0, r1, r2⟩⟩ := I.2.2.1.1 m hm
  obtain ⟨⟨z', za, zb, z3, z4⟩, ⟨r', ra, rb, r3, r4⟩, -⟩ := W.2.2.2.2.2.1.1 m hm
  have ez : P0.1 9 (m + 1) 0 = cn z := by rw [z3, ← z4, z2]
  have er : P0.1 9 (m + 1) 1 = cn r := by rw [r3, ← r4, r2]
  obtain ⟨G, M, hM, HB⟩ := H.2.2
  obtain ⟨P2, hP2⟩ : ∃ P2, pI (pI P0 9 (m + 1) 0 (cn z + cn v)) 9 (m + 1) 1 (cn r + cn u) = P2 := ⟨_, rfl⟩
  have hMg : MgR P2 Q := by
    rw [← hP2]
    exact mg_9 (mg_9 (mg_ww W))
  obtain ⟨k, k1, k2, k3⟩ := bn_call (C := z + v) (U := r + u) HB ht hMg hla H.1 (fun c hc => hps c (by omega)) hm h9 (by omega) (by omega) (by omega) (by omega)
  refine ⟨k, k1, k2, ?_⟩
  show (v2_bring P0 (cn m) (cn v) (cn u)).1 = _
  unfold v2_bring bv2_bring
  dsimp only
  rw [member_e P0 hm, ez]
  have e1 : (pI P0 9 (m + 1) 0 (cn z + cn v)).1 9 (m + 1) 1 = cn r := by
    rw [pI_1, u3_s (by decide)]
    exact er
  rw [e1, hP2]
  have e2 : P2.1 9 (m + 1) 0 = cn (z + v) := by
    rw [← hP2, pI_1, u3_s (by decide), pI_at, cnadd]
  have e3 : P2.1 9 (m + 1) 1 = cn (r + u) := by
    rw [← hP2, pI_at, cnadd]
  rw [e2, e3, k3]
  exact cl32 k
theorem k0_pay {m v u : Nat} (I : IV lg P0 Q N T D tt) (htt : tt ≤ 90) (hm : m < 4) (hv : v < 50) (hu : u < 3) (h9 : Q.1 15 9 m = cn 0) : kPay P0 (cn m) (cn v) (cn u) = 0 := by
  obtain ⟨⟨z', za, zb, z3, z4⟩, ⟨r', ra, rb, r3, r4⟩, -, ⟨e9, -⟩, -⟩ := I.1.2.2.2.2.2.1.1 m hm
  unfold kPay
  rw [if_neg (isW_y (z := (m : Int)) (a := 0) (b := 3) (by decide) (by decide) (by omega) (by omega)), if_neg (isW_y (z := (v : Int)) (a := -9999) (b := 9999) (by decide) (by decide) (by omega) (by omega)), if_neg (isW_y (z := (u : Int)) (a := -99) (b := 99) (by decide) (by decide) (by omega) (by omega))]
  have h : v2_canPay P0 (cn m) (cn v) (cn u) = cn 1 := by
    unfold v2_canPay bv2_canPay
    dsimp only
    rw [member_e P0 hm, z3, r3, cnadd, cnadd, e9, h9]
    have c1 : ¬ cn (z' + (v : Int)) < 0 := by
      rw [show (0 : Int32) = cn 0 from rfl, cnlt ⟨by omega, by omega⟩ (by decide)]
      omega
    have c2 : ¬ cn (r' + (u : Int)) < 0 := by
      rw [show (0 : Int32) = cn 0 from rfl, cnlt ⟨by omega, by omega⟩ (by decide)]
      omega
    rw [if_pos (show cn 0 = (0 : Int32) from rfl), if_neg c1, if_neg c2, if_neg (cnge (j := v) (by omega)), if_neg (cnge (j := u) (by omega))]
  rw [h]
  rfl
set_option maxRecDepth 100000 in
theorem la_pay (J : JN lg P0 P1 Q cl' N T D tt f g) (H : LI Q t ou) (hx : x ≤ 400000) (htt : tt ≤ 90) (ht : t ≤ 39) : LW P0 P1 cl' kp fo ou L xs e tt f g t x v 337 := by
  have m1 : x / 16 % 4 < 4 := Nat.mod_lt _ (by decide)
  have m2 : x / 64 % 50 < 50 := Nat.mod_lt _ (by decide)
  have m3 : x / 3200 % 3 < 3 := Nat.mod_lt _ (by decide)
  have a1 := an_mem (P1 := P1) (Q := Zp) (cl' := cl') (kp := kp) (fo := fo) (ou := ou) (L := L) (xs := xs) (e := e) (w := 6) J.1 J.2.1.1 m1 (by decide)
  have a2 : v2_tell P0 (cn ((x / 16 % 4 : Nat) : Int)) (cn ((6 : Nat) : Int)) = _ := failed_e J.1 m1
  rw [a2] at a1
  by_cases h9 : Q.1 15 9 (x / 16 % 4) = 0
  · rw [if_pos h9] at a1
    have S := (sem_ev (k := 22) (a := cn ((x / 16 % 4 : Nat) : Int)) (b := cn ((x / 64 % 50 : Nat) : Int)) (c := cn ((x / 3200 % 3 : Nat) : Int)) (d := cn 0) (x := cn 0) (y := cn 0) (by decide) (by omega) J).1
    have F := fc_22 (P1 := P1) (Q := Zp) (cl := cl') (kp := kp) (fo := fo) (ou := ou) (L := L) (xs := xs) (e := e) (a := cn ((x / 16 % 4 : Nat) : Int)) (b := cn ((x / 64 % 50 : Nat) : Int)) (c := cn ((x / 3200 % 3 : Nat) : Int)) J.1 (by omega) J.2.1.1 S
    have k0 := k0_pay J.1 htt m1 m2 m3 h9
    rw [k0] at F
    have F1 : X 167 0 [rR 3 11 1, vI (cn ((x / 16 % 4 : Nat) : Int)), vI (cn ((x / 64 % 50 : Nat) : Int)), vI (cn ((x / 3200 % 3 : Nat) : Int))] [] (mm P0 P1 Zp cl' (cn (tt : Int)) kp fo ou L xs e) = some (.inl (some (vI (vE P0 (cn ((x / 16 % 4 : Nat) : Int)) (cn ((x / 64 % 50 : Nat) : Int)) (cn ((x / 3200 % 3 : Nat) : Int)) (cn 0) (cn 0) (cn 0) 22).1)), evM P0 P1 Zp cl' kp fo ou L xs e tt 22 (cn ((x / 16 % 4 : Nat) : Int)) (cn ((x / 64 % 50 : Nat) : Int)) (cn ((x / 3200 % 3 : Nat) : Int)) (cn 0) (cn 0) (cn 0)) := F
    have Hn := li_pay (d := cn 0) (x := cn 0) (y := cn 0) (v := ((x / 64 % 50 : Nat) : Int)) (u := cn ((x / 3200 % 3 : Nat) : Int)) m1 (by omega) (by omega) (by omega) J (show kE P0 (cn ((x / 16 % 4 : Nat) : Int)) (cn ((x / 64 % 50 : Nat) : Int)) (cn ((x / 3200 % 3 : Nat) : Int)) (cn 0) (cn 0) (cn 0) 22 = 0 from k0) H
    obtain ⟨lgn, Nn, Tn, Dn, Jn⟩ := ev_acc (k := 22) (by decide) (by omega) J (show kE P0 (cn ((x / 16 % 4 : Nat) : Int)) (cn ((x / 64 % 50 : Nat) : Int)) (cn ((x / 3200 % 3 : Nat) : Int)) (cn 0) (cn 0) (cn 0) 22 = 0 from k0)
    refine ⟨_, ?_, ls_of (kp := kp) (fo := fo) (L := L) (e := e) (xs := xs) (t' := t + 1) Jn Hn (by omega) (by omega) (by omega)⟩
    refine y_dv yk229 2 340 341 (cn ((x / 16 : Nat) : Int)) rfl rfl (by decide) rfl (dv_n (b := 16) (by omega) (by decide) (by decide)) ?_
    refine y_rm yk229 1 342 343 (cn ((x / 16 % 4 : Nat) : Int)) rfl rfl (by decide) rfl (rm_n (b := 4) (by omega) (by decide) (by decide)) ?_
    refine y_cal yk229 5 353 rfl a1 ?_
    refine y_ifF yk229 2 355 358 rfl rfl rfl (by decide) (lcm_neF rfl) ?_
    refine y_dv yk229 4 364 365 (cn ((x / 64 : Nat) : Int)) rfl rfl (by decide) rfl (dv_n (b := 64) (by omega) (by decide) (by decide)) ?_
    refine y_rm yk229 1 367 368 (cn ((x / 64 % 50 : Nat) : Int)) rfl rfl (by decide) rfl (rm_n (b := 50) (by omega) (by decide) (by decide)) ?_
    refine y_dv yk229 2 372 373 (cn ((x / 3200 : Nat) : Int)) rfl rfl (by decide) rfl (dv_n (b := 3200) (by omega) (by decide) (by decide)) ?_
    refine y_rm yk229 1 374 375 (cn ((x / 3200 % 3 : Nat) : Int)) rfl rfl (by decide) rfl (rm_n (b := 3) (by omega) (by decide) (by decide)) ?_
    refine y_cal yk229 1 378 rfl F1 ?_
    refine y_ifF yk229 0 378 381 rfl rfl rfl (by decide) (nn_lt (a_pay J H htt ht m1 m2 m3 h9)) ?_
    refine y_lld yk229 6 391 392 ou rfl rfl rfl ⟨by decide, (show 0 < 1 by decide)⟩ rfl ?_
    refine y_dv yk229 2 395 396 (cn ((x / 64 : Nat) : Int)) rfl rfl (by decide) rfl (dv_n (b := 64) (by omega) (by decide) (by decide)) ?_
    refine y_rm yk229 1 398 399 (cn ((x / 64 % 50 : Nat) : Int)) rfl rfl (by decide) rfl (rm_n (b := 50) (by omega) (by decide) (by decide)) ?_
    refine y_lst yk229 2 401 402 (x := 3) (i := 1) (j := cn 0) (v := ou + cl ((x / 64 % 50 : Nat) : Int)) (la' := [rR 3 11 1, vI (cn x), rR 3 14 1, vI v, vI (cn 1), vI (cn ((x / 16 % 4 : Nat) : Int))]) (st := []) (M' := evM P0 P1 Zp cl' kp fo ou L xs e tt 22 (cn ((x / 16 % 4 : Nat) : Int)) (cn ((x / 64 % 50 : Nat) : Int)) (cn ((x / 3200 % 3 : Nat) : Int)) (cn 0) (cn 0) (cn 0)) _ ?_ rfl rfl (by decide) ⟨by decide, (show 0 < 1 by decide)⟩ mm_ou ?_
    · rw [← cn64 (a := ((x / 64 % 50 : Nat) : Int)) ⟨by omega, by omega⟩]
      rfl
    · exact y_ret yk229 3 rfl rfl
  · rw [if_neg h9] at a1
    refine ⟨_, ?_, ls_of (kp := kp) (fo := fo) (L := L) (e := e) (xs := xs) (t' := t + 1) J H (by omega) (by omega) (by omega)⟩
    refine y_dv yk229 2 340 341 (cn ((x / 16 : Nat) : Int)) rfl rfl (by decide) rfl (dv_n (b := 16) (by omega) (by decide) (by decide)) ?_
    refine y_rm yk229 1 342 343 (cn ((x / 16 % 4 : Nat) : Int)) rfl rfl (by decide) rfl (rm_n (b := 4) (by omega) (by decide) (by decide)) ?_
    refine y_cal yk229 5 353 rfl a1 ?_
    refine y_ifT yk229 2 355 613 rfl rfl rfl (lcm_neT (by decide)) ?_
    exact y_ret yk229 2 rfl rfl
theorem an_trades (I : IV lg P0 Q N T D tt) (hg : Gr 0 P0) : X 184 0 [rR 3 11 1] [] (mm P0 P1 Zp cl' (cn (tt : Int)) kp fo ou L xs e) = some (.inl (some (vI (cn (D : Int)))), mm P0 P1 Zp cl' (cn (tt : Int)) kp fo ou L xs e) := by
  refine (fq_193 I hg).trans ?_
  rw [I.1.2.2.2.1.2.1]
/-- what a bust answers is a price -/
theorem ba_166 {v1 v3 : Int32} : ∀ (n : Nat) (q : PM) (c : Int32), (v12_doBust_166 n q v1 v3 c).1 = cn 0 ∨ (v12_doBust_166 n q v1 v3 c).1 = (v12_doBust_166 n q v1 v3 c).2.1 13 10 v3.toNatClampNeg := by
  intro n
  induction n with
  | zero =>
    intro q c
    exact Or.inl rfl
  | succ n ih =>
    intro q c
    rw [ev12_doBust_166]
    unfold bv12_doBust_166
    repeat' first
      | with_reducible exact ih _ _
      | exact Or.inr rfl
      | split
      | dsimp only
theorem ba_16g {F234 : PM → Int32 → Int32} {F235 : PM → Int32 → Int32} {F296 : PM → Int32 → Int32 → Int32 → PM} {kv : PM → Int32 → Int32 → Int32 → Int32 × PM} (hkv : ∀ q v1 v3 c, (kv q v1 v3 c).1 = cn 0 ∨ (kv q v1 v3 c).1 = (kv q v1 v3 c).2.1 13 10 v3.toNatClampNeg) {q : PM} {v1 s0 : Int32} : (bv12_doBust_16 F234 F235 F296 kv q v1 s0).1 = cn 0 ∨ (bv12_doBust_16 F234 F235 F296 kv q v1 s0).1 = (bv12_doBust_16 F234 F235 F296 kv q v1 s0).2.1 13 10 (q.1 13 30 s0.toNatClampNeg).toNatClampNeg := by
  have e : ∀ w, (pI q 12 1 0 w).1 13 30 s0.toNatClampNeg = q.1 13 30 s0.toNatClampNeg := fun w => by rw [pI_1, u3_k (by decide)]
  unfold bv12_doBust_16
  simp only [e]
  repeat' first
    | with_reducible exact hkv _ _ _ _
    | with_reducible exact Or.inl rfl
    | split
    | dsimp only
theorem ba_16 {q : PM} {v1 s0 : Int32} : (v12_doBust_16 q v1 s0).1 = cn 0 ∨ (v12_doBust_16 q v1 s0).1 = (v12_doBust_16 q v1 s0).2.1 13 10 (q.1 13 30 s0.toNatClampNeg).toNatClampNeg := ba_16g (kv := v12_doBust_166 FU) (fun q _ _ c => ba_166 FU q c)
theorem a_bust {n : Int32} (I : IV lg P0 Q N T D tt) (htt : tt ≤ 512) (h0 : kBust P0 n = 0) : ∃ z : Int, -9999 ≤ z ∧ z ≤ 9999 ∧ (vE P0 n b c d x0 y 14).1 = cn z := by
  obtain ⟨-, ⟨A1, -⟩⟩ := do_bust (a := n) (e := tt) (by omega) I.1
  obtain ⟨-, -, e1, N2, T2, D2, -, -, W, -, -⟩ := A1 h0
  have e9 : (vE P0 n b c d x0 y 14).1 = (v12_doBust Q n).1 := e1
  rcases (kept_t (v := n) I.1.2.2.2.1).2 with ⟨f0, -⟩ | ⟨u, rfl, u1, u2, f1, k1, c6, c8, b9, A, B, z, m, hb, hA, hB, d0, d30, -⟩
  · unfold kBust at h0
    rw [if_pos f0] at h0
    exact absurd h0 (by decide)
  · have eb : v12_doBust Q (cn (u : Int)) = v12_doBust_16 Q (cn (u : Int)) (cn ((u % 60 : Nat) : Int)) := by
      unfold v12_doBust bv12_doBust
      rw [k1, if_neg (show ¬ cn 1 = (0 : Int32) by decide), irm60 (by have := I.1.2.2.2.1.2.2.2; omega)]
    rw [e9]
    rw [eb] at W ⊢
    rcases ba_16 (q := Q) (v1 := cn (u : Int)) (s0 := cn ((u % 60 : Nat) : Int)) with h | h
    · exact ⟨0, by decide, by decide, h⟩
    · rw [cntk (i := u % 60) (by omega), d30, cntk (i := b9) (by omega)] at h
      obtain ⟨z, z1, -, z3⟩ := (W.2.2.1 b9 hb).1
      exact ⟨z, z1.1, z1.2.1, h.trans z3⟩
set_option maxRecDepth 100000 in
theorem la_bust (J : JN lg P0 P1 Q cl' N T D tt f g) (H : LI Q t ou) (htt : tt ≤ 90) {r : Nat} (hr : r < 4) : LW P0 P1 cl' kp fo ou L xs e tt f g t x (cn ((D : Int) - 1 - (r : Int))) 80 := by
  have hD := J.1.1.2.2.2.1.2.2.2
  by_cases hz : (D : Int) - 1 - (r : Int) < 0
  · refine ⟨_, ?_, ls_of (kp := kp) (fo := fo) (L := L) (e := e) (xs := xs) (t' := t + 1) J H (by omega) (by omega) (by omega)⟩
    refine y_ifT yk229 1 81 135 rfl rfl rfl ?_ ?_
    · refine decide_eq_true ?_
      rw [show (0 : Int32) = cn 0 from rfl, cnlt ⟨by omega, by omega⟩ (by decide)]
      exact hz
    · exact y_ret yk229 6 rfl rfl
  obtain ⟨n, hn⟩ : ∃ n : Nat, (D : Int) - 1 - (r : Int) = n := ⟨((D : Int) - 1 - (r : Int)).toNat, by omega⟩
  rw [hn]
  have S1 := (sem_ev (k := 14) (a := cn (D : Int)) (b := cn 0) (c := cn 0) (d := cn 0) (x := cn 0) (y := cn 0) (by decide) (by omega) J).1
  have F1 := fc_14 (P1 := P1) (Q := Zp) (cl := cl') (kp := kp) (fo := fo) (ou := ou) (L := L) (xs := xs) (e := e) (a := cn (D : Int)) J.1 (by omega) J.2.1.1 S1
  have k1 : kBust P0 (cn (D : Int)) = 1 := by
    rcases (kept_t (v := cn (D : Int)) J.1.1.2.2.2.1).2 with ⟨f0, -⟩ | ⟨u, hu, u1, -⟩
    · unfold kBust
      rw [if_pos f0]
    · rw [cneq ⟨by omega, by omega⟩ ⟨by omega, by omega⟩] at hu
      omega
  have N1 := no_224 (M1 := mm P0 P1 Zp cl' (cn (tt : Int)) kp fo ou L xs e) (ans := cn 0) (Or.inr k1) (F1.trans (by rw [k1]; rfl))
  rw [if_neg (by rw [k1]; decide), if_neg (by rw [k1]; decide), mm_e] at N1
  have bg : ∀ M' : Mem, X 229 95 [rR 3 11 1, vI (cn x), rR 3 14 1, vI (cn (n : Int)), vI (cn 1), vJ] [] (mm P0 P1 Zp cl' (cn (tt : Int)) kp fo ou L xs (e + 1)) = some (.inl (some (vI (cn 1))), M') → X 229 80 [rR 3 11 1, vI (cn x), rR 3 14 1, vI (cn (n : Int)), vI (cn 1), vJ] [] (mm P0 P1 Zp cl' (cn (tt : Int)) kp fo ou L xs e) = some (.inl (some (vI (cn 1))), M') := fun M' h => by
    refine y_ifF yk229 1 81 84 rfl rfl rfl (by decide) ?_ ?_
    · refine decide_eq_false ?_
      rw [show (0 : Int32) = cn 0 from rfl, cnlt ⟨by omega, by omega⟩ (by decide)]
      omega
    · refine y_cal yk229 3 89 rfl (an_trades J.1 J.2.1.1) ?_
      refine y_cal yk229 1 92 rfl N1 ?_
      refine y_ifF yk229 0 92 95 rfl rfl rfl (by decide) (by decide) ?_
      exact h
  by_cases hf : v7_find P0 (cn (n : Int)) = 0
  · have kt : kTrade P0 (cn (n : Int)) (cn 0) = 1 := by
      unfold kTrade
      rw [if_pos hf]
    have F2 := fq_194 (P1 := P1) (Q := Zp) (cl := cl') (kp := kp) (fo := fo) (ou := ou) (L := L) (xs := xs) (e := e + 1) (a := cn (n : Int)) (b := cn 0) J.1 J.2.1.1 (fun h => ((ask_trade J.1.1).2.2 h).1)
    have N2 := no_225 (M1 := mm P0 P1 Zp cl' (cn (tt : Int)) kp fo ou L xs e) (ans := cn 0) (Or.inr kt) (F2.trans (by rw [kt]; rfl))
    rw [if_neg (by rw [kt]; decide), if_neg (by rw [kt]; decide)] at N2
    refine ⟨_, bg _ ?_, ls_rej (e := e + 1) (t' := t + 1) J H (by omega) (by omega) (by omega)⟩
    refine y_cal yk229 3 100 rfl N2 ?_
    refine y_ifT yk229 0 100 135 rfl rfl rfl (by decide) ?_
    exact y_ret yk229 6 rfl rfl
  have kt : ∀ w : Nat, w < 6 → kTrade P0 (cn (n : Int)) (cn (w : Int)) = 0 := fun w hw => by
    unfold kTrade
    rw [if_neg hf, if_neg (isW_y (z := (w : Int)) (a := 0) (b := 5) (by decide) (by decide) (by omega) (by omega))]
  have F2 := fq_194 (P1 := P1) (Q := Zp) (cl := cl') (kp := kp) (fo := fo) (ou := ou) (L := L) (xs := xs) (e := e + 1) (a := cn (n : Int)) (b := cn 0) J.1 J.2.1.1 (fun h => ((ask_trade J.1.1).2.2 h).1)
  have N2 := no_225 (Or.inl (kt 0 (by decide))) F2
  simp only [if_pos (kt 0 (by decide))] at N2
  have F3 := fq_194 (P1 := P1) (Q := Zp) (cl := cl') (kp := kp) (fo := fo) (ou := ou) (L := L) (xs := xs) (e := e + 1) (a := cn (n : Int)) (b := cn 5) J.1 J.2.1.1 (fun h => ((ask_trade J.1.1).2.2 h).1)
  have kt5 : kTrade P0 (cn (n : Int)) (cn 5) = 0 := kt 5 (by decide)
  rw [kt5] at F3
  have F4 : X 185 0 [rR 3 11 1, vI (cn (n : Int)), vI (cn 5), vJ] [] (mm P0 P1 Zp cl' (cn (tt : Int)) kp fo ou L xs (e + 1)) = some (.inl (some (vI (v4_tell P0 (v7_find P0 (cn (n : Int))) (cn 5)))), mm P0 P1 Zp cl' (cn (tt : Int)) kp fo ou L xs (e + 1)) := F3
  have tl : v4_tell P0 (v7_find P0 (cn (n : Int))) (cn 5) = if P0.1 4 (v7_find P0 (cn (n : Int))) 5 = 0 then cn 0 else cn 1 := by
    unfold v4_tell bv4_tell
    rw [if_neg (by decide), if_neg (by decide), if_neg (by decide), if_neg (by decide), if_neg (by decide)]
  have S5 := (sem_ev (k := 14) (a := cn (n : Int)) (b := cn 0) (c := cn 0) (d := cn 0) (x := cn 0) (y := cn 0) (by decide) (by omega) J).1
  have F5 := fc_14 (P1 := P1) (Q := Zp) (cl := cl') (kp := kp) (fo := fo) (ou := ou) (L := L) (xs := xs) (e := e + 1) (a := cn (n : Int)) J.1 (by omega) J.2.1.1 S5
  by_cases h5 : P0.1 4 (v7_find P0 (cn (n : Int))) 5 = 0
  · rw [tl, if_pos h5] at F4
    have kb : kBust P0 (cn (n : Int)) = 0 := by
      unfold kBust
      rw [if_neg hf, if_pos h5]
    rw [kb] at F5
    have F6 : X 163 0 [rR 3 11 1, vI (cn (n : Int))] [] (mm P0 P1 Zp cl' (cn (tt : Int)) kp fo ou L xs (e + 1)) = some (.inl (some (vI (vE P0 (cn (n : Int)) (cn 0) (cn 0) (cn 0) (cn 0) (cn 0) 14).1)), evM P0 P1 Zp cl' kp fo ou L xs (e + 1) tt 14 (cn (n : Int)) (cn 0) (cn 0) (cn 0) (cn 0) (cn 0)) := F5
    have Hn := li_14 (by omega) J (show kE P0 (cn (n : Int)) (cn 0) (cn 0) (cn 0) (cn 0) (cn 0) 14 = 0 from kb) H
    obtain ⟨z, z1, z2, z3⟩ := a_bust (b := cn 0) (c := cn 0) (d := cn 0) (x0 := cn 0) (y := cn 0) J.1 (by omega) kb
    refine ⟨_, bg _ ?_, ls_acc (e := e + 1) (k := 14) (by decide) (by omega) J (show kE P0 (cn (n : Int)) (cn 0) (cn 0) (cn 0) (cn 0) (cn 0) 14 = 0 from kb) Hn (by omega) (by omega)⟩
    refine y_cal yk229 3 100 rfl N2 ?_
    refine y_ifF yk229 0 100 103 rfl rfl rfl (by decide) (by decide) ?_
    refine y_cal yk229 4 109 rfl F4 ?_
    refine y_icT yk229 1 110 124 rfl rfl rfl (by decide) ?_
    refine y_cal yk229 3 129 rfl F6 ?_
    refine y_icF yk229 1 132 135 rfl rfl rfl (by decide) (by rw [z3]; exact decide_eq_false (by rw [cnlt ⟨by omega, by omega⟩ (by decide)]; omega)) ?_
    exact y_ret yk229 6 rfl rfl
  · rw [tl, if_neg h5] at F4
    have kb : kBust P0 (cn (n : Int)) = 2 := by
      unfold kBust
      rw [if_neg hf, if_neg h5]
    have N6 := no_223 (M1 := mm P0 P1 Zp cl' (cn (tt : Int)) kp fo ou L xs e) (ans := cn 0) (Or.inr kb) (F5.trans (by rw [kb]; rfl))
    rw [if_neg (by rw [kb]; decide), if_neg (by rw [kb]; decide)] at N6
    refine ⟨_, bg _ ?_, ls_rej (e := e + 1) (t' := t + 1) J H (by omega) (by omega) (by omega)⟩
    refine y_cal yk229 3 100 rfl N2 ?_
    refine y_ifF yk229 0 100 103 rfl rfl rfl (by decide) (by decide) ?_
    refine y_cal yk229 4 109 rfl F4 ?_
    refine y_icF yk229 1 110 113 rfl rfl rfl (by decide) (by decide) ?_
    refine y_cal yk229 3 118 rfl N6 ?_
    refine y_ifF yk229 0 118 121 rfl rfl rfl (by decide) (by decide) ?_
    exact y_ret yk229 7 rfl rfl
end LaterE
