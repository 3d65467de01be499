/-! the face: the log is kept, and gone through again -/
def Y171 : List YR := [(0, .aload_n 0, 1, 0, 0, 0, 0, 0), (1, .aload_n 0, 1, 0, 0, 0, 0, 0), (2, .getfield 187, 3, 11, 3, 0, 0, 0), (5, .putfield 190, 3, 11, 4, 0, 0, 0), (8, .aload_n 0, 1, 0, 0, 0, 0, 0), (9, .getfield 190, 3, 11, 4, 0, 0, 0), (12, .ireturn, 1, 0, 0, 0, 0, 0)]
set_option maxRecDepth 100000 in
theorem yr171 : Y171.all (rok3 171) = true := by decide +kernel
set_option maxRecDepth 100000 in
theorem yk171 : T3OK 171 Y171 := t3_ok (K := K171) rfl (fun h => d171 h) yr171
set_option maxRecDepth 100000 in
theorem nh171 : lk hT 171 = none := by decide +kernel
def Y172 : List YR := [(0, .aload_n 0, 1, 0, 0, 0, 0, 0), (1, .getfield 187, 3, 11, 3, 0, 0, 0), (4, .aload_n 0, 1, 0, 0, 0, 0, 0), (5, .getfield 190, 3, 11, 4, 0, 0, 0), (8, .isub, 1, 0, 0, 0, 0, 0), (9, .istore_n 1, 1, 0, 0, 0, 0, 0), (10, .aload_n 0, 1, 0, 0, 0, 0, 0), (11, .aload_n 0, 1, 0, 0, 0, 0, 0), (12, .getfield 190, 3, 11, 4, 0, 0, 0), (15, .putfield 187, 3, 11, 3, 0, 0, 0), (18, .aload_n 0, 1, 0, 0, 0, 0, 0), (19, .getfield 10, 3, 11, 0, 8, 0, 0), (22, .invokevirtual 193, 3, 56, 1, 1, 5, 0), (25, .iconst 0, 1, 0, 0, 0, 0, 0), (26, .istore_n 2, 1, 0, 0, 0, 0, 0), (27, .iload_n 2, 1, 0, 0, 0, 0, 0), (28, .aload_n 0, 1, 0, 0, 0, 0, 0), (29, .getfield 187, 3, 11, 3, 0, 0, 0), (32, .if_icmp .ge 19, 3, 0, 0, 0, 0, 0), (35, .aload_n 0, 1, 0, 0, 0, 0, 0), (36, .aload_n 0, 1, 0, 0, 0, 0, 0), (37, .getfield 10, 3, 11, 0, 8, 0, 0), (40, .iload_n 2, 1, 0, 0, 0, 0, 0), (41, .invokevirtual 80, 3, 201, 3, 11, 11, 0), (44, .pop, 1, 0, 0, 0, 0, 0), (45, .iinc 2 1, 3, 0, 0, 0, 0, 0), (48, .goto (-21), 3, 0, 0, 0, 0, 0), (51, .aload_n 0, 1, 0, 0, 0, 0, 0), (52, .getfield 196, 3, 11, 5, 0, 0, 0), (55, .aload_n 0, 1, 0, 0, 0, 0, 0), (56, .getfield 187, 3, 11, 3, 0, 0, 0), (59, .if_icmp .le 15, 3, 0, 0, 0, 0, 0), (62, .aload_n 0, 1, 0, 0, 0, 0, 0), (63, .getfield 16, 3, 11, 1, 8, 0, 0), (66, .invokevirtual 193, 3, 56, 1, 1, 5, 0), (69, .aload_n 0, 1, 0, 0, 0, 0, 0), (70, .iconst 0, 1, 0, 0, 0, 0, 0), (71, .putfield 196, 3, 11, 5, 0, 0, 0), (74, .iload_n 1, 1, 0, 0, 0, 0, 0), (75, .ireturn, 1, 0, 0, 0, 0, 0)]
set_option maxRecDepth 100000 in
theorem yr172 : Y172.all (rok3 172) = true := by decide +kernel
set_option maxRecDepth 100000 in
theorem yk172 : T3OK 172 Y172 := t3_ok (K := K172) rfl (fun h => d172 h) yr172
set_option maxRecDepth 100000 in
theorem nh172 : lk hT 172 = none := by decide +kernel
def Y174 : List YR := [(0, .iload_n 1, 1, 0, 0, 0, 0, 0), (1, .iconst 0, 1, 0, 0, 0, 0, 0), (2, .bipush 8, 2, 0, 0, 0, 0, 8), (4, .invokestatic 59, 3, 193, 3, 3, 11, 0), (7, .ifCond .eq 14, 3, 0, 0, 0, 0, 0), (10, .iload_n 2, 1, 0, 0, 0, 0, 0), (11, .invokestatic 84, 3, 196, 1, 1, 11, 0), (14, .ifCond .eq 7, 3, 0, 0, 0, 0, 0), (17, .iconst 1, 1, 0, 0, 0, 0, 1), (18, .goto 4, 3, 0, 0, 0, 0, 0), (21, .iconst 0, 1, 0, 0, 0, 0, 0), (22, .invokestatic 30, 3, 190, 1, 1, 11, 0), (25, .aload_n 0, 1, 0, 0, 0, 0, 0), (26, .getfield 196, 3, 11, 5, 0, 0, 0), (29, .aload_n 0, 1, 0, 0, 0, 0, 0), (30, .getfield 187, 3, 11, 3, 0, 0, 0), (33, .if_icmp .ge 29, 3, 0, 0, 0, 0, 0), (36, .aload_n 0, 1, 0, 0, 0, 0, 0), (37, .aload_n 0, 1, 0, 0, 0, 0, 0), (38, .getfield 16, 3, 11, 1, 8, 0, 0), (41, .aload_n 0, 1, 0, 0, 0, 0, 0), (42, .getfield 196, 3, 11, 5, 0, 0, 0), (45, .invokevirtual 80, 3, 201, 3, 11, 11, 0), (48, .pop, 1, 0, 0, 0, 0, 0), (49, .aload_n 0, 1, 0, 0, 0, 0, 0), (50, .dup, 1, 0, 0, 0, 0, 0), (51, .getfield 196, 3, 11, 5, 0, 0, 0), (54, .iconst 1, 1, 0, 0, 0, 0, 1), (55, .iadd, 1, 0, 0, 0, 0, 0), (56, .putfield 196, 3, 11, 5, 0, 0, 0), (59, .goto (-34), 3, 0, 0, 0, 0, 0), (62, .aload_n 0, 1, 0, 0, 0, 0, 0), (63, .getfield 16, 3, 11, 1, 8, 0, 0), (66, .getfield 141, 3, 5, 1, 10, 0, 0), (69, .iload_n 1, 1, 0, 0, 0, 0, 0), (70, .invokevirtual 150, 3, 104, 2, 2, 7, 0), (73, .iload_n 2, 1, 0, 0, 0, 0, 0), (74, .invokevirtual 154, 3, 2, 2, 2, 0, 0), (77, .ireturn, 1, 0, 0, 0, 0, 0)]
set_option maxRecDepth 100000 in
theorem yr174 : Y174.all (rok3 174) = true := by decide +kernel
set_option maxRecDepth 100000 in
theorem yk174 : T3OK 174 Y174 := t3_ok (K := K174) rfl (fun h => d174 h) yr174
set_option maxRecDepth 100000 in
theorem nh174 : lk hT 174 = none := by decide +kernel
def Y175 : List YR := [(0, .iload_n 1, 1, 0, 0, 0, 0, 0), (1, .invokestatic 27, 3, 195, 1, 1, 11, 0), (4, .invokestatic 30, 3, 190, 1, 1, 11, 0), (7, .aload_n 0, 1, 0, 0, 0, 0, 0), (8, .getfield 196, 3, 11, 5, 0, 0, 0), (11, .aload_n 0, 1, 0, 0, 0, 0, 0), (12, .getfield 187, 3, 11, 3, 0, 0, 0), (15, .if_icmp .ge 29, 3, 0, 0, 0, 0, 0), (18, .aload_n 0, 1, 0, 0, 0, 0, 0), (19, .aload_n 0, 1, 0, 0, 0, 0, 0), (20, .getfield 16, 3, 11, 1, 8, 0, 0), (23, .aload_n 0, 1, 0, 0, 0, 0, 0), (24, .getfield 196, 3, 11, 5, 0, 0, 0), (27, .invokevirtual 80, 3, 201, 3, 11, 11, 0), (30, .pop, 1, 0, 0, 0, 0, 0), (31, .aload_n 0, 1, 0, 0, 0, 0, 0), (32, .dup, 1, 0, 0, 0, 0, 0), (33, .getfield 196, 3, 11, 5, 0, 0, 0), (36, .iconst 1, 1, 0, 0, 0, 0, 1), (37, .iadd, 1, 0, 0, 0, 0, 0), (38, .putfield 196, 3, 11, 5, 0, 0, 0), (41, .goto (-34), 3, 0, 0, 0, 0, 0), (44, .aload_n 0, 1, 0, 0, 0, 0, 0), (45, .getfield 16, 3, 11, 1, 8, 0, 0), (48, .getfield 34, 3, 5, 0, 9, 0, 0), (51, .aload_n 0, 1, 0, 0, 0, 0, 0), (52, .getfield 16, 3, 11, 1, 8, 0, 0), (55, .getfield 34, 3, 5, 0, 9, 0, 0), (58, .iload_n 1, 1, 0, 0, 0, 0, 0), (59, .invokevirtual 38, 3, 73, 2, 2, 6, 0), (62, .iload_n 2, 1, 0, 0, 0, 0, 0), (63, .iconst 1, 1, 0, 0, 0, 0, 1), (64, .invokevirtual 199, 3, 80, 4, 9, 6, 0), (67, .ireturn, 1, 0, 0, 0, 0, 0)]
set_option maxRecDepth 100000 in
theorem yr175 : Y175.all (rok3 175) = true := by decide +kernel
set_option maxRecDepth 100000 in
theorem yk175 : T3OK 175 Y175 := t3_ok (K := K175) rfl (fun h => d175 h) yr175
set_option maxRecDepth 100000 in
theorem nh175 : lk hT 175 = none := by decide +kernel
section Loops
variable {P0 P1 Q Ps : PM} {cl lg : Nat → Int32} {tl kp fo : Int32} {ou : Int64} {L e N T D t f g : Nat} {xs : Nat → Int32} {a b : Int32}
theorem x_keep : X 171 0 [rR 3 11 1] [] (mm P0 P1 Q cl tl kp fo ou L xs e) = some (.inl (some (vI tl)), mm P0 P1 Q cl tl tl fo ou L xs e) := by
  refine y_pti yk171 3 5 8 rfl rfl (by decide) rfl mm_kp ?_
  exact y_ret yk171 3 rfl rfl
/-- what a log needs that is played again: the reference begun anew, as it was -/
theorem iv_log (I : IV lg P0 Q N T D t) : (∀ j, j < 4000 → Q.1 13 40 j = lg j) ∧ Q.1 12 1 60 = lg 4000 ∧ Q.1 12 1 61 = lg 4001 ∧ ∀ k, k < 60 → b01 (Q.1 15 8 k) := by
  have hOT := I.1.2.2.2.2.2.1
  refine ⟨fun j hj => ?_, ?_, ?_, fun k hk => (I.1.2.2.2.1.1 k hk).2.1⟩
  · rw [hOT.2.2.2.2.2.2.2.1 j hj, lgB_o (by omega) (by omega)]
  · rw [hOT.2.2.2.2.2.2.2.2.1, lgB_o (by decide) (by decide)]
  · rw [hOT.2.2.2.2.2.2.2.2.2.1, lgB_o (by decide) (by decide)]
theorem fr_iv (hfl : ¬ lg 4006 = cn 1) (h : FR Ps) (I : IV lg P0 Q N T D t) : IV lg Ps (v12_resets Q) 0 0 0 0 := by
  obtain ⟨h1, h2, h3, h4⟩ := iv_log I
  exact h lg Q hfl h1 h2 h3 h4
/-- what one has played, any other can that is new -/
theorem fr_alike {n : Nat} (hfl : ¬ lg 4006 = cn 1) (hn : n ≤ 512) (h : FR Ps) (I : IV lg P0 Q N T D t) (hO : RwO lg n) (H : PLD lg P0 n) : ∀ i, i < n → rwE lg (plC lg Ps i) i = 0 := by
  obtain ⟨Pz, z1, z2, z3⟩ := H
  exact rep_alike hfl (by omega) hO (fr_iv hfl z1 I) (fr_iv hfl h I) z3 (fun i _ => kE_lt _ _ _ _ _ _ _ _)
theorem fr_g {n : Nat} (hfl : ¬ lg 4006 = cn 1) (hn : n ≤ 512) (h : FR Ps) (I : IV lg P0 Q N T D t) (hO : RwO lg n) (hE : ∀ i, i < n → rwE lg (plC lg Ps i) i = 0) {i : Nat} (hi : i < n) : rwG lg (plC lg Ps i) i ∧ g5_work (rwCl lg (plC lg Ps i) i).2 := by
  obtain ⟨N', T', D', H⟩ := rep_all (n := i) hfl (by omega) (fun j hj => hO j (by omega)) (fr_iv hfl h I) (fun j hj => hE j (by omega))
  obtain ⟨k, hk, hr⟩ := hO i hi
  obtain ⟨⟨g1, g2, -⟩, -⟩ := (rep_step hfl hk hr (by omega) H).1 (hE i hi)
  exact ⟨g1, g2⟩
/-- a row is played by an exchange -/
theorem row_play0 {n i : Nat} (ht : n ≤ 512) (hR : ROW lg cl n) (hi : i < n) (hg : Gr 0 (plC lg Ps i)) (G : rwG lg (plC lg Ps i) i) (W : g5_work (rwCl lg (plC lg Ps i) i).2) : (∃ v, X 201 0 [rR 3 11 1, rR 0 5 1, vI (cn i), vJ, vJ, vJ, vJ, vJ, vJ, vJ, vJ] [] (mm (plC lg Ps i) P1 Q cl tl kp fo ou L xs e) = some (.inl (some (vI v)), mm (plC lg Ps (i + 1)) P1 Q cl tl kp fo ou L xs e)) ∧ Gr 0 (plC lg Ps (i + 1)) := by
  obtain ⟨k, hk, r0, r1, r2, r3, r4, r5, r6, r7⟩ := hR i hi
  have e1 : rwCl lg (plC lg Ps i) i = vE (plC lg Ps i) (lg (7 * i + 1)) (lg (7 * i + 2)) (lg (7 * i + 3)) (lg (7 * i + 4)) (lg (7 * i + 5)) (lg (7 * i + 6)) k := by
    unfold rwCl
    rw [rwK_e hk r0]
  have e2 : rwG lg (plC lg Ps i) i = gE (plC lg Ps i) (lg (7 * i + 1)) (lg (7 * i + 2)) (lg (7 * i + 3)) (lg (7 * i + 4)) (lg (7 * i + 5)) (lg (7 * i + 6)) k := by
    unfold rwG
    rw [rwK_e hk r0]
  have e3 : plC lg Ps (i + 1) = v5_work (rwCl lg (plC lg Ps i) i).2 := rfl
  rw [e3, e1]
  rw [e1] at W
  rw [e2] at G
  obtain ⟨p1, p2⟩ := x_play0 (P1 := P1) (Q := Q) (cl := cl) (tl := tl) (kp := kp) (fo := fo) (ou := ou) (L := L) (e := e) (xs := xs) hk (t := i) (by omega) r1 r2 r3 r4 r5 r6 r7 hg G W
  exact ⟨⟨_, p1⟩, p2⟩
theorem row_play1 {n i : Nat} (ht : n ≤ 512) (hR : ROW lg cl n) (hi : i < n) (hg : Gr 0 (plC lg Ps i)) (G : rwG lg (plC lg Ps i) i) (W : g5_work (rwCl lg (plC lg Ps i) i).2) : (∃ v, X 201 0 [rR 3 11 1, rR 1 5 1, vI (cn i), vJ, vJ, vJ, vJ, vJ, vJ, vJ, vJ] [] (mm P0 (plC lg Ps i) Q cl tl kp fo ou L xs e) = some (.inl (some (vI v)), mm P0 (plC lg Ps (i + 1)) Q cl tl kp fo ou L xs e)) ∧ Gr 0 (plC lg Ps (i + 1)) := by
  obtain ⟨k, hk, r0, r1, r2, r3, r4, r5, r6, r7⟩ := hR i hi
  have e1 : rwCl lg (plC lg Ps i) i = vE (plC lg Ps i) (lg (7 * i + 1)) (lg (7 * i + 2)) (lg (7 * i + 3)) (lg (7 * i + 4)) (lg (7 * i + 5)) (lg (7 * i + 6)) k := by
    unfold rwCl
    rw [rwK_e hk r0]
  have e2 : rwG lg (plC lg Ps i) i = gE (plC lg Ps i) (lg (7 * i + 1)) (lg (7 * i + 2)) (lg (7 * i + 3)) (lg (7 * i + 4)) (lg (7 * i + 5)) (lg (7 * i + 6)) k := by
    unfold rwG
    rw [rwK_e hk r0]
  have e3 : plC lg Ps (i + 1) = v5_work (rwCl lg (plC lg Ps i) i).2 := rfl
  rw [e3, e1]
  rw [e1] at W
  rw [e2] at G
  obtain ⟨p1, p2⟩ := x_play1 (P0 := P0) (Q := Q) (cl := cl) (tl := tl) (kp := kp) (fo := fo) (ou := ou) (L := L) (e := e) (xs := xs) hk (t := i) (by omega) r1 r2 r3 r4 r5 r6 r7 hg G W
  exact ⟨⟨_, p1⟩, p2⟩
theorem cn_ge {i n : Nat} (hn : n ≤ 512) (hi : i ≤ n) : cmpI .ge (cn i) (cn n) = (decide (i = n)) := by
  show decide (cn (n : Int) ≤ cn (i : Int)) = _
  rw [decide_eq_decide, ← Int32.not_lt, cnlt ⟨by omega, by omega⟩ ⟨by omega, by omega⟩]
  omega
theorem fol_pos {n : Nat} (ht : n ≤ 512) (hR : ROW lg cl n) (hGW : ∀ i, i < n → rwG lg (plC lg Ps i) i ∧ g5_work (rwCl lg (plC lg Ps i) i).2) : ∀ (d i : Nat), i + d = n → Gr 0 (plC lg Ps i) → X 174 25 [rR 3 11 1, vI a, vI b] [] (mm P0 (plC lg Ps i) Q cl (cn n) kp (cn i) ou L xs e) = X 174 62 [rR 3 11 1, vI a, vI b] [] (mm P0 (plC lg Ps n) Q cl (cn n) kp (cn n) ou L xs e) ∧ Gr 0 (plC lg Ps n) := by
  intro d
  induction d with
  | zero =>
    intro i h1 hg
    have e9 : i = n := by omega
    subst e9
    refine ⟨?_, hg⟩
    refine y_icT yk174 4 33 62 rfl rfl rfl (show cmpI .ge (cn i) (cn i) = true by rw [cn_ge ht (Nat.le_refl _)]; exact decide_eq_true rfl) ?_
    rfl
  | succ d ih =>
    intro i h1 hg
    obtain ⟨G, W⟩ := hGW i (by omega)
    obtain ⟨⟨v, p1⟩, p2⟩ := row_play1 (P0 := P0) (Q := Q) (cl := cl) (tl := cn n) (kp := kp) (fo := cn i) (ou := ou) (L := L) (e := e) (xs := xs) ht hR (i := i) (by omega) hg G W
    obtain ⟨k1, k2⟩ := ih (i + 1) (by omega) p2
    refine ⟨?_, k2⟩
    refine y_icF yk174 4 33 36 rfl rfl rfl (by decide) (show cmpI .ge (cn i) (cn n) = false by rw [cn_ge ht (by omega)]; exact decide_eq_false (by omega)) ?_
    refine y_gfr yk174 2 38 41 5 1 1 rfl rfl rfl rfl rfl rfl (by decide) ?_
    refine y_cal yk174 3 48 rfl p1 ?_
    refine y_pti yk174 6 56 59 rfl rfl (by decide) rfl (mm_fo (v := cn i + cn 1)) ?_
    rw [cnsucc]
    refine y_go yk174 1 25 rfl ?_
    exact k1
theorem fol_best {n : Nat} (ht : n ≤ 512) (hR : ROW lg cl n) (hGW : ∀ i, i < n → rwG lg (plC lg Ps i) i ∧ g5_work (rwCl lg (plC lg Ps i) i).2) : ∀ (d i : Nat), i + d = n → Gr 0 (plC lg Ps i) → X 175 7 [rR 3 11 1, vI a, vI b] [] (mm P0 (plC lg Ps i) Q cl (cn n) kp (cn i) ou L xs e) = X 175 44 [rR 3 11 1, vI a, vI b] [] (mm P0 (plC lg Ps n) Q cl (cn n) kp (cn n) ou L xs e) ∧ Gr 0 (plC lg Ps n) := by
  intro d
  induction d with
  | zero =>
    intro i h1 hg
    have e9 : i = n := by omega
    subst e9
    refine ⟨?_, hg⟩
    refine y_icT yk175 4 15 44 rfl rfl rfl (show cmpI .ge (cn i) (cn i) = true by rw [cn_ge ht (Nat.le_refl _)]; exact decide_eq_true rfl) ?_
    rfl
  | succ d ih =>
    intro i h1 hg
    obtain ⟨G, W⟩ := hGW i (by omega)
    obtain ⟨⟨v, p1⟩, p2⟩ := row_play1 (P0 := P0) (Q := Q) (cl := cl) (tl := cn n) (kp := kp) (fo := cn i) (ou := ou) (L := L) (e := e) (xs := xs) ht hR (i := i) (by omega) hg G W
    obtain ⟨k1, k2⟩ := ih (i + 1) (by omega) p2
    refine ⟨?_, k2⟩
    refine y_icF yk175 4 15 18 rfl rfl rfl (by decide) (show cmpI .ge (cn i) (cn n) = false by rw [cn_ge ht (by omega)]; exact decide_eq_false (by omega)) ?_
    refine y_gfr yk175 2 20 23 5 1 1 rfl rfl rfl rfl rfl rfl (by decide) ?_
    refine y_cal yk175 3 30 rfl p1 ?_
    refine y_pti yk175 6 38 41 rfl rfl (by decide) rfl (mm_fo (v := cn i + cn 1)) ?_
    rw [cnsucc]
    refine y_go yk175 1 7 rfl ?_
    exact k1
theorem x_pos {n : Nat} (ht : n ≤ 512) (hR : ROW lg cl n) (hGW : ∀ i, i < n → rwG lg (plC lg Ps i) i ∧ g5_work (rwCl lg (plC lg Ps i) i).2) (hgn : g ≤ n) (hg : Gr 0 (plC lg Ps g)) (hE : plC lg Ps g = P1) : X 174 0 [rR 3 11 1, vI a, vI b] [] (mm P0 P1 Q cl (cn n) kp (cn g) ou L xs e) = evR (kPos a b) [0] (some (.inl (some (vI (v0_holds (plC lg Ps n) (v7_accountAt (plC lg Ps n) a) b))), mm P0 (plC lg Ps n) Q cl (cn n) kp (cn n) ou L xs e)) (mm P0 P1 Q cl (cn n) kp (cn g) ou L xs e) := by
  subst hE
  refine y_cal yk174 4 7 rfl x_isW ?_
  by_cases h1 : isW a (cn 0) (cn 8) = 0
  · have hk : kPos a b = 1 := by unfold kPos; rw [if_pos h1]
    refine y_ifT yk174 0 7 21 rfl rfl rfl (decide_eq_true h1) ?_
    exact y_thr yk174 2 25 rfl (x_np0 rfl) (by decide +kernel) nh174 (by rw [hk]; rfl)
  · refine y_ifF yk174 0 7 10 rfl rfl rfl (by decide) (decide_eq_false h1) ?_
    refine y_cal yk174 2 14 rfl x_isContract ?_
    by_cases h2 : isW b (cn 0) (cn 3) = 0
    · have hk : kPos a b = 1 := by unfold kPos; rw [if_neg h1, if_pos h2]
      refine y_ifT yk174 0 14 21 rfl rfl rfl (decide_eq_true h2) ?_
      exact y_thr yk174 2 25 rfl (x_np0 rfl) (by decide +kernel) nh174 (by rw [hk]; rfl)
    · have hk : kPos a b = 0 := by unfold kPos; rw [if_neg h1, if_neg h2]
      refine y_ifF yk174 0 14 17 rfl rfl rfl (by decide) (decide_eq_false h2) ?_
      refine y_ca0 yk174 3 25 rfl (x_np1 (by decide)) ?_
      obtain ⟨k1, k2⟩ := fol_pos (P0 := P0) (Q := Q) (kp := kp) (ou := ou) (L := L) (e := e) (xs := xs) (a := a) (b := b) ht hR hGW (n - g) g (by omega) hg
      refine k1.trans ?_
      refine y_gfr yk174 1 63 66 5 1 1 rfl rfl rfl rfl rfl rfl (by decide) ?_
      refine y_gfr yk174 0 66 69 7 1 1 rfl rfl rfl rfl rfl (k2.1 (5, 1, 1) (by decide)) (by decide) ?_
      have e1 := x_R (M := (mm P0 (plC lg Ps n) Q cl (cn n) kp (cn n) ou L xs e)) okx1 (fa8 _ h1).2 (t7_accountAt _ k2 a (fa8 _ h1).1)
      refine y_cal yk174 2 73 rfl e1 ?_
      have e1 := x_I' (M := (mm P0 (plC lg Ps n) Q cl (cn n) kp (cn n) ou L xs e)) okx1 (t0_holds _ k2 _ b (gholds _ h1 h2)) (by show vR _ _ _ :: _ = _; rw [vR_pos (fa8 _ h1).2]; try rfl)
      refine y_cal yk174 2 77 rfl e1 ?_
      exact y_ret yk174 1 rfl (by rw [hk]; rfl)
theorem x_best {V : Int32} {n : Nat} (ht : n ≤ 512) (hR : ROW lg cl n) (hGW : ∀ i, i < n → rwG lg (plC lg Ps i) i ∧ g5_work (rwCl lg (plC lg Ps i) i).2) (hgn : g ≤ n) (hg : Gr 0 (plC lg Ps g)) (hE : plC lg Ps g = P1) (HO : kBk a = 0 → g6_bestPrice (plC lg Ps n) (v6_bookAt (plC lg Ps n) a) b (cn 1)) (hV : v6_bestPrice (plC lg Ps n) (v6_bookAt (plC lg Ps n) a) b (cn 1) = V) : X 175 0 [rR 3 11 1, vI a, vI b] [] (mm P0 P1 Q cl (cn n) kp (cn g) ou L xs e) = evR (kBk a) [0] (some (.inl (some (vI V)), mm P0 (plC lg Ps n) Q cl (cn n) kp (cn n) ou L xs e)) (mm P0 P1 Q cl (cn n) kp (cn g) ou L xs e) := by
  subst hE
  refine y_cal yk175 2 4 rfl x_isBook ?_
  by_cases h1 : isW a (cn 0) (cn 5) = 0
  · have hk : kBk a = 1 := by unfold kBk; rw [if_pos h1]
    exact y_thr yk175 1 7 rfl (x_np0 h1) (by decide +kernel) nh175 (by rw [hk]; rfl)
  · have hk : kBk a = 0 := by unfold kBk; rw [if_neg h1]
    have HG := HO hk
    refine y_ca0 yk175 1 7 rfl (x_np1 h1) ?_
    obtain ⟨k1, k2⟩ := fol_best (P0 := P0) (Q := Q) (kp := kp) (ou := ou) (L := L) (e := e) (xs := xs) (a := a) (b := b) ht hR hGW (n - g) g (by omega) hg
    refine k1.trans ?_
    clear k1
    generalize plC lg Ps n = P9 at k2 HG hV ⊢
    refine y_gfr yk175 1 45 48 5 1 1 rfl rfl rfl rfl rfl rfl (by decide) ?_
    refine y_gfr yk175 0 48 51 6 1 1 rfl rfl rfl rfl rfl (k2.1 (5, 0, 1) (by decide)) (by decide) ?_
    refine y_gfr yk175 1 52 55 5 1 1 rfl rfl rfl rfl rfl rfl (by decide) ?_
    refine y_gfr yk175 0 55 58 6 1 1 rfl rfl rfl rfl rfl (k2.1 (5, 0, 1) (by decide)) (by decide) ?_
    have e1 := x_R (M := (mm P0 P9 Q cl (cn n) kp (cn n) ou L xs e)) okx1 (fb5 P9 h1).2 (t6_bookAt P9 k2 a (fb5 P9 h1).1)
    refine y_cal yk175 2 62 rfl e1 ?_
    have e2 := x_I' (M := (mm P0 P9 Q cl (cn n) kp (cn n) ou L xs e)) okx1 (t6_bestPrice P9 k2 (v6_bookAt P9 a) b (cn 1) HG) (by show _ :: vR _ _ _ :: _ = _; rw [vR_pos (fb5 P9 h1).2]; try rfl)
    rw [hV] at e2
    refine y_cal yk175 3 67 rfl e2 ?_
    exact y_ret yk175 1 rfl (by rw [hk]; rfl)
/-- the live one plays the kept rows again -/
theorem fol_live {n : Nat} {v : Int32} (ht : n ≤ 512) (hR : ROW lg cl n) (hGW : ∀ i, i < n → rwG lg (plC lg Ps i) i ∧ g5_work (rwCl lg (plC lg Ps i) i).2) : ∀ (d i : Nat), i + d = n → Gr 0 (plC lg Ps i) → X 172 27 [rR 3 11 1, vI v, vI (cn i)] [] (mm (plC lg Ps i) P1 Q cl (cn n) kp fo ou L xs e) = X 172 51 [rR 3 11 1, vI v, vI (cn n)] [] (mm (plC lg Ps n) P1 Q cl (cn n) kp fo ou L xs e) ∧ Gr 0 (plC lg Ps n) := by
  intro d
  induction d with
  | zero =>
    intro i h1 hg
    have e9 : i = n := by omega
    subst e9
    refine ⟨?_, hg⟩
    refine y_icT yk172 3 32 51 rfl rfl rfl (show cmpI .ge (cn i) (cn i) = true by rw [cn_ge ht (Nat.le_refl _)]; exact decide_eq_true rfl) ?_
    rfl
  | succ d ih =>
    intro i h1 hg
    obtain ⟨G, W⟩ := hGW i (by omega)
    obtain ⟨⟨w, p1⟩, p2⟩ := row_play0 (P1 := P1) (Q := Q) (cl := cl) (tl := cn n) (kp := kp) (fo := fo) (ou := ou) (L := L) (e := e) (xs := xs) ht hR (i := i) (by omega) hg G W
    obtain ⟨k1, k2⟩ := ih (i + 1) (by omega) p2
    refine ⟨?_, k2⟩
    refine y_icF yk172 3 32 35 rfl rfl rfl (by decide) (show cmpI .ge (cn i) (cn n) = false by rw [cn_ge ht (by omega)]; exact decide_eq_false (by omega)) ?_
    refine y_gfr yk172 2 37 40 5 1 0 rfl rfl rfl rfl rfl rfl (by decide) ?_
    refine y_cal yk172 2 44 rfl p1 ?_
    refine y_go yk172 3 27 (la' := [rR 3 11 1, vI v, vI (cn i + cn 1)]) rfl ?_
    rw [cnsucc]
    exact k1
theorem cn_le {g f : Nat} (hg : g ≤ 512) (hf : f ≤ 512) : cmpI .le (cn g) (cn f) = decide (g ≤ f) := by
  show decide (cn (g : Int) ≤ cn (f : Int)) = _
  rw [decide_eq_decide, ← Int32.not_lt, cnlt ⟨by omega, by omega⟩ ⟨by omega, by omega⟩]
  omega
theorem x_fo {n : Nat} (ht : n ≤ 512) (hf : f ≤ n) (hgn : g ≤ n) (hR : ROW lg cl f) (hg0 : Gr 0 P0) (hg1 : Gr 0 P1) (R0 : g5_restore P0) (R1 : g5_restore P1) (hGW : ∀ i, i < f → rwG lg (plC lg (v5_restore P0) i) i ∧ g5_work (rwCl lg (plC lg (v5_restore P0) i) i).2) : X 172 0 [rR 3 11 1, vJ, vJ] [] (mm P0 P1 Q cl (cn n) (cn f) (cn g) ou L xs e) = some (.inl (some (vI (cn n - cn f))), mm (plC lg (v5_restore P0) f) (if g ≤ f then P1 else v5_restore P1) Q cl (cn f) (cn f) (if g ≤ f then cn g else cn 0) ou L xs e) ∧ Gr 0 (plC lg (v5_restore P0) f) := by
  have t0 := t5_restore P0 hg0 R0
  have t1 := t5_restore P1 hg1 R1
  have z00 : cn ((0 : Nat) : Int) = cn 0 := rfl
  obtain ⟨k1, k2⟩ := fol_live (P1 := P1) (Q := Q) (kp := cn f) (fo := cn g) (ou := ou) (L := L) (e := e) (xs := xs) (v := cn n - cn f) (n := f) (by omega) hR hGW f 0 (by omega) (gr_V t0)
  rw [z00] at k1
  refine ⟨?_, k2⟩
  refine y_pti yk172 9 15 18 rfl rfl (by decide) rfl mm_tl ?_
  refine y_gfr yk172 1 19 22 5 1 0 rfl rfl rfl rfl rfl rfl (by decide) ?_
  have e1 := x_hV (M := (mm P0 P1 Q cl (cn f) (cn f) (cn g) ou L xs e)) okx0 t0 mm_0
  refine y_ca0 yk172 1 25 rfl e1 ?_
  refine y_go yk172 2 27 rfl ?_
  refine Eq.trans k1 ?_
  clear k1 e1
  generalize plC lg (v5_restore P0) f = P9
  by_cases hgf : g ≤ f
  · rw [if_pos hgf, if_pos hgf]
    refine y_icT yk172 4 59 74 rfl rfl rfl (show cmpI .le (cn g) (cn f) = true by rw [cn_le (by omega) (by omega)]; exact decide_eq_true hgf) ?_
    exact y_ret yk172 2 rfl rfl
  · rw [if_neg hgf, if_neg hgf]
    refine y_icF yk172 4 59 62 rfl rfl rfl (by decide) (show cmpI .le (cn g) (cn f) = false by rw [cn_le (by omega) (by omega)]; exact decide_eq_false hgf) ?_
    refine y_gfr yk172 1 63 66 5 1 1 rfl rfl rfl rfl rfl rfl (by decide) ?_
    have e1 := x_hV (M := (mm P9 P1 Q cl (cn f) (cn f) (cn g) ou L xs e)) okx1 t1 mm_1
    refine y_ca0 yk172 1 69 rfl e1 ?_
    refine y_pti yk172 2 71 74 rfl rfl (by decide) rfl mm_fo ?_
    exact y_ret yk172 2 rfl rfl
end Loops
