/-! the face's calls that are events -/
def Y199 : List YR := [(0, .aload_n 0, 1, 0, 0, 0, 0, 0), (1, .getfield 10, 3, 11, 0, 8, 0, 0), (4, .getfield 141, 3, 5, 1, 10, 0, 0), (7, .iload_n 1, 1, 0, 0, 0, 0, 0), (8, .invokevirtual 270, 3, 106, 2, 4, 7, 0), (11, .astore_n 2, 1, 0, 0, 0, 0, 0), (12, .aload_n 2, 1, 0, 0, 0, 0, 0), (13, .ifnonnull 14, 3, 0, 0, 0, 0, 0), (16, .new 95, 3, 0, 0, 0, 0, 0), (19, .dup, 1, 0, 0, 0, 0, 0), (20, .ldc_w 272, 3, 0, 0, 0, 0, 0), (23, .invokespecial 99, 3, 0, 0, 0, 0, 9), (26, .athrow, 1, 0, 0, 0, 0, 0), (27, .aload_n 2, 1, 0, 0, 0, 0, 0), (28, .areturn, 1, 0, 0, 0, 0, 0)]
set_option maxRecDepth 100000 in
theorem yr199 : Y199.all (rok3 199) = true := by decide +kernel
set_option maxRecDepth 100000 in
theorem yk199 : T3OK 199 Y199 := t3_ok (K := K199) rfl (fun h => d199 h) yr199
/-- an answer by its refusal: 0 the call's own, else what it throws -/
noncomputable def evR (code : Nat) (ex : List Nat) (A : Option (Out × Mem)) (M : Mem) : Option (Out × Mem) := match code with
  | 0 => A
  | c + 1 => some (.inr (ex.getD c 9), xc M)
/-- an event that was told -/
noncomputable def okO (P0 P1 Q : PM) (cl : Nat → Int32) (kp fo : Int32) (ou : Int64) (L : Nat) (xs : Nat → Int32) (e t k : Nat) (a b c d x f : Int32) : Option (Out × Mem) := some (.inl (some (vI (vE P0 a b c d x f k).1)), mm (v5_work (vE P0 a b c d x f k).2) P1 Q (clw cl t (cn ((k + 1 : Nat) : Int)) a b c d x f) (cn ((t + 1 : Nat) : Int)) kp fo ou L xs e)
section Prim4
variable {P0 P1 Q : PM} {cl : Nat → Int32} {tl kp fo : Int32} {ou : Int64} {L e : Nat} {xs : Nat → Int32} {a b c d x f v : Int32}
theorem clw_0 {t : Nat} : clw cl t v a b c d x f (7 * t) = v := if_pos rfl
theorem clw_1 {t : Nat} : clw cl t v a b c d x f (7 * t + 1) = a := by unfold clw; rw [if_neg (by omega), if_pos rfl]
theorem clw_2 {t : Nat} : clw cl t v a b c d x f (7 * t + 2) = b := by unfold clw; rw [if_neg (by omega), if_neg (by omega), if_pos rfl]
theorem clw_3 {t : Nat} : clw cl t v a b c d x f (7 * t + 3) = c := by unfold clw; rw [if_neg (by omega), if_neg (by omega), if_neg (by omega), if_pos rfl]
theorem clw_4 {t : Nat} : clw cl t v a b c d x f (7 * t + 4) = d := by unfold clw; rw [if_neg (by omega), if_neg (by omega), if_neg (by omega), if_neg (by omega), if_pos rfl]
theorem clw_5 {t : Nat} : clw cl t v a b c d x f (7 * t + 5) = x := by unfold clw; rw [if_neg (by omega), if_neg (by omega), if_neg (by omega), if_neg (by omega), if_neg (by omega), if_pos rfl]
theorem clw_6 {t : Nat} : clw cl t v a b c d x f (7 * t + 6) = f := by unfold clw; rw [if_neg (by omega), if_neg (by omega), if_neg (by omega), if_neg (by omega), if_neg (by omega), if_neg (by omega), if_pos rfl]
theorem x_play_c {k t : Nat} (hk : k < 27) (ht : t < 512) (hg : Gr 0 P0) (G : gE P0 a b c d x f k) (W : g5_work (vE P0 a b c d x f k).2) : X 201 0 [rR 3 11 1, rR 0 5 1, vI (cn t), vJ, vJ, vJ, vJ, vJ, vJ, vJ, vJ] [] (mm P0 P1 Q (clw cl t (cn ((k + 1 : Nat) : Int)) a b c d x f) tl kp fo ou L xs e) = some (.inl (some (vI (vE P0 a b c d x f k).1)), mm (v5_work (vE P0 a b c d x f k).2) P1 Q (clw cl t (cn ((k + 1 : Nat) : Int)) a b c d x f) tl kp fo ou L xs e) := (x_play0 hk ht clw_0 clw_1 clw_2 clw_3 clw_4 clw_5 clw_6 hg G W).1
theorem x_kept0 (hg : Gr 0 P0) (g : g7_find P0 v) (h : v7_find P0 v = 0) : X 199 0 [rR 3 11 1, vI v, vJ] [] (mm P0 P1 Q cl tl kp fo ou L xs e) = some (.inr 0, xc (mm P0 P1 Q cl tl kp fo ou L xs e)) := by
  refine y_gfr yk199 1 1 4 5 1 0 rfl rfl rfl rfl rfl rfl (by decide) ?_
  refine y_gfr yk199 0 4 7 7 1 0 rfl rfl rfl rfl rfl (hg.1 (5, 1, 1) (by decide)) (by decide) ?_
  have e1 := x_N (M := (mm P0 P1 Q cl tl kp fo ou L xs e)) okx0 h (t7_find P0 hg v g)
  refine y_cal yk199 2 11 rfl e1 ?_
  refine y_go yk199 3 16 rfl ?_
  exact y_ret yk199 1 rfl rfl
theorem x_kept1 (hg : Gr 0 P0) (g : g7_find P0 v) (h : ¬ v7_find P0 v = 0) : X 199 0 [rR 3 11 1, vI v, vJ] [] (mm P0 P1 Q cl tl kp fo ou L xs e) = some (.inl (some (rR 0 4 (v7_find P0 v))), mm P0 P1 Q cl tl kp fo ou L xs e) := by
  refine y_gfr yk199 1 1 4 5 1 0 rfl rfl rfl rfl rfl rfl (by decide) ?_
  refine y_gfr yk199 0 4 7 7 1 0 rfl rfl rfl rfl rfl (hg.1 (5, 1, 1) (by decide)) (by decide) ?_
  have e1 := x_R (M := (mm P0 P1 Q cl tl kp fo ou L xs e)) okx0 h (t7_find P0 hg v g)
  refine y_cal yk199 2 11 rfl e1 ?_
  refine y_go yk199 3 27 rfl ?_
  exact y_ret yk199 2 rfl rfl
end Prim4
