/-! the head of a row's play -/
section Play
variable {P0 P1 Q : PM} {cl : Nat → Int32} {tl kp fo : Int32} {ou : Int64} {L e : Nat} {xs : Nat → Int32} {a b c d x f : Int32}
theorem p_head {t y : Nat} (ht : t < 512) : X 201 0 [rR 3 11 1, rR y 5 1, vI (cn t), vJ, vJ, vJ, vJ, vJ, vJ, vJ, vJ] [] (mm P0 P1 Q cl tl kp fo ou L xs e) = X 201 97 [rR 3 11 1, rR y 5 1, vI (cn t), vI (cn t * cn 7), vI (cl (7 * t + 1)), vI (cl (7 * t + 2)), vI (cl (7 * t + 3)), vI (cl (7 * t + 4)), vI (cl (7 * t + 5)), vI (cl (7 * t + 6)), vI (cn 0)] [vI (cl (7 * t))] (mm P0 P1 Q cl tl kp fo ou L xs e) := by
  refine y_ifF yk201 5 6 9 rfl rfl rfl (by decide) (t_ge ht) ?_
  refine y_ifF yk201 1 10 13 rfl rfl rfl (by decide) (at_ge ht) ?_
  refine y_gfr yk201 4 18 21 13 1 3 rfl rfl rfl rfl rfl rfl (by decide) ?_
  refine y_len yk201 0 21 22 (cn 3584) rfl rfl rfl (by decide) len_e ?_
  refine y_icT yk201 0 22 27 rfl rfl rfl (at_le ht) ?_
  refine y_gfr yk201 1 28 31 13 1 3 rfl rfl rfl rfl rfl rfl (by decide) ?_
  refine y_ald yk201 3 34 35 (cl (7 * t + 1)) rfl rfl rfl (at_in (j := 1) ht (by decide)) (congrArg cl (at_k (j := 1) ht (by decide))) ?_
  refine y_gfr yk201 2 38 41 13 1 3 rfl rfl rfl rfl rfl rfl (by decide) ?_
  refine y_ald yk201 3 44 45 (cl (7 * t + 2)) rfl rfl rfl (at_in (j := 2) ht (by decide)) (congrArg cl (at_k (j := 2) ht (by decide))) ?_
  refine y_gfr yk201 2 48 51 13 1 3 rfl rfl rfl rfl rfl rfl (by decide) ?_
  refine y_ald yk201 3 54 55 (cl (7 * t + 3)) rfl rfl rfl (at_in (j := 3) ht (by decide)) (congrArg cl (at_k (j := 3) ht (by decide))) ?_
  refine y_gfr yk201 2 58 61 13 1 3 rfl rfl rfl rfl rfl rfl (by decide) ?_
  refine y_ald yk201 3 64 65 (cl (7 * t + 4)) rfl rfl rfl (at_in (j := 4) ht (by decide)) (congrArg cl (at_k (j := 4) ht (by decide))) ?_
  refine y_gfr yk201 2 68 71 13 1 3 rfl rfl rfl rfl rfl rfl (by decide) ?_
  refine y_ald yk201 3 74 75 (cl (7 * t + 5)) rfl rfl rfl (at_in (j := 5) ht (by decide)) (congrArg cl (at_k (j := 5) ht (by decide))) ?_
  refine y_gfr yk201 2 78 81 13 1 3 rfl rfl rfl rfl rfl rfl (by decide) ?_
  refine y_ald yk201 3 85 86 (cl (7 * t + 6)) rfl rfl rfl (at_in (j := 6) ht (by decide)) (congrArg cl (at_k (j := 6) ht (by decide))) ?_
  refine y_gfr yk201 4 92 95 13 1 3 rfl rfl rfl rfl rfl rfl (by decide) ?_
  refine y_ald yk201 1 96 97 (cl (7 * t)) rfl rfl rfl (at_in0 ht) (congrArg cl (at_k0 ht)) ?_
  rfl
end Play
