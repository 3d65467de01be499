/-! the walk of isByLog: what stands and what the log gives are the same -/
section ByLog
variable {M M1 M2 : Mem} {p q : Int32} {x : Nat}
theorem bl_walk (hx : x ≤ 7000) (h174 : X 174 0 [rR 3 11 1, vI (cn ((x % 9 : Nat) : Int)), vI (cn ((x / 9 % 4 : Nat) : Int))] [] M = some (.inl (some (vI p)), M1)) (h186 : X 186 0 [rR 3 11 1, vI (cn ((x % 9 : Nat) : Int)), vI (cn ((x / 9 % 4 : Nat) : Int))] [] M1 = some (.inl (some (vI p)), M1)) (h175 : X 175 0 [rR 3 11 1, vI (cn ((x / 36 % 6 : Nat) : Int)), vI (if x % 2 = 0 then cn 1 else cn 0)] [] M1 = some (.inl (some (vI q)), M2)) (h176 : X 176 0 [rR 3 11 1, vI (cn ((x / 36 % 6 : Nat) : Int)), vI (if x % 2 = 0 then cn 1 else cn 0)] [] M2 = some (.inl (some (vI q)), M2)) : X 232 0 [rR 3 11 1, vI (cn x)] [] M = some (.inl (some (vI (cn 1))), M2) := by
  refine y_rm yk232 3 4 5 (cn ((x % 9 : Nat) : Int)) rfl rfl (by decide) rfl (rm_n (b := 9) (by omega) (by decide) (by decide)) ?_
  refine y_dv yk232 2 8 9 (cn ((x / 9 : Nat) : Int)) rfl rfl (by decide) rfl (dv_n (b := 9) (by omega) (by decide) (by decide)) ?_
  refine y_rm yk232 1 10 11 (cn ((x / 9 % 4 : Nat) : Int)) rfl rfl (by decide) rfl (rm_n (b := 4) (by omega) (by decide) (by decide)) ?_
  refine y_cal yk232 1 14 rfl h174 ?_
  refine y_rm yk232 3 18 19 (cn ((x % 9 : Nat) : Int)) rfl rfl (by decide) rfl (rm_n (b := 9) (by omega) (by decide) (by decide)) ?_
  refine y_dv yk232 2 22 23 (cn ((x / 9 : Nat) : Int)) rfl rfl (by decide) rfl (dv_n (b := 9) (by omega) (by decide) (by decide)) ?_
  refine y_rm yk232 1 24 25 (cn ((x / 9 % 4 : Nat) : Int)) rfl rfl (by decide) rfl (rm_n (b := 4) (by omega) (by decide) (by decide)) ?_
  refine y_cal yk232 1 28 rfl h186 ?_
  refine y_icF yk232 0 28 31 rfl rfl rfl (by decide) (decide_eq_false fun h => h rfl) ?_
  rcases Nat.mod_two_eq_zero_or_one x with e | e
  · rw [if_pos e] at h175 h176
    refine y_dv yk232 3 35 36 (cn ((x / 36 : Nat) : Int)) rfl rfl (by decide) rfl (dv_n (b := 36) (by omega) (by decide) (by decide)) ?_
    refine y_rm yk232 1 38 39 (cn ((x / 36 % 6 : Nat) : Int)) rfl rfl (by decide) rfl (rm_n (b := 6) (by omega) (by decide) (by decide)) ?_
    refine y_rm yk232 2 41 42 (cn ((x % 2 : Nat) : Int)) rfl rfl (by decide) rfl (rm_n (b := 2) (by omega) (by decide) (by decide)) ?_
    refine y_ifF yk232 0 42 45 rfl rfl rfl (by decide) (by rw [e]; decide) ?_
    refine y_cal yk232 3 53 rfl h175 ?_
    refine y_dv yk232 3 57 58 (cn ((x / 36 : Nat) : Int)) rfl rfl (by decide) rfl (dv_n (b := 36) (by omega) (by decide) (by decide)) ?_
    refine y_rm yk232 1 60 61 (cn ((x / 36 % 6 : Nat) : Int)) rfl rfl (by decide) rfl (rm_n (b := 6) (by omega) (by decide) (by decide)) ?_
    refine y_rm yk232 2 63 64 (cn ((x % 2 : Nat) : Int)) rfl rfl (by decide) rfl (rm_n (b := 2) (by omega) (by decide) (by decide)) ?_
    refine y_ifF yk232 0 64 67 rfl rfl rfl (by decide) (by rw [e]; decide) ?_
    refine y_cal yk232 3 75 rfl h176 ?_
    refine y_icF yk232 0 75 78 rfl rfl rfl (by decide) (decide_eq_false fun h => h rfl) ?_
    exact y_ret yk232 3 rfl rfl
  · rw [if_neg (show ¬ x % 2 = 0 by omega)] at h175 h176
    refine y_dv yk232 3 35 36 (cn ((x / 36 : Nat) : Int)) rfl rfl (by decide) rfl (dv_n (b := 36) (by omega) (by decide) (by decide)) ?_
    refine y_rm yk232 1 38 39 (cn ((x / 36 % 6 : Nat) : Int)) rfl rfl (by decide) rfl (rm_n (b := 6) (by omega) (by decide) (by decide)) ?_
    refine y_rm yk232 2 41 42 (cn ((x % 2 : Nat) : Int)) rfl rfl (by decide) rfl (rm_n (b := 2) (by omega) (by decide) (by decide)) ?_
    refine y_ifT yk232 0 42 49 rfl rfl rfl (by rw [e]; decide) ?_
    refine y_cal yk232 2 53 rfl h175 ?_
    refine y_dv yk232 3 57 58 (cn ((x / 36 : Nat) : Int)) rfl rfl (by decide) rfl (dv_n (b := 36) (by omega) (by decide) (by decide)) ?_
    refine y_rm yk232 1 60 61 (cn ((x / 36 % 6 : Nat) : Int)) rfl rfl (by decide) rfl (rm_n (b := 6) (by omega) (by decide) (by decide)) ?_
    refine y_rm yk232 2 63 64 (cn ((x % 2 : Nat) : Int)) rfl rfl (by decide) rfl (rm_n (b := 2) (by omega) (by decide) (by decide)) ?_
    refine y_ifT yk232 0 64 71 rfl rfl rfl (by rw [e]; decide) ?_
    refine y_cal yk232 2 75 rfl h176 ?_
    refine y_icF yk232 0 75 78 rfl rfl rfl (by decide) (decide_eq_false fun h => h rfl) ?_
    exact y_ret yk232 3 rfl rfl
end ByLog
