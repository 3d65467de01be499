/-! the face is made; where the law begins -/
theorem to_cMm {M : Mem} {x n L : Nat} {p : PM} (h : M.1 x = p) (h2 : M.2 = (n, L, 0)) : M = cMm x p n M.1 L := Prod.ext (funext fun y => by
  show M.1 y = (if y = x then p else M.1 y)
  by_cases hy : y = x
  · rw [if_pos hy, hy, h]
  · rw [if_neg hy]) h2
theorem toN {M : Mem} {x n L K i : Nat} {p : PM} (h : M.1 x = p) (h2 : M.2 = (n, L, 0)) : sN M x K i = cMm x (pN p K i) (n + 1) M.1 L := (congrArg (fun m => sN m x K i) (to_cMm h h2)).trans cMm_N
theorem hD31 : ∀ k, k < 60 → ∃ b, b < 6 ∧ e31.2.2 4 (k + 1) 0 = b + 1 := fun k hk => ⟨0, by decide, fin_d k hk⟩
theorem fr31 : FR (v5_restore e31) := fun lg Q hfl a1 a2 a3 a4 => (fresh (lg := lg) hfl fin_ck hD31 a4 a1 a2 a3).2
theorem h4006 : ¬ (fun _ => 0 : Nat → Int32) 4006 = cn 1 := by
  show ¬ (0 : Int32) = cn 1
  decide
theorem fresh0 : (g5_restore e31 ∧ g12_resets Zp) ∧ IV (fun _ => 0) (v5_restore e31) (v12_resets Zp) 0 0 0 0 := fresh h4006 fin_ck hD31 (fun k _ => Or.inl rfl) (fun j _ => rfl) rfl rfl
theorem inv0 : INV (v5_restore e31) (v5_restore e31) (v12_resets Zp) (fun _ => 0) 0 0 0 := by
  have g0 := gr_V (t5_restore e31 fin_gr fresh0.1.1)
  exact ⟨fun _ => 0, 0, 0, 0, fresh0.2, ⟨g0, g0, h4006⟩, ⟨rfl, rfl⟩, ⟨Nat.le_refl _, Nat.le_refl _, by decide⟩, fun i hi => absurd hi (by omega), ⟨_, fr31, rfl, fun i hi => absurd hi (by omega)⟩, ⟨_, fr31, rfl, fun i hi => absurd hi (by omega)⟩⟩
set_option maxRecDepth 100000 in
theorem al_s : (aE 0 = (3, 11, 1, nfK 11) ∧ aE 1 = (0, 5, 1, nfK 5)) ∧ (aE 156 = (1, 5, 1, nfK 5) ∧ aE 311 = (3, 13, 1, 3584)) ∧ aE 312 = (3, 14, 1, 1) := by decide +kernel
section Start
variable {L : Nat} {xs : Nat → Int32}
def MA (R : PM) (L : Nat) (xs : Nat → Int32) : Mem := sR (cMm 0 R 156 (sN (Mz L xs) 3 11 1).1 L) 3 11 1 0 1
def MB2 (R : PM) (L : Nat) (xs : Nat → Int32) : Mem := sR (cMm 1 R 311 (MA R L xs).1 L) 3 11 1 1 1
def MO (R : PM) (L : Nat) (xs : Nat → Int32) : Mem := sR (sN (MB2 R L xs) 3 13 1) 3 11 1 2 1
theorem x_ob : X 150 0 [rR 3 11 1] [] (sN (Mz L xs) 3 11 1) = some (.inl none, MO (v5_restore e31) L xs) := by
  refine y_new yk150 3 5 8 (K := 5) rfl rfl (by decide +kernel) (by decide) al_s.1.2 (by omega) rfl rfl (toN (p := Zp) rfl rfl) ?_
  have e0 := x_exc_0 (B := (sN (Mz L xs) 3 11 1).1) (L := L) fresh0.1.1
  refine y_ca0 yk150 2 12 rfl e0 ?_
  refine y_ptr yk150 0 12 15 5 rfl rfl rfl (by decide) rfl rfl (rfl : _ = MA (v5_restore e31) L xs) ?_
  refine y_new yk150 1 16 19 (K := 5) rfl rfl (by decide +kernel) (by decide) al_s.2.1.1 (by omega) rfl rfl (toN (p := Zp) rfl rfl) ?_
  have e1 := x_exc_1 (B := (MA (v5_restore e31) L xs).1) (L := L) fresh0.1.1
  refine y_ca0 yk150 2 23 rfl e1 ?_
  refine y_ptr yk150 0 23 26 5 rfl rfl rfl (by decide) rfl rfl (rfl : _ = MB2 (v5_restore e31) L xs) ?_
  refine y_nar yk150 2 30 32 (K := 13) (m := 3584) rfl rfl rfl (fun _ => rfl) (by decide) (by decide) al_s.2.1.2 (by omega) rfl rfl rfl ?_
  refine y_ptr yk150 0 32 35 13 rfl rfl rfl (by decide) rfl rfl (rfl : _ = MO (v5_restore e31) L xs) ?_
  exact y_rtv yk150 1 rfl
theorem ff_start (R : PM) : (sN (MO R L xs) 3 14 1).1 3 = FF (fun _ => 0) (cn 0) (cn 0) (cn 0) 0 := by
  refine Prod.ext (funext fun k => funext fun i => funext fun s => ?_) (Prod.ext (funext fun k => funext fun i => funext fun s => ?_) (funext fun k => funext fun i => funext fun s => ?_))
  · show z2 (z2 (z2 (fun k i s => if (3 = 4 ∧ k = 13 ∧ i = 1) then xs s else 0) 11 1 0) 13 1 0) 14 1 0 k i s = (FF (fun _ => 0) (cn 0) (cn 0) (cn 0) 0).1 k i s
    unfold z2 FF
    dsimp only
    repeat' split
    all_goals first | rfl | omega
  · show z2 (z2 (z2 (fun _ _ _ => 0) 11 1 0) 13 1 0) 14 1 0 k i s = (FF (fun _ => 0) (cn 0) (cn 0) (cn 0) 0).2.1 k i s
    unfold z2 FF
    dsimp only
    repeat' split
    all_goals first | rfl | omega
  · show z2 (u3 (z2 (u3 (u3 (z2 (fun _ _ _ => 0) 11 1 0) 11 1 0 1) 11 1 1 1) 13 1 0) 11 1 2 1) 14 1 0 k i s = (FF (fun _ => 0) (cn 0) (cn 0) (cn 0) 0).2.2 k i s
    unfold z2 u3 FF
    dsimp only
    repeat' split
    all_goals first | rfl | omega
theorem mm_start (R : PM) : sN (MO R L xs) 3 14 1 = mm R R Zp (fun _ => 0) (cn 0) (cn 0) (cn 0) 0 L xs 0 := mem_eq rfl rfl rfl (ff_start R) (fun n => rfl)
theorem law_start : X 234 0 [rR 4 13 1, vJ, vJ, vJ, vJ, vJ, vJ, vJ] [] (Mz L xs) = X 234 14 [rR 4 13 1, rR 3 11 1, rR 3 14 1, vI (cn 1), vJ, vJ, vJ, vJ] [] (mm (v5_restore e31) (v5_restore e31) Zp (fun _ => 0) (cn 0) (cn 0) (cn 0) 0 L xs 0) := by
  refine y_new yk234 0 0 3 (K := 11) rfl rfl (by decide +kernel) (by decide) al_s.1.1 (by omega) rfl rfl rfl ?_
  refine y_ca0 yk234 2 7 rfl x_ob ?_
  refine y_nar yk234 2 9 11 (K := 14) (m := 1) rfl rfl rfl (fun _ => rfl) (by decide) (by decide) al_s.2.2 (by omega) rfl rfl (mm_start (v5_restore e31)) ?_
  exact y_go yk234 3 14 rfl rfl
end Start
