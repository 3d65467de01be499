/-! the face is made; where the law begins -/
theorem to_cMm {M : Mem} {x n L : Nat} {p : PM} (h : M.1 x = p) (h2 : M.2 = (n, L, 0)) : M = cMm x p n M.1 L := Prod.ext (funext fun y => by
  show M.1 y = (if y = x then p else M.1 y)
  by_cases hy : y = x
  · rw [if_pos hy, hy, h]
  · rw [if_neg hy]) h2
theorem toN {M : Mem} {x n L K i : Nat} {p : PM} (h : M.1 x = p) (h2 : M.2 = (n, L, 0)) : sN M x K i = cMm x (pN p K i) (n + 1) M.1 L := (congrArg (fun m => sN m x K i) (to_cMm h h2)).trans cMm_N
theorem hD31 : ∀ k, k < 60 → ∃ b, b < 6 ∧ e31.2.2 4 (k + 1) 0 = b + 1 := fun k hk => ⟨0, by decide, fin_d k hk⟩
theorem fr31 : FR (v5_restore e31) := fun lg Q a1 a2 a3 a4 => (fresh (lg := lg) fin_ck hD31 a4 a1 a2 a3).2
theorem md_15 : ∀ k, k < 60 → b01 (md11.1 15 8 k) := fun k _ => Or.inl rfl
theorem md_40 : ∀ j, j < 4000 → md11.1 13 40 j = (fun _ => 0 : Nat → Int32) j := fun j _ => rfl
theorem fresh0 : (g5_restore e31 ∧ g12_resets md11) ∧ IV (fun _ => 0) (v5_restore e31) (v12_resets md11) 0 0 0 0 := fresh fin_ck hD31 md_15 md_40 rfl rfl
theorem inv0 : INV (v5_restore e31) (v5_restore e31) (v12_resets md11) (fun _ => 0) 0 0 0 := by
  have g0 := gr_V (t5_restore e31 fin_gr fresh0.1.1)
  have g2 := gr_V (t12_resets md11 md_gr fresh0.1.2)
  exact ⟨fun _ => 0, 0, 0, 0, fresh0.2, ⟨g0, g0, g2⟩, ⟨rfl, rfl⟩, ⟨Nat.le_refl _, Nat.le_refl _, by decide⟩, fun i hi => absurd hi (by omega), ⟨_, fr31, rfl, fun i hi => absurd hi (by omega)⟩, ⟨_, fr31, rfl, fun i hi => absurd hi (by omega)⟩⟩
set_option maxRecDepth 100000 in
theorem al_s : (aE 0 = (3, 11, 1, nfK 11) ∧ aE 1 = (0, 5, 1, nfK 5)) ∧ (aE 156 = (1, 5, 1, nfK 5) ∧ aE 311 = (3, 13, 1, 3584)) ∧ aE 312 = (2, 12, 1, nfK 12) ∧ aE 368 = (3, 14, 1, 1) := by decide +kernel
section Start
variable {L : Nat} {xs : Nat → Int32}
def MA (R : PM) (L : Nat) (xs : Nat → Int32) : Mem := sR (cMm 0 R 156 (sN (Mz L xs) 3 11 1).1 L) 3 11 1 0 1
def MB2 (R : PM) (L : Nat) (xs : Nat → Int32) : Mem := sR (cMm 1 R 311 (MA R L xs).1 L) 3 11 1 1 1
def MO (R : PM) (L : Nat) (xs : Nat → Int32) : Mem := sR (sN (MB2 R L xs) 3 13 1) 3 11 1 2 1
theorem x_ob : X 152 0 [rR 3 11 1] [] (sN (Mz L xs) 3 11 1) = some (.inl none, MO (v5_restore e31) L xs) := by
  refine y_new yk152 3 5 8 (K := 5) rfl rfl (by decide +kernel) (by decide) al_s.1.2 (by omega) rfl rfl (toN (p := Zp) rfl rfl) ?_
  have e0 := x_exc_0 (B := (sN (Mz L xs) 3 11 1).1) (L := L) fresh0.1.1
  refine y_ca0 yk152 2 12 rfl e0 ?_
  refine y_ptr yk152 0 12 15 5 rfl rfl rfl (by decide) rfl rfl (rfl : _ = MA (v5_restore e31) L xs) ?_
  refine y_new yk152 1 16 19 (K := 5) rfl rfl (by decide +kernel) (by decide) al_s.2.1.1 (by omega) rfl rfl (toN (p := Zp) rfl rfl) ?_
  have e1 := x_exc_1 (B := (MA (v5_restore e31) L xs).1) (L := L) fresh0.1.1
  refine y_ca0 yk152 2 23 rfl e1 ?_
  refine y_ptr yk152 0 23 26 5 rfl rfl rfl (by decide) rfl rfl (rfl : _ = MB2 (v5_restore e31) L xs) ?_
  refine y_nar yk152 2 30 32 (K := 13) (m := 3584) rfl rfl rfl (fun _ => rfl) (by decide) (by decide) al_s.2.1.2 (by omega) rfl rfl rfl ?_
  refine y_ptr yk152 0 32 35 13 rfl rfl rfl (by decide) rfl rfl (rfl : _ = MO (v5_restore e31) L xs) ?_
  exact y_rtv yk152 1 rfl
theorem ff_start (R q : PM) : (sN (cMm 2 q 368 (MO R L xs).1 L) 3 14 1).1 3 = FF (fun _ => 0) (cn 0) (cn 0) (cn 0) 0 := by
  refine Prod.ext (funext fun k => funext fun i => funext fun s => ?_) (Prod.ext (funext fun k => funext fun i => funext fun s => ?_) (funext fun k => funext fun i => funext fun s => ?_))
  · show z2 (z2 (z2 (fun k i s => if (3 = 4 ∧ k = 13 ∧ i = 1) then xs s else 0) 11 1 0) 13 1 0) 14 1 0 k i s = (FF (fun _ => 0) (cn 0) (cn 0) (cn 0) 0).1 k i s
    unfold z2 FF
    dsimp only
    repeat' split
    all_goals first | rfl | omega
  · show z2 (z2 (z2 (fun _ _ _ => 0) 11 1 0) 13 1 0) 14 1 0 k i s = (FF (fun _ => 0) (cn 0) (cn 0) (cn 0) 0).2.1 k i s
    unfold z2 FF
    dsimp only
    repeat' split
    all_goals first | rfl | omega
  · show z2 (u3 (z2 (u3 (u3 (z2 (fun _ _ _ => 0) 11 1 0) 11 1 0 1) 11 1 1 1) 13 1 0) 11 1 2 1) 14 1 0 k i s = (FF (fun _ => 0) (cn 0) (cn 0) (cn 0) 0).2.2 k i s
    unfold z2 u3 FF
    dsimp only
    repeat' split
    all_goals first | rfl | omega
theorem mm_start (R q : PM) : sN (cMm 2 q 368 (MO R L xs).1 L) 3 14 1 = mm R R q (fun _ => 0) (cn 0) (cn 0) (cn 0) 0 L xs 0 := mem_eq rfl rfl rfl (ff_start R q) (fun n => rfl)
theorem law_start : X 420 0 [rR 4 13 1, vJ, vJ, vJ, vJ, vJ, vJ, vJ] [] (Mz L xs) = X 420 23 [rR 4 13 1, rR 3 11 1, rR 2 12 1, rR 3 14 1, vI (cn 0), vJ, vJ, vJ] [] (mm (v5_restore e31) (v5_restore e31) (v12_resets md11) (fun _ => 0) (cn 0) (cn 0) (cn 0) 0 L xs 0) := by
  refine y_new zk99 0 0 3 (K := 11) rfl rfl (by decide +kernel) (by decide) al_s.1.1 (by omega) rfl rfl rfl ?_
  refine y_ca0 zk99 2 7 rfl x_ob ?_
  refine y_new zk99 1 8 11 (K := 12) rfl rfl (by decide +kernel) (by decide) al_s.2.2.1 (by omega) rfl rfl (toN (p := Zp) rfl rfl) ?_
  have e0 := x_mod (B := (MO (v5_restore e31) L xs).1) (L := L) fresh0.1.2
  refine y_ca0 zk99 2 15 rfl e0 ?_
  refine y_nar zk99 2 17 19 (K := 14) (m := 1) rfl rfl rfl (fun _ => rfl) (by decide) (by decide) al_s.2.2.2 (by omega) rfl rfl (mm_start (v5_restore e31) (v12_resets md11)) ?_
  exact y_go zk99 3 23 rfl rfl
end Start
set_option maxRecDepth 100000 in
theorem sl_369 : SL 369 = 12130 := by decide +kernel
theorem law_X : LawX := by
  intro L xs hL
  have e : entr 420 [vR 4 13 1] = [rR 4 13 1, vJ, vJ, vJ, vJ, vJ, vJ, vJ] := by
    unfold entr
    rw [law_row.2.1]
    rfl
  rw [e, law_start]
  have z00 : cn ((0 : Nat) : Int) = cn 0 := rfl
  obtain ⟨M', h1, h2, h3, h4⟩ := lw_all (L := L) (xs := xs) hL (L / 7) 0 0 0 0 0 _ _ _ _ 0 vJ vJ vJ inv0 (by omega) (by omega) (by omega) (by omega)
  rw [z00] at h1
  refine ⟨M', h1, ?_, ?_⟩
  · unfold cu
    omega
  · unfold su
    rw [h2, sl_369]
    omega
