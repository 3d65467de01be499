/-! what a member is asked for: never less than nothing, and no more than what it lacks -/
section MemW
variable {p q : PM} {m : Nat}
theorem call_c {C U B c1 c2 : Int} (hm : m < 4) (H : MgR p q) (C0 : 0 ≤ C) (C1 : C ≤ 100000000) (u1 : 0 ≤ U) (u2 : U ≤ 100000) (hM : ∀ s c, s < 4 → c < 4 → -99 ≤ mvI q s c ∧ mvI q s c ≤ 99) (hla : ∀ c, c < 4 → -9999 ≤ laI q c ∧ laI q c ≤ 9999) (l1 : 0 ≤ laI q 1) (hB : ∀ s, s < 4 → -(U * mvI q s 1) - sa (fun j => Zn q m j * mvI q s j) 0 4 ≤ B) (hB1 : 0 ≤ B) (hB2 : B ≤ 1000000000000) (hc1 : q.2.1 14 1 (2 * m) = cl c1) (hc2 : q.2.1 14 1 (2 * m + 1) = cl c2) (r1 : -1000000000000000000 ≤ c1 ∧ c1 ≤ 1000000000000000000) (r2 : -1000000000000000000 ≤ c2 ∧ c2 ≤ 1000000000000000000) : ∃ R V k : Int, v2_riskOf p (cn m) (cn U) = cl R ∧ v2_valueOf p (cn m) = cl V ∧ v2_callOf p (cn m) (cn C) (cn U) = cl k ∧ 0 ≤ R ∧ rl R ∧ rl (R - V) ∧ 0 ≤ k ∧ rl k ∧ (k = 0 ∨ k ≤ R - V) := by
  obtain ⟨F, hF, hF2⟩ : ∃ F, FU = F ∧ 100 < F := ⟨FU, rfl, by decide⟩
  have z0 : cn ((0 : Nat) : Int) = cn 0 := rfl
  obtain ⟨-, e⟩ := call_eq H hm (cn C) (cn U)
  obtain ⟨h, h1, h2, h3, h4⟩ := H.2.2.2
  obtain ⟨Q, hQ⟩ : ∃ Q, pI q 13 37 m (cn U) = Q := ⟨_, rfl⟩
  have q1 : ∀ K, ¬ K = 37 → Q.1 13 K = q.1 13 K := fun K h => by
    rw [← hQ]
    funext i
    rw [pI_1, u3_i h]
  have qZ : ∀ j, Zn Q m j = Zn q m j := fun j => by
    unfold Zn
    rw [q1 1 (by decide)]
  have qM : ∀ s c, mvI Q s c = mvI q s c := fun s c => by
    unfold mvI
    rw [q1 35 (by decide)]
  have qL : ∀ c, laI Q c = laI q c := fun c => by
    unfold laI
    rw [q1 10 (by decide)]
  have q37 : Q.1 13 37 m = cn U := by rw [← hQ, pI_at]
  have qJ : Q.2.1 = q.2.1 := by rw [← hQ, pI_J]
  obtain ⟨R, k1, k2, k3⟩ := cb_5 (q := Q) (U := U) (B := B) hm q37 u1 u2 (fun s c hs hc => by rw [qM]; exact hM s c hs hc) (fun s hs => by simp only [qM, qZ]; exact hB s hs) hB2 4 0 F 0 rfl (by omega) (by omega) hB1
  have k4 := cb_worth (q := Q) hm 4 0 F 0 rfl (by omega)
  simp only [qZ, qL] at k3 k4
  have eR : v12_risk Q (cn m) = cl R := by
    unfold v12_risk bv12_risk
    rw [hF]
    exact k1
  have eW : v12_worth Q (cn m) = cl (0 + sa (fun j => Zn q m j * laI q j) 0 4) := by
    unfold v12_worth bv12_worth
    rw [hF]
    exact k4
  obtain ⟨V, hV⟩ : ∃ V, V = c1 + c2 + sa (fun j => Zn q m j * laI q j) 0 4 := ⟨_, rfl⟩
  have eV : v12_value Q (cn m) = cl V := by
    unfold v12_value bv12_value
    simp only [two_m, cnsucc, cntk (i := 2 * m) (by omega), cntk (i := 2 * m + 1) (by omega), eW, qJ, hc1, hc2, cladd]
    exact congrArg cl (by rw [hV, Int.zero_add])
  have e10 : Q.1 13 10 1 = cn (laI q 1) := by
    rw [q1 10 (by decide)]
    exact cn_of _
  obtain ⟨y1, y2⟩ := hla 1 (by decide)
  have b1 := mul_bd (n := U) (m := laI q 1) (A := 100000) (B := 9999) (by omega) (by omega) (by omega) (by omega)
  have b2 := mul_bd (n := U * laI q 1) (m := 100 - h) (A := 100000 * 9999) (B := 100) (by omega) (by omega) (by omega) (by omega)
  have b3 : 0 ≤ U * laI q 1 * (100 - h) := Int.mul_nonneg (Int.mul_nonneg u1 l1) (by omega)
  have e50 : Q.1 12 1 50 = cn h := by
    rw [← hQ, pI_1, u3_k (by decide)]
    exact h4
  obtain ⟨A, hA⟩ : ∃ A, U * laI q 1 * (100 - h) = A := ⟨_, rfl⟩
  rw [hA] at b2 b3
  obtain ⟨-, f2⟩ := fl_e Q (A := A) (B := 100) ⟨by omega, by omega⟩ (by decide) (by decide)
  obtain ⟨Y, hY⟩ : ∃ Y, A / 100 = Y := ⟨_, rfl⟩
  have hY0 : 0 ≤ Y ∧ Y ≤ 1000000000 := by omega
  rw [hY] at f2
  have ep : cl U * (cn (laI q 1)).toInt64 * (cn 100 - cn h).toInt64 = cl A := by
    rw [cn64 (a := laI q 1) ⟨by omega, by omega⟩, cnsub, cn64 (a := 100 - h) ⟨by omega, by omega⟩, clmul, clmul, hA]
  have bz : ∀ j, j < 4 → -50000000000000 ≤ Zn q m j * laI q j ∧ Zn q m j * laI q j ≤ 50000000000000 ∧ ab (Zn q m j) ≤ 4294967296 := fun j hj => by
    obtain ⟨-, z1, z2⟩ := zn_e (q := q) hm hj
    obtain ⟨w1, w2⟩ := hla j hj
    have b := mul_bd (n := Zn q m j) (m := laI q j) (A := 4294967296) (B := 9999) (by omega) (by omega) (by omega) (by omega)
    unfold ab
    omega
  have s1 : sa (fun j => Zn q m j * laI q j) 0 4 = Zn q m 0 * laI q 0 + (Zn q m 1 * laI q 1 + (Zn q m 2 * laI q 2 + (Zn q m 3 * laI q 3 + 0))) := rfl
  have s2 : sa (fun j => ab (Zn q m j)) 0 4 = ab (Zn q m 0) + (ab (Zn q m 1) + (ab (Zn q m 2) + (ab (Zn q m 3) + 0))) := rfl
  have t0 := bz 0 (by decide)
  have t1 := bz 1 (by decide)
  have t2 := bz 2 (by decide)
  have t3 := bz 3 (by decide)
  have hx : (cl 0 < cl (R - V - C - Y)) = (0 < R - V - C - Y) := cllt (by decide) ⟨by omega, by omega⟩
  have eU : (cl U).toInt32 = cn U := cl32 U
  have eQ : (v12_call q (cn m) (cn C).toInt64 (cn U).toInt64).1 = cl (if 0 < R - V - C - Y then R - V - C - Y else 0) := by
    rw [cn64 (a := C) ⟨by omega, by omega⟩, cn64 (a := U) ⟨by omega, by omega⟩]
    unfold v12_call bv12_call
    simp only [eU, cntk (i := m) (by omega), hQ, eR, eV, e10, e50, ep, f2, clsub, lg_lt0, hx]
    split <;> rfl
  rw [e] at eQ
  dsimp only at eQ
  have H2 := mg_37 (m := m) (U := cn U) H
  obtain ⟨-, eR2⟩ := risk_eq (U := cn U) H2 hm pI_at
  obtain ⟨-, eV2⟩ := value_eq H2 hm
  rw [hQ] at eR2 eV2
  refine ⟨R, V, if 0 < R - V - C - Y then R - V - C - Y else 0, eR2.trans eR, eV2.trans eV, eQ, k2, ⟨by omega, by omega⟩, ⟨by omega, by omega⟩, ?_⟩
  by_cases hh : 0 < R - V - C - Y
  · rw [if_pos hh]
    exact ⟨by omega, ⟨by omega, by omega⟩, Or.inr (by omega)⟩
  · rw [if_neg hh]
    exact ⟨by omega, ⟨by omega, by omega⟩, Or.inl rfl⟩
theorem tl_0 (hm : m < 4) : v2_tell p (cn m) (cn 0) = v2_riskOf p (cn m) (p.1 9 (m + 1) 1) := by
  unfold v2_tell bv2_tell
  simp only [member_e p hm, if_true]
theorem tl_1 (hm : m < 4) : v2_tell p (cn m) (cn 1) = v2_valueOf p (cn m) := by
  unfold v2_tell bv2_tell
  simp only [if_neg (show ¬ cn 1 = (0 : Int32) by decide), if_neg (show ¬ cn 1 = cn 0 by decide), if_true]
theorem tl_2 (hm : m < 4) : v2_tell p (cn m) (cn 2) = v2_callOf p (cn m) (p.1 9 (m + 1) 0) (p.1 9 (m + 1) 1) := by
  unfold v2_tell bv2_tell
  simp only [member_e p hm, if_neg (show ¬ cn 2 = (0 : Int32) by decide), if_neg (show ¬ cn 2 = cn 0 by decide), if_neg (show ¬ cn 2 = cn 1 by decide), if_true]
theorem tl_6 (hm : m < 4) : v2_tell p (cn m) (cn 6) = if p.1 9 (m + 1) 3 = 0 then cl 0 else cl 1 := by
  unfold v2_tell bv2_tell
  simp only [member_e p hm, if_neg (show ¬ cn 6 = (0 : Int32) by decide), if_neg (show ¬ cn 6 = cn 0 by decide), if_neg (show ¬ cn 6 = cn 1 by decide), if_neg (show ¬ cn 6 = cn 2 by decide), if_neg (show ¬ cn 6 = cn 3 by decide), if_neg (show ¬ cn 6 = cn 4 by decide), if_neg (show ¬ cn 6 = cn 5 by decide)]
theorem mb_all {lg : Nat → Int32} {N T D e : Nat} (I : IV lg p q N T D e) (he : e ≤ 600) (hm : m < 4) : ∃ R V k : Int, v2_tell p (cn m) (cn 0) = cl R ∧ v2_tell p (cn m) (cn 1) = cl V ∧ v2_tell p (cn m) (cn 2) = cl k ∧ 0 ≤ R ∧ rl R ∧ rl (R - V) ∧ 0 ≤ k ∧ rl k ∧ (k = 0 ∨ k ≤ R - V) := by
  have W := I.1
  have hOT := W.2.2.2.2.2.1
  have hps := ps_ww W (by omega) (by
    have h1 := I.2.2.2.2.2
    have h2 := (RS_rng W.1.1 40 (by decide)).1
    omega)
  have hcs := hOT.2.2.2.2.2.2.2.2.2.2.2.2.1
  rw [lgB_3 (by omega), W.2.2.2.1.2.2.1, cn_I ⟨by omega, by
    have h1 := I.2.2.2.2.2
    have h2 := (RS_rng W.1.1 40 (by decide)).1
    omega⟩] at hcs
  have hD : (D : Int) ≤ 1000000 := by
    have h1 := I.2.2.2.2.2
    have h2 := (RS_rng W.1.1 40 (by decide)).1
    omega
  have k1 := csF_one (f := q.2.1 14 1) (a := 2 * m) 9 (by omega)
  have k2 := csF_one (f := q.2.1 14 1) (a := 2 * m + 1) 9 (by omega)
  obtain ⟨⟨z, z0, z1, z2, z3⟩, ⟨y, y0, y1, y2, y3⟩, -⟩ := hOT.1 m hm
  have hmv : ∀ s c, s < 4 → c < 4 → -99 ≤ mvI q s c ∧ mvI q s c ≤ 99 := fun s c hs hc => by
    obtain ⟨v, v1, v2, -, v4⟩ := hOT.2.1 s c hs hc
    unfold mvI
    rw [v4, cn_I ⟨by omega, by omega⟩]
    exact ⟨v1, v2⟩
  have hla : ∀ c, c < 4 → 1 ≤ laI q c ∧ laI q c ≤ 9999 := fun c hc => by
    obtain ⟨v, v1, -, v3⟩ := (W.2.2.1 c (by omega)).1
    unfold laI
    have h1 := v1.1
    have h2 := v1.2.1
    have h3 := v1.2.2 (by omega)
    rw [v3, cn_I ⟨by omega, by omega⟩]
    omega
  have hZ : ∀ c, c < 4 → -2000000000 ≤ Zn q m c ∧ Zn q m c ≤ 2000000000 := fun c hc => by
    have h1 := psF_two (f := q.1 13 1) (c := c) (a := 2 * m) (b := 2 * m + 1) (by omega) 9 (by omega)
    have h2 := hps c hc
    unfold Zn
    rw [show 8 * m + c = 4 * (2 * m) + c by omega, show 8 * m + 4 + c = 4 * (2 * m + 1) + c by omega]
    omega
  have hB : ∀ s, s < 4 → -(y * mvI q s 1) - sa (fun j => Zn q m j * mvI q s j) 0 4 ≤ 1000000000000 := fun s hs => by
    have s1 : sa (fun j => Zn q m j * mvI q s j) 0 4 = Zn q m 0 * mvI q s 0 + (Zn q m 1 * mvI q s 1 + (Zn q m 2 * mvI q s 2 + (Zn q m 3 * mvI q s 3 + 0))) := rfl
    have a0 := mul_bd (n := Zn q m 0) (m := mvI q s 0) (A := 2000000000) (B := 99) (hZ 0 (by decide)).1 (hZ 0 (by decide)).2 (hmv s 0 hs (by decide)).1 (hmv s 0 hs (by decide)).2
    have a1 := mul_bd (n := Zn q m 1) (m := mvI q s 1) (A := 2000000000) (B := 99) (hZ 1 (by decide)).1 (hZ 1 (by decide)).2 (hmv s 1 hs (by decide)).1 (hmv s 1 hs (by decide)).2
    have a2 := mul_bd (n := Zn q m 2) (m := mvI q s 2) (A := 2000000000) (B := 99) (hZ 2 (by decide)).1 (hZ 2 (by decide)).2 (hmv s 2 hs (by decide)).1 (hmv s 2 hs (by decide)).2
    have a3 := mul_bd (n := Zn q m 3) (m := mvI q s 3) (A := 2000000000) (B := 99) (hZ 3 (by decide)).1 (hZ 3 (by decide)).2 (hmv s 3 hs (by decide)).1 (hmv s 3 hs (by decide)).2
    have a4 := mul_bd (n := y) (m := mvI q s 1) (A := 100000) (B := 99) (by omega) (by omega) (hmv s 1 hs (by decide)).1 (hmv s 1 hs (by decide)).2
    rw [s1]
    omega
  obtain ⟨R, V, k, e1, e2, e3, h⟩ := call_c (C := z) (U := y) hm (mg_ww W) (by omega) (by omega) (by omega) (by omega) hmv (fun c hc => ⟨by have := (hla c hc).1; omega, (hla c hc).2⟩) (by have := (hla 1 (by decide)).1; omega) hB (by decide) (by decide) (cl_of (q.2.1 14 1 (2 * m))) (cl_of (q.2.1 14 1 (2 * m + 1))) ⟨by omega, by omega⟩ ⟨by omega, by omega⟩
  refine ⟨R, V, k, ?_, ?_, ?_, h⟩
  · rw [tl_0 hm, y2]
    exact e1
  · rw [tl_1 hm]
    exact e2
  · rw [tl_2 hm, z2, y2]
    exact e3
end MemW
