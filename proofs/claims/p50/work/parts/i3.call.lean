/-! how great a call can be -/
/-- what a member has of a contract in both its accounts -/
def Zn (q : PM) (m c : Nat) : Int := (q.1 13 1 (8 * m + c)).toInt + (q.1 13 1 (8 * m + 4 + c)).toInt
def mvI (q : PM) (s c : Nat) : Int := (q.1 13 35 (4 * s + c)).toInt
def laI (q : PM) (c : Nat) : Int := (q.1 13 10 c).toInt
/-- a sum from c on -/
def sa (f : Nat → Int) : Nat → Nat → Int
  | _, 0 => 0
  | c, d + 1 => f c + sa f (c + 1) d
section CallB
variable {p q : PM} {m : Nat}
theorem zn_e {c : Nat} (hm : m < 4) (hc : c < 4) : v12_net q (cn m) (cn c) = cl (Zn q m c) ∧ -4294967296 ≤ Zn q m c ∧ Zn q m c ≤ 4294967296 := by
  have h1 := I_rg (q.1 13 1 (8 * m + c))
  have h2 := I_rg (q.1 13 1 (8 * m + 4 + c))
  have h3 := h1.1
  have h4 := h1.2
  have h5 := h2.1
  have h6 := h2.2
  refine ⟨?_, ?_, ?_⟩
  · rw [(net_q (q := q) hm hc).2, cn_of (q.1 13 1 (8 * m + c)), cn_of (q.1 13 1 (8 * m + 4 + c)), cn64 h1, cn64 h2, cladd]
    unfold Zn
    rfl
  · unfold Zn
    omega
  · unfold Zn
    omega
theorem cb_98 (hm : m < 4) : ∀ (d c n : Nat) (W : Int), c + d = 4 → d < n → ∃ R, v12_risk_98 q n (cn m) (cl W) (cn c) = cl R ∧ W ≤ R ∧ R ≤ W + 5 * sa (fun j => ab (Zn q m j)) c d := by
  intro d
  induction d with
  | zero =>
    intro c n W h1 h3
    obtain ⟨n2, rfl⟩ : ∃ k, n = k + 1 := ⟨n - 1, by omega⟩
    have e : c = 4 := by omega
    subst e
    have hn := lpf (i := 4) (N := 4) (by omega) (by omega) (by omega)
    refine ⟨W, ?_, Int.le_refl _, by show W ≤ W + 5 * 0; omega⟩
    rw [ev12_risk_98]
    unfold bv12_risk_98
    rw [if_neg hn]
  | succ d ih =>
    intro c n W h1 h3
    obtain ⟨n2, rfl⟩ : ∃ k, n = k + 1 := ⟨n - 1, by omega⟩
    have l4 : cn (c : Int) < cn 4 := lpt (by omega) (by omega)
    obtain ⟨z3, z1, z2⟩ := zn_e (q := q) hm (c := c) (by omega)
    have eS : sa (fun j => ab (Zn q m j)) c (d + 1) = ab (Zn q m c) + sa (fun j => ab (Zn q m j)) (c + 1) d := rfl
    rw [eS]
    obtain ⟨Z, hZ⟩ : ∃ Z, Zn q m c = Z := ⟨_, rfl⟩
    rw [hZ] at z3 z1 z2 ⊢
    have c1 : (cl Z < cl 0) = (Z < 0) := cllt ⟨by omega, by omega⟩ (by decide)
    have c2 : (cl 30 < cl Z) = (30 < Z) := cllt (by decide) ⟨by omega, by omega⟩
    have c3 : (cl 30 < cl (-Z)) = (30 < -Z) := cllt (by decide) ⟨by omega, by omega⟩
    rw [ev12_risk_98]
    unfold bv12_risk_98
    by_cases hz : Z < 0
    · by_cases h30 : 30 < -Z
      · obtain ⟨R, k1, k2, k3⟩ := ih (c + 1) n2 (W + 5 * (-Z - 30)) (by omega) (by omega)
        refine ⟨R, ?_, by omega, by unfold ab at k3 ⊢; omega⟩
        simp only [if_pos l4, z3, lg_gt0, lg_lt0, c1, if_pos hz, clneg, c3, if_pos h30, clsub, clmul, cladd, cnsucc]
        exact k1
      · obtain ⟨R, k1, k2, k3⟩ := ih (c + 1) n2 (W + 0) (by omega) (by omega)
        refine ⟨R, ?_, by omega, by unfold ab at k3 ⊢; omega⟩
        simp only [if_pos l4, z3, lg_gt0, lg_lt0, c1, if_pos hz, clneg, c3, if_neg h30, cladd, cnsucc]
        exact k1
    · by_cases h30 : 30 < Z
      · obtain ⟨R, k1, k2, k3⟩ := ih (c + 1) n2 (W + 5 * (Z - 30)) (by omega) (by omega)
        refine ⟨R, ?_, by omega, by unfold ab at k3 ⊢; omega⟩
        simp only [if_pos l4, z3, lg_gt0, lg_lt0, c1, if_neg hz, c2, if_pos h30, clsub, clmul, cladd, cnsucc]
        exact k1
      · obtain ⟨R, k1, k2, k3⟩ := ih (c + 1) n2 (W + 0) (by omega) (by omega)
        refine ⟨R, ?_, by omega, by unfold ab at k3 ⊢; omega⟩
        simp only [if_pos l4, z3, lg_gt0, lg_lt0, c1, if_neg hz, c2, if_neg h30, cladd, cnsucc]
        exact k1
theorem cb_37 {kv : Int32 → Int64 → Int32 → Int64} {W : Int} {s : Nat} (hm : m < 4) (hs : s < 4) (hW : 0 ≤ W ∧ W ≤ 1000000000000000) (hM : ∀ c, c < 4 → -99 ≤ mvI q s c ∧ mvI q s c ≤ 99) : ∀ (d c n : Nat) (X : Int), c + d = 4 → d < n → -(1000000000000000 - 500000000000 * (d : Int)) ≤ X → X ≤ 1000000000000000 - 500000000000 * (d : Int) → v12_risk_37 q kv n (cn m) (cl W) (cn s) (cl X) (cn c) = kv (cn m) (cl (if W < X - sa (fun j => Zn q m j * mvI q s j) c d then X - sa (fun j => Zn q m j * mvI q s j) c d else W)) (cn ((s + 1 : Nat) : Int)) := by
  intro d
  induction d with
  | zero =>
    intro c n X h1 h3 x1 x2
    obtain ⟨n2, rfl⟩ : ∃ k, n = k + 1 := ⟨n - 1, by omega⟩
    have e : c = 4 := by omega
    subst e
    have hn := lpf (i := 4) (N := 4) (by omega) (by omega) (by omega)
    have e0 : X - sa (fun j => Zn q m j * mvI q s j) 4 0 = X := by
      show X - 0 = X
      omega
    rw [e0, ev12_risk_37]
    unfold bv12_risk_37
    have c1 : (cl W < cl X) = (W < X) := cllt ⟨by omega, by omega⟩ ⟨by omega, by omega⟩
    simp only [if_neg hn, lg_lt0, c1, cnsucc]
    split <;> rfl
  | succ d ih =>
    intro c n X h1 h3 x1 x2
    obtain ⟨n2, rfl⟩ : ∃ k, n = k + 1 := ⟨n - 1, by omega⟩
    have l4 : cn (c : Int) < cn 4 := lpt (by omega) (by omega)
    obtain ⟨z3, z1, z2⟩ := zn_e (q := q) hm (c := c) (by omega)
    obtain ⟨m1, m2⟩ := hM c (by omega)
    have b1 := mul_bd (n := Zn q m c) (m := mvI q s c) (A := 4294967296) (B := 99) (by omega) (by omega) (by omega) (by omega)
    have eS : sa (fun j => Zn q m j * mvI q s j) c (d + 1) = Zn q m c * mvI q s c + sa (fun j => Zn q m j * mvI q s j) (c + 1) d := rfl
    have em : (q.1 13 35 (4 * s + c)).toInt64 = cl (mvI q s c) := by
      unfold mvI
      rw [cn_of (q.1 13 35 (4 * s + c)), cn64 (I_rg _)]
      congr 1
      rw [← cn_of]
    have k1 := ih (c + 1) n2 (X - Zn q m c * mvI q s c) (by omega) (by omega) (by omega) (by omega)
    have eX : X - Zn q m c * mvI q s c - sa (fun j => Zn q m j * mvI q s j) (c + 1) d = X - sa (fun j => Zn q m j * mvI q s j) c (d + 1) := by
      rw [eS]
      omega
    rw [eX] at k1
    rw [ev12_risk_37]
    unfold bv12_risk_37
    simp only [if_pos l4, z3, idx4, cntk (i := 4 * s + c) (by omega), em, clmul, clsub, cnsucc]
    exact k1
theorem cb_5 {U B : Int} (hm : m < 4) (hU : q.1 13 37 m = cn U) (u1 : 0 ≤ U) (u2 : U ≤ 100000) (hM : ∀ s c, s < 4 → c < 4 → -99 ≤ mvI q s c ∧ mvI q s c ≤ 99) (hB : ∀ s, s < 4 → -(U * mvI q s 1) - sa (fun j => Zn q m j * mvI q s j) 0 4 ≤ B) (hB2 : B ≤ 1000000000000) : ∀ (d s n : Nat) (W : Int), s + d = 4 → d < n → 0 ≤ W → W ≤ B → ∃ R, v12_risk_5 q n (cn m) (cl W) (cn s) = cl R ∧ 0 ≤ R ∧ R ≤ B + 5 * sa (fun j => ab (Zn q m j)) 0 4 := by
  obtain ⟨F, hF, hF2⟩ : ∃ F, FU = F ∧ 100 < F := ⟨FU, rfl, by decide⟩
  have z0 : cn ((0 : Nat) : Int) = cn 0 := rfl
  intro d
  induction d with
  | zero =>
    intro s n W h1 h3 w1 w2
    obtain ⟨n2, rfl⟩ : ∃ k, n = k + 1 := ⟨n - 1, by omega⟩
    have e : s = 4 := by omega
    subst e
    have hn := lpf (i := 4) (N := 4) (by omega) (by omega) (by omega)
    obtain ⟨R, k1, k2, k3⟩ := cb_98 (q := q) hm 4 0 F W rfl (by omega)
    refine ⟨R, ?_, by omega, by omega⟩
    rw [ev12_risk_5, hF]
    unfold bv12_risk_5
    rw [if_neg hn, ← z0]
    exact k1
  | succ d ih =>
    intro s n W h1 h3 w1 w2
    obtain ⟨n2, rfl⟩ : ∃ k, n = k + 1 := ⟨n - 1, by omega⟩
    have l4 : cn (s : Int) < cn 4 := lpt (by omega) (by omega)
    have hs : s < 4 := by omega
    obtain ⟨m1, m2⟩ := hM s 1 hs (by omega)
    have b1 := mul_bd (n := U) (m := mvI q s 1) (A := 100000) (B := 99) (by omega) (by omega) (by omega) (by omega)
    have em : (q.1 13 35 (4 * s + 1)).toInt64 = cl (mvI q s 1) := by
      unfold mvI
      rw [cn_of (q.1 13 35 (4 * s + 1)), cn64 (I_rg _)]
      congr 1
      rw [← cn_of]
    have e1 : cn 4 * cn (s : Int) + cn 1 = cn ((4 * s + 1 : Nat) : Int) := idx4 (a := s) (c := 1)
    have hb := hB s hs
    have en : -U * mvI q s 1 = -(U * mvI q s 1) := Int.neg_mul _ _
    have k1 := cb_37 (q := q) (kv := v12_risk_5 q n2) (W := W) (s := s) hm hs (by omega) (hM s · hs) 4 0 F (-U * mvI q s 1) rfl (by omega) (by omega) (by omega)
    obtain ⟨R, j1, j2, j3⟩ := ih (s + 1) n2 (if W < -U * mvI q s 1 - sa (fun j => Zn q m j * mvI q s j) 0 4 then -U * mvI q s 1 - sa (fun j => Zn q m j * mvI q s j) 0 4 else W) (by omega) (by omega) (by split <;> omega) (by split <;> omega)
    refine ⟨R, ?_, j2, j3⟩
    rw [ev12_risk_5, hF]
    unfold bv12_risk_5
    simp only [if_pos l4, e1, cntk (i := 4 * s + 1) (by omega), cntk (i := m) (by omega), hU, cn64 (a := U) ⟨by omega, by omega⟩, em, clneg, clmul]
    rw [← z0, k1]
    exact j1
theorem cb_worth (hm : m < 4) : ∀ (d c n : Nat) (W : Int), c + d = 4 → d < n → v12_worth_5 q n (cn m) (cl W) (cn c) = cl (W + sa (fun j => Zn q m j * laI q j) c d) := by
  intro d
  induction d with
  | zero =>
    intro c n W h1 h3
    obtain ⟨n2, rfl⟩ : ∃ k, n = k + 1 := ⟨n - 1, by omega⟩
    have e : c = 4 := by omega
    subst e
    have hn := lpf (i := 4) (N := 4) (by omega) (by omega) (by omega)
    rw [ev12_worth_5]
    unfold bv12_worth_5
    rw [if_neg hn]
    show cl W = cl (W + 0)
    rw [Int.add_zero]
  | succ d ih =>
    intro c n W h1 h3
    obtain ⟨n2, rfl⟩ : ∃ k, n = k + 1 := ⟨n - 1, by omega⟩
    have l4 : cn (c : Int) < cn 4 := lpt (by omega) (by omega)
    obtain ⟨z3, -⟩ := zn_e (q := q) hm (c := c) (by omega)
    have em : (q.1 13 10 c).toInt64 = cl (laI q c) := by
      unfold laI
      rw [cn_of (q.1 13 10 c), cn64 (I_rg _)]
      congr 1
      rw [← cn_of]
    have eS : sa (fun j => Zn q m j * laI q j) c (d + 1) = Zn q m c * laI q c + sa (fun j => Zn q m j * laI q j) (c + 1) d := rfl
    have k1 := ih (c + 1) n2 (W + Zn q m c * laI q c) (by omega) (by omega)
    rw [Int.add_assoc, ← eS] at k1
    rw [ev12_worth_5]
    unfold bv12_worth_5
    simp only [if_pos l4, z3, cntk (i := c) (by omega), em, clmul, cladd, cnsucc]
    exact k1
/-- the call -/
theorem call_b {C U B K c1 c2 : Int} (hm : m < 4) (H : MgR p q) (C0 : 0 ≤ C) (C1 : C ≤ 100000000) (u1 : 0 ≤ U) (u2 : U ≤ 100000) (hM : ∀ s c, s < 4 → c < 4 → -99 ≤ mvI q s c ∧ mvI q s c ≤ 99) (hla : ∀ c, c < 4 → -9999 ≤ laI q c ∧ laI q c ≤ 9999) (l1 : 0 ≤ laI q 1) (hB : ∀ s, s < 4 → -(U * mvI q s 1) - sa (fun j => Zn q m j * mvI q s j) 0 4 ≤ B) (hB1 : 0 ≤ B) (hB2 : B ≤ 1000000000000) (hc1 : q.2.1 14 1 (2 * m) = cl c1) (hc2 : q.2.1 14 1 (2 * m + 1) = cl c2) (r1 : -1000000000000000000 ≤ c1 ∧ c1 ≤ 1000000000000000000) (r2 : -1000000000000000000 ≤ c2 ∧ c2 ≤ 1000000000000000000) (hK : B + 5 * sa (fun j => ab (Zn q m j)) 0 4 - (c1 + c2 + sa (fun j => Zn q m j * laI q j) 0 4) ≤ K) (K0 : 0 ≤ K) : ∃ k : Int, 0 ≤ k ∧ k ≤ K ∧ v2_callOf p (cn m) (cn C) (cn U) = cl k := by
  obtain ⟨F, hF, hF2⟩ : ∃ F, FU = F ∧ 100 < F := ⟨FU, rfl, by decide⟩
  have z0 : cn ((0 : Nat) : Int) = cn 0 := rfl
  obtain ⟨-, e⟩ := call_eq H hm (cn C) (cn U)
  obtain ⟨h, h1, h2, h3, h4⟩ := H.2.2.2
  obtain ⟨Q, hQ⟩ : ∃ Q, pI q 13 37 m (cn U) = Q := ⟨_, rfl⟩
  have q1 : ∀ K, ¬ K = 37 → Q.1 13 K = q.1 13 K := fun K h => by
    rw [← hQ]
    funext i
    rw [pI_1, u3_i h]
  have qZ : ∀ j, Zn Q m j = Zn q m j := fun j => by
    unfold Zn
    rw [q1 1 (by decide)]
  have qM : ∀ s c, mvI Q s c = mvI q s c := fun s c => by
    unfold mvI
    rw [q1 35 (by decide)]
  have qL : ∀ c, laI Q c = laI q c := fun c => by
    unfold laI
    rw [q1 10 (by decide)]
  have q37 : Q.1 13 37 m = cn U := by rw [← hQ, pI_at]
  have qJ : Q.2.1 = q.2.1 := by rw [← hQ, pI_J]
  obtain ⟨R, k1, k2, k3⟩ := cb_5 (q := Q) (U := U) (B := B) hm q37 u1 u2 (fun s c hs hc => by rw [qM]; exact hM s c hs hc) (fun s hs => by simp only [qM, qZ]; exact hB s hs) hB2 4 0 F 0 rfl (by omega) (by omega) hB1
  have k4 := cb_worth (q := Q) hm 4 0 F 0 rfl (by omega)
  simp only [qZ, qL] at k3 k4
  have eR : v12_risk Q (cn m) = cl R := by
    unfold v12_risk bv12_risk
    rw [hF]
    exact k1
  have eW : v12_worth Q (cn m) = cl (0 + sa (fun j => Zn q m j * laI q j) 0 4) := by
    unfold v12_worth bv12_worth
    rw [hF]
    exact k4
  obtain ⟨V, hV⟩ : ∃ V, V = c1 + c2 + sa (fun j => Zn q m j * laI q j) 0 4 := ⟨_, rfl⟩
  have eV : v12_value Q (cn m) = cl V := by
    unfold v12_value bv12_value
    simp only [two_m, cnsucc, cntk (i := 2 * m) (by omega), cntk (i := 2 * m + 1) (by omega), eW, qJ, hc1, hc2, cladd]
    exact congrArg cl (by rw [hV, Int.zero_add])
  have e10 : Q.1 13 10 1 = cn (laI q 1) := by
    rw [q1 10 (by decide)]
    exact cn_of _
  obtain ⟨y1, y2⟩ := hla 1 (by decide)
  have b1 := mul_bd (n := U) (m := laI q 1) (A := 100000) (B := 9999) (by omega) (by omega) (by omega) (by omega)
  have b2 := mul_bd (n := U * laI q 1) (m := 100 - h) (A := 100000 * 9999) (B := 100) (by omega) (by omega) (by omega) (by omega)
  have b3 : 0 ≤ U * laI q 1 * (100 - h) := Int.mul_nonneg (Int.mul_nonneg u1 l1) (by omega)
  have e50 : Q.1 12 1 50 = cn h := by
    rw [← hQ, pI_1, u3_k (by decide)]
    exact h4
  obtain ⟨A, hA⟩ : ∃ A, U * laI q 1 * (100 - h) = A := ⟨_, rfl⟩
  rw [hA] at b2 b3
  obtain ⟨-, f2⟩ := fl_e Q (A := A) (B := 100) ⟨by omega, by omega⟩ (by decide) (by decide)
  obtain ⟨Y, hY⟩ : ∃ Y, A / 100 = Y := ⟨_, rfl⟩
  have hY0 : 0 ≤ Y ∧ Y ≤ 1000000000 := by omega
  rw [hY] at f2
  have ep : cl U * (cn (laI q 1)).toInt64 * (cn 100 - cn h).toInt64 = cl A := by
    rw [cn64 (a := laI q 1) ⟨by omega, by omega⟩, cnsub, cn64 (a := 100 - h) ⟨by omega, by omega⟩, clmul, clmul, hA]
  have bz : ∀ j, j < 4 → -50000000000000 ≤ Zn q m j * laI q j ∧ Zn q m j * laI q j ≤ 50000000000000 ∧ ab (Zn q m j) ≤ 4294967296 := fun j hj => by
    obtain ⟨-, z1, z2⟩ := zn_e (q := q) hm hj
    obtain ⟨w1, w2⟩ := hla j hj
    have b := mul_bd (n := Zn q m j) (m := laI q j) (A := 4294967296) (B := 9999) (by omega) (by omega) (by omega) (by omega)
    unfold ab
    omega
  have s1 : sa (fun j => Zn q m j * laI q j) 0 4 = Zn q m 0 * laI q 0 + (Zn q m 1 * laI q 1 + (Zn q m 2 * laI q 2 + (Zn q m 3 * laI q 3 + 0))) := rfl
  have s2 : sa (fun j => ab (Zn q m j)) 0 4 = ab (Zn q m 0) + (ab (Zn q m 1) + (ab (Zn q m 2) + (ab (Zn q m 3) + 0))) := rfl
  have t0 := bz 0 (by decide)
  have t1 := bz 1 (by decide)
  have t2 := bz 2 (by decide)
  have t3 := bz 3 (by decide)
  have hx : (cl 0 < cl (R - V - C - Y)) = (0 < R - V - C - Y) := cllt (by decide) ⟨by omega, by omega⟩
  have eU : (cl U).toInt32 = cn U := cl32 U
  have eQ : (v12_call q (cn m) (cn C).toInt64 (cn U).toInt64).1 = cl (if 0 < R - V - C - Y then R - V - C - Y else 0) := by
    rw [cn64 (a := C) ⟨by omega, by omega⟩, cn64 (a := U) ⟨by omega, by omega⟩]
    unfold v12_call bv12_call
    simp only [eU, cntk (i := m) (by omega), hQ, eR, eV, e10, e50, ep, f2, clsub, lg_lt0, hx]
    split <;> rfl
  rw [e] at eQ
  dsimp only at eQ
  have h5 : 0 ≤ (if 0 < R - V - C - Y then R - V - C - Y else 0) ∧ (if 0 < R - V - C - Y then R - V - C - Y else 0) ≤ K := by
    by_cases hh : 0 < R - V - C - Y
    · rw [if_pos hh]
      omega
    · rw [if_neg hh]
      omega
  obtain ⟨k, hk⟩ : ∃ k, (if 0 < R - V - C - Y then R - V - C - Y else 0) = k := ⟨_, rfl⟩
  rw [hk] at eQ h5
  exact ⟨k, h5.1, h5.2, eQ⟩
end CallB
