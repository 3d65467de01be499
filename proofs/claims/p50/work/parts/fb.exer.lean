/-! exercise by lot -/
theorem ixor_neg {x y : Int32} (hy : ¬ y < 0) : (x ^^^ y < 0) = (x < 0) := by
  have e : ∀ z : Int32, (z < 0) = (z.toBitVec.msb = true) := fun z => by
    refine propext ?_
    show (z.toBitVec.slt (0 : Int32).toBitVec = true) ↔ _
    exact BitVec.slt_zero_iff_msb_cond
  rw [e] at hy
  rw [e, e, Int32.toBitVec_xor, BitVec.msb_xor, Bool.eq_false_iff.mpr hy, Bool.xor_false]
theorem fmod_e (p : PM) {A : Int} (h1 : 0 ≤ A) (h2 : A ≤ 2147483647) : g14_floorMod_7cf53 p (cn A) (cn 7875) ∧ v14_floorMod_7cf53 p (cn A) (cn 7875) = irm (cn A) (cn 7875) := by
  have e : ¬ cn A ^^^ cn 7875 < 0 := by
    rw [ixor_neg (by decide), zcn, cnlt ⟨by omega, by omega⟩ (by decide)]
    omega
  unfold g14_floorMod_7cf53 bg14_floorMod_7cf53 v14_floorMod_7cf53 bv14_floorMod_7cf53
  simp only [if_neg e]
  exact ⟨⟨by decide, trivial⟩, trivial⟩
section Exer
variable {p q : PM} {lg : Nat → Int32} {N T D : Nat}
theorem pos_e {q : PM} (a : Nat) : q.1 13 1 (4 * a + 3) = cn (pz3 q a) := cn_of _
theorem lack_e {a : Nat} (h : ∀ a, a < 9 → AcR p q a) (ha : a < 9) (hb : -2000000000 ≤ pz3 q a) : v14_max_7cf53 p (cn 0) (-(v0_holds p (a + 1) (cn 3))) = cn (lk3 q a) := by
  have hp : rg (pz3 q a) := I_rg _
  have hp2 := hp.2
  have e3 : v0_holds p (a + 1) (cn 3) = cn (pz3 q a) := by
    have h1 := holds_e p (a + 1) (c := 3) (by decide)
    have h2 := (h a ha).1 3 (by decide)
    rw [h2, pos_e] at h1
    exact h1
  rw [e3, cnneg, max_cn p (by decide) ⟨by omega, by omega⟩]
  unfold lk3
  split
  · congr 1
    omega
  · congr 1
    omega
theorem pz_bd {a : Nat} (ha : a < 9) (hb : psF (q.1 13 1) 3 9 ≤ 2000000000) : -2000000000 ≤ pz3 q a ∧ pz3 q a ≤ 2000000000 := by
  have h : ∀ n, a < n → max (pz3 q a) (-(pz3 q a)) ≤ psF (q.1 13 1) 3 n := by
    intro n
    induction n with
    | zero => intro h; omega
    | succ n ih =>
      intro h
      have p0 : ∀ m, 0 ≤ psF (q.1 13 1) 3 m := by
        intro m
        induction m with
        | zero => exact Int.le_refl _
        | succ m ih2 =>
          show 0 ≤ psF (q.1 13 1) 3 m + max (q.1 13 1 (4 * m + 3)).toInt (-(q.1 13 1 (4 * m + 3)).toInt)
          omega
      show _ ≤ psF (q.1 13 1) 3 n + max (q.1 13 1 (4 * n + 3)).toInt (-(q.1 13 1 (4 * n + 3)).toInt)
      by_cases e : a = n
      · rw [e]
        have := p0 n
        show max (q.1 13 1 (4 * n + 3)).toInt (-(q.1 13 1 (4 * n + 3)).toInt) ≤ _
        omega
      · have := ih (by omega)
        omega
  have := h 9 ha
  omega
/-- the second pass: who is it -/
theorem who_lp {F : Nat} (hF : 100 < F) (h : ∀ a, a < 9 → AcR p q a) (hK : CK p) (hb : psF (q.1 13 1) 3 9 ≤ 2000000000) {R : Int} (hR : R ≤ 10000) : ∀ (d i n n' : Nat), i + d = 9 → d < n → d < n' → smF (lk3 q) 0 i ≤ R → R < smF (lk3 q) 0 9 → ∃ w : Nat, w < 9 ∧ (g7_assign_79 n p (cl (R - smF (lk3 q) 0 i)) (cn i) ∧ g12_drawn_54 q n' (cn (R - smF (lk3 q) 0 i)) (cn i)) ∧ v7_assign_79 n p (cl (R - smF (lk3 q) 0 i)) (cn i) = (cn w, xC p w 1) ∧ v12_drawn_54 q n' (cn (R - smF (lk3 q) 0 i)) (cn i) = cn w := by
  intro d
  induction d with
  | zero =>
    intro i n n' h1 h2 h3 h4 h5
    have e : i = 9 := by omega
    subst e
    omega
  | succ d ih =>
    intro i n n' h1 h2 h3 h4 h5
    obtain ⟨n1, rfl⟩ : ∃ m, n = m + 1 := ⟨n - 1, by omega⟩
    obtain ⟨n2, rfl⟩ : ∃ m, n' = m + 1 := ⟨n' - 1, by omega⟩
    have l9 : cn (i : Int) < cn 9 := lpt (by omega) (by omega)
    have hi := cninb (i := i) (n := 9) (by omega) (by omega)
    have hi36 := cninb (i := 4 * i + 3) (n := 36) (by omega) (by omega)
    obtain ⟨b1', b2'⟩ := pz_bd (q := q) (a := i) (by omega) hb
    have el := lack_e (a := i) h (by omega) b1'
    have gh3 : g0_holds p (i + 1) (cn 3) := g_holds p (a := i) (c := 3) (by omega) (by decide)
    have i3 : cn 4 * cn (i : Int) + cn 3 = cn ((4 * i + 3 : Nat) : Int) := idx4 (a := i) (c := 3)
    have lk0 : 0 ≤ lk3 q i ∧ lk3 q i ≤ 2000000000 := by
      unfold lk3
      omega
    have sm1 : smF (lk3 q) 0 (i + 1) = smF (lk3 q) 0 i + lk3 q i := by
      show smF (lk3 q) 0 i + lk3 q (0 + i) = _
      rw [Nat.zero_add]
    have s0 := (lk_sm q i).1.1
    obtain ⟨r, hr⟩ : ∃ r, R - smF (lk3 q) 0 i = r := ⟨_, rfl⟩
    rw [hr]
    have clt : (cl r < (cn (lk3 q i)).toInt64) = (r < lk3 q i) := by
      rw [cn64 ⟨by omega, by omega⟩, cllt ⟨by omega, by omega⟩ ⟨by omega, by omega⟩]
    have en : (q.1 13 1 (4 * i + 3) < 0) = (pz3 q i < 0) := by
      conv => lhs; rw [pos_e, zcn, cnlt ⟨by omega, by omega⟩ (by decide)]
    have clr : (cn r < cn (lk3 q i)) = (r < lk3 q i) := cnlt ⟨by omega, by omega⟩ ⟨by omega, by omega⟩
    have c0r : (cn r < cn 0) = (r < 0) := cnlt ⟨by omega, by omega⟩ (by decide)
    have em : pz3 q i < 0 → -(q.1 13 1 (4 * i + 3)) = cn (lk3 q i) := fun hn => by
      have e1 : lk3 q i = -pz3 q i := by
        unfold lk3
        omega
      rw [pos_e, cnneg, e1]
    have ez : ¬ pz3 q i < 0 → lk3 q i = 0 := fun hn => by
      unfold lk3
      omega
    have elk : (if q.1 13 1 (4 * i + 3) < 0 then (if cn r < -(q.1 13 1 (4 * i + 3)) then cn i else v12_drawn_54 q n2 (cn r - -(q.1 13 1 (4 * i + 3))) (cn i + cn 1)) else (if cn r < cn 0 then cn i else v12_drawn_54 q n2 (cn r - cn 0) (cn i + cn 1))) = if r < lk3 q i then cn i else v12_drawn_54 q n2 (cn (r - lk3 q i)) (cn ((i + 1 : Nat) : Int)) := by
      by_cases hn : pz3 q i < 0
      · simp only [en, if_pos hn, em hn, clr, cnsub, cnsucc]
      · simp only [en, if_neg hn, ez hn, c0r, cnsub, cnsucc]
    have eV : v12_drawn_54 q (n2 + 1) (cn r) (cn i) = if r < lk3 q i then cn i else v12_drawn_54 q n2 (cn (r - lk3 q i)) (cn ((i + 1 : Nat) : Int)) := by
      rw [ev12_drawn_54]
      unfold bv12_drawn_54
      simp only [if_pos l9, i3, cntk (i := 4 * i + 3) (by omega)]
      exact elk
    by_cases hlt : r < lk3 q i
    · refine ⟨i, by omega, ⟨?_, ?_⟩, ?_, ?_⟩
      · rw [eg7_assign_79]
        unfold bg7_assign_79
        obtain ⟨u1, u2⟩ := put_e p (A := i + 1) (c := 3) (by omega) (by omega) (by decide) (v0_holds p (i + 1) (cn 3) + cn 1)
        obtain ⟨u3', u4⟩ := put_e (pI p 13 (2 * (i + 1) - 1) 3 (v0_holds p (i + 1) (cn 3) + cn 1)) (A := i + 1) (c := 0) (by omega) (by omega) (by decide) (v0_holds (pI p 13 (2 * (i + 1) - 1) 3 (v0_holds p (i + 1) (cn 3) + cn 1)) (i + 1) (cn 0) - cn 1)
        have gh0 : g0_holds (pI p 13 (2 * (i + 1) - 1) 3 (v0_holds p (i + 1) (cn 3) + cn 1)) (i + 1) (cn 0) := g_holds _ (a := i) (c := 0) (by omega) (by decide)
        have z3 : cn ((3 : Nat) : Int) = cn 3 := rfl
        have z0 : cn ((0 : Nat) : Int) = cn 0 := rfl
        rw [z3] at u1 u2
        rw [z0] at u3' u4
        simp only [if_pos l9, cntk (i := i) (by omega), el, lg_gt0, clt, if_pos hlt, u2]
        exact ⟨hi, gh3, g_max _ _ _, gh3, u1, gh0, u3', trivial⟩
      · rw [eg12_drawn_54]
        unfold bg12_drawn_54
        simp only [if_pos l9, i3, cntk (i := 4 * i + 3) (by omega)]
        refine ⟨hi36, ?_⟩
        by_cases hn : pz3 q i < 0
        · simp only [en, if_pos hn, em hn, clr, if_pos hlt]
          exact ⟨hi36, trivial⟩
        · have hlt2 := hlt
          rw [ez hn] at hlt2
          simp only [en, if_neg hn, c0r, if_pos hlt2]
      · rw [ev7_assign_79]
        unfold bv7_assign_79
        obtain ⟨u1, u2⟩ := put_e p (A := i + 1) (c := 3) (by omega) (by omega) (by decide) (v0_holds p (i + 1) (cn 3) + cn 1)
        have z3 : cn ((3 : Nat) : Int) = cn 3 := rfl
        have z0 : cn ((0 : Nat) : Int) = cn 0 := rfl
        have hh3 := holds_e p (i + 1) (c := 3) (by decide)
        rw [z3] at u2 hh3
        have hh0 := holds_e (pI p 13 (2 * (i + 1) - 1) 3 (p.1 13 (2 * (i + 1) - 1) 3 + cn 1)) (i + 1) (c := 0) (by decide)
        rw [z0, pI_1, u3_s (by decide)] at hh0
        obtain ⟨-, u4⟩ := put_e (pI p 13 (2 * (i + 1) - 1) 3 (p.1 13 (2 * (i + 1) - 1) 3 + cn 1)) (A := i + 1) (c := 0) (by omega) (by omega) (by decide) (p.1 13 (2 * (i + 1) - 1) 0 - cn 1)
        rw [z0] at u4
        rw [hh3] at u2
        have el2 := el
        rw [hh3] at el2
        simp only [if_pos l9, cntk (i := i) (by omega), hh3, el2, lg_gt0, clt, if_pos hlt, u2, hh0, u4]
        have en : p.1 13 (2 * (i + 1) - 1) 0 - cn 1 = p.1 13 (2 * (i + 1) - 1) 0 + cn (-1) := by rw [Int32.sub_eq_add_neg, cnneg]
        have x0 : (pI (pI p 13 (2 * (i + 1) - 1) 3 (p.1 13 (2 * (i + 1) - 1) 3 + cn 1)) 13 (2 * (i + 1) - 1) 0 (p.1 13 (2 * (i + 1) - 1) 0 + cn (-1))).2.1 = p.2.1 := by rw [pI_J, pI_J]
        rw [en, x0]
        have x1 : (xC p i 1).1 0 (i + 1) 0 = cn i := by
          unfold xC
          rw [pJ_1, pI_1, u3_k (by decide), pI_1, u3_k (by decide)]
          exact (hK.1 i (by omega)).1
        exact Prod.ext x1 rfl
      · rw [eV, if_pos hlt]
    · obtain ⟨w, w1, ⟨g1, g2⟩, e1, e2⟩ := ih (i + 1) n1 n2 (by omega) (by omega) (by omega) (by omega) h5
      have er : R - smF (lk3 q) 0 (i + 1) = r - lk3 q i := by omega
      rw [er] at g1 g2 e1 e2
      have ecl : cl r - (cn (lk3 q i)).toInt64 = cl (r - lk3 q i) := by rw [cn64 ⟨by omega, by omega⟩, clsub]
      refine ⟨w, w1, ⟨?_, ?_⟩, ?_, ?_⟩
      · rw [eg7_assign_79]
        unfold bg7_assign_79
        simp only [if_pos l9, cntk (i := i) (by omega), el, lg_gt0, clt, if_neg hlt, ecl, cnsucc]
        exact ⟨hi, gh3, g_max _ _ _, g1⟩
      · rw [eg12_drawn_54]
        unfold bg12_drawn_54
        simp only [if_pos l9, i3, cntk (i := 4 * i + 3) (by omega), cnsucc]
        refine ⟨hi36, ?_⟩
        by_cases hn : pz3 q i < 0
        · simp only [en, if_pos hn, em hn, clr, if_neg hlt, cnsub]
          exact ⟨hi36, g2⟩
        · have hlt2 := hlt
          rw [ez hn] at hlt2 g2
          simp only [en, if_neg hn, c0r, if_neg hlt2, cnsub]
          exact g2
      · rw [ev7_assign_79]
        unfold bv7_assign_79
        simp only [if_pos l9, cntk (i := i) (by omega), el, lg_gt0, clt, if_neg hlt, ecl, cnsucc]
        exact e1
      · rw [eV, if_neg hlt]
        exact e2
/-- the first pass: how many, and then who -/
theorem all_lp (h : ∀ a, a < 9 → AcR p q a) (hK : CK p) (hb : psF (q.1 13 1) 3 9 ≤ 2000000000) {R : Int} (hR0 : 0 ≤ R) (hR : R ≤ 7874) (hA : 1 ≤ smF (lk3 q) 0 9) (hA2 : smF (lk3 q) 0 9 ≤ 2000000000) : ∀ (d i n n' : Nat), i + d = 9 → d < n → d < n' → ∃ w : Nat, w < 9 ∧ (g7_assign_16 n p (cn R) (cl (smF (lk3 q) 0 i)) (cn i) ∧ g12_drawn_4 q n' (cn R) (cn (smF (lk3 q) 0 i)) (cn i)) ∧ v7_assign_16 n p (cn R) (cl (smF (lk3 q) 0 i)) (cn i) = (cn w, xC p w 1) ∧ v12_drawn_4 q n' (cn R) (cn (smF (lk3 q) 0 i)) (cn i) = cn w := by
  obtain ⟨F, hF, hF2⟩ : ∃ F, FU = F ∧ 100 < F := ⟨FU, rfl, by decide⟩
  intro d
  induction d with
  | zero =>
    intro i n n' h1 h2 h3
    obtain ⟨n1, rfl⟩ : ∃ m, n = m + 1 := ⟨n - 1, by omega⟩
    obtain ⟨n2, rfl⟩ : ∃ m, n' = m + 1 := ⟨n' - 1, by omega⟩
    have e : i = 9 := by omega
    subst e
    have hn := lpf (i := 9) (N := 9) (by omega) (by omega) (by omega)
    obtain ⟨t1, t2, t3, t4, -⟩ := tm_rng (A := R) (B := smF (lk3 q) 0 9) (by omega)
    have t5 := t4 hR0
    have tR : R.tmod (smF (lk3 q) 0 9) ≤ R := by
      have h6 : 0 ≤ R.tdiv (smF (lk3 q) 0 9) := Int.tdiv_nonneg hR0 (by omega)
      have h7 : 0 ≤ smF (lk3 q) 0 9 * R.tdiv (smF (lk3 q) 0 9) := Int.mul_nonneg (by omega) h6
      omega
    have el : lrm (cn R).toInt64 (cl (smF (lk3 q) 0 9)) = cl (R.tmod (smF (lk3 q) 0 9)) := by
      unfold lrm
      rw [cn64 ⟨by omega, by omega⟩, cldiv ⟨by omega, by omega⟩ (by omega) (by omega), clmul, clsub, Int.mul_comm]
      exact congrArg cl (by omega)
    have ei : irm (cn R) (cn (smF (lk3 q) 0 9)) = cn (R.tmod (smF (lk3 q) 0 9)) := cnirm ⟨by omega, by omega⟩ (by omega) (by omega)
    have s00 : smF (lk3 q) 0 0 = 0 := rfl
    obtain ⟨w, w1, ⟨g1, g2⟩, e1, e2⟩ := who_lp (F := F) hF2 h hK hb (R := R.tmod (smF (lk3 q) 0 9)) (by omega) 9 0 F F rfl (by omega) (by omega) (by rw [s00]; exact t5) t2
    have z0 : cn ((0 : Nat) : Int) = cn 0 := rfl
    rw [s00, Int.sub_zero, z0] at g1 g2 e1 e2
    have c0 : (cl 0 < cl (smF (lk3 q) 0 9)) = (0 < smF (lk3 q) 0 9) := cllt (by decide) ⟨by omega, by omega⟩
    have n0 : ¬ cn (smF (lk3 q) 0 9) = 0 := by
      rw [zcn, cneq ⟨by omega, by omega⟩ (by decide)]
      omega
    refine ⟨w, w1, ⟨?_, ?_⟩, ?_, ?_⟩
    · rw [eg7_assign_16, hF]
      unfold bg7_assign_16
      simp only [if_neg hn, lg_lt0, c0, if_pos (show 0 < smF (lk3 q) 0 9 by omega), el]
      exact ⟨cl0e (by omega) (by omega), g1⟩
    · rw [eg12_drawn_4, hF]
      unfold bg12_drawn_4
      simp only [if_neg hn, ei]
      exact ⟨n0, g2⟩
    · rw [ev7_assign_16, hF]
      unfold bv7_assign_16
      simp only [if_neg hn, lg_lt0, c0, if_pos (show 0 < smF (lk3 q) 0 9 by omega), el]
      exact e1
    · rw [ev12_drawn_4, hF]
      unfold bv12_drawn_4
      simp only [if_neg hn, ei]
      exact e2
  | succ d ih =>
    intro i n n' h1 h2 h3
    obtain ⟨n1, rfl⟩ : ∃ m, n = m + 1 := ⟨n - 1, by omega⟩
    obtain ⟨n2, rfl⟩ : ∃ m, n' = m + 1 := ⟨n' - 1, by omega⟩
    obtain ⟨w, w1, ⟨g1, g2⟩, e1, e2⟩ := ih (i + 1) n1 n2 (by omega) (by omega) (by omega)
    have l9 : cn (i : Int) < cn 9 := lpt (by omega) (by omega)
    have hi := cninb (i := i) (n := 9) (by omega) (by omega)
    have hi36 := cninb (i := 4 * i + 3) (n := 36) (by omega) (by omega)
    obtain ⟨b1', b2'⟩ := pz_bd (q := q) (a := i) (by omega) hb
    have el := lack_e (a := i) h (by omega) b1'
    have gh3 : g0_holds p (i + 1) (cn 3) := g_holds p (a := i) (c := 3) (by omega) (by decide)
    have i3 : cn 4 * cn (i : Int) + cn 3 = cn ((4 * i + 3 : Nat) : Int) := idx4 (a := i) (c := 3)
    have lk0 : 0 ≤ lk3 q i ∧ lk3 q i ≤ 2000000000 := by
      unfold lk3
      omega
    have sm1 : smF (lk3 q) 0 (i + 1) = smF (lk3 q) 0 i + lk3 q i := by
      show smF (lk3 q) 0 i + lk3 q (0 + i) = _
      rw [Nat.zero_add]
    rw [sm1] at g1 g2 e1 e2
    have en : (q.1 13 1 (4 * i + 3) < 0) = (pz3 q i < 0) := by
      conv => lhs; rw [pos_e, zcn, cnlt ⟨by omega, by omega⟩ (by decide)]
    have em : pz3 q i < 0 → -(q.1 13 1 (4 * i + 3)) = cn (lk3 q i) := fun hn => by
      have e1 : lk3 q i = -pz3 q i := by
        unfold lk3
        omega
      rw [pos_e, cnneg, e1]
    have ez : ¬ pz3 q i < 0 → lk3 q i = 0 := fun hn => by
      unfold lk3
      omega
    have ecl : cl (smF (lk3 q) 0 i) + (cn (lk3 q i)).toInt64 = cl (smF (lk3 q) 0 i + lk3 q i) := by rw [cn64 ⟨by omega, by omega⟩, cladd]
    refine ⟨w, w1, ⟨?_, ?_⟩, ?_, ?_⟩
    · rw [eg7_assign_16]
      unfold bg7_assign_16
      simp only [if_pos l9, cntk (i := i) (by omega), el, ecl, cnsucc]
      exact ⟨hi, gh3, g_max _ _ _, g1⟩
    · rw [eg12_drawn_4]
      unfold bg12_drawn_4
      simp only [if_pos l9, i3, cntk (i := 4 * i + 3) (by omega), cnsucc]
      refine ⟨hi36, ?_⟩
      by_cases hn : pz3 q i < 0
      · simp only [en, if_pos hn, em hn, cnadd]
        exact ⟨hi36, g2⟩
      · rw [ez hn] at g2
        simp only [en, if_neg hn, cnadd]
        exact g2
    · rw [ev7_assign_16]
      unfold bv7_assign_16
      simp only [if_pos l9, cntk (i := i) (by omega), el, ecl, cnsucc]
      exact e1
    · rw [ev12_drawn_4]
      unfold bv12_drawn_4
      simp only [if_pos l9, i3, cntk (i := 4 * i + 3) (by omega), cnsucc]
      by_cases hn : pz3 q i < 0
      · simp only [en, if_pos hn, em hn, cnadd]
        exact e2
      · rw [ez hn] at e2
        simp only [en, if_neg hn, cnadd]
        exact e2
theorem assign_eq {n : Int} (h : ∀ a, a < 9 → AcR p q a) (hK : CK p) (hb : psF (q.1 13 1) 3 9 ≤ 2000000000) {R : Int} (hR0 : 0 ≤ R) (hR : R ≤ 7874) (h3 : s3F (q.1 13 1) 9 = cn (-n)) (n1 : 1 ≤ n) (n2 : n ≤ 1000) : ∃ w : Nat, w < 9 ∧ (g7_assign p (cn R) ∧ g12_drawn q (cn R)) ∧ v7_assign p (cn R) = (cn w, xC p w 1) ∧ v12_drawn q (cn R) = cn w := by
  obtain ⟨F, hF, hF2⟩ : ∃ F, FU = F ∧ 100 < F := ⟨FU, rfl, by decide⟩
  obtain ⟨hA, hA2⟩ := lk_pos h3 n1 n2 hb
  unfold g7_assign bg7_assign g12_drawn bg12_drawn v7_assign bv7_assign v12_drawn bv12_drawn
  rw [hF]
  exact all_lp h hK hb hR0 hR hA hA2 9 0 F F rfl (by omega) (by omega)
end Exer
