/-! limits: with their refusals -/
section Limit2
variable {p q : PM} {lg : Nat → Int32} {N T D e : Nat}
theorem lim_t {Q : PM} {a b z v m life : Int32} (h : ¬ Q.1 12 1 0 = 0) : v12_doLimit_121 Q a b z v m life = (cn 0, Q) ∧ g12_doLimit_121 Q a b z v m life := by
  unfold v12_doLimit_121 bv12_doLimit_121 g12_doLimit_121 bg12_doLimit_121
  simp only [if_neg h]
  exact ⟨trivial, trivial⟩
theorem lim_x {a b z v m life s : Int32} (hs : ¬ s = 0) : v12_doLimit_75 q a b z v m life s = (cn 0, pI q 12 1 0 s) ∧ g12_doLimit_75 q a b z v m life s := by
  obtain ⟨k1, k2⟩ := lim_t (Q := pI q 12 1 0 s) (a := a) (b := b) (z := z) (v := v) (m := m) (life := life) (by rw [t_1]; exact hs)
  unfold v12_doLimit_75 bv12_doLimit_75 g12_doLimit_75 bg12_doLimit_75
  simp only [t_1, if_neg hs]
  exact ⟨k1, k2⟩
theorem do_limit {va vb vz vQ vm vl : Int32} (he : e + 1 ≤ 2000) (hD : D ≤ 1000000) (hN : N + 2 ≤ 1000000) (hT : T + 20000 ≤ 1000000000) (H : WW p q (lgB lg e) 99 99 (fun _ => False) N T D 6 (fun _ => 0)) : g12_doLimit q va vb vz vQ vm vl ∧ DoE (lgB lg (e + 1)) q N T D 60 1 (kLimit p va vb vz vQ vm vl) (g5_tellLimit p va vb vz vQ vm vl) (v5_tellLimit p va vb vz vQ vm vl) (v12_doLimit q va vb vz vQ vm vl) := by
  have c10 : ¬ cn 1 = (0 : Int32) := by decide
  have c30 : ¬ cn 3 = (0 : Int32) := by decide
  have c00 : cn 0 = (0 : Int32) := rfl
  have gi : ∀ a b c, g12_in q a b c := fun a b c => g_in q a b c
  have gab : ∀ a, g12_abs q a := fun a => g_abs q a
  obtain ⟨ea, ga⟩ := acc_e q va
  obtain ⟨s1, s2⟩ := lim_x (q := q) (a := va) (b := vb) (z := vz) (v := vQ) (m := vm) (life := vl) (s := cn 1) (by decide)
  obtain ⟨s3', s4'⟩ := lim_x (q := q) (a := va) (b := vb) (z := vz) (v := vQ) (m := vm) (life := vl) (s := cn 2) (by decide)
  have s3 : v12_doLimit_70 q va vb vz vQ vm vl = (cn 0, pI q 12 1 0 (cn 2)) := s3'
  have s4 : g12_doLimit_70 q va vb vz vQ vm vl := s4'
  unfold kLimit v12_doLimit bv12_doLimit g12_doLimit bg12_doLimit
  simp only [s1, s3]
  by_cases h1 : isW va (cn 0) (cn 7) = 0
  · have h1' : v12_isAccount q va = 0 := by rw [ea]; exact h1
    simp only [if_pos h1, if_pos h1']
    refine ⟨?_, doe_x (by decide) rfl⟩
    repeat' first
      | with_reducible exact ga
      | with_reducible exact gi _ _ _
      | with_reducible exact s2
      | exact trivial
      | exact not_false
      | apply And.intro
      | (split <;> rename_i h9 <;> first | simp only [if_neg h9, if_true, if_false] | simp only [if_pos h9, if_true, if_false] | skip)
  have h1' : ¬ v12_isAccount q va = 0 := by rw [ea]; exact h1
  by_cases h2 : isW vb (cn 0) (cn 5) = 0
  · have h2' : v12_in q vb (cn 0) (cn 5) = 0 := h2
    simp only [if_neg h1, if_neg h1', if_pos h2, if_pos h2']
    refine ⟨?_, doe_x (by decide) rfl⟩
    repeat' first
      | with_reducible exact ga
      | with_reducible exact gi _ _ _
      | with_reducible exact s2
      | exact trivial
      | exact not_false
      | apply And.intro
      | (split <;> rename_i h9 <;> first | simp only [if_neg h9, if_true, if_false] | simp only [if_pos h9, if_true, if_false] | skip)
  have h2' : ¬ v12_in q vb (cn 0) (cn 5) = 0 := h2
  obtain ⟨b, hb, rfl⟩ := isW_n (b := 5) (by decide) h2
  have eb := book_e p (a := b) (by omega)
  obtain ⟨pw, gp⟩ := pr_w (q := q) (b := b) (z := vz) (by omega) H.2.2.2.2.1
  simp only [if_neg h1, if_neg h1', if_neg h2, if_neg h2', eb, pw]
  by_cases h6 : v1_hasPrice p (b + 1) vz = 0
  · simp only [if_pos h6]
    refine ⟨?_, doe_x (by decide) rfl⟩
    repeat' first
      | with_reducible exact ga
      | with_reducible exact gi _ _ _
      | with_reducible exact gp
      | with_reducible exact s4
      | exact trivial
      | exact not_false
      | apply And.intro
      | (split <;> rename_i h9 <;> first | simp only [if_neg h9, if_true, if_false] | simp only [if_pos h9, if_true, if_false] | skip)
  simp only [if_neg h6]
  by_cases h3 : isW vQ (cn (-50)) (cn 50) = 0
  · have h3' : v12_isQuantity q vQ = 0 := qty_z h3
    simp only [if_pos h3, if_pos h3']
    refine ⟨?_, doe_x (by decide) rfl⟩
    repeat' first
      | with_reducible exact ga
      | with_reducible exact gi _ _ _
      | with_reducible exact g_qty _
      | with_reducible exact gp
      | with_reducible exact s4
      | exact trivial
      | exact not_false
      | apply And.intro
      | (split <;> rename_i h9 <;> first | simp only [if_neg h9, if_true, if_false] | simp only [if_pos h9, if_true, if_false] | skip)
  by_cases h4 : vQ = 0
  · have h3' : v12_isQuantity q vQ = 0 := qty_0 h4
    simp only [if_neg h3, if_pos h4, if_pos h3']
    refine ⟨?_, doe_x (by decide) rfl⟩
    repeat' first
      | with_reducible exact ga
      | with_reducible exact gi _ _ _
      | with_reducible exact g_qty _
      | with_reducible exact gp
      | with_reducible exact s4
      | exact trivial
      | exact not_false
      | apply And.intro
      | (split <;> rename_i h9 <;> first | simp only [if_neg h9, if_true, if_false] | simp only [if_pos h9, if_true, if_false] | skip)
  have h3' : ¬ v12_isQuantity q vQ = 0 := qty_1 h3 h4
  simp only [if_neg h3, if_neg h4, if_neg h3']
  by_cases h7 : isW vm (cn 0) (v14_abs_0f7a4 p vQ) = 0
  · have h7' : v12_in q vm (cn 0) (v12_abs q vQ) = 0 := h7
    simp only [if_pos h7, if_pos h7']
    refine ⟨?_, doe_x (by decide) rfl⟩
    repeat' first
      | with_reducible exact ga
      | with_reducible exact gi _ _ _
      | with_reducible exact g_qty _
      | with_reducible exact gp
      | with_reducible exact gab _
      | with_reducible exact s4
      | exact trivial
      | exact not_false
      | apply And.intro
      | (split <;> rename_i h9 <;> first | simp only [if_neg h9, if_true, if_false] | simp only [if_pos h9, if_true, if_false] | skip)
  have h7' : ¬ v12_in q vm (cn 0) (v12_abs q vQ) = 0 := h7
  simp only [if_neg h7, if_neg h7']
  obtain ⟨a, ha, rfl⟩ := isW_n (b := 7) (by decide) h1
  obtain ⟨Q, Q1, Q2, rfl⟩ := isW_z (a := -50) (b := 50) (by decide) (by decide) h3
  have Q0 : ¬ Q = 0 := fun h => h4 (by rw [h]; rfl)
  obtain ⟨z, rfl, hz⟩ := hp_pr (by omega) H.2.2.2.2.1 h6
  obtain ⟨m, m1, m2, rfl⟩ := abs_z Q1 Q2 (by decide) h7
  -- the state
  have S0 : g12_doLimit_75 q (cn a) (cn b) (cn z) (cn Q) (cn m) vl (cn 0) ∧ DoE (lgB lg (e + 1)) q N T D 60 1 (kLimS p (cn a) (cn b) (cn Q) (cn m) vl) (g5_tellLimit p (cn a) (cn b) (cn z) (cn Q) (cn m) vl) (v5_tellLimit p (cn a) (cn b) (cn z) (cn Q) (cn m) vl) (v12_doLimit_75 q (cn a) (cn b) (cn z) (cn Q) (cn m) vl (cn 0)) := by
    have W0 := ww_th (cn 0) H
    obtain ⟨R, hR⟩ : ∃ R, pI q 12 1 0 (cn 0) = R := ⟨_, rfl⟩
    rw [hR] at W0
    have r0 : R.1 12 1 0 = 0 := by rw [← hR]; exact t_1
    have t3 : pI R 12 1 0 (cn 3) = pI q 12 1 0 (cn 3) := by rw [← hR, t_t]
    obtain ⟨k3, k3g⟩ := lim_t (Q := pI q 12 1 0 (cn 3)) (a := cn a) (b := cn b) (z := cn z) (v := cn Q) (m := cn m) (life := vl) (by rw [t_1]; exact c30)
    obtain ⟨⟨gm, gs⟩, em, el⟩ := adm_ww (e := e) (by omega) hD W0 (a := a) (b := b) (by omega) (by omega) Q1 Q2 Q0
    have hop := open_eq (b := b) (by omega) W0.2.2.1
    have gop := g_open (q := R) (b := b) (by omega)
    have acc : LC R 40 < 40 → (v12_isOpen R (cn b) = 0 → m = 0) → g12_doLimit_121 R (cn a) (cn b) (cn z) (cn Q) (cn m) vl ∧ DoE (lgB lg (e + 1)) q N T D 60 1 0 (g5_tellLimit p (cn a) (cn b) (cn z) (cn Q) (cn m) vl) (v5_tellLimit p (cn a) (cn b) (cn z) (cn Q) (cn m) vl) (v12_doLimit_121 R (cn a) (cn b) (cn z) (cn Q) (cn m) vl) := by
      intro hl hm
      obtain ⟨⟨y1, y2⟩, y3⟩ := tell_limit (v6 := vl) W0 r0 hl (a := a) (b := b) (Q := Q) (by omega) (by omega) Q1 Q2 Q0 hz m1 m2 hm (by omega) (by omega) (by omega)
      refine ⟨y2, doe_a (x := cn 0) he y1 ?_ (by rw [hR]; exact y3)⟩
      have F := fx_v12_doLimit_121 (q := R) (cn (a : Int)) (cn (b : Int)) (cn z) (cn Q) (cn m) vl (fx_refl _)
      rw [F.1 0 (by decide), r0]
      rfl
    unfold kLimS v12_doLimit_75 bv12_doLimit_75 g12_doLimit_75 bg12_doLimit_75
    simp only [hR, r0, if_true, em, eb, hop, t3, k3]
    by_cases x1 : v12_isShut R (cn a) (cn b) (cn Q) = 0
    · have x1' : ¬ ¬ v12_isShut R (cn a) (cn b) (cn Q) = 0 := fun h => h x1
      simp only [if_pos x1, if_neg x1']
      by_cases x2 : v12_isOpen R (cn b) = 0
      · have x2' : ¬ ¬ v12_isOpen R (cn b) = 0 := fun h => h x2
        simp only [if_pos x2, if_neg x2']
        by_cases x3 : vl = cn (-100000)
        · simp only [if_pos x3]
          rw [x3] at k3g
          exact ⟨⟨gs, gop, by rw [x3]; exact k3g⟩, doe_x (by decide) rfl⟩
        · simp only [if_neg x3]
          by_cases x4 : 0 < cn m
          · simp only [if_pos x4]
            exact ⟨⟨gs, gop, k3g⟩, doe_x (by decide) rfl⟩
          · simp only [if_neg x4]
            obtain ⟨z1, z2⟩ := acc (el x1) (fun _ => by
              rw [zcn, cnlt (by decide) ⟨by omega, by omega⟩] at x4
              omega)
            exact ⟨⟨gs, gop, z1⟩, z2⟩
      · simp only [if_neg x2, if_pos x2]
        obtain ⟨z1, z2⟩ := acc (el x1) (fun h => absurd h x2)
        exact ⟨⟨gs, gop, z1⟩, z2⟩
    · simp only [if_neg x1, if_pos x1]
      exact ⟨⟨gs, k3g⟩, doe_x (by decide) rfl⟩
  by_cases h8 : isW vl (cn 0) (cn 9) = 0
  · have h8' : v12_in q vl (cn 0) (cn 9) = 0 := h8
    simp only [if_pos h8, if_pos h8']
    by_cases h9 : vl = cn (-100000)
    · simp only [if_pos h9]
      refine ⟨⟨ga, gi _ _ _, gp, g_qty _, gab _, gi _ _ _, gi _ _ _, S0.1⟩, S0.2⟩
    · simp only [if_neg h9]
      exact ⟨⟨ga, gi _ _ _, gp, g_qty _, gab _, gi _ _ _, gi _ _ _, s4⟩, doe_x (by decide) rfl⟩
  · have h8' : ¬ v12_in q vl (cn 0) (cn 9) = 0 := h8
    simp only [if_neg h8, if_neg h8']
    exact ⟨⟨ga, gi _ _ _, gp, g_qty _, gab _, gi _ _ _, gi _ _ _, S0.1⟩, S0.2⟩
end Limit2
