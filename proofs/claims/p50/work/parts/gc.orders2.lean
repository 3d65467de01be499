/-! orders, the second part -/
section Orders2
variable {p q : PM} {lg : Nat → Int32} {N T D e : Nat}
theorem do_peg {va vb vz vQ vo : Int32} (he : e + 1 ≤ 2000) (hD : D ≤ 1000000) (hN : N + 2 ≤ 1000000) (hT : T + 20000 ≤ 1000000000) (H : WW p q (lgB lg e) 99 99 (fun _ => False) N T D 6 (fun _ => 0)) : g12_doPeg q va vb vz vQ vo ∧ DoE (lgB lg (e + 1)) q N T D 60 1 (kPeg p va vb vz vQ vo) (g5_tellPeg p va vb vz vQ vo) (v5_tellPeg p va vb vz vQ vo) (v12_doPeg q va vb vz vQ vo) := by
  have c10 : ¬ cn 1 = (0 : Int32) := by decide
  have c20 : ¬ cn 2 = (0 : Int32) := by decide
  have c30 : ¬ cn 3 = (0 : Int32) := by decide
  have c00 : cn 0 = (0 : Int32) := rfl
  have gi : ∀ a b c, g12_in q a b c := fun a b c => g_in q a b c
  have gab : ∀ a, g12_abs q a := fun a => g_abs q a
  obtain ⟨ea, ga⟩ := acc_e q va
  unfold kPeg v12_doPeg bv12_doPeg g12_doPeg bg12_doPeg
  simp only [t_1, if_neg c10, if_neg c20, if_neg c30, if_pos c00]
  by_cases h1 : isW va (cn 0) (cn 7) = 0
  · have h1' : v12_isAccount q va = 0 := by rw [ea]; exact h1
    simp only [if_pos h1, if_pos h1']
    refine ⟨?_, doe_x (by decide) rfl⟩
    repeat' first
      | with_reducible exact ga
      | with_reducible exact gi _ _ _
      | with_reducible exact g_qty _
      | exact trivial
      | exact not_false
      | apply And.intro
      | (split <;> rename_i h9 <;> first | simp only [if_neg h9, if_true, if_false] | simp only [if_pos h9, if_true, if_false] | skip)
  have h1' : ¬ v12_isAccount q va = 0 := by rw [ea]; exact h1
  by_cases h2 : isW vb (cn 0) (cn 5) = 0
  · have h2' : v12_in q vb (cn 0) (cn 5) = 0 := h2
    simp only [if_neg h1, if_neg h1', if_pos h2, if_pos h2']
    refine ⟨?_, doe_x (by decide) rfl⟩
    repeat' first
      | with_reducible exact ga
      | with_reducible exact gi _ _ _
      | with_reducible exact g_qty _
      | exact trivial
      | exact not_false
      | apply And.intro
      | (split <;> rename_i h9 <;> first | simp only [if_neg h9, if_true, if_false] | simp only [if_pos h9, if_true, if_false] | skip)
  have h2' : ¬ v12_in q vb (cn 0) (cn 5) = 0 := h2
  obtain ⟨b, hb, rfl⟩ := isW_n (b := 5) (by decide) h2
  have eb := book_e p (a := b) (by omega)
  obtain ⟨pw, gp⟩ := pr_w (q := q) (b := b) (z := vz) (by omega) H.2.2.2.2.1
  simp only [if_neg h1, if_neg h1', if_neg h2, if_neg h2', eb, pw]
  by_cases h6 : v1_hasPrice p (b + 1) vz = 0
  · simp only [if_pos h6]
    refine ⟨?_, doe_x (by decide) rfl⟩
    repeat' first
      | with_reducible exact ga
      | with_reducible exact gi _ _ _
      | with_reducible exact g_qty _
      | with_reducible exact gp
      | exact trivial
      | exact not_false
      | apply And.intro
      | (split <;> rename_i h9 <;> first | simp only [if_neg h9, if_true, if_false] | simp only [if_pos h9, if_true, if_false] | skip)
  simp only [if_neg h6]
  by_cases h3 : isW vQ (cn (-50)) (cn 50) = 0
  · have h3' : v12_isQuantity q vQ = 0 := qty_z h3
    simp only [if_pos h3, if_pos h3']
    refine ⟨?_, doe_x (by decide) rfl⟩
    repeat' first
      | with_reducible exact ga
      | with_reducible exact gi _ _ _
      | with_reducible exact g_qty _
      | with_reducible exact gp
      | exact trivial
      | exact not_false
      | apply And.intro
      | (split <;> rename_i h9 <;> first | simp only [if_neg h9, if_true, if_false] | simp only [if_pos h9, if_true, if_false] | skip)
  by_cases h4 : vQ = 0
  · have h3' : v12_isQuantity q vQ = 0 := qty_0 h4
    simp only [if_neg h3, if_pos h4, if_pos h3']
    refine ⟨?_, doe_x (by decide) rfl⟩
    repeat' first
      | with_reducible exact ga
      | with_reducible exact gi _ _ _
      | with_reducible exact g_qty _
      | with_reducible exact gp
      | exact trivial
      | exact not_false
      | apply And.intro
      | (split <;> rename_i h9 <;> first | simp only [if_neg h9, if_true, if_false] | simp only [if_pos h9, if_true, if_false] | skip)
  have h3' : ¬ v12_isQuantity q vQ = 0 := qty_1 h3 h4
  simp only [if_neg h3, if_neg h4, if_neg h3']
  by_cases h7 : isW vo (cn 0) (cn 99) = 0
  · have h7' : v12_in q vo (cn 0) (cn 99) = 0 := h7
    simp only [if_pos h7, if_pos h7']
    refine ⟨?_, doe_x (by decide) rfl⟩
    repeat' first
      | with_reducible exact ga
      | with_reducible exact gi _ _ _
      | with_reducible exact g_qty _
      | with_reducible exact gp
      | exact trivial
      | exact not_false
      | apply And.intro
      | (split <;> rename_i h9 <;> first | simp only [if_neg h9, if_true, if_false] | simp only [if_pos h9, if_true, if_false] | skip)
  have h7' : ¬ v12_in q vo (cn 0) (cn 99) = 0 := h7
  simp only [if_neg h7, if_neg h7']
  obtain ⟨a, ha, rfl⟩ := isW_n (b := 7) (by decide) h1
  obtain ⟨Q, Q1, Q2, rfl⟩ := isW_z (a := -50) (b := 50) (by decide) (by decide) h3
  have Q0 : ¬ Q = 0 := fun h => h4 (by rw [h]; rfl)
  obtain ⟨z, rfl, hz⟩ := hp_pr (by omega) H.2.2.2.2.1 h6
  obtain ⟨o, o1, o2, rfl⟩ := isW_z (a := 0) (b := 99) (by decide) (by decide) h7
  obtain ⟨⟨gm, gs⟩, em, el⟩ := adm_ww (by omega) hD H (a := a) (b := b) (by omega) (by omega) Q1 Q2 Q0
  simp only [em]
  by_cases h5 : v12_isShut q (cn a) (cn b) (cn Q) = 0
  · have h5' : ¬ ¬ v12_isShut q (cn a) (cn b) (cn Q) = 0 := fun h => h h5
    obtain ⟨⟨x1, x2, x3⟩, x4⟩ := tell_peg (ww_th (cn 0) H) (by rw [lc_th]; exact el h5) (a := a) (b := b) (Q := Q) (by omega) (by omega) Q1 Q2 Q0 hz o1 o2 (by omega)
    simp only [if_pos h5, if_neg h5']
    refine ⟨?_, doe_a (x := cn 0) he x1 ?_ x4⟩
    · repeat' first
        | with_reducible exact ga
        | with_reducible exact gi _ _ _
        | with_reducible exact g_qty _
        | with_reducible exact gp
        | with_reducible exact gs
        | with_reducible exact x2
        | with_reducible exact x3
        | exact trivial
        | exact not_false
        | apply And.intro
        | (split <;> rename_i h9 <;> first | simp only [if_neg h9, if_true, if_false] | simp only [if_pos h9, if_true, if_false] | skip)
    · have F : FX (pI q 12 1 0 (cn 0)) (pI (v12_newOrder (pI q 12 1 0 (cn 0)) (cn a) (cn b) (cn Q) (cn z) (cn 0) (cn 2) ((pI q 12 1 0 (cn 0)).1 12 1 18)).2 13 26 (v12_newOrder (pI q 12 1 0 (cn 0)) (cn a) (cn b) (cn Q) (cn z) (cn 0) (cn 2) ((pI q 12 1 0 (cn 0)).1 12 1 18)).1.toNatClampNeg (cn o)) := by
        refine fx_13 (by decide) ?_
        apply fx_v12_newOrder
        exact fx_refl _
      rw [F.1 0 (by decide), t_1]
  · simp only [if_neg h5, if_pos h5]
    refine ⟨?_, doe_x (by decide) rfl⟩
    repeat' first
      | with_reducible exact ga
      | with_reducible exact gi _ _ _
      | with_reducible exact g_qty _
      | with_reducible exact gp
      | with_reducible exact gs
      | exact trivial
      | exact not_false
      | apply And.intro
      | (split <;> rename_i h9 <;> first | simp only [if_neg h9, if_true, if_false] | simp only [if_pos h9, if_true, if_false] | skip)
theorem stop_x {va vb vg vz vQ : Int32} : (v12_doStop_17 q va vb vg vz vQ = (cn 0, pI q 12 1 0 (cn 1)) ∧ g12_doStop_17 q va vb vg vz vQ) ∧ v12_doStop_53 q va vb vg vz vQ = (cn 0, pI q 12 1 0 (cn 2)) ∧ g12_doStop_53 q va vb vg vz vQ := by
  have c10 : ¬ cn 1 = (0 : Int32) := by decide
  have c20 : ¬ cn 2 = (0 : Int32) := by decide
  unfold v12_doStop_17 bv12_doStop_17 g12_doStop_17 bg12_doStop_17 v12_doStop_53 bv12_doStop_53 g12_doStop_53 bg12_doStop_53
  simp only [t_1, if_neg c10, if_neg c20]
  exact ⟨⟨trivial, trivial⟩, trivial, trivial⟩
theorem do_stop {va vb vg vz vQ : Int32} (he : e + 1 ≤ 2000) (hD : D ≤ 1000000) (hN : N + 2 ≤ 1000000) (hT : T + 20000 ≤ 1000000000) (H : WW p q (lgB lg e) 99 99 (fun _ => False) N T D 6 (fun _ => 0)) : g12_doStop q va vb vg vz vQ ∧ DoE (lgB lg (e + 1)) q N T D 60 1 (kStop p va vb vg vz vQ) (g5_tellStop p va vb vg vz vQ) (v5_tellStop p va vb vg vz vQ) (v12_doStop q va vb vg vz vQ) := by
  have c30 : ¬ cn 3 = (0 : Int32) := by decide
  have c00 : cn 0 = (0 : Int32) := rfl
  have gi : ∀ a b c, g12_in q a b c := fun a b c => g_in q a b c
  obtain ⟨ea, ga⟩ := acc_e q va
  obtain ⟨⟨s1, s2⟩, s3, s4⟩ := stop_x (q := q) (va := va) (vb := vb) (vg := vg) (vz := vz) (vQ := vQ)
  unfold kStop v12_doStop bv12_doStop g12_doStop bg12_doStop
  simp only [t_1, if_neg c30, if_pos c00, s1, s3]
  by_cases h1 : isW va (cn 0) (cn 7) = 0
  · have h1' : v12_isAccount q va = 0 := by rw [ea]; exact h1
    simp only [if_pos h1, if_pos h1']
    refine ⟨?_, doe_x (by decide) rfl⟩
    repeat' first
      | with_reducible exact ga
      | with_reducible exact gi _ _ _
      | with_reducible exact g_qty _
      | with_reducible exact s2
      | exact trivial
      | exact not_false
      | apply And.intro
      | (split <;> rename_i h9 <;> first | simp only [if_neg h9, if_true, if_false] | simp only [if_pos h9, if_true, if_false] | skip)
  have h1' : ¬ v12_isAccount q va = 0 := by rw [ea]; exact h1
  by_cases h2 : isW vb (cn 0) (cn 3) = 0
  · have h2' : v12_in q vb (cn 0) (cn 3) = 0 := h2
    simp only [if_neg h1, if_neg h1', if_pos h2, if_pos h2']
    refine ⟨?_, doe_x (by decide) rfl⟩
    repeat' first
      | with_reducible exact ga
      | with_reducible exact gi _ _ _
      | with_reducible exact g_qty _
      | with_reducible exact s2
      | exact trivial
      | exact not_false
      | apply And.intro
      | (split <;> rename_i h9 <;> first | simp only [if_neg h9, if_true, if_false] | simp only [if_pos h9, if_true, if_false] | skip)
  have h2' : ¬ v12_in q vb (cn 0) (cn 3) = 0 := h2
  by_cases h6 : isW vg (cn 1) (cn 9999) = 0
  · have h6' : v12_in q vg (cn 1) (cn 9999) = 0 := h6
    simp only [if_neg h1, if_neg h1', if_neg h2, if_neg h2', if_pos h6, if_pos h6']
    refine ⟨?_, doe_x (by decide) rfl⟩
    repeat' first
      | with_reducible exact ga
      | with_reducible exact gi _ _ _
      | with_reducible exact g_qty _
      | with_reducible exact s4
      | exact trivial
      | exact not_false
      | apply And.intro
      | (split <;> rename_i h9 <;> first | simp only [if_neg h9, if_true, if_false] | simp only [if_pos h9, if_true, if_false] | skip)
  have h6' : ¬ v12_in q vg (cn 1) (cn 9999) = 0 := h6
  by_cases h7 : isW vz (cn 0) (cn 9999) = 0
  · have h7' : v12_in q vz (cn 0) (cn 9999) = 0 := h7
    simp only [if_neg h1, if_neg h1', if_neg h2, if_neg h2', if_neg h6, if_neg h6', if_pos h7, if_pos h7']
    refine ⟨?_, doe_x (by decide) rfl⟩
    repeat' first
      | with_reducible exact ga
      | with_reducible exact gi _ _ _
      | with_reducible exact g_qty _
      | with_reducible exact s4
      | exact trivial
      | exact not_false
      | apply And.intro
      | (split <;> rename_i h9 <;> first | simp only [if_neg h9, if_true, if_false] | simp only [if_pos h9, if_true, if_false] | skip)
  have h7' : ¬ v12_in q vz (cn 0) (cn 9999) = 0 := h7
  simp only [if_neg h1, if_neg h1', if_neg h2, if_neg h2', if_neg h6, if_neg h6', if_neg h7, if_neg h7']
  by_cases h3 : isW vQ (cn (-50)) (cn 50) = 0
  · have h3' : v12_isQuantity q vQ = 0 := qty_z h3
    simp only [if_pos h3, if_pos h3']
    refine ⟨?_, doe_x (by decide) rfl⟩
    repeat' first
      | with_reducible exact ga
      | with_reducible exact gi _ _ _
      | with_reducible exact g_qty _
      | with_reducible exact s4
      | exact trivial
      | exact not_false
      | apply And.intro
      | (split <;> rename_i h9 <;> first | simp only [if_neg h9, if_true, if_false] | simp only [if_pos h9, if_true, if_false] | skip)
  by_cases h4 : vQ = 0
  · have h3' : v12_isQuantity q vQ = 0 := qty_0 h4
    simp only [if_neg h3, if_pos h4, if_pos h3']
    refine ⟨?_, doe_x (by decide) rfl⟩
    repeat' first
      | with_reducible exact ga
      | with_reducible exact gi _ _ _
      | with_reducible exact g_qty _
      | with_reducible exact s4
      | exact trivial
      | exact not_false
      | apply And.intro
      | (split <;> rename_i h9 <;> first | simp only [if_neg h9, if_true, if_false] | simp only [if_pos h9, if_true, if_false] | skip)
  have h3' : ¬ v12_isQuantity q vQ = 0 := qty_1 h3 h4
  simp only [if_neg h3, if_neg h4, if_neg h3']
  obtain ⟨a, ha, rfl⟩ := isW_n (b := 7) (by decide) h1
  obtain ⟨b, hb, rfl⟩ := isW_n (b := 3) (by decide) h2
  obtain ⟨Q, Q1, Q2, rfl⟩ := isW_z (a := -50) (b := 50) (by decide) (by decide) h3
  have Q0 : ¬ Q = 0 := fun h => h4 (by rw [h]; rfl)
  obtain ⟨z, z1, z2, rfl⟩ := isW_z (a := 0) (b := 9999) (by decide) (by decide) h7
  obtain ⟨⟨gm, gs⟩, em, el⟩ := adm_ww (by omega) hD H (a := a) (b := b) (by omega) (by omega) Q1 Q2 Q0
  simp only [em]
  by_cases h5 : v12_isShut q (cn a) (cn b) (cn Q) = 0
  · have h5' : ¬ ¬ v12_isShut q (cn a) (cn b) (cn Q) = 0 := fun h => h h5
    obtain ⟨⟨x1, x2, x3⟩, x4⟩ := tell_stop (g := vg) (ww_th (cn 0) H) (by rw [lc_th]; exact el h5) (a := a) (b := b) (Q := Q) (z := z) (by omega) (by omega) Q1 Q2 Q0 z1 z2 (by omega)
    unfold aStop at x4
    dsimp only at x4
    simp only [if_pos h5, if_neg h5']
    by_cases hz0 : cn z = 0
    · simp only [if_pos hz0] at x2 x3 x4 ⊢
      refine ⟨?_, doe_a (x := cn 0) he x1 ?_ x4⟩
      · repeat' first
          | with_reducible exact ga
          | with_reducible exact gi _ _ _
          | with_reducible exact g_qty _
          | with_reducible exact gs
          | with_reducible exact x2
          | with_reducible exact x3
          | exact trivial
          | exact not_false
          | apply And.intro
          | (split <;> rename_i h9 <;> first | simp only [if_neg h9, if_true, if_false] | simp only [if_pos h9, if_true, if_false] | skip)
      · have F : FX (pI q 12 1 0 (cn 0)) (pI (v12_newOrder (pI q 12 1 0 (cn 0)) (cn a) (cn b) (cn Q) (cn z) (cn 1) (cn 3) ((pI q 12 1 0 (cn 0)).1 12 1 18)).2 13 27 (v12_newOrder (pI q 12 1 0 (cn 0)) (cn a) (cn b) (cn Q) (cn z) (cn 1) (cn 3) ((pI q 12 1 0 (cn 0)).1 12 1 18)).1.toNatClampNeg vg) := by
          refine fx_13 (by decide) ?_
          apply fx_v12_newOrder
          exact fx_refl _
        rw [F.1 0 (by decide), t_1]
    · simp only [if_neg hz0] at x2 x3 x4 ⊢
      refine ⟨?_, doe_a (x := cn 0) he x1 ?_ x4⟩
      · repeat' first
          | with_reducible exact ga
          | with_reducible exact gi _ _ _
          | with_reducible exact g_qty _
          | with_reducible exact gs
          | with_reducible exact x2
          | with_reducible exact x3
          | exact trivial
          | exact not_false
          | apply And.intro
          | (split <;> rename_i h9 <;> first | simp only [if_neg h9, if_true, if_false] | simp only [if_pos h9, if_true, if_false] | skip)
      · have F : FX (pI q 12 1 0 (cn 0)) (pI (v12_newOrder (pI q 12 1 0 (cn 0)) (cn a) (cn b) (cn Q) (cn z) (cn 0) (cn 3) ((pI q 12 1 0 (cn 0)).1 12 1 18)).2 13 27 (v12_newOrder (pI q 12 1 0 (cn 0)) (cn a) (cn b) (cn Q) (cn z) (cn 0) (cn 3) ((pI q 12 1 0 (cn 0)).1 12 1 18)).1.toNatClampNeg vg) := by
          refine fx_13 (by decide) ?_
          apply fx_v12_newOrder
          exact fx_refl _
        rw [F.1 0 (by decide), t_1]
  · simp only [if_neg h5, if_pos h5]
    refine ⟨?_, doe_x (by decide) rfl⟩
    repeat' first
      | with_reducible exact ga
      | with_reducible exact gi _ _ _
      | with_reducible exact g_qty _
      | with_reducible exact gs
      | exact trivial
      | exact not_false
      | apply And.intro
      | (split <;> rename_i h9 <;> first | simp only [if_neg h9, if_true, if_false] | simp only [if_pos h9, if_true, if_false] | skip)
end Orders2
