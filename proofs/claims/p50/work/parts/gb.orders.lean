/-! orders: with their refusals -/
noncomputable def kMarket (p : PM) (a b Q : Int32) : Nat := if isW a (cn 0) (cn 7) = 0 then 1 else if isW b (cn 0) (cn 5) = 0 then 1 else if isW Q (cn (-50)) (cn 50) = 0 then 2 else if Q = 0 then 2 else if v5_admits p a b Q = 0 then 3 else 0
noncomputable def kIceberg (p : PM) (a b z Q s : Int32) : Nat := if isW a (cn 0) (cn 7) = 0 then 1 else if isW b (cn 0) (cn 5) = 0 then 1 else if v1_hasPrice p (v6_bookAt p b) z = 0 then 2 else if isW Q (cn (-50)) (cn 50) = 0 then 2 else if Q = 0 then 2 else if isW s (cn 1) (v14_abs_0f7a4 p Q) = 0 then 2 else if v5_admits p a b Q = 0 then 3 else 0
noncomputable def kPeg (p : PM) (a b z Q o : Int32) : Nat := if isW a (cn 0) (cn 7) = 0 then 1 else if isW b (cn 0) (cn 5) = 0 then 1 else if v1_hasPrice p (v6_bookAt p b) z = 0 then 2 else if isW Q (cn (-50)) (cn 50) = 0 then 2 else if Q = 0 then 2 else if isW o (cn 0) (cn 99) = 0 then 2 else if v5_admits p a b Q = 0 then 3 else 0
noncomputable def kStop (p : PM) (a b g z Q : Int32) : Nat := if isW a (cn 0) (cn 7) = 0 then 1 else if isW b (cn 0) (cn 3) = 0 then 1 else if isW g (cn 1) (cn 9999) = 0 then 2 else if isW z (cn 0) (cn 9999) = 0 then 2 else if isW Q (cn (-50)) (cn 50) = 0 then 2 else if Q = 0 then 2 else if v5_admits p a b Q = 0 then 3 else 0
section Orders
variable {p q : PM} {lg : Nat → Int32} {N T D e : Nat}
theorem pb_ww (he : e ≤ 2000) (hD : D ≤ 1000000) (H : WW p q (lgB lg e) 99 99 (fun _ => False) N T D 6 (fun _ => 0)) : PB q := by
  have hPD := H.2.2.2.2.2.1.2.2.2.2.2.2.2.2.2.2
  have h48 := H.2.2.2.1.2.2.1
  intro k hk
  have h := hPD.1 (k % 4) (by omega)
  rw [lgB_2 he, h48, cn_I ⟨by omega, by omega⟩] at h
  have h2 := psF_one (f := q.1 13 1) (c := k % 4) (a := k / 4) 9 (by omega)
  rw [show 4 * (k / 4) + k % 4 = k by omega] at h2
  exact ⟨(q.1 13 1 k).toInt, by omega, by omega, cn_of _⟩
theorem lc_le (q : PM) : ∀ n, LC q n ≤ n
  | 0 => Nat.le_refl _
  | n + 1 => by
    have h := lc_le q n
    show LC q n + (if q.1 15 3 n = 0 then 0 else 1) ≤ n + 1
    split <;> omega
theorem adm_ww {a b : Nat} {Q : Int} (he : e ≤ 2000) (hD : D ≤ 1000000) (H : WW p q (lgB lg e) 99 99 (fun _ => False) N T D 6 (fun _ => 0)) (ha : a < 8) (hb : b < 6) (h1 : -50 ≤ Q) (h2 : Q ≤ 50) (h3 : ¬ Q = 0) : (g5_admits p (cn a) (cn b) (cn Q) ∧ g12_isShut q (cn a) (cn b) (cn Q)) ∧ (v5_admits p (cn a) (cn b) (cn Q) = 0) = (¬ v12_isShut q (cn a) (cn b) (cn Q) = 0) ∧ (v12_isShut q (cn a) (cn b) (cn Q) = 0 → LC q 40 < 40) := by
  obtain ⟨k1, k2⟩ := shut_eq ha hb H.1.1 H.2.2.2.2.1 (af_ar H.2.1) (pb_ww he hD H) (fun m hm => (H.2.2.2.2.2.1.1 m hm).2.2.2.1) h1 h2 h3
  refine ⟨k1, ?_, fun h => ?_⟩
  · rw [k2]
    by_cases h : v12_isShut q (cn a) (cn b) (cn Q) = 0
    · rw [if_pos h]
      exact propext ⟨fun x => absurd x cn01, fun x => absurd h x⟩
    · rw [if_neg h]
      exact propext ⟨fun _ => h, fun _ => rfl⟩
  · have c10 : ¬ cn 1 = (0 : Int32) := by decide
    unfold v12_isShut bv12_isShut at h
    by_cases x1 : q.1 15 9 (cn (a : Int) / cn 2).toNatClampNeg = 0
    · rw [if_pos x1] at h
      by_cases x2 : v12_live q < cn 40
      · rw [lc_num H.1.1, cnlt ⟨by have := lc_le q 40; omega, by have := lc_le q 40; omega⟩ (by decide)] at x2
        omega
      · rw [if_neg x2] at h
        exact absurd h c10
    · rw [if_neg x1] at h
      exact absurd h c10
theorem qty_z {Q : Int32} (h : isW Q (cn (-50)) (cn 50) = 0) : v12_isQuantity q Q = 0 := by
  unfold v12_isQuantity bv12_isQuantity
  rw [in_w, if_pos h]
  rfl
theorem qty_0 {Q : Int32} (h : Q = 0) : v12_isQuantity q Q = 0 := by
  unfold v12_isQuantity bv12_isQuantity
  rw [if_pos h, ite_self]
  rfl
theorem qty_1 {Q : Int32} (h : ¬ isW Q (cn (-50)) (cn 50) = 0) (h2 : ¬ Q = 0) : ¬ v12_isQuantity q Q = 0 := by
  unfold v12_isQuantity bv12_isQuantity
  rw [in_w, if_neg h, if_neg h2]
  exact cn01
theorem g_qty (Q : Int32) : g12_isQuantity q Q := by
  unfold g12_isQuantity bg12_isQuantity
  refine ⟨g_in _ _ _ _, ?_⟩
  repeat' first
    | exact trivial
    | split
theorem pr_w {b : Nat} {z : Int32} (hb : b < 6) (hK : CK p) : (v12_isPrice q (cn b) z = 0) = (v1_hasPrice p (b + 1) z = 0) ∧ g12_isPrice q (cn b) z := by
  obtain ⟨⟨-, k0⟩, k1, k2⟩ := price_e (q := q) hb hK (I_rg z)
  rw [← cn_of z] at k0 k1 k2
  exact ⟨by rw [k1, k2], k0⟩
theorem do_market {va vb vQ : Int32} (he : e + 1 ≤ 2000) (hD : D ≤ 1000000) (hN : N + 2 ≤ 1000000) (hT : T + 20000 ≤ 1000000000) (H : WW p q (lgB lg e) 99 99 (fun _ => False) N T D 6 (fun _ => 0)) : g12_doMarket q va vb vQ ∧ DoE (lgB lg (e + 1)) q N T D 60 1 (kMarket p va vb vQ) (g5_tellMarket p va vb vQ) (v5_tellMarket p va vb vQ) (v12_doMarket q va vb vQ) := by
  have c10 : ¬ cn 1 = (0 : Int32) := by decide
  have c20 : ¬ cn 2 = (0 : Int32) := by decide
  have c30 : ¬ cn 3 = (0 : Int32) := by decide
  have c00 : cn 0 = (0 : Int32) := rfl
  have gi : ∀ a b c, g12_in q a b c := fun a b c => g_in q a b c
  obtain ⟨ea, ga⟩ := acc_e q va
  unfold kMarket v12_doMarket bv12_doMarket g12_doMarket bg12_doMarket
  simp only [t_1, if_neg c10, if_neg c20, if_neg c30, if_pos c00]
  by_cases h1 : isW va (cn 0) (cn 7) = 0
  · have h1' : v12_isAccount q va = 0 := by rw [ea]; exact h1
    simp only [if_pos h1, if_pos h1']
    exact ⟨⟨ga, trivial⟩, doe_x (by decide) rfl⟩
  have h1' : ¬ v12_isAccount q va = 0 := by rw [ea]; exact h1
  by_cases h2 : isW vb (cn 0) (cn 5) = 0
  · have h2' : v12_in q vb (cn 0) (cn 5) = 0 := h2
    simp only [if_neg h1, if_neg h1', if_pos h2, if_pos h2']
    exact ⟨⟨ga, gi _ _ _, trivial⟩, doe_x (by decide) rfl⟩
  have h2' : ¬ v12_in q vb (cn 0) (cn 5) = 0 := h2
  by_cases h3 : isW vQ (cn (-50)) (cn 50) = 0
  · have h3' : v12_isQuantity q vQ = 0 := qty_z h3
    simp only [if_neg h1, if_neg h1', if_neg h2, if_neg h2', if_pos h3, if_pos h3']
    exact ⟨⟨ga, gi _ _ _, g_qty _, trivial⟩, doe_x (by decide) rfl⟩
  by_cases h4 : vQ = 0
  · have h3' : v12_isQuantity q vQ = 0 := qty_0 h4
    simp only [if_neg h1, if_neg h1', if_neg h2, if_neg h2', if_neg h3, if_pos h4, if_pos h3']
    exact ⟨⟨ga, gi _ _ _, g_qty _, trivial⟩, doe_x (by decide) rfl⟩
  have h3' : ¬ v12_isQuantity q vQ = 0 := qty_1 h3 h4
  obtain ⟨a, ha, rfl⟩ := isW_n (b := 7) (by decide) h1
  obtain ⟨b, hb, rfl⟩ := isW_n (b := 5) (by decide) h2
  obtain ⟨Q, Q1, Q2, rfl⟩ := isW_z (a := -50) (b := 50) (by decide) (by decide) h3
  have Q0 : ¬ Q = 0 := fun h => h4 (by rw [h]; rfl)
  obtain ⟨⟨gm, gs⟩, em, el⟩ := adm_ww (by omega) hD H (a := a) (b := b) (by omega) (by omega) Q1 Q2 Q0
  simp only [if_neg h1, if_neg h1', if_neg h2, if_neg h2', if_neg h3, if_neg h3', if_neg h4, em]
  by_cases h5 : v12_isShut q (cn a) (cn b) (cn Q) = 0
  · have h5' : ¬ ¬ v12_isShut q (cn a) (cn b) (cn Q) = 0 := fun h => h h5
    have hl : LC (pI q 12 1 0 (cn 0)) 40 < 40 := by
      have e1 : ∀ n, LC (pI q 12 1 0 (cn 0)) n = LC q n := by
        intro n
        induction n with
        | zero => rfl
        | succ n ih =>
          show LC (pI q 12 1 0 (cn 0)) n + (if (pI q 12 1 0 (cn 0)).1 15 3 n = 0 then 0 else 1) = LC q n + _
          rw [ih, th_k (by decide)]
      rw [e1]
      exact el h5
    obtain ⟨⟨x1, x2, x3⟩, x4⟩ := tell_market (ww_th (cn 0) H) hl (a := a) (b := b) (Q := Q) (by omega) (by omega) Q1 Q2 Q0 (by omega) (by omega) (by omega)
    simp only [if_pos h5, if_neg h5']
    refine ⟨⟨ga, gi _ _ _, g_qty _, gs, x2, x3, trivial⟩, doe_a (x := cn 0) he x1 ?_ x4⟩
    have F : FX (pI q 12 1 0 (cn 0)) (v12_enters (v12_newOrder (pI q 12 1 0 (cn 0)) (cn a) (cn b) (cn Q) (cn 0) (cn 1) (cn 0) ((pI q 12 1 0 (cn 0)).1 12 1 18)).2 (v12_newOrder (pI q 12 1 0 (cn 0)) (cn a) (cn b) (cn Q) (cn 0) (cn 1) (cn 0) ((pI q 12 1 0 (cn 0)).1 12 1 18)).1) := by
      apply fx_v12_enters
      apply fx_v12_newOrder
      exact fx_refl _
    rw [F.1 0 (by decide), t_1]
  · simp only [if_neg h5, if_pos h5]
    exact ⟨⟨ga, gi _ _ _, g_qty _, gs, trivial⟩, doe_x (by decide) rfl⟩
theorem lc_th (x : Int32) : ∀ n, LC (pI q 12 1 0 x) n = LC q n
  | 0 => rfl
  | n + 1 => by
    show LC (pI q 12 1 0 x) n + (if (pI q 12 1 0 x).1 15 3 n = 0 then 0 else 1) = LC q n + _
    rw [lc_th x n, th_k (by decide)]
theorem abs_z {Q : Int} {s : Int32} (h1 : -50 ≤ Q) (h2 : Q ≤ 50) {a : Int} (ha : rg a) (h : ¬ isW s (cn a) (v14_abs_0f7a4 p (cn Q)) = 0) : ∃ z : Int, a ≤ z ∧ z ≤ Q.natAbs ∧ s = cn z := by
  have e : v14_abs_0f7a4 p (cn Q) = cn Q.natAbs := absQ_e p h1 h2
  rw [e] at h
  exact isW_z ha ⟨by omega, by omega⟩ h
theorem do_iceberg {va vb vz vQ vs : Int32} (he : e + 1 ≤ 2000) (hD : D ≤ 1000000) (hN : N + 2 ≤ 1000000) (hT : T + 20000 ≤ 1000000000) (H : WW p q (lgB lg e) 99 99 (fun _ => False) N T D 6 (fun _ => 0)) : g12_doIceberg q va vb vz vQ vs ∧ DoE (lgB lg (e + 1)) q N T D 60 1 (kIceberg p va vb vz vQ vs) (g5_tellIceberg p va vb vz vQ vs) (v5_tellIceberg p va vb vz vQ vs) (v12_doIceberg q va vb vz vQ vs) := by
  have c10 : ¬ cn 1 = (0 : Int32) := by decide
  have c20 : ¬ cn 2 = (0 : Int32) := by decide
  have c30 : ¬ cn 3 = (0 : Int32) := by decide
  have c00 : cn 0 = (0 : Int32) := rfl
  have gi : ∀ a b c, g12_in q a b c := fun a b c => g_in q a b c
  have gab : ∀ a, g12_abs q a := fun a => g_abs q a
  obtain ⟨ea, ga⟩ := acc_e q va
  unfold kIceberg v12_doIceberg bv12_doIceberg g12_doIceberg bg12_doIceberg
  simp only [t_1, if_neg c10, if_neg c20, if_neg c30, if_pos c00]
  by_cases h1 : isW va (cn 0) (cn 7) = 0
  · have h1' : v12_isAccount q va = 0 := by rw [ea]; exact h1
    simp only [if_pos h1, if_pos h1']
    refine ⟨?_, doe_x (by decide) rfl⟩
    repeat' first
      | with_reducible exact ga
      | with_reducible exact gi _ _ _
      | with_reducible exact g_qty _
      | exact trivial
      | exact not_false
      | apply And.intro
      | (split <;> rename_i h9 <;> first | simp only [if_neg h9, if_true, if_false] | simp only [if_pos h9, if_true, if_false] | skip)
  have h1' : ¬ v12_isAccount q va = 0 := by rw [ea]; exact h1
  by_cases h2 : isW vb (cn 0) (cn 5) = 0
  · have h2' : v12_in q vb (cn 0) (cn 5) = 0 := h2
    simp only [if_neg h1, if_neg h1', if_pos h2, if_pos h2']
    refine ⟨?_, doe_x (by decide) rfl⟩
    repeat' first
      | with_reducible exact ga
      | with_reducible exact gi _ _ _
      | with_reducible exact g_qty _
      | exact trivial
      | exact not_false
      | apply And.intro
      | (split <;> rename_i h9 <;> first | simp only [if_neg h9, if_true, if_false] | simp only [if_pos h9, if_true, if_false] | skip)
  have h2' : ¬ v12_in q vb (cn 0) (cn 5) = 0 := h2
  obtain ⟨b, hb, rfl⟩ := isW_n (b := 5) (by decide) h2
  have eb := book_e p (a := b) (by omega)
  obtain ⟨pw, gp⟩ := pr_w (q := q) (b := b) (z := vz) (by omega) H.2.2.2.2.1
  simp only [if_neg h1, if_neg h1', if_neg h2, if_neg h2', eb, pw]
  by_cases h6 : v1_hasPrice p (b + 1) vz = 0
  · simp only [if_pos h6]
    refine ⟨?_, doe_x (by decide) rfl⟩
    repeat' first
      | with_reducible exact ga
      | with_reducible exact gi _ _ _
      | with_reducible exact g_qty _
      | with_reducible exact gp
      | exact trivial
      | exact not_false
      | apply And.intro
      | (split <;> rename_i h9 <;> first | simp only [if_neg h9, if_true, if_false] | simp only [if_pos h9, if_true, if_false] | skip)
  simp only [if_neg h6]
  by_cases h3 : isW vQ (cn (-50)) (cn 50) = 0
  · have h3' : v12_isQuantity q vQ = 0 := qty_z h3
    simp only [if_pos h3, if_pos h3']
    refine ⟨?_, doe_x (by decide) rfl⟩
    repeat' first
      | with_reducible exact ga
      | with_reducible exact gi _ _ _
      | with_reducible exact g_qty _
      | with_reducible exact gp
      | exact trivial
      | exact not_false
      | apply And.intro
      | (split <;> rename_i h9 <;> first | simp only [if_neg h9, if_true, if_false] | simp only [if_pos h9, if_true, if_false] | skip)
  by_cases h4 : vQ = 0
  · have h3' : v12_isQuantity q vQ = 0 := qty_0 h4
    simp only [if_neg h3, if_pos h4, if_pos h3']
    refine ⟨?_, doe_x (by decide) rfl⟩
    repeat' first
      | with_reducible exact ga
      | with_reducible exact gi _ _ _
      | with_reducible exact g_qty _
      | with_reducible exact gp
      | exact trivial
      | exact not_false
      | apply And.intro
      | (split <;> rename_i h9 <;> first | simp only [if_neg h9, if_true, if_false] | simp only [if_pos h9, if_true, if_false] | skip)
  have h3' : ¬ v12_isQuantity q vQ = 0 := qty_1 h3 h4
  simp only [if_neg h3, if_neg h4, if_neg h3']
  by_cases h7 : isW vs (cn 1) (v14_abs_0f7a4 p vQ) = 0
  · have h7' : v12_in q vs (cn 1) (v12_abs q vQ) = 0 := h7
    simp only [if_pos h7, if_pos h7']
    refine ⟨?_, doe_x (by decide) rfl⟩
    repeat' first
      | with_reducible exact ga
      | with_reducible exact gi _ _ _
      | with_reducible exact g_qty _
      | with_reducible exact gp
      | with_reducible exact gab _
      | exact trivial
      | exact not_false
      | apply And.intro
      | (split <;> rename_i h9 <;> first | simp only [if_neg h9, if_true, if_false] | simp only [if_pos h9, if_true, if_false] | skip)
  have h7' : ¬ v12_in q vs (cn 1) (v12_abs q vQ) = 0 := h7
  simp only [if_neg h7, if_neg h7']
  obtain ⟨a, ha, rfl⟩ := isW_n (b := 7) (by decide) h1
  obtain ⟨Q, Q1, Q2, rfl⟩ := isW_z (a := -50) (b := 50) (by decide) (by decide) h3
  have Q0 : ¬ Q = 0 := fun h => h4 (by rw [h]; rfl)
  obtain ⟨z, rfl, hz⟩ := hp_pr (by omega) H.2.2.2.2.1 h6
  obtain ⟨s, s1, s2, rfl⟩ := abs_z Q1 Q2 (by decide) h7
  obtain ⟨⟨gm, gs⟩, em, el⟩ := adm_ww (by omega) hD H (a := a) (b := b) (by omega) (by omega) Q1 Q2 Q0
  simp only [em]
  by_cases h5 : v12_isShut q (cn a) (cn b) (cn Q) = 0
  · have h5' : ¬ ¬ v12_isShut q (cn a) (cn b) (cn Q) = 0 := fun h => h h5
    obtain ⟨⟨x1, x2, x3, x5⟩, x4⟩ := tell_iceberg (ww_th (cn 0) H) (by rw [lc_th]; exact el h5) (a := a) (b := b) (Q := Q) (by omega) (by omega) Q1 Q2 Q0 hz s1 s2 (by omega) (by omega) (by omega)
    simp only [if_pos h5, if_neg h5']
    refine ⟨?_, doe_a (x := cn 0) he x1 ?_ x4⟩
    · repeat' first
        | with_reducible exact ga
        | with_reducible exact gi _ _ _
        | with_reducible exact g_qty _
        | with_reducible exact gp
        | with_reducible exact gab _
        | with_reducible exact gs
        | with_reducible exact x2
        | with_reducible exact x3
        | with_reducible exact x5
        | exact trivial
        | exact not_false
        | apply And.intro
        | (split <;> rename_i h9 <;> first | simp only [if_neg h9, if_true, if_false] | simp only [if_pos h9, if_true, if_false] | skip)
    · have F : FX (pI q 12 1 0 (cn 0)) (v12_enters (pI (v12_newOrder (pI q 12 1 0 (cn 0)) (cn a) (cn b) (cn Q) (cn z) (cn 0) (cn 1) ((pI q 12 1 0 (cn 0)).1 12 1 18)).2 13 21 (v12_newOrder (pI q 12 1 0 (cn 0)) (cn a) (cn b) (cn Q) (cn z) (cn 0) (cn 1) ((pI q 12 1 0 (cn 0)).1 12 1 18)).1.toNatClampNeg (cn s)) (v12_newOrder (pI q 12 1 0 (cn 0)) (cn a) (cn b) (cn Q) (cn z) (cn 0) (cn 1) ((pI q 12 1 0 (cn 0)).1 12 1 18)).1) := by
        apply fx_v12_enters
        refine fx_13 (by decide) ?_
        apply fx_v12_newOrder
        exact fx_refl _
      rw [F.1 0 (by decide), t_1]
  · simp only [if_neg h5, if_pos h5]
    refine ⟨?_, doe_x (by decide) rfl⟩
    repeat' first
      | with_reducible exact ga
      | with_reducible exact gi _ _ _
      | with_reducible exact g_qty _
      | with_reducible exact gp
      | with_reducible exact gab _
      | with_reducible exact gs
      | exact trivial
      | exact not_false
      | apply And.intro
      | (split <;> rename_i h9 <;> first | simp only [if_neg h9, if_true, if_false] | simp only [if_pos h9, if_true, if_false] | skip)
end Orders
