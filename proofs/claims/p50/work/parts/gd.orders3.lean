/-! quotes and limits: with their refusals -/
noncomputable def kQuote (p : PM) (a b z1 z2 n : Int32) : Nat := if isW a (cn 0) (cn 7) = 0 then 1 else if isW b (cn 0) (cn 5) = 0 then 1 else if v1_hasPrice p (v6_bookAt p b) z1 = 0 then 2 else if v1_hasPrice p (v6_bookAt p b) z2 = 0 then 2 else if z1 < z2 then (if isW n (cn 1) (cn 50) = 0 then 2 else if cn 40 < v6_countLive p + cn 2 then 3 else if v5_admits p a b n = 0 then 3 else if v5_admits p a b (-n) = 0 then 3 else 0) else 2
noncomputable def kLimS (p : PM) (a b Q m life : Int32) : Nat := if v5_admits p a b Q = 0 then 3 else if p.1 1 (v6_bookAt p b) 5 = 0 then 0 else if life = cn (-100000) then 3 else if 0 < m then 3 else 0
noncomputable def kLimit (p : PM) (a b z Q m life : Int32) : Nat := if isW a (cn 0) (cn 7) = 0 then 1 else if isW b (cn 0) (cn 5) = 0 then 1 else if v1_hasPrice p (v6_bookAt p b) z = 0 then 2 else if isW Q (cn (-50)) (cn 50) = 0 then 2 else if Q = 0 then 2 else if isW m (cn 0) (v14_abs_0f7a4 p Q) = 0 then 2 else if isW life (cn 0) (cn 9) = 0 then (if life = cn (-100000) then kLimS p a b Q m life else 2) else kLimS p a b Q m life
section Orders3
variable {p q : PM} {lg : Nat → Int32} {N T D e : Nat}
theorem shut_e {a : Nat} {vb v : Int32} (ha : a < 8) : v12_isShut q (cn a) vb v = if q.1 15 9 (a / 2) = 0 then (if v12_live q < cn 40 then (if v12_isRefused q (cn a) vb v = 0 then cn 0 else cn 1) else cn 1) else cn 1 := by
  unfold v12_isShut bv12_isShut
  rw [half (by omega), cntk (by omega)]
theorem quote_x {va vb v3 v4 v5 s : Int32} (hs : ¬ s = 0) : v12_doQuote_60 q va vb v3 v4 v5 s = (cn 0, pI q 12 1 0 s) ∧ g12_doQuote_60 q va vb v3 v4 v5 s := by
  unfold v12_doQuote_60 bv12_doQuote_60 g12_doQuote_60 bg12_doQuote_60
  simp only [t_1, if_neg hs]
  exact ⟨trivial, trivial⟩
theorem do_quote {va vb v3 v4 v5 : Int32} (he : e + 1 ≤ 2000) (hD : D ≤ 1000000) (hN : N + 2 ≤ 1000000) (hT : T + 20000 ≤ 1000000000) (H : WW p q (lgB lg e) 99 99 (fun _ => False) N T D 6 (fun _ => 0)) : g12_doQuote q va vb v3 v4 v5 ∧ DoE (lgB lg (e + 1)) q N T D 120 2 (kQuote p va vb v3 v4 v5) (g5_tellQuote p va vb v3 v4 v5) (v5_tellQuote p va vb v3 v4 v5) (v12_doQuote q va vb v3 v4 v5) := by
  have c10 : ¬ cn 1 = (0 : Int32) := by decide
  have c30 : ¬ cn 3 = (0 : Int32) := by decide
  have c00 : cn 0 = (0 : Int32) := rfl
  have gi : ∀ a b c, g12_in q a b c := fun a b c => g_in q a b c
  obtain ⟨ea, ga⟩ := acc_e q va
  obtain ⟨s1, s2⟩ := quote_x (q := q) (va := va) (vb := vb) (v3 := v3) (v4 := v4) (v5 := v5) (s := cn 1) (by decide)
  obtain ⟨s3, s4⟩ := quote_x (q := q) (va := va) (vb := vb) (v3 := v3) (v4 := v4) (v5 := v5) (s := cn 2) (by decide)
  unfold kQuote v12_doQuote bv12_doQuote g12_doQuote bg12_doQuote
  simp only [s1, s3]
  by_cases h1 : isW va (cn 0) (cn 7) = 0
  · have h1' : v12_isAccount q va = 0 := by rw [ea]; exact h1
    simp only [if_pos h1, if_pos h1']
    refine ⟨?_, doe_x (by decide) rfl⟩
    repeat' first
      | with_reducible exact ga
      | with_reducible exact gi _ _ _
      | with_reducible exact s2
      | exact trivial
      | exact not_false
      | apply And.intro
      | (split <;> rename_i h9 <;> first | simp only [if_neg h9, if_true, if_false] | simp only [if_pos h9, if_true, if_false] | skip)
  have h1' : ¬ v12_isAccount q va = 0 := by rw [ea]; exact h1
  by_cases h2 : isW vb (cn 0) (cn 5) = 0
  · have h2' : v12_in q vb (cn 0) (cn 5) = 0 := h2
    simp only [if_neg h1, if_neg h1', if_pos h2, if_pos h2']
    refine ⟨?_, doe_x (by decide) rfl⟩
    repeat' first
      | with_reducible exact ga
      | with_reducible exact gi _ _ _
      | with_reducible exact s2
      | exact trivial
      | exact not_false
      | apply And.intro
      | (split <;> rename_i h9 <;> first | simp only [if_neg h9, if_true, if_false] | simp only [if_pos h9, if_true, if_false] | skip)
  have h2' : ¬ v12_in q vb (cn 0) (cn 5) = 0 := h2
  obtain ⟨b, hb, rfl⟩ := isW_n (b := 5) (by decide) h2
  have eb := book_e p (a := b) (by omega)
  obtain ⟨pw, gp⟩ := pr_w (q := q) (b := b) (z := v3) (by omega) H.2.2.2.2.1
  obtain ⟨pw2, gp2⟩ := pr_w (q := q) (b := b) (z := v4) (by omega) H.2.2.2.2.1
  simp only [if_neg h1, if_neg h1', if_neg h2, if_neg h2', eb, pw, pw2]
  by_cases h3 : v1_hasPrice p (b + 1) v3 = 0
  · simp only [if_pos h3]
    refine ⟨?_, doe_x (by decide) rfl⟩
    repeat' first
      | with_reducible exact ga
      | with_reducible exact gi _ _ _
      | with_reducible exact s4
      | with_reducible exact gp
      | with_reducible exact gp2
      | exact trivial
      | exact not_false
      | apply And.intro
      | (split <;> rename_i h9 <;> first | simp only [if_neg h9, if_true, if_false] | simp only [if_pos h9, if_true, if_false] | skip)
  simp only [if_neg h3]
  by_cases h4 : v1_hasPrice p (b + 1) v4 = 0
  · simp only [if_pos h4]
    refine ⟨?_, doe_x (by decide) rfl⟩
    repeat' first
      | with_reducible exact ga
      | with_reducible exact gi _ _ _
      | with_reducible exact s4
      | with_reducible exact gp
      | with_reducible exact gp2
      | exact trivial
      | exact not_false
      | apply And.intro
      | (split <;> rename_i h9 <;> first | simp only [if_neg h9, if_true, if_false] | simp only [if_pos h9, if_true, if_false] | skip)
  simp only [if_neg h4]
  by_cases h5 : v3 < v4
  · simp only [if_pos h5]
    by_cases h6 : isW v5 (cn 1) (cn 50) = 0
    · have h6' : v12_in q v5 (cn 1) (cn 50) = 0 := h6
      simp only [if_pos h6, if_pos h6']
      refine ⟨?_, doe_x (by decide) rfl⟩
      repeat' first
        | with_reducible exact ga
        | with_reducible exact gi _ _ _
        | with_reducible exact s4
        | with_reducible exact gp
        | with_reducible exact gp2
        | exact trivial
        | exact not_false
        | apply And.intro
        | (split <;> rename_i h9 <;> first | simp only [if_neg h9, if_true, if_false] | simp only [if_pos h9, if_true, if_false] | skip)
    have h6' : ¬ v12_in q v5 (cn 1) (cn 50) = 0 := h6
    simp only [if_neg h6, if_neg h6']
    obtain ⟨a, ha, rfl⟩ := isW_n (b := 7) (by decide) h1
    obtain ⟨n, n1, n2, rfl⟩ := isW_z (a := 1) (b := 50) (by decide) (by decide) h6
    obtain ⟨z1, rfl, hz1⟩ := hp_pr (by omega) H.2.2.2.2.1 h3
    obtain ⟨z2, rfl, hz2⟩ := hp_pr (by omega) H.2.2.2.2.1 h4
    have W0 := ww_th (cn 0) H
    obtain ⟨Q0, hQ0⟩ : ∃ Q0, pI q 12 1 0 (cn 0) = Q0 := ⟨_, rfl⟩
    rw [hQ0] at W0
    have r0 : Q0.1 12 1 0 = 0 := by rw [← hQ0]; exact t_1
    have t3 : pI Q0 12 1 0 (cn 3) = pI q 12 1 0 (cn 3) := by rw [← hQ0, t_t]
    have i4 := cninb (i := a / 2) (n := 4) (by omega) (by omega)
    have hPB := pb_ww (e := e) (by omega) hD W0
    obtain ⟨⟨f1, f2⟩, f3⟩ := refuse_eq (a := a) (b := b) (Q := n) (by omega) (by omega) W0.1.1 W0.2.2.2.2.1 (af_ar W0.2.1) hPB (by omega) (by omega) (by omega)
    obtain ⟨⟨f4, f5⟩, f6⟩ := refuse_eq (a := a) (b := b) (Q := -n) (by omega) (by omega) W0.1.1 W0.2.2.2.2.1 (af_ar W0.2.1) hPB (by omega) (by omega) (by omega)
    obtain ⟨-, a1, -⟩ := adm_ww (a := a) (b := b) (Q := n) (e := e) (by omega) hD W0 (by omega) (by omega) (by omega) (by omega) (by omega)
    obtain ⟨-, a2, -⟩ := adm_ww (a := a) (b := b) (Q := -n) (e := e) (by omega) hD W0 (by omega) (by omega) (by omega) (by omega) (by omega)
    have hlv : v6_countLive p = v12_live Q0 := live_eq W0.1.1
    have gl := g_liveQ Q0
    have hLC := lc_num W0.1.1
    have hLe := lc_le Q0 40
    have c40 : (cn 40 < v6_countLive p + cn 2) = (cn 38 < v12_live Q0) := by
      rw [hlv, hLC, cnadd, cnlt (by decide) ⟨by omega, by omega⟩, cnlt (by decide) ⟨by omega, by omega⟩]
      exact propext ⟨fun h => by omega, fun h => by omega⟩
    rw [shut_e (by omega)] at a1 a2
    have hneg : -cn n = cn (-n) := cnneg n
    have g60 : ∀ K : Nat, K = 3 → v12_doQuote_60 q (cn a) (cn b) (cn z1) (cn z2) (cn n) (cn 0) = (cn 0, pI q 12 1 0 (cn 3)) → DoE (lgB lg (e + 1)) q N T D 120 2 K (g5_tellQuote p (cn a) (cn b) (cn z1) (cn z2) (cn n)) (v5_tellQuote p (cn a) (cn b) (cn z1) (cn z2) (cn n)) (v12_doQuote_60 q (cn a) (cn b) (cn z1) (cn z2) (cn n) (cn 0)) := by
      intro K hK h
      rw [hK, h]
      exact doe_x (by decide) rfl
    have gfin : g12_doQuote_60 q (cn a) (cn b) (cn z1) (cn z2) (cn n) (cn 0) → (g12_isAccount q (cn a) ∧ g12_in q (cn b) (cn 0) (cn 5) ∧ g12_isPrice q (cn b) (cn z1) ∧ g12_isPrice q (cn b) (cn z2) ∧ g12_in q (cn n) (cn 1) (cn 50) ∧ g12_doQuote_60 q (cn a) (cn b) (cn z1) (cn z2) (cn n) (cn 0)) := fun g => ⟨ga, gi _ _ _, gp, gp2, gi _ _ _, g⟩
    suffices hh : g12_doQuote_60 q (cn a) (cn b) (cn z1) (cn z2) (cn n) (cn 0) ∧ DoE (lgB lg (e + 1)) q N T D 120 2 (if cn 40 < v6_countLive p + cn 2 then 3 else if v5_admits p (cn a) (cn b) (cn n) = 0 then 3 else if v5_admits p (cn a) (cn b) (-cn n) = 0 then 3 else 0) (g5_tellQuote p (cn a) (cn b) (cn z1) (cn z2) (cn n)) (v5_tellQuote p (cn a) (cn b) (cn z1) (cn z2) (cn n)) (v12_doQuote_60 q (cn a) (cn b) (cn z1) (cn z2) (cn n) (cn 0)) from ⟨gfin hh.1, hh.2⟩
    rw [hneg]
    simp only [c40, a1, a2]
    by_cases x1 : Q0.1 15 9 (a / 2) = 0
    · simp only [if_pos x1]
      by_cases x2 : cn 38 < v12_live Q0
      · simp only [if_pos x2]
        refine ⟨?_, g60 _ rfl ?_⟩
        · unfold g12_doQuote_60 bg12_doQuote_60
          simp only [hQ0, r0, if_true, half (a := a) (by omega), cntk (i := a / 2) (by omega), if_pos x1, if_pos x2, t3, t_1, if_neg c30]
          exact ⟨i4, gl, trivial⟩
        · unfold v12_doQuote_60 bv12_doQuote_60
          simp only [hQ0, r0, if_true, half (a := a) (by omega), cntk (i := a / 2) (by omega), if_pos x1, if_pos x2, t3, t_1, if_neg c30]
      have hl38 : LC Q0 40 ≤ 38 := by
        rw [hLC, cnlt (by decide) ⟨by omega, by omega⟩] at x2
        omega
      have x3 : v12_live Q0 < cn 40 := by
        rw [hLC, cnlt ⟨by omega, by omega⟩ (by decide)]
        omega
      simp only [if_neg x2, if_pos x3]
      by_cases x4 : v12_isRefused Q0 (cn a) (cn b) (cn n) = 0
      · have n00 : ¬ ¬ (cn 0 = (0 : Int32)) := fun h => h c00
        simp only [if_pos x4, if_neg n00]
        by_cases x5 : v12_isRefused Q0 (cn a) (cn b) (cn (-n)) = 0
        · obtain ⟨⟨y1, y2⟩, y3⟩ := tell_quote W0 hl38 (a := a) (b := b) (by omega) (by omega) n1 n2 hz1 hz2 (by omega) (by omega) (by omega)
          have e60 : v12_doQuote_60 q (cn a) (cn b) (cn z1) (cn z2) (cn n) (cn 0) = v12_doQuote_130 FU Q0 (cn a) (cn b) (cn z1) (cn z2) (cn n) (cn 0) ∧ g12_doQuote_60 q (cn a) (cn b) (cn z1) (cn z2) (cn n) (cn 0) := by
            unfold v12_doQuote_60 bv12_doQuote_60 g12_doQuote_60 bg12_doQuote_60
            simp only [hQ0, r0, if_true, half (a := a) (by omega), cntk (i := a / 2) (by omega), if_pos x1, if_neg x2, if_pos x4, hneg, if_pos x5]
            exact ⟨trivial, i4, gl, f2, f5, y2⟩
          simp only [if_pos x5, if_neg n00]
          rw [e60.1]
          refine ⟨e60.2, doe_a (x := cn 0) he y1 ?_ (by rw [hQ0]; exact y3)⟩
          have F := fx_v12_doQuote_130 (q := Q0) FU (cn (a : Int)) (cn (b : Int)) (cn z1) (cn z2) (cn n) (cn 0) (fx_refl _)
          rw [F.1 0 (by decide), r0]
          rfl
        · simp only [if_neg x5, if_pos c10]
          refine ⟨?_, g60 _ rfl ?_⟩
          · unfold g12_doQuote_60 bg12_doQuote_60
            simp only [hQ0, r0, if_true, half (a := a) (by omega), cntk (i := a / 2) (by omega), if_pos x1, if_neg x2, if_pos x4, hneg, if_neg x5, t3, t_1, if_neg c30]
            exact ⟨i4, gl, f2, f5, trivial⟩
          · unfold v12_doQuote_60 bv12_doQuote_60
            simp only [hQ0, r0, if_true, half (a := a) (by omega), cntk (i := a / 2) (by omega), if_pos x1, if_neg x2, if_pos x4, hneg, if_neg x5, t3, t_1, if_neg c30]
      · simp only [if_neg x4, if_pos c10]
        refine ⟨?_, g60 _ rfl ?_⟩
        · unfold g12_doQuote_60 bg12_doQuote_60
          simp only [hQ0, r0, if_true, half (a := a) (by omega), cntk (i := a / 2) (by omega), if_pos x1, if_neg x2, if_neg x4, t3, t_1, if_neg c30]
          exact ⟨i4, gl, f2, trivial⟩
        · unfold v12_doQuote_60 bv12_doQuote_60
          simp only [hQ0, r0, if_true, half (a := a) (by omega), cntk (i := a / 2) (by omega), if_pos x1, if_neg x2, if_neg x4, t3, t_1, if_neg c30]
    · simp only [if_neg x1, if_pos c10, ite_self]
      refine ⟨?_, g60 _ rfl ?_⟩
      · unfold g12_doQuote_60 bg12_doQuote_60
        simp only [hQ0, r0, if_true, half (a := a) (by omega), cntk (i := a / 2) (by omega), if_neg x1, t3, t_1, if_neg c30]
        exact ⟨i4, trivial⟩
      · unfold v12_doQuote_60 bv12_doQuote_60
        simp only [hQ0, r0, if_true, half (a := a) (by omega), cntk (i := a / 2) (by omega), if_neg x1, t3, t_1, if_neg c30]
  · simp only [if_neg h5]
    refine ⟨?_, doe_x (by decide) rfl⟩
    repeat' first
      | with_reducible exact ga
      | with_reducible exact gi _ _ _
      | with_reducible exact s4
      | with_reducible exact gp
      | with_reducible exact gp2
      | exact trivial
      | exact not_false
      | apply And.intro
      | (split <;> rename_i h9 <;> first | simp only [if_neg h9, if_true, if_false] | simp only [if_pos h9, if_true, if_false] | skip)
end Orders3
