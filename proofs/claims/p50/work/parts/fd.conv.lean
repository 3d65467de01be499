/-! a contract is converted: orders go, trades are forgotten -/
section Conv
variable {p q : PM} {lg : Nat → Int32} {N T D l c b : Nat}
theorem has_e (hb : b < 6) (hc : c < 4) (hK : CK p) : (g1_hasContract p (b + 1) (cn c) ∧ g12_hasContract q (cn b) (cn c)) ∧ v1_hasContract p (b + 1) (cn c) = v12_hasContract q (cn b) (cn c) ∧ b01 (v12_hasContract q (cn b) (cn c)) := by
  obtain ⟨-, k1, k2⟩ := hK.2 b hb
  have c0 := con0 q hb
  have c1 := con1 q hb
  have hz : ¬ b + 1 = 0 := by omega
  refine ⟨⟨?_, ?_⟩, ?_, ?_⟩
  · unfold g1_hasContract bg1_hasContract
    repeat' first
      | with_reducible exact hz
      | exact trivial
      | exact not_false
      | apply And.intro
      | (split <;> rename_i h9 <;> first | simp only [if_neg h9, if_true, if_false] | simp only [if_pos h9, if_true, if_false] | skip)
  · unfold g12_hasContract bg12_hasContract
    repeat' first
      | with_reducible exact g_con _ _ _
      | exact trivial
      | exact not_false
      | apply And.intro
      | (split <;> rename_i h9 <;> first | simp only [if_neg h9, if_true, if_false] | simp only [if_pos h9, if_true, if_false] | skip)
  · unfold v1_hasContract bv1_hasContract v12_hasContract bv12_hasContract
    rw [k1, k2, c0, c1]
    by_cases h4 : b < 4
    · rw [if_pos h4, if_pos h4, if_pos h4]
      have e1 : ¬ cn (-100000) = cn (c : Int) := by
        rw [cneq (by decide) ⟨by omega, by omega⟩]
        omega
      have e2 : ¬ cn (-1) = cn (c : Int) := by
        rw [cneq (by decide) ⟨by omega, by omega⟩]
        omega
      rw [if_neg e1, if_neg e2]
    · rw [if_neg h4, if_neg h4, if_neg h4]
  · unfold v12_hasContract bv12_hasContract
    split
    · exact b1
    · split
      · exact b1
      · exact b0
theorem g_hasq (q : PM) (v w : Int32) : g12_hasContract q v w := by
  unfold g12_hasContract bg12_hasContract
  repeat' first
    | with_reducible exact g_con _ _ _
    | exact trivial
    | exact not_false
    | apply And.intro
    | (split <;> rename_i h9 <;> first | simp only [if_neg h9, if_true, if_false] | simp only [if_pos h9, if_true, if_false] | skip)
theorem b_hasq (q : PM) (v w : Int32) : b01 (v12_hasContract q v w) := by
  unfold v12_hasContract bv12_hasContract
  split
  · exact b1
  · split
    · exact b1
    · exact b0
theorem cv_tail {v1 v2 v3 : Int32} {F : Nat} (hF : FU = F) (hd : ∀ i, 40 ≤ i → i < 44 → q.1 15 3 i = cn 0) (x : Int32) : ∀ (d i n : Nat), i + d = 44 → 40 ≤ i → d < n → v12_doConvert_127 n q v1 v2 v3 x (cn i) = v12_doConvert_178 F q v1 v2 v3 x (cn 0) ∧ (g12_doConvert_178 F q v1 v2 v3 x (cn 0) → g12_doConvert_127 n q v1 v2 v3 x (cn i)) := by
  intro d
  induction d with
  | zero =>
    intro i n h1 h2 h3
    obtain ⟨n1, rfl⟩ : ∃ m, n = m + 1 := ⟨n - 1, by omega⟩
    have hn := lpf (i := i) (N := 44) (by omega) (by omega) (by omega)
    rw [ev12_doConvert_127, eg12_doConvert_127, hF]
    unfold bv12_doConvert_127 bg12_doConvert_127
    rw [if_neg hn, if_neg hn]
    exact ⟨rfl, fun h => h⟩
  | succ d ih =>
    intro i n h1 h2 h3
    obtain ⟨n1, rfl⟩ : ∃ m, n = m + 1 := ⟨n - 1, by omega⟩
    have hi := cninb (i := i) (n := 44) (by omega) (by omega)
    have h0 : q.1 15 3 i = 0 := hd i h2 (by omega)
    obtain ⟨k1, k2⟩ := ih (i + 1) n1 (by omega) (by omega) (by omega)
    rw [ev12_doConvert_127, eg12_doConvert_127]
    unfold bv12_doConvert_127 bg12_doConvert_127
    simp only [if_pos (lpt (i := i) (N := 44) (by omega) (by omega)), cntk (i := i) (by omega), if_pos h0, cnsucc]
    exact ⟨k1, fun h => ⟨hi, k2 h⟩⟩
theorem cv_loop {v2 v3 : Int32} {F : Nat} (hF : FU = F) (hc : c < 3) : ∀ (d i n n' : Nat) (p q : PM) (x : Int32), i + d = 40 → d < n → d + 4 < n' → OR p q 99 99 → CK p → ∃ (x' : Int32) (P Q : PM), (g6_withdrawContract_14 n p (cn c) x (cn i) ∧ (g12_doConvert_178 F Q (cn c) v2 v3 x' (cn 0) → g12_doConvert_127 n' q (cn c) v2 v3 x (cn i))) ∧ v6_withdrawContract_14 n p (cn c) x (cn i) = (x', P) ∧ v12_doConvert_127 n' q (cn c) v2 v3 x (cn i) = v12_doConvert_178 F Q (cn c) v2 v3 x' (cn 0) ∧ Mk p P q Q := by
  intro d
  induction d with
  | zero =>
    intro i n n' p q x h1 h2 h3 H hK
    obtain ⟨n1, rfl⟩ : ∃ m, n = m + 1 := ⟨n - 1, by omega⟩
    have e : i = 40 := by omega
    subst e
    have hn := lpf (i := 40) (N := 40) (by omega) (by omega) (by omega)
    obtain ⟨k1, k2⟩ := cv_tail (q := q) (v1 := cn c) (v2 := v2) (v3 := v3) hF H.2 x 4 40 n' rfl (by omega) (by omega)
    refine ⟨x, p, q, ⟨?_, k2⟩, ?_, k1, mk_refl p q⟩
    · rw [eg6_withdrawContract_14]
      unfold bg6_withdrawContract_14
      rw [if_neg hn]
      trivial
    · rw [ev6_withdrawContract_14]
      unfold bv6_withdrawContract_14
      rw [if_neg hn]
  | succ d ih =>
    intro i n n' p q x h1 h2 h3 H hK
    obtain ⟨n1, rfl⟩ : ∃ m, n = m + 1 := ⟨n - 1, by omega⟩
    obtain ⟨n2, rfl⟩ : ∃ m, n' = m + 1 := ⟨n' - 1, by omega⟩
    have hi40 := cninb (i := i) (n := 40) (by omega) (by omega)
    have hi := cninb (i := i) (n := 44) (by omega) (by omega)
    have l40 : cn (i : Int) < cn 40 := lpt (by omega) (by omega)
    have l44 : cn (i : Int) < cn 44 := lpt (by omega) (by omega)
    rw [ev6_withdrawContract_14, eg6_withdrawContract_14, ev12_doConvert_127, eg12_doConvert_127]
    unfold bv6_withdrawContract_14 bg6_withdrawContract_14 bv12_doConvert_127 bg12_doConvert_127
    rcases H.1 i (by omega) with ⟨s1, s2⟩ | ⟨s1, ai, bi, r, s, z, hL⟩
    · obtain ⟨x', P, Q, ⟨k1, k2⟩, k3, k4, k5⟩ := ih (i + 1) n1 n2 p q x (by omega) (by omega) (by omega) H hK
      have s1' : p.1 10 (i + 1) 2 = 0 := s1
      have s2' : q.1 15 3 i = 0 := s2
      refine ⟨x', P, Q, ?_, ?_, ?_, k5⟩
      · simp only [if_pos l40, if_pos l44, cntk (i := i) (by omega), if_pos s1', if_pos s2', cnsucc]
        exact ⟨⟨hi40, k1⟩, fun h => ⟨hi, k2 h⟩⟩
      · simp only [if_pos l40, cntk (i := i) (by omega), if_pos s1', cnsucc]
        exact k3
      · simp only [if_pos l44, cntk (i := i) (by omega), if_pos s2', cnsucc]
        exact k4
    · have s1' : ¬ q.1 15 3 i = 0 := by
        rw [s1]
        exact cn01
      have p1' : ¬ p.1 10 (i + 1) 2 = 0 := lv_nogone hL
      obtain ⟨hb6, hb1, hb2⟩ := hL.2.1
      have hz : ¬ bi + 1 = 0 := by omega
      obtain ⟨⟨y1, y2⟩, y3, y4⟩ := has_e (p := p) (q := q) (c := c) hb6 (by omega) hK
      by_cases ho : v12_hasContract q (cn bi) (cn c) = 0
      · have ho' : v1_hasContract p (bi + 1) (cn c) = 0 := by rw [y3]; exact ho
        obtain ⟨x', P, Q, ⟨k1, k2⟩, k3, k4, k5⟩ := ih (i + 1) n1 n2 p q x (by omega) (by omega) (by omega) H hK
        refine ⟨x', P, Q, ?_, ?_, ?_, k5⟩
        · simp only [if_pos l40, if_pos l44, cntk (i := i) (by omega), if_neg p1', if_neg s1', hb1, hb2, if_pos ho, if_pos ho', cnsucc]
          exact ⟨⟨hi40, hz, y1, k1⟩, fun h => ⟨hi, hi, y2, k2 h⟩⟩
        · simp only [if_pos l40, cntk (i := i) (by omega), if_neg p1', hb2, if_pos ho', cnsucc]
          exact k3
        · simp only [if_pos l44, cntk (i := i) (by omega), if_neg s1', hb1, if_pos ho, cnsucc]
          exact k4
      · have ho' : ¬ v1_hasContract p (bi + 1) (cn c) = 0 := by rw [y3]; exact ho
        have M := mk_one (p := p) (q := q) (o := i) (by omega)
        have hK2 : CK (pI p 10 (i + 1) 2 (cn 0)) := ck_c (M.2.1 0 (by decide)) (M.2.1 1 (by decide)) hK
        obtain ⟨x', P, Q, ⟨k1, k2⟩, k3, k4, k5⟩ := ih (i + 1) n1 n2 _ _ (x + cn 1) (by omega) (by omega) (by omega) (or_mk M H) hK2
        refine ⟨x', P, Q, ?_, ?_, ?_, mk_trans M k5⟩
        · simp only [if_pos l40, if_pos l44, cntk (i := i) (by omega), if_neg p1', if_neg s1', hb1, hb2, if_neg ho, if_neg ho', cnsucc]
          exact ⟨⟨hi40, hz, y1, k1⟩, fun h => ⟨hi, hi, y2, hi, k2 h⟩⟩
        · simp only [if_pos l40, cntk (i := i) (by omega), if_neg p1', hb2, if_neg ho', cnsucc]
          exact k3
        · simp only [if_pos l44, cntk (i := i) (by omega), if_neg s1', hb1, if_neg ho, cnsucc]
          exact k4
/-- trades alone are forgotten -/
def FgR (p p' q q' : PM) : Prop := (∀ K, ¬ K = 4 → p'.1 K = p.1 K) ∧ (∀ i S, ¬ S = 6 → p'.1 4 i S = p.1 4 i S) ∧ p'.2 = p.2 ∧ (∀ K, ¬ K = 15 → q'.1 K = q.1 K) ∧ (∀ K, ¬ K = 8 → q'.1 15 K = q.1 15 K) ∧ q'.2 = q.2
theorem fg_dr {p' q' : PM} (F : FgR p p' q q') (h : ∀ k, k < 60 → (p'.1 4 (k + 1) 6 = p.1 4 (k + 1) 6 ∧ q'.1 15 8 k = q.1 15 8 k) ∨ (p'.1 4 (k + 1) 6 = cn 0 ∧ q'.1 15 8 k = cn 1)) (H : DR p q D) : DR p' q' D := by
  obtain ⟨f1, f2, f3, f4, f5, f6⟩ := F
  obtain ⟨z1, z2, z3, z4⟩ := H
  refine ⟨fun k hk => ?_, by rw [f1 7 (by decide)]; exact z2, by rw [f4 12 (by decide)]; exact z3, z4⟩
  obtain ⟨y1, y2, y3⟩ := z1 k hk
  rw [f3]
  rcases h k hk with ⟨h1, h2⟩ | ⟨h1, h2⟩
  · rw [h1, h2]
    refine ⟨y1, y2, ?_⟩
    rcases y3 with ⟨s1, s2, s3, s4⟩ | y3
    · refine Or.inl ⟨s1, s2, s3, ?_⟩
      unfold DealV at s4 ⊢
      rw [f3, f4 13 (by decide), f5 7 (by decide), f2 _ 3 (by decide), f2 _ 4 (by decide), f2 _ 5 (by decide)]
      exact s4
    · exact Or.inr y3
  · rw [h1, h2]
    exact ⟨y1, b1, Or.inr ⟨rfl, Or.inr rfl⟩⟩
theorem fg_ww {p' q' : PM} (F : FgR p p' q q') (H : WW p q lg 99 99 (fun _ => False) N T D l (fun _ => 0)) (hD : DR p' q' D) : WW p' q' lg 99 99 (fun _ => False) N T D l (fun _ => 0) ∧ RS q' 40 = RS q 40 := by
  obtain ⟨f1, f2, f3, f4, f5, f6⟩ := F
  refine ww_lat H (fun _ _ _ => rfl) (fun K _ h _ => f1 K h) (fun i _ => by rw [f1 13 (by decide)]) (by rw [f3]) (fun K _ _ _ _ => by rw [f4 13 (by decide)]) (by rw [f4 13 (by decide)]) (fun K _ h => f5 K h) (fun S _ => by rw [f4 12 (by decide)]) (fun a ha => ?_) ?_ hD (ck_c (f1 0 (by decide)) (f1 1 (by decide)) H.2.2.2.2.1) (pd_c (by rw [f4 13 (by decide)]) (by rw [f4 12 (by decide)]) (by rw [f6]) H.2.2.2.2.2.1)
  · have h := H.2.1.1 a ha
    unfold AcR at h ⊢
    rw [f1 13 (by decide), f4 13 (by decide), f3, f6]
    exact h
  · exact brl_c (f1 1 (by decide)) (fun i _ _ => by rw [f4 13 (by decide)]) (f5 2 (by decide)) H.2.2.1
theorem fg_loop (hc : c < 3) {v2 v3 x : Int32} {F : Nat} (hF : FU = F) : ∀ (d i n n' : Nat) (p' q' : PM), i + d = 60 → d < n → d < n' → FgR p p' q q' → CK p → DR p' q' D → ∃ P Q : PM, (g7_forget_11 n p' (cn c) (cn i) ∧ (g12_doConvert_178 1 Q (cn c) v2 v3 x (cn 60) → g12_doConvert_178 n' q' (cn c) v2 v3 x (cn i))) ∧ v7_forget_11 n p' (cn c) (cn i) = P ∧ v12_doConvert_178 n' q' (cn c) v2 v3 x (cn i) = v12_doConvert_178 1 Q (cn c) v2 v3 x (cn 60) ∧ FgR p P q Q ∧ DR P Q D := by
  intro d
  induction d with
  | zero =>
    intro i n n' p' q' h1 h2 h3 hf hK hD
    obtain ⟨n1, rfl⟩ : ∃ m, n = m + 1 := ⟨n - 1, by omega⟩
    obtain ⟨n2, rfl⟩ : ∃ m, n' = m + 1 := ⟨n' - 1, by omega⟩
    have e : i = 60 := by omega
    subst e
    have hn := lpf (i := 60) (N := 60) (by omega) (by omega) (by omega)
    have z60 : cn ((60 : Nat) : Int) = cn 60 := rfl
    refine ⟨p', q', ⟨?_, ?_⟩, ?_, ?_, hf, hD⟩
    · rw [eg7_forget_11]
      unfold bg7_forget_11
      rw [if_neg hn]
      trivial
    · intro h
      rw [eg12_doConvert_178] at h ⊢
      unfold bg12_doConvert_178 at h ⊢
      rw [if_neg (show ¬ cn 60 < cn 60 by decide)] at h
      rw [if_neg hn]
      exact h
    · rw [ev7_forget_11]
      unfold bv7_forget_11
      rw [if_neg hn]
    · rw [show (1 : Nat) = 0 + 1 from rfl, ev12_doConvert_178, ev12_doConvert_178]
      unfold bv12_doConvert_178
      rw [if_neg hn, if_neg (show ¬ cn 60 < cn 60 by decide)]
  | succ d ih =>
    intro i n n' p' q' h1 h2 h3 hf hK hD
    obtain ⟨n1, rfl⟩ : ∃ m, n = m + 1 := ⟨n - 1, by omega⟩
    obtain ⟨n2, rfl⟩ : ∃ m, n' = m + 1 := ⟨n' - 1, by omega⟩
    have hi := cninb (i := i) (n := 60) (by omega) (by omega)
    have l60 : cn (i : Int) < cn 60 := lpt (by omega) (by omega)
    obtain ⟨f1, f2, f3, f4, f5, f6⟩ := hf
    have hK' : CK p' := ck_c (f1 0 (by decide)) (f1 1 (by decide)) hK
    obtain ⟨⟨b', hb6, hb1⟩, b8, hs⟩ := hD.1 i (by omega)
    have hz : ¬ b' + 1 = 0 := by omega
    obtain ⟨⟨y1, -⟩, -, -⟩ := has_e (p := p') (q := q') (c := c) hb6 (by omega) hK'
    have y2 := g_hasq q' (q'.1 13 30 i) (cn c)
    -- what is written on both sides
    have hgo : ∀ (u w : Int32), ((u = p'.1 4 (i + 1) 6 ∧ w = q'.1 15 8 i) ∨ (u = cn 0 ∧ w = cn 1)) → FgR p (pI p' 4 (i + 1) 6 u) q (pI q' 15 8 i w) ∧ DR (pI p' 4 (i + 1) 6 u) (pI q' 15 8 i w) D := by
      intro u w huw
      have F1 : FgR p' (pI p' 4 (i + 1) 6 u) q' (pI q' 15 8 i w) := ⟨fun K h => by
        funext j S
        rw [pI_1, u3_k h], fun j S h => by rw [pI_1, u3_s h], rfl, fun K h => by
        funext j S
        rw [pI_1, u3_k h], fun K h => by
        funext j
        rw [pI_1, u3_i h], rfl⟩
      refine ⟨⟨fun K h => (F1.1 K h).trans (f1 K h), fun j S h => (F1.2.1 j S h).trans (f2 j S h), F1.2.2.1.trans f3, fun K h => (F1.2.2.2.1 K h).trans (f4 K h), fun K h => (F1.2.2.2.2.1 K h).trans (f5 K h), F1.2.2.2.2.2.trans f6⟩, fg_dr F1 (fun k hk => ?_) hD⟩
      by_cases e : k = i
      · rw [e, pI_at, pI_at]
        rcases huw with ⟨e1, e2⟩ | ⟨e1, e2⟩
        · exact Or.inl ⟨e1, e2⟩
        · exact Or.inr ⟨e1, e2⟩
      · rw [pI_1, u3_i (by omega), pI_1, u3_s e]
        exact Or.inl ⟨rfl, rfl⟩
    have pid : ∀ u, u = p'.1 4 (i + 1) 6 → pI p' 4 (i + 1) 6 u = p' := fun u h => by rw [h, pI_id]
    rw [ev7_forget_11, eg7_forget_11, ev12_doConvert_178, eg12_doConvert_178]
    unfold bv7_forget_11 bg7_forget_11 bv12_doConvert_178 bg12_doConvert_178
    by_cases c1 : v1_hasContract p' (b' + 1) (cn c) = 0
    · -- the class leaves it
      by_cases g8 : q'.1 15 8 i = 0
      · by_cases c2 : v12_hasContract q' (q'.1 13 30 i) (cn c) = 0
        · obtain ⟨G1, G2⟩ := hgo (p'.1 4 (i + 1) 6) (cn 0) (Or.inl ⟨rfl, g8.symm⟩)
          rw [pid _ rfl] at G1 G2
          obtain ⟨P, Q, ⟨k1, k2⟩, k3, k4, k5⟩ := ih (i + 1) n1 n2 _ _ (by omega) (by omega) (by omega) G1 hK G2
          refine ⟨P, Q, ?_, ?_, ?_, k5⟩
          · simp only [if_pos l60, cntk (i := i) (by omega), hb1, if_pos c1, if_pos g8, if_pos c2, cnsucc]
            exact ⟨⟨hi, hz, y1, k1⟩, fun h => ⟨hi, hi, y2, hi, k2 h⟩⟩
          · simp only [if_pos l60, cntk (i := i) (by omega), hb1, if_pos c1, cnsucc]
            exact k3
          · simp only [if_pos l60, cntk (i := i) (by omega), if_pos g8, if_pos c2, cnsucc]
            exact k4
        · -- not kept there
          have hs0 : p'.1 4 (i + 1) 6 = cn 0 := by
            rcases hs with ⟨s1, s2, s3, b2, A, B, z, nn, hb, hA, hB, d0, d30, -⟩ | ⟨s1, -⟩
            · rw [hb1] at d0
              have e : b' = b2 := by omega
              rw [e] at c1
              rw [d30] at c2
              rw [(has_e (p := p') (q := q') (c := c) hb (by omega) hK').2.1] at c1
              exact absurd c1 c2
            · exact s1
          obtain ⟨G1, G2⟩ := hgo (p'.1 4 (i + 1) 6) (cn 1) (Or.inr ⟨hs0, rfl⟩)
          rw [pid _ rfl] at G1 G2
          obtain ⟨P, Q, ⟨k1, k2⟩, k3, k4, k5⟩ := ih (i + 1) n1 n2 _ _ (by omega) (by omega) (by omega) G1 hK G2
          refine ⟨P, Q, ?_, ?_, ?_, k5⟩
          · simp only [if_pos l60, cntk (i := i) (by omega), hb1, if_pos c1, if_pos g8, if_neg c2, cnsucc]
            exact ⟨⟨hi, hz, y1, k1⟩, fun h => ⟨hi, hi, y2, hi, k2 h⟩⟩
          · simp only [if_pos l60, cntk (i := i) (by omega), hb1, if_pos c1, cnsucc]
            exact k3
          · simp only [if_pos l60, cntk (i := i) (by omega), if_pos g8, if_neg c2, cnsucc]
            exact k4
      · have g81 : q'.1 15 8 i = cn 1 := b_ne b8 g8
        obtain ⟨G1, G2⟩ := hgo (p'.1 4 (i + 1) 6) (cn 1) (Or.inl ⟨rfl, g81.symm⟩)
        rw [pid _ rfl] at G1 G2
        obtain ⟨P, Q, ⟨k1, k2⟩, k3, k4, k5⟩ := ih (i + 1) n1 n2 _ _ (by omega) (by omega) (by omega) G1 hK G2
        refine ⟨P, Q, ?_, ?_, ?_, k5⟩
        · simp only [if_pos l60, cntk (i := i) (by omega), hb1, if_pos c1, if_neg g8, cnsucc]
          exact ⟨⟨hi, hz, y1, k1⟩, fun h => ⟨hi, hi, k2 h⟩⟩
        · simp only [if_pos l60, cntk (i := i) (by omega), hb1, if_pos c1, cnsucc]
          exact k3
        · simp only [if_pos l60, cntk (i := i) (by omega), if_neg g8, cnsucc]
          exact k4
    · by_cases g8 : q'.1 15 8 i = 0
      · by_cases c2 : v12_hasContract q' (q'.1 13 30 i) (cn c) = 0
        · -- it was not kept, or the books were the same
          have hsD : p'.1 4 (i + 1) 6 = cn 0 ∧ D ≤ i := by
            rcases hs with ⟨s1, s2, s3, b2, A, B, z, nn, hb, hA, hB, d0, d30, -⟩ | ⟨s1, s2⟩
            · rw [hb1] at d0
              have e : b' = b2 := by omega
              rw [e] at c1
              rw [d30] at c2
              rw [(has_e (p := p') (q := q') (c := c) hb (by omega) hK').2.1] at c1
              exact absurd c2 c1
            · refine ⟨s1, ?_⟩
              rcases s2 with s2 | s2
              · exact s2
              · rw [s2] at g8
                exact absurd g8 (by decide)
          obtain ⟨G1, G2⟩ := hgo (p'.1 4 (i + 1) 6) (cn 0) (Or.inl ⟨rfl, g8.symm⟩)
          rw [hsD.1] at G1 G2
          obtain ⟨P, Q, ⟨k1, k2⟩, k3, k4, k5⟩ := ih (i + 1) n1 n2 _ _ (by omega) (by omega) (by omega) G1 hK G2
          refine ⟨P, Q, ?_, ?_, ?_, k5⟩
          · simp only [if_pos l60, cntk (i := i) (by omega), hb1, if_neg c1, if_pos g8, if_pos c2, cnsucc]
            exact ⟨⟨hi, hz, y1, k1⟩, fun h => ⟨hi, hi, y2, hi, k2 h⟩⟩
          · simp only [if_pos l60, cntk (i := i) (by omega), hb1, if_neg c1, cnsucc]
            exact k3
          · simp only [if_pos l60, cntk (i := i) (by omega), if_pos g8, if_pos c2, cnsucc]
            exact k4
        · obtain ⟨G1, G2⟩ := hgo (cn 0) (cn 1) (Or.inr ⟨rfl, rfl⟩)
          obtain ⟨P, Q, ⟨k1, k2⟩, k3, k4, k5⟩ := ih (i + 1) n1 n2 _ _ (by omega) (by omega) (by omega) G1 hK G2
          refine ⟨P, Q, ?_, ?_, ?_, k5⟩
          · simp only [if_pos l60, cntk (i := i) (by omega), hb1, if_neg c1, if_pos g8, if_neg c2, cnsucc]
            exact ⟨⟨hi, hz, y1, k1⟩, fun h => ⟨hi, hi, y2, hi, k2 h⟩⟩
          · simp only [if_pos l60, cntk (i := i) (by omega), hb1, if_neg c1, cnsucc]
            exact k3
          · simp only [if_pos l60, cntk (i := i) (by omega), if_pos g8, if_neg c2, cnsucc]
            exact k4
      · have g81 : q'.1 15 8 i = cn 1 := b_ne b8 g8
        obtain ⟨G1, G2⟩ := hgo (cn 0) (cn 1) (Or.inr ⟨rfl, rfl⟩)
        obtain ⟨P, Q, ⟨k1, k2⟩, k3, k4, k5⟩ := ih (i + 1) n1 n2 _ _ (by omega) (by omega) (by omega) G1 hK G2
        refine ⟨P, Q, ?_, ?_, ?_, k5⟩
        · simp only [if_pos l60, cntk (i := i) (by omega), hb1, if_neg c1, if_neg g8, cnsucc]
          exact ⟨⟨hi, hz, y1, k1⟩, fun h => ⟨hi, hi, k2 h⟩⟩
        · simp only [if_pos l60, cntk (i := i) (by omega), hb1, if_neg c1, cnsucc]
          exact k3
        · simp only [if_pos l60, cntk (i := i) (by omega), if_neg g8, cnsucc]
          exact k4
end Conv
