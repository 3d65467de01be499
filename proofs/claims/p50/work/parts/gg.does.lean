/-! the 27 events, through the reference's dispatch -/
/-- what is carried from event to event -/
def IV (lg : Nat → Int32) (p q : PM) (N T D e : Nat) : Prop := WW p q (lgB lg e) 99 99 (fun _ => False) N T D 6 (fun _ => 0) ∧ NPA q ∧ SB q e ∧ N ≤ 2 * e ∧ T + RS q 40 ≤ 10000 * e ∧ D + RS q 40 ≤ 120 * e
section Disp
variable {p q : PM} {lg : Nat → Int32} {N T D e : Nat} {a b c d x f : Int32}
theorem doa_e {code : Nat} {G : Prop} {cc : Int32 × PM} {r : Int64 × PM} {R : Int32 × PM} (h : r = (R.1.toInt64, R.2)) (h2 : DoA lg q N T D code G cc R) : DoA lg q N T D code G cc (r.1.toInt32, r.2) := by
  rw [h]
  dsimp only
  rw [to32]
  exact h2
theorem ite_b (P : Prop) [Decidable P] : b01 (if P then cn 1 else cn 0) := by
  split
  · exact b1
  · exact b0
theorem fw_puts {K : Nat} {i o1 o2 v : Int32} (hK : ¬ (K = 36 ∨ K = 37)) : FW q (v12_puts q K i o1 v o2).2 := by
  by_cases h1 : o1 = 0
  · rw [(puts_x1 h1).1]
    exact fw_12 (by decide) (fw_refl q)
  · by_cases h2 : o2 = 0
    · rw [(puts_x2 h1 h2).1]
      exact fw_12 (by decide) (fw_refl q)
    · rw [(puts_a h1 h2).1]
      exact fw_13 hK (fw_12 (by decide) (fw_refl q))

theorem does_0 (he : e + 1 ≤ 600) (h : IV lg p q N T D e) : g12_does q (cn 0) a b c d x f ∧ DoA (lgB lg (e + 1)) q N T D (kLimit p a b c d x f) (g5_tellLimit p a b c d x f) (v5_tellLimit p a b c d x f) ((v12_does q (cn 0) a b c d x f).1.toInt32, (v12_does q (cn 0) a b c d x f).2) ∧ (kLimit p a b c d x f = 0 → SB (v12_does q (cn 0) a b c d x f).2 (e + 1)) := by
  obtain ⟨H, hN, hS, n1, t1, d1⟩ := h
  have H5 : e + 1 ≤ 600 := he
  have H1 : e + 1 ≤ 2000 := by omega
  have hRS := RS_rng H.1.1 40 (by decide)
  have H2 : D ≤ 1000000 := by omega
  have H3 : N + 2 ≤ 1000000 := by omega
  have H4 : T + 20000 ≤ 1000000000 := by omega
  have gi : ∀ a b c, g12_in q a b c := fun a b c => g_in q a b c
  have E : v12_does q (cn 0) a b c d x f = ((v12_doLimit q a b c d x f).1.toInt64, (v12_doLimit q a b c d x f).2) ∧ (g12_doLimit q a b c d x f → g12_does q (cn 0) a b c d x f) := by
    unfold v12_does bv12_does g12_does bg12_does
    simp only [if_true]
    exact ⟨trivial, fun g => ⟨g, trivial⟩⟩
  obtain ⟨K1, K2⟩ : g12_doLimit q a b c d x f ∧ DoE (lgB lg (e + 1)) q N T D 60 1 (kLimit p a b c d x f) (g5_tellLimit p a b c d x f) (v5_tellLimit p a b c d x f) (v12_doLimit q a b c d x f) := do_limit H1 H2 H3 H4 H
  refine ⟨E.2 K1, doa_e E.1 (doa_of (by decide) (by decide) K2), fun _ => ?_⟩
  rw [E.1]
  exact sb_fw hS (fw_v12_doLimit a b c d x f (fw_refl q))
theorem does_1 (he : e + 1 ≤ 600) (h : IV lg p q N T D e) : g12_does q (cn 1) a b c d x f ∧ DoA (lgB lg (e + 1)) q N T D (kMarket p a b c) (g5_tellMarket p a b c) (v5_tellMarket p a b c) ((v12_does q (cn 1) a b c d x f).1.toInt32, (v12_does q (cn 1) a b c d x f).2) ∧ (kMarket p a b c = 0 → SB (v12_does q (cn 1) a b c d x f).2 (e + 1)) := by
  obtain ⟨H, hN, hS, n1, t1, d1⟩ := h
  have H5 : e + 1 ≤ 600 := he
  have H1 : e + 1 ≤ 2000 := by omega
  have hRS := RS_rng H.1.1 40 (by decide)
  have H2 : D ≤ 1000000 := by omega
  have H3 : N + 2 ≤ 1000000 := by omega
  have H4 : T + 20000 ≤ 1000000000 := by omega
  have gi : ∀ a b c, g12_in q a b c := fun a b c => g_in q a b c
  have E : v12_does q (cn 1) a b c d x f = ((v12_doMarket q a b c).1.toInt64, (v12_doMarket q a b c).2) ∧ (g12_doMarket q a b c → g12_does q (cn 1) a b c d x f) := by
    unfold v12_does bv12_does g12_does bg12_does
    simp only [if_neg (show ¬ cn 1 = cn 0 by decide), if_true]
    exact ⟨trivial, fun g => ⟨g, trivial⟩⟩
  obtain ⟨K1, K2⟩ : g12_doMarket q a b c ∧ DoE (lgB lg (e + 1)) q N T D 60 1 (kMarket p a b c) (g5_tellMarket p a b c) (v5_tellMarket p a b c) (v12_doMarket q a b c) := do_market H1 H2 H3 H4 H
  refine ⟨E.2 K1, doa_e E.1 (doa_of (by decide) (by decide) K2), fun _ => ?_⟩
  rw [E.1]
  exact sb_fw hS (fw_v12_doMarket a b c (fw_refl q))
theorem does_2 (he : e + 1 ≤ 600) (h : IV lg p q N T D e) : g12_does q (cn 2) a b c d x f ∧ DoA (lgB lg (e + 1)) q N T D (kIceberg p a b c d x) (g5_tellIceberg p a b c d x) (v5_tellIceberg p a b c d x) ((v12_does q (cn 2) a b c d x f).1.toInt32, (v12_does q (cn 2) a b c d x f).2) ∧ (kIceberg p a b c d x = 0 → SB (v12_does q (cn 2) a b c d x f).2 (e + 1)) := by
  obtain ⟨H, hN, hS, n1, t1, d1⟩ := h
  have H5 : e + 1 ≤ 600 := he
  have H1 : e + 1 ≤ 2000 := by omega
  have hRS := RS_rng H.1.1 40 (by decide)
  have H2 : D ≤ 1000000 := by omega
  have H3 : N + 2 ≤ 1000000 := by omega
  have H4 : T + 20000 ≤ 1000000000 := by omega
  have gi : ∀ a b c, g12_in q a b c := fun a b c => g_in q a b c
  have E : v12_does q (cn 2) a b c d x f = ((v12_doIceberg q a b c d x).1.toInt64, (v12_doIceberg q a b c d x).2) ∧ (g12_doIceberg q a b c d x → g12_does q (cn 2) a b c d x f) := by
    unfold v12_does bv12_does g12_does bg12_does
    simp only [if_neg (show ¬ cn 2 = cn 0 by decide), if_neg (show ¬ cn 2 = cn 1 by decide), if_true]
    exact ⟨trivial, fun g => ⟨g, trivial⟩⟩
  obtain ⟨K1, K2⟩ : g12_doIceberg q a b c d x ∧ DoE (lgB lg (e + 1)) q N T D 60 1 (kIceberg p a b c d x) (g5_tellIceberg p a b c d x) (v5_tellIceberg p a b c d x) (v12_doIceberg q a b c d x) := do_iceberg H1 H2 H3 H4 H
  refine ⟨E.2 K1, doa_e E.1 (doa_of (by decide) (by decide) K2), fun _ => ?_⟩
  rw [E.1]
  exact sb_fw hS (fw_v12_doIceberg a b c d x (fw_refl q))
theorem does_3 (he : e + 1 ≤ 600) (h : IV lg p q N T D e) : g12_does q (cn 3) a b c d x f ∧ DoA (lgB lg (e + 1)) q N T D (kPeg p a b c d x) (g5_tellPeg p a b c d x) (v5_tellPeg p a b c d x) ((v12_does q (cn 3) a b c d x f).1.toInt32, (v12_does q (cn 3) a b c d x f).2) ∧ (kPeg p a b c d x = 0 → SB (v12_does q (cn 3) a b c d x f).2 (e + 1)) := by
  obtain ⟨H, hN, hS, n1, t1, d1⟩ := h
  have H5 : e + 1 ≤ 600 := he
  have H1 : e + 1 ≤ 2000 := by omega
  have hRS := RS_rng H.1.1 40 (by decide)
  have H2 : D ≤ 1000000 := by omega
  have H3 : N + 2 ≤ 1000000 := by omega
  have H4 : T + 20000 ≤ 1000000000 := by omega
  have gi : ∀ a b c, g12_in q a b c := fun a b c => g_in q a b c
  have E : v12_does q (cn 3) a b c d x f = ((v12_doPeg q a b c d x).1.toInt64, (v12_doPeg q a b c d x).2) ∧ (g12_doPeg q a b c d x → g12_does q (cn 3) a b c d x f) := by
    unfold v12_does bv12_does g12_does bg12_does
    simp only [if_neg (show ¬ cn 3 = cn 0 by decide), if_neg (show ¬ cn 3 = cn 1 by decide), if_neg (show ¬ cn 3 = cn 2 by decide), if_true]
    exact ⟨trivial, fun g => ⟨g, trivial⟩⟩
  obtain ⟨K1, K2⟩ : g12_doPeg q a b c d x ∧ DoE (lgB lg (e + 1)) q N T D 60 1 (kPeg p a b c d x) (g5_tellPeg p a b c d x) (v5_tellPeg p a b c d x) (v12_doPeg q a b c d x) := do_peg H1 H2 H3 H4 H
  refine ⟨E.2 K1, doa_e E.1 (doa_of (by decide) (by decide) K2), fun _ => ?_⟩
  rw [E.1]
  exact sb_fw hS (fw_v12_doPeg a b c d x (fw_refl q))
theorem does_4 (he : e + 1 ≤ 600) (h : IV lg p q N T D e) : g12_does q (cn 4) a b c d x f ∧ DoA (lgB lg (e + 1)) q N T D (kStop p a b c d x) (g5_tellStop p a b c d x) (v5_tellStop p a b c d x) ((v12_does q (cn 4) a b c d x f).1.toInt32, (v12_does q (cn 4) a b c d x f).2) ∧ (kStop p a b c d x = 0 → SB (v12_does q (cn 4) a b c d x f).2 (e + 1)) := by
  obtain ⟨H, hN, hS, n1, t1, d1⟩ := h
  have H5 : e + 1 ≤ 600 := he
  have H1 : e + 1 ≤ 2000 := by omega
  have hRS := RS_rng H.1.1 40 (by decide)
  have H2 : D ≤ 1000000 := by omega
  have H3 : N + 2 ≤ 1000000 := by omega
  have H4 : T + 20000 ≤ 1000000000 := by omega
  have gi : ∀ a b c, g12_in q a b c := fun a b c => g_in q a b c
  have E : v12_does q (cn 4) a b c d x f = ((v12_doStop q a b c d x).1.toInt64, (v12_doStop q a b c d x).2) ∧ (g12_doStop q a b c d x → g12_does q (cn 4) a b c d x f) := by
    unfold v12_does bv12_does g12_does bg12_does
    simp only [if_neg (show ¬ cn 4 = cn 0 by decide), if_neg (show ¬ cn 4 = cn 1 by decide), if_neg (show ¬ cn 4 = cn 2 by decide), if_neg (show ¬ cn 4 = cn 3 by decide), if_true]
    exact ⟨trivial, fun g => ⟨g, trivial⟩⟩
  obtain ⟨K1, K2⟩ : g12_doStop q a b c d x ∧ DoE (lgB lg (e + 1)) q N T D 60 1 (kStop p a b c d x) (g5_tellStop p a b c d x) (v5_tellStop p a b c d x) (v12_doStop q a b c d x) := do_stop H1 H2 H3 H4 H
  refine ⟨E.2 K1, doa_e E.1 (doa_of (by decide) (by decide) K2), fun _ => ?_⟩
  rw [E.1]
  exact sb_fw hS (fw_v12_doStop a b c d x (fw_refl q))
theorem does_5 (he : e + 1 ≤ 600) (h : IV lg p q N T D e) : g12_does q (cn 5) a b c d x f ∧ DoA (lgB lg (e + 1)) q N T D (kQuote p a b c d x) (g5_tellQuote p a b c d x) (v5_tellQuote p a b c d x) ((v12_does q (cn 5) a b c d x f).1.toInt32, (v12_does q (cn 5) a b c d x f).2) ∧ (kQuote p a b c d x = 0 → SB (v12_does q (cn 5) a b c d x f).2 (e + 1)) := by
  obtain ⟨H, hN, hS, n1, t1, d1⟩ := h
  have H5 : e + 1 ≤ 600 := he
  have H1 : e + 1 ≤ 2000 := by omega
  have hRS := RS_rng H.1.1 40 (by decide)
  have H2 : D ≤ 1000000 := by omega
  have H3 : N + 2 ≤ 1000000 := by omega
  have H4 : T + 20000 ≤ 1000000000 := by omega
  have gi : ∀ a b c, g12_in q a b c := fun a b c => g_in q a b c
  have E : v12_does q (cn 5) a b c d x f = ((v12_doQuote q a b c d x).1.toInt64, (v12_doQuote q a b c d x).2) ∧ (g12_doQuote q a b c d x → g12_does q (cn 5) a b c d x f) := by
    unfold v12_does bv12_does g12_does bg12_does
    simp only [if_neg (show ¬ cn 5 = cn 0 by decide), if_neg (show ¬ cn 5 = cn 1 by decide), if_neg (show ¬ cn 5 = cn 2 by decide), if_neg (show ¬ cn 5 = cn 3 by decide), if_neg (show ¬ cn 5 = cn 4 by decide), if_true]
    exact ⟨trivial, fun g => ⟨g, trivial⟩⟩
  obtain ⟨K1, K2⟩ : g12_doQuote q a b c d x ∧ DoE (lgB lg (e + 1)) q N T D 120 2 (kQuote p a b c d x) (g5_tellQuote p a b c d x) (v5_tellQuote p a b c d x) (v12_doQuote q a b c d x) := do_quote H1 H2 H3 H4 H
  refine ⟨E.2 K1, doa_e E.1 (doa_of (by decide) (by decide) K2), fun _ => ?_⟩
  rw [E.1]
  exact sb_fw hS (fw_v12_doQuote a b c d x (fw_refl q))
theorem does_6 (he : e + 1 ≤ 600) (h : IV lg p q N T D e) : g12_does q (cn 6) a b c d x f ∧ DoA (lgB lg (e + 1)) q N T D (kCancel p a) (g6_withdraw p a) (v6_withdraw p a) ((v12_does q (cn 6) a b c d x f).1.toInt32, (v12_does q (cn 6) a b c d x f).2) ∧ (kCancel p a = 0 → SB (v12_does q (cn 6) a b c d x f).2 (e + 1)) := by
  obtain ⟨H, hN, hS, n1, t1, d1⟩ := h
  have H5 : e + 1 ≤ 600 := he
  have H1 : e + 1 ≤ 2000 := by omega
  have hRS := RS_rng H.1.1 40 (by decide)
  have H2 : D ≤ 1000000 := by omega
  have H3 : N + 2 ≤ 1000000 := by omega
  have H4 : T + 20000 ≤ 1000000000 := by omega
  have gi : ∀ a b c, g12_in q a b c := fun a b c => g_in q a b c
  have E : v12_does q (cn 6) a b c d x f = ((v12_doCancel q a).1.toInt64, (v12_doCancel q a).2) ∧ (g12_doCancel q a → g12_does q (cn 6) a b c d x f) := by
    unfold v12_does bv12_does g12_does bg12_does
    simp only [if_neg (show ¬ cn 6 = cn 0 by decide), if_neg (show ¬ cn 6 = cn 1 by decide), if_neg (show ¬ cn 6 = cn 2 by decide), if_neg (show ¬ cn 6 = cn 3 by decide), if_neg (show ¬ cn 6 = cn 4 by decide), if_neg (show ¬ cn 6 = cn 5 by decide), if_true]
    exact ⟨trivial, fun g => ⟨g, trivial⟩⟩
  obtain ⟨K1, K2⟩ : g12_doCancel q a ∧ DoE (lgB lg (e + 1)) q N T D 60 0 (kCancel p a) (g6_withdraw p a) (v6_withdraw p a) (v12_doCancel q a) := do_cancel H1 H
  refine ⟨E.2 K1, doa_e E.1 (doa_of (by decide) (by decide) K2), fun _ => ?_⟩
  rw [E.1]
  exact sb_fw hS (fw_v12_doCancel a (fw_refl q))
theorem does_7 (he : e + 1 ≤ 600) (h : IV lg p q N T D e) : g12_does q (cn 7) a b c d x f ∧ DoA (lgB lg (e + 1)) q N T D (kRule a b c d) (g6_bookAt p a ∧ g1_changeRule p (v6_bookAt p a) b c d) (v1_changeRule p (v6_bookAt p a) b c d) ((v12_does q (cn 7) a b c d x f).1.toInt32, (v12_does q (cn 7) a b c d x f).2) ∧ (kRule a b c d = 0 → SB (v12_does q (cn 7) a b c d x f).2 (e + 1)) := by
  obtain ⟨H, hN, hS, n1, t1, d1⟩ := h
  have H5 : e + 1 ≤ 600 := he
  have H1 : e + 1 ≤ 2000 := by omega
  have hRS := RS_rng H.1.1 40 (by decide)
  have H2 : D ≤ 1000000 := by omega
  have H3 : N + 2 ≤ 1000000 := by omega
  have H4 : T + 20000 ≤ 1000000000 := by omega
  have gi : ∀ a b c, g12_in q a b c := fun a b c => g_in q a b c
  have E : v12_does q (cn 7) a b c d x f = ((v12_doRule q a b c d).1.toInt64, (v12_doRule q a b c d).2) ∧ (g12_doRule q a b c d → g12_does q (cn 7) a b c d x f) := by
    unfold v12_does bv12_does g12_does bg12_does
    simp only [if_neg (show ¬ cn 7 = cn 0 by decide), if_neg (show ¬ cn 7 = cn 1 by decide), if_neg (show ¬ cn 7 = cn 2 by decide), if_neg (show ¬ cn 7 = cn 3 by decide), if_neg (show ¬ cn 7 = cn 4 by decide), if_neg (show ¬ cn 7 = cn 5 by decide), if_neg (show ¬ cn 7 = cn 6 by decide), if_true]
    exact ⟨trivial, fun g => ⟨g, trivial⟩⟩
  obtain ⟨K1, K2⟩ : g12_doRule q a b c d ∧ DoE (lgB lg (e + 1)) q N T D 60 0 (kRule a b c d) (g6_bookAt p a ∧ g1_changeRule p (v6_bookAt p a) b c d) (v1_changeRule p (v6_bookAt p a) b c d) (v12_doRule q a b c d) := do_rule H1 H
  refine ⟨E.2 K1, doa_e E.1 (doa_of (by decide) (by decide) K2), fun _ => ?_⟩
  rw [E.1]
  exact sb_fw hS (fw_v12_doRule a b c d (fw_refl q))
theorem does_8 (he : e + 1 ≤ 600) (h : IV lg p q N T D e) : g12_does q (cn 8) a b c d x f ∧ DoA (lgB lg (e + 1)) q N T D (kBand a b) (g6_bookAt p a ∧ g1_changeBand p (v6_bookAt p a) b) (v1_changeBand p (v6_bookAt p a) b) ((v12_does q (cn 8) a b c d x f).1.toInt32, (v12_does q (cn 8) a b c d x f).2) ∧ (kBand a b = 0 → SB (v12_does q (cn 8) a b c d x f).2 (e + 1)) := by
  obtain ⟨H, hN, hS, n1, t1, d1⟩ := h
  have H5 : e + 1 ≤ 600 := he
  have H1 : e + 1 ≤ 2000 := by omega
  have hRS := RS_rng H.1.1 40 (by decide)
  have H2 : D ≤ 1000000 := by omega
  have H3 : N + 2 ≤ 1000000 := by omega
  have H4 : T + 20000 ≤ 1000000000 := by omega
  have gi : ∀ a b c, g12_in q a b c := fun a b c => g_in q a b c
  have E : v12_does q (cn 8) a b c d x f = ((v12_puts q 9 a (v12_in q a (cn 0) (cn 5)) b (v12_in q b (cn 0) (cn 9999))).1.toInt64, (v12_puts q 9 a (v12_in q a (cn 0) (cn 5)) b (v12_in q b (cn 0) (cn 9999))).2) ∧ (g12_puts q 9 a (v12_in q a (cn 0) (cn 5)) b (v12_in q b (cn 0) (cn 9999)) → g12_does q (cn 8) a b c d x f) := by
    unfold v12_does bv12_does g12_does bg12_does
    simp only [if_neg (show ¬ cn 8 = cn 0 by decide), if_neg (show ¬ cn 8 = cn 1 by decide), if_neg (show ¬ cn 8 = cn 2 by decide), if_neg (show ¬ cn 8 = cn 3 by decide), if_neg (show ¬ cn 8 = cn 4 by decide), if_neg (show ¬ cn 8 = cn 5 by decide), if_neg (show ¬ cn 8 = cn 6 by decide), if_neg (show ¬ cn 8 = cn 7 by decide), if_true]
    exact ⟨trivial, fun g => ⟨gi _ _ _, gi _ _ _, g, trivial⟩⟩
  obtain ⟨K1, K2⟩ : g12_puts q 9 a (v12_in q a (cn 0) (cn 5)) b (v12_in q b (cn 0) (cn 9999)) ∧ DoE (lgB lg (e + 1)) q N T D 60 0 (kBand a b) (g6_bookAt p a ∧ g1_changeBand p (v6_bookAt p a) b) (v1_changeBand p (v6_bookAt p a) b) (v12_puts q 9 a (v12_in q a (cn 0) (cn 5)) b (v12_in q b (cn 0) (cn 9999))) := do_band H1 H
  refine ⟨E.2 K1, doa_e E.1 (doa_of (by decide) (by decide) K2), fun _ => ?_⟩
  rw [E.1]
  exact sb_fw hS (fw_puts (by decide))
theorem does_9 (he : e + 1 ≤ 600) (h : IV lg p q N T D e) : g12_does q (cn 9) a b c d x f ∧ DoA (lgB lg (e + 1)) q N T D (kProt a b) (g7_accountAt p a ∧ g0_changeProtection p (v7_accountAt p a) b) (v0_changeProtection p (v7_accountAt p a) b) ((v12_does q (cn 9) a b c d x f).1.toInt32, (v12_does q (cn 9) a b c d x f).2) ∧ (kProt a b = 0 → SB (v12_does q (cn 9) a b c d x f).2 (e + 1)) := by
  obtain ⟨H, hN, hS, n1, t1, d1⟩ := h
  have H5 : e + 1 ≤ 600 := he
  have H1 : e + 1 ≤ 2000 := by omega
  have hRS := RS_rng H.1.1 40 (by decide)
  have H2 : D ≤ 1000000 := by omega
  have H3 : N + 2 ≤ 1000000 := by omega
  have H4 : T + 20000 ≤ 1000000000 := by omega
  have gi : ∀ a b c, g12_in q a b c := fun a b c => g_in q a b c
  have E : v12_does q (cn 9) a b c d x f = ((v12_puts q 3 a (v12_isAccount q a) b (v12_in q b (cn 0) (cn 999))).1.toInt64, (v12_puts q 3 a (v12_isAccount q a) b (v12_in q b (cn 0) (cn 999))).2) ∧ (g12_puts q 3 a (v12_isAccount q a) b (v12_in q b (cn 0) (cn 999)) → g12_does q (cn 9) a b c d x f) := by
    unfold v12_does bv12_does g12_does bg12_does
    simp only [if_neg (show ¬ cn 9 = cn 0 by decide), if_neg (show ¬ cn 9 = cn 1 by decide), if_neg (show ¬ cn 9 = cn 2 by decide), if_neg (show ¬ cn 9 = cn 3 by decide), if_neg (show ¬ cn 9 = cn 4 by decide), if_neg (show ¬ cn 9 = cn 5 by decide), if_neg (show ¬ cn 9 = cn 6 by decide), if_neg (show ¬ cn 9 = cn 7 by decide), if_neg (show ¬ cn 9 = cn 8 by decide), if_true]
    exact ⟨trivial, fun g => ⟨(acc_e q a).2, gi _ _ _, g, trivial⟩⟩
  obtain ⟨K1, K2⟩ : g12_puts q 3 a (v12_isAccount q a) b (v12_in q b (cn 0) (cn 999)) ∧ DoE (lgB lg (e + 1)) q N T D 60 0 (kProt a b) (g7_accountAt p a ∧ g0_changeProtection p (v7_accountAt p a) b) (v0_changeProtection p (v7_accountAt p a) b) (v12_puts q 3 a (v12_isAccount q a) b (v12_in q b (cn 0) (cn 999))) := do_prot H1 H
  refine ⟨E.2 K1, doa_e E.1 (doa_of (by decide) (by decide) K2), fun _ => ?_⟩
  rw [E.1]
  exact sb_fw hS (fw_puts (by decide))
theorem does_10 (he : e + 1 ≤ 600) (h : IV lg p q N T D e) : g12_does q (cn 10) a b c d x f ∧ DoA (lgB lg (e + 1)) q N T D (kMost a b c) (g7_accountAt p a ∧ g0_changeLimit p (v7_accountAt p a) b c) (v0_changeLimit p (v7_accountAt p a) b c) ((v12_does q (cn 10) a b c d x f).1.toInt32, (v12_does q (cn 10) a b c d x f).2) ∧ (kMost a b c = 0 → SB (v12_does q (cn 10) a b c d x f).2 (e + 1)) := by
  obtain ⟨H, hN, hS, n1, t1, d1⟩ := h
  have H5 : e + 1 ≤ 600 := he
  have H1 : e + 1 ≤ 2000 := by omega
  have hRS := RS_rng H.1.1 40 (by decide)
  have H2 : D ≤ 1000000 := by omega
  have H3 : N + 2 ≤ 1000000 := by omega
  have H4 : T + 20000 ≤ 1000000000 := by omega
  have gi : ∀ a b c, g12_in q a b c := fun a b c => g_in q a b c
  have E : v12_does q (cn 10) a b c d x f = ((v12_puts q 2 (cn 4 * a + b) (if isW a (cn 0) (cn 7) = 0 then cn 0 else if isW b (cn 0) (cn 3) = 0 then cn 0 else cn 1) c (v12_in q c (cn 0) (cn 999))).1.toInt64, (v12_puts q 2 (cn 4 * a + b) (if isW a (cn 0) (cn 7) = 0 then cn 0 else if isW b (cn 0) (cn 3) = 0 then cn 0 else cn 1) c (v12_in q c (cn 0) (cn 999))).2) ∧ (g12_puts q 2 (cn 4 * a + b) (if isW a (cn 0) (cn 7) = 0 then cn 0 else if isW b (cn 0) (cn 3) = 0 then cn 0 else cn 1) c (v12_in q c (cn 0) (cn 999)) → g12_does q (cn 10) a b c d x f) := by
    unfold v12_does bv12_does g12_does bg12_does
    simp only [if_neg (show ¬ cn 10 = cn 0 by decide), if_neg (show ¬ cn 10 = cn 1 by decide), if_neg (show ¬ cn 10 = cn 2 by decide), if_neg (show ¬ cn 10 = cn 3 by decide), if_neg (show ¬ cn 10 = cn 4 by decide), if_neg (show ¬ cn 10 = cn 5 by decide), if_neg (show ¬ cn 10 = cn 6 by decide), if_neg (show ¬ cn 10 = cn 7 by decide), if_neg (show ¬ cn 10 = cn 8 by decide), if_neg (show ¬ cn 10 = cn 9 by decide), if_true]
    have ga := (acc_e q a).2
    by_cases h1 : isW a (cn 0) (cn 7) = 0
    · have h1' : v12_isAccount q a = 0 := by rw [(acc_e q a).1]; exact h1
      simp only [if_pos h1, if_pos h1']
      exact ⟨rfl, fun g => ⟨ga, gi _ _ _, g, trivial⟩⟩
    · have h1' : ¬ v12_isAccount q a = 0 := by rw [(acc_e q a).1]; exact h1
      by_cases h2 : isW b (cn 0) (cn 3) = 0
      · have h2' : v12_in q b (cn 0) (cn 3) = 0 := h2
        simp only [if_neg h1, if_neg h1', if_pos h2, if_pos h2']
        exact ⟨rfl, fun g => ⟨ga, gi _ _ _, gi _ _ _, g, trivial⟩⟩
      · have h2' : ¬ v12_in q b (cn 0) (cn 3) = 0 := h2
        simp only [if_neg h1, if_neg h1', if_neg h2, if_neg h2']
        exact ⟨rfl, fun g => ⟨ga, gi _ _ _, gi _ _ _, g, trivial⟩⟩
  obtain ⟨K1, K2⟩ : g12_puts q 2 (cn 4 * a + b) (if isW a (cn 0) (cn 7) = 0 then cn 0 else if isW b (cn 0) (cn 3) = 0 then cn 0 else cn 1) c (v12_in q c (cn 0) (cn 999)) ∧ DoE (lgB lg (e + 1)) q N T D 60 0 (kMost a b c) (g7_accountAt p a ∧ g0_changeLimit p (v7_accountAt p a) b c) (v0_changeLimit p (v7_accountAt p a) b c) (v12_puts q 2 (cn 4 * a + b) (if isW a (cn 0) (cn 7) = 0 then cn 0 else if isW b (cn 0) (cn 3) = 0 then cn 0 else cn 1) c (v12_in q c (cn 0) (cn 999))) := do_most H1 rfl H
  refine ⟨E.2 K1, doa_e E.1 (doa_of (by decide) (by decide) K2), fun _ => ?_⟩
  rw [E.1]
  exact sb_fw hS (fw_puts (by decide))
theorem does_11 (he : e + 1 ≤ 600) (h : IV lg p q N T D e) : g12_does q (cn 11) a b c d x f ∧ DoA (lgB lg (e + 1)) q N T D (kAuction p a b c d) (g6_bookAt p a ∧ g6_beginAuction p (v6_bookAt p a) (b + d) c) (v6_beginAuction p (v6_bookAt p a) (b + d) c) ((v12_does q (cn 11) a b c d x f).1.toInt32, (v12_does q (cn 11) a b c d x f).2) ∧ (kAuction p a b c d = 0 → SB (v12_does q (cn 11) a b c d x f).2 (e + 1)) := by
  obtain ⟨H, hN, hS, n1, t1, d1⟩ := h
  have H5 : e + 1 ≤ 600 := he
  have H1 : e + 1 ≤ 2000 := by omega
  have hRS := RS_rng H.1.1 40 (by decide)
  have H2 : D ≤ 1000000 := by omega
  have H3 : N + 2 ≤ 1000000 := by omega
  have H4 : T + 20000 ≤ 1000000000 := by omega
  have gi : ∀ a b c, g12_in q a b c := fun a b c => g_in q a b c
  have E : v12_does q (cn 11) a b c d x f = ((v12_doAuction q a b c d).1.toInt64, (v12_doAuction q a b c d).2) ∧ (g12_doAuction q a b c d → g12_does q (cn 11) a b c d x f) := by
    unfold v12_does bv12_does g12_does bg12_does
    simp only [if_neg (show ¬ cn 11 = cn 0 by decide), if_neg (show ¬ cn 11 = cn 1 by decide), if_neg (show ¬ cn 11 = cn 2 by decide), if_neg (show ¬ cn 11 = cn 3 by decide), if_neg (show ¬ cn 11 = cn 4 by decide), if_neg (show ¬ cn 11 = cn 5 by decide), if_neg (show ¬ cn 11 = cn 6 by decide), if_neg (show ¬ cn 11 = cn 7 by decide), if_neg (show ¬ cn 11 = cn 8 by decide), if_neg (show ¬ cn 11 = cn 9 by decide), if_neg (show ¬ cn 11 = cn 10 by decide), if_true]
    exact ⟨trivial, fun g => ⟨g, trivial⟩⟩
  obtain ⟨K1, K2⟩ : g12_doAuction q a b c d ∧ DoE (lgB lg (e + 1)) q N T D 60 0 (kAuction p a b c d) (g6_bookAt p a ∧ g6_beginAuction p (v6_bookAt p a) (b + d) c) (v6_beginAuction p (v6_bookAt p a) (b + d) c) (v12_doAuction q a b c d) := do_auction H1 H
  refine ⟨E.2 K1, doa_e E.1 (doa_of (by decide) (by decide) K2), fun _ => ?_⟩
  rw [E.1]
  exact sb_fw hS (fw_v12_doAuction a b c d (fw_refl q))
theorem does_12 (he : e + 1 ≤ 600) (h : IV lg p q N T D e) : g12_does q (cn 12) a b c d x f ∧ DoA (lgB lg (e + 1)) q N T D (kPass a) (g5_letPass p a) (v5_letPass p a) ((v12_does q (cn 12) a b c d x f).1.toInt32, (v12_does q (cn 12) a b c d x f).2) ∧ (kPass a = 0 → SB (v12_does q (cn 12) a b c d x f).2 (e + 1)) := by
  obtain ⟨H, hN, hS, n1, t1, d1⟩ := h
  have H5 : e + 1 ≤ 600 := he
  have H1 : e + 1 ≤ 2000 := by omega
  have hRS := RS_rng H.1.1 40 (by decide)
  have H2 : D ≤ 1000000 := by omega
  have H3 : N + 2 ≤ 1000000 := by omega
  have H4 : T + 20000 ≤ 1000000000 := by omega
  have gi : ∀ a b c, g12_in q a b c := fun a b c => g_in q a b c
  have E : v12_does q (cn 12) a b c d x f = ((v12_doPass q a).1.toInt64, (v12_doPass q a).2) ∧ (g12_doPass q a → g12_does q (cn 12) a b c d x f) := by
    unfold v12_does bv12_does g12_does bg12_does
    simp only [if_neg (show ¬ cn 12 = cn 0 by decide), if_neg (show ¬ cn 12 = cn 1 by decide), if_neg (show ¬ cn 12 = cn 2 by decide), if_neg (show ¬ cn 12 = cn 3 by decide), if_neg (show ¬ cn 12 = cn 4 by decide), if_neg (show ¬ cn 12 = cn 5 by decide), if_neg (show ¬ cn 12 = cn 6 by decide), if_neg (show ¬ cn 12 = cn 7 by decide), if_neg (show ¬ cn 12 = cn 8 by decide), if_neg (show ¬ cn 12 = cn 9 by decide), if_neg (show ¬ cn 12 = cn 10 by decide), if_neg (show ¬ cn 12 = cn 11 by decide), if_true]
    exact ⟨trivial, fun g => ⟨g, trivial⟩⟩
  obtain ⟨⟨K1, K2⟩, K3⟩ := @do_pass p q lg N T D e a H1 H hN hS (by omega) (by omega)
  exact ⟨E.2 K1, doa_e E.1 K2, by rw [E.1]; exact K3⟩
theorem does_13 (he : e + 1 ≤ 600) (h : IV lg p q N T D e) : g12_does q (cn 13) a b c d x f ∧ DoA (lgB lg (e + 1)) q N T D (kDay p) (g6_turnDay p) (v6_turnDay p) ((v12_does q (cn 13) a b c d x f).1.toInt32, (v12_does q (cn 13) a b c d x f).2) ∧ (kDay p = 0 → SB (v12_does q (cn 13) a b c d x f).2 (e + 1)) := by
  obtain ⟨H, hN, hS, n1, t1, d1⟩ := h
  have H5 : e + 1 ≤ 600 := he
  have H1 : e + 1 ≤ 2000 := by omega
  have hRS := RS_rng H.1.1 40 (by decide)
  have H2 : D ≤ 1000000 := by omega
  have H3 : N + 2 ≤ 1000000 := by omega
  have H4 : T + 20000 ≤ 1000000000 := by omega
  have gi : ∀ a b c, g12_in q a b c := fun a b c => g_in q a b c
  have E : v12_does q (cn 13) a b c d x f = ((v12_doEndDay q).1.toInt64, (v12_doEndDay q).2) ∧ (g12_doEndDay q → g12_does q (cn 13) a b c d x f) := by
    unfold v12_does bv12_does g12_does bg12_does
    simp only [if_neg (show ¬ cn 13 = cn 0 by decide), if_neg (show ¬ cn 13 = cn 1 by decide), if_neg (show ¬ cn 13 = cn 2 by decide), if_neg (show ¬ cn 13 = cn 3 by decide), if_neg (show ¬ cn 13 = cn 4 by decide), if_neg (show ¬ cn 13 = cn 5 by decide), if_neg (show ¬ cn 13 = cn 6 by decide), if_neg (show ¬ cn 13 = cn 7 by decide), if_neg (show ¬ cn 13 = cn 8 by decide), if_neg (show ¬ cn 13 = cn 9 by decide), if_neg (show ¬ cn 13 = cn 10 by decide), if_neg (show ¬ cn 13 = cn 11 by decide), if_neg (show ¬ cn 13 = cn 12 by decide), if_true]
    exact ⟨trivial, fun g => ⟨g, trivial⟩⟩
  obtain ⟨⟨-, K1, K2⟩, K3⟩ := do_day H1 H hS
  exact ⟨E.2 K1, doa_e E.1 (doa_of (by decide) (by decide) K2), by rw [E.1]; exact K3⟩
theorem does_14 (he : e + 1 ≤ 600) (h : IV lg p q N T D e) : g12_does q (cn 14) a b c d x f ∧ DoA (lgB lg (e + 1)) q N T D (kBust p a) (g5_undo p a) (v5_undo p a) ((v12_does q (cn 14) a b c d x f).1.toInt32, (v12_does q (cn 14) a b c d x f).2) ∧ (kBust p a = 0 → SB (v12_does q (cn 14) a b c d x f).2 (e + 1)) := by
  obtain ⟨H, hN, hS, n1, t1, d1⟩ := h
  have H5 : e + 1 ≤ 600 := he
  have H1 : e + 1 ≤ 2000 := by omega
  have hRS := RS_rng H.1.1 40 (by decide)
  have H2 : D ≤ 1000000 := by omega
  have H3 : N + 2 ≤ 1000000 := by omega
  have H4 : T + 20000 ≤ 1000000000 := by omega
  have gi : ∀ a b c, g12_in q a b c := fun a b c => g_in q a b c
  have E : v12_does q (cn 14) a b c d x f = ((v12_doBust q a).1.toInt64, (v12_doBust q a).2) ∧ (g12_doBust q a → g12_does q (cn 14) a b c d x f) := by
    unfold v12_does bv12_does g12_does bg12_does
    simp only [if_neg (show ¬ cn 14 = cn 0 by decide), if_neg (show ¬ cn 14 = cn 1 by decide), if_neg (show ¬ cn 14 = cn 2 by decide), if_neg (show ¬ cn 14 = cn 3 by decide), if_neg (show ¬ cn 14 = cn 4 by decide), if_neg (show ¬ cn 14 = cn 5 by decide), if_neg (show ¬ cn 14 = cn 6 by decide), if_neg (show ¬ cn 14 = cn 7 by decide), if_neg (show ¬ cn 14 = cn 8 by decide), if_neg (show ¬ cn 14 = cn 9 by decide), if_neg (show ¬ cn 14 = cn 10 by decide), if_neg (show ¬ cn 14 = cn 11 by decide), if_neg (show ¬ cn 14 = cn 12 by decide), if_neg (show ¬ cn 14 = cn 13 by decide), if_true]
    exact ⟨trivial, fun g => ⟨g, trivial⟩⟩
  obtain ⟨K1, K2⟩ : g12_doBust q a ∧ DoE (lgB lg (e + 1)) q N T D 60 0 (kBust p a) (g5_undo p a) (v5_undo p a) (v12_doBust q a) := do_bust H1 H
  refine ⟨E.2 K1, doa_e E.1 (doa_of (by decide) (by decide) K2), fun _ => ?_⟩
  rw [E.1]
  exact sb_fw hS (fw_v12_doBust a (fw_refl q))
theorem does_15 (hfl : ¬ lg 4006 = cn 1) (he : e + 1 ≤ 600) (h : IV lg p q N T D e) : g12_does q (cn 15) a b c d x f ∧ DoA (lgB lg (e + 1)) q N T D (kAdjust p a b) (g7_reprice p a b) (v7_reprice p a b) ((v12_does q (cn 15) a b c d x f).1.toInt32, (v12_does q (cn 15) a b c d x f).2) ∧ (kAdjust p a b = 0 → SB (v12_does q (cn 15) a b c d x f).2 (e + 1)) := by
  obtain ⟨H, hN, hS, n1, t1, d1⟩ := h
  have H5 : e + 1 ≤ 600 := he
  have H1 : e + 1 ≤ 2000 := by omega
  have hRS := RS_rng H.1.1 40 (by decide)
  have H2 : D ≤ 1000000 := by omega
  have H3 : N + 2 ≤ 1000000 := by omega
  have H4 : T + 20000 ≤ 1000000000 := by omega
  have gi : ∀ a b c, g12_in q a b c := fun a b c => g_in q a b c
  have E : v12_does q (cn 15) a b c d x f = ((v12_doAdjust q a b).1.toInt64, (v12_doAdjust q a b).2) ∧ (g12_doAdjust q a b → g12_does q (cn 15) a b c d x f) := by
    unfold v12_does bv12_does g12_does bg12_does
    simp only [if_neg (show ¬ cn 15 = cn 0 by decide), if_neg (show ¬ cn 15 = cn 1 by decide), if_neg (show ¬ cn 15 = cn 2 by decide), if_neg (show ¬ cn 15 = cn 3 by decide), if_neg (show ¬ cn 15 = cn 4 by decide), if_neg (show ¬ cn 15 = cn 5 by decide), if_neg (show ¬ cn 15 = cn 6 by decide), if_neg (show ¬ cn 15 = cn 7 by decide), if_neg (show ¬ cn 15 = cn 8 by decide), if_neg (show ¬ cn 15 = cn 9 by decide), if_neg (show ¬ cn 15 = cn 10 by decide), if_neg (show ¬ cn 15 = cn 11 by decide), if_neg (show ¬ cn 15 = cn 12 by decide), if_neg (show ¬ cn 15 = cn 13 by decide), if_neg (show ¬ cn 15 = cn 14 by decide), if_true]
    exact ⟨trivial, fun g => ⟨g, trivial⟩⟩
  obtain ⟨K1, K2⟩ : g12_doAdjust q a b ∧ DoE (lgB lg (e + 1)) q N T D 60 0 (kAdjust p a b) (g7_reprice p a b) (v7_reprice p a b) (v12_doAdjust q a b) := do_adjust hfl H1 H
  refine ⟨E.2 K1, doa_e E.1 (doa_of (by decide) (by decide) K2), fun _ => ?_⟩
  rw [E.1]
  exact sb_fw hS (fw_v12_doAdjust a b (fw_refl q))
theorem does_16 (he : e + 1 ≤ 600) (h : IV lg p q N T D e) : g12_does q (cn 16) a b c d x f ∧ DoA (lgB lg (e + 1)) q N T D (kGive p a c) (g7_replaceSide p a (if b = cn 1 then cn 1 else cn 0) c) (v7_replaceSide p a (if b = cn 1 then cn 1 else cn 0) c) ((v12_does q (cn 16) a b c d x f).1.toInt32, (v12_does q (cn 16) a b c d x f).2) ∧ (kGive p a c = 0 → SB (v12_does q (cn 16) a b c d x f).2 (e + 1)) := by
  obtain ⟨H, hN, hS, n1, t1, d1⟩ := h
  have H5 : e + 1 ≤ 600 := he
  have H1 : e + 1 ≤ 2000 := by omega
  have hRS := RS_rng H.1.1 40 (by decide)
  have H2 : D ≤ 1000000 := by omega
  have H3 : N + 2 ≤ 1000000 := by omega
  have H4 : T + 20000 ≤ 1000000000 := by omega
  have gi : ∀ a b c, g12_in q a b c := fun a b c => g_in q a b c
  have E : v12_does q (cn 16) a b c d x f = ((v12_doGiveUp q a (if b = cn 1 then cn 1 else cn 0) c).1.toInt64, (v12_doGiveUp q a (if b = cn 1 then cn 1 else cn 0) c).2) ∧ (g12_doGiveUp q a (if b = cn 1 then cn 1 else cn 0) c → g12_does q (cn 16) a b c d x f) := by
    unfold v12_does bv12_does g12_does bg12_does
    simp only [if_neg (show ¬ cn 16 = cn 0 by decide), if_neg (show ¬ cn 16 = cn 1 by decide), if_neg (show ¬ cn 16 = cn 2 by decide), if_neg (show ¬ cn 16 = cn 3 by decide), if_neg (show ¬ cn 16 = cn 4 by decide), if_neg (show ¬ cn 16 = cn 5 by decide), if_neg (show ¬ cn 16 = cn 6 by decide), if_neg (show ¬ cn 16 = cn 7 by decide), if_neg (show ¬ cn 16 = cn 8 by decide), if_neg (show ¬ cn 16 = cn 9 by decide), if_neg (show ¬ cn 16 = cn 10 by decide), if_neg (show ¬ cn 16 = cn 11 by decide), if_neg (show ¬ cn 16 = cn 12 by decide), if_neg (show ¬ cn 16 = cn 13 by decide), if_neg (show ¬ cn 16 = cn 14 by decide), if_neg (show ¬ cn 16 = cn 15 by decide), if_true]
    by_cases h1 : b = cn 1
    · simp only [if_pos h1]
      exact ⟨rfl, fun g => ⟨g, trivial⟩⟩
    · simp only [if_neg h1]
      exact ⟨rfl, fun g => ⟨g, trivial⟩⟩
  obtain ⟨K1, K2⟩ : g12_doGiveUp q a (if b = cn 1 then cn 1 else cn 0) c ∧ DoE (lgB lg (e + 1)) q N T D 60 0 (kGive p a c) (g7_replaceSide p a (if b = cn 1 then cn 1 else cn 0) c) (v7_replaceSide p a (if b = cn 1 then cn 1 else cn 0) c) (v12_doGiveUp q a (if b = cn 1 then cn 1 else cn 0) c) := do_give H1 (ite_b _) H
  refine ⟨E.2 K1, doa_e E.1 (doa_of (by decide) (by decide) K2), fun _ => ?_⟩
  rw [E.1]
  exact sb_fw hS (fw_v12_doGiveUp a _ c (fw_refl q))
theorem does_17 (he : e + 1 ≤ 600) (h : IV lg p q N T D e) : g12_does q (cn 17) a b c d x f ∧ DoA (lgB lg (e + 1)) q N T D (kAllot p a b c d) (g7_allotLots p a b c d) (v7_allotLots p a b c d) ((v12_does q (cn 17) a b c d x f).1.toInt32, (v12_does q (cn 17) a b c d x f).2) ∧ (kAllot p a b c d = 0 → SB (v12_does q (cn 17) a b c d x f).2 (e + 1)) := by
  obtain ⟨H, hN, hS, n1, t1, d1⟩ := h
  have H5 : e + 1 ≤ 600 := he
  have H1 : e + 1 ≤ 2000 := by omega
  have hRS := RS_rng H.1.1 40 (by decide)
  have H2 : D ≤ 1000000 := by omega
  have H3 : N + 2 ≤ 1000000 := by omega
  have H4 : T + 20000 ≤ 1000000000 := by omega
  have gi : ∀ a b c, g12_in q a b c := fun a b c => g_in q a b c
  have E : v12_does q (cn 17) a b c d x f = ((v12_doAllot q a b c d).1.toInt64, (v12_doAllot q a b c d).2) ∧ (g12_doAllot q a b c d → g12_does q (cn 17) a b c d x f) := by
    unfold v12_does bv12_does g12_does bg12_does
    simp only [if_neg (show ¬ cn 17 = cn 0 by decide), if_neg (show ¬ cn 17 = cn 1 by decide), if_neg (show ¬ cn 17 = cn 2 by decide), if_neg (show ¬ cn 17 = cn 3 by decide), if_neg (show ¬ cn 17 = cn 4 by decide), if_neg (show ¬ cn 17 = cn 5 by decide), if_neg (show ¬ cn 17 = cn 6 by decide), if_neg (show ¬ cn 17 = cn 7 by decide), if_neg (show ¬ cn 17 = cn 8 by decide), if_neg (show ¬ cn 17 = cn 9 by decide), if_neg (show ¬ cn 17 = cn 10 by decide), if_neg (show ¬ cn 17 = cn 11 by decide), if_neg (show ¬ cn 17 = cn 12 by decide), if_neg (show ¬ cn 17 = cn 13 by decide), if_neg (show ¬ cn 17 = cn 14 by decide), if_neg (show ¬ cn 17 = cn 15 by decide), if_neg (show ¬ cn 17 = cn 16 by decide), if_true]
    unfold v12_doesMore bv12_doesMore g12_doesMore bg12_doesMore
    simp only [if_true]
    exact ⟨trivial, fun g => ⟨⟨g, trivial⟩, trivial⟩⟩
  obtain ⟨K1, K2⟩ : g12_doAllot q a b c d ∧ DoE (lgB lg (e + 1)) q N T D 60 0 (kAllot p a b c d) (g7_allotLots p a b c d) (v7_allotLots p a b c d) (v12_doAllot q a b c d) := do_allot H1 H
  refine ⟨E.2 K1, doa_e E.1 (doa_of (by decide) (by decide) K2), fun _ => ?_⟩
  rw [E.1]
  exact sb_fw hS (fw_v12_doAllot a b c d (fw_refl q))
theorem does_18 (hfl : ¬ lg 4006 = cn 1) (he : e + 1 ≤ 600) (h : IV lg p q N T D e) : g12_does q (cn 18) a b c d x f ∧ DoA (lgB lg (e + 1)) q N T D (kExer p a b c) (g7_exerciseLots p a b c) (v7_exerciseLots p a b c) ((v12_does q (cn 18) a b c d x f).1.toInt32, (v12_does q (cn 18) a b c d x f).2) ∧ (kExer p a b c = 0 → SB (v12_does q (cn 18) a b c d x f).2 (e + 1)) := by
  obtain ⟨H, hN, hS, n1, t1, d1⟩ := h
  have H5 : e + 1 ≤ 600 := he
  have H1 : e + 1 ≤ 2000 := by omega
  have hRS := RS_rng H.1.1 40 (by decide)
  have H2 : D ≤ 1000000 := by omega
  have H3 : N + 2 ≤ 1000000 := by omega
  have H4 : T + 20000 ≤ 1000000000 := by omega
  have gi : ∀ a b c, g12_in q a b c := fun a b c => g_in q a b c
  have E : v12_does q (cn 18) a b c d x f = ((v12_doExercise q a b c).1.toInt64, (v12_doExercise q a b c).2) ∧ (g12_doExercise q a b c → g12_does q (cn 18) a b c d x f) := by
    unfold v12_does bv12_does g12_does bg12_does
    simp only [if_neg (show ¬ cn 18 = cn 0 by decide), if_neg (show ¬ cn 18 = cn 1 by decide), if_neg (show ¬ cn 18 = cn 2 by decide), if_neg (show ¬ cn 18 = cn 3 by decide), if_neg (show ¬ cn 18 = cn 4 by decide), if_neg (show ¬ cn 18 = cn 5 by decide), if_neg (show ¬ cn 18 = cn 6 by decide), if_neg (show ¬ cn 18 = cn 7 by decide), if_neg (show ¬ cn 18 = cn 8 by decide), if_neg (show ¬ cn 18 = cn 9 by decide), if_neg (show ¬ cn 18 = cn 10 by decide), if_neg (show ¬ cn 18 = cn 11 by decide), if_neg (show ¬ cn 18 = cn 12 by decide), if_neg (show ¬ cn 18 = cn 13 by decide), if_neg (show ¬ cn 18 = cn 14 by decide), if_neg (show ¬ cn 18 = cn 15 by decide), if_neg (show ¬ cn 18 = cn 16 by decide), if_true]
    unfold v12_doesMore bv12_doesMore g12_doesMore bg12_doesMore
    simp only [if_neg (show ¬ cn 18 = cn 17 by decide), if_true]
    exact ⟨trivial, fun g => ⟨⟨g, trivial⟩, trivial⟩⟩
  obtain ⟨K1, K2⟩ : g12_doExercise q a b c ∧ DoE (lgB lg (e + 1)) q N T D 60 0 (kExer p a b c) (g7_exerciseLots p a b c) (v7_exerciseLots p a b c) (v12_doExercise q a b c) := do_exer hfl H1 H2 H
  refine ⟨E.2 K1, doa_e E.1 (doa_of (by decide) (by decide) K2), fun _ => ?_⟩
  rw [E.1]
  exact sb_fw hS (fw_v12_doExercise a b c (fw_refl q))
theorem does_19 (hfc : ¬ lg 4006 = cn 1 ∨ ¬ lg 4007 = cn 1) (he : e + 1 ≤ 600) (h : IV lg p q N T D e) : g12_does q (cn 19) a b c d x f ∧ DoA (lgB lg (e + 1)) q N T D (kConv p a b c) (g5_convertContract p a b c) (v5_convertContract p a b c) ((v12_does q (cn 19) a b c d x f).1.toInt32, (v12_does q (cn 19) a b c d x f).2) ∧ (kConv p a b c = 0 → SB (v12_does q (cn 19) a b c d x f).2 (e + 1)) := by
  obtain ⟨H, hN, hS, n1, t1, d1⟩ := h
  have H5 : e + 1 ≤ 600 := he
  have H1 : e + 1 ≤ 2000 := by omega
  have hRS := RS_rng H.1.1 40 (by decide)
  have H2 : D ≤ 1000000 := by omega
  have H3 : N + 2 ≤ 1000000 := by omega
  have H4 : T + 20000 ≤ 1000000000 := by omega
  have gi : ∀ a b c, g12_in q a b c := fun a b c => g_in q a b c
  have E : v12_does q (cn 19) a b c d x f = ((v12_doConvert q a b c).1.toInt64, (v12_doConvert q a b c).2) ∧ (g12_doConvert q a b c → g12_does q (cn 19) a b c d x f) := by
    unfold v12_does bv12_does g12_does bg12_does
    simp only [if_neg (show ¬ cn 19 = cn 0 by decide), if_neg (show ¬ cn 19 = cn 1 by decide), if_neg (show ¬ cn 19 = cn 2 by decide), if_neg (show ¬ cn 19 = cn 3 by decide), if_neg (show ¬ cn 19 = cn 4 by decide), if_neg (show ¬ cn 19 = cn 5 by decide), if_neg (show ¬ cn 19 = cn 6 by decide), if_neg (show ¬ cn 19 = cn 7 by decide), if_neg (show ¬ cn 19 = cn 8 by decide), if_neg (show ¬ cn 19 = cn 9 by decide), if_neg (show ¬ cn 19 = cn 10 by decide), if_neg (show ¬ cn 19 = cn 11 by decide), if_neg (show ¬ cn 19 = cn 12 by decide), if_neg (show ¬ cn 19 = cn 13 by decide), if_neg (show ¬ cn 19 = cn 14 by decide), if_neg (show ¬ cn 19 = cn 15 by decide), if_neg (show ¬ cn 19 = cn 16 by decide), if_true]
    unfold v12_doesMore bv12_doesMore g12_doesMore bg12_doesMore
    simp only [if_neg (show ¬ cn 19 = cn 17 by decide), if_neg (show ¬ cn 19 = cn 18 by decide), if_true]
    exact ⟨trivial, fun g => ⟨⟨g, trivial⟩, trivial⟩⟩
  obtain ⟨K1, K2⟩ : g12_doConvert q a b c ∧ DoE (lgB lg (e + 1)) q N T D 60 0 (kConv p a b c) (g5_convertContract p a b c) (v5_convertContract p a b c) (v12_doConvert q a b c) := do_conv H1 H hfc
  refine ⟨E.2 K1, doa_e E.1 (doa_of (by decide) (by decide) K2), fun _ => ?_⟩
  rw [E.1]
  exact sb_fw hS (fw_v12_doConvert a b c (fw_refl q))
theorem does_20 (he : e + 1 ≤ 600) (h : IV lg p q N T D e) : g12_does q (cn 20) a b c d x f ∧ DoA (lgB lg (e + 1)) q N T D (kMove a b c) (g2_changeMove p a b c) (v2_changeMove p a b c) ((v12_does q (cn 20) a b c d x f).1.toInt32, (v12_does q (cn 20) a b c d x f).2) ∧ (kMove a b c = 0 → SB (v12_does q (cn 20) a b c d x f).2 (e + 1)) := by
  obtain ⟨H, hN, hS, n1, t1, d1⟩ := h
  have H5 : e + 1 ≤ 600 := he
  have H1 : e + 1 ≤ 2000 := by omega
  have hRS := RS_rng H.1.1 40 (by decide)
  have H2 : D ≤ 1000000 := by omega
  have H3 : N + 2 ≤ 1000000 := by omega
  have H4 : T + 20000 ≤ 1000000000 := by omega
  have gi : ∀ a b c, g12_in q a b c := fun a b c => g_in q a b c
  have E : v12_does q (cn 20) a b c d x f = ((v12_puts q 35 (cn 4 * a + b) (if isW a (cn 0) (cn 3) = 0 then cn 0 else if isW b (cn 0) (cn 3) = 0 then cn 0 else cn 1) c (v12_in q c (cn (-99)) (cn 99))).1.toInt64, (v12_puts q 35 (cn 4 * a + b) (if isW a (cn 0) (cn 3) = 0 then cn 0 else if isW b (cn 0) (cn 3) = 0 then cn 0 else cn 1) c (v12_in q c (cn (-99)) (cn 99))).2) ∧ (g12_puts q 35 (cn 4 * a + b) (if isW a (cn 0) (cn 3) = 0 then cn 0 else if isW b (cn 0) (cn 3) = 0 then cn 0 else cn 1) c (v12_in q c (cn (-99)) (cn 99)) → g12_does q (cn 20) a b c d x f) := by
    unfold v12_does bv12_does g12_does bg12_does
    simp only [if_neg (show ¬ cn 20 = cn 0 by decide), if_neg (show ¬ cn 20 = cn 1 by decide), if_neg (show ¬ cn 20 = cn 2 by decide), if_neg (show ¬ cn 20 = cn 3 by decide), if_neg (show ¬ cn 20 = cn 4 by decide), if_neg (show ¬ cn 20 = cn 5 by decide), if_neg (show ¬ cn 20 = cn 6 by decide), if_neg (show ¬ cn 20 = cn 7 by decide), if_neg (show ¬ cn 20 = cn 8 by decide), if_neg (show ¬ cn 20 = cn 9 by decide), if_neg (show ¬ cn 20 = cn 10 by decide), if_neg (show ¬ cn 20 = cn 11 by decide), if_neg (show ¬ cn 20 = cn 12 by decide), if_neg (show ¬ cn 20 = cn 13 by decide), if_neg (show ¬ cn 20 = cn 14 by decide), if_neg (show ¬ cn 20 = cn 15 by decide), if_neg (show ¬ cn 20 = cn 16 by decide), if_true]
    unfold v12_doesMore bv12_doesMore g12_doesMore bg12_doesMore
    simp only [if_neg (show ¬ cn 20 = cn 17 by decide), if_neg (show ¬ cn 20 = cn 18 by decide), if_neg (show ¬ cn 20 = cn 19 by decide), if_true]
    by_cases h1 : isW a (cn 0) (cn 3) = 0
    · have h1' : v12_in q a (cn 0) (cn 3) = 0 := h1
      simp only [if_pos h1, if_pos h1']
      exact ⟨rfl, fun g => ⟨⟨gi _ _ _, gi _ _ _, g, trivial⟩, trivial⟩⟩
    · have h1' : ¬ v12_in q a (cn 0) (cn 3) = 0 := h1
      by_cases h2 : isW b (cn 0) (cn 3) = 0
      · have h2' : v12_in q b (cn 0) (cn 3) = 0 := h2
        simp only [if_neg h1, if_neg h1', if_pos h2, if_pos h2']
        exact ⟨rfl, fun g => ⟨⟨gi _ _ _, gi _ _ _, gi _ _ _, g, trivial⟩, trivial⟩⟩
      · have h2' : ¬ v12_in q b (cn 0) (cn 3) = 0 := h2
        simp only [if_neg h1, if_neg h1', if_neg h2, if_neg h2']
        exact ⟨trivial, fun g => ⟨⟨gi _ _ _, gi _ _ _, gi _ _ _, g, trivial⟩, trivial⟩⟩
  obtain ⟨K1, K2⟩ : g12_puts q 35 (cn 4 * a + b) (if isW a (cn 0) (cn 3) = 0 then cn 0 else if isW b (cn 0) (cn 3) = 0 then cn 0 else cn 1) c (v12_in q c (cn (-99)) (cn 99)) ∧ DoE (lgB lg (e + 1)) q N T D 60 0 (kMove a b c) (g2_changeMove p a b c) (v2_changeMove p a b c) (v12_puts q 35 (cn 4 * a + b) (if isW a (cn 0) (cn 3) = 0 then cn 0 else if isW b (cn 0) (cn 3) = 0 then cn 0 else cn 1) c (v12_in q c (cn (-99)) (cn 99))) := do_move H1 rfl H
  refine ⟨E.2 K1, doa_e E.1 (doa_of (by decide) (by decide) K2), fun _ => ?_⟩
  rw [E.1]
  exact sb_fw hS (fw_puts (by decide))
theorem does_21 (he : e + 1 ≤ 600) (h : IV lg p q N T D e) : g12_does q (cn 21) a b c d x f ∧ DoA (lgB lg (e + 1)) q N T D (kHair a) (g2_changeHaircut p a) (v2_changeHaircut p a) ((v12_does q (cn 21) a b c d x f).1.toInt32, (v12_does q (cn 21) a b c d x f).2) ∧ (kHair a = 0 → SB (v12_does q (cn 21) a b c d x f).2 (e + 1)) := by
  obtain ⟨H, hN, hS, n1, t1, d1⟩ := h
  have H5 : e + 1 ≤ 600 := he
  have H1 : e + 1 ≤ 2000 := by omega
  have hRS := RS_rng H.1.1 40 (by decide)
  have H2 : D ≤ 1000000 := by omega
  have H3 : N + 2 ≤ 1000000 := by omega
  have H4 : T + 20000 ≤ 1000000000 := by omega
  have gi : ∀ a b c, g12_in q a b c := fun a b c => g_in q a b c
  have E : v12_does q (cn 21) a b c d x f = (v12_doesMore_149 q a (if isW a (cn 0) (cn 100) = 0 then cn 1 else cn 0)) ∧ (g12_doesMore_149 q a (if isW a (cn 0) (cn 100) = 0 then cn 1 else cn 0) → g12_does q (cn 21) a b c d x f) := by
    unfold v12_does bv12_does g12_does bg12_does
    simp only [if_neg (show ¬ cn 21 = cn 0 by decide), if_neg (show ¬ cn 21 = cn 1 by decide), if_neg (show ¬ cn 21 = cn 2 by decide), if_neg (show ¬ cn 21 = cn 3 by decide), if_neg (show ¬ cn 21 = cn 4 by decide), if_neg (show ¬ cn 21 = cn 5 by decide), if_neg (show ¬ cn 21 = cn 6 by decide), if_neg (show ¬ cn 21 = cn 7 by decide), if_neg (show ¬ cn 21 = cn 8 by decide), if_neg (show ¬ cn 21 = cn 9 by decide), if_neg (show ¬ cn 21 = cn 10 by decide), if_neg (show ¬ cn 21 = cn 11 by decide), if_neg (show ¬ cn 21 = cn 12 by decide), if_neg (show ¬ cn 21 = cn 13 by decide), if_neg (show ¬ cn 21 = cn 14 by decide), if_neg (show ¬ cn 21 = cn 15 by decide), if_neg (show ¬ cn 21 = cn 16 by decide), if_true]
    unfold v12_doesMore bv12_doesMore g12_doesMore bg12_doesMore
    simp only [if_neg (show ¬ cn 21 = cn 17 by decide), if_neg (show ¬ cn 21 = cn 18 by decide), if_neg (show ¬ cn 21 = cn 19 by decide), if_neg (show ¬ cn 21 = cn 20 by decide), if_true]
    by_cases h1 : isW a (cn 0) (cn 100) = 0
    · have h1' : v12_in q a (cn 0) (cn 100) = 0 := h1
      simp only [if_pos h1, if_pos h1']
      exact ⟨trivial, fun g => ⟨⟨gi _ _ _, g⟩, trivial⟩⟩
    · have h1' : ¬ v12_in q a (cn 0) (cn 100) = 0 := h1
      simp only [if_neg h1, if_neg h1']
      exact ⟨trivial, fun g => ⟨⟨gi _ _ _, g⟩, trivial⟩⟩
  obtain ⟨K1, K2⟩ := do_hair (v := a) H1 rfl H
  refine ⟨E.2 K1, ?_, fun _ => ?_⟩
  · rw [E.1]
    exact doa_of (by decide) (by decide) K2
  · rw [E.1]
    exact sb_fw hS (fw_v12_doesMore_149 a _ (fw_refl q))
theorem does_22 (he : e + 1 ≤ 600) (h : IV lg p q N T D e) : g12_does q (cn 22) a b c d x f ∧ DoA (lgB lg (e + 1)) q N T D (kPay p a b c) (g2_bring p a b c) (v2_bring p a b c) ((v12_does q (cn 22) a b c d x f).1.toInt32, (v12_does q (cn 22) a b c d x f).2) ∧ (kPay p a b c = 0 → SB (v12_does q (cn 22) a b c d x f).2 (e + 1)) := by
  obtain ⟨H, hN, hS, n1, t1, d1⟩ := h
  have H5 : e + 1 ≤ 600 := he
  have H1 : e + 1 ≤ 2000 := by omega
  have hRS := RS_rng H.1.1 40 (by decide)
  have H2 : D ≤ 1000000 := by omega
  have H3 : N + 2 ≤ 1000000 := by omega
  have H4 : T + 20000 ≤ 1000000000 := by omega
  have gi : ∀ a b c, g12_in q a b c := fun a b c => g_in q a b c
  have E : v12_does q (cn 22) a b c d x f = (v12_doPay q a b c) ∧ (g12_doPay q a b c → g12_does q (cn 22) a b c d x f) := by
    unfold v12_does bv12_does g12_does bg12_does
    simp only [if_neg (show ¬ cn 22 = cn 0 by decide), if_neg (show ¬ cn 22 = cn 1 by decide), if_neg (show ¬ cn 22 = cn 2 by decide), if_neg (show ¬ cn 22 = cn 3 by decide), if_neg (show ¬ cn 22 = cn 4 by decide), if_neg (show ¬ cn 22 = cn 5 by decide), if_neg (show ¬ cn 22 = cn 6 by decide), if_neg (show ¬ cn 22 = cn 7 by decide), if_neg (show ¬ cn 22 = cn 8 by decide), if_neg (show ¬ cn 22 = cn 9 by decide), if_neg (show ¬ cn 22 = cn 10 by decide), if_neg (show ¬ cn 22 = cn 11 by decide), if_neg (show ¬ cn 22 = cn 12 by decide), if_neg (show ¬ cn 22 = cn 13 by decide), if_neg (show ¬ cn 22 = cn 14 by decide), if_neg (show ¬ cn 22 = cn 15 by decide), if_neg (show ¬ cn 22 = cn 16 by decide), if_true]
    unfold v12_doesMore bv12_doesMore g12_doesMore bg12_doesMore
    simp only [if_neg (show ¬ cn 22 = cn 17 by decide), if_neg (show ¬ cn 22 = cn 18 by decide), if_neg (show ¬ cn 22 = cn 19 by decide), if_neg (show ¬ cn 22 = cn 20 by decide), if_neg (show ¬ cn 22 = cn 21 by decide), if_true]
    exact ⟨trivial, fun g => ⟨⟨g, trivial⟩, trivial⟩⟩
  obtain ⟨⟨K1, K2⟩, K3⟩ := do_pay (m := a) (c := b) (u := c) H5 H hS
  refine ⟨E.2 K1, ?_, by rw [E.1]; exact K3⟩
  rw [E.1]
  exact doa_of (by decide) (by decide) K2
theorem does_23 (he : e + 1 ≤ 600) (h : IV lg p q N T D e) : g12_does q (cn 23) a b c d x f ∧ DoA (lgB lg (e + 1)) q N T D (kFund p a b) (g2_changeFund p a b) (v2_changeFund p a b) ((v12_does q (cn 23) a b c d x f).1.toInt32, (v12_does q (cn 23) a b c d x f).2) ∧ (kFund p a b = 0 → SB (v12_does q (cn 23) a b c d x f).2 (e + 1)) := by
  obtain ⟨H, hN, hS, n1, t1, d1⟩ := h
  have H5 : e + 1 ≤ 600 := he
  have H1 : e + 1 ≤ 2000 := by omega
  have hRS := RS_rng H.1.1 40 (by decide)
  have H2 : D ≤ 1000000 := by omega
  have H3 : N + 2 ≤ 1000000 := by omega
  have H4 : T + 20000 ≤ 1000000000 := by omega
  have gi : ∀ a b c, g12_in q a b c := fun a b c => g_in q a b c
  have E : v12_does q (cn 23) a b c d x f = ((v12_doFund q a b).1.toInt64, (v12_doFund q a b).2) ∧ (g12_doFund q a b → g12_does q (cn 23) a b c d x f) := by
    unfold v12_does bv12_does g12_does bg12_does
    simp only [if_neg (show ¬ cn 23 = cn 0 by decide), if_neg (show ¬ cn 23 = cn 1 by decide), if_neg (show ¬ cn 23 = cn 2 by decide), if_neg (show ¬ cn 23 = cn 3 by decide), if_neg (show ¬ cn 23 = cn 4 by decide), if_neg (show ¬ cn 23 = cn 5 by decide), if_neg (show ¬ cn 23 = cn 6 by decide), if_neg (show ¬ cn 23 = cn 7 by decide), if_neg (show ¬ cn 23 = cn 8 by decide), if_neg (show ¬ cn 23 = cn 9 by decide), if_neg (show ¬ cn 23 = cn 10 by decide), if_neg (show ¬ cn 23 = cn 11 by decide), if_neg (show ¬ cn 23 = cn 12 by decide), if_neg (show ¬ cn 23 = cn 13 by decide), if_neg (show ¬ cn 23 = cn 14 by decide), if_neg (show ¬ cn 23 = cn 15 by decide), if_neg (show ¬ cn 23 = cn 16 by decide), if_true]
    unfold v12_doesMore bv12_doesMore g12_doesMore bg12_doesMore
    simp only [if_neg (show ¬ cn 23 = cn 17 by decide), if_neg (show ¬ cn 23 = cn 18 by decide), if_neg (show ¬ cn 23 = cn 19 by decide), if_neg (show ¬ cn 23 = cn 20 by decide), if_neg (show ¬ cn 23 = cn 21 by decide), if_neg (show ¬ cn 23 = cn 22 by decide), if_true]
    exact ⟨trivial, fun g => ⟨⟨g, trivial⟩, trivial⟩⟩
  obtain ⟨K1, K2⟩ : g12_doFund q a b ∧ DoE (lgB lg (e + 1)) q N T D 60 0 (kFund p a b) (g2_changeFund p a b) (v2_changeFund p a b) (v12_doFund q a b) := do_fund H1 H
  refine ⟨E.2 K1, doa_e E.1 (doa_of (by decide) (by decide) K2), fun _ => ?_⟩
  rw [E.1]
  exact sb_fw hS (fw_v12_doFund a b (fw_refl q))
theorem does_24 (he : e + 1 ≤ 600) (h : IV lg p q N T D e) : g12_does q (cn 24) a b c d x f ∧ DoA (lgB lg (e + 1)) q N T D (kFail p a) (g5_failMember p a) (v5_failMember p a) ((v12_does q (cn 24) a b c d x f).1.toInt32, (v12_does q (cn 24) a b c d x f).2) ∧ (kFail p a = 0 → SB (v12_does q (cn 24) a b c d x f).2 (e + 1)) := by
  obtain ⟨H, hN, hS, n1, t1, d1⟩ := h
  have H5 : e + 1 ≤ 600 := he
  have H1 : e + 1 ≤ 2000 := by omega
  have hRS := RS_rng H.1.1 40 (by decide)
  have H2 : D ≤ 1000000 := by omega
  have H3 : N + 2 ≤ 1000000 := by omega
  have H4 : T + 20000 ≤ 1000000000 := by omega
  have gi : ∀ a b c, g12_in q a b c := fun a b c => g_in q a b c
  have E : v12_does q (cn 24) a b c d x f = ((v12_doFail q a).1.toInt64, (v12_doFail q a).2) ∧ (g12_doFail q a → g12_does q (cn 24) a b c d x f) := by
    unfold v12_does bv12_does g12_does bg12_does
    simp only [if_neg (show ¬ cn 24 = cn 0 by decide), if_neg (show ¬ cn 24 = cn 1 by decide), if_neg (show ¬ cn 24 = cn 2 by decide), if_neg (show ¬ cn 24 = cn 3 by decide), if_neg (show ¬ cn 24 = cn 4 by decide), if_neg (show ¬ cn 24 = cn 5 by decide), if_neg (show ¬ cn 24 = cn 6 by decide), if_neg (show ¬ cn 24 = cn 7 by decide), if_neg (show ¬ cn 24 = cn 8 by decide), if_neg (show ¬ cn 24 = cn 9 by decide), if_neg (show ¬ cn 24 = cn 10 by decide), if_neg (show ¬ cn 24 = cn 11 by decide), if_neg (show ¬ cn 24 = cn 12 by decide), if_neg (show ¬ cn 24 = cn 13 by decide), if_neg (show ¬ cn 24 = cn 14 by decide), if_neg (show ¬ cn 24 = cn 15 by decide), if_neg (show ¬ cn 24 = cn 16 by decide), if_true]
    unfold v12_doesMore bv12_doesMore g12_doesMore bg12_doesMore
    simp only [if_neg (show ¬ cn 24 = cn 17 by decide), if_neg (show ¬ cn 24 = cn 18 by decide), if_neg (show ¬ cn 24 = cn 19 by decide), if_neg (show ¬ cn 24 = cn 20 by decide), if_neg (show ¬ cn 24 = cn 21 by decide), if_neg (show ¬ cn 24 = cn 22 by decide), if_neg (show ¬ cn 24 = cn 23 by decide), if_true]
    exact ⟨trivial, fun g => ⟨⟨g, trivial⟩, trivial⟩⟩
  obtain ⟨⟨K1, K2⟩, K3⟩ : (g12_doFail q a ∧ DoE (lgB lg (e + 1)) q N T D 60 0 (kFail p a) (g5_failMember p a) (v5_failMember p a) (v12_doFail q a)) ∧ (kFail p a = 0 → SB (v12_doFail q a).2 (e + 1)) := do_fail H1 H hS
  exact ⟨E.2 K1, doa_e E.1 (doa_of (by decide) (by decide) K2), by rw [E.1]; exact K3⟩
theorem does_25 (he : e + 1 ≤ 600) (h : IV lg p q N T D e) : g12_does q (cn 25) a b c d x f ∧ DoA (lgB lg (e + 1)) q N T D (kBid p a b) (g2_takeBid p a b) (v2_takeBid p a b) ((v12_does q (cn 25) a b c d x f).1.toInt32, (v12_does q (cn 25) a b c d x f).2) ∧ (kBid p a b = 0 → SB (v12_does q (cn 25) a b c d x f).2 (e + 1)) := by
  obtain ⟨H, hN, hS, n1, t1, d1⟩ := h
  have H5 : e + 1 ≤ 600 := he
  have H1 : e + 1 ≤ 2000 := by omega
  have hRS := RS_rng H.1.1 40 (by decide)
  have H2 : D ≤ 1000000 := by omega
  have H3 : N + 2 ≤ 1000000 := by omega
  have H4 : T + 20000 ≤ 1000000000 := by omega
  have gi : ∀ a b c, g12_in q a b c := fun a b c => g_in q a b c
  have E : v12_does q (cn 25) a b c d x f = ((v12_doBid q a b).1.toInt64, (v12_doBid q a b).2) ∧ (g12_doBid q a b → g12_does q (cn 25) a b c d x f) := by
    unfold v12_does bv12_does g12_does bg12_does
    simp only [if_neg (show ¬ cn 25 = cn 0 by decide), if_neg (show ¬ cn 25 = cn 1 by decide), if_neg (show ¬ cn 25 = cn 2 by decide), if_neg (show ¬ cn 25 = cn 3 by decide), if_neg (show ¬ cn 25 = cn 4 by decide), if_neg (show ¬ cn 25 = cn 5 by decide), if_neg (show ¬ cn 25 = cn 6 by decide), if_neg (show ¬ cn 25 = cn 7 by decide), if_neg (show ¬ cn 25 = cn 8 by decide), if_neg (show ¬ cn 25 = cn 9 by decide), if_neg (show ¬ cn 25 = cn 10 by decide), if_neg (show ¬ cn 25 = cn 11 by decide), if_neg (show ¬ cn 25 = cn 12 by decide), if_neg (show ¬ cn 25 = cn 13 by decide), if_neg (show ¬ cn 25 = cn 14 by decide), if_neg (show ¬ cn 25 = cn 15 by decide), if_neg (show ¬ cn 25 = cn 16 by decide), if_true]
    unfold v12_doesMore bv12_doesMore g12_doesMore bg12_doesMore
    simp only [if_neg (show ¬ cn 25 = cn 17 by decide), if_neg (show ¬ cn 25 = cn 18 by decide), if_neg (show ¬ cn 25 = cn 19 by decide), if_neg (show ¬ cn 25 = cn 20 by decide), if_neg (show ¬ cn 25 = cn 21 by decide), if_neg (show ¬ cn 25 = cn 22 by decide), if_neg (show ¬ cn 25 = cn 23 by decide), if_neg (show ¬ cn 25 = cn 24 by decide), if_true]
    exact ⟨trivial, fun g => ⟨⟨g, trivial⟩, trivial⟩⟩
  obtain ⟨⟨K1, K2⟩, K3⟩ : (g12_doBid q a b ∧ DoE (lgB lg (e + 1)) q N T D 60 0 (kBid p a b) (g2_takeBid p a b) (v2_takeBid p a b) (v12_doBid q a b)) ∧ (kBid p a b = 0 → SB (v12_doBid q a b).2 (e + 1)) := do_bid H1 H hS
  exact ⟨E.2 K1, doa_e E.1 (doa_of (by decide) (by decide) K2), by rw [E.1]; exact K3⟩
theorem does_26 (hfl : ¬ lg 4006 = cn 1) (he : e + 1 ≤ 600) (h : IV lg p q N T D e) : g12_does q (cn 26) a b c d x f ∧ DoA (lgB lg (e + 1)) q N T D (kClose p) (g2_closePortfolio p) (v2_closePortfolio p) ((v12_does q (cn 26) a b c d x f).1.toInt32, (v12_does q (cn 26) a b c d x f).2) ∧ (kClose p = 0 → SB (v12_does q (cn 26) a b c d x f).2 (e + 1)) := by
  obtain ⟨H, hN, hS, n1, t1, d1⟩ := h
  have H5 : e + 1 ≤ 600 := he
  have H1 : e + 1 ≤ 2000 := by omega
  have hRS := RS_rng H.1.1 40 (by decide)
  have H2 : D ≤ 1000000 := by omega
  have H3 : N + 2 ≤ 1000000 := by omega
  have H4 : T + 20000 ≤ 1000000000 := by omega
  have gi : ∀ a b c, g12_in q a b c := fun a b c => g_in q a b c
  have E : v12_does q (cn 26) a b c d x f = ((v12_doCloseOut q).1.toInt64, (v12_doCloseOut q).2) ∧ (g12_doCloseOut q → g12_does q (cn 26) a b c d x f) := by
    unfold v12_does bv12_does g12_does bg12_does
    simp only [if_neg (show ¬ cn 26 = cn 0 by decide), if_neg (show ¬ cn 26 = cn 1 by decide), if_neg (show ¬ cn 26 = cn 2 by decide), if_neg (show ¬ cn 26 = cn 3 by decide), if_neg (show ¬ cn 26 = cn 4 by decide), if_neg (show ¬ cn 26 = cn 5 by decide), if_neg (show ¬ cn 26 = cn 6 by decide), if_neg (show ¬ cn 26 = cn 7 by decide), if_neg (show ¬ cn 26 = cn 8 by decide), if_neg (show ¬ cn 26 = cn 9 by decide), if_neg (show ¬ cn 26 = cn 10 by decide), if_neg (show ¬ cn 26 = cn 11 by decide), if_neg (show ¬ cn 26 = cn 12 by decide), if_neg (show ¬ cn 26 = cn 13 by decide), if_neg (show ¬ cn 26 = cn 14 by decide), if_neg (show ¬ cn 26 = cn 15 by decide), if_neg (show ¬ cn 26 = cn 16 by decide), if_true]
    unfold v12_doesMore bv12_doesMore g12_doesMore bg12_doesMore
    simp only [if_neg (show ¬ cn 26 = cn 17 by decide), if_neg (show ¬ cn 26 = cn 18 by decide), if_neg (show ¬ cn 26 = cn 19 by decide), if_neg (show ¬ cn 26 = cn 20 by decide), if_neg (show ¬ cn 26 = cn 21 by decide), if_neg (show ¬ cn 26 = cn 22 by decide), if_neg (show ¬ cn 26 = cn 23 by decide), if_neg (show ¬ cn 26 = cn 24 by decide), if_neg (show ¬ cn 26 = cn 25 by decide), if_true]
    exact ⟨trivial, fun g => ⟨⟨g, trivial⟩, trivial⟩⟩
  obtain ⟨⟨K1, K2⟩, K3⟩ : (g12_doCloseOut q ∧ DoE (lgB lg (e + 1)) q N T D 60 0 (kClose p) (g2_closePortfolio p) (v2_closePortfolio p) (v12_doCloseOut q)) ∧ (kClose p = 0 → SB (v12_doCloseOut q).2 (e + 1)) := do_close2 hfl H1 H2 H hS
  exact ⟨E.2 K1, doa_e E.1 (doa_of (by decide) (by decide) K2), by rw [E.1]; exact K3⟩
end Disp
/-- the refusal, the guard, and what the class does, by the kind of an event -/
noncomputable def kE (p : PM) (a b c d x f : Int32) : Nat → Nat
  | 0 => kLimit p a b c d x f
  | 1 => kMarket p a b c
  | 2 => kIceberg p a b c d x
  | 3 => kPeg p a b c d x
  | 4 => kStop p a b c d x
  | 5 => kQuote p a b c d x
  | 6 => kCancel p a
  | 7 => kRule a b c d
  | 8 => kBand a b
  | 9 => kProt a b
  | 10 => kMost a b c
  | 11 => kAuction p a b c d
  | 12 => kPass a
  | 13 => kDay p
  | 14 => kBust p a
  | 15 => kAdjust p a b
  | 16 => kGive p a c
  | 17 => kAllot p a b c d
  | 18 => kExer p a b c
  | 19 => kConv p a b c
  | 20 => kMove a b c
  | 21 => kHair a
  | 22 => kPay p a b c
  | 23 => kFund p a b
  | 24 => kFail p a
  | 25 => kBid p a b
  | _ => kClose p
noncomputable def gE (p : PM) (a b c d x f : Int32) : Nat → Prop
  | 0 => g5_tellLimit p a b c d x f
  | 1 => g5_tellMarket p a b c
  | 2 => g5_tellIceberg p a b c d x
  | 3 => g5_tellPeg p a b c d x
  | 4 => g5_tellStop p a b c d x
  | 5 => g5_tellQuote p a b c d x
  | 6 => g6_withdraw p a
  | 7 => g6_bookAt p a ∧ g1_changeRule p (v6_bookAt p a) b c d
  | 8 => g6_bookAt p a ∧ g1_changeBand p (v6_bookAt p a) b
  | 9 => g7_accountAt p a ∧ g0_changeProtection p (v7_accountAt p a) b
  | 10 => g7_accountAt p a ∧ g0_changeLimit p (v7_accountAt p a) b c
  | 11 => g6_bookAt p a ∧ g6_beginAuction p (v6_bookAt p a) (b + d) c
  | 12 => g5_letPass p a
  | 13 => g6_turnDay p
  | 14 => g5_undo p a
  | 15 => g7_reprice p a b
  | 16 => g7_replaceSide p a (if b = cn 1 then cn 1 else cn 0) c
  | 17 => g7_allotLots p a b c d
  | 18 => g7_exerciseLots p a b c
  | 19 => g5_convertContract p a b c
  | 20 => g2_changeMove p a b c
  | 21 => g2_changeHaircut p a
  | 22 => g2_bring p a b c
  | 23 => g2_changeFund p a b
  | 24 => g5_failMember p a
  | 25 => g2_takeBid p a b
  | _ => g2_closePortfolio p
noncomputable def vE (p : PM) (a b c d x f : Int32) : Nat → Int32 × PM
  | 0 => v5_tellLimit p a b c d x f
  | 1 => v5_tellMarket p a b c
  | 2 => v5_tellIceberg p a b c d x
  | 3 => v5_tellPeg p a b c d x
  | 4 => v5_tellStop p a b c d x
  | 5 => v5_tellQuote p a b c d x
  | 6 => v6_withdraw p a
  | 7 => v1_changeRule p (v6_bookAt p a) b c d
  | 8 => v1_changeBand p (v6_bookAt p a) b
  | 9 => v0_changeProtection p (v7_accountAt p a) b
  | 10 => v0_changeLimit p (v7_accountAt p a) b c
  | 11 => v6_beginAuction p (v6_bookAt p a) (b + d) c
  | 12 => v5_letPass p a
  | 13 => v6_turnDay p
  | 14 => v5_undo p a
  | 15 => v7_reprice p a b
  | 16 => v7_replaceSide p a (if b = cn 1 then cn 1 else cn 0) c
  | 17 => v7_allotLots p a b c d
  | 18 => v7_exerciseLots p a b c
  | 19 => v5_convertContract p a b c
  | 20 => v2_changeMove p a b c
  | 21 => v2_changeHaircut p a
  | 22 => v2_bring p a b c
  | 23 => v2_changeFund p a b
  | 24 => v5_failMember p a
  | 25 => v2_takeBid p a b
  | _ => v2_closePortfolio p
theorem does_all {p q : PM} {lg : Nat → Int32} {N T D e : Nat} {a b c d x f : Int32} {k : Nat} (hk : k < 27) (hfl : ¬ lg 4006 = cn 1 ∨ ¬ (k = 15 ∨ k = 18 ∨ k = 26)) (hfc : ¬ lg 4006 = cn 1 ∨ ¬ lg 4007 = cn 1 ∨ ¬ k = 19) (he : e + 1 ≤ 600) (h : IV lg p q N T D e) : g12_does q (cn k) a b c d x f ∧ DoA (lgB lg (e + 1)) q N T D (kE p a b c d x f k) (gE p a b c d x f k) (vE p a b c d x f k) ((v12_does q (cn k) a b c d x f).1.toInt32, (v12_does q (cn k) a b c d x f).2) ∧ (kE p a b c d x f k = 0 → SB (v12_does q (cn k) a b c d x f).2 (e + 1)) := by
  have hh : k = 0 ∨ k = 1 ∨ k = 2 ∨ k = 3 ∨ k = 4 ∨ k = 5 ∨ k = 6 ∨ k = 7 ∨ k = 8 ∨ k = 9 ∨ k = 10 ∨ k = 11 ∨ k = 12 ∨ k = 13 ∨ k = 14 ∨ k = 15 ∨ k = 16 ∨ k = 17 ∨ k = 18 ∨ k = 19 ∨ k = 20 ∨ k = 21 ∨ k = 22 ∨ k = 23 ∨ k = 24 ∨ k = 25 ∨ k = 26 := by omega
  rcases hh with rfl | rfl | rfl | rfl | rfl | rfl | rfl | rfl | rfl | rfl | rfl | rfl | rfl | rfl | rfl | rfl | rfl | rfl | rfl | rfl | rfl | rfl | rfl | rfl | rfl | rfl | rfl
  · exact does_0 he h
  · exact does_1 he h
  · exact does_2 he h
  · exact does_3 he h
  · exact does_4 he h
  · exact does_5 he h
  · exact does_6 he h
  · exact does_7 he h
  · exact does_8 he h
  · exact does_9 he h
  · exact does_10 he h
  · exact does_11 he h
  · exact does_12 he h
  · exact does_13 he h
  · exact does_14 he h
  · exact does_15 (hfl.elim id fun h => absurd (by omega) h) he h
  · exact does_16 he h
  · exact does_17 he h
  · exact does_18 (hfl.elim id fun h => absurd (by omega) h) he h
  · exact does_19 (hfc.imp_right fun h => h.elim id fun h => absurd rfl h) he h
  · exact does_20 he h
  · exact does_21 he h
  · exact does_22 he h
  · exact does_23 he h
  · exact does_24 he h
  · exact does_25 he h
  · exact does_26 (hfl.elim id fun h => absurd (by omega) h) he h
