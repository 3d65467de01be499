/-! what is asked -/
/-- an answer: the same, or refused alike; the reference keeps no more than that -/
def AsR (q : PM) (code : Nat) (G : Prop) {α : Type} (c : α) (r : α × PM) : Prop := r.2 = pI q 12 1 0 (cn code) ∧ (code = 0 → G ∧ r.1 = c)
noncomputable def kPos (a c : Int32) : Nat := if isW a (cn 0) (cn 8) = 0 then 1 else if isW c (cn 0) (cn 3) = 0 then 1 else 0
noncomputable def kAcc (a : Int32) : Nat := if isW a (cn 0) (cn 8) = 0 then 1 else 0
noncomputable def kTrd (a : Int32) : Nat := if isW a (cn 0) (cn 7) = 0 then 1 else 0
noncomputable def kBk (b : Int32) : Nat := if isW b (cn 0) (cn 5) = 0 then 1 else 0
section Ask
variable {p q : PM} {lg : Nat → Int32} {N T D e : Nat} {a b c t : Int32}
theorem ask_position (H : WW p q lg 99 99 (fun _ => False) N T D 6 (fun _ => 0)) : g12_position q a c ∧ AsR q (kPos a c) (g7_accountAt p a ∧ g0_holds p (v7_accountAt p a) c) (v0_holds p (v7_accountAt p a) c) (v12_position q a c) := by
  have c10 : ¬ cn 1 = (0 : Int32) := by decide
  have c00 : cn 0 = (0 : Int32) := rfl
  have gi : ∀ a b c, g12_in q a b c := fun a b c => g_in q a b c
  unfold kPos v12_position bv12_position g12_position bg12_position
  simp only [t_1, if_neg c10, if_pos c00]
  by_cases h1 : isW a (cn 0) (cn 8) = 0
  · have h1' : v12_in q a (cn 0) (cn 8) = 0 := h1
    simp only [if_pos h1, if_pos h1']
    exact ⟨⟨gi _ _ _, trivial⟩, rfl, fun h => absurd h (by decide)⟩
  have h1' : ¬ v12_in q a (cn 0) (cn 8) = 0 := h1
  by_cases h2 : isW c (cn 0) (cn 3) = 0
  · have h2' : v12_in q c (cn 0) (cn 3) = 0 := h2
    simp only [if_neg h1, if_neg h1', if_pos h2, if_pos h2']
    exact ⟨⟨gi _ _ _, gi _ _ _, trivial⟩, rfl, fun h => absurd h (by decide)⟩
  have h2' : ¬ v12_in q c (cn 0) (cn 3) = 0 := h2
  simp only [if_neg h1, if_neg h1', if_neg h2, if_neg h2']
  obtain ⟨a, ha, rfl⟩ := isW_n (b := 8) (by decide) h1
  obtain ⟨c, hc, rfl⟩ := isW_n (b := 3) (by decide) h2
  have i0 : cn 4 * cn (a : Int) + cn (c : Int) = cn ((4 * a + c : Nat) : Int) := by
    rw [cnmul, cnadd]
    exact congrArg cn (by omega)
  rw [i0, cntk (by omega), account_e p (by omega)]
  refine ⟨⟨gi _ _ _, gi _ _ _, cninb (by omega) (by omega), trivial⟩, rfl, fun _ => ⟨⟨g_account p (by omega), g_holds p (by omega) (by omega)⟩, ?_⟩⟩
  rw [holds_e p (a + 1) (by omega), (H.2.1.1 a (by omega)).1 c (by omega), th_k (by decide)]
theorem ask_cash (H : WW p q lg 99 99 (fun _ => False) N T D 6 (fun _ => 0)) : g12_cash q a ∧ AsR q (kAcc a) (g7_accountAt p a ∧ ¬ v7_accountAt p a = 0) (p.2.1 0 (v7_accountAt p a) 4) (v12_cash q a) := by
  have c10 : ¬ cn 1 = (0 : Int32) := by decide
  have c00 : cn 0 = (0 : Int32) := rfl
  have gi : ∀ a b c, g12_in q a b c := fun a b c => g_in q a b c
  unfold kAcc v12_cash bv12_cash g12_cash bg12_cash
  simp only [t_1, if_neg c10, if_pos c00]
  by_cases h1 : isW a (cn 0) (cn 8) = 0
  · have h1' : v12_in q a (cn 0) (cn 8) = 0 := h1
    simp only [if_pos h1, if_pos h1']
    exact ⟨⟨gi _ _ _, trivial⟩, rfl, fun h => absurd h (by decide)⟩
  have h1' : ¬ v12_in q a (cn 0) (cn 8) = 0 := h1
  simp only [if_neg h1, if_neg h1']
  obtain ⟨a, ha, rfl⟩ := isW_n (b := 8) (by decide) h1
  rw [cntk (by omega), account_e p (by omega)]
  refine ⟨⟨gi _ _ _, cninb (by omega) (by omega), trivial⟩, rfl, fun _ => ⟨⟨g_account p (by omega), by omega⟩, ?_⟩⟩
  rw [pI_J, (H.2.1.1 a (by omega)).2]
theorem ask_quoted (H : WW p q lg 99 99 (fun _ => False) N T D 6 (fun _ => 0)) : g12_quoted q a ∧ AsR q (kTrd a) (g7_accountAt p a ∧ ¬ v7_accountAt p a = 0) (p.1 0 (v7_accountAt p a) 8) (v12_quoted q a) := by
  have c10 : ¬ cn 1 = (0 : Int32) := by decide
  have c00 : cn 0 = (0 : Int32) := rfl
  obtain ⟨ea, ga⟩ := acc_e q a
  unfold kTrd v12_quoted bv12_quoted g12_quoted bg12_quoted
  simp only [t_1, if_neg c10, if_pos c00]
  by_cases h1 : isW a (cn 0) (cn 7) = 0
  · have h1' : v12_isAccount q a = 0 := by rw [ea]; exact h1
    simp only [if_pos h1, if_pos h1']
    exact ⟨⟨ga, trivial⟩, rfl, fun h => absurd h (by decide)⟩
  have h1' : ¬ v12_isAccount q a = 0 := by rw [ea]; exact h1
  simp only [if_neg h1, if_neg h1']
  obtain ⟨a, ha, rfl⟩ := isW_n (b := 7) (by decide) h1
  rw [cntk (by omega), account_e p (by omega)]
  refine ⟨⟨ga, cninb (by omega) (by omega), trivial⟩, rfl, fun _ => ⟨⟨g_account p (by omega), by omega⟩, ?_⟩⟩
  rw [th_k (by decide), (H.2.1.2 a (by omega)).2.2.2.2.2]
theorem ask_trades (H : WW p q lg 99 99 (fun _ => False) N T D 6 (fun _ => 0)) : g12_trades q ∧ AsR q 0 True (p.1 7 1 2) (v12_trades q) := by
  refine ⟨trivial, rfl, fun _ => ⟨trivial, ?_⟩⟩
  show (pI q 12 1 0 (cn 0)).1 12 1 48 = _
  rw [th_1 (by decide), H.2.2.2.1.2.1, H.2.2.2.1.2.2.1]
theorem ask_stake (H : WW p q lg 99 99 (fun _ => False) N T D 6 (fun _ => 0)) : g12_stake q ∧ AsR q 0 True (p.1 2 1 5) (v12_stake q) := by
  obtain ⟨z, -, -, z1, z2⟩ := H.2.2.2.2.2.1.2.2.2.1
  refine ⟨trivial, rfl, fun _ => ⟨trivial, ?_⟩⟩
  show (pI q 12 1 0 (cn 0)).1 12 1 58 = _
  rw [th_1 (by decide), z1, z2]
theorem isBook_e : g12_isBook q b ∧ v12_isBook q b = (if isW b (cn 0) (cn 5) = 0 then (cn 0, pI q 12 1 0 (cn 1)) else (cn 1, pI q 12 1 0 (cn 0))) := by
  have c10 : ¬ cn 1 = (0 : Int32) := by decide
  have c00 : cn 0 = (0 : Int32) := rfl
  unfold v12_isBook bv12_isBook g12_isBook bg12_isBook
  simp only [t_1, if_neg c10, if_pos c00]
  by_cases h1 : isW b (cn 0) (cn 5) = 0
  · have h1' : v12_in q b (cn 0) (cn 5) = 0 := h1
    simp only [if_pos h1, if_pos h1']
    exact ⟨⟨g_in _ _ _ _, trivial⟩, trivial⟩
  · have h1' : ¬ v12_in q b (cn 0) (cn 5) = 0 := h1
    simp only [if_neg h1, if_neg h1']
    exact ⟨⟨g_in _ _ _ _, trivial⟩, trivial⟩
theorem ask_last (H : WW p q lg 99 99 (fun _ => False) N T D 6 (fun _ => 0)) : g12_last q b t ∧ AsR q (kBk b) (g6_bookAt p b ∧ ¬ v6_bookAt p b = 0) (if t = 0 then p.1 1 (v6_bookAt p b) 3 else p.1 1 (v6_bookAt p b) 4) (v12_last q b t) := by
  have c10 : ¬ cn 1 = (0 : Int32) := by decide
  have c00 : cn 0 = (0 : Int32) := rfl
  obtain ⟨g1, e1⟩ := isBook_e (q := q) (b := b)
  unfold kBk v12_last bv12_last g12_last bg12_last
  rw [e1]
  by_cases h1 : isW b (cn 0) (cn 5) = 0
  · simp only [if_pos h1, if_pos c00]
    exact ⟨⟨g1, trivial⟩, rfl, fun h => absurd h (by decide)⟩
  · simp only [if_neg h1, if_neg c10]
    obtain ⟨b, hb, rfl⟩ := isW_n (b := 5) (by decide) h1
    obtain ⟨⟨z, -, z1, z2⟩, ⟨y, -, y1, y2⟩, -⟩ := H.2.2.1 b (by omega)
    have i6 := cninb (i := b) (n := 6) (by omega) (by omega)
    rw [cntk (by omega), book_e p (by omega)]
    by_cases ht : t = 0
    · simp only [if_pos ht]
      exact ⟨⟨g1, i6, trivial⟩, rfl, fun _ => ⟨⟨g_book p (by omega), by omega⟩, by rw [th_k (by decide), z1, z2]⟩⟩
    · simp only [if_neg ht]
      exact ⟨⟨g1, i6, trivial⟩, rfl, fun _ => ⟨⟨g_book p (by omega), by omega⟩, by rw [th_k (by decide), y1, y2]⟩⟩
theorem ask_end (H : WW p q lg 99 99 (fun _ => False) N T D 6 (fun _ => 0)) : g12_endOf q b ∧ AsR q (kBk b) (g6_bookAt p b ∧ ¬ v6_bookAt p b = 0) (if p.1 1 (v6_bookAt p b) 5 = 0 then cn (-100000) else p.1 1 (v6_bookAt p b) 7) (v12_endOf q b) := by
  have c10 : ¬ cn 1 = (0 : Int32) := by decide
  have c00 : cn 0 = (0 : Int32) := rfl
  obtain ⟨g1, e1⟩ := isBook_e (q := q) (b := b)
  unfold kBk v12_endOf bv12_endOf g12_endOf bg12_endOf
  rw [e1]
  by_cases h1 : isW b (cn 0) (cn 5) = 0
  · simp only [if_pos h1, if_pos c00]
    exact ⟨⟨g1, trivial⟩, rfl, fun h => absurd h (by decide)⟩
  · simp only [if_neg h1, if_neg c10]
    obtain ⟨b, hb, rfl⟩ := isW_n (b := 5) (by decide) h1
    have i6 := cninb (i := b) (n := 6) (by omega) (by omega)
    rw [cntk (by omega), book_e p (by omega)]
    refine ⟨⟨g1, i6, trivial⟩, rfl, fun _ => ⟨⟨g_book p (by omega), by omega⟩, ?_⟩⟩
    show (pI q 12 1 0 (cn 0)).1 13 12 b = _
    rw [th_k (by decide)]
    rcases (H.2.2.1 b (by omega)).2.2.1 with ⟨y1, y2⟩ | ⟨y1, y2, -⟩
    · have hz : p.1 1 (b + 1) 5 = 0 := y1
      rw [if_pos hz, y2]
    · have hz : ¬ p.1 1 (b + 1) 5 = 0 := by
        rw [y1]
        exact cn01
      rw [if_neg hz, y2]
end Ask
