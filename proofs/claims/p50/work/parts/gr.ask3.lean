/-! what is asked, the third part: members and trades -/
noncomputable def kMem (m w : Int32) : Nat := if isW m (cn 0) (cn 3) = 0 then 1 else if isW w (cn 0) (cn 6) = 0 then 2 else 0
noncomputable def kTrade (p : PM) (t w : Int32) : Nat := if v7_find p t = 0 then 1 else if isW w (cn 0) (cn 5) = 0 then 2 else 0
section Ask3
variable {p q : PM} {lg : Nat → Int32} {N T D : Nat} {m w t : Int32}
theorem ask_member (H : WW p q lg 99 99 (fun _ => False) N T D 6 (fun _ => 0)) : g12_member q m w ∧ AsR q (kMem m w) (g2_tell p m w) (v2_tell p m w) (v12_member q m w) := by
  have c10 : ¬ cn 1 = (0 : Int32) := by decide
  have c20 : ¬ cn 2 = (0 : Int32) := by decide
  have c00 : cn 0 = (0 : Int32) := rfl
  have gi : ∀ a b c, g12_in q a b c := fun a b c => g_in q a b c
  have x29 : ∀ s : Int32, ¬ s = 0 → v12_member_29 q m w s = (cl 0, pI q 12 1 0 s) ∧ g12_member_29 q m w s := by
    intro s hs
    unfold v12_member_29 bv12_member_29 g12_member_29 bg12_member_29
    simp only [t_1, if_neg hs]
    exact ⟨trivial, trivial⟩
  unfold kMem v12_member bv12_member g12_member bg12_member
  by_cases h1 : isW m (cn 0) (cn 3) = 0
  · have h1' : v12_in q m (cn 0) (cn 3) = 0 := h1
    simp only [if_pos h1, if_pos h1', (x29 (cn 1) c10).1]
    exact ⟨⟨gi _ _ _, (x29 (cn 1) c10).2⟩, rfl, fun h => absurd h (by decide)⟩
  have h1' : ¬ v12_in q m (cn 0) (cn 3) = 0 := h1
  by_cases h2 : isW w (cn 0) (cn 6) = 0
  · have h2' : v12_in q w (cn 0) (cn 6) = 0 := h2
    simp only [if_neg h1, if_neg h1', if_pos h2, if_pos h2', (x29 (cn 2) c20).1]
    exact ⟨⟨gi _ _ _, gi _ _ _, (x29 (cn 2) c20).2⟩, rfl, fun h => absurd h (by decide)⟩
  have h2' : ¬ v12_in q w (cn 0) (cn 6) = 0 := h2
  simp only [if_neg h1, if_neg h1', if_neg h2, if_neg h2']
  obtain ⟨m, hm, rfl⟩ := isW_n (b := 3) (by decide) h1
  have W0 := ww_th (cn 0) H
  obtain ⟨Q0, hQ0⟩ : ∃ Q0, pI q 12 1 0 (cn 0) = Q0 := ⟨_, rfl⟩
  rw [hQ0] at W0
  have r0 : Q0.1 12 1 0 = 0 := by rw [← hQ0]; exact t_1
  obtain ⟨⟨z, z0, z1, z2, z3⟩, ⟨y, y0, y1, y2, y3⟩, ⟨x, x0, x1, x2, x3⟩, ⟨ef, -⟩, -⟩ := W0.2.2.2.2.2.1.1 m (by omega)
  have e36 : Q0.1 13 36 m = p.1 9 (m + 1) 0 := by rw [z2, z3]
  have e37 : Q0.1 13 37 m = p.1 9 (m + 1) 1 := by rw [y2, y3]
  have e38 : Q0.1 13 38 m = p.1 9 (m + 1) 2 := by rw [x2, x3]
  have mg := mg_ww W0
  obtain ⟨⟨ra, rb⟩, rc⟩ := risk_eq mg (m := m) (by omega) e37
  obtain ⟨⟨va, vb⟩, vc⟩ := value_eq mg (m := m) (by omega)
  obtain ⟨⟨ca, cb⟩, cc⟩ := callOf_eq mg (m := m) (by omega) e36 e37
  have em := member_e p (a := m) (by omega)
  have gm := g_member p (a := m) (by omega)
  have hz : ¬ m + 1 = 0 := by omega
  have i4 := cninb (i := m) (n := 4) (by omega) (by omega)
  have key : v12_member_29 q (cn m) w (cn 0) = (v2_tell p (cn m) w, pI q 12 1 0 (cn 0)) ∧ g12_member_29 q (cn m) w (cn 0) ∧ g2_tell p (cn m) w := by
    unfold v12_member_29 bv12_member_29 g12_member_29 bg12_member_29 v2_tell bv2_tell g2_tell bg2_tell
    simp only [hQ0, r0, if_true, em, ef, cntk (i := m) (by omega), e36, e37, e38, cc, ← rc, ← vc]
    by_cases w0 : w = cn 0
    · have w0' : w = 0 := w0
      simp only [if_pos w0, if_pos w0']
      exact ⟨trivial, ⟨rb, trivial⟩, gm, hz, ra, trivial⟩
    have w0' : ¬ w = 0 := w0
    by_cases w1 : w = cn 1
    · simp only [if_neg w0, if_neg w0', if_pos w1]
      exact ⟨trivial, ⟨vb, trivial⟩, gm, va, trivial⟩
    by_cases w2 : w = cn 2
    · simp only [if_neg w0, if_neg w0', if_neg w1, if_pos w2]
      exact ⟨trivial, ⟨cb, trivial⟩, gm, hz, hz, ca, trivial⟩
    by_cases w3 : w = cn 3
    · simp only [if_neg w0, if_neg w0', if_neg w1, if_neg w2, if_pos w3]
      exact ⟨trivial, ⟨i4, trivial⟩, gm, hz, trivial⟩
    by_cases w4 : w = cn 4
    · simp only [if_neg w0, if_neg w0', if_neg w1, if_neg w2, if_neg w3, if_pos w4]
      exact ⟨trivial, ⟨i4, trivial⟩, gm, hz, trivial⟩
    by_cases w5 : w = cn 5
    · simp only [if_neg w0, if_neg w0', if_neg w1, if_neg w2, if_neg w3, if_neg w4, if_pos w5]
      exact ⟨trivial, ⟨i4, trivial⟩, gm, hz, trivial⟩
    simp only [if_neg w0, if_neg w0', if_neg w1, if_neg w2, if_neg w3, if_neg w4, if_neg w5]
    by_cases f0 : Q0.1 15 9 m = 0
    · simp only [if_pos f0]
      exact ⟨trivial, ⟨i4, trivial⟩, gm, hz, trivial⟩
    · simp only [if_neg f0]
      exact ⟨trivial, ⟨i4, trivial⟩, gm, hz, trivial⟩
  rw [key.1]
  exact ⟨⟨gi _ _ _, gi _ _ _, key.2.1⟩, rfl, fun _ => ⟨key.2.2, rfl⟩⟩
theorem ask_trade (H : WW p q lg 99 99 (fun _ => False) N T D 6 (fun _ => 0)) : g12_trade q t w ∧ AsR q (kTrade p t w) (g7_find p t ∧ g4_tell p (v7_find p t) w) (v4_tell p (v7_find p t) w) (v12_trade q t w) := by
  have c10 : ¬ cn 1 = (0 : Int32) := by decide
  have c20 : ¬ cn 2 = (0 : Int32) := by decide
  have c00 : cn 0 = (0 : Int32) := rfl
  have gi : ∀ a b c, g12_in q a b c := fun a b c => g_in q a b c
  have hK := H.2.2.2.2.1
  have x27 : ∀ s : Int32, ¬ s = 0 → v12_trade_27 q t w s = (cn 0, pI q 12 1 0 s) ∧ g12_trade_27 q t w s := by
    intro s hs
    unfold v12_trade_27 bv12_trade_27 g12_trade_27 bg12_trade_27
    simp only [t_1, if_neg hs]
    exact ⟨trivial, trivial⟩
  obtain ⟨⟨gf, gk⟩, hh⟩ := kept_t (v := t) H.2.2.2.1
  unfold kTrade v12_trade bv12_trade g12_trade bg12_trade
  rcases hh with ⟨f1, k1⟩ | ⟨u, rfl, hu, hD, f1, k1, f6, f8, hd⟩
  · simp only [f1, k1, if_pos c00, if_true, (x27 (cn 1) c10).1]
    exact ⟨⟨gk, (x27 (cn 1) c10).2⟩, rfl, fun h => absurd h (by decide)⟩
  have hDD := H.2.2.2.1.2.2.2
  have hu60 : u % 60 < 60 := Nat.mod_lt _ (by decide)
  have hzu : ¬ u % 60 + 1 = 0 := by omega
  have eiu : irm (cn (u : Int)) (cn 60) = cn ((u % 60 : Nat) : Int) := irm60 (by omega)
  have hiu := cninb (i := u % 60) (n := 60) hu60 (by omega)
  simp only [f1, k1, if_neg c10, if_neg hzu]
  by_cases h2 : isW w (cn 0) (cn 5) = 0
  · have h2' : v12_in q w (cn 0) (cn 5) = 0 := h2
    simp only [if_pos h2, if_pos h2', (x27 (cn 2) c20).1]
    exact ⟨⟨gk, gi _ _ _, (x27 (cn 2) c20).2⟩, rfl, fun h => absurd h (by decide)⟩
  have h2' : ¬ v12_in q w (cn 0) (cn 5) = 0 := h2
  simp only [if_neg h2, if_neg h2']
  obtain ⟨b, A, B, z, n, hb, hA, hB, d0, e30, d1, e31, d2, e32, -, d3, e33, -, -, d4, e34, d5, -⟩ := hd
  have k13 : (pI q 12 1 0 (cn 0)).1 13 = q.1 13 := th_k (by decide)
  have k15 : (pI q 12 1 0 (cn 0)).1 15 = q.1 15 := th_k (by decide)
  have cb := (hK.2 b hb).1
  have cA := (hK.1 A (by omega)).1
  have cB := (hK.1 B (by omega)).1
  have hzb : ¬ b + 1 = 0 := by omega
  have hzA : ¬ A + 1 = 0 := by omega
  have hzB : ¬ B + 1 = 0 := by omega
  have key : v12_trade_27 q (cn u) w (cn 0) = (v4_tell p (u % 60 + 1) w, pI q 12 1 0 (cn 0)) ∧ g12_trade_27 q (cn u) w (cn 0) ∧ g4_tell p (u % 60 + 1) w := by
    unfold v12_trade_27 bv12_trade_27 g12_trade_27 bg12_trade_27 v4_tell bv4_tell g4_tell bg4_tell
    simp only [t_1, if_pos c00, k13, k15, eiu, cntk (i := u % 60) (by omega), d0, d1, d2, d3, d4, d5, cb, cA, cB, e30, e31, e32, e33, e34]
    by_cases w0 : w = cn 0
    · have w0' : w = 0 := w0
      simp only [if_pos w0, if_pos w0']
      exact ⟨trivial, ⟨hiu, trivial⟩, hzu, hzb, trivial⟩
    have w0' : ¬ w = 0 := w0
    by_cases w1 : w = cn 1
    · simp only [if_neg w0, if_neg w0', if_pos w1]
      exact ⟨trivial, ⟨hiu, trivial⟩, hzu, hzA, trivial⟩
    by_cases w2 : w = cn 2
    · simp only [if_neg w0, if_neg w0', if_neg w1, if_pos w2]
      exact ⟨trivial, ⟨hiu, trivial⟩, hzu, hzB, trivial⟩
    by_cases w3 : w = cn 3
    · simp only [if_neg w0, if_neg w0', if_neg w1, if_neg w2, if_pos w3]
      exact ⟨trivial, ⟨hiu, trivial⟩, hzu, trivial⟩
    by_cases w4 : w = cn 4
    · simp only [if_neg w0, if_neg w0', if_neg w1, if_neg w2, if_neg w3, if_pos w4]
      exact ⟨trivial, ⟨hiu, trivial⟩, hzu, trivial⟩
    simp only [if_neg w0, if_neg w0', if_neg w1, if_neg w2, if_neg w3, if_neg w4]
    by_cases f0 : q.1 15 7 (u % 60) = 0
    · simp only [if_pos f0]
      exact ⟨trivial, ⟨hiu, trivial⟩, hzu, trivial⟩
    · simp only [if_neg f0]
      exact ⟨trivial, ⟨hiu, trivial⟩, hzu, trivial⟩
  rw [key.1]
  exact ⟨⟨gk, gi _ _ _, key.2.1⟩, rfl, fun _ => ⟨⟨gf, key.2.2⟩, rfl⟩⟩
end Ask3
