/-! who wins, what a portfolio is worth -/
theorem psF_nn {f : Nat → Int32} {c : Nat} : ∀ n, 0 ≤ psF f c n
  | 0 => by
    show (0 : Int) ≤ 0
    omega
  | n + 1 => by
    have h := psF_nn (f := f) (c := c) n
    show 0 ≤ psF f c n + max (f (4 * n + c)).toInt (-(f (4 * n + c)).toInt)
    omega
theorem psF_one {f : Nat → Int32} {c a : Nat} : ∀ n, a < n → max (f (4 * a + c)).toInt (-(f (4 * a + c)).toInt) ≤ psF f c n
  | 0, h => absurd h (by omega)
  | n + 1, h => by
    have h0 := psF_nn (f := f) (c := c) n
    show _ ≤ psF f c n + max (f (4 * n + c)).toInt (-(f (4 * n + c)).toInt)
    by_cases e : a = n
    · rw [e]
      omega
    · have ih := psF_one (f := f) (c := c) (a := a) n (by omega)
      omega
theorem psF_two {f : Nat → Int32} {c a b : Nat} (hab : a < b) : ∀ n, b < n → max (f (4 * a + c)).toInt (-(f (4 * a + c)).toInt) + max (f (4 * b + c)).toInt (-(f (4 * b + c)).toInt) ≤ psF f c n
  | 0, h => absurd h (by omega)
  | n + 1, h => by
    show _ ≤ psF f c n + max (f (4 * n + c)).toInt (-(f (4 * n + c)).toInt)
    by_cases e : b = n
    · have h1 := psF_one (f := f) (c := c) (a := a) n (by omega)
      rw [e]
      omega
    · have ih := psF_two (f := f) (c := c) hab n (by omega)
      omega
theorem csF_nn {f : Nat → Int64} : ∀ n, 0 ≤ csF f n
  | 0 => by
    show (0 : Int) ≤ 0
    omega
  | n + 1 => by
    have h := csF_nn (f := f) n
    show 0 ≤ csF f n + max (f n).toInt (-(f n).toInt)
    omega
theorem csF_one {f : Nat → Int64} {a : Nat} : ∀ n, a < n → max (f a).toInt (-(f a).toInt) ≤ csF f n
  | 0, h => absurd h (by omega)
  | n + 1, h => by
    have h0 := csF_nn (f := f) n
    show _ ≤ csF f n + max (f n).toInt (-(f n).toInt)
    by_cases e : a = n
    · rw [e]
      omega
    · have ih := csF_one (f := f) (a := a) n (by omega)
      omega
section Win
variable {p q : PM} {m : Nat} {M : Int}
theorem net_bd {c : Nat} (hm : m < 4) (hc : c < 4) (hM : psF (q.1 13 1) c 9 ≤ M) (hM2 : M ≤ 2000000000) : ∃ Z : Int, -M ≤ Z ∧ Z ≤ M ∧ v12_net q (cn m) (cn c) = cl Z := by
  have h := psF_two (f := q.1 13 1) (c := c) (a := 2 * m) (b := 2 * m + 1) (by omega) 9 (by omega)
  rw [show 4 * (2 * m) + c = 8 * m + c by omega, show 4 * (2 * m + 1) + c = 8 * m + 4 + c by omega] at h
  have h2 := psF_nn (f := q.1 13 1) (c := c) 9
  refine ⟨(q.1 13 1 (8 * m + c)).toInt + (q.1 13 1 (8 * m + 4 + c)).toInt, by omega, by omega, ?_⟩
  rw [(net_q (q := q) hm hc).2, ← cladd]
  congr 1
theorem worth_bd (hB : ∀ c, c < 4 → ∃ z : Int, -9999 ≤ z ∧ z ≤ 9999 ∧ q.1 13 10 c = cn z) (hm : m < 4) (hM : ∀ c, c < 4 → psF (q.1 13 1) c 9 ≤ M) (hM2 : M ≤ 2000000000) : ∀ (d c n : Nat) (X U : Int), c + d = 4 → d < n → -U ≤ X → X ≤ U → ∃ Y, v12_worth_5 q n (cn m) (cl X) (cn c) = cl Y ∧ -(U + M * 9999 * d) ≤ Y ∧ Y ≤ U + M * 9999 * d := by
  intro d
  induction d with
  | zero =>
    intro c n X U h1 h2 h3 h4
    obtain ⟨n1, rfl⟩ : ∃ z9, n = z9 + 1 := ⟨n - 1, by omega⟩
    have e : c = 4 := by omega
    subst e
    have hn := lpf (i := 4) (N := 4) (by omega) (by omega) (by omega)
    refine ⟨X, ?_, by omega, by omega⟩
    rw [ev12_worth_5]
    unfold bv12_worth_5
    rw [if_neg hn]
  | succ d ih =>
    intro c n X U h1 h2 h3 h4
    obtain ⟨n1, rfl⟩ : ∃ z9, n = z9 + 1 := ⟨n - 1, by omega⟩
    have l4 : cn (c : Int) < cn 4 := lpt (by omega) (by omega)
    obtain ⟨z, z1, z2, z3⟩ := hB c (by omega)
    obtain ⟨Z, y1, y2, y3⟩ := net_bd (q := q) hm (c := c) (by omega) (hM c (by omega)) hM2
    obtain ⟨b1', b2'⟩ := mul_bd (A := M) (B := 9999) y1 y2 (by omega) z2
    obtain ⟨Y, k1, k2, k3⟩ := ih (c + 1) n1 (X + Z * z) (U + M * 9999) (by omega) (by omega) (by omega) (by omega)
    refine ⟨Y, ?_, ?_, ?_⟩
    · rw [ev12_worth_5]
      unfold bv12_worth_5
      simp only [if_pos l4, cntk (i := c) (by omega), z3, y3, cn64 (a := z) ⟨by omega, by omega⟩, clmul, cladd, cnsucc]
      exact k1
    · have e : M * 9999 * ((d + 1 : Nat) : Int) = M * 9999 * d + M * 9999 := by
        rw [show ((d + 1 : Nat) : Int) = (d : Int) + 1 from rfl, Int.mul_add, Int.mul_one]
      omega
    · have e : M * 9999 * ((d + 1 : Nat) : Int) = M * 9999 * d + M * 9999 := by
        rw [show ((d + 1 : Nat) : Int) = (d : Int) + 1 from rfl, Int.mul_add, Int.mul_one]
      omega
theorem worth_b (hB : ∀ c, c < 4 → ∃ z : Int, -9999 ≤ z ∧ z ≤ 9999 ∧ q.1 13 10 c = cn z) (hm : m < 4) (hM : ∀ c, c < 4 → psF (q.1 13 1) c 9 ≤ M) (hM2 : M ≤ 2000000000) : ∃ Y, v12_worth q (cn m) = cl Y ∧ -(39996 * M) ≤ Y ∧ Y ≤ 39996 * M := by
  obtain ⟨F, hF, hF2⟩ : ∃ F, FU = F ∧ 100 < F := ⟨FU, rfl, by decide⟩
  obtain ⟨Y, k1, k2, k3⟩ := worth_bd hB hm hM hM2 4 0 F 0 0 rfl (by omega) (by omega) (by omega)
  refine ⟨Y, ?_, by omega, by omega⟩
  unfold v12_worth bv12_worth
  rw [hF]
  exact k1
theorem win_lp (hM : MeR p q) : ∀ (d i n n' : Nat) (v v' : Int32), i + d = 4 → d < n → d < n' → ((v = cn (-100000) ∧ v' = cn (-1) ∧ ∀ k, k < i → q.1 15 10 k = cn 0) ∨ ∃ j : Nat, j < i ∧ v = cn j ∧ v' = cn j ∧ q.1 15 10 j = cn 1) → WnR q (v2_highestBidder_5 p n v (cn i)) (v12_winner_4 q n' v' (cn i)) ∧ g2_highestBidder_5 p n v (cn i) ∧ g12_winner_4 q n' v' (cn i) := by
  intro d
  induction d with
  | zero =>
    intro i n n' v v' h1 h2 h3 h
    obtain ⟨n1, rfl⟩ : ∃ z9, n = z9 + 1 := ⟨n - 1, by omega⟩
    obtain ⟨n2, rfl⟩ : ∃ z9, n' = z9 + 1 := ⟨n' - 1, by omega⟩
    have e : i = 4 := by omega
    subst e
    have hn := lpf (i := 4) (N := 4) (by omega) (by omega) (by omega)
    rw [ev2_highestBidder_5, eg2_highestBidder_5, ev12_winner_4, eg12_winner_4]
    unfold bv2_highestBidder_5 bg2_highestBidder_5 bv12_winner_4 bg12_winner_4
    rw [if_neg hn, if_neg hn, if_neg hn, if_neg hn]
    exact ⟨h, trivial, trivial⟩
  | succ d ih =>
    intro i n n' v v' h1 h2 h3 h
    obtain ⟨n1, rfl⟩ : ∃ z9, n = z9 + 1 := ⟨n - 1, by omega⟩
    obtain ⟨n2, rfl⟩ : ∃ z9, n' = z9 + 1 := ⟨n' - 1, by omega⟩
    have l4 : cn (i : Int) < cn 4 := lpt (by omega) (by omega)
    have hi := cninb (i := i) (n := 4) (by omega) (by omega)
    have em := member_e p (a := i) (by omega)
    have gm := g_member p (a := i) (by omega)
    have hz : ¬ i + 1 = 0 := by omega
    obtain ⟨m1, m2, m3, m4⟩ := hM i (by omega)
    rw [ev2_highestBidder_5, eg2_highestBidder_5, ev12_winner_4, eg12_winner_4]
    unfold bv2_highestBidder_5 bg2_highestBidder_5 bv12_winner_4 bg12_winner_4
    simp only [if_pos l4, em, m2, cntk (i := i) (by omega), cnsucc]
    have f100 : ∀ j : Nat, j < 4 → ¬ cn (j : Int) = cn (-100000) := fun j hj => by
      rw [cneq ⟨by omega, by omega⟩ (by decide)]
      omega
    have t1 : cn (-1) < 0 := by decide
    have t2 : cn (-100000) = cn (-100000) := rfl
    by_cases h10 : q.1 15 10 i = 0
    · simp only [if_pos h10]
      have hh : (v = cn (-100000) ∧ v' = cn (-1) ∧ ∀ k, k < i + 1 → q.1 15 10 k = cn 0) ∨ ∃ j : Nat, j < i + 1 ∧ v = cn j ∧ v' = cn j ∧ q.1 15 10 j = cn 1 := by
        rcases h with ⟨x1, x2, x3⟩ | ⟨j, x1, x2, x3, x4⟩
        · refine Or.inl ⟨x1, x2, fun k hk => ?_⟩
          by_cases e : k = i
          · rw [e]
            exact h10
          · exact x3 k (by omega)
        · exact Or.inr ⟨j, by omega, x2, x3, x4⟩
      obtain ⟨k1, k2, k3⟩ := ih (i + 1) n1 n2 v v' (by omega) (by omega) (by omega) hh
      exact ⟨k1, ⟨gm, hz, k2⟩, hi, k3⟩
    · simp only [if_neg h10]
      have hb1 : q.1 15 10 i = cn 1 := b_ne m3 h10
      obtain ⟨k1, k2, k3⟩ := ih (i + 1) n1 n2 (cn i) (cn i) (by omega) (by omega) (by omega) (Or.inr ⟨i, by omega, rfl, rfl, hb1⟩)
      rcases h with ⟨rfl, rfl, x3⟩ | ⟨j, x1, rfl, rfl, x4⟩
      · simp only [if_pos t1, if_pos t2]
        exact ⟨k1, ⟨gm, hz, k2⟩, hi, k3⟩
      · obtain ⟨z, z1, z2, z3, z4⟩ := m4 hb1
        obtain ⟨y, y1, y2, y3, y4⟩ := (hM j (by omega)).2.2.2 x4
        have ej := member_e p (a := j) (by omega)
        have gj := g_member p (a := j) (by omega)
        have n0 : ¬ cn (j : Int) < 0 := cnge (by omega)
        have hj4 := cninb (i := j) (n := 4) (by omega) (by omega)
        have hzj : ¬ j + 1 = 0 := by omega
        simp only [if_neg (f100 j (by omega)), if_neg n0, ej, z3, z4, y3, y4, cntk (i := j) (by omega)]
        by_cases hlt : cn y < cn z
        · simp only [if_pos hlt]
          exact ⟨k1, ⟨gm, hz, hz, gj, hzj, k2⟩, hi, hi, hj4, k3⟩
        · simp only [if_neg hlt]
          obtain ⟨k4, k5, k6⟩ := ih (i + 1) n1 n2 (cn j) (cn j) (by omega) (by omega) (by omega) (Or.inr ⟨j, by omega, rfl, rfl, x4⟩)
          exact ⟨k4, ⟨gm, hz, hz, gj, hzj, k5⟩, hi, hi, hj4, k6⟩
theorem win_eq (hM : MeR p q) : WnR q (v2_highestBidder p) (v12_winner q) ∧ g2_highestBidder p ∧ g12_winner q := by
  obtain ⟨F, hF, hF2⟩ : ∃ F, FU = F ∧ 100 < F := ⟨FU, rfl, by decide⟩
  unfold v2_highestBidder bv2_highestBidder g2_highestBidder bg2_highestBidder v12_winner bv12_winner g12_winner bg12_winner
  rw [hF]
  exact win_lp hM 4 0 F F _ _ rfl (by omega) (by omega) (Or.inl ⟨rfl, rfl, fun k hk => absurd hk (by omega)⟩)
end Win
