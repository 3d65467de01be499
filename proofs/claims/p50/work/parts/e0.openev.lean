/-! the price of an auction is one of the book; a book opens, in both -/
section Ev
variable {p q : PM} {lg : Nat → Int32} {b N T D l : Nat}
theorem fp_range (H : OR p q 99 99) (hb : b < 6) (hB : BR p q) : ∀ (d i n : Nat) (v2 v3 v4 : Int32), i + d = 40 → d < n → (v2 = cn (-100000) ∨ ∃ z : Int, v2 = cn z ∧ PrB b z) → v8_findPrice_25 p n (b + 1) v2 v3 v4 (cn i) = cn (-100000) ∨ ∃ z : Int, v8_findPrice_25 p n (b + 1) v2 v3 v4 (cn i) = cn z ∧ PrB b z := by
  intro d
  induction d with
  | zero =>
    intro i n v2 v3 v4 h1 h2 hI
    obtain ⟨m, rfl⟩ : ∃ m, n = m + 1 := ⟨n - 1, by omega⟩
    have e : i = 40 := by omega
    subst e
    have hn := lpf (i := 40) (N := 40) (by omega) (by omega) (by omega)
    rw [ev8_findPrice_25]
    unfold bv8_findPrice_25
    rw [if_neg hn]
    have hr : ∃ z : Int, p.1 1 (b + 1) 4 = cn z ∧ PrB b z := by
      obtain ⟨z, z1, z2, -⟩ := (hB b hb).2.1
      exact ⟨z, z2, z1⟩
    by_cases e : v2 = cn (-100000)
    · rw [if_pos e]
      by_cases e2 : 0 < v8_volumeAt p (b + 1) (p.1 1 (b + 1) 4)
      · rw [if_pos e2]
        exact Or.inr hr
      · rw [if_neg e2]
        exact Or.inl rfl
    · rw [if_neg e]
      by_cases e2 : 0 < v8_volumeAt p (b + 1) v2
      · rw [if_pos e2]
        exact hI
      · rw [if_neg e2]
        exact Or.inl rfl
  | succ d ih =>
    intro i n v2 v3 v4 h1 h2 hI
    obtain ⟨m, rfl⟩ : ∃ m, n = m + 1 := ⟨n - 1, by omega⟩
    have l40 : cn (i : Int) < cn 40 := lpt (by omega) (by omega)
    have k := fun v2 v3 v4 h => ih (i + 1) m v2 v3 v4 (by omega) (by omega) h
    rw [ev8_findPrice_25]
    unfold bv8_findPrice_25
    rw [if_pos l40, cntk (by omega), cnsucc]
    by_cases e1 : p.1 10 (i + 1) 2 = cn 1
    · rw [if_pos e1]
      by_cases e2 : p.2.2 10 (i + 1) 4 = b + 1
      · rw [if_pos e2]
        by_cases e3 : p.1 10 (i + 1) 6 = cn (-100000)
        · rw [if_pos e3]
          exact k _ _ _ hI
        · rw [if_neg e3]
          have hx : ∃ z : Int, p.1 10 (i + 1) 6 = cn z ∧ PrB b z := by
            rcases H.1 i (by omega) with ⟨s1, -⟩ | ⟨-, a, bi, r, s, z, hL⟩
            · rw [s1] at e1
              exact absurd e1 (by decide)
            · have h4 := hL.2.1.2.2
              rw [e2] at h4
              have : bi = b := by omega
              rcases hL.2.2.2.2.2.1.2 with ⟨-, w⟩ | ⟨-, w, -⟩
              · rw [hL.2.2.2.2.2.1.1, w] at e3
                exact absurd rfl e3
              · rw [this] at w
                exact ⟨z, hL.2.2.2.2.2.1.1, w⟩
          dsimp only
          repeat' split
          all_goals first
            | exact k _ _ _ (Or.inr hx)
            | exact k _ _ _ hI
      · rw [if_neg e2]
        exact k _ _ _ hI
    · rw [if_neg e1]
      exact k _ _ _ hI
theorem fp_pr (H : OR p q 99 99) (hb : b < 6) (hB : BR p q) : v8_findPrice p (b + 1) = cn (-100000) ∨ ∃ z : Int, v8_findPrice p (b + 1) = cn z ∧ PrB b z := by
  obtain ⟨F, hF, hF2⟩ : ∃ F, FU = F ∧ 100 < F := ⟨FU, rfl, by decide⟩
  have k := fp_range H hb hB 40 0 F (cn (-100000)) (cn 0) (cn 0) rfl (by omega) (Or.inl rfl)
  have z0 : cn ((0 : Nat) : Int) = cn 0 := rfl
  rw [z0] at k
  unfold v8_findPrice bv8_findPrice
  rw [hF]
  exact k
theorem open_ev (H : WW p q lg 99 b (fun _ => False) N T D b (fun _ => 0)) (hb : b < 6) : g6_openBook p (b + 1) ∧ ∃ Q', v12_endsAuction_92 FU (pI q 13 12 b (cn (-100000))) (cn b) (cn 0) = v12_works Q' ∧ (g12_works Q' → g12_endsAuction_92 FU (pI q 13 12 b (cn (-100000))) (cn b) (cn 0)) ∧ WW (v6_openBook p (b + 1)) Q' lg 99 99 (fun _ => False) N T D (b + 1) (fun _ => 0) ∧ RS Q' 40 ≤ RS q 40 := by
  have hzb : ¬ b + 1 = 0 := by omega
  obtain ⟨F, hF, hF2⟩ : ∃ F, FU = F ∧ 100 < F := ⟨FU, rfl, by decide⟩
  have z0 : cn ((0 : Nat) : Int) = cn 0 := rfl
  obtain ⟨k1, k2, k3, k4, k5⟩ := open_loopC (b := b) 40 0 F (pI p 1 (b + 1) 5 (cn 0)) rfl (by omega)
  obtain ⟨Q', j1, j2, j3, j4, j5, j6⟩ := open_loopQ (b := b) 44 0 F (pI q 13 12 b (cn (-100000))) rfl (by omega)
  rw [z0] at k1 k2 k3 k4 k5 j1 j2
  have eC : v6_openBook p (b + 1) = v6_openBook_16 F (pI p 1 (b + 1) 5 (cn 0)) (b + 1) (cn 0) ∧ g6_openBook p (b + 1) := by
    unfold v6_openBook bv6_openBook g6_openBook bg6_openBook
    rw [hF]
    exact ⟨rfl, hzb, k1⟩
  have p10 : (pI p 1 (b + 1) 5 (cn 0)).1 10 = p.1 10 := by
    funext i S
    rw [pI_1, u3_k (by decide)]
  have q15 : (pI q 13 12 b (cn (-100000))).1 15 = q.1 15 := by
    funext i S
    rw [pI_1, u3_k (by decide)]
  have q13 : ∀ K, ¬ K = 12 → (pI q 13 12 b (cn (-100000))).1 13 K = q.1 13 K := by
    intro K h
    funext i
    rw [pI_1, u3_i h]
  have oC : ∀ j, OpP (pI p 1 (b + 1) 5 (cn 0)) b j = OpP p b j := fun j => by
    unfold OpP
    rw [p10, pI_R]
  have oQ : ∀ j, OqP (pI q 13 12 b (cn (-100000))) b j = OqP q b j := fun j => by
    unfold OqP
    rw [q15, q13 16 (by decide), q13 24 (by decide)]
  have sh : ∀ j, shv (pI q 13 12 b (cn (-100000))) j = shv q j := fun j => by
    unfold shv
    rw [q13 21 (by decide), q13 17 (by decide)]
  have W := ww_open (p' := v6_openBook_16 F (pI p 1 (b + 1) 5 (cn 0)) (b + 1) (cn 0)) (q' := Q') H hb
    (fun k j s h h' => by rw [k2 k j s h, pI_1, u3_ne h']) (by rw [k3, pI_2]) (by rw [k2 1 (b + 1) 5 (fun e => absurd e.1 (by decide)), pI_at])
    (fun j hj h => by
      obtain ⟨w1, w2⟩ := k4 j (by omega) hj (by rw [oC]; exact h)
      rw [w1, w2, p10]
      exact ⟨rfl, showable_c (by rw [p10]) (by rw [p10])⟩)
    (fun j hj h => by
      obtain ⟨w1, w2⟩ := k5 j (Or.inr (Or.inr (by rw [oC]; exact h)))
      rw [w1, w2, p10]
      exact ⟨rfl, rfl⟩)
    (fun k j s h h' h2 => by rw [j3 k j s h h', pI_1, u3_ne h2]) (by rw [j4, pI_2]) (by rw [j3 13 12 b (fun e => absurd e.1 (by decide)) (fun e => absurd e.2 (by decide)), pI_at])
    (fun j hj h => by
      obtain ⟨w1, w2⟩ := j5 j (by omega) hj (by rw [oQ]; exact h)
      rw [w1, w2, q15, q13 19 (by decide), q13 22 (by decide), sh]
      exact ⟨rfl, rfl⟩)
    (fun j hj h => by
      obtain ⟨w1, w2⟩ := j6 j (Or.inr (Or.inr (by rw [oQ]; exact h)))
      rw [w1, w2, q15, q13 22 (by decide)]
      exact ⟨rfl, rfl⟩)
  rw [hF, eC.1]
  exact ⟨eC.2, Q', j1, j2, W.1, W.2.1⟩
end Ev
