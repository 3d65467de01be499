/-! a new order is matched, or comes into an auction -/
theorem ww_place {p q : PM} {lg : Nat → Int32} {x b N T D l : Nat} (H : WW p q lg x 99 (fun _ => False) N T D l (fun _ => 0)) (hb : b < 6) (hx : x < 40) (hl : q.1 15 3 x = cn 1) (hbk : q.1 13 16 x = cn b) (hk : ¬ q.1 13 19 x = cn 3) (hT : T + RS q 40 + 3 ≤ 1000000000) (hD : D + RS q 40 + 3 ≤ 1000000000) : (g5_place p (x + 1) ∧ g12_enters q (cn x)) ∧ ∃ T2 D2, (T ≤ T2 ∧ D ≤ D2) ∧ WW (v5_place p (x + 1)) (v12_enters q (cn x)) lg 99 99 (fun _ => False) N T2 D2 l (fun _ => 0) ∧ T2 + RS (v12_enters q (cn x)) 40 ≤ T + RS q 40 + 1 ∧ D2 + RS (v12_enters q (cn x)) 40 ≤ D + RS q 40 ∧ (v5_place p (x + 1)).1 10 (x + 1) 0 = p.1 10 (x + 1) 0 := by
  obtain ⟨a, r, s, z, hL⟩ := lv_slot H hx hl hb hbk
  have hzx : ¬ x + 1 = 0 := by omega
  have hzb : ¬ b + 1 = 0 := by omega
  have hix := cninb (i := x) (n := 44) (by omega) (by omega)
  have b3 := hL.2.1.2.2
  have hop := open_eq hb H.2.2.1
  have gop : g12_isOpen q (cn b) := g_open hb
  have hnum : (v5_place p (x + 1)).1 10 (x + 1) 0 = p.1 10 (x + 1) 0 := fn_v5_place (x + 1) (fn_refl p) (x + 1)
  have R0 := (RS_rng H.1.1 40 (by decide)).1
  by_cases ho : v12_isOpen q (cn b) = 0
  · have np : ¬ p.1 1 (b + 1) 5 = 0 := by
      rw [hop]
      exact fun h => h ho
    have hnn : ¬ q.1 13 12 b = cn (-100000) := by
      intro h
      rw [open_e q (by omega), if_pos h] at ho
      exact absurd ho cn01
    obtain ⟨W, R⟩ := ww_stand H hx hl (fun b hb _ => by omega) (fun _ c hc h => by
      rw [hbk, cneq ⟨by omega, by omega⟩ ⟨by omega, by omega⟩] at h
      have : b = c := by omega
      rw [← this]
      exact hnn) (fun h => absurd h hk) (by omega)
    have e1 : v5_place p (x + 1) = v6_stand p (x + 1) ∧ g5_place p (x + 1) := by
      unfold v5_place bv5_place g5_place bg5_place
      simp only [b3, if_neg np]
      exact ⟨trivial, hzx, hzb, g_stand p x, trivial⟩
    have e2 : v12_enters q (cn x) = v12_comes q (cn x) ∧ g12_enters q (cn x) := by
      unfold v12_enters bv12_enters g12_enters bg12_enters
      simp only [cntk (i := x) (by omega), hbk, if_pos ho]
      exact ⟨trivial, hix, gop, g_comes q (by omega), trivial⟩
    rw [e1.1] at hnum ⊢
    rw [e2.1]
    exact ⟨⟨e1.2, e2.2⟩, T + 1, D, ⟨by omega, Nat.le_refl _⟩, W, by omega, by omega, hnum⟩
  · have np : p.1 1 (b + 1) 5 = 0 := by
      rw [hop]
      exact ho
    obtain ⟨⟨g1, g2⟩, T2, D2, t1, W, t2, t3⟩ := ww_match H hb hx hl hbk (fun h => absurd h hk) hT hD
    have e1 : v5_place p (x + 1) = v8_match p (x + 1) ∧ g5_place p (x + 1) := by
      unfold v5_place bv5_place g5_place bg5_place
      simp only [b3, if_pos np]
      exact ⟨trivial, hzx, hzb, g1, trivial⟩
    have e2 : v12_enters q (cn x) = v12_matches q (cn x) ∧ g12_enters q (cn x) := by
      unfold v12_enters bv12_enters g12_enters bg12_enters
      simp only [cntk (i := x) (by omega), hbk, if_neg ho]
      exact ⟨trivial, hix, gop, g2, trivial⟩
    rw [e1.1] at hnum ⊢
    rw [e2.1]
    exact ⟨⟨e1.2, e2.2⟩, T2, D2, t1, W, t2, t3, hnum⟩
