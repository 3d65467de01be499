/-! looking again and again -/
theorem rs_live {p q : PM} {lg : Nat → Int32} {x y N T D l : Nat} {w : Nat → Prop} {f : Nat → Int} (H : WW p q lg x y w N T D l f) {i : Nat} (hi : i < 40) (hl : q.1 15 3 i = cn 1) : 1 ≤ RS q 40 := by
  obtain ⟨_, a, b, r, s, z, hL⟩ := slot_live (H.1.1.1 i hi) (by rw [hl]; exact cn01)
  have hr := hL.2.2.2.2.2.2.2.1
  have h1 : rs q i = r := by
    unfold rs
    rw [hl, if_neg cn01, hr.2.2.2, cn_I ⟨by omega, by omega⟩]
  have h2 := RS_upd (q := q) (q' := pI q 15 3 i (cn 0)) 40 hi (fun j hj hne => by
    unfold rs
    rw [pI_1, u3_s hne, u3_k (by decide)])
  have h3 : rs (pI q 15 3 i (cn 0)) i = 0 := by
    unfold rs
    rw [pI_at, if_pos cn0e']
  have h4 := (RS_rng (w_mk (mk_one (p := p) (q := q) hi) H).1.1 40 (by decide)).1
  omega
theorem match_loop {lg : Nat → Int32} {x b N l : Nat} (hb : b < 6) (hx : x < 40) : ∀ (k n n' v3 : Nat) (p q : PM) (T D : Nat), RS q 40 < k → k + 2 ≤ n → k + 2 ≤ n' → WW p q lg x 99 (fun _ => False) N T D l (fun _ => 0) → q.1 15 3 x = cn 1 → q.1 13 24 x = cn 0 → q.1 13 16 x = cn b → v3 + RS q 40 ≤ 900000 → T + RS q 40 + 3 ≤ 1000000000 → D + RS q 40 + 3 ≤ 1000000000 → (g8_match_7 n p (x + 1) (b + 1) (cn v3) ∧ g12_matches_9 n' q (cn x) (cn 1)) ∧ ∃ T2 D2, (T ≤ T2 ∧ D ≤ D2) ∧ WW (v8_match_7 n p (x + 1) (b + 1) (cn v3)) (v12_matches_9 n' q (cn x) (cn 1)) lg 99 99 (fun _ => False) N T2 D2 l (fun _ => 0) ∧ T2 + RS (v12_matches_9 n' q (cn x) (cn 1)) 40 ≤ T + RS q 40 + 1 ∧ D2 + RS (v12_matches_9 n' q (cn x) (cn 1)) 40 ≤ D + RS q 40 := by
  intro k
  induction k with
  | zero =>
    intro n n' v3 p q T D h1 h2 h3 H hl
    have := rs_live H hx hl
    omega
  | succ k ih =>
    intro n n' v3 p q T D h1 h2 h3 H hl h24 hbk hv3 hT hD
    obtain ⟨n1, rfl⟩ : ∃ m, n = m + 1 := ⟨n - 1, by omega⟩
    obtain ⟨n2, rfl⟩ : ∃ m, n' = m + 1 := ⟨n' - 1, by omega⟩
    have hzx : ¬ x + 1 = 0 := by omega
    have hzb : ¬ b + 1 = 0 := by omega
    have hix := cninb (i := x) (n := 44) (by omega) (by omega)
    have hbi := cninb (i := b) (n := 6) hb (by omega)
    obtain ⟨ax, rx, sx, zx, hLx⟩ := lv_slot H hx hl hb hbk
    have rrx := hLx.2.2.2.2.2.2.2.1
    have hbu := hLx.2.2.2.2.1
    have hpb := hLx.2.1.2.2
    have hR0 := rs_live H hx hl
    have hlp : ¬ p.1 10 (x + 1) 2 = 0 := lv_nogone hLx
    have cv3 : cn (v3 : Int) < cn 1000000 := by
      rw [cnlt ⟨by omega, by omega⟩ ⟨by omega, by omega⟩]
      omega
    -- its other side
    obtain ⟨t, ht⟩ : ∃ t : Int32, (q.1 15 4 x = 0 ∧ t = cn 1) ∨ (¬ q.1 15 4 x = 0 ∧ t = cn 0) := by
      by_cases h : q.1 15 4 x = 0
      · exact ⟨cn 1, Or.inl ⟨h, rfl⟩⟩
      · exact ⟨cn 0, Or.inr ⟨h, rfl⟩⟩
    have e7 : v8_match_7 (n1 + 1) p (x + 1) (b + 1) (cn v3) = v8_match_37 (v8_match_7 n1) p (x + 1) (b + 1) (cn v3) t (b + 1) ∧ (g8_match_37 (g8_match_7 n1) p (x + 1) (b + 1) (cn v3) t (b + 1) → g8_match_7 (n1 + 1) p (x + 1) (b + 1) (cn v3)) := by
      simp only [eg8_match_7, ev8_match_7, bg8_match_7, bv8_match_7, if_pos cv3, if_neg hlp, hbu.1]
      rcases ht with ⟨h, rfl⟩ | ⟨h, rfl⟩
      · simp only [if_pos h]
        exact ⟨trivial, fun h9 => ⟨hzx, hzx, h9⟩⟩
      · simp only [if_neg h]
        exact ⟨trivial, fun h9 => ⟨hzx, hzx, h9⟩⟩
    have e9 : v12_matches_9 (n2 + 1) q (cn x) (cn 1) = v12_matches_9 n2 (v12_looks q (cn x)).2 (cn x) (v12_looks q (cn x)).1 ∧ (g12_looks q (cn x) → g12_matches_9 n2 (v12_looks q (cn x)).2 (cn x) (v12_looks q (cn x)).1 → g12_matches_9 (n2 + 1) q (cn x) (cn 1)) := by
      simp only [eg12_matches_9, ev12_matches_9, bg12_matches_9, bv12_matches_9, if_neg cn01]
      exact ⟨trivial, fun h9 h8 => ⟨h9, h8⟩⟩
    -- the reference looks
    have gbq := g_bestQ q (cn b) t (cn 1)
    have gbp := g_bestP p (b + 1) t (cn 1)
    have ebest := best_eq (t := t) (g := cn 1) hb H.1.1
    generalize hv : v12_bestOf q (cn b) t (cn 1) = v at ebest
    have eL : v12_looks q (cn x) = (if v = cn (-100000) then (cn 0, q) else if q.1 15 5 x = 0 then (if v12_isBetter q v (q.1 13 18 x) (q.1 15 4 x) = 0 then v12_looks_64 q (cn x) (cn b) v else (cn 0, q)) else v12_looks_64 q (cn x) (cn b) v) ∧ ((¬ v = cn (-100000) → ¬ (q.1 15 5 x = 0 ∧ ¬ v12_isBetter q v (q.1 13 18 x) (q.1 15 4 x) = 0) → g12_looks_64 q (cn x) (cn b) v) → g12_looks q (cn x)) := by
      have gb := g_better q v (q.1 13 18 x) (q.1 15 4 x)
      unfold v12_looks bv12_looks g12_looks bg12_looks
      simp only [cntk (i := x) (by omega), hbk]
      rcases ht with ⟨h, rfl⟩ | ⟨h, rfl⟩
      · simp only [if_pos h, hv]
        refine ⟨trivial, fun hh => ⟨hix, hix, gbq, ?_⟩⟩
        by_cases c1 : v = cn (-100000)
        · simp only [if_pos c1]
        · simp only [if_neg c1]
          refine ⟨hix, ?_⟩
          by_cases c2 : q.1 15 5 x = 0
          · simp only [if_pos c2]
            refine ⟨hix, hix, gb, ?_⟩
            by_cases c3 : v12_isBetter q v (q.1 13 18 x) (q.1 15 4 x) = 0
            · simp only [if_pos c3]
              exact hh c1 (fun h9 => h9.2 c3)
            · simp only [if_neg c3]
          · simp only [if_neg c2]
            exact hh c1 (fun h9 => c2 h9.1)
      · simp only [if_neg h, hv]
        refine ⟨trivial, fun hh => ⟨hix, hix, gbq, ?_⟩⟩
        by_cases c1 : v = cn (-100000)
        · simp only [if_pos c1]
        · simp only [if_neg c1]
          refine ⟨hix, ?_⟩
          by_cases c2 : q.1 15 5 x = 0
          · simp only [if_pos c2]
            refine ⟨hix, hix, gb, ?_⟩
            by_cases c3 : v12_isBetter q v (q.1 13 18 x) (q.1 15 4 x) = 0
            · simp only [if_pos c3]
              exact hh c1 (fun h9 => h9.2 c3)
            · simp only [if_neg c3]
          · simp only [if_neg c2]
            exact hh c1 (fun h9 => c2 h9.1)
    -- it ends here
    have stop : ∀ {p1 q1 : PM}, WW p1 q1 lg x 99 (fun _ => False) N T D l (fun _ => 0) → RS q1 40 ≤ RS q 40 → (q1.1 15 3 x = cn 1 → q1.1 13 24 x = cn 0) → v12_looks q (cn x) = (cn 0, q1) → g12_looks q (cn x) → v8_match_37 (v8_match_7 n1) p (x + 1) (b + 1) (cn v3) t (b + 1) = v8_settle p1 (x + 1) → (g8_settle p1 (x + 1) → g8_match_37 (g8_match_7 n1) p (x + 1) (b + 1) (cn v3) t (b + 1)) → (g8_match_7 (n1 + 1) p (x + 1) (b + 1) (cn v3) ∧ g12_matches_9 (n2 + 1) q (cn x) (cn 1)) ∧ ∃ T2 D2, (T ≤ T2 ∧ D ≤ D2) ∧ WW (v8_match_7 (n1 + 1) p (x + 1) (b + 1) (cn v3)) (v12_matches_9 (n2 + 1) q (cn x) (cn 1)) lg 99 99 (fun _ => False) N T2 D2 l (fun _ => 0) ∧ T2 + RS (v12_matches_9 (n2 + 1) q (cn x) (cn 1)) 40 ≤ T + RS q 40 + 1 ∧ D2 + RS (v12_matches_9 (n2 + 1) q (cn x) (cn 1)) 40 ≤ D + RS q 40 := by
      intro p1 q1 W1 hR h9 m1 m2 m3 m4
      obtain ⟨n3, rfl⟩ : ∃ m, n2 = m + 1 := ⟨n2 - 1, by omega⟩
      obtain ⟨⟨s1, s2⟩, T2, s3, s4, s5, s6⟩ := settle_eq (n := n3) W1 hx h9 (by omega)
      rw [m1] at e9
      dsimp only at e9
      rw [e9.1, e7.1, m3]
      exact ⟨⟨e7.2 (m4 s1), e9.2 m2 s2⟩, T2, D, ⟨s3, Nat.le_refl _⟩, s4, by omega, by omega⟩
    have eall := allows_x v hLx
    have gal := g_allows p x v
    obtain ⟨⟨gbb, gnr⟩, ebb⟩ := band_eq hb H.2.2.1 v
    by_cases c1 : v = cn (-100000)
    · rw [if_pos c1] at eL
      refine stop H (Int.le_refl _) (fun _ => h24) eL.1 (eL.2 fun h => absurd c1 h) ?_ ?_
      · unfold v8_match_37 bv8_match_37
        simp only [ebest, if_pos c1]
      · intro h
        unfold g8_match_37 bg8_match_37
        simp only [ebest, if_pos c1]
        exact ⟨gbp, h, trivial⟩
    by_cases c2 : q.1 15 5 x = 0 ∧ ¬ v12_isBetter q v (q.1 13 18 x) (q.1 15 4 x) = 0
    · rw [if_neg c1, if_pos c2.1, if_neg c2.2] at eL
      have e0 : v10_allows p (x + 1) v = 0 := by
        rw [eall]
        exact c2
      refine stop H (Int.le_refl _) (fun _ => h24) eL.1 (eL.2 fun _ h => absurd c2 h) ?_ ?_
      · unfold v8_match_37 bv8_match_37
        simp only [ebest, if_neg c1, if_pos e0]
      · intro h
        unfold g8_match_37 bg8_match_37
        simp only [ebest, if_neg c1, if_pos e0]
        exact ⟨gbp, hzx, gal, h, trivial⟩
    have e0 : ¬ v10_allows p (x + 1) v = 0 := by
      rw [eall]
      exact c2
    have eL2 : v12_looks q (cn x) = v12_looks_64 q (cn x) (cn b) v ∧ (g12_looks_64 q (cn x) (cn b) v → g12_looks q (cn x)) := by
      refine ⟨?_, fun h => eL.2 fun _ _ => h⟩
      rw [eL.1, if_neg c1]
      by_cases c3 : q.1 15 5 x = 0
      · rw [if_pos c3, if_pos]
        by_cases c4 : v12_isBetter q v (q.1 13 18 x) (q.1 15 4 x) = 0
        · exact c4
        · exact absurd ⟨c3, c4⟩ c2
      · rw [if_neg c3]
    have gauc := fun q => show g12_beginsAuction q (cn b) ((q.1 12 1 17) + (cn 5)) (cn 0) from ⟨hbi, hbi, hbi, trivial⟩
    by_cases c5 : v12_isNear q (cn b) v = 0
    · -- beyond the band
      have e1 : ¬ v1_isBeyondBand p (b + 1) v = 0 := by
        rw [ebb]
        exact fun h => h c5
      obtain ⟨⟨a1, a2⟩, a3, a4, a5, a6, a7, a8, a9, a10⟩ := ww_auc (k := 5) (fz := 0) H hb (by decide) (by decide) (by decide) (by decide) (E := q.1 12 1 17 + cn 5) rfl
      refine stop a3 (by omega) (fun _ => by rw [a6 24 (by decide) (by decide)]; exact h24) (q1 := v12_beginsAuction q (cn b) (q.1 12 1 17 + cn 5) (cn 0)) ?_ (eL2.2 ?_) ?_ ?_
      · rw [eL2.1]
        unfold v12_looks_64 bv12_looks_64
        simp only [if_pos c5]
      · unfold g12_looks_64 bg12_looks_64
        simp only [if_pos c5]
        exact ⟨gnr, a2, trivial⟩
      · unfold v8_match_37 bv8_match_37
        simp only [ebest, if_neg c1, if_neg e0, if_neg e1]
      · intro h
        unfold g8_match_37 bg8_match_37
        simp only [ebest, if_neg c1, if_neg e0, if_neg e1]
        exact ⟨gbp, hzx, gal, hzb, gbb, a1, h, trivial⟩
    have e1 : v1_isBeyondBand p (b + 1) v = 0 := by
      rw [ebb]
      exact c5
    -- those at the price
    obtain ⟨s0, s01, s02⟩ := best_some (q := q) (b := b) (t := t) H.1.1.2 (by rw [hv]; exact c1)
    rw [hv] at s02
    obtain ⟨a0, r0, sh0, z0, hQ0⟩ := qa_inv H hb s01 s02
    obtain ⟨z, hvz, hz⟩ := hQ0.2.2.2.2.2.2.2.2.2.2.2.1
    obtain ⟨ru, u1, u2, u3', u4⟩ := (H.2.2.1 b hb).2.2.2.1
    obtain ⟨sz, hsz⟩ : ∃ sz : Bool, (p.1 1 (b + 1) 9 = cn 2) = (sz = true) := by
      by_cases h : p.1 1 (b + 1) 9 = cn 2
      · exact ⟨true, propext ⟨fun _ => rfl, fun _ => h⟩⟩
      · exact ⟨false, propext ⟨fun h9 => absurd h9 h, fun h9 => absurd h9 (by decide)⟩⟩
    obtain ⟨c, L, pg, g1, g2, g3, g4, g5⟩ := gather_eq (t := t) (sz := sz) H hb c1 hpb hbu.1 ht hsz
    have hc1 : 1 ≤ c := by
      obtain ⟨j, j1, -⟩ := g5.2.2.2 s0 s01 s02
      omega
    have Wg := qf_ww H g3
    have hszq : (q.1 13 6 b = cn 2) = (sz = true) := by
      rw [← hsz, u3', u4]
    obtain ⟨sf, f1, f2, f3, f4⟩ := (H.2.2.1 b hb).2.2.2.2.2.1
    have hself : pg.1 1 (b + 1) 11 = cn sf := by rw [g3.1]; exact f3
    have hLxg : LV pg q x 99 x ax b rx sx zx := lv_c (fun S => by rw [g3.1]) (fun S => g3.2.2 10 (x + 1) S (by omega)) (fun _ _ _ _ => rfl) (fun _ _ _ => rfl) hLx
    rw [hvz] at g1 g2 g5 c1 e0 e1 c5 gnr gbb gal ebest eL2
    have csf : (0 < cn sf) = (0 < sf) := by rw [zcn, cnlt ⟨by decide, by decide⟩ ⟨by omega, by omega⟩]
    have csf0 : (cn sf = 0) = (sf = 0) := by rw [zcn, cneq ⟨by omega, by omega⟩ ⟨by decide, by decide⟩]
    -- trades
    have trade : (v12_looks q (cn x) = ((v12_servesAll q (cn x) (cn z)).1 15 3 x, v12_servesAll q (cn x) (cn z))) → (g12_servesAll q (cn x) (cn z) → b01 ((v12_servesAll q (cn x) (cn z)).1 15 3 x) → g12_looks q (cn x)) → (v8_match_37 (v8_match_7 n1) p (x + 1) (b + 1) (cn v3) t (b + 1) = v8_match_141 (v8_match_7 n1) FU (v8_share pg (b + 1) (pg.1 10 (x + 1) 9) (cn c)) (x + 1) (b + 1) (cn v3) (cn z) (cn c) (cn 0)) → (g8_share pg (b + 1) (pg.1 10 (x + 1) 9) (cn c) → g8_match_141 (g8_match_7 n1) FU (v8_share pg (b + 1) (pg.1 10 (x + 1) 9) (cn c)) (x + 1) (b + 1) (cn v3) (cn z) (cn c) (cn 0) → g8_match_37 (g8_match_7 n1) p (x + 1) (b + 1) (cn v3) t (b + 1)) → (g8_match_7 (n1 + 1) p (x + 1) (b + 1) (cn v3) ∧ g12_matches_9 (n2 + 1) q (cn x) (cn 1)) ∧ ∃ T2 D2, (T ≤ T2 ∧ D ≤ D2) ∧ WW (v8_match_7 (n1 + 1) p (x + 1) (b + 1) (cn v3)) (v12_matches_9 (n2 + 1) q (cn x) (cn 1)) lg 99 99 (fun _ => False) N T2 D2 l (fun _ => 0) ∧ T2 + RS (v12_matches_9 (n2 + 1) q (cn x) (cn 1)) 40 ≤ T + RS q 40 + 1 ∧ D2 + RS (v12_matches_9 (n2 + 1) q (cn x) (cn 1)) 40 ≤ D + RS q 40 := by
      intro m1 m2 m3 m4
      obtain ⟨p2, q2, T2, D2, y1, y2, y3, y4, y5, y6, y7, y8, y9, y10⟩ := serve_all (kv := v8_match_7 n1) (kg := g8_match_7 n1) (v3 := cn v3) Wg hb hx hl hbk ht rrx.2.2.2 (by rw [g3.1]; exact rrx.2.2.1) ⟨rrx.1, rrx.2.1⟩ g4 hc1 g5 hz hszq (by omega) (by omega)
      rw [y2.1] at m1 m2
      rw [m1] at e9
      dsimp only at e9
      rw [y1.1, cnsucc] at m3
      have y1' := y1.2.2
      rw [cnsucc] at y1'
      have hl2 := live_01 y3.1.1 hx
      have hRq2 := (RS_rng y3.1.1 40 (by decide)).1
      rcases hl2 with h9 | h9
      · -- it is gone
        obtain ⟨n3, rfl⟩ : ∃ m, n1 = m + 1 := ⟨n1 - 1, by omega⟩
        obtain ⟨n4, rfl⟩ : ∃ m, n2 = m + 1 := ⟨n2 - 1, by omega⟩
        obtain ⟨⟨s1, s2⟩, T3, s3, s4, s5, s6⟩ := settle_eq (n := n4) y3 hx (fun h => absurd (h.symm.trans h9) cn01) (by omega)
        have cv4 : cn ((v3 + 1 : Nat) : Int) < cn 1000000 := by
          rw [cnlt ⟨by omega, by omega⟩ ⟨by omega, by omega⟩]
          omega
        have hp0 : p2.1 10 (x + 1) 2 = 0 := slot_dead (y3.1.1.1 x hx) h9
        have e10 : v8_match_7 (n3 + 1) p2 (x + 1) (b + 1) (cn (v3 + 1 : Nat)) = v8_settle p2 (x + 1) ∧ (g8_settle p2 (x + 1) → g8_match_7 (n3 + 1) p2 (x + 1) (b + 1) (cn (v3 + 1 : Nat))) := by
          simp only [eg8_match_7, ev8_match_7, bg8_match_7, bv8_match_7, if_pos cv4, if_pos hp0]
          exact ⟨trivial, fun h => ⟨hzx, h, trivial⟩⟩
        rw [h9] at e9
        have e9' := e9
        rw [e9'.1, e7.1, m3, e10.1]
        exact ⟨⟨e7.2 (m4 y1.2.1 (y1' (e10.2 s1))), e9'.2 (m2 y2.2 (by rw [h9]; exact b0)) s2⟩, T3, D2, ⟨by omega, y6.2⟩, s4, by omega, by omega⟩
      · obtain ⟨⟨s1, s2⟩, T3, D3, s3, s4, s5, s6⟩ := ih n1 n2 (v3 + 1) p2 q2 T2 D2 (by omega) (by omega) (by omega) y3 h9 (by rw [y8 24 (by decide) (by decide) (by decide) (by decide)]; exact h24) (by rw [y8 16 (by decide) (by decide) (by decide) (by decide)]; exact hbk) (by omega) (by omega) (by omega)
        rw [h9] at e9
        have e9' := e9
        rw [e9'.1, e7.1, m3]
        exact ⟨⟨e7.2 (m4 y1.2.1 (y1' s1)), e9'.2 (m2 y2.2 (by rw [h9]; exact b1)) s2⟩, T3, D3, ⟨by omega, by omega⟩, s4, by omega, by omega⟩
    by_cases c6 : sf = 0
    · -- no self rule
      have c7 : ¬ 0 < sf := by omega
      refine trade ?_ ?_ ?_ ?_
      · rw [eL2.1]
        unfold v12_looks_64 bv12_looks_64
        simp only [if_neg c5, cntk (i := b) (by omega), cntk (i := x) (by omega), f4, csf, if_neg c7]
      · intro h h'
        refine eL2.2 ?_
        unfold g12_looks_64 bg12_looks_64
        simp only [if_neg c5, cntk (i := b) (by omega), cntk (i := x) (by omega), f4, csf, if_neg c7]
        exact ⟨gnr, hbi, h, hix, h', trivial⟩
      · unfold v8_match_37 bv8_match_37
        simp only [ebest, if_neg c1, if_neg e0, if_pos e1, g1, hself, csf0, if_pos c6]
      · intro h h'
        unfold g8_match_37 bg8_match_37
        simp only [ebest, if_neg c1, if_neg e0, if_pos e1, g1, hself, csf0, if_pos c6]
        exact ⟨gbp, hzx, gal, hzb, gbb, g2, hzb, hzx, h, h'⟩
    have c7 : 0 < sf := by omega
    obtain ⟨o1, o2, o3⟩ := own_all (v := cn z) Wg hb hx hLxg ht g4 g5
    rcases o3 with ⟨w1, w2, w3⟩ | ⟨w1, w2, w3, w4⟩
    · -- none of its own
      have w3z : v12_hasOwn q (cn x) (cn z) = 0 := w3
      have w1z : (v8_meetsOwn pg (x + 1) (cn c)).1 = 0 := w1
      refine trade ?_ ?_ ?_ ?_
      · rw [eL2.1]
        unfold v12_looks_64 bv12_looks_64
        simp only [if_neg c5, cntk (i := b) (by omega), cntk (i := x) (by omega), f4, csf, if_pos c7, if_pos w3z]
      · intro h h'
        refine eL2.2 ?_
        unfold g12_looks_64 bg12_looks_64
        simp only [if_neg c5, cntk (i := b) (by omega), cntk (i := x) (by omega), f4, csf, if_pos c7, if_pos w3z]
        exact ⟨gnr, hbi, o2, h, hix, h', trivial⟩
      · unfold v8_match_37 bv8_match_37
        simp only [ebest, if_neg c1, if_neg e0, if_pos e1, g1, hself, csf0, if_neg c6, if_pos w1z, w2]
      · intro h h'
        unfold g8_match_37 bg8_match_37
        simp only [ebest, if_neg c1, if_neg e0, if_pos e1, g1, hself, csf0, if_neg c6, if_pos w1z, w2]
        exact ⟨gbp, hzx, gal, hzb, gbb, g2, hzb, o1, hzx, h, h'⟩
    · have w2z : ¬ v12_hasOwn q (cn x) (cn z) = 0 := by
        rw [w2]
        exact cn01
      have w1z : ¬ (v8_meetsOwn pg (x + 1) (cn c)).1 = 0 := by
        rw [w1]
        exact cn01
      by_cases c8 : sf = 2
      · -- its own are gone
        have n12 : ¬ cn 2 = cn 1 := by decide
        subst c8
        obtain ⟨r1, r2, r3, r4⟩ := w4 hself
        have esame : pI q 15 3 x (cn 1) = q := pI_same hl
        have W2 := w_mk r2 Wg
        have hm := r2
        have hself2 : (v8_meetsOwn pg (x + 1) (cn c)).2.1 1 (b + 1) 11 = cn 2 := by
          rw [r2.2.1 1 (by decide)]
          exact hself
        obtain ⟨⟨s1, s2⟩, T3, D3, s3, s4, s5, s6⟩ := ih n1 n2 (v3 + 1) _ _ T D (by omega) (by omega) (by omega) W2 (by rw [r4]; exact hl) (by rw [r2.2.2.2.1 13 24 (by decide)]; exact h24) (by rw [r2.2.2.2.1 13 16 (by decide)]; exact hbk) (by omega) (by omega) (by omega)
        have m1 : v12_looks q (cn x) = (cn 1, v12_removesOwn q (cn x) (cn z)) := by
          rw [eL2.1]
          unfold v12_looks_64 bv12_looks_64
          simp only [if_neg c5, cntk (i := b) (by omega), cntk (i := x) (by omega), f4, csf, if_pos c7, if_neg w2z, if_true, esame, r4, hl]
        have m2 : g12_looks q (cn x) := by
          refine eL2.2 ?_
          unfold g12_looks_64 bg12_looks_64
          simp only [if_neg c5, cntk (i := b) (by omega), cntk (i := x) (by omega), f4, csf, if_pos c7, if_neg w2z, if_true, esame, r4, hl]
          exact ⟨gnr, hbi, o2, hbi, hix, hbi, r1, hix, b1, trivial⟩
        have m3 : v8_match_37 (v8_match_7 n1) p (x + 1) (b + 1) (cn v3) t (b + 1) = v8_match_7 n1 (v8_meetsOwn pg (x + 1) (cn c)).2 (x + 1) (b + 1) (cn (v3 + 1 : Nat)) := by
          unfold v8_match_37 bv8_match_37
          simp only [ebest, if_neg c1, if_neg e0, if_pos e1, g1, hself, csf0, if_neg c6, if_neg w1z, hself2, if_neg n12, cnsucc]
        have m4 : g8_match_7 n1 (v8_meetsOwn pg (x + 1) (cn c)).2 (x + 1) (b + 1) (cn (v3 + 1 : Nat)) → g8_match_37 (g8_match_7 n1) p (x + 1) (b + 1) (cn v3) t (b + 1) := by
          intro h
          unfold g8_match_37 bg8_match_37
          simp only [ebest, if_neg c1, if_neg e0, if_pos e1, g1, hself, csf0, if_neg c6, if_neg w1z, hself2, if_neg n12, cnsucc]
          exact ⟨gbp, hzx, gal, hzb, gbb, g2, hzb, o1, hzb, h⟩
        rw [m1] at e9
        dsimp only at e9
        rw [e9.1, e7.1, m3]
        exact ⟨⟨e7.2 (m4 s1), e9.2 m2 s2⟩, T3, D3, s3, s4, by omega, by omega⟩
      · -- it is gone
        have c9 : sf = 1 := by omega
        subst c9
        have n12 : ¬ cn 1 = cn 2 := by decide
        have w5 := w3 (by rw [hself]; exact n12)
        have W2 : WW (pI pg 10 (x + 1) 2 (cn 0)) (pI q 15 3 x (cn 0)) lg x 99 (fun _ => False) N T D l (fun _ => 0) := w_mk (mk_one hx) Wg
        refine stop W2 ?_ (fun h => absurd (h.symm.trans pI_at) cn01) ?_ (eL2.2 ?_) ?_ ?_
        · refine RS_le 40 fun i hi => ?_
          have h0 := (rs_rng (H.1.1.1 i hi)).1
          unfold rs at h0 ⊢
          by_cases e : i = x
          · rw [e, pI_at, if_pos cn0e']
            rw [e] at h0
            exact h0
          · rw [pI_1, u3_s e, u3_k (by decide)]
            exact Int.le_refl _
        · rw [eL2.1]
          have e88 : (pI q 15 3 x (cn 0)).1 13 8 b = cn 1 := by
            rw [pI_1, u3_k (by decide)]
            exact f4
          unfold v12_looks_64 bv12_looks_64
          simp only [if_neg c5, cntk (i := b) (by omega), cntk (i := x) (by omega), f4, csf, if_pos c7, if_neg w2z, if_neg n12, e88, pI_at]
        · have e88 : (pI q 15 3 x (cn 0)).1 13 8 b = cn 1 := by
            rw [pI_1, u3_k (by decide)]
            exact f4
          unfold g12_looks_64 bg12_looks_64
          simp only [if_neg c5, cntk (i := b) (by omega), cntk (i := x) (by omega), f4, csf, if_pos c7, if_neg w2z, if_neg n12, e88, pI_at]
          exact ⟨gnr, hbi, o2, hbi, hix, hbi, hix, b0, trivial⟩
        · unfold v8_match_37 bv8_match_37
          simp only [ebest, if_neg c1, if_neg e0, if_pos e1, g1, hself, csf0, if_neg c6, if_neg w1z, w5, if_true]
        · intro h
          unfold g8_match_37 bg8_match_37
          simp only [ebest, if_neg c1, if_neg e0, if_pos e1, g1, hself, csf0, if_neg c6, if_neg w1z, w5, if_true]
          exact ⟨gbp, hzx, gal, hzb, gbb, g2, hzb, o1, hzb, hzx, h, trivial⟩
/-- the whole of it: an order, new or a stop, in the book b -/
theorem ww_match {p q : PM} {lg : Nat → Int32} {x b N T D l : Nat} (H : WW p q lg x 99 (fun _ => False) N T D l (fun _ => 0)) (hb : b < 6) (hx : x < 40) (hl : q.1 15 3 x = cn 1) (hbk : q.1 13 16 x = cn b) (hc : q.1 13 19 x = cn 3 → CauseR p q x ∧ ∀ t : Nat, q.1 13 28 x = cn t → t ≤ 1000000000 → t < D ∧ (D ≤ t + 60 → q.1 13 30 (t % 60) = cn b)) (hT : T + RS q 40 + 3 ≤ 1000000000) (hD : D + RS q 40 + 3 ≤ 1000000000) : (g8_match p (x + 1) ∧ g12_matches q (cn x)) ∧ ∃ T2 D2, (T ≤ T2 ∧ D ≤ D2) ∧ WW (v8_match p (x + 1)) (v12_matches q (cn x)) lg 99 99 (fun _ => False) N T2 D2 l (fun _ => 0) ∧ T2 + RS (v12_matches q (cn x)) 40 ≤ T + RS q 40 + 1 ∧ D2 + RS (v12_matches q (cn x)) 40 ≤ D + RS q 40 := by
  obtain ⟨a, r, s, z, hL⟩ := lv_slot H hx hl hb hbk
  have hix := cninb (i := x) (n := 44) (by omega) (by omega)
  have hzx : ¬ x + 1 = 0 := by omega
  obtain ⟨m1, m2, m3, m4, m5⟩ : x = x ∧ p.1 10 (x + 1) 2 = cn 2 ∧ (q.1 13 24 x = cn 0 ∨ q.1 13 24 x = cn 2) ∧ p.1 10 (x + 1) 7 = cn (-100000) ∧ (q.1 13 19 x = cn 3 → q.1 13 24 x = cn 0 → CauseR p q x) := by
    rcases hL.2.2.2.2.2.2.2.2.2.2.2.2 with hs | hs | hs
    · exact hs
    · exact absurd rfl hs.1
    · exact absurd rfl hs.1
  have hno : ¬ stnd (pI q 13 24 x (cn 0)) x := by
    intro h
    have := h.2
    rw [pI_at] at this
    exact absurd this (by decide)
  obtain ⟨W1, R1⟩ := ww_st (p' := p) (q' := pI q 13 24 x (cn 0)) (x' := x) (w' := fun _ => False) (T' := T) H hx hl hL (fun _ _ _ => rfl) (fun _ _ _ => rfl) (fun _ _ => rfl) rfl
    (fun K i h => by
      rw [pI_1]
      by_cases e : i = x
      · rw [u3_i (fun e2 => h ⟨e, by omega⟩)]
      · rw [u3_s e])
    (by
      funext i s
      rw [pI_1, u3_k (by decide)]) (fun S h => by rw [pI_1, u3_k (by decide)]) rfl (fun _ _ _ => rfl)
    (Or.inl ⟨rfl, m2, Or.inl pI_at, m4, fun h _ => by
      have h' : q.1 13 19 x = cn 3 := by
        rw [pI_1, u3_i (by decide)] at h
        exact h
      have := (hc h').1
      unfold CauseR at this ⊢
      rw [pI_1, u3_i (by decide)]
      exact this⟩)
    (Or.inl ⟨rfl, H.1.2.2.1.2.2.1, by rw [pI_1, u3_k (by decide)]; exact H.1.2.2.1.2.2.2.1, fun h => absurd h hno⟩)
    (fun h => absurd h hno) (fun h => absurd h hno) (fun _ _ h => h)
    (fun h _ t h9 h8 => by
      rw [pI_1, u3_i (by decide)] at h9
      exact (hc h).2 t h9 h8)
  obtain ⟨⟨g1, g2⟩, T2, D2, s1, s2, s3, s4⟩ := match_loop (b := b) hb hx 90000 FU FU 0 p (pI q 13 24 x (cn 0)) T D (by
    have := (RS_rng H.1.1 40 (by decide)).2
    omega) (by decide) (by decide) W1 (by rw [pI_1, u3_k (by decide)]; exact hl) pI_at (by rw [pI_1, u3_i (by decide)]; exact hbk) (by
    have := (RS_rng H.1.1 40 (by decide)).2
    omega) (by omega) (by omega)
  have hz0 : cn ((0 : Nat) : Int) = cn 0 := rfl
  rw [hz0] at g1 s2
  have eP : v8_match p (x + 1) = v8_match_7 FU p (x + 1) (b + 1) (cn 0) := by
    unfold v8_match bv8_match
    rw [hL.2.1.2.2]
  have eQ : v12_matches q (cn x) = v12_matches_9 FU (pI q 13 24 x (cn 0)) (cn x) (cn 1) := by
    unfold v12_matches bv12_matches
    simp only [cntk (i := x) (by omega)]
  rw [eP, eQ]
  refine ⟨⟨?_, ?_⟩, T2, D2, s1, s2, by omega, by omega⟩
  · unfold g8_match bg8_match
    rw [hL.2.1.2.2]
    exact ⟨hzx, g1⟩
  · unfold g12_matches bg12_matches
    simp only [cntk (i := x) (by omega)]
    exact ⟨hix, g2⟩
