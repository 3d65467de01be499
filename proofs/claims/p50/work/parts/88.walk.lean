/-! the reference goes along the queue -/
/-- the reference's memory but for what the orders get -/
def GF (q q' : PM) : Prop := (∀ k, ¬ k = 13 → q'.1 k = q.1 k) ∧ (∀ K, ¬ (K = 29 ∨ K = 41 ∨ K = 42) → q'.1 13 K = q.1 13 K) ∧ q'.2 = q.2
theorem gf_rf (q : PM) : GF q q := ⟨fun _ _ => rfl, fun _ _ => rfl, rfl⟩
theorem gf_wK {q q' : PM} {K s : Nat} {v : Int32} (hK : K = 29 ∨ K = 41 ∨ K = 42) (H : GF q q') : GF q (pI q' 13 K s v) := ⟨fun k h => by
    rw [← H.1 k h]
    funext i s'
    exact u3_k h, fun K' h => by
    rw [← H.2.1 K' h]
    funext s'
    exact u3_i (fun e => h (e ▸ hK)), H.2.2⟩
theorem gf_w {q q' : PM} {s : Nat} {v : Int32} (H : GF q q') : GF q (pI q' 13 29 s v) := gf_wK (Or.inl rfl) H
theorem gf_there {q q' : PM} (H : GF q q') {i : Nat} (hi : i ≤ 2147483647) (B t : Int32) : v12_isThere q' (cn i) B t = v12_isThere q (cn i) B t := by
  rw [there_e q' i hi, there_e q i hi, H.1 15 (by decide), H.2.1 24 (by decide), H.2.1 16 (by decide)]
theorem gf_at {q q' : PM} (H : GF q q') {i : Nat} (hi : i ≤ 2147483647) (B t v : Int32) : v12_isAt q' (cn i) B t v = v12_isAt q (cn i) B t v := by
  rw [at_e q' i hi, at_e q i hi, gf_there H hi, H.1 15 (by decide), H.2.1 25 (by decide)]
theorem gf_shows {q q' : PM} (H : GF q q') {i : Nat} (hi : i ≤ 2147483647) : v12_showsNow q' (cn i) = v12_showsNow q (cn i) := by
  rw [showsNow_e q' hi, showsNow_e q hi, H.2.1 19 (by decide), H.2.1 22 (by decide), H.2.1 17 (by decide)]
theorem gf_sw {q q' : PM} (H : GF q q') {i : Nat} (hi : i ≤ 2147483647) : sw q' i = sw q i := by
  unfold sw
  rw [gf_shows H hi]
theorem gf_ky {q q' : PM} (H : GF q q') {i : Nat} {sz : Bool} (hi : i ≤ 2147483647) : ky q' sz i = ky q sz i := by
  unfold ky
  rw [gf_sw H hi, H.2.1 23 (by decide)]
theorem gf_qa {q q' : PM} (H : GF q q') {i b : Nat} {t v : Int32} (hi : i ≤ 2147483647) : QA q' b t v i = QA q b t v i := by
  unfold QA
  rw [gf_at H hi]
/-- what is known of the orders at the price, in the reference alone -/
def QB (q : PM) (b : Nat) (t v : Int32) : Prop := ∀ i, i < 44 → QA q b t v i → i < 40 ∧ 0 ≤ (q.1 13 23 i).toInt ∧ (q.1 13 23 i).toInt ≤ 1000000000 ∧ v12_showsNow q (cn i) = cn (sw q i) ∧ 1 ≤ sw q i ∧ sw q i ≤ 50
theorem gf_qb {q q' : PM} (H : GF q q') {b : Nat} {t v : Int32} (hB : QB q b t v) : QB q' b t v := by
  intro i hi hA
  rw [gf_qa H (by omega)] at hA
  rw [gf_sw H (by omega), gf_shows H (by omega), H.2.1 23 (by decide)]
  exact hB i hi hA
theorem gf_ql {q q' : PM} (H : GF q q') {b n c : Nat} {t v : Int32} {sz : Bool} {L : Nat → Nat} (hn : n ≤ 40) (HL : QL q b t v sz n c L) : QL q' b t v sz n c L := by
  obtain ⟨g1, g2, g3, g4⟩ := HL
  refine ⟨g1, fun j hj => ⟨(g2 j hj).1, ?_⟩, fun j k h1 h2 => ?_, fun i hi hA => g4 i hi ?_⟩
  · rw [gf_qa H (by have := (g2 j hj).1; omega)]
    exact (g2 j hj).2
  · rw [gf_ky H (by have := (g2 j (by omega)).1; omega), gf_ky H (by have := (g2 k h2).1; omega)]
    exact g3 j k h1 h2
  · rw [gf_qa H (by omega)] at hA
    exact hA
theorem qb_of {p q : PM} {lg : Nat → Int32} {x b N T D l : Nat} {f : Nat → Int} {t v : Int32} (H : WW p q lg x 99 (fun _ => False) N T D l f) (hb : b < 6) : QB q b t v := by
  intro i hi hA
  by_cases h : i < 40
  · obtain ⟨a, r, s, z, hL, h1, h2, h3, h4, h5, h6, h7, h8, h9, h10, h11, h12⟩ := qa_inv H hb h hA
    have hr := hL.2.2.2.2.2.2.2.1
    exact ⟨h, h12.1, h12.2, h8, h9, by omega⟩
  · exact absurd (at_dead (by omega) (H.1.1.2 i (by omega) hi)) hA
section Walk
variable {q : PM} {b : Nat} {t v : Int32} {sz : Bool} {kb : Int}
/-- the smallest one above kb, of the places below i -/
def Mn (q : PM) (b : Nat) (t v : Int32) (sz : Bool) (kb : Int) (i : Nat) (acc : Int32) : Prop := (acc = cn (-1) ∧ ∀ s, s < i → QA q b t v s → ¬ kb < ky q sz s) ∨ ∃ s, s < i ∧ s < 40 ∧ acc = cn s ∧ QA q b t v s ∧ kb < ky q sz s ∧ ∀ s', s' < i → QA q b t v s' → kb < ky q sz s' → ky q sz s ≤ ky q sz s'
theorem mn_skip {i : Nat} {acc : Int32} (h : QA q b t v i → ¬ kb < ky q sz i) (H : Mn q b t v sz kb i acc) : Mn q b t v sz kb (i + 1) acc := by
  rcases H with ⟨h1, h2⟩ | ⟨s, h1, h2, h3, h4, h5, h6⟩
  · refine Or.inl ⟨h1, fun s hs hA => ?_⟩
    by_cases e : s = i
    · rw [e] at hA ⊢
      exact h hA
    · exact h2 s (by omega) hA
  · refine Or.inr ⟨s, by omega, h2, h3, h4, h5, fun s' hs hA hk => ?_⟩
    by_cases e : s' = i
    · rw [e] at hA hk
      exact absurd hk (h hA)
    · exact h6 s' (by omega) hA hk
theorem mn_take {i : Nat} {acc : Int32} (hi : i < 40) (hA : QA q b t v i) (hk : kb < ky q sz i) (h : ∀ s : Nat, s < 40 → acc = cn s → ky q sz i < ky q sz s) (H : Mn q b t v sz kb i acc) : Mn q b t v sz kb (i + 1) (cn i) := by
  refine Or.inr ⟨i, by omega, hi, rfl, hA, hk, fun s' hs hA' hk' => ?_⟩
  by_cases e : s' = i
  · rw [e]
    exact Int.le_refl _
  · rcases H with ⟨h1, h2⟩ | ⟨s, h1, h2, h3, h4, h5, h6⟩
    · exact absurd hk' (h2 s' (by omega) hA')
    · have := h6 s' (by omega) hA' hk'
      have := h s h2 h3
      omega
theorem mn_keep {i s : Nat} (hs : s < 40) (h : ¬ ky q sz i < ky q sz s) (H : Mn q b t v sz kb i (cn s)) : Mn q b t v sz kb (i + 1) (cn s) := by
  rcases H with ⟨h1, h2⟩ | ⟨s', h1, h2, h3, h4, h5, h6⟩
  · rw [cneq ⟨by omega, by omega⟩ ⟨by omega, by omega⟩] at h1
    omega
  · rw [cneq ⟨by omega, by omega⟩ ⟨by omega, by omega⟩] at h3
    have e : s' = s := by omega
    rw [e] at h1 h4 h5 h6
    refine Or.inr ⟨s, by omega, hs, rfl, h4, h5, fun s2 hs2 hA hk => ?_⟩
    by_cases e2 : s2 = i
    · rw [e2]
      omega
    · exact h6 s2 (by omega) hA hk
theorem mn_fin {c j : Nat} {L : Nat → Nat} {acc : Int32} (hB : QB q b t v) (HL : QL q b t v sz 40 c L) (hj : j ≤ c) (h1 : ∀ k, k < j → ¬ kb < ky q sz (L k)) (h2 : ∀ k, j ≤ k → k < c → kb < ky q sz (L k)) (H : Mn q b t v sz kb 44 acc) : acc = if j < c then cn (L j) else cn (-1) := by
  obtain ⟨g1, g2, g3, g4⟩ := HL
  rcases H with ⟨m1, m2⟩ | ⟨s, m1, m2, m3, m4, m5, m6⟩
  · by_cases e : j < c
    · have := g2 j e
      exact absurd (h2 j (Nat.le_refl _) e) (m2 (L j) (by omega) this.2)
    · rw [if_neg e]
      exact m1
  · obtain ⟨k, k1, k2⟩ := g4 s m2 m4
    by_cases e : j < c
    · rw [if_pos e, m3]
      have hk : j ≤ k := by
        by_cases e2 : j ≤ k
        · exact e2
        · have := h1 k (by omega)
          rw [k2] at this
          exact absurd m5 this
      by_cases e3 : k = j
      · rw [← e3, k2]
      · have a1 := g3 j k (by omega) k1
        have a2 := m6 (L j) (by have := (g2 j e).1; omega) (g2 j e).2 (h2 j (Nat.le_refl _) e)
        rw [k2] at a1
        omega
    · have := h1 k (by omega)
      rw [k2] at this
      exact absurd m5 this
theorem ky_f (i : Nat) : ky q false i = (q.1 13 23 i).toInt := by
  unfold ky
  simp
theorem ky_t (i : Nat) : ky q true i = (50 - sw q i) * 4000000000 + (q.1 13 23 i).toInt := by
  unfold ky
  simp
/-- by turns -/
theorem bt_loop (hB : QB q b t v) {u : Int32} : ∀ (d i n : Nat) (acc : Int32), i + d = 44 → d < n → Mn q b t v false u.toInt i acc → g12_behindTurn_6 q n (cn b) t v u acc (cn i) ∧ Mn q b t v false u.toInt 44 (v12_behindTurn_6 q n (cn b) t v u acc (cn i)) := by
  intro d
  induction d with
  | zero =>
    intro i n acc h1 h2 hM
    obtain ⟨n', rfl⟩ : ∃ m, n = m + 1 := ⟨n - 1, by omega⟩
    have e : i = 44 := by omega
    subst e
    simp only [eg12_behindTurn_6, ev12_behindTurn_6, bg12_behindTurn_6, bv12_behindTurn_6, if_neg (show ¬ cn ((44 : Nat) : Int) < cn 44 by decide)]
    exact ⟨trivial, hM⟩
  | succ d ih =>
    intro i n acc h1 h2 hM
    obtain ⟨n', rfl⟩ : ∃ m, n = m + 1 := ⟨n - 1, by omega⟩
    have hi := cninb (i := i) (n := 44) (by omega) (by omega)
    have ga := g_at (q := q) (i := i) (by omega) (cn b) t v
    have k := fun acc hM => ih (i + 1) n' acc (by omega) (by omega) hM
    simp only [eg12_behindTurn_6, ev12_behindTurn_6, bg12_behindTurn_6, bv12_behindTurn_6, if_pos (lpt (i := i) (N := 44) (by omega) (by omega)), cntk (i := i) (by omega), cnsucc]
    by_cases hA : v12_isAt q (cn i) (cn b) t v = 0
    · have k1 := k acc (mn_skip (fun h => absurd hA h) hM)
      simp only [if_pos hA]
      exact ⟨⟨ga, k1.1⟩, k1.2⟩
    obtain ⟨b1, b2, b3, b4, b5, b6⟩ := hB i (by omega) hA
    by_cases hu : u < q.1 13 23 i
    · have hu' : u.toInt < ky q false i := by
        rw [ky_f]
        exact Int32.lt_iff_toInt_lt.mp hu
      rcases hM with hM1 | hM1
      · have k1 := k (cn i) (mn_take b1 hA hu' (fun s hs h => by
          rw [hM1.1, cneq ⟨by omega, by omega⟩ ⟨by omega, by omega⟩] at h
          omega) (Or.inl hM1))
        simp only [if_neg hA, if_pos hu, hM1.1, if_pos cnm1]
        exact ⟨⟨ga, hi, k1.1⟩, k1.2⟩
      · have hM2 := hM1
        obtain ⟨s, m1, m2, m3, m4, m5, m6⟩ := hM1
        have his := cninb (i := s) (n := 44) (by omega) (by omega)
        subst m3
        by_cases h : q.1 13 23 i < q.1 13 23 s
        · have k1 := k (cn i) (mn_take b1 hA hu' (fun s' hs h9 => by
            rw [cneq ⟨by omega, by omega⟩ ⟨by omega, by omega⟩] at h9
            have e : s' = s := by omega
            rw [e, ky_f, ky_f]
            exact Int32.lt_iff_toInt_lt.mp h) (Or.inr hM2))
          simp only [if_neg hA, if_pos hu, if_neg (cnge (j := s) (by omega)), cntk (i := s) (by omega), if_pos h]
          exact ⟨⟨ga, hi, hi, his, k1.1⟩, k1.2⟩
        · have k1 := k (cn s) (mn_keep m2 (by
            rw [ky_f, ky_f]
            rw [Int32.lt_iff_toInt_lt] at h
            exact h) (Or.inr hM2))
          simp only [if_neg hA, if_pos hu, if_neg (cnge (j := s) (by omega)), cntk (i := s) (by omega), if_neg h]
          exact ⟨⟨ga, hi, hi, his, k1.1⟩, k1.2⟩
    · have k1 := k acc (mn_skip (fun _ => by
        rw [ky_f]
        rw [Int32.lt_iff_toInt_lt] at hu
        exact hu) hM)
      simp only [if_neg hA, if_neg hu]
      exact ⟨⟨ga, hi, k1.1⟩, k1.2⟩
/-- where one is, and who comes next -/
theorem bt_next {c j : Nat} {L : Nat → Nat} {u : Int32} (hB : QB q b t v) (HL : QL q b t v false 40 c L) (hu : (j = 0 ∧ u = cn (-1)) ∨ ∃ k, j = k + 1 ∧ k < c ∧ u = q.1 13 23 (L k)) : g12_behindTurn q (cn b) t v u ∧ v12_behindTurn q (cn b) t v u = if j < c then cn (L j) else cn (-1) := by
  obtain ⟨h1, h2⟩ := bt_loop hB (u := u) 44 0 FU (cn (-1)) rfl (by decide) (Or.inl ⟨rfl, fun s hs => absurd hs (by omega)⟩)
  refine ⟨h1, mn_fin hB HL ?_ (fun k hk => ?_) (fun k hk hc => ?_) h2⟩
  · rcases hu with ⟨h, -⟩ | ⟨k, h, h', -⟩ <;> omega
  · rcases hu with ⟨h, -⟩ | ⟨m, m1, m2, m3⟩
    · omega
    · rw [m3, ky_f]
      by_cases e : k = m
      · rw [e]
        omega
      · have := HL.2.2.1 k m (by omega) m2
        rw [ky_f, ky_f] at this
        omega
  · rcases hu with ⟨-, h⟩ | ⟨m, m1, m2, m3⟩
    · have := hB (L k) (by have := (HL.2.1 k hc).1; omega) (HL.2.1 k hc).2
      rw [h, ky_f, cn_I ⟨by omega, by omega⟩]
      omega
    · have := HL.2.2.1 m k (by omega) hc
      rw [ky_f, ky_f] at this
      rw [m3, ky_f]
      exact this
/-- by size -/
theorem ns_loop (hB : QB q b t v) {S U : Int} (s1 : 1 ≤ S) (s2 : S ≤ 1000) (u1 : -1 ≤ U) (u2 : U ≤ 1000000000) : ∀ (d i n : Nat) (acc : Int32), i + d = 44 → d < n → Mn q b t v true ((50 - S) * 4000000000 + U) i acc → g12_nextBySize_6 q n (cn b) t v (cn S) (cn U) acc (cn i) ∧ Mn q b t v true ((50 - S) * 4000000000 + U) 44 (v12_nextBySize_6 q n (cn b) t v (cn S) (cn U) acc (cn i)) := by
  intro d
  induction d with
  | zero =>
    intro i n acc h1 h2 hM
    obtain ⟨n', rfl⟩ : ∃ m, n = m + 1 := ⟨n - 1, by omega⟩
    have e : i = 44 := by omega
    subst e
    simp only [eg12_nextBySize_6, ev12_nextBySize_6, bg12_nextBySize_6, bv12_nextBySize_6, if_neg (show ¬ cn ((44 : Nat) : Int) < cn 44 by decide)]
    exact ⟨trivial, hM⟩
  | succ d ih =>
    intro i n acc h1 h2 hM
    obtain ⟨n', rfl⟩ : ∃ m, n = m + 1 := ⟨n - 1, by omega⟩
    have hi := cninb (i := i) (n := 44) (by omega) (by omega)
    have ga := g_at (q := q) (i := i) (by omega) (cn b) t v
    have gs := g_showsNow (q := q) (i := i) (by omega)
    have k := fun acc hM => ih (i + 1) n' acc (by omega) (by omega) hM
    simp only [eg12_nextBySize_6, ev12_nextBySize_6, bg12_nextBySize_6, bv12_nextBySize_6, if_pos (lpt (i := i) (N := 44) (by omega) (by omega)), cntk (i := i) (by omega), cnsucc]
    by_cases hA : v12_isAt q (cn i) (cn b) t v = 0
    · have k1 := k acc (mn_skip (fun h => absurd hA h) hM)
      simp only [if_pos hA]
      exact ⟨⟨ga, k1.1⟩, k1.2⟩
    obtain ⟨b1, b2, b3, b4, b5, b6⟩ := hB i (by omega) hA
    have e1 : (cn (sw q i) < cn S) = (sw q i < S) := cnlt ⟨by omega, by omega⟩ ⟨by omega, by omega⟩
    have e2 : (cn (sw q i) = cn S) = (sw q i = S) := cneq ⟨by omega, by omega⟩ ⟨by omega, by omega⟩
    have e3 : (cn U < q.1 13 23 i) = (U < (q.1 13 23 i).toInt) := by
      rw [propext Int32.lt_iff_toInt_lt, cn_I ⟨by omega, by omega⟩]
    -- whether it counts
    by_cases hu : sw q i < S ∨ (sw q i = S ∧ U < (q.1 13 23 i).toInt)
    · have hu' : (50 - S) * 4000000000 + U < ky q true i := by
        rw [ky_t]
        omega
      rcases hM with hM1 | hM1
      · have k1 := k (cn i) (mn_take b1 hA hu' (fun s hs h => by
          rw [hM1.1, cneq ⟨by omega, by omega⟩ ⟨by omega, by omega⟩] at h
          omega) (Or.inl hM1))
        by_cases c1 : sw q i < S
        · simp only [if_neg hA, b4, e1, if_pos c1, hM1.1, if_pos cnm1]
          exact ⟨⟨ga, gs, k1.1⟩, k1.2⟩
        · have c2 := hu.resolve_left c1
          simp only [if_neg hA, b4, e1, e2, e3, if_neg c1, if_pos c2.1, if_pos c2.2, hM1.1, if_pos cnm1]
          exact ⟨⟨ga, gs, gs, hi, k1.1⟩, k1.2⟩
      · have hM2 := hM1
        obtain ⟨s, m1, m2, m3, m4, m5, m6⟩ := hM1
        have his := cninb (i := s) (n := 44) (by omega) (by omega)
        have gss := g_showsNow (q := q) (i := s) (by omega)
        obtain ⟨d1, d2, d3, d4, d5, d6⟩ := hB s (by omega) m4
        have e4 : (cn (sw q s) < cn (sw q i)) = (sw q s < sw q i) := cnlt ⟨by omega, by omega⟩ ⟨by omega, by omega⟩
        have e5 : (cn (sw q i) = cn (sw q s)) = (sw q i = sw q s) := cneq ⟨by omega, by omega⟩ ⟨by omega, by omega⟩
        have e6 : (q.1 13 23 i < q.1 13 23 s) = ((q.1 13 23 i).toInt < (q.1 13 23 s).toInt) := propext Int32.lt_iff_toInt_lt
        subst m3
        by_cases h : sw q s < sw q i
        · have k1 := k (cn i) (mn_take b1 hA hu' (fun s' hs h9 => by
            rw [cneq ⟨by omega, by omega⟩ ⟨by omega, by omega⟩] at h9
            have e : s' = s := by omega
            rw [e, ky_t, ky_t]
            omega) (Or.inr hM2))
          by_cases c1 : sw q i < S
          · simp only [if_neg hA, b4, d4, e1, e4, if_pos c1, if_neg (cnge (j := s) (by omega)), cntk (i := s) (by omega), if_pos h]
            exact ⟨⟨ga, gs, gs, gss, k1.1⟩, k1.2⟩
          · have c2 := hu.resolve_left c1
            simp only [if_neg hA, b4, d4, e1, e2, e3, e4, if_neg c1, if_pos c2.1, if_pos c2.2, if_neg (cnge (j := s) (by omega)), cntk (i := s) (by omega), if_pos h]
            exact ⟨⟨ga, gs, gs, hi, gs, gss, k1.1⟩, k1.2⟩
        · by_cases h2 : sw q i = sw q s
          · by_cases h3 : (q.1 13 23 i).toInt < (q.1 13 23 s).toInt
            · have k1 := k (cn i) (mn_take b1 hA hu' (fun s' hs h9 => by
                rw [cneq ⟨by omega, by omega⟩ ⟨by omega, by omega⟩] at h9
                have e : s' = s := by omega
                rw [e, ky_t, ky_t]
                omega) (Or.inr hM2))
              by_cases c1 : sw q i < S
              · simp only [if_neg hA, b4, d4, e1, e4, e5, e6, if_pos c1, if_neg (cnge (j := s) (by omega)), cntk (i := s) (by omega), if_neg h, if_pos h2, if_pos h3]
                exact ⟨⟨ga, gs, gs, gss, gs, gss, hi, his, k1.1⟩, k1.2⟩
              · have c2 := hu.resolve_left c1
                simp only [if_neg hA, b4, d4, e1, e2, e3, e4, e5, e6, if_neg c1, if_pos c2.1, if_pos c2.2, if_neg (cnge (j := s) (by omega)), cntk (i := s) (by omega), if_neg h, if_pos h2, if_pos h3]
                exact ⟨⟨ga, gs, gs, hi, gs, gss, gs, gss, hi, his, k1.1⟩, k1.2⟩
            · have k1 := k (cn s) (mn_keep m2 (by
                rw [ky_t, ky_t]
                omega) (Or.inr hM2))
              by_cases c1 : sw q i < S
              · simp only [if_neg hA, b4, d4, e1, e4, e5, e6, if_pos c1, if_neg (cnge (j := s) (by omega)), cntk (i := s) (by omega), if_neg h, if_pos h2, if_neg h3]
                exact ⟨⟨ga, gs, gs, gss, gs, gss, hi, his, k1.1⟩, k1.2⟩
              · have c2 := hu.resolve_left c1
                simp only [if_neg hA, b4, d4, e1, e2, e3, e4, e5, e6, if_neg c1, if_pos c2.1, if_pos c2.2, if_neg (cnge (j := s) (by omega)), cntk (i := s) (by omega), if_neg h, if_pos h2, if_neg h3]
                exact ⟨⟨ga, gs, gs, hi, gs, gss, gs, gss, hi, his, k1.1⟩, k1.2⟩
          · have k1 := k (cn s) (mn_keep m2 (by
              rw [ky_t, ky_t]
              omega) (Or.inr hM2))
            by_cases c1 : sw q i < S
            · simp only [if_neg hA, b4, d4, e1, e4, e5, if_pos c1, if_neg (cnge (j := s) (by omega)), cntk (i := s) (by omega), if_neg h, if_neg h2]
              exact ⟨⟨ga, gs, gs, gss, gs, gss, k1.1⟩, k1.2⟩
            · have c2 := hu.resolve_left c1
              simp only [if_neg hA, b4, d4, e1, e2, e3, e4, e5, if_neg c1, if_pos c2.1, if_pos c2.2, if_neg (cnge (j := s) (by omega)), cntk (i := s) (by omega), if_neg h, if_neg h2]
              exact ⟨⟨ga, gs, gs, hi, gs, gss, gs, gss, k1.1⟩, k1.2⟩
    · have k1 := k acc (mn_skip (fun _ => by
        rw [ky_t]
        omega) hM)
      have c1 : ¬ sw q i < S := fun h => hu (Or.inl h)
      by_cases c2 : sw q i = S
      · have c3 : ¬ U < (q.1 13 23 i).toInt := fun h => hu (Or.inr ⟨c2, h⟩)
        simp only [if_neg hA, b4, e1, e2, e3, if_neg c1, if_pos c2, if_neg c3]
        exact ⟨⟨ga, gs, gs, hi, k1.1⟩, k1.2⟩
      · simp only [if_neg hA, b4, e1, e2, if_neg c1, if_neg c2]
        exact ⟨⟨ga, gs, gs, k1.1⟩, k1.2⟩
theorem ns_next {c j : Nat} {L : Nat → Nat} {S u : Int32} (hB : QB q b t v) (HL : QL q b t v true 40 c L) (hu : (j = 0 ∧ S = cn 1000 ∧ u = cn (-1)) ∨ ∃ k, j = k + 1 ∧ k < c ∧ S = v12_showsNow q (cn (L k)) ∧ u = q.1 13 23 (L k)) : g12_nextBySize q (cn b) t v S u ∧ v12_nextBySize q (cn b) t v S u = if j < c then cn (L j) else cn (-1) := by
  rcases hu with ⟨rfl, rfl, rfl⟩ | ⟨m, rfl, m2, rfl, m4⟩
  · obtain ⟨h1, h2⟩ := ns_loop hB (S := 1000) (U := -1) (by decide) (by decide) (by decide) (by decide) 44 0 FU (cn (-1)) rfl (by decide) (Or.inl ⟨rfl, fun s hs => absurd hs (by omega)⟩)
    refine ⟨h1, mn_fin hB HL (Nat.zero_le _) (fun k hk => absurd hk (by omega)) (fun k hk hc => ?_) h2⟩
    obtain ⟨d1, d2, d3, d4, d5, d6⟩ := hB (L k) (by have := (HL.2.1 k hc).1; omega) (HL.2.1 k hc).2
    rw [ky_t]
    omega
  · obtain ⟨d1, d2, d3, d4, d5, d6⟩ := hB (L m) (by have := (HL.2.1 m m2).1; omega) (HL.2.1 m m2).2
    have eu : u = cn (q.1 13 23 (L m)).toInt := m4.trans (cn_of _)
    obtain ⟨h1, h2⟩ := ns_loop hB (S := sw q (L m)) (U := (q.1 13 23 (L m)).toInt) d5 (by omega) (by omega) d3 44 0 FU (cn (-1)) rfl (by decide) (Or.inl ⟨rfl, fun s hs => absurd hs (by omega)⟩)
    rw [d4, eu]
    have hk0 : (50 - sw q (L m)) * 4000000000 + (q.1 13 23 (L m)).toInt = ky q true (L m) := (ky_t _).symm
    rw [hk0] at h2
    refine ⟨h1, mn_fin hB HL (by omega) (fun k hk => ?_) (fun k hk hc => HL.2.2.1 m k (by omega) hc) h2⟩
    by_cases e : k = m
    · rw [e]
      omega
    · have := HL.2.2.1 k m (by omega) m2
      omega
end Walk
