/-! what rounding leaves goes round; the rule of shares, whole -/
section Rounds
variable {q pg : PM} {b c : Nat} {t v : Int32} {L : Nat → Nat}
theorem rd_in {kv : PM → Int32 → Int32 → Int32 → PM} {kg : PM → Int32 → Int32 → Int32 → Prop} {kv' : PM → Int32 → Int32 → Int32 → Int32 → Int32 → Int32 → PM} {kg' : PM → Int32 → Int32 → Int32 → Int32 → Int32 → Int32 → Prop} {A W rn : Int32} (hP : ∀ j, j < c → pg.2.2 20 2 j = L j + 1 ∧ pg.1 10 (L j + 1) 11 = cn (sw q (L j))) (hB : QB q b t v) (HL : QL q b t v false 40 c L) : ∀ (d j n n' : Nat) (g : Nat → Int) (p' q' : PM) (left : Int), j + d = c → d < n → d < n' → PF pg p' → GF q q' → GR p' q' c L g → (∀ k, k < c → 0 ≤ g k ∧ g k ≤ sw q (L k)) → 0 ≤ left → left ≤ 50 → ∃ (p2 q2 : PM) (g2 : Nat → Int) (l2 : Int), (v8_giveShares_170 kv n p' (cn c) (cn left) rn (cn j) = kv p2 (cn c) (cn l2) (rn + cn 1) ∧ (kg p2 (cn c) (cn l2) (rn + cn 1) → g8_giveShares_170 kg n p' (cn c) (cn left) rn (cn j))) ∧ (v12_sharesOut_229 kv' n' q' (cn b) t v (cn left) A W (if j < c then cn (L j) else cn (-1)) = kv' q2 (cn b) t v (cn l2) A W ∧ (kg' q2 (cn b) t v (cn l2) A W → g12_sharesOut_229 kg' n' q' (cn b) t v (cn left) A W (if j < c then cn (L j) else cn (-1)))) ∧ PF pg p2 ∧ GF q q2 ∧ GR p2 q2 c L g2 ∧ (∀ k, k < c → 0 ≤ g2 k ∧ g2 k ≤ sw q (L k)) ∧ (0 ≤ l2 ∧ l2 ≤ left) ∧ sq g2 c + l2 = sq g c + left ∧ (l2 = left → left = 0 ∨ ∀ k, j ≤ k → k < c → g k = sw q (L k)) ∧ (∀ K s, ¬ K = 29 → q2.1 13 K s = q'.1 13 K s) := by
  intro d
  induction d with
  | zero =>
    intro j n n' g p' q' left h1 h2 h3 hp hq hg hgs l1 l2
    obtain ⟨m, rfl⟩ : ∃ m, n = m + 1 := ⟨n - 1, by omega⟩
    obtain ⟨m', rfl⟩ : ∃ m, n' = m + 1 := ⟨n' - 1, by omega⟩
    have e : j = c := by omega
    subst e
    have hc := HL.1
    refine ⟨p', q', g, left, ?_, ?_, hp, hq, hg, hgs, ⟨l1, Int.le_refl _⟩, rfl, fun _ => Or.inr fun k h9 h8 => absurd h9 (by omega), fun _ _ _ => rfl⟩
    · simp only [eg8_giveShares_170, ev8_giveShares_170, bg8_giveShares_170, bv8_giveShares_170, if_neg (lpf (i := j) (N := j) (Int.le_refl _) (by omega) (by omega))]
      exact ⟨trivial, fun h => h⟩
    · simp only [eg12_sharesOut_229, ev12_sharesOut_229, bg12_sharesOut_229, bv12_sharesOut_229, if_neg (Nat.lt_irrefl j), if_pos cnm1]
      exact ⟨trivial, fun h => h⟩
  | succ d ih =>
    intro j n n' g p' q' left h1 h2 h3 hp hq hg hgs l1 l2
    obtain ⟨m, rfl⟩ : ∃ m, n = m + 1 := ⟨n - 1, by omega⟩
    obtain ⟨m', rfl⟩ : ∃ m, n' = m + 1 := ⟨n' - 1, by omega⟩
    have hc := HL.1
    have hj : j < c := by omega
    have hlj := HL.2.1 j hj
    obtain ⟨d1, d2, d3, d4, d5, d6⟩ := hB (L j) (by omega) hlj.2
    have hi := cninb (i := j) (n := 40) (by omega) (by omega)
    have hiL := cninb (i := L j) (n := 44) (by omega) (by omega)
    have hz : ¬ L j + 1 = 0 := by omega
    have e1 : p'.2.2 20 2 j = L j + 1 := by rw [hp.2.2]; exact (hP j hj).1
    have e2 : p'.1 10 (L j + 1) 11 = cn (sw q (L j)) := by rw [hp.1 10 (by decide)]; exact (hP j hj).2
    have e3 : v12_showsNow q' (cn (L j)) = cn (sw q (L j)) := by rw [gf_shows hq (by omega)]; exact d4
    obtain ⟨e4, e5⟩ := hg.1 j hj
    have gs := fun q => g_showsNow (q := q) (i := L j) (by omega)
    obtain ⟨g1, g2⟩ := hgs j hj
    have c1 : (0 < cn left) = (0 < left) := by rw [zcn, cnlt ⟨by decide, by decide⟩ ⟨by omega, by omega⟩]
    have c2 : (cn (g j) < cn (sw q (L j))) = (g j < sw q (L j)) := cnlt ⟨by omega, by omega⟩ ⟨by omega, by omega⟩
    -- nothing more for this one
    have stay : ¬ (0 < left ∧ g j < sw q (L j)) → ∃ (p2 q2 : PM) (g2 : Nat → Int) (l2 : Int), (v8_giveShares_170 kv (m + 1) p' (cn c) (cn left) rn (cn j) = kv p2 (cn c) (cn l2) (rn + cn 1) ∧ (kg p2 (cn c) (cn l2) (rn + cn 1) → g8_giveShares_170 kg (m + 1) p' (cn c) (cn left) rn (cn j))) ∧ (v12_sharesOut_229 kv' (m' + 1) q' (cn b) t v (cn left) A W (if j < c then cn (L j) else cn (-1)) = kv' q2 (cn b) t v (cn l2) A W ∧ (kg' q2 (cn b) t v (cn l2) A W → g12_sharesOut_229 kg' (m' + 1) q' (cn b) t v (cn left) A W (if j < c then cn (L j) else cn (-1)))) ∧ PF pg p2 ∧ GF q q2 ∧ GR p2 q2 c L g2 ∧ (∀ k, k < c → 0 ≤ g2 k ∧ g2 k ≤ sw q (L k)) ∧ (0 ≤ l2 ∧ l2 ≤ left) ∧ sq g2 c + l2 = sq g c + left ∧ (l2 = left → left = 0 ∨ ∀ k, j ≤ k → k < c → g k = sw q (L k)) ∧ (∀ K s, ¬ K = 29 → q2.1 13 K s = q'.1 13 K s) := by
      intro hno
      have esame : pI q' 13 29 (L j) (cn (g j)) = q' := pI_same e5
      have hnx := bt_next (q := q') (j := j + 1) (gf_qb hq hB) (gf_ql hq (Nat.le_refl _) HL) (Or.inr ⟨j, rfl, by omega, rfl⟩)
      obtain ⟨p2, q2, g2, l2', ⟨k1, k1'⟩, ⟨k2, k2'⟩, k3, k4, k5, k6, k7, k8, k9, k10⟩ := ih (j + 1) m m' g p' q' left (by omega) (by omega) (by omega) hp hq hg hgs l1 l2
      rw [← hnx.2] at k2 k2'
      refine ⟨p2, q2, g2, l2', ?_, ?_, k3, k4, k5, k6, k7, k8, fun h => ?_, k10⟩
      · by_cases h : 0 < left
        · have h' : ¬ g j < sw q (L j) := fun h9 => hno ⟨h, h9⟩
          simp only [eg8_giveShares_170, ev8_giveShares_170, bg8_giveShares_170, bv8_giveShares_170, if_pos (lpt (i := j) (N := c) (by omega) (by omega)), if_pos (lpt (i := j) (N := 40) (by omega) (by omega)), cntk (i := j) (by omega), e1, e2, e4, c1, c2, if_pos h, if_neg h', cnsucc]
          exact ⟨k1, fun h9 => ⟨hi, hi, hz, k1' h9⟩⟩
        · simp only [eg8_giveShares_170, ev8_giveShares_170, bg8_giveShares_170, bv8_giveShares_170, if_pos (lpt (i := j) (N := c) (by omega) (by omega)), if_pos (lpt (i := j) (N := 40) (by omega) (by omega)), c1, if_neg h, cnsucc]
          exact ⟨k1, k1'⟩
      · by_cases h : 0 < left
        · have h' : ¬ g j < sw q (L j) := fun h9 => hno ⟨h, h9⟩
          simp only [eg12_sharesOut_229, ev12_sharesOut_229, bg12_sharesOut_229, bv12_sharesOut_229, if_pos hj, if_neg (cnge (j := L j) (by omega)), cntk (i := L j) (by omega), e3, e5, c1, c2, if_pos h, if_neg h', addz, esame, cnsub, Int.sub_zero]
          exact ⟨k2, fun h9 => ⟨hiL, gs _, hiL, hiL, hiL, hnx.1, k2' h9⟩⟩
        · simp only [eg12_sharesOut_229, ev12_sharesOut_229, bg12_sharesOut_229, bv12_sharesOut_229, if_pos hj, if_neg (cnge (j := L j) (by omega)), cntk (i := L j) (by omega), e5, c1, if_neg h, addz, esame, cnsub, Int.sub_zero]
          exact ⟨k2, fun h9 => ⟨hiL, hiL, hiL, hnx.1, k2' h9⟩⟩
      · rcases k9 h with h9 | h9
        · exact Or.inl h9
        · by_cases h0 : 0 < left
          · refine Or.inr fun k h7 h8 => ?_
            by_cases e : k = j
            · rw [e]
              have : ¬ g j < sw q (L j) := fun h9 => hno ⟨h0, h9⟩
              omega
            · exact h9 k (by omega) h8
          · exact Or.inl (by omega)
    by_cases hy : 0 < left ∧ g j < sw q (L j)
    · have hq2 : GF q (pI q' 13 29 (L j) (cn (g j + 1))) := gf_w hq
      have hnx := bt_next (q := pI q' 13 29 (L j) (cn (g j + 1))) (j := j + 1) (gf_qb hq2 hB) (gf_ql hq2 (Nat.le_refl _) HL) (Or.inr ⟨j, rfl, by omega, rfl⟩)
      obtain ⟨p2, q2, g2', l2', ⟨k1, k1'⟩, ⟨k2, k2'⟩, k3, k4, k5, k6, k7, k8, k9, k10⟩ := ih (j + 1) m m' (up g j (g j + 1)) (pI p' 13 19 j (cn (g j + 1))) (pI q' 13 29 (L j) (cn (g j + 1))) (left - 1) (by omega) (by omega) (by omega) (pf_w hp) hq2 (gr_w (ql_inj HL) hj hg) (fun k hk => by
        unfold up
        by_cases e : k = j
        · rw [if_pos e, e]
          omega
        · rw [if_neg e]
          exact hgs k hk) (by omega) (by omega)
      rw [← hnx.2] at k2 k2'
      rw [sq_up, if_pos hj] at k8
      refine ⟨p2, q2, g2', l2', ?_, ?_, k3, k4, k5, k6, ⟨k7.1, by omega⟩, by omega, fun h => by omega, fun K s h => (k10 K s h).trans (u3_i h)⟩
      · simp only [eg8_giveShares_170, ev8_giveShares_170, bg8_giveShares_170, bv8_giveShares_170, if_pos (lpt (i := j) (N := c) (by omega) (by omega)), if_pos (lpt (i := j) (N := 40) (by omega) (by omega)), cntk (i := j) (by omega), e1, e2, e4, c1, c2, if_pos hy.1, if_pos hy.2, cnadd]
        rw [show (cn ((j : Int) + 1)) = cn ((j + 1 : Nat) : Int) from rfl, show left + -1 = left - 1 from rfl]
        exact ⟨k1, fun h9 => ⟨hi, hi, hz, hi, hi, k1' h9⟩⟩
      · simp only [eg12_sharesOut_229, ev12_sharesOut_229, bg12_sharesOut_229, bv12_sharesOut_229, if_pos hj, if_neg (cnge (j := L j) (by omega)), cntk (i := L j) (by omega), e3, e5, c1, c2, if_pos hy.1, if_pos hy.2, cnadd, cnsub]
        exact ⟨k2, fun h9 => ⟨hiL, gs _, hiL, hiL, hiL, hnx.1, k2' h9⟩⟩
    · exact stay hy
theorem rd_out {all whole : Int} (hP : ∀ j, j < c → pg.2.2 20 2 j = L j + 1 ∧ pg.1 10 (L j + 1) 11 = cn (sw q (L j))) (hB : QB q b t v) (HL : QL q b t v false 40 c L) (a1 : 0 ≤ all) (a2 : all ≤ 2000) (w1 : 0 ≤ whole) (w2 : whole ≤ all) : ∀ (k r n n' : Nat) (g : Nat → Int) (p' q' : PM) (left : Int), left ≤ k → 0 ≤ left → r + left ≤ 50 → k < n → k < n' → PF pg p' → GF q q' → GR p' q' c L g → (∀ k, k < c → 0 ≤ g k ∧ g k ≤ sw q (L k)) → left ≤ sq (fun j => sw q (L j)) c - sq g c → (g8_giveShares_155 n p' (cn c) (cn left) (cn r) ∧ g12_sharesOut_207 n' q' (cn b) t v (cn left) (cn all) (cn whole)) ∧ PF pg (v8_giveShares_155 n p' (cn c) (cn left) (cn r)) ∧ GF q (v12_sharesOut_207 n' q' (cn b) t v (cn left) (cn all) (cn whole)) ∧ ∃ g2 : Nat → Int, GR (v8_giveShares_155 n p' (cn c) (cn left) (cn r)) (v12_sharesOut_207 n' q' (cn b) t v (cn left) (cn all) (cn whole)) c L g2 ∧ (∀ k, k < c → 0 ≤ g2 k ∧ g2 k ≤ sw q (L k)) ∧ sq g2 c = sq g c + left ∧ (∀ K s, ¬ K = 29 → (v12_sharesOut_207 n' q' (cn b) t v (cn left) (cn all) (cn whole)).1 13 K s = q'.1 13 K s) := by
  intro k
  induction k with
  | zero =>
    intro r n n' g p' q' left h1 h2 h3 h4 h5 hp hq hg hgs hr
    obtain ⟨m, rfl⟩ : ∃ m, n = m + 1 := ⟨n - 1, by omega⟩
    obtain ⟨m', rfl⟩ : ∃ m, n' = m + 1 := ⟨n' - 1, by omega⟩
    have e : left = 0 := by
      have : left ≤ (0 : Int) := h1
      omega
    subst e
    have h0 : ¬ (0 : Int32) < cn 0 := by decide
    simp only [eg8_giveShares_155, ev8_giveShares_155, bg8_giveShares_155, bv8_giveShares_155, eg12_sharesOut_207, ev12_sharesOut_207, bg12_sharesOut_207, bv12_sharesOut_207, if_neg h0, ite_self]
    exact ⟨⟨trivial, trivial⟩, hp, hq, g, hg, hgs, by omega, fun _ _ _ => trivial⟩
  | succ k ih =>
    intro r n n' g p' q' left h1 h2 h3 h4 h5 hp hq hg hgs hr
    obtain ⟨m, rfl⟩ : ∃ m, n = m + 1 := ⟨n - 1, by omega⟩
    obtain ⟨m', rfl⟩ : ∃ m, n' = m + 1 := ⟨n' - 1, by omega⟩
    by_cases hl : 0 < left
    · have c1 : (0 : Int32) < cn left := by
        rw [zcn, cnlt ⟨by decide, by decide⟩ ⟨by omega, by omega⟩]
        exact hl
      have c2 : cn (r : Int) < cn 50 := by
        rw [cnlt ⟨by omega, by omega⟩ ⟨by omega, by omega⟩]
        omega
      have c3 : ¬ cn all < cn whole := by
        rw [cnlt ⟨by omega, by omega⟩ ⟨by omega, by omega⟩]
        omega
      have hnx := bt_next (q := q') (j := 0) (gf_qb hq hB) (gf_ql hq (Nat.le_refl _) HL) (Or.inl ⟨rfl, rfl⟩)
      obtain ⟨p2, q2, g2, l2, ⟨k1, k1'⟩, ⟨k2, k2'⟩, k3, k4, k5, k6, k7, k8, k9, k10⟩ := rd_in (kv := v8_giveShares_155 m) (kg := g8_giveShares_155 m) (kv' := v12_sharesOut_207 m') (kg' := g12_sharesOut_207 m') (A := cn all) (W := cn whole) (rn := cn r) hP hB HL c 0 FU FU g p' q' left (by omega) (by have := HL.1; unfold FU; omega) (by have := HL.1; unfold FU; omega) hp hq hg hgs h2 (by omega)
      have hlt : l2 < left := by
        by_cases e : l2 = left
        · rcases k9 e with h9 | h9
          · omega
          · have := sq_c (F := g) (G := fun j => sw q (L j)) c (fun j hj => h9 j (Nat.zero_le _) hj)
            omega
        · omega
      obtain ⟨⟨m1, m2⟩, m3, m4, g3, m5, m6, m7, m8⟩ := ih (r + 1) m m' g2 p2 q2 l2 (by omega) k7.1 (by omega) (by omega) (by omega) k3 k4 k5 k6 (by omega)
      rw [← hnx.2] at k2 k2'
      have er : cn (r : Int) + cn 1 = cn ((r + 1 : Nat) : Int) := cnsucc r
      rw [er] at k1 k1'
      have z0 : cn ((0 : Nat) : Int) = cn 0 := rfl
      rw [z0] at k1 k1'
      simp only [eg8_giveShares_155, ev8_giveShares_155, bg8_giveShares_155, bv8_giveShares_155, eg12_sharesOut_207, ev12_sharesOut_207, bg12_sharesOut_207, bv12_sharesOut_207, if_pos c1, if_pos c2, if_neg c3, k1, k2]
      exact ⟨⟨k1' m1, hnx.1, k2' m2⟩, m3, m4, g3, m5, m6, by omega, fun K s h => (m8 K s h).trans (k10 K s h)⟩
    · have e : left = 0 := by omega
      subst e
      have h0 : ¬ (0 : Int32) < cn 0 := by decide
      simp only [eg8_giveShares_155, ev8_giveShares_155, bg8_giveShares_155, bv8_giveShares_155, eg12_sharesOut_207, ev12_sharesOut_207, bg12_sharesOut_207, bv12_sharesOut_207, if_neg h0, ite_self]
      exact ⟨⟨trivial, trivial⟩, hp, hq, g, hg, hgs, by omega, fun _ _ _ => trivial⟩
theorem gs155_n (n : Nat) {p : PM} {C r : Int32} : v8_giveShares_155 (n + 1) p C (cn 0) r = p ∧ g8_giveShares_155 (n + 1) p C (cn 0) r := by
  have h00 : ¬ (0 : Int32) < cn 0 := by decide
  simp only [eg8_giveShares_155, ev8_giveShares_155, bg8_giveShares_155, bv8_giveShares_155, if_neg h00, ite_self, and_self]
theorem gs155_F {p : PM} {C r : Int32} : v8_giveShares_155 FU p C (cn 0) r = p ∧ g8_giveShares_155 FU p C (cn 0) r := gs155_n 99999
theorem gs72_n (n : Nat) {p : PM} {C r : Int32} : v8_giveShares_72 (n + 1) p C (cn 0) (cn 0) (cn 0) r = p ∧ g8_giveShares_72 (n + 1) p C (cn 0) (cn 0) (cn 0) r := by
  have h00 : ¬ (0 : Int32) < cn 0 := by decide
  have k := gs155_F (p := p) (C := C) (r := cn 0)
  simp only [eg8_giveShares_72, ev8_giveShares_72, bg8_giveShares_72, bv8_giveShares_72, if_neg h00, ite_self]
  exact k
theorem gs72_F {p : PM} {C r : Int32} : v8_giveShares_72 FU p C (cn 0) (cn 0) (cn 0) r = p ∧ g8_giveShares_72 FU p C (cn 0) (cn 0) (cn 0) r := gs72_n 99999
theorem so207_n (n : Nat) {q : PM} {b t v r a w : Int32} (h : ¬ 0 < r ∨ a < w) : v12_sharesOut_207 (n + 1) q b t v r a w = q ∧ g12_sharesOut_207 (n + 1) q b t v r a w := by
  simp only [eg12_sharesOut_207, ev12_sharesOut_207, bg12_sharesOut_207, bv12_sharesOut_207]
  by_cases h1 : 0 < r
  · have h2 := h.resolve_left fun h9 => h9 h1
    simp only [if_pos h1, if_pos h2, and_self]
  · simp only [if_neg h1, and_self]
theorem so207_F {q : PM} {b t v r a w : Int32} (h : ¬ 0 < r ∨ a < w) : v12_sharesOut_207 FU q b t v r a w = q ∧ g12_sharesOut_207 FU q b t v r a w := so207_n 99999 h
/-- the whole rule -/
theorem so_all {p' q' : PM} {v1 : Nat} {rest top : Int} (hP : ∀ j, j < c → pg.2.2 20 2 j = L j + 1 ∧ pg.1 10 (L j + 1) 11 = cn (sw q (L j))) (hB : QB q b t v) (HL : QL q b t v false 40 c L) (hb : b < 6) (hc1 : 1 ≤ c) (hv1 : ¬ v1 = 0) (hrule : pg.1 1 v1 9 = cn 1) (htop : pg.1 1 v1 10 = cn top) (htop' : q.1 13 7 b = cn top) (t1 : 0 ≤ top) (t2 : top ≤ 50) (r1 : 1 ≤ rest) (r2 : rest ≤ 50) (hp : PF pg p') (hp0 : ∀ k, k < c → p'.1 13 19 k = cn 0) (hq : GF q q') (hq0 : ∀ i, i < 44 → q'.1 13 29 i = cn 0) : (shG p' v1 (cn rest) (cn c) ∧ g12_sharesOut q' (cn b) t v (cn rest)) ∧ PF pg (shE p' v1 (cn rest) (cn c)) ∧ GF q (v12_sharesOut q' (cn b) t v (cn rest)) ∧ ∃ g : Nat → Int, GR (shE p' v1 (cn rest) (cn c)) (v12_sharesOut q' (cn b) t v (cn rest)) c L g ∧ (∀ k, k < c → 0 ≤ g k ∧ g k ≤ sw q (L k)) ∧ sq g c ≤ rest ∧ 1 ≤ sq g c ∧ (∀ K s, ¬ K = 29 → (v12_sharesOut q' (cn b) t v (cn rest)).1 13 K s = q'.1 13 K s) := by
  have hc := HL.1
  have hl0 := HL.2.1 0 (by omega)
  obtain ⟨d1, d2, d3, d4, d5, d6⟩ := hB (L 0) (by omega) hl0.2
  have hi := cninb (i := 0) (n := 40) (by omega) (by omega)
  have hiL := cninb (i := L 0) (n := 44) (by omega) (by omega)
  have hbi := cninb (i := b) (n := 6) hb (by omega)
  have hz : ¬ L 0 + 1 = 0 := by omega
  have e1 : p'.2.2 20 2 0 = L 0 + 1 := by rw [hp.2.2]; exact (hP 0 (by omega)).1
  have e2 : p'.1 10 (L 0 + 1) 11 = cn (sw q (L 0)) := by rw [hp.1 10 (by decide)]; exact (hP 0 (by omega)).2
  have e3 : v12_showsNow q' (cn (L 0)) = cn (sw q (L 0)) := by rw [gf_shows hq (by omega)]; exact d4
  have e4 : p'.1 1 v1 9 = cn 1 := by rw [hp.1 1 (by decide)]; exact hrule
  have e5 : p'.1 1 v1 10 = cn top := by rw [hp.1 1 (by decide)]; exact htop
  have e6 : q'.1 13 7 b = cn top := by rw [hq.2.1 7 (by decide)]; exact htop'
  have gs := fun q => g_showsNow (q := q) (i := L 0) (by omega)
  have hnx := bt_next (q := q') (j := 0) (gf_qb hq hB) (gf_ql hq (Nat.le_refl _) HL) (Or.inl ⟨rfl, rfl⟩)
  rw [if_pos (by omega)] at hnx
  generalize hG : min (min rest top) (sw q (L 0)) = G0
  have hG1 : 0 ≤ G0 ∧ G0 ≤ rest ∧ G0 ≤ sw q (L 0) ∧ G0 ≤ top := by omega
  have m1 : v14_min_7cf53 p' (cn rest) (cn top) = cn (min rest top) := min_cn _ ⟨by omega, by omega⟩ ⟨by omega, by omega⟩
  have m2 : v14_min_7cf53 p' (cn (min rest top)) (cn (sw q (L 0))) = cn G0 := by rw [min_cn _ ⟨by omega, by omega⟩ ⟨by omega, by omega⟩, hG]
  have m3 : v12_least q' (cn top) (cn (sw q (L 0))) = cn (min top (sw q (L 0))) := least_cn _ ⟨by omega, by omega⟩ ⟨by omega, by omega⟩
  have m4 : v12_least q' (cn (min top (sw q (L 0)))) (cn rest) = cn G0 := by
    rw [least_cn _ ⟨by omega, by omega⟩ ⟨by omega, by omega⟩]
    exact congrArg cn (by omega)
  have hc0 : (0 : Int32) < cn c := by
    rw [zcn, cnlt ⟨by decide, by decide⟩ ⟨by omega, by omega⟩]
    omega
  -- the top
  have hp1 : PF pg (pI p' 13 19 0 (cn G0)) := pf_w hp
  have hq1 : GF q (pI q' 13 29 (L 0) (cn G0)) := gf_w hq
  have hg0 : GR p' q' c L (fun _ => 0) := ⟨fun j hj => ⟨hp0 j hj, hq0 (L j) (by have := (HL.2.1 j hj).1; omega)⟩, fun i hi _ => hq0 i hi⟩
  have hg1 : GR (pI p' 13 19 0 (cn G0)) (pI q' 13 29 (L 0) (cn G0)) c L (up (fun _ => 0) 0 G0) := gr_w (ql_inj HL) (by omega) hg0
  have hsq1 : sq (up (fun _ => 0) 0 G0) c = G0 := by
    rw [sq_up, sq_z, if_pos (by omega)]
    omega
  generalize hgg : up (fun _ => 0) 0 G0 = g1 at hg1 hsq1
  have hg1s : ∀ k, k < c → 0 ≤ g1 k ∧ g1 k ≤ sw q (L k) := by
    intro k hk
    obtain ⟨f1, f2, f3, f4, f5, f6⟩ := hB (L k) (by have := (HL.2.1 k hk).1; omega) (HL.2.1 k hk).2
    rw [← hgg]
    unfold up
    dsimp only
    by_cases e : k = 0
    · rw [if_pos e, e]
      omega
    · rw [if_neg e]
      omega
  generalize hpp : pI p' 13 19 0 (cn G0) = pp at hp1 hg1
  generalize hqq : pI q' 13 29 (L 0) (cn G0) = qq at hq1 hg1
  have epp : pp.1 13 19 0 = cn G0 := by
    rw [← hpp]
    exact pI_at
  have eqq : qq.1 13 29 (L 0) = cn G0 := by
    rw [← hqq]
    exact pI_at
  have hsw : ∀ k, k < c → 1 ≤ sw q (L k) ∧ sw q (L k) ≤ 50 := by
    intro k hk
    obtain ⟨f1, f2, f3, f4, f5, f6⟩ := hB (L k) (by have := (HL.2.1 k hk).1; omega) (HL.2.1 k hk).2
    exact ⟨f5, f6⟩
  -- the sum of what is shown yet
  have hopen : sq (fun j => sw q (L j) - g1 j) c = sq (fun j => sw q (L j)) c - G0 := by rw [sq_sub, hsq1]
  have hsR := sq_rng (g := fun j => sw q (L j)) (m := 50) (by decide) c (fun j hj => by have := hsw j hj; exact ⟨by omega, this.2⟩)
  have hs1 : 1 ≤ sq (fun j => sw q (L j)) c := by
    have h1 := sq_le (g := up (fun _ => 0) 0 1) (h := fun j => sw q (L j)) c (fun j hj => by
      have := hsw j hj
      unfold up
      dsimp only
      split <;> omega)
    rw [sq_up, sq_z, if_pos (by omega)] at h1
    omega
  have hop0 : 0 ≤ sq (fun j => sw q (L j) - g1 j) c := (sq_rng (m := 50) (by decide) c (fun j hj => by have := hsw j hj; have := hg1s j hj; omega)).1
  have hsG : G0 ≤ sq (fun j => sw q (L j)) c := by omega
  generalize hOP : sq (fun j => sw q (L j) - g1 j) c = op at hopen hop0
  have hop2 : op ≤ 2000 := by
    have : (50 : Int) * (c : Int) ≤ 2000 := by omega
    omega
  have hsm : sm (fun j => sw q (L j) - g1 j) 0 c = op := by
    rw [sm_sq, ← hOP]
    show sq _ (0 + c) - 0 = _
    rw [Nat.zero_add]
    omega
  have hwh : 0 ≤ rest - G0 := by omega
  -- class
  have h5 := gs5 (p' := pp) (y := fun j => sw q (L j) - g1 j) (most := cn (rest - G0)) (c := c) hc (fun j hj => by
    rw [show pp.2.2 20 2 j = L j + 1 by rw [hp1.2.2]; exact (hP j hj).1, show pp.1 10 (L j + 1) 11 = cn (sw q (L j)) by rw [hp1.1 10 (by decide)]; exact (hP j hj).2, (hg1.1 j hj).1]
    exact ⟨by omega, by rw [cnsub]⟩) c 0 FU 0 (by omega) (by unfold FU; omega)
  rw [hsm, Int.zero_add, min_cn pp ⟨by omega, by omega⟩ ⟨by omega, by omega⟩] at h5
  have z0 : cn ((0 : Nat) : Int) = cn 0 := rfl
  rw [z0] at h5
  have gm1 := g_min p' (cn rest) (cn top)
  have gm2 := g_min p' (cn (min rest top)) (cn (sw q (L 0)))
  have eC : shE p' v1 (cn rest) (cn c) = v8_giveShares_72 FU pp (cn c) (cn op) (cn (min (rest - G0) op)) (cn (min (rest - G0) op)) (cn 0) := by
    unfold shE v8_giveTop bv8_giveTop v8_giveShares bv8_giveShares
    simp only [e4, if_true, e5, if_pos hc0, e1, e2, m1, m2, hpp, epp, cnsub, h5.1]
  have gC : g8_giveShares_72 FU pp (cn c) (cn op) (cn (min (rest - G0) op)) (cn (min (rest - G0) op)) (cn 0) → shG p' v1 (cn rest) (cn c) := by
    intro h
    unfold shG g8_giveTop bg8_giveTop v8_giveTop bv8_giveTop g8_giveShares bg8_giveShares
    simp only [e4, if_true, e5, if_pos hc0, e1, e2, m1, m2, hpp, epp, cnsub]
    exact ⟨hv1, hv1, ⟨gm1, hz, gm2, trivial⟩, h5.2 h⟩
  -- reference
  have hFi : ∀ i, i < 44 → QA q b t v i → qq.1 13 29 i = cn ((qq.1 13 29 i).toInt) ∧ sw q i - (qq.1 13 29 i).toInt = sw q i - (qq.1 13 29 i).toInt ∧ 0 ≤ sw q i - (qq.1 13 29 i).toInt ∧ sw q i - (qq.1 13 29 i).toInt ≤ 50 := by
    intro i hi hA
    obtain ⟨f1, f2, f3, f4, f5, f6⟩ := hB i hi hA
    obtain ⟨j, j1, j2⟩ := HL.2.2.2 i f1 hA
    have e := (hg1.1 j j1).2
    have f7 := hg1s j j1
    have f8 := hsw j j1
    rw [j2] at e f7 f8
    refine ⟨cn_of _, rfl, ?_⟩
    rw [e, cn_I ⟨by omega, by omega⟩]
    omega
  have hperm : ∀ F : Nat → Int, sq (fun j => F (L j)) c = ss (qb q b t v) F 44 := fun F => perm c (qb q b t v) (fun j hj => ⟨by have := (HL.2.1 j hj).1; omega, qb_t.mpr (HL.2.1 j hj).2⟩) (ql_inj HL) (fun i hi hA => HL.2.2.2 i (hB i hi (qb_t.mp hA)).1 (qb_t.mp hA))
  have hFL : ∀ j, j < c → sw q (L j) - (qq.1 13 29 (L j)).toInt = sw q (L j) - g1 j := by
    intro j hj
    have f7 := hg1s j hj
    have f8 := hsw j hj
    rw [(hg1.1 j hj).2, cn_I ⟨by omega, by omega⟩]
  have hall : ss (qb q b t v) (fun i => sw q i - (qq.1 13 29 i).toInt) 44 = op := by
    rw [← hperm, ← hOP]
    exact sq_c c fun j hj => hFL j hj
  have h61 := so61 (q' := qq) (F := fun i => sw q i - (qq.1 13 29 i).toInt) (r := cn (rest - G0)) hB hq1 (fun i hi hA => by
    rw [(hFi i hi hA).1, cnsub, ← (hFi i hi hA).1]) 44 0 FU rfl (by decide)
  rw [hall] at h61
  have ss0 : ss (qb q b t v) (fun i => sw q i - (qq.1 13 29 i).toInt) 0 = 0 := rfl
  rw [ss0, z0] at h61
  obtain ⟨q2, n1, n2, n3, n4, n5⟩ := so116 (q0 := qq) (F := fun i => sw q i - (qq.1 13 29 i).toInt) (G := fun i => (qq.1 13 29 i).toInt) (all := op) (whole := rest - G0) hB hq1 hFi hop0 hop2 hwh (by omega) (rest - G0) 44 0 FU qq rfl (by decide) hq1 (fun _ _ => rfl) (fun s hs => absurd hs (by omega))
  have ss1 : ss (qb q b t v) (fun s => mr op (rest - G0) (sw q s - (qq.1 13 29 s).toInt)) 0 = 0 := rfl
  rw [ss1, z0, Int.sub_zero] at n4 n5
  have hmrL : ss (qb q b t v) (fun s => mr op (rest - G0) (sw q s - (qq.1 13 29 s).toInt)) 44 = sq (fun j => mr op (rest - G0) (sw q (L j) - g1 j)) c := by
    rw [← hperm]
    exact sq_c c fun j hj => by rw [hFL j hj]
  rw [hmrL] at n4 n5
  have gl1 := g_least q' (cn top) (cn (sw q (L 0)))
  have gl2 := g_least q' (cn (min top (sw q (L 0)))) (cn rest)
  have eQ : v12_sharesOut q' (cn b) t v (cn rest) = v12_sharesOut_207 FU q2 (cn b) t v (cn (rest - G0 - sq (fun j => mr op (rest - G0) (sw q (L j) - g1 j)) c)) (cn op) (cn (rest - G0)) := by
    unfold v12_sharesOut bv12_sharesOut
    simp only [hnx.2, cntk (i := L 0) (by omega), cntk (i := b) (by omega), e6, e3, m3, m4, hqq, eqq, cnsub, h61.1, n4]
  have gQ : g12_sharesOut_207 FU q2 (cn b) t v (cn (rest - G0 - sq (fun j => mr op (rest - G0) (sw q (L j) - g1 j)) c)) (cn op) (cn (rest - G0)) → g12_sharesOut q' (cn b) t v (cn rest) := by
    intro h
    unfold g12_sharesOut bg12_sharesOut
    simp only [hnx.2, cntk (i := L 0) (by omega), cntk (i := b) (by omega), e6, e3, m3, m4, hqq, eqq, cnsub]
    exact ⟨hnx.1, hbi, gs _, gl1, gl2, hiL, hiL, h61.2 (n5 h)⟩
  have n3' : ∀ K s, ¬ K = 29 → q2.1 13 K s = q'.1 13 K s := fun K s h => (n3 K s h).trans (by
    rw [← hqq]
    exact u3_i h)
  have hq2g : ∀ j, j < c → q2.1 13 29 (L j) = cn (g1 j + mr op (rest - G0) (sw q (L j) - g1 j)) := by
    intro j hj
    rw [n2 (L j) (by have := (HL.2.1 j hj).1; omega), if_pos (qb_t.mpr (HL.2.1 j hj).2)]
    have f7 := hg1s j hj
    have f8 := hsw j hj
    rw [(hg1.1 j hj).2, cn_I ⟨by omega, by omega⟩]
  have hq2o : ∀ i, i < 44 → (∀ j, j < c → ¬ L j = i) → q2.1 13 29 i = cn 0 := by
    intro i hi h
    rw [n2 i hi, if_neg]
    · exact hg1.2 i hi h
    · intro hA
      obtain ⟨j, j1, j2⟩ := HL.2.2.2 i (hB i hi (qb_t.mp hA)).1 (qb_t.mp hA)
      exact h j j1 j2
  by_cases hopz : op = 0
  · -- nothing is shown yet
    have hy0 : ∀ j, j < c → g1 j = sw q (L j) := sq_all c (fun j hj => (hg1s j hj).2) (by omega)
    have hmr0 : ∀ j, j < c → mr op (rest - G0) (sw q (L j) - g1 j) = 0 := by
      intro j hj
      unfold mr
      rw [hy0 j hj]
      split
      · omega
      · first
          | rfl
          | exact if_pos hopz
    have hsum0 : sq (fun j => mr op (rest - G0) (sw q (L j) - g1 j)) c = 0 := by
      rw [sq_c (G := fun _ => 0) c hmr0, sq_z]
    have hmin : min (rest - G0) op = 0 := by omega
    have h00 : ¬ (0 : Int32) < cn 0 := by decide
    have e72 : v8_giveShares_72 FU pp (cn c) (cn op) (cn (min (rest - G0) op)) (cn (min (rest - G0) op)) (cn 0) = pp ∧ g8_giveShares_72 FU pp (cn c) (cn op) (cn (min (rest - G0) op)) (cn (min (rest - G0) op)) (cn 0) := by
      rw [hmin, hopz]
      exact gs72_F
    have e207 : v12_sharesOut_207 FU q2 (cn b) t v (cn (rest - G0 - sq (fun j => mr op (rest - G0) (sw q (L j) - g1 j)) c)) (cn op) (cn (rest - G0)) = q2 ∧ g12_sharesOut_207 FU q2 (cn b) t v (cn (rest - G0 - sq (fun j => mr op (rest - G0) (sw q (L j) - g1 j)) c)) (cn op) (cn (rest - G0)) := by
      rw [hsum0, Int.sub_zero]
      refine so207_F ?_
      rw [zcn, cnlt ⟨by decide, by decide⟩ ⟨by omega, by omega⟩, cnlt ⟨by omega, by omega⟩ ⟨by omega, by omega⟩]
      omega
    rw [eC, eQ, e72.1, e207.1]
    refine ⟨⟨gC e72.2, gQ e207.2⟩, hp1, n1, g1, ⟨fun j hj => ⟨(hg1.1 j hj).1, ?_⟩, hq2o⟩, hg1s, by omega, ?_, n3'⟩
    · rw [hq2g j hj, hmr0 j hj, Int.add_zero]
    · rw [hsq1]
      omega
  · -- parts
    have hop3 : 0 < op := by omega
    generalize hAL : min (rest - G0) op = al
    have hal : 0 ≤ al ∧ al ≤ rest - G0 ∧ al ≤ op ∧ (rest - G0 ≤ op → al = rest - G0) ∧ (op < rest - G0 → al = op) := by omega
    have hmr : ∀ j, j < c → mr op (rest - G0) (sw q (L j) - g1 j) = pt al op (sw q (L j) - g1 j) := by
      intro j hj
      have f7 := hg1s j hj
      unfold mr
      by_cases h : op < rest - G0
      · rw [if_pos h, hal.2.2.2.2 h]
        unfold pt
        rw [Int.mul_tdiv_cancel_left _ hopz]
      · rw [if_neg h, if_neg hopz, hal.2.2.2.1 (by omega)]
    obtain ⟨p2, u1, u2, u3', u4⟩ := gs72 (pg := pg) (L := L) (y := fun j => sw q (L j) - g1 j) (g := g1) (all := al) (op := op) (c := c) (fun j hj => ⟨(hP j hj).1, by
      rw [(hP j hj).2]
      exact congrArg cn (by omega)⟩) hc (fun j hj => by have := hsw j hj; have := hg1s j hj; omega) hal.1 (by omega) hal.2.2.1 hop3 hop2 c 0 FU pp al (by omega) (by unfold FU; omega) hp1 (fun k hk => absurd hk (by omega)) (fun k _ hk => (hg1.1 k hk).1)
    rw [hAL] at eC gC
    have hsp : sm (fun k => pt al op (sw q (L k) - g1 k)) 0 c = sq (fun k => pt al op (sw q (L k) - g1 k)) c := by
      rw [sm_sq, Nat.zero_add]
      show _ - (0 : Int) = _
      omega
    rw [hsp, z0] at u3' u4
    have hptle := pt_le (y := fun j => sw q (L j) - g1 j) (c := c) hal.1 hal.2.2.1 hop3 (fun j hj => by have := hg1s j hj; omega) hOP
    have hpts : ∀ k, k < c → 0 ≤ pt al op (sw q (L k) - g1 k) ∧ pt al op (sw q (L k) - g1 k) ≤ sw q (L k) - g1 k := by
      intro k hk
      have := pt_rng (all := al) (op := op) (y := sw q (L k) - g1 k) hal.1 hal.2.2.1 hop3 (by have := hg1s k hk; omega)
      exact ⟨this.1, this.2.1⟩
    have hg2 : GR p2 q2 c L (fun k => g1 k + pt al op (sw q (L k) - g1 k)) := ⟨fun j hj => ⟨u2 j hj, by rw [hq2g j hj, hmr j hj]⟩, hq2o⟩
    have hg2s : ∀ k, k < c → 0 ≤ g1 k + pt al op (sw q (L k) - g1 k) ∧ g1 k + pt al op (sw q (L k) - g1 k) ≤ sw q (L k) := by
      intro k hk
      have := hpts k hk
      have := hg1s k hk
      omega
    have hsum2 : sq (fun k => g1 k + pt al op (sw q (L k) - g1 k)) c = G0 + sq (fun k => pt al op (sw q (L k) - g1 k)) c := by rw [sq_add, hsq1]
    have hmsum : sq (fun j => mr op (rest - G0) (sw q (L j) - g1 j)) c = sq (fun k => pt al op (sw q (L k) - g1 k)) c := sq_c c hmr
    have hp0' : 0 ≤ sq (fun k => pt al op (sw q (L k) - g1 k)) c := (sq_rng (m := 50) (by decide) c (fun j hj => by have := hpts j hj; have := hsw j hj; have := hg1s j hj; omega)).1
    rw [hmsum] at eQ gQ
    by_cases hbig : op < rest - G0
    · -- all that is shown
      have hal2 := hal.2.2.2.2 hbig
      have hfull : ∀ k, k < c → pt al op (sw q (L k) - g1 k) = sw q (L k) - g1 k := by
        intro k hk
        rw [hal2]
        unfold pt
        rw [Int.mul_tdiv_cancel_left _ hopz]
      have hsf : sq (fun k => pt al op (sw q (L k) - g1 k)) c = op := by rw [sq_c c hfull, hOP]
      have h00 : ¬ (0 : Int32) < cn 0 := by decide
      have e155 : v8_giveShares_155 FU p2 (cn c) (cn (al - sq (fun k => pt al op (sw q (L k) - g1 k)) c)) (cn 0) = p2 ∧ g8_giveShares_155 FU p2 (cn c) (cn (al - sq (fun k => pt al op (sw q (L k) - g1 k)) c)) (cn 0) := by
        rw [hsf, hal2, Int.sub_self]
        exact gs155_F
      have e207 : v12_sharesOut_207 FU q2 (cn b) t v (cn (rest - G0 - sq (fun k => pt al op (sw q (L k) - g1 k)) c)) (cn op) (cn (rest - G0)) = q2 ∧ g12_sharesOut_207 FU q2 (cn b) t v (cn (rest - G0 - sq (fun k => pt al op (sw q (L k) - g1 k)) c)) (cn op) (cn (rest - G0)) := by
        rw [hsf]
        refine so207_F (Or.inr ?_)
        rw [cnlt ⟨by omega, by omega⟩ ⟨by omega, by omega⟩]
        omega
      rw [eC, eQ, u3', e155.1, e207.1]
      refine ⟨⟨gC (u4 e155.2), gQ e207.2⟩, u1, n1, _, hg2, hg2s, by omega, by omega, n3'⟩
    · have hal2 := hal.2.2.2.1 (by omega)
      rw [← hal2] at eQ gQ
      obtain ⟨⟨w1, w2⟩, w3, w4, g3, w5, w6, w7, w8⟩ := rd_out (all := op) (whole := al) hP hB HL hop0 hop2 hal.1 hal.2.2.1 50 0 FU FU (fun k => g1 k + pt al op (sw q (L k) - g1 k)) p2 q2 (al - sq (fun k => pt al op (sw q (L k) - g1 k)) c) (by omega) (by omega) (by omega) (by decide) (by decide) u1 n1 hg2 hg2s (by omega)
      rw [z0] at w1 w3 w5
      rw [eC, eQ, u3']
      refine ⟨⟨gC (u4 w1), gQ w2⟩, w3, w4, g3, w5, w6, by omega, by omega, fun K s h => (w8 K s h).trans (n3' K s h)⟩
end Rounds
