/-! sharing out in order: what each gets, in the class by places, in the reference by orders -/
/-- the class's memory but for what is got -/
def PF (p p' : PM) : Prop := (∀ k, ¬ k = 13 → p'.1 k = p.1 k) ∧ (∀ i, ¬ i = 19 → p'.1 13 i = p.1 13 i) ∧ p'.2 = p.2
theorem pf_rf (p : PM) : PF p p := ⟨fun _ _ => rfl, fun _ _ => rfl, rfl⟩
theorem pf_w {p p' : PM} {s : Nat} {v : Int32} (H : PF p p') : PF p (pI p' 13 19 s v) := ⟨fun k h => by
    rw [← H.1 k h]
    funext i s'
    exact u3_k h, fun K h => by
    rw [← H.2.1 K h]
    funext s'
    exact u3_i h, H.2.2⟩
theorem pI_at {p : PM} {k i s : Nat} {v : Int32} : (pI p k i s v).1 k i s = v := u3_same
def up (g : Nat → Int) (j : Nat) (v : Int) : Nat → Int := fun k => if k = j then v else g k
def GR (p q : PM) (c : Nat) (L : Nat → Nat) (g : Nat → Int) : Prop := (∀ j, j < c → p.1 13 19 j = cn (g j) ∧ q.1 13 29 (L j) = cn (g j)) ∧ ∀ i, i < 44 → (∀ j, j < c → ¬ L j = i) → q.1 13 29 i = cn 0
theorem ql_inj {q : PM} {b n c : Nat} {t v : Int32} {sz : Bool} {L : Nat → Nat} (HL : QL q b t v sz n c L) : ∀ j k, j < c → k < c → L j = L k → j = k := by
  intro j k hj hk h
  rcases Nat.lt_trichotomy j k with h1 | h1 | h1
  · have := HL.2.2.1 j k h1 hk
    rw [h] at this
    omega
  · exact h1
  · have := HL.2.2.1 k j h1 hj
    rw [h] at this
    omega
theorem gr_w {p q : PM} {c j : Nat} {L : Nat → Nat} {g : Nat → Int} {v : Int} (hL : ∀ j k, j < c → k < c → L j = L k → j = k) (hj : j < c) (H : GR p q c L g) : GR (pI p 13 19 j (cn v)) (pI q 13 29 (L j) (cn v)) c L (up g j v) := by
  refine ⟨fun k hk => ?_, fun i hi h => ?_⟩
  · unfold up
    by_cases e : k = j
    · rw [e, if_pos rfl]
      exact ⟨pI_at, pI_at⟩
    · rw [if_neg e, pI_1, pI_1, u3_s e, u3_s (fun h => e (hL k j hk hj h))]
      exact H.1 k hk
  · rw [pI_1, u3_s (fun e => h j hj e.symm)]
    exact H.2 i hi h
def sm (g : Nat → Int) : Nat → Nat → Int
  | _, 0 => 0
  | j, d + 1 => g j + sm g (j + 1) d
theorem min_cn (p : PM) {a b : Int} (ha : rg a) (hb : rg b) : v14_min_7cf53 p (cn a) (cn b) = cn (min a b) := by
  unfold v14_min_7cf53 bv14_min_7cf53
  simp only [cnlt hb ha, cnlt ha hb]
  repeat' split
  all_goals exact congrArg cn (by omega)
theorem least_cn (q : PM) {a b : Int} (ha : rg a) (hb : rg b) : v12_least q (cn a) (cn b) = cn (min a b) := by
  unfold v12_least bv12_least
  simp only [cnlt ha hb]
  repeat' split
  all_goals exact congrArg cn (by omega)
section Ord
variable {q pg : PM} {b c : Nat} {t v : Int32} {L : Nat → Nat}
theorem od_turns (hP : ∀ j, j < c → pg.2.2 20 2 j = L j + 1 ∧ pg.1 10 (L j + 1) 11 = cn (sw q (L j))) (hB : QB q b t v) (HL : QL q b t v false 40 c L) : ∀ (d j n n' : Nat) (g : Nat → Int) (p' q' : PM) (left : Int), j + d = c → d < n → d < n' → PF pg p' → GF q q' → GR p' q' c L g → 0 ≤ left → left ≤ 50 → (g8_share_82 n p' (cn c) (cn left) (cn j) ∧ g12_sharesByTurns_14 n' q' (cn b) t v (cn left) (if j < c then cn (L j) else cn (-1))) ∧ ∃ g2 : Nat → Int, PF pg (v8_share_82 n p' (cn c) (cn left) (cn j)) ∧ GF q (v12_sharesByTurns_14 n' q' (cn b) t v (cn left) (if j < c then cn (L j) else cn (-1))) ∧ GR (v8_share_82 n p' (cn c) (cn left) (cn j)) (v12_sharesByTurns_14 n' q' (cn b) t v (cn left) (if j < c then cn (L j) else cn (-1))) c L g2 ∧ (∀ k, k < j → g2 k = g k) ∧ (∀ k, j ≤ k → k < c → 0 ≤ g2 k ∧ g2 k ≤ sw q (L k)) ∧ sm g2 j d ≤ left ∧ (j < c → 1 ≤ left → 1 ≤ g2 j) ∧ (∀ K i, ¬ K = 29 → (v12_sharesByTurns_14 n' q' (cn b) t v (cn left) (if j < c then cn (L j) else cn (-1))).1 13 K i = q'.1 13 K i) := by
  intro d
  induction d with
  | zero =>
    intro j n n' g p' q' left h1 h2 h3 hp hq hg l1 l2
    obtain ⟨m, rfl⟩ : ∃ m, n = m + 1 := ⟨n - 1, by omega⟩
    obtain ⟨m', rfl⟩ : ∃ m, n' = m + 1 := ⟨n' - 1, by omega⟩
    have e : j = c := by omega
    subst e
    have hc := HL.1
    simp only [eg8_share_82, ev8_share_82, bg8_share_82, bv8_share_82, eg12_sharesByTurns_14, ev12_sharesByTurns_14, bg12_sharesByTurns_14, bv12_sharesByTurns_14, if_neg (Nat.lt_irrefl j), if_pos cnm1, if_neg (lpf (i := j) (N := j) (Int.le_refl _) (by omega) (by omega))]
    exact ⟨⟨trivial, trivial⟩, g, hp, hq, hg, fun _ _ => rfl, fun k h9 h8 => absurd h9 (by omega), l1, fun h => absurd h (by omega), fun _ _ _ => trivial⟩
  | succ d ih =>
    intro j n n' g p' q' left h1 h2 h3 hp hq hg l1 l2
    obtain ⟨m, rfl⟩ : ∃ m, n = m + 1 := ⟨n - 1, by omega⟩
    obtain ⟨m', rfl⟩ : ∃ m, n' = m + 1 := ⟨n' - 1, by omega⟩
    have hc := HL.1
    have hj : j < c := by omega
    have hlj := HL.2.1 j hj
    obtain ⟨d1, d2, d3, d4, d5, d6⟩ := hB (L j) (by omega) hlj.2
    have hi := cninb (i := j) (n := 40) (by omega) (by omega)
    have hiL := cninb (i := L j) (n := 44) (by omega) (by omega)
    have hz : ¬ L j + 1 = 0 := by omega
    have e1 : p'.2.2 20 2 j = L j + 1 := by rw [hp.2.2]; exact (hP j hj).1
    have e2 : p'.1 10 (L j + 1) 11 = cn (sw q (L j)) := by rw [hp.1 10 (by decide)]; exact (hP j hj).2
    have e3 : v12_showsNow q' (cn (L j)) = cn (sw q (L j)) := by rw [gf_shows hq (by omega)]; exact d4
    have gs := fun q => g_showsNow (q := q) (i := L j) (by omega)
    have gm := g_min p' (cn left) (cn (sw q (L j)))
    have gl := g_least q' (cn left) (cn (sw q (L j)))
    have f1 : v14_min_7cf53 p' (cn left) (cn (sw q (L j))) = cn (min left (sw q (L j))) := min_cn _ ⟨by omega, by omega⟩ ⟨by omega, by omega⟩
    have f2 : v12_least q' (cn left) (cn (sw q (L j))) = cn (min left (sw q (L j))) := least_cn _ ⟨by omega, by omega⟩ ⟨by omega, by omega⟩
    generalize hm : min left (sw q (L j)) = mm at f1 f2
    have hm1 : 0 ≤ mm ∧ mm ≤ left ∧ mm ≤ sw q (L j) ∧ (1 ≤ left → 1 ≤ mm) := by omega
    have hq2 : GF q (pI q' 13 29 (L j) (cn mm)) := gf_w hq
    have hnx := bt_next (q := pI q' 13 29 (L j) (cn mm)) (j := j + 1) (gf_qb hq2 hB) (gf_ql hq2 (Nat.le_refl _) HL) (Or.inr ⟨j, rfl, by omega, rfl⟩)
    obtain ⟨⟨k1, k2⟩, g2, k3, k4, k5, k6, k7, k8, k9, k10⟩ := ih (j + 1) m m' (up g j mm) (pI p' 13 19 j (cn mm)) (pI q' 13 29 (L j) (cn mm)) (left - mm) (by omega) (by omega) (by omega) (pf_w hp) hq2 (gr_w (ql_inj HL) hj hg) (by omega) (by omega)
    rw [← hnx.2] at k2 k4 k5 k10
    simp only [eg8_share_82, ev8_share_82, bg8_share_82, bv8_share_82, eg12_sharesByTurns_14, ev12_sharesByTurns_14, bg12_sharesByTurns_14, bv12_sharesByTurns_14, if_pos hj, if_neg (cnge (j := L j) (by omega)), if_pos (lpt (i := j) (N := c) (by omega) (by omega)), cntk (i := j) (by omega), cntk (i := L j) (by omega), e1, e2, e3, f1, f2, pI_at, cnsub, cnsucc]
    refine ⟨⟨⟨hi, hz, gm, hi, hi, k1⟩, gs _, gl, hiL, hiL, hiL, hnx.1, k2⟩, g2, k3, k4, k5, fun k hk => ?_, fun k h9 h8 => ?_, ?_, fun _ h9 => ?_, fun K i hK => ?_⟩
    · rw [k6 k (by omega)]
      exact if_neg (by omega)
    · by_cases e : k = j
      · rw [e, k6 j (by omega), show up g j mm j = mm from if_pos rfl]
        omega
      · exact k7 k (by omega) h8
    · show g2 j + sm g2 (j + 1) d ≤ left
      rw [k6 j (by omega), show up g j mm j = mm from if_pos rfl]
      omega
    · rw [k6 j (by omega), show up g j mm j = mm from if_pos rfl]
      omega
    · rw [k10 K i hK]
      exact u3_i hK
theorem od_size (hP : ∀ j, j < c → pg.2.2 20 2 j = L j + 1 ∧ pg.1 10 (L j + 1) 11 = cn (sw q (L j))) (hB : QB q b t v) (HL : QL q b t v true 40 c L) : ∀ (d j n n' : Nat) (g : Nat → Int) (p' q' : PM) (left : Int), j + d = c → d < n → d < n' → PF pg p' → GF q q' → GR p' q' c L g → 0 ≤ left → left ≤ 50 → (g8_share_82 n p' (cn c) (cn left) (cn j) ∧ g12_sharesBySize_17 n' q' (cn b) t v (cn left) (if j < c then cn (L j) else cn (-1))) ∧ ∃ g2 : Nat → Int, PF pg (v8_share_82 n p' (cn c) (cn left) (cn j)) ∧ GF q (v12_sharesBySize_17 n' q' (cn b) t v (cn left) (if j < c then cn (L j) else cn (-1))) ∧ GR (v8_share_82 n p' (cn c) (cn left) (cn j)) (v12_sharesBySize_17 n' q' (cn b) t v (cn left) (if j < c then cn (L j) else cn (-1))) c L g2 ∧ (∀ k, k < j → g2 k = g k) ∧ (∀ k, j ≤ k → k < c → 0 ≤ g2 k ∧ g2 k ≤ sw q (L k)) ∧ sm g2 j d ≤ left ∧ (j < c → 1 ≤ left → 1 ≤ g2 j) ∧ (∀ K i, ¬ K = 29 → (v12_sharesBySize_17 n' q' (cn b) t v (cn left) (if j < c then cn (L j) else cn (-1))).1 13 K i = q'.1 13 K i) := by
  intro d
  induction d with
  | zero =>
    intro j n n' g p' q' left h1 h2 h3 hp hq hg l1 l2
    obtain ⟨m, rfl⟩ : ∃ m, n = m + 1 := ⟨n - 1, by omega⟩
    obtain ⟨m', rfl⟩ : ∃ m, n' = m + 1 := ⟨n' - 1, by omega⟩
    have e : j = c := by omega
    subst e
    have hc := HL.1
    simp only [eg8_share_82, ev8_share_82, bg8_share_82, bv8_share_82, eg12_sharesBySize_17, ev12_sharesBySize_17, bg12_sharesBySize_17, bv12_sharesBySize_17, if_neg (Nat.lt_irrefl j), if_pos cnm1, if_neg (lpf (i := j) (N := j) (Int.le_refl _) (by omega) (by omega))]
    exact ⟨⟨trivial, trivial⟩, g, hp, hq, hg, fun _ _ => rfl, fun k h9 h8 => absurd h9 (by omega), l1, fun h => absurd h (by omega), fun _ _ _ => trivial⟩
  | succ d ih =>
    intro j n n' g p' q' left h1 h2 h3 hp hq hg l1 l2
    obtain ⟨m, rfl⟩ : ∃ m, n = m + 1 := ⟨n - 1, by omega⟩
    obtain ⟨m', rfl⟩ : ∃ m, n' = m + 1 := ⟨n' - 1, by omega⟩
    have hc := HL.1
    have hj : j < c := by omega
    have hlj := HL.2.1 j hj
    obtain ⟨d1, d2, d3, d4, d5, d6⟩ := hB (L j) (by omega) hlj.2
    have hi := cninb (i := j) (n := 40) (by omega) (by omega)
    have hiL := cninb (i := L j) (n := 44) (by omega) (by omega)
    have hz : ¬ L j + 1 = 0 := by omega
    have e1 : p'.2.2 20 2 j = L j + 1 := by rw [hp.2.2]; exact (hP j hj).1
    have e2 : p'.1 10 (L j + 1) 11 = cn (sw q (L j)) := by rw [hp.1 10 (by decide)]; exact (hP j hj).2
    have e3 : v12_showsNow q' (cn (L j)) = cn (sw q (L j)) := by rw [gf_shows hq (by omega)]; exact d4
    have gs := fun q => g_showsNow (q := q) (i := L j) (by omega)
    have gm := g_min p' (cn left) (cn (sw q (L j)))
    have gl := g_least q' (cn left) (cn (sw q (L j)))
    have f1 : v14_min_7cf53 p' (cn left) (cn (sw q (L j))) = cn (min left (sw q (L j))) := min_cn _ ⟨by omega, by omega⟩ ⟨by omega, by omega⟩
    have f2 : v12_least q' (cn left) (cn (sw q (L j))) = cn (min left (sw q (L j))) := least_cn _ ⟨by omega, by omega⟩ ⟨by omega, by omega⟩
    generalize hm : min left (sw q (L j)) = mm at f1 f2
    have hm1 : 0 ≤ mm ∧ mm ≤ left ∧ mm ≤ sw q (L j) ∧ (1 ≤ left → 1 ≤ mm) := by omega
    have hq2 : GF q (pI q' 13 29 (L j) (cn mm)) := gf_w hq
    have hnx := ns_next (q := pI q' 13 29 (L j) (cn mm)) (j := j + 1) (gf_qb hq2 hB) (gf_ql hq2 (Nat.le_refl _) HL) (Or.inr ⟨j, rfl, by omega, rfl, rfl⟩)
    obtain ⟨⟨k1, k2⟩, g2, k3, k4, k5, k6, k7, k8, k9, k10⟩ := ih (j + 1) m m' (up g j mm) (pI p' 13 19 j (cn mm)) (pI q' 13 29 (L j) (cn mm)) (left - mm) (by omega) (by omega) (by omega) (pf_w hp) hq2 (gr_w (ql_inj HL) hj hg) (by omega) (by omega)
    rw [← hnx.2] at k2 k4 k5 k10
    simp only [eg8_share_82, ev8_share_82, bg8_share_82, bv8_share_82, eg12_sharesBySize_17, ev12_sharesBySize_17, bg12_sharesBySize_17, bv12_sharesBySize_17, if_pos hj, if_neg (cnge (j := L j) (by omega)), if_pos (lpt (i := j) (N := c) (by omega) (by omega)), cntk (i := j) (by omega), cntk (i := L j) (by omega), e1, e2, e3, f1, f2, pI_at, cnsub, cnsucc]
    refine ⟨⟨⟨hi, hz, gm, hi, hi, k1⟩, gs _, gl, hiL, hiL, gs _, hiL, hnx.1, k2⟩, g2, k3, k4, k5, fun k hk => ?_, fun k h9 h8 => ?_, ?_, fun _ h9 => ?_, fun K i hK => ?_⟩
    · rw [k6 k (by omega)]
      exact if_neg (by omega)
    · by_cases e : k = j
      · rw [e, k6 j (by omega), show up g j mm j = mm from if_pos rfl]
        omega
      · exact k7 k (by omega) h8
    · show g2 j + sm g2 (j + 1) d ≤ left
      rw [k6 j (by omega), show up g j mm j = mm from if_pos rfl]
      omega
    · rw [k6 j (by omega), show up g j mm j = mm from if_pos rfl]
      omega
    · rw [k10 K i hK]
      exact u3_i hK
/-- the class puts 0 everywhere first; then it shares by the rule -/
noncomputable def shE (p : PM) (v1 : Nat) (r c : Int32) : PM := if p.1 1 v1 9 = cn 1 then v8_giveShares (v8_giveTop p (p.1 1 v1 10) r c).2 (r - (v8_giveTop p (p.1 1 v1 10) r c).1) c else v8_share_82 FU p c r (cn 0)
noncomputable def shG (p : PM) (v1 : Nat) (r c : Int32) : Prop := ¬ v1 = 0 ∧ if p.1 1 v1 9 = cn 1 then (¬ v1 = 0 ∧ g8_giveTop p (p.1 1 v1 10) r c ∧ g8_giveShares (v8_giveTop p (p.1 1 v1 10) r c).2 (r - (v8_giveTop p (p.1 1 v1 10) r c).1) c) else g8_share_82 FU p c r (cn 0)
theorem sh25 (hc : c ≤ 40) {v1 : Nat} {r : Int32} : ∀ (d j n : Nat) (p' : PM), j + d = c → d < n → PF pg p' → (∀ k, k < j → p'.1 13 19 k = cn 0) → ∃ p2 : PM, PF pg p2 ∧ (∀ k, k < c → p2.1 13 19 k = cn 0) ∧ v8_share_25 n p' v1 r (cn c) r (cn j) = shE p2 v1 r (cn c) ∧ (shG p2 v1 r (cn c) → g8_share_25 n p' v1 r (cn c) r (cn j)) := by
  intro d
  induction d with
  | zero =>
    intro j n p' h1 h2 hp h0
    obtain ⟨m, rfl⟩ : ∃ m, n = m + 1 := ⟨n - 1, by omega⟩
    have e : j = c := by omega
    subst e
    refine ⟨p', hp, h0, ?_⟩
    simp only [eg8_share_25, ev8_share_25, bg8_share_25, bv8_share_25, if_neg (lpf (i := j) (N := j) (Int.le_refl _) (by omega) (by omega))]
    unfold shE shG
    refine ⟨rfl, fun h => ⟨h.1, ?_⟩⟩
    have h9 := h.2
    split at h9
    · rename_i e9
      rw [if_pos e9]
      exact ⟨h9.1, h9.2.1, h9.2.2, trivial⟩
    · rename_i e9
      rw [if_neg e9]
      exact h9
  | succ d ih =>
    intro j n p' h1 h2 hp h0
    obtain ⟨m, rfl⟩ : ∃ m, n = m + 1 := ⟨n - 1, by omega⟩
    have hi := cninb (i := j) (n := 40) (by omega) (by omega)
    obtain ⟨p2, k1, k2, k3, k4⟩ := ih (j + 1) m (pI p' 13 19 j (cn 0)) (by omega) (by omega) (pf_w hp) (fun k hk => by
      by_cases e : k = j
      · rw [e]
        exact pI_at
      · rw [pI_1, u3_s e]
        exact h0 k (by omega))
    refine ⟨p2, k1, k2, ?_⟩
    simp only [eg8_share_25, ev8_share_25, bg8_share_25, bv8_share_25, if_pos (lpt (i := j) (N := c) (by omega) (by omega)), cntk (i := j) (by omega), cnsucc]
    exact ⟨k3, fun h => ⟨hi, k4 h⟩⟩
theorem share_e (p : PM) (hc : c ≤ 40) {v1 : Nat} {r : Int32} : ∃ p2 : PM, PF p p2 ∧ (∀ k, k < c → p2.1 13 19 k = cn 0) ∧ v8_share p v1 r (cn c) = shE p2 v1 r (cn c) ∧ (shG p2 v1 r (cn c) → g8_share p v1 r (cn c)) := by
  obtain ⟨p2, k1, k2, k3, k4⟩ := sh25 (pg := p) (c := c) hc (v1 := v1) (r := r) c 0 FU p (by omega) (by unfold FU; omega) (pf_rf p) (fun k hk => absurd hk (by omega))
  refine ⟨p2, k1, k2, ?_⟩
  have e1 : v14_min_7cf53 p (cn 40) (cn 40) = cn 40 := by rw [min_cn p (by decide) (by decide)]; rfl
  have e2 : v14_min_7cf53 p (cn c) (cn 40) = cn c := by
    rw [min_cn p ⟨by omega, by omega⟩ (by decide)]
    exact congrArg cn (by omega)
  have g1 := g_min p (cn 40) (cn 40)
  have g2 := g_min p (cn c) (cn 40)
  unfold v8_share bv8_share g8_share bg8_share
  simp only [e1, e2]
  exact ⟨k3, fun h => ⟨g1, g2, k4 h⟩⟩
end Ord
