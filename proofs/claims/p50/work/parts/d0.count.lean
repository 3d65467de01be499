/-! quotes are counted: the reference -/
def PQ (q : PM) (a b : Nat) (t : Int32) (j : Nat) : Prop := ¬ q.1 15 3 j = 0 ∧ q.1 13 19 j = cn 4 ∧ q.1 13 15 j = cn a ∧ q.1 13 16 j = cn b ∧ q.1 15 4 j = t
theorem hq_loop {q : PM} {a b : Nat} {t : Int32} : ∀ (d i n : Nat) (acc : Int32), i + d = 44 → d < n → ((acc = cn 1 ∧ ∃ j, j < i ∧ PQ q a b t j) ∨ (acc = cn 0 ∧ ∀ j, j < i → ¬ PQ q a b t j)) → g12_hasQuote_6 q n (cn a) (cn b) t acc (cn i) ∧ ((v12_hasQuote_6 q n (cn a) (cn b) t acc (cn i) = cn 1 ∧ ∃ j, j < 44 ∧ PQ q a b t j) ∨ (v12_hasQuote_6 q n (cn a) (cn b) t acc (cn i) = cn 0 ∧ ∀ j, j < 44 → ¬ PQ q a b t j)) := by
  intro d
  induction d with
  | zero =>
    intro i n acc h1 h2 hI
    obtain ⟨m, rfl⟩ : ∃ m, n = m + 1 := ⟨n - 1, by omega⟩
    have e : i = 44 := by omega
    subst e
    have hn := lpf (i := 44) (N := 44) (by omega) (by omega) (by omega)
    rw [ev12_hasQuote_6, eg12_hasQuote_6]
    unfold bv12_hasQuote_6 bg12_hasQuote_6
    rw [if_neg hn, if_neg hn]
    refine ⟨⟨?_, trivial⟩, hI⟩
    rcases hI with ⟨h, -⟩ | ⟨h, -⟩
    · rw [h]
      exact b1
    · rw [h]
      exact b0
  | succ d ih =>
    intro i n acc h1 h2 hI
    obtain ⟨m, rfl⟩ : ∃ m, n = m + 1 := ⟨n - 1, by omega⟩
    have hi := cninb (i := i) (n := 44) (by omega) (by omega)
    have l44 : cn (i : Int) < cn 44 := lpt (by omega) (by omega)
    have up : ∀ j, j < i + 1 → j < i ∨ j = i := fun j h => by omega
    rcases hI with ⟨ha, j, j1, j2⟩ | ⟨ha, hno⟩
    · obtain ⟨k1, k2⟩ := ih (i + 1) m (cn 1) (by omega) (by omega) (Or.inl ⟨rfl, j, by omega, j2⟩)
      rw [ha, ev12_hasQuote_6, eg12_hasQuote_6]
      unfold bv12_hasQuote_6 bg12_hasQuote_6
      simp only [if_pos l44, if_neg cn01, cnsucc]
      exact ⟨k1, k2⟩
    · have hyes : PQ q a b t i → g12_hasQuote_6 q m (cn a) (cn b) t (cn 1) (cn (i + 1 : Nat)) ∧ ((v12_hasQuote_6 q m (cn a) (cn b) t (cn 1) (cn (i + 1 : Nat)) = cn 1 ∧ ∃ j, j < 44 ∧ PQ q a b t j) ∨ (v12_hasQuote_6 q m (cn a) (cn b) t (cn 1) (cn (i + 1 : Nat)) = cn 0 ∧ ∀ j, j < 44 → ¬ PQ q a b t j)) := fun h => ih (i + 1) m (cn 1) (by omega) (by omega) (Or.inl ⟨rfl, i, by omega, h⟩)
      have hnot : ¬ PQ q a b t i → g12_hasQuote_6 q m (cn a) (cn b) t (cn 0) (cn (i + 1 : Nat)) ∧ ((v12_hasQuote_6 q m (cn a) (cn b) t (cn 0) (cn (i + 1 : Nat)) = cn 1 ∧ ∃ j, j < 44 ∧ PQ q a b t j) ∨ (v12_hasQuote_6 q m (cn a) (cn b) t (cn 0) (cn (i + 1 : Nat)) = cn 0 ∧ ∀ j, j < 44 → ¬ PQ q a b t j)) := fun h => ih (i + 1) m (cn 0) (by omega) (by omega) (Or.inr ⟨rfl, fun j hj => by
        rcases up j hj with e | e
        · exact hno j e
        · rw [e]
          exact h⟩)
      rw [ha, ev12_hasQuote_6, eg12_hasQuote_6]
      unfold bv12_hasQuote_6 bg12_hasQuote_6
      simp only [if_pos l44, if_pos cn0e', cntk (i := i) (by omega), cnsucc]
      by_cases e1 : q.1 15 3 i = 0
      · obtain ⟨k1, k2⟩ := hnot fun h => h.1 e1
        simp only [if_pos e1]
        exact ⟨⟨hi, k1⟩, k2⟩
      · simp only [if_neg e1]
        by_cases e2 : q.1 13 19 i = cn 4
        · simp only [if_pos e2]
          by_cases e3 : q.1 13 15 i = cn a
          · simp only [if_pos e3]
            by_cases e4 : q.1 13 16 i = cn b
            · simp only [if_pos e4]
              by_cases e5 : q.1 15 4 i = t
              · obtain ⟨k1, k2⟩ := hyes ⟨e1, e2, e3, e4, e5⟩
                simp only [if_pos e5]
                exact ⟨⟨hi, hi, hi, hi, hi, k1⟩, k2⟩
              · obtain ⟨k1, k2⟩ := hnot fun h => e5 h.2.2.2.2
                simp only [if_neg e5]
                exact ⟨⟨hi, hi, hi, hi, hi, k1⟩, k2⟩
            · obtain ⟨k1, k2⟩ := hnot fun h => e4 h.2.2.2.1
              simp only [if_neg e4]
              exact ⟨⟨hi, hi, hi, hi, k1⟩, k2⟩
          · obtain ⟨k1, k2⟩ := hnot fun h => e3 h.2.2.1
            simp only [if_neg e3]
            exact ⟨⟨hi, hi, hi, k1⟩, k2⟩
        · obtain ⟨k1, k2⟩ := hnot fun h => e2 h.2.1
          simp only [if_neg e2]
          exact ⟨⟨hi, hi, k1⟩, k2⟩
theorem hq_e (q : PM) (a b : Nat) (t : Int32) : g12_hasQuote q (cn a) (cn b) t ∧ (¬ v12_hasQuote q (cn a) (cn b) t = 0) = ∃ j, j < 44 ∧ PQ q a b t j := by
  obtain ⟨F, hF, hF2⟩ : ∃ F, FU = F ∧ 100 < F := ⟨FU, rfl, by decide⟩
  obtain ⟨k1, k2⟩ := hq_loop (q := q) (a := a) (b := b) (t := t) 44 0 F (cn 0) rfl (by omega) (Or.inr ⟨rfl, fun j hj => by omega⟩)
  have z0 : cn ((0 : Nat) : Int) = cn 0 := rfl
  rw [z0] at k1 k2
  unfold g12_hasQuote bg12_hasQuote v12_hasQuote bv12_hasQuote
  rw [hF]
  refine ⟨k1, ?_⟩
  rcases k2 with ⟨e, h⟩ | ⟨e, h⟩
  · rw [e]
    exact propext ⟨fun _ => h, fun _ => cn01⟩
  · rw [e]
    exact propext ⟨fun n => absurd rfl n, fun ⟨j, j1, j2⟩ => absurd j2 (h j j1)⟩
/-- one for a quote with both sides in an open book -/
noncomputable def qc (q : PM) (a b : Nat) : Nat := if ¬ v12_isOpen q (cn b) = 0 ∧ ¬ v12_hasQuote q (cn a) (cn b) (cn 1) = 0 ∧ ¬ v12_hasQuote q (cn a) (cn b) (cn 0) = 0 then 1 else 0
noncomputable def QCf (q : PM) (a : Nat) : Nat → Nat → Nat
  | 0, _ => 0
  | d + 1, b => qc q a b + QCf q a d (b + 1)
theorem qc_c {q q' : PM} (h13 : ∀ K, ¬ K = 5 → q'.1 13 K = q.1 13 K) (h15 : q'.1 15 = q.1 15) (a b : Nat) : qc q' a b = qc q a b := by
  have e : ∀ t, (¬ v12_hasQuote q' (cn a) (cn b) t = 0) = (¬ v12_hasQuote q (cn a) (cn b) t = 0) := fun t => by
    rw [(hq_e q' a b t).2, (hq_e q a b t).2]
    unfold PQ
    rw [h15, h13 19 (by decide), h13 15 (by decide), h13 16 (by decide)]
  unfold qc
  simp only [e, open_c (h13 12 (by decide))]
theorem QCf_c {q q' : PM} (h13 : ∀ K, ¬ K = 5 → q'.1 13 K = q.1 13 K) (h15 : q'.1 15 = q.1 15) (a : Nat) : ∀ d b, QCf q' a d b = QCf q a d b
  | 0, _ => rfl
  | d + 1, b => by
    show qc q' a b + QCf q' a d (b + 1) = qc q a b + QCf q a d (b + 1)
    rw [qc_c h13 h15 a b, QCf_c h13 h15 a d (b + 1)]
section Cnt
variable {kv2 : PM → Int32 → Int32 → PM} {kg2 : PM → Int32 → Int32 → Prop} {v1 v2 : Int32}
theorem p28_loop {kv19 : PM → Int32 → Int32 → Int32 → PM} {kg19 : PM → Int32 → Int32 → Int32 → Prop} {a : Nat} (ha : a < 8) : ∀ (d b n : Nat) (q : PM), b + d = 6 → d < n → v12_passes_28 kv2 kv19 n q v1 v2 (cn a) (cn b) = kv19 (pI q 13 5 a (q.1 13 5 a + cn (QCf q a d b : Nat))) v1 v2 (cn (a + 1 : Nat)) ∧ (kg19 (pI q 13 5 a (q.1 13 5 a + cn (QCf q a d b : Nat))) v1 v2 (cn (a + 1 : Nat)) → g12_passes_28 kg2 kg19 n q v1 v2 (cn a) (cn b)) := by
  intro d
  induction d with
  | zero =>
    intro b n q h1 h2
    obtain ⟨m, rfl⟩ : ∃ m, n = m + 1 := ⟨n - 1, by omega⟩
    have e : b = 6 := by omega
    subst e
    have hn := lpf (i := 6) (N := 6) (by omega) (by omega) (by omega)
    have e0 : pI q 13 5 a (q.1 13 5 a + cn ((QCf q a 0 6 : Nat) : Int)) = q := pI_same (by
      show q.1 13 5 a = q.1 13 5 a + cn 0
      rw [addz])
    rw [ev12_passes_28, eg12_passes_28, e0]
    unfold bv12_passes_28 bg12_passes_28
    rw [if_neg hn, if_neg hn, cnsucc]
    exact ⟨rfl, id⟩
  | succ d ih =>
    intro b n q h1 h2
    obtain ⟨m, rfl⟩ : ∃ m, n = m + 1 := ⟨n - 1, by omega⟩
    have hia := cninb (i := a) (n := 8) ha (by omega)
    have l6 : cn (b : Int) < cn 6 := lpt (by omega) (by omega)
    have gop : g12_isOpen q (cn b) := g_open (by omega)
    have g1 := (hq_e q a b (cn 1)).1
    have g0 := (hq_e q a b (cn 0)).1
    have step : ∀ c : Nat, qc q a b = c → v12_passes_28 kv2 kv19 m (pI q 13 5 a (q.1 13 5 a + cn (c : Int))) v1 v2 (cn a) (cn (b + 1 : Nat)) = kv19 (pI q 13 5 a (q.1 13 5 a + cn (QCf q a (d + 1) b : Nat))) v1 v2 (cn (a + 1 : Nat)) ∧ (kg19 (pI q 13 5 a (q.1 13 5 a + cn (QCf q a (d + 1) b : Nat))) v1 v2 (cn (a + 1 : Nat)) → g12_passes_28 kg2 kg19 m (pI q 13 5 a (q.1 13 5 a + cn (c : Int))) v1 v2 (cn a) (cn (b + 1 : Nat))) := by
      intro c hc
      have k := ih (b + 1) m (pI q 13 5 a (q.1 13 5 a + cn (c : Int))) (by omega) (by omega)
      have e : QCf (pI q 13 5 a (q.1 13 5 a + cn (c : Int))) a d (b + 1) = QCf q a d (b + 1) := QCf_c (fun K h => by
        funext i
        rw [pI_1, u3_i h]) (by
        funext i S
        rw [pI_1, u3_k (by decide)]) a d (b + 1)
      have e2 : q.1 13 5 a + cn (c : Int) + cn ((QCf q a d (b + 1) : Nat) : Int) = q.1 13 5 a + cn ((QCf q a (d + 1) b : Nat) : Int) := by
        rw [Int32.add_assoc, cnadd]
        show _ = q.1 13 5 a + cn ((qc q a b + QCf q a d (b + 1) : Nat) : Int)
        rw [hc]
        congr 2
      rw [e, pI_at, pI_pI, e2] at k
      exact k
    rw [ev12_passes_28, eg12_passes_28]
    unfold bv12_passes_28 bg12_passes_28
    simp only [if_pos l6, cntk (i := a) (by omega), cnsucc]
    have z0 : cn ((0 : Nat) : Int) = cn 0 := rfl
    have z1 : cn ((1 : Nat) : Int) = cn 1 := rfl
    by_cases e1 : v12_isOpen q (cn b) = 0
    · obtain ⟨k1, k2⟩ := step 0 (by
        unfold qc
        rw [if_neg (fun h => h.1 e1)])
      rw [z0] at k1 k2
      simp only [if_pos e1]
      exact ⟨k1, fun h => ⟨hia, gop, hia, k2 h⟩⟩
    · simp only [if_neg e1]
      by_cases e2 : v12_hasQuote q (cn a) (cn b) (cn 1) = 0
      · obtain ⟨k1, k2⟩ := step 0 (by
          unfold qc
          rw [if_neg (fun h => h.2.1 e2)])
        rw [z0] at k1 k2
        simp only [if_pos e2]
        exact ⟨k1, fun h => ⟨hia, gop, g1, hia, k2 h⟩⟩
      · simp only [if_neg e2]
        by_cases e3 : v12_hasQuote q (cn a) (cn b) (cn 0) = 0
        · obtain ⟨k1, k2⟩ := step 0 (by
            unfold qc
            rw [if_neg (fun h => h.2.2 e3)])
          rw [z0] at k1 k2
          simp only [if_pos e3]
          exact ⟨k1, fun h => ⟨hia, gop, g1, g0, hia, k2 h⟩⟩
        · obtain ⟨k1, k2⟩ := step 1 (by
            unfold qc
            rw [if_pos ⟨e1, e2, e3⟩])
          rw [z1] at k1 k2
          simp only [if_neg e3]
          exact ⟨k1, fun h => ⟨hia, gop, g1, g0, hia, k2 h⟩⟩
theorem p19_loop {F : Nat} (hF : FU = F) (hF2 : 100 < F) : ∀ (d a n : Nat) (q : PM), a + d = 8 → d < n → ∃ q', v12_passes_19 kv2 n q v1 v2 (cn a) = v12_passes_94 kv2 F q' v1 v2 (cn 0) ∧ (g12_passes_94 kg2 F q' v1 v2 (cn 0) → g12_passes_19 kg2 n q v1 v2 (cn a)) ∧ (∀ k i s, ¬ (k = 13 ∧ i = 5) → q'.1 k i s = q.1 k i s) ∧ q'.2 = q.2 ∧ ∀ j, q'.1 13 5 j = if a ≤ j ∧ j < 8 then q.1 13 5 j + cn (QCf q j 6 0 : Nat) else q.1 13 5 j := by
  intro d
  induction d with
  | zero =>
    intro a n q h1 h2
    obtain ⟨m, rfl⟩ : ∃ m, n = m + 1 := ⟨n - 1, by omega⟩
    have e : a = 8 := by omega
    subst e
    have hn := lpf (i := 8) (N := 8) (by omega) (by omega) (by omega)
    refine ⟨q, ?_, ?_, fun _ _ _ _ => rfl, rfl, fun j => by rw [if_neg (by omega)]⟩
    · rw [ev12_passes_19, hF]
      unfold bv12_passes_19
      rw [if_neg hn]
    · rw [eg12_passes_19, hF]
      unfold bg12_passes_19
      rw [if_neg hn]
      exact id
  | succ d ih =>
    intro a n q h1 h2
    obtain ⟨m, rfl⟩ : ∃ m, n = m + 1 := ⟨n - 1, by omega⟩
    have l8 : cn (a : Int) < cn 8 := lpt (by omega) (by omega)
    have z0 : cn ((0 : Nat) : Int) = cn 0 := rfl
    obtain ⟨k1, k2⟩ := p28_loop (kv2 := kv2) (kg2 := kg2) (v1 := v1) (v2 := v2) (kv19 := v12_passes_19 kv2 m) (kg19 := g12_passes_19 kg2 m) (a := a) (by omega) 6 0 F q rfl (by omega)
    rw [z0] at k1 k2
    obtain ⟨q', j1, j2, j3, j4, j5⟩ := ih (a + 1) m (pI q 13 5 a (q.1 13 5 a + cn (QCf q a 6 0 : Nat))) (by omega) (by omega)
    refine ⟨q', ?_, ?_, fun k i s h => ?_, j4, fun j => ?_⟩
    · rw [ev12_passes_19, hF]
      unfold bv12_passes_19
      rw [if_pos l8, k1]
      exact j1
    · rw [eg12_passes_19, hF]
      unfold bg12_passes_19
      rw [if_pos l8]
      exact fun h => k2 (j2 h)
    · rw [j3 k i s h, pI_1, u3_ne (fun e => h ⟨e.1, e.2.1⟩)]
    · have e : QCf (pI q 13 5 a (q.1 13 5 a + cn (QCf q a 6 0 : Nat))) j 6 0 = QCf q j 6 0 := QCf_c (fun K h => by
        funext i
        rw [pI_1, u3_i h]) (by
        funext i S
        rw [pI_1, u3_k (by decide)]) j 6 0
      rw [j5 j, e]
      by_cases ej : j = a
      · rw [ej, if_neg (by omega), if_pos ⟨Nat.le_refl _, by omega⟩, pI_at]
      · rw [pI_1, u3_s ej]
        by_cases e2 : a + 1 ≤ j ∧ j < 8
        · rw [if_pos e2, if_pos ⟨by omega, e2.2⟩]
        · rw [if_neg e2, if_neg (fun h => e2 ⟨by omega, h.2⟩)]
end Cnt
