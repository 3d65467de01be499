/-! the price of an auction -/
theorem u3_u3 {α : Type} {f : Nat → Nat → Nat → α} {k i s : Nat} {v w : α} : u3 (u3 f k i s v) k i s w = u3 f k i s w := by
  funext k' i' s'
  unfold u3
  by_cases h : k' = k ∧ i' = i ∧ s' = s
  · rw [if_pos h, if_pos h]
  · rw [if_neg h, if_neg h, if_neg h]
theorem u3_id {α : Type} {f : Nat → Nat → Nat → α} {k i s : Nat} : u3 f k i s (f k i s) = f := by
  funext k' i' s'
  unfold u3
  by_cases h : k' = k ∧ i' = i ∧ s' = s
  · rw [if_pos h, h.1, h.2.1, h.2.2]
  · rw [if_neg h]
theorem u3_comm {α : Type} {f : Nat → Nat → Nat → α} {k i s k2 i2 s2 : Nat} {v w : α} (hne : ¬ (k = k2 ∧ i = i2 ∧ s = s2)) : u3 (u3 f k i s v) k2 i2 s2 w = u3 (u3 f k2 i2 s2 w) k i s v := by
  funext k' i' s'
  unfold u3
  by_cases h : k' = k2 ∧ i' = i2 ∧ s' = s2
  · rw [if_pos h, if_pos h, if_neg]
    intro h2
    exact hne ⟨h2.1.symm.trans h.1, h2.2.1.symm.trans h.2.1, h2.2.2.symm.trans h.2.2⟩
  · rw [if_neg h]
    by_cases h2 : k' = k ∧ i' = i ∧ s' = s
    · rw [if_pos h2, if_pos h2]
    · rw [if_neg h2, if_neg h2, if_neg h]
theorem pI_pI {p : PM} {k i s : Nat} {v w : Int32} : pI (pI p k i s v) k i s w = pI p k i s w := by
  unfold pI
  rw [u3_u3]
theorem pI_id {p : PM} {k i s : Nat} : pI p k i s (p.1 k i s) = p := by
  unfold pI
  rw [u3_id]
theorem pI_comm {p : PM} {k i s k2 i2 s2 : Nat} {v w : Int32} (hne : ¬ (k = k2 ∧ i = i2 ∧ s = s2)) : pI (pI p k i s v) k2 i2 s2 w = pI (pI p k2 i2 s2 w) k i s v := by
  unfold pI
  rw [u3_comm hne]
/-- the reference with a price and a volume in its two scratch cells -/
def scr (q : PM) (P W : Int32) : PM := pI (pI q 12 1 65 P) 12 1 64 W
theorem scr_scr {q : PM} {P W P' W' : Int32} : pI (pI (scr q P W) 12 1 65 P') 12 1 64 W' = scr q P' W' := by
  unfold scr
  rw [pI_comm (p := pI q 12 1 65 P) (k := 12) (i := 1) (s := 64) (k2 := 12) (i2 := 1) (s2 := 65) (by decide), pI_pI, pI_pI]
theorem scr_65 {q : PM} {P W : Int32} : (scr q P W).1 12 1 65 = P := by
  unfold scr
  rw [pI_1, u3_s (by decide), pI_1, u3_same]
theorem scr_64 {q : PM} {P W : Int32} : (scr q P W).1 12 1 64 = W := by
  unfold scr
  rw [pI_1, u3_same]
theorem scr_p {q : PM} {P W P' : Int32} : pI (scr q P W) 12 1 65 P' = scr q P' W := by
  unfold scr
  rw [pI_comm (p := pI q 12 1 65 P) (k := 12) (i := 1) (s := 64) (k2 := 12) (i2 := 1) (s2 := 65) (by decide), pI_pI]
theorem scr_w {q : PM} {P W W' : Int32} : pI (scr q P W) 12 1 64 W' = scr q P W' := by
  unfold scr
  rw [pI_pI]
theorem scr_13 {q : PM} {P W : Int32} (K i : Nat) : (scr q P W).1 13 K i = q.1 13 K i := rfl
theorem scr_15 {q : PM} {P W : Int32} (K i : Nat) : (scr q P W).1 15 K i = q.1 15 K i := rfl
theorem scr_OR {p q : PM} {x y : Nat} {P W : Int32} (H : OR p q x y) : OR p (scr q P W) x y := H
theorem scr_NP {q : PM} {b : Nat} {P W : Int32} (H : NP q b) : NP (scr q P W) b := H
theorem g_min (p : PM) (a b : Int32) : g14_min_7cf53 p a b := by
  unfold g14_min_7cf53 bg14_min_7cf53
  split <;> trivial
theorem g_least (p : PM) (a b : Int32) : g12_least p a b := by
  unfold g12_least bg12_least
  split <;> trivial
theorem g_nearer (p : PM) (a b c : Int32) : g8_isNearer p a b c := by
  have ga := fun x => g_abs p x
  unfold g8_isNearer bg8_isNearer
  repeat' first
    | with_reducible exact ga _
    | exact trivial
    | exact not_false
    | apply And.intro
    | (split <;> rename_i h9 <;> first | simp only [if_neg h9, if_true, if_false] | simp only [if_pos h9, if_true, if_false] | skip)
/-- what is wanted is some lots -/
theorem sum_rng {p q : PM} {x y : Nat} {B : Nat} {t v : Int32} (H : OR p q x y) : ∀ (d i n : Nat) (S : Int), i + d = 40 → d < n → 0 ≤ S → S ≤ 50 * i → ∃ S' : Int, 0 ≤ S' ∧ S' ≤ 2000 ∧ v8_sumAt_20 p n B t v (cn S) (cn i) = cn S' := by
  intro d
  induction d with
  | zero =>
    intro i n S h1 h2 h3 h4
    obtain ⟨m, rfl⟩ : ∃ m, n = m + 1 := ⟨n - 1, by omega⟩
    rw [ev8_sumAt_20]
    unfold bv8_sumAt_20
    rw [if_neg (lpf (N := 40) (by omega) (by omega) (by omega))]
    exact ⟨S, h3, by omega, rfl⟩
  | succ d ih =>
    intro i n S h1 h2 h3 h4
    obtain ⟨m, rfl⟩ : ∃ m, n = m + 1 := ⟨n - 1, by omega⟩
    have k0 := ih (i + 1) m S (by omega) (by omega) h3 (by omega)
    rw [ev8_sumAt_20]
    unfold bv8_sumAt_20
    rw [if_pos (lpt (N := 40) (by omega) (by omega)), cntk (i := i) (by omega), cnsucc]
    by_cases hs : v10_standsIn p (i + 1) B t = 0
    · rw [if_pos hs]
      exact k0
    rw [if_neg hs]
    split
    · exact k0
    · rcases H.1 i (by omega) with h5 | ⟨h5, a, b, r, s, z, hL⟩
      · rw [stands_e, h5.1, if_neg (fun q => absurd q.1 (by decide))] at hs
        exact absurd rfl hs
      · obtain ⟨r1, r2, r3, r4⟩ := hL.2.2.2.2.2.2.2.1
        simp only [r3, cnadd]
        exact ih (i + 1) m (S + r) (by omega) (by omega) (by omega) (by omega)
theorem vol_rng {p q : PM} {x y B : Nat} (H : OR p q x y) (v : Int32) : ∃ S : Int, 0 ≤ S ∧ S ≤ 2000 ∧ v8_volumeAt p B v = cn S := by
  obtain ⟨S, s1, s2, s3⟩ := sum_rng (B := B) (t := cn 1) (v := v) H 40 0 FU 0 rfl (by decide) (by decide) (by decide)
  obtain ⟨U, u1, u2, u3⟩ := sum_rng (B := B) (t := cn 0) (v := v) H 40 0 FU 0 rfl (by decide) (by decide) (by decide)
  have e1 : v8_sumAt p B (cn 1) v = cn S := s3
  have e2 : v8_sumAt p B (cn 0) v = cn U := u3
  unfold v8_volumeAt bv8_volumeAt v14_min_7cf53 bv14_min_7cf53
  rw [e1, e2]
  split
  · exact ⟨U, u1, u2, rfl⟩
  · exact ⟨S, s1, s2, rfl⟩
section FP
variable {p q : PM} {x y b : Nat}
theorem vol_e (hb : b < 6) (H : OR p q x y) (hn : NP q b) (P W v : Int32) : v12_least (scr q P W) (v12_wants (scr q P W) (cn b) (cn 1) v) (v12_wants (scr q P W) (cn b) (cn 0) v) = v8_volumeAt p (b + 1) v := by
  rw [← (wants_eq hb (scr_OR (P := P) (W := W) H) (scr_NP hn) (cn 1) v).2, ← (wants_eq hb (scr_OR (P := P) (W := W) H) (scr_NP hn) (cn 0) v).2, ← min_e p]
  rfl
/-- the loop's end -/
theorem fp_tail (hb : b < 6) (H : OR p q x y) (hn : NP q b) (hB : BR p q) {P W e : Int32} (hW : ¬ P = cn (-100000) → W = v8_volumeAt p (b + 1) P) : ∀ (d i n : Nat), i + d = 44 → 40 ≤ i → d < n → g12_finds_15 n (scr q P W) (cn b) e (cn i) ∧ ∃ W' : Int32, v12_finds_15 n (scr q P W) (cn b) e (cn i) = scr q (if 0 < v8_volumeAt p (b + 1) (if P = cn (-100000) then p.1 1 (b + 1) 4 else P) then (if P = cn (-100000) then p.1 1 (b + 1) 4 else P) else cn (-100000)) W' ∧ W' = v8_volumeAt p (b + 1) (if P = cn (-100000) then p.1 1 (b + 1) 4 else P) := by
  intro d
  induction d with
  | zero =>
    intro i n h1 h0 h2
    obtain ⟨m, rfl⟩ : ∃ m, n = m + 1 := ⟨n - 1, by omega⟩
    obtain ⟨z, z1, z2, z3⟩ := (hB b hb).2.1
    have e4 : (scr q P W).1 13 11 (cn (b : Int)).toNatClampNeg = cn z := by rw [cntk (by omega), scr_13, z3]
    have ve := fun P W v => vol_e hb H hn P W v
    have hbi := cninb (i := b) (n := 6) hb (by omega)
    have gw := fun P W t v => (wants_eq hb (scr_OR (P := P) (W := W) H) (scr_NP hn) t v).1.2
    have gl := fun p a b => g_least p a b
    simp only [eg12_finds_15, ev12_finds_15, bg12_finds_15, bv12_finds_15, if_neg (lpf (i := i) (N := 44) (by omega) (by omega) (by omega)), scr_65]
    by_cases h3 : P = cn (-100000)
    · simp only [if_pos h3, e4, scr_p, scr_65, scr_w, ve, z2]
      obtain ⟨S, s1, s2, s3⟩ := vol_rng (B := b + 1) H (cn z)
      simp only [s3, v12_finds_339, bv12_finds_339, g12_finds_339, bg12_finds_339, scr_64, scr_65, scr_p]
      have ep : (0 < cn S) = (0 < S) := by rw [zcn, cnlt ⟨by omega, by omega⟩ ⟨by omega, by omega⟩]
      have ez : (cn S = 0) = (S = 0) := by rw [zcn, cneq ⟨by omega, by omega⟩ ⟨by omega, by omega⟩]
      simp only [ep, ez]
      refine ⟨⟨hbi, gw _ _ _ _, gw _ _ _ _, gl _ _ _, ?_⟩, cn S, ?_, rfl⟩
      · split <;> trivial
      · by_cases h4 : S = 0
        · rw [if_pos h4, if_neg (by omega)]
        · rw [if_neg h4, if_pos (by omega)]
    · have hW' := hW h3
      simp only [if_neg h3, hW']
      obtain ⟨S, s1, s2, s3⟩ := vol_rng (B := b + 1) H P
      simp only [s3, v12_finds_339, bv12_finds_339, g12_finds_339, bg12_finds_339, scr_64, scr_65, scr_p]
      have ep : (0 < cn S) = (0 < S) := by rw [zcn, cnlt ⟨by omega, by omega⟩ ⟨by omega, by omega⟩]
      have ez : (cn S = 0) = (S = 0) := by rw [zcn, cneq ⟨by omega, by omega⟩ ⟨by omega, by omega⟩]
      simp only [ep, ez]
      refine ⟨?_, cn S, ?_, rfl⟩
      · split <;> trivial
      · by_cases h4 : S = 0
        · rw [if_pos h4, if_neg (by omega)]
        · rw [if_neg h4, if_pos (by omega)]
  | succ d ih =>
    intro i n h1 h0 h2
    obtain ⟨m, rfl⟩ : ∃ m, n = m + 1 := ⟨n - 1, by omega⟩
    have hi := cninb (i := i) (n := 44) (by omega) (by omega)
    have h3 : q.1 15 3 i = 0 := H.2 i h0 (by omega)
    have k1 := ih (i + 1) m (by omega) (by omega) (by omega)
    simp only [eg12_finds_15, ev12_finds_15, bg12_finds_15, bv12_finds_15, if_pos (lpt (i := i) (N := 44) (by omega) (by omega)), cntk (i := i) (by omega), cnsucc, scr_15, if_pos h3, g12_finds_63, bg12_finds_63, v12_finds_63, bv12_finds_63, g12_finds_64, bg12_finds_64, v12_finds_64, bv12_finds_64, if_pos cn0e']
    exact ⟨⟨hi, k1.1⟩, k1.2⟩
theorem fp_loop (hb : b < 6) (H : OR p q x y) (hn : NP q b) (hB : BR p q) : ∀ (d i n n' : Nat) (P W e : Int32), i + d = 40 → d < n → d + 4 < n' → (¬ P = cn (-100000) → W = v8_volumeAt p (b + 1) P) → (g8_findPrice_25 p n (b + 1) P W e (cn i) ∧ g12_finds_15 n' (scr q P W) (cn b) e (cn i)) ∧ ∃ (P' W' : Int32), v12_finds_15 n' (scr q P W) (cn b) e (cn i) = scr q P' W' ∧ v8_findPrice_25 p n (b + 1) P W e (cn i) = P' ∧ (P' = cn (-100000) ∧ W' = cn 0 ∨ ¬ P' = cn (-100000) ∧ W' = v8_volumeAt p (b + 1) P') := by
  intro d
  induction d with
  | zero =>
    intro i n n' P W e h1 h2 h3 hW
    obtain ⟨m, rfl⟩ : ∃ m, n = m + 1 := ⟨n - 1, by omega⟩
    obtain ⟨k1, W', k2, k3⟩ := fp_tail (e := e) hb H hn hB hW 4 i n' (by omega) (by omega) (by omega)
    obtain ⟨z, z1, z2, z3⟩ := (hB b hb).2.1
    have hzb : ¬ b + 1 = 0 := by omega
    have gv : ∀ v, g8_volumeAt p (b + 1) v := fun v => ⟨(wants_eq hb H hn (cn 1) v).1.1, (wants_eq hb H hn (cn 0) v).1.1, g_min _ _ _, trivial⟩
    refine ⟨⟨?_, k1⟩, _, W', k2, ?_, ?_⟩
    · simp only [eg8_findPrice_25, bg8_findPrice_25, if_neg (lpf (i := i) (N := 40) (by omega) (by omega) (by omega))]
      repeat' first
        | with_reducible exact hzb
        | with_reducible exact gv _
        | exact trivial
        | exact not_false
        | apply And.intro
        | (split <;> rename_i h9 <;> first | simp only [if_neg h9, if_true, if_false] | simp only [if_pos h9, if_true, if_false] | skip)
    · simp only [ev8_findPrice_25, bv8_findPrice_25, if_neg (lpf (i := i) (N := 40) (by omega) (by omega) (by omega))]
      split <;> rfl
    · rw [z2] at k3 ⊢
      rw [k3]
      generalize hX : (if P = cn (-100000) then cn z else P) = X
      have hX2 : ¬ X = cn (-100000) := by
        rw [← hX]
        split
        · exact pr_ne z1
        · assumption
      obtain ⟨S, s1, s2, s3⟩ := vol_rng (B := b + 1) H X
      rw [s3]
      have ep : (0 < cn S) = (0 < S) := by rw [zcn, cnlt ⟨by omega, by omega⟩ ⟨by omega, by omega⟩]
      simp only [ep]
      by_cases h4 : S = 0
      · rw [if_neg (by omega), h4]
        exact Or.inl ⟨rfl, rfl⟩
      · rw [if_pos (by omega)]
        exact Or.inr ⟨hX2, s3.symm⟩
  | succ d ih =>
    intro i n n' P W e h1 h2 h3 hW
    obtain ⟨m, rfl⟩ : ∃ m, n = m + 1 := ⟨n - 1, by omega⟩
    obtain ⟨m', rfl⟩ : ∃ m, n' = m + 1 := ⟨n' - 1, by omega⟩
    have hi := cninb (i := i) (n := 40) (by omega) (by omega)
    have hi' := cninb (i := i) (n := 44) (by omega) (by omega)
    have hbi := cninb (i := b) (n := 6) hb (by omega)
    have hzb : ¬ b + 1 = 0 := by omega
    have hS := H.1 i (by omega)
    have k := fun P W e h => ih (i + 1) m m' P W e (by omega) (by omega) (by omega) h
    have k1 := k P W e hW
    obtain ⟨z0, y1, y2, y3⟩ := (hB b hb).2.1
    simp only [eg8_findPrice_25, ev8_findPrice_25, bg8_findPrice_25, bv8_findPrice_25, eg12_finds_15, ev12_finds_15, bg12_finds_15, bv12_finds_15, if_pos (lpt (i := i) (N := 40) (by omega) (by omega)), if_pos (lpt (i := i) (N := 44) (by omega) (by omega)), cntk (i := i) (by omega), cnsucc, scr_13, scr_15, g12_finds_63, bg12_finds_63, v12_finds_63, bv12_finds_63]
    by_cases h0 : q.1 15 3 i = 0
    · have e0 := slot_dead hS h0
      have h02 : ¬ cn 0 = cn 1 := by decide
      simp only [e0, if_pos h0, if_neg h02, g12_finds_64, bg12_finds_64, v12_finds_64, bv12_finds_64, if_pos cn0e', cnsucc]
      exact ⟨⟨⟨hi, k1.1.1⟩, hi', k1.1.2⟩, k1.2⟩
    obtain ⟨hl, a, b', r, s, z, hL⟩ := slot_live hS h0
    obtain ⟨b1, b2, b3⟩ := hL.2.1
    have es : (p.1 10 (i + 1) 2 = cn 1) = (q.1 13 24 i = cn 1) := by
      rcases hL.2.2.2.2.2.2.2.2.2.2.2.2 with hs | hs | hs
      · rcases hs.2.2.1 with h9 | h9 <;> rw [hs.2.1, h9] <;> exact propext (by decide)
      · rw [hs.2.1, hs.2.2.1]
      · rw [hs.2.1, hs.2.2.1]
    have eb : (b' + 1 = b + 1) = (cn (b' : Int) = cn (b : Int)) := by
      rw [cneq ⟨by omega, by omega⟩ ⟨by omega, by omega⟩]
      exact propext ⟨fun h => by omega, fun h => by omega⟩
    by_cases hst : q.1 13 24 i = cn 1
    · by_cases hbk : cn (b' : Int) = cn (b : Int)
      · have hnp := hn i (by omega) ⟨hl, hst⟩ (by rw [b2, hbk])
        rcases hL.2.2.2.2.2.1 with ⟨l1, ⟨l2, l3⟩ | ⟨l2, l3, l4⟩⟩
        · simp only [es, eb, b3, b2, l1, l2, l3, hst, hbk, if_neg h0, if_true, if_neg cn01, g12_finds_64, bg12_finds_64, v12_finds_64, bv12_finds_64, if_pos cn0e', cnsucc]
          exact ⟨⟨⟨hi, k1.1.1⟩, hi', hi', hi', hi', k1.1.2⟩, k1.2⟩
        · have hne : ¬ cn z = cn (-100000) := pr_ne l3
          have eat : q.1 13 25 i = cn z := by
            rcases hL.2.2.2.2.2.2.2.2.2.2.2.2 with hs | ⟨-, -, -, w, hB'⟩ | hs
            · rcases hs.2.2.1 with h9 | h9 <;> rw [h9] at hst <;> exact absurd hst (by decide)
            · rcases hB'.2.1 with ⟨g1, -⟩ | ⟨-, -, g3, g4⟩
              · rw [g1] at l2
                exact absurd l2 (by decide)
              · rw [g3, g4.resolve_left hnp]
            · rw [hs.2.2.1] at hst
              exact absurd hst (by decide)
          have gw := fun P W t v => (wants_eq hb (scr_OR (P := P) (W := W) H) (scr_NP hn) t v).1.2
          have ew := fun P W t v => (wants_eq hb (scr_OR (P := P) (W := W) H) (scr_NP hn) t v).2.symm
          have gsm := fun t v => (wants_eq hb H hn t v).1.1
          have gv : ∀ v, g8_volumeAt p (b + 1) v := fun v => ⟨(wants_eq hb H hn (cn 1) v).1.1, (wants_eq hb H hn (cn 0) v).1.1, g_min _ _ _, trivial⟩
          have gl := fun p a b => g_least p a b
          have gn := fun a b c => g_nearer p a b c
          have gab := fun x => g_abs p x
          have gaq := fun p x => g_absQ p x
          have ea := fun P W v => abs_e p (scr q P W) v
          have eml := fun P W u v => (min_e p (scr q P W) u v).symm
          have evl : ∀ v, v14_min_7cf53 p (v8_sumAt p (b + 1) (cn 1) v) (v8_sumAt p (b + 1) (cn 0) v) = v8_volumeAt p (b + 1) v := fun v => rfl
          have k2 := k (cn z) (v8_volumeAt p (b + 1) (cn z)) (v14_abs_0f7a4 p (v8_sumAt p (b + 1) (cn 1) (cn z) - v8_sumAt p (b + 1) (cn 0) (cn z))) (fun _ => rfl)
          simp only [es, eb, b3, b2, l1, l2, eat, hst, hbk, if_neg h0, if_true, if_neg hne, if_pos cn0e', g12_finds_64, bg12_finds_64, v12_finds_64, bv12_finds_64, if_neg cn01, cntk (i := i) (by omega), cntk (i := b) (by omega), scr_13, scr_65, scr_64, y2, y3, ew, eml, evl, ← ea, v12_finds_221, bv12_finds_221, v12_finds_225, bv12_finds_225, g12_finds_221, bg12_finds_221, g12_finds_225, bg12_finds_225, scr_scr, scr_p, scr_w, cnsucc]
          by_cases c1 : P = cn (-100000)
          · simp only [if_pos c1]
            repeat' first
              | with_reducible exact hi
              | with_reducible exact hi'
              | with_reducible exact hbi
              | with_reducible exact hzb
              | with_reducible exact gw _ _ _ _
              | with_reducible exact gsm _ _
              | with_reducible exact gv _
              | with_reducible exact gl _ _ _
              | with_reducible exact gn _ _ _
              | with_reducible exact gab _
              | with_reducible exact gaq _ _
              | with_reducible exact k2.1.1
              | with_reducible exact k2.1.2
              | with_reducible exact k2.2
              | exact trivial
              | exact not_false
              | (split <;> rename_i h9 <;> first | simp only [if_neg h9, if_true, if_false] | simp only [if_pos h9, if_true, if_false] | skip)
              | apply And.intro
          · by_cases c2 : W < v8_volumeAt p (b + 1) (cn z)
            · simp only [if_neg c1, if_pos c2]
              repeat' first
                | with_reducible exact hi
                | with_reducible exact hi'
                | with_reducible exact hbi
                | with_reducible exact hzb
                | with_reducible exact gw _ _ _ _
                | with_reducible exact gsm _ _
                | with_reducible exact gv _
                | with_reducible exact gl _ _ _
                | with_reducible exact gn _ _ _
                | with_reducible exact gab _
                | with_reducible exact gaq _ _
                | with_reducible exact k2.1.1
                | with_reducible exact k2.1.2
                | with_reducible exact k2.2
                | exact trivial
                | exact not_false
                | (split <;> rename_i h9 <;> first | simp only [if_neg h9, if_true, if_false] | simp only [if_pos h9, if_true, if_false] | skip)
                | apply And.intro
            · simp only [if_neg c1, if_neg c2, v8_isNearer, bv8_isNearer, ite_z, cn1F, cn0T]
              repeat' first
                | with_reducible exact hi
                | with_reducible exact hi'
                | with_reducible exact hbi
                | with_reducible exact hzb
                | with_reducible exact gw _ _ _ _
                | with_reducible exact gsm _ _
                | with_reducible exact gv _
                | with_reducible exact gl _ _ _
                | with_reducible exact gn _ _ _
                | with_reducible exact gab _
                | with_reducible exact gaq _ _
                | with_reducible exact k1.1.1
                | with_reducible exact k1.1.2
                | with_reducible exact k1.2
                | with_reducible exact k2.1.1
                | with_reducible exact k2.1.2
                | with_reducible exact k2.2
                | exact trivial
                | exact not_false
                | (split <;> rename_i h9 <;> first | simp only [if_neg h9, if_true, if_false] | simp only [if_pos h9, if_true, if_false] | skip)
                | apply And.intro
      · simp only [es, eb, b3, b2, hst, if_neg hbk, if_neg h0, if_true, g12_finds_64, bg12_finds_64, v12_finds_64, bv12_finds_64, if_pos cn0e', cnsucc]
        exact ⟨⟨⟨hi, k1.1.1⟩, hi', hi', hi', k1.1.2⟩, k1.2⟩
    · simp only [es, if_neg hst, if_neg h0, g12_finds_64, bg12_finds_64, v12_finds_64, bv12_finds_64, if_pos cn0e', cnsucc]
      exact ⟨⟨⟨hi, k1.1.1⟩, hi', hi', k1.1.2⟩, k1.2⟩
theorem fp_eq (hb : b < 6) (H : OR p q x y) (hn : NP q b) (hB : BR p q) : (g8_findPrice p (b + 1) ∧ g12_finds q (cn b)) ∧ ∃ (P W : Int32), v12_finds q (cn b) = scr q P W ∧ v8_findPrice p (b + 1) = P ∧ (P = cn (-100000) ∧ W = cn 0 ∨ ¬ P = cn (-100000) ∧ W = v8_volumeAt p (b + 1) P) := fp_loop hb H hn hB 40 0 FU FU (cn (-100000)) (cn 0) (cn 0) rfl (by decide) (by decide) (fun h => absurd rfl h)
end FP
