/-! the average price of an account -/
def smF (f : Nat → Int) (lo : Nat) : Nat → Int
  | 0 => 0
  | n + 1 => smF f lo n + f (lo + n)
theorem smF_congr {f g : Nat → Int} {lo : Nat} : ∀ n, (∀ i, i < n → f (lo + i) = g (lo + i)) → smF f lo n = smF g lo n
  | 0, _ => rfl
  | n + 1, h => by
    show smF f lo n + f (lo + n) = smF g lo n + g (lo + n)
    rw [smF_congr n fun i hi => h i (by omega), h n (by omega)]
theorem smF_shift {f : Nat → Int} {lo : Nat} : ∀ n, smF f (lo + 1) n + f lo = smF f lo n + f (lo + n)
  | 0 => by
    show (0 : Int) + f lo = 0 + f (lo + 0)
    rfl
  | n + 1 => by
    have ih := smF_shift (f := f) (lo := lo) n
    show smF f (lo + 1) n + f (lo + 1 + n) + f lo = smF f lo n + f (lo + n) + f (lo + (n + 1))
    rw [show lo + 1 + n = lo + (n + 1) by omega]
    omega
theorem smF_mod (f : Nat → Int) : ∀ lo, smF (fun t => f (t % 60)) lo 60 = smF f 0 60
  | 0 => smF_congr 60 fun i hi => by
    show f ((0 + i) % 60) = f (0 + i)
    rw [Nat.mod_eq_of_lt (by omega)]
  | lo + 1 => by
    have h := smF_shift (f := fun t => f (t % 60)) (lo := lo) 60
    have ih := smF_mod f lo
    have h2 : smF (fun t => f (t % 60)) (lo + 1) 60 + f (lo % 60) = smF (fun t => f (t % 60)) lo 60 + f ((lo + 60) % 60) := h
    rw [Nat.add_mod_right] at h2
    omega
theorem smF_zero {f : Nat → Int} {D : Nat} (h : ∀ i, D ≤ i → f i = 0) : ∀ d, smF f 0 (D + d) = smF f 0 D
  | 0 => rfl
  | d + 1 => by
    show smF f 0 (D + d) + f (0 + (D + d)) = smF f 0 D
    rw [smF_zero h d, h _ (by omega)]
    omega
abbrev avC (q : PM) (D a c : Nat) (s : Int32) (k : Nat) : Prop := k < D ∧ q.1 15 8 k = 0 ∧ q.1 15 7 k = 0 ∧ q.1 13 30 k = cn c ∧ (if s = 0 then q.1 13 32 k else q.1 13 31 k) = cn a
def avL (q : PM) (D a c : Nat) (s : Int32) (k : Nat) : Int := if avC q D a c s k then (q.1 13 34 k).toInt else 0
def avW (q : PM) (D a c : Nat) (s : Int32) (k : Nat) : Int := if avC q D a c s k then (q.1 13 33 k).toInt * (q.1 13 34 k).toInt else 0
def avF (W L : Int) : Int32 := if 0 < L then cn (W / L) else cn (-100000)
section Average
variable {p q : PM} {D a c : Nat} {s : Int32}
theorem g_counts (p : PM) (k : Nat) : g4_counts p (k + 1) := by
  have hz : ¬ k + 1 = 0 := by omega
  unfold g4_counts bg4_counts
  repeat' first
    | with_reducible exact hz
    | exact trivial
    | exact not_false
    | apply And.intro
    | (split <;> rename_i h9 <;> first | simp only [if_neg h9, if_true, if_false] | simp only [if_pos h9, if_true, if_false] | skip)
/-- a trade's slot, as both see it -/
theorem av_slot {k : Nat} (H : DR p q D) (hK : CK p) (hk : k < 60) (ha : a < 8) (hc : c < 4) : (avC q D a c s k ↔ (¬ v4_counts p (k + 1) = 0 ∧ p.1 1 (p.2.2 4 (k + 1) 0) 0 = cn c ∧ (if s = 0 then p.2.2 4 (k + 1) 2 else p.2.2 4 (k + 1) 1) = a + 1)) ∧ (avC q D a c s k → p.1 4 (k + 1) 3 = q.1 13 33 k ∧ p.1 4 (k + 1) 4 = q.1 13 34 k ∧ ∃ z n : Int, 1 ≤ z ∧ z ≤ 9999 ∧ 1 ≤ n ∧ n ≤ 50 ∧ q.1 13 33 k = cn z ∧ q.1 13 34 k = cn n) ∧ ¬ p.2.2 4 (k + 1) 0 = 0 := by
  obtain ⟨⟨b0', hb0, hb1⟩, -, hs⟩ := H.1 k hk
  refine ⟨?_, ?_, by omega⟩
  · unfold v4_counts bv4_counts
    rcases hs with ⟨s1, s2, s3, b, A, B, z, n, hb, hA, hB, d0, d30, d1, d31, d2, d32, hz, d3, d33, n1, n2, d4, d34, d5, d7⟩ | ⟨s1, s2⟩
    · rw [s1, if_neg cn01, d0, d5, (hK.2 b hb).1, d1, d2]
      have e1 : (q.1 13 30 k = cn c) = (cn (b : Int) = cn c) := by rw [d30]
      have e2 : ((if s = 0 then q.1 13 32 k else q.1 13 31 k) = cn a) = ((if s = 0 then B + 1 else A + 1) = a + 1) := by
        by_cases h : s = 0
        · rw [if_pos h, if_pos h, d32, cneq ⟨by omega, by omega⟩ ⟨by omega, by omega⟩]
          exact propext ⟨fun h => by omega, fun h => by omega⟩
        · rw [if_neg h, if_neg h, d31, cneq ⟨by omega, by omega⟩ ⟨by omega, by omega⟩]
          exact propext ⟨fun h => by omega, fun h => by omega⟩
      have e3 : (¬ (if q.1 15 7 k = 0 then cn 1 else cn 0) = 0) = (q.1 15 7 k = 0) := by
        by_cases h : q.1 15 7 k = 0
        · rw [if_pos h]
          exact propext ⟨fun _ => h, fun _ => cn01⟩
        · rw [if_neg h]
          exact propext ⟨fun h2 => absurd rfl h2, fun h2 => absurd h2 h⟩
      unfold avC
      rw [e1, e2, e3]
      exact ⟨fun h => ⟨h.2.2.1, h.2.2.2.1, h.2.2.2.2⟩, fun h => ⟨s2, s3, h.1, h.2.1, h.2.2⟩⟩
    · rw [s1, if_pos cn0e']
      refine ⟨fun h => ?_, fun h => absurd rfl h.1⟩
      rcases s2 with s2 | s2
      · have := h.1
        omega
      · have h2 := h.2.1
        rw [s2] at h2
        exact absurd h2 cn01
  · intro h
    rcases hs with ⟨s1, s2, s3, b, A, B, z, n, hb, hA, hB, d0, d30, d1, d31, d2, d32, hz, d3, d33, n1, n2, d4, d34, d5, d7⟩ | ⟨s1, s2⟩
    · have e1 := h.2.2.2.1
      rw [d30, cneq ⟨by omega, by omega⟩ ⟨by omega, by omega⟩] at e1
      exact ⟨by rw [d3, d33], by rw [d4, d34], z, n, hz.2.2 (by omega), hz.2.1, n1, n2, d33, d34⟩
    · rcases s2 with s2 | s2
      · have := h.1
        omega
      · have h2 := h.2.1
        rw [s2] at h2
        exact absurd h2 cn01
theorem av_bd {k : Nat} (H : DR p q D) (hK : CK p) (hk : k < 60) (ha : a < 8) (hc : c < 4) : 0 ≤ avL q D a c s k ∧ avL q D a c s k ≤ 50 ∧ avL q D a c s k ≤ avW q D a c s k ∧ avW q D a c s k ≤ 9999 * avL q D a c s k := by
  unfold avL avW
  by_cases h : avC q D a c s k
  · obtain ⟨-, -, z, n, z1, z2, n1, n2, e1, e2⟩ := (av_slot (s := s) H hK hk ha hc).2.1 h
    rw [if_pos h, if_pos h, e1, e2, cn_I ⟨by omega, by omega⟩, cn_I ⟨by omega, by omega⟩]
    have h1 : 1 * n ≤ z * n := Int.mul_le_mul_of_nonneg_right z1 (by omega)
    have h2 : z * n ≤ 9999 * n := Int.mul_le_mul_of_nonneg_right z2 (by omega)
    omega
  · rw [if_neg h, if_neg h]
    omega
theorem av_sum (H : DR p q D) (hK : CK p) (ha : a < 8) (hc : c < 4) : ∀ n, n ≤ 60 → 0 ≤ smF (avL q D a c s) 0 n ∧ smF (avL q D a c s) 0 n ≤ 50 * n ∧ smF (avL q D a c s) 0 n ≤ smF (avW q D a c s) 0 n ∧ smF (avW q D a c s) 0 n ≤ 9999 * smF (avL q D a c s) 0 n
  | 0, _ => by
    show (0 : Int) ≤ 0 ∧ (0 : Int) ≤ 50 * ((0 : Nat) : Int) ∧ (0 : Int) ≤ 0 ∧ (0 : Int) ≤ 9999 * 0
    omega
  | n + 1, h => by
    have ih := av_sum H hK ha hc n (by omega)
    have h1 := av_bd (s := s) (k := 0 + n) H hK (by omega) ha hc
    show 0 ≤ smF (avL q D a c s) 0 n + avL q D a c s (0 + n) ∧ smF (avL q D a c s) 0 n + avL q D a c s (0 + n) ≤ 50 * ((n + 1 : Nat) : Int) ∧ smF (avL q D a c s) 0 n + avL q D a c s (0 + n) ≤ smF (avW q D a c s) 0 n + avW q D a c s (0 + n) ∧ smF (avW q D a c s) 0 n + avW q D a c s (0 + n) ≤ 9999 * (smF (avL q D a c s) 0 n + avL q D a c s (0 + n))
    omega
theorem av_p (H : DR p q D) (hK : CK p) (ha : a < 8) (hc : c < 4) : ∀ (d i n : Nat), i + d = 60 → d < n → g7_averageOf_20 p n (a + 1) (cn c) s (cl (smF (avW q D a c s) 0 i)) (cl (smF (avL q D a c s) 0 i)) (cn i) ∧ v7_averageOf_20 p n (a + 1) (cn c) s (cl (smF (avW q D a c s) 0 i)) (cl (smF (avL q D a c s) 0 i)) (cn i) = avF (smF (avW q D a c s) 0 60) (smF (avL q D a c s) 0 60) := by
  intro d
  induction d with
  | zero =>
    intro i n h1 h2
    obtain ⟨n1, rfl⟩ : ∃ m, n = m + 1 := ⟨n - 1, by omega⟩
    have e : i = 60 := by omega
    subst e
    have hn := lpf (i := 60) (N := 60) (by omega) (by omega) (by omega)
    obtain ⟨s1, s2, s3, s4⟩ := av_sum (s := s) H hK ha hc 60 (by omega)
    rw [ev7_averageOf_20, eg7_averageOf_20]
    unfold bv7_averageOf_20 bg7_averageOf_20 avF
    have cz : (cl 0 < cl (smF (avL q D a c s) 0 60)) = (0 < smF (avL q D a c s) 0 60) := cllt (by decide) ⟨by omega, by omega⟩
    simp only [if_neg hn, lg_lt0, cz]
    by_cases hL : 0 < smF (avL q D a c s) 0 60
    · obtain ⟨f1, f2⟩ := fd_e p (A := smF (avW q D a c s) 0 60) (B := smF (avL q D a c s) 0 60) ⟨by omega, by omega⟩ hL (by omega)
      rw [if_pos hL, if_pos hL, if_pos hL, f2, cl32]
      exact ⟨⟨f1, trivial⟩, rfl⟩
    · rw [if_neg hL, if_neg hL, if_neg hL]
      exact ⟨trivial, rfl⟩
  | succ d ih =>
    intro i n h1 h2
    obtain ⟨n1, rfl⟩ : ∃ m, n = m + 1 := ⟨n - 1, by omega⟩
    obtain ⟨k1, k2⟩ := ih (i + 1) n1 (by omega) (by omega)
    have l60 : cn (i : Int) < cn 60 := lpt (by omega) (by omega)
    have hi := cninb (i := i) (n := 60) (by omega) (by omega)
    obtain ⟨w1, w2, w3⟩ := av_slot (s := s) (k := i) H hK (by omega) ha hc
    have gc := g_counts p i
    have eW : smF (avW q D a c s) 0 (i + 1) = smF (avW q D a c s) 0 i + avW q D a c s i := by
      show smF (avW q D a c s) 0 i + avW q D a c s (0 + i) = _
      rw [Nat.zero_add]
    have eL : smF (avL q D a c s) 0 (i + 1) = smF (avL q D a c s) 0 i + avL q D a c s i := by
      show smF (avL q D a c s) 0 i + avL q D a c s (0 + i) = _
      rw [Nat.zero_add]
    rw [eW, eL] at k1 k2
    by_cases hC : avC q D a c s i
    · obtain ⟨x1, x2, z, m, z1, z2, m1, m2, y1, y2⟩ := w2 hC
      obtain ⟨c1, c2, c3⟩ := w1.mp hC
      have eWi : avW q D a c s i = z * m := by
        unfold avW
        rw [if_pos hC, y1, y2, cn_I ⟨by omega, by omega⟩, cn_I ⟨by omega, by omega⟩]
      have eLi : avL q D a c s i = m := by
        unfold avL
        rw [if_pos hC, y2, cn_I ⟨by omega, by omega⟩]
      rw [eWi, eLi] at k1 k2
      rw [y1] at x1
      rw [y2] at x2
      have em : (cn z).toInt64 * (cn m).toInt64 = cl (z * m) := cl_mul ⟨by omega, by omega⟩ ⟨by omega, by omega⟩
      have em2 : (cn m).toInt64 = cl m := cn64 ⟨by omega, by omega⟩
      rw [em2] at em
      rw [ev7_averageOf_20, eg7_averageOf_20]
      unfold bv7_averageOf_20 bg7_averageOf_20
      by_cases h0 : s = 0
      · rw [if_pos h0] at c3
        simp only [if_pos l60, if_pos h0, cntk (i := i) (by omega), if_neg c1, if_pos c2, if_pos c3, x1, x2, em, em2, cladd, cnsucc]
        exact ⟨⟨hi, gc, w3, k1⟩, k2⟩
      · rw [if_neg h0] at c3
        simp only [if_pos l60, if_neg h0, cntk (i := i) (by omega), if_neg c1, if_pos c2, if_pos c3, x1, x2, em, em2, cladd, cnsucc]
        exact ⟨⟨hi, gc, w3, k1⟩, k2⟩
    · have hn : ¬ (¬ v4_counts p (i + 1) = 0 ∧ p.1 1 (p.2.2 4 (i + 1) 0) 0 = cn c ∧ (if s = 0 then p.2.2 4 (i + 1) 2 else p.2.2 4 (i + 1) 1) = a + 1) := fun h => hC (w1.mpr h)
      have eWi : avW q D a c s i = 0 := by
        unfold avW
        rw [if_neg hC]
      have eLi : avL q D a c s i = 0 := by
        unfold avL
        rw [if_neg hC]
      rw [eWi, eLi, Int.add_zero, Int.add_zero] at k1 k2
      rw [ev7_averageOf_20, eg7_averageOf_20]
      unfold bv7_averageOf_20 bg7_averageOf_20
      by_cases h0 : s = 0
      · simp only [if_pos h0] at hn
        simp only [if_pos l60, if_pos h0, cntk (i := i) (by omega), cnsucc]
        by_cases c1 : v4_counts p (i + 1) = 0
        · simp only [if_pos c1]
          exact ⟨⟨hi, gc, k1⟩, k2⟩
        simp only [if_neg c1]
        by_cases c2 : p.1 1 (p.2.2 4 (i + 1) 0) 0 = cn c
        · have c3 : ¬ p.2.2 4 (i + 1) 2 = a + 1 := fun h => hn ⟨c1, c2, h⟩
          simp only [if_pos c2, if_neg c3]
          exact ⟨⟨hi, gc, w3, k1⟩, k2⟩
        · simp only [if_neg c2]
          exact ⟨⟨hi, gc, w3, k1⟩, k2⟩
      · simp only [if_neg h0] at hn
        simp only [if_pos l60, if_neg h0, cntk (i := i) (by omega), cnsucc]
        by_cases c1 : v4_counts p (i + 1) = 0
        · simp only [if_pos c1]
          exact ⟨⟨hi, gc, k1⟩, k2⟩
        simp only [if_neg c1]
        by_cases c2 : p.1 1 (p.2.2 4 (i + 1) 0) 0 = cn c
        · have c3 : ¬ p.2.2 4 (i + 1) 1 = a + 1 := fun h => hn ⟨c1, c2, h⟩
          simp only [if_pos c2, if_neg c3]
          exact ⟨⟨hi, gc, w3, k1⟩, k2⟩
        · simp only [if_neg c2]
          exact ⟨⟨hi, gc, w3, k1⟩, k2⟩
theorem av_q {lo : Nat} (H : DR p q D) (hK : CK p) (ha : a < 8) (hc : c < 4) (hlo : D ≤ lo + 60) {W L : Int} (hW : W = smF (avW q D a c s) 0 60) (hL : L = smF (avL q D a c s) 0 60) (eW : smF (fun t => avW q D a c s (t % 60)) lo (D - lo) = W) (eL : smF (fun t => avL q D a c s (t % 60)) lo (D - lo) = L) : ∀ (d i n : Nat), lo + i + d = D → d < n → g12_average_29 q n (cn a) (cn c) s (cl (smF (fun t => avW q D a c s (t % 60)) lo i)) (cl (smF (fun t => avL q D a c s (t % 60)) lo i)) (cn ((lo + i : Nat) : Int)) ∧ v12_average_29 q n (cn a) (cn c) s (cl (smF (fun t => avW q D a c s (t % 60)) lo i)) (cl (smF (fun t => avL q D a c s (t % 60)) lo i)) (cn ((lo + i : Nat) : Int)) = avF W L := by
  have hD := H.2.2.2
  have c2D := H.2.2.1
  intro d
  induction d with
  | zero =>
    intro i n h1 h2
    obtain ⟨n1, rfl⟩ : ∃ m, n = m + 1 := ⟨n - 1, by omega⟩
    have e : i = D - lo := by omega
    have hn : ¬ cn ((lo + i : Nat) : Int) < cn D := by
      rw [cnlt ⟨by omega, by omega⟩ ⟨by omega, by omega⟩]
      omega
    obtain ⟨s1, s2, s3, s4⟩ := av_sum (s := s) H hK ha hc 60 (by omega)
    rw [← hW] at s3 s4
    rw [← hL] at s1 s2 s3 s4
    rw [ev12_average_29, eg12_average_29]
    unfold bv12_average_29 bg12_average_29 avF
    rw [e] at hn
    rw [e, eW, eL]
    have cz : (cl L = cl 0) = (L = 0) := cleq ⟨by omega, by omega⟩ (by decide)
    simp only [c2D, if_neg hn, lg_eq0, cz]
    by_cases h0 : L = 0
    · rw [if_pos h0, if_pos h0, if_neg (by omega)]
      exact ⟨trivial, rfl⟩
    · obtain ⟨f1, f2⟩ := fl_e q (A := W) (B := L) ⟨by omega, by omega⟩ (by omega) (by omega)
      rw [if_neg h0, if_neg h0, if_pos (by omega), f2, cl32]
      exact ⟨⟨f1, trivial⟩, rfl⟩
  | succ d ih =>
    intro i n h1 h2
    obtain ⟨n1, rfl⟩ : ∃ m, n = m + 1 := ⟨n - 1, by omega⟩
    obtain ⟨k1, k2⟩ := ih (i + 1) n1 (by omega) (by omega)
    have hlt : cn ((lo + i : Nat) : Int) < cn D := by
      rw [cnlt ⟨by omega, by omega⟩ ⟨by omega, by omega⟩]
      omega
    obtain ⟨⟨-, gk⟩, -, ek⟩ := find_t (t := lo + i) H (by omega) (by omega)
    have hk60 : (lo + i) % 60 < 60 := Nat.mod_lt _ (by decide)
    have hki := cninb (i := (lo + i) % 60) (n := 60) hk60 (by omega)
    have eir : irm (cn ((lo + i : Nat) : Int)) (cn 60) = cn (((lo + i) % 60 : Nat) : Int) := irm60 (by omega)
    have hle : (lo + i) % 60 ≤ lo + i := Nat.mod_le _ _
    have eW' : smF (fun t => avW q D a c s (t % 60)) lo (i + 1) = smF (fun t => avW q D a c s (t % 60)) lo i + avW q D a c s ((lo + i) % 60) := rfl
    have eL' : smF (fun t => avL q D a c s (t % 60)) lo (i + 1) = smF (fun t => avL q D a c s (t % 60)) lo i + avL q D a c s ((lo + i) % 60) := rfl
    have esucc : cn ((lo + i : Nat) : Int) + cn 1 = cn ((lo + (i + 1) : Nat) : Int) := cnsucc (lo + i)
    rw [eW', eL'] at k1 k2
    obtain ⟨k, hk⟩ : ∃ k, (lo + i) % 60 = k := ⟨_, rfl⟩
    rw [hk] at k1 k2 ek hk60 hki eir hle
    rw [ev12_average_29, eg12_average_29]
    unfold bv12_average_29 bg12_average_29
    simp only [c2D, if_pos hlt, ek, eir, cntk (i := k) (by omega), esucc]
    by_cases hC : avC q D a c s k
    · obtain ⟨-, -, z, m, z1, z2, m1, m2, y1, y2⟩ := (av_slot (s := s) (k := k) H hK hk60 ha hc).2.1 hC
      obtain ⟨c1, c2, c3, c4, c5⟩ := hC
      have eWi : avW q D a c s k = z * m := by
        unfold avW
        rw [if_pos ⟨c1, c2, c3, c4, c5⟩, y1, y2, cn_I ⟨by omega, by omega⟩, cn_I ⟨by omega, by omega⟩]
      have eLi : avL q D a c s k = m := by
        unfold avL
        rw [if_pos ⟨c1, c2, c3, c4, c5⟩, y2, cn_I ⟨by omega, by omega⟩]
      rw [eWi, eLi] at k1 k2
      have em : (cn z).toInt64 * (cn m).toInt64 = cl (z * m) := cl_mul ⟨by omega, by omega⟩ ⟨by omega, by omega⟩
      have em2 : (cn m).toInt64 = cl m := cn64 ⟨by omega, by omega⟩
      rw [em2] at em
      by_cases h0 : s = 0
      · rw [if_pos h0] at c5
        simp only [if_pos c2, if_neg cn01, if_pos c3, if_pos c4, if_pos h0, if_pos c5, y1, y2, em, em2, cladd]
        exact ⟨⟨gk, hki, hki, hki, hki, hki, hki, k1⟩, k2⟩
      · rw [if_neg h0] at c5
        simp only [if_pos c2, if_neg cn01, if_pos c3, if_pos c4, if_neg h0, if_pos c5, y1, y2, em, em2, cladd]
        exact ⟨⟨gk, hki, hki, hki, hki, hki, hki, k1⟩, k2⟩
    · have eWi : avW q D a c s k = 0 := by
        unfold avW
        rw [if_neg hC]
      have eLi : avL q D a c s k = 0 := by
        unfold avL
        rw [if_neg hC]
      rw [eWi, eLi, Int.add_zero, Int.add_zero] at k1 k2
      by_cases c2 : q.1 15 8 k = 0
      · simp only [if_pos c2, if_neg cn01]
        by_cases c3 : q.1 15 7 k = 0
        · simp only [if_pos c3]
          by_cases c4 : q.1 13 30 k = cn c
          · simp only [if_pos c4]
            by_cases h0 : s = 0
            · have c5 : ¬ q.1 13 32 k = cn a := fun h => hC ⟨by omega, c2, c3, c4, by rw [if_pos h0]; exact h⟩
              simp only [if_pos h0, if_neg c5]
              exact ⟨⟨gk, hki, hki, hki, k1⟩, k2⟩
            · have c5 : ¬ q.1 13 31 k = cn a := fun h => hC ⟨by omega, c2, c3, c4, by rw [if_neg h0]; exact h⟩
              simp only [if_neg h0, if_neg c5]
              exact ⟨⟨gk, hki, hki, hki, k1⟩, k2⟩
          · simp only [if_neg c4]
            exact ⟨⟨gk, hki, hki, k1⟩, k2⟩
        · simp only [if_neg c3]
          exact ⟨⟨gk, hki, k1⟩, k2⟩
      · simp only [if_neg c2, if_pos cn0e']
        exact ⟨⟨gk, k1⟩, k2⟩
theorem average_eq (H : DR p q D) (hK : CK p) (ha : a < 8) (hc : c < 4) : (g7_averageOf p (a + 1) (cn c) s ∧ g12_average q (cn a) (cn c) s) ∧ v7_averageOf p (a + 1) (cn c) s = v12_average q (cn a) (cn c) s ∧ (v12_average q (cn a) (cn c) s = cn (-100000) ∨ ∃ z : Int, 1 ≤ z ∧ z ≤ 9999 ∧ v12_average q (cn a) (cn c) s = cn z) := by
  have hD := H.2.2.2
  have c2D := H.2.2.1
  obtain ⟨F, hF, hF2⟩ : ∃ F, FU = F ∧ 100 < F := ⟨FU, rfl, by decide⟩
  obtain ⟨g1, e1⟩ := av_p (s := s) H hK ha hc 60 0 F rfl (by omega)
  have z0 : cl (smF (avW q D a c s) 0 0) = cl 0 := rfl
  have z1 : cl (smF (avL q D a c s) 0 0) = cl 0 := rfl
  rw [z0, z1] at g1 e1
  have zW : ∀ i, D ≤ i → avW q D a c s i = 0 := fun i hi => by
    unfold avW
    exact if_neg fun h => by have := h.1; omega
  have zL : ∀ i, D ≤ i → avL q D a c s i = 0 := fun i hi => by
    unfold avL
    exact if_neg fun h => by have := h.1; omega
  obtain ⟨lo, hlo⟩ : ∃ lo : Nat, lo = D - 60 := ⟨_, rfl⟩
  have eW : smF (fun t => avW q D a c s (t % 60)) lo (D - lo) = smF (avW q D a c s) 0 60 := by
    by_cases h : 60 ≤ D
    · rw [show D - lo = 60 by omega]
      exact smF_mod _ lo
    · have h1 : lo = 0 := by omega
      rw [h1]
      have h2 := smF_zero (f := avW q D a c s) zW (60 - D)
      rw [show D + (60 - D) = 60 by omega] at h2
      rw [h2]
      exact smF_congr _ fun i hi => by
        show avW q D a c s ((0 + i) % 60) = avW q D a c s (0 + i)
        rw [Nat.mod_eq_of_lt (by omega)]
  have eL : smF (fun t => avL q D a c s (t % 60)) lo (D - lo) = smF (avL q D a c s) 0 60 := by
    by_cases h : 60 ≤ D
    · rw [show D - lo = 60 by omega]
      exact smF_mod _ lo
    · have h1 : lo = 0 := by omega
      rw [h1]
      have h2 := smF_zero (f := avL q D a c s) zL (60 - D)
      rw [show D + (60 - D) = 60 by omega] at h2
      rw [h2]
      exact smF_congr _ fun i hi => by
        show avL q D a c s ((0 + i) % 60) = avL q D a c s (0 + i)
        rw [Nat.mod_eq_of_lt (by omega)]
  obtain ⟨g2, e2⟩ := av_q (s := s) (lo := lo) H hK ha hc (by omega) rfl rfl eW eL (D - lo) 0 F (by omega) (by omega)
  have z2 : cl (smF (fun t => avW q D a c s (t % 60)) lo 0) = cl 0 := rfl
  have z3 : cl (smF (fun t => avL q D a c s (t % 60)) lo 0) = cl 0 := rfl
  rw [z2, z3, Nat.add_zero] at g2 e2
  have e3 : v7_averageOf p (a + 1) (cn c) s = avF (smF (avW q D a c s) 0 60) (smF (avL q D a c s) 0 60) ∧ g7_averageOf p (a + 1) (cn c) s := by
    unfold v7_averageOf bv7_averageOf g7_averageOf bg7_averageOf
    rw [hF]
    exact ⟨e1, g1⟩
  have e4 : v12_average q (cn a) (cn c) s = avF (smF (avW q D a c s) 0 60) (smF (avL q D a c s) 0 60) ∧ g12_average q (cn a) (cn c) s := by
    unfold v12_average bv12_average g12_average bg12_average
    simp only [c2D, cnsub, hF]
    by_cases e : cn ((D : Int) - 60) < 0
    · have h0 : lo = 0 := by
        rw [zcn, cnlt ⟨by omega, by omega⟩ (by decide)] at e
        omega
      simp only [if_pos e]
      rw [h0] at g2 e2
      exact ⟨e2, g2⟩
    · have h0 : cn ((D : Int) - 60) = cn (lo : Int) := by
        rw [zcn, cnlt ⟨by omega, by omega⟩ (by decide)] at e
        congr 1
        omega
      simp only [if_neg e]
      rw [h0]
      exact ⟨e2, g2⟩
  refine ⟨⟨e3.2, e4.2⟩, by rw [e3.1, e4.1], ?_⟩
  rw [e4.1]
  obtain ⟨s1, s2, s3, s4⟩ := av_sum (s := s) H hK ha hc 60 (by omega)
  unfold avF
  by_cases hL : 0 < smF (avL q D a c s) 0 60
  · rw [if_pos hL]
    exact Or.inr ⟨_, Int.le_ediv_of_mul_le hL (by omega), Int.ediv_le_of_le_mul hL (by omega), rfl⟩
  · rw [if_neg hL]
    exact Or.inl rfl
end Average
