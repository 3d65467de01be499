/-! a loss is shared out among parts: numbers alone -/
def gu (g : Nat → Int) (i : Nat) (v : Int) : Nat → Int := fun j => if j = i then v else g j
theorem gu_s {g : Nat → Int} {i : Nat} {v : Int} : gu g i v i = v := if_pos rfl
theorem gu_n {g : Nat → Int} {i j : Nat} {v : Int} (h : ¬ j = i) : gu g i v j = g j := if_neg h
def s4 (g : Nat → Int) : Int := g 0 + g 1 + g 2 + g 3
theorem s4_gu {g : Nat → Int} {i : Nat} {v : Int} (h : i < 4) : s4 (gu g i v) = s4 g - g i + v := by
  have e : i = 0 ∨ i = 1 ∨ i = 2 ∨ i = 3 := by omega
  unfold s4
  rcases e with rfl | rfl | rfl | rfl
  · rw [gu_s, gu_n (by decide), gu_n (by decide), gu_n (by decide)]
    omega
  · rw [gu_s, gu_n (by decide), gu_n (by decide), gu_n (by decide)]
    omega
  · rw [gu_s, gu_n (by decide), gu_n (by decide), gu_n (by decide)]
    omega
  · rw [gu_s, gu_n (by decide), gu_n (by decide), gu_n (by decide)]
    omega
/-- one round: one each, from slot i on -/
def inn (P : Nat → Int) : Nat → Nat → Int → (Nat → Int) → Int × (Nat → Int)
  | 0, _, L, g => (L, g)
  | d + 1, i, L, g => if 0 < L ∧ g i < P i then inn P d (i + 1) (L - 1) (gu g i (g i + 1)) else inn P d (i + 1) L g
theorem inn_p {P : Nat → Int} : ∀ (d i : Nat) (L : Int) (g : Nat → Int), i + d = 4 → 0 ≤ L → (∀ k, g k ≤ P k) → (0 ≤ (inn P d i L g).1 ∧ (inn P d i L g).1 ≤ L) ∧ (∀ k, g k ≤ (inn P d i L g).2 k ∧ (inn P d i L g).2 k ≤ P k) ∧ s4 (inn P d i L g).2 + (inn P d i L g).1 = s4 g + L ∧ (0 < L → (∃ k, i ≤ k ∧ k < 4 ∧ g k < P k) → (inn P d i L g).1 < L) := by
  intro d
  induction d with
  | zero =>
    intro i L g h1 h2 h3
    show (0 ≤ L ∧ L ≤ L) ∧ (∀ k, g k ≤ g k ∧ g k ≤ P k) ∧ s4 g + L = s4 g + L ∧ (0 < L → (∃ k, i ≤ k ∧ k < 4 ∧ g k < P k) → L < L)
    exact ⟨⟨h2, Int.le_refl _⟩, fun k => ⟨Int.le_refl _, h3 k⟩, rfl, fun _ ⟨k, k1, k2, _⟩ => by omega⟩
  | succ d ih =>
    intro i L g h1 h2 h3
    unfold inn
    by_cases h : 0 < L ∧ g i < P i
    · rw [if_pos h]
      have h3' : ∀ k, gu g i (g i + 1) k ≤ P k := fun k => by
        by_cases e : k = i
        · rw [e, gu_s]
          omega
        · rw [gu_n e]
          exact h3 k
      obtain ⟨⟨a1, a2⟩, a3, a4, -⟩ := ih (i + 1) (L - 1) (gu g i (g i + 1)) (by omega) (by omega) h3'
      refine ⟨⟨a1, by omega⟩, fun k => ⟨?_, (a3 k).2⟩, ?_, fun _ _ => by omega⟩
      · have h4 := (a3 k).1
        by_cases e : k = i
        · rw [e] at h4 ⊢
          rw [gu_s] at h4
          omega
        · rw [gu_n e] at h4
          exact h4
      · rw [a4, s4_gu (by omega)]
        omega
    · rw [if_neg h]
      obtain ⟨⟨a1, a2⟩, a3, a4, a5⟩ := ih (i + 1) L g (by omega) h2 h3
      refine ⟨⟨a1, a2⟩, a3, a4, fun hL ⟨k, k1, k2, k3⟩ => a5 hL ⟨k, ?_, k2, k3⟩⟩
      by_cases e : k = i
      · rw [e] at k3
        exact absurd ⟨hL, k3⟩ h
      · omega
/-- the first shares, rounded down -/
def bs (P : Nat → Int) (w a : Int) (k : Nat) : Int := if a = 0 then 0 else (w * P k).tdiv a
theorem bs_p {P : Nat → Int} {w : Int} (hP : ∀ k, 0 ≤ P k ∧ P k ≤ 9999) (h0 : 0 ≤ w) (h1 : w ≤ s4 P) : (∀ k, 0 ≤ bs P w (s4 P) k ∧ bs P w (s4 P) k ≤ P k) ∧ 0 ≤ w - s4 (bs P w (s4 P)) ∧ w - s4 (bs P w (s4 P)) ≤ 3 := by
  have p0 := hP 0
  have p1 := hP 1
  have p2 := hP 2
  have p3 := hP 3
  have ha : s4 P = P 0 + P 1 + P 2 + P 3 := rfl
  by_cases hz : s4 P = 0
  · have e : ∀ k, bs P w (s4 P) k = 0 := fun k => by
      unfold bs
      rw [if_pos hz]
    have sB : s4 (bs P w (s4 P)) = 0 := by
      show bs P w (s4 P) 0 + bs P w (s4 P) 1 + bs P w (s4 P) 2 + bs P w (s4 P) 3 = 0
      rw [e, e, e, e]
      rfl
    exact ⟨fun k => by rw [e k]; exact ⟨Int.le_refl _, (hP k).1⟩, by omega, by omega⟩
  have apos : 0 < s4 P := by omega
  obtain ⟨a, hA⟩ : ∃ a, s4 P = a := ⟨_, rfl⟩
  rw [hA] at h1 hz apos ha ⊢
  have hk : ∀ k, 0 ≤ bs P w a k ∧ bs P w a k ≤ P k ∧ 0 ≤ w * P k - a * bs P w a k ∧ w * P k - a * bs P w a k ≤ a - 1 := by
    intro k
    have pk := hP k
    have x0 : 0 ≤ w * P k := Int.mul_nonneg h0 pk.1
    have x1 : w * P k ≤ P k * a := by
      rw [Int.mul_comm w]
      exact Int.mul_le_mul_of_nonneg_left h1 pk.1
    obtain ⟨t1, t2, t3, t4, -⟩ := tm_rng (A := w * P k) (B := a) apos
    have t5 := t4 x0
    have t6 := (td_rng (A := w * P k) (B := a) apos).1 x0
    have e : bs P w a k = (w * P k).tdiv a := by
      unfold bs
      rw [if_neg hz]
    rw [e]
    refine ⟨t6.1, ?_, by omega, by omega⟩
    have e2 : (w * P k).tdiv a = w * P k / a := by
      rw [td_fl apos, if_neg (by omega)]
    rw [e2]
    exact Int.ediv_le_of_le_mul apos x1
  refine ⟨fun k => ⟨(hk k).1, (hk k).2.1⟩, ?_⟩
  have k0 := hk 0
  have k1 := hk 1
  have k2 := hk 2
  have k3 := hk 3
  have sw : w * a = w * P 0 + w * P 1 + w * P 2 + w * P 3 := by
    rw [ha, Int.mul_add, Int.mul_add, Int.mul_add]
  have sb : a * (w - s4 (bs P w a)) = w * a - (a * bs P w a 0 + a * bs P w a 1 + a * bs P w a 2 + a * bs P w a 3) := by
    unfold s4
    rw [Int.mul_sub, Int.mul_add, Int.mul_add, Int.mul_add, Int.mul_comm a w]
  obtain ⟨Lf, hL⟩ : ∃ Lf, w - s4 (bs P w a) = Lf := ⟨_, rfl⟩
  rw [hL] at sb ⊢
  refine ⟨?_, ?_⟩
  · by_cases hn : Lf ≤ -1
    · have : a * Lf ≤ a * (-1) := Int.mul_le_mul_of_nonneg_left hn (by omega)
      omega
    · omega
  · by_cases hn : 4 ≤ Lf
    · have : a * 4 ≤ a * Lf := Int.mul_le_mul_of_nonneg_left hn (by omega)
      omega
    · omega
/-! the same in the class's memory and in the reference's -/
def gC (p : PM) (g : Nat → Int) : PM := (p.1, fun K i S => if K = 9 ∧ S = 8 ∧ 1 ≤ i ∧ i ≤ 4 then cl (g (i - 1)) else p.2.1 K i S, p.2.2)
def gQ (q : PM) (g : Nat → Int) : PM := (q.1, fun K i S => if K = 14 ∧ i = 3 ∧ S < 4 then cl (g S) else q.2.1 K i S, q.2.2)
theorem gC_w {p : PM} {g : Nat → Int} {i : Nat} {v : Int} (h : i < 4) : pJ (gC p g) 9 (i + 1) 8 (cl v) = gC p (gu g i v) := by
  refine Prod.ext rfl (Prod.ext ?_ rfl)
  funext K j S
  show u3 (gC p g).2.1 9 (i + 1) 8 (cl v) K j S = if K = 9 ∧ S = 8 ∧ 1 ≤ j ∧ j ≤ 4 then cl (gu g i v (j - 1)) else p.2.1 K j S
  by_cases e : K = 9 ∧ j = i + 1 ∧ S = 8
  · obtain ⟨e1, e2, e3⟩ := e
    rw [e1, e2, e3, u3_same, if_pos ⟨rfl, rfl, by omega, by omega⟩]
    rw [show i + 1 - 1 = i by omega, gu_s]
  · rw [u3_ne e]
    show (if K = 9 ∧ S = 8 ∧ 1 ≤ j ∧ j ≤ 4 then cl (g (j - 1)) else p.2.1 K j S) = _
    by_cases e2 : K = 9 ∧ S = 8 ∧ 1 ≤ j ∧ j ≤ 4
    · rw [if_pos e2, if_pos e2, gu_n (fun h2 => e ⟨e2.1, by omega, e2.2.1⟩)]
    · rw [if_neg e2, if_neg e2]
theorem gQ_w {q : PM} {g : Nat → Int} {i : Nat} {v : Int} (h : i < 4) : pJ (gQ q g) 14 3 i (cl v) = gQ q (gu g i v) := by
  refine Prod.ext rfl (Prod.ext ?_ rfl)
  funext K j S
  show u3 (gQ q g).2.1 14 3 i (cl v) K j S = if K = 14 ∧ j = 3 ∧ S < 4 then cl (gu g i v S) else q.2.1 K j S
  by_cases e : K = 14 ∧ j = 3 ∧ S = i
  · obtain ⟨e1, e2, e3⟩ := e
    rw [e1, e2, e3, u3_same, if_pos ⟨rfl, rfl, h⟩, gu_s]
  · rw [u3_ne e]
    show (if K = 14 ∧ j = 3 ∧ S < 4 then cl (g S) else q.2.1 K j S) = _
    by_cases e2 : K = 14 ∧ j = 3 ∧ S < 4
    · rw [if_pos e2, if_pos e2, gu_n (fun h2 => e ⟨e2.1, e2.2.1, h2⟩)]
    · rw [if_neg e2, if_neg e2]
theorem gC_8 {p : PM} {g : Nat → Int} {i : Nat} (h : i < 4) : (gC p g).2.1 9 (i + 1) 8 = cl (g i) := by
  show (if (9 : Nat) = 9 ∧ (8 : Nat) = 8 ∧ 1 ≤ i + 1 ∧ i + 1 ≤ 4 then cl (g (i + 1 - 1)) else p.2.1 9 (i + 1) 8) = _
  rw [if_pos ⟨rfl, rfl, by omega, by omega⟩]
  rfl
theorem gC_o {p : PM} {g : Nat → Int} {K i S : Nat} (h : ¬ (K = 9 ∧ S = 8)) : (gC p g).2.1 K i S = p.2.1 K i S := if_neg fun e => h ⟨e.1, e.2.1⟩
theorem gQ_3 {q : PM} {g : Nat → Int} {i : Nat} (h : i < 4) : (gQ q g).2.1 14 3 i = cl (g i) := if_pos ⟨rfl, rfl, h⟩
theorem gQ_o {q : PM} {g : Nat → Int} {K i S : Nat} (h : ¬ (K = 14 ∧ i = 3)) : (gQ q g).2.1 K i S = q.2.1 K i S := if_neg fun e => h ⟨e.1, e.2.1⟩
section Share
variable {p q : PM} {P : Nat → Int}
theorem cl_ad0 (x : Int64) : x + cl 0 = x := by
  rw [cl_of x, cladd, Int.add_zero]
theorem cl_sb0 (x : Int64) : x - cl 0 = x := by
  rw [cl_of x, clsub, Int.sub_zero]
theorem inn_c {kv : PM → Int64 → Int32 → PM} {kg : PM → Int64 → Int32 → Prop} {r : Int32} (hP : ∀ k, k < 4 → p.2.1 9 (k + 1) 7 = cl (P k)) (hb : ∀ k, 0 ≤ P k ∧ P k ≤ 9999) : ∀ (d i n : Nat) (L : Int) (g : Nat → Int), i + d = 4 → d < n → 0 ≤ L → L ≤ 3 → (∀ k, 0 ≤ g k ∧ g k ≤ P k) → v2_shareLoss_157 kv n (gC p g) (cl L) r (cn i) = kv (gC p (inn P d i L g).2) (cl (inn P d i L g).1) (r + cn 1) ∧ (kg (gC p (inn P d i L g).2) (cl (inn P d i L g).1) (r + cn 1) → g2_shareLoss_157 kg n (gC p g) (cl L) r (cn i)) := by
  intro d
  induction d with
  | zero =>
    intro i n L g h1 h2 h3 h4 h5
    obtain ⟨n1, rfl⟩ : ∃ z9, n = z9 + 1 := ⟨n - 1, by omega⟩
    have e : i = 4 := by omega
    subst e
    have hn := lpf (i := 4) (N := 4) (by omega) (by omega) (by omega)
    rw [ev2_shareLoss_157, eg2_shareLoss_157]
    unfold bv2_shareLoss_157 bg2_shareLoss_157
    rw [if_neg hn, if_neg hn]
    exact ⟨rfl, fun h => h⟩
  | succ d ih =>
    intro i n L g h1 h2 h3 h4 h5
    obtain ⟨n1, rfl⟩ : ∃ z9, n = z9 + 1 := ⟨n - 1, by omega⟩
    have l4 : cn (i : Int) < cn 4 := lpt (by omega) (by omega)
    have hi := cninb (i := i) (n := 4) (by omega) (by omega)
    have e8 := gC_8 (p := p) (g := g) (i := i) (by omega)
    have e7 : (gC p g).2.1 9 (i + 1) 7 = cl (P i) := by
      rw [gC_o (by decide)]
      exact hP i (by omega)
    have gi := h5 i
    have pi := hb i
    have c1 : (cl 0 < cl L) = (0 < L) := cllt (by decide) ⟨by omega, by omega⟩
    have c2 : (cl (g i) < cl (P i)) = (g i < P i) := cllt ⟨by omega, by omega⟩ ⟨by omega, by omega⟩
    rw [ev2_shareLoss_157, eg2_shareLoss_157]
    unfold bv2_shareLoss_157 bg2_shareLoss_157 inn
    simp only [if_pos l4, lg_lt0, lg_gt0, c1, cntk (i := i) (by omega), e7, e8, c2, cladd, clsub, gC_w (p := p) (g := g) (i := i) (v := g i + 1) (by omega), cnsucc]
    by_cases hL : 0 < L
    · by_cases hg : g i < P i
      · obtain ⟨k1, k2⟩ := ih (i + 1) n1 (L - 1) (gu g i (g i + 1)) (by omega) (by omega) (by omega) (by omega) (fun k => by
          by_cases e : k = i
          · rw [e, gu_s]
            omega
          · rw [gu_n e]
            exact h5 k)
        simp only [if_pos hL, if_pos hg, if_pos (show 0 < L ∧ g i < P i from ⟨hL, hg⟩)]
        exact ⟨k1, fun h => ⟨hi, k2 h⟩⟩
      · obtain ⟨k1, k2⟩ := ih (i + 1) n1 L g (by omega) (by omega) h3 h4 h5
        simp only [if_pos hL, if_neg hg, if_neg (show ¬ (0 < L ∧ g i < P i) from fun h => hg h.2)]
        exact ⟨k1, fun h => ⟨hi, k2 h⟩⟩
    · obtain ⟨k1, k2⟩ := ih (i + 1) n1 L g (by omega) (by omega) h3 h4 h5
      simp only [if_neg hL, if_neg (show ¬ (0 < L ∧ g i < P i) from fun h => hL h.1)]
      exact ⟨k1, fun h => ⟨hi, k2 h⟩⟩
theorem inn_q {kv : PM → Int64 → Int64 → Int64 × PM} {kg : PM → Int64 → Int64 → Prop} {w : Int64} (hP : ∀ k, k < 4 → q.2.1 14 2 k = cl (P k)) (hb : ∀ k, 0 ≤ P k ∧ P k ≤ 9999) : ∀ (d i n : Nat) (L : Int) (g : Nat → Int), i + d = 4 → d < n → 0 ≤ L → L ≤ 3 → (∀ k, 0 ≤ g k ∧ g k ≤ P k) → v12_shares_125 kv n (gQ q g) (cl L) w (cn i) = kv (gQ q (inn P d i L g).2) (cl (inn P d i L g).1) w ∧ (kg (gQ q (inn P d i L g).2) (cl (inn P d i L g).1) w → g12_shares_125 kg n (gQ q g) (cl L) w (cn i)) := by
  intro d
  induction d with
  | zero =>
    intro i n L g h1 h2 h3 h4 h5
    obtain ⟨n1, rfl⟩ : ∃ z9, n = z9 + 1 := ⟨n - 1, by omega⟩
    have e : i = 4 := by omega
    subst e
    have hn := lpf (i := 4) (N := 4) (by omega) (by omega) (by omega)
    rw [ev12_shares_125, eg12_shares_125]
    unfold bv12_shares_125 bg12_shares_125
    rw [if_neg hn, if_neg hn]
    exact ⟨rfl, fun h => h⟩
  | succ d ih =>
    intro i n L g h1 h2 h3 h4 h5
    obtain ⟨n1, rfl⟩ : ∃ z9, n = z9 + 1 := ⟨n - 1, by omega⟩
    have l4 : cn (i : Int) < cn 4 := lpt (by omega) (by omega)
    have hi := cninb (i := i) (n := 4) (by omega) (by omega)
    have e8 := gQ_3 (q := q) (g := g) (i := i) (by omega)
    have e7 : (gQ q g).2.1 14 2 i = cl (P i) := by
      rw [gQ_o (by decide)]
      exact hP i (by omega)
    have gi := h5 i
    have pi := hb i
    have c1 : (cl 0 < cl L) = (0 < L) := cllt (by decide) ⟨by omega, by omega⟩
    have c2 : (cl (g i) < cl (P i)) = (g i < P i) := cllt ⟨by omega, by omega⟩ ⟨by omega, by omega⟩
    have same : pJ (gQ q g) 14 3 i (cl (g i)) = gQ q g := by
      rw [gQ_w (by omega)]
      congr 1
      funext j
      unfold gu
      split
      · rename_i h
        rw [h]
      · rfl
    rw [ev12_shares_125, eg12_shares_125]
    unfold bv12_shares_125 bg12_shares_125 inn
    simp only [if_pos l4, lg_lt0, lg_gt0, c1, cntk (i := i) (by omega), e7, e8, c2, cladd, clsub, Int.add_zero, Int.sub_zero, same, gQ_w (q := q) (g := g) (i := i) (v := g i + 1) (by omega), cnsucc]
    by_cases hL : 0 < L
    · by_cases hg : g i < P i
      · obtain ⟨k1, k2⟩ := ih (i + 1) n1 (L - 1) (gu g i (g i + 1)) (by omega) (by omega) (by omega) (by omega) (fun k => by
          by_cases e : k = i
          · rw [e, gu_s]
            omega
          · rw [gu_n e]
            exact h5 k)
        simp only [if_pos hL, if_pos hg, if_pos (show 0 < L ∧ g i < P i from ⟨hL, hg⟩)]
        exact ⟨k1, fun h => ⟨hi, hi, hi, hi, k2 h⟩⟩
      · obtain ⟨k1, k2⟩ := ih (i + 1) n1 L g (by omega) (by omega) h3 h4 h5
        simp only [if_pos hL, if_neg hg, if_neg (show ¬ (0 < L ∧ g i < P i) from fun h => hg h.2)]
        exact ⟨k1, fun h => ⟨hi, hi, hi, hi, k2 h⟩⟩
    · obtain ⟨k1, k2⟩ := ih (i + 1) n1 L g (by omega) (by omega) h3 h4 h5
      simp only [if_neg hL, if_neg (show ¬ (0 < L ∧ g i < P i) from fun h => hL h.1)]
      exact ⟨k1, fun h => ⟨hi, hi, k2 h⟩⟩
/-- the rounds, in both -/
theorem rounds {w : Int64} (hPc : ∀ k, k < 4 → p.2.1 9 (k + 1) 7 = cl (P k)) (hPq : ∀ k, k < 4 → q.2.1 14 2 k = cl (P k)) (hb : ∀ k, 0 ≤ P k ∧ P k ≤ 9999) : ∀ (f r n n' : Nat) (L : Int) (g : Nat → Int), 0 ≤ L → L ≤ f → (r : Int) + f ≤ 3 → f < n → f < n' → (∀ k, 0 ≤ g k ∧ g k ≤ P k) → s4 g + L ≤ s4 P → ∃ g' : Nat → Int, (v2_shareLoss_130 n (gC p g) (cl L) (cn r) = gC p g' ∧ g2_shareLoss_130 n (gC p g) (cl L) (cn r)) ∧ (v12_shares_115 n' (gQ q g) (cl L) w = (w, gQ q g') ∧ g12_shares_115 n' (gQ q g) (cl L) w) ∧ (∀ k, 0 ≤ g' k ∧ g' k ≤ P k) ∧ s4 g' = s4 g + L := by
  obtain ⟨F, hF, hF2⟩ : ∃ F, FU = F ∧ 100 < F := ⟨FU, rfl, by decide⟩
  have z0 : cn ((0 : Nat) : Int) = cn 0 := rfl
  intro f
  induction f with
  | zero =>
    intro r n n' L g h1 h2 h3 h4 h5 h6 h7
    obtain ⟨n1, rfl⟩ : ∃ z9, n = z9 + 1 := ⟨n - 1, by omega⟩
    obtain ⟨n2, rfl⟩ : ∃ z9, n' = z9 + 1 := ⟨n' - 1, by omega⟩
    have e : L = 0 := by omega
    subst e
    have r4 : cn (r : Int) < cn 4 := lpt (by omega) (by omega)
    have n0 : ¬ cl 0 < cl 0 := by decide
    refine ⟨g, ⟨?_, ?_⟩, ⟨?_, ?_⟩, h6, by omega⟩
    · rw [ev2_shareLoss_130]
      unfold bv2_shareLoss_130
      simp only [if_pos r4, lg_lt0, if_neg n0]
    · rw [eg2_shareLoss_130]
      unfold bg2_shareLoss_130
      simp only [if_pos r4, lg_lt0, if_neg n0]
    · rw [ev12_shares_115]
      unfold bv12_shares_115
      simp only [lg_lt0, if_neg n0]
    · rw [eg12_shares_115]
      unfold bg12_shares_115
      simp only [lg_lt0, if_neg n0]
  | succ f ih =>
    intro r n n' L g h1 h2 h3 h4 h5 h6 h7
    by_cases hL : 0 < L
    · obtain ⟨n1, rfl⟩ : ∃ z9, n = z9 + 1 := ⟨n - 1, by omega⟩
      obtain ⟨n2, rfl⟩ : ∃ z9, n' = z9 + 1 := ⟨n' - 1, by omega⟩
      have r4 : cn (r : Int) < cn 4 := lpt (by omega) (by omega)
      have n0 : cl 0 < cl L := by
        rw [cllt (by decide) ⟨by omega, by omega⟩]
        exact hL
      obtain ⟨⟨a1, a2⟩, a3, a4, a5⟩ := inn_p (P := P) 4 0 L g rfl h1 (fun k => (h6 k).2)
      have hex : ∃ k, 0 ≤ k ∧ k < 4 ∧ g k < P k := by
        by_cases k0 : g 0 < P 0
        · exact ⟨0, by omega, by omega, k0⟩
        by_cases k1 : g 1 < P 1
        · exact ⟨1, by omega, by omega, k1⟩
        by_cases k2 : g 2 < P 2
        · exact ⟨2, by omega, by omega, k2⟩
        by_cases k3 : g 3 < P 3
        · exact ⟨3, by omega, by omega, k3⟩
        · unfold s4 at h7
          omega
      have a6 := a5 hL hex
      obtain ⟨g', ⟨b1, b2⟩, ⟨b3, b4⟩, b5, b6⟩ := ih (r + 1) n1 n2 (inn P 4 0 L g).1 (inn P 4 0 L g).2 a1 (by omega) (by omega) (by omega) (by omega) (fun k => ⟨by have := (a3 k).1; have := (h6 k).1; omega, (a3 k).2⟩) (by omega)
      obtain ⟨c1, c2⟩ := inn_c (p := p) (P := P) (kv := v2_shareLoss_130 n1) (kg := g2_shareLoss_130 n1) (r := cn r) hPc hb 4 0 F L g rfl (by omega) h1 (by omega) h6
      obtain ⟨d1, d2⟩ := inn_q (q := q) (P := P) (kv := v12_shares_115 n2) (kg := g12_shares_115 n2) (w := w) hPq hb 4 0 F L g rfl (by omega) h1 (by omega) h6
      rw [z0] at c1 c2 d1 d2
      rw [cnsucc] at c1 c2
      refine ⟨g', ⟨?_, ?_⟩, ⟨?_, ?_⟩, b5, by omega⟩
      · rw [ev2_shareLoss_130, hF]
        unfold bv2_shareLoss_130
        simp only [if_pos r4, lg_lt0, if_pos n0]
        rw [c1, b1]
      · rw [eg2_shareLoss_130, hF]
        unfold bg2_shareLoss_130
        simp only [if_pos r4, lg_lt0, if_pos n0]
        exact c2 b2
      · rw [ev12_shares_115, hF]
        unfold bv12_shares_115
        simp only [lg_lt0, if_pos n0]
        rw [d1, b3]
      · rw [eg12_shares_115, hF]
        unfold bg12_shares_115
        simp only [lg_lt0, if_pos n0]
        exact d2 b4
    · exact ih r n n' L g h1 (by omega) (by omega) (by omega) (by omega) h6 h7
end Share
