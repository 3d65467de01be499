/-! a loss is shared out, whole -/
section Share2
variable {p q : PM} {P : Nat → Int}
theorem gQ_id (q : PM) : gQ q (fun k => (q.2.1 14 3 k).toInt) = q := by
  refine Prod.ext rfl (Prod.ext ?_ rfl)
  funext K i S
  show (if K = 14 ∧ i = 3 ∧ S < 4 then cl (q.2.1 14 3 S).toInt else q.2.1 K i S) = q.2.1 K i S
  by_cases h : K = 14 ∧ i = 3 ∧ S < 4
  · rw [if_pos h, h.1, h.2.1]
    exact (cl_of _).symm
  · rw [if_neg h]
theorem gC_c {p : PM} {g g' : Nat → Int} (h : ∀ k, k < 4 → g k = g' k) : gC p g = gC p g' := by
  refine Prod.ext rfl (Prod.ext ?_ rfl)
  funext K i S
  show (if K = 9 ∧ S = 8 ∧ 1 ≤ i ∧ i ≤ 4 then cl (g (i - 1)) else p.2.1 K i S) = if K = 9 ∧ S = 8 ∧ 1 ≤ i ∧ i ≤ 4 then cl (g' (i - 1)) else p.2.1 K i S
  by_cases h2 : K = 9 ∧ S = 8 ∧ 1 ≤ i ∧ i ≤ 4
  · rw [if_pos h2, if_pos h2, h _ (by omega)]
  · rw [if_neg h2, if_neg h2]
theorem gQ_c {q : PM} {g g' : Nat → Int} (h : ∀ k, k < 4 → g k = g' k) : gQ q g = gQ q g' := by
  refine Prod.ext rfl (Prod.ext ?_ rfl)
  funext K i S
  show (if K = 14 ∧ i = 3 ∧ S < 4 then cl (g S) else q.2.1 K i S) = if K = 14 ∧ i = 3 ∧ S < 4 then cl (g' S) else q.2.1 K i S
  by_cases h2 : K = 14 ∧ i = 3 ∧ S < 4
  · rw [if_pos h2, if_pos h2, h _ h2.2.2]
  · rw [if_neg h2, if_neg h2]
/-- the sum of the first n -/
def s4n (g : Nat → Int) : Nat → Int
  | 0 => 0
  | n + 1 => s4n g n + g n
theorem s4n_4 (g : Nat → Int) : s4n g 4 = s4 g := by
  show 0 + g 0 + g 1 + g 2 + g 3 = g 0 + g 1 + g 2 + g 3
  omega
/-- what has been given after the first pass, up to slot i; elsewhere as before -/
def upB (B g : Nat → Int) (i : Nat) : Nat → Int := fun k => if k < i then B k else g k
theorem upB_s {B g : Nat → Int} {i : Nat} : gu (upB B g i) i (B i) = upB B g (i + 1) := by
  funext k
  unfold gu upB
  by_cases h : k = i
  · rw [if_pos h, if_pos (by omega), h]
  · rw [if_neg h]
    by_cases h2 : k < i
    · rw [if_pos h2, if_pos (by omega)]
    · rw [if_neg h2, if_neg (by omega)]
theorem upB_0 {B g : Nat → Int} : upB B g 0 = g := by
  funext k
  exact if_neg (by omega)
theorem bs_e {w a x : Int} (hw : 0 ≤ w) (hw2 : w ≤ 40000) (hx : 0 ≤ x) (hx2 : x ≤ 9999) (ha : 0 < a) (ha2 : a ≤ 40000) : cl w * cl x / cl a = cl ((w * x).tdiv a) := by
  have b1 := mul_bd (n := w) (m := x) (A := 40000) (B := 9999) (by omega) (by omega) (by omega) (by omega)
  rw [clmul, cldiv ⟨by omega, by omega⟩ ha (by omega)]
theorem pass_c {w a : Int} {F : Nat} (hF : FU = F) (hPc : ∀ k, k < 4 → p.2.1 9 (k + 1) 7 = cl (P k)) (hb : ∀ k, 0 ≤ P k ∧ P k ≤ 9999) (ha : a = s4 P) (h0 : 0 ≤ w) (h1 : w ≤ a) {g : Nat → Int} (hg : ∀ k, g k = 0) : ∀ (d i n : Nat), i + d = 4 → d < n → v2_shareLoss_76 n (gC p (upB (bs P w a) g i)) (cl a) (cl w) (cl (w - s4n (bs P w a) i)) (cn i) = v2_shareLoss_130 F (gC p (bs P w a)) (cl (w - s4 (bs P w a))) (cn 0) ∧ (g2_shareLoss_130 F (gC p (bs P w a)) (cl (w - s4 (bs P w a))) (cn 0) → g2_shareLoss_76 n (gC p (upB (bs P w a) g i)) (cl a) (cl w) (cl (w - s4n (bs P w a) i)) (cn i)) := by
  have p0 := hb 0
  have p1 := hb 1
  have p2 := hb 2
  have p3 := hb 3
  have haa : a = P 0 + P 1 + P 2 + P 3 := ha
  obtain ⟨hB, -⟩ := bs_p (P := P) (w := w) hb h0 (by omega)
  rw [← ha] at hB
  intro d
  induction d with
  | zero =>
    intro i n h2 h3
    obtain ⟨n1, rfl⟩ : ∃ z9, n = z9 + 1 := ⟨n - 1, by omega⟩
    have e : i = 4 := by omega
    subst e
    have hn := lpf (i := 4) (N := 4) (by omega) (by omega) (by omega)
    have eg : gC p (upB (bs P w a) g 4) = gC p (bs P w a) := gC_c fun k hk => if_pos hk
    rw [ev2_shareLoss_76, eg2_shareLoss_76, hF, eg, s4n_4]
    unfold bv2_shareLoss_76 bg2_shareLoss_76
    rw [if_neg hn, if_neg hn]
    exact ⟨rfl, fun h => h⟩
  | succ d ih =>
    intro i n h2 h3
    obtain ⟨n1, rfl⟩ : ∃ z9, n = z9 + 1 := ⟨n - 1, by omega⟩
    obtain ⟨k1, k2⟩ := ih (i + 1) n1 (by omega) (by omega)
    have l4 : cn (i : Int) < cn 4 := lpt (by omega) (by omega)
    have hi := cninb (i := i) (n := 4) (by omega) (by omega)
    have pi := hb i
    have bi := hB i
    have e7 : (gC p (upB (bs P w a) g i)).2.1 9 (i + 1) 7 = cl (P i) := by
      rw [gC_o (by decide)]
      exact hPc i (by omega)
    have c1 : (cl 0 < cl a) = (0 < a) := cllt (by decide) ⟨by omega, by omega⟩
    have es : s4n (bs P w a) (i + 1) = s4n (bs P w a) i + bs P w a i := rfl
    rw [es] at k1 k2
    rw [ev2_shareLoss_76, eg2_shareLoss_76]
    unfold bv2_shareLoss_76 bg2_shareLoss_76
    by_cases hA : 0 < a
    · have ed := bs_e (w := w) (a := a) (x := P i) h0 (by omega) pi.1 pi.2 hA (by omega)
      have eb : (w * P i).tdiv a = bs P w a i := by
        unfold bs
        rw [if_neg (by omega)]
      rw [eb] at ed
      have ew : pJ (gC p (upB (bs P w a) g i)) 9 (i + 1) 8 (cl (bs P w a i)) = gC p (upB (bs P w a) g (i + 1)) := by rw [gC_w (by omega), upB_s]
      have e8 := gC_8 (p := p) (g := upB (bs P w a) g (i + 1)) (i := i) (by omega)
      have e9 : upB (bs P w a) g (i + 1) i = bs P w a i := if_pos (by omega)
      rw [e9] at e8
      have el : w - s4n (bs P w a) i - bs P w a i = w - (s4n (bs P w a) i + bs P w a i) := by omega
      simp only [if_pos l4, lg_lt0, c1, if_pos hA, cntk (i := i) (by omega), e7, ed, ew, e8, clsub, el, cnsucc]
      exact ⟨k1, fun h => ⟨hi, cl0e hA (by omega), k2 h⟩⟩
    · have eb : bs P w a i = 0 := by
        unfold bs
        rw [if_pos (by omega)]
      have eg : upB (bs P w a) g (i + 1) = upB (bs P w a) g i := by
        funext k
        unfold upB
        by_cases hk : k < i
        · rw [if_pos hk, if_pos (by omega)]
        · rw [if_neg hk]
          by_cases hk2 : k = i
          · rw [if_pos (by omega), hk2, eb, hg]
          · rw [if_neg (by omega)]
      rw [eg, eb, Int.add_zero] at k1 k2
      simp only [if_pos l4, lg_lt0, c1, if_neg hA, cnsucc]
      exact ⟨k1, fun h => ⟨hi, k2 h⟩⟩
theorem pass_q {w a l : Int} {u : Int64} {F : Nat} (hF : FU = F) (hPq : ∀ k, k < 4 → q.2.1 14 2 k = cl (P k)) (hb : ∀ k, 0 ≤ P k ∧ P k ≤ 9999) (ha : a = s4 P) (hl : 0 ≤ l) (hl2 : l ≤ 9223372036854775807) (hw : w = if l < a then l else a) {g : Nat → Int} : ∀ (d i n : Nat), i + d = 4 → d < n → v12_shares_47 n (gQ q (upB (bs P w a) g i)) (cl l) (cl a) (cl (w - s4n (bs P w a) i)) u (cn i) = v12_shares_115 F (gQ q (bs P w a)) (cl (w - s4 (bs P w a))) u ∧ (g12_shares_115 F (gQ q (bs P w a)) (cl (w - s4 (bs P w a))) u → g12_shares_47 n (gQ q (upB (bs P w a) g i)) (cl l) (cl a) (cl (w - s4n (bs P w a) i)) u (cn i)) := by
  have p0 := hb 0
  have p1 := hb 1
  have p2 := hb 2
  have p3 := hb 3
  have haa : a = P 0 + P 1 + P 2 + P 3 := ha
  intro d
  induction d with
  | zero =>
    intro i n h2 h3
    obtain ⟨n1, rfl⟩ : ∃ z9, n = z9 + 1 := ⟨n - 1, by omega⟩
    have e : i = 4 := by omega
    subst e
    have hn := lpf (i := 4) (N := 4) (by omega) (by omega) (by omega)
    have eg : gQ q (upB (bs P w a) g 4) = gQ q (bs P w a) := gQ_c fun k hk => if_pos hk
    rw [ev12_shares_47, eg12_shares_47, hF, eg, s4n_4]
    unfold bv12_shares_47 bg12_shares_47
    rw [if_neg hn, if_neg hn]
    exact ⟨rfl, fun h => h⟩
  | succ d ih =>
    intro i n h2 h3
    obtain ⟨n1, rfl⟩ : ∃ z9, n = z9 + 1 := ⟨n - 1, by omega⟩
    obtain ⟨k1, k2⟩ := ih (i + 1) n1 (by omega) (by omega)
    have l4 : cn (i : Int) < cn 4 := lpt (by omega) (by omega)
    have hi := cninb (i := i) (n := 4) (by omega) (by omega)
    have pi := hb i
    have e7 : (gQ q (upB (bs P w a) g i)).2.1 14 2 i = cl (P i) := by
      rw [gQ_o (by decide)]
      exact hPq i (by omega)
    have c1 : (cl a = cl 0) = (a = 0) := cleq ⟨by omega, by omega⟩ (by decide)
    have c2 : (cl l < cl a) = (l < a) := cllt ⟨by omega, by omega⟩ ⟨by omega, by omega⟩
    have es : s4n (bs P w a) (i + 1) = s4n (bs P w a) i + bs P w a i := rfl
    rw [es] at k1 k2
    have ew : pJ (gQ q (upB (bs P w a) g i)) 14 3 i (cl (bs P w a i)) = gQ q (upB (bs P w a) g (i + 1)) := by rw [gQ_w (by omega), upB_s]
    have e8 := gQ_3 (q := q) (g := upB (bs P w a) g (i + 1)) (i := i) (by omega)
    have e9 : upB (bs P w a) g (i + 1) i = bs P w a i := if_pos (by omega)
    rw [e9] at e8
    have el : w - s4n (bs P w a) i - bs P w a i = w - (s4n (bs P w a) i + bs P w a i) := by omega
    rw [ev12_shares_47, eg12_shares_47]
    unfold bv12_shares_47 bg12_shares_47
    by_cases hA : a = 0
    · have eb : bs P w a i = 0 := by
        unfold bs
        rw [if_pos hA]
      rw [eb] at ew e8 el k1 k2
      simp only [if_pos l4, lg_eq0, c1, if_pos hA, cntk (i := i) (by omega), ew, e8, clsub, el, cnsucc]
      exact ⟨k1, fun h => ⟨hi, hi, k2 h⟩⟩
    · by_cases hL : l < a
      · rw [if_pos hL] at hw
        have ed := bs_e (w := w) (a := a) (x := P i) (by omega) (by omega) pi.1 pi.2 (by omega) (by omega)
        have eb : (w * P i).tdiv a = bs P w a i := by
          unfold bs
          rw [if_neg hA]
        rw [eb] at ed
        have ed' : cl l * cl (P i) / cl a = cl (bs P w a i) := by rw [← hw]; exact ed
        simp only [if_pos l4, lg_eq0, lg_gt0, c1, c2, if_neg hA, if_pos hL, cntk (i := i) (by omega), e7, ed', ew, e8, clsub, el, cnsucc]
        exact ⟨k1, fun h => ⟨hi, cl0e (by omega) (by omega), hi, hi, k2 h⟩⟩
      · rw [if_neg hL] at hw
        have eb : bs P w a i = P i := by
          unfold bs
          rw [if_neg hA, hw, Int.mul_comm, Int.mul_tdiv_cancel _ hA]
        rw [eb] at ew e8 el k1 k2
        simp only [if_pos l4, lg_eq0, lg_gt0, c1, c2, if_neg hA, if_neg hL, cntk (i := i) (by omega), e7, ew, e8, clsub, el, cnsucc]
        exact ⟨k1, fun h => ⟨hi, hi, hi, k2 h⟩⟩
/-- what a give does in the class -/
noncomputable def gvC (p : PM) (lay : Int32) (l g : Int) : PM := if 0 < g then pI (pJ p 2 1 7 (cl (l - g))) 2 1 8 lay else p
theorem lmin_cl (p : PM) {a b : Int} (ha : rl a) (hb : rl b) : v14_min_f86c9 p (cl a) (cl b) = cl (if b < a then b else a) ∧ g14_min_f86c9 p (cl a) (cl b) := by
  unfold v14_min_f86c9 bv14_min_f86c9 g14_min_f86c9 bg14_min_f86c9
  simp only [lg_lt0, cllt hb ha]
  refine ⟨?_, ?_⟩
  · split <;> rfl
  · split <;> trivial
theorem give_e {l m g : Int} {lay : Int32} (hl : p.2.1 2 1 7 = cl l) (l0 : 0 ≤ l) (l1 : l ≤ 9223372036854775807) (m0 : 0 ≤ m) (m1 : m ≤ 9223372036854775807) (hg : g = if m < l then m else l) : v2_give p lay (cl m) = (cl g, gvC p lay l g) ∧ g2_give p lay (cl m) := by
  obtain ⟨e1, e2⟩ := lmin_cl p (a := l) (b := m) ⟨by omega, by omega⟩ ⟨by omega, by omega⟩
  rw [← hg] at e1
  have g0 : 0 ≤ g ∧ g ≤ l := by
    rw [hg]
    split <;> omega
  have c1 : (cl 0 < cl g) = (0 < g) := cllt (by decide) ⟨by omega, by omega⟩
  unfold v2_give bv2_give g2_give bg2_give gvC
  simp only [hl, e1, lg_lt0, c1, clsub]
  by_cases h : 0 < g
  · simp only [if_pos h]
    exact ⟨trivial, e2, trivial⟩
  · have e : g = 0 := by omega
    simp only [if_neg h]
    rw [e]
    exact ⟨rfl, e2, trivial⟩
/-- the shares of the class and of the reference -/
theorem shares_eq {l : Int} {lay : Int32} (hl : p.2.1 2 1 7 = cl l) (l0 : 0 ≤ l) (l1 : l ≤ 9223372036854775807) (hPc : ∀ k, k < 4 → p.2.1 9 (k + 1) 7 = cl (P k)) (hPq : ∀ k, k < 4 → q.2.1 14 2 k = cl (P k)) (hb : ∀ k, 0 ≤ P k ∧ P k ≤ 9999) : ∃ (w : Int) (g : Nat → Int), w = (if l < s4 P then l else s4 P) ∧ (v2_shareLoss p lay = gC (gvC p lay l w) g ∧ g2_shareLoss p lay) ∧ (v12_shares q (cl l) = (cl w, gQ q g) ∧ g12_shares q (cl l)) ∧ (∀ k, 0 ≤ g k ∧ g k ≤ P k) ∧ s4 g = w := by
  obtain ⟨F, hF, hF2⟩ : ∃ F, FU = F ∧ 100 < F := ⟨FU, rfl, by decide⟩
  have z0 : cn ((0 : Nat) : Int) = cn 0 := rfl
  have z4 : ¬ cn ((4 : Nat) : Int) < cn 4 := lpf (i := 4) (N := 4) (by omega) (by omega) (by omega)
  have p0 := hb 0
  have p1 := hb 1
  have p2 := hb 2
  have p3 := hb 3
  have haa : s4 P = P 0 + P 1 + P 2 + P 3 := rfl
  obtain ⟨w, hw⟩ : ∃ w, w = (if l < s4 P then l else s4 P) := ⟨_, rfl⟩
  have w01 : 0 ≤ w ∧ w ≤ s4 P := by
    rw [hw]
    split <;> omega
  obtain ⟨hB, hB2, hB3⟩ := bs_p (P := P) (w := w) hb w01.1 w01.2
  have hPc2 : ∀ k, k < 4 → (gvC p lay l w).2.1 9 (k + 1) 7 = cl (P k) := by
    intro k hk
    unfold gvC
    split
    · rw [pI_J, pJ_J, u3_k (by decide)]
      exact hPc k hk
    · exact hPc k hk
  obtain ⟨g, ⟨r1, r2⟩, ⟨r3, r4⟩, r5, r6⟩ := rounds (p := gvC p lay l w) (q := q) (P := P) (w := cl w) hPc2 hPq hb 3 0 F F (w - s4 (bs P w (s4 P))) (bs P w (s4 P)) hB2 hB3 (by omega) (by omega) (by omega) hB (by omega)
  rw [z0] at r1 r2
  obtain ⟨c1, c2⟩ := pass_c (p := gvC p lay l w) (P := P) (w := w) (a := s4 P) (g := fun _ => 0) hF hPc2 hb rfl w01.1 w01.2 (fun _ => rfl) 4 0 F rfl (by omega)
  rw [upB_0, z0] at c1 c2
  have sn0 : w - s4n (bs P w (s4 P)) 0 = w := by
    show w - 0 = w
    omega
  rw [sn0] at c1 c2
  obtain ⟨d1, d2⟩ := pass_q (q := q) (P := P) (w := w) (a := s4 P) (l := l) (u := cl w) (g := fun k => (q.2.1 14 3 k).toInt) hF hPq hb rfl l0 l1 hw 4 0 F rfl (by omega)
  rw [upB_0, gQ_id, z0, sn0] at d1 d2
  -- the sums
  have sC : ∀ (d i n : Nat) (g0 : Nat → Int), i + d = 4 → d < n → (∀ k, k < i → g0 k = 0) → ∃ gz : Nat → Int, (∀ k, k < 4 → gz k = 0) ∧ v2_shareLoss_16 n (gC p g0) lay (cl (s4n P i)) (cn i) = v2_shareLoss_76 F (v2_give (gC p gz) lay (cl (s4 P))).2 (cl (s4 P)) (v2_give (gC p gz) lay (cl (s4 P))).1 (v2_give (gC p gz) lay (cl (s4 P))).1 (cn 0) ∧ (g2_give (gC p gz) lay (cl (s4 P)) → g2_shareLoss_76 F (v2_give (gC p gz) lay (cl (s4 P))).2 (cl (s4 P)) (v2_give (gC p gz) lay (cl (s4 P))).1 (v2_give (gC p gz) lay (cl (s4 P))).1 (cn 0) → g2_shareLoss_16 n (gC p g0) lay (cl (s4n P i)) (cn i)) := by
    intro d
    induction d with
    | zero =>
      intro i n g0 h2 h3 h4
      obtain ⟨n1, rfl⟩ : ∃ z9, n = z9 + 1 := ⟨n - 1, by omega⟩
      have e : i = 4 := by omega
      subst e
      refine ⟨g0, h4, ?_, ?_⟩
      · rw [ev2_shareLoss_16, hF, s4n_4]
        unfold bv2_shareLoss_16
        rw [if_neg z4]
      · intro h5 h6
        rw [eg2_shareLoss_16, hF, s4n_4]
        unfold bg2_shareLoss_16
        rw [if_neg z4]
        exact ⟨h5, h6⟩
    | succ d ih =>
      intro i n g0 h2 h3 h4
      obtain ⟨n1, rfl⟩ : ∃ z9, n = z9 + 1 := ⟨n - 1, by omega⟩
      have l4 : cn (i : Int) < cn 4 := lpt (by omega) (by omega)
      have hi := cninb (i := i) (n := 4) (by omega) (by omega)
      have e7 : (gC p g0).2.1 9 (i + 1) 7 = cl (P i) := by
        rw [gC_o (by decide)]
        exact hPc i (by omega)
      obtain ⟨gz, j1, j2, j3⟩ := ih (i + 1) n1 (gu g0 i 0) (by omega) (by omega) (fun k hk => by
        by_cases e : k = i
        · rw [e, gu_s]
        · rw [gu_n e]
          exact h4 k (by omega))
      have es : s4n P (i + 1) = s4n P i + P i := rfl
      rw [es] at j2 j3
      refine ⟨gz, j1, ?_, ?_⟩
      · rw [ev2_shareLoss_16]
        unfold bv2_shareLoss_16
        simp only [if_pos l4, cntk (i := i) (by omega), e7, cladd, gC_w (p := p) (g := g0) (i := i) (v := 0) (by omega), cnsucc]
        exact j2
      · intro h5 h6
        rw [eg2_shareLoss_16]
        unfold bg2_shareLoss_16
        simp only [if_pos l4, cntk (i := i) (by omega), e7, cladd, gC_w (p := p) (g := g0) (i := i) (v := 0) (by omega), cnsucc]
        exact ⟨hi, j3 h5 h6⟩
  have sQ : ∀ (d i n : Nat), i + d = 4 → d < n → v12_shares_5 n q (cl l) (cl (s4n P i)) (cn i) = v12_shares_47 F q (cl l) (cl (s4 P)) (cl w) (cl w) (cn 0) ∧ (g12_shares_47 F q (cl l) (cl (s4 P)) (cl w) (cl w) (cn 0) → g12_shares_5 n q (cl l) (cl (s4n P i)) (cn i)) := by
    intro d
    induction d with
    | zero =>
      intro i n h2 h3
      obtain ⟨n1, rfl⟩ : ∃ z9, n = z9 + 1 := ⟨n - 1, by omega⟩
      have e : i = 4 := by omega
      subst e
      have cc : (cl l < cl (s4 P)) = (l < s4 P) := cllt ⟨by omega, by omega⟩ ⟨by omega, by omega⟩
      rw [ev12_shares_5, eg12_shares_5, hF, s4n_4]
      unfold bv12_shares_5 bg12_shares_5
      simp only [if_neg z4, lg_gt0, cc]
      by_cases hL : l < s4 P
      · rw [if_pos hL] at hw
        simp only [if_pos hL, hw]
        exact ⟨trivial, fun h => h⟩
      · rw [if_neg hL] at hw
        simp only [if_neg hL, hw]
        exact ⟨trivial, fun h => h⟩
    | succ d ih =>
      intro i n h2 h3
      obtain ⟨n1, rfl⟩ : ∃ z9, n = z9 + 1 := ⟨n - 1, by omega⟩
      obtain ⟨j1, j2⟩ := ih (i + 1) n1 (by omega) (by omega)
      have l4 : cn (i : Int) < cn 4 := lpt (by omega) (by omega)
      have hi := cninb (i := i) (n := 4) (by omega) (by omega)
      have e7 := hPq i (by omega)
      have es : s4n P (i + 1) = s4n P i + P i := rfl
      rw [es] at j1 j2
      rw [ev12_shares_5, eg12_shares_5]
      unfold bv12_shares_5 bg12_shares_5
      simp only [if_pos l4, cntk (i := i) (by omega), e7, cladd, cnsucc]
      exact ⟨j1, fun h => ⟨hi, j2 h⟩⟩
  -- the class's memory before the first pass
  have gid : ∃ g0 : Nat → Int, gC p g0 = p := by
    refine ⟨fun k => (p.2.1 9 (k + 1) 8).toInt, ?_⟩
    refine Prod.ext rfl (Prod.ext ?_ rfl)
    funext K i S
    show (if K = 9 ∧ S = 8 ∧ 1 ≤ i ∧ i ≤ 4 then cl (p.2.1 9 (i - 1 + 1) 8).toInt else p.2.1 K i S) = p.2.1 K i S
    by_cases h : K = 9 ∧ S = 8 ∧ 1 ≤ i ∧ i ≤ 4
    · rw [if_pos h, h.1, h.2.1, show i - 1 + 1 = i by omega]
      exact (cl_of _).symm
    · rw [if_neg h]
  obtain ⟨g0, hg0⟩ := gid
  obtain ⟨gz, j1, j2, j3⟩ := sC 4 0 F g0 rfl (by omega) (fun k hk => by omega)
  have egz : gC p gz = gC p (fun _ => 0) := gC_c fun k hk => j1 k hk
  have s00 : s4n P 0 = 0 := rfl
  rw [hg0, egz, s00, z0] at j2 j3
  have hlz : (gC p (fun _ => 0)).2.1 2 1 7 = cl l := by
    rw [gC_o (by decide)]
    exact hl
  obtain ⟨v1, v2⟩ := give_e (p := gC p (fun _ => 0)) (lay := lay) (l := l) (m := s4 P) (g := w) hlz l0 l1 (by omega) (by omega) (by rw [hw]; split <;> split <;> omega)
  have ecomm : gvC (gC p (fun _ => 0)) lay l w = gC (gvC p lay l w) (fun _ => 0) := by
    unfold gvC
    by_cases h : 0 < w
    · rw [if_pos h, if_pos h]
      refine Prod.ext rfl (Prod.ext ?_ rfl)
      funext K i S
      show u3 (gC p (fun _ => 0)).2.1 2 1 7 (cl (l - w)) K i S = if K = 9 ∧ S = 8 ∧ 1 ≤ i ∧ i ≤ 4 then cl 0 else u3 p.2.1 2 1 7 (cl (l - w)) K i S
      by_cases e : K = 9 ∧ S = 8 ∧ 1 ≤ i ∧ i ≤ 4
      · rw [if_pos e, u3_ne (by omega)]
        exact if_pos e
      · rw [if_neg e]
        by_cases e2 : K = 2 ∧ i = 1 ∧ S = 7
        · rw [e2.1, e2.2.1, e2.2.2, u3_same, u3_same]
        · rw [u3_ne e2, u3_ne e2]
          exact if_neg e
    · rw [if_neg h, if_neg h]
  rw [v1] at j2 j3
  rw [ecomm] at j2 j3
  refine ⟨w, g, hw, ⟨?_, ?_⟩, ⟨?_, ?_⟩, r5, by omega⟩
  · unfold v2_shareLoss bv2_shareLoss
    rw [hF, j2]
    show v2_shareLoss_76 F (gC (gvC p lay l w) (fun _ => 0)) (cl (s4 P)) (cl w) (cl w) (cn 0) = _
    rw [c1, r1]
  · unfold g2_shareLoss bg2_shareLoss
    rw [hF]
    exact j3 v2 (c2 r2)
  · unfold v12_shares bv12_shares
    have q0 := sQ 4 0 F rfl (by omega)
    rw [s00, z0] at q0
    rw [hF, q0.1, d1, r3]
  · unfold g12_shares bg12_shares
    have q0 := sQ 4 0 F rfl (by omega)
    rw [s00, z0] at q0
    rw [hF]
    exact q0.2 (d2 r4)
end Share2
