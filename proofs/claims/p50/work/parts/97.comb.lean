/-! pieces of a combination: prices, bars, those that are first -/
theorem price_e {p q : PM} {b : Nat} (hb : b < 6) (hK : CK p) {z : Int} (hz : rg z) : (g1_hasPrice p (b + 1) (cn z) ∧ g12_isPrice q (cn b) (cn z)) ∧ (v1_hasPrice p (b + 1) (cn z) = 0) = (¬ PrB b z) ∧ (v12_isPrice q (cn b) (cn z) = 0) = (¬ PrB b z) := by
  have hzb : ¬ b + 1 = 0 := by omega
  have es := spread_e hb hK
  have gs := g_spread p b
  have gi : ∀ a c, g12_in q (cn z) a c := by
    intro a c
    unfold g12_in bg12_in
    repeat' split
    all_goals trivial
  have bi : ∀ a c, b01 (v12_in q (cn z) a c) := by
    intro a c
    unfold v12_in bv12_in
    repeat' split
    all_goals first
      | exact b0
      | exact b1
  have c1 : (cn 9999 < cn z) = (9999 < z) := cnlt ⟨by decide, by decide⟩ hz
  have c2 : (cn z < cn 1) = (z < 1) := cnlt hz ⟨by decide, by decide⟩
  have c3 : (cn z < cn (-9999)) = (z < -9999) := cnlt hz ⟨by decide, by decide⟩
  unfold g1_hasPrice bg1_hasPrice g12_isPrice bg12_isPrice v1_hasPrice bv1_hasPrice v12_isPrice bv12_isPrice PrB
  by_cases h4 : b < 4
  · rw [if_pos h4] at es
    have hlt : cn (b : Int) < cn 4 := lpt (by omega) (by decide)
    simp only [es, c1, c2, if_pos hlt, if_pos cn0e']
    unfold v12_in bv12_in
    simp only [c1, c2]
    by_cases k1 : 9999 < z
    · simp only [if_pos k1, if_neg (show ¬ z < 1 by omega)]
      refine ⟨⟨trivial, gi _ _, b0, trivial⟩, ?_, ?_⟩ <;> exact propext ⟨fun _ h => by omega, fun _ => rfl⟩
    · simp only [if_neg k1]
      by_cases k2 : z < 1
      · simp only [if_pos k2]
        refine ⟨⟨⟨hzb, gs, trivial⟩, gi _ _, b0, trivial⟩, ?_, ?_⟩ <;> exact propext ⟨fun _ h => by have := h.2.2 h4; omega, fun _ => rfl⟩
      · simp only [if_neg k2]
        refine ⟨⟨⟨hzb, gs, trivial⟩, gi _ _, b1, trivial⟩, ?_, ?_⟩ <;> exact propext ⟨fun h => absurd h cn01, fun h => absurd ⟨by omega, by omega, fun _ => by omega⟩ h⟩
  · rw [if_neg h4] at es
    have hlt : ¬ cn (b : Int) < cn 4 := lpf (by omega) (by decide) (by omega)
    simp only [es, c1, c3, if_neg hlt, if_neg cn01]
    unfold v12_in bv12_in
    simp only [c1, c3]
    by_cases k1 : 9999 < z
    · simp only [if_pos k1, if_neg (show ¬ z < -9999 by omega)]
      refine ⟨⟨trivial, gi _ _, b0, trivial⟩, ?_, ?_⟩ <;> exact propext ⟨fun _ h => by omega, fun _ => rfl⟩
    · simp only [if_neg k1]
      by_cases k2 : z < -9999
      · simp only [if_pos k2]
        refine ⟨⟨⟨hzb, gs, trivial⟩, gi _ _, b0, trivial⟩, ?_, ?_⟩ <;> exact propext ⟨fun _ h => by omega, fun _ => rfl⟩
      · simp only [if_neg k2]
        refine ⟨⟨⟨hzb, gs, trivial⟩, gi _ _, b1, trivial⟩, ?_, ?_⟩ <;> exact propext ⟨fun h => absurd h cn01, fun h => absurd ⟨by omega, by omega, fun h => absurd h h4⟩ h⟩
/-- a trade that is barred -/
theorem bar_eq {p q : PM} {lg : Nat → Int32} {x y N T D l : Nat} {w : Nat → Prop} {f : Nat → Int} (H : WW p q lg x y w N T D l f) {b i j a a' b1 b2 : Nat} {r s z r' s' z' : Int} (hb : b < 6) (hi : i < 40) (hj : j < 40) (h : LV p q x y i a b1 r s z) (h' : LV p q x y j a' b2 r' s' z') {v : Int} (hv : rg v) : (g3_isBarred p (b + 1) (cn v) (i + 1) (j + 1) ∧ g12_canDeal q (cn b) (cn i) (cn j) (cn v) ∧ g12_canDeal q (cn b) (cn j) (cn i) (cn v)) ∧ (v3_isBarred p (b + 1) (cn v) (i + 1) (j + 1) = 0) = (¬ v12_canDeal q (cn b) (cn i) (cn j) (cn v) = 0) ∧ (v3_isBarred p (b + 1) (cn v) (i + 1) (j + 1) = 0) = (¬ v12_canDeal q (cn b) (cn j) (cn i) (cn v) = 0) ∧ (v3_isBarred p (b + 1) (cn v) (i + 1) (j + 1) = 0 → PrB b v) := by
  have hzb : ¬ b + 1 = 0 := by omega
  have hzi : ¬ i + 1 = 0 := by omega
  have hzj : ¬ j + 1 = 0 := by omega
  have hbi := cninb (i := b) (n := 6) hb (by omega)
  have hii := cninb (i := i) (n := 44) (by omega) (by omega)
  have hij := cninb (i := j) (n := 44) (by omega) (by omega)
  have ha : ¬ p.2.2 10 (i + 1) 3 = 0 := by
    rw [h.1.2.2]
    omega
  have ha' : ¬ p.2.2 10 (j + 1) 3 = 0 := by
    rw [h'.1.2.2]
    omega
  obtain ⟨⟨g1, g2⟩, e1, e2⟩ := price_e (q := q) hb H.2.2.2.2.1 hv
  obtain ⟨⟨g3, g4⟩, e3⟩ := band_eq hb H.2.2.1 (cn v)
  obtain ⟨sf, f1, f2, f3, f4⟩ := (H.2.2.1 b hb).2.2.2.2.2.1
  have eo := lv_own H.2.2.2.2.1 h h'
  have eo' : (p.1 0 (p.2.2 10 (i + 1) 3) 1 = p.1 0 (p.2.2 10 (j + 1) 3) 1) = (q.1 13 15 j / cn 2 = q.1 13 15 i / cn 2) := by
    rw [eo]
    exact propext ⟨fun h => h.symm, fun h => h.symm⟩
  have csf0 : (cn sf = 0) = (sf = 0) := by rw [zcn, cneq ⟨by omega, by omega⟩ ⟨by decide, by decide⟩]
  unfold g3_isBarred bg3_isBarred v3_isBarred bv3_isBarred g12_canDeal bg12_canDeal v12_canDeal bv12_canDeal
  simp only [cntk (i := b) (by omega), cntk (i := i) (by omega), cntk (i := j) (by omega), f3, f4, csf0]
  by_cases c1 : PrB b v
  · have n1 : ¬ v1_hasPrice p (b + 1) (cn v) = 0 := by
      rw [e1]
      exact fun h => h c1
    have n1' : ¬ v12_isPrice q (cn b) (cn v) = 0 := by
      rw [e2]
      exact fun h => h c1
    simp only [if_neg n1, if_neg n1']
    by_cases c2 : v12_isNear q (cn b) (cn v) = 0
    · have n2 : ¬ v1_isBeyondBand p (b + 1) (cn v) = 0 := by
        rw [e3]
        exact fun h => h c2
      simp only [if_neg n2, if_pos c2]
      refine ⟨⟨⟨hzb, g1, hzb, g3, trivial⟩, ⟨g2, g4, trivial⟩, ⟨g2, g4, trivial⟩⟩, ?_, ?_, fun h => absurd h cn01⟩ <;> exact propext ⟨fun h => absurd h cn01, fun h => absurd rfl h⟩
    · have n2 : v1_isBeyondBand p (b + 1) (cn v) = 0 := by
        rw [e3]
        exact c2
      simp only [if_pos n2, if_neg c2]
      by_cases c3 : sf = 0
      · simp only [if_pos c3]
        refine ⟨⟨⟨hzb, g1, hzb, g3, hzb, trivial⟩, ⟨g2, g4, hbi, trivial⟩, ⟨g2, g4, hbi, trivial⟩⟩, ?_, ?_, fun _ => c1⟩ <;> exact propext ⟨fun _ => cn01, fun _ => rfl⟩
      · simp only [if_neg c3]
        by_cases c4 : p.1 0 (p.2.2 10 (i + 1) 3) 1 = p.1 0 (p.2.2 10 (j + 1) 3) 1
        · have k1 : q.1 13 15 i / cn 2 = q.1 13 15 j / cn 2 := eo ▸ c4
          simp only [if_pos c4, if_pos k1, if_pos k1.symm]
          refine ⟨⟨⟨hzb, g1, hzb, g3, hzb, hzi, ha, hzj, ha', trivial⟩, ⟨g2, g4, hbi, hii, hij, trivial⟩, ⟨g2, g4, hbi, hij, hii, trivial⟩⟩, ?_, ?_, fun h => absurd h cn01⟩ <;> exact propext ⟨fun h => absurd h cn01, fun h => absurd rfl h⟩
        · have k1 : ¬ q.1 13 15 i / cn 2 = q.1 13 15 j / cn 2 := eo ▸ c4
          have k2 : ¬ q.1 13 15 j / cn 2 = q.1 13 15 i / cn 2 := eo' ▸ c4
          simp only [if_neg c4, if_neg k1, if_neg k2]
          refine ⟨⟨⟨hzb, g1, hzb, g3, hzb, hzi, ha, hzj, ha', trivial⟩, ⟨g2, g4, hbi, hii, hij, trivial⟩, ⟨g2, g4, hbi, hij, hii, trivial⟩⟩, ?_, ?_, fun _ => c1⟩ <;> exact propext ⟨fun _ => cn01, fun _ => rfl⟩
  · have n1 : v1_hasPrice p (b + 1) (cn v) = 0 := by
      rw [e1]
      exact c1
    have n1' : v12_isPrice q (cn b) (cn v) = 0 := by
      rw [e2]
      exact c1
    simp only [if_pos n1, if_pos n1']
    refine ⟨⟨⟨hzb, g1, trivial⟩, ⟨g2, trivial⟩, ⟨g2, trivial⟩⟩, ?_, ?_, fun h => absurd h cn01⟩ <;> exact propext ⟨fun h => absurd h cn01, fun h => absurd rfl h⟩
/-- what is asked for can be asked for -/
theorem gf_first {p : PM} {B : Nat} {t v : Int32} : ∀ (d i n : Nat) (o : Nat), i + d = 40 → d < n → g6_firstOf_25 p n B t v o (cn i) := by
  intro d
  induction d with
  | zero =>
    intro i n o h1 h2
    obtain ⟨m, rfl⟩ : ∃ m, n = m + 1 := ⟨n - 1, by omega⟩
    simp only [eg6_firstOf_25, bg6_firstOf_25, if_neg (lpf (i := i) (N := 40) (by omega) (by omega) (by omega))]
  | succ d ih =>
    intro i n o h1 h2
    obtain ⟨m, rfl⟩ : ∃ m, n = m + 1 := ⟨n - 1, by omega⟩
    have hi := cninb (i := i) (n := 40) (by omega) (by omega)
    have gs := g_stands p i B t
    have k := fun o => ih (i + 1) m o (by omega) (by omega)
    simp only [eg6_firstOf_25, bg6_firstOf_25, if_pos (lpt (i := i) (N := 40) (by omega) (by omega)), cntk (i := i) (by omega), cnsucc]
    repeat' first
      | exact k _
      | exact hi
      | exact gs
      | assumption
      | apply And.intro
      | split
theorem gfq_first {q : PM} {B t v : Int32} : ∀ (d i n : Nat) (c : Int32), i + d = 44 → d < n → (c < 0 ∨ inb c 44) → g12_firstOf_27 q n B t v c (cn i) := by
  intro d
  induction d with
  | zero =>
    intro i n c h1 h2 hc
    obtain ⟨m, rfl⟩ : ∃ m, n = m + 1 := ⟨n - 1, by omega⟩
    simp only [eg12_firstOf_27, bg12_firstOf_27, if_neg (lpf (i := i) (N := 44) (by omega) (by omega) (by omega))]
  | succ d ih =>
    intro i n c h1 h2 hc
    obtain ⟨m, rfl⟩ : ∃ m, n = m + 1 := ⟨n - 1, by omega⟩
    have hi := cninb (i := i) (n := 44) (by omega) (by omega)
    have ga := g_at (q := q) (i := i) (by omega) B t v
    have k := fun c h => ih (i + 1) m c (by omega) (by omega) h
    have k1 := k c hc
    have k2 := k (cn i) (Or.inr hi)
    simp only [eg12_firstOf_27, bg12_firstOf_27, if_pos (lpt (i := i) (N := 44) (by omega) (by omega)), cntk (i := i) (by omega), cnsucc]
    repeat' first
      | exact k1
      | exact k2
      | exact hi
      | exact ga
      | exact trivial
      | exact hc.resolve_left (by assumption)
      | apply And.intro
      | split
theorem g_firstP (p : PM) (B : Nat) (t : Int32) : g6_firstOf p B t := ⟨g_bestP _ _ _ _, gf_first 40 0 FU 0 rfl (by decide)⟩
theorem g_firstQ {q : PM} {b : Nat} (hb : b < 6) (t : Int32) : g12_firstOf q (cn b) t := by
  have go := g_open (q := q) hb
  have gb := g_bestQ q (cn b) t (cn 0)
  unfold g12_firstOf bg12_firstOf
  refine ⟨go, ?_⟩
  split
  · exact gfq_first 44 0 FU _ rfl (by decide) (Or.inl cnm1)
  · exact ⟨gb, gfq_first 44 0 FU _ rfl (by decide) (Or.inl cnm1)⟩
/-- one that stands in a book that is open -/
theorem st_inv {p q : PM} {lg : Nat → Int32} {x N T D l : Nat} {f : Nat → Int} (H : WW p q lg x 99 (fun _ => False) N T D l f) {j b : Nat} {t : Int32} (hj : j < 40) (hb : b < 6) (hs : stnd q j) (hk : q.1 13 16 j = cn b) (ht : q.1 15 4 j = t) (ho : ¬ v12_isOpen q (cn b) = 0) : ∃ (a : Nat) (r s z : Int), QI p q x 99 b t (q.1 13 25 j) j a r s z := by
  refine qa_inv H hb hj (at_of (by omega) ?_ ?_ rfl)
  · exact in_there hj hs.1 ⟨hs.2, hk, ht⟩
  · rcases any_or (p := p) (x := x) (y := 99) (q := q) (i := j) (Classical.choose_spec (Classical.choose_spec (Classical.choose_spec (Classical.choose_spec (lv_slot H hj hs.1 hb hk))))) with h | h
    · exact h
    · obtain ⟨c, c1, c2, c3⟩ := H.2.2.2.2.2.2.1.1 j hj hs h
      rw [hk, cneq ⟨by omega, by omega⟩ ⟨by omega, by omega⟩] at c2
      have e : c = b := by omega
      rw [e] at c3
      rw [open_e q (by omega), if_neg c3] at ho
      exact absurd rfl ho
/-- an order that can fall by n -/
def Rdy (p q : PM) (n : Int) (o a b : Nat) : Prop := o < 40 ∧ q.1 15 3 o = cn 1 ∧ (∃ r s z : Int, LV p q 99 99 o a b r s z ∧ n ≤ r ∧ r ≤ 50) ∧ ∀ h : Int, 0 ≤ h → h ≤ 50 → p.1 10 (o + 1) 11 = cn h → n ≤ h
theorem rdy_c {p p' q q' : PM} {n : Int} {o a b : Nat} (hp : ∀ S, p'.1 10 (o + 1) S = p.1 10 (o + 1) S) (hR : ∀ S, p'.2.2 10 (o + 1) S = p.2.2 10 (o + 1) S) (h3 : ∀ K, 14 ≤ K → K ≤ 28 → ¬ K = 23 → q'.1 13 K o = q.1 13 K o) (h4 : ∀ K, 3 ≤ K → K ≤ 6 → q'.1 15 K o = q.1 15 K o) (H : Rdy p q n o a b) : Rdy p' q' n o a b := by
  obtain ⟨h1, h2, ⟨r, s, z, h5, h6⟩, h7⟩ := H
  refine ⟨h1, by rw [h4 3 (by decide) (by decide)]; exact h2, ⟨r, s, z, lv_c hp hR h3 (fun K k1 k2 => h4 K (by omega) k2) h5, h6⟩, ?_⟩
  rw [hp]
  exact h7
section Step
variable {p q : PM} {lg : Nat → Int32} {N T D l : Nat} {w : Nat → Prop} {f : Nat → Int} {n : Int}
theorem rdy_deal {b A B o a bo : Nat} {z : Int} {p' q' : PM} (d1 : DlC p p') (d2 : DlQ q q') (H : Rdy p q n o a bo) : Rdy p' q' n o a bo := by
  obtain ⟨c1, c2, c3, c4⟩ := d1
  obtain ⟨j1, j2, j3, j4⟩ := d2
  exact rdy_c (fun S => by rw [c1 10 (by decide) (by decide) (by decide) (by decide)]) (fun S => by rw [c4 10 (by decide)]) (fun K k1 k2 _ => by rw [j1 K (by omega) (by omega) (by omega)]) (fun K k1 k2 => by rw [j2 K (by omega)]) H
/-- one more falls -/
theorem fall_step {o a b : Nat} (H : WW p q lg 99 99 w N T D l f) (h1 : 1 ≤ n) (hr : Rdy p q n o a b) : (g10_fall p (o + 1) (cn n) ∧ g12_falls q (cn o) (cn n) (cn 1)) ∧ WW (v10_fall p (o + 1) (cn n)) (v12_falls q (cn o) (cn n) (cn 1)) lg 99 99 (fun i => w i ∨ i = o) N T D l (fu f a (if q.1 13 19 o = cn 4 then n else 0)) ∧ RS (v12_falls q (cn o) (cn n) (cn 1)) 40 = RS q 40 - n ∧ (∀ o' a' b', ¬ o' = o → Rdy p q n o' a' b' → Rdy (v10_fall p (o + 1) (cn n)) (v12_falls q (cn o) (cn n) (cn 1)) n o' a' b') ∧ (∀ k, ¬ k = 10 → (v10_fall p (o + 1) (cn n)).1 k = p.1 k) ∧ (∀ i S, ¬ (S = 9 ∨ S = 11 ∨ S = 16 ∨ S = 2) → (v10_fall p (o + 1) (cn n)).1 10 (i + 1) S = p.1 10 (i + 1) S) ∧ (v10_fall p (o + 1) (cn n)).2 = p.2 ∧ (∀ K i, ¬ K = 4 → ¬ K = 17 → ¬ K = 22 → (v12_falls q (cn o) (cn n) (cn 1)).1 13 K i = q.1 13 K i) ∧ (∀ K i, ¬ K = 6 → ¬ K = 3 → (v12_falls q (cn o) (cn n) (cn 1)).1 15 K i = q.1 15 K i) ∧ (∀ k, ¬ k = 13 → ¬ k = 15 → (v12_falls q (cn o) (cn n) (cn 1)).1 k = q.1 k) ∧ (∀ i, ¬ i = o → (v12_falls q (cn o) (cn n) (cn 1)).1 13 17 i = q.1 13 17 i) ∧ (∃ r : Int, (v12_falls q (cn o) (cn n) (cn 1)).1 13 17 o = cn r ∧ 0 ≤ r ∧ r ≤ 50) := by
  obtain ⟨ho, hl, ⟨r, s, z, hL, hnr, hr5⟩, hsh⟩ := hr
  obtain ⟨⟨g1, g2⟩, W, R, v⟩ := ww_fall (n := n) (st := cn 1) H ho hl hL h1 hnr (Or.inl ⟨rfl, hsh⟩)
  obtain ⟨a1, a2, a3, a4⟩ := fallC_fr (n := n) hL.2.2.2.2.2.2.2.1.2.2.1 ⟨by omega, by omega⟩
  obtain ⟨m1, m2, m3, m4, m5⟩ := fallQ_fr (n := n) (st := cn 1) (o := o) (a := a) (by omega) (by have := hL.1.1; omega) hL.2.2.2.2.2.2.2.1.2.2.2 hL.1.2.1 ⟨by omega, by omega⟩
  refine ⟨⟨g1, g2⟩, W, R, fun o' a' b' hne h => ?_, a1, fun i S hS => ?_, a4, fun K i k1 k2 k3 => m2 K i k1 (by omega), fun K i k1 k2 => m3 K i (by omega), m1, fun i hi => m2 17 i (by decide) (by omega), ⟨r - n, m5, by omega, by omega⟩⟩
  · exact rdy_c (fun S => a2 o' S hne) (fun S => by rw [a4]) (fun K k1 k2 _ => m2 K o' (by omega) (by omega)) (fun K k1 k2 => m3 K o' (by omega)) h
  · by_cases e : i = o
    · rw [e]
      exact a3 S hS
    · exact a2 i S e
end Step
