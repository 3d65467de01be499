/-! those that get some trade, one behind the other -/
section Served
variable {q0 q : PM} {b c : Nat} {t v : Int32} {sz : Bool} {L : Nat → Nat} {g : Nat → Int}
/-- what the reference wrote down before -/
def WAS (q0 q : PM) : Prop := ∀ i, i < 40 → q.1 13 41 i = v12_showsNow q0 (cn i) ∧ q.1 13 42 i = q0.1 13 23 i
def SvI (q0 : PM) (sz : Bool) (c : Nat) (L : Nat → Nat) (g : Nat → Int) (i : Nat) (acc : Int32) : Prop := (acc = cn (-1) ∧ ∀ k, k < c → L k < i → ¬ 0 < g k) ∨ ∃ k, k < c ∧ acc = cn (L k) ∧ L k < i ∧ 0 < g k ∧ ∀ k', k' < c → L k' < i → 0 < g k' → ky q0 sz (L k) ≤ ky q0 sz (L k')
theorem sv_loop (hb : b < 6) (hB : QB q0 b t v) (HL : QL q0 b t v sz 40 c L) (hW : WAS q0 q) (hr : (q.1 13 6 b = cn 2) = (sz = true)) (hg : ∀ k, k < c → q.1 13 29 (L k) = cn (g k) ∧ 0 ≤ g k ∧ g k ≤ 50) (hz : ∀ i, i < 44 → (∀ k, k < c → ¬ L k = i) → q.1 13 29 i = cn 0) : ∀ (d i n : Nat) (acc : Int32), i + d = 44 → d < n → SvI q0 sz c L g i acc → g12_served_6 q n (cn b) acc (cn i) ∧ SvI q0 sz c L g 44 (v12_served_6 q n (cn b) acc (cn i)) := by
  intro d
  induction d with
  | zero =>
    intro i n acc h1 h2 hI
    obtain ⟨m, rfl⟩ : ∃ m, n = m + 1 := ⟨n - 1, by omega⟩
    have e : i = 44 := by omega
    subst e
    simp only [eg12_served_6, ev12_served_6, bg12_served_6, bv12_served_6, if_neg (show ¬ cn ((44 : Nat) : Int) < cn 44 by decide)]
    exact ⟨trivial, hI⟩
  | succ d ih =>
    intro i n acc h1 h2 hI
    obtain ⟨m, rfl⟩ : ∃ m, n = m + 1 := ⟨n - 1, by omega⟩
    have hi := cninb (i := i) (n := 44) (by omega) (by omega)
    have hbi := cninb (i := b) (n := 6) hb (by omega)
    have k := fun acc hI => ih (i + 1) m acc (by omega) (by omega) hI
    have hc := HL.1
    simp only [eg12_served_6, ev12_served_6, bg12_served_6, bv12_served_6, if_pos (lpt (i := i) (N := 44) (by omega) (by omega)), cntk (i := i) (by omega), cntk (i := b) (by omega), hr, cnsucc]
    by_cases hin : ∃ kk, kk < c ∧ L kk = i ∧ 0 < g kk
    · obtain ⟨kk, k1, k2, k3⟩ := hin
      obtain ⟨g1, g2, g3⟩ := hg kk k1
      rw [k2] at g1
      have hi40 : i < 40 := by have := (HL.2.1 kk k1).1; omega
      have hA := (HL.2.1 kk k1).2
      rw [k2] at hA
      obtain ⟨d1, d2, d3, d4, d5, d6⟩ := hB i (by omega) hA
      have cg : (0 < cn (g kk)) = True := by
        rw [zcn, cnlt ⟨by decide, by decide⟩ ⟨by omega, by omega⟩]
        exact eq_true k3
      have uniq : ∀ k', k' < c → L k' = i → k' = kk := fun k' h h' => ql_inj HL k' kk h k1 (h'.trans k2.symm)
      have hnewI : (∀ k', k' < c → L k' < i → 0 < g k' → ky q0 sz i ≤ ky q0 sz (L k')) → SvI q0 sz c L g (i + 1) (cn i) := by
        intro h
        refine Or.inr ⟨kk, k1, by rw [k2], by omega, k3, fun k' h7 h8 h9 => ?_⟩
        rw [k2]
        by_cases e : L k' = i
        · rw [e]
          exact Int.le_refl _
        · exact h k' h7 (by omega) h9
      rcases hI with ⟨n1, n2⟩ | ⟨ko, o1, o2, o3, o4, o5⟩
      · have kn := k (cn i) (hnewI fun k' h7 h8 h9 => absurd h9 (n2 k' h7 h8))
        cases sz with
        | false =>
          simp only [g1, cg, n1, if_true, if_false, Bool.false_eq_true, if_pos cnm1]
          exact ⟨⟨hi, hbi, kn.1⟩, kn.2⟩
        | true =>
          simp only [g1, cg, n1, if_true, if_pos cnm1]
          exact ⟨⟨hi, hbi, kn.1⟩, kn.2⟩
      · have ho := HL.2.1 ko o1
        obtain ⟨f1, f2, f3, f4, f5, f6⟩ := hB (L ko) (by omega) ho.2
        have his := cninb (i := L ko) (n := 44) (by omega) (by omega)
        obtain ⟨w1, w2⟩ := hW i hi40
        obtain ⟨w3, w4⟩ := hW (L ko) f1
        have kn := fun h => k (cn i) (hnewI h)
        have kold := fun (h : ¬ ky q0 sz i < ky q0 sz (L ko)) => k (cn (L ko)) (Or.inr ⟨ko, o1, rfl, by omega, o4, fun k' h7 h8 h9 => by
          by_cases e : L k' = i
          · rw [e]
            omega
          · exact o5 k' h7 (by omega) h9⟩)
        have e6 : (q0.1 13 23 i < q0.1 13 23 (L ko)) = ((q0.1 13 23 i).toInt < (q0.1 13 23 (L ko)).toInt) := propext Int32.lt_iff_toInt_lt
        have e4 : (cn (sw q0 (L ko)) < cn (sw q0 i)) = (sw q0 (L ko) < sw q0 i) := cnlt ⟨by omega, by omega⟩ ⟨by omega, by omega⟩
        have e5 : (cn (sw q0 i) = cn (sw q0 (L ko))) = (sw q0 i = sw q0 (L ko)) := cneq ⟨by omega, by omega⟩ ⟨by omega, by omega⟩
        have better : ky q0 sz i < ky q0 sz (L ko) → ∀ k', k' < c → L k' < i → 0 < g k' → ky q0 sz i ≤ ky q0 sz (L k') := fun h k' h7 h8 h9 => by
          have := o5 k' h7 h8 h9
          omega
        cases sz with
        | false =>
          simp only [ky_f] at better kold
          simp only [g1, cg, o2, if_true, if_false, Bool.false_eq_true, if_neg (cnge (j := L ko) (by omega)), cntk (i := L ko) (by omega), w2, w4, e6]
          by_cases h : (q0.1 13 23 i).toInt < (q0.1 13 23 (L ko)).toInt
          · have kn2 := kn (by simp only [ky_f]; exact better h)
            simp only [if_pos h]
            exact ⟨⟨hi, hbi, hi, his, kn2.1⟩, kn2.2⟩
          · have kn2 := kold h
            simp only [if_neg h]
            exact ⟨⟨hi, hbi, hi, his, kn2.1⟩, kn2.2⟩
        | true =>
          simp only [ky_t] at better kold
          simp only [g1, cg, o2, if_true, if_neg (cnge (j := L ko) (by omega)), cntk (i := L ko) (by omega), w1, w2, w3, w4, d4, f4, e4, e5, e6]
          by_cases h : sw q0 (L ko) < sw q0 i
          · have kn2 := kn (by simp only [ky_t]; exact better (by omega))
            simp only [if_pos h]
            exact ⟨⟨hi, hbi, hi, his, kn2.1⟩, kn2.2⟩
          · by_cases h2 : sw q0 i = sw q0 (L ko)
            · by_cases h3 : (q0.1 13 23 i).toInt < (q0.1 13 23 (L ko)).toInt
              · have kn2 := kn (by simp only [ky_t]; exact better (by omega))
                simp only [if_neg h, if_pos h2, if_pos h3]
                exact ⟨⟨hi, hbi, hi, his, hi, his, hi, his, kn2.1⟩, kn2.2⟩
              · have kn2 := kold (by omega)
                simp only [if_neg h, if_pos h2, if_neg h3]
                exact ⟨⟨hi, hbi, hi, his, hi, his, hi, his, kn2.1⟩, kn2.2⟩
            · have kn2 := kold (by omega)
              simp only [if_neg h, if_neg h2]
              exact ⟨⟨hi, hbi, hi, his, hi, his, kn2.1⟩, kn2.2⟩
    · have hz0 : ¬ 0 < q.1 13 29 i := by
        by_cases e : ∃ kk, kk < c ∧ L kk = i
        · obtain ⟨kk, k1, k2⟩ := e
          obtain ⟨g1, g2, g3⟩ := hg kk k1
          rw [k2] at g1
          rw [g1, zcn, cnlt ⟨by decide, by decide⟩ ⟨by omega, by omega⟩]
          intro h
          exact hin ⟨kk, k1, k2, h⟩
        · rw [hz i (by omega) fun k hk e2 => e ⟨k, hk, e2⟩]
          decide
      have kn := k acc (by
        rcases hI with ⟨n1, n2⟩ | ⟨ko, o1, o2, o3, o4, o5⟩
        · refine Or.inl ⟨n1, fun k' h7 h8 h9 => ?_⟩
          by_cases e : L k' = i
          · exact hin ⟨k', h7, e, h9⟩
          · exact n2 k' h7 (by omega) h9
        · refine Or.inr ⟨ko, o1, o2, by omega, o4, fun k' h7 h8 h9 => ?_⟩
          by_cases e : L k' = i
          · exact absurd ⟨k', h7, e, h9⟩ hin
          · exact o5 k' h7 (by omega) h9)
      simp only [if_neg hz0, ite_self]
      exact ⟨⟨hi, hbi, kn.1⟩, kn.2⟩
theorem sv_eq (hb : b < 6) (hB : QB q0 b t v) (HL : QL q0 b t v sz 40 c L) (hW : WAS q0 q) (hr : (q.1 13 6 b = cn 2) = (sz = true)) (hg : ∀ k, k < c → q.1 13 29 (L k) = cn (g k) ∧ 0 ≤ g k ∧ g k ≤ 50) (hz : ∀ i, i < 44 → (∀ k, k < c → ¬ L k = i) → q.1 13 29 i = cn 0) (u w : Int32) : g12_served q (cn b) u w ∧ (∀ m, m < c → 0 < g m → (∀ k, k < m → ¬ 0 < g k) → v12_served q (cn b) u w = cn (L m)) ∧ ((∀ k, k < c → ¬ 0 < g k) → v12_served q (cn b) u w = cn (-1)) := by
  obtain ⟨h1, h2⟩ := sv_loop hb hB HL hW hr hg hz 44 0 FU (cn (-1)) rfl (by decide) (Or.inl ⟨rfl, fun k _ h => absurd h (by omega)⟩)
  have hlt : ∀ k, k < c → L k < 44 := fun k hk => by have := (HL.2.1 k hk).1; omega
  refine ⟨h1, fun m m1 m2 m3 => ?_, fun h => ?_⟩
  · rcases h2 with ⟨n1, n2⟩ | ⟨ko, o1, o2, o3, o4, o5⟩
    · exact absurd m2 (n2 m m1 (hlt m m1))
    · refine o2.trans ?_
      have h3 := o5 m m1 (hlt m m1) m2
      by_cases e : ko = m
      · rw [e]
      · have h4 : ¬ ko < m := fun h => m3 ko h o4
        have := HL.2.2.1 m ko (by omega) o1
        omega
  · rcases h2 with ⟨n1, n2⟩ | ⟨ko, o1, o2, o3, o4, o5⟩
    · exact n1
    · exact absurd o4 (h ko o1)
end Served
theorem lv_slot {p q : PM} {lg : Nat → Int32} {x y N T D l : Nat} {w : Nat → Prop} {f : Nat → Int} (H : WW p q lg x y w N T D l f) {i b : Nat} (hi : i < 40) (hl : q.1 15 3 i = cn 1) (hb : b < 6) (hk : q.1 13 16 i = cn b) : ∃ (a : Nat) (r s z : Int), LV p q x y i a b r s z := by
  obtain ⟨_, a, b', r, s, z, hL⟩ := slot_live (H.1.1.1 i hi) (by rw [hl]; exact cn01)
  have e := hL.2.1.2.1
  have := hL.2.1.1
  rw [hk, cneq ⟨by omega, by omega⟩ ⟨by omega, by omega⟩] at e
  have e2 : b = b' := by omega
  rw [e2]
  exact ⟨a, r, s, z, hL⟩
theorem live_b {p q : PM} {x y i : Nat} (H : OR p q x y) (hi : i < 40) (h : ¬ q.1 15 3 i = 0) : q.1 15 3 i = cn 1 := b_ne (or_b H i (by omega)) h
section Deals
variable {q0 : PM} {lg : Nat → Int32} {x b c N l : Nat} {t : Int32} {sz : Bool} {L : Nat → Nat} {g : Nat → Int} {z : Int}
theorem dl_loop {kv : PM → Nat → Nat → Int32 → PM} {kg : PM → Nat → Nat → Int32 → Prop} {v3 : Int32} {B0 : Int} (hb : b < 6) (hx : x < 40) (hB : QB q0 b t (cn z)) (HL : QL q0 b t (cn z) sz 40 c L) (hz : PrB b z) (hLx : ∀ k, k < c → ¬ L k = x ∧ q0.1 13 16 (L k) = cn b ∧ q0.1 13 24 (L k) = cn 1) (hg : ∀ k, k < c → 0 ≤ g k ∧ g k ≤ sw q0 (L k)) : ∀ (d j n n' : Nat) (p q : PM) (T D : Nat), j + d = c → d < n → d < n' → WW p q lg x 99 (fun _ => False) N T D l (fun _ => 0) → (∀ k, k < c → p.2.2 20 2 k = L k + 1 ∧ p.1 13 19 k = cn (g k)) → (∀ k, k < c → q.1 13 29 (L k) = cn (if k < j then 0 else g k)) → (∀ i, i < 44 → (∀ k, k < c → ¬ L k = i) → q.1 13 29 i = cn 0) → WAS q0 q → (q.1 13 6 b = cn 2) = (sz = true) → q.1 13 16 x = cn b → (q.1 15 3 x = cn 1 → ∃ r : Int, q.1 13 17 x = cn r ∧ 0 ≤ r ∧ r ≤ 50 ∧ sm g j d ≤ r) → (∀ k, j ≤ k → k < c → q.1 13 16 (L k) = cn b ∧ q.1 13 24 (L k) = cn 1 ∧ p.1 10 (L k + 1) 11 = cn (sw q0 (L k))) → T + RS q 40 + 2 ≤ 1000000000 → D + RS q 40 + 2 ≤ 1000000000 → (RS q 40 < B0 ∨ (q.1 15 3 x = cn 1 ∧ (∀ k, k < c → q.1 15 3 (L k) = cn 1) ∧ RS q 40 = B0 ∧ ∃ k, j ≤ k ∧ k < c ∧ 0 < g k)) →
    ∃ (p2 q2 : PM) (T2 D2 : Nat), (v8_match_141 kv n p (x + 1) (b + 1) v3 (cn z) (cn c) (cn j) = kv p2 (x + 1) (b + 1) (v3 + cn 1) ∧ (kg p2 (x + 1) (b + 1) (v3 + cn 1) → g8_match_141 kg n p (x + 1) (b + 1) v3 (cn z) (cn c) (cn j))) ∧ (v12_servesAll_147 n' q (cn x) (cn z) (cn b) t (v12_served q (cn b) t (cn z)) = q2 ∧ g12_servesAll_147 n' q (cn x) (cn z) (cn b) t (v12_served q (cn b) t (cn z))) ∧ WW p2 q2 lg x 99 (fun _ => False) N T2 D2 l (fun _ => 0) ∧ T2 + RS q2 40 ≤ T + RS q 40 ∧ D2 + RS q2 40 ≤ D + RS q 40 ∧ (T ≤ T2 ∧ D ≤ D2) ∧ RS q2 40 < B0 ∧ (∀ K, 14 ≤ K → K ≤ 28 → ¬ K = 17 → ¬ K = 22 → q2.1 13 K x = q.1 13 K x) ∧ (∀ K, K = 4 ∨ K = 5 → q2.1 15 K x = q.1 15 K x) ∧ (∀ K, 2 ≤ K → K ≤ 13 → ¬ K = 4 → ¬ K = 10 → q2.1 13 K = q.1 13 K) ∧ (q2.1 15 3 x = cn 1 → q.1 15 3 x = cn 1) := by
  intro d
  induction d with
  | zero =>
    intro j n n' p q T D h1 h2 h3 H hq1 hq2 hq3 hW hr hx16 hx17 hk hT hD hB0
    obtain ⟨m, rfl⟩ : ∃ m, n = m + 1 := ⟨n - 1, by omega⟩
    obtain ⟨m', rfl⟩ : ∃ m, n' = m + 1 := ⟨n' - 1, by omega⟩
    have e : j = c := by omega
    subst e
    have hc := HL.1
    obtain ⟨s1, s2, s3⟩ := sv_eq hb hB HL hW hr (g := fun k => if k < j then 0 else g k) (fun k hk => by
      have := hg k hk
      obtain ⟨d1, d2, d3, d4, d5, d6⟩ := hB (L k) (by have := (HL.2.1 k hk).1; omega) (HL.2.1 k hk).2
      refine ⟨hq2 k hk, ?_⟩
      split <;> omega) hq3 t (cn z)
    have s4 := s3 (fun k hk => by rw [if_pos hk]; omega)
    rw [s4]
    refine ⟨p, q, T, D, ?_, ?_, H, Int.le_refl _, Int.le_refl _, ⟨Nat.le_refl _, Nat.le_refl _⟩, ?_, fun _ _ _ _ _ => rfl, fun _ _ => rfl, fun _ _ _ _ _ => rfl, fun h => h⟩
    · simp only [eg8_match_141, ev8_match_141, bg8_match_141, bv8_match_141, if_neg (lpf (i := j) (N := j) (Int.le_refl _) (by omega) (by omega))]
      exact ⟨trivial, fun h => h⟩
    · simp only [eg12_servesAll_147, ev12_servesAll_147, bg12_servesAll_147, bv12_servesAll_147, if_pos cnm1]
      exact ⟨trivial, trivial⟩
    · rcases hB0 with h | ⟨-, -, -, k, k1, k2, -⟩
      · exact h
      · omega
  | succ d ih =>
    intro j n n' p q T D h1 h2 h3 H hq1 hq2 hq3 hW hr hx16 hx17 hk hT hD hB0
    obtain ⟨m, rfl⟩ : ∃ m, n = m + 1 := ⟨n - 1, by omega⟩
    have hc := HL.1
    have hj : j < c := by omega
    have hlj := HL.2.1 j hj
    have hLb := (lv_slot (i := L j) (b := b) H (by omega))
    have hRp := (RS_rng H.1.1 40 (by decide)).1
    have hi := cninb (i := j) (n := 40) (by omega) (by omega)
    have hiL := cninb (i := L j) (n := 44) (by omega) (by omega)
    have hiX := cninb (i := x) (n := 44) (by omega) (by omega)
    have hz1 : ¬ L j + 1 = 0 := by omega
    have hzx : ¬ x + 1 = 0 := by omega
    obtain ⟨e1, e2⟩ := hq1 j hj
    obtain ⟨g1, g2⟩ := hg j hj
    obtain ⟨d1, d2, d3, d4, d5, d6⟩ := hB (L j) (by omega) hlj.2
    obtain ⟨lx1, lx2, lx3⟩ := hLx j hj
    obtain ⟨k16, k24, k11⟩ := hk j (Nat.le_refl _) hj
    have hgs : ∀ k, k < c → 0 ≤ (if k < j then 0 else g k) ∧ (if k < j then 0 else g k) ≤ 50 := by
      intro k hk
      have := hg k hk
      obtain ⟨d1, d2, d3, d4, d5, d6⟩ := hB (L k) (by have := (HL.2.1 k hk).1; omega) (HL.2.1 k hk).2
      split <;> omega
    have cg : (0 < cn (g j)) = (0 < g j) := by rw [zcn, cnlt ⟨by decide, by decide⟩ ⟨by omega, by omega⟩]
    have smj : sm g j (d + 1) = g j + sm g (j + 1) d := rfl
    have hsm0 : 0 ≤ sm g (j + 1) d := by
      rw [sm_sq]
      have : ∀ a e : Nat, a + e ≤ c → 0 ≤ sq g (a + e) - sq g a := by
        intro a e
        induction e with
        | zero =>
          intro _
          rw [Nat.add_zero]
          omega
        | succ e ihe =>
          intro h
          have h9 := ihe (by omega)
          have h8 := (hg (a + e) (by omega)).1
          show 0 ≤ sq g (a + e) + g (a + e) - sq g a
          omega
      exact this (j + 1) d (by omega)
    by_cases hgj : 0 < g j
    · obtain ⟨s1, s2, s3⟩ := sv_eq hb hB HL hW hr (g := fun k => if k < j then 0 else g k) (fun k hk => ⟨hq2 k hk, hgs k hk⟩) hq3 t (cn z)
      have s4 := s2 j hj (by rw [if_neg (by omega)]; exact hgj) (fun k hk => by rw [if_pos hk]; omega)
      obtain ⟨m', rfl⟩ : ∃ m, n' = m + 1 := ⟨n' - 1, by omega⟩
      -- both skip, or both trade
      have hS := H.1.1.1 (L j) (by omega)
      have hSx := H.1.1.1 x hx
      have go1 : (p.1 10 (L j + 1) 2 = 0) = (q.1 15 3 (L j) = 0) := slot_gone hS
      have go2 : (p.1 10 (x + 1) 2 = 0) = (q.1 15 3 x = 0) := slot_gone hSx
      by_cases hlive : ¬ q.1 15 3 (L j) = 0 ∧ ¬ q.1 15 3 x = 0
      · have lo := live_b H.1.1 (i := L j) (by omega) hlive.1
        have lx := live_b H.1.1 (i := x) hx hlive.2
        obtain ⟨ao, ro, so, zo, hLo⟩ := hLb lo hb k16
        obtain ⟨ax, rx, sx, zx, hLxx⟩ := lv_slot (i := x) H hx lx hb hx16
        obtain ⟨r, r1, r2, r3, r4⟩ := hx17 lx
        have rrx := hLxx.2.2.2.2.2.2.2.1
        have rro := hLo.2.2.2.2.2.2.2.1
        have erx : rx = r := by
          have e := rrx.2.2.2
          rw [r1, cneq ⟨by omega, by omega⟩ ⟨by omega, by omega⟩] at e
          exact e.symm
        have hh : sw q0 (L j) ≤ ro := by
          rcases hLo.2.2.2.2.2.2.2.2.2.2.2.2 with m1 | ⟨m1, m2, m3, v, m4, m5, m6, m7⟩ | ⟨m1, m2, m3, -⟩
          · exact absurd m1.1 lx1
          · obtain ⟨h, n1, n2, n3, n4, n5⟩ := m6 (by omega)
            rw [k11, cneq ⟨by omega, by omega⟩ ⟨by omega, by omega⟩] at n4
            omega
          · rw [k24] at m3
            exact absurd m3 (by decide)
        have hgq : q.1 13 29 (L j) = cn (g j) := by
          rw [hq2 j hj, if_neg (by omega)]
        obtain ⟨⟨⟨a1, a2⟩, a3⟩, T', b1, b2, W', b3, b4, b5, b6, b7, b8, b9, b10, b11, b12, b13, b14⟩ := ww_strike (n := g j) H hx (by omega) lx1 lx lo hLxx hLo (by omega) hz (by omega) (by omega) (by omega) (fun h n1 n2 n3 => by
          rw [k11, cneq ⟨by omega, by omega⟩ ⟨by omega, by omega⟩] at n3
          omega) hgq (by omega) (by omega)
        generalize hp1 : v6_showAnew (v8_strike p (x + 1) (L j + 1) (cn z) (cn (g j))) (L j + 1) = p1 at a2 W' b12 b13 b14
        generalize hq1' : v12_tradesWith q (cn x) (cn (L j)) (cn z) = q1 at W' b3 b4 b5 b6 b7 b8 b9 b10 b11
        have W2 : WW p1 (pI q1 13 29 (L j) (cn 0)) lg x 99 (fun _ => False) N T' (D + 1) l (fun _ => 0) := ww_scr W' (fun K h _ _ => by
          funext s
          exact u3_i h) rfl (fun _ _ _ _ => rfl) rfl
        have hRS2 : RS (pI q1 13 29 (L j) (cn 0)) 40 = RS q1 40 := RS_c rfl (by
          funext s
          rw [pI_1, u3_i (by decide)])
        have f29 : ∀ i, ¬ i = L j → (pI q1 13 29 (L j) (cn 0)).1 13 29 i = q.1 13 29 i := by
          intro i h
          rw [pI_1, u3_s h, b9, pI_1, u3_s h]
        have fK : ∀ K i, ¬ K = 29 → (pI q1 13 29 (L j) (cn 0)).1 13 K i = q1.1 13 K i := fun K i h => u3_i h
        have hneL : ∀ k, k < c → ¬ k = j → ¬ L k = L j := fun k hk h e => h (ql_inj HL k j hk hj e)
        obtain ⟨p2, q2, T2, D2, c1, c2, c3, c4, c5, c6, c7, c8, c9, c10, c11⟩ := ih (j + 1) m m' p1 (pI q1 13 29 (L j) (cn 0)) T' (D + 1) (by omega) (by omega) (by omega) W2 (fun k hk => by
            rw [b13, b14]
            exact hq1 k hk) (fun k hk => by
            by_cases e : k = j
            · rw [e, if_pos (by omega)]
              exact pI_at
            · rw [f29 _ (hneL k hk e), hq2 k hk]
              by_cases e2 : k < j
              · rw [if_pos e2, if_pos (by omega)]
              · rw [if_neg e2, if_neg (by omega)]) (fun i hi h => by
            rw [f29 i (fun e => h j hj e.symm)]
            exact hq3 i hi h) (fun i hi => by
            rw [fK 41 i (by decide), fK 42 i (by decide), b10 41 (by decide), b10 42 (by decide)]
            exact hW i hi) (by
            rw [fK 6 b (by decide), b11 6 (by decide) (by decide) (by decide) (by decide)]
            exact hr) (by
            rw [fK 16 x (by decide), b6 16 x (by decide) (by decide) (fun h => lx1 h.symm) (by omega)]
            exact hx16) (fun h => ⟨rx - g j, by rw [fK 17 x (by decide)]; exact b5, by omega, by omega, by omega⟩) (fun k h9 h8 => by
            have hne := hneL k h8 (by omega)
            have hxk := (hLx k h8).1
            obtain ⟨m1, m2, m3⟩ := hk k (by omega) h8
            refine ⟨?_, ?_, ?_⟩
            · rw [fK 16 _ (by decide), b6 16 _ (by decide) (by decide) hne (fun h => hxk h.1)]
              exact m1
            · rw [fK 24 _ (by decide), b6 24 _ (by decide) (by decide) hne (fun h => hxk h.1)]
              exact m2
            · rw [b12 _ hxk hne]
              exact m3) (by omega) (by omega) (Or.inl (by
            rcases hB0 with h | ⟨-, -, h, -⟩ <;> omega))
        have hsrv := sv_eq hb hB HL (q := pI q1 13 29 (L j) (cn 0)) (g := fun k => if k < j + 1 then 0 else g k) (fun i hi => by
            rw [fK 41 i (by decide), fK 42 i (by decide), b10 41 (by decide), b10 42 (by decide)]
            exact hW i hi) (by
            rw [fK 6 b (by decide), b11 6 (by decide) (by decide) (by decide) (by decide)]
            exact hr) (fun k hk => by
            have hg9 := hg k hk
            obtain ⟨y1, y2, y3, y4, y5, y6⟩ := hB (L k) (by have := (HL.2.1 k hk).1; omega) (HL.2.1 k hk).2
            refine ⟨?_, by split <;> omega⟩
            by_cases e : k = j
            · rw [e, if_pos (by omega)]
              exact pI_at
            · rw [f29 _ (hneL k hk e), hq2 k hk]
              by_cases e2 : k < j
              · rw [if_pos e2, if_pos (by omega)]
              · rw [if_neg e2, if_neg (by omega)]) (fun i hi h => by
            rw [f29 i (fun e => h j hj e.symm)]
            exact hq3 i hi h) t (cn z)
        refine ⟨p2, q2, T2, D2, ?_, ?_, c3, by omega, by omega, ⟨by omega, by omega⟩, c7, fun K n1 n2 n3 n4 => ?_, fun K n1 => ?_, fun K n1 n2 n3 n4 => ?_, fun h => ?_⟩
        · have hl1 : ¬ p.1 10 (L j + 1) 2 = 0 := by
            rw [go1]
            exact hlive.1
          have hl2 : ¬ p.1 10 (x + 1) 2 = 0 := by
            rw [go2]
            exact hlive.2
          simp only [eg8_match_141, ev8_match_141, bg8_match_141, bv8_match_141, if_pos (lpt (i := j) (N := c) (by omega) (by omega)), if_pos (lpt (i := j) (N := 40) (by omega) (by omega)), cntk (i := j) (by omega), e1, e2, cg, if_pos hgj, if_neg hl1, if_neg hl2, hp1, cnsucc]
          exact ⟨c1.1, fun h => ⟨hi, hi, hz1, hzx, a1, a2, c1.2 h⟩⟩
        · rw [s4]
          simp only [eg12_servesAll_147, ev12_servesAll_147, bg12_servesAll_147, bv12_servesAll_147, if_neg (cnge (j := L j) (by omega)), cntk (i := L j) (by omega), cntk (i := x) (by omega), if_neg hlive.1, if_neg hlive.2, hq1']
          exact ⟨c2.1, hiL, hiX, a3, hiL, hsrv.1, c2.2⟩
        · rw [c8 K n1 n2 n3 n4, fK K x (by omega), b6 K x n1 n2 (fun h => lx1 h.symm) (by omega)]
        · rw [c9 K n1]
          exact b7 K x (by omega) (by omega)
        · rw [c10 K n1 n2 n3 n4]
          funext i
          rw [fK K i (by omega), b11 K n1 n2 n3 n4]
        · exact b8 x (c11 h)
      · -- one of both is gone
        have hno : q.1 15 3 (L j) = 0 ∨ (¬ q.1 15 3 (L j) = 0 ∧ q.1 15 3 x = 0) := by
          by_cases e : q.1 15 3 (L j) = 0
          · exact Or.inl e
          · by_cases e2 : q.1 15 3 x = 0
            · exact Or.inr ⟨e, e2⟩
            · exact absurd ⟨e, e2⟩ hlive
        have W2 : WW p (pI q 13 29 (L j) (cn 0)) lg x 99 (fun _ => False) N T D l (fun _ => 0) := ww_scr H (fun K h _ _ => by
          funext s
          exact u3_i h) rfl (fun _ _ _ _ => rfl) rfl
        have hRS2 : RS (pI q 13 29 (L j) (cn 0)) 40 = RS q 40 := RS_c rfl (by
          funext s
          rw [pI_1, u3_i (by decide)])
        have f29 : ∀ i, ¬ i = L j → (pI q 13 29 (L j) (cn 0)).1 13 29 i = q.1 13 29 i := by
          intro i h
          rw [pI_1, u3_s h]
        have fK : ∀ K i, ¬ K = 29 → (pI q 13 29 (L j) (cn 0)).1 13 K i = q.1 13 K i := fun K i h => u3_i h
        have hneL : ∀ k, k < c → ¬ k = j → ¬ L k = L j := fun k hk h e => h (ql_inj HL k j hk hj e)
        obtain ⟨p2, q2, T2, D2, c1, c2, c3, c4, c5, c6, c7, c8, c9, c10, c11⟩ := ih (j + 1) m m' p (pI q 13 29 (L j) (cn 0)) T D (by omega) (by omega) (by omega) W2 hq1 (fun k hk => by
            by_cases e : k = j
            · rw [e, if_pos (by omega)]
              exact pI_at
            · rw [f29 _ (hneL k hk e), hq2 k hk]
              by_cases e2 : k < j
              · rw [if_pos e2, if_pos (by omega)]
              · rw [if_neg e2, if_neg (by omega)]) (fun i hi h => by
            rw [f29 i (fun e => h j hj e.symm)]
            exact hq3 i hi h) (fun i hi => by
            rw [fK 41 i (by decide), fK 42 i (by decide)]
            exact hW i hi) (by
            rw [fK 6 b (by decide)]
            exact hr) (by
            rw [fK 16 x (by decide)]
            exact hx16) (fun h => by
            obtain ⟨r, r1, r2, r3, r4⟩ := hx17 h
            exact ⟨r, by rw [fK 17 x (by decide)]; exact r1, r2, r3, by omega⟩) (fun k h9 h8 => by
            obtain ⟨m1, m2, m3⟩ := hk k (by omega) h8
            exact ⟨by rw [fK 16 _ (by decide)]; exact m1, by rw [fK 24 _ (by decide)]; exact m2, m3⟩) (by omega) (by omega) (Or.inl (by
            rcases hB0 with h | ⟨h, h', -⟩
            · omega
            · rcases hno with h9 | h9
              · rw [h' j hj] at h9
                exact absurd h9 cn01
              · rw [h] at h9
                exact absurd h9.2 cn01))
        have hsrv := sv_eq hb hB HL (q := pI q 13 29 (L j) (cn 0)) (g := fun k => if k < j + 1 then 0 else g k) (fun i hi => by
            rw [fK 41 i (by decide), fK 42 i (by decide)]
            exact hW i hi) (by
            rw [fK 6 b (by decide)]
            exact hr) (fun k hk => by
            have hg9 := hg k hk
            obtain ⟨y1, y2, y3, y4, y5, y6⟩ := hB (L k) (by have := (HL.2.1 k hk).1; omega) (HL.2.1 k hk).2
            refine ⟨?_, by split <;> omega⟩
            by_cases e : k = j
            · rw [e, if_pos (by omega)]
              exact pI_at
            · rw [f29 _ (hneL k hk e), hq2 k hk]
              by_cases e2 : k < j
              · rw [if_pos e2, if_pos (by omega)]
              · rw [if_neg e2, if_neg (by omega)]) (fun i hi h => by
            rw [f29 i (fun e => h j hj e.symm)]
            exact hq3 i hi h) t (cn z)
        refine ⟨p2, q2, T2, D2, ?_, ?_, c3, by omega, by omega, c6, c7, fun K n1 n2 n3 n4 => ?_, fun K n1 => c9 K n1, fun K n1 n2 n3 n4 => ?_, fun h => c11 h⟩
        · rcases hno with h9 | h9
          · have hl1 : p.1 10 (L j + 1) 2 = 0 := by
              rw [go1]
              exact h9
            simp only [eg8_match_141, ev8_match_141, bg8_match_141, bv8_match_141, if_pos (lpt (i := j) (N := c) (by omega) (by omega)), if_pos (lpt (i := j) (N := 40) (by omega) (by omega)), cntk (i := j) (by omega), e1, e2, cg, if_pos hgj, if_pos hl1, cnsucc]
            exact ⟨c1.1, fun h => ⟨hi, hi, hz1, c1.2 h⟩⟩
          · have hl1 : ¬ p.1 10 (L j + 1) 2 = 0 := by
              rw [go1]
              exact h9.1
            have hl2 : p.1 10 (x + 1) 2 = 0 := by
              rw [go2]
              exact h9.2
            simp only [eg8_match_141, ev8_match_141, bg8_match_141, bv8_match_141, if_pos (lpt (i := j) (N := c) (by omega) (by omega)), if_pos (lpt (i := j) (N := 40) (by omega) (by omega)), cntk (i := j) (by omega), e1, e2, cg, if_pos hgj, if_neg hl1, if_pos hl2, cnsucc]
            exact ⟨c1.1, fun h => ⟨hi, hi, hz1, hzx, c1.2 h⟩⟩
        · rw [s4]
          rcases hno with h9 | h9
          · simp only [eg12_servesAll_147, ev12_servesAll_147, bg12_servesAll_147, bv12_servesAll_147, if_neg (cnge (j := L j) (by omega)), cntk (i := L j) (by omega), cntk (i := x) (by omega), if_pos h9]
            exact ⟨c2.1, hiL, hiL, hsrv.1, c2.2⟩
          · simp only [eg12_servesAll_147, ev12_servesAll_147, bg12_servesAll_147, bv12_servesAll_147, if_neg (cnge (j := L j) (by omega)), cntk (i := L j) (by omega), cntk (i := x) (by omega), if_neg h9.1, if_pos h9.2]
            exact ⟨c2.1, hiL, hiX, hiL, hsrv.1, c2.2⟩
        · rw [c8 K n1 n2 n3 n4, fK K x (by omega)]
        · rw [c10 K n1 n2 n3 n4]
          funext i
          rw [fK K i (by omega)]
    · -- it gets nothing
      have hg0 : g j = 0 := by omega
      obtain ⟨p2, q2, T2, D2, c1, c2, c3, c4, c5, c6, c7, c8, c9, c10, c11⟩ := ih (j + 1) m n' p q T D (by omega) (by omega) (by omega) H hq1 (fun k hk => by
          rw [hq2 k hk]
          by_cases e : k < j
          · rw [if_pos e, if_pos (by omega)]
          · by_cases e2 : k = j
            · rw [if_neg e, if_pos (by omega), e2, hg0]
            · rw [if_neg e, if_neg (by omega)]) hq3 hW hr hx16 (fun h => by
          obtain ⟨r, r1, r2, r3, r4⟩ := hx17 h
          exact ⟨r, r1, r2, r3, by omega⟩) (fun k h9 h8 => hk k (by omega) h8) hT hD (by
          rcases hB0 with h | ⟨h, h', h'', k, k1, k2, k3⟩
          · exact Or.inl h
          · refine Or.inr ⟨h, h', h'', k, ?_, k2, k3⟩
            by_cases e : k = j
            · rw [e] at k3
              exact absurd k3 hgj
            · omega)
      refine ⟨p2, q2, T2, D2, ?_, c2, c3, c4, c5, c6, c7, c8, c9, c10, c11⟩
      simp only [eg8_match_141, ev8_match_141, bg8_match_141, bv8_match_141, if_pos (lpt (i := j) (N := c) (by omega) (by omega)), if_pos (lpt (i := j) (N := 40) (by omega) (by omega)), cntk (i := j) (by omega), e1, e2, cg, if_neg hgj, cnsucc]
      exact ⟨c1.1, fun h => ⟨hi, hi, c1.2 h⟩⟩
end Deals
