/-! the next peg; what is wanted at a price; the first of an auction -/
def PegP (q : PM) (before : Int32) (j : Nat) : Prop := q.1 13 19 j = cn 2 ∧ before < q.1 13 14 j
/-- the choice of the reference's loop over pegs, by itself -/
def nxp (q : PM) (v : Int32) : Nat → Nat → Int32 → Int32
  | 0, _, c => c
  | d + 1, i, c => if q.1 15 3 i = 0 then nxp q v d (i + 1) c else if q.1 13 19 i = cn 2 then (if v < q.1 13 14 i then (if c < 0 then nxp q v d (i + 1) (cn i) else if q.1 13 14 i < q.1 13 14 c.toNatClampNeg then nxp q v d (i + 1) (cn i) else nxp q v d (i + 1) c) else nxp q v d (i + 1) c) else nxp q v d (i + 1) c
theorem nxp_tail {q : PM} {v : Int32} (hd : ∀ i, 40 ≤ i → i < 44 → q.1 15 3 i = cn 0) : ∀ (d i : Nat) (c : Int32), i + d = 44 → 40 ≤ i → nxp q v d i c = c := by
  intro d
  induction d with
  | zero => intro i c h1 h0; rfl
  | succ d ih =>
    intro i c h1 h0
    have h3 : q.1 15 3 i = 0 := hd i h0 (by omega)
    show (if q.1 15 3 i = 0 then nxp q v d (i + 1) c else _) = c
    rw [if_pos h3]
    exact ih (i + 1) c (by omega) (by omega)
/-- the class asks for numbers above v, the reference above v' -/
theorem peg_loop {p q : PM} {x y : Nat} {v v' : Int32} (H : OR p q x y) (hv : ∀ i, i < 40 → q.1 15 3 i = cn 1 → (v < q.1 13 14 i) = (v' < q.1 13 14 i)) : ∀ (d i n : Nat) (o : Nat) (c : Int32), i + d = 40 → d < n → ChR q (PegP q v') o c → g6_nextPeg_14 p n v o (cn i) ∧ ChR q (PegP q v') (v6_nextPeg_14 p n v o (cn i)) (nxp q v' (d + 4) i c) := by
  intro d
  induction d with
  | zero =>
    intro i n o c h1 h2 hc
    obtain ⟨m, rfl⟩ : ∃ m, n = m + 1 := ⟨n - 1, by omega⟩
    simp only [eg6_nextPeg_14, ev6_nextPeg_14, bg6_nextPeg_14, bv6_nextPeg_14, if_neg (lpf (i := i) (N := 40) (by omega) (by omega) (by omega))]
    rw [nxp_tail H.2 (0 + 4) i c (by omega) (by omega)]
    exact ⟨trivial, hc⟩
  | succ d ih =>
    intro i n o c h1 h2 hc
    obtain ⟨m, rfl⟩ : ∃ m, n = m + 1 := ⟨n - 1, by omega⟩
    have hi := cninb (i := i) (n := 40) (by omega) (by omega)
    have hS := H.1 i (by omega)
    have hg : (p.1 10 (i + 1) 2 = 0) = (q.1 15 3 i = 0) := slot_gone hS
    have k := fun o c h => ih (i + 1) m o c (by omega) (by omega) h
    have k1 := k o c hc
    rw [show d + 1 + 4 = (d + 4) + 1 by omega]
    unfold nxp
    simp only [eg6_nextPeg_14, ev6_nextPeg_14, bg6_nextPeg_14, bv6_nextPeg_14, if_pos (lpt (i := i) (N := 40) (by omega) (by omega)), cntk (i := i) (by omega), cnsucc, hg]
    by_cases h0 : q.1 15 3 i = 0
    · simp only [if_pos h0]
      exact ⟨⟨hi, k1.1⟩, k1.2⟩
    obtain ⟨hl, a, b, r, s, z, hL⟩ := slot_live hS h0
    have ek := kind_peg hL.2.2.2.1
    have e1 := hL.2.2.1
    have hnew : q.1 13 19 i = cn 2 → v' < q.1 13 14 i → ChR q (PegP q v') (i + 1) (cn i) := fun h5 h6 => Or.inr ⟨i, by omega, rfl, rfl, hl, h5, h6⟩
    rcases hc with ⟨rfl, rfl⟩ | ⟨j, j1, rfl, rfl, j4, j5⟩
    · simp only [if_neg h0, ek, e1, hv i (by omega) hl, if_pos cnm1, if_true]
      repeat' first
        | exact hi
        | exact k1.1
        | exact k1.2
        | exact (k _ _ (hnew (by assumption) (by assumption))).1
        | exact (k _ _ (hnew (by assumption) (by assumption))).2
        | exact trivial
        | exact not_false
        | (split <;> rename_i h9 <;> first | simp only [if_neg h9, if_true, if_false] | simp only [if_pos h9, if_true, if_false] | skip)
        | apply And.intro
    · obtain ⟨_, a', b', r', s', z', hL'⟩ := slot_live (H.1 j j1) (by rw [j4]; exact cn01)
      have hzj : ¬ j + 1 = 0 := by omega
      simp only [if_neg h0, ek, e1, hv i (by omega) hl, hL'.2.2.1, cntk (i := j) (by omega), if_neg (cnge (j := j) (by omega)), s1F, if_false]
      repeat' first
        | exact hi
        | exact hzj
        | exact k1.1
        | exact k1.2
        | exact (k _ _ (hnew (by assumption) (by assumption))).1
        | exact (k _ _ (hnew (by assumption) (by assumption))).2
        | exact trivial
        | exact not_false
        | (split <;> rename_i h9 <;> first | simp only [if_neg h9, if_true, if_false] | simp only [if_pos h9, if_true, if_false] | skip)
        | apply And.intro
theorem peg_eq {p q : PM} {x y : Nat} {v v' : Int32} (H : OR p q x y) (hv : ∀ i, i < 40 → q.1 15 3 i = cn 1 → (v < q.1 13 14 i) = (v' < q.1 13 14 i)) : g6_nextPeg p v ∧ ChR q (PegP q v') (v6_nextPeg p v) (nxp q v' 44 0 (cn (-1))) := peg_loop H hv 40 0 FU 0 (cn (-1)) rfl (by decide) (Or.inl ⟨rfl, rfl⟩)
/-- the loop of the reference is that choice -/
noncomputable def pgK (kv : PM → Int32 → Int32 → PM) (q : PM) (v c : Int32) : PM := if c < 0 then kv q v c else kv (v12_pegs q c) (q.1 13 14 c.toNatClampNeg) c
def pgG (kg : PM → Int32 → Int32 → Prop) (q : PM) (v c : Int32) : Prop := if c < 0 then kg q v c else inb c 44 ∧ g12_pegs q c ∧ kg (v12_pegs q c) (q.1 13 14 c.toNatClampNeg) c
theorem nxp_loop {q : PM} {v : Int32} {kv : PM → Int32 → Int32 → PM} {kg : PM → Int32 → Int32 → Prop} : ∀ (d i n : Nat) (c : Int32), i + d = 44 → d < n → (c < 0 ∨ inb c 44) → v12_pegsAll_12 kv n q v c (cn i) = pgK kv q v (nxp q v d i c) ∧ (pgG kg q v (nxp q v d i c) → g12_pegsAll_12 kg n q v c (cn i)) := by
  intro d
  induction d with
  | zero =>
    intro i n c h1 h2 hc
    obtain ⟨m, rfl⟩ : ∃ m, n = m + 1 := ⟨n - 1, by omega⟩
    simp only [eg12_pegsAll_12, ev12_pegsAll_12, bg12_pegsAll_12, bv12_pegsAll_12, if_neg (lpf (i := i) (N := 44) (by omega) (by omega) (by omega))]
    exact ⟨rfl, id⟩
  | succ d ih =>
    intro i n c h1 h2 hc
    obtain ⟨m, rfl⟩ : ∃ m, n = m + 1 := ⟨n - 1, by omega⟩
    have hi := cninb (i := i) (n := 44) (by omega) (by omega)
    have k := fun c h => ih (i + 1) m c (by omega) (by omega) h
    have k1 := k c hc
    have k2 := k (cn i) (Or.inr hi)
    unfold nxp
    simp only [eg12_pegsAll_12, ev12_pegsAll_12, bg12_pegsAll_12, bv12_pegsAll_12, if_pos (lpt (i := i) (N := 44) (by omega) (by omega)), cntk (i := i) (by omega), cnsucc]
    by_cases h3 : c < 0
    · simp only [if_pos h3]
      repeat' first
        | exact k1.1
        | exact k2.1
        | exact k1.2 ‹_›
        | exact k2.2 ‹_›
        | exact hi
        | (split <;> rename_i h9 <;> first | simp only [if_neg h9] | simp only [if_pos h9] | skip)
        | apply And.intro
        | intro h8
    · have hj := hc.resolve_left h3
      simp only [if_neg h3]
      repeat' first
        | exact k1.1
        | exact k2.1
        | exact k1.2 ‹_›
        | exact k2.2 ‹_›
        | exact hi
        | exact hj
        | (split <;> rename_i h9 <;> first | simp only [if_neg h9] | simp only [if_pos h9] | skip)
        | apply And.intro
        | intro h8
