/-! all pegs, by their numbers -/
def pc (q : PM) (v : Int32) (i : Nat) : Nat := if q.1 15 3 i = cn 1 ∧ q.1 13 19 i = cn 2 ∧ v < q.1 13 14 i then 1 else 0
def PC (q : PM) (v : Int32) : Nat → Nat
  | 0 => 0
  | n + 1 => PC q v n + pc q v n
/-- a peg stands in an open book alone -/
def NPA (q : PM) : Prop := ∀ i, i < 40 → stnd q i → q.1 13 19 i = cn 2 → ¬ v12_isOpen q (q.1 13 16 i) = 0
theorem lt_tr {a b c : Int32} (h : a < b) (h2 : b < c) : a < c := by
  rw [Int32.lt_iff_toInt_lt] at *
  omega
theorem lt_irr {a : Int32} : ¬ a < a := by
  rw [Int32.lt_iff_toInt_lt]
  omega
section Pc
variable {q q' : PM} {v v' : Int32}
theorem pc_le (h1 : q'.1 15 3 = q.1 15 3) (h2 : q'.1 13 19 = q.1 13 19) (h3 : q'.1 13 14 = q.1 13 14) (hv : v < v') (i : Nat) : pc q' v' i ≤ pc q v i := by
  unfold pc
  rw [h1, h2, h3]
  by_cases e : q.1 15 3 i = cn 1 ∧ q.1 13 19 i = cn 2 ∧ v' < q.1 13 14 i
  · rw [if_pos e, if_pos ⟨e.1, e.2.1, lt_tr hv e.2.2⟩]
    omega
  · rw [if_neg e]
    omega
theorem PC_le (h1 : q'.1 15 3 = q.1 15 3) (h2 : q'.1 13 19 = q.1 13 19) (h3 : q'.1 13 14 = q.1 13 14) (hv : v < v') : ∀ n, PC q' v' n ≤ PC q v n
  | 0 => Nat.le_refl _
  | n + 1 => Nat.add_le_add (PC_le h1 h2 h3 hv n) (pc_le h1 h2 h3 hv n)
theorem PC_lt (h1 : q'.1 15 3 = q.1 15 3) (h2 : q'.1 13 19 = q.1 13 19) (h3 : q'.1 13 14 = q.1 13 14) {o : Nat} (hl : q.1 15 3 o = cn 1) (hk : q.1 13 19 o = cn 2) (hv : v < q.1 13 14 o) (e' : v' = q.1 13 14 o) : ∀ n, o < n → PC q' v' n < PC q v n
  | 0, ho => by omega
  | n + 1, ho => by
    show PC q' v' n + pc q' v' n < PC q v n + pc q v n
    by_cases e : n = o
    · have a := PC_le h1 h2 h3 (v := v) (v' := v') (by rw [e']; exact hv) n
      have b : pc q' v' n = 0 := by
        unfold pc
        rw [e, h3, e']
        exact if_neg fun k => lt_irr k.2.2
      have c : pc q v n = 1 := by
        unfold pc
        rw [e]
        exact if_pos ⟨hl, hk, hv⟩
      omega
    · have a := PC_lt h1 h2 h3 hl hk hv e' n (by omega)
      have b := pc_le h1 h2 h3 (v := v) (v' := v') (by rw [e']; exact hv) n
      omega
theorem PC_pos {o : Nat} (hl : q.1 15 3 o = cn 1) (hk : q.1 13 19 o = cn 2) (hv : v < q.1 13 14 o) : ∀ n, o < n → 1 ≤ PC q v n
  | 0, ho => by omega
  | n + 1, ho => by
    show 1 ≤ PC q v n + pc q v n
    by_cases e : n = o
    · have c : pc q v n = 1 := by
        unfold pc
        rw [e]
        exact if_pos ⟨hl, hk, hv⟩
      omega
    · have a := PC_pos hl hk hv n (by omega)
      omega
theorem PC_n (q : PM) (v : Int32) : ∀ n, PC q v n ≤ n
  | 0 => Nat.le_refl _
  | n + 1 => by
    have a := PC_n q v n
    have b : pc q v n ≤ 1 := by
      unfold pc
      split <;> omega
    show PC q v n + pc q v n ≤ n + 1
    omega
end Pc
/-- the choice is the least -/
def MnP (q : PM) (v : Int32) (i : Nat) (c : Int32) : Prop := (c < 0 → ∀ s, s < i → ¬ q.1 15 3 s = 0 → q.1 13 19 s = cn 2 → ¬ v < q.1 13 14 s) ∧ (¬ c < 0 → ∀ s, s < i → ¬ q.1 15 3 s = 0 → q.1 13 19 s = cn 2 → v < q.1 13 14 s → ¬ q.1 13 14 s < q.1 13 14 c.toNatClampNeg)
theorem nxp_min {q : PM} {v : Int32} : ∀ (d i : Nat) (c : Int32), i + d = 44 → MnP q v i c → MnP q v 44 (nxp q v d i c) := by
  intro d
  induction d with
  | zero =>
    intro i c h1 h
    have e : i = 44 := by omega
    rw [e] at h
    exact h
  | succ d ih =>
    intro i c h1 h
    have up : ∀ s, s < i + 1 → s < i ∨ s = i := fun s h => by omega
    have hi0 : ¬ cn (i : Int) < 0 := by
      rw [zcn, cnlt ⟨by omega, by omega⟩ (by decide)]
      omega
    have keep : (¬ q.1 15 3 i = 0 → q.1 13 19 i = cn 2 → v < q.1 13 14 i → ¬ c < 0 ∧ ¬ q.1 13 14 i < q.1 13 14 c.toNatClampNeg) → MnP q v (i + 1) c := by
      intro hn
      refine ⟨fun hc s hs k1 k2 k3 => ?_, fun hc s hs k1 k2 k3 => ?_⟩
      · rcases up s hs with e | e
        · exact h.1 hc s e k1 k2 k3
        · rw [e] at k1 k2 k3
          exact (hn k1 k2 k3).1 hc
      · rcases up s hs with e | e
        · exact h.2 hc s e k1 k2 k3
        · rw [e] at k1 k2 k3 ⊢
          exact (hn k1 k2 k3).2
    show MnP q v 44 (if q.1 15 3 i = 0 then nxp q v d (i + 1) c else if q.1 13 19 i = cn 2 then (if v < q.1 13 14 i then (if c < 0 then nxp q v d (i + 1) (cn i) else if q.1 13 14 i < q.1 13 14 c.toNatClampNeg then nxp q v d (i + 1) (cn i) else nxp q v d (i + 1) c) else nxp q v d (i + 1) c) else nxp q v d (i + 1) c)
    by_cases e1 : q.1 15 3 i = 0
    · rw [if_pos e1]
      exact ih (i + 1) c (by omega) (keep fun k _ _ => absurd e1 k)
    · rw [if_neg e1]
      by_cases e2 : q.1 13 19 i = cn 2
      · rw [if_pos e2]
        by_cases e3 : v < q.1 13 14 i
        · rw [if_pos e3]
          by_cases e4 : c < 0
          · rw [if_pos e4]
            refine ih (i + 1) (cn i) (by omega) ⟨fun h => absurd h hi0, fun _ s hs k1 k2 k3 => ?_⟩
            rw [cntk (by omega)]
            rcases up s hs with e | e
            · exact absurd k3 (h.1 e4 s e k1 k2)
            · rw [e]
              exact lt_irr
          · rw [if_neg e4]
            by_cases e5 : q.1 13 14 i < q.1 13 14 c.toNatClampNeg
            · rw [if_pos e5]
              refine ih (i + 1) (cn i) (by omega) ⟨fun h => absurd h hi0, fun _ s hs k1 k2 k3 => ?_⟩
              rw [cntk (by omega)]
              rcases up s hs with e | e
              · exact fun k4 => h.2 e4 s e k1 k2 k3 (lt_tr k4 e5)
              · rw [e]
                exact lt_irr
            · rw [if_neg e5]
              exact ih (i + 1) c (by omega) (keep fun _ _ _ => ⟨e4, e5⟩)
        · rw [if_neg e3]
          exact ih (i + 1) c (by omega) (keep fun _ _ k => absurd k e3)
      · rw [if_neg e2]
        exact ih (i + 1) c (by omega) (keep fun _ k _ => absurd k e2)
theorem open_c {q q' : PM} (h : q'.1 13 12 = q.1 13 12) (B : Int32) : v12_isOpen q' B = v12_isOpen q B := by
  unfold v12_isOpen bv12_isOpen
  rw [h]
theorem peg_rounds {lg : Nat → Int32} {N D l : Nat} : ∀ (k n n' m : Nat) (v v' c : Int32) (p q : PM) (T : Nat), PC q v' 40 ≤ k → k < n → k + 1 < n' → m + k ≤ 40 → ¬ c < 0 → WW p q lg 99 99 (fun _ => False) N T D l (fun _ => 0) → T + k ≤ 1000000000 → (∀ i, i < 40 → q.1 15 3 i = cn 1 → (v < q.1 13 14 i) = (v' < q.1 13 14 i)) → (∀ i, i < 40 → stnd q i → q.1 13 19 i = cn 2 → ¬ v' < q.1 13 14 i → ¬ v12_isOpen q (q.1 13 16 i) = 0) → (g6_pricePegs_5 n p v (cn m) ∧ g12_pegsAll_4 n' q v' c) ∧ ∃ T', (T ≤ T' ∧ T' ≤ T + k) ∧ WW (v6_pricePegs_5 n p v (cn m)) (v12_pegsAll_4 n' q v' c) lg 99 99 (fun _ => False) N T' D l (fun _ => 0) ∧ RS (v12_pegsAll_4 n' q v' c) 40 = RS q 40 ∧ NPA (v12_pegsAll_4 n' q v' c) ∧ (∀ K, ¬ (K = 23 ∨ K = 24 ∨ K = 25) → (v12_pegsAll_4 n' q v' c).1 13 K = q.1 13 K) ∧ (v12_pegsAll_4 n' q v' c).1 15 = q.1 15 := by
  intro k
  induction k with
  | zero =>
    intro n n' m v v' c p q T h1 h2 h3 h4 hc H hT hv hN
    obtain ⟨n1, rfl⟩ : ∃ m, n = m + 1 := ⟨n - 1, by omega⟩
    obtain ⟨n2, rfl⟩ : ∃ m, n' = m + 1 := ⟨n' - 1, by omega⟩
    obtain ⟨n3, rfl⟩ : ∃ m, n2 = m + 1 := ⟨n2 - 1, by omega⟩
    obtain ⟨F, hF, hF2⟩ : ∃ F, FU = F ∧ 100 < F := ⟨FU, rfl, by decide⟩
    obtain ⟨g1, hch⟩ := peg_eq H.1.1 hv
    obtain ⟨j1, j2⟩ := nxp_loop (q := q) (v := v') (kv := v12_pegsAll_4 (n3 + 1)) (kg := g12_pegsAll_4 (n3 + 1)) 44 0 F (cn (-1)) rfl (by omega) (Or.inl cnm1)
    have hmin := nxp_min (q := q) (v := v') 44 0 (cn (-1)) rfl ⟨fun _ s hs => by omega, fun _ s hs => by omega⟩
    rcases hch with ⟨d1, d2⟩ | ⟨o, ho, d1, d2, hl, hk, ho2⟩
    · rw [d2] at j1 j2 hmin
      have eq : v12_pegsAll_4 (n3 + 1 + 1) q v' c = q ∧ g12_pegsAll_4 (n3 + 1 + 1) q v' c := by
        rw [ev12_pegsAll_4, eg12_pegsAll_4, hF]
        unfold bv12_pegsAll_4 bg12_pegsAll_4
        simp only [if_neg hc]
        have z0 : cn ((0 : Nat) : Int) = cn 0 := rfl
        rw [z0] at j1 j2
        unfold pgK at j1
        unfold pgG at j2
        rw [if_pos cnm1, ev12_pegsAll_4] at j1
        rw [if_pos cnm1, eg12_pegsAll_4] at j2
        unfold bv12_pegsAll_4 at j1
        unfold bg12_pegsAll_4 at j2
        simp only [if_pos cnm1] at j1 j2
        exact ⟨j1, j2 trivial⟩
      have ep : v6_pricePegs_5 (n1 + 1) p v (cn m) = p ∧ g6_pricePegs_5 (n1 + 1) p v (cn m) := by
        rw [ev6_pricePegs_5, eg6_pricePegs_5]
        unfold bv6_pricePegs_5 bg6_pricePegs_5
        simp only [d1, if_true, ite_self]
        refine ⟨trivial, ?_⟩
        split
        · exact ⟨g1, trivial⟩
        · trivial
      rw [eq.1, ep.1]
      refine ⟨⟨ep.2, eq.2⟩, T, ⟨Nat.le_refl _, by omega⟩, H, rfl, fun i hi hs hk => ?_, fun _ _ => rfl, rfl⟩
      exact hN i hi hs hk (hmin.1 cnm1 i (by omega) (by rw [hs.1]; exact cn01) hk)
    · have := PC_pos hl hk ho2 40 ho
      omega
  | succ k ih =>
    intro n n' m v v' c p q T h1 h2 h3 h4 hc H hT hv hN
    obtain ⟨n1, rfl⟩ : ∃ m, n = m + 1 := ⟨n - 1, by omega⟩
    obtain ⟨n2, rfl⟩ : ∃ m, n' = m + 1 := ⟨n' - 1, by omega⟩
    obtain ⟨n3, rfl⟩ : ∃ m, n2 = m + 1 := ⟨n2 - 1, by omega⟩
    obtain ⟨F, hF, hF2⟩ : ∃ F, FU = F ∧ 100 < F := ⟨FU, rfl, by decide⟩
    obtain ⟨g1, hch⟩ := peg_eq H.1.1 hv
    obtain ⟨j1, j2⟩ := nxp_loop (q := q) (v := v') (kv := v12_pegsAll_4 (n3 + 1)) (kg := g12_pegsAll_4 (n3 + 1)) 44 0 F (cn (-1)) rfl (by omega) (Or.inl cnm1)
    have hmin := nxp_min (q := q) (v := v') 44 0 (cn (-1)) rfl ⟨fun _ s hs => by omega, fun _ s hs => by omega⟩
    have z0 : cn ((0 : Nat) : Int) = cn 0 := rfl
    rw [z0] at j1 j2
    rcases hch with ⟨d1, d2⟩ | ⟨o, ho, d1, d2, hl, hk, ho2⟩
    · rw [d2] at j1 j2 hmin
      have eq : v12_pegsAll_4 (n3 + 1 + 1) q v' c = q ∧ g12_pegsAll_4 (n3 + 1 + 1) q v' c := by
        rw [ev12_pegsAll_4, eg12_pegsAll_4, hF]
        unfold bv12_pegsAll_4 bg12_pegsAll_4
        simp only [if_neg hc]
        unfold pgK at j1
        unfold pgG at j2
        rw [if_pos cnm1, ev12_pegsAll_4] at j1
        rw [if_pos cnm1, eg12_pegsAll_4] at j2
        unfold bv12_pegsAll_4 at j1
        unfold bg12_pegsAll_4 at j2
        simp only [if_pos cnm1] at j1 j2
        exact ⟨j1, j2 trivial⟩
      have ep : v6_pricePegs_5 (n1 + 1) p v (cn m) = p ∧ g6_pricePegs_5 (n1 + 1) p v (cn m) := by
        rw [ev6_pricePegs_5, eg6_pricePegs_5]
        unfold bv6_pricePegs_5 bg6_pricePegs_5
        simp only [d1, if_true, ite_self]
        refine ⟨trivial, ?_⟩
        split
        · exact ⟨g1, trivial⟩
        · trivial
      rw [eq.1, ep.1]
      refine ⟨⟨ep.2, eq.2⟩, T, ⟨Nat.le_refl _, by omega⟩, H, rfl, fun i hi hs hk => ?_, fun _ _ => rfl, rfl⟩
      exact hN i hi hs hk (hmin.1 cnm1 i (by omega) (by rw [hs.1]; exact cn01) hk)
    · rw [d2] at j1 j2 hmin
      have hzo : ¬ o + 1 = 0 := by omega
      have ho0 : ¬ cn (o : Int) < 0 := by
        rw [zcn, cnlt ⟨by omega, by omega⟩ (by decide)]
        omega
      have hio := cninb (i := o) (n := 44) (by omega) (by omega)
      obtain ⟨_, a, b, r, s, z, hL⟩ := slot_live (H.1.1.1 o ho) (by rw [hl]; exact cn01)
      have hnum := hL.2.2.1
      obtain ⟨⟨k1, k2, k3⟩, T1, ⟨t1, t2⟩, W, R, ⟨f1, f2, f3⟩, f4⟩ := peg_one H ho hl hk (by omega)
      have e15 : (v12_pegs q (cn o)).1 15 3 = q.1 15 3 := by rw [f2]
      have e19 := f1 19 (by decide)
      have e14 := f1 14 (by decide)
      have e16 := f1 16 (by decide)
      have e12 := f1 12 (by decide)
      have hlt := PC_lt (v := v') (v' := q.1 13 14 o) e15 e19 e14 hl hk ho2 rfl 40 ho
      have cm : cn (m : Int) < cn 40 := lpt (by omega) (by decide)
      unfold pgK at j1
      unfold pgG at j2
      simp only [if_neg ho0, cntk (i := o) (by omega)] at j1 j2
      have hmo := hmin.2 ho0
      rw [cntk (by omega)] at hmo
      obtain ⟨⟨i1, i2⟩, T2, ⟨t3, t4⟩, W2, R2, N2, F1, F2⟩ := ih n1 (n3 + 1) (m + 1) (q.1 13 14 o) (q.1 13 14 o) (cn o) _ _ T1 (by omega) (by omega) (by omega) (by omega) ho0 W (by omega) (fun _ _ _ => rfl) (fun i hi hs hk2 hle => by
        rw [open_c e12, e16]
        rw [e19] at hk2
        rw [e14] at hle
        by_cases e : i = o
        · rw [e]
          rw [e] at hs
          exact f4 hs.2
        · have hs' : stnd q i := ⟨by rw [← e15]; exact hs.1, by rw [← f3 i e]; exact hs.2⟩
          refine hN i hi hs' hk2 fun k4 => ?_
          have k5 := hmo i (by omega) (by rw [hs'.1]; exact cn01) hk2 k4
          -- of numbers neither less nor more
          have hne : q.1 13 14 i = q.1 13 14 o := by
            rw [Int32.lt_iff_toInt_lt] at hle k5
            have : (q.1 13 14 i).toInt = (q.1 13 14 o).toInt := by omega
            rw [cn_of (q.1 13 14 i), this, ← cn_of]
          exact e (H.1.2.1.1 i o hi ho hs'.1 hl hne))
      have eq : v12_pegsAll_4 (n3 + 1 + 1) q v' c = v12_pegsAll_4 (n3 + 1) (v12_pegs q (cn o)) (q.1 13 14 o) (cn o) ∧ g12_pegsAll_4 (n3 + 1 + 1) q v' c := by
        rw [ev12_pegsAll_4, eg12_pegsAll_4, hF]
        unfold bv12_pegsAll_4 bg12_pegsAll_4
        simp only [if_neg hc]
        exact ⟨j1, j2 ⟨hio, k3, i2⟩⟩
      have ep : v6_pricePegs_5 (n1 + 1) p v (cn m) = v6_pricePegs_5 n1 (v6_movePeg p (o + 1) (v6_pegPrice p (o + 1))) (q.1 13 14 o) (cn (m + 1 : Nat)) ∧ g6_pricePegs_5 (n1 + 1) p v (cn m) := by
        rw [ev6_pricePegs_5, eg6_pricePegs_5]
        unfold bv6_pricePegs_5 bg6_pricePegs_5
        simp only [d1, if_pos cm, if_neg hzo, hnum, cnsucc]
        exact ⟨trivial, g1, hzo, k1, k2, i1⟩
      rw [eq.1, ep.1]
      exact ⟨⟨ep.2, eq.2⟩, T2, ⟨by omega, by omega⟩, W2, R2.trans R, N2, fun K hK => (F1 K hK).trans (f1 K hK), F2.trans f2⟩
theorem pegs_all {p q : PM} {lg : Nat → Int32} {N T D l : Nat} (H : WW p q lg 99 99 (fun _ => False) N T D l (fun _ => 0)) (hT : T + 40 ≤ 1000000000) : (g6_pricePegs p ∧ g12_pegsAll q) ∧ ∃ T', (T ≤ T' ∧ T' ≤ T + 40) ∧ WW (v6_pricePegs p) (v12_pegsAll q) lg 99 99 (fun _ => False) N T' D l (fun _ => 0) ∧ RS (v12_pegsAll q) 40 = RS q 40 ∧ NPA (v12_pegsAll q) ∧ (∀ K, ¬ (K = 23 ∨ K = 24 ∨ K = 25) → (v12_pegsAll q).1 13 K = q.1 13 K) ∧ (v12_pegsAll q).1 15 = q.1 15 := by
  obtain ⟨F, hF, hF2⟩ : ∃ F, FU = F ∧ 100 < F := ⟨FU, rfl, by decide⟩
  have hn := H.1.2.1.2.1
  have hN5 := H.1.2.1.2.2.2.2
  have k := peg_rounds (D := D) (l := l) (lg := lg) (N := N) 40 F F 0 (cn (-100000)) (cn (-1)) (cn 0) p q T (PC_n _ _ _) (by omega) (by omega) (by omega) (by decide) H hT (fun i hi hl => by
    obtain ⟨u, u1, u2⟩ := hn i hi hl
    rw [u2, cnlt (by decide) ⟨by omega, by omega⟩, cnlt (by decide) ⟨by omega, by omega⟩]
    exact propext ⟨fun _ => by omega, fun _ => by omega⟩) (fun i hi hs _ h => by
    obtain ⟨u, u1, u2⟩ := hn i hi hs.1
    rw [u2, cnlt (by decide) ⟨by omega, by omega⟩] at h
    omega)
  have z0 : cn ((0 : Nat) : Int) = cn 0 := rfl
  rw [z0] at k
  unfold v6_pricePegs bv6_pricePegs v12_pegsAll bv12_pegsAll g6_pricePegs bg6_pricePegs g12_pegsAll bg12_pegsAll
  rw [hF]
  exact k
