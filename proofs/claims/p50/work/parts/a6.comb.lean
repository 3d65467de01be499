/-! the six combinations, tried in turn -/
theorem comb_work {p q : PM} {lg : Nat → Int32} {N T D l : Nat} {kv : PM → Int32 → PM} {kg : PM → Int32 → Prop} (H : WW p q lg 99 99 (fun _ => False) N T D l (fun _ => 0)) (v : Int32) (cv : v < cn 1000000) (dz : v6_dueStop p = 0) (dg : g6_dueStop p) (hT : T + RS q 40 + 4 ≤ 1000000000) (hD : D + RS q 40 + 4 ≤ 1000000000) : g12_combines q ∧ ((bv5_work_2 v3_makePair v3_makeChain v6_dueStop v6_pricePegs v7_latestOf v8_match kv p v = v6_pricePegs p ∧ (g6_pricePegs p → bg5_work_2 v3_makePair g3_makePair v3_makeChain g3_makeChain v6_dueStop g6_dueStop v6_pricePegs g6_pricePegs v7_latestOf g7_latestOf v8_match g8_match kg p v) ∧ v12_combines q = (cn 0, q)) ∨ ∃ (p2 q2 : PM) (T2 D2 : Nat), bv5_work_2 v3_makePair v3_makeChain v6_dueStop v6_pricePegs v7_latestOf v8_match kv p v = kv p2 (v + cn 1) ∧ (kg p2 (v + cn 1) → bg5_work_2 v3_makePair g3_makePair v3_makeChain g3_makeChain v6_dueStop g6_dueStop v6_pricePegs g6_pricePegs v7_latestOf g7_latestOf v8_match g8_match kg p v) ∧ v12_combines q = (cn 1, q2) ∧ (T ≤ T2 ∧ D ≤ D2) ∧ WW p2 q2 lg 99 99 (fun _ => False) N T2 D2 l (fun _ => 0) ∧ T2 + RS q2 40 ≤ T + RS q 40 ∧ D2 + RS q2 40 ≤ D + RS q 40 ∧ RS q2 40 < RS q 40) := by
  have J1 : (g3_makePair p (cn 4) (cn 1) ∧ g12_joins q (cn 4) (cn 1)) ∧ CombR p q lg N T D l (v3_makePair p (cn 4) (cn 1)) (v12_joins q (cn 4) (cn 1)) := pair_b (s := 4) (B1 := 0) (B2 := 1) H rfl rfl (by decide) (by omega) (by omega)
  have J2 : (g3_makePair p (cn 4) (cn 0) ∧ g12_joins q (cn 4) (cn 0)) ∧ CombR p q lg N T D l (v3_makePair p (cn 4) (cn 0)) (v12_joins q (cn 4) (cn 0)) := pair_s (s := 4) (B1 := 0) (B2 := 1) H rfl rfl (by decide) (by omega) (by omega)
  have J3 : (g3_makePair p (cn 5) (cn 1) ∧ g12_joins q (cn 5) (cn 1)) ∧ CombR p q lg N T D l (v3_makePair p (cn 5) (cn 1)) (v12_joins q (cn 5) (cn 1)) := pair_b (s := 5) (B1 := 1) (B2 := 2) H rfl rfl (by decide) (by omega) (by omega)
  have J4 : (g3_makePair p (cn 5) (cn 0) ∧ g12_joins q (cn 5) (cn 0)) ∧ CombR p q lg N T D l (v3_makePair p (cn 5) (cn 0)) (v12_joins q (cn 5) (cn 0)) := pair_s (s := 5) (B1 := 1) (B2 := 2) H rfl rfl (by decide) (by omega) (by omega)
  have J5 := chain_b H hT hD
  have J6 := chain_s H hT hD
  obtain ⟨⟨g1, k1⟩, J1⟩ := J1
  obtain ⟨⟨g2, k2⟩, J2⟩ := J2
  obtain ⟨⟨g3, k3⟩, J3⟩ := J3
  obtain ⟨⟨g4, k4⟩, J4⟩ := J4
  obtain ⟨⟨g5, k5⟩, J5⟩ := J5
  obtain ⟨⟨g6, k6⟩, J6⟩ := J6
  unfold v12_combines bv12_combines g12_combines bg12_combines bv5_work_2 bg5_work_2
  simp only [if_pos cv, if_pos dz]
  rcases J1 with ⟨a1, c1⟩ | ⟨p2, q2, T2, D2, a1, c1, r1, r2, r3, r4, r5⟩
  case inr =>
    simp only [a1, c1, if_neg cn01]
    exact ⟨⟨k1, trivial⟩, Or.inr ⟨p2, q2, T2, D2, rfl, fun h => ⟨dg, g1, h⟩, rfl, r1, r2, r3, r4, r5⟩⟩
  simp only [a1, c1, if_pos cn0e']
  rcases J2 with ⟨a2, c2⟩ | ⟨p2, q2, T2, D2, a2, c2, r1, r2, r3, r4, r5⟩
  case inr =>
    simp only [a2, c2, if_neg cn01]
    exact ⟨⟨k1, k2, trivial⟩, Or.inr ⟨p2, q2, T2, D2, rfl, fun h => ⟨dg, g1, g2, h⟩, rfl, r1, r2, r3, r4, r5⟩⟩
  simp only [a2, c2, if_pos cn0e']
  rcases J3 with ⟨a3, c3⟩ | ⟨p2, q2, T2, D2, a3, c3, r1, r2, r3, r4, r5⟩
  case inr =>
    simp only [a3, c3, if_neg cn01]
    exact ⟨⟨k1, k2, k3, trivial⟩, Or.inr ⟨p2, q2, T2, D2, rfl, fun h => ⟨dg, g1, g2, g3, h⟩, rfl, r1, r2, r3, r4, r5⟩⟩
  simp only [a3, c3, if_pos cn0e']
  rcases J4 with ⟨a4, c4⟩ | ⟨p2, q2, T2, D2, a4, c4, r1, r2, r3, r4, r5⟩
  case inr =>
    simp only [a4, c4, if_neg cn01]
    exact ⟨⟨k1, k2, k3, k4, trivial⟩, Or.inr ⟨p2, q2, T2, D2, rfl, fun h => ⟨dg, g1, g2, g3, g4, h⟩, rfl, r1, r2, r3, r4, r5⟩⟩
  simp only [a4, c4, if_pos cn0e']
  rcases J5 with ⟨a5, c5⟩ | ⟨p2, q2, T2, D2, a5, c5, r1, r2, r3, r4, r5⟩
  case inr =>
    simp only [a5, c5, if_neg cn01]
    exact ⟨⟨k1, k2, k3, k4, k5, trivial⟩, Or.inr ⟨p2, q2, T2, D2, rfl, fun h => ⟨dg, g1, g2, g3, g4, g5, h⟩, rfl, r1, r2, r3, r4, r5⟩⟩
  simp only [a5, c5, if_pos cn0e']
  rcases J6 with ⟨a6, c6⟩ | ⟨p2, q2, T2, D2, a6, c6, r1, r2, r3, r4, r5⟩
  case inr =>
    simp only [a6, c6, if_neg cn01]
    exact ⟨⟨k1, k2, k3, k4, k5, k6, trivial⟩, Or.inr ⟨p2, q2, T2, D2, rfl, fun h => ⟨dg, g1, g2, g3, g4, g5, g6, h⟩, rfl, r1, r2, r3, r4, r5⟩⟩
  simp only [a6, c6, if_pos cn0e']
  exact ⟨⟨k1, k2, k3, k4, k5, k6, trivial⟩, Or.inl ⟨trivial, fun h => ⟨dg, g1, g2, g3, g4, g5, g6, h, trivial⟩, trivial⟩⟩
/-- the stops that wait -/
def wt (q : PM) (i : Nat) : Nat := if q.1 13 19 i = cn 3 ∧ q.1 13 24 i = cn 2 then 1 else 0
def WT (q : PM) : Nat → Nat
  | 0 => 0
  | n + 1 => WT q n + wt q n
theorem wt_le {q q' : PM} (h : FK q q') (i : Nat) : wt q' i ≤ wt q i := by
  unfold wt
  by_cases e : q'.1 13 19 i = cn 3 ∧ q'.1 13 24 i = cn 2
  · rw [if_pos e, if_pos ⟨(h i).1.symm.trans e.1, (h i).2 e.2⟩]
    omega
  · rw [if_neg e]
    omega
theorem WT_le {q q' : PM} (h : FK q q') : ∀ n, WT q' n ≤ WT q n
  | 0 => Nat.le_refl _
  | n + 1 => Nat.add_le_add (WT_le h n) (wt_le h n)
theorem WT_lt {q q' : PM} (h : FK q q') {o : Nat} (h1 : q.1 13 19 o = cn 3 ∧ q.1 13 24 o = cn 2) (h2 : ¬ q'.1 13 24 o = cn 2) : ∀ n, o < n → WT q' n < WT q n
  | 0, ho => by omega
  | n + 1, ho => by
    show WT q' n + wt q' n < WT q n + wt q n
    by_cases e : n = o
    · have a := WT_le h n
      have b : wt q' n = 0 := by
        unfold wt
        rw [e]
        exact if_neg fun k => h2 k.2
      have c : wt q n = 1 := by
        unfold wt
        rw [e]
        exact if_pos h1
      omega
    · have a := WT_lt h h1 h2 n (by omega)
      have b := wt_le h n
      omega
theorem WT_40 (q : PM) : ∀ n, WT q n ≤ n
  | 0 => Nat.le_refl _
  | n + 1 => by
    have a := WT_40 q n
    have b : wt q n ≤ 1 := by
      unfold wt
      split <;> omega
    show WT q n + wt q n ≤ n + 1
    omega
theorem fk_match (q : PM) (x : Nat) (hx : x < 40) : FK q (v12_matches q (cn x)) ∧ ¬ (v12_matches q (cn x)).1 13 24 x = cn 2 := by
  have e : v12_matches q (cn x) = v12_matches_9 FU (pI q 13 24 x (cn 0)) (cn x) (cn 1) := by
    unfold v12_matches bv12_matches
    simp only [cntk (i := x) (by omega)]
  have h1 : FK q (pI q 13 24 x (cn 0)) := fk_24 (by decide) (fk_refl q)
  have h2 : FK (pI q 13 24 x (cn 0)) (v12_matches_9 FU (pI q 13 24 x (cn 0)) (cn x) (cn 1)) := fk_v12_matches_9 FU _ _ (fk_refl _)
  rw [e]
  refine ⟨fk_trans h1 h2, fun h => ?_⟩
  have h3 := (h2 x).2 h
  rw [pI_at] at h3
  exact absurd h3 (by decide)
/-- a stop that is due is matched -/
theorem stop_work {p q : PM} {lg : Nat → Int32} {N T D l o : Nat} (H : WW p q lg 99 99 (fun _ => False) N T D l (fun _ => 0)) (ho : o < 40) (hl : q.1 15 3 o = cn 1) (hd : DueP q o) (hT : T + RS q 40 + 4 ≤ 1000000000) (hD : D + RS q 40 + 4 ≤ 1000000000) : ∃ P1 Q1 : PM, pI p 10 (o + 1) 15 (v7_latestOf p (p.2.2 10 (o + 1) 4)) = P1 ∧ pI q 13 28 o (v12_latest q (q.1 13 16 o)) = Q1 ∧ (g7_latestOf p (p.2.2 10 (o + 1) 4) ∧ g12_latest q (q.1 13 16 o) ∧ g8_match P1 (o + 1) ∧ g12_matches Q1 (cn o)) ∧ ∃ T2 D2, (T ≤ T2 ∧ D ≤ D2) ∧ WW (v8_match P1 (o + 1)) (v12_matches Q1 (cn o)) lg 99 99 (fun _ => False) N T2 D2 l (fun _ => 0) ∧ T2 + RS (v12_matches Q1 (cn o)) 40 ≤ T + RS q 40 + 1 ∧ D2 + RS (v12_matches Q1 (cn o)) 40 ≤ D + RS q 40 ∧ WT (v12_matches Q1 (cn o)) 40 < WT q 40 := by
  obtain ⟨_, a, b, r, s, z, hL⟩ := slot_live (H.1.1.1 o ho) (by rw [hl]; exact cn01)
  obtain ⟨b1', b2, b3⟩ := hL.2.1
  obtain ⟨d1, d2, d3⟩ := hd
  obtain ⟨⟨gl1, gl2⟩, hlat⟩ := latest_eq H.2.2.2.1 b1'
  rw [b2, b3]
  generalize hv1 : v7_latestOf p (b + 1) = u1 at hlat
  generalize hv2 : v12_latest q (cn b) = u2 at hlat
  have hS : p.1 10 (o + 1) 2 = cn 2 ∧ p.1 10 (o + 1) 7 = cn (-100000) := by
    rcases hL.2.2.2.2.2.2.2.2.2.2.2.2 with hs | hs | hs
    · omega
    · have := hs.2.2.1
      rw [d2] at this
      exact absurd this (by decide)
    · exact ⟨hs.2.1, hs.2.2.2.1⟩
  have q24 : (pI q 13 28 o u2).1 13 24 o = cn 2 := by rw [pI_1, u3_i (by decide)]; exact d2
  have hno : ¬ stnd (pI q 13 28 o u2) o := fun h => by
    have := h.2
    rw [q24] at this
    exact absurd this (by decide)
  have hca : CauseR (pI p 10 (o + 1) 15 u1) (pI q 13 28 o u2) o := by
    unfold CauseR
    rw [pI_at, pI_at]
    rcases hlat with h | ⟨t, h1, h2, h3, h4, h5⟩
    · exact Or.inl h
    · exact Or.inr ⟨t, h4, h1, h2⟩
  obtain ⟨W1, R1⟩ := ww_st (p' := pI p 10 (o + 1) 15 u1) (q' := pI q 13 28 o u2) (x' := o) (w' := fun _ => False) (T' := T) H ho hl hL
    (fun i S h => by
      rw [pI_1]
      by_cases e : i = o + 1
      · rw [u3_s (fun e2 => h ⟨e, by omega⟩)]
      · rw [u3_i e])
    (fun K h1 h2 => by
      funext i S
      rw [pI_1, u3_k h1]) (fun S h => by rw [pI_1, u3_k (by decide)]) rfl
    (fun K i h => by
      rw [pI_1]
      by_cases e : i = o
      · rw [u3_i (fun e2 => h ⟨e, by omega⟩)]
      · rw [u3_s e])
    (by
      funext i S
      rw [pI_1, u3_k (by decide)]) (fun S h => by rw [pI_1, u3_k (by decide)]) rfl (fun i hi h => propext ⟨fun e => absurd e h, fun e => by omega⟩)
    (Or.inl ⟨rfl, by rw [pI_1, u3_s (by decide)]; exact hS.1, Or.inr q24, by rw [pI_1, u3_s (by decide)]; exact hS.2, fun _ _ => hca⟩)
    (Or.inl ⟨rfl, by rw [pI_1, u3_k (by decide)]; exact H.1.2.2.1.2.2.1, by rw [pI_1, u3_k (by decide)]; exact H.1.2.2.1.2.2.2.1, fun h => absurd h hno⟩)
    (fun h => absurd h hno) (fun h => absurd h hno) (fun _ _ h => h)
    (fun _ h => absurd q24 h)
  have hlt : (pI q 13 28 o u2).1 15 3 o = cn 1 := by rw [pI_1, u3_k (by decide)]; exact hl
  obtain ⟨⟨g1, g2⟩, T2, D2, s1, s2, s3, s4⟩ := ww_match W1 b1' ho hlt (by rw [pI_1, u3_i (by decide)]; exact b2) (fun _ => ⟨hca, fun t h9 h8 => by
    rw [pI_at] at h9
    have e30 : (pI q 13 28 o u2).1 13 30 (t % 60) = q.1 13 30 (t % 60) := by rw [pI_1, u3_i (by decide)]
    rw [e30]
    rcases hlat with ⟨h1, h2⟩ | ⟨t', h1, h2, h3, h4, h5, h6⟩
    · rw [h2, cneq (by decide) ⟨by omega, by omega⟩] at h9
      omega
    · rw [h2, cneq ⟨by omega, by omega⟩ ⟨by omega, by omega⟩] at h9
      have e : t' = t := by omega
      rw [← e]
      exact ⟨h3, fun _ => h6⟩⟩) (by omega) (by omega)
  obtain ⟨f1, f2⟩ := fk_match (pI q 13 28 o u2) o ho
  have f3 : FK q (pI q 13 28 o u2) := fk_pI (by decide) (fk_refl q)
  exact ⟨_, _, rfl, rfl, ⟨gl1, gl2, g1, g2⟩, T2, D2, s1, s2, by omega, by omega, WT_lt (fk_trans f3 f1) ⟨d1, d2⟩ f2 40 ho⟩
