/-! all orders; a change of one of them -/
theorem slot_congr {p p' q q' : PM} {x x' y i : Nat} (h1 : ∀ S, p'.1 10 (i + 1) S = p.1 10 (i + 1) S) (h2 : ∀ S, p'.2.2 10 (i + 1) S = p.2.2 10 (i + 1) S) (h3 : ∀ K, 14 ≤ K → K ≤ 28 → ¬ K = 23 → q'.1 13 K i = q.1 13 K i) (h4 : ∀ K, 3 ≤ K → K ≤ 6 → q'.1 15 K i = q.1 15 K i) (hx : (i = x') = (i = x)) (H : SlotR p q x y i) : SlotR p' q' x' y i := by
  have e14 := h3 14 (by decide) (by decide) (by decide)
  have e15 := h3 15 (by decide) (by decide) (by decide)
  have e16 := h3 16 (by decide) (by decide) (by decide)
  have e17 := h3 17 (by decide) (by decide) (by decide)
  have e18 := h3 18 (by decide) (by decide) (by decide)
  have e19 := h3 19 (by decide) (by decide) (by decide)
  have e20 := h3 20 (by decide) (by decide) (by decide)
  have e21 := h3 21 (by decide) (by decide) (by decide)
  have e22 := h3 22 (by decide) (by decide) (by decide)
  have e24 := h3 24 (by decide) (by decide) (by decide)
  have e25 := h3 25 (by decide) (by decide) (by decide)
  have e26 := h3 26 (by decide) (by decide) (by decide)
  have e27 := h3 27 (by decide) (by decide) (by decide)
  have e28 := h3 28 (by decide) (by decide) (by decide)
  have f3 := h4 3 (by decide) (by decide)
  have f4 := h4 4 (by decide) (by decide)
  have f5 := h4 5 (by decide) (by decide)
  have f6 := h4 6 (by decide) (by decide)
  unfold SlotR LV StatR BookedR CauseR at H ⊢
  simp only [h1, h2, e14, e15, e16, e17, e18, e19, e20, e21, e22, e24, e25, e26, e27, e28, f3, f4, f5, f6, hx]
  exact H
/-- of quotes of an account in a book there is one of each side -/
def QU (q : PM) : Prop := ∀ i j, i < 40 → j < 40 → q.1 15 3 i = cn 1 → q.1 15 3 j = cn 1 → q.1 13 19 i = cn 4 → q.1 13 19 j = cn 4 → q.1 13 15 i = q.1 13 15 j → q.1 13 16 i = q.1 13 16 j → q.1 15 4 i = q.1 15 4 j → i = j
def ORD (p q : PM) (x y N T : Nat) : Prop := OR p q x y ∧ NR p q N ∧ TR p q T ∧ QU q
/-- the memories differ in the order o alone (and in what is no order) -/
def FrO (o : Nat) (p p' q q' : PM) : Prop := (∀ i S, ¬ i = o → p'.1 10 (i + 1) S = p.1 10 (i + 1) S) ∧ (∀ i S, ¬ i = o → p'.2.2 10 (i + 1) S = p.2.2 10 (i + 1) S) ∧ (∀ K i, 14 ≤ K → K ≤ 28 → ¬ i = o → q'.1 13 K i = q.1 13 K i) ∧ (∀ K i, 3 ≤ K → K ≤ 6 → ¬ i = o → q'.1 15 K i = q.1 15 K i)
theorem or_upd {p p' q q' : PM} {x x' y o : Nat} (H : OR p q x y) (hf : FrO o p p' q q') (ho : o < 40) (hx : ∀ i, i < 40 → ¬ i = o → (i = x') = (i = x)) (hn : SlotR p' q' x' y o) : OR p' q' x' y := by
  obtain ⟨f1, f2, f3, f4⟩ := hf
  refine ⟨fun i hi => ?_, fun i h1 h2 => ?_⟩
  · by_cases h : i = o
    · rw [h]
      exact hn
    · exact slot_congr (fun S => f1 i S h) (fun S => f2 i S h) (fun K k1 k2 _ => f3 K i k1 k2 h) (fun K k1 k2 => f4 K i k1 k2 h) (hx i hi h) (H.1 i hi)
  · rw [f4 3 i (by decide) (by decide) (by omega)]
    exact H.2 i h1 h2
/-- the live ones are the same or less, and keep what they are -/
def Kp (o : Nat) (q q' : PM) : Prop := q'.1 15 3 o = cn 1 → q.1 15 3 o = cn 1 ∧ q'.1 13 14 o = q.1 13 14 o ∧ q'.1 13 19 o = q.1 13 19 o ∧ q'.1 13 15 o = q.1 13 15 o ∧ q'.1 13 16 o = q.1 13 16 o ∧ q'.1 15 4 o = q.1 15 4 o
theorem kp_all {p p' q q' : PM} {o : Nat} (hf : FrO o p p' q q') (hk : Kp o q q') : ∀ i, Kp i q q' := by
  obtain ⟨f1, f2, f3, f4⟩ := hf
  intro i h
  by_cases hi : i = o
  · rw [hi] at h ⊢
    exact hk h
  · rw [f4 3 i (by decide) (by decide) hi] at h
    exact ⟨h, f3 14 i (by decide) (by decide) hi, f3 19 i (by decide) (by decide) hi, f3 15 i (by decide) (by decide) hi, f3 16 i (by decide) (by decide) hi, f4 4 i (by decide) (by decide) hi⟩
theorem nr_upd {p p' q q' : PM} {N : Nat} (H : NR p q N) (hk : ∀ i, Kp i q q') (h1 : p'.1 6 1 4 = p.1 6 1 4) (h2 : q'.1 12 1 39 = q.1 12 1 39) : NR p' q' N := by
  refine ⟨fun i j hi hj li lj hn => ?_, fun i hi li => ?_, by rw [h1]; exact H.2.2.1, by rw [h2]; exact H.2.2.2.1, H.2.2.2.2⟩
  · have ki := hk i li
    have kj := hk j lj
    rw [ki.2.1, kj.2.1] at hn
    exact H.1 i j hi hj ki.1 kj.1 hn
  · have ki := hk i li
    obtain ⟨n, n1, n2⟩ := H.2.1 i hi ki.1
    exact ⟨n, n1, by rw [ki.2.1]; exact n2⟩
theorem qu_upd {q q' : PM} (H : QU q) (hk : ∀ i, Kp i q q') : QU q' := by
  intro i j hi hj li lj h1 h2 h3 h4 h5
  have ki := hk i li
  have kj := hk j lj
  rw [ki.2.2.1] at h1
  rw [kj.2.2.1] at h2
  rw [ki.2.2.2.1, kj.2.2.2.1] at h3
  rw [ki.2.2.2.2.1, kj.2.2.2.2.1] at h4
  rw [ki.2.2.2.2.2, kj.2.2.2.2.2] at h5
  exact H i j hi hj ki.1 kj.1 h1 h2 h3 h4 h5
/-- one order changes; if it stands then, it stood and keeps its turn -/
theorem tr_upd {p p' q q' : PM} {T o : Nat} (H : TR p q T) (hf : FrO o p p' q q') (hk : Kp o q q') (h1 : p'.1 6 1 5 = p.1 6 1 5) (h2 : q'.1 12 1 40 = q.1 12 1 40) (hs : stnd q' o → stnd q o ∧ p'.1 10 (o + 1) 12 = p.1 10 (o + 1) 12 ∧ q'.1 13 23 o = q.1 13 23 o) : TR p' q' T := by
  have hka := kp_all hf hk
  obtain ⟨f1, f2, f3, f4⟩ := hf
  have hst : ∀ i, stnd q' i → stnd q i ∧ p'.1 10 (i + 1) 12 = p.1 10 (i + 1) 12 ∧ q'.1 13 23 i = q.1 13 23 i := by
    intro i h
    by_cases hi : i = o
    · rw [hi] at h ⊢
      exact hs h
    · refine ⟨⟨?_, ?_⟩, f1 i 12 hi, f3 23 i (by decide) (by decide) hi⟩
      · rw [← f4 3 i (by decide) (by decide) hi]
        exact h.1
      · rw [← f3 24 i (by decide) (by decide) hi]
        exact h.2
  refine ⟨fun i j hi hj si sj hb hy => ?_, fun i hi si => ?_, by rw [h1]; exact H.2.2.1, by rw [h2]; exact H.2.2.2.1, H.2.2.2.2⟩
  · obtain ⟨si', ei, ti⟩ := hst i si
    obtain ⟨sj', ej, tj⟩ := hst j sj
    have ki := hka i si.1
    have kj := hka j sj.1
    rw [ki.2.2.2.2.1, kj.2.2.2.2.1] at hb
    rw [ki.2.2.2.2.2, kj.2.2.2.2.2] at hy
    rw [ei, ej, ti, tj]
    exact H.1 i j hi hj si' sj' hb hy
  · obtain ⟨si', ei, ti⟩ := hst i si
    obtain ⟨t, u, k⟩ := H.2.1 i hi si'
    exact ⟨t, u, by rw [ei, ti]; exact k⟩
/-- one order gets a new turn -/
theorem tr_new {p p' q q' : PM} {T o : Nat} (H : TR p q T) (hT : T + 1 ≤ 1000000000) (hf : FrO o p p' q q') (hk : Kp o q q') (ho : o < 40) (h1 : p'.1 6 1 5 = cn (T + 1 : Nat)) (h2 : q'.1 12 1 40 = cn (T + 1 : Nat)) (h3 : p'.1 10 (o + 1) 12 = cn (T + 1 : Nat)) (h4 : q'.1 13 23 o = cn T) : TR p' q' (T + 1) := by
  have hka := kp_all hf hk
  obtain ⟨f1, f2, f3, f4⟩ := hf
  have hst : ∀ i, ¬ i = o → stnd q' i → stnd q i ∧ p'.1 10 (i + 1) 12 = p.1 10 (i + 1) 12 ∧ q'.1 13 23 i = q.1 13 23 i := by
    intro i hi h
    refine ⟨⟨?_, ?_⟩, f1 i 12 hi, f3 23 i (by decide) (by decide) hi⟩
    · rw [← f4 3 i (by decide) (by decide) hi]
      exact h.1
    · rw [← f3 24 i (by decide) (by decide) hi]
      exact h.2
  refine ⟨fun i j hi hj si sj hb hy => ?_, fun i hi si => ?_, h1, h2, hT⟩
  · have ki := hka i si.1
    have kj := hka j sj.1
    rw [ki.2.2.2.2.1, kj.2.2.2.2.1] at hb
    rw [ki.2.2.2.2.2, kj.2.2.2.2.2] at hy
    by_cases e1 : i = o
    · by_cases e2 : j = o
      · rw [e1, e2]
        refine ⟨?_, fun _ => rfl⟩
        have n1 : ¬ p'.1 10 (o + 1) 12 < p'.1 10 (o + 1) 12 := by rw [Int32.lt_iff_toInt_lt]; omega
        have n2 : ¬ q'.1 13 23 o < q'.1 13 23 o := by rw [Int32.lt_iff_toInt_lt]; omega
        exact propext ⟨fun h => absurd h n1, fun h => absurd h n2⟩
      · obtain ⟨sj', ej, tj⟩ := hst j e2 sj
        obtain ⟨t, u, t1, t2, t3, u1, u2⟩ := H.2.1 j hj sj'
        rw [e1, ej, tj, h3, h4, t3, u2, cnlt ⟨by omega, by omega⟩ ⟨by omega, by omega⟩, cnlt ⟨by omega, by omega⟩ ⟨by omega, by omega⟩, cneq ⟨by omega, by omega⟩ ⟨by omega, by omega⟩]
        exact ⟨propext ⟨fun h => by omega, fun h => by omega⟩, fun h => by omega⟩
    · obtain ⟨si', ei, ti⟩ := hst i e1 si
      obtain ⟨t, u, t1, t2, t3, u1, u2⟩ := H.2.1 i hi si'
      by_cases e2 : j = o
      · rw [e2, ei, ti, h3, h4, t3, u2, cnlt ⟨by omega, by omega⟩ ⟨by omega, by omega⟩, cnlt ⟨by omega, by omega⟩ ⟨by omega, by omega⟩, cneq ⟨by omega, by omega⟩ ⟨by omega, by omega⟩]
        exact ⟨propext ⟨fun h => by omega, fun h => by omega⟩, fun h => by omega⟩
      · obtain ⟨sj', ej, tj⟩ := hst j e2 sj
        rw [ei, ej, ti, tj]
        exact H.1 i j hi hj si' sj' hb hy
  · by_cases e1 : i = o
    · rw [e1]
      exact ⟨T + 1, T, by omega, by omega, h3, by omega, h4⟩
    · obtain ⟨si', ei, ti⟩ := hst i e1 si
      obtain ⟨t, u, t1, t2, t3, u1, u2⟩ := H.2.1 i hi si'
      exact ⟨t, u, t1, by omega, by rw [ei]; exact t3, by omega, by rw [ti]; exact u2⟩
theorem ord_upd {p p' q q' : PM} {x x' y N T o : Nat} (H : ORD p q x y N T) (hf : FrO o p p' q q') (ho : o < 40) (hk : Kp o q q') (hx : ∀ i, i < 40 → ¬ i = o → (i = x') = (i = x)) (hc : p'.1 6 1 4 = p.1 6 1 4 ∧ q'.1 12 1 39 = q.1 12 1 39 ∧ p'.1 6 1 5 = p.1 6 1 5 ∧ q'.1 12 1 40 = q.1 12 1 40) (hs : stnd q' o → stnd q o ∧ p'.1 10 (o + 1) 12 = p.1 10 (o + 1) 12 ∧ q'.1 13 23 o = q.1 13 23 o) (hn : SlotR p' q' x' y o) : ORD p' q' x' y N T := ⟨or_upd H.1 hf ho hx hn, nr_upd H.2.1 (kp_all hf hk) hc.1 hc.2.1, tr_upd H.2.2.1 hf hk hc.2.2.1 hc.2.2.2 hs, qu_upd H.2.2.2 (kp_all hf hk)⟩
theorem ord_new {p p' q q' : PM} {x x' y N T o : Nat} (H : ORD p q x y N T) (hT : T + 1 ≤ 1000000000) (hf : FrO o p p' q q') (ho : o < 40) (hk : Kp o q q') (hx : ∀ i, i < 40 → ¬ i = o → (i = x') = (i = x)) (hc : p'.1 6 1 4 = p.1 6 1 4 ∧ q'.1 12 1 39 = q.1 12 1 39 ∧ p'.1 6 1 5 = cn (T + 1 : Nat) ∧ q'.1 12 1 40 = cn (T + 1 : Nat)) (h3 : p'.1 10 (o + 1) 12 = cn (T + 1 : Nat)) (h4 : q'.1 13 23 o = cn T) (hn : SlotR p' q' x' y o) : ORD p' q' x' y N (T + 1) := ⟨or_upd H.1 hf ho hx hn, nr_upd H.2.1 (kp_all hf hk) hc.1 hc.2.1, tr_new H.2.2.1 hT hf hk ho hc.2.2.1 hc.2.2.2 h3 h4, qu_upd H.2.2.2 (kp_all hf hk)⟩
/-- an order goes -/
theorem ord_kill {p q : PM} {x y N T o : Nat} (H : ORD p q x y N T) (ho : o < 40) : ORD (pI p 10 (o + 1) 2 (cn 0)) (pI q 15 3 o (cn 0)) x y N T := by
  have e0 : (pI q 15 3 o (cn 0)).1 15 3 o = cn 0 := u3_same
  have hz : ¬ cn 0 = cn 1 := by decide
  refine ord_upd H ⟨fun i S h => ?_, fun i S h => rfl, fun K i k1 k2 h => rfl, fun K i k1 k2 h => ?_⟩ ho (fun h => ?_) (fun i _ _ => rfl) ⟨rfl, rfl, rfl, rfl⟩ (fun h => ?_) (Or.inl ⟨u3_same, e0⟩)
  · exact u3_i (by omega)
  · exact u3_s h
  · rw [e0] at h
    exact absurd h hz
  · rw [stnd, e0] at h
    exact absurd h.1 hz
