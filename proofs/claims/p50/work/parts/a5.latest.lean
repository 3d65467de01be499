/-! the latest trade of a book -/
def KP (q : PM) (b t : Nat) : Prop := q.1 15 8 (t % 60) = 0 ∧ q.1 13 30 (t % 60) = cn b ∧ q.1 15 7 (t % 60) = 0
/-- v names the latest of [lo, hi) with P, none if there is none -/
def DS (P : Nat → Prop) (lo hi : Nat) (none v : Int32) : Prop := (v = none ∧ ∀ t, lo ≤ t → t < hi → ¬ P t) ∨ ∃ t : Nat, lo ≤ t ∧ t < hi ∧ P t ∧ v = cn t ∧ ∀ u, t < u → u < hi → ¬ P u
theorem irm60 {t : Nat} (h : t ≤ 1000000000) : irm (cn (t : Int)) (cn 60) = cn ((t % 60 : Nat) : Int) := by
  rw [cnirm ⟨by omega, by omega⟩ (by decide) (by decide)]
  rfl
theorem find_t {p q : PM} {D t : Nat} (H : DR p q D) (h1 : t < D) (h2 : D ≤ t + 60) : (g7_find p (cn t) ∧ g12_isKept q (cn t)) ∧ (v7_find p (cn t) = if q.1 15 8 (t % 60) = 0 then t % 60 + 1 else 0) ∧ v12_isKept q (cn t) = if q.1 15 8 (t % 60) = 0 then cn 1 else cn 0 := by
  obtain ⟨hk, c1, c2, hD⟩ := H
  have hk60 : t % 60 < 60 := Nat.mod_lt _ (by decide)
  have hle : t % 60 ≤ t := Nat.mod_le _ _
  obtain ⟨-, h8, hs⟩ := hk _ hk60
  have n0 : ¬ cn (t : Int) < 0 := by
    rw [zcn, cnlt ⟨by omega, by omega⟩ (by decide)]
    omega
  have n1 : cn (t : Int) < cn (D : Int) := by
    rw [cnlt ⟨by omega, by omega⟩ ⟨by omega, by omega⟩]
    omega
  have n2 : ¬ cn (t : Int) < cn (D : Int) - cn 60 := by
    rw [cnsub, cnlt ⟨by omega, by omega⟩ ⟨by omega, by omega⟩]
    omega
  have n3 : ¬ cn ((t % 60 : Nat) : Int) < 0 := by
    rw [zcn, cnlt ⟨by omega, by omega⟩ (by decide)]
    omega
  have n4 : cn ((t % 60 : Nat) : Int) < cn 60 := lpt (by omega) (by decide)
  have hi := cninb (i := t % 60) (n := 60) hk60 (by decide)
  have hs' : (p.1 4 (t % 60 + 1) 6 = 0) = ¬ q.1 15 8 (t % 60) = 0 := by
    rcases hs with ⟨e1, -, e2, -⟩ | ⟨e1, e2 | e2⟩
    · rw [e1, e2]
      exact propext ⟨fun h => absurd h cn01, fun h => absurd rfl h⟩
    · omega
    · rw [e1, e2]
      exact propext ⟨fun _ => cn01, fun _ => rfl⟩
  unfold g7_find bg7_find g12_isKept bg12_isKept v7_find bv7_find v12_isKept bv12_isKept
  simp only [c1, c2, if_neg n0, if_pos n1, if_neg n2, irm60 (by omega : t ≤ 1000000000), if_neg n3, if_pos n4, cntk (i := t % 60) (by omega), ite_self]
  by_cases e : q.1 15 8 (t % 60) = 0
  · have e' : ¬ p.1 4 (t % 60 + 1) 6 = 0 := by
      rw [hs']
      exact fun h => h e
    simp only [if_pos e, if_neg e']
    exact ⟨⟨⟨hi, trivial⟩, hi, trivial⟩, trivial, trivial⟩
  · have e' : p.1 4 (t % 60 + 1) 6 = 0 := by
      rw [hs']
      exact e
    simp only [if_neg e, if_pos e']
    exact ⟨⟨⟨hi, trivial⟩, hi, trivial⟩, trivial, trivial⟩
theorem kept_c {p q : PM} {D t b : Nat} (H : DR p q D) (hb : b < 6) (h1 : t < D) (h2 : D ≤ t + 60) (h : q.1 15 8 (t % 60) = 0) : ((p.2.2 4 (t % 60 + 1) 0 = b + 1) = (q.1 13 30 (t % 60) = cn b)) ∧ (p.1 4 (t % 60 + 1) 5 = 0) = (q.1 15 7 (t % 60) = 0) := by
  obtain ⟨-, h8, hs⟩ := H.1 _ (Nat.mod_lt t (by decide : 60 > 0))
  have hle : t % 60 ≤ t := Nat.mod_le _ _
  rcases hs with ⟨-, -, -, b', A, B, z, n, k1, k2, k3, k4, k5, k6, k7, k8, k9, k10, k11, k12, k13, k14, k15, k16, k17⟩ | ⟨-, e2 | e2⟩
  · rw [k4, k5, k17.1, cneq ⟨by omega, by omega⟩ ⟨by omega, by omega⟩]
    exact ⟨propext ⟨fun e => by omega, fun e => by omega⟩, rfl⟩
  · omega
  · rw [e2] at h
    exact absurd h cn01
theorem late_c {p q : PM} {D b lo : Nat} (H : DR p q D) (hb : b < 6) (hlo : D ≤ lo + 60) : ∀ (d n : Nat) (v : Int32), lo + d ≤ D → d < n → v = cn ((lo + d : Nat) - 1 : Int) → g7_latestOf_19 p n (b + 1) (cn lo) v ∧ DS (KP q b) lo (lo + d) (cn (-100000)) (v7_latestOf_19 p n (b + 1) (cn lo) v) := by
  have hD := H.2.2.2
  intro d
  induction d with
  | zero =>
    intro n v h1 h2 hv
    obtain ⟨m, rfl⟩ : ∃ m, n = m + 1 := ⟨n - 1, by omega⟩
    have c : v < cn lo := by
      rw [hv, cnlt ⟨by omega, by omega⟩ ⟨by omega, by omega⟩]
      omega
    rw [eg7_latestOf_19, ev7_latestOf_19]
    unfold bg7_latestOf_19 bv7_latestOf_19
    simp only [if_pos c]
    exact ⟨trivial, Or.inl ⟨rfl, fun t k1 k2 => by omega⟩⟩
  | succ d ih =>
    intro n v h1 h2 hv
    obtain ⟨m, rfl⟩ : ∃ m, n = m + 1 := ⟨n - 1, by omega⟩
    have hv' : v = cn ((lo + d : Nat) : Int) := by
      rw [hv]
      congr 1
      omega
    have c : ¬ v < cn lo := by
      rw [hv', cnlt ⟨by omega, by omega⟩ ⟨by omega, by omega⟩]
      omega
    obtain ⟨⟨g1, -⟩, e1, -⟩ := find_t (t := lo + d) H (by omega) (by omega)
    obtain ⟨k1, k2⟩ := ih m (v + cn (-1)) (by omega) (by omega) (by
      rw [hv', cnadd]
      congr 1)
    have k3 : ¬ KP q b (lo + d) → DS (KP q b) lo (lo + (d + 1)) (cn (-100000)) (v7_latestOf_19 p m (b + 1) (cn lo) (v + cn (-1))) := by
      intro hn
      have up : ∀ u, u < lo + (d + 1) → u < lo + d ∨ u = lo + d := fun u h => by omega
      rcases k2 with ⟨j1, j2⟩ | ⟨t, j1, j2, j3, j4, j5⟩
      · refine Or.inl ⟨j1, fun t h3 h4 => ?_⟩
        rcases up t h4 with h | h
        · exact j2 t h3 h
        · rw [h]
          exact hn
      · refine Or.inr ⟨t, j1, by omega, j3, j4, fun u h3 h4 => ?_⟩
        rcases up u h4 with h | h
        · exact j5 u h3 h
        · rw [h]
          exact hn
    rw [← hv'] at g1 e1
    rw [eg7_latestOf_19, ev7_latestOf_19]
    unfold bg7_latestOf_19 bv7_latestOf_19
    simp only [if_neg c, e1]
    by_cases e : q.1 15 8 ((lo + d) % 60) = 0
    · have hz : ¬ (lo + d) % 60 + 1 = 0 := by omega
      obtain ⟨s1, s2⟩ := kept_c (t := lo + d) H hb (by omega) (by omega) e
      simp only [if_pos e, if_neg hz]
      by_cases e2 : p.2.2 4 ((lo + d) % 60 + 1) 0 = b + 1
      · by_cases e3 : p.1 4 ((lo + d) % 60 + 1) 5 = 0
        · simp only [if_pos e2, if_pos e3]
          exact ⟨⟨g1, hz, hz, trivial⟩, Or.inr ⟨lo + d, by omega, by omega, ⟨e, by rw [← s1]; exact e2, by rw [← s2]; exact e3⟩, hv', fun u h3 h4 => by omega⟩⟩
        · simp only [if_pos e2, if_neg e3]
          exact ⟨⟨g1, hz, hz, k1⟩, k3 fun h => e3 (by rw [s2]; exact h.2.2)⟩
      · simp only [if_neg e2]
        exact ⟨⟨g1, hz, k1⟩, k3 fun h => e2 (by rw [s1]; exact h.2.1)⟩
    · simp only [if_neg e, if_true]
      exact ⟨⟨g1, k1⟩, k3 fun h => e h.1⟩
theorem late_q {p q : PM} {D b lo : Nat} (H : DR p q D) (hb : b < 6) (hlo : D ≤ lo + 60) : ∀ (d i n : Nat) (acc : Int32), i + d = D → lo ≤ i → d < n → DS (KP q b) lo i (cn (-1)) acc → g12_latest_24 q n (cn b) acc (cn i) ∧ DS (KP q b) lo D (cn (-1)) (v12_latest_24 q n (cn b) acc (cn i)) := by
  have hD := H.2.2.2
  have c2 := H.2.2.1
  intro d
  induction d with
  | zero =>
    intro i n acc h1 h2 h3 ha
    obtain ⟨m, rfl⟩ : ∃ m, n = m + 1 := ⟨n - 1, by omega⟩
    have hi : i = D := by omega
    have c : ¬ cn (i : Int) < cn D := by
      rw [cnlt ⟨by omega, by omega⟩ ⟨by omega, by omega⟩]
      omega
    rw [eg12_latest_24, ev12_latest_24]
    unfold bg12_latest_24 bv12_latest_24
    simp only [c2, if_neg c]
    rw [hi] at ha
    exact ⟨trivial, ha⟩
  | succ d ih =>
    intro i n acc h1 h2 h3 ha
    obtain ⟨m, rfl⟩ : ∃ m, n = m + 1 := ⟨n - 1, by omega⟩
    have c : cn (i : Int) < cn D := by
      rw [cnlt ⟨by omega, by omega⟩ ⟨by omega, by omega⟩]
      omega
    obtain ⟨⟨-, g1⟩, -, e1⟩ := find_t (t := i) H (by omega) (by omega)
    have up : ∀ u, u < i + 1 → u < i ∨ u = i := fun u h => by omega
    have kn : ¬ KP q b i → DS (KP q b) lo (i + 1) (cn (-1)) acc := by
      intro hn
      rcases ha with ⟨j1, j2⟩ | ⟨t, j1, j2, j3, j4, j5⟩
      · refine Or.inl ⟨j1, fun t h3 h4 => ?_⟩
        rcases up t h4 with h | h
        · exact j2 t h3 h
        · rw [h]
          exact hn
      · refine Or.inr ⟨t, j1, by omega, j3, j4, fun u h3 h4 => ?_⟩
        rcases up u h4 with h | h
        · exact j5 u h3 h
        · rw [h]
          exact hn
    have hi60 := cninb (i := i % 60) (n := 60) (Nat.mod_lt _ (by decide)) (by decide)
    rw [eg12_latest_24, ev12_latest_24]
    unfold bg12_latest_24 bv12_latest_24
    simp only [c2, if_pos c, e1, irm60 (by omega : i ≤ 1000000000), cntk (i := i % 60) (by omega), cnsucc]
    by_cases e : q.1 15 8 (i % 60) = 0
    · simp only [if_pos e, if_neg cn01]
      by_cases e2 : q.1 13 30 (i % 60) = cn b
      · by_cases e3 : q.1 15 7 (i % 60) = 0
        · simp only [if_pos e2, if_pos e3]
          obtain ⟨k1, k2⟩ := ih (i + 1) m (cn i) (by omega) (by omega) (by omega) (Or.inr ⟨i, by omega, by omega, ⟨e, e2, e3⟩, rfl, fun u h3 h4 => by omega⟩)
          exact ⟨⟨g1, hi60, hi60, k1⟩, k2⟩
        · simp only [if_pos e2, if_neg e3]
          obtain ⟨k1, k2⟩ := ih (i + 1) m acc (by omega) (by omega) (by omega) (kn fun h => e3 h.2.2)
          exact ⟨⟨g1, hi60, hi60, k1⟩, k2⟩
      · simp only [if_neg e2]
        obtain ⟨k1, k2⟩ := ih (i + 1) m acc (by omega) (by omega) (by omega) (kn fun h => e2 h.2.1)
        exact ⟨⟨g1, hi60, k1⟩, k2⟩
    · simp only [if_neg e, if_pos cn0e']
      obtain ⟨k1, k2⟩ := ih (i + 1) m acc (by omega) (by omega) (by omega) (kn fun h => e h.1)
      exact ⟨⟨g1, k1⟩, k2⟩
theorem latest_eq {p q : PM} {D b : Nat} (H : DR p q D) (hb : b < 6) : (g7_latestOf p (b + 1) ∧ g12_latest q (cn b)) ∧ ((v7_latestOf p (b + 1) = cn (-100000) ∧ v12_latest q (cn b) = cn (-1)) ∨ ∃ t : Nat, v7_latestOf p (b + 1) = cn t ∧ v12_latest q (cn b) = cn t ∧ t < D ∧ t ≤ 1000000000 ∧ D ≤ t + 60 ∧ q.1 13 30 (t % 60) = cn b) := by
  have hD := H.2.2.2
  have c1 := H.2.1
  have c2 := H.2.2.1
  obtain ⟨lo, hlo⟩ : ∃ lo : Nat, lo = D - 60 := ⟨_, rfl⟩
  have hmax : v14_max_7cf53 p (cn 0) (cn (D : Int) - cn 60) = cn (lo : Int) := by
    rw [cnsub]
    unfold v14_max_7cf53 bv14_max_7cf53
    simp only [cnlt (a := 0) (b := (D : Int) - 60) (by decide) ⟨by omega, by omega⟩]
    split
    · congr 1
      omega
    · have : lo = 0 := by omega
      rw [this]
      rfl
  have gmax : g14_max_7cf53 p (cn 0) (cn (D : Int) - cn 60) := by
    unfold g14_max_7cf53 bg14_max_7cf53
    split <;> trivial
  obtain ⟨F, hF, hF2⟩ : ∃ F, FU = F ∧ 100 < F := ⟨FU, rfl, by decide⟩
  obtain ⟨a1, a2⟩ := late_c (lo := lo) H hb (by omega) (D - lo) F (cn (D : Int) - cn 1) (by omega) (by omega) (by
    rw [cnsub]
    congr 1
    omega)
  obtain ⟨b1', b2⟩ := late_q (lo := lo) H hb (by omega) (D - lo) lo F (cn (-1)) (by omega) (by omega) (by omega) (Or.inl ⟨rfl, fun t k1 k2 => by omega⟩)
  have eD : lo + (D - lo) = D := by omega
  rw [eD] at a2
  have e1 : v7_latestOf p (b + 1) = v7_latestOf_19 p F (b + 1) (cn lo) (cn (D : Int) - cn 1) := by
    unfold v7_latestOf bv7_latestOf
    simp only [c1, hmax, hF]
  have e2 : g7_latestOf p (b + 1) := by
    unfold g7_latestOf bg7_latestOf
    simp only [c1, hmax, hF]
    exact ⟨gmax, a1⟩
  have e3 : v12_latest q (cn b) = v12_latest_24 q F (cn b) (cn (-1)) (cn lo) ∧ g12_latest q (cn b) := by
    unfold v12_latest bv12_latest g12_latest bg12_latest
    simp only [c2, cnsub, hF]
    by_cases e : cn ((D : Int) - 60) < 0
    · have : lo = 0 := by
        rw [zcn, cnlt ⟨by omega, by omega⟩ (by decide)] at e
        omega
      simp only [if_pos e]
      rw [this] at b1'
      rw [this]
      exact ⟨rfl, b1'⟩
    · have : cn ((D : Int) - 60) = cn (lo : Int) := by
        rw [zcn, cnlt ⟨by omega, by omega⟩ (by decide)] at e
        congr 1
        omega
      simp only [if_neg e]
      rw [this]
      exact ⟨rfl, b1'⟩
  rw [e1, e3.1]
  refine ⟨⟨e2, e3.2⟩, ?_⟩
  rcases a2 with ⟨j1, j2⟩ | ⟨t, j1, j2, j3, j4, j5⟩
  · rcases b2 with ⟨k1, k2⟩ | ⟨u, k1, k2, k3, k4, k5⟩
    · exact Or.inl ⟨j1, k1⟩
    · exact absurd k3 (j2 u k1 k2)
  · rcases b2 with ⟨k1, k2⟩ | ⟨u, k1, k2, k3, k4, k5⟩
    · exact absurd j3 (k2 t j1 j2)
    · have htu : t = u := by
        rcases Nat.lt_trichotomy t u with h | h | h
        · exact absurd k3 (j5 u h k2)
        · exact h
        · exact absurd j3 (k5 t h j2)
      exact Or.inr ⟨t, j4, by rw [k4, htu], j2, by omega, by omega, j3.2.1⟩
