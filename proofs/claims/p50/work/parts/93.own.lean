/-! orders of its own member at the price -/
def OWN (q : PM) (x i : Nat) : Prop := q.1 13 15 i / cn 2 = q.1 13 15 x / cn 2
theorem RS_lt {q q' : PM} : ∀ n : Nat, (∀ i, i < n → rs q' i ≤ rs q i) → (∃ i, i < n ∧ rs q' i < rs q i) → RS q' n < RS q n
  | 0, _, ⟨i, h, _⟩ => by omega
  | n + 1, h, ⟨i, h1, h2⟩ => by
    show RS q' n + rs q' n < RS q n + rs q n
    by_cases e : i = n
    · have h3 := RS_le n fun i hi => h i (by omega)
      rw [e] at h2
      omega
    · have h3 := RS_lt n (fun i hi => h i (by omega)) ⟨i, by omega, h2⟩
      have h4 := h n (by omega)
      omega
section Own
variable {q : PM} {x b : Nat} {t v : Int32}
theorem ho_loop (hx : x < 44) (hbk : q.1 13 16 x = cn b) (ht : (q.1 15 4 x = 0 ∧ t = cn 1) ∨ (¬ q.1 15 4 x = 0 ∧ t = cn 0)) : ∀ (d i n : Nat) (acc : Int32), i + d = 44 → d < n → ((acc = cn 0 ∧ ∀ s, s < i → QA q b t v s → ¬ OWN q x s) ∨ (acc = cn 1 ∧ ∃ s, s < 44 ∧ QA q b t v s ∧ OWN q x s)) → g12_hasOwn_5 q n (cn x) v acc (cn i) ∧ ((v12_hasOwn_5 q n (cn x) v acc (cn i) = cn 0 ∧ ∀ s, s < 44 → QA q b t v s → ¬ OWN q x s) ∨ (v12_hasOwn_5 q n (cn x) v acc (cn i) = cn 1 ∧ ∃ s, s < 44 ∧ QA q b t v s ∧ OWN q x s)) := by
  intro d
  induction d with
  | zero =>
    intro i n acc h1 h2 hI
    obtain ⟨m, rfl⟩ : ∃ m, n = m + 1 := ⟨n - 1, by omega⟩
    have e : i = 44 := by omega
    subst e
    have hb01 : b01 acc := by
      rcases hI with h | h
      · rw [h.1]
        exact b0
      · rw [h.1]
        exact b1
    simp only [eg12_hasOwn_5, ev12_hasOwn_5, bg12_hasOwn_5, bv12_hasOwn_5, if_neg (show ¬ cn ((44 : Nat) : Int) < cn 44 by decide)]
    exact ⟨⟨hb01, trivial⟩, hI⟩
  | succ d ih =>
    intro i n acc h1 h2 hI
    obtain ⟨m, rfl⟩ : ∃ m, n = m + 1 := ⟨n - 1, by omega⟩
    have hi := cninb (i := i) (n := 44) (by omega) (by omega)
    have hix := cninb (i := x) (n := 44) (by omega) (by omega)
    have ga := fun t => g_at (q := q) (i := i) (by omega) (cn b) t v
    have k := fun acc hI => ih (i + 1) m acc (by omega) (by omega) hI
    simp only [eg12_hasOwn_5, ev12_hasOwn_5, bg12_hasOwn_5, bv12_hasOwn_5, if_pos (lpt (i := i) (N := 44) (by omega) (by omega)), cntk (i := i) (by omega), cntk (i := x) (by omega), hbk, cnsucc]
    rcases hI with ⟨rfl, n2⟩ | ⟨rfl, n2⟩
    · by_cases hA : v12_isAt q (cn i) (cn b) t v = 0
      · have kn := k (cn 0) (Or.inl ⟨rfl, fun s hs h => by
          by_cases e : s = i
          · rw [e] at h
            exact absurd hA h
          · exact n2 s (by omega) h⟩)
        rcases ht with ⟨h, rfl⟩ | ⟨h, rfl⟩
        · simp only [if_pos cn0e', if_pos h, if_pos hA]
          exact ⟨⟨hix, hix, ga _, kn.1⟩, kn.2⟩
        · simp only [if_pos cn0e', if_neg h, if_pos hA]
          exact ⟨⟨hix, hix, ga _, kn.1⟩, kn.2⟩
      · by_cases hO : q.1 13 15 i / cn 2 = q.1 13 15 x / cn 2
        · have kn := k (cn 1) (Or.inr ⟨rfl, i, by omega, hA, hO⟩)
          rcases ht with ⟨h, rfl⟩ | ⟨h, rfl⟩
          · simp only [if_pos cn0e', if_pos h, if_neg hA, if_pos hO]
            exact ⟨⟨hix, hix, ga _, hi, hix, kn.1⟩, kn.2⟩
          · simp only [if_pos cn0e', if_neg h, if_neg hA, if_pos hO]
            exact ⟨⟨hix, hix, ga _, hi, hix, kn.1⟩, kn.2⟩
        · have kn := k (cn 0) (Or.inl ⟨rfl, fun s hs h => by
            by_cases e : s = i
            · rw [e]
              exact hO
            · exact n2 s (by omega) h⟩)
          rcases ht with ⟨h, rfl⟩ | ⟨h, rfl⟩
          · simp only [if_pos cn0e', if_pos h, if_neg hA, if_neg hO]
            exact ⟨⟨hix, hix, ga _, hi, hix, kn.1⟩, kn.2⟩
          · simp only [if_pos cn0e', if_neg h, if_neg hA, if_neg hO]
            exact ⟨⟨hix, hix, ga _, hi, hix, kn.1⟩, kn.2⟩
    · have kn := k (cn 1) (Or.inr ⟨rfl, n2⟩)
      simp only [if_neg cn01]
      exact kn
/-- the reference takes them away -/
theorem ro_loop (hx : x < 40) (hbk : q.1 13 16 x = cn b) (ht : (q.1 15 4 x = 0 ∧ t = cn 1) ∨ (¬ q.1 15 4 x = 0 ∧ t = cn 0)) : ∀ (d i n : Nat) (q' : PM), i + d = 44 → d < n → (∀ k j s, ¬ (k = 15 ∧ j = 3) → q'.1 k j s = q.1 k j s) → q'.2 = q.2 → (∀ s, (s < i ∧ QA q b t v s ∧ OWN q x s → q'.1 15 3 s = cn 0) ∧ (¬ (s < i ∧ QA q b t v s ∧ OWN q x s) → q'.1 15 3 s = q.1 15 3 s)) → g12_removesOwn_2 n q' (cn x) v (cn i) ∧ (∀ k j s, ¬ (k = 15 ∧ j = 3) → (v12_removesOwn_2 n q' (cn x) v (cn i)).1 k j s = q.1 k j s) ∧ (v12_removesOwn_2 n q' (cn x) v (cn i)).2 = q.2 ∧ ∀ s, (s < 44 ∧ QA q b t v s ∧ OWN q x s → (v12_removesOwn_2 n q' (cn x) v (cn i)).1 15 3 s = cn 0) ∧ (¬ (s < 44 ∧ QA q b t v s ∧ OWN q x s) → (v12_removesOwn_2 n q' (cn x) v (cn i)).1 15 3 s = q.1 15 3 s) := by
  intro d
  induction d with
  | zero =>
    intro i n q' h1 h2 f1 f2 f3
    obtain ⟨m, rfl⟩ : ∃ m, n = m + 1 := ⟨n - 1, by omega⟩
    have e : i = 44 := by omega
    subst e
    simp only [eg12_removesOwn_2, ev12_removesOwn_2, bg12_removesOwn_2, bv12_removesOwn_2, if_neg (show ¬ cn ((44 : Nat) : Int) < cn 44 by decide)]
    exact ⟨trivial, f1, f2, f3⟩
  | succ d ih =>
    intro i n q' h1 h2 f1 f2 f3
    obtain ⟨m, rfl⟩ : ∃ m, n = m + 1 := ⟨n - 1, by omega⟩
    have hi := cninb (i := i) (n := 44) (by omega) (by omega)
    have hix := cninb (i := x) (n := 44) (by omega) (by omega)
    have ga := fun t => g_at (q := q') (i := i) (by omega) (cn b) t v
    have e3 : q'.1 15 3 i = q.1 15 3 i := (f3 i).2 (fun h => by omega)
    have eA : v12_isAt q' (cn i) (cn b) t v = v12_isAt q (cn i) (cn b) t v := by
      rw [at_e q' i (by omega), at_e q i (by omega), there_e q' i (by omega), there_e q i (by omega), e3, f1 13 24 i (by omega), f1 13 16 i (by omega), f1 15 4 i (by omega), f1 15 5 i (by omega), f1 13 25 i (by omega)]
    have eb : q'.1 13 16 x = cn b := (f1 13 16 x (by omega)).trans hbk
    have es : q'.1 15 4 x = q.1 15 4 x := f1 15 4 x (by omega)
    have ea : q'.1 13 15 i = q.1 13 15 i := f1 13 15 i (by omega)
    have eax : q'.1 13 15 x = q.1 13 15 x := f1 13 15 x (by omega)
    simp only [eg12_removesOwn_2, ev12_removesOwn_2, bg12_removesOwn_2, bv12_removesOwn_2, if_pos (lpt (i := i) (N := 44) (by omega) (by omega)), cntk (i := i) (by omega), cntk (i := x) (by omega), eb, es, ea, eax, cnsucc]
    by_cases hA : v12_isAt q (cn i) (cn b) t v = 0
    · have kn := ih (i + 1) m q' (by omega) (by omega) f1 f2 (fun s => by
        by_cases e : s = i
        · rw [e]
          exact ⟨fun h => absurd hA h.2.1, fun _ => e3⟩
        · exact ⟨fun h => (f3 s).1 ⟨by omega, h.2⟩, fun h => (f3 s).2 (fun h9 => h ⟨by omega, h9.2⟩)⟩)
      rcases ht with ⟨h, rfl⟩ | ⟨h, rfl⟩
      · simp only [if_pos h, eA, if_pos hA]
        exact ⟨⟨hix, hix, ga _, kn.1⟩, kn.2⟩
      · simp only [if_neg h, eA, if_pos hA]
        exact ⟨⟨hix, hix, ga _, kn.1⟩, kn.2⟩
    · by_cases hO : q.1 13 15 i / cn 2 = q.1 13 15 x / cn 2
      · have kn := ih (i + 1) m (pI q' 15 3 i (cn 0)) (by omega) (by omega) (fun k j s h => by
          rw [← f1 k j s h, pI_1]
          by_cases e : k = 15
          · exact u3_i fun e2 => h ⟨e, e2⟩
          · exact u3_k e) f2 (fun s => by
          by_cases e : s = i
          · rw [e]
            exact ⟨fun _ => pI_at, fun h => absurd ⟨by omega, hA, hO⟩ h⟩
          · rw [pI_1, u3_s e]
            exact ⟨fun h => (f3 s).1 ⟨by omega, h.2⟩, fun h => (f3 s).2 (fun h9 => h ⟨by omega, h9.2⟩)⟩)
        rcases ht with ⟨h, rfl⟩ | ⟨h, rfl⟩
        · simp only [if_pos h, eA, if_neg hA, if_pos hO]
          exact ⟨⟨hix, hix, ga _, hi, hix, hi, kn.1⟩, kn.2⟩
        · simp only [if_neg h, eA, if_neg hA, if_pos hO]
          exact ⟨⟨hix, hix, ga _, hi, hix, hi, kn.1⟩, kn.2⟩
      · have kn := ih (i + 1) m q' (by omega) (by omega) f1 f2 (fun s => by
          by_cases e : s = i
          · rw [e]
            exact ⟨fun h => absurd h.2.2 hO, fun _ => e3⟩
          · exact ⟨fun h => (f3 s).1 ⟨by omega, h.2⟩, fun h => (f3 s).2 (fun h9 => h ⟨by omega, h9.2⟩)⟩)
        rcases ht with ⟨h, rfl⟩ | ⟨h, rfl⟩
        · simp only [if_pos h, eA, if_neg hA, if_neg hO]
          exact ⟨⟨hix, hix, ga _, hi, hix, kn.1⟩, kn.2⟩
        · simp only [if_neg h, eA, if_neg hA, if_neg hO]
          exact ⟨⟨hix, hix, ga _, hi, hix, kn.1⟩, kn.2⟩
/-- the class looks at them, and takes them away by the self rule 2 -/
theorem mo_loop {p : PM} {c : Nat} {L : Nat → Nat} (hc : c ≤ 40) (hq : ∀ k, k < c → p.2.2 20 2 k = L k + 1 ∧ L k < 40) (hown : ∀ k, k < c → (p.1 0 (p.2.2 10 (L k + 1) 3) 1 = p.1 0 (p.2.2 10 (x + 1) 3) 1) = OWN q x (L k) ∧ ¬ p.2.2 10 (L k + 1) 3 = 0) (hinj : ∀ j k, j < c → k < c → L j = L k → j = k) (hbk : p.2.2 10 (x + 1) 4 = b + 1) (hax : ¬ p.2.2 10 (x + 1) 3 = 0) : ∀ (d j n : Nat) (p' : PM) (acc : Int32), j + d = c → d < n → (∀ k i s, ¬ (k = 10 ∧ s = 2) → p'.1 k i s = p.1 k i s) → p'.2 = p.2 → (∀ s, (p.1 1 (b + 1) 11 = cn 2 ∧ (∃ k, k < j ∧ L k = s) ∧ OWN q x s → p'.1 10 (s + 1) 2 = cn 0) ∧ (¬ (p.1 1 (b + 1) 11 = cn 2 ∧ (∃ k, k < j ∧ L k = s) ∧ OWN q x s) → p'.1 10 (s + 1) 2 = p.1 10 (s + 1) 2)) → p'.1 10 0 2 = p.1 10 0 2 → ((acc = cn 0 ∧ ∀ k, k < j → ¬ OWN q x (L k)) ∨ (acc = cn 1 ∧ ∃ k, k < c ∧ OWN q x (L k))) → g8_meetsOwn_5 n p' (x + 1) (cn c) acc (cn j) ∧ (∀ k i s, ¬ (k = 10 ∧ s = 2) → (v8_meetsOwn_5 n p' (x + 1) (cn c) acc (cn j)).2.1 k i s = p.1 k i s) ∧ (v8_meetsOwn_5 n p' (x + 1) (cn c) acc (cn j)).2.2 = p.2 ∧ (∀ s, (p.1 1 (b + 1) 11 = cn 2 ∧ (∃ k, k < c ∧ L k = s) ∧ OWN q x s → (v8_meetsOwn_5 n p' (x + 1) (cn c) acc (cn j)).2.1 10 (s + 1) 2 = cn 0) ∧ (¬ (p.1 1 (b + 1) 11 = cn 2 ∧ (∃ k, k < c ∧ L k = s) ∧ OWN q x s) → (v8_meetsOwn_5 n p' (x + 1) (cn c) acc (cn j)).2.1 10 (s + 1) 2 = p.1 10 (s + 1) 2)) ∧ (v8_meetsOwn_5 n p' (x + 1) (cn c) acc (cn j)).2.1 10 0 2 = p.1 10 0 2 ∧ (((v8_meetsOwn_5 n p' (x + 1) (cn c) acc (cn j)).1 = cn 0 ∧ ∀ k, k < c → ¬ OWN q x (L k)) ∨ ((v8_meetsOwn_5 n p' (x + 1) (cn c) acc (cn j)).1 = cn 1 ∧ ∃ k, k < c ∧ OWN q x (L k))) := by
  intro d
  induction d with
  | zero =>
    intro j n p' acc h1 h2 f1 f2 f3 f4 hI
    obtain ⟨m, rfl⟩ : ∃ m, n = m + 1 := ⟨n - 1, by omega⟩
    have e : j = c := by omega
    subst e
    have hb01 : b01 acc := by
      rcases hI with h | h
      · rw [h.1]
        exact b0
      · rw [h.1]
        exact b1
    simp only [eg8_meetsOwn_5, ev8_meetsOwn_5, bg8_meetsOwn_5, bv8_meetsOwn_5, if_neg (lpf (i := j) (N := j) (Int.le_refl _) (by omega) (by omega))]
    exact ⟨⟨hb01, trivial⟩, f1, f2, f3, f4, hI⟩
  | succ d ih =>
    intro j n p' acc h1 h2 f1 f2 f3 f4 hI
    obtain ⟨m, rfl⟩ : ∃ m, n = m + 1 := ⟨n - 1, by omega⟩
    have hj : j < c := by omega
    have hi := cninb (i := j) (n := 40) (by omega) (by omega)
    obtain ⟨q1, q2⟩ := hq j hj
    obtain ⟨o1, o2⟩ := hown j hj
    have hzx : ¬ x + 1 = 0 := by omega
    have hzl : ¬ L j + 1 = 0 := by omega
    have hzb : ¬ b + 1 = 0 := by omega
    have e1 : p'.2.2 = p.2.2 := by rw [f2]
    have e0 : ∀ i, p'.1 0 i 1 = p.1 0 i 1 := fun i => f1 0 i 1 (by omega)
    have e11 : p'.1 1 (b + 1) 11 = p.1 1 (b + 1) 11 := f1 1 (b + 1) 11 (by omega)
    simp only [eg8_meetsOwn_5, ev8_meetsOwn_5, bg8_meetsOwn_5, bv8_meetsOwn_5, if_pos (lpt (i := j) (N := c) (by omega) (by omega)), if_pos (lpt (i := j) (N := 40) (by omega) (by omega)), cntk (i := j) (by omega), e1, q1, e0, hbk, e11, cnsucc]
    by_cases hO : p.1 0 (p.2.2 10 (L j + 1) 3) 1 = p.1 0 (p.2.2 10 (x + 1) 3) 1
    · have hOW : OWN q x (L j) := o1 ▸ hO
      by_cases h2 : p.1 1 (b + 1) 11 = cn 2
      · have kn := ih (j + 1) m (pI p' 10 (L j + 1) 2 (cn 0)) (cn 1) (by omega) (by omega) (fun k i s h => by
          rw [← f1 k i s h, pI_1]
          by_cases e : k = 10
          · exact u3_s fun e2 => h ⟨e, e2⟩
          · exact u3_k e) f2 (fun s => by
          by_cases e : s = L j
          · rw [e]
            exact ⟨fun _ => pI_at, fun h => absurd ⟨h2, ⟨j, by omega, rfl⟩, hOW⟩ h⟩
          · rw [pI_1, u3_i (by omega)]
            refine ⟨fun ⟨h3, ⟨k, k1, k2⟩, h4⟩ => (f3 s).1 ⟨h3, ⟨k, ?_, k2⟩, h4⟩, fun h => (f3 s).2 (fun ⟨h3, ⟨k, k1, k2⟩, h4⟩ => h ⟨h3, ⟨k, by omega, k2⟩, h4⟩)⟩
            by_cases e2 : k = j
            · rw [e2] at k2
              exact absurd k2.symm e
            · omega) (by
          rw [pI_1, u3_i (by omega)]
          exact f4) (Or.inr ⟨rfl, j, hj, hOW⟩)
        simp only [if_pos hO, if_pos h2]
        exact ⟨⟨hi, hzl, o2, hzx, hax, hzx, hzb, hzl, kn.1⟩, kn.2⟩
      · have kn := ih (j + 1) m p' (cn 1) (by omega) (by omega) f1 f2 (fun s => ⟨fun h => absurd h.1 h2, fun _ => (f3 s).2 fun h => h2 h.1⟩) f4 (Or.inr ⟨rfl, j, hj, hOW⟩)
        simp only [if_pos hO, if_neg h2]
        exact ⟨⟨hi, hzl, o2, hzx, hax, hzx, hzb, kn.1⟩, kn.2⟩
    · have hOW : ¬ OWN q x (L j) := o1 ▸ hO
      have kn := ih (j + 1) m p' acc (by omega) (by omega) f1 f2 (fun s => by
        refine ⟨fun ⟨h3, ⟨k, k1, k2⟩, h4⟩ => (f3 s).1 ⟨h3, ⟨k, ?_, k2⟩, h4⟩, fun h => (f3 s).2 (fun ⟨h3, ⟨k, k1, k2⟩, h4⟩ => h ⟨h3, ⟨k, by omega, k2⟩, h4⟩)⟩
        by_cases e2 : k = j
        · rw [e2] at k2
          rw [← k2] at h4
          exact absurd h4 hOW
        · omega) f4 (by
        rcases hI with ⟨n1, n2⟩ | ⟨n1, n2⟩
        · refine Or.inl ⟨n1, fun k hk => ?_⟩
          by_cases e : k = j
          · rw [e]
            exact hOW
          · exact n2 k (by omega)
        · exact Or.inr ⟨n1, n2⟩)
      simp only [if_neg hO]
      exact ⟨⟨hi, hzl, o2, hzx, hax, kn.1⟩, kn.2⟩
end Own
theorem lv_own {p q : PM} {x y i j a a' b b' : Nat} {r s z r' s' z' : Int} (hK : CK p) (h : LV p q x y i a b r s z) (h' : LV p q x y j a' b' r' s' z') : (p.1 0 (p.2.2 10 (i + 1) 3) 1 = p.1 0 (p.2.2 10 (j + 1) 3) 1) = (q.1 13 15 i / cn 2 = q.1 13 15 j / cn 2) := by
  have h1 := h.1
  have h2 := h'.1
  rw [h1.2.2, h2.2.2, h1.2.1, h2.2.1, (hK.1 a (by omega)).2, (hK.1 a' (by omega)).2, half (by omega), half (by omega)]
section Own2
variable {p q : PM} {lg : Nat → Int32} {x b c N T D l ax : Nat} {f : Nat → Int} {t v : Int32} {sz : Bool} {L : Nat → Nat} {rx sx zx : Int}
theorem own_all (H : WW p q lg x 99 (fun _ => False) N T D l f) (hb : b < 6) (hx : x < 40) (hLx : LV p q x 99 x ax b rx sx zx) (ht : (q.1 15 4 x = 0 ∧ t = cn 1) ∨ (¬ q.1 15 4 x = 0 ∧ t = cn 0)) (hq : ∀ k, k < c → p.2.2 20 2 k = L k + 1) (HL : QL q b t v sz 40 c L) : g8_meetsOwn p (x + 1) (cn c) ∧ g12_hasOwn q (cn x) v ∧
    (((v8_meetsOwn p (x + 1) (cn c)).1 = cn 0 ∧ (v8_meetsOwn p (x + 1) (cn c)).2 = p ∧ v12_hasOwn q (cn x) v = cn 0) ∨
    ((v8_meetsOwn p (x + 1) (cn c)).1 = cn 1 ∧ v12_hasOwn q (cn x) v = cn 1 ∧ (¬ p.1 1 (b + 1) 11 = cn 2 → (v8_meetsOwn p (x + 1) (cn c)).2 = p) ∧ (p.1 1 (b + 1) 11 = cn 2 → g12_removesOwn q (cn x) v ∧ Mk p (v8_meetsOwn p (x + 1) (cn c)).2 q (v12_removesOwn q (cn x) v) ∧ RS (v12_removesOwn q (cn x) v) 40 < RS q 40 ∧ (v12_removesOwn q (cn x) v).1 15 3 x = q.1 15 3 x))) := by
  have hc := HL.1
  have hB := qb_of (t := t) (v := v) H hb
  have hown : ∀ k, k < c → (p.1 0 (p.2.2 10 (L k + 1) 3) 1 = p.1 0 (p.2.2 10 (x + 1) 3) 1) = OWN q x (L k) ∧ ¬ p.2.2 10 (L k + 1) 3 = 0 := by
    intro k hk
    obtain ⟨a, r, s, z, hI⟩ := qa_inv H hb (by have := (HL.2.1 k hk).1; omega) (HL.2.1 k hk).2
    refine ⟨lv_own H.2.2.2.2.1 hI.1 hLx, ?_⟩
    rw [hI.1.1.2.2]
    omega
  have hax : ¬ p.2.2 10 (x + 1) 3 = 0 := by
    rw [hLx.1.2.2]
    omega
  obtain ⟨g1, m1, m2, m3, m4, m5⟩ := mo_loop (q := q) (x := x) (b := b) hc (fun k hk => ⟨hq k hk, by have := (HL.2.1 k hk).1; omega⟩) hown (ql_inj HL) hLx.2.1.2.2 hax c 0 FU p (cn 0) (by omega) (by unfold FU; omega) (fun _ _ _ _ => rfl) rfl (fun s => ⟨fun ⟨_, ⟨k, k1, _⟩, _⟩ => absurd k1 (by omega), fun _ => rfl⟩) rfl (Or.inl ⟨rfl, fun k hk => absurd hk (by omega)⟩)
  obtain ⟨g2, n5⟩ := ho_loop (q := q) (b := b) (t := t) (v := v) (x := x) (by omega) hLx.2.1.2.1 ht 44 0 FU (cn 0) rfl (by decide) (Or.inl ⟨rfl, fun s hs => absurd hs (by omega)⟩)
  obtain ⟨g3, o1, o2, o3⟩ := ro_loop (q := q) (b := b) (t := t) (v := v) hx hLx.2.1.2.1 ht 44 0 FU q rfl (by decide) (fun _ _ _ _ => rfl) rfl (fun s => ⟨fun h => absurd h.1 (by omega), fun _ => rfl⟩)
  refine ⟨g1, g2, ?_⟩
  show ((v8_meetsOwn_5 FU p (x + 1) (cn c) (cn 0) (cn (0 : Nat))).1 = cn 0 ∧ (v8_meetsOwn_5 FU p (x + 1) (cn c) (cn 0) (cn (0 : Nat))).2 = p ∧ v12_hasOwn_5 q FU (cn x) v (cn 0) (cn (0 : Nat)) = cn 0) ∨ ((v8_meetsOwn_5 FU p (x + 1) (cn c) (cn 0) (cn (0 : Nat))).1 = cn 1 ∧ v12_hasOwn_5 q FU (cn x) v (cn 0) (cn (0 : Nat)) = cn 1 ∧ (¬ p.1 1 (b + 1) 11 = cn 2 → (v8_meetsOwn_5 FU p (x + 1) (cn c) (cn 0) (cn (0 : Nat))).2 = p) ∧ (p.1 1 (b + 1) 11 = cn 2 → g12_removesOwn_2 FU q (cn x) v (cn (0 : Nat)) ∧ Mk p (v8_meetsOwn_5 FU p (x + 1) (cn c) (cn 0) (cn (0 : Nat))).2 q (v12_removesOwn_2 FU q (cn x) v (cn (0 : Nat))) ∧ RS (v12_removesOwn_2 FU q (cn x) v (cn (0 : Nat))) 40 < RS q 40 ∧ (v12_removesOwn_2 FU q (cn x) v (cn (0 : Nat))).1 15 3 x = q.1 15 3 x))
  generalize v8_meetsOwn_5 FU p (x + 1) (cn c) (cn 0) (cn (0 : Nat)) = P at m1 m2 m3 m4 m5 ⊢
  generalize v12_hasOwn_5 q FU (cn x) v (cn 0) (cn (0 : Nat)) = h9 at n5 ⊢
  generalize v12_removesOwn_2 FU q (cn x) v (cn (0 : Nat)) = Q at o1 o2 o3 ⊢
  have hsame : ¬ (p.1 1 (b + 1) 11 = cn 2 ∧ ∃ k, k < c ∧ OWN q x (L k)) → P.2 = p := by
    intro hno
    refine pm_ext (fun k i s => ?_) m2
    by_cases e : k = 10 ∧ s = 2
    · rw [e.1, e.2]
      cases i with
      | zero => exact m4
      | succ i => exact (m3 i).2 (fun ⟨h1, ⟨k, k1, k2⟩, h2⟩ => hno ⟨h1, k, k1, by rw [k2]; exact h2⟩)
    · exact m1 k i s e
  have hQA : ∀ s, s < 44 → QA q b t v s → ∃ k, k < c ∧ L k = s := fun s hs hA => HL.2.2.2 s (hB s hs hA).1 hA
  rcases m5 with ⟨a1, a2⟩ | ⟨a1, k, a2, a3⟩
  · refine Or.inl ⟨a1, hsame (fun ⟨_, k, k1, k2⟩ => a2 k k1 k2), ?_⟩
    rcases n5 with ⟨c1, c2⟩ | ⟨c1, s, c2, c3, c4⟩
    · exact c1
    · obtain ⟨k, k1, k2⟩ := hQA s c2 c3
      rw [← k2] at c4
      exact absurd c4 (a2 k k1)
  · refine Or.inr ⟨a1, ?_, fun h => hsame (fun h2 => h h2.1), fun h2 => ⟨g3, ?_, ?_, ?_⟩⟩
    · rcases n5 with ⟨c1, c2⟩ | ⟨c1, -⟩
      · exact absurd a3 (c2 (L k) (by have := (HL.2.1 k a2).1; omega) (HL.2.1 k a2).2)
      · exact c1
    · refine ⟨fun i S h => m1 10 i S (by omega), fun K h => ?_, m2, fun K i h => ?_, o2, fun i hi => ?_, fun i h3 h4 => ?_⟩
      · funext i s
        exact m1 K i s (by omega)
      · funext s
        exact o1 K i s h
      · by_cases hAO : QA q b t v i ∧ OWN q x i
        · obtain ⟨k', k1, k2⟩ := hQA i (by omega) hAO.1
          exact Or.inr ⟨(m3 i).1 ⟨h2, ⟨k', k1, k2⟩, hAO.2⟩, (o3 i).1 ⟨by omega, hAO⟩⟩
        · refine Or.inl ⟨(m3 i).2 (fun ⟨_, ⟨k', k1, k2⟩, h4⟩ => hAO ⟨?_, h4⟩), (o3 i).2 (fun h4 => hAO h4.2)⟩
          rw [← k2]
          exact (HL.2.1 k' k1).2
      · refine (o3 i).2 (fun h5 => ?_)
        have := (hB i h4 h5.2.1).1
        omega
    · refine RS_lt 40 (fun i hi => ?_) ⟨L k, (HL.2.1 k a2).1, ?_⟩
      · have h0 := (rs_rng (H.1.1.1 i hi)).1
        unfold rs at h0 ⊢
        rw [o1 13 17 i (by omega)]
        by_cases hAO : QA q b t v i ∧ OWN q x i
        · rw [(o3 i).1 ⟨by omega, hAO⟩, if_pos cn0e']
          exact h0
        · rw [(o3 i).2 (fun h4 => hAO h4.2)]
          exact Int.le_refl _
      · obtain ⟨a, r, s, z, hI⟩ := qa_inv H hb (by have := (HL.2.1 k a2).1; omega) (HL.2.1 k a2).2
        have hr := hI.1.2.2.2.2.2.2.2.1
        unfold rs
        rw [(o3 (L k)).1 ⟨by have := (HL.2.1 k a2).1; omega, (HL.2.1 k a2).2, a3⟩, if_pos cn0e', hI.2.1.1, if_neg cn01, hr.2.2.2, cn_I ⟨by omega, by omega⟩]
        omega
    · refine (o3 x).2 (fun h3 => ?_)
      obtain ⟨a, r, s, z, hI⟩ := qa_inv H hb hx h3.2.1
      exact hI.2.2.2.2.1 rfl
end Own2
