/-! all trades of an auction -/
/-- who stands stood, in the same book, of the same kind -/
def SS (q q' : PM) : Prop := ∀ i, i < 40 → stnd q' i → stnd q i ∧ q'.1 13 16 i = q.1 13 16 i ∧ q'.1 13 19 i = q.1 13 19 i
theorem ss_trans {q p r : PM} (h : SS q p) (h2 : SS p r) : SS q r := fun i hi hs => by
  obtain ⟨a1, a2, a3⟩ := h2 i hi hs
  obtain ⟨b1, b2, b3⟩ := h i hi a1
  exact ⟨b1, a2.trans b2, a3.trans b3⟩
theorem ss_np {q q' : PM} {b : Nat} (h : SS q q') (hn : NP q b) : NP q' b := fun i hi hs h16 hk => by
  obtain ⟨a1, a2, a3⟩ := h i hi hs
  rw [a2] at h16
  rw [a3] at hk
  exact hn i hi a1 h16 hk
theorem ta_loop {lg : Nat → Int32} {b N T l : Nat} {z : Int} (hb : b < 6) (hz : PrB b z) : ∀ (k n n' m : Nat) (p q : PM) (D : Nat), RS q 40 < k → k < n → k < n' → m + k ≤ 900000 → WW p q lg 99 b (fun _ => False) N T D l (fun _ => 0) → NP q b → D + RS q 40 + 3 ≤ 1000000000 → (g8_tradeAll_2 n p (b + 1) (cn z) (cn m) ∧ g12_tradesAll_17 n' q (cn b) (cn z) (v12_firstIn q (cn b) (cn 1) (cn z)) (v12_firstIn q (cn b) (cn 0) (cn z))) ∧ ∃ D2, D ≤ D2 ∧ WW (v8_tradeAll_2 n p (b + 1) (cn z) (cn m)) (v12_tradesAll_17 n' q (cn b) (cn z) (v12_firstIn q (cn b) (cn 1) (cn z)) (v12_firstIn q (cn b) (cn 0) (cn z))) lg 99 b (fun _ => False) N T D2 l (fun _ => 0) ∧ D2 + RS (v12_tradesAll_17 n' q (cn b) (cn z) (v12_firstIn q (cn b) (cn 1) (cn z)) (v12_firstIn q (cn b) (cn 0) (cn z))) 40 ≤ D + RS q 40 ∧ SS q (v12_tradesAll_17 n' q (cn b) (cn z) (v12_firstIn q (cn b) (cn 1) (cn z)) (v12_firstIn q (cn b) (cn 0) (cn z))) ∧ (∀ K, 2 ≤ K → K ≤ 13 → ¬ K = 4 → ¬ K = 10 → (v12_tradesAll_17 n' q (cn b) (cn z) (v12_firstIn q (cn b) (cn 1) (cn z)) (v12_firstIn q (cn b) (cn 0) (cn z))).1 13 K = q.1 13 K) ∧ ∀ S, ¬ S = 48 → (v12_tradesAll_17 n' q (cn b) (cn z) (v12_firstIn q (cn b) (cn 1) (cn z)) (v12_firstIn q (cn b) (cn 0) (cn z))).1 12 1 S = q.1 12 1 S := by
  intro k
  induction k with
  | zero =>
    intro n n' m p q D h1 _ _ _ H
    have := (RS_rng H.1.1 40 (by decide)).1
    omega
  | succ k ih =>
    intro n n' m p q D h1 h2 h3 h4 H hn hD
    have R0 := (RS_rng H.1.1 40 (by decide)).1
    obtain ⟨n1, rfl⟩ : ∃ m, n = m + 1 := ⟨n - 1, by omega⟩
    obtain ⟨n2, rfl⟩ : ∃ m, n' = m + 1 := ⟨n' - 1, by omega⟩
    have cm : cn (m : Int) < cn 1000000 := by
      rw [cnlt ⟨by omega, by omega⟩ ⟨by omega, by omega⟩]
      omega
    obtain ⟨⟨g1, -⟩, c1⟩ := in_eq hb H.1.1 hn H.1.2.2.1 (cn 1) (cn z)
    obtain ⟨⟨g0, -⟩, c0⟩ := in_eq hb H.1.1 hn H.1.2.2.1 (cn 0) (cn z)
    generalize hx1 : v12_firstIn q (cn b) (cn 1) (cn z) = f1 at c1
    generalize hx0 : v12_firstIn q (cn b) (cn 0) (cn z) = f0 at c0
    have stop : (v8_firstAt p (b + 1) (cn 1) (cn z) = 0 ∨ v8_firstAt p (b + 1) (cn 0) (cn z) = 0) → (f1 < 0 ∨ f0 < 0) → (g8_tradeAll_2 (n1 + 1) p (b + 1) (cn z) (cn m) ∧ g12_tradesAll_17 (n2 + 1) q (cn b) (cn z) f1 f0) ∧ v8_tradeAll_2 (n1 + 1) p (b + 1) (cn z) (cn m) = p ∧ v12_tradesAll_17 (n2 + 1) q (cn b) (cn z) f1 f0 = q := by
      intro e1 e2
      rw [ev8_tradeAll_2, eg8_tradeAll_2, ev12_tradesAll_17, eg12_tradesAll_17]
      unfold bv8_tradeAll_2 bg8_tradeAll_2 bv12_tradesAll_17 bg12_tradesAll_17
      simp only [if_pos cm]
      refine ⟨⟨⟨g1, g0, ?_⟩, ?_⟩, ?_, ?_⟩
      · by_cases a1 : v8_firstAt p (b + 1) (cn 1) (cn z) = 0
        · rw [if_pos a1]
          trivial
        · rw [if_neg a1, if_pos (e1.resolve_left a1)]
          trivial
      · by_cases a1 : f1 < 0
        · rw [if_pos a1]
          trivial
        · rw [if_neg a1, if_pos (e2.resolve_left a1)]
          trivial
      · by_cases a1 : v8_firstAt p (b + 1) (cn 1) (cn z) = 0
        · rw [if_pos a1]
        · rw [if_neg a1, if_pos (e1.resolve_left a1)]
      · by_cases a1 : f1 < 0
        · rw [if_pos a1]
        · rw [if_neg a1, if_pos (e2.resolve_left a1)]
    have done : (v8_firstAt p (b + 1) (cn 1) (cn z) = 0 ∨ v8_firstAt p (b + 1) (cn 0) (cn z) = 0) → (f1 < 0 ∨ f0 < 0) → (g8_tradeAll_2 (n1 + 1) p (b + 1) (cn z) (cn m) ∧ g12_tradesAll_17 (n2 + 1) q (cn b) (cn z) f1 f0) ∧ ∃ D2, D ≤ D2 ∧ WW (v8_tradeAll_2 (n1 + 1) p (b + 1) (cn z) (cn m)) (v12_tradesAll_17 (n2 + 1) q (cn b) (cn z) f1 f0) lg 99 b (fun _ => False) N T D2 l (fun _ => 0) ∧ D2 + RS (v12_tradesAll_17 (n2 + 1) q (cn b) (cn z) f1 f0) 40 ≤ D + RS q 40 ∧ SS q (v12_tradesAll_17 (n2 + 1) q (cn b) (cn z) f1 f0) ∧ (∀ K, 2 ≤ K → K ≤ 13 → ¬ K = 4 → ¬ K = 10 → (v12_tradesAll_17 (n2 + 1) q (cn b) (cn z) f1 f0).1 13 K = q.1 13 K) ∧ ∀ S, ¬ S = 48 → (v12_tradesAll_17 (n2 + 1) q (cn b) (cn z) f1 f0).1 12 1 S = q.1 12 1 S := by
      intro e1 e2
      obtain ⟨s1, s2, s3⟩ := stop e1 e2
      rw [s2, s3]
      exact ⟨s1, D, Nat.le_refl _, H, Int.le_refl _, fun i _ hs => ⟨hs, rfl, rfl⟩, fun _ _ _ _ _ => rfl, fun _ _ => rfl⟩
    rcases c1 with ⟨a1, a2⟩ | ⟨u, hu, a1, a2, lu, u24, u16, us⟩
    · exact done (Or.inl a1) (Or.inl (by rw [a2]; exact cnm1))
    rcases c0 with ⟨b1', b2⟩ | ⟨o, ho, b1', b2, lo, o24, o16, os⟩
    · exact done (Or.inr b1') (Or.inr (by rw [b2]; exact cnm1))
    obtain ⟨au, ru, su, zu, hLu⟩ := lv_slot H hu lu hb u16
    obtain ⟨ao, ro, so, zo, hLo⟩ := lv_slot H ho lo hb o16
    have hne : ¬ o = u := by
      intro e
      rw [e, us] at os
      exact cn01 os
    have rru := hLu.2.2.2.2.2.2.2.1
    have rro := hLo.2.2.2.2.2.2.2.1
    have hzu : ¬ u + 1 = 0 := by omega
    have hzo : ¬ o + 1 = 0 := by omega
    have hiu := cninb (i := u) (n := 44) (by omega) (by omega)
    have hio := cninb (i := o) (n := 44) (by omega) (by omega)
    have nu : ¬ f1 < 0 := by
      rw [a2, zcn, cnlt ⟨by omega, by omega⟩ (by decide)]
      omega
    have no : ¬ f0 < 0 := by
      rw [b2, zcn, cnlt ⟨by omega, by omega⟩ (by decide)]
      omega
    obtain ⟨P, Q, q1, q2, q3, q4, ⟨s1, s2⟩, ⟨j1, j2, j3, j4, j5⟩, ⟨y1, y2, y3, y4, y5⟩, W, r1, ss, m1, m2⟩ := auc_trade (n := min ru ro) H hu ho hne lu lo hLu hLo us hz (by omega) (by omega) (by omega) (by omega)
    have hmin : v14_min_7cf53 p (cn ru) (cn ro) = cn (min ru ro) := min_cn p ⟨by omega, by omega⟩ ⟨by omega, by omega⟩
    have hlst : v12_least q (cn ru) (cn ro) = cn (min ru ro) := least_cn q ⟨by omega, by omega⟩ ⟨by omega, by omega⟩
    have gmin := g_min p (cn ru) (cn ro)
    have glst := g_least q (cn ru) (cn ro)
    obtain ⟨⟨i1, i2⟩, D2, t1, W2, t2, ss2, m3, m4⟩ := ih n1 n2 (m + 1) P Q (D + 1) (by omega) (by omega) (by omega) (by omega) W (ss_np ss hn) (by omega)
    obtain ⟨⟨-, g3⟩, -⟩ := in_eq hb W.1.1 (ss_np ss hn) W.1.2.2.1 (cn 1) (cn z)
    obtain ⟨⟨-, g4⟩, -⟩ := in_eq hb W.1.1 (ss_np ss hn) W.1.2.2.1 (cn 0) (cn z)
    have hs : cn (m : Int) + cn 1 = cn ((m + 1 : Nat) : Int) := cnsucc m
    have eC : v8_tradeAll_2 (n1 + 1) p (b + 1) (cn z) (cn m) = v8_tradeAll_2 n1 P (b + 1) (cn z) (cn (m + 1 : Nat)) ∧ g8_tradeAll_2 (n1 + 1) p (b + 1) (cn z) (cn m) := by
      rw [ev8_tradeAll_2, eg8_tradeAll_2]
      unfold bv8_tradeAll_2 bg8_tradeAll_2
      simp only [if_pos cm, a1, b1', if_neg hzu, if_neg hzo, rru.2.2.1, rro.2.2.1, hmin, s1, hs]
      exact ⟨trivial, g1, g0, hzu, hzo, gmin, s2, i1⟩
    have eQ : v12_tradesAll_17 (n2 + 1) q (cn b) (cn z) f1 f0 = v12_tradesAll_17 n2 Q (cn b) (cn z) (v12_firstIn Q (cn b) (cn 1) (cn z)) (v12_firstIn Q (cn b) (cn 0) (cn z)) ∧ g12_tradesAll_17 (n2 + 1) q (cn b) (cn z) f1 f0 := by
      rw [ev12_tradesAll_17, eg12_tradesAll_17]
      unfold bv12_tradesAll_17 bg12_tradesAll_17
      rw [if_neg nu, if_neg no, if_neg nu, if_neg no, a2, b2]
      simp only [cntk (i := u) (by omega), cntk (i := o) (by omega), rru.2.2.2, rro.2.2.2, hlst, hLu.1.2.1, hLo.1.2.1, j1, j2, j3, j4, j5]
      exact ⟨trivial, hiu, hio, glst, hiu, hio, y1, y2, y3, y4, y5, g3, g4, i2⟩
    rw [eC.1, eQ.1]
    exact ⟨⟨eC.2, eQ.2⟩, D2, by omega, W2, by omega, ss_trans ss ss2, fun K h h' k4 k10 => (m3 K h h' k4 k10).trans (m1 K h h' k4 k10), fun S h => (m4 S h).trans (m2 S h)⟩
