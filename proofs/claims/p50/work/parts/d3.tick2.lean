/-! a tick, in both -/
section Tick
variable {p q p' q' : PM} {lg : Nat → Int32} {N T D : Nat}
theorem ww_tick0 {t : Nat} (H : WW p q lg 99 99 (fun _ => False) N T D 6 (fun _ => 0)) (ht : t + 1 ≤ 900000) (h17 : q.1 12 1 17 = cn t)
    (p1 : ∀ k j s, ¬ (k = 0 ∧ s = 8) → ¬ (k = 6 ∧ j = 1 ∧ s = 2) → p'.1 k j s = p.1 k j s) (p2 : p'.2 = p.2) (p3 : p'.1 6 1 2 = cn (t + 1 : Nat))
    (q1 : ∀ k j s, ¬ (k = 13 ∧ j = 5) → ¬ (k = 12 ∧ j = 1 ∧ s = 17) → q'.1 k j s = q.1 k j s) (q2 : q'.2 = q.2) (q3 : q'.1 12 1 17 = cn (t + 1 : Nat))
    (h8 : ∀ a, a < 8 → p'.1 0 (a + 1) 8 = q'.1 13 5 a) : WW p' q' lg 99 99 (fun _ => False) N T D 0 (fun _ => 0) ∧ RS q' 40 = RS q 40 := by
  obtain ⟨hO, hA, hB, hD, hK, hI0, hI, hF⟩ := H
  have pk : ∀ K, ¬ K = 0 → ¬ K = 6 → p'.1 K = p.1 K := by
    intro K h h'
    funext j s
    exact p1 K j s (fun e => h e.1) (fun e => h' e.1)
  have p6 : ∀ S, ¬ S = 2 → p'.1 6 1 S = p.1 6 1 S := fun S h => p1 6 1 S (fun e => absurd e.1 (by decide)) (fun e => h e.2.2)
  have q13 : ∀ K, ¬ K = 5 → q'.1 13 K = q.1 13 K := by
    intro K h
    funext s
    exact q1 13 K s (fun e => h e.2) (fun e => absurd e.1 (by decide))
  have q15 : q'.1 15 = q.1 15 := by
    funext j s
    exact q1 15 j s (fun e => absurd e.1 (by decide)) (fun e => absurd e.1 (by decide))
  have q12 : ∀ S, ¬ S = 17 → q'.1 12 1 S = q.1 12 1 S := fun S h => q1 12 1 S (fun e => absurd e.1 (by decide)) (fun e => h e.2.2)
  have hRS : RS q' 40 = RS q 40 := RS_same 40 fun i _ => by
    unfold rs
    rw [q15, q13 17 (by decide)]
  obtain ⟨a1, a2, a3, a4, a5, a6, a7, a8, a9, a10, a11⟩ := hI0
  refine ⟨⟨?_, ?_, ?_, ?_, ?_, ?_, ?_, ?_⟩, hRS⟩
  · exact ord_c (pk 10 (by decide) (by decide)) (by rw [p2]) (p6 4 (by decide)) (p6 5 (by decide)) (fun K _ _ => q13 K (by omega)) (fun K _ _ => by rw [q15]) (q12 39 (by decide)) (q12 40 (by decide)) hO
  · refine ⟨fun c hc => ?_, fun c hc => ⟨Int.le_refl _, ?_⟩⟩
    · have h := hA.1 c hc
      unfold AcR at h ⊢
      rw [pk 13 (by decide) (by decide), q13 1 (by decide), p2, q2]
      exact h
    · obtain ⟨w1, w2, w3, w4, -⟩ := (hA.2 c hc).2
      unfold TrF
      have e : ∀ S, ¬ S = 8 → p'.1 0 (c + 1) S = p.1 0 (c + 1) S := fun S h => p1 0 (c + 1) S (fun e => h e.2) (fun e => absurd e.1 (by decide))
      rw [pk 13 (by decide) (by decide), q13 2 (by decide), q13 3 (by decide), q13 4 (by decide), e 5 (by decide), e 6 (by decide), e 7 (by decide), q15]
      exact ⟨w1, w2, w3, w4, h8 c hc⟩
  · exact brl_c (pk 1 (by decide) (by decide)) (fun i k1 k2 => q13 i (by omega)) (by rw [q15]) hB
  · exact dr_c (pk 4 (by decide) (by decide)) (pk 7 (by decide) (by decide)) (by rw [p2]) (fun i k1 k2 => q13 i (by omega)) (by rw [q15]) (by rw [q15]) (q12 48 (by decide)) hD
  · obtain ⟨j1, j2⟩ := hK
    refine ⟨fun c hc => ?_, fun c hc => ?_⟩
    · rw [p1 0 (c + 1) 0 (fun e => absurd e.2 (by decide)) (fun e => absurd e.1 (by decide)), p1 0 (c + 1) 1 (fun e => absurd e.2 (by decide)) (fun e => absurd e.1 (by decide))]
      exact j1 c hc
    · rw [pk 1 (by decide) (by decide)]
      exact j2 c hc
  · refine ⟨fun m hm => ?_, fun s c hs hc => ?_, ?_, ?_, ?_, ⟨t + 1, ht, p3, q3⟩, ?_, fun j => ?_, ?_, ?_, ?_⟩
    · rw [pk 9 (by decide) (by decide), q13 36 (by decide), q13 37 (by decide), q13 38 (by decide), q13 39 (by decide), q15]
      exact a1 m hm
    · rw [pk 13 (by decide) (by decide), q13 35 (by decide)]
      exact a2 s c hs hc
    · rw [pk 2 (by decide) (by decide), q12 50 (by decide)]
      exact a3
    · rw [pk 2 (by decide) (by decide), q12 58 (by decide)]
      exact a4
    · rw [pk 2 (by decide) (by decide), q12 57 (by decide)]
      exact a5
    · rw [p6 3 (by decide), q12 18 (by decide)]
      exact a7
    · rw [q13 40 (by decide)]
      exact a8 j
    · rw [q12 60 (by decide)]
      exact a9
    · rw [q12 61 (by decide)]
      exact a10
    · unfold PD at a11 ⊢
      rw [q13 1 (by decide), q12 48 (by decide), q2]
      exact a11
  · obtain ⟨i1, i2, i3, i4⟩ := hI
    refine ⟨fun i hi h => ?_, fun i hi hw h => ?_, fun i u hi h => ?_, fun c hc h => ?_⟩
    · unfold stnd at h
      rw [q15, q13 24 (by decide)] at h
      rw [q15, q13 16 (by decide), q13 12 (by decide)]
      exact i1 i hi h
    · unfold stnd at h
      rw [q15, q13 24 (by decide)] at h
      rw [q13 16 (by decide), q13 19 (by decide), q13 22 (by decide)]
      exact i2 i hi hw h
    · rw [q15] at h
      rw [q13 16 (by decide), q13 19 (by decide), q13 24 (by decide), q13 28 (by decide), q13 30 (by decide)]
      exact i3 i u hi h
    · rw [q13 12 (by decide)] at h ⊢
      obtain ⟨e, t', e1, e2, e3, e4, e5⟩ := i4 c hc h
      rw [h17, cneq ⟨by omega, by omega⟩ ⟨by omega, by omega⟩] at e3
      rw [if_pos hc] at e5
      refine ⟨e, t + 1, e1, e2, q3, by omega, ?_⟩
      rw [if_neg (by omega)]
      omega
  · refine ⟨fun c hc => ?_, ?_⟩
    · obtain ⟨zz, z1, z2, z3⟩ := hF.1 c hc
      exact ⟨zz, by rw [q13 4 (by decide)]; exact z1, z2, by rw [hRS]; exact z3⟩
    · obtain ⟨zb, L, b1, b2, b3, b4, b5⟩ := hF.2
      exact ⟨zb, L, by rw [q13 4 (by decide)]; exact b1, by rw [q12 95 (by decide)]; exact b2, b3, by rw [hRS]; exact b4, b5⟩
/-- time goes on by one, and quotes are counted; the reference goes to its auctions then -/
theorem ww_tick {t F : Nat} {kv2 : PM → Int32 → Int32 → PM} {kg2 : PM → Int32 → Int32 → Prop} {v1 v2 : Int32} (hF : FU = F) (hF2 : 100 < F) (H : WW p q lg 99 99 (fun _ => False) N T D 6 (fun _ => 0)) (hn : NPA q) (ht : t + 1 ≤ 900000) (h17 : q.1 12 1 17 = cn t) : g6_countQuotes (pI p 6 1 2 (cn (t + 1 : Nat))) ∧ ∃ q', v12_passes_19 kv2 F (pI q 12 1 17 (cn (t + 1 : Nat))) v1 v2 (cn 0) = v12_passes_94 kv2 F q' v1 v2 (cn 0) ∧ (g12_passes_94 kg2 F q' v1 v2 (cn 0) → g12_passes_19 kg2 F (pI q 12 1 17 (cn (t + 1 : Nat))) v1 v2 (cn 0)) ∧ WW (v6_countQuotes (pI p 6 1 2 (cn (t + 1 : Nat)))) q' lg 99 99 (fun _ => False) N T D 0 (fun _ => 0) ∧ RS q' 40 = RS q 40 ∧ NPA q' ∧ q'.1 12 1 17 = cn (t + 1 : Nat) := by
  have ek : ∀ K, ¬ K = 6 → (pI p 6 1 2 (cn (t + 1 : Nat))).1 K = p.1 K := by
    intro K h
    funext j S
    rw [pI_1, u3_k h]
  have H2 : OR (pI p 6 1 2 (cn (t + 1 : Nat))) q 99 99 := ⟨fun j hj => slot_congr (fun S => by rw [ek 10 (by decide)]) (fun _ => rfl) (fun _ _ _ _ => rfl) (fun _ _ _ => rfl) rfl (H.1.1.1 j hj), H.1.1.2⟩
  have hB2 : BR (pI p 6 1 2 (cn (t + 1 : Nat))) q := brl_c (ek 1 (by decide)) (fun _ _ _ => rfl) rfl H.2.2.1
  obtain ⟨c1, c2, c3, c4⟩ := cq_loop (q := q) 40 0 F _ rfl (by omega) H2 hB2
  have z0 : cn ((0 : Nat) : Int) = cn 0 := rfl
  rw [z0] at c1 c2 c3 c4
  have eC : v6_countQuotes (pI p 6 1 2 (cn (t + 1 : Nat))) = v6_countQuotes_10 F (pI p 6 1 2 (cn (t + 1 : Nat))) (cn 0) ∧ g6_countQuotes (pI p 6 1 2 (cn (t + 1 : Nat))) := by
    unfold v6_countQuotes bv6_countQuotes g6_countQuotes bg6_countQuotes
    rw [hF]
    exact ⟨rfl, c1⟩
  obtain ⟨q', j1, j2, j3, j4, j5⟩ := p19_loop (kv2 := kv2) (kg2 := kg2) (v1 := v1) (v2 := v2) hF hF2 8 0 F (pI q 12 1 17 (cn (t + 1 : Nat))) rfl (by omega)
  rw [z0] at j1 j2
  have q13' : ∀ K, (pI q 12 1 17 (cn (t + 1 : Nat))).1 13 K = q.1 13 K := by
    intro K
    funext i
    rw [pI_1, u3_k (by decide)]
  have q15' : (pI q 12 1 17 (cn (t + 1 : Nat))).1 15 = q.1 15 := by
    funext i S
    rw [pI_1, u3_k (by decide)]
  have hq1 : ∀ k j s, ¬ (k = 13 ∧ j = 5) → ¬ (k = 12 ∧ j = 1 ∧ s = 17) → q'.1 k j s = q.1 k j s := fun k j s h h' => by rw [j3 k j s h, pI_1, u3_ne h']
  have W := ww_tick0 (p' := v6_countQuotes_10 F (pI p 6 1 2 (cn (t + 1 : Nat))) (cn 0)) (q' := q') H ht h17 (fun k j s h h' => by rw [c2 k j s h, pI_1, u3_ne h']) (by rw [c3, pI_2]) (by rw [c2 6 1 2 (fun e => absurd e.1 (by decide)), pI_at]) hq1 (by rw [j4, pI_2]) (by rw [j3 12 1 17 (fun e => absurd e.1 (by decide)), pI_at]) (fun a ha => by
    rw [c4 a ha, j5 a, if_pos ⟨by omega, ha⟩, ek 0 (by decide), q13', QCf_c (q := q) (fun K _ => q13' K) q15', ic_sum H.1, (H.2.1.2 a ha).2.2.2.2.2])
  rw [eC.1]
  refine ⟨eC.2, q', j1, j2, W.1, W.2, fun i hi hs hk => ?_, by rw [j3 12 1 17 (fun e => absurd e.1 (by decide)), pI_at]⟩
  have e13 : ∀ K, ¬ K = 5 → q'.1 13 K = q.1 13 K := by
    intro K h
    funext s
    exact hq1 13 K s (fun e => h e.2) (fun e => absurd e.1 (by decide))
  have e15 : q'.1 15 = q.1 15 := by
    funext j s
    exact hq1 15 j s (fun e => absurd e.1 (by decide)) (fun e => absurd e.1 (by decide))
  unfold stnd at hs
  rw [e15, e13 24 (by decide)] at hs
  rw [e13 19 (by decide)] at hk
  rw [open_c (e13 12 (by decide)), e13 16 (by decide)]
  exact hn i hi hs hk
end Tick
