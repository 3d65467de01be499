/-! an order changes where it stands, what it shows, or its turn -/
theorem lv_st {p p' q q' : PM} {x x' y o a b : Nat} {r s z : Int} (hL : LV p q x y o a b r s z) (hp : ∀ S, ¬ (S = 2 ∨ S = 7 ∨ S = 11 ∨ S = 12 ∨ S = 15) → p'.1 10 (o + 1) S = p.1 10 (o + 1) S) (hR : p'.2.2 = p.2.2) (hq : ∀ K, ¬ (K = 22 ∨ K = 23 ∨ K = 24 ∨ K = 25 ∨ K = 28) → q'.1 13 K o = q.1 13 K o) (hq15 : q'.1 15 = q.1 15) (hs : StatR p' q' x' y o b r s z) : LV p' q' x' y o a b r s z := by
  have e14 := hq 14 (by decide)
  have e15 := hq 15 (by decide)
  have e16 := hq 16 (by decide)
  have e17 := hq 17 (by decide)
  have e18 := hq 18 (by decide)
  have e19 := hq 19 (by decide)
  have e20 := hq 20 (by decide)
  have e21 := hq 21 (by decide)
  have e26 := hq 26 (by decide)
  have e27 := hq 27 (by decide)
  have c0 := hp 0 (by decide)
  have c1 := hp 1 (by decide)
  have c5 := hp 5 (by decide)
  have c6 := hp 6 (by decide)
  have c8 := hp 8 (by decide)
  have c9 := hp 9 (by decide)
  have c10 := hp 10 (by decide)
  have c13 := hp 13 (by decide)
  have c14 := hp 14 (by decide)
  have c16 := hp 16 (by decide)
  unfold LV at hL ⊢
  obtain ⟨h1, h2, h3, h4, h5, h6, h7, h8, h9, h10, h11, h12, h13⟩ := hL
  rw [e14, e15, e16, e17, e18, e19, e20, e21, e26, e27, c0, c1, c5, c6, c8, c9, c10, c13, c14, c16, hR, hq15]
  exact ⟨h1, h2, h3, h4, h5, h6, h7, h8, h9, h10, h11, h12, hs⟩
theorem ww_st {p p' q q' : PM} {lg : Nat → Int32} {x x' y o a b N T T' D l : Nat} {w w' : Nat → Prop} {f : Nat → Int} {r s z : Int} (H : WW p q lg x y w N T D l f) (ho : o < 40) (hl : q.1 15 3 o = cn 1) (hL : LV p q x y o a b r s z)
    (p1 : ∀ i S, ¬ (i = o + 1 ∧ (S = 2 ∨ S = 7 ∨ S = 11 ∨ S = 12 ∨ S = 15)) → p'.1 10 i S = p.1 10 i S) (p2 : ∀ K, ¬ K = 10 → ¬ K = 6 → p'.1 K = p.1 K) (p3 : ∀ S, ¬ S = 5 → p'.1 6 1 S = p.1 6 1 S) (p4 : p'.2 = p.2)
    (q1 : ∀ K i, ¬ (i = o ∧ (K = 22 ∨ K = 23 ∨ K = 24 ∨ K = 25 ∨ K = 28)) → q'.1 13 K i = q.1 13 K i) (q2 : q'.1 15 = q.1 15) (q3 : ∀ S, ¬ S = 40 → q'.1 12 1 S = q.1 12 1 S) (q4 : q'.2 = q.2)
    (hx : ∀ i, i < 40 → ¬ i = o → (i = x') = (i = x)) (hs : StatR p' q' x' y o b r s z)
    (hT : (T' = T ∧ p'.1 6 1 5 = cn T ∧ q'.1 12 1 40 = cn T ∧ (stnd q' o → stnd q o ∧ p'.1 10 (o + 1) 12 = p.1 10 (o + 1) 12 ∧ q'.1 13 23 o = q.1 13 23 o)) ∨ (T' = T + 1 ∧ T + 1 ≤ 1000000000 ∧ p'.1 6 1 5 = cn (T + 1 : Nat) ∧ q'.1 12 1 40 = cn (T + 1 : Nat) ∧ p'.1 10 (o + 1) 12 = cn (T + 1 : Nat) ∧ q'.1 13 23 o = cn T))
    (hi1 : stnd q' o → q.1 15 5 o = cn 1 → ¬ q.1 13 12 b = cn (-100000))
    (hi2 : stnd q' o → ¬ w' o → ¬ b = y → q.1 13 19 o = cn 1 → ∃ h : Int, 1 ≤ h ∧ h ≤ 50 ∧ q'.1 13 22 o = cn h)
    (hw : ∀ i, ¬ i = o → ¬ w' i → ¬ w i)
    (hi3 : q.1 13 19 o = cn 3 → ¬ q'.1 13 24 o = cn 2 → ∀ t : Nat, q'.1 13 28 o = cn t → t ≤ 1000000000 → t < D ∧ (D ≤ t + 60 → q.1 13 30 (t % 60) = cn b)) : WW p' q' lg x' y w' N T' D l f ∧ RS q' 40 = RS q 40 := by
  obtain ⟨hO, hA, hB, hD, hK, hI0, hI, hF⟩ := H
  have hbk := hL.2.1
  have qK : ∀ K, ¬ (K = 22 ∨ K = 23 ∨ K = 24 ∨ K = 25 ∨ K = 28) → q'.1 13 K = q.1 13 K := fun K h => by
    funext i
    exact q1 K i fun h2 => h h2.2
  have qi : ∀ K i, ¬ i = o → q'.1 13 K i = q.1 13 K i := fun K i h => q1 K i fun h2 => h h2.1
  have hfr : FrO o p p' q q' := ⟨fun i S h => p1 _ S (by omega), fun i S h => by rw [p4], fun K i _ _ h => qi K i h, fun K i _ _ h => by rw [q2]⟩
  have hkp : Kp o q q' := fun h => ⟨hl, by rw [qK 14 (by decide)], by rw [qK 19 (by decide)], by rw [qK 15 (by decide)], by rw [qK 16 (by decide)], by rw [q2]⟩
  have hkpa := kp_all hfr hkp
  have hslot : SlotR p' q' x' y o := Or.inr ⟨by rw [q2]; exact hl, a, b, r, s, z, lv_st hL (fun S h => p1 _ S fun h2 => h h2.2) (by rw [p4]) (fun K h => by rw [qK K h]) q2 hs⟩
  have hsto : ∀ i, ¬ i = o → stnd q' i → stnd q i := fun i h h2 => ⟨by rw [← q2]; exact h2.1, by rw [← qi 24 i h]; exact h2.2⟩
  have hRS : RS q' 40 = RS q 40 := RS_same 40 fun i _ => by unfold rs; rw [q2, qK 17 (by decide)]
  have c39 : q'.1 12 1 39 = q.1 12 1 39 := q3 39 (by decide)
  have c4 : p'.1 6 1 4 = p.1 6 1 4 := p3 4 (by decide)
  refine ⟨⟨?_, ?_, ?_, ?_, ?_, ?_, ?_, ?_⟩, hRS⟩
  · rcases hT with ⟨rfl, t1, t2, t3⟩ | ⟨rfl, t0, t1, t2, t3, t4⟩
    · exact ord_upd hO hfr ho hkp hx ⟨c4, c39, by rw [t1]; exact hO.2.2.1.2.2.1.symm, by rw [t2]; exact hO.2.2.1.2.2.2.1.symm⟩ t3 hslot
    · exact ord_new hO t0 hfr ho hkp hx ⟨c4, c39, t1, t2⟩ t3 t4 hslot
  · exact af_c (p2 0 (by decide) (by decide)) (fun i _ => by rw [p2 13 (by decide) (by decide)]) (by rw [p4]) (qK 1 (by decide)) (qK 2 (by decide)) (qK 3 (by decide)) (qK 4 (by decide)) (qK 5 (by decide)) (by rw [q2]) (by rw [q4]) hA
  · exact brl_c (p2 1 (by decide) (by decide)) (fun i k1 k2 => qK i (by omega)) (by rw [q2]) hB
  · exact dr_c (p2 4 (by decide) (by decide)) (p2 7 (by decide) (by decide)) (by rw [p4]) (fun i k1 k2 => qK i (by omega)) (by rw [q2]) (by rw [q2]) (q3 48 (by decide)) hD
  · exact ck_c (p2 0 (by decide) (by decide)) (p2 1 (by decide) (by decide)) hK
  · exact ot_c (p2 9 (by decide) (by decide)) (fun i _ => by rw [p2 13 (by decide) (by decide)]) (p2 2 (by decide) (by decide)) (p3 2 (by decide)) (p3 3 (by decide)) (fun i k1 k2 => qK i (by omega)) (by rw [q2]) (by rw [q2]) (fun i h => q3 i (by omega)) hI0 (pd_c (qK 1 (by decide)) (q3 48 (by decide)) (by rw [q4]) hI0)
  · obtain ⟨i1, i2, i3, i4⟩ := hI
    refine ⟨fun i hi h => ?_, fun i hi hww h => ?_, fun i u hi h => ?_, fun c hc => ?_⟩
    · rw [q2, qK 16 (by decide), qK 12 (by decide)]
      by_cases e : i = o
      · rw [e] at h ⊢
        intro h2
        exact ⟨b, hbk.1, hbk.2.1, hi1 h h2⟩
      · exact i1 i hi (hsto i e h)
    · rw [qK 16 (by decide), qK 19 (by decide)]
      by_cases e : i = o
      · rw [e] at h hww ⊢
        intro h2 h3
        rw [hbk.2.1] at h2
        exact hi2 h hww (fun e2 => h2 (by rw [e2])) h3
      · rw [qi 22 i e]
        exact i2 i hi (hw i e hww) (hsto i e h)
    · rw [qK 16 (by decide), qK 19 (by decide), qK 30 (by decide)]
      rw [q2] at h
      by_cases e : i = o
      · rw [e, hbk.2.1]
        intro h2 h3 h4 h5
        exact hi3 h2 h3 u h4 h5
      · rw [qi 24 i e, qi 28 i e]
        exact i3 i u hi h
    · rw [qK 12 (by decide), q3 17 (by decide)]
      exact i4 c hc
  · refine ⟨fun c hc => ?_, ?_⟩
    · obtain ⟨zz, z1, z2, z3⟩ := hF.1 c hc
      exact ⟨zz, by rw [qK 4 (by decide)]; exact z1, z2, by omega⟩
    · obtain ⟨zb, L, b1, b2, b3, b4, b5⟩ := hF.2
      exact ⟨zb, L, by rw [qK 4 (by decide)]; exact b1, by rw [q3 95 (by decide)]; exact b2, b3, by omega, b5⟩
/-- an iceberg that shows nothing shows anew, behind all others -/
noncomputable def sQ (q : PM) (o : Nat) : PM := if q.1 15 3 o = 0 then q else if q.1 13 19 o = cn 1 then (if q.1 13 22 o = 0 then v12_newTurn (v12_showsAnew q (cn o)) (cn o) else q) else q
theorem newT_e (q : PM) {o T : Nat} (ho : o ≤ 2147483647) (h : q.1 12 1 40 = cn T) : v12_newTurn q (cn o) = pI (pI q 13 23 o (cn T)) 12 1 40 (cn (T + 1 : Nat)) := by
  unfold v12_newTurn bv12_newTurn
  simp only [cntk (i := o) ho, h]
  have e : (pI q 13 23 o (cn T)).1 12 1 40 = cn T := by rw [pI_1, u3_k (by decide)]; exact h
  rw [e, cnsucc]
theorem shAn_e (q : PM) {o : Nat} {r s : Int} (ho : o ≤ 2147483647) (h1 : q.1 13 17 o = cn r) (h2 : q.1 13 21 o = cn s) (k1 : rg r) (k2 : rg s) : v12_showsAnew q (cn o) = pI q 13 22 o (cn (if s < r then s else r)) := by
  unfold v12_showsAnew bv12_showsAnew
  simp only [cntk (i := o) ho, h1, h2, cnlt k2 k1]
  by_cases h : s < r
  · simp only [if_pos h]
  · simp only [if_neg h]
theorem showable_e (p : PM) {o : Nat} {r s : Int} (h1 : p.1 10 (o + 1) 9 = cn r) (h2 : p.1 10 (o + 1) 10 = cn s) (k1 : rg r) (k2 : rg s) : v10_showable p (o + 1) = cn (if s < r then s else r) := by
  unfold v10_showable bv10_showable v14_min_7cf53 bv14_min_7cf53
  rw [h1, h2]
  simp only [cnlt k1 k2]
  by_cases h : s < r
  · rw [if_neg (by omega), if_pos h]
  · rw [if_neg h]
    by_cases h3 : r < s
    · rw [if_pos h3]
    · rw [if_neg h3, show s = r by omega]
