/-! pieces of a match -/
theorem allows_x {p q : PM} {x y i a b : Nat} {r s z : Int} (v : Int32) (hL : LV p q x y i a b r s z) : (v10_allows p (i + 1) v = 0) = (q.1 15 5 i = 0 ∧ ¬ v12_isBetter q v (q.1 13 18 i) (q.1 15 4 i) = 0) := by
  have h6 := hL.2.2.2.2.2.1
  have h5 := hL.2.2.2.2.1.1
  unfold v10_allows bv10_allows v12_isBetter bv12_isBetter
  rw [h6.1, h5]
  rcases h6.2 with ⟨k1, k2⟩ | ⟨k1, k2, k3⟩
  · rw [k1, k2, if_pos rfl]
    exact propext ⟨fun h => absurd h cn01, fun h => absurd h.1 cn01⟩
  · rw [k1, if_neg (pr_ne k2), k3]
    by_cases h1 : q.1 15 4 i = 0
    · simp only [if_pos h1, ite_z, cn1F, cn0T, cn0e', true_and]
      by_cases h2 : v < cn z
      · simp only [if_pos h2, not_false_eq_true]
      · simp only [if_neg h2, not_true_eq_false]
    · simp only [if_neg h1, ite_z, cn1F, cn0T, cn0e', true_and]
      by_cases h2 : cn z < v
      · simp only [if_pos h2, not_false_eq_true]
      · simp only [if_neg h2, not_true_eq_false]
theorem band_eq {p q : PM} {b : Nat} (hb : b < 6) (H : BR p q) (v : Int32) : (g1_isBeyondBand p (b + 1) v ∧ g12_isNear q (cn b) v) ∧ (v1_isBeyondBand p (b + 1) v = 0) = ¬ v12_isNear q (cn b) v = 0 := by
  obtain ⟨z, z1, z2, z3, z4⟩ := (H b hb).2.2.2.2.2.2
  obtain ⟨r, r1, r2, r3⟩ := (H b hb).2.1
  have hzb : ¬ b + 1 = 0 := by omega
  have hbi := cninb (i := b) (n := 6) hb (by omega)
  have ga := g_abs p (v - cn r)
  have gq := g_absQ q (v - cn r)
  have ea := abs_e p q (v - cn r)
  have c1 : (0 < cn z) = (0 < z) := by rw [zcn, cnlt ⟨by decide, by decide⟩ ⟨by omega, by omega⟩]
  have c2 : (cn z = 0) = (z = 0) := by rw [zcn, cneq ⟨by omega, by omega⟩ ⟨by decide, by decide⟩]
  unfold g1_isBeyondBand bg1_isBeyondBand g12_isNear bg12_isNear v1_isBeyondBand bv1_isBeyondBand v12_isNear bv12_isNear
  simp only [cntk (i := b) (by omega), z3, z4, r2, r3, ea, c1, c2]
  by_cases h : z = 0
  · simp only [if_pos h, if_neg (show ¬ 0 < z by omega)]
    exact ⟨⟨⟨hzb, trivial⟩, hbi, trivial⟩, propext ⟨fun _ => cn01, fun _ => rfl⟩⟩
  · simp only [if_neg h, if_pos (show 0 < z by omega)]
    by_cases h2 : cn z < v12_abs q (v - cn r)
    · simp only [if_pos h2]
      exact ⟨⟨⟨hzb, hzb, ga, hzb, trivial⟩, hbi, hbi, gq, hbi, trivial⟩, propext ⟨fun h => absurd h cn01, fun h => absurd rfl h⟩⟩
    · simp only [if_neg h2]
      exact ⟨⟨⟨hzb, hzb, ga, hzb, trivial⟩, hbi, hbi, gq, hbi, trivial⟩, propext ⟨fun _ => cn01, fun _ => rfl⟩⟩
/-- books alone change -/
theorem ww_bk {p p' q q' : PM} {lg : Nat → Int32} {x y N T D l l' : Nat} {w : Nat → Prop} {f : Nat → Int} (H : WW p q lg x y w N T D l f) (h1 : ∀ K, ¬ K = 1 → p'.1 K = p.1 K) (h2 : p'.2 = p.2) (k1 : ∀ K, ¬ (6 ≤ K ∧ K ≤ 13) → q'.1 13 K = q.1 13 K) (k2 : ∀ K, ¬ K = 2 → q'.1 15 K = q.1 15 K) (k3 : ∀ k, ¬ k = 13 → ¬ k = 15 → q'.1 k = q.1 k) (k4 : q'.2 = q.2) (hB : BR p' q') (hK : CK p') (hi1 : ∀ i, i < 40 → stnd q i → q.1 15 5 i = cn 1 → ∃ b : Nat, b < 6 ∧ q.1 13 16 i = cn b ∧ ¬ q'.1 13 12 b = cn (-100000)) (hi4 : ∀ b, b < 6 → ¬ q'.1 13 12 b = cn (-100000) → ∃ e t : Nat, e ≤ 1000000 ∧ q'.1 13 12 b = cn e ∧ q'.1 12 1 17 = cn t ∧ t ≤ 900000 ∧ t + (if b < l' then 1 else 0) ≤ e) : WW p' q' lg x y w N T D l' f := by
  obtain ⟨hO, hA, -, hD, -, hI0, ⟨i1, i2, i3, i4⟩, hF⟩ := H
  have e12 : q'.1 12 = q.1 12 := k3 12 (by decide) (by decide)
  refine ⟨?_, ?_, hB, ?_, hK, ?_, ?_, ?_⟩
  · exact ord_c (h1 10 (by decide)) (by rw [h2]) (by rw [h1 6 (by decide)]) (by rw [h1 6 (by decide)]) (fun K h3 h4 => k1 K (by omega)) (fun K h3 h4 => k2 K (by omega)) (by rw [e12]) (by rw [e12]) hO
  · exact af_c (h1 0 (by decide)) (fun i _ => by rw [h1 13 (by decide)]) (by rw [h2]) (k1 1 (by omega)) (k1 2 (by omega)) (k1 3 (by omega)) (k1 4 (by omega)) (k1 5 (by omega)) (k2 1 (by decide)) (by rw [k4]) hA
  · exact dr_c (h1 4 (by decide)) (h1 7 (by decide)) (by rw [h2]) (fun i h3 h4 => k1 i (by omega)) (k2 7 (by decide)) (k2 8 (by decide)) (by rw [e12]) hD
  · exact ot_c (h1 9 (by decide)) (fun i _ => by rw [h1 13 (by decide)]) (h1 2 (by decide)) (by rw [h1 6 (by decide)]) (by rw [h1 6 (by decide)]) (fun i h3 h4 => k1 i (by omega)) (k2 9 (by decide)) (k2 10 (by decide)) (fun i _ => by rw [e12]) hI0 (pd_c (k1 1 (by omega)) (by rw [e12]) (by rw [k4]) hI0)
  · have hst : ∀ i, stnd q' i → stnd q i := fun i h => ⟨by rw [← k2 3 (by decide)]; exact h.1, by rw [← k1 24 (by omega)]; exact h.2⟩
    refine ⟨fun i hi h => ?_, fun i hi hw h => ?_, fun i t hi h => ?_, hi4⟩
    · rw [k2 5 (by decide), k1 16 (by omega)]
      exact hi1 i hi (hst i h)
    · rw [k1 16 (by omega), k1 19 (by omega), k1 22 (by omega)]
      exact i2 i hi hw (hst i h)
    · rw [k1 16 (by omega), k1 19 (by omega), k1 24 (by omega), k1 28 (by omega), k1 30 (by omega)]
      rw [k2 3 (by decide)] at h
      exact i3 i t hi h
  · exact fb_c (k2 3 (by decide)) (k1 17 (by omega)) (k1 4 (by omega)) (by rw [e12]) hF
/-- an auction begins -/
theorem ww_auc {p q : PM} {lg : Nat → Int32} {x y b N T D l : Nat} {w : Nat → Prop} {f : Nat → Int} {k fz : Int} (H : WW p q lg x y w N T D l f) (hb : b < 6) (h1 : 1 ≤ k) (h2 : k ≤ 100) (h3 : 0 ≤ fz) (h4 : fz ≤ 20) {E : Int32} (hE : E = q.1 12 1 17 + cn k) : (g6_beginAuction p (b + 1) (cn k) (cn fz) ∧ g12_beginsAuction q (cn b) E (cn fz)) ∧ WW (v6_beginAuction p (b + 1) (cn k) (cn fz)).2 (v12_beginsAuction q (cn b) E (cn fz)) lg x y w N T D l f ∧ (v6_beginAuction p (b + 1) (cn k) (cn fz)).1 = E ∧ RS (v12_beginsAuction q (cn b) E (cn fz)) 40 = RS q 40 ∧ (∀ K, ¬ K = 12 → ¬ K = 13 → (v12_beginsAuction q (cn b) E (cn fz)).1 13 K = q.1 13 K) ∧ (∀ K, ¬ K = 2 → (v12_beginsAuction q (cn b) E (cn fz)).1 15 K = q.1 15 K) ∧ (v12_beginsAuction q (cn b) E (cn fz)).1 13 12 b = E ∧ (v6_beginAuction p (b + 1) (cn k) (cn fz)).2.1 10 = p.1 10 ∧ (v6_beginAuction p (b + 1) (cn k) (cn fz)).2.2 = p.2 := by
  have hzb : ¬ b + 1 = 0 := by omega
  have hbi := cninb (i := b) (n := 6) hb (by omega)
  obtain ⟨t, t1, t2, t3⟩ := H.2.2.2.2.2.1.2.2.2.2.2.1
  have eE : E = cn ((t : Int) + k) := by rw [hE, t3, cnadd]
  have hE2 : ¬ E = cn (-100000) := by
    rw [eE, cneq ⟨by omega, by omega⟩ ⟨by omega, by omega⟩]
    omega
  generalize hp' : (v6_beginAuction p (b + 1) (cn k) (cn fz)).2 = p'
  generalize hq' : v12_beginsAuction q (cn b) E (cn fz) = q'
  have hp : p' = pI (pI (pI (pI p 1 (b + 1) 5 (cn 1)) 1 (b + 1) 6 (cn 0)) 1 (b + 1) 7 E) 1 (b + 1) 8 (cn fz) := by
    rw [← hp', eE]
    unfold v6_beginAuction bv6_beginAuction
    have e : (pI (pI p 1 (b + 1) 5 (cn 1)) 1 (b + 1) 6 (cn 0)).1 6 1 2 = cn t := by
      rw [pI_1, u3_k (by decide), pI_1, u3_k (by decide)]
      exact t2
    simp only [e, cnadd]
  have hq : q' = pI (pI (pI q 13 12 b E) 13 13 b (cn fz)) 15 2 b (cn 0) := by
    rw [← hq']
    unfold v12_beginsAuction bv12_beginsAuction
    simp only [cntk (i := b) (by omega)]
  have p1 : ∀ K, ¬ K = 1 → p'.1 K = p.1 K := by
    intro K h
    funext i s
    rw [hp]
    simp only [pI_1, u3_k h]
  have p1i : ∀ i S, ¬ (i = b + 1 ∧ (S = 5 ∨ S = 6 ∨ S = 7 ∨ S = 8)) → p'.1 1 i S = p.1 1 i S := by
    intro i S h
    rw [hp]
    by_cases e : i = b + 1
    · rw [e]
      simp only [pI_1]
      rw [u3_s (fun e2 => h ⟨e, by omega⟩), u3_s (fun e2 => h ⟨e, by omega⟩), u3_s (fun e2 => h ⟨e, by omega⟩), u3_s (fun e2 => h ⟨e, by omega⟩)]
    · simp only [pI_1, u3_i e]
  have q1 : ∀ K, ¬ K = 12 → ¬ K = 13 → q'.1 13 K = q.1 13 K := by
    intro K h h'
    funext s
    rw [hq]
    simp (decide := true) only [pI_1, u3_k, not_false_eq_true, u3_i h, u3_i h']
  have q1i : ∀ K i, ¬ i = b → q'.1 13 K i = q.1 13 K i := by
    intro K i h
    rw [hq]
    simp (decide := true) only [pI_1, u3_k, not_false_eq_true, u3_s h]
  have q2 : ∀ K, ¬ K = 2 → q'.1 15 K = q.1 15 K := by
    intro K h
    funext s
    rw [hq]
    simp (decide := true) only [pI_1, u3_k, not_false_eq_true, u3_i h]
  have q2i : ∀ i, ¬ i = b → q'.1 15 2 i = q.1 15 2 i := by
    intro i h
    rw [hq]
    simp (decide := true) only [pI_1, u3_k, not_false_eq_true, u3_s h]
  have q3 : ∀ k, ¬ k = 13 → ¬ k = 15 → q'.1 k = q.1 k := by
    intro k h h'
    funext i s
    rw [hq]
    simp only [pI_1, u3_k h, u3_k h']
  have qe : q'.1 13 12 b = E ∧ q'.1 13 13 b = cn fz ∧ q'.1 15 2 b = cn 0 := by
    rw [hq]
    refine ⟨?_, ?_, ?_⟩ <;> simp (decide := true) only [pI_1, pI_J, pI_R, u3_same, u3_k, u3_i, u3_s, not_false_eq_true]
  have pe : p'.1 1 (b + 1) 5 = cn 1 ∧ p'.1 1 (b + 1) 6 = cn 0 ∧ p'.1 1 (b + 1) 7 = E ∧ p'.1 1 (b + 1) 8 = cn fz := by
    rw [hp]
    refine ⟨?_, ?_, ?_, ?_⟩ <;> simp (decide := true) only [pI_1, pI_J, pI_R, u3_same, u3_k, u3_i, u3_s, not_false_eq_true]
  refine ⟨⟨?_, ?_⟩, ?_, ?_, RS_c (q2 3 (by decide)) (q1 17 (by decide) (by decide)), q1, q2, qe.1, p1 10 (by decide), by rw [hp]; rfl⟩
  · unfold g6_beginAuction bg6_beginAuction
    exact ⟨hzb, hzb, hzb, hzb, hzb, trivial⟩
  · unfold g12_beginsAuction bg12_beginsAuction
    exact ⟨hbi, hbi, hbi, trivial⟩
  · refine ww_bk (l' := l) H p1 (by rw [hp]; rfl) (fun K h => q1 K (by omega) (by omega)) q2 q3 (by rw [hq]; rfl) ?_ ?_ ?_ ?_
    · intro c hc
      have h := H.2.2.1 c hc
      unfold BkR AucR at h ⊢
      rw [p1i _ 3 (by omega), p1i _ 4 (by omega), p1i _ 9 (by omega), p1i _ 10 (by omega), p1i _ 11 (by omega), p1i _ 12 (by omega), q1 10 (by decide) (by decide), q1 11 (by decide) (by decide), q1 6 (by decide) (by decide), q1 7 (by decide) (by decide), q1 8 (by decide) (by decide), q1 9 (by decide) (by decide)]
      refine ⟨h.1, h.2.1, ?_, h.2.2.2⟩
      by_cases e : c = b
      · rw [e, pe.1, pe.2.1, pe.2.2.1, pe.2.2.2, qe.1, qe.2.1, qe.2.2]
        exact Or.inr ⟨rfl, rfl, ⟨_, by omega, by omega, eE⟩, ⟨fz, h3, h4, rfl, rfl⟩, rfl, b0⟩
      · rw [p1i _ 5 (by omega), p1i _ 6 (by omega), p1i _ 7 (by omega), p1i _ 8 (by omega), q1i 12 c e, q1i 13 c e, q2i c e]
        exact h.2.2.1
    · have hK := H.2.2.2.2.1
      unfold CK at hK ⊢
      rw [p1 0 (by decide)]
      refine ⟨hK.1, fun c hc => ?_⟩
      rw [p1i _ 0 (by omega), p1i _ 1 (by omega), p1i _ 2 (by omega)]
      exact hK.2 c hc
    · intro i hi hs ha
      obtain ⟨c, c1, c2, c3⟩ := H.2.2.2.2.2.2.1.1 i hi hs ha
      refine ⟨c, c1, c2, ?_⟩
      by_cases e : c = b
      · rw [e, qe.1]
        exact hE2
      · rw [q1i 12 c e]
        exact c3
    · intro c hc h
      rw [q3 12 (by decide) (by decide)]
      by_cases e : c = b
      · rw [e, qe.1]
        refine ⟨t + k.toNat, t, by omega, ?_, t3, t1, by split <;> omega⟩
        rw [eE]
        exact congrArg cn (by omega)
      · rw [q1i 12 c e] at h ⊢
        exact H.2.2.2.2.2.2.1.2.2.2 c hc h
  · unfold v6_beginAuction bv6_beginAuction
    have e : (pI (pI p 1 (b + 1) 5 (cn 1)) 1 (b + 1) 6 (cn 0)).1 6 1 2 = cn t := by
      rw [pI_1, u3_k (by decide), pI_1, u3_k (by decide)]
      exact t2
    simp only [e, cnadd]
    rw [pI_1, u3_s (by decide), pI_at, eE]
/-- one that is gone is not matched any more -/
theorem ww_x {p q : PM} {lg : Nat → Int32} {x y N T D l : Nat} {w : Nat → Prop} {f : Nat → Int} (H : WW p q lg x y w N T D l f) (hx : x < 40) (h : q.1 15 3 x = cn 0) : WW p q lg 99 y w N T D l f := by
  obtain ⟨⟨hO, hr⟩, hA⟩ := H
  refine ⟨⟨⟨fun i hi => ?_, hO.2⟩, hr⟩, hA⟩
  by_cases e : i = x
  · rw [e]
    exact Or.inl ⟨slot_dead (hO.1 x hx) h, h⟩
  · exact slot_congr (x := x) (fun _ => rfl) (fun _ => rfl) (fun _ _ _ _ => rfl) (fun _ _ _ => rfl) (propext ⟨fun h2 => by omega, fun h2 => absurd h2 e⟩) (hO.1 i hi)
theorem live_01 {p q : PM} {x y i : Nat} (H : OR p q x y) (hi : i < 40) : q.1 15 3 i = cn 0 ∨ q.1 15 3 i = cn 1 := or_b H i (by omega)
/-- the end of a match -/
theorem settle_eq {p q : PM} {lg : Nat → Int32} {x N T D l n : Nat} (H : WW p q lg x 99 (fun _ => False) N T D l (fun _ => 0)) (hx : x < 40) (h24 : q.1 15 3 x = cn 1 → q.1 13 24 x = cn 0) (hT : T + 1 ≤ 1000000000) : (g8_settle p (x + 1) ∧ g12_matches_9 (n + 1) q (cn x) (cn 0)) ∧ ∃ T2, T ≤ T2 ∧ WW (v8_settle p (x + 1)) (v12_matches_9 (n + 1) q (cn x) (cn 0)) lg 99 99 (fun _ => False) N T2 D l (fun _ => 0) ∧ T2 + RS (v12_matches_9 (n + 1) q (cn x) (cn 0)) 40 ≤ T + RS q 40 + 1 ∧ RS (v12_matches_9 (n + 1) q (cn x) (cn 0)) 40 ≤ RS q 40 := by
  have hzx : ¬ x + 1 = 0 := by omega
  have hix := cninb (i := x) (n := 44) (by omega) (by omega)
  have go : (p.1 10 (x + 1) 2 = 0) = (q.1 15 3 x = 0) := slot_gone (H.1.1.1 x hx)
  have gst := g_stand p x
  have gco := fun q => g_comes q (o := x) (by omega)
  have kill : q.1 15 3 x = cn 1 → WW (pI p 10 (x + 1) 2 (cn 0)) (pI q 15 3 x (cn 0)) lg 99 99 (fun _ => False) N T D l (fun _ => 0) ∧ RS (pI q 15 3 x (cn 0)) 40 ≤ RS q 40 := by
    intro hl
    have W := ww_x (w_mk (mk_one (p := p) (q := q) hx) H) hx pI_at
    refine ⟨W, RS_le 40 fun i hi => ?_⟩
    have h0 := (rs_rng (H.1.1.1 i hi)).1
    unfold rs at h0 ⊢
    by_cases e : i = x
    · rw [e, pI_at, if_pos cn0e']
      rw [e] at h0
      exact h0
    · rw [pI_1, u3_s e, u3_k (by decide)]
      exact Int.le_refl _
  simp only [g8_settle, bg8_settle, v8_settle, bv8_settle, eg12_matches_9, ev12_matches_9, bg12_matches_9, bv12_matches_9, if_pos cn0e', cntk (i := x) (by omega), go]
  rcases live_01 H.1.1 hx with hl | hl
  · have hl0 : q.1 15 3 x = 0 := hl
    simp only [if_pos hl0]
    refine ⟨⟨⟨hzx, trivial⟩, hix, hix, trivial⟩, T, Nat.le_refl _, ww_x H hx hl, by omega, Int.le_refl _⟩
  · have hl0 : ¬ q.1 15 3 x = 0 := by
      rw [hl]
      exact cn01
    obtain ⟨_, a, b, r, s, z, hL⟩ := slot_live (H.1.1.1 x hx) hl0
    obtain ⟨K1, K2⟩ := kill hl
    have e8 := hL.2.2.2.2.2.2.1
    have e9 : (pI q 15 3 x (cn 0)).1 15 3 x = 0 := pI_at
    simp only [if_neg hl0, hL.2.2.2.2.2.1.1, e8]
    rcases hL.2.2.2.2.2.1.2 with ⟨a1, a2⟩ | ⟨a1, a2, a3⟩
    · have ha0 : ¬ q.1 15 5 x = 0 := by
        rw [a1]
        exact cn01
      simp only [a2, if_true, if_neg ha0, if_pos e9]
      exact ⟨⟨⟨hzx, hzx, hzx, trivial⟩, hix, hix, hix, hix, trivial⟩, T, Nat.le_refl _, K1, by omega, K2⟩
    · have ha0 : q.1 15 5 x = 0 := a1
      simp only [if_neg (pr_ne a2), if_pos ha0]
      by_cases h8 : q.1 13 20 x = cn (-100000)
      · simp only [if_pos h8, if_pos e9]
        exact ⟨⟨⟨hzx, hzx, hzx, hzx, trivial⟩, hix, hix, hix, hix, hix, trivial⟩, T, Nat.le_refl _, K1, by omega, K2⟩
      · obtain ⟨W, RW⟩ := ww_stand H hx hl (fun b hb _ => by omega) (fun h => absurd (h.symm.trans a1) cn01) (fun _ => h24 hl) hT
        simp only [if_neg h8]
        exact ⟨⟨⟨hzx, hzx, hzx, gst, trivial⟩, hix, hix, hix, hix, gco _, trivial⟩, T + 1, Nat.le_succ _, W, by omega, by omega⟩
/-- a best price is that of some order -/
theorem best_in {q : PM} {b : Nat} {t : Int32} (hd : ∀ i, 40 ≤ i → i < 44 → q.1 15 3 i = cn 0) : ∀ (d i n : Nat) (acc : Int32), i + d = 44 → d < n → (acc = cn (-100000) ∨ ∃ s, s < 40 ∧ QA q b t acc s) → (v12_bestOf_7 q n (cn b) t (cn 1) acc (cn i) = cn (-100000) ∨ ∃ s, s < 40 ∧ QA q b t (v12_bestOf_7 q n (cn b) t (cn 1) acc (cn i)) s) := by
  intro d
  induction d with
  | zero =>
    intro i n acc h1 h2 hI
    obtain ⟨m, rfl⟩ : ∃ m, n = m + 1 := ⟨n - 1, by omega⟩
    have e : i = 44 := by omega
    subst e
    simp only [ev12_bestOf_7, bv12_bestOf_7, if_neg (show ¬ cn ((44 : Nat) : Int) < cn 44 by decide)]
    exact hI
  | succ d ih =>
    intro i n acc h1 h2 hI
    obtain ⟨m, rfl⟩ : ∃ m, n = m + 1 := ⟨n - 1, by omega⟩
    have k := fun acc hI => ih (i + 1) m acc (by omega) (by omega) hI
    simp only [ev12_bestOf_7, bv12_bestOf_7, if_pos (lpt (i := i) (N := 44) (by omega) (by omega)), cntk (i := i) (by omega), cnsucc, if_neg cn01]
    by_cases h0 : v12_isThere q (cn i) (cn b) t = 0
    · rw [if_pos h0]
      exact k acc hI
    · rw [if_neg h0]
      have hi40 : i < 40 := by
        by_cases h : i < 40
        · exact h
        · exact absurd (there_dead (by omega) (hd i (by omega) (by omega))) h0
      by_cases ha : q.1 15 5 i = 0
      · rw [if_pos ha]
        have hnew : ∃ s, s < 40 ∧ QA q b t (q.1 13 25 i) s := ⟨i, hi40, at_of (by omega) h0 ha rfl⟩
        repeat' split
        all_goals first
          | exact k _ (Or.inr hnew)
          | exact k _ hI
      · rw [if_neg ha]
        exact k acc hI
theorem best_some {q : PM} {b : Nat} {t : Int32} (hd : ∀ i, 40 ≤ i → i < 44 → q.1 15 3 i = cn 0) (h : ¬ v12_bestOf q (cn b) t (cn 1) = cn (-100000)) : ∃ s, s < 40 ∧ QA q b t (v12_bestOf q (cn b) t (cn 1)) s := by
  have k := best_in (q := q) (b := b) (t := t) hd 44 0 FU (cn (-100000)) rfl (by decide) (Or.inl rfl)
  exact k.resolve_left h
section Serve
variable {q : PM} {b x : Nat} {t v : Int32}
/-- the reference clears what they get, and writes down sizes and turns -/
theorem cg_loop : ∀ (d i n : Nat) (q' : PM), i + d = 44 → d < n → GF q q' → (∀ s, s < i → q'.1 13 29 s = cn 0) → g12_clearsGets_2 n q' (cn i) ∧ GF q (v12_clearsGets_2 n q' (cn i)) ∧ ∀ s, s < 44 → (v12_clearsGets_2 n q' (cn i)).1 13 29 s = cn 0 := by
  intro d
  induction d with
  | zero =>
    intro i n q' h1 h2 hq h0
    obtain ⟨m, rfl⟩ : ∃ m, n = m + 1 := ⟨n - 1, by omega⟩
    have e : i = 44 := by omega
    subst e
    simp only [eg12_clearsGets_2, ev12_clearsGets_2, bg12_clearsGets_2, bv12_clearsGets_2, if_neg (show ¬ cn ((44 : Nat) : Int) < cn 44 by decide)]
    exact ⟨trivial, hq, h0⟩
  | succ d ih =>
    intro i n q' h1 h2 hq h0
    obtain ⟨m, rfl⟩ : ∃ m, n = m + 1 := ⟨n - 1, by omega⟩
    have hi := cninb (i := i) (n := 44) (by omega) (by omega)
    have k := ih (i + 1) m (pI q' 13 29 i (cn 0)) (by omega) (by omega) (gf_w hq) (fun s hs => by
      by_cases e : s = i
      · rw [e]
        exact pI_at
      · rw [pI_1, u3_s e]
        exact h0 s (by omega))
    simp only [eg12_clearsGets_2, ev12_clearsGets_2, bg12_clearsGets_2, bv12_clearsGets_2, if_pos (lpt (i := i) (N := 44) (by omega) (by omega)), cntk (i := i) (by omega), cnsucc]
    exact ⟨⟨hi, k.1⟩, k.2⟩
noncomputable def svE (q : PM) (x : Int32) (v b t : Int32) : PM := if q.1 13 6 b.toNatClampNeg = 0 then v12_servesAll_147 FU (v12_sharesByTurns q b t v (q.1 13 17 x.toNatClampNeg)) x v b t (v12_served (v12_sharesByTurns q b t v (q.1 13 17 x.toNatClampNeg)) b t v) else if q.1 13 6 b.toNatClampNeg = cn 2 then v12_servesAll_147 FU (v12_sharesBySize q b t v (q.1 13 17 x.toNatClampNeg)) x v b t (v12_served (v12_sharesBySize q b t v (q.1 13 17 x.toNatClampNeg)) b t v) else v12_servesAll_147 FU (v12_sharesOut q b t v (q.1 13 17 x.toNatClampNeg)) x v b t (v12_served (v12_sharesOut q b t v (q.1 13 17 x.toNatClampNeg)) b t v)
noncomputable def svG (q : PM) (x : Int32) (v b t : Int32) : Prop := if q.1 13 6 b.toNatClampNeg = 0 then (g12_sharesByTurns q b t v (q.1 13 17 x.toNatClampNeg) ∧ g12_served (v12_sharesByTurns q b t v (q.1 13 17 x.toNatClampNeg)) b t v ∧ g12_servesAll_147 FU (v12_sharesByTurns q b t v (q.1 13 17 x.toNatClampNeg)) x v b t (v12_served (v12_sharesByTurns q b t v (q.1 13 17 x.toNatClampNeg)) b t v)) else if q.1 13 6 b.toNatClampNeg = cn 2 then (g12_sharesBySize q b t v (q.1 13 17 x.toNatClampNeg) ∧ g12_served (v12_sharesBySize q b t v (q.1 13 17 x.toNatClampNeg)) b t v ∧ g12_servesAll_147 FU (v12_sharesBySize q b t v (q.1 13 17 x.toNatClampNeg)) x v b t (v12_served (v12_sharesBySize q b t v (q.1 13 17 x.toNatClampNeg)) b t v)) else (g12_sharesOut q b t v (q.1 13 17 x.toNatClampNeg) ∧ g12_served (v12_sharesOut q b t v (q.1 13 17 x.toNatClampNeg)) b t v ∧ g12_servesAll_147 FU (v12_sharesOut q b t v (q.1 13 17 x.toNatClampNeg)) x v b t (v12_served (v12_sharesOut q b t v (q.1 13 17 x.toNatClampNeg)) b t v))
theorem sv30 (hb : b < 6) (hx : x < 44) : ∀ (d i n : Nat) (q' : PM), i + d = 44 → d < n → GF q q' → (∀ s, s < 44 → q'.1 13 29 s = cn 0) → (∀ s, s < i → q'.1 13 41 s = v12_showsNow q (cn s) ∧ q'.1 13 42 s = q.1 13 23 s) → ∃ q2 : PM, GF q q2 ∧ (∀ s, s < 44 → q2.1 13 29 s = cn 0) ∧ (∀ s, s < 44 → q2.1 13 41 s = v12_showsNow q (cn s) ∧ q2.1 13 42 s = q.1 13 23 s) ∧ v12_servesAll_30 n q' (cn x) v (cn b) t (cn i) = svE q2 (cn x) v (cn b) t ∧ (svG q2 (cn x) v (cn b) t → g12_servesAll_30 n q' (cn x) v (cn b) t (cn i)) := by
  intro d
  induction d with
  | zero =>
    intro i n q' h1 h2 hq h0 hw
    obtain ⟨m, rfl⟩ : ∃ m, n = m + 1 := ⟨n - 1, by omega⟩
    have e : i = 44 := by omega
    subst e
    have hbi := cninb (i := b) (n := 6) hb (by omega)
    have hix := cninb (i := x) (n := 44) hx (by omega)
    refine ⟨q', hq, h0, hw, ?_⟩
    simp only [eg12_servesAll_30, ev12_servesAll_30, bg12_servesAll_30, bv12_servesAll_30, if_neg (show ¬ cn ((44 : Nat) : Int) < cn 44 by decide)]
    refine ⟨rfl, fun h => ?_⟩
    unfold svG at h
    refine ⟨hbi, ?_⟩
    split at h
    · rename_i h9
      rw [if_pos h9]
      exact ⟨hix, h⟩
    · rename_i h9
      rw [if_neg h9]
      refine ⟨hbi, ?_⟩
      split at h
      · rename_i h8
        rw [if_pos h8]
        exact ⟨hix, h⟩
      · rename_i h8
        rw [if_neg h8]
        exact ⟨hix, h⟩
  | succ d ih =>
    intro i n q' h1 h2 hq h0 hw
    obtain ⟨m, rfl⟩ : ∃ m, n = m + 1 := ⟨n - 1, by omega⟩
    have hi := cninb (i := i) (n := 44) (by omega) (by omega)
    have gs := g_showsNow (q := q') (i := i) (by omega)
    have es := gf_shows hq (i := i) (by omega)
    have et : (pI q' 13 41 i (v12_showsNow q (cn i))).1 13 23 i = q.1 13 23 i := by
      rw [pI_1, u3_i (by decide), hq.2.1 23 (by decide)]
    obtain ⟨q2, k1, k2, k3, k4, k5⟩ := ih (i + 1) m (pI (pI q' 13 41 i (v12_showsNow q (cn i))) 13 42 i (q.1 13 23 i)) (by omega) (by omega) (gf_wK (by decide) (gf_wK (by decide) hq)) (fun s hs => by
      rw [pI_1, u3_i (by decide), pI_1, u3_i (by decide)]
      exact h0 s hs) (fun s hs => by
      by_cases e : s = i
      · rw [e]
        refine ⟨?_, pI_at⟩
        rw [pI_1, u3_i (by decide)]
        exact pI_at
      · rw [pI_1, u3_i (by decide), pI_1, u3_s e, u3_s e, u3_i (by decide)]
        exact hw s (by omega))
    refine ⟨q2, k1, k2, k3, ?_⟩
    simp only [eg12_servesAll_30, ev12_servesAll_30, bg12_servesAll_30, bv12_servesAll_30, if_pos (lpt (i := i) (N := 44) (by omega) (by omega)), cntk (i := i) (by omega), es, et, cnsucc]
    exact ⟨k4, fun h => ⟨gs, hi, hi, hi, k5 h⟩⟩
theorem serve_e (hb : b < 6) (hx : x < 44) (hbk : q.1 13 16 x = cn b) (ht : (q.1 15 4 x = 0 ∧ t = cn 1) ∨ (¬ q.1 15 4 x = 0 ∧ t = cn 0)) : ∃ q2 : PM, GF q q2 ∧ (∀ s, s < 44 → q2.1 13 29 s = cn 0) ∧ (∀ s, s < 44 → q2.1 13 41 s = v12_showsNow q (cn s) ∧ q2.1 13 42 s = q.1 13 23 s) ∧ v12_servesAll q (cn x) v = svE q2 (cn x) v (cn b) t ∧ (svG q2 (cn x) v (cn b) t → g12_servesAll q (cn x) v) := by
  have hix := cninb (i := x) (n := 44) hx (by omega)
  obtain ⟨c1, c2, c3⟩ := cg_loop (q := q) 44 0 FU q rfl (by decide) (gf_rf q) (fun s hs => absurd hs (by omega))
  obtain ⟨q2, k1, k2, k3, k4, k5⟩ := sv30 (q := q) (v := v) (t := t) hb hx 44 0 FU (v12_clearsGets_2 FU q (cn (0 : Nat))) rfl (by decide) c2 c3 (fun s hs => absurd hs (by omega))
  refine ⟨q2, k1, k2, k3, ?_⟩
  have ec : v12_clearsGets q = v12_clearsGets_2 FU q (cn (0 : Nat)) := rfl
  have gc : g12_clearsGets q = g12_clearsGets_2 FU q (cn (0 : Nat)) := rfl
  unfold v12_servesAll bv12_servesAll g12_servesAll bg12_servesAll
  simp only [cntk (i := x) (by omega), hbk, ec, gc]
  rcases ht with ⟨h, rfl⟩ | ⟨h, rfl⟩
  · simp only [if_pos h]
    exact ⟨k4, fun h9 => ⟨hix, hix, c1, k5 h9⟩⟩
  · simp only [if_neg h]
    exact ⟨k4, fun h9 => ⟨hix, hix, c1, k5 h9⟩⟩
end Serve
