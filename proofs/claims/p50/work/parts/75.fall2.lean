/-! a rest falls, on both sides -/
def fu (f : Nat → Int) (a : Nat) (d : Int) : Nat → Int := fun c => if c = a then f c + d else f c
section FCR
variable {p : PM} {o : Nat} {u v : Int32}
theorem fC_9 : (fC p o u v).1 10 (o + 1) 9 = u := by
  unfold fC
  rw [pI_1, u3_s (by decide), pI_1, u3_s (by decide), pI_1, u3_same]
theorem fC_11 : (fC p o u v).1 10 (o + 1) 11 = v := by
  unfold fC
  rw [pI_1, u3_s (by decide), pI_1, u3_same]
theorem fC_16 : (fC p o u v).1 10 (o + 1) 16 = cn 1 := by
  unfold fC
  rw [pI_1, u3_same]
theorem fC_s {S : Nat} (h1 : ¬ S = 9) (h2 : ¬ S = 11) (h3 : ¬ S = 16) : (fC p o u v).1 10 (o + 1) S = p.1 10 (o + 1) S := by
  unfold fC
  rw [pI_1, u3_s h3, pI_1, u3_s h2, pI_1, u3_s h1]
theorem fC_i {i S : Nat} (h : ¬ i = o) : (fC p o u v).1 10 (i + 1) S = p.1 10 (i + 1) S := by
  unfold fC
  rw [pI_1, u3_i (by omega), pI_1, u3_i (by omega), pI_1, u3_i (by omega)]
theorem fC_k {K : Nat} (h : ¬ K = 10) : (fC p o u v).1 K = p.1 K := by
  funext i S
  unfold fC
  rw [pI_1, u3_k h, pI_1, u3_k h, pI_1, u3_k h]
theorem fC_2 : (fC p o u v).2 = p.2 := rfl
end FCR
section FQR
variable {q : PM} {o a : Nat} {u v t : Int32}
theorem fQ_17 : (fQ q o a u v t).1 13 17 o = u := by
  unfold fQ
  rw [pI_1, u3_i (by decide), pI_1, u3_i (by decide), pI_1, u3_k (by decide), pI_1, u3_i (by decide), pI_1, u3_same]
theorem fQ_22 : (fQ q o a u v t).1 13 22 o = v := by
  unfold fQ
  rw [pI_1, u3_i (by decide), pI_1, u3_i (by decide), pI_1, u3_k (by decide), pI_1, u3_same]
theorem fQ_6 : (fQ q o a u v t).1 15 6 o = cn 1 := by
  unfold fQ
  rw [pI_1, u3_k (by decide), pI_1, u3_k (by decide), pI_1, u3_same]
theorem fQ_4 (ha : ¬ a = 8) : (fQ q o a u v t).1 13 4 a = t := by
  unfold fQ
  rw [pI_1, u3_s ha, pI_1, u3_same]
theorem fQ_48 : (fQ q o a u v t).1 13 4 8 = bV q o u := by
  unfold fQ
  rw [pI_1, u3_same]
theorem fQ_4a {c : Nat} (h : ¬ c = a) (h8 : ¬ c = 8) : (fQ q o a u v t).1 13 4 c = q.1 13 4 c := by
  unfold fQ
  rw [pI_1, u3_s h8, pI_1, u3_s h, pI_1, u3_k (by decide), pI_1, u3_i (by decide), pI_1, u3_i (by decide)]
theorem fQ_K {K : Nat} (h1 : ¬ K = 17) (h2 : ¬ K = 22) (h3 : ¬ K = 4) : (fQ q o a u v t).1 13 K = q.1 13 K := by
  funext S
  unfold fQ
  rw [pI_1, u3_i h3, pI_1, u3_i h3, pI_1, u3_k (by decide), pI_1, u3_i h2, pI_1, u3_i h1]
theorem fQ_i {K i : Nat} (h : ¬ i = o) (h3 : ¬ K = 4) : (fQ q o a u v t).1 13 K i = q.1 13 K i := by
  unfold fQ
  rw [pI_1, u3_i h3, pI_1, u3_i h3, pI_1, u3_k (by decide), pI_1, u3_s h, pI_1, u3_s h]
theorem fQ_15 {K : Nat} (h : ¬ K = 6) : (fQ q o a u v t).1 15 K = q.1 15 K := by
  funext S
  unfold fQ
  rw [pI_1, u3_k (by decide), pI_1, u3_k (by decide), pI_1, u3_i h, pI_1, u3_k (by decide), pI_1, u3_k (by decide)]
theorem fQ_15i {i : Nat} (h : ¬ i = o) : (fQ q o a u v t).1 15 6 i = q.1 15 6 i := by
  unfold fQ
  rw [pI_1, u3_k (by decide), pI_1, u3_k (by decide), pI_1, u3_s h, pI_1, u3_k (by decide), pI_1, u3_k (by decide)]
theorem fQ_12 : (fQ q o a u v t).1 12 = q.1 12 := by
  funext i S
  unfold fQ
  rw [pI_1, u3_k (by decide), pI_1, u3_k (by decide), pI_1, u3_k (by decide), pI_1, u3_k (by decide), pI_1, u3_k (by decide)]
theorem fQ_2 : (fQ q o a u v t).2 = q.2 := rfl
end FQR
/-- of what is shown: it falls with it -/
theorem lv_fall {p q : PM} {x y o a b : Nat} {r s z n : Int} {st t : Int32} (hL : LV p q x y o a b r s z) (hl : q.1 15 3 o = cn 1) (h1 : 1 ≤ n) (h2 : n < r) (hst : (st = cn 1 ∧ ∀ h : Int, 0 ≤ h → h ≤ 50 → p.1 10 (o + 1) 11 = cn h → n ≤ h) ∨ (st = cn 0 ∧ (o = x ∨ b = y))) : LV (fC p o (cn (r - n)) (p.1 10 (o + 1) 11 - cn n)) (fQ q o a (cn (r - n)) (q.1 13 22 o - (if st = cn 0 then cn 0 else cn n)) t) x y o a b (r - n) s z := by
  obtain ⟨⟨a1, a2, a3⟩, ⟨b1, b2, b3⟩, c1, c2, ⟨d1, d2⟩, ⟨e1, e2⟩, f1, ⟨g1, g2, g3, g4⟩, ⟨i1, i2, i3, i4, i5⟩, j1, k1, ⟨l1, l2⟩, m⟩ := hL
  have q15 := fun (u v t : Int32) => fQ_K (q := q) (o := o) (a := a) (u := u) (v := v) (t := t) (K := 15) (by decide) (by decide) (by decide)
  have q16 := fun (u v t : Int32) => fQ_K (q := q) (o := o) (a := a) (u := u) (v := v) (t := t) (K := 16) (by decide) (by decide) (by decide)
  have q14 := fun (u v t : Int32) => fQ_K (q := q) (o := o) (a := a) (u := u) (v := v) (t := t) (K := 14) (by decide) (by decide) (by decide)
  have q18 := fun (u v t : Int32) => fQ_K (q := q) (o := o) (a := a) (u := u) (v := v) (t := t) (K := 18) (by decide) (by decide) (by decide)
  have q19 := fun (u v t : Int32) => fQ_K (q := q) (o := o) (a := a) (u := u) (v := v) (t := t) (K := 19) (by decide) (by decide) (by decide)
  have q20 := fun (u v t : Int32) => fQ_K (q := q) (o := o) (a := a) (u := u) (v := v) (t := t) (K := 20) (by decide) (by decide) (by decide)
  have q21 := fun (u v t : Int32) => fQ_K (q := q) (o := o) (a := a) (u := u) (v := v) (t := t) (K := 21) (by decide) (by decide) (by decide)
  have q24 := fun (u v t : Int32) => fQ_K (q := q) (o := o) (a := a) (u := u) (v := v) (t := t) (K := 24) (by decide) (by decide) (by decide)
  have q25 := fun (u v t : Int32) => fQ_K (q := q) (o := o) (a := a) (u := u) (v := v) (t := t) (K := 25) (by decide) (by decide) (by decide)
  have q26 := fun (u v t : Int32) => fQ_K (q := q) (o := o) (a := a) (u := u) (v := v) (t := t) (K := 26) (by decide) (by decide) (by decide)
  have q27 := fun (u v t : Int32) => fQ_K (q := q) (o := o) (a := a) (u := u) (v := v) (t := t) (K := 27) (by decide) (by decide) (by decide)
  have q28 := fun (u v t : Int32) => fQ_K (q := q) (o := o) (a := a) (u := u) (v := v) (t := t) (K := 28) (by decide) (by decide) (by decide)
  have p0 := fun (u v : Int32) => fC_s (p := p) (o := o) (u := u) (v := v) (S := 0) (by decide) (by decide) (by decide)
  have p1 := fun (u v : Int32) => fC_s (p := p) (o := o) (u := u) (v := v) (S := 1) (by decide) (by decide) (by decide)
  have p2 := fun (u v : Int32) => fC_s (p := p) (o := o) (u := u) (v := v) (S := 2) (by decide) (by decide) (by decide)
  have p5 := fun (u v : Int32) => fC_s (p := p) (o := o) (u := u) (v := v) (S := 5) (by decide) (by decide) (by decide)
  have p6 := fun (u v : Int32) => fC_s (p := p) (o := o) (u := u) (v := v) (S := 6) (by decide) (by decide) (by decide)
  have p7 := fun (u v : Int32) => fC_s (p := p) (o := o) (u := u) (v := v) (S := 7) (by decide) (by decide) (by decide)
  have p8 := fun (u v : Int32) => fC_s (p := p) (o := o) (u := u) (v := v) (S := 8) (by decide) (by decide) (by decide)
  have p10 := fun (u v : Int32) => fC_s (p := p) (o := o) (u := u) (v := v) (S := 10) (by decide) (by decide) (by decide)
  have p13 := fun (u v : Int32) => fC_s (p := p) (o := o) (u := u) (v := v) (S := 13) (by decide) (by decide) (by decide)
  have p14 := fun (u v : Int32) => fC_s (p := p) (o := o) (u := u) (v := v) (S := 14) (by decide) (by decide) (by decide)
  have p15 := fun (u v : Int32) => fC_s (p := p) (o := o) (u := u) (v := v) (S := 15) (by decide) (by decide) (by decide)
  have b4 := fun (u v t : Int32) => fQ_15 (q := q) (o := o) (a := a) (u := u) (v := v) (t := t) (K := 4) (by decide)
  have b5 := fun (u v t : Int32) => fQ_15 (q := q) (o := o) (a := a) (u := u) (v := v) (t := t) (K := 5) (by decide)
  unfold LV StatR BookedR CauseR
  simp only [q14, q15, q16, q18, q19, q20, q21, q24, q25, q26, q27, q28, p0, p1, p2, p5, p6, p7, p8, p10, p13, p14, p15, b4, b5, fC_9, fC_11, fC_16, fC_2, fQ_17, fQ_22, fQ_6]
  refine ⟨⟨a1, a2, a3⟩, ⟨b1, b2, b3⟩, c1, c2, ⟨d1, d2⟩, ⟨e1, e2⟩, f1, ⟨by omega, by omega, trivial, trivial⟩, ⟨i1, i2, i3, i4, i5.imp_right fun h => by omega⟩, j1, k1, ⟨trivial, Or.inr rfl⟩, ?_⟩
  rcases m with m | ⟨m1, m2, m3, w, m4, m5, m6, m7⟩ | m
  · exact Or.inl m
  · refine Or.inr (Or.inl ⟨m1, m2, m3, w, m4, m5, fun hy => ?_, m7⟩)
    obtain ⟨h, h0, h3, h4, h5, h6⟩ := m6 hy
    rcases hst with ⟨s1, s2⟩ | ⟨s1, s2⟩
    · have s3 := s2 h h0 (by omega) h5
      have s4 : ¬ st = cn 0 := by rw [s1]; decide
      refine ⟨h - n, by omega, by omega, by omega, by rw [h5, cnsub], ?_⟩
      rw [if_neg s4]
      rcases h6 with ⟨k2, k3⟩ | ⟨k2, k3⟩
      · exact Or.inl ⟨k2, by rw [k3, cnsub]⟩
      · exact Or.inr ⟨k2, by omega⟩
    · rcases s2 with s2 | s2
      · exact absurd s2 m1
      · exact absurd s2 hy
  · exact Or.inr (Or.inr m)
/-- all of it -/
theorem ww_fall {p q : PM} {lg : Nat → Int32} {x y o a b N T D l : Nat} {w : Nat → Prop} {f : Nat → Int} {r s z n : Int} {st : Int32} (H : WW p q lg x y w N T D l f) (ho : o < 40) (hl : q.1 15 3 o = cn 1) (hL : LV p q x y o a b r s z) (h1 : 1 ≤ n) (h2 : n ≤ r) (hst : (st = cn 1 ∧ ∀ h : Int, 0 ≤ h → h ≤ 50 → p.1 10 (o + 1) 11 = cn h → n ≤ h) ∨ (st = cn 0 ∧ (o = x ∨ b = y))) : (g10_fall p (o + 1) (cn n) ∧ g12_falls q (cn o) (cn n) st) ∧ WW (v10_fall p (o + 1) (cn n)) (v12_falls q (cn o) (cn n) st) lg x y (fun i => w i ∨ i = o) N T D l (fu f a (if q.1 13 19 o = cn 4 then n else 0)) ∧ RS (v12_falls q (cn o) (cn n) st) 40 = RS q 40 - n ∧ (v12_falls q (cn o) (cn n) st).1 15 3 o = (if n < r then cn 1 else cn 0) := by
  have a1 := hL.1
  obtain ⟨r1, r2, r3, r4⟩ := hL.2.2.2.2.2.2.2.1
  refine ⟨⟨g_fallC p o _, g_fallQ (by omega) a1.1 _ _ a1.2.1⟩, ?_⟩
  rw [fallC_e (n := n) r3 ⟨by omega, by omega⟩, fallQ_e (n := n) (st := st) (by omega) (by omega) r4 a1.2.1 ⟨by omega, by omega⟩]
  generalize hU : cn (r - n) = U
  generalize hV : p.1 10 (o + 1) 11 - cn n = V
  generalize hV2 : q.1 13 22 o - (if st = cn 0 then cn 0 else cn n) = V2
  generalize ht : q.1 13 4 a + (if q.1 13 19 o = cn 4 then cn n else cn 0) = t
  generalize hp2 : (if 0 < r - n then fC p o U V else pI (fC p o U V) 10 (o + 1) 2 (cn 0)) = p2
  generalize hq2 : pI (fQ q o a U V2 t) 15 3 o (if 0 < r - n then cn 1 else cn 0) = q2
  obtain ⟨hO, hA, hB, hD, hK, hT, hI, hF⟩ := H
  -- the class
  have pi : ∀ i S, ¬ i = o → p2.1 10 (i + 1) S = p.1 10 (i + 1) S := by
    intro i S h
    rw [← hp2]
    split
    · exact fC_i h
    · rw [pI_1, u3_i (by omega)]
      exact fC_i h
  have pk : ∀ K, ¬ K = 10 → p2.1 K = p.1 K := by
    intro K h
    rw [← hp2]
    split
    · exact fC_k h
    · funext i S
      rw [pI_1, u3_k h, fC_k h]
  have p22 : p2.2 = p.2 := by
    rw [← hp2]
    split <;> rfl
  have pt : p2.1 10 (o + 1) 12 = p.1 10 (o + 1) 12 := by
    rw [← hp2]
    split
    · exact fC_s (by decide) (by decide) (by decide)
    · rw [pI_1, u3_s (by decide)]
      exact fC_s (by decide) (by decide) (by decide)
  -- the reference
  have qK : ∀ K, ¬ K = 17 → ¬ K = 22 → ¬ K = 4 → q2.1 13 K = q.1 13 K := by
    intro K k1 k2 k3
    funext S
    rw [← hq2, pI_1, u3_k (by decide), fQ_K k1 k2 k3]
  have qi : ∀ K i, ¬ i = o → ¬ K = 4 → q2.1 13 K i = q.1 13 K i := by
    intro K i k1 k2
    rw [← hq2, pI_1, u3_k (by decide), fQ_i k1 k2]
  have q15 : ∀ K, ¬ K = 6 → ¬ K = 3 → q2.1 15 K = q.1 15 K := by
    intro K k1 k2
    funext S
    rw [← hq2, pI_1, u3_i k2, fQ_15 k1]
  have q15i : ∀ K i, ¬ i = o → q2.1 15 K i = q.1 15 K i := by
    intro K i k1
    rw [← hq2, pI_1, u3_s k1]
    by_cases hK : K = 6
    · rw [hK, fQ_15i k1]
    · rw [fQ_15 hK]
  have q12 : q2.1 12 = q.1 12 := by
    funext i S
    rw [← hq2, pI_1, u3_k (by decide), fQ_12]
  have q22 : q2.2 = q.2 := by rw [← hq2]; rfl
  have qlive : q2.1 15 3 o = if 0 < r - n then cn 1 else cn 0 := by rw [← hq2, pI_1, u3_same]
  have q4 : q2.1 13 4 a = t := by rw [← hq2, pI_1, u3_k (by decide), fQ_4 (by omega)]
  have q48 : q2.1 13 4 8 = bV q o U := by rw [← hq2, pI_1, u3_k (by decide), fQ_48]
  have qL : q2.1 12 1 95 = q.1 12 1 95 := by rw [← hq2, pI_1, u3_k (by decide), fQ_12]
  have q4a : ∀ c, ¬ c = a → ¬ c = 8 → q2.1 13 4 c = q.1 13 4 c := by
    intro c k1 k2
    rw [← hq2, pI_1, u3_k (by decide), fQ_4a k1 k2]
  have q17 : q2.1 13 17 o = U := by rw [← hq2, pI_1, u3_k (by decide), fQ_17]
  have hfr : FrO o p p2 q q2 := ⟨pi, fun i S h => by rw [p22], fun K i k1 k2 h => qi K i h (by omega), fun K i k1 k2 h => q15i K i h⟩
  have hkp : Kp o q q2 := fun h => ⟨hl, by rw [qK 14 (by decide) (by decide) (by decide)], by rw [qK 19 (by decide) (by decide) (by decide)], by rw [qK 15 (by decide) (by decide) (by decide)], by rw [qK 16 (by decide) (by decide) (by decide)], by rw [q15 4 (by decide) (by decide)]⟩
  have hst' : stnd q2 o → stnd q o := fun h => ⟨hl, by rw [← qK 24 (by decide) (by decide) (by decide)]; exact h.2⟩
  have hsta : ∀ i, stnd q2 i → stnd q i := by
    intro i h
    by_cases hi : i = o
    · rw [hi] at h ⊢
      exact hst' h
    · exact ⟨by rw [← q15i 3 i hi]; exact h.1, by rw [← qK 24 (by decide) (by decide) (by decide)]; exact h.2⟩
  have hkpa := kp_all hfr hkp
  have hslot : SlotR p2 q2 x y o := by
    by_cases h3 : n < r
    · have e1 : p2 = fC p o U V := by rw [← hp2, if_pos (by omega)]
      have e2 : q2 = fQ q o a U V2 t := by
        rw [← hq2, if_pos (by omega)]
        exact pI_same (by rw [fQ_15 (by decide)]; exact hl)
      refine Or.inr ⟨by rw [qlive, if_pos (by omega)], a, b, r - n, s, z, ?_⟩
      rw [e1, e2, ← hU, ← hV, ← hV2]
      exact lv_fall hL hl h1 h3 hst
    · refine Or.inl ⟨?_, by rw [qlive, if_neg (by omega)]⟩
      rw [← hp2, if_neg (by omega), pI_1, u3_same]
  have hRS : RS q2 40 = RS q 40 - n := by
    rw [RS_upd (q := q) (q' := q2) 40 ho (fun i hi h => by unfold rs; rw [q15i 3 i h, qi 17 i h (by decide)])]
    have e1 : rs q o = r := by
      unfold rs
      rw [hl, if_neg cn01, r4, cn_I ⟨by omega, by omega⟩]
    have e2 : rs q2 o = r - n := by
      unfold rs
      rw [qlive, q17, ← hU]
      by_cases h3 : n < r
      · rw [if_pos (show 0 < r - n by omega), if_neg cn01, cn_I ⟨by omega, by omega⟩]
      · rw [if_neg (show ¬ 0 < r - n by omega), if_pos cn0e']
        omega
    omega
  have hR0 := (RS_rng hO.1 40 (by decide)).1
  have hR1 := (RS_rng (or_upd hO.1 hfr ho (fun i _ _ => rfl) hslot) 40 (by decide)).1
  have hfall : ∀ c, c < 8 → ∃ zz : Int, q.1 13 4 c = cn zz ∧ 0 ≤ zz ∧ zz + RS q 40 ≤ 50 * N := hF.1
  have hN := hO.2.1.2.2.2.2
  have ht2 : ∀ zz : Int, q.1 13 4 a = cn zz → t = cn (zz + (if q.1 13 19 o = cn 4 then n else 0)) := by
    intro zz h
    rw [← ht, h]
    split
    · rw [cnadd]
    · rw [cnadd]
  refine ⟨⟨ord_upd hO hfr ho hkp (fun i _ _ => rfl) ⟨by rw [pk 6 (by decide)], by rw [q12], by rw [pk 6 (by decide)], by rw [q12]⟩ (fun h => ⟨hst' h, pt, by rw [qK 23 (by decide) (by decide) (by decide)]⟩) hslot, ?_, ?_, ?_, ?_, ?_, ?_, ?_⟩, hRS, ?_⟩
  · refine ⟨fun c hc => ?_, fun c hc => ?_⟩
    · have h := hA.1 c hc
      unfold AcR at h ⊢
      rw [pk 13 (by decide), p22, qK 1 (by decide) (by decide) (by decide), q22]
      exact h
    · obtain ⟨h0, h3, h4, ⟨zz, z1, z2, z3, z4⟩, h5, h6⟩ := hA.2 c hc
      have hfc : 0 ≤ fu f a (if q.1 13 19 o = cn 4 then n else 0) c := by
        unfold fu
        split
        · split <;> omega
        · exact h0
      refine ⟨hfc, ?_⟩
      unfold TrF
      rw [pk 13 (by decide), pk 0 (by decide), qK 2 (by decide) (by decide) (by decide), qK 3 (by decide) (by decide) (by decide), qK 5 (by decide) (by decide) (by decide), q15 1 (by decide) (by decide)]
      refine ⟨h3, h4, ⟨zz, z1, ?_, z3, ?_⟩, h5, h6⟩
      · unfold fu
        split
        · obtain ⟨y1, y2, y3, y4⟩ := hfall c hc
          rw [z4, cneq ⟨by omega, by omega⟩ ⟨by omega, by omega⟩] at y2
          split <;> omega
        · exact z2
      · unfold fu
        by_cases hca : c = a
        · rw [if_pos hca, hca, q4, ht2 (zz + f a) (by rw [← hca]; exact z4)]
          exact congrArg cn (by omega)
        · rw [if_neg hca, q4a c hca (by omega)]
          exact z4
  · exact brl_c (pk 1 (by decide)) (fun i k1 k2 => qK i (by omega) (by omega) (by omega)) (q15 2 (by decide) (by decide)) hB
  · exact dr_c (pk 4 (by decide)) (pk 7 (by decide)) (by rw [p22]) (fun i k1 k2 => qK i (by omega) (by omega) (by omega)) (q15 7 (by decide) (by decide)) (q15 8 (by decide) (by decide)) (by rw [q12]) hD
  · exact ck_c (pk 0 (by decide)) (pk 1 (by decide)) hK
  · exact ot_c (pk 9 (by decide)) (fun i _ => by rw [pk 13 (by decide)]) (pk 2 (by decide)) (by rw [pk 6 (by decide)]) (by rw [pk 6 (by decide)]) (fun i k1 k2 => qK i (by omega) (by omega) (by omega)) (q15 9 (by decide) (by decide)) (q15 10 (by decide) (by decide)) (fun i _ => by rw [q12]) hT (pd_c (qK 1 (by decide) (by decide) (by decide)) (by rw [q12]) (by rw [q22]) hT)
  · obtain ⟨i1, i2, i3, i4⟩ := hI
    refine ⟨fun i hi h => ?_, fun i hi hw h => ?_, fun i u hi h => ?_, fun c hc => ?_⟩
    · rw [q15 5 (by decide) (by decide), qK 16 (by decide) (by decide) (by decide), qK 12 (by decide) (by decide) (by decide)]
      exact i1 i hi (hsta i h)
    · have hne : ¬ i = o := fun e => hw (Or.inr e)
      rw [qK 16 (by decide) (by decide) (by decide), qK 19 (by decide) (by decide) (by decide), qi 22 i hne (by decide)]
      exact i2 i hi (fun e => hw (Or.inl e)) (hsta i h)
    · rw [qK 16 (by decide) (by decide) (by decide), qK 19 (by decide) (by decide) (by decide), qK 24 (by decide) (by decide) (by decide), qK 28 (by decide) (by decide) (by decide), qK 30 (by decide) (by decide) (by decide)]
      exact i3 i u hi (hkpa i h).1
    · rw [qK 12 (by decide) (by decide) (by decide), q12]
      exact i4 c hc
  · refine ⟨fun c hc => ?_, ?_⟩
    rotate_left
    · obtain ⟨zb, L, b1, b2, b3, b4, b5⟩ := hF.2
      refine ⟨zb + n, L, ?_, by rw [qL]; exact b2, by omega, by rw [hRS]; omega, b5⟩
      have e9 : cn r - U = cn n := by
        rw [← hU, cnsub]
        exact congrArg cn (by omega)
      have hN6 := hO.2.1.2.2.2.2
      have hRS0 := (RS_rng hO.1 40 (by decide)).1
      rw [q48]
      unfold bV stA
      rw [r4, e9, b1, cn_I (a := zb) ⟨by omega, by omega⟩, cn_I (a := n) ⟨by omega, by omega⟩]
      exact congrArg cn (by omega)
    obtain ⟨zz, z1, z2, z3⟩ := hF.1 c hc
    by_cases hca : c = a
    · refine ⟨zz + (if q.1 13 19 o = cn 4 then n else 0), ?_, ?_, ?_⟩
      · rw [hca, q4]
        exact ht2 zz (by rw [← hca]; exact z1)
      · split <;> omega
      · rw [hRS]
        split <;> omega
    · exact ⟨zz, by rw [q4a c hca (by omega)]; exact z1, z2, by omega⟩
  · rw [qlive]
    by_cases h3 : n < r
    · rw [if_pos (by omega), if_pos h3]
    · rw [if_neg (by omega), if_neg h3]
