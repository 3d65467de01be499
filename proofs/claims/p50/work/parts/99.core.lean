/-! three or four fall together -/
theorem sQ_kq2 {q : PM} {K : Nat → Bool} {o : Nat} (ho : o ≤ 2147483647) : kq (sQ q o) K = sQ (kq q K) o := by
  have e1 : (kq q K).1 13 19 o = q.1 13 19 o := by rw [kq_k (by decide)]
  have e2 : (kq q K).1 13 22 o = q.1 13 22 o := by rw [kq_k (by decide)]
  have e3 : q.1 13 19 o = cn 1 → (kq q K).1 15 3 o = q.1 15 3 o := by
    intro h
    rw [kq_3, if_neg]
    intro h9
    rw [h] at h9
    exact absurd h9.2.1 (by decide)
  by_cases h : cS q o
  · have h' : cS (kq q K) o := by
      unfold cS at h ⊢
      rw [e1, e2, e3 h.2.1]
      exact h
    have em : mS (kq q K) o = mS q o := by
      unfold mS
      rw [kq_k (by decide)]
    have et : (kq q K).1 12 1 40 = q.1 12 1 40 := by rw [kq_k (by decide)]
    rw [sQ_p ho h, sQ_p ho h', em, et]
    unfold sW
    rw [kq_pI (by decide) (by decide), kq_pI (by decide) (by decide), kq_pI (by decide) (by decide)]
  · have h' : ¬ cS (kq q K) o := by
      unfold cS at h ⊢
      rw [e1, e2]
      intro h9
      rw [e3 h9.2.1] at h9
      exact h h9
    rw [sQ_n h, sQ_n h']
theorem sQ_f {q : PM} {o : Nat} (ho : o ≤ 2147483647) : (∀ k, ¬ k = 13 → ¬ k = 12 → (sQ q o).1 k = q.1 k) ∧ (∀ K i, ¬ (i = o ∧ (K = 22 ∨ K = 23)) → (sQ q o).1 13 K i = q.1 13 K i) ∧ (∀ S, ¬ S = 40 → (sQ q o).1 12 1 S = q.1 12 1 S) ∧ (sQ q o).2 = q.2 := by
  by_cases h : cS q o
  · rw [sQ_p ho h]
    unfold sW
    refine ⟨fun k h3 h4 => ?_, fun K i h3 => ?_, fun S h3 => ?_, rfl⟩
    · funext i S
      simp only [pI_1, u3_k h3, u3_k h4]
    · rw [pI_1, u3_k (by decide), pI_1, pI_1]
      by_cases e : i = o
      · rw [u3_i (fun e2 => h3 ⟨e, Or.inr e2⟩), u3_i (fun e2 => h3 ⟨e, Or.inl e2⟩)]
      · rw [u3_s e, u3_s e]
    · rw [pI_1, u3_s h3]
      simp (decide := true) only [pI_1, pI_J, pI_R, u3_same, u3_k, u3_i, u3_s, not_false_eq_true]
  · rw [sQ_n h]
    exact ⟨fun _ _ _ => rfl, fun _ _ _ => rfl, fun _ _ => rfl, rfl⟩
theorem fu_if {f : Nat → Int} {a c : Nat} {n : Int} {k : Prop} [Decidable k] : fu f a (if k then n else 0) c = f c + (if k ∧ c = a then n else 0) := by
  unfold fu
  by_cases h : c = a
  · rw [if_pos h]
    by_cases h2 : k
    · rw [if_pos h2, if_pos ⟨h2, h⟩]
    · rw [if_neg h2, if_neg fun h9 => h2 h9.1]
  · rw [if_neg h, if_neg fun h9 => h h9.2]
    omega
theorem rdy_k {p q : PM} {n : Int} {o a b : Nat} (H : Rdy p q n o a b) : o < 40 ∧ a < 8 ∧ q.1 13 15 o = cn a ∧ (p.1 10 (o + 1) 1 = cn 3) = (q.1 13 19 o = cn 4) ∧ p.2.2 10 (o + 1) 3 = a + 1 := by
  obtain ⟨h1, h2, ⟨r, s, z, hL, -⟩, -⟩ := H
  exact ⟨h1, hL.1.1, hL.1.2.1, kind_quote hL.2.2.2.1, hL.1.2.2⟩
section Core3
variable {p q : PM} {lg : Nat → Int32} {N T D l : Nat} {n : Int}
theorem core3 {x ax bx y ay bY z az bz : Nat} (H : WW p q lg 99 99 (fun _ => False) N T D l (fun _ => 0)) (h1 : 1 ≤ n) (hx : Rdy p q n x ax bx) (hy : Rdy p q n y ay bY) (hz : Rdy p q n z az bz) (d1 : ¬ y = x) (d2 : ¬ z = x) (d3 : ¬ z = y) (hT : T + 3 ≤ 1000000000) : (g3_fallTogether p (x + 1) (y + 1) (z + 1) 0 (cn n) ∧ (g12_falls1 q (cn x) (cn n) ∧ g12_falls1 (v12_falls1 q (cn x) (cn n)) (cn y) (cn n) ∧ g12_falls1 (v12_falls1 (v12_falls1 q (cn x) (cn n)) (cn y) (cn n)) (cn z) (cn n) ∧ gdH [x, y, z] (v12_falls1 (v12_falls1 (v12_falls1 q (cn x) (cn n)) (cn y) (cn n)) (cn z) (cn n)))) ∧ ∃ T2, T ≤ T2 ∧ T2 ≤ T + 3 ∧ WW (v3_fallTogether p (x + 1) (y + 1) (z + 1) 0 (cn n)) (gdQ [x, y, z] (v12_falls1 (v12_falls1 (v12_falls1 q (cn x) (cn n)) (cn y) (cn n)) (cn z) (cn n))) lg 99 99 (fun _ => False) N T2 D l (fun _ => 0) ∧ RS (gdQ [x, y, z] (v12_falls1 (v12_falls1 (v12_falls1 q (cn x) (cn n)) (cn y) (cn n)) (cn z) (cn n))) 40 ≤ RS q 40 - n - n - n := by
  have x40 := hx.1
  have y40 := hy.1
  have z40 := hz.1
  have hx0 : ¬ x + 1 = 0 := by omega
  have hy0 : ¬ y + 1 = 0 := by omega
  have hz0 : ¬ z + 1 = 0 := by omega
  have d1' : ¬ x = y := fun h => d1 h.symm
  have d2' : ¬ x = z := fun h => d2 h.symm
  have d3' : ¬ y = z := fun h => d3 h.symm
  -- they fall
  obtain ⟨⟨a1, a2⟩, Wa, Ra, ra, a3, a4, a5, a6, a7, a8, -, -⟩ := fall_step H h1 hx
  have hya := ra y ay bY d1 hy
  have hza := ra z az bz d2 hz
  generalize hpa : v10_fall p (x + 1) (cn n) = pa at a1 Wa ra a3 a4 a5 hya hza
  generalize hqa : v12_falls q (cn x) (cn n) (cn 1) = qa at Wa Ra ra a6 a7 a8 hya hza
  obtain ⟨⟨b1, b2⟩, Wb, Rb, rb, b3, b4, b5, b6, b7, b8, -, -⟩ := fall_step Wa h1 hya
  have hzb := rb z az bz d3 hza
  generalize hpb : v10_fall pa (y + 1) (cn n) = pb at b1 Wb rb b3 b4 b5 hzb
  generalize hqb : v12_falls qa (cn y) (cn n) (cn 1) = qb at Wb Rb rb b6 b7 b8 hzb
  obtain ⟨⟨c1, c2⟩, Wc, Rc, rc, c3, c4, c5, c6, c7, c8, -, -⟩ := fall_step Wb h1 hzb
  generalize hpc : v10_fall pb (z + 1) (cn n) = pc at c1 Wc c3 c4 c5
  generalize hqc : v12_falls qb (cn z) (cn n) (cn 1) = qc at Wc Rc c6 c7 c8
  clear rc rb ra
  -- kinds and owners
  obtain ⟨-, kx1, kx2, kx3, kx4⟩ := rdy_k hx
  obtain ⟨-, ky1, ky2, ky3, ky4⟩ := rdy_k hy
  obtain ⟨-, kz1, kz2, kz3, kz4⟩ := rdy_k hz
  have k19 : ∀ i, qc.1 13 19 i = q.1 13 19 i := fun i => by rw [c6 19 i (by decide) (by decide) (by decide), b6 19 i (by decide) (by decide) (by decide), a6 19 i (by decide) (by decide) (by decide)]
  have k15 : ∀ i, qc.1 13 15 i = q.1 13 15 i := fun i => by rw [c6 15 i (by decide) (by decide) (by decide), b6 15 i (by decide) (by decide) (by decide), a6 15 i (by decide) (by decide) (by decide)]
  have pk : ∀ i, pc.1 10 (i + 1) 1 = p.1 10 (i + 1) 1 := fun i => by rw [c4 i 1 (by decide), b4 i 1 (by decide), a4 i 1 (by decide)]
  have pR : pc.2 = p.2 := by rw [c5, b5, a5]
  have ef : (fu (fu (fu (fun _ => 0) ax (if q.1 13 19 x = cn 4 then n else 0)) ay (if qa.1 13 19 y = cn 4 then n else 0)) az (if qb.1 13 19 z = cn 4 then n else 0)) = fun c => (fun _ => (0 : Int)) c + cnt qc n [(x, ax), (y, ay), (z, az)] c := by
    funext c
    rw [fu_if, fu_if, fu_if]
    unfold cnt cnt cnt cnt
    dsimp only
    rw [k19, k19, k19, b6 19 z (by decide) (by decide) (by decide), a6 19 y (by decide) (by decide) (by decide), a6 19 z (by decide) (by decide) (by decide)]
    omega
  rw [ef] at Wc
  have Wc' : WW pc (kq qc fun _ => false) lg 99 99 (fun i => ((False ∨ i = x) ∨ i = y) ∨ i = z) N T D l (fun c => (fun _ => (0 : Int)) c + cnt qc n [(x, ax), (y, ay), (z, az)] c) := by
    rw [kq_none fun _ => rfl]
    exact Wc
  obtain ⟨g1, K, m1, m2, m3, Wg, m4, m5, m6⟩ := guards_list h1 [(x, ax), (y, ay), (z, az)] pc (fun _ => false) (fun _ => 0) Wc' (fun u hu => by
    simp only [List.mem_cons, List.not_mem_nil, or_false] at hu
    rcases hu with rfl | rfl | rfl
    · exact ⟨kx1, by rw [pk, k19]; exact kx3, by rw [pR]; exact kx4⟩
    · exact ⟨ky1, by rw [pk, k19]; exact ky3, by rw [pR]; exact ky4⟩
    · exact ⟨kz1, by rw [pk, k19]; exact kz3, by rw [pR]; exact kz4⟩) (fun _ => Int.le_refl _)
  have eos : [(x, ax), (y, ay), (z, az)].map Prod.fst = [x, y, z] := rfl
  rw [eos] at g1 Wg m4 m5 m6
  -- they show anew
  have h99 : ∀ {q : PM} {o : Nat}, ∀ b : Nat, b < 6 → q.1 13 16 o = cn b → ¬ b = 99 := fun b hb _ => by omega
  obtain ⟨T1, t1, t2, S1, r1⟩ := ww_show Wg x40 (by omega) h99 (by omega)
  obtain ⟨T2, t3, t4, S2, r2⟩ := ww_show S1 y40 (by omega) h99 (by omega)
  obtain ⟨T3, t5, t6, S3, r3⟩ := ww_show S2 z40 (by omega) h99 (by omega)
  have eP : v3_fallTogether p (x + 1) (y + 1) (z + 1) 0 (cn n) = v6_showAnew (v6_showAnew (v6_showAnew (gdC n [x, y, z] pc) (x + 1)) (y + 1)) (z + 1) := by
    unfold v3_fallTogether bv3_fallTogether
    simp only [if_true, hpa, hpb, hpc, gdC]
  have gP : g3_fallTogether p (x + 1) (y + 1) (z + 1) 0 (cn n) := by
    have e := g1
    unfold gdG gdG gdG gdG at e
    unfold g3_fallTogether bg3_fallTogether
    simp only [if_true, hpa, hpb, hpc]
    exact ⟨hx0, a1, hy0, b1, hz0, c1, e.1, e.2.1, e.2.2.1, g_show _ _, g_show _ _, g_show _ _, trivial⟩
  -- the reference
  have f1 := falls1_e (q := q) (o := x) (n := cn n) (by omega)
  rw [hqa] at f1
  have f2 := falls1_e (q := sQ qa x) (o := y) (n := cn n) (by omega)
  rw [fall_sQ (by omega) (by omega) d1, hqb] at f2
  have f3 := falls1_e (q := sQ (sQ qb x) y) (o := z) (n := cn n) (by omega)
  rw [fall_sQ (by omega) (by omega) d3, fall_sQ (by omega) (by omega) d2, hqc] at f3
  have g2y : g12_falls (sQ qa x) (cn y) (cn n) (cn 1) := g_fallQ (by omega) ky1 _ _ (by
    rw [(sQ_f (by omega)).2.1 15 y (by omega), a6 15 y (by decide) (by decide) (by decide)]
    exact ky2)
  have g3z : g12_falls (sQ (sQ qb x) y) (cn z) (cn n) (cn 1) := g_fallQ (by omega) kz1 _ _ (by
    rw [(sQ_f (by omega)).2.1 15 z (by omega), (sQ_f (by omega)).2.1 15 z (by omega), b6 15 z (by decide) (by decide) (by decide), a6 15 z (by decide) (by decide) (by decide)]
    exact kz2)
  rw [f1.1, f2.1, f3.1]
  have s15 : (sQ (sQ (sQ qc x) y) z).1 15 = qc.1 15 := by
    rw [(sQ_f (by omega)).1 15 (by decide) (by decide), (sQ_f (by omega)).1 15 (by decide) (by decide), (sQ_f (by omega)).1 15 (by decide) (by decide)]
  have sK : ∀ K i, ¬ K = 22 → ¬ K = 23 → (sQ (sQ (sQ qc x) y) z).1 13 K i = qc.1 13 K i := by
    intro K i n1 n2
    rw [(sQ_f (by omega)).2.1 K i (by omega), (sQ_f (by omega)).2.1 K i (by omega), (sQ_f (by omega)).2.1 K i (by omega)]
  obtain ⟨ob, oa⟩ := or_acc Wc.1.1
  have gq := gdQ_e [(x, ax), (y, ay), (z, az)] (sQ (sQ (sQ qc x) y) z) (fun u hu => by
    simp only [List.mem_cons, List.not_mem_nil, or_false] at hu
    rcases hu with rfl | rfl | rfl
    · exact ⟨by omega, kx1, by rw [sK 15 x (by decide) (by decide), k15]; exact kx2⟩
    · exact ⟨by omega, ky1, by rw [sK 15 y (by decide) (by decide), k15]; exact ky2⟩
    · exact ⟨by omega, kz1, by rw [sK 15 z (by decide) (by decide), k15]; exact kz2⟩) (fun s hs => by rw [s15]; exact ob s hs) (fun s hs h => by
    rw [s15] at h
    rw [sK 15 s (by decide) (by decide)]
    exact oa s hs h)
  rw [eos] at gq
  have stt : ∀ v a, tst (sQ (sQ (sQ qc x) y) z) v a = tst qc v a := by
    intro v a
    unfold tst
    rw [sK 19 v (by decide) (by decide), sK 3 a (by decide) (by decide), sK 4 a (by decide) (by decide)]
  have hK : K = fun c => [(x, ax), (y, ay), (z, az)].any fun u => decide (c = u.2) && tst (sQ (sQ (sQ qc x) y) z) u.1 u.2 := by
    funext c
    rw [Bool.eq_iff_iff, List.any_eq_true]
    refine ⟨fun h => ?_, fun ⟨u, u1, u2⟩ => ?_⟩
    · rcases m1 c h with h9 | ⟨u, u1, u2, u3'⟩
      · exact absurd h9 (by decide)
      · exact ⟨u, u1, by rw [stt, u3', decide_eq_true u2]; rfl⟩
    · simp only [Bool.and_eq_true, decide_eq_true_eq] at u2
      rw [u2.1]
      exact m3 u u1 rfl (by rw [← stt]; exact u2.2)
  rw [gq.2, ← hK, sQ_kq2 (by omega), sQ_kq2 (by omega), sQ_kq2 (by omega), eP]
  refine ⟨⟨gP, ?_, ?_, ?_, gq.1⟩, T3, by omega, by omega, ?_, ?_⟩
  · exact f1.2 a2
  · exact f2.2 g2y
  · exact f3.2 g3z
  · refine ww_w S3 fun i hi _ => Or.inl fun h => ?_
    obtain ⟨⟨⟨h4, h5⟩, h6⟩, h7⟩ := h
    rcases h4 with ((h8 | h8) | h8) | h8
    · exact h8
    · exact h5 h8
    · exact h6 h8
    · exact h7 h8
  · have := rs_kq (K := K) Wc.1.1
    omega
end Core3
