/-! a payment -/
theorem in_e (q : PM) (v a b : Int32) : v12_in q v a b = if v < a then cn 0 else if b < v then cn 0 else cn 1 := rfl
theorem g_in (q : PM) (v a b : Int32) : g12_in q v a b := by
  unfold g12_in bg12_in
  repeat' first
    | exact trivial
    | split
theorem in_z {q : PM} {v : Int32} {a b : Int} (ha : rg a) (hb : rg b) (h : ¬ v12_in q v (cn a) (cn b) = 0) : ∃ z : Int, a ≤ z ∧ z ≤ b ∧ v = cn z := by
  have hv := I_rg v
  rw [in_e, cn_of v] at h
  simp only [cnlt hv ha, cnlt hb hv] at h
  refine ⟨v.toInt, ?_, ?_, cn_of v⟩
  · by_cases h1 : v.toInt < a
    · rw [if_pos h1] at h
      exact absurd rfl h
    · omega
  · by_cases h1 : v.toInt < a
    · rw [if_pos h1] at h
      exact absurd rfl h
    · rw [if_neg h1] at h
      by_cases h2 : b < v.toInt
      · rw [if_pos h2] at h
        exact absurd rfl h
      · omega
theorem in_n {q : PM} {v : Int32} {b : Nat} (hb : b ≤ 2147483647) (h : ¬ v12_in q v (cn 0) (cn b) = 0) : ∃ k : Nat, k ≤ b ∧ v = cn k := by
  obtain ⟨z, h1, h2, h3⟩ := in_z (a := 0) (b := b) (by decide) ⟨by omega, by omega⟩ h
  refine ⟨z.toNat, by omega, ?_⟩
  rw [h3]
  exact congrArg cn (by omega)
/-- what a call threw -/
theorem th_1 {q : PM} {c : Int32} {i S : Nat} (h : ¬ (i = 1 ∧ S = 0)) : (pI q 12 1 0 c).1 12 i S = q.1 12 i S := by
  rw [pI_1, u3_ne (fun e => h e.2)]
theorem th_k {q : PM} {c : Int32} {K : Nat} (h : ¬ K = 12) : (pI q 12 1 0 c).1 K = q.1 K := by
  funext i S
  rw [pI_1, u3_k h]
theorem ww_th {p q : PM} {lg : Nat → Int32} {x y N T D l : Nat} {w : Nat → Prop} {f : Nat → Int} (c : Int32) (H : WW p q lg x y w N T D l f) : WW p (pI q 12 1 0 c) lg x y w N T D l f := by
  refine ww_scr H (fun K _ _ _ => by rw [th_k (by decide)]) (by rw [th_k (by decide)]) (fun S _ _ h => th_1 (fun e => h e.2)) rfl
theorem RS_th {q : PM} {c : Int32} : RS (pI q 12 1 0 c) 40 = RS q 40 := RS_same 40 fun i _ => by
  unfold rs
  rw [th_k (by decide), th_k (by decide)]
theorem ev_th {lg : Nat → Int32} {q : PM} {N T D l k n : Nat} {c r : Int32 × PM} {v : Int32} (h : EvR lg (pI q 12 1 0 v) N T D l k n c r) : EvR lg q N T D l k n c r := by
  unfold EvR at h ⊢
  rw [RS_th] at h
  exact h
/-- money and units so far -/
def MB (q : PM) (k : Int) : Prop := ∀ m, m < 4 → (∃ z : Int, 0 ≤ z ∧ z ≤ 10000 * k ∧ q.1 13 36 m = cn z) ∧ ∃ z : Int, 0 ≤ z ∧ z ≤ 100 * k ∧ q.1 13 37 m = cn z
theorem pay_t {q : PM} {a b c : Int32} (h : ¬ q.1 12 1 0 = 0) : v12_doPay_89 q a b c = (cl 0, q) ∧ g12_doPay_89 q a b c := by
  unfold v12_doPay_89 bv12_doPay_89 g12_doPay_89 bg12_doPay_89
  simp only [if_neg h]
  exact ⟨trivial, trivial⟩
theorem t_1 {q : PM} {c : Int32} : (pI q 12 1 0 c).1 12 1 0 = c := pI_at
theorem t_t {q : PM} {c d : Int32} : pI (pI q 12 1 0 c) 12 1 0 d = pI q 12 1 0 d := pI_pI
section Pay
variable {p q : PM} {lg : Nat → Int32} {N T D l : Nat}
theorem mem_f {m : Nat} (H : OT p q lg) (hm : m < 4) : p.1 9 (m + 1) 3 = q.1 15 9 m ∧ b01 (q.1 15 9 m) := (H.1 m hm).2.2.2.1
/-- the payment itself, in both -/
theorem pay_do {m : Nat} {c u k : Int} (H : WW p q lg 99 99 (fun _ => False) N T D l (fun _ => 0)) (hm : m < 4) (hB : MB q k) (hk0 : 0 ≤ k) (hk : k ≤ 600) (c1 : -9999 ≤ c) (c2 : c ≤ 9999) (u1 : -99 ≤ u) (u2 : u ≤ 99) (n1 : ¬ q.1 13 36 m + cn c < 0) (n2 : ¬ q.1 13 37 m + cn u < 0) : (g2_bring p (cn m) (cn c) (cn u) ∧ g12_callOf (pI (pI q 13 36 m (q.1 13 36 m + cn c)) 13 37 m (q.1 13 37 m + cn u)) (cn m)) ∧ (∃ v : Int64, v12_callOf (pI (pI q 13 36 m (q.1 13 36 m + cn c)) 13 37 m (q.1 13 37 m + cn u)) (cn m) = (v, pI (pI q 13 36 m (q.1 13 36 m + cn c)) 13 37 m (q.1 13 37 m + cn u)) ∧ EvR lg q N T D l 60 0 (v2_bring p (cn m) (cn c) (cn u)) (v.toInt32, pI (pI q 13 36 m (q.1 13 36 m + cn c)) 13 37 m (q.1 13 37 m + cn u))) ∧ MB (pI (pI q 13 36 m (q.1 13 36 m + cn c)) 13 37 m (q.1 13 37 m + cn u)) (k + 1) := by
  obtain ⟨a1, a2, a3, a4, a5, a6, a7, a8, a9, a10, a11⟩ := H.2.2.2.2.2.1
  obtain ⟨⟨x, -, -, x3, x4⟩, ⟨y, -, -, y3, y4⟩, -⟩ := a1 m hm
  obtain ⟨⟨x', x1, x2, x5⟩, y', y1, y2, y5⟩ := hB m hm
  have x6 : p.1 9 (m + 1) 0 = cn x' := by rw [x3, ← x4, x5]
  have y6 : p.1 9 (m + 1) 1 = cn y' := by rw [y3, ← y4, y5]
  have xx : cn x' + cn c = cn (x' + c) := cnadd _ _
  have yy : cn y' + cn u = cn (y' + u) := cnadd _ _
  rw [x5, xx, zcn, cnlt ⟨by omega, by omega⟩ (by decide)] at n1
  rw [y5, yy, zcn, cnlt ⟨by omega, by omega⟩ (by decide)] at n2
  obtain ⟨X, hX⟩ : ∃ X, x' + c = X := ⟨_, rfl⟩
  obtain ⟨Y, hY⟩ : ∃ Y, y' + u = Y := ⟨_, rfl⟩
  rw [hX] at n1 xx
  rw [hY] at n2 yy
  rw [x5, y5, xx, yy]
  have hz : ¬ m + 1 = 0 := by omega
  have em := member_e p hm
  have gm := g_member p hm
  generalize hp2 : pI (pI p 9 (m + 1) 0 (cn X)) 9 (m + 1) 1 (cn Y) = p2
  generalize hq2 : pI (pI q 13 36 m (cn X)) 13 37 m (cn Y) = q2
  have ek : ∀ K, ¬ K = 9 → p2.1 K = p.1 K := by
    intro K h
    funext i S
    rw [← hp2, pI_1, u3_k h, pI_1, u3_k h]
  have e9 : ∀ i S, ¬ S = 0 → ¬ S = 1 → p2.1 9 i S = p.1 9 i S := fun i S h h' => by rw [← hp2, pI_1, u3_s h', pI_1, u3_s h]
  have e90 : p2.1 9 (m + 1) 0 = cn X ∧ p2.1 9 (m + 1) 1 = cn Y := by
    rw [← hp2]
    exact ⟨by rw [pI_1, u3_s (by decide), pI_at], pI_at⟩
  have e9i : ∀ i S, ¬ i = m + 1 → p2.1 9 i S = p.1 9 i S := fun i S h => by rw [← hp2, pI_1, u3_i h, pI_1, u3_i h]
  have e13 : ∀ K, ¬ K = 36 → ¬ K = 37 → q2.1 13 K = q.1 13 K := by
    intro K h h'
    funext i
    rw [← hq2, pI_1, u3_i h', pI_1, u3_i h]
  have e36 : q2.1 13 36 m = cn X ∧ q2.1 13 37 m = cn Y := by
    rw [← hq2]
    exact ⟨by rw [pI_1, u3_i (by decide), pI_at], pI_at⟩
  have e36i : ∀ i, ¬ i = m → q2.1 13 36 i = q.1 13 36 i ∧ q2.1 13 37 i = q.1 13 37 i := fun i h => by
    rw [← hq2]
    exact ⟨by rw [pI_1, u3_i (by decide), pI_1, u3_s h], by rw [pI_1, u3_s h, pI_1, u3_i (by decide)]⟩
  have eqk : ∀ K, ¬ K = 13 → q2.1 K = q.1 K := by
    intro K h
    funext i S
    rw [← hq2, pI_1, u3_k h, pI_1, u3_k h]
  have p22 : p2.2 = p.2 := by rw [← hp2]; rfl
  have q22 : q2.2 = q.2 := by rw [← hq2]; rfl
  have W1 := ww_ot (p' := p2) (q' := q2) H (fun K _ h _ => ek K h) (fun i hi => by rw [ek 13 (by decide)]) p22 (fun K h => e13 K (by omega) (by omega)) (fun K _ _ => by rw [eqk 15 (by decide)]) (fun S _ => by rw [eqk 12 (by decide)]) q22 ⟨fun m' hm' => by
      obtain ⟨h1, h2, h3, h4, h5, h6⟩ := a1 m' hm'
      rw [e9 _ 2 (by decide) (by decide), e9 _ 3 (by decide) (by decide), e9 _ 4 (by decide) (by decide), e9 _ 5 (by decide) (by decide), e13 38 (by decide) (by decide), e13 39 (by decide) (by decide), eqk 15 (by decide)]
      refine ⟨?_, ?_, h3, h4, h5, h6⟩
      · by_cases e : m' = m
        · rw [e, e90.1, e36.1]
          exact ⟨X, by omega, by omega, rfl, rfl⟩
        · rw [e9i _ _ (by omega), (e36i m' e).1]
          exact h1
      · by_cases e : m' = m
        · rw [e, e90.2, e36.2]
          exact ⟨Y, by omega, by omega, rfl, rfl⟩
        · rw [e9i _ _ (by omega), (e36i m' e).2]
          exact h2, fun s' c' hs' hc' => by
      rw [ek 13 (by decide), e13 35 (by decide) (by decide)]
      exact a2 s' c' hs' hc', by
      rw [ek 2 (by decide), eqk 12 (by decide)]
      exact a3, by
      rw [ek 2 (by decide), eqk 12 (by decide)]
      exact a4, by
      rw [ek 2 (by decide), eqk 12 (by decide)]
      exact a5, by
      rw [ek 6 (by decide), eqk 12 (by decide)]
      exact a6, by
      rw [ek 6 (by decide), eqk 12 (by decide)]
      exact a7, fun j => by
      rw [e13 40 (by decide) (by decide)]
      exact a8 j, by
      rw [eqk 12 (by decide)]
      exact a9, by
      rw [eqk 12 (by decide)]
      exact a10, pd_c (e13 1 (by decide) (by decide)) (by rw [eqk 12 (by decide)]) (by rw [q22]) H.2.2.2.2.2.1⟩
  obtain ⟨W1, R1⟩ := W1
  obtain ⟨⟨k1, k2⟩, k3⟩ := callOf_eq (M := cn X) (U := cn Y) (mg_ww W1) hm e36.1 e36.2
  have eC : v2_bring p (cn m) (cn c) (cn u) = ((v2_callOf p2 (cn m) (cn X) (cn Y)).toInt32, p2) ∧ g2_bring p (cn m) (cn c) (cn u) := by
    have y7 : ∀ v, (pI p 9 (m + 1) 0 v).1 9 (m + 1) 1 = cn y' := fun v => by rw [pI_1, u3_s (by decide)]; exact y6
    unfold v2_bring bv2_bring g2_bring bg2_bring
    simp only [em, x6, xx, y7, yy, hX, hY, hp2, e90.1, e90.2]
    exact ⟨trivial, gm, hz, hz, hz, hz, hz, hz, k1, trivial⟩
  refine ⟨⟨eC.2, k2⟩, ⟨_, k3, ?_⟩, fun i hi => ?_⟩
  · rw [eC.1]
    refine ⟨rfl, N, T, D, ⟨Nat.le_refl _, Nat.le_refl _⟩, ⟨Nat.le_refl _, Nat.le_refl _⟩, W1, ?_, ?_⟩
    · show (T : Int) + RS q2 40 ≤ _
      omega
    · show (D : Int) + RS q2 40 ≤ _
      omega
  · by_cases e : i = m
    · rw [e, e36.1, e36.2]
      exact ⟨⟨X, by omega, by omega, rfl⟩, Y, by omega, by omega, rfl⟩
    · rw [(e36i i e).1, (e36i i e).2]
      obtain ⟨⟨s, s1, s2, s3⟩, t, t1, t2, t3⟩ := hB i hi
      exact ⟨⟨s, s1, by omega, s3⟩, t, t1, by omega, t3⟩
end Pay
