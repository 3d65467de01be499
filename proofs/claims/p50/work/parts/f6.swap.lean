/-! a side of a trade is given up -/
def isW (v a b : Int32) : Int32 := if v < a then cn 0 else if b < v then cn 0 else cn 1
theorem in_w (q : PM) (v a b : Int32) : v12_in q v a b = isW v a b := rfl
theorem isW_b (v a b : Int32) : b01 (isW v a b) := by
  unfold isW
  split
  · exact b0
  · split
    · exact b0
    · exact b1
theorem isW_n {v : Int32} {b : Nat} (hb : b ≤ 2147483647) (h : ¬ isW v (cn 0) (cn b) = 0) : ∃ k : Nat, k ≤ b ∧ v = cn k := by
  have hv := I_rg v
  unfold isW at h
  rw [cn_of v] at h
  simp only [cnlt hv (show rg 0 by decide), cnlt (a := (b : Int)) ⟨by omega, by omega⟩ hv] at h
  by_cases h1 : v.toInt < 0
  · rw [if_pos h1] at h
    exact absurd rfl h
  rw [if_neg h1] at h
  by_cases h2 : (b : Int) < v.toInt
  · rw [if_pos h2] at h
    exact absurd rfl h
  refine ⟨v.toInt.toNat, by omega, ?_⟩
  rw [Int.toNat_of_nonneg (by omega)]
  exact cn_of v
theorem isW_z {v : Int32} {a b : Int} (ha : rg a) (hb : rg b) (h : ¬ isW v (cn a) (cn b) = 0) : ∃ z : Int, a ≤ z ∧ z ≤ b ∧ v = cn z := by
  have hv := I_rg v
  unfold isW at h
  rw [cn_of v] at h
  simp only [cnlt hv ha, cnlt hb hv] at h
  by_cases h1 : v.toInt < a
  · rw [if_pos h1] at h
    exact absurd rfl h
  rw [if_neg h1] at h
  by_cases h2 : b < v.toInt
  · rw [if_pos h2] at h
    exact absurd rfl h
  exact ⟨v.toInt, by omega, by omega, cn_of v⟩
theorem acc_e (q : PM) (v : Int32) : v12_isAccount q v = isW v (cn 0) (cn 7) ∧ g12_isAccount q v := by
  refine ⟨rfl, ?_⟩
  unfold g12_isAccount bg12_isAccount
  exact ⟨g_in _ _ _ _, isW_b _ _ _, trivial⟩
section Swap
variable {p q : PM} {lg : Nat → Int32} {b N T D l : Nat}
/-- one account gives n at z, another one takes it -/
theorem ww_swap {s j e : Nat} {u z : Int} (he : e + 1 ≤ 2000) (H : WW p q (lgB lg e) 99 99 (fun _ => False) N T D l (fun _ => 0)) (hs8 : s < 8) (hj8 : j < 8) (hb : b < 6) (u1 : -999 ≤ u) (u2 : u ≤ 999) (z1 : -9999 ≤ z) (z2 : z ≤ 9999) : WW (tkC (tkC p s b (cn (-u)) (cn z)) j b (cn u) (cn z)) (hdQ (hdQ q s b (cn (-u)) (cn z)) j b (cn u) (cn z)) (lgB lg (e + 1)) 99 99 (fun _ => False) N T D l (fun _ => 0) ∧ RS (hdQ (hdQ q s b (cn (-u)) (cn z)) j b (cn u) (cn z)) 40 = RS q 40 := by
  have hs : s < 9 := by omega
  have hj : j < 9 := by omega
  have e1 : (cn u).toInt = u := cn_I ⟨by omega, by omega⟩
  have e2 : (cn (-u)).toInt = -u := cn_I ⟨by omega, by omega⟩
  refine ww_lat H (lgB_lg (e := e) (e' := e + 1)) (fun K _ _ h => by rw [tkC_k h, tkC_k h]) (fun i h => by rw [tkC_13 (by omega), tkC_13 (by omega)]) (by rw [tkC_R, tkC_R]) (fun K h _ _ _ => by rw [hdQ_13 h, hdQ_13 h]) (by rw [hdQ_13 (by decide), hdQ_13 (by decide)]) (fun K _ _ => by rw [hdQ_k (by decide), hdQ_k (by decide)]) (fun S _ => by rw [hdQ_k (by decide), hdQ_k (by decide)]) (acr_take hb (acr_take hb H.2.1.1 hs) hj) ?_ ?_ ?_ ?_
  · exact brl_c (by rw [tkC_k (by decide), tkC_k (by decide)]) (fun i _ _ => by rw [hdQ_13 (by omega), hdQ_13 (by omega)]) (by rw [hdQ_k (by decide), hdQ_k (by decide)]) H.2.2.1
  · exact dr_c (by rw [tkC_k (by decide), tkC_k (by decide)]) (by rw [tkC_k (by decide), tkC_k (by decide)]) (by rw [tkC_R, tkC_R]) (fun i _ _ => by rw [hdQ_13 (by omega), hdQ_13 (by omega)]) (by rw [hdQ_k (by decide), hdQ_k (by decide)]) (by rw [hdQ_k (by decide), hdQ_k (by decide)]) (by rw [hdQ_k (by decide), hdQ_k (by decide)]) H.2.2.2.1
  · exact ck_c (by rw [tkC_k (by decide), tkC_k (by decide)]) (by rw [tkC_k (by decide), tkC_k (by decide)]) H.2.2.2.2.1
  · refine pd_up he H.2.2.2.2.2.1.2.2.2.2.2.2.2.2.2.2 (by rw [hdQ_k (by decide), hdQ_k (by decide)]) (fun c hc => ?_) ?_ ?_ (fun _ => ⟨fun c hc => ?_, ?_⟩) (fun _ _ c hc => ?_)
    · have w1 := hdQ_ps (q := q) (a := s) (b := b) (c := c) (v := cn (-u)) (z := cn z) hs hb hc
      have w2 := hdQ_ps (q := hdQ q s b (cn (-u)) (cn z)) (a := j) (b := b) (c := c) (v := cn u) (z := cn z) hj hb hc
      rw [e2] at w1
      rw [e1] at w2
      omega
    · rw [hdQ_s3 hj hb, hdQ_s3 hs hb]
      by_cases h3 : b = 3
      · rw [if_pos h3, if_pos h3, Int32.add_assoc, cnadd, show -u + u = 0 by omega]
        exact addz _
      · rw [if_neg h3, if_neg h3]
    · have b1 := mul_bd (n := u) (m := z) (A := 999) (B := 9999) (by omega) (by omega) (by omega) (by omega)
      have b2 := mul_bd (n := -u) (m := z) (A := 999) (B := 9999) (by omega) (by omega) (by omega) (by omega)
      have w1 := hdQ_cs (q := q) (a := s) (b := b) (v := -u) (z := z) (d := 10000000) hs ⟨by omega, by omega⟩ ⟨by omega, by omega⟩ (by omega) (by omega) (by decide)
      have w2 := hdQ_cs (q := hdQ q s b (cn (-u)) (cn z)) (a := j) (b := b) (v := u) (z := z) (d := 10000000) hj ⟨by omega, by omega⟩ ⟨by omega, by omega⟩ (by omega) (by omega) (by decide)
      omega
    · have w1 := hd2_sF (q := q) (a := s) (a' := j) (b := b) (c := c) (v := cn (-u)) (z := cn z) (z' := cn z) hs hj hb (by omega)
      rw [cnneg, show -(-u) = u by omega] at w1
      exact w1
    · have w1 := hd2_cS (q := q) (a := s) (a' := j) (b := b) (v := -u) (z := z) hs hj ⟨by omega, by omega⟩ ⟨by omega, by omega⟩ ⟨by omega, by omega⟩
      rw [show -(-u) = u by omega] at w1
      exact w1
    · have w1 : ∀ {Q : PM} {a : Nat} {v w : Int32}, a < 8 → (hdQ Q a b v w).1 13 1 (32 + c) = Q.1 13 1 (32 + c) := by
        intro Q a v w ha
        rw [hdQ_p]
        by_cases h : b < 4
        · rw [if_pos h, if_neg (by omega)]
        · rw [if_neg h, if_neg (by omega), if_neg (by omega)]
      rw [w1 hj8, w1 hs8]
/-- a kept trade has another side -/
theorem ww_side {k j c : Nat} (H : WW p q lg 99 99 (fun _ => False) N T D l (fun _ => 0)) (hk : k < 60) (hj : j < 8) (hc : c = 1 ∨ c = 2) (c6 : p.1 4 (k + 1) 6 = cn 1) : WW (pR p 4 (k + 1) c (j + 1)) (pI q 13 (30 + c) k (cn j)) lg 99 99 (fun _ => False) N T D l (fun _ => 0) ∧ RS (pI q 13 (30 + c) k (cn j)) 40 = RS q 40 := by
  have e13 : ∀ K, ¬ K = 30 + c → (pI q 13 (30 + c) k (cn j)).1 13 K = q.1 13 K := fun K h => by
    funext i
    rw [pI_1, u3_i h]
  have eqk : ∀ K, ¬ K = 13 → (pI q 13 (30 + c) k (cn j)).1 K = q.1 K := fun K h => by
    funext i S
    rw [pI_1, u3_k h]
  have eR : ∀ K, ¬ K = 4 → (pR p 4 (k + 1) c (j + 1)).2.2 K = p.2.2 K := fun K h => by
    funext i S
    rw [pR_R, u3_k h]
  refine ww_lat H (fun _ _ _ => rfl) (fun K _ _ _ => by rw [pR_1]) (fun i _ => by rw [pR_1]) (eR 10 (by decide)) (fun K _ _ _ h => e13 K (by omega)) (e13 30 (by omega)) (fun K _ _ => by rw [eqk 15 (by decide)]) (fun S _ => by rw [eqk 12 (by decide)]) (fun a ha => ?_) ?_ ?_ ?_ ?_
  · have h := H.2.1.1 a ha
    unfold AcR at h ⊢
    rw [pR_1, pR_J, e13 1 (by omega)]
    exact h
  · exact brl_c (by rw [pR_1]) (fun i _ _ => e13 i (by omega)) (by rw [eqk 15 (by decide)]) H.2.2.1
  · obtain ⟨z1, z2, z3, z4⟩ := H.2.2.2.1
    refine ⟨fun i hi => ?_, by rw [pR_1]; exact z2, by rw [eqk 12 (by decide)]; exact z3, z4⟩
    obtain ⟨y1, y2, y3⟩ := z1 i hi
    rw [pR_1, eqk 15 (by decide)]
    have e0 : (pR p 4 (k + 1) c (j + 1)).2.2 4 (i + 1) 0 = p.2.2 4 (i + 1) 0 := by rw [pR_R, u3_s (by omega)]
    rw [e0]
    refine ⟨y1, y2, ?_⟩
    rcases y3 with ⟨s1, s2, s3, s4⟩ | y3
    · refine Or.inl ⟨s1, s2, s3, ?_⟩
      unfold DealV at s4 ⊢
      rw [e0, pR_1, e13 30 (by omega), e13 33 (by omega), e13 34 (by omega), eqk 15 (by decide)]
      obtain ⟨b, A, B, z, n, hb, hA, hB, d0, d30, d1, d31, d2, d32, hd⟩ := s4
      by_cases ei : i = k
      · rw [ei] at d0 d30 d1 d31 d2 d32 hd ⊢
        rcases hc with rfl | rfl
        · refine ⟨b, j, B, z, n, hb, hj, hB, d0, d30, ?_, ?_, ?_, ?_, hd⟩
          · rw [pR_R, u3_same]
          · exact pI_at
          · rw [pR_R, u3_s (by decide)]
            exact d2
          · rw [e13 32 (by decide)]
            exact d32
        · refine ⟨b, A, j, z, n, hb, hA, hj, d0, d30, ?_, ?_, ?_, ?_, hd⟩
          · rw [pR_R, u3_s (by decide)]
            exact d1
          · rw [e13 31 (by decide)]
            exact d31
          · rw [pR_R, u3_same]
          · exact pI_at
      · refine ⟨b, A, B, z, n, hb, hA, hB, d0, d30, ?_, ?_, ?_, ?_, hd⟩
        · rw [pR_R, u3_i (by omega)]
          exact d1
        · rw [pI_1, u3_s ei]
          exact d31
        · rw [pR_R, u3_i (by omega)]
          exact d2
        · rw [pI_1, u3_s ei]
          exact d32
    · exact Or.inr y3
  · exact ck_c (by rw [pR_1]) (by rw [pR_1]) H.2.2.2.2.1
  · exact pd_c (e13 1 (by omega)) (by rw [eqk 12 (by decide)]) rfl H.2.2.2.2.2.1
/-- the class's code -/
noncomputable def kGive (p : PM) (a to : Int32) : Nat := if v7_find p a = 0 then 1 else if isW to (cn 0) (cn 7) = 0 then 1 else if p.1 4 (v7_find p a) 5 = 0 then (if p.1 0 (p.2.2 4 (v7_find p a) 1) 0 = to then 2 else if p.1 0 (p.2.2 4 (v7_find p a) 2) 0 = to then 2 else 0) else 2
end Swap
