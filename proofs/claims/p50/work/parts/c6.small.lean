/-! small events: cancel, rules, bands, protections, limits -/
section Small
variable {p q p' q' : PM} {lg : Nat → Int32} {a b N T D l : Nat}
theorem ww_cancel {j : Nat} {v : Int32} (H : WW p q lg 99 99 (fun _ => False) N T D l (fun _ => 0)) (hj : j < 40) (hl : q.1 15 3 j = cn 1) (e : v6_find p v = j + 1) (g : g6_find p v) : g6_withdraw p v ∧ EvR lg q N T D l 60 0 (v6_withdraw p v) (q.1 13 17 j, pI q 15 3 j (cn 0)) := by
  obtain ⟨_, a, b, r, s, z, hL⟩ := slot_live (H.1.1.1 j hj) (by rw [hl]; exact cn01)
  have hzj : ¬ j + 1 = 0 := by omega
  have M := mk_one (p := p) (q := q) hj
  have W := w_mk M H
  have R := rs_mk M H.1.1
  have hr := hL.2.2.2.2.2.2.2.1
  have eC : v6_withdraw p v = (cn r, pI p 10 (j + 1) 2 (cn 0)) ∧ g6_withdraw p v := by
    unfold v6_withdraw bv6_withdraw g6_withdraw bg6_withdraw
    simp only [e, if_neg hzj]
    rw [pI_1, u3_s (by decide), hr.2.2.1]
    exact ⟨rfl, g, hzj, hzj, trivial⟩
  rw [eC.1, hr.2.2.2]
  exact ⟨eC.2, rfl, N, T, D, ⟨Nat.le_refl _, Nat.le_refl _⟩, ⟨Nat.le_refl _, Nat.le_refl _⟩, W, by show (T : Int) + RS (pI _ _ _ _ _) 40 ≤ _; omega, by show (D : Int) + RS (pI _ _ _ _ _) 40 ≤ _; omega⟩
/-- the books alone change, and not when an auction ends -/
theorem ww_bk0 (H : WW p q lg 99 99 (fun _ => False) N T D l (fun _ => 0)) (h1 : ∀ K, ¬ K = 1 → p'.1 K = p.1 K) (h2 : p'.2 = p.2) (k1 : ∀ K, ¬ (6 ≤ K ∧ K ≤ 11) → q'.1 13 K = q.1 13 K) (k2 : q'.1 15 = q.1 15) (k3 : ∀ k, ¬ k = 13 → q'.1 k = q.1 k) (k4 : q'.2 = q.2) (hB : BR p' q') (hK : CK p') : WW p' q' lg 99 99 (fun _ => False) N T D l (fun _ => 0) := by
  refine ww_bk H h1 h2 (fun K h => k1 K (by omega)) (fun K _ => by rw [k2]) (fun k h h' => k3 k h) k4 hB hK (fun i hi hs h => ?_) (fun c hc h => ?_)
  · rw [k1 12 (by omega)]
    exact H.2.2.2.2.2.2.1.1 i hi hs h
  · rw [k1 12 (by omega)] at h ⊢
    rw [k3 12 (by decide)]
    exact H.2.2.2.2.2.2.1.2.2.2 c hc h
theorem ww_rule {r t s : Int} (H : WW p q lg 99 99 (fun _ => False) N T D l (fun _ => 0)) (hb : b < 6) (r1 : 0 ≤ r) (r2 : r ≤ 2) (t1 : 0 ≤ t) (t2 : t ≤ 50) (s1 : 0 ≤ s) (s2 : s ≤ 2) : g1_changeRule p (b + 1) (cn r) (cn t) (cn s) ∧ EvR lg q N T D l 60 0 (v1_changeRule p (b + 1) (cn r) (cn t) (cn s)) (q.1 13 6 b, pI (pI (pI q 13 6 b (cn r)) 13 7 b (cn t)) 13 8 b (cn s)) := by
  have hzb : ¬ b + 1 = 0 := by omega
  obtain ⟨x, x1, x2, x3, x4⟩ := (H.2.2.1 b hb).2.2.2.1
  have W : WW (pI (pI (pI p 1 (b + 1) 9 (cn r)) 1 (b + 1) 10 (cn t)) 1 (b + 1) 11 (cn s)) (pI (pI (pI q 13 6 b (cn r)) 13 7 b (cn t)) 13 8 b (cn s)) lg 99 99 (fun _ => False) N T D l (fun _ => 0) := by
    refine ww_bk0 H (fun K h => ?_) rfl (fun K h => ?_) ?_ (fun k h => ?_) rfl (fun c hc => ?_) ?_
    · funext i S
      rw [pI_1, u3_k h, pI_1, u3_k h, pI_1, u3_k h]
    · funext i
      rw [pI_1, u3_i (by omega), pI_1, u3_i (by omega), pI_1, u3_i (by omega)]
    · funext i S
      simp (decide := true) only [pI_1, pI_J, pI_R, u3_same, u3_k, u3_i, u3_s, not_false_eq_true]
    · funext i S
      rw [pI_1, u3_k h, pI_1, u3_k h, pI_1, u3_k h]
    · have h := H.2.2.1 c hc
      unfold BkR AucR at h ⊢
      have e : ∀ S, ¬ S = 9 → ¬ S = 10 → ¬ S = 11 → (pI (pI (pI p 1 (b + 1) 9 (cn r)) 1 (b + 1) 10 (cn t)) 1 (b + 1) 11 (cn s)).1 1 (c + 1) S = p.1 1 (c + 1) S := fun S n1 n2 n3 => by rw [pI_1, u3_s n3, pI_1, u3_s n2, pI_1, u3_s n1]
      have e13 : ∀ K, ¬ K = 6 → ¬ K = 7 → ¬ K = 8 → (pI (pI (pI q 13 6 b (cn r)) 13 7 b (cn t)) 13 8 b (cn s)).1 13 K c = q.1 13 K c := fun K n1 n2 n3 => by rw [pI_1, u3_i n3, pI_1, u3_i n2, pI_1, u3_i n1]
      have e15 : (pI (pI (pI q 13 6 b (cn r)) 13 7 b (cn t)) 13 8 b (cn s)).1 15 2 c = q.1 15 2 c := by simp (decide := true) only [pI_1, pI_J, pI_R, u3_same, u3_k, u3_i, u3_s, not_false_eq_true]
      obtain ⟨h1, h2, h3, h4, h5, h6, h7⟩ := h
      rw [e 3 (by decide) (by decide) (by decide), e 4 (by decide) (by decide) (by decide), e 5 (by decide) (by decide) (by decide), e 6 (by decide) (by decide) (by decide), e 7 (by decide) (by decide) (by decide), e 8 (by decide) (by decide) (by decide), e 12 (by decide) (by decide) (by decide), e13 10 (by decide) (by decide) (by decide), e13 11 (by decide) (by decide) (by decide), e13 12 (by decide) (by decide) (by decide), e13 13 (by decide) (by decide) (by decide), e13 9 (by decide) (by decide) (by decide), e15]
      refine ⟨h1, h2, h3, ?_, ?_, ?_, h7⟩
      · by_cases ec : c = b
        · rw [ec]
          refine ⟨r, r1, r2, ?_, ?_⟩
          · rw [pI_1, u3_s (by decide), pI_1, u3_s (by decide), pI_at]
          · rw [pI_1, u3_i (by decide), pI_1, u3_i (by decide), pI_at]
        · rw [pI_1, u3_i (by omega), pI_1, u3_i (by omega), pI_1, u3_i (by omega), pI_1, u3_s ec, pI_1, u3_s ec, pI_1, u3_s ec]
          exact h4
      · by_cases ec : c = b
        · rw [ec]
          refine ⟨t, t1, t2, ?_, ?_⟩
          · rw [pI_1, u3_s (by decide), pI_at]
          · rw [pI_1, u3_i (by decide), pI_at]
        · rw [pI_1, u3_i (by omega), pI_1, u3_i (by omega), pI_1, u3_i (by omega), pI_1, u3_s ec, pI_1, u3_s ec, pI_1, u3_s ec]
          exact h5
      · by_cases ec : c = b
        · rw [ec]
          exact ⟨s, s1, s2, pI_at, pI_at⟩
        · rw [pI_1, u3_i (by omega), pI_1, u3_i (by omega), pI_1, u3_i (by omega), pI_1, u3_s ec, pI_1, u3_s ec, pI_1, u3_s ec]
          exact h6
    · obtain ⟨j1, j2⟩ := H.2.2.2.2.1
      refine ⟨fun c hc => ?_, fun c hc => ?_⟩
      · have e : (pI (pI (pI p 1 (b + 1) 9 (cn r)) 1 (b + 1) 10 (cn t)) 1 (b + 1) 11 (cn s)).1 0 = p.1 0 := by
          funext i S
          simp (decide := true) only [pI_1, pI_J, pI_R, u3_same, u3_k, u3_i, u3_s, not_false_eq_true]
        rw [e]
        exact j1 c hc
      · have e : ∀ S, S < 9 → (pI (pI (pI p 1 (b + 1) 9 (cn r)) 1 (b + 1) 10 (cn t)) 1 (b + 1) 11 (cn s)).1 1 (c + 1) S = p.1 1 (c + 1) S := fun S h => by rw [pI_1, u3_s (by omega), pI_1, u3_s (by omega), pI_1, u3_s (by omega)]
        rw [e 0 (by decide), e 1 (by decide), e 2 (by decide)]
        exact j2 c hc
  have hRS : RS (pI (pI (pI q 13 6 b (cn r)) 13 7 b (cn t)) 13 8 b (cn s)) 40 = RS q 40 := RS_same 40 fun i _ => by
    unfold rs
    simp (decide := true) only [pI_1, pI_J, pI_R, u3_same, u3_k, u3_i, u3_s, not_false_eq_true]
  have eC : v1_changeRule p (b + 1) (cn r) (cn t) (cn s) = (p.1 1 (b + 1) 9, pI (pI (pI p 1 (b + 1) 9 (cn r)) 1 (b + 1) 10 (cn t)) 1 (b + 1) 11 (cn s)) := rfl
  rw [eC, x3, x4]
  exact ⟨⟨hzb, hzb, hzb, hzb, trivial⟩, rfl, N, T, D, ⟨Nat.le_refl _, Nat.le_refl _⟩, ⟨Nat.le_refl _, Nat.le_refl _⟩, W, by show (T : Int) + RS (pI _ _ _ _ _) 40 ≤ _; omega, by show (D : Int) + RS (pI _ _ _ _ _) 40 ≤ _; omega⟩
theorem ww_band {w : Int} (H : WW p q lg 99 99 (fun _ => False) N T D l (fun _ => 0)) (hb : b < 6) (w1 : 0 ≤ w) (w2 : w ≤ 9999) : g1_changeBand p (b + 1) (cn w) ∧ EvR lg q N T D l 60 0 (v1_changeBand p (b + 1) (cn w)) (q.1 13 9 b, pI q 13 9 b (cn w)) := by
  have hzb : ¬ b + 1 = 0 := by omega
  obtain ⟨x, x1, x2, x3, x4⟩ := (H.2.2.1 b hb).2.2.2.2.2.2
  have W : WW (pI p 1 (b + 1) 12 (cn w)) (pI q 13 9 b (cn w)) lg 99 99 (fun _ => False) N T D l (fun _ => 0) := by
    refine ww_bk0 H (fun K h => ?_) rfl (fun K h => ?_) ?_ (fun k h => ?_) rfl (fun c hc => ?_) ?_
    · funext i S
      rw [pI_1, u3_k h]
    · funext i
      rw [pI_1, u3_i (by omega)]
    · funext i S
      simp (decide := true) only [pI_1, pI_J, pI_R, u3_same, u3_k, u3_i, u3_s, not_false_eq_true]
    · funext i S
      rw [pI_1, u3_k h]
    · have h := H.2.2.1 c hc
      unfold BkR AucR at h ⊢
      have e : ∀ S, ¬ S = 12 → (pI p 1 (b + 1) 12 (cn w)).1 1 (c + 1) S = p.1 1 (c + 1) S := fun S n1 => by rw [pI_1, u3_s n1]
      have e13 : ∀ K, ¬ K = 9 → (pI q 13 9 b (cn w)).1 13 K c = q.1 13 K c := fun K n1 => by rw [pI_1, u3_i n1]
      have e15 : (pI q 13 9 b (cn w)).1 15 2 c = q.1 15 2 c := by simp (decide := true) only [pI_1, pI_J, pI_R, u3_same, u3_k, u3_i, u3_s, not_false_eq_true]
      obtain ⟨h1, h2, h3, h4, h5, h6, h7⟩ := h
      rw [e 3 (by decide), e 4 (by decide), e 5 (by decide), e 6 (by decide), e 7 (by decide), e 8 (by decide), e 9 (by decide), e 10 (by decide), e 11 (by decide), e13 10 (by decide), e13 11 (by decide), e13 12 (by decide), e13 13 (by decide), e13 6 (by decide), e13 7 (by decide), e13 8 (by decide), e15]
      refine ⟨h1, h2, h3, h4, h5, h6, ?_⟩
      by_cases ec : c = b
      · rw [ec]
        exact ⟨w, w1, w2, pI_at, pI_at⟩
      · rw [pI_1, u3_i (by omega), pI_1, u3_s ec]
        exact h7
    · obtain ⟨j1, j2⟩ := H.2.2.2.2.1
      refine ⟨fun c hc => ?_, fun c hc => ?_⟩
      · have e : (pI p 1 (b + 1) 12 (cn w)).1 0 = p.1 0 := by
          funext i S
          simp (decide := true) only [pI_1, pI_J, pI_R, u3_same, u3_k, u3_i, u3_s, not_false_eq_true]
        rw [e]
        exact j1 c hc
      · have e : ∀ S, S < 9 → (pI p 1 (b + 1) 12 (cn w)).1 1 (c + 1) S = p.1 1 (c + 1) S := fun S h => by rw [pI_1, u3_s (by omega)]
        rw [e 0 (by decide), e 1 (by decide), e 2 (by decide)]
        exact j2 c hc
  have hRS : RS (pI q 13 9 b (cn w)) 40 = RS q 40 := RS_same 40 fun i _ => by
    unfold rs
    simp (decide := true) only [pI_1, pI_J, pI_R, u3_same, u3_k, u3_i, u3_s, not_false_eq_true]
  have eC : v1_changeBand p (b + 1) (cn w) = (p.1 1 (b + 1) 12, pI p 1 (b + 1) 12 (cn w)) := rfl
  rw [eC, x3, x4]
  exact ⟨⟨hzb, hzb, trivial⟩, rfl, N, T, D, ⟨Nat.le_refl _, Nat.le_refl _⟩, ⟨Nat.le_refl _, Nat.le_refl _⟩, W, by show (T : Int) + RS (pI _ _ _ _ _) 40 ≤ _; omega, by show (D : Int) + RS (pI _ _ _ _ _) 40 ≤ _; omega⟩
/-- accounts alone change -/
theorem ww_ac {f f' : Nat → Int} (H : WW p q lg 99 99 (fun _ => False) N T D l f) (h1 : ∀ K, ¬ K = 0 → ¬ K = 13 → p'.1 K = p.1 K) (h13 : ∀ i, 19 ≤ i → p'.1 13 i = p.1 13 i) (h2 : p'.2.2 = p.2.2) (k1 : ∀ K, ¬ (1 ≤ K ∧ K ≤ 5) → q'.1 13 K = q.1 13 K) (k2 : ∀ K, ¬ K = 1 → q'.1 15 K = q.1 15 K) (k3 : q'.1 12 = q.1 12) (hK : CK p') (hA : AF p' q' f') (hP : PD q' lg) (hF : FB q' N) : WW p' q' lg 99 99 (fun _ => False) N T D l f' ∧ RS q' 40 = RS q 40 := by
  obtain ⟨hO, -, hB, hD, -, hI0, hI, -⟩ := H
  refine ⟨⟨?_, hA, ?_, ?_, hK, ?_, ?_, hF⟩, RS_same 40 fun i _ => ?_⟩
  · exact ord_c (h1 10 (by decide) (by decide)) (by rw [h2]) (by rw [h1 6 (by decide) (by decide)]) (by rw [h1 6 (by decide) (by decide)]) (fun K _ _ => k1 K (by omega)) (fun K _ _ => k2 K (by omega)) (by rw [k3]) (by rw [k3]) hO
  · exact brl_c (h1 1 (by decide) (by decide)) (fun i _ _ => k1 i (by omega)) (k2 2 (by decide)) hB
  · exact dr_c (h1 4 (by decide) (by decide)) (h1 7 (by decide) (by decide)) (by rw [h2]) (fun i _ _ => k1 i (by omega)) (k2 7 (by decide)) (k2 8 (by decide)) (by rw [k3]) hD
  · exact ot_c (h1 9 (by decide) (by decide)) (fun i hi => h13 i (by omega)) (h1 2 (by decide) (by decide)) (by rw [h1 6 (by decide) (by decide)]) (by rw [h1 6 (by decide) (by decide)]) (fun i _ _ => k1 i (by omega)) (k2 9 (by decide)) (k2 10 (by decide)) (fun i _ => by rw [k3]) hI0 hP
  · exact iq_c (fun K _ _ => k1 K (by omega)) (fun K _ _ => k2 K (by omega)) (k1 12 (by omega)) (k1 30 (by omega)) (by rw [k3]) hI
  · unfold rs
    rw [k2 3 (by decide), k1 17 (by omega)]
end Small
