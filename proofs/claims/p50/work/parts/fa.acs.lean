/-! accounts change, one by one -/
/-- positions and cash alone change, by k at most, contract 3 by v in all -/
def AcS (p p' q q' : PM) (k : Int) (v : Int32) : Prop := (∀ K, ¬ K = 13 → p'.1 K = p.1 K) ∧ (∀ i, i % 2 = 0 ∨ 19 ≤ i → p'.1 13 i = p.1 13 i) ∧ p'.2.2 = p.2.2 ∧ (∀ K, ¬ K = 13 → q'.1 K = q.1 K) ∧ (∀ K, ¬ K = 1 → q'.1 13 K = q.1 13 K) ∧ (∀ a, a < 9 → AcR p' q' a) ∧ (∀ c, c < 4 → psF (q'.1 13 1) c 9 ≤ psF (q.1 13 1) c 9 + k) ∧ csF (q'.2.1 14 1) 9 ≤ csF (q.2.1 14 1) 9 + 10000000 * k ∧ s3F (q'.1 13 1) 9 = s3F (q.1 13 1) 9 + v
section Acs
variable {p p' p2 q q' q2 : PM} {lg : Nat → Int32} {N T D l : Nat} {k k2 : Int} {v v2 : Int32}
theorem acs_refl (h : ∀ a, a < 9 → AcR p q a) : AcS p p q q 0 (cn 0) := ⟨fun _ _ => rfl, fun _ _ => rfl, rfl, fun _ _ => rfl, fun _ _ => rfl, h, fun c _ => by omega, by omega, (addz _).symm⟩
theorem acs_trans (h : AcS p p' q q' k v) (h2 : AcS p' p2 q' q2 k2 v2) : AcS p p2 q q2 (k + k2) (v + v2) := by
  obtain ⟨a1, a2, a3, a4, a5, a6, a7, a8, a9⟩ := h
  obtain ⟨b1, b2, b3, b4, b5, b6, b7, b8, b9⟩ := h2
  refine ⟨fun K h => (b1 K h).trans (a1 K h), fun i h => (b2 i h).trans (a2 i h), b3.trans a3, fun K h => (b4 K h).trans (a4 K h), fun K h => (b5 K h).trans (a5 K h), b6, fun c hc => ?_, by omega, ?_⟩
  · have x := a7 c hc
    have y := b7 c hc
    omega
  · rw [b9, a9, Int32.add_assoc]
theorem acs_ww {e : Nat} (he : e + 1 ≤ 2000) (H : WW p q (lgB lg e) 99 99 (fun _ => False) N T D l (fun _ => 0)) (h : AcS p p' q q' k (cn 0)) (hk : k ≤ 4000) (hfl : ¬ lg 4006 = cn 1) : WW p' q' (lgB lg (e + 1)) 99 99 (fun _ => False) N T D l (fun _ => 0) ∧ RS q' 40 = RS q 40 := by
  obtain ⟨a1, a2, a3, a4, a5, a6, a7, a8, a9⟩ := h
  refine ww_lat H (lgB_lg (e := e) (e' := e + 1)) (fun K _ _ h => a1 K h) a2 (by rw [a3]) (fun K h _ _ _ => a5 K h) (a5 30 (by decide)) (fun K _ _ => by rw [a4 15 (by decide)]) (fun S _ => by rw [a4 12 (by decide)]) a6 ?_ ?_ ?_ ?_
  · exact brl_c (a1 1 (by decide)) (fun i _ _ => a5 i (by omega)) (by rw [a4 15 (by decide)]) H.2.2.1
  · exact dr_c (a1 4 (by decide)) (a1 7 (by decide)) (by rw [a3]) (fun i _ _ => a5 i (by omega)) (by rw [a4 15 (by decide)]) (by rw [a4 15 (by decide)]) (by rw [a4 12 (by decide)]) H.2.2.2.1
  · exact ck_c (a1 0 (by decide)) (a1 1 (by decide)) H.2.2.2.2.1
  · refine pd_up he H.2.2.2.2.2.1.2.2.2.2.2.2.2.2.2.2 (by rw [a4 12 (by decide)]) (fun c hc => ?_) (by rw [a9]; exact addz _) (by omega) (fun h => absurd h hfl) (fun h => absurd h hfl)
    have x := a7 c hc
    omega
/-- contract 3 against contract 0 and 100 each -/
def xC (p : PM) (w : Nat) (u : Int) : PM := pJ (pI (pI p 13 (2 * (w + 1) - 1) 3 (p.1 13 (2 * (w + 1) - 1) 3 + cn u)) 13 (2 * (w + 1) - 1) 0 (p.1 13 (2 * (w + 1) - 1) 0 + cn (-u))) 0 (w + 1) 4 (p.2.1 0 (w + 1) 4 + cl (100 * u))
def xQ (q : PM) (w : Nat) (u : Int) : PM := pJ (pI (pI q 13 1 (4 * w + 3) (q.1 13 1 (4 * w + 3) + cn u)) 13 1 (4 * w + 0) (q.1 13 1 (4 * w + 0) + cn (-u))) 14 1 w (q.2.1 14 1 w + cl (100 * u))
theorem xC_acr {w : Nat} {u : Int} (h : ∀ a, a < 9 → AcR p q a) (hw : w < 9) : ∀ a, a < 9 → AcR (xC p w u) (xQ q w u) a := by
  intro a ha
  obtain ⟨h1, h2⟩ := h a ha
  obtain ⟨w1, w2⟩ := h w hw
  unfold xC xQ
  refine ⟨fun c hc => ?_, ?_⟩
  · rw [pJ_1, pJ_1, pI_1, pI_1, pI_1, pI_1]
    by_cases e : a = w
    · subst e
      by_cases e0 : c = 0
      · subst e0
        rw [u3_same, u3_same, w1 0 (by decide)]
      · rw [u3_s e0, u3_s (show ¬ 4 * a + c = 4 * a + 0 by omega)]
        by_cases e3 : c = 3
        · subst e3
          rw [u3_same, u3_same, w1 3 (by decide)]
        · rw [u3_s e3, u3_s (show ¬ 4 * a + c = 4 * a + 3 by omega)]
          exact h1 c hc
    · rw [u3_i (by omega), u3_i (by omega), u3_s (show ¬ 4 * a + c = 4 * w + 0 by omega), u3_s (show ¬ 4 * a + c = 4 * w + 3 by omega)]
      exact h1 c hc
  · rw [pJ_J, pJ_J, pI_J, pI_J, pI_J, pI_J]
    by_cases e : a = w
    · subst e
      rw [u3_same, u3_same, h2]
    · rw [u3_i (by omega), u3_s e]
      exact h2
theorem xQ_p {w : Nat} {u : Int} (k : Nat) : (xQ q w u).1 13 1 k = if k = 4 * w + 0 then q.1 13 1 k + cn (-u) else if k = 4 * w + 3 then q.1 13 1 k + cn u else q.1 13 1 k := by
  unfold xQ
  rw [pJ_1, pI_1, pI_1]
  by_cases e0 : k = 4 * w + 0
  · rw [if_pos e0, e0, u3_same]
  · rw [if_neg e0, u3_s e0]
    by_cases e3 : k = 4 * w + 3
    · rw [if_pos e3, e3, u3_same]
    · rw [if_neg e3, u3_s e3]
theorem xQ_acs {w : Nat} {u : Int} (h : ∀ a, a < 9 → AcR p q a) (hw : w < 9) (u1 : -99 ≤ u) (u2 : u ≤ 99) : AcS p (xC p w u) q (xQ q w u) (max u (-u)) (cn u) := by
  have e1 : (cn u).toInt = u := cn_I ⟨by omega, by omega⟩
  have e2 : (cn (-u)).toInt = -u := cn_I ⟨by omega, by omega⟩
  refine ⟨fun K h => ?_, fun i h => ?_, rfl, fun K h => ?_, fun K h => ?_, xC_acr h hw, fun c hc => ?_, ?_, ?_⟩
  · funext i S
    unfold xC
    rw [pJ_1, pI_1, u3_k h, pI_1, u3_k h]
  · funext S
    unfold xC
    rw [pJ_1, pI_1, u3_i (by omega), pI_1, u3_i (by omega)]
  · funext i S
    unfold xQ
    rw [pJ_1, pI_1, u3_k h, pI_1, u3_k h]
  · funext S
    unfold xQ
    rw [pJ_1, pI_1, u3_i h, pI_1, u3_i h]
  · have h9 := psF_upd (f := q.1 13 1) (g := (xQ q w u).1 13 1) (a := w) (c := c) (d := max u (-u)) (by omega) (fun m hm => by
      rw [xQ_p, if_neg (by omega), if_neg (by omega)]) (by
      rw [xQ_p]
      by_cases e0 : 4 * w + c = 4 * w + 0
      · rw [if_pos e0]
        have x := i32_add_abs (q.1 13 1 (4 * w + c)) (cn (-u))
        rw [e2] at x
        omega
      · rw [if_neg e0]
        by_cases e3 : 4 * w + c = 4 * w + 3
        · rw [if_pos e3]
          have x := i32_add_abs (q.1 13 1 (4 * w + c)) (cn u)
          rw [e1] at x
          omega
        · rw [if_neg e3]
          omega) 9
    rw [if_pos hw] at h9
    exact h9
  · have h9 := csF_upd (f := q.2.1 14 1) (g := (xQ q w u).2.1 14 1) (a := w) (d := 100 * max u (-u)) (by omega) (fun m hm => by
      unfold xQ
      rw [pJ_J, u3_s hm, pI_J, pI_J]) (by
      unfold xQ
      rw [pJ_J, u3_same]
      have x := i64_add_abs (q.2.1 14 1 w) (cl (100 * u))
      rw [cl_I (a := 100 * u) ⟨by omega, by omega⟩] at x
      omega) 9
    rw [if_pos hw] at h9
    omega
  · have h9 := s3F_upd (f := q.1 13 1) (g := (xQ q w u).1 13 1) (a := w) (v := cn u) (fun m hm => by
      rw [xQ_p, if_neg (by omega), if_neg (by omega)]) (by
      rw [xQ_p, if_neg (by omega), if_pos rfl]) 9
    rw [if_pos hw] at h9
    exact h9
end Acs
/-! what all are short of, together -/
def pz3 (q : PM) (a : Nat) : Int := (q.1 13 1 (4 * a + 3)).toInt
def lk3 (q : PM) (a : Nat) : Int := max 0 (-pz3 q a)
theorem s3_sm (q : PM) : ∀ n, s3F (q.1 13 1) n = cn (smF (pz3 q) 0 n)
  | 0 => rfl
  | n + 1 => by
    show s3F (q.1 13 1) n + q.1 13 1 (4 * n + 3) = cn (smF (pz3 q) 0 n + pz3 q (0 + n))
    rw [s3_sm q n, ← cnadd, Nat.zero_add]
    unfold pz3
    rw [← cn_of]
theorem lk_sm (q : PM) : ∀ n, (0 ≤ smF (lk3 q) 0 n ∧ -smF (pz3 q) 0 n ≤ smF (lk3 q) 0 n) ∧ smF (lk3 q) 0 n ≤ psF (q.1 13 1) 3 n ∧ smF (pz3 q) 0 n ≤ psF (q.1 13 1) 3 n ∧ -smF (pz3 q) 0 n ≤ psF (q.1 13 1) 3 n
  | 0 => by
    show ((0 : Int) ≤ 0 ∧ -(0 : Int) ≤ 0) ∧ (0 : Int) ≤ 0 ∧ (0 : Int) ≤ 0 ∧ -(0 : Int) ≤ 0
    omega
  | n + 1 => by
    have ih := lk_sm q n
    have e : 0 + n = n := Nat.zero_add n
    show ((0 : Int) ≤ smF (lk3 q) 0 n + lk3 q (0 + n) ∧ -(smF (pz3 q) 0 n + pz3 q (0 + n)) ≤ smF (lk3 q) 0 n + lk3 q (0 + n)) ∧ smF (lk3 q) 0 n + lk3 q (0 + n) ≤ psF (q.1 13 1) 3 n + max (q.1 13 1 (4 * n + 3)).toInt (-(q.1 13 1 (4 * n + 3)).toInt) ∧ smF (pz3 q) 0 n + pz3 q (0 + n) ≤ psF (q.1 13 1) 3 n + max (q.1 13 1 (4 * n + 3)).toInt (-(q.1 13 1 (4 * n + 3)).toInt) ∧ -(smF (pz3 q) 0 n + pz3 q (0 + n)) ≤ psF (q.1 13 1) 3 n + max (q.1 13 1 (4 * n + 3)).toInt (-(q.1 13 1 (4 * n + 3)).toInt)
    have e1 : lk3 q n = max 0 (-(q.1 13 1 (4 * n + 3)).toInt) := rfl
    have e2 : pz3 q n = (q.1 13 1 (4 * n + 3)).toInt := rfl
    rw [e, e1, e2]
    omega
theorem lk_pos {q : PM} {n : Int} (h : s3F (q.1 13 1) 9 = cn (-n)) (hn : 1 ≤ n) (hn2 : n ≤ 1000) (hb : psF (q.1 13 1) 3 9 ≤ 2000000000) : 1 ≤ smF (lk3 q) 0 9 ∧ smF (lk3 q) 0 9 ≤ 2000000000 := by
  obtain ⟨⟨h1, h2⟩, h3, h4, h5⟩ := lk_sm q 9
  rw [s3_sm, cneq ⟨by omega, by omega⟩ ⟨by omega, by omega⟩] at h
  omega
theorem lk_mono (q : PM) : ∀ (d i : Nat), 0 ≤ smF (lk3 q) 0 i ∧ smF (lk3 q) 0 i ≤ smF (lk3 q) 0 (i + d)
  | 0, i => ⟨(lk_sm q i).1.1, Int.le_refl _⟩
  | d + 1, i => by
    have ih := lk_mono q d i
    refine ⟨ih.1, ?_⟩
    show _ ≤ smF (lk3 q) 0 (i + d) + lk3 q (0 + (i + d))
    have : 0 ≤ lk3 q (0 + (i + d)) := by
      unfold lk3
      omega
    omega
