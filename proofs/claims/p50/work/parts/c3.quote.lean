/-! a quote: the one before is gone, and what has fallen is forgotten -/
noncomputable def aQuote (q : PM) (v1 v2 v3 v4 v5 : Int32) : Int32 × PM :=
  let p1 : PM := pI q 13 4 (v1).toNatClampNeg (cn 0)
  let p2 : PM := pI p1 15 1 (v1).toNatClampNeg (cn 0)
  let r3 : Int32 × PM := v12_newOrder p2 v1 v2 v5 v3 (cn 0) (cn 4) (p2.1 12 1 18)
  let p4 : PM := v12_enters r3.2 r3.1
  if (p4.1 15 1 (v1).toNatClampNeg) = 0 then (
    let r5 : Int32 × PM := v12_newOrder p4 v1 v2 (-v5) v4 (cn 0) (cn 4) (p4.1 12 1 18)
    let p6 : PM := v12_enters r5.2 r5.1
    ((p2.1 12 1 39), p6))
  else (
    let p7 : PM := pI p4 12 1 39 ((p4.1 12 1 39) + (cn 1))
    ((p2.1 12 1 39), p7))
def gQuote (q : PM) (v1 v2 v3 v4 v5 : Int32) : Prop :=
  (inb v1 8) ∧ (
  let p1 : PM := pI q 13 4 (v1).toNatClampNeg (cn 0)
  (inb v1 8) ∧ (
  let p2 : PM := pI p1 15 1 (v1).toNatClampNeg (cn 0)
  (g12_newOrder p2 v1 v2 v5 v3 (cn 0) (cn 4) (p2.1 12 1 18)) ∧ (
  let r3 : Int32 × PM := v12_newOrder p2 v1 v2 v5 v3 (cn 0) (cn 4) (p2.1 12 1 18)
  (g12_enters r3.2 r3.1) ∧ (
  let p4 : PM := v12_enters r3.2 r3.1
  (inb v1 8) ∧ (
  if (p4.1 15 1 (v1).toNatClampNeg) = 0 then (
    (g12_newOrder p4 v1 v2 (-v5) v4 (cn 0) (cn 4) (p4.1 12 1 18)) ∧ (
    let r5 : Int32 × PM := v12_newOrder p4 v1 v2 (-v5) v4 (cn 0) (cn 4) (p4.1 12 1 18)
    (g12_enters r5.2 r5.1) ∧ (
    let p6 : PM := v12_enters r5.2 r5.1
    True)))
  else (
    let p7 : PM := pI p4 12 1 39 ((p4.1 12 1 39) + (cn 1))
    True))))))
section Out
variable {a b : Nat} {v3 v4 v5 : Int32}
theorem out_tail {q : PM} (hd : ∀ i, 40 ≤ i → i < 44 → q.1 15 3 i = cn 0) : ∀ (d i n : Nat), i + d = 44 → 40 ≤ i → d < n → v12_doQuote_130 n q (cn a) (cn b) v3 v4 v5 (cn i) = aQuote q (cn a) (cn b) v3 v4 v5 ∧ (gQuote q (cn a) (cn b) v3 v4 v5 → g12_doQuote_130 n q (cn a) (cn b) v3 v4 v5 (cn i)) := by
  intro d
  induction d with
  | zero =>
    intro i n h1 h2 h3
    obtain ⟨m, rfl⟩ : ∃ m, n = m + 1 := ⟨n - 1, by omega⟩
    have hn := lpf (i := i) (N := 44) (by omega) (by omega) (by omega)
    rw [ev12_doQuote_130, eg12_doQuote_130]
    unfold bv12_doQuote_130 bg12_doQuote_130
    rw [if_neg hn, if_neg hn]
    exact ⟨rfl, id⟩
  | succ d ih =>
    intro i n h1 h2 h3
    obtain ⟨m, rfl⟩ : ∃ m, n = m + 1 := ⟨n - 1, by omega⟩
    have hi := cninb (i := i) (n := 44) (by omega) (by omega)
    have h0 : q.1 15 3 i = 0 := hd i h2 (by omega)
    have hs : pI q 15 3 i (cn 0) = q := pI_same h0
    obtain ⟨k1, k2⟩ := ih (i + 1) m (by omega) (by omega) (by omega)
    rw [ev12_doQuote_130, eg12_doQuote_130]
    unfold bv12_doQuote_130 bg12_doQuote_130
    simp only [if_pos (lpt (i := i) (N := 44) (by omega) (by omega)), cntk (i := i) (by omega), if_pos h0, hs, cnsucc]
    exact ⟨k1, fun h => ⟨hi, hi, k2 h⟩⟩
theorem out_loop (ha : a < 8) (hb : b < 6) : ∀ (d i n n' : Nat) (p q : PM), i + d = 40 → d < n → d + 4 < n' → OR p q 99 99 → g6_withdrawQuote_12 n p (a + 1) (b + 1) (cn i) ∧ ∃ q', Mk p (v6_withdrawQuote_12 n p (a + 1) (b + 1) (cn i)) q q' ∧ v12_doQuote_130 n' q (cn a) (cn b) v3 v4 v5 (cn i) = aQuote q' (cn a) (cn b) v3 v4 v5 ∧ (gQuote q' (cn a) (cn b) v3 v4 v5 → g12_doQuote_130 n' q (cn a) (cn b) v3 v4 v5 (cn i)) ∧ ∀ j, i ≤ j → j < 40 → q'.1 15 3 j = cn 1 → q'.1 13 19 j = cn 4 → q'.1 13 15 j = cn a → ¬ q'.1 13 16 j = cn b := by
  intro d
  induction d with
  | zero =>
    intro i n n' p q h1 h2 h3 H
    obtain ⟨m, rfl⟩ : ∃ m, n = m + 1 := ⟨n - 1, by omega⟩
    have e : i = 40 := by omega
    subst e
    have hn := lpf (i := 40) (N := 40) (by omega) (by omega) (by omega)
    obtain ⟨k1, k2⟩ := out_tail (a := a) (b := b) (v3 := v3) (v4 := v4) (v5 := v5) H.2 4 40 n' rfl (by omega) (by omega)
    rw [ev6_withdrawQuote_12, eg6_withdrawQuote_12]
    unfold bv6_withdrawQuote_12 bg6_withdrawQuote_12
    rw [if_neg hn, if_neg hn]
    exact ⟨trivial, q, mk_refl p q, k1, k2, fun j j1 j2 => by omega⟩
  | succ d ih =>
    intro i n n' p q h1 h2 h3 H
    obtain ⟨n1, rfl⟩ : ∃ m, n = m + 1 := ⟨n - 1, by omega⟩
    obtain ⟨n2, rfl⟩ : ∃ m, n' = m + 1 := ⟨n' - 1, by omega⟩
    have hi40 := cninb (i := i) (n := 40) (by omega) (by omega)
    have hi := cninb (i := i) (n := 44) (by omega) (by omega)
    have l40 : cn (i : Int) < cn 40 := lpt (by omega) (by omega)
    have l44 : cn (i : Int) < cn 44 := lpt (by omega) (by omega)
    have up : ∀ j, i ≤ j → i + 1 ≤ j ∨ j = i := fun j h => by omega
    obtain ⟨k1, q', k2, k3, k4, k5⟩ := ih (i + 1) n1 n2 p q (by omega) (by omega) (by omega) H
    rcases H.1 i (by omega) with ⟨s1, s2⟩ | ⟨s1, ai, bi, r, s, z, hL⟩
    · -- gone
      have hs : pI q 15 3 i (cn 0) = q := pI_same s2
      have hsp : pI p 10 (i + 1) 2 (cn 0) = p := pI_same s1
      have s2' : q.1 15 3 i = 0 := s2
      have eC : v6_withdrawQuote_12 (n1 + 1) p (a + 1) (b + 1) (cn i) = v6_withdrawQuote_12 n1 p (a + 1) (b + 1) (cn (i + 1 : Nat)) ∧ g6_withdrawQuote_12 (n1 + 1) p (a + 1) (b + 1) (cn i) := by
        rw [ev6_withdrawQuote_12, eg6_withdrawQuote_12]
        unfold bv6_withdrawQuote_12 bg6_withdrawQuote_12
        simp only [if_pos l40, cntk (i := i) (by omega), hsp, cnsucc, ite_self]
        exact ⟨trivial, hi40, k1⟩
      have eR : v12_doQuote_130 (n2 + 1) q (cn a) (cn b) v3 v4 v5 (cn i) = v12_doQuote_130 n2 q (cn a) (cn b) v3 v4 v5 (cn (i + 1 : Nat)) ∧ (g12_doQuote_130 n2 q (cn a) (cn b) v3 v4 v5 (cn (i + 1 : Nat)) → g12_doQuote_130 (n2 + 1) q (cn a) (cn b) v3 v4 v5 (cn i)) := by
        rw [ev12_doQuote_130, eg12_doQuote_130]
        unfold bv12_doQuote_130 bg12_doQuote_130
        simp only [if_pos l44, cntk (i := i) (by omega), if_pos s2', hs, cnsucc]
        exact ⟨trivial, fun h => ⟨hi, hi, h⟩⟩
      rw [eC.1, eR.1]
      refine ⟨eC.2, q', k2, k3, fun h => eR.2 (k4 h), fun j j1 j2 l1 => ?_⟩
      rcases up j j1 with e | e
      · exact k5 j e j2 l1
      · have := (mk_kp k2 j j2 l1).1
        rw [e, s2] at this
        exact absurd this (by decide)
    · have s1' : ¬ q.1 15 3 i = 0 := by
        rw [s1]
        exact cn01
      have hs : pI q 15 3 i (cn 1) = q := pI_same s1
      have hk : (p.1 10 (i + 1) 1 = cn 3) = (q.1 13 19 i = cn 4) := by
        rcases hL.2.2.2.1 with ⟨u1, u2⟩ | ⟨u1, u2⟩ | ⟨u1, u2⟩ | ⟨u1, u2⟩ | ⟨u1, u2⟩ <;> rw [u1, u2] <;> decide
      have ho : (p.2.2 10 (i + 1) 3 = a + 1) = (q.1 13 15 i = cn a) := by
        have := hL.1.1
        rw [hL.1.2.1, hL.1.2.2, cneq ⟨by omega, by omega⟩ ⟨by omega, by omega⟩]
        exact propext ⟨fun h => by omega, fun h => by omega⟩
      have hbk : (p.2.2 10 (i + 1) 4 = b + 1) = (q.1 13 16 i = cn b) := by
        have := hL.2.1.1
        rw [hL.2.1.2.1, hL.2.1.2.2, cneq ⟨by omega, by omega⟩ ⟨by omega, by omega⟩]
        exact propext ⟨fun h => by omega, fun h => by omega⟩
      by_cases hall : q.1 13 19 i = cn 4 ∧ q.1 13 15 i = cn a ∧ q.1 13 16 i = cn b
      · obtain ⟨w1, w2, w3⟩ := hall
        have c1 : p.1 10 (i + 1) 1 = cn 3 := by rw [hk]; exact w1
        have c2 : p.2.2 10 (i + 1) 3 = a + 1 := by rw [ho]; exact w2
        have c3 : p.2.2 10 (i + 1) 4 = b + 1 := by rw [hbk]; exact w3
        have M := mk_one (p := p) (q := q) (o := i) (by omega)
        obtain ⟨k1, q', k2, k3, k4, k5⟩ := ih (i + 1) n1 n2 _ _ (by omega) (by omega) (by omega) (or_mk M H)
        have eC : v6_withdrawQuote_12 (n1 + 1) p (a + 1) (b + 1) (cn i) = v6_withdrawQuote_12 n1 (pI p 10 (i + 1) 2 (cn 0)) (a + 1) (b + 1) (cn (i + 1 : Nat)) ∧ g6_withdrawQuote_12 (n1 + 1) p (a + 1) (b + 1) (cn i) := by
          rw [ev6_withdrawQuote_12, eg6_withdrawQuote_12]
          unfold bv6_withdrawQuote_12 bg6_withdrawQuote_12
          simp only [if_pos l40, cntk (i := i) (by omega), if_pos c1, if_pos c2, if_pos c3, cnsucc]
          exact ⟨trivial, hi40, k1⟩
        have eR : v12_doQuote_130 (n2 + 1) q (cn a) (cn b) v3 v4 v5 (cn i) = v12_doQuote_130 n2 (pI q 15 3 i (cn 0)) (cn a) (cn b) v3 v4 v5 (cn (i + 1 : Nat)) ∧ (g12_doQuote_130 n2 (pI q 15 3 i (cn 0)) (cn a) (cn b) v3 v4 v5 (cn (i + 1 : Nat)) → g12_doQuote_130 (n2 + 1) q (cn a) (cn b) v3 v4 v5 (cn i)) := by
          rw [ev12_doQuote_130, eg12_doQuote_130]
          unfold bv12_doQuote_130 bg12_doQuote_130
          simp only [if_pos l44, cntk (i := i) (by omega), if_neg s1', if_pos w1, if_pos w2, if_pos w3, cnsucc]
          exact ⟨trivial, fun h => ⟨hi, hi, hi, hi, hi, h⟩⟩
        rw [eC.1, eR.1]
        refine ⟨eC.2, q', mk_trans M k2, k3, fun h => eR.2 (k4 h), fun j j1 j2 l1 => ?_⟩
        rcases up j j1 with e | e
        · exact k5 j e j2 l1
        · have := (mk_kp k2 j j2 l1).1
          rw [e, pI_at] at this
          exact absurd this (by decide)
      · have eC : v6_withdrawQuote_12 (n1 + 1) p (a + 1) (b + 1) (cn i) = v6_withdrawQuote_12 n1 p (a + 1) (b + 1) (cn (i + 1 : Nat)) ∧ g6_withdrawQuote_12 (n1 + 1) p (a + 1) (b + 1) (cn i) := by
          rw [ev6_withdrawQuote_12, eg6_withdrawQuote_12]
          unfold bv6_withdrawQuote_12 bg6_withdrawQuote_12
          simp only [if_pos l40, cntk (i := i) (by omega), cnsucc, hk, ho, hbk]
          by_cases w1 : q.1 13 19 i = cn 4
          · by_cases w2 : q.1 13 15 i = cn a
            · by_cases w3 : q.1 13 16 i = cn b
              · exact absurd ⟨w1, w2, w3⟩ hall
              · simp only [if_pos w1, if_pos w2, if_neg w3]
                exact ⟨trivial, hi40, k1⟩
            · simp only [if_pos w1, if_neg w2]
              exact ⟨trivial, hi40, k1⟩
          · simp only [if_neg w1]
            exact ⟨trivial, hi40, k1⟩
        have eR : v12_doQuote_130 (n2 + 1) q (cn a) (cn b) v3 v4 v5 (cn i) = v12_doQuote_130 n2 q (cn a) (cn b) v3 v4 v5 (cn (i + 1 : Nat)) ∧ (g12_doQuote_130 n2 q (cn a) (cn b) v3 v4 v5 (cn (i + 1 : Nat)) → g12_doQuote_130 (n2 + 1) q (cn a) (cn b) v3 v4 v5 (cn i)) := by
          rw [ev12_doQuote_130, eg12_doQuote_130]
          unfold bv12_doQuote_130 bg12_doQuote_130
          simp only [if_pos l44, cntk (i := i) (by omega), if_neg s1', hs, cnsucc]
          by_cases w1 : q.1 13 19 i = cn 4
          · by_cases w2 : q.1 13 15 i = cn a
            · by_cases w3 : q.1 13 16 i = cn b
              · exact absurd ⟨w1, w2, w3⟩ hall
              · simp only [if_pos w1, if_pos w2, if_neg w3]
                exact ⟨trivial, fun h => ⟨hi, hi, hi, hi, hi, h⟩⟩
            · simp only [if_pos w1, if_neg w2]
              exact ⟨trivial, fun h => ⟨hi, hi, hi, hi, h⟩⟩
          · simp only [if_neg w1]
            exact ⟨trivial, fun h => ⟨hi, hi, hi, h⟩⟩
        rw [eC.1, eR.1]
        refine ⟨eC.2, q', k2, k3, fun h => eR.2 (k4 h), fun j j1 j2 l1 l2 l3 l4 => ?_⟩
        rcases up j j1 with e | e
        · exact k5 j e j2 l1 l2 l3 l4
        · rw [e] at l2 l3 l4
          rw [k2.2.2.2.1 13 19 (by decide)] at l2
          rw [k2.2.2.2.1 13 15 (by decide)] at l3
          rw [k2.2.2.2.1 13 16 (by decide)] at l4
          exact hall ⟨l2, l3, l4⟩
end Out
/-- what has fallen of an account's quotes is forgotten -/
theorem ww_reset {p q : PM} {lg : Nat → Int32} {a N T D l : Nat} (H : WW p q lg 99 99 (fun _ => False) N T D l (fun _ => 0)) (ha : a < 8) : WW (pI (pI p 0 (a + 1) 6 (cn 0)) 0 (a + 1) 7 (cn 0)) (pI (pI q 13 4 a (cn 0)) 15 1 a (cn 0)) lg 99 99 (fun _ => False) N T D l (fun _ => 0) ∧ RS (pI (pI q 13 4 a (cn 0)) 15 1 a (cn 0)) 40 = RS q 40 := by
  obtain ⟨hO, hA, hB, hD, hK, hI0, hI, hF⟩ := H
  have pk : ∀ K, ¬ K = 0 → (pI (pI p 0 (a + 1) 6 (cn 0)) 0 (a + 1) 7 (cn 0)).1 K = p.1 K := by
    intro K h
    funext i S
    rw [pI_1, u3_k h, pI_1, u3_k h]
  have q13 : ∀ K, ¬ K = 4 → (pI (pI q 13 4 a (cn 0)) 15 1 a (cn 0)).1 13 K = q.1 13 K := by
    intro K h
    funext i
    rw [pI_1, u3_k (by decide), pI_1, u3_i h]
  have q15 : ∀ K, ¬ K = 1 → (pI (pI q 13 4 a (cn 0)) 15 1 a (cn 0)).1 15 K = q.1 15 K := by
    intro K h
    funext i
    rw [pI_1, u3_i h, pI_1, u3_k (by decide)]
  have q12 : (pI (pI q 13 4 a (cn 0)) 15 1 a (cn 0)).1 12 = q.1 12 := by
    funext i S
    rw [pI_1, u3_k (by decide), pI_1, u3_k (by decide)]
  have hRS : RS (pI (pI q 13 4 a (cn 0)) 15 1 a (cn 0)) 40 = RS q 40 := RS_same 40 fun i _ => by
    unfold rs
    rw [q15 3 (by decide), q13 17 (by decide)]
  refine ⟨⟨?_, ?_, ?_, ?_, ?_, ?_, ?_, ?_⟩, hRS⟩
  · exact ord_c (pk 10 (by decide)) rfl (by rw [pk 6 (by decide)]) (by rw [pk 6 (by decide)]) (fun K _ _ => q13 K (by omega)) (fun K _ _ => q15 K (by omega)) (by rw [q12]) (by rw [q12]) hO
  · refine ⟨fun c hc => ?_, fun c hc => ⟨Int.le_refl _, ?_⟩⟩
    · have h := hA.1 c hc
      unfold AcR at h ⊢
      rw [pk 13 (by decide), q13 1 (by decide)]
      exact h
    · have h := (hA.2 c hc).2
      unfold TrF at h ⊢
      obtain ⟨h1, h2, h3, h4, h5⟩ := h
      rw [pk 13 (by decide), q13 2 (by decide), q13 3 (by decide), q13 5 (by decide)]
      have s5 : ∀ i, (pI (pI p 0 (a + 1) 6 (cn 0)) 0 (a + 1) 7 (cn 0)).1 0 i 5 = p.1 0 i 5 := fun i => by rw [pI_1, u3_s (by decide), pI_1, u3_s (by decide)]
      have s8 : ∀ i, (pI (pI p 0 (a + 1) 6 (cn 0)) 0 (a + 1) 7 (cn 0)).1 0 i 8 = p.1 0 i 8 := fun i => by rw [pI_1, u3_s (by decide), pI_1, u3_s (by decide)]
      rw [s5, s8]
      refine ⟨h1, h2, ?_, ?_, h5⟩
      · by_cases e : c = a
        · rw [e]
          refine ⟨0, Int.le_refl _, (by decide : (0 : Int) + 0 ≤ 1000000000), ?_, ?_⟩
          · rw [pI_1, u3_s (by decide), pI_at]
          · rw [pI_1, u3_k (by decide), pI_1, u3_same]
            rfl
        · rw [pI_1, u3_i (by omega), pI_1, u3_i (by omega), pI_1, u3_k (by decide), pI_1, u3_s e]
          exact h3
      · by_cases e : c = a
        · rw [e, pI_at, pI_at]
          exact ⟨rfl, b0⟩
        · rw [pI_1, u3_i (by omega), pI_1, u3_i (by omega), pI_1, u3_s e, pI_1, u3_k (by decide)]
          exact h4
  · exact brl_c (pk 1 (by decide)) (fun i k1 k2 => q13 i (by omega)) (q15 2 (by decide)) hB
  · exact dr_c (pk 4 (by decide)) (pk 7 (by decide)) rfl (fun i k1 k2 => q13 i (by omega)) (q15 7 (by decide)) (q15 8 (by decide)) (by rw [q12]) hD
  · obtain ⟨j1, j2⟩ := hK
    refine ⟨fun c hc => ?_, fun c hc => ?_⟩
    · rw [pI_1, u3_s (by decide), pI_1, u3_s (by decide), u3_s (by decide), u3_s (by decide)]
      exact j1 c hc
    · rw [pk 1 (by decide)]
      exact j2 c hc
  · exact ot_c (pk 9 (by decide)) (fun i _ => by rw [pk 13 (by decide)]) (pk 2 (by decide)) (by rw [pk 6 (by decide)]) (by rw [pk 6 (by decide)]) (fun i k1 k2 => q13 i (by omega)) (q15 9 (by decide)) (q15 10 (by decide)) (fun i _ => by rw [q12]) hI0 (pd_c (q13 1 (by decide)) (by rw [q12]) rfl hI0)
  · exact iq_c (fun K _ _ => q13 K (by omega)) (fun K _ _ => q15 K (by omega)) (q13 12 (by decide)) (q13 30 (by decide)) (by rw [q12]) hI
  · refine ⟨fun c hc => ?_, ?_⟩
    rotate_left
    · obtain ⟨zb, L, b1, b2, b3, b4, b5⟩ := hF.2
      refine ⟨zb, L, ?_, by rw [q12]; exact b2, b3, by rw [hRS]; exact b4, b5⟩
      rw [pI_1, u3_k (by decide), pI_1, u3_s (by omega)]
      exact b1
    obtain ⟨zz, z1, z2, z3⟩ := hF.1 c hc
    rw [hRS]
    by_cases e : c = a
    · rw [e]
      refine ⟨0, ?_, Int.le_refl _, by omega⟩
      rw [pI_1, u3_k (by decide), pI_1, u3_same]
    · refine ⟨zz, ?_, z2, z3⟩
      rw [pI_1, u3_k (by decide), pI_1, u3_s e]
      exact z1
