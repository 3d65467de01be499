/-! what an order could trade at once -/
theorem near_c {q q' : PM} (h : ∀ K, (K < 14 ∨ 28 < K) → q'.1 13 K = q.1 13 K) (B v : Int32) : v12_isNear q' B v = v12_isNear q B v := by
  unfold v12_isNear bv12_isNear
  rw [h 9 (by omega), h 11 (by omega)]
  rfl
theorem g_near {q : PM} {b : Nat} (hb : b < 6) (v : Int32) : g12_isNear q (cn b) v := by
  have hi := cninb (i := b) (n := 6) hb (by omega)
  have ga : ∀ v, g12_abs q v := g_absQ q
  unfold g12_isNear bg12_isNear
  repeat' first
    | with_reducible exact hi
    | with_reducible exact ga _
    | exact trivial
    | exact not_false
    | apply And.intro
    | (split <;> rename_i h9 <;> first | simp only [if_neg h9, if_true, if_false] | simp only [if_pos h9, if_true, if_false] | skip)
theorem there_c {q q' : PM} {i : Nat} (hi : i ≤ 2147483647) (h1 : q'.1 15 3 i = q.1 15 3 i) (h2 : q'.1 13 24 i = q.1 13 24 i) (h3 : q'.1 13 16 i = q.1 13 16 i) (h4 : q'.1 15 4 i = q.1 15 4 i) (B t : Int32) : v12_isThere q' (cn i) B t = v12_isThere q (cn i) B t := by
  rw [there_e q' i hi, there_e q i hi, h1, h2, h3, h4]
theorem reach_step {P : PM} {x a b i : Nat} {t t' : Int32} (hi40 : i < 40) (c5 : P.1 10 (x + 1) 5 = t) (b4 : P.2.2 10 (x + 1) 4 = b + 1) (o3 : P.2.2 10 (x + 1) 3 = a + 1) (htt : (t = 0 ∧ t' = cn 1) ∨ (¬ t = 0 ∧ t' = cn 0)) (kv : Nat → Int64 → Int32 → Int64) (kg : Nat → Int64 → Int32 → Prop) (S : Int64) (gal : ∀ v, g10_allows P (x + 1) v) (gbb : ∀ v, g1_isBeyondBand P (b + 1) v) (how : ¬ v10_standsIn P (i + 1) (b + 1) t' = 0 → ¬ P.2.2 10 (i + 1) 3 = 0) : bv8_reachable_19 P v1_isBeyondBand v10_standsIn v10_allows kv (x + 1) S (cn i) = (if v10_standsIn P (i + 1) (b + 1) t' = 0 then kv (x + 1) S (cn (i + 1 : Nat)) else if P.1 0 (P.2.2 10 (i + 1) 3) 1 = P.1 0 (a + 1) 1 then kv (x + 1) S (cn (i + 1 : Nat)) else if v10_allows P (x + 1) (P.1 10 (i + 1) 7) = 0 then kv (x + 1) S (cn (i + 1 : Nat)) else if v1_isBeyondBand P (b + 1) (P.1 10 (i + 1) 7) = 0 then kv (x + 1) (S + (P.1 10 (i + 1) 9).toInt64) (cn (i + 1 : Nat)) else kv (x + 1) S (cn (i + 1 : Nat))) ∧ ((if v10_standsIn P (i + 1) (b + 1) t' = 0 then kg (x + 1) S (cn (i + 1 : Nat)) else if P.1 0 (P.2.2 10 (i + 1) 3) 1 = P.1 0 (a + 1) 1 then kg (x + 1) S (cn (i + 1 : Nat)) else if v10_allows P (x + 1) (P.1 10 (i + 1) 7) = 0 then kg (x + 1) S (cn (i + 1 : Nat)) else if v1_isBeyondBand P (b + 1) (P.1 10 (i + 1) 7) = 0 then kg (x + 1) (S + (P.1 10 (i + 1) 9).toInt64) (cn (i + 1 : Nat)) else kg (x + 1) S (cn (i + 1 : Nat))) → bg8_reachable_19 P v1_isBeyondBand g1_isBeyondBand v10_standsIn g10_standsIn v10_allows g10_allows kg (x + 1) S (cn i)) := by
  have hzx : ¬ x + 1 = 0 := by omega
  have hzb : ¬ b + 1 = 0 := by omega
  have hza : ¬ a + 1 = 0 := by omega
  have hi := cninb (i := i) (n := 40) (by omega) (by omega)
  have l40 : cn (i : Int) < cn 40 := lpt (by omega) (by omega)
  have gs0 := g_stands P i (b + 1) t'
  unfold bv8_reachable_19 bg8_reachable_19
  rcases htt with ⟨u1, u2⟩ | ⟨u1, u2⟩
  · rw [u2] at gs0 how ⊢
    simp only [if_pos l40, cntk (i := i) (by omega), c5, b4, o3, if_pos u1, cnsucc]
    refine ⟨trivial, fun h => ⟨hi, hzx, hzx, gs0, ?_⟩⟩
    by_cases e1 : v10_standsIn P (i + 1) (b + 1) (cn 1) = 0
    · rw [if_pos e1] at h ⊢
      exact h
    · rw [if_neg e1] at h ⊢
      refine ⟨how e1, hzx, hza, ?_⟩
      by_cases e2 : P.1 0 (P.2.2 10 (i + 1) 3) 1 = P.1 0 (a + 1) 1
      · rw [if_pos e2] at h ⊢
        exact h
      · rw [if_neg e2] at h ⊢
        refine ⟨hzx, gal _, ?_⟩
        by_cases e3 : v10_allows P (x + 1) (P.1 10 (i + 1) 7) = 0
        · rw [if_pos e3] at h ⊢
          exact h
        · rw [if_neg e3] at h ⊢
          exact ⟨hzx, hzb, gbb _, h⟩
  · rw [u2] at gs0 how ⊢
    simp only [if_pos l40, cntk (i := i) (by omega), c5, b4, o3, if_neg u1, cnsucc]
    refine ⟨trivial, fun h => ⟨hi, hzx, hzx, gs0, ?_⟩⟩
    by_cases e1 : v10_standsIn P (i + 1) (b + 1) (cn 0) = 0
    · rw [if_pos e1] at h ⊢
      exact h
    · rw [if_neg e1] at h ⊢
      refine ⟨how e1, hzx, hza, ?_⟩
      by_cases e2 : P.1 0 (P.2.2 10 (i + 1) 3) 1 = P.1 0 (a + 1) 1
      · rw [if_pos e2] at h ⊢
        exact h
      · rw [if_neg e2] at h ⊢
        refine ⟨hzx, gal _, ?_⟩
        by_cases e3 : v10_allows P (x + 1) (P.1 10 (i + 1) 7) = 0
        · rw [if_pos e3] at h ⊢
          exact h
        · rw [if_neg e3] at h ⊢
          exact ⟨hzx, hzb, gbb _, h⟩
theorem enough_step {q : PM} {a b i : Nat} {z t t' v5 acc : Int32} (hi44 : i < 44) (hb : b < 6) (htt : (t = 0 ∧ t' = cn 1) ∨ (¬ t = 0 ∧ t' = cn 0)) (kv : Int32 → Int32 → Int32 → Int32 → Int32 → Int32 → Int32 → Int32) (kg : Int32 → Int32 → Int32 → Int32 → Int32 → Int32 → Int32 → Prop) : bv12_isEnough_6 q v12_isNear v12_isThere v12_isBetter kv (cn a) (cn b) z t v5 acc (cn i) = (if v12_isThere q (cn i) (cn b) t' = 0 then kv (cn a) (cn b) z t v5 acc (cn (i + 1 : Nat)) else if q.1 15 5 i = 0 then (if q.1 13 15 i / cn 2 = cn a / cn 2 then kv (cn a) (cn b) z t v5 acc (cn (i + 1 : Nat)) else if v12_isBetter q (q.1 13 25 i) z t = 0 then (if v12_isNear q (cn b) (q.1 13 25 i) = 0 then kv (cn a) (cn b) z t v5 acc (cn (i + 1 : Nat)) else kv (cn a) (cn b) z t v5 (acc + q.1 13 17 i) (cn (i + 1 : Nat))) else kv (cn a) (cn b) z t v5 acc (cn (i + 1 : Nat))) else kv (cn a) (cn b) z t v5 acc (cn (i + 1 : Nat))) ∧ ((if v12_isThere q (cn i) (cn b) t' = 0 then kg (cn a) (cn b) z t v5 acc (cn (i + 1 : Nat)) else if q.1 15 5 i = 0 then (if q.1 13 15 i / cn 2 = cn a / cn 2 then kg (cn a) (cn b) z t v5 acc (cn (i + 1 : Nat)) else if v12_isBetter q (q.1 13 25 i) z t = 0 then (if v12_isNear q (cn b) (q.1 13 25 i) = 0 then kg (cn a) (cn b) z t v5 acc (cn (i + 1 : Nat)) else kg (cn a) (cn b) z t v5 (acc + q.1 13 17 i) (cn (i + 1 : Nat))) else kg (cn a) (cn b) z t v5 acc (cn (i + 1 : Nat))) else kg (cn a) (cn b) z t v5 acc (cn (i + 1 : Nat))) → bg12_isEnough_6 q v12_isNear g12_isNear v12_isThere g12_isThere v12_isBetter g12_isBetter kg (cn a) (cn b) z t v5 acc (cn i)) := by
  have hi := cninb (i := i) (n := 44) (by omega) (by omega)
  have l44 : cn (i : Int) < cn 44 := lpt (by omega) (by omega)
  have gt := g_there (q := q) hi44 (cn b) t'
  have gn := g_near (q := q) hb (q.1 13 25 i)
  have gb := g_better q (q.1 13 25 i) z t
  unfold bv12_isEnough_6 bg12_isEnough_6
  rcases htt with ⟨u1, u2⟩ | ⟨u1, u2⟩
  · rw [u2] at gt ⊢
    simp only [if_pos l44, cntk (i := i) (by omega), if_pos u1, cnsucc, addz]
    refine ⟨trivial, fun h => ⟨gt, ?_⟩⟩
    by_cases e1 : v12_isThere q (cn i) (cn b) (cn 1) = 0
    · rw [if_pos e1] at h ⊢
      exact h
    · rw [if_neg e1] at h ⊢
      refine ⟨hi, ?_⟩
      by_cases e2 : q.1 15 5 i = 0
      · rw [if_pos e2] at h ⊢
        refine ⟨hi, ?_⟩
        by_cases e3 : q.1 13 15 i / cn 2 = cn a / cn 2
        · rw [if_pos e3] at h ⊢
          exact h
        · rw [if_neg e3] at h ⊢
          refine ⟨hi, gb, ?_⟩
          by_cases e4 : v12_isBetter q (q.1 13 25 i) z t = 0
          · rw [if_pos e4] at h ⊢
            refine ⟨hi, gn, ?_⟩
            by_cases e5 : v12_isNear q (cn b) (q.1 13 25 i) = 0
            · rw [if_pos e5] at h ⊢
              exact h
            · rw [if_neg e5] at h ⊢
              exact ⟨hi, h⟩
          · rw [if_neg e4] at h ⊢
            exact h
      · rw [if_neg e2] at h ⊢
        exact h
  · rw [u2] at gt ⊢
    simp only [if_pos l44, cntk (i := i) (by omega), if_neg u1, cnsucc, addz]
    refine ⟨trivial, fun h => ⟨gt, ?_⟩⟩
    by_cases e1 : v12_isThere q (cn i) (cn b) (cn 0) = 0
    · rw [if_pos e1] at h ⊢
      exact h
    · rw [if_neg e1] at h ⊢
      refine ⟨hi, ?_⟩
      by_cases e2 : q.1 15 5 i = 0
      · rw [if_pos e2] at h ⊢
        refine ⟨hi, ?_⟩
        by_cases e3 : q.1 13 15 i / cn 2 = cn a / cn 2
        · rw [if_pos e3] at h ⊢
          exact h
        · rw [if_neg e3] at h ⊢
          refine ⟨hi, gb, ?_⟩
          by_cases e4 : v12_isBetter q (q.1 13 25 i) z t = 0
          · rw [if_pos e4] at h ⊢
            refine ⟨hi, gn, ?_⟩
            by_cases e5 : v12_isNear q (cn b) (q.1 13 25 i) = 0
            · rw [if_pos e5] at h ⊢
              exact h
            · rw [if_neg e5] at h ⊢
              exact ⟨hi, h⟩
          · rw [if_neg e4] at h ⊢
            exact h
      · rw [if_neg e2] at h ⊢
        exact h
section Least
variable {p q P Q : PM} {lg : Nat → Int32} {x a b N T D l : Nat} {r s z m : Int} {t t' : Int32}
theorem enough_tail (hd : ∀ i, 40 ≤ i → i < 44 → q.1 15 3 i = cn 0) {v1 v2 v3 v4 v5 : Int32} : ∀ (d i n : Nat) (acc : Int32), i + d = 44 → 40 ≤ i → d < n → g12_isEnough_6 q n v1 v2 v3 v4 v5 acc (cn i) ∧ v12_isEnough_6 q n v1 v2 v3 v4 v5 acc (cn i) = if acc < v5 then cn 0 else cn 1 := by
  intro d
  induction d with
  | zero =>
    intro i n acc h1 h0 h2
    obtain ⟨m, rfl⟩ : ∃ m, n = m + 1 := ⟨n - 1, by omega⟩
    rw [ev12_isEnough_6, eg12_isEnough_6]
    unfold bv12_isEnough_6 bg12_isEnough_6
    simp only [if_neg (lpf (i := i) (N := 44) (by omega) (by omega) (by omega)), ite_self]
    exact ⟨trivial, trivial⟩
  | succ d ih =>
    intro i n acc h1 h0 h2
    obtain ⟨m, rfl⟩ : ∃ m, n = m + 1 := ⟨n - 1, by omega⟩
    have k : ∀ t, v12_isThere q (cn i) v2 t = 0 := fun t => there_dead (by omega) (hd i h0 (by omega))
    have gt : ∀ t, g12_isThere q (cn i) v2 t := fun t => g_there (by omega) _ _
    obtain ⟨k1, k2⟩ := ih (i + 1) m acc (by omega) (by omega) (by omega)
    rw [ev12_isEnough_6, eg12_isEnough_6]
    unfold bv12_isEnough_6 bg12_isEnough_6
    simp only [if_pos (lpt (i := i) (N := 44) (by omega) (by omega)), k, if_true, addz, cnsucc, ite_self]
    refine ⟨?_, k2⟩
    split
    · exact ⟨gt _, k1⟩
    · exact ⟨gt _, k1⟩
theorem least_loop (W : WW P Q lg x 99 (fun _ => False) N T D l (fun _ => 0)) (hx : x < 40) (hb : b < 6) (hL : LV P Q x 99 x a b r s z) (hany : Q.1 15 5 x = cn 0) (hz : PrB b z) (h18 : Q.1 13 18 x = cn z) (ht : Q.1 15 4 x = t) (htt : (t = 0 ∧ t' = cn 1) ∨ (¬ t = 0 ∧ t' = cn 0)) (h24 : Q.1 13 24 x = cn 2) (ho : ¬ v12_isOpen Q (cn b) = 0) (hd : q.1 15 3 x = 0) (hd40 : ∀ i, 40 ≤ i → i < 44 → q.1 15 3 i = cn 0)
    (q1 : ∀ K, (K < 14 ∨ 28 < K) → Q.1 13 K = q.1 13 K) (q1x : ∀ K i, ¬ i = x → Q.1 13 K i = q.1 13 K i) (q2x : ∀ K i, ¬ i = x → Q.1 15 K i = q.1 15 K i) (hm : 0 ≤ m) (hm2 : m ≤ 50) : ∀ (d i n n' : Nat) (S : Int), i + d = 40 → d < n → d + 4 < n' → 0 ≤ S → S ≤ 50 * i → (g8_reachable_19 P n (x + 1) (cl S) (cn i) ∧ g12_isEnough_6 q n' (cn a) (cn b) (cn z) t (cn m) (cn S) (cn i)) ∧ ∃ S' : Int, 0 ≤ S' ∧ S' ≤ 2000 ∧ v8_reachable_19 P n (x + 1) (cl S) (cn i) = cl S' ∧ v12_isEnough_6 q n' (cn a) (cn b) (cn z) t (cn m) (cn S) (cn i) = if S' < m then cn 0 else cn 1 := by
  have hzx : ¬ x + 1 = 0 := by omega
  have hzb : ¬ b + 1 = 0 := by omega
  have hza : ¬ a + 1 = 0 := by omega
  have ha := hL.1.1
  have o3 := hL.1.2.2
  have b4 := hL.2.1.2.2
  have c5 : P.1 10 (x + 1) 5 = t := by rw [hL.2.2.2.2.1.1]; exact ht
  have hai0 : ∀ i, i < 40 → ¬ v10_standsIn P (i + 1) (b + 1) t' = 0 → ¬ P.2.2 10 (i + 1) 3 = 0 := by
    intro i hi h
    rcases W.1.1.1 i hi with ⟨k, -⟩ | ⟨-, ai, bi, ri, si, zi, hLi⟩
    · rw [stands_e, k, if_neg (fun h => absurd h.1 (by decide))] at h
      exact absurd rfl h
    · rw [hLi.1.2.2]
      omega
  have gal : ∀ v, g10_allows P (x + 1) v := fun v => g_allows P x v
  have gbb : ∀ v, g1_isBeyondBand P (b + 1) v := fun v => (band_eq hb W.2.2.1 v).1.1
  intro d
  induction d with
  | zero =>
    intro i n n' S h1 h2 h3 s0 s1
    obtain ⟨m1, rfl⟩ : ∃ m, n = m + 1 := ⟨n - 1, by omega⟩
    have e : i = 40 := by omega
    subst e
    obtain ⟨k1, k2⟩ := enough_tail (q := q) hd40 (v1 := cn a) (v2 := cn b) (v3 := cn z) (v4 := t) (v5 := cn m) 4 40 n' (cn S) rfl (by omega) (by omega)
    rw [ev8_reachable_19, eg8_reachable_19]
    unfold bv8_reachable_19 bg8_reachable_19
    rw [if_neg (lpf (i := 40) (N := 40) (by omega) (by omega) (by omega)), if_neg (lpf (i := 40) (N := 40) (by omega) (by omega) (by omega))]
    refine ⟨⟨trivial, k1⟩, S, s0, by omega, rfl, ?_⟩
    rw [k2]
    simp only [cnlt (a := S) (b := m) ⟨by omega, by omega⟩ ⟨by omega, by omega⟩]
  | succ d ih =>
    intro i n n' S h1 h2 h3 s0 s1
    obtain ⟨n1, rfl⟩ : ∃ m, n = m + 1 := ⟨n - 1, by omega⟩
    obtain ⟨n2, rfl⟩ : ∃ m, n' = m + 1 := ⟨n' - 1, by omega⟩
    obtain ⟨⟨k1, k2⟩, k3⟩ := ih (i + 1) n1 n2 S (by omega) (by omega) (by omega) s0 (by omega)
    obtain ⟨u1, u2⟩ := reach_step (P := P) (i := i) (by omega) c5 b4 o3 htt (v8_reachable_19 P n1) (g8_reachable_19 P n1) (cl S) gal gbb (hai0 i (by omega))
    obtain ⟨u3, u4⟩ := enough_step (q := q) (a := a) (z := cn z) (v5 := cn m) (acc := cn S) (by omega : i < 44) hb htt (v12_isEnough_6 q n2) (g12_isEnough_6 q n2)
    rw [← ev8_reachable_19] at u1
    rw [← eg8_reachable_19] at u2
    rw [← ev12_isEnough_6] at u3
    rw [← eg12_isEnough_6] at u4
    rw [u1, u3]
    suffices hh : ((if v10_standsIn P (i + 1) (b + 1) t' = 0 then g8_reachable_19 P n1 (x + 1) (cl S) (cn (i + 1 : Nat)) else if P.1 0 (P.2.2 10 (i + 1) 3) 1 = P.1 0 (a + 1) 1 then g8_reachable_19 P n1 (x + 1) (cl S) (cn (i + 1 : Nat)) else if v10_allows P (x + 1) (P.1 10 (i + 1) 7) = 0 then g8_reachable_19 P n1 (x + 1) (cl S) (cn (i + 1 : Nat)) else if v1_isBeyondBand P (b + 1) (P.1 10 (i + 1) 7) = 0 then g8_reachable_19 P n1 (x + 1) (cl S + (P.1 10 (i + 1) 9).toInt64) (cn (i + 1 : Nat)) else g8_reachable_19 P n1 (x + 1) (cl S) (cn (i + 1 : Nat))) ∧ (if v12_isThere q (cn i) (cn b) t' = 0 then g12_isEnough_6 q n2 (cn a) (cn b) (cn z) t (cn m) (cn S) (cn (i + 1 : Nat)) else if q.1 15 5 i = 0 then (if q.1 13 15 i / cn 2 = cn a / cn 2 then g12_isEnough_6 q n2 (cn a) (cn b) (cn z) t (cn m) (cn S) (cn (i + 1 : Nat)) else if v12_isBetter q (q.1 13 25 i) (cn z) t = 0 then (if v12_isNear q (cn b) (q.1 13 25 i) = 0 then g12_isEnough_6 q n2 (cn a) (cn b) (cn z) t (cn m) (cn S) (cn (i + 1 : Nat)) else g12_isEnough_6 q n2 (cn a) (cn b) (cn z) t (cn m) (cn S + q.1 13 17 i) (cn (i + 1 : Nat))) else g12_isEnough_6 q n2 (cn a) (cn b) (cn z) t (cn m) (cn S) (cn (i + 1 : Nat))) else g12_isEnough_6 q n2 (cn a) (cn b) (cn z) t (cn m) (cn S) (cn (i + 1 : Nat)))) ∧ ∃ S' : Int, 0 ≤ S' ∧ S' ≤ 2000 ∧ (if v10_standsIn P (i + 1) (b + 1) t' = 0 then v8_reachable_19 P n1 (x + 1) (cl S) (cn (i + 1 : Nat)) else if P.1 0 (P.2.2 10 (i + 1) 3) 1 = P.1 0 (a + 1) 1 then v8_reachable_19 P n1 (x + 1) (cl S) (cn (i + 1 : Nat)) else if v10_allows P (x + 1) (P.1 10 (i + 1) 7) = 0 then v8_reachable_19 P n1 (x + 1) (cl S) (cn (i + 1 : Nat)) else if v1_isBeyondBand P (b + 1) (P.1 10 (i + 1) 7) = 0 then v8_reachable_19 P n1 (x + 1) (cl S + (P.1 10 (i + 1) 9).toInt64) (cn (i + 1 : Nat)) else v8_reachable_19 P n1 (x + 1) (cl S) (cn (i + 1 : Nat))) = cl S' ∧ (if v12_isThere q (cn i) (cn b) t' = 0 then v12_isEnough_6 q n2 (cn a) (cn b) (cn z) t (cn m) (cn S) (cn (i + 1 : Nat)) else if q.1 15 5 i = 0 then (if q.1 13 15 i / cn 2 = cn a / cn 2 then v12_isEnough_6 q n2 (cn a) (cn b) (cn z) t (cn m) (cn S) (cn (i + 1 : Nat)) else if v12_isBetter q (q.1 13 25 i) (cn z) t = 0 then (if v12_isNear q (cn b) (q.1 13 25 i) = 0 then v12_isEnough_6 q n2 (cn a) (cn b) (cn z) t (cn m) (cn S) (cn (i + 1 : Nat)) else v12_isEnough_6 q n2 (cn a) (cn b) (cn z) t (cn m) (cn S + q.1 13 17 i) (cn (i + 1 : Nat))) else v12_isEnough_6 q n2 (cn a) (cn b) (cn z) t (cn m) (cn S) (cn (i + 1 : Nat))) else v12_isEnough_6 q n2 (cn a) (cn b) (cn z) t (cn m) (cn S) (cn (i + 1 : Nat))) = if S' < m then cn 0 else cn 1 from ⟨⟨u2 hh.1.1, u4 hh.1.2⟩, hh.2⟩
    have hst := stands_eq (t := t') hb (by omega : i < 40) (W.1.1.1 i (by omega))
    by_cases ei : i = x
    · have e1 : v10_standsIn P (i + 1) (b + 1) t' = 0 := by
        rw [hst, there_e Q i (by omega), ei, h24]
        split
        · rfl
        · rw [if_neg (fun h => absurd h.1 (by decide))]
          rfl
      have e2 : v12_isThere q (cn i) (cn b) t' = 0 := by
        rw [ei]
        exact there_dead (by omega) hd
      rw [if_pos e1, if_pos e2, if_pos e1, if_pos e2]
      exact ⟨⟨k1, k2⟩, k3⟩
    have htc := there_c (q := q) (q' := Q) (i := i) (by omega) (q2x 3 i ei) (q1x 24 i ei) (q1x 16 i ei) (q2x 4 i ei) (cn b) t'
    by_cases e0 : v12_isThere q (cn i) (cn b) t' = 0
    · have e1 : v10_standsIn P (i + 1) (b + 1) t' = 0 := by
        rw [hst, htc]
        exact e0
      rw [if_pos e1, if_pos e0, if_pos e1, if_pos e0]
      exact ⟨⟨k1, k2⟩, k3⟩
    have e1 : ¬ v10_standsIn P (i + 1) (b + 1) t' = 0 := by
      rw [hst, htc]
      exact e0
    have e0Q : ¬ v12_isThere Q (cn i) (cn b) t' = 0 := by
      rw [htc]
      exact e0
    have hsd : stnd Q i := by
      rcases there_bk (by omega) e0Q with h | h
      · exact h
      · exact absurd (or_b W.1.1 i (by omega)) h
    have hbkq := there_book (by omega) e0Q
    obtain ⟨ai, ri, si, zi, hLi⟩ := lv_slot W (by omega) hsd.1 hb hbkq
    have hai := hLi.1.1
    have hopn : Q.1 13 12 b = cn (-100000) := by
      rw [open_e Q (by omega)] at ho
      by_cases h : Q.1 13 12 b = cn (-100000)
      · exact h
      · rw [if_neg h] at ho
        exact absurd rfl ho
    obtain ⟨w, hw7, hwp, hw25, hany0⟩ : ∃ w : Int, P.1 10 (i + 1) 7 = cn w ∧ PrB b w ∧ Q.1 13 25 i = cn w ∧ Q.1 15 5 i = cn 0 := by
      rcases hLi.2.2.2.2.2.2.2.2.2.2.2.2 with hs | hs | hs
      · exact absurd hs.1 ei
      · obtain ⟨-, -, -, w, g1, g2, -⟩ := hs
        rcases g2 with ⟨g2, -⟩ | ⟨g2, g3, g4, -⟩
        · obtain ⟨b', j1, j2, j3⟩ := W.2.2.2.2.2.2.1.1 i (by omega) hsd g2
          rw [hbkq, cneq ⟨by omega, by omega⟩ ⟨by omega, by omega⟩] at j2
          have : b' = b := by omega
          rw [this] at j3
          exact absurd hopn j3
        · exact ⟨w, g1, g3, g4, g2⟩
      · have := hsd.2
        rw [hs.2.2.1] at this
        exact absurd this (by decide)
    have w1 := hwp.1
    have w2 := hwp.2.1
    have hri := hLi.2.2.2.2.2.2.2.1
    have m1 := (W.2.2.2.2.1.1 ai (by omega)).2
    have m2 := (W.2.2.2.2.1.1 a (by omega)).2
    have q5 : q.1 15 5 i = 0 := by
      rw [← q2x 5 i ei]
      exact hany0
    have q25 : q.1 13 25 i = cn w := by rw [← q1x 25 i ei]; exact hw25
    have q17 : q.1 13 17 i = cn ri := by rw [← q1x 17 i ei]; exact hri.2.2.2
    have hown : (P.1 0 (ai + 1) 1 = P.1 0 (a + 1) 1) = (q.1 13 15 i / cn 2 = cn a / cn 2) := by
      rw [m1, m2, ← q1x 15 i ei, hLi.1.2.1, half (by omega), half (by omega)]
    have hal := allows_x (cn w) hL
    rw [h18, ht, hany] at hal
    have hal' : (v10_allows P (x + 1) (cn w) = 0) = ¬ v12_isBetter q (cn w) (cn z) t = 0 := by
      rw [hal]
      exact propext ⟨fun h => h.2, fun h => ⟨rfl, h⟩⟩
    obtain ⟨-, ebb⟩ := band_eq hb W.2.2.1 (cn w)
    rw [near_c q1] at ebb
    have eS : cl S + (cn ri).toInt64 = cl (S + ri) := by rw [cn64 ⟨by omega, by omega⟩, cladd]
    obtain ⟨⟨j1, j2⟩, j3⟩ := ih (i + 1) n1 n2 (S + ri) (by omega) (by omega) (by omega) (by omega) (by omega)
    rw [if_neg e1, if_neg e0, if_neg e1, if_neg e0, if_pos q5, if_pos q5, hLi.1.2.2, hw7, q25, q17, hri.2.2.1, eS, cnadd]
    by_cases ow : q.1 13 15 i / cn 2 = cn a / cn 2
    · have ow' : P.1 0 (ai + 1) 1 = P.1 0 (a + 1) 1 := by
        rw [hown]
        exact ow
      rw [if_pos ow, if_pos ow, if_pos ow', if_pos ow']
      exact ⟨⟨k1, k2⟩, k3⟩
    have ow' : ¬ P.1 0 (ai + 1) 1 = P.1 0 (a + 1) 1 := by
      rw [hown]
      exact ow
    rw [if_neg ow, if_neg ow, if_neg ow', if_neg ow']
    by_cases al : v12_isBetter q (cn w) (cn z) t = 0
    · have al' : ¬ v10_allows P (x + 1) (cn w) = 0 := by
        rw [hal']
        exact fun h => h al
      rw [if_pos al, if_pos al, if_neg al', if_neg al']
      by_cases nr : v12_isNear q (cn b) (cn w) = 0
      · have nr' : ¬ v1_isBeyondBand P (b + 1) (cn w) = 0 := by
          rw [ebb]
          exact fun h => h nr
        rw [if_pos nr, if_pos nr, if_neg nr', if_neg nr']
        exact ⟨⟨k1, k2⟩, k3⟩
      · have nr' : v1_isBeyondBand P (b + 1) (cn w) = 0 := by
          rw [ebb]
          exact nr
        rw [if_neg nr, if_neg nr, if_pos nr', if_pos nr']
        exact ⟨⟨j1, j2⟩, j3⟩
    · have al' : v10_allows P (x + 1) (cn w) = 0 := by
        rw [hal']
        exact al
      rw [if_neg al, if_neg al, if_pos al', if_pos al']
      exact ⟨⟨k1, k2⟩, k3⟩
end Least
