/-! a trade is written down, on both sides -/
/-- what a trade leaves of the class's memory, and of the reference's -/
def DlC (p p' : PM) : Prop := (∀ k, ¬ k = 13 → ¬ k = 4 → ¬ k = 7 → ¬ k = 1 → p'.1 k = p.1 k) ∧ (∀ i, 19 ≤ i → p'.1 13 i = p.1 13 i) ∧ (∀ i S, ¬ S = 3 → p'.1 1 i S = p.1 1 i S) ∧ ∀ k, ¬ k = 4 → p'.2.2 k = p.2.2 k
def DlQ (q q' : PM) : Prop := (∀ K, ¬ K = 1 → ¬ K = 10 → (K < 30 ∨ 34 < K) → q'.1 13 K = q.1 13 K) ∧ (∀ K, K < 7 → q'.1 15 K = q.1 15 K) ∧ (∀ S, ¬ S = 48 → q'.1 12 1 S = q.1 12 1 S) ∧ ∀ K, 9 ≤ K → q'.1 15 K = q.1 15 K
theorem g_fill (p : PM) (k b a c : Nat) (z n : Int32) : g4_fill p (k + 1) b a c z n := by
  have h : ¬ k + 1 = 0 := by omega
  unfold g4_fill bg4_fill
  repeat' first
    | with_reducible exact h
    | exact trivial
    | exact not_false
    | apply And.intro
    | (split <;> rename_i h9 <;> first | simp only [if_neg h9, if_true, if_false] | simp only [if_pos h9, if_true, if_false] | skip)
theorem bm_abs (z : Int) : max (z.bmod 4294967296) (-(z.bmod 4294967296)) ≤ max z (-z) := by
  rw [Int.bmod_def]
  split <;> omega
theorem i32_add_abs (x y : Int32) : max (x + y).toInt (-(x + y).toInt) ≤ max x.toInt (-x.toInt) + max y.toInt (-y.toInt) := by
  rw [Int32.toInt_add]
  have h := bm_abs (x.toInt + y.toInt)
  have e : (2 : Nat) ^ 32 = 4294967296 := by decide
  rw [e]
  omega
theorem i32_sub_abs (x y : Int32) : max (x - y).toInt (-(x - y).toInt) ≤ max x.toInt (-x.toInt) + max y.toInt (-y.toInt) := by
  rw [Int32.toInt_sub]
  have h := bm_abs (x.toInt - y.toInt)
  have e : (2 : Nat) ^ 32 = 4294967296 := by decide
  rw [e]
  omega
theorem psF_upd {f g : Nat → Int32} {a c : Nat} {d : Int} (hd : 0 ≤ d) (h1 : ∀ m, ¬ m = a → g (4 * m + c) = f (4 * m + c)) (h2 : max (g (4 * a + c)).toInt (-(g (4 * a + c)).toInt) ≤ max (f (4 * a + c)).toInt (-(f (4 * a + c)).toInt) + d) : ∀ n, psF g c n ≤ psF f c n + (if a < n then d else 0)
  | 0 => by
    show (0 : Int) ≤ 0 + _
    split <;> omega
  | n + 1 => by
    have ih := psF_upd hd h1 h2 n
    show psF g c n + _ ≤ psF f c n + _ + _
    by_cases e : n = a
    · subst e
      rw [if_neg (by omega)] at ih
      rw [if_pos (by omega)]
      omega
    · rw [h1 n e]
      by_cases e2 : a < n
      · rw [if_pos e2] at ih
        rw [if_pos (by omega)]
        omega
      · rw [if_neg e2] at ih
        rw [if_neg (by omega)]
        omega
theorem s3F_upd {f g : Nat → Int32} {a : Nat} {v : Int32} (h1 : ∀ m, ¬ m = a → g (4 * m + 3) = f (4 * m + 3)) (h2 : g (4 * a + 3) = f (4 * a + 3) + v) : ∀ n, s3F g n = if a < n then s3F f n + v else s3F f n
  | 0 => rfl
  | n + 1 => by
    have ih := s3F_upd h1 h2 n
    show s3F g n + _ = if a < n + 1 then s3F f n + _ + v else s3F f n + _
    by_cases e : n = a
    · subst e
      rw [if_neg (by omega)] at ih
      rw [if_pos (by omega), ih, h2, ← Int32.add_assoc]
    · rw [h1 n e]
      by_cases e2 : a < n
      · rw [if_pos e2] at ih
        rw [if_pos (by omega), ih, Int32.add_assoc, Int32.add_comm v, ← Int32.add_assoc]
      · rw [if_neg e2] at ih
        rw [if_neg (by omega), ih]
theorem hdQ_p {q : PM} {a b : Nat} {v z : Int32} (k : Nat) : (hdQ q a b v z).1 13 1 k = if b < 4 then (if k = 4 * a + b then q.1 13 1 k + v else q.1 13 1 k) else (if k = 4 * a + (b - 3) then q.1 13 1 k - v else if k = 4 * a + (b - 4) then q.1 13 1 k + v else q.1 13 1 k) := by
  unfold hdQ
  rw [pJ_1]
  by_cases h : b < 4
  · rw [if_pos h, if_pos h, pI_1]
    by_cases e : k = 4 * a + b
    · rw [if_pos e, e, u3_same]
    · rw [if_neg e, u3_s e]
  · rw [if_neg h, if_neg h, pI_1]
    by_cases e : k = 4 * a + (b - 3)
    · rw [if_pos e, e, u3_same]
    · rw [if_neg e, u3_s e, pI_1]
      by_cases e2 : k = 4 * a + (b - 4)
      · rw [if_pos e2, e2, u3_same]
      · rw [if_neg e2, u3_s e2]
theorem hdQ_ps {q : PM} {a b c : Nat} {v z : Int32} (ha : a < 9) (hb : b < 6) (hc : c < 4) : psF ((hdQ q a b v z).1 13 1) c 9 ≤ psF (q.1 13 1) c 9 + max v.toInt (-v.toInt) := by
  have h := psF_upd (f := q.1 13 1) (g := (hdQ q a b v z).1 13 1) (a := a) (c := c) (d := max v.toInt (-v.toInt)) (by omega) (fun m hm => by
    rw [hdQ_p]
    by_cases h : b < 4
    · rw [if_pos h, if_neg (by omega)]
    · rw [if_neg h, if_neg (by omega), if_neg (by omega)]) (by
    rw [hdQ_p]
    have h1 := i32_add_abs (q.1 13 1 (4 * a + c)) v
    have h2 := i32_sub_abs (q.1 13 1 (4 * a + c)) v
    repeat' split
    all_goals omega) 9
  rw [if_pos ha] at h
  exact h
theorem hdQ_s3 {q : PM} {a b : Nat} {v z : Int32} (ha : a < 9) (hb : b < 6) : s3F ((hdQ q a b v z).1 13 1) 9 = if b = 3 then s3F (q.1 13 1) 9 + v else s3F (q.1 13 1) 9 := by
  by_cases h3 : b = 3
  · have h := s3F_upd (f := q.1 13 1) (g := (hdQ q a b v z).1 13 1) (a := a) (v := v) (fun m hm => by
      rw [hdQ_p, if_pos (by omega), if_neg (by omega)]) (by
      rw [hdQ_p, if_pos (by omega), if_pos (by omega)]) 9
    rw [if_pos ha] at h
    rw [if_pos h3]
    exact h
  · have h := s3F_upd (f := q.1 13 1) (g := (hdQ q a b v z).1 13 1) (a := 20) (v := 0) (fun m hm => by
      rw [hdQ_p]
      by_cases h : b < 4
      · rw [if_pos h, if_neg (by omega)]
      · rw [if_neg h, if_neg (by omega), if_neg (by omega)]) (by
      rw [hdQ_p, Int32.add_zero]
      by_cases h : b < 4
      · rw [if_pos h, if_neg (by omega)]
      · rw [if_neg h, if_neg (by omega), if_neg (by omega)]) 9
    rw [if_neg (by decide)] at h
    rw [if_neg h3]
    exact h
theorem sF_upd {f g : Nat → Int32} {a c : Nat} {v : Int32} (h1 : ∀ m, ¬ m = a → g (4 * m + c) = f (4 * m + c)) (h2 : g (4 * a + c) = f (4 * a + c) + v) : ∀ n, sFu g c n = if a < n then sFu f c n + v else sFu f c n
  | 0 => rfl
  | n + 1 => by
    have ih := sF_upd h1 h2 n
    show sFu g c n + _ = if a < n + 1 then sFu f c n + _ + v else sFu f c n + _
    by_cases e : n = a
    · subst e
      rw [if_neg (by omega)] at ih
      rw [if_pos (by omega), ih, h2, ← Int32.add_assoc]
    · rw [h1 n e]
      by_cases e2 : a < n
      · rw [if_pos e2] at ih
        rw [if_pos (by omega), ih, Int32.add_assoc, Int32.add_comm v, ← Int32.add_assoc]
      · rw [if_neg e2] at ih
        rw [if_neg (by omega), ih]
theorem cS_upd {f g : Nat → Int64} {a : Nat} {v : Int64} (h1 : ∀ m, ¬ m = a → g m = f m) (h2 : g a = f a + v) : ∀ n, cSu g n = if a < n then cSu f n + v else cSu f n
  | 0 => rfl
  | n + 1 => by
    have ih := cS_upd h1 h2 n
    show cSu g n + _ = if a < n + 1 then cSu f n + _ + v else cSu f n + _
    by_cases e : n = a
    · subst e
      rw [if_neg (by omega)] at ih
      rw [if_pos (by omega), ih, h2, ← Int64.add_assoc]
    · rw [h1 n e]
      by_cases e2 : a < n
      · rw [if_pos e2] at ih
        rw [if_pos (by omega), ih, Int64.add_assoc, Int64.add_comm v, ← Int64.add_assoc]
      · rw [if_neg e2] at ih
        rw [if_neg (by omega), ih]
/-- what a book's trade does to a contract -/
def dv (b c : Nat) (v : Int32) : Int32 := if b < 4 then (if c = b then v else 0) else (if c = b - 3 then -v else if c = b - 4 then v else 0)
theorem dv_0 (b c : Nat) (v : Int32) : dv b c v + dv b c (-v) = 0 := by
  unfold dv
  repeat' split
  all_goals first
    | exact Int32.add_right_neg v
    | exact Int32.add_right_neg (-v)
    | rfl
theorem hdQ_sF {q : PM} {a b c : Nat} {v z : Int32} (ha : a < 9) (hb : b < 6) (hc : c < 4) : sFu ((hdQ q a b v z).1 13 1) c 9 = sFu (q.1 13 1) c 9 + dv b c v := by
  have h := sF_upd (f := q.1 13 1) (g := (hdQ q a b v z).1 13 1) (a := a) (c := c) (v := dv b c v) (fun m hm => by
    rw [hdQ_p]
    by_cases h : b < 4
    · rw [if_pos h, if_neg (by omega)]
    · rw [if_neg h, if_neg (by omega), if_neg (by omega)]) (by
    rw [hdQ_p]
    unfold dv
    by_cases h : b < 4
    · rw [if_pos h, if_pos h]
      by_cases e : c = b
      · rw [if_pos (by omega), if_pos e]
      · rw [if_neg (by omega), if_neg e, Int32.add_zero]
    · rw [if_neg h, if_neg h]
      by_cases e : c = b - 3
      · rw [if_pos (by omega), if_pos e, Int32.sub_eq_add_neg]
      · rw [if_neg (by omega), if_neg e]
        by_cases e2 : c = b - 4
        · rw [if_pos (by omega), if_pos e2]
        · rw [if_neg (by omega), if_neg e2, Int32.add_zero]) 9
  rw [if_pos ha] at h
  exact h
theorem hd2_sF {q : PM} {a a' b c : Nat} {v z z' : Int32} (ha : a < 9) (ha' : a' < 9) (hb : b < 6) (hc : c < 4) : sFu ((hdQ (hdQ q a b v z) a' b (-v) z').1 13 1) c 9 = sFu (q.1 13 1) c 9 := by
  rw [hdQ_sF ha' hb hc, hdQ_sF ha hb hc, Int32.add_assoc, dv_0, Int32.add_zero]
theorem bm_abs64 (z : Int) : max (z.bmod 18446744073709551616) (-(z.bmod 18446744073709551616)) ≤ max z (-z) := by
  rw [Int.bmod_def]
  split <;> omega
theorem i64_add_abs (x y : Int64) : max (x + y).toInt (-(x + y).toInt) ≤ max x.toInt (-x.toInt) + max y.toInt (-y.toInt) := by
  rw [Int64.toInt_add]
  have h := bm_abs64 (x.toInt + y.toInt)
  have e : (2 : Nat) ^ 64 = 18446744073709551616 := by decide
  rw [e]
  omega
theorem i64_sub_abs (x y : Int64) : max (x - y).toInt (-(x - y).toInt) ≤ max x.toInt (-x.toInt) + max y.toInt (-y.toInt) := by
  rw [Int64.toInt_sub]
  have h := bm_abs64 (x.toInt - y.toInt)
  have e : (2 : Nat) ^ 64 = 18446744073709551616 := by decide
  rw [e]
  omega
theorem csF_upd {f g : Nat → Int64} {a : Nat} {d : Int} (hd : 0 ≤ d) (h1 : ∀ m, ¬ m = a → g m = f m) (h2 : max (g a).toInt (-(g a).toInt) ≤ max (f a).toInt (-(f a).toInt) + d) : ∀ n, csF g n ≤ csF f n + (if a < n then d else 0)
  | 0 => by
    show (0 : Int) ≤ 0 + _
    split <;> omega
  | n + 1 => by
    have ih := csF_upd hd h1 h2 n
    show csF g n + _ ≤ csF f n + _ + _
    by_cases e : n = a
    · subst e
      rw [if_neg (by omega)] at ih
      rw [if_pos (by omega)]
      omega
    · rw [h1 n e]
      by_cases e2 : a < n
      · rw [if_pos e2] at ih
        rw [if_pos (by omega)]
        omega
      · rw [if_neg e2] at ih
        rw [if_neg (by omega)]
        omega
theorem mul_bd {n m A B : Int} (h1 : -A ≤ n) (h2 : n ≤ A) (h3 : -B ≤ m) (h4 : m ≤ B) : -(A * B) ≤ n * m ∧ n * m ≤ A * B := by
  have e1 : (n * m).natAbs = n.natAbs * m.natAbs := Int.natAbs_mul n m
  have e2 : n.natAbs * m.natAbs ≤ A.toNat * B.toNat := Nat.mul_le_mul (by omega) (by omega)
  have e3 : ((A.toNat * B.toNat : Nat) : Int) = A * B := by
    rw [Int.natCast_mul, Int.toNat_of_nonneg (by omega), Int.toNat_of_nonneg (by omega)]
  omega
theorem cl_mul {n m : Int} (hn : rg n) (hm : rg m) : (cn n).toInt64 * (cn m).toInt64 = cl (n * m) := by
  rw [cn64 hn, cn64 hm, clmul]
theorem hdQ_cs {q : PM} {a b : Nat} {v z d : Int} (ha : a < 9) (hv : rg v) (hz : rg z) (h1 : -d ≤ v * z) (h2 : v * z ≤ d) (h3 : d ≤ 9000000000000000000) : csF ((hdQ q a b (cn v) (cn z)).2.1 14 1) 9 ≤ csF (q.2.1 14 1) 9 + d := by
  have h := csF_upd (f := q.2.1 14 1) (g := (hdQ q a b (cn v) (cn z)).2.1 14 1) (a := a) (d := d) (by omega) (fun m hm => by
    rw [hdQ_J, u3_s hm]) (by
    rw [hdQ_J, u3_same, cl_mul hv hz]
    have h4 := i64_sub_abs (q.2.1 14 1 a) (cl (v * z))
    rw [cl_I (a := v * z) ⟨by omega, by omega⟩] at h4
    omega) 9
  rw [if_pos ha] at h
  exact h
theorem hdQ_cS {q : PM} {a b : Nat} {v z : Int} (ha : a < 9) (hv : rg v) (hz : rg z) : cSu ((hdQ q a b (cn v) (cn z)).2.1 14 1) 9 = cSu (q.2.1 14 1) 9 + cl (-(v * z)) := by
  have h := cS_upd (f := q.2.1 14 1) (g := (hdQ q a b (cn v) (cn z)).2.1 14 1) (a := a) (v := cl (-(v * z))) (fun m hm => by
    rw [hdQ_J, u3_s hm]) (by
    rw [hdQ_J, u3_same, cl_mul hv hz, ← clneg, Int64.sub_eq_add_neg]) 9
  rw [if_pos ha] at h
  exact h
theorem hd2_cS {q : PM} {a a' b : Nat} {v z : Int} (ha : a < 9) (ha' : a' < 9) (hv : rg v) (hv' : rg (-v)) (hz : rg z) : cSu ((hdQ (hdQ q a b (cn v) (cn z)) a' b (cn (-v)) (cn z)).2.1 14 1) 9 = cSu (q.2.1 14 1) 9 := by
  rw [hdQ_cS ha' hv' hz, hdQ_cS ha hv hz, Int64.add_assoc, cladd, show -(v * z) + -(-v * z) = 0 by rw [Int.neg_mul]; omega]
  exact Int64.add_zero _
theorem ww_deal {p q : PM} {lg : Nat → Int32} {x y b A B N T D l : Nat} {w : Nat → Prop} {f : Nat → Int} {z n : Int} (H : WW p q lg x y w N T D l f) (hb : b < 6) (hA : A < 8) (hB : B < 8) (hz : PrB b z) (h1 : 1 ≤ n) (h2 : n ≤ 50) (hD1 : D + 1 ≤ 1000000000) : (g7_record p (b + 1) (A + 1) (B + 1) (cn z) (cn n) ∧ g12_deals q (cn b) (cn A) (cn B) (cn z) (cn n)) ∧ WW (v7_record p (b + 1) (A + 1) (B + 1) (cn z) (cn n)) (v12_deals q (cn b) (cn A) (cn B) (cn z) (cn n)) lg x y w N T (D + 1) l f ∧ DlC p (v7_record p (b + 1) (A + 1) (B + 1) (cn z) (cn n)) ∧ DlQ q (v12_deals q (cn b) (cn A) (cn B) (cn z) (cn n)) := by
  obtain ⟨hO, hAF, hBR, hDR, hCK, hOT, hIQ, hFB⟩ := H
  have hz1 := hz.1
  have hz2 := hz.2.1
  have hzb : ¬ b + 1 = 0 := by omega
  have hzA : ¬ A + 1 = 0 := by omega
  have hzB : ¬ B + 1 = 0 := by omega
  have hk : D % 60 < 60 := Nat.mod_lt _ (by decide)
  have eD := hDR.2.1
  have eD2 := hDR.2.2.1
  have eir : irm (cn (D : Int)) (cn 60) = cn ((D % 60 : Nat) : Int) := by
    rw [cnirm ⟨by omega, by omega⟩ (by decide) (by decide)]
    rfl
  have hki := cninb (i := D % 60) (n := 60) hk (by omega)
  have hbi := cninb (i := b) (n := 6) hb (by omega)
  -- the class
  have hfill : (v4_fill p (D % 60 + 1) (b + 1) (A + 1) (B + 1) (cn z) (cn n)).1 7 1 2 = cn D := by
    unfold v4_fill bv4_fill
    simp (decide := true) only [pI_1, pI_J, pI_R, u3_same, u3_k, u3_i, u3_s, not_false_eq_true]
    exact eD
  generalize hp4 : pI (pI (v4_fill p (D % 60 + 1) (b + 1) (A + 1) (B + 1) (cn z) (cn n)) 7 1 2 (cn (D + 1 : Nat))) 1 (b + 1) 3 (cn z) = p4
  have f0 : ∀ k, ¬ k = 4 → ¬ k = 7 → ¬ k = 1 → p4.1 k = p.1 k := by
    intro k k1 k2 k3
    funext i S
    rw [← hp4]
    unfold v4_fill bv4_fill
    simp only [pI_1, pR_1, u3_k k1, u3_k k2, u3_k k3]
  have f1 : ∀ i S, ¬ S = 3 → p4.1 1 i S = p.1 1 i S := by
    intro i S k1
    rw [← hp4, pI_1, u3_s k1]
    unfold v4_fill bv4_fill
    simp (decide := true) only [pI_1, pR_1, u3_k, not_false_eq_true]
  have f13 : p4.1 1 (b + 1) 3 = cn z := by rw [← hp4, pI_1, u3_same]
  have f1i : ∀ i S, ¬ i = b + 1 → p4.1 1 i S = p.1 1 i S := by
    intro i S k1
    rw [← hp4, pI_1, u3_i k1]
    unfold v4_fill bv4_fill
    simp (decide := true) only [pI_1, pR_1, u3_k, not_false_eq_true]
  have f7 : p4.1 7 1 2 = cn (D + 1 : Nat) := by
    rw [← hp4]
    simp (decide := true) only [pI_1, pI_J, pI_R, u3_same, u3_k, u3_i, u3_s, not_false_eq_true]
  have f4i : ∀ i S, ¬ i = D % 60 + 1 → p4.1 4 i S = p.1 4 i S := by
    intro i S k1
    rw [← hp4, pI_1, u3_k (by decide), pI_1, u3_k (by decide)]
    unfold v4_fill bv4_fill
    simp only [pI_1, pR_1, u3_i k1]
  have f43 : p4.1 4 (D % 60 + 1) 3 = cn z ∧ p4.1 4 (D % 60 + 1) 4 = cn n ∧ p4.1 4 (D % 60 + 1) 5 = cn 0 ∧ p4.1 4 (D % 60 + 1) 6 = cn 1 := by
    rw [← hp4, pI_1, u3_k (by decide), pI_1, u3_k (by decide), u3_k (by decide), u3_k (by decide), u3_k (by decide), u3_k (by decide), u3_k (by decide), u3_k (by decide)]
    unfold v4_fill bv4_fill
    refine ⟨?_, ?_, ?_, ?_⟩ <;> simp (decide := true) only [pI_1, pI_J, pI_R, u3_same, u3_k, u3_i, u3_s, not_false_eq_true]
  have fRi : ∀ i S, ¬ i = D % 60 + 1 → p4.2.2 4 i S = p.2.2 4 i S := by
    intro i S k1
    rw [← hp4]
    unfold v4_fill bv4_fill
    simp only [pI_R, pR_R, u3_i k1]
  have fRk : ∀ k, ¬ k = 4 → p4.2.2 k = p.2.2 k := by
    intro k k1
    funext i S
    rw [← hp4]
    unfold v4_fill bv4_fill
    simp only [pI_R, pR_R, u3_k k1]
  have fR : p4.2.2 4 (D % 60 + 1) 0 = b + 1 ∧ p4.2.2 4 (D % 60 + 1) 1 = A + 1 ∧ p4.2.2 4 (D % 60 + 1) 2 = B + 1 := by
    rw [← hp4]
    unfold v4_fill bv4_fill
    refine ⟨?_, ?_, ?_⟩ <;> simp (decide := true) only [pI_R, pR_R, u3_same, u3_s, not_false_eq_true]
  have fJ : p4.2.1 = p.2.1 := by
    rw [← hp4]
    rfl
  have hCK4 : CK p4 := by
    unfold CK at hCK ⊢
    rw [f0 0 (by decide) (by decide) (by decide)]
    refine ⟨hCK.1, fun c hc => ?_⟩
    rw [f1 _ 0 (by decide), f1 _ 1 (by decide), f1 _ 2 (by decide)]
    exact hCK.2 c hc
  obtain ⟨gt1, et1⟩ := take_e (p := p4) (a := A) (b := b) (by omega) hb hCK4 (cn n) (cn z)
  have hCK5 : CK (tkC p4 A b (cn n) (cn z)) := ck_c (tkC_k (by decide)) (tkC_k (by decide)) hCK4
  obtain ⟨gt2, et2⟩ := take_e (p := tkC p4 A b (cn n) (cn z)) (a := B) (b := b) (by omega) hb hCK5 (-cn n) (cn z)
  have eC : g7_record p (b + 1) (A + 1) (B + 1) (cn z) (cn n) ∧ v7_record p (b + 1) (A + 1) (B + 1) (cn z) (cn n) = tkC (tkC p4 A b (cn n) (cn z)) B b (-cn n) (cn z) := by
    have gf := g_fill p (D % 60) (b + 1) (A + 1) (B + 1) (cn z) (cn n)
    unfold g7_record bg7_record v7_record bv7_record
    simp only [eD, eir, cntk (i := D % 60) (by omega), if_neg (cnge (j := D % 60) (by omega)), if_pos (lpt (i := D % 60) (N := 60) (by omega) (by omega)), hfill, cnsucc, hp4, et1, et2]
    exact ⟨⟨hki, gf, hzb, hzA, gt1, hzB, gt2, trivial⟩, trivial⟩
  -- the reference
  obtain ⟨gq1, eq1⟩ := holds_q (q := q) (a := A) (b := b) (by omega) hb (cn n) (cn z)
  obtain ⟨gq2, eq2⟩ := holds_q (q := hdQ q A b (cn n) (cn z)) (a := B) (b := b) (by omega) hb (-cn n) (cn z)
  generalize hq2 : hdQ (hdQ q A b (cn n) (cn z)) B b (-cn n) (cn z) = q2
  have i0 : ∀ k, ¬ k = 13 → q2.1 k = q.1 k := by
    intro k h
    rw [← hq2, hdQ_k h, hdQ_k h]
  have i1 : ∀ i, ¬ i = 1 → q2.1 13 i = q.1 13 i := by
    intro i h
    rw [← hq2, hdQ_13 h, hdQ_13 h]
  have eT : q2.1 12 1 48 = cn D := by rw [i0 12 (by decide)]; exact eD2
  generalize hq3 : pI (pI (pI (pI (pI (pI (pI (pI (pI q2 13 30 (D % 60) (cn b)) 13 31 (D % 60) (cn A)) 13 32 (D % 60) (cn B)) 13 33 (D % 60) (cn z)) 13 34 (D % 60) (cn n)) 15 7 (D % 60) (cn 0)) 15 8 (D % 60) (cn 0)) 12 1 48 (cn (D + 1 : Nat))) 13 10 b (cn z) = q3
  have eQ : g12_deals q (cn b) (cn A) (cn B) (cn z) (cn n) ∧ v12_deals q (cn b) (cn A) (cn B) (cn z) (cn n) = q3 := by
    have eG : v12_deals q (cn b) (cn A) (cn B) (cn z) (cn n) = bv12_deals v12_holds q (cn b) (cn A) (cn B) (cn z) (cn n) := by
      unfold v12_deals
      rw [cn_I (a := (b : Int)) ⟨by omega, by omega⟩, cn_I (a := (A : Int)) ⟨by omega, by omega⟩, cn_I (a := (B : Int)) ⟨by omega, by omega⟩, cn_I (a := z) ⟨by omega, by omega⟩, cn_I (a := n) ⟨by omega, by omega⟩]
      exact if_pos ⟨⟨by omega, by omega⟩, ⟨by omega, by omega⟩, ⟨by omega, by omega⟩, ⟨by omega, by omega⟩, h1, h2⟩
    rw [eG]
    unfold g12_deals bg12_deals bv12_deals
    have e9 : ∀ {f : Nat → Nat → Nat → Int32} {w : Int32} {k s : Nat}, u3 f 13 k s w 12 1 48 = f 12 1 48 := fun {f w k s} => u3_k (by decide)
    have e8 : ∀ {f : Nat → Nat → Nat → Int32} {w : Int32} {k s : Nat}, u3 f 15 k s w 12 1 48 = f 12 1 48 := fun {f w k s} => u3_k (by decide)
    simp only [eq1, eq2, hq2, eT, eir, cntk (i := D % 60) (by omega), cntk (i := b) (by omega), pI_1, e9, e8, cnsucc]
    refine ⟨⟨gq1, gq2, hki, hki, hki, hki, hki, hki, hki, hbi, trivial⟩, ?_⟩
    rw [← hq3]
  have j0 : ∀ k, ¬ k = 13 → ¬ k = 15 → ¬ k = 12 → q3.1 k = q.1 k := by
    intro k k1 k2 k3
    funext i S
    rw [← hq3]
    simp only [pI_1, u3_k k1, u3_k k2, u3_k k3]
    rw [i0 k k1]
  have j1 : ∀ K, ¬ K = 1 → ¬ K = 10 → (K < 30 ∨ 34 < K) → q3.1 13 K = q.1 13 K := by
    intro K k1 k2 k3
    funext S
    rw [← hq3]
    simp (decide := true) only [pI_1, u3_k, not_false_eq_true, u3_i k2, u3_i (show ¬ K = 30 by omega), u3_i (show ¬ K = 31 by omega), u3_i (show ¬ K = 32 by omega), u3_i (show ¬ K = 33 by omega), u3_i (show ¬ K = 34 by omega)]
    rw [i1 K k1]
  have j1p : q3.1 13 1 = q2.1 13 1 := by
    funext S
    rw [← hq3]
    simp (decide := true) only [pI_1, pI_J, pI_R, u3_same, u3_k, u3_i, u3_s, not_false_eq_true]
  have j10 : ∀ c, ¬ c = b → q3.1 13 10 c = q.1 13 10 c := by
    intro c hc
    rw [← hq3, pI_1, u3_s hc]
    simp (decide := true) only [pI_1, u3_k, u3_i, not_false_eq_true]
    rw [i1 10 (by decide)]
  have j10b : q3.1 13 10 b = cn z := by rw [← hq3, pI_1, u3_same]
  have j15 : ∀ K, ¬ K = 7 → ¬ K = 8 → q3.1 15 K = q.1 15 K := by
    intro K k1 k2
    funext S
    rw [← hq3]
    simp (decide := true) only [pI_1, u3_k, not_false_eq_true, u3_i k1, u3_i k2]
    rw [i0 15 (by decide)]
  have j12 : ∀ S, ¬ S = 48 → q3.1 12 1 S = q.1 12 1 S := by
    intro S k1
    rw [← hq3]
    simp (decide := true) only [pI_1, u3_k, not_false_eq_true, u3_s k1]
    rw [i0 12 (by decide)]
  have j48 : q3.1 12 1 48 = cn (D + 1 : Nat) := by
    rw [← hq3]
    simp (decide := true) only [pI_1, pI_J, pI_R, u3_same, u3_k, u3_i, u3_s, not_false_eq_true]
  have jk : ∀ k, ¬ k = D % 60 → (∀ K, 30 ≤ K → K ≤ 34 → q3.1 13 K k = q.1 13 K k) ∧ q3.1 15 7 k = q.1 15 7 k ∧ q3.1 15 8 k = q.1 15 8 k := by
    intro k hne
    refine ⟨fun K k1 k2 => ?_, ?_, ?_⟩
    · rw [← hq3]
      simp (decide := true) only [pI_1, u3_k, not_false_eq_true, u3_i (show ¬ K = 10 by omega), u3_s hne]
      rw [i1 K (by omega)]
    · rw [← hq3]
      simp (decide := true) only [pI_1, u3_k, not_false_eq_true, u3_s hne]
      rw [i0 15 (by decide)]
    · rw [← hq3]
      simp (decide := true) only [pI_1, u3_k, not_false_eq_true, u3_s hne]
      rw [i0 15 (by decide)]
  have jd : q3.1 13 30 (D % 60) = cn b ∧ q3.1 13 31 (D % 60) = cn A ∧ q3.1 13 32 (D % 60) = cn B ∧ q3.1 13 33 (D % 60) = cn z ∧ q3.1 13 34 (D % 60) = cn n ∧ q3.1 15 7 (D % 60) = cn 0 ∧ q3.1 15 8 (D % 60) = cn 0 := by
    rw [← hq3]
    refine ⟨?_, ?_, ?_, ?_, ?_, ?_, ?_⟩ <;> simp (decide := true) only [pI_1, pI_J, pI_R, u3_same, u3_k, u3_i, u3_s, not_false_eq_true]
  have jR : q3.2 = q2.2 := by
    rw [← hq3]
    rfl
  have jR2 : q2.2.2 = q.2.2 := by rw [← hq2, hdQ_R, hdQ_R]
  rw [eC.2, eQ.2]
  refine ⟨⟨eC.1, eQ.1⟩, ⟨?_, ?_, ?_, ?_, ?_, ?_, ?_, ?_⟩, ⟨fun k k1 k2 k3 k4 => ?_, fun i hi => ?_, fun i S hS => ?_, fun k k1 => ?_⟩, ⟨j1, fun K hK => j15 K (by omega) (by omega), j12, fun K hK => j15 K (by omega) (by omega)⟩⟩
  · refine ord_c ?_ ?_ ?_ ?_ (fun K k1 k2 => j1 K (by omega) (by omega) (by omega)) (fun K k1 k2 => j15 K (by omega) (by omega)) (j12 39 (by decide)) (j12 40 (by decide)) hO
    · rw [tkC_k (by decide), tkC_k (by decide), f0 10 (by decide) (by decide) (by decide)]
    · rw [tkC_R, tkC_R, fRk 10 (by decide)]
    · rw [tkC_k (by decide), tkC_k (by decide), f0 6 (by decide) (by decide) (by decide)]
    · rw [tkC_k (by decide), tkC_k (by decide), f0 6 (by decide) (by decide) (by decide)]
  · have ha4 : ∀ c, c < 9 → AcR p4 q c := by
      intro c hc
      have h := hAF.1 c hc
      unfold AcR at h ⊢
      rw [f0 13 (by decide) (by decide) (by decide), fJ]
      exact h
    have ha6 := acr_take (a := B) (v := -cn n) (z := cn z) hb (acr_take (a := A) (v := cn n) (z := cn z) hb ha4 (by omega)) (by omega)
    refine ⟨fun c hc => ?_, fun c hc => ⟨(hAF.2 c hc).1, ?_⟩⟩
    · have h := ha6 c hc
      rw [hq2] at h
      unfold AcR at h ⊢
      rw [j1p, jR]
      exact h
    · have h := (hAF.2 c hc).2
      unfold TrF at h ⊢
      rw [tkC_13 (show ¬ 2 * (c + 1) = 2 * (B + 1) - 1 by omega), tkC_13 (show ¬ 2 * (c + 1) = 2 * (A + 1) - 1 by omega), f0 13 (by decide) (by decide) (by decide), tkC_k (by decide), tkC_k (by decide), f0 0 (by decide) (by decide) (by decide), j1 2 (by decide) (by decide) (by decide), j1 3 (by decide) (by decide) (by decide), j1 4 (by decide) (by decide) (by decide), j1 5 (by decide) (by decide) (by decide), j15 1 (by decide) (by decide)]
      exact h
  · intro c hc
    have h := hBR c hc
    unfold BkR AucR at h ⊢
    rw [tkC_k (by decide), tkC_k (by decide), f1 _ 4 (by decide), f1 _ 5 (by decide), f1 _ 6 (by decide), f1 _ 7 (by decide), f1 _ 8 (by decide), f1 _ 9 (by decide), f1 _ 10 (by decide), f1 _ 11 (by decide), f1 _ 12 (by decide), j1 11 (by decide) (by decide) (by decide), j1 12 (by decide) (by decide) (by decide), j1 13 (by decide) (by decide) (by decide), j1 6 (by decide) (by decide) (by decide), j1 7 (by decide) (by decide) (by decide), j1 8 (by decide) (by decide) (by decide), j1 9 (by decide) (by decide) (by decide), j15 2 (by decide) (by decide)]
    refine ⟨?_, h.2⟩
    by_cases e : c = b
    · rw [e]
      exact ⟨z, hz, f13, j10b⟩
    · rw [f1i _ 3 (by omega), j10 c e]
      exact h.1
  · refine ⟨fun k hk2 => ?_, ?_, j48, hD1⟩
    · rw [tkC_R, tkC_R, tkC_k (by decide), tkC_k (by decide)]
      by_cases e : k = D % 60
      · rw [e]
        refine ⟨⟨b, hb, fR.1⟩, by rw [jd.2.2.2.2.2.2]; exact b0, Or.inl ⟨f43.2.2.2, by have := Nat.mod_le D 60; omega, jd.2.2.2.2.2.2, b, A, B, z, n, hb, hA, hB, ?_⟩⟩
        rw [tkC_R, tkC_R, tkC_k (by decide), tkC_k (by decide), f43.1, f43.2.1, f43.2.2.1, jd.1, jd.2.1, jd.2.2.1, jd.2.2.2.1, jd.2.2.2.2.1, jd.2.2.2.2.2.1]
        exact ⟨fR.1, rfl, fR.2.1, rfl, fR.2.2, rfl, hz, rfl, rfl, h1, h2, rfl, rfl, rfl, b0⟩
      · obtain ⟨d1, d2, d3⟩ := hDR.1 k hk2
        obtain ⟨e1, e2, e3⟩ := jk k e
        rw [fRi _ _ (by omega), f4i _ _ (by omega), e3]
        refine ⟨d1, d2, ?_⟩
        rcases d3 with ⟨c1, c2, c3, c4⟩ | ⟨c1, c2⟩
        · refine Or.inl ⟨c1, by omega, c3, ?_⟩
          unfold DealV at c4 ⊢
          rw [tkC_R, tkC_R, tkC_k (by decide), tkC_k (by decide), fRi _ _ (by omega), fRi _ _ (by omega), fRi _ _ (by omega), f4i _ _ (by omega), f4i _ _ (by omega), f4i _ _ (by omega), e1 30 (by decide) (by decide), e1 31 (by decide) (by decide), e1 32 (by decide) (by decide), e1 33 (by decide) (by decide), e1 34 (by decide) (by decide), e2]
          exact c4
        · refine Or.inr ⟨c1, c2.imp_left fun h => ?_⟩
          have : D % 60 = D := Nat.mod_eq_of_lt (by omega)
          omega
    · rw [tkC_k (by decide), tkC_k (by decide)]
      exact f7
  · exact ck_c (tkC_k (by decide)) (tkC_k (by decide)) hCK5
  · refine ot_c ?_ (fun i hi => ?_) ?_ ?_ ?_ (fun i k1 k2 => j1 i (by omega) (by omega) (by omega)) (j15 9 (by decide) (by decide)) (j15 10 (by decide) (by decide)) (fun i hi => j12 i (by omega)) hOT ?_
    · rw [tkC_k (by decide), tkC_k (by decide), f0 9 (by decide) (by decide) (by decide)]
    · rw [tkC_13 (by omega), tkC_13 (by omega), f0 13 (by decide) (by decide) (by decide)]
    · rw [tkC_k (by decide), tkC_k (by decide), f0 2 (by decide) (by decide) (by decide)]
    · rw [tkC_k (by decide), tkC_k (by decide), f0 6 (by decide) (by decide) (by decide)]
    · rw [tkC_k (by decide), tkC_k (by decide), f0 6 (by decide) (by decide) (by decide)]
    · obtain ⟨u1, u2, u9, uX, uY⟩ := hOT.2.2.2.2.2.2.2.2.2.2
      have en : (-cn n).toInt = -n := by rw [cnneg, cn_I ⟨by omega, by omega⟩]
      have en1 : (cn n).toInt = n := cn_I ⟨by omega, by omega⟩
      have eD3 : (cn ((D + 1 : Nat) : Int)).toInt = ((D + 1 : Nat) : Int) := cn_I ⟨by omega, by omega⟩
      have eD4 : (cn (D : Int)).toInt = (D : Int) := cn_I ⟨by omega, by omega⟩
      refine ⟨fun c hc => ?_, ?_, ?_, fun hfl => ⟨fun c hc => ?_, ?_⟩, fun hf1 hf2 c hc => ?_⟩
      · have w1 := hdQ_ps (q := q) (a := A) (b := b) (c := c) (v := cn n) (z := cn z) (by omega) hb hc
        have w2 := hdQ_ps (q := hdQ q A b (cn n) (cn z)) (a := B) (b := b) (c := c) (v := -cn n) (z := cn z) (by omega) hb hc
        have w3 := u1 c hc
        rw [hq2, en] at w2
        rw [en1] at w1
        rw [eD2, eD4] at w3
        rw [j1p, j48, eD3]
        omega
      · have w1 := hdQ_s3 (q := q) (a := A) (b := b) (v := cn n) (z := cn z) (by omega) hb
        have w2 := hdQ_s3 (q := hdQ q A b (cn n) (cn z)) (a := B) (b := b) (v := -cn n) (z := cn z) (by omega) hb
        rw [hq2] at w2
        rw [j1p, w2, w1, u2]
        by_cases e : b = 3
        · rw [if_pos e, if_pos e, Int32.zero_add, Int32.add_right_neg]
        · rw [if_neg e, if_neg e]
      · have b1 := mul_bd (n := n) (m := z) (A := 50) (B := 10000) (by omega) (by omega) (by omega) (by omega)
        have b2 := mul_bd (n := -n) (m := z) (A := 50) (B := 10000) (by omega) (by omega) (by omega) (by omega)
        have w1 := hdQ_cs (q := q) (a := A) (b := b) (v := n) (z := z) (d := 500000) (by omega) ⟨by omega, by omega⟩ ⟨by omega, by omega⟩ (by omega) (by omega) (by decide)
        have w2 := hdQ_cs (q := hdQ q A b (cn n) (cn z)) (a := B) (b := b) (v := -n) (z := z) (d := 500000) (by omega) ⟨by omega, by omega⟩ ⟨by omega, by omega⟩ (by omega) (by omega) (by decide)
        rw [← cnneg, hq2] at w2
        rw [eD2, eD4] at u9
        rw [j48, eD3, jR]
        omega
      · have w1 := hd2_sF (q := q) (a := A) (a' := B) (b := b) (c := c) (v := cn n) (z := cn z) (z' := cn z) (by omega) (by omega) hb (by omega)
        rw [hq2] at w1
        rw [j1p, w1]
        exact (uX hfl).1 c hc
      · have w1 := hd2_cS (q := q) (a := A) (a' := B) (b := b) (v := n) (z := z) (by omega) (by omega) ⟨by omega, by omega⟩ ⟨by omega, by omega⟩ ⟨by omega, by omega⟩
        rw [← cnneg, hq2] at w1
        rw [jR, w1]
        exact (uX hfl).2
      · have w1 : ∀ {Q : PM} {a : Nat} {v w : Int32}, a < 8 → (hdQ Q a b v w).1 13 1 (32 + c) = Q.1 13 1 (32 + c) := by
          intro Q a v w ha
          rw [hdQ_p]
          by_cases h : b < 4
          · rw [if_pos h, if_neg (by omega)]
          · rw [if_neg h, if_neg (by omega), if_neg (by omega)]
        rw [j1p, ← hq2, w1 hB, w1 hA]
        exact uY hf1 hf2 c hc
  · obtain ⟨c1, c2, c3, c4⟩ := hIQ
    refine ⟨fun i hi => ?_, fun i hi hw => ?_, fun i t hi => ?_, fun c hc => ?_⟩
    · unfold stnd
      rw [j15 3 (by decide) (by decide), j15 5 (by decide) (by decide), j1 24 (by decide) (by decide) (by decide), j1 16 (by decide) (by decide) (by decide), j1 12 (by decide) (by decide) (by decide)]
      exact c1 i hi
    · unfold stnd
      rw [j15 3 (by decide) (by decide), j1 24 (by decide) (by decide) (by decide), j1 16 (by decide) (by decide) (by decide), j1 19 (by decide) (by decide) (by decide), j1 22 (by decide) (by decide) (by decide)]
      exact c2 i hi hw
    · rw [j15 3 (by decide) (by decide), j1 24 (by decide) (by decide) (by decide), j1 16 (by decide) (by decide) (by decide), j1 19 (by decide) (by decide) (by decide), j1 28 (by decide) (by decide) (by decide)]
      intro g1 g2 g3 g4 g5
      obtain ⟨g6, g7⟩ := c3 i t hi g1 g2 g3 g4 g5
      refine ⟨by omega, fun g8 => ?_⟩
      rw [(jk (t % 60) (by omega)).1 30 (by decide) (by decide)]
      exact g7 (by omega)
    · rw [j1 12 (by decide) (by decide) (by decide), j12 17 (by decide)]
      exact c4 c hc
  · exact fb_c (j15 3 (by decide) (by decide)) (j1 17 (by decide) (by decide) (by decide)) (j1 4 (by decide) (by decide) (by decide)) (j12 95 (by decide)) hFB
  · rw [tkC_k k1, tkC_k k1, f0 k k2 k3 k4]
  · rw [tkC_13 (by omega), tkC_13 (by omega), f0 13 (by decide) (by decide) (by decide)]
  · rw [tkC_k (by decide), tkC_k (by decide), f1 i S hS]
  · rw [tkC_R, tkC_R, fRk k k1]
