/-! a rest falls -/
def fC (p : PM) (o : Nat) (u v : Int32) : PM := pI (pI (pI p 10 (o + 1) 9 u) 10 (o + 1) 11 v) 10 (o + 1) 16 (cn 1)
/-- how much has fallen in all -/
def bV (q : PM) (o : Nat) (u : Int32) : Int32 := stA (q.1 13 4 8) (q.1 13 17 o - u)
theorem i32_ss (a n : Int32) : a - (a - n) = n := by
  rw [Int32.sub_eq_add_neg a (a - n), Int32.neg_sub, Int32.add_comm, Int32.sub_add_cancel]
def fQ (q : PM) (o a : Nat) (u v t : Int32) : PM := pI (pI (pI (pI (pI q 13 17 o u) 13 22 o v) 15 6 o (cn 1)) 13 4 a t) 13 4 8 (bV q o u)
theorem fallC_e {p : PM} {o : Nat} {r n : Int} (h : p.1 10 (o + 1) 9 = cn r) (h1 : rg (r - n)) : v10_fall p (o + 1) (cn n) = if 0 < r - n then fC p o (cn (r - n)) (p.1 10 (o + 1) 11 - cn n) else pI (fC p o (cn (r - n)) (p.1 10 (o + 1) 11 - cn n)) 10 (o + 1) 2 (cn 0) := by
  unfold v10_fall bv10_fall fC
  simp only [h, cnsub, pI_1, u3_same, u3_s (show ¬ (11 : Nat) = 9 by decide), u3_s (show ¬ (9 : Nat) = 16 by decide), u3_s (show ¬ (9 : Nat) = 11 by decide), zcn, cnlt (show rg 0 from ⟨by decide, by decide⟩) h1]
theorem fallQ_e {q : PM} {o a : Nat} {r n : Int} {st : Int32} (ho : o ≤ 2147483647) (ha : a ≤ 2147483647) (h : q.1 13 17 o = cn r) (h2 : q.1 13 15 o = cn a) (h1 : rg (r - n)) : v12_falls q (cn o) (cn n) st = pI (fQ q o a (cn (r - n)) (q.1 13 22 o - (if st = cn 0 then cn 0 else cn n)) (q.1 13 4 a + (if q.1 13 19 o = cn 4 then cn n else cn 0))) 15 3 o (if 0 < r - n then cn 1 else cn 0) := by
  have e9 : cn (r - (r - n)) = cn n := congrArg cn (by omega)
  unfold v12_falls bv12_falls fQ bV
  have k1 : ∀ {f : Nat → Nat → Nat → Int32} {w : Int32} {s : Nat}, u3 f 15 6 o w 13 s o = f 13 s o := fun {f w s} => u3_k (by decide)
  have k2 : ∀ {f : Nat → Nat → Nat → Int32} {w : Int32} {s : Nat}, u3 f 15 6 o w 13 s a = f 13 s a := fun {f w s} => u3_k (by decide)
  simp only [cntk (i := o) ho, h, h2, cnsub, e9, pI_1, u3_same, k1, k2, u3_i (show ¬ (22 : Nat) = 17 by decide), u3_i (show ¬ (19 : Nat) = 17 by decide), u3_i (show ¬ (19 : Nat) = 22 by decide), u3_i (show ¬ (15 : Nat) = 17 by decide), u3_i (show ¬ (15 : Nat) = 22 by decide), u3_i (show ¬ (4 : Nat) = 17 by decide), u3_i (show ¬ (4 : Nat) = 22 by decide), u3_i (show ¬ (17 : Nat) = 4 by decide), u3_i (show ¬ (17 : Nat) = 22 by decide), cntk (i := a) ha, zcn, cnlt (show rg 0 from ⟨by decide, by decide⟩) h1]
  by_cases g1 : st = cn 0
  · by_cases g2 : q.1 13 19 o = cn 4
    · by_cases g3 : 0 < r - n
      · simp only [if_pos g1, if_pos g2, if_pos g3]
      · simp only [if_pos g1, if_pos g2, if_neg g3]
    · by_cases g3 : 0 < r - n
      · simp only [if_pos g1, if_neg g2, if_pos g3]
      · simp only [if_pos g1, if_neg g2, if_neg g3]
  · by_cases g2 : q.1 13 19 o = cn 4
    · by_cases g3 : 0 < r - n
      · simp only [if_neg g1, if_pos g2, if_pos g3]
      · simp only [if_neg g1, if_pos g2, if_neg g3]
    · by_cases g3 : 0 < r - n
      · simp only [if_neg g1, if_neg g2, if_pos g3]
      · simp only [if_neg g1, if_neg g2, if_neg g3]
theorem g_fallC (p : PM) (o : Nat) (v : Int32) : g10_fall p (o + 1) v := by
  have hz : ¬ o + 1 = 0 := by omega
  unfold g10_fall bg10_fall
  repeat' first
    | with_reducible exact hz
    | exact trivial
    | exact not_false
    | apply And.intro
    | (split <;> rename_i h9 <;> first | simp only [if_neg h9, if_true, if_false] | simp only [if_pos h9, if_true, if_false] | skip)
theorem g_fallQ {q : PM} {o a : Nat} (ho : o < 44) (ha : a < 8) (v st : Int32) (h : q.1 13 15 o = cn a) : g12_falls q (cn o) v st := by
  have hi := cninb (i := o) (n := 44) ho (by omega)
  have hj := cninb (i := a) (n := 8) ha (by omega)
  have k1 : ∀ {f : Nat → Nat → Nat → Int32} {w : Int32} {s : Nat}, u3 f 15 6 o w 13 s o = f 13 s o := fun {f w s} => u3_k (by decide)
  unfold g12_falls bg12_falls
  simp only [cntk (i := o) (by omega), pI_1, k1, h, u3_i (show ¬ (15 : Nat) = 17 by decide), u3_i (show ¬ (15 : Nat) = 22 by decide)]
  repeat' first
    | with_reducible exact hi
    | with_reducible exact hj
    | exact trivial
    | exact not_false
    | apply And.intro
    | (split <;> rename_i h9 <;> first | simp only [if_neg h9, if_true, if_false] | simp only [if_pos h9, if_true, if_false] | skip)
