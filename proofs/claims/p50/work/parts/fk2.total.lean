/-! what there is in all: cash, money, funds, the stake -/
section Total
variable {q q' : PM} {m : Nat} {l g z : Int} {lay : Int32}
theorem i64_mv (a d b : Int64) : a + d + b = a + b + d := by
  rw [Int64.add_assoc, Int64.add_comm d b, ← Int64.add_assoc]
theorem i64_pl (a v : Int64) : v = a + (v - a) := by rw [Int64.add_comm, Int64.sub_add_cancel]
theorem i64_58 (C A w v : Int64) : C + (A + v) = C + (A + w) + (v - w) := by
  rw [Int64.add_assoc C, Int64.add_assoc A, ← i64_pl]
theorem tt_c (h1 : q'.2.1 14 1 = q.2.1 14 1) (h2 : q'.1 13 36 = q.1 13 36) (h3 : q'.1 13 38 = q.1 13 38) (h4 : q'.1 12 1 58 = q.1 12 1 58) : ToQ q' = ToQ q := by
  unfold ToQ MoQ
  rw [h1, h2, h3, h4]
theorem tt_pJ {a : Nat} (ha : a < 9) (v : Int64) : ToQ (pJ q 14 1 a v) = ToQ q + (v - q.2.1 14 1 a) := by
  have h := cS_upd (f := q.2.1 14 1) (g := (pJ q 14 1 a v).2.1 14 1) (a := a) (v := v - q.2.1 14 1 a) (fun k hk => by rw [pJ_J, u3_s hk]) (by rw [pJ_J, u3_same]; exact i64_pl _ _) 9
  rw [if_pos ha] at h
  unfold ToQ
  rw [h, i64_mv]
  rfl
theorem tt_36 (hm : m < 4) (v : Int32) : ToQ (pI q 13 36 m v) = ToQ q + (v.toInt64 - (q.1 13 36 m).toInt64) := by
  have h := cS_upd (f := fun k => (q.1 13 36 k).toInt64) (g := fun k => ((pI q 13 36 m v).1 13 36 k).toInt64) (a := m) (v := v.toInt64 - (q.1 13 36 m).toInt64) (fun k hk => by rw [pI_1, u3_s hk]) (by rw [pI_at]; exact i64_pl _ _) 4
  rw [if_pos hm] at h
  have h38 : (pI q 13 36 m v).1 13 38 = q.1 13 38 := by
    funext k
    rw [pI_1, u3_i (by decide)]
  have h58 : (pI q 13 36 m v).1 12 1 58 = q.1 12 1 58 := by rw [pI_1, u3_k (by decide)]
  unfold ToQ MoQ
  rw [h, h38, h58, pI_J, i64_mv _ _ (cSu (fun m => (q.1 13 38 m).toInt64) 4), i64_mv _ _ (q.1 12 1 58).toInt64, ← Int64.add_assoc]
theorem tt_38 (hm : m < 4) (v : Int32) : ToQ (pI q 13 38 m v) = ToQ q + (v.toInt64 - (q.1 13 38 m).toInt64) := by
  have h := cS_upd (f := fun k => (q.1 13 38 k).toInt64) (g := fun k => ((pI q 13 38 m v).1 13 38 k).toInt64) (a := m) (v := v.toInt64 - (q.1 13 38 m).toInt64) (fun k hk => by rw [pI_1, u3_s hk]) (by rw [pI_at]; exact i64_pl _ _) 4
  rw [if_pos hm] at h
  have h36 : (pI q 13 38 m v).1 13 36 = q.1 13 36 := by
    funext k
    rw [pI_1, u3_i (by decide)]
  have h58 : (pI q 13 38 m v).1 12 1 58 = q.1 12 1 58 := by rw [pI_1, u3_k (by decide)]
  unfold ToQ MoQ
  rw [h, h36, h58, pI_J, ← Int64.add_assoc (cSu (fun m => (q.1 13 36 m).toInt64) 4), i64_mv _ _ (q.1 12 1 58).toInt64, ← Int64.add_assoc]
theorem tt_58 (v : Int32) : ToQ (pI q 12 1 58 v) = ToQ q + (v.toInt64 - (q.1 12 1 58).toInt64) := by
  have h36 : (pI q 12 1 58 v).1 13 36 = q.1 13 36 := by
    funext k
    rw [pI_1, u3_k (by decide)]
  have h38 : (pI q 12 1 58 v).1 13 38 = q.1 13 38 := by
    funext k
    rw [pI_1, u3_k (by decide)]
  unfold ToQ MoQ
  rw [h36, h38, pI_J, pI_at]
  exact i64_58 _ _ _ _
theorem tt_cv (hm : m < 4) : ToQ (cvQ q m lay l g) = ToQ q + cl g := by
  obtain ⟨Z, hZ⟩ : ∃ Z, (if 0 < g then pI q 12 1 68 lay else q) = Z := ⟨_, rfl⟩
  have hJ : Z.2.1 = q.2.1 := by
    rw [← hZ]
    split
    · rw [pI_J]
    · rfl
  have hT : ToQ Z = ToQ q := by
    rw [← hZ]
    split
    · refine tt_c rfl ?_ ?_ ?_
      · funext k
        rw [pI_1, u3_k (by decide)]
      · funext k
        rw [pI_1, u3_k (by decide)]
      · rw [pI_1, u3_s (by decide)]
    · rfl
  unfold cvQ
  rw [hZ]
  have e : ToQ (pJ (pJ Z 14 1 (2 * m) (q.2.1 14 1 (2 * m) + cl g)) 12 1 69 (cl (if g < l then l - g else 0))) = ToQ (pJ Z 14 1 (2 * m) (q.2.1 14 1 (2 * m) + cl g)) := by
    refine tt_c ?_ rfl rfl rfl
    funext k
    rw [pJ_J, u3_k (by decide)]
  rw [e, tt_pJ (by omega), hT, hJ]
  congr 1
  rw [Int64.add_comm, Int64.add_sub_cancel]
theorem tt_0 (x : Int64) {a : Int} (h : a = 0) : x + cl a = x := by
  rw [h]
  exact Int64.add_zero x
theorem tt_l36 (hm : m < 4) (h : q.1 13 36 m = cn z) (z1 : rg z) (z2 : rg (z - g)) : ToQ (pI (cvQ q m lay l g) 13 36 m (cn (z - g))) = ToQ q := by
  rw [tt_36 hm, cvQ_1 (by omega), h, tt_cv hm, cn64 z1, cn64 z2, clsub, Int64.add_assoc, cladd]
  exact tt_0 _ (by omega)
theorem tt_l38 (hm : m < 4) (h : q.1 13 38 m = cn z) (z1 : rg z) (z2 : rg (z - g)) : ToQ (pI (cvQ q m lay l g) 13 38 m (cn (z - g))) = ToQ q := by
  rw [tt_38 hm, cvQ_1 (by omega), h, tt_cv hm, cn64 z1, cn64 z2, clsub, Int64.add_assoc, cladd]
  exact tt_0 _ (by omega)
theorem tt_l58 (hm : m < 4) (h : q.1 12 1 58 = cn z) (z1 : rg z) (z2 : rg (z - g)) : ToQ (pI (cvQ q m lay l g) 12 1 58 (cn (z - g))) = ToQ q := by
  rw [tt_58, cvQ_1 (by omega), h, tt_cv hm, cn64 z1, cn64 z2, clsub, Int64.add_assoc, cladd]
  exact tt_0 _ (by omega)
/-- cash of a given away, the loss covered by it -/
theorem tt_l8 {a : Nat} (hm : m < 4) (ha : a < 9) (v : Int) : ToQ (cvQ (pJ q 14 1 a (q.2.1 14 1 a - cl v)) m lay l v) = ToQ q := by
  have e : q.2.1 14 1 a - cl v - q.2.1 14 1 a = cl (-v) := by
    rw [Int64.sub_eq_add_neg, Int64.sub_eq_add_neg, clneg, Int64.add_comm, ← Int64.add_assoc, Int64.add_comm (-q.2.1 14 1 a), ← Int64.sub_eq_add_neg, Int64.sub_self, Int64.zero_add]
  rw [tt_cv hm, tt_pJ ha, e, Int64.add_assoc, cladd]
  exact tt_0 _ (by omega)
def sgu (g : Nat → Int) : Nat → Nat → Int
  | _, 0 => 0
  | i, d + 1 => g i + sgu g (i + 1) d
theorem sg_4 (g : Nat → Int) : sgu g 0 4 = s4 g := by
  show g 0 + (g 1 + (g 2 + (g 3 + 0))) = g 0 + g 1 + g 2 + g 3
  omega
end Total
