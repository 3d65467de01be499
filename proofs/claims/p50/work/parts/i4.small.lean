/-! what small events leave -/
section Disp
variable {q : PM} {a b c d x f : Int32}
theorem dk_0 : (v12_does q (cn 0) a b c d x f).2 = (v12_doLimit q a b c d x f).2 := by
  unfold v12_does bv12_does
  simp only [if_true]
theorem dk_1 : (v12_does q (cn 1) a b c d x f).2 = (v12_doMarket q a b c).2 := by
  unfold v12_does bv12_does
  simp only [if_neg (show ¬ cn 1 = cn 0 by decide), if_true]
theorem dk_2 : (v12_does q (cn 2) a b c d x f).2 = (v12_doIceberg q a b c d x).2 := by
  unfold v12_does bv12_does
  simp only [if_neg (show ¬ cn 2 = cn 0 by decide), if_neg (show ¬ cn 2 = cn 1 by decide), if_true]
theorem dk_3 : (v12_does q (cn 3) a b c d x f).2 = (v12_doPeg q a b c d x).2 := by
  unfold v12_does bv12_does
  simp only [if_neg (show ¬ cn 3 = cn 0 by decide), if_neg (show ¬ cn 3 = cn 1 by decide), if_neg (show ¬ cn 3 = cn 2 by decide), if_true]
theorem dk_4 : (v12_does q (cn 4) a b c d x f).2 = (v12_doStop q a b c d x).2 := by
  unfold v12_does bv12_does
  simp only [if_neg (show ¬ cn 4 = cn 0 by decide), if_neg (show ¬ cn 4 = cn 1 by decide), if_neg (show ¬ cn 4 = cn 2 by decide), if_neg (show ¬ cn 4 = cn 3 by decide), if_true]
theorem dk_5 : (v12_does q (cn 5) a b c d x f).2 = (v12_doQuote q a b c d x).2 := by
  unfold v12_does bv12_does
  simp only [if_neg (show ¬ cn 5 = cn 0 by decide), if_neg (show ¬ cn 5 = cn 1 by decide), if_neg (show ¬ cn 5 = cn 2 by decide), if_neg (show ¬ cn 5 = cn 3 by decide), if_neg (show ¬ cn 5 = cn 4 by decide), if_true]
theorem dk_7 : (v12_does q (cn 7) a b c d x f).2 = (v12_doRule q a b c d).2 := by
  unfold v12_does bv12_does
  simp only [if_neg (show ¬ cn 7 = cn 0 by decide), if_neg (show ¬ cn 7 = cn 1 by decide), if_neg (show ¬ cn 7 = cn 2 by decide), if_neg (show ¬ cn 7 = cn 3 by decide), if_neg (show ¬ cn 7 = cn 4 by decide), if_neg (show ¬ cn 7 = cn 5 by decide), if_neg (show ¬ cn 7 = cn 6 by decide), if_true]
theorem dk_11 : (v12_does q (cn 11) a b c d x f).2 = (v12_doAuction q a b c d).2 := by
  unfold v12_does bv12_does
  simp only [if_neg (show ¬ cn 11 = cn 0 by decide), if_neg (show ¬ cn 11 = cn 1 by decide), if_neg (show ¬ cn 11 = cn 2 by decide), if_neg (show ¬ cn 11 = cn 3 by decide), if_neg (show ¬ cn 11 = cn 4 by decide), if_neg (show ¬ cn 11 = cn 5 by decide), if_neg (show ¬ cn 11 = cn 6 by decide), if_neg (show ¬ cn 11 = cn 7 by decide), if_neg (show ¬ cn 11 = cn 8 by decide), if_neg (show ¬ cn 11 = cn 9 by decide), if_neg (show ¬ cn 11 = cn 10 by decide), if_true]
theorem dk_12 : (v12_does q (cn 12) a b c d x f).2 = (v12_doPass q a).2 := by
  unfold v12_does bv12_does
  simp only [if_neg (show ¬ cn 12 = cn 0 by decide), if_neg (show ¬ cn 12 = cn 1 by decide), if_neg (show ¬ cn 12 = cn 2 by decide), if_neg (show ¬ cn 12 = cn 3 by decide), if_neg (show ¬ cn 12 = cn 4 by decide), if_neg (show ¬ cn 12 = cn 5 by decide), if_neg (show ¬ cn 12 = cn 6 by decide), if_neg (show ¬ cn 12 = cn 7 by decide), if_neg (show ¬ cn 12 = cn 8 by decide), if_neg (show ¬ cn 12 = cn 9 by decide), if_neg (show ¬ cn 12 = cn 10 by decide), if_neg (show ¬ cn 12 = cn 11 by decide), if_true]
theorem dk_13 : (v12_does q (cn 13) a b c d x f).2 = (v12_doEndDay q ).2 := by
  unfold v12_does bv12_does
  simp only [if_neg (show ¬ cn 13 = cn 0 by decide), if_neg (show ¬ cn 13 = cn 1 by decide), if_neg (show ¬ cn 13 = cn 2 by decide), if_neg (show ¬ cn 13 = cn 3 by decide), if_neg (show ¬ cn 13 = cn 4 by decide), if_neg (show ¬ cn 13 = cn 5 by decide), if_neg (show ¬ cn 13 = cn 6 by decide), if_neg (show ¬ cn 13 = cn 7 by decide), if_neg (show ¬ cn 13 = cn 8 by decide), if_neg (show ¬ cn 13 = cn 9 by decide), if_neg (show ¬ cn 13 = cn 10 by decide), if_neg (show ¬ cn 13 = cn 11 by decide), if_neg (show ¬ cn 13 = cn 12 by decide), if_true]
theorem dk_14 : (v12_does q (cn 14) a b c d x f).2 = (v12_doBust q a).2 := by
  unfold v12_does bv12_does
  simp only [if_neg (show ¬ cn 14 = cn 0 by decide), if_neg (show ¬ cn 14 = cn 1 by decide), if_neg (show ¬ cn 14 = cn 2 by decide), if_neg (show ¬ cn 14 = cn 3 by decide), if_neg (show ¬ cn 14 = cn 4 by decide), if_neg (show ¬ cn 14 = cn 5 by decide), if_neg (show ¬ cn 14 = cn 6 by decide), if_neg (show ¬ cn 14 = cn 7 by decide), if_neg (show ¬ cn 14 = cn 8 by decide), if_neg (show ¬ cn 14 = cn 9 by decide), if_neg (show ¬ cn 14 = cn 10 by decide), if_neg (show ¬ cn 14 = cn 11 by decide), if_neg (show ¬ cn 14 = cn 12 by decide), if_neg (show ¬ cn 14 = cn 13 by decide), if_true]
theorem dk_19 : (v12_does q (cn 19) a b c d x f).2 = (v12_doConvert q a b c).2 := by
  unfold v12_does bv12_does
  simp only [if_neg (show ¬ cn 19 = cn 0 by decide), if_neg (show ¬ cn 19 = cn 1 by decide), if_neg (show ¬ cn 19 = cn 2 by decide), if_neg (show ¬ cn 19 = cn 3 by decide), if_neg (show ¬ cn 19 = cn 4 by decide), if_neg (show ¬ cn 19 = cn 5 by decide), if_neg (show ¬ cn 19 = cn 6 by decide), if_neg (show ¬ cn 19 = cn 7 by decide), if_neg (show ¬ cn 19 = cn 8 by decide), if_neg (show ¬ cn 19 = cn 9 by decide), if_neg (show ¬ cn 19 = cn 10 by decide), if_neg (show ¬ cn 19 = cn 11 by decide), if_neg (show ¬ cn 19 = cn 12 by decide), if_neg (show ¬ cn 19 = cn 13 by decide), if_neg (show ¬ cn 19 = cn 14 by decide), if_neg (show ¬ cn 19 = cn 15 by decide), if_neg (show ¬ cn 19 = cn 16 by decide), if_true]
  unfold v12_doesMore bv12_doesMore
  simp only [if_neg (show ¬ cn 19 = cn 17 by decide), if_neg (show ¬ cn 19 = cn 18 by decide), if_true]
theorem dk_22 : (v12_does q (cn 22) a b c d x f).2 = (v12_doPay q a b c).2 := by
  unfold v12_does bv12_does
  simp only [if_neg (show ¬ cn 22 = cn 0 by decide), if_neg (show ¬ cn 22 = cn 1 by decide), if_neg (show ¬ cn 22 = cn 2 by decide), if_neg (show ¬ cn 22 = cn 3 by decide), if_neg (show ¬ cn 22 = cn 4 by decide), if_neg (show ¬ cn 22 = cn 5 by decide), if_neg (show ¬ cn 22 = cn 6 by decide), if_neg (show ¬ cn 22 = cn 7 by decide), if_neg (show ¬ cn 22 = cn 8 by decide), if_neg (show ¬ cn 22 = cn 9 by decide), if_neg (show ¬ cn 22 = cn 10 by decide), if_neg (show ¬ cn 22 = cn 11 by decide), if_neg (show ¬ cn 22 = cn 12 by decide), if_neg (show ¬ cn 22 = cn 13 by decide), if_neg (show ¬ cn 22 = cn 14 by decide), if_neg (show ¬ cn 22 = cn 15 by decide), if_neg (show ¬ cn 22 = cn 16 by decide), if_true]
  unfold v12_doesMore bv12_doesMore
  simp only [if_neg (show ¬ cn 22 = cn 17 by decide), if_neg (show ¬ cn 22 = cn 18 by decide), if_neg (show ¬ cn 22 = cn 19 by decide), if_neg (show ¬ cn 22 = cn 20 by decide), if_neg (show ¬ cn 22 = cn 21 by decide), if_true]
theorem dk_24 : (v12_does q (cn 24) a b c d x f).2 = (v12_doFail q a).2 := by
  unfold v12_does bv12_does
  simp only [if_neg (show ¬ cn 24 = cn 0 by decide), if_neg (show ¬ cn 24 = cn 1 by decide), if_neg (show ¬ cn 24 = cn 2 by decide), if_neg (show ¬ cn 24 = cn 3 by decide), if_neg (show ¬ cn 24 = cn 4 by decide), if_neg (show ¬ cn 24 = cn 5 by decide), if_neg (show ¬ cn 24 = cn 6 by decide), if_neg (show ¬ cn 24 = cn 7 by decide), if_neg (show ¬ cn 24 = cn 8 by decide), if_neg (show ¬ cn 24 = cn 9 by decide), if_neg (show ¬ cn 24 = cn 10 by decide), if_neg (show ¬ cn 24 = cn 11 by decide), if_neg (show ¬ cn 24 = cn 12 by decide), if_neg (show ¬ cn 24 = cn 13 by decide), if_neg (show ¬ cn 24 = cn 14 by decide), if_neg (show ¬ cn 24 = cn 15 by decide), if_neg (show ¬ cn 24 = cn 16 by decide), if_true]
  unfold v12_doesMore bv12_doesMore
  simp only [if_neg (show ¬ cn 24 = cn 17 by decide), if_neg (show ¬ cn 24 = cn 18 by decide), if_neg (show ¬ cn 24 = cn 19 by decide), if_neg (show ¬ cn 24 = cn 20 by decide), if_neg (show ¬ cn 24 = cn 21 by decide), if_neg (show ¬ cn 24 = cn 22 by decide), if_neg (show ¬ cn 24 = cn 23 by decide), if_true]
theorem dk_25 : (v12_does q (cn 25) a b c d x f).2 = (v12_doBid q a b).2 := by
  unfold v12_does bv12_does
  simp only [if_neg (show ¬ cn 25 = cn 0 by decide), if_neg (show ¬ cn 25 = cn 1 by decide), if_neg (show ¬ cn 25 = cn 2 by decide), if_neg (show ¬ cn 25 = cn 3 by decide), if_neg (show ¬ cn 25 = cn 4 by decide), if_neg (show ¬ cn 25 = cn 5 by decide), if_neg (show ¬ cn 25 = cn 6 by decide), if_neg (show ¬ cn 25 = cn 7 by decide), if_neg (show ¬ cn 25 = cn 8 by decide), if_neg (show ¬ cn 25 = cn 9 by decide), if_neg (show ¬ cn 25 = cn 10 by decide), if_neg (show ¬ cn 25 = cn 11 by decide), if_neg (show ¬ cn 25 = cn 12 by decide), if_neg (show ¬ cn 25 = cn 13 by decide), if_neg (show ¬ cn 25 = cn 14 by decide), if_neg (show ¬ cn 25 = cn 15 by decide), if_neg (show ¬ cn 25 = cn 16 by decide), if_true]
  unfold v12_doesMore bv12_doesMore
  simp only [if_neg (show ¬ cn 25 = cn 17 by decide), if_neg (show ¬ cn 25 = cn 18 by decide), if_neg (show ¬ cn 25 = cn 19 by decide), if_neg (show ¬ cn 25 = cn 20 by decide), if_neg (show ¬ cn 25 = cn 21 by decide), if_neg (show ¬ cn 25 = cn 22 by decide), if_neg (show ¬ cn 25 = cn 23 by decide), if_neg (show ¬ cn 25 = cn 24 by decide), if_true]
theorem dk_8 : (v12_does q (cn 8) a b c d x f).2 = (v12_puts q 9 a (v12_in q a (cn 0) (cn 5)) b (v12_in q b (cn 0) (cn 9999))).2 := by
  unfold v12_does bv12_does
  simp only [if_neg (show ¬ cn 8 = cn 0 by decide), if_neg (show ¬ cn 8 = cn 1 by decide), if_neg (show ¬ cn 8 = cn 2 by decide), if_neg (show ¬ cn 8 = cn 3 by decide), if_neg (show ¬ cn 8 = cn 4 by decide), if_neg (show ¬ cn 8 = cn 5 by decide), if_neg (show ¬ cn 8 = cn 6 by decide), if_neg (show ¬ cn 8 = cn 7 by decide), if_true]
theorem dk_9 : (v12_does q (cn 9) a b c d x f).2 = (v12_puts q 3 a (v12_isAccount q a) b (v12_in q b (cn 0) (cn 999))).2 := by
  unfold v12_does bv12_does
  simp only [if_neg (show ¬ cn 9 = cn 0 by decide), if_neg (show ¬ cn 9 = cn 1 by decide), if_neg (show ¬ cn 9 = cn 2 by decide), if_neg (show ¬ cn 9 = cn 3 by decide), if_neg (show ¬ cn 9 = cn 4 by decide), if_neg (show ¬ cn 9 = cn 5 by decide), if_neg (show ¬ cn 9 = cn 6 by decide), if_neg (show ¬ cn 9 = cn 7 by decide), if_neg (show ¬ cn 9 = cn 8 by decide), if_true]
end Disp
/-- all that counts stays, but what small events write (and b of 13) -/
def QT (B : Nat) (q p : PM) : Prop := (∀ K, ¬ K = 3 → ¬ K = 9 → ¬ K = 36 → ¬ K = 37 → ¬ K = B → p.1 13 K = q.1 13 K) ∧ p.1 15 = q.1 15 ∧ p.2.1 14 = q.2.1 14 ∧ ∀ S, ¬ S = 0 → ¬ S = 50 → p.1 12 1 S = q.1 12 1 S
theorem qt_refl {B : Nat} (q : PM) : QT B q q := ⟨fun _ _ _ _ _ _ => rfl, rfl, rfl, fun _ _ _ => rfl⟩
theorem qt_12 {B : Nat} {q p : PM} {s : Nat} {v : Int32} (hs : s = 0 ∨ s = 50) (h : QT B q p) : QT B q (pI p 12 1 s v) := by
  obtain ⟨h1, h2, h3, h4⟩ := h
  refine ⟨fun K a1 a2 a3 a4 a5 => ?_, ?_, h3, fun S k1 k2 => ?_⟩
  · rw [← h1 K a1 a2 a3 a4 a5]
    funext j
    rw [pI_1, u3_k (by decide)]
  · rw [← h2]
    funext i j
    rw [pI_1, u3_k (by decide)]
  · rw [← h4 S k1 k2, pI_1, u3_s (by omega)]
theorem qt_13 {B : Nat} {q p : PM} {i s : Nat} {v : Int32} (hi : i = 3 ∨ i = 9 ∨ i = 36 ∨ i = 37 ∨ i = B) (h : QT B q p) : QT B q (pI p 13 i s v) := by
  obtain ⟨h1, h2, h3, h4⟩ := h
  refine ⟨fun K a1 a2 a3 a4 a5 => ?_, ?_, h3, fun S k1 k2 => ?_⟩
  · rw [← h1 K a1 a2 a3 a4 a5]
    funext j
    rw [pI_1, u3_i (by omega)]
  · rw [← h2]
    funext i j
    rw [pI_1, u3_k (by decide)]
  · rw [← h4 S k1 k2, pI_1, u3_k (by decide)]
theorem qt_puts {B : Nat} {q p : PM} {K : Nat} {i o1 v o2 : Int32} (hK : K = 3 ∨ K = 9 ∨ K = 36 ∨ K = 37 ∨ K = B) (h : QT B q p) : QT B q (v12_puts p K i o1 v o2).2 := by
  unfold v12_puts bv12_puts
  repeat' first
    | with_reducible exact h
    | with_reducible refine qt_12 (by decide) ?_
    | with_reducible refine qt_13 hK ?_
    | split
    | dsimp only
theorem qt_v12_call {B : Nat} {q : PM}  {p : PM} (v1 : Int32) (v2 : Int64) (v4 : Int64)  (h : QT B q p) : QT B q (v12_call p v1 v2 v4).2 := by
  unfold v12_call bv12_call
  repeat' first
    | with_reducible exact h
    | with_reducible refine qt_12 (by decide) ?_
    | with_reducible refine qt_13 (by omega) ?_
    | split
    | dsimp only
theorem qt_v12_callOf {B : Nat} {q : PM}  {p : PM} (v1 : Int32)  (h : QT B q p) : QT B q (v12_callOf p v1).2 := by
  unfold v12_callOf bv12_callOf
  repeat' first
    | with_reducible exact h
    | with_reducible refine qt_12 (by decide) ?_
    | with_reducible refine qt_13 (by omega) ?_
    | with_reducible apply qt_v12_call
    | split
    | dsimp only
theorem qt_v12_doPay_89 {B : Nat} {q : PM}  {p : PM} (v1 : Int32) (v2 : Int32) (v3 : Int32)  (h : QT B q p) : QT B q (v12_doPay_89 p v1 v2 v3).2 := by
  unfold v12_doPay_89 bv12_doPay_89
  repeat' first
    | with_reducible exact h
    | with_reducible refine qt_12 (by decide) ?_
    | with_reducible refine qt_13 (by omega) ?_
    | with_reducible apply qt_v12_call
    | with_reducible apply qt_v12_callOf
    | split
    | dsimp only
theorem qt_v12_doPay_38 {B : Nat} {q : PM}  {p : PM} (v1 : Int32) (v2 : Int32) (v3 : Int32)  (h : QT B q p) : QT B q (v12_doPay_38 p v1 v2 v3).2 := by
  unfold v12_doPay_38 bv12_doPay_38
  repeat' first
    | with_reducible exact h
    | with_reducible refine qt_12 (by decide) ?_
    | with_reducible refine qt_13 (by omega) ?_
    | with_reducible apply qt_v12_doPay_89
    | split
    | dsimp only
theorem qt_v12_doPay {B : Nat} {q : PM}  {p : PM} (v1 : Int32) (v2 : Int32) (v3 : Int32)  (h : QT B q p) : QT B q (v12_doPay p v1 v2 v3).2 := by
  unfold v12_doPay bv12_doPay
  repeat' first
    | with_reducible exact h
    | with_reducible refine qt_12 (by decide) ?_
    | with_reducible refine qt_13 (by omega) ?_
    | with_reducible apply qt_v12_doPay_38
    | with_reducible apply qt_v12_doPay_89
    | split
    | dsimp only
section Small
variable {q : PM} {a b c d x f : Int32}
theorem qt_8 : QT 9 q (v12_does q (cn 8) a b c d x f).2 := by
  rw [dk_8]
  exact qt_puts (by decide) (qt_refl q)
theorem qt_9 : QT 9 q (v12_does q (cn 9) a b c d x f).2 := by
  rw [dk_9]
  exact qt_puts (by decide) (qt_refl q)
theorem qt_22 : QT 9 q (v12_does q (cn 22) a b c d x f).2 := by
  rw [dk_22]
  exact qt_v12_doPay _ _ _ (qt_refl q)
theorem qt_20 : QT 35 q (v12_does q (cn 20) a b c d x f).2 := by
  unfold v12_does bv12_does
  simp only [if_neg (show ¬ cn 20 = cn 0 by decide), if_neg (show ¬ cn 20 = cn 1 by decide), if_neg (show ¬ cn 20 = cn 2 by decide), if_neg (show ¬ cn 20 = cn 3 by decide), if_neg (show ¬ cn 20 = cn 4 by decide), if_neg (show ¬ cn 20 = cn 5 by decide), if_neg (show ¬ cn 20 = cn 6 by decide), if_neg (show ¬ cn 20 = cn 7 by decide), if_neg (show ¬ cn 20 = cn 8 by decide), if_neg (show ¬ cn 20 = cn 9 by decide), if_neg (show ¬ cn 20 = cn 10 by decide), if_neg (show ¬ cn 20 = cn 11 by decide), if_neg (show ¬ cn 20 = cn 12 by decide), if_neg (show ¬ cn 20 = cn 13 by decide), if_neg (show ¬ cn 20 = cn 14 by decide), if_neg (show ¬ cn 20 = cn 15 by decide), if_neg (show ¬ cn 20 = cn 16 by decide), if_true]
  unfold v12_doesMore bv12_doesMore
  simp only [if_neg (show ¬ cn 20 = cn 17 by decide), if_neg (show ¬ cn 20 = cn 18 by decide), if_neg (show ¬ cn 20 = cn 19 by decide), if_true]
  repeat' first
    | with_reducible exact qt_refl q
    | with_reducible refine qt_puts (by decide) ?_
    | (unfold v12_doesMore_116 bv12_doesMore_116; dsimp only)
    | split
    | dsimp only
theorem qt_21 : QT 9 q (v12_does q (cn 21) a b c d x f).2 := by
  unfold v12_does bv12_does
  simp only [if_neg (show ¬ cn 21 = cn 0 by decide), if_neg (show ¬ cn 21 = cn 1 by decide), if_neg (show ¬ cn 21 = cn 2 by decide), if_neg (show ¬ cn 21 = cn 3 by decide), if_neg (show ¬ cn 21 = cn 4 by decide), if_neg (show ¬ cn 21 = cn 5 by decide), if_neg (show ¬ cn 21 = cn 6 by decide), if_neg (show ¬ cn 21 = cn 7 by decide), if_neg (show ¬ cn 21 = cn 8 by decide), if_neg (show ¬ cn 21 = cn 9 by decide), if_neg (show ¬ cn 21 = cn 10 by decide), if_neg (show ¬ cn 21 = cn 11 by decide), if_neg (show ¬ cn 21 = cn 12 by decide), if_neg (show ¬ cn 21 = cn 13 by decide), if_neg (show ¬ cn 21 = cn 14 by decide), if_neg (show ¬ cn 21 = cn 15 by decide), if_neg (show ¬ cn 21 = cn 16 by decide), if_true]
  unfold v12_doesMore bv12_doesMore
  simp only [if_neg (show ¬ cn 21 = cn 17 by decide), if_neg (show ¬ cn 21 = cn 18 by decide), if_neg (show ¬ cn 21 = cn 19 by decide), if_neg (show ¬ cn 21 = cn 20 by decide), if_true]
  repeat' first
    | with_reducible exact qt_refl q
    | with_reducible refine qt_12 (by decide) ?_
    | (unfold v12_doesMore_149 bv12_doesMore_149; dsimp only)
    | split
    | dsimp only
/-- a cell is put, where it is not refused -/
theorem puts_x {K : Nat} {i o1 v o2 : Int32} (h : (v12_puts q K i o1 v o2).2.1 12 1 0 = 0) : ∀ j, (v12_puts q K i o1 v o2).2.1 13 K j = if j = i.toNatClampNeg then v else q.1 13 K j := by
  have c10 : ¬ cn 1 = (0 : Int32) := by decide
  have c20 : ¬ cn 2 = (0 : Int32) := by decide
  have c00 : cn 0 = (0 : Int32) := rfl
  intro j
  unfold v12_puts bv12_puts at h ⊢
  by_cases g1 : o1 = 0
  · simp only [if_pos g1, pI_at, if_neg c10] at h
    exact absurd h c10
  · by_cases g2 : o2 = 0
    · simp only [if_neg g1, if_pos g2, pI_at, if_neg c20] at h
      exact absurd h c20
    · simp only [if_neg g1, if_neg g2, pI_at, if_pos c00]
      by_cases ej : j = i.toNatClampNeg
      · rw [if_pos ej, ej, pI_at]
      · rw [if_neg ej, pI_1, u3_s ej, pI_1, u3_k (by decide)]
theorem mv_20 {s C : Nat} (hs : s < 4) (hC : C < 4) (h : (v12_does q (cn 20) (cn s) (cn C) c d x f).2.1 12 1 0 = 0) : ∀ j, (v12_does q (cn 20) (cn s) (cn C) c d x f).2.1 13 35 j = if j = 4 * s + C then c else q.1 13 35 j := by
  have e : (v12_does q (cn 20) (cn s) (cn C) c d x f).2 = (v12_puts q 35 (cn 4 * cn s + cn C) (cn 1) c (v12_in q c (cn (-99)) (cn 99))).2 := by
    have w1 : ¬ v12_in q (cn s) (cn 0) (cn 3) = 0 := by
      have h2 : ¬ isW (cn s) (cn 0) (cn 3) = 0 := isW_y (by decide) (by decide) (by omega) (by omega)
      exact h2
    have w2 : ¬ v12_in q (cn C) (cn 0) (cn 3) = 0 := by
      have h2 : ¬ isW (cn C) (cn 0) (cn 3) = 0 := isW_y (by decide) (by decide) (by omega) (by omega)
      exact h2
    unfold v12_does bv12_does
    simp only [if_neg (show ¬ cn 20 = cn 0 by decide), if_neg (show ¬ cn 20 = cn 1 by decide), if_neg (show ¬ cn 20 = cn 2 by decide), if_neg (show ¬ cn 20 = cn 3 by decide), if_neg (show ¬ cn 20 = cn 4 by decide), if_neg (show ¬ cn 20 = cn 5 by decide), if_neg (show ¬ cn 20 = cn 6 by decide), if_neg (show ¬ cn 20 = cn 7 by decide), if_neg (show ¬ cn 20 = cn 8 by decide), if_neg (show ¬ cn 20 = cn 9 by decide), if_neg (show ¬ cn 20 = cn 10 by decide), if_neg (show ¬ cn 20 = cn 11 by decide), if_neg (show ¬ cn 20 = cn 12 by decide), if_neg (show ¬ cn 20 = cn 13 by decide), if_neg (show ¬ cn 20 = cn 14 by decide), if_neg (show ¬ cn 20 = cn 15 by decide), if_neg (show ¬ cn 20 = cn 16 by decide), if_true]
    unfold v12_doesMore bv12_doesMore
    simp only [if_neg (show ¬ cn 20 = cn 17 by decide), if_neg (show ¬ cn 20 = cn 18 by decide), if_neg (show ¬ cn 20 = cn 19 by decide), if_true]
    simp only [if_neg w1, if_neg w2]
  rw [e, idx4] at h ⊢
  have h2 := puts_x h
  rw [cntk (i := 4 * s + C) (by omega)] at h2
  exact h2
end Small
/-- orders go -/
def F7 (q p : PM) : Prop := p.1 13 = q.1 13 ∧ p.1 12 = q.1 12 ∧ (∀ K, ¬ K = 3 → p.1 15 K = q.1 15 K) ∧ p.2 = q.2
theorem f7_15 {q p : PM} {s : Nat} {v : Int32} (h : F7 q p) : F7 q (pI p 15 3 s v) := by
  obtain ⟨h1, h2, h3, h4⟩ := h
  refine ⟨?_, ?_, fun K hK => ?_, h4⟩
  · rw [← h1]
    funext i j
    rw [pI_1, u3_k (by decide)]
  · rw [← h2]
    funext i j
    rw [pI_1, u3_k (by decide)]
  · rw [← h3 K hK]
    funext j
    rw [pI_1, u3_i hK]
theorem f7_73 {q : PM} : ∀ (n : Nat) {p : PM} (c0 c1 c2 : Int32), F7 q p → F7 q (v12_doFail_73 n p c0 c1 c2).2 := by
  intro n
  induction n with
  | zero =>
    intro p c0 c1 c2 h
    exact h
  | succ n ih =>
    intro p c0 c1 c2 h
    rw [ev12_doFail_73]
    unfold bv12_doFail_73
    repeat' first
      | with_reducible exact h
      | with_reducible apply ih
      | with_reducible refine f7_15 ?_
      | split
      | dsimp only
theorem b83 : ∀ (n : Nat) (p : PM) (c0 c1 : Int32), (v12_doBid_83 n p c0 c1).2 = p := by
  intro n
  induction n with
  | zero =>
    intro p c0 c1
    rfl
  | succ n ih =>
    intro p c0 c1
    rw [ev12_doBid_83]
    unfold bv12_doBid_83
    split
    · split
      · exact ih _ _ _
      · exact ih _ _ _
    · rfl
section Dflt
variable {q : PM} {v1 v2 : Int32}
theorem fail_x (h : (v12_doFail q v1).2.1 12 1 0 = 0) : (∀ j, (v12_doFail q v1).2.1 15 9 j = if j = v1.toNatClampNeg then cn 1 else q.1 15 9 j) ∧ (v12_doFail q v1).2.1 12 1 57 = v1 ∧ (v12_doFail q v1).2.1 15 10 = q.1 15 10 ∧ (v12_doFail q v1).2.1 13 35 = q.1 13 35 ∧ (q.1 12 1 57 < 0 ∧ q.1 15 9 v1.toNatClampNeg = 0) ∧ (∀ K, ¬ K = 3 → ¬ K = 9 → ¬ K = 36 → ¬ K = 37 → (v12_doFail q v1).2.1 13 K = q.1 13 K) ∧ (v12_doFail q v1).2.2.1 14 = q.2.1 14 ∧ (v12_doFail q v1).2.1 15 8 = q.1 15 8 ∧ (v12_doFail q v1).2.1 12 1 95 = q.1 12 1 95 := by
  have c10 : ¬ cn 1 = (0 : Int32) := by decide
  have c20 : ¬ cn 2 = (0 : Int32) := by decide
  have c00 : cn 0 = (0 : Int32) := rfl
  obtain ⟨r, hr⟩ : ∃ r, v12_callOf q v1 = r := ⟨_, rfl⟩
  have hq : QT 9 q r.2 := by
    rw [← hr]
    exact qt_v12_callOf _ (qt_refl q)
  unfold v12_doFail bv12_doFail at h ⊢
  rw [hr] at h ⊢
  by_cases g1 : v12_in q v1 (cn 0) (cn 3) = 0
  · simp only [if_pos g1, pI_at, if_neg c10] at h
    exact absurd h c10
  · by_cases g2 : q.1 15 9 v1.toNatClampNeg = 0
    · by_cases g3 : lg_cmp r.1 (cl 0) = 0
      · simp only [if_neg g1, if_pos g2, if_pos g3, pI_at, if_neg c20] at h
        exact absurd h c20
      · by_cases g4 : r.2.1 12 1 57 < 0
        · simp only [if_neg g1, if_pos g2, if_neg g3, if_pos g4, pI_at, if_pos c00]
          obtain ⟨k1, k2, k3, k4⟩ := f7_73 (q := pI (pI (pI r.2 12 1 0 (cn 0)) 15 9 v1.toNatClampNeg (cn 1)) 12 1 57 v1) FU v1 (cn 0) (cn 0) ⟨rfl, rfl, fun _ _ => rfl, rfl⟩
          rw [k1, k2, k3 9 (by decide), k3 10 (by decide), k3 8 (by decide), k4]
          refine ⟨fun j => ?_, pI_at, ?_, ?_, ⟨by rw [← hq.2.2.2 57 (by decide) (by decide)]; exact g4, g2⟩, fun K a1 a2 a3 a4 => ?_, hq.2.2.1, ?_, ?_⟩
          · rw [pI_1, u3_k (by decide), pI_1]
            by_cases ej : j = v1.toNatClampNeg
            · rw [if_pos ej, ej, u3_same]
            · rw [if_neg ej, u3_s ej, pI_1, u3_k (by decide), hq.2.1]
          · funext j
            rw [pI_1, u3_k (by decide), pI_1, u3_i (by decide), pI_1, u3_k (by decide), hq.2.1]
          · funext j
            rw [pI_1, u3_k (by decide), pI_1, u3_k (by decide), pI_1, u3_k (by decide), hq.1 35 (by decide) (by decide) (by decide) (by decide) (by decide)]
          · funext j
            rw [pI_1, u3_k (by decide), pI_1, u3_k (by decide), pI_1, u3_k (by decide), hq.1 K a1 a2 a3 a4 a2]
          · funext j
            rw [pI_1, u3_k (by decide), pI_1, u3_i (by decide), pI_1, u3_k (by decide), hq.2.1]
          · rw [pI_1, u3_s (by decide), pI_1, u3_k (by decide), pI_1, u3_s (by decide), hq.2.2.2 95 (by decide) (by decide)]
        · simp only [if_neg g1, if_pos g2, if_neg g3, if_neg g4, pI_at, if_neg c20] at h
          exact absurd h c20
    · simp only [if_neg g1, if_neg g2, pI_at, if_neg c20] at h
      exact absurd h c20
theorem bid_x (h : (v12_doBid q v1 v2).2.1 12 1 0 = 0) : (v12_doBid q v1 v2).2.1 15 9 = q.1 15 9 ∧ (v12_doBid q v1 v2).2.1 12 1 57 = q.1 12 1 57 ∧ (∀ j, (v12_doBid q v1 v2).2.1 15 10 j = if j = v1.toNatClampNeg then cn 1 else q.1 15 10 j) ∧ (v12_doBid q v1 v2).2.1 13 35 = q.1 13 35 ∧ ¬ q.1 12 1 57 < 0 ∧ (∀ K, ¬ K = 39 → (v12_doBid q v1 v2).2.1 13 K = q.1 13 K) ∧ (v12_doBid q v1 v2).2.2.1 14 = q.2.1 14 ∧ (v12_doBid q v1 v2).2.1 15 8 = q.1 15 8 ∧ (v12_doBid q v1 v2).2.1 12 1 95 = q.1 12 1 95 := by
  have c10 : ¬ cn 1 = (0 : Int32) := by decide
  have c20 : ¬ cn 2 = (0 : Int32) := by decide
  have c30 : ¬ cn 3 = (0 : Int32) := by decide
  have c00 : cn 0 = (0 : Int32) := rfl
  unfold v12_doBid bv12_doBid at h ⊢
  by_cases g1 : v12_in q v1 (cn 0) (cn 3) = 0
  · simp only [if_pos g1, pI_at, if_neg c10] at h
    exact absurd h c10
  · by_cases g2 : v12_in q v2 (cn (-9999)) (cn 9999) = 0
    · simp only [if_neg g1, if_pos g2, pI_at, if_neg c20] at h
      exact absurd h c20
    · by_cases g3 : q.1 12 1 57 < 0
      · simp only [if_neg g1, if_neg g2, if_pos g3, pI_at, if_neg c30] at h
        exact absurd h c30
      · by_cases g4 : q.1 15 9 v1.toNatClampNeg = 0
        · simp only [if_neg g1, if_neg g2, if_neg g3, if_pos g4, pI_at, if_pos c00, b83]
          refine ⟨?_, ?_, fun j => ?_, ?_, g3, fun K hK => ?_, rfl, ?_, ?_⟩
          · funext j
            rw [pI_1, u3_k (by decide), pI_1, u3_i (by decide), pI_1, u3_k (by decide)]
          · rw [pI_1, u3_k (by decide), pI_1, u3_k (by decide), pI_1, u3_s (by decide)]
          · rw [pI_1, u3_k (by decide), pI_1]
            by_cases ej : j = v1.toNatClampNeg
            · rw [if_pos ej, ej, u3_same]
            · rw [if_neg ej, u3_s ej, pI_1, u3_k (by decide)]
          · funext j
            rw [pI_1, u3_i (by decide), pI_1, u3_k (by decide), pI_1, u3_k (by decide)]
          · funext j
            rw [pI_1, u3_i hK, pI_1, u3_k (by decide), pI_1, u3_k (by decide)]
          · funext j
            rw [pI_1, u3_k (by decide), pI_1, u3_i (by decide), pI_1, u3_k (by decide)]
          · rw [pI_1, u3_k (by decide), pI_1, u3_k (by decide), pI_1, u3_s (by decide)]
        · simp only [if_neg g1, if_neg g2, if_neg g3, if_neg g4, pI_at, if_neg c30] at h
          exact absurd h c30
end Dflt
