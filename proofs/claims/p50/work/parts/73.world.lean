/-! the whole of an exchange side by side -/
/-- fallen lots: the reference is f ahead -/
def TrF (p q : PM) (a : Nat) (f : Int) : Prop := (∀ c, c < 4 → ∃ z : Int, 0 ≤ z ∧ z ≤ 999 ∧ p.1 13 (2 * (a + 1)) c = cn z ∧ q.1 13 2 (4 * a + c) = cn z) ∧ (∃ z : Int, 0 ≤ z ∧ z ≤ 999 ∧ p.1 0 (a + 1) 5 = cn z ∧ q.1 13 3 a = cn z) ∧ (∃ z : Int, 0 ≤ z ∧ z + f ≤ 1000000000 ∧ p.1 0 (a + 1) 6 = cn z ∧ q.1 13 4 a = cn (z + f)) ∧ (p.1 0 (a + 1) 7 = q.1 15 1 a ∧ b01 (q.1 15 1 a)) ∧ p.1 0 (a + 1) 8 = q.1 13 5 a
def AF (p q : PM) (f : Nat → Int) : Prop := (∀ a, a < 9 → AcR p q a) ∧ ∀ a, a < 8 → 0 ≤ f a ∧ TrF p q a (f a)
theorem af_ar {p q : PM} (H : AF p q (fun _ => 0)) : AR p q := by
  refine ⟨H.1, fun a ha => ?_⟩
  obtain ⟨-, h1, h2, ⟨z, z1, z2, z3, z4⟩, h4, h5⟩ := H.2 a ha
  exact ⟨h1, h2, ⟨z, z1, by have z5 : z + 0 ≤ 1000000000 := z2; omega, z3, z4.trans (by show cn (z + 0) = _; rw [Int.add_zero])⟩, h4, h5⟩
theorem af_c {p p' q q' : PM} {f : Nat → Int} (h0 : p'.1 0 = p.1 0) (h13 : ∀ i, i ≤ 18 → p'.1 13 i = p.1 13 i) (hJ : p'.2.1 = p.2.1) (k1 : q'.1 13 1 = q.1 13 1) (k2 : q'.1 13 2 = q.1 13 2) (k3 : q'.1 13 3 = q.1 13 3) (k4 : q'.1 13 4 = q.1 13 4) (k5 : q'.1 13 5 = q.1 13 5) (k15 : q'.1 15 1 = q.1 15 1) (kJ : q'.2.1 = q.2.1) (H : AF p q f) : AF p' q' f := by
  refine ⟨fun a ha => ?_, fun a ha => ⟨(H.2 a ha).1, ?_⟩⟩
  · have h := H.1 a ha
    unfold AcR at h ⊢
    rw [h13 (2 * (a + 1) - 1) (by omega), hJ, k1, kJ]
    exact h
  · have h := (H.2 a ha).2
    unfold TrF at h ⊢
    rw [h0, h13 (2 * (a + 1)) (by omega), k2, k3, k4, k5, k15]
    exact h
theorem brl_c {p p' q q' : PM} (h1 : p'.1 1 = p.1 1) (k : ∀ i, 6 ≤ i → i ≤ 13 → q'.1 13 i = q.1 13 i) (k15 : q'.1 15 2 = q.1 15 2) (H : BR p q) : BR p' q' := by
  intro b hb
  have h := H b hb
  unfold BkR AucR at h ⊢
  rw [h1, k 6 (by decide) (by decide), k 7 (by decide) (by decide), k 8 (by decide) (by decide), k 9 (by decide) (by decide), k 10 (by decide) (by decide), k 11 (by decide) (by decide), k 12 (by decide) (by decide), k 13 (by decide) (by decide), k15]
  exact h
theorem ck_c {p p' : PM} (h0 : p'.1 0 = p.1 0) (h1 : p'.1 1 = p.1 1) (H : CK p) : CK p' := by
  unfold CK at H ⊢
  rw [h0, h1]
  exact H
/-- a trade that is kept -/
def DealV (p q : PM) (k : Nat) : Prop := ∃ (b A B : Nat) (z n : Int), b < 6 ∧ A < 8 ∧ B < 8 ∧ p.2.2 4 (k + 1) 0 = b + 1 ∧ q.1 13 30 k = cn b ∧ p.2.2 4 (k + 1) 1 = A + 1 ∧ q.1 13 31 k = cn A ∧ p.2.2 4 (k + 1) 2 = B + 1 ∧ q.1 13 32 k = cn B ∧ PrB b z ∧ p.1 4 (k + 1) 3 = cn z ∧ q.1 13 33 k = cn z ∧ 1 ≤ n ∧ n ≤ 50 ∧ p.1 4 (k + 1) 4 = cn n ∧ q.1 13 34 k = cn n ∧ p.1 4 (k + 1) 5 = q.1 15 7 k ∧ b01 (q.1 15 7 k)
/-- the trades: D of them were made -/
def DR (p q : PM) (D : Nat) : Prop := (∀ k, k < 60 → (∃ b, b < 6 ∧ p.2.2 4 (k + 1) 0 = b + 1) ∧ b01 (q.1 15 8 k) ∧ ((p.1 4 (k + 1) 6 = cn 1 ∧ k < D ∧ q.1 15 8 k = cn 0 ∧ DealV p q k) ∨ (p.1 4 (k + 1) 6 = cn 0 ∧ (D ≤ k ∨ q.1 15 8 k = cn 1)))) ∧ p.1 7 1 2 = cn D ∧ q.1 12 1 48 = cn D ∧ D ≤ 1000000000
theorem dr_c {p p' q q' : PM} {D : Nat} (h4 : p'.1 4 = p.1 4) (h7 : p'.1 7 = p.1 7) (hR : p'.2.2 4 = p.2.2 4) (k : ∀ i, 30 ≤ i → i ≤ 34 → q'.1 13 i = q.1 13 i) (k7 : q'.1 15 7 = q.1 15 7) (k8 : q'.1 15 8 = q.1 15 8) (k12 : q'.1 12 1 48 = q.1 12 1 48) (H : DR p q D) : DR p' q' D := by
  unfold DR DealV at H ⊢
  rw [h4, h7, hR, k 30 (by decide) (by decide), k 31 (by decide) (by decide), k 32 (by decide) (by decide), k 33 (by decide) (by decide), k 34 (by decide) (by decide), k7, k8, k12]
  exact H
/-- the positions of a contract, without signs, summed; and with signs, going round -/
def psF (f : Nat → Int32) (c : Nat) : Nat → Int
  | 0 => 0
  | n + 1 => psF f c n + max (f (4 * n + c)).toInt (-(f (4 * n + c)).toInt)
def s3F (f : Nat → Int32) : Nat → Int32
  | 0 => 0
  | n + 1 => s3F f n + f (4 * n + 3)
/-- the cash of all accounts, without signs, summed -/
def csF (f : Nat → Int64) : Nat → Int
  | 0 => 0
  | n + 1 => csF f n + max (f n).toInt (-(f n).toInt)
/-- positions of a contract, and cash, going round -/
def sFu (f : Nat → Int32) (c : Nat) : Nat → Int32
  | 0 => 0
  | n + 1 => sFu f c n + f (4 * n + c)
def cSu (f : Nat → Int64) : Nat → Int64
  | 0 => 0
  | n + 1 => cSu f n + f n
/-- money, funds and the stake; cash and all that -/
def MoQ (q : PM) : Int64 := cSu (fun m => (q.1 13 36 m).toInt64) 4 + cSu (fun m => (q.1 13 38 m).toInt64) 4 + (q.1 12 1 58).toInt64
def ToQ (q : PM) : Int64 := cSu (q.2.1 14 1) 9 + MoQ q
/-- positions of a contract, and what there is in all, stay -/
def BaL (q q' : PM) : Prop := (∀ c, c < 3 → sFu (q'.1 13 1) c 9 = sFu (q.1 13 1) c 9) ∧ ToQ q' = ToQ q
/-- positions grow by trades, and by what stands in lg 4002; those of contract 3 sum up to 0; where lg 4006 is 1, those of the others too, and cash to what lg 4004 and 4005 tell -/
def PD (q : PM) (lg : Nat → Int32) : Prop := (∀ c, c < 4 → psF (q.1 13 1) c 9 ≤ 100 * (q.1 12 1 48).toInt + (lg 4002).toInt) ∧ s3F (q.1 13 1) 9 = 0 ∧ csF (q.2.1 14 1) 9 ≤ 1000000 * (q.1 12 1 48).toInt + 1000000000 * (lg 4003).toInt ∧ (lg 4006 = cn 1 → (∀ c, c < 3 → sFu (q.1 13 1) c 9 = 0) ∧ cSu (q.2.1 14 1) 9 = (lg 4004).toInt64 * 2147483648 + (lg 4005).toInt64) ∧ (lg 4006 = cn 1 → lg 4007 = cn 1 → ∀ c, c < 3 → q.1 13 1 (32 + c) = lg (4012 + c))
/-- members, moves, times, and the reference's log -/
def OT (p q : PM) (lg : Nat → Int32) : Prop := (∀ m, m < 4 → (∃ z : Int, 0 ≤ z ∧ z ≤ 10000000 ∧ p.1 9 (m + 1) 0 = cn z ∧ q.1 13 36 m = cn z) ∧ (∃ z : Int, 0 ≤ z ∧ z ≤ 100000 ∧ p.1 9 (m + 1) 1 = cn z ∧ q.1 13 37 m = cn z) ∧ (∃ z : Int, 0 ≤ z ∧ z ≤ 9999 ∧ p.1 9 (m + 1) 2 = cn z ∧ q.1 13 38 m = cn z) ∧ (p.1 9 (m + 1) 3 = q.1 15 9 m ∧ b01 (q.1 15 9 m)) ∧ (p.1 9 (m + 1) 4 = q.1 15 10 m ∧ b01 (q.1 15 10 m)) ∧ (q.1 15 10 m = cn 1 → ∃ z : Int, -9999 ≤ z ∧ z ≤ 9999 ∧ p.1 9 (m + 1) 5 = cn z ∧ q.1 13 39 m = cn z)) ∧
  (∀ s c, s < 4 → c < 4 → ∃ z : Int, -99 ≤ z ∧ z ≤ 99 ∧ p.1 13 (20 + s) c = cn z ∧ q.1 13 35 (4 * s + c) = cn z) ∧
  (∃ z : Int, 0 ≤ z ∧ z ≤ 100 ∧ p.1 2 1 4 = cn z ∧ q.1 12 1 50 = cn z) ∧
  (∃ z : Int, 0 ≤ z ∧ z ≤ 500 ∧ p.1 2 1 5 = cn z ∧ q.1 12 1 58 = cn z) ∧
  ((p.1 2 1 6 = cn (-100000) ∧ q.1 12 1 57 = cn (-1)) ∨ ∃ m : Nat, m < 4 ∧ p.1 2 1 6 = cn m ∧ q.1 12 1 57 = cn m) ∧
  (∃ t : Nat, t ≤ 900000 ∧ p.1 6 1 2 = cn t ∧ q.1 12 1 17 = cn t) ∧
  (∃ t : Nat, t ≤ 900000 ∧ p.1 6 1 3 = cn t ∧ q.1 12 1 18 = cn t) ∧
  (∀ j, j < 4000 → q.1 13 40 j = lg j) ∧ q.1 12 1 60 = lg 4000 ∧ q.1 12 1 61 = lg 4001 ∧ PD q lg
theorem pd_c {p q q' : PM} {lg : Nat → Int32} (h1 : q'.1 13 1 = q.1 13 1) (h2 : q'.1 12 1 48 = q.1 12 1 48) (h3 : q'.2.1 = q.2.1) (H : OT p q lg) : PD q' lg := by
  have h := H.2.2.2.2.2.2.2.2.2.2
  unfold PD at h ⊢
  rw [h1, h2, h3]
  exact h
theorem ot_c {p p' q q' : PM} {lg : Nat → Int32} (h9 : p'.1 9 = p.1 9) (h13 : ∀ i, 20 ≤ i → p'.1 13 i = p.1 13 i) (h2 : p'.1 2 = p.1 2) (h62 : p'.1 6 1 2 = p.1 6 1 2) (h63 : p'.1 6 1 3 = p.1 6 1 3) (k : ∀ i, 35 ≤ i → i ≤ 40 → q'.1 13 i = q.1 13 i) (k9 : q'.1 15 9 = q.1 15 9) (k10 : q'.1 15 10 = q.1 15 10) (k12 : ∀ i, i = 17 ∨ i = 18 ∨ i = 50 ∨ i = 57 ∨ i = 58 ∨ i = 60 ∨ i = 61 → q'.1 12 1 i = q.1 12 1 i) (H : OT p q lg) (hp : PD q' lg) : OT p' q' lg := by
  obtain ⟨a1, a2, a3, a4, a5, a6, a7, a8, a9, a10, -⟩ := H
  have e17 := k12 17 (by omega)
  have e18 := k12 18 (by omega)
  have e50 := k12 50 (by omega)
  have e57 := k12 57 (by omega)
  have e58 := k12 58 (by omega)
  have e60 := k12 60 (by omega)
  have e61 := k12 61 (by omega)
  refine ⟨fun m hm => ?_, fun s c hs hc => ?_, ?_, ?_, ?_, ?_, ?_, fun j => ?_, ?_, ?_, hp⟩
  · have h := a1 m hm
    rw [h9, k 36 (by decide) (by decide), k 37 (by decide) (by decide), k 38 (by decide) (by decide), k 39 (by decide) (by decide), k9, k10]
    exact h
  · rw [h13 (20 + s) (by omega), k 35 (by decide) (by decide)]
    exact a2 s c hs hc
  · rw [h2, e50]
    exact a3
  · rw [h2, e58]
    exact a4
  · rw [h2, e57]
    exact a5
  · rw [h62, e17]
    exact a6
  · rw [h63, e18]
    exact a7
  · rw [k 40 (by decide) (by decide)]
    exact a8 j
  · rw [e60]
    exact a9
  · rw [e61]
    exact a10
/-- of the reference alone: an order at any price stands in an auction alone; an iceberg shows something (but in the book y, and but w); a stop's cause is a trade of its book; auctions end later (those of the books behind l: now, or later) -/
def IQ (q : PM) (y : Nat) (w : Nat → Prop) (D l : Nat) : Prop := (∀ i, i < 40 → stnd q i → q.1 15 5 i = cn 1 → ∃ b : Nat, b < 6 ∧ q.1 13 16 i = cn b ∧ ¬ q.1 13 12 b = cn (-100000)) ∧
  (∀ i, i < 40 → ¬ w i → stnd q i → ¬ q.1 13 16 i = cn y → q.1 13 19 i = cn 1 → ∃ h : Int, 1 ≤ h ∧ h ≤ 50 ∧ q.1 13 22 i = cn h) ∧
  (∀ i t, i < 40 → q.1 15 3 i = cn 1 → q.1 13 19 i = cn 3 → ¬ q.1 13 24 i = cn 2 → q.1 13 28 i = cn (t : Nat) → t ≤ 1000000000 → t < D ∧ (D ≤ t + 60 → q.1 13 30 (t % 60) = q.1 13 16 i)) ∧
  (∀ b, b < 6 → ¬ q.1 13 12 b = cn (-100000) → ∃ e t : Nat, e ≤ 1000000 ∧ q.1 13 12 b = cn e ∧ q.1 12 1 17 = cn t ∧ t ≤ 900000 ∧ t + (if b < l then 1 else 0) ≤ e)
/-- the rests of all live orders -/
def rs (q : PM) (i : Nat) : Int := if q.1 15 3 i = 0 then 0 else (q.1 13 17 i).toInt
def RS (q : PM) : Nat → Int
  | 0 => 0
  | n + 1 => RS q n + rs q n
theorem RS_same {q q' : PM} : ∀ n : Nat, (∀ i, i < n → rs q' i = rs q i) → RS q' n = RS q n
  | 0, _ => rfl
  | n + 1, h => by
    show RS q' n + rs q' n = RS q n + rs q n
    rw [RS_same n fun i hi => h i (by omega), h n (by omega)]
theorem RS_upd {q q' : PM} {o : Nat} : ∀ n : Nat, o < n → (∀ i, i < n → ¬ i = o → rs q' i = rs q i) → RS q' n = RS q n + (rs q' o - rs q o)
  | 0, h, _ => by omega
  | n + 1, h, h1 => by
    show RS q' n + rs q' n = RS q n + rs q n + (rs q' o - rs q o)
    by_cases hn : n = o
    · subst hn
      rw [RS_same n fun i hi => h1 i (by omega) (by omega)]
      omega
    · rw [RS_upd n (by omega) fun i hi hne => h1 i (by omega) hne, h1 n (by omega) hn]
      omega
theorem RS_le {q q' : PM} : ∀ n : Nat, (∀ i, i < n → rs q' i ≤ rs q i) → RS q' n ≤ RS q n
  | 0, _ => Int.le_refl _
  | n + 1, h => by
    show RS q' n + rs q' n ≤ RS q n + rs q n
    have h1 := RS_le n fun i hi => h i (by omega)
    have h2 := h n (by omega)
    omega
theorem rs_rng {p q : PM} {x y i : Nat} (h : SlotR p q x y i) : 0 ≤ rs q i ∧ rs q i ≤ 50 := by
  unfold rs
  rcases h with ⟨h1, h2⟩ | ⟨h1, a, b, r, s, z, hL⟩
  · rw [if_pos (show q.1 15 3 i = 0 from h2)]
    omega
  · obtain ⟨r1, r2, r3, r4⟩ := hL.2.2.2.2.2.2.2.1
    rw [h1, if_neg cn01, r4, cn_I ⟨by omega, by omega⟩]
    omega
theorem RS_rng {p q : PM} {x y : Nat} (H : OR p q x y) : ∀ n : Nat, n ≤ 40 → 0 ≤ RS q n ∧ RS q n ≤ 50 * n
  | 0, _ => ⟨Int.le_refl _, Int.le_refl _⟩
  | n + 1, h => by
    have h1 := RS_rng H n (by omega)
    have h2 := rs_rng (H.1 n (by omega))
    show 0 ≤ RS q n + rs q n ∧ RS q n + rs q n ≤ 50 * ((n + 1 : Nat) : Int)
    omega
/-- fallen lots are bounded by what was ordered -/
def FB (q : PM) (N : Nat) : Prop := (∀ a, a < 8 → ∃ z : Int, q.1 13 4 a = cn z ∧ 0 ≤ z ∧ z + RS q 40 ≤ 50 * N) ∧ ∃ z L : Int, q.1 13 4 8 = cn z ∧ q.1 12 1 95 = cn L ∧ 0 ≤ z ∧ z + RS q 40 ≤ L ∧ L ≤ 50 * N
/-- class and reference: x is matched, y an auction that trades, w an iceberg that shows nothing yet -/
def WW (p q : PM) (lg : Nat → Int32) (x y : Nat) (w : Nat → Prop) (N T D l : Nat) (f : Nat → Int) : Prop := ORD p q x y N T ∧ AF p q f ∧ BR p q ∧ DR p q D ∧ CK p ∧ OT p q lg ∧ IQ q y w D l ∧ FB q N
/-- of all orders, each is as before or gone -/
def Mk (p p' q q' : PM) : Prop := (∀ i S, ¬ S = 2 → p'.1 10 i S = p.1 10 i S) ∧ (∀ K, ¬ K = 10 → p'.1 K = p.1 K) ∧ p'.2 = p.2 ∧ (∀ K i, ¬ (K = 15 ∧ i = 3) → q'.1 K i = q.1 K i) ∧ q'.2 = q.2 ∧ (∀ i, i < 40 → (p'.1 10 (i + 1) 2 = p.1 10 (i + 1) 2 ∧ q'.1 15 3 i = q.1 15 3 i) ∨ (p'.1 10 (i + 1) 2 = cn 0 ∧ q'.1 15 3 i = cn 0)) ∧ ∀ i, 40 ≤ i → i < 44 → q'.1 15 3 i = q.1 15 3 i
theorem mk_kp {p p' q q' : PM} (M : Mk p p' q q') : ∀ i, i < 40 → Kp i q q' := by
  obtain ⟨m1, m2, m3, m4, m5, m6, m7⟩ := M
  intro i hi h
  rcases m6 i hi with ⟨-, h1⟩ | ⟨-, h1⟩
  · rw [h1] at h
    exact ⟨h, by rw [m4 13 14 (by decide)], by rw [m4 13 19 (by decide)], by rw [m4 13 15 (by decide)], by rw [m4 13 16 (by decide)], by rw [m4 15 4 (by decide)]⟩
  · rw [h1] at h
    exact absurd h (by decide)
theorem mk_st {p p' q q' : PM} (M : Mk p p' q q') {i : Nat} (hi : i < 40) (h : stnd q' i) : stnd q i := by
  refine ⟨(mk_kp M i hi h.1).1, ?_⟩
  rw [← M.2.2.2.1 13 24 (by decide)]
  exact h.2
theorem iq_mk {p p' q q' : PM} {y : Nat} {w : Nat → Prop} {D l : Nat} (M : Mk p p' q q') (H : IQ q y w D l) : IQ q' y w D l := by
  obtain ⟨i1, i2, i3, i4⟩ := H
  have hm := M.2.2.2.1
  refine ⟨fun i hi h => ?_, fun i hi hw h => ?_, fun i t hi h => ?_, fun b hb => ?_⟩
  · rw [hm 15 5 (by decide), hm 13 16 (by decide), hm 13 12 (by decide)]
    exact i1 i hi (mk_st M hi h)
  · rw [hm 13 16 (by decide), hm 13 19 (by decide), hm 13 22 (by decide)]
    exact i2 i hi hw (mk_st M hi h)
  · rw [hm 13 16 (by decide), hm 13 19 (by decide), hm 13 24 (by decide), hm 13 28 (by decide), hm 13 30 (by decide)]
    exact i3 i t hi (mk_kp M i hi h).1
  · rw [hm 13 12 (by decide), hm 12 1 (by decide)]
    exact i4 b hb
theorem or_mk {p p' q q' : PM} {x y : Nat} (M : Mk p p' q q') (H : OR p q x y) : OR p' q' x y := by
  obtain ⟨m1, m2, m3, m4, m5, m6, m7⟩ := M
  refine ⟨fun i hi => ?_, fun i h1 h2 => by rw [m7 i h1 h2]; exact H.2 i h1 h2⟩
  rcases m6 i hi with ⟨h1, h2⟩ | ⟨h1, h2⟩
  · refine slot_congr (p := p) (q := q) (x := x) (fun S => ?_) (fun S => by rw [m3]) (fun K k1 k2 k3 => by rw [m4 13 K (by omega)]) (fun K k1 k2 => ?_) rfl (H.1 i hi)
    · by_cases hs : S = 2
      · rw [hs]
        exact h1
      · exact m1 _ S hs
    · by_cases hK : K = 3
      · rw [hK]
        exact h2
      · rw [m4 15 K (by omega)]
  · exact Or.inl ⟨h1, h2⟩
theorem w_mk {p p' q q' : PM} {lg : Nat → Int32} {x y : Nat} {w : Nat → Prop} {N T D l : Nat} {f : Nat → Int} (M : Mk p p' q q') (H : WW p q lg x y w N T D l f) : WW p' q' lg x y w N T D l f := by
  obtain ⟨⟨ho, hn, ht, hq⟩, ha, hb, hd, hk, hot, hi, hfb⟩ := H
  have hkp := mk_kp M
  have hst := fun {i : Nat} (hi : i < 40) (h : stnd q' i) => mk_st M hi h
  have hor := or_mk M ho
  have hiq := iq_mk M hi
  have hle : RS q' 40 ≤ RS q 40 := by
    refine RS_le 40 fun i hi => ?_
    have h0 := rs_rng (ho.1 i hi)
    rcases M.2.2.2.2.2.1 i hi with ⟨-, h1⟩ | ⟨-, h1⟩
    · unfold rs
      rw [h1, M.2.2.2.1 13 17 (by decide)]
      exact Int.le_refl _
    · have e : rs q' i = 0 := by
        unfold rs
        rw [h1, if_pos cn0e']
      rw [e]
      exact h0.1
  obtain ⟨m1, m2, m3, m4, m5, m6, m7⟩ := M
  refine ⟨⟨hor, ?_, ?_, ?_⟩, ?_, ?_, ?_, ?_, ?_, hiq, ?_⟩
  · refine ⟨fun i j hi hj li lj h => ?_, fun i hi li => ?_, by rw [m2 6 (by decide)]; exact hn.2.2.1, by rw [m4 12 1 (by decide)]; exact hn.2.2.2.1, hn.2.2.2.2⟩
    · rw [m4 13 14 (by decide)] at h
      exact hn.1 i j hi hj (hkp i hi li).1 (hkp j hj lj).1 h
    · rw [m4 13 14 (by decide)]
      exact hn.2.1 i hi (hkp i hi li).1
  · refine ⟨fun i j hi hj si sj => ?_, fun i hi si => ?_, by rw [m2 6 (by decide)]; exact ht.2.2.1, by rw [m4 12 1 (by decide)]; exact ht.2.2.2.1, ht.2.2.2.2⟩
    · rw [m1 _ 12 (by decide), m1 _ 12 (by decide), m4 13 16 (by decide), m4 15 4 (by decide), m4 13 23 (by decide)]
      exact ht.1 i j hi hj (hst hi si) (hst hj sj)
    · rw [m1 _ 12 (by decide), m4 13 23 (by decide)]
      exact ht.2.1 i hi (hst hi si)
  · intro i j hi hj li lj
    rw [m4 13 19 (by decide), m4 13 15 (by decide), m4 13 16 (by decide), m4 15 4 (by decide)]
    exact hq i j hi hj (hkp i hi li).1 (hkp j hj lj).1
  · exact af_c (m2 0 (by decide)) (fun i _ => by rw [m2 13 (by decide)]) (by rw [m3]) (m4 13 1 (by decide)) (m4 13 2 (by decide)) (m4 13 3 (by decide)) (m4 13 4 (by decide)) (m4 13 5 (by decide)) (m4 15 1 (by decide)) (by rw [m5]) ha
  · exact brl_c (m2 1 (by decide)) (fun i _ _ => m4 13 i (by omega)) (m4 15 2 (by decide)) hb
  · exact dr_c (m2 4 (by decide)) (m2 7 (by decide)) (by rw [m3]) (fun i _ _ => m4 13 i (by omega)) (m4 15 7 (by decide)) (m4 15 8 (by decide)) (by rw [m4 12 1 (by decide)]) hd
  · exact ck_c (m2 0 (by decide)) (m2 1 (by decide)) hk
  · exact ot_c (m2 9 (by decide)) (fun i _ => by rw [m2 13 (by decide)]) (m2 2 (by decide)) (by rw [m2 6 (by decide)]) (by rw [m2 6 (by decide)]) (fun i _ _ => m4 13 i (by omega)) (m4 15 9 (by decide)) (m4 15 10 (by decide)) (fun i _ => by rw [m4 12 1 (by decide)]) hot (pd_c (m4 13 1 (by decide)) (by rw [m4 12 1 (by decide)]) (by rw [m5]) hot)
  · refine ⟨fun a ha => ?_, ?_⟩
    · obtain ⟨z, z1, z2, z3⟩ := hfb.1 a ha
      exact ⟨z, by rw [m4 13 4 (by decide)]; exact z1, z2, by omega⟩
    · obtain ⟨zb, L, b1, b2, b3, b4, b5⟩ := hfb.2
      exact ⟨zb, L, by rw [m4 13 4 (by decide)]; exact b1, by rw [m4 12 1 (by decide)]; exact b2, b3, by omega, b5⟩
theorem mk_refl (p q : PM) : Mk p p q q := ⟨fun _ _ _ => rfl, fun _ _ => rfl, rfl, fun _ _ _ => rfl, rfl, fun _ _ => Or.inl ⟨rfl, rfl⟩, fun _ _ _ => rfl⟩
theorem mk_trans {p p' p2 q q' q2 : PM} (M : Mk p p' q q') (M' : Mk p' p2 q' q2) : Mk p p2 q q2 := by
  obtain ⟨m1, m2, m3, m4, m5, m6, m7⟩ := M
  obtain ⟨n1, n2, n3, n4, n5, n6, n7⟩ := M'
  refine ⟨fun i S h => (n1 i S h).trans (m1 i S h), fun K h => (n2 K h).trans (m2 K h), n3.trans m3, fun K i h => (n4 K i h).trans (m4 K i h), n5.trans m5, fun i hi => ?_, fun i h1 h2 => (n7 i h1 h2).trans (m7 i h1 h2)⟩
  rcases n6 i hi with ⟨h1, h2⟩ | h
  · rw [h1, h2]
    exact m6 i hi
  · exact Or.inr h
/-- one goes -/
theorem mk_one {p q : PM} {o : Nat} (ho : o < 40) : Mk p (pI p 10 (o + 1) 2 (cn 0)) q (pI q 15 3 o (cn 0)) := by
  refine ⟨fun i S h => u3_s h, fun K h => ?_, rfl, fun K i h => ?_, rfl, fun i hi => ?_, fun i h1 h2 => u3_s (by omega)⟩
  · funext i S
    exact u3_k h
  · funext S
    by_cases hK : K = 15
    · exact u3_i fun h2 => h ⟨hK, h2⟩
    · exact u3_k hK
  · by_cases h : i = o
    · rw [h]
      exact Or.inr ⟨u3_same, u3_same⟩
    · exact Or.inl ⟨u3_i (by omega), u3_s h⟩
/-- the reference writes down what it has -/
theorem pI_same {p : PM} {k i s : Nat} {v : Int32} (h : p.1 k i s = v) : pI p k i s v = p := by
  rw [← h]
  exact pI_id
