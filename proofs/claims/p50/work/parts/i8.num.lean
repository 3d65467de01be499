/-! the numbers: a call is less than 2147483648 -/
def es (s : Nat) : Nat := 7 * (s * (s + 1) / 2)
def mnN (a b : Nat) : Nat := if Nat.ble a b then a else b
def tmA (w E k : Nat) : Nat := mnN (141 * (E * 3 ^ k) + 9999 * E) ((1 + w) * (282000000 + 20048 * E))
def tmB (E k : Nat) : Nat := mnN (mnN (121 * (E * 3 ^ k) + 9999 * E) (4 * (242000000 + 20008 * E))) ((5 * (24000000 + 3 * E + 8 * 3 ^ k) + 2784000000 + 29997 * E + 928 * 3 ^ k + 160000 * k) / 6 + 1)
def allK (f : Nat → Bool) : Nat → Bool
  | 0 => f 0
  | n + 1 => f (n + 1) && allK f n
theorem allK_ok {f : Nat → Bool} : ∀ n, allK f n = true → ∀ k, k ≤ n → f k = true
  | 0, h, k, hk => by
    have e : k = 0 := by omega
    subst e
    exact h
  | n + 1, h, k, hk => by
    have h' : (f (n + 1) && allK f n) = true := h
    rw [Bool.and_eq_true] at h'
    by_cases e : k = n + 1
    · subst e
      exact h'.1
    · exact allK_ok n h'.2 k (by omega)
def cqE : Bool := allK (fun u => allK (fun v => Nat.ble (7 * (u * (1 + 2 * v))) (es (u + v))) 39) 39
def cqA (w S : Nat) : Bool := allK (fun s => allK (fun k1 => allK (fun k2 => Nat.ble (tmA w (es s) k1 + tmA w (es s) k2 + tmA w (es s) (S - s - k1 - k2) + 141 * es s + 40000 * (es s + 40) + 200000) 2147483647) (S - s - k1)) (S - s)) S
def cqB (S : Nat) : Bool := allK (fun s => allK (fun v => allK (fun k1 => allK (fun k2 => Nat.ble (tmB (es s) k1 + tmB (es s) k2 + tmB (es s) (S - s - v - k1 - k2) + v * (20 * (8000000 + 8 * es s)) + 141 * es s + 40000 * (es s + 40) + 200000) 2147483647) (S - s - v - k1)) (S - s - v)) 3) S
set_option maxRecDepth 100000 in
theorem cqE_ok : cqE = true := by decide +kernel
set_option maxRecDepth 100000 in
theorem cqA_0 : cqA 0 39 = true := by decide +kernel
set_option maxRecDepth 100000 in
theorem cqA_1 : cqA 1 36 = true := by decide +kernel
set_option maxRecDepth 100000 in
theorem cqA_2 : cqA 2 33 = true := by decide +kernel
set_option maxRecDepth 100000 in
theorem cqB_3 : cqB 30 = true := by decide +kernel
theorem mnN_min (a b : Nat) : mnN a b = min a b := by
  unfold mnN
  by_cases h : a ≤ b
  · rw [if_pos (Nat.ble_eq.mpr h)]
    omega
  · rw [if_neg (fun e => h (Nat.ble_eq.mp e))]
    omega
theorem tmA_mono {w E k k' : Nat} (h : k ≤ k') : tmA w E k ≤ tmA w E k' := by
  have h1 : E * 3 ^ k ≤ E * 3 ^ k' := Nat.mul_le_mul_left _ (Nat.pow_le_pow_right (by decide) h)
  unfold tmA
  rw [mnN_min, mnN_min]
  omega
theorem tmB_mono {E k k' : Nat} (h : k ≤ k') : tmB E k ≤ tmB E k' := by
  have h0 : 3 ^ k ≤ 3 ^ k' := Nat.pow_le_pow_right (by decide) h
  have h1 : E * 3 ^ k ≤ E * 3 ^ k' := Nat.mul_le_mul_left _ h0
  unfold tmB
  rw [mnN_min, mnN_min, mnN_min, mnN_min]
  have h2 : (5 * (24000000 + 3 * E + 8 * 3 ^ k) + 2784000000 + 29997 * E + 928 * 3 ^ k + 160000 * k) / 6 ≤ (5 * (24000000 + 3 * E + 8 * 3 ^ k') + 2784000000 + 29997 * E + 928 * 3 ^ k' + 160000 * k') / 6 := Nat.div_le_div_right (by omega)
  omega
theorem es_ok {u v : Nat} (h : u + v ≤ 39) : 7 * (u * (1 + 2 * v)) ≤ es (u + v) := by
  have a0 := allK_ok 39 cqE_ok u (by omega)
  have a1 := allK_ok 39 a0 v (by omega)
  exact Nat.ble_eq.mp a1
theorem cqA_use {w S s k1 k2 k3 : Nat} (hc : cqA w S = true) (h : s + k1 + k2 + k3 ≤ S) : tmA w (es s) k1 + tmA w (es s) k2 + tmA w (es s) k3 + 141 * es s + 40000 * (es s + 40) + 200000 ≤ 2147483647 := by
  have a1 := allK_ok S hc s (by omega)
  have a2 := allK_ok (S - s) a1 k1 (by omega)
  have a3 := allK_ok (S - s - k1) a2 k2 (by omega)
  have h1 : tmA w (es s) k1 + tmA w (es s) k2 + tmA w (es s) (S - s - k1 - k2) + 141 * es s + 40000 * (es s + 40) + 200000 ≤ 2147483647 := Nat.ble_eq.mp a3
  clear a1 a2 a3 hc
  have h2 := tmA_mono (w := w) (E := es s) (k := k3) (k' := S - s - k1 - k2) (by omega)
  refine Nat.le_trans ?_ h1
  exact Nat.add_le_add_right (Nat.add_le_add_right (Nat.add_le_add_right (Nat.add_le_add_left h2 _) _) _) _
theorem cqB_use {s v k1 k2 k3 : Nat} (hv : v ≤ 3) (h : s + v + k1 + k2 + k3 ≤ 30) : tmB (es s) k1 + tmB (es s) k2 + tmB (es s) k3 + v * (20 * (8000000 + 8 * es s)) + 141 * es s + 40000 * (es s + 40) + 200000 ≤ 2147483647 := by
  have a0 := allK_ok 30 cqB_3 s (by omega)
  have a1 := allK_ok 3 a0 v hv
  have a2 := allK_ok (30 - s - v) a1 k1 (by omega)
  have a3 := allK_ok (30 - s - v - k1) a2 k2 (by omega)
  have h1 : tmB (es s) k1 + tmB (es s) k2 + tmB (es s) (30 - s - v - k1 - k2) + v * (20 * (8000000 + 8 * es s)) + 141 * es s + 40000 * (es s + 40) + 200000 ≤ 2147483647 := Nat.ble_eq.mp a3
  clear a0 a1 a2 a3
  have h2 := tmB_mono (E := es s) (k := k3) (k' := 30 - s - v - k1 - k2) (by omega)
  refine Nat.le_trans ?_ h1
  exact Nat.add_le_add_right (Nat.add_le_add_right (Nat.add_le_add_right (Nat.add_le_add_right (Nat.add_le_add_left h2 _) _) _) _) _
