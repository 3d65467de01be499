/-! orders are told: the numbers of it, and the cases -/
theorem x_range {M : Mem} {B : Nat} (hB : B < 6) : X 227 0 [vI (cn B)] [] M = some (.inl (some (vI (if B < 4 then cn 96 else cn (-4)))), M) := by
  by_cases h : B < 4
  · rw [if_pos h]
    refine y_icF yk227 2 2 5 rfl rfl rfl (by decide) ?_ ?_
    · show decide (cn 4 ≤ cn (B : Int)) = false
      rw [decide_eq_false_iff_not, Int32.not_le]
      exact lpt (i := B) (N := 4) (by omega) (by decide)
    · exact y_ret yk227 3 rfl rfl
  · rw [if_neg h]
    refine y_icT yk227 2 2 10 rfl rfl rfl ?_ ?_
    · show decide (cn 4 ≤ cn (B : Int)) = true
      rw [decide_eq_true_iff, ← Int32.not_lt, cnlt ⟨by omega, by omega⟩ (by decide)]
      omega
    · exact y_ret yk227 2 rfl rfl
section Ord
variable {M M1 : Mem} {a b n pr w x : Int32} {t : Nat}
theorem ob_212r (hN : X 212 0 [rR 3 11 1, vI a, vI b, vI pr, vI n, vJ] [] M = some (.inl (some (vI (cn 1))), M1)) (hE : X 173 0 [rR 3 11 1] [] M1 = some (.inl (some (vI (cn t))), M1)) : X 228 80 [rR 3 11 1, vI x, vI a, vI b, vI n, vI pr, vI w, vI (cn t), vI (cn 1)] [] M = some (.inl (some (vI (cn 1))), M1) := by
  refine y_cal yk228 6 90 rfl hN ?_
  refine y_ifF yk228 0 90 93 rfl rfl rfl (by decide) (by decide) ?_
  refine y_cal yk228 2 97 rfl hE ?_
  refine y_icF yk228 1 99 102 rfl rfl rfl (by decide) (decide_eq_false fun h => h rfl) ?_
  exact y_ret yk228 6 rfl rfl
theorem ob_212a (hN : X 212 0 [rR 3 11 1, vI a, vI b, vI pr, vI n, vJ] [] M = some (.inl (some (vI (cn 0))), M1)) (hE : X 173 0 [rR 3 11 1] [] M1 = some (.inl (some (vI (cn ((t + 1 : Nat) : Int)))), M1)) : X 228 80 [rR 3 11 1, vI x, vI a, vI b, vI n, vI pr, vI w, vI (cn t), vI (cn 1)] [] M = some (.inl (some (vI (cn 1))), M1) := by
  refine y_cal yk228 6 90 rfl hN ?_
  refine y_ifT yk228 0 90 110 rfl rfl rfl (by decide) ?_
  refine y_cal yk228 2 114 rfl hE ?_
  refine y_icF yk228 3 118 121 rfl rfl rfl (by decide) (decide_eq_false fun h => h (cnsucc t).symm) ?_
  exact y_ret yk228 6 rfl rfl
theorem ob_220r (hN : X 220 0 [rR 3 11 1, vI a, vI b, vI n, vJ] [] M = some (.inl (some (vI (cn 1))), M1)) (hE : X 173 0 [rR 3 11 1] [] M1 = some (.inl (some (vI (cn t))), M1)) : X 228 137 [rR 3 11 1, vI x, vI a, vI b, vI n, vI pr, vI w, vI (cn t), vI (cn 1)] [] M = some (.inl (some (vI (cn 1))), M1) := by
  refine y_cal yk228 5 145 rfl hN ?_
  refine y_ifF yk228 0 145 148 rfl rfl rfl (by decide) (by decide) ?_
  refine y_cal yk228 2 152 rfl hE ?_
  refine y_icF yk228 1 154 157 rfl rfl rfl (by decide) (decide_eq_false fun h => h rfl) ?_
  exact y_ret yk228 6 rfl rfl
theorem ob_220a (hN : X 220 0 [rR 3 11 1, vI a, vI b, vI n, vJ] [] M = some (.inl (some (vI (cn 0))), M1)) (hE : X 173 0 [rR 3 11 1] [] M1 = some (.inl (some (vI (cn ((t + 1 : Nat) : Int)))), M1)) : X 228 137 [rR 3 11 1, vI x, vI a, vI b, vI n, vI pr, vI w, vI (cn t), vI (cn 1)] [] M = some (.inl (some (vI (cn 1))), M1) := by
  refine y_cal yk228 5 145 rfl hN ?_
  refine y_ifT yk228 0 145 165 rfl rfl rfl (by decide) ?_
  refine y_cal yk228 2 169 rfl hE ?_
  refine y_icF yk228 3 173 176 rfl rfl rfl (by decide) (decide_eq_false fun h => h (cnsucc t).symm) ?_
  exact y_ret yk228 6 rfl rfl
theorem ob_221r (hN : X 221 0 [rR 3 11 1, vI a, vI b, vI pr, vI n, vJ] [] M = some (.inl (some (vI (cn 1))), M1)) (hE : X 173 0 [rR 3 11 1] [] M1 = some (.inl (some (vI (cn t))), M1)) : X 228 192 [rR 3 11 1, vI x, vI a, vI b, vI n, vI pr, vI w, vI (cn t), vI (cn 1)] [] M = some (.inl (some (vI (cn 1))), M1) := by
  refine y_cal yk228 6 202 rfl hN ?_
  refine y_ifF yk228 0 202 205 rfl rfl rfl (by decide) (by decide) ?_
  refine y_cal yk228 2 209 rfl hE ?_
  refine y_icF yk228 1 211 214 rfl rfl rfl (by decide) (decide_eq_false fun h => h rfl) ?_
  exact y_ret yk228 6 rfl rfl
theorem ob_221a (hN : X 221 0 [rR 3 11 1, vI a, vI b, vI pr, vI n, vJ] [] M = some (.inl (some (vI (cn 0))), M1)) (hE : X 173 0 [rR 3 11 1] [] M1 = some (.inl (some (vI (cn ((t + 1 : Nat) : Int)))), M1)) : X 228 192 [rR 3 11 1, vI x, vI a, vI b, vI n, vI pr, vI w, vI (cn t), vI (cn 1)] [] M = some (.inl (some (vI (cn 1))), M1) := by
  refine y_cal yk228 6 202 rfl hN ?_
  refine y_ifT yk228 0 202 222 rfl rfl rfl (by decide) ?_
  refine y_cal yk228 2 226 rfl hE ?_
  refine y_icF yk228 3 230 233 rfl rfl rfl (by decide) (decide_eq_false fun h => h (cnsucc t).symm) ?_
  exact y_ret yk228 6 rfl rfl
theorem ob_222r (hN : X 222 0 [rR 3 11 1, vI a, vI b, vI pr, vI n, vJ] [] M = some (.inl (some (vI (cn 1))), M1)) (hE : X 173 0 [rR 3 11 1] [] M1 = some (.inl (some (vI (cn t))), M1)) : X 228 250 [rR 3 11 1, vI x, vI a, vI b, vI n, vI pr, vI w, vI (cn t), vI (cn 1)] [] M = some (.inl (some (vI (cn 1))), M1) := by
  refine y_cal yk228 6 260 rfl hN ?_
  refine y_ifF yk228 0 260 263 rfl rfl rfl (by decide) (by decide) ?_
  refine y_cal yk228 2 267 rfl hE ?_
  refine y_icF yk228 1 269 272 rfl rfl rfl (by decide) (decide_eq_false fun h => h rfl) ?_
  exact y_ret yk228 6 rfl rfl
theorem ob_222a (hN : X 222 0 [rR 3 11 1, vI a, vI b, vI pr, vI n, vJ] [] M = some (.inl (some (vI (cn 0))), M1)) (hE : X 173 0 [rR 3 11 1] [] M1 = some (.inl (some (vI (cn ((t + 1 : Nat) : Int)))), M1)) : X 228 250 [rR 3 11 1, vI x, vI a, vI b, vI n, vI pr, vI w, vI (cn t), vI (cn 1)] [] M = some (.inl (some (vI (cn 1))), M1) := by
  refine y_cal yk228 6 260 rfl hN ?_
  refine y_ifT yk228 0 260 280 rfl rfl rfl (by decide) ?_
  refine y_cal yk228 2 284 rfl hE ?_
  refine y_icF yk228 3 288 291 rfl rfl rfl (by decide) (decide_eq_false fun h => h (cnsucc t).symm) ?_
  exact y_ret yk228 6 rfl rfl
theorem ob_213r (hN : X 213 0 [rR 3 11 1, vI a, vI b, vI pr, vJ] [] M = some (.inl (some (vI (cn 1))), M1)) (hE : X 173 0 [rR 3 11 1] [] M1 = some (.inl (some (vI (cn t))), M1)) : X 228 370 [rR 3 11 1, vI x, vI a, vI b, vI n, vI pr, vI w, vI (cn t), vI (cn 1)] [] M = some (.inl (some (vI (cn 1))), M1) := by
  refine y_cal yk228 5 378 rfl hN ?_
  refine y_ifF yk228 0 378 381 rfl rfl rfl (by decide) (by decide) ?_
  refine y_cal yk228 2 385 rfl hE ?_
  refine y_icF yk228 1 387 390 rfl rfl rfl (by decide) (decide_eq_false fun h => h rfl) ?_
  exact y_ret yk228 6 rfl rfl
theorem ob_213a (hN : X 213 0 [rR 3 11 1, vI a, vI b, vI pr, vJ] [] M = some (.inl (some (vI (cn 0))), M1)) (hE : X 173 0 [rR 3 11 1] [] M1 = some (.inl (some (vI (cn ((t + 1 : Nat) : Int)))), M1)) : X 228 370 [rR 3 11 1, vI x, vI a, vI b, vI n, vI pr, vI w, vI (cn t), vI (cn 1)] [] M = some (.inl (some (vI (cn 1))), M1) := by
  refine y_cal yk228 5 378 rfl hN ?_
  refine y_ifT yk228 0 378 398 rfl rfl rfl (by decide) ?_
  refine y_cal yk228 2 402 rfl hE ?_
  refine y_icF yk228 3 406 409 rfl rfl rfl (by decide) (decide_eq_false fun h => h (cnsucc t).symm) ?_
  exact y_ret yk228 6 rfl rfl
theorem ob_219r {B Y : Nat} (hB : B < 6) (hY : Y ≤ 400000) (hN : X 219 0 [rR 3 11 1, vI a, vI (cn ((B % 4 : Nat) : Int)), vI (cn 96 + cn ((Y / 672 % 9 : Nat) : Int)), vI n, vJ] [] M = some (.inl (some (vI (cn 1))), M1)) (hE : X 173 0 [rR 3 11 1] [] M1 = some (.inl (some (vI (cn t))), M1)) : X 228 308 [rR 3 11 1, vI (cn Y), vI a, vI (cn B), vI n, vI pr, vI w, vI (cn t), vI (cn 1)] [] M = some (.inl (some (vI (cn 1))), M1) := by
  refine y_rm yk228 4 312 313 (cn ((B % 4 : Nat) : Int)) rfl rfl (by decide) rfl (rm_n (b := 4) (by omega) (by decide) (by decide)) ?_
  refine y_dv yk228 3 319 320 (cn ((Y / 672 : Nat) : Int)) rfl rfl (by decide) rfl (dv_n (b := 672) (by omega) (by decide) (by decide)) ?_
  refine y_rm yk228 1 322 323 (cn ((Y / 672 % 9 : Nat) : Int)) rfl rfl (by decide) rfl (rm_n (b := 9) (by omega) (by decide) (by decide)) ?_
  refine y_cal yk228 3 329 rfl hN ?_
  refine y_ifF yk228 0 329 332 rfl rfl rfl (by decide) (by decide) ?_
  refine y_cal yk228 2 336 rfl hE ?_
  refine y_icF yk228 1 338 341 rfl rfl rfl (by decide) (decide_eq_false fun h => h rfl) ?_
  exact y_ret yk228 6 rfl rfl
theorem ob_219a {B Y : Nat} (hB : B < 6) (hY : Y ≤ 400000) (hN : X 219 0 [rR 3 11 1, vI a, vI (cn ((B % 4 : Nat) : Int)), vI (cn 96 + cn ((Y / 672 % 9 : Nat) : Int)), vI n, vJ] [] M = some (.inl (some (vI (cn 0))), M1)) (hE : X 173 0 [rR 3 11 1] [] M1 = some (.inl (some (vI (cn ((t + 1 : Nat) : Int)))), M1)) : X 228 308 [rR 3 11 1, vI (cn Y), vI a, vI (cn B), vI n, vI pr, vI w, vI (cn t), vI (cn 1)] [] M = some (.inl (some (vI (cn 1))), M1) := by
  refine y_rm yk228 4 312 313 (cn ((B % 4 : Nat) : Int)) rfl rfl (by decide) rfl (rm_n (b := 4) (by omega) (by decide) (by decide)) ?_
  refine y_dv yk228 3 319 320 (cn ((Y / 672 : Nat) : Int)) rfl rfl (by decide) rfl (dv_n (b := 672) (by omega) (by decide) (by decide)) ?_
  refine y_rm yk228 1 322 323 (cn ((Y / 672 % 9 : Nat) : Int)) rfl rfl (by decide) rfl (rm_n (b := 9) (by omega) (by decide) (by decide)) ?_
  refine y_cal yk228 3 329 rfl hN ?_
  refine y_ifT yk228 0 329 349 rfl rfl rfl (by decide) ?_
  refine y_cal yk228 2 353 rfl hE ?_
  refine y_icF yk228 3 357 360 rfl rfl rfl (by decide) (decide_eq_false fun h => h (cnsucc t).symm) ?_
  exact y_ret yk228 6 rfl rfl
/-- the numbers -/
def nQ (Y : Nat) : Int32 := (cn 1 + cn ((Y / 48 % 7 : Nat) : Int)) * (if Y / 336 % 2 = 0 then cn 1 else cn (-1))
def prQ (Y : Nat) : Int32 := (if Y / 8 % 6 < 4 then cn 96 else cn (-4)) + cn ((Y / 672 % 9 : Nat) : Int)
theorem ord_pre {Y : Nat} (hY : Y ≤ 400000) (hE : X 173 0 [rR 3 11 1] [] M = some (.inl (some (vI (cn t))), M)) : X 228 0 [rR 3 11 1, vI (cn Y), vJ, vJ, vJ, vJ, vJ, vJ, vJ] [] M = X 228 74 [rR 3 11 1, vI (cn Y), vI (cn ((Y % 8 : Nat) : Int)), vI (cn ((Y / 8 % 6 : Nat) : Int)), vI (nQ Y), vI (prQ Y), vI (cn ((Y / 6048 % 9 : Nat) : Int)), vI (cn t), vI (cn 1)] [] M := by
  refine y_rm yk228 2 3 4 (cn ((Y % 8 : Nat) : Int)) rfl rfl (by decide) rfl (rm_n (b := 8) (by omega) (by decide) (by decide)) ?_
  refine y_dv yk228 3 8 9 (cn ((Y / 8 : Nat) : Int)) rfl rfl (by decide) rfl (dv_n (b := 8) (by omega) (by decide) (by decide)) ?_
  refine y_rm yk228 1 11 12 (cn ((Y / 8 % 6 : Nat) : Int)) rfl rfl (by decide) rfl (rm_n (b := 6) (by omega) (by decide) (by decide)) ?_
  refine y_dv yk228 4 17 18 (cn ((Y / 48 : Nat) : Int)) rfl rfl (by decide) rfl (dv_n (b := 48) (by omega) (by decide) (by decide)) ?_
  refine y_rm yk228 1 20 21 (cn ((Y / 48 % 7 : Nat) : Int)) rfl rfl (by decide) rfl (rm_n (b := 7) (by omega) (by decide) (by decide)) ?_
  refine y_dv yk228 3 26 27 (cn ((Y / 336 : Nat) : Int)) rfl rfl (by decide) rfl (dv_n (b := 336) (by omega) (by decide) (by decide)) ?_
  refine y_rm yk228 1 28 29 (cn ((Y / 336 % 2 : Nat) : Int)) rfl rfl (by decide) rfl (rm_n (b := 2) (by omega) (by decide) (by decide)) ?_
  have hR := x_range (M := M) (B := Y / 8 % 6) (by omega)
  have fin : X 228 44 [rR 3 11 1, vI (cn Y), vI (cn ((Y % 8 : Nat) : Int)), vI (cn ((Y / 8 % 6 : Nat) : Int)), vI (nQ Y), vJ, vJ, vJ, vJ] [vI (if Y / 8 % 6 < 4 then cn 96 else cn (-4))] M = X 228 74 [rR 3 11 1, vI (cn Y), vI (cn ((Y % 8 : Nat) : Int)), vI (cn ((Y / 8 % 6 : Nat) : Int)), vI (nQ Y), vI (prQ Y), vI (cn ((Y / 6048 % 9 : Nat) : Int)), vI (cn t), vI (cn 1)] [] M := by
    refine y_dv yk228 2 48 49 (cn ((Y / 672 : Nat) : Int)) rfl rfl (by decide) rfl (dv_n (b := 672) (by omega) (by decide) (by decide)) ?_
    refine y_rm yk228 1 51 52 (cn ((Y / 672 % 9 : Nat) : Int)) rfl rfl (by decide) rfl (rm_n (b := 9) (by omega) (by decide) (by decide)) ?_
    refine y_dv yk228 4 59 60 (cn ((Y / 6048 : Nat) : Int)) rfl rfl (by decide) rfl (dv_n (b := 6048) (by omega) (by decide) (by decide)) ?_
    refine y_rm yk228 1 62 63 (cn ((Y / 6048 % 9 : Nat) : Int)) rfl rfl (by decide) rfl (rm_n (b := 9) (by omega) (by decide) (by decide)) ?_
    refine y_cal yk228 3 69 rfl hE ?_
    exact y_go yk228 3 74 rfl rfl
  by_cases hs : Y / 336 % 2 = 0
  · have e : (cn 1 + cn ((Y / 48 % 7 : Nat) : Int)) * cn 1 = nQ Y := by unfold nQ; rw [if_pos hs]
    refine y_ifF yk228 0 29 32 rfl rfl rfl (by decide) (by rw [hs]; decide) ?_
    have fin2 : X 228 44 [rR 3 11 1, vI (cn Y), vI (cn ((Y % 8 : Nat) : Int)), vI (cn ((Y / 8 % 6 : Nat) : Int)), vI ((cn 1 + cn ((Y / 48 % 7 : Nat) : Int)) * cn 1), vJ, vJ, vJ, vJ] [vI (if Y / 8 % 6 < 4 then cn 96 else cn (-4))] M = X 228 74 [rR 3 11 1, vI (cn Y), vI (cn ((Y % 8 : Nat) : Int)), vI (cn ((Y / 8 % 6 : Nat) : Int)), vI (nQ Y), vI (prQ Y), vI (cn ((Y / 6048 % 9 : Nat) : Int)), vI (cn t), vI (cn 1)] [] M := by
      rw [e]
      exact fin
    refine y_cal yk228 6 44 rfl hR ?_
    exact fin2
  · have h1 : Y / 336 % 2 = 1 := by omega
    have e : (cn 1 + cn ((Y / 48 % 7 : Nat) : Int)) * cn (-1) = nQ Y := by unfold nQ; rw [if_neg hs]
    refine y_ifT yk228 0 29 36 rfl rfl rfl (by rw [h1]; decide) ?_
    have fin2 : X 228 44 [rR 3 11 1, vI (cn Y), vI (cn ((Y % 8 : Nat) : Int)), vI (cn ((Y / 8 % 6 : Nat) : Int)), vI ((cn 1 + cn ((Y / 48 % 7 : Nat) : Int)) * cn (-1)), vJ, vJ, vJ, vJ] [vI (if Y / 8 % 6 < 4 then cn 96 else cn (-4))] M = X 228 74 [rR 3 11 1, vI (cn Y), vI (cn ((Y % 8 : Nat) : Int)), vI (cn ((Y / 8 % 6 : Nat) : Int)), vI (nQ Y), vI (prQ Y), vI (cn ((Y / 6048 % 9 : Nat) : Int)), vI (cn t), vI (cn 1)] [] M := by
      rw [e]
      exact fin
    refine y_cal yk228 5 44 rfl hR ?_
    exact fin2
end Ord
section OrdD
variable {M : Mem} {a b n pr x : Int32} {t : Nat}
theorem od_0 : X 228 74 [rR 3 11 1, vI x, vI a, vI b, vI n, vI pr, vI (cn ((0 : Nat) : Int)), vI (cn t), vI (cn 1)] [] M = X 228 80 [rR 3 11 1, vI x, vI a, vI b, vI n, vI pr, vI (cn ((0 : Nat) : Int)), vI (cn t), vI (cn 1)] [] M := by
  refine y_icF yk228 2 77 80 rfl rfl rfl (by decide) (by decide) ?_
  rfl
theorem od_1 : X 228 74 [rR 3 11 1, vI x, vI a, vI b, vI n, vI pr, vI (cn ((1 : Nat) : Int)), vI (cn t), vI (cn 1)] [] M = X 228 80 [rR 3 11 1, vI x, vI a, vI b, vI n, vI pr, vI (cn ((1 : Nat) : Int)), vI (cn t), vI (cn 1)] [] M := by
  refine y_icF yk228 2 77 80 rfl rfl rfl (by decide) (by decide) ?_
  rfl
theorem od_2 : X 228 74 [rR 3 11 1, vI x, vI a, vI b, vI n, vI pr, vI (cn ((2 : Nat) : Int)), vI (cn t), vI (cn 1)] [] M = X 228 80 [rR 3 11 1, vI x, vI a, vI b, vI n, vI pr, vI (cn ((2 : Nat) : Int)), vI (cn t), vI (cn 1)] [] M := by
  refine y_icF yk228 2 77 80 rfl rfl rfl (by decide) (by decide) ?_
  rfl
theorem od_3 : X 228 74 [rR 3 11 1, vI x, vI a, vI b, vI n, vI pr, vI (cn ((3 : Nat) : Int)), vI (cn t), vI (cn 1)] [] M = X 228 80 [rR 3 11 1, vI x, vI a, vI b, vI n, vI pr, vI (cn ((3 : Nat) : Int)), vI (cn t), vI (cn 1)] [] M := by
  refine y_icF yk228 2 77 80 rfl rfl rfl (by decide) (by decide) ?_
  rfl
theorem od_4 : X 228 74 [rR 3 11 1, vI x, vI a, vI b, vI n, vI pr, vI (cn ((4 : Nat) : Int)), vI (cn t), vI (cn 1)] [] M = X 228 137 [rR 3 11 1, vI x, vI a, vI b, vI n, vI pr, vI (cn ((4 : Nat) : Int)), vI (cn t), vI (cn 1)] [] M := by
  refine y_icT yk228 2 77 131 rfl rfl rfl (by decide) ?_
  refine y_icF yk228 2 134 137 rfl rfl rfl (by decide) (by decide) ?_
  rfl
theorem od_5 : X 228 74 [rR 3 11 1, vI x, vI a, vI b, vI n, vI pr, vI (cn ((5 : Nat) : Int)), vI (cn t), vI (cn 1)] [] M = X 228 192 [rR 3 11 1, vI x, vI a, vI b, vI n, vI pr, vI (cn ((5 : Nat) : Int)), vI (cn t), vI (cn 1)] [] M := by
  refine y_icT yk228 2 77 131 rfl rfl rfl (by decide) ?_
  refine y_icT yk228 2 134 186 rfl rfl rfl (by decide) ?_
  refine y_icF yk228 2 189 192 rfl rfl rfl (by decide) (by decide) ?_
  rfl
theorem od_6 : X 228 74 [rR 3 11 1, vI x, vI a, vI b, vI n, vI pr, vI (cn ((6 : Nat) : Int)), vI (cn t), vI (cn 1)] [] M = X 228 250 [rR 3 11 1, vI x, vI a, vI b, vI n, vI pr, vI (cn ((6 : Nat) : Int)), vI (cn t), vI (cn 1)] [] M := by
  refine y_icT yk228 2 77 131 rfl rfl rfl (by decide) ?_
  refine y_icT yk228 2 134 186 rfl rfl rfl (by decide) ?_
  refine y_icT yk228 2 189 243 rfl rfl rfl (by decide) ?_
  refine y_icF yk228 2 247 250 rfl rfl rfl (by decide) (by decide) ?_
  rfl
theorem od_7 : X 228 74 [rR 3 11 1, vI x, vI a, vI b, vI n, vI pr, vI (cn ((7 : Nat) : Int)), vI (cn t), vI (cn 1)] [] M = X 228 308 [rR 3 11 1, vI x, vI a, vI b, vI n, vI pr, vI (cn ((7 : Nat) : Int)), vI (cn t), vI (cn 1)] [] M := by
  refine y_icT yk228 2 77 131 rfl rfl rfl (by decide) ?_
  refine y_icT yk228 2 134 186 rfl rfl rfl (by decide) ?_
  refine y_icT yk228 2 189 243 rfl rfl rfl (by decide) ?_
  refine y_icT yk228 2 247 301 rfl rfl rfl (by decide) ?_
  refine y_icF yk228 2 305 308 rfl rfl rfl (by decide) (by decide) ?_
  rfl
theorem od_8 : X 228 74 [rR 3 11 1, vI x, vI a, vI b, vI n, vI pr, vI (cn ((8 : Nat) : Int)), vI (cn t), vI (cn 1)] [] M = X 228 370 [rR 3 11 1, vI x, vI a, vI b, vI n, vI pr, vI (cn ((8 : Nat) : Int)), vI (cn t), vI (cn 1)] [] M := by
  refine y_icT yk228 2 77 131 rfl rfl rfl (by decide) ?_
  refine y_icT yk228 2 134 186 rfl rfl rfl (by decide) ?_
  refine y_icT yk228 2 189 243 rfl rfl rfl (by decide) ?_
  refine y_icT yk228 2 247 301 rfl rfl rfl (by decide) ?_
  refine y_icT yk228 2 305 370 rfl rfl rfl (by decide) ?_
  rfl
end OrdD
