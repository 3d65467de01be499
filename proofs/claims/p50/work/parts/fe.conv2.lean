/-! a contract is converted: prices and positions -/
section Conv2
variable {p q : PM} {lg : Nat → Int32} {N T D l c b : Nat}
theorem acr_I {A : Nat} {v : Int32} (hc : c < 4) (h : ∀ a, a < 9 → AcR p q a) : ∀ a, a < 9 → AcR (pI p 13 (2 * (A + 1) - 1) c v) (pI q 13 1 (4 * A + c) v) a := by
  intro a ha
  obtain ⟨h1, h2⟩ := h a ha
  refine ⟨fun C hC => ?_, h2⟩
  rw [pI_1, pI_1]
  by_cases e : a = A ∧ C = c
  · rw [e.1, e.2, u3_same, u3_same]
  · rw [u3_ne (fun h => e ⟨by omega, h.2.2⟩), u3_ne (fun h => e ⟨by omega, by omega⟩)]
    exact h1 C hC
theorem ww_ref {v : Int} (H : WW p q lg 99 99 (fun _ => False) N T D l (fun _ => 0)) (hb : b < 6) (hv : PrB b v) : WW (pI p 1 (b + 1) 4 (cn v)) (pI q 13 11 b (cn v)) lg 99 99 (fun _ => False) N T D l (fun _ => 0) ∧ RS (pI q 13 11 b (cn v)) 40 = RS q 40 := by
  have e1 : ∀ i S, ¬ S = 4 → (pI p 1 (b + 1) 4 (cn v)).1 1 i S = p.1 1 i S := fun i S h => by rw [pI_1, u3_s h]
  have ek : ∀ K, ¬ K = 1 → (pI p 1 (b + 1) 4 (cn v)).1 K = p.1 K := fun K h => by
    funext i S
    rw [pI_1, u3_k h]
  have e13 : ∀ K, ¬ K = 11 → (pI q 13 11 b (cn v)).1 13 K = q.1 13 K := fun K h => by
    funext i
    rw [pI_1, u3_i h]
  have eqk : ∀ K, ¬ K = 13 → (pI q 13 11 b (cn v)).1 K = q.1 K := fun K h => by
    funext i S
    rw [pI_1, u3_k h]
  refine ww_lat H (fun _ _ _ => rfl) (fun K h _ _ => ek K h) (fun i _ => by rw [ek 13 (by decide)]) rfl (fun K _ _ h _ => e13 K h) (e13 30 (by decide)) (fun K _ _ => by rw [eqk 15 (by decide)]) (fun S _ => by rw [eqk 12 (by decide)]) (fun a ha => ?_) (fun c hc => ?_) ?_ ?_ ?_
  · have h := H.2.1.1 a ha
    unfold AcR at h ⊢
    rw [ek 13 (by decide), e13 1 (by decide)]
    exact h
  · have h := H.2.2.1 c hc
    unfold BkR AucR at h ⊢
    rw [e1 _ 3 (by decide), e1 _ 5 (by decide), e1 _ 6 (by decide), e1 _ 7 (by decide), e1 _ 8 (by decide), e1 _ 9 (by decide), e1 _ 10 (by decide), e1 _ 11 (by decide), e1 _ 12 (by decide), e13 10 (by decide), e13 12 (by decide), e13 13 (by decide), e13 6 (by decide), e13 7 (by decide), e13 8 (by decide), e13 9 (by decide), eqk 15 (by decide)]
    refine ⟨h.1, ?_, h.2.2⟩
    by_cases e : c = b
    · rw [e]
      exact ⟨v, hv, pI_at, pI_at⟩
    · rw [pI_1, u3_i (by omega), pI_1, u3_s e]
      exact h.2.1
  · exact dr_c (ek 4 (by decide)) (ek 7 (by decide)) rfl (fun i _ _ => e13 i (by omega)) (by rw [eqk 15 (by decide)]) (by rw [eqk 15 (by decide)]) (by rw [eqk 12 (by decide)]) H.2.2.2.1
  · obtain ⟨j1, j2⟩ := H.2.2.2.2.1
    refine ⟨fun c hc => ?_, fun c hc => ?_⟩
    · rw [ek 0 (by decide)]
      exact j1 c hc
    · rw [e1 _ 0 (by decide), e1 _ 1 (by decide), e1 _ 2 (by decide)]
      exact j2 c hc
  · exact pd_c (e13 1 (by decide)) (by rw [eqk 12 (by decide)]) rfl H.2.2.2.2.2.1
theorem cp_e {z n d : Int} (z1 : 1 ≤ z) (z2 : z ≤ 9999) (n1 : 1 ≤ n) (n2 : n ≤ 9) (d1 : 1 ≤ d) (d2 : d ≤ 9) : ∃ y : Int, 1 ≤ y ∧ y ≤ 9999 ∧ (g5_convertPrice p (cn z) (cn n) (cn d) ∧ g12_converted q (cn z) (cn n) (cn d)) ∧ v5_convertPrice p (cn z) (cn n) (cn d) = cn y ∧ v12_converted q (cn z) (cn n) (cn d) = cn y := by
  have b1 := mul_bd (n := z) (m := d) (A := 9999) (B := 9) (by omega) (by omega) (by omega) (by omega)
  have b2 : 0 ≤ z * d := Int.mul_nonneg (by omega) (by omega)
  obtain ⟨t1, -⟩ := td_rng (A := z * d) (B := n) (by omega)
  obtain ⟨t2, t3⟩ := t1 b2
  have e1 : cn z * cn d / cn n = cn ((z * d).tdiv n) := by rw [cnmul, cndiv ⟨by omega, by omega⟩ (by omega) (by omega)]
  obtain ⟨x, hx⟩ : ∃ x, (z * d).tdiv n = x := ⟨_, rfl⟩
  rw [hx] at e1 t2 t3
  have n0 : (0 : Int32) < cn n := by
    rw [zcn, cnlt (by decide) ⟨by omega, by omega⟩]
    omega
  have n0' : ¬ cn n = 0 := by
    rw [zcn, cneq ⟨by omega, by omega⟩ (by decide)]
    omega
  have emin : v14_min_7cf53 p (cn 9999) (cn x) = cn (if x < 9999 then x else 9999) := by
    unfold v14_min_7cf53 bv14_min_7cf53
    simp only [cnlt (a := x) (b := 9999) ⟨by omega, by omega⟩ (show rg 9999 by decide)]
    split <;> rfl
  have emax := max_cn p (a := 1) (b := if x < 9999 then x else 9999) (by decide) (by split <;> exact ⟨by omega, by omega⟩)
  have c1 : (cn x < cn 1) = (x < 1) := cnlt ⟨by omega, by omega⟩ (by decide)
  have c2 : (cn 9999 < cn x) = (9999 < x) := cnlt (by decide) ⟨by omega, by omega⟩
  refine ⟨if x < 1 then 1 else if 9999 < x then 9999 else x, ?_, ?_, ⟨?_, ?_⟩, ?_, ?_⟩
  · split
    · omega
    · split <;> omega
  · split
    · omega
    · split <;> omega
  · unfold g5_convertPrice bg5_convertPrice
    simp only [if_pos n0]
    exact ⟨n0', g_min _ _ _, g_max _ _ _, trivial⟩
  · unfold g12_converted bg12_converted
    refine ⟨n0', ?_⟩
    split
    · trivial
    · split <;> trivial
  · unfold v5_convertPrice bv5_convertPrice
    simp only [if_pos n0, e1, emin, emax]
    congr 1
    by_cases h1 : x < 1
    · rw [if_pos h1, if_pos (show x < 9999 by omega), if_neg (by omega)]
    · rw [if_neg h1]
      by_cases h2 : 9999 < x
      · rw [if_pos h2, if_neg (show ¬ x < 9999 by omega), if_pos (by omega)]
      · rw [if_neg h2]
        by_cases h3 : x < 9999
        · rw [if_pos h3]
          by_cases h4 : 1 < x
          · rw [if_pos h4]
          · rw [if_neg h4]
            omega
        · rw [if_neg h3, if_pos (by omega)]
          omega
  · unfold v12_converted bv12_converted
    simp only [e1, c1, c2]
    split
    · rfl
    · split <;> rfl
/-- what an account has then -/
def cvY (q : PM) (c : Nat) (n d : Int) (a : Nat) : Int := ((q.1 13 1 (4 * a + c)).toInt * n).tdiv d
theorem sc_e {v : Int32} {n d : Int} (n1 : 1 ≤ n) (n2 : n ≤ 9) (d1 : 1 ≤ d) (d2 : d ≤ 9) : (g7_scaled p v (cn n) (cn d) ∧ v7_scaled p v (cn n) (cn d) = cl ((v.toInt * n).tdiv d)) ∧ v.toInt64 * (cn n).toInt64 = cl (v.toInt * n) ∧ cl (v.toInt * n) / (cn d).toInt64 = cl ((v.toInt * n).tdiv d) ∧ (cn d).toInt64 = cl d ∧ ¬ cl d = 0 ∧ (-20000000000 ≤ v.toInt * n ∧ v.toInt * n ≤ 20000000000) := by
  have hv := I_rg v
  have hv1 := hv.1
  have hv2 := hv.2
  have b1 := mul_bd (n := v.toInt) (m := n) (A := 2147483648) (B := 9) (by omega) (by omega) (by omega) (by omega)
  have e1 : v.toInt64 * (cn n).toInt64 = cl (v.toInt * n) := by
    conv => lhs; rw [cn_of v]
    rw [cn64 hv, cn64 ⟨by omega, by omega⟩, clmul]
  have e2 : (cn d).toInt64 = cl d := cn64 ⟨by omega, by omega⟩
  have e3 : cl (v.toInt * n) / cl d = cl ((v.toInt * n).tdiv d) := cldiv ⟨by omega, by omega⟩ (by omega) (by omega)
  have n0 : (0 : Int32) < cn d := by
    rw [zcn, cnlt (by decide) ⟨by omega, by omega⟩]
    omega
  have z0 : ¬ cl d = 0 := cl0e (by omega) (by omega)
  refine ⟨⟨?_, ?_⟩, e1, by rw [e2]; exact e3, e2, z0, by omega, by omega⟩
  · unfold g7_scaled bg7_scaled
    rw [if_pos n0, e2]
    exact ⟨z0, trivial⟩
  · unfold v7_scaled bv7_scaled
    rw [if_pos n0, e1, e2, e3]
/-- a call that throws already -/
theorem cv45_t {a b c i : Int32} {n : Nat} (h : ¬ q.1 12 1 0 = 0) : v12_doConvert_45 (n + 1) q a b c i = (cn 0, q) ∧ g12_doConvert_45 (n + 1) q a b c i := by
  rw [ev12_doConvert_45, eg12_doConvert_45]
  unfold bv12_doConvert_45 bg12_doConvert_45
  simp only [if_neg h]
  refine ⟨?_, ?_⟩
  · split <;> rfl
  · split <;> trivial
theorem can_loop {F : Nat} (hF : FU = F) (hA : ∀ a, a < 9 → AcR p q a) (hc : c < 3) {n d : Int} (n1 : 1 ≤ n) (n2 : n ≤ 9) (d1 : 1 ≤ d) (d2 : d ≤ 9) (h0 : q.1 12 1 0 = 0) : ∀ (dd i m m' : Nat), i + dd = 8 → dd < m → dd + 1 < m' → g7_canConvert_3 p m (cn c) (cn n) (cn d) (cn i) ∧ ((v7_canConvert_3 p m (cn c) (cn n) (cn d) (cn i) = cn 1 ∧ (∀ a, i ≤ a → a < 8 → -1000000 ≤ cvY q c n d a ∧ cvY q c n d a ≤ 1000000) ∧ v12_doConvert_45 m' q (cn c) (cn n) (cn d) (cn i) = v12_doConvert_127 F q (cn c) (cn n) (cn d) (cn 0) (cn 0) ∧ (g12_doConvert_127 F q (cn c) (cn n) (cn d) (cn 0) (cn 0) → g12_doConvert_45 m' q (cn c) (cn n) (cn d) (cn i))) ∨ (v7_canConvert_3 p m (cn c) (cn n) (cn d) (cn i) = cn 0 ∧ v12_doConvert_45 m' q (cn c) (cn n) (cn d) (cn i) = (cn 0, pI q 12 1 0 (cn 3)) ∧ g12_doConvert_45 m' q (cn c) (cn n) (cn d) (cn i))) := by
  intro dd
  induction dd with
  | zero =>
    intro i m m' h1 h2 h3
    obtain ⟨n1', rfl⟩ : ∃ z9, m = z9 + 1 := ⟨m - 1, by omega⟩
    obtain ⟨n2', rfl⟩ : ∃ z9, m' = z9 + 1 := ⟨m' - 1, by omega⟩
    have e : i = 8 := by omega
    subst e
    have hn := lpf (i := 8) (N := 8) (by omega) (by omega) (by omega)
    rw [ev7_canConvert_3, eg7_canConvert_3, ev12_doConvert_45, eg12_doConvert_45, hF]
    unfold bv7_canConvert_3 bg7_canConvert_3 bv12_doConvert_45 bg12_doConvert_45
    simp only [if_neg hn, if_pos h0]
    exact ⟨trivial, Or.inl ⟨trivial, fun a k1 k2 => by omega, trivial, fun h => h⟩⟩
  | succ dd ih =>
    intro i m m' h1 h2 h3
    obtain ⟨n1', rfl⟩ : ∃ z9, m = z9 + 1 := ⟨m - 1, by omega⟩
    obtain ⟨n2', rfl⟩ : ∃ z9, m' = z9 + 1 := ⟨m' - 1, by omega⟩
    have l8 : cn (i : Int) < cn 8 := lpt (by omega) (by omega)
    have aa := account_e p (a := i) (by omega)
    have gaa := g_account p (a := i) (by omega)
    have hz : ¬ i + 1 = 0 := by omega
    have hh := holds_e p (i + 1) (c := c) (by omega)
    have gh := g_holds p (a := i) (c := c) (by omega) (by omega)
    have hpos := (hA i (by omega)).1 c (by omega)
    rw [hpos] at hh
    obtain ⟨⟨gs, es⟩, e1, e2, e3, e4, e5, e6⟩ := sc_e (p := p) (v := q.1 13 1 (4 * i + c)) n1 n2 d1 d2
    have hi36 := cninb (i := 4 * i + c) (n := 36) (by omega) (by omega)
    obtain ⟨t1, t2⟩ := td_rng (A := (q.1 13 1 (4 * i + c)).toInt * n) (B := d) (by omega)
    have eY : ((q.1 13 1 (4 * i + c)).toInt * n).tdiv d = cvY q c n d i := rfl
    rw [eY] at es e2 t1 t2
    have bY : -20000000000 ≤ cvY q c n d i ∧ cvY q c n d i ≤ 20000000000 := by
      rcases Int.le_total 0 ((q.1 13 1 (4 * i + c)).toInt * n) with h | h
      · have := t1 h
        omega
      · have := t2 h
        omega
    have ea := labs_cl p (Z := cvY q c n d i) ⟨by omega, by omega⟩
    have c1 : (cl 1000000 < cl (if cvY q c n d i < 0 then -cvY q c n d i else cvY q c n d i)) = (1000000 < (if cvY q c n d i < 0 then -cvY q c n d i else cvY q c n d i)) := cllt (by decide) (by split <;> exact ⟨by omega, by omega⟩)
    have c2 : (cl 1000000 < cl (cvY q c n d i)) = (1000000 < cvY q c n d i) := cllt (by decide) ⟨by omega, by omega⟩
    have c3 : (cl (cvY q c n d i) < cl (-1000000)) = (cvY q c n d i < -1000000) := cllt ⟨by omega, by omega⟩ (by decide)
    have q0 : pI q 12 1 0 (cn 0) = q := by
      rw [← show q.1 12 1 0 = cn 0 from h0]
      exact pI_id
    have t3 : ¬ (pI q 12 1 0 (cn 3)).1 12 1 0 = 0 := by
      rw [t_1]
      decide
    obtain ⟨ih1, ih2⟩ := ih (i + 1) n1' n2' (by omega) (by omega) (by omega)
    obtain ⟨n3, rfl⟩ : ∃ m, n2' = m + 1 := ⟨n2' - 1, by omega⟩
    obtain ⟨x1, x2⟩ := cv45_t (q := pI q 12 1 0 (cn 3)) (a := cn c) (b := cn n) (c := cn d) (i := cn ((i + 1 : Nat) : Int)) (n := n3) t3
    rw [ev7_canConvert_3, eg7_canConvert_3, ev12_doConvert_45, eg12_doConvert_45, hF]
    unfold bv7_canConvert_3 bg7_canConvert_3 bv12_doConvert_45 bg12_doConvert_45
    simp only [if_pos l8, aa, hh, es, ea, lg_lt0, lg_gt0, c1, if_pos h0, idx4, cntk (i := 4 * i + c) (by omega), e1, e2, c2, c3, q0, cnsucc]
    by_cases hbig : 1000000 < (if cvY q c n d i < 0 then -cvY q c n d i else cvY q c n d i)
    · simp only [if_pos hbig]
      refine ⟨⟨gaa, hz, gh, gs, g_labs _ _, trivial⟩, Or.inr ⟨trivial, ?_, ?_⟩⟩
      · by_cases k1 : 1000000 < cvY q c n d i
        · rw [if_pos k1]
          exact x1
        · rw [if_neg k1, if_pos (by split at hbig <;> omega)]
          exact x1
      · by_cases k1 : 1000000 < cvY q c n d i
        · rw [if_pos k1]
          exact ⟨hi36, by rw [e3]; exact e4, x2⟩
        · rw [if_neg k1, if_pos (by split at hbig <;> omega)]
          exact ⟨hi36, by rw [e3]; exact e4, x2⟩
    · have k1 : ¬ 1000000 < cvY q c n d i := by split at hbig <;> omega
      have k2 : ¬ cvY q c n d i < -1000000 := by split at hbig <;> omega
      simp only [if_neg hbig, if_neg k1, if_neg k2]
      refine ⟨⟨gaa, hz, gh, gs, g_labs _ _, ih1⟩, ?_⟩
      rcases ih2 with ⟨y1, y2, y3, y4⟩ | ⟨y1, y2, y3⟩
      · refine Or.inl ⟨y1, fun a ka kb => ?_, y3, fun h => ⟨hi36, by rw [e3]; exact e4, y4 h⟩⟩
        by_cases e : a = i
        · rw [e]
          omega
        · exact y2 a (by omega) kb
      · exact Or.inr ⟨y1, y2, hi36, by rw [e3]; exact e4, y3⟩
end Conv2
