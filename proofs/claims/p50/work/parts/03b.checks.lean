/-! THE SOUNDNESS of the interpreter over the machine, first part: what the tables say, the picture of the heap -/
def cN (o : Nat) : String := [RX0, RX1, RX2, RX3, RX4, RX5, RX6, RX7, RX8, RX9, RX10, RX11, RX11, RL, RJ9].getD o ""
def TXs : Nat → u_T
  | 0 => TX0
  | 1 => TX1
  | 2 => TX2
  | 3 => TX3
  | 4 => TX4
  | 5 => TX5
  | 6 => TX6
  | 7 => TX7
  | 8 => TX8
  | 9 => TX9
  | 10 => TX10
  | 11 => TX11
  | _ => TX11
def tyXs : Nat → Nat → FieldType
  | 0 => tyX0
  | 1 => tyX1
  | 2 => tyX2
  | 3 => tyX3
  | 4 => tyX4
  | 5 => tyX5
  | 6 => tyX6
  | 7 => tyX7
  | 8 => tyX8
  | 9 => tyX9
  | 10 => tyX10
  | 11 => tyX11
  | _ => tyX11
def GW : List Cond := lw_tbl.filter goodWord
theorem GW_at {w : Cond} (i : Nat) (h : lw_tbl[i]? = some w) (hg : goodWord w = true) : w ∈ GW := List.mem_filter.mpr ⟨List.mem_of_getElem? h, hg⟩
theorem lk_mem {α : Type} : ∀ {l : List (Nat × α)} {q : Nat} {v : α}, lk l q = some v → (q, v) ∈ l
  | [], _, _, h => by cases h
  | (a, w) :: r, q, v, h => by
    unfold lk at h
    by_cases e : a = q
    · rw [if_pos e] at h
      cases h
      rw [e]
      exact List.mem_cons_self
    · rw [if_neg e] at h
      exact List.mem_cons_of_mem _ (lk_mem h)
theorem key_div {o q : Nat} (h : q < 1000) : (o * 1000 + q) / 1000 = o ∧ (o * 1000 + q) % 1000 = q := by omega
def tyOK (ty : FieldType) (t : Nat) : Bool := match ty, t with
  | .int, 0 => true
  | .boolean, 1 => true
  | .long, 2 => true
  | .object _, _ + 3 => true
  | .array _, _ + 3 => true
  | _, _ => false
def ckF (z : Nat × Nat × Nat × Nat × Nat × Nat) : Bool := match z with
  | (key, K, S, t, f, ps) => decide (K < 13) && decide (S < nfK K) && decide (tyS K S = t) && decide (lw_tbl[ps]? = some (Cond.fieldLink (cN (key / 1000)) (key % 1000) (cN K) (TXs K S).2.1 (TXs K S).2.2.1)) && goodWord (Cond.fieldLink (cN (key / 1000)) (key % 1000) (cN K) (TXs K S).2.1 (TXs K S).2.2.1) && decide ((TXs K S).1 = cN K) && decide ((TXs K S).2.2.2 = decide (f = 1)) && decide (f ≤ 1) && tyOK (tyXs K S) t
set_option maxRecDepth 100000 in
theorem fT_ok : fT.all ckF = true := by decide +kernel
theorem pF_ok {o q K S t f ps : Nat} (h : pF o q = some (K, S, t, f, ps)) : K < 13 ∧ S < nfK K ∧ tyS K S = t ∧ Cond.fieldLink (cN o) q (cN K) (TXs K S).2.1 (TXs K S).2.2.1 ∈ GW ∧ (TXs K S).1 = cN K ∧ (TXs K S).2.2.2 = decide (f = 1) ∧ f ≤ 1 ∧ tyOK (tyXs K S) t = true := by
  unfold pF at h
  by_cases hq : q < 1000
  · rw [if_pos hq] at h
    have h1 := List.all_eq_true.mp fT_ok _ (lk_mem h)
    have h2 := key_div (o := o) hq
    simp only [ckF, Bool.and_eq_true, decide_eq_true_eq, h2.1, h2.2] at h1
    obtain ⟨⟨⟨⟨⟨⟨⟨⟨a1, a2⟩, a3⟩, a4⟩, a5⟩, a6⟩, a7⟩, a8⟩, a9⟩ := h1
    exact ⟨a1, a2, a3, GW_at ps a4 a5, a6, a7, a8, a9⟩
  · rw [if_neg hq] at h
    cases h
theorem vwCl_at {K : Nat} (h : K < 13) : vwCl[K]? = some (cN K, TXs K, nfK K) := by
  match K, h with
  | 0, _ => rfl
  | 1, _ => rfl
  | 2, _ => rfl
  | 3, _ => rfl
  | 4, _ => rfl
  | 5, _ => rfl
  | 6, _ => rfl
  | 7, _ => rfl
  | 8, _ => rfl
  | 9, _ => rfl
  | 10, _ => rfl
  | 11, _ => rfl
  | 12, _ => rfl
def ckW (K : Nat) : Bool := (u_ws (cN K) (TXs K) (nfK K)).all (fun w => decide (w ∈ lw_tbl) && goodWord w)
set_option maxRecDepth 100000 in
theorem uws_ok : (List.range 13).all ckW = true := by decide +kernel
theorem uws_in {K : Nat} (h : K < 13) : ∀ w ∈ u_ws (cN K) (TXs K) (nfK K), w ∈ GW := by
  intro w hw
  have h1 := List.all_eq_true.mp uws_ok K (List.mem_range.mpr h)
  have h2 := List.all_eq_true.mp h1 w hw
  simp only [Bool.and_eq_true, decide_eq_true_eq] at h2
  exact List.mem_filter.mpr h2
theorem tyXs_ok {K : Nat} (h : K < 13) : ∀ k, k < nfK K → parseFieldDescriptor (TXs K k).2.2.1 = some (tyXs K k) := by
  match K, h with
  | 0, _ => exact tyX0_ok
  | 1, _ => exact tyX1_ok
  | 2, _ => exact tyX2_ok
  | 3, _ => exact tyX3_ok
  | 4, _ => exact tyX4_ok
  | 5, _ => exact tyX5_ok
  | 6, _ => exact tyX6_ok
  | 7, _ => exact tyX7_ok
  | 8, _ => exact tyX8_ok
  | 9, _ => exact tyX9_ok
  | 10, _ => exact tyX10_ok
  | 11, _ => exact tyX11_ok
  | 12, _ => exact tyX11_ok
theorem nmXs {K : Nat} (h : K < 13) : ∀ a, a < nfK K → ∀ b, b < nfK K → a ≠ b → (TXs K a).2.1 ≠ (TXs K b).2.1 := by
  match K, h with
  | 0, _ => exact nmX0
  | 1, _ => exact nmX1
  | 2, _ => exact nmX2
  | 3, _ => exact nmX3
  | 4, _ => exact nmX4
  | 5, _ => exact nmX5
  | 6, _ => exact nmX6
  | 7, _ => exact nmX7
  | 8, _ => exact nmX8
  | 9, _ => exact nmX9
  | 10, _ => exact nmX10
  | 11, _ => exact nmX11
  | 12, _ => exact nmX11
def ckC (z : Nat × Int × Nat) : Bool := decide (lw_tbl[z.2.2]? = some (Cond.constant (cN (z.1 / 1000)) (z.1 % 1000) (Int32.ofInt z.2.1))) && goodWord (Cond.constant (cN (z.1 / 1000)) (z.1 % 1000) (Int32.ofInt z.2.1))
theorem cT_ok : cT.all ckC = true := by decide +kernel
theorem pC_ok {o q ps : Nat} {v : Int} (h : pC o q = some (v, ps)) : Cond.constant (cN o) q (Int32.ofInt v) ∈ GW := by
  unfold pC at h
  by_cases hq : q < 1000
  · rw [if_pos hq] at h
    have h1 := List.all_eq_true.mp cT_ok _ (lk_mem h)
    have h2 := key_div (o := o) hq
    simp only [ckC, Bool.and_eq_true, decide_eq_true_eq, h2.1, h2.2] at h1
    exact GW_at ps h1.1 h1.2
  · rw [if_neg hq] at h
    cases h
def ckL (z : Nat × Int × Nat) : Bool := decide (lw_tbl[z.2.2]? = some (Cond.constantLong (cN (z.1 / 1000)) (z.1 % 1000) (Int64.ofInt z.2.1))) && goodWord (Cond.constantLong (cN (z.1 / 1000)) (z.1 % 1000) (Int64.ofInt z.2.1))
theorem lT_ok : lT.all ckL = true := by decide +kernel
theorem pL_ok {o q ps : Nat} {v : Int} (h : pL o q = some (v, ps)) : Cond.constantLong (cN o) q (Int64.ofInt v) ∈ GW := by
  unfold pL at h
  by_cases hq : q < 1000
  · rw [if_pos hq] at h
    have h1 := List.all_eq_true.mp lT_ok _ (lk_mem h)
    have h2 := key_div (o := o) hq
    simp only [ckL, Bool.and_eq_true, decide_eq_true_eq, h2.1, h2.2] at h1
    exact GW_at ps h1.1 h1.2
  · rw [if_neg hq] at h
    cases h
