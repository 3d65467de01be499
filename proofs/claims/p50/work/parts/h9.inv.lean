/-! what holds between two calls of the law -/
/-- begun anew, whatever the log holds -/
def FR (P : PM) : Prop := ∀ (lg : Nat → Int32) (Q : PM), ¬ lg 4006 = cn 1 → (∀ j, j < 4000 → Q.1 13 40 j = lg j) → Q.1 12 1 60 = lg 4000 → Q.1 12 1 61 = lg 4001 → (∀ k, k < 60 → b01 (Q.1 15 8 k)) → IV lg P (v12_resets Q) 0 0 0 0
/-- the face's rows are the reference's, their kinds counted from 1 -/
def ROW (lg cl : Nat → Int32) (t : Nat) : Prop := ∀ i, i < t → ∃ k : Nat, k < 27 ∧ lg (7 * i) = cn k ∧ cl (7 * i) = cn ((k + 1 : Nat) : Int) ∧ cl (7 * i + 1) = lg (7 * i + 1) ∧ cl (7 * i + 2) = lg (7 * i + 2) ∧ cl (7 * i + 3) = lg (7 * i + 3) ∧ cl (7 * i + 4) = lg (7 * i + 4) ∧ cl (7 * i + 5) = lg (7 * i + 5) ∧ cl (7 * i + 6) = lg (7 * i + 6)
/-- an exchange that has played the first n rows -/
def PLD (lg : Nat → Int32) (P : PM) (n : Nat) : Prop := ∃ Ps, FR Ps ∧ P = plC lg Ps n ∧ ∀ i, i < n → rwE lg (plC lg Ps i) i = 0
def JN (lg : Nat → Int32) (P0 P1 Q : PM) (cl : Nat → Int32) (N T D t f g : Nat) : Prop := IV lg P0 Q N T D t ∧ (Gr 0 P0 ∧ Gr 0 P1 ∧ ¬ lg 4006 = cn 1) ∧ (lg 4000 = cn t ∧ lg 4001 = cn f) ∧ (f ≤ t ∧ g ≤ t ∧ t ≤ 512) ∧ ROW lg cl t ∧ PLD lg P0 t ∧ PLD lg P1 g
def INV (P0 P1 Q : PM) (cl : Nat → Int32) (t f g : Nat) : Prop := ∃ lg N T D, JN lg P0 P1 Q cl N T D t f g
section Inv
variable {P0 P1 Q : PM} {cl lg : Nat → Int32} {N T D t f g k : Nat} {a b c d x y : Int32}
theorem row_o (h : ROW lg cl t) : RwO lg t := fun i hi => by
  obtain ⟨k, hk, h1, -⟩ := h i hi
  exact ⟨k, hk, h1⟩
theorem lgw_lo {n j : Nat} {v : Int32} (hj : j < 7 * n) (hn : n < 520) : lgw lg n v a b c d x y j = lg j := by
  unfold lgw
  rw [if_neg (by omega), if_neg (by omega), if_neg (by omega), if_neg (by omega), if_neg (by omega), if_neg (by omega), if_neg (by omega), if_neg (by omega)]
theorem lgw_0 {n : Nat} {v : Int32} : lgw lg n v a b c d x y (7 * n) = v := if_pos rfl
theorem lgw_1 {n : Nat} {v : Int32} : lgw lg n v a b c d x y (7 * n + 1) = a := by unfold lgw; rw [if_neg (by omega), if_pos rfl]
theorem lgw_2 {n : Nat} {v : Int32} : lgw lg n v a b c d x y (7 * n + 2) = b := by unfold lgw; rw [if_neg (by omega), if_neg (by omega), if_pos rfl]
theorem lgw_3 {n : Nat} {v : Int32} : lgw lg n v a b c d x y (7 * n + 3) = c := by unfold lgw; rw [if_neg (by omega), if_neg (by omega), if_neg (by omega), if_pos rfl]
theorem lgw_4 {n : Nat} {v : Int32} : lgw lg n v a b c d x y (7 * n + 4) = d := by unfold lgw; rw [if_neg (by omega), if_neg (by omega), if_neg (by omega), if_neg (by omega), if_pos rfl]
theorem lgw_5 {n : Nat} {v : Int32} : lgw lg n v a b c d x y (7 * n + 5) = x := by unfold lgw; rw [if_neg (by omega), if_neg (by omega), if_neg (by omega), if_neg (by omega), if_neg (by omega), if_pos rfl]
theorem lgw_6 {n : Nat} {v : Int32} : lgw lg n v a b c d x y (7 * n + 6) = y := by unfold lgw; rw [if_neg (by omega), if_neg (by omega), if_neg (by omega), if_neg (by omega), if_neg (by omega), if_neg (by omega), if_pos rfl]
theorem lgw_n {n : Nat} {v : Int32} (hn : n < 520) : lgw lg n v a b c d x y 4000 = cn ((n + 1 : Nat) : Int) := by unfold lgw; rw [if_neg (by omega), if_neg (by omega), if_neg (by omega), if_neg (by omega), if_neg (by omega), if_neg (by omega), if_neg (by omega), if_pos rfl]
theorem lgw_k {n : Nat} {v : Int32} (hn : n < 520) : lgw lg n v a b c d x y 4001 = lg 4001 := by unfold lgw; rw [if_neg (by omega), if_neg (by omega), if_neg (by omega), if_neg (by omega), if_neg (by omega), if_neg (by omega), if_neg (by omega), if_neg (by omega)]
theorem rw_c {lg' : Nat → Int32} {i n : Nat} {P : PM} (h : ∀ j, j < 7 * n → lg' j = lg j) (hi : i < n) : rwE lg' P i = rwE lg P i := by
  unfold rwE rwK
  rw [h (7 * i) (by omega), h (7 * i + 1) (by omega), h (7 * i + 2) (by omega), h (7 * i + 3) (by omega), h (7 * i + 4) (by omega), h (7 * i + 5) (by omega), h (7 * i + 6) (by omega)]
/-- rows from n on do not count -/
theorem pld_c {lg' : Nat → Int32} {P : PM} {n : Nat} (h : ∀ j, j < 7 * n → lg' j = lg j) (H : PLD lg P n) : PLD lg' P n := by
  obtain ⟨Ps, h1, h2, h3⟩ := H
  refine ⟨Ps, h1, ?_, fun i hi => ?_⟩
  · rw [plC_c (lg := lg) (lg' := lg') (p := Ps) (n := n) h]
    exact h2
  · rw [rw_c h hi, plC_c (lg := lg) (lg' := lg') (p := Ps) (n := i) (fun j hj => h j (by omega))]
    exact h3 i hi
theorem pld_s {P : PM} {n : Nat} (hk : k < 27) (h0 : lg (7 * n) = cn k) (H : PLD lg P n) (hE : kE P (lg (7 * n + 1)) (lg (7 * n + 2)) (lg (7 * n + 3)) (lg (7 * n + 4)) (lg (7 * n + 5)) (lg (7 * n + 6)) k = 0) : PLD lg (v5_work (vE P (lg (7 * n + 1)) (lg (7 * n + 2)) (lg (7 * n + 3)) (lg (7 * n + 4)) (lg (7 * n + 5)) (lg (7 * n + 6)) k).2) (n + 1) := by
  obtain ⟨Ps, h1, h2, h3⟩ := H
  refine ⟨Ps, h1, ?_, fun i hi => ?_⟩
  · show _ = v5_work (rwCl lg (plC lg Ps n) n).2
    unfold rwCl
    rw [rwK_e hk h0, ← h2]
  · by_cases hin : i < n
    · exact h3 i hin
    · have e : i = n := by omega
      subst e
      unfold rwE
      rw [rwK_e hk h0, ← h2]
      exact hE
/-- an event, in both -/
theorem sem_ev (hk : k < 27) (ht : t < 512) (J : JN lg P0 P1 Q cl N T D t f g) : (kE P0 a b c d x y k = 0 → gE P0 a b c d x y k ∧ g5_work (vE P0 a b c d x y k).2) ∧ g12_act Q (cn k) a b c d x y ∧ ∃ r Q2, v12_act Q (cn k) a b c d x y = (r, Q2) ∧ Q2.1 12 1 0 = cn (kE P0 a b c d x y k : Nat) ∧ (kE P0 a b c d x y k = 0 → (r = (vE P0 a b c d x y k).1 ∧ Q2 = logQ (v12_works (v12_does Q (cn k) a b c d x y).2) t (cn k) a b c d x y) ∧ INV (v5_work (vE P0 a b c d x y k).2) P1 Q2 (clw cl t (cn ((k + 1 : Nat) : Int)) a b c d x y) (t + 1) f g) ∧ (¬ kE P0 a b c d x y k = 0 → Q2 = pI Q 12 1 0 (cn (kE P0 a b c d x y k)) ∧ INV P0 P1 Q2 cl t f g) := by
  obtain ⟨I, ⟨hg0, hg1, hfl⟩, ⟨h60, h61⟩, ⟨hf, hgt, ht5⟩, hR, hP0, hP1⟩ := J
  obtain ⟨A1, A2⟩ := act_eq (a := a) (b := b) (c := c) (d := d) (x := x) (f := y) hk (Or.inl hfl) (Or.inl hfl) (e := t) (by omega) (n := t) (by omega) I h60
  by_cases h0 : kE P0 a b c d x y k = 0
  · obtain ⟨G, W, ga, Q2, N2, T2, D2, e1, e2, I2, eQ⟩ := A1 h0
    have hgp : Gr 0 (v5_work (vE P0 a b c d x y k).2) := (x_play0 (P1 := P1) (Q := Q) (cl := clw cl t (cn ((k + 1 : Nat) : Int)) a b c d x y) (tl := 0) (kp := 0) (fo := 0) (ou := 0) (L := 0) (e := 0) (xs := fun _ => 0) hk ht clw_0 clw_1 clw_2 clw_3 clw_4 clw_5 clw_6 hg0 G W).2
    refine ⟨fun _ => ⟨G, W⟩, ga, _, Q2, e1, by rw [h0]; exact e2, fun _ => ⟨⟨rfl, eQ⟩, lgw lg t (cn k) a b c d x y, N2, T2, D2, I2, ⟨hgp, hg1, by rw [lgw_f (by omega) (by decide)]; exact hfl⟩, ⟨lgw_n (by omega), by rw [lgw_k (by omega)]; exact h61⟩, ⟨by omega, by omega, by omega⟩, ?_, ?_, ?_⟩, fun h => absurd h0 h⟩
    · intro i hi
      by_cases hit : i < t
      · obtain ⟨k2, hk2, r0, r1, r2, r3, r4, r5, r6, r7⟩ := hR i hit
        have hc : ∀ j, j < 7 * t → clw cl t (cn ((k + 1 : Nat) : Int)) a b c d x y j = cl j := fun j hj => by
          unfold clw
          rw [if_neg (by omega), if_neg (by omega), if_neg (by omega), if_neg (by omega), if_neg (by omega), if_neg (by omega), if_neg (by omega)]
        refine ⟨k2, hk2, ?_⟩
        rw [hc (7 * i) (by omega), hc (7 * i + 1) (by omega), hc (7 * i + 2) (by omega), hc (7 * i + 3) (by omega), hc (7 * i + 4) (by omega), hc (7 * i + 5) (by omega), hc (7 * i + 6) (by omega), lgw_lo (j := 7 * i) (by omega) (by omega), lgw_lo (j := 7 * i + 1) (by omega) (by omega), lgw_lo (j := 7 * i + 2) (by omega) (by omega), lgw_lo (j := 7 * i + 3) (by omega) (by omega), lgw_lo (j := 7 * i + 4) (by omega) (by omega), lgw_lo (j := 7 * i + 5) (by omega) (by omega), lgw_lo (j := 7 * i + 6) (by omega) (by omega)]
        exact ⟨r0, r1, r2, r3, r4, r5, r6, r7⟩
      · have e : i = t := by omega
        subst e
        refine ⟨k, hk, ?_⟩
        rw [clw_0, clw_1, clw_2, clw_3, clw_4, clw_5, clw_6, lgw_0, lgw_1, lgw_2, lgw_3, lgw_4, lgw_5, lgw_6]
        exact ⟨rfl, rfl, rfl, rfl, rfl, rfl, rfl, rfl⟩
    · have h := pld_s (lg := lgw lg t (cn k) a b c d x y) (P := P0) (n := t) hk lgw_0 (pld_c (fun j hj => lgw_lo hj (by omega)) hP0)
      rw [lgw_1, lgw_2, lgw_3, lgw_4, lgw_5, lgw_6] at h
      exact h h0
    · exact pld_c (fun j hj => lgw_lo (by omega) (by omega)) hP1
  · obtain ⟨ga, e1, I2⟩ := A2 h0 (kE_lt _ _ _ _ _ _ _ _)
    exact ⟨fun h => absurd h h0, ga, _, _, e1, pI_at, fun h => absurd h h0, fun _ => ⟨rfl, lg, N, T, D, I2, ⟨hg0, hg1, hfl⟩, ⟨h60, h61⟩, ⟨hf, hgt, ht5⟩, hR, hP0, hP1⟩⟩
end Inv
