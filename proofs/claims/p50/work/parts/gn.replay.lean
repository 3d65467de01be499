/-! a log is played again -/
section Replay
variable {p q : PM} {lg lg' : Nat → Int32} {N T D e : Nat}
/-- the kind of a row -/
def rwK (lg : Nat → Int32) (i : Nat) : Nat := (lg (7 * i)).toNatClampNeg
noncomputable def rwE (lg : Nat → Int32) (p : PM) (i : Nat) : Nat := kE p (lg (7 * i + 1)) (lg (7 * i + 2)) (lg (7 * i + 3)) (lg (7 * i + 4)) (lg (7 * i + 5)) (lg (7 * i + 6)) (rwK lg i)
noncomputable def rwG (lg : Nat → Int32) (p : PM) (i : Nat) : Prop := gE p (lg (7 * i + 1)) (lg (7 * i + 2)) (lg (7 * i + 3)) (lg (7 * i + 4)) (lg (7 * i + 5)) (lg (7 * i + 6)) (rwK lg i)
noncomputable def rwCl (lg : Nat → Int32) (p : PM) (i : Nat) : Int32 × PM := vE p (lg (7 * i + 1)) (lg (7 * i + 2)) (lg (7 * i + 3)) (lg (7 * i + 4)) (lg (7 * i + 5)) (lg (7 * i + 6)) (rwK lg i)
noncomputable def rwQ (lg : Nat → Int32) (q : PM) (i : Nat) : Int64 × PM := v12_does q (lg (7 * i)) (lg (7 * i + 1)) (lg (7 * i + 2)) (lg (7 * i + 3)) (lg (7 * i + 4)) (lg (7 * i + 5)) (lg (7 * i + 6))
/-- the class plays n rows; the reference does -/
noncomputable def plC (lg : Nat → Int32) (p : PM) : Nat → PM
  | 0 => p
  | n + 1 => v5_work (rwCl lg (plC lg p n) n).2
noncomputable def plQ (lg : Nat → Int32) (q : PM) : Nat → PM
  | 0 => q
  | n + 1 => v12_works (rwQ lg (plQ lg q n) n).2
/-- rows of known kinds -/
def RwO (lg : Nat → Int32) (n : Nat) : Prop := ∀ i, i < n → ∃ k : Nat, k < 27 ∧ lg (7 * i) = cn k
theorem rwK_e {i k : Nat} (hk : k < 27) (h : lg (7 * i) = cn k) : rwK lg i = k := by
  unfold rwK
  rw [h, cntk (by omega)]
theorem rep_step {k : Nat} (hfl : ¬ lg 4006 = cn 1) (hk : k < 27) (hr : lg (7 * e) = cn k) (he : e + 1 ≤ 600) (h : IV lg p q N T D e) : (rwE lg p e = 0 → (rwG lg p e ∧ g5_work (rwCl lg p e).2 ∧ g12_does q (lg (7 * e)) (lg (7 * e + 1)) (lg (7 * e + 2)) (lg (7 * e + 3)) (lg (7 * e + 4)) (lg (7 * e + 5)) (lg (7 * e + 6)) ∧ g12_works (rwQ lg q e).2) ∧ (rwQ lg q e).2.1 12 1 0 = cn 0 ∧ ∃ N2 T2 D2, IV lg (v5_work (rwCl lg p e).2) (v12_works (rwQ lg q e).2) N2 T2 D2 (e + 1)) ∧ (¬ rwE lg p e = 0 → (rwQ lg q e).2 = pI q 12 1 0 (cn (rwE lg p e))) := by
  obtain ⟨G, ⟨A1, A2⟩, A3⟩ := does_all (a := lg (7 * e + 1)) (b := lg (7 * e + 2)) (c := lg (7 * e + 3)) (d := lg (7 * e + 4)) (x := lg (7 * e + 5)) (f := lg (7 * e + 6)) hk (Or.inl hfl) (Or.inl hfl) he h
  obtain ⟨H, hN, hS, n1, t1, d1⟩ := h
  have hRS := RS_rng H.1.1 40 (by decide)
  unfold rwE rwG rwCl rwQ
  rw [rwK_e hk hr, hr]
  constructor
  · intro h0
    obtain ⟨g1, r0, e1, N2, T2, D2, b1', b2', W, b3', b4'⟩ := A1 h0
    have S1 := A3 h0
    dsimp only at r0 e1 W b3' b4'
    have hRS2 := RS_rng W.1.1 40 (by decide)
    obtain ⟨⟨w1, w2⟩, T3, D3, w3, W3, w4, w5, w6⟩ := ww_work W (by omega) (by omega)
    have hRS3 := RS_rng W3.1.1 40 (by decide)
    have F := fx_v12_works (q := (v12_does q (cn k) (lg (7 * e + 1)) (lg (7 * e + 2)) (lg (7 * e + 3)) (lg (7 * e + 4)) (lg (7 * e + 5)) (lg (7 * e + 6))).2) (fx_refl _)
    exact ⟨⟨g1, w1, G, w2⟩, r0, N2, T3, D3, W3, w4, sb_fx S1 F, by omega, by omega, by omega⟩
  · intro h0
    exact A2 h0
/-- a log that was played on one can be played on any other that is new, with the same reference -/
theorem rep_all {n : Nat} (hfl : ¬ lg 4006 = cn 1) (hn : n + 1 ≤ 600) (hO : RwO lg n) (h : IV lg p q 0 0 0 0) (hE : ∀ i, i < n → rwE lg (plC lg p i) i = 0) : ∃ N T D, IV lg (plC lg p n) (plQ lg q n) N T D n := by
  induction n with
  | zero => exact ⟨0, 0, 0, h⟩
  | succ n ih =>
    obtain ⟨N, T, D, H⟩ := ih (by omega) (fun i hi => hO i (by omega)) (fun i hi => hE i (by omega))
    obtain ⟨k, hk, hr⟩ := hO n (by omega)
    obtain ⟨-, -, N2, T2, D2, H2⟩ := (rep_step hfl hk hr (by omega) H).1 (hE n (by omega))
    exact ⟨N2, T2, D2, H2⟩
theorem rep_alike {p' : PM} {n : Nat} (hfl : ¬ lg 4006 = cn 1) (hn : n + 1 ≤ 600) (hO : RwO lg n) (h : IV lg p q 0 0 0 0) (h' : IV lg p' q 0 0 0 0) (hE : ∀ i, i < n → rwE lg (plC lg p i) i = 0) (hlt : ∀ i, i < n → rwE lg (plC lg p' i) i < 4) : ∀ i, i < n → rwE lg (plC lg p' i) i = 0 := by
  intro i
  induction i using Nat.strongRecOn with
  | ind i ih =>
    intro hi
    obtain ⟨N, T, D, H⟩ := rep_all (n := i) hfl (by omega) (fun j hj => hO j (by omega)) h (fun j hj => hE j (by omega))
    obtain ⟨N', T', D', H'⟩ := rep_all (n := i) hfl (by omega) (fun j hj => hO j (by omega)) h' (fun j hj => ih j hj (by omega))
    obtain ⟨k, hk, hr⟩ := hO i hi
    have r0 := ((rep_step hfl hk hr (by omega) H).1 (hE i hi)).2.1
    by_cases hz : rwE lg (plC lg p' i) i = 0
    · exact hz
    · have r1 := (rep_step hfl hk hr (by omega) H').2 hz
      have hl := hlt i hi
      rw [r1, t_1, cneq ⟨by omega, by omega⟩ (by decide)] at r0
      omega
/-- rows before n alone count -/
theorem plC_c {n : Nat} (h : ∀ j, j < 7 * n → lg' j = lg j) : plC lg' p n = plC lg p n := by
  induction n with
  | zero => rfl
  | succ n ih =>
    show v5_work (rwCl lg' (plC lg' p n) n).2 = v5_work (rwCl lg (plC lg p n) n).2
    rw [ih (fun j hj => h j (by omega))]
    unfold rwCl rwK
    rw [h (7 * n) (by omega), h (7 * n + 1) (by omega), h (7 * n + 2) (by omega), h (7 * n + 3) (by omega), h (7 * n + 4) (by omega), h (7 * n + 5) (by omega), h (7 * n + 6) (by omega)]
end Replay
/-- a refusal is 0, 1, 2 or 3 -/
theorem kE_lt (p : PM) (a b c d x f : Int32) (k : Nat) : kE p a b c d x f k < 4 := by
  unfold kE
  split
  all_goals first
    | unfold kLimit kLimS
    | unfold kMarket
    | unfold kIceberg
    | unfold kPeg
    | unfold kStop
    | unfold kQuote
    | unfold kCancel
    | unfold kRule
    | unfold kBand
    | unfold kProt
    | unfold kMost
    | unfold kAuction
    | unfold kPass
    | unfold kDay
    | unfold kBust
    | unfold kAdjust
    | unfold kGive
    | unfold kAllot
    | unfold kExer
    | unfold kConv
    | unfold kMove
    | unfold kHair
    | unfold kPay
    | unfold kFund
    | unfold kFail
    | unfold kBid
    | unfold kClose
  all_goals repeat' split
  all_goals decide
