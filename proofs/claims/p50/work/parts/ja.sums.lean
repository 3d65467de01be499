/-! sum is told by the log alone -/
section SumQ
variable {P0 P1 Q Q9 : PM} {cl' lg : Nat → Int32} {kp fo : Int32} {ou : Int64} {L e N T D t f g : Nat} {xs : Nat → Int32}
/-- the sum, as the reference answers -/
noncomputable def sumQ (q : PM) : Int64 := sAll (fun i c => (v12_position q (cn i) (cn c)).1) (fun i => (v12_cash q (cn i)).1) (fun b s => (v12_best q (cn b) (cn s)).1) (fun b s => (v12_last q (cn b) (cn s)).1) (fun b => (v12_endOf q (cn b)).1) (fun b => (v12_indicated q (cn b) (cn 1)).1) (fun v => (v12_stateOf q (cn v)).1) (fun v => (v12_rest q (cn v)).1) (fun v => (v12_priceOf q (cn v)).1) (fun m w => (v12_member q (cn m) (cn w)).1) (v12_trades q).1 (v12_stake q).1
theorem x_sum (I : IV lg P0 Q9 N T D t) (hg : Gr 0 P0) : X 233 0 [rR 3 11 1, vJ, vJ, vJ, vJ] [] (mm P0 P1 Zp cl' (cn t) kp fo ou L xs e) = some (.inl (some (vL (sumQ Q9))), mm P0 P1 Zp cl' (cn t) kp fo ou L xs e) := by
  unfold sumQ
  have W := I.1
  have fnd : ∀ v : Nat, ¬ (v12_stateOf Q9 (cn v)).1 = 0 → kFind P0 (cn v) = 0 := fun v h => by
    have h1 := ((ask_stateOf (v := cn v) W).2.2 rfl).2
    rw [h1] at h
    unfold kFind
    by_cases hz : v6_find P0 (cn v) = 0
    · rw [if_pos hz] at h
      exact absurd rfl h
    · exact if_neg hz
  refine su_all ?_ ?_ ?_ ?_ ?_ ?_ ?_ ?_ ?_ ?_ ?_ ?_ ?_ ?_
  · intro i c hi hc
    have h := ((ask_position (a := cn i) (c := cn c) W).2.2 (kPos_0 hi hc)).2
    refine (fq_195 I hg).trans ?_
    rw [kPos_0 hi hc, ← h]
    rfl
  · intro i hi
    have h := ((ask_cash (a := cn i) W).2.2 (kAcc_0 hi)).2
    refine (fq_196 I hg).trans ?_
    rw [kAcc_0 hi, ← h]
    rfl
  · intro b hb
    have h := ((ask_best (b := cn b) (t := cn 1) W).2.2 (kBk_0 hb))
    refine (fq_185 I hg (fun _ => h.1) h.2.symm).trans ?_
    rw [kBk_0 hb]
    rfl
  · intro b hb
    have h := ((ask_best (b := cn b) (t := cn 0) W).2.2 (kBk_0 hb))
    refine (fq_185 I hg (fun _ => h.1) h.2.symm).trans ?_
    rw [kBk_0 hb]
    rfl
  · intro b hb
    have h := ((ask_last (b := cn b) (t := cn 0) W).2.2 (kBk_0 hb)).2
    refine (fq_190 I hg).trans ?_
    rw [kBk_0 hb, ← h]
    rfl
  · intro b hb
    have h := ((ask_last (b := cn b) (t := cn 1) W).2.2 (kBk_0 hb)).2
    refine (fq_190 I hg).trans ?_
    rw [kBk_0 hb, ← h]
    rfl
  · intro b hb
    have h := ((ask_end (b := cn b) W).2.2 (kBk_0 hb)).2
    refine (fq_191 I hg).trans ?_
    rw [kBk_0 hb, ← h]
    rfl
  · intro b hb
    obtain ⟨-, r, Q3, e12, -, -, h⟩ := ask_ind (b := cn b) (t := cn 1) I
    obtain ⟨h1, h2⟩ := h (kBk_0 hb)
    refine (fq_192 I hg (fun _ => h1) rfl rfl).trans ?_
    rw [kBk_0 hb, e12, h2]
    unfold vInd inP
    by_cases h5 : P0.1 1 (v6_bookAt P0 (cn b)) 5 = 0
    · simp only [if_pos h5, if_true]
      rfl
    · simp only [if_neg h5]
      rfl
  · intro v hv
    have h := ((ask_stateOf (v := cn v) W).2.2 rfl).2
    refine (fq_187 I hg).trans ?_
    rw [← h]
  · intro v hv hz
    have h := ((ask_rest (v := cn v) W).2.2 (fnd v hz)).2
    refine (fq_188 I hg).trans ?_
    rw [fnd v hz, ← h]
    rfl
  · intro v hv hz
    have h := ((ask_priceOf (v := cn v) W).2.2 (fnd v hz)).2
    refine (fq_189 I hg).trans ?_
    rw [fnd v hz, ← h]
    rfl
  · intro m w hm hw
    have h := ((ask_member (m := cn m) (w := cn w) W).2.2 (kMem_0 hm hw))
    refine (fq_198 I hg (fun _ => h.1)).trans ?_
    rw [kMem_0 hm hw, ← h.2]
    rfl
  · have h := ((ask_trades W).2.2 rfl).2
    refine (fq_193 I hg).trans ?_
    rw [← h]
  · have h := ((ask_stake W).2.2 rfl).2
    refine (fq_199 I hg).trans ?_
    rw [← h]
end SumQ
