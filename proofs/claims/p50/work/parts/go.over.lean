/-! a log is kept; what is not kept is lost -/
section Over
variable {p q P0 Q0 : PM} {lg : Nat → Int32} {N T D e : Nat}
theorem fo_loop (hfl : ¬ lg 4006 = cn 1) {f : Nat} {v : Int32} (hf : f ≤ 512) (h : IV lg P0 Q0 0 0 0 0) (h61 : lg 4001 = cn f) (hO : RwO lg f) (hE : ∀ i, i < f → rwE lg (plC lg P0 i) i = 0) : ∀ (d i n : Nat), i + d = f → d < n → v12_failOver_16 n (plQ lg Q0 i) v (cn i) = (v, pI (pI (plQ lg Q0 f) 12 1 60 (cn f)) 12 1 0 (cn 0)) ∧ g12_failOver_16 n (plQ lg Q0 i) v (cn i) := by
  intro d
  induction d with
  | zero =>
    intro i n h1 h2
    obtain ⟨n1, rfl⟩ : ∃ z9, n = z9 + 1 := ⟨n - 1, by omega⟩
    have e : i = f := by omega
    subst e
    obtain ⟨N, T, D, H⟩ := rep_all (n := i) hfl (by omega) hO h hE
    have hOT := H.1.2.2.2.2.2.1
    have c61 : (plQ lg Q0 i).1 12 1 61 = cn i := by
      rw [hOT.2.2.2.2.2.2.2.2.2.1, lgB_o (by decide) (by decide)]
      exact h61
    have hn : ¬ cn (i : Int) < cn (i : Int) := by
      rw [cnlt ⟨by omega, by omega⟩ ⟨by omega, by omega⟩]
      omega
    rw [ev12_failOver_16, eg12_failOver_16]
    unfold bv12_failOver_16 bg12_failOver_16
    simp only [c61, if_neg hn]
    exact ⟨trivial, trivial⟩
  | succ d ih =>
    intro i n h1 h2
    obtain ⟨n1, rfl⟩ : ∃ z9, n = z9 + 1 := ⟨n - 1, by omega⟩
    obtain ⟨N, T, D, H⟩ := rep_all (n := i) hfl (by omega) (fun j hj => hO j (by omega)) h (fun j hj => hE j (by omega))
    have hOT := H.1.2.2.2.2.2.1
    have c61 : (plQ lg Q0 i).1 12 1 61 = cn f := by
      rw [hOT.2.2.2.2.2.2.2.2.2.1, lgB_o (by decide) (by decide)]
      exact h61
    have c40 : ∀ j, j < 4000 → (plQ lg Q0 i).1 13 40 j = lg j := by
      intro j hj
      rw [hOT.2.2.2.2.2.2.2.1 j hj, lgB_o (by omega) (by omega)]
    have hn : cn (i : Int) < cn (f : Int) := by
      rw [cnlt ⟨by omega, by omega⟩ ⟨by omega, by omega⟩]
      omega
    have i0 : cn 7 * cn (i : Int) = cn ((7 * i : Nat) : Int) := by
      rw [cnmul]
      exact congrArg cn (by omega)
    have ii : ∀ j : Nat, j < 7 → cn ((7 * i : Nat) : Int) + cn j = cn ((7 * i + j : Nat) : Int) := fun j hj => by
      rw [cnadd]
      exact congrArg cn (by omega)
    have e1 : cn ((7 * i : Nat) : Int) + cn 1 = cn ((7 * i + 1 : Nat) : Int) := ii 1 (by decide)
    have e2 : cn ((7 * i : Nat) : Int) + cn 2 = cn ((7 * i + 2 : Nat) : Int) := ii 2 (by decide)
    have e3 : cn ((7 * i : Nat) : Int) + cn 3 = cn ((7 * i + 3 : Nat) : Int) := ii 3 (by decide)
    have e4 : cn ((7 * i : Nat) : Int) + cn 4 = cn ((7 * i + 4 : Nat) : Int) := ii 4 (by decide)
    have e5 : cn ((7 * i : Nat) : Int) + cn 5 = cn ((7 * i + 5 : Nat) : Int) := ii 5 (by decide)
    have e6 : cn ((7 * i : Nat) : Int) + cn 6 = cn ((7 * i + 6 : Nat) : Int) := ii 6 (by decide)
    have hx : ∀ j : Nat, j < 7 → inb (cn ((7 * i + j : Nat) : Int)) 3640 := fun j hj => cninb (by omega) (by omega)
    obtain ⟨k, hk, hr⟩ := hO i (by omega)
    obtain ⟨⟨-, -, g1, g2⟩, -, -⟩ := (rep_step hfl hk hr (by omega) H).1 (hE i (by omega))
    obtain ⟨k1, k2⟩ := ih (i + 1) n1 (by omega) (by omega)
    rw [ev12_failOver_16, eg12_failOver_16]
    unfold bv12_failOver_16 bg12_failOver_16
    simp only [c61, if_pos hn, i0, e1, e2, e3, e4, e5, e6, cntk (i := 7 * i) (by omega), cntk (i := 7 * i + 1) (by omega), cntk (i := 7 * i + 2) (by omega), cntk (i := 7 * i + 3) (by omega), cntk (i := 7 * i + 4) (by omega), cntk (i := 7 * i + 5) (by omega), cntk (i := 7 * i + 6) (by omega), c40 (7 * i) (by omega), c40 (7 * i + 1) (by omega), c40 (7 * i + 2) (by omega), c40 (7 * i + 3) (by omega), c40 (7 * i + 4) (by omega), c40 (7 * i + 5) (by omega), c40 (7 * i + 6) (by omega), cnsucc]
    exact ⟨k1, hx 0 (by decide), hx 1 (by decide), hx 2 (by decide), hx 3 (by decide), hx 4 (by decide), hx 5 (by decide), hx 6 (by decide), g1, g2, k2⟩
/-- the log's length alone changes -/
theorem iv_60 {n : Nat} {lg' : Nat → Int32} (h : IV lg p q N T D e) (h1 : ∀ j, ¬ j = 4000 → lg' j = lg j) (h2 : lg' 4000 = cn n) : IV lg' p (pI (pI q 12 1 60 (cn n)) 12 1 0 (cn 0)) N T D e := by
  refine iv_th ?_
  obtain ⟨H, hN, hS, n1, t1, d1⟩ := h
  have k13 : ∀ K, ¬ K = 40 → (pI q 12 1 60 (cn n)).1 13 K = q.1 13 K := fun K _ => by
    funext i
    rw [pI_1, u3_k (by decide)]
  have k12 : ∀ S, ¬ S = 60 → (pI q 12 1 60 (cn n)).1 12 1 S = q.1 12 1 S := fun S h => by rw [pI_1, u3_s h]
  have k15 : (pI q 12 1 60 (cn n)).1 15 = q.1 15 := by
    funext i S
    rw [pI_1, u3_k (by decide)]
  obtain ⟨W, R⟩ := ww_log (q' := pI q 12 1 60 (cn n)) (lg' := lgB lg' e) H k13 k12 k15 rfl (fun j hj => by
    rw [pI_1, u3_k (by decide), H.2.2.2.2.2.1.2.2.2.2.2.2.2.1 j hj, lgB_o (by omega) (by omega), lgB_o (by omega) (by omega), h1 j (by omega)]) (by
    rw [pI_at, lgB_o (by decide) (by decide)]
    exact h2.symm) (by rw [lgB_o (by decide) (by decide), lgB_o (by decide) (by decide), h1 4001 (by decide)]) rfl rfl (fun j k1 k2 => by
    rw [lgB_o (by omega) (by omega), lgB_o (by omega) (by omega), h1 j (by omega)])
  refine ⟨W, npa_c hN k13 k15, sb_c hS k13 (fun S hS => k12 S (by omega)) k15, n1, by rw [R]; exact t1, by rw [R]; exact d1⟩
theorem fo_eq {t f : Nat} {lg' : Nat → Int32} (hfl : ¬ lg 4006 = cn 1) (ht : t ≤ 512) (hf : f ≤ t) (H : WW p q (lgB lg e) 99 99 (fun _ => False) N T D 6 (fun _ => 0)) (h60 : lg 4000 = cn t) (h61 : lg 4001 = cn f) (h : ∀ Q : PM, (∀ j, j < 4000 → Q.1 13 40 j = lg j) → Q.1 12 1 60 = lg 4000 → Q.1 12 1 61 = lg 4001 → (∀ k, k < 60 → b01 (Q.1 15 8 k)) → IV lg P0 (v12_resets Q) 0 0 0 0) (hO : RwO lg f) (hE : ∀ i, i < f → rwE lg (plC lg P0 i) i = 0) (hl1 : ∀ j, ¬ j = 4000 → lg' j = lg j) (hl2 : lg' 4000 = cn f) : g5_restore p ∧ g12_failOver q ∧ (∀ i, i < f → rwE lg (plC lg (v5_restore p) i) i = 0) ∧ ∃ q2 N2 T2 D2, v12_failOver q = (cn t - cn f, q2) ∧ q2.1 12 1 0 = cn 0 ∧ IV lg' (plC lg (v5_restore p) f) q2 N2 T2 D2 f := by
  have hOT := H.2.2.2.2.2.1
  have c60 : q.1 12 1 60 = cn t := by
    rw [hOT.2.2.2.2.2.2.2.2.1, lgB_o (by decide) (by decide)]
    exact h60
  have c61 : q.1 12 1 61 = cn f := by
    rw [hOT.2.2.2.2.2.2.2.2.2.1, lgB_o (by decide) (by decide)]
    exact h61
  have c40 : ∀ j, j < 4000 → q.1 13 40 j = lg j := by
    intro j hj
    rw [hOT.2.2.2.2.2.2.2.1 j hj, lgB_o (by omega) (by omega)]
  have hDR := H.2.2.2.1.1
  obtain ⟨⟨g1, g2⟩, I1⟩ := fresh (lg := lg) hfl H.2.2.2.2.1 (fun k hk => (hDR k hk).1) (fun k hk => (hDR k hk).2.1) c40 (c60.trans h60.symm) (c61.trans h61.symm)
  have I0 := h q c40 (c60.trans h60.symm) (c61.trans h61.symm) (fun k hk => (hDR k hk).2.1)
  have hE2 := rep_alike (n := f) hfl (by omega) hO I0 I1 hE (fun i _ => kE_lt _ _ _ _ _ _ _ _)
  obtain ⟨F, hF, hF2⟩ : ∃ F, FU = F ∧ 600 < F := ⟨FU, rfl, by decide⟩
  obtain ⟨k1, k2⟩ := fo_loop (v := cn t - cn f) hfl (by omega) I1 h61 hO hE2 f 0 F (by omega) (by omega)
  obtain ⟨N2, T2, D2, I2⟩ := rep_all (n := f) hfl (by omega) hO I1 hE2
  have z00 : cn ((0 : Nat) : Int) = cn 0 := rfl
  rw [z00] at k1 k2
  have e0 : plQ lg (v12_resets q) 0 = v12_resets q := rfl
  rw [e0] at k1 k2
  refine ⟨g1, ?_, hE2, _, N2, T2, D2, ?_, ?_, iv_60 I2 hl1 hl2⟩
  · unfold g12_failOver bg12_failOver
    rw [hF, c60, c61]
    exact ⟨g2, k2⟩
  · unfold v12_failOver bv12_failOver
    rw [hF, c60, c61]
    exact k1
  · rw [pI_at]
end Over
