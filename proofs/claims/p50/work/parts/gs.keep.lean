/-! the log is kept -/
section Keep
variable {p q q' : PM} {lg lg' : Nat → Int32} {N T D e : Nat}
theorem ww_log2 {xx y l : Nat} {w : Nat → Prop} {ff : Nat → Int} (H : WW p q lg xx y w N T D l ff) (k13 : ∀ K, ¬ K = 40 → q'.1 13 K = q.1 13 K) (k12 : ∀ S, ¬ S = 60 → ¬ S = 61 → q'.1 12 1 S = q.1 12 1 S) (k15 : q'.1 15 = q.1 15) (kJ : q'.2 = q.2) (h1 : ∀ j, j < 4000 → q'.1 13 40 j = lg' j) (h2 : q'.1 12 1 60 = lg' 4000) (h3 : q'.1 12 1 61 = lg' 4001) (h4 : lg' 4002 = lg 4002) (h5 : lg' 4003 = lg 4003) (h6 : ∀ j, 4004 ≤ j → j ≤ 4014 → lg' j = lg j) : WW p q' lg' xx y w N T D l ff ∧ RS q' 40 = RS q 40 := by
  obtain ⟨hO, hA, hB, hD, hK, ⟨a1, a2, a3, a4, a5, a6, a7, a8, a9, a10, a11⟩, hI, hF⟩ := H
  refine ⟨⟨?_, ?_, ?_, ?_, hK, ?_, ?_, ?_⟩, RS_c (by rw [k15]) (k13 17 (by decide))⟩
  · exact ord_c rfl rfl rfl rfl (fun K _ _ => k13 K (by omega)) (fun K _ _ => by rw [k15]) (k12 39 (by decide) (by decide)) (k12 40 (by decide) (by decide)) hO
  · exact af_c rfl (fun _ _ => rfl) rfl (k13 1 (by decide)) (k13 2 (by decide)) (k13 3 (by decide)) (k13 4 (by decide)) (k13 5 (by decide)) (by rw [k15]) (by rw [kJ]) hA
  · exact brl_c rfl (fun i _ _ => k13 i (by omega)) (by rw [k15]) hB
  · exact dr_c rfl rfl rfl (fun i _ _ => k13 i (by omega)) (by rw [k15]) (by rw [k15]) (k12 48 (by decide) (by decide)) hD
  · refine ⟨fun m hm => ?_, fun s c hs hc => ?_, ?_, ?_, ?_, ?_, ?_, h1, h2, ?_, ?_⟩
    · rw [k13 36 (by decide), k13 37 (by decide), k13 38 (by decide), k13 39 (by decide), k15]
      exact a1 m hm
    · rw [k13 35 (by decide)]
      exact a2 s c hs hc
    · rw [k12 50 (by decide) (by decide)]
      exact a3
    · rw [k12 58 (by decide) (by decide)]
      exact a4
    · rw [k12 57 (by decide) (by decide)]
      exact a5
    · rw [k12 17 (by decide) (by decide)]
      exact a6
    · rw [k12 18 (by decide) (by decide)]
      exact a7
    · exact h3
    · unfold PD at a11 ⊢
      rw [k13 1 (by decide), k12 48 (by decide) (by decide), kJ, h4, h5, h6 4004 (by decide) (by decide), h6 4005 (by decide) (by decide), h6 4006 (by decide) (by decide), h6 4007 (by decide) (by decide)]
      exact ⟨a11.1, a11.2.1, a11.2.2.1, a11.2.2.2.1, fun g1 g2 c hc => (a11.2.2.2.2 g1 g2 c hc).trans (h6 (4012 + c) (by omega) (by omega)).symm⟩
  · exact iq_c (fun K _ _ => k13 K (by omega)) (fun K _ _ => by rw [k15]) (k13 12 (by decide)) (k13 30 (by decide)) (k12 17 (by decide) (by decide)) hI
  · exact fb_c (by rw [k15]) (k13 17 (by decide)) (k13 4 (by decide)) (k12 95 (by decide) (by decide)) hF
theorem ask_keep {n : Nat} (h : IV lg p q N T D e) (h60 : lg 4000 = cn n) (h1 : ∀ j, ¬ j = 4001 → lg' j = lg j) (h2 : lg' 4001 = cn n) : g12_keep q ∧ ∃ q2, v12_keep q = (cn n, q2) ∧ q2.1 12 1 0 = cn 0 ∧ IV lg' p q2 N T D e := by
  obtain ⟨H, hN, hS, n1, t1, d1⟩ := h
  have c60 : q.1 12 1 60 = cn n := by
    rw [H.2.2.2.2.2.1.2.2.2.2.2.2.2.2.1, lgB_o (by decide) (by decide)]
    exact h60
  have e60 : (pI q 12 1 0 (cn 0)).1 12 1 60 = cn n := by
    rw [th_1 (by decide)]
    exact c60
  have ek : v12_keep q = (cn n, pI (pI q 12 1 61 (cn n)) 12 1 0 (cn 0)) := by
    unfold v12_keep bv12_keep
    dsimp only
    rw [e60, pI_at, pI_comm (p := q) (by omega)]
  refine ⟨trivial, _, ek, pI_at, iv_th ?_⟩
  have k13 : ∀ K, (pI q 12 1 61 (cn n)).1 13 K = q.1 13 K := fun K => by
    funext i
    rw [pI_1, u3_k (by decide)]
  have k12 : ∀ S, ¬ S = 61 → (pI q 12 1 61 (cn n)).1 12 1 S = q.1 12 1 S := fun S h => by rw [pI_1, u3_s h]
  have k15 : (pI q 12 1 61 (cn n)).1 15 = q.1 15 := by
    funext i S
    rw [pI_1, u3_k (by decide)]
  obtain ⟨W, R⟩ := ww_log2 (q' := pI q 12 1 61 (cn n)) (lg' := lgB lg' e) H (fun K _ => k13 K) (fun S _ h => k12 S h) k15 rfl (fun j hj => by
    rw [k13, H.2.2.2.2.2.1.2.2.2.2.2.2.2.1 j hj, lgB_o (by omega) (by omega), lgB_o (by omega) (by omega), h1 j (by omega)]) (by
    rw [k12 60 (by decide), c60, lgB_o (by decide) (by decide), h1 4000 (by decide), h60]) (by
    rw [pI_at, lgB_o (by decide) (by decide)]
    exact h2.symm) rfl rfl (fun j k1 k2 => by
    rw [lgB_o (by omega) (by omega), lgB_o (by omega) (by omega), h1 j (by omega)])
  exact ⟨W, npa_c hN (fun K _ => k13 K) k15, sb_c hS (fun K _ => k13 K) (fun S hS => k12 S (by omega)) k15, n1, by rw [R]; exact t1, by rw [R]; exact d1⟩
end Keep
