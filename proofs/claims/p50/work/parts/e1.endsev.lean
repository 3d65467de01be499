/-! an auction ends, in both -/
section EndsEv
variable {p q : PM} {lg : Nat → Int32} {b N T D : Nat}
theorem npa_np (hn : NPA q) (hb : b < 6) (hin : ¬ q.1 13 12 b = cn (-100000)) : NP q b := fun i hi hs h16 hk => by
  have h := hn i hi hs hk
  rw [h16, open_e q (by omega), if_neg hin] at h
  exact h rfl
/-- the book opens, and the work -/
theorem open_work (H : WW p q lg 99 b (fun _ => False) N T D b (fun _ => 0)) (hb : b < 6) (hT : T + 2200 ≤ 1000000000) (hD : D + 2200 ≤ 1000000000) : (g6_openBook p (b + 1) ∧ g5_work (v6_openBook p (b + 1)) ∧ g12_endsAuction_92 FU (pI q 13 12 b (cn (-100000))) (cn b) (cn 0)) ∧ ∃ T2 D2, (T ≤ T2 ∧ D ≤ D2) ∧ WW (v5_work (v6_openBook p (b + 1))) (v12_endsAuction_92 FU (pI q 13 12 b (cn (-100000))) (cn b) (cn 0)) lg 99 99 (fun _ => False) N T2 D2 (b + 1) (fun _ => 0) ∧ NPA (v12_endsAuction_92 FU (pI q 13 12 b (cn (-100000))) (cn b) (cn 0)) ∧ T2 + RS (v12_endsAuction_92 FU (pI q 13 12 b (cn (-100000))) (cn b) (cn 0)) 40 ≤ T + RS q 40 + 80 ∧ D2 + RS (v12_endsAuction_92 FU (pI q 13 12 b (cn (-100000))) (cn b) (cn 0)) 40 ≤ D + RS q 40 := by
  obtain ⟨g1, Q', e1, e2, W, R⟩ := open_ev H hb
  obtain ⟨⟨g2, g3⟩, T2, D2, t1, W2, n2, t2, t3⟩ := ww_work W hT hD
  rw [e1]
  exact ⟨⟨g1, g2, e2 g3⟩, T2, D2, t1, W2, n2, by omega, by omega⟩
/-- all is traded at a price, which is the reference then; the book opens, and the work -/
theorem trade_work {z : Int} (H : WW p q lg 99 99 (fun _ => False) N T D b (fun _ => 0)) (hb : b < 6) (hn : NP q b) (hz : PrB b z) (hT : T + 2200 ≤ 1000000000) (hD : D + 4400 ≤ 1000000000) : (g8_tradeAll p (b + 1) (cn z) ∧ g6_openBook (pI (v8_tradeAll p (b + 1) (cn z)) 1 (b + 1) 4 (cn z)) (b + 1) ∧ g5_work (v6_openBook (pI (v8_tradeAll p (b + 1) (cn z)) 1 (b + 1) 4 (cn z)) (b + 1)) ∧ g12_tradesAll q (cn b) (cn z) ∧ g12_endsAuction_92 FU (pI (pI (v12_tradesAll q (cn b) (cn z)) 13 11 b (cn z)) 13 12 b (cn (-100000))) (cn b) (cn 0)) ∧ ∃ T2 D2, (T ≤ T2 ∧ D ≤ D2) ∧ WW (v5_work (v6_openBook (pI (v8_tradeAll p (b + 1) (cn z)) 1 (b + 1) 4 (cn z)) (b + 1))) (v12_endsAuction_92 FU (pI (pI (v12_tradesAll q (cn b) (cn z)) 13 11 b (cn z)) 13 12 b (cn (-100000))) (cn b) (cn 0)) lg 99 99 (fun _ => False) N T2 D2 (b + 1) (fun _ => 0) ∧ NPA (v12_endsAuction_92 FU (pI (pI (v12_tradesAll q (cn b) (cn z)) 13 11 b (cn z)) 13 12 b (cn (-100000))) (cn b) (cn 0)) ∧ T2 + RS (v12_endsAuction_92 FU (pI (pI (v12_tradesAll q (cn b) (cn z)) 13 11 b (cn z)) 13 12 b (cn (-100000))) (cn b) (cn 0)) 40 ≤ T + RS q 40 + 80 ∧ D2 + RS (v12_endsAuction_92 FU (pI (pI (v12_tradesAll q (cn b) (cn z)) 13 11 b (cn z)) 13 12 b (cn (-100000))) (cn b) (cn 0)) 40 ≤ D + RS q 40 := by
  have R0 := RS_rng H.1.1 40 (by decide)
  obtain ⟨F, hF, hF2⟩ : ∃ F, FU = F ∧ 10000 < F := ⟨FU, rfl, by decide⟩
  have W1 := ww_y H hb
  obtain ⟨⟨g1, g2⟩, D1, t1, W2, t2, -, m3, m4⟩ := ta_loop hb hz 3000 F F 0 p q D (by omega) (by omega) (by omega) (by decide) W1 hn (by omega)
  have z0 : cn ((0 : Nat) : Int) = cn 0 := rfl
  rw [z0] at g1 W2
  have eC : v8_tradeAll p (b + 1) (cn z) = v8_tradeAll_2 F p (b + 1) (cn z) (cn 0) ∧ g8_tradeAll p (b + 1) (cn z) := by
    unfold v8_tradeAll bv8_tradeAll g8_tradeAll bg8_tradeAll
    rw [hF]
    exact ⟨rfl, g1⟩
  obtain ⟨⟨-, gi1⟩, -⟩ := in_eq hb H.1.1 hn H.1.2.2.1 (cn 1) (cn z)
  obtain ⟨⟨-, gi0⟩, -⟩ := in_eq hb H.1.1 hn H.1.2.2.1 (cn 0) (cn z)
  have eQ : v12_tradesAll q (cn b) (cn z) = v12_tradesAll_17 F q (cn b) (cn z) (v12_firstIn q (cn b) (cn 1) (cn z)) (v12_firstIn q (cn b) (cn 0) (cn z)) ∧ g12_tradesAll q (cn b) (cn z) := by
    unfold v12_tradesAll bv12_tradesAll g12_tradesAll bg12_tradesAll
    rw [hF]
    exact ⟨rfl, gi1, gi0, g2⟩
  rw [← eC.1, ← eQ.1] at W2
  rw [← eQ.1] at t2
  have RQ := RS_rng W2.1.1 40 (by decide)
  have W3 := ww_refp W2 hb hz
  have hRS : RS (pI (v12_tradesAll q (cn b) (cn z)) 13 11 b (cn z)) 40 = RS (v12_tradesAll q (cn b) (cn z)) 40 := RS_same 40 fun i _ => by
    unfold rs
    rw [pI_1, u3_k (by decide), u3_i (by decide)]
  obtain ⟨⟨h1, h2, h3⟩, T2, D2, t3, W4, n4, t4, t5⟩ := open_work W3 hb (by omega) (by omega)
  exact ⟨⟨eC.2, h1, h2, eQ.2, h3⟩, T2, D2, ⟨t3.1, by omega⟩, W4, n4, by omega, by omega⟩
end EndsEv
