/-! an auction begins; a member fails; a bid -/
section Fail
variable {p q : PM} {lg : Nat → Int32} {b N T D l : Nat}
theorem ev_auction {k fz : Int} {E : Int32} (H : WW p q lg 99 99 (fun _ => False) N T D l (fun _ => 0)) (hb : b < 6) (h1 : 1 ≤ k) (h2 : k ≤ 100) (h3 : 0 ≤ fz) (h4 : fz ≤ 20) (hE : E = q.1 12 1 17 + cn k) : (g6_beginAuction p (b + 1) (cn k) (cn fz) ∧ g12_beginsAuction q (cn b) E (cn fz)) ∧ EvR lg q N T D l 60 0 (v6_beginAuction p (b + 1) (cn k) (cn fz)) ((v12_beginsAuction q (cn b) E (cn fz)).1 13 12 b, v12_beginsAuction q (cn b) E (cn fz)) := by
  obtain ⟨g, W, e, R, -, -, e12, -⟩ := ww_auc H hb h1 h2 h3 h4 hE
  refine ⟨g, ?_⟩
  rw [e12]
  exact ⟨e, N, T, D, ⟨Nat.le_refl _, Nat.le_refl _⟩, ⟨Nat.le_refl _, Nat.le_refl _⟩, W, by show (T : Int) + RS (v12_beginsAuction _ _ _ _) 40 ≤ _; omega, by show (D : Int) + RS (v12_beginsAuction _ _ _ _) 40 ≤ _; omega⟩
theorem fail_tail {m c : Int32} (hd : ∀ i, 40 ≤ i → i < 44 → q.1 15 3 i = cn 0) : ∀ (d i n : Nat), i + d = 44 → 40 ≤ i → d < n → v12_doFail_73 n q m c (cn i) = (c, q) ∧ g12_doFail_73 n q m c (cn i) := by
  intro d
  induction d with
  | zero =>
    intro i n h1 h2 h3
    obtain ⟨n1, rfl⟩ : ∃ m, n = m + 1 := ⟨n - 1, by omega⟩
    have hn := lpf (i := i) (N := 44) (by omega) (by omega) (by omega)
    rw [ev12_doFail_73, eg12_doFail_73]
    unfold bv12_doFail_73 bg12_doFail_73
    rw [if_neg hn, if_neg hn]
    exact ⟨rfl, trivial⟩
  | succ d ih =>
    intro i n h1 h2 h3
    obtain ⟨n1, rfl⟩ : ∃ m, n = m + 1 := ⟨n - 1, by omega⟩
    have hi := cninb (i := i) (n := 44) (by omega) (by omega)
    have h0 : q.1 15 3 i = 0 := hd i h2 (by omega)
    obtain ⟨k1, k2⟩ := ih (i + 1) n1 (by omega) (by omega) (by omega)
    rw [ev12_doFail_73, eg12_doFail_73]
    unfold bv12_doFail_73 bg12_doFail_73
    simp only [if_pos (lpt (i := i) (N := 44) (by omega) (by omega)), cntk (i := i) (by omega), if_pos h0, cnsucc]
    exact ⟨k1, hi, k2⟩
theorem fail_loop {m : Nat} (hm : m < 4) : ∀ (d i n n' : Nat) (p q : PM) (c : Int32), i + d = 40 → d < n → d + 4 < n' → OR p q 99 99 → CK p → (g6_withdrawMember_14 n p (cn m) c (cn i) ∧ g12_doFail_73 n' q (cn m) c (cn i)) ∧ (v6_withdrawMember_14 n p (cn m) c (cn i)).1 = (v12_doFail_73 n' q (cn m) c (cn i)).1 ∧ Mk p (v6_withdrawMember_14 n p (cn m) c (cn i)).2 q (v12_doFail_73 n' q (cn m) c (cn i)).2 := by
  intro d
  induction d with
  | zero =>
    intro i n n' p q c h1 h2 h3 H hK
    obtain ⟨n1, rfl⟩ : ∃ m, n = m + 1 := ⟨n - 1, by omega⟩
    have e : i = 40 := by omega
    subst e
    have hn := lpf (i := 40) (N := 40) (by omega) (by omega) (by omega)
    obtain ⟨k1, k2⟩ := fail_tail (q := q) (m := cn m) (c := c) H.2 4 40 n' rfl (by omega) (by omega)
    rw [ev6_withdrawMember_14, eg6_withdrawMember_14, k1]
    unfold bv6_withdrawMember_14 bg6_withdrawMember_14
    rw [if_neg hn, if_neg hn]
    exact ⟨⟨trivial, k2⟩, rfl, mk_refl p q⟩
  | succ d ih =>
    intro i n n' p q c h1 h2 h3 H hK
    obtain ⟨n1, rfl⟩ : ∃ m, n = m + 1 := ⟨n - 1, by omega⟩
    obtain ⟨n2, rfl⟩ : ∃ m, n' = m + 1 := ⟨n' - 1, by omega⟩
    have hi40 := cninb (i := i) (n := 40) (by omega) (by omega)
    have hi := cninb (i := i) (n := 44) (by omega) (by omega)
    have l40 : cn (i : Int) < cn 40 := lpt (by omega) (by omega)
    have l44 : cn (i : Int) < cn 44 := lpt (by omega) (by omega)
    rcases H.1 i (by omega) with ⟨s1, s2⟩ | ⟨s1, ai, bi, r, s, z, hL⟩
    · obtain ⟨⟨k1, k2⟩, k3, k4⟩ := ih (i + 1) n1 n2 p q c (by omega) (by omega) (by omega) H hK
      have s1' : p.1 10 (i + 1) 2 = 0 := s1
      have s2' : q.1 15 3 i = 0 := s2
      rw [ev6_withdrawMember_14, eg6_withdrawMember_14, ev12_doFail_73, eg12_doFail_73]
      unfold bv6_withdrawMember_14 bg6_withdrawMember_14 bv12_doFail_73 bg12_doFail_73
      simp only [if_pos l40, if_pos l44, cntk (i := i) (by omega), if_pos s1', if_pos s2', cnsucc]
      exact ⟨⟨⟨hi40, k1⟩, hi, k2⟩, k3, k4⟩
    · have s1' : ¬ q.1 15 3 i = 0 := by
        rw [s1]
        exact cn01
      have p1' : ¬ p.1 10 (i + 1) 2 = 0 := lv_nogone hL
      have hai := hL.1.1
      have hzi : ¬ ai + 1 = 0 := by omega
      have hown : (p.1 0 (ai + 1) 1 = cn m) = (q.1 13 15 i / cn 2 = cn m) := by
        rw [(hK.1 ai (by omega)).2, hL.1.2.1, half (by omega)]
      by_cases ho : q.1 13 15 i / cn 2 = cn m
      · have ho' : p.1 0 (ai + 1) 1 = cn m := by
          rw [hown]
          exact ho
        have M := mk_one (p := p) (q := q) (o := i) (by omega)
        have hK2 : CK (pI p 10 (i + 1) 2 (cn 0)) := ck_c (M.2.1 0 (by decide)) (M.2.1 1 (by decide)) hK
        obtain ⟨⟨k1, k2⟩, k3, k4⟩ := ih (i + 1) n1 n2 _ _ (c + cn 1) (by omega) (by omega) (by omega) (or_mk M H) hK2
        rw [ev6_withdrawMember_14, eg6_withdrawMember_14, ev12_doFail_73, eg12_doFail_73]
        unfold bv6_withdrawMember_14 bg6_withdrawMember_14 bv12_doFail_73 bg12_doFail_73
        simp only [if_pos l40, if_pos l44, cntk (i := i) (by omega), if_neg p1', if_neg s1', hL.1.2.2, if_pos ho', if_pos ho, cnsucc]
        exact ⟨⟨⟨hi40, hzi, k1⟩, hi, hi, hi, k2⟩, k3, mk_trans M k4⟩
      · have ho' : ¬ p.1 0 (ai + 1) 1 = cn m := by
          rw [hown]
          exact ho
        obtain ⟨⟨k1, k2⟩, k3, k4⟩ := ih (i + 1) n1 n2 p q c (by omega) (by omega) (by omega) H hK
        rw [ev6_withdrawMember_14, eg6_withdrawMember_14, ev12_doFail_73, eg12_doFail_73]
        unfold bv6_withdrawMember_14 bg6_withdrawMember_14 bv12_doFail_73 bg12_doFail_73
        simp only [if_pos l40, if_pos l44, cntk (i := i) (by omega), if_neg p1', if_neg s1', hL.1.2.2, if_neg ho', if_neg ho, cnsucc]
        exact ⟨⟨⟨hi40, hzi, k1⟩, hi, hi, k2⟩, k3, k4⟩
theorem ev_fail {m : Nat} (H : WW p q lg 99 99 (fun _ => False) N T D l (fun _ => 0)) (hm : m < 4) : (g5_failMember p (cn m) ∧ g12_doFail_73 FU (pI (pI q 15 9 m (cn 1)) 12 1 57 (cn m)) (cn m) (cn 0) (cn 0)) ∧ EvR lg q N T D l 60 0 (v5_failMember p (cn m)) (v12_doFail_73 FU (pI (pI q 15 9 m (cn 1)) 12 1 57 (cn m)) (cn m) (cn 0) (cn 0)) := by
  obtain ⟨a1, a2, a3, a4, a5, a6, a7, a8, a9, a10, a11⟩ := H.2.2.2.2.2.1
  have hz : ¬ m + 1 = 0 := by omega
  have em := member_e p hm
  have gm := g_member p hm
  have ek : ∀ K, ¬ K = 9 → ¬ K = 2 → (pI (pI p 9 (m + 1) 3 (cn 1)) 2 1 6 (cn m)).1 K = p.1 K := by
    intro K h h'
    funext i S
    rw [pI_1, u3_k h', pI_1, u3_k h]
  have e9 : ∀ i S, ¬ S = 3 → (pI (pI p 9 (m + 1) 3 (cn 1)) 2 1 6 (cn m)).1 9 i S = p.1 9 i S := fun i S h => by rw [pI_1, u3_k (by decide), pI_1, u3_s h]
  have e2 : ∀ S, ¬ S = 6 → (pI (pI p 9 (m + 1) 3 (cn 1)) 2 1 6 (cn m)).1 2 1 S = p.1 2 1 S := fun S h => by rw [pI_1, u3_s h, pI_1, u3_k (by decide)]
  have eqk : ∀ K, ¬ K = 15 → ¬ K = 12 → (pI (pI q 15 9 m (cn 1)) 12 1 57 (cn m)).1 K = q.1 K := by
    intro K h h'
    funext i S
    rw [pI_1, u3_k h', pI_1, u3_k h]
  have e15 : ∀ K, ¬ K = 9 → (pI (pI q 15 9 m (cn 1)) 12 1 57 (cn m)).1 15 K = q.1 15 K := by
    intro K h
    funext i
    rw [pI_1, u3_k (by decide), pI_1, u3_i h]
  have e12 : ∀ S, ¬ S = 57 → (pI (pI q 15 9 m (cn 1)) 12 1 57 (cn m)).1 12 1 S = q.1 12 1 S := fun S h => by rw [pI_1, u3_s h, pI_1, u3_k (by decide)]
  have W1 := ww_ot (p' := pI (pI p 9 (m + 1) 3 (cn 1)) 2 1 6 (cn m)) (q' := pI (pI q 15 9 m (cn 1)) 12 1 57 (cn m)) H (fun K h h' _ => ek K h' h) (fun i hi => by rw [ek 13 (by decide) (by decide)]) rfl (fun K h => by rw [eqk 13 (by decide) (by decide)]) (fun K h _ => e15 K h) (fun S h => e12 S (by omega)) rfl ⟨fun m' hm' => by
      obtain ⟨h1, h2, h3, h4, h5, h6⟩ := a1 m' hm'
      rw [e9 _ 0 (by decide), e9 _ 1 (by decide), e9 _ 2 (by decide), e9 _ 4 (by decide), e9 _ 5 (by decide), eqk 13 (by decide) (by decide), e15 10 (by decide)]
      refine ⟨h1, h2, h3, ?_, h5, h6⟩
      by_cases e : m' = m
      · rw [e, pI_1, u3_k (by decide), pI_1, u3_same, pI_1, u3_k (by decide), pI_1, u3_same]
        exact ⟨rfl, b1⟩
      · rw [pI_1, u3_k (by decide), pI_1, u3_i (by omega), pI_1, u3_k (by decide), pI_1, u3_s e]
        exact h4, fun s' c' hs' hc' => by
      rw [ek 13 (by decide) (by decide), eqk 13 (by decide) (by decide)]
      exact a2 s' c' hs' hc', by
      rw [e2 4 (by decide), e12 50 (by decide)]
      exact a3, by
      rw [e2 5 (by decide), e12 58 (by decide)]
      exact a4, Or.inr ⟨m, hm, pI_at, pI_at⟩, by
      rw [ek 6 (by decide) (by decide), e12 17 (by decide)]
      exact a6, by
      rw [ek 6 (by decide) (by decide), e12 18 (by decide)]
      exact a7, fun j => by
      rw [eqk 13 (by decide) (by decide)]
      exact a8 j, by
      rw [e12 60 (by decide)]
      exact a9, by
      rw [e12 61 (by decide)]
      exact a10, pd_c (by rw [eqk 13 (by decide) (by decide)]) (e12 48 (by decide)) rfl H.2.2.2.2.2.1⟩
  obtain ⟨W1, R1⟩ := W1
  obtain ⟨F, hF, hF2⟩ : ∃ F, FU = F ∧ 100 < F := ⟨FU, rfl, by decide⟩
  obtain ⟨⟨k1, k2⟩, k3, M⟩ := fail_loop hm 40 0 F F _ _ (cn 0) rfl (by omega) (by omega) W1.1.1 W1.2.2.2.2.1
  have z0 : cn ((0 : Nat) : Int) = cn 0 := rfl
  rw [z0] at k1 k2 k3 M
  have W2 := w_mk M W1
  have R2 := rs_mk M W1.1.1
  have eC : v5_failMember p (cn m) = ((v6_withdrawMember_14 F (pI (pI p 9 (m + 1) 3 (cn 1)) 2 1 6 (cn m)) (cn m) (cn 0) (cn 0)).1, (v6_withdrawMember_14 F (pI (pI p 9 (m + 1) 3 (cn 1)) 2 1 6 (cn m)) (cn m) (cn 0) (cn 0)).2) ∧ g5_failMember p (cn m) := by
    have e1 : v2_fall p (cn m) = pI (pI p 9 (m + 1) 3 (cn 1)) 2 1 6 (cn m) ∧ g2_fall p (cn m) := by
      unfold v2_fall bv2_fall g2_fall bg2_fall
      simp only [em]
      exact ⟨trivial, gm, hz, trivial⟩
    have e3 : v6_withdrawMember (pI (pI p 9 (m + 1) 3 (cn 1)) 2 1 6 (cn m)) (cn m) = v6_withdrawMember_14 F (pI (pI p 9 (m + 1) 3 (cn 1)) 2 1 6 (cn m)) (cn m) (cn 0) (cn 0) ∧ g6_withdrawMember (pI (pI p 9 (m + 1) 3 (cn 1)) 2 1 6 (cn m)) (cn m) := by
      unfold v6_withdrawMember bv6_withdrawMember g6_withdrawMember bg6_withdrawMember
      rw [hF]
      exact ⟨rfl, k1⟩
    unfold v5_failMember bv5_failMember g5_failMember bg5_failMember
    simp only [e1.1, e3.1]
    exact ⟨trivial, e1.2, e3.2, trivial⟩
  rw [hF]
  refine ⟨⟨eC.2, k2⟩, ?_⟩
  rw [eC.1]
  exact ⟨k3, N, T, D, ⟨Nat.le_refl _, Nat.le_refl _⟩, ⟨Nat.le_refl _, Nat.le_refl _⟩, W2, by omega, by omega⟩
end Fail
