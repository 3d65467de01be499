/-! a match, whole -/
theorem pf_ww {p p' q : PM} {lg : Nat → Int32} {x y N T D l : Nat} {w : Nat → Prop} {f : Nat → Int} (H : WW p q lg x y w N T D l f) (hp : PF p p') : WW p' q lg x y w N T D l f := ww_scrC H hp.1 hp.2.1 (by rw [hp.2.2]) (fun K _ => by rw [hp.2.2])
theorem gf_ww {p q q' : PM} {lg : Nat → Int32} {x y N T D l : Nat} {w : Nat → Prop} {f : Nat → Int} (H : WW p q lg x y w N T D l f) (hq : GF q q') : WW p q' lg x y w N T D l f := ww_scr H (fun K h1 h2 h3 => hq.2.1 K (by omega)) (hq.1 15 (by decide)) (fun S _ _ _ => by rw [hq.1 12 (by decide)]) hq.2.2
theorem qf_ww {p p' q : PM} {lg : Nat → Int32} {x y N T D l : Nat} {w : Nat → Prop} {f : Nat → Int} (H : WW p q lg x y w N T D l f) (hp : QF p p') : WW p' q lg x y w N T D l f := ww_scrC H (fun K _ => by rw [hp.1]) (fun i _ => by rw [hp.1]) hp.2.1 (fun K h => by
  funext i s
  exact hp.2.2 K i s (fun e => h e.1))
theorem gf_RS {q q' : PM} (hq : GF q q') : RS q' 40 = RS q 40 := RS_c (by rw [hq.1 15 (by decide)]) (hq.2.1 17 (by decide))
theorem eT (q : PM) (b t v r : Int32) : v12_sharesByTurns q b t v r = v12_sharesByTurns_14 FU q b t v r (v12_behindTurn q b t v (cn (-1))) := rfl
theorem gT (q : PM) (b t v r : Int32) : g12_sharesByTurns q b t v r = (g12_behindTurn q b t v (cn (-1)) ∧ g12_sharesByTurns_14 FU q b t v r (v12_behindTurn q b t v (cn (-1)))) := rfl
theorem eZ (q : PM) (b t v r : Int32) : v12_sharesBySize q b t v r = v12_sharesBySize_17 FU q b t v r (v12_nextBySize q b t v (cn 1000) (cn (-1))) := rfl
theorem gZ (q : PM) (b t v r : Int32) : g12_sharesBySize q b t v r = (g12_nextBySize q b t v (cn 1000) (cn (-1)) ∧ g12_sharesBySize_17 FU q b t v r (v12_nextBySize q b t v (cn 1000) (cn (-1)))) := rfl
theorem sv_T {q Q : PM} {x b : Nat} {t v r : Int32} (hx : x ≤ 2147483647) (hb : b ≤ 2147483647) (h6 : q.1 13 6 b = cn 0) (h17 : q.1 13 17 x = r) (hQ : v12_sharesByTurns_14 FU q (cn b) t v r (v12_behindTurn q (cn b) t v (cn (-1))) = Q) : svE q (cn x) v (cn b) t = v12_servesAll_147 FU Q (cn x) v (cn b) t (v12_served Q (cn b) t v) ∧ (g12_behindTurn q (cn b) t v (cn (-1)) → g12_sharesByTurns_14 FU q (cn b) t v r (v12_behindTurn q (cn b) t v (cn (-1))) → g12_served Q (cn b) t v → g12_servesAll_147 FU Q (cn x) v (cn b) t (v12_served Q (cn b) t v) → svG q (cn x) v (cn b) t) := by
  unfold svE svG
  rw [cntk hb, cntk hx, h6, h17, if_pos cn0e', if_pos cn0e', eT, gT, hQ]
  exact ⟨rfl, fun h1 h2 h3 h4 => ⟨⟨h1, h2⟩, h3, h4⟩⟩
theorem sv_Z {q Q : PM} {x b : Nat} {t v r : Int32} (hx : x ≤ 2147483647) (hb : b ≤ 2147483647) (h6 : q.1 13 6 b = cn 2) (h17 : q.1 13 17 x = r) (hQ : v12_sharesBySize_17 FU q (cn b) t v r (v12_nextBySize q (cn b) t v (cn 1000) (cn (-1))) = Q) : svE q (cn x) v (cn b) t = v12_servesAll_147 FU Q (cn x) v (cn b) t (v12_served Q (cn b) t v) ∧ (g12_nextBySize q (cn b) t v (cn 1000) (cn (-1)) → g12_sharesBySize_17 FU q (cn b) t v r (v12_nextBySize q (cn b) t v (cn 1000) (cn (-1))) → g12_served Q (cn b) t v → g12_servesAll_147 FU Q (cn x) v (cn b) t (v12_served Q (cn b) t v) → svG q (cn x) v (cn b) t) := by
  have n2 : ¬ cn 2 = 0 := by decide
  unfold svE svG
  rw [cntk hb, cntk hx, h6, h17, if_neg n2, if_neg n2, if_pos rfl, if_pos rfl, eZ, gZ, hQ]
  exact ⟨rfl, fun h1 h2 h3 h4 => ⟨⟨h1, h2⟩, h3, h4⟩⟩
theorem sv_O {q Q : PM} {x b : Nat} {t v r : Int32} (hx : x ≤ 2147483647) (hb : b ≤ 2147483647) (h6 : q.1 13 6 b = cn 1) (h17 : q.1 13 17 x = r) (hQ : v12_sharesOut q (cn b) t v r = Q) : svE q (cn x) v (cn b) t = v12_servesAll_147 FU Q (cn x) v (cn b) t (v12_served Q (cn b) t v) ∧ (g12_sharesOut q (cn b) t v r → g12_served Q (cn b) t v → g12_servesAll_147 FU Q (cn x) v (cn b) t (v12_served Q (cn b) t v) → svG q (cn x) v (cn b) t) := by
  have n1 : ¬ cn 1 = 0 := by decide
  have n2 : ¬ cn 1 = cn 2 := by decide
  unfold svE svG
  rw [cntk hb, cntk hx, h6, h17, if_neg n1, if_neg n1, if_neg n2, if_neg n2, hQ]
  exact ⟨rfl, fun h1 h3 h4 => ⟨h1, h3, h4⟩⟩
section Fin
variable {p q : PM} {lg : Nat → Int32} {x b c N T D l : Nat} {t : Int32} {sz : Bool} {L : Nat → Nat} {rx z : Int}
theorem serve_fin {kv : PM → Nat → Nat → Int32 → PM} {kg : PM → Nat → Nat → Int32 → Prop} {v3 : Int32} {p1 q1 : PM} {g : Nat → Int} (H : WW p q lg x 99 (fun _ => False) N T D l (fun _ => 0)) (hb : b < 6) (hx : x < 40) (hl : q.1 15 3 x = cn 1) (hbk : q.1 13 16 x = cn b) (hr : q.1 13 17 x = cn rx) (hrr : 0 ≤ rx ∧ rx ≤ 50) (hq : ∀ k, k < c → p.2.2 20 2 k = L k + 1) (HL : QL q b t (cn z) sz 40 c L) (hz : PrB b z) (hsz : (q.1 13 6 b = cn 2) = (sz = true)) (hp1 : PF p p1) (hq1 : GF q q1) (hG : GR p1 q1 c L g) (hg : ∀ k, k < c → 0 ≤ g k ∧ g k ≤ sw q (L k)) (hs : sq g c ≤ rx) (hs1 : 1 ≤ sq g c) (hW : WAS q q1) (hT : T + RS q 40 + 2 ≤ 1000000000) (hD : D + RS q 40 + 2 ≤ 1000000000) : ∃ (p2 q2 : PM) (T2 D2 : Nat), (v8_match_141 kv FU p1 (x + 1) (b + 1) v3 (cn z) (cn c) (cn 0) = kv p2 (x + 1) (b + 1) (v3 + cn 1) ∧ (kg p2 (x + 1) (b + 1) (v3 + cn 1) → g8_match_141 kg FU p1 (x + 1) (b + 1) v3 (cn z) (cn c) (cn 0))) ∧ (v12_servesAll_147 FU q1 (cn x) (cn z) (cn b) t (v12_served q1 (cn b) t (cn z)) = q2 ∧ g12_served q1 (cn b) t (cn z) ∧ g12_servesAll_147 FU q1 (cn x) (cn z) (cn b) t (v12_served q1 (cn b) t (cn z))) ∧ WW p2 q2 lg x 99 (fun _ => False) N T2 D2 l (fun _ => 0) ∧ T2 + RS q2 40 ≤ T + RS q 40 ∧ D2 + RS q2 40 ≤ D + RS q 40 ∧ (T ≤ T2 ∧ D ≤ D2) ∧ RS q2 40 < RS q 40 ∧ (∀ K, 14 ≤ K → K ≤ 28 → ¬ K = 17 → ¬ K = 22 → q2.1 13 K x = q.1 13 K x) ∧ (∀ K, K = 4 ∨ K = 5 → q2.1 15 K x = q.1 15 K x) ∧ (∀ K, 2 ≤ K → K ≤ 13 → ¬ K = 4 → ¬ K = 10 → q2.1 13 K = q.1 13 K) := by
  have hc := HL.1
  have hB := qb_of (t := t) (v := cn z) H hb
  have hI : ∀ k, k < c → ∃ (a : Nat) (r s zz : Int), QI p q x 99 b t (cn z) (L k) a r s zz := fun k hk => qa_inv H hb (HL.2.1 k hk).1 (HL.2.1 k hk).2
  have hRS := gf_RS hq1
  have W1 := gf_ww (pf_ww H hp1) hq1
  have hz0 : cn ((0 : Nat) : Int) = cn 0 := rfl
  obtain ⟨p2, q2, T2, D2, a1, a2, a3, a4, a5, a6, a7, a8, a9, a10, a11⟩ := dl_loop (kv := kv) (kg := kg) (v3 := v3) (B0 := RS q 40) (g := g) hb hx hB HL hz (fun k hk => by
      obtain ⟨a, r, s, zz, i1, i2, i3, i4, i5, -⟩ := hI k hk
      exact ⟨i5, i3, i2.2⟩) hg c 0 FU FU p1 q1 T D (by omega) (by unfold FU; omega) (by unfold FU; omega) W1 (fun k hk => ⟨by rw [hp1.2.2]; exact hq k hk, (hG.1 k hk).1⟩) (fun k hk => by
      rw [if_neg (by omega)]
      exact (hG.1 k hk).2) hG.2 hW (by rw [hq1.2.1 6 (by decide)]; exact hsz) (by rw [hq1.2.1 16 (by decide)]; exact hbk) (fun _ => ⟨rx, by rw [hq1.2.1 17 (by decide)]; exact hr, hrr.1, hrr.2, by
      rw [sm_sq, Nat.zero_add]
      show sq g c - 0 ≤ rx
      omega⟩) (fun k _ hk => by
      obtain ⟨a, r, s, zz, i1, i2, i3, i4, i5, i6, i7, i8, -⟩ := hI k hk
      refine ⟨by rw [hq1.2.1 16 (by decide)]; exact i3, by rw [hq1.2.1 24 (by decide)]; exact i2.2, ?_⟩
      rw [hp1.1 10 (by decide)]
      exact i8) (by omega) (by omega) (Or.inr ⟨by rw [hq1.1 15 (by decide)]; exact hl, fun k hk => by
      obtain ⟨a, r, s, zz, i1, i2, -⟩ := hI k hk
      rw [hq1.1 15 (by decide)]
      exact i2.1, hRS, by
      obtain ⟨k, k1, k2⟩ := sq_pos c (fun j hj => (hg j hj).1) hs1
      exact ⟨k, Nat.zero_le _, k1, by omega⟩⟩)
  rw [hz0] at a1
  have hsv := (sv_eq hb hB HL hW (g := g) (by rw [hq1.2.1 6 (by decide)]; exact hsz) (fun k hk => by
    have := hg k hk
    obtain ⟨d1, d2, d3, d4, d5, d6⟩ := hB (L k) (by have := (HL.2.1 k hk).1; omega) (HL.2.1 k hk).2
    exact ⟨(hG.1 k hk).2, by omega, by omega⟩) hG.2 t (cn z)).1
  refine ⟨p2, q2, T2, D2, a1, ⟨a2.1, hsv, a2.2⟩, a3, by omega, by omega, a6, a7, fun K h1 h2 h3 h4 => ?_, fun K h1 => ?_, fun K h1 h2 h3 h4 => ?_⟩
  · rw [a8 K h1 h2 h3 h4, hq1.2.1 K (by omega)]
  · rw [a9 K h1, hq1.1 15 (by decide)]
  · rw [a10 K h1 h2 h3 h4, hq1.2.1 K (by omega)]
theorem serve_pre (H : WW p q lg x 99 (fun _ => False) N T D l (fun _ => 0)) (hb : b < 6) (hx : x < 40) (hbk : q.1 13 16 x = cn b) (ht : (q.1 15 4 x = 0 ∧ t = cn 1) ∨ (¬ q.1 15 4 x = 0 ∧ t = cn 0)) (hr : q.1 13 17 x = cn rx) (hrr : 1 ≤ rx ∧ rx ≤ 50) (hq : ∀ k, k < c → p.2.2 20 2 k = L k + 1) (hc1 : 1 ≤ c) (HL : QL q b t (cn z) sz 40 c L) (hsz : (q.1 13 6 b = cn 2) = (sz = true)) : ∃ (p1 q1 : PM) (g : Nat → Int), PF p p1 ∧ GF q q1 ∧ GR p1 q1 c L g ∧ (∀ k, k < c → 0 ≤ g k ∧ g k ≤ sw q (L k)) ∧ sq g c ≤ rx ∧ 1 ≤ sq g c ∧ WAS q q1 ∧ (v8_share p (b + 1) (cn rx) (cn c) = p1 ∧ g8_share p (b + 1) (cn rx) (cn c)) ∧ v12_servesAll q (cn x) (cn z) = v12_servesAll_147 FU q1 (cn x) (cn z) (cn b) t (v12_served q1 (cn b) t (cn z)) ∧ (g12_served q1 (cn b) t (cn z) → g12_servesAll_147 FU q1 (cn x) (cn z) (cn b) t (v12_served q1 (cn b) t (cn z)) → g12_servesAll q (cn x) (cn z)) := by
  have hc := HL.1
  have hB := qb_of (t := t) (v := cn z) H hb
  have hI : ∀ k, k < c → ∃ (a : Nat) (r s zz : Int), QI p q x 99 b t (cn z) (L k) a r s zz := fun k hk => qa_inv H hb (HL.2.1 k hk).1 (HL.2.1 k hk).2
  obtain ⟨ps, s1, s2, s3, s4⟩ := share_e p (c := c) hc (v1 := b + 1) (r := cn rx)
  obtain ⟨qs, w1, w2, w3, w4, w5⟩ := serve_e (q := q) (b := b) (x := x) (t := t) (v := cn z) hb (by omega) hbk ht
  have hP : ∀ j, j < c → p.2.2 20 2 j = L j + 1 ∧ p.1 10 (L j + 1) 11 = cn (sw q (L j)) := by
    intro j hj
    obtain ⟨a, r, s, zz, i1, i2, i3, i4, i5, i6, i7, i8, -⟩ := hI j hj
    exact ⟨hq j hj, i8⟩
  have hG0 : GR ps qs c L (fun _ => 0) := ⟨fun j hj => ⟨s2 j hj, w2 (L j) (by have := (HL.2.1 j hj).1; omega)⟩, fun i hi _ => w2 i hi⟩
  obtain ⟨ru, u1, u2, u3', u4⟩ := (H.2.2.1 b hb).2.2.2.1
  have eps : ps.1 1 (b + 1) 9 = cn ru := by rw [s1.1 1 (by decide)]; exact u3'
  have eqs : qs.1 13 6 b = cn ru := by rw [w1.2.1 6 (by decide)]; exact u4
  have e17 : qs.1 13 17 x = cn rx := by rw [w1.2.1 17 (by decide)]; exact hr
  have hlt : 0 < c := by omega
  have hz0 : cn ((0 : Nat) : Int) = cn 0 := rfl
  have hzb : ¬ b + 1 = 0 := by omega
  rcases (show ru = 0 ∨ ru = 1 ∨ ru = 2 by omega) with rfl | rfl | rfl
  · -- by turns
    have hszf : sz = false := by
      rw [u4] at hsz
      cases sz with
      | false => rfl
      | true => exact absurd (hsz.mpr rfl) (by decide)
    subst hszf
    have hnx := bt_next (q := qs) (j := 0) (gf_qb w1 hB) (gf_ql w1 (Nat.le_refl _) HL) (Or.inl ⟨rfl, rfl⟩)
    obtain ⟨⟨m1, m2⟩, g2, m3, m4, m5, m6, m7, m8, m9, m10⟩ := od_turns hP hB HL c 0 FU FU (fun _ => 0) ps qs rx (by omega) (by unfold FU; omega) (by unfold FU; omega) s1 w1 hG0 (by omega) hrr.2
    rw [hz0] at m1 m3 m5
    rw [← hnx.2] at m2 m4 m5 m10
    have hsm : sm g2 0 c = sq g2 c := by
      rw [sm_sq, Nat.zero_add]
      show _ - (0 : Int) = _
      omega
    have hpos : 1 ≤ sq g2 c := by
      have h1 := sq_le (g := up (fun _ => 0) 0 1) (h := g2) c (fun j hj => by
        unfold up
        dsimp only
        split
        · rename_i e
          rw [e]
          exact m9 hlt hrr.1
        · exact (m7 j (Nat.zero_le _) hj).1)
      rw [sq_up, sq_z, if_pos hlt] at h1
      omega
    have n1 : ¬ cn 0 = cn 1 := by decide
    obtain ⟨Q, hQ⟩ : ∃ Q, v12_sharesByTurns_14 FU qs (cn b) t (cn z) (cn rx) (v12_behindTurn qs (cn b) t (cn z) (cn (-1))) = Q := ⟨_, rfl⟩
    obtain ⟨P, hP9⟩ : ∃ P, v8_share_82 FU ps (cn c) (cn rx) (cn 0) = P := ⟨_, rfl⟩
    rw [hQ] at m4 m5 m10
    rw [hP9] at m3 m5
    have hV := sv_T (x := x) (b := b) (t := t) (v := cn z) (by omega) (by omega) eqs e17 hQ
    have hS : shE ps (b + 1) (cn rx) (cn c) = P ∧ shG ps (b + 1) (cn rx) (cn c) := by
      unfold shE shG
      rw [eps, if_neg n1, if_neg n1]
      exact ⟨hP9, hzb, m1⟩
    have hV2 := hV.2 hnx.1 m2
    have ho : sq g2 c ≤ rx := by omega
    clear m1 m2
    refine ⟨P, Q, g2, m3, m4, m5, fun k hk => m7 k (Nat.zero_le _) hk, ho, hpos, fun i hi => ?_, ⟨s3.trans hS.1, s4 hS.2⟩, w4.trans hV.1, fun h1 h2 => w5 (hV2 h1 h2)⟩
    rw [m10 41 i (by decide), m10 42 i (by decide)]
    exact w3 i (by omega)
  · -- by shares
    have hszf : sz = false := by
      rw [u4] at hsz
      cases sz with
      | false => rfl
      | true => exact absurd (hsz.mpr rfl) (by decide)
    subst hszf
    obtain ⟨tp, t1, t2, t3, t4⟩ := (H.2.2.1 b hb).2.2.2.2.1
    obtain ⟨⟨m1, m2⟩, m3, m4, g2, m5, m6, m7, m8, m9⟩ := so_all hP hB HL hb hc1 hzb u3' t3 t4 t1 t2 hrr.1 hrr.2 s1 s2 w1 w2
    have n1 : ¬ cn 1 = cn 2 := by decide
    obtain ⟨Q, hQ⟩ : ∃ Q, v12_sharesOut qs (cn b) t (cn z) (cn rx) = Q := ⟨_, rfl⟩
    obtain ⟨P, hP9⟩ : ∃ P, shE ps (b + 1) (cn rx) (cn c) = P := ⟨_, rfl⟩
    rw [hQ] at m4 m5 m9
    rw [hP9] at m3 m5 s3
    have hV := sv_O (x := x) (b := b) (t := t) (v := cn z) (by omega) (by omega) eqs e17 hQ
    have hV2 := hV.2 m2
    have hs4 := s4 m1
    clear m1 m2
    refine ⟨P, Q, g2, m3, m4, m5, m6, m7, m8, fun i hi => ?_, ⟨s3, hs4⟩, w4.trans hV.1, fun h1 h2 => w5 (hV2 h1 h2)⟩
    rw [m9 41 i (by decide), m9 42 i (by decide)]
    exact w3 i (by omega)
  · -- by size
    have hszf : sz = true := hsz.mp u4
    subst hszf
    have hnx := ns_next (q := qs) (j := 0) (gf_qb w1 hB) (gf_ql w1 (Nat.le_refl _) HL) (Or.inl ⟨rfl, rfl, rfl⟩)
    obtain ⟨⟨m1, m2⟩, g2, m3, m4, m5, m6, m7, m8, m9, m10⟩ := od_size hP hB HL c 0 FU FU (fun _ => 0) ps qs rx (by omega) (by unfold FU; omega) (by unfold FU; omega) s1 w1 hG0 (by omega) hrr.2
    rw [hz0] at m1 m3 m5
    rw [← hnx.2] at m2 m4 m5 m10
    have hsm : sm g2 0 c = sq g2 c := by
      rw [sm_sq, Nat.zero_add]
      show _ - (0 : Int) = _
      omega
    have hpos : 1 ≤ sq g2 c := by
      have h1 := sq_le (g := up (fun _ => 0) 0 1) (h := g2) c (fun j hj => by
        unfold up
        dsimp only
        split
        · rename_i e
          rw [e]
          exact m9 hlt hrr.1
        · exact (m7 j (Nat.zero_le _) hj).1)
      rw [sq_up, sq_z, if_pos hlt] at h1
      omega
    have n1 : ¬ cn 2 = cn 1 := by decide
    have n2 : ¬ cn 2 = 0 := by decide
    obtain ⟨Q, hQ⟩ : ∃ Q, v12_sharesBySize_17 FU qs (cn b) t (cn z) (cn rx) (v12_nextBySize qs (cn b) t (cn z) (cn 1000) (cn (-1))) = Q := ⟨_, rfl⟩
    obtain ⟨P, hP9⟩ : ∃ P, v8_share_82 FU ps (cn c) (cn rx) (cn 0) = P := ⟨_, rfl⟩
    rw [hQ] at m4 m5 m10
    rw [hP9] at m3 m5
    have hV := sv_Z (x := x) (b := b) (t := t) (v := cn z) (by omega) (by omega) eqs e17 hQ
    have hS : shE ps (b + 1) (cn rx) (cn c) = P ∧ shG ps (b + 1) (cn rx) (cn c) := by
      unfold shE shG
      rw [eps, if_neg n1, if_neg n1]
      exact ⟨hP9, hzb, m1⟩
    have hV2 := hV.2 hnx.1 m2
    have ho : sq g2 c ≤ rx := by omega
    clear m1 m2
    refine ⟨P, Q, g2, m3, m4, m5, fun k hk => m7 k (Nat.zero_le _) hk, ho, hpos, fun i hi => ?_, ⟨s3.trans hS.1, s4 hS.2⟩, w4.trans hV.1, fun h1 h2 => w5 (hV2 h1 h2)⟩
    rw [m10 41 i (by decide), m10 42 i (by decide)]
    exact w3 i (by omega)
theorem serve_all {kv : PM → Nat → Nat → Int32 → PM} {kg : PM → Nat → Nat → Int32 → Prop} {v3 : Int32} (H : WW p q lg x 99 (fun _ => False) N T D l (fun _ => 0)) (hb : b < 6) (hx : x < 40) (hl : q.1 15 3 x = cn 1) (hbk : q.1 13 16 x = cn b) (ht : (q.1 15 4 x = 0 ∧ t = cn 1) ∨ (¬ q.1 15 4 x = 0 ∧ t = cn 0)) (hr : q.1 13 17 x = cn rx) (hrp : p.1 10 (x + 1) 9 = cn rx) (hrr : 1 ≤ rx ∧ rx ≤ 50) (hq : ∀ k, k < c → p.2.2 20 2 k = L k + 1) (hc1 : 1 ≤ c) (HL : QL q b t (cn z) sz 40 c L) (hz : PrB b z) (hsz : (q.1 13 6 b = cn 2) = (sz = true)) (hT : T + RS q 40 + 2 ≤ 1000000000) (hD : D + RS q 40 + 2 ≤ 1000000000) : ∃ (p2 q2 : PM) (T2 D2 : Nat), (v8_match_141 kv FU (v8_share p (b + 1) (p.1 10 (x + 1) 9) (cn c)) (x + 1) (b + 1) v3 (cn z) (cn c) (cn 0) = kv p2 (x + 1) (b + 1) (v3 + cn 1) ∧ g8_share p (b + 1) (p.1 10 (x + 1) 9) (cn c) ∧ (kg p2 (x + 1) (b + 1) (v3 + cn 1) → g8_match_141 kg FU (v8_share p (b + 1) (p.1 10 (x + 1) 9) (cn c)) (x + 1) (b + 1) v3 (cn z) (cn c) (cn 0))) ∧ (v12_servesAll q (cn x) (cn z) = q2 ∧ g12_servesAll q (cn x) (cn z)) ∧ WW p2 q2 lg x 99 (fun _ => False) N T2 D2 l (fun _ => 0) ∧ T2 + RS q2 40 ≤ T + RS q 40 ∧ D2 + RS q2 40 ≤ D + RS q 40 ∧ (T ≤ T2 ∧ D ≤ D2) ∧ RS q2 40 < RS q 40 ∧ (∀ K, 14 ≤ K → K ≤ 28 → ¬ K = 17 → ¬ K = 22 → q2.1 13 K x = q.1 13 K x) ∧ (∀ K, K = 4 ∨ K = 5 → q2.1 15 K x = q.1 15 K x) ∧ (∀ K, 2 ≤ K → K ≤ 13 → ¬ K = 4 → ¬ K = 10 → q2.1 13 K = q.1 13 K) := by
  obtain ⟨p1, q1, g, b1, b2, b3, b4, b5, b6, b7, b8, b9, b10⟩ := serve_pre H hb hx hbk ht hr hrr hq hc1 HL hsz
  obtain ⟨p2, q2, T2, D2, c1, c2, c3⟩ := serve_fin (kv := kv) (kg := kg) (v3 := v3) (g := g) H hb hx hl hbk hr ⟨by omega, hrr.2⟩ hq HL hz hsz b1 b2 b3 b4 b5 b6 b7 hT hD
  rw [hrp, b8.1, b9]
  exact ⟨p2, q2, T2, D2, ⟨c1.1, b8.2, c1.2⟩, ⟨c2.1, b10 c2.2.1 c2.2.2⟩, c3⟩
end Fin
