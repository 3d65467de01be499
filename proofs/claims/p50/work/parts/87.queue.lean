/-! the queue at a price: those in it, as they are served -/
theorem showsNow_e (q : PM) {i : Nat} (hi : i ≤ 2147483647) : v12_showsNow q (cn i) = if q.1 13 19 i = cn 1 then q.1 13 22 i else q.1 13 17 i := by
  unfold v12_showsNow bv12_showsNow
  rw [cntk hi]
theorem g_showsNow {q : PM} {i : Nat} (hi : i < 44) : g12_showsNow q (cn i) := by
  have h := cninb hi (by omega)
  unfold g12_showsNow bg12_showsNow
  repeat' first
    | with_reducible exact h
    | exact trivial
    | exact not_false
    | apply And.intro
    | (split <;> rename_i h9 <;> first | simp only [if_neg h9, if_true, if_false] | simp only [if_pos h9, if_true, if_false] | skip)
/-- what an order shows -/
noncomputable def sw (q : PM) (i : Nat) : Int := (v12_showsNow q (cn i)).toInt
/-- how early it is served: small first -/
noncomputable def ky (q : PM) (sz : Bool) (i : Nat) : Int := (if sz = true then (50 - sw q i) * 4000000000 else 0) + (q.1 13 23 i).toInt
def QA (q : PM) (b : Nat) (t v : Int32) (i : Nat) : Prop := ¬ v12_isAt q (cn i) (cn b) t v = 0
/-- of the places below n, the list of those at the price, in order -/
def QL (q : PM) (b : Nat) (t v : Int32) (sz : Bool) (n c : Nat) (L : Nat → Nat) : Prop := c ≤ n ∧ (∀ j, j < c → L j < n ∧ QA q b t v (L j)) ∧ (∀ j k, j < k → k < c → ky q sz (L j) < ky q sz (L k)) ∧ ∀ i, i < n → QA q b t v i → ∃ j, j < c ∧ L j = i
/-- what is known of one of them -/
def QI (p q : PM) (x y b : Nat) (t v : Int32) (i a : Nat) (r s z : Int) : Prop := LV p q x y i a b r s z ∧ stnd q i ∧ q.1 13 16 i = cn b ∧ q.1 15 4 i = t ∧ ¬ i = x ∧ p.1 10 (i + 1) 2 = cn 1 ∧ p.1 10 (i + 1) 7 = v ∧ p.1 10 (i + 1) 11 = cn (sw q i) ∧ v12_showsNow q (cn i) = cn (sw q i) ∧ 1 ≤ sw q i ∧ sw q i ≤ r ∧ (∃ w : Int, v = cn w ∧ PrB b w) ∧ 0 ≤ (q.1 13 23 i).toInt ∧ (q.1 13 23 i).toInt ≤ 1000000000
theorem at_there {q : PM} {i : Nat} (hi : i ≤ 2147483647) {B t v : Int32} (h : ¬ v12_isAt q (cn i) B t v = 0) : ¬ v12_isThere q (cn i) B t = 0 ∧ q.1 15 5 i = 0 ∧ q.1 13 25 i = v := by
  rw [at_e q i hi] at h
  by_cases h1 : v12_isThere q (cn i) B t = 0
  · rw [if_pos h1] at h
    exact absurd rfl h
  · rw [if_neg h1] at h
    by_cases h2 : q.1 15 5 i = 0
    · rw [if_pos h2] at h
      by_cases h3 : q.1 13 25 i = v
      · exact ⟨h1, h2, h3⟩
      · rw [if_neg h3] at h
        exact absurd rfl h
    · rw [if_neg h2] at h
      exact absurd rfl h
theorem at_of {q : PM} {i : Nat} (hi : i ≤ 2147483647) {B t v : Int32} (h1 : ¬ v12_isThere q (cn i) B t = 0) (h2 : q.1 15 5 i = 0) (h3 : q.1 13 25 i = v) : ¬ v12_isAt q (cn i) B t v = 0 := by
  rw [at_e q i hi, if_neg h1, if_pos h2, if_pos h3]
  exact cn01
section Queue
variable {p q : PM} {lg : Nat → Int32} {x b N T D l : Nat} {f : Nat → Int} {t v : Int32}
theorem qa_inv (H : WW p q lg x 99 (fun _ => False) N T D l f) (hb : b < 6) {i : Nat} (hi : i < 40) (h : QA q b t v i) : ∃ (a : Nat) (r s z : Int), QI p q x 99 b t v i a r s z := by
  obtain ⟨h1, h2, h3⟩ := at_there (by omega) h
  obtain ⟨el, es, et, ex, e2, a, r, s, z, w, hL, hB⟩ := there_inv hb hi (H.1.1.1 i hi) h1
  have hbk := there_book (by omega) h1
  obtain ⟨t1, t2, -, -, t5⟩ := H.1.2.2.1
  obtain ⟨uC, u, u1, u2, u3, u4, u5⟩ := t2 i hi ⟨el, es⟩
  obtain ⟨k, k1, k2, k3, k4, k5⟩ := hB.2.2.1 (by omega)
  obtain ⟨r1, r2, r3, r4⟩ := hL.2.2.2.2.2.2.2.1
  have hsn : v12_showsNow q (cn i) = cn k ∧ 1 ≤ k := by
    rw [showsNow_e q (by omega)]
    rcases k5 with ⟨m1, m2⟩ | ⟨m1, m2⟩
    · rw [if_pos m1]
      refine ⟨m2, ?_⟩
      obtain ⟨k', n1, n2, n3⟩ := H.2.2.2.2.2.2.1.2.1 i hi (fun h => h) ⟨el, es⟩ (fun h => by
        rw [hbk, cneq ⟨by omega, by omega⟩ ⟨by omega, by omega⟩] at h
        omega) m1
      rw [m2, cneq ⟨by omega, by omega⟩ ⟨by omega, by omega⟩] at n3
      omega
    · rw [if_neg m1, r4, m2]
      exact ⟨rfl, r1⟩
  have hsw : sw q i = k := by
    unfold sw
    rw [hsn.1, cn_I ⟨by omega, by omega⟩]
  have hw : q.1 13 25 i = cn w ∧ PrB b w := by
    rcases hB.2.1 with ⟨m1, m2⟩ | ⟨m1, m2, m3, m4⟩
    · rw [m1] at h2
      exact absurd h2 cn01
    · exact ⟨m3, m2⟩
  refine ⟨a, r, s, z, hL, ⟨el, es⟩, hbk, et, ex, e2, ?_, by rw [hsw]; exact k4, by rw [hsw]; exact hsn.1, by rw [hsw]; exact hsn.2, by rw [hsw]; exact k2, ⟨w, by rw [← h3]; exact hw.1, hw.2⟩, ?_⟩
  · rw [hB.1, ← h3]
    exact hw.1.symm
  · rw [u5, cn_I ⟨by omega, by omega⟩]
    omega
/-- who is ahead -/
theorem qa_ahead (H : WW p q lg x 99 (fun _ => False) N T D l f) (hb : b < 6) {i k : Nat} (hi : i < 40) (hk : k < 40) (h : QA q b t v i) (h' : QA q b t v k) : (p.1 10 (k + 1) 12 < p.1 10 (i + 1) 12) = ((q.1 13 23 k).toInt < (q.1 13 23 i).toInt) ∧ (p.1 10 (i + 1) 11 = p.1 10 (k + 1) 11) = (sw q i = sw q k) ∧ (p.1 10 (i + 1) 11 < p.1 10 (k + 1) 11) = (sw q i < sw q k) ∧ ((q.1 13 23 k).toInt = (q.1 13 23 i).toInt → k = i) ∧ (0 ≤ (q.1 13 23 i).toInt ∧ (q.1 13 23 i).toInt ≤ 1000000000) ∧ (0 ≤ (q.1 13 23 k).toInt ∧ (q.1 13 23 k).toInt ≤ 1000000000) ∧ (1 ≤ sw q i ∧ sw q i ≤ 50) ∧ (1 ≤ sw q k ∧ sw q k ≤ 50) := by
  obtain ⟨a, r, s, z, hL, h1, h2, h3, h4, h5, h6, h7, h8, h9, h10, h11, h12⟩ := qa_inv H hb hi h
  obtain ⟨a', r', s', z', hL', k1, k2, k3, k4, k5, k6, k7, k8, k9, k10, k11, k12⟩ := qa_inv H hb hk h'
  have hr := hL.2.2.2.2.2.2.2.1
  have hr' := hL'.2.2.2.2.2.2.2.1
  have ht := H.1.2.2.1.1 k i hk hi k1 h1 (k2.trans h2.symm) (k3.trans h3.symm)
  refine ⟨ht.1.trans (propext Int32.lt_iff_toInt_lt), ?_, ?_, fun e => ht.2 (Int32.toInt_inj.mp e), h12, k12, ⟨h9, by omega⟩, ⟨k9, by omega⟩⟩
  · rw [h7, k7, cneq ⟨by omega, by omega⟩ ⟨by omega, by omega⟩]
  · rw [h7, k7, cnlt ⟨by omega, by omega⟩ ⟨by omega, by omega⟩]
end Queue
/-- the memory but for the queue -/
def QF (p p' : PM) : Prop := p'.1 = p.1 ∧ p'.2.1 = p.2.1 ∧ ∀ K i s, ¬ (K = 20 ∧ i = 2) → p'.2.2 K i s = p.2.2 K i s
theorem qf_w {p p' : PM} {s o : Nat} (H : QF p p') : QF p (pR p' 20 2 s o) := ⟨H.1, H.2.1, fun K i s' h => by
  rw [pR_R]
  by_cases e : K = 20
  · rw [u3_i fun e2 => h ⟨e, e2⟩]
    exact H.2.2 K i s' h
  · rw [u3_k e]
    exact H.2.2 K i s' h⟩
theorem cnpred (m : Nat) : cn ((m + 1 : Nat) : Int) - cn 1 = cn (m : Int) := by
  rw [cnsub]
  exact congrArg cn (by omega)
theorem cnpred' (m : Nat) : cn ((m + 1 : Nat) : Int) + cn (-1) = cn (m : Int) := by
  rw [cnadd]
  exact congrArg cn (by omega)
def bz (sz : Bool) : Int32 := if sz = true then cn 1 else cn 0
section Ins
variable {p q : PM} {lg : Nat → Int32} {x b N T D l : Nat} {f : Nat → Int} {t v v2 : Int32} {v1 : Nat}
theorem ins_loop {kv : PM → Nat → Int32 → Int32 → Int32 → Int32 → Int32 × PM} {kg : PM → Nat → Int32 → Int32 → Int32 → Int32 → Prop} (H : WW p q lg x 99 (fun _ => False) N T D l f) (hb : b < 6) {i c : Nat} {sz : Bool} {L : Nat → Nat} (hi : i < 40) (hA : QA q b t v i) (hc : c < 40) (hL : ∀ j, j < c → L j < 40 ∧ QA q b t v (L j) ∧ ¬ L j = i) (hs : ∀ j k, j < k → k < c → ky q sz (L j) < ky q sz (L k)) : ∀ (m n : Nat) (p' : PM), m ≤ c → m < n → QF p p' → (∀ j, j < m → p'.2.2 20 2 j = L j + 1) → (∀ j, m < j → j ≤ c → p'.2.2 20 2 j = L (j - 1) + 1) → (∀ j, m ≤ j → j < c → ky q sz i < ky q sz (L j)) →
    ∃ (p2 : PM) (k : Nat), k ≤ c ∧ QF p p2 ∧ (∀ j, j ≤ c → p2.2.2 20 2 j = (if j < k then L j else if j = k then i else L (j - 1)) + 1) ∧ (∀ j, j < k → ky q sz (L j) < ky q sz i) ∧ (∀ j, k ≤ j → j < c → ky q sz i < ky q sz (L j)) ∧ v8_gather_91 kv n p' v1 v2 (bz sz) (cn c) (cn i) (i + 1) (cn m) = kv p2 v1 v2 (bz sz) (cn (c + 1 : Nat)) (cn (i + 1 : Nat)) ∧ (kg p2 v1 v2 (bz sz) (cn (c + 1 : Nat)) (cn (i + 1 : Nat)) → g8_gather_91 kg n p' v1 v2 (bz sz) (cn c) (cn i) (i + 1) (cn m)) := by
  intro m
  induction m with
  | zero =>
    intro n p' h1 h2 hF hq1 hq2 hk
    obtain ⟨n', rfl⟩ : ∃ m, n = m + 1 := ⟨n - 1, by omega⟩
    have h0 : ¬ (0 : Int32) < cn ((0 : Nat) : Int) := by decide
    have h4 : cn ((0 : Nat) : Int) < cn 40 := by decide
    have hib := cninb (i := 0) (n := 40) (by omega) (by omega)
    refine ⟨pR p' 20 2 0 (i + 1), 0, Nat.zero_le _, qf_w hF, fun j hj => ?_, fun j hj => absurd hj (by omega), fun j _ hj => hk j (by omega) hj, ?_⟩
    · rw [pR_R, if_neg (by omega)]
      by_cases e : j = 0
      · rw [e, u3_same, if_pos rfl]
      · rw [u3_s e, if_neg e]
        exact hq2 j (by omega) hj
    · simp only [eg8_gather_91, ev8_gather_91, bg8_gather_91, bv8_gather_91, if_neg h0, if_pos h4, cntk (i := 0) (by omega), cnsucc]
      exact ⟨trivial, fun h => ⟨hib, h⟩⟩
  | succ m ih =>
    intro n p' h1 h2 hF hq1 hq2 hk
    obtain ⟨n', rfl⟩ : ∃ m, n = m + 1 := ⟨n - 1, by omega⟩
    have h0 : (0 : Int32) < cn ((m + 1 : Nat) : Int) := by
      rw [zcn, cnlt ⟨by omega, by omega⟩ ⟨by omega, by omega⟩]
      omega
    have h4 : cn ((m + 1 : Nat) : Int) < cn 40 := by
      rw [cnlt ⟨by omega, by omega⟩ ⟨by omega, by omega⟩]
      omega
    have hib := cninb (i := m) (n := 40) (by omega) (by omega)
    have hib1 := cninb (i := m + 1) (n := 40) (by omega) (by omega)
    have hzi : ¬ i + 1 = 0 := by omega
    have hzl : ¬ L m + 1 = 0 := by omega
    have hqm := hq1 m (by omega)
    obtain ⟨l1, l2, l3⟩ := hL m (by omega)
    obtain ⟨e1, e2, e3, e4, e5, e6, e7, e8⟩ := qa_ahead H hb hi l1 hA l2
    -- ahead: it stops here
    have stop : ky q sz (L m) < ky q sz i → ∃ (p2 : PM) (k : Nat), k ≤ c ∧ QF p p2 ∧ (∀ j, j ≤ c → p2.2.2 20 2 j = (if j < k then L j else if j = k then i else L (j - 1)) + 1) ∧ (∀ j, j < k → ky q sz (L j) < ky q sz i) ∧ (∀ j, k ≤ j → j < c → ky q sz i < ky q sz (L j)) ∧ kv (pR p' 20 2 (m + 1) (i + 1)) v1 v2 (bz sz) (cn (c + 1 : Nat)) (cn (i + 1 : Nat)) = kv p2 v1 v2 (bz sz) (cn (c + 1 : Nat)) (cn (i + 1 : Nat)) ∧ (kg p2 v1 v2 (bz sz) (cn (c + 1 : Nat)) (cn (i + 1 : Nat)) → kg (pR p' 20 2 (m + 1) (i + 1)) v1 v2 (bz sz) (cn (c + 1 : Nat)) (cn (i + 1 : Nat))) := by
      intro hlt
      refine ⟨pR p' 20 2 (m + 1) (i + 1), m + 1, h1, qf_w hF, fun j hj => ?_, fun j hj => ?_, fun j h9 hj => hk j h9 hj, rfl, fun h => h⟩
      · rw [pR_R]
        by_cases e : j = m + 1
        · rw [e, u3_same, if_neg (by omega), if_pos rfl]
        · rw [u3_s e]
          by_cases e9 : j < m + 1
          · rw [if_pos e9]
            exact hq1 j (by omega)
          · rw [if_neg e9, if_neg e]
            exact hq2 j (by omega) hj
      · by_cases e : j = m
        · rw [e]
          exact hlt
        · have := hs j m (by omega) (by omega)
          omega
    have on := fun (hlt : ky q sz i < ky q sz (L m)) => ih n' (pR p' 20 2 (m + 1) (L m + 1)) (by omega) (by omega) (qf_w hF) (fun j hj => by
        rw [pR_R, u3_s (by omega)]
        exact hq1 j (by omega)) (fun j h9 hj => by
        rw [pR_R]
        by_cases e : j = m + 1
        · rw [e, u3_same]
          rfl
        · rw [u3_s e]
          exact hq2 j (by omega) hj) (fun j h9 hj => by
        by_cases e : j = m
        · rw [e]
          exact hlt
        · exact hk j (by omega) hj)
    have hp1 : p'.1 = p.1 := hF.1
    cases sz with
    | false =>
      have hky : ∀ k, ky q false k = (q.1 13 23 k).toInt := fun k => by unfold ky; simp
      have hbz : bz false = cn 0 := rfl
      by_cases h : (q.1 13 23 (L m)).toInt < (q.1 13 23 i).toInt
      · obtain ⟨p2, k, s1, s2, s3, s4, s5, s6, s7⟩ := stop (by rw [hky, hky]; exact h)
        refine ⟨p2, k, s1, s2, s3, s4, s5, ?_⟩
        simp only [eg8_gather_91, ev8_gather_91, bg8_gather_91, bv8_gather_91, if_pos h0, if_pos h4, cntk (i := m + 1) (by omega), cntk (i := m) (by omega), cnpred, cnsucc, hqm, hp1, hbz, if_pos cn0e', e1, if_pos h]
        rw [hbz] at s6 s7
        exact ⟨s6, fun h9 => ⟨hib, hzl, hzi, hib1, s7 h9⟩⟩
      · have hne : ¬ (q.1 13 23 (L m)).toInt = (q.1 13 23 i).toInt := fun e => l3 (e4 e)
        obtain ⟨p2, k, s1, s2, s3, s4, s5, s6, s7⟩ := on (by rw [hky, hky]; omega)
        refine ⟨p2, k, s1, s2, s3, s4, s5, ?_⟩
        simp only [eg8_gather_91, ev8_gather_91, bg8_gather_91, bv8_gather_91, if_pos h0, if_pos h4, cntk (i := m + 1) (by omega), cntk (i := m) (by omega), cnpred, cnpred', cnsucc, hqm, hp1, hbz, if_pos cn0e', e1, if_neg h]
        rw [hbz] at s6 s7
        exact ⟨s6, fun h9 => ⟨hib, hzl, hzi, hib1, s7 h9⟩⟩
    | true =>
      have hky : ∀ k, ky q true k = (50 - sw q k) * 4000000000 + (q.1 13 23 k).toInt := fun k => by unfold ky; simp
      have hbz : bz true = cn 1 := rfl
      by_cases h5 : sw q i = sw q (L m)
      · by_cases h : (q.1 13 23 (L m)).toInt < (q.1 13 23 i).toInt
        · obtain ⟨p2, k, s1, s2, s3, s4, s5, s6, s7⟩ := stop (by rw [hky, hky]; omega)
          refine ⟨p2, k, s1, s2, s3, s4, s5, ?_⟩
          simp only [eg8_gather_91, ev8_gather_91, bg8_gather_91, bv8_gather_91, if_pos h0, if_pos h4, cntk (i := m + 1) (by omega), cntk (i := m) (by omega), cnpred, cnsucc, hqm, hp1, hbz, if_neg cn01, e1, e2, if_pos h5, if_pos h]
          rw [hbz] at s6 s7
          exact ⟨s6, fun h9 => ⟨hib, hzi, hzl, hzl, hzi, hib1, s7 h9⟩⟩
        · have hne : ¬ (q.1 13 23 (L m)).toInt = (q.1 13 23 i).toInt := fun e => l3 (e4 e)
          obtain ⟨p2, k, s1, s2, s3, s4, s5, s6, s7⟩ := on (by rw [hky, hky]; omega)
          refine ⟨p2, k, s1, s2, s3, s4, s5, ?_⟩
          simp only [eg8_gather_91, ev8_gather_91, bg8_gather_91, bv8_gather_91, if_pos h0, if_pos h4, cntk (i := m + 1) (by omega), cntk (i := m) (by omega), cnpred, cnpred', cnsucc, hqm, hp1, hbz, if_neg cn01, e1, e2, if_pos h5, if_neg h]
          rw [hbz] at s6 s7
          exact ⟨s6, fun h9 => ⟨hib, hzi, hzl, hzl, hzi, hib1, s7 h9⟩⟩
      · by_cases h : sw q i < sw q (L m)
        · obtain ⟨p2, k, s1, s2, s3, s4, s5, s6, s7⟩ := stop (by rw [hky, hky]; omega)
          refine ⟨p2, k, s1, s2, s3, s4, s5, ?_⟩
          simp only [eg8_gather_91, ev8_gather_91, bg8_gather_91, bv8_gather_91, if_pos h0, if_pos h4, cntk (i := m + 1) (by omega), cntk (i := m) (by omega), cnpred, cnsucc, hqm, hp1, hbz, if_neg cn01, e3, e2, if_neg h5, if_pos h]
          rw [hbz] at s6 s7
          exact ⟨s6, fun h9 => ⟨hib, hzi, hzl, hzl, hzi, hib1, s7 h9⟩⟩
        · obtain ⟨p2, k, s1, s2, s3, s4, s5, s6, s7⟩ := on (by rw [hky, hky]; omega)
          refine ⟨p2, k, s1, s2, s3, s4, s5, ?_⟩
          simp only [eg8_gather_91, ev8_gather_91, bg8_gather_91, bv8_gather_91, if_pos h0, if_pos h4, cntk (i := m + 1) (by omega), cntk (i := m) (by omega), cnpred, cnpred', cnsucc, hqm, hp1, hbz, if_neg cn01, e3, e2, if_neg h5, if_neg h]
          rw [hbz] at s6 s7
          exact ⟨s6, fun h9 => ⟨hib, hzi, hzl, hzl, hzi, hib1, s7 h9⟩⟩
/-- the list with one more -/
theorem ql_add {sz : Bool} {i c k : Nat} {L : Nat → Nat} (hA : QA q b t v i) (HL : QL q b t v sz i c L) (hk : k ≤ c) (h1 : ∀ j, j < k → ky q sz (L j) < ky q sz i) (h2 : ∀ j, k ≤ j → j < c → ky q sz i < ky q sz (L j)) : QL q b t v sz (i + 1) (c + 1) (fun j => if j < k then L j else if j = k then i else L (j - 1)) := by
  obtain ⟨g1, g2, g3, g4⟩ := HL
  refine ⟨by omega, fun j hj => ?_, fun j j' hjj hj' => ?_, fun i' hi' hA' => ?_⟩
  · dsimp only
    by_cases e : j < k
    · rw [if_pos e]
      have := g2 j (by omega)
      exact ⟨by omega, this.2⟩
    · rw [if_neg e]
      by_cases e2 : j = k
      · rw [if_pos e2]
        exact ⟨by omega, hA⟩
      · rw [if_neg e2]
        have := g2 (j - 1) (by omega)
        exact ⟨by omega, this.2⟩
  · dsimp only
    by_cases e : j < k
    · rw [if_pos e]
      by_cases e' : j' < k
      · rw [if_pos e']
        exact g3 j j' hjj (by omega)
      · rw [if_neg e']
        by_cases e2 : j' = k
        · rw [if_pos e2]
          exact h1 j e
        · rw [if_neg e2]
          exact g3 j (j' - 1) (by omega) (by omega)
    · rw [if_neg e, if_neg (show ¬ j' < k by omega)]
      by_cases e2 : j = k
      · rw [if_pos e2, if_neg (by omega)]
        exact h2 (j' - 1) (by omega) (by omega)
      · rw [if_neg e2, if_neg (by omega)]
        exact g3 (j - 1) (j' - 1) (by omega) (by omega)
  · by_cases e : i' = i
    · refine ⟨k, by omega, ?_⟩
      dsimp only
      rw [if_neg (by omega), if_pos rfl, e]
    · obtain ⟨j, j1, j2⟩ := g4 i' (by omega) hA'
      by_cases e2 : j < k
      · refine ⟨j, by omega, ?_⟩
        dsimp only
        rw [if_pos e2]
        exact j2
      · refine ⟨j + 1, by omega, ?_⟩
        dsimp only
        rw [if_neg (by omega), if_neg (by omega)]
        exact j2
theorem ql_skip {sz : Bool} {i c : Nat} {L : Nat → Nat} (hA : ¬ QA q b t v i) (HL : QL q b t v sz i c L) : QL q b t v sz (i + 1) c L := by
  obtain ⟨g1, g2, g3, g4⟩ := HL
  refine ⟨by omega, fun j hj => ⟨by have := (g2 j hj).1; omega, (g2 j hj).2⟩, g3, fun i' hi' hA' => ?_⟩
  by_cases e : i' = i
  · rw [e] at hA'
    exact absurd hA' hA
  · exact g4 i' (by omega) hA'
theorem gather_loop (H : WW p q lg x 99 (fun _ => False) N T D l f) (hb : b < 6) {sz : Bool} (hv : ¬ v = cn (-100000)) (hbk : p.2.2 10 (x + 1) 4 = b + 1) (hbu : p.1 10 (x + 1) 5 = q.1 15 4 x) (ht : (q.1 15 4 x = 0 ∧ t = cn 1) ∨ (¬ q.1 15 4 x = 0 ∧ t = cn 0)) : ∀ (d i n c : Nat) (L : Nat → Nat) (p' : PM), i + d = 40 → d < n → QF p p' → (∀ j, j < c → p'.2.2 20 2 j = L j + 1) → QL q b t v sz i c L →
    ∃ (c2 : Nat) (L2 : Nat → Nat) (p2 : PM), v8_gather_37 n p' (x + 1) v (bz sz) (cn c) (cn i) = (cn c2, p2) ∧ g8_gather_37 n p' (x + 1) v (bz sz) (cn c) (cn i) ∧ QF p p2 ∧ (∀ j, j < c2 → p2.2.2 20 2 j = L2 j + 1) ∧ QL q b t v sz 40 c2 L2 := by
  intro d
  induction d with
  | zero =>
    intro i n c L p' h1 h2 hF hq HL
    obtain ⟨n', rfl⟩ : ∃ m, n = m + 1 := ⟨n - 1, by omega⟩
    have e : i = 40 := by omega
    subst e
    refine ⟨c, L, p', ?_, ?_, hF, hq, HL⟩
    · rw [ev8_gather_37]
      unfold bv8_gather_37
      rw [if_neg (by decide)]
    · rw [eg8_gather_37]
      unfold bg8_gather_37
      rw [if_neg (by decide)]
      trivial
  | succ d ih =>
    intro i n c L p' h1 h2 hF hq HL
    obtain ⟨n', rfl⟩ : ∃ m, n = m + 1 := ⟨n - 1, by omega⟩
    have hi40 : i < 40 := by omega
    have hi := cninb (i := i) (n := 40) (by omega) (by omega)
    have hzx : ¬ x + 1 = 0 := by omega
    have hzi : ¬ i + 1 = 0 := by omega
    have hS := H.1.1.1 i hi40
    have gs := fun t => g_stands p' i (b + 1) t
    have hp1 : p'.1 = p.1 := hF.1
    have hbk' : p'.2.2 10 (x + 1) 4 = b + 1 := (hF.2.2 10 (x + 1) 4 (by omega)).trans hbk
    have hst : v10_standsIn p' (i + 1) (b + 1) t = v12_isThere q (cn i) (cn b) t := by
      rw [← stands_eq hb hi40 t hS, stands_e, stands_e, hp1, hF.2.2 10 (i + 1) 4 (by omega)]
    have k := fun c L p' hF hq HL => ih (i + 1) n' c L p' (by omega) (by omega) hF hq HL
    by_cases hA : QA q b t v i
    · obtain ⟨a, r, s, z, -, -, -, -, -, -, k6, -⟩ := qa_inv H hb hi40 hA
      have hth := (at_there (by omega) hA).1
      obtain ⟨p2, m, s1, s2, s3, s4, s5, s6, s7⟩ := ins_loop (kv := v8_gather_37 n') (kg := g8_gather_37 n') (v1 := x + 1) (v2 := v) (sz := sz) (L := L) H hb hi40 hA (by have := HL.1; omega) (fun j hj => ⟨by have := (HL.2.1 j hj).1; omega, (HL.2.1 j hj).2, by have := (HL.2.1 j hj).1; omega⟩) HL.2.2.1 c FU p' (Nat.le_refl _) (by have := HL.1; unfold FU; omega) hF hq (fun j h9 h8 => absurd h9 (by omega)) (fun j h9 h8 => absurd h9 (by omega))
      obtain ⟨c2, L2, p3, r1, r2, r3, r4, r5⟩ := k (c + 1) _ p2 s2 (fun j hj => s3 j (by omega)) (ql_add hA HL s1 s4 s5)
      refine ⟨c2, L2, p3, ?_, ?_, r3, r4, r5⟩
      · rw [ev8_gather_37]
        unfold bv8_gather_37
        rw [if_pos (lpt (i := i) (N := 40) (by omega) (by omega)), cntk (i := i) (by omega), hp1, hbu, hbk', k6, if_pos rfl]
        rcases ht with ⟨h, rfl⟩ | ⟨h, rfl⟩
        · rw [if_pos h, hst, if_neg hth, s6]
          exact r1
        · rw [if_neg h, hst, if_neg hth, s6]
          exact r1
      · rw [eg8_gather_37]
        unfold bg8_gather_37
        rw [if_pos (lpt (i := i) (N := 40) (by omega) (by omega)), cntk (i := i) (by omega), hp1, hbu, hbk', k6, if_pos rfl]
        refine ⟨hi, hzx, hzx, ?_⟩
        rcases ht with ⟨h, rfl⟩ | ⟨h, rfl⟩
        · rw [if_pos h, hst, if_neg hth]
          exact ⟨gs _, s7 r2⟩
        · rw [if_neg h, hst, if_neg hth]
          exact ⟨gs _, s7 r2⟩
    · obtain ⟨c2, L2, p3, r1, r2, r3, r4, r5⟩ := k c L p' hF hq (ql_skip hA HL)
      refine ⟨c2, L2, p3, ?_, ?_, r3, r4, r5⟩
      · have hno : ¬ v12_isThere q (cn i) (cn b) t = 0 → ¬ p.1 10 (i + 1) 7 = v := by
          intro h0 h9
          obtain ⟨el, es, et, ex, e2, a, r, s, z, w, hL, hB⟩ := there_inv hb hi40 hS h0
          rcases hB.2.1 with ⟨m1, m2⟩ | ⟨m1, m2, m3, m4⟩
          · rw [hB.1, m2] at h9
            exact hv h9.symm
          · exact hA (at_of (by omega) h0 m1 (m3.trans (hB.1.symm.trans h9)))
        rw [ev8_gather_37]
        unfold bv8_gather_37
        rw [if_pos (lpt (i := i) (N := 40) (by omega) (by omega)), cntk (i := i) (by omega), hp1, hbu, hbk', cnsucc]
        rcases ht with ⟨h, rfl⟩ | ⟨h, rfl⟩
        · rw [if_pos h, hst]
          by_cases h0 : v12_isThere q (cn i) (cn b) (cn 1) = 0
          · rw [if_pos h0]
            exact r1
          · rw [if_neg h0, if_neg (hno h0)]
            exact r1
        · rw [if_neg h, hst]
          by_cases h0 : v12_isThere q (cn i) (cn b) (cn 0) = 0
          · rw [if_pos h0]
            exact r1
          · rw [if_neg h0, if_neg (hno h0)]
            exact r1
      · have hno : ¬ v12_isThere q (cn i) (cn b) t = 0 → ¬ p.1 10 (i + 1) 7 = v := by
          intro h0 h9
          obtain ⟨el, es, et, ex, e2, a, r, s, z, w, hL, hB⟩ := there_inv hb hi40 hS h0
          rcases hB.2.1 with ⟨m1, m2⟩ | ⟨m1, m2, m3, m4⟩
          · rw [hB.1, m2] at h9
            exact hv h9.symm
          · exact hA (at_of (by omega) h0 m1 (m3.trans (hB.1.symm.trans h9)))
        rw [eg8_gather_37]
        unfold bg8_gather_37
        rw [if_pos (lpt (i := i) (N := 40) (by omega) (by omega)), cntk (i := i) (by omega), hp1, hbu, hbk', cnsucc]
        refine ⟨hi, hzx, hzx, ?_⟩
        rcases ht with ⟨h, rfl⟩ | ⟨h, rfl⟩
        · rw [if_pos h, hst]
          by_cases h0 : v12_isThere q (cn i) (cn b) (cn 1) = 0
          · rw [if_pos h0]
            exact ⟨gs _, r2⟩
          · rw [if_neg h0, if_neg (hno h0)]
            exact ⟨gs _, r2⟩
        · rw [if_neg h, hst]
          by_cases h0 : v12_isThere q (cn i) (cn b) (cn 0) = 0
          · rw [if_pos h0]
            exact ⟨gs _, r2⟩
          · rw [if_neg h0, if_neg (hno h0)]
            exact ⟨gs _, r2⟩
theorem gather_eq (H : WW p q lg x 99 (fun _ => False) N T D l f) (hb : b < 6) {sz : Bool} (hv : ¬ v = cn (-100000)) (hbk : p.2.2 10 (x + 1) 4 = b + 1) (hbu : p.1 10 (x + 1) 5 = q.1 15 4 x) (ht : (q.1 15 4 x = 0 ∧ t = cn 1) ∨ (¬ q.1 15 4 x = 0 ∧ t = cn 0)) (hsz : (p.1 1 (b + 1) 9 = cn 2) = (sz = true)) : ∃ (c : Nat) (L : Nat → Nat) (p2 : PM), v8_gather p (x + 1) v = (cn c, p2) ∧ g8_gather p (x + 1) v ∧ QF p p2 ∧ (∀ j, j < c → p2.2.2 20 2 j = L j + 1) ∧ QL q b t v sz 40 c L := by
  obtain ⟨c2, L2, p3, r1, r2, r3, r4, r5⟩ := gather_loop (sz := sz) H hb hv hbk hbu ht 40 0 FU 0 (fun _ => 0) p rfl (by decide) ⟨rfl, rfl, fun _ _ _ _ => rfl⟩ (fun j hj => absurd hj (by omega)) ⟨Nat.le_refl _, fun j hj => absurd hj (by omega), fun j k _ hj => absurd hj (by omega), fun i hi => absurd hi (by omega)⟩
  have hzx : ¬ x + 1 = 0 := by omega
  have hzb : ¬ b + 1 = 0 := by omega
  refine ⟨c2, L2, p3, ?_, ?_, r3, r4, r5⟩
  · unfold v8_gather bv8_gather
    cases sz with
    | false =>
      rw [hbk, if_neg (by rw [hsz]; decide)]
      exact r1
    | true =>
      rw [hbk, if_pos (by rw [hsz])]
      exact r1
  · unfold g8_gather bg8_gather
    cases sz with
    | false =>
      rw [hbk, if_neg (by rw [hsz]; decide)]
      exact ⟨hzx, hzb, r2⟩
    | true =>
      rw [hbk, if_pos (by rw [hsz])]
      exact ⟨hzx, hzb, r2⟩
end Ins
