/-! accounts, trades and prices alone change -/
/-- budgets: positions, and cash, by the number of events -/
def lgB (lg : Nat → Int32) (e : Nat) : Nat → Int32 := fun j => if j = 4002 then cn (20000000 + 4000 * (e : Int)) else if j = 4003 then cn (200000 * (e : Int)) else lg j
theorem lgB_o {lg : Nat → Int32} {e j : Nat} (h : ¬ j = 4002) (h2 : ¬ j = 4003) : lgB lg e j = lg j := by
  unfold lgB
  rw [if_neg h, if_neg h2]
theorem lgB_2 {lg : Nat → Int32} {e : Nat} (he : e ≤ 2000) : (lgB lg e 4002).toInt = 20000000 + 4000 * (e : Int) := by
  unfold lgB
  rw [if_pos rfl, cn_I ⟨by omega, by omega⟩]
theorem lgB_3 {lg : Nat → Int32} {e : Nat} (he : e ≤ 2000) : (lgB lg e 4003).toInt = 200000 * (e : Int) := by
  unfold lgB
  rw [if_neg (by decide), if_pos rfl, cn_I ⟨by omega, by omega⟩]
theorem pd_up {q q' : PM} {lg : Nat → Int32} {e : Nat} (he : e + 1 ≤ 2000) (h : PD q (lgB lg e)) (h48 : q'.1 12 1 48 = q.1 12 1 48) (h1 : ∀ c, c < 4 → psF (q'.1 13 1) c 9 ≤ psF (q.1 13 1) c 9 + 4000) (h2 : s3F (q'.1 13 1) 9 = s3F (q.1 13 1) 9) (h3 : csF (q'.2.1 14 1) 9 ≤ csF (q.2.1 14 1) 9 + 200000000000000) (hx : lg 4006 = cn 1 → (∀ c, c < 3 → sFu (q'.1 13 1) c 9 = sFu (q.1 13 1) c 9) ∧ cSu (q'.2.1 14 1) 9 = cSu (q.2.1 14 1) 9) (hy : lg 4006 = cn 1 → lg 4007 = cn 1 → ∀ c, c < 3 → q'.1 13 1 (32 + c) = q.1 13 1 (32 + c)) : PD q' (lgB lg (e + 1)) := by
  obtain ⟨a1, a2, a3, a4, a5⟩ := h
  rw [lgB_3 (by omega)] at a3
  refine ⟨fun c hc => ?_, by rw [h2]; exact a2, ?_, fun hf => ?_, fun hf1 hf2 c hc => ?_⟩
  · have k1 := a1 c hc
    have k2 := h1 c hc
    rw [lgB_2 (by omega)] at k1
    rw [lgB_2 he, h48]
    omega
  · rw [lgB_3 he, h48]
    omega
  · rw [lgB_o (by decide) (by decide)] at hf
    rw [lgB_o (by decide) (by decide), lgB_o (by decide) (by decide), lgB_o (by decide) (by decide)] at a4
    rw [lgB_o (by decide) (by decide), lgB_o (by decide) (by decide)]
    obtain ⟨y1, y2⟩ := a4 hf
    obtain ⟨x1, x2⟩ := hx hf
    exact ⟨fun c hc => (x1 c hc).trans (y1 c hc), x2.trans y2⟩
  · rw [lgB_o (by decide) (by decide)] at hf1 hf2
    rw [lgB_o (by decide) (by decide), lgB_o (by decide) (by decide)] at a5
    have x := a5 hf1 hf2 c hc
    rw [lgB_o (by omega) (by omega)] at x ⊢
    exact (hy hf1 hf2 c hc).trans x
theorem ot_lg {p q : PM} {lg lg' : Nat → Int32} (H : OT p q lg) (h : ∀ j, ¬ j = 4002 → ¬ j = 4003 → lg' j = lg j) (hP : PD q lg') : OT p q lg' := by
  obtain ⟨a1, a2, a3, a4, a5, a6, a7, a8, a9, a10, -⟩ := H
  exact ⟨a1, a2, a3, a4, a5, a6, a7, fun j hj => by rw [h j (by omega) (by omega)]; exact a8 j hj, by rw [h 4000 (by decide) (by decide)]; exact a9, by rw [h 4001 (by decide) (by decide)]; exact a10, hP⟩
theorem lgB_lg {lg : Nat → Int32} {e e' : Nat} : ∀ j, ¬ j = 4002 → ¬ j = 4003 → lgB lg e' j = lgB lg e j := fun j h1 h2 => by rw [lgB_o h1 h2, lgB_o h1 h2]
theorem ww_bud {p q : PM} {lg : Nat → Int32} {x y N T D l e : Nat} {w : Nat → Prop} {f : Nat → Int} (he : e + 1 ≤ 2000) (H : WW p q (lgB lg e) x y w N T D l f) : WW p q (lgB lg (e + 1)) x y w N T D l f := by
  obtain ⟨hO, hA, hB, hD, hK, hT, hI, hF⟩ := H
  exact ⟨hO, hA, hB, hD, hK, ot_lg hT lgB_lg (pd_up he hT.2.2.2.2.2.2.2.2.2.2 rfl (fun c _ => by omega) rfl (by omega) (fun _ => ⟨fun _ _ => rfl, rfl⟩) (fun _ _ _ _ => rfl)), hI, hF⟩
/-- an event that raises the budgets -/
theorem ev_bud {p' q q' : PM} {lg : Nat → Int32} {N T D l k n e : Nat} {c r : Int32} (he : e + 1 ≤ 2000) (h : EvR (lgB lg e) q N T D l k n (c, p') (r, q')) : EvR (lgB lg (e + 1)) q N T D l k n (c, p') (r, q') := by
  obtain ⟨h1, N2, T2, D2, h2, h3, W, h4⟩ := h
  exact ⟨h1, N2, T2, D2, h2, h3, ww_bud he W, h4⟩
section Later
variable {p q p' q' : PM} {lg lg' : Nat → Int32} {N T D l : Nat}
theorem ww_lat {f : Nat → Int} (H : WW p q lg 99 99 (fun _ => False) N T D l f) (hlg : ∀ j, ¬ j = 4002 → ¬ j = 4003 → lg' j = lg j) (h1 : ∀ K, ¬ K = 1 → ¬ K = 4 → ¬ K = 13 → p'.1 K = p.1 K) (h72 : ∀ i, i % 2 = 0 ∨ 19 ≤ i → p'.1 13 i = p.1 13 i) (h2 : p'.2.2 10 = p.2.2 10) (k1 : ∀ K, ¬ K = 1 → ¬ K = 10 → ¬ K = 11 → (K < 30 ∨ 34 < K) → q'.1 13 K = q.1 13 K) (k30 : q'.1 13 30 = q.1 13 30) (k2 : ∀ K, ¬ K = 7 → ¬ K = 8 → q'.1 15 K = q.1 15 K) (k3 : ∀ S, ¬ S = 0 → q'.1 12 1 S = q.1 12 1 S) (hA : ∀ a, a < 9 → AcR p' q' a) (hB : BR p' q') (hD : DR p' q' D) (hK : CK p') (hP : PD q' lg') : WW p' q' lg' 99 99 (fun _ => False) N T D l f ∧ RS q' 40 = RS q 40 := by
  obtain ⟨hO, hA0, -, -, -, hT, hI, hF⟩ := H
  refine ⟨⟨?_, ⟨hA, fun a ha => ⟨(hA0.2 a ha).1, ?_⟩⟩, hB, hD, hK, ?_, ?_, ?_⟩, ?_⟩
  · exact ord_c (h1 10 (by decide) (by decide) (by decide)) h2 (by rw [h1 6 (by decide) (by decide) (by decide)]) (by rw [h1 6 (by decide) (by decide) (by decide)]) (fun K _ _ => k1 K (by omega) (by omega) (by omega) (by omega)) (fun K _ _ => k2 K (by omega) (by omega)) (k3 39 (by decide)) (k3 40 (by decide)) hO
  · have h := (hA0.2 a ha).2
    unfold TrF at h ⊢
    rw [h1 0 (by decide) (by decide) (by decide), h72 (2 * (a + 1)) (by omega), k1 2 (by decide) (by decide) (by decide) (by decide), k1 3 (by decide) (by decide) (by decide) (by decide), k1 4 (by decide) (by decide) (by decide) (by decide), k1 5 (by decide) (by decide) (by decide) (by decide), k2 1 (by decide) (by decide)]
    exact h
  · obtain ⟨a1, a2, a3, a4, a5, a6, a7, a8, a9, a10, -⟩ := hT
    have e9 := h1 9 (by decide) (by decide) (by decide)
    have e2 := h1 2 (by decide) (by decide) (by decide)
    have e6 := h1 6 (by decide) (by decide) (by decide)
    refine ⟨fun m hm => ?_, fun s c hs hc => ?_, ?_, ?_, ?_, ?_, ?_, fun j hj => ?_, ?_, ?_, hP⟩
    · have h := a1 m hm
      rw [e9, k1 36 (by decide) (by decide) (by decide) (by decide), k1 37 (by decide) (by decide) (by decide) (by decide), k1 38 (by decide) (by decide) (by decide) (by decide), k1 39 (by decide) (by decide) (by decide) (by decide), k2 9 (by decide) (by decide), k2 10 (by decide) (by decide)]
      exact h
    · rw [h72 (20 + s) (by omega), k1 35 (by decide) (by decide) (by decide) (by decide)]
      exact a2 s c hs hc
    · rw [e2, k3 50 (by decide)]
      exact a3
    · rw [e2, k3 58 (by decide)]
      exact a4
    · rw [e2, k3 57 (by decide)]
      exact a5
    · rw [e6, k3 17 (by decide)]
      exact a6
    · rw [e6, k3 18 (by decide)]
      exact a7
    · rw [k1 40 (by decide) (by decide) (by decide) (by decide), hlg j (by omega) (by omega)]
      exact a8 j hj
    · rw [k3 60 (by decide), hlg 4000 (by decide) (by decide)]
      exact a9
    · rw [k3 61 (by decide), hlg 4001 (by decide) (by decide)]
      exact a10
  · exact iq_c (fun K _ _ => k1 K (by omega) (by omega) (by omega) (by omega)) (fun K _ _ => k2 K (by omega) (by omega)) (k1 12 (by decide) (by decide) (by decide) (by decide)) k30 (k3 17 (by decide)) hI
  · exact fb_c (k2 3 (by decide) (by decide)) (k1 17 (by decide) (by decide) (by decide) (by decide)) (k1 4 (by decide) (by decide) (by decide) (by decide)) (k3 95 (by decide)) hF
  · exact RS_c (k2 3 (by decide) (by decide)) (k1 17 (by decide) (by decide) (by decide) (by decide))
/-- the latest trade of a book, and that it is kept -/
theorem latest_kp {b : Nat} (H : DR p q D) (hb : b < 6) : (g7_latestOf p (b + 1) ∧ g12_latest q (cn b)) ∧ ((v7_latestOf p (b + 1) = cn (-100000) ∧ v12_latest q (cn b) = cn (-1)) ∨ ∃ t : Nat, v7_latestOf p (b + 1) = cn t ∧ v12_latest q (cn b) = cn t ∧ t < D ∧ t ≤ 1000000000 ∧ D ≤ t + 60 ∧ KP q b t) := by
  obtain ⟨hg, h⟩ := latest_eq H hb
  refine ⟨hg, ?_⟩
  rcases h with h | ⟨t, h1, h2, h3, h4, h5, h6⟩
  · exact Or.inl h
  · refine Or.inr ⟨t, h1, h2, h3, h4, h5, ?_⟩
    have hD := H.2.2.2
    have c2 := H.2.2.1
    obtain ⟨lo, hlo⟩ : ∃ lo : Nat, lo = D - 60 := ⟨_, rfl⟩
    obtain ⟨F, hF, hF2⟩ : ∃ F, FU = F ∧ 100 < F := ⟨FU, rfl, by decide⟩
    obtain ⟨-, b2⟩ := late_q (lo := lo) H hb (by omega) (D - lo) lo F (cn (-1)) (by omega) (by omega) (by omega) (Or.inl ⟨rfl, fun t k1 k2 => by omega⟩)
    have e3 : v12_latest q (cn b) = v12_latest_24 q F (cn b) (cn (-1)) (cn lo) := by
      unfold v12_latest bv12_latest
      simp only [c2, cnsub, hF]
      by_cases e : cn ((D : Int) - 60) < 0
      · have : lo = 0 := by
          rw [zcn, cnlt ⟨by omega, by omega⟩ (by decide)] at e
          omega
        simp only [if_pos e]
        rw [this]
        rfl
      · have : cn ((D : Int) - 60) = cn (lo : Int) := by
          rw [zcn, cnlt ⟨by omega, by omega⟩ (by decide)] at e
          congr 1
          omega
        simp only [if_neg e]
        rw [this]
    rw [← e3, h2] at b2
    rcases b2 with ⟨k1, -⟩ | ⟨u, k1, k2, k3, k4, -⟩
    · rw [cneq ⟨by omega, by omega⟩ (by decide)] at k1
      omega
    · rw [cneq ⟨by omega, by omega⟩ ⟨by omega, by omega⟩] at k4
      have e : t = u := by omega
      rw [e]
      exact k3
/-- a trade that is kept, by its number as an int -/
theorem kept_t {v : Int32} (H : DR p q D) : (g7_find p v ∧ g12_isKept q v) ∧ ((v7_find p v = 0 ∧ v12_isKept q v = cn 0) ∨ ∃ t : Nat, v = cn t ∧ t < D ∧ D ≤ t + 60 ∧ v7_find p v = t % 60 + 1 ∧ v12_isKept q v = cn 1 ∧ p.1 4 (t % 60 + 1) 6 = cn 1 ∧ q.1 15 8 (t % 60) = cn 0 ∧ DealV p q (t % 60)) := by
  obtain ⟨hk, c1, c2, hD⟩ := H
  have hv := I_rg v
  have hv1 := hv.1
  have hv2 := hv.2
  have e0 : (v < 0) = (v.toInt < 0) := by
    conv => lhs; rw [cn_of v, zcn, cnlt hv (by decide)]
  have e1 : (v < cn (D : Int)) = (v.toInt < D) := by
    conv => lhs; rw [cn_of v, cnlt hv ⟨by omega, by omega⟩]
  have e2 : (v < cn ((D : Int) - 60)) = (v.toInt < (D : Int) - 60) := by
    conv => lhs; rw [cn_of v, cnlt hv ⟨by omega, by omega⟩]
  by_cases h0 : v.toInt < 0
  · have h0' : v < 0 := by rw [e0]; exact h0
    unfold g7_find bg7_find g12_isKept bg12_isKept v7_find bv7_find v12_isKept bv12_isKept
    simp only [if_pos h0']
    exact ⟨⟨trivial, trivial⟩, Or.inl ⟨trivial, trivial⟩⟩
  have h0' : ¬ v < 0 := by rw [e0]; exact h0
  by_cases h1 : v.toInt < D
  · have h1' : v < cn (D : Int) := by rw [e1]; exact h1
    by_cases h2 : v.toInt < (D : Int) - 60
    · have h2' : v < cn ((D : Int) - 60) := by rw [e2]; exact h2
      unfold g7_find bg7_find g12_isKept bg12_isKept v7_find bv7_find v12_isKept bv12_isKept
      simp only [c1, c2, cnsub, if_neg h0', if_pos h1', if_pos h2']
      exact ⟨⟨trivial, trivial⟩, Or.inl ⟨trivial, trivial⟩⟩
    · obtain ⟨t, ht⟩ : ∃ t : Nat, v.toInt = t := ⟨v.toInt.toNat, by omega⟩
      have hvt : v = cn t := by
        conv => lhs; rw [cn_of v, ht]
      obtain ⟨⟨g1, g2⟩, f1, f2⟩ := find_t (t := t) ⟨hk, c1, c2, hD⟩ (by omega) (by omega)
      rw [hvt]
      refine ⟨⟨g1, g2⟩, ?_⟩
      obtain ⟨-, b8, hs⟩ := hk (t % 60) (Nat.mod_lt _ (by decide))
      rcases b8 with b8 | b8
      · rw [if_pos b8] at f1 f2
        have hle : t % 60 ≤ t := Nat.mod_le _ _
        rcases hs with ⟨s1, -, s2, s3⟩ | ⟨s1, s2 | s2⟩
        · exact Or.inr ⟨t, rfl, by omega, by omega, f1, f2, s1, s2, s3⟩
        · omega
        · rw [s2] at b8
          exact absurd b8 (by decide)
      · have b8' : ¬ q.1 15 8 (t % 60) = 0 := by
          rw [b8]
          decide
        rw [if_neg b8'] at f1 f2
        exact Or.inl ⟨f1, f2⟩
  · have h1' : ¬ v < cn (D : Int) := by rw [e1]; exact h1
    unfold g7_find bg7_find g12_isKept bg12_isKept v7_find bv7_find v12_isKept bv12_isKept
    simp only [c1, c2, if_neg h0', if_neg h1']
    exact ⟨⟨trivial, trivial⟩, Or.inl ⟨trivial, trivial⟩⟩
end Later
