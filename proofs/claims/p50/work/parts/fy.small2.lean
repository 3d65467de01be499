/-! what else is carried from event to event -/
def SB (q : PM) (e : Nat) : Prop := MB q e ∧ FI q ∧ (∃ t : Nat, t ≤ 20 * e ∧ q.1 12 1 17 = cn t) ∧ ∃ d : Nat, d ≤ e ∧ q.1 12 1 18 = cn d
theorem mb_up {q q' : PM} {k : Int} (h : MB q k) (h36 : ∀ m, m < 4 → q'.1 13 36 m = q.1 13 36 m) (h37 : ∀ m, m < 4 → q'.1 13 37 m = q.1 13 37 m) : MB q' (k + 1) := by
  intro m hm
  obtain ⟨⟨z, z0, z1, z2⟩, ⟨y, y0, y1, y2⟩⟩ := h m hm
  rw [h36 m hm, h37 m hm]
  exact ⟨⟨z, z0, by omega, z2⟩, ⟨y, y0, by omega, y2⟩⟩
theorem fi_c {q q' : PM} (h : FI q) (h9 : q'.1 15 9 = q.1 15 9) (h10 : q'.1 15 10 = q.1 15 10) (h57 : q'.1 12 1 57 = q.1 12 1 57) : FI q' := by
  unfold FI
  rw [h9, h10, h57]
  exact h
theorem sb_fw {q q' : PM} {e : Nat} (h : SB q e) (F : FW q q') : SB q' (e + 1) := by
  obtain ⟨h1, h2, ⟨t, t1, t2⟩, d, d1, d2⟩ := h
  obtain ⟨f1, f2, f3⟩ := F
  refine ⟨mb_up h1 (fun m _ => by rw [f2 36 (by decide)]) (fun m _ => by rw [f2 37 (by decide)]), fi_c h2 (f3 9 (by decide)) (f3 10 (by decide)) (f1 57 (by decide)), ⟨t, by omega, ?_⟩, d, by omega, ?_⟩
  · rw [f1 17 (by decide)]
    exact t2
  · rw [f1 18 (by decide)]
    exact d2
noncomputable def kCancel (p : PM) (v : Int32) : Nat := if v6_find p v = 0 then 1 else if v1_isFrozen p (p.2.2 10 (v6_find p v) 4) (p.1 6 1 2) = 0 then 0 else 2
noncomputable def kAuction (p : PM) (b t f x : Int32) : Nat := if isW b (cn 0) (cn 5) = 0 then 1 else if isW t (cn 1) (cn 20) = 0 then 2 else if isW f (cn 0) t = 0 then 2 else if isW x (cn 0) (cn 9) = 0 then 2 else if p.1 1 (v6_bookAt p b) 5 = 0 then 0 else 3
noncomputable def kPass (v : Int32) : Nat := if isW v (cn 1) (cn 20) = 0 then 1 else 0
noncomputable def kDay (p : PM) : Nat := if v6_hasAuction p = 0 then 0 else 1
section Small2
variable {p q : PM} {lg : Nat → Int32} {N T D e : Nat}
theorem bid83_2 : ∀ (n : Nat) (Q : PM) (a i : Int32), (v12_doBid_83 n Q a i).2 = Q := by
  intro n
  induction n with
  | zero =>
    intro Q a i
    rfl
  | succ n ih =>
    intro Q a i
    rw [ev12_doBid_83]
    unfold bv12_doBid_83
    split
    · split
      · exact ih _ _ _
      · exact ih _ _ _
    · rfl
theorem do_bid {m v : Int32} (he : e + 1 ≤ 2000) (H : WW p q (lgB lg e) 99 99 (fun _ => False) N T D 6 (fun _ => 0)) (hS : SB q e) : (g12_doBid q m v ∧ DoE (lgB lg (e + 1)) q N T D 60 0 (kBid p m v) (g2_takeBid p m v) (v2_takeBid p m v) (v12_doBid q m v)) ∧ (kBid p m v = 0 → SB (v12_doBid q m v).2 (e + 1)) := by
  have c10 : ¬ cn 1 = (0 : Int32) := by decide
  have c20 : ¬ cn 2 = (0 : Int32) := by decide
  have c30 : ¬ cn 3 = (0 : Int32) := by decide
  have c00 : cn 0 = (0 : Int32) := rfl
  have gi : ∀ a b c, g12_in q a b c := fun a b c => g_in q a b c
  unfold kBid v12_doBid bv12_doBid g12_doBid bg12_doBid
  simp only [t_1, if_neg c10, if_neg c20, if_neg c30, if_pos c00]
  by_cases h1 : isW m (cn 0) (cn 3) = 0
  · have h1' : v12_in q m (cn 0) (cn 3) = 0 := h1
    simp only [if_pos h1, if_pos h1']
    exact ⟨⟨⟨gi _ _ _, trivial⟩, doe_x (by decide) rfl⟩, fun h => absurd h (by decide)⟩
  have h1' : ¬ v12_in q m (cn 0) (cn 3) = 0 := h1
  by_cases h2 : isW v (cn (-9999)) (cn 9999) = 0
  · have h2' : v12_in q v (cn (-9999)) (cn 9999) = 0 := h2
    simp only [if_neg h1, if_neg h1', if_pos h2, if_pos h2']
    exact ⟨⟨⟨gi _ _ _, gi _ _ _, trivial⟩, doe_x (by decide) rfl⟩, fun h => absurd h (by decide)⟩
  have h2' : ¬ v12_in q v (cn (-9999)) (cn 9999) = 0 := h2
  obtain ⟨m, hm, rfl⟩ := isW_n (b := 3) (by decide) h1
  obtain ⟨v, w1, w2, rfl⟩ := isW_z (a := -9999) (b := 9999) (by decide) (by decide) h2
  have i4 := cninb (i := m) (n := 4) (by omega) (by omega)
  have em := member_e p (a := m) (by omega)
  have hT := H.2.2.2.2.2.1
  have ef : p.1 9 (m + 1) 3 = q.1 15 9 m := (hT.1 m (by omega)).2.2.2.1.1
  have hopen : (p.1 2 1 6 = cn (-100000)) = (q.1 12 1 57 < 0) := by
    rcases hT.2.2.2.2.1 with ⟨x1, x2⟩ | ⟨k, hk, x1, x2⟩
    · rw [x1, x2]
      exact propext ⟨fun _ => by decide, fun _ => rfl⟩
    · rw [x1, x2, cneq ⟨by omega, by omega⟩ (by decide), zcn, cnlt ⟨by omega, by omega⟩ (by decide)]
      exact propext ⟨fun h => by omega, fun h => by omega⟩
  simp only [if_neg h1, if_neg h2, if_neg h1', if_neg h2', em, ef, hopen, cntk (i := m) (by omega)]
  by_cases h3 : q.1 12 1 57 < 0
  · simp only [if_pos h3]
    exact ⟨⟨⟨gi _ _ _, gi _ _ _, trivial⟩, doe_x (by decide) rfl⟩, fun h => absurd h (by decide)⟩
  by_cases h4 : q.1 15 9 m = 0
  · simp only [if_neg h3, if_pos h4]
    obtain ⟨⟨x1, x2⟩, x3⟩ := ev_bid (ww_th (cn 0) H) (m := m) (by omega) w1 w2
    have e2 := bid83_2 FU (pI (pI (pI q 12 1 0 (cn 0)) 15 10 m (cn 1)) 13 39 m (cn v)) (cn 0) (cn 0)
    refine ⟨⟨⟨gi _ _ _, gi _ _ _, i4, i4, i4, x2⟩, doe_a he x1 ?_ x3⟩, fun _ => ?_⟩
    · rw [e2, pI_1, u3_k (by decide), pI_1, u3_k (by decide), pI_at]
    · rw [e2]
      obtain ⟨s1, ⟨f1, f2, f3⟩, ⟨t, t1, t2⟩, d, d1, d2⟩ := hS
      have e57 : (pI (pI (pI q 12 1 0 (cn 0)) 15 10 m (cn 1)) 13 39 m (cn v)).1 12 1 57 = q.1 12 1 57 := by rw [pI_1, u3_k (by decide), pI_1, u3_k (by decide), pI_1, u3_s (by decide)]
      have e9 : (pI (pI (pI q 12 1 0 (cn 0)) 15 10 m (cn 1)) 13 39 m (cn v)).1 15 9 = q.1 15 9 := by
        funext i
        rw [pI_1, u3_k (by decide), pI_1, u3_i (by decide), pI_1, u3_k (by decide)]
      refine ⟨mb_up s1 (fun k _ => ?_) (fun k _ => ?_), ⟨fun k hk h => ?_, fun k hk h => ?_, fun h => ?_⟩, ⟨t, by omega, ?_⟩, d, by omega, ?_⟩
      · rw [pI_1, u3_i (by decide), pI_1, u3_k (by decide), pI_1, u3_k (by decide)]
      · rw [pI_1, u3_i (by decide), pI_1, u3_k (by decide), pI_1, u3_k (by decide)]
      · rw [e9]
        by_cases hkm : k = m
        · rw [hkm]
          exact h4
        · rw [pI_1, u3_k (by decide), pI_1, u3_s hkm, pI_1, u3_k (by decide)] at h
          exact f1 k hk h
      · rw [e57] at h
        rw [e9]
        exact f2 k hk h
      · rw [e57] at h
        rw [h] at h3
        exact absurd (by decide) h3
      · rw [pI_1, u3_k (by decide), pI_1, u3_k (by decide), pI_1, u3_s (by decide)]
        exact t2
      · rw [pI_1, u3_k (by decide), pI_1, u3_k (by decide), pI_1, u3_s (by decide)]
        exact d2
  · simp only [if_neg h3, if_neg h4]
    exact ⟨⟨⟨gi _ _ _, gi _ _ _, i4, trivial⟩, doe_x (by decide) rfl⟩, fun h => absurd h (by decide)⟩
theorem co_nn {m M U : Int32} : (0 < lg_cmp (v2_callOf p m M U) (cl 0)) = ¬ (lg_cmp (v2_callOf p m M U) (cl 0) = 0) := by
  rw [lg_lt0, lg_eq0]
  unfold v2_callOf bv2_callOf
  dsimp only
  rw [lmax_e]
  split
  · rename_i h
    refine propext ⟨fun _ h2 => ?_, fun _ => h⟩
    rw [h2] at h
    exact absurd h (by decide)
  · exact propext ⟨fun h => absurd h (by decide), fun h => absurd rfl h⟩
theorem do_fail {m : Int32} (he : e + 1 ≤ 2000) (H : WW p q (lgB lg e) 99 99 (fun _ => False) N T D 6 (fun _ => 0)) (hS : SB q e) : (g12_doFail q m ∧ DoE (lgB lg (e + 1)) q N T D 60 0 (kFail p m) (g5_failMember p m) (v5_failMember p m) (v12_doFail q m)) ∧ (kFail p m = 0 → SB (v12_doFail q m).2 (e + 1)) := by
  have c10 : ¬ cn 1 = (0 : Int32) := by decide
  have c20 : ¬ cn 2 = (0 : Int32) := by decide
  have c00 : cn 0 = (0 : Int32) := rfl
  have gi : ∀ a b c, g12_in q a b c := fun a b c => g_in q a b c
  by_cases h1 : isW m (cn 0) (cn 3) = 0
  · have h1' : v12_in q m (cn 0) (cn 3) = 0 := h1
    unfold kFail v12_doFail bv12_doFail g12_doFail bg12_doFail
    simp only [t_1, if_neg c10, if_pos h1, if_pos h1']
    exact ⟨⟨⟨gi _ _ _, trivial⟩, doe_x (by decide) rfl⟩, fun h => absurd h (by decide)⟩
  have h1' : ¬ v12_in q m (cn 0) (cn 3) = 0 := h1
  obtain ⟨m, hm, rfl⟩ := isW_n (b := 3) (by decide) h1
  have i4 := cninb (i := m) (n := 4) (by omega) (by omega)
  have em := member_e p (a := m) (by omega)
  have hT := H.2.2.2.2.2.1
  obtain ⟨⟨z, z0, z1, z2, z3⟩, ⟨y, y0, y1, y2, y3⟩, -, ⟨ef, -⟩, -⟩ := hT.1 m (by omega)
  have e36 : p.1 9 (m + 1) 0 = q.1 13 36 m := by rw [z2, z3]
  have e37 : p.1 9 (m + 1) 1 = q.1 13 37 m := by rw [y2, y3]
  obtain ⟨⟨gc1, gc2⟩, ec⟩ := callOf_eq (mg_ww H) (m := m) (by omega) e36.symm e37.symm
  have hopen : (p.1 2 1 6 = cn (-100000)) = (q.1 12 1 57 < 0) := by
    rcases hT.2.2.2.2.1 with ⟨x1, x2⟩ | ⟨k, hk, x1, x2⟩
    · rw [x1, x2]
      exact propext ⟨fun _ => by decide, fun _ => rfl⟩
    · rw [x1, x2, cneq ⟨by omega, by omega⟩ (by decide), zcn, cnlt ⟨by omega, by omega⟩ (by decide)]
      exact propext ⟨fun h => by omega, fun h => by omega⟩
  have hk : v2_canFail p (cn m) = if q.1 12 1 57 < 0 then (if q.1 15 9 m = 0 then (if lg_cmp (v2_callOf p (cn m) (p.1 9 (m + 1) 0) (p.1 9 (m + 1) 1)) (cl 0) = 0 then cn 0 else cn 1) else cn 0) else cn 0 := by
    unfold v2_canFail bv2_canFail
    simp only [em, ef, hopen, co_nn]
    by_cases x1 : q.1 12 1 57 < 0
    · rw [if_pos x1, if_pos x1]
      by_cases x2 : q.1 15 9 m = 0
      · rw [if_pos x2, if_pos x2]
        by_cases x3 : lg_cmp (v2_callOf p (cn m) (p.1 9 (m + 1) 0) (p.1 9 (m + 1) 1)) (cl 0) = 0
        · rw [if_pos x3, if_neg (fun h => h x3)]
        · rw [if_neg x3, if_pos x3]
      · rw [if_neg x2, if_neg x2]
    · rw [if_neg x1, if_neg x1]
  unfold kFail v12_doFail bv12_doFail g12_doFail bg12_doFail
  simp only [if_neg h1, if_neg h1', cntk (i := m) (by omega), ec, hk, t_1, if_neg c20, if_pos c00]
  by_cases x2 : q.1 15 9 m = 0
  · by_cases x3 : lg_cmp (v2_callOf p (cn m) (p.1 9 (m + 1) 0) (p.1 9 (m + 1) 1)) (cl 0) = 0
    · simp only [if_pos x2, if_pos x3, ite_self, if_pos c00]
      exact ⟨⟨⟨gi _ _ _, i4, gc2, trivial⟩, doe_x (by decide) rfl⟩, fun h => absurd h (by decide)⟩
    · by_cases x1 : q.1 12 1 57 < 0
      · simp only [if_pos x1, if_pos x2, if_neg x3, if_neg c10]
        obtain ⟨⟨y1, y2⟩, y3⟩ := ev_fail (ww_th (cn 0) H) (m := m) (by omega)
        have F := fx_v12_doFail_73 (q := pI (pI (pI q 12 1 0 (cn 0)) 15 9 m (cn 1)) 12 1 57 (cn m)) FU (cn m) (cn 0) (cn 0) (fx_refl _)
        obtain ⟨F1, F2, F3⟩ := F
        refine ⟨⟨⟨gi _ _ _, i4, gc2, i4, y2⟩, doe_a he y1 ?_ y3⟩, fun _ => ?_⟩
        · rw [F1 0 (by decide), pI_1, u3_s (by decide), pI_1, u3_k (by decide), pI_at]
        · obtain ⟨s1, ⟨f1, f2, f3⟩, ⟨t, t1, t2⟩, d, d1, d2⟩ := hS
          have h57 : q.1 12 1 57 = cn (-1) := by
            rcases hT.2.2.2.2.1 with ⟨-, w2⟩ | ⟨k, hk, -, w2⟩
            · exact w2
            · rw [w2] at x1
              exact absurd x1 (cnge (by omega))
          have e10 : (pI (pI (pI q 12 1 0 (cn 0)) 15 9 m (cn 1)) 12 1 57 (cn m)).1 15 10 = q.1 15 10 := by
            funext i
            rw [pI_1, u3_k (by decide), pI_1, u3_i (by decide), pI_1, u3_k (by decide)]
          refine ⟨mb_up s1 (fun k _ => ?_) (fun k _ => ?_), ⟨fun k hk h => ?_, fun k hk h => ?_, fun h => ?_⟩, ⟨t, by omega, ?_⟩, d, by omega, ?_⟩
          · rw [F2 36 (by decide), pI_1, u3_k (by decide), pI_1, u3_k (by decide), pI_1, u3_k (by decide)]
          · rw [F2 37 (by decide), pI_1, u3_k (by decide), pI_1, u3_k (by decide), pI_1, u3_k (by decide)]
          · rw [F3 10 (by decide), e10, f3 h57 k hk] at h
            exact absurd h (by decide)
          · rw [F1 57 (by decide), pI_at, cneq ⟨by omega, by omega⟩ ⟨by omega, by omega⟩] at h
            have hkm : k = m := by omega
            rw [F3 9 (by decide), hkm, pI_1, u3_k (by decide), pI_at]
          · rw [F1 57 (by decide), pI_at, cneq ⟨by omega, by omega⟩ (by decide)] at h
            omega
          · rw [F1 17 (by decide), pI_1, u3_s (by decide), pI_1, u3_k (by decide), pI_1, u3_s (by decide)]
            exact t2
          · rw [F1 18 (by decide), pI_1, u3_s (by decide), pI_1, u3_k (by decide), pI_1, u3_s (by decide)]
            exact d2
      · simp only [if_neg x1, if_pos x2, if_neg x3, if_pos c00]
        exact ⟨⟨⟨gi _ _ _, i4, gc2, trivial⟩, doe_x (by decide) rfl⟩, fun h => absurd h (by decide)⟩
  · simp only [if_neg x2, ite_self, if_pos c00]
    exact ⟨⟨⟨gi _ _ _, i4, trivial⟩, doe_x (by decide) rfl⟩, fun h => absurd h (by decide)⟩
end Small2
