/-! what the face asks before a call: that it may be asked -/
section Guards
variable {p q : PM} {lg : Nat → Int32} {N T D e : Nat} {a b c m n v z Q : Int32}
theorem fb5 (p : PM) (h : ¬ isW b (cn 0) (cn 5) = 0) : g6_bookAt p b ∧ ¬ v6_bookAt p b = 0 := by
  obtain ⟨k, hk, rfl⟩ := isW_n (b := 5) (by decide) h
  rw [book_e p (by omega)]
  exact ⟨g_book p (by omega), by omega⟩
theorem fa8 (p : PM) (h : ¬ isW a (cn 0) (cn 8) = 0) : g7_accountAt p a ∧ ¬ v7_accountAt p a = 0 := by
  obtain ⟨k, hk, rfl⟩ := isW_n (b := 8) (by decide) h
  rw [account_e p (by omega)]
  exact ⟨g_account p (by omega), by omega⟩
theorem fa7 (p : PM) (h : ¬ isW a (cn 0) (cn 7) = 0) : g7_accountAt p a ∧ ¬ v7_accountAt p a = 0 := by
  obtain ⟨k, hk, rfl⟩ := isW_n (b := 7) (by decide) h
  rw [account_e p (by omega)]
  exact ⟨g_account p (by omega), by omega⟩
theorem fmb3 (p : PM) (h : ¬ isW m (cn 0) (cn 3) = 0) : g2_memberAt p m ∧ ¬ v2_memberAt p m = 0 := by
  obtain ⟨k, hk, rfl⟩ := isW_n (b := 3) (by decide) h
  rw [member_e p (by omega)]
  exact ⟨g_member p (by omega), by omega⟩
theorem gprice (p : PM) {o : Nat} (h : ¬ o = 0) : g1_hasPrice p o z := by
  unfold g1_hasPrice bg1_hasPrice g1_isSpread bg1_isSpread
  repeat' first
    | exact trivial
    | exact h
    | apply And.intro
    | split
theorem gfroz (p : PM) {o : Nat} (h : ¬ o = 0) : g1_isFrozen p o z := by
  unfold g1_isFrozen bg1_isFrozen
  repeat' first
    | exact trivial
    | exact h
    | apply And.intro
    | split
theorem gabs (p : PM) : g14_abs_0f7a4 p v := by
  unfold g14_abs_0f7a4 bg14_abs_0f7a4
  split <;> trivial
theorem w35 (h : ¬ isW b (cn 0) (cn 3) = 0) : ¬ isW b (cn 0) (cn 5) = 0 := by
  obtain ⟨k, hk, rfl⟩ := isW_n (b := 3) (by decide) h
  unfold isW
  rw [if_neg (by rw [cnlt ⟨by omega, by omega⟩ (by decide)]; omega), if_neg (by rw [cnlt (by decide) ⟨by omega, by omega⟩]; omega)]
  decide
theorem gadm (I : IV lg p q N T D e) (he : e ≤ 600) (ha : ¬ isW a (cn 0) (cn 7) = 0) (hb : ¬ isW b (cn 0) (cn 5) = 0) (hQ : ¬ isW Q (cn (-50)) (cn 50) = 0) (h0 : ¬ Q = 0) : g5_admits p a b Q := by
  obtain ⟨k, hk, rfl⟩ := isW_n (b := 7) (by decide) ha
  obtain ⟨j, hj, rfl⟩ := isW_n (b := 5) (by decide) hb
  obtain ⟨y, y1, y2, rfl⟩ := isW_z (a := -50) (b := 50) (by decide) (by decide) hQ
  have hRS := RS_rng I.1.1.1 40 (by decide)
  exact (adm_ww (e := e) (by omega) (by have := I.2.2.2.2.2; omega) I.1 (by omega) (by omega) y1 y2 (fun h => h0 (by rw [h]; rfl))).1.1
theorem gadmq (I : IV lg p q N T D e) (he : e ≤ 600) (ha : ¬ isW a (cn 0) (cn 7) = 0) (hb : ¬ isW b (cn 0) (cn 5) = 0) (hQ : ¬ isW Q (cn 1) (cn 50) = 0) : g5_admits p a b Q ∧ g5_admits p a b (-Q) := by
  obtain ⟨k, hk, rfl⟩ := isW_n (b := 7) (by decide) ha
  obtain ⟨j, hj, rfl⟩ := isW_n (b := 5) (by decide) hb
  obtain ⟨y, y1, y2, rfl⟩ := isW_z (a := 1) (b := 50) (by decide) (by decide) hQ
  have hRS := RS_rng I.1.1.1 40 (by decide)
  have hD : D ≤ 1000000 := by have := I.2.2.2.2.2; omega
  have hn : -cn y = cn (-y) := (Int32.ofInt_neg y).symm
  rw [hn]
  exact ⟨(adm_ww (e := e) (by omega) hD I.1 (by omega) (by omega) (by omega) y2 (by omega)).1.1, (adm_ww (e := e) (by omega) hD I.1 (by omega) (by omega) (by omega) (by omega) (by omega)).1.1⟩
theorem gfind (I : IV lg p q N T D e) : g6_find p v := (find_eq I.1.1.1 I.1.1.2.1 v).1.1
theorem gfindb (I : IV lg p q N T D e) (h : ¬ v6_find p v = 0) : ¬ p.2.2 10 (v6_find p v) 4 = 0 := by
  rcases (find_eq I.1.1.1 I.1.1.2.1 v).2 with ⟨f1, -⟩ | ⟨j, hj, f1, f2, f3, f4⟩
  · exact absurd f1 h
  · obtain ⟨_, a, b, r, s, z, hL⟩ := slot_live (I.1.1.1.1 j hj) (by rw [f3]; exact cn01)
    rw [f1]
    have h1 : p.2.2 10 (j + 1) 4 = b + 1 := by
      exact hL.2.1.2.2
    omega
theorem gkept (I : IV lg p q N T D e) : g7_find p v ∧ (¬ v7_find p v = 0 → ¬ p.2.2 4 (v7_find p v) 0 = 0 ∧ ¬ p.2.2 4 (v7_find p v) 1 = 0 ∧ ¬ p.2.2 4 (v7_find p v) 2 = 0) := by
  obtain ⟨⟨g, -⟩, h⟩ := kept_t (v := v) I.1.2.2.2.1
  refine ⟨g, fun hn => ?_⟩
  rcases h with ⟨h1, -⟩ | ⟨t, -, -, -, h1, -, -, -, b, A, B, z, n, -, -, -, e1, -, e2, -, e3, -⟩
  · exact absurd h1 hn
  · rw [h1, e1, e2, e3]
    omega
theorem gday (I : IV lg p q N T D e) (he : e + 1 ≤ 600) : g6_hasAuction p := (do_day (e := e) (by omega) I.1 I.2.2.1).1.1
theorem gallot (I : IV lg p q N T D e) (ha : ¬ isW a (cn 0) (cn 7) = 0) (hc : ¬ isW c (cn 0) (cn 3) = 0) : g7_canAllot p a c Q := by
  obtain ⟨k, hk, rfl⟩ := isW_n (b := 7) (by decide) ha
  obtain ⟨j, hj, rfl⟩ := isW_n (b := 3) (by decide) hc
  have g1 := g_account p (a := k) (by omega)
  have g2 := g_holds p (a := k) (c := j) (by omega) (by omega)
  have g3 : ∀ s, g7_averageOf p (k + 1) (cn j) s := fun s => (average_eq (s := s) I.1.2.2.2.1 I.1.2.2.2.2.1 (a := k) (by omega) (c := j) (by omega)).1.1
  unfold g7_canAllot bg7_canAllot
  rw [account_e p (by omega)]
  have hz : ¬ k + 1 = 0 := by omega
  refine ⟨g1, hz, g2, ?_⟩
  dsimp only
  repeat' first
    | exact trivial
    | exact g3 _
    | apply And.intro
    | split
theorem gcallof (I : IV lg p q N T D e) {x y : Int32} (hm : ¬ isW m (cn 0) (cn 3) = 0) : g2_callOf p m x y := by
  obtain ⟨k, hk, rfl⟩ := isW_n (b := 3) (by decide) hm
  exact (call_eq (mg_ww I.1) (by omega) x y).1.1
theorem ite_tt {c : Prop} {d : Decidable c} : @ite Prop c d True True := by cases d <;> exact True.intro
theorem gpay (I : IV lg p q N T D e) (hm : ¬ isW m (cn 0) (cn 3) = 0) : g2_canPay p m c n := by
  obtain ⟨g1, g2⟩ := fmb3 p hm
  unfold g2_canPay bg2_canPay
  refine ⟨g1, g2, ?_⟩
  dsimp only
  refine ⟨g2, g2, ?_⟩
  split
  · split
    · trivial
    · split
      · trivial
      · split
        · exact ⟨gcallof I hm, @ite_tt _ _⟩
        · split
          · exact ⟨gcallof I hm, @ite_tt _ _⟩
          · trivial
  · trivial
theorem gfail (I : IV lg p q N T D e) (hm : ¬ isW m (cn 0) (cn 3) = 0) : g2_canFail p m := by
  obtain ⟨g1, g2⟩ := fmb3 p hm
  unfold g2_canFail bg2_canFail
  refine ⟨g1, ?_⟩
  split
  · refine ⟨g2, ?_⟩
    split
    · exact ⟨g2, g2, gcallof I hm, @ite_tt _ _⟩
    · trivial
  · trivial
theorem gconv (I : IV lg p q N T D e) (hc : ¬ isW c (cn 0) (cn 2) = 0) (hn : ¬ isW n (cn 1) (cn 9) = 0) (hd : ¬ isW m (cn 1) (cn 9) = 0) : g7_canConvert p c n m := by
  obtain ⟨c, c2, rfl⟩ := isW_n (b := 2) (by decide) hc
  obtain ⟨n, n1, n2, rfl⟩ := isW_z (a := 1) (b := 9) (by decide) (by decide) hn
  obtain ⟨d, d1, d2, rfl⟩ := isW_z (a := 1) (b := 9) (by decide) (by decide) hd
  obtain ⟨F, hF, hF2⟩ : ∃ F, FU = F ∧ 100 < F := ⟨FU, rfl, by decide⟩
  have W0 := ww_th (cn 0) I.1
  have r0 : (pI q 12 1 0 (cn 0)).1 12 1 0 = 0 := t_1
  have g := (can_loop (p := p) (q := pI q 12 1 0 (cn 0)) hF W0.2.1.1 (c := c) (by omega) n1 n2 d1 d2 r0 8 0 F F rfl (by omega) (by omega)).1
  unfold g7_canConvert bg7_canConvert
  rw [hF]
  exact g
theorem gholds (p : PM) (ha : ¬ isW a (cn 0) (cn 8) = 0) (hc : ¬ isW c (cn 0) (cn 3) = 0) : g0_holds p (v7_accountAt p a) c := by
  obtain ⟨k, hk, rfl⟩ := isW_n (b := 8) (by decide) ha
  obtain ⟨j, hj, rfl⟩ := isW_n (b := 3) (by decide) hc
  rw [account_e p (by omega)]
  exact g_holds p (by omega) (by omega)
theorem gholds3 (p : PM) (ha : ¬ isW a (cn 0) (cn 8) = 0) : g0_holds p (v7_accountAt p a) (cn 3) := gholds p ha (by decide)
end Guards
