/-! an event keeps what there is in all -/
def S0 (q : PM) : Prop := ∀ c, c < 3 → sFu (q.1 13 1) c 9 = 0
theorem cSu_abs (f : Nat → Int64) : ∀ n, max (cSu f n).toInt (-(cSu f n).toInt) ≤ csF f n
  | 0 => by
    show max (cl 0).toInt (-(cl 0).toInt) ≤ 0
    rw [cl_I ⟨by decide, by decide⟩]
    decide
  | n + 1 => by
    have h := cSu_abs f n
    have h2 := i64_add_abs (cSu f n) (f n)
    show max (cSu f n + f n).toInt (-(cSu f n + f n).toInt) ≤ csF f n + max (f n).toInt (-(f n).toInt)
    omega
theorem enc64 {x : Int64} (h1 : -1000000000000000000 ≤ x.toInt) (h2 : x.toInt ≤ 1000000000000000000) : ∃ u v : Int32, x = u.toInt64 * 2147483648 + v.toInt64 := by
  refine ⟨cn (x.toInt / 2147483648), cn (x.toInt % 2147483648), ?_⟩
  have e : (2147483648 : Int64) = cl 2147483648 := rfl
  rw [cn64 ⟨by omega, by omega⟩, cn64 ⟨by omega, by omega⟩, e, clmul, cladd]
  exact (cl_of x).trans (congrArg cl (by omega))
/-- the same with flags -/
def flg (q : PM) (lg : Nat → Int32) (u v w : Int32) : Nat → Int32 := fun j => if j < 4004 then lg j else if j = 4004 then u else if j = 4005 then v else if j = 4006 then cn 1 else if j = 4007 then w else if j = 4012 then q.1 13 1 32 else if j = 4013 then q.1 13 1 33 else if j = 4014 then q.1 13 1 34 else lg j
section Bal
variable {p q : PM} {lg : Nat → Int32} {u v w : Int32} {N T D e n k : Nat} {a b c d x f : Int32}
theorem flg_lo {j : Nat} (h : j < 4004) : flg q lg u v w j = lg j := if_pos h
theorem flg_4 : flg q lg u v w 4004 = u := by
  unfold flg
  rw [if_neg (by decide), if_pos rfl]
theorem flg_5 : flg q lg u v w 4005 = v := by
  unfold flg
  rw [if_neg (by decide), if_neg (by decide), if_pos rfl]
theorem flg_6 : flg q lg u v w 4006 = cn 1 := by
  unfold flg
  rw [if_neg (by decide), if_neg (by decide), if_neg (by decide), if_pos rfl]
theorem flg_7 : flg q lg u v w 4007 = w := by
  unfold flg
  rw [if_neg (by decide), if_neg (by decide), if_neg (by decide), if_neg (by decide), if_pos rfl]
theorem flg_h {i : Nat} (hi : i < 3) : flg q lg u v w (4012 + i) = q.1 13 1 (32 + i) := by
  have h : i = 0 ∨ i = 1 ∨ i = 2 := by omega
  unfold flg
  rcases h with rfl | rfl | rfl
  · rw [if_neg (by decide), if_neg (by decide), if_neg (by decide), if_neg (by decide), if_neg (by decide), if_pos rfl]
  · rw [if_neg (by decide), if_neg (by decide), if_neg (by decide), if_neg (by decide), if_neg (by decide), if_neg (by decide), if_pos rfl]
  · rw [if_neg (by decide), if_neg (by decide), if_neg (by decide), if_neg (by decide), if_neg (by decide), if_neg (by decide), if_neg (by decide), if_pos rfl]
theorem ww_flg {xx y l : Nat} {ww : Nat → Prop} {ff : Nat → Int} (H : WW p q (lgB lg e) xx y ww N T D l ff) (hS : S0 q) (hU : cSu (q.2.1 14 1) 9 = u.toInt64 * 2147483648 + v.toInt64) : WW p q (lgB (flg q lg u v w) e) xx y ww N T D l ff := by
  obtain ⟨hO, hA, hB, hD, hK, ⟨a1, a2, a3, a4, a5, a6, a7, a8, a9, a10, a11⟩, hI, hF⟩ := H
  refine ⟨hO, hA, hB, hD, hK, ⟨a1, a2, a3, a4, a5, a6, a7, fun j hj => ?_, ?_, ?_, ?_⟩, hI, hF⟩
  · rw [lgB_o (by omega) (by omega), flg_lo (by omega), a8 j hj, lgB_o (by omega) (by omega)]
  · rw [lgB_o (by decide) (by decide), flg_lo (by decide), a9, lgB_o (by decide) (by decide)]
  · rw [lgB_o (by decide) (by decide), flg_lo (by decide), a10, lgB_o (by decide) (by decide)]
  · have e2 : lgB (flg q lg u v w) e 4002 = lgB lg e 4002 := by
      unfold lgB
      rw [if_pos rfl, if_pos rfl]
    have e3 : lgB (flg q lg u v w) e 4003 = lgB lg e 4003 := by
      unfold lgB
      rw [if_neg (by decide), if_pos rfl, if_neg (by decide), if_pos rfl]
    obtain ⟨p1, p2, p3, -, -⟩ := a11
    refine ⟨fun c hc => by rw [e2]; exact p1 c hc, p2, by rw [e3]; exact p3, fun _ => ?_, fun _ _ i hi => ?_⟩
    · rw [lgB_o (by decide) (by decide), lgB_o (by decide) (by decide), flg_4, flg_5]
      exact ⟨hS, hU⟩
    · rw [lgB_o (by omega) (by omega), flg_h hi]
theorem iv_cs (I : IV lg p q N T D e) (he : e ≤ 600) : -1000000000000000000 ≤ (cSu (q.2.1 14 1) 9).toInt ∧ (cSu (q.2.1 14 1) 9).toInt ≤ 1000000000000000000 := by
  obtain ⟨H, -, -, n1, t1, d1⟩ := I
  have h := cSu_abs (q.2.1 14 1) 9
  have hR := (RS_rng H.1.1 40 (by decide)).1
  have h2 := H.2.2.2.2.2.1.2.2.2.2.2.2.2.2.2.2.2.2.1
  rw [lgB_3 (by omega), H.2.2.2.1.2.2.1, cn_I ⟨by omega, by omega⟩] at h2
  omega
theorem bal_act (hk : k < 27) (hk2 : ¬ (k = 15 ∨ k = 18 ∨ k = 26)) (he : e + 1 ≤ 600) (hn : n < 520) (I : IV lg p q N T D e) (h60 : lg 4000 = cn n) (hS : S0 q) (h0 : kE p a b c d x f k = 0) : S0 (logQ (v12_works (v12_does q (cn k) a b c d x f).2) n (cn k) a b c d x f) ∧ cSu ((logQ (v12_works (v12_does q (cn k) a b c d x f).2) n (cn k) a b c d x f).2.1 14 1) 9 = cSu (q.2.1 14 1) 9 ∧ (¬ k = 19 → ∀ i, i < 3 → (logQ (v12_works (v12_does q (cn k) a b c d x f).2) n (cn k) a b c d x f).1 13 1 (32 + i) = q.1 13 1 (32 + i)) := by
  obtain ⟨z1, z2⟩ := iv_cs I (by omega)
  obtain ⟨u, v, hU⟩ := enc64 z1 z2
  obtain ⟨w, hw⟩ : ∃ w : Int32, w = if k = 19 then cn 0 else cn 1 := ⟨_, rfl⟩
  have I2 : IV (flg q lg u v w) p q N T D e := ⟨ww_flg I.1 hS hU, I.2⟩
  have hc : ¬ flg q lg u v w 4006 = cn 1 ∨ ¬ flg q lg u v w 4007 = cn 1 ∨ ¬ k = 19 := by
    rw [flg_7]
    by_cases h : k = 19
    · refine Or.inr (Or.inl ?_)
      rw [hw, if_pos h]
      decide
    · exact Or.inr (Or.inr h)
  obtain ⟨A1, -⟩ := act_eq (a := a) (b := b) (c := c) (d := d) (x := x) (f := f) hk (Or.inr hk2) hc he hn I2 (by rw [flg_lo (by decide)]; exact h60)
  obtain ⟨-, -, -, q2, N2, T2, D2, -, -, I3, eq⟩ := A1 h0
  rw [← eq]
  obtain ⟨-, -, -, p4, p5⟩ := I3.1.2.2.2.2.2.1.2.2.2.2.2.2.2.2.2.2
  rw [lgB_o (by decide) (by decide), lgB_o (by decide) (by decide), lgB_o (by decide) (by decide), lgw_f hn (by decide), lgw_f hn (by decide), lgw_f hn (by decide), flg_4, flg_5, flg_6] at p4
  rw [lgB_o (by decide) (by decide), lgB_o (by decide) (by decide), lgw_f hn (by decide), lgw_f hn (by decide), flg_6, flg_7] at p5
  obtain ⟨s1, s2⟩ := p4 rfl
  refine ⟨s1, s2.trans hU.symm, fun hk3 i hi => ?_⟩
  have h := p5 rfl (by rw [hw, if_neg hk3]) i hi
  rw [lgB_o (by omega) (by omega), lgw_f hn (by omega), flg_h hi] at h
  exact h
theorem moq_fb {q' : PM} (h : FnB q q') : MoQ q' = MoQ q := by
  unfold MoQ
  rw [h.1, h.2.1, h.2.2]
theorem moq_log {v : Int32} : MoQ (logQ q n v a b c d x f) = MoQ q := by
  unfold MoQ
  rw [log_13 (by decide), log_13 (by decide), log_12 (by decide)]
theorem toq_act (hl : lkd k) (hk : k < 27) (hk2 : ¬ (k = 15 ∨ k = 18 ∨ k = 26)) (he : e + 1 ≤ 600) (hn : n < 520) (I : IV lg p q N T D e) (h60 : lg 4000 = cn n) (hS : S0 q) (h0 : kE p a b c d x f k = 0) : ToQ (logQ (v12_works (v12_does q (cn k) a b c d x f).2) n (cn k) a b c d x f) = ToQ q := by
  obtain ⟨-, h2, -⟩ := bal_act (a := a) (b := b) (c := c) (d := d) (x := x) (f := f) hk hk2 he hn I h60 hS h0
  unfold ToQ
  rw [h2, moq_log, moq_fb (fb_v12_works (fb_does hl a b c d x f))]
end Bal
