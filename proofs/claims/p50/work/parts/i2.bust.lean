/-! what a bust does -/
section Bst
variable {p q r : PM} {lg : Nat → Int32} {N T D e : Nat} {M : Nat → Int} {X : Nat → Nat} {y w u : Nat}
/-- prices, reach, and what was told -/
def BsR (q p : PM) (X : Nat → Nat) (u : Nat) : Prop := ZL q p X 0 0 u ∧ (∀ M, PrL q M → PrL p M) ∧ p.1 12 1 95 = q.1 12 1 95
theorem bs_13 {i s : Nat} {v : Int32} (hi : ¬ (i = 1 ∨ i = 4 ∨ i = 34 ∨ i = 16 ∨ i = 24 ∨ i = 25 ∨ i = 19 ∨ i = 18 ∨ i = 26 ∨ i = 10 ∨ i = 11 ∨ i = 33 ∨ i = 30)) (h : BsR q p X u) : BsR q (pI p 13 i s v) X u := by
  refine ⟨zl_pI (by omega) h.1, fun M H => (pf_13 (by omega) (pf_refl (h.2.1 M H))).2, ?_⟩
  rw [pI_1, u3_k (by decide)]
  exact h.2.2
theorem bs_24 {s : Nat} {v : Int32} (hv : ¬ v = cn 1) (h : BsR q p X u) : BsR q (pI p 13 24 s v) X u := by
  refine ⟨zl_pI (by omega) h.1, fun M H => (pf_24 hv (pf_refl (h.2.1 M H))).2, ?_⟩
  rw [pI_1, u3_k (by decide)]
  exact h.2.2
theorem bs_166 {X : Nat → Nat} {u : Nat} : ∀ (n : Nat) {p : PM} (c0 c1 c2 : Int32), BsR q p X u → BsR q (v12_doBust_166 n p c0 c1 c2).2 X u := by
  intro n
  induction n with
  | zero =>
    intro p c0 c1 c2 h
    exact h
  | succ n ih =>
    intro p c0 c1 c2 h
    rw [ev12_doBust_166]
    unfold bv12_doBust_166
    repeat' first
      | with_reducible exact h
      | with_reducible apply ih
      | with_reducible refine bs_13 (by decide) ?_
      | with_reducible refine bs_24 (by decide) ?_
      | split
      | dsimp only
theorem bust_e {a : Int32} (he : e + 1 ≤ 2000) (H : WW p q (lgB lg e) 99 99 (fun _ => False) N T D 6 (fun _ => 0)) (hk : kBust p a = 0) : ∃ (k n u : Nat) (X : Nat → Nat), k < 60 ∧ (q.1 13 34 k).toInt = n ∧ (∀ c, X c ≤ 2 * n) ∧ u ≤ 2 * n ∧ BsR q (v12_doBust q a).2 X u := by
  have hDR := H.2.2.2.1
  obtain ⟨F, hF, hF2⟩ : ∃ F, FU = F ∧ 100 < F := ⟨FU, rfl, by decide⟩
  obtain ⟨⟨gf, gk⟩, hkk⟩ := kept_t (v := a) hDR
  rcases hkk with ⟨f0, k0⟩ | ⟨t, rfl, t1, t2, f1, k1, c6, c8, b, A, B, z, n, hb, hA, hB, d0, d30, d1, d31, d2, d32, hz, d3, d33, n1, n2, d4, d34, d5, d7⟩
  · unfold kBust at hk
    rw [if_pos f0] at hk
    exact absurd hk (by decide)
  have hD2 : D ≤ 1000000000 := hDR.2.2.2
  obtain ⟨k, hkk⟩ : ∃ k, t % 60 = k := ⟨_, rfl⟩
  rw [hkk] at f1 c6 c8 d0 d30 d1 d31 d2 d32 d3 d33 d4 d34 d5 d7
  have hk60 : k < 60 := by rw [← hkk]; exact Nat.mod_lt _ (by decide)
  have eir : irm (cn (t : Int)) (cn 60) = cn (k : Int) := by rw [← hkk]; exact irm60 (by omega)
  have hzk : ¬ k + 1 = 0 := by omega
  by_cases h7 : q.1 15 7 k = 0
  rotate_left
  · have h5 : ¬ p.1 4 (k + 1) 5 = 0 := by rw [d5]; exact h7
    unfold kBust at hk
    rw [f1, if_neg hzk, if_neg h5] at hk
    exact absurd hk (by decide)
  have hz1 := hz.1
  have hz2 := hz.2.1
  have W0 := ww_th (cn 0) H
  generalize hQ0 : pI q 12 1 0 (cn 0) = Q0 at W0
  have r13 : Q0.1 13 = q.1 13 := by rw [← hQ0]; exact th_k (by decide)
  have r15 : Q0.1 15 = q.1 15 := by rw [← hQ0]; exact th_k (by decide)
  have r0 : Q0.1 12 1 0 = 0 := by rw [← hQ0]; exact t_1
  have g31 : Q0.1 13 31 k = cn A := by rw [r13]; exact d31
  have g34 : Q0.1 13 34 k = cn n := by rw [r13]; exact d34
  have g30 : Q0.1 13 30 k = cn b := by rw [r13]; exact d30
  have g33 : Q0.1 13 33 k = cn z := by rw [r13]; exact d33
  have nn : -cn n = cn (-n) := cnneg n
  obtain ⟨y1, y2⟩ := undo_e (q := Q0) (a := A) (v := cn (-n)) (by omega) hb hk60 g30 g33
  obtain ⟨y3, y4⟩ := undo_e (q := hdQ Q0 A b (cn (-n)) (cn z)) (a := B) (v := cn n) (by omega) hb hk60 (by rw [hdQ_13 (by decide)]; exact g30) (by rw [hdQ_13 (by decide)]; exact g33)
  have g32' : (hdQ Q0 A b (cn (-n)) (cn z)).1 13 32 k = cn B := by rw [hdQ_13 (by decide), r13]; exact d32
  have g34' : (hdQ Q0 A b (cn (-n)) (cn z)).1 13 34 k = cn n := by rw [hdQ_13 (by decide)]; exact g34
  obtain ⟨Q3, hQ3⟩ : ∃ Q, hdQ (hdQ Q0 A b (cn (-n)) (cn z)) B b (cn n) (cn z) = Q := ⟨_, rfl⟩
  obtain ⟨Q4, hQ4⟩ : ∃ Q, pI Q3 15 7 k (cn 1) = Q := ⟨_, rfl⟩
  obtain ⟨Ws, -⟩ := ww_swap (s := A) (j := B) (b := b) (u := n) (z := z) he W0 (by omega) (by omega) hb (by omega) (by omega) (by omega) (by omega)
  obtain ⟨W4, -⟩ := ww_flag (k := k) Ws hk60 (by rw [tkC_k (by decide), tkC_k (by decide)]; exact c6)
  rw [hQ3, hQ4] at W4
  have h1 := zl_hold (q := Q0) (a := A) (b := b) (n := -n) (z := z) hA hb (by omega) (by omega) (by omega) (by omega) (by omega)
  have h2 := zl_hold (q := hdQ Q0 A b (cn (-n)) (cn z)) (a := B) (b := b) (n := n) (z := z) hB hb (by omega) (by omega) (by omega) (by omega) (by omega)
  have h3 := zl_trans h1 h2
  rw [hQ3] at h3
  have z0q : ZL q Q0 (fun _ => 0) 0 0 0 := by
    rw [← hQ0]
    exact zl_pI (by decide) (zl_refl q)
  have h4 := zl_trans z0q h3
  have ho : ∀ {P : PM} {s : Nat} {v x : Int32}, ∀ M, PrL P M → PrL (hdQ P s b v x) M := by
    intro P s v x M h
    exact pb_c (p := P) (fun i hi => hdQ_13 (by omega)) (by rw [hdQ_k (by decide)]) h
  have hpl : ∀ M, PrL q M → PrL Q4 M := fun M h => by
    rw [← hQ4, ← hQ3]
    refine (pf_15 (by decide) (pf_refl (ho M (ho M ?_)))).2
    rw [← hQ0]
    exact (pf_12 (pf_refl h)).2
  have q412 : Q4.1 12 1 95 = q.1 12 1 95 := by
    rw [← hQ4, pI_1, u3_k (by decide), ← hQ3, hdQ_k (by decide), hdQ_k (by decide), ← hQ0, th_1 (by decide)]
  have hB4 : BsR q Q4 (fun c => 0 + (xd b c (-n).natAbs + xd b c n.natAbs)) (0 + ((-n).natAbs + n.natAbs)) := by
    refine ⟨?_, hpl, q412⟩
    rw [← hQ4]
    exact zl_pI (by decide) h4
  have hn0 : ∃ m : Nat, n = m := ⟨n.toNat, by omega⟩
  obtain ⟨m, rfl⟩ := hn0
  -- the latest price
  have hb10 : ∀ v : Int32, (∀ M : Nat → Int, PrL q M → ∀ c, c < 4 → c = b → v.toInt ≤ M c) → BsR q (pI Q4 13 10 b v) (fun c => 0 + (xd b c (-(m : Int)).natAbs + xd b c (m : Int).natAbs)) (0 + ((-(m : Int)).natAbs + (m : Int).natAbs)) := fun v hv => by
    refine ⟨zl_pI (by decide) hB4.1, fun M h => (pf_10 (Or.inl rfl) (hv M h) (pf_refl (hpl M h))).2, ?_⟩
    rw [pI_1, u3_k (by decide)]
    exact q412
  obtain ⟨-, hm⟩ := latest_kp W4.2.2.2.1 hb
  have fin : BsR q (v12_doBust q (cn t)).2 (fun c => 0 + (xd b c (-(m : Int)).natAbs + xd b c (m : Int).natAbs)) (0 + ((-(m : Int)).natAbs + (m : Int).natAbs)) := by
    have e16 : v12_doBust q (cn t) = v12_doBust_16 q (cn t) (cn k) := by
      unfold v12_doBust bv12_doBust
      simp only [k1, if_neg cn01, eir]
    rw [e16]
    by_cases hlt : v12_latest Q0 (cn b) = cn (t : Int)
    · rcases hm with ⟨l1, l2⟩ | ⟨v, l1, l2, l3, l4, l5, l6⟩
      · have hm1 : cn (-1) < (0 : Int32) := cnm1
        have e : v12_doBust_16 q (cn t) (cn k) = v12_doBust_166 F (pI Q4 13 10 b (Q4.1 13 11 b)) (cn t) (cn b) (cn 0) := by
          unfold v12_doBust_16 bv12_doBust_16
          simp only [k1, if_neg cn01, cntk (i := k) (by omega), if_pos h7, hQ0, if_pos r0, g30, if_pos hlt, g31, g34, nn, y2, g32', g34', y4, hQ3, hQ4, l2, if_pos hm1, cntk (i := b) (by omega), hF]
        rw [e]
        exact bs_166 _ _ _ _ (hb10 _ fun M h c hc ec => by subst ec; exact ((hpl M h).2.2.2.1 c hc).2)
      · have hnu : ¬ cn (v : Int) < (0 : Int32) := cnge (by omega)
        have eiu : irm (cn (v : Int)) (cn 60) = cn ((v % 60 : Nat) : Int) := irm60 (by omega)
        have hle : v % 60 ≤ v := Nat.mod_le _ _
        have hv60 : v % 60 < 60 := Nat.mod_lt _ (by decide)
        have e : v12_doBust_16 q (cn t) (cn k) = v12_doBust_166 F (pI Q4 13 10 b (Q4.1 13 33 (v % 60))) (cn t) (cn b) (cn 0) := by
          unfold v12_doBust_16 bv12_doBust_16
          simp only [k1, if_neg cn01, cntk (i := k) (by omega), if_pos h7, hQ0, if_pos r0, g30, if_pos hlt, g31, g34, nn, y2, g32', g34', y4, hQ3, hQ4, l2, if_neg hnu, cntk (i := b) (by omega), eiu, cntk (i := v % 60) (by omega), hF]
        rw [e]
        refine bs_166 _ _ _ _ (hb10 _ fun M h c hc ec => ?_)
        subst ec
        refine ((hpl M h).2.2.2.2 (v % 60) hv60).2 c hc l6.1 ?_
        rw [l6.2.1]
        exact cntk (by omega)
    · have e : v12_doBust_16 q (cn t) (cn k) = v12_doBust_166 F Q4 (cn t) (cn b) (cn 0) := by
        unfold v12_doBust_16 bv12_doBust_16
        simp only [k1, if_neg cn01, cntk (i := k) (by omega), if_pos h7, hQ0, if_pos r0, g30, if_neg hlt, g31, g34, nn, y2, g32', g34', y4, hQ3, hQ4, hF]
      rw [e]
      exact bs_166 _ _ _ _ hB4
  refine ⟨k, m, _, _, hk60, ?_, fun c => ?_, ?_, fin⟩
  · rw [d34, cn_I ⟨by omega, by omega⟩]
  · have x1 := xd_le b c (-(m : Int)).natAbs
    have x2 := xd_le b c (m : Int).natAbs
    show 0 + (xd b c (-(m : Int)).natAbs + xd b c (m : Int).natAbs) ≤ 2 * m
    omega
  · omega
end Bst
