/-! exercise by lot, whole -/
noncomputable def kExer (p : PM) (a Q d : Int32) : Nat := if isW a (cn 0) (cn 8) = 0 then 1 else if isW Q (cn 1) (cn 99) = 0 then 2 else if isW d (cn 0) (cn 7874) = 0 then 2 else if v0_holds p (v7_accountAt p a) (cn 3) < Q then 3 else 0
section Exer2
variable {p q : PM} {lg : Nat → Int32} {N T D : Nat}
theorem h100 {q : PM} {w : Nat} {u : Int} (hw : w < 9) (u1 : -99 ≤ u) (u2 : u ≤ 99) : hdQ (pI q 13 1 (4 * w + 3) (q.1 13 1 (4 * w + 3) + cn u)) w 0 (cn (-u)) (cn 100) = xQ q w u := by
  have e1 : (cn (-u)).toInt64 * (cn 100).toInt64 = cl (-u * 100) := cl_mul ⟨by omega, by omega⟩ (by decide)
  have e2 : ∀ y : Int64, y - cl (-u * 100) = y + cl (100 * u) := fun y => by
    rw [Int64.sub_eq_add_neg, clneg]
    congr 2
    omega
  unfold hdQ xQ
  rw [if_pos (by decide), e1, e2, pI_J]
  have e3 : (pI q 13 1 (4 * w + 3) (q.1 13 1 (4 * w + 3) + cn u)).1 13 1 (4 * w + 0) = q.1 13 1 (4 * w + 0) := by rw [pI_1, u3_s (by omega)]
  rw [e3]
theorem ex_lp {Q : Nat} (hQ1 : 1 ≤ Q) (hQ : Q ≤ 99) (hK : CK p) (h0 : s3F (q.1 13 1) 9 = 0) (hb : psF (q.1 13 1) 3 9 ≤ 1000000000) : ∀ (d k n n' : Nat) (p' q' : PM) (w : Int32) (lot : Int), k + d = Q → d < n → d < n' → AcS p p' q q' ((Q : Int) + k) (cn (-((Q : Int) - k))) → 0 ≤ lot → lot ≤ 7874 → (g7_exerciseLots_60 n p' (cn (Q : Int)) w (cn lot) (cn k) ∧ g12_doExercise_117 n' q' (cn (Q : Int)) (cn lot) w (cn k)) ∧ ∃ (w' : Int32) (P' Q' : PM), v7_exerciseLots_60 n p' (cn (Q : Int)) w (cn lot) (cn k) = (w', P') ∧ v12_doExercise_117 n' q' (cn (Q : Int)) (cn lot) w (cn k) = (w', Q') ∧ AcS p P' q Q' (2 * (Q : Int)) (cn 0) := by
  intro d
  induction d with
  | zero =>
    intro k n n' p' q' w lot h1 h2 h3 hS l1 l2
    obtain ⟨n1, rfl⟩ : ∃ m, n = m + 1 := ⟨n - 1, by omega⟩
    obtain ⟨n2, rfl⟩ : ∃ m, n' = m + 1 := ⟨n' - 1, by omega⟩
    have e : k = Q := by omega
    rw [e] at hS ⊢
    have hn : ¬ cn (Q : Int) < cn (Q : Int) := by
      rw [cnlt ⟨by omega, by omega⟩ ⟨by omega, by omega⟩]
      omega
    rw [ev7_exerciseLots_60, eg7_exerciseLots_60, ev12_doExercise_117, eg12_doExercise_117]
    unfold bv7_exerciseLots_60 bg7_exerciseLots_60 bv12_doExercise_117 bg12_doExercise_117
    rw [if_neg hn, if_neg hn, if_neg hn, if_neg hn]
    rw [show (Q : Int) + Q = 2 * (Q : Int) by omega, show -((Q : Int) - Q) = 0 by omega] at hS
    exact ⟨⟨trivial, trivial⟩, w, p', q', rfl, rfl, hS⟩
  | succ d ih =>
    intro k n n' p' q' w lot h1 h2 h3 hS l1 l2
    obtain ⟨n1, rfl⟩ : ∃ m, n = m + 1 := ⟨n - 1, by omega⟩
    obtain ⟨n2, rfl⟩ : ∃ m, n' = m + 1 := ⟨n' - 1, by omega⟩
    have hlt : cn (k : Int) < cn (Q : Int) := by
      rw [cnlt ⟨by omega, by omega⟩ ⟨by omega, by omega⟩]
      omega
    obtain ⟨a1, a2, a3, a4, a5, a6, a7, a8, a9⟩ := hS
    have hK' : CK p' := ck_c (a1 0 (by decide)) (a1 1 (by decide)) hK
    have hb' : psF (q'.1 13 1) 3 9 ≤ 2000000000 := by
      have := a7 3 (by decide)
      omega
    have hs' : s3F (q'.1 13 1) 9 = cn (-((Q : Int) - k)) := by
      rw [a9, h0, Int32.zero_add]
    have el : cn 421 * cn lot + cn 1663 = cn (421 * lot + 1663) := by rw [cnmul, cnadd]
    obtain ⟨f1, f2⟩ := fmod_e p' (A := 421 * lot + 1663) (by omega) (by omega)
    obtain ⟨m1, m2, m3, m4, -⟩ := tm_rng (A := 421 * lot + 1663) (B := 7875) (by decide)
    have m5 := m4 (by omega)
    have ei : irm (cn (421 * lot + 1663)) (cn 7875) = cn ((421 * lot + 1663).tmod 7875) := cnirm ⟨by omega, by omega⟩ (by decide) (by decide)
    obtain ⟨R, hR⟩ : ∃ R, (421 * lot + 1663).tmod 7875 = R := ⟨_, rfl⟩
    rw [hR] at ei m2 m5
    rw [ei] at f2
    obtain ⟨u, u9, ⟨g1, g2⟩, e1, e2⟩ := assign_eq (p := p') (q := q') (n := (Q : Int) - k) a6 hK' hb' (R := R) m5 (by omega) hs' (by omega) (by omega)
    have hx := xQ_acs (w := u) (u := 1) a6 u9 (by decide) (by decide)
    have hS2 := acs_trans ⟨a1, a2, a3, a4, a5, a6, a7, a8, a9⟩ hx
    have k1 : (Q : Int) + k + max 1 (-1) = (Q : Int) + ((k + 1 : Nat) : Int) := by omega
    have k2 : cn (-((Q : Int) - k)) + cn 1 = cn (-((Q : Int) - ((k + 1 : Nat) : Int))) := by
      rw [cnadd]
      congr 1
      omega
    rw [k1, k2] at hS2
    obtain ⟨⟨x1, x2⟩, w', P', Q', x3, x4, x5⟩ := ih (k + 1) n1 n2 (xC p' u 1) (xQ q' u 1) (cn u) R (by omega) (by omega) (by omega) hS2 m5 (by omega)
    have i3 : cn 4 * cn (u : Int) + cn 3 = cn ((4 * u + 3 : Nat) : Int) := idx4 (a := u) (c := 3)
    have hi36 := cninb (i := 4 * u + 3) (n := 36) (by omega) (by omega)
    obtain ⟨gh, eh⟩ := holds_q (q := pI q' 13 1 (4 * u + 3) (q'.1 13 1 (4 * u + 3) + cn 1)) (a := u) (b := 0) u9 (by decide) (cn (-1)) (cn 100)
    have z0 : cn ((0 : Nat) : Int) = cn 0 := rfl
    have hx2 := h100 (q := q') (w := u) (u := 1) u9 (by decide) (by decide)
    rw [z0] at gh eh
    rw [hx2] at eh
    refine ⟨⟨?_, ?_⟩, w', P', Q', ?_, ?_, x5⟩
    · rw [eg7_exerciseLots_60]
      unfold bg7_exerciseLots_60
      simp only [if_pos hlt, el, f2, e1, cnsucc]
      exact ⟨f1, g1, x1⟩
    · rw [eg12_doExercise_117]
      unfold bg12_doExercise_117
      simp only [if_pos hlt, el, ei, e2, i3, cntk (i := 4 * u + 3) (by omega), eh, cnsucc]
      exact ⟨g2, hi36, hi36, gh, x2⟩
    · rw [ev7_exerciseLots_60]
      unfold bv7_exerciseLots_60
      simp only [if_pos hlt, el, f2, e1, cnsucc]
      exact x3
    · rw [ev12_doExercise_117]
      unfold bv12_doExercise_117
      simp only [if_pos hlt, el, ei, e2, i3, cntk (i := 4 * u + 3) (by omega), eh, cnsucc]
      exact x4
theorem do_exer {e : Nat} {va vQ vd : Int32} (hfl : ¬ lg 4006 = cn 1) (he : e + 1 ≤ 2000) (hD : D ≤ 1000000) (H : WW p q (lgB lg e) 99 99 (fun _ => False) N T D 6 (fun _ => 0)) : g12_doExercise q va vQ vd ∧ DoE (lgB lg (e + 1)) q N T D 60 0 (kExer p va vQ vd) (g7_exerciseLots p va vQ vd) (v7_exerciseLots p va vQ vd) (v12_doExercise q va vQ vd) := by
  have hK := H.2.2.2.2.1
  have c10 : ¬ cn 1 = (0 : Int32) := by decide
  have c20 : ¬ cn 2 = (0 : Int32) := by decide
  have c30 : ¬ cn 3 = (0 : Int32) := by decide
  have gi := fun v a b => g_in q v a b
  obtain ⟨F, hF, hF2⟩ : ∃ F, FU = F ∧ 100 < F := ⟨FU, rfl, by decide⟩
  by_cases ha : isW va (cn 0) (cn 8) = 0
  · have kA : kExer p va vQ vd = 1 := by
      unfold kExer
      rw [if_pos ha]
    have ha' : v12_in q va (cn 0) (cn 8) = 0 := ha
    rw [kA]
    refine ⟨?_, fun h => absurd h (by decide), fun _ => ?_⟩
    · unfold g12_doExercise bg12_doExercise
      simp only [if_pos ha', t_1, if_neg c10]
      exact ⟨gi _ _ _, trivial⟩
    · unfold v12_doExercise bv12_doExercise
      simp only [if_pos ha', t_1, if_neg c10]
      all_goals rfl
  have ha' : ¬ v12_in q va (cn 0) (cn 8) = 0 := ha
  by_cases hQ : isW vQ (cn 1) (cn 99) = 0
  · have kA : kExer p va vQ vd = 2 := by
      unfold kExer
      rw [if_neg ha, if_pos hQ]
    have hQ' : v12_in q vQ (cn 1) (cn 99) = 0 := hQ
    rw [kA]
    refine ⟨?_, fun h => absurd h (by decide), fun _ => ?_⟩
    · unfold g12_doExercise bg12_doExercise
      simp only [if_neg ha', if_pos hQ', t_1, if_neg c20]
      exact ⟨gi _ _ _, gi _ _ _, trivial⟩
    · unfold v12_doExercise bv12_doExercise
      simp only [if_neg ha', if_pos hQ', t_1, if_neg c20]
      all_goals rfl
  have hQ' : ¬ v12_in q vQ (cn 1) (cn 99) = 0 := hQ
  by_cases hd : isW vd (cn 0) (cn 7874) = 0
  · have kA : kExer p va vQ vd = 2 := by
      unfold kExer
      rw [if_neg ha, if_neg hQ, if_pos hd]
    have hd' : v12_in q vd (cn 0) (cn 7874) = 0 := hd
    rw [kA]
    refine ⟨?_, fun h => absurd h (by decide), fun _ => ?_⟩
    · unfold g12_doExercise bg12_doExercise
      simp only [if_neg ha', if_neg hQ', if_pos hd', t_1, if_neg c20]
      exact ⟨gi _ _ _, gi _ _ _, gi _ _ _, trivial⟩
    · unfold v12_doExercise bv12_doExercise
      simp only [if_neg ha', if_neg hQ', if_pos hd', t_1, if_neg c20]
      all_goals rfl
  have hd' : ¬ v12_in q vd (cn 0) (cn 7874) = 0 := hd
  obtain ⟨a, a8, rfl⟩ := isW_n (b := 8) (by decide) ha
  obtain ⟨Q0, Q1, Q2, rfl⟩ := isW_z (a := 1) (b := 99) (by decide) (by decide) hQ
  obtain ⟨lot, l1, l2, rfl⟩ := isW_z (a := 0) (b := 7874) (by decide) (by decide) hd
  obtain ⟨Q, rfl⟩ : ∃ Q : Nat, Q0 = Q := ⟨Q0.toNat, by omega⟩
  have aa := account_e p (a := a) (by omega)
  have gaa := g_account p (a := a) (by omega)
  have hza : ¬ a + 1 = 0 := by omega
  have i3 : cn 4 * cn (a : Int) + cn 3 = cn ((4 * a + 3 : Nat) : Int) := idx4 (a := a) (c := 3)
  have hi36 := cninb (i := 4 * a + 3) (n := 36) (by omega) (by omega)
  have hh := holds_e p (a + 1) (c := 3) (by decide)
  have z3 : cn ((3 : Nat) : Int) = cn 3 := rfl
  have z0 : cn ((0 : Nat) : Int) = cn 0 := rfl
  rw [z3] at hh
  have hpos : p.1 13 (2 * (a + 1) - 1) 3 = q.1 13 1 (4 * a + 3) := (H.2.1.1 a (by omega)).1 3 (by omega)
  have kB : kExer p (cn a) (cn (Q : Int)) (cn lot) = if q.1 13 1 (4 * a + 3) < cn (Q : Int) then 3 else 0 := by
    unfold kExer
    rw [if_neg ha, if_neg hQ, if_neg hd, aa, hh, hpos]
  rw [kB]
  by_cases hs : q.1 13 1 (4 * a + 3) < cn (Q : Int)
  · rw [if_pos hs]
    refine ⟨?_, fun h => absurd h (by decide), fun _ => ?_⟩
    · unfold g12_doExercise bg12_doExercise
      simp only [if_neg ha', if_neg hQ', if_neg hd', i3, cntk (i := 4 * a + 3) (by omega), if_pos hs, t_1, if_neg c30]
      exact ⟨gi _ _ _, gi _ _ _, gi _ _ _, gi _ _ _, hi36, trivial⟩
    · unfold v12_doExercise bv12_doExercise
      simp only [if_neg ha', if_neg hQ', if_neg hd', i3, cntk (i := 4 * a + 3) (by omega), if_pos hs, t_1, if_neg c30]
      all_goals rfl
  rw [if_neg hs]
  have W0 := ww_th (cn 0) H
  generalize hQ0 : pI q 12 1 0 (cn 0) = q0 at W0
  have r13 : q0.1 13 = q.1 13 := by rw [← hQ0]; exact th_k (by decide)
  have r0 : q0.1 12 1 0 = 0 := by rw [← hQ0]; exact t_1
  have RQ0 : RS q0 40 = RS q 40 := by rw [← hQ0, RS_th]
  have hA := W0.2.1.1
  obtain ⟨d1, d2, d3⟩ := W0.2.2.2.2.2.1.2.2.2.2.2.2.2.2.2.2
  have hDq := W0.2.2.2.1.2.2.1
  have hb := d1 3 (by decide)
  rw [lgB_2 (by omega), hDq, cn_I ⟨by omega, by omega⟩] at hb
  have hx := xQ_acs (w := a) (u := -(Q : Int)) hA (by omega) (by omega) (by omega)
  have k1 : max (-(Q : Int)) (- -(Q : Int)) = (Q : Int) + ((0 : Nat) : Int) := by omega
  have k2 : -(Q : Int) = -((Q : Int) - ((0 : Nat) : Int)) := by omega
  rw [k1] at hx
  have hx' : AcS p (xC p a (-(Q : Int))) q0 (xQ q0 a (-(Q : Int))) ((Q : Int) + ((0 : Nat) : Int)) (cn (-((Q : Int) - ((0 : Nat) : Int)))) := by
    rw [← k2]
    exact hx
  obtain ⟨⟨x1, x2⟩, w', P', Q', x3, x4, x5⟩ := ex_lp (Q := Q) (by omega) (by omega) hK d2 (by omega) Q 0 F F _ _ (cn 0) lot (by omega) (by omega) (by omega) hx' l1 l2
  obtain ⟨W1, R1⟩ := acs_ww he W0 x5 (by omega) hfl
  rw [z0] at x1 x2 x3 x4
  have eneg : ∀ x : Int32, x - cn (Q : Int) = x + cn (-(Q : Int)) := fun x => by rw [Int32.sub_eq_add_neg, cnneg]
  have eC : v7_exerciseLots p (cn a) (cn (Q : Int)) (cn lot) = (w', P') ∧ g7_exerciseLots p (cn a) (cn (Q : Int)) (cn lot) := by
    obtain ⟨u1, u2⟩ := put_e p (A := a + 1) (c := 3) hza (by omega) (by decide) (p.1 13 (2 * (a + 1) - 1) 3 + cn (-(Q : Int)))
    rw [z3] at u1 u2
    have hh0 := holds_e (pI p 13 (2 * (a + 1) - 1) 3 (p.1 13 (2 * (a + 1) - 1) 3 + cn (-(Q : Int)))) (a + 1) (c := 0) (by decide)
    rw [z0, pI_1, u3_s (by decide)] at hh0
    obtain ⟨u3', u4⟩ := put_e (pI p 13 (2 * (a + 1) - 1) 3 (p.1 13 (2 * (a + 1) - 1) 3 + cn (-(Q : Int)))) (A := a + 1) (c := 0) hza (by omega) (by decide) (p.1 13 (2 * (a + 1) - 1) 0 + cn (Q : Int))
    rw [z0] at u3' u4
    have gh3 : g0_holds p (a + 1) (cn 3) := g_holds p (a := a) (c := 3) (by omega) (by decide)
    have gh0 : g0_holds (pI p 13 (2 * (a + 1) - 1) 3 (p.1 13 (2 * (a + 1) - 1) 3 + cn (-(Q : Int)))) (a + 1) (cn 0) := g_holds _ (a := a) (c := 0) (by omega) (by decide)
    have eQ : (cn (Q : Int)).toInt64 * cl 100 = cl ((Q : Int) * 100) := by rw [cn64 ⟨by omega, by omega⟩, clmul]
    have ecash : ∀ y : Int64, y - cl ((Q : Int) * 100) = y + cl (100 * -(Q : Int)) := fun y => by
      rw [Int64.sub_eq_add_neg, clneg]
      congr 2
      omega
    have exC : pJ (pI (pI p 13 (2 * (a + 1) - 1) 3 (p.1 13 (2 * (a + 1) - 1) 3 + cn (-(Q : Int)))) 13 (2 * (a + 1) - 1) 0 (p.1 13 (2 * (a + 1) - 1) 0 + cn (Q : Int))) 0 (a + 1) 4 (p.2.1 0 (a + 1) 4 + cl (100 * -(Q : Int))) = xC p a (-(Q : Int)) := by
      unfold xC
      rw [Int.neg_neg]
    have eJ : (pI (pI p 13 (2 * (a + 1) - 1) 3 (p.1 13 (2 * (a + 1) - 1) 3 + cn (-(Q : Int)))) 13 (2 * (a + 1) - 1) 0 (p.1 13 (2 * (a + 1) - 1) 0 + cn (Q : Int))).2.1 = p.2.1 := by rw [pI_J, pI_J]
    unfold v7_exerciseLots bv7_exerciseLots g7_exerciseLots bg7_exerciseLots
    simp only [aa, hh, eneg, u2, hh0, u4, eQ, eJ, ecash, exC, hF]
    exact ⟨x3, gaa, hza, gh3, hza, u1, hza, gh0, hza, u3', hza, hza, x1⟩
  have eV : v12_doExercise q (cn a) (cn (Q : Int)) (cn lot) = (w', Q') ∧ g12_doExercise q (cn a) (cn (Q : Int)) (cn lot) := by
    obtain ⟨gh, eh⟩ := holds_q (q := pI q0 13 1 (4 * a + 3) (q0.1 13 1 (4 * a + 3) + cn (-(Q : Int)))) (a := a) (b := 0) (by omega) (by decide) (cn (Q : Int)) (cn 100)
    have hx2 := h100 (q := q0) (w := a) (u := -(Q : Int)) (by omega) (by omega) (by omega)
    rw [Int.neg_neg] at hx2
    rw [z0] at gh eh
    rw [hx2] at eh
    unfold v12_doExercise bv12_doExercise g12_doExercise bg12_doExercise
    simp only [if_neg ha', if_neg hQ', if_neg hd', i3, cntk (i := 4 * a + 3) (by omega), if_neg hs, hQ0, if_pos r0, eneg, eh, hF]
    exact ⟨x4, gi _ _ _, gi _ _ _, gi _ _ _, gi _ _ _, hi36, hi36, hi36, gh, x2⟩
  refine ⟨eV.2, fun _ => ⟨eC.2, ?_, ?_⟩, fun h => absurd rfl h⟩
  · rw [eV.1]
    show Q'.1 12 1 0 = cn 0
    rw [x5.2.2.2.1 12 (by decide)]
    exact r0
  · rw [eC.1, eV.1]
    exact ⟨rfl, N, T, D, ⟨Nat.le_refl _, Nat.le_refl _⟩, ⟨Nat.le_refl _, Nat.le_refl _⟩, W1, by show (T : Int) + RS Q' 40 ≤ _; omega, by show (D : Int) + RS Q' 40 ≤ _; omega⟩
end Exer2
