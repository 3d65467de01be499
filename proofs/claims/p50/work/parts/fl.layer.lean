/-! a layer of several members -/
/-- a junior, as the reference tells it -/
def jnQ (q : PM) (best : Int32) (k : Nat) : Int32 := if q.1 15 10 k = 0 then cn 1 else if best < 0 then cn 0 else if q.1 13 39 k < q.1 13 39 best.toNatClampNeg - cn 100 then cn 1 else cn 0
/-- who bids most, as both tell it -/
def WnR (q : PM) (w best : Int32) : Prop := (w = cn (-100000) ∧ best = cn (-1) ∧ ∀ k, k < 4 → q.1 15 10 k = cn 0) ∨ ∃ j : Nat, j < 4 ∧ w = cn j ∧ best = cn j ∧ q.1 15 10 j = cn 1
/-- what is known of members here -/
def MeR (p q : PM) : Prop := ∀ k, k < 4 → p.1 9 (k + 1) 3 = q.1 15 9 k ∧ p.1 9 (k + 1) 4 = q.1 15 10 k ∧ b01 (q.1 15 10 k) ∧ (q.1 15 10 k = cn 1 → ∃ z : Int, -9999 ≤ z ∧ z ≤ 9999 ∧ p.1 9 (k + 1) 5 = cn z ∧ q.1 13 39 k = cn z)
section Layer
variable {p q : PM} {w best : Int32} {m : Nat}
theorem in_e5 {k : Nat} {lay : Int} (hk : k < 4) (hM : MeR p q) (hW : WnR q w best) (hl : lay = 5 ∨ lay = 6 ∨ lay = 7) : g2_givesIn p (cn lay) (k + 1) w ∧ v2_givesIn p (cn lay) (k + 1) w = (if q.1 15 9 k = 0 then (if lay = 7 then cn 1 else if jnQ q best k = (if lay = 5 then cn 1 else cn 0) then cn 1 else cn 0) else cn 0) := by
  obtain ⟨m1, m2, m3, m4⟩ := hM k hk
  have hz : ¬ k + 1 = 0 := by omega
  have e7 : (cn lay = cn 7) = (lay = 7) := cneq (by rcases hl with rfl | rfl | rfl <;> decide) (by decide)
  have e5 : (cn lay = cn 5) = (lay = 5) := cneq (by rcases hl with rfl | rfl | rfl <;> decide) (by decide)
  have t1 : (cn 1 = cn 1) = True := eq_true rfl
  have t2 : (cn 1 = cn 0) = False := eq_false (by decide)
  have t3 : (cn 0 = cn 1) = False := eq_false (by decide)
  have t4 : (cn 0 = cn 0) = True := eq_true rfl
  have g34 : g2_givesIn_34 p (cn lay) := by
    unfold g2_givesIn_34 bg2_givesIn_34
    repeat' first
      | exact trivial
      | split
  have v34 : v2_givesIn_34 p (cn lay) = if lay = 7 then cn 1 else if lay = 5 then cn 1 else cn 0 := by
    unfold v2_givesIn_34 bv2_givesIn_34
    simp only [e7, e5, t1, t2, if_true, if_false]
  unfold g2_givesIn bg2_givesIn v2_givesIn bv2_givesIn jnQ
  by_cases h9 : q.1 15 9 k = 0
  · have h9' : p.1 9 (k + 1) 3 = 0 := by rw [m1]; exact h9
    by_cases h10 : q.1 15 10 k = 0
    · have h10' : p.1 9 (k + 1) 4 = 0 := by rw [m2]; exact h10
      simp only [if_pos h9, if_pos h9', if_pos h10, if_pos h10', v34]
      refine ⟨⟨hz, hz, g34⟩, ?_⟩
      rcases hl with rfl | rfl | rfl
      · rfl
      · rfl
      · rfl
    · have h10' : ¬ p.1 9 (k + 1) 4 = 0 := by rw [m2]; exact h10
      have hb1 : q.1 15 10 k = cn 1 := b_ne m3 h10
      rcases hW with ⟨-, -, h⟩ | ⟨j, hj, rfl, rfl, hj1⟩
      · rw [h k hk] at hb1
        exact absurd hb1 (by decide)
      · obtain ⟨z, z1, z2, z3, z4⟩ := m4 hb1
        obtain ⟨y, y1, y2, y3, y4⟩ := (hM j hj).2.2.2 hj1
        have mj := member_e p hj
        have gj := g_member p hj
        have hzj : ¬ j + 1 = 0 := by omega
        have n0 : ¬ cn (j : Int) < 0 := cnge (by omega)
        have c1 : (cn 100 < cn y - cn z) = (100 < y - z) := by rw [cnsub, cnlt (by decide) ⟨by omega, by omega⟩]
        have c2 : (cn z < cn y - cn 100) = (z < y - 100) := by rw [cnsub, cnlt ⟨by omega, by omega⟩ ⟨by omega, by omega⟩]
        simp only [if_pos h9, if_pos h9', if_neg h10, if_neg h10', if_neg n0, mj, z3, z4, y3, y4, cntk (i := j) (by omega), c1, c2, v34, e7, e5, t1, t2, t3, t4, if_true, if_false]
        by_cases hd : 100 < y - z
        · simp only [if_pos hd, if_pos (show z < y - 100 by omega)]
          refine ⟨⟨hz, hz, gj, hzj, hz, g34⟩, ?_⟩
          rcases hl with rfl | rfl | rfl
          · rfl
          · rfl
          · rfl
        · simp only [if_neg hd, if_neg (show ¬ z < y - 100 by omega)]
          refine ⟨⟨hz, hz, gj, hzj, hz, ?_⟩, ?_⟩
          · repeat' first
              | exact trivial
              | split
          · rcases hl with rfl | rfl | rfl
            · rfl
            · rfl
            · rfl
  · have h9' : ¬ p.1 9 (k + 1) 3 = 0 := by rw [m1]; exact h9
    simp only [if_neg h9, if_neg h9']
    exact ⟨⟨hz, trivial⟩, trivial⟩
/-- the parts, in the class -/
def PtC (p p' : PM) : Prop := p'.1 = p.1 ∧ p'.2.2 = p.2.2 ∧ ∀ K i S, ¬ (K = 9 ∧ S = 7) → p'.2.1 K i S = p.2.1 K i S
def PtQ (q q' : PM) : Prop := q'.1 = q.1 ∧ q'.2.2 = q.2.2 ∧ ∀ K i S, ¬ (K = 14 ∧ i = 2) → q'.2.1 K i S = q.2.1 K i S
theorem parts_c {lay : Int} {v3 : Int32} {F : Nat} {P : Nat → Int} (hF : FU = F) (hv3 : b01 v3) (hM : MeR p q) (hW : WnR q w best) (hl : lay = 5 ∨ lay = 6 ∨ lay = 7) (hP : ∀ k, k < 4 → (if v2_givesIn p (cn lay) (k + 1) w = 0 then cl 0 else (if v3 = 0 then p.1 9 (k + 1) 2 else p.1 9 (k + 1) 6).toInt64) = cl (P k)) : ∀ (d i n : Nat) (p' : PM), i + d = 4 → d < n → PtC p p' → (∀ k, k < i → p'.2.1 9 (k + 1) 7 = cl (P k)) → ∃ P1 : PM, PtC p P1 ∧ (∀ k, k < 4 → P1.2.1 9 (k + 1) 7 = cl (P k)) ∧ v2_shareLayer_26 n p' (cn lay) w v3 (cn i) = v2_shareLayer_96 F (v2_shareLoss P1 (cn lay)) v3 (cn 0) ∧ (g2_shareLoss P1 (cn lay) → g2_shareLayer_96 F (v2_shareLoss P1 (cn lay)) v3 (cn 0) → g2_shareLayer_26 n p' (cn lay) w v3 (cn i)) := by
  intro d
  induction d with
  | zero =>
    intro i n p' h1 h2 hf hp
    obtain ⟨n1, rfl⟩ : ∃ z9, n = z9 + 1 := ⟨n - 1, by omega⟩
    have e : i = 4 := by omega
    subst e
    have hn := lpf (i := 4) (N := 4) (by omega) (by omega) (by omega)
    refine ⟨p', hf, hp, ?_, fun h3 h4 => ?_⟩
    · rw [ev2_shareLayer_26, hF]
      unfold bv2_shareLayer_26
      rw [if_neg hn]
    · rw [eg2_shareLayer_26, hF]
      unfold bg2_shareLayer_26
      rw [if_neg hn]
      exact ⟨h3, h4⟩
  | succ d ih =>
    intro i n p' h1 h2 hf hp
    obtain ⟨n1, rfl⟩ : ∃ z9, n = z9 + 1 := ⟨n - 1, by omega⟩
    obtain ⟨f1, f2, f3⟩ := hf
    have l4 : cn (i : Int) < cn 4 := lpt (by omega) (by omega)
    have hi := cninb (i := i) (n := 4) (by omega) (by omega)
    have hM' : MeR p' q := by
      intro k hk
      rw [f1]
      exact hM k hk
    obtain ⟨gi, ei⟩ := in_e5 (p := p') (k := i) (by omega) hM' hW hl
    obtain ⟨-, ei0⟩ := in_e5 (p := p) (k := i) (by omega) hM hW hl
    have eii : v2_givesIn p' (cn lay) (i + 1) w = v2_givesIn p (cn lay) (i + 1) w := by rw [ei, ei0]
    have hPi := hP i (by omega)
    have go := fun v => ih (i + 1) n1 (pJ p' 9 (i + 1) 7 v) (by omega) (by omega) ⟨f1, f2, fun K j S h => by
      rw [pJ_J, u3_ne (fun h2 => h ⟨h2.1, h2.2.2⟩)]
      exact f3 K j S h⟩
    have hv := fun v (hvv : v = cl (P i)) => go v (fun k hk => by
      by_cases ek : k = i
      · rw [ek, pJ_J, u3_same, hvv]
      · rw [pJ_J, u3_i (by omega)]
        exact hp k (by omega))
    by_cases hg : v2_givesIn p (cn lay) (i + 1) w = 0
    · rw [if_pos hg] at hPi
      have hg' : v2_givesIn p' (cn lay) (i + 1) w = 0 := by rw [eii]; exact hg
      obtain ⟨P1, k1, k2, k3, k4⟩ := hv (cl 0) hPi
      refine ⟨P1, k1, k2, ?_, fun h3 h4 => ?_⟩
      · rw [ev2_shareLayer_26]
        unfold bv2_shareLayer_26
        simp only [if_pos l4, cntk (i := i) (by omega), if_pos hg', ite_self, cnsucc]
        exact k3
      · rw [eg2_shareLayer_26]
        unfold bg2_shareLayer_26
        simp only [if_pos l4, cntk (i := i) (by omega), if_pos hg', cnsucc]
        refine ⟨hi, ?_⟩
        split
        · exact ⟨gi, k4 h3 h4⟩
        · exact ⟨gi, k4 h3 h4⟩
    · rw [if_neg hg] at hPi
      have hg' : ¬ v2_givesIn p' (cn lay) (i + 1) w = 0 := by rw [eii]; exact hg
      by_cases h3z : v3 = 0
      · rw [if_pos h3z] at hPi
        obtain ⟨P1, k1, k2, k3, k4⟩ := hv (p.1 9 (i + 1) 2).toInt64 hPi
        refine ⟨P1, k1, k2, ?_, fun h3 h4 => ?_⟩
        · rw [ev2_shareLayer_26]
          unfold bv2_shareLayer_26
          simp only [if_pos l4, cntk (i := i) (by omega), if_neg hg', if_pos h3z, f1, cnsucc]
          exact k3
        · rw [eg2_shareLayer_26]
          unfold bg2_shareLayer_26
          simp only [if_pos l4, cntk (i := i) (by omega), if_neg hg', if_pos h3z, f1, cnsucc]
          exact ⟨hi, gi, k4 h3 h4⟩
      · rw [if_neg h3z] at hPi
        obtain ⟨P1, k1, k2, k3, k4⟩ := hv (p.1 9 (i + 1) 6).toInt64 hPi
        refine ⟨P1, k1, k2, ?_, fun h3 h4 => ?_⟩
        · rw [ev2_shareLayer_26]
          unfold bv2_shareLayer_26
          simp only [if_pos l4, cntk (i := i) (by omega), if_neg hg', if_neg h3z, f1, cnsucc]
          exact k3
        · rw [eg2_shareLayer_26]
          unfold bg2_shareLayer_26
          simp only [if_pos l4, cntk (i := i) (by omega), if_neg hg', if_neg h3z, f1, cnsucc]
          exact ⟨hi, gi, k4 h3 h4⟩
/-- the parts, in the reference -/
theorem parts_q {v1 v3 : Int32} {F : Nat} {P : Nat → Int} (hF : FU = F) (hbest : best < 0 ∨ inb best 4) (hP : ∀ k, k < 4 → (if q.1 15 9 k = 0 then (if jnQ q best k = v3 then (q.1 13 38 k).toInt64 else cl 0) else cl 0) = cl (P k)) : ∀ (d i n : Nat) (q' : PM), i + d = 4 → d < n → PtQ q q' → (∀ k, k < i → q'.2.1 14 2 k = cl (P k)) → ∃ Q1 : PM, PtQ q Q1 ∧ (∀ k, k < 4 → Q1.2.1 14 2 k = cl (P k)) ∧ v12_coversByFunds_3 n q' v1 best v3 (cn i) = v12_coversByFunds_103 F (v12_shares Q1 (Q1.2.1 12 1 69)).2 v1 v3 (v12_shares Q1 (Q1.2.1 12 1 69)).1 (cn 0) ∧ (g12_shares Q1 (Q1.2.1 12 1 69) → g12_coversByFunds_103 F (v12_shares Q1 (Q1.2.1 12 1 69)).2 v1 v3 (v12_shares Q1 (Q1.2.1 12 1 69)).1 (cn 0) → g12_coversByFunds_3 n q' v1 best v3 (cn i)) := by
  intro d
  induction d with
  | zero =>
    intro i n q' h1 h2 hf hp
    obtain ⟨n1, rfl⟩ : ∃ z9, n = z9 + 1 := ⟨n - 1, by omega⟩
    have e : i = 4 := by omega
    subst e
    have hn := lpf (i := 4) (N := 4) (by omega) (by omega) (by omega)
    refine ⟨q', hf, hp, ?_, fun h3 h4 => ?_⟩
    · rw [ev12_coversByFunds_3, hF]
      unfold bv12_coversByFunds_3
      rw [if_neg hn]
    · rw [eg12_coversByFunds_3, hF]
      unfold bg12_coversByFunds_3
      rw [if_neg hn]
      exact ⟨h3, h4⟩
  | succ d ih =>
    intro i n q' h1 h2 hf hp
    obtain ⟨n1, rfl⟩ : ∃ z9, n = z9 + 1 := ⟨n - 1, by omega⟩
    obtain ⟨f1, f2, f3⟩ := hf
    have l4 : cn (i : Int) < cn 4 := lpt (by omega) (by omega)
    have hi := cninb (i := i) (n := 4) (by omega) (by omega)
    have hPi := hP i (by omega)
    have go := fun v => ih (i + 1) n1 (pJ q' 14 2 i v) (by omega) (by omega) ⟨f1, f2, fun K j S h => by
      rw [pJ_J, u3_ne (fun h2 => h ⟨h2.1, h2.2.1⟩)]
      exact f3 K j S h⟩
    have hv := fun v (hvv : v = cl (P i)) => go v (fun k hk => by
      by_cases ek : k = i
      · rw [ek, pJ_J, u3_same, hvv]
      · rw [pJ_J, u3_s ek]
        exact hp k (by omega))
    rw [ev12_coversByFunds_3, eg12_coversByFunds_3]
    unfold bv12_coversByFunds_3 bg12_coversByFunds_3
    unfold jnQ at hPi
    have c1v : ∀ a b : Int32, (a = b) = (a = b) := fun _ _ => rfl
    by_cases h9 : q.1 15 9 i = 0
    · rw [if_pos h9] at hPi
      by_cases h10 : q.1 15 10 i = 0
      · rw [if_pos h10] at hPi
        by_cases hv1 : cn 1 = v3
        · rw [if_pos hv1] at hPi
          obtain ⟨Q1, k1, k2, k3, k4⟩ := hv _ hPi
          refine ⟨Q1, k1, k2, ?_, fun h3 h4 => ?_⟩
          · simp only [if_pos l4, cntk (i := i) (by omega), f1, if_pos h9, if_pos h10, if_pos hv1, cnsucc]
            exact k3
          · simp only [if_pos l4, cntk (i := i) (by omega), f1, if_pos h9, if_pos h10, if_pos hv1, cnsucc]
            exact ⟨hi, hi, hi, hi, k4 h3 h4⟩
        · rw [if_neg hv1] at hPi
          obtain ⟨Q1, k1, k2, k3, k4⟩ := hv _ hPi
          refine ⟨Q1, k1, k2, ?_, fun h3 h4 => ?_⟩
          · simp only [if_pos l4, cntk (i := i) (by omega), f1, if_pos h9, if_pos h10, if_neg hv1, cnsucc]
            exact k3
          · simp only [if_pos l4, cntk (i := i) (by omega), f1, if_pos h9, if_pos h10, if_neg hv1, cnsucc]
            exact ⟨hi, hi, hi, k4 h3 h4⟩
      · rw [if_neg h10] at hPi
        by_cases hb : best < 0
        · rw [if_pos hb] at hPi
          by_cases hv1 : cn 0 = v3
          · rw [if_pos hv1] at hPi
            obtain ⟨Q1, k1, k2, k3, k4⟩ := hv _ hPi
            refine ⟨Q1, k1, k2, ?_, fun h3 h4 => ?_⟩
            · simp only [if_pos l4, cntk (i := i) (by omega), f1, if_pos h9, if_neg h10, if_pos hb, if_pos hv1, cnsucc]
              exact k3
            · simp only [if_pos l4, cntk (i := i) (by omega), f1, if_pos h9, if_neg h10, if_pos hb, if_pos hv1, cnsucc]
              exact ⟨hi, hi, hi, hi, k4 h3 h4⟩
          · rw [if_neg hv1] at hPi
            obtain ⟨Q1, k1, k2, k3, k4⟩ := hv _ hPi
            refine ⟨Q1, k1, k2, ?_, fun h3 h4 => ?_⟩
            · simp only [if_pos l4, cntk (i := i) (by omega), f1, if_pos h9, if_neg h10, if_pos hb, if_neg hv1, cnsucc]
              exact k3
            · simp only [if_pos l4, cntk (i := i) (by omega), f1, if_pos h9, if_neg h10, if_pos hb, if_neg hv1, cnsucc]
              exact ⟨hi, hi, hi, k4 h3 h4⟩
        · rw [if_neg hb] at hPi
          have hb4 : inb best 4 := by
            rcases hbest with h | h
            · exact absurd h hb
            · exact h
          by_cases hlt : q.1 13 39 i < q.1 13 39 best.toNatClampNeg - cn 100
          · rw [if_pos hlt] at hPi
            by_cases hv1 : cn 1 = v3
            · rw [if_pos hv1] at hPi
              obtain ⟨Q1, k1, k2, k3, k4⟩ := hv _ hPi
              refine ⟨Q1, k1, k2, ?_, fun h3 h4 => ?_⟩
              · simp only [if_pos l4, cntk (i := i) (by omega), f1, if_pos h9, if_neg h10, if_neg hb, if_pos hlt, if_pos hv1, cnsucc]
                exact k3
              · simp only [if_pos l4, cntk (i := i) (by omega), f1, if_pos h9, if_neg h10, if_neg hb, if_pos hlt, if_pos hv1, cnsucc]
                exact ⟨hi, hi, hb4, hi, hi, hi, k4 h3 h4⟩
            · rw [if_neg hv1] at hPi
              obtain ⟨Q1, k1, k2, k3, k4⟩ := hv _ hPi
              refine ⟨Q1, k1, k2, ?_, fun h3 h4 => ?_⟩
              · simp only [if_pos l4, cntk (i := i) (by omega), f1, if_pos h9, if_neg h10, if_neg hb, if_pos hlt, if_neg hv1, cnsucc]
                exact k3
              · simp only [if_pos l4, cntk (i := i) (by omega), f1, if_pos h9, if_neg h10, if_neg hb, if_pos hlt, if_neg hv1, cnsucc]
                exact ⟨hi, hi, hb4, hi, hi, k4 h3 h4⟩
          · rw [if_neg hlt] at hPi
            by_cases hv1 : cn 0 = v3
            · rw [if_pos hv1] at hPi
              obtain ⟨Q1, k1, k2, k3, k4⟩ := hv _ hPi
              refine ⟨Q1, k1, k2, ?_, fun h3 h4 => ?_⟩
              · simp only [if_pos l4, cntk (i := i) (by omega), f1, if_pos h9, if_neg h10, if_neg hb, if_neg hlt, if_pos hv1, cnsucc]
                exact k3
              · simp only [if_pos l4, cntk (i := i) (by omega), f1, if_pos h9, if_neg h10, if_neg hb, if_neg hlt, if_pos hv1, cnsucc]
                exact ⟨hi, hi, hb4, hi, hi, hi, k4 h3 h4⟩
            · rw [if_neg hv1] at hPi
              obtain ⟨Q1, k1, k2, k3, k4⟩ := hv _ hPi
              refine ⟨Q1, k1, k2, ?_, fun h3 h4 => ?_⟩
              · simp only [if_pos l4, cntk (i := i) (by omega), f1, if_pos h9, if_neg h10, if_neg hb, if_neg hlt, if_neg hv1, cnsucc]
                exact k3
              · simp only [if_pos l4, cntk (i := i) (by omega), f1, if_pos h9, if_neg h10, if_neg hb, if_neg hlt, if_neg hv1, cnsucc]
                exact ⟨hi, hi, hb4, hi, hi, k4 h3 h4⟩
    · rw [if_neg h9] at hPi
      obtain ⟨Q1, k1, k2, k3, k4⟩ := hv _ hPi
      refine ⟨Q1, k1, k2, ?_, fun h3 h4 => ?_⟩
      · simp only [if_pos l4, cntk (i := i) (by omega), f1, if_neg h9, ite_self, cnsucc]
        exact k3
      · by_cases h10 : q.1 15 10 i = 0
        · simp only [if_pos l4, cntk (i := i) (by omega), f1, if_neg h9, if_pos h10, cnsucc]
          exact ⟨hi, hi, hi, k4 h3 h4⟩
        · by_cases hb : best < 0
          · simp only [if_pos l4, cntk (i := i) (by omega), f1, if_neg h9, if_neg h10, if_pos hb, cnsucc]
            exact ⟨hi, hi, hi, k4 h3 h4⟩
          · have hb4 : inb best 4 := by
              rcases hbest with h | h
              · exact absurd h hb
              · exact h
            simp only [if_pos l4, cntk (i := i) (by omega), f1, if_neg h9, if_neg h10, if_neg hb, cnsucc]
            refine ⟨hi, hi, hb4, ?_⟩
            split
            · exact ⟨hi, hi, k4 h3 h4⟩
            · exact ⟨hi, hi, k4 h3 h4⟩
end Layer
