/-! four fall together: the class gives the fourth its turn first -/
/-- a step of an iceberg that shows anew, or none -/
def sU (q : PM) (o : Nat) (c : Bool) (m : Int32) (t : Nat) : PM := if c = true then sW q o m (cn t) else q
def nT (c : Bool) (t : Nat) : Nat := if c = true then t + 1 else t
section ST
variable {q : PM} {o t : Nat} {c : Bool} {m : Int32}
theorem sU_22 (i : Nat) : (sU q o c m t).1 13 22 i = if c = true ∧ i = o then m else q.1 13 22 i := by
  unfold sU
  by_cases h : c = true
  · rw [if_pos h]
    unfold sW
    rw [pI_1, u3_k (by decide), pI_1, u3_i (by decide), pI_1]
    by_cases e : i = o
    · rw [e, u3_same, if_pos ⟨h, rfl⟩]
    · rw [u3_s e, if_neg fun h9 => e h9.2]
  · rw [if_neg h, if_neg fun h9 => h h9.1]
theorem sU_23 (i : Nat) : (sU q o c m t).1 13 23 i = if c = true ∧ i = o then cn t else q.1 13 23 i := by
  unfold sU
  by_cases h : c = true
  · rw [if_pos h]
    unfold sW
    rw [pI_1, u3_k (by decide), pI_1]
    by_cases e : i = o
    · rw [e, u3_same, if_pos ⟨h, rfl⟩]
    · rw [u3_s e, pI_1, u3_i (by decide), if_neg fun h9 => e h9.2]
  · rw [if_neg h, if_neg fun h9 => h h9.1]
theorem sU_40 (h40 : q.1 12 1 40 = cn t) : (sU q o c m t).1 12 1 40 = cn (nT c t) := by
  unfold sU nT
  by_cases h : c = true
  · rw [if_pos h, if_pos h]
    unfold sW
    rw [pI_at, cnsucc]
  · rw [if_neg h, if_neg h]
    exact h40
theorem sU_o {k i s : Nat} (h1 : ¬ (k = 13 ∧ i = 22)) (h2 : ¬ (k = 13 ∧ i = 23)) (h3 : ¬ (k = 12 ∧ i = 1 ∧ s = 40)) : (sU q o c m t).1 k i s = q.1 k i s := by
  unfold sU
  split
  · unfold sW
    rw [pI_1, pI_1, pI_1]
    unfold u3
    rw [if_neg (by omega), if_neg (by omega), if_neg (by omega)]
  · rfl
theorem sU_2 : (sU q o c m t).2 = q.2 := by
  unfold sU
  split <;> rfl
end ST
/-- which one it is, told once for all -/
def SH (q0 q : PM) (S : Nat → Prop) : Prop := ∀ i, ¬ S i → q.1 15 3 i = q0.1 15 3 i ∧ q.1 13 19 i = q0.1 13 19 i ∧ q.1 13 22 i = q0.1 13 22 i ∧ q.1 13 21 i = q0.1 13 21 i ∧ q.1 13 17 i = q0.1 13 17 i
theorem sQ_sU {q0 q : PM} {S : Nat → Prop} {o t : Nat} {c : Bool} (ho : o ≤ 2147483647) (hS : SH q0 q S) (hn : ¬ S o) (hc : (c = true) = cS q0 o) (h40 : q.1 12 1 40 = cn t) : sQ q o = sU q o c (mS q0 o) t ∧ SH q0 (sU q o c (mS q0 o) t) (fun i => S i ∨ i = o) := by
  obtain ⟨s1, s2, s3, s4, s5⟩ := hS o hn
  have e : cS q o = cS q0 o := by
    unfold cS
    rw [s1, s2, s3]
  have em : mS q o = mS q0 o := by
    unfold mS
    rw [s4, s5]
  refine ⟨?_, fun i hi => ?_⟩
  · unfold sU
    by_cases h : c = true
    · rw [if_pos h, sQ_p ho (by rw [e, ← hc]; exact h), em, h40]
    · rw [if_neg h, sQ_n (by rw [e, ← hc]; exact h)]
  · obtain ⟨u1, u2, u3', u4, u5⟩ := hS i fun h => hi (Or.inl h)
    refine ⟨(sU_o (by omega) (by omega) (by omega)).trans u1, (sU_o (by omega) (by omega) (by omega)).trans u2, ?_, (sU_o (by omega) (by omega) (by omega)).trans u4, (sU_o (by omega) (by omega) (by omega)).trans u5⟩
    rw [sU_22, if_neg fun h => hi (Or.inr h.2)]
    exact u3'
theorem sh4 {q : PM} {a b c d t : Nat} {ca cb cc cd : Bool} (ha : a < 40) (hb : b < 40) (hc : c < 40) (hd : d < 40) (h1 : ¬ b = a) (h2 : ¬ c = a) (h3 : ¬ c = b) (h4 : ¬ d = a) (h5 : ¬ d = b) (h6 : ¬ d = c) (ea : (ca = true) = cS q a) (eb : (cb = true) = cS q b) (ec : (cc = true) = cS q c) (ed : (cd = true) = cS q d) (h40 : q.1 12 1 40 = cn t) : sQ (sQ (sQ (sQ q a) b) c) d = sU (sU (sU (sU q a ca (mS q a) t) b cb (mS q b) (nT ca t)) c cc (mS q c) (nT cb (nT ca t))) d cd (mS q d) (nT cc (nT cb (nT ca t))) ∧ (sU (sU (sU (sU q a ca (mS q a) t) b cb (mS q b) (nT ca t)) c cc (mS q c) (nT cb (nT ca t))) d cd (mS q d) (nT cc (nT cb (nT ca t)))).1 12 1 40 = cn (nT cd (nT cc (nT cb (nT ca t)))) := by
  obtain ⟨k1, s1⟩ := sQ_sU (q0 := q) (q := q) (S := fun _ => False) (o := a) (t := t) (c := ca) (by omega) (fun i _ => ⟨rfl, rfl, rfl, rfl, rfl⟩) (fun h => h) ea h40
  have t1 := sU_40 (q := q) (o := a) (c := ca) (m := mS q a) h40
  obtain ⟨k2, s2⟩ := sQ_sU (o := b) (c := cb) (by omega) s1 (fun h => by rcases h with h | h; exact h; exact h1 h) eb t1
  have t2 := sU_40 (o := b) (c := cb) (m := mS q b) t1
  obtain ⟨k3, s3⟩ := sQ_sU (o := c) (c := cc) (by omega) s2 (fun h => by
    rcases h with (h | h) | h
    · exact h
    · exact h2 h
    · exact h3 h) ec t2
  have t3 := sU_40 (o := c) (c := cc) (m := mS q c) t2
  obtain ⟨k4, s4⟩ := sQ_sU (o := d) (c := cd) (by omega) s3 (fun h => by
    rcases h with ((h | h) | h) | h
    · exact h
    · exact h4 h
    · exact h5 h
    · exact h6 h) ed t3
  have t4 := sU_40 (o := d) (c := cd) (m := mS q d) t3
  rw [k1, k2, k3, k4]
  exact ⟨rfl, t4⟩
theorem nT_le (c : Bool) (t : Nat) : t ≤ nT c t ∧ nT c t ≤ t + 1 ∧ (c = true → nT c t = t + 1) := by
  unfold nT
  split
  · exact ⟨by omega, by omega, fun _ => rfl⟩
  · rename_i h
    exact ⟨by omega, by omega, fun h9 => absurd h9 h⟩
/-- the two orders of showing: what they leave differs in turns alone -/
theorem sw4 {q : PM} {x w y z t : Nat} (hx : x < 40) (hw : w < 40) (hy : y < 40) (hz : z < 40) (h1 : ¬ w = x) (h2 : ¬ y = x) (h3 : ¬ y = w) (h4 : ¬ z = x) (h5 : ¬ z = w) (h6 : ¬ z = y) (h40 : q.1 12 1 40 = cn t) : (∀ k i s, ¬ (k = 13 ∧ i = 23) → (sQ (sQ (sQ (sQ q x) w) y) z).1 k i s = (sQ (sQ (sQ (sQ q z) x) w) y).1 k i s) ∧ (sQ (sQ (sQ (sQ q x) w) y) z).2 = (sQ (sQ (sQ (sQ q z) x) w) y).2 ∧ (∀ i, ¬ i = x → ¬ i = w → ¬ i = y → ¬ i = z → (sQ (sQ (sQ (sQ q x) w) y) z).1 13 23 i = q.1 13 23 i ∧ (sQ (sQ (sQ (sQ q z) x) w) y).1 13 23 i = q.1 13 23 i) ∧ ∃ t2 : Nat, (sQ (sQ (sQ (sQ q z) x) w) y).1 12 1 40 = cn t2 ∧ t2 ≤ t + 4 ∧ ∀ i, (i = x ∨ i = w ∨ i = y ∨ i = z) → (((sQ (sQ (sQ (sQ q x) w) y) z).1 13 23 i = q.1 13 23 i ∧ (sQ (sQ (sQ (sQ q z) x) w) y).1 13 23 i = q.1 13 23 i) ∨ ∃ u u' : Nat, t ≤ u ∧ u < t2 ∧ t ≤ u' ∧ u' < t2 ∧ (sQ (sQ (sQ (sQ q x) w) y) z).1 13 23 i = cn u ∧ (sQ (sQ (sQ (sQ q z) x) w) y).1 13 23 i = cn u') := by
  obtain ⟨cx, ex⟩ : ∃ c : Bool, (c = true) = cS q x := by
    by_cases h : cS q x
    · exact ⟨true, propext ⟨fun _ => h, fun _ => rfl⟩⟩
    · exact ⟨false, propext ⟨fun h9 => absurd h9 (by decide), fun h9 => absurd h9 h⟩⟩
  obtain ⟨cw, ew⟩ : ∃ c : Bool, (c = true) = cS q w := by
    by_cases h : cS q w
    · exact ⟨true, propext ⟨fun _ => h, fun _ => rfl⟩⟩
    · exact ⟨false, propext ⟨fun h9 => absurd h9 (by decide), fun h9 => absurd h9 h⟩⟩
  obtain ⟨cy, ey⟩ : ∃ c : Bool, (c = true) = cS q y := by
    by_cases h : cS q y
    · exact ⟨true, propext ⟨fun _ => h, fun _ => rfl⟩⟩
    · exact ⟨false, propext ⟨fun h9 => absurd h9 (by decide), fun h9 => absurd h9 h⟩⟩
  obtain ⟨cz, ez⟩ : ∃ c : Bool, (c = true) = cS q z := by
    by_cases h : cS q z
    · exact ⟨true, propext ⟨fun _ => h, fun _ => rfl⟩⟩
    · exact ⟨false, propext ⟨fun h9 => absurd h9 (by decide), fun h9 => absurd h9 h⟩⟩
  obtain ⟨B, B40⟩ := sh4 hx hw hy hz h1 h2 h3 h4 h5 h6 ex ew ey ez h40
  obtain ⟨A, A40⟩ := sh4 hz hx hw hy (fun h => h4 h.symm) (fun h => h5 h.symm) h1 (fun h => h6 h.symm) h2 h3 ez ex ew ey h40
  rw [A, B]
  have tz := nT_le cz
  have tx := nT_le cx
  have tw := nT_le cw
  have ty := nT_le cy
  have et : nT cz (nT cy (nT cw (nT cx t))) = nT cy (nT cw (nT cx (nT cz t))) := by
    unfold nT
    split <;> split <;> split <;> split <;> omega
  refine ⟨fun k i s hk => ?_, by simp only [sU_2], fun i n1 n2 n3 n4 => ?_, nT cy (nT cw (nT cx (nT cz t))), A40, ?_, fun i hi => ?_⟩
  · by_cases e : k = 13 ∧ i = 22
    · rw [e.1, e.2]
      simp only [sU_22]
      by_cases e1 : s = x
      · rw [e1]
        simp only [show ¬ x = w from fun h => h1 h.symm, show ¬ x = y from fun h => h2 h.symm, show ¬ x = z from fun h => h4 h.symm, and_false, if_false]
      · by_cases e2 : s = w
        · rw [e2]
          simp only [h1, show ¬ w = y from fun h => h3 h.symm, show ¬ w = z from fun h => h5 h.symm, and_false, if_false]
        · by_cases e3 : s = y
          · rw [e3]
            simp only [h2, h3, show ¬ y = z from fun h => h6 h.symm, and_false, if_false]
          · simp only [e1, e2, e3, and_false, if_false]
    · by_cases e2 : k = 12 ∧ i = 1 ∧ s = 40
      · rw [e2.1, e2.2.1, e2.2.2, A40, B40, et]
      · rw [sU_o e hk e2, sU_o e hk e2, sU_o e hk e2, sU_o e hk e2, sU_o e hk e2, sU_o e hk e2, sU_o e hk e2, sU_o e hk e2]
  · simp only [sU_23, n1, n2, n3, n4, and_false, if_false, and_self]
  · have a1 := tz t
    have a2 := tx (nT cz t)
    have a3 := tw (nT cx (nT cz t))
    have a4 := ty (nT cw (nT cx (nT cz t)))
    omega
  · have a1 := tz t
    have a2 := tx (nT cz t)
    have a3 := tw (nT cx (nT cz t))
    have a4 := ty (nT cw (nT cx (nT cz t)))
    have b1 := tx t
    have b2 := tw (nT cx t)
    have b3 := ty (nT cw (nT cx t))
    have b4 := tz (nT cy (nT cw (nT cx t)))
    rw [← et]
    rw [← et] at a4
    simp only [sU_23]
    rcases hi with rfl | rfl | rfl | rfl
    · simp only [show ¬ i = w from fun h => h1 h.symm, show ¬ i = y from fun h => h2 h.symm, show ¬ i = z from fun h => h4 h.symm, and_false, if_false, and_true]
      by_cases h : cx = true
      · have := a2.2.2 h
        have := b1.2.2 h
        simp only [if_pos h]
        exact Or.inr ⟨_, _, by omega, by omega, by omega, by omega, rfl, rfl⟩
      · simp only [if_neg h]
        exact Or.inl ⟨trivial, trivial⟩
    · simp only [h1, show ¬ i = y from fun h => h3 h.symm, show ¬ i = z from fun h => h5 h.symm, and_false, if_false, and_true]
      by_cases h : cw = true
      · have := a3.2.2 h
        have := b2.2.2 h
        simp only [if_pos h]
        exact Or.inr ⟨_, _, by omega, by omega, by omega, by omega, rfl, rfl⟩
      · simp only [if_neg h]
        exact Or.inl ⟨trivial, trivial⟩
    · simp only [h2, h3, show ¬ i = z from fun h => h6 h.symm, and_false, if_false, and_true]
      by_cases h : cy = true
      · have := a4.2.2 h
        have := b3.2.2 h
        simp only [if_pos h]
        exact Or.inr ⟨_, _, by omega, by omega, by omega, by omega, rfl, rfl⟩
      · simp only [if_neg h]
        exact Or.inl ⟨trivial, trivial⟩
    · simp only [h4, h5, h6, and_false, if_false, and_true]
      by_cases h : cz = true
      · have := a1.2.2 h
        have := b4.2.2 h
        simp only [if_pos h]
        exact Or.inr ⟨_, _, by omega, by omega, by omega, by omega, rfl, rfl⟩
      · simp only [if_neg h]
        exact Or.inl ⟨trivial, trivial⟩
/-- turns alone are another -/
theorem ww_turns {p q q' : PM} {lg : Nat → Int32} {x y N T D l : Nat} {w : Nat → Prop} {f : Nat → Int} (H : WW p q lg x y w N T D l f) (h1 : ∀ k i s, ¬ (k = 13 ∧ i = 23) → q'.1 k i s = q.1 k i s) (h2 : q'.2 = q.2) (hT : TR p q' T) : WW p q' lg x y w N T D l f := by
  have e15 : q'.1 15 = q.1 15 := by
    funext i s
    exact h1 15 i s (by omega)
  have e12 : q'.1 12 = q.1 12 := by
    funext i s
    exact h1 12 i s (by omega)
  have e13 : ∀ K, ¬ K = 23 → q'.1 13 K = q.1 13 K := by
    intro K h
    funext s
    exact h1 13 K s (by omega)
  obtain ⟨⟨hO, hN, -, hQ⟩, hA, hB, hD, hK, hI0, ⟨i1, i2, i3, i4⟩, hF⟩ := H
  refine ⟨⟨⟨fun i hi => ?_, fun i h3 h4 => by rw [e15]; exact hO.2 i h3 h4⟩, ?_, hT, ?_⟩, ?_, ?_, ?_, hK, ?_, ?_, ?_⟩
  · exact slot_congr (fun _ => rfl) (fun _ => rfl) (fun K k1 k2 k3 => by rw [e13 K k3]) (fun K _ _ => by rw [e15]) rfl (hO.1 i hi)
  · unfold NR at hN ⊢
    rw [e15, e13 14 (by decide), e12]
    exact hN
  · unfold QU at hQ ⊢
    rw [e15, e13 19 (by decide), e13 15 (by decide), e13 16 (by decide)]
    exact hQ
  · exact af_c rfl (fun _ _ => rfl) rfl (e13 1 (by decide)) (e13 2 (by decide)) (e13 3 (by decide)) (e13 4 (by decide)) (e13 5 (by decide)) (by rw [e15]) (by rw [h2]) hA
  · exact brl_c rfl (fun i k1 k2 => e13 i (by omega)) (by rw [e15]) hB
  · exact dr_c rfl rfl rfl (fun i k1 k2 => e13 i (by omega)) (by rw [e15]) (by rw [e15]) (by rw [e12]) hD
  · exact ot_c rfl (fun _ _ => rfl) rfl rfl rfl (fun i k1 k2 => e13 i (by omega)) (by rw [e15]) (by rw [e15]) (fun i _ => by rw [e12]) hI0 (pd_c (e13 1 (by decide)) (by rw [e12]) (by rw [h2]) hI0)
  · have hs : ∀ i, stnd q' i = stnd q i := fun i => by
      unfold stnd
      rw [e15, e13 24 (by decide)]
    refine ⟨fun i hi => ?_, fun i hi hw => ?_, fun i t hi => ?_, fun b hb => ?_⟩
    · rw [hs, e15, e13 16 (by decide), e13 12 (by decide)]
      exact i1 i hi
    · rw [hs, e13 16 (by decide), e13 19 (by decide), e13 22 (by decide)]
      exact i2 i hi hw
    · rw [e15, e13 19 (by decide), e13 24 (by decide), e13 28 (by decide), e13 30 (by decide), e13 16 (by decide)]
      exact i3 i t hi
    · rw [e13 12 (by decide), e12]
      exact i4 b hb
  · exact fb_c (by rw [e15]) (e13 17 (by decide)) (e13 4 (by decide)) (by rw [e12]) hF
section Core4
variable {p q : PM} {lg : Nat → Int32} {N T D l : Nat} {n : Int}
theorem core4 {x ax bx w aw bw y ay bY z az bz : Nat} (H : WW p q lg 99 99 (fun _ => False) N T D l (fun _ => 0)) (h1 : 1 ≤ n) (hx : Rdy p q n x ax bx) (hw : Rdy p q n w aw bw) (hy : Rdy p q n y ay bY) (hz : Rdy p q n z az bz) (d1 : ¬ w = x) (d2 : ¬ y = x) (d3 : ¬ y = w) (d4 : ¬ z = x) (d5 : ¬ z = w) (d6 : ¬ z = y) (hbk : q.1 13 16 x = cn 4 ∧ q.1 13 16 w = cn 5 ∧ q.1 13 16 y = cn 0 ∧ q.1 13 16 z = cn 2) (hT : T + 4 ≤ 1000000000) : (g3_fallTogether p (x + 1) (w + 1) (y + 1) (z + 1) (cn n) ∧ (g12_falls1 q (cn x) (cn n) ∧ g12_falls1 (v12_falls1 q (cn x) (cn n)) (cn w) (cn n) ∧ g12_falls1 (v12_falls1 (v12_falls1 q (cn x) (cn n)) (cn w) (cn n)) (cn y) (cn n) ∧ g12_falls1 (v12_falls1 (v12_falls1 (v12_falls1 q (cn x) (cn n)) (cn w) (cn n)) (cn y) (cn n)) (cn z) (cn n) ∧ gdH [x, w, y, z] (v12_falls1 (v12_falls1 (v12_falls1 (v12_falls1 q (cn x) (cn n)) (cn w) (cn n)) (cn y) (cn n)) (cn z) (cn n)))) ∧ ∃ T2, T ≤ T2 ∧ T2 ≤ T + 4 ∧ WW (v3_fallTogether p (x + 1) (w + 1) (y + 1) (z + 1) (cn n)) (gdQ [x, w, y, z] (v12_falls1 (v12_falls1 (v12_falls1 (v12_falls1 q (cn x) (cn n)) (cn w) (cn n)) (cn y) (cn n)) (cn z) (cn n))) lg 99 99 (fun _ => False) N T2 D l (fun _ => 0) ∧ RS (gdQ [x, w, y, z] (v12_falls1 (v12_falls1 (v12_falls1 (v12_falls1 q (cn x) (cn n)) (cn w) (cn n)) (cn y) (cn n)) (cn z) (cn n))) 40 ≤ RS q 40 - n - n - n - n := by
  have x40 := hx.1
  have w40 := hw.1
  have y40 := hy.1
  have z40 := hz.1
  have hx0 : ¬ x + 1 = 0 := by omega
  have hw0 : ¬ w + 1 = 0 := by omega
  have hy0 : ¬ y + 1 = 0 := by omega
  have hz0 : ¬ z + 1 = 0 := by omega
  -- they fall
  obtain ⟨⟨a1, a2⟩, Wa, Ra, ra, a3, a4, a5, a6, a7, a8, -, -⟩ := fall_step H h1 hx
  have hwa := ra w aw bw d1 hw
  have hya := ra y ay bY d2 hy
  have hza := ra z az bz d4 hz
  generalize hpa : v10_fall p (x + 1) (cn n) = pa at a1 Wa ra a3 a4 a5 hwa hya hza
  generalize hqa : v12_falls q (cn x) (cn n) (cn 1) = qa at Wa Ra ra a6 a7 a8 hwa hya hza
  obtain ⟨⟨b1, b2⟩, Wb, Rb, rb, b3, b4, b5, b6, b7, b8, -, -⟩ := fall_step Wa h1 hwa
  have hyb := rb y ay bY d3 hya
  have hzb := rb z az bz d5 hza
  generalize hpb : v10_fall pa (w + 1) (cn n) = pb at b1 Wb rb b3 b4 b5 hyb hzb
  generalize hqb : v12_falls qa (cn w) (cn n) (cn 1) = qb at Wb Rb rb b6 b7 b8 hyb hzb
  obtain ⟨⟨c1, c2⟩, Wc, Rc, rc, c3, c4, c5, c6, c7, c8, -, -⟩ := fall_step Wb h1 hyb
  have hzc := rc z az bz d6 hzb
  generalize hpc : v10_fall pb (y + 1) (cn n) = pc at c1 Wc rc c3 c4 c5 hzc
  generalize hqc : v12_falls qb (cn y) (cn n) (cn 1) = qc at Wc Rc rc c6 c7 c8 hzc
  obtain ⟨⟨e1, e2⟩, We, Re, re, e3, e4, e5, e6, e7, e8, -, -⟩ := fall_step Wc h1 hzc
  generalize hpe : v10_fall pc (z + 1) (cn n) = pe at e1 We e3 e4 e5
  generalize hqe : v12_falls qc (cn z) (cn n) (cn 1) = qe at We Re e6 e7 e8
  clear re rc rb ra
  -- kinds and owners
  obtain ⟨-, kx1, kx2, kx3, kx4⟩ := rdy_k hx
  obtain ⟨-, kw1, kw2, kw3, kw4⟩ := rdy_k hw
  obtain ⟨-, ky1, ky2, ky3, ky4⟩ := rdy_k hy
  obtain ⟨-, kz1, kz2, kz3, kz4⟩ := rdy_k hz
  have kb : ∀ K i, ¬ K = 4 → ¬ K = 17 → ¬ K = 22 → qb.1 13 K i = q.1 13 K i := fun K i n1 n2 n3 => by rw [b6 K i n1 n2 n3, a6 K i n1 n2 n3]
  have kc : ∀ K i, ¬ K = 4 → ¬ K = 17 → ¬ K = 22 → qc.1 13 K i = q.1 13 K i := fun K i n1 n2 n3 => by rw [c6 K i n1 n2 n3, kb K i n1 n2 n3]
  have ke : ∀ K i, ¬ K = 4 → ¬ K = 17 → ¬ K = 22 → qe.1 13 K i = q.1 13 K i := fun K i n1 n2 n3 => by rw [e6 K i n1 n2 n3, kc K i n1 n2 n3]
  have k19 : ∀ i, qe.1 13 19 i = q.1 13 19 i := fun i => ke 19 i (by decide) (by decide) (by decide)
  have k15 : ∀ i, qe.1 13 15 i = q.1 13 15 i := fun i => ke 15 i (by decide) (by decide) (by decide)
  have pk : ∀ i, pe.1 10 (i + 1) 1 = p.1 10 (i + 1) 1 := fun i => by rw [e4 i 1 (by decide), c4 i 1 (by decide), b4 i 1 (by decide), a4 i 1 (by decide)]
  have pR : pe.2 = p.2 := by rw [e5, c5, b5, a5]
  have ef : (fu (fu (fu (fu (fun _ => 0) ax (if q.1 13 19 x = cn 4 then n else 0)) aw (if qa.1 13 19 w = cn 4 then n else 0)) ay (if qb.1 13 19 y = cn 4 then n else 0)) az (if qc.1 13 19 z = cn 4 then n else 0)) = fun c => (fun c => (fun _ => (0 : Int)) c + cnt qe n [(x, ax), (w, aw), (y, ay)] c) c + cnt qe n [(z, az)] c := by
    funext c
    rw [fu_if, fu_if, fu_if, fu_if]
    unfold cnt cnt cnt cnt
    dsimp only
    rw [k19, k19, k19, k19, a6 19 w (by decide) (by decide) (by decide), kb 19 y (by decide) (by decide) (by decide), kc 19 z (by decide) (by decide) (by decide)]
    omega
  rw [ef] at We
  have hcn : ∀ c, 0 ≤ (fun _ => (0 : Int)) c + cnt qe n [(x, ax), (w, aw), (y, ay)] c := by
    intro c
    have := cnt_nn (q := qe) (n := n) (by omega) c [(x, ax), (w, aw), (y, ay)]
    dsimp only
    omega
  have We' : WW pe (kq qe fun _ => false) lg 99 99 (fun i => (((False ∨ i = x) ∨ i = w) ∨ i = y) ∨ i = z) N T D l (fun c => (fun c => (fun _ => (0 : Int)) c + cnt qe n [(x, ax), (w, aw), (y, ay)] c) c + cnt qe n [(z, az)] c) := by
    rw [kq_none fun _ => rfl]
    exact We
  -- the fourth
  obtain ⟨g1, K1, m1, m2, m3, Wg, m4, m5, m6⟩ := guards_list h1 [(z, az)] pe (fun _ => false) _ We' (fun u hu => by
    simp only [List.mem_cons, List.not_mem_nil, or_false] at hu
    subst hu
    exact ⟨kz1, by rw [pk, k19]; exact kz3, by rw [pR]; exact kz4⟩) hcn
  have eos1 : [(z, az)].map Prod.fst = [z] := rfl
  rw [eos1] at g1 Wg m4 m5 m6
  have h99 : ∀ {q : PM} {o : Nat}, ∀ b : Nat, b < 6 → q.1 13 16 o = cn b → ¬ b = 99 := fun b hb _ => by omega
  obtain ⟨T1, t1, t2, S1, r1⟩ := ww_show Wg z40 (by omega) h99 (by omega)
  rw [← sQ_kq2 (by omega)] at S1
  obtain ⟨y1, y2, y3'⟩ := showC_fr (p := gdC n [z] pe) (o := z) (T := T) (Wg.1.2.2.1.2.2.1)
  have sqz := sQ_f (q := qe) (o := z) (by omega)
  have z19 : ∀ i, (sQ qe z).1 13 19 i = qe.1 13 19 i := fun i => sqz.2.1 19 i (by omega)
  have stz : ∀ v a, tst (sQ qe z) v a = tst qe v a := by
    intro v a
    unfold tst
    rw [z19, sqz.2.1 3 a (by omega), sqz.2.1 4 a (by omega)]
  have ecz : (fun c => (fun _ => (0 : Int)) c + cnt qe n [(x, ax), (w, aw), (y, ay)] c) = fun c => (fun _ => (0 : Int)) c + cnt (sQ qe z) n [(x, ax), (w, aw), (y, ay)] c := by
    funext c
    unfold cnt cnt cnt cnt
    dsimp only
    rw [z19, z19, z19]
  rw [ecz] at S1
  -- the others
  have pk2 : ∀ i, ¬ i = z → (v6_showAnew (gdC n [z] pe) (z + 1)).1 10 (i + 1) 1 = p.1 10 (i + 1) 1 := fun i h => by rw [y2 i 1 h, m5 _ 1 (by decide), pk]
  have pR2 : (v6_showAnew (gdC n [z] pe) (z + 1)).2 = p.2 := by rw [y3', m6, pR]
  obtain ⟨g2, K2, u1, u2, u3', Wg2, u4, u5, u6⟩ := guards_list h1 [(x, ax), (w, aw), (y, ay)] (v6_showAnew (gdC n [z] pe) (z + 1)) K1 (fun _ => 0) S1 (fun u hu => by
    simp only [List.mem_cons, List.not_mem_nil, or_false] at hu
    rcases hu with rfl | rfl | rfl
    · exact ⟨kx1, by rw [pk2 x (fun h => d4 h.symm), z19, k19]; exact kx3, by rw [pR2]; exact kx4⟩
    · exact ⟨kw1, by rw [pk2 w (fun h => d5 h.symm), z19, k19]; exact kw3, by rw [pR2]; exact kw4⟩
    · exact ⟨ky1, by rw [pk2 y (fun h => d6 h.symm), z19, k19]; exact ky3, by rw [pR2]; exact ky4⟩) (fun _ => Int.le_refl _)
  have eos2 : [(x, ax), (w, aw), (y, ay)].map Prod.fst = [x, w, y] := rfl
  rw [eos2] at g2 Wg2 u4 u5 u6
  obtain ⟨T2, t3, t4, S2, r2⟩ := ww_show Wg2 x40 (by omega) h99 (by omega)
  obtain ⟨T3, t5, t6, S3, r3⟩ := ww_show S2 w40 (by omega) h99 (by omega)
  obtain ⟨T4, t7, t8, S4, r4⟩ := ww_show S3 y40 (by omega) h99 (by omega)
  have eP : v3_fallTogether p (x + 1) (w + 1) (y + 1) (z + 1) (cn n) = v6_showAnew (v6_showAnew (v6_showAnew (gdC n [x, w, y] (v6_showAnew (gdC n [z] pe) (z + 1))) (x + 1)) (w + 1)) (y + 1) := by
    unfold v3_fallTogether bv3_fallTogether
    simp only [if_neg hz0, hpa, hpb, hpc, hpe, gdC]
  have gP : g3_fallTogether p (x + 1) (w + 1) (y + 1) (z + 1) (cn n) := by
    have e := g1
    have e' := g2
    unfold gdG gdG at e
    unfold gdG gdG gdG gdG at e'
    unfold g3_fallTogether bg3_fallTogether
    simp only [if_neg hz0, hpa, hpb, hpc, hpe]
    exact ⟨hx0, a1, hw0, b1, hy0, c1, hz0, e1, e.1, g_show _ _, e'.1, e'.2.1, e'.2.2.1, g_show _ _, g_show _ _, g_show _ _, trivial⟩
  -- the reference
  have f1 := falls1_e (q := q) (o := x) (n := cn n) (by omega)
  rw [hqa] at f1
  have f2 := falls1_e (q := sQ qa x) (o := w) (n := cn n) (by omega)
  rw [fall_sQ (by omega) (by omega) d1, hqb] at f2
  have f3 := falls1_e (q := sQ (sQ qb x) w) (o := y) (n := cn n) (by omega)
  rw [fall_sQ (by omega) (by omega) d3, fall_sQ (by omega) (by omega) d2, hqc] at f3
  have f4 := falls1_e (q := sQ (sQ (sQ qc x) w) y) (o := z) (n := cn n) (by omega)
  rw [fall_sQ (by omega) (by omega) d6, fall_sQ (by omega) (by omega) d5, fall_sQ (by omega) (by omega) d4, hqe] at f4
  have g2w : g12_falls (sQ qa x) (cn w) (cn n) (cn 1) := g_fallQ (by omega) kw1 _ _ (by
    rw [(sQ_f (by omega)).2.1 15 w (by omega), a6 15 w (by decide) (by decide) (by decide)]
    exact kw2)
  have g3y : g12_falls (sQ (sQ qb x) w) (cn y) (cn n) (cn 1) := g_fallQ (by omega) ky1 _ _ (by
    rw [(sQ_f (by omega)).2.1 15 y (by omega), (sQ_f (by omega)).2.1 15 y (by omega), kb 15 y (by decide) (by decide) (by decide)]
    exact ky2)
  have g4z : g12_falls (sQ (sQ (sQ qc x) w) y) (cn z) (cn n) (cn 1) := g_fallQ (by omega) kz1 _ _ (by
    rw [(sQ_f (by omega)).2.1 15 z (by omega), (sQ_f (by omega)).2.1 15 z (by omega), (sQ_f (by omega)).2.1 15 z (by omega), kc 15 z (by decide) (by decide) (by decide)]
    exact kz2)
  rw [f1.1, f2.1, f3.1, f4.1]
  have sK : ∀ K i, ¬ K = 22 → ¬ K = 23 → (sQ (sQ (sQ (sQ qe x) w) y) z).1 13 K i = qe.1 13 K i := by
    intro K i n1 n2
    rw [(sQ_f (by omega)).2.1 K i (by omega), (sQ_f (by omega)).2.1 K i (by omega), (sQ_f (by omega)).2.1 K i (by omega), (sQ_f (by omega)).2.1 K i (by omega)]
  have s15 : (sQ (sQ (sQ (sQ qe x) w) y) z).1 15 = qe.1 15 := by
    rw [(sQ_f (by omega)).1 15 (by decide) (by decide), (sQ_f (by omega)).1 15 (by decide) (by decide), (sQ_f (by omega)).1 15 (by decide) (by decide), (sQ_f (by omega)).1 15 (by decide) (by decide)]
  obtain ⟨ob, oa⟩ := or_acc We.1.1
  have gq := gdQ_e [(x, ax), (w, aw), (y, ay), (z, az)] (sQ (sQ (sQ (sQ qe x) w) y) z) (fun u hu => by
    simp only [List.mem_cons, List.not_mem_nil, or_false] at hu
    rcases hu with rfl | rfl | rfl | rfl
    · exact ⟨by omega, kx1, by rw [sK 15 x (by decide) (by decide), k15]; exact kx2⟩
    · exact ⟨by omega, kw1, by rw [sK 15 w (by decide) (by decide), k15]; exact kw2⟩
    · exact ⟨by omega, ky1, by rw [sK 15 y (by decide) (by decide), k15]; exact ky2⟩
    · exact ⟨by omega, kz1, by rw [sK 15 z (by decide) (by decide), k15]; exact kz2⟩) (fun s hs => by rw [s15]; exact ob s hs) (fun s hs h => by
    rw [s15] at h
    rw [sK 15 s (by decide) (by decide)]
    exact oa s hs h)
  have eos3 : [(x, ax), (w, aw), (y, ay), (z, az)].map Prod.fst = [x, w, y, z] := rfl
  rw [eos3] at gq
  have stt : ∀ v a, tst (sQ (sQ (sQ (sQ qe x) w) y) z) v a = tst qe v a := by
    intro v a
    unfold tst
    rw [sK 19 v (by decide) (by decide), sK 3 a (by decide) (by decide), sK 4 a (by decide) (by decide)]
  have hK : K2 = fun c => [(x, ax), (w, aw), (y, ay), (z, az)].any fun u => decide (c = u.2) && tst (sQ (sQ (sQ (sQ qe x) w) y) z) u.1 u.2 := by
    funext c
    rw [Bool.eq_iff_iff, List.any_eq_true]
    refine ⟨fun h => ?_, fun ⟨u, v1, v2⟩ => ?_⟩
    · rcases u1 c h with h9 | ⟨u, v1, v2, v3⟩
      · rcases m1 c h9 with h8 | ⟨u, v1, v2, v3⟩
        · exact absurd h8 (by decide)
        · simp only [List.mem_cons, List.not_mem_nil, or_false] at v1
          subst v1
          exact ⟨(z, az), by simp, by rw [stt, v3, decide_eq_true v2]; rfl⟩
      · rw [stz] at v3
        refine ⟨u, ?_, by rw [stt, v3, decide_eq_true v2]; rfl⟩
        simp only [List.mem_cons, List.not_mem_nil, or_false] at v1 ⊢
        rcases v1 with h | h | h
        · exact Or.inl h
        · exact Or.inr (Or.inl h)
        · exact Or.inr (Or.inr (Or.inl h))
    · simp only [Bool.and_eq_true, decide_eq_true_eq] at v2
      obtain ⟨v2, v3⟩ := v2
      rw [stt] at v3
      rw [v2]
      by_cases hm : u ∈ [(x, ax), (w, aw), (y, ay)]
      · exact u3' u hm rfl (by rw [stz]; exact v3)
      · have hu : u = (z, az) := by
          simp only [List.mem_cons, List.not_mem_nil, or_false] at v1 hm
          rcases v1 with h | h | h | h
          · exact absurd (Or.inl h) hm
          · exact absurd (Or.inr (Or.inl h)) hm
          · exact absurd (Or.inr (Or.inr h)) hm
          · exact h
        subst hu
        by_cases hex : ∃ z2 ∈ [(x, ax), (w, aw), (y, ay)], qe.1 13 19 z2.1 = cn 4 ∧ az = z2.2
        · obtain ⟨z2, hz2, i1, i2⟩ := hex
          have := u3' z2 hz2 rfl (by rw [stz, ← i2]; exact tst_same i1 v3)
          rw [← i2] at this
          exact this
        · refine u2 az (m3 (z, az) (by simp) ?_ v3)
          show (0 : Int) + cnt qe n [(x, ax), (w, aw), (y, ay)] az = 0
          rw [cnt_0 _ fun z2 hz2 h => hex ⟨z2, hz2, h⟩]
          rfl
  rw [gq.2, ← hK, eP]
  -- turns in another order
  have hq40 : qe.1 12 1 40 = cn T := We.1.2.2.1.2.2.2.1
  obtain ⟨w1, w2, w3, t9, w4, w5, w6⟩ := sw4 (q := qe) x40 w40 y40 z40 d1 d2 d3 d4 d5 d6 hq40
  rw [← sQ_kq2 (by omega), ← sQ_kq2 (by omega), ← sQ_kq2 (by omega)] at S4
  have hT4 : T4 = t9 := by
    have i1 := S4.1.2.2.1.2.2.2.1
    rw [kq_k (by decide), w4, cneq ⟨by omega, by omega⟩ ⟨by omega, by omega⟩] at i1
    omega
  have kk : ∀ k i s, ¬ (k = 13 ∧ i = 23) → (kq (sQ (sQ (sQ (sQ qe x) w) y) z) K2).1 k i s = (kq (sQ (sQ (sQ (sQ qe z) x) w) y) K2).1 k i s := by
    intro k i s h
    by_cases hk : k = 15
    · subst hk
      by_cases i3 : i = 3
      · subst i3
        rw [kq_3, kq_3, w1 13 19 s (by decide), w1 13 15 s (by decide), w1 15 3 s (by decide)]
      · by_cases i1 : i = 1
        · subst i1
          rw [kq_1, kq_1, w1 15 1 s (by decide)]
        · rw [kq_15 i3 i1, kq_15 i3 i1, w1 15 i s (by omega)]
    · rw [kq_k hk, kq_k hk]
      exact w1 k i s h
  have e23 : ∀ i, (kq (sQ (sQ (sQ (sQ qe x) w) y) z) K2).1 13 23 i = (sQ (sQ (sQ (sQ qe x) w) y) z).1 13 23 i := fun i => by rw [kq_k (by decide)]
  have e23' : ∀ i, (kq (sQ (sQ (sQ (sQ qe z) x) w) y) K2).1 13 23 i = (sQ (sQ (sQ (sQ qe z) x) w) y).1 13 23 i := fun i => by rw [kq_k (by decide)]
  have hstd : ∀ i, stnd (kq (sQ (sQ (sQ (sQ qe x) w) y) z) K2) i → stnd (kq (sQ (sQ (sQ (sQ qe z) x) w) y) K2) i := fun i h => ⟨by rw [← kk 15 3 i (by decide)]; exact h.1, by rw [← kk 13 24 i (by decide)]; exact h.2⟩
  have hstq : ∀ i, stnd (kq (sQ (sQ (sQ (sQ qe x) w) y) z) K2) i → stnd qe i := by
    intro i h
    obtain ⟨i1, i2⟩ := h
    rw [kq_3, s15] at i1
    rw [kq_k (by decide), sK 24 i (by decide) (by decide)] at i2
    refine ⟨?_, i2⟩
    split at i1
    · exact absurd i1 (by decide)
    · exact i1
  have hold : ∀ i, i < 40 → stnd (kq (sQ (sQ (sQ (sQ qe x) w) y) z) K2) i → ∃ u : Nat, u < T ∧ qe.1 13 23 i = cn u := by
    intro i hi h
    obtain ⟨tC, u, -, -, -, v4, v5⟩ := We.1.2.2.1.2.1 i hi (hstq i h)
    exact ⟨u, v4, v5⟩
  -- of one book and side there is one of them at most
  have hone : ∀ i j, (i = x ∨ i = w ∨ i = y ∨ i = z) → (j = x ∨ j = w ∨ j = y ∨ j = z) → qe.1 13 16 i = qe.1 13 16 j → i = j := by
    intro i j hi hj h
    have i16 : ∀ i, qe.1 13 16 i = q.1 13 16 i := fun i => ke 16 i (by decide) (by decide) (by decide)
    rw [i16, i16] at h
    obtain ⟨v1, v2, v3, v4⟩ := hbk
    rcases hi with rfl | rfl | rfl | rfl <;> rcases hj with rfl | rfl | rfl | rfl <;> first
      | rfl
      | (simp only [v1, v2, v3, v4] at h; exact absurd h (by decide))
  have hTR : TR (v6_showAnew (v6_showAnew (v6_showAnew (gdC n [x, w, y] (v6_showAnew (gdC n [z] pe) (z + 1))) (x + 1)) (w + 1)) (y + 1)) (kq (sQ (sQ (sQ (sQ qe x) w) y) z) K2) T4 := by
    obtain ⟨q1, q2, q3, q4, q5⟩ := S4.1.2.2.1
    refine ⟨fun i j hi hj si sj hb hs => ?_, fun i hi si => ?_, q3, by rw [kk 12 1 40 (by decide)]; exact q4, q5⟩
    · have hb' := hb
      have hs' := hs
      rw [kk 13 16 i (by decide), kk 13 16 j (by decide)] at hb'
      rw [kk 15 4 i (by decide), kk 15 4 j (by decide)] at hs'
      obtain ⟨o1, o2⟩ := q1 i j hi hj (hstd i si) (hstd j sj) hb' hs'
      rw [e23', e23'] at o1 o2
      rw [e23, e23]
      rw [kq_k (by decide), sK 16 i (by decide) (by decide), sK 16 j (by decide) (by decide)] at hb
      obtain ⟨ui, vi1, vi2⟩ := hold i hi si
      obtain ⟨uj, vj1, vj2⟩ := hold j hj sj
      have irr : ∀ a : Int32, ¬ a < a := fun a h => by
        rw [Int32.lt_iff_toInt_lt] at h
        omega
      by_cases ci : i = x ∨ i = w ∨ i = y ∨ i = z
      · by_cases cj : j = x ∨ j = w ∨ j = y ∨ j = z
        · have e := hone i j ci cj hb
          subst e
          refine ⟨?_, fun _ => rfl⟩
          exact propext ⟨fun h => absurd h (irr _), fun h => absurd h (irr _)⟩
        · obtain ⟨j1, j2⟩ := w3 j (fun h => cj (Or.inl h)) (fun h => cj (Or.inr (Or.inl h))) (fun h => cj (Or.inr (Or.inr (Or.inl h)))) (fun h => cj (Or.inr (Or.inr (Or.inr h))))
          rw [j2] at o1 o2
          rw [j1]
          rcases w6 i ci with ⟨i1, i2⟩ | ⟨u, u', l1, l2, l3, l4, l5, l6⟩
          · rw [i2] at o1 o2
            rw [i1]
            exact ⟨o1, o2⟩
          · rw [l6, vj2] at o1 o2
            rw [l5, vj2]
            rw [o1]
            rw [cnlt ⟨by omega, by omega⟩ ⟨by omega, by omega⟩, cnlt ⟨by omega, by omega⟩ ⟨by omega, by omega⟩]
            refine ⟨propext ⟨fun h => by omega, fun h => by omega⟩, fun h => ?_⟩
            rw [cneq ⟨by omega, by omega⟩ ⟨by omega, by omega⟩] at h
            omega
      · obtain ⟨i1, i2⟩ := w3 i (fun h => ci (Or.inl h)) (fun h => ci (Or.inr (Or.inl h))) (fun h => ci (Or.inr (Or.inr (Or.inl h)))) (fun h => ci (Or.inr (Or.inr (Or.inr h))))
        rw [i2] at o1 o2
        rw [i1]
        by_cases cj : j = x ∨ j = w ∨ j = y ∨ j = z
        · rcases w6 j cj with ⟨j1, j2⟩ | ⟨u, u', l1, l2, l3, l4, l5, l6⟩
          · rw [j2] at o1 o2
            rw [j1]
            exact ⟨o1, o2⟩
          · rw [l6, vi2] at o1 o2
            rw [l5, vi2]
            rw [o1]
            rw [cnlt ⟨by omega, by omega⟩ ⟨by omega, by omega⟩, cnlt ⟨by omega, by omega⟩ ⟨by omega, by omega⟩]
            refine ⟨propext ⟨fun h => by omega, fun h => by omega⟩, fun h => ?_⟩
            rw [cneq ⟨by omega, by omega⟩ ⟨by omega, by omega⟩] at h
            omega
        · obtain ⟨j1, j2⟩ := w3 j (fun h => cj (Or.inl h)) (fun h => cj (Or.inr (Or.inl h))) (fun h => cj (Or.inr (Or.inr (Or.inl h)))) (fun h => cj (Or.inr (Or.inr (Or.inr h))))
          rw [j2] at o1 o2
          rw [j1]
          exact ⟨o1, o2⟩
    · obtain ⟨tC, u, v1, v2, v3, v4, v5⟩ := q2 i hi (hstd i si)
      rw [e23'] at v5
      rw [e23]
      by_cases ci : i = x ∨ i = w ∨ i = y ∨ i = z
      · rcases w6 i ci with ⟨i1, i2⟩ | ⟨u2, u', l1, l2, l3, l4, l5, l6⟩
        · rw [i2] at v5
          exact ⟨tC, u, v1, v2, v3, v4, by rw [i1]; exact v5⟩
        · exact ⟨tC, u2, v1, v2, v3, by omega, l5⟩
      · obtain ⟨i1, i2⟩ := w3 i (fun h => ci (Or.inl h)) (fun h => ci (Or.inr (Or.inl h))) (fun h => ci (Or.inr (Or.inr (Or.inl h)))) (fun h => ci (Or.inr (Or.inr (Or.inr h))))
        rw [i2] at v5
        exact ⟨tC, u, v1, v2, v3, v4, by rw [i1]; exact v5⟩
  have e2' : (kq (sQ (sQ (sQ (sQ qe x) w) y) z) K2).2 = (kq (sQ (sQ (sQ (sQ qe z) x) w) y) K2).2 := w2
  refine ⟨⟨gP, ?_, ?_, ?_, ?_, gq.1⟩, T4, by omega, by omega, ?_, ?_⟩
  · exact f1.2 a2
  · exact f2.2 g2w
  · exact f3.2 g3y
  · exact f4.2 g4z
  · refine ww_w (ww_turns S4 kk e2' hTR) fun i hi _ => Or.inl fun h => ?_
    obtain ⟨⟨⟨⟨h4, h5⟩, h6⟩, h7⟩, h8⟩ := h
    rcases h4 with (((h9 | h9) | h9) | h9) | h9
    · exact h9
    · exact h6 h9
    · exact h7 h9
    · exact h8 h9
    · exact h5 h9
  · have i1 : RS (kq (sQ (sQ (sQ (sQ qe x) w) y) z) K2) 40 = RS (kq qe K2) 40 := RS_same 40 fun i hi => by
      unfold rs
      rw [kq_3, kq_3, kq_k (by decide), kq_k (by decide), sK 19 i (by decide) (by decide), sK 15 i (by decide) (by decide), sK 17 i (by decide) (by decide), s15]
    have := rs_kq (K := K2) We.1.1
    omega
end Core4
