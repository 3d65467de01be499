/-! sharing out in proportion -/
def sq (F : Nat → Int) : Nat → Int
  | 0 => 0
  | c + 1 => sq F c + F c
def ss (P : Nat → Bool) (F : Nat → Int) : Nat → Int
  | 0 => 0
  | n + 1 => ss P F n + (if P n = true then F n else 0)
theorem ss_same {P P' : Nat → Bool} {F : Nat → Int} : ∀ n : Nat, (∀ i, i < n → P' i = P i) → ss P' F n = ss P F n
  | 0, _ => rfl
  | n + 1, h => by
    show ss P' F n + _ = ss P F n + _
    rw [ss_same n fun i hi => h i (by omega), h n (by omega)]
theorem ss_rm {P P' : Nat → Bool} {F : Nat → Int} {o : Nat} (h1 : P o = true) (h2 : P' o = false) (h3 : ∀ i, ¬ i = o → P' i = P i) : ∀ n : Nat, o < n → ss P F n = ss P' F n + F o
  | 0, h => by omega
  | n + 1, h => by
    show ss P F n + (if P n = true then F n else 0) = ss P' F n + (if P' n = true then F n else 0) + F o
    by_cases e : n = o
    · subst e
      rw [h1, h2, if_pos rfl, if_neg (by decide), ss_same (P := P) (P' := P') n fun i hi => h3 i (by omega)]
      omega
    · rw [ss_rm h1 h2 h3 n (by omega), h3 n e]
      omega
theorem ss_0 {P : Nat → Bool} {F : Nat → Int} : ∀ n : Nat, (∀ i, i < n → ¬ P i = true) → ss P F n = 0
  | 0, _ => rfl
  | n + 1, h => by
    show ss P F n + (if P n = true then F n else 0) = 0
    rw [ss_0 n fun i hi => h i (by omega), if_neg (h n (by omega))]
    rfl
theorem sq_c {F G : Nat → Int} : ∀ c : Nat, (∀ j, j < c → F j = G j) → sq F c = sq G c
  | 0, _ => rfl
  | c + 1, h => by
    show sq F c + F c = sq G c + G c
    rw [sq_c c fun j hj => h j (by omega), h c (by omega)]
theorem perm {F : Nat → Int} {L : Nat → Nat} {n : Nat} : ∀ (c : Nat) (P : Nat → Bool), (∀ j, j < c → L j < n ∧ P (L j) = true) → (∀ j k, j < c → k < c → L j = L k → j = k) → (∀ i, i < n → P i = true → ∃ j, j < c ∧ L j = i) → sq (fun j => F (L j)) c = ss P F n := by
  intro c
  induction c with
  | zero =>
    intro P h1 h2 h3
    rw [ss_0 n fun i hi hP => by
      obtain ⟨j, hj, -⟩ := h3 i hi hP
      omega]
    rfl
  | succ c ih =>
    intro P h1 h2 h3
    have hc := h1 c (by omega)
    have e := ih (fun i => P i && !decide (i = L c)) (fun j hj => ⟨(h1 j (by omega)).1, by
      have h9 : ¬ L j = L c := fun e => by
        have := h2 j c (by omega) (by omega) e
        omega
      simp [(h1 j (by omega)).2, h9]⟩) (fun j k hj hk => h2 j k (by omega) (by omega)) (fun i hi hP => by
      simp only [Bool.and_eq_true, Bool.not_eq_true', decide_eq_false_iff_not] at hP
      obtain ⟨j, hj, hj2⟩ := h3 i hi hP.1
      refine ⟨j, ?_, hj2⟩
      by_cases e9 : j = c
      · rw [e9] at hj2
        exact absurd hj2.symm hP.2
      · omega)
    rw [ss_rm (P := P) (P' := fun i => P i && !decide (i = L c)) (o := L c) hc.2 (by simp) (fun i hi => by simp [hi]) n hc.1, ← e]
    rfl
theorem sm_sq {g : Nat → Int} : ∀ (d j : Nat), sm g j d = sq g (j + d) - sq g j
  | 0, j => by
    show (0 : Int) = sq g j - sq g j
    omega
  | d + 1, j => by
    show g j + sm g (j + 1) d = sq g (j + (d + 1)) - sq g j
    rw [sm_sq d (j + 1)]
    have e : j + 1 + d = j + (d + 1) := by omega
    rw [e]
    show g j + (sq g (j + (d + 1)) - (sq g j + g j)) = _
    omega
theorem sq_rng {g : Nat → Int} {m : Int} (hm : 0 ≤ m) : ∀ c : Nat, (∀ j, j < c → 0 ≤ g j ∧ g j ≤ m) → 0 ≤ sq g c ∧ sq g c ≤ m * c
  | 0, _ => ⟨Int.le_refl _, by simp [sq]⟩
  | c + 1, h => by
    have h1 := sq_rng hm c fun j hj => h j (by omega)
    have h2 := h c (by omega)
    have e : m * ((c + 1 : Nat) : Int) = m * c + m := by
      rw [Int.natCast_add, Int.mul_add]
      simp
    show 0 ≤ sq g c + g c ∧ sq g c + g c ≤ _
    omega
theorem sq_le {g h : Nat → Int} : ∀ c : Nat, (∀ j, j < c → g j ≤ h j) → sq g c ≤ sq h c
  | 0, _ => Int.le_refl _
  | c + 1, H => by
    have h1 := sq_le c fun j hj => H j (by omega)
    have h2 := H c (by omega)
    show sq g c + g c ≤ sq h c + h c
    omega
theorem sq_sub {g h : Nat → Int} : ∀ c : Nat, sq (fun j => g j - h j) c = sq g c - sq h c
  | 0 => rfl
  | c + 1 => by
    show sq (fun j => g j - h j) c + (g c - h c) = sq g c + g c - (sq h c + h c)
    rw [sq_sub c]
    omega
theorem sq_add {g h : Nat → Int} : ∀ c : Nat, sq (fun j => g j + h j) c = sq g c + sq h c
  | 0 => rfl
  | c + 1 => by
    show sq (fun j => g j + h j) c + (g c + h c) = sq g c + g c + (sq h c + h c)
    rw [sq_add c]
    omega
theorem sq_up {g : Nat → Int} {j : Nat} {v : Int} : ∀ c : Nat, sq (up g j v) c = sq g c + (if j < c then v - g j else 0)
  | 0 => by
    rw [if_neg (by omega)]
    rfl
  | c + 1 => by
    show sq (up g j v) c + up g j v c = sq g c + g c + _
    rw [sq_up c]
    unfold up
    by_cases e : c = j
    · subst e
      rw [if_pos rfl, if_neg (by omega), if_pos (by omega)]
      omega
    · rw [if_neg e]
      by_cases h : j < c
      · rw [if_pos h, if_pos (by omega)]
        omega
      · rw [if_neg h, if_neg (by omega)]
        omega
theorem sq_z : ∀ c : Nat, sq (fun _ => 0) c = 0
  | 0 => rfl
  | c + 1 => by
    show sq (fun _ => 0) c + 0 = 0
    rw [sq_z c]
    rfl
theorem sq_pos {g : Nat → Int} : ∀ c : Nat, (∀ j, j < c → 0 ≤ g j) → 1 ≤ sq g c → ∃ j, j < c ∧ 1 ≤ g j
  | 0, _, h => by
    have h' : (1 : Int) ≤ 0 := h
    omega
  | c + 1, h0, h => by
    have h' : 1 ≤ sq g c + g c := h
    by_cases e : 1 ≤ g c
    · exact ⟨c, by omega, e⟩
    · obtain ⟨j, j1, j2⟩ := sq_pos c (fun j hj => h0 j (by omega)) (by omega)
      exact ⟨j, by omega, j2⟩
theorem sq_all {g h : Nat → Int} : ∀ c : Nat, (∀ j, j < c → g j ≤ h j) → sq h c ≤ sq g c → ∀ j, j < c → g j = h j
  | 0, _, _, j, hj => by omega
  | c + 1, H, h9, j, hj => by
    have h' : sq h c + h c ≤ sq g c + g c := h9
    have h1 := sq_le c fun j hj => H j (by omega)
    have h2 := H c (by omega)
    by_cases e : j = c
    · rw [e]
      omega
    · exact sq_all c (fun j hj => H j (by omega)) (by omega) j (by omega)
/-- a part in proportion -/
def pt (all op y : Int) : Int := (all * y).tdiv op
theorem pt_rng {all op y : Int} (h1 : 0 ≤ all) (h2 : all ≤ op) (h3 : 0 < op) (h4 : 0 ≤ y) : 0 ≤ pt all op y ∧ pt all op y ≤ y ∧ pt all op y * op ≤ all * y := by
  have h5 : 0 ≤ all * y := Int.mul_nonneg h1 h4
  have e : pt all op y = all * y / op := by
    unfold pt
    rw [Int.tdiv_eq_ediv_of_nonneg h5]
  rw [e]
  have h6 : all * y ≤ op * y := Int.mul_le_mul_of_nonneg_right h2 h4
  refine ⟨Int.ediv_nonneg h5 (by omega), ?_, Int.ediv_mul_le _ (by omega)⟩
  have h7 : all * y / op ≤ op * y / op := Int.ediv_le_ediv h3 h6
  rw [Int.mul_ediv_cancel_left _ (by omega)] at h7
  exact h7
theorem pt_sum {all op : Int} {y : Nat → Int} (h1 : 0 ≤ all) (h2 : all ≤ op) (h3 : 0 < op) : ∀ c : Nat, (∀ j, j < c → 0 ≤ y j) → sq (fun j => pt all op (y j)) c * op ≤ all * sq y c
  | 0, _ => by simp [sq]
  | c + 1, h => by
    have h4 := pt_sum h1 h2 h3 c fun j hj => h j (by omega)
    have h5 := (pt_rng h1 h2 h3 (h c (by omega))).2.2
    show (sq (fun j => pt all op (y j)) c + pt all op (y c)) * op ≤ all * (sq y c + y c)
    rw [Int.add_mul, Int.mul_add]
    omega
theorem pt_le {all op : Int} {y : Nat → Int} {c : Nat} (h1 : 0 ≤ all) (h2 : all ≤ op) (h3 : 0 < op) (h : ∀ j, j < c → 0 ≤ y j) (hs : sq y c = op) : sq (fun j => pt all op (y j)) c ≤ all := by
  have h4 := pt_sum h1 h2 h3 c h
  rw [hs] at h4
  exact Int.le_of_mul_le_mul_right h4 h3
section Shares
variable {q pg : PM} {b c : Nat} {t v : Int32} {L : Nat → Nat}
/-- class: the sum -/
theorem gs5 {p' : PM} {y : Nat → Int} {most : Int32} (hc : c ≤ 40) (h1 : ∀ j, j < c → ¬ p'.2.2 20 2 j = 0 ∧ p'.1 10 (p'.2.2 20 2 j) 11 - p'.1 13 19 j = cn (y j)) : ∀ (d j n : Nat) (acc : Int), j + d = c → d < n → v8_giveShares_5 n p' most (cn c) (cn acc) (cn j) = v8_giveShares_72 FU p' (cn c) (cn (acc + sm y j d)) (v14_min_7cf53 p' most (cn (acc + sm y j d))) (v14_min_7cf53 p' most (cn (acc + sm y j d))) (cn 0) ∧ (g8_giveShares_72 FU p' (cn c) (cn (acc + sm y j d)) (v14_min_7cf53 p' most (cn (acc + sm y j d))) (v14_min_7cf53 p' most (cn (acc + sm y j d))) (cn 0) → g8_giveShares_5 n p' most (cn c) (cn acc) (cn j)) := by
  intro d
  induction d with
  | zero =>
    intro j n acc h2 h3
    obtain ⟨m, rfl⟩ : ∃ m, n = m + 1 := ⟨n - 1, by omega⟩
    have e : j = c := by omega
    subst e
    have gm := g_min p' most (cn acc)
    simp only [eg8_giveShares_5, ev8_giveShares_5, bg8_giveShares_5, bv8_giveShares_5, if_neg (lpf (i := j) (N := j) (Int.le_refl _) (by omega) (by omega)), sm, Int.add_zero]
    exact ⟨trivial, fun h => ⟨gm, h⟩⟩
  | succ d ih =>
    intro j n acc h2 h3
    obtain ⟨m, rfl⟩ : ∃ m, n = m + 1 := ⟨n - 1, by omega⟩
    obtain ⟨k1, k2⟩ := h1 j (by omega)
    have hi := cninb (i := j) (n := 40) (by omega) (by omega)
    have k := ih (j + 1) m (acc + y j) (by omega) (by omega)
    have e : acc + y j + sm y (j + 1) d = acc + sm y j (d + 1) := by
      show _ = acc + (y j + sm y (j + 1) d)
      omega
    rw [e] at k
    simp only [eg8_giveShares_5, ev8_giveShares_5, bg8_giveShares_5, bv8_giveShares_5, if_pos (lpt (i := j) (N := c) (by omega) (by omega)), if_pos (lpt (i := j) (N := 40) (by omega) (by omega)), cntk (i := j) (by omega), k2, cnadd, cnsucc]
    rw [show (cn ((j : Int) + 1)) = cn ((j + 1 : Nat) : Int) from rfl]
    exact ⟨k.1, fun h => ⟨hi, k1, hi, k.2 h⟩⟩
/-- class: the parts -/
theorem gs72 {y g : Nat → Int} {all op : Int} (hP : ∀ j, j < c → pg.2.2 20 2 j = L j + 1 ∧ pg.1 10 (L j + 1) 11 = cn (g j + y j)) (hc : c ≤ 40) (hy : ∀ j, j < c → 0 ≤ y j ∧ y j ≤ 50) (a1 : 0 ≤ all) (a2 : all ≤ 50) (a3 : all ≤ op) (a4 : 0 < op) (a5 : op ≤ 2000) : ∀ (d j n : Nat) (p' : PM) (left : Int), j + d = c → d < n → PF pg p' → (∀ k, k < j → p'.1 13 19 k = cn (g k + pt all op (y k))) → (∀ k, j ≤ k → k < c → p'.1 13 19 k = cn (g k)) → ∃ p2 : PM, PF pg p2 ∧ (∀ k, k < c → p2.1 13 19 k = cn (g k + pt all op (y k))) ∧ v8_giveShares_72 n p' (cn c) (cn op) (cn all) (cn left) (cn j) = v8_giveShares_155 FU p2 (cn c) (cn (left - sm (fun k => pt all op (y k)) j d)) (cn 0) ∧ (g8_giveShares_155 FU p2 (cn c) (cn (left - sm (fun k => pt all op (y k)) j d)) (cn 0) → g8_giveShares_72 n p' (cn c) (cn op) (cn all) (cn left) (cn j)) := by
  intro d
  induction d with
  | zero =>
    intro j n p' left h2 h3 hp k1 k2
    obtain ⟨m, rfl⟩ : ∃ m, n = m + 1 := ⟨n - 1, by omega⟩
    have e : j = c := by omega
    subst e
    refine ⟨p', hp, k1, ?_⟩
    simp only [eg8_giveShares_72, ev8_giveShares_72, bg8_giveShares_72, bv8_giveShares_72, if_neg (lpf (i := j) (N := j) (Int.le_refl _) (by omega) (by omega)), sm, Int.sub_zero]
    exact ⟨trivial, fun h => h⟩
  | succ d ih =>
    intro j n p' left h2 h3 hp k1 k2
    obtain ⟨m, rfl⟩ : ∃ m, n = m + 1 := ⟨n - 1, by omega⟩
    have hi := cninb (i := j) (n := 40) (by omega) (by omega)
    have hz : ¬ L j + 1 = 0 := by omega
    obtain ⟨y1, y2⟩ := hy j (by omega)
    have e1 : p'.2.2 20 2 j = L j + 1 := by rw [hp.2.2]; exact (hP j (by omega)).1
    have e2 : p'.1 10 (L j + 1) 11 = cn (g j + y j) := by rw [hp.1 10 (by decide)]; exact (hP j (by omega)).2
    have e3 : p'.1 13 19 j = cn (g j) := k2 j (Nat.le_refl _) (by omega)
    have e4 : g j + y j - g j = y j := by omega
    have hop : (0 : Int32) < cn op := by
      rw [zcn, cnlt ⟨by decide, by decide⟩ ⟨by omega, by omega⟩]
      exact a4
    have hopz : ¬ cn op = 0 := by
      rw [zcn, cneq ⟨by omega, by omega⟩ ⟨by decide, by decide⟩]
      omega
    have hay : 0 ≤ all * y j ∧ all * y j ≤ 50 * 50 := ⟨Int.mul_nonneg a1 y1, Int.mul_le_mul a2 y2 y1 (by decide)⟩
    have ed : cn (all * y j) / cn op = cn (pt all op (y j)) := cndiv ⟨by omega, by omega⟩ a4 (by omega)
    obtain ⟨p2, m1, m2, m3, m4⟩ := ih (j + 1) m (pI p' 13 19 j (cn (g j + pt all op (y j)))) (left - pt all op (y j)) (by omega) (by omega) (pf_w hp) (fun k hk => by
      by_cases e : k = j
      · rw [e]
        exact pI_at
      · rw [pI_1, u3_s e]
        exact k1 k (by omega)) (fun k h9 h8 => by
      rw [pI_1, u3_s (by omega)]
      exact k2 k (by omega) h8)
    have e5 : left - pt all op (y j) - sm (fun k => pt all op (y k)) (j + 1) d = left - sm (fun k => pt all op (y k)) j (d + 1) := by
      show _ = left - (pt all op (y j) + sm (fun k => pt all op (y k)) (j + 1) d)
      omega
    rw [e5] at m3 m4
    refine ⟨p2, m1, m2, ?_⟩
    simp only [eg8_giveShares_72, ev8_giveShares_72, bg8_giveShares_72, bv8_giveShares_72, if_pos (lpt (i := j) (N := c) (by omega) (by omega)), if_pos (lpt (i := j) (N := 40) (by omega) (by omega)), if_pos hop, cntk (i := j) (by omega), e1, e2, e3, cnsub, e4, cnmul, ed, cnsucc]
    simp only [cnadd]
    exact ⟨m3, fun h => ⟨hi, hz, hi, hopz, hi, hi, m4 h⟩⟩
noncomputable def qb (q : PM) (b : Nat) (t v : Int32) (i : Nat) : Bool := !decide (v12_isAt q (cn i) (cn b) t v = 0)
theorem qb_t {i : Nat} : qb q b t v i = true ↔ QA q b t v i := by
  unfold qb QA
  simp
/-- reference: the sum -/
theorem so61 {q' : PM} {F : Nat → Int} {r : Int32} (hB : QB q b t v) (hq : GF q q') (hF : ∀ i, i < 44 → QA q b t v i → cn (sw q i) - q'.1 13 29 i = cn (F i)) : ∀ (d i n : Nat), i + d = 44 → d < n → v12_sharesOut_61 n q' (cn b) t v r (cn (ss (qb q b t v) F i)) (cn i) = v12_sharesOut_116 FU q' (cn b) t v r (cn (ss (qb q b t v) F 44)) r (cn 0) ∧ (g12_sharesOut_116 FU q' (cn b) t v r (cn (ss (qb q b t v) F 44)) r (cn 0) → g12_sharesOut_61 n q' (cn b) t v r (cn (ss (qb q b t v) F i)) (cn i)) := by
  intro d
  induction d with
  | zero =>
    intro i n h1 h2
    obtain ⟨m, rfl⟩ : ∃ m, n = m + 1 := ⟨n - 1, by omega⟩
    have e : i = 44 := by omega
    subst e
    simp only [eg12_sharesOut_61, ev12_sharesOut_61, bg12_sharesOut_61, bv12_sharesOut_61, if_neg (show ¬ cn ((44 : Nat) : Int) < cn 44 by decide)]
    exact ⟨trivial, fun h => h⟩
  | succ d ih =>
    intro i n h1 h2
    obtain ⟨m, rfl⟩ : ∃ m, n = m + 1 := ⟨n - 1, by omega⟩
    have hi := cninb (i := i) (n := 44) (by omega) (by omega)
    have ga := g_at (q := q') (i := i) (by omega) (cn b) t v
    have gs := g_showsNow (q := q') (i := i) (by omega)
    have k := ih (i + 1) m (by omega) (by omega)
    have e1 := gf_at hq (i := i) (by omega) (cn b) t v
    have es : ss (qb q b t v) F (i + 1) = ss (qb q b t v) F i + (if qb q b t v i = true then F i else 0) := rfl
    simp only [eg12_sharesOut_61, ev12_sharesOut_61, bg12_sharesOut_61, bv12_sharesOut_61, if_pos (lpt (i := i) (N := 44) (by omega) (by omega)), cntk (i := i) (by omega), e1]
    by_cases hA : v12_isAt q (cn i) (cn b) t v = 0
    · rw [if_neg (fun h => qb_t.mp h hA), Int.add_zero] at es
      rw [es] at k
      simp only [if_pos hA, addz, cnsucc]
      exact ⟨k.1, fun h => ⟨ga, k.2 h⟩⟩
    · have e2 : v12_showsNow q' (cn i) = cn (sw q i) := by rw [gf_shows hq (by omega)]; exact (hB i (by omega) hA).2.2.2.1
      rw [if_pos (qb_t.mpr hA)] at es
      rw [es] at k
      simp only [if_neg hA, e2, hF i (by omega) hA, cnadd]
      rw [show (cn ((i : Int) + 1)) = cn ((i + 1 : Nat) : Int) from rfl]
      exact ⟨k.1, fun h => ⟨ga, gs, hi, k.2 h⟩⟩
/-- reference: what one gets more -/
def mr (all whole y : Int) : Int := if all < whole then y else if all = 0 then 0 else pt whole all y
theorem so116 {q0 : PM} {F G : Nat → Int} {all whole : Int} (hB : QB q b t v) (h0 : GF q q0) (hG : ∀ i, i < 44 → QA q b t v i → q0.1 13 29 i = cn (G i) ∧ F i = sw q i - G i ∧ 0 ≤ F i ∧ F i ≤ 50) (a1 : 0 ≤ all) (a2 : all ≤ 2000) (w1 : 0 ≤ whole) (w2 : whole ≤ 50) (R : Int) : ∀ (d i n : Nat) (q' : PM), i + d = 44 → d < n → GF q q' → (∀ s, i ≤ s → q'.1 13 29 s = q0.1 13 29 s) → (∀ s, s < i → q'.1 13 29 s = if qb q b t v s = true then cn (G s + mr all whole (F s)) else q0.1 13 29 s) → ∃ q2 : PM, GF q q2 ∧ (∀ s, s < 44 → q2.1 13 29 s = if qb q b t v s = true then cn (G s + mr all whole (F s)) else q0.1 13 29 s) ∧ (∀ K s, ¬ K = 29 → q2.1 13 K s = q'.1 13 K s) ∧ v12_sharesOut_116 n q' (cn b) t v (cn (R - ss (qb q b t v) (fun s => mr all whole (F s)) i)) (cn all) (cn whole) (cn i) = v12_sharesOut_207 FU q2 (cn b) t v (cn (R - ss (qb q b t v) (fun s => mr all whole (F s)) 44)) (cn all) (cn whole) ∧ (g12_sharesOut_207 FU q2 (cn b) t v (cn (R - ss (qb q b t v) (fun s => mr all whole (F s)) 44)) (cn all) (cn whole) → g12_sharesOut_116 n q' (cn b) t v (cn (R - ss (qb q b t v) (fun s => mr all whole (F s)) i)) (cn all) (cn whole) (cn i)) := by
  intro d
  induction d with
  | zero =>
    intro i n q' h1 h2 hq k1 k2
    obtain ⟨m, rfl⟩ : ∃ m, n = m + 1 := ⟨n - 1, by omega⟩
    have e : i = 44 := by omega
    subst e
    refine ⟨q', hq, k2, fun _ _ _ => rfl, ?_⟩
    simp only [eg12_sharesOut_116, ev12_sharesOut_116, bg12_sharesOut_116, bv12_sharesOut_116, if_neg (show ¬ cn ((44 : Nat) : Int) < cn 44 by decide)]
    exact ⟨trivial, fun h => h⟩
  | succ d ih =>
    intro i n q' h1 h2 hq k1 k2
    obtain ⟨m, rfl⟩ : ∃ m, n = m + 1 := ⟨n - 1, by omega⟩
    have hi := cninb (i := i) (n := 44) (by omega) (by omega)
    have ga := g_at (q := q') (i := i) (by omega) (cn b) t v
    have gs := g_showsNow (q := q') (i := i) (by omega)
    have e1 := gf_at hq (i := i) (by omega) (cn b) t v
    have es : ss (qb q b t v) (fun s => mr all whole (F s)) (i + 1) = ss (qb q b t v) (fun s => mr all whole (F s)) i + (if qb q b t v i = true then mr all whole (F i) else 0) := rfl
    by_cases hA : v12_isAt q (cn i) (cn b) t v = 0
    · have hb := fun h => qb_t.mp h hA
      rw [if_neg hb, Int.add_zero] at es
      obtain ⟨q2, m1, m2, m3, m4⟩ := ih (i + 1) m q' (by omega) (by omega) hq (fun s hs => k1 s (by omega)) (fun s hs => by
        by_cases e : s = i
        · rw [e, if_neg hb]
          exact k1 i (Nat.le_refl _)
        · exact k2 s (by omega))
      rw [es] at m4
      refine ⟨q2, m1, m2, m3, ?_⟩
      simp only [eg12_sharesOut_116, ev12_sharesOut_116, bg12_sharesOut_116, bv12_sharesOut_116, if_pos (lpt (i := i) (N := 44) (by omega) (by omega)), e1, if_pos hA, cnsucc]
      exact ⟨m4.1, fun h => ⟨ga, m4.2 h⟩⟩
    · have hb := qb_t.mpr hA
      rw [if_pos hb] at es
      obtain ⟨g1, g2, g3, g4⟩ := hG i (by omega) hA
      have e2 : v12_showsNow q' (cn i) = cn (sw q i) := by rw [gf_shows hq (by omega)]; exact (hB i (by omega) hA).2.2.2.1
      have e3 : q'.1 13 29 i = cn (G i) := (k1 i (Nat.le_refl _)).trans g1
      have e4 : sw q i - G i = F i := g2.symm
      have hwf : 0 ≤ whole * F i ∧ whole * F i ≤ 50 * 50 := ⟨Int.mul_nonneg w1 g3, Int.mul_le_mul w2 g4 g3 (by decide)⟩
      have c1 : (cn all < cn whole) = (all < whole) := cnlt ⟨by omega, by omega⟩ ⟨by omega, by omega⟩
      have c2 : (cn all = 0) = (all = 0) := by rw [zcn, cneq ⟨by omega, by omega⟩ ⟨by decide, by decide⟩]
      obtain ⟨q2, m1, m2, m3, m4⟩ := ih (i + 1) m (pI q' 13 29 i (cn (G i + mr all whole (F i)))) (by omega) (by omega) (gf_w hq) (fun s hs => by
        rw [pI_1, u3_s (by omega)]
        exact k1 s (by omega)) (fun s hs => by
        by_cases e : s = i
        · rw [e, if_pos hb]
          exact pI_at
        · rw [pI_1, u3_s e]
          exact k2 s (by omega))
      have e5 : R - ss (qb q b t v) (fun s => mr all whole (F s)) (i + 1) = R - ss (qb q b t v) (fun s => mr all whole (F s)) i - mr all whole (F i) := by
        rw [es]
        omega
      rw [e5] at m4
      refine ⟨q2, m1, m2, fun K s h => (m3 K s h).trans (u3_i h), ?_⟩
      simp only [eg12_sharesOut_116, ev12_sharesOut_116, bg12_sharesOut_116, bv12_sharesOut_116, if_pos (lpt (i := i) (N := 44) (by omega) (by omega)), cntk (i := i) (by omega), e1, if_neg hA, e2, e3, c1, c2, cnsub, e4, cnsucc]
      by_cases h3 : all < whole
      · have em : mr all whole (F i) = F i := if_pos h3
        rw [em] at m4
        simp only [if_pos h3, cnadd]
        simp only [← cnsub]
        simp only [cnsub, cnadd]
        exact ⟨m4.1, fun h => ⟨ga, gs, hi, hi, hi, m4.2 h⟩⟩
      · by_cases h4 : all = 0
        · have em : mr all whole (F i) = 0 := by
            unfold mr
            rw [if_neg h3, if_pos h4]
          rw [em] at m4
          simp only [if_neg h3, if_pos h4, cnsub, cnadd]
          exact ⟨m4.1, fun h => ⟨ga, gs, hi, hi, hi, m4.2 h⟩⟩
        · have em : mr all whole (F i) = pt whole all (F i) := by
            unfold mr
            rw [if_neg h3, if_neg h4]
          have hz : ¬ cn all = 0 := by
            rw [c2]
            exact h4
          have ed : cn (whole * F i) / cn all = cn (pt whole all (F i)) := cndiv ⟨by omega, by omega⟩ (by omega) (by omega)
          rw [em] at m4
          simp only [if_neg h3, if_neg h4, cnmul, ed, cnsub, cnadd]
          exact ⟨m4.1, fun h => ⟨ga, gs, hi, h4, hi, hi, m4.2 h⟩⟩
end Shares
