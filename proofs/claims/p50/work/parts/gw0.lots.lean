/-! how far trades reach -/
/-- accounts (but the house) that hold some of a contract -/
def nzF (f : Nat → Int32) (c : Nat) : Nat → Int
  | 0 => 0
  | n + 1 => nzF f c n + (if f (4 * n + c) = 0 then 0 else 1)
def ab (x : Int) : Int := max x (-x)
/-- from q to q': y lots fell, positions of c grew by X c at most, rows by w, cash by u times 10000 -/
def ZL (q q' : PM) (X : Nat → Nat) (y w u : Nat) : Prop := ((q'.1 13 4 8).toInt < 1000000000 → (q'.1 13 4 8).toInt = (q.1 13 4 8).toInt + y) ∧ (∀ c, c < 4 → psF (q'.1 13 1) c 9 ≤ psF (q.1 13 1) c 9 + X c) ∧ (∀ c, c < 4 → nzF (q'.1 13 1) c 8 ≤ nzF (q.1 13 1) c 8 + X c) ∧ (∀ a c, a < 9 → c < 4 → ab (q'.1 13 1 (4 * a + c)).toInt ≤ ab (q.1 13 1 (4 * a + c)).toInt + X c) ∧ (∀ c, c < 4 → q'.1 13 1 (32 + c) = q.1 13 1 (32 + c)) ∧ (∀ a, a < 9 → ab (q'.2.1 14 1 a).toInt ≤ ab (q.2.1 14 1 a).toInt + 10000 * u) ∧ ∀ K : Int, 0 ≤ K → (∀ k, k < 60 → (q.1 13 34 k).toInt ≤ K) → ∀ k, k < 60 → (q'.1 13 34 k).toInt ≤ K + w
def ZR (q q' : PM) : Prop := ∃ (X : Nat → Nat) (y w u : Nat), (∀ c, c < 4 → X c ≤ y) ∧ w ≤ y ∧ u ≤ 2 * y ∧ ZL q q' X y w u
section Lots
variable {q p r : PM}
theorem zl_refl (q : PM) : ZL q q (fun _ => 0) 0 0 0 := by
  refine ⟨fun _ => by show _ = _ + ((0 : Nat) : Int); omega, fun c hc => by show _ ≤ _ + ((0 : Nat) : Int); omega, fun c hc => by show _ ≤ _ + ((0 : Nat) : Int); omega, fun a c ha hc => by show _ ≤ _ + ((0 : Nat) : Int); omega, fun _ _ => rfl, fun a ha => by omega, fun K hK h k hk => by have := h k hk; omega⟩
theorem zl_trans {X X' : Nat → Nat} {y y' w w' u u' : Nat} (h : ZL q p X y w u) (h' : ZL p r X' y' w' u') : ZL q r (fun c => X c + X' c) (y + y') (w + w') (u + u') := by
  obtain ⟨a1, a2, a3, a4, a5, a6, a7⟩ := h
  obtain ⟨b1, b2, b3, b4, b5, b6, b7⟩ := h'
  refine ⟨fun hr => ?_, fun c hc => ?_, fun c hc => ?_, fun a c ha hc => ?_, fun c hc => (b5 c hc).trans (a5 c hc), fun a ha => ?_, fun K hK h k hk => ?_⟩
  · have h1 := b1 hr
    have h2 := a1 (by omega)
    omega
  · have h1 := a2 c hc
    have h2 := b2 c hc
    show _ ≤ _ + ((X c + X' c : Nat) : Int)
    omega
  · have h1 := a3 c hc
    have h2 := b3 c hc
    show _ ≤ _ + ((X c + X' c : Nat) : Int)
    omega
  · have h1 := a4 a c ha hc
    have h2 := b4 a c ha hc
    show _ ≤ _ + ((X c + X' c : Nat) : Int)
    omega
  · have h1 := a6 a ha
    have h2 := b6 a ha
    omega
  · have h1 := b7 (K + w) (by omega) (a7 K hK h) k hk
    omega
/-- cells that do not count -/
theorem zl_c (h1 : p.1 13 1 = q.1 13 1) (h4 : p.1 13 4 8 = q.1 13 4 8) (h34 : p.1 13 34 = q.1 13 34) (hJ : p.2.1 14 1 = q.2.1 14 1) : ZL q p (fun _ => 0) 0 0 0 := by
  have h := zl_refl q
  unfold ZL at h ⊢
  rw [h1, h4, h34, hJ]
  exact h
theorem zl_pI {k i s : Nat} {v : Int32} {X : Nat → Nat} {y w u : Nat} (hk : ¬ (k = 13 ∧ (i = 1 ∨ i = 4 ∨ i = 34))) (h : ZL q p X y w u) : ZL q (pI p k i s v) X y w u := by
  have e : ∀ j, j = 1 ∨ j = 4 ∨ j = 34 → (pI p k i s v).1 13 j = p.1 13 j := by
    intro j hj
    funext S
    rw [pI_1]
    exact u3_ne fun e => hk ⟨e.1.symm, by have := e.2.1; omega⟩
  unfold ZL at h ⊢
  rw [e 1 (by decide), e 4 (by decide), e 34 (by decide)]
  exact h
theorem zl_pJ {k i s : Nat} {v : Int64} {X : Nat → Nat} {y w u : Nat} (hk : ¬ (k = 14 ∧ i = 1)) (h : ZL q p X y w u) : ZL q (pJ p k i s v) X y w u := by
  have e : (pJ p k i s v).2.1 14 1 = p.2.1 14 1 := by
    funext S
    rw [pJ_J]
    exact u3_ne fun e => hk ⟨e.1.symm, e.2.1.symm⟩
  unfold ZL at h ⊢
  rw [pJ_1, e]
  exact h
theorem zr_refl (q : PM) : ZR q q := ⟨fun _ => 0, 0, 0, 0, fun _ _ => Nat.le_refl _, Nat.le_refl _, Nat.zero_le _, zl_refl q⟩
theorem zr_trans (h : ZR q p) (h' : ZR p r) : ZR q r := by
  obtain ⟨X, y, w, u, l1, l2, l3, H⟩ := h
  obtain ⟨X', y', w', u', m1, m2, m3, H'⟩ := h'
  exact ⟨_, _, _, _, fun c hc => Nat.add_le_add (l1 c hc) (m1 c hc), Nat.add_le_add l2 m2, by omega, zl_trans H H'⟩
theorem zr_pI {k i s : Nat} {v : Int32} (hk : ¬ (k = 13 ∧ (i = 1 ∨ i = 4 ∨ i = 34))) (h : ZR q p) : ZR q (pI p k i s v) := by
  obtain ⟨X, y, w, u, l1, l2, l3, H⟩ := h
  exact ⟨X, y, w, u, l1, l2, l3, zl_pI hk H⟩
theorem zr_pJ {k i s : Nat} {v : Int64} (hk : ¬ (k = 14 ∧ i = 1)) (h : ZR q p) : ZR q (pJ p k i s v) := by
  obtain ⟨X, y, w, u, l1, l2, l3, H⟩ := h
  exact ⟨X, y, w, u, l1, l2, l3, zl_pJ hk H⟩
theorem zr_fallen {s : Nat} {v : Int32} (hs : s < 8) (h : ZR q p) : ZR q (pI p 13 4 s v) := by
  obtain ⟨X, y, w, u, l1, l2, l3, H⟩ := h
  refine ⟨X, y, w, u, l1, l2, l3, ?_⟩
  have e : ∀ j, j = 1 ∨ j = 34 → (pI p 13 4 s v).1 13 j = p.1 13 j := by
    intro j hj
    funext S
    rw [pI_1]
    exact u3_i (by omega)
  have e4 : (pI p 13 4 s v).1 13 4 8 = p.1 13 4 8 := by
    rw [pI_1]
    exact u3_s (by omega)
  unfold ZL at H ⊢
  rw [e 1 (by decide), e4, e 34 (by decide)]
  exact H
/-- a rest falls -/
theorem aB_cn (n : Int32) : aB n = cn n.toInt.natAbs := by
  unfold aB
  by_cases h : n < 0
  · rw [if_pos h]
    have h2 : n.toInt < 0 := by
      rw [Int32.lt_iff_toInt_lt] at h
      exact h
    have : ((n.toInt.natAbs : Nat) : Int) = -n.toInt := by omega
    rw [this, ← cnneg, ← cn_of n]
  · rw [if_neg h]
    have h2 : ¬ n.toInt < 0 := by
      intro h3
      exact h (Int32.lt_iff_toInt_lt.mpr h3)
    have : ((n.toInt.natAbs : Nat) : Int) = n.toInt := by omega
    rw [this]
    exact cn_of n
theorem stA_I (z n : Int32) : (stA z n).toInt = min 1000000000 (z.toInt + (n.toInt.natAbs : Int)) := by
  have h1 := Int32.le_toInt z
  exact cn_I ⟨by omega, by omega⟩
theorem zl_add (q : PM) {s : Nat} {v : Int32} (n : Int32) : ZL q (pI (pI q 13 4 s v) 13 4 8 (stA (q.1 13 4 8) n)) (fun _ => 0) n.toInt.natAbs 0 0 := by
  have h := zl_refl q
  have e : ∀ j, j = 1 ∨ j = 34 → (pI (pI q 13 4 s v) 13 4 8 (stA (q.1 13 4 8) n)).1 13 j = q.1 13 j := by
    intro j hj
    funext S
    rw [pI_1, u3_i (by omega), pI_1, u3_i (by omega)]
  unfold ZL at h ⊢
  rw [e 1 (by decide), e 34 (by decide), pI_at, stA_I]
  exact ⟨fun h => by omega, h.2⟩
theorem zl_falls (o n st : Int32) : ZL q (v12_falls q o n st) (fun _ => 0) n.toInt.natAbs 0 0 := by
  have key : ∀ (p : PM) (s : Nat) (v : Int32), p.1 13 4 8 = q.1 13 4 8 → ZL q p (fun _ => 0) 0 0 0 → ZL q (pI (pI p 13 4 s v) 13 4 8 (stA (q.1 13 4 8) n)) (fun _ => 0) n.toInt.natAbs 0 0 := by
    intro p s v h1 h2
    rw [← h1]
    have h := zl_trans h2 (zl_add p (s := s) (v := v) n)
    have e0 : 0 + n.toInt.natAbs = n.toInt.natAbs := Nat.zero_add _
    rw [e0] at h
    exact h
  have r4 : ∀ (p : PM) (k i s : Nat) (v : Int32), ¬ (k = 13 ∧ i = 4) → p.1 13 4 8 = q.1 13 4 8 → (pI p k i s v).1 13 4 8 = q.1 13 4 8 := by
    intro p k i s v h1 h2
    rw [pI_1, u3_ne (fun e => h1 ⟨e.1.symm, e.2.1.symm⟩)]
    exact h2
  unfold v12_falls bv12_falls
  repeat' first
    | with_reducible exact zl_refl q
    | with_reducible exact rfl
    | with_reducible apply key
    | with_reducible refine zl_pI (by decide) ?_
    | with_reducible refine r4 _ _ _ _ _ (by decide) ?_
    | split
    | dsimp only
theorem zl_falls1 (o n : Int32) : ZL q (v12_falls1 q o n) (fun _ => 0) n.toInt.natAbs 0 0 := by
  have t : ∀ {p : PM} {v : Int32}, ZL q p (fun _ => 0) n.toInt.natAbs 0 0 → ZL q (v12_newTurn p v) (fun _ => 0) n.toInt.natAbs 0 0 := by
    intro p v h
    unfold v12_newTurn bv12_newTurn
    exact zl_pI (by decide) (zl_pI (by decide) h)
  have a : ∀ {p : PM} {v : Int32}, ZL q p (fun _ => 0) n.toInt.natAbs 0 0 → ZL q (v12_showsAnew p v) (fun _ => 0) n.toInt.natAbs 0 0 := by
    intro p v h
    unfold v12_showsAnew bv12_showsAnew
    repeat' first
      | with_reducible exact h
      | with_reducible refine zl_pI (by decide) ?_
      | split
      | dsimp only
  unfold v12_falls1 bv12_falls1
  repeat' first
    | with_reducible exact zl_falls _ _ _
    | with_reducible apply t
    | with_reducible apply a
    | split
    | dsimp only
/-- a trade -/
theorem nzF_upd {f g : Nat → Int32} {a c : Nat} (h1 : ∀ m, ¬ m = a → g (4 * m + c) = f (4 * m + c)) : ∀ n, nzF g c n ≤ nzF f c n + (if a < n then 1 else 0)
  | 0 => by
    show (0 : Int) ≤ 0 + _
    split <;> omega
  | n + 1 => by
    have ih := nzF_upd h1 n
    show nzF g c n + _ ≤ nzF f c n + _ + _
    by_cases e : n = a
    · subst e
      rw [if_neg (by omega)] at ih
      rw [if_pos (show n < n + 1 by omega)]
      split <;> split <;> omega
    · rw [h1 n e]
      by_cases e2 : a < n
      · rw [if_pos e2] at ih
        rw [if_pos (show a < n + 1 by omega)]
        omega
      · rw [if_neg e2] at ih
        rw [if_neg (show ¬ a < n + 1 by omega)]
        omega
theorem nzF_c {f g : Nat → Int32} {c : Nat} (h : ∀ m, g (4 * m + c) = f (4 * m + c)) : ∀ n, nzF g c n = nzF f c n
  | 0 => rfl
  | n + 1 => by
    show nzF g c n + _ = nzF f c n + _
    rw [nzF_c h n, h n]
def xd (b c m : Nat) : Nat := if (b < 4 ∧ c = b) ∨ (4 ≤ b ∧ (c = b - 4 ∨ c = b - 3)) then m else 0
theorem xd_le (b c m : Nat) : xd b c m ≤ m := by
  unfold xd
  split <;> omega
theorem zl_hold {a b : Nat} {n z : Int} (ha : a < 8) (hb : b < 6) (n0 : ¬ n = 0) (n1 : -50 ≤ n) (n2 : n ≤ 50) (z1 : -9999 ≤ z) (z2 : z ≤ 9999) : ZL q (hdQ q a b (cn n) (cn z)) (fun c => xd b c n.natAbs) 0 0 n.natAbs := by
  have hn : rg n := ⟨by omega, by omega⟩
  have e1 : (cn n).toInt = n := cn_I hn
  have E : ∀ m c, c < 4 → (hdQ q a b (cn n) (cn z)).1 13 1 (4 * m + c) = if m = a ∧ ((b < 4 ∧ c = b) ∨ (4 ≤ b ∧ c = b - 4)) then q.1 13 1 (4 * m + c) + cn n else if m = a ∧ 4 ≤ b ∧ c = b - 3 then q.1 13 1 (4 * m + c) - cn n else q.1 13 1 (4 * m + c) := by
    intro m c hc
    rw [hdQ_p]
    by_cases h : b < 4
    · rw [if_pos h]
      by_cases h2 : 4 * m + c = 4 * a + b
      · rw [if_pos h2, if_pos ⟨by omega, Or.inl ⟨h, by omega⟩⟩]
      · rw [if_neg h2, if_neg (by omega), if_neg (by omega)]
    · rw [if_neg h]
      by_cases h2 : 4 * m + c = 4 * a + (b - 3)
      · rw [if_pos h2, if_neg (by omega), if_pos ⟨by omega, by omega, by omega⟩]
      · rw [if_neg h2]
        by_cases h3 : 4 * m + c = 4 * a + (b - 4)
        · rw [if_pos h3, if_pos ⟨by omega, Or.inr ⟨by omega, by omega⟩⟩]
        · rw [if_neg h3, if_neg (by omega), if_neg (by omega)]
  have P : ∀ m c, c < 4 → ab ((hdQ q a b (cn n) (cn z)).1 13 1 (4 * m + c)).toInt ≤ ab (q.1 13 1 (4 * m + c)).toInt + xd b c n.natAbs := by
    intro m c hc
    have h1 := i32_add_abs (q.1 13 1 (4 * m + c)) (cn n)
    have h2 := i32_sub_abs (q.1 13 1 (4 * m + c)) (cn n)
    rw [e1] at h1 h2
    rw [E m c hc]
    unfold xd ab
    by_cases g : (b < 4 ∧ c = b) ∨ (4 ≤ b ∧ (c = b - 4 ∨ c = b - 3))
    · rw [if_pos g]
      split
      · omega
      · split <;> omega
    · rw [if_neg g, if_neg (by omega), if_neg (by omega)]
      omega
  refine ⟨?_, fun c hc => ?_, fun c hc => ?_, fun m c _ hc => P m c hc, fun c hc => ?_, fun m hm => ?_, fun K hK h k hk => ?_⟩
  · rw [hdQ_13 (by decide)]
    exact fun _ => by show _ = _ + ((0 : Nat) : Int); omega
  · by_cases g : (b < 4 ∧ c = b) ∨ (4 ≤ b ∧ (c = b - 4 ∨ c = b - 3))
    · have h := psF_upd (f := q.1 13 1) (g := (hdQ q a b (cn n) (cn z)).1 13 1) (a := a) (c := c) (d := (n.natAbs : Int)) (by omega) (fun m hm => by rw [E m c hc, if_neg (by omega), if_neg (by omega)]) (by
        have := P a c hc
        unfold xd ab at this
        rw [if_pos g] at this
        exact this) 9
      rw [if_pos (by omega)] at h
      show _ ≤ _ + ((xd b c n.natAbs : Nat) : Int)
      unfold xd
      rw [if_pos g]
      exact h
    · rw [psF_congr (f := q.1 13 1) (fun m => by rw [E m c hc, if_neg (by omega), if_neg (by omega)])]
      omega
  · by_cases g : (b < 4 ∧ c = b) ∨ (4 ≤ b ∧ (c = b - 4 ∨ c = b - 3))
    · have h := nzF_upd (f := q.1 13 1) (g := (hdQ q a b (cn n) (cn z)).1 13 1) (a := a) (c := c) (fun m hm => by rw [E m c hc, if_neg (by omega), if_neg (by omega)]) 8
      rw [if_pos ha] at h
      show _ ≤ _ + ((xd b c n.natAbs : Nat) : Int)
      unfold xd
      rw [if_pos g]
      omega
    · rw [nzF_c (f := q.1 13 1) (fun m => by rw [E m c hc, if_neg (by omega), if_neg (by omega)])]
      omega
  · have h := E 8 c hc
    rw [if_neg (by omega), if_neg (by omega)] at h
    exact h
  · by_cases hm2 : m = a
    · subst hm2
      rw [hdQ_J, u3_same, cl_mul hn ⟨by omega, by omega⟩]
      have h4 := i64_sub_abs (q.2.1 14 1 m) (cl (n * z))
      have e2 : (n * z).natAbs = n.natAbs * z.natAbs := Int.natAbs_mul n z
      have e3 : n.natAbs * z.natAbs ≤ n.natAbs * 9999 := Nat.mul_le_mul_left _ (by omega)
      rw [cl_I (a := n * z) ⟨by omega, by omega⟩] at h4
      unfold ab
      omega
    · rw [hdQ_J, u3_s hm2]
      omega
  · have h2 := h k hk
    rw [hdQ_13 (by decide)]
    omega
theorem zl_row {s : Nat} {v : Int32} {X : Nat → Nat} {y u m : Nat} (hv : v.toInt ≤ m) (h : ZL q p X y 0 u) : ZL q (pI p 13 34 s v) X y m u := by
  obtain ⟨a1, a2, a3, a4, a5, a6, a7⟩ := h
  have e : ∀ j, j = 1 ∨ j = 4 → (pI p 13 34 s v).1 13 j = p.1 13 j := by
    intro j hj
    funext S
    rw [pI_1]
    exact u3_i (by omega)
  refine ⟨by rw [e 4 (by decide)]; exact a1, by rw [e 1 (by decide)]; exact a2, by rw [e 1 (by decide)]; exact a3, by rw [e 1 (by decide)]; exact a4, by rw [e 1 (by decide)]; exact a5, a6, fun K hK h k hk => ?_⟩
  have h1 := a7 K hK h k hk
  rw [pI_1]
  by_cases es : k = s
  · rw [es, u3_same]
    omega
  · rw [u3_s es]
    omega
theorem zl_deals (v1 v2 v3 v4 v5 : Int32) : ∃ m : Nat, m ≤ v5.toInt.natAbs ∧ ZL q (v12_deals q v1 v2 v3 v4 v5) (fun c => xd v1.toInt.toNat c m + xd v1.toInt.toNat c m) 0 m (m + m) := by
  unfold v12_deals
  by_cases g : (0 ≤ v1.toInt ∧ v1.toInt < 6) ∧ (0 ≤ v2.toInt ∧ v2.toInt < 8) ∧ (0 ≤ v3.toInt ∧ v3.toInt < 8) ∧ (-9999 ≤ v4.toInt ∧ v4.toInt ≤ 9999) ∧ (1 ≤ v5.toInt ∧ v5.toInt ≤ 50)
  · refine ⟨v5.toInt.natAbs, Nat.le_refl _, ?_⟩
    rw [if_pos g]
    obtain ⟨⟨g1, g2⟩, ⟨g3, g4⟩, ⟨g5, g6⟩, ⟨g7, g8⟩, g9, ga⟩ := g
    obtain ⟨b, hb⟩ : ∃ b : Nat, v1.toInt = b := ⟨v1.toInt.toNat, by omega⟩
    obtain ⟨A, hA⟩ : ∃ A : Nat, v2.toInt = A := ⟨v2.toInt.toNat, by omega⟩
    obtain ⟨B, hB⟩ : ∃ B : Nat, v3.toInt = B := ⟨v3.toInt.toNat, by omega⟩
    have e1 : v1 = cn b := by rw [← hb]; exact cn_of v1
    have e2 : v2 = cn A := by rw [← hA]; exact cn_of v2
    have e3 : v3 = cn B := by rw [← hB]; exact cn_of v3
    obtain ⟨n, hn⟩ : ∃ n, v5.toInt = n := ⟨_, rfl⟩
    obtain ⟨z, hz⟩ : ∃ z, v4.toInt = z := ⟨_, rfl⟩
    have e5 : v5 = cn n := by rw [← hn]; exact cn_of v5
    have e4 : v4 = cn z := by rw [← hz]; exact cn_of v4
    rw [hb, hn]
    rw [hb] at g2
    rw [hA] at g4
    rw [hB] at g6
    rw [hz] at g7 g8
    rw [hn] at g9 ga
    have h1 := zl_hold (q := q) (a := A) (b := b) (n := n) (z := z) (by omega) (by omega) (by omega) (by omega) ga g7 g8
    have h2 := zl_hold (q := hdQ q A b (cn n) (cn z)) (a := B) (b := b) (n := -n) (z := z) (by omega) (by omega) (by omega) (by omega) (by omega) g7 g8
    have h3 := zl_trans h1 h2
    have en : (-n).natAbs = n.natAbs := Int.natAbs_neg n
    rw [en] at h3
    have hv : v5.toInt ≤ (n.natAbs : Nat) := by omega
    have e6 : (b : Int).toNat = b := rfl
    rw [e6]
    unfold bv12_deals
    have k1 : v12_holds q v2 v1 v5 v4 = hdQ q A b (cn n) (cn z) := by rw [e1, e2, e4, e5]; exact (holds_q (by omega) (by omega) _ _).2
    have k2 : v12_holds (hdQ q A b (cn n) (cn z)) v3 v1 (-v5) v4 = hdQ (hdQ q A b (cn n) (cn z)) B b (cn (-n)) (cn z) := by rw [e1, e3, e4, e5, cnneg]; exact (holds_q (by omega) (by omega) _ _).2
    rw [k1]
    dsimp only
    rw [k2]
    refine zl_pI (by decide) (zl_pI (by decide) (zl_pI (by decide) (zl_pI (by decide) (zl_row hv (zl_pI (by decide) (zl_pI (by decide) (zl_pI (by decide) (zl_pI (by decide) ?_))))))))
    exact h3
  · rw [if_neg g]
    refine ⟨0, Nat.zero_le _, ?_⟩
    have e : (fun c => xd v1.toInt.toNat c 0 + xd v1.toInt.toNat c 0) = fun _ => 0 := by
      funext c
      unfold xd
      split <;> rfl
    rw [e]
    exact zl_refl q
/-- one trade, two rests -/
theorem zr_trade {b A B z n o1 s1 o2 s2 : Int32} (h : ZR q p) : ZR q (v12_falls (v12_falls (v12_deals p b A B z n) o1 n s1) o2 n s2) := by
  obtain ⟨m, hm, h1⟩ := zl_deals (q := p) b A B z n
  refine zr_trans h ⟨_, _, _, _, fun c hc => ?_, ?_, ?_, zl_trans (zl_trans h1 (zl_falls o1 n s1)) (zl_falls o2 n s2)⟩
  · have := xd_le b.toInt.toNat c m
    show xd b.toInt.toNat c m + xd b.toInt.toNat c m + 0 + 0 ≤ 0 + n.toInt.natAbs + n.toInt.natAbs
    omega
  · omega
  · omega
/-- two trades, three rests -/
theorem zr_join {b : Nat} {v w A B z A' B' z' n o1 o2 o3 : Int32} (hb : b < 3) (hv : v = cn b) (hw : w = cn ((b + 1 : Nat) : Int)) (h : ZR q p) : ZR q (v12_falls1 (v12_falls1 (v12_falls1 (v12_deals (v12_deals p v A B z n) w A' B' z' n) o1 n) o2 n) o3 n) := by
  obtain ⟨m, hm, h1⟩ := zl_deals (q := p) v A B z n
  obtain ⟨m2, hm2, h2⟩ := zl_deals (q := v12_deals p v A B z n) w A' B' z' n
  have e1 : v.toInt.toNat = b := by rw [hv, cn_I ⟨by omega, by omega⟩]; rfl
  have e2 : w.toInt.toNat = b + 1 := by rw [hw, cn_I ⟨by omega, by omega⟩]; rfl
  rw [e1] at h1
  rw [e2] at h2
  refine zr_trans h ⟨_, _, _, _, fun c hc => ?_, ?_, ?_, zl_trans (zl_trans (zl_trans (zl_trans h1 h2) (zl_falls1 o1 n)) (zl_falls1 o2 n)) (zl_falls1 o3 n)⟩
  · show xd b c m + xd b c m + (xd (b + 1) c m2 + xd (b + 1) c m2) + 0 + 0 + 0 ≤ 0 + 0 + n.toInt.natAbs + n.toInt.natAbs + n.toInt.natAbs
    unfold xd
    split <;> split <;> omega
  · omega
  · omega
/-- three trades, four rests -/
theorem zr_chain {A B z A' B' z' A2 B2 z2 n o1 o2 o3 o4 : Int32} (h : ZR q p) : ZR q (v12_falls1 (v12_falls1 (v12_falls1 (v12_falls1 (v12_deals (v12_deals (v12_deals p (cn 0) A B z n) (cn 1) A' B' z' n) (cn 2) A2 B2 z2 n) o1 n) o2 n) o3 n) o4 n) := by
  obtain ⟨m, hm, h1⟩ := zl_deals (q := p) (cn 0) A B z n
  obtain ⟨m2, hm2, h2⟩ := zl_deals (q := v12_deals p (cn 0) A B z n) (cn 1) A' B' z' n
  obtain ⟨m3, hm3, h3⟩ := zl_deals (q := v12_deals (v12_deals p (cn 0) A B z n) (cn 1) A' B' z' n) (cn 2) A2 B2 z2 n
  have e1 : (cn 0).toInt.toNat = 0 := by decide
  have e2 : (cn 1).toInt.toNat = 1 := by decide
  have e3 : (cn 2).toInt.toNat = 2 := by decide
  rw [e1] at h1
  rw [e2] at h2
  rw [e3] at h3
  refine zr_trans h ⟨_, _, _, _, fun c hc => ?_, ?_, ?_, zl_trans (zl_trans (zl_trans (zl_trans (zl_trans (zl_trans h1 h2) h3) (zl_falls1 o1 n)) (zl_falls1 o2 n)) (zl_falls1 o3 n)) (zl_falls1 o4 n)⟩
  · show xd 0 c m + xd 0 c m + (xd 1 c m2 + xd 1 c m2) + (xd 2 c m3 + xd 2 c m3) + 0 + 0 + 0 + 0 ≤ 0 + 0 + 0 + n.toInt.natAbs + n.toInt.natAbs + n.toInt.natAbs + n.toInt.natAbs
    unfold xd
    split <;> split <;> split <;> omega
  · omega
  · omega
end Lots
theorem zr_v12_newTurn {q : PM}  {p : PM} (v1 : Int32)  (h : ZR q p) : ZR q (v12_newTurn p v1) := by
  unfold v12_newTurn bv12_newTurn
  repeat' first
    | with_reducible exact h
    | with_reducible refine zr_pI (by decide) ?_
    | with_reducible refine zr_pJ (by decide) ?_
    | split
    | dsimp only
theorem zr_v12_pegs_110 {q : PM}  {p : PM} (v1 : Int32) (v2 : Int32) (v4 : Int32)  (h : ZR q p) : ZR q (v12_pegs_110 p v1 v2 v4) := by
  unfold v12_pegs_110 bv12_pegs_110
  repeat' first
    | with_reducible exact h
    | with_reducible refine zr_pI (by decide) ?_
    | with_reducible refine zr_pJ (by decide) ?_
    | with_reducible apply zr_v12_newTurn
    | split
    | dsimp only
theorem zr_v12_pegs_72 {q : PM}  {p : PM} (v1 : Int32) (v2 : Int32) (s0 : Int32)  (h : ZR q p) : ZR q (v12_pegs_72 p v1 v2 s0) := by
  unfold v12_pegs_72 bv12_pegs_72
  repeat' first
    | with_reducible exact h
    | with_reducible refine zr_pI (by decide) ?_
    | with_reducible refine zr_pJ (by decide) ?_
    | with_reducible apply zr_v12_newTurn
    | with_reducible apply zr_v12_pegs_110
    | split
    | dsimp only
theorem zr_v12_pegs {q : PM}  {p : PM} (v1 : Int32)  (h : ZR q p) : ZR q (v12_pegs p v1) := by
  unfold v12_pegs bv12_pegs
  repeat' first
    | with_reducible exact h
    | with_reducible refine zr_pI (by decide) ?_
    | with_reducible refine zr_pJ (by decide) ?_
    | with_reducible apply zr_v12_pegs_72
    | split
    | dsimp only
theorem zr_v12_pegsAll_12 {q : PM} {kv4 : PM → Int32 → Int32 → PM} (hkv4 : ∀ {p : PM} (a1 : Int32) (a2 : Int32), ZR q p → ZR q (kv4 p a1 a2)) : ∀ (n : Nat) {p : PM} (c0 : Int32) (c1 : Int32) (c2 : Int32), ZR q p → ZR q (v12_pegsAll_12 kv4 n p c0 c1 c2) := by
  intro n
  induction n with
  | zero =>
    intro p c0 c1 c2 h
    exact h
  | succ n ih =>
    intro p c0 c1 c2 h
    rw [ev12_pegsAll_12]
    unfold bv12_pegsAll_12
    repeat' first
      | with_reducible exact h
      | with_reducible apply ih
      | with_reducible apply hkv4
      | with_reducible refine zr_pI (by decide) ?_
      | with_reducible refine zr_pJ (by decide) ?_
      | with_reducible apply zr_v12_pegs
      | split
      | dsimp only
theorem zr_v12_pegsAll_4 {q : PM}  : ∀ (n : Nat) {p : PM} (c0 : Int32) (c1 : Int32), ZR q p → ZR q (v12_pegsAll_4 n p c0 c1) := by
  intro n
  induction n with
  | zero =>
    intro p c0 c1 h
    exact h
  | succ n ih =>
    intro p c0 c1 h
    rw [ev12_pegsAll_4]
    unfold bv12_pegsAll_4
    repeat' first
      | with_reducible exact h
      | with_reducible apply ih
      | with_reducible refine zr_pI (by decide) ?_
      | with_reducible refine zr_pJ (by decide) ?_
      | with_reducible apply zr_v12_pegsAll_12
      | split
      | dsimp only
theorem zr_v12_pegsAll {q : PM}  {p : PM}   (h : ZR q p) : ZR q (v12_pegsAll p) := by
  unfold v12_pegsAll bv12_pegsAll
  repeat' first
    | with_reducible exact h
    | with_reducible refine zr_pI (by decide) ?_
    | with_reducible refine zr_pJ (by decide) ?_
    | with_reducible apply zr_v12_pegsAll_4
    | split
    | dsimp only
theorem zr_v12_showsAnew {q : PM}  {p : PM} (v1 : Int32)  (h : ZR q p) : ZR q (v12_showsAnew p v1) := by
  unfold v12_showsAnew bv12_showsAnew
  repeat' first
    | with_reducible exact h
    | with_reducible refine zr_pI (by decide) ?_
    | with_reducible refine zr_pJ (by decide) ?_
    | split
    | dsimp only
theorem zr_v12_comes {q : PM}  {p : PM} (v1 : Int32)  (h : ZR q p) : ZR q (v12_comes p v1) := by
  unfold v12_comes bv12_comes
  repeat' first
    | with_reducible exact h
    | with_reducible refine zr_pI (by decide) ?_
    | with_reducible refine zr_pJ (by decide) ?_
    | with_reducible apply zr_v12_newTurn
    | with_reducible apply zr_v12_showsAnew
    | split
    | dsimp only
theorem zr_v12_clearsGets_2 {q : PM}  : ∀ (n : Nat) {p : PM} (c0 : Int32), ZR q p → ZR q (v12_clearsGets_2 n p c0) := by
  intro n
  induction n with
  | zero =>
    intro p c0 h
    exact h
  | succ n ih =>
    intro p c0 h
    rw [ev12_clearsGets_2]
    unfold bv12_clearsGets_2
    repeat' first
      | with_reducible exact h
      | with_reducible apply ih
      | with_reducible refine zr_pI (by decide) ?_
      | with_reducible refine zr_pJ (by decide) ?_
      | split
      | dsimp only
theorem zr_v12_clearsGets {q : PM}  {p : PM}   (h : ZR q p) : ZR q (v12_clearsGets p) := by
  unfold v12_clearsGets bv12_clearsGets
  repeat' first
    | with_reducible exact h
    | with_reducible refine zr_pI (by decide) ?_
    | with_reducible refine zr_pJ (by decide) ?_
    | with_reducible apply zr_v12_clearsGets_2
    | split
    | dsimp only
theorem zr_v12_sharesByTurns_14 {q : PM}  : ∀ (n : Nat) {p : PM} (c0 : Int32) (c1 : Int32) (c2 : Int32) (c3 : Int32) (c4 : Int32), ZR q p → ZR q (v12_sharesByTurns_14 n p c0 c1 c2 c3 c4) := by
  intro n
  induction n with
  | zero =>
    intro p c0 c1 c2 c3 c4 h
    exact h
  | succ n ih =>
    intro p c0 c1 c2 c3 c4 h
    rw [ev12_sharesByTurns_14]
    unfold bv12_sharesByTurns_14
    repeat' first
      | with_reducible exact h
      | with_reducible apply ih
      | with_reducible refine zr_pI (by decide) ?_
      | with_reducible refine zr_pJ (by decide) ?_
      | split
      | dsimp only
theorem zr_v12_sharesByTurns {q : PM}  {p : PM} (v1 : Int32) (v2 : Int32) (v3 : Int32) (v4 : Int32)  (h : ZR q p) : ZR q (v12_sharesByTurns p v1 v2 v3 v4) := by
  unfold v12_sharesByTurns bv12_sharesByTurns
  repeat' first
    | with_reducible exact h
    | with_reducible refine zr_pI (by decide) ?_
    | with_reducible refine zr_pJ (by decide) ?_
    | with_reducible apply zr_v12_sharesByTurns_14
    | split
    | dsimp only
theorem zr_v12_sharesBySize_17 {q : PM}  : ∀ (n : Nat) {p : PM} (c0 : Int32) (c1 : Int32) (c2 : Int32) (c3 : Int32) (c4 : Int32), ZR q p → ZR q (v12_sharesBySize_17 n p c0 c1 c2 c3 c4) := by
  intro n
  induction n with
  | zero =>
    intro p c0 c1 c2 c3 c4 h
    exact h
  | succ n ih =>
    intro p c0 c1 c2 c3 c4 h
    rw [ev12_sharesBySize_17]
    unfold bv12_sharesBySize_17
    repeat' first
      | with_reducible exact h
      | with_reducible apply ih
      | with_reducible refine zr_pI (by decide) ?_
      | with_reducible refine zr_pJ (by decide) ?_
      | split
      | dsimp only
theorem zr_v12_sharesBySize {q : PM}  {p : PM} (v1 : Int32) (v2 : Int32) (v3 : Int32) (v4 : Int32)  (h : ZR q p) : ZR q (v12_sharesBySize p v1 v2 v3 v4) := by
  unfold v12_sharesBySize bv12_sharesBySize
  repeat' first
    | with_reducible exact h
    | with_reducible refine zr_pI (by decide) ?_
    | with_reducible refine zr_pJ (by decide) ?_
    | with_reducible apply zr_v12_sharesBySize_17
    | split
    | dsimp only
theorem zr_v12_sharesOut_229 {q : PM} {kv207 : PM → Int32 → Int32 → Int32 → Int32 → Int32 → Int32 → PM} (hkv207 : ∀ {p : PM} (a1 : Int32) (a2 : Int32) (a3 : Int32) (a4 : Int32) (a5 : Int32) (a6 : Int32), ZR q p → ZR q (kv207 p a1 a2 a3 a4 a5 a6)) : ∀ (n : Nat) {p : PM} (c0 : Int32) (c1 : Int32) (c2 : Int32) (c3 : Int32) (c4 : Int32) (c5 : Int32) (c6 : Int32), ZR q p → ZR q (v12_sharesOut_229 kv207 n p c0 c1 c2 c3 c4 c5 c6) := by
  intro n
  induction n with
  | zero =>
    intro p c0 c1 c2 c3 c4 c5 c6 h
    exact h
  | succ n ih =>
    intro p c0 c1 c2 c3 c4 c5 c6 h
    rw [ev12_sharesOut_229]
    unfold bv12_sharesOut_229
    repeat' first
      | with_reducible exact h
      | with_reducible apply ih
      | with_reducible apply hkv207
      | with_reducible refine zr_pI (by decide) ?_
      | with_reducible refine zr_pJ (by decide) ?_
      | split
      | dsimp only
theorem zr_v12_sharesOut_207 {q : PM}  : ∀ (n : Nat) {p : PM} (c0 : Int32) (c1 : Int32) (c2 : Int32) (c3 : Int32) (c4 : Int32) (c5 : Int32), ZR q p → ZR q (v12_sharesOut_207 n p c0 c1 c2 c3 c4 c5) := by
  intro n
  induction n with
  | zero =>
    intro p c0 c1 c2 c3 c4 c5 h
    exact h
  | succ n ih =>
    intro p c0 c1 c2 c3 c4 c5 h
    rw [ev12_sharesOut_207]
    unfold bv12_sharesOut_207
    repeat' first
      | with_reducible exact h
      | with_reducible apply ih
      | with_reducible refine zr_pI (by decide) ?_
      | with_reducible refine zr_pJ (by decide) ?_
      | with_reducible apply zr_v12_sharesOut_229
      | split
      | dsimp only
theorem zr_v12_sharesOut_116 {q : PM}  : ∀ (n : Nat) {p : PM} (c0 : Int32) (c1 : Int32) (c2 : Int32) (c3 : Int32) (c4 : Int32) (c5 : Int32) (c6 : Int32), ZR q p → ZR q (v12_sharesOut_116 n p c0 c1 c2 c3 c4 c5 c6) := by
  intro n
  induction n with
  | zero =>
    intro p c0 c1 c2 c3 c4 c5 c6 h
    exact h
  | succ n ih =>
    intro p c0 c1 c2 c3 c4 c5 c6 h
    rw [ev12_sharesOut_116]
    unfold bv12_sharesOut_116
    repeat' first
      | with_reducible exact h
      | with_reducible apply ih
      | with_reducible refine zr_pI (by decide) ?_
      | with_reducible refine zr_pJ (by decide) ?_
      | with_reducible apply zr_v12_sharesOut_207
      | split
      | dsimp only
theorem zr_v12_sharesOut_61 {q : PM}  : ∀ (n : Nat) {p : PM} (c0 : Int32) (c1 : Int32) (c2 : Int32) (c3 : Int32) (c4 : Int32) (c5 : Int32), ZR q p → ZR q (v12_sharesOut_61 n p c0 c1 c2 c3 c4 c5) := by
  intro n
  induction n with
  | zero =>
    intro p c0 c1 c2 c3 c4 c5 h
    exact h
  | succ n ih =>
    intro p c0 c1 c2 c3 c4 c5 h
    rw [ev12_sharesOut_61]
    unfold bv12_sharesOut_61
    repeat' first
      | with_reducible exact h
      | with_reducible apply ih
      | with_reducible refine zr_pI (by decide) ?_
      | with_reducible refine zr_pJ (by decide) ?_
      | with_reducible apply zr_v12_sharesOut_116
      | split
      | dsimp only
theorem zr_v12_sharesOut {q : PM}  {p : PM} (v1 : Int32) (v2 : Int32) (v3 : Int32) (v4 : Int32)  (h : ZR q p) : ZR q (v12_sharesOut p v1 v2 v3 v4) := by
  unfold v12_sharesOut bv12_sharesOut
  repeat' first
    | with_reducible exact h
    | with_reducible refine zr_pI (by decide) ?_
    | with_reducible refine zr_pJ (by decide) ?_
    | with_reducible apply zr_v12_sharesOut_61
    | split
    | dsimp only
theorem zr_v12_guards_50 {q : PM}  : ∀ (n : Nat) {p : PM} (c0 : Int32) (c1 : Int32), ZR q p → ZR q (v12_guards_50 n p c0 c1) := by
  intro n
  induction n with
  | zero =>
    intro p c0 c1 h
    exact h
  | succ n ih =>
    intro p c0 c1 h
    rw [ev12_guards_50]
    unfold bv12_guards_50
    repeat' first
      | with_reducible exact h
      | with_reducible apply ih
      | with_reducible refine zr_pI (by decide) ?_
      | with_reducible refine zr_pJ (by decide) ?_
      | split
      | dsimp only
theorem zr_v12_guards {q : PM}  {p : PM} (v1 : Int32)  (h : ZR q p) : ZR q (v12_guards p v1) := by
  unfold v12_guards bv12_guards
  repeat' first
    | with_reducible exact h
    | with_reducible refine zr_pI (by decide) ?_
    | with_reducible refine zr_pJ (by decide) ?_
    | with_reducible apply zr_v12_guards_50
    | split
    | dsimp only
theorem zr_v12_tradesWith_49 {q : PM} {p : PM} (v1 : Int32) (v2 : Int32) (v3 : Int32) (v4 : Int32) (s0 : Int32) (h : ZR q p) : ZR q (v12_tradesWith_49 p v1 v2 v3 v4 s0) := by
  unfold v12_tradesWith_49 bv12_tradesWith_49
  repeat' first
    | with_reducible exact h
    | with_reducible apply zr_v12_newTurn
    | with_reducible apply zr_v12_showsAnew
    | with_reducible apply zr_v12_guards
    | with_reducible apply zr_trade
    | split
    | dsimp only
theorem zr_v12_tradesWith {q : PM}  {p : PM} (v1 : Int32) (v2 : Int32) (v3 : Int32)  (h : ZR q p) : ZR q (v12_tradesWith p v1 v2 v3) := by
  unfold v12_tradesWith bv12_tradesWith
  repeat' first
    | with_reducible exact h
    | with_reducible refine zr_pI (by decide) ?_
    | with_reducible refine zr_pJ (by decide) ?_
    | with_reducible apply zr_v12_tradesWith_49
    | split
    | dsimp only
theorem zr_v12_servesAll_147 {q : PM}  : ∀ (n : Nat) {p : PM} (c0 : Int32) (c1 : Int32) (c2 : Int32) (c3 : Int32) (c4 : Int32), ZR q p → ZR q (v12_servesAll_147 n p c0 c1 c2 c3 c4) := by
  intro n
  induction n with
  | zero =>
    intro p c0 c1 c2 c3 c4 h
    exact h
  | succ n ih =>
    intro p c0 c1 c2 c3 c4 h
    rw [ev12_servesAll_147]
    unfold bv12_servesAll_147
    repeat' first
      | with_reducible exact h
      | with_reducible apply ih
      | with_reducible refine zr_pI (by decide) ?_
      | with_reducible refine zr_pJ (by decide) ?_
      | with_reducible apply zr_v12_tradesWith
      | split
      | dsimp only
theorem zr_v12_servesAll_30 {q : PM}  : ∀ (n : Nat) {p : PM} (c0 : Int32) (c1 : Int32) (c2 : Int32) (c3 : Int32) (c4 : Int32), ZR q p → ZR q (v12_servesAll_30 n p c0 c1 c2 c3 c4) := by
  intro n
  induction n with
  | zero =>
    intro p c0 c1 c2 c3 c4 h
    exact h
  | succ n ih =>
    intro p c0 c1 c2 c3 c4 h
    rw [ev12_servesAll_30]
    unfold bv12_servesAll_30
    repeat' first
      | with_reducible exact h
      | with_reducible apply ih
      | with_reducible refine zr_pI (by decide) ?_
      | with_reducible refine zr_pJ (by decide) ?_
      | with_reducible apply zr_v12_sharesByTurns
      | with_reducible apply zr_v12_sharesBySize
      | with_reducible apply zr_v12_sharesOut
      | with_reducible apply zr_v12_servesAll_147
      | split
      | dsimp only
theorem zr_v12_servesAll {q : PM}  {p : PM} (v1 : Int32) (v2 : Int32)  (h : ZR q p) : ZR q (v12_servesAll p v1 v2) := by
  unfold v12_servesAll bv12_servesAll
  repeat' first
    | with_reducible exact h
    | with_reducible refine zr_pI (by decide) ?_
    | with_reducible refine zr_pJ (by decide) ?_
    | with_reducible apply zr_v12_clearsGets
    | with_reducible apply zr_v12_servesAll_30
    | split
    | dsimp only
theorem zr_v12_removesOwn_2 {q : PM}  : ∀ (n : Nat) {p : PM} (c0 : Int32) (c1 : Int32) (c2 : Int32), ZR q p → ZR q (v12_removesOwn_2 n p c0 c1 c2) := by
  intro n
  induction n with
  | zero =>
    intro p c0 c1 c2 h
    exact h
  | succ n ih =>
    intro p c0 c1 c2 h
    rw [ev12_removesOwn_2]
    unfold bv12_removesOwn_2
    repeat' first
      | with_reducible exact h
      | with_reducible apply ih
      | with_reducible refine zr_pI (by decide) ?_
      | with_reducible refine zr_pJ (by decide) ?_
      | split
      | dsimp only
theorem zr_v12_removesOwn {q : PM}  {p : PM} (v1 : Int32) (v2 : Int32)  (h : ZR q p) : ZR q (v12_removesOwn p v1 v2) := by
  unfold v12_removesOwn bv12_removesOwn
  repeat' first
    | with_reducible exact h
    | with_reducible refine zr_pI (by decide) ?_
    | with_reducible refine zr_pJ (by decide) ?_
    | with_reducible apply zr_v12_removesOwn_2
    | split
    | dsimp only
theorem zr_v12_beginsAuction {q : PM}  {p : PM} (v1 : Int32) (v2 : Int32) (v3 : Int32)  (h : ZR q p) : ZR q (v12_beginsAuction p v1 v2 v3) := by
  unfold v12_beginsAuction bv12_beginsAuction
  repeat' first
    | with_reducible exact h
    | with_reducible refine zr_pI (by decide) ?_
    | with_reducible refine zr_pJ (by decide) ?_
    | split
    | dsimp only
theorem zr_v12_looks_64 {q : PM}  {p : PM} (v1 : Int32) (v2 : Int32) (v3 : Int32)  (h : ZR q p) : ZR q (v12_looks_64 p v1 v2 v3).2 := by
  unfold v12_looks_64 bv12_looks_64
  repeat' first
    | with_reducible exact h
    | with_reducible refine zr_pI (by decide) ?_
    | with_reducible refine zr_pJ (by decide) ?_
    | with_reducible apply zr_v12_servesAll
    | with_reducible apply zr_v12_removesOwn
    | with_reducible apply zr_v12_beginsAuction
    | split
    | dsimp only
theorem zr_v12_looks {q : PM}  {p : PM} (v1 : Int32)  (h : ZR q p) : ZR q (v12_looks p v1).2 := by
  unfold v12_looks bv12_looks
  repeat' first
    | with_reducible exact h
    | with_reducible refine zr_pI (by decide) ?_
    | with_reducible refine zr_pJ (by decide) ?_
    | with_reducible apply zr_v12_looks_64
    | split
    | dsimp only
theorem zr_v12_matches_9 {q : PM}  : ∀ (n : Nat) {p : PM} (c0 : Int32) (c1 : Int32), ZR q p → ZR q (v12_matches_9 n p c0 c1) := by
  intro n
  induction n with
  | zero =>
    intro p c0 c1 h
    exact h
  | succ n ih =>
    intro p c0 c1 h
    rw [ev12_matches_9]
    unfold bv12_matches_9
    repeat' first
      | with_reducible exact h
      | with_reducible apply ih
      | with_reducible refine zr_pI (by decide) ?_
      | with_reducible refine zr_pJ (by decide) ?_
      | with_reducible apply zr_v12_comes
      | with_reducible apply zr_v12_looks
      | split
      | dsimp only
theorem zr_v12_matches {q : PM}  {p : PM} (v1 : Int32)  (h : ZR q p) : ZR q (v12_matches p v1) := by
  unfold v12_matches bv12_matches
  repeat' first
    | with_reducible exact h
    | with_reducible refine zr_pI (by decide) ?_
    | with_reducible refine zr_pJ (by decide) ?_
    | with_reducible apply zr_v12_matches_9
    | split
    | dsimp only
theorem zr_v12_joins_53 {q : PM}  {p : PM}   (h : ZR q p) : ZR q (v12_joins_53 p).2 := by
  unfold v12_joins_53 bv12_joins_53
  repeat' first
    | with_reducible exact h
    | with_reducible refine zr_pI (by decide) ?_
    | with_reducible refine zr_pJ (by decide) ?_
    | split
    | dsimp only
theorem zr_v12_joins_197 {q : PM}  {p : PM} (v2 : Int32) (v3 : Int32) (v4 : Int32) (v5 : Int32) (v6 : Int32) (v8 : Int32) (v9 : Int32)  (h : ZR q p) : ZR q (v12_joins_197 p v2 v3 v4 v5 v6 v8 v9).2 := by
  unfold v12_joins_197 bv12_joins_197
  repeat' first
    | with_reducible exact h
    | with_reducible refine zr_pI (by decide) ?_
    | with_reducible refine zr_pJ (by decide) ?_
    | split
    | dsimp only
theorem zr_v12_joins_258 {q : PM} {p : PM} (v2 : Int32) (v3 : Int32) (v4 : Int32) (v5 : Int32) (v6 : Int32) (v8 : Int32) (v9 : Int32) (v11 : Int32) (s0 : Int32) (s1 : Int32) {b : Nat} (hb : b < 3) (hv : s1 = cn b) (hw : v3 + cn 1 = cn ((b + 1 : Nat) : Int)) (h : ZR q p) : ZR q (v12_joins_258 p v2 v3 v4 v5 v6 v8 v9 v11 s0 s1).2 := by
  unfold v12_joins_258 bv12_joins_258
  repeat' first
    | with_reducible exact h
    | with_reducible apply zr_v12_guards
    | with_reducible apply zr_join hb hv hw
    | split
    | dsimp only
theorem zr_v12_joins_119 {q : PM} {p : PM} (v2 : Int32) (v3 : Int32) (v4 : Int32) (v5 : Int32) (v6 : Int32) (v8 : Int32) (v9 : Int32) (s0 : Int32) {b : Nat} (hb : b < 3) (hv : v3 = cn b) (h : ZR q p) : ZR q (v12_joins_119 p v2 v3 v4 v5 v6 v8 v9 s0).2 := by
  have hw : v3 + cn 1 = cn ((b + 1 : Nat) : Int) := by rw [hv, cnsucc]
  unfold v12_joins_119 bv12_joins_119
  repeat' first
    | with_reducible exact h
    | with_reducible apply zr_v12_joins_197
    | with_reducible apply zr_v12_joins_258 _ _ _ _ _ _ _ _ _ _ hb hv hw
    | split
    | dsimp only
theorem zr_v12_joins {q : PM} {p : PM} (v1 : Int32) (v2 : Int32) {b : Nat} (hb : b < 3) (hv : v1 - cn 4 = cn b) (h : ZR q p) : ZR q (v12_joins p v1 v2).2 := by
  unfold v12_joins bv12_joins
  repeat' first
    | with_reducible exact h
    | with_reducible apply zr_v12_joins_53
    | with_reducible apply zr_v12_joins_119 _ _ _ _ _ _ _ _ hb hv
    | split
    | dsimp only
theorem zr_v12_chains_64 {q : PM}  {p : PM}   (h : ZR q p) : ZR q (v12_chains_64 p).2 := by
  unfold v12_chains_64 bv12_chains_64
  repeat' first
    | with_reducible exact h
    | with_reducible refine zr_pI (by decide) ?_
    | with_reducible refine zr_pJ (by decide) ?_
    | split
    | dsimp only
theorem zr_v12_chains_248 {q : PM}  {p : PM} (v1 : Int32) (v2 : Int32) (v3 : Int32) (v4 : Int32) (v5 : Int32) (v6 : Int32) (v7 : Int32) (v8 : Int32)  (h : ZR q p) : ZR q (v12_chains_248 p v1 v2 v3 v4 v5 v6 v7 v8).2 := by
  unfold v12_chains_248 bv12_chains_248
  repeat' first
    | with_reducible exact h
    | with_reducible refine zr_pI (by decide) ?_
    | with_reducible refine zr_pJ (by decide) ?_
    | split
    | dsimp only
theorem zr_v12_chains_364 {q : PM} {p p0 : PM} {A B z : Int32} (v1 : Int32) (v2 : Int32) (v3 : Int32) (v4 : Int32) (v5 : Int32) (v7 : Int32) (v8 : Int32) (v10 : Int32) (s0 : Int32) (hp : p = v12_deals p0 (cn 0) A B z v10) (h : ZR q p0) : ZR q (v12_chains_364 p v1 v2 v3 v4 v5 v7 v8 v10 s0).2 := by
  rw [hp]
  unfold v12_chains_364 bv12_chains_364
  repeat' first
    | with_reducible exact h
    | with_reducible apply zr_v12_guards
    | with_reducible apply zr_chain
    | split
    | dsimp only
theorem zr_v12_chains_316 {q : PM} {p : PM} (v1 : Int32) (v2 : Int32) (v3 : Int32) (v4 : Int32) (v5 : Int32) (v6 : Int32) (v7 : Int32) (v8 : Int32) (v10 : Int32) (s0 : Int32) (h : ZR q p) : ZR q (v12_chains_316 p v1 v2 v3 v4 v5 v6 v7 v8 v10 s0).2 := by
  unfold v12_chains_316 bv12_chains_316
  repeat' first
    | with_reducible exact h
    | with_reducible exact zr_v12_chains_364 _ _ _ _ _ _ _ _ _ rfl h
    | split
    | dsimp only
theorem zr_v12_chains_154 {q : PM}  {p : PM} (v1 : Int32) (v2 : Int32) (v3 : Int32) (v4 : Int32) (v5 : Int32) (v6 : Int32) (v7 : Int32) (v8 : Int32) (s0 : Int32)  (h : ZR q p) : ZR q (v12_chains_154 p v1 v2 v3 v4 v5 v6 v7 v8 s0).2 := by
  unfold v12_chains_154 bv12_chains_154
  repeat' first
    | with_reducible exact h
    | with_reducible refine zr_pI (by decide) ?_
    | with_reducible refine zr_pJ (by decide) ?_
    | with_reducible apply zr_v12_chains_248
    | with_reducible apply zr_v12_chains_316
    | split
    | dsimp only
theorem zr_v12_chains_25 {q : PM}  {p : PM} (v1 : Int32) (v2 : Int32) (v3 : Int32) (s0 : Int32)  (h : ZR q p) : ZR q (v12_chains_25 p v1 v2 v3 s0).2 := by
  unfold v12_chains_25 bv12_chains_25
  repeat' first
    | with_reducible exact h
    | with_reducible refine zr_pI (by decide) ?_
    | with_reducible refine zr_pJ (by decide) ?_
    | with_reducible apply zr_v12_chains_64
    | with_reducible apply zr_v12_chains_154
    | split
    | dsimp only
theorem zr_v12_chains {q : PM}  {p : PM} (v1 : Int32)  (h : ZR q p) : ZR q (v12_chains p v1).2 := by
  unfold v12_chains bv12_chains
  repeat' first
    | with_reducible exact h
    | with_reducible refine zr_pI (by decide) ?_
    | with_reducible refine zr_pJ (by decide) ?_
    | with_reducible apply zr_v12_chains_25
    | split
    | dsimp only
theorem zr_v12_combines {q : PM} {p : PM} (h : ZR q p) : ZR q (v12_combines p).2 := by
  have h4 : cn 4 - cn 4 = cn ((0 : Nat) : Int) := by decide
  have h5 : cn 5 - cn 4 = cn ((1 : Nat) : Int) := by decide
  unfold v12_combines bv12_combines
  repeat' first
    | with_reducible exact h
    | with_reducible apply zr_v12_joins _ _ (by decide) h4
    | with_reducible apply zr_v12_joins _ _ (by decide) h5
    | with_reducible apply zr_v12_chains
    | split
    | dsimp only
theorem zr_v12_works_11 {q : PM} {kv2 : PM → Int32 → PM} (hkv2 : ∀ {p : PM} (a1 : Int32), ZR q p → ZR q (kv2 p a1)) : ∀ (n : Nat) {p : PM} (c0 : Int32), ZR q p → ZR q (v12_works_11 kv2 n p c0) := by
  intro n
  induction n with
  | zero =>
    intro p c0 h
    exact h
  | succ n ih =>
    intro p c0 h
    rw [ev12_works_11]
    unfold bv12_works_11
    repeat' first
      | with_reducible exact h
      | with_reducible apply ih
      | with_reducible apply hkv2
      | with_reducible refine zr_pI (by decide) ?_
      | with_reducible refine zr_pJ (by decide) ?_
      | with_reducible apply zr_v12_matches
      | with_reducible apply zr_v12_combines
      | split
      | dsimp only
theorem zr_v12_works_2 {q : PM}  : ∀ (n : Nat) {p : PM} (c0 : Int32), ZR q p → ZR q (v12_works_2 n p c0) := by
  intro n
  induction n with
  | zero =>
    intro p c0 h
    exact h
  | succ n ih =>
    intro p c0 h
    rw [ev12_works_2]
    unfold bv12_works_2
    repeat' first
      | with_reducible exact h
      | with_reducible apply ih
      | with_reducible refine zr_pI (by decide) ?_
      | with_reducible refine zr_pJ (by decide) ?_
      | with_reducible apply zr_v12_pegsAll
      | with_reducible apply zr_v12_works_11
      | split
      | dsimp only
theorem zr_v12_works {q : PM}  {p : PM}   (h : ZR q p) : ZR q (v12_works p) := by
  unfold v12_works bv12_works
  repeat' first
    | with_reducible exact h
    | with_reducible refine zr_pI (by decide) ?_
    | with_reducible refine zr_pJ (by decide) ?_
    | with_reducible apply zr_v12_works_2
    | split
    | dsimp only
theorem zr_v12_newOrder_3 {q : PM}  : ∀ (n : Nat) {p : PM} (c0 : Int32) (c1 : Int32) (c2 : Int32) (c3 : Int32) (c4 : Int32) (c5 : Int32) (c6 : Int32) (c7 : Int32), ZR q p → ZR q (v12_newOrder_3 n p c0 c1 c2 c3 c4 c5 c6 c7).2 := by
  intro n
  induction n with
  | zero =>
    intro p c0 c1 c2 c3 c4 c5 c6 c7 h
    exact h
  | succ n ih =>
    intro p c0 c1 c2 c3 c4 c5 c6 c7 h
    rw [ev12_newOrder_3]
    unfold bv12_newOrder_3
    repeat' first
      | with_reducible exact h
      | with_reducible apply ih
      | with_reducible refine zr_pI (by decide) ?_
      | with_reducible refine zr_pJ (by decide) ?_
      | split
      | dsimp only
theorem zr_v12_newOrder {q : PM}  {p : PM} (v1 : Int32) (v2 : Int32) (v3 : Int32) (v4 : Int32) (v5 : Int32) (v6 : Int32) (v7 : Int32)  (h : ZR q p) : ZR q (v12_newOrder p v1 v2 v3 v4 v5 v6 v7).2 := by
  unfold v12_newOrder bv12_newOrder
  repeat' first
    | with_reducible exact h
    | with_reducible refine zr_pI (by decide) ?_
    | with_reducible refine zr_pJ (by decide) ?_
    | with_reducible apply zr_v12_newOrder_3
    | split
    | dsimp only
theorem zr_v12_enters {q : PM}  {p : PM} (v1 : Int32)  (h : ZR q p) : ZR q (v12_enters p v1) := by
  unfold v12_enters bv12_enters
  repeat' first
    | with_reducible exact h
    | with_reducible refine zr_pI (by decide) ?_
    | with_reducible refine zr_pJ (by decide) ?_
    | with_reducible apply zr_v12_comes
    | with_reducible apply zr_v12_matches
    | split
    | dsimp only
theorem zr_v12_doLimit_121 {q : PM}  {p : PM} (v1 : Int32) (v2 : Int32) (v3 : Int32) (v4 : Int32) (v5 : Int32) (v6 : Int32)  (h : ZR q p) : ZR q (v12_doLimit_121 p v1 v2 v3 v4 v5 v6).2 := by
  unfold v12_doLimit_121 bv12_doLimit_121
  repeat' first
    | with_reducible exact h
    | with_reducible refine zr_pI (by decide) ?_
    | with_reducible refine zr_pJ (by decide) ?_
    | with_reducible apply zr_v12_newOrder
    | with_reducible apply zr_v12_enters
    | split
    | dsimp only
theorem zr_v12_doLimit_75 {q : PM}  {p : PM} (v1 : Int32) (v2 : Int32) (v3 : Int32) (v4 : Int32) (v5 : Int32) (v6 : Int32) (s0 : Int32)  (h : ZR q p) : ZR q (v12_doLimit_75 p v1 v2 v3 v4 v5 v6 s0).2 := by
  unfold v12_doLimit_75 bv12_doLimit_75
  repeat' first
    | with_reducible exact h
    | with_reducible refine zr_pI (by decide) ?_
    | with_reducible refine zr_pJ (by decide) ?_
    | with_reducible apply zr_v12_doLimit_121
    | split
    | dsimp only
theorem zr_v12_doLimit_70 {q : PM}  {p : PM} (v1 : Int32) (v2 : Int32) (v3 : Int32) (v4 : Int32) (v5 : Int32) (v6 : Int32)  (h : ZR q p) : ZR q (v12_doLimit_70 p v1 v2 v3 v4 v5 v6).2 := by
  unfold v12_doLimit_70 bv12_doLimit_70
  repeat' first
    | with_reducible exact h
    | with_reducible refine zr_pI (by decide) ?_
    | with_reducible refine zr_pJ (by decide) ?_
    | with_reducible apply zr_v12_doLimit_75
    | split
    | dsimp only
theorem zr_v12_doLimit {q : PM}  {p : PM} (v1 : Int32) (v2 : Int32) (v3 : Int32) (v4 : Int32) (v5 : Int32) (v6 : Int32)  (h : ZR q p) : ZR q (v12_doLimit p v1 v2 v3 v4 v5 v6).2 := by
  unfold v12_doLimit bv12_doLimit
  repeat' first
    | with_reducible exact h
    | with_reducible refine zr_pI (by decide) ?_
    | with_reducible refine zr_pJ (by decide) ?_
    | with_reducible apply zr_v12_doLimit_70
    | with_reducible apply zr_v12_doLimit_75
    | split
    | dsimp only
theorem zr_v12_doMarket {q : PM}  {p : PM} (v1 : Int32) (v2 : Int32) (v3 : Int32)  (h : ZR q p) : ZR q (v12_doMarket p v1 v2 v3).2 := by
  unfold v12_doMarket bv12_doMarket
  repeat' first
    | with_reducible exact h
    | with_reducible refine zr_pI (by decide) ?_
    | with_reducible refine zr_pJ (by decide) ?_
    | with_reducible apply zr_v12_newOrder
    | with_reducible apply zr_v12_enters
    | split
    | dsimp only
theorem zr_v12_doIceberg {q : PM}  {p : PM} (v1 : Int32) (v2 : Int32) (v3 : Int32) (v4 : Int32) (v5 : Int32)  (h : ZR q p) : ZR q (v12_doIceberg p v1 v2 v3 v4 v5).2 := by
  unfold v12_doIceberg bv12_doIceberg
  repeat' first
    | with_reducible exact h
    | with_reducible refine zr_pI (by decide) ?_
    | with_reducible refine zr_pJ (by decide) ?_
    | with_reducible apply zr_v12_newOrder
    | with_reducible apply zr_v12_enters
    | split
    | dsimp only
theorem zr_v12_doPeg {q : PM}  {p : PM} (v1 : Int32) (v2 : Int32) (v3 : Int32) (v4 : Int32) (v5 : Int32)  (h : ZR q p) : ZR q (v12_doPeg p v1 v2 v3 v4 v5).2 := by
  unfold v12_doPeg bv12_doPeg
  repeat' first
    | with_reducible exact h
    | with_reducible refine zr_pI (by decide) ?_
    | with_reducible refine zr_pJ (by decide) ?_
    | with_reducible apply zr_v12_newOrder
    | split
    | dsimp only
theorem zr_v12_doStop_17 {q : PM}  {p : PM} (v1 : Int32) (v2 : Int32) (v3 : Int32) (v4 : Int32) (v5 : Int32)  (h : ZR q p) : ZR q (v12_doStop_17 p v1 v2 v3 v4 v5).2 := by
  unfold v12_doStop_17 bv12_doStop_17
  repeat' first
    | with_reducible exact h
    | with_reducible refine zr_pI (by decide) ?_
    | with_reducible refine zr_pJ (by decide) ?_
    | with_reducible apply zr_v12_newOrder
    | split
    | dsimp only
theorem zr_v12_doStop_53 {q : PM}  {p : PM} (v1 : Int32) (v2 : Int32) (v3 : Int32) (v4 : Int32) (v5 : Int32)  (h : ZR q p) : ZR q (v12_doStop_53 p v1 v2 v3 v4 v5).2 := by
  unfold v12_doStop_53 bv12_doStop_53
  repeat' first
    | with_reducible exact h
    | with_reducible refine zr_pI (by decide) ?_
    | with_reducible refine zr_pJ (by decide) ?_
    | with_reducible apply zr_v12_newOrder
    | split
    | dsimp only
theorem zr_v12_doStop {q : PM}  {p : PM} (v1 : Int32) (v2 : Int32) (v3 : Int32) (v4 : Int32) (v5 : Int32)  (h : ZR q p) : ZR q (v12_doStop p v1 v2 v3 v4 v5).2 := by
  unfold v12_doStop bv12_doStop
  repeat' first
    | with_reducible exact h
    | with_reducible refine zr_pI (by decide) ?_
    | with_reducible refine zr_pJ (by decide) ?_
    | with_reducible apply zr_v12_newOrder
    | with_reducible apply zr_v12_doStop_17
    | with_reducible apply zr_v12_doStop_53
    | split
    | dsimp only
theorem zr_v12_doQuote_130 {q : PM}  : ∀ (n : Nat) {p : PM} (c0 : Int32) (c1 : Int32) (c2 : Int32) (c3 : Int32) (c4 : Int32) (c5 : Int32), c0.toNatClampNeg < 8 → ZR q p → ZR q (v12_doQuote_130 n p c0 c1 c2 c3 c4 c5).2 := by
  intro n
  induction n with
  | zero =>
    intro p c0 c1 c2 c3 c4 c5 ha h
    exact h
  | succ n ih =>
    intro p c0 c1 c2 c3 c4 c5 ha h
    rw [ev12_doQuote_130]
    unfold bv12_doQuote_130
    repeat' first
      | with_reducible exact h
      | with_reducible exact ha
      | with_reducible refine zr_fallen ha ?_
      | with_reducible apply ih
      | with_reducible refine zr_pI (by decide) ?_
      | with_reducible refine zr_pJ (by decide) ?_
      | with_reducible apply zr_v12_newOrder
      | with_reducible apply zr_v12_enters
      | split
      | dsimp only
theorem zr_v12_doQuote_60 {q : PM}  {p : PM} (v1 : Int32) (v2 : Int32) (v3 : Int32) (v4 : Int32) (v5 : Int32) (s0 : Int32)  (ha : v1.toNatClampNeg < 8) (h : ZR q p) : ZR q (v12_doQuote_60 p v1 v2 v3 v4 v5 s0).2 := by
  unfold v12_doQuote_60 bv12_doQuote_60
  repeat' first
    | with_reducible exact h
    | with_reducible exact ha
    | with_reducible refine zr_pI (by decide) ?_
    | with_reducible refine zr_pJ (by decide) ?_
    | with_reducible apply zr_v12_doQuote_130
    | split
    | dsimp only
theorem zr_v12_doQuote {q : PM}  {p : PM} (v1 : Int32) (v2 : Int32) (v3 : Int32) (v4 : Int32) (v5 : Int32)  (ha : v1.toNatClampNeg < 8) (h : ZR q p) : ZR q (v12_doQuote p v1 v2 v3 v4 v5).2 := by
  unfold v12_doQuote bv12_doQuote
  repeat' first
    | with_reducible exact h
    | with_reducible exact ha
    | with_reducible refine zr_pI (by decide) ?_
    | with_reducible refine zr_pJ (by decide) ?_
    | with_reducible apply zr_v12_doQuote_60
    | split
    | dsimp only
theorem zr_v12_doRule_43 {q : PM}  {p : PM} (v1 : Int32) (v2 : Int32) (v3 : Int32) (v4 : Int32)  (h : ZR q p) : ZR q (v12_doRule_43 p v1 v2 v3 v4).2 := by
  unfold v12_doRule_43 bv12_doRule_43
  repeat' first
    | with_reducible exact h
    | with_reducible refine zr_pI (by decide) ?_
    | with_reducible refine zr_pJ (by decide) ?_
    | split
    | dsimp only
theorem zr_v12_doRule {q : PM}  {p : PM} (v1 : Int32) (v2 : Int32) (v3 : Int32) (v4 : Int32)  (h : ZR q p) : ZR q (v12_doRule p v1 v2 v3 v4).2 := by
  unfold v12_doRule bv12_doRule
  repeat' first
    | with_reducible exact h
    | with_reducible refine zr_pI (by decide) ?_
    | with_reducible refine zr_pJ (by decide) ?_
    | with_reducible apply zr_v12_doRule_43
    | split
    | dsimp only
theorem zr_v12_doAuction {q : PM}  {p : PM} (v1 : Int32) (v2 : Int32) (v3 : Int32) (v4 : Int32)  (h : ZR q p) : ZR q (v12_doAuction p v1 v2 v3 v4).2 := by
  unfold v12_doAuction bv12_doAuction
  repeat' first
    | with_reducible exact h
    | with_reducible refine zr_pI (by decide) ?_
    | with_reducible refine zr_pJ (by decide) ?_
    | with_reducible apply zr_v12_beginsAuction
    | split
    | dsimp only
theorem zr_v12_passes_28 {q : PM} {kv2 : PM → Int32 → Int32 → PM} (hkv2 : ∀ {p : PM} (a1 : Int32) (a2 : Int32), ZR q p → ZR q (kv2 p a1 a2)) {kv19 : PM → Int32 → Int32 → Int32 → PM} (hkv19 : ∀ {p : PM} (a1 : Int32) (a2 : Int32) (a3 : Int32), ZR q p → ZR q (kv19 p a1 a2 a3)) : ∀ (n : Nat) {p : PM} (c0 : Int32) (c1 : Int32) (c2 : Int32) (c3 : Int32), ZR q p → ZR q (v12_passes_28 kv2 kv19 n p c0 c1 c2 c3) := by
  intro n
  induction n with
  | zero =>
    intro p c0 c1 c2 c3 h
    exact h
  | succ n ih =>
    intro p c0 c1 c2 c3 h
    rw [ev12_passes_28]
    unfold bv12_passes_28
    repeat' first
      | with_reducible exact h
      | with_reducible apply ih
      | with_reducible apply hkv2
      | with_reducible apply hkv19
      | with_reducible refine zr_pI (by decide) ?_
      | with_reducible refine zr_pJ (by decide) ?_
      | split
      | dsimp only
theorem zr_v12_finds_221 {q : PM} {kv15 : PM → Int32 → Int32 → Int32 → PM} (hkv15 : ∀ {p : PM} (a1 : Int32) (a2 : Int32) (a3 : Int32), ZR q p → ZR q (kv15 p a1 a2 a3)) {p : PM} (v1 : Int32) (v2 : Int32) (v3 : Int32) (v5 : Int32) (v6 : Int32) (v7 : Int32)  (h : ZR q p) : ZR q (v12_finds_221 kv15 p v1 v2 v3 v5 v6 v7) := by
  unfold v12_finds_221 bv12_finds_221
  repeat' first
    | with_reducible exact h
    | with_reducible apply hkv15
    | with_reducible refine zr_pI (by decide) ?_
    | with_reducible refine zr_pJ (by decide) ?_
    | split
    | dsimp only
theorem zr_v12_finds_225 {q : PM} {kv15 : PM → Int32 → Int32 → Int32 → PM} (hkv15 : ∀ {p : PM} (a1 : Int32) (a2 : Int32) (a3 : Int32), ZR q p → ZR q (kv15 p a1 a2 a3)) {p : PM} (v1 : Int32) (v2 : Int32) (v3 : Int32) (v5 : Int32) (v6 : Int32) (v7 : Int32)  (h : ZR q p) : ZR q (v12_finds_225 kv15 p v1 v2 v3 v5 v6 v7) := by
  unfold v12_finds_225 bv12_finds_225
  repeat' first
    | with_reducible exact h
    | with_reducible apply hkv15
    | with_reducible refine zr_pI (by decide) ?_
    | with_reducible refine zr_pJ (by decide) ?_
    | split
    | dsimp only
theorem zr_v12_finds_64 {q : PM} {kv15 : PM → Int32 → Int32 → Int32 → PM} (hkv15 : ∀ {p : PM} (a1 : Int32) (a2 : Int32) (a3 : Int32), ZR q p → ZR q (kv15 p a1 a2 a3)) {p : PM} (v1 : Int32) (v2 : Int32) (v3 : Int32) (s0 : Int32)  (h : ZR q p) : ZR q (v12_finds_64 kv15 p v1 v2 v3 s0) := by
  unfold v12_finds_64 bv12_finds_64
  repeat' first
    | with_reducible exact h
    | with_reducible apply hkv15
    | with_reducible refine zr_pI (by decide) ?_
    | with_reducible refine zr_pJ (by decide) ?_
    | with_reducible apply zr_v12_finds_221
    | with_reducible apply zr_v12_finds_225
    | split
    | dsimp only
theorem zr_v12_finds_63 {q : PM} {kv15 : PM → Int32 → Int32 → Int32 → PM} (hkv15 : ∀ {p : PM} (a1 : Int32) (a2 : Int32) (a3 : Int32), ZR q p → ZR q (kv15 p a1 a2 a3)) {p : PM} (v1 : Int32) (v2 : Int32) (v3 : Int32)  (h : ZR q p) : ZR q (v12_finds_63 kv15 p v1 v2 v3) := by
  unfold v12_finds_63 bv12_finds_63
  repeat' first
    | with_reducible exact h
    | with_reducible apply hkv15
    | with_reducible refine zr_pI (by decide) ?_
    | with_reducible refine zr_pJ (by decide) ?_
    | with_reducible apply zr_v12_finds_64
    | split
    | dsimp only
theorem zr_v12_finds_339 {q : PM}  {p : PM}   (h : ZR q p) : ZR q (v12_finds_339 p) := by
  unfold v12_finds_339 bv12_finds_339
  repeat' first
    | with_reducible exact h
    | with_reducible refine zr_pI (by decide) ?_
    | with_reducible refine zr_pJ (by decide) ?_
    | split
    | dsimp only
theorem zr_v12_finds_15 {q : PM}  : ∀ (n : Nat) {p : PM} (c0 : Int32) (c1 : Int32) (c2 : Int32), ZR q p → ZR q (v12_finds_15 n p c0 c1 c2) := by
  intro n
  induction n with
  | zero =>
    intro p c0 c1 c2 h
    exact h
  | succ n ih =>
    intro p c0 c1 c2 h
    rw [ev12_finds_15]
    unfold bv12_finds_15
    repeat' first
      | with_reducible exact h
      | with_reducible apply ih
      | with_reducible refine zr_pI (by decide) ?_
      | with_reducible refine zr_pJ (by decide) ?_
      | with_reducible apply zr_v12_finds_63
      | with_reducible apply zr_v12_finds_64
      | with_reducible apply zr_v12_finds_339
      | split
      | dsimp only
theorem zr_v12_finds {q : PM}  {p : PM} (v1 : Int32)  (h : ZR q p) : ZR q (v12_finds p v1) := by
  unfold v12_finds bv12_finds
  repeat' first
    | with_reducible exact h
    | with_reducible refine zr_pI (by decide) ?_
    | with_reducible refine zr_pJ (by decide) ?_
    | with_reducible apply zr_v12_finds_15
    | split
    | dsimp only
theorem zr_v12_tradesAll_17 {q : PM}  : ∀ (n : Nat) {p : PM} (c0 : Int32) (c1 : Int32) (c2 : Int32) (c3 : Int32), ZR q p → ZR q (v12_tradesAll_17 n p c0 c1 c2 c3) := by
  intro n
  induction n with
  | zero =>
    intro p c0 c1 c2 c3 h
    exact h
  | succ n ih =>
    intro p c0 c1 c2 c3 h
    rw [ev12_tradesAll_17]
    unfold bv12_tradesAll_17
    repeat' first
      | with_reducible exact h
      | with_reducible apply zr_trade
      | with_reducible apply ih
      | with_reducible refine zr_pI (by decide) ?_
      | with_reducible refine zr_pJ (by decide) ?_
      | with_reducible apply zr_v12_guards
      | split
      | dsimp only
theorem zr_v12_tradesAll {q : PM}  {p : PM} (v1 : Int32) (v2 : Int32)  (h : ZR q p) : ZR q (v12_tradesAll p v1 v2) := by
  unfold v12_tradesAll bv12_tradesAll
  repeat' first
    | with_reducible exact h
    | with_reducible refine zr_pI (by decide) ?_
    | with_reducible refine zr_pJ (by decide) ?_
    | with_reducible apply zr_v12_tradesAll_17
    | split
    | dsimp only
theorem zr_v12_endsAuction_92 {q : PM}  : ∀ (n : Nat) {p : PM} (c0 : Int32) (c1 : Int32), ZR q p → ZR q (v12_endsAuction_92 n p c0 c1) := by
  intro n
  induction n with
  | zero =>
    intro p c0 c1 h
    exact h
  | succ n ih =>
    intro p c0 c1 h
    rw [ev12_endsAuction_92]
    unfold bv12_endsAuction_92
    repeat' first
      | with_reducible exact h
      | with_reducible apply ih
      | with_reducible refine zr_pI (by decide) ?_
      | with_reducible refine zr_pJ (by decide) ?_
      | with_reducible apply zr_v12_showsAnew
      | with_reducible apply zr_v12_works
      | split
      | dsimp only
theorem zr_v12_endsAuction {q : PM}  {p : PM} (v1 : Int32)  (h : ZR q p) : ZR q (v12_endsAuction p v1) := by
  unfold v12_endsAuction bv12_endsAuction
  repeat' first
    | with_reducible exact h
    | with_reducible refine zr_pI (by decide) ?_
    | with_reducible refine zr_pJ (by decide) ?_
    | with_reducible apply zr_v12_finds
    | with_reducible apply zr_v12_tradesAll
    | with_reducible apply zr_v12_endsAuction_92
    | split
    | dsimp only
theorem zr_v12_passes_94 {q : PM} {kv2 : PM → Int32 → Int32 → PM} (hkv2 : ∀ {p : PM} (a1 : Int32) (a2 : Int32), ZR q p → ZR q (kv2 p a1 a2)) : ∀ (n : Nat) {p : PM} (c0 : Int32) (c1 : Int32) (c2 : Int32), ZR q p → ZR q (v12_passes_94 kv2 n p c0 c1 c2) := by
  intro n
  induction n with
  | zero =>
    intro p c0 c1 c2 h
    exact h
  | succ n ih =>
    intro p c0 c1 c2 h
    rw [ev12_passes_94]
    unfold bv12_passes_94
    repeat' first
      | with_reducible exact h
      | with_reducible apply ih
      | with_reducible apply hkv2
      | with_reducible refine zr_pI (by decide) ?_
      | with_reducible refine zr_pJ (by decide) ?_
      | with_reducible apply zr_v12_endsAuction
      | split
      | dsimp only
theorem zr_v12_passes_19 {q : PM} {kv2 : PM → Int32 → Int32 → PM} (hkv2 : ∀ {p : PM} (a1 : Int32) (a2 : Int32), ZR q p → ZR q (kv2 p a1 a2)) : ∀ (n : Nat) {p : PM} (c0 : Int32) (c1 : Int32) (c2 : Int32), ZR q p → ZR q (v12_passes_19 kv2 n p c0 c1 c2) := by
  intro n
  induction n with
  | zero =>
    intro p c0 c1 c2 h
    exact h
  | succ n ih =>
    intro p c0 c1 c2 h
    rw [ev12_passes_19]
    unfold bv12_passes_19
    repeat' first
      | with_reducible exact h
      | with_reducible apply ih
      | with_reducible apply hkv2
      | with_reducible refine zr_pI (by decide) ?_
      | with_reducible refine zr_pJ (by decide) ?_
      | with_reducible apply zr_v12_passes_28
      | with_reducible apply zr_v12_passes_94
      | split
      | dsimp only
theorem zr_v12_passes_2 {q : PM}  : ∀ (n : Nat) {p : PM} (c0 : Int32) (c1 : Int32), ZR q p → ZR q (v12_passes_2 n p c0 c1) := by
  intro n
  induction n with
  | zero =>
    intro p c0 c1 h
    exact h
  | succ n ih =>
    intro p c0 c1 h
    rw [ev12_passes_2]
    unfold bv12_passes_2
    repeat' first
      | with_reducible exact h
      | with_reducible apply ih
      | with_reducible refine zr_pI (by decide) ?_
      | with_reducible refine zr_pJ (by decide) ?_
      | with_reducible apply zr_v12_passes_19
      | split
      | dsimp only
theorem zr_v12_passes {q : PM}  {p : PM} (v1 : Int32)  (h : ZR q p) : ZR q (v12_passes p v1) := by
  unfold v12_passes bv12_passes
  repeat' first
    | with_reducible exact h
    | with_reducible refine zr_pI (by decide) ?_
    | with_reducible refine zr_pJ (by decide) ?_
    | with_reducible apply zr_v12_passes_2
    | split
    | dsimp only
theorem zr_v12_doPass {q : PM}  {p : PM} (v1 : Int32)  (h : ZR q p) : ZR q (v12_doPass p v1).2 := by
  unfold v12_doPass bv12_doPass
  repeat' first
    | with_reducible exact h
    | with_reducible refine zr_pI (by decide) ?_
    | with_reducible refine zr_pJ (by decide) ?_
    | with_reducible apply zr_v12_passes
    | split
    | dsimp only
theorem zr_v12_doEndDay_101 {q : PM}  : ∀ (n : Nat) {p : PM} (c0 : Int32) (c1 : Int32) (c2 : Int32), ZR q p → ZR q (v12_doEndDay_101 n p c0 c1 c2).2 := by
  intro n
  induction n with
  | zero =>
    intro p c0 c1 c2 h
    exact h
  | succ n ih =>
    intro p c0 c1 c2 h
    rw [ev12_doEndDay_101]
    unfold bv12_doEndDay_101
    repeat' first
      | with_reducible exact h
      | with_reducible apply ih
      | with_reducible refine zr_pI (by decide) ?_
      | with_reducible refine zr_pJ (by decide) ?_
      | split
      | dsimp only
theorem zr_v12_doEndDay_51 {q : PM}  : ∀ (n : Nat) {p : PM} (c0 : Int32) (c1 : Int32) (c2 : Int32), ZR q p → ZR q (v12_doEndDay_51 n p c0 c1 c2).2 := by
  intro n
  induction n with
  | zero =>
    intro p c0 c1 c2 h
    exact h
  | succ n ih =>
    intro p c0 c1 c2 h
    rw [ev12_doEndDay_51]
    unfold bv12_doEndDay_51
    repeat' first
      | with_reducible exact h
      | with_reducible apply ih
      | with_reducible refine zr_pI (by decide) ?_
      | with_reducible refine zr_pJ (by decide) ?_
      | with_reducible apply zr_v12_doEndDay_101
      | split
      | dsimp only
theorem zr_v12_doEndDay_4 {q : PM}  : ∀ (n : Nat) {p : PM} (c0 : Int32) (c1 : Int32), ZR q p → ZR q (v12_doEndDay_4 n p c0 c1).2 := by
  intro n
  induction n with
  | zero =>
    intro p c0 c1 h
    exact h
  | succ n ih =>
    intro p c0 c1 h
    rw [ev12_doEndDay_4]
    unfold bv12_doEndDay_4
    repeat' first
      | with_reducible exact h
      | with_reducible apply ih
      | with_reducible refine zr_pI (by decide) ?_
      | with_reducible refine zr_pJ (by decide) ?_
      | with_reducible apply zr_v12_doEndDay_51
      | split
      | dsimp only
theorem zr_v12_doEndDay {q : PM}  {p : PM}   (h : ZR q p) : ZR q (v12_doEndDay p).2 := by
  unfold v12_doEndDay bv12_doEndDay
  repeat' first
    | with_reducible exact h
    | with_reducible refine zr_pI (by decide) ?_
    | with_reducible refine zr_pJ (by decide) ?_
    | with_reducible apply zr_v12_doEndDay_4
    | split
    | dsimp only
theorem zr_v12_call {q : PM}  {p : PM} (v1 : Int32) (v2 : Int64) (v4 : Int64)  (h : ZR q p) : ZR q (v12_call p v1 v2 v4).2 := by
  unfold v12_call bv12_call
  repeat' first
    | with_reducible exact h
    | with_reducible refine zr_pI (by decide) ?_
    | with_reducible refine zr_pJ (by decide) ?_
    | split
    | dsimp only
theorem zr_v12_callOf {q : PM}  {p : PM} (v1 : Int32)  (h : ZR q p) : ZR q (v12_callOf p v1).2 := by
  unfold v12_callOf bv12_callOf
  repeat' first
    | with_reducible exact h
    | with_reducible refine zr_pI (by decide) ?_
    | with_reducible refine zr_pJ (by decide) ?_
    | with_reducible apply zr_v12_call
    | split
    | dsimp only
theorem zr_v12_doFail_73 {q : PM}  : ∀ (n : Nat) {p : PM} (c0 : Int32) (c1 : Int32) (c2 : Int32), ZR q p → ZR q (v12_doFail_73 n p c0 c1 c2).2 := by
  intro n
  induction n with
  | zero =>
    intro p c0 c1 c2 h
    exact h
  | succ n ih =>
    intro p c0 c1 c2 h
    rw [ev12_doFail_73]
    unfold bv12_doFail_73
    repeat' first
      | with_reducible exact h
      | with_reducible apply ih
      | with_reducible refine zr_pI (by decide) ?_
      | with_reducible refine zr_pJ (by decide) ?_
      | split
      | dsimp only
theorem zr_v12_doFail {q : PM}  {p : PM} (v1 : Int32)  (h : ZR q p) : ZR q (v12_doFail p v1).2 := by
  unfold v12_doFail bv12_doFail
  repeat' first
    | with_reducible exact h
    | with_reducible refine zr_pI (by decide) ?_
    | with_reducible refine zr_pJ (by decide) ?_
    | with_reducible apply zr_v12_callOf
    | with_reducible apply zr_v12_doFail_73
    | split
    | dsimp only
theorem zr_v12_doBid_83 {q : PM}  : ∀ (n : Nat) {p : PM} (c0 : Int32) (c1 : Int32), ZR q p → ZR q (v12_doBid_83 n p c0 c1).2 := by
  intro n
  induction n with
  | zero =>
    intro p c0 c1 h
    exact h
  | succ n ih =>
    intro p c0 c1 h
    rw [ev12_doBid_83]
    unfold bv12_doBid_83
    repeat' first
      | with_reducible exact h
      | with_reducible apply ih
      | with_reducible refine zr_pI (by decide) ?_
      | with_reducible refine zr_pJ (by decide) ?_
      | split
      | dsimp only
theorem zr_v12_doBid {q : PM}  {p : PM} (v1 : Int32) (v2 : Int32)  (h : ZR q p) : ZR q (v12_doBid p v1 v2).2 := by
  unfold v12_doBid bv12_doBid
  repeat' first
    | with_reducible exact h
    | with_reducible refine zr_pI (by decide) ?_
    | with_reducible refine zr_pJ (by decide) ?_
    | with_reducible apply zr_v12_doBid_83
    | split
    | dsimp only
