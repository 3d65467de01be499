/-! how far positions can have come -/
def EE (q : PM) (G : Nat → Nat) : Int := (q.1 13 4 8).toInt * (1 + 2 * (G 4 : Int))
def qs (q : PM) (m c : Nat) : Int := ab (q.1 13 1 (8 * m + c)).toInt + ab (q.1 13 1 (8 * m + 4 + c)).toInt
def hh (q : PM) (c : Nat) : Int := ab (q.1 13 1 (32 + c)).toInt
/-- who is closed out -/
def Gone (q : PM) (m : Nat) : Prop := q.1 15 9 m = cn 1 ∧ ¬ q.1 12 1 57 = cn (m : Int)
def gn (q : PM) (m : Nat) : Nat := if q.1 15 9 m = cn 1 ∧ ¬ q.1 12 1 57 = cn (m : Int) then 1 else 0
/-- turns that a default under way has cost -/
def opn (q : PM) : Nat := if q.1 12 1 57 = cn (-1) then 0 else if q.1 15 10 0 = cn 1 ∨ q.1 15 10 1 = cn 1 ∨ q.1 15 10 2 = cn 1 ∨ q.1 15 10 3 = cn 1 then 2 else 1
def PW (k : Nat) : Int := ((3 ^ k : Nat) : Int)
def S3 (T M E P : Int) : Prop := T ≤ E * P ∧ T * M ≤ 116 * (E * P) + 9999 * E ∧ T ≤ 8000000 + E ∧ T * M ≤ 928000000 + 9999 * E
def S4 (T M E : Int) (g : Nat) : Prop := T ≤ g * (2000000 + 2 * E) ∧ T * M ≤ g * (232000000 + 19998 * E)
def S5 (T M P : Int) (k : Nat) : Prop := 3 * T ≤ 8 * (P - 1) ∧ 3 * (T * M) ≤ 928 * (P - 1) + 160000 * (k : Int)
/-- numbers G: 0 to 2 conversions of the contracts, 3 orders, 4 busts, 5 moves set, 6 members that took over, 7 portfolios that went to the house, 8 to 11 members in one, 12 to 15 moves set by contract; t turns -/
def BN (q : PM) (G : Nat → Nat) (M : Nat → Int) (t : Nat) : Prop :=
  (PrL q M ∧ (∀ c, c < 4 → 116 ≤ M c ∧ M c ≤ 9999) ∧ M 3 = 116) ∧
  (0 ≤ (q.1 13 4 8).toInt ∧ (q.1 13 4 8).toInt ≤ (q.1 12 1 95).toInt ∧ (q.1 12 1 95).toInt ≤ 7 * (G 3 : Int)) ∧
  ((∀ c, c < 3 → S3 (psF (q.1 13 1) c 8) (M c) (EE q G) (PW (G c))) ∧ psF (q.1 13 1) 3 8 ≤ EE q G) ∧
  (∀ m c, m < 4 → c < 3 → ¬ Gone q m → S4 (qs q m c) (M c) (EE q G) (G (8 + m))) ∧
  (G 7 = 0 → ∀ c, c < 3 → S5 (hh q c) (M c) (PW (G c)) (G c)) ∧
  (∀ r, r < 60 → (q.1 13 34 r).toInt ≤ (q.1 13 4 8).toInt) ∧
  ((∀ s c, s < 4 → c < 4 → -20 ≤ mvI q s c ∧ mvI q s c ≤ 20 ∧ (G (12 + c) = 0 → mvI q s c = 0)) ∧ G 12 + G 13 + G 14 + G 15 ≤ G 5) ∧
  (∀ m, m < 4 → q.1 15 9 m = cn 0 → ab (q.2.1 14 1 (2 * m)).toInt ≤ 20000 * (EE q G + t) ∧ ab (q.2.1 14 1 (2 * m + 1)).toInt ≤ 20000 * (EE q G + t)) ∧
  ((∀ m, m < 4 → Gone q m → G (8 + m) = 0) ∧ (∀ m, m < 4 → ¬ Gone q m → 1 ≤ G (8 + m)) ∧ G 8 + G 9 + G 10 + G 11 + G 7 ≤ 4 ∧ gn q 0 + gn q 1 + gn q 2 + gn q 3 = G 6 + G 7) ∧
  G 0 + G 1 + G 2 + G 3 + G 4 + G 5 + 3 * G 6 + opn q ≤ t
section Num
theorem pw_1 (k : Nat) : 1 ≤ PW k := by
  have := Nat.one_le_pow k 3 (by decide)
  unfold PW
  omega
theorem pw_s (k : Nat) : PW (k + 1) = 3 * PW k := by
  have := Nat.pow_succ 3 k
  unfold PW
  omega
theorem mul_le_l {a b x : Int} (hx : 0 ≤ x) (h : a ≤ b) : x * a ≤ x * b := Int.mul_le_mul_of_nonneg_left h hx
theorem mul_le_r {a b x : Int} (hx : 0 ≤ x) (h : a ≤ b) : a * x ≤ b * x := Int.mul_le_mul_of_nonneg_right h hx
/-- scaled by a price -/
theorem sc_up {T T' e M : Int} (h : T' ≤ T + e) (he : 0 ≤ e) (m0 : 0 ≤ M) (m1 : M ≤ 9999) : T' * M ≤ T * M + 9999 * e := by
  have h1 := mul_le_r m0 h
  have h2 : (T + e) * M = T * M + e * M := Int.add_mul _ _ _
  have h3 := mul_le_l he m1
  omega
theorem pr_up {E E' e P : Int} (h : E + e ≤ E') (he : 0 ≤ e) (p1 : 1 ≤ P) : E * P + e ≤ E' * P := by
  have h1 := mul_le_r (x := P) (by omega) h
  have h2 : (E + e) * P = E * P + e * P := Int.add_mul _ _ _
  have h3 := mul_le_l he p1
  omega
theorem s3_up {T T' M E E' P e : Int} (H : S3 T M E P) (h : T' ≤ T + e) (he : 0 ≤ e) (hE : E + e ≤ E') (m0 : 0 ≤ M) (m1 : M ≤ 9999) (p1 : 1 ≤ P) : S3 T' M E' P := by
  obtain ⟨a1, a2, a3, a4⟩ := H
  have h1 := sc_up h he m0 m1
  have h2 := pr_up hE he p1
  refine ⟨by omega, ?_, by omega, by omega⟩
  have h3 : E * P ≤ E' * P := by omega
  omega
theorem s4_up {T T' M E E' e : Int} {g : Nat} (H : S4 T M E g) (h : T' ≤ T + 2 * e) (he : 0 ≤ e) (hE : E + e ≤ E') (m0 : 0 ≤ M) (m1 : M ≤ 9999) (g1 : 1 ≤ g) : S4 T' M E' g := by
  obtain ⟨a1, a2⟩ := H
  have h1 := sc_up h (by omega) m0 m1
  have g1' : (1 : Int) ≤ g := by omega
  have h2 := pr_up (E := 2000000 + 2 * E) (E' := 2000000 + 2 * E') (e := 2 * e) (P := (g : Int)) (by omega) (by omega) g1'
  have h3 := pr_up (E := 232000000 + 19998 * E) (E' := 232000000 + 19998 * E') (e := 19998 * e) (P := (g : Int)) (by omega) (by omega) g1'
  rw [Int.mul_comm _ (g : Int), Int.mul_comm _ (g : Int)] at h2 h3
  exact ⟨by omega, by omega⟩
end Num
section BnG
variable {q q' : PM} {G G' : Nat → Nat} {M : Nat → Int} {t t' : Nat} {X : Nat → Nat} {y w u : Nat} {e : Int}
/-- a step that trades as far as e -/
theorem bn_gen (H : BN q G M t) (Z : ZL q q' X y w u) (hf : (q'.1 13 4 8).toInt < 1000000000) (hX : ∀ c, c < 4 → (X c : Int) ≤ e) (hu : (u : Int) ≤ 2 * e) (hw : w ≤ y) (he : 0 ≤ e) (hE : EE q G + e ≤ EE q' G') (hft : (q'.1 13 4 8).toInt ≤ (q'.1 12 1 95).toInt) (htd : (q'.1 12 1 95).toInt ≤ 7 * (G' 3 : Int)) (hP : PrL q' M) (hmv : (∀ s c, s < 4 → c < 4 → -20 ≤ mvI q' s c ∧ mvI q' s c ≤ 20 ∧ (G' (12 + c) = 0 → mvI q' s c = 0)) ∧ G' 12 + G' 13 + G' 14 + G' 15 ≤ G' 5) (hg : ∀ m, m < 4 → (Gone q' m ↔ Gone q m)) (h9 : ∀ m, m < 4 → q'.1 15 9 m = cn 0 → q.1 15 9 m = cn 0) (hG : ∀ i, i < 3 ∨ (6 ≤ i ∧ i < 12) → G' i = G i) (htt : t ≤ t') (hb : G' 0 + G' 1 + G' 2 + G' 3 + G' 4 + G' 5 + 3 * G' 6 + opn q' ≤ t') : BN q' G' M t' := by
  obtain ⟨⟨p1, p2, p3⟩, ⟨f1, f2, f3⟩, ⟨s1, s2⟩, s3, s4', s5, s6, s7, ⟨g1, g2, g3, g4⟩, s8⟩ := H
  obtain ⟨z1, z2, z3, z4, z5, z6, z7⟩ := Z
  have hF := z1 hf
  have ps8 : ∀ f : Nat → Int32, ∀ c, psF f c 9 = psF f c 8 + max (f (4 * 8 + c)).toInt (-(f (4 * 8 + c)).toInt) := fun _ _ => rfl
  have hT : ∀ c, c < 4 → psF (q'.1 13 1) c 8 ≤ psF (q.1 13 1) c 8 + e := by
    intro c hc
    have h := z2 c hc
    rw [ps8, ps8, show 4 * 8 + c = 32 + c by omega, z5 c hc] at h
    have h2 := hX c hc
    omega
  have gnE : ∀ m, m < 4 → gn q' m = gn q m := by
    intro m hm
    have h := hg m hm
    unfold Gone at h
    unfold gn
    by_cases h2 : q.1 15 9 m = cn 1 ∧ ¬ q.1 12 1 57 = cn (m : Int)
    · rw [if_pos h2, if_pos (h.mpr h2)]
    · rw [if_neg h2, if_neg (fun x => h2 (h.mp x))]
  refine ⟨⟨hP, p2, p3⟩, ⟨by omega, hft, htd⟩, ⟨fun c hc => ?_, ?_⟩, fun m c hm hc hgo => ?_, fun h7 c hc => ?_, fun r hr => ?_, hmv, fun m hm h0 => ?_, ⟨fun m hm h => ?_, fun m hm h => ?_, ?_, ?_⟩, hb⟩
  · have h := hT c (by omega)
    have hm := p2 c (by omega)
    rw [hG c (by omega)]
    exact s3_up (s1 c hc) h he hE (by omega) (by omega) (pw_1 _)
  · have h := hT 3 (by decide)
    omega
  · have hgo' : ¬ Gone q m := fun h => hgo ((hg m hm).mpr h)
    have hM := p2 c (by omega)
    have x1 := z4 (2 * m) c (by omega) (by omega)
    have x2 := z4 (2 * m + 1) c (by omega) (by omega)
    have x3 := hX c (by omega)
    rw [show 4 * (2 * m) + c = 8 * m + c by omega] at x1
    rw [show 4 * (2 * m + 1) + c = 8 * m + 4 + c by omega] at x2
    rw [hG (8 + m) (by omega)]
    exact s4_up (s3 m c hm hc hgo') (by unfold qs; omega) he hE (by omega) (by omega) (g2 m hm hgo')
  · rw [hG 7 (by omega)] at h7
    have h := s4' h7 c hc
    unfold hh at h ⊢
    rw [hG c (by omega), z5 c (by omega)]
    exact h
  · have h := z7 (q.1 13 4 8).toInt f1 s5 r hr
    omega
  · obtain ⟨k1, k2⟩ := s7 m hm (h9 m hm h0)
    have x1 := z6 (2 * m) (by omega)
    have x2 := z6 (2 * m + 1) (by omega)
    omega
  · rw [hG (8 + m) (by omega)]
    exact g1 m hm ((hg m hm).mp h)
  · rw [hG (8 + m) (by omega)]
    exact g2 m hm (fun h' => h ((hg m hm).mpr h'))
  · rw [hG 8 (by omega), hG 9 (by omega), hG 10 (by omega), hG 11 (by omega), hG 7 (by omega)]
    exact g3
  · rw [gnE 0 (by decide), gnE 1 (by decide), gnE 2 (by decide), gnE 3 (by decide), hG 6 (by omega), hG 7 (by omega)]
    exact g4
end BnG
