/-! the place of a new order, and what is written there -/
def LC (q : PM) : Nat → Nat
  | 0 => 0
  | n + 1 => LC q n + (if q.1 15 3 n = 0 then 0 else 1)
theorem lc_num {p q : PM} {x y : Nat} (H : OR p q x y) : v12_live q = cn (LC q 40 : Nat) := by
  have k : ∀ (d i n : Nat), i + d = 40 → d + 4 < n → v12_live_4 q n (cn (LC q i : Nat)) (cn i) = cn (LC q 40 : Nat) := by
    intro d
    induction d with
    | zero =>
      intro i n h1 h2
      have e : i = 40 := by omega
      subst e
      exact live_tail H.2 4 40 n _ rfl (by decide) (by omega)
    | succ d ih =>
      intro i n h1 h2
      obtain ⟨m, rfl⟩ : ∃ m, n = m + 1 := ⟨n - 1, by omega⟩
      rw [ev12_live_4]
      unfold bv12_live_4
      rw [if_pos (lpt (N := 44) (by omega) (by omega)), cntk (i := i) (by omega), cnsucc]
      have h := ih (i + 1) m (by omega) (by omega)
      have e : LC q (i + 1) = LC q i + (if q.1 15 3 i = 0 then 0 else 1) := rfl
      rw [e] at h
      by_cases h0 : q.1 15 3 i = 0
      · rw [if_pos h0] at h ⊢
        rw [addz]
        exact h
      · rw [if_neg h0] at h ⊢
        rw [cnsucc]
        exact h
  exact k 40 0 FU rfl (by decide)
theorem LC_le (q : PM) : ∀ n, LC q n ≤ n
  | 0 => Nat.le_refl _
  | n + 1 => by
    have a := LC_le q n
    show LC q n + (if q.1 15 3 n = 0 then 0 else 1) ≤ n + 1
    split <;> omega
theorem free_at {q : PM} : ∀ n, LC q n < n → ∃ k, k < n ∧ q.1 15 3 k = 0 ∧ ∀ i, i < k → ¬ q.1 15 3 i = 0
  | 0, h => by omega
  | n + 1, h => by
    have e : LC q (n + 1) = LC q n + (if q.1 15 3 n = 0 then 0 else 1) := rfl
    by_cases h1 : LC q n < n
    · obtain ⟨k, k1, k2, k3⟩ := free_at n h1
      exact ⟨k, by omega, k2, k3⟩
    · have h2 := LC_le q n
      have h0 : q.1 15 3 n = 0 := by
        by_cases h0 : q.1 15 3 n = 0
        · exact h0
        · rw [if_neg h0] at e
          omega
      refine ⟨n, by omega, h0, fun i hi => ?_⟩
      have full : ∀ m, LC q m = m → ∀ i, i < m → ¬ q.1 15 3 i = 0 := by
        intro m
        induction m with
        | zero => intro _ i hi; omega
        | succ m ih =>
          intro hm i hi
          have e : LC q (m + 1) = LC q m + (if q.1 15 3 m = 0 then 0 else 1) := rfl
          have h3 := LC_le q m
          by_cases h0 : q.1 15 3 m = 0
          · rw [if_pos h0] at e
            omega
          · rw [if_neg h0] at e
            by_cases e2 : i = m
            · rw [e2]
              exact h0
            · exact ih (by omega) i (by omega)
      exact full n (by omega) i hi
/-- what the class writes, but for the number -/
theorem draw_loop {p : PM} {A B x : Nat} {v3 v4 v5 : Int32} (hx : x < 40) (hz : p.1 10 (x + 1) 2 = 0) (gb : g10_begin p (x + 1) (p.1 6 1 4 - cn 1) A B v3 v4 v5) : ∀ (d i n : Nat), i + d = x → d < n → (∀ j, i ≤ j → j < x → ¬ p.1 10 (j + 1) 2 = 0) → v6_draw_24 n p A B v3 v4 v5 (cn i) = (x + 1, v10_begin p (x + 1) (p.1 6 1 4 - cn 1) A B v3 v4 v5) ∧ g6_draw_24 n p A B v3 v4 v5 (cn i) := by
  intro d
  induction d with
  | zero =>
    intro i n h1 h2 h3
    obtain ⟨m, rfl⟩ : ∃ m, n = m + 1 := ⟨n - 1, by omega⟩
    have e : i = x := by omega
    subst e
    have hi := cninb (i := i) (n := 40) (by omega) (by omega)
    rw [ev6_draw_24, eg6_draw_24]
    unfold bv6_draw_24 bg6_draw_24
    simp only [if_pos (lpt (i := i) (N := 40) (by omega) (by omega)), cntk (i := i) (by omega), if_pos hz]
    exact ⟨trivial, hi, gb, trivial⟩
  | succ d ih =>
    intro i n h1 h2 h3
    obtain ⟨m, rfl⟩ : ∃ m, n = m + 1 := ⟨n - 1, by omega⟩
    have hi := cninb (i := i) (n := 40) (by omega) (by omega)
    obtain ⟨k1, k2⟩ := ih (i + 1) m (by omega) (by omega) (fun j j1 j2 => h3 j (by omega) j2)
    rw [ev6_draw_24, eg6_draw_24]
    unfold bv6_draw_24 bg6_draw_24
    simp only [if_pos (lpt (i := i) (N := 40) (by omega) (by omega)), cntk (i := i) (by omega), if_neg (h3 i (by omega) (by omega)), cnsucc]
    exact ⟨k1, hi, k2⟩
theorem g_begin (p : PM) (x : Nat) (v1 : Int32) (A B : Nat) (v3 v4 v5 : Int32) : g10_begin p (x + 1) v1 A B v3 v4 v5 := by
  have hz : ¬ x + 1 = 0 := by omega
  unfold g10_begin bg10_begin g14_abs_0f7a4 bg14_abs_0f7a4
  repeat' first
    | with_reducible exact hz
    | exact trivial
    | exact not_false
    | apply And.intro
    | (split <;> rename_i h9 <;> first | simp only [if_neg h9, if_true, if_false] | simp only [if_pos h9, if_true, if_false] | skip)
/-- what the reference writes -/
def rNw (q : PM) (x N : Nat) (a b t r any lim kind life : Int32) : PM := pI (pI (pI (pI (pI (pI (pI (pI (pI (pI (pI (pI (pI (pI (pI (pI (pI q 15 3 x (cn 1)) 13 14 x (cn N)) 12 1 39 (cn (N + 1 : Nat))) 13 15 x a) 13 16 x b) 15 4 x t) 13 17 x r) 15 5 x any) 13 18 x lim) 13 19 x kind) 13 20 x life) 13 21 x r) 13 22 x r) 13 24 x (cn 2)) 13 28 x (cn (-1))) 15 6 x (cn 0)) 12 1 95 (q.1 12 1 95 + r)
/-- what the class writes -/
def cNw (p : PM) (x N A B : Nat) (t r lim day : Int32) : PM := pI (pI (pI (pI (pI (pI (pI (pI (pI (pI (pI (pI (pR (pR (pI (pI (pI (pI p 6 1 4 (cn (N + 1 : Nat))) 10 (x + 1) 0 (cn N)) 10 (x + 1) 1 (cn 0)) 10 (x + 1) 2 (cn 2)) 10 (x + 1) 3 A) 10 (x + 1) 4 B) 10 (x + 1) 5 t) 10 (x + 1) 6 lim) 10 (x + 1) 7 (cn (-100000))) 10 (x + 1) 8 day) 10 (x + 1) 9 r) 10 (x + 1) 10 r) 10 (x + 1) 11 (cn 0)) 10 (x + 1) 12 (cn 0)) 10 (x + 1) 13 (cn 0)) 10 (x + 1) 14 (cn 0)) 10 (x + 1) 15 (cn (-100000))) 10 (x + 1) 16 (cn 0)
theorem absP_e (p : PM) {Q : Int} (h1 : -50 ≤ Q) (h2 : Q ≤ 50) : v14_abs_0f7a4 p (cn Q) = cn Q.natAbs := by
  rw [abs_e p p]
  exact absQ_e p h1 h2
theorem draw_e {p q : PM} {lg : Nat → Int32} {x A B N T D l : Nat} {Q : Int} {lim day : Int32} (H : WW p q lg 99 99 (fun _ => False) N T D l (fun _ => 0)) (hx : x < 40) (hd : q.1 15 3 x = 0) (hf : ∀ i, i < x → ¬ q.1 15 3 i = 0) (h1 : -50 ≤ Q) (h2 : Q ≤ 50) : v6_draw p A B lim (cn Q) day = (x + 1, cNw p x N A B (if 0 < Q then cn 1 else cn 0) (cn Q.natAbs) lim day) ∧ g6_draw p A B lim (cn Q) day := by
  have hn := H.1.2.1.2.2.1
  have hN := H.1.2.1.2.2.2.2
  have e4 : p.1 6 1 4 + cn 1 = cn (N + 1 : Nat) := by
    rw [hn]
    exact cnsucc N
  have e4' : (pI p 6 1 4 (cn (N + 1 : Nat))).1 6 1 4 - cn 1 = cn N := by
    rw [pI_at, cnsub]
    congr 1
    omega
  have e10 : ∀ i, (pI p 6 1 4 (cn (N + 1 : Nat))).1 10 i 2 = p.1 10 i 2 := fun i => by rw [pI_1, u3_k (by decide)]
  have hz : (pI p 6 1 4 (cn (N + 1 : Nat))).1 10 (x + 1) 2 = 0 := by
    rw [e10]
    rcases H.1.1.1 x hx with ⟨k, -⟩ | ⟨k, -⟩
    · exact k
    · rw [hd] at k
      exact absurd k.symm cn01
  have hlv : ∀ j, 0 ≤ j → j < x → ¬ (pI p 6 1 4 (cn (N + 1 : Nat))).1 10 (j + 1) 2 = 0 := by
    intro j _ hj
    rw [e10]
    rcases H.1.1.1 j (by omega) with ⟨-, k⟩ | ⟨-, a, b, r, s, z, hL⟩
    · exact absurd k (hf j hj)
    · exact lv_nogone hL
  obtain ⟨F, hF, hF2⟩ : ∃ F, FU = F ∧ 100 < F := ⟨FU, rfl, by decide⟩
  obtain ⟨k1, k2⟩ := draw_loop (p := pI p 6 1 4 (cn (N + 1 : Nat))) (A := A) (B := B) (v3 := lim) (v4 := cn Q) (v5 := day) hx hz (g_begin _ _ _ _ _ _ _ _) x 0 F (by omega) (by omega) hlv
  have z0 : cn ((0 : Nat) : Int) = cn 0 := rfl
  rw [z0, e4'] at k1
  rw [z0] at k2
  unfold v6_draw bv6_draw g6_draw bg6_draw
  rw [e4, hF]
  refine ⟨?_, k2⟩
  rw [k1]
  congr 1
  unfold v10_begin bv10_begin cNw
  have ea : ∀ p : PM, v14_abs_0f7a4 p (cn Q) = cn Q.natAbs := fun p => absP_e p h1 h2
  have eq0 : ((0 : Int32) < cn Q) = (0 < Q) := by
    rw [zcn, cnlt (by decide) ⟨by omega, by omega⟩]
  simp only [ea, eq0, pI_at]
  by_cases h : 0 < Q
  · simp only [if_pos h]
  · simp only [if_neg h]
theorem new_loop {q : PM} {x N : Nat} {a b any lim kind life : Int32} {Q : Int} (hx : x < 40) (hd : q.1 15 3 x = 0) (h1 : -50 ≤ Q) (h2 : Q ≤ 50) (hn : q.1 12 1 39 = cn N) (hany : b01 any) : ∀ (d i n : Nat), i + d = x → d < n → (∀ j, i ≤ j → j < x → ¬ q.1 15 3 j = 0) → v12_newOrder_3 n q a b (cn Q) lim any kind life (cn i) = (cn x, rNw q x N a b (if 0 < Q then cn 1 else cn 0) (cn Q.natAbs) any lim kind life) ∧ g12_newOrder_3 n q a b (cn Q) lim any kind life (cn i) := by
  have ea : ∀ p : PM, v12_abs p (cn Q) = cn Q.natAbs := fun p => absQ_e p h1 h2
  have eq0 : ((0 : Int32) < cn Q) = (0 < Q) := by
    rw [zcn, cnlt (by decide) ⟨by omega, by omega⟩]
  intro d
  induction d with
  | zero =>
    intro i n h1 h2 h3
    obtain ⟨m, rfl⟩ : ∃ m, n = m + 1 := ⟨n - 1, by omega⟩
    have e : i = x := by omega
    subst e
    have hi := cninb (i := i) (n := 44) (by omega) (by omega)
    have e39 : ∀ {f : Nat → Nat → Nat → Int32} {w : Int32} {k s : Nat}, u3 f 13 k s w 12 1 39 = f 12 1 39 := fun {f w k s} => u3_k (by decide)
    have e39' : ∀ {f : Nat → Nat → Nat → Int32} {w : Int32} {k s : Nat}, u3 f 15 k s w 12 1 39 = f 12 1 39 := fun {f w k s} => u3_k (by decide)
    have e17 : ∀ {f : Nat → Nat → Nat → Int32} {w : Int32} {k s : Nat}, u3 f 15 k s w 13 17 i = f 13 17 i := fun {f w k s} => u3_k (by decide)
    rw [ev12_newOrder_3, eg12_newOrder_3]
    unfold bv12_newOrder_3 bg12_newOrder_3
    simp only [cntk (i := i) (by omega), if_pos hd]
    refine ⟨?_, hi, ?_⟩
    · unfold rNw
      simp only [ea, eq0]
      by_cases h : 0 < Q
      · simp (decide := true) only [if_pos h, pI_1, u3_same, u3_k, u3_i, not_false_eq_true, hn, cnsucc]
      · simp (decide := true) only [if_neg h, pI_1, u3_same, u3_k, u3_i, not_false_eq_true, hn, cnsucc]
    · have ga : ∀ q v, g12_abs q v := g_absQ
      repeat' first
        | with_reducible exact hi
        | with_reducible exact hany
        | with_reducible exact ga _ _
        | exact trivial
        | exact not_false
        | apply And.intro
        | (split <;> rename_i h9 <;> first | simp only [if_neg h9, if_true, if_false] | simp only [if_pos h9, if_true, if_false] | skip)
  | succ d ih =>
    intro i n h1 h2 h3
    obtain ⟨m, rfl⟩ : ∃ m, n = m + 1 := ⟨n - 1, by omega⟩
    have hi := cninb (i := i) (n := 44) (by omega) (by omega)
    obtain ⟨k1, k2⟩ := ih (i + 1) m (by omega) (by omega) (fun j j1 j2 => h3 j (by omega) j2)
    rw [ev12_newOrder_3, eg12_newOrder_3]
    unfold bv12_newOrder_3 bg12_newOrder_3
    simp only [cntk (i := i) (by omega), if_neg (h3 i (by omega) (by omega)), cnsucc]
    exact ⟨k1, hi, k2⟩
theorem new_e {p q : PM} {lg : Nat → Int32} {x N T D l : Nat} {a b any lim kind life : Int32} {Q : Int} (H : WW p q lg 99 99 (fun _ => False) N T D l (fun _ => 0)) (hx : x < 40) (hd : q.1 15 3 x = 0) (hf : ∀ i, i < x → ¬ q.1 15 3 i = 0) (h1 : -50 ≤ Q) (h2 : Q ≤ 50) (hany : b01 any) : v12_newOrder q a b (cn Q) lim any kind life = (cn x, rNw q x N a b (if 0 < Q then cn 1 else cn 0) (cn Q.natAbs) any lim kind life) ∧ g12_newOrder q a b (cn Q) lim any kind life := by
  obtain ⟨F, hF, hF2⟩ : ∃ F, FU = F ∧ 100 < F := ⟨FU, rfl, by decide⟩
  have k := new_loop (q := q) (x := x) (N := N) (a := a) (b := b) (any := any) (lim := lim) (kind := kind) (life := life) (Q := Q) hx hd h1 h2 H.1.2.1.2.2.2.1 hany x 0 F (by omega) (by omega) (fun j _ hj => hf j hj)
  have z0 : cn ((0 : Nat) : Int) = cn 0 := rfl
  rw [z0] at k
  unfold v12_newOrder bv12_newOrder g12_newOrder bg12_newOrder
  rw [hF]
  exact k
