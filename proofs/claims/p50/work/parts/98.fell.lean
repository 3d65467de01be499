/-! several orders fall: protections one behind the other; icebergs that show anew later -/
noncomputable def gdC (n : Int) : List Nat → PM → PM
  | [], p => p
  | o :: os, p => gdC n os (v6_guard p (o + 1) (cn n))
noncomputable def gdG (n : Int) : List Nat → PM → Prop
  | [], _ => True
  | o :: os, p => g6_guard p (o + 1) (cn n) ∧ gdG n os (v6_guard p (o + 1) (cn n))
noncomputable def gdQ : List Nat → PM → PM
  | [], q => q
  | o :: os, q => gdQ os (v12_guards q (cn o))
noncomputable def gdH : List Nat → PM → Prop
  | [], _ => True
  | o :: os, q => g12_guards q (cn o) ∧ gdH os (v12_guards q (cn o))
def cnt (q : PM) (n : Int) : List (Nat × Nat) → Nat → Int
  | [], _ => 0
  | z :: os, c => (if q.1 13 19 z.1 = cn 4 ∧ c = z.2 then n else 0) + cnt q n os c
theorem cnt_nn {q : PM} {n : Int} (h : 0 ≤ n) (c : Nat) : ∀ os : List (Nat × Nat), 0 ≤ cnt q n os c
  | [] => Int.le_refl _
  | z :: os => by
    show 0 ≤ (if q.1 13 19 z.1 = cn 4 ∧ c = z.2 then n else 0) + cnt q n os c
    have := cnt_nn (q := q) h c os
    split <;> omega
theorem cnt_0 {q : PM} {n : Int} {c : Nat} : ∀ os : List (Nat × Nat), (∀ z ∈ os, ¬ (q.1 13 19 z.1 = cn 4 ∧ c = z.2)) → cnt q n os c = 0
  | [], _ => rfl
  | z :: os, h => by
    show (if q.1 13 19 z.1 = cn 4 ∧ c = z.2 then n else 0) + cnt q n os c = 0
    rw [if_neg (h z (List.mem_cons_self)), cnt_0 os fun y hy => h y (List.mem_cons_of_mem _ hy)]
    rfl
theorem tst_k {q : PM} {o a : Nat} (h : tst q o a = true) : q.1 13 19 o = cn 4 := by
  unfold tst at h
  simp only [Bool.and_eq_true, decide_eq_true_eq] at h
  exact h.1.1
theorem tst_same {q : PM} {o o' a : Nat} (h : q.1 13 19 o' = cn 4) (ht : tst q o a = true) : tst q o' a = true := by
  have hk := tst_k ht
  unfold tst at ht ⊢
  rw [h]
  rw [hk] at ht
  exact ht
section Guards
variable {q : PM} {lg : Nat → Int32} {x y N T D l : Nat} {w : Nat → Prop} {n : Int}
theorem guards_list (hn : 1 ≤ n) : ∀ (os : List (Nat × Nat)) (p : PM) (K : Nat → Bool) (f0 : Nat → Int), WW p (kq q K) lg x y w N T D l (fun c => f0 c + cnt q n os c) → (∀ z ∈ os, z.2 < 8 ∧ (p.1 10 (z.1 + 1) 1 = cn 3) = (q.1 13 19 z.1 = cn 4) ∧ p.2.2 10 (z.1 + 1) 3 = z.2 + 1) → (∀ c, 0 ≤ f0 c) → gdG n (os.map Prod.fst) p ∧ ∃ K' : Nat → Bool, (∀ c, K' c = true → K c = true ∨ ∃ z ∈ os, c = z.2 ∧ tst q z.1 z.2 = true) ∧ (∀ c, K c = true → K' c = true) ∧ (∀ z ∈ os, f0 z.2 = 0 → tst q z.1 z.2 = true → K' z.2 = true) ∧ WW (gdC n (os.map Prod.fst) p) (kq q K') lg x y w N T D l f0 ∧ (∀ k, ¬ k = 10 → ¬ k = 0 → (gdC n (os.map Prod.fst) p).1 k = p.1 k) ∧ (∀ i S, ¬ S = 2 → (gdC n (os.map Prod.fst) p).1 10 i S = p.1 10 i S) ∧ (gdC n (os.map Prod.fst) p).2 = p.2 := by
  intro os
  induction os with
  | nil =>
    intro p K f0 H _ _
    refine ⟨trivial, K, fun c h => Or.inl h, fun _ h => h, fun z hz => by simp at hz, ?_, fun _ _ _ => rfl, fun _ _ _ => rfl, rfl⟩
    have e : (fun c => f0 c + cnt q n [] c) = f0 := by
      funext c
      show f0 c + 0 = f0 c
      omega
    rw [e] at H
    exact H
  | cons z os ih =>
    intro p K f0 H hz hf
    obtain ⟨o, a⟩ := z
    obtain ⟨z1, z2, z3⟩ := hz (o, a) (List.mem_cons_self)
    dsimp only at z1 z2 z3
    have hnn := cnt_nn (q := q) (n := n) (by omega) a os
    have hfa := hf a
    obtain ⟨g1, K1, k1, k2, k3, W1⟩ := ww_guard (o := o) (a := a) (n := n) H z1 z2 z3 hn (fun h => by
      show n ≤ f0 a + ((if q.1 13 19 o = cn 4 ∧ a = a then n else 0) + cnt q n os a)
      rw [if_pos ⟨h, rfl⟩]
      omega)
    obtain ⟨t1, t2, t3⟩ := guardC_fr (p := p) (o := o) (a := a) (v := cn n)
    have ef : fu (fun c => f0 c + cnt q n ((o, a) :: os) c) a (if q.1 13 19 o = cn 4 then -n else 0) = fun c => f0 c + cnt q n os c := by
      funext c
      unfold fu
      show (if c = a then f0 c + ((if q.1 13 19 o = cn 4 ∧ c = a then n else 0) + cnt q n os c) + (if q.1 13 19 o = cn 4 then -n else 0) else f0 c + ((if q.1 13 19 o = cn 4 ∧ c = a then n else 0) + cnt q n os c)) = f0 c + cnt q n os c
      by_cases e : c = a
      · rw [if_pos e]
        by_cases e2 : q.1 13 19 o = cn 4
        · rw [if_pos ⟨e2, e⟩, if_pos e2]
          omega
        · rw [if_neg (fun h => e2 h.1), if_neg e2]
          omega
      · rw [if_neg e, if_neg (fun h => e h.2)]
        omega
    rw [ef] at W1
    obtain ⟨g2, K2, m1, m2, m3, W2, m4, m5, m6⟩ := ih (v6_guard p (o + 1) (cn n)) K1 f0 W1 (fun z hzm => by
      obtain ⟨y1, y2, y3⟩ := hz z (List.mem_cons_of_mem _ hzm)
      refine ⟨y1, ?_, ?_⟩
      · rw [t2 _ 1 (by decide)]
        exact y2
      · rw [t3]
        exact y3) hf
    refine ⟨⟨g1, g2⟩, K2, fun c h => ?_, fun c h => m2 c (k2 c h), fun z hzm h0 ht => ?_, W2, fun k h h' => (m4 k h h').trans (t1 k h h'), fun i S h => (m5 i S h).trans (t2 i S h), m6.trans t3⟩
    · rcases m1 c h with h1 | ⟨z, hz1, h1⟩
      · rcases k1 c h1 with h2 | h2
        · exact Or.inl h2
        · exact Or.inr ⟨(o, a), List.mem_cons_self, h2.1, by rw [← h2.1]; exact h2.1 ▸ h2.2⟩
      · exact Or.inr ⟨z, List.mem_cons_of_mem _ hz1, h1⟩
    · rcases List.mem_cons.mp hzm with rfl | hz1
      · dsimp only at h0 ht ⊢
        by_cases hex : ∃ z2 ∈ os, q.1 13 19 z2.1 = cn 4 ∧ a = z2.2
        · obtain ⟨z2, hz2, e1, e2⟩ := hex
          have := m3 z2 hz2 (by rw [← e2]; exact h0) (by rw [← e2]; exact tst_same e1 ht)
          rw [e2]
          exact this
        · refine m2 a (k3 (tst_k ht) ?_ ht)
          show f0 a + ((if q.1 13 19 o = cn 4 ∧ a = a then n else 0) + cnt q n os a) = n
          rw [if_pos ⟨tst_k ht, rfl⟩, h0, cnt_0 os fun z2 hz2 h => hex ⟨z2, hz2, h⟩]
          omega
      · exact m3 z hz1 h0 ht
end Guards
/-- the reference's protections, one behind the other -/
theorem gdQ_e : ∀ (os : List (Nat × Nat)) (q : PM), (∀ z ∈ os, z.1 < 44 ∧ z.2 < 8 ∧ q.1 13 15 z.1 = cn z.2) → (∀ s, s < 44 → b01 (q.1 15 3 s)) → (∀ s, s < 44 → q.1 15 3 s = cn 1 → ∃ c : Nat, c < 8 ∧ q.1 13 15 s = cn c) → gdH (os.map Prod.fst) q ∧ gdQ (os.map Prod.fst) q = kq q (fun c => os.any fun z => decide (c = z.2) && tst q z.1 z.2)
  | [], q, _, _, _ => ⟨trivial, (kq_none fun _ => rfl).symm⟩
  | (o, a) :: os, q, h1, h2, h3 => by
    obtain ⟨z1, z2, z3⟩ := h1 (o, a) (List.mem_cons_self)
    dsimp only at z1 z2 z3
    obtain ⟨g1, k1⟩ := guardQ_e z1 z2 z3 h2 h3
    have k := gdQ_e os (kq q fun c => decide (c = a) && tst q o a) (fun z hz => by
      obtain ⟨y1, y2, y3⟩ := h1 z (List.mem_cons_of_mem _ hz)
      exact ⟨y1, y2, by rw [kq_k (by decide)]; exact y3⟩) (fun s hs => by
      rw [kq_3]
      split
      · exact b0
      · exact h2 s hs) (fun s hs h => by
      rw [kq_3] at h
      rw [kq_k (by decide)]
      split at h
      · exact absurd h (by decide)
      · exact h3 s hs h)
    show (g12_guards q (cn o) ∧ gdH (os.map Prod.fst) (v12_guards q (cn o))) ∧ gdQ (os.map Prod.fst) (v12_guards q (cn o)) = _
    rw [k1]
    refine ⟨⟨g1, k.1⟩, ?_⟩
    rw [k.2, kq_kq]
    refine congrArg (kq q) (funext fun c => ?_)
    simp only [tst_kq, List.any_cons]
/-! an iceberg that shows anew, beside the fall of another -/
def fL (q : PM) (o a : Nat) (u v t g : Int32) : PM := pI (fQ q o a u v t) 15 3 o g
theorem u3_no {f : Nat → Nat → Nat → Int32} {w : Int32} {k i s k' i' s' : Nat} (h : ¬ (k' = k ∧ i' = i ∧ s' = s)) : u3 f k i s w k' i' s' = f k' i' s' := by
  unfold u3
  exact if_neg h
theorem fL_pI {q : PM} {o a k i s : Nat} {u v t g w : Int32} (h1 : ¬ (k = 13 ∧ i = 17 ∧ s = o)) (h2 : ¬ (k = 13 ∧ i = 22 ∧ s = o)) (h3 : ¬ (k = 15 ∧ i = 6 ∧ s = o)) (h4 : ¬ (k = 13 ∧ i = 4 ∧ s = a)) (h5 : ¬ (k = 15 ∧ i = 3 ∧ s = o)) (h6 : ¬ (k = 13 ∧ i = 4 ∧ s = 8)) : fL (pI q k i s w) o a u v t g = pI (fL q o a u v t g) k i s w := by
  have eb : bV (pI q k i s w) o u = bV q o u := by
    unfold bV
    rw [pI_1, u3_no (fun e => h6 ⟨e.1.symm, e.2.1.symm, e.2.2.symm⟩), u3_no (fun e => h1 ⟨e.1.symm, e.2.1.symm, e.2.2.symm⟩)]
  unfold fL fQ
  rw [eb, pI_comm h1, pI_comm h2, pI_comm h3, pI_comm h4, pI_comm h6, pI_comm h5]
theorem fallQ_g {q : PM} {o : Nat} {n : Int32} (ho : o ≤ 2147483647) : v12_falls q (cn o) n (cn 1) = fL q o (q.1 13 15 o).toNatClampNeg (q.1 13 17 o - n) (q.1 13 22 o - n) (q.1 13 4 (q.1 13 15 o).toNatClampNeg + (if q.1 13 19 o = cn 4 then n else cn 0)) (if 0 < q.1 13 17 o - n then cn 1 else cn 0) := by
  unfold v12_falls bv12_falls fL fQ bV
  have k1 : ∀ {f : Nat → Nat → Nat → Int32} {w : Int32} {s : Nat}, u3 f 15 6 o w 13 s o = f 13 s o := fun {f w s} => u3_k (by decide)
  have k2 : ∀ {f : Nat → Nat → Nat → Int32} {w : Int32} {s a : Nat}, u3 f 15 6 o w 13 s a = f 13 s a := fun {f w s a} => u3_k (by decide)
  have n1 : ¬ cn 1 = 0 := cn01
  simp only [cntk (i := o) ho, if_neg n1, i32_ss, pI_1, u3_same, k1, k2, u3_i (show ¬ (22 : Nat) = 17 by decide), u3_i (show ¬ (19 : Nat) = 17 by decide), u3_i (show ¬ (19 : Nat) = 22 by decide), u3_i (show ¬ (15 : Nat) = 17 by decide), u3_i (show ¬ (15 : Nat) = 22 by decide), u3_i (show ¬ (4 : Nat) = 17 by decide), u3_i (show ¬ (4 : Nat) = 22 by decide), u3_i (show ¬ (17 : Nat) = 4 by decide), u3_i (show ¬ (17 : Nat) = 22 by decide)]
  by_cases g2 : q.1 13 19 o = cn 4
  · by_cases g3 : 0 < q.1 13 17 o - n
    · simp only [if_pos g2, if_pos g3]
    · simp only [if_pos g2, if_neg g3]
  · by_cases g3 : 0 < q.1 13 17 o - n
    · simp only [if_neg g2, if_pos g3]
    · simp only [if_neg g2, if_neg g3]
/-- it shows nothing, but has a rest -/
def cS (q : PM) (o : Nat) : Prop := ¬ q.1 15 3 o = 0 ∧ q.1 13 19 o = cn 1 ∧ q.1 13 22 o = 0
noncomputable def mS (q : PM) (o : Nat) : Int32 := if q.1 13 21 o < q.1 13 17 o then q.1 13 21 o else q.1 13 17 o
def sW (q : PM) (o : Nat) (m t : Int32) : PM := pI (pI (pI q 13 22 o m) 13 23 o t) 12 1 40 (t + cn 1)
theorem sQ_p {q : PM} {o : Nat} (ho : o ≤ 2147483647) (h : cS q o) : sQ q o = sW q o (mS q o) (q.1 12 1 40) := by
  unfold sQ sW mS
  rw [if_neg h.1, if_pos h.2.1, if_pos h.2.2]
  have e : v12_showsAnew q (cn o) = pI q 13 22 o (if q.1 13 21 o < q.1 13 17 o then q.1 13 21 o else q.1 13 17 o) := by
    unfold v12_showsAnew bv12_showsAnew
    simp only [cntk (i := o) ho]
    split <;> rfl
  rw [e]
  unfold v12_newTurn bv12_newTurn
  simp only [cntk (i := o) ho]
  rfl
theorem sQ_n {q : PM} {o : Nat} (h : ¬ cS q o) : sQ q o = q := by
  unfold sQ
  split
  · rfl
  · rename_i h1
    split
    · rename_i h2
      split
      · rename_i h3
        exact absurd ⟨h1, h2, h3⟩ h
      · rfl
    · rfl
theorem fall_sQ {q : PM} {o u : Nat} {n : Int32} (ho : o ≤ 2147483647) (hu : u ≤ 2147483647) (hne : ¬ u = o) : v12_falls (sQ q o) (cn u) n (cn 1) = sQ (v12_falls q (cn u) n (cn 1)) o := by
  have hne' : ¬ o = u := fun h => hne h.symm
  have f3 : ∀ {q : PM} {a : Nat} {A B C E : Int32}, (fL q u a A B C E).1 15 3 o = q.1 15 3 o := by
    intro q a A B C E
    unfold fL
    rw [pI_1, u3_s hne', fQ_15 (by decide)]
  have fk : ∀ {q : PM} {a : Nat} {A B C E : Int32} {K : Nat}, ¬ K = 4 → (fL q u a A B C E).1 13 K o = q.1 13 K o := by
    intro q a A B C E K h
    unfold fL
    rw [pI_1, u3_k (by decide), fQ_i hne' h]
  have f12 : ∀ {q : PM} {a : Nat} {A B C E : Int32}, (fL q u a A B C E).1 12 1 40 = q.1 12 1 40 := by
    intro q a A B C E
    unfold fL
    rw [pI_1, u3_k (by decide), fQ_12]
  by_cases h : cS q o
  · have h' : cS (v12_falls q (cn u) n (cn 1)) o := by
      unfold cS at h ⊢
      rw [fallQ_g hu, f3, fk (by decide), fk (by decide)]
      exact h
    have em : mS (v12_falls q (cn u) n (cn 1)) o = mS q o := by
      unfold mS
      rw [fallQ_g hu, fk (by decide), fk (by decide)]
    have et : (v12_falls q (cn u) n (cn 1)).1 12 1 40 = q.1 12 1 40 := by rw [fallQ_g hu, f12]
    rw [sQ_p ho h, sQ_p ho h', em, et, fallQ_g hu, fallQ_g hu]
    have c : ∀ K a, ¬ (K = 22 ∧ a = o) → ¬ (K = 23 ∧ a = o) → (sW q o (mS q o) (q.1 12 1 40)).1 13 K a = q.1 13 K a := by
      intro K a h1 h2
      unfold sW
      rw [pI_1, u3_k (by decide), pI_1, pI_1]
      by_cases e : a = o
      · rw [u3_i (fun e2 => h2 ⟨e2, e⟩), u3_i (fun e2 => h1 ⟨e2, e⟩)]
      · rw [u3_s e, u3_s e]
    rw [c 15 u (by omega) (by omega), c 17 u (by omega) (by omega), c 22 u (by omega) (by omega), c 4 _ (by omega) (by omega), c 19 u (by omega) (by omega)]
    unfold sW
    rw [fL_pI (by omega) (by omega) (by omega) (by omega) (by omega) (by omega), fL_pI (by omega) (by omega) (by omega) (by omega) (by omega) (by omega), fL_pI (by omega) (by omega) (by omega) (by omega) (by omega) (by omega)]
  · have h' : ¬ cS (v12_falls q (cn u) n (cn 1)) o := by
      unfold cS at h ⊢
      rw [fallQ_g hu, f3, fk (by decide), fk (by decide)]
      exact h
    rw [sQ_n h, sQ_n h']
theorem falls1_e {q : PM} {o : Nat} {n : Int32} (ho : o < 44) : v12_falls1 q (cn o) n = sQ (v12_falls q (cn o) n (cn 1)) o ∧ (g12_falls q (cn o) n (cn 1) → g12_falls1 q (cn o) n) := by
  have hio := cninb (i := o) (n := 44) ho (by omega)
  have gnT : ∀ q, g12_newTurn q (cn o) := by
    intro q
    unfold g12_newTurn bg12_newTurn
    repeat' first
      | with_reducible exact hio
      | exact trivial
      | exact not_false
      | apply And.intro
      | (split <;> rename_i h9 <;> first | simp only [if_neg h9, if_true, if_false] | simp only [if_pos h9, if_true, if_false] | skip)
  have gsh : ∀ q, g12_showsAnew q (cn o) := by
    intro q
    unfold g12_showsAnew bg12_showsAnew
    repeat' first
      | with_reducible exact hio
      | exact trivial
      | exact not_false
      | apply And.intro
      | (split <;> rename_i h9 <;> first | simp only [if_neg h9, if_true, if_false] | simp only [if_pos h9, if_true, if_false] | skip)
  unfold v12_falls1 bv12_falls1 g12_falls1 bg12_falls1 sQ
  simp only [cntk (i := o) (by omega)]
  generalize v12_falls q (cn o) n (cn 1) = q1
  refine ⟨trivial, fun h => ⟨h, hio, ?_⟩⟩
  split
  · trivial
  · refine ⟨hio, ?_⟩
    split
    · refine ⟨hio, ?_⟩
      split
      · exact ⟨gsh _, gnT _, trivial⟩
      · trivial
    · trivial
