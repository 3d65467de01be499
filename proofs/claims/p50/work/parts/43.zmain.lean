/-! one step of the evaluator is sound; the evaluator is sound -/
theorem ZJ_of {w k pc pc' : Nat} {la sa la' sa' : List ZV} {p p' : PM} {r : Option ZV × PM} (h : ∀ x M, okx w x → X k pc (la.map (em x)) (sa.map (em x)) (sP M x p) = X k pc' (la'.map (em x)) (sa'.map (em x)) (sP M x p')) (hz : ZJ w k pc' la' sa' p' r) : ZJ w k pc la sa p r := ⟨fun x M hx => (h x M hx).trans (hz.1 x M hx), hz.2⟩
theorem cn_nat {m : Int} {b : Nat} (h0 : 0 ≤ m) (h1 : m < (b : Int)) (h : rng m = true) : inb (cn m) b ∧ (cn m).toNatClampNeg = m.toNat := by
  have h2 := cn_toInt h
  have h3 : (cn m).toNatClampNeg = m.toNat := by
    unfold Int32.toNatClampNeg
    rw [h2]
  refine ⟨⟨?_, ?_⟩, h3⟩
  · rw [Int32.le_iff_toInt_le, h2]
    have h4 : (0 : Int32).toInt = 0 := by decide
    rw [h4]; exact h0
  · rw [h3]; omega
theorem zIx_r {R : Type} {Z : R → Prop} {jk : R} {w a i b c : Nat} {j : ZV} {T : Nat → Prop} {V : Nat → R} (hr : rokX w a b c = true) (hh : ∀ y, (∀ x, em x j = vI y) → (∀ x M, okx w x → ¬ i = 0 ∧ inb y (lenA M x a i)) → T y.toNatClampNeg → Z (V y.toNatClampNeg)) (H : zIx w (fun g r => g ∧ r) False a i b c j T) : Z (zIx w (fun _ r => r) jk a i b c j V) := by
  match c, hr, H with
  | 0, hr, H =>
    have hb0 : b ≠ 0 := by
      unfold rokX at hr
      simp only [Bool.and_eq_true, Bool.not_eq_true', decide_eq_false_iff_not] at hr
      exact hr.1
    have gen : Nat.beq (zln w a i) b = true → ∀ y, inb y b → ∀ x M, okx w x → ¬ i = 0 ∧ inb y (lenA M x a i) := by
      intro hb y hy x M hx
      obtain ⟨h1, h2⟩ := zln_s hx hb0 (Nat.eq_of_beq_eq_true hb) M
      refine ⟨h1, ?_⟩
      rw [h2]; exact hy
    rcases j with m | y | y | ⟨k', i'⟩ | u
    · have H : zsw (Nat.beq (zln w a i) b) False (zsw (decide (0 ≤ m) && decide (m < (b : Int)) && rng m) False (T m.toNat)) := H
      show Z (zsw (Nat.beq (zln w a i) b) jk (zsw (decide (0 ≤ m) && decide (m < (b : Int)) && rng m) jk (V m.toNat)))
      refine zsw_r (Z := Z) (fun hb Ha => ?_) H
      refine zsw_r (Z := Z) (fun hm Hb => ?_) Ha
      simp only [Bool.and_eq_true, decide_eq_true_eq] at hm
      obtain ⟨h1, h2⟩ := cn_nat hm.1.1 hm.1.2 hm.2
      have h3 := hh (cn m) (fun x => rfl) (gen hb _ h1)
      rw [h2] at h3
      exact h3 Hb
    · have H : zsw (Nat.beq (zln w a i) b) False (inb y b ∧ T y.toNatClampNeg) := H
      show Z (zsw (Nat.beq (zln w a i) b) jk (V y.toNatClampNeg))
      refine zsw_r (Z := Z) (fun hb Ha => ?_) H
      exact hh y (fun x => rfl) (gen hb _ Ha.1) Ha.2
    · exact (zsw_r (R := Prop) (Z := fun _ => False) (jk := False) (V := False) (fun _ q => q) H).elim
    · exact (zsw_r (R := Prop) (Z := fun _ => False) (jk := False) (V := False) (fun _ q => q) H).elim
    · exact (zsw_r (R := Prop) (Z := fun _ => False) (jk := False) (V := False) (fun _ q => q) H).elim
  | 1, hr, H =>
    obtain ⟨rfl, rfl, rfl⟩ := of_decide_eq_true hr
    have H : zi j False fun x => ((¬ i = 0 ∧ i ≤ 18) ∧ inb x 4) ∧ T x.toNatClampNeg := H
    show Z (zi j jk fun x => V x.toNatClampNeg)
    refine zi_r (Z := Z) (fun y hy H => ?_) H
    refine hh y hy (fun x M hx => ?_) H.2
    obtain ⟨h1, h2⟩ := zln_s hx (by decide) (zln_pos H.1.1.1 H.1.1.2) M
    exact ⟨h1, by rw [h2]; exact H.1.2⟩
  | 2, hr, H =>
    obtain ⟨rfl, rfl, rfl⟩ := of_decide_eq_true hr
    have H : zi j False fun x => ((20 ≤ i ∧ i ≤ 23) ∧ inb x 4) ∧ T x.toNatClampNeg := H
    show Z (zi j jk fun x => V x.toNatClampNeg)
    refine zi_r (Z := Z) (fun y hy H => ?_) H
    refine hh y hy (fun x M hx => ?_) H.2
    obtain ⟨h1, h2⟩ := zln_s hx (by decide) (zln_row H.1.1.1 H.1.1.2) M
    exact ⟨h1, by rw [h2]; exact H.1.2⟩
  | n + 3, hr, H =>
    have H : zi j False fun x => (¬ i = 0 ∧ inb x (zln w a i)) ∧ T x.toNatClampNeg := H
    show Z (zi j jk fun x => V x.toNatClampNeg)
    refine zi_r (Z := Z) (fun y hy H => ?_) H
    refine hh y hy (fun x M hx => ?_) H.2
    have h9 := H.1.2
    have hne : zln w a i ≠ 0 := by
      intro h0
      rw [h0] at h9
      exact absurd h9.2 (Nat.not_lt_zero _)
    obtain ⟨h1, h2⟩ := zln_s hx hne rfl M
    exact ⟨h1, by rw [h2]; exact h9⟩
theorem rdv_sP {M : Mem} {x K i S : Nat} {p : PM} : (∀ t, t < 2 → rdv (sP M x p) x K i S t = vI (p.1 K i S)) ∧ rdv (sP M x p) x K i S 2 = vL (p.2.1 K i S) ∧ ∀ j, ¬ K = 11 → rdv (sP M x p) x K i S (j + 3) = vR x j (p.2.2 K i S) := by
  refine ⟨fun t ht => ?_, ?_, fun j hK => ?_⟩
  · have h1 : t = 0 ∨ t = 1 := by omega
    rcases h1 with rfl | rfl
    · show vI (gI _ _ _ _ _) = _; rw [gI_sP]
    · show vI (gI _ _ _ _ _) = _; rw [gI_sP]
  · show vL (gJ _ _ _ _ _) = _; rw [gJ_sP]
  · show vR (xp K S x) j (gR _ _ _ _ _) = _; rw [gR_sP, xp_ne hK]
section ZS
variable {σ R : Type} {w k rt : Nat} {cs : List Cal} {pm : σ → PM} {up : σ → PM → Option σ} {jV : R} {rI : Int32 → σ → R} {rL : Int64 → σ → R} {rR : Nat → σ → R} {rV : σ → R} {h : R → Option ZV × PM} {KV : List ZV → List ZV → σ → R} {KG : List ZV → List ZV → σ → Prop} {JV : Nat → List ZV → List ZV → σ → R} {JG : Nat → List ZV → List ZV → σ → Prop} {pc len : Nat} {i : Instr} {la sa : List ZV} {s : σ}
theorem zs_go {pc' : Nat} {la' sa' : List ZV} (hd : decode (mB k) pc = .ok (i, len)) (hl : iln i len = true) (hn : ∀ x M, okx w x → nxi k pc (la.map (em x)) (sa.map (em x)) M i = go k pc' (la'.map (em x)) (sa'.map (em x)) M) (hz : ZJ w k pc' la' sa' (pm s) (h (KV la' sa' s))) : ZJ w k pc la sa (pm s) (h (KV la' sa' s)) := ZJ_of (fun x M hx => xr hd hl (hn x _ hx)) hz
theorem zs_bin (f : Int32 → Int32 → Int32) (hd : decode (mB k) pc = .ok (i, 1)) (hl : iln i 1 = true) (hg : Gr w (pm s)) (hK : ∀ la sa s, Gr w (pm s) → KG la sa s → ZJ w k (pc + 1) la sa (pm s) (h (KV la sa s))) (hn : ∀ x y la st M, nxi k pc la (vI y :: vI x :: st) M i = go k (pc + 1) la (vI (f x y) :: st) M) (H : z0 sa False fun v st => z0 st False fun u st => zi u False fun x => zi v False fun y => KG la (zI (f x y) :: st) s) : ZJ w k pc la sa (pm s) (h (z0 sa jV fun v st => z0 st jV fun u st => zi u jV fun x => zi v jV fun y => KV la (zI (f x y) :: st) s)) := by
  refine z0_r (Z := fun V => ZJ w k pc la sa (pm s) (h V)) (fun v st e1 H1 => ?_) H
  refine z0_r (Z := fun V => ZJ w k pc la sa (pm s) (h V)) (fun u st2 e2 H2 => ?_) H1
  refine zi_r (Z := fun V => ZJ w k pc la sa (pm s) (h V)) (fun a ha H3 => ?_) H2
  refine zi_r (Z := fun V => ZJ w k pc la sa (pm s) (h V)) (fun b hb H4 => ?_) H3
  subst e1 e2
  refine zs_go hd hl (fun x M _ => ?_) (hK _ _ _ hg H4)
  rw [List.map_cons, List.map_cons, ha x, hb x]
  exact hn _ _ _ _ _
theorem zs_binL (f : Int64 → Int64 → Int64) (hd : decode (mB k) pc = .ok (i, 1)) (hl : iln i 1 = true) (hg : Gr w (pm s)) (hK : ∀ la sa s, Gr w (pm s) → KG la sa s → ZJ w k (pc + 1) la sa (pm s) (h (KV la sa s))) (hn : ∀ x y la st M, nxi k pc la (vL y :: vL x :: st) M i = go k (pc + 1) la (vL (f x y) :: st) M) (H : z0 sa False fun v st => z0 st False fun u st => zl u False fun x => zl v False fun y => KG la (zL (f x y) :: st) s) : ZJ w k pc la sa (pm s) (h (z0 sa jV fun v st => z0 st jV fun u st => zl u jV fun x => zl v jV fun y => KV la (zL (f x y) :: st) s)) := by
  refine z0_r (Z := fun V => ZJ w k pc la sa (pm s) (h V)) (fun v st e1 H1 => ?_) H
  refine z0_r (Z := fun V => ZJ w k pc la sa (pm s) (h V)) (fun u st2 e2 H2 => ?_) H1
  refine zl_r (Z := fun V => ZJ w k pc la sa (pm s) (h V)) (fun a ha H3 => ?_) H2
  refine zl_r (Z := fun V => ZJ w k pc la sa (pm s) (h V)) (fun b hb H4 => ?_) H3
  subst e1 e2 ha hb
  exact zs_go hd hl (fun x M _ => hn _ _ _ _ _) (hK _ _ _ hg H4)
theorem zs_ldI {j : Nat} (hd : decode (mB k) pc = .ok (i, len)) (hl : iln i len = true) (hg : Gr w (pm s)) (hK : ∀ la sa s, Gr w (pm s) → KG la sa s → ZJ w k (pc + len) la sa (pm s) (h (KV la sa s))) (hn : ∀ la sa M, nxi k pc la sa M i = nIld k (pc + len) j la sa M) (H : zi (zld la j) False fun _ => KG la (zld la j :: sa) s) : ZJ w k pc la sa (pm s) (h (zi (zld la j) jV fun _ => KV la (zld la j :: sa) s)) := by
  refine zi_r (Z := fun V => ZJ w k pc la sa (pm s) (h V)) (fun y hy H1 => ?_) H
  refine zs_go hd hl (fun x M _ => ?_) (hK _ _ _ hg H1)
  rw [hn]
  unfold nIld
  rw [ldl_em, List.map_cons, hy x]
  rfl
theorem zs_ldL {j : Nat} (hd : decode (mB k) pc = .ok (i, len)) (hl : iln i len = true) (hg : Gr w (pm s)) (hK : ∀ la sa s, Gr w (pm s) → KG la sa s → ZJ w k (pc + len) la sa (pm s) (h (KV la sa s))) (hn : ∀ la sa M, nxi k pc la sa M i = nLld k (pc + len) j la sa M) (H : zl (zld la j) False fun _ => KG la (zld la j :: sa) s) : ZJ w k pc la sa (pm s) (h (zl (zld la j) jV fun _ => KV la (zld la j :: sa) s)) := by
  refine zl_r (Z := fun V => ZJ w k pc la sa (pm s) (h V)) (fun y hy H1 => ?_) H
  refine zs_go hd hl (fun x M _ => ?_) (hK _ _ _ hg H1)
  rw [hn]
  unfold nLld
  rw [ldl_em, List.map_cons, hy]
  rfl
theorem vR_s (x K i : Nat) : ∃ r, vR x K i = Sum.inr (Sum.inr (Sum.inl r)) := ⟨_, rfl⟩
theorem zs_ldA {j : Nat} (hd : decode (mB k) pc = .ok (i, len)) (hl : iln i len = true) (hg : Gr w (pm s)) (hK : ∀ la sa s, Gr w (pm s) → KG la sa s → ZJ w k (pc + len) la sa (pm s) (h (KV la sa s))) (hn : ∀ la sa M, nxi k pc la sa M i = nAld k (pc + len) j la sa M) (H : zr (zld la j) False fun _ _ => KG la (zld la j :: sa) s) : ZJ w k pc la sa (pm s) (h (zr (zld la j) jV fun _ _ => KV la (zld la j :: sa) s)) := by
  refine zr_r (Z := fun V => ZJ w k pc la sa (pm s) (h V)) (fun K i hy H1 => ?_) H
  refine zs_go hd hl (fun x M _ => ?_) (hK _ _ _ hg H1)
  rw [hn]
  unfold nAld
  rw [ldl_em, List.map_cons, hy]
  rfl
theorem zs_stI {j : Nat} (hd : decode (mB k) pc = .ok (i, len)) (hl : iln i len = true) (hg : Gr w (pm s)) (hK : ∀ la sa s, Gr w (pm s) → KG la sa s → ZJ w k (pc + len) la sa (pm s) (h (KV la sa s))) (hn : ∀ la sa M, nxi k pc la sa M i = nIst k (pc + len) j la sa M) (H : z0 sa False fun v st => zi v False fun _ => zsw (Nat.blt j la.length) False (KG (zs1 la j v) st s)) : ZJ w k pc la sa (pm s) (h (z0 sa jV fun v st => zi v jV fun _ => zsw (Nat.blt j la.length) jV (KV (zs1 la j v) st s))) := by
  refine z0_r (Z := fun V => ZJ w k pc la sa (pm s) (h V)) (fun v st e1 H1 => ?_) H
  refine zi_r (Z := fun V => ZJ w k pc la sa (pm s) (h V)) (fun y hy H2 => ?_) H1
  refine zsw_r (Z := fun V => ZJ w k pc la sa (pm s) (h V)) (fun hb H3 => ?_) H2
  subst e1
  refine zs_go hd hl (fun x M _ => ?_) (hK _ _ _ hg H3)
  rw [hn, List.map_cons, hy x, ← st1_em, hy x]
  unfold nIst
  exact if_pos (by rw [List.length_map]; exact Nat.blt_eq.mp hb)
theorem zs_stL {j : Nat} (hd : decode (mB k) pc = .ok (i, len)) (hl : iln i len = true) (hg : Gr w (pm s)) (hK : ∀ la sa s, Gr w (pm s) → KG la sa s → ZJ w k (pc + len) la sa (pm s) (h (KV la sa s))) (hn : ∀ la sa M, nxi k pc la sa M i = nLst k (pc + len) j la sa M) (H : z0 sa False fun v st => zl v False fun _ => zsw (Nat.blt (j + 1) la.length) False (KG (zs2 la j v) st s)) : ZJ w k pc la sa (pm s) (h (z0 sa jV fun v st => zl v jV fun _ => zsw (Nat.blt (j + 1) la.length) jV (KV (zs2 la j v) st s))) := by
  refine z0_r (Z := fun V => ZJ w k pc la sa (pm s) (h V)) (fun v st e1 H1 => ?_) H
  refine zl_r (Z := fun V => ZJ w k pc la sa (pm s) (h V)) (fun y hy H2 => ?_) H1
  refine zsw_r (Z := fun V => ZJ w k pc la sa (pm s) (h V)) (fun hb H3 => ?_) H2
  subst e1 hy
  refine zs_go hd hl (fun x M _ => ?_) (hK _ _ _ hg H3)
  rw [hn, List.map_cons, ← st2_em]
  exact if_pos (by rw [List.length_map]; exact Nat.blt_eq.mp hb)
theorem zs_stA {j : Nat} (hd : decode (mB k) pc = .ok (i, len)) (hl : iln i len = true) (hg : Gr w (pm s)) (hK : ∀ la sa s, Gr w (pm s) → KG la sa s → ZJ w k (pc + len) la sa (pm s) (h (KV la sa s))) (hn : ∀ la sa M, nxi k pc la sa M i = nAst k (pc + len) j la sa M) (H : z0 sa False fun v st => zr v False fun _ _ => zsw (Nat.blt j la.length) False (KG (zs1 la j v) st s)) : ZJ w k pc la sa (pm s) (h (z0 sa jV fun v st => zr v jV fun _ _ => zsw (Nat.blt j la.length) jV (KV (zs1 la j v) st s))) := by
  refine z0_r (Z := fun V => ZJ w k pc la sa (pm s) (h V)) (fun v st e1 H1 => ?_) H
  refine zr_r (Z := fun V => ZJ w k pc la sa (pm s) (h V)) (fun K i hy H2 => ?_) H1
  refine zsw_r (Z := fun V => ZJ w k pc la sa (pm s) (h V)) (fun hb H3 => ?_) H2
  subst e1 hy
  refine zs_go hd hl (fun x M _ => ?_) (hK _ _ _ hg H3)
  rw [hn, List.map_cons, ← st1_em]
  exact if_pos (by rw [List.length_map]; exact Nat.blt_eq.mp hb)
theorem rokF_s {q a b c d e : Nat} {f9 : Bool} (hr : rokF w k q a b c d e f9 = true) : ¬ a = 11 ∧ ∃ f ps, pF (mO k) q = some (a, b, c, f, ps) ∧ (f9 = true → f = 0 ∧ (c < 3 ∨ (a, b) ∈ dyT)) ∧ (f9 = false → c < 3 ∨ d = 0 ∨ d = 1 ∨ (d = 2 ∧ (a, b, e) ∈ grT w) ∨ (d = 3 ∧ w = 0 ∧ a = 0 ∧ b = 2) ∨ (d = 4 ∧ w = 0 ∧ a = 0 ∧ b = 3)) := by
  unfold rokF at hr
  split at hr
  · next K S t f ps heq =>
    simp only [Bool.and_eq_true, decide_eq_true_eq, Bool.not_eq_true', decide_eq_false_iff_not] at hr
    obtain ⟨⟨⟨⟨rfl, rfl⟩, rfl⟩, hne⟩, h2⟩ := hr
    refine ⟨hne, f, ps, heq, ?_, ?_⟩
    · rintro rfl
      simp only [if_true, Bool.and_eq_true, Bool.or_eq_true, decide_eq_true_eq] at h2
      exact h2
    · rintro rfl
      simp only [Bool.false_eq_true, if_false, Bool.and_eq_true, Bool.or_eq_true, decide_eq_true_eq] at h2
      rcases h2 with ((((h2 | h2) | h2) | h2) | h2) | h2
      · exact Or.inl h2
      · exact Or.inr (Or.inl h2)
      · exact Or.inr (Or.inr (Or.inl h2))
      · exact Or.inr (Or.inr (Or.inr (Or.inl h2)))
      · exact Or.inr (Or.inr (Or.inr (Or.inr (Or.inl h2))))
      · exact Or.inr (Or.inr (Or.inr (Or.inr (Or.inr h2))))
  · cases hr
theorem zs_get {q a b c d e : Nat} (hd : decode (mB k) pc = .ok (.getfield q, 3)) (hr : rokF w k q a b c d e false = true) (hg : Gr w (pm s)) (hK : ∀ la sa s, Gr w (pm s) → KG la sa s → ZJ w k (pc + 3) la sa (pm s) (h (KV la sa s))) (H : z0 sa False fun v st => zr v False fun k i => zsw (Nat.beq k a) False (zGet pm (fun g r => g ∧ r) False s a i b c d e fun u => KG la (u :: st) s)) : ZJ w k pc la sa (pm s) (h (z0 sa jV fun v st => zr v jV fun k i => zsw (Nat.beq k a) jV (zGet pm (fun _ r => r) jV s a i b c d e fun u => KV la (u :: st) s))) := by
  obtain ⟨hne, f, ps, hp, -, hc⟩ := rokF_s hr
  refine z0_r (Z := fun V => ZJ w k pc la sa (pm s) (h V)) (fun v st e1 H1 => ?_) H
  refine zr_r (Z := fun V => ZJ w k pc la sa (pm s) (h V)) (fun k' i hy H2 => ?_) H1
  refine zsw_r (Z := fun V => ZJ w k pc la sa (pm s) (h V)) (fun hb H3 => ?_) H2
  have hb' := Nat.eq_of_beq_eq_true hb
  subst e1 hy hb'
  have key : ∀ u : ZV, ¬ i = 0 → (∀ x M, okx w x → rdv (sP M x (pm s)) x k' i b c = em x u) → KG la (u :: st) s → ZJ w k pc la (zR k' i :: st) (pm s) (h (KV la (u :: st) s)) := by
    intro u hi hu Ha
    refine ZJ_of (fun x M hx => ?_) (hK _ _ _ hg Ha)
    have h1 := x_get (la := la.map (em x)) (st := st.map (em x)) (M := sP M x (pm s)) (x := x) (i := i) hd hp
    rw [if_neg hi, hu x M hx] at h1
    exact h1
  match c, hc, H3, key with
  | 0, hc, H, key =>
    have H : rcv (fun g r => g ∧ r) False d i (KG la (zI ((pm s).1 k' i b) :: st) s) := H
    show ZJ w k pc la (zR k' i :: st) (pm s) (h (rcv (fun _ r => r) jV d i (KV la (zI ((pm s).1 k' i b) :: st) s)))
    refine rcv_r (Z := fun V => ZJ w k pc la (zR k' i :: st) (pm s) (h V)) (fun hi H4 => ?_) H
    exact key _ hi (fun x M _ => rdv_sP.1 0 (by decide)) H4
  | 1, hc, H, key =>
    have H : rcv (fun g r => g ∧ r) False d i (KG la (zI ((pm s).1 k' i b) :: st) s) := H
    show ZJ w k pc la (zR k' i :: st) (pm s) (h (rcv (fun _ r => r) jV d i (KV la (zI ((pm s).1 k' i b) :: st) s)))
    refine rcv_r (Z := fun V => ZJ w k pc la (zR k' i :: st) (pm s) (h V)) (fun hi H5 => ?_) H
    exact key _ hi (fun x M _ => rdv_sP.1 1 (by decide)) H5
  | 2, hc, H, key =>
    have H : rcv (fun g r => g ∧ r) False d i (KG la (zL ((pm s).2.1 k' i b) :: st) s) := H
    show ZJ w k pc la (zR k' i :: st) (pm s) (h (rcv (fun _ r => r) jV d i (KV la (zL ((pm s).2.1 k' i b) :: st) s)))
    refine rcv_r (Z := fun V => ZJ w k pc la (zR k' i :: st) (pm s) (h V)) (fun hi H6 => ?_) H
    exact key _ hi (fun x M _ => rdv_sP.2.1) H6
  | j + 3, hc, H, key =>
    match d, hc, H with
    | 0, hc, H => exact key _ H.1 (fun x M _ => rdv_sP.2.2 j hne) H.2
    | 1, hc, H =>
      have H : rcv (fun g r => g ∧ r) False 1 i (KG la (zR j ((pm s).2.2 k' i b) :: st) s) := H
      show ZJ w k pc la (zR k' i :: st) (pm s) (h (rcv (fun _ r => r) jV 1 i (KV la (zR j ((pm s).2.2 k' i b) :: st) s)))
      refine rcv_r (Z := fun V => ZJ w k pc la (zR k' i :: st) (pm s) (h V)) (fun hi H7 => ?_) H
      exact key _ hi (fun x M _ => rdv_sP.2.2 j hne) H7
    | 2, hc, H =>
      have H : zsw (Nat.beq i 1) False (KG la (zR j e :: st) s) := H
      show ZJ w k pc la (zR k' i :: st) (pm s) (h (zsw (Nat.beq i 1) jV (KV la (zR j e :: st) s)))
      refine zsw_r (Z := fun V => ZJ w k pc la (zR k' i :: st) (pm s) (h V)) (fun hi H8 => ?_) H
      have hi' := Nat.eq_of_beq_eq_true hi
      subst hi'
      have hm : (k', b, e) ∈ grT w := by
        rcases hc rfl with h1 | h1 | h1 | h1 | h1 | h1
        · omega
        · omega
        · omega
        · exact h1.2
        · omega
        · omega
      refine key _ (by decide) (fun x M _ => ?_) H8
      rw [rdv_sP.2.2 j hne, hg.1 _ hm]
      rfl
    | 3, hc, H =>
      have hm : w = 0 ∧ k' = 0 ∧ b = 2 := by
        rcases hc rfl with h1 | h1 | h1 | h1 | h1 | h1
        · omega
        · omega
        · omega
        · omega
        · exact h1.2
        · omega
      obtain ⟨hw, rfl, rfl⟩ := hm
      refine key _ H.1.1 (fun x M _ => ?_) H.2
      rw [rdv_sP.2.2 j hne, ((hg.2 hw).1 i H.1.1 H.1.2).1]
      rfl
    | 4, hc, H =>
      have hm : w = 0 ∧ k' = 0 ∧ b = 3 := by
        rcases hc rfl with h1 | h1 | h1 | h1 | h1 | h1
        · omega
        · omega
        · omega
        · omega
        · omega
        · exact h1.2
      obtain ⟨hw, rfl, rfl⟩ := hm
      refine key _ H.1.1 (fun x M _ => ?_) H.2
      rw [rdv_sP.2.2 j hne, ((hg.2 hw).1 i H.1.1 H.1.2).2]
      rfl
    | n + 5, hc, H => exact H.elim
theorem zup_r {Z : R → Prop} {p : PM} {T : σ → Prop} {V : σ → R} (hh : ∀ s', up s p = some s' → T s' → Z (V s')) (H : zup up False s p T) : Z (zup up jV s p V) := by
  unfold zup at H ⊢
  cases hu : up s p with
  | none => rw [hu] at H; exact H.elim
  | some s' => rw [hu] at H; exact hh s' hu H
theorem zs_put {q a b c d e : Nat} (hup : ∀ s p s', up s p = some s' → pm s' = p) (hd : decode (mB k) pc = .ok (.putfield q, 3)) (hr : rokF w k q a b c d e true = true) (hg : Gr w (pm s)) (hK : ∀ la sa s, Gr w (pm s) → KG la sa s → ZJ w k (pc + 3) la sa (pm s) (h (KV la sa s))) (H : z0 sa False fun v st => z0 st False fun u st => zr u False fun k i => zsw (Nat.beq k a) False (zPut pm up (fun g r => g ∧ r) False s a i b c d v fun s' => KG la st s')) : ZJ w k pc la sa (pm s) (h (z0 sa jV fun v st => z0 st jV fun u st => zr u jV fun k i => zsw (Nat.beq k a) jV (zPut pm up (fun _ r => r) jV s a i b c d v fun s' => KV la st s'))) := by
  obtain ⟨hne, f, ps, hp, hc0, -⟩ := rokF_s hr
  obtain ⟨rfl, hc⟩ := hc0 rfl
  clear hc0
  refine z0_r (Z := fun V => ZJ w k pc la sa (pm s) (h V)) (fun v st e1 H1 => ?_) H
  refine z0_r (Z := fun V => ZJ w k pc la sa (pm s) (h V)) (fun u st2 e2 H2 => ?_) H1
  refine zr_r (Z := fun V => ZJ w k pc la sa (pm s) (h V)) (fun k' i hy H3 => ?_) H2
  refine zsw_r (Z := fun V => ZJ w k pc la sa (pm s) (h V)) (fun hb H4 => ?_) H3
  have hb' := Nat.eq_of_beq_eq_true hb
  subst e1 e2 hy hb'
  have key : ∀ (p' : PM) (s' : σ), up s p' = some s' → ¬ i = 0 → Gr w p' → (∀ x M, okx w x → wrv (sP M x (pm s)) x k' i b c (em x v) = some (sP M x p')) → KG la st2 s' → ZJ w k pc la (v :: zR k' i :: st2) (pm s) (h (KV la st2 s')) := by
    intro p' s' hs hi hg' hu Ha
    have hs' := hup _ _ _ hs
    refine ZJ_of (p' := pm s') (fun x M hx => ?_) (hK _ _ _ (by rw [hs']; exact hg') Ha)
    have h1 := x_put (la := la.map (em x)) (st := st2.map (em x)) (M := sP M x (pm s)) (x := x) (i := i) hd hp (okx_4 hx) (Or.inl rfl) (hu x M hx)
    rw [if_neg hi] at h1
    rw [hs']
    exact h1
  match c, hc, H4, key with
  | 0, hc, H, key =>
    have H : zi v False fun x => rcv (fun g r => g ∧ r) False d i (zup up False s (pI (pm s) k' i b x) fun s' => KG la st2 s') := H
    show ZJ w k pc la (v :: zR k' i :: st2) (pm s) (h (zi v jV fun x => rcv (fun _ r => r) jV d i (zup up jV s (pI (pm s) k' i b x) fun s' => KV la st2 s')))
    refine zi_r (Z := fun V => ZJ w k pc la (v :: zR k' i :: st2) (pm s) (h V)) (fun y hy H5 => ?_) H
    refine rcv_r (Z := fun V => ZJ w k pc la (v :: zR k' i :: st2) (pm s) (h V)) (fun hi H6 => ?_) H5
    refine zup_r (Z := fun V => ZJ w k pc la (v :: zR k' i :: st2) (pm s) (h V)) (fun s' hs H7 => ?_) H6
    exact key _ s' hs hi (Gr_eq rfl hg) (fun x M _ => by rw [hy x, wr_I, sI_sP]) H7
  | 1, hc, H, key =>
    have k1 : ∀ y, (∀ x, em x v = vI y) → (y = 0 ∨ y = 1) → rcv (fun g r => g ∧ r) False d i (zup up False s (pI (pm s) k' i b y) fun s' => KG la st2 s') → ZJ w k pc la (v :: zR k' i :: st2) (pm s) (h (rcv (fun _ r => r) jV d i (zup up jV s (pI (pm s) k' i b y) fun s' => KV la st2 s'))) := by
      intro y hy h01 Hb
      refine rcv_r (Z := fun V => ZJ w k pc la (v :: zR k' i :: st2) (pm s) (h V)) (fun hi H8 => ?_) Hb
      refine zup_r (Z := fun V => ZJ w k pc la (v :: zR k' i :: st2) (pm s) (h V)) (fun s' hs H9 => ?_) H8
      exact key _ s' hs hi (Gr_eq rfl hg) (fun x M _ => by rw [hy x, wr_Z h01, sI_sP]) H9
    rcases v with m | y | y | ⟨k9, i9⟩ | u9
    · have H : zsw (c01 m) False (rcv (fun g r => g ∧ r) False d i (zup up False s (pI (pm s) k' i b (cn m)) fun s' => KG la st2 s')) := H
      show ZJ w k pc la (Sum.inl m :: zR k' i :: st2) (pm s) (h (zsw (c01 m) jV (rcv (fun _ r => r) jV d i (zup up jV s (pI (pm s) k' i b (cn m)) fun s' => KV la st2 s'))))
      refine zsw_r (Z := fun V => ZJ w k pc la (Sum.inl m :: zR k' i :: st2) (pm s) (h V)) (fun hm H10 => ?_) H
      exact k1 (cn m) (fun x => rfl) (c01_s hm) H10
    · have H : rcv (fun g r => g ∧ r) False d i (b01 y ∧ zup up False s (pI (pm s) k' i b y) fun s' => KG la st2 s') := H
      show ZJ w k pc la (Sum.inr (Sum.inl y) :: zR k' i :: st2) (pm s) (h (rcv (fun _ r => r) jV d i (zup up jV s (pI (pm s) k' i b y) fun s' => KV la st2 s')))
      refine rcv_r (Z := fun V => ZJ w k pc la (Sum.inr (Sum.inl y) :: zR k' i :: st2) (pm s) (h V)) (fun hi H11 => ?_) H
      refine zup_r (Z := fun V => ZJ w k pc la (Sum.inr (Sum.inl y) :: zR k' i :: st2) (pm s) (h V)) (fun s' hs H9 => ?_) H11.2
      exact key _ s' hs hi (Gr_eq rfl hg) (fun x M _ => by
        show wrv (sP M x (pm s)) x k' i b 1 (vI y) = _
        rw [wr_Z H11.1, sI_sP]) H9
    · exact H.elim
    · exact H.elim
    · exact H.elim
  | 2, hc, H, key =>
    have H : zl v False fun x => rcv (fun g r => g ∧ r) False d i (zup up False s (pJ (pm s) k' i b x) fun s' => KG la st2 s') := H
    show ZJ w k pc la (v :: zR k' i :: st2) (pm s) (h (zl v jV fun x => rcv (fun _ r => r) jV d i (zup up jV s (pJ (pm s) k' i b x) fun s' => KV la st2 s')))
    refine zl_r (Z := fun V => ZJ w k pc la (v :: zR k' i :: st2) (pm s) (h V)) (fun y hy H12 => ?_) H
    refine rcv_r (Z := fun V => ZJ w k pc la (v :: zR k' i :: st2) (pm s) (h V)) (fun hi H13 => ?_) H12
    refine zup_r (Z := fun V => ZJ w k pc la (v :: zR k' i :: st2) (pm s) (h V)) (fun s' hs H14 => ?_) H13
    subst hy
    exact key _ s' hs hi (Gr_eq rfl hg) (fun x M _ => by
      show wrv (sP M x (pm s)) x k' i b 2 (vL y) = _
      rw [wr_J, sJ_sP]) H14
  | j + 3, hc, H, key =>
    have hm : (k', b) ∈ dyT := by
      rcases hc with h1 | h1
      · omega
      · exact h1
    have H : zr v False fun k9 i' => zsw (Nat.beq k9 j) False (rcv (fun g r => g ∧ r) False d i (zup up False s (pR (pm s) k' i b i') fun s' => KG la st2 s')) := H
    show ZJ w k pc la (v :: zR k' i :: st2) (pm s) (h (zr v jV fun k9 i' => zsw (Nat.beq k9 j) jV (rcv (fun _ r => r) jV d i (zup up jV s (pR (pm s) k' i b i') fun s' => KV la st2 s'))))
    refine zr_r (Z := fun V => ZJ w k pc la (v :: zR k' i :: st2) (pm s) (h V)) (fun k9 i9 hy H15 => ?_) H
    refine zsw_r (Z := fun V => ZJ w k pc la (v :: zR k' i :: st2) (pm s) (h V)) (fun hb H16 => ?_) H15
    have hb' := Nat.eq_of_beq_eq_true hb
    refine rcv_r (Z := fun V => ZJ w k pc la (v :: zR k' i :: st2) (pm s) (h V)) (fun hi H17 => ?_) H16
    refine zup_r (Z := fun V => ZJ w k pc la (v :: zR k' i :: st2) (pm s) (h V)) (fun s' hs H18 => ?_) H17
    subst hy hb'
    exact key _ s' hs hi (Gr_pR (Or.inl hm) hg) (fun x M _ => by
      show wrv (sP M x (pm s)) x k' i b (k9 + 3) (vR x k9 i9) = _
      rw [wr_R hne, sR_sP]) H18
end ZS
