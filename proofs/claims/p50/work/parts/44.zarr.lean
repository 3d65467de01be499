/-! arrays, branches, calls -/
section ZS2
variable {σ R : Type} {w k rt : Nat} {cs : List Cal} {pm : σ → PM} {up : σ → PM → Option σ} {jV : R} {rI : Int32 → σ → R} {rL : Int64 → σ → R} {rR : Nat → σ → R} {rV : σ → R} {h : R → Option ZV × PM} {KV : List ZV → List ZV → σ → R} {KG : List ZV → List ZV → σ → Prop} {JV : Nat → List ZV → List ZV → σ → R} {JG : Nat → List ZV → List ZV → σ → Prop} {pc len : Nat} {i : Instr} {la sa : List ZV} {s : σ}
theorem elz {a : Nat} (ha : a ∈ [16, 17, 18, 19, 20, 21]) : elK a = (elK a - 3) + 3 := by
  revert a; decide
theorem zLd_o {R : Type} {jk : R} {a i q e : Nat} {f : ZV → R} (ha : a ∈ [16, 17, 18, 19, 20, 21]) : zLd pm jk s a i q 0 e f = f (zR (elK a - 3) ((pm s).2.2 a i q)) ∧ ∀ d, zLd pm jk s a i q (d + 1) e f = zsw (Nat.beq i 1) jk (f (zR (elK a - 3) (q + e))) := by
  simp only [List.mem_cons, List.not_mem_nil, or_false] at ha
  rcases ha with rfl | rfl | rfl | rfl | rfl | rfl <;> exact ⟨rfl, fun d => rfl⟩
theorem zs_ald {a b c d e : Nat} {t : Nat → Bool} (hd : decode (mB k) pc = .ok (i, 1)) (hl : iln i 1 = true) (hn : ∀ la sa M, nxi k pc la sa M i = nAget k pc la sa M t) (ht : t a = true) (hr : rokX w a b c = true) (hA : (a = 13 ∨ a = 15 ∨ a = 14) ∨ a ∈ [16, 17, 18, 19, 20, 21] ∧ (d = 0 ∨ w = 0 ∧ (a, e, b) ∈ geT ∧ c = 0)) (hg : Gr w (pm s)) (hK : ∀ la sa s, Gr w (pm s) → KG la sa s → ZJ w k (pc + 1) la sa (pm s) (h (KV la sa s))) (H : z0 sa False fun v st => z0 st False fun u st => zr u False fun k i => zsw (Nat.beq k a) False (zIx w (fun g r => g ∧ r) False a i b c v fun q => zLd pm False s a i q d e fun r => KG la (r :: st) s)) : ZJ w k pc la sa (pm s) (h (z0 sa jV fun v st => z0 st jV fun u st => zr u jV fun k i => zsw (Nat.beq k a) jV (zIx w (fun _ r => r) jV a i b c v fun q => zLd pm jV s a i q d e fun r => KV la (r :: st) s))) := by
  refine z0_r (Z := fun V => ZJ w k pc la sa (pm s) (h V)) (fun v st e1 H1 => ?_) H
  refine z0_r (Z := fun V => ZJ w k pc la sa (pm s) (h V)) (fun u st2 e2 H2 => ?_) H1
  refine zr_r (Z := fun V => ZJ w k pc la sa (pm s) (h V)) (fun k' i' hy H3 => ?_) H2
  refine zsw_r (Z := fun V => ZJ w k pc la sa (pm s) (h V)) (fun hb H4 => ?_) H3
  refine zIx_r (Z := fun V => ZJ w k pc la sa (pm s) (h V)) hr (fun y hv hin H5 => ?_) H4
  have hb' := Nat.eq_of_beq_eq_true hb
  subst e1 e2 hy hb'
  have key : ∀ u : ZV, (∀ x M, okx w x → rdv (sP M x (pm s)) x k' i' y.toNatClampNeg (elK k') = em x u) → KG la (u :: st2) s → ZJ w k pc la (v :: zR k' i' :: st2) (pm s) (h (KV la (u :: st2) s)) := by
    intro u hu Ha
    refine ZJ_of (fun x M hx => ?_) (hK _ _ _ hg Ha)
    have h1 := x_aget (la := la.map (em x)) (st := st2.map (em x)) (M := sP M x (pm s)) (x := x) (i := i') (j := y) hd hl (fun sa => hn _ sa _) ht
    rw [if_pos ⟨(hin x (sP M x (pm s)) hx).1, (hin x (sP M x (pm s)) hx).2⟩, hu x M hx, ← hv x] at h1
    exact h1
  rcases hA with (rfl | rfl | rfl) | ⟨ha, hA⟩
  · exact key _ (fun x M _ => rdv_sP.1 0 (by decide)) H5
  · exact key _ (fun x M _ => rdv_sP.1 1 (by decide)) H5
  · exact key _ (fun x M _ => rdv_sP.2.1) H5
  · have e9 := elz ha
    have hne : ¬ k' = 11 := by
      intro h9
      rw [h9] at ha
      revert ha
      decide
    have g1 := zLd_o (R := Prop) (pm := pm) (jk := False) (s := s) (i := i') (q := y.toNatClampNeg) (e := e) (f := fun r => KG la (r :: st2) s) ha
    have g2 := zLd_o (pm := pm) (jk := jV) (s := s) (i := i') (q := y.toNatClampNeg) (e := e) (f := fun r => KV la (r :: st2) s) ha
    cases d with
    | zero =>
      rw [g1.1] at H5
      rw [g2.1]
      exact key _ (fun x M _ => by rw [e9, rdv_sP.2.2 _ hne, Nat.add_sub_cancel]; rfl) H5
    | succ d =>
      rw [g1.2] at H5
      rw [g2.2]
      obtain ⟨hw, hm, hc⟩ : w = 0 ∧ (k', e, b) ∈ geT ∧ c = 0 := by
        rcases hA with h1 | h1
        · cases h1
        · exact h1
      refine zsw_r (Z := fun V => ZJ w k pc la (v :: zR k' i' :: st2) (pm s) (h V)) (fun hi H7 => ?_) H5
      have hi' := Nat.eq_of_beq_eq_true hi
      subst hi'
      refine key _ (fun x M hx => ?_) H7
      rw [e9, rdv_sP.2.2 _ hne, Nat.add_sub_cancel]
      have h5 := (hin x M hx).2
      have h6 : lenA M x k' 1 = b := by
        have h7 : ∀ q ∈ geT, zln 0 q.1 1 = q.2.2 ∧ q.2.2 ≠ 0 := by decide
        obtain ⟨h8, h9⟩ := h7 _ hm
        exact (zln_s hx h9 (by rw [hw]; exact h8) M).2
      rw [h6] at h5
      rw [(hg.2 hw).2 _ hm _ h5.2]
      rfl
theorem zs_ast {a b c d : Nat} {t : Nat → Bool} (hup : ∀ s p s', up s p = some s' → pm s' = p) (hd : decode (mB k) pc = .ok (i, 1)) (hl : iln i 1 = true) (hn : ∀ la sa M, nxi k pc la sa M i = nAput k pc la sa M t) (ht : t a = true) (hr : rokX w a b c = true) (hA : (d = 0 ∧ a = 13) ∨ (d = 1 ∧ a = 15) ∨ (d = 2 ∧ a = 14) ∨ (d = 3 ∧ a = 20)) (hg : Gr w (pm s)) (hK : ∀ la sa s, Gr w (pm s) → KG la sa s → ZJ w k (pc + 1) la sa (pm s) (h (KV la sa s))) (H : z0 sa False fun y st => z0 st False fun v st => z0 st False fun u st => zr u False fun k i => zsw (Nat.beq k a) False (zIx w (fun g r => g ∧ r) False a i b c v fun q => zSt pm up (fun g r => g ∧ r) False s a i q d y fun s' => KG la st s')) : ZJ w k pc la sa (pm s) (h (z0 sa jV fun y st => z0 st jV fun v st => z0 st jV fun u st => zr u jV fun k i => zsw (Nat.beq k a) jV (zIx w (fun _ r => r) jV a i b c v fun q => zSt pm up (fun _ r => r) jV s a i q d y fun s' => KV la st s'))) := by
  refine z0_r (Z := fun V => ZJ w k pc la sa (pm s) (h V)) (fun vv st0 e0 H0 => ?_) H
  refine z0_r (Z := fun V => ZJ w k pc la sa (pm s) (h V)) (fun v st e1 H1 => ?_) H0
  refine z0_r (Z := fun V => ZJ w k pc la sa (pm s) (h V)) (fun u st2 e2 H2 => ?_) H1
  refine zr_r (Z := fun V => ZJ w k pc la sa (pm s) (h V)) (fun k' i' hy H3 => ?_) H2
  refine zsw_r (Z := fun V => ZJ w k pc la sa (pm s) (h V)) (fun hb H4 => ?_) H3
  refine zIx_r (Z := fun V => ZJ w k pc la sa (pm s) (h V)) hr (fun y hv hin H5 => ?_) H4
  have hb' := Nat.eq_of_beq_eq_true hb
  subst e0 e1 e2 hy hb'
  have key : ∀ (p' : PM) (s' : σ), up s p' = some s' → Gr w p' → (∀ x M, okx w x → wrv (sP M x (pm s)) x k' i' y.toNatClampNeg (elK k') (em x vv) = some (sP M x p')) → KG la st2 s' → ZJ w k pc la (vv :: v :: zR k' i' :: st2) (pm s) (h (KV la st2 s')) := by
    intro p' s' hs hg' hu Ha
    have hs' := hup _ _ _ hs
    refine ZJ_of (p' := pm s') (fun x M hx => ?_) (hK _ _ _ (by rw [hs']; exact hg') Ha)
    have h1 := x_aput (la := la.map (em x)) (st := st2.map (em x)) (M := sP M x (pm s)) (x := x) (i := i') (j := y) hd hl (fun sa => hn _ sa _) ht (okx_4 hx) (hu x M hx)
    rw [if_pos ⟨(hin x (sP M x (pm s)) hx).1, (hin x (sP M x (pm s)) hx).2⟩, ← hv x] at h1
    rw [hs']
    exact h1
  rcases hA with ⟨rfl, rfl⟩ | ⟨rfl, rfl⟩ | ⟨rfl, rfl⟩ | ⟨rfl, rfl⟩
  · refine zi_r (Z := fun V => ZJ w k pc la (vv :: v :: zR 13 i' :: st2) (pm s) (h V)) (T := fun x => zup up False s (pI (pm s) 13 i' y.toNatClampNeg x) fun s' => KG la st2 s') (V := fun x => zup up jV s (pI (pm s) 13 i' y.toNatClampNeg x) fun s' => KV la st2 s') (fun z hz H6 => ?_) H5
    refine zup_r (Z := fun V => ZJ w k pc la (vv :: v :: zR 13 i' :: st2) (pm s) (h V)) (fun s' hs H7 => ?_) H6
    exact key _ s' hs (Gr_eq rfl hg) (fun x M _ => by
      rw [hz x]
      show wrv (sP M x (pm s)) x 13 i' y.toNatClampNeg 0 (vI z) = _
      rw [wr_I, sI_sP]) H7
  · rcases vv with m | z | z | ⟨k9, i9⟩ | u9
    · refine zsw_r (Z := fun V => ZJ w k pc la (Sum.inl m :: v :: zR 15 i' :: st2) (pm s) (h V)) (T := zup up False s (pI (pm s) 15 i' y.toNatClampNeg (cn m)) fun s' => KG la st2 s') (V := zup up jV s (pI (pm s) 15 i' y.toNatClampNeg (cn m)) fun s' => KV la st2 s') (fun hm H6 => ?_) H5
      refine zup_r (Z := fun V => ZJ w k pc la (Sum.inl m :: v :: zR 15 i' :: st2) (pm s) (h V)) (fun s' hs H7 => ?_) H6
      exact key _ s' hs (Gr_eq rfl hg) (fun x M _ => by
        show wrv (sP M x (pm s)) x 15 i' y.toNatClampNeg 1 (vI (cn m)) = _
        rw [wr_Z (c01_s hm), sI_sP]) H7
    · have H6 : b01 z ∧ zup up False s (pI (pm s) 15 i' y.toNatClampNeg z) fun s' => KG la st2 s' := H5
      refine zup_r (Z := fun V => ZJ w k pc la (Sum.inr (Sum.inl z) :: v :: zR 15 i' :: st2) (pm s) (h V)) (V := fun s' => KV la st2 s') (fun s' hs H7 => ?_) H6.2
      exact key _ s' hs (Gr_eq rfl hg) (fun x M _ => by
        show wrv (sP M x (pm s)) x 15 i' y.toNatClampNeg 1 (vI z) = _
        rw [wr_Z H6.1, sI_sP]) H7
    · exact H5.elim
    · exact H5.elim
    · exact H5.elim
  · refine zl_r (Z := fun V => ZJ w k pc la (vv :: v :: zR 14 i' :: st2) (pm s) (h V)) (T := fun x => zup up False s (pJ (pm s) 14 i' y.toNatClampNeg x) fun s' => KG la st2 s') (V := fun x => zup up jV s (pJ (pm s) 14 i' y.toNatClampNeg x) fun s' => KV la st2 s') (fun z hz H6 => ?_) H5
    refine zup_r (Z := fun V => ZJ w k pc la (vv :: v :: zR 14 i' :: st2) (pm s) (h V)) (fun s' hs H7 => ?_) H6
    subst hz
    exact key _ s' hs (Gr_eq rfl hg) (fun x M _ => by
      show wrv (sP M x (pm s)) x 14 i' y.toNatClampNeg 2 (vL z) = _
      rw [wr_J, sJ_sP]) H7
  · refine zr_r (Z := fun V => ZJ w k pc la (vv :: v :: zR 20 i' :: st2) (pm s) (h V)) (T := fun k' j => zsw (Nat.beq k' 10 && Nat.beq i' 2) False (zup up False s (pR (pm s) 20 i' y.toNatClampNeg j) fun s' => KG la st2 s')) (V := fun k' j => zsw (Nat.beq k' 10 && Nat.beq i' 2) jV (zup up jV s (pR (pm s) 20 i' y.toNatClampNeg j) fun s' => KV la st2 s')) (fun k9 i9 hz H6 => ?_) H5
    refine zsw_r (Z := fun V => ZJ w k pc la (vv :: v :: zR 20 i' :: st2) (pm s) (h V)) (fun hb H7 => ?_) H6
    refine zup_r (Z := fun V => ZJ w k pc la (vv :: v :: zR 20 i' :: st2) (pm s) (h V)) (fun s' hs H8 => ?_) H7
    simp only [Bool.and_eq_true] at hb
    have hb1 := Nat.eq_of_beq_eq_true hb.1
    have hb2 := Nat.eq_of_beq_eq_true hb.2
    subst hz hb1 hb2
    exact key _ s' hs (Gr_pR (Or.inr ⟨rfl, rfl⟩) hg) (fun x M _ => by
      show wrv (sP M x (pm s)) x 20 2 y.toNatClampNeg (10 + 3) (vR x 10 i9) = _
      rw [wr_R (by decide), sR_sP]) H8
theorem rokX_ne {w a b c i : Nat} (hr : rokX w a b c = true) (hc : c < 3) (H : (c = 0 ∧ zln w a i = b) ∨ (c = 1 ∧ ¬ i = 0 ∧ i ≤ 18) ∨ (c = 2 ∧ 20 ≤ i ∧ i ≤ 23)) {x : Nat} {M : Mem} (hx : okx w x) : ¬ i = 0 ∧ lenA M x a i = b := by
  rcases H with ⟨rfl, h1⟩ | ⟨rfl, h1, h2⟩ | ⟨rfl, h1, h2⟩
  · unfold rokX at hr
    simp only [Bool.and_eq_true, Bool.not_eq_true', decide_eq_false_iff_not] at hr
    exact zln_s hx hr.1 h1 M
  · obtain ⟨rfl, rfl, rfl⟩ := of_decide_eq_true hr
    exact zln_s hx (by decide) (zln_pos h1 h2) M
  · obtain ⟨rfl, rfl, rfl⟩ := of_decide_eq_true hr
    exact zln_s hx (by decide) (zln_row h1 h2) M
theorem zs_aln {a b c : Nat} {n : Int} (hd : decode (mB k) pc = .ok (.arraylength, 1)) (hr : rokX w a b c = true) (hn : Int32.ofNat b = cn n) (ha : 13 ≤ a) (hg : Gr w (pm s)) (hK : ∀ la sa s, Gr w (pm s) → KG la sa s → ZJ w k (pc + 1) la sa (pm s) (h (KV la sa s))) (H : z0 sa False fun v st => zr v False fun k i => zsw (Nat.beq k a) False (zAln w (fun g r => g ∧ r) False a i b c n fun u => KG la (u :: st) s)) : ZJ w k pc la sa (pm s) (h (z0 sa jV fun v st => zr v jV fun k i => zsw (Nat.beq k a) jV (zAln w (fun _ r => r) jV a i b c n fun u => KV la (u :: st) s))) := by
  refine z0_r (Z := fun V => ZJ w k pc la sa (pm s) (h V)) (fun v st e1 H1 => ?_) H
  refine zr_r (Z := fun V => ZJ w k pc la sa (pm s) (h V)) (fun k' i' hy H2 => ?_) H1
  refine zsw_r (Z := fun V => ZJ w k pc la sa (pm s) (h V)) (fun hb H3 => ?_) H2
  have hb' := Nat.eq_of_beq_eq_true hb
  subst e1 hy hb'
  have key : ((c = 0 ∧ zln w k' i' = b) ∨ (c = 1 ∧ ¬ i' = 0 ∧ i' ≤ 18) ∨ (c = 2 ∧ 20 ≤ i' ∧ i' ≤ 23)) → c < 3 → KG la (zC n :: st) s → ZJ w k pc la (zR k' i' :: st) (pm s) (h (KV la (zC n :: st) s)) := by
    intro hh hc Ha
    refine ZJ_of (fun x M hx => ?_) (hK _ _ _ hg Ha)
    obtain ⟨h1, h2⟩ := rokX_ne hr hc hh (M := sP M x (pm s)) hx
    have h3 := x_alen (la := la.map (em x)) (st := st.map (em x)) (M := sP M x (pm s)) (x := x) (i := i') hd ha
    rw [if_neg h1, h2, hn] at h3
    exact h3
  match c, hr, H3, key with
  | 0, hr, H3, key =>
    refine zsw_r (Z := fun V => ZJ w k pc la (zR k' i' :: st) (pm s) (h V)) (T := KG la (zC n :: st) s) (V := KV la (zC n :: st) s) (fun hb H4 => ?_) H3
    exact key (Or.inl ⟨rfl, Nat.eq_of_beq_eq_true hb⟩) (by decide) H4
  | 1, hr, H3, key => exact key (Or.inr (Or.inl ⟨rfl, H3.1⟩)) (by decide) H3.2
  | 2, hr, H3, key => exact key (Or.inr (Or.inr ⟨rfl, H3.1⟩)) (by decide) H3.2
  | n + 3, hr, H3, key => exact H3.elim
theorem zs_br {sa' : List ZV} {off : Int} {c : Bool} {st : List ZV} (hd : decode (mB k) pc = .ok (i, 3)) (hl : iln i 3 = true) (ht : 0 ≤ (pc : Int) + off) (hg : Gr w (pm s)) (hK : ∀ la sa s, Gr w (pm s) → KG la sa s → ZJ w k (pc + 3) la sa (pm s) (h (KV la sa s))) (hJ : ∀ q la sa s, Gr w (pm s) → JG q la sa s → ZJ w k q la sa (pm s) (h (JV q la sa s))) (hn : ∀ x M, nxi k pc (la.map (em x)) (sa.map (em x)) M i = nIf k pc (la.map (em x)) (st.map (em x)) M off c) (H : if c = true then JG (tgt pc off) la st s else KG la st s) : ZJ w k pc la sa (pm s) (h (if c = true then JV (tgt pc off) la st s else KV la st s)) := by
  cases c with
  | true =>
    rw [if_pos rfl] at H ⊢
    refine ZJ_of (fun x M hx => xr hd hl ((hn x _).trans ?_)) (hJ _ _ _ _ hg H)
    unfold nIf
    rw [if_pos ht, if_pos rfl]
  | false =>
    rw [if_neg (by decide)] at H ⊢
    refine ZJ_of (fun x M hx => xr hd hl ((hn x _).trans ?_)) (hK _ _ _ hg H)
    unfold nIf
    rw [if_pos ht, if_neg (by decide)]
end ZS2
