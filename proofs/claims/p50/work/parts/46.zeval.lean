/-! one step; the evaluator is sound -/
section ZS4
variable {σ R : Type} {w k rt : Nat} {cs : List Cal} {pm : σ → PM} {up : σ → PM → Option σ} {jV : R} {rI : Int32 → σ → R} {rL : Int64 → σ → R} {rR : Nat → σ → R} {rV : σ → R} {h : R → Option ZV × PM} {KV : List ZV → List ZV → σ → R} {KG : List ZV → List ZV → σ → Prop} {JV : Nat → List ZV → List ZV → σ → R} {JG : Nat → List ZV → List ZV → σ → Prop} {pc len cut : Nat} {i : Instr} {la sa : List ZV} {s : σ}
theorem zs_const {v : ZV} (hd : decode (mB k) pc = .ok (i, len)) (hl : iln i len = true) (hg : Gr w (pm s)) (hK : ∀ la sa s, Gr w (pm s) → KG la sa s → ZJ w k (pc + len) la sa (pm s) (h (KV la sa s))) (hn : ∀ x la sa M, nxi k pc la sa M i = go k (pc + len) la (em x v :: sa) M) (H : KG la (v :: sa) s) : ZJ w k pc la sa (pm s) (h (KV la (v :: sa) s)) := zs_go hd hl (fun x M _ => hn x _ _ M) (hK _ _ _ hg H)
theorem zX_s {a b c d e : Nat} {n : Int} (hcs : ∀ C ∈ cs, CalOK w C) (hup : ∀ s p s', up s p = some s' → pm s' = p) (hI : rt = 1 → ∀ v s, h (rI v s) = (some (zI v), pm s)) (hL : rt = 2 → ∀ v s, h (rL v s) = (some (zL v), pm s)) (hR : ∀ K, rt = 3 + K → ∀ i s, h (rR i s) = (some (zR K i), pm s)) (hV : rt = 0 → ∀ s, h (rV s) = (none, pm s)) (hd : decode (mB k) pc = .ok (i, len)) (hok : rok w k rt (cs.map sgC) (pc, i, len, cut, a, b, c, d, e, n) = true) (hg : Gr w (pm s)) (hK : ∀ la sa s, Gr w (pm s) → KG la sa s → ZJ w k (pc + len) la sa (pm s) (h (KV la sa s))) (hJ : ∀ q la sa s, Gr w (pm s) → JG q la sa s → ZJ w k q la sa (pm s) (h (JV q la sa s))) (H : zX w cs pm up (fun g r => g ∧ r) False (fun _ _ => True) (fun _ _ => True) (fun _ _ => True) (fun _ => True) KG JG pc i a b c d e n la sa s) : ZJ w k pc la sa (pm s) (h (zX w cs pm up (fun _ r => r) jV rI rL rR rV KV JV pc i a b c d e n la sa s)) := by
  have hok0 : iln i len = true ∧ rokI w k rt (cs.map sgC) pc i a b c d e n = true := by
    have h9 := hok
    unfold rok at h9
    simp only [Bool.and_eq_true] at h9
    exact h9
  obtain ⟨hl, hr⟩ := hok0
  clear hok
  unfold rokI at hr
  cases i with
  | iconst m =>
    have e1 := of_decide_eq_true hl
    subst e1
    exact zs_const hd rfl hg hK (fun x la sa M => by rw [show em x (zC n) = vI (cn n) from rfl, ← of_decide_eq_true hr]; rfl) H
  | bipush m =>
    have e1 := of_decide_eq_true hl
    subst e1
    exact zs_const hd rfl hg hK (fun x la sa M => by rw [show em x (zC n) = vI (cn n) from rfl, ← of_decide_eq_true hr]; rfl) H
  | sipush m =>
    have e1 := of_decide_eq_true hl
    subst e1
    exact zs_const hd rfl hg hK (fun x la sa M => by rw [show em x (zC n) = vI (cn n) from rfl, ← of_decide_eq_true hr]; rfl) H
  | ldc q =>
    have e1 := of_decide_eq_true hl
    subst e1
    dsimp only at hr
    cases hp : pC (mO k) q with
    | none => rw [hp] at hr; cases hr
    | some z =>
      rw [hp] at hr
      exact zs_const hd rfl hg hK (fun x la sa M => by
        rw [show em x (zC n) = vI (cn n) from rfl, ← of_decide_eq_true hr]
        show (match pC (mO k) q with
          | some (v, _) => go k (pc + 2) la (vI (Int32.ofInt v) :: sa) M
          | none => bad) = _
        rw [hp]) H
  | lconst m =>
    have e1 := of_decide_eq_true hl
    subst e1
    exact zs_const hd rfl hg hK (fun x la sa M => by rw [show em x (zL (cl n)) = vL (cl n) from rfl, ← of_decide_eq_true hr]; rfl) H
  | ldc2_w q =>
    have e1 := of_decide_eq_true hl
    subst e1
    dsimp only at hr
    cases hp : pL (mO k) q with
    | none => rw [hp] at hr; cases hr
    | some z =>
      rw [hp] at hr
      exact zs_const hd rfl hg hK (fun x la sa M => by
        rw [show em x (zL (cl n)) = vL (cl n) from rfl, ← of_decide_eq_true hr]
        show (match pL (mO k) q with
          | some (v, _) => go k (pc + 3) la (vL (Int64.ofInt v) :: sa) M
          | none => bad) = _
        rw [hp]) H
  | aconst_null =>
    have e1 := of_decide_eq_true hl
    subst e1
    exact zs_const hd rfl hg hK (fun x la sa M => rfl) H
  | iload_n j =>
    have e1 := of_decide_eq_true hl
    subst e1
    exact zs_ldI hd rfl hg hK (fun _ _ _ => rfl) H
  | iload j =>
    have e1 := of_decide_eq_true hl
    subst e1
    exact zs_ldI hd rfl hg hK (fun _ _ _ => rfl) H
  | lload_n j =>
    have e1 := of_decide_eq_true hl
    subst e1
    exact zs_ldL hd rfl hg hK (fun _ _ _ => rfl) H
  | lload j =>
    have e1 := of_decide_eq_true hl
    subst e1
    exact zs_ldL hd rfl hg hK (fun _ _ _ => rfl) H
  | aload_n j =>
    have e1 := of_decide_eq_true hl
    subst e1
    exact zs_ldA hd rfl hg hK (fun _ _ _ => rfl) H
  | aload j =>
    have e1 := of_decide_eq_true hl
    subst e1
    exact zs_ldA hd rfl hg hK (fun _ _ _ => rfl) H
  | istore_n j =>
    have e1 := of_decide_eq_true hl
    subst e1
    exact zs_stI hd rfl hg hK (fun _ _ _ => rfl) H
  | istore j =>
    have e1 := of_decide_eq_true hl
    subst e1
    exact zs_stI hd rfl hg hK (fun _ _ _ => rfl) H
  | lstore_n j =>
    have e1 := of_decide_eq_true hl
    subst e1
    exact zs_stL hd rfl hg hK (fun _ _ _ => rfl) H
  | lstore j =>
    have e1 := of_decide_eq_true hl
    subst e1
    exact zs_stL hd rfl hg hK (fun _ _ _ => rfl) H
  | astore_n j =>
    have e1 := of_decide_eq_true hl
    subst e1
    exact zs_stA hd rfl hg hK (fun _ _ _ => rfl) H
  | astore j =>
    have e1 := of_decide_eq_true hl
    subst e1
    exact zs_stA hd rfl hg hK (fun _ _ _ => rfl) H
  | iinc j m =>
    have e1 := of_decide_eq_true hl
    subst e1
    have e2 := of_decide_eq_true hr
    subst e2
    refine zi_r (Z := fun V => ZJ w k pc la sa (pm s) (h V)) (T := fun x => KG (zs1 la j (zI (x + cn n))) sa s) (V := fun x => KV (zs1 la j (zI (x + cn n))) sa s) (fun y hy H1 => ?_) H
    refine zs_go hd rfl (fun x M _ => ?_) (hK _ _ _ hg H1)
    show nInc k pc j n (la.map (em x)) (sa.map (em x)) M = _
    unfold nInc
    rw [ldl_em, hy x, ← st1_em]
    rfl
  | iadd =>
    have e1 := of_decide_eq_true hl
    subst e1
    exact zs_bin (fun x y => x + y) hd rfl hg hK (fun _ _ _ _ _ => rfl) H
  | isub =>
    have e1 := of_decide_eq_true hl
    subst e1
    exact zs_bin (fun x y => x - y) hd rfl hg hK (fun _ _ _ _ _ => rfl) H
  | imul =>
    have e1 := of_decide_eq_true hl
    subst e1
    exact zs_bin (fun x y => x * y) hd rfl hg hK (fun _ _ _ _ _ => rfl) H
  | iand =>
    have e1 := of_decide_eq_true hl
    subst e1
    exact zs_bin (fun x y => x &&& y) hd rfl hg hK (fun _ _ _ _ _ => rfl) H
  | ixor =>
    have e1 := of_decide_eq_true hl
    subst e1
    exact zs_bin (fun x y => x ^^^ y) hd rfl hg hK (fun _ _ _ _ _ => rfl) H
  | ladd =>
    have e1 := of_decide_eq_true hl
    subst e1
    exact zs_binL (fun x y => x + y) hd rfl hg hK (fun _ _ _ _ _ => rfl) H
  | lsub =>
    have e1 := of_decide_eq_true hl
    subst e1
    exact zs_binL (fun x y => x - y) hd rfl hg hK (fun _ _ _ _ _ => rfl) H
  | lmul =>
    have e1 := of_decide_eq_true hl
    subst e1
    exact zs_binL (fun x y => x * y) hd rfl hg hK (fun _ _ _ _ _ => rfl) H
  | lxor =>
    have e1 := of_decide_eq_true hl
    subst e1
    exact zs_binL (fun x y => x ^^^ y) hd rfl hg hK (fun _ _ _ _ _ => rfl) H
  | idiv =>
    have e1 := of_decide_eq_true hl
    subst e1
    refine z0_r (Z := fun V => ZJ w k pc la sa (pm s) (h V)) (fun v st e1 H1 => ?_) H
    refine z0_r (Z := fun V => ZJ w k pc la sa (pm s) (h V)) (fun u st2 e2 H2 => ?_) H1
    refine zi_r (Z := fun V => ZJ w k pc la sa (pm s) (h V)) (fun y hy H3 => ?_) H2
    subst e1 e2
    have key : ∀ z, ¬ z = 0 → (∀ x, em x v = vI z) → KG la (zI (y / z) :: st2) s → ZJ w k pc la (v :: u :: st2) (pm s) (h (KV la (zI (y / z) :: st2) s)) := by
      intro z hz hv Ha
      refine zs_go hd rfl (fun x M _ => ?_) (hK _ _ _ hg Ha)
      rw [List.map_cons, List.map_cons, hy x, hv x]
      exact if_neg hz
    rcases v with m | z | z | ⟨k9, i9⟩ | u9
    · refine zsw_r (Z := fun V => ZJ w k pc la (Sum.inl m :: u :: st2) (pm s) (h V)) (T := KG la (zI (y / cn m) :: st2) s) (V := KV la (zI (y / cn m) :: st2) s) (fun hm H4 => ?_) H3
      exact key _ (cps_s hm) (fun x => rfl) H4
    · exact key z H3.1 (fun x => rfl) H3.2
    · exact H3.elim
    · exact H3.elim
    · exact H3.elim
  | irem =>
    have e1 := of_decide_eq_true hl
    subst e1
    refine z0_r (Z := fun V => ZJ w k pc la sa (pm s) (h V)) (fun v st e1 H1 => ?_) H
    refine z0_r (Z := fun V => ZJ w k pc la sa (pm s) (h V)) (fun u st2 e2 H2 => ?_) H1
    refine zi_r (Z := fun V => ZJ w k pc la sa (pm s) (h V)) (fun y hy H3 => ?_) H2
    subst e1 e2
    have key : ∀ z, ¬ z = 0 → (∀ x, em x v = vI z) → KG la (zI (irm y z) :: st2) s → ZJ w k pc la (v :: u :: st2) (pm s) (h (KV la (zI (irm y z) :: st2) s)) := by
      intro z hz hv Ha
      refine zs_go hd rfl (fun x M _ => ?_) (hK _ _ _ hg Ha)
      rw [List.map_cons, List.map_cons, hy x, hv x]
      exact if_neg hz
    rcases v with m | z | z | ⟨k9, i9⟩ | u9
    · refine zsw_r (Z := fun V => ZJ w k pc la (Sum.inl m :: u :: st2) (pm s) (h V)) (T := KG la (zI (irm y (cn m)) :: st2) s) (V := KV la (zI (irm y (cn m)) :: st2) s) (fun hm H4 => ?_) H3
      exact key _ (cps_s hm) (fun x => rfl) H4
    · exact key z H3.1 (fun x => rfl) H3.2
    · exact H3.elim
    · exact H3.elim
    · exact H3.elim
  | ldiv =>
    have e1 := of_decide_eq_true hl
    subst e1
    refine z0_r (Z := fun V => ZJ w k pc la sa (pm s) (h V)) (fun v st e1 H1 => ?_) H
    refine z0_r (Z := fun V => ZJ w k pc la sa (pm s) (h V)) (fun u st2 e2 H2 => ?_) H1
    refine zl_r (Z := fun V => ZJ w k pc la sa (pm s) (h V)) (fun y hy H3 => ?_) H2
    refine zl_r (Z := fun V => ZJ w k pc la sa (pm s) (h V)) (fun z hz H4 => ?_) H3
    subst e1 e2 hy hz
    exact zs_go hd rfl (fun x M _ => if_neg H4.1) (hK _ _ _ hg H4.2)
  | lrem =>
    have e1 := of_decide_eq_true hl
    subst e1
    refine z0_r (Z := fun V => ZJ w k pc la sa (pm s) (h V)) (fun v st e1 H1 => ?_) H
    refine z0_r (Z := fun V => ZJ w k pc la sa (pm s) (h V)) (fun u st2 e2 H2 => ?_) H1
    refine zl_r (Z := fun V => ZJ w k pc la sa (pm s) (h V)) (fun y hy H3 => ?_) H2
    refine zl_r (Z := fun V => ZJ w k pc la sa (pm s) (h V)) (fun z hz H4 => ?_) H3
    subst e1 e2 hy hz
    exact zs_go hd rfl (fun x M _ => if_neg H4.1) (hK _ _ _ hg H4.2)
  | ineg =>
    have e1 := of_decide_eq_true hl
    subst e1
    refine z0_r (Z := fun V => ZJ w k pc la sa (pm s) (h V)) (fun v st e1 H1 => ?_) H
    refine zi_r (Z := fun V => ZJ w k pc la sa (pm s) (h V)) (fun y hy H2 => ?_) H1
    subst e1
    exact zs_go hd rfl (fun x M _ => by rw [List.map_cons, hy x]; rfl) (hK _ _ _ hg H2)
  | i2l =>
    have e1 := of_decide_eq_true hl
    subst e1
    refine z0_r (Z := fun V => ZJ w k pc la sa (pm s) (h V)) (fun v st e1 H1 => ?_) H
    refine zi_r (Z := fun V => ZJ w k pc la sa (pm s) (h V)) (fun y hy H2 => ?_) H1
    subst e1
    exact zs_go hd rfl (fun x M _ => by rw [List.map_cons, hy x]; rfl) (hK _ _ _ hg H2)
  | lneg =>
    have e1 := of_decide_eq_true hl
    subst e1
    refine z0_r (Z := fun V => ZJ w k pc la sa (pm s) (h V)) (fun v st e1 H1 => ?_) H
    refine zl_r (Z := fun V => ZJ w k pc la sa (pm s) (h V)) (fun y hy H2 => ?_) H1
    subst e1 hy
    exact zs_go hd rfl (fun x M _ => rfl) (hK _ _ _ hg H2)
  | l2i =>
    have e1 := of_decide_eq_true hl
    subst e1
    refine z0_r (Z := fun V => ZJ w k pc la sa (pm s) (h V)) (fun v st e1 H1 => ?_) H
    refine zl_r (Z := fun V => ZJ w k pc la sa (pm s) (h V)) (fun y hy H2 => ?_) H1
    subst e1 hy
    exact zs_go hd rfl (fun x M _ => rfl) (hK _ _ _ hg H2)
  | lcmp =>
    have e1 := of_decide_eq_true hl
    subst e1
    refine z0_r (Z := fun V => ZJ w k pc la sa (pm s) (h V)) (fun v st e1 H1 => ?_) H
    refine z0_r (Z := fun V => ZJ w k pc la sa (pm s) (h V)) (fun u st2 e2 H2 => ?_) H1
    refine zl_r (Z := fun V => ZJ w k pc la sa (pm s) (h V)) (fun y hy H3 => ?_) H2
    refine zl_r (Z := fun V => ZJ w k pc la sa (pm s) (h V)) (fun z hz H4 => ?_) H3
    subst e1 e2 hy hz
    exact zs_go hd rfl (fun x M _ => rfl) (hK _ _ _ hg H4)
  | dup =>
    have e1 := of_decide_eq_true hl
    subst e1
    refine z0_r (Z := fun V => ZJ w k pc la sa (pm s) (h V)) (fun v st e1 H1 => ?_) H
    refine zsw_r (Z := fun V => ZJ w k pc la sa (pm s) (h V)) (fun hm H2 => ?_) H1
    subst e1
    exact zs_go hd rfl (fun x M _ => if_pos (by rw [isL_em, hm]; rfl)) (hK _ _ _ hg H2)
  | dup2 =>
    have e1 := of_decide_eq_true hl
    subst e1
    refine z0_r (Z := fun V => ZJ w k pc la sa (pm s) (h V)) (fun v st e1 H1 => ?_) H
    refine z0_r (Z := fun V => ZJ w k pc la sa (pm s) (h V)) (fun u st2 e2 H2 => ?_) H1
    refine zsw_r (Z := fun V => ZJ w k pc la sa (pm s) (h V)) (fun hm H3 => ?_) H2
    subst e1 e2
    simp only [Bool.and_eq_true] at hm
    exact zs_go hd rfl (fun x M _ => if_pos (by rw [isL_em, isL_em, hm.1, hm.2]; exact ⟨rfl, rfl⟩)) (hK _ _ _ hg H3)
  | pop =>
    have e1 := of_decide_eq_true hl
    subst e1
    refine z0_r (Z := fun V => ZJ w k pc la sa (pm s) (h V)) (fun v st e1 H1 => ?_) H
    refine zsw_r (Z := fun V => ZJ w k pc la sa (pm s) (h V)) (fun hm H2 => ?_) H1
    subst e1
    exact zs_go hd rfl (fun x M _ => if_pos (by rw [isL_em, hm]; rfl)) (hK _ _ _ hg H2)
  | goto off =>
    have e1 := of_decide_eq_true hl
    subst e1
    exact ZJ_of (fun x M hx => xr hd rfl (if_pos (of_decide_eq_true hr))) (hJ _ _ _ _ hg H)
  | ifCond cd off =>
    have e1 := of_decide_eq_true hl
    subst e1
    refine z0_r (Z := fun V => ZJ w k pc la sa (pm s) (h V)) (fun v st e1 H1 => ?_) H
    subst e1
    rcases v with m | z | z | ⟨k9, i9⟩ | u9
    · refine zsw_r (Z := fun V => ZJ w k pc la (Sum.inl m :: st) (pm s) (h V)) (T := (match cmz cd m with
        | true => JG (tgt pc off) la st s
        | false => KG la st s)) (V := (match cmz cd m with
        | true => JV (tgt pc off) la st s
        | false => KV la st s)) (fun hm H2 => ?_) H1
      have h5 := cmz_s (c := cd) hm
      have h6 := zs_br (sa := Sum.inl m :: st) (sa' := st) (c := cmpI cd (cn m) 0) (st := st) hd rfl (of_decide_eq_true hr) hg hK hJ (fun x M => rfl) (by
        rw [h5]
        cases hc : cmz cd m <;> rw [hc] at H2
        · rw [if_neg (by decide)]; exact H2
        · rw [if_pos rfl]; exact H2)
      rw [h5] at h6
      cases hc : cmz cd m <;> rw [hc] at h6
      · rw [if_neg (by decide)] at h6; exact h6
      · rw [if_pos rfl] at h6; exact h6
    · have H2 : bra cd z 0 (JG (tgt pc off) la st s) (KG la st s) := H1
      show ZJ w k pc la (Sum.inr (Sum.inl z) :: st) (pm s) (h (bra cd z 0 (JV (tgt pc off) la st s) (KV la st s)))
      rw [cmp_bra] at H2 ⊢
      exact zs_br (sa := Sum.inr (Sum.inl z) :: st) (sa' := st) (c := cmpI cd z 0) (st := st) hd rfl (of_decide_eq_true hr) hg hK hJ (fun x M => rfl) H2
    · exact H1.elim
    · exact H1.elim
    · exact H1.elim
  | if_icmp cd off =>
    have e1 := of_decide_eq_true hl
    subst e1
    refine z0_r (Z := fun V => ZJ w k pc la sa (pm s) (h V)) (fun v st e1 H1 => ?_) H
    refine z0_r (Z := fun V => ZJ w k pc la sa (pm s) (h V)) (fun u st2 e2 H2 => ?_) H1
    refine zi_r (Z := fun V => ZJ w k pc la sa (pm s) (h V)) (fun y hy H3 => ?_) H2
    refine zi_r (Z := fun V => ZJ w k pc la sa (pm s) (h V)) (fun z hz H4 => ?_) H3
    subst e1 e2
    rw [cmp_bra] at H4 ⊢
    exact zs_br (sa := v :: u :: st2) (sa' := st2) (c := cmpI cd y z) (st := st2) hd rfl (of_decide_eq_true hr) hg hK hJ (fun x M => by rw [List.map_cons, List.map_cons, hy x, hz x]; rfl) H4
  | ifnull off =>
    have e1 := of_decide_eq_true hl
    subst e1
    refine z0_r (Z := fun V => ZJ w k pc la sa (pm s) (h V)) (fun v st e1 H1 => ?_) H
    refine zr_r (Z := fun V => ZJ w k pc la sa (pm s) (h V)) (fun k' i' hy H2 => ?_) H1
    subst e1 hy
    refine ite_r0 (Z := fun V => ZJ w k pc la (zR k' i' :: st) (pm s) (h V)) (fun hc H3 => ?_) (fun hc H3 => ?_) H2
    · refine ZJ_of (fun x M hx => ?_) (hJ _ _ _ _ hg H3)
      have h5 := x_null (la := la.map (em x)) (st := st.map (em x)) (M := sP M x (pm s)) (x := x) (K := k') (i := i') hd (of_decide_eq_true hr)
      rw [if_pos hc] at h5
      exact h5
    · refine ZJ_of (fun x M hx => ?_) (hK _ _ _ hg H3)
      have h5 := x_null (la := la.map (em x)) (st := st.map (em x)) (M := sP M x (pm s)) (x := x) (K := k') (i := i') hd (of_decide_eq_true hr)
      rw [if_neg hc] at h5
      exact h5
  | ifnonnull off =>
    have e1 := of_decide_eq_true hl
    subst e1
    refine z0_r (Z := fun V => ZJ w k pc la sa (pm s) (h V)) (fun v st e1 H1 => ?_) H
    refine zr_r (Z := fun V => ZJ w k pc la sa (pm s) (h V)) (fun k' i' hy H2 => ?_) H1
    subst e1 hy
    refine ite_r0 (Z := fun V => ZJ w k pc la (zR k' i' :: st) (pm s) (h V)) (fun hc H3 => ?_) (fun hc H3 => ?_) H2
    · refine ZJ_of (fun x M hx => ?_) (hK _ _ _ hg H3)
      have h5 := x_nonnull (la := la.map (em x)) (st := st.map (em x)) (M := sP M x (pm s)) (x := x) (K := k') (i := i') hd (of_decide_eq_true hr)
      rw [if_pos hc] at h5
      exact h5
    · refine ZJ_of (fun x M hx => ?_) (hJ _ _ _ _ hg H3)
      have h5 := x_nonnull (la := la.map (em x)) (st := st.map (em x)) (M := sP M x (pm s)) (x := x) (K := k') (i := i') hd (of_decide_eq_true hr)
      rw [if_neg hc] at h5
      exact h5
  | if_acmp cd off =>
    have e1 := of_decide_eq_true hl
    subst e1
    cases cd with
    | eq =>
      refine z0_r (Z := fun V => ZJ w k pc la sa (pm s) (h V)) (fun v st e1 H1 => ?_) H
      refine z0_r (Z := fun V => ZJ w k pc la sa (pm s) (h V)) (fun u st2 e2 H2 => ?_) H1
      refine zr_r (Z := fun V => ZJ w k pc la sa (pm s) (h V)) (fun k1 i1 hu H3 => ?_) H2
      refine zr_r (Z := fun V => ZJ w k pc la sa (pm s) (h V)) (fun k2 i2 hv H4 => ?_) H3
      refine zsw_r (Z := fun V => ZJ w k pc la sa (pm s) (h V)) (fun hb H5 => ?_) H4
      have hb' := Nat.eq_of_beq_eq_true hb
      subst e1 e2 hu hv hb'
      refine ite_r0 (Z := fun V => ZJ w k pc la (zR k1 i2 :: zR k1 i1 :: st2) (pm s) (h V)) (fun hc H6 => ?_) (fun hc H6 => ?_) H5
      · refine ZJ_of (fun x M hx => ?_) (hJ _ _ _ _ hg H6)
        have h5 := x_acmp (la := la.map (em x)) (st := st2.map (em x)) (M := sP M x (pm s)) (x := x) (K := k1) (i := i1) (j := i2) (Or.inl ⟨rfl, rfl⟩) hd (of_decide_eq_true hr)
        rw [if_pos hc] at h5
        exact h5
      · refine ZJ_of (fun x M hx => ?_) (hK _ _ _ hg H6)
        have h5 := x_acmp (la := la.map (em x)) (st := st2.map (em x)) (M := sP M x (pm s)) (x := x) (K := k1) (i := i1) (j := i2) (Or.inl ⟨rfl, rfl⟩) hd (of_decide_eq_true hr)
        rw [if_neg hc] at h5
        exact h5
    | ne =>
      refine z0_r (Z := fun V => ZJ w k pc la sa (pm s) (h V)) (fun v st e1 H1 => ?_) H
      refine z0_r (Z := fun V => ZJ w k pc la sa (pm s) (h V)) (fun u st2 e2 H2 => ?_) H1
      refine zr_r (Z := fun V => ZJ w k pc la sa (pm s) (h V)) (fun k1 i1 hu H3 => ?_) H2
      refine zr_r (Z := fun V => ZJ w k pc la sa (pm s) (h V)) (fun k2 i2 hv H4 => ?_) H3
      refine zsw_r (Z := fun V => ZJ w k pc la sa (pm s) (h V)) (fun hb H5 => ?_) H4
      have hb' := Nat.eq_of_beq_eq_true hb
      subst e1 e2 hu hv hb'
      refine ite_r0 (Z := fun V => ZJ w k pc la (zR k1 i2 :: zR k1 i1 :: st2) (pm s) (h V)) (fun hc H6 => ?_) (fun hc H6 => ?_) H5
      · refine ZJ_of (fun x M hx => ?_) (hK _ _ _ hg H6)
        have h5 := x_acmp (la := la.map (em x)) (st := st2.map (em x)) (M := sP M x (pm s)) (x := x) (K := k1) (i := i1) (j := i2) (Or.inr ⟨rfl, rfl⟩) hd (of_decide_eq_true hr)
        rw [if_pos hc] at h5
        exact h5
      · refine ZJ_of (fun x M hx => ?_) (hJ _ _ _ _ hg H6)
        have h5 := x_acmp (la := la.map (em x)) (st := st2.map (em x)) (M := sP M x (pm s)) (x := x) (K := k1) (i := i1) (j := i2) (Or.inr ⟨rfl, rfl⟩) hd (of_decide_eq_true hr)
        rw [if_neg hc] at h5
        exact h5
  | tableswitch df lo hi os =>
    simp only [Bool.and_eq_true, decide_eq_true_eq, List.all_eq_true] at hr
    obtain ⟨⟨⟨⟨⟨h1, h2⟩, h3⟩, h4⟩, h5⟩, h6⟩ := hr
    refine z0_r (Z := fun V => ZJ w k pc la sa (pm s) (h V)) (fun v st e1 H1 => ?_) H
    refine zi_r (Z := fun V => ZJ w k pc la sa (pm s) (h V)) (fun y hy H2 => ?_) H1
    subst e1
    have e0 : lo = lo + (([] : List Int).length : Nat) := by simp
    rw [e0] at H2 ⊢
    exact swt_s hd hy hg hJ h1 h2 h3 h4 h6 os.toList [] rfl (fun j hj => absurd hj (Nat.not_lt_zero _)) H2
  | getfield q =>
    have e1 := of_decide_eq_true hl
    subst e1
    exact zs_get hd hr hg hK H
  | putfield q =>
    have e1 := of_decide_eq_true hl
    subst e1
    exact zs_put hup hd hr hg hK H
  | iaload =>
    have e1 := of_decide_eq_true hl
    subst e1
    simp only [Bool.and_eq_true, decide_eq_true_eq] at hr
    exact zs_ald hd rfl (fun _ _ _ => rfl) (decide_eq_true hr.1) hr.2 (Or.inl (Or.inl hr.1)) hg hK H
  | baload =>
    exact absurd (show false = true from hr) (by decide)
  | laload =>
    have e1 := of_decide_eq_true hl
    subst e1
    simp only [Bool.and_eq_true, decide_eq_true_eq] at hr
    exact zs_ald hd rfl (fun _ _ _ => rfl) (decide_eq_true hr.1) hr.2 (Or.inl (Or.inr (Or.inr hr.1))) hg hK H
  | aaload =>
    have e1 := of_decide_eq_true hl
    subst e1
    simp only [Bool.and_eq_true, Bool.or_eq_true, decide_eq_true_eq] at hr
    refine zs_ald hd rfl (fun _ _ _ => rfl) ?_ hr.1.2 (Or.inr ⟨hr.1.1, hr.2⟩) hg hK H
    have h1 := hr.1.1
    revert h1
    clear hr H
    intro h1
    simp only [List.mem_cons, List.not_mem_nil, or_false] at h1
    rcases h1 with rfl | rfl | rfl | rfl | rfl | rfl <;> rfl
  | iastore =>
    have e1 := of_decide_eq_true hl
    subst e1
    simp only [Bool.and_eq_true, decide_eq_true_eq] at hr
    exact zs_ast (d := 0) hup hd rfl (fun _ _ _ => rfl) (decide_eq_true hr.1) hr.2 (Or.inl ⟨rfl, hr.1⟩) hg hK H
  | bastore =>
    exact absurd (show false = true from hr) (by decide)
  | lastore =>
    have e1 := of_decide_eq_true hl
    subst e1
    simp only [Bool.and_eq_true, decide_eq_true_eq] at hr
    exact zs_ast (d := 2) hup hd rfl (fun _ _ _ => rfl) (decide_eq_true hr.1) hr.2 (Or.inr (Or.inr (Or.inl ⟨rfl, hr.1⟩))) hg hK H
  | aastore =>
    have e1 := of_decide_eq_true hl
    subst e1
    simp only [Bool.and_eq_true, decide_eq_true_eq] at hr
    exact zs_ast (d := 3) hup hd rfl (fun _ _ _ => rfl) (by rw [hr.1]; rfl) hr.2 (Or.inr (Or.inr (Or.inr ⟨rfl, hr.1⟩))) hg hK H
  | arraylength =>
    have e1 := of_decide_eq_true hl
    subst e1
    simp only [Bool.and_eq_true, decide_eq_true_eq] at hr
    exact zs_aln hd hr.1.1.2 hr.1.2 hr.1.1.1 hg hK H
  | invokevirtual q =>
    have e1 := of_decide_eq_true hl
    subst e1
    exact zs_call hcs hup hd rfl (Or.inl rfl) (fun _ _ _ => rfl) hr hg hK H
  | invokestatic q =>
    have e1 := of_decide_eq_true hl
    subst e1
    exact zs_call hcs hup hd rfl (Or.inr rfl) (fun _ _ _ => rfl) hr hg hK H
  | ireturn =>
    simp only [Bool.and_eq_true, decide_eq_true_eq] at hr
    obtain ⟨h1, h2⟩ := hr
    refine z0_r (Z := fun V => ZJ w k pc la sa (pm s) (h V)) (fun v st e1 H1 => ?_) H
    subst e1
    cases st with
    | cons z st => exact H1.elim
    | nil =>
      have key : ∀ y, (∀ x, em x v = vI y) → (mR k = some .int ∨ mR k = some .boolean ∧ b01 y) → ZJ w k pc la [v] (pm s) (h (rI y s)) := by
        intro y hy hc
        rw [hI h1]
        refine ⟨fun x M hx => ?_, hg⟩
        rw [List.map_cons, hy x]
        refine xh hd hl ?_
        show (match mR k with
          | some .int => hlt (.inl (some (vI y))) (sP M x (pm s))
          | some .boolean => hlt (.inl (some (vI (y &&& 1)))) (sP M x (pm s))
          | _ => bad) = _
        rcases hc with hc | ⟨hc, hb⟩
        · rw [hc]; rfl
        · rw [hc]
          dsimp only
          rw [and1 hb]; rfl
      cases a with
      | zero =>
        refine zi_r (Z := fun V => ZJ w k pc la [v] (pm s) (h V)) (T := fun _ => True) (V := fun x => rI x s) (fun y hy H2 => ?_) H1
        exact key y hy (Or.inl (of_decide_eq_true h2))
      | succ a =>
        rcases v with m | z | z | ⟨k9, i9⟩ | u9
        · refine zsw_r (Z := fun V => ZJ w k pc la [Sum.inl m] (pm s) (h V)) (T := True) (V := rI (cn m) s) (fun hm H2 => ?_) H1
          exact key _ (fun x => rfl) (Or.inr ⟨of_decide_eq_true h2, c01_s hm⟩)
        · exact key z (fun x => rfl) (Or.inr ⟨of_decide_eq_true h2, H1.1⟩)
        · exact H1.elim
        · exact H1.elim
        · exact H1.elim
  | lreturn =>
    simp only [Bool.and_eq_true, decide_eq_true_eq] at hr
    obtain ⟨h1, h2⟩ := hr
    refine z0_r (Z := fun V => ZJ w k pc la sa (pm s) (h V)) (fun v st e1 H1 => ?_) H
    subst e1
    cases st with
    | cons z st => exact H1.elim
    | nil =>
      refine zl_r (Z := fun V => ZJ w k pc la [v] (pm s) (h V)) (T := fun _ => True) (V := fun x => rL x s) (fun y hy H2 => ?_) H1
      subst hy
      rw [hL h1]
      exact ⟨fun x M hx => xh hd hl (if_pos h2), hg⟩
  | areturn =>
    simp only [Bool.and_eq_true, decide_eq_true_eq] at hr
    obtain ⟨h1, h2⟩ := hr
    refine z0_r (Z := fun V => ZJ w k pc la sa (pm s) (h V)) (fun v st e1 H1 => ?_) H
    subst e1
    cases st with
    | cons z st => exact H1.elim
    | nil =>
      refine zr_r (Z := fun V => ZJ w k pc la [v] (pm s) (h V)) (T := fun k _ => zsw (Nat.beq k a) False True) (V := fun k i => zsw (Nat.beq k a) jV (rR i s)) (fun k' i' hy H2 => ?_) H1
      refine zsw_r (Z := fun V => ZJ w k pc la [v] (pm s) (h V)) (fun hb H3 => ?_) H2
      have hb' := Nat.eq_of_beq_eq_true hb
      subst hy hb'
      rw [hR k' h1]
      refine ⟨fun x M hx => ?_, hg⟩
      refine xh hd hl ?_
      show (match mR k with
        | some (.object _) => hlt (.inl (some (vR x k' i'))) (sP M x (pm s))
        | _ => bad) = _
      split at h2
      · next heq => rw [heq]; rfl
      · cases h2
  | return_ =>
    simp only [Bool.and_eq_true, decide_eq_true_eq] at hr
    cases sa with
    | cons z st => exact H.elim
    | nil =>
      show ZJ w k pc la [] (pm s) (h (rV s))
      rw [hV hr.1]
      exact ⟨fun x M hx => xh hd hl (if_pos ⟨hr.2, rfl⟩), hg⟩
  | _ => exact H.elim
theorem zE_cut {gd : Prop → R → R} {tab : List Row} {ks : List (List ZV → List ZV → σ → R)} {n z a b c d e : Nat} {m : Int} {rest : List Row} : zE w cs pm up gd jV rI rL rR rV tab ks (n + 1) false ((pc, i, len, z + 1, a, b, c, d, e, m) :: rest) la sa s = (match ks[z]? with
    | some κ => κ la sa s
    | none => jV) := rfl
/-- the code's rows stand in the bytes, and are as the tables say -/
def TabOK (w k rt : Nat) (cs : List Cal) (tab : List Row) : Prop := (∀ r ∈ tab, decode (mB k) r.1 = .ok (r.2.1, r.2.2.1) ∧ rok w k rt (cs.map sgC) r = true) ∧ ∀ r r' rest, (r :: r' :: rest) <:+ tab → r'.1 = r.1 + r.2.2.1
theorem frm_suf : ∀ (tab : List Row) (q : Nat), frm tab q <:+ tab
  | [], _ => List.suffix_refl _
  | r :: t, q => by
    unfold frm
    cases Nat.beq r.1 q with
    | true => exact List.suffix_refl _
    | false => exact (frm_suf t q).trans (List.suffix_cons r t)
theorem frm_hd : ∀ (tab : List Row) (q : Nat) (r : Row) (rest : List Row), frm tab q = r :: rest → r.1 = q
  | [], _, _, _, h => by unfold frm at h; cases h
  | r :: t, q, r', rest, h => by
    unfold frm at h
    cases hb : Nat.beq r.1 q with
    | true =>
      rw [hb] at h
      injection h with h1 h2
      rw [← h1]
      exact Nat.eq_of_beq_eq_true hb
    | false =>
      rw [hb] at h
      exact frm_hd t q r' rest h
/-- where the rows from here on stand -/
def zpc (rest : List Row) (q : Nat) : Prop := match rest with
  | [] => True
  | r :: _ => r.1 = q
theorem zE_s {tab : List Row} {ks : List (List ZV → List ZV → σ → R)} {gs : List (List ZV → List ZV → σ → Prop)} (hcs : ∀ C ∈ cs, CalOK w C) (hup : ∀ s p s', up s p = some s' → pm s' = p) (hI : rt = 1 → ∀ v s, h (rI v s) = (some (zI v), pm s)) (hL : rt = 2 → ∀ v s, h (rL v s) = (some (zL v), pm s)) (hR : ∀ K, rt = 3 + K → ∀ i s, h (rR i s) = (some (zR K i), pm s)) (hV : rt = 0 → ∀ s, h (rV s) = (none, pm s)) (htab : TabOK w k rt cs tab) (hks : ∀ (q : Nat) κ g, ks[q]? = some κ → gs[q]? = some g → ∀ r ∈ tab, r.2.2.2.1 = q + 1 → ∀ la sa s, Gr w (pm s) → g la sa s → ZJ w k r.1 la sa (pm s) (h (κ la sa s))) (hlen : ks.length = gs.length) : ∀ (n : Nat) (fst : Bool) (rest : List Row) (q : Nat) (la sa : List ZV) (s : σ), rest <:+ tab → zpc rest q → Gr w (pm s) → zE w cs pm up (fun g r => g ∧ r) False (fun _ _ => True) (fun _ _ => True) (fun _ _ => True) (fun _ => True) tab gs n fst rest la sa s → ZJ w k q la sa (pm s) (h (zE w cs pm up (fun _ r => r) jV rI rL rR rV tab ks n fst rest la sa s))
  | 0, _, _, _, _, _, _, _, _, _, H => H.elim
  | n + 1, fst, [], _, _, _, _, _, _, _, H => H.elim
  | n + 1, fst, (pc, i, len, cut, a, b, c, d, e, m) :: rest', q, la, sa, s, hsf, hq, hg, H => by
    have hq' : pc = q := hq
    subst hq'
    have hmem : (pc, i, len, cut, a, b, c, d, e, m) ∈ tab := hsf.subset (List.mem_cons_self ..)
    have hrow := htab.1 _ hmem
    have ih := zE_s hcs hup hI hL hR hV htab hks hlen n
    have hst : zX w cs pm up (fun g r => g ∧ r) False (fun _ _ => True) (fun _ _ => True) (fun _ _ => True) (fun _ => True) (fun la sa s => zE w cs pm up (fun g r => g ∧ r) False (fun _ _ => True) (fun _ _ => True) (fun _ _ => True) (fun _ => True) tab gs n false rest' la sa s) (fun q la sa s => zE w cs pm up (fun g r => g ∧ r) False (fun _ _ => True) (fun _ _ => True) (fun _ _ => True) (fun _ => True) tab gs n false (frm tab q) la sa s) pc i a b c d e m la sa s → ZJ w k pc la sa (pm s) (h (zX w cs pm up (fun _ r => r) jV rI rL rR rV (fun la sa s => zE w cs pm up (fun _ r => r) jV rI rL rR rV tab ks n false rest' la sa s) (fun q la sa s => zE w cs pm up (fun _ r => r) jV rI rL rR rV tab ks n false (frm tab q) la sa s) pc i a b c d e m la sa s)) := by
      intro Hx
      refine zX_s hcs hup hI hL hR hV hrow.1 hrow.2 hg (fun la sa s hg' H' => ?_) (fun q la sa s hg' H' => ?_) Hx
      · refine ih false rest' (pc + len) la sa s ((List.suffix_cons _ _).trans hsf) ?_ hg' H'
        cases rest' with
        | nil => trivial
        | cons r' rest'' => exact htab.2 _ _ _ hsf
      · refine ih false (frm tab q) q la sa s (frm_suf tab q) ?_ hg' H'
        cases hf : frm tab q with
        | nil => trivial
        | cons r' rest'' => exact frm_hd tab q r' rest'' hf
    cases fst with
    | true => exact hst H
    | false => cases cut with
      | zero => exact hst H
      | succ z =>
        have H1 := H
        rw [zE_cut] at H1 ⊢
        cases hgz : gs[z]? with
        | none => rw [hgz] at H1; exact H1.elim
        | some g =>
          rw [hgz] at H1
          have hz : z < ks.length := by
            rw [hlen]
            exact (List.getElem?_eq_some_iff.mp hgz).1
          have hkz : ks[z]? = some ks[z] := List.getElem?_eq_getElem hz
          rw [hkz]
          exact hks z _ g hkz hgz _ hmem rfl la sa s hg H1
end ZS4
