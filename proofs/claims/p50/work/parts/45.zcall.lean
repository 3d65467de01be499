/-! calls and switches; one step; the evaluator is sound -/
section ZS3
variable {σ R : Type} {w k rt : Nat} {cs : List Cal} {pm : σ → PM} {up : σ → PM → Option σ} {jV : R} {rI : Int32 → σ → R} {rL : Int64 → σ → R} {rR : Nat → σ → R} {rV : σ → R} {h : R → Option ZV × PM} {KV : List ZV → List ZV → σ → R} {KG : List ZV → List ZV → σ → Prop} {JV : Nat → List ZV → List ZV → σ → R} {JG : Nat → List ZV → List ZV → σ → Prop} {pc len : Nat} {i : Instr} {la sa : List ZV} {s : σ}
theorem zCall_s {q kd b e c ps : Nat} {C : Cal} {as st u : List ZV} (hup : ∀ s p s', up s p = some s' → pm s' = p) (hd : decode (mB k) pc = .ok (i, 3)) (hl : iln i 3 = true) (hn : ∀ la sa M, nxi k pc la sa M i = nInv k pc q la sa M kd) (hp : pM (mO k) q = some (c, kd, ps)) (hC : CalOK w C) (hC1 : C.1 = c) (hA : mA c = b) (hok : okC k c = true ∧ okK c kd = true) (hls : laysz C.2.1 ≤ mL c) (hrv : (kd = 0 ∧ (e = 1 ∨ e = 2) ∧ C.2.1.head? = some (3 + mO c)) ∨ (kd = 1 ∧ e = 0)) (hall : C.2.1.all (fun t => !decide (t = 2)) = true) (hs1 : sa = u ++ st) (hs2 : as = u.reverse) (hs3 : u.length = b) (hg : Gr w (pm s)) (hK : ∀ la sa s, Gr w (pm s) → KG la sa s → ZJ w k (pc + 3) la sa (pm s) (h (KV la sa s))) (H : zCall pm up (fun g r => g ∧ r) False s C e as st la KG) : ZJ w k pc la sa (pm s) (h (zCall pm up (fun _ r => r) jV s C e as st la KV)) := by
  refine zsw_r (Z := fun V => ZJ w k pc la sa (pm s) (h V)) (fun hb H1 => ?_) H
  simp only [Bool.and_eq_true] at hb
  obtain ⟨htc, hst⟩ := hb
  have hst4 : (zlay st).length ≤ 8 := Nat.ble_eq.mp hst
  have step : (∀ x, okx w x → recv c kd (as.map (em x)) = true) → C.2.2.2.2.2 as (pm s) → ∀ (z : Option ZV) (p' : PM), ZJ w c 0 (zent c as) [] (pm s) (z, p') → ∀ s', pm s' = p' → ∀ sa', (∀ x, sa'.map (em x) = (match z with
      | none => []
      | some v => [em x v]) ++ st.map (em x)) → KG la sa' s' → ZJ w k pc la sa (pm s) (h (KV la sa' s')) := by
    intro hrc hG z p' hz s' hs' sa' hsa' Ha
    have hz9 := hK la sa' s' (by rw [hs']; exact hz.2) Ha
    refine ZJ_of (p' := pm s') (fun x M hx => ?_) hz9
    have h1 := hz.1 x M hx
    have e0 : sa.map (em x) = u.map (em x) ++ st.map (em x) := by rw [hs1, List.map_append]
    have e1 : (sa.map (em x)).take (mA c) = u.map (em x) := by rw [e0, hA, ← hs3, ← List.length_map (f := em x), List.take_left]
    have e2 : (sa.map (em x)).drop (mA c) = st.map (em x) := by rw [e0, hA, ← hs3, ← List.length_map (f := em x), List.drop_left]
    have e3 : ((sa.map (em x)).take (mA c)).reverse = as.map (em x) := by rw [e1, hs2, List.map_reverse]
    have h2 := x_call (la := la.map (em x)) (sa := sa.map (em x)) (M := sP M x (pm s)) hd hl (hn _ _ _) hp (by
      refine ⟨⟨⟨?_, ?_⟩, hok.1⟩, ?_, ?_, hok.2⟩
      · rw [hA, ← hs3, e0, List.length_append, List.length_map]; omega
      · rw [e2, lay_em, List.length_map]; exact hst4
      · rw [e3, lay_em, List.length_map, lay_len htc hall]; exact hls
      · rw [e3]; exact hrc x hx)
    rw [e2, e3, ent_em] at h2
    have h1' : X c 0 ((zent c as).map (em x)) [] (sP M x (pm s)) = some (.inl (z.map (em x)), sP M x p') := h1
    rw [h1'] at h2
    rw [h2, hs', hsa' x]
    cases z with
    | none => exact rsm_0
    | some v => exact rsm_v
  have hok2 : C.2.2.2.2.2 as (pm s) → ZJ w c 0 (zent c as) [] (pm s) (if C.2.2.1 = 0 then none else some (C.2.2.2.2.1 as (pm s)).1, if C.2.2.2.1 = true then pm s else (C.2.2.2.2.1 as (pm s)).2) := fun hG => hC1 ▸ hC as (pm s) hg htc hG
  have fin : (∀ x, okx w x → recv c kd (as.map (em x)) = true) → (C.2.2.2.2.2 as (pm s) ∧ (match C.2.2.1, C.2.2.2.1 with
      | 0, true => KG la st s
      | 0, false => zup up False s (C.2.2.2.2.1 as (pm s)).2 fun s' => KG la st s'
      | _ + 1, true => KG la ((C.2.2.2.2.1 as (pm s)).1 :: st) s
      | _ + 1, false => zup up False s (C.2.2.2.2.1 as (pm s)).2 fun s' => KG la ((C.2.2.2.2.1 as (pm s)).1 :: st) s')) → ZJ w k pc la sa (pm s) (h (match C.2.2.1, C.2.2.2.1 with
      | 0, true => KV la st s
      | 0, false => zup up jV s (C.2.2.2.2.1 as (pm s)).2 fun s' => KV la st s'
      | _ + 1, true => KV la ((C.2.2.2.2.1 as (pm s)).1 :: st) s
      | _ + 1, false => zup up jV s (C.2.2.2.2.1 as (pm s)).2 fun s' => KV la ((C.2.2.2.2.1 as (pm s)).1 :: st) s')) := by
    rintro hrc ⟨hG, H2⟩
    have hz := hok2 hG
    have st1 := step hrc hG
    generalize (C.2.2.2.2.1 as (pm s)) = vv at H2 hz ⊢
    generalize C.2.2.1 = t1 at H2 hz ⊢
    generalize C.2.2.2.1 = t2 at H2 hz ⊢
    cases t1 with
    | zero => cases t2 with
      | true => exact st1 _ _ hz s rfl st (fun x => rfl) H2
      | false =>
        refine zup_r (Z := fun V => ZJ w k pc la sa (pm s) (h V)) (fun s' hs H3 => ?_) H2
        exact st1 _ _ hz s' (hup _ _ _ hs) st (fun x => rfl) H3
    | succ n => cases t2 with
      | true => exact st1 _ _ hz s rfl _ (fun x => rfl) H2
      | false =>
        refine zup_r (Z := fun V => ZJ w k pc la sa (pm s) (h V)) (fun s' hs H3 => ?_) H2
        exact st1 _ _ hz s' (hup _ _ _ hs) _ (fun x => rfl) H3
  rcases hrv with ⟨rfl, he, hh⟩ | ⟨rfl, rfl⟩
  · obtain ⟨e', rfl⟩ : ∃ e', e = e' + 1 := by rcases he with rfl | rfl <;> exact ⟨_, rfl⟩
    refine z0_r (Z := fun V => ZJ w k pc la sa (pm s) (h V)) (T := fun v _ => zr v False fun _ i => rcv (fun g r => g ∧ r) False (1 - e') i (C.2.2.2.2.2 as (pm s) ∧ (match C.2.2.1, C.2.2.2.1 with
      | 0, true => KG la st s
      | 0, false => zup up False s (C.2.2.2.2.1 as (pm s)).2 fun s' => KG la st s'
      | _ + 1, true => KG la ((C.2.2.2.2.1 as (pm s)).1 :: st) s
      | _ + 1, false => zup up False s (C.2.2.2.2.1 as (pm s)).2 fun s' => KG la ((C.2.2.2.2.1 as (pm s)).1 :: st) s'))) (V := fun v _ => zr v jV fun _ i => rcv (fun _ r => r) jV (1 - e') i (match C.2.2.1, C.2.2.2.1 with
      | 0, true => KV la st s
      | 0, false => zup up jV s (C.2.2.2.2.1 as (pm s)).2 fun s' => KV la st s'
      | _ + 1, true => KV la ((C.2.2.2.2.1 as (pm s)).1 :: st) s
      | _ + 1, false => zup up jV s (C.2.2.2.2.1 as (pm s)).2 fun s' => KV la ((C.2.2.2.2.1 as (pm s)).1 :: st) s')) (fun v ar ea H2 => ?_) H1
    refine zr_r (Z := fun V => ZJ w k pc la sa (pm s) (h V)) (fun k' i' hv H3 => ?_) H2
    refine rcv_r (Z := fun V => ZJ w k pc la sa (pm s) (h V)) (fun hi H4 => ?_) H3
    refine fin (fun x hx => ?_) H4
    rw [ea, hv]
    rw [ea, hv] at htc
    cases hts : C.2.1 with
    | nil => rw [hts] at hh; cases hh
    | cons t ts =>
      rw [hts] at hh htc
      have ht : t = 3 + mO c := by injection hh
      unfold tchk at htc
      simp only [Bool.and_eq_true] at htc
      have h3 := htc.1
      rw [ht, Nat.add_comm] at h3
      have h4 : k' = mO c := Nat.eq_of_beq_eq_true h3
      show recv c 0 (vR x k' i' :: ar.map (em x)) = true
      rw [vR_pos hi, h4]
      show (decide (mO c = mO c) && decide (x < 4)) = true
      simp [okx_4 hx]
  · exact fin (fun x hx => rfl) H1
theorem zs_call {q kd a b e : Nat} (hcs : ∀ C ∈ cs, CalOK w C) (hup : ∀ s p s', up s p = some s' → pm s' = p) (hd : decode (mB k) pc = .ok (i, 3)) (hl : iln i 3 = true) (hkd : kd = 0 ∨ kd = 1) (hn : ∀ la sa M, nxi k pc la sa M i = nInv k pc q la sa M kd) (hr : rokC w k (cs.map sgC) q kd a b e = true) (hg : Gr w (pm s)) (hK : ∀ la sa s, Gr w (pm s) → KG la sa s → ZJ w k (pc + 3) la sa (pm s) (h (KV la sa s))) (H : match cs[a]?, spl b sa [] with
    | some C, some (as, st) => zCall pm up (fun g r => g ∧ r) False s C e as st la KG
    | _, _ => False) : ZJ w k pc la sa (pm s) (h (match cs[a]?, spl b sa [] with
    | some C, some (as, st) => zCall pm up (fun _ r => r) jV s C e as st la KV
    | _, _ => jV)) := by
  unfold rokC at hr
  cases hp : pM (mO k) q with
  | none => rw [hp] at hr; cases hr
  | some z =>
    obtain ⟨c, kd', ps⟩ := z
    rw [List.getElem?_map] at hr
    cases hC : cs[a]? with
    | none => rw [hp, hC] at hr; cases hr
    | some C =>
      cases hs : spl b sa [] with
      | none => rw [hC, hs] at H; exact H.elim
      | some y =>
        obtain ⟨as, st⟩ := y
        rw [hC, hs] at H
        rw [hp, hC] at hr
        dsimp only [Option.map, sgC] at hr
        simp only [Bool.and_eq_true, decide_eq_true_eq] at hr
        obtain ⟨⟨⟨⟨⟨⟨h1, h2⟩, h3, h4⟩, h5, h6⟩, h7⟩, h8⟩, h9⟩ := hr
        obtain ⟨u, u1, u2, u3⟩ := spl_s hs
        rw [List.append_nil] at u2
        refine zCall_s (q := q) hup hd hl hn (by rw [hp, h1]) (hcs C (List.mem_of_getElem? hC)) h2 h3 ⟨h5, h6⟩ h7 ?_ h9 u1 u2 u3 hg hK H
        rcases hkd with rfl | rfl
        · simp only [Bool.and_eq_true, Bool.or_eq_true, decide_eq_true_eq] at h8
          exact Or.inl ⟨rfl, h8⟩
        · exact Or.inr ⟨rfl, of_decide_eq_true h8⟩
theorem swt_s {x : Int32} {lo hi df : Int} {os : Array Int} {st : List ZV} {v : ZV} (hd : decode (mB k) pc = .ok (.tableswitch df lo hi os, len)) (hv : ∀ x', em x' v = vI x) (hg : Gr w (pm s)) (hJ : ∀ q la sa s, Gr w (pm s) → JG q la sa s → ZJ w k q la sa (pm s) (h (JV q la sa s))) (hdf : 0 ≤ (pc : Int) + df) (hall : ∀ o ∈ os.toList, 0 ≤ (pc : Int) + o) (hhi : hi = lo + os.toList.length - 1) (hr1 : rng lo = true) (hr2 : rng (hi + 1) = true) : ∀ (L pre : List Int), os.toList = pre ++ L → (∀ j : Nat, j < pre.length → x.toInt ≠ lo + j) → swt x (fun o => JG (tgt pc o) la st s) L (lo + pre.length) (JG (tgt pc df) la st s) → ZJ w k pc la (v :: st) (pm s) (h (swt x (fun o => JV (tgt pc o) la st s) L (lo + pre.length) (JV (tgt pc df) la st s)))
  | [], pre, hp, hne, H => by
    refine ZJ_of (fun x' M hx => ?_) (hJ _ _ _ _ hg H)
    refine xr hd rfl ?_
    show nTab k pc (la.map (em x')) (em x' v :: st.map (em x')) (sP M x' (pm s)) df lo hi os = _
    rw [hv x']
    show (if x.toInt < lo ∨ hi < x.toInt then (if 0 ≤ (pc : Int) + df then go k (tgt pc df) _ _ _ else bad) else _) = _
    rw [if_pos, if_pos hdf]
    have hl : (os.toList.length : Int) = pre.length := by rw [hp, List.append_nil]
    rcases Int.lt_or_le x.toInt lo with h1 | h1
    · exact Or.inl h1
    · rcases Int.lt_or_le hi x.toInt with h2 | h2
      · exact Or.inr h2
      · exact absurd (show x.toInt = lo + ((x.toInt - lo).toNat : Nat) by omega) (hne _ (by omega))
  | o :: t, pre, hp, hne, H => by
    have hlen : (os.toList.length : Int) = pre.length + (t.length + 1) := by rw [hp, List.length_append, List.length_cons]; omega
    have hrl : rng (lo + pre.length) = true := by
      unfold rng at hr1 hr2 ⊢
      simp only [Bool.and_eq_true, decide_eq_true_eq] at hr1 hr2 ⊢
      omega
    have H1 : if x = cn (lo + pre.length) then JG (tgt pc o) la st s else swt x (fun o => JG (tgt pc o) la st s) t (lo + pre.length + 1) (JG (tgt pc df) la st s) := H
    show ZJ w k pc la (v :: st) (pm s) (h (if x = cn (lo + pre.length) then JV (tgt pc o) la st s else swt x (fun o => JV (tgt pc o) la st s) t (lo + pre.length + 1) (JV (tgt pc df) la st s)))
    refine ite_r0 (Z := fun V => ZJ w k pc la (v :: st) (pm s) (h V)) (fun hc H2 => ?_) (fun hc H2 => ?_) H1
    · have hxi : x.toInt = lo + pre.length := by rw [hc, cn_toInt hrl]
      refine ZJ_of (fun x' M hx => ?_) (hJ _ _ _ _ hg H2)
      refine xr hd rfl ?_
      show nTab k pc (la.map (em x')) (em x' v :: st.map (em x')) (sP M x' (pm s)) df lo hi os = _
      rw [hv x']
      show (if x.toInt < lo ∨ hi < x.toInt then _ else (match os[(x.toInt - lo).toNat]? with
        | some o => if 0 ≤ (pc : Int) + o then go k (tgt pc o) _ _ _ else bad
        | none => bad)) = _
      rw [if_neg (by omega)]
      have e1 : (x.toInt - lo).toNat = pre.length := by omega
      have e2 : os[pre.length]? = some o := by
        rw [← Array.getElem?_toList, hp, List.getElem?_append_right (Nat.le_refl _), Nat.sub_self]
        rfl
      rw [e1, e2]
      exact if_pos (hall o (by rw [hp]; simp))
    · have e3 : lo + (pre.length : Int) + 1 = lo + ((pre ++ [o]).length : Nat) := by rw [List.length_append, List.length_singleton]; omega
      rw [e3] at H2 ⊢
      refine swt_s hd hv hg hJ hdf hall hhi hr1 hr2 t (pre ++ [o]) (by rw [hp, List.append_assoc]; rfl) (fun j hj => ?_) H2
      rw [List.length_append, List.length_singleton] at hj
      rcases Nat.lt_or_ge j pre.length with h1 | h1
      · exact hne j h1
      · have h2 : j = pre.length := by omega
        subst h2
        intro h3
        exact hc (by rw [cn_inj, cn_toInt hrl]; exact h3)
end ZS3
