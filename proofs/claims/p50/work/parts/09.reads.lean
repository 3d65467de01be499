/-! one step of a frame, over the machine: what reads and writes the memory -/
def ckA (a : Nat) : Bool := match aE a with
  | (x, k, i, len) => decide (x < 4) && decide (k < 22) && decide (i ≠ 0) && decide (ad x k i = a) && (decide (13 ≤ k) || decide (len = nfK k)) && decide (len ≤ 4000)
theorem aT_ok : (List.range aT.length).all ckA = true := by decide +kernel
theorem aE_ok {a x k i len : Nat} (ha : a < aT.length) (h : aE a = (x, k, i, len)) : x < 4 ∧ k < 22 ∧ i ≠ 0 ∧ ad x k i = a ∧ (k < 13 → len = nfK k) ∧ len ≤ 4000 := by
  have h1 := List.all_eq_true.mp aT_ok a (List.mem_range.mpr ha)
  unfold ckA at h1
  rw [h] at h1
  simp only [Bool.and_eq_true, Bool.or_eq_true, decide_eq_true_eq] at h1
  obtain ⟨⟨⟨⟨⟨b1, b2⟩, b3⟩, b4⟩, b5⟩, b6⟩ := h1
  exact ⟨b1, b2, b3, b4, fun q => b5.elim (fun q' => absurd q (by omega)) id, b6⟩
/-- a made object that is no script: its place -/
theorem VO_at {n x k i : Nat} (h : VO n x k i) (hx : x < 4) : ∃ len, aE (ad x k i) = (x, k, i, len) ∧ ad x k i < n ∧ n ≤ aT.length ∧ k < 22 ∧ i ≠ 0 ∧ (k < 13 → len = nfK k) ∧ len ≤ 4000 := by
  rcases h with ⟨a1, -⟩ | ⟨-, a2, a3, len, a4⟩
  · omega
  · obtain ⟨b1, b2, b3, b4, b5, b6⟩ := aE_ok (by omega) a4
    exact ⟨len, a4, a2, a3, b2, b3, b5, b6⟩
theorem VO_lt4 {n x k i : Nat} (h : VO n x k i) (hk : k ≠ 13) : x < 4 := by
  rcases h with ⟨-, a2, -⟩ | ⟨a1, -⟩
  · exact absurd a2 hk
  · exact a1
theorem vR_pos {x k i : Nat} (h : i ≠ 0) : vR x k i = Sum.inr (Sum.inr (Sum.inl (some (x, k, i)))) := by unfold vR; rw [if_neg h]
theorem xp_lt {k s x : Nat} (h : x < 4) : xp k s x < 4 := by
  unfold xp
  split <;> omega
theorem xp_ne {k s x : Nat} (h : ¬ k = 11) : xp k s x = x := if_neg fun q => h q.1
theorem vR_0 {x k : Nat} : vR x k 0 = vN := rfl
theorem VV_rdv {M : Mem} {x k i s : Nat} (hW : WF M) (hx : x < 4) (hV : VO M.2.1 x k i) : VV M.2.1 (rdv M x k i s (tyS k s)) ∧ NJ (rdv M x k i s (tyS k s)) := by
  rcases ht : tyS k s with _ | _ | _ | j
  · exact nI1
  · exact nI1
  · exact nL1
  · show VV M.2.1 (vR (xp k s x) j (gR M x k i s)) ∧ NJ (vR (xp k s x) j (gR M x k i s))
    by_cases h0 : gR M x k i s = 0
    · rw [h0]; exact nN1
    · rw [vR_pos h0]
      exact ⟨hW x k i s j hx hV ht h0, trivial⟩
theorem ent_obj {G : wG} {M : Mem} {a x k i len : Nat} (h : aE a = (x, k, i, len)) (hk : k < 13) : ent G M a = .inr (k, (List.range len).map fun s => cv G (rdv M x k i s (tyS k s))) := by
  unfold ent
  rw [h]
  exact if_pos hk
theorem ent_arr {G : wG} {M : Mem} {a x k i len : Nat} (h : aE a = (x, k, i, len)) (hk : ¬ k < 13) : ent G M a = .inl (gY G k, len, if k = 14 then .inr (.inl (gJ M x k i)) else if k = 13 ∨ k = 15 then .inl (gI M x k i) else .inr (.inr (.inr (.inr (fun s => rfo G x (elK k - 3) (gR M x k i s)))))) := by
  unfold ent
  rw [h]
  exact if_neg hk
theorem cv_vR {G : wG} {x j r : Nat} : cv G (vR x j r) = va_rf (rfo G x j r) := by
  unfold vR rfo
  by_cases h : r = 0
  · rw [if_pos h, if_pos h]; rfl
  · rw [if_neg h, if_neg h]; rfl
theorem inb_vp {j : Int32} {n : Nat} (h : inb j n) : vp_in j n := by
  intro q
  rcases q with q | q
  · rw [Int32.lt_iff_toInt_lt] at q
    have h1 := h.1
    rw [Int32.le_iff_toInt_le] at h1
    omega
  · exact Nat.not_le.mpr h.2 q
section Steps2
variable {G : wG} {p : Program} {l : Launch} {e : Env} {R : Room} {s : State} {m : MethodId} {args : Array Value} {below : List Frame} {meth : Method} {c : Code} {H : Heap} {locs : List Loc} {cells slots : Nat} {Q : State → Prop}
variable {k pc : Nat} {la sa : List AV} {M : Mem} {ls : Array Slot} {st : List Value}
theorem Fr_K (F : Fr G p l s m args meth c k) : va_K (gD G) vwCl (tysG G) s := F.2.2.2.2.2.2.2.2.1.1.moved F.2.2.2.2.2.2.2.2.2.1.alike
theorem tys_at {k : Nat} (h : 13 ≤ k ∧ k < 22) : (tysG G)[k - 13]? = some (gY G k, aTy k) := by
  have : k = 13 ∨ k = 14 ∨ k = 15 ∨ k = 16 ∨ k = 17 ∨ k = 18 ∨ k = 19 ∨ k = 20 ∨ k = 21 := by omega
  rcases this with h | h | h | h | h | h | h | h | h <;> (subst h; rfl)

theorem go_get (F : Fr G p l s m args meth c k) (hr : RC G k M la sa s H locs ls st) {q K S t f ps x i : Nat} {st' : List AV} (hp : pF (mO k) q = some (K, S, t, f, ps)) (hsa : sa = Sum.inr (Sum.inr (Sum.inl (some (x, K, i)))) :: st') (hd : decode (mB k) pc = .ok (.getfield q, 3))
    (kk : RC G k M la (rdv M x K i S t :: st') s H locs ls (cv G (rdv M x K i S t) :: st'.map (cv G)) → W p l e R s m args below meth c H locs cells slots Q (F0 m (pc + 3) ls (cv G (rdv M x K i S t) :: st'.map (cv G)))) : W p l e R s m args below meth c H locs cells slots Q (F0 m pc ls st) := by
  obtain ⟨hx, hb, hml, hret, hown, hts, hlk, hnm, hG0, hwm, hold, hsz⟩ := id F
  obtain ⟨hK13, hS, hty, hlink, hcl, hfin, hf1, htok⟩ := pF_ok hp
  subst hsa
  have hin := RC_in hr
  obtain rfl := RC_eq hr
  have hV : VO M.2.1 x K i := (alh hin).1
  have hx4 := VO_lt4 hV (by omega)
  obtain ⟨len, ha, han, hnN, hk22, hi0, hlen, -⟩ := VO_at hV hx4
  have hlen := hlen hK13
  subst hlen
  obtain ⟨hP, hWF, hN, hsize, hlow, hL, hxs⟩ := id hr.1
  have he := WL_at (G := G) han
  rw [ent_obj ha hK13] at he
  have hcad : cad G x K i = gB G + ad x K i := if_neg (by omega)
  show W p l e R s m args below meth c H locs cells slots Q (F0 m pc ls (.ref (cad G x K i) :: st'.map (cv G)))
  rw [hcad]
  subst hty
  refine va_get hx hb hts (uws_in hK13) hown (Fr_K F) hP (ad x K i) he (vwCl_at hK13) S hS (hts _ hlink) (fun z hz => by rw [hcl] at hz; exact hz) (v := cv G (rdv M x K i S (tyS K S))) ?_ hd (kk ?_)
  · rw [List.getElem?_map, List.getElem?_range hS]; rfl
  · exact ⟨hr.1, hr.2.1, hr.2.2.1, hr.2.2.2.1, rfl, hr.2.2.2.2.2.1, al1 (VV_rdv hWF hx4 hV) (alt hin)⟩
theorem go_aget (F : Fr G p l s m args meth c k) (hr : RC G k M la sa s H locs ls st) {t : Nat → Bool} {K x i : Nat} {j : Int32} {st' : List AV} {ins : Instr} (hsa : sa = vI j :: Sum.inr (Sum.inr (Sum.inl (some (x, K, i)))) :: st') (hj : inb j (lenA M x K i)) (hd : decode (mB k) pc = .ok (ins, 1)) (hi1 : x = 4 → i = 1)
    (ht : (ins = .iaload ∧ K = 13) ∨ (False ∧ K = 15) ∨ (ins = .laload ∧ K = 14) ∨ (ins = .aaload ∧ 16 ≤ K ∧ K < 22))
    (kk : RC G k M la (rdv M x K i j.toNatClampNeg (elK K) :: st') s H locs ls (cv G (rdv M x K i j.toNatClampNeg (elK K)) :: st'.map (cv G)) → W p l e R s m args below meth c H locs cells slots Q (F0 m (pc + 1) ls (cv G (rdv M x K i j.toNatClampNeg (elK K)) :: st'.map (cv G)))) : W p l e R s m args below meth c H locs cells slots Q (F0 m pc ls st) := by
  obtain ⟨hx, hb, hml, hret, hown, hts, hlk, hnm, hG0, hwm, hold, hsz⟩ := id F
  subst hsa
  have hin := RC_in hr
  obtain rfl := RC_eq hr
  have hV : VO M.2.1 x K i := (alh (alt hin)).1
  obtain ⟨hP, hWF, hN, hsize, hlow, hL, hxs⟩ := id hr.1
  by_cases hx4 : x = 4
  · subst hx4
    have hi := hi1 rfl
    subst hi
    have hK : K = 13 := by
      rcases hV with ⟨-, a2, -⟩ | ⟨a1, -⟩
      · exact a2
      · omega
    subst hK
    have hins : ins = .iaload := by
      rcases ht with ⟨a, -⟩ | ⟨-, a⟩ | ⟨-, a⟩ | ⟨-, a, -⟩
      · exact a
      · cases a
      · cases a
      · omega
    subst hins
    have hLL : lenA M 4 13 1 = G.2.2.1 := hL
    rw [hLL] at hj
    obtain ⟨hk0, hX, hbB, hL9⟩ := id hG0
    have hXs : va_X G.2.1 G.2.2.1 G.2.2.2.1 s s.heap := by
      obtain ⟨scr, h1, h2, h3, h4, h5⟩ := hX
      exact ⟨scr, (hold _ hbB).trans h1, State.isArrayOf_alike hwm.alike h2, h3, h4, h5⟩
    have hv : cv G (rdv M 4 13 1 j.toNatClampNeg (elK 13)) = .int (G.2.2.2.1 j.toNatClampNeg) := by
      show Value.int (gI M 4 13 1 j.toNatClampNeg) = _
      rw [hxs]
    have kk' := kk ⟨hr.1, hr.2.1, hr.2.2.1, hr.2.2.2.1, rfl, hr.2.2.2.2.2.1, al1 nI1 (alt (alt hin))⟩
    rw [hv] at kk'
    exact va_sld hx hb hXs (Nat.lt_of_lt_of_le hbB hsz) (fun q => Nat.not_le.mpr hbB q) hr.2.1 (inb_vp hj) hd kk'
  · have hx4' : x < 4 := by
      rcases hV with ⟨a1, -⟩ | ⟨a1, -⟩
      · omega
      · exact a1
    obtain ⟨len, ha, han, hnN, hk22, hi0, hlen, -⟩ := VO_at hV hx4'
    have hlA : lenA M x K i = len := by
      unfold lenA
      rw [if_neg hx4, ha]
    rw [hlA] at hj
    have he := WL_at (G := G) han
    have hcad : cad G x K i = gB G + ad x K i := if_neg hx4
    show W p l e R s m args below meth c H locs cells slots Q (F0 m pc ls (.int j :: .ref (cad G x K i) :: st'.map (cv G)))
    rw [hcad]
    have hK13 : ¬ K < 13 := by
      rcases ht with ⟨-, a⟩ | ⟨-, a⟩ | ⟨-, a⟩ | ⟨-, a, -⟩ <;> omega
    have htS : ∀ s9, tyS K s9 = elK K := fun s9 => if_neg hK13
    have hVr : VV M.2.1 (rdv M x K i j.toNatClampNeg (elK K)) ∧ NJ (rdv M x K i j.toNatClampNeg (elK K)) := by
      have h9 := VV_rdv (s := j.toNatClampNeg) hWF hx4' hV
      rw [htS] at h9
      exact h9
    have kk' := kk ⟨hr.1, hr.2.1, hr.2.2.1, hr.2.2.2.1, rfl, hr.2.2.2.2.2.1, al1 hVr (alt (alt hin))⟩
    rw [ent_arr ha hK13] at he
    have hty := tys_at (G := G) (k := K) ⟨by omega, hk22⟩
    rcases ht with ⟨a, b⟩ | ⟨a, b⟩ | ⟨a, b⟩ | ⟨a, b, b2⟩
    · subst a; subst b
      exact va_iald hx hb (Fr_K F) hP (ad x 13 i) 0 he hty (inb_vp hj) hd kk'
    · exact a.elim
    · subst a; subst b
      exact va_lald hx hb (Fr_K F) hP (ad x 14 i) 1 he hty (inb_vp hj) hd kk'
    · subst a
      have hr9 : cv G (rdv M x K i j.toNatClampNeg (elK K)) = va_rf (rfo G x (elK K - 3) (gR M x K i j.toNatClampNeg)) := by
        have e3 : ∃ z, elK K = z + 3 := by
          have : K = 16 ∨ K = 17 ∨ K = 18 ∨ K = 19 ∨ K = 20 ∨ K = 21 := by omega
          rcases this with h | h | h | h | h | h <;> (subst h; exact ⟨_, rfl⟩)
        obtain ⟨z, hz⟩ := e3
        rw [hz]
        show cv G (vR (xp K j.toNatClampNeg x) z _) = _
        rw [xp_ne (by omega)]
        exact cv_vR
      rw [hr9] at kk'
      rw [if_neg (by omega), if_neg (by omega)] at he
      have hlt : j.toNatClampNeg < len := hj.2
      obtain ⟨hAr, -⟩ := (Fr_K F).2 (K - 13) _ hty
      refine W.aald (v := va_rf (rfo G x (elK K - 3) (gR M x K i j.toNatClampNeg))) (ty := aTy K) hx hb (hP _ _ he) (hAr len (fun z => va_rf (rfo G x (elK K - 3) (gR M x K i z)))) ?_ (fun q => by cases q) ?_ ?_ rfl rfl hd kk'
      · have : K = 16 ∨ K = 17 ∨ K = 18 ∨ K = 19 ∨ K = 20 ∨ K = 21 := by omega
        rcases this with h | h | h | h | h | h <;> (subst h; rfl)
      · show ¬ (j < 0 ∨ (arrV _ _ _).slots.size ≤ _)
        rw [arrV_size]
        exact inb_vp hj
      · show (arrV _ _ _).slots[_]? = _
        rw [arrV_read _ _ hlt]
theorem go_alen (F : Fr G p l s m args meth c k) (hr : RC G k M la sa s H locs ls st) {K x i : Nat} {st' : List AV} (hsa : sa = Sum.inr (Sum.inr (Sum.inl (some (x, K, i)))) :: st') (hK : 13 ≤ K) (hd : decode (mB k) pc = .ok (.arraylength, 1)) (hi1 : x = 4 → i = 1)
    (kk : RC G k M la (vI (Int32.ofNat (lenA M x K i)) :: st') s H locs ls (.int (Int32.ofNat (lenA M x K i)) :: st'.map (cv G)) → W p l e R s m args below meth c H locs cells slots Q (F0 m (pc + 1) ls (.int (Int32.ofNat (lenA M x K i)) :: st'.map (cv G)))) : W p l e R s m args below meth c H locs cells slots Q (F0 m pc ls st) := by
  obtain ⟨hx, hb, hml, hret, hown, hts, hlk, hnm, hG0, hwm, hold, hsz⟩ := id F
  subst hsa
  have hin := RC_in hr
  obtain rfl := RC_eq hr
  have hV : VO M.2.1 x K i := (alh hin).1
  obtain ⟨hP, hWF, hN, hsize, hlow, hL, hxs⟩ := id hr.1
  have kk' := kk ⟨hr.1, hr.2.1, hr.2.2.1, hr.2.2.2.1, rfl, hr.2.2.2.2.2.1, al1 nI1 (alt hin)⟩
  by_cases hx4 : x = 4
  · subst hx4
    have hi := hi1 rfl
    subst hi
    have hLL : lenA M 4 K 1 = G.2.2.1 := hL
    rw [hLL] at kk'
    obtain ⟨hk0, hX, hbB, hL9⟩ := id hG0
    have hXs : va_X G.2.1 G.2.2.1 G.2.2.2.1 s s.heap := by
      obtain ⟨scr, h1, h2, h3, h4, h5⟩ := hX
      exact ⟨scr, (hold _ hbB).trans h1, State.isArrayOf_alike hwm.alike h2, h3, h4, h5⟩
    exact va_slen hx hb hXs (Nat.lt_of_lt_of_le hbB hsz) (fun q => Nat.not_le.mpr hbB q) hr.2.1 hd kk'
  · have hx4' : x < 4 := by
      rcases hV with ⟨a1, -⟩ | ⟨a1, -⟩
      · omega
      · exact a1
    obtain ⟨len, ha, han, hnN, hk22, hi0, hlen, -⟩ := VO_at hV hx4'
    have hlA : lenA M x K i = len := by
      unfold lenA
      rw [if_neg hx4, ha]
    have he := WL_at (G := G) han
    have hcad : cad G x K i = gB G + ad x K i := if_neg hx4
    show W p l e R s m args below meth c H locs cells slots Q (F0 m pc ls (.ref (cad G x K i) :: st'.map (cv G)))
    rw [hcad]
    rw [ent_arr ha (by omega)] at he
    have hty := tys_at (G := G) (k := K) ⟨hK, hk22⟩
    exact va_alen hx hb (Fr_K F) hP (ad x K i) (K - 13) he hty (by rw [hlA]) hd kk'
end Steps2
