/-! steps that make objects; a memory of which one part grows -/
def pN (p : PM) (k i : Nat) : PM := (z2 p.1 k i 0, z2 p.2.1 k i 0, z2 p.2.2 k i 0)
/-- part x is p, the others B; n objects are made -/
def cMm (x : Nat) (p : PM) (n : Nat) (B : Nat → PM) (L : Nat) : Mem := (fun y => if y = x then p else B y, (n, L, 0))
section CM
variable {x n L K i S v : Nat} {p p' : PM} {B : Nat → PM}
theorem cMm_x : (cMm x p n B L).1 x = p := if_pos rfl
theorem cMm_e {M : Mem} {q : PM} (h1 : ∀ y, M.1 y = if y = x then q else (cMm x p n B L).1 y) (h2 : M.2 = (n, L, 0)) : M = cMm x q n B L := Prod.ext (funext fun y => by
  rw [h1 y]
  show (if y = x then q else (if y = x then p else B y)) = (if y = x then q else B y)
  by_cases h : y = x
  · rw [if_pos h, if_pos h]
  · rw [if_neg h, if_neg h, if_neg h]) h2
theorem cMm_N : sN (cMm x p n B L) x K i = cMm x (pN p K i) (n + 1) B L := Prod.ext (funext fun y => by
  show (if y = x then (z2 ((cMm x p n B L).1 x).1 K i 0, z2 ((cMm x p n B L).1 x).2.1 K i 0, z2 ((cMm x p n B L).1 x).2.2 K i 0) else (if y = x then p else B y)) = (if y = x then pN p K i else B y)
  rw [cMm_x]
  by_cases h : y = x
  · rw [if_pos h, if_pos h]; rfl
  · rw [if_neg h, if_neg h, if_neg h]) rfl
theorem cMm_P : sP (cMm x p n B L) x p' = cMm x p' n B L := cMm_e (fun y => rfl) rfl
theorem cMm_R : sR (cMm x p n B L) x K i S v = cMm x (pR p K i S v) n B L := by
  unfold sR
  rw [cMm_x, cMm_P]
  rfl
theorem cMm_I {v : Int32} : sI (cMm x p n B L) x K i S v = cMm x (pI p K i S v) n B L := by
  unfold sI
  rw [cMm_x, cMm_P]
  rfl
end CM
theorem nNew_e {k pc x K i len : Nat} {la st : List AV} {M : Mem} (ha : aE M.2.1 = (x, K, i, len)) (hz : M.2.2.2 = 0) (hi : ¬ i = 0) : nNew k pc la st M K len = go k pc la (rR x K i :: st) (sN M x K i) := by
  unfold nNew
  rw [ha]
  dsimp only
  rw [if_pos ⟨rfl, rfl, hz⟩, vR_pos hi]
  rfl
section YC
variable {k : Nat} {tab : List YR} {pc : Nat} {la sa : List AV} {M : Mem} {r : Option (Out × Mem)}
theorem y_new (hk : T3OK k tab) (n pc' q : Nat) {c x K i : Nat} {z : Nat × Nat × Nat × Nat × Int} {t : List YR} {la' st : List AV} {M' M2 : Mem} (h : yS k tab n pc (frm3 tab pc) la sa M = go k pc' la' st M') (hi : frm3 tab pc' = (pc', .new c, 3, z) :: t) (hp : (pK (mO k) c).map (fun z => z.1) = some K) (hK : K < 13) (ha : aE M'.2.1 = (x, K, i, nfK K)) (hi0 : ¬ i = 0) (hz : M'.2.2.2 = 0) (hq : pc' + 3 = q) (hM : sN M' x K i = M2) (h2 : X k q la' (rR x K i :: st) M2 = r) : X k pc la sa M = r := by
  refine y_go hk n pc' h ?_
  subst hq hM
  refine Eq.trans (xr (i := .new c) (len := 3) (hd3 hk hi) rfl ?_) h2
  show nNewC k pc' c la' st M' = _
  unfold nNewC
  cases hpk : pK (mO k) c with
  | none => rw [hpk] at hp; cases hp
  | some w =>
    obtain ⟨K', ps⟩ := w
    rw [hpk] at hp
    have e : K' = K := by injection hp
    subst e
    dsimp only
    rw [if_pos hK]
    exact nNew_e ha hz hi0
theorem y_nar (hk : T3OK k tab) (n pc' q : Nat) {ins : Instr} {x K i m : Nat} {z : Nat × Nat × Nat × Nat × Int} {t : List YR} {la' st : List AV} {v : Int32} {M' M2 : Mem} (h : yS k tab n pc (frm3 tab pc) la sa M = go k pc' la' (vI v :: st) M') (hi : frm3 tab pc' = (pc', ins, 2, z) :: t) (hl : iln ins 2 = true) (hn : ∀ sa, nxi k pc' la' sa M' ins = nArr k (pc' + 2) la' sa M' K) (hv : 0 ≤ v) (hm : v.toNatClampNeg = m) (ha : aE M'.2.1 = (x, K, i, m)) (hi0 : ¬ i = 0) (hz : M'.2.2.2 = 0) (hq : pc' + 2 = q) (hM : sN M' x K i = M2) (h2 : X k q la' (rR x K i :: st) M2 = r) : X k pc la sa M = r := by
  refine y_go hk n pc' h ?_
  subst hq hM hm
  refine Eq.trans (xr (i := ins) (len := 2) (hd3 hk hi) hl ?_) h2
  rw [hn]
  show (if 0 ≤ v then nNew k (pc' + 2) la' st M' K v.toNatClampNeg else bad) = _
  rw [if_pos hv]
  exact nNew_e ha hz hi0
theorem y_ana (hk : T3OK k tab) (n pc' q : Nat) {c d x i m K : Nat} {z : Nat × Nat × Nat × Nat × Int} {t : List YR} {la' st : List AV} {v : Int32} {M' M2 : Mem} (h : yS k tab n pc (frm3 tab pc) la sa M = go k pc' la' (vI v :: st) M') (hi : frm3 tab pc' = (pc', .anewarray c, 3, z) :: t) (hp : (pK (mO k) c).map (fun z => z.1) = some d) (hd : d ∈ [0, 1, 4, 9, 10]) (hK : arK d = K) (hv : 0 ≤ v) (hm : v.toNatClampNeg = m) (ha : aE M'.2.1 = (x, K, i, m)) (hi0 : ¬ i = 0) (hz : M'.2.2.2 = 0) (hq : pc' + 3 = q) (hM : sN M' x K i = M2) (h2 : X k q la' (rR x K i :: st) M2 = r) : X k pc la sa M = r := by
  refine y_go hk n pc' h ?_
  subst hq hM hm hK
  refine Eq.trans (xr (i := .anewarray c) (len := 3) (hd3 hk hi) rfl ?_) h2
  show (match pK (mO k) c with
    | some (c, _) => if c ∈ [0, 1, 4, 9, 10] then nArr k (pc' + 3) la' (vI v :: st) M' (arK c) else bad
    | none => bad) = _
  cases hpk : pK (mO k) c with
  | none => rw [hpk] at hp; cases hp
  | some w =>
    obtain ⟨K', ps⟩ := w
    rw [hpk] at hp
    have e : K' = d := by injection hp
    subst e
    dsimp only
    rw [if_pos hd]
    show (if 0 ≤ v then nNew k (pc' + 3) la' st M' (arK K') v.toNatClampNeg else bad) = _
    rw [if_pos hv]
    exact nNew_e ha hz hi0
theorem y_mul (hk : T3OK k tab) (n pc' q : Nat) {c x K i len : Nat} {z : Nat × Nat × Nat × Nat × Int} {t : List YR} {la' st : List AV} {M' M2 : Mem} (h : yS k tab n pc (frm3 tab pc) la sa M = go k pc' la' (vI (cn 4) :: vI (cn 4) :: st) M') (hi : frm3 tab pc' = (pc', .multianewarray c 2, 4, z) :: t) (hp : (pK (mO k) c).map (fun z => z.1) = some 21) (hm : M'.2.1 ∈ mulA) (ha : aE M'.2.1 = (x, K, i, len)) (hi0 : ¬ i = 0) (hz : M'.2.2.2 = 0) (hq : pc' + 4 = q) (hM : mRows x K i 4 0 (sN M' x K i) = M2) (h2 : X k q la' (rR x K i :: st) M2 = r) : X k pc la sa M = r := by
  refine y_go hk n pc' h ?_
  subst hq hM
  refine Eq.trans (xr (i := .multianewarray c 2) (len := 4) (hd3 hk hi) rfl ?_) h2
  show nMul k (pc' + 4) c la' (vI (cn 4) :: vI (cn 4) :: st) M' = _
  have e4 : cn 4 = (4 : Int32) := by decide
  unfold nMul
  show (if cn 4 = 4 ∧ cn 4 = 4 ∧ _ ∧ _ ∧ _ then _ else bad) = _
  rw [if_pos ⟨e4, e4, hp, hm, hz⟩, ha]
  dsimp only
  rw [vR_pos hi0]
  rfl
theorem y_ptr (hk : T3OK k tab) (n pc' q j : Nat) {c x x' i' K i S T : Nat} {z : Nat × Int} {t : List YR} {la' st : List AV} {M' M2 : Mem} (h : yS k tab n pc (frm3 tab pc) la sa M = go k pc' la' (rR x' j i' :: rR x K i :: st) M') (hi : frm3 tab pc' = (pc', .putfield c, 3, K, S, T, z) :: t) (hT : j + 3 = T) (hx : x < 4) (hy : x' = xp K S x) (hq : pc' + 3 = q) (hM : sR M' x K i S i' = M2) (h2 : X k q la' st M2 = r) : X k pc la sa M = r := by
  refine y_go hk n pc' h ?_
  obtain ⟨h3, h4⟩ := row3 hk hi
  subst hq hM hT
  refine Eq.trans (xr (i := .putfield c) (len := 3) h3 rfl ?_) h2
  unfold rok3 at h4
  rw [Bool.and_eq_true] at h4
  replace h4 := h4.2
  dsimp only at h4
  split at h4
  · next K' S' t' f' zz hp =>
    simp only [Bool.and_eq_true, decide_eq_true_eq] at h4
    obtain ⟨⟨rfl, rfl, rfl⟩, hf⟩ := h4
    show nPut k pc' c la' (rR x' j i' :: rR x K' i :: st) M' = _
    have hw : wrv M' x K' i S' (j + 3) (rR x' j i') = some (sR M' x K' i S' i') := if_pos ⟨hy, rfl⟩
    unfold nPut
    rw [hp]
    refine (if_pos ⟨rfl, hx, hf⟩).trans ?_
    rw [hw]
  · cases h4
theorem y_aas (hk : T3OK k tab) (n pc' q j s : Nat) {x x' i' K i : Nat} {z : Nat × Nat × Nat × Nat × Int} {t : List YR} {la' st : List AV} {v : Int32} {M' M2 : Mem} (h : yS k tab n pc (frm3 tab pc) la sa M = go k pc' la' (rR x' j i' :: vI v :: rR x K i :: st) M') (hi : frm3 tab pc' = (pc', .aastore, 1, z) :: t) (hK : 16 ≤ K ∧ K < 21) (hT : elK K = j + 3) (hx : x < 4) (hy : x' = x) (hb : inb v (lenA M' x K i)) (hs : v.toNatClampNeg = s) (hq : pc' + 1 = q) (hM : sR M' x K i s i' = M2) (h2 : X k q la' st M2 = r) : X k pc la sa M = r := by
  refine y_go hk n pc' h ?_
  subst hq hM hy hs
  refine Eq.trans (xr (i := .aastore) (len := 1) (hd3 hk hi) rfl ?_) h2
  show nAput k pc' la' (rR x' j i' :: vI v :: rR x' K i :: st) M' (fun K => decide (16 ≤ K) && decide (K < 21)) = _
  have hw : wrv M' x' K i v.toNatClampNeg (elK K) (rR x' j i') = some (sR M' x' K i v.toNatClampNeg i') := by
    rw [hT]
    exact if_pos ⟨(xp_ne (by omega)).symm, rfl⟩
  refine (if_pos ⟨by dsimp only; rw [decide_eq_true hK.1, decide_eq_true hK.2]; rfl, hx, hb⟩).trans ?_
  rw [hw]
theorem y_aal (hk : T3OK k tab) (n pc' q j e : Nat) {x K i : Nat} {z : Nat × Nat × Nat × Nat × Int} {t : List YR} {la' st : List AV} {v : Int32} {M' : Mem} (h : yS k tab n pc (frm3 tab pc) la sa M = go k pc' la' (vI v :: rR x K i :: st) M') (hi : frm3 tab pc' = (pc', .aaload, 1, z) :: t) (hK : 16 ≤ K ∧ K < 22) (hT : elK K = j + 3) (hb : inb v (lenA M' x K i)) (hq : pc' + 1 = q) (hv : (M'.1 x).2.2 K i v.toNatClampNeg = e) (he : ¬ e = 0) (h2 : X k q la' (rR x j e :: st) M' = r) : X k pc la sa M = r := by
  refine y_go hk n pc' h ?_
  subst hq
  refine Eq.trans (xr (i := .aaload) (len := 1) (hd3 hk hi) rfl ?_) h2
  show nAget k pc' la' (vI v :: rR x K i :: st) M' (fun K => decide (16 ≤ K) && decide (K < 22)) = _
  refine (if_pos ⟨by dsimp only; rw [decide_eq_true hK.1, decide_eq_true hK.2]; rfl, hb⟩).trans ?_
  rw [hT]
  show go k (pc' + 1) la' (vR (xp K v.toNatClampNeg x) j (gR M' x K i v.toNatClampNeg) :: st) M' = _
  rw [xp_ne (by omega)]
  unfold gR
  rw [hv, vR_pos he]
  rfl
theorem y_div (hk : T3OK k tab) (n pc' q : Nat) {z : Nat × Nat × Nat × Nat × Int} {t : List YR} {la' st : List AV} {x y : Int32} {M' : Mem} (h : yS k tab n pc (frm3 tab pc) la sa M = go k pc' la' (vI y :: vI x :: st) M') (hi : frm3 tab pc' = (pc', .idiv, 1, z) :: t) (hy : ¬ y = 0) (hq : pc' + 1 = q) (h2 : X k q la' (vI (x / y) :: st) M' = r) : X k pc la sa M = r := by
  refine y_go hk n pc' h ?_
  subst hq
  refine Eq.trans (xr (i := .idiv) (len := 1) (hd3 hk hi) rfl ?_) h2
  show (if y = 0 then bad else go k (pc' + 1) la' (vI (x / y) :: st) M') = _
  rw [if_neg hy]
theorem y_rtv (hk : T3OK k tab) (n : Nat) {M' : Mem} (h : yS k tab n pc (frm3 tab pc) la sa M = hlt (.inl none) M') : X k pc la sa M = some (.inl none, M') := y_ret hk n h rfl
end YC
