/-! the evaluator in use: code tables, cuts, the seven sorts of methods -/
def consec : List Row → Bool
  | r :: r' :: t => decide (r'.1 = r.1 + r.2.2.1) && consec (r' :: t)
  | _ => true
theorem consec_s : ∀ {tab : List Row}, consec tab = true → ∀ {r r' : Row} {rest : List Row}, (r :: r' :: rest) <:+ tab → r'.1 = r.1 + r.2.2.1
  | [], _, r, r', rest, h => by
    have := h.length_le
    simp at this
  | [a], _, r, r', rest, h => by
    have := h.length_le
    simp at this
  | a :: b :: t, hc, r, r', rest, h => by
    unfold consec at hc
    simp only [Bool.and_eq_true, decide_eq_true_eq] at hc
    rcases List.suffix_cons_iff.mp h with h1 | h1
    · injection h1 with h2 h3
      injection h3 with h4 h5
      rw [h2, h4]
      exact hc.1
    · exact consec_s hc.2 h1
theorem tab_ok {w k rt : Nat} {cs : List Cal} {sg : List Sig} {tab : List Row} {K : List (Nat × Instr × Nat)} (hsg : cs.map sgC = sg) (hm : tab.map (fun r => (r.1, r.2.1, r.2.2.1)) = K) (hd : ∀ {j pc len : Nat} {i : Instr}, K[j]? = some (pc, i, len) → decode (mB k) pc = .ok (i, len)) (hr : tab.all (rok w k rt sg) = true) (hc : consec tab = true) : TabOK w k rt cs tab := by
  refine ⟨fun r h => ⟨?_, hsg ▸ List.all_eq_true.mp hr r h⟩, fun r r' rest h => consec_s hc h⟩
  obtain ⟨j, hj⟩ := List.mem_iff_getElem?.mp h
  refine hd (j := j) (pc := r.1) (i := r.2.1) (len := r.2.2.1) ?_
  rw [← hm, List.getElem?_map, hj]
  rfl
theorem zpc_frm (tab : List Row) (q : Nat) : zpc (frm tab q) q := by
  cases h : frm tab q with
  | nil => trivial
  | cons r rest => exact frm_hd tab q r rest h
/-- shapes: 0 int, 1 long, 2 anything, 3 the constant n, 4 + K a reference of kind K, 100 + K that of number n -/
def tk2 (v : ZV) (t : Nat) (n : Int) : Bool := match t with
  | 0 => tck v 0
  | 1 => tck v 1
  | 2 => true
  | 3 => (match v with
    | .inl m => decide (m = n)
    | _ => false)
  | t + 4 => (match v with
    | .inr (.inr (.inr (.inl (k, i)))) => (match Nat.ble 96 t with
      | true => Nat.beq k (t - 96) && Nat.beq i n.toNat
      | false => Nat.beq k t)
    | _ => false)
def tc2 : List ZV → List (Nat × Int) → Bool
  | [], [] => true
  | v :: r, t :: ts => tk2 v t.1 t.2 && tc2 r ts
  | _, _ => false
def mk1 (la : List ZV) (j t : Nat) (n : Int) : ZV := match t with
  | 0 => zI (ai la j)
  | 1 => zL (al la j)
  | 2 => zld la j
  | 3 => zC n
  | t + 4 => (match Nat.ble 96 t with
    | true => zR (t - 96) n.toNat
    | false => zR t (ar la j))
def mkL (la : List ZV) : Nat → List (Nat × Int) → List ZV
  | _, [] => []
  | j, t :: ts => mk1 la j t.1 t.2 :: mkL la (j + 1) ts
theorem mk1_s {v : ZV} {la : List ZV} {j t : Nat} {n : Int} (hv : la[j]? = some v) (h : tk2 v t n = true) (x : Nat) : em x v = em x (mk1 la j t n) := by
  have hg : la.getD j zJ = v := by rw [List.getD_eq_getElem?_getD, hv]; rfl
  match t, h with
  | 0, h =>
    show _ = em x (zI (ai la j))
    unfold ai
    rw [hg]
    rcases v with m | y | y | ⟨k, i⟩ | u <;> first | rfl | (cases h)
  | 1, h =>
    show _ = em x (zL (al la j))
    unfold al
    rw [hg]
    rcases v with m | y | y | ⟨k, i⟩ | u <;> first | rfl | (cases h)
  | 2, h =>
    show _ = em x (zld la j)
    unfold zld
    rw [hg]
  | 3, h =>
    rcases v with m | y | y | ⟨k, i⟩ | u
    · have h1 : m = n := of_decide_eq_true h
      rw [h1]
      rfl
    all_goals cases h
  | t + 4, h =>
    rcases v with m | y | y | ⟨k, i⟩ | u
    · cases h
    · cases h
    · cases h
    · have h1 : (match Nat.ble 96 t with
        | true => Nat.beq k (t - 96) && Nat.beq i n.toNat
        | false => Nat.beq k t) = true := h
      show _ = em x (match Nat.ble 96 t with
        | true => zR (t - 96) n.toNat
        | false => zR t (ar la j))
      cases hb : Nat.ble 96 t with
      | true =>
        rw [hb] at h1
        simp only [Bool.and_eq_true] at h1
        rw [Nat.eq_of_beq_eq_true h1.1, Nat.eq_of_beq_eq_true h1.2]
        rfl
      | false =>
        rw [hb] at h1
        rw [Nat.eq_of_beq_eq_true h1]
        show em x (zR t i) = em x (zR t (ar la j))
        unfold ar
        rw [hg]
    · cases h
theorem mkL_s {la : List ZV} {x : Nat} : ∀ {ts : List (Nat × Int)} {r : List ZV} {j : Nat}, la.drop j = r → tc2 r ts = true → r.map (em x) = (mkL la j ts).map (em x)
  | [], [], _, _, _ => rfl
  | [], _ :: _, _, _, h => by cases h
  | _ :: _, [], _, _, h => by cases h
  | t :: ts, v :: r, j, hd, h => by
    unfold tc2 at h
    simp only [Bool.and_eq_true] at h
    have hv : la[j]? = some v := by
      have h1 : (la.drop j)[0]? = some v := by rw [hd]; rfl
      rw [List.getElem?_drop] at h1
      simpa using h1
    have hr : la.drop (j + 1) = r := by
      have h1 : (la.drop j).drop 1 = r := by rw [hd]; rfl
      rw [List.drop_drop] at h1
      exact h1
    show em x v :: r.map (em x) = em x (mk1 la j t.1 t.2) :: (mkL la (j + 1) ts).map (em x)
    rw [mk1_s hv h.1 x, mkL_s hr h.2]
theorem ZJ_em {w k pc : Nat} {la sa la' sa' : List ZV} {p : PM} {r : Option ZV × PM} (h1 : ∀ x, la.map (em x) = la'.map (em x)) (h2 : ∀ x, sa.map (em x) = sa'.map (em x)) (h : ZJ w k pc la' sa' p r) : ZJ w k pc la sa p r := ⟨fun x M hx => by rw [h1 x, h2 x]; exact h.1 x M hx, h.2⟩
theorem zcut {w k pc : Nat} {la sa : List ZV} {p : PM} {r : Option ZV × PM} {ts ts' : List (Nat × Int)} {G : Prop} (H : zsw (tc2 la ts && tc2 sa ts') False G) (h : G → ZJ w k pc (mkL la 0 ts) (mkL sa 0 ts') p r) : ZJ w k pc la sa p r := by
  refine zsw_r (R := Prop) (Z := fun _ => ZJ w k pc la sa p r) (jk := True) (V := True) (fun hb H1 => ?_) H
  simp only [Bool.and_eq_true] at hb
  exact ZJ_em (fun x => mkL_s rfl hb.1) (fun x => mkL_s rfl hb.2) (h H1)
section ZU
variable {σ R : Type}
def cutsOK (w k : Nat) (pm : σ → PM) (h : R → Option ZV × PM) : List Nat → List (List ZV → List ZV → σ → R) → List (List ZV → List ZV → σ → Prop) → Prop
  | [], [], [] => True
  | pc :: pcs, κ :: ks, g :: gs => (∀ la sa s, Gr w (pm s) → g la sa s → ZJ w k pc la sa (pm s) (h (κ la sa s))) ∧ cutsOK w k pm h pcs ks gs
  | _, _, _ => False
def cutpc (pcs : List Nat) (tab : List Row) : Bool := tab.all fun r => match r.2.2.2.1 with
  | 0 => true
  | q + 1 => (match pcs[q]? with
    | some pc => Nat.beq pc r.1
    | none => false)
theorem cuts_s {w k : Nat} {pm : σ → PM} {h : R → Option ZV × PM} : ∀ {pcs : List Nat} {ks : List (List ZV → List ZV → σ → R)} {gs : List (List ZV → List ZV → σ → Prop)}, cutsOK w k pm h pcs ks gs → pcs.length = ks.length ∧ ks.length = gs.length ∧ ∀ (q pc : Nat) κ g, pcs[q]? = some pc → ks[q]? = some κ → gs[q]? = some g → ∀ la sa s, Gr w (pm s) → g la sa s → ZJ w k pc la sa (pm s) (h (κ la sa s))
  | [], [], [], _ => ⟨rfl, rfl, fun q pc κ g h1 => by simp at h1⟩
  | pc :: pcs, κ :: ks, g :: gs, H => by
    obtain ⟨h1, h2⟩ := H
    obtain ⟨h3, h4, h5⟩ := cuts_s h2
    refine ⟨by simp [h3], by simp [h4], fun q pc' κ' g' q1 q2 q3 => ?_⟩
    cases q with
    | zero =>
      cases q1
      cases q2
      cases q3
      exact h1
    | succ q => exact h5 q pc' κ' g' q1 q2 q3
  | [], [], _ :: _, H => H.elim
  | [], _ :: _, _, H => H.elim
  | _ :: _, [], _, H => H.elim
  | _ :: _, _ :: _, [], H => H.elim
theorem zE_u {w k rt q : Nat} {cs : List Cal} {pm : σ → PM} {up : σ → PM → Option σ} {jV : R} {rI : Int32 → σ → R} {rL : Int64 → σ → R} {rR : Nat → σ → R} {rV : σ → R} {h : R → Option ZV × PM} {tab : List Row} {pcs : List Nat} {ks : List (List ZV → List ZV → σ → R)} {gs : List (List ZV → List ZV → σ → Prop)} {la sa : List ZV} {s : σ} {n : Nat} (hcs : ∀ C ∈ cs, CalOK w C) (hup : ∀ s p s', up s p = some s' → pm s' = p) (hI : rt = 1 → ∀ v s, h (rI v s) = (some (zI v), pm s)) (hL : rt = 2 → ∀ v s, h (rL v s) = (some (zL v), pm s)) (hR : ∀ K, rt = 3 + K → ∀ i s, h (rR i s) = (some (zR K i), pm s)) (hV : rt = 0 → ∀ s, h (rV s) = (none, pm s)) (htab : TabOK w k rt cs tab) (hpc : cutpc pcs tab = true) (hks : cutsOK w k pm h pcs ks gs) (hg : Gr w (pm s)) (H : zE w cs pm up (fun g r => g ∧ r) False (fun _ _ => True) (fun _ _ => True) (fun _ _ => True) (fun _ => True) tab gs n true (frm tab q) la sa s) : ZJ w k q la sa (pm s) (h (zE w cs pm up (fun _ r => r) jV rI rL rR rV tab ks n true (frm tab q) la sa s)) := by
  obtain ⟨h1, h2, h3⟩ := cuts_s hks
  refine zE_s hcs hup hI hL hR hV htab (fun z κ g q1 q2 r hr hc la sa s hg H => ?_) h2 n true (frm tab q) q la sa s (frm_suf tab q) (zpc_frm tab q) hg H
  unfold cutpc at hpc
  have h5 := List.all_eq_true.mp hpc r hr
  rw [hc] at h5
  dsimp only at h5
  cases hz : pcs[z]? with
  | none => rw [hz] at h5; cases h5
  | some pc =>
    rw [hz] at h5
    have h6 : pc = r.1 := Nat.eq_of_beq_eq_true h5
    rw [← h6]
    exact h3 z pc κ g hz q1 q2 la sa s hg H
end ZU
def hoI (p : PM) (v : Int32) : Option ZV × PM := (some (zI v), p)
def hoL (p : PM) (v : Int64) : Option ZV × PM := (some (zL v), p)
def hoR (K : Nat) (p : PM) (v : Nat) : Option ZV × PM := (some (zR K v), p)
def hwI (r : Int32 × PM) : Option ZV × PM := (some (zI r.1), r.2)
def hwL (r : Int64 × PM) : Option ZV × PM := (some (zL r.1), r.2)
def hwR (K : Nat) (r : Nat × PM) : Option ZV × PM := (some (zR K r.1), r.2)
def hwV (r : PM) : Option ZV × PM := (none, r)
section ZRO
variable {w k q n : Nat} {cs : List Cal} {tab : List Row} {pcs : List Nat} {la sa : List ZV} {p : PM}
theorem roI {ks : List (List ZV → List ZV → Unit → Int32)} {gs : List (List ZV → List ZV → Unit → Prop)} (hcs : ∀ C ∈ cs, CalOK w C) (htab : TabOK w k 1 cs tab) (hpc : cutpc pcs tab = true) (hks : cutsOK w k (fun _ => p) (hoI p) pcs ks gs) (hg : Gr w p) (H : zE w cs (fun _ => p) (fun _ _ => none) (fun g r => g ∧ r) False (fun _ _ => True) (fun _ _ => True) (fun _ _ => True) (fun _ => True) tab gs n true (frm tab q) la sa ()) : ZJ w k q la sa p (hoI p (zE w cs (fun _ => p) (fun _ _ => none) (fun _ r => r) 0 (fun v _ => v) (fun _ _ => 0) (fun _ _ => 0) (fun _ => 0) tab ks n true (frm tab q) la sa ())) :=
  zE_u (pm := fun _ => p) (h := hoI p) hcs (fun _ _ _ h => by cases h) (fun _ _ _ => rfl) (fun h => absurd h (by decide)) (fun K h => absurd h (by omega)) (fun h => absurd h (by decide)) htab hpc hks hg H
theorem roL {ks : List (List ZV → List ZV → Unit → Int64)} {gs : List (List ZV → List ZV → Unit → Prop)} (hcs : ∀ C ∈ cs, CalOK w C) (htab : TabOK w k 2 cs tab) (hpc : cutpc pcs tab = true) (hks : cutsOK w k (fun _ => p) (hoL p) pcs ks gs) (hg : Gr w p) (H : zE w cs (fun _ => p) (fun _ _ => none) (fun g r => g ∧ r) False (fun _ _ => True) (fun _ _ => True) (fun _ _ => True) (fun _ => True) tab gs n true (frm tab q) la sa ()) : ZJ w k q la sa p (hoL p (zE w cs (fun _ => p) (fun _ _ => none) (fun _ r => r) 0 (fun _ _ => 0) (fun v _ => v) (fun _ _ => 0) (fun _ => 0) tab ks n true (frm tab q) la sa ())) :=
  zE_u (pm := fun _ => p) (h := hoL p) hcs (fun _ _ _ h => by cases h) (fun h => absurd h (by decide)) (fun _ _ _ => rfl) (fun K h => absurd h (by omega)) (fun h => absurd h (by decide)) htab hpc hks hg H
theorem roR (K : Nat) {ks : List (List ZV → List ZV → Unit → Nat)} {gs : List (List ZV → List ZV → Unit → Prop)} (hcs : ∀ C ∈ cs, CalOK w C) (htab : TabOK w k (3 + K) cs tab) (hpc : cutpc pcs tab = true) (hks : cutsOK w k (fun _ => p) (hoR K p) pcs ks gs) (hg : Gr w p) (H : zE w cs (fun _ => p) (fun _ _ => none) (fun g r => g ∧ r) False (fun _ _ => True) (fun _ _ => True) (fun _ _ => True) (fun _ => True) tab gs n true (frm tab q) la sa ()) : ZJ w k q la sa p (hoR K p (zE w cs (fun _ => p) (fun _ _ => none) (fun _ r => r) 0 (fun _ _ => 0) (fun _ _ => 0) (fun v _ => v) (fun _ => 0) tab ks n true (frm tab q) la sa ())) :=
  zE_u (pm := fun _ => p) (h := hoR K p) hcs (fun _ _ _ h => by cases h) (fun h => absurd h (by omega)) (fun h => absurd h (by omega)) (fun K' h _ _ => by rw [show K' = K by omega]; rfl) (fun h => absurd h (by omega)) htab hpc hks hg H
theorem rwI {ks : List (List ZV → List ZV → PM → Int32 × PM)} {gs : List (List ZV → List ZV → PM → Prop)} (hcs : ∀ C ∈ cs, CalOK w C) (htab : TabOK w k 1 cs tab) (hpc : cutpc pcs tab = true) (hks : cutsOK w k (fun s => s) (hwI) pcs ks gs) (hg : Gr w p) (H : zE w cs (fun s => s) (fun _ p => some p) (fun g r => g ∧ r) False (fun _ _ => True) (fun _ _ => True) (fun _ _ => True) (fun _ => True) tab gs n true (frm tab q) la sa p) : ZJ w k q la sa p (hwI (zE w cs (fun s => s) (fun _ p => some p) (fun _ r => r) (0, p) (fun v s => (v, s)) (fun _ s => (0, s)) (fun _ s => (0, s)) (fun s => (0, s)) tab ks n true (frm tab q) la sa p)) :=
  zE_u (pm := fun s => s) (h := hwI) hcs (fun _ _ _ h => by cases h; rfl) (fun _ _ _ => rfl) (fun h => absurd h (by decide)) (fun K h => absurd h (by omega)) (fun h => absurd h (by decide)) htab hpc hks hg H
theorem rwL {ks : List (List ZV → List ZV → PM → Int64 × PM)} {gs : List (List ZV → List ZV → PM → Prop)} (hcs : ∀ C ∈ cs, CalOK w C) (htab : TabOK w k 2 cs tab) (hpc : cutpc pcs tab = true) (hks : cutsOK w k (fun s => s) (hwL) pcs ks gs) (hg : Gr w p) (H : zE w cs (fun s => s) (fun _ p => some p) (fun g r => g ∧ r) False (fun _ _ => True) (fun _ _ => True) (fun _ _ => True) (fun _ => True) tab gs n true (frm tab q) la sa p) : ZJ w k q la sa p (hwL (zE w cs (fun s => s) (fun _ p => some p) (fun _ r => r) (0, p) (fun _ s => (0, s)) (fun v s => (v, s)) (fun _ s => (0, s)) (fun s => (0, s)) tab ks n true (frm tab q) la sa p)) :=
  zE_u (pm := fun s => s) (h := hwL) hcs (fun _ _ _ h => by cases h; rfl) (fun h => absurd h (by decide)) (fun _ _ _ => rfl) (fun K h => absurd h (by omega)) (fun h => absurd h (by decide)) htab hpc hks hg H
theorem rwR (K : Nat) {ks : List (List ZV → List ZV → PM → Nat × PM)} {gs : List (List ZV → List ZV → PM → Prop)} (hcs : ∀ C ∈ cs, CalOK w C) (htab : TabOK w k (3 + K) cs tab) (hpc : cutpc pcs tab = true) (hks : cutsOK w k (fun s => s) (hwR K) pcs ks gs) (hg : Gr w p) (H : zE w cs (fun s => s) (fun _ p => some p) (fun g r => g ∧ r) False (fun _ _ => True) (fun _ _ => True) (fun _ _ => True) (fun _ => True) tab gs n true (frm tab q) la sa p) : ZJ w k q la sa p (hwR K (zE w cs (fun s => s) (fun _ p => some p) (fun _ r => r) (0, p) (fun _ s => (0, s)) (fun _ s => (0, s)) (fun v s => (v, s)) (fun s => (0, s)) tab ks n true (frm tab q) la sa p)) :=
  zE_u (pm := fun s => s) (h := hwR K) hcs (fun _ _ _ h => by cases h; rfl) (fun h => absurd h (by omega)) (fun h => absurd h (by omega)) (fun K' h _ _ => by rw [show K' = K by omega]; rfl) (fun h => absurd h (by omega)) htab hpc hks hg H
theorem rwV {ks : List (List ZV → List ZV → PM → PM)} {gs : List (List ZV → List ZV → PM → Prop)} (hcs : ∀ C ∈ cs, CalOK w C) (htab : TabOK w k 0 cs tab) (hpc : cutpc pcs tab = true) (hks : cutsOK w k (fun s => s) (hwV) pcs ks gs) (hg : Gr w p) (H : zE w cs (fun s => s) (fun _ p => some p) (fun g r => g ∧ r) False (fun _ _ => True) (fun _ _ => True) (fun _ _ => True) (fun _ => True) tab gs n true (frm tab q) la sa p) : ZJ w k q la sa p (hwV (zE w cs (fun s => s) (fun _ p => some p) (fun _ r => r) p (fun _ s => s) (fun _ s => s) (fun _ s => s) (fun s => s) tab ks n true (frm tab q) la sa p)) :=
  zE_u (pm := fun s => s) (h := hwV) hcs (fun _ _ _ h => by cases h; rfl) (fun h => absurd h (by decide)) (fun h => absurd h (by decide)) (fun K h => absurd h (by omega)) (fun _ _ => rfl) htab hpc hks hg H
end ZRO
