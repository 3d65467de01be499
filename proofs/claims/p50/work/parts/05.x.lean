/-! X: what the interpreter answers, without fuel; a row an instruction -/
theorem exec_succ {n : Nat} : ∀ {c : Cfg} {r : Out × Mem}, exec n c = some r → exec (n + 1) c = some r := by
  induction n with
  | zero => intro c r h; cases h
  | succ n ih =>
    intro c r h
    rw [exec] at h ⊢
    generalize nx c = z at h ⊢
    rcases z with o | c' | ⟨c', k, pc, la, sa⟩
    · exact h
    · exact ih h
    · dsimp only at h ⊢
      cases h1 : exec n c' with
      | none => rw [h1] at h; cases h
      | some r1 =>
        rw [ih h1]
        rw [h1] at h
        dsimp only at h ⊢
        generalize aft k pc la sa r1 = z at h ⊢
        rcases z with o | c''
        · exact h
        · exact ih h
theorem exec_mono {n m : Nat} {c : Cfg} {r : Out × Mem} (hm : n ≤ m) (h : exec n c = some r) : exec m c = some r := by
  induction hm with
  | refl => exact h
  | step _ ih => exact exec_succ ih
theorem exec_det {n m : Nat} {c : Cfg} {r r' : Out × Mem} (h : exec n c = some r) (h' : exec m c = some r') : r = r' := by
  have a := exec_mono (Nat.le_max_left n m) h
  have b := exec_mono (Nat.le_max_right n m) h'
  exact Option.some.inj (a.symm.trans b)
noncomputable def Xc (c : Cfg) : Option (Out × Mem) := @dite _ (∃ n, (exec n c).isSome = true) (Classical.propDecidable _) (fun h => exec (Classical.choose h) c) (fun _ => none)
theorem Xc_iff {c : Cfg} {r : Out × Mem} : Xc c = some r ↔ ∃ n, exec n c = some r := by
  unfold Xc
  by_cases h : ∃ n, (exec n c).isSome = true
  · rw [dif_pos h]
    have h2 := Classical.choose_spec h
    generalize Classical.choose h = n0 at h2
    obtain ⟨r0, h3⟩ := Option.isSome_iff_exists.mp h2
    constructor
    · intro h4; exact ⟨_, h4⟩
    · rintro ⟨n, h4⟩
      rw [h3, exec_det h3 h4]
  · rw [dif_neg h]
    constructor
    · intro h1; cases h1
    · rintro ⟨n, h4⟩
      exact absurd ⟨n, by rw [h4]; rfl⟩ h
noncomputable def X (k pc : Nat) (la sa : List AV) (M : Mem) : Option (Out × Mem) := Xc (k, pc, la, sa, M)
theorem Xc_hlt {c : Cfg} {o : Option (Out × Mem)} (h : nx c = .inl o) : Xc c = o := by
  apply Option.ext
  intro r
  constructor
  · intro h1
    obtain ⟨n, h2⟩ := Xc_iff.mp h1
    cases n with
    | zero => cases h2
    | succ n => rw [exec, h] at h2; exact h2
  · intro h1
    exact Xc_iff.mpr ⟨1, by rw [exec, h]; exact h1⟩
theorem Xc_go {c c' : Cfg} (h : nx c = .inr (.inl c')) : Xc c = Xc c' := by
  apply Option.ext
  intro r
  constructor
  · intro h1
    obtain ⟨n, h2⟩ := Xc_iff.mp h1
    cases n with
    | zero => cases h2
    | succ n => rw [exec, h] at h2; exact Xc_iff.mpr ⟨n, h2⟩
  · intro h1
    obtain ⟨n, h2⟩ := Xc_iff.mp h1
    exact Xc_iff.mpr ⟨n + 1, by rw [exec, h]; exact h2⟩
/-- how a method goes on behind a call -/
noncomputable def rsm (k pc : Nat) (la sa : List AV) (o : Option (Out × Mem)) : Option (Out × Mem) := match o with
  | none => none
  | some r => match aft k pc la sa r with
    | .inl r' => r'
    | .inr c'' => Xc c''
theorem Xc_cal {c c' : Cfg} {k pc : Nat} {la sa : List AV} (h : nx c = .inr (.inr (c', (k, pc, la, sa)))) : Xc c = rsm k pc la sa (Xc c') := by
  apply Option.ext
  intro r
  constructor
  · intro h1
    obtain ⟨n, h2⟩ := Xc_iff.mp h1
    cases n with
    | zero => cases h2
    | succ n =>
      rw [exec, h] at h2
      dsimp only at h2
      cases h3 : exec n c' with
      | none => rw [h3] at h2; cases h2
      | some r1 =>
        rw [h3] at h2
        rw [Xc_iff.mpr ⟨n, h3⟩]
        unfold rsm
        dsimp only at h2 ⊢
        generalize aft k pc la sa r1 = a at h2 ⊢
        rcases a with o | c''
        · exact h2
        · exact Xc_iff.mpr ⟨n, h2⟩
  · intro h1
    cases h3 : Xc c' with
    | none => rw [h3] at h1; cases h1
    | some r1 =>
      rw [h3] at h1
      obtain ⟨n1, h4⟩ := Xc_iff.mp h3
      unfold rsm at h1
      dsimp only at h1
      generalize h6 : aft k pc la sa r1 = a at h1
      rcases a with o | c''
      · refine Xc_iff.mpr ⟨n1 + 1, ?_⟩
        rw [exec, h]
        dsimp only
        rw [h4]
        dsimp only
        rw [h6]
        exact h1
      · obtain ⟨n2, h5⟩ := Xc_iff.mp h1
        refine Xc_iff.mpr ⟨max n1 n2 + 1, ?_⟩
        rw [exec, h]
        dsimp only
        rw [exec_mono (Nat.le_max_left n1 n2) h4]
        dsimp only
        rw [h6]
        exact exec_mono (Nat.le_max_right n1 n2) h5
theorem rsm_v {k pc : Nat} {la sa : List AV} {v : AV} {M : Mem} : rsm k pc la sa (some (.inl (some v), M)) = X k pc la (v :: sa) M := rfl
theorem rsm_0 {k pc : Nat} {la sa : List AV} {M : Mem} : rsm k pc la sa (some (.inl none, M)) = X k pc la sa M := rfl
theorem rsm_n {k pc : Nat} {la sa : List AV} : rsm k pc la sa none = none := rfl
theorem rsm_t {k pc e : Nat} {la sa : List AV} {M : Mem} (hs : spc k (pc - 3) = false) (h : hnd k (pc - 3) e = none) : rsm k pc la sa (some (.inr e, M)) = some (.inr e, M) := by
  simp only [rsm, aft, hs, h]; rfl
theorem rsm_h {k pc e h j : Nat} {la sa : List AV} {M : Mem} (hs : spc k (pc - 3) = false) (hh : hnd k (pc - 3) e = some (h, j)) (hj : j < la.length) : rsm k pc la sa (some (.inr e, M)) = X k h (st1 la j vJ) [] M := by
  simp only [rsm, aft, hs, hh, if_pos hj]; rfl
theorem nx_of {k pc : Nat} {la sa : List AV} {M : Mem} {i : Instr} {len : Nat} (hd : decode (mB k) pc = .ok (i, len)) (hl : iln i len = true) : nx (k, pc, la, sa, M) = nxi k pc la sa M i := by
  unfold nx
  dsimp only
  rw [hd]
  exact if_pos hl
/-- code that stands at places of a method's bytes -/
def chk (b : ByteArray) : List (Nat × Instr × Nat) → Bool
  | [] => true
  | q :: r => (match decode b q.1 with
    | .ok z => decide (z = q.2)
    | .error _ => false) && chk b r
theorem chk_at {b : ByteArray} : ∀ {L : List (Nat × Instr × Nat)}, chk b L = true → ∀ (j : Nat) {pc : Nat} {i : Instr} {len : Nat}, L[j]? = some (pc, i, len) → decode b pc = .ok (i, len)
  | [], _, _, _, _, _, h => by simp at h
  | q :: r, hc, 0, pc, i, len, h => by
    simp only [chk, Bool.and_eq_true] at hc
    cases h
    have h1 := hc.1
    dsimp only at h1
    cases hd : decode b pc with
    | error e => rw [hd] at h1; cases h1
    | ok z => rw [hd] at h1; rw [of_decide_eq_true h1]
  | q :: r, hc, j + 1, pc, i, len, h => by
    simp only [chk, Bool.and_eq_true] at hc
    exact chk_at hc.2 j (by simpa using h)
