/-! the law's code: an instruction is decoded from a window of the bytes -/
def Loc {α : Type} (r r' : Decoder α) : Prop := ∀ (b w : ByteArray) (off : Nat), (∀ p, (h : p < w.size) → ∃ h' : p + off < b.size, b[p + off] = w[p]) → ∀ p x p', r w p = .ok (x, p') → r' b (p + off) = .ok (x, p' + off)
theorem u1_ok {w : ByteArray} {p : Nat} (h : p < w.size) : (Reader.u1 : Decoder Nat) w p = .ok (w[p].toNat, p + 1) := by
  show (dite (p < w.size) (fun h => (do set (p + 1); pure w[p].toNat : Decoder Nat)) (fun _ => throw (HasTruncated.truncated p)) : Decoder Nat) w p = _
  rw [dif_pos h]
  rfl
theorem u1_er {w : ByteArray} {p : Nat} (h : ¬ p < w.size) : (Reader.u1 : Decoder Nat) w p = .error (HasTruncated.truncated p) := by
  show (dite (p < w.size) (fun h => (do set (p + 1); pure w[p].toNat : Decoder Nat)) (fun _ => throw (HasTruncated.truncated p)) : Decoder Nat) w p = _
  rw [dif_neg h]
  rfl
theorem loc_u1 : Loc (Reader.u1 : Decoder Nat) Reader.u1 := by
  intro b w off hw p x p' h
  by_cases hp : p < w.size
  · rw [u1_ok hp] at h
    injection h with h
    injection h with h1 h2
    obtain ⟨h3, h4⟩ := hw p hp
    rw [u1_ok h3, h4, h1, ← h2]
    have e : p + off + 1 = p + 1 + off := by omega
    rw [e]
  · rw [u1_er hp] at h
    cases h
theorem dbind {α β : Type} (r : Decoder α) (f : α → Decoder β) (w : ByteArray) (p : Nat) : (r >>= f) w p = (match r w p with
  | .error e => .error e
  | .ok z => f z.1 w z.2) := by
  show Except.bind (r w p) (fun z => f z.1 w z.2) = _
  cases r w p <;> rfl
theorem loc_bind {α β : Type} {r r' : Decoder α} {f f' : α → Decoder β} (h1 : Loc r r') (h2 : ∀ x, Loc (f x) (f' x)) : Loc (r >>= f) (r' >>= f') := by
  intro b w off hw p x p' h
  rw [dbind] at h
  cases hr : r w p with
  | error e => rw [hr] at h; cases h
  | ok z =>
    rw [hr] at h
    rw [dbind, h1 b w off hw p z.1 z.2 hr]
    exact h2 z.1 b w off hw z.2 x p' h
theorem loc_pure {α : Type} {a : α} : Loc (pure a : Decoder α) (pure a) := by
  intro b w off hw p x p' h
  have h' : (Except.ok (a, p) : Except DecodeError (α × Nat)) = .ok (x, p') := h
  injection h' with h'
  injection h' with h1 h2
  subst h1 h2
  rfl
theorem loc_map {α β : Type} {r r' : Decoder α} {g : α → β} (h1 : Loc r r') : Loc (g <$> r) (g <$> r') := by
  have e : ∀ r : Decoder α, (g <$> r) = (r >>= fun x => pure (g x)) := fun r => by
    funext w p
    rw [dbind]
    show Except.map _ (r w p) = _
    cases r w p <;> rfl
  rw [e, e]
  exact loc_bind h1 fun _ => loc_pure
theorem loc_u2 : Loc (Reader.u2 : Decoder Nat) Reader.u2 := loc_bind loc_u1 fun _ => loc_bind loc_u1 fun _ => loc_pure
theorem loc_s1 : Loc (Reader.s1 : Decoder Int) Reader.s1 := loc_map loc_u1
theorem loc_s2 : Loc (Reader.s2 : Decoder Int) Reader.s2 := loc_map loc_u2
def opok (x : Nat) : Bool := [3, 4, 5, 6, 7, 8, 16, 21, 22, 42, 43, 44, 45, 46, 47, 54, 55, 96, 132, 133, 148, 153, 154, 159, 167, 172, 182, 184].contains x
theorem dbu {α : Type} (f : Nat → Decoder α) {w : ByteArray} {p x : Nat} (h : p < w.size) (hx : w[p].toNat = x) : ((Reader.u1 : Decoder Nat) >>= f) w p = f x w (p + 1) := by
  rw [dbind, u1_ok h, hx]
set_option maxRecDepth 100000 in
theorem dec_win {b w : ByteArray} {off p len : Nat} {i : Instr} (hw : ∀ p, (h : p < w.size) → ∃ h' : p + off < b.size, b[p + off] = w[p]) (h : decode w p = .ok (i, len)) (hp : p < w.size) (ho : opok w[p].toNat = true) : decode b (p + off) = .ok (i, len) := by
  have key : ∀ next, Decoder.instr p w p = .ok (i, next) → Decoder.instr (p + off) b (p + off) = .ok (i, next + off) := by
    intro next hn
    obtain ⟨h3, h4⟩ := hw p hp
    unfold Decoder.instr at hn ⊢
    have hx4 : b[p + off].toNat = w[p].toNat := congrArg UInt8.toNat h4
    have hn2 := (dbu _ hp rfl).symm.trans hn
    refine (dbu _ h3 hx4).trans ?_
    clear hn h4 hx4
    generalize w[p].toNat = x at hn2 ho ⊢
    have hn := hn2
    have hx : x = 3 ∨ x = 4 ∨ x = 5 ∨ x = 6 ∨ x = 7 ∨ x = 8 ∨ x = 16 ∨ x = 21 ∨ x = 22 ∨ x = 42 ∨ x = 43 ∨ x = 44 ∨ x = 45 ∨ x = 46 ∨ x = 47 ∨ x = 54 ∨ x = 55 ∨ x = 96 ∨ x = 132 ∨ x = 133 ∨ x = 148 ∨ x = 153 ∨ x = 154 ∨ x = 159 ∨ x = 167 ∨ x = 172 ∨ x = 182 ∨ x = 184 := by
      unfold opok at ho
      simp only [List.contains_cons, List.contains_nil, Bool.or_eq_true, beq_iff_eq, Bool.false_eq_true, or_false] at ho
      exact ho
    have e : p + off + 1 = p + 1 + off := by omega
    rw [e]
    rcases hx with rfl | rfl | rfl | rfl | rfl | rfl | rfl | rfl | rfl | rfl | rfl | rfl | rfl | rfl | rfl | rfl | rfl | rfl | rfl | rfl | rfl | rfl | rfl | rfl | rfl | rfl | rfl | rfl
    all_goals first
      | exact loc_pure b w off hw _ _ _ hn
      | exact (loc_bind loc_u1 fun _ => loc_pure) b w off hw _ _ _ hn
      | exact (loc_bind loc_s1 fun _ => loc_pure) b w off hw _ _ _ hn
      | exact (loc_bind loc_s2 fun _ => loc_pure) b w off hw _ _ _ hn
      | exact (loc_bind loc_u2 fun _ => loc_pure) b w off hw _ _ _ hn
      | exact (loc_bind loc_u1 fun _ => loc_bind loc_s1 fun _ => loc_pure) b w off hw _ _ _ hn
  have e1 : decode w p = Except.bind (Decoder.instr p w p) (fun z => .ok (z.1, z.2 - p)) := rfl
  have e2 : decode b (p + off) = Except.bind (Decoder.instr (p + off) b (p + off)) (fun z => .ok (z.1, z.2 - (p + off))) := rfl
  rw [e1] at h
  rw [e2]
  cases hi : Decoder.instr p w p with
  | error e => rw [hi] at h; cases h
  | ok z =>
    rw [hi] at h
    obtain ⟨i', next⟩ := z
    have h' : (Except.ok (i', next - p) : Except DecodeError (Instr × Nat)) = .ok (i, len) := h
    injection h' with h'
    injection h' with h1 h2
    subst h1 h2
    rw [key next hi]
    show (Except.ok (i', next + off - (p + off)) : Except DecodeError (Instr × Nat)) = _
    rw [Nat.add_sub_add_right]
