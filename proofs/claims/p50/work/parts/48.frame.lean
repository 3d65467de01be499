/-! the last of the lifting's frame -/
def FU : Nat := 100000
theorem fnil {w : Nat} : ∀ C ∈ ([] : List Cal), CalOK w C := fun _ h => by cases h
theorem fcons {w : Nat} {C : Cal} {l : List Cal} (h : CalOK w C) (t : ∀ D ∈ l, CalOK w D) : ∀ D ∈ C :: l, CalOK w D := fun D hD => by
  rcases List.mem_cons.mp hD with rfl | h1
  · exact h
  · exact t D h1
theorem cal_ok {w c rt m : Nat} {ts : List Nat} {pu : Bool} {V : List ZV → PM → ZV × PM} {G : List ZV → PM → Prop} {sh : List (Nat × Int)} (hm : mL c = m) (h : ∀ as p, Gr w p → G as p → ZJ w c 0 (zlay (mkL as 0 sh) ++ List.replicate (m - (zlay (mkL as 0 sh)).length) zJ) [] p (if rt = 0 then none else some (V as p).1, if pu = true then p else (V as p).2)) : CalOK w (c, ts, rt, pu, V, fun as p => zsw (tc2 as sh) False (G as p)) := by
  intro as p hg ht H
  have H1 : zsw (tc2 as sh) False (G as p) := H
  cases hb : tc2 as sh with
  | false => rw [hb] at H1; exact H1.elim
  | true =>
    rw [hb] at H1
    have h1 := h as p hg H1
    refine ZJ_em (fun x => ?_) (fun _ => rfl) h1
    rw [← hm]
    show (zent c as).map (em x) = (zent c (mkL as 0 sh)).map (em x)
    have e9 : as.map (em x) = (mkL as 0 sh).map (em x) := mkL_s (la := as) (j := 0) rfl hb
    rw [← ent_em, ← ent_em, e9]
