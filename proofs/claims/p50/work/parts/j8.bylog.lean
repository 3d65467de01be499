/-! the log: what is asked by it, kept and gone back to -/
section ByLogW
variable {P0 P1 Q Ps : PM} {cl' lg : Nat → Int32} {N T D t f g L e : Nat} {xs : Nat → Int32} {ou : Int64}
/-- the follower, brought to where the live one is: they know one reference -/
theorem fol_at (J : JN lg P0 P1 Q cl' N T D t f g) : ∃ Ps, FR Ps ∧ plC lg Ps g = P1 ∧ (∀ i, i < t → rwG lg (plC lg Ps i) i ∧ g5_work (rwCl lg (plC lg Ps i) i).2) ∧ PLD lg (plC lg Ps t) t ∧ ∃ Q9 N9 T9 D9 N8 T8 D8, IV lg P0 Q9 N9 T9 D9 t ∧ IV lg (plC lg Ps t) Q9 N8 T8 D8 t := by
  obtain ⟨I, ⟨hg0, hg1, hg2⟩, ⟨h60, h61⟩, ⟨hf, hgt, ht5⟩, hR, ⟨Pz, z1, z2, z3⟩, ⟨Ps, s1, s2, s3⟩⟩ := J
  have hO := row_o hR
  have hE := fr_alike hg2 ht5 s1 I hO ⟨Pz, z1, z2, z3⟩
  obtain ⟨N9, T9, D9, I9⟩ := rep_all (n := t) hg2 (by omega) hO (fr_iv hg2 z1 I) z3
  obtain ⟨N8, T8, D8, I8⟩ := rep_all (n := t) hg2 (by omega) hO (fr_iv hg2 s1 I) hE
  rw [← z2] at I9
  exact ⟨Ps, s1, s2.symm, fun i hi => fr_g hg2 ht5 s1 I hO hE hi, ⟨Ps, s1, rfl, hE⟩, _, N9, T9, D9, N8, T8, D8, I9, I8⟩
theorem by_log {x : Nat} (hx : x ≤ 7000) (J : JN lg P0 P1 Q cl' N T D t f g) : ∃ P1', X 232 0 [rR 3 11 1, vI (cn x)] [] (mm P0 P1 Zp cl' (cn t) (cn f) (cn g) ou L xs e) = some (.inl (some (vI (cn 1))), mm P0 P1' Zp cl' (cn t) (cn f) (cn t) ou L xs e) ∧ JN lg P0 P1' Q cl' N T D t f t := by
  obtain ⟨Ps, s1, s2, hGW, hPL, Q9, N9, T9, D9, N8, T8, D8, I9, I8⟩ := fol_at J
  obtain ⟨I, ⟨hg0, hg1, hg2⟩, ⟨h60, h61⟩, ⟨hf, hgt, ht5⟩, hR, hP0, hP1⟩ := J
  have hi : x % 9 < 9 := Nat.mod_lt _ (by decide)
  have hc : x / 9 % 4 < 4 := Nat.mod_lt _ (by decide)
  have hb : x / 36 % 6 < 6 := Nat.mod_lt _ (by decide)
  have hg1' : Gr 0 (plC lg Ps g) := by rw [s2]; exact hg1
  have hgn := (fol_pos (P0 := P0) (Q := Zp) (kp := cn f) (ou := ou) (L := L) (xs := xs) (e := e) (a := cn 0) (b := cn 0) ht5 hR hGW (t - g) g (by omega) hg1').2
  have z00 : plC lg Ps t = plC lg Ps t := rfl
  have a1 := x_pos (P0 := P0) (P1 := P1) (Q := Zp) (kp := cn f) (ou := ou) (L := L) (xs := xs) (e := e) (a := cn ((x % 9 : Nat) : Int)) (b := cn ((x / 9 % 4 : Nat) : Int)) ht5 hR hGW hgt hg1' s2
  rw [kPos_0 hi hc, account_e _ hi, holds_e _ _ hc, (I8.1.2.1.1 _ hi).1 _ hc, ← (I9.1.2.1.1 _ hi).1 _ hc, (I.1.2.1.1 _ hi).1 _ hc] at a1
  have a2 := an_pos (P1 := plC lg Ps t) (Q := Zp) (cl' := cl') (kp := cn f) (fo := cn t) (ou := ou) (L := L) (xs := xs) (e := e) I hg0 hi hc
  have bq : ∀ s, v6_bestPrice (plC lg Ps t) (x / 36 % 6 + 1) s (cn 1) = v6_bestPrice P0 (x / 36 % 6 + 1) s (cn 1) := fun s => (best_eq hb I8.1.1.1 s (cn 1)).trans (best_eq hb I9.1.1.1 s (cn 1)).symm
  obtain ⟨s, hs⟩ : ∃ s, (if x % 2 = 0 then cn 1 else cn 0) = s := ⟨_, rfl⟩
  have a3 := x_best (P0 := P0) (P1 := plC lg Ps t) (Q := Zp) (g := t) (kp := cn f) (ou := ou) (L := L) (xs := xs) (e := e) (a := cn ((x / 36 % 6 : Nat) : Int)) (b := s) ht5 hR hGW (Nat.le_refl _) hgn rfl (fun h => ((ask_best I8.1).2.2 h).1.2) rfl
  rw [kBk_0 hb, book_e _ hb, bq] at a3
  have a4 := an_best (P1 := plC lg Ps t) (Q := Zp) (cl' := cl') (kp := cn f) (fo := cn t) (ou := ou) (L := L) (xs := xs) (e := e) (s := s) I hg0 hb
  refine ⟨plC lg Ps t, ?_, I, ⟨hg0, hgn, hg2⟩, ⟨h60, h61⟩, ⟨hf, Nat.le_refl _, ht5⟩, hR, hP0, hPL⟩
  exact bl_walk hx a1 a2 (by rw [hs]; exact a3) (by rw [hs]; exact a4)
/-- kept -/
theorem jn_keep (J : JN lg P0 P1 Q cl' N T D t f g) : ∃ lg' Q', JN lg' P0 P1 Q' cl' N T D t t g := by
  obtain ⟨I, ⟨hg0, hg1, hg2⟩, ⟨h60, h61⟩, ⟨hf, hgt, ht5⟩, hR, hP0, hP1⟩ := J
  have l1 : ∀ j, ¬ j = 4001 → (fun j => if j = 4001 then cn (t : Int) else lg j) j = lg j := fun j h => if_neg h
  obtain ⟨g12, Q2, e12, ez, I3⟩ := ask_keep I h60 (lg' := fun j => if j = 4001 then cn t else lg j) l1 (if_pos rfl)
  have l2 : ∀ n, n ≤ 512 → ∀ j, j < 7 * n → (fun j => if j = 4001 then cn (t : Int) else lg j) j = lg j := fun n hn j h => if_neg (by omega)
  refine ⟨fun j => if j = 4001 then cn (t : Int) else lg j, Q2, I3, ⟨hg0, hg1, fun h => hg2 ((l1 4006 (by decide)).symm.trans h)⟩, ⟨(if_neg (by omega)).trans h60, if_pos rfl⟩, ⟨by omega, hgt, ht5⟩, fun i hi => ?_, pld_c (l2 t ht5) hP0, pld_c (l2 g (by omega)) hP1⟩
  obtain ⟨k, hk, r0, r1, r2, r3, r4, r5, r6, r7⟩ := hR i hi
  exact ⟨k, hk, (l1 _ (by omega)).trans r0, r1, r2.trans (l1 _ (by omega)).symm, r3.trans (l1 _ (by omega)).symm, r4.trans (l1 _ (by omega)).symm, r5.trans (l1 _ (by omega)).symm, r6.trans (l1 _ (by omega)).symm, r7.trans (l1 _ (by omega)).symm⟩
end ByLogW
