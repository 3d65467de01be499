/-! the memory in its shape, and what the face shares: tests, refusals, the log's rows -/
def SBs (xs : Nat → Int32) (x : Nat) : PM := ((fun k i s => if x = 4 ∧ k = 13 ∧ i = 1 then xs s else 0), (fun _ _ _ => 0), (fun _ _ _ => 0))
/-- the face's own part: its log, its counts, the law's row -/
def FF (cl : Nat → Int32) (tl kp fo : Int32) (ou : Int64) : PM := ((fun k i s => if k = 13 ∧ i = 1 then cl s else if k = 11 ∧ i = 1 then (if s = 3 then tl else if s = 4 then kp else if s = 5 then fo else 0) else 0), (fun k i s => if k = 14 ∧ i = 1 ∧ s = 0 then ou else 0), (fun k i s => if k = 11 ∧ i = 1 ∧ s < 3 then 1 else 0))
def mm (P0 P1 Q : PM) (cl : Nat → Int32) (tl kp fo : Int32) (ou : Int64) (L : Nat) (xs : Nat → Int32) (e : Nat) : Mem := (fun x => match x with
  | 0 => P0
  | 1 => P1
  | 2 => Q
  | 3 => FF cl tl kp fo ou
  | n + 4 => SBs xs (n + 4), (313, L, e))
section YPut
variable {k : Nat} {tab : List YR} {pc : Nat} {la sa : List AV} {M : Mem} {r : Option (Out × Mem)}
theorem y_pti (hk : T3OK k tab) (n pc' q : Nat) {c x K i S : Nat} {v : Int32} {z : Nat × Int} {t : List YR} {la' st : List AV} {M' M2 : Mem} (h : yS k tab n pc (frm3 tab pc) la sa M = go k pc' la' (vI v :: rR x K i :: st) M') (hi : frm3 tab pc' = (pc', .putfield c, 3, K, S, 0, z) :: t) (hx : x < 4) (hq : pc' + 3 = q) (hM : sI M' x K i S v = M2) (h2 : X k q la' st M2 = r) : X k pc la sa M = r := by
  refine y_go hk n pc' h ?_
  obtain ⟨h3, h4⟩ := row3 hk hi
  subst hq hM
  refine Eq.trans (xr (i := .putfield c) (len := 3) h3 rfl ?_) h2
  unfold rok3 at h4
  rw [Bool.and_eq_true] at h4
  replace h4 := h4.2
  dsimp only at h4
  split at h4
  · next K' S' t' f' zz hp =>
    simp only [Bool.and_eq_true, decide_eq_true_eq] at h4
    obtain ⟨⟨rfl, rfl, rfl⟩, hf⟩ := h4
    show nPut k pc' c la' (vI v :: rR x K' i :: st) M' = _
    unfold nPut
    rw [hp]
    exact (if_pos ⟨rfl, hx, hf⟩).trans rfl
  · cases h4
end YPut
def sm3 (q r : YR) : Bool := Nat.beq q.1 r.1 && (decide ((q.2.1, q.2.2.1) = (r.2.1, r.2.2.1)) && ((Nat.beq q.2.2.2.1 r.2.2.2.1 && Nat.beq q.2.2.2.2.1 r.2.2.2.2.1) && ((Nat.beq q.2.2.2.2.2.1 r.2.2.2.2.2.1 && Nat.beq q.2.2.2.2.2.2.1 r.2.2.2.2.2.2.1) && decide (q.2.2.2.2.2.2.2 = r.2.2.2.2.2.2.2))))
theorem sm3_s {q r : YR} (h : sm3 q r = true) : q = r := by
  unfold sm3 at h
  simp only [Bool.and_eq_true, decide_eq_true_eq] at h
  obtain ⟨h1, h2, ⟨h3, h4⟩, ⟨h5, h6⟩, h7⟩ := h
  obtain ⟨q1, q2, q3, q4, q5, q6, q7, q8⟩ := q
  obtain ⟨r1, r2, r3, r4, r5, r6, r7, r8⟩ := r
  replace h1 := Nat.eq_of_beq_eq_true h1
  replace h3 := Nat.eq_of_beq_eq_true h3
  replace h4 := Nat.eq_of_beq_eq_true h4
  replace h5 := Nat.eq_of_beq_eq_true h5
  replace h6 := Nat.eq_of_beq_eq_true h6
  injection h2 with h8 h9
  dsimp only at h1 h3 h4 h5 h6 h7 h8 h9
  subst h1 h3 h4 h5 h6 h7 h8 h9
  rfl
theorem t3_sub {k : Nat} {tab sub : List YR} (h : T3OK k tab) (hs : (sub.all fun r => tab.any fun q => sm3 q r) = true) : T3OK k sub := fun r hr => by
  have h1 := List.all_eq_true.mp hs r hr
  obtain ⟨q, hq, h2⟩ := List.any_eq_true.mp h1
  rw [← sm3_s h2]
  exact h q hq
section Mm
variable {P0 P1 Q p : PM} {cl : Nat → Int32} {tl kp fo v : Int32} {ou u : Int64} {L e : Nat} {xs : Nat → Int32}
theorem mem_eq {A B : Nat → PM} {z : Nat × Nat × Nat} (h0 : A 0 = B 0) (h1 : A 1 = B 1) (h2 : A 2 = B 2) (h3 : A 3 = B 3) (h4 : ∀ n, A (n + 4) = B (n + 4)) : ((A, z) : Mem) = (B, z) := by
  have h : A = B := funext fun x => by
    match x with
    | 0 => exact h0
    | 1 => exact h1
    | 2 => exact h2
    | 3 => exact h3
    | n + 4 => exact h4 n
  rw [h]
theorem mm_0 : sP (mm P0 P1 Q cl tl kp fo ou L xs e) 0 p = mm p P1 Q cl tl kp fo ou L xs e := mem_eq rfl rfl rfl rfl (fun _ => rfl)
theorem mm_1 : sP (mm P0 P1 Q cl tl kp fo ou L xs e) 1 p = mm P0 p Q cl tl kp fo ou L xs e := mem_eq rfl rfl rfl rfl (fun _ => rfl)
theorem mm_2 : sP (mm P0 P1 Q cl tl kp fo ou L xs e) 2 p = mm P0 P1 p cl tl kp fo ou L xs e := mem_eq rfl rfl rfl rfl (fun _ => rfl)
theorem mm_3 {cl' : Nat → Int32} {tl' kp' fo' : Int32} {ou' : Int64} (h : p = FF cl' tl' kp' fo' ou') : sP (mm P0 P1 Q cl tl kp fo ou L xs e) 3 p = mm P0 P1 Q cl' tl' kp' fo' ou' L xs e := mem_eq rfl rfl rfl h (fun _ => rfl)
theorem mm_log {j : Nat} : sI (mm P0 P1 Q cl tl kp fo ou L xs e) 3 13 1 j v = mm P0 P1 Q (fun s => if s = j then v else cl s) tl kp fo ou L xs e := mm_3 (Prod.ext (funext fun k => funext fun i => funext fun s => by
  show u3 (FF cl tl kp fo ou).1 13 1 j v k i s = _
  unfold u3 FF
  dsimp only
  by_cases h : k = 13 ∧ i = 1
  · rw [if_pos h]
    by_cases hs : s = j
    · rw [if_pos ⟨h.1, h.2, hs⟩, if_pos h, if_pos hs]
    · rw [if_neg (fun q => hs q.2.2), if_pos h, if_neg hs]
  · rw [if_neg (fun q => h ⟨q.1, q.2.1⟩), if_neg h, if_neg h]) rfl)
theorem mm_tl : sI (mm P0 P1 Q cl tl kp fo ou L xs e) 3 11 1 3 v = mm P0 P1 Q cl v kp fo ou L xs e := mm_3 (Prod.ext (funext fun k => funext fun i => funext fun s => by
  show u3 (FF cl tl kp fo ou).1 11 1 3 v k i s = _
  unfold u3 FF
  dsimp only
  repeat' split
  all_goals first | rfl | omega) rfl)
theorem mm_kp : sI (mm P0 P1 Q cl tl kp fo ou L xs e) 3 11 1 4 v = mm P0 P1 Q cl tl v fo ou L xs e := mm_3 (Prod.ext (funext fun k => funext fun i => funext fun s => by
  show u3 (FF cl tl kp fo ou).1 11 1 4 v k i s = _
  unfold u3 FF
  dsimp only
  repeat' split
  all_goals first | rfl | omega) rfl)
theorem mm_fo : sI (mm P0 P1 Q cl tl kp fo ou L xs e) 3 11 1 5 v = mm P0 P1 Q cl tl kp v ou L xs e := mm_3 (Prod.ext (funext fun k => funext fun i => funext fun s => by
  show u3 (FF cl tl kp fo ou).1 11 1 5 v k i s = _
  unfold u3 FF
  dsimp only
  repeat' split
  all_goals first | rfl | omega) rfl)
theorem mm_ou : sJ (mm P0 P1 Q cl tl kp fo ou L xs e) 3 14 1 0 u = mm P0 P1 Q cl tl kp fo u L xs e := mm_3 (Prod.ext rfl (Prod.ext (funext fun k => funext fun i => funext fun s => by
  show u3 (FF cl tl kp fo ou).2.1 14 1 0 u k i s = _
  unfold u3 FF
  dsimp only
  repeat' split
  all_goals first | rfl | omega) rfl))
theorem mm_lw {j : Int32} {n : Nat} (hj : j.toNatClampNeg = n) : sI (mm P0 P1 Q cl tl kp fo ou L xs e) 3 13 1 j.toNatClampNeg v = mm P0 P1 Q (fun s => if s = n then v else cl s) tl kp fo ou L xs e := by
  rw [hj]
  exact mm_log
theorem mm_e : xc (mm P0 P1 Q cl tl kp fo ou L xs e) = mm P0 P1 Q cl tl kp fo ou L xs (e + 1) := rfl
end Mm
theorem sP_self {M : Mem} {x : Nat} : sP M x (M.1 x) = M := Prod.ext (funext fun y => by
  show (if y = x then M.1 x else M.1 y) = M.1 y
  by_cases h : y = x
  · rw [if_pos h, h]
  · rw [if_neg h]) rfl
section Of
variable {w c x : Nat} {las : List ZV} {M : Mem}
theorem x_I {v : Int32} (hx : okx w x) (h : ZJ w c 0 las [] (M.1 x) (hoI (M.1 x) v)) : X c 0 (las.map (em x)) [] M = some (.inl (some (vI v)), M) := by
  have h1 := h.1 x M hx
  rw [sP_self] at h1
  exact h1.trans (by show some (_, sP M x (M.1 x)) = _; rw [sP_self]; rfl)
theorem x_L {v : Int64} (hx : okx w x) (h : ZJ w c 0 las [] (M.1 x) (hoL (M.1 x) v)) : X c 0 (las.map (em x)) [] M = some (.inl (some (vL v)), M) := by
  have h1 := h.1 x M hx
  rw [sP_self] at h1
  exact h1.trans (by show some (_, sP M x (M.1 x)) = _; rw [sP_self]; rfl)
theorem x_R {K v : Nat} (hx : okx w x) (hv : ¬ v = 0) (h : ZJ w c 0 las [] (M.1 x) (hoR K (M.1 x) v)) : X c 0 (las.map (em x)) [] M = some (.inl (some (rR x K v)), M) := by
  have h1 := h.1 x M hx
  rw [sP_self] at h1
  refine h1.trans ?_
  show some (Sum.inl (some (vR x K v)), sP M x (M.1 x)) = _
  rw [sP_self, vR_pos hv]
  rfl
theorem x_N {K v : Nat} (hx : okx w x) (hv : v = 0) (h : ZJ w c 0 las [] (M.1 x) (hoR K (M.1 x) v)) : X c 0 (las.map (em x)) [] M = some (.inl (some vN), M) := by
  have h1 := h.1 x M hx
  rw [sP_self] at h1
  refine h1.trans ?_
  show some (Sum.inl (some (vR x K v)), sP M x (M.1 x)) = _
  rw [sP_self, hv]
  rfl
theorem x_wI {v : Int32} {p' : PM} {M' : Mem} (hx : okx w x) (h : ZJ w c 0 las [] (M.1 x) (some (zI v), p')) (hM : sP M x p' = M') : X c 0 (las.map (em x)) [] M = some (.inl (some (vI v)), M') := by
  have h1 := h.1 x M hx
  rw [sP_self] at h1
  rw [← hM]
  exact h1
theorem x_wL {v : Int64} {p' : PM} {M' : Mem} (hx : okx w x) (h : ZJ w c 0 las [] (M.1 x) (some (zL v), p')) (hM : sP M x p' = M') : X c 0 (las.map (em x)) [] M = some (.inl (some (vL v)), M') := by
  have h1 := h.1 x M hx
  rw [sP_self] at h1
  rw [← hM]
  exact h1
theorem x_wV {p' : PM} {M' : Mem} (hx : okx w x) (h : ZJ w c 0 las [] (M.1 x) (none, p')) (hM : sP M x p' = M') : X c 0 (las.map (em x)) [] M = some (.inl none, M') := by
  have h1 := h.1 x M hx
  rw [sP_self] at h1
  rw [← hM]
  exact h1
theorem x_hI {r : Int32 × PM} {M' : Mem} (hx : okx w x) (h : ZJ w c 0 las [] (M.1 x) (hwI r)) (hM : sP M x r.2 = M') : X c 0 (las.map (em x)) [] M = some (.inl (some (vI r.1)), M') := x_wI hx h hM
theorem x_hL {r : Int64 × PM} {M' : Mem} (hx : okx w x) (h : ZJ w c 0 las [] (M.1 x) (hwL r)) (hM : sP M x r.2 = M') : X c 0 (las.map (em x)) [] M = some (.inl (some (vL r.1)), M') := x_wL hx h hM
theorem x_hV {r : PM} {M' : Mem} (hx : okx w x) (h : ZJ w c 0 las [] (M.1 x) (hwV r)) (hM : sP M x r = M') : X c 0 (las.map (em x)) [] M = some (.inl none, M') := x_wV hx h hM
theorem x_hI' {r : Int32 × PM} {M' : Mem} {ent : List AV} (hx : okx w x) (h : ZJ w c 0 las [] (M.1 x) (hwI r)) (hl : las.map (em x) = ent) (hM : sP M x r.2 = M') : X c 0 ent [] M = some (.inl (some (vI r.1)), M') := hl ▸ x_hI hx h hM
theorem gr_I {k pc : Nat} {la sa : List ZV} {p : PM} {r : Int32 × PM} (h : ZJ w k pc la sa p (hwI r)) : Gr w r.2 := h.2
theorem gr_L {k pc : Nat} {la sa : List ZV} {p : PM} {r : Int64 × PM} (h : ZJ w k pc la sa p (hwL r)) : Gr w r.2 := h.2
theorem gr_V {k pc : Nat} {la sa : List ZV} {p : PM} {r : PM} (h : ZJ w k pc la sa p (hwV r)) : Gr w r := h.2
theorem x_I' {v : Int32} {ent : List AV} (hx : okx w x) (h : ZJ w c 0 las [] (M.1 x) (hoI (M.1 x) v)) (hl : las.map (em x) = ent) : X c 0 ent [] M = some (.inl (some (vI v)), M) := hl ▸ x_I hx h
theorem x_L' {v : Int64} {ent : List AV} (hx : okx w x) (h : ZJ w c 0 las [] (M.1 x) (hoL (M.1 x) v)) (hl : las.map (em x) = ent) : X c 0 ent [] M = some (.inl (some (vL v)), M) := hl ▸ x_L hx h
theorem x_wI' {v : Int32} {p' : PM} {M' : Mem} {ent : List AV} (hx : okx w x) (h : ZJ w c 0 las [] (M.1 x) (some (zI v), p')) (hl : las.map (em x) = ent) (hM : sP M x p' = M') : X c 0 ent [] M = some (.inl (some (vI v)), M') := hl ▸ x_wI hx h hM
end Of
theorem okx0 : okx 0 0 := Or.inl ⟨rfl, Or.inl rfl⟩
theorem okx1 : okx 0 1 := Or.inl ⟨rfl, Or.inr rfl⟩
def Y190 : List YR := [(0, .iload_n 0, 1, 0, 0, 0, 0, 0), (1, .ifCond .ne 14, 3, 0, 0, 0, 0, 0), (4, .new 95, 3, 0, 0, 0, 0, 0), (7, .dup, 1, 0, 0, 0, 0, 0), (8, .ldc_w 258, 3, 0, 0, 0, 0, 0), (11, .invokespecial 99, 3, 0, 0, 0, 0, 9), (14, .athrow, 1, 0, 0, 0, 0, 0), (15, .return_, 1, 0, 0, 0, 0, 0)]
set_option maxRecDepth 100000 in
theorem yr190 : Y190.all (rok3 190) = true := by decide +kernel
set_option maxRecDepth 100000 in
theorem yk190 : T3OK 190 Y190 := t3_ok (K := K190) rfl (fun h => d190 h) yr190
def Y191 : List YR := [(0, .iload_n 0, 1, 0, 0, 0, 0, 0), (1, .ifCond .ne 14, 3, 0, 0, 0, 0, 0), (4, .new 260, 3, 1, 0, 0, 0, 0), (7, .dup, 1, 0, 0, 0, 0, 0), (8, .ldc_w 262, 3, 0, 0, 0, 0, 0), (11, .invokespecial 264, 3, 0, 0, 0, 0, 9), (14, .athrow, 1, 0, 0, 0, 0, 0), (15, .return_, 1, 0, 0, 0, 0, 0)]
set_option maxRecDepth 100000 in
theorem yr191 : Y191.all (rok3 191) = true := by decide +kernel
set_option maxRecDepth 100000 in
theorem yk191 : T3OK 191 Y191 := t3_ok (K := K191) rfl (fun h => d191 h) yr191
def Y192 : List YR := [(0, .iload_n 0, 1, 0, 0, 0, 0, 0), (1, .ifCond .ne 14, 3, 0, 0, 0, 0, 0), (4, .new 265, 3, 2, 0, 0, 0, 0), (7, .dup, 1, 0, 0, 0, 0, 0), (8, .ldc_w 267, 3, 0, 0, 0, 0, 0), (11, .invokespecial 269, 3, 0, 0, 0, 0, 9), (14, .athrow, 1, 0, 0, 0, 0, 0), (15, .return_, 1, 0, 0, 0, 0, 0)]
set_option maxRecDepth 100000 in
theorem yr192 : Y192.all (rok3 192) = true := by decide +kernel
set_option maxRecDepth 100000 in
theorem yk192 : T3OK 192 Y192 := t3_ok (K := K192) rfl (fun h => d192 h) yr192
def Y193 : List YR := [(0, .iload_n 0, 1, 0, 0, 0, 0, 0), (1, .iload_n 1, 1, 0, 0, 0, 0, 0), (2, .if_icmp .lt 12, 3, 0, 0, 0, 0, 0), (5, .iload_n 0, 1, 0, 0, 0, 0, 0), (6, .iload_n 2, 1, 0, 0, 0, 0, 0), (7, .if_icmp .gt 7, 3, 0, 0, 0, 0, 0), (10, .iconst 1, 1, 0, 0, 0, 0, 1), (11, .goto 4, 3, 0, 0, 0, 0, 0), (14, .iconst 0, 1, 0, 0, 0, 0, 0), (15, .ireturn, 1, 1, 0, 0, 0, 0)]
set_option maxRecDepth 100000 in
theorem yr193 : Y193.all (rok3 193) = true := by decide +kernel
set_option maxRecDepth 100000 in
theorem yk193 : T3OK 193 Y193 := t3_ok (K := K193) rfl (fun h => d193 h) yr193
def Y194 : List YR := [(0, .iload_n 0, 1, 0, 0, 0, 0, 0), (1, .iconst 0, 1, 0, 0, 0, 0, 0), (2, .bipush 7, 2, 0, 0, 0, 0, 7), (4, .invokestatic 59, 3, 193, 3, 3, 11, 0), (7, .ireturn, 1, 1, 0, 0, 0, 0)]
set_option maxRecDepth 100000 in
theorem yr194 : Y194.all (rok3 194) = true := by decide +kernel
set_option maxRecDepth 100000 in
theorem yk194 : T3OK 194 Y194 := t3_ok (K := K194) rfl (fun h => d194 h) yr194
def Y195 : List YR := [(0, .iload_n 0, 1, 0, 0, 0, 0, 0), (1, .iconst 0, 1, 0, 0, 0, 0, 0), (2, .iconst 5, 1, 0, 0, 0, 0, 5), (3, .invokestatic 59, 3, 193, 3, 3, 11, 0), (6, .ireturn, 1, 1, 0, 0, 0, 0)]
set_option maxRecDepth 100000 in
theorem yr195 : Y195.all (rok3 195) = true := by decide +kernel
set_option maxRecDepth 100000 in
theorem yk195 : T3OK 195 Y195 := t3_ok (K := K195) rfl (fun h => d195 h) yr195
def Y196 : List YR := [(0, .iload_n 0, 1, 0, 0, 0, 0, 0), (1, .iconst 0, 1, 0, 0, 0, 0, 0), (2, .iconst 3, 1, 0, 0, 0, 0, 3), (3, .invokestatic 59, 3, 193, 3, 3, 11, 0), (6, .ireturn, 1, 1, 0, 0, 0, 0)]
set_option maxRecDepth 100000 in
theorem yr196 : Y196.all (rok3 196) = true := by decide +kernel
set_option maxRecDepth 100000 in
theorem yk196 : T3OK 196 Y196 := t3_ok (K := K196) rfl (fun h => d196 h) yr196
def Y197 : List YR := [(0, .iload_n 0, 1, 0, 0, 0, 0, 0), (1, .iconst 0, 1, 0, 0, 0, 0, 0), (2, .iconst 3, 1, 0, 0, 0, 0, 3), (3, .invokestatic 59, 3, 193, 3, 3, 11, 0), (6, .ireturn, 1, 1, 0, 0, 0, 0)]
set_option maxRecDepth 100000 in
theorem yr197 : Y197.all (rok3 197) = true := by decide +kernel
set_option maxRecDepth 100000 in
theorem yk197 : T3OK 197 Y197 := t3_ok (K := K197) rfl (fun h => d197 h) yr197
def Y198 : List YR := [(0, .iload_n 0, 1, 0, 0, 0, 0, 0), (1, .ifCond .eq 18, 3, 0, 0, 0, 0, 0), (4, .iload_n 0, 1, 0, 0, 0, 0, 0), (5, .bipush (-50), 2, 0, 0, 0, 0, (-50)), (7, .bipush 50, 2, 0, 0, 0, 0, 50), (9, .invokestatic 59, 3, 193, 3, 3, 11, 0), (12, .ifCond .eq 7, 3, 0, 0, 0, 0, 0), (15, .iconst 1, 1, 0, 0, 0, 0, 1), (16, .goto 4, 3, 0, 0, 0, 0, 0), (19, .iconst 0, 1, 0, 0, 0, 0, 0), (20, .ireturn, 1, 1, 0, 0, 0, 0)]
set_option maxRecDepth 100000 in
theorem yr198 : Y198.all (rok3 198) = true := by decide +kernel
set_option maxRecDepth 100000 in
theorem yk198 : T3OK 198 Y198 := t3_ok (K := K198) rfl (fun h => d198 h) yr198
set_option maxRecDepth 100000 in
theorem nh190 : lk hT 190 = none := by decide +kernel
set_option maxRecDepth 100000 in
theorem nh191 : lk hT 191 = none := by decide +kernel
set_option maxRecDepth 100000 in
theorem nh192 : lk hT 192 = none := by decide +kernel
set_option maxRecDepth 100000 in
theorem len_log : (aE (ad 3 13 1)).2.2.2 = 3584 := by decide +kernel
set_option maxRecDepth 100000 in
theorem len_out : (aE (ad 3 14 1)).2.2.2 = 1 := by decide +kernel
section Prim
variable {M : Mem} {v a b t : Int32}
theorem x_isW : X 193 0 [vI v, vI a, vI b] [] M = some (.inl (some (vI (isW v a b))), M) := by
  by_cases h1 : v < a
  · refine y_icT yk193 2 2 14 rfl rfl (by decide) (decide_eq_true h1) ?_
    refine y_ret yk193 2 rfl ?_
    unfold isW
    rw [if_pos h1]
    rfl
  · refine y_icF yk193 2 2 5 rfl rfl rfl (by decide) (decide_eq_false h1) ?_
    by_cases h2 : b < v
    · refine y_icT yk193 2 7 14 rfl rfl (by decide) (decide_eq_true h2) ?_
      refine y_ret yk193 2 rfl ?_
      unfold isW
      rw [if_neg h1, if_pos h2]
      rfl
    · refine y_icF yk193 2 7 10 rfl rfl rfl (by decide) (decide_eq_false h2) ?_
      refine y_ret yk193 3 rfl ?_
      unfold isW
      rw [if_neg h1, if_neg h2]
      rfl
theorem x_isTrader : X 194 0 [vI v] [] M = some (.inl (some (vI (isW v (cn 0) (cn 7)))), M) := by
  refine y_cal yk194 4 7 rfl x_isW ?_
  refine y_ret yk194 1 rfl ?_
  show some (Sum.inl (some (vI (isW v (cn 0) (cn 7) &&& 1))), M) = _
  rw [and1 (isW_b _ _ _)]
theorem x_isBook : X 195 0 [vI v] [] M = some (.inl (some (vI (isW v (cn 0) (cn 5)))), M) := by
  refine y_cal yk195 4 6 rfl x_isW ?_
  refine y_ret yk195 1 rfl ?_
  show some (Sum.inl (some (vI (isW v (cn 0) (cn 5) &&& 1))), M) = _
  rw [and1 (isW_b _ _ _)]
theorem x_isContract : X 196 0 [vI v] [] M = some (.inl (some (vI (isW v (cn 0) (cn 3)))), M) := by
  refine y_cal yk196 4 6 rfl x_isW ?_
  refine y_ret yk196 1 rfl ?_
  show some (Sum.inl (some (vI (isW v (cn 0) (cn 3) &&& 1))), M) = _
  rw [and1 (isW_b _ _ _)]
theorem x_isMember : X 197 0 [vI v] [] M = some (.inl (some (vI (isW v (cn 0) (cn 3)))), M) := by
  refine y_cal yk197 4 6 rfl x_isW ?_
  refine y_ret yk197 1 rfl ?_
  show some (Sum.inl (some (vI (isW v (cn 0) (cn 3) &&& 1))), M) = _
  rw [and1 (isW_b _ _ _)]
noncomputable def isQ (v : Int32) : Int32 := if isW v (cn (-50)) (cn 50) = 0 then cn 0 else if v = 0 then cn 0 else cn 1
theorem x_isQ : X 198 0 [vI v] [] M = some (.inl (some (vI (isQ v))), M) := by
  by_cases h1 : v = 0
  · refine y_ifT yk198 1 1 19 rfl rfl (by decide) (decide_eq_true h1) ?_
    refine y_ret yk198 2 rfl ?_
    have h2 : isQ v = cn 0 := by
      unfold isQ
      split
      · rfl
      · first | rfl | rw [if_pos h1]
    rw [h2]
    rfl
  · refine y_ifF yk198 1 1 4 rfl rfl rfl (by decide) (decide_eq_false h1) ?_
    refine y_cal yk198 4 12 rfl x_isW ?_
    by_cases h2 : isW v (cn (-50)) (cn 50) = 0
    · refine y_ifT yk198 0 12 19 rfl rfl (by decide) (decide_eq_true h2) ?_
      refine y_ret yk198 2 rfl ?_
      unfold isQ
      rw [if_pos h2]
      rfl
    · refine y_ifF yk198 0 12 15 rfl rfl rfl (by decide) (decide_eq_false h2) ?_
      refine y_ret yk198 3 rfl ?_
      unfold isQ
      rw [if_neg h2, if_neg h1]
      rfl
theorem x_np0 (h : t = 0) : X 190 0 [vI t] [] M = some (.inr 0, xc M) := by
  refine y_ifF yk190 1 1 4 rfl rfl rfl (by decide) (by subst h; rfl) ?_
  exact y_ret yk190 1 rfl rfl
theorem x_np1 (h : ¬ t = 0) : X 190 0 [vI t] [] M = some (.inl none, M) := by
  refine y_ifT yk190 1 1 15 rfl rfl (by decide) (decide_eq_true h) ?_
  exact y_ret yk190 1 rfl rfl
theorem x_nr0 (h : t = 0) : X 191 0 [vI t] [] M = some (.inr 1, xc M) := by
  refine y_ifF yk191 1 1 4 rfl rfl rfl (by decide) (by subst h; rfl) ?_
  exact y_ret yk191 1 rfl rfl
theorem x_nr1 (h : ¬ t = 0) : X 191 0 [vI t] [] M = some (.inl none, M) := by
  refine y_ifT yk191 1 1 15 rfl rfl (by decide) (decide_eq_true h) ?_
  exact y_ret yk191 1 rfl rfl
theorem x_ns0 (h : t = 0) : X 192 0 [vI t] [] M = some (.inr 2, xc M) := by
  refine y_ifF yk192 1 1 4 rfl rfl rfl (by decide) (by subst h; rfl) ?_
  exact y_ret yk192 1 rfl rfl
theorem x_ns1 (h : ¬ t = 0) : X 192 0 [vI t] [] M = some (.inl none, M) := by
  refine y_ifT yk192 1 1 15 rfl rfl (by decide) (decide_eq_true h) ?_
  exact y_ret yk192 1 rfl rfl
end Prim
