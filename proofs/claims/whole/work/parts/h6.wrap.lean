/-! the law's own methods: what a call of the face answers, and what it throws, as a number -/
theorem in_out {M : Mem} : inb (cn 0) (lenA M 3 14 1) := by
  have h : lenA M 3 14 1 = 1 := len_out
  rw [h]
  exact ⟨by decide, by decide⟩
def Y379 : List YR := [(0, .aload 7, 2, 0, 0, 0, 0, 0), (2, .iconst 0, 1, 0, 0, 0, 0, 0), (3, .aload_n 0, 1, 0, 0, 0, 0, 0), (4, .iload_n 1, 1, 0, 0, 0, 0, 0), (5, .iload_n 2, 1, 0, 0, 0, 0, 0), (6, .iload_n 3, 1, 0, 0, 0, 0, 0), (7, .iload 4, 2, 0, 0, 0, 0, 0), (9, .iload 5, 2, 0, 0, 0, 0, 0), (11, .iload 6, 2, 0, 0, 0, 0, 0), (13, .invokevirtual 7, 3, 153, 7, 8, 11, 0), (16, .i2l, 1, 0, 0, 0, 0, 0), (17, .lastore, 1, 0, 0, 0, 0, 0), (18, .goto 15, 3, 0, 0, 0, 0, 0), (21, .astore 8, 2, 0, 0, 0, 0, 0), (23, .iconst 1, 1, 0, 0, 0, 0, 1), (24, .ireturn, 1, 0, 0, 0, 0, 0), (25, .astore 8, 2, 0, 0, 0, 0, 0), (27, .iconst 2, 1, 0, 0, 0, 0, 2), (28, .ireturn, 1, 0, 0, 0, 0, 0), (29, .astore 8, 2, 0, 0, 0, 0, 0), (31, .iconst 3, 1, 0, 0, 0, 0, 3), (32, .ireturn, 1, 0, 0, 0, 0, 0), (33, .iconst 0, 1, 0, 0, 0, 0, 0), (34, .ireturn, 1, 0, 0, 0, 0, 0)]
set_option maxRecDepth 100000 in
theorem yr379 : Y379.all (rok3 379) = true := by decide +kernel
set_option maxRecDepth 100000 in
theorem yk379 : T3OK 379 Y379 := t3_ok (K := K379) rfl (fun h => d379 h) yr379
theorem wr_379_ok {M M1 : Mem} {a b c d x f : Int32} {ans : Int32} (h : X 153 0 [rR 3 11 1, vI a, vI b, vI c, vI d, vI x, vI f, vJ] [] M = some (.inl (some (vI ans)), M1)) : X 379 0 [rR 3 11 1, vI a, vI b, vI c, vI d, vI x, vI f, rR 3 14 1, vJ] [] M = some (.inl (some (vI (cn 0))), sJ M1 3 14 1 0 ans.toInt64) := by
  refine y_cal yk379 10 16 rfl h ?_
  refine y_lst yk379 1 17 18 _ rfl rfl rfl (by decide) in_out rfl ?_
  exact y_ret yk379 3 rfl rfl
theorem wr_379_e0 {M M1 : Mem} {a b c d x f : Int32} (h : X 153 0 [rR 3 11 1, vI a, vI b, vI c, vI d, vI x, vI f, vJ] [] M = some (.inr 0, M1)) : X 379 0 [rR 3 11 1, vI a, vI b, vI c, vI d, vI x, vI f, rR 3 14 1, vJ] [] M = some (.inl (some (vI (cn 1))), M1) := by
  refine y_hnd yk379 10 16 23 8 rfl h (by decide +kernel) (by decide +kernel) rfl ?_
  exact y_ret yk379 2 rfl rfl
theorem wr_379_e1 {M M1 : Mem} {a b c d x f : Int32} (h : X 153 0 [rR 3 11 1, vI a, vI b, vI c, vI d, vI x, vI f, vJ] [] M = some (.inr 1, M1)) : X 379 0 [rR 3 11 1, vI a, vI b, vI c, vI d, vI x, vI f, rR 3 14 1, vJ] [] M = some (.inl (some (vI (cn 2))), M1) := by
  refine y_hnd yk379 10 16 27 8 rfl h (by decide +kernel) (by decide +kernel) rfl ?_
  exact y_ret yk379 2 rfl rfl
theorem wr_379_e2 {M M1 : Mem} {a b c d x f : Int32} (h : X 153 0 [rR 3 11 1, vI a, vI b, vI c, vI d, vI x, vI f, vJ] [] M = some (.inr 2, M1)) : X 379 0 [rR 3 11 1, vI a, vI b, vI c, vI d, vI x, vI f, rR 3 14 1, vJ] [] M = some (.inl (some (vI (cn 3))), M1) := by
  refine y_hnd yk379 10 16 31 8 rfl h (by decide +kernel) (by decide +kernel) rfl ?_
  exact y_ret yk379 2 rfl rfl
theorem wr_379 {M M1 : Mem} {a b c d x f : Int32} {ans : Int32} {code : Nat} (hc : code ≤ 3) (h : X 153 0 [rR 3 11 1, vI a, vI b, vI c, vI d, vI x, vI f, vJ] [] M = evR code [0, 1, 2] (some (.inl (some (vI ans)), M1)) M) : X 379 0 [rR 3 11 1, vI a, vI b, vI c, vI d, vI x, vI f, rR 3 14 1, vJ] [] M = some (.inl (some (vI (cn code))), if code = 0 then sJ M1 3 14 1 0 ans.toInt64 else xc M) := by
  have hh : code = 0 ∨ code = 1 ∨ code = 2 ∨ code = 3 := by omega
  rcases hh with rfl | rfl | rfl | rfl
  · exact wr_379_ok h
  · exact wr_379_e0 h
  · exact wr_379_e1 h
  · exact wr_379_e2 h
def Y380 : List YR := [(0, .aload 4, 2, 0, 0, 0, 0, 0), (2, .iconst 0, 1, 0, 0, 0, 0, 0), (3, .aload_n 0, 1, 0, 0, 0, 0, 0), (4, .iload_n 1, 1, 0, 0, 0, 0, 0), (5, .iload_n 2, 1, 0, 0, 0, 0, 0), (6, .iload_n 3, 1, 0, 0, 0, 0, 0), (7, .invokevirtual 19, 3, 154, 4, 4, 11, 0), (10, .i2l, 1, 0, 0, 0, 0, 0), (11, .lastore, 1, 0, 0, 0, 0, 0), (12, .goto 15, 3, 0, 0, 0, 0, 0), (15, .astore 5, 2, 0, 0, 0, 0, 0), (17, .iconst 1, 1, 0, 0, 0, 0, 1), (18, .ireturn, 1, 0, 0, 0, 0, 0), (19, .astore 5, 2, 0, 0, 0, 0, 0), (21, .iconst 2, 1, 0, 0, 0, 0, 2), (22, .ireturn, 1, 0, 0, 0, 0, 0), (23, .astore 5, 2, 0, 0, 0, 0, 0), (25, .iconst 3, 1, 0, 0, 0, 0, 3), (26, .ireturn, 1, 0, 0, 0, 0, 0), (27, .iconst 0, 1, 0, 0, 0, 0, 0), (28, .ireturn, 1, 0, 0, 0, 0, 0)]
set_option maxRecDepth 100000 in
theorem yr380 : Y380.all (rok3 380) = true := by decide +kernel
set_option maxRecDepth 100000 in
theorem yk380 : T3OK 380 Y380 := t3_ok (K := K380) rfl (fun h => d380 h) yr380
theorem wr_380_ok {M M1 : Mem} {a b c : Int32} {ans : Int32} (h : X 154 0 [rR 3 11 1, vI a, vI b, vI c] [] M = some (.inl (some (vI ans)), M1)) : X 380 0 [rR 3 11 1, vI a, vI b, vI c, rR 3 14 1, vJ] [] M = some (.inl (some (vI (cn 0))), sJ M1 3 14 1 0 ans.toInt64) := by
  refine y_cal yk380 7 10 rfl h ?_
  refine y_lst yk380 1 11 12 _ rfl rfl rfl (by decide) in_out rfl ?_
  exact y_ret yk380 3 rfl rfl
theorem wr_380_e0 {M M1 : Mem} {a b c : Int32} (h : X 154 0 [rR 3 11 1, vI a, vI b, vI c] [] M = some (.inr 0, M1)) : X 380 0 [rR 3 11 1, vI a, vI b, vI c, rR 3 14 1, vJ] [] M = some (.inl (some (vI (cn 1))), M1) := by
  refine y_hnd yk380 7 10 17 5 rfl h (by decide +kernel) (by decide +kernel) rfl ?_
  exact y_ret yk380 2 rfl rfl
theorem wr_380_e1 {M M1 : Mem} {a b c : Int32} (h : X 154 0 [rR 3 11 1, vI a, vI b, vI c] [] M = some (.inr 1, M1)) : X 380 0 [rR 3 11 1, vI a, vI b, vI c, rR 3 14 1, vJ] [] M = some (.inl (some (vI (cn 2))), M1) := by
  refine y_hnd yk380 7 10 21 5 rfl h (by decide +kernel) (by decide +kernel) rfl ?_
  exact y_ret yk380 2 rfl rfl
theorem wr_380_e2 {M M1 : Mem} {a b c : Int32} (h : X 154 0 [rR 3 11 1, vI a, vI b, vI c] [] M = some (.inr 2, M1)) : X 380 0 [rR 3 11 1, vI a, vI b, vI c, rR 3 14 1, vJ] [] M = some (.inl (some (vI (cn 3))), M1) := by
  refine y_hnd yk380 7 10 25 5 rfl h (by decide +kernel) (by decide +kernel) rfl ?_
  exact y_ret yk380 2 rfl rfl
theorem wr_380 {M M1 : Mem} {a b c : Int32} {ans : Int32} {code : Nat} (hc : code ≤ 3) (h : X 154 0 [rR 3 11 1, vI a, vI b, vI c] [] M = evR code [0, 1, 2] (some (.inl (some (vI ans)), M1)) M) : X 380 0 [rR 3 11 1, vI a, vI b, vI c, rR 3 14 1, vJ] [] M = some (.inl (some (vI (cn code))), if code = 0 then sJ M1 3 14 1 0 ans.toInt64 else xc M) := by
  have hh : code = 0 ∨ code = 1 ∨ code = 2 ∨ code = 3 := by omega
  rcases hh with rfl | rfl | rfl | rfl
  · exact wr_380_ok h
  · exact wr_380_e0 h
  · exact wr_380_e1 h
  · exact wr_380_e2 h
def Y381 : List YR := [(0, .aload 6, 2, 0, 0, 0, 0, 0), (2, .iconst 0, 1, 0, 0, 0, 0, 0), (3, .aload_n 0, 1, 0, 0, 0, 0, 0), (4, .iload_n 1, 1, 0, 0, 0, 0, 0), (5, .iload_n 2, 1, 0, 0, 0, 0, 0), (6, .iload_n 3, 1, 0, 0, 0, 0, 0), (7, .iload 4, 2, 0, 0, 0, 0, 0), (9, .iload 5, 2, 0, 0, 0, 0, 0), (11, .invokevirtual 23, 3, 155, 6, 6, 11, 0), (14, .i2l, 1, 0, 0, 0, 0, 0), (15, .lastore, 1, 0, 0, 0, 0, 0), (16, .goto 15, 3, 0, 0, 0, 0, 0), (19, .astore 7, 2, 0, 0, 0, 0, 0), (21, .iconst 1, 1, 0, 0, 0, 0, 1), (22, .ireturn, 1, 0, 0, 0, 0, 0), (23, .astore 7, 2, 0, 0, 0, 0, 0), (25, .iconst 2, 1, 0, 0, 0, 0, 2), (26, .ireturn, 1, 0, 0, 0, 0, 0), (27, .astore 7, 2, 0, 0, 0, 0, 0), (29, .iconst 3, 1, 0, 0, 0, 0, 3), (30, .ireturn, 1, 0, 0, 0, 0, 0), (31, .iconst 0, 1, 0, 0, 0, 0, 0), (32, .ireturn, 1, 0, 0, 0, 0, 0)]
set_option maxRecDepth 100000 in
theorem yr381 : Y381.all (rok3 381) = true := by decide +kernel
set_option maxRecDepth 100000 in
theorem yk381 : T3OK 381 Y381 := t3_ok (K := K381) rfl (fun h => d381 h) yr381
theorem wr_381_ok {M M1 : Mem} {a b c d x : Int32} {ans : Int32} (h : X 155 0 [rR 3 11 1, vI a, vI b, vI c, vI d, vI x] [] M = some (.inl (some (vI ans)), M1)) : X 381 0 [rR 3 11 1, vI a, vI b, vI c, vI d, vI x, rR 3 14 1, vJ] [] M = some (.inl (some (vI (cn 0))), sJ M1 3 14 1 0 ans.toInt64) := by
  refine y_cal yk381 9 14 rfl h ?_
  refine y_lst yk381 1 15 16 _ rfl rfl rfl (by decide) in_out rfl ?_
  exact y_ret yk381 3 rfl rfl
theorem wr_381_e0 {M M1 : Mem} {a b c d x : Int32} (h : X 155 0 [rR 3 11 1, vI a, vI b, vI c, vI d, vI x] [] M = some (.inr 0, M1)) : X 381 0 [rR 3 11 1, vI a, vI b, vI c, vI d, vI x, rR 3 14 1, vJ] [] M = some (.inl (some (vI (cn 1))), M1) := by
  refine y_hnd yk381 9 14 21 7 rfl h (by decide +kernel) (by decide +kernel) rfl ?_
  exact y_ret yk381 2 rfl rfl
theorem wr_381_e1 {M M1 : Mem} {a b c d x : Int32} (h : X 155 0 [rR 3 11 1, vI a, vI b, vI c, vI d, vI x] [] M = some (.inr 1, M1)) : X 381 0 [rR 3 11 1, vI a, vI b, vI c, vI d, vI x, rR 3 14 1, vJ] [] M = some (.inl (some (vI (cn 2))), M1) := by
  refine y_hnd yk381 9 14 25 7 rfl h (by decide +kernel) (by decide +kernel) rfl ?_
  exact y_ret yk381 2 rfl rfl
theorem wr_381_e2 {M M1 : Mem} {a b c d x : Int32} (h : X 155 0 [rR 3 11 1, vI a, vI b, vI c, vI d, vI x] [] M = some (.inr 2, M1)) : X 381 0 [rR 3 11 1, vI a, vI b, vI c, vI d, vI x, rR 3 14 1, vJ] [] M = some (.inl (some (vI (cn 3))), M1) := by
  refine y_hnd yk381 9 14 29 7 rfl h (by decide +kernel) (by decide +kernel) rfl ?_
  exact y_ret yk381 2 rfl rfl
theorem wr_381 {M M1 : Mem} {a b c d x : Int32} {ans : Int32} {code : Nat} (hc : code ≤ 3) (h : X 155 0 [rR 3 11 1, vI a, vI b, vI c, vI d, vI x] [] M = evR code [0, 1, 2] (some (.inl (some (vI ans)), M1)) M) : X 381 0 [rR 3 11 1, vI a, vI b, vI c, vI d, vI x, rR 3 14 1, vJ] [] M = some (.inl (some (vI (cn code))), if code = 0 then sJ M1 3 14 1 0 ans.toInt64 else xc M) := by
  have hh : code = 0 ∨ code = 1 ∨ code = 2 ∨ code = 3 := by omega
  rcases hh with rfl | rfl | rfl | rfl
  · exact wr_381_ok h
  · exact wr_381_e0 h
  · exact wr_381_e1 h
  · exact wr_381_e2 h
def Y382 : List YR := [(0, .aload 6, 2, 0, 0, 0, 0, 0), (2, .iconst 0, 1, 0, 0, 0, 0, 0), (3, .aload_n 0, 1, 0, 0, 0, 0, 0), (4, .iload_n 1, 1, 0, 0, 0, 0, 0), (5, .iload_n 2, 1, 0, 0, 0, 0, 0), (6, .iload_n 3, 1, 0, 0, 0, 0, 0), (7, .iload 4, 2, 0, 0, 0, 0, 0), (9, .iload 5, 2, 0, 0, 0, 0, 0), (11, .invokevirtual 27, 3, 156, 6, 6, 11, 0), (14, .i2l, 1, 0, 0, 0, 0, 0), (15, .lastore, 1, 0, 0, 0, 0, 0), (16, .goto 15, 3, 0, 0, 0, 0, 0), (19, .astore 7, 2, 0, 0, 0, 0, 0), (21, .iconst 1, 1, 0, 0, 0, 0, 1), (22, .ireturn, 1, 0, 0, 0, 0, 0), (23, .astore 7, 2, 0, 0, 0, 0, 0), (25, .iconst 2, 1, 0, 0, 0, 0, 2), (26, .ireturn, 1, 0, 0, 0, 0, 0), (27, .astore 7, 2, 0, 0, 0, 0, 0), (29, .iconst 3, 1, 0, 0, 0, 0, 3), (30, .ireturn, 1, 0, 0, 0, 0, 0), (31, .iconst 0, 1, 0, 0, 0, 0, 0), (32, .ireturn, 1, 0, 0, 0, 0, 0)]
set_option maxRecDepth 100000 in
theorem yr382 : Y382.all (rok3 382) = true := by decide +kernel
set_option maxRecDepth 100000 in
theorem yk382 : T3OK 382 Y382 := t3_ok (K := K382) rfl (fun h => d382 h) yr382
theorem wr_382_ok {M M1 : Mem} {a b c d x : Int32} {ans : Int32} (h : X 156 0 [rR 3 11 1, vI a, vI b, vI c, vI d, vI x] [] M = some (.inl (some (vI ans)), M1)) : X 382 0 [rR 3 11 1, vI a, vI b, vI c, vI d, vI x, rR 3 14 1, vJ] [] M = some (.inl (some (vI (cn 0))), sJ M1 3 14 1 0 ans.toInt64) := by
  refine y_cal yk382 9 14 rfl h ?_
  refine y_lst yk382 1 15 16 _ rfl rfl rfl (by decide) in_out rfl ?_
  exact y_ret yk382 3 rfl rfl
theorem wr_382_e0 {M M1 : Mem} {a b c d x : Int32} (h : X 156 0 [rR 3 11 1, vI a, vI b, vI c, vI d, vI x] [] M = some (.inr 0, M1)) : X 382 0 [rR 3 11 1, vI a, vI b, vI c, vI d, vI x, rR 3 14 1, vJ] [] M = some (.inl (some (vI (cn 1))), M1) := by
  refine y_hnd yk382 9 14 21 7 rfl h (by decide +kernel) (by decide +kernel) rfl ?_
  exact y_ret yk382 2 rfl rfl
theorem wr_382_e1 {M M1 : Mem} {a b c d x : Int32} (h : X 156 0 [rR 3 11 1, vI a, vI b, vI c, vI d, vI x] [] M = some (.inr 1, M1)) : X 382 0 [rR 3 11 1, vI a, vI b, vI c, vI d, vI x, rR 3 14 1, vJ] [] M = some (.inl (some (vI (cn 2))), M1) := by
  refine y_hnd yk382 9 14 25 7 rfl h (by decide +kernel) (by decide +kernel) rfl ?_
  exact y_ret yk382 2 rfl rfl
theorem wr_382_e2 {M M1 : Mem} {a b c d x : Int32} (h : X 156 0 [rR 3 11 1, vI a, vI b, vI c, vI d, vI x] [] M = some (.inr 2, M1)) : X 382 0 [rR 3 11 1, vI a, vI b, vI c, vI d, vI x, rR 3 14 1, vJ] [] M = some (.inl (some (vI (cn 3))), M1) := by
  refine y_hnd yk382 9 14 29 7 rfl h (by decide +kernel) (by decide +kernel) rfl ?_
  exact y_ret yk382 2 rfl rfl
theorem wr_382 {M M1 : Mem} {a b c d x : Int32} {ans : Int32} {code : Nat} (hc : code ≤ 3) (h : X 156 0 [rR 3 11 1, vI a, vI b, vI c, vI d, vI x] [] M = evR code [0, 1, 2] (some (.inl (some (vI ans)), M1)) M) : X 382 0 [rR 3 11 1, vI a, vI b, vI c, vI d, vI x, rR 3 14 1, vJ] [] M = some (.inl (some (vI (cn code))), if code = 0 then sJ M1 3 14 1 0 ans.toInt64 else xc M) := by
  have hh : code = 0 ∨ code = 1 ∨ code = 2 ∨ code = 3 := by omega
  rcases hh with rfl | rfl | rfl | rfl
  · exact wr_382_ok h
  · exact wr_382_e0 h
  · exact wr_382_e1 h
  · exact wr_382_e2 h
def Y383 : List YR := [(0, .aload 6, 2, 0, 0, 0, 0, 0), (2, .iconst 0, 1, 0, 0, 0, 0, 0), (3, .aload_n 0, 1, 0, 0, 0, 0, 0), (4, .iload_n 1, 1, 0, 0, 0, 0, 0), (5, .iload_n 2, 1, 0, 0, 0, 0, 0), (6, .iload_n 3, 1, 0, 0, 0, 0, 0), (7, .iload 4, 2, 0, 0, 0, 0, 0), (9, .iload 5, 2, 0, 0, 0, 0, 0), (11, .invokevirtual 30, 3, 157, 6, 6, 11, 0), (14, .i2l, 1, 0, 0, 0, 0, 0), (15, .lastore, 1, 0, 0, 0, 0, 0), (16, .goto 15, 3, 0, 0, 0, 0, 0), (19, .astore 7, 2, 0, 0, 0, 0, 0), (21, .iconst 1, 1, 0, 0, 0, 0, 1), (22, .ireturn, 1, 0, 0, 0, 0, 0), (23, .astore 7, 2, 0, 0, 0, 0, 0), (25, .iconst 2, 1, 0, 0, 0, 0, 2), (26, .ireturn, 1, 0, 0, 0, 0, 0), (27, .astore 7, 2, 0, 0, 0, 0, 0), (29, .iconst 3, 1, 0, 0, 0, 0, 3), (30, .ireturn, 1, 0, 0, 0, 0, 0), (31, .iconst 0, 1, 0, 0, 0, 0, 0), (32, .ireturn, 1, 0, 0, 0, 0, 0)]
set_option maxRecDepth 100000 in
theorem yr383 : Y383.all (rok3 383) = true := by decide +kernel
set_option maxRecDepth 100000 in
theorem yk383 : T3OK 383 Y383 := t3_ok (K := K383) rfl (fun h => d383 h) yr383
theorem wr_383_ok {M M1 : Mem} {a b c d x : Int32} {ans : Int32} (h : X 157 0 [rR 3 11 1, vI a, vI b, vI c, vI d, vI x] [] M = some (.inl (some (vI ans)), M1)) : X 383 0 [rR 3 11 1, vI a, vI b, vI c, vI d, vI x, rR 3 14 1, vJ] [] M = some (.inl (some (vI (cn 0))), sJ M1 3 14 1 0 ans.toInt64) := by
  refine y_cal yk383 9 14 rfl h ?_
  refine y_lst yk383 1 15 16 _ rfl rfl rfl (by decide) in_out rfl ?_
  exact y_ret yk383 3 rfl rfl
theorem wr_383_e0 {M M1 : Mem} {a b c d x : Int32} (h : X 157 0 [rR 3 11 1, vI a, vI b, vI c, vI d, vI x] [] M = some (.inr 0, M1)) : X 383 0 [rR 3 11 1, vI a, vI b, vI c, vI d, vI x, rR 3 14 1, vJ] [] M = some (.inl (some (vI (cn 1))), M1) := by
  refine y_hnd yk383 9 14 21 7 rfl h (by decide +kernel) (by decide +kernel) rfl ?_
  exact y_ret yk383 2 rfl rfl
theorem wr_383_e1 {M M1 : Mem} {a b c d x : Int32} (h : X 157 0 [rR 3 11 1, vI a, vI b, vI c, vI d, vI x] [] M = some (.inr 1, M1)) : X 383 0 [rR 3 11 1, vI a, vI b, vI c, vI d, vI x, rR 3 14 1, vJ] [] M = some (.inl (some (vI (cn 2))), M1) := by
  refine y_hnd yk383 9 14 25 7 rfl h (by decide +kernel) (by decide +kernel) rfl ?_
  exact y_ret yk383 2 rfl rfl
theorem wr_383_e2 {M M1 : Mem} {a b c d x : Int32} (h : X 157 0 [rR 3 11 1, vI a, vI b, vI c, vI d, vI x] [] M = some (.inr 2, M1)) : X 383 0 [rR 3 11 1, vI a, vI b, vI c, vI d, vI x, rR 3 14 1, vJ] [] M = some (.inl (some (vI (cn 3))), M1) := by
  refine y_hnd yk383 9 14 29 7 rfl h (by decide +kernel) (by decide +kernel) rfl ?_
  exact y_ret yk383 2 rfl rfl
theorem wr_383 {M M1 : Mem} {a b c d x : Int32} {ans : Int32} {code : Nat} (hc : code ≤ 3) (h : X 157 0 [rR 3 11 1, vI a, vI b, vI c, vI d, vI x] [] M = evR code [0, 1, 2] (some (.inl (some (vI ans)), M1)) M) : X 383 0 [rR 3 11 1, vI a, vI b, vI c, vI d, vI x, rR 3 14 1, vJ] [] M = some (.inl (some (vI (cn code))), if code = 0 then sJ M1 3 14 1 0 ans.toInt64 else xc M) := by
  have hh : code = 0 ∨ code = 1 ∨ code = 2 ∨ code = 3 := by omega
  rcases hh with rfl | rfl | rfl | rfl
  · exact wr_383_ok h
  · exact wr_383_e0 h
  · exact wr_383_e1 h
  · exact wr_383_e2 h
def Y384 : List YR := [(0, .aload 6, 2, 0, 0, 0, 0, 0), (2, .iconst 0, 1, 0, 0, 0, 0, 0), (3, .aload_n 0, 1, 0, 0, 0, 0, 0), (4, .iload_n 1, 1, 0, 0, 0, 0, 0), (5, .iload_n 2, 1, 0, 0, 0, 0, 0), (6, .iload_n 3, 1, 0, 0, 0, 0, 0), (7, .iload 4, 2, 0, 0, 0, 0, 0), (9, .iload 5, 2, 0, 0, 0, 0, 0), (11, .invokevirtual 33, 3, 158, 6, 7, 11, 0), (14, .i2l, 1, 0, 0, 0, 0, 0), (15, .lastore, 1, 0, 0, 0, 0, 0), (16, .goto 15, 3, 0, 0, 0, 0, 0), (19, .astore 7, 2, 0, 0, 0, 0, 0), (21, .iconst 1, 1, 0, 0, 0, 0, 1), (22, .ireturn, 1, 0, 0, 0, 0, 0), (23, .astore 7, 2, 0, 0, 0, 0, 0), (25, .iconst 2, 1, 0, 0, 0, 0, 2), (26, .ireturn, 1, 0, 0, 0, 0, 0), (27, .astore 7, 2, 0, 0, 0, 0, 0), (29, .iconst 3, 1, 0, 0, 0, 0, 3), (30, .ireturn, 1, 0, 0, 0, 0, 0), (31, .iconst 0, 1, 0, 0, 0, 0, 0), (32, .ireturn, 1, 0, 0, 0, 0, 0)]
set_option maxRecDepth 100000 in
theorem yr384 : Y384.all (rok3 384) = true := by decide +kernel
set_option maxRecDepth 100000 in
theorem yk384 : T3OK 384 Y384 := t3_ok (K := K384) rfl (fun h => d384 h) yr384
theorem wr_384_ok {M M1 : Mem} {a b c d x : Int32} {ans : Int32} (h : X 158 0 [rR 3 11 1, vI a, vI b, vI c, vI d, vI x, vJ] [] M = some (.inl (some (vI ans)), M1)) : X 384 0 [rR 3 11 1, vI a, vI b, vI c, vI d, vI x, rR 3 14 1, vJ] [] M = some (.inl (some (vI (cn 0))), sJ M1 3 14 1 0 ans.toInt64) := by
  refine y_cal yk384 9 14 rfl h ?_
  refine y_lst yk384 1 15 16 _ rfl rfl rfl (by decide) in_out rfl ?_
  exact y_ret yk384 3 rfl rfl
theorem wr_384_e0 {M M1 : Mem} {a b c d x : Int32} (h : X 158 0 [rR 3 11 1, vI a, vI b, vI c, vI d, vI x, vJ] [] M = some (.inr 0, M1)) : X 384 0 [rR 3 11 1, vI a, vI b, vI c, vI d, vI x, rR 3 14 1, vJ] [] M = some (.inl (some (vI (cn 1))), M1) := by
  refine y_hnd yk384 9 14 21 7 rfl h (by decide +kernel) (by decide +kernel) rfl ?_
  exact y_ret yk384 2 rfl rfl
theorem wr_384_e1 {M M1 : Mem} {a b c d x : Int32} (h : X 158 0 [rR 3 11 1, vI a, vI b, vI c, vI d, vI x, vJ] [] M = some (.inr 1, M1)) : X 384 0 [rR 3 11 1, vI a, vI b, vI c, vI d, vI x, rR 3 14 1, vJ] [] M = some (.inl (some (vI (cn 2))), M1) := by
  refine y_hnd yk384 9 14 25 7 rfl h (by decide +kernel) (by decide +kernel) rfl ?_
  exact y_ret yk384 2 rfl rfl
theorem wr_384_e2 {M M1 : Mem} {a b c d x : Int32} (h : X 158 0 [rR 3 11 1, vI a, vI b, vI c, vI d, vI x, vJ] [] M = some (.inr 2, M1)) : X 384 0 [rR 3 11 1, vI a, vI b, vI c, vI d, vI x, rR 3 14 1, vJ] [] M = some (.inl (some (vI (cn 3))), M1) := by
  refine y_hnd yk384 9 14 29 7 rfl h (by decide +kernel) (by decide +kernel) rfl ?_
  exact y_ret yk384 2 rfl rfl
theorem wr_384 {M M1 : Mem} {a b c d x : Int32} {ans : Int32} {code : Nat} (hc : code ≤ 3) (h : X 158 0 [rR 3 11 1, vI a, vI b, vI c, vI d, vI x, vJ] [] M = evR code [0, 1, 2] (some (.inl (some (vI ans)), M1)) M) : X 384 0 [rR 3 11 1, vI a, vI b, vI c, vI d, vI x, rR 3 14 1, vJ] [] M = some (.inl (some (vI (cn code))), if code = 0 then sJ M1 3 14 1 0 ans.toInt64 else xc M) := by
  have hh : code = 0 ∨ code = 1 ∨ code = 2 ∨ code = 3 := by omega
  rcases hh with rfl | rfl | rfl | rfl
  · exact wr_384_ok h
  · exact wr_384_e0 h
  · exact wr_384_e1 h
  · exact wr_384_e2 h
def Y385 : List YR := [(0, .aload_n 2, 1, 0, 0, 0, 0, 0), (1, .iconst 0, 1, 0, 0, 0, 0, 0), (2, .aload_n 0, 1, 0, 0, 0, 0, 0), (3, .iload_n 1, 1, 0, 0, 0, 0, 0), (4, .invokevirtual 36, 3, 159, 2, 3, 11, 0), (7, .i2l, 1, 0, 0, 0, 0, 0), (8, .lastore, 1, 0, 0, 0, 0, 0), (9, .goto 9, 3, 0, 0, 0, 0, 0), (12, .astore_n 3, 1, 0, 0, 0, 0, 0), (13, .iconst 1, 1, 0, 0, 0, 0, 1), (14, .ireturn, 1, 0, 0, 0, 0, 0), (15, .astore_n 3, 1, 0, 0, 0, 0, 0), (16, .iconst 2, 1, 0, 0, 0, 0, 2), (17, .ireturn, 1, 0, 0, 0, 0, 0), (18, .iconst 0, 1, 0, 0, 0, 0, 0), (19, .ireturn, 1, 0, 0, 0, 0, 0)]
set_option maxRecDepth 100000 in
theorem yr385 : Y385.all (rok3 385) = true := by decide +kernel
set_option maxRecDepth 100000 in
theorem yk385 : T3OK 385 Y385 := t3_ok (K := K385) rfl (fun h => d385 h) yr385
theorem wr_385_ok {M M1 : Mem} {a : Int32} {ans : Int32} (h : X 159 0 [rR 3 11 1, vI a, vJ] [] M = some (.inl (some (vI ans)), M1)) : X 385 0 [rR 3 11 1, vI a, rR 3 14 1, vJ] [] M = some (.inl (some (vI (cn 0))), sJ M1 3 14 1 0 ans.toInt64) := by
  refine y_cal yk385 5 7 rfl h ?_
  refine y_lst yk385 1 8 9 _ rfl rfl rfl (by decide) in_out rfl ?_
  exact y_ret yk385 3 rfl rfl
theorem wr_385_e0 {M M1 : Mem} {a : Int32} (h : X 159 0 [rR 3 11 1, vI a, vJ] [] M = some (.inr 0, M1)) : X 385 0 [rR 3 11 1, vI a, rR 3 14 1, vJ] [] M = some (.inl (some (vI (cn 1))), M1) := by
  refine y_hnd yk385 5 7 13 3 rfl h (by decide +kernel) (by decide +kernel) rfl ?_
  exact y_ret yk385 2 rfl rfl
theorem wr_385_e2 {M M1 : Mem} {a : Int32} (h : X 159 0 [rR 3 11 1, vI a, vJ] [] M = some (.inr 2, M1)) : X 385 0 [rR 3 11 1, vI a, rR 3 14 1, vJ] [] M = some (.inl (some (vI (cn 2))), M1) := by
  refine y_hnd yk385 5 7 16 3 rfl h (by decide +kernel) (by decide +kernel) rfl ?_
  exact y_ret yk385 2 rfl rfl
theorem wr_385 {M M1 : Mem} {a : Int32} {ans : Int32} {code : Nat} (hc : code ≤ 2) (h : X 159 0 [rR 3 11 1, vI a, vJ] [] M = evR code [0, 2] (some (.inl (some (vI ans)), M1)) M) : X 385 0 [rR 3 11 1, vI a, rR 3 14 1, vJ] [] M = some (.inl (some (vI (cn code))), if code = 0 then sJ M1 3 14 1 0 ans.toInt64 else xc M) := by
  have hh : code = 0 ∨ code = 1 ∨ code = 2 := by omega
  rcases hh with rfl | rfl | rfl
  · exact wr_385_ok h
  · exact wr_385_e0 h
  · exact wr_385_e2 h
def Y386 : List YR := [(0, .aload 5, 2, 0, 0, 0, 0, 0), (2, .iconst 0, 1, 0, 0, 0, 0, 0), (3, .aload_n 0, 1, 0, 0, 0, 0, 0), (4, .iload_n 1, 1, 0, 0, 0, 0, 0), (5, .iload_n 2, 1, 0, 0, 0, 0, 0), (6, .iload_n 3, 1, 0, 0, 0, 0, 0), (7, .iload 4, 2, 0, 0, 0, 0, 0), (9, .invokevirtual 40, 3, 160, 5, 5, 11, 0), (12, .i2l, 1, 0, 0, 0, 0, 0), (13, .lastore, 1, 0, 0, 0, 0, 0), (14, .goto 11, 3, 0, 0, 0, 0, 0), (17, .astore 6, 2, 0, 0, 0, 0, 0), (19, .iconst 1, 1, 0, 0, 0, 0, 1), (20, .ireturn, 1, 0, 0, 0, 0, 0), (21, .astore 6, 2, 0, 0, 0, 0, 0), (23, .iconst 2, 1, 0, 0, 0, 0, 2), (24, .ireturn, 1, 0, 0, 0, 0, 0), (25, .iconst 0, 1, 0, 0, 0, 0, 0), (26, .ireturn, 1, 0, 0, 0, 0, 0)]
set_option maxRecDepth 100000 in
theorem yr386 : Y386.all (rok3 386) = true := by decide +kernel
set_option maxRecDepth 100000 in
theorem yk386 : T3OK 386 Y386 := t3_ok (K := K386) rfl (fun h => d386 h) yr386
theorem wr_386_ok {M M1 : Mem} {a b c d : Int32} {ans : Int32} (h : X 160 0 [rR 3 11 1, vI a, vI b, vI c, vI d] [] M = some (.inl (some (vI ans)), M1)) : X 386 0 [rR 3 11 1, vI a, vI b, vI c, vI d, rR 3 14 1, vJ] [] M = some (.inl (some (vI (cn 0))), sJ M1 3 14 1 0 ans.toInt64) := by
  refine y_cal yk386 8 12 rfl h ?_
  refine y_lst yk386 1 13 14 _ rfl rfl rfl (by decide) in_out rfl ?_
  exact y_ret yk386 3 rfl rfl
theorem wr_386_e0 {M M1 : Mem} {a b c d : Int32} (h : X 160 0 [rR 3 11 1, vI a, vI b, vI c, vI d] [] M = some (.inr 0, M1)) : X 386 0 [rR 3 11 1, vI a, vI b, vI c, vI d, rR 3 14 1, vJ] [] M = some (.inl (some (vI (cn 1))), M1) := by
  refine y_hnd yk386 8 12 19 6 rfl h (by decide +kernel) (by decide +kernel) rfl ?_
  exact y_ret yk386 2 rfl rfl
theorem wr_386_e1 {M M1 : Mem} {a b c d : Int32} (h : X 160 0 [rR 3 11 1, vI a, vI b, vI c, vI d] [] M = some (.inr 1, M1)) : X 386 0 [rR 3 11 1, vI a, vI b, vI c, vI d, rR 3 14 1, vJ] [] M = some (.inl (some (vI (cn 2))), M1) := by
  refine y_hnd yk386 8 12 23 6 rfl h (by decide +kernel) (by decide +kernel) rfl ?_
  exact y_ret yk386 2 rfl rfl
theorem wr_386 {M M1 : Mem} {a b c d : Int32} {ans : Int32} {code : Nat} (hc : code ≤ 2) (h : X 160 0 [rR 3 11 1, vI a, vI b, vI c, vI d] [] M = evR code [0, 1] (some (.inl (some (vI ans)), M1)) M) : X 386 0 [rR 3 11 1, vI a, vI b, vI c, vI d, rR 3 14 1, vJ] [] M = some (.inl (some (vI (cn code))), if code = 0 then sJ M1 3 14 1 0 ans.toInt64 else xc M) := by
  have hh : code = 0 ∨ code = 1 ∨ code = 2 := by omega
  rcases hh with rfl | rfl | rfl
  · exact wr_386_ok h
  · exact wr_386_e0 h
  · exact wr_386_e1 h
def Y387 : List YR := [(0, .aload_n 3, 1, 0, 0, 0, 0, 0), (1, .iconst 0, 1, 0, 0, 0, 0, 0), (2, .aload_n 0, 1, 0, 0, 0, 0, 0), (3, .iload_n 1, 1, 0, 0, 0, 0, 0), (4, .iload_n 2, 1, 0, 0, 0, 0, 0), (5, .invokevirtual 44, 3, 161, 3, 3, 11, 0), (8, .i2l, 1, 0, 0, 0, 0, 0), (9, .lastore, 1, 0, 0, 0, 0, 0), (10, .goto 11, 3, 0, 0, 0, 0, 0), (13, .astore 4, 2, 0, 0, 0, 0, 0), (15, .iconst 1, 1, 0, 0, 0, 0, 1), (16, .ireturn, 1, 0, 0, 0, 0, 0), (17, .astore 4, 2, 0, 0, 0, 0, 0), (19, .iconst 2, 1, 0, 0, 0, 0, 2), (20, .ireturn, 1, 0, 0, 0, 0, 0), (21, .iconst 0, 1, 0, 0, 0, 0, 0), (22, .ireturn, 1, 0, 0, 0, 0, 0)]
set_option maxRecDepth 100000 in
theorem yr387 : Y387.all (rok3 387) = true := by decide +kernel
set_option maxRecDepth 100000 in
theorem yk387 : T3OK 387 Y387 := t3_ok (K := K387) rfl (fun h => d387 h) yr387
theorem wr_387_ok {M M1 : Mem} {a b : Int32} {ans : Int32} (h : X 161 0 [rR 3 11 1, vI a, vI b] [] M = some (.inl (some (vI ans)), M1)) : X 387 0 [rR 3 11 1, vI a, vI b, rR 3 14 1, vJ] [] M = some (.inl (some (vI (cn 0))), sJ M1 3 14 1 0 ans.toInt64) := by
  refine y_cal yk387 6 8 rfl h ?_
  refine y_lst yk387 1 9 10 _ rfl rfl rfl (by decide) in_out rfl ?_
  exact y_ret yk387 3 rfl rfl
theorem wr_387_e0 {M M1 : Mem} {a b : Int32} (h : X 161 0 [rR 3 11 1, vI a, vI b] [] M = some (.inr 0, M1)) : X 387 0 [rR 3 11 1, vI a, vI b, rR 3 14 1, vJ] [] M = some (.inl (some (vI (cn 1))), M1) := by
  refine y_hnd yk387 6 8 15 4 rfl h (by decide +kernel) (by decide +kernel) rfl ?_
  exact y_ret yk387 2 rfl rfl
theorem wr_387_e1 {M M1 : Mem} {a b : Int32} (h : X 161 0 [rR 3 11 1, vI a, vI b] [] M = some (.inr 1, M1)) : X 387 0 [rR 3 11 1, vI a, vI b, rR 3 14 1, vJ] [] M = some (.inl (some (vI (cn 2))), M1) := by
  refine y_hnd yk387 6 8 19 4 rfl h (by decide +kernel) (by decide +kernel) rfl ?_
  exact y_ret yk387 2 rfl rfl
theorem wr_387 {M M1 : Mem} {a b : Int32} {ans : Int32} {code : Nat} (hc : code ≤ 2) (h : X 161 0 [rR 3 11 1, vI a, vI b] [] M = evR code [0, 1] (some (.inl (some (vI ans)), M1)) M) : X 387 0 [rR 3 11 1, vI a, vI b, rR 3 14 1, vJ] [] M = some (.inl (some (vI (cn code))), if code = 0 then sJ M1 3 14 1 0 ans.toInt64 else xc M) := by
  have hh : code = 0 ∨ code = 1 ∨ code = 2 := by omega
  rcases hh with rfl | rfl | rfl
  · exact wr_387_ok h
  · exact wr_387_e0 h
  · exact wr_387_e1 h
def Y388 : List YR := [(0, .aload_n 3, 1, 0, 0, 0, 0, 0), (1, .iconst 0, 1, 0, 0, 0, 0, 0), (2, .aload_n 0, 1, 0, 0, 0, 0, 0), (3, .iload_n 1, 1, 0, 0, 0, 0, 0), (4, .iload_n 2, 1, 0, 0, 0, 0, 0), (5, .invokevirtual 48, 3, 162, 3, 3, 11, 0), (8, .i2l, 1, 0, 0, 0, 0, 0), (9, .lastore, 1, 0, 0, 0, 0, 0), (10, .goto 11, 3, 0, 0, 0, 0, 0), (13, .astore 4, 2, 0, 0, 0, 0, 0), (15, .iconst 1, 1, 0, 0, 0, 0, 1), (16, .ireturn, 1, 0, 0, 0, 0, 0), (17, .astore 4, 2, 0, 0, 0, 0, 0), (19, .iconst 2, 1, 0, 0, 0, 0, 2), (20, .ireturn, 1, 0, 0, 0, 0, 0), (21, .iconst 0, 1, 0, 0, 0, 0, 0), (22, .ireturn, 1, 0, 0, 0, 0, 0)]
set_option maxRecDepth 100000 in
theorem yr388 : Y388.all (rok3 388) = true := by decide +kernel
set_option maxRecDepth 100000 in
theorem yk388 : T3OK 388 Y388 := t3_ok (K := K388) rfl (fun h => d388 h) yr388
theorem wr_388_ok {M M1 : Mem} {a b : Int32} {ans : Int32} (h : X 162 0 [rR 3 11 1, vI a, vI b] [] M = some (.inl (some (vI ans)), M1)) : X 388 0 [rR 3 11 1, vI a, vI b, rR 3 14 1, vJ] [] M = some (.inl (some (vI (cn 0))), sJ M1 3 14 1 0 ans.toInt64) := by
  refine y_cal yk388 6 8 rfl h ?_
  refine y_lst yk388 1 9 10 _ rfl rfl rfl (by decide) in_out rfl ?_
  exact y_ret yk388 3 rfl rfl
theorem wr_388_e0 {M M1 : Mem} {a b : Int32} (h : X 162 0 [rR 3 11 1, vI a, vI b] [] M = some (.inr 0, M1)) : X 388 0 [rR 3 11 1, vI a, vI b, rR 3 14 1, vJ] [] M = some (.inl (some (vI (cn 1))), M1) := by
  refine y_hnd yk388 6 8 15 4 rfl h (by decide +kernel) (by decide +kernel) rfl ?_
  exact y_ret yk388 2 rfl rfl
theorem wr_388_e1 {M M1 : Mem} {a b : Int32} (h : X 162 0 [rR 3 11 1, vI a, vI b] [] M = some (.inr 1, M1)) : X 388 0 [rR 3 11 1, vI a, vI b, rR 3 14 1, vJ] [] M = some (.inl (some (vI (cn 2))), M1) := by
  refine y_hnd yk388 6 8 19 4 rfl h (by decide +kernel) (by decide +kernel) rfl ?_
  exact y_ret yk388 2 rfl rfl
theorem wr_388 {M M1 : Mem} {a b : Int32} {ans : Int32} {code : Nat} (hc : code ≤ 2) (h : X 162 0 [rR 3 11 1, vI a, vI b] [] M = evR code [0, 1] (some (.inl (some (vI ans)), M1)) M) : X 388 0 [rR 3 11 1, vI a, vI b, rR 3 14 1, vJ] [] M = some (.inl (some (vI (cn code))), if code = 0 then sJ M1 3 14 1 0 ans.toInt64 else xc M) := by
  have hh : code = 0 ∨ code = 1 ∨ code = 2 := by omega
  rcases hh with rfl | rfl | rfl
  · exact wr_388_ok h
  · exact wr_388_e0 h
  · exact wr_388_e1 h
def Y389 : List YR := [(0, .aload 4, 2, 0, 0, 0, 0, 0), (2, .iconst 0, 1, 0, 0, 0, 0, 0), (3, .aload_n 0, 1, 0, 0, 0, 0, 0), (4, .iload_n 1, 1, 0, 0, 0, 0, 0), (5, .iload_n 2, 1, 0, 0, 0, 0, 0), (6, .iload_n 3, 1, 0, 0, 0, 0, 0), (7, .invokevirtual 51, 3, 163, 4, 4, 11, 0), (10, .i2l, 1, 0, 0, 0, 0, 0), (11, .lastore, 1, 0, 0, 0, 0, 0), (12, .goto 11, 3, 0, 0, 0, 0, 0), (15, .astore 5, 2, 0, 0, 0, 0, 0), (17, .iconst 1, 1, 0, 0, 0, 0, 1), (18, .ireturn, 1, 0, 0, 0, 0, 0), (19, .astore 5, 2, 0, 0, 0, 0, 0), (21, .iconst 2, 1, 0, 0, 0, 0, 2), (22, .ireturn, 1, 0, 0, 0, 0, 0), (23, .iconst 0, 1, 0, 0, 0, 0, 0), (24, .ireturn, 1, 0, 0, 0, 0, 0)]
set_option maxRecDepth 100000 in
theorem yr389 : Y389.all (rok3 389) = true := by decide +kernel
set_option maxRecDepth 100000 in
theorem yk389 : T3OK 389 Y389 := t3_ok (K := K389) rfl (fun h => d389 h) yr389
theorem wr_389_ok {M M1 : Mem} {a b c : Int32} {ans : Int32} (h : X 163 0 [rR 3 11 1, vI a, vI b, vI c] [] M = some (.inl (some (vI ans)), M1)) : X 389 0 [rR 3 11 1, vI a, vI b, vI c, rR 3 14 1, vJ] [] M = some (.inl (some (vI (cn 0))), sJ M1 3 14 1 0 ans.toInt64) := by
  refine y_cal yk389 7 10 rfl h ?_
  refine y_lst yk389 1 11 12 _ rfl rfl rfl (by decide) in_out rfl ?_
  exact y_ret yk389 3 rfl rfl
theorem wr_389_e0 {M M1 : Mem} {a b c : Int32} (h : X 163 0 [rR 3 11 1, vI a, vI b, vI c] [] M = some (.inr 0, M1)) : X 389 0 [rR 3 11 1, vI a, vI b, vI c, rR 3 14 1, vJ] [] M = some (.inl (some (vI (cn 1))), M1) := by
  refine y_hnd yk389 7 10 17 5 rfl h (by decide +kernel) (by decide +kernel) rfl ?_
  exact y_ret yk389 2 rfl rfl
theorem wr_389_e1 {M M1 : Mem} {a b c : Int32} (h : X 163 0 [rR 3 11 1, vI a, vI b, vI c] [] M = some (.inr 1, M1)) : X 389 0 [rR 3 11 1, vI a, vI b, vI c, rR 3 14 1, vJ] [] M = some (.inl (some (vI (cn 2))), M1) := by
  refine y_hnd yk389 7 10 21 5 rfl h (by decide +kernel) (by decide +kernel) rfl ?_
  exact y_ret yk389 2 rfl rfl
theorem wr_389 {M M1 : Mem} {a b c : Int32} {ans : Int32} {code : Nat} (hc : code ≤ 2) (h : X 163 0 [rR 3 11 1, vI a, vI b, vI c] [] M = evR code [0, 1] (some (.inl (some (vI ans)), M1)) M) : X 389 0 [rR 3 11 1, vI a, vI b, vI c, rR 3 14 1, vJ] [] M = some (.inl (some (vI (cn code))), if code = 0 then sJ M1 3 14 1 0 ans.toInt64 else xc M) := by
  have hh : code = 0 ∨ code = 1 ∨ code = 2 := by omega
  rcases hh with rfl | rfl | rfl
  · exact wr_389_ok h
  · exact wr_389_e0 h
  · exact wr_389_e1 h
def Y390 : List YR := [(0, .aload 5, 2, 0, 0, 0, 0, 0), (2, .iconst 0, 1, 0, 0, 0, 0, 0), (3, .aload_n 0, 1, 0, 0, 0, 0, 0), (4, .iload_n 1, 1, 0, 0, 0, 0, 0), (5, .iload_n 2, 1, 0, 0, 0, 0, 0), (6, .iload_n 3, 1, 0, 0, 0, 0, 0), (7, .iload 4, 2, 0, 0, 0, 0, 0), (9, .invokevirtual 54, 3, 164, 5, 5, 11, 0), (12, .i2l, 1, 0, 0, 0, 0, 0), (13, .lastore, 1, 0, 0, 0, 0, 0), (14, .goto 15, 3, 0, 0, 0, 0, 0), (17, .astore 6, 2, 0, 0, 0, 0, 0), (19, .iconst 1, 1, 0, 0, 0, 0, 1), (20, .ireturn, 1, 0, 0, 0, 0, 0), (21, .astore 6, 2, 0, 0, 0, 0, 0), (23, .iconst 2, 1, 0, 0, 0, 0, 2), (24, .ireturn, 1, 0, 0, 0, 0, 0), (25, .astore 6, 2, 0, 0, 0, 0, 0), (27, .iconst 3, 1, 0, 0, 0, 0, 3), (28, .ireturn, 1, 0, 0, 0, 0, 0), (29, .iconst 0, 1, 0, 0, 0, 0, 0), (30, .ireturn, 1, 0, 0, 0, 0, 0)]
set_option maxRecDepth 100000 in
theorem yr390 : Y390.all (rok3 390) = true := by decide +kernel
set_option maxRecDepth 100000 in
theorem yk390 : T3OK 390 Y390 := t3_ok (K := K390) rfl (fun h => d390 h) yr390
theorem wr_390_ok {M M1 : Mem} {a b c d : Int32} {ans : Int32} (h : X 164 0 [rR 3 11 1, vI a, vI b, vI c, vI d] [] M = some (.inl (some (vI ans)), M1)) : X 390 0 [rR 3 11 1, vI a, vI b, vI c, vI d, rR 3 14 1, vJ] [] M = some (.inl (some (vI (cn 0))), sJ M1 3 14 1 0 ans.toInt64) := by
  refine y_cal yk390 8 12 rfl h ?_
  refine y_lst yk390 1 13 14 _ rfl rfl rfl (by decide) in_out rfl ?_
  exact y_ret yk390 3 rfl rfl
theorem wr_390_e0 {M M1 : Mem} {a b c d : Int32} (h : X 164 0 [rR 3 11 1, vI a, vI b, vI c, vI d] [] M = some (.inr 0, M1)) : X 390 0 [rR 3 11 1, vI a, vI b, vI c, vI d, rR 3 14 1, vJ] [] M = some (.inl (some (vI (cn 1))), M1) := by
  refine y_hnd yk390 8 12 19 6 rfl h (by decide +kernel) (by decide +kernel) rfl ?_
  exact y_ret yk390 2 rfl rfl
theorem wr_390_e1 {M M1 : Mem} {a b c d : Int32} (h : X 164 0 [rR 3 11 1, vI a, vI b, vI c, vI d] [] M = some (.inr 1, M1)) : X 390 0 [rR 3 11 1, vI a, vI b, vI c, vI d, rR 3 14 1, vJ] [] M = some (.inl (some (vI (cn 2))), M1) := by
  refine y_hnd yk390 8 12 23 6 rfl h (by decide +kernel) (by decide +kernel) rfl ?_
  exact y_ret yk390 2 rfl rfl
theorem wr_390_e2 {M M1 : Mem} {a b c d : Int32} (h : X 164 0 [rR 3 11 1, vI a, vI b, vI c, vI d] [] M = some (.inr 2, M1)) : X 390 0 [rR 3 11 1, vI a, vI b, vI c, vI d, rR 3 14 1, vJ] [] M = some (.inl (some (vI (cn 3))), M1) := by
  refine y_hnd yk390 8 12 27 6 rfl h (by decide +kernel) (by decide +kernel) rfl ?_
  exact y_ret yk390 2 rfl rfl
theorem wr_390 {M M1 : Mem} {a b c d : Int32} {ans : Int32} {code : Nat} (hc : code ≤ 3) (h : X 164 0 [rR 3 11 1, vI a, vI b, vI c, vI d] [] M = evR code [0, 1, 2] (some (.inl (some (vI ans)), M1)) M) : X 390 0 [rR 3 11 1, vI a, vI b, vI c, vI d, rR 3 14 1, vJ] [] M = some (.inl (some (vI (cn code))), if code = 0 then sJ M1 3 14 1 0 ans.toInt64 else xc M) := by
  have hh : code = 0 ∨ code = 1 ∨ code = 2 ∨ code = 3 := by omega
  rcases hh with rfl | rfl | rfl | rfl
  · exact wr_390_ok h
  · exact wr_390_e0 h
  · exact wr_390_e1 h
  · exact wr_390_e2 h
def Y391 : List YR := [(0, .aload_n 2, 1, 0, 0, 0, 0, 0), (1, .iconst 0, 1, 0, 0, 0, 0, 0), (2, .aload_n 0, 1, 0, 0, 0, 0, 0), (3, .iload_n 1, 1, 0, 0, 0, 0, 0), (4, .invokevirtual 57, 3, 165, 2, 2, 11, 0), (7, .i2l, 1, 0, 0, 0, 0, 0), (8, .lastore, 1, 0, 0, 0, 0, 0), (9, .goto 6, 3, 0, 0, 0, 0, 0), (12, .astore_n 3, 1, 0, 0, 0, 0, 0), (13, .iconst 1, 1, 0, 0, 0, 0, 1), (14, .ireturn, 1, 0, 0, 0, 0, 0), (15, .iconst 0, 1, 0, 0, 0, 0, 0), (16, .ireturn, 1, 0, 0, 0, 0, 0)]
set_option maxRecDepth 100000 in
theorem yr391 : Y391.all (rok3 391) = true := by decide +kernel
set_option maxRecDepth 100000 in
theorem yk391 : T3OK 391 Y391 := t3_ok (K := K391) rfl (fun h => d391 h) yr391
theorem wr_391_ok {M M1 : Mem} {a : Int32} {ans : Int32} (h : X 165 0 [rR 3 11 1, vI a] [] M = some (.inl (some (vI ans)), M1)) : X 391 0 [rR 3 11 1, vI a, rR 3 14 1, vJ] [] M = some (.inl (some (vI (cn 0))), sJ M1 3 14 1 0 ans.toInt64) := by
  refine y_cal yk391 5 7 rfl h ?_
  refine y_lst yk391 1 8 9 _ rfl rfl rfl (by decide) in_out rfl ?_
  exact y_ret yk391 3 rfl rfl
theorem wr_391_e1 {M M1 : Mem} {a : Int32} (h : X 165 0 [rR 3 11 1, vI a] [] M = some (.inr 1, M1)) : X 391 0 [rR 3 11 1, vI a, rR 3 14 1, vJ] [] M = some (.inl (some (vI (cn 1))), M1) := by
  refine y_hnd yk391 5 7 13 3 rfl h (by decide +kernel) (by decide +kernel) rfl ?_
  exact y_ret yk391 2 rfl rfl
theorem wr_391 {M M1 : Mem} {a : Int32} {ans : Int32} {code : Nat} (hc : code ≤ 1) (h : X 165 0 [rR 3 11 1, vI a] [] M = evR code [1] (some (.inl (some (vI ans)), M1)) M) : X 391 0 [rR 3 11 1, vI a, rR 3 14 1, vJ] [] M = some (.inl (some (vI (cn code))), if code = 0 then sJ M1 3 14 1 0 ans.toInt64 else xc M) := by
  have hh : code = 0 ∨ code = 1 := by omega
  rcases hh with rfl | rfl
  · exact wr_391_ok h
  · exact wr_391_e1 h
def Y392 : List YR := [(0, .aload_n 1, 1, 0, 0, 0, 0, 0), (1, .iconst 0, 1, 0, 0, 0, 0, 0), (2, .aload_n 0, 1, 0, 0, 0, 0, 0), (3, .invokevirtual 60, 3, 166, 1, 1, 11, 0), (6, .i2l, 1, 0, 0, 0, 0, 0), (7, .lastore, 1, 0, 0, 0, 0, 0), (8, .goto 6, 3, 0, 0, 0, 0, 0), (11, .astore_n 2, 1, 0, 0, 0, 0, 0), (12, .iconst 1, 1, 0, 0, 0, 0, 1), (13, .ireturn, 1, 0, 0, 0, 0, 0), (14, .iconst 0, 1, 0, 0, 0, 0, 0), (15, .ireturn, 1, 0, 0, 0, 0, 0)]
set_option maxRecDepth 100000 in
theorem yr392 : Y392.all (rok3 392) = true := by decide +kernel
set_option maxRecDepth 100000 in
theorem yk392 : T3OK 392 Y392 := t3_ok (K := K392) rfl (fun h => d392 h) yr392
theorem wr_392_ok {M M1 : Mem} {ans : Int32} (h : X 166 0 [rR 3 11 1] [] M = some (.inl (some (vI ans)), M1)) : X 392 0 [rR 3 11 1, rR 3 14 1, vJ] [] M = some (.inl (some (vI (cn 0))), sJ M1 3 14 1 0 ans.toInt64) := by
  refine y_cal yk392 4 6 rfl h ?_
  refine y_lst yk392 1 7 8 _ rfl rfl rfl (by decide) in_out rfl ?_
  exact y_ret yk392 3 rfl rfl
theorem wr_392_e2 {M M1 : Mem} (h : X 166 0 [rR 3 11 1] [] M = some (.inr 2, M1)) : X 392 0 [rR 3 11 1, rR 3 14 1, vJ] [] M = some (.inl (some (vI (cn 1))), M1) := by
  refine y_hnd yk392 4 6 12 2 rfl h (by decide +kernel) (by decide +kernel) rfl ?_
  exact y_ret yk392 2 rfl rfl
theorem wr_392 {M M1 : Mem} {ans : Int32} {code : Nat} (hc : code ≤ 1) (h : X 166 0 [rR 3 11 1] [] M = evR code [2] (some (.inl (some (vI ans)), M1)) M) : X 392 0 [rR 3 11 1, rR 3 14 1, vJ] [] M = some (.inl (some (vI (cn code))), if code = 0 then sJ M1 3 14 1 0 ans.toInt64 else xc M) := by
  have hh : code = 0 ∨ code = 1 := by omega
  rcases hh with rfl | rfl
  · exact wr_392_ok h
  · exact wr_392_e2 h
def Y393 : List YR := [(0, .aload_n 2, 1, 0, 0, 0, 0, 0), (1, .iconst 0, 1, 0, 0, 0, 0, 0), (2, .aload_n 0, 1, 0, 0, 0, 0, 0), (3, .iload_n 1, 1, 0, 0, 0, 0, 0), (4, .invokevirtual 64, 3, 167, 2, 2, 11, 0), (7, .i2l, 1, 0, 0, 0, 0, 0), (8, .lastore, 1, 0, 0, 0, 0, 0), (9, .goto 9, 3, 0, 0, 0, 0, 0), (12, .astore_n 3, 1, 0, 0, 0, 0, 0), (13, .iconst 1, 1, 0, 0, 0, 0, 1), (14, .ireturn, 1, 0, 0, 0, 0, 0), (15, .astore_n 3, 1, 0, 0, 0, 0, 0), (16, .iconst 2, 1, 0, 0, 0, 0, 2), (17, .ireturn, 1, 0, 0, 0, 0, 0), (18, .iconst 0, 1, 0, 0, 0, 0, 0), (19, .ireturn, 1, 0, 0, 0, 0, 0)]
set_option maxRecDepth 100000 in
theorem yr393 : Y393.all (rok3 393) = true := by decide +kernel
set_option maxRecDepth 100000 in
theorem yk393 : T3OK 393 Y393 := t3_ok (K := K393) rfl (fun h => d393 h) yr393
theorem wr_393_ok {M M1 : Mem} {a : Int32} {ans : Int32} (h : X 167 0 [rR 3 11 1, vI a] [] M = some (.inl (some (vI ans)), M1)) : X 393 0 [rR 3 11 1, vI a, rR 3 14 1, vJ] [] M = some (.inl (some (vI (cn 0))), sJ M1 3 14 1 0 ans.toInt64) := by
  refine y_cal yk393 5 7 rfl h ?_
  refine y_lst yk393 1 8 9 _ rfl rfl rfl (by decide) in_out rfl ?_
  exact y_ret yk393 3 rfl rfl
theorem wr_393_e0 {M M1 : Mem} {a : Int32} (h : X 167 0 [rR 3 11 1, vI a] [] M = some (.inr 0, M1)) : X 393 0 [rR 3 11 1, vI a, rR 3 14 1, vJ] [] M = some (.inl (some (vI (cn 1))), M1) := by
  refine y_hnd yk393 5 7 13 3 rfl h (by decide +kernel) (by decide +kernel) rfl ?_
  exact y_ret yk393 2 rfl rfl
theorem wr_393_e2 {M M1 : Mem} {a : Int32} (h : X 167 0 [rR 3 11 1, vI a] [] M = some (.inr 2, M1)) : X 393 0 [rR 3 11 1, vI a, rR 3 14 1, vJ] [] M = some (.inl (some (vI (cn 2))), M1) := by
  refine y_hnd yk393 5 7 16 3 rfl h (by decide +kernel) (by decide +kernel) rfl ?_
  exact y_ret yk393 2 rfl rfl
theorem wr_393 {M M1 : Mem} {a : Int32} {ans : Int32} {code : Nat} (hc : code ≤ 2) (h : X 167 0 [rR 3 11 1, vI a] [] M = evR code [0, 2] (some (.inl (some (vI ans)), M1)) M) : X 393 0 [rR 3 11 1, vI a, rR 3 14 1, vJ] [] M = some (.inl (some (vI (cn code))), if code = 0 then sJ M1 3 14 1 0 ans.toInt64 else xc M) := by
  have hh : code = 0 ∨ code = 1 ∨ code = 2 := by omega
  rcases hh with rfl | rfl | rfl
  · exact wr_393_ok h
  · exact wr_393_e0 h
  · exact wr_393_e2 h
def Y394 : List YR := [(0, .aload_n 3, 1, 0, 0, 0, 0, 0), (1, .iconst 0, 1, 0, 0, 0, 0, 0), (2, .aload_n 0, 1, 0, 0, 0, 0, 0), (3, .iload_n 1, 1, 0, 0, 0, 0, 0), (4, .iload_n 2, 1, 0, 0, 0, 0, 0), (5, .invokevirtual 67, 3, 168, 3, 4, 11, 0), (8, .i2l, 1, 0, 0, 0, 0, 0), (9, .lastore, 1, 0, 0, 0, 0, 0), (10, .goto 15, 3, 0, 0, 0, 0, 0), (13, .astore 4, 2, 0, 0, 0, 0, 0), (15, .iconst 1, 1, 0, 0, 0, 0, 1), (16, .ireturn, 1, 0, 0, 0, 0, 0), (17, .astore 4, 2, 0, 0, 0, 0, 0), (19, .iconst 2, 1, 0, 0, 0, 0, 2), (20, .ireturn, 1, 0, 0, 0, 0, 0), (21, .astore 4, 2, 0, 0, 0, 0, 0), (23, .iconst 3, 1, 0, 0, 0, 0, 3), (24, .ireturn, 1, 0, 0, 0, 0, 0), (25, .iconst 0, 1, 0, 0, 0, 0, 0), (26, .ireturn, 1, 0, 0, 0, 0, 0)]
set_option maxRecDepth 100000 in
theorem yr394 : Y394.all (rok3 394) = true := by decide +kernel
set_option maxRecDepth 100000 in
theorem yk394 : T3OK 394 Y394 := t3_ok (K := K394) rfl (fun h => d394 h) yr394
theorem wr_394_ok {M M1 : Mem} {a b : Int32} {ans : Int32} (h : X 168 0 [rR 3 11 1, vI a, vI b, vJ] [] M = some (.inl (some (vI ans)), M1)) : X 394 0 [rR 3 11 1, vI a, vI b, rR 3 14 1, vJ] [] M = some (.inl (some (vI (cn 0))), sJ M1 3 14 1 0 ans.toInt64) := by
  refine y_cal yk394 6 8 rfl h ?_
  refine y_lst yk394 1 9 10 _ rfl rfl rfl (by decide) in_out rfl ?_
  exact y_ret yk394 3 rfl rfl
theorem wr_394_e0 {M M1 : Mem} {a b : Int32} (h : X 168 0 [rR 3 11 1, vI a, vI b, vJ] [] M = some (.inr 0, M1)) : X 394 0 [rR 3 11 1, vI a, vI b, rR 3 14 1, vJ] [] M = some (.inl (some (vI (cn 1))), M1) := by
  refine y_hnd yk394 6 8 15 4 rfl h (by decide +kernel) (by decide +kernel) rfl ?_
  exact y_ret yk394 2 rfl rfl
theorem wr_394_e1 {M M1 : Mem} {a b : Int32} (h : X 168 0 [rR 3 11 1, vI a, vI b, vJ] [] M = some (.inr 1, M1)) : X 394 0 [rR 3 11 1, vI a, vI b, rR 3 14 1, vJ] [] M = some (.inl (some (vI (cn 2))), M1) := by
  refine y_hnd yk394 6 8 19 4 rfl h (by decide +kernel) (by decide +kernel) rfl ?_
  exact y_ret yk394 2 rfl rfl
theorem wr_394_e2 {M M1 : Mem} {a b : Int32} (h : X 168 0 [rR 3 11 1, vI a, vI b, vJ] [] M = some (.inr 2, M1)) : X 394 0 [rR 3 11 1, vI a, vI b, rR 3 14 1, vJ] [] M = some (.inl (some (vI (cn 3))), M1) := by
  refine y_hnd yk394 6 8 23 4 rfl h (by decide +kernel) (by decide +kernel) rfl ?_
  exact y_ret yk394 2 rfl rfl
theorem wr_394 {M M1 : Mem} {a b : Int32} {ans : Int32} {code : Nat} (hc : code ≤ 3) (h : X 168 0 [rR 3 11 1, vI a, vI b, vJ] [] M = evR code [0, 1, 2] (some (.inl (some (vI ans)), M1)) M) : X 394 0 [rR 3 11 1, vI a, vI b, rR 3 14 1, vJ] [] M = some (.inl (some (vI (cn code))), if code = 0 then sJ M1 3 14 1 0 ans.toInt64 else xc M) := by
  have hh : code = 0 ∨ code = 1 ∨ code = 2 ∨ code = 3 := by omega
  rcases hh with rfl | rfl | rfl | rfl
  · exact wr_394_ok h
  · exact wr_394_e0 h
  · exact wr_394_e1 h
  · exact wr_394_e2 h
def Y395 : List YR := [(0, .aload 4, 2, 0, 0, 0, 0, 0), (2, .iconst 0, 1, 0, 0, 0, 0, 0), (3, .aload_n 0, 1, 0, 0, 0, 0, 0), (4, .iload_n 1, 1, 0, 0, 0, 0, 0), (5, .iload_n 2, 1, 0, 0, 0, 0, 0), (6, .iload_n 3, 1, 0, 0, 0, 0, 0), (7, .invokevirtual 70, 3, 169, 4, 5, 11, 0), (10, .i2l, 1, 0, 0, 0, 0, 0), (11, .lastore, 1, 0, 0, 0, 0, 0), (12, .goto 11, 3, 0, 0, 0, 0, 0), (15, .astore 5, 2, 0, 0, 0, 0, 0), (17, .iconst 1, 1, 0, 0, 0, 0, 1), (18, .ireturn, 1, 0, 0, 0, 0, 0), (19, .astore 5, 2, 0, 0, 0, 0, 0), (21, .iconst 2, 1, 0, 0, 0, 0, 2), (22, .ireturn, 1, 0, 0, 0, 0, 0), (23, .iconst 0, 1, 0, 0, 0, 0, 0), (24, .ireturn, 1, 0, 0, 0, 0, 0)]
set_option maxRecDepth 100000 in
theorem yr395 : Y395.all (rok3 395) = true := by decide +kernel
set_option maxRecDepth 100000 in
theorem yk395 : T3OK 395 Y395 := t3_ok (K := K395) rfl (fun h => d395 h) yr395
theorem wr_395_ok {M M1 : Mem} {a b c : Int32} {ans : Int32} (h : X 169 0 [rR 3 11 1, vI a, vI b, vI c, vJ] [] M = some (.inl (some (vI ans)), M1)) : X 395 0 [rR 3 11 1, vI a, vI b, vI c, rR 3 14 1, vJ] [] M = some (.inl (some (vI (cn 0))), sJ M1 3 14 1 0 ans.toInt64) := by
  refine y_cal yk395 7 10 rfl h ?_
  refine y_lst yk395 1 11 12 _ rfl rfl rfl (by decide) in_out rfl ?_
  exact y_ret yk395 3 rfl rfl
theorem wr_395_e0 {M M1 : Mem} {a b c : Int32} (h : X 169 0 [rR 3 11 1, vI a, vI b, vI c, vJ] [] M = some (.inr 0, M1)) : X 395 0 [rR 3 11 1, vI a, vI b, vI c, rR 3 14 1, vJ] [] M = some (.inl (some (vI (cn 1))), M1) := by
  refine y_hnd yk395 7 10 17 5 rfl h (by decide +kernel) (by decide +kernel) rfl ?_
  exact y_ret yk395 2 rfl rfl
theorem wr_395_e2 {M M1 : Mem} {a b c : Int32} (h : X 169 0 [rR 3 11 1, vI a, vI b, vI c, vJ] [] M = some (.inr 2, M1)) : X 395 0 [rR 3 11 1, vI a, vI b, vI c, rR 3 14 1, vJ] [] M = some (.inl (some (vI (cn 2))), M1) := by
  refine y_hnd yk395 7 10 21 5 rfl h (by decide +kernel) (by decide +kernel) rfl ?_
  exact y_ret yk395 2 rfl rfl
theorem wr_395 {M M1 : Mem} {a b c : Int32} {ans : Int32} {code : Nat} (hc : code ≤ 2) (h : X 169 0 [rR 3 11 1, vI a, vI b, vI c, vJ] [] M = evR code [0, 2] (some (.inl (some (vI ans)), M1)) M) : X 395 0 [rR 3 11 1, vI a, vI b, vI c, rR 3 14 1, vJ] [] M = some (.inl (some (vI (cn code))), if code = 0 then sJ M1 3 14 1 0 ans.toInt64 else xc M) := by
  have hh : code = 0 ∨ code = 1 ∨ code = 2 := by omega
  rcases hh with rfl | rfl | rfl
  · exact wr_395_ok h
  · exact wr_395_e0 h
  · exact wr_395_e2 h
def Y396 : List YR := [(0, .aload 5, 2, 0, 0, 0, 0, 0), (2, .iconst 0, 1, 0, 0, 0, 0, 0), (3, .aload_n 0, 1, 0, 0, 0, 0, 0), (4, .iload_n 1, 1, 0, 0, 0, 0, 0), (5, .iload_n 2, 1, 0, 0, 0, 0, 0), (6, .iload_n 3, 1, 0, 0, 0, 0, 0), (7, .iload 4, 2, 0, 0, 0, 0, 0), (9, .invokevirtual 74, 3, 170, 5, 5, 11, 0), (12, .i2l, 1, 0, 0, 0, 0, 0), (13, .lastore, 1, 0, 0, 0, 0, 0), (14, .goto 15, 3, 0, 0, 0, 0, 0), (17, .astore 6, 2, 0, 0, 0, 0, 0), (19, .iconst 1, 1, 0, 0, 0, 0, 1), (20, .ireturn, 1, 0, 0, 0, 0, 0), (21, .astore 6, 2, 0, 0, 0, 0, 0), (23, .iconst 2, 1, 0, 0, 0, 0, 2), (24, .ireturn, 1, 0, 0, 0, 0, 0), (25, .astore 6, 2, 0, 0, 0, 0, 0), (27, .iconst 3, 1, 0, 0, 0, 0, 3), (28, .ireturn, 1, 0, 0, 0, 0, 0), (29, .iconst 0, 1, 0, 0, 0, 0, 0), (30, .ireturn, 1, 0, 0, 0, 0, 0)]
set_option maxRecDepth 100000 in
theorem yr396 : Y396.all (rok3 396) = true := by decide +kernel
set_option maxRecDepth 100000 in
theorem yk396 : T3OK 396 Y396 := t3_ok (K := K396) rfl (fun h => d396 h) yr396
theorem wr_396_ok {M M1 : Mem} {a b c d : Int32} {ans : Int32} (h : X 170 0 [rR 3 11 1, vI a, vI b, vI c, vI d] [] M = some (.inl (some (vI ans)), M1)) : X 396 0 [rR 3 11 1, vI a, vI b, vI c, vI d, rR 3 14 1, vJ] [] M = some (.inl (some (vI (cn 0))), sJ M1 3 14 1 0 ans.toInt64) := by
  refine y_cal yk396 8 12 rfl h ?_
  refine y_lst yk396 1 13 14 _ rfl rfl rfl (by decide) in_out rfl ?_
  exact y_ret yk396 3 rfl rfl
theorem wr_396_e0 {M M1 : Mem} {a b c d : Int32} (h : X 170 0 [rR 3 11 1, vI a, vI b, vI c, vI d] [] M = some (.inr 0, M1)) : X 396 0 [rR 3 11 1, vI a, vI b, vI c, vI d, rR 3 14 1, vJ] [] M = some (.inl (some (vI (cn 1))), M1) := by
  refine y_hnd yk396 8 12 19 6 rfl h (by decide +kernel) (by decide +kernel) rfl ?_
  exact y_ret yk396 2 rfl rfl
theorem wr_396_e1 {M M1 : Mem} {a b c d : Int32} (h : X 170 0 [rR 3 11 1, vI a, vI b, vI c, vI d] [] M = some (.inr 1, M1)) : X 396 0 [rR 3 11 1, vI a, vI b, vI c, vI d, rR 3 14 1, vJ] [] M = some (.inl (some (vI (cn 2))), M1) := by
  refine y_hnd yk396 8 12 23 6 rfl h (by decide +kernel) (by decide +kernel) rfl ?_
  exact y_ret yk396 2 rfl rfl
theorem wr_396_e2 {M M1 : Mem} {a b c d : Int32} (h : X 170 0 [rR 3 11 1, vI a, vI b, vI c, vI d] [] M = some (.inr 2, M1)) : X 396 0 [rR 3 11 1, vI a, vI b, vI c, vI d, rR 3 14 1, vJ] [] M = some (.inl (some (vI (cn 3))), M1) := by
  refine y_hnd yk396 8 12 27 6 rfl h (by decide +kernel) (by decide +kernel) rfl ?_
  exact y_ret yk396 2 rfl rfl
theorem wr_396 {M M1 : Mem} {a b c d : Int32} {ans : Int32} {code : Nat} (hc : code ≤ 3) (h : X 170 0 [rR 3 11 1, vI a, vI b, vI c, vI d] [] M = evR code [0, 1, 2] (some (.inl (some (vI ans)), M1)) M) : X 396 0 [rR 3 11 1, vI a, vI b, vI c, vI d, rR 3 14 1, vJ] [] M = some (.inl (some (vI (cn code))), if code = 0 then sJ M1 3 14 1 0 ans.toInt64 else xc M) := by
  have hh : code = 0 ∨ code = 1 ∨ code = 2 ∨ code = 3 := by omega
  rcases hh with rfl | rfl | rfl | rfl
  · exact wr_396_ok h
  · exact wr_396_e0 h
  · exact wr_396_e1 h
  · exact wr_396_e2 h
def Y397 : List YR := [(0, .aload 4, 2, 0, 0, 0, 0, 0), (2, .iconst 0, 1, 0, 0, 0, 0, 0), (3, .aload_n 0, 1, 0, 0, 0, 0, 0), (4, .iload_n 1, 1, 0, 0, 0, 0, 0), (5, .iload_n 2, 1, 0, 0, 0, 0, 0), (6, .iload_n 3, 1, 0, 0, 0, 0, 0), (7, .invokevirtual 77, 3, 171, 4, 4, 11, 0), (10, .i2l, 1, 0, 0, 0, 0, 0), (11, .lastore, 1, 0, 0, 0, 0, 0), (12, .goto 15, 3, 0, 0, 0, 0, 0), (15, .astore 5, 2, 0, 0, 0, 0, 0), (17, .iconst 1, 1, 0, 0, 0, 0, 1), (18, .ireturn, 1, 0, 0, 0, 0, 0), (19, .astore 5, 2, 0, 0, 0, 0, 0), (21, .iconst 2, 1, 0, 0, 0, 0, 2), (22, .ireturn, 1, 0, 0, 0, 0, 0), (23, .astore 5, 2, 0, 0, 0, 0, 0), (25, .iconst 3, 1, 0, 0, 0, 0, 3), (26, .ireturn, 1, 0, 0, 0, 0, 0), (27, .iconst 0, 1, 0, 0, 0, 0, 0), (28, .ireturn, 1, 0, 0, 0, 0, 0)]
set_option maxRecDepth 100000 in
theorem yr397 : Y397.all (rok3 397) = true := by decide +kernel
set_option maxRecDepth 100000 in
theorem yk397 : T3OK 397 Y397 := t3_ok (K := K397) rfl (fun h => d397 h) yr397
theorem wr_397_ok {M M1 : Mem} {a b c : Int32} {ans : Int32} (h : X 171 0 [rR 3 11 1, vI a, vI b, vI c] [] M = some (.inl (some (vI ans)), M1)) : X 397 0 [rR 3 11 1, vI a, vI b, vI c, rR 3 14 1, vJ] [] M = some (.inl (some (vI (cn 0))), sJ M1 3 14 1 0 ans.toInt64) := by
  refine y_cal yk397 7 10 rfl h ?_
  refine y_lst yk397 1 11 12 _ rfl rfl rfl (by decide) in_out rfl ?_
  exact y_ret yk397 3 rfl rfl
theorem wr_397_e0 {M M1 : Mem} {a b c : Int32} (h : X 171 0 [rR 3 11 1, vI a, vI b, vI c] [] M = some (.inr 0, M1)) : X 397 0 [rR 3 11 1, vI a, vI b, vI c, rR 3 14 1, vJ] [] M = some (.inl (some (vI (cn 1))), M1) := by
  refine y_hnd yk397 7 10 17 5 rfl h (by decide +kernel) (by decide +kernel) rfl ?_
  exact y_ret yk397 2 rfl rfl
theorem wr_397_e1 {M M1 : Mem} {a b c : Int32} (h : X 171 0 [rR 3 11 1, vI a, vI b, vI c] [] M = some (.inr 1, M1)) : X 397 0 [rR 3 11 1, vI a, vI b, vI c, rR 3 14 1, vJ] [] M = some (.inl (some (vI (cn 2))), M1) := by
  refine y_hnd yk397 7 10 21 5 rfl h (by decide +kernel) (by decide +kernel) rfl ?_
  exact y_ret yk397 2 rfl rfl
theorem wr_397_e2 {M M1 : Mem} {a b c : Int32} (h : X 171 0 [rR 3 11 1, vI a, vI b, vI c] [] M = some (.inr 2, M1)) : X 397 0 [rR 3 11 1, vI a, vI b, vI c, rR 3 14 1, vJ] [] M = some (.inl (some (vI (cn 3))), M1) := by
  refine y_hnd yk397 7 10 25 5 rfl h (by decide +kernel) (by decide +kernel) rfl ?_
  exact y_ret yk397 2 rfl rfl
theorem wr_397 {M M1 : Mem} {a b c : Int32} {ans : Int32} {code : Nat} (hc : code ≤ 3) (h : X 171 0 [rR 3 11 1, vI a, vI b, vI c] [] M = evR code [0, 1, 2] (some (.inl (some (vI ans)), M1)) M) : X 397 0 [rR 3 11 1, vI a, vI b, vI c, rR 3 14 1, vJ] [] M = some (.inl (some (vI (cn code))), if code = 0 then sJ M1 3 14 1 0 ans.toInt64 else xc M) := by
  have hh : code = 0 ∨ code = 1 ∨ code = 2 ∨ code = 3 := by omega
  rcases hh with rfl | rfl | rfl | rfl
  · exact wr_397_ok h
  · exact wr_397_e0 h
  · exact wr_397_e1 h
  · exact wr_397_e2 h
def Y398 : List YR := [(0, .aload 4, 2, 0, 0, 0, 0, 0), (2, .iconst 0, 1, 0, 0, 0, 0, 0), (3, .aload_n 0, 1, 0, 0, 0, 0, 0), (4, .iload_n 1, 1, 0, 0, 0, 0, 0), (5, .iload_n 2, 1, 0, 0, 0, 0, 0), (6, .iload_n 3, 1, 0, 0, 0, 0, 0), (7, .invokevirtual 80, 3, 172, 4, 4, 11, 0), (10, .i2l, 1, 0, 0, 0, 0, 0), (11, .lastore, 1, 0, 0, 0, 0, 0), (12, .goto 15, 3, 0, 0, 0, 0, 0), (15, .astore 5, 2, 0, 0, 0, 0, 0), (17, .iconst 1, 1, 0, 0, 0, 0, 1), (18, .ireturn, 1, 0, 0, 0, 0, 0), (19, .astore 5, 2, 0, 0, 0, 0, 0), (21, .iconst 2, 1, 0, 0, 0, 0, 2), (22, .ireturn, 1, 0, 0, 0, 0, 0), (23, .astore 5, 2, 0, 0, 0, 0, 0), (25, .iconst 3, 1, 0, 0, 0, 0, 3), (26, .ireturn, 1, 0, 0, 0, 0, 0), (27, .iconst 0, 1, 0, 0, 0, 0, 0), (28, .ireturn, 1, 0, 0, 0, 0, 0)]
set_option maxRecDepth 100000 in
theorem yr398 : Y398.all (rok3 398) = true := by decide +kernel
set_option maxRecDepth 100000 in
theorem yk398 : T3OK 398 Y398 := t3_ok (K := K398) rfl (fun h => d398 h) yr398
theorem wr_398_ok {M M1 : Mem} {a b c : Int32} {ans : Int32} (h : X 172 0 [rR 3 11 1, vI a, vI b, vI c] [] M = some (.inl (some (vI ans)), M1)) : X 398 0 [rR 3 11 1, vI a, vI b, vI c, rR 3 14 1, vJ] [] M = some (.inl (some (vI (cn 0))), sJ M1 3 14 1 0 ans.toInt64) := by
  refine y_cal yk398 7 10 rfl h ?_
  refine y_lst yk398 1 11 12 _ rfl rfl rfl (by decide) in_out rfl ?_
  exact y_ret yk398 3 rfl rfl
theorem wr_398_e0 {M M1 : Mem} {a b c : Int32} (h : X 172 0 [rR 3 11 1, vI a, vI b, vI c] [] M = some (.inr 0, M1)) : X 398 0 [rR 3 11 1, vI a, vI b, vI c, rR 3 14 1, vJ] [] M = some (.inl (some (vI (cn 1))), M1) := by
  refine y_hnd yk398 7 10 17 5 rfl h (by decide +kernel) (by decide +kernel) rfl ?_
  exact y_ret yk398 2 rfl rfl
theorem wr_398_e1 {M M1 : Mem} {a b c : Int32} (h : X 172 0 [rR 3 11 1, vI a, vI b, vI c] [] M = some (.inr 1, M1)) : X 398 0 [rR 3 11 1, vI a, vI b, vI c, rR 3 14 1, vJ] [] M = some (.inl (some (vI (cn 2))), M1) := by
  refine y_hnd yk398 7 10 21 5 rfl h (by decide +kernel) (by decide +kernel) rfl ?_
  exact y_ret yk398 2 rfl rfl
theorem wr_398_e2 {M M1 : Mem} {a b c : Int32} (h : X 172 0 [rR 3 11 1, vI a, vI b, vI c] [] M = some (.inr 2, M1)) : X 398 0 [rR 3 11 1, vI a, vI b, vI c, rR 3 14 1, vJ] [] M = some (.inl (some (vI (cn 3))), M1) := by
  refine y_hnd yk398 7 10 25 5 rfl h (by decide +kernel) (by decide +kernel) rfl ?_
  exact y_ret yk398 2 rfl rfl
theorem wr_398 {M M1 : Mem} {a b c : Int32} {ans : Int32} {code : Nat} (hc : code ≤ 3) (h : X 172 0 [rR 3 11 1, vI a, vI b, vI c] [] M = evR code [0, 1, 2] (some (.inl (some (vI ans)), M1)) M) : X 398 0 [rR 3 11 1, vI a, vI b, vI c, rR 3 14 1, vJ] [] M = some (.inl (some (vI (cn code))), if code = 0 then sJ M1 3 14 1 0 ans.toInt64 else xc M) := by
  have hh : code = 0 ∨ code = 1 ∨ code = 2 ∨ code = 3 := by omega
  rcases hh with rfl | rfl | rfl | rfl
  · exact wr_398_ok h
  · exact wr_398_e0 h
  · exact wr_398_e1 h
  · exact wr_398_e2 h
def Y399 : List YR := [(0, .aload 4, 2, 0, 0, 0, 0, 0), (2, .iconst 0, 1, 0, 0, 0, 0, 0), (3, .aload_n 0, 1, 0, 0, 0, 0, 0), (4, .iload_n 1, 1, 0, 0, 0, 0, 0), (5, .iload_n 2, 1, 0, 0, 0, 0, 0), (6, .iload_n 3, 1, 0, 0, 0, 0, 0), (7, .invokevirtual 83, 3, 173, 4, 4, 11, 0), (10, .i2l, 1, 0, 0, 0, 0, 0), (11, .lastore, 1, 0, 0, 0, 0, 0), (12, .goto 11, 3, 0, 0, 0, 0, 0), (15, .astore 5, 2, 0, 0, 0, 0, 0), (17, .iconst 1, 1, 0, 0, 0, 0, 1), (18, .ireturn, 1, 0, 0, 0, 0, 0), (19, .astore 5, 2, 0, 0, 0, 0, 0), (21, .iconst 2, 1, 0, 0, 0, 0, 2), (22, .ireturn, 1, 0, 0, 0, 0, 0), (23, .iconst 0, 1, 0, 0, 0, 0, 0), (24, .ireturn, 1, 0, 0, 0, 0, 0)]
set_option maxRecDepth 100000 in
theorem yr399 : Y399.all (rok3 399) = true := by decide +kernel
set_option maxRecDepth 100000 in
theorem yk399 : T3OK 399 Y399 := t3_ok (K := K399) rfl (fun h => d399 h) yr399
theorem wr_399_ok {M M1 : Mem} {a b c : Int32} {ans : Int32} (h : X 173 0 [rR 3 11 1, vI a, vI b, vI c] [] M = some (.inl (some (vI ans)), M1)) : X 399 0 [rR 3 11 1, vI a, vI b, vI c, rR 3 14 1, vJ] [] M = some (.inl (some (vI (cn 0))), sJ M1 3 14 1 0 ans.toInt64) := by
  refine y_cal yk399 7 10 rfl h ?_
  refine y_lst yk399 1 11 12 _ rfl rfl rfl (by decide) in_out rfl ?_
  exact y_ret yk399 3 rfl rfl
theorem wr_399_e0 {M M1 : Mem} {a b c : Int32} (h : X 173 0 [rR 3 11 1, vI a, vI b, vI c] [] M = some (.inr 0, M1)) : X 399 0 [rR 3 11 1, vI a, vI b, vI c, rR 3 14 1, vJ] [] M = some (.inl (some (vI (cn 1))), M1) := by
  refine y_hnd yk399 7 10 17 5 rfl h (by decide +kernel) (by decide +kernel) rfl ?_
  exact y_ret yk399 2 rfl rfl
theorem wr_399_e1 {M M1 : Mem} {a b c : Int32} (h : X 173 0 [rR 3 11 1, vI a, vI b, vI c] [] M = some (.inr 1, M1)) : X 399 0 [rR 3 11 1, vI a, vI b, vI c, rR 3 14 1, vJ] [] M = some (.inl (some (vI (cn 2))), M1) := by
  refine y_hnd yk399 7 10 21 5 rfl h (by decide +kernel) (by decide +kernel) rfl ?_
  exact y_ret yk399 2 rfl rfl
theorem wr_399 {M M1 : Mem} {a b c : Int32} {ans : Int32} {code : Nat} (hc : code ≤ 2) (h : X 173 0 [rR 3 11 1, vI a, vI b, vI c] [] M = evR code [0, 1] (some (.inl (some (vI ans)), M1)) M) : X 399 0 [rR 3 11 1, vI a, vI b, vI c, rR 3 14 1, vJ] [] M = some (.inl (some (vI (cn code))), if code = 0 then sJ M1 3 14 1 0 ans.toInt64 else xc M) := by
  have hh : code = 0 ∨ code = 1 ∨ code = 2 := by omega
  rcases hh with rfl | rfl | rfl
  · exact wr_399_ok h
  · exact wr_399_e0 h
  · exact wr_399_e1 h
def Y400 : List YR := [(0, .aload_n 2, 1, 0, 0, 0, 0, 0), (1, .iconst 0, 1, 0, 0, 0, 0, 0), (2, .aload_n 0, 1, 0, 0, 0, 0, 0), (3, .iload_n 1, 1, 0, 0, 0, 0, 0), (4, .invokevirtual 86, 3, 174, 2, 2, 11, 0), (7, .i2l, 1, 0, 0, 0, 0, 0), (8, .lastore, 1, 0, 0, 0, 0, 0), (9, .goto 6, 3, 0, 0, 0, 0, 0), (12, .astore_n 3, 1, 0, 0, 0, 0, 0), (13, .iconst 1, 1, 0, 0, 0, 0, 1), (14, .ireturn, 1, 0, 0, 0, 0, 0), (15, .iconst 0, 1, 0, 0, 0, 0, 0), (16, .ireturn, 1, 0, 0, 0, 0, 0)]
set_option maxRecDepth 100000 in
theorem yr400 : Y400.all (rok3 400) = true := by decide +kernel
set_option maxRecDepth 100000 in
theorem yk400 : T3OK 400 Y400 := t3_ok (K := K400) rfl (fun h => d400 h) yr400
theorem wr_400_ok {M M1 : Mem} {a : Int32} {ans : Int32} (h : X 174 0 [rR 3 11 1, vI a] [] M = some (.inl (some (vI ans)), M1)) : X 400 0 [rR 3 11 1, vI a, rR 3 14 1, vJ] [] M = some (.inl (some (vI (cn 0))), sJ M1 3 14 1 0 ans.toInt64) := by
  refine y_cal yk400 5 7 rfl h ?_
  refine y_lst yk400 1 8 9 _ rfl rfl rfl (by decide) in_out rfl ?_
  exact y_ret yk400 3 rfl rfl
theorem wr_400_e1 {M M1 : Mem} {a : Int32} (h : X 174 0 [rR 3 11 1, vI a] [] M = some (.inr 1, M1)) : X 400 0 [rR 3 11 1, vI a, rR 3 14 1, vJ] [] M = some (.inl (some (vI (cn 1))), M1) := by
  refine y_hnd yk400 5 7 13 3 rfl h (by decide +kernel) (by decide +kernel) rfl ?_
  exact y_ret yk400 2 rfl rfl
theorem wr_400 {M M1 : Mem} {a : Int32} {ans : Int32} {code : Nat} (hc : code ≤ 1) (h : X 174 0 [rR 3 11 1, vI a] [] M = evR code [1] (some (.inl (some (vI ans)), M1)) M) : X 400 0 [rR 3 11 1, vI a, rR 3 14 1, vJ] [] M = some (.inl (some (vI (cn code))), if code = 0 then sJ M1 3 14 1 0 ans.toInt64 else xc M) := by
  have hh : code = 0 ∨ code = 1 := by omega
  rcases hh with rfl | rfl
  · exact wr_400_ok h
  · exact wr_400_e1 h
def Y401 : List YR := [(0, .aload 4, 2, 0, 0, 0, 0, 0), (2, .iconst 0, 1, 0, 0, 0, 0, 0), (3, .aload_n 0, 1, 0, 0, 0, 0, 0), (4, .iload_n 1, 1, 0, 0, 0, 0, 0), (5, .iload_n 2, 1, 0, 0, 0, 0, 0), (6, .iload_n 3, 1, 0, 0, 0, 0, 0), (7, .invokevirtual 89, 3, 175, 4, 4, 11, 0), (10, .i2l, 1, 0, 0, 0, 0, 0), (11, .lastore, 1, 0, 0, 0, 0, 0), (12, .goto 15, 3, 0, 0, 0, 0, 0), (15, .astore 5, 2, 0, 0, 0, 0, 0), (17, .iconst 1, 1, 0, 0, 0, 0, 1), (18, .ireturn, 1, 0, 0, 0, 0, 0), (19, .astore 5, 2, 0, 0, 0, 0, 0), (21, .iconst 2, 1, 0, 0, 0, 0, 2), (22, .ireturn, 1, 0, 0, 0, 0, 0), (23, .astore 5, 2, 0, 0, 0, 0, 0), (25, .iconst 3, 1, 0, 0, 0, 0, 3), (26, .ireturn, 1, 0, 0, 0, 0, 0), (27, .iconst 0, 1, 0, 0, 0, 0, 0), (28, .ireturn, 1, 0, 0, 0, 0, 0)]
set_option maxRecDepth 100000 in
theorem yr401 : Y401.all (rok3 401) = true := by decide +kernel
set_option maxRecDepth 100000 in
theorem yk401 : T3OK 401 Y401 := t3_ok (K := K401) rfl (fun h => d401 h) yr401
theorem wr_401_ok {M M1 : Mem} {a b c : Int32} {ans : Int32} (h : X 175 0 [rR 3 11 1, vI a, vI b, vI c] [] M = some (.inl (some (vI ans)), M1)) : X 401 0 [rR 3 11 1, vI a, vI b, vI c, rR 3 14 1, vJ] [] M = some (.inl (some (vI (cn 0))), sJ M1 3 14 1 0 ans.toInt64) := by
  refine y_cal yk401 7 10 rfl h ?_
  refine y_lst yk401 1 11 12 _ rfl rfl rfl (by decide) in_out rfl ?_
  exact y_ret yk401 3 rfl rfl
theorem wr_401_e0 {M M1 : Mem} {a b c : Int32} (h : X 175 0 [rR 3 11 1, vI a, vI b, vI c] [] M = some (.inr 0, M1)) : X 401 0 [rR 3 11 1, vI a, vI b, vI c, rR 3 14 1, vJ] [] M = some (.inl (some (vI (cn 1))), M1) := by
  refine y_hnd yk401 7 10 17 5 rfl h (by decide +kernel) (by decide +kernel) rfl ?_
  exact y_ret yk401 2 rfl rfl
theorem wr_401_e1 {M M1 : Mem} {a b c : Int32} (h : X 175 0 [rR 3 11 1, vI a, vI b, vI c] [] M = some (.inr 1, M1)) : X 401 0 [rR 3 11 1, vI a, vI b, vI c, rR 3 14 1, vJ] [] M = some (.inl (some (vI (cn 2))), M1) := by
  refine y_hnd yk401 7 10 21 5 rfl h (by decide +kernel) (by decide +kernel) rfl ?_
  exact y_ret yk401 2 rfl rfl
theorem wr_401_e2 {M M1 : Mem} {a b c : Int32} (h : X 175 0 [rR 3 11 1, vI a, vI b, vI c] [] M = some (.inr 2, M1)) : X 401 0 [rR 3 11 1, vI a, vI b, vI c, rR 3 14 1, vJ] [] M = some (.inl (some (vI (cn 3))), M1) := by
  refine y_hnd yk401 7 10 25 5 rfl h (by decide +kernel) (by decide +kernel) rfl ?_
  exact y_ret yk401 2 rfl rfl
theorem wr_401 {M M1 : Mem} {a b c : Int32} {ans : Int32} {code : Nat} (hc : code ≤ 3) (h : X 175 0 [rR 3 11 1, vI a, vI b, vI c] [] M = evR code [0, 1, 2] (some (.inl (some (vI ans)), M1)) M) : X 401 0 [rR 3 11 1, vI a, vI b, vI c, rR 3 14 1, vJ] [] M = some (.inl (some (vI (cn code))), if code = 0 then sJ M1 3 14 1 0 ans.toInt64 else xc M) := by
  have hh : code = 0 ∨ code = 1 ∨ code = 2 ∨ code = 3 := by omega
  rcases hh with rfl | rfl | rfl | rfl
  · exact wr_401_ok h
  · exact wr_401_e0 h
  · exact wr_401_e1 h
  · exact wr_401_e2 h
def Y402 : List YR := [(0, .aload_n 3, 1, 0, 0, 0, 0, 0), (1, .iconst 0, 1, 0, 0, 0, 0, 0), (2, .aload_n 0, 1, 0, 0, 0, 0, 0), (3, .iload_n 1, 1, 0, 0, 0, 0, 0), (4, .iload_n 2, 1, 0, 0, 0, 0, 0), (5, .invokevirtual 92, 3, 176, 3, 3, 11, 0), (8, .i2l, 1, 0, 0, 0, 0, 0), (9, .lastore, 1, 0, 0, 0, 0, 0), (10, .goto 15, 3, 0, 0, 0, 0, 0), (13, .astore 4, 2, 0, 0, 0, 0, 0), (15, .iconst 1, 1, 0, 0, 0, 0, 1), (16, .ireturn, 1, 0, 0, 0, 0, 0), (17, .astore 4, 2, 0, 0, 0, 0, 0), (19, .iconst 2, 1, 0, 0, 0, 0, 2), (20, .ireturn, 1, 0, 0, 0, 0, 0), (21, .astore 4, 2, 0, 0, 0, 0, 0), (23, .iconst 3, 1, 0, 0, 0, 0, 3), (24, .ireturn, 1, 0, 0, 0, 0, 0), (25, .iconst 0, 1, 0, 0, 0, 0, 0), (26, .ireturn, 1, 0, 0, 0, 0, 0)]
set_option maxRecDepth 100000 in
theorem yr402 : Y402.all (rok3 402) = true := by decide +kernel
set_option maxRecDepth 100000 in
theorem yk402 : T3OK 402 Y402 := t3_ok (K := K402) rfl (fun h => d402 h) yr402
theorem wr_402_ok {M M1 : Mem} {a b : Int32} {ans : Int32} (h : X 176 0 [rR 3 11 1, vI a, vI b] [] M = some (.inl (some (vI ans)), M1)) : X 402 0 [rR 3 11 1, vI a, vI b, rR 3 14 1, vJ] [] M = some (.inl (some (vI (cn 0))), sJ M1 3 14 1 0 ans.toInt64) := by
  refine y_cal yk402 6 8 rfl h ?_
  refine y_lst yk402 1 9 10 _ rfl rfl rfl (by decide) in_out rfl ?_
  exact y_ret yk402 3 rfl rfl
theorem wr_402_e0 {M M1 : Mem} {a b : Int32} (h : X 176 0 [rR 3 11 1, vI a, vI b] [] M = some (.inr 0, M1)) : X 402 0 [rR 3 11 1, vI a, vI b, rR 3 14 1, vJ] [] M = some (.inl (some (vI (cn 1))), M1) := by
  refine y_hnd yk402 6 8 15 4 rfl h (by decide +kernel) (by decide +kernel) rfl ?_
  exact y_ret yk402 2 rfl rfl
theorem wr_402_e1 {M M1 : Mem} {a b : Int32} (h : X 176 0 [rR 3 11 1, vI a, vI b] [] M = some (.inr 1, M1)) : X 402 0 [rR 3 11 1, vI a, vI b, rR 3 14 1, vJ] [] M = some (.inl (some (vI (cn 2))), M1) := by
  refine y_hnd yk402 6 8 19 4 rfl h (by decide +kernel) (by decide +kernel) rfl ?_
  exact y_ret yk402 2 rfl rfl
theorem wr_402_e2 {M M1 : Mem} {a b : Int32} (h : X 176 0 [rR 3 11 1, vI a, vI b] [] M = some (.inr 2, M1)) : X 402 0 [rR 3 11 1, vI a, vI b, rR 3 14 1, vJ] [] M = some (.inl (some (vI (cn 3))), M1) := by
  refine y_hnd yk402 6 8 23 4 rfl h (by decide +kernel) (by decide +kernel) rfl ?_
  exact y_ret yk402 2 rfl rfl
theorem wr_402 {M M1 : Mem} {a b : Int32} {ans : Int32} {code : Nat} (hc : code ≤ 3) (h : X 176 0 [rR 3 11 1, vI a, vI b] [] M = evR code [0, 1, 2] (some (.inl (some (vI ans)), M1)) M) : X 402 0 [rR 3 11 1, vI a, vI b, rR 3 14 1, vJ] [] M = some (.inl (some (vI (cn code))), if code = 0 then sJ M1 3 14 1 0 ans.toInt64 else xc M) := by
  have hh : code = 0 ∨ code = 1 ∨ code = 2 ∨ code = 3 := by omega
  rcases hh with rfl | rfl | rfl | rfl
  · exact wr_402_ok h
  · exact wr_402_e0 h
  · exact wr_402_e1 h
  · exact wr_402_e2 h
def Y403 : List YR := [(0, .aload_n 2, 1, 0, 0, 0, 0, 0), (1, .iconst 0, 1, 0, 0, 0, 0, 0), (2, .aload_n 0, 1, 0, 0, 0, 0, 0), (3, .iload_n 1, 1, 0, 0, 0, 0, 0), (4, .invokevirtual 95, 3, 177, 2, 2, 11, 0), (7, .i2l, 1, 0, 0, 0, 0, 0), (8, .lastore, 1, 0, 0, 0, 0, 0), (9, .goto 9, 3, 0, 0, 0, 0, 0), (12, .astore_n 3, 1, 0, 0, 0, 0, 0), (13, .iconst 1, 1, 0, 0, 0, 0, 1), (14, .ireturn, 1, 0, 0, 0, 0, 0), (15, .astore_n 3, 1, 0, 0, 0, 0, 0), (16, .iconst 2, 1, 0, 0, 0, 0, 2), (17, .ireturn, 1, 0, 0, 0, 0, 0), (18, .iconst 0, 1, 0, 0, 0, 0, 0), (19, .ireturn, 1, 0, 0, 0, 0, 0)]
set_option maxRecDepth 100000 in
theorem yr403 : Y403.all (rok3 403) = true := by decide +kernel
set_option maxRecDepth 100000 in
theorem yk403 : T3OK 403 Y403 := t3_ok (K := K403) rfl (fun h => d403 h) yr403
theorem wr_403_ok {M M1 : Mem} {a : Int32} {ans : Int32} (h : X 177 0 [rR 3 11 1, vI a] [] M = some (.inl (some (vI ans)), M1)) : X 403 0 [rR 3 11 1, vI a, rR 3 14 1, vJ] [] M = some (.inl (some (vI (cn 0))), sJ M1 3 14 1 0 ans.toInt64) := by
  refine y_cal yk403 5 7 rfl h ?_
  refine y_lst yk403 1 8 9 _ rfl rfl rfl (by decide) in_out rfl ?_
  exact y_ret yk403 3 rfl rfl
theorem wr_403_e0 {M M1 : Mem} {a : Int32} (h : X 177 0 [rR 3 11 1, vI a] [] M = some (.inr 0, M1)) : X 403 0 [rR 3 11 1, vI a, rR 3 14 1, vJ] [] M = some (.inl (some (vI (cn 1))), M1) := by
  refine y_hnd yk403 5 7 13 3 rfl h (by decide +kernel) (by decide +kernel) rfl ?_
  exact y_ret yk403 2 rfl rfl
theorem wr_403_e2 {M M1 : Mem} {a : Int32} (h : X 177 0 [rR 3 11 1, vI a] [] M = some (.inr 2, M1)) : X 403 0 [rR 3 11 1, vI a, rR 3 14 1, vJ] [] M = some (.inl (some (vI (cn 2))), M1) := by
  refine y_hnd yk403 5 7 16 3 rfl h (by decide +kernel) (by decide +kernel) rfl ?_
  exact y_ret yk403 2 rfl rfl
theorem wr_403 {M M1 : Mem} {a : Int32} {ans : Int32} {code : Nat} (hc : code ≤ 2) (h : X 177 0 [rR 3 11 1, vI a] [] M = evR code [0, 2] (some (.inl (some (vI ans)), M1)) M) : X 403 0 [rR 3 11 1, vI a, rR 3 14 1, vJ] [] M = some (.inl (some (vI (cn code))), if code = 0 then sJ M1 3 14 1 0 ans.toInt64 else xc M) := by
  have hh : code = 0 ∨ code = 1 ∨ code = 2 := by omega
  rcases hh with rfl | rfl | rfl
  · exact wr_403_ok h
  · exact wr_403_e0 h
  · exact wr_403_e2 h
def Y404 : List YR := [(0, .aload_n 3, 1, 0, 0, 0, 0, 0), (1, .iconst 0, 1, 0, 0, 0, 0, 0), (2, .aload_n 0, 1, 0, 0, 0, 0, 0), (3, .iload_n 1, 1, 0, 0, 0, 0, 0), (4, .iload_n 2, 1, 0, 0, 0, 0, 0), (5, .invokevirtual 98, 3, 178, 3, 3, 11, 0), (8, .i2l, 1, 0, 0, 0, 0, 0), (9, .lastore, 1, 0, 0, 0, 0, 0), (10, .goto 15, 3, 0, 0, 0, 0, 0), (13, .astore 4, 2, 0, 0, 0, 0, 0), (15, .iconst 1, 1, 0, 0, 0, 0, 1), (16, .ireturn, 1, 0, 0, 0, 0, 0), (17, .astore 4, 2, 0, 0, 0, 0, 0), (19, .iconst 2, 1, 0, 0, 0, 0, 2), (20, .ireturn, 1, 0, 0, 0, 0, 0), (21, .astore 4, 2, 0, 0, 0, 0, 0), (23, .iconst 3, 1, 0, 0, 0, 0, 3), (24, .ireturn, 1, 0, 0, 0, 0, 0), (25, .iconst 0, 1, 0, 0, 0, 0, 0), (26, .ireturn, 1, 0, 0, 0, 0, 0)]
set_option maxRecDepth 100000 in
theorem yr404 : Y404.all (rok3 404) = true := by decide +kernel
set_option maxRecDepth 100000 in
theorem yk404 : T3OK 404 Y404 := t3_ok (K := K404) rfl (fun h => d404 h) yr404
theorem wr_404_ok {M M1 : Mem} {a b : Int32} {ans : Int32} (h : X 178 0 [rR 3 11 1, vI a, vI b] [] M = some (.inl (some (vI ans)), M1)) : X 404 0 [rR 3 11 1, vI a, vI b, rR 3 14 1, vJ] [] M = some (.inl (some (vI (cn 0))), sJ M1 3 14 1 0 ans.toInt64) := by
  refine y_cal yk404 6 8 rfl h ?_
  refine y_lst yk404 1 9 10 _ rfl rfl rfl (by decide) in_out rfl ?_
  exact y_ret yk404 3 rfl rfl
theorem wr_404_e0 {M M1 : Mem} {a b : Int32} (h : X 178 0 [rR 3 11 1, vI a, vI b] [] M = some (.inr 0, M1)) : X 404 0 [rR 3 11 1, vI a, vI b, rR 3 14 1, vJ] [] M = some (.inl (some (vI (cn 1))), M1) := by
  refine y_hnd yk404 6 8 15 4 rfl h (by decide +kernel) (by decide +kernel) rfl ?_
  exact y_ret yk404 2 rfl rfl
theorem wr_404_e1 {M M1 : Mem} {a b : Int32} (h : X 178 0 [rR 3 11 1, vI a, vI b] [] M = some (.inr 1, M1)) : X 404 0 [rR 3 11 1, vI a, vI b, rR 3 14 1, vJ] [] M = some (.inl (some (vI (cn 2))), M1) := by
  refine y_hnd yk404 6 8 19 4 rfl h (by decide +kernel) (by decide +kernel) rfl ?_
  exact y_ret yk404 2 rfl rfl
theorem wr_404_e2 {M M1 : Mem} {a b : Int32} (h : X 178 0 [rR 3 11 1, vI a, vI b] [] M = some (.inr 2, M1)) : X 404 0 [rR 3 11 1, vI a, vI b, rR 3 14 1, vJ] [] M = some (.inl (some (vI (cn 3))), M1) := by
  refine y_hnd yk404 6 8 23 4 rfl h (by decide +kernel) (by decide +kernel) rfl ?_
  exact y_ret yk404 2 rfl rfl
theorem wr_404 {M M1 : Mem} {a b : Int32} {ans : Int32} {code : Nat} (hc : code ≤ 3) (h : X 178 0 [rR 3 11 1, vI a, vI b] [] M = evR code [0, 1, 2] (some (.inl (some (vI ans)), M1)) M) : X 404 0 [rR 3 11 1, vI a, vI b, rR 3 14 1, vJ] [] M = some (.inl (some (vI (cn code))), if code = 0 then sJ M1 3 14 1 0 ans.toInt64 else xc M) := by
  have hh : code = 0 ∨ code = 1 ∨ code = 2 ∨ code = 3 := by omega
  rcases hh with rfl | rfl | rfl | rfl
  · exact wr_404_ok h
  · exact wr_404_e0 h
  · exact wr_404_e1 h
  · exact wr_404_e2 h
def Y405 : List YR := [(0, .aload_n 1, 1, 0, 0, 0, 0, 0), (1, .iconst 0, 1, 0, 0, 0, 0, 0), (2, .aload_n 0, 1, 0, 0, 0, 0, 0), (3, .invokevirtual 101, 3, 179, 1, 1, 11, 0), (6, .i2l, 1, 0, 0, 0, 0, 0), (7, .lastore, 1, 0, 0, 0, 0, 0), (8, .goto 6, 3, 0, 0, 0, 0, 0), (11, .astore_n 2, 1, 0, 0, 0, 0, 0), (12, .iconst 1, 1, 0, 0, 0, 0, 1), (13, .ireturn, 1, 0, 0, 0, 0, 0), (14, .iconst 0, 1, 0, 0, 0, 0, 0), (15, .ireturn, 1, 0, 0, 0, 0, 0)]
set_option maxRecDepth 100000 in
theorem yr405 : Y405.all (rok3 405) = true := by decide +kernel
set_option maxRecDepth 100000 in
theorem yk405 : T3OK 405 Y405 := t3_ok (K := K405) rfl (fun h => d405 h) yr405
theorem wr_405_ok {M M1 : Mem} {ans : Int32} (h : X 179 0 [rR 3 11 1] [] M = some (.inl (some (vI ans)), M1)) : X 405 0 [rR 3 11 1, rR 3 14 1, vJ] [] M = some (.inl (some (vI (cn 0))), sJ M1 3 14 1 0 ans.toInt64) := by
  refine y_cal yk405 4 6 rfl h ?_
  refine y_lst yk405 1 7 8 _ rfl rfl rfl (by decide) in_out rfl ?_
  exact y_ret yk405 3 rfl rfl
theorem wr_405_e2 {M M1 : Mem} (h : X 179 0 [rR 3 11 1] [] M = some (.inr 2, M1)) : X 405 0 [rR 3 11 1, rR 3 14 1, vJ] [] M = some (.inl (some (vI (cn 1))), M1) := by
  refine y_hnd yk405 4 6 12 2 rfl h (by decide +kernel) (by decide +kernel) rfl ?_
  exact y_ret yk405 2 rfl rfl
theorem wr_405 {M M1 : Mem} {ans : Int32} {code : Nat} (hc : code ≤ 1) (h : X 179 0 [rR 3 11 1] [] M = evR code [2] (some (.inl (some (vI ans)), M1)) M) : X 405 0 [rR 3 11 1, rR 3 14 1, vJ] [] M = some (.inl (some (vI (cn code))), if code = 0 then sJ M1 3 14 1 0 ans.toInt64 else xc M) := by
  have hh : code = 0 ∨ code = 1 := by omega
  rcases hh with rfl | rfl
  · exact wr_405_ok h
  · exact wr_405_e2 h
def Y406 : List YR := [(0, .aload_n 3, 1, 0, 0, 0, 0, 0), (1, .iconst 0, 1, 0, 0, 0, 0, 0), (2, .aload_n 0, 1, 0, 0, 0, 0, 0), (3, .iload_n 1, 1, 0, 0, 0, 0, 0), (4, .iload_n 2, 1, 0, 0, 0, 0, 0), (5, .invokevirtual 104, 3, 183, 3, 3, 11, 0), (8, .i2l, 1, 0, 0, 0, 0, 0), (9, .lastore, 1, 0, 0, 0, 0, 0), (10, .goto 7, 3, 0, 0, 0, 0, 0), (13, .astore 4, 2, 0, 0, 0, 0, 0), (15, .iconst 1, 1, 0, 0, 0, 0, 1), (16, .ireturn, 1, 0, 0, 0, 0, 0), (17, .iconst 0, 1, 0, 0, 0, 0, 0), (18, .ireturn, 1, 0, 0, 0, 0, 0)]
set_option maxRecDepth 100000 in
theorem yr406 : Y406.all (rok3 406) = true := by decide +kernel
set_option maxRecDepth 100000 in
theorem yk406 : T3OK 406 Y406 := t3_ok (K := K406) rfl (fun h => d406 h) yr406
theorem wr_406_ok {M M1 : Mem} {a b : Int32} {ans : Int32} (h : X 183 0 [rR 3 11 1, vI a, vI b] [] M = some (.inl (some (vI ans)), M1)) : X 406 0 [rR 3 11 1, vI a, vI b, rR 3 14 1, vJ] [] M = some (.inl (some (vI (cn 0))), sJ M1 3 14 1 0 ans.toInt64) := by
  refine y_cal yk406 6 8 rfl h ?_
  refine y_lst yk406 1 9 10 _ rfl rfl rfl (by decide) in_out rfl ?_
  exact y_ret yk406 3 rfl rfl
theorem wr_406_e0 {M M1 : Mem} {a b : Int32} (h : X 183 0 [rR 3 11 1, vI a, vI b] [] M = some (.inr 0, M1)) : X 406 0 [rR 3 11 1, vI a, vI b, rR 3 14 1, vJ] [] M = some (.inl (some (vI (cn 1))), M1) := by
  refine y_hnd yk406 6 8 15 4 rfl h (by decide +kernel) (by decide +kernel) rfl ?_
  exact y_ret yk406 2 rfl rfl
theorem wr_406 {M M1 : Mem} {a b : Int32} {ans : Int32} {code : Nat} (hc : code ≤ 1) (h : X 183 0 [rR 3 11 1, vI a, vI b] [] M = evR code [0] (some (.inl (some (vI ans)), M1)) M) : X 406 0 [rR 3 11 1, vI a, vI b, rR 3 14 1, vJ] [] M = some (.inl (some (vI (cn code))), if code = 0 then sJ M1 3 14 1 0 ans.toInt64 else xc M) := by
  have hh : code = 0 ∨ code = 1 := by omega
  rcases hh with rfl | rfl
  · exact wr_406_ok h
  · exact wr_406_e0 h
def Y407 : List YR := [(0, .aload_n 3, 1, 0, 0, 0, 0, 0), (1, .iconst 0, 1, 0, 0, 0, 0, 0), (2, .aload_n 0, 1, 0, 0, 0, 0, 0), (3, .iload_n 1, 1, 0, 0, 0, 0, 0), (4, .iload_n 2, 1, 0, 0, 0, 0, 0), (5, .invokevirtual 107, 3, 184, 3, 3, 11, 0), (8, .i2l, 1, 0, 0, 0, 0, 0), (9, .lastore, 1, 0, 0, 0, 0, 0), (10, .goto 7, 3, 0, 0, 0, 0, 0), (13, .astore 4, 2, 0, 0, 0, 0, 0), (15, .iconst 1, 1, 0, 0, 0, 0, 1), (16, .ireturn, 1, 0, 0, 0, 0, 0), (17, .iconst 0, 1, 0, 0, 0, 0, 0), (18, .ireturn, 1, 0, 0, 0, 0, 0)]
set_option maxRecDepth 100000 in
theorem yr407 : Y407.all (rok3 407) = true := by decide +kernel
set_option maxRecDepth 100000 in
theorem yk407 : T3OK 407 Y407 := t3_ok (K := K407) rfl (fun h => d407 h) yr407
theorem wr_407_ok {M M1 : Mem} {a b : Int32} {ans : Int32} (h : X 184 0 [rR 3 11 1, vI a, vI b] [] M = some (.inl (some (vI ans)), M1)) : X 407 0 [rR 3 11 1, vI a, vI b, rR 3 14 1, vJ] [] M = some (.inl (some (vI (cn 0))), sJ M1 3 14 1 0 ans.toInt64) := by
  refine y_cal yk407 6 8 rfl h ?_
  refine y_lst yk407 1 9 10 _ rfl rfl rfl (by decide) in_out rfl ?_
  exact y_ret yk407 3 rfl rfl
theorem wr_407_e0 {M M1 : Mem} {a b : Int32} (h : X 184 0 [rR 3 11 1, vI a, vI b] [] M = some (.inr 0, M1)) : X 407 0 [rR 3 11 1, vI a, vI b, rR 3 14 1, vJ] [] M = some (.inl (some (vI (cn 1))), M1) := by
  refine y_hnd yk407 6 8 15 4 rfl h (by decide +kernel) (by decide +kernel) rfl ?_
  exact y_ret yk407 2 rfl rfl
theorem wr_407 {M M1 : Mem} {a b : Int32} {ans : Int32} {code : Nat} (hc : code ≤ 1) (h : X 184 0 [rR 3 11 1, vI a, vI b] [] M = evR code [0] (some (.inl (some (vI ans)), M1)) M) : X 407 0 [rR 3 11 1, vI a, vI b, rR 3 14 1, vJ] [] M = some (.inl (some (vI (cn code))), if code = 0 then sJ M1 3 14 1 0 ans.toInt64 else xc M) := by
  have hh : code = 0 ∨ code = 1 := by omega
  rcases hh with rfl | rfl
  · exact wr_407_ok h
  · exact wr_407_e0 h
def Y408 : List YR := [(0, .aload_n 3, 1, 0, 0, 0, 0, 0), (1, .iconst 0, 1, 0, 0, 0, 0, 0), (2, .aload_n 0, 1, 0, 0, 0, 0, 0), (3, .iload_n 1, 1, 0, 0, 0, 0, 0), (4, .iload_n 2, 1, 0, 0, 0, 0, 0), (5, .invokevirtual 111, 3, 185, 3, 3, 11, 0), (8, .i2l, 1, 0, 0, 0, 0, 0), (9, .lastore, 1, 0, 0, 0, 0, 0), (10, .goto 7, 3, 0, 0, 0, 0, 0), (13, .astore 4, 2, 0, 0, 0, 0, 0), (15, .iconst 1, 1, 0, 0, 0, 0, 1), (16, .ireturn, 1, 0, 0, 0, 0, 0), (17, .iconst 0, 1, 0, 0, 0, 0, 0), (18, .ireturn, 1, 0, 0, 0, 0, 0)]
set_option maxRecDepth 100000 in
theorem yr408 : Y408.all (rok3 408) = true := by decide +kernel
set_option maxRecDepth 100000 in
theorem yk408 : T3OK 408 Y408 := t3_ok (K := K408) rfl (fun h => d408 h) yr408
theorem wr_408_ok {M M1 : Mem} {a b : Int32} {ans : Int32} (h : X 185 0 [rR 3 11 1, vI a, vI b] [] M = some (.inl (some (vI ans)), M1)) : X 408 0 [rR 3 11 1, vI a, vI b, rR 3 14 1, vJ] [] M = some (.inl (some (vI (cn 0))), sJ M1 3 14 1 0 ans.toInt64) := by
  refine y_cal yk408 6 8 rfl h ?_
  refine y_lst yk408 1 9 10 _ rfl rfl rfl (by decide) in_out rfl ?_
  exact y_ret yk408 3 rfl rfl
theorem wr_408_e0 {M M1 : Mem} {a b : Int32} (h : X 185 0 [rR 3 11 1, vI a, vI b] [] M = some (.inr 0, M1)) : X 408 0 [rR 3 11 1, vI a, vI b, rR 3 14 1, vJ] [] M = some (.inl (some (vI (cn 1))), M1) := by
  refine y_hnd yk408 6 8 15 4 rfl h (by decide +kernel) (by decide +kernel) rfl ?_
  exact y_ret yk408 2 rfl rfl
theorem wr_408 {M M1 : Mem} {a b : Int32} {ans : Int32} {code : Nat} (hc : code ≤ 1) (h : X 185 0 [rR 3 11 1, vI a, vI b] [] M = evR code [0] (some (.inl (some (vI ans)), M1)) M) : X 408 0 [rR 3 11 1, vI a, vI b, rR 3 14 1, vJ] [] M = some (.inl (some (vI (cn code))), if code = 0 then sJ M1 3 14 1 0 ans.toInt64 else xc M) := by
  have hh : code = 0 ∨ code = 1 := by omega
  rcases hh with rfl | rfl
  · exact wr_408_ok h
  · exact wr_408_e0 h
def Y409 : List YR := [(0, .aload 4, 2, 0, 0, 0, 0, 0), (2, .iconst 0, 1, 0, 0, 0, 0, 0), (3, .aload_n 0, 1, 0, 0, 0, 0, 0), (4, .iload_n 1, 1, 0, 0, 0, 0, 0), (5, .iload_n 2, 1, 0, 0, 0, 0, 0), (6, .iload_n 3, 1, 0, 0, 0, 0, 0), (7, .invokevirtual 114, 3, 186, 4, 4, 11, 0), (10, .i2l, 1, 0, 0, 0, 0, 0), (11, .lastore, 1, 0, 0, 0, 0, 0), (12, .goto 7, 3, 0, 0, 0, 0, 0), (15, .astore 5, 2, 0, 0, 0, 0, 0), (17, .iconst 1, 1, 0, 0, 0, 0, 1), (18, .ireturn, 1, 0, 0, 0, 0, 0), (19, .iconst 0, 1, 0, 0, 0, 0, 0), (20, .ireturn, 1, 0, 0, 0, 0, 0)]
set_option maxRecDepth 100000 in
theorem yr409 : Y409.all (rok3 409) = true := by decide +kernel
set_option maxRecDepth 100000 in
theorem yk409 : T3OK 409 Y409 := t3_ok (K := K409) rfl (fun h => d409 h) yr409
theorem wr_409_ok {M M1 : Mem} {a b c : Int32} {ans : Int32} (h : X 186 0 [rR 3 11 1, vI a, vI b, vI c] [] M = some (.inl (some (vI ans)), M1)) : X 409 0 [rR 3 11 1, vI a, vI b, vI c, rR 3 14 1, vJ] [] M = some (.inl (some (vI (cn 0))), sJ M1 3 14 1 0 ans.toInt64) := by
  refine y_cal yk409 7 10 rfl h ?_
  refine y_lst yk409 1 11 12 _ rfl rfl rfl (by decide) in_out rfl ?_
  exact y_ret yk409 3 rfl rfl
theorem wr_409_e0 {M M1 : Mem} {a b c : Int32} (h : X 186 0 [rR 3 11 1, vI a, vI b, vI c] [] M = some (.inr 0, M1)) : X 409 0 [rR 3 11 1, vI a, vI b, vI c, rR 3 14 1, vJ] [] M = some (.inl (some (vI (cn 1))), M1) := by
  refine y_hnd yk409 7 10 17 5 rfl h (by decide +kernel) (by decide +kernel) rfl ?_
  exact y_ret yk409 2 rfl rfl
theorem wr_409 {M M1 : Mem} {a b c : Int32} {ans : Int32} {code : Nat} (hc : code ≤ 1) (h : X 186 0 [rR 3 11 1, vI a, vI b, vI c] [] M = evR code [0] (some (.inl (some (vI ans)), M1)) M) : X 409 0 [rR 3 11 1, vI a, vI b, vI c, rR 3 14 1, vJ] [] M = some (.inl (some (vI (cn code))), if code = 0 then sJ M1 3 14 1 0 ans.toInt64 else xc M) := by
  have hh : code = 0 ∨ code = 1 := by omega
  rcases hh with rfl | rfl
  · exact wr_409_ok h
  · exact wr_409_e0 h
def Y410 : List YR := [(0, .aload_n 2, 1, 0, 0, 0, 0, 0), (1, .iconst 0, 1, 0, 0, 0, 0, 0), (2, .aload_n 0, 1, 0, 0, 0, 0, 0), (3, .iload_n 1, 1, 0, 0, 0, 0, 0), (4, .invokevirtual 117, 3, 188, 2, 3, 11, 0), (7, .i2l, 1, 0, 0, 0, 0, 0), (8, .lastore, 1, 0, 0, 0, 0, 0), (9, .goto 6, 3, 0, 0, 0, 0, 0), (12, .astore_n 3, 1, 0, 0, 0, 0, 0), (13, .iconst 1, 1, 0, 0, 0, 0, 1), (14, .ireturn, 1, 0, 0, 0, 0, 0), (15, .iconst 0, 1, 0, 0, 0, 0, 0), (16, .ireturn, 1, 0, 0, 0, 0, 0)]
set_option maxRecDepth 100000 in
theorem yr410 : Y410.all (rok3 410) = true := by decide +kernel
set_option maxRecDepth 100000 in
theorem yk410 : T3OK 410 Y410 := t3_ok (K := K410) rfl (fun h => d410 h) yr410
theorem wr_410_ok {M M1 : Mem} {a : Int32} {ans : Int32} (h : X 188 0 [rR 3 11 1, vI a, vJ] [] M = some (.inl (some (vI ans)), M1)) : X 410 0 [rR 3 11 1, vI a, rR 3 14 1, vJ] [] M = some (.inl (some (vI (cn 0))), sJ M1 3 14 1 0 ans.toInt64) := by
  refine y_cal yk410 5 7 rfl h ?_
  refine y_lst yk410 1 8 9 _ rfl rfl rfl (by decide) in_out rfl ?_
  exact y_ret yk410 3 rfl rfl
theorem wr_410_e0 {M M1 : Mem} {a : Int32} (h : X 188 0 [rR 3 11 1, vI a, vJ] [] M = some (.inr 0, M1)) : X 410 0 [rR 3 11 1, vI a, rR 3 14 1, vJ] [] M = some (.inl (some (vI (cn 1))), M1) := by
  refine y_hnd yk410 5 7 13 3 rfl h (by decide +kernel) (by decide +kernel) rfl ?_
  exact y_ret yk410 2 rfl rfl
theorem wr_410 {M M1 : Mem} {a : Int32} {ans : Int32} {code : Nat} (hc : code ≤ 1) (h : X 188 0 [rR 3 11 1, vI a, vJ] [] M = evR code [0] (some (.inl (some (vI ans)), M1)) M) : X 410 0 [rR 3 11 1, vI a, rR 3 14 1, vJ] [] M = some (.inl (some (vI (cn code))), if code = 0 then sJ M1 3 14 1 0 ans.toInt64 else xc M) := by
  have hh : code = 0 ∨ code = 1 := by omega
  rcases hh with rfl | rfl
  · exact wr_410_ok h
  · exact wr_410_e0 h
def Y411 : List YR := [(0, .aload_n 2, 1, 0, 0, 0, 0, 0), (1, .iconst 0, 1, 0, 0, 0, 0, 0), (2, .aload_n 0, 1, 0, 0, 0, 0, 0), (3, .iload_n 1, 1, 0, 0, 0, 0, 0), (4, .invokevirtual 120, 3, 189, 2, 3, 11, 0), (7, .i2l, 1, 0, 0, 0, 0, 0), (8, .lastore, 1, 0, 0, 0, 0, 0), (9, .goto 6, 3, 0, 0, 0, 0, 0), (12, .astore_n 3, 1, 0, 0, 0, 0, 0), (13, .iconst 1, 1, 0, 0, 0, 0, 1), (14, .ireturn, 1, 0, 0, 0, 0, 0), (15, .iconst 0, 1, 0, 0, 0, 0, 0), (16, .ireturn, 1, 0, 0, 0, 0, 0)]
set_option maxRecDepth 100000 in
theorem yr411 : Y411.all (rok3 411) = true := by decide +kernel
set_option maxRecDepth 100000 in
theorem yk411 : T3OK 411 Y411 := t3_ok (K := K411) rfl (fun h => d411 h) yr411
theorem wr_411_ok {M M1 : Mem} {a : Int32} {ans : Int32} (h : X 189 0 [rR 3 11 1, vI a, vJ] [] M = some (.inl (some (vI ans)), M1)) : X 411 0 [rR 3 11 1, vI a, rR 3 14 1, vJ] [] M = some (.inl (some (vI (cn 0))), sJ M1 3 14 1 0 ans.toInt64) := by
  refine y_cal yk411 5 7 rfl h ?_
  refine y_lst yk411 1 8 9 _ rfl rfl rfl (by decide) in_out rfl ?_
  exact y_ret yk411 3 rfl rfl
theorem wr_411_e0 {M M1 : Mem} {a : Int32} (h : X 189 0 [rR 3 11 1, vI a, vJ] [] M = some (.inr 0, M1)) : X 411 0 [rR 3 11 1, vI a, rR 3 14 1, vJ] [] M = some (.inl (some (vI (cn 1))), M1) := by
  refine y_hnd yk411 5 7 13 3 rfl h (by decide +kernel) (by decide +kernel) rfl ?_
  exact y_ret yk411 2 rfl rfl
theorem wr_411 {M M1 : Mem} {a : Int32} {ans : Int32} {code : Nat} (hc : code ≤ 1) (h : X 189 0 [rR 3 11 1, vI a, vJ] [] M = evR code [0] (some (.inl (some (vI ans)), M1)) M) : X 411 0 [rR 3 11 1, vI a, rR 3 14 1, vJ] [] M = some (.inl (some (vI (cn code))), if code = 0 then sJ M1 3 14 1 0 ans.toInt64 else xc M) := by
  have hh : code = 0 ∨ code = 1 := by omega
  rcases hh with rfl | rfl
  · exact wr_411_ok h
  · exact wr_411_e0 h
def Y412 : List YR := [(0, .aload_n 3, 1, 0, 0, 0, 0, 0), (1, .iconst 0, 1, 0, 0, 0, 0, 0), (2, .aload_n 0, 1, 0, 0, 0, 0, 0), (3, .iload_n 1, 1, 0, 0, 0, 0, 0), (4, .iload_n 2, 1, 0, 0, 0, 0, 0), (5, .invokevirtual 123, 3, 190, 3, 4, 11, 0), (8, .i2l, 1, 0, 0, 0, 0, 0), (9, .lastore, 1, 0, 0, 0, 0, 0), (10, .goto 7, 3, 0, 0, 0, 0, 0), (13, .astore 4, 2, 0, 0, 0, 0, 0), (15, .iconst 1, 1, 0, 0, 0, 0, 1), (16, .ireturn, 1, 0, 0, 0, 0, 0), (17, .iconst 0, 1, 0, 0, 0, 0, 0), (18, .ireturn, 1, 0, 0, 0, 0, 0)]
set_option maxRecDepth 100000 in
theorem yr412 : Y412.all (rok3 412) = true := by decide +kernel
set_option maxRecDepth 100000 in
theorem yk412 : T3OK 412 Y412 := t3_ok (K := K412) rfl (fun h => d412 h) yr412
theorem wr_412_ok {M M1 : Mem} {a b : Int32} {ans : Int32} (h : X 190 0 [rR 3 11 1, vI a, vI b, vJ] [] M = some (.inl (some (vI ans)), M1)) : X 412 0 [rR 3 11 1, vI a, vI b, rR 3 14 1, vJ] [] M = some (.inl (some (vI (cn 0))), sJ M1 3 14 1 0 ans.toInt64) := by
  refine y_cal yk412 6 8 rfl h ?_
  refine y_lst yk412 1 9 10 _ rfl rfl rfl (by decide) in_out rfl ?_
  exact y_ret yk412 3 rfl rfl
theorem wr_412_e0 {M M1 : Mem} {a b : Int32} (h : X 190 0 [rR 3 11 1, vI a, vI b, vJ] [] M = some (.inr 0, M1)) : X 412 0 [rR 3 11 1, vI a, vI b, rR 3 14 1, vJ] [] M = some (.inl (some (vI (cn 1))), M1) := by
  refine y_hnd yk412 6 8 15 4 rfl h (by decide +kernel) (by decide +kernel) rfl ?_
  exact y_ret yk412 2 rfl rfl
theorem wr_412 {M M1 : Mem} {a b : Int32} {ans : Int32} {code : Nat} (hc : code ≤ 1) (h : X 190 0 [rR 3 11 1, vI a, vI b, vJ] [] M = evR code [0] (some (.inl (some (vI ans)), M1)) M) : X 412 0 [rR 3 11 1, vI a, vI b, rR 3 14 1, vJ] [] M = some (.inl (some (vI (cn code))), if code = 0 then sJ M1 3 14 1 0 ans.toInt64 else xc M) := by
  have hh : code = 0 ∨ code = 1 := by omega
  rcases hh with rfl | rfl
  · exact wr_412_ok h
  · exact wr_412_e0 h
def Y413 : List YR := [(0, .aload_n 2, 1, 0, 0, 0, 0, 0), (1, .iconst 0, 1, 0, 0, 0, 0, 0), (2, .aload_n 0, 1, 0, 0, 0, 0, 0), (3, .iload_n 1, 1, 0, 0, 0, 0, 0), (4, .invokevirtual 126, 3, 191, 2, 3, 11, 0), (7, .i2l, 1, 0, 0, 0, 0, 0), (8, .lastore, 1, 0, 0, 0, 0, 0), (9, .goto 6, 3, 0, 0, 0, 0, 0), (12, .astore_n 3, 1, 0, 0, 0, 0, 0), (13, .iconst 1, 1, 0, 0, 0, 0, 1), (14, .ireturn, 1, 0, 0, 0, 0, 0), (15, .iconst 0, 1, 0, 0, 0, 0, 0), (16, .ireturn, 1, 0, 0, 0, 0, 0)]
set_option maxRecDepth 100000 in
theorem yr413 : Y413.all (rok3 413) = true := by decide +kernel
set_option maxRecDepth 100000 in
theorem yk413 : T3OK 413 Y413 := t3_ok (K := K413) rfl (fun h => d413 h) yr413
theorem wr_413_ok {M M1 : Mem} {a : Int32} {ans : Int32} (h : X 191 0 [rR 3 11 1, vI a, vJ] [] M = some (.inl (some (vI ans)), M1)) : X 413 0 [rR 3 11 1, vI a, rR 3 14 1, vJ] [] M = some (.inl (some (vI (cn 0))), sJ M1 3 14 1 0 ans.toInt64) := by
  refine y_cal yk413 5 7 rfl h ?_
  refine y_lst yk413 1 8 9 _ rfl rfl rfl (by decide) in_out rfl ?_
  exact y_ret yk413 3 rfl rfl
theorem wr_413_e0 {M M1 : Mem} {a : Int32} (h : X 191 0 [rR 3 11 1, vI a, vJ] [] M = some (.inr 0, M1)) : X 413 0 [rR 3 11 1, vI a, rR 3 14 1, vJ] [] M = some (.inl (some (vI (cn 1))), M1) := by
  refine y_hnd yk413 5 7 13 3 rfl h (by decide +kernel) (by decide +kernel) rfl ?_
  exact y_ret yk413 2 rfl rfl
theorem wr_413 {M M1 : Mem} {a : Int32} {ans : Int32} {code : Nat} (hc : code ≤ 1) (h : X 191 0 [rR 3 11 1, vI a, vJ] [] M = evR code [0] (some (.inl (some (vI ans)), M1)) M) : X 413 0 [rR 3 11 1, vI a, rR 3 14 1, vJ] [] M = some (.inl (some (vI (cn code))), if code = 0 then sJ M1 3 14 1 0 ans.toInt64 else xc M) := by
  have hh : code = 0 ∨ code = 1 := by omega
  rcases hh with rfl | rfl
  · exact wr_413_ok h
  · exact wr_413_e0 h
def Y414 : List YR := [(0, .aload_n 3, 1, 0, 0, 0, 0, 0), (1, .iconst 0, 1, 0, 0, 0, 0, 0), (2, .aload_n 0, 1, 0, 0, 0, 0, 0), (3, .iload_n 1, 1, 0, 0, 0, 0, 0), (4, .iload_n 2, 1, 0, 0, 0, 0, 0), (5, .invokevirtual 129, 3, 192, 3, 5, 11, 0), (8, .i2l, 1, 0, 0, 0, 0, 0), (9, .lastore, 1, 0, 0, 0, 0, 0), (10, .goto 7, 3, 0, 0, 0, 0, 0), (13, .astore 4, 2, 0, 0, 0, 0, 0), (15, .iconst 1, 1, 0, 0, 0, 0, 1), (16, .ireturn, 1, 0, 0, 0, 0, 0), (17, .iconst 0, 1, 0, 0, 0, 0, 0), (18, .ireturn, 1, 0, 0, 0, 0, 0)]
set_option maxRecDepth 100000 in
theorem yr414 : Y414.all (rok3 414) = true := by decide +kernel
set_option maxRecDepth 100000 in
theorem yk414 : T3OK 414 Y414 := t3_ok (K := K414) rfl (fun h => d414 h) yr414
theorem wr_414_ok {M M1 : Mem} {a b : Int32} {ans : Int32} (h : X 192 0 [rR 3 11 1, vI a, vI b, vJ, vJ] [] M = some (.inl (some (vI ans)), M1)) : X 414 0 [rR 3 11 1, vI a, vI b, rR 3 14 1, vJ] [] M = some (.inl (some (vI (cn 0))), sJ M1 3 14 1 0 ans.toInt64) := by
  refine y_cal yk414 6 8 rfl h ?_
  refine y_lst yk414 1 9 10 _ rfl rfl rfl (by decide) in_out rfl ?_
  exact y_ret yk414 3 rfl rfl
theorem wr_414_e0 {M M1 : Mem} {a b : Int32} (h : X 192 0 [rR 3 11 1, vI a, vI b, vJ, vJ] [] M = some (.inr 0, M1)) : X 414 0 [rR 3 11 1, vI a, vI b, rR 3 14 1, vJ] [] M = some (.inl (some (vI (cn 1))), M1) := by
  refine y_hnd yk414 6 8 15 4 rfl h (by decide +kernel) (by decide +kernel) rfl ?_
  exact y_ret yk414 2 rfl rfl
theorem wr_414 {M M1 : Mem} {a b : Int32} {ans : Int32} {code : Nat} (hc : code ≤ 1) (h : X 192 0 [rR 3 11 1, vI a, vI b, vJ, vJ] [] M = evR code [0] (some (.inl (some (vI ans)), M1)) M) : X 414 0 [rR 3 11 1, vI a, vI b, rR 3 14 1, vJ] [] M = some (.inl (some (vI (cn code))), if code = 0 then sJ M1 3 14 1 0 ans.toInt64 else xc M) := by
  have hh : code = 0 ∨ code = 1 := by omega
  rcases hh with rfl | rfl
  · exact wr_414_ok h
  · exact wr_414_e0 h
def Y415 : List YR := [(0, .aload_n 3, 1, 0, 0, 0, 0, 0), (1, .iconst 0, 1, 0, 0, 0, 0, 0), (2, .aload_n 0, 1, 0, 0, 0, 0, 0), (3, .iload_n 1, 1, 0, 0, 0, 0, 0), (4, .iload_n 2, 1, 0, 0, 0, 0, 0), (5, .invokevirtual 132, 3, 194, 3, 4, 11, 0), (8, .i2l, 1, 0, 0, 0, 0, 0), (9, .lastore, 1, 0, 0, 0, 0, 0), (10, .goto 11, 3, 0, 0, 0, 0, 0), (13, .astore 4, 2, 0, 0, 0, 0, 0), (15, .iconst 1, 1, 0, 0, 0, 0, 1), (16, .ireturn, 1, 0, 0, 0, 0, 0), (17, .astore 4, 2, 0, 0, 0, 0, 0), (19, .iconst 2, 1, 0, 0, 0, 0, 2), (20, .ireturn, 1, 0, 0, 0, 0, 0), (21, .iconst 0, 1, 0, 0, 0, 0, 0), (22, .ireturn, 1, 0, 0, 0, 0, 0)]
set_option maxRecDepth 100000 in
theorem yr415 : Y415.all (rok3 415) = true := by decide +kernel
set_option maxRecDepth 100000 in
theorem yk415 : T3OK 415 Y415 := t3_ok (K := K415) rfl (fun h => d415 h) yr415
theorem wr_415_ok {M M1 : Mem} {a b : Int32} {ans : Int32} (h : X 194 0 [rR 3 11 1, vI a, vI b, vJ] [] M = some (.inl (some (vI ans)), M1)) : X 415 0 [rR 3 11 1, vI a, vI b, rR 3 14 1, vJ] [] M = some (.inl (some (vI (cn 0))), sJ M1 3 14 1 0 ans.toInt64) := by
  refine y_cal yk415 6 8 rfl h ?_
  refine y_lst yk415 1 9 10 _ rfl rfl rfl (by decide) in_out rfl ?_
  exact y_ret yk415 3 rfl rfl
theorem wr_415_e0 {M M1 : Mem} {a b : Int32} (h : X 194 0 [rR 3 11 1, vI a, vI b, vJ] [] M = some (.inr 0, M1)) : X 415 0 [rR 3 11 1, vI a, vI b, rR 3 14 1, vJ] [] M = some (.inl (some (vI (cn 1))), M1) := by
  refine y_hnd yk415 6 8 15 4 rfl h (by decide +kernel) (by decide +kernel) rfl ?_
  exact y_ret yk415 2 rfl rfl
theorem wr_415_e1 {M M1 : Mem} {a b : Int32} (h : X 194 0 [rR 3 11 1, vI a, vI b, vJ] [] M = some (.inr 1, M1)) : X 415 0 [rR 3 11 1, vI a, vI b, rR 3 14 1, vJ] [] M = some (.inl (some (vI (cn 2))), M1) := by
  refine y_hnd yk415 6 8 19 4 rfl h (by decide +kernel) (by decide +kernel) rfl ?_
  exact y_ret yk415 2 rfl rfl
theorem wr_415 {M M1 : Mem} {a b : Int32} {ans : Int32} {code : Nat} (hc : code ≤ 2) (h : X 194 0 [rR 3 11 1, vI a, vI b, vJ] [] M = evR code [0, 1] (some (.inl (some (vI ans)), M1)) M) : X 415 0 [rR 3 11 1, vI a, vI b, rR 3 14 1, vJ] [] M = some (.inl (some (vI (cn code))), if code = 0 then sJ M1 3 14 1 0 ans.toInt64 else xc M) := by
  have hh : code = 0 ∨ code = 1 ∨ code = 2 := by omega
  rcases hh with rfl | rfl | rfl
  · exact wr_415_ok h
  · exact wr_415_e0 h
  · exact wr_415_e1 h
def Y416 : List YR := [(0, .aload_n 3, 1, 0, 0, 0, 0, 0), (1, .iconst 0, 1, 0, 0, 0, 0, 0), (2, .aload_n 0, 1, 0, 0, 0, 0, 0), (3, .iload_n 1, 1, 0, 0, 0, 0, 0), (4, .iload_n 2, 1, 0, 0, 0, 0, 0), (5, .invokevirtual 135, 3, 195, 3, 3, 11, 0), (8, .i2l, 1, 0, 0, 0, 0, 0), (9, .lastore, 1, 0, 0, 0, 0, 0), (10, .goto 7, 3, 0, 0, 0, 0, 0), (13, .astore 4, 2, 0, 0, 0, 0, 0), (15, .iconst 1, 1, 0, 0, 0, 0, 1), (16, .ireturn, 1, 0, 0, 0, 0, 0), (17, .iconst 0, 1, 0, 0, 0, 0, 0), (18, .ireturn, 1, 0, 0, 0, 0, 0)]
set_option maxRecDepth 100000 in
theorem yr416 : Y416.all (rok3 416) = true := by decide +kernel
set_option maxRecDepth 100000 in
theorem yk416 : T3OK 416 Y416 := t3_ok (K := K416) rfl (fun h => d416 h) yr416
theorem wr_416_ok {M M1 : Mem} {a b : Int32} {ans : Int32} (h : X 195 0 [rR 3 11 1, vI a, vI b] [] M = some (.inl (some (vI ans)), M1)) : X 416 0 [rR 3 11 1, vI a, vI b, rR 3 14 1, vJ] [] M = some (.inl (some (vI (cn 0))), sJ M1 3 14 1 0 ans.toInt64) := by
  refine y_cal yk416 6 8 rfl h ?_
  refine y_lst yk416 1 9 10 _ rfl rfl rfl (by decide) in_out rfl ?_
  exact y_ret yk416 3 rfl rfl
theorem wr_416_e0 {M M1 : Mem} {a b : Int32} (h : X 195 0 [rR 3 11 1, vI a, vI b] [] M = some (.inr 0, M1)) : X 416 0 [rR 3 11 1, vI a, vI b, rR 3 14 1, vJ] [] M = some (.inl (some (vI (cn 1))), M1) := by
  refine y_hnd yk416 6 8 15 4 rfl h (by decide +kernel) (by decide +kernel) rfl ?_
  exact y_ret yk416 2 rfl rfl
theorem wr_416 {M M1 : Mem} {a b : Int32} {ans : Int32} {code : Nat} (hc : code ≤ 1) (h : X 195 0 [rR 3 11 1, vI a, vI b] [] M = evR code [0] (some (.inl (some (vI ans)), M1)) M) : X 416 0 [rR 3 11 1, vI a, vI b, rR 3 14 1, vJ] [] M = some (.inl (some (vI (cn code))), if code = 0 then sJ M1 3 14 1 0 ans.toInt64 else xc M) := by
  have hh : code = 0 ∨ code = 1 := by omega
  rcases hh with rfl | rfl
  · exact wr_416_ok h
  · exact wr_416_e0 h
def Y417 : List YR := [(0, .aload_n 2, 1, 0, 0, 0, 0, 0), (1, .iconst 0, 1, 0, 0, 0, 0, 0), (2, .aload_n 0, 1, 0, 0, 0, 0, 0), (3, .iload_n 1, 1, 0, 0, 0, 0, 0), (4, .invokevirtual 138, 3, 196, 2, 2, 11, 0), (7, .lastore, 1, 0, 0, 0, 0, 0), (8, .goto 6, 3, 0, 0, 0, 0, 0), (11, .astore_n 3, 1, 0, 0, 0, 0, 0), (12, .iconst 1, 1, 0, 0, 0, 0, 1), (13, .ireturn, 1, 0, 0, 0, 0, 0), (14, .iconst 0, 1, 0, 0, 0, 0, 0), (15, .ireturn, 1, 0, 0, 0, 0, 0)]
set_option maxRecDepth 100000 in
theorem yr417 : Y417.all (rok3 417) = true := by decide +kernel
set_option maxRecDepth 100000 in
theorem yk417 : T3OK 417 Y417 := t3_ok (K := K417) rfl (fun h => d417 h) yr417
theorem wr_417_ok {M M1 : Mem} {a : Int32} {ans : Int64} (h : X 196 0 [rR 3 11 1, vI a] [] M = some (.inl (some (vL ans)), M1)) : X 417 0 [rR 3 11 1, vI a, rR 3 14 1, vJ] [] M = some (.inl (some (vI (cn 0))), sJ M1 3 14 1 0 ans) := by
  refine y_cal yk417 5 7 rfl h ?_
  refine y_lst yk417 0 7 8 _ rfl rfl rfl (by decide) in_out rfl ?_
  exact y_ret yk417 3 rfl rfl
theorem wr_417_e0 {M M1 : Mem} {a : Int32} (h : X 196 0 [rR 3 11 1, vI a] [] M = some (.inr 0, M1)) : X 417 0 [rR 3 11 1, vI a, rR 3 14 1, vJ] [] M = some (.inl (some (vI (cn 1))), M1) := by
  refine y_hnd yk417 5 7 12 3 rfl h (by decide +kernel) (by decide +kernel) rfl ?_
  exact y_ret yk417 2 rfl rfl
theorem wr_417 {M M1 : Mem} {a : Int32} {ans : Int64} {code : Nat} (hc : code ≤ 1) (h : X 196 0 [rR 3 11 1, vI a] [] M = evR code [0] (some (.inl (some (vL ans)), M1)) M) : X 417 0 [rR 3 11 1, vI a, rR 3 14 1, vJ] [] M = some (.inl (some (vI (cn code))), if code = 0 then sJ M1 3 14 1 0 ans else xc M) := by
  have hh : code = 0 ∨ code = 1 := by omega
  rcases hh with rfl | rfl
  · exact wr_417_ok h
  · exact wr_417_e0 h
def Y418 : List YR := [(0, .aload_n 2, 1, 0, 0, 0, 0, 0), (1, .iconst 0, 1, 0, 0, 0, 0, 0), (2, .aload_n 0, 1, 0, 0, 0, 0, 0), (3, .iload_n 1, 1, 0, 0, 0, 0, 0), (4, .invokevirtual 142, 3, 197, 2, 2, 11, 0), (7, .i2l, 1, 0, 0, 0, 0, 0), (8, .lastore, 1, 0, 0, 0, 0, 0), (9, .goto 6, 3, 0, 0, 0, 0, 0), (12, .astore_n 3, 1, 0, 0, 0, 0, 0), (13, .iconst 1, 1, 0, 0, 0, 0, 1), (14, .ireturn, 1, 0, 0, 0, 0, 0), (15, .iconst 0, 1, 0, 0, 0, 0, 0), (16, .ireturn, 1, 0, 0, 0, 0, 0)]
set_option maxRecDepth 100000 in
theorem yr418 : Y418.all (rok3 418) = true := by decide +kernel
set_option maxRecDepth 100000 in
theorem yk418 : T3OK 418 Y418 := t3_ok (K := K418) rfl (fun h => d418 h) yr418
theorem wr_418_ok {M M1 : Mem} {a : Int32} {ans : Int32} (h : X 197 0 [rR 3 11 1, vI a] [] M = some (.inl (some (vI ans)), M1)) : X 418 0 [rR 3 11 1, vI a, rR 3 14 1, vJ] [] M = some (.inl (some (vI (cn 0))), sJ M1 3 14 1 0 ans.toInt64) := by
  refine y_cal yk418 5 7 rfl h ?_
  refine y_lst yk418 1 8 9 _ rfl rfl rfl (by decide) in_out rfl ?_
  exact y_ret yk418 3 rfl rfl
theorem wr_418_e0 {M M1 : Mem} {a : Int32} (h : X 197 0 [rR 3 11 1, vI a] [] M = some (.inr 0, M1)) : X 418 0 [rR 3 11 1, vI a, rR 3 14 1, vJ] [] M = some (.inl (some (vI (cn 1))), M1) := by
  refine y_hnd yk418 5 7 13 3 rfl h (by decide +kernel) (by decide +kernel) rfl ?_
  exact y_ret yk418 2 rfl rfl
theorem wr_418 {M M1 : Mem} {a : Int32} {ans : Int32} {code : Nat} (hc : code ≤ 1) (h : X 197 0 [rR 3 11 1, vI a] [] M = evR code [0] (some (.inl (some (vI ans)), M1)) M) : X 418 0 [rR 3 11 1, vI a, rR 3 14 1, vJ] [] M = some (.inl (some (vI (cn code))), if code = 0 then sJ M1 3 14 1 0 ans.toInt64 else xc M) := by
  have hh : code = 0 ∨ code = 1 := by omega
  rcases hh with rfl | rfl
  · exact wr_418_ok h
  · exact wr_418_e0 h
def Y419 : List YR := [(0, .aload_n 3, 1, 0, 0, 0, 0, 0), (1, .iconst 0, 1, 0, 0, 0, 0, 0), (2, .aload_n 0, 1, 0, 0, 0, 0, 0), (3, .iload_n 1, 1, 0, 0, 0, 0, 0), (4, .iload_n 2, 1, 0, 0, 0, 0, 0), (5, .invokevirtual 145, 3, 198, 3, 3, 11, 0), (8, .lastore, 1, 0, 0, 0, 0, 0), (9, .goto 11, 3, 0, 0, 0, 0, 0), (12, .astore 4, 2, 0, 0, 0, 0, 0), (14, .iconst 1, 1, 0, 0, 0, 0, 1), (15, .ireturn, 1, 0, 0, 0, 0, 0), (16, .astore 4, 2, 0, 0, 0, 0, 0), (18, .iconst 2, 1, 0, 0, 0, 0, 2), (19, .ireturn, 1, 0, 0, 0, 0, 0), (20, .iconst 0, 1, 0, 0, 0, 0, 0), (21, .ireturn, 1, 0, 0, 0, 0, 0)]
set_option maxRecDepth 100000 in
theorem yr419 : Y419.all (rok3 419) = true := by decide +kernel
set_option maxRecDepth 100000 in
theorem yk419 : T3OK 419 Y419 := t3_ok (K := K419) rfl (fun h => d419 h) yr419
theorem wr_419_ok {M M1 : Mem} {a b : Int32} {ans : Int64} (h : X 198 0 [rR 3 11 1, vI a, vI b] [] M = some (.inl (some (vL ans)), M1)) : X 419 0 [rR 3 11 1, vI a, vI b, rR 3 14 1, vJ] [] M = some (.inl (some (vI (cn 0))), sJ M1 3 14 1 0 ans) := by
  refine y_cal yk419 6 8 rfl h ?_
  refine y_lst yk419 0 8 9 _ rfl rfl rfl (by decide) in_out rfl ?_
  exact y_ret yk419 3 rfl rfl
theorem wr_419_e0 {M M1 : Mem} {a b : Int32} (h : X 198 0 [rR 3 11 1, vI a, vI b] [] M = some (.inr 0, M1)) : X 419 0 [rR 3 11 1, vI a, vI b, rR 3 14 1, vJ] [] M = some (.inl (some (vI (cn 1))), M1) := by
  refine y_hnd yk419 6 8 14 4 rfl h (by decide +kernel) (by decide +kernel) rfl ?_
  exact y_ret yk419 2 rfl rfl
theorem wr_419_e1 {M M1 : Mem} {a b : Int32} (h : X 198 0 [rR 3 11 1, vI a, vI b] [] M = some (.inr 1, M1)) : X 419 0 [rR 3 11 1, vI a, vI b, rR 3 14 1, vJ] [] M = some (.inl (some (vI (cn 2))), M1) := by
  refine y_hnd yk419 6 8 18 4 rfl h (by decide +kernel) (by decide +kernel) rfl ?_
  exact y_ret yk419 2 rfl rfl
theorem wr_419 {M M1 : Mem} {a b : Int32} {ans : Int64} {code : Nat} (hc : code ≤ 2) (h : X 198 0 [rR 3 11 1, vI a, vI b] [] M = evR code [0, 1] (some (.inl (some (vL ans)), M1)) M) : X 419 0 [rR 3 11 1, vI a, vI b, rR 3 14 1, vJ] [] M = some (.inl (some (vI (cn code))), if code = 0 then sJ M1 3 14 1 0 ans else xc M) := by
  have hh : code = 0 ∨ code = 1 ∨ code = 2 := by omega
  rcases hh with rfl | rfl | rfl
  · exact wr_419_ok h
  · exact wr_419_e0 h
  · exact wr_419_e1 h
