/-! the code of the methods, as tables -/
def K385 : List (Nat × Instr × Nat) := [(0, .aload_n 2, 1), (1, .iconst 0, 1), (2, .aload_n 0, 1), (3, .iload_n 1, 1), (4, .invokevirtual 36, 3), (7, .i2l, 1), (8, .lastore, 1), (9, .goto 9, 3), (12, .astore_n 3, 1), (13, .iconst 1, 1), (14, .ireturn, 1), (15, .astore_n 3, 1), (16, .iconst 2, 1), (17, .ireturn, 1), (18, .iconst 0, 1), (19, .ireturn, 1)]
set_option maxRecDepth 100000 in
theorem kc385 : chk cL_cancel K385 = true := by decide +kernel
theorem d385 {j pc len : Nat} {i : Instr} (h : K385[j]? = some (pc, i, len)) : decode (mB 385) pc = .ok (i, len) := by
  unfold mB
  rw [mX_385]
  exact chk_at kc385 j h
def K386 : List (Nat × Instr × Nat) := [(0, .aload 5, 2), (2, .iconst 0, 1), (3, .aload_n 0, 1), (4, .iload_n 1, 1), (5, .iload_n 2, 1), (6, .iload_n 3, 1), (7, .iload 4, 2), (9, .invokevirtual 40, 3), (12, .i2l, 1), (13, .lastore, 1), (14, .goto 11, 3), (17, .astore 6, 2), (19, .iconst 1, 1), (20, .ireturn, 1), (21, .astore 6, 2), (23, .iconst 2, 1), (24, .ireturn, 1), (25, .iconst 0, 1), (26, .ireturn, 1)]
set_option maxRecDepth 100000 in
theorem kc386 : chk cL_setRule K386 = true := by decide +kernel
theorem d386 {j pc len : Nat} {i : Instr} (h : K386[j]? = some (pc, i, len)) : decode (mB 386) pc = .ok (i, len) := by
  unfold mB
  rw [mX_386]
  exact chk_at kc386 j h
def K387 : List (Nat × Instr × Nat) := [(0, .aload_n 3, 1), (1, .iconst 0, 1), (2, .aload_n 0, 1), (3, .iload_n 1, 1), (4, .iload_n 2, 1), (5, .invokevirtual 44, 3), (8, .i2l, 1), (9, .lastore, 1), (10, .goto 11, 3), (13, .astore 4, 2), (15, .iconst 1, 1), (16, .ireturn, 1), (17, .astore 4, 2), (19, .iconst 2, 1), (20, .ireturn, 1), (21, .iconst 0, 1), (22, .ireturn, 1)]
set_option maxRecDepth 100000 in
theorem kc387 : chk cL_setBand K387 = true := by decide +kernel
theorem d387 {j pc len : Nat} {i : Instr} (h : K387[j]? = some (pc, i, len)) : decode (mB 387) pc = .ok (i, len) := by
  unfold mB
  rw [mX_387]
  exact chk_at kc387 j h
def K388 : List (Nat × Instr × Nat) := [(0, .aload_n 3, 1), (1, .iconst 0, 1), (2, .aload_n 0, 1), (3, .iload_n 1, 1), (4, .iload_n 2, 1), (5, .invokevirtual 48, 3), (8, .i2l, 1), (9, .lastore, 1), (10, .goto 11, 3), (13, .astore 4, 2), (15, .iconst 1, 1), (16, .ireturn, 1), (17, .astore 4, 2), (19, .iconst 2, 1), (20, .ireturn, 1), (21, .iconst 0, 1), (22, .ireturn, 1)]
set_option maxRecDepth 100000 in
theorem kc388 : chk cL_setProtection K388 = true := by decide +kernel
theorem d388 {j pc len : Nat} {i : Instr} (h : K388[j]? = some (pc, i, len)) : decode (mB 388) pc = .ok (i, len) := by
  unfold mB
  rw [mX_388]
  exact chk_at kc388 j h
def K389 : List (Nat × Instr × Nat) := [(0, .aload 4, 2), (2, .iconst 0, 1), (3, .aload_n 0, 1), (4, .iload_n 1, 1), (5, .iload_n 2, 1), (6, .iload_n 3, 1), (7, .invokevirtual 51, 3), (10, .i2l, 1), (11, .lastore, 1), (12, .goto 11, 3), (15, .astore 5, 2), (17, .iconst 1, 1), (18, .ireturn, 1), (19, .astore 5, 2), (21, .iconst 2, 1), (22, .ireturn, 1), (23, .iconst 0, 1), (24, .ireturn, 1)]
set_option maxRecDepth 100000 in
theorem kc389 : chk cL_setLimit K389 = true := by decide +kernel
theorem d389 {j pc len : Nat} {i : Instr} (h : K389[j]? = some (pc, i, len)) : decode (mB 389) pc = .ok (i, len) := by
  unfold mB
  rw [mX_389]
  exact chk_at kc389 j h
def K390 : List (Nat × Instr × Nat) := [(0, .aload 5, 2), (2, .iconst 0, 1), (3, .aload_n 0, 1), (4, .iload_n 1, 1), (5, .iload_n 2, 1), (6, .iload_n 3, 1), (7, .iload 4, 2), (9, .invokevirtual 54, 3), (12, .i2l, 1), (13, .lastore, 1), (14, .goto 15, 3), (17, .astore 6, 2), (19, .iconst 1, 1), (20, .ireturn, 1), (21, .astore 6, 2), (23, .iconst 2, 1), (24, .ireturn, 1), (25, .astore 6, 2), (27, .iconst 3, 1), (28, .ireturn, 1), (29, .iconst 0, 1), (30, .ireturn, 1)]
set_option maxRecDepth 100000 in
theorem kc390 : chk cL_auction K390 = true := by decide +kernel
theorem d390 {j pc len : Nat} {i : Instr} (h : K390[j]? = some (pc, i, len)) : decode (mB 390) pc = .ok (i, len) := by
  unfold mB
  rw [mX_390]
  exact chk_at kc390 j h
def K391 : List (Nat × Instr × Nat) := [(0, .aload_n 2, 1), (1, .iconst 0, 1), (2, .aload_n 0, 1), (3, .iload_n 1, 1), (4, .invokevirtual 57, 3), (7, .i2l, 1), (8, .lastore, 1), (9, .goto 6, 3), (12, .astore_n 3, 1), (13, .iconst 1, 1), (14, .ireturn, 1), (15, .iconst 0, 1), (16, .ireturn, 1)]
set_option maxRecDepth 100000 in
theorem kc391 : chk cL_pass K391 = true := by decide +kernel
theorem d391 {j pc len : Nat} {i : Instr} (h : K391[j]? = some (pc, i, len)) : decode (mB 391) pc = .ok (i, len) := by
  unfold mB
  rw [mX_391]
  exact chk_at kc391 j h
def K392 : List (Nat × Instr × Nat) := [(0, .aload_n 1, 1), (1, .iconst 0, 1), (2, .aload_n 0, 1), (3, .invokevirtual 60, 3), (6, .i2l, 1), (7, .lastore, 1), (8, .goto 6, 3), (11, .astore_n 2, 1), (12, .iconst 1, 1), (13, .ireturn, 1), (14, .iconst 0, 1), (15, .ireturn, 1)]
set_option maxRecDepth 100000 in
theorem kc392 : chk cL_endDay K392 = true := by decide +kernel
theorem d392 {j pc len : Nat} {i : Instr} (h : K392[j]? = some (pc, i, len)) : decode (mB 392) pc = .ok (i, len) := by
  unfold mB
  rw [mX_392]
  exact chk_at kc392 j h
def K393 : List (Nat × Instr × Nat) := [(0, .aload_n 2, 1), (1, .iconst 0, 1), (2, .aload_n 0, 1), (3, .iload_n 1, 1), (4, .invokevirtual 64, 3), (7, .i2l, 1), (8, .lastore, 1), (9, .goto 9, 3), (12, .astore_n 3, 1), (13, .iconst 1, 1), (14, .ireturn, 1), (15, .astore_n 3, 1), (16, .iconst 2, 1), (17, .ireturn, 1), (18, .iconst 0, 1), (19, .ireturn, 1)]
set_option maxRecDepth 100000 in
theorem kc393 : chk cL_bust K393 = true := by decide +kernel
theorem d393 {j pc len : Nat} {i : Instr} (h : K393[j]? = some (pc, i, len)) : decode (mB 393) pc = .ok (i, len) := by
  unfold mB
  rw [mX_393]
  exact chk_at kc393 j h
def K394 : List (Nat × Instr × Nat) := [(0, .aload_n 3, 1), (1, .iconst 0, 1), (2, .aload_n 0, 1), (3, .iload_n 1, 1), (4, .iload_n 2, 1), (5, .invokevirtual 67, 3), (8, .i2l, 1), (9, .lastore, 1), (10, .goto 15, 3), (13, .astore 4, 2), (15, .iconst 1, 1), (16, .ireturn, 1), (17, .astore 4, 2), (19, .iconst 2, 1), (20, .ireturn, 1), (21, .astore 4, 2), (23, .iconst 3, 1), (24, .ireturn, 1), (25, .iconst 0, 1), (26, .ireturn, 1)]
set_option maxRecDepth 100000 in
theorem kc394 : chk cL_adjust K394 = true := by decide +kernel
theorem d394 {j pc len : Nat} {i : Instr} (h : K394[j]? = some (pc, i, len)) : decode (mB 394) pc = .ok (i, len) := by
  unfold mB
  rw [mX_394]
  exact chk_at kc394 j h
def K395 : List (Nat × Instr × Nat) := [(0, .aload 4, 2), (2, .iconst 0, 1), (3, .aload_n 0, 1), (4, .iload_n 1, 1), (5, .iload_n 2, 1), (6, .iload_n 3, 1), (7, .invokevirtual 70, 3), (10, .i2l, 1), (11, .lastore, 1), (12, .goto 11, 3), (15, .astore 5, 2), (17, .iconst 1, 1), (18, .ireturn, 1), (19, .astore 5, 2), (21, .iconst 2, 1), (22, .ireturn, 1), (23, .iconst 0, 1), (24, .ireturn, 1)]
set_option maxRecDepth 100000 in
theorem kc395 : chk cL_giveUp K395 = true := by decide +kernel
theorem d395 {j pc len : Nat} {i : Instr} (h : K395[j]? = some (pc, i, len)) : decode (mB 395) pc = .ok (i, len) := by
  unfold mB
  rw [mX_395]
  exact chk_at kc395 j h
def K396 : List (Nat × Instr × Nat) := [(0, .aload 5, 2), (2, .iconst 0, 1), (3, .aload_n 0, 1), (4, .iload_n 1, 1), (5, .iload_n 2, 1), (6, .iload_n 3, 1), (7, .iload 4, 2), (9, .invokevirtual 74, 3), (12, .i2l, 1), (13, .lastore, 1), (14, .goto 15, 3), (17, .astore 6, 2), (19, .iconst 1, 1), (20, .ireturn, 1), (21, .astore 6, 2), (23, .iconst 2, 1), (24, .ireturn, 1), (25, .astore 6, 2), (27, .iconst 3, 1), (28, .ireturn, 1), (29, .iconst 0, 1), (30, .ireturn, 1)]
set_option maxRecDepth 100000 in
theorem kc396 : chk cL_allot K396 = true := by decide +kernel
theorem d396 {j pc len : Nat} {i : Instr} (h : K396[j]? = some (pc, i, len)) : decode (mB 396) pc = .ok (i, len) := by
  unfold mB
  rw [mX_396]
  exact chk_at kc396 j h
def K397 : List (Nat × Instr × Nat) := [(0, .aload 4, 2), (2, .iconst 0, 1), (3, .aload_n 0, 1), (4, .iload_n 1, 1), (5, .iload_n 2, 1), (6, .iload_n 3, 1), (7, .invokevirtual 77, 3), (10, .i2l, 1), (11, .lastore, 1), (12, .goto 15, 3), (15, .astore 5, 2), (17, .iconst 1, 1), (18, .ireturn, 1), (19, .astore 5, 2), (21, .iconst 2, 1), (22, .ireturn, 1), (23, .astore 5, 2), (25, .iconst 3, 1), (26, .ireturn, 1), (27, .iconst 0, 1), (28, .ireturn, 1)]
set_option maxRecDepth 100000 in
theorem kc397 : chk cL_exercise K397 = true := by decide +kernel
theorem d397 {j pc len : Nat} {i : Instr} (h : K397[j]? = some (pc, i, len)) : decode (mB 397) pc = .ok (i, len) := by
  unfold mB
  rw [mX_397]
  exact chk_at kc397 j h
def K398 : List (Nat × Instr × Nat) := [(0, .aload 4, 2), (2, .iconst 0, 1), (3, .aload_n 0, 1), (4, .iload_n 1, 1), (5, .iload_n 2, 1), (6, .iload_n 3, 1), (7, .invokevirtual 80, 3), (10, .i2l, 1), (11, .lastore, 1), (12, .goto 15, 3), (15, .astore 5, 2), (17, .iconst 1, 1), (18, .ireturn, 1), (19, .astore 5, 2), (21, .iconst 2, 1), (22, .ireturn, 1), (23, .astore 5, 2), (25, .iconst 3, 1), (26, .ireturn, 1), (27, .iconst 0, 1), (28, .ireturn, 1)]
set_option maxRecDepth 100000 in
theorem kc398 : chk cL_convert K398 = true := by decide +kernel
theorem d398 {j pc len : Nat} {i : Instr} (h : K398[j]? = some (pc, i, len)) : decode (mB 398) pc = .ok (i, len) := by
  unfold mB
  rw [mX_398]
  exact chk_at kc398 j h
def K399 : List (Nat × Instr × Nat) := [(0, .aload 4, 2), (2, .iconst 0, 1), (3, .aload_n 0, 1), (4, .iload_n 1, 1), (5, .iload_n 2, 1), (6, .iload_n 3, 1), (7, .invokevirtual 83, 3), (10, .i2l, 1), (11, .lastore, 1), (12, .goto 11, 3), (15, .astore 5, 2), (17, .iconst 1, 1), (18, .ireturn, 1), (19, .astore 5, 2), (21, .iconst 2, 1), (22, .ireturn, 1), (23, .iconst 0, 1), (24, .ireturn, 1)]
set_option maxRecDepth 100000 in
theorem kc399 : chk cL_setMove K399 = true := by decide +kernel
theorem d399 {j pc len : Nat} {i : Instr} (h : K399[j]? = some (pc, i, len)) : decode (mB 399) pc = .ok (i, len) := by
  unfold mB
  rw [mX_399]
  exact chk_at kc399 j h
def K400 : List (Nat × Instr × Nat) := [(0, .aload_n 2, 1), (1, .iconst 0, 1), (2, .aload_n 0, 1), (3, .iload_n 1, 1), (4, .invokevirtual 86, 3), (7, .i2l, 1), (8, .lastore, 1), (9, .goto 6, 3), (12, .astore_n 3, 1), (13, .iconst 1, 1), (14, .ireturn, 1), (15, .iconst 0, 1), (16, .ireturn, 1)]
set_option maxRecDepth 100000 in
theorem kc400 : chk cL_setHaircut K400 = true := by decide +kernel
theorem d400 {j pc len : Nat} {i : Instr} (h : K400[j]? = some (pc, i, len)) : decode (mB 400) pc = .ok (i, len) := by
  unfold mB
  rw [mX_400]
  exact chk_at kc400 j h
def K401 : List (Nat × Instr × Nat) := [(0, .aload 4, 2), (2, .iconst 0, 1), (3, .aload_n 0, 1), (4, .iload_n 1, 1), (5, .iload_n 2, 1), (6, .iload_n 3, 1), (7, .invokevirtual 89, 3), (10, .i2l, 1), (11, .lastore, 1), (12, .goto 15, 3), (15, .astore 5, 2), (17, .iconst 1, 1), (18, .ireturn, 1), (19, .astore 5, 2), (21, .iconst 2, 1), (22, .ireturn, 1), (23, .astore 5, 2), (25, .iconst 3, 1), (26, .ireturn, 1), (27, .iconst 0, 1), (28, .ireturn, 1)]
set_option maxRecDepth 100000 in
theorem kc401 : chk cL_pay K401 = true := by decide +kernel
theorem d401 {j pc len : Nat} {i : Instr} (h : K401[j]? = some (pc, i, len)) : decode (mB 401) pc = .ok (i, len) := by
  unfold mB
  rw [mX_401]
  exact chk_at kc401 j h
def K402 : List (Nat × Instr × Nat) := [(0, .aload_n 3, 1), (1, .iconst 0, 1), (2, .aload_n 0, 1), (3, .iload_n 1, 1), (4, .iload_n 2, 1), (5, .invokevirtual 92, 3), (8, .i2l, 1), (9, .lastore, 1), (10, .goto 15, 3), (13, .astore 4, 2), (15, .iconst 1, 1), (16, .ireturn, 1), (17, .astore 4, 2), (19, .iconst 2, 1), (20, .ireturn, 1), (21, .astore 4, 2), (23, .iconst 3, 1), (24, .ireturn, 1), (25, .iconst 0, 1), (26, .ireturn, 1)]
set_option maxRecDepth 100000 in
theorem kc402 : chk cL_setFund K402 = true := by decide +kernel
theorem d402 {j pc len : Nat} {i : Instr} (h : K402[j]? = some (pc, i, len)) : decode (mB 402) pc = .ok (i, len) := by
  unfold mB
  rw [mX_402]
  exact chk_at kc402 j h
def K403 : List (Nat × Instr × Nat) := [(0, .aload_n 2, 1), (1, .iconst 0, 1), (2, .aload_n 0, 1), (3, .iload_n 1, 1), (4, .invokevirtual 95, 3), (7, .i2l, 1), (8, .lastore, 1), (9, .goto 9, 3), (12, .astore_n 3, 1), (13, .iconst 1, 1), (14, .ireturn, 1), (15, .astore_n 3, 1), (16, .iconst 2, 1), (17, .ireturn, 1), (18, .iconst 0, 1), (19, .ireturn, 1)]
set_option maxRecDepth 100000 in
theorem kc403 : chk cL_fail K403 = true := by decide +kernel
theorem d403 {j pc len : Nat} {i : Instr} (h : K403[j]? = some (pc, i, len)) : decode (mB 403) pc = .ok (i, len) := by
  unfold mB
  rw [mX_403]
  exact chk_at kc403 j h
def K404 : List (Nat × Instr × Nat) := [(0, .aload_n 3, 1), (1, .iconst 0, 1), (2, .aload_n 0, 1), (3, .iload_n 1, 1), (4, .iload_n 2, 1), (5, .invokevirtual 98, 3), (8, .i2l, 1), (9, .lastore, 1), (10, .goto 15, 3), (13, .astore 4, 2), (15, .iconst 1, 1), (16, .ireturn, 1), (17, .astore 4, 2), (19, .iconst 2, 1), (20, .ireturn, 1), (21, .astore 4, 2), (23, .iconst 3, 1), (24, .ireturn, 1), (25, .iconst 0, 1), (26, .ireturn, 1)]
set_option maxRecDepth 100000 in
theorem kc404 : chk cL_bid K404 = true := by decide +kernel
theorem d404 {j pc len : Nat} {i : Instr} (h : K404[j]? = some (pc, i, len)) : decode (mB 404) pc = .ok (i, len) := by
  unfold mB
  rw [mX_404]
  exact chk_at kc404 j h
def K405 : List (Nat × Instr × Nat) := [(0, .aload_n 1, 1), (1, .iconst 0, 1), (2, .aload_n 0, 1), (3, .invokevirtual 101, 3), (6, .i2l, 1), (7, .lastore, 1), (8, .goto 6, 3), (11, .astore_n 2, 1), (12, .iconst 1, 1), (13, .ireturn, 1), (14, .iconst 0, 1), (15, .ireturn, 1)]
set_option maxRecDepth 100000 in
theorem kc405 : chk cL_closeOut K405 = true := by decide +kernel
theorem d405 {j pc len : Nat} {i : Instr} (h : K405[j]? = some (pc, i, len)) : decode (mB 405) pc = .ok (i, len) := by
  unfold mB
  rw [mX_405]
  exact chk_at kc405 j h
def K406 : List (Nat × Instr × Nat) := [(0, .aload_n 3, 1), (1, .iconst 0, 1), (2, .aload_n 0, 1), (3, .iload_n 1, 1), (4, .iload_n 2, 1), (5, .invokevirtual 104, 3), (8, .i2l, 1), (9, .lastore, 1), (10, .goto 7, 3), (13, .astore 4, 2), (15, .iconst 1, 1), (16, .ireturn, 1), (17, .iconst 0, 1), (18, .ireturn, 1)]
set_option maxRecDepth 100000 in
theorem kc406 : chk cL_positionByLog K406 = true := by decide +kernel
theorem d406 {j pc len : Nat} {i : Instr} (h : K406[j]? = some (pc, i, len)) : decode (mB 406) pc = .ok (i, len) := by
  unfold mB
  rw [mX_406]
  exact chk_at kc406 j h
def K407 : List (Nat × Instr × Nat) := [(0, .aload_n 3, 1), (1, .iconst 0, 1), (2, .aload_n 0, 1), (3, .iload_n 1, 1), (4, .iload_n 2, 1), (5, .invokevirtual 107, 3), (8, .i2l, 1), (9, .lastore, 1), (10, .goto 7, 3), (13, .astore 4, 2), (15, .iconst 1, 1), (16, .ireturn, 1), (17, .iconst 0, 1), (18, .ireturn, 1)]
set_option maxRecDepth 100000 in
theorem kc407 : chk cL_bestByLog K407 = true := by decide +kernel
theorem d407 {j pc len : Nat} {i : Instr} (h : K407[j]? = some (pc, i, len)) : decode (mB 407) pc = .ok (i, len) := by
  unfold mB
  rw [mX_407]
  exact chk_at kc407 j h
def K408 : List (Nat × Instr × Nat) := [(0, .aload_n 3, 1), (1, .iconst 0, 1), (2, .aload_n 0, 1), (3, .iload_n 1, 1), (4, .iload_n 2, 1), (5, .invokevirtual 111, 3), (8, .i2l, 1), (9, .lastore, 1), (10, .goto 7, 3), (13, .astore 4, 2), (15, .iconst 1, 1), (16, .ireturn, 1), (17, .iconst 0, 1), (18, .ireturn, 1)]
set_option maxRecDepth 100000 in
theorem kc408 : chk cL_best K408 = true := by decide +kernel
theorem d408 {j pc len : Nat} {i : Instr} (h : K408[j]? = some (pc, i, len)) : decode (mB 408) pc = .ok (i, len) := by
  unfold mB
  rw [mX_408]
  exact chk_at kc408 j h
def K409 : List (Nat × Instr × Nat) := [(0, .aload 4, 2), (2, .iconst 0, 1), (3, .aload_n 0, 1), (4, .iload_n 1, 1), (5, .iload_n 2, 1), (6, .iload_n 3, 1), (7, .invokevirtual 114, 3), (10, .i2l, 1), (11, .lastore, 1), (12, .goto 7, 3), (15, .astore 5, 2), (17, .iconst 1, 1), (18, .ireturn, 1), (19, .iconst 0, 1), (20, .ireturn, 1)]
set_option maxRecDepth 100000 in
theorem kc409 : chk cL_shown K409 = true := by decide +kernel
theorem d409 {j pc len : Nat} {i : Instr} (h : K409[j]? = some (pc, i, len)) : decode (mB 409) pc = .ok (i, len) := by
  unfold mB
  rw [mX_409]
  exact chk_at kc409 j h
def K410 : List (Nat × Instr × Nat) := [(0, .aload_n 2, 1), (1, .iconst 0, 1), (2, .aload_n 0, 1), (3, .iload_n 1, 1), (4, .invokevirtual 117, 3), (7, .i2l, 1), (8, .lastore, 1), (9, .goto 6, 3), (12, .astore_n 3, 1), (13, .iconst 1, 1), (14, .ireturn, 1), (15, .iconst 0, 1), (16, .ireturn, 1)]
set_option maxRecDepth 100000 in
theorem kc410 : chk cL_rest K410 = true := by decide +kernel
theorem d410 {j pc len : Nat} {i : Instr} (h : K410[j]? = some (pc, i, len)) : decode (mB 410) pc = .ok (i, len) := by
  unfold mB
  rw [mX_410]
  exact chk_at kc410 j h
def K411 : List (Nat × Instr × Nat) := [(0, .aload_n 2, 1), (1, .iconst 0, 1), (2, .aload_n 0, 1), (3, .iload_n 1, 1), (4, .invokevirtual 120, 3), (7, .i2l, 1), (8, .lastore, 1), (9, .goto 6, 3), (12, .astore_n 3, 1), (13, .iconst 1, 1), (14, .ireturn, 1), (15, .iconst 0, 1), (16, .ireturn, 1)]
set_option maxRecDepth 100000 in
theorem kc411 : chk cL_priceOf K411 = true := by decide +kernel
theorem d411 {j pc len : Nat} {i : Instr} (h : K411[j]? = some (pc, i, len)) : decode (mB 411) pc = .ok (i, len) := by
  unfold mB
  rw [mX_411]
  exact chk_at kc411 j h
def K412 : List (Nat × Instr × Nat) := [(0, .aload_n 3, 1), (1, .iconst 0, 1), (2, .aload_n 0, 1), (3, .iload_n 1, 1), (4, .iload_n 2, 1), (5, .invokevirtual 123, 3), (8, .i2l, 1), (9, .lastore, 1), (10, .goto 7, 3), (13, .astore 4, 2), (15, .iconst 1, 1), (16, .ireturn, 1), (17, .iconst 0, 1), (18, .ireturn, 1)]
set_option maxRecDepth 100000 in
theorem kc412 : chk cL_last K412 = true := by decide +kernel
theorem d412 {j pc len : Nat} {i : Instr} (h : K412[j]? = some (pc, i, len)) : decode (mB 412) pc = .ok (i, len) := by
  unfold mB
  rw [mX_412]
  exact chk_at kc412 j h
def K413 : List (Nat × Instr × Nat) := [(0, .aload_n 2, 1), (1, .iconst 0, 1), (2, .aload_n 0, 1), (3, .iload_n 1, 1), (4, .invokevirtual 126, 3), (7, .i2l, 1), (8, .lastore, 1), (9, .goto 6, 3), (12, .astore_n 3, 1), (13, .iconst 1, 1), (14, .ireturn, 1), (15, .iconst 0, 1), (16, .ireturn, 1)]
set_option maxRecDepth 100000 in
theorem kc413 : chk cL_endOf K413 = true := by decide +kernel
theorem d413 {j pc len : Nat} {i : Instr} (h : K413[j]? = some (pc, i, len)) : decode (mB 413) pc = .ok (i, len) := by
  unfold mB
  rw [mX_413]
  exact chk_at kc413 j h
def K414 : List (Nat × Instr × Nat) := [(0, .aload_n 3, 1), (1, .iconst 0, 1), (2, .aload_n 0, 1), (3, .iload_n 1, 1), (4, .iload_n 2, 1), (5, .invokevirtual 129, 3), (8, .i2l, 1), (9, .lastore, 1), (10, .goto 7, 3), (13, .astore 4, 2), (15, .iconst 1, 1), (16, .ireturn, 1), (17, .iconst 0, 1), (18, .ireturn, 1)]
set_option maxRecDepth 100000 in
theorem kc414 : chk cL_indicated K414 = true := by decide +kernel
theorem d414 {j pc len : Nat} {i : Instr} (h : K414[j]? = some (pc, i, len)) : decode (mB 414) pc = .ok (i, len) := by
  unfold mB
  rw [mX_414]
  exact chk_at kc414 j h
def K415 : List (Nat × Instr × Nat) := [(0, .aload_n 3, 1), (1, .iconst 0, 1), (2, .aload_n 0, 1), (3, .iload_n 1, 1), (4, .iload_n 2, 1), (5, .invokevirtual 132, 3), (8, .i2l, 1), (9, .lastore, 1), (10, .goto 11, 3), (13, .astore 4, 2), (15, .iconst 1, 1), (16, .ireturn, 1), (17, .astore 4, 2), (19, .iconst 2, 1), (20, .ireturn, 1), (21, .iconst 0, 1), (22, .ireturn, 1)]
set_option maxRecDepth 100000 in
theorem kc415 : chk cL_trade K415 = true := by decide +kernel
theorem d415 {j pc len : Nat} {i : Instr} (h : K415[j]? = some (pc, i, len)) : decode (mB 415) pc = .ok (i, len) := by
  unfold mB
  rw [mX_415]
  exact chk_at kc415 j h
def K416 : List (Nat × Instr × Nat) := [(0, .aload_n 3, 1), (1, .iconst 0, 1), (2, .aload_n 0, 1), (3, .iload_n 1, 1), (4, .iload_n 2, 1), (5, .invokevirtual 135, 3), (8, .i2l, 1), (9, .lastore, 1), (10, .goto 7, 3), (13, .astore 4, 2), (15, .iconst 1, 1), (16, .ireturn, 1), (17, .iconst 0, 1), (18, .ireturn, 1)]
set_option maxRecDepth 100000 in
theorem kc416 : chk cL_position K416 = true := by decide +kernel
theorem d416 {j pc len : Nat} {i : Instr} (h : K416[j]? = some (pc, i, len)) : decode (mB 416) pc = .ok (i, len) := by
  unfold mB
  rw [mX_416]
  exact chk_at kc416 j h
def K417 : List (Nat × Instr × Nat) := [(0, .aload_n 2, 1), (1, .iconst 0, 1), (2, .aload_n 0, 1), (3, .iload_n 1, 1), (4, .invokevirtual 138, 3), (7, .lastore, 1), (8, .goto 6, 3), (11, .astore_n 3, 1), (12, .iconst 1, 1), (13, .ireturn, 1), (14, .iconst 0, 1), (15, .ireturn, 1)]
set_option maxRecDepth 100000 in
theorem kc417 : chk cL_cash K417 = true := by decide +kernel
theorem d417 {j pc len : Nat} {i : Instr} (h : K417[j]? = some (pc, i, len)) : decode (mB 417) pc = .ok (i, len) := by
  unfold mB
  rw [mX_417]
  exact chk_at kc417 j h
def K418 : List (Nat × Instr × Nat) := [(0, .aload_n 2, 1), (1, .iconst 0, 1), (2, .aload_n 0, 1), (3, .iload_n 1, 1), (4, .invokevirtual 142, 3), (7, .i2l, 1), (8, .lastore, 1), (9, .goto 6, 3), (12, .astore_n 3, 1), (13, .iconst 1, 1), (14, .ireturn, 1), (15, .iconst 0, 1), (16, .ireturn, 1)]
set_option maxRecDepth 100000 in
theorem kc418 : chk cL_quoted K418 = true := by decide +kernel
theorem d418 {j pc len : Nat} {i : Instr} (h : K418[j]? = some (pc, i, len)) : decode (mB 418) pc = .ok (i, len) := by
  unfold mB
  rw [mX_418]
  exact chk_at kc418 j h
def K419 : List (Nat × Instr × Nat) := [(0, .aload_n 3, 1), (1, .iconst 0, 1), (2, .aload_n 0, 1), (3, .iload_n 1, 1), (4, .iload_n 2, 1), (5, .invokevirtual 145, 3), (8, .lastore, 1), (9, .goto 11, 3), (12, .astore 4, 2), (14, .iconst 1, 1), (15, .ireturn, 1), (16, .astore 4, 2), (18, .iconst 2, 1), (19, .ireturn, 1), (20, .iconst 0, 1), (21, .ireturn, 1)]
set_option maxRecDepth 100000 in
theorem kc419 : chk cL_member K419 = true := by decide +kernel
theorem d419 {j pc len : Nat} {i : Instr} (h : K419[j]? = some (pc, i, len)) : decode (mB 419) pc = .ok (i, len) := by
  unfold mB
  rw [mX_419]
  exact chk_at kc419 j h
