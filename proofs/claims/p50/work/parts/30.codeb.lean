/-! the code of the methods, as tables -/
def K74 : List (Nat × Instr × Nat) := [(0, .aload_n 0, 1), (1, .getfield 11, 3), (4, .astore_n 2, 1), (5, .aload_n 2, 1), (6, .arraylength, 1), (7, .istore_n 3, 1), (8, .iconst 0, 1), (9, .istore 4, 2), (11, .iload 4, 2), (13, .iload_n 3, 1), (14, .if_icmp .ge 35, 3), (17, .aload_n 2, 1), (18, .iload 4, 2), (20, .aaload, 1), (21, .astore 5, 2), (23, .aload 5, 2), (25, .getfield 29, 3), (28, .ifCond .eq 15, 3), (31, .aload 5, 2), (33, .getfield 45, 3), (36, .iload_n 1, 1), (37, .if_icmp .ne 6, 3), (40, .aload 5, 2), (42, .areturn, 1), (43, .iinc 4 1, 3), (46, .goto (-35), 3), (49, .aconst_null, 1), (50, .areturn, 1)]
set_option maxRecDepth 100000 in
theorem kc74 : chk cX6_find K74 = true := by decide +kernel
theorem d74 {j pc len : Nat} {i : Instr} (h : K74[j]? = some (pc, i, len)) : decode (mB 74) pc = .ok (i, len) := by
  unfold mB
  rw [mX_74]
  exact chk_at kc74 j h
def K75 : List (Nat × Instr × Nat) := [(0, .iconst 0, 1), (1, .istore_n 1, 1), (2, .aload_n 0, 1), (3, .getfield 11, 3), (6, .astore_n 2, 1), (7, .aload_n 2, 1), (8, .arraylength, 1), (9, .istore_n 3, 1), (10, .iconst 0, 1), (11, .istore 4, 2), (13, .iload 4, 2), (15, .iload_n 3, 1), (16, .if_icmp .ge 26, 3), (19, .aload_n 2, 1), (20, .iload 4, 2), (22, .aaload, 1), (23, .astore 5, 2), (25, .aload 5, 2), (27, .getfield 29, 3), (30, .ifCond .eq 6, 3), (33, .iinc 1 1, 3), (36, .iinc 4 1, 3), (39, .goto (-26), 3), (42, .iload_n 1, 1), (43, .ireturn, 1)]
set_option maxRecDepth 100000 in
theorem kc75 : chk cX6_countLive K75 = true := by decide +kernel
theorem d75 {j pc len : Nat} {i : Instr} (h : K75[j]? = some (pc, i, len)) : decode (mB 75) pc = .ok (i, len) := by
  unfold mB
  rw [mX_75]
  exact chk_at kc75 j h
def K76 : List (Nat × Instr × Nat) := [(0, .aload_n 0, 1), (1, .dup, 1), (2, .getfield 39, 3), (5, .iconst 1, 1), (6, .iadd, 1), (7, .putfield 39, 3), (10, .aload_n 0, 1), (11, .getfield 11, 3), (14, .astore 6, 2), (16, .aload 6, 2), (18, .arraylength, 1), (19, .istore 7, 2), (21, .iconst 0, 1), (22, .istore 8, 2), (24, .iload 8, 2), (26, .iload 7, 2), (28, .if_icmp .ge 45, 3), (31, .aload 6, 2), (33, .iload 8, 2), (35, .aaload, 1), (36, .astore 9, 2), (38, .aload 9, 2), (40, .getfield 29, 3), (43, .ifCond .ne 24, 3), (46, .aload 9, 2), (48, .aload_n 0, 1), (49, .getfield 39, 3), (52, .iconst 1, 1), (53, .isub, 1), (54, .aload_n 1, 1), (55, .aload_n 2, 1), (56, .iload_n 3, 1), (57, .iload 4, 2), (59, .iload 5, 2), (61, .invokevirtual 48, 3), (64, .aload 9, 2), (66, .areturn, 1), (67, .iinc 8 1, 3), (70, .goto (-46), 3), (73, .aconst_null, 1), (74, .areturn, 1)]
set_option maxRecDepth 100000 in
theorem kc76 : chk cX6_draw K76 = true := by decide +kernel
theorem d76 {j pc len : Nat} {i : Instr} (h : K76[j]? = some (pc, i, len)) : decode (mB 76) pc = .ok (i, len) := by
  unfold mB
  rw [mX_76]
  exact chk_at kc76 j h
def K77 : List (Nat × Instr × Nat) := [(0, .aload_n 1, 1), (1, .iconst 1, 1), (2, .putfield 29, 3), (5, .aload_n 1, 1), (6, .aload_n 1, 1), (7, .getfield 52, 3), (10, .putfield 55, 3), (13, .aload_n 1, 1), (14, .aload_n 1, 1), (15, .invokevirtual 58, 3), (18, .putfield 62, 3), (21, .aload_n 1, 1), (22, .aload_n 0, 1), (23, .invokevirtual 65, 3), (26, .putfield 68, 3), (29, .return_, 1)]
set_option maxRecDepth 100000 in
theorem kc77 : chk cX6_stand K77 = true := by decide +kernel
theorem d77 {j pc len : Nat} {i : Instr} (h : K77[j]? = some (pc, i, len)) : decode (mB 77) pc = .ok (i, len) := by
  unfold mB
  rw [mX_77]
  exact chk_at kc77 j h
def K78 : List (Nat × Instr × Nat) := [(0, .aload_n 0, 1), (1, .dup, 1), (2, .getfield 42, 3), (5, .iconst 1, 1), (6, .iadd, 1), (7, .putfield 42, 3), (10, .aload_n 0, 1), (11, .getfield 42, 3), (14, .ireturn, 1)]
set_option maxRecDepth 100000 in
theorem kc78 : chk cX6_nextTurn K78 = true := by decide +kernel
theorem d78 {j pc len : Nat} {i : Instr} (h : K78[j]? = some (pc, i, len)) : decode (mB 78) pc = .ok (i, len) := by
  unfold mB
  rw [mX_78]
  exact chk_at kc78 j h
def K79 : List (Nat × Instr × Nat) := [(0, .aload_n 1, 1), (1, .getfield 29, 3), (4, .iconst 1, 1), (5, .if_icmp .ne 26, 3), (8, .aload_n 1, 1), (9, .getfield 62, 3), (12, .ifCond .gt 19, 3), (15, .aload_n 1, 1), (16, .aload_n 1, 1), (17, .invokevirtual 58, 3), (20, .putfield 62, 3), (23, .aload_n 1, 1), (24, .aload_n 0, 1), (25, .invokevirtual 65, 3), (28, .putfield 68, 3), (31, .return_, 1)]
set_option maxRecDepth 100000 in
theorem kc79 : chk cX6_showAnew K79 = true := by decide +kernel
theorem d79 {j pc len : Nat} {i : Instr} (h : K79[j]? = some (pc, i, len)) : decode (mB 79) pc = .ok (i, len) := by
  unfold mB
  rw [mX_79]
  exact chk_at kc79 j h
def K80 : List (Nat × Instr × Nat) := [(0, .ldc 71, 2), (2, .istore 4, 2), (4, .aload_n 0, 1), (5, .getfield 11, 3), (8, .astore 5, 2), (10, .aload 5, 2), (12, .arraylength, 1), (13, .istore 6, 2), (15, .iconst 0, 1), (16, .istore 7, 2), (18, .iload 7, 2), (20, .iload 6, 2), (22, .if_icmp .ge 78, 3), (25, .aload 5, 2), (27, .iload 7, 2), (29, .aaload, 1), (30, .astore 8, 2), (32, .aload 8, 2), (34, .aload_n 1, 1), (35, .iload_n 2, 1), (36, .invokevirtual 72, 3), (39, .ifCond .eq 55, 3), (42, .aload 8, 2), (44, .getfield 55, 3), (47, .ldc 71, 2), (49, .if_icmp .eq 45, 3), (52, .iload_n 3, 1), (53, .ifCond .ne 12, 3), (56, .aload 8, 2), (58, .getfield 76, 3), (61, .iconst 1, 1), (62, .if_icmp .eq 32, 3), (65, .iload 4, 2), (67, .ldc 71, 2), (69, .if_icmp .eq 18, 3), (72, .aload 8, 2), (74, .aload 8, 2), (76, .getfield 55, 3), (79, .iload 4, 2), (81, .invokevirtual 79, 3), (84, .ifCond .eq 10, 3), (87, .aload 8, 2), (89, .getfield 55, 3), (92, .istore 4, 2), (94, .iinc 7 1, 3), (97, .goto (-79), 3), (100, .iload 4, 2), (102, .ireturn, 1)]
set_option maxRecDepth 100000 in
theorem kc80 : chk cX6_bestPrice K80 = true := by decide +kernel
theorem d80 {j pc len : Nat} {i : Instr} (h : K80[j]? = some (pc, i, len)) : decode (mB 80) pc = .ok (i, len) := by
  unfold mB
  rw [mX_80]
  exact chk_at kc80 j h
def K81 : List (Nat × Instr × Nat) := [(0, .aload_n 0, 1), (1, .aload_n 1, 1), (2, .iload_n 2, 1), (3, .iconst 0, 1), (4, .invokevirtual 83, 3), (7, .istore_n 3, 1), (8, .aconst_null, 1), (9, .astore 4, 2), (11, .aload_n 0, 1), (12, .getfield 11, 3), (15, .astore 5, 2), (17, .aload 5, 2), (19, .arraylength, 1), (20, .istore 6, 2), (22, .iconst 0, 1), (23, .istore 7, 2), (25, .iload 7, 2), (27, .iload 6, 2), (29, .if_icmp .ge 72, 3), (32, .aload 5, 2), (34, .iload 7, 2), (36, .aaload, 1), (37, .astore 8, 2), (39, .aload 8, 2), (41, .aload_n 1, 1), (42, .iload_n 2, 1), (43, .invokevirtual 72, 3), (46, .ifCond .eq 49, 3), (49, .aload 8, 2), (51, .getfield 55, 3), (54, .iload_n 3, 1), (55, .if_icmp .ne 40, 3), (58, .iload_n 3, 1), (59, .ldc 71, 2), (61, .if_icmp .eq 34, 3), (64, .aload 8, 2), (66, .getfield 76, 3), (69, .iconst 1, 1), (70, .if_icmp .eq 25, 3), (73, .aload 4, 2), (75, .ifnull 16, 3), (78, .aload 8, 2), (80, .getfield 68, 3), (83, .aload 4, 2), (85, .getfield 68, 3), (88, .if_icmp .ge 7, 3), (91, .aload 8, 2), (93, .astore 4, 2), (95, .iinc 7 1, 3), (98, .goto (-73), 3), (101, .aload 4, 2), (103, .areturn, 1)]
set_option maxRecDepth 100000 in
theorem kc81 : chk cX6_firstOf K81 = true := by decide +kernel
theorem d81 {j pc len : Nat} {i : Instr} (h : K81[j]? = some (pc, i, len)) : decode (mB 81) pc = .ok (i, len) := by
  unfold mB
  rw [mX_81]
  exact chk_at kc81 j h
def K82 : List (Nat × Instr × Nat) := [(0, .iconst 0, 1), (1, .istore 4, 2), (3, .aload_n 0, 1), (4, .getfield 11, 3), (7, .astore 5, 2), (9, .aload 5, 2), (11, .arraylength, 1), (12, .istore 6, 2), (14, .iconst 0, 1), (15, .istore 7, 2), (17, .iload 7, 2), (19, .iload 6, 2), (21, .if_icmp .ge 51, 3), (24, .aload 5, 2), (26, .iload 7, 2), (28, .aaload, 1), (29, .astore 8, 2), (31, .aload 8, 2), (33, .aload_n 1, 1), (34, .iload_n 2, 1), (35, .invokevirtual 72, 3), (38, .ifCond .eq 28, 3), (41, .aload 8, 2), (43, .getfield 55, 3), (46, .iload_n 3, 1), (47, .if_icmp .ne 19, 3), (50, .iload_n 3, 1), (51, .ldc 71, 2), (53, .if_icmp .eq 13, 3), (56, .iload 4, 2), (58, .aload 8, 2), (60, .getfield 62, 3), (63, .iadd, 1), (64, .istore 4, 2), (66, .iinc 7 1, 3), (69, .goto (-52), 3), (72, .iload 4, 2), (74, .ireturn, 1)]
set_option maxRecDepth 100000 in
theorem kc82 : chk cX6_sumShown K82 = true := by decide +kernel
theorem d82 {j pc len : Nat} {i : Instr} (h : K82[j]? = some (pc, i, len)) : decode (mB 82) pc = .ok (i, len) := by
  unfold mB
  rw [mX_82]
  exact chk_at kc82 j h
def K83 : List (Nat × Instr × Nat) := [(0, .iload_n 3, 1), (1, .ifCond .le 7, 3), (4, .iconst 1, 1), (5, .goto 4, 3), (8, .iconst 0, 1), (9, .istore 4, 2), (11, .iload_n 3, 1), (12, .invokestatic 87, 3), (15, .istore 5, 2), (17, .aload_n 0, 1), (18, .aload_n 1, 1), (19, .aload_n 2, 1), (20, .getfield 93, 3), (23, .iload 4, 2), (25, .invokevirtual 96, 3), (28, .iload 5, 2), (30, .i2l, 1), (31, .ladd, 1), (32, .aload_n 1, 1), (33, .aload_n 2, 1), (34, .getfield 93, 3), (37, .invokevirtual 100, 3), (40, .i2l, 1), (41, .lcmp, 1), (42, .ifCond .le 5, 3), (45, .iconst 1, 1), (46, .ireturn, 1), (47, .aload_n 2, 1), (48, .invokevirtual 105, 3), (51, .ifCond .eq 43, 3), (54, .aload_n 0, 1), (55, .aload_n 1, 1), (56, .aload_n 2, 1), (57, .getfield 109, 3), (60, .iload 4, 2), (62, .ifCond .ne 7, 3), (65, .iconst 1, 1), (66, .goto 4, 3), (69, .iconst 0, 1), (70, .invokevirtual 96, 3), (73, .iload 5, 2), (75, .i2l, 1), (76, .ladd, 1), (77, .aload_n 1, 1), (78, .aload_n 2, 1), (79, .getfield 109, 3), (82, .invokevirtual 100, 3), (85, .i2l, 1), (86, .lcmp, 1), (87, .ifCond .le 7, 3), (90, .iconst 1, 1), (91, .goto 4, 3), (94, .iconst 0, 1), (95, .ireturn, 1)]
set_option maxRecDepth 100000 in
theorem kc83 : chk cX6_refuses K83 = true := by decide +kernel
theorem d83 {j pc len : Nat} {i : Instr} (h : K83[j]? = some (pc, i, len)) : decode (mB 83) pc = .ok (i, len) := by
  unfold mB
  rw [mX_83]
  exact chk_at kc83 j h
def K84 : List (Nat × Instr × Nat) := [(0, .iload_n 3, 1), (1, .ifCond .eq 12, 3), (4, .aload_n 1, 1), (5, .iload_n 2, 1), (6, .invokevirtual 112, 3), (9, .i2l, 1), (10, .goto 10, 3), (13, .aload_n 1, 1), (14, .iload_n 2, 1), (15, .invokevirtual 112, 3), (18, .ineg, 1), (19, .i2l, 1), (20, .lstore 4, 2), (22, .aload_n 0, 1), (23, .getfield 11, 3), (26, .astore 6, 2), (28, .aload 6, 2), (30, .arraylength, 1), (31, .istore 7, 2), (33, .iconst 0, 1), (34, .istore 8, 2), (36, .iload 8, 2), (38, .iload 7, 2), (40, .if_icmp .ge 54, 3), (43, .aload 6, 2), (45, .iload 8, 2), (47, .aaload, 1), (48, .astore 9, 2), (50, .aload 9, 2), (52, .getfield 29, 3), (55, .ifCond .eq 33, 3), (58, .aload 9, 2), (60, .getfield 115, 3), (63, .aload_n 1, 1), (64, .if_acmp .ne 24, 3), (67, .aload 9, 2), (69, .iload_n 2, 1), (70, .iload_n 3, 1), (71, .invokevirtual 119, 3), (74, .ifCond .eq 14, 3), (77, .lload 4, 2), (79, .aload 9, 2), (81, .getfield 123, 3), (84, .i2l, 1), (85, .ladd, 1), (86, .lstore 4, 2), (88, .iinc 8 1, 3), (91, .goto (-55), 3), (94, .lload 4, 2), (96, .lreturn, 1)]
set_option maxRecDepth 100000 in
theorem kc84 : chk cX6_reach K84 = true := by decide +kernel
theorem d84 {j pc len : Nat} {i : Instr} (h : K84[j]? = some (pc, i, len)) : decode (mB 84) pc = .ok (i, len) := by
  unfold mB
  rw [mX_84]
  exact chk_at kc84 j h
def K85 : List (Nat × Instr × Nat) := [(0, .aload_n 0, 1), (1, .iload_n 1, 1), (2, .invokevirtual 126, 3), (5, .astore_n 2, 1), (6, .aload_n 2, 1), (7, .ifnonnull 5, 3), (10, .iconst 0, 1), (11, .ireturn, 1), (12, .aload_n 2, 1), (13, .iconst 0, 1), (14, .putfield 29, 3), (17, .aload_n 2, 1), (18, .getfield 123, 3), (21, .ireturn, 1)]
set_option maxRecDepth 100000 in
theorem kc85 : chk cX6_withdraw K85 = true := by decide +kernel
theorem d85 {j pc len : Nat} {i : Instr} (h : K85[j]? = some (pc, i, len)) : decode (mB 85) pc = .ok (i, len) := by
  unfold mB
  rw [mX_85]
  exact chk_at kc85 j h
def K86 : List (Nat × Instr × Nat) := [(0, .aload_n 0, 1), (1, .getfield 11, 3), (4, .astore_n 3, 1), (5, .aload_n 3, 1), (6, .arraylength, 1), (7, .istore 4, 2), (9, .iconst 0, 1), (10, .istore 5, 2), (12, .iload 5, 2), (14, .iload 4, 2), (16, .if_icmp .ge 48, 3), (19, .aload_n 3, 1), (20, .iload 5, 2), (22, .aaload, 1), (23, .astore 6, 2), (25, .aload 6, 2), (27, .getfield 76, 3), (30, .iconst 3, 1), (31, .if_icmp .ne 27, 3), (34, .aload 6, 2), (36, .getfield 115, 3), (39, .aload_n 1, 1), (40, .if_acmp .ne 18, 3), (43, .aload 6, 2), (45, .getfield 130, 3), (48, .aload_n 2, 1), (49, .if_acmp .ne 9, 3), (52, .aload 6, 2), (54, .iconst 0, 1), (55, .putfield 29, 3), (58, .iinc 5 1, 3), (61, .goto (-49), 3), (64, .return_, 1)]
set_option maxRecDepth 100000 in
theorem kc86 : chk cX6_withdrawQuote K86 = true := by decide +kernel
theorem d86 {j pc len : Nat} {i : Instr} (h : K86[j]? = some (pc, i, len)) : decode (mB 86) pc = .ok (i, len) := by
  unfold mB
  rw [mX_86]
  exact chk_at kc86 j h
def K87 : List (Nat × Instr × Nat) := [(0, .iconst 0, 1), (1, .istore_n 2, 1), (2, .aload_n 0, 1), (3, .getfield 11, 3), (6, .astore_n 3, 1), (7, .aload_n 3, 1), (8, .arraylength, 1), (9, .istore 4, 2), (11, .iconst 0, 1), (12, .istore 5, 2), (14, .iload 5, 2), (16, .iload 4, 2), (18, .if_icmp .ge 44, 3), (21, .aload_n 3, 1), (22, .iload 5, 2), (24, .aaload, 1), (25, .astore 6, 2), (27, .aload 6, 2), (29, .getfield 29, 3), (32, .ifCond .eq 24, 3), (35, .aload 6, 2), (37, .getfield 130, 3), (40, .iload_n 1, 1), (41, .invokevirtual 134, 3), (44, .ifCond .eq 12, 3), (47, .aload 6, 2), (49, .iconst 0, 1), (50, .putfield 29, 3), (53, .iinc 2 1, 3), (56, .iinc 5 1, 3), (59, .goto (-45), 3), (62, .iload_n 2, 1), (63, .ireturn, 1)]
set_option maxRecDepth 100000 in
theorem kc87 : chk cX6_withdrawContract K87 = true := by decide +kernel
theorem d87 {j pc len : Nat} {i : Instr} (h : K87[j]? = some (pc, i, len)) : decode (mB 87) pc = .ok (i, len) := by
  unfold mB
  rw [mX_87]
  exact chk_at kc87 j h
def K88 : List (Nat × Instr × Nat) := [(0, .iconst 0, 1), (1, .istore_n 2, 1), (2, .aload_n 0, 1), (3, .getfield 11, 3), (6, .astore_n 3, 1), (7, .aload_n 3, 1), (8, .arraylength, 1), (9, .istore 4, 2), (11, .iconst 0, 1), (12, .istore 5, 2), (14, .iload 5, 2), (16, .iload 4, 2), (18, .if_icmp .ge 44, 3), (21, .aload_n 3, 1), (22, .iload 5, 2), (24, .aaload, 1), (25, .astore 6, 2), (27, .aload 6, 2), (29, .getfield 29, 3), (32, .ifCond .eq 24, 3), (35, .aload 6, 2), (37, .getfield 115, 3), (40, .getfield 138, 3), (43, .iload_n 1, 1), (44, .if_icmp .ne 12, 3), (47, .aload 6, 2), (49, .iconst 0, 1), (50, .putfield 29, 3), (53, .iinc 2 1, 3), (56, .iinc 5 1, 3), (59, .goto (-45), 3), (62, .iload_n 2, 1), (63, .ireturn, 1)]
set_option maxRecDepth 100000 in
theorem kc88 : chk cX6_withdrawMember K88 = true := by decide +kernel
theorem d88 {j pc len : Nat} {i : Instr} (h : K88[j]? = some (pc, i, len)) : decode (mB 88) pc = .ok (i, len) := by
  unfold mB
  rw [mX_88]
  exact chk_at kc88 j h
def K89 : List (Nat × Instr × Nat) := [(0, .aload_n 1, 1), (1, .getfield 76, 3), (4, .iconst 3, 1), (5, .if_icmp .eq 4, 3), (8, .return_, 1), (9, .aload_n 1, 1), (10, .getfield 115, 3), (13, .astore_n 3, 1), (14, .aload_n 3, 1), (15, .dup, 1), (16, .getfield 141, 3), (19, .iload_n 2, 1), (20, .iadd, 1), (21, .putfield 141, 3), (24, .aload_n 3, 1), (25, .getfield 144, 3), (28, .ifCond .eq 14, 3), (31, .aload_n 3, 1), (32, .getfield 141, 3), (35, .aload_n 3, 1), (36, .getfield 144, 3), (39, .if_icmp .ge 4, 3), (42, .return_, 1), (43, .aload_n 3, 1), (44, .iconst 1, 1), (45, .putfield 147, 3), (48, .aload_n 0, 1), (49, .getfield 11, 3), (52, .astore 4, 2), (54, .aload 4, 2), (56, .arraylength, 1), (57, .istore 5, 2), (59, .iconst 0, 1), (60, .istore 6, 2), (62, .iload 6, 2), (64, .iload 5, 2), (66, .if_icmp .ge 40, 3), (69, .aload 4, 2), (71, .iload 6, 2), (73, .aaload, 1), (74, .astore 7, 2), (76, .aload 7, 2), (78, .getfield 76, 3), (81, .iconst 3, 1), (82, .if_icmp .ne 18, 3), (85, .aload 7, 2), (87, .getfield 115, 3), (90, .aload_n 3, 1), (91, .if_acmp .ne 9, 3), (94, .aload 7, 2), (96, .iconst 0, 1), (97, .putfield 29, 3), (100, .iinc 6 1, 3), (103, .goto (-41), 3), (106, .return_, 1)]
set_option maxRecDepth 100000 in
theorem kc89 : chk cX6_guard K89 = true := by decide +kernel
theorem d89 {j pc len : Nat} {i : Instr} (h : K89[j]? = some (pc, i, len)) : decode (mB 89) pc = .ok (i, len) := by
  unfold mB
  rw [mX_89]
  exact chk_at kc89 j h
def K90 : List (Nat × Instr × Nat) := [(0, .aload_n 0, 1), (1, .getfield 11, 3), (4, .astore_n 1, 1), (5, .aload_n 1, 1), (6, .arraylength, 1), (7, .istore_n 2, 1), (8, .iconst 0, 1), (9, .istore_n 3, 1), (10, .iload_n 3, 1), (11, .iload_n 2, 1), (12, .if_icmp .ge 74, 3), (15, .aload_n 1, 1), (16, .iload_n 3, 1), (17, .aaload, 1), (18, .astore 4, 2), (20, .aload 4, 2), (22, .getfield 76, 3), (25, .iconst 3, 1), (26, .if_icmp .ne 54, 3), (29, .aload 4, 2), (31, .getfield 29, 3), (34, .iconst 1, 1), (35, .if_icmp .ne 45, 3), (38, .aload 4, 2), (40, .getfield 151, 3), (43, .ifCond .eq 37, 3), (46, .aload 4, 2), (48, .getfield 130, 3), (51, .getfield 154, 3), (54, .ifCond .ne 26, 3), (57, .aload_n 0, 1), (58, .aload 4, 2), (60, .invokevirtual 157, 3), (63, .ifCond .eq 17, 3), (66, .aload 4, 2), (68, .getfield 115, 3), (71, .dup, 1), (72, .getfield 161, 3), (75, .iconst 1, 1), (76, .iadd, 1), (77, .putfield 161, 3), (80, .iinc 3 1, 3), (83, .goto (-73), 3), (86, .return_, 1)]
set_option maxRecDepth 100000 in
theorem kc90 : chk cX6_countQuotes K90 = true := by decide +kernel
theorem d90 {j pc len : Nat} {i : Instr} (h : K90[j]? = some (pc, i, len)) : decode (mB 90) pc = .ok (i, len) := by
  unfold mB
  rw [mX_90]
  exact chk_at kc90 j h
def K91 : List (Nat × Instr × Nat) := [(0, .aload_n 0, 1), (1, .getfield 11, 3), (4, .astore_n 2, 1), (5, .aload_n 2, 1), (6, .arraylength, 1), (7, .istore_n 3, 1), (8, .iconst 0, 1), (9, .istore 4, 2), (11, .iload 4, 2), (13, .iload_n 3, 1), (14, .if_icmp .ge 62, 3), (17, .aload_n 2, 1), (18, .iload 4, 2), (20, .aaload, 1), (21, .astore 5, 2), (23, .aload 5, 2), (25, .getfield 76, 3), (28, .iconst 3, 1), (29, .if_icmp .ne 41, 3), (32, .aload 5, 2), (34, .getfield 115, 3), (37, .aload_n 1, 1), (38, .getfield 115, 3), (41, .if_acmp .ne 29, 3), (44, .aload 5, 2), (46, .aload_n 1, 1), (47, .getfield 130, 3), (50, .aload_n 1, 1), (51, .getfield 151, 3), (54, .ifCond .ne 7, 3), (57, .iconst 1, 1), (58, .goto 4, 3), (61, .iconst 0, 1), (62, .invokevirtual 72, 3), (65, .ifCond .eq 5, 3), (68, .iconst 1, 1), (69, .ireturn, 1), (70, .iinc 4 1, 3), (73, .goto (-62), 3), (76, .iconst 0, 1), (77, .ireturn, 1)]
set_option maxRecDepth 100000 in
theorem kc91 : chk cX6_hasOtherSide K91 = true := by decide +kernel
theorem d91 {j pc len : Nat} {i : Instr} (h : K91[j]? = some (pc, i, len)) : decode (mB 91) pc = .ok (i, len) := by
  unfold mB
  rw [mX_91]
  exact chk_at kc91 j h
def K92 : List (Nat × Instr × Nat) := [(0, .aload_n 0, 1), (1, .getfield 17, 3), (4, .astore_n 1, 1), (5, .aload_n 1, 1), (6, .arraylength, 1), (7, .istore_n 2, 1), (8, .iconst 0, 1), (9, .istore_n 3, 1), (10, .iload_n 3, 1), (11, .iload_n 2, 1), (12, .if_icmp .ge 24, 3), (15, .aload_n 1, 1), (16, .iload_n 3, 1), (17, .aaload, 1), (18, .astore 4, 2), (20, .aload 4, 2), (22, .getfield 154, 3), (25, .ifCond .eq 5, 3), (28, .iconst 1, 1), (29, .ireturn, 1), (30, .iinc 3 1, 3), (33, .goto (-23), 3), (36, .iconst 0, 1), (37, .ireturn, 1)]
set_option maxRecDepth 100000 in
theorem kc92 : chk cX6_hasAuction K92 = true := by decide +kernel
theorem d92 {j pc len : Nat} {i : Instr} (h : K92[j]? = some (pc, i, len)) : decode (mB 92) pc = .ok (i, len) := by
  unfold mB
  rw [mX_92]
  exact chk_at kc92 j h
def K93 : List (Nat × Instr × Nat) := [(0, .aload_n 1, 1), (1, .iconst 1, 1), (2, .putfield 154, 3), (5, .aload_n 1, 1), (6, .iconst 0, 1), (7, .putfield 164, 3), (10, .aload_n 1, 1), (11, .aload_n 0, 1), (12, .getfield 33, 3), (15, .iload_n 2, 1), (16, .iadd, 1), (17, .putfield 167, 3), (20, .aload_n 1, 1), (21, .iload_n 3, 1), (22, .putfield 170, 3), (25, .aload_n 1, 1), (26, .getfield 167, 3), (29, .ireturn, 1)]
set_option maxRecDepth 100000 in
theorem kc93 : chk cX6_beginAuction K93 = true := by decide +kernel
theorem d93 {j pc len : Nat} {i : Instr} (h : K93[j]? = some (pc, i, len)) : decode (mB 93) pc = .ok (i, len) := by
  unfold mB
  rw [mX_93]
  exact chk_at kc93 j h
def K94 : List (Nat × Instr × Nat) := [(0, .aload_n 1, 1), (1, .iconst 0, 1), (2, .putfield 154, 3), (5, .aload_n 0, 1), (6, .getfield 11, 3), (9, .astore_n 2, 1), (10, .aload_n 2, 1), (11, .arraylength, 1), (12, .istore_n 3, 1), (13, .iconst 0, 1), (14, .istore 4, 2), (16, .iload 4, 2), (18, .iload_n 3, 1), (19, .if_icmp .ge 59, 3), (22, .aload_n 2, 1), (23, .iload 4, 2), (25, .aaload, 1), (26, .astore 5, 2), (28, .aload 5, 2), (30, .getfield 29, 3), (33, .iconst 1, 1), (34, .if_icmp .ne 38, 3), (37, .aload 5, 2), (39, .getfield 130, 3), (42, .aload_n 1, 1), (43, .if_acmp .ne 29, 3), (46, .aload 5, 2), (48, .getfield 52, 3), (51, .ldc 71, 2), (53, .if_icmp .ne 9, 3), (56, .aload 5, 2), (58, .iconst 0, 1), (59, .putfield 29, 3), (62, .aload 5, 2), (64, .aload 5, 2), (66, .invokevirtual 58, 3), (69, .putfield 62, 3), (72, .iinc 4 1, 3), (75, .goto (-59), 3), (78, .return_, 1)]
set_option maxRecDepth 100000 in
theorem kc94 : chk cX6_openBook K94 = true := by decide +kernel
theorem d94 {j pc len : Nat} {i : Instr} (h : K94[j]? = some (pc, i, len)) : decode (mB 94) pc = .ok (i, len) := by
  unfold mB
  rw [mX_94]
  exact chk_at kc94 j h
def K95 : List (Nat × Instr × Nat) := [(0, .iconst 0, 1), (1, .istore_n 1, 1), (2, .aload_n 0, 1), (3, .getfield 11, 3), (6, .astore_n 2, 1), (7, .aload_n 2, 1), (8, .arraylength, 1), (9, .istore_n 3, 1), (10, .iconst 0, 1), (11, .istore 4, 2), (13, .iload 4, 2), (15, .iload_n 3, 1), (16, .if_icmp .ge 44, 3), (19, .aload_n 2, 1), (20, .iload 4, 2), (22, .aaload, 1), (23, .astore 5, 2), (25, .aload 5, 2), (27, .getfield 29, 3), (30, .ifCond .eq 24, 3), (33, .aload 5, 2), (35, .getfield 173, 3), (38, .aload_n 0, 1), (39, .getfield 36, 3), (42, .if_icmp .gt 12, 3), (45, .aload 5, 2), (47, .iconst 0, 1), (48, .putfield 29, 3), (51, .iinc 1 1, 3), (54, .iinc 4 1, 3), (57, .goto (-44), 3), (60, .aload_n 0, 1), (61, .getfield 17, 3), (64, .astore_n 2, 1), (65, .aload_n 2, 1), (66, .arraylength, 1), (67, .istore_n 3, 1), (68, .iconst 0, 1), (69, .istore 4, 2), (71, .iload 4, 2), (73, .iload_n 3, 1), (74, .if_icmp .ge 25, 3), (77, .aload_n 2, 1), (78, .iload 4, 2), (80, .aaload, 1), (81, .astore 5, 2), (83, .aload 5, 2), (85, .aload 5, 2), (87, .getfield 176, 3), (90, .putfield 179, 3), (93, .iinc 4 1, 3), (96, .goto (-25), 3), (99, .aload_n 0, 1), (100, .dup, 1), (101, .getfield 36, 3), (104, .iconst 1, 1), (105, .iadd, 1), (106, .putfield 36, 3), (109, .iload_n 1, 1), (110, .ireturn, 1)]
set_option maxRecDepth 100000 in
theorem kc95 : chk cX6_turnDay K95 = true := by decide +kernel
theorem d95 {j pc len : Nat} {i : Instr} (h : K95[j]? = some (pc, i, len)) : decode (mB 95) pc = .ok (i, len) := by
  unfold mB
  rw [mX_95]
  exact chk_at kc95 j h
def K96 : List (Nat × Instr × Nat) := [(0, .aconst_null, 1), (1, .astore_n 1, 1), (2, .aload_n 0, 1), (3, .getfield 11, 3), (6, .astore_n 2, 1), (7, .aload_n 2, 1), (8, .arraylength, 1), (9, .istore_n 3, 1), (10, .iconst 0, 1), (11, .istore 4, 2), (13, .iload 4, 2), (15, .iload_n 3, 1), (16, .if_icmp .ge 42, 3), (19, .aload_n 2, 1), (20, .iload 4, 2), (22, .aaload, 1), (23, .astore 5, 2), (25, .aload 5, 2), (27, .invokevirtual 182, 3), (30, .ifCond .eq 22, 3), (33, .aload_n 1, 1), (34, .ifnull 15, 3), (37, .aload 5, 2), (39, .getfield 45, 3), (42, .aload_n 1, 1), (43, .getfield 45, 3), (46, .if_icmp .ge 6, 3), (49, .aload 5, 2), (51, .astore_n 1, 1), (52, .iinc 4 1, 3), (55, .goto (-42), 3), (58, .aload_n 1, 1), (59, .areturn, 1)]
set_option maxRecDepth 100000 in
theorem kc96 : chk cX6_dueStop K96 = true := by decide +kernel
theorem d96 {j pc len : Nat} {i : Instr} (h : K96[j]? = some (pc, i, len)) : decode (mB 96) pc = .ok (i, len) := by
  unfold mB
  rw [mX_96]
  exact chk_at kc96 j h
def K97 : List (Nat × Instr × Nat) := [(0, .aload_n 0, 1), (1, .getfield 11, 3), (4, .astore_n 3, 1), (5, .aload_n 3, 1), (6, .arraylength, 1), (7, .istore 4, 2), (9, .iconst 0, 1), (10, .istore 5, 2), (12, .iload 5, 2), (14, .iload 4, 2), (16, .if_icmp .ge 64, 3), (19, .aload_n 3, 1), (20, .iload 5, 2), (22, .aaload, 1), (23, .astore 6, 2), (25, .aload 6, 2), (27, .getfield 76, 3), (30, .iconst 2, 1), (31, .if_icmp .ne 43, 3), (34, .aload 6, 2), (36, .getfield 29, 3), (39, .iconst 1, 1), (40, .if_icmp .ne 34, 3), (43, .aload 6, 2), (45, .getfield 130, 3), (48, .aload_n 1, 1), (49, .if_acmp .ne 25, 3), (52, .aload 6, 2), (54, .getfield 185, 3), (57, .iload_n 2, 1), (58, .if_icmp .ne 16, 3), (61, .aload 6, 2), (63, .getfield 188, 3), (66, .ifCond .ne 8, 3), (69, .aload 6, 2), (71, .invokevirtual 191, 3), (74, .iinc 5 1, 3), (77, .goto (-65), 3), (80, .return_, 1)]
set_option maxRecDepth 100000 in
theorem kc97 : chk cX6_holdStops K97 = true := by decide +kernel
theorem d97 {j pc len : Nat} {i : Instr} (h : K97[j]? = some (pc, i, len)) : decode (mB 97) pc = .ok (i, len) := by
  unfold mB
  rw [mX_97]
  exact chk_at kc97 j h
def K98 : List (Nat × Instr × Nat) := [(0, .ldc 71, 2), (2, .istore_n 1, 1), (3, .iconst 0, 1), (4, .istore_n 2, 1), (5, .iload_n 2, 1), (6, .bipush 40, 2), (8, .if_icmp .ge 35, 3), (11, .aload_n 0, 1), (12, .iload_n 1, 1), (13, .invokevirtual 194, 3), (16, .astore_n 3, 1), (17, .aload_n 3, 1), (18, .ifnonnull 4, 3), (21, .return_, 1), (22, .aload_n 3, 1), (23, .getfield 45, 3), (26, .istore_n 1, 1), (27, .aload_n 0, 1), (28, .aload_n 3, 1), (29, .aload_n 0, 1), (30, .aload_n 3, 1), (31, .invokevirtual 197, 3), (34, .invokevirtual 201, 3), (37, .iinc 2 1, 3), (40, .goto (-35), 3), (43, .return_, 1)]
set_option maxRecDepth 100000 in
theorem kc98 : chk cX6_pricePegs K98 = true := by decide +kernel
theorem d98 {j pc len : Nat} {i : Instr} (h : K98[j]? = some (pc, i, len)) : decode (mB 98) pc = .ok (i, len) := by
  unfold mB
  rw [mX_98]
  exact chk_at kc98 j h
def K99 : List (Nat × Instr × Nat) := [(0, .aconst_null, 1), (1, .astore_n 2, 1), (2, .aload_n 0, 1), (3, .getfield 11, 3), (6, .astore_n 3, 1), (7, .aload_n 3, 1), (8, .arraylength, 1), (9, .istore 4, 2), (11, .iconst 0, 1), (12, .istore 5, 2), (14, .iload 5, 2), (16, .iload 4, 2), (18, .if_icmp .ge 60, 3), (21, .aload_n 3, 1), (22, .iload 5, 2), (24, .aaload, 1), (25, .astore 6, 2), (27, .aload 6, 2), (29, .getfield 29, 3), (32, .ifCond .eq 40, 3), (35, .aload 6, 2), (37, .getfield 76, 3), (40, .iconst 1, 1), (41, .if_icmp .ne 31, 3), (44, .aload 6, 2), (46, .getfield 45, 3), (49, .iload_n 1, 1), (50, .if_icmp .le 22, 3), (53, .aload_n 2, 1), (54, .ifnull 15, 3), (57, .aload 6, 2), (59, .getfield 45, 3), (62, .aload_n 2, 1), (63, .getfield 45, 3), (66, .if_icmp .ge 6, 3), (69, .aload 6, 2), (71, .astore_n 2, 1), (72, .iinc 5 1, 3), (75, .goto (-61), 3), (78, .aload_n 2, 1), (79, .areturn, 1)]
set_option maxRecDepth 100000 in
theorem kc99 : chk cX6_nextPeg K99 = true := by decide +kernel
theorem d99 {j pc len : Nat} {i : Instr} (h : K99[j]? = some (pc, i, len)) : decode (mB 99) pc = .ok (i, len) := by
  unfold mB
  rw [mX_99]
  exact chk_at kc99 j h
def K100 : List (Nat × Instr × Nat) := [(0, .aload_n 1, 1), (1, .getfield 130, 3), (4, .getfield 154, 3), (7, .ifCond .eq 8, 3), (10, .ldc 71, 2), (12, .goto 16, 3), (15, .aload_n 0, 1), (16, .aload_n 1, 1), (17, .getfield 130, 3), (20, .aload_n 1, 1), (21, .getfield 151, 3), (24, .iconst 0, 1), (25, .invokevirtual 83, 3), (28, .istore_n 2, 1), (29, .iload_n 2, 1), (30, .ldc 71, 2), (32, .if_icmp .ne 6, 3), (35, .ldc 71, 2), (37, .ireturn, 1), (38, .aload_n 1, 1), (39, .getfield 151, 3), (42, .ifCond .eq 19, 3), (45, .aload_n 1, 1), (46, .getfield 52, 3), (49, .iload_n 2, 1), (50, .aload_n 1, 1), (51, .getfield 205, 3), (54, .isub, 1), (55, .invokestatic 208, 3), (58, .goto 16, 3), (61, .aload_n 1, 1), (62, .getfield 52, 3), (65, .iload_n 2, 1), (66, .aload_n 1, 1), (67, .getfield 205, 3), (70, .iadd, 1), (71, .invokestatic 212, 3), (74, .istore_n 3, 1), (75, .aload_n 1, 1), (76, .getfield 130, 3), (79, .iload_n 3, 1), (80, .invokevirtual 215, 3), (83, .ifCond .eq 7, 3), (86, .iload_n 3, 1), (87, .goto 5, 3), (90, .ldc 71, 2), (92, .ireturn, 1)]
set_option maxRecDepth 100000 in
theorem kc100 : chk cX6_pegPrice K100 = true := by decide +kernel
theorem d100 {j pc len : Nat} {i : Instr} (h : K100[j]? = some (pc, i, len)) : decode (mB 100) pc = .ok (i, len) := by
  unfold mB
  rw [mX_100]
  exact chk_at kc100 j h
def K101 : List (Nat × Instr × Nat) := [(0, .iload_n 2, 1), (1, .ldc 71, 2), (3, .if_icmp .ne 10, 3), (6, .aload_n 1, 1), (7, .invokevirtual 191, 3), (10, .goto 45, 3), (13, .aload_n 1, 1), (14, .getfield 29, 3), (17, .iconst 2, 1), (18, .if_icmp .eq 11, 3), (21, .aload_n 1, 1), (22, .getfield 55, 3), (25, .iload_n 2, 1), (26, .if_icmp .eq 29, 3), (29, .aload_n 1, 1), (30, .iconst 1, 1), (31, .putfield 29, 3), (34, .aload_n 1, 1), (35, .iload_n 2, 1), (36, .putfield 55, 3), (39, .aload_n 1, 1), (40, .aload_n 1, 1), (41, .invokevirtual 58, 3), (44, .putfield 62, 3), (47, .aload_n 1, 1), (48, .aload_n 0, 1), (49, .invokevirtual 65, 3), (52, .putfield 68, 3), (55, .return_, 1)]
set_option maxRecDepth 100000 in
theorem kc101 : chk cX6_movePeg K101 = true := by decide +kernel
theorem d101 {j pc len : Nat} {i : Instr} (h : K101[j]? = some (pc, i, len)) : decode (mB 101) pc = .ok (i, len) := by
  unfold mB
  rw [mX_101]
  exact chk_at kc101 j h
def K102 : List (Nat × Instr × Nat) := [(0, .aload_n 0, 1), (1, .invokespecial 3, 3), (4, .aload_n 0, 1), (5, .bipush 9, 2), (7, .anewarray 9, 3), (10, .putfield 11, 3), (13, .aload_n 0, 1), (14, .bipush 60, 2), (16, .anewarray 17, 3), (19, .putfield 19, 3), (22, .iconst 0, 1), (23, .istore_n 2, 1), (24, .iload_n 2, 1), (25, .aload_n 0, 1), (26, .getfield 11, 3), (29, .arraylength, 1), (30, .if_icmp .ge 23, 3), (33, .aload_n 0, 1), (34, .getfield 11, 3), (37, .iload_n 2, 1), (38, .new 9, 3), (41, .dup, 1), (42, .iload_n 2, 1), (43, .invokespecial 23, 3), (46, .aastore, 1), (47, .iinc 2 1, 3), (50, .goto (-26), 3), (53, .iconst 0, 1), (54, .istore_n 2, 1), (55, .iload_n 2, 1), (56, .aload_n 0, 1), (57, .getfield 19, 3), (60, .arraylength, 1), (61, .if_icmp .ge 30, 3), (64, .aload_n 0, 1), (65, .getfield 19, 3), (68, .iload_n 2, 1), (69, .new 17, 3), (72, .dup, 1), (73, .aload_n 1, 1), (74, .aload_n 0, 1), (75, .getfield 11, 3), (78, .bipush 8, 2), (80, .aaload, 1), (81, .invokespecial 26, 3), (84, .aastore, 1), (85, .iinc 2 1, 3), (88, .goto (-33), 3), (91, .return_, 1)]
set_option maxRecDepth 100000 in
theorem kc102 : chk cX7_init K102 = true := by decide +kernel
theorem d102 {j pc len : Nat} {i : Instr} (h : K102[j]? = some (pc, i, len)) : decode (mB 102) pc = .ok (i, len) := by
  unfold mB
  rw [mX_102]
  exact chk_at kc102 j h
def K103 : List (Nat × Instr × Nat) := [(0, .aload_n 0, 1), (1, .getfield 11, 3), (4, .astore_n 1, 1), (5, .aload_n 1, 1), (6, .arraylength, 1), (7, .istore_n 2, 1), (8, .iconst 0, 1), (9, .istore_n 3, 1), (10, .iload_n 3, 1), (11, .iload_n 2, 1), (12, .if_icmp .ge 19, 3), (15, .aload_n 1, 1), (16, .iload_n 3, 1), (17, .aaload, 1), (18, .astore 4, 2), (20, .aload 4, 2), (22, .invokevirtual 29, 3), (25, .iinc 3 1, 3), (28, .goto (-18), 3), (31, .aload_n 0, 1), (32, .getfield 19, 3), (35, .astore_n 1, 1), (36, .aload_n 1, 1), (37, .arraylength, 1), (38, .istore_n 2, 1), (39, .iconst 0, 1), (40, .istore_n 3, 1), (41, .iload_n 3, 1), (42, .iload_n 2, 1), (43, .if_icmp .ge 20, 3), (46, .aload_n 1, 1), (47, .iload_n 3, 1), (48, .aaload, 1), (49, .astore 4, 2), (51, .aload 4, 2), (53, .iconst 0, 1), (54, .putfield 32, 3), (57, .iinc 3 1, 3), (60, .goto (-19), 3), (63, .aload_n 0, 1), (64, .iconst 0, 1), (65, .putfield 36, 3), (68, .return_, 1)]
set_option maxRecDepth 100000 in
theorem kc103 : chk cX7_restore K103 = true := by decide +kernel
theorem d103 {j pc len : Nat} {i : Instr} (h : K103[j]? = some (pc, i, len)) : decode (mB 103) pc = .ok (i, len) := by
  unfold mB
  rw [mX_103]
  exact chk_at kc103 j h
def K104 : List (Nat × Instr × Nat) := [(0, .aload_n 0, 1), (1, .getfield 11, 3), (4, .iload_n 1, 1), (5, .ifCond .lt 16, 3), (8, .iload_n 1, 1), (9, .aload_n 0, 1), (10, .getfield 11, 3), (13, .arraylength, 1), (14, .if_icmp .ge 7, 3), (17, .iload_n 1, 1), (18, .goto 5, 3), (21, .bipush 8, 2), (23, .aaload, 1), (24, .areturn, 1)]
set_option maxRecDepth 100000 in
theorem kc104 : chk cX7_accountAt K104 = true := by decide +kernel
theorem d104 {j pc len : Nat} {i : Instr} (h : K104[j]? = some (pc, i, len)) : decode (mB 104) pc = .ok (i, len) := by
  unfold mB
  rw [mX_104]
  exact chk_at kc104 j h
def K105 : List (Nat × Instr × Nat) := [(0, .aload_n 0, 1), (1, .getfield 36, 3), (4, .bipush 60, 2), (6, .irem, 1), (7, .istore 6, 2), (9, .iload 6, 2), (11, .ifCond .lt 13, 3), (14, .iload 6, 2), (16, .aload_n 0, 1), (17, .getfield 19, 3), (20, .arraylength, 1), (21, .if_icmp .lt 4, 3), (24, .return_, 1), (25, .aload_n 0, 1), (26, .getfield 19, 3), (29, .iload 6, 2), (31, .aaload, 1), (32, .aload_n 1, 1), (33, .aload_n 2, 1), (34, .aload_n 3, 1), (35, .iload 4, 2), (37, .iload 5, 2), (39, .invokevirtual 40, 3), (42, .aload_n 0, 1), (43, .dup, 1), (44, .getfield 36, 3), (47, .iconst 1, 1), (48, .iadd, 1), (49, .putfield 36, 3), (52, .aload_n 1, 1), (53, .iload 4, 2), (55, .putfield 44, 3), (58, .aload_n 2, 1), (59, .aload_n 1, 1), (60, .iload 5, 2), (62, .iload 4, 2), (64, .invokevirtual 49, 3), (67, .aload_n 3, 1), (68, .aload_n 1, 1), (69, .iload 5, 2), (71, .ineg, 1), (72, .iload 4, 2), (74, .invokevirtual 49, 3), (77, .return_, 1)]
set_option maxRecDepth 100000 in
theorem kc105 : chk cX7_record K105 = true := by decide +kernel
theorem d105 {j pc len : Nat} {i : Instr} (h : K105[j]? = some (pc, i, len)) : decode (mB 105) pc = .ok (i, len) := by
  unfold mB
  rw [mX_105]
  exact chk_at kc105 j h
def K106 : List (Nat × Instr × Nat) := [(0, .iload_n 1, 1), (1, .ifCond .lt 22, 3), (4, .iload_n 1, 1), (5, .aload_n 0, 1), (6, .getfield 36, 3), (9, .if_icmp .ge 14, 3), (12, .iload_n 1, 1), (13, .aload_n 0, 1), (14, .getfield 36, 3), (17, .bipush 60, 2), (19, .isub, 1), (20, .if_icmp .ge 5, 3), (23, .aconst_null, 1), (24, .areturn, 1), (25, .iload_n 1, 1), (26, .bipush 60, 2), (28, .irem, 1), (29, .istore_n 2, 1), (30, .iload_n 2, 1), (31, .ifCond .lt 12, 3), (34, .iload_n 2, 1), (35, .aload_n 0, 1), (36, .getfield 19, 3), (39, .arraylength, 1), (40, .if_icmp .lt 5, 3), (43, .aconst_null, 1), (44, .areturn, 1), (45, .aload_n 0, 1), (46, .getfield 19, 3), (49, .iload_n 2, 1), (50, .aaload, 1), (51, .astore_n 3, 1), (52, .aload_n 3, 1), (53, .getfield 32, 3), (56, .ifCond .eq 7, 3), (59, .aload_n 3, 1), (60, .goto 4, 3), (63, .aconst_null, 1), (64, .areturn, 1)]
set_option maxRecDepth 100000 in
theorem kc106 : chk cX7_find K106 = true := by decide +kernel
theorem d106 {j pc len : Nat} {i : Instr} (h : K106[j]? = some (pc, i, len)) : decode (mB 106) pc = .ok (i, len) := by
  unfold mB
  rw [mX_106]
  exact chk_at kc106 j h
def K107 : List (Nat × Instr × Nat) := [(0, .iconst 0, 1), (1, .aload_n 0, 1), (2, .getfield 36, 3), (5, .bipush 60, 2), (7, .isub, 1), (8, .invokestatic 53, 3), (11, .istore_n 2, 1), (12, .aload_n 0, 1), (13, .getfield 36, 3), (16, .iconst 1, 1), (17, .isub, 1), (18, .istore_n 3, 1), (19, .iload_n 3, 1), (20, .iload_n 2, 1), (21, .if_icmp .lt 40, 3), (24, .aload_n 0, 1), (25, .iload_n 3, 1), (26, .invokevirtual 59, 3), (29, .astore 4, 2), (31, .aload 4, 2), (33, .ifnull 22, 3), (36, .aload 4, 2), (38, .getfield 63, 3), (41, .aload_n 1, 1), (42, .if_acmp .ne 13, 3), (45, .aload 4, 2), (47, .getfield 67, 3), (50, .ifCond .ne 5, 3), (53, .iload_n 3, 1), (54, .ireturn, 1), (55, .iinc 3 (-1), 3), (58, .goto (-39), 3), (61, .ldc 70, 2), (63, .ireturn, 1)]
set_option maxRecDepth 100000 in
theorem kc107 : chk cX7_latestOf K107 = true := by decide +kernel
theorem d107 {j pc len : Nat} {i : Instr} (h : K107[j]? = some (pc, i, len)) : decode (mB 107) pc = .ok (i, len) := by
  unfold mB
  rw [mX_107]
  exact chk_at kc107 j h
def K108 : List (Nat × Instr × Nat) := [(0, .aload_n 0, 1), (1, .iload_n 1, 1), (2, .invokevirtual 59, 3), (5, .astore_n 2, 1), (6, .aload_n 2, 1), (7, .ifnonnull 5, 3), (10, .iconst 0, 1), (11, .ireturn, 1), (12, .aload_n 2, 1), (13, .getfield 63, 3), (16, .astore_n 3, 1), (17, .aload_n 0, 1), (18, .aload_n 3, 1), (19, .invokevirtual 71, 3), (22, .iload_n 1, 1), (23, .if_icmp .ne 7, 3), (26, .iconst 1, 1), (27, .goto 4, 3), (30, .iconst 0, 1), (31, .istore 4, 2), (33, .aload_n 2, 1), (34, .iconst 1, 1), (35, .putfield 67, 3), (38, .aload_n 2, 1), (39, .getfield 75, 3), (42, .aload_n 3, 1), (43, .aload_n 2, 1), (44, .getfield 79, 3), (47, .ineg, 1), (48, .aload_n 2, 1), (49, .getfield 82, 3), (52, .invokevirtual 49, 3), (55, .aload_n 2, 1), (56, .getfield 85, 3), (59, .aload_n 3, 1), (60, .aload_n 2, 1), (61, .getfield 79, 3), (64, .aload_n 2, 1), (65, .getfield 82, 3), (68, .invokevirtual 49, 3), (71, .iload 4, 2), (73, .ifCond .eq 35, 3), (76, .aload_n 0, 1), (77, .aload_n 0, 1), (78, .aload_n 3, 1), (79, .invokevirtual 71, 3), (82, .invokevirtual 59, 3), (85, .astore 5, 2), (87, .aload_n 3, 1), (88, .aload 5, 2), (90, .ifnonnull 10, 3), (93, .aload_n 3, 1), (94, .getfield 88, 3), (97, .goto 8, 3), (100, .aload 5, 2), (102, .getfield 82, 3), (105, .putfield 44, 3), (108, .aload_n 3, 1), (109, .getfield 44, 3), (112, .ireturn, 1)]
set_option maxRecDepth 100000 in
theorem kc108 : chk cX7_reverse K108 = true := by decide +kernel
theorem d108 {j pc len : Nat} {i : Instr} (h : K108[j]? = some (pc, i, len)) : decode (mB 108) pc = .ok (i, len) := by
  unfold mB
  rw [mX_108]
  exact chk_at kc108 j h
def K109 : List (Nat × Instr × Nat) := [(0, .aload_n 0, 1), (1, .iload_n 1, 1), (2, .invokevirtual 59, 3), (5, .astore_n 3, 1), (6, .aload_n 3, 1), (7, .ifnonnull 5, 3), (10, .iconst 0, 1), (11, .ireturn, 1), (12, .aload_n 3, 1), (13, .getfield 82, 3), (16, .istore 4, 2), (18, .aload_n 3, 1), (19, .getfield 79, 3), (22, .i2l, 1), (23, .iload_n 2, 1), (24, .iload 4, 2), (26, .isub, 1), (27, .i2l, 1), (28, .lmul, 1), (29, .lstore 5, 2), (31, .aload_n 3, 1), (32, .iload_n 2, 1), (33, .putfield 82, 3), (36, .aload_n 3, 1), (37, .getfield 75, 3), (40, .dup, 1), (41, .getfield 91, 3), (44, .lload 5, 2), (46, .lsub, 1), (47, .putfield 91, 3), (50, .aload_n 3, 1), (51, .getfield 85, 3), (54, .dup, 1), (55, .getfield 91, 3), (58, .lload 5, 2), (60, .ladd, 1), (61, .putfield 91, 3), (64, .aload_n 0, 1), (65, .aload_n 3, 1), (66, .getfield 63, 3), (69, .invokevirtual 71, 3), (72, .iload_n 1, 1), (73, .if_icmp .ne 11, 3), (76, .aload_n 3, 1), (77, .getfield 63, 3), (80, .iload_n 2, 1), (81, .putfield 44, 3), (84, .iload 4, 2), (86, .ireturn, 1)]
set_option maxRecDepth 100000 in
theorem kc109 : chk cX7_reprice K109 = true := by decide +kernel
theorem d109 {j pc len : Nat} {i : Instr} (h : K109[j]? = some (pc, i, len)) : decode (mB 109) pc = .ok (i, len) := by
  unfold mB
  rw [mX_109]
  exact chk_at kc109 j h
def K110 : List (Nat × Instr × Nat) := [(0, .aload_n 0, 1), (1, .iload_n 1, 1), (2, .invokevirtual 59, 3), (5, .astore 4, 2), (7, .aload 4, 2), (9, .ifnonnull 5, 3), (12, .iconst 0, 1), (13, .ireturn, 1), (14, .iload_n 2, 1), (15, .ifCond .eq 11, 3), (18, .aload 4, 2), (20, .getfield 75, 3), (23, .goto 8, 3), (26, .aload 4, 2), (28, .getfield 85, 3), (31, .astore 5, 2), (33, .aload_n 0, 1), (34, .iload_n 3, 1), (35, .invokevirtual 95, 3), (38, .astore 6, 2), (40, .iload_n 2, 1), (41, .ifCond .eq 11, 3), (44, .aload 4, 2), (46, .getfield 79, 3), (49, .goto 9, 3), (52, .aload 4, 2), (54, .getfield 79, 3), (57, .ineg, 1), (58, .istore 7, 2), (60, .aload 5, 2), (62, .aload 4, 2), (64, .getfield 63, 3), (67, .iload 7, 2), (69, .ineg, 1), (70, .aload 4, 2), (72, .getfield 82, 3), (75, .invokevirtual 49, 3), (78, .aload 6, 2), (80, .aload 4, 2), (82, .getfield 63, 3), (85, .iload 7, 2), (87, .aload 4, 2), (89, .getfield 82, 3), (92, .invokevirtual 49, 3), (95, .iload_n 2, 1), (96, .ifCond .eq 13, 3), (99, .aload 4, 2), (101, .aload 6, 2), (103, .putfield 75, 3), (106, .goto 10, 3), (109, .aload 4, 2), (111, .aload 6, 2), (113, .putfield 85, 3), (116, .aload 5, 2), (118, .getfield 99, 3), (121, .ireturn, 1)]
set_option maxRecDepth 100000 in
theorem kc110 : chk cX7_replaceSide K110 = true := by decide +kernel
theorem d110 {j pc len : Nat} {i : Instr} (h : K110[j]? = some (pc, i, len)) : decode (mB 110) pc = .ok (i, len) := by
  unfold mB
  rw [mX_110]
  exact chk_at kc110 j h
def K111 : List (Nat × Instr × Nat) := [(0, .lconst 0, 1), (1, .lstore 4, 2), (3, .lconst 0, 1), (4, .lstore 6, 2), (6, .aload_n 0, 1), (7, .getfield 19, 3), (10, .astore 8, 2), (12, .aload 8, 2), (14, .arraylength, 1), (15, .istore 9, 2), (17, .iconst 0, 1), (18, .istore 10, 2), (20, .iload 10, 2), (22, .iload 9, 2), (24, .if_icmp .ge 90, 3), (27, .aload 8, 2), (29, .iload 10, 2), (31, .aaload, 1), (32, .astore 11, 2), (34, .iload_n 3, 1), (35, .ifCond .eq 11, 3), (38, .aload 11, 2), (40, .getfield 75, 3), (43, .goto 8, 3), (46, .aload 11, 2), (48, .getfield 85, 3), (51, .astore 12, 2), (53, .aload 11, 2), (55, .invokevirtual 102, 3), (58, .ifCond .eq 50, 3), (61, .aload 11, 2), (63, .getfield 63, 3), (66, .getfield 106, 3), (69, .iload_n 2, 1), (70, .if_icmp .ne 38, 3), (73, .aload 12, 2), (75, .aload_n 1, 1), (76, .if_acmp .ne 32, 3), (79, .lload 4, 2), (81, .aload 11, 2), (83, .getfield 82, 3), (86, .i2l, 1), (87, .aload 11, 2), (89, .getfield 79, 3), (92, .i2l, 1), (93, .lmul, 1), (94, .ladd, 1), (95, .lstore 4, 2), (97, .lload 6, 2), (99, .aload 11, 2), (101, .getfield 79, 3), (104, .i2l, 1), (105, .ladd, 1), (106, .lstore 6, 2), (108, .iinc 10 1, 3), (111, .goto (-91), 3), (114, .lload 6, 2), (116, .lconst 0, 1), (117, .lcmp, 1), (118, .ifCond .le 14, 3), (121, .lload 4, 2), (123, .lload 6, 2), (125, .invokestatic 107, 3), (128, .l2i, 1), (129, .goto 5, 3), (132, .ldc 70, 2), (134, .ireturn, 1)]
set_option maxRecDepth 100000 in
theorem kc111 : chk cX7_averageOf K111 = true := by decide +kernel
theorem d111 {j pc len : Nat} {i : Instr} (h : K111[j]? = some (pc, i, len)) : decode (mB 111) pc = .ok (i, len) := by
  unfold mB
  rw [mX_111]
  exact chk_at kc111 j h
def K112 : List (Nat × Instr × Nat) := [(0, .aload_n 0, 1), (1, .iload_n 1, 1), (2, .invokevirtual 95, 3), (5, .astore 5, 2), (7, .aload_n 0, 1), (8, .iload_n 2, 1), (9, .invokevirtual 95, 3), (12, .astore 6, 2), (14, .aload_n 0, 1), (15, .aload 5, 2), (17, .iload_n 3, 1), (18, .iload 4, 2), (20, .ifCond .le 7, 3), (23, .iconst 1, 1), (24, .goto 4, 3), (27, .iconst 0, 1), (28, .invokevirtual 115, 3), (31, .istore 7, 2), (33, .aload 5, 2), (35, .iload_n 3, 1), (36, .aload 5, 2), (38, .iload_n 3, 1), (39, .invokevirtual 111, 3), (42, .iload 4, 2), (44, .isub, 1), (45, .invokevirtual 119, 3), (48, .aload 6, 2), (50, .iload_n 3, 1), (51, .aload 6, 2), (53, .iload_n 3, 1), (54, .invokevirtual 111, 3), (57, .iload 4, 2), (59, .iadd, 1), (60, .invokevirtual 119, 3), (63, .aload 5, 2), (65, .dup, 1), (66, .getfield 91, 3), (69, .iload 4, 2), (71, .i2l, 1), (72, .iload 7, 2), (74, .i2l, 1), (75, .lmul, 1), (76, .ladd, 1), (77, .putfield 91, 3), (80, .aload 6, 2), (82, .dup, 1), (83, .getfield 91, 3), (86, .iload 4, 2), (88, .i2l, 1), (89, .iload 7, 2), (91, .i2l, 1), (92, .lmul, 1), (93, .lsub, 1), (94, .putfield 91, 3), (97, .iload 7, 2), (99, .ireturn, 1)]
set_option maxRecDepth 100000 in
theorem kc112 : chk cX7_allotLots K112 = true := by decide +kernel
theorem d112 {j pc len : Nat} {i : Instr} (h : K112[j]? = some (pc, i, len)) : decode (mB 112) pc = .ok (i, len) := by
  unfold mB
  rw [mX_112]
  exact chk_at kc112 j h
def K113 : List (Nat × Instr × Nat) := [(0, .aload_n 0, 1), (1, .iload_n 1, 1), (2, .invokevirtual 95, 3), (5, .astore 4, 2), (7, .aload 4, 2), (9, .iconst 3, 1), (10, .aload 4, 2), (12, .iconst 3, 1), (13, .invokevirtual 111, 3), (16, .iload_n 2, 1), (17, .isub, 1), (18, .invokevirtual 119, 3), (21, .aload 4, 2), (23, .iconst 0, 1), (24, .aload 4, 2), (26, .iconst 0, 1), (27, .invokevirtual 111, 3), (30, .iload_n 2, 1), (31, .iadd, 1), (32, .invokevirtual 119, 3), (35, .aload 4, 2), (37, .dup, 1), (38, .getfield 91, 3), (41, .iload_n 2, 1), (42, .i2l, 1), (43, .ldc2_w 123, 3), (46, .lmul, 1), (47, .lsub, 1), (48, .putfield 91, 3), (51, .iconst 0, 1), (52, .istore 5, 2), (54, .iload_n 3, 1), (55, .istore 6, 2), (57, .iconst 0, 1), (58, .istore 7, 2), (60, .iload 7, 2), (62, .iload_n 2, 1), (63, .if_icmp .ge 35, 3), (66, .sipush 421, 3), (69, .iload 6, 2), (71, .imul, 1), (72, .sipush 1663, 3), (75, .iadd, 1), (76, .sipush 7875, 3), (79, .invokestatic 125, 3), (82, .istore 6, 2), (84, .aload_n 0, 1), (85, .iload 6, 2), (87, .invokevirtual 128, 3), (90, .istore 5, 2), (92, .iinc 7 1, 3), (95, .goto (-35), 3), (98, .iload 5, 2), (100, .ireturn, 1)]
set_option maxRecDepth 100000 in
theorem kc113 : chk cX7_exerciseLots K113 = true := by decide +kernel
theorem d113 {j pc len : Nat} {i : Instr} (h : K113[j]? = some (pc, i, len)) : decode (mB 113) pc = .ok (i, len) := by
  unfold mB
  rw [mX_113]
  exact chk_at kc113 j h
def K114 : List (Nat × Instr × Nat) := [(0, .lconst 0, 1), (1, .lstore_n 2, 1), (2, .aload_n 0, 1), (3, .getfield 11, 3), (6, .astore 4, 2), (8, .aload 4, 2), (10, .arraylength, 1), (11, .istore 5, 2), (13, .iconst 0, 1), (14, .istore 6, 2), (16, .iload 6, 2), (18, .iload 5, 2), (20, .if_icmp .ge 31, 3), (23, .aload 4, 2), (25, .iload 6, 2), (27, .aaload, 1), (28, .astore 7, 2), (30, .lload_n 2, 1), (31, .iconst 0, 1), (32, .aload 7, 2), (34, .iconst 3, 1), (35, .invokevirtual 111, 3), (38, .ineg, 1), (39, .invokestatic 53, 3), (42, .i2l, 1), (43, .ladd, 1), (44, .lstore_n 2, 1), (45, .iinc 6 1, 3), (48, .goto (-32), 3), (51, .lload_n 2, 1), (52, .lconst 0, 1), (53, .lcmp, 1), (54, .ifCond .gt 5, 3), (57, .iconst 0, 1), (58, .ireturn, 1), (59, .iload_n 1, 1), (60, .i2l, 1), (61, .lload_n 2, 1), (62, .lrem, 1), (63, .lstore 4, 2), (65, .aload_n 0, 1), (66, .getfield 11, 3), (69, .astore 6, 2), (71, .aload 6, 2), (73, .arraylength, 1), (74, .istore 7, 2), (76, .iconst 0, 1), (77, .istore 8, 2), (79, .iload 8, 2), (81, .iload 7, 2), (83, .if_icmp .ge 93, 3), (86, .aload 6, 2), (88, .iload 8, 2), (90, .aaload, 1), (91, .astore 9, 2), (93, .iconst 0, 1), (94, .aload 9, 2), (96, .iconst 3, 1), (97, .invokevirtual 111, 3), (100, .ineg, 1), (101, .invokestatic 53, 3), (104, .istore 10, 2), (106, .lload 4, 2), (108, .iload 10, 2), (110, .i2l, 1), (111, .lcmp, 1), (112, .ifCond .ge 50, 3), (115, .aload 9, 2), (117, .iconst 3, 1), (118, .aload 9, 2), (120, .iconst 3, 1), (121, .invokevirtual 111, 3), (124, .iconst 1, 1), (125, .iadd, 1), (126, .invokevirtual 119, 3), (129, .aload 9, 2), (131, .iconst 0, 1), (132, .aload 9, 2), (134, .iconst 0, 1), (135, .invokevirtual 111, 3), (138, .iconst 1, 1), (139, .isub, 1), (140, .invokevirtual 119, 3), (143, .aload 9, 2), (145, .dup, 1), (146, .getfield 91, 3), (149, .ldc2_w 123, 3), (152, .ladd, 1), (153, .putfield 91, 3), (156, .aload 9, 2), (158, .getfield 99, 3), (161, .ireturn, 1), (162, .lload 4, 2), (164, .iload 10, 2), (166, .i2l, 1), (167, .lsub, 1), (168, .lstore 4, 2), (170, .iinc 8 1, 3), (173, .goto (-94), 3), (176, .iconst 0, 1), (177, .ireturn, 1)]
set_option maxRecDepth 100000 in
theorem kc114 : chk cX7_assign K114 = true := by decide +kernel
theorem d114 {j pc len : Nat} {i : Instr} (h : K114[j]? = some (pc, i, len)) : decode (mB 114) pc = .ok (i, len) := by
  unfold mB
  rw [mX_114]
  exact chk_at kc114 j h
def K115 : List (Nat × Instr × Nat) := [(0, .iconst 0, 1), (1, .istore 4, 2), (3, .iload 4, 2), (5, .bipush 8, 2), (7, .if_icmp .ge 36, 3), (10, .aload_n 0, 1), (11, .iload 4, 2), (13, .invokevirtual 95, 3), (16, .iload_n 1, 1), (17, .invokevirtual 111, 3), (20, .iload_n 2, 1), (21, .iload_n 3, 1), (22, .invokestatic 131, 3), (25, .invokestatic 135, 3), (28, .ldc2_w 139, 3), (31, .lcmp, 1), (32, .ifCond .le 5, 3), (35, .iconst 0, 1), (36, .ireturn, 1), (37, .iinc 4 1, 3), (40, .goto (-37), 3), (43, .iconst 1, 1), (44, .ireturn, 1)]
set_option maxRecDepth 100000 in
theorem kc115 : chk cX7_canConvert K115 = true := by decide +kernel
theorem d115 {j pc len : Nat} {i : Instr} (h : K115[j]? = some (pc, i, len)) : decode (mB 115) pc = .ok (i, len) := by
  unfold mB
  rw [mX_115]
  exact chk_at kc115 j h
def K116 : List (Nat × Instr × Nat) := [(0, .iload_n 2, 1), (1, .ifCond .le 14, 3), (4, .iload_n 0, 1), (5, .i2l, 1), (6, .iload_n 1, 1), (7, .i2l, 1), (8, .lmul, 1), (9, .iload_n 2, 1), (10, .i2l, 1), (11, .ldiv, 1), (12, .goto 4, 3), (15, .lconst 0, 1), (16, .lreturn, 1)]
set_option maxRecDepth 100000 in
theorem kc116 : chk cX7_scaled K116 = true := by decide +kernel
theorem d116 {j pc len : Nat} {i : Instr} (h : K116[j]? = some (pc, i, len)) : decode (mB 116) pc = .ok (i, len) := by
  unfold mB
  rw [mX_116]
  exact chk_at kc116 j h
def K117 : List (Nat × Instr × Nat) := [(0, .aload_n 0, 1), (1, .bipush 8, 2), (3, .invokevirtual 95, 3), (6, .astore 5, 2), (8, .lconst 0, 1), (9, .lstore 6, 2), (11, .iconst 0, 1), (12, .istore 8, 2), (14, .iload 8, 2), (16, .bipush 8, 2), (18, .if_icmp .ge 104, 3), (21, .iload_n 3, 1), (22, .ifCond .le 100, 3), (25, .aload_n 0, 1), (26, .iload 8, 2), (28, .invokevirtual 95, 3), (31, .astore 9, 2), (33, .aload 9, 2), (35, .iload_n 1, 1), (36, .invokevirtual 111, 3), (39, .istore 10, 2), (41, .iload 10, 2), (43, .iload_n 2, 1), (44, .iload_n 3, 1), (45, .invokestatic 131, 3), (48, .lstore 11, 2), (50, .iload 10, 2), (52, .i2l, 1), (53, .iload_n 2, 1), (54, .i2l, 1), (55, .lmul, 1), (56, .lload 11, 2), (58, .iload_n 3, 1), (59, .i2l, 1), (60, .lmul, 1), (61, .lsub, 1), (62, .lstore 13, 2), (64, .lload 13, 2), (66, .iload 4, 2), (68, .i2l, 1), (69, .lmul, 1), (70, .iload_n 3, 1), (71, .invokestatic 141, 3), (74, .lstore 15, 2), (76, .aload 9, 2), (78, .iload_n 1, 1), (79, .lload 11, 2), (81, .l2i, 1), (82, .invokevirtual 119, 3), (85, .aload 9, 2), (87, .dup, 1), (88, .getfield 91, 3), (91, .lload 15, 2), (93, .ladd, 1), (94, .putfield 91, 3), (97, .aload 5, 2), (99, .dup, 1), (100, .getfield 91, 3), (103, .lload 15, 2), (105, .lsub, 1), (106, .putfield 91, 3), (109, .lload 6, 2), (111, .lload 11, 2), (113, .ladd, 1), (114, .lstore 6, 2), (116, .iinc 8 1, 3), (119, .goto (-105), 3), (122, .aload 5, 2), (124, .iload_n 1, 1), (125, .lload 6, 2), (127, .lneg, 1), (128, .l2i, 1), (129, .invokevirtual 119, 3), (132, .return_, 1)]
set_option maxRecDepth 100000 in
theorem kc117 : chk cX7_convertPositions K117 = true := by decide +kernel
theorem d117 {j pc len : Nat} {i : Instr} (h : K117[j]? = some (pc, i, len)) : decode (mB 117) pc = .ok (i, len) := by
  unfold mB
  rw [mX_117]
  exact chk_at kc117 j h
def K118 : List (Nat × Instr × Nat) := [(0, .aload_n 0, 1), (1, .getfield 19, 3), (4, .astore_n 2, 1), (5, .aload_n 2, 1), (6, .arraylength, 1), (7, .istore_n 3, 1), (8, .iconst 0, 1), (9, .istore 4, 2), (11, .iload 4, 2), (13, .iload_n 3, 1), (14, .if_icmp .ge 33, 3), (17, .aload_n 2, 1), (18, .iload 4, 2), (20, .aaload, 1), (21, .astore 5, 2), (23, .aload 5, 2), (25, .getfield 63, 3), (28, .iload_n 1, 1), (29, .invokevirtual 144, 3), (32, .ifCond .eq 9, 3), (35, .aload 5, 2), (37, .iconst 0, 1), (38, .putfield 32, 3), (41, .iinc 4 1, 3), (44, .goto (-33), 3), (47, .return_, 1)]
set_option maxRecDepth 100000 in
theorem kc118 : chk cX7_forget K118 = true := by decide +kernel
theorem d118 {j pc len : Nat} {i : Instr} (h : K118[j]? = some (pc, i, len)) : decode (mB 118) pc = .ok (i, len) := by
  unfold mB
  rw [mX_118]
  exact chk_at kc118 j h
def K119 : List (Nat × Instr × Nat) := [(0, .aload_n 0, 1), (1, .invokespecial 3, 3), (4, .aload_n 0, 1), (5, .bipush 40, 2), (7, .anewarray 9, 3), (10, .putfield 11, 3), (13, .aload_n 0, 1), (14, .bipush 40, 2), (16, .newarray .int, 2), (18, .putfield 17, 3), (21, .aload_n 0, 1), (22, .aload_n 1, 1), (23, .putfield 21, 3), (26, .aload_n 0, 1), (27, .aload_n 2, 1), (28, .putfield 25, 3), (31, .iconst 0, 1), (32, .istore_n 3, 1), (33, .iload_n 3, 1), (34, .aload_n 0, 1), (35, .getfield 11, 3), (38, .arraylength, 1), (39, .if_icmp .ge 30, 3), (42, .iload_n 3, 1), (43, .aload_n 1, 1), (44, .getfield 29, 3), (47, .arraylength, 1), (48, .if_icmp .ge 21, 3), (51, .aload_n 0, 1), (52, .getfield 11, 3), (55, .iload_n 3, 1), (56, .aload_n 1, 1), (57, .getfield 29, 3), (60, .iload_n 3, 1), (61, .aaload, 1), (62, .aastore, 1), (63, .iinc 3 1, 3), (66, .goto (-33), 3), (69, .return_, 1)]
set_option maxRecDepth 100000 in
theorem kc119 : chk cX8_init K119 = true := by decide +kernel
theorem d119 {j pc len : Nat} {i : Instr} (h : K119[j]? = some (pc, i, len)) : decode (mB 119) pc = .ok (i, len) := by
  unfold mB
  rw [mX_119]
  exact chk_at kc119 j h
def K120 : List (Nat × Instr × Nat) := [(0, .lconst 0, 1), (1, .lstore_n 2, 1), (2, .aload_n 0, 1), (3, .getfield 21, 3), (6, .getfield 29, 3), (9, .astore 4, 2), (11, .aload 4, 2), (13, .arraylength, 1), (14, .istore 5, 2), (16, .iconst 0, 1), (17, .istore 6, 2), (19, .iload 6, 2), (21, .iload 5, 2), (23, .if_icmp .ge 94, 3), (26, .aload 4, 2), (28, .iload 6, 2), (30, .aaload, 1), (31, .astore 7, 2), (33, .aload 7, 2), (35, .aload_n 1, 1), (36, .getfield 34, 3), (39, .aload_n 1, 1), (40, .getfield 38, 3), (43, .ifCond .ne 7, 3), (46, .iconst 1, 1), (47, .goto 4, 3), (50, .iconst 0, 1), (51, .invokevirtual 42, 3), (54, .ifCond .eq 57, 3), (57, .aload 7, 2), (59, .getfield 46, 3), (62, .getfield 50, 3), (65, .aload_n 1, 1), (66, .getfield 46, 3), (69, .getfield 50, 3), (72, .if_icmp .eq 39, 3), (75, .aload_n 1, 1), (76, .aload 7, 2), (78, .getfield 56, 3), (81, .invokevirtual 59, 3), (84, .ifCond .eq 27, 3), (87, .aload_n 1, 1), (88, .getfield 34, 3), (91, .aload 7, 2), (93, .getfield 56, 3), (96, .invokevirtual 63, 3), (99, .ifCond .ne 12, 3), (102, .lload_n 2, 1), (103, .aload 7, 2), (105, .getfield 68, 3), (108, .i2l, 1), (109, .ladd, 1), (110, .lstore_n 2, 1), (111, .iinc 6 1, 3), (114, .goto (-95), 3), (117, .lload_n 2, 1), (118, .lreturn, 1)]
set_option maxRecDepth 100000 in
theorem kc120 : chk cX8_reachable K120 = true := by decide +kernel
theorem d120 {j pc len : Nat} {i : Instr} (h : K120[j]? = some (pc, i, len)) : decode (mB 120) pc = .ok (i, len) := by
  unfold mB
  rw [mX_120]
  exact chk_at kc120 j h
def K121 : List (Nat × Instr × Nat) := [(0, .aload_n 1, 1), (1, .getfield 34, 3), (4, .astore_n 2, 1), (5, .iconst 0, 1), (6, .istore_n 3, 1), (7, .iload_n 3, 1), (8, .ldc 71, 2), (10, .if_icmp .ge 228, 3), (13, .aload_n 1, 1), (14, .getfield 72, 3), (17, .ifCond .eq 221, 3), (20, .aload_n 0, 1), (21, .getfield 21, 3), (24, .aload_n 2, 1), (25, .aload_n 1, 1), (26, .getfield 38, 3), (29, .ifCond .ne 7, 3), (32, .iconst 1, 1), (33, .goto 4, 3), (36, .iconst 0, 1), (37, .iconst 1, 1), (38, .invokevirtual 75, 3), (41, .istore 4, 2), (43, .iload 4, 2), (45, .ldc 79, 2), (47, .if_icmp .eq 191, 3), (50, .aload_n 1, 1), (51, .iload 4, 2), (53, .invokevirtual 59, 3), (56, .ifCond .ne 6, 3), (59, .goto 179, 3), (62, .aload_n 2, 1), (63, .iload 4, 2), (65, .invokevirtual 63, 3), (68, .ifCond .eq 17, 3), (71, .aload_n 0, 1), (72, .getfield 21, 3), (75, .aload_n 2, 1), (76, .iconst 5, 1), (77, .iconst 0, 1), (78, .invokevirtual 80, 3), (81, .pop, 1), (82, .goto 156, 3), (85, .aload_n 0, 1), (86, .aload_n 1, 1), (87, .iload 4, 2), (89, .invokevirtual 84, 3), (92, .istore 5, 2), (94, .aload_n 2, 1), (95, .getfield 88, 3), (98, .ifCond .eq 29, 3), (101, .aload_n 0, 1), (102, .aload_n 1, 1), (103, .iload 5, 2), (105, .invokevirtual 91, 3), (108, .ifCond .eq 19, 3), (111, .aload_n 2, 1), (112, .getfield 88, 3), (115, .iconst 1, 1), (116, .if_icmp .ne 116, 3), (119, .aload_n 1, 1), (120, .iconst 0, 1), (121, .putfield 72, 3), (124, .goto 114, 3), (127, .aload_n 0, 1), (128, .aload_n 2, 1), (129, .aload_n 1, 1), (130, .getfield 68, 3), (133, .iload 5, 2), (135, .invokevirtual 95, 3), (138, .iconst 0, 1), (139, .istore 6, 2), (141, .iload 6, 2), (143, .iload 5, 2), (145, .if_icmp .ge 87, 3), (148, .iload 6, 2), (150, .aload_n 0, 1), (151, .getfield 11, 3), (154, .arraylength, 1), (155, .if_icmp .ge 77, 3), (158, .iload 6, 2), (160, .aload_n 0, 1), (161, .getfield 17, 3), (164, .arraylength, 1), (165, .if_icmp .ge 67, 3), (168, .aload_n 0, 1), (169, .getfield 11, 3), (172, .iload 6, 2), (174, .aaload, 1), (175, .astore 7, 2), (177, .aload_n 0, 1), (178, .getfield 17, 3), (181, .iload 6, 2), (183, .iaload, 1), (184, .istore 8, 2), (186, .iload 8, 2), (188, .ifCond .le 38, 3), (191, .aload 7, 2), (193, .getfield 72, 3), (196, .ifCond .eq 30, 3), (199, .aload_n 1, 1), (200, .getfield 72, 3), (203, .ifCond .eq 23, 3), (206, .aload_n 0, 1), (207, .aload_n 1, 1), (208, .aload 7, 2), (210, .iload 4, 2), (212, .iload 8, 2), (214, .invokevirtual 99, 3), (217, .aload_n 0, 1), (218, .getfield 21, 3), (221, .aload 7, 2), (223, .invokevirtual 103, 3), (226, .iinc 6 1, 3), (229, .goto (-88), 3), (232, .iinc 3 1, 3), (235, .goto (-228), 3), (238, .aload_n 0, 1), (239, .aload_n 1, 1), (240, .invokevirtual 107, 3), (243, .return_, 1)]
set_option maxRecDepth 100000 in
theorem kc121 : chk cX8_match K121 = true := by decide +kernel
theorem d121 {j pc len : Nat} {i : Instr} (h : K121[j]? = some (pc, i, len)) : decode (mB 121) pc = .ok (i, len) := by
  unfold mB
  rw [mX_121]
  exact chk_at kc121 j h
def K122 : List (Nat × Instr × Nat) := [(0, .aload_n 1, 1), (1, .getfield 72, 3), (4, .ifCond .ne 4, 3), (7, .return_, 1), (8, .aload_n 1, 1), (9, .getfield 110, 3), (12, .ldc 79, 2), (14, .if_icmp .eq 12, 3), (17, .aload_n 1, 1), (18, .getfield 113, 3), (21, .ldc 79, 2), (23, .if_icmp .ne 11, 3), (26, .aload_n 1, 1), (27, .iconst 0, 1), (28, .putfield 72, 3), (31, .goto 11, 3), (34, .aload_n 0, 1), (35, .getfield 21, 3), (38, .aload_n 1, 1), (39, .invokevirtual 116, 3), (42, .return_, 1)]
set_option maxRecDepth 100000 in
theorem kc122 : chk cX8_settle K122 = true := by decide +kernel
theorem d122 {j pc len : Nat} {i : Instr} (h : K122[j]? = some (pc, i, len)) : decode (mB 122) pc = .ok (i, len) := by
  unfold mB
  rw [mX_122]
  exact chk_at kc122 j h
def K123 : List (Nat × Instr × Nat) := [(0, .aload_n 1, 1), (1, .getfield 34, 3), (4, .getfield 119, 3), (7, .iconst 2, 1), (8, .if_icmp .ne 7, 3), (11, .iconst 1, 1), (12, .goto 4, 3), (15, .iconst 0, 1), (16, .istore_n 3, 1), (17, .iconst 0, 1), (18, .istore 4, 2), (20, .aload_n 0, 1), (21, .getfield 21, 3), (24, .getfield 29, 3), (27, .astore 5, 2), (29, .aload 5, 2), (31, .arraylength, 1), (32, .istore 6, 2), (34, .iconst 0, 1), (35, .istore 7, 2), (37, .iload 7, 2), (39, .iload 6, 2), (41, .if_icmp .ge 185, 3), (44, .aload 5, 2), (46, .iload 7, 2), (48, .aaload, 1), (49, .astore 8, 2), (51, .aload 8, 2), (53, .aload_n 1, 1), (54, .getfield 34, 3), (57, .aload_n 1, 1), (58, .getfield 38, 3), (61, .ifCond .ne 7, 3), (64, .iconst 1, 1), (65, .goto 4, 3), (68, .iconst 0, 1), (69, .invokevirtual 42, 3), (72, .ifCond .eq 148, 3), (75, .aload 8, 2), (77, .getfield 56, 3), (80, .iload_n 2, 1), (81, .if_icmp .eq 6, 3), (84, .goto 136, 3), (87, .iload 4, 2), (89, .istore 9, 2), (91, .iload 9, 2), (93, .ifCond .le 105, 3), (96, .iload 9, 2), (98, .aload_n 0, 1), (99, .getfield 11, 3), (102, .arraylength, 1), (103, .if_icmp .ge 95, 3), (106, .aload_n 0, 1), (107, .getfield 11, 3), (110, .iload 9, 2), (112, .iconst 1, 1), (113, .isub, 1), (114, .aaload, 1), (115, .astore 10, 2), (117, .iload_n 3, 1), (118, .ifCond .eq 37, 3), (121, .aload 8, 2), (123, .getfield 122, 3), (126, .aload 10, 2), (128, .getfield 122, 3), (131, .if_icmp .eq 24, 3), (134, .aload 10, 2), (136, .getfield 122, 3), (139, .aload 8, 2), (141, .getfield 122, 3), (144, .if_icmp .le 7, 3), (147, .iconst 1, 1), (148, .goto 25, 3), (151, .iconst 0, 1), (152, .goto 21, 3), (155, .aload 10, 2), (157, .getfield 125, 3), (160, .aload 8, 2), (162, .getfield 125, 3), (165, .if_icmp .ge 7, 3), (168, .iconst 1, 1), (169, .goto 4, 3), (172, .iconst 0, 1), (173, .istore 11, 2), (175, .iload 11, 2), (177, .ifCond .eq 6, 3), (180, .goto 18, 3), (183, .aload_n 0, 1), (184, .getfield 11, 3), (187, .iload 9, 2), (189, .aload 10, 2), (191, .aastore, 1), (192, .iinc 9 (-1), 3), (195, .goto (-104), 3), (198, .iload 9, 2), (200, .aload_n 0, 1), (201, .getfield 11, 3), (204, .arraylength, 1), (205, .if_icmp .ge 15, 3), (208, .aload_n 0, 1), (209, .getfield 11, 3), (212, .iload 9, 2), (214, .aload 8, 2), (216, .aastore, 1), (217, .iinc 4 1, 3), (220, .iinc 7 1, 3), (223, .goto (-186), 3), (226, .iload 4, 2), (228, .ireturn, 1)]
set_option maxRecDepth 100000 in
theorem kc123 : chk cX8_gather K123 = true := by decide +kernel
theorem d123 {j pc len : Nat} {i : Instr} (h : K123[j]? = some (pc, i, len)) : decode (mB 123) pc = .ok (i, len) := by
  unfold mB
  rw [mX_123]
  exact chk_at kc123 j h
def K124 : List (Nat × Instr × Nat) := [(0, .iconst 0, 1), (1, .istore_n 3, 1), (2, .iconst 0, 1), (3, .istore 4, 2), (5, .iload 4, 2), (7, .iload_n 2, 1), (8, .if_icmp .ge 65, 3), (11, .iload 4, 2), (13, .aload_n 0, 1), (14, .getfield 11, 3), (17, .arraylength, 1), (18, .if_icmp .ge 55, 3), (21, .aload_n 0, 1), (22, .getfield 11, 3), (25, .iload 4, 2), (27, .aaload, 1), (28, .astore 5, 2), (30, .aload 5, 2), (32, .getfield 46, 3), (35, .getfield 50, 3), (38, .aload_n 1, 1), (39, .getfield 46, 3), (42, .getfield 50, 3), (45, .if_icmp .ne 22, 3), (48, .iconst 1, 1), (49, .istore_n 3, 1), (50, .aload_n 1, 1), (51, .getfield 34, 3), (54, .getfield 88, 3), (57, .iconst 2, 1), (58, .if_icmp .ne 9, 3), (61, .aload 5, 2), (63, .iconst 0, 1), (64, .putfield 72, 3), (67, .iinc 4 1, 3), (70, .goto (-65), 3), (73, .iload_n 3, 1), (74, .ireturn, 1)]
set_option maxRecDepth 100000 in
theorem kc124 : chk cX8_meetsOwn K124 = true := by decide +kernel
theorem d124 {j pc len : Nat} {i : Instr} (h : K124[j]? = some (pc, i, len)) : decode (mB 124) pc = .ok (i, len) := by
  unfold mB
  rw [mX_124]
  exact chk_at kc124 j h
def K125 : List (Nat × Instr × Nat) := [(0, .iload_n 3, 1), (1, .aload_n 0, 1), (2, .getfield 11, 3), (5, .arraylength, 1), (6, .aload_n 0, 1), (7, .getfield 17, 3), (10, .arraylength, 1), (11, .invokestatic 128, 3), (14, .invokestatic 128, 3), (17, .istore 4, 2), (19, .iload_n 2, 1), (20, .istore 5, 2), (22, .iconst 0, 1), (23, .istore 6, 2), (25, .iload 6, 2), (27, .iload 4, 2), (29, .if_icmp .ge 17, 3), (32, .aload_n 0, 1), (33, .getfield 17, 3), (36, .iload 6, 2), (38, .iconst 0, 1), (39, .iastore, 1), (40, .iinc 6 1, 3), (43, .goto (-18), 3), (46, .aload_n 1, 1), (47, .getfield 119, 3), (50, .iconst 1, 1), (51, .if_icmp .ne 28, 3), (54, .iload 5, 2), (56, .aload_n 0, 1), (57, .aload_n 1, 1), (58, .getfield 134, 3), (61, .iload_n 2, 1), (62, .iload 4, 2), (64, .invokevirtual 137, 3), (67, .isub, 1), (68, .istore 5, 2), (70, .aload_n 0, 1), (71, .iload 5, 2), (73, .iload 4, 2), (75, .invokevirtual 141, 3), (78, .return_, 1), (79, .iconst 0, 1), (80, .istore 6, 2), (82, .iload 6, 2), (84, .iload 4, 2), (86, .if_icmp .ge 43, 3), (89, .aload_n 0, 1), (90, .getfield 17, 3), (93, .iload 6, 2), (95, .iload 5, 2), (97, .aload_n 0, 1), (98, .getfield 11, 3), (101, .iload 6, 2), (103, .aaload, 1), (104, .getfield 122, 3), (107, .invokestatic 128, 3), (110, .iastore, 1), (111, .iload 5, 2), (113, .aload_n 0, 1), (114, .getfield 17, 3), (117, .iload 6, 2), (119, .iaload, 1), (120, .isub, 1), (121, .istore 5, 2), (123, .iinc 6 1, 3), (126, .goto (-44), 3), (129, .return_, 1)]
set_option maxRecDepth 100000 in
theorem kc125 : chk cX8_share K125 = true := by decide +kernel
theorem d125 {j pc len : Nat} {i : Instr} (h : K125[j]? = some (pc, i, len)) : decode (mB 125) pc = .ok (i, len) := by
  unfold mB
  rw [mX_125]
  exact chk_at kc125 j h
def K126 : List (Nat × Instr × Nat) := [(0, .iload_n 3, 1), (1, .ifCond .le 19, 3), (4, .aload_n 0, 1), (5, .getfield 17, 3), (8, .arraylength, 1), (9, .ifCond .eq 11, 3), (12, .aload_n 0, 1), (13, .getfield 11, 3), (16, .arraylength, 1), (17, .ifCond .ne 5, 3), (20, .iconst 0, 1), (21, .ireturn, 1), (22, .aload_n 0, 1), (23, .getfield 17, 3), (26, .iconst 0, 1), (27, .iload_n 2, 1), (28, .iload_n 1, 1), (29, .invokestatic 128, 3), (32, .aload_n 0, 1), (33, .getfield 11, 3), (36, .iconst 0, 1), (37, .aaload, 1), (38, .getfield 122, 3), (41, .invokestatic 128, 3), (44, .iastore, 1), (45, .aload_n 0, 1), (46, .getfield 17, 3), (49, .iconst 0, 1), (50, .iaload, 1), (51, .ireturn, 1)]
set_option maxRecDepth 100000 in
theorem kc126 : chk cX8_giveTop K126 = true := by decide +kernel
theorem d126 {j pc len : Nat} {i : Instr} (h : K126[j]? = some (pc, i, len)) : decode (mB 126) pc = .ok (i, len) := by
  unfold mB
  rw [mX_126]
  exact chk_at kc126 j h
def K127 : List (Nat × Instr × Nat) := [(0, .iconst 0, 1), (1, .istore_n 3, 1), (2, .iconst 0, 1), (3, .istore 4, 2), (5, .iload 4, 2), (7, .iload_n 2, 1), (8, .if_icmp .ge 50, 3), (11, .iload 4, 2), (13, .aload_n 0, 1), (14, .getfield 17, 3), (17, .arraylength, 1), (18, .if_icmp .ge 40, 3), (21, .iload 4, 2), (23, .aload_n 0, 1), (24, .getfield 11, 3), (27, .arraylength, 1), (28, .if_icmp .ge 30, 3), (31, .iload_n 3, 1), (32, .aload_n 0, 1), (33, .getfield 11, 3), (36, .iload 4, 2), (38, .aaload, 1), (39, .getfield 122, 3), (42, .aload_n 0, 1), (43, .getfield 17, 3), (46, .iload 4, 2), (48, .iaload, 1), (49, .isub, 1), (50, .iadd, 1), (51, .istore_n 3, 1), (52, .iinc 4 1, 3), (55, .goto (-50), 3), (58, .iload_n 1, 1), (59, .iload_n 3, 1), (60, .invokestatic 128, 3), (63, .istore 4, 2), (65, .iload 4, 2), (67, .istore 5, 2), (69, .iconst 0, 1), (70, .istore 6, 2), (72, .iload 6, 2), (74, .iload_n 2, 1), (75, .if_icmp .ge 77, 3), (78, .iload 6, 2), (80, .aload_n 0, 1), (81, .getfield 17, 3), (84, .arraylength, 1), (85, .if_icmp .ge 67, 3), (88, .iload 6, 2), (90, .aload_n 0, 1), (91, .getfield 11, 3), (94, .arraylength, 1), (95, .if_icmp .ge 57, 3), (98, .iload_n 3, 1), (99, .ifCond .le 53, 3), (102, .iload 4, 2), (104, .aload_n 0, 1), (105, .getfield 11, 3), (108, .iload 6, 2), (110, .aaload, 1), (111, .getfield 122, 3), (114, .aload_n 0, 1), (115, .getfield 17, 3), (118, .iload 6, 2), (120, .iaload, 1), (121, .isub, 1), (122, .imul, 1), (123, .iload_n 3, 1), (124, .idiv, 1), (125, .istore 7, 2), (127, .aload_n 0, 1), (128, .getfield 17, 3), (131, .iload 6, 2), (133, .dup2, 1), (134, .iaload, 1), (135, .iload 7, 2), (137, .iadd, 1), (138, .iastore, 1), (139, .iload 5, 2), (141, .iload 7, 2), (143, .isub, 1), (144, .istore 5, 2), (146, .iinc 6 1, 3), (149, .goto (-77), 3), (152, .iconst 0, 1), (153, .istore 6, 2), (155, .iload 6, 2), (157, .bipush 50, 2), (159, .if_icmp .ge 88, 3), (162, .iload 5, 2), (164, .ifCond .le 83, 3), (167, .iconst 0, 1), (168, .istore 7, 2), (170, .iload 7, 2), (172, .iload_n 2, 1), (173, .if_icmp .ge 68, 3), (176, .iload 7, 2), (178, .aload_n 0, 1), (179, .getfield 17, 3), (182, .arraylength, 1), (183, .if_icmp .ge 58, 3), (186, .iload 7, 2), (188, .aload_n 0, 1), (189, .getfield 11, 3), (192, .arraylength, 1), (193, .if_icmp .ge 48, 3), (196, .iload 5, 2), (198, .ifCond .le 37, 3), (201, .aload_n 0, 1), (202, .getfield 17, 3), (205, .iload 7, 2), (207, .iaload, 1), (208, .aload_n 0, 1), (209, .getfield 11, 3), (212, .iload 7, 2), (214, .aaload, 1), (215, .getfield 122, 3), (218, .if_icmp .ge 17, 3), (221, .aload_n 0, 1), (222, .getfield 17, 3), (225, .iload 7, 2), (227, .dup2, 1), (228, .iaload, 1), (229, .iconst 1, 1), (230, .iadd, 1), (231, .iastore, 1), (232, .iinc 5 (-1), 3), (235, .iinc 7 1, 3), (238, .goto (-68), 3), (241, .iinc 6 1, 3), (244, .goto (-89), 3), (247, .return_, 1)]
set_option maxRecDepth 100000 in
theorem kc127 : chk cX8_giveShares K127 = true := by decide +kernel
theorem d127 {j pc len : Nat} {i : Instr} (h : K127[j]? = some (pc, i, len)) : decode (mB 127) pc = .ok (i, len) := by
  unfold mB
  rw [mX_127]
  exact chk_at kc127 j h
def K128 : List (Nat × Instr × Nat) := [(0, .aload_n 1, 1), (1, .getfield 38, 3), (4, .ifCond .eq 10, 3), (7, .aload_n 1, 1), (8, .getfield 46, 3), (11, .goto 7, 3), (14, .aload_n 2, 1), (15, .getfield 46, 3), (18, .astore 5, 2), (20, .aload_n 1, 1), (21, .getfield 38, 3), (24, .ifCond .eq 10, 3), (27, .aload_n 2, 1), (28, .getfield 46, 3), (31, .goto 7, 3), (34, .aload_n 1, 1), (35, .getfield 46, 3), (38, .astore 6, 2), (40, .aload_n 0, 1), (41, .getfield 25, 3), (44, .aload_n 1, 1), (45, .getfield 34, 3), (48, .aload 5, 2), (50, .aload 6, 2), (52, .iload_n 3, 1), (53, .iload 4, 2), (55, .invokevirtual 145, 3), (58, .aload_n 1, 1), (59, .iload 4, 2), (61, .invokevirtual 151, 3), (64, .aload_n 2, 1), (65, .iload 4, 2), (67, .invokevirtual 151, 3), (70, .aload_n 0, 1), (71, .getfield 21, 3), (74, .aload_n 2, 1), (75, .iload 4, 2), (77, .invokevirtual 155, 3), (80, .aload_n 0, 1), (81, .getfield 21, 3), (84, .aload_n 1, 1), (85, .iload 4, 2), (87, .invokevirtual 155, 3), (90, .return_, 1)]
set_option maxRecDepth 100000 in
theorem kc128 : chk cX8_strike K128 = true := by decide +kernel
theorem d128 {j pc len : Nat} {i : Instr} (h : K128[j]? = some (pc, i, len)) : decode (mB 128) pc = .ok (i, len) := by
  unfold mB
  rw [mX_128]
  exact chk_at kc128 j h
def K129 : List (Nat × Instr × Nat) := [(0, .aload_n 0, 1), (1, .aload_n 1, 1), (2, .invokevirtual 159, 3), (5, .istore_n 2, 1), (6, .iload_n 2, 1), (7, .ldc 79, 2), (9, .if_icmp .eq 38, 3), (12, .aload_n 1, 1), (13, .iload_n 2, 1), (14, .invokevirtual 63, 3), (17, .ifCond .eq 30, 3), (20, .aload_n 1, 1), (21, .getfield 163, 3), (24, .ifCond .ne 23, 3), (27, .aload_n 1, 1), (28, .aload_n 0, 1), (29, .getfield 21, 3), (32, .getfield 166, 3), (35, .iconst 5, 1), (36, .iadd, 1), (37, .putfield 169, 3), (40, .aload_n 1, 1), (41, .iconst 1, 1), (42, .putfield 163, 3), (45, .iconst 0, 1), (46, .ireturn, 1), (47, .iload_n 2, 1), (48, .ldc 79, 2), (50, .if_icmp .eq 14, 3), (53, .aload_n 0, 1), (54, .aload_n 1, 1), (55, .iload_n 2, 1), (56, .invokevirtual 172, 3), (59, .aload_n 1, 1), (60, .iload_n 2, 1), (61, .putfield 176, 3), (64, .aload_n 0, 1), (65, .getfield 21, 3), (68, .aload_n 1, 1), (69, .invokevirtual 179, 3), (72, .iconst 1, 1), (73, .ireturn, 1)]
set_option maxRecDepth 100000 in
theorem kc129 : chk cX8_endAuction K129 = true := by decide +kernel
theorem d129 {j pc len : Nat} {i : Instr} (h : K129[j]? = some (pc, i, len)) : decode (mB 129) pc = .ok (i, len) := by
  unfold mB
  rw [mX_129]
  exact chk_at kc129 j h
def K130 : List (Nat × Instr × Nat) := [(0, .iconst 0, 1), (1, .istore_n 3, 1), (2, .iload_n 3, 1), (3, .ldc 71, 2), (5, .if_icmp .ge 60, 3), (8, .aload_n 0, 1), (9, .aload_n 1, 1), (10, .iconst 1, 1), (11, .iload_n 2, 1), (12, .invokevirtual 183, 3), (15, .astore 4, 2), (17, .aload_n 0, 1), (18, .aload_n 1, 1), (19, .iconst 0, 1), (20, .iload_n 2, 1), (21, .invokevirtual 183, 3), (24, .astore 5, 2), (26, .aload 4, 2), (28, .ifnull 8, 3), (31, .aload 5, 2), (33, .ifnonnull 4, 3), (36, .return_, 1), (37, .aload_n 0, 1), (38, .aload 4, 2), (40, .aload 5, 2), (42, .iload_n 2, 1), (43, .aload 4, 2), (45, .getfield 68, 3), (48, .aload 5, 2), (50, .getfield 68, 3), (53, .invokestatic 128, 3), (56, .invokevirtual 99, 3), (59, .iinc 3 1, 3), (62, .goto (-60), 3), (65, .return_, 1)]
set_option maxRecDepth 100000 in
theorem kc130 : chk cX8_tradeAll K130 = true := by decide +kernel
theorem d130 {j pc len : Nat} {i : Instr} (h : K130[j]? = some (pc, i, len)) : decode (mB 130) pc = .ok (i, len) := by
  unfold mB
  rw [mX_130]
  exact chk_at kc130 j h
def K131 : List (Nat × Instr × Nat) := [(0, .aconst_null, 1), (1, .astore 4, 2), (3, .aload_n 0, 1), (4, .getfield 21, 3), (7, .getfield 29, 3), (10, .astore 5, 2), (12, .aload 5, 2), (14, .arraylength, 1), (15, .istore 6, 2), (17, .iconst 0, 1), (18, .istore 7, 2), (20, .iload 7, 2), (22, .iload 6, 2), (24, .if_icmp .ge 55, 3), (27, .aload 5, 2), (29, .iload 7, 2), (31, .aaload, 1), (32, .astore 8, 2), (34, .aload 8, 2), (36, .aload_n 1, 1), (37, .iload_n 2, 1), (38, .invokevirtual 42, 3), (41, .ifCond .eq 32, 3), (44, .aload 8, 2), (46, .iload_n 3, 1), (47, .invokevirtual 59, 3), (50, .ifCond .eq 23, 3), (53, .aload 4, 2), (55, .ifnull 14, 3), (58, .aload_n 0, 1), (59, .aload 8, 2), (61, .aload 4, 2), (63, .invokevirtual 187, 3), (66, .ifCond .eq 7, 3), (69, .aload 8, 2), (71, .astore 4, 2), (73, .iinc 7 1, 3), (76, .goto (-56), 3), (79, .aload 4, 2), (81, .areturn, 1)]
set_option maxRecDepth 100000 in
theorem kc131 : chk cX8_firstAt K131 = true := by decide +kernel
theorem d131 {j pc len : Nat} {i : Instr} (h : K131[j]? = some (pc, i, len)) : decode (mB 131) pc = .ok (i, len) := by
  unfold mB
  rw [mX_131]
  exact chk_at kc131 j h
def K132 : List (Nat × Instr × Nat) := [(0, .aload_n 1, 1), (1, .getfield 110, 3), (4, .aload_n 2, 1), (5, .getfield 110, 3), (8, .if_icmp .ne 20, 3), (11, .aload_n 1, 1), (12, .getfield 125, 3), (15, .aload_n 2, 1), (16, .getfield 125, 3), (19, .if_icmp .ge 7, 3), (22, .iconst 1, 1), (23, .goto 4, 3), (26, .iconst 0, 1), (27, .ireturn, 1), (28, .aload_n 1, 1), (29, .getfield 110, 3), (32, .ldc 79, 2), (34, .if_icmp .eq 12, 3), (37, .aload_n 2, 1), (38, .getfield 110, 3), (41, .ldc 79, 2), (43, .if_icmp .ne 18, 3), (46, .aload_n 1, 1), (47, .getfield 110, 3), (50, .ldc 79, 2), (52, .if_icmp .ne 7, 3), (55, .iconst 1, 1), (56, .goto 4, 3), (59, .iconst 0, 1), (60, .ireturn, 1), (61, .aload_n 1, 1), (62, .aload_n 1, 1), (63, .getfield 110, 3), (66, .aload_n 2, 1), (67, .getfield 110, 3), (70, .invokevirtual 191, 3), (73, .ireturn, 1)]
set_option maxRecDepth 100000 in
theorem kc132 : chk cX8_comesBefore K132 = true := by decide +kernel
theorem d132 {j pc len : Nat} {i : Instr} (h : K132[j]? = some (pc, i, len)) : decode (mB 132) pc = .ok (i, len) := by
  unfold mB
  rw [mX_132]
  exact chk_at kc132 j h
