/-! the code of the methods, as tables -/
def K0 : List (Nat × Instr × Nat) := [(0, .aload_n 0, 1), (1, .invokespecial 3, 3), (4, .aload_n 0, 1), (5, .iconst 4, 1), (6, .newarray .int, 2), (8, .putfield 9, 3), (11, .aload_n 0, 1), (12, .iconst 4, 1), (13, .newarray .int, 2), (15, .putfield 15, 3), (18, .aload_n 0, 1), (19, .iload_n 1, 1), (20, .putfield 18, 3), (23, .aload_n 0, 1), (24, .iload_n 1, 1), (25, .iconst 2, 1), (26, .idiv, 1), (27, .putfield 22, 3), (30, .return_, 1)]
set_option maxRecDepth 100000 in
theorem kc0 : chk cX0_init K0 = true := by decide +kernel
theorem d0 {j pc len : Nat} {i : Instr} (h : K0[j]? = some (pc, i, len)) : decode (mB 0) pc = .ok (i, len) := by
  unfold mB
  rw [mX_0]
  exact chk_at kc0 j h
def K1 : List (Nat × Instr × Nat) := [(0, .iconst 0, 1), (1, .istore_n 1, 1), (2, .iload_n 1, 1), (3, .aload_n 0, 1), (4, .getfield 9, 3), (7, .arraylength, 1), (8, .if_icmp .ge 34, 3), (11, .iload_n 1, 1), (12, .aload_n 0, 1), (13, .getfield 15, 3), (16, .arraylength, 1), (17, .if_icmp .ge 25, 3), (20, .aload_n 0, 1), (21, .getfield 9, 3), (24, .iload_n 1, 1), (25, .iconst 0, 1), (26, .iastore, 1), (27, .aload_n 0, 1), (28, .getfield 15, 3), (31, .iload_n 1, 1), (32, .sipush 999, 3), (35, .iastore, 1), (36, .iinc 1 1, 3), (39, .goto (-37), 3), (42, .aload_n 0, 1), (43, .lconst 0, 1), (44, .putfield 25, 3), (47, .aload_n 0, 1), (48, .iconst 0, 1), (49, .putfield 29, 3), (52, .aload_n 0, 1), (53, .iconst 0, 1), (54, .putfield 32, 3), (57, .aload_n 0, 1), (58, .iconst 0, 1), (59, .putfield 35, 3), (62, .aload_n 0, 1), (63, .iconst 0, 1), (64, .putfield 39, 3), (67, .return_, 1)]
set_option maxRecDepth 100000 in
theorem kc1 : chk cX0_restore K1 = true := by decide +kernel
theorem d1 {j pc len : Nat} {i : Instr} (h : K1[j]? = some (pc, i, len)) : decode (mB 1) pc = .ok (i, len) := by
  unfold mB
  rw [mX_1]
  exact chk_at kc1 j h
def K2 : List (Nat × Instr × Nat) := [(0, .iload_n 1, 1), (1, .ifCond .lt 21, 3), (4, .iload_n 1, 1), (5, .aload_n 0, 1), (6, .getfield 9, 3), (9, .arraylength, 1), (10, .if_icmp .ge 12, 3), (13, .aload_n 0, 1), (14, .getfield 9, 3), (17, .iload_n 1, 1), (18, .iaload, 1), (19, .goto 4, 3), (22, .iconst 0, 1), (23, .ireturn, 1)]
set_option maxRecDepth 100000 in
theorem kc2 : chk cX0_holds K2 = true := by decide +kernel
theorem d2 {j pc len : Nat} {i : Instr} (h : K2[j]? = some (pc, i, len)) : decode (mB 2) pc = .ok (i, len) := by
  unfold mB
  rw [mX_2]
  exact chk_at kc2 j h
def K3 : List (Nat × Instr × Nat) := [(0, .iload_n 1, 1), (1, .ifCond .lt 21, 3), (4, .iload_n 1, 1), (5, .aload_n 0, 1), (6, .getfield 15, 3), (9, .arraylength, 1), (10, .if_icmp .ge 12, 3), (13, .aload_n 0, 1), (14, .getfield 15, 3), (17, .iload_n 1, 1), (18, .iaload, 1), (19, .goto 4, 3), (22, .iconst 0, 1), (23, .ireturn, 1)]
set_option maxRecDepth 100000 in
theorem kc3 : chk cX0_limitOf K3 = true := by decide +kernel
theorem d3 {j pc len : Nat} {i : Instr} (h : K3[j]? = some (pc, i, len)) : decode (mB 3) pc = .ok (i, len) := by
  unfold mB
  rw [mX_3]
  exact chk_at kc3 j h
def K4 : List (Nat × Instr × Nat) := [(0, .iload_n 1, 1), (1, .ifCond .lt 19, 3), (4, .iload_n 1, 1), (5, .aload_n 0, 1), (6, .getfield 9, 3), (9, .arraylength, 1), (10, .if_icmp .ge 10, 3), (13, .aload_n 0, 1), (14, .getfield 9, 3), (17, .iload_n 1, 1), (18, .iload_n 2, 1), (19, .iastore, 1), (20, .return_, 1)]
set_option maxRecDepth 100000 in
theorem kc4 : chk cX0_put K4 = true := by decide +kernel
theorem d4 {j pc len : Nat} {i : Instr} (h : K4[j]? = some (pc, i, len)) : decode (mB 4) pc = .ok (i, len) := by
  unfold mB
  rw [mX_4]
  exact chk_at kc4 j h
def K5 : List (Nat × Instr × Nat) := [(0, .aload_n 1, 1), (1, .getfield 42, 3), (4, .ifCond .lt 28, 3), (7, .aload_n 1, 1), (8, .getfield 42, 3), (11, .aload_n 0, 1), (12, .getfield 9, 3), (15, .arraylength, 1), (16, .if_icmp .ge 16, 3), (19, .aload_n 0, 1), (20, .getfield 9, 3), (23, .aload_n 1, 1), (24, .getfield 42, 3), (27, .dup2, 1), (28, .iaload, 1), (29, .iload_n 2, 1), (30, .iadd, 1), (31, .iastore, 1), (32, .aload_n 1, 1), (33, .getfield 47, 3), (36, .ifCond .lt 28, 3), (39, .aload_n 1, 1), (40, .getfield 47, 3), (43, .aload_n 0, 1), (44, .getfield 9, 3), (47, .arraylength, 1), (48, .if_icmp .ge 16, 3), (51, .aload_n 0, 1), (52, .getfield 9, 3), (55, .aload_n 1, 1), (56, .getfield 47, 3), (59, .dup2, 1), (60, .iaload, 1), (61, .iload_n 2, 1), (62, .isub, 1), (63, .iastore, 1), (64, .aload_n 0, 1), (65, .dup, 1), (66, .getfield 25, 3), (69, .iload_n 2, 1), (70, .i2l, 1), (71, .iload_n 3, 1), (72, .i2l, 1), (73, .lmul, 1), (74, .lsub, 1), (75, .putfield 25, 3), (78, .return_, 1)]
set_option maxRecDepth 100000 in
theorem kc5 : chk cX0_take K5 = true := by decide +kernel
theorem d5 {j pc len : Nat} {i : Instr} (h : K5[j]? = some (pc, i, len)) : decode (mB 5) pc = .ok (i, len) := by
  unfold mB
  rw [mX_5]
  exact chk_at kc5 j h
def K6 : List (Nat × Instr × Nat) := [(0, .aload_n 0, 1), (1, .getfield 29, 3), (4, .istore_n 2, 1), (5, .aload_n 0, 1), (6, .iload_n 1, 1), (7, .putfield 29, 3), (10, .iload_n 2, 1), (11, .ireturn, 1)]
set_option maxRecDepth 100000 in
theorem kc6 : chk cX0_changeProtection K6 = true := by decide +kernel
theorem d6 {j pc len : Nat} {i : Instr} (h : K6[j]? = some (pc, i, len)) : decode (mB 6) pc = .ok (i, len) := by
  unfold mB
  rw [mX_6]
  exact chk_at kc6 j h
def K7 : List (Nat × Instr × Nat) := [(0, .aload_n 0, 1), (1, .iload_n 1, 1), (2, .invokevirtual 50, 3), (5, .istore_n 3, 1), (6, .iload_n 1, 1), (7, .ifCond .lt 19, 3), (10, .iload_n 1, 1), (11, .aload_n 0, 1), (12, .getfield 15, 3), (15, .arraylength, 1), (16, .if_icmp .ge 10, 3), (19, .aload_n 0, 1), (20, .getfield 15, 3), (23, .iload_n 1, 1), (24, .iload_n 2, 1), (25, .iastore, 1), (26, .iload_n 3, 1), (27, .ireturn, 1)]
set_option maxRecDepth 100000 in
theorem kc7 : chk cX0_changeLimit K7 = true := by decide +kernel
theorem d7 {j pc len : Nat} {i : Instr} (h : K7[j]? = some (pc, i, len)) : decode (mB 7) pc = .ok (i, len) := by
  unfold mB
  rw [mX_7]
  exact chk_at kc7 j h
def K8 : List (Nat × Instr × Nat) := [(0, .aload_n 0, 1), (1, .invokespecial 3, 3), (4, .aload_n 0, 1), (5, .iload_n 1, 1), (6, .putfield 9, 3), (9, .aload_n 0, 1), (10, .iload_n 1, 1), (11, .iconst 4, 1), (12, .if_icmp .ge 7, 3), (15, .iload_n 1, 1), (16, .goto 6, 3), (19, .iload_n 1, 1), (20, .iconst 4, 1), (21, .isub, 1), (22, .putfield 15, 3), (25, .aload_n 0, 1), (26, .iload_n 1, 1), (27, .iconst 4, 1), (28, .if_icmp .ge 8, 3), (31, .ldc 18, 2), (33, .goto 8, 3), (36, .iload_n 1, 1), (37, .iconst 4, 1), (38, .isub, 1), (39, .iconst 1, 1), (40, .iadd, 1), (41, .putfield 19, 3), (44, .return_, 1)]
set_option maxRecDepth 100000 in
theorem kc8 : chk cX1_init K8 = true := by decide +kernel
theorem d8 {j pc len : Nat} {i : Instr} (h : K8[j]? = some (pc, i, len)) : decode (mB 8) pc = .ok (i, len) := by
  unfold mB
  rw [mX_8]
  exact chk_at kc8 j h
def K9 : List (Nat × Instr × Nat) := [(0, .aload_n 0, 1), (1, .aload_n 0, 1), (2, .invokevirtual 22, 3), (5, .ifCond .eq 7, 3), (8, .iconst 0, 1), (9, .goto 5, 3), (12, .bipush 100, 2), (14, .putfield 26, 3), (17, .aload_n 0, 1), (18, .aload_n 0, 1), (19, .getfield 26, 3), (22, .putfield 29, 3), (25, .aload_n 0, 1), (26, .iconst 0, 1), (27, .putfield 32, 3), (30, .aload_n 0, 1), (31, .iconst 0, 1), (32, .putfield 36, 3), (35, .aload_n 0, 1), (36, .iconst 0, 1), (37, .putfield 39, 3), (40, .aload_n 0, 1), (41, .iconst 0, 1), (42, .putfield 42, 3), (45, .aload_n 0, 1), (46, .iconst 0, 1), (47, .putfield 45, 3), (50, .aload_n 0, 1), (51, .iconst 0, 1), (52, .putfield 48, 3), (55, .aload_n 0, 1), (56, .iconst 0, 1), (57, .putfield 51, 3), (60, .aload_n 0, 1), (61, .iconst 0, 1), (62, .putfield 54, 3), (65, .return_, 1)]
set_option maxRecDepth 100000 in
theorem kc9 : chk cX1_restore K9 = true := by decide +kernel
theorem d9 {j pc len : Nat} {i : Instr} (h : K9[j]? = some (pc, i, len)) : decode (mB 9) pc = .ok (i, len) := by
  unfold mB
  rw [mX_9]
  exact chk_at kc9 j h
def K10 : List (Nat × Instr × Nat) := [(0, .aload_n 0, 1), (1, .getfield 19, 3), (4, .ldc 18, 2), (6, .if_icmp .eq 7, 3), (9, .iconst 1, 1), (10, .goto 4, 3), (13, .iconst 0, 1), (14, .ireturn, 1)]
set_option maxRecDepth 100000 in
theorem kc10 : chk cX1_isSpread K10 = true := by decide +kernel
theorem d10 {j pc len : Nat} {i : Instr} (h : K10[j]? = some (pc, i, len)) : decode (mB 10) pc = .ok (i, len) := by
  unfold mB
  rw [mX_10]
  exact chk_at kc10 j h
def K11 : List (Nat × Instr × Nat) := [(0, .iload_n 1, 1), (1, .sipush 9999, 3), (4, .if_icmp .gt 25, 3), (7, .iload_n 1, 1), (8, .aload_n 0, 1), (9, .invokevirtual 22, 3), (12, .ifCond .eq 9, 3), (15, .sipush (-9999), 3), (18, .goto 4, 3), (21, .iconst 1, 1), (22, .if_icmp .lt 7, 3), (25, .iconst 1, 1), (26, .goto 4, 3), (29, .iconst 0, 1), (30, .ireturn, 1)]
set_option maxRecDepth 100000 in
theorem kc11 : chk cX1_hasPrice K11 = true := by decide +kernel
theorem d11 {j pc len : Nat} {i : Instr} (h : K11[j]? = some (pc, i, len)) : decode (mB 11) pc = .ok (i, len) := by
  unfold mB
  rw [mX_11]
  exact chk_at kc11 j h
def K12 : List (Nat × Instr × Nat) := [(0, .aload_n 0, 1), (1, .getfield 15, 3), (4, .iload_n 1, 1), (5, .if_icmp .eq 11, 3), (8, .aload_n 0, 1), (9, .getfield 19, 3), (12, .iload_n 1, 1), (13, .if_icmp .ne 7, 3), (16, .iconst 1, 1), (17, .goto 4, 3), (20, .iconst 0, 1), (21, .ireturn, 1)]
set_option maxRecDepth 100000 in
theorem kc12 : chk cX1_hasContract K12 = true := by decide +kernel
theorem d12 {j pc len : Nat} {i : Instr} (h : K12[j]? = some (pc, i, len)) : decode (mB 12) pc = .ok (i, len) := by
  unfold mB
  rw [mX_12]
  exact chk_at kc12 j h
def K13 : List (Nat × Instr × Nat) := [(0, .aload_n 0, 1), (1, .getfield 54, 3), (4, .ifCond .le 23, 3), (7, .iload_n 1, 1), (8, .aload_n 0, 1), (9, .getfield 29, 3), (12, .isub, 1), (13, .invokestatic 57, 3), (16, .aload_n 0, 1), (17, .getfield 54, 3), (20, .if_icmp .le 7, 3), (23, .iconst 1, 1), (24, .goto 4, 3), (27, .iconst 0, 1), (28, .ireturn, 1)]
set_option maxRecDepth 100000 in
theorem kc13 : chk cX1_isBeyondBand K13 = true := by decide +kernel
theorem d13 {j pc len : Nat} {i : Instr} (h : K13[j]? = some (pc, i, len)) : decode (mB 13) pc = .ok (i, len) := by
  unfold mB
  rw [mX_13]
  exact chk_at kc13 j h
def K14 : List (Nat × Instr × Nat) := [(0, .aload_n 0, 1), (1, .getfield 45, 3), (4, .istore 4, 2), (6, .aload_n 0, 1), (7, .iload_n 1, 1), (8, .putfield 45, 3), (11, .aload_n 0, 1), (12, .iload_n 2, 1), (13, .putfield 48, 3), (16, .aload_n 0, 1), (17, .iload_n 3, 1), (18, .putfield 51, 3), (21, .iload 4, 2), (23, .ireturn, 1)]
set_option maxRecDepth 100000 in
theorem kc14 : chk cX1_changeRule K14 = true := by decide +kernel
theorem d14 {j pc len : Nat} {i : Instr} (h : K14[j]? = some (pc, i, len)) : decode (mB 14) pc = .ok (i, len) := by
  unfold mB
  rw [mX_14]
  exact chk_at kc14 j h
def K15 : List (Nat × Instr × Nat) := [(0, .aload_n 0, 1), (1, .getfield 54, 3), (4, .istore_n 2, 1), (5, .aload_n 0, 1), (6, .iload_n 1, 1), (7, .putfield 54, 3), (10, .iload_n 2, 1), (11, .ireturn, 1)]
set_option maxRecDepth 100000 in
theorem kc15 : chk cX1_changeBand K15 = true := by decide +kernel
theorem d15 {j pc len : Nat} {i : Instr} (h : K15[j]? = some (pc, i, len)) : decode (mB 15) pc = .ok (i, len) := by
  unfold mB
  rw [mX_15]
  exact chk_at kc15 j h
def K16 : List (Nat × Instr × Nat) := [(0, .aload_n 0, 1), (1, .invokespecial 3, 3), (4, .aload_n 0, 1), (5, .iconst 4, 1), (6, .anewarray 9, 3), (9, .putfield 11, 3), (12, .aload_n 0, 1), (13, .iconst 4, 1), (14, .iconst 4, 1), (15, .multianewarray 17 2, 4), (19, .putfield 19, 3), (22, .aload_n 0, 1), (23, .aload_n 1, 1), (24, .putfield 22, 3), (27, .aload_n 0, 1), (28, .aload_n 2, 1), (29, .putfield 26, 3), (32, .iconst 0, 1), (33, .istore_n 3, 1), (34, .iload_n 3, 1), (35, .aload_n 0, 1), (36, .getfield 11, 3), (39, .arraylength, 1), (40, .if_icmp .ge 22, 3), (43, .aload_n 0, 1), (44, .getfield 11, 3), (47, .iload_n 3, 1), (48, .new 9, 3), (51, .dup, 1), (52, .invokespecial 30, 3), (55, .aastore, 1), (56, .iinc 3 1, 3), (59, .goto (-25), 3), (62, .return_, 1)]
set_option maxRecDepth 100000 in
theorem kc16 : chk cX2_init K16 = true := by decide +kernel
theorem d16 {j pc len : Nat} {i : Instr} (h : K16[j]? = some (pc, i, len)) : decode (mB 16) pc = .ok (i, len) := by
  unfold mB
  rw [mX_16]
  exact chk_at kc16 j h
def K17 : List (Nat × Instr × Nat) := [(0, .aload_n 0, 1), (1, .getfield 11, 3), (4, .astore_n 1, 1), (5, .aload_n 1, 1), (6, .arraylength, 1), (7, .istore_n 2, 1), (8, .iconst 0, 1), (9, .istore_n 3, 1), (10, .iload_n 3, 1), (11, .iload_n 2, 1), (12, .if_icmp .ge 19, 3), (15, .aload_n 1, 1), (16, .iload_n 3, 1), (17, .aaload, 1), (18, .astore 4, 2), (20, .aload 4, 2), (22, .invokevirtual 31, 3), (25, .iinc 3 1, 3), (28, .goto (-18), 3), (31, .aload_n 0, 1), (32, .getfield 19, 3), (35, .astore_n 1, 1), (36, .aload_n 1, 1), (37, .arraylength, 1), (38, .istore_n 2, 1), (39, .iconst 0, 1), (40, .istore_n 3, 1), (41, .iload_n 3, 1), (42, .iload_n 2, 1), (43, .if_icmp .ge 37, 3), (46, .aload_n 1, 1), (47, .iload_n 3, 1), (48, .aaload, 1), (49, .astore 4, 2), (51, .iconst 0, 1), (52, .istore 5, 2), (54, .iload 5, 2), (56, .aload 4, 2), (58, .arraylength, 1), (59, .if_icmp .ge 15, 3), (62, .aload 4, 2), (64, .iload 5, 2), (66, .iconst 0, 1), (67, .iastore, 1), (68, .iinc 5 1, 3), (71, .goto (-17), 3), (74, .iinc 3 1, 3), (77, .goto (-36), 3), (80, .aload_n 0, 1), (81, .iconst 0, 1), (82, .putfield 34, 3), (85, .aload_n 0, 1), (86, .sipush 500, 3), (89, .putfield 38, 3), (92, .aload_n 0, 1), (93, .ldc 41, 2), (95, .putfield 42, 3), (98, .return_, 1)]
set_option maxRecDepth 100000 in
theorem kc17 : chk cX2_restore K17 = true := by decide +kernel
theorem d17 {j pc len : Nat} {i : Instr} (h : K17[j]? = some (pc, i, len)) : decode (mB 17) pc = .ok (i, len) := by
  unfold mB
  rw [mX_17]
  exact chk_at kc17 j h
def K18 : List (Nat × Instr × Nat) := [(0, .aload_n 0, 1), (1, .getfield 11, 3), (4, .iload_n 1, 1), (5, .ifCond .lt 16, 3), (8, .iload_n 1, 1), (9, .aload_n 0, 1), (10, .getfield 11, 3), (13, .arraylength, 1), (14, .if_icmp .ge 7, 3), (17, .iload_n 1, 1), (18, .goto 4, 3), (21, .iconst 0, 1), (22, .aaload, 1), (23, .areturn, 1)]
set_option maxRecDepth 100000 in
theorem kc18 : chk cX2_memberAt K18 = true := by decide +kernel
theorem d18 {j pc len : Nat} {i : Instr} (h : K18[j]? = some (pc, i, len)) : decode (mB 18) pc = .ok (i, len) := by
  unfold mB
  rw [mX_18]
  exact chk_at kc18 j h
def K19 : List (Nat × Instr × Nat) := [(0, .aload_n 0, 1), (1, .getfield 26, 3), (4, .iconst 2, 1), (5, .iload_n 1, 1), (6, .imul, 1), (7, .invokevirtual 45, 3), (10, .areturn, 1)]
set_option maxRecDepth 100000 in
theorem kc19 : chk cX2_lowerOf K19 = true := by decide +kernel
theorem d19 {j pc len : Nat} {i : Instr} (h : K19[j]? = some (pc, i, len)) : decode (mB 19) pc = .ok (i, len) := by
  unfold mB
  rw [mX_19]
  exact chk_at kc19 j h
def K20 : List (Nat × Instr × Nat) := [(0, .aload_n 0, 1), (1, .getfield 26, 3), (4, .iconst 2, 1), (5, .iload_n 1, 1), (6, .imul, 1), (7, .iconst 1, 1), (8, .iadd, 1), (9, .invokevirtual 45, 3), (12, .areturn, 1)]
set_option maxRecDepth 100000 in
theorem kc20 : chk cX2_upperOf K20 = true := by decide +kernel
theorem d20 {j pc len : Nat} {i : Instr} (h : K20[j]? = some (pc, i, len)) : decode (mB 20) pc = .ok (i, len) := by
  unfold mB
  rw [mX_20]
  exact chk_at kc20 j h
def K21 : List (Nat × Instr × Nat) := [(0, .aload_n 0, 1), (1, .iload_n 1, 1), (2, .invokevirtual 51, 3), (5, .astore_n 3, 1), (6, .iload_n 2, 1), (7, .tableswitch 85 0 5 #[37, 47, 53, 67, 73, 79], 37), (44, .aload_n 0, 1), (45, .iload_n 1, 1), (46, .aload_n 3, 1), (47, .getfield 55, 3), (50, .invokevirtual 58, 3), (53, .lreturn, 1), (54, .aload_n 0, 1), (55, .iload_n 1, 1), (56, .invokevirtual 62, 3), (59, .lreturn, 1), (60, .aload_n 0, 1), (61, .iload_n 1, 1), (62, .aload_n 3, 1), (63, .getfield 66, 3), (66, .aload_n 3, 1), (67, .getfield 55, 3), (70, .invokevirtual 69, 3), (73, .lreturn, 1), (74, .aload_n 3, 1), (75, .getfield 66, 3), (78, .i2l, 1), (79, .lreturn, 1), (80, .aload_n 3, 1), (81, .getfield 55, 3), (84, .i2l, 1), (85, .lreturn, 1), (86, .aload_n 3, 1), (87, .getfield 73, 3), (90, .i2l, 1), (91, .lreturn, 1), (92, .aload_n 3, 1), (93, .getfield 76, 3), (96, .ifCond .eq 7, 3), (99, .lconst 1, 1), (100, .goto 4, 3), (103, .lconst 0, 1), (104, .lreturn, 1)]
set_option maxRecDepth 100000 in
theorem kc21 : chk cX2_tell K21 = true := by decide +kernel
theorem d21 {j pc len : Nat} {i : Instr} (h : K21[j]? = some (pc, i, len)) : decode (mB 21) pc = .ok (i, len) := by
  unfold mB
  rw [mX_21]
  exact chk_at kc21 j h
def K22 : List (Nat × Instr × Nat) := [(0, .aload_n 0, 1), (1, .getfield 26, 3), (4, .iconst 2, 1), (5, .iload_n 1, 1), (6, .imul, 1), (7, .invokevirtual 45, 3), (10, .astore_n 3, 1), (11, .aload_n 0, 1), (12, .getfield 26, 3), (15, .iconst 2, 1), (16, .iload_n 1, 1), (17, .imul, 1), (18, .iconst 1, 1), (19, .iadd, 1), (20, .invokevirtual 45, 3), (23, .astore 4, 2), (25, .aload_n 3, 1), (26, .iload_n 2, 1), (27, .invokevirtual 80, 3), (30, .i2l, 1), (31, .aload 4, 2), (33, .iload_n 2, 1), (34, .invokevirtual 80, 3), (37, .i2l, 1), (38, .ladd, 1), (39, .lreturn, 1)]
set_option maxRecDepth 100000 in
theorem kc22 : chk cX2_netOf K22 = true := by decide +kernel
theorem d22 {j pc len : Nat} {i : Instr} (h : K22[j]? = some (pc, i, len)) : decode (mB 22) pc = .ok (i, len) := by
  unfold mB
  rw [mX_22]
  exact chk_at kc22 j h
def K23 : List (Nat × Instr × Nat) := [(0, .iload_n 1, 1), (1, .ifCond .lt 12, 3), (4, .iload_n 1, 1), (5, .aload_n 0, 1), (6, .getfield 19, 3), (9, .arraylength, 1), (10, .if_icmp .lt 5, 3), (13, .iconst 0, 1), (14, .ireturn, 1), (15, .aload_n 0, 1), (16, .getfield 19, 3), (19, .iload_n 1, 1), (20, .aaload, 1), (21, .astore_n 3, 1), (22, .iload_n 2, 1), (23, .ifCond .lt 15, 3), (26, .iload_n 2, 1), (27, .aload_n 3, 1), (28, .arraylength, 1), (29, .if_icmp .ge 9, 3), (32, .aload_n 3, 1), (33, .iload_n 2, 1), (34, .iaload, 1), (35, .goto 4, 3), (38, .iconst 0, 1), (39, .ireturn, 1)]
set_option maxRecDepth 100000 in
theorem kc23 : chk cX2_moveOf K23 = true := by decide +kernel
theorem d23 {j pc len : Nat} {i : Instr} (h : K23[j]? = some (pc, i, len)) : decode (mB 23) pc = .ok (i, len) := by
  unfold mB
  rw [mX_23]
  exact chk_at kc23 j h
def K24 : List (Nat × Instr × Nat) := [(0, .lconst 0, 1), (1, .lstore_n 3, 1), (2, .iconst 0, 1), (3, .istore 5, 2), (5, .iload 5, 2), (7, .iconst 4, 1), (8, .if_icmp .ge 67, 3), (11, .iload_n 2, 1), (12, .i2l, 1), (13, .aload_n 0, 1), (14, .iload 5, 2), (16, .iconst 1, 1), (17, .invokevirtual 86, 3), (20, .i2l, 1), (21, .lmul, 1), (22, .lstore 6, 2), (24, .iconst 0, 1), (25, .istore 8, 2), (27, .iload 8, 2), (29, .iconst 4, 1), (30, .if_icmp .ge 31, 3), (33, .lload 6, 2), (35, .aload_n 0, 1), (36, .iload_n 1, 1), (37, .iload 8, 2), (39, .invokevirtual 90, 3), (42, .aload_n 0, 1), (43, .iload 5, 2), (45, .iload 8, 2), (47, .invokevirtual 86, 3), (50, .i2l, 1), (51, .lmul, 1), (52, .ladd, 1), (53, .lstore 6, 2), (55, .iinc 8 1, 3), (58, .goto (-31), 3), (61, .lload_n 3, 1), (62, .lload 6, 2), (64, .lneg, 1), (65, .invokestatic 93, 3), (68, .lstore_n 3, 1), (69, .iinc 5 1, 3), (72, .goto (-67), 3), (75, .iconst 0, 1), (76, .istore 5, 2), (78, .iload 5, 2), (80, .iconst 4, 1), (81, .if_icmp .ge 34, 3), (84, .lload_n 3, 1), (85, .ldc2_w 99, 3), (88, .lconst 0, 1), (89, .aload_n 0, 1), (90, .iload_n 1, 1), (91, .iload 5, 2), (93, .invokevirtual 90, 3), (96, .invokestatic 101, 3), (99, .ldc2_w 105, 3), (102, .lsub, 1), (103, .invokestatic 93, 3), (106, .lmul, 1), (107, .ladd, 1), (108, .lstore_n 3, 1), (109, .iinc 5 1, 3), (112, .goto (-34), 3), (115, .lload_n 3, 1), (116, .lreturn, 1)]
set_option maxRecDepth 100000 in
theorem kc24 : chk cX2_riskOf K24 = true := by decide +kernel
theorem d24 {j pc len : Nat} {i : Instr} (h : K24[j]? = some (pc, i, len)) : decode (mB 24) pc = .ok (i, len) := by
  unfold mB
  rw [mX_24]
  exact chk_at kc24 j h
def K25 : List (Nat × Instr × Nat) := [(0, .lconst 0, 1), (1, .lstore_n 2, 1), (2, .iconst 0, 1), (3, .istore 4, 2), (5, .iload 4, 2), (7, .iconst 4, 1), (8, .if_icmp .ge 33, 3), (11, .lload_n 2, 1), (12, .aload_n 0, 1), (13, .iload_n 1, 1), (14, .iload 4, 2), (16, .invokevirtual 90, 3), (19, .aload_n 0, 1), (20, .getfield 22, 3), (23, .iload 4, 2), (25, .invokevirtual 107, 3), (28, .getfield 113, 3), (31, .i2l, 1), (32, .lmul, 1), (33, .ladd, 1), (34, .lstore_n 2, 1), (35, .iinc 4 1, 3), (38, .goto (-33), 3), (41, .lload_n 2, 1), (42, .lreturn, 1)]
set_option maxRecDepth 100000 in
theorem kc25 : chk cX2_worthOf K25 = true := by decide +kernel
theorem d25 {j pc len : Nat} {i : Instr} (h : K25[j]? = some (pc, i, len)) : decode (mB 25) pc = .ok (i, len) := by
  unfold mB
  rw [mX_25]
  exact chk_at kc25 j h
def K26 : List (Nat × Instr × Nat) := [(0, .aload_n 0, 1), (1, .iload_n 1, 1), (2, .invokevirtual 118, 3), (5, .getfield 121, 3), (8, .aload_n 0, 1), (9, .iload_n 1, 1), (10, .invokevirtual 125, 3), (13, .getfield 121, 3), (16, .ladd, 1), (17, .aload_n 0, 1), (18, .iload_n 1, 1), (19, .invokevirtual 128, 3), (22, .ladd, 1), (23, .lreturn, 1)]
set_option maxRecDepth 100000 in
theorem kc26 : chk cX2_valueOf K26 = true := by decide +kernel
theorem d26 {j pc len : Nat} {i : Instr} (h : K26[j]? = some (pc, i, len)) : decode (mB 26) pc = .ok (i, len) := by
  unfold mB
  rw [mX_26]
  exact chk_at kc26 j h
def K27 : List (Nat × Instr × Nat) := [(0, .iload_n 3, 1), (1, .i2l, 1), (2, .aload_n 0, 1), (3, .getfield 22, 3), (6, .iconst 1, 1), (7, .invokevirtual 107, 3), (10, .getfield 113, 3), (13, .i2l, 1), (14, .lmul, 1), (15, .bipush 100, 2), (17, .aload_n 0, 1), (18, .getfield 34, 3), (21, .isub, 1), (22, .i2l, 1), (23, .lmul, 1), (24, .ldc2_w 131, 3), (27, .invokestatic 133, 3), (30, .lstore 4, 2), (32, .lconst 0, 1), (33, .aload_n 0, 1), (34, .iload_n 1, 1), (35, .iload_n 3, 1), (36, .invokevirtual 58, 3), (39, .aload_n 0, 1), (40, .iload_n 1, 1), (41, .invokevirtual 62, 3), (44, .lsub, 1), (45, .iload_n 2, 1), (46, .i2l, 1), (47, .lsub, 1), (48, .lload 4, 2), (50, .lsub, 1), (51, .invokestatic 93, 3), (54, .lreturn, 1)]
set_option maxRecDepth 100000 in
theorem kc27 : chk cX2_callOf K27 = true := by decide +kernel
theorem d27 {j pc len : Nat} {i : Instr} (h : K27[j]? = some (pc, i, len)) : decode (mB 27) pc = .ok (i, len) := by
  unfold mB
  rw [mX_27]
  exact chk_at kc27 j h
def K28 : List (Nat × Instr × Nat) := [(0, .aload_n 0, 1), (1, .iload_n 1, 1), (2, .invokevirtual 51, 3), (5, .astore 4, 2), (7, .aload 4, 2), (9, .getfield 66, 3), (12, .iload_n 2, 1), (13, .iadd, 1), (14, .istore 5, 2), (16, .aload 4, 2), (18, .getfield 55, 3), (21, .iload_n 3, 1), (22, .iadd, 1), (23, .istore 6, 2), (25, .aload 4, 2), (27, .getfield 76, 3), (30, .ifCond .ne 13, 3), (33, .iload 5, 2), (35, .ifCond .lt 8, 3), (38, .iload 6, 2), (40, .ifCond .ge 5, 3), (43, .iconst 0, 1), (44, .ireturn, 1), (45, .iload_n 2, 1), (46, .ifCond .lt 7, 3), (49, .iload_n 3, 1), (50, .ifCond .ge 17, 3), (53, .aload_n 0, 1), (54, .iload_n 1, 1), (55, .iload 5, 2), (57, .iload 6, 2), (59, .invokevirtual 69, 3), (62, .lconst 0, 1), (63, .lcmp, 1), (64, .ifCond .ne 7, 3), (67, .iconst 1, 1), (68, .goto 4, 3), (71, .iconst 0, 1), (72, .ireturn, 1)]
set_option maxRecDepth 100000 in
theorem kc28 : chk cX2_canPay K28 = true := by decide +kernel
theorem d28 {j pc len : Nat} {i : Instr} (h : K28[j]? = some (pc, i, len)) : decode (mB 28) pc = .ok (i, len) := by
  unfold mB
  rw [mX_28]
  exact chk_at kc28 j h
def K29 : List (Nat × Instr × Nat) := [(0, .aload_n 0, 1), (1, .iload_n 1, 1), (2, .invokevirtual 51, 3), (5, .astore 4, 2), (7, .aload 4, 2), (9, .dup, 1), (10, .getfield 66, 3), (13, .iload_n 2, 1), (14, .iadd, 1), (15, .putfield 66, 3), (18, .aload 4, 2), (20, .dup, 1), (21, .getfield 55, 3), (24, .iload_n 3, 1), (25, .iadd, 1), (26, .putfield 55, 3), (29, .aload_n 0, 1), (30, .iload_n 1, 1), (31, .aload 4, 2), (33, .getfield 66, 3), (36, .aload 4, 2), (38, .getfield 55, 3), (41, .invokevirtual 69, 3), (44, .l2i, 1), (45, .ireturn, 1)]
set_option maxRecDepth 100000 in
theorem kc29 : chk cX2_bring K29 = true := by decide +kernel
theorem d29 {j pc len : Nat} {i : Instr} (h : K29[j]? = some (pc, i, len)) : decode (mB 29) pc = .ok (i, len) := by
  unfold mB
  rw [mX_29]
  exact chk_at kc29 j h
def K30 : List (Nat × Instr × Nat) := [(0, .aload_n 0, 1), (1, .iload_n 1, 1), (2, .iload_n 2, 1), (3, .invokevirtual 86, 3), (6, .istore 4, 2), (8, .iload_n 1, 1), (9, .ifCond .lt 36, 3), (12, .iload_n 1, 1), (13, .aload_n 0, 1), (14, .getfield 19, 3), (17, .arraylength, 1), (18, .if_icmp .ge 27, 3), (21, .aload_n 0, 1), (22, .getfield 19, 3), (25, .iload_n 1, 1), (26, .aaload, 1), (27, .astore 5, 2), (29, .iload_n 2, 1), (30, .ifCond .lt 15, 3), (33, .iload_n 2, 1), (34, .aload 5, 2), (36, .arraylength, 1), (37, .if_icmp .ge 8, 3), (40, .aload 5, 2), (42, .iload_n 2, 1), (43, .iload_n 3, 1), (44, .iastore, 1), (45, .iload 4, 2), (47, .ireturn, 1)]
set_option maxRecDepth 100000 in
theorem kc30 : chk cX2_changeMove K30 = true := by decide +kernel
theorem d30 {j pc len : Nat} {i : Instr} (h : K30[j]? = some (pc, i, len)) : decode (mB 30) pc = .ok (i, len) := by
  unfold mB
  rw [mX_30]
  exact chk_at kc30 j h
def K31 : List (Nat × Instr × Nat) := [(0, .aload_n 0, 1), (1, .getfield 34, 3), (4, .istore_n 2, 1), (5, .aload_n 0, 1), (6, .iload_n 1, 1), (7, .putfield 34, 3), (10, .iload_n 2, 1), (11, .ireturn, 1)]
set_option maxRecDepth 100000 in
theorem kc31 : chk cX2_changeHaircut K31 = true := by decide +kernel
theorem d31 {j pc len : Nat} {i : Instr} (h : K31[j]? = some (pc, i, len)) : decode (mB 31) pc = .ok (i, len) := by
  unfold mB
  rw [mX_31]
  exact chk_at kc31 j h
def K32 : List (Nat × Instr × Nat) := [(0, .aload_n 0, 1), (1, .iload_n 1, 1), (2, .invokevirtual 51, 3), (5, .astore_n 3, 1), (6, .aload_n 3, 1), (7, .getfield 73, 3), (10, .istore 4, 2), (12, .aload_n 3, 1), (13, .iload_n 2, 1), (14, .putfield 73, 3), (17, .iload 4, 2), (19, .ireturn, 1)]
set_option maxRecDepth 100000 in
theorem kc32 : chk cX2_changeFund K32 = true := by decide +kernel
theorem d32 {j pc len : Nat} {i : Instr} (h : K32[j]? = some (pc, i, len)) : decode (mB 32) pc = .ok (i, len) := by
  unfold mB
  rw [mX_32]
  exact chk_at kc32 j h
def K33 : List (Nat × Instr × Nat) := [(0, .aload_n 0, 1), (1, .iload_n 1, 1), (2, .invokevirtual 51, 3), (5, .astore_n 2, 1), (6, .aload_n 0, 1), (7, .getfield 42, 3), (10, .ldc 41, 2), (12, .if_icmp .ne 32, 3), (15, .aload_n 2, 1), (16, .getfield 76, 3), (19, .ifCond .ne 25, 3), (22, .aload_n 0, 1), (23, .iload_n 1, 1), (24, .aload_n 2, 1), (25, .getfield 66, 3), (28, .aload_n 2, 1), (29, .getfield 55, 3), (32, .invokevirtual 69, 3), (35, .lconst 0, 1), (36, .lcmp, 1), (37, .ifCond .le 7, 3), (40, .iconst 1, 1), (41, .goto 4, 3), (44, .iconst 0, 1), (45, .ireturn, 1)]
set_option maxRecDepth 100000 in
theorem kc33 : chk cX2_canFail K33 = true := by decide +kernel
theorem d33 {j pc len : Nat} {i : Instr} (h : K33[j]? = some (pc, i, len)) : decode (mB 33) pc = .ok (i, len) := by
  unfold mB
  rw [mX_33]
  exact chk_at kc33 j h
def K34 : List (Nat × Instr × Nat) := [(0, .aload_n 0, 1), (1, .iload_n 1, 1), (2, .invokevirtual 51, 3), (5, .iconst 1, 1), (6, .putfield 76, 3), (9, .aload_n 0, 1), (10, .iload_n 1, 1), (11, .putfield 42, 3), (14, .return_, 1)]
set_option maxRecDepth 100000 in
theorem kc34 : chk cX2_fall K34 = true := by decide +kernel
theorem d34 {j pc len : Nat} {i : Instr} (h : K34[j]? = some (pc, i, len)) : decode (mB 34) pc = .ok (i, len) := by
  unfold mB
  rw [mX_34]
  exact chk_at kc34 j h
def K35 : List (Nat × Instr × Nat) := [(0, .aload_n 0, 1), (1, .iload_n 1, 1), (2, .invokevirtual 51, 3), (5, .astore_n 3, 1), (6, .aload_n 3, 1), (7, .iconst 1, 1), (8, .putfield 136, 3), (11, .aload_n 3, 1), (12, .iload_n 2, 1), (13, .putfield 139, 3), (16, .iconst 0, 1), (17, .istore 4, 2), (19, .aload_n 0, 1), (20, .getfield 11, 3), (23, .astore 5, 2), (25, .aload 5, 2), (27, .arraylength, 1), (28, .istore 6, 2), (30, .iconst 0, 1), (31, .istore 7, 2), (33, .iload 7, 2), (35, .iload 6, 2), (37, .if_icmp .ge 27, 3), (40, .aload 5, 2), (42, .iload 7, 2), (44, .aaload, 1), (45, .astore 8, 2), (47, .aload 8, 2), (49, .getfield 136, 3), (52, .ifCond .eq 6, 3), (55, .iinc 4 1, 3), (58, .iinc 7 1, 3), (61, .goto (-28), 3), (64, .iload 4, 2), (66, .ireturn, 1)]
set_option maxRecDepth 100000 in
theorem kc35 : chk cX2_takeBid K35 = true := by decide +kernel
theorem d35 {j pc len : Nat} {i : Instr} (h : K35[j]? = some (pc, i, len)) : decode (mB 35) pc = .ok (i, len) := by
  unfold mB
  rw [mX_35]
  exact chk_at kc35 j h
def K36 : List (Nat × Instr × Nat) := [(0, .ldc 41, 2), (2, .istore_n 1, 1), (3, .iconst 0, 1), (4, .istore_n 2, 1), (5, .iload_n 2, 1), (6, .iconst 4, 1), (7, .if_icmp .ge 45, 3), (10, .aload_n 0, 1), (11, .iload_n 2, 1), (12, .invokevirtual 51, 3), (15, .astore_n 3, 1), (16, .aload_n 3, 1), (17, .getfield 136, 3), (20, .ifCond .eq 26, 3), (23, .iload_n 1, 1), (24, .ldc 41, 2), (26, .if_icmp .eq 18, 3), (29, .aload_n 3, 1), (30, .getfield 139, 3), (33, .aload_n 0, 1), (34, .iload_n 1, 1), (35, .invokevirtual 51, 3), (38, .getfield 139, 3), (41, .if_icmp .le 5, 3), (44, .iload_n 2, 1), (45, .istore_n 1, 1), (46, .iinc 2 1, 3), (49, .goto (-44), 3), (52, .iload_n 1, 1), (53, .ireturn, 1)]
set_option maxRecDepth 100000 in
theorem kc36 : chk cX2_highestBidder K36 = true := by decide +kernel
theorem d36 {j pc len : Nat} {i : Instr} (h : K36[j]? = some (pc, i, len)) : decode (mB 36) pc = .ok (i, len) := by
  unfold mB
  rw [mX_36]
  exact chk_at kc36 j h
def K37 : List (Nat × Instr × Nat) := [(0, .aload_n 0, 1), (1, .getfield 42, 3), (4, .ldc 41, 2), (6, .if_icmp .ne 5, 3), (9, .iconst 0, 1), (10, .ireturn, 1), (11, .aload_n 0, 1), (12, .invokevirtual 142, 3), (15, .istore_n 1, 1), (16, .aload_n 0, 1), (17, .iload_n 1, 1), (18, .invokevirtual 146, 3), (21, .aload_n 0, 1), (22, .iload_n 1, 1), (23, .invokevirtual 150, 3), (26, .aload_n 0, 1), (27, .getfield 11, 3), (30, .astore_n 2, 1), (31, .aload_n 2, 1), (32, .arraylength, 1), (33, .istore_n 3, 1), (34, .iconst 0, 1), (35, .istore 4, 2), (37, .iload 4, 2), (39, .iload_n 3, 1), (40, .if_icmp .ge 20, 3), (43, .aload_n 2, 1), (44, .iload 4, 2), (46, .aaload, 1), (47, .astore 5, 2), (49, .aload 5, 2), (51, .invokevirtual 153, 3), (54, .iinc 4 1, 3), (57, .goto (-20), 3), (60, .aload_n 0, 1), (61, .ldc 41, 2), (63, .putfield 42, 3), (66, .aload_n 0, 1), (67, .getfield 156, 3), (70, .ireturn, 1)]
set_option maxRecDepth 100000 in
theorem kc37 : chk cX2_closePortfolio K37 = true := by decide +kernel
theorem d37 {j pc len : Nat} {i : Instr} (h : K37[j]? = some (pc, i, len)) : decode (mB 37) pc = .ok (i, len) := by
  unfold mB
  rw [mX_37]
  exact chk_at kc37 j h
def K38 : List (Nat × Instr × Nat) := [(0, .aload_n 0, 1), (1, .aload_n 0, 1), (2, .getfield 42, 3), (5, .invokevirtual 118, 3), (8, .astore_n 2, 1), (9, .aload_n 0, 1), (10, .aload_n 0, 1), (11, .getfield 42, 3), (14, .invokevirtual 125, 3), (17, .astore_n 3, 1), (18, .iload_n 1, 1), (19, .ldc 41, 2), (21, .if_icmp .ne 15, 3), (24, .aload_n 0, 1), (25, .getfield 26, 3), (28, .bipush 8, 2), (30, .invokevirtual 45, 3), (33, .goto 8, 3), (36, .aload_n 0, 1), (37, .iload_n 1, 1), (38, .invokevirtual 118, 3), (41, .astore 4, 2), (43, .iload_n 1, 1), (44, .ldc 41, 2), (46, .if_icmp .ne 14, 3), (49, .aload_n 0, 1), (50, .aload_n 0, 1), (51, .getfield 42, 3), (54, .invokevirtual 128, 3), (57, .goto 12, 3), (60, .aload_n 0, 1), (61, .iload_n 1, 1), (62, .invokevirtual 51, 3), (65, .getfield 139, 3), (68, .i2l, 1), (69, .lstore 5, 2), (71, .iconst 0, 1), (72, .istore 7, 2), (74, .iload 7, 2), (76, .iconst 4, 1), (77, .if_icmp .ge 53, 3), (80, .aload_n 0, 1), (81, .aload_n 0, 1), (82, .getfield 42, 3), (85, .iload 7, 2), (87, .invokevirtual 90, 3), (90, .l2i, 1), (91, .istore 8, 2), (93, .aload 4, 2), (95, .iload 7, 2), (97, .aload 4, 2), (99, .iload 7, 2), (101, .invokevirtual 80, 3), (104, .iload 8, 2), (106, .iadd, 1), (107, .invokevirtual 159, 3), (110, .aload_n 2, 1), (111, .iload 7, 2), (113, .iconst 0, 1), (114, .invokevirtual 159, 3), (117, .aload_n 3, 1), (118, .iload 7, 2), (120, .iconst 0, 1), (121, .invokevirtual 159, 3), (124, .iinc 7 1, 3), (127, .goto (-53), 3), (130, .aload 4, 2), (132, .dup, 1), (133, .getfield 121, 3), (136, .lload 5, 2), (138, .lsub, 1), (139, .putfield 121, 3), (142, .aload_n 2, 1), (143, .dup, 1), (144, .getfield 121, 3), (147, .aload_n 3, 1), (148, .getfield 121, 3), (151, .lload 5, 2), (153, .ladd, 1), (154, .ladd, 1), (155, .putfield 121, 3), (158, .aload_n 3, 1), (159, .lconst 0, 1), (160, .putfield 121, 3), (163, .return_, 1)]
set_option maxRecDepth 100000 in
theorem kc38 : chk cX2_handOver K38 = true := by decide +kernel
theorem d38 {j pc len : Nat} {i : Instr} (h : K38[j]? = some (pc, i, len)) : decode (mB 38) pc = .ok (i, len) := by
  unfold mB
  rw [mX_38]
  exact chk_at kc38 j h
def K39 : List (Nat × Instr × Nat) := [(0, .aload_n 0, 1), (1, .aload_n 0, 1), (2, .getfield 42, 3), (5, .invokevirtual 51, 3), (8, .astore_n 2, 1), (9, .aload_n 0, 1), (10, .aload_n 0, 1), (11, .getfield 42, 3), (14, .invokevirtual 118, 3), (17, .astore_n 3, 1), (18, .aload_n 0, 1), (19, .lconst 0, 1), (20, .aload_n 3, 1), (21, .getfield 121, 3), (24, .lneg, 1), (25, .invokestatic 93, 3), (28, .putfield 163, 3), (31, .aload_n 0, 1), (32, .iconst 0, 1), (33, .putfield 156, 3), (36, .aload_n 3, 1), (37, .dup, 1), (38, .getfield 121, 3), (41, .aload_n 0, 1), (42, .getfield 163, 3), (45, .ladd, 1), (46, .putfield 121, 3), (49, .aload_n 0, 1), (50, .getfield 11, 3), (53, .astore 4, 2), (55, .aload 4, 2), (57, .arraylength, 1), (58, .istore 5, 2), (60, .iconst 0, 1), (61, .istore 6, 2), (63, .iload 6, 2), (65, .iload 5, 2), (67, .if_icmp .ge 26, 3), (70, .aload 4, 2), (72, .iload 6, 2), (74, .aaload, 1), (75, .astore 7, 2), (77, .aload 7, 2), (79, .aload 7, 2), (81, .getfield 73, 3), (84, .putfield 166, 3), (87, .iinc 6 1, 3), (90, .goto (-27), 3), (93, .aload_n 2, 1), (94, .dup, 1), (95, .getfield 66, 3), (98, .aload_n 0, 1), (99, .iconst 1, 1), (100, .aload_n 2, 1), (101, .getfield 66, 3), (104, .i2l, 1), (105, .invokevirtual 169, 3), (108, .l2i, 1), (109, .isub, 1), (110, .putfield 66, 3), (113, .aload_n 3, 1), (114, .dup, 1), (115, .getfield 121, 3), (118, .aload_n 0, 1), (119, .aload_n 2, 1), (120, .invokevirtual 173, 3), (123, .ladd, 1), (124, .putfield 121, 3), (127, .aload_n 2, 1), (128, .dup, 1), (129, .getfield 73, 3), (132, .aload_n 0, 1), (133, .iconst 3, 1), (134, .aload_n 2, 1), (135, .getfield 73, 3), (138, .i2l, 1), (139, .invokevirtual 169, 3), (142, .l2i, 1), (143, .isub, 1), (144, .putfield 73, 3), (147, .aload_n 0, 1), (148, .dup, 1), (149, .getfield 38, 3), (152, .aload_n 0, 1), (153, .iconst 4, 1), (154, .aload_n 0, 1), (155, .getfield 38, 3), (158, .i2l, 1), (159, .invokevirtual 169, 3), (162, .l2i, 1), (163, .isub, 1), (164, .putfield 38, 3), (167, .iconst 5, 1), (168, .istore 4, 2), (170, .iload 4, 2), (172, .bipush 7, 2), (174, .if_icmp .gt 16, 3), (177, .aload_n 0, 1), (178, .iload 4, 2), (180, .iload_n 1, 1), (181, .invokevirtual 177, 3), (184, .iinc 4 1, 3), (187, .goto (-17), 3), (190, .aload_n 0, 1), (191, .getfield 26, 3), (194, .bipush 8, 2), (196, .invokevirtual 45, 3), (199, .dup, 1), (200, .getfield 121, 3), (203, .aload_n 0, 1), (204, .bipush 8, 2), (206, .aload_n 0, 1), (207, .getfield 163, 3), (210, .invokevirtual 169, 3), (213, .lsub, 1), (214, .putfield 121, 3), (217, .return_, 1)]
set_option maxRecDepth 100000 in
theorem kc39 : chk cX2_cover K39 = true := by decide +kernel
theorem d39 {j pc len : Nat} {i : Instr} (h : K39[j]? = some (pc, i, len)) : decode (mB 39) pc = .ok (i, len) := by
  unfold mB
  rw [mX_39]
  exact chk_at kc39 j h
def K40 : List (Nat × Instr × Nat) := [(0, .aload_n 0, 1), (1, .getfield 163, 3), (4, .lload_n 2, 1), (5, .invokestatic 180, 3), (8, .lstore 4, 2), (10, .lload 4, 2), (12, .lconst 0, 1), (13, .lcmp, 1), (14, .ifCond .gt 5, 3), (17, .lconst 0, 1), (18, .lreturn, 1), (19, .aload_n 0, 1), (20, .dup, 1), (21, .getfield 163, 3), (24, .lload 4, 2), (26, .lsub, 1), (27, .putfield 163, 3), (30, .aload_n 0, 1), (31, .iload_n 1, 1), (32, .putfield 156, 3), (35, .lload 4, 2), (37, .lreturn, 1)]
set_option maxRecDepth 100000 in
theorem kc40 : chk cX2_give K40 = true := by decide +kernel
theorem d40 {j pc len : Nat} {i : Instr} (h : K40[j]? = some (pc, i, len)) : decode (mB 40) pc = .ok (i, len) := by
  unfold mB
  rw [mX_40]
  exact chk_at kc40 j h
def K41 : List (Nat × Instr × Nat) := [(0, .aload_n 0, 1), (1, .getfield 22, 3), (4, .iconst 1, 1), (5, .invokevirtual 107, 3), (8, .getfield 113, 3), (11, .istore_n 2, 1), (12, .aload_n 0, 1), (13, .getfield 163, 3), (16, .lconst 0, 1), (17, .lcmp, 1), (18, .ifCond .le 14, 3), (21, .aload_n 1, 1), (22, .getfield 55, 3), (25, .ifCond .le 7, 3), (28, .iload_n 2, 1), (29, .ifCond .gt 5, 3), (32, .lconst 0, 1), (33, .lreturn, 1), (34, .aload_n 0, 1), (35, .getfield 163, 3), (38, .lneg, 1), (39, .iload_n 2, 1), (40, .i2l, 1), (41, .invokestatic 133, 3), (44, .lneg, 1), (45, .lstore_n 3, 1), (46, .aload_n 1, 1), (47, .getfield 55, 3), (50, .i2l, 1), (51, .lload_n 3, 1), (52, .invokestatic 180, 3), (55, .l2i, 1), (56, .istore 5, 2), (58, .iload 5, 2), (60, .i2l, 1), (61, .iload_n 2, 1), (62, .i2l, 1), (63, .lmul, 1), (64, .lstore 6, 2), (66, .aload_n 1, 1), (67, .dup, 1), (68, .getfield 55, 3), (71, .iload 5, 2), (73, .isub, 1), (74, .putfield 55, 3), (77, .aload_n 0, 1), (78, .getfield 26, 3), (81, .bipush 8, 2), (83, .invokevirtual 45, 3), (86, .dup, 1), (87, .getfield 121, 3), (90, .lload 6, 2), (92, .lsub, 1), (93, .putfield 121, 3), (96, .lload 6, 2), (98, .aload_n 0, 1), (99, .iconst 2, 1), (100, .lload 6, 2), (102, .invokevirtual 169, 3), (105, .lsub, 1), (106, .lreturn, 1)]
set_option maxRecDepth 100000 in
theorem kc41 : chk cX2_sellUnits K41 = true := by decide +kernel
theorem d41 {j pc len : Nat} {i : Instr} (h : K41[j]? = some (pc, i, len)) : decode (mB 41) pc = .ok (i, len) := by
  unfold mB
  rw [mX_41]
  exact chk_at kc41 j h
def K42 : List (Nat × Instr × Nat) := [(0, .aload_n 2, 1), (1, .getfield 76, 3), (4, .ifCond .eq 5, 3), (7, .iconst 0, 1), (8, .ireturn, 1), (9, .aload_n 2, 1), (10, .getfield 136, 3), (13, .ifCond .eq 21, 3), (16, .aload_n 0, 1), (17, .iload_n 3, 1), (18, .invokevirtual 51, 3), (21, .getfield 139, 3), (24, .aload_n 2, 1), (25, .getfield 139, 3), (28, .isub, 1), (29, .bipush 100, 2), (31, .if_icmp .le 7, 3), (34, .iconst 1, 1), (35, .goto 4, 3), (38, .iconst 0, 1), (39, .istore 4, 2), (41, .iload_n 1, 1), (42, .bipush 7, 2), (44, .if_icmp .eq 18, 3), (47, .iload 4, 2), (49, .iload_n 1, 1), (50, .iconst 5, 1), (51, .if_icmp .ne 7, 3), (54, .iconst 1, 1), (55, .goto 4, 3), (58, .iconst 0, 1), (59, .if_icmp .ne 7, 3), (62, .iconst 1, 1), (63, .goto 4, 3), (66, .iconst 0, 1), (67, .ireturn, 1)]
set_option maxRecDepth 100000 in
theorem kc42 : chk cX2_givesIn K42 = true := by decide +kernel
theorem d42 {j pc len : Nat} {i : Instr} (h : K42[j]? = some (pc, i, len)) : decode (mB 42) pc = .ok (i, len) := by
  unfold mB
  rw [mX_42]
  exact chk_at kc42 j h
def K43 : List (Nat × Instr × Nat) := [(0, .iload_n 1, 1), (1, .bipush 7, 2), (3, .if_icmp .ne 7, 3), (6, .iconst 1, 1), (7, .goto 4, 3), (10, .iconst 0, 1), (11, .istore_n 3, 1), (12, .aload_n 0, 1), (13, .getfield 11, 3), (16, .astore 4, 2), (18, .aload 4, 2), (20, .arraylength, 1), (21, .istore 5, 2), (23, .iconst 0, 1), (24, .istore 6, 2), (26, .iload 6, 2), (28, .iload 5, 2), (30, .if_icmp .ge 58, 3), (33, .aload 4, 2), (35, .iload 6, 2), (37, .aaload, 1), (38, .astore 7, 2), (40, .iload_n 3, 1), (41, .ifCond .eq 11, 3), (44, .aload 7, 2), (46, .getfield 166, 3), (49, .goto 8, 3), (52, .aload 7, 2), (54, .getfield 73, 3), (57, .istore 8, 2), (59, .aload 7, 2), (61, .aload_n 0, 1), (62, .iload_n 1, 1), (63, .aload 7, 2), (65, .iload_n 2, 1), (66, .invokevirtual 183, 3), (69, .ifCond .eq 9, 3), (72, .iload 8, 2), (74, .i2l, 1), (75, .goto 4, 3), (78, .lconst 0, 1), (79, .putfield 187, 3), (82, .iinc 6 1, 3), (85, .goto (-59), 3), (88, .aload_n 0, 1), (89, .iload_n 1, 1), (90, .invokevirtual 190, 3), (93, .iconst 0, 1), (94, .istore 4, 2), (96, .iload 4, 2), (98, .iconst 4, 1), (99, .if_icmp .ge 59, 3), (102, .aload_n 0, 1), (103, .iload 4, 2), (105, .invokevirtual 51, 3), (108, .astore 5, 2), (110, .iload_n 3, 1), (111, .ifCond .eq 25, 3), (114, .aload_n 0, 1), (115, .iload 4, 2), (117, .invokevirtual 118, 3), (120, .dup, 1), (121, .getfield 121, 3), (124, .aload 5, 2), (126, .getfield 193, 3), (129, .lsub, 1), (130, .putfield 121, 3), (133, .goto 19, 3), (136, .aload 5, 2), (138, .dup, 1), (139, .getfield 73, 3), (142, .aload 5, 2), (144, .getfield 193, 3), (147, .l2i, 1), (148, .isub, 1), (149, .putfield 73, 3), (152, .iinc 4 1, 3), (155, .goto (-59), 3), (158, .return_, 1)]
set_option maxRecDepth 100000 in
theorem kc43 : chk cX2_shareLayer K43 = true := by decide +kernel
theorem d43 {j pc len : Nat} {i : Instr} (h : K43[j]? = some (pc, i, len)) : decode (mB 43) pc = .ok (i, len) := by
  unfold mB
  rw [mX_43]
  exact chk_at kc43 j h
def K44 : List (Nat × Instr × Nat) := [(0, .lconst 0, 1), (1, .lstore_n 2, 1), (2, .aload_n 0, 1), (3, .getfield 11, 3), (6, .astore 4, 2), (8, .aload 4, 2), (10, .arraylength, 1), (11, .istore 5, 2), (13, .iconst 0, 1), (14, .istore 6, 2), (16, .iload 6, 2), (18, .iload 5, 2), (20, .if_icmp .ge 30, 3), (23, .aload 4, 2), (25, .iload 6, 2), (27, .aaload, 1), (28, .astore 7, 2), (30, .lload_n 2, 1), (31, .aload 7, 2), (33, .getfield 187, 3), (36, .ladd, 1), (37, .lstore_n 2, 1), (38, .aload 7, 2), (40, .lconst 0, 1), (41, .putfield 193, 3), (44, .iinc 6 1, 3), (47, .goto (-31), 3), (50, .aload_n 0, 1), (51, .iload_n 1, 1), (52, .lload_n 2, 1), (53, .invokevirtual 169, 3), (56, .lstore 4, 2), (58, .lload 4, 2), (60, .lstore 6, 2), (62, .aload_n 0, 1), (63, .getfield 11, 3), (66, .astore 8, 2), (68, .aload 8, 2), (70, .arraylength, 1), (71, .istore 9, 2), (73, .iconst 0, 1), (74, .istore 10, 2), (76, .iload 10, 2), (78, .iload 9, 2), (80, .if_icmp .ge 47, 3), (83, .aload 8, 2), (85, .iload 10, 2), (87, .aaload, 1), (88, .astore 11, 2), (90, .lload_n 2, 1), (91, .lconst 0, 1), (92, .lcmp, 1), (93, .ifCond .le 28, 3), (96, .aload 11, 2), (98, .lload 4, 2), (100, .aload 11, 2), (102, .getfield 187, 3), (105, .lmul, 1), (106, .lload_n 2, 1), (107, .ldiv, 1), (108, .putfield 193, 3), (111, .lload 6, 2), (113, .aload 11, 2), (115, .getfield 193, 3), (118, .lsub, 1), (119, .lstore 6, 2), (121, .iinc 10 1, 3), (124, .goto (-48), 3), (127, .iconst 0, 1), (128, .istore 8, 2), (130, .iload 8, 2), (132, .iconst 4, 1), (133, .if_icmp .ge 88, 3), (136, .lload 6, 2), (138, .lconst 0, 1), (139, .lcmp, 1), (140, .ifCond .le 81, 3), (143, .aload_n 0, 1), (144, .getfield 11, 3), (147, .astore 9, 2), (149, .aload 9, 2), (151, .arraylength, 1), (152, .istore 10, 2), (154, .iconst 0, 1), (155, .istore 11, 2), (157, .iload 11, 2), (159, .iload 10, 2), (161, .if_icmp .ge 54, 3), (164, .aload 9, 2), (166, .iload 11, 2), (168, .aaload, 1), (169, .astore 12, 2), (171, .lload 6, 2), (173, .lconst 0, 1), (174, .lcmp, 1), (175, .ifCond .le 34, 3), (178, .aload 12, 2), (180, .getfield 193, 3), (183, .aload 12, 2), (185, .getfield 187, 3), (188, .lcmp, 1), (189, .ifCond .ge 20, 3), (192, .aload 12, 2), (194, .dup, 1), (195, .getfield 193, 3), (198, .lconst 1, 1), (199, .ladd, 1), (200, .putfield 193, 3), (203, .lload 6, 2), (205, .lconst 1, 1), (206, .lsub, 1), (207, .lstore 6, 2), (209, .iinc 11 1, 3), (212, .goto (-55), 3), (215, .iinc 8 1, 3), (218, .goto (-88), 3), (221, .return_, 1)]
set_option maxRecDepth 100000 in
theorem kc44 : chk cX2_shareLoss K44 = true := by decide +kernel
theorem d44 {j pc len : Nat} {i : Instr} (h : K44[j]? = some (pc, i, len)) : decode (mB 44) pc = .ok (i, len) := by
  unfold mB
  rw [mX_44]
  exact chk_at kc44 j h
def K45 : List (Nat × Instr × Nat) := [(0, .aload_n 0, 1), (1, .invokespecial 1, 3), (4, .aload_n 0, 1), (5, .aload_n 1, 1), (6, .putfield 7, 3), (9, .aload_n 0, 1), (10, .aload_n 2, 1), (11, .putfield 13, 3), (14, .return_, 1)]
set_option maxRecDepth 100000 in
theorem kc45 : chk cX3_init K45 = true := by decide +kernel
theorem d45 {j pc len : Nat} {i : Instr} (h : K45[j]? = some (pc, i, len)) : decode (mB 45) pc = .ok (i, len) := by
  unfold mB
  rw [mX_45]
  exact chk_at kc45 j h
def K46 : List (Nat × Instr × Nat) := [(0, .aload_n 0, 1), (1, .getfield 7, 3), (4, .iload_n 1, 1), (5, .invokevirtual 17, 3), (8, .astore_n 3, 1), (9, .aload_n 0, 1), (10, .getfield 7, 3), (13, .aload_n 3, 1), (14, .getfield 23, 3), (17, .invokevirtual 17, 3), (20, .astore 4, 2), (22, .aload_n 0, 1), (23, .getfield 7, 3), (26, .aload_n 3, 1), (27, .getfield 29, 3), (30, .invokevirtual 17, 3), (33, .astore 5, 2), (35, .aload_n 3, 1), (36, .getfield 32, 3), (39, .ifCond .ne 19, 3), (42, .aload 4, 2), (44, .getfield 32, 3), (47, .ifCond .ne 11, 3), (50, .aload 5, 2), (52, .getfield 32, 3), (55, .ifCond .eq 5, 3), (58, .iconst 0, 1), (59, .ireturn, 1), (60, .aload_n 0, 1), (61, .getfield 7, 3), (64, .aload_n 3, 1), (65, .iload_n 2, 1), (66, .invokevirtual 36, 3), (69, .astore 6, 2), (71, .aload_n 0, 1), (72, .getfield 7, 3), (75, .aload 4, 2), (77, .iload_n 2, 1), (78, .ifCond .ne 7, 3), (81, .iconst 1, 1), (82, .goto 4, 3), (85, .iconst 0, 1), (86, .invokevirtual 36, 3), (89, .astore 7, 2), (91, .aload_n 0, 1), (92, .getfield 7, 3), (95, .aload 5, 2), (97, .iload_n 2, 1), (98, .invokevirtual 36, 3), (101, .astore 8, 2), (103, .aload 6, 2), (105, .ifnull 13, 3), (108, .aload 7, 2), (110, .ifnull 8, 3), (113, .aload 8, 2), (115, .ifnonnull 5, 3), (118, .iconst 0, 1), (119, .ireturn, 1), (120, .aload 7, 2), (122, .getfield 40, 3), (125, .aload 8, 2), (127, .getfield 40, 3), (130, .isub, 1), (131, .istore 9, 2), (133, .iload_n 2, 1), (134, .ifCond .eq 16, 3), (137, .aload 6, 2), (139, .getfield 40, 3), (142, .iload 9, 2), (144, .if_icmp .ge 18, 3), (147, .goto 13, 3), (150, .aload 6, 2), (152, .getfield 40, 3), (155, .iload 9, 2), (157, .if_icmp .le 5, 3), (160, .iconst 0, 1), (161, .ireturn, 1), (162, .aload 4, 2), (164, .aload 7, 2), (166, .getfield 40, 3), (169, .aload 6, 2), (171, .aload 7, 2), (173, .invokestatic 45, 3), (176, .ifCond .ne 20, 3), (179, .aload 5, 2), (181, .aload 8, 2), (183, .getfield 40, 3), (186, .aload 6, 2), (188, .aload 8, 2), (190, .invokestatic 45, 3), (193, .ifCond .eq 5, 3), (196, .iconst 0, 1), (197, .ireturn, 1), (198, .aload 6, 2), (200, .getfield 49, 3), (203, .aload 7, 2), (205, .getfield 49, 3), (208, .aload 8, 2), (210, .getfield 49, 3), (213, .invokestatic 52, 3), (216, .invokestatic 52, 3), (219, .istore 10, 2), (221, .aload_n 0, 1), (222, .aload 4, 2), (224, .iload_n 2, 1), (225, .aload 6, 2), (227, .aload 7, 2), (229, .aload 7, 2), (231, .getfield 40, 3), (234, .iload 10, 2), (236, .invokevirtual 58, 3), (239, .aload_n 0, 1), (240, .aload 5, 2), (242, .iload_n 2, 1), (243, .ifCond .ne 7, 3), (246, .iconst 1, 1), (247, .goto 4, 3), (250, .iconst 0, 1), (251, .aload 6, 2), (253, .aload 8, 2), (255, .aload 8, 2), (257, .getfield 40, 3), (260, .iload 10, 2), (262, .invokevirtual 58, 3), (265, .aload_n 0, 1), (266, .aload 6, 2), (268, .aload 7, 2), (270, .aload 8, 2), (272, .aconst_null, 1), (273, .iload 10, 2), (275, .invokevirtual 62, 3), (278, .iconst 1, 1), (279, .ireturn, 1)]
set_option maxRecDepth 100000 in
theorem kc46 : chk cX3_makePair K46 = true := by decide +kernel
theorem d46 {j pc len : Nat} {i : Instr} (h : K46[j]? = some (pc, i, len)) : decode (mB 46) pc = .ok (i, len) := by
  unfold mB
  rw [mX_46]
  exact chk_at kc46 j h
def K47 : List (Nat × Instr × Nat) := [(0, .aload_n 0, 1), (1, .getfield 7, 3), (4, .iconst 0, 1), (5, .invokevirtual 17, 3), (8, .astore_n 2, 1), (9, .aload_n 0, 1), (10, .getfield 7, 3), (13, .iconst 1, 1), (14, .invokevirtual 17, 3), (17, .astore_n 3, 1), (18, .aload_n 0, 1), (19, .getfield 7, 3), (22, .iconst 2, 1), (23, .invokevirtual 17, 3), (26, .astore 4, 2), (28, .aload_n 0, 1), (29, .getfield 7, 3), (32, .iconst 4, 1), (33, .invokevirtual 17, 3), (36, .getfield 32, 3), (39, .ifCond .ne 39, 3), (42, .aload_n 0, 1), (43, .getfield 7, 3), (46, .iconst 5, 1), (47, .invokevirtual 17, 3), (50, .getfield 32, 3), (53, .ifCond .ne 25, 3), (56, .aload_n 2, 1), (57, .getfield 32, 3), (60, .ifCond .ne 18, 3), (63, .aload_n 3, 1), (64, .getfield 32, 3), (67, .ifCond .ne 11, 3), (70, .aload 4, 2), (72, .getfield 32, 3), (75, .ifCond .eq 5, 3), (78, .iconst 0, 1), (79, .ireturn, 1), (80, .aload_n 0, 1), (81, .getfield 7, 3), (84, .aload_n 0, 1), (85, .getfield 7, 3), (88, .iconst 4, 1), (89, .invokevirtual 17, 3), (92, .iload_n 1, 1), (93, .invokevirtual 36, 3), (96, .astore 5, 2), (98, .aload_n 0, 1), (99, .getfield 7, 3), (102, .aload_n 0, 1), (103, .getfield 7, 3), (106, .iconst 5, 1), (107, .invokevirtual 17, 3), (110, .iload_n 1, 1), (111, .invokevirtual 36, 3), (114, .astore 6, 2), (116, .aload_n 0, 1), (117, .getfield 7, 3), (120, .aload_n 2, 1), (121, .iload_n 1, 1), (122, .ifCond .ne 7, 3), (125, .iconst 1, 1), (126, .goto 4, 3), (129, .iconst 0, 1), (130, .invokevirtual 36, 3), (133, .astore 7, 2), (135, .aload_n 0, 1), (136, .getfield 7, 3), (139, .aload 4, 2), (141, .iload_n 1, 1), (142, .invokevirtual 36, 3), (145, .astore 8, 2), (147, .aload 5, 2), (149, .ifnull 18, 3), (152, .aload 6, 2), (154, .ifnull 13, 3), (157, .aload 7, 2), (159, .ifnull 8, 3), (162, .aload 8, 2), (164, .ifnonnull 5, 3), (167, .iconst 0, 1), (168, .ireturn, 1), (169, .aload 5, 2), (171, .getfield 40, 3), (174, .aload 6, 2), (176, .getfield 40, 3), (179, .iadd, 1), (180, .istore 9, 2), (182, .aload 7, 2), (184, .getfield 40, 3), (187, .aload 8, 2), (189, .getfield 40, 3), (192, .isub, 1), (193, .istore 10, 2), (195, .iload_n 1, 1), (196, .ifCond .eq 13, 3), (199, .iload 9, 2), (201, .iload 10, 2), (203, .if_icmp .ge 15, 3), (206, .goto 10, 3), (209, .iload 9, 2), (211, .iload 10, 2), (213, .if_icmp .le 5, 3), (216, .iconst 0, 1), (217, .ireturn, 1), (218, .aload 6, 2), (220, .getfield 40, 3), (223, .aload 8, 2), (225, .getfield 40, 3), (228, .iadd, 1), (229, .istore 11, 2), (231, .aload_n 2, 1), (232, .aload 7, 2), (234, .getfield 40, 3), (237, .aload 5, 2), (239, .aload 7, 2), (241, .invokestatic 45, 3), (244, .ifCond .ne 33, 3), (247, .aload_n 3, 1), (248, .iload 11, 2), (250, .aload 5, 2), (252, .aload 6, 2), (254, .invokestatic 45, 3), (257, .ifCond .ne 20, 3), (260, .aload 4, 2), (262, .aload 8, 2), (264, .getfield 40, 3), (267, .aload 6, 2), (269, .aload 8, 2), (271, .invokestatic 45, 3), (274, .ifCond .eq 5, 3), (277, .iconst 0, 1), (278, .ireturn, 1), (279, .aload 5, 2), (281, .getfield 49, 3), (284, .aload 6, 2), (286, .getfield 49, 3), (289, .invokestatic 52, 3), (292, .aload 7, 2), (294, .getfield 49, 3), (297, .aload 8, 2), (299, .getfield 49, 3), (302, .invokestatic 52, 3), (305, .invokestatic 52, 3), (308, .istore 12, 2), (310, .aload_n 0, 1), (311, .aload_n 2, 1), (312, .iload_n 1, 1), (313, .aload 5, 2), (315, .aload 7, 2), (317, .aload 7, 2), (319, .getfield 40, 3), (322, .iload 12, 2), (324, .invokevirtual 58, 3), (327, .aload_n 0, 1), (328, .aload_n 3, 1), (329, .iload_n 1, 1), (330, .aload 6, 2), (332, .aload 5, 2), (334, .iload 11, 2), (336, .iload 12, 2), (338, .invokevirtual 58, 3), (341, .aload_n 0, 1), (342, .aload 4, 2), (344, .iload_n 1, 1), (345, .ifCond .ne 7, 3), (348, .iconst 1, 1), (349, .goto 4, 3), (352, .iconst 0, 1), (353, .aload 6, 2), (355, .aload 8, 2), (357, .aload 8, 2), (359, .getfield 40, 3), (362, .iload 12, 2), (364, .invokevirtual 58, 3), (367, .aload_n 0, 1), (368, .aload 5, 2), (370, .aload 6, 2), (372, .aload 7, 2), (374, .aload 8, 2), (376, .iload 12, 2), (378, .invokevirtual 62, 3), (381, .iconst 1, 1), (382, .ireturn, 1)]
set_option maxRecDepth 100000 in
theorem kc47 : chk cX3_makeChain K47 = true := by decide +kernel
theorem d47 {j pc len : Nat} {i : Instr} (h : K47[j]? = some (pc, i, len)) : decode (mB 47) pc = .ok (i, len) := by
  unfold mB
  rw [mX_47]
  exact chk_at kc47 j h
def K48 : List (Nat × Instr × Nat) := [(0, .aload_n 0, 1), (1, .iload_n 1, 1), (2, .invokevirtual 66, 3), (5, .ifCond .eq 35, 3), (8, .aload_n 0, 1), (9, .iload_n 1, 1), (10, .invokevirtual 70, 3), (13, .ifCond .ne 27, 3), (16, .aload_n 0, 1), (17, .getfield 73, 3), (20, .ifCond .eq 24, 3), (23, .aload_n 2, 1), (24, .getfield 76, 3), (27, .getfield 80, 3), (30, .aload_n 3, 1), (31, .getfield 76, 3), (34, .getfield 80, 3), (37, .if_icmp .ne 7, 3), (40, .iconst 1, 1), (41, .goto 4, 3), (44, .iconst 0, 1), (45, .ireturn, 1)]
set_option maxRecDepth 100000 in
theorem kc48 : chk cX3_isBarred K48 = true := by decide +kernel
theorem d48 {j pc len : Nat} {i : Instr} (h : K48[j]? = some (pc, i, len)) : decode (mB 48) pc = .ok (i, len) := by
  unfold mB
  rw [mX_48]
  exact chk_at kc48 j h
def K49 : List (Nat × Instr × Nat) := [(0, .iload_n 2, 1), (1, .ifCond .eq 10, 3), (4, .aload_n 3, 1), (5, .getfield 76, 3), (8, .goto 8, 3), (11, .aload 4, 2), (13, .getfield 76, 3), (16, .astore 7, 2), (18, .iload_n 2, 1), (19, .ifCond .eq 11, 3), (22, .aload 4, 2), (24, .getfield 76, 3), (27, .goto 7, 3), (30, .aload_n 3, 1), (31, .getfield 76, 3), (34, .astore 8, 2), (36, .aload_n 0, 1), (37, .getfield 13, 3), (40, .aload_n 1, 1), (41, .aload 7, 2), (43, .aload 8, 2), (45, .iload 5, 2), (47, .iload 6, 2), (49, .invokevirtual 85, 3), (52, .return_, 1)]
set_option maxRecDepth 100000 in
theorem kc49 : chk cX3_record K49 = true := by decide +kernel
theorem d49 {j pc len : Nat} {i : Instr} (h : K49[j]? = some (pc, i, len)) : decode (mB 49) pc = .ok (i, len) := by
  unfold mB
  rw [mX_49]
  exact chk_at kc49 j h
def K50 : List (Nat × Instr × Nat) := [(0, .aload_n 1, 1), (1, .iload 5, 2), (3, .invokevirtual 90, 3), (6, .aload_n 2, 1), (7, .iload 5, 2), (9, .invokevirtual 90, 3), (12, .aload_n 3, 1), (13, .iload 5, 2), (15, .invokevirtual 90, 3), (18, .aload 4, 2), (20, .ifnull 30, 3), (23, .aload 4, 2), (25, .iload 5, 2), (27, .invokevirtual 90, 3), (30, .aload_n 0, 1), (31, .getfield 7, 3), (34, .aload 4, 2), (36, .iload 5, 2), (38, .invokevirtual 94, 3), (41, .aload_n 0, 1), (42, .getfield 7, 3), (45, .aload 4, 2), (47, .invokevirtual 98, 3), (50, .aload_n 0, 1), (51, .getfield 7, 3), (54, .aload_n 1, 1), (55, .iload 5, 2), (57, .invokevirtual 94, 3), (60, .aload_n 0, 1), (61, .getfield 7, 3), (64, .aload_n 2, 1), (65, .iload 5, 2), (67, .invokevirtual 94, 3), (70, .aload_n 0, 1), (71, .getfield 7, 3), (74, .aload_n 3, 1), (75, .iload 5, 2), (77, .invokevirtual 94, 3), (80, .aload_n 0, 1), (81, .getfield 7, 3), (84, .aload_n 1, 1), (85, .invokevirtual 98, 3), (88, .aload_n 0, 1), (89, .getfield 7, 3), (92, .aload_n 2, 1), (93, .invokevirtual 98, 3), (96, .aload_n 0, 1), (97, .getfield 7, 3), (100, .aload_n 3, 1), (101, .invokevirtual 98, 3), (104, .return_, 1)]
set_option maxRecDepth 100000 in
theorem kc50 : chk cX3_fallTogether K50 = true := by decide +kernel
theorem d50 {j pc len : Nat} {i : Instr} (h : K50[j]? = some (pc, i, len)) : decode (mB 50) pc = .ok (i, len) := by
  unfold mB
  rw [mX_50]
  exact chk_at kc50 j h
def K51 : List (Nat × Instr × Nat) := [(0, .aload_n 0, 1), (1, .invokespecial 1, 3), (4, .aload_n 0, 1), (5, .aload_n 1, 1), (6, .putfield 7, 3), (9, .aload_n 0, 1), (10, .aload_n 2, 1), (11, .putfield 13, 3), (14, .aload_n 0, 1), (15, .aload_n 2, 1), (16, .putfield 17, 3), (19, .return_, 1)]
set_option maxRecDepth 100000 in
theorem kc51 : chk cX4_init K51 = true := by decide +kernel
theorem d51 {j pc len : Nat} {i : Instr} (h : K51[j]? = some (pc, i, len)) : decode (mB 51) pc = .ok (i, len) := by
  unfold mB
  rw [mX_51]
  exact chk_at kc51 j h
def K52 : List (Nat × Instr × Nat) := [(0, .aload_n 0, 1), (1, .aload_n 1, 1), (2, .putfield 7, 3), (5, .aload_n 0, 1), (6, .aload_n 2, 1), (7, .putfield 13, 3), (10, .aload_n 0, 1), (11, .aload_n 3, 1), (12, .putfield 17, 3), (15, .aload_n 0, 1), (16, .iload 4, 2), (18, .putfield 20, 3), (21, .aload_n 0, 1), (22, .iload 5, 2), (24, .putfield 24, 3), (27, .aload_n 0, 1), (28, .iconst 0, 1), (29, .putfield 27, 3), (32, .aload_n 0, 1), (33, .iconst 1, 1), (34, .putfield 31, 3), (37, .return_, 1)]
set_option maxRecDepth 100000 in
theorem kc52 : chk cX4_fill K52 = true := by decide +kernel
theorem d52 {j pc len : Nat} {i : Instr} (h : K52[j]? = some (pc, i, len)) : decode (mB 52) pc = .ok (i, len) := by
  unfold mB
  rw [mX_52]
  exact chk_at kc52 j h
def K53 : List (Nat × Instr × Nat) := [(0, .aload_n 0, 1), (1, .getfield 31, 3), (4, .ifCond .eq 14, 3), (7, .aload_n 0, 1), (8, .getfield 27, 3), (11, .ifCond .ne 7, 3), (14, .iconst 1, 1), (15, .goto 4, 3), (18, .iconst 0, 1), (19, .ireturn, 1)]
set_option maxRecDepth 100000 in
theorem kc53 : chk cX4_counts K53 = true := by decide +kernel
theorem d53 {j pc len : Nat} {i : Instr} (h : K53[j]? = some (pc, i, len)) : decode (mB 53) pc = .ok (i, len) := by
  unfold mB
  rw [mX_53]
  exact chk_at kc53 j h
def K54 : List (Nat × Instr × Nat) := [(0, .iload_n 1, 1), (1, .tableswitch 69 0 4 #[35, 43, 51, 59, 64], 35), (36, .aload_n 0, 1), (37, .getfield 7, 3), (40, .getfield 34, 3), (43, .ireturn, 1), (44, .aload_n 0, 1), (45, .getfield 13, 3), (48, .getfield 39, 3), (51, .ireturn, 1), (52, .aload_n 0, 1), (53, .getfield 17, 3), (56, .getfield 39, 3), (59, .ireturn, 1), (60, .aload_n 0, 1), (61, .getfield 20, 3), (64, .ireturn, 1), (65, .aload_n 0, 1), (66, .getfield 24, 3), (69, .ireturn, 1), (70, .aload_n 0, 1), (71, .getfield 27, 3), (74, .ifCond .eq 7, 3), (77, .iconst 1, 1), (78, .goto 4, 3), (81, .iconst 0, 1), (82, .ireturn, 1)]
set_option maxRecDepth 100000 in
theorem kc54 : chk cX4_tell K54 = true := by decide +kernel
theorem d54 {j pc len : Nat} {i : Instr} (h : K54[j]? = some (pc, i, len)) : decode (mB 54) pc = .ok (i, len) := by
  unfold mB
  rw [mX_54]
  exact chk_at kc54 j h
def K55 : List (Nat × Instr × Nat) := [(0, .aload_n 0, 1), (1, .invokespecial 3, 3), (4, .bipush 6, 2), (6, .anewarray 9, 3), (9, .astore_n 1, 1), (10, .iconst 0, 1), (11, .istore_n 2, 1), (12, .iload_n 2, 1), (13, .aload_n 1, 1), (14, .arraylength, 1), (15, .if_icmp .ge 20, 3), (18, .aload_n 1, 1), (19, .iload_n 2, 1), (20, .new 9, 3), (23, .dup, 1), (24, .iload_n 2, 1), (25, .invokespecial 11, 3), (28, .aastore, 1), (29, .iinc 2 1, 3), (32, .goto (-20), 3), (35, .aload_n 0, 1), (36, .new 14, 3), (39, .dup, 1), (40, .aload_n 1, 1), (41, .iconst 0, 1), (42, .aaload, 1), (43, .invokespecial 16, 3), (46, .putfield 19, 3), (49, .aload_n 0, 1), (50, .new 25, 3), (53, .dup, 1), (54, .aload_n 1, 1), (55, .aload_n 0, 1), (56, .getfield 19, 3), (59, .bipush 8, 2), (61, .invokevirtual 27, 3), (64, .invokespecial 31, 3), (67, .putfield 34, 3), (70, .aload_n 0, 1), (71, .new 38, 3), (74, .dup, 1), (75, .aload_n 0, 1), (76, .getfield 34, 3), (79, .aload_n 0, 1), (80, .getfield 19, 3), (83, .invokespecial 40, 3), (86, .putfield 43, 3), (89, .aload_n 0, 1), (90, .new 47, 3), (93, .dup, 1), (94, .aload_n 0, 1), (95, .getfield 34, 3), (98, .aload_n 0, 1), (99, .getfield 19, 3), (102, .invokespecial 49, 3), (105, .putfield 50, 3), (108, .aload_n 0, 1), (109, .new 54, 3), (112, .dup, 1), (113, .aload_n 0, 1), (114, .getfield 34, 3), (117, .aload_n 0, 1), (118, .getfield 19, 3), (121, .invokespecial 56, 3), (124, .putfield 57, 3), (127, .aload_n 0, 1), (128, .invokevirtual 61, 3), (131, .return_, 1)]
set_option maxRecDepth 100000 in
theorem kc55 : chk cX5_init K55 = true := by decide +kernel
theorem d55 {j pc len : Nat} {i : Instr} (h : K55[j]? = some (pc, i, len)) : decode (mB 55) pc = .ok (i, len) := by
  unfold mB
  rw [mX_55]
  exact chk_at kc55 j h
def K56 : List (Nat × Instr × Nat) := [(0, .aload_n 0, 1), (1, .getfield 34, 3), (4, .invokevirtual 64, 3), (7, .aload_n 0, 1), (8, .getfield 19, 3), (11, .invokevirtual 65, 3), (14, .aload_n 0, 1), (15, .getfield 57, 3), (18, .invokevirtual 66, 3), (21, .return_, 1)]
set_option maxRecDepth 100000 in
theorem kc56 : chk cX5_restore K56 = true := by decide +kernel
theorem d56 {j pc len : Nat} {i : Instr} (h : K56[j]? = some (pc, i, len)) : decode (mB 56) pc = .ok (i, len) := by
  unfold mB
  rw [mX_56]
  exact chk_at kc56 j h
def K57 : List (Nat × Instr × Nat) := [(0, .aload_n 0, 1), (1, .getfield 19, 3), (4, .iload_n 1, 1), (5, .invokevirtual 27, 3), (8, .astore 4, 2), (10, .aload_n 0, 1), (11, .getfield 57, 3), (14, .aload 4, 2), (16, .getfield 67, 3), (19, .invokevirtual 73, 3), (22, .getfield 77, 3), (25, .ifCond .ne 40, 3), (28, .aload_n 0, 1), (29, .getfield 34, 3), (32, .invokevirtual 83, 3), (35, .bipush 40, 2), (37, .if_icmp .ge 28, 3), (40, .aload_n 0, 1), (41, .getfield 34, 3), (44, .aload 4, 2), (46, .aload_n 0, 1), (47, .getfield 34, 3), (50, .iload_n 2, 1), (51, .invokevirtual 87, 3), (54, .iload_n 3, 1), (55, .invokevirtual 91, 3), (58, .ifCond .ne 7, 3), (61, .iconst 1, 1), (62, .goto 4, 3), (65, .iconst 0, 1), (66, .ireturn, 1)]
set_option maxRecDepth 100000 in
theorem kc57 : chk cX5_admits K57 = true := by decide +kernel
theorem d57 {j pc len : Nat} {i : Instr} (h : K57[j]? = some (pc, i, len)) : decode (mB 57) pc = .ok (i, len) := by
  unfold mB
  rw [mX_57]
  exact chk_at kc57 j h
def K58 : List (Nat × Instr × Nat) := [(0, .iload 6, 2), (2, .ldc 95, 2), (4, .if_icmp .ne 8, 3), (7, .ldc 95, 2), (9, .goto 13, 3), (12, .aload_n 0, 1), (13, .getfield 34, 3), (16, .getfield 96, 3), (19, .iload 6, 2), (21, .iadd, 1), (22, .istore 7, 2), (24, .aload_n 0, 1), (25, .getfield 34, 3), (28, .aload_n 0, 1), (29, .getfield 19, 3), (32, .iload_n 1, 1), (33, .invokevirtual 27, 3), (36, .aload_n 0, 1), (37, .getfield 34, 3), (40, .iload_n 2, 1), (41, .invokevirtual 87, 3), (44, .iload_n 3, 1), (45, .iload 4, 2), (47, .iload 7, 2), (49, .invokevirtual 99, 3), (52, .astore 8, 2), (54, .aload 8, 2), (56, .ifnonnull 6, 3), (59, .ldc 95, 2), (61, .ireturn, 1), (62, .iload 5, 2), (64, .ifCond .le 28, 3), (67, .aload_n 0, 1), (68, .getfield 43, 3), (71, .aload 8, 2), (73, .invokevirtual 103, 3), (76, .iload 5, 2), (78, .i2l, 1), (79, .lcmp, 1), (80, .ifCond .ge 12, 3), (83, .aload 8, 2), (85, .iconst 0, 1), (86, .putfield 107, 3), (89, .goto 9, 3), (92, .aload_n 0, 1), (93, .aload 8, 2), (95, .invokevirtual 112, 3), (98, .aload 8, 2), (100, .getfield 116, 3), (103, .ireturn, 1)]
set_option maxRecDepth 100000 in
theorem kc58 : chk cX5_tellLimit K58 = true := by decide +kernel
theorem d58 {j pc len : Nat} {i : Instr} (h : K58[j]? = some (pc, i, len)) : decode (mB 58) pc = .ok (i, len) := by
  unfold mB
  rw [mX_58]
  exact chk_at kc58 j h
def K59 : List (Nat × Instr × Nat) := [(0, .aload_n 0, 1), (1, .getfield 34, 3), (4, .aload_n 0, 1), (5, .getfield 19, 3), (8, .iload_n 1, 1), (9, .invokevirtual 27, 3), (12, .aload_n 0, 1), (13, .getfield 34, 3), (16, .iload_n 2, 1), (17, .invokevirtual 87, 3), (20, .ldc 95, 2), (22, .iload_n 3, 1), (23, .aload_n 0, 1), (24, .getfield 34, 3), (27, .getfield 96, 3), (30, .invokevirtual 99, 3), (33, .astore 4, 2), (35, .aload 4, 2), (37, .ifnonnull 6, 3), (40, .ldc 95, 2), (42, .ireturn, 1), (43, .aload_n 0, 1), (44, .aload 4, 2), (46, .invokevirtual 112, 3), (49, .aload 4, 2), (51, .getfield 116, 3), (54, .ireturn, 1)]
set_option maxRecDepth 100000 in
theorem kc59 : chk cX5_tellMarket K59 = true := by decide +kernel
theorem d59 {j pc len : Nat} {i : Instr} (h : K59[j]? = some (pc, i, len)) : decode (mB 59) pc = .ok (i, len) := by
  unfold mB
  rw [mX_59]
  exact chk_at kc59 j h
def K60 : List (Nat × Instr × Nat) := [(0, .aload_n 0, 1), (1, .getfield 34, 3), (4, .aload_n 0, 1), (5, .getfield 19, 3), (8, .iload_n 1, 1), (9, .invokevirtual 27, 3), (12, .aload_n 0, 1), (13, .getfield 34, 3), (16, .iload_n 2, 1), (17, .invokevirtual 87, 3), (20, .iload_n 3, 1), (21, .iload 4, 2), (23, .aload_n 0, 1), (24, .getfield 34, 3), (27, .getfield 96, 3), (30, .invokevirtual 99, 3), (33, .astore 6, 2), (35, .aload 6, 2), (37, .ifnonnull 6, 3), (40, .ldc 95, 2), (42, .ireturn, 1), (43, .aload 6, 2), (45, .iload 5, 2), (47, .putfield 119, 3), (50, .aload_n 0, 1), (51, .aload 6, 2), (53, .invokevirtual 112, 3), (56, .aload 6, 2), (58, .getfield 116, 3), (61, .ireturn, 1)]
set_option maxRecDepth 100000 in
theorem kc60 : chk cX5_tellIceberg K60 = true := by decide +kernel
theorem d60 {j pc len : Nat} {i : Instr} (h : K60[j]? = some (pc, i, len)) : decode (mB 60) pc = .ok (i, len) := by
  unfold mB
  rw [mX_60]
  exact chk_at kc60 j h
def K61 : List (Nat × Instr × Nat) := [(0, .aload_n 0, 1), (1, .getfield 34, 3), (4, .aload_n 0, 1), (5, .getfield 19, 3), (8, .iload_n 1, 1), (9, .invokevirtual 27, 3), (12, .aload_n 0, 1), (13, .getfield 34, 3), (16, .iload_n 2, 1), (17, .invokevirtual 87, 3), (20, .iload_n 3, 1), (21, .iload 4, 2), (23, .aload_n 0, 1), (24, .getfield 34, 3), (27, .getfield 96, 3), (30, .invokevirtual 99, 3), (33, .astore 6, 2), (35, .aload 6, 2), (37, .ifnonnull 6, 3), (40, .ldc 95, 2), (42, .ireturn, 1), (43, .aload 6, 2), (45, .iconst 1, 1), (46, .putfield 122, 3), (49, .aload 6, 2), (51, .iload 5, 2), (53, .putfield 125, 3), (56, .aload 6, 2), (58, .getfield 116, 3), (61, .ireturn, 1)]
set_option maxRecDepth 100000 in
theorem kc61 : chk cX5_tellPeg K61 = true := by decide +kernel
theorem d61 {j pc len : Nat} {i : Instr} (h : K61[j]? = some (pc, i, len)) : decode (mB 61) pc = .ok (i, len) := by
  unfold mB
  rw [mX_61]
  exact chk_at kc61 j h
def K62 : List (Nat × Instr × Nat) := [(0, .iload 4, 2), (2, .ifCond .ne 8, 3), (5, .ldc 95, 2), (7, .goto 5, 3), (10, .iload 4, 2), (12, .istore 6, 2), (14, .aload_n 0, 1), (15, .getfield 34, 3), (18, .aload_n 0, 1), (19, .getfield 19, 3), (22, .iload_n 1, 1), (23, .invokevirtual 27, 3), (26, .aload_n 0, 1), (27, .getfield 34, 3), (30, .iload_n 2, 1), (31, .invokevirtual 87, 3), (34, .iload 6, 2), (36, .iload 5, 2), (38, .aload_n 0, 1), (39, .getfield 34, 3), (42, .getfield 96, 3), (45, .invokevirtual 99, 3), (48, .astore 7, 2), (50, .aload 7, 2), (52, .ifnonnull 6, 3), (55, .ldc 95, 2), (57, .ireturn, 1), (58, .aload 7, 2), (60, .iconst 2, 1), (61, .putfield 122, 3), (64, .aload 7, 2), (66, .iload_n 3, 1), (67, .putfield 128, 3), (70, .aload 7, 2), (72, .getfield 116, 3), (75, .ireturn, 1)]
set_option maxRecDepth 100000 in
theorem kc62 : chk cX5_tellStop K62 = true := by decide +kernel
theorem d62 {j pc len : Nat} {i : Instr} (h : K62[j]? = some (pc, i, len)) : decode (mB 62) pc = .ok (i, len) := by
  unfold mB
  rw [mX_62]
  exact chk_at kc62 j h
def K63 : List (Nat × Instr × Nat) := [(0, .aload_n 0, 1), (1, .getfield 19, 3), (4, .iload_n 1, 1), (5, .invokevirtual 27, 3), (8, .astore 6, 2), (10, .aload_n 0, 1), (11, .getfield 34, 3), (14, .aload 6, 2), (16, .aload_n 0, 1), (17, .getfield 34, 3), (20, .iload_n 2, 1), (21, .invokevirtual 87, 3), (24, .invokevirtual 131, 3), (27, .aload 6, 2), (29, .iconst 0, 1), (30, .putfield 135, 3), (33, .aload 6, 2), (35, .iconst 0, 1), (36, .putfield 138, 3), (39, .aload_n 0, 1), (40, .getfield 34, 3), (43, .getfield 141, 3), (46, .istore 7, 2), (48, .aload_n 0, 1), (49, .getfield 34, 3), (52, .aload 6, 2), (54, .aload_n 0, 1), (55, .getfield 34, 3), (58, .iload_n 2, 1), (59, .invokevirtual 87, 3), (62, .iload_n 3, 1), (63, .iload 5, 2), (65, .aload_n 0, 1), (66, .getfield 34, 3), (69, .getfield 96, 3), (72, .invokevirtual 99, 3), (75, .astore 8, 2), (77, .aload 8, 2), (79, .ifnull 15, 3), (82, .aload 8, 2), (84, .iconst 3, 1), (85, .putfield 122, 3), (88, .aload_n 0, 1), (89, .aload 8, 2), (91, .invokevirtual 112, 3), (94, .aload 6, 2), (96, .getfield 138, 3), (99, .ifCond .eq 19, 3), (102, .aload_n 0, 1), (103, .getfield 34, 3), (106, .dup, 1), (107, .getfield 141, 3), (110, .iconst 1, 1), (111, .iadd, 1), (112, .putfield 141, 3), (115, .iload 7, 2), (117, .ireturn, 1), (118, .aload_n 0, 1), (119, .getfield 34, 3), (122, .aload 6, 2), (124, .aload_n 0, 1), (125, .getfield 34, 3), (128, .iload_n 2, 1), (129, .invokevirtual 87, 3), (132, .iload 4, 2), (134, .iload 5, 2), (136, .ineg, 1), (137, .aload_n 0, 1), (138, .getfield 34, 3), (141, .getfield 96, 3), (144, .invokevirtual 99, 3), (147, .astore 9, 2), (149, .aload 9, 2), (151, .ifnull 15, 3), (154, .aload 9, 2), (156, .iconst 3, 1), (157, .putfield 122, 3), (160, .aload_n 0, 1), (161, .aload 9, 2), (163, .invokevirtual 112, 3), (166, .iload 7, 2), (168, .ireturn, 1)]
set_option maxRecDepth 100000 in
theorem kc63 : chk cX5_tellQuote K63 = true := by decide +kernel
theorem d63 {j pc len : Nat} {i : Instr} (h : K63[j]? = some (pc, i, len)) : decode (mB 63) pc = .ok (i, len) := by
  unfold mB
  rw [mX_63]
  exact chk_at kc63 j h
def K64 : List (Nat × Instr × Nat) := [(0, .aload_n 1, 1), (1, .getfield 144, 3), (4, .getfield 148, 3), (7, .ifCond .eq 14, 3), (10, .aload_n 0, 1), (11, .getfield 34, 3), (14, .aload_n 1, 1), (15, .invokevirtual 151, 3), (18, .goto 11, 3), (21, .aload_n 0, 1), (22, .getfield 43, 3), (25, .aload_n 1, 1), (26, .invokevirtual 154, 3), (29, .return_, 1)]
set_option maxRecDepth 100000 in
theorem kc64 : chk cX5_place K64 = true := by decide +kernel
theorem d64 {j pc len : Nat} {i : Instr} (h : K64[j]? = some (pc, i, len)) : decode (mB 64) pc = .ok (i, len) := by
  unfold mB
  rw [mX_64]
  exact chk_at kc64 j h
def K65 : List (Nat × Instr × Nat) := [(0, .iconst 0, 1), (1, .istore_n 2, 1), (2, .iload_n 2, 1), (3, .iload_n 1, 1), (4, .if_icmp .ge 102, 3), (7, .aload_n 0, 1), (8, .getfield 34, 3), (11, .dup, 1), (12, .getfield 157, 3), (15, .iconst 1, 1), (16, .iadd, 1), (17, .putfield 157, 3), (20, .aload_n 0, 1), (21, .getfield 34, 3), (24, .invokevirtual 160, 3), (27, .aload_n 0, 1), (28, .getfield 34, 3), (31, .getfield 163, 3), (34, .astore_n 3, 1), (35, .aload_n 3, 1), (36, .arraylength, 1), (37, .istore 4, 2), (39, .iconst 0, 1), (40, .istore 5, 2), (42, .iload 5, 2), (44, .iload 4, 2), (46, .if_icmp .ge 54, 3), (49, .aload_n 3, 1), (50, .iload 5, 2), (52, .aaload, 1), (53, .astore 6, 2), (55, .aload 6, 2), (57, .getfield 148, 3), (60, .ifCond .eq 34, 3), (63, .aload 6, 2), (65, .getfield 167, 3), (68, .aload_n 0, 1), (69, .getfield 34, 3), (72, .getfield 157, 3), (75, .if_icmp .gt 19, 3), (78, .aload_n 0, 1), (79, .getfield 43, 3), (82, .aload 6, 2), (84, .invokevirtual 170, 3), (87, .ifCond .eq 7, 3), (90, .aload_n 0, 1), (91, .invokevirtual 174, 3), (94, .iinc 5 1, 3), (97, .goto (-55), 3), (100, .iinc 2 1, 3), (103, .goto (-101), 3), (106, .aload_n 0, 1), (107, .getfield 34, 3), (110, .getfield 157, 3), (113, .ireturn, 1)]
set_option maxRecDepth 100000 in
theorem kc65 : chk cX5_letPass K65 = true := by decide +kernel
theorem d65 {j pc len : Nat} {i : Instr} (h : K65[j]? = some (pc, i, len)) : decode (mB 65) pc = .ok (i, len) := by
  unfold mB
  rw [mX_65]
  exact chk_at kc65 j h
def K66 : List (Nat × Instr × Nat) := [(0, .aload_n 0, 1), (1, .getfield 19, 3), (4, .iload_n 1, 1), (5, .invokevirtual 177, 3), (8, .istore_n 2, 1), (9, .aload_n 0, 1), (10, .getfield 19, 3), (13, .iload_n 1, 1), (14, .invokevirtual 181, 3), (17, .astore_n 3, 1), (18, .aload_n 3, 1), (19, .ifnull 15, 3), (22, .aload_n 0, 1), (23, .getfield 34, 3), (26, .aload_n 3, 1), (27, .getfield 185, 3), (30, .iload_n 1, 1), (31, .invokevirtual 188, 3), (34, .iload_n 2, 1), (35, .ireturn, 1)]
set_option maxRecDepth 100000 in
theorem kc66 : chk cX5_undo K66 = true := by decide +kernel
theorem d66 {j pc len : Nat} {i : Instr} (h : K66[j]? = some (pc, i, len)) : decode (mB 66) pc = .ok (i, len) := by
  unfold mB
  rw [mX_66]
  exact chk_at kc66 j h
def K67 : List (Nat × Instr × Nat) := [(0, .aload_n 0, 1), (1, .getfield 34, 3), (4, .iload_n 1, 1), (5, .invokevirtual 192, 3), (8, .istore 4, 2), (10, .aload_n 0, 1), (11, .getfield 19, 3), (14, .iload_n 1, 1), (15, .invokevirtual 195, 3), (18, .aload_n 0, 1), (19, .getfield 34, 3), (22, .iload_n 1, 1), (23, .invokevirtual 87, 3), (26, .astore 5, 2), (28, .aload 5, 2), (30, .aload 5, 2), (32, .getfield 198, 3), (35, .iload_n 2, 1), (36, .iload_n 3, 1), (37, .invokestatic 201, 3), (40, .putfield 198, 3), (43, .aload 5, 2), (45, .aload 5, 2), (47, .getfield 205, 3), (50, .iload_n 2, 1), (51, .iload_n 3, 1), (52, .invokestatic 201, 3), (55, .putfield 205, 3), (58, .aload_n 0, 1), (59, .getfield 19, 3), (62, .iload_n 1, 1), (63, .iload_n 2, 1), (64, .iload_n 3, 1), (65, .aload 5, 2), (67, .getfield 198, 3), (70, .invokevirtual 208, 3), (73, .iload 4, 2), (75, .ireturn, 1)]
set_option maxRecDepth 100000 in
theorem kc67 : chk cX5_convertContract K67 = true := by decide +kernel
theorem d67 {j pc len : Nat} {i : Instr} (h : K67[j]? = some (pc, i, len)) : decode (mB 67) pc = .ok (i, len) := by
  unfold mB
  rw [mX_67]
  exact chk_at kc67 j h
def K68 : List (Nat × Instr × Nat) := [(0, .iload_n 1, 1), (1, .ifCond .le 11, 3), (4, .iload_n 0, 1), (5, .iload_n 2, 1), (6, .imul, 1), (7, .iload_n 1, 1), (8, .idiv, 1), (9, .goto 4, 3), (12, .iload_n 0, 1), (13, .istore_n 3, 1), (14, .iconst 1, 1), (15, .sipush 9999, 3), (18, .iload_n 3, 1), (19, .invokestatic 212, 3), (22, .invokestatic 218, 3), (25, .ireturn, 1)]
set_option maxRecDepth 100000 in
theorem kc68 : chk cX5_convertPrice K68 = true := by decide +kernel
theorem d68 {j pc len : Nat} {i : Instr} (h : K68[j]? = some (pc, i, len)) : decode (mB 68) pc = .ok (i, len) := by
  unfold mB
  rw [mX_68]
  exact chk_at kc68 j h
def K69 : List (Nat × Instr × Nat) := [(0, .aload_n 0, 1), (1, .getfield 57, 3), (4, .iload_n 1, 1), (5, .invokevirtual 221, 3), (8, .aload_n 0, 1), (9, .getfield 34, 3), (12, .iload_n 1, 1), (13, .invokevirtual 224, 3), (16, .ireturn, 1)]
set_option maxRecDepth 100000 in
theorem kc69 : chk cX5_failMember K69 = true := by decide +kernel
theorem d69 {j pc len : Nat} {i : Instr} (h : K69[j]? = some (pc, i, len)) : decode (mB 69) pc = .ok (i, len) := by
  unfold mB
  rw [mX_69]
  exact chk_at kc69 j h
def K70 : List (Nat × Instr × Nat) := [(0, .iconst 0, 1), (1, .istore_n 1, 1), (2, .iload_n 1, 1), (3, .ldc 227, 2), (5, .if_icmp .ge 120, 3), (8, .aload_n 0, 1), (9, .getfield 34, 3), (12, .invokevirtual 228, 3), (15, .astore_n 2, 1), (16, .aload_n 2, 1), (17, .ifnull 29, 3), (20, .aload_n 2, 1), (21, .aload_n 0, 1), (22, .getfield 19, 3), (25, .aload_n 2, 1), (26, .getfield 144, 3), (29, .invokevirtual 232, 3), (32, .putfield 236, 3), (35, .aload_n 0, 1), (36, .getfield 43, 3), (39, .aload_n 2, 1), (40, .invokevirtual 154, 3), (43, .goto 76, 3), (46, .aload_n 0, 1), (47, .getfield 50, 3), (50, .iconst 4, 1), (51, .iconst 1, 1), (52, .invokevirtual 239, 3), (55, .ifCond .ne 64, 3), (58, .aload_n 0, 1), (59, .getfield 50, 3), (62, .iconst 4, 1), (63, .iconst 0, 1), (64, .invokevirtual 239, 3), (67, .ifCond .ne 52, 3), (70, .aload_n 0, 1), (71, .getfield 50, 3), (74, .iconst 5, 1), (75, .iconst 1, 1), (76, .invokevirtual 239, 3), (79, .ifCond .ne 40, 3), (82, .aload_n 0, 1), (83, .getfield 50, 3), (86, .iconst 5, 1), (87, .iconst 0, 1), (88, .invokevirtual 239, 3), (91, .ifCond .ne 28, 3), (94, .aload_n 0, 1), (95, .getfield 50, 3), (98, .iconst 1, 1), (99, .invokevirtual 243, 3), (102, .ifCond .ne 17, 3), (105, .aload_n 0, 1), (106, .getfield 50, 3), (109, .iconst 0, 1), (110, .invokevirtual 243, 3), (113, .ifCond .ne 6, 3), (116, .goto 9, 3), (119, .iinc 1 1, 3), (122, .goto (-120), 3), (125, .aload_n 0, 1), (126, .getfield 34, 3), (129, .invokevirtual 247, 3), (132, .return_, 1)]
set_option maxRecDepth 100000 in
theorem kc70 : chk cX5_work K70 = true := by decide +kernel
theorem d70 {j pc len : Nat} {i : Instr} (h : K70[j]? = some (pc, i, len)) : decode (mB 70) pc = .ok (i, len) := by
  unfold mB
  rw [mX_70]
  exact chk_at kc70 j h
def K71 : List (Nat × Instr × Nat) := [(0, .aload_n 0, 1), (1, .invokespecial 3, 3), (4, .aload_n 0, 1), (5, .bipush 40, 2), (7, .anewarray 9, 3), (10, .putfield 11, 3), (13, .aload_n 0, 1), (14, .aload_n 1, 1), (15, .putfield 17, 3), (18, .iconst 0, 1), (19, .istore_n 3, 1), (20, .iload_n 3, 1), (21, .aload_n 0, 1), (22, .getfield 11, 3), (25, .arraylength, 1), (26, .if_icmp .ge 26, 3), (29, .aload_n 0, 1), (30, .getfield 11, 3), (33, .iload_n 3, 1), (34, .new 9, 3), (37, .dup, 1), (38, .aload_n 2, 1), (39, .aload_n 1, 1), (40, .iconst 0, 1), (41, .aaload, 1), (42, .invokespecial 21, 3), (45, .aastore, 1), (46, .iinc 3 1, 3), (49, .goto (-29), 3), (52, .return_, 1)]
set_option maxRecDepth 100000 in
theorem kc71 : chk cX6_init K71 = true := by decide +kernel
theorem d71 {j pc len : Nat} {i : Instr} (h : K71[j]? = some (pc, i, len)) : decode (mB 71) pc = .ok (i, len) := by
  unfold mB
  rw [mX_71]
  exact chk_at kc71 j h
def K72 : List (Nat × Instr × Nat) := [(0, .aload_n 0, 1), (1, .getfield 17, 3), (4, .astore_n 1, 1), (5, .aload_n 1, 1), (6, .arraylength, 1), (7, .istore_n 2, 1), (8, .iconst 0, 1), (9, .istore_n 3, 1), (10, .iload_n 3, 1), (11, .iload_n 2, 1), (12, .if_icmp .ge 19, 3), (15, .aload_n 1, 1), (16, .iload_n 3, 1), (17, .aaload, 1), (18, .astore 4, 2), (20, .aload 4, 2), (22, .invokevirtual 24, 3), (25, .iinc 3 1, 3), (28, .goto (-18), 3), (31, .aload_n 0, 1), (32, .getfield 11, 3), (35, .astore_n 1, 1), (36, .aload_n 1, 1), (37, .arraylength, 1), (38, .istore_n 2, 1), (39, .iconst 0, 1), (40, .istore_n 3, 1), (41, .iload_n 3, 1), (42, .iload_n 2, 1), (43, .if_icmp .ge 20, 3), (46, .aload_n 1, 1), (47, .iload_n 3, 1), (48, .aaload, 1), (49, .astore 4, 2), (51, .aload 4, 2), (53, .iconst 0, 1), (54, .putfield 29, 3), (57, .iinc 3 1, 3), (60, .goto (-19), 3), (63, .aload_n 0, 1), (64, .iconst 0, 1), (65, .putfield 33, 3), (68, .aload_n 0, 1), (69, .iconst 0, 1), (70, .putfield 36, 3), (73, .aload_n 0, 1), (74, .iconst 0, 1), (75, .putfield 39, 3), (78, .aload_n 0, 1), (79, .iconst 0, 1), (80, .putfield 42, 3), (83, .return_, 1)]
set_option maxRecDepth 100000 in
theorem kc72 : chk cX6_restore K72 = true := by decide +kernel
theorem d72 {j pc len : Nat} {i : Instr} (h : K72[j]? = some (pc, i, len)) : decode (mB 72) pc = .ok (i, len) := by
  unfold mB
  rw [mX_72]
  exact chk_at kc72 j h
def K73 : List (Nat × Instr × Nat) := [(0, .aload_n 0, 1), (1, .getfield 17, 3), (4, .iload_n 1, 1), (5, .ifCond .lt 16, 3), (8, .iload_n 1, 1), (9, .aload_n 0, 1), (10, .getfield 17, 3), (13, .arraylength, 1), (14, .if_icmp .ge 7, 3), (17, .iload_n 1, 1), (18, .goto 4, 3), (21, .iconst 0, 1), (22, .aaload, 1), (23, .areturn, 1)]
set_option maxRecDepth 100000 in
theorem kc73 : chk cX6_bookAt K73 = true := by decide +kernel
theorem d73 {j pc len : Nat} {i : Instr} (h : K73[j]? = some (pc, i, len)) : decode (mB 73) pc = .ok (i, len) := by
  unfold mB
  rw [mX_73]
  exact chk_at kc73 j h
