/-! the code of the methods, as tables -/
def K133 : List (Nat × Instr × Nat) := [(0, .ldc 79, 2), (2, .istore_n 2, 1), (3, .iconst 0, 1), (4, .istore_n 3, 1), (5, .iconst 0, 1), (6, .istore 4, 2), (8, .aload_n 0, 1), (9, .getfield 21, 3), (12, .getfield 29, 3), (15, .astore 5, 2), (17, .aload 5, 2), (19, .arraylength, 1), (20, .istore 6, 2), (22, .iconst 0, 1), (23, .istore 7, 2), (25, .iload 7, 2), (27, .iload 6, 2), (29, .if_icmp .ge 164, 3), (32, .aload 5, 2), (34, .iload 7, 2), (36, .aaload, 1), (37, .astore 8, 2), (39, .aload 8, 2), (41, .getfield 72, 3), (44, .iconst 1, 1), (45, .if_icmp .ne 142, 3), (48, .aload 8, 2), (50, .getfield 34, 3), (53, .aload_n 1, 1), (54, .if_acmp .ne 133, 3), (57, .aload 8, 2), (59, .getfield 110, 3), (62, .ldc 79, 2), (64, .if_icmp .ne 6, 3), (67, .goto 120, 3), (70, .aload 8, 2), (72, .getfield 110, 3), (75, .istore 9, 2), (77, .aload_n 0, 1), (78, .aload_n 1, 1), (79, .iload 9, 2), (81, .invokevirtual 195, 3), (84, .istore 10, 2), (86, .aload_n 0, 1), (87, .aload_n 1, 1), (88, .iconst 1, 1), (89, .iload 9, 2), (91, .invokevirtual 199, 3), (94, .aload_n 0, 1), (95, .aload_n 1, 1), (96, .iconst 0, 1), (97, .iload 9, 2), (99, .invokevirtual 199, 3), (102, .isub, 1), (103, .invokestatic 203, 3), (106, .istore 11, 2), (108, .iload_n 2, 1), (109, .ldc 79, 2), (111, .if_icmp .eq 9, 3), (114, .iload 10, 2), (116, .iload_n 3, 1), (117, .if_icmp .le 7, 3), (120, .iconst 1, 1), (121, .goto 4, 3), (124, .iconst 0, 1), (125, .istore 12, 2), (127, .iload 12, 2), (129, .ifCond .ne 43, 3), (132, .iload 10, 2), (134, .iload_n 3, 1), (135, .if_icmp .ne 37, 3), (138, .iload 11, 2), (140, .iload 4, 2), (142, .if_icmp .lt 23, 3), (145, .iload 11, 2), (147, .iload 4, 2), (149, .if_icmp .ne 20, 3), (152, .iload 9, 2), (154, .iload_n 2, 1), (155, .aload_n 1, 1), (156, .getfield 176, 3), (159, .invokestatic 207, 3), (162, .ifCond .eq 7, 3), (165, .iconst 1, 1), (166, .goto 4, 3), (169, .iconst 0, 1), (170, .istore 12, 2), (172, .iload 12, 2), (174, .ifCond .eq 13, 3), (177, .iload 9, 2), (179, .istore_n 2, 1), (180, .iload 10, 2), (182, .istore_n 3, 1), (183, .iload 11, 2), (185, .istore 4, 2), (187, .iinc 7 1, 3), (190, .goto (-165), 3), (193, .iload_n 2, 1), (194, .ldc 79, 2), (196, .if_icmp .ne 10, 3), (199, .aload_n 1, 1), (200, .getfield 176, 3), (203, .goto 4, 3), (206, .iload_n 2, 1), (207, .istore 5, 2), (209, .aload_n 0, 1), (210, .aload_n 1, 1), (211, .iload 5, 2), (213, .invokevirtual 195, 3), (216, .ifCond .le 8, 3), (219, .iload 5, 2), (221, .goto 5, 3), (224, .ldc 79, 2), (226, .ireturn, 1)]
set_option maxRecDepth 100000 in
theorem kc133 : chk cX8_findPrice K133 = true := by decide +kernel
theorem d133 {j pc len : Nat} {i : Instr} (h : K133[j]? = some (pc, i, len)) : decode (mB 133) pc = .ok (i, len) := by
  unfold mB
  rw [mX_133]
  exact chk_at kc133 j h
def K134 : List (Nat × Instr × Nat) := [(0, .iload_n 0, 1), (1, .iload_n 2, 1), (2, .isub, 1), (3, .invokestatic 203, 3), (6, .istore_n 3, 1), (7, .iload_n 1, 1), (8, .iload_n 2, 1), (9, .isub, 1), (10, .invokestatic 203, 3), (13, .istore 4, 2), (15, .iload_n 3, 1), (16, .iload 4, 2), (18, .if_icmp .lt 14, 3), (21, .iload_n 3, 1), (22, .iload 4, 2), (24, .if_icmp .ne 12, 3), (27, .iload_n 0, 1), (28, .iload_n 1, 1), (29, .if_icmp .ge 7, 3), (32, .iconst 1, 1), (33, .goto 4, 3), (36, .iconst 0, 1), (37, .ireturn, 1)]
set_option maxRecDepth 100000 in
theorem kc134 : chk cX8_isNearer K134 = true := by decide +kernel
theorem d134 {j pc len : Nat} {i : Instr} (h : K134[j]? = some (pc, i, len)) : decode (mB 134) pc = .ok (i, len) := by
  unfold mB
  rw [mX_134]
  exact chk_at kc134 j h
def K135 : List (Nat × Instr × Nat) := [(0, .aload_n 0, 1), (1, .aload_n 1, 1), (2, .iconst 1, 1), (3, .iload_n 2, 1), (4, .invokevirtual 199, 3), (7, .aload_n 0, 1), (8, .aload_n 1, 1), (9, .iconst 0, 1), (10, .iload_n 2, 1), (11, .invokevirtual 199, 3), (14, .invokestatic 128, 3), (17, .ireturn, 1)]
set_option maxRecDepth 100000 in
theorem kc135 : chk cX8_volumeAt K135 = true := by decide +kernel
theorem d135 {j pc len : Nat} {i : Instr} (h : K135[j]? = some (pc, i, len)) : decode (mB 135) pc = .ok (i, len) := by
  unfold mB
  rw [mX_135]
  exact chk_at kc135 j h
def K136 : List (Nat × Instr × Nat) := [(0, .iconst 0, 1), (1, .istore 4, 2), (3, .aload_n 0, 1), (4, .getfield 21, 3), (7, .getfield 29, 3), (10, .astore 5, 2), (12, .aload 5, 2), (14, .arraylength, 1), (15, .istore 6, 2), (17, .iconst 0, 1), (18, .istore 7, 2), (20, .iload 7, 2), (22, .iload 6, 2), (24, .if_icmp .ge 45, 3), (27, .aload 5, 2), (29, .iload 7, 2), (31, .aaload, 1), (32, .astore 8, 2), (34, .aload 8, 2), (36, .aload_n 1, 1), (37, .iload_n 2, 1), (38, .invokevirtual 42, 3), (41, .ifCond .eq 22, 3), (44, .aload 8, 2), (46, .iload_n 3, 1), (47, .invokevirtual 59, 3), (50, .ifCond .eq 13, 3), (53, .iload 4, 2), (55, .aload 8, 2), (57, .getfield 68, 3), (60, .iadd, 1), (61, .istore 4, 2), (63, .iinc 7 1, 3), (66, .goto (-46), 3), (69, .iload 4, 2), (71, .ireturn, 1)]
set_option maxRecDepth 100000 in
theorem kc136 : chk cX8_sumAt K136 = true := by decide +kernel
theorem d136 {j pc len : Nat} {i : Instr} (h : K136[j]? = some (pc, i, len)) : decode (mB 136) pc = .ok (i, len) := by
  unfold mB
  rw [mX_136]
  exact chk_at kc136 j h
def K137 : List (Nat × Instr × Nat) := [(0, .aload_n 0, 1), (1, .invokespecial 1, 3), (4, .return_, 1)]
set_option maxRecDepth 100000 in
theorem kc137 : chk cX9_init K137 = true := by decide +kernel
theorem d137 {j pc len : Nat} {i : Instr} (h : K137[j]? = some (pc, i, len)) : decode (mB 137) pc = .ok (i, len) := by
  unfold mB
  rw [mX_137]
  exact chk_at kc137 j h
def K138 : List (Nat × Instr × Nat) := [(0, .aload_n 0, 1), (1, .iconst 0, 1), (2, .putfield 7, 3), (5, .aload_n 0, 1), (6, .iconst 0, 1), (7, .putfield 13, 3), (10, .aload_n 0, 1), (11, .sipush 200, 3), (14, .putfield 16, 3), (17, .aload_n 0, 1), (18, .iconst 0, 1), (19, .putfield 19, 3), (22, .aload_n 0, 1), (23, .invokevirtual 23, 3), (26, .return_, 1)]
set_option maxRecDepth 100000 in
theorem kc138 : chk cX9_restore K138 = true := by decide +kernel
theorem d138 {j pc len : Nat} {i : Instr} (h : K138[j]? = some (pc, i, len)) : decode (mB 138) pc = .ok (i, len) := by
  unfold mB
  rw [mX_138]
  exact chk_at kc138 j h
def K139 : List (Nat × Instr × Nat) := [(0, .aload_n 0, 1), (1, .iconst 0, 1), (2, .putfield 26, 3), (5, .aload_n 0, 1), (6, .iconst 0, 1), (7, .putfield 29, 3), (10, .return_, 1)]
set_option maxRecDepth 100000 in
theorem kc139 : chk cX9_forgetBid K139 = true := by decide +kernel
theorem d139 {j pc len : Nat} {i : Instr} (h : K139[j]? = some (pc, i, len)) : decode (mB 139) pc = .ok (i, len) := by
  unfold mB
  rw [mX_139]
  exact chk_at kc139 j h
def K140 : List (Nat × Instr × Nat) := [(0, .aload_n 0, 1), (1, .invokespecial 3, 3), (4, .aload_n 0, 1), (5, .aload_n 1, 1), (6, .putfield 9, 3), (9, .aload_n 0, 1), (10, .aload_n 2, 1), (11, .putfield 15, 3), (14, .return_, 1)]
set_option maxRecDepth 100000 in
theorem kc140 : chk cX10_init K140 = true := by decide +kernel
theorem d140 {j pc len : Nat} {i : Instr} (h : K140[j]? = some (pc, i, len)) : decode (mB 140) pc = .ok (i, len) := by
  unfold mB
  rw [mX_140]
  exact chk_at kc140 j h
def K141 : List (Nat × Instr × Nat) := [(0, .aload_n 0, 1), (1, .iload_n 1, 1), (2, .putfield 19, 3), (5, .aload_n 0, 1), (6, .iconst 0, 1), (7, .putfield 23, 3), (10, .aload_n 0, 1), (11, .iconst 2, 1), (12, .putfield 26, 3), (15, .aload_n 0, 1), (16, .aload_n 2, 1), (17, .putfield 9, 3), (20, .aload_n 0, 1), (21, .aload_n 3, 1), (22, .putfield 15, 3), (25, .aload_n 0, 1), (26, .iload 5, 2), (28, .ifCond .le 7, 3), (31, .iconst 1, 1), (32, .goto 4, 3), (35, .iconst 0, 1), (36, .putfield 29, 3), (39, .aload_n 0, 1), (40, .iload 4, 2), (42, .putfield 33, 3), (45, .aload_n 0, 1), (46, .ldc 36, 2), (48, .putfield 37, 3), (51, .aload_n 0, 1), (52, .iload 6, 2), (54, .putfield 40, 3), (57, .aload_n 0, 1), (58, .iload 5, 2), (60, .invokestatic 43, 3), (63, .putfield 49, 3), (66, .aload_n 0, 1), (67, .aload_n 0, 1), (68, .getfield 49, 3), (71, .putfield 52, 3), (74, .aload_n 0, 1), (75, .iconst 0, 1), (76, .putfield 55, 3), (79, .aload_n 0, 1), (80, .iconst 0, 1), (81, .putfield 58, 3), (84, .aload_n 0, 1), (85, .iconst 0, 1), (86, .putfield 61, 3), (89, .aload_n 0, 1), (90, .iconst 0, 1), (91, .putfield 64, 3), (94, .aload_n 0, 1), (95, .ldc 36, 2), (97, .putfield 67, 3), (100, .aload_n 0, 1), (101, .iconst 0, 1), (102, .putfield 70, 3), (105, .return_, 1)]
set_option maxRecDepth 100000 in
theorem kc141 : chk cX10_begin K141 = true := by decide +kernel
theorem d141 {j pc len : Nat} {i : Instr} (h : K141[j]? = some (pc, i, len)) : decode (mB 141) pc = .ok (i, len) := by
  unfold mB
  rw [mX_141]
  exact chk_at kc141 j h
def K142 : List (Nat × Instr × Nat) := [(0, .aload_n 0, 1), (1, .getfield 26, 3), (4, .iconst 1, 1), (5, .if_icmp .ne 23, 3), (8, .aload_n 0, 1), (9, .getfield 15, 3), (12, .aload_n 1, 1), (13, .if_acmp .ne 15, 3), (16, .aload_n 0, 1), (17, .getfield 29, 3), (20, .iload_n 2, 1), (21, .if_icmp .ne 7, 3), (24, .iconst 1, 1), (25, .goto 4, 3), (28, .iconst 0, 1), (29, .ireturn, 1)]
set_option maxRecDepth 100000 in
theorem kc142 : chk cX10_standsIn K142 = true := by decide +kernel
theorem d142 {j pc len : Nat} {i : Instr} (h : K142[j]? = some (pc, i, len)) : decode (mB 142) pc = .ok (i, len) := by
  unfold mB
  rw [mX_142]
  exact chk_at kc142 j h
def K143 : List (Nat × Instr × Nat) := [(0, .aload_n 0, 1), (1, .getfield 33, 3), (4, .ldc 36, 2), (6, .if_icmp .eq 29, 3), (9, .aload_n 0, 1), (10, .getfield 29, 3), (13, .ifCond .eq 14, 3), (16, .iload_n 1, 1), (17, .aload_n 0, 1), (18, .getfield 33, 3), (21, .if_icmp .gt 18, 3), (24, .goto 11, 3), (27, .iload_n 1, 1), (28, .aload_n 0, 1), (29, .getfield 33, 3), (32, .if_icmp .lt 7, 3), (35, .iconst 1, 1), (36, .goto 4, 3), (39, .iconst 0, 1), (40, .ireturn, 1)]
set_option maxRecDepth 100000 in
theorem kc143 : chk cX10_allows K143 = true := by decide +kernel
theorem d143 {j pc len : Nat} {i : Instr} (h : K143[j]? = some (pc, i, len)) : decode (mB 143) pc = .ok (i, len) := by
  unfold mB
  rw [mX_143]
  exact chk_at kc143 j h
def K144 : List (Nat × Instr × Nat) := [(0, .aload_n 0, 1), (1, .getfield 29, 3), (4, .ifCond .eq 16, 3), (7, .iload_n 1, 1), (8, .iload_n 2, 1), (9, .if_icmp .le 7, 3), (12, .iconst 1, 1), (13, .goto 17, 3), (16, .iconst 0, 1), (17, .goto 13, 3), (20, .iload_n 1, 1), (21, .iload_n 2, 1), (22, .if_icmp .ge 7, 3), (25, .iconst 1, 1), (26, .goto 4, 3), (29, .iconst 0, 1), (30, .ireturn, 1)]
set_option maxRecDepth 100000 in
theorem kc144 : chk cX10_isBetter K144 = true := by decide +kernel
theorem d144 {j pc len : Nat} {i : Instr} (h : K144[j]? = some (pc, i, len)) : decode (mB 144) pc = .ok (i, len) := by
  unfold mB
  rw [mX_144]
  exact chk_at kc144 j h
def K145 : List (Nat × Instr × Nat) := [(0, .aload_n 0, 1), (1, .getfield 15, 3), (4, .getfield 73, 3), (7, .iload_n 1, 1), (8, .if_icmp .ne 11, 3), (11, .aload_n 0, 1), (12, .getfield 29, 3), (15, .iload_n 2, 1), (16, .if_icmp .eq 22, 3), (19, .aload_n 0, 1), (20, .getfield 15, 3), (23, .getfield 78, 3), (26, .iload_n 1, 1), (27, .if_icmp .ne 15, 3), (30, .aload_n 0, 1), (31, .getfield 29, 3), (34, .iload_n 2, 1), (35, .if_icmp .eq 7, 3), (38, .iconst 1, 1), (39, .goto 4, 3), (42, .iconst 0, 1), (43, .ireturn, 1)]
set_option maxRecDepth 100000 in
theorem kc145 : chk cX10_addsTo K145 = true := by decide +kernel
theorem d145 {j pc len : Nat} {i : Instr} (h : K145[j]? = some (pc, i, len)) : decode (mB 145) pc = .ok (i, len) := by
  unfold mB
  rw [mX_145]
  exact chk_at kc145 j h
def K146 : List (Nat × Instr × Nat) := [(0, .aload_n 0, 1), (1, .getfield 23, 3), (4, .iconst 2, 1), (5, .if_icmp .ne 63, 3), (8, .aload_n 0, 1), (9, .getfield 26, 3), (12, .iconst 2, 1), (13, .if_icmp .ne 55, 3), (16, .aload_n 0, 1), (17, .getfield 15, 3), (20, .getfield 81, 3), (23, .ifCond .ne 45, 3), (26, .aload_n 0, 1), (27, .getfield 29, 3), (30, .ifCond .eq 20, 3), (33, .aload_n 0, 1), (34, .getfield 15, 3), (37, .getfield 84, 3), (40, .aload_n 0, 1), (41, .getfield 64, 3), (44, .if_icmp .lt 24, 3), (47, .goto 17, 3), (50, .aload_n 0, 1), (51, .getfield 15, 3), (54, .getfield 84, 3), (57, .aload_n 0, 1), (58, .getfield 64, 3), (61, .if_icmp .gt 7, 3), (64, .iconst 1, 1), (65, .goto 4, 3), (68, .iconst 0, 1), (69, .ireturn, 1)]
set_option maxRecDepth 100000 in
theorem kc146 : chk cX10_isDue K146 = true := by decide +kernel
theorem d146 {j pc len : Nat} {i : Instr} (h : K146[j]? = some (pc, i, len)) : decode (mB 146) pc = .ok (i, len) := by
  unfold mB
  rw [mX_146]
  exact chk_at kc146 j h
def K147 : List (Nat × Instr × Nat) := [(0, .aload_n 0, 1), (1, .iconst 2, 1), (2, .putfield 26, 3), (5, .aload_n 0, 1), (6, .ldc 36, 2), (8, .putfield 37, 3), (11, .return_, 1)]
set_option maxRecDepth 100000 in
theorem kc147 : chk cX10_hold K147 = true := by decide +kernel
theorem d147 {j pc len : Nat} {i : Instr} (h : K147[j]? = some (pc, i, len)) : decode (mB 147) pc = .ok (i, len) := by
  unfold mB
  rw [mX_147]
  exact chk_at kc147 j h
def K148 : List (Nat × Instr × Nat) := [(0, .aload_n 0, 1), (1, .getfield 52, 3), (4, .aload_n 0, 1), (5, .getfield 49, 3), (8, .invokestatic 87, 3), (11, .ireturn, 1)]
set_option maxRecDepth 100000 in
theorem kc148 : chk cX10_showable K148 = true := by decide +kernel
theorem d148 {j pc len : Nat} {i : Instr} (h : K148[j]? = some (pc, i, len)) : decode (mB 148) pc = .ok (i, len) := by
  unfold mB
  rw [mX_148]
  exact chk_at kc148 j h
def K149 : List (Nat × Instr × Nat) := [(0, .aload_n 0, 1), (1, .dup, 1), (2, .getfield 49, 3), (5, .iload_n 1, 1), (6, .isub, 1), (7, .putfield 49, 3), (10, .aload_n 0, 1), (11, .dup, 1), (12, .getfield 55, 3), (15, .iload_n 1, 1), (16, .isub, 1), (17, .putfield 55, 3), (20, .aload_n 0, 1), (21, .iconst 1, 1), (22, .putfield 70, 3), (25, .aload_n 0, 1), (26, .getfield 49, 3), (29, .ifCond .gt 8, 3), (32, .aload_n 0, 1), (33, .iconst 0, 1), (34, .putfield 26, 3), (37, .return_, 1)]
set_option maxRecDepth 100000 in
theorem kc149 : chk cX10_fall K149 = true := by decide +kernel
theorem d149 {j pc len : Nat} {i : Instr} (h : K149[j]? = some (pc, i, len)) : decode (mB 149) pc = .ok (i, len) := by
  unfold mB
  rw [mX_149]
  exact chk_at kc149 j h
def K150 : List (Nat × Instr × Nat) := [(0, .aload_n 0, 1), (1, .invokespecial 1, 3), (4, .aload_n 0, 1), (5, .new 7, 3), (8, .dup, 1), (9, .invokespecial 9, 3), (12, .putfield 10, 3), (15, .aload_n 0, 1), (16, .new 7, 3), (19, .dup, 1), (20, .invokespecial 9, 3), (23, .putfield 16, 3), (26, .aload_n 0, 1), (27, .sipush 3584, 3), (30, .newarray .int, 2), (32, .putfield 19, 3), (35, .return_, 1)]
set_option maxRecDepth 100000 in
theorem kc150 : chk cX11_init K150 = true := by decide +kernel
theorem d150 {j pc len : Nat} {i : Instr} (h : K150[j]? = some (pc, i, len)) : decode (mB 150) pc = .ok (i, len) := by
  unfold mB
  rw [mX_150]
  exact chk_at kc150 j h
def K151 : List (Nat × Instr × Nat) := [(0, .iload_n 1, 1), (1, .invokestatic 23, 3), (4, .ifCond .eq 14, 3), (7, .iload_n 2, 1), (8, .invokestatic 27, 3), (11, .ifCond .eq 7, 3), (14, .iconst 1, 1), (15, .goto 4, 3), (18, .iconst 0, 1), (19, .invokestatic 30, 3), (22, .aload_n 0, 1), (23, .getfield 10, 3), (26, .getfield 34, 3), (29, .iload_n 2, 1), (30, .invokevirtual 38, 3), (33, .iload_n 3, 1), (34, .invokevirtual 44, 3), (37, .ifCond .eq 48, 3), (40, .iload 4, 2), (42, .invokestatic 49, 3), (45, .ifCond .eq 40, 3), (48, .iload 5, 2), (50, .ifCond .lt 35, 3), (53, .iload 5, 2), (55, .iload 4, 2), (57, .invokestatic 52, 3), (60, .if_icmp .gt 25, 3), (63, .iload 6, 2), (65, .ldc 58, 2), (67, .if_icmp .eq 14, 3), (70, .iload 6, 2), (72, .iconst 0, 1), (73, .bipush 9, 2), (75, .invokestatic 59, 3), (78, .ifCond .eq 7, 3), (81, .iconst 1, 1), (82, .goto 4, 3), (85, .iconst 0, 1), (86, .invokestatic 63, 3), (89, .aload_n 0, 1), (90, .getfield 10, 3), (93, .getfield 34, 3), (96, .iload_n 2, 1), (97, .invokevirtual 38, 3), (100, .getfield 66, 3), (103, .istore 7, 2), (105, .aload_n 0, 1), (106, .getfield 10, 3), (109, .iload_n 1, 1), (110, .iload_n 2, 1), (111, .iload 4, 2), (113, .invokevirtual 70, 3), (116, .ifCond .eq 24, 3), (119, .iload 7, 2), (121, .ifCond .eq 15, 3), (124, .iload 6, 2), (126, .ldc 58, 2), (128, .if_icmp .eq 12, 3), (131, .iload 5, 2), (133, .ifCond .gt 7, 3), (136, .iconst 1, 1), (137, .goto 4, 3), (140, .iconst 0, 1), (141, .invokestatic 73, 3), (144, .aload_n 0, 1), (145, .aload_n 0, 1), (146, .getfield 10, 3), (149, .aload_n 0, 1), (150, .iconst 1, 1), (151, .iload_n 1, 1), (152, .iload_n 2, 1), (153, .iload_n 3, 1), (154, .iload 4, 2), (156, .iload 5, 2), (158, .iload 6, 2), (160, .invokevirtual 76, 3), (163, .invokevirtual 80, 3), (166, .ireturn, 1)]
set_option maxRecDepth 100000 in
theorem kc151 : chk cX11_limit K151 = true := by decide +kernel
theorem d151 {j pc len : Nat} {i : Instr} (h : K151[j]? = some (pc, i, len)) : decode (mB 151) pc = .ok (i, len) := by
  unfold mB
  rw [mX_151]
  exact chk_at kc151 j h
def K152 : List (Nat × Instr × Nat) := [(0, .iload_n 1, 1), (1, .invokestatic 23, 3), (4, .ifCond .eq 14, 3), (7, .iload_n 2, 1), (8, .invokestatic 27, 3), (11, .ifCond .eq 7, 3), (14, .iconst 1, 1), (15, .goto 4, 3), (18, .iconst 0, 1), (19, .invokestatic 30, 3), (22, .iload_n 3, 1), (23, .invokestatic 49, 3), (26, .invokestatic 63, 3), (29, .aload_n 0, 1), (30, .getfield 10, 3), (33, .iload_n 1, 1), (34, .iload_n 2, 1), (35, .iload_n 3, 1), (36, .invokevirtual 70, 3), (39, .invokestatic 73, 3), (42, .aload_n 0, 1), (43, .aload_n 0, 1), (44, .getfield 10, 3), (47, .aload_n 0, 1), (48, .iconst 2, 1), (49, .iload_n 1, 1), (50, .iload_n 2, 1), (51, .iload_n 3, 1), (52, .iconst 0, 1), (53, .iconst 0, 1), (54, .iconst 0, 1), (55, .invokevirtual 76, 3), (58, .invokevirtual 80, 3), (61, .ireturn, 1)]
set_option maxRecDepth 100000 in
theorem kc152 : chk cX11_market K152 = true := by decide +kernel
theorem d152 {j pc len : Nat} {i : Instr} (h : K152[j]? = some (pc, i, len)) : decode (mB 152) pc = .ok (i, len) := by
  unfold mB
  rw [mX_152]
  exact chk_at kc152 j h
def K153 : List (Nat × Instr × Nat) := [(0, .iload_n 1, 1), (1, .invokestatic 23, 3), (4, .ifCond .eq 14, 3), (7, .iload_n 2, 1), (8, .invokestatic 27, 3), (11, .ifCond .eq 7, 3), (14, .iconst 1, 1), (15, .goto 4, 3), (18, .iconst 0, 1), (19, .invokestatic 30, 3), (22, .aload_n 0, 1), (23, .getfield 10, 3), (26, .getfield 34, 3), (29, .iload_n 2, 1), (30, .invokevirtual 38, 3), (33, .iload_n 3, 1), (34, .invokevirtual 44, 3), (37, .ifCond .eq 29, 3), (40, .iload 4, 2), (42, .invokestatic 49, 3), (45, .ifCond .eq 21, 3), (48, .iload 5, 2), (50, .iconst 1, 1), (51, .iload 4, 2), (53, .invokestatic 52, 3), (56, .invokestatic 59, 3), (59, .ifCond .eq 7, 3), (62, .iconst 1, 1), (63, .goto 4, 3), (66, .iconst 0, 1), (67, .invokestatic 63, 3), (70, .aload_n 0, 1), (71, .getfield 10, 3), (74, .iload_n 1, 1), (75, .iload_n 2, 1), (76, .iload 4, 2), (78, .invokevirtual 70, 3), (81, .invokestatic 73, 3), (84, .aload_n 0, 1), (85, .aload_n 0, 1), (86, .getfield 10, 3), (89, .aload_n 0, 1), (90, .iconst 3, 1), (91, .iload_n 1, 1), (92, .iload_n 2, 1), (93, .iload_n 3, 1), (94, .iload 4, 2), (96, .iload 5, 2), (98, .iconst 0, 1), (99, .invokevirtual 76, 3), (102, .invokevirtual 80, 3), (105, .ireturn, 1)]
set_option maxRecDepth 100000 in
theorem kc153 : chk cX11_iceberg K153 = true := by decide +kernel
theorem d153 {j pc len : Nat} {i : Instr} (h : K153[j]? = some (pc, i, len)) : decode (mB 153) pc = .ok (i, len) := by
  unfold mB
  rw [mX_153]
  exact chk_at kc153 j h
def K154 : List (Nat × Instr × Nat) := [(0, .iload_n 1, 1), (1, .invokestatic 23, 3), (4, .ifCond .eq 14, 3), (7, .iload_n 2, 1), (8, .invokestatic 27, 3), (11, .ifCond .eq 7, 3), (14, .iconst 1, 1), (15, .goto 4, 3), (18, .iconst 0, 1), (19, .invokestatic 30, 3), (22, .aload_n 0, 1), (23, .getfield 10, 3), (26, .getfield 34, 3), (29, .iload_n 2, 1), (30, .invokevirtual 38, 3), (33, .iload_n 3, 1), (34, .invokevirtual 44, 3), (37, .ifCond .eq 26, 3), (40, .iload 4, 2), (42, .invokestatic 49, 3), (45, .ifCond .eq 18, 3), (48, .iload 5, 2), (50, .iconst 0, 1), (51, .bipush 99, 2), (53, .invokestatic 59, 3), (56, .ifCond .eq 7, 3), (59, .iconst 1, 1), (60, .goto 4, 3), (63, .iconst 0, 1), (64, .invokestatic 63, 3), (67, .aload_n 0, 1), (68, .getfield 10, 3), (71, .iload_n 1, 1), (72, .iload_n 2, 1), (73, .iload 4, 2), (75, .invokevirtual 70, 3), (78, .invokestatic 73, 3), (81, .aload_n 0, 1), (82, .aload_n 0, 1), (83, .getfield 10, 3), (86, .aload_n 0, 1), (87, .iconst 4, 1), (88, .iload_n 1, 1), (89, .iload_n 2, 1), (90, .iload_n 3, 1), (91, .iload 4, 2), (93, .iload 5, 2), (95, .iconst 0, 1), (96, .invokevirtual 76, 3), (99, .invokevirtual 80, 3), (102, .ireturn, 1)]
set_option maxRecDepth 100000 in
theorem kc154 : chk cX11_peg K154 = true := by decide +kernel
theorem d154 {j pc len : Nat} {i : Instr} (h : K154[j]? = some (pc, i, len)) : decode (mB 154) pc = .ok (i, len) := by
  unfold mB
  rw [mX_154]
  exact chk_at kc154 j h
def K155 : List (Nat × Instr × Nat) := [(0, .iload_n 1, 1), (1, .invokestatic 23, 3), (4, .ifCond .eq 14, 3), (7, .iload_n 2, 1), (8, .invokestatic 84, 3), (11, .ifCond .eq 7, 3), (14, .iconst 1, 1), (15, .goto 4, 3), (18, .iconst 0, 1), (19, .invokestatic 30, 3), (22, .iload_n 3, 1), (23, .iconst 1, 1), (24, .sipush 9999, 3), (27, .invokestatic 59, 3), (30, .ifCond .eq 27, 3), (33, .iload 4, 2), (35, .iconst 0, 1), (36, .sipush 9999, 3), (39, .invokestatic 59, 3), (42, .ifCond .eq 15, 3), (45, .iload 5, 2), (47, .invokestatic 49, 3), (50, .ifCond .eq 7, 3), (53, .iconst 1, 1), (54, .goto 4, 3), (57, .iconst 0, 1), (58, .invokestatic 63, 3), (61, .aload_n 0, 1), (62, .getfield 10, 3), (65, .iload_n 1, 1), (66, .iload_n 2, 1), (67, .iload 5, 2), (69, .invokevirtual 70, 3), (72, .invokestatic 73, 3), (75, .aload_n 0, 1), (76, .aload_n 0, 1), (77, .getfield 10, 3), (80, .aload_n 0, 1), (81, .iconst 5, 1), (82, .iload_n 1, 1), (83, .iload_n 2, 1), (84, .iload_n 3, 1), (85, .iload 4, 2), (87, .iload 5, 2), (89, .iconst 0, 1), (90, .invokevirtual 76, 3), (93, .invokevirtual 80, 3), (96, .ireturn, 1)]
set_option maxRecDepth 100000 in
theorem kc155 : chk cX11_stop K155 = true := by decide +kernel
theorem d155 {j pc len : Nat} {i : Instr} (h : K155[j]? = some (pc, i, len)) : decode (mB 155) pc = .ok (i, len) := by
  unfold mB
  rw [mX_155]
  exact chk_at kc155 j h
def K156 : List (Nat × Instr × Nat) := [(0, .iload_n 1, 1), (1, .invokestatic 23, 3), (4, .ifCond .eq 14, 3), (7, .iload_n 2, 1), (8, .invokestatic 27, 3), (11, .ifCond .eq 7, 3), (14, .iconst 1, 1), (15, .goto 4, 3), (18, .iconst 0, 1), (19, .invokestatic 30, 3), (22, .aload_n 0, 1), (23, .getfield 10, 3), (26, .getfield 34, 3), (29, .iload_n 2, 1), (30, .invokevirtual 38, 3), (33, .astore 6, 2), (35, .aload 6, 2), (37, .iload_n 3, 1), (38, .invokevirtual 44, 3), (41, .ifCond .eq 34, 3), (44, .aload 6, 2), (46, .iload 4, 2), (48, .invokevirtual 44, 3), (51, .ifCond .eq 24, 3), (54, .iload 4, 2), (56, .iload_n 3, 1), (57, .if_icmp .le 18, 3), (60, .iload 5, 2), (62, .iconst 1, 1), (63, .bipush 50, 2), (65, .invokestatic 59, 3), (68, .ifCond .eq 7, 3), (71, .iconst 1, 1), (72, .goto 4, 3), (75, .iconst 0, 1), (76, .invokestatic 63, 3), (79, .aload_n 0, 1), (80, .getfield 10, 3), (83, .getfield 34, 3), (86, .invokevirtual 87, 3), (89, .iconst 2, 1), (90, .iadd, 1), (91, .bipush 40, 2), (93, .if_icmp .gt 36, 3), (96, .aload_n 0, 1), (97, .getfield 10, 3), (100, .iload_n 1, 1), (101, .iload_n 2, 1), (102, .iload 5, 2), (104, .invokevirtual 70, 3), (107, .ifCond .eq 22, 3), (110, .aload_n 0, 1), (111, .getfield 10, 3), (114, .iload_n 1, 1), (115, .iload_n 2, 1), (116, .iload 5, 2), (118, .ineg, 1), (119, .invokevirtual 70, 3), (122, .ifCond .eq 7, 3), (125, .iconst 1, 1), (126, .goto 4, 3), (129, .iconst 0, 1), (130, .invokestatic 73, 3), (133, .aload_n 0, 1), (134, .aload_n 0, 1), (135, .getfield 10, 3), (138, .aload_n 0, 1), (139, .bipush 6, 2), (141, .iload_n 1, 1), (142, .iload_n 2, 1), (143, .iload_n 3, 1), (144, .iload 4, 2), (146, .iload 5, 2), (148, .iconst 0, 1), (149, .invokevirtual 76, 3), (152, .invokevirtual 80, 3), (155, .ireturn, 1)]
set_option maxRecDepth 100000 in
theorem kc156 : chk cX11_quote K156 = true := by decide +kernel
theorem d156 {j pc len : Nat} {i : Instr} (h : K156[j]? = some (pc, i, len)) : decode (mB 156) pc = .ok (i, len) := by
  unfold mB
  rw [mX_156]
  exact chk_at kc156 j h
def K157 : List (Nat × Instr × Nat) := [(0, .iload_n 1, 1), (1, .invokestatic 27, 3), (4, .invokestatic 30, 3), (7, .iload_n 2, 1), (8, .iconst 0, 1), (9, .iconst 2, 1), (10, .invokestatic 59, 3), (13, .ifCond .eq 27, 3), (16, .iload_n 3, 1), (17, .iconst 0, 1), (18, .bipush 50, 2), (20, .invokestatic 59, 3), (23, .ifCond .eq 17, 3), (26, .iload 4, 2), (28, .iconst 0, 1), (29, .iconst 2, 1), (30, .invokestatic 59, 3), (33, .ifCond .eq 7, 3), (36, .iconst 1, 1), (37, .goto 4, 3), (40, .iconst 0, 1), (41, .invokestatic 63, 3), (44, .aload_n 0, 1), (45, .aload_n 0, 1), (46, .getfield 10, 3), (49, .aload_n 0, 1), (50, .bipush 8, 2), (52, .iload_n 1, 1), (53, .iload_n 2, 1), (54, .iload_n 3, 1), (55, .iload 4, 2), (57, .iconst 0, 1), (58, .iconst 0, 1), (59, .invokevirtual 76, 3), (62, .invokevirtual 80, 3), (65, .ireturn, 1)]
set_option maxRecDepth 100000 in
theorem kc157 : chk cX11_setRule K157 = true := by decide +kernel
theorem d157 {j pc len : Nat} {i : Instr} (h : K157[j]? = some (pc, i, len)) : decode (mB 157) pc = .ok (i, len) := by
  unfold mB
  rw [mX_157]
  exact chk_at kc157 j h
def K158 : List (Nat × Instr × Nat) := [(0, .iload_n 1, 1), (1, .invokestatic 27, 3), (4, .invokestatic 30, 3), (7, .iload_n 2, 1), (8, .iconst 0, 1), (9, .sipush 9999, 3), (12, .invokestatic 59, 3), (15, .invokestatic 63, 3), (18, .aload_n 0, 1), (19, .aload_n 0, 1), (20, .getfield 10, 3), (23, .aload_n 0, 1), (24, .bipush 9, 2), (26, .iload_n 1, 1), (27, .iload_n 2, 1), (28, .iconst 0, 1), (29, .iconst 0, 1), (30, .iconst 0, 1), (31, .iconst 0, 1), (32, .invokevirtual 76, 3), (35, .invokevirtual 80, 3), (38, .ireturn, 1)]
set_option maxRecDepth 100000 in
theorem kc158 : chk cX11_setBand K158 = true := by decide +kernel
theorem d158 {j pc len : Nat} {i : Instr} (h : K158[j]? = some (pc, i, len)) : decode (mB 158) pc = .ok (i, len) := by
  unfold mB
  rw [mX_158]
  exact chk_at kc158 j h
def K159 : List (Nat × Instr × Nat) := [(0, .iload_n 1, 1), (1, .invokestatic 23, 3), (4, .invokestatic 30, 3), (7, .iload_n 2, 1), (8, .iconst 0, 1), (9, .sipush 999, 3), (12, .invokestatic 59, 3), (15, .invokestatic 63, 3), (18, .aload_n 0, 1), (19, .aload_n 0, 1), (20, .getfield 10, 3), (23, .aload_n 0, 1), (24, .bipush 10, 2), (26, .iload_n 1, 1), (27, .iload_n 2, 1), (28, .iconst 0, 1), (29, .iconst 0, 1), (30, .iconst 0, 1), (31, .iconst 0, 1), (32, .invokevirtual 76, 3), (35, .invokevirtual 80, 3), (38, .ireturn, 1)]
set_option maxRecDepth 100000 in
theorem kc159 : chk cX11_setProtection K159 = true := by decide +kernel
theorem d159 {j pc len : Nat} {i : Instr} (h : K159[j]? = some (pc, i, len)) : decode (mB 159) pc = .ok (i, len) := by
  unfold mB
  rw [mX_159]
  exact chk_at kc159 j h
def K160 : List (Nat × Instr × Nat) := [(0, .iload_n 1, 1), (1, .invokestatic 27, 3), (4, .invokestatic 30, 3), (7, .iload_n 2, 1), (8, .iconst 1, 1), (9, .bipush 20, 2), (11, .invokestatic 59, 3), (14, .ifCond .eq 27, 3), (17, .iload_n 3, 1), (18, .iconst 0, 1), (19, .iload_n 2, 1), (20, .invokestatic 59, 3), (23, .ifCond .eq 18, 3), (26, .iload 4, 2), (28, .iconst 0, 1), (29, .bipush 9, 2), (31, .invokestatic 59, 3), (34, .ifCond .eq 7, 3), (37, .iconst 1, 1), (38, .goto 4, 3), (41, .iconst 0, 1), (42, .invokestatic 63, 3), (45, .aload_n 0, 1), (46, .getfield 10, 3), (49, .getfield 34, 3), (52, .iload_n 1, 1), (53, .invokevirtual 38, 3), (56, .getfield 66, 3), (59, .ifCond .ne 7, 3), (62, .iconst 1, 1), (63, .goto 4, 3), (66, .iconst 0, 1), (67, .invokestatic 73, 3), (70, .aload_n 0, 1), (71, .aload_n 0, 1), (72, .getfield 10, 3), (75, .aload_n 0, 1), (76, .bipush 12, 2), (78, .iload_n 1, 1), (79, .iload_n 2, 1), (80, .iload_n 3, 1), (81, .iload 4, 2), (83, .iconst 0, 1), (84, .iconst 0, 1), (85, .invokevirtual 76, 3), (88, .invokevirtual 80, 3), (91, .ireturn, 1)]
set_option maxRecDepth 100000 in
theorem kc160 : chk cX11_auction K160 = true := by decide +kernel
theorem d160 {j pc len : Nat} {i : Instr} (h : K160[j]? = some (pc, i, len)) : decode (mB 160) pc = .ok (i, len) := by
  unfold mB
  rw [mX_160]
  exact chk_at kc160 j h
def K161 : List (Nat × Instr × Nat) := [(0, .iload_n 1, 1), (1, .iconst 1, 1), (2, .bipush 20, 2), (4, .invokestatic 59, 3), (7, .invokestatic 63, 3), (10, .aload_n 0, 1), (11, .aload_n 0, 1), (12, .getfield 10, 3), (15, .aload_n 0, 1), (16, .bipush 13, 2), (18, .iload_n 1, 1), (19, .iconst 0, 1), (20, .iconst 0, 1), (21, .iconst 0, 1), (22, .iconst 0, 1), (23, .iconst 0, 1), (24, .invokevirtual 76, 3), (27, .invokevirtual 80, 3), (30, .ireturn, 1)]
set_option maxRecDepth 100000 in
theorem kc161 : chk cX11_pass K161 = true := by decide +kernel
theorem d161 {j pc len : Nat} {i : Instr} (h : K161[j]? = some (pc, i, len)) : decode (mB 161) pc = .ok (i, len) := by
  unfold mB
  rw [mX_161]
  exact chk_at kc161 j h
def K162 : List (Nat × Instr × Nat) := [(0, .aload_n 0, 1), (1, .getfield 10, 3), (4, .getfield 34, 3), (7, .invokevirtual 115, 3), (10, .ifCond .ne 7, 3), (13, .iconst 1, 1), (14, .goto 4, 3), (17, .iconst 0, 1), (18, .invokestatic 73, 3), (21, .aload_n 0, 1), (22, .aload_n 0, 1), (23, .getfield 10, 3), (26, .aload_n 0, 1), (27, .bipush 14, 2), (29, .iconst 0, 1), (30, .iconst 0, 1), (31, .iconst 0, 1), (32, .iconst 0, 1), (33, .iconst 0, 1), (34, .iconst 0, 1), (35, .invokevirtual 76, 3), (38, .invokevirtual 80, 3), (41, .ireturn, 1)]
set_option maxRecDepth 100000 in
theorem kc162 : chk cX11_endDay K162 = true := by decide +kernel
theorem d162 {j pc len : Nat} {i : Instr} (h : K162[j]? = some (pc, i, len)) : decode (mB 162) pc = .ok (i, len) := by
  unfold mB
  rw [mX_162]
  exact chk_at kc162 j h
def K163 : List (Nat × Instr × Nat) := [(0, .aload_n 0, 1), (1, .iload_n 1, 1), (2, .invokevirtual 119, 3), (5, .getfield 123, 3), (8, .ifCond .ne 7, 3), (11, .iconst 1, 1), (12, .goto 4, 3), (15, .iconst 0, 1), (16, .invokestatic 73, 3), (19, .aload_n 0, 1), (20, .aload_n 0, 1), (21, .getfield 10, 3), (24, .aload_n 0, 1), (25, .bipush 15, 2), (27, .iload_n 1, 1), (28, .iconst 0, 1), (29, .iconst 0, 1), (30, .iconst 0, 1), (31, .iconst 0, 1), (32, .iconst 0, 1), (33, .invokevirtual 76, 3), (36, .invokevirtual 80, 3), (39, .ireturn, 1)]
set_option maxRecDepth 100000 in
theorem kc163 : chk cX11_bust K163 = true := by decide +kernel
theorem d163 {j pc len : Nat} {i : Instr} (h : K163[j]? = some (pc, i, len)) : decode (mB 163) pc = .ok (i, len) := by
  unfold mB
  rw [mX_163]
  exact chk_at kc163 j h
def K164 : List (Nat × Instr × Nat) := [(0, .iload_n 1, 1), (1, .iconst 0, 1), (2, .iconst 2, 1), (3, .invokestatic 59, 3), (6, .invokestatic 30, 3), (9, .iload_n 2, 1), (10, .iconst 1, 1), (11, .bipush 9, 2), (13, .invokestatic 59, 3), (16, .ifCond .eq 17, 3), (19, .iload_n 3, 1), (20, .iconst 1, 1), (21, .bipush 9, 2), (23, .invokestatic 59, 3), (26, .ifCond .eq 7, 3), (29, .iconst 1, 1), (30, .goto 4, 3), (33, .iconst 0, 1), (34, .invokestatic 63, 3), (37, .aload_n 0, 1), (38, .getfield 10, 3), (41, .getfield 141, 3), (44, .iload_n 1, 1), (45, .iload_n 2, 1), (46, .iload_n 3, 1), (47, .invokevirtual 157, 3), (50, .invokestatic 73, 3), (53, .aload_n 0, 1), (54, .aload_n 0, 1), (55, .getfield 10, 3), (58, .aload_n 0, 1), (59, .bipush 20, 2), (61, .iload_n 1, 1), (62, .iload_n 2, 1), (63, .iload_n 3, 1), (64, .iconst 0, 1), (65, .iconst 0, 1), (66, .iconst 0, 1), (67, .invokevirtual 76, 3), (70, .invokevirtual 80, 3), (73, .ireturn, 1)]
set_option maxRecDepth 100000 in
theorem kc164 : chk cX11_convert K164 = true := by decide +kernel
theorem d164 {j pc len : Nat} {i : Instr} (h : K164[j]? = some (pc, i, len)) : decode (mB 164) pc = .ok (i, len) := by
  unfold mB
  rw [mX_164]
  exact chk_at kc164 j h
def K165 : List (Nat × Instr × Nat) := [(0, .iload_n 1, 1), (1, .iconst 0, 1), (2, .iconst 3, 1), (3, .invokestatic 59, 3), (6, .ifCond .eq 14, 3), (9, .iload_n 2, 1), (10, .invokestatic 84, 3), (13, .ifCond .eq 7, 3), (16, .iconst 1, 1), (17, .goto 4, 3), (20, .iconst 0, 1), (21, .invokestatic 30, 3), (24, .iload_n 3, 1), (25, .bipush (-99), 2), (27, .bipush 99, 2), (29, .invokestatic 59, 3), (32, .invokestatic 63, 3), (35, .aload_n 0, 1), (36, .aload_n 0, 1), (37, .getfield 10, 3), (40, .aload_n 0, 1), (41, .bipush 21, 2), (43, .iload_n 1, 1), (44, .iload_n 2, 1), (45, .iload_n 3, 1), (46, .iconst 0, 1), (47, .iconst 0, 1), (48, .iconst 0, 1), (49, .invokevirtual 76, 3), (52, .invokevirtual 80, 3), (55, .ireturn, 1)]
set_option maxRecDepth 100000 in
theorem kc165 : chk cX11_setMove K165 = true := by decide +kernel
theorem d165 {j pc len : Nat} {i : Instr} (h : K165[j]? = some (pc, i, len)) : decode (mB 165) pc = .ok (i, len) := by
  unfold mB
  rw [mX_165]
  exact chk_at kc165 j h
def K166 : List (Nat × Instr × Nat) := [(0, .iload_n 1, 1), (1, .iconst 0, 1), (2, .bipush 100, 2), (4, .invokestatic 59, 3), (7, .invokestatic 63, 3), (10, .aload_n 0, 1), (11, .aload_n 0, 1), (12, .getfield 10, 3), (15, .aload_n 0, 1), (16, .bipush 22, 2), (18, .iload_n 1, 1), (19, .iconst 0, 1), (20, .iconst 0, 1), (21, .iconst 0, 1), (22, .iconst 0, 1), (23, .iconst 0, 1), (24, .invokevirtual 76, 3), (27, .invokevirtual 80, 3), (30, .ireturn, 1)]
set_option maxRecDepth 100000 in
theorem kc166 : chk cX11_setHaircut K166 = true := by decide +kernel
theorem d166 {j pc len : Nat} {i : Instr} (h : K166[j]? = some (pc, i, len)) : decode (mB 166) pc = .ok (i, len) := by
  unfold mB
  rw [mX_166]
  exact chk_at kc166 j h
def K167 : List (Nat × Instr × Nat) := [(0, .iload_n 1, 1), (1, .invokestatic 160, 3), (4, .invokestatic 30, 3), (7, .iload_n 2, 1), (8, .sipush (-9999), 3), (11, .sipush 9999, 3), (14, .invokestatic 59, 3), (17, .ifCond .eq 18, 3), (20, .iload_n 3, 1), (21, .bipush (-99), 2), (23, .bipush 99, 2), (25, .invokestatic 59, 3), (28, .ifCond .eq 7, 3), (31, .iconst 1, 1), (32, .goto 4, 3), (35, .iconst 0, 1), (36, .invokestatic 63, 3), (39, .aload_n 0, 1), (40, .getfield 10, 3), (43, .getfield 163, 3), (46, .iload_n 1, 1), (47, .iload_n 2, 1), (48, .iload_n 3, 1), (49, .invokevirtual 167, 3), (52, .invokestatic 73, 3), (55, .aload_n 0, 1), (56, .aload_n 0, 1), (57, .getfield 10, 3), (60, .aload_n 0, 1), (61, .bipush 23, 2), (63, .iload_n 1, 1), (64, .iload_n 2, 1), (65, .iload_n 3, 1), (66, .iconst 0, 1), (67, .iconst 0, 1), (68, .iconst 0, 1), (69, .invokevirtual 76, 3), (72, .invokevirtual 80, 3), (75, .ireturn, 1)]
set_option maxRecDepth 100000 in
theorem kc167 : chk cX11_pay K167 = true := by decide +kernel
theorem d167 {j pc len : Nat} {i : Instr} (h : K167[j]? = some (pc, i, len)) : decode (mB 167) pc = .ok (i, len) := by
  unfold mB
  rw [mX_167]
  exact chk_at kc167 j h
def K168 : List (Nat × Instr × Nat) := [(0, .iload_n 1, 1), (1, .invokestatic 160, 3), (4, .invokestatic 30, 3), (7, .aload_n 0, 1), (8, .getfield 10, 3), (11, .getfield 163, 3), (14, .iload_n 1, 1), (15, .invokevirtual 181, 3), (18, .invokestatic 73, 3), (21, .aload_n 0, 1), (22, .aload_n 0, 1), (23, .getfield 10, 3), (26, .aload_n 0, 1), (27, .bipush 25, 2), (29, .iload_n 1, 1), (30, .iconst 0, 1), (31, .iconst 0, 1), (32, .iconst 0, 1), (33, .iconst 0, 1), (34, .iconst 0, 1), (35, .invokevirtual 76, 3), (38, .invokevirtual 80, 3), (41, .ireturn, 1)]
set_option maxRecDepth 100000 in
theorem kc168 : chk cX11_fail K168 = true := by decide +kernel
theorem d168 {j pc len : Nat} {i : Instr} (h : K168[j]? = some (pc, i, len)) : decode (mB 168) pc = .ok (i, len) := by
  unfold mB
  rw [mX_168]
  exact chk_at kc168 j h
def K169 : List (Nat × Instr × Nat) := [(0, .iload_n 1, 1), (1, .invokestatic 160, 3), (4, .invokestatic 30, 3), (7, .iload_n 2, 1), (8, .sipush (-9999), 3), (11, .sipush 9999, 3), (14, .invokestatic 59, 3), (17, .invokestatic 63, 3), (20, .aload_n 0, 1), (21, .getfield 10, 3), (24, .getfield 163, 3), (27, .getfield 184, 3), (30, .ldc 58, 2), (32, .if_icmp .eq 24, 3), (35, .aload_n 0, 1), (36, .getfield 10, 3), (39, .getfield 163, 3), (42, .iload_n 1, 1), (43, .invokevirtual 172, 3), (46, .getfield 176, 3), (49, .ifCond .ne 7, 3), (52, .iconst 1, 1), (53, .goto 4, 3), (56, .iconst 0, 1), (57, .invokestatic 73, 3), (60, .aload_n 0, 1), (61, .aload_n 0, 1), (62, .getfield 10, 3), (65, .aload_n 0, 1), (66, .bipush 26, 2), (68, .iload_n 1, 1), (69, .iload_n 2, 1), (70, .iconst 0, 1), (71, .iconst 0, 1), (72, .iconst 0, 1), (73, .iconst 0, 1), (74, .invokevirtual 76, 3), (77, .invokevirtual 80, 3), (80, .ireturn, 1)]
set_option maxRecDepth 100000 in
theorem kc169 : chk cX11_bid K169 = true := by decide +kernel
theorem d169 {j pc len : Nat} {i : Instr} (h : K169[j]? = some (pc, i, len)) : decode (mB 169) pc = .ok (i, len) := by
  unfold mB
  rw [mX_169]
  exact chk_at kc169 j h
def K170 : List (Nat × Instr × Nat) := [(0, .aload_n 0, 1), (1, .getfield 10, 3), (4, .getfield 163, 3), (7, .getfield 184, 3), (10, .ldc 58, 2), (12, .if_icmp .eq 7, 3), (15, .iconst 1, 1), (16, .goto 4, 3), (19, .iconst 0, 1), (20, .invokestatic 73, 3), (23, .aload_n 0, 1), (24, .aload_n 0, 1), (25, .getfield 10, 3), (28, .aload_n 0, 1), (29, .bipush 27, 2), (31, .iconst 0, 1), (32, .iconst 0, 1), (33, .iconst 0, 1), (34, .iconst 0, 1), (35, .iconst 0, 1), (36, .iconst 0, 1), (37, .invokevirtual 76, 3), (40, .invokevirtual 80, 3), (43, .ireturn, 1)]
set_option maxRecDepth 100000 in
theorem kc170 : chk cX11_closeOut K170 = true := by decide +kernel
theorem d170 {j pc len : Nat} {i : Instr} (h : K170[j]? = some (pc, i, len)) : decode (mB 170) pc = .ok (i, len) := by
  unfold mB
  rw [mX_170]
  exact chk_at kc170 j h
def K171 : List (Nat × Instr × Nat) := [(0, .aload_n 0, 1), (1, .aload_n 0, 1), (2, .getfield 187, 3), (5, .putfield 190, 3), (8, .aload_n 0, 1), (9, .getfield 190, 3), (12, .ireturn, 1)]
set_option maxRecDepth 100000 in
theorem kc171 : chk cX11_keep K171 = true := by decide +kernel
theorem d171 {j pc len : Nat} {i : Instr} (h : K171[j]? = some (pc, i, len)) : decode (mB 171) pc = .ok (i, len) := by
  unfold mB
  rw [mX_171]
  exact chk_at kc171 j h
def K172 : List (Nat × Instr × Nat) := [(0, .aload_n 0, 1), (1, .getfield 187, 3), (4, .aload_n 0, 1), (5, .getfield 190, 3), (8, .isub, 1), (9, .istore_n 1, 1), (10, .aload_n 0, 1), (11, .aload_n 0, 1), (12, .getfield 190, 3), (15, .putfield 187, 3), (18, .aload_n 0, 1), (19, .getfield 10, 3), (22, .invokevirtual 193, 3), (25, .iconst 0, 1), (26, .istore_n 2, 1), (27, .iload_n 2, 1), (28, .aload_n 0, 1), (29, .getfield 187, 3), (32, .if_icmp .ge 19, 3), (35, .aload_n 0, 1), (36, .aload_n 0, 1), (37, .getfield 10, 3), (40, .iload_n 2, 1), (41, .invokevirtual 80, 3), (44, .pop, 1), (45, .iinc 2 1, 3), (48, .goto (-21), 3), (51, .aload_n 0, 1), (52, .getfield 196, 3), (55, .aload_n 0, 1), (56, .getfield 187, 3), (59, .if_icmp .le 15, 3), (62, .aload_n 0, 1), (63, .getfield 16, 3), (66, .invokevirtual 193, 3), (69, .aload_n 0, 1), (70, .iconst 0, 1), (71, .putfield 196, 3), (74, .iload_n 1, 1), (75, .ireturn, 1)]
set_option maxRecDepth 100000 in
theorem kc172 : chk cX11_failOver K172 = true := by decide +kernel
theorem d172 {j pc len : Nat} {i : Instr} (h : K172[j]? = some (pc, i, len)) : decode (mB 172) pc = .ok (i, len) := by
  unfold mB
  rw [mX_172]
  exact chk_at kc172 j h
def K173 : List (Nat × Instr × Nat) := [(0, .aload_n 0, 1), (1, .getfield 187, 3), (4, .ireturn, 1)]
set_option maxRecDepth 100000 in
theorem kc173 : chk cX11_events K173 = true := by decide +kernel
theorem d173 {j pc len : Nat} {i : Instr} (h : K173[j]? = some (pc, i, len)) : decode (mB 173) pc = .ok (i, len) := by
  unfold mB
  rw [mX_173]
  exact chk_at kc173 j h
def K174 : List (Nat × Instr × Nat) := [(0, .iload_n 1, 1), (1, .iconst 0, 1), (2, .bipush 8, 2), (4, .invokestatic 59, 3), (7, .ifCond .eq 14, 3), (10, .iload_n 2, 1), (11, .invokestatic 84, 3), (14, .ifCond .eq 7, 3), (17, .iconst 1, 1), (18, .goto 4, 3), (21, .iconst 0, 1), (22, .invokestatic 30, 3), (25, .aload_n 0, 1), (26, .getfield 196, 3), (29, .aload_n 0, 1), (30, .getfield 187, 3), (33, .if_icmp .ge 29, 3), (36, .aload_n 0, 1), (37, .aload_n 0, 1), (38, .getfield 16, 3), (41, .aload_n 0, 1), (42, .getfield 196, 3), (45, .invokevirtual 80, 3), (48, .pop, 1), (49, .aload_n 0, 1), (50, .dup, 1), (51, .getfield 196, 3), (54, .iconst 1, 1), (55, .iadd, 1), (56, .putfield 196, 3), (59, .goto (-34), 3), (62, .aload_n 0, 1), (63, .getfield 16, 3), (66, .getfield 141, 3), (69, .iload_n 1, 1), (70, .invokevirtual 150, 3), (73, .iload_n 2, 1), (74, .invokevirtual 154, 3), (77, .ireturn, 1)]
set_option maxRecDepth 100000 in
theorem kc174 : chk cX11_positionByLog K174 = true := by decide +kernel
theorem d174 {j pc len : Nat} {i : Instr} (h : K174[j]? = some (pc, i, len)) : decode (mB 174) pc = .ok (i, len) := by
  unfold mB
  rw [mX_174]
  exact chk_at kc174 j h
def K175 : List (Nat × Instr × Nat) := [(0, .iload_n 1, 1), (1, .invokestatic 27, 3), (4, .invokestatic 30, 3), (7, .aload_n 0, 1), (8, .getfield 196, 3), (11, .aload_n 0, 1), (12, .getfield 187, 3), (15, .if_icmp .ge 29, 3), (18, .aload_n 0, 1), (19, .aload_n 0, 1), (20, .getfield 16, 3), (23, .aload_n 0, 1), (24, .getfield 196, 3), (27, .invokevirtual 80, 3), (30, .pop, 1), (31, .aload_n 0, 1), (32, .dup, 1), (33, .getfield 196, 3), (36, .iconst 1, 1), (37, .iadd, 1), (38, .putfield 196, 3), (41, .goto (-34), 3), (44, .aload_n 0, 1), (45, .getfield 16, 3), (48, .getfield 34, 3), (51, .aload_n 0, 1), (52, .getfield 16, 3), (55, .getfield 34, 3), (58, .iload_n 1, 1), (59, .invokevirtual 38, 3), (62, .iload_n 2, 1), (63, .iconst 1, 1), (64, .invokevirtual 199, 3), (67, .ireturn, 1)]
set_option maxRecDepth 100000 in
theorem kc175 : chk cX11_bestByLog K175 = true := by decide +kernel
theorem d175 {j pc len : Nat} {i : Instr} (h : K175[j]? = some (pc, i, len)) : decode (mB 175) pc = .ok (i, len) := by
  unfold mB
  rw [mX_175]
  exact chk_at kc175 j h
def K176 : List (Nat × Instr × Nat) := [(0, .iload_n 1, 1), (1, .invokestatic 27, 3), (4, .invokestatic 30, 3), (7, .aload_n 0, 1), (8, .getfield 10, 3), (11, .getfield 34, 3), (14, .aload_n 0, 1), (15, .getfield 10, 3), (18, .getfield 34, 3), (21, .iload_n 1, 1), (22, .invokevirtual 38, 3), (25, .iload_n 2, 1), (26, .iconst 1, 1), (27, .invokevirtual 199, 3), (30, .ireturn, 1)]
set_option maxRecDepth 100000 in
theorem kc176 : chk cX11_best K176 = true := by decide +kernel
theorem d176 {j pc len : Nat} {i : Instr} (h : K176[j]? = some (pc, i, len)) : decode (mB 176) pc = .ok (i, len) := by
  unfold mB
  rw [mX_176]
  exact chk_at kc176 j h
def K177 : List (Nat × Instr × Nat) := [(0, .iload_n 1, 1), (1, .invokestatic 27, 3), (4, .invokestatic 30, 3), (7, .aload_n 0, 1), (8, .getfield 10, 3), (11, .getfield 34, 3), (14, .aload_n 0, 1), (15, .getfield 10, 3), (18, .getfield 34, 3), (21, .iload_n 1, 1), (22, .invokevirtual 38, 3), (25, .iload_n 2, 1), (26, .iload_n 3, 1), (27, .invokevirtual 203, 3), (30, .ireturn, 1)]
set_option maxRecDepth 100000 in
theorem kc177 : chk cX11_shown K177 = true := by decide +kernel
theorem d177 {j pc len : Nat} {i : Instr} (h : K177[j]? = some (pc, i, len)) : decode (mB 177) pc = .ok (i, len) := by
  unfold mB
  rw [mX_177]
  exact chk_at kc177 j h
def K178 : List (Nat × Instr × Nat) := [(0, .aload_n 0, 1), (1, .getfield 10, 3), (4, .getfield 34, 3), (7, .iload_n 1, 1), (8, .invokevirtual 91, 3), (11, .astore_n 2, 1), (12, .aload_n 2, 1), (13, .ifnonnull 7, 3), (16, .iconst 0, 1), (17, .goto 7, 3), (20, .aload_n 2, 1), (21, .getfield 207, 3), (24, .ireturn, 1)]
set_option maxRecDepth 100000 in
theorem kc178 : chk cX11_stateOf K178 = true := by decide +kernel
theorem d178 {j pc len : Nat} {i : Instr} (h : K178[j]? = some (pc, i, len)) : decode (mB 178) pc = .ok (i, len) := by
  unfold mB
  rw [mX_178]
  exact chk_at kc178 j h
def K179 : List (Nat × Instr × Nat) := [(0, .aload_n 0, 1), (1, .getfield 10, 3), (4, .getfield 34, 3), (7, .iload_n 1, 1), (8, .invokevirtual 91, 3), (11, .astore_n 2, 1), (12, .aload_n 2, 1), (13, .ifnonnull 13, 3), (16, .new 95, 3), (19, .dup, 1), (20, .ldc 97, 2), (22, .invokespecial 99, 3), (25, .athrow, 1), (26, .aload_n 2, 1), (27, .getfield 210, 3), (30, .ireturn, 1)]
set_option maxRecDepth 100000 in
theorem kc179 : chk cX11_rest K179 = true := by decide +kernel
theorem d179 {j pc len : Nat} {i : Instr} (h : K179[j]? = some (pc, i, len)) : decode (mB 179) pc = .ok (i, len) := by
  unfold mB
  rw [mX_179]
  exact chk_at kc179 j h
def K180 : List (Nat × Instr × Nat) := [(0, .aload_n 0, 1), (1, .getfield 10, 3), (4, .getfield 34, 3), (7, .iload_n 1, 1), (8, .invokevirtual 91, 3), (11, .astore_n 2, 1), (12, .aload_n 2, 1), (13, .ifnonnull 13, 3), (16, .new 95, 3), (19, .dup, 1), (20, .ldc 97, 2), (22, .invokespecial 99, 3), (25, .athrow, 1), (26, .aload_n 2, 1), (27, .getfield 213, 3), (30, .ireturn, 1)]
set_option maxRecDepth 100000 in
theorem kc180 : chk cX11_priceOf K180 = true := by decide +kernel
theorem d180 {j pc len : Nat} {i : Instr} (h : K180[j]? = some (pc, i, len)) : decode (mB 180) pc = .ok (i, len) := by
  unfold mB
  rw [mX_180]
  exact chk_at kc180 j h
def K181 : List (Nat × Instr × Nat) := [(0, .iload_n 1, 1), (1, .invokestatic 27, 3), (4, .invokestatic 30, 3), (7, .aload_n 0, 1), (8, .getfield 10, 3), (11, .getfield 34, 3), (14, .iload_n 1, 1), (15, .invokevirtual 38, 3), (18, .astore_n 3, 1), (19, .iload_n 2, 1), (20, .ifCond .eq 10, 3), (23, .aload_n 3, 1), (24, .getfield 216, 3), (27, .goto 7, 3), (30, .aload_n 3, 1), (31, .getfield 219, 3), (34, .ireturn, 1)]
set_option maxRecDepth 100000 in
theorem kc181 : chk cX11_last K181 = true := by decide +kernel
theorem d181 {j pc len : Nat} {i : Instr} (h : K181[j]? = some (pc, i, len)) : decode (mB 181) pc = .ok (i, len) := by
  unfold mB
  rw [mX_181]
  exact chk_at kc181 j h
def K182 : List (Nat × Instr × Nat) := [(0, .iload_n 1, 1), (1, .invokestatic 27, 3), (4, .invokestatic 30, 3), (7, .aload_n 0, 1), (8, .getfield 10, 3), (11, .getfield 34, 3), (14, .iload_n 1, 1), (15, .invokevirtual 38, 3), (18, .astore_n 2, 1), (19, .aload_n 2, 1), (20, .getfield 66, 3), (23, .ifCond .eq 10, 3), (26, .aload_n 2, 1), (27, .getfield 222, 3), (30, .goto 5, 3), (33, .ldc 58, 2), (35, .ireturn, 1)]
set_option maxRecDepth 100000 in
theorem kc182 : chk cX11_endOf K182 = true := by decide +kernel
theorem d182 {j pc len : Nat} {i : Instr} (h : K182[j]? = some (pc, i, len)) : decode (mB 182) pc = .ok (i, len) := by
  unfold mB
  rw [mX_182]
  exact chk_at kc182 j h
def K183 : List (Nat × Instr × Nat) := [(0, .iload_n 1, 1), (1, .invokestatic 27, 3), (4, .invokestatic 30, 3), (7, .aload_n 0, 1), (8, .getfield 10, 3), (11, .getfield 34, 3), (14, .iload_n 1, 1), (15, .invokevirtual 38, 3), (18, .astore_n 3, 1), (19, .aload_n 3, 1), (20, .getfield 66, 3), (23, .ifCond .eq 17, 3), (26, .aload_n 0, 1), (27, .getfield 10, 3), (30, .getfield 225, 3), (33, .aload_n 3, 1), (34, .invokevirtual 229, 3), (37, .goto 5, 3), (40, .ldc 58, 2), (42, .istore 4, 2), (44, .iload_n 2, 1), (45, .ifCond .eq 28, 3), (48, .iload 4, 2), (50, .ldc 58, 2), (52, .if_icmp .ne 7, 3), (55, .iconst 0, 1), (56, .goto 16, 3), (59, .aload_n 0, 1), (60, .getfield 10, 3), (63, .getfield 225, 3), (66, .aload_n 3, 1), (67, .iload 4, 2), (69, .invokevirtual 235, 3), (72, .ireturn, 1), (73, .iload 4, 2), (75, .ireturn, 1)]
set_option maxRecDepth 100000 in
theorem kc183 : chk cX11_indicated K183 = true := by decide +kernel
theorem d183 {j pc len : Nat} {i : Instr} (h : K183[j]? = some (pc, i, len)) : decode (mB 183) pc = .ok (i, len) := by
  unfold mB
  rw [mX_183]
  exact chk_at kc183 j h
def K184 : List (Nat × Instr × Nat) := [(0, .aload_n 0, 1), (1, .getfield 10, 3), (4, .getfield 141, 3), (7, .getfield 239, 3), (10, .ireturn, 1)]
set_option maxRecDepth 100000 in
theorem kc184 : chk cX11_trades K184 = true := by decide +kernel
theorem d184 {j pc len : Nat} {i : Instr} (h : K184[j]? = some (pc, i, len)) : decode (mB 184) pc = .ok (i, len) := by
  unfold mB
  rw [mX_184]
  exact chk_at kc184 j h
def K185 : List (Nat × Instr × Nat) := [(0, .aload_n 0, 1), (1, .iload_n 1, 1), (2, .invokevirtual 119, 3), (5, .astore_n 3, 1), (6, .iload_n 2, 1), (7, .iconst 0, 1), (8, .iconst 5, 1), (9, .invokestatic 59, 3), (12, .invokestatic 63, 3), (15, .aload_n 3, 1), (16, .iload_n 2, 1), (17, .invokevirtual 242, 3), (20, .ireturn, 1)]
set_option maxRecDepth 100000 in
theorem kc185 : chk cX11_trade K185 = true := by decide +kernel
theorem d185 {j pc len : Nat} {i : Instr} (h : K185[j]? = some (pc, i, len)) : decode (mB 185) pc = .ok (i, len) := by
  unfold mB
  rw [mX_185]
  exact chk_at kc185 j h
def K186 : List (Nat × Instr × Nat) := [(0, .iload_n 1, 1), (1, .iconst 0, 1), (2, .bipush 8, 2), (4, .invokestatic 59, 3), (7, .ifCond .eq 14, 3), (10, .iload_n 2, 1), (11, .invokestatic 84, 3), (14, .ifCond .eq 7, 3), (17, .iconst 1, 1), (18, .goto 4, 3), (21, .iconst 0, 1), (22, .invokestatic 30, 3), (25, .aload_n 0, 1), (26, .getfield 10, 3), (29, .getfield 141, 3), (32, .iload_n 1, 1), (33, .invokevirtual 150, 3), (36, .iload_n 2, 1), (37, .invokevirtual 154, 3), (40, .ireturn, 1)]
set_option maxRecDepth 100000 in
theorem kc186 : chk cX11_position K186 = true := by decide +kernel
theorem d186 {j pc len : Nat} {i : Instr} (h : K186[j]? = some (pc, i, len)) : decode (mB 186) pc = .ok (i, len) := by
  unfold mB
  rw [mX_186]
  exact chk_at kc186 j h
def K187 : List (Nat × Instr × Nat) := [(0, .iload_n 1, 1), (1, .iconst 0, 1), (2, .bipush 8, 2), (4, .invokestatic 59, 3), (7, .invokestatic 30, 3), (10, .aload_n 0, 1), (11, .getfield 10, 3), (14, .getfield 141, 3), (17, .iload_n 1, 1), (18, .invokevirtual 150, 3), (21, .getfield 245, 3), (24, .lreturn, 1)]
set_option maxRecDepth 100000 in
theorem kc187 : chk cX11_cash K187 = true := by decide +kernel
theorem d187 {j pc len : Nat} {i : Instr} (h : K187[j]? = some (pc, i, len)) : decode (mB 187) pc = .ok (i, len) := by
  unfold mB
  rw [mX_187]
  exact chk_at kc187 j h
def K188 : List (Nat × Instr × Nat) := [(0, .iload_n 1, 1), (1, .invokestatic 160, 3), (4, .invokestatic 30, 3), (7, .iload_n 2, 1), (8, .iconst 0, 1), (9, .bipush 6, 2), (11, .invokestatic 59, 3), (14, .invokestatic 63, 3), (17, .aload_n 0, 1), (18, .getfield 10, 3), (21, .getfield 163, 3), (24, .iload_n 1, 1), (25, .iload_n 2, 1), (26, .invokevirtual 252, 3), (29, .lreturn, 1)]
set_option maxRecDepth 100000 in
theorem kc188 : chk cX11_member K188 = true := by decide +kernel
theorem d188 {j pc len : Nat} {i : Instr} (h : K188[j]? = some (pc, i, len)) : decode (mB 188) pc = .ok (i, len) := by
  unfold mB
  rw [mX_188]
  exact chk_at kc188 j h
def K189 : List (Nat × Instr × Nat) := [(0, .aload_n 0, 1), (1, .getfield 10, 3), (4, .getfield 163, 3), (7, .getfield 255, 3), (10, .ireturn, 1)]
set_option maxRecDepth 100000 in
theorem kc189 : chk cX11_stake K189 = true := by decide +kernel
theorem d189 {j pc len : Nat} {i : Instr} (h : K189[j]? = some (pc, i, len)) : decode (mB 189) pc = .ok (i, len) := by
  unfold mB
  rw [mX_189]
  exact chk_at kc189 j h
def K190 : List (Nat × Instr × Nat) := [(0, .iload_n 0, 1), (1, .ifCond .ne 14, 3), (4, .new 95, 3), (7, .dup, 1), (8, .ldc_w 258, 3), (11, .invokespecial 99, 3), (14, .athrow, 1), (15, .return_, 1)]
set_option maxRecDepth 100000 in
theorem kc190 : chk cX11_needPlace K190 = true := by decide +kernel
theorem d190 {j pc len : Nat} {i : Instr} (h : K190[j]? = some (pc, i, len)) : decode (mB 190) pc = .ok (i, len) := by
  unfold mB
  rw [mX_190]
  exact chk_at kc190 j h
def K191 : List (Nat × Instr × Nat) := [(0, .iload_n 0, 1), (1, .ifCond .ne 14, 3), (4, .new 260, 3), (7, .dup, 1), (8, .ldc_w 262, 3), (11, .invokespecial 264, 3), (14, .athrow, 1), (15, .return_, 1)]
set_option maxRecDepth 100000 in
theorem kc191 : chk cX11_needRange K191 = true := by decide +kernel
theorem d191 {j pc len : Nat} {i : Instr} (h : K191[j]? = some (pc, i, len)) : decode (mB 191) pc = .ok (i, len) := by
  unfold mB
  rw [mX_191]
  exact chk_at kc191 j h
def K192 : List (Nat × Instr × Nat) := [(0, .iload_n 0, 1), (1, .ifCond .ne 14, 3), (4, .new 265, 3), (7, .dup, 1), (8, .ldc_w 267, 3), (11, .invokespecial 269, 3), (14, .athrow, 1), (15, .return_, 1)]
set_option maxRecDepth 100000 in
theorem kc192 : chk cX11_needState K192 = true := by decide +kernel
theorem d192 {j pc len : Nat} {i : Instr} (h : K192[j]? = some (pc, i, len)) : decode (mB 192) pc = .ok (i, len) := by
  unfold mB
  rw [mX_192]
  exact chk_at kc192 j h
def K193 : List (Nat × Instr × Nat) := [(0, .iload_n 0, 1), (1, .iload_n 1, 1), (2, .if_icmp .lt 12, 3), (5, .iload_n 0, 1), (6, .iload_n 2, 1), (7, .if_icmp .gt 7, 3), (10, .iconst 1, 1), (11, .goto 4, 3), (14, .iconst 0, 1), (15, .ireturn, 1)]
set_option maxRecDepth 100000 in
theorem kc193 : chk cX11_isWithin K193 = true := by decide +kernel
theorem d193 {j pc len : Nat} {i : Instr} (h : K193[j]? = some (pc, i, len)) : decode (mB 193) pc = .ok (i, len) := by
  unfold mB
  rw [mX_193]
  exact chk_at kc193 j h
def K194 : List (Nat × Instr × Nat) := [(0, .iload_n 0, 1), (1, .iconst 0, 1), (2, .bipush 7, 2), (4, .invokestatic 59, 3), (7, .ireturn, 1)]
set_option maxRecDepth 100000 in
theorem kc194 : chk cX11_isTrader K194 = true := by decide +kernel
theorem d194 {j pc len : Nat} {i : Instr} (h : K194[j]? = some (pc, i, len)) : decode (mB 194) pc = .ok (i, len) := by
  unfold mB
  rw [mX_194]
  exact chk_at kc194 j h
def K195 : List (Nat × Instr × Nat) := [(0, .iload_n 0, 1), (1, .iconst 0, 1), (2, .iconst 5, 1), (3, .invokestatic 59, 3), (6, .ireturn, 1)]
set_option maxRecDepth 100000 in
theorem kc195 : chk cX11_isBook K195 = true := by decide +kernel
theorem d195 {j pc len : Nat} {i : Instr} (h : K195[j]? = some (pc, i, len)) : decode (mB 195) pc = .ok (i, len) := by
  unfold mB
  rw [mX_195]
  exact chk_at kc195 j h
def K196 : List (Nat × Instr × Nat) := [(0, .iload_n 0, 1), (1, .iconst 0, 1), (2, .iconst 3, 1), (3, .invokestatic 59, 3), (6, .ireturn, 1)]
set_option maxRecDepth 100000 in
theorem kc196 : chk cX11_isContract K196 = true := by decide +kernel
theorem d196 {j pc len : Nat} {i : Instr} (h : K196[j]? = some (pc, i, len)) : decode (mB 196) pc = .ok (i, len) := by
  unfold mB
  rw [mX_196]
  exact chk_at kc196 j h
def K197 : List (Nat × Instr × Nat) := [(0, .iload_n 0, 1), (1, .iconst 0, 1), (2, .iconst 3, 1), (3, .invokestatic 59, 3), (6, .ireturn, 1)]
set_option maxRecDepth 100000 in
theorem kc197 : chk cX11_isMember K197 = true := by decide +kernel
theorem d197 {j pc len : Nat} {i : Instr} (h : K197[j]? = some (pc, i, len)) : decode (mB 197) pc = .ok (i, len) := by
  unfold mB
  rw [mX_197]
  exact chk_at kc197 j h
def K198 : List (Nat × Instr × Nat) := [(0, .iload_n 0, 1), (1, .ifCond .eq 18, 3), (4, .iload_n 0, 1), (5, .bipush (-50), 2), (7, .bipush 50, 2), (9, .invokestatic 59, 3), (12, .ifCond .eq 7, 3), (15, .iconst 1, 1), (16, .goto 4, 3), (19, .iconst 0, 1), (20, .ireturn, 1)]
set_option maxRecDepth 100000 in
theorem kc198 : chk cX11_isQuantity K198 = true := by decide +kernel
theorem d198 {j pc len : Nat} {i : Instr} (h : K198[j]? = some (pc, i, len)) : decode (mB 198) pc = .ok (i, len) := by
  unfold mB
  rw [mX_198]
  exact chk_at kc198 j h
def K199 : List (Nat × Instr × Nat) := [(0, .aload_n 0, 1), (1, .getfield 10, 3), (4, .getfield 141, 3), (7, .iload_n 1, 1), (8, .invokevirtual 270, 3), (11, .astore_n 2, 1), (12, .aload_n 2, 1), (13, .ifnonnull 14, 3), (16, .new 95, 3), (19, .dup, 1), (20, .ldc_w 272, 3), (23, .invokespecial 99, 3), (26, .athrow, 1), (27, .aload_n 2, 1), (28, .areturn, 1)]
set_option maxRecDepth 100000 in
theorem kc199 : chk cX11_keptDeal K199 = true := by decide +kernel
theorem d199 {j pc len : Nat} {i : Instr} (h : K199[j]? = some (pc, i, len)) : decode (mB 199) pc = .ok (i, len) := by
  unfold mB
  rw [mX_199]
  exact chk_at kc199 j h
def K200 : List (Nat × Instr × Nat) := [(0, .aload_n 0, 1), (1, .getfield 187, 3), (4, .bipush 7, 2), (6, .imul, 1), (7, .istore 8, 2), (9, .iload 8, 2), (11, .ifCond .lt 16, 3), (14, .iload 8, 2), (16, .bipush 7, 2), (18, .iadd, 1), (19, .aload_n 0, 1), (20, .getfield 19, 3), (23, .arraylength, 1), (24, .if_icmp .le 6, 3), (27, .ldc 58, 2), (29, .ireturn, 1), (30, .aload_n 0, 1), (31, .getfield 19, 3), (34, .iload 8, 2), (36, .iload_n 1, 1), (37, .iastore, 1), (38, .aload_n 0, 1), (39, .getfield 19, 3), (42, .iload 8, 2), (44, .iconst 1, 1), (45, .iadd, 1), (46, .iload_n 2, 1), (47, .iastore, 1), (48, .aload_n 0, 1), (49, .getfield 19, 3), (52, .iload 8, 2), (54, .iconst 2, 1), (55, .iadd, 1), (56, .iload_n 3, 1), (57, .iastore, 1), (58, .aload_n 0, 1), (59, .getfield 19, 3), (62, .iload 8, 2), (64, .iconst 3, 1), (65, .iadd, 1), (66, .iload 4, 2), (68, .iastore, 1), (69, .aload_n 0, 1), (70, .getfield 19, 3), (73, .iload 8, 2), (75, .iconst 4, 1), (76, .iadd, 1), (77, .iload 5, 2), (79, .iastore, 1), (80, .aload_n 0, 1), (81, .getfield 19, 3), (84, .iload 8, 2), (86, .iconst 5, 1), (87, .iadd, 1), (88, .iload 6, 2), (90, .iastore, 1), (91, .aload_n 0, 1), (92, .getfield 19, 3), (95, .iload 8, 2), (97, .bipush 6, 2), (99, .iadd, 1), (100, .iload 7, 2), (102, .iastore, 1), (103, .aload_n 0, 1), (104, .dup, 1), (105, .getfield 187, 3), (108, .iconst 1, 1), (109, .iadd, 1), (110, .putfield 187, 3), (113, .aload_n 0, 1), (114, .getfield 187, 3), (117, .iconst 1, 1), (118, .isub, 1), (119, .ireturn, 1)]
set_option maxRecDepth 100000 in
theorem kc200 : chk cX11_enter K200 = true := by decide +kernel
theorem d200 {j pc len : Nat} {i : Instr} (h : K200[j]? = some (pc, i, len)) : decode (mB 200) pc = .ok (i, len) := by
  unfold mB
  rw [mX_200]
  exact chk_at kc200 j h
def K201 : List (Nat × Instr × Nat) := [(0, .iload_n 2, 1), (1, .bipush 7, 2), (3, .imul, 1), (4, .istore_n 3, 1), (5, .iload_n 2, 1), (6, .ifCond .lt 19, 3), (9, .iload_n 3, 1), (10, .ifCond .lt 15, 3), (13, .iload_n 3, 1), (14, .bipush 7, 2), (16, .iadd, 1), (17, .aload_n 0, 1), (18, .getfield 19, 3), (21, .arraylength, 1), (22, .if_icmp .le 5, 3), (25, .iconst 0, 1), (26, .ireturn, 1), (27, .aload_n 0, 1), (28, .getfield 19, 3), (31, .iload_n 3, 1), (32, .iconst 1, 1), (33, .iadd, 1), (34, .iaload, 1), (35, .istore 4, 2), (37, .aload_n 0, 1), (38, .getfield 19, 3), (41, .iload_n 3, 1), (42, .iconst 2, 1), (43, .iadd, 1), (44, .iaload, 1), (45, .istore 5, 2), (47, .aload_n 0, 1), (48, .getfield 19, 3), (51, .iload_n 3, 1), (52, .iconst 3, 1), (53, .iadd, 1), (54, .iaload, 1), (55, .istore 6, 2), (57, .aload_n 0, 1), (58, .getfield 19, 3), (61, .iload_n 3, 1), (62, .iconst 4, 1), (63, .iadd, 1), (64, .iaload, 1), (65, .istore 7, 2), (67, .aload_n 0, 1), (68, .getfield 19, 3), (71, .iload_n 3, 1), (72, .iconst 5, 1), (73, .iadd, 1), (74, .iaload, 1), (75, .istore 8, 2), (77, .aload_n 0, 1), (78, .getfield 19, 3), (81, .iload_n 3, 1), (82, .bipush 6, 2), (84, .iadd, 1), (85, .iaload, 1), (86, .istore 9, 2), (88, .iconst 0, 1), (89, .istore 10, 2), (91, .aload_n 0, 1), (92, .getfield 19, 3), (95, .iload_n 3, 1), (96, .iaload, 1), (97, .tableswitch 594 1 27 #[123, 144, 159, 178, 197, 216, 235, 249, 272, 291, 310, 331, 359, 370, 382, 393, 409, 436, 456, 474, 489, 507, 521, 539, 555, 566, 582], 123), (220, .aload_n 1, 1), (221, .iload 4, 2), (223, .iload 5, 2), (225, .iload 6, 2), (227, .iload 7, 2), (229, .iload 8, 2), (231, .iload 9, 2), (233, .invokevirtual 274, 3), (236, .istore 10, 2), (238, .goto 453, 3), (241, .aload_n 1, 1), (242, .iload 4, 2), (244, .iload 5, 2), (246, .iload 6, 2), (248, .invokevirtual 278, 3), (251, .istore 10, 2), (253, .goto 438, 3), (256, .aload_n 1, 1), (257, .iload 4, 2), (259, .iload 5, 2), (261, .iload 6, 2), (263, .iload 7, 2), (265, .iload 8, 2), (267, .invokevirtual 282, 3), (270, .istore 10, 2), (272, .goto 419, 3), (275, .aload_n 1, 1), (276, .iload 4, 2), (278, .iload 5, 2), (280, .iload 6, 2), (282, .iload 7, 2), (284, .iload 8, 2), (286, .invokevirtual 286, 3), (289, .istore 10, 2), (291, .goto 400, 3), (294, .aload_n 1, 1), (295, .iload 4, 2), (297, .iload 5, 2), (299, .iload 6, 2), (301, .iload 7, 2), (303, .iload 8, 2), (305, .invokevirtual 289, 3), (308, .istore 10, 2), (310, .goto 381, 3), (313, .aload_n 1, 1), (314, .iload 4, 2), (316, .iload 5, 2), (318, .iload 6, 2), (320, .iload 7, 2), (322, .iload 8, 2), (324, .invokevirtual 292, 3), (327, .istore 10, 2), (329, .goto 362, 3), (332, .aload_n 1, 1), (333, .getfield 34, 3), (336, .iload 4, 2), (338, .invokevirtual 295, 3), (341, .istore 10, 2), (343, .goto 348, 3), (346, .aload_n 1, 1), (347, .getfield 34, 3), (350, .iload 4, 2), (352, .invokevirtual 38, 3), (355, .iload 5, 2), (357, .iload 6, 2), (359, .iload 7, 2), (361, .invokevirtual 298, 3), (364, .istore 10, 2), (366, .goto 325, 3), (369, .aload_n 1, 1), (370, .getfield 34, 3), (373, .iload 4, 2), (375, .invokevirtual 38, 3), (378, .iload 5, 2), (380, .invokevirtual 301, 3), (383, .istore 10, 2), (385, .goto 306, 3), (388, .aload_n 1, 1), (389, .getfield 141, 3), (392, .iload 4, 2), (394, .invokevirtual 150, 3), (397, .iload 5, 2), (399, .invokevirtual 304, 3), (402, .istore 10, 2), (404, .goto 287, 3), (407, .aload_n 1, 1), (408, .getfield 141, 3), (411, .iload 4, 2), (413, .invokevirtual 150, 3), (416, .iload 5, 2), (418, .iload 6, 2), (420, .invokevirtual 307, 3), (423, .istore 10, 2), (425, .goto 266, 3), (428, .aload_n 1, 1), (429, .getfield 34, 3), (432, .aload_n 1, 1), (433, .getfield 34, 3), (436, .iload 4, 2), (438, .invokevirtual 38, 3), (441, .iload 5, 2), (443, .iload 7, 2), (445, .iadd, 1), (446, .iload 6, 2), (448, .invokevirtual 311, 3), (451, .istore 10, 2), (453, .goto 238, 3), (456, .aload_n 1, 1), (457, .iload 4, 2), (459, .invokevirtual 315, 3), (462, .istore 10, 2), (464, .goto 227, 3), (467, .aload_n 1, 1), (468, .getfield 34, 3), (471, .invokevirtual 318, 3), (474, .istore 10, 2), (476, .goto 215, 3), (479, .aload_n 1, 1), (480, .iload 4, 2), (482, .invokevirtual 321, 3), (485, .istore 10, 2), (487, .goto 204, 3), (490, .aload_n 1, 1), (491, .getfield 141, 3), (494, .iload 4, 2), (496, .iload 5, 2), (498, .invokevirtual 324, 3), (501, .istore 10, 2), (503, .goto 188, 3), (506, .aload_n 1, 1), (507, .getfield 141, 3), (510, .iload 4, 2), (512, .iload 5, 2), (514, .iconst 1, 1), (515, .if_icmp .ne 7, 3), (518, .iconst 1, 1), (519, .goto 4, 3), (522, .iconst 0, 1), (523, .iload 6, 2), (525, .invokevirtual 327, 3), (528, .istore 10, 2), (530, .goto 161, 3), (533, .aload_n 1, 1), (534, .getfield 141, 3), (537, .iload 4, 2), (539, .iload 5, 2), (541, .iload 6, 2), (543, .iload 7, 2), (545, .invokevirtual 331, 3), (548, .istore 10, 2), (550, .goto 141, 3), (553, .aload_n 1, 1), (554, .getfield 141, 3), (557, .iload 4, 2), (559, .iload 5, 2), (561, .iload 6, 2), (563, .invokevirtual 335, 3), (566, .istore 10, 2), (568, .goto 123, 3), (571, .aload_n 1, 1), (572, .iload 4, 2), (574, .iload 5, 2), (576, .iload 6, 2), (578, .invokevirtual 338, 3), (581, .istore 10, 2), (583, .goto 108, 3), (586, .aload_n 1, 1), (587, .getfield 163, 3), (590, .iload 4, 2), (592, .iload 5, 2), (594, .iload 6, 2), (596, .invokevirtual 341, 3), (599, .istore 10, 2), (601, .goto 90, 3), (604, .aload_n 1, 1), (605, .getfield 163, 3), (608, .iload 4, 2), (610, .invokevirtual 344, 3), (613, .istore 10, 2), (615, .goto 76, 3), (618, .aload_n 1, 1), (619, .getfield 163, 3), (622, .iload 4, 2), (624, .iload 5, 2), (626, .iload 6, 2), (628, .invokevirtual 347, 3), (631, .istore 10, 2), (633, .goto 58, 3), (636, .aload_n 1, 1), (637, .getfield 163, 3), (640, .iload 4, 2), (642, .iload 5, 2), (644, .invokevirtual 350, 3), (647, .istore 10, 2), (649, .goto 42, 3), (652, .aload_n 1, 1), (653, .iload 4, 2), (655, .invokevirtual 353, 3), (658, .istore 10, 2), (660, .goto 31, 3), (663, .aload_n 1, 1), (664, .getfield 163, 3), (667, .iload 4, 2), (669, .iload 5, 2), (671, .invokevirtual 356, 3), (674, .istore 10, 2), (676, .goto 15, 3), (679, .aload_n 1, 1), (680, .getfield 163, 3), (683, .invokevirtual 359, 3), (686, .istore 10, 2), (688, .goto 3, 3), (691, .aload_n 1, 1), (692, .invokevirtual 362, 3), (695, .iload 10, 2), (697, .ireturn, 1)]
set_option maxRecDepth 100000 in
theorem kc201 : chk cX11_play K201 = true := by decide +kernel
theorem d201 {j pc len : Nat} {i : Instr} (h : K201[j]? = some (pc, i, len)) : decode (mB 201) pc = .ok (i, len) := by
  unfold mB
  rw [mX_201]
  exact chk_at kc201 j h
def K202 : List (Nat × Instr × Nat) := [(0, .lload_n 0, 1), (1, .iload_n 2, 1), (2, .i2l, 1), (3, .invokestatic 143, 3), (6, .lreturn, 1)]
set_option maxRecDepth 100000 in
theorem kc202 : chk cJ9_floorDiv_b2ac5 K202 = true := by decide +kernel
theorem d202 {j pc len : Nat} {i : Instr} (h : K202[j]? = some (pc, i, len)) : decode (mB 202) pc = .ok (i, len) := by
  unfold mB
  rw [mX_202]
  exact chk_at kc202 j h
def K203 : List (Nat × Instr × Nat) := [(0, .lload_n 0, 1), (1, .lload_n 2, 1), (2, .ldiv, 1), (3, .lstore 4, 2), (5, .lload_n 0, 1), (6, .lload_n 2, 1), (7, .lxor, 1), (8, .lconst 0, 1), (9, .lcmp, 1), (10, .ifCond .ge 17, 3), (13, .lload 4, 2), (15, .lload_n 2, 1), (16, .lmul, 1), (17, .lload_n 0, 1), (18, .lcmp, 1), (19, .ifCond .eq 8, 3), (22, .lload 4, 2), (24, .lconst 1, 1), (25, .lsub, 1), (26, .lreturn, 1), (27, .lload 4, 2), (29, .lreturn, 1)]
set_option maxRecDepth 100000 in
theorem kc203 : chk cJ9_floorDiv_f86c9 K203 = true := by decide +kernel
theorem d203 {j pc len : Nat} {i : Instr} (h : K203[j]? = some (pc, i, len)) : decode (mB 203) pc = .ok (i, len) := by
  unfold mB
  rw [mX_203]
  exact chk_at kc203 j h
def K204 : List (Nat × Instr × Nat) := [(0, .iload_n 0, 1), (1, .iload_n 1, 1), (2, .irem, 1), (3, .istore_n 2, 1), (4, .iload_n 0, 1), (5, .iload_n 1, 1), (6, .ixor, 1), (7, .ifCond .ge 11, 3), (10, .iload_n 2, 1), (11, .ifCond .eq 7, 3), (14, .iload_n 2, 1), (15, .iload_n 1, 1), (16, .iadd, 1), (17, .ireturn, 1), (18, .iload_n 2, 1), (19, .ireturn, 1)]
set_option maxRecDepth 100000 in
theorem kc204 : chk cJ9_floorMod_7cf53 K204 = true := by decide +kernel
theorem d204 {j pc len : Nat} {i : Instr} (h : K204[j]? = some (pc, i, len)) : decode (mB 204) pc = .ok (i, len) := by
  unfold mB
  rw [mX_204]
  exact chk_at kc204 j h
def K205 : List (Nat × Instr × Nat) := [(0, .iload_n 0, 1), (1, .ifCond .ge 8, 3), (4, .iload_n 0, 1), (5, .ineg, 1), (6, .goto 4, 3), (9, .iload_n 0, 1), (10, .ireturn, 1)]
set_option maxRecDepth 100000 in
theorem kc205 : chk cJ9_abs_0f7a4 K205 = true := by decide +kernel
theorem d205 {j pc len : Nat} {i : Instr} (h : K205[j]? = some (pc, i, len)) : decode (mB 205) pc = .ok (i, len) := by
  unfold mB
  rw [mX_205]
  exact chk_at kc205 j h
def K206 : List (Nat × Instr × Nat) := [(0, .lload_n 0, 1), (1, .lconst 0, 1), (2, .lcmp, 1), (3, .ifCond .ge 8, 3), (6, .lload_n 0, 1), (7, .lneg, 1), (8, .goto 4, 3), (11, .lload_n 0, 1), (12, .lreturn, 1)]
set_option maxRecDepth 100000 in
theorem kc206 : chk cJ9_abs_067f4 K206 = true := by decide +kernel
theorem d206 {j pc len : Nat} {i : Instr} (h : K206[j]? = some (pc, i, len)) : decode (mB 206) pc = .ok (i, len) := by
  unfold mB
  rw [mX_206]
  exact chk_at kc206 j h
def K207 : List (Nat × Instr × Nat) := [(0, .iload_n 0, 1), (1, .iload_n 1, 1), (2, .if_icmp .lt 7, 3), (5, .iload_n 0, 1), (6, .goto 4, 3), (9, .iload_n 1, 1), (10, .ireturn, 1)]
set_option maxRecDepth 100000 in
theorem kc207 : chk cJ9_max_7cf53 K207 = true := by decide +kernel
theorem d207 {j pc len : Nat} {i : Instr} (h : K207[j]? = some (pc, i, len)) : decode (mB 207) pc = .ok (i, len) := by
  unfold mB
  rw [mX_207]
  exact chk_at kc207 j h
def K208 : List (Nat × Instr × Nat) := [(0, .lload_n 0, 1), (1, .lload_n 2, 1), (2, .lcmp, 1), (3, .ifCond .lt 7, 3), (6, .lload_n 0, 1), (7, .goto 4, 3), (10, .lload_n 2, 1), (11, .lreturn, 1)]
set_option maxRecDepth 100000 in
theorem kc208 : chk cJ9_max_f86c9 K208 = true := by decide +kernel
theorem d208 {j pc len : Nat} {i : Instr} (h : K208[j]? = some (pc, i, len)) : decode (mB 208) pc = .ok (i, len) := by
  unfold mB
  rw [mX_208]
  exact chk_at kc208 j h
def K209 : List (Nat × Instr × Nat) := [(0, .iload_n 0, 1), (1, .iload_n 1, 1), (2, .if_icmp .gt 7, 3), (5, .iload_n 0, 1), (6, .goto 4, 3), (9, .iload_n 1, 1), (10, .ireturn, 1)]
set_option maxRecDepth 100000 in
theorem kc209 : chk cJ9_min_7cf53 K209 = true := by decide +kernel
theorem d209 {j pc len : Nat} {i : Instr} (h : K209[j]? = some (pc, i, len)) : decode (mB 209) pc = .ok (i, len) := by
  unfold mB
  rw [mX_209]
  exact chk_at kc209 j h
def K210 : List (Nat × Instr × Nat) := [(0, .lload_n 0, 1), (1, .lload_n 2, 1), (2, .lcmp, 1), (3, .ifCond .gt 7, 3), (6, .lload_n 0, 1), (7, .goto 4, 3), (10, .lload_n 2, 1), (11, .lreturn, 1)]
set_option maxRecDepth 100000 in
theorem kc210 : chk cJ9_min_f86c9 K210 = true := by decide +kernel
theorem d210 {j pc len : Nat} {i : Instr} (h : K210[j]? = some (pc, i, len)) : decode (mB 210) pc = .ok (i, len) := by
  unfold mB
  rw [mX_210]
  exact chk_at kc210 j h
def K211 : List (Nat × Instr × Nat) := [(0, .iload_n 1, 1), (1, .aload_n 0, 1), (2, .arraylength, 1), (3, .if_icmp .ge 9, 3), (6, .aload_n 0, 1), (7, .iload_n 1, 1), (8, .iaload, 1), (9, .goto 11, 3), (12, .ldc 7, 2), (14, .iload_n 1, 1), (15, .imul, 1), (16, .sipush 25849, 3), (19, .iadd, 1), (20, .istore_n 3, 1), (21, .iload_n 3, 1), (22, .iconst 1, 1), (23, .iushr, 1), (24, .iload_n 2, 1), (25, .irem, 1), (26, .ireturn, 1)]
set_option maxRecDepth 100000 in
theorem kc211 : chk cL_drawn K211 = true := by decide +kernel
theorem d211 {j pc len : Nat} {i : Instr} (h : K211[j]? = some (pc, i, len)) : decode (mB 211) pc = .ok (i, len) := by
  unfold mB
  rw [mX_211]
  exact chk_at kc211 j h
def K212 : List (Nat × Instr × Nat) := [(0, .aload_n 0, 1), (1, .iload_n 1, 1), (2, .iload_n 2, 1), (3, .iload_n 3, 1), (4, .iload 4, 2), (6, .iconst 0, 1), (7, .iconst 1, 1), (8, .invokevirtual 8, 3), (11, .pop, 1), (12, .goto 7, 3), (15, .astore 5, 2), (17, .iconst 1, 1), (18, .ireturn, 1), (19, .iconst 0, 1), (20, .ireturn, 1)]
set_option maxRecDepth 100000 in
theorem kc212 : chk cL_isNoLimit K212 = true := by decide +kernel
theorem d212 {j pc len : Nat} {i : Instr} (h : K212[j]? = some (pc, i, len)) : decode (mB 212) pc = .ok (i, len) := by
  unfold mB
  rw [mX_212]
  exact chk_at kc212 j h
def K213 : List (Nat × Instr × Nat) := [(0, .aload_n 0, 1), (1, .iload_n 1, 1), (2, .iload_n 2, 1), (3, .iload_n 3, 1), (4, .iload_n 3, 1), (5, .iconst 4, 1), (6, .iadd, 1), (7, .iconst 3, 1), (8, .invokevirtual 16, 3), (11, .pop, 1), (12, .goto 7, 3), (15, .astore 4, 2), (17, .iconst 1, 1), (18, .ireturn, 1), (19, .iconst 0, 1), (20, .ireturn, 1)]
set_option maxRecDepth 100000 in
theorem kc213 : chk cL_isNoQuote K213 = true := by decide +kernel
theorem d213 {j pc len : Nat} {i : Instr} (h : K213[j]? = some (pc, i, len)) : decode (mB 213) pc = .ok (i, len) := by
  unfold mB
  rw [mX_213]
  exact chk_at kc213 j h
def K214 : List (Nat × Instr × Nat) := [(0, .aload_n 0, 1), (1, .iload_n 1, 1), (2, .iconst 2, 1), (3, .iconst 0, 1), (4, .iconst 0, 1), (5, .invokevirtual 20, 3), (8, .pop, 1), (9, .goto 6, 3), (12, .astore_n 2, 1), (13, .iconst 1, 1), (14, .ireturn, 1), (15, .iconst 0, 1), (16, .ireturn, 1)]
set_option maxRecDepth 100000 in
theorem kc214 : chk cL_isNoAuction K214 = true := by decide +kernel
theorem d214 {j pc len : Nat} {i : Instr} (h : K214[j]? = some (pc, i, len)) : decode (mB 214) pc = .ok (i, len) := by
  unfold mB
  rw [mX_214]
  exact chk_at kc214 j h
def K215 : List (Nat × Instr × Nat) := [(0, .aload_n 0, 1), (1, .invokevirtual 24, 3), (4, .pop, 1), (5, .goto 6, 3), (8, .astore_n 1, 1), (9, .iconst 1, 1), (10, .ireturn, 1), (11, .iconst 0, 1), (12, .ireturn, 1)]
set_option maxRecDepth 100000 in
theorem kc215 : chk cL_isNoEnd K215 = true := by decide +kernel
theorem d215 {j pc len : Nat} {i : Instr} (h : K215[j]? = some (pc, i, len)) : decode (mB 215) pc = .ok (i, len) := by
  unfold mB
  rw [mX_215]
  exact chk_at kc215 j h
def K216 : List (Nat × Instr × Nat) := [(0, .aload_n 0, 1), (1, .invokevirtual 28, 3), (4, .pop, 1), (5, .goto 6, 3), (8, .astore_n 1, 1), (9, .iconst 1, 1), (10, .ireturn, 1), (11, .iconst 0, 1), (12, .ireturn, 1)]
set_option maxRecDepth 100000 in
theorem kc216 : chk cL_isNoClosing K216 = true := by decide +kernel
theorem d216 {j pc len : Nat} {i : Instr} (h : K216[j]? = some (pc, i, len)) : decode (mB 216) pc = .ok (i, len) := by
  unfold mB
  rw [mX_216]
  exact chk_at kc216 j h
def K217 : List (Nat × Instr × Nat) := [(0, .aload_n 0, 1), (1, .iload_n 1, 1), (2, .iload_n 2, 1), (3, .invokevirtual 31, 3), (6, .pop, 1), (7, .goto 6, 3), (10, .astore_n 3, 1), (11, .iconst 1, 1), (12, .ireturn, 1), (13, .iconst 0, 1), (14, .ireturn, 1)]
set_option maxRecDepth 100000 in
theorem kc217 : chk cL_isNoBid K217 = true := by decide +kernel
theorem d217 {j pc len : Nat} {i : Instr} (h : K217[j]? = some (pc, i, len)) : decode (mB 217) pc = .ok (i, len) := by
  unfold mB
  rw [mX_217]
  exact chk_at kc217 j h
def K218 : List (Nat × Instr × Nat) := [(0, .aload_n 0, 1), (1, .iload_n 1, 1), (2, .invokevirtual 35, 3), (5, .pop, 1), (6, .goto 6, 3), (9, .astore_n 2, 1), (10, .iconst 1, 1), (11, .ireturn, 1), (12, .iconst 0, 1), (13, .ireturn, 1)]
set_option maxRecDepth 100000 in
theorem kc218 : chk cL_isNoFail K218 = true := by decide +kernel
theorem d218 {j pc len : Nat} {i : Instr} (h : K218[j]? = some (pc, i, len)) : decode (mB 218) pc = .ok (i, len) := by
  unfold mB
  rw [mX_218]
  exact chk_at kc218 j h
def K219 : List (Nat × Instr × Nat) := [(0, .aload_n 0, 1), (1, .iload_n 1, 1), (2, .iload_n 2, 1), (3, .iload_n 3, 1), (4, .iconst 0, 1), (5, .iload 4, 2), (7, .invokevirtual 39, 3), (10, .pop, 1), (11, .goto 7, 3), (14, .astore 5, 2), (16, .iconst 1, 1), (17, .ireturn, 1), (18, .iconst 0, 1), (19, .ireturn, 1)]
set_option maxRecDepth 100000 in
theorem kc219 : chk cL_isNoStop K219 = true := by decide +kernel
theorem d219 {j pc len : Nat} {i : Instr} (h : K219[j]? = some (pc, i, len)) : decode (mB 219) pc = .ok (i, len) := by
  unfold mB
  rw [mX_219]
  exact chk_at kc219 j h
def K220 : List (Nat × Instr × Nat) := [(0, .aload_n 0, 1), (1, .iload_n 1, 1), (2, .iload_n 2, 1), (3, .iload_n 3, 1), (4, .invokevirtual 42, 3), (7, .pop, 1), (8, .goto 7, 3), (11, .astore 4, 2), (13, .iconst 1, 1), (14, .ireturn, 1), (15, .iconst 0, 1), (16, .ireturn, 1)]
set_option maxRecDepth 100000 in
theorem kc220 : chk cL_isNoMarket K220 = true := by decide +kernel
theorem d220 {j pc len : Nat} {i : Instr} (h : K220[j]? = some (pc, i, len)) : decode (mB 220) pc = .ok (i, len) := by
  unfold mB
  rw [mX_220]
  exact chk_at kc220 j h
def K221 : List (Nat × Instr × Nat) := [(0, .aload_n 0, 1), (1, .iload_n 1, 1), (2, .iload_n 2, 1), (3, .iload_n 3, 1), (4, .iload 4, 2), (6, .iconst 1, 1), (7, .invokevirtual 46, 3), (10, .pop, 1), (11, .goto 7, 3), (14, .astore 5, 2), (16, .iconst 1, 1), (17, .ireturn, 1), (18, .iconst 0, 1), (19, .ireturn, 1)]
set_option maxRecDepth 100000 in
theorem kc221 : chk cL_isNoIceberg K221 = true := by decide +kernel
theorem d221 {j pc len : Nat} {i : Instr} (h : K221[j]? = some (pc, i, len)) : decode (mB 221) pc = .ok (i, len) := by
  unfold mB
  rw [mX_221]
  exact chk_at kc221 j h
def K222 : List (Nat × Instr × Nat) := [(0, .aload_n 0, 1), (1, .iload_n 1, 1), (2, .iload_n 2, 1), (3, .iload_n 3, 1), (4, .iload 4, 2), (6, .iconst 2, 1), (7, .invokevirtual 49, 3), (10, .pop, 1), (11, .goto 7, 3), (14, .astore 5, 2), (16, .iconst 1, 1), (17, .ireturn, 1), (18, .iconst 0, 1), (19, .ireturn, 1)]
set_option maxRecDepth 100000 in
theorem kc222 : chk cL_isNoPeg K222 = true := by decide +kernel
theorem d222 {j pc len : Nat} {i : Instr} (h : K222[j]? = some (pc, i, len)) : decode (mB 222) pc = .ok (i, len) := by
  unfold mB
  rw [mX_222]
  exact chk_at kc222 j h
def K223 : List (Nat × Instr × Nat) := [(0, .aload_n 0, 1), (1, .iload_n 1, 1), (2, .invokevirtual 52, 3), (5, .pop, 1), (6, .goto 6, 3), (9, .astore_n 2, 1), (10, .iconst 1, 1), (11, .ireturn, 1), (12, .iconst 0, 1), (13, .ireturn, 1)]
set_option maxRecDepth 100000 in
theorem kc223 : chk cL_isNoBust K223 = true := by decide +kernel
theorem d223 {j pc len : Nat} {i : Instr} (h : K223[j]? = some (pc, i, len)) : decode (mB 223) pc = .ok (i, len) := by
  unfold mB
  rw [mX_223]
  exact chk_at kc223 j h
def K224 : List (Nat × Instr × Nat) := [(0, .aload_n 0, 1), (1, .iload_n 1, 1), (2, .invokevirtual 52, 3), (5, .pop, 1), (6, .goto 6, 3), (9, .astore_n 2, 1), (10, .iconst 1, 1), (11, .ireturn, 1), (12, .iconst 0, 1), (13, .ireturn, 1)]
set_option maxRecDepth 100000 in
theorem kc224 : chk cL_isLostBust K224 = true := by decide +kernel
theorem d224 {j pc len : Nat} {i : Instr} (h : K224[j]? = some (pc, i, len)) : decode (mB 224) pc = .ok (i, len) := by
  unfold mB
  rw [mX_224]
  exact chk_at kc224 j h
def K225 : List (Nat × Instr × Nat) := [(0, .aload_n 0, 1), (1, .iload_n 1, 1), (2, .iconst 0, 1), (3, .invokevirtual 57, 3), (6, .pop, 1), (7, .goto 6, 3), (10, .astore_n 2, 1), (11, .iconst 1, 1), (12, .ireturn, 1), (13, .iconst 0, 1), (14, .ireturn, 1)]
set_option maxRecDepth 100000 in
theorem kc225 : chk cL_isLostTrade K225 = true := by decide +kernel
theorem d225 {j pc len : Nat} {i : Instr} (h : K225[j]? = some (pc, i, len)) : decode (mB 225) pc = .ok (i, len) := by
  unfold mB
  rw [mX_225]
  exact chk_at kc225 j h
def K226 : List (Nat × Instr × Nat) := [(0, .aload_n 0, 1), (1, .iload_n 1, 1), (2, .iload_n 2, 1), (3, .iload_n 3, 1), (4, .invokevirtual 60, 3), (7, .pop, 1), (8, .goto 7, 3), (11, .astore 4, 2), (13, .iconst 1, 1), (14, .ireturn, 1), (15, .iconst 0, 1), (16, .ireturn, 1)]
set_option maxRecDepth 100000 in
theorem kc226 : chk cL_isNoConvert K226 = true := by decide +kernel
theorem d226 {j pc len : Nat} {i : Instr} (h : K226[j]? = some (pc, i, len)) : decode (mB 226) pc = .ok (i, len) := by
  unfold mB
  rw [mX_226]
  exact chk_at kc226 j h
def K227 : List (Nat × Instr × Nat) := [(0, .iload_n 0, 1), (1, .iconst 4, 1), (2, .if_icmp .ge 8, 3), (5, .bipush 96, 2), (7, .goto 5, 3), (10, .bipush (-4), 2), (12, .ireturn, 1)]
set_option maxRecDepth 100000 in
theorem kc227 : chk cL_range K227 = true := by decide +kernel
theorem d227 {j pc len : Nat} {i : Instr} (h : K227[j]? = some (pc, i, len)) : decode (mB 227) pc = .ok (i, len) := by
  unfold mB
  rw [mX_227]
  exact chk_at kc227 j h
def K228 : List (Nat × Instr × Nat) := [(0, .iload_n 1, 1), (1, .bipush 8, 2), (3, .irem, 1), (4, .istore_n 2, 1), (5, .iload_n 1, 1), (6, .bipush 8, 2), (8, .idiv, 1), (9, .bipush 6, 2), (11, .irem, 1), (12, .istore_n 3, 1), (13, .iconst 1, 1), (14, .iload_n 1, 1), (15, .bipush 48, 2), (17, .idiv, 1), (18, .bipush 7, 2), (20, .irem, 1), (21, .iadd, 1), (22, .iload_n 1, 1), (23, .sipush 336, 3), (26, .idiv, 1), (27, .iconst 2, 1), (28, .irem, 1), (29, .ifCond .ne 7, 3), (32, .iconst 1, 1), (33, .goto 4, 3), (36, .iconst (-1), 1), (37, .imul, 1), (38, .istore 4, 2), (40, .iload_n 3, 1), (41, .invokestatic 63, 3), (44, .iload_n 1, 1), (45, .sipush 672, 3), (48, .idiv, 1), (49, .bipush 9, 2), (51, .irem, 1), (52, .iadd, 1), (53, .istore 5, 2), (55, .iload_n 1, 1), (56, .sipush 6048, 3), (59, .idiv, 1), (60, .bipush 9, 2), (62, .irem, 1), (63, .istore 6, 2), (65, .aload_n 0, 1), (66, .invokevirtual 68, 3), (69, .istore 7, 2), (71, .iconst 1, 1), (72, .istore 8, 2), (74, .iload 6, 2), (76, .iconst 4, 1), (77, .if_icmp .ge 54, 3), (80, .aload_n 0, 1), (81, .iload_n 2, 1), (82, .iload_n 3, 1), (83, .iload 5, 2), (85, .iload 4, 2), (87, .invokestatic 71, 3), (90, .ifCond .eq 20, 3), (93, .aload_n 0, 1), (94, .invokevirtual 68, 3), (97, .iload 7, 2), (99, .if_icmp .ne 7, 3), (102, .iconst 1, 1), (103, .goto 23, 3), (106, .iconst 0, 1), (107, .goto 19, 3), (110, .aload_n 0, 1), (111, .invokevirtual 68, 3), (114, .iload 7, 2), (116, .iconst 1, 1), (117, .iadd, 1), (118, .if_icmp .ne 7, 3), (121, .iconst 1, 1), (122, .goto 4, 3), (125, .iconst 0, 1), (126, .istore 8, 2), (128, .goto 288, 3), (131, .iload 6, 2), (133, .iconst 4, 1), (134, .if_icmp .ne 52, 3), (137, .aload_n 0, 1), (138, .iload_n 2, 1), (139, .iload_n 3, 1), (140, .iload 4, 2), (142, .invokestatic 75, 3), (145, .ifCond .eq 20, 3), (148, .aload_n 0, 1), (149, .invokevirtual 68, 3), (152, .iload 7, 2), (154, .if_icmp .ne 7, 3), (157, .iconst 1, 1), (158, .goto 23, 3), (161, .iconst 0, 1), (162, .goto 19, 3), (165, .aload_n 0, 1), (166, .invokevirtual 68, 3), (169, .iload 7, 2), (171, .iconst 1, 1), (172, .iadd, 1), (173, .if_icmp .ne 7, 3), (176, .iconst 1, 1), (177, .goto 4, 3), (180, .iconst 0, 1), (181, .istore 8, 2), (183, .goto 233, 3), (186, .iload 6, 2), (188, .iconst 5, 1), (189, .if_icmp .ne 54, 3), (192, .aload_n 0, 1), (193, .iload_n 2, 1), (194, .iload_n 3, 1), (195, .iload 5, 2), (197, .iload 4, 2), (199, .invokestatic 79, 3), (202, .ifCond .eq 20, 3), (205, .aload_n 0, 1), (206, .invokevirtual 68, 3), (209, .iload 7, 2), (211, .if_icmp .ne 7, 3), (214, .iconst 1, 1), (215, .goto 23, 3), (218, .iconst 0, 1), (219, .goto 19, 3), (222, .aload_n 0, 1), (223, .invokevirtual 68, 3), (226, .iload 7, 2), (228, .iconst 1, 1), (229, .iadd, 1), (230, .if_icmp .ne 7, 3), (233, .iconst 1, 1), (234, .goto 4, 3), (237, .iconst 0, 1), (238, .istore 8, 2), (240, .goto 176, 3), (243, .iload 6, 2), (245, .bipush 6, 2), (247, .if_icmp .ne 54, 3), (250, .aload_n 0, 1), (251, .iload_n 2, 1), (252, .iload_n 3, 1), (253, .iload 5, 2), (255, .iload 4, 2), (257, .invokestatic 82, 3), (260, .ifCond .eq 20, 3), (263, .aload_n 0, 1), (264, .invokevirtual 68, 3), (267, .iload 7, 2), (269, .if_icmp .ne 7, 3), (272, .iconst 1, 1), (273, .goto 23, 3), (276, .iconst 0, 1), (277, .goto 19, 3), (280, .aload_n 0, 1), (281, .invokevirtual 68, 3), (284, .iload 7, 2), (286, .iconst 1, 1), (287, .iadd, 1), (288, .if_icmp .ne 7, 3), (291, .iconst 1, 1), (292, .goto 4, 3), (295, .iconst 0, 1), (296, .istore 8, 2), (298, .goto 118, 3), (301, .iload 6, 2), (303, .bipush 7, 2), (305, .if_icmp .ne 65, 3), (308, .aload_n 0, 1), (309, .iload_n 2, 1), (310, .iload_n 3, 1), (311, .iconst 4, 1), (312, .irem, 1), (313, .bipush 96, 2), (315, .iload_n 1, 1), (316, .sipush 672, 3), (319, .idiv, 1), (320, .bipush 9, 2), (322, .irem, 1), (323, .iadd, 1), (324, .iload 4, 2), (326, .invokestatic 85, 3), (329, .ifCond .eq 20, 3), (332, .aload_n 0, 1), (333, .invokevirtual 68, 3), (336, .iload 7, 2), (338, .if_icmp .ne 7, 3), (341, .iconst 1, 1), (342, .goto 23, 3), (345, .iconst 0, 1), (346, .goto 19, 3), (349, .aload_n 0, 1), (350, .invokevirtual 68, 3), (353, .iload 7, 2), (355, .iconst 1, 1), (356, .iadd, 1), (357, .if_icmp .ne 7, 3), (360, .iconst 1, 1), (361, .goto 4, 3), (364, .iconst 0, 1), (365, .istore 8, 2), (367, .goto 49, 3), (370, .aload_n 0, 1), (371, .iload_n 2, 1), (372, .iload_n 3, 1), (373, .iload 5, 2), (375, .invokestatic 88, 3), (378, .ifCond .eq 20, 3), (381, .aload_n 0, 1), (382, .invokevirtual 68, 3), (385, .iload 7, 2), (387, .if_icmp .ne 7, 3), (390, .iconst 1, 1), (391, .goto 23, 3), (394, .iconst 0, 1), (395, .goto 19, 3), (398, .aload_n 0, 1), (399, .invokevirtual 68, 3), (402, .iload 7, 2), (404, .iconst 1, 1), (405, .iadd, 1), (406, .if_icmp .ne 7, 3), (409, .iconst 1, 1), (410, .goto 4, 3), (413, .iconst 0, 1), (414, .istore 8, 2), (416, .iload 8, 2), (418, .ireturn, 1)]
set_option maxRecDepth 100000 in
theorem kc228 : chk cL_isOrdered K228 = true := by decide +kernel
theorem d228 {j pc len : Nat} {i : Instr} (h : K228[j]? = some (pc, i, len)) : decode (mB 228) pc = .ok (i, len) := by
  unfold mB
  rw [mX_228]
  exact chk_at kc228 j h
def K229 : List (Nat × Instr × Nat) := [(0, .aload_n 0, 1), (1, .invokevirtual 91, 3), (4, .iconst 1, 1), (5, .isub, 1), (6, .iload_n 1, 1), (7, .bipush 16, 2), (9, .idiv, 1), (10, .iconst 4, 1), (11, .irem, 1), (12, .isub, 1), (13, .istore_n 3, 1), (14, .iconst 1, 1), (15, .istore 4, 2), (17, .iload_n 1, 1), (18, .bipush 12, 2), (20, .irem, 1), (21, .tableswitch 571 0 10 #[59, 124, 162, 228, 253, 316, 384, 424, 476, 500, 547], 59), (80, .iload_n 3, 1), (81, .ifCond .lt 54, 3), (84, .aload_n 0, 1), (85, .aload_n 0, 1), (86, .invokevirtual 91, 3), (89, .invokestatic 94, 3), (92, .ifCond .eq 47, 3), (95, .aload_n 0, 1), (96, .iload_n 3, 1), (97, .invokestatic 98, 3), (100, .ifCond .ne 35, 3), (103, .aload_n 0, 1), (104, .iload_n 3, 1), (105, .iconst 5, 1), (106, .invokevirtual 57, 3), (109, .iconst 1, 1), (110, .if_icmp .ne 14, 3), (113, .aload_n 0, 1), (114, .iload_n 3, 1), (115, .invokestatic 101, 3), (118, .ifCond .eq 21, 3), (121, .goto 14, 3), (124, .aload_n 0, 1), (125, .iload_n 3, 1), (126, .invokevirtual 52, 3), (129, .sipush (-9999), 3), (132, .if_icmp .lt 7, 3), (135, .iconst 1, 1), (136, .goto 4, 3), (139, .iconst 0, 1), (140, .istore 4, 2), (142, .goto 471, 3), (145, .aload_n 0, 1), (146, .iload_n 1, 1), (147, .bipush 64, 2), (149, .idiv, 1), (150, .bipush 6, 2), (152, .irem, 1), (153, .invokestatic 104, 3), (156, .ifCond .ne 17, 3), (159, .aload_n 0, 1), (160, .iload_n 1, 1), (161, .bipush 64, 2), (163, .idiv, 1), (164, .bipush 6, 2), (166, .irem, 1), (167, .invokevirtual 107, 3), (170, .ifCond .le 7, 3), (173, .iconst 1, 1), (174, .goto 4, 3), (177, .iconst 0, 1), (178, .istore 4, 2), (180, .goto 433, 3), (183, .aload_n 0, 1), (184, .iload_n 1, 1), (185, .bipush 16, 2), (187, .idiv, 1), (188, .bipush 6, 2), (190, .irem, 1), (191, .iload_n 1, 1), (192, .bipush 96, 2), (194, .idiv, 1), (195, .iconst 3, 1), (196, .irem, 1), (197, .iload_n 1, 1), (198, .sipush 288, 3), (201, .idiv, 1), (202, .iconst 4, 1), (203, .irem, 1), (204, .iload_n 1, 1), (205, .sipush 1152, 3), (208, .idiv, 1), (209, .iconst 3, 1), (210, .irem, 1), (211, .invokevirtual 110, 3), (214, .ifCond .lt 29, 3), (217, .aload_n 0, 1), (218, .iload_n 1, 1), (219, .bipush 16, 2), (221, .idiv, 1), (222, .bipush 6, 2), (224, .irem, 1), (225, .iload_n 1, 1), (226, .bipush 96, 2), (228, .idiv, 1), (229, .iconst 2, 1), (230, .irem, 1), (231, .iconst 4, 1), (232, .imul, 1), (233, .invokevirtual 113, 3), (236, .ifCond .lt 7, 3), (239, .iconst 1, 1), (240, .goto 4, 3), (243, .iconst 0, 1), (244, .istore 4, 2), (246, .goto 367, 3), (249, .aload_n 0, 1), (250, .iconst 1, 1), (251, .iload_n 1, 1), (252, .bipush 16, 2), (254, .idiv, 1), (255, .iconst 3, 1), (256, .irem, 1), (257, .iadd, 1), (258, .invokevirtual 116, 3), (261, .ifCond .le 7, 3), (264, .iconst 1, 1), (265, .goto 4, 3), (268, .iconst 0, 1), (269, .istore 4, 2), (271, .goto 342, 3), (274, .aload_n 0, 1), (275, .iload_n 1, 1), (276, .bipush 16, 2), (278, .idiv, 1), (279, .iconst 4, 1), (280, .irem, 1), (281, .iload_n 1, 1), (282, .bipush 64, 2), (284, .idiv, 1), (285, .iconst 4, 1), (286, .irem, 1), (287, .iload_n 1, 1), (288, .sipush 256, 3), (291, .idiv, 1), (292, .bipush 40, 2), (294, .irem, 1), (295, .bipush 20, 2), (297, .isub, 1), (298, .invokevirtual 119, 3), (301, .bipush (-99), 2), (303, .if_icmp .lt 28, 3), (306, .aload_n 0, 1), (307, .iload_n 1, 1), (308, .bipush 16, 2), (310, .idiv, 1), (311, .bipush 8, 2), (313, .irem, 1), (314, .iload_n 1, 1), (315, .sipush 128, 3), (318, .idiv, 1), (319, .iconst 5, 1), (320, .irem, 1), (321, .invokevirtual 122, 3), (324, .ifCond .lt 7, 3), (327, .iconst 1, 1), (328, .goto 4, 3), (331, .iconst 0, 1), (332, .istore 4, 2), (334, .goto 279, 3), (337, .iload_n 1, 1), (338, .bipush 16, 2), (340, .idiv, 1), (341, .iconst 4, 1), (342, .irem, 1), (343, .istore 5, 2), (345, .aload_n 0, 1), (346, .iload 5, 2), (348, .bipush 6, 2), (350, .invokevirtual 125, 3), (353, .lconst 0, 1), (354, .lcmp, 1), (355, .ifCond .ne 258, 3), (358, .aload_n 0, 1), (359, .iload 5, 2), (361, .iload_n 1, 1), (362, .bipush 64, 2), (364, .idiv, 1), (365, .bipush 50, 2), (367, .irem, 1), (368, .iload_n 1, 1), (369, .sipush 3200, 3), (372, .idiv, 1), (373, .iconst 3, 1), (374, .irem, 1), (375, .invokevirtual 129, 3), (378, .ifCond .lt 7, 3), (381, .iconst 1, 1), (382, .goto 4, 3), (385, .iconst 0, 1), (386, .istore 4, 2), (388, .aload_n 2, 1), (389, .iconst 0, 1), (390, .dup2, 1), (391, .laload, 1), (392, .iload_n 1, 1), (393, .bipush 64, 2), (395, .idiv, 1), (396, .bipush 50, 2), (398, .irem, 1), (399, .i2l, 1), (400, .ladd, 1), (401, .lastore, 1), (402, .goto 211, 3), (405, .aload_n 0, 1), (406, .iload_n 1, 1), (407, .bipush 16, 2), (409, .idiv, 1), (410, .iconst 4, 1), (411, .irem, 1), (412, .invokestatic 132, 3), (415, .ifCond .ne 20, 3), (418, .aload_n 0, 1), (419, .iload_n 1, 1), (420, .bipush 16, 2), (422, .idiv, 1), (423, .iconst 4, 1), (424, .irem, 1), (425, .bipush 6, 2), (427, .invokevirtual 125, 3), (430, .lconst 1, 1), (431, .lcmp, 1), (432, .ifCond .ne 7, 3), (435, .iconst 1, 1), (436, .goto 4, 3), (439, .iconst 0, 1), (440, .istore 4, 2), (442, .goto 171, 3), (445, .aload_n 0, 1), (446, .iload_n 1, 1), (447, .bipush 16, 2), (449, .idiv, 1), (450, .iconst 4, 1), (451, .irem, 1), (452, .iload_n 1, 1), (453, .bipush 64, 2), (455, .idiv, 1), (456, .sipush 900, 3), (459, .irem, 1), (460, .sipush 450, 3), (463, .isub, 1), (464, .invokestatic 135, 3), (467, .ifCond .ne 20, 3), (470, .aload_n 0, 1), (471, .iload_n 1, 1), (472, .bipush 16, 2), (474, .idiv, 1), (475, .iconst 4, 1), (476, .irem, 1), (477, .bipush 6, 2), (479, .invokevirtual 125, 3), (482, .lconst 0, 1), (483, .lcmp, 1), (484, .ifCond .ne 7, 3), (487, .iconst 1, 1), (488, .goto 4, 3), (491, .iconst 0, 1), (492, .istore 4, 2), (494, .goto 119, 3), (497, .aload_n 0, 1), (498, .invokestatic 139, 3), (501, .ifCond .ne 10, 3), (504, .aload_n 0, 1), (505, .invokestatic 139, 3), (508, .ifCond .eq 7, 3), (511, .iconst 1, 1), (512, .goto 4, 3), (515, .iconst 0, 1), (516, .istore 4, 2), (518, .goto 95, 3), (521, .aload_n 0, 1), (522, .iload_n 1, 1), (523, .bipush 16, 2), (525, .idiv, 1), (526, .iconst 3, 1), (527, .irem, 1), (528, .iconst 1, 1), (529, .iload_n 1, 1), (530, .bipush 48, 2), (532, .idiv, 1), (533, .iconst 3, 1), (534, .irem, 1), (535, .iadd, 1), (536, .iconst 1, 1), (537, .iload_n 1, 1), (538, .sipush 144, 3), (541, .idiv, 1), (542, .iconst 3, 1), (543, .irem, 1), (544, .iadd, 1), (545, .invokestatic 143, 3), (548, .ifCond .ne 10, 3), (551, .aload_n 0, 1), (552, .invokevirtual 68, 3), (555, .ifCond .le 7, 3), (558, .iconst 1, 1), (559, .goto 4, 3), (562, .iconst 0, 1), (563, .istore 4, 2), (565, .goto 48, 3), (568, .aload_n 0, 1), (569, .invokestatic 146, 3), (572, .ifCond .ne 10, 3), (575, .aload_n 0, 1), (576, .invokevirtual 68, 3), (579, .ifCond .le 7, 3), (582, .iconst 1, 1), (583, .goto 4, 3), (586, .iconst 0, 1), (587, .istore 4, 2), (589, .goto 24, 3), (592, .aload_n 0, 1), (593, .iload_n 1, 1), (594, .bipush 16, 2), (596, .idiv, 1), (597, .bipush 60, 2), (599, .irem, 1), (600, .invokevirtual 149, 3), (603, .ifCond .lt 7, 3), (606, .iconst 1, 1), (607, .goto 4, 3), (610, .iconst 0, 1), (611, .istore 4, 2), (613, .iload 4, 2), (615, .ireturn, 1)]
set_option maxRecDepth 100000 in
theorem kc229 : chk cL_isLater K229 = true := by decide +kernel
theorem d229 {j pc len : Nat} {i : Instr} (h : K229[j]? = some (pc, i, len)) : decode (mB 229) pc = .ok (i, len) := by
  unfold mB
  rw [mX_229]
  exact chk_at kc229 j h
