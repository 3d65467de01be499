/-! the code of the methods, as tables -/
def K304 : List (Nat × Instr × Nat) := [(0, .iload_n 0, 1), (1, .iconst 0, 1), (2, .invokestatic 224, 3), (5, .iload_n 1, 1), (6, .if_icmp .eq 12, 3), (9, .iload_n 0, 1), (10, .iconst 1, 1), (11, .invokestatic 224, 3), (14, .iload_n 1, 1), (15, .if_icmp .ne 7, 3), (18, .iconst 1, 1), (19, .goto 4, 3), (22, .iconst 0, 1), (23, .ireturn, 1)]
set_option maxRecDepth 100000 in
theorem kc304 : chk cX12_hasContract K304 = true := by decide +kernel
theorem d304 {j pc len : Nat} {i : Instr} (h : K304[j]? = some (pc, i, len)) : decode (mB 304) pc = .ok (i, len) := by
  unfold mB
  rw [mX_304]
  exact chk_at kc304 j h
def K305 : List (Nat × Instr × Nat) := [(0, .aload_n 0, 1), (1, .iload_n 1, 1), (2, .iconst 0, 1), (3, .iconst 2, 1), (4, .invokestatic 209, 3), (7, .ifCond .ne 7, 3), (10, .iconst 1, 1), (11, .goto 28, 3), (14, .iload_n 2, 1), (15, .iconst 1, 1), (16, .bipush 9, 2), (18, .invokestatic 209, 3), (21, .ifCond .eq 13, 3), (24, .iload_n 3, 1), (25, .iconst 1, 1), (26, .bipush 9, 2), (28, .invokestatic 209, 3), (31, .ifCond .ne 7, 3), (34, .iconst 2, 1), (35, .goto 4, 3), (38, .iconst 0, 1), (39, .putfield 180, 3), (42, .iconst 0, 1), (43, .istore 4, 2), (45, .iload 4, 2), (47, .bipush 8, 2), (49, .if_icmp .ge 63, 3), (52, .aload_n 0, 1), (53, .getfield 180, 3), (56, .ifCond .ne 56, 3), (59, .aload_n 0, 1), (60, .getfield 7, 3), (63, .iconst 4, 1), (64, .iload 4, 2), (66, .imul, 1), (67, .iload_n 1, 1), (68, .iadd, 1), (69, .iaload, 1), (70, .i2l, 1), (71, .iload_n 2, 1), (72, .i2l, 1), (73, .lmul, 1), (74, .iload_n 3, 1), (75, .i2l, 1), (76, .ldiv, 1), (77, .lstore 5, 2), (79, .aload_n 0, 1), (80, .lload 5, 2), (82, .ldc2_w 464, 3), (85, .lcmp, 1), (86, .ifCond .gt 12, 3), (89, .lload 5, 2), (91, .ldc2_w 466, 3), (94, .lcmp, 1), (95, .ifCond .ge 7, 3), (98, .iconst 3, 1), (99, .goto 4, 3), (102, .iconst 0, 1), (103, .putfield 180, 3), (106, .iinc 4 1, 3), (109, .goto (-64), 3), (112, .aload_n 0, 1), (113, .getfield 180, 3), (116, .ifCond .eq 5, 3), (119, .iconst 0, 1), (120, .ireturn, 1), (121, .iconst 0, 1), (122, .istore 4, 2), (124, .iconst 0, 1), (125, .istore 5, 2), (127, .iload 5, 2), (129, .bipush 44, 2), (131, .if_icmp .ge 44, 3), (134, .aload_n 0, 1), (135, .getfield 60, 3), (138, .iload 5, 2), (140, .baload, 1), (141, .ifCond .eq 28, 3), (144, .aload_n 0, 1), (145, .getfield 69, 3), (148, .iload 5, 2), (150, .iaload, 1), (151, .iload_n 1, 1), (152, .invokestatic 468, 3), (155, .ifCond .eq 14, 3), (158, .aload_n 0, 1), (159, .getfield 60, 3), (162, .iload 5, 2), (164, .iconst 0, 1), (165, .bastore, 1), (166, .iinc 4 1, 3), (169, .iinc 5 1, 3), (172, .goto (-45), 3), (175, .iconst 0, 1), (176, .istore 5, 2), (178, .iload 5, 2), (180, .bipush 60, 2), (182, .if_icmp .ge 45, 3), (185, .aload_n 0, 1), (186, .getfield 138, 3), (189, .iload 5, 2), (191, .aload_n 0, 1), (192, .getfield 138, 3), (195, .iload 5, 2), (197, .baload, 1), (198, .ifCond .ne 17, 3), (201, .aload_n 0, 1), (202, .getfield 120, 3), (205, .iload 5, 2), (207, .iaload, 1), (208, .iload_n 1, 1), (209, .invokestatic 468, 3), (212, .ifCond .eq 7, 3), (215, .iconst 1, 1), (216, .goto 4, 3), (219, .iconst 0, 1), (220, .bastore, 1), (221, .iinc 5 1, 3), (224, .goto (-46), 3), (227, .aload_n 0, 1), (228, .getfield 45, 3), (231, .iload_n 1, 1), (232, .aload_n 0, 1), (233, .getfield 45, 3), (236, .iload_n 1, 1), (237, .iaload, 1), (238, .iload_n 2, 1), (239, .iload_n 3, 1), (240, .invokestatic 471, 3), (243, .iastore, 1), (244, .aload_n 0, 1), (245, .getfield 48, 3), (248, .iload_n 1, 1), (249, .aload_n 0, 1), (250, .getfield 48, 3), (253, .iload_n 1, 1), (254, .iaload, 1), (255, .iload_n 2, 1), (256, .iload_n 3, 1), (257, .invokestatic 471, 3), (260, .iastore, 1), (261, .lconst 0, 1), (262, .lstore 5, 2), (264, .iconst 0, 1), (265, .istore 7, 2), (267, .iload 7, 2), (269, .bipush 8, 2), (271, .if_icmp .ge 104, 3), (274, .aload_n 0, 1), (275, .getfield 7, 3), (278, .iconst 4, 1), (279, .iload 7, 2), (281, .imul, 1), (282, .iload_n 1, 1), (283, .iadd, 1), (284, .iaload, 1), (285, .i2l, 1), (286, .lstore 8, 2), (288, .lload 8, 2), (290, .iload_n 2, 1), (291, .i2l, 1), (292, .lmul, 1), (293, .iload_n 3, 1), (294, .i2l, 1), (295, .ldiv, 1), (296, .lstore 10, 2), (298, .lload 8, 2), (300, .iload_n 2, 1), (301, .i2l, 1), (302, .lmul, 1), (303, .lload 10, 2), (305, .iload_n 3, 1), (306, .i2l, 1), (307, .lmul, 1), (308, .lsub, 1), (309, .aload_n 0, 1), (310, .getfield 45, 3), (313, .iload_n 1, 1), (314, .iaload, 1), (315, .i2l, 1), (316, .lmul, 1), (317, .iload_n 3, 1), (318, .i2l, 1), (319, .invokestatic 419, 3), (322, .lstore 12, 2), (324, .aload_n 0, 1), (325, .getfield 7, 3), (328, .iconst 4, 1), (329, .iload 7, 2), (331, .imul, 1), (332, .iload_n 1, 1), (333, .iadd, 1), (334, .lload 10, 2), (336, .l2i, 1), (337, .iastore, 1), (338, .lload 5, 2), (340, .lload 10, 2), (342, .ladd, 1), (343, .lstore 5, 2), (345, .aload_n 0, 1), (346, .getfield 13, 3), (349, .iload 7, 2), (351, .dup2, 1), (352, .laload, 1), (353, .lload 12, 2), (355, .ladd, 1), (356, .lastore, 1), (357, .aload_n 0, 1), (358, .getfield 13, 3), (361, .bipush 8, 2), (363, .dup2, 1), (364, .laload, 1), (365, .lload 12, 2), (367, .lsub, 1), (368, .lastore, 1), (369, .iinc 7 1, 3), (372, .goto (-105), 3), (375, .aload_n 0, 1), (376, .getfield 7, 3), (379, .bipush 32, 2), (381, .iload_n 1, 1), (382, .iadd, 1), (383, .lload 5, 2), (385, .lneg, 1), (386, .l2i, 1), (387, .iastore, 1), (388, .iload 4, 2), (390, .ireturn, 1)]
set_option maxRecDepth 100000 in
theorem kc305 : chk cX12_doConvert K305 = true := by decide +kernel
theorem d305 {j pc len : Nat} {i : Instr} (h : K305[j]? = some (pc, i, len)) : decode (mB 305) pc = .ok (i, len) := by
  unfold mB
  rw [mX_305]
  exact chk_at kc305 j h
def K306 : List (Nat × Instr × Nat) := [(0, .iload_n 0, 1), (1, .iload_n 2, 1), (2, .imul, 1), (3, .iload_n 1, 1), (4, .idiv, 1), (5, .istore_n 3, 1), (6, .iload_n 3, 1), (7, .iconst 1, 1), (8, .if_icmp .ge 7, 3), (11, .iconst 1, 1), (12, .goto 17, 3), (15, .iload_n 3, 1), (16, .sipush 9999, 3), (19, .if_icmp .le 9, 3), (22, .sipush 9999, 3), (25, .goto 4, 3), (28, .iload_n 3, 1), (29, .ireturn, 1)]
set_option maxRecDepth 100000 in
theorem kc306 : chk cX12_converted K306 = true := by decide +kernel
theorem d306 {j pc len : Nat} {i : Instr} (h : K306[j]? = some (pc, i, len)) : decode (mB 306) pc = .ok (i, len) := by
  unfold mB
  rw [mX_306]
  exact chk_at kc306 j h
def K307 : List (Nat × Instr × Nat) := [(0, .aload_n 0, 1), (1, .iload_n 1, 1), (2, .aload_n 0, 1), (3, .getfield 144, 3), (6, .iload_n 1, 1), (7, .iaload, 1), (8, .i2l, 1), (9, .aload_n 0, 1), (10, .getfield 147, 3), (13, .iload_n 1, 1), (14, .iaload, 1), (15, .i2l, 1), (16, .invokevirtual 475, 3), (19, .lreturn, 1)]
set_option maxRecDepth 100000 in
theorem kc307 : chk cX12_callOf K307 = true := by decide +kernel
theorem d307 {j pc len : Nat} {i : Instr} (h : K307[j]? = some (pc, i, len)) : decode (mB 307) pc = .ok (i, len) := by
  unfold mB
  rw [mX_307]
  exact chk_at kc307 j h
def K308 : List (Nat × Instr × Nat) := [(0, .aload_n 0, 1), (1, .iload_n 1, 1), (2, .iconst 0, 1), (3, .iconst 3, 1), (4, .invokestatic 209, 3), (7, .ifCond .ne 7, 3), (10, .iconst 1, 1), (11, .goto 32, 3), (14, .iload_n 2, 1), (15, .sipush (-9999), 3), (18, .sipush 9999, 3), (21, .invokestatic 209, 3), (24, .ifCond .eq 14, 3), (27, .iload_n 3, 1), (28, .bipush (-99), 2), (30, .bipush 99, 2), (32, .invokestatic 209, 3), (35, .ifCond .ne 7, 3), (38, .iconst 2, 1), (39, .goto 4, 3), (42, .iconst 0, 1), (43, .putfield 180, 3), (46, .aload_n 0, 1), (47, .getfield 180, 3), (50, .ifCond .ne 39, 3), (53, .aload_n 0, 1), (54, .getfield 153, 3), (57, .iload_n 1, 1), (58, .baload, 1), (59, .ifCond .ne 25, 3), (62, .aload_n 0, 1), (63, .getfield 144, 3), (66, .iload_n 1, 1), (67, .iaload, 1), (68, .iload_n 2, 1), (69, .iadd, 1), (70, .ifCond .lt 14, 3), (73, .aload_n 0, 1), (74, .getfield 147, 3), (77, .iload_n 1, 1), (78, .iaload, 1), (79, .iload_n 3, 1), (80, .iadd, 1), (81, .ifCond .ge 8, 3), (84, .aload_n 0, 1), (85, .iconst 3, 1), (86, .putfield 180, 3), (89, .aload_n 0, 1), (90, .getfield 180, 3), (93, .ifCond .ne 44, 3), (96, .iload_n 2, 1), (97, .ifCond .lt 7, 3), (100, .iload_n 3, 1), (101, .ifCond .ge 36, 3), (104, .aload_n 0, 1), (105, .iload_n 1, 1), (106, .aload_n 0, 1), (107, .getfield 144, 3), (110, .iload_n 1, 1), (111, .iaload, 1), (112, .iload_n 2, 1), (113, .iadd, 1), (114, .i2l, 1), (115, .aload_n 0, 1), (116, .getfield 147, 3), (119, .iload_n 1, 1), (120, .iaload, 1), (121, .iload_n 3, 1), (122, .iadd, 1), (123, .i2l, 1), (124, .invokevirtual 475, 3), (127, .lconst 0, 1), (128, .lcmp, 1), (129, .ifCond .le 8, 3), (132, .aload_n 0, 1), (133, .iconst 3, 1), (134, .putfield 180, 3), (137, .aload_n 0, 1), (138, .getfield 180, 3), (141, .ifCond .eq 5, 3), (144, .lconst 0, 1), (145, .lreturn, 1), (146, .aload_n 0, 1), (147, .getfield 144, 3), (150, .iload_n 1, 1), (151, .dup2, 1), (152, .iaload, 1), (153, .iload_n 2, 1), (154, .iadd, 1), (155, .iastore, 1), (156, .aload_n 0, 1), (157, .getfield 147, 3), (160, .iload_n 1, 1), (161, .dup2, 1), (162, .iaload, 1), (163, .iload_n 3, 1), (164, .iadd, 1), (165, .iastore, 1), (166, .aload_n 0, 1), (167, .iload_n 1, 1), (168, .invokevirtual 479, 3), (171, .lreturn, 1)]
set_option maxRecDepth 100000 in
theorem kc308 : chk cX12_doPay K308 = true := by decide +kernel
theorem d308 {j pc len : Nat} {i : Instr} (h : K308[j]? = some (pc, i, len)) : decode (mB 308) pc = .ok (i, len) := by
  unfold mB
  rw [mX_308]
  exact chk_at kc308 j h
def K309 : List (Nat × Instr × Nat) := [(0, .aload_n 0, 1), (1, .iload_n 1, 1), (2, .iconst 0, 1), (3, .iconst 3, 1), (4, .invokestatic 209, 3), (7, .ifCond .ne 7, 3), (10, .iconst 1, 1), (11, .goto 32, 3), (14, .iload_n 2, 1), (15, .iconst 0, 1), (16, .sipush 9999, 3), (19, .invokestatic 209, 3), (22, .ifCond .ne 7, 3), (25, .iconst 2, 1), (26, .goto 17, 3), (29, .aload_n 0, 1), (30, .getfield 153, 3), (33, .iload_n 1, 1), (34, .baload, 1), (35, .ifCond .eq 7, 3), (38, .iconst 3, 1), (39, .goto 4, 3), (42, .iconst 0, 1), (43, .putfield 180, 3), (46, .aload_n 0, 1), (47, .getfield 180, 3), (50, .ifCond .ne 12, 3), (53, .aload_n 0, 1), (54, .getfield 150, 3), (57, .iload_n 1, 1), (58, .iaload, 1), (59, .goto 4, 3), (62, .iconst 0, 1), (63, .istore_n 3, 1), (64, .aload_n 0, 1), (65, .getfield 180, 3), (68, .ifCond .ne 10, 3), (71, .aload_n 0, 1), (72, .getfield 150, 3), (75, .iload_n 1, 1), (76, .iload_n 2, 1), (77, .iastore, 1), (78, .iload_n 3, 1), (79, .ireturn, 1)]
set_option maxRecDepth 100000 in
theorem kc309 : chk cX12_doFund K309 = true := by decide +kernel
theorem d309 {j pc len : Nat} {i : Instr} (h : K309[j]? = some (pc, i, len)) : decode (mB 309) pc = .ok (i, len) := by
  unfold mB
  rw [mX_309]
  exact chk_at kc309 j h
def K310 : List (Nat × Instr × Nat) := [(0, .aload_n 0, 1), (1, .iload_n 1, 1), (2, .iconst 0, 1), (3, .iconst 3, 1), (4, .invokestatic 209, 3), (7, .ifCond .ne 7, 3), (10, .iconst 1, 1), (11, .goto 34, 3), (14, .aload_n 0, 1), (15, .getfield 153, 3), (18, .iload_n 1, 1), (19, .baload, 1), (20, .ifCond .ne 20, 3), (23, .aload_n 0, 1), (24, .iload_n 1, 1), (25, .invokevirtual 479, 3), (28, .lconst 0, 1), (29, .lcmp, 1), (30, .ifCond .eq 10, 3), (33, .aload_n 0, 1), (34, .getfield 188, 3), (37, .ifCond .lt 7, 3), (40, .iconst 2, 1), (41, .goto 4, 3), (44, .iconst 0, 1), (45, .putfield 180, 3), (48, .aload_n 0, 1), (49, .getfield 180, 3), (52, .ifCond .eq 5, 3), (55, .iconst 0, 1), (56, .ireturn, 1), (57, .aload_n 0, 1), (58, .getfield 153, 3), (61, .iload_n 1, 1), (62, .iconst 1, 1), (63, .bastore, 1), (64, .aload_n 0, 1), (65, .iload_n 1, 1), (66, .putfield 188, 3), (69, .iconst 0, 1), (70, .istore_n 2, 1), (71, .iconst 0, 1), (72, .istore_n 3, 1), (73, .iload_n 3, 1), (74, .bipush 44, 2), (76, .if_icmp .ge 40, 3), (79, .aload_n 0, 1), (80, .getfield 60, 3), (83, .iload_n 3, 1), (84, .baload, 1), (85, .ifCond .eq 25, 3), (88, .aload_n 0, 1), (89, .getfield 66, 3), (92, .iload_n 3, 1), (93, .iaload, 1), (94, .iconst 2, 1), (95, .idiv, 1), (96, .iload_n 1, 1), (97, .if_icmp .ne 13, 3), (100, .aload_n 0, 1), (101, .getfield 60, 3), (104, .iload_n 3, 1), (105, .iconst 0, 1), (106, .bastore, 1), (107, .iinc 2 1, 3), (110, .iinc 3 1, 3), (113, .goto (-40), 3), (116, .iload_n 2, 1), (117, .ireturn, 1)]
set_option maxRecDepth 100000 in
theorem kc310 : chk cX12_doFail K310 = true := by decide +kernel
theorem d310 {j pc len : Nat} {i : Instr} (h : K310[j]? = some (pc, i, len)) : decode (mB 310) pc = .ok (i, len) := by
  unfold mB
  rw [mX_310]
  exact chk_at kc310 j h
def K311 : List (Nat × Instr × Nat) := [(0, .aload_n 0, 1), (1, .iload_n 1, 1), (2, .iconst 0, 1), (3, .iconst 3, 1), (4, .invokestatic 209, 3), (7, .ifCond .ne 7, 3), (10, .iconst 1, 1), (11, .goto 41, 3), (14, .iload_n 2, 1), (15, .sipush (-9999), 3), (18, .sipush 9999, 3), (21, .invokestatic 209, 3), (24, .ifCond .ne 7, 3), (27, .iconst 2, 1), (28, .goto 24, 3), (31, .aload_n 0, 1), (32, .getfield 188, 3), (35, .ifCond .lt 12, 3), (38, .aload_n 0, 1), (39, .getfield 153, 3), (42, .iload_n 1, 1), (43, .baload, 1), (44, .ifCond .eq 7, 3), (47, .iconst 3, 1), (48, .goto 4, 3), (51, .iconst 0, 1), (52, .putfield 180, 3), (55, .aload_n 0, 1), (56, .getfield 180, 3), (59, .ifCond .eq 5, 3), (62, .iconst 0, 1), (63, .ireturn, 1), (64, .aload_n 0, 1), (65, .getfield 156, 3), (68, .iload_n 1, 1), (69, .iconst 1, 1), (70, .bastore, 1), (71, .aload_n 0, 1), (72, .getfield 159, 3), (75, .iload_n 1, 1), (76, .iload_n 2, 1), (77, .iastore, 1), (78, .iconst 0, 1), (79, .istore_n 3, 1), (80, .iconst 0, 1), (81, .istore 4, 2), (83, .iload 4, 2), (85, .iconst 4, 1), (86, .if_icmp .ge 27, 3), (89, .iload_n 3, 1), (90, .aload_n 0, 1), (91, .getfield 156, 3), (94, .iload 4, 2), (96, .baload, 1), (97, .ifCond .eq 7, 3), (100, .iconst 1, 1), (101, .goto 4, 3), (104, .iconst 0, 1), (105, .iadd, 1), (106, .istore_n 3, 1), (107, .iinc 4 1, 3), (110, .goto (-27), 3), (113, .iload_n 3, 1), (114, .ireturn, 1)]
set_option maxRecDepth 100000 in
theorem kc311 : chk cX12_doBid K311 = true := by decide +kernel
theorem d311 {j pc len : Nat} {i : Instr} (h : K311[j]? = some (pc, i, len)) : decode (mB 311) pc = .ok (i, len) := by
  unfold mB
  rw [mX_311]
  exact chk_at kc311 j h
def K312 : List (Nat × Instr × Nat) := [(0, .lconst 0, 1), (1, .lstore_n 3, 1), (2, .iconst 0, 1), (3, .istore 5, 2), (5, .iload 5, 2), (7, .iconst 4, 1), (8, .if_icmp .ge 19, 3), (11, .lload_n 3, 1), (12, .aload_n 0, 1), (13, .getfield 171, 3), (16, .iload 5, 2), (18, .laload, 1), (19, .ladd, 1), (20, .lstore_n 3, 1), (21, .iinc 5 1, 3), (24, .goto (-19), 3), (27, .lload_n 1, 1), (28, .lload_n 3, 1), (29, .lcmp, 1), (30, .ifCond .ge 7, 3), (33, .lload_n 1, 1), (34, .goto 4, 3), (37, .lload_n 3, 1), (38, .lstore 5, 2), (40, .lload 5, 2), (42, .lstore 7, 2), (44, .iconst 0, 1), (45, .istore 9, 2), (47, .iload 9, 2), (49, .iconst 4, 1), (50, .if_icmp .ge 65, 3), (53, .aload_n 0, 1), (54, .getfield 174, 3), (57, .iload 9, 2), (59, .lload_n 3, 1), (60, .lconst 0, 1), (61, .lcmp, 1), (62, .ifCond .ne 7, 3), (65, .lconst 0, 1), (66, .goto 30, 3), (69, .lload_n 1, 1), (70, .lload_n 3, 1), (71, .lcmp, 1), (72, .ifCond .lt 13, 3), (75, .aload_n 0, 1), (76, .getfield 171, 3), (79, .iload 9, 2), (81, .laload, 1), (82, .goto 14, 3), (85, .lload_n 1, 1), (86, .aload_n 0, 1), (87, .getfield 171, 3), (90, .iload 9, 2), (92, .laload, 1), (93, .lmul, 1), (94, .lload_n 3, 1), (95, .ldiv, 1), (96, .lastore, 1), (97, .lload 5, 2), (99, .aload_n 0, 1), (100, .getfield 174, 3), (103, .iload 9, 2), (105, .laload, 1), (106, .lsub, 1), (107, .lstore 5, 2), (109, .iinc 9 1, 3), (112, .goto (-65), 3), (115, .lload 5, 2), (117, .lconst 0, 1), (118, .lcmp, 1), (119, .ifCond .le 72, 3), (122, .iconst 0, 1), (123, .istore 9, 2), (125, .iload 9, 2), (127, .iconst 4, 1), (128, .if_icmp .ge 60, 3), (131, .lload 5, 2), (133, .lconst 0, 1), (134, .lcmp, 1), (135, .ifCond .le 25, 3), (138, .aload_n 0, 1), (139, .getfield 174, 3), (142, .iload 9, 2), (144, .laload, 1), (145, .aload_n 0, 1), (146, .getfield 171, 3), (149, .iload 9, 2), (151, .laload, 1), (152, .lcmp, 1), (153, .ifCond .ge 7, 3), (156, .lconst 1, 1), (157, .goto 4, 3), (160, .lconst 0, 1), (161, .lstore 10, 2), (163, .aload_n 0, 1), (164, .getfield 174, 3), (167, .iload 9, 2), (169, .dup2, 1), (170, .laload, 1), (171, .lload 10, 2), (173, .ladd, 1), (174, .lastore, 1), (175, .lload 5, 2), (177, .lload 10, 2), (179, .lsub, 1), (180, .lstore 5, 2), (182, .iinc 9 1, 3), (185, .goto (-60), 3), (188, .goto (-73), 3), (191, .lload 7, 2), (193, .lreturn, 1)]
set_option maxRecDepth 100000 in
theorem kc312 : chk cX12_shares K312 = true := by decide +kernel
theorem d312 {j pc len : Nat} {i : Instr} (h : K312[j]? = some (pc, i, len)) : decode (mB 312) pc = .ok (i, len) := by
  unfold mB
  rw [mX_312]
  exact chk_at kc312 j h
def K313 : List (Nat × Instr × Nat) := [(0, .iconst (-1), 1), (1, .istore_n 1, 1), (2, .iconst 0, 1), (3, .istore_n 2, 1), (4, .iload_n 2, 1), (5, .iconst 4, 1), (6, .if_icmp .ge 43, 3), (9, .aload_n 0, 1), (10, .getfield 156, 3), (13, .iload_n 2, 1), (14, .baload, 1), (15, .ifCond .eq 26, 3), (18, .iload_n 1, 1), (19, .ifCond .lt 18, 3), (22, .aload_n 0, 1), (23, .getfield 159, 3), (26, .iload_n 2, 1), (27, .iaload, 1), (28, .aload_n 0, 1), (29, .getfield 159, 3), (32, .iload_n 1, 1), (33, .iaload, 1), (34, .if_icmp .le 7, 3), (37, .iload_n 2, 1), (38, .goto 4, 3), (41, .iload_n 1, 1), (42, .istore_n 1, 1), (43, .iinc 2 1, 3), (46, .goto (-42), 3), (49, .iload_n 1, 1), (50, .ireturn, 1)]
set_option maxRecDepth 100000 in
theorem kc313 : chk cX12_winner K313 = true := by decide +kernel
theorem d313 {j pc len : Nat} {i : Instr} (h : K313[j]? = some (pc, i, len)) : decode (mB 313) pc = .ok (i, len) := by
  unfold mB
  rw [mX_313]
  exact chk_at kc313 j h
def K314 : List (Nat × Instr × Nat) := [(0, .aload_n 0, 1), (1, .lload_n 2, 1), (2, .lconst 0, 1), (3, .lcmp, 1), (4, .ifCond .le 7, 3), (7, .iload_n 1, 1), (8, .goto 7, 3), (11, .aload_n 0, 1), (12, .getfield 482, 3), (15, .putfield 482, 3), (18, .aload_n 0, 1), (19, .getfield 13, 3), (22, .iconst 2, 1), (23, .iload 4, 2), (25, .imul, 1), (26, .dup2, 1), (27, .laload, 1), (28, .lload_n 2, 1), (29, .ladd, 1), (30, .lastore, 1), (31, .aload_n 0, 1), (32, .aload_n 0, 1), (33, .getfield 485, 3), (36, .lload_n 2, 1), (37, .lcmp, 1), (38, .ifCond .le 12, 3), (41, .aload_n 0, 1), (42, .getfield 485, 3), (45, .lload_n 2, 1), (46, .lsub, 1), (47, .goto 4, 3), (50, .lconst 0, 1), (51, .putfield 485, 3), (54, .return_, 1)]
set_option maxRecDepth 100000 in
theorem kc314 : chk cX12_covers K314 = true := by decide +kernel
theorem d314 {j pc len : Nat} {i : Instr} (h : K314[j]? = some (pc, i, len)) : decode (mB 314) pc = .ok (i, len) := by
  unfold mB
  rw [mX_314]
  exact chk_at kc314 j h
def K315 : List (Nat × Instr × Nat) := [(0, .lload_n 1, 1), (1, .aload_n 0, 1), (2, .getfield 485, 3), (5, .lcmp, 1), (6, .ifCond .ge 7, 3), (9, .lload_n 1, 1), (10, .goto 7, 3), (13, .aload_n 0, 1), (14, .getfield 485, 3), (17, .lreturn, 1)]
set_option maxRecDepth 100000 in
theorem kc315 : chk cX12_upTo K315 = true := by decide +kernel
theorem d315 {j pc len : Nat} {i : Instr} (h : K315[j]? = some (pc, i, len)) : decode (mB 315) pc = .ok (i, len) := by
  unfold mB
  rw [mX_315]
  exact chk_at kc315 j h
def K316 : List (Nat × Instr × Nat) := [(0, .aload_n 0, 1), (1, .aload_n 0, 1), (2, .getfield 188, 3), (5, .ifCond .lt 7, 3), (8, .iconst 0, 1), (9, .goto 4, 3), (12, .iconst 1, 1), (13, .putfield 180, 3), (16, .aload_n 0, 1), (17, .getfield 180, 3), (20, .ifCond .eq 5, 3), (23, .iconst 0, 1), (24, .ireturn, 1), (25, .aload_n 0, 1), (26, .getfield 188, 3), (29, .istore_n 1, 1), (30, .aload_n 0, 1), (31, .invokevirtual 489, 3), (34, .istore_n 2, 1), (35, .iload_n 2, 1), (36, .ifCond .ge 11, 3), (39, .aload_n 0, 1), (40, .iload_n 1, 1), (41, .invokevirtual 407, 3), (44, .goto 10, 3), (47, .aload_n 0, 1), (48, .getfield 159, 3), (51, .iload_n 2, 1), (52, .iaload, 1), (53, .i2l, 1), (54, .lstore_n 3, 1), (55, .iload_n 2, 1), (56, .ifCond .ge 8, 3), (59, .bipush 8, 2), (61, .goto 6, 3), (64, .iconst 2, 1), (65, .iload_n 2, 1), (66, .imul, 1), (67, .istore 5, 2), (69, .iconst 0, 1), (70, .istore 6, 2), (72, .iload 6, 2), (74, .iconst 4, 1), (75, .if_icmp .ge 60, 3), (78, .aload_n 0, 1), (79, .getfield 7, 3), (82, .iconst 4, 1), (83, .iload 5, 2), (85, .imul, 1), (86, .iload 6, 2), (88, .iadd, 1), (89, .dup2, 1), (90, .iaload, 1), (91, .aload_n 0, 1), (92, .iload_n 1, 1), (93, .iload 6, 2), (95, .invokevirtual 399, 3), (98, .l2i, 1), (99, .iadd, 1), (100, .iastore, 1), (101, .aload_n 0, 1), (102, .getfield 7, 3), (105, .bipush 8, 2), (107, .iload_n 1, 1), (108, .imul, 1), (109, .iload 6, 2), (111, .iadd, 1), (112, .iconst 0, 1), (113, .iastore, 1), (114, .aload_n 0, 1), (115, .getfield 7, 3), (118, .bipush 8, 2), (120, .iload_n 1, 1), (121, .imul, 1), (122, .iconst 4, 1), (123, .iadd, 1), (124, .iload 6, 2), (126, .iadd, 1), (127, .iconst 0, 1), (128, .iastore, 1), (129, .iinc 6 1, 3), (132, .goto (-60), 3), (135, .aload_n 0, 1), (136, .getfield 13, 3), (139, .iload 5, 2), (141, .dup2, 1), (142, .laload, 1), (143, .lload_n 3, 1), (144, .lsub, 1), (145, .lastore, 1), (146, .aload_n 0, 1), (147, .getfield 13, 3), (150, .iconst 2, 1), (151, .iload_n 1, 1), (152, .imul, 1), (153, .dup2, 1), (154, .laload, 1), (155, .aload_n 0, 1), (156, .getfield 13, 3), (159, .iconst 2, 1), (160, .iload_n 1, 1), (161, .imul, 1), (162, .iconst 1, 1), (163, .iadd, 1), (164, .laload, 1), (165, .lload_n 3, 1), (166, .ladd, 1), (167, .ladd, 1), (168, .lastore, 1), (169, .aload_n 0, 1), (170, .getfield 13, 3), (173, .iconst 2, 1), (174, .iload_n 1, 1), (175, .imul, 1), (176, .iconst 1, 1), (177, .iadd, 1), (178, .lconst 0, 1), (179, .lastore, 1), (180, .aload_n 0, 1), (181, .iconst 0, 1), (182, .putfield 482, 3), (185, .aload_n 0, 1), (186, .aload_n 0, 1), (187, .getfield 13, 3), (190, .iconst 2, 1), (191, .iload_n 1, 1), (192, .imul, 1), (193, .laload, 1), (194, .lconst 0, 1), (195, .lcmp, 1), (196, .ifCond .ge 15, 3), (199, .aload_n 0, 1), (200, .getfield 13, 3), (203, .iconst 2, 1), (204, .iload_n 1, 1), (205, .imul, 1), (206, .laload, 1), (207, .lneg, 1), (208, .goto 4, 3), (211, .lconst 0, 1), (212, .putfield 485, 3), (215, .aload_n 0, 1), (216, .getfield 485, 3), (219, .lconst 0, 1), (220, .lcmp, 1), (221, .ifCond .le 9, 3), (224, .aload_n 0, 1), (225, .iload_n 1, 1), (226, .iload_n 2, 1), (227, .invokevirtual 492, 3), (230, .aload_n 0, 1), (231, .iconst (-1), 1), (232, .putfield 188, 3), (235, .iconst 0, 1), (236, .istore 6, 2), (238, .iload 6, 2), (240, .iconst 4, 1), (241, .if_icmp .ge 17, 3), (244, .aload_n 0, 1), (245, .getfield 156, 3), (248, .iload 6, 2), (250, .iconst 0, 1), (251, .bastore, 1), (252, .iinc 6 1, 3), (255, .goto (-17), 3), (258, .aload_n 0, 1), (259, .getfield 482, 3), (262, .ireturn, 1)]
set_option maxRecDepth 100000 in
theorem kc316 : chk cX12_doCloseOut K316 = true := by decide +kernel
theorem d316 {j pc len : Nat} {i : Instr} (h : K316[j]? = some (pc, i, len)) : decode (mB 316) pc = .ok (i, len) := by
  unfold mB
  rw [mX_316]
  exact chk_at kc316 j h
def K317 : List (Nat × Instr × Nat) := [(0, .aload_n 0, 1), (1, .aload_n 0, 1), (2, .getfield 144, 3), (5, .iload_n 1, 1), (6, .iaload, 1), (7, .i2l, 1), (8, .invokevirtual 495, 3), (11, .lstore_n 3, 1), (12, .aload_n 0, 1), (13, .getfield 144, 3), (16, .iload_n 1, 1), (17, .dup2, 1), (18, .iaload, 1), (19, .lload_n 3, 1), (20, .l2i, 1), (21, .isub, 1), (22, .iastore, 1), (23, .aload_n 0, 1), (24, .iconst 1, 1), (25, .lload_n 3, 1), (26, .iload_n 1, 1), (27, .invokevirtual 499, 3), (30, .aload_n 0, 1), (31, .getfield 485, 3), (34, .aload_n 0, 1), (35, .getfield 45, 3), (38, .iconst 1, 1), (39, .iaload, 1), (40, .i2l, 1), (41, .ladd, 1), (42, .lconst 1, 1), (43, .lsub, 1), (44, .aload_n 0, 1), (45, .getfield 45, 3), (48, .iconst 1, 1), (49, .iaload, 1), (50, .i2l, 1), (51, .ldiv, 1), (52, .lstore 5, 2), (54, .aload_n 0, 1), (55, .getfield 147, 3), (58, .iload_n 1, 1), (59, .iaload, 1), (60, .i2l, 1), (61, .lload 5, 2), (63, .lcmp, 1), (64, .ifCond .ge 13, 3), (67, .aload_n 0, 1), (68, .getfield 147, 3), (71, .iload_n 1, 1), (72, .iaload, 1), (73, .i2l, 1), (74, .goto 5, 3), (77, .lload 5, 2), (79, .lstore 7, 2), (81, .aload_n 0, 1), (82, .getfield 147, 3), (85, .iload_n 1, 1), (86, .dup2, 1), (87, .iaload, 1), (88, .lload 7, 2), (90, .l2i, 1), (91, .isub, 1), (92, .iastore, 1), (93, .aload_n 0, 1), (94, .getfield 13, 3), (97, .bipush 8, 2), (99, .dup2, 1), (100, .laload, 1), (101, .lload 7, 2), (103, .aload_n 0, 1), (104, .getfield 45, 3), (107, .iconst 1, 1), (108, .iaload, 1), (109, .i2l, 1), (110, .lmul, 1), (111, .lsub, 1), (112, .lastore, 1), (113, .aload_n 0, 1), (114, .iconst 2, 1), (115, .lload 7, 2), (117, .aload_n 0, 1), (118, .getfield 45, 3), (121, .iconst 1, 1), (122, .iaload, 1), (123, .i2l, 1), (124, .lmul, 1), (125, .iload_n 1, 1), (126, .invokevirtual 499, 3), (129, .aload_n 0, 1), (130, .aload_n 0, 1), (131, .getfield 150, 3), (134, .iload_n 1, 1), (135, .iaload, 1), (136, .i2l, 1), (137, .invokevirtual 495, 3), (140, .lstore_n 3, 1), (141, .aload_n 0, 1), (142, .getfield 150, 3), (145, .iload_n 1, 1), (146, .dup2, 1), (147, .iaload, 1), (148, .lload_n 3, 1), (149, .l2i, 1), (150, .isub, 1), (151, .iastore, 1), (152, .aload_n 0, 1), (153, .iconst 3, 1), (154, .lload_n 3, 1), (155, .iload_n 1, 1), (156, .invokevirtual 499, 3), (159, .aload_n 0, 1), (160, .aload_n 0, 1), (161, .getfield 191, 3), (164, .i2l, 1), (165, .invokevirtual 495, 3), (168, .lstore_n 3, 1), (169, .aload_n 0, 1), (170, .dup, 1), (171, .getfield 191, 3), (174, .lload_n 3, 1), (175, .l2i, 1), (176, .isub, 1), (177, .putfield 191, 3), (180, .aload_n 0, 1), (181, .iconst 4, 1), (182, .lload_n 3, 1), (183, .iload_n 1, 1), (184, .invokevirtual 499, 3), (187, .aload_n 0, 1), (188, .getfield 150, 3), (191, .iconst 0, 1), (192, .iaload, 1), (193, .istore 9, 2), (195, .aload_n 0, 1), (196, .getfield 150, 3), (199, .iconst 1, 1), (200, .iaload, 1), (201, .istore 10, 2), (203, .aload_n 0, 1), (204, .getfield 150, 3), (207, .iconst 2, 1), (208, .iaload, 1), (209, .istore 11, 2), (211, .aload_n 0, 1), (212, .getfield 150, 3), (215, .iconst 3, 1), (216, .iaload, 1), (217, .istore 12, 2), (219, .aload_n 0, 1), (220, .iload_n 1, 1), (221, .iload_n 2, 1), (222, .iconst 1, 1), (223, .invokevirtual 503, 3), (226, .aload_n 0, 1), (227, .iload_n 1, 1), (228, .iload_n 2, 1), (229, .iconst 0, 1), (230, .invokevirtual 503, 3), (233, .aload_n 0, 1), (234, .getfield 171, 3), (237, .iconst 0, 1), (238, .iload 9, 2), (240, .i2l, 1), (241, .lastore, 1), (242, .aload_n 0, 1), (243, .getfield 171, 3), (246, .iconst 1, 1), (247, .iload 10, 2), (249, .i2l, 1), (250, .lastore, 1), (251, .aload_n 0, 1), (252, .getfield 171, 3), (255, .iconst 2, 1), (256, .iload 11, 2), (258, .i2l, 1), (259, .lastore, 1), (260, .aload_n 0, 1), (261, .getfield 171, 3), (264, .iconst 3, 1), (265, .iload 12, 2), (267, .i2l, 1), (268, .lastore, 1), (269, .iconst 0, 1), (270, .istore 13, 2), (272, .iload 13, 2), (274, .iconst 4, 1), (275, .if_icmp .ge 37, 3), (278, .aload_n 0, 1), (279, .getfield 171, 3), (282, .iload 13, 2), (284, .aload_n 0, 1), (285, .getfield 153, 3), (288, .iload 13, 2), (290, .baload, 1), (291, .ifCond .eq 7, 3), (294, .lconst 0, 1), (295, .goto 10, 3), (298, .aload_n 0, 1), (299, .getfield 171, 3), (302, .iload 13, 2), (304, .laload, 1), (305, .lastore, 1), (306, .iinc 13 1, 3), (309, .goto (-37), 3), (312, .aload_n 0, 1), (313, .aload_n 0, 1), (314, .getfield 485, 3), (317, .invokevirtual 506, 3), (320, .lstore 13, 2), (322, .iconst 0, 1), (323, .istore 15, 2), (325, .iload 15, 2), (327, .iconst 4, 1), (328, .if_icmp .ge 28, 3), (331, .aload_n 0, 1), (332, .getfield 13, 3), (335, .iconst 2, 1), (336, .iload 15, 2), (338, .imul, 1), (339, .dup2, 1), (340, .laload, 1), (341, .aload_n 0, 1), (342, .getfield 174, 3), (345, .iload 15, 2), (347, .laload, 1), (348, .lsub, 1), (349, .lastore, 1), (350, .iinc 15 1, 3), (353, .goto (-28), 3), (356, .aload_n 0, 1), (357, .bipush 7, 2), (359, .lload 13, 2), (361, .iload_n 1, 1), (362, .invokevirtual 499, 3), (365, .aload_n 0, 1), (366, .getfield 485, 3), (369, .lstore_n 3, 1), (370, .aload_n 0, 1), (371, .getfield 13, 3), (374, .bipush 8, 2), (376, .dup2, 1), (377, .laload, 1), (378, .lload_n 3, 1), (379, .lsub, 1), (380, .lastore, 1), (381, .aload_n 0, 1), (382, .bipush 8, 2), (384, .lload_n 3, 1), (385, .iload_n 1, 1), (386, .invokevirtual 499, 3), (389, .return_, 1)]
set_option maxRecDepth 100000 in
theorem kc317 : chk cX12_coversAll K317 = true := by decide +kernel
theorem d317 {j pc len : Nat} {i : Instr} (h : K317[j]? = some (pc, i, len)) : decode (mB 317) pc = .ok (i, len) := by
  unfold mB
  rw [mX_317]
  exact chk_at kc317 j h
def K318 : List (Nat × Instr × Nat) := [(0, .iconst 0, 1), (1, .istore 4, 2), (3, .iload 4, 2), (5, .iconst 4, 1), (6, .if_icmp .ge 84, 3), (9, .aload_n 0, 1), (10, .getfield 156, 3), (13, .iload 4, 2), (15, .baload, 1), (16, .ifCond .eq 26, 3), (19, .iload_n 2, 1), (20, .ifCond .lt 26, 3), (23, .aload_n 0, 1), (24, .getfield 159, 3), (27, .iload 4, 2), (29, .iaload, 1), (30, .aload_n 0, 1), (31, .getfield 159, 3), (34, .iload_n 2, 1), (35, .iaload, 1), (36, .bipush 100, 2), (38, .isub, 1), (39, .if_icmp .ge 7, 3), (42, .iconst 1, 1), (43, .goto 4, 3), (46, .iconst 0, 1), (47, .istore 5, 2), (49, .aload_n 0, 1), (50, .getfield 171, 3), (53, .iload 4, 2), (55, .aload_n 0, 1), (56, .getfield 153, 3), (59, .iload 4, 2), (61, .baload, 1), (62, .ifCond .ne 20, 3), (65, .iload 5, 2), (67, .iload_n 3, 1), (68, .if_icmp .ne 14, 3), (71, .aload_n 0, 1), (72, .getfield 150, 3), (75, .iload 4, 2), (77, .iaload, 1), (78, .i2l, 1), (79, .goto 4, 3), (82, .lconst 0, 1), (83, .lastore, 1), (84, .iinc 4 1, 3), (87, .goto (-84), 3), (90, .aload_n 0, 1), (91, .aload_n 0, 1), (92, .getfield 485, 3), (95, .invokevirtual 506, 3), (98, .lstore 4, 2), (100, .iconst 0, 1), (101, .istore 6, 2), (103, .iload 6, 2), (105, .iconst 4, 1), (106, .if_icmp .ge 27, 3), (109, .aload_n 0, 1), (110, .getfield 150, 3), (113, .iload 6, 2), (115, .dup2, 1), (116, .iaload, 1), (117, .aload_n 0, 1), (118, .getfield 174, 3), (121, .iload 6, 2), (123, .laload, 1), (124, .l2i, 1), (125, .isub, 1), (126, .iastore, 1), (127, .iinc 6 1, 3), (130, .goto (-27), 3), (133, .aload_n 0, 1), (134, .iload_n 3, 1), (135, .ifCond .eq 7, 3), (138, .iconst 5, 1), (139, .goto 5, 3), (142, .bipush 6, 2), (144, .lload 4, 2), (146, .iload_n 1, 1), (147, .invokevirtual 499, 3), (150, .return_, 1)]
set_option maxRecDepth 100000 in
theorem kc318 : chk cX12_coversByFunds K318 = true := by decide +kernel
theorem d318 {j pc len : Nat} {i : Instr} (h : K318[j]? = some (pc, i, len)) : decode (mB 318) pc = .ok (i, len) := by
  unfold mB
  rw [mX_318]
  exact chk_at kc318 j h
def K319 : List (Nat × Instr × Nat) := [(0, .iload_n 1, 1), (1, .tableswitch 340 0 16 #[83, 99, 109, 123, 137, 151, 165, 172, 184, 210, 234, 281, 293, 300, 306, 313, 321], 83), (84, .aload_n 0, 1), (85, .iload_n 2, 1), (86, .iload_n 3, 1), (87, .iload 4, 2), (89, .iload 5, 2), (91, .iload 6, 2), (93, .iload 7, 2), (95, .invokevirtual 509, 3), (98, .i2l, 1), (99, .lreturn, 1), (100, .aload_n 0, 1), (101, .iload_n 2, 1), (102, .iload_n 3, 1), (103, .iload 4, 2), (105, .invokevirtual 513, 3), (108, .i2l, 1), (109, .lreturn, 1), (110, .aload_n 0, 1), (111, .iload_n 2, 1), (112, .iload_n 3, 1), (113, .iload 4, 2), (115, .iload 5, 2), (117, .iload 6, 2), (119, .invokevirtual 516, 3), (122, .i2l, 1), (123, .lreturn, 1), (124, .aload_n 0, 1), (125, .iload_n 2, 1), (126, .iload_n 3, 1), (127, .iload 4, 2), (129, .iload 5, 2), (131, .iload 6, 2), (133, .invokevirtual 520, 3), (136, .i2l, 1), (137, .lreturn, 1), (138, .aload_n 0, 1), (139, .iload_n 2, 1), (140, .iload_n 3, 1), (141, .iload 4, 2), (143, .iload 5, 2), (145, .iload 6, 2), (147, .invokevirtual 523, 3), (150, .i2l, 1), (151, .lreturn, 1), (152, .aload_n 0, 1), (153, .iload_n 2, 1), (154, .iload_n 3, 1), (155, .iload 4, 2), (157, .iload 5, 2), (159, .iload 6, 2), (161, .invokevirtual 526, 3), (164, .i2l, 1), (165, .lreturn, 1), (166, .aload_n 0, 1), (167, .iload_n 2, 1), (168, .invokevirtual 529, 3), (171, .i2l, 1), (172, .lreturn, 1), (173, .aload_n 0, 1), (174, .iload_n 2, 1), (175, .iload_n 3, 1), (176, .iload 4, 2), (178, .iload 5, 2), (180, .invokevirtual 532, 3), (183, .i2l, 1), (184, .lreturn, 1), (185, .aload_n 0, 1), (186, .aload_n 0, 1), (187, .getfield 42, 3), (190, .iload_n 2, 1), (191, .iload_n 2, 1), (192, .iconst 0, 1), (193, .iconst 5, 1), (194, .invokestatic 209, 3), (197, .iload_n 3, 1), (198, .iload_n 3, 1), (199, .iconst 0, 1), (200, .sipush 9999, 3), (203, .invokestatic 209, 3), (206, .invokevirtual 536, 3), (209, .i2l, 1), (210, .lreturn, 1), (211, .aload_n 0, 1), (212, .aload_n 0, 1), (213, .getfield 20, 3), (216, .iload_n 2, 1), (217, .iload_n 2, 1), (218, .invokestatic 429, 3), (221, .iload_n 3, 1), (222, .iload_n 3, 1), (223, .iconst 0, 1), (224, .sipush 999, 3), (227, .invokestatic 209, 3), (230, .invokevirtual 536, 3), (233, .i2l, 1), (234, .lreturn, 1), (235, .aload_n 0, 1), (236, .aload_n 0, 1), (237, .getfield 17, 3), (240, .iconst 4, 1), (241, .iload_n 2, 1), (242, .imul, 1), (243, .iload_n 3, 1), (244, .iadd, 1), (245, .iload_n 2, 1), (246, .invokestatic 429, 3), (249, .ifCond .eq 16, 3), (252, .iload_n 3, 1), (253, .iconst 0, 1), (254, .iconst 3, 1), (255, .invokestatic 209, 3), (258, .ifCond .eq 7, 3), (261, .iconst 1, 1), (262, .goto 4, 3), (265, .iconst 0, 1), (266, .iload 4, 2), (268, .iload 4, 2), (270, .iconst 0, 1), (271, .sipush 999, 3), (274, .invokestatic 209, 3), (277, .invokevirtual 536, 3), (280, .i2l, 1), (281, .lreturn, 1), (282, .aload_n 0, 1), (283, .iload_n 2, 1), (284, .iload_n 3, 1), (285, .iload 4, 2), (287, .iload 5, 2), (289, .invokevirtual 540, 3), (292, .i2l, 1), (293, .lreturn, 1), (294, .aload_n 0, 1), (295, .iload_n 2, 1), (296, .invokevirtual 543, 3), (299, .i2l, 1), (300, .lreturn, 1), (301, .aload_n 0, 1), (302, .invokevirtual 546, 3), (305, .i2l, 1), (306, .lreturn, 1), (307, .aload_n 0, 1), (308, .iload_n 2, 1), (309, .invokevirtual 549, 3), (312, .i2l, 1), (313, .lreturn, 1), (314, .aload_n 0, 1), (315, .iload_n 2, 1), (316, .iload_n 3, 1), (317, .invokevirtual 552, 3), (320, .i2l, 1), (321, .lreturn, 1), (322, .aload_n 0, 1), (323, .iload_n 2, 1), (324, .iload_n 3, 1), (325, .iconst 1, 1), (326, .if_icmp .ne 7, 3), (329, .iconst 1, 1), (330, .goto 4, 3), (333, .iconst 0, 1), (334, .iload 4, 2), (336, .invokevirtual 555, 3), (339, .i2l, 1), (340, .lreturn, 1), (341, .aload_n 0, 1), (342, .iload_n 1, 1), (343, .iload_n 2, 1), (344, .iload_n 3, 1), (345, .iload 4, 2), (347, .iload 5, 2), (349, .invokevirtual 558, 3), (352, .lreturn, 1)]
set_option maxRecDepth 100000 in
theorem kc319 : chk cX12_does K319 = true := by decide +kernel
theorem d319 {j pc len : Nat} {i : Instr} (h : K319[j]? = some (pc, i, len)) : decode (mB 319) pc = .ok (i, len) := by
  unfold mB
  rw [mX_319]
  exact chk_at kc319 j h
def K320 : List (Nat × Instr × Nat) := [(0, .iload_n 1, 1), (1, .tableswitch 223 17 25 #[51, 63, 73, 83, 132, 191, 200, 208, 215], 51), (52, .aload_n 0, 1), (53, .iload_n 2, 1), (54, .iload_n 3, 1), (55, .iload 4, 2), (57, .iload 5, 2), (59, .invokevirtual 562, 3), (62, .i2l, 1), (63, .lreturn, 1), (64, .aload_n 0, 1), (65, .iload_n 2, 1), (66, .iload_n 3, 1), (67, .iload 4, 2), (69, .invokevirtual 565, 3), (72, .i2l, 1), (73, .lreturn, 1), (74, .aload_n 0, 1), (75, .iload_n 2, 1), (76, .iload_n 3, 1), (77, .iload 4, 2), (79, .invokevirtual 568, 3), (82, .i2l, 1), (83, .lreturn, 1), (84, .aload_n 0, 1), (85, .aload_n 0, 1), (86, .getfield 141, 3), (89, .iconst 4, 1), (90, .iload_n 2, 1), (91, .imul, 1), (92, .iload_n 3, 1), (93, .iadd, 1), (94, .iload_n 2, 1), (95, .iconst 0, 1), (96, .iconst 3, 1), (97, .invokestatic 209, 3), (100, .ifCond .eq 16, 3), (103, .iload_n 3, 1), (104, .iconst 0, 1), (105, .iconst 3, 1), (106, .invokestatic 209, 3), (109, .ifCond .eq 7, 3), (112, .iconst 1, 1), (113, .goto 4, 3), (116, .iconst 0, 1), (117, .iload 4, 2), (119, .iload 4, 2), (121, .bipush (-99), 2), (123, .bipush 99, 2), (125, .invokestatic 209, 3), (128, .invokevirtual 536, 3), (131, .i2l, 1), (132, .lreturn, 1), (133, .aload_n 0, 1), (134, .iload_n 2, 1), (135, .iconst 0, 1), (136, .bipush 100, 2), (138, .invokestatic 209, 3), (141, .ifCond .eq 7, 3), (144, .iconst 0, 1), (145, .goto 4, 3), (148, .iconst 1, 1), (149, .putfield 180, 3), (152, .aload_n 0, 1), (153, .getfield 185, 3), (156, .istore 6, 2), (158, .aload_n 0, 1), (159, .aload_n 0, 1), (160, .getfield 180, 3), (163, .ifCond .ne 7, 3), (166, .iload_n 2, 1), (167, .goto 7, 3), (170, .aload_n 0, 1), (171, .getfield 185, 3), (174, .putfield 185, 3), (177, .aload_n 0, 1), (178, .getfield 180, 3), (181, .ifCond .ne 9, 3), (184, .iload 6, 2), (186, .i2l, 1), (187, .goto 4, 3), (190, .lconst 0, 1), (191, .lreturn, 1), (192, .aload_n 0, 1), (193, .iload_n 2, 1), (194, .iload_n 3, 1), (195, .iload 4, 2), (197, .invokevirtual 571, 3), (200, .lreturn, 1), (201, .aload_n 0, 1), (202, .iload_n 2, 1), (203, .iload_n 3, 1), (204, .invokevirtual 575, 3), (207, .i2l, 1), (208, .lreturn, 1), (209, .aload_n 0, 1), (210, .iload_n 2, 1), (211, .invokevirtual 578, 3), (214, .i2l, 1), (215, .lreturn, 1), (216, .aload_n 0, 1), (217, .iload_n 2, 1), (218, .iload_n 3, 1), (219, .invokevirtual 581, 3), (222, .i2l, 1), (223, .lreturn, 1), (224, .aload_n 0, 1), (225, .invokevirtual 584, 3), (228, .i2l, 1), (229, .lreturn, 1)]
set_option maxRecDepth 100000 in
theorem kc320 : chk cX12_doesMore K320 = true := by decide +kernel
theorem d320 {j pc len : Nat} {i : Instr} (h : K320[j]? = some (pc, i, len)) : decode (mB 320) pc = .ok (i, len) := by
  unfold mB
  rw [mX_320]
  exact chk_at kc320 j h
def K321 : List (Nat × Instr × Nat) := [(0, .aload_n 0, 1), (1, .iload_n 1, 1), (2, .iload_n 2, 1), (3, .iload_n 3, 1), (4, .iload 4, 2), (6, .iload 5, 2), (8, .iload 6, 2), (10, .iload 7, 2), (12, .invokevirtual 587, 3), (15, .lstore 8, 2), (17, .aload_n 0, 1), (18, .getfield 180, 3), (21, .ifCond .eq 5, 3), (24, .iconst 0, 1), (25, .ireturn, 1), (26, .aload_n 0, 1), (27, .invokevirtual 390, 3), (30, .bipush 7, 2), (32, .aload_n 0, 1), (33, .getfield 591, 3), (36, .imul, 1), (37, .istore 10, 2), (39, .aload_n 0, 1), (40, .getfield 162, 3), (43, .iload 10, 2), (45, .iload_n 1, 1), (46, .iastore, 1), (47, .aload_n 0, 1), (48, .getfield 162, 3), (51, .iload 10, 2), (53, .iconst 1, 1), (54, .iadd, 1), (55, .iload_n 2, 1), (56, .iastore, 1), (57, .aload_n 0, 1), (58, .getfield 162, 3), (61, .iload 10, 2), (63, .iconst 2, 1), (64, .iadd, 1), (65, .iload_n 3, 1), (66, .iastore, 1), (67, .aload_n 0, 1), (68, .getfield 162, 3), (71, .iload 10, 2), (73, .iconst 3, 1), (74, .iadd, 1), (75, .iload 4, 2), (77, .iastore, 1), (78, .aload_n 0, 1), (79, .getfield 162, 3), (82, .iload 10, 2), (84, .iconst 4, 1), (85, .iadd, 1), (86, .iload 5, 2), (88, .iastore, 1), (89, .aload_n 0, 1), (90, .getfield 162, 3), (93, .iload 10, 2), (95, .iconst 5, 1), (96, .iadd, 1), (97, .iload 6, 2), (99, .iastore, 1), (100, .aload_n 0, 1), (101, .getfield 162, 3), (104, .iload 10, 2), (106, .bipush 6, 2), (108, .iadd, 1), (109, .iload 7, 2), (111, .iastore, 1), (112, .aload_n 0, 1), (113, .dup, 1), (114, .getfield 591, 3), (117, .iconst 1, 1), (118, .iadd, 1), (119, .putfield 591, 3), (122, .lload 8, 2), (124, .l2i, 1), (125, .ireturn, 1)]
set_option maxRecDepth 100000 in
theorem kc321 : chk cX12_act K321 = true := by decide +kernel
theorem d321 {j pc len : Nat} {i : Instr} (h : K321[j]? = some (pc, i, len)) : decode (mB 321) pc = .ok (i, len) := by
  unfold mB
  rw [mX_321]
  exact chk_at kc321 j h
def K322 : List (Nat × Instr × Nat) := [(0, .aload_n 0, 1), (1, .iconst 0, 1), (2, .iload_n 1, 1), (3, .iload_n 2, 1), (4, .iload_n 3, 1), (5, .iload 4, 2), (7, .iload 5, 2), (9, .iload 6, 2), (11, .invokevirtual 594, 3), (14, .ireturn, 1)]
set_option maxRecDepth 100000 in
theorem kc322 : chk cX12_limit K322 = true := by decide +kernel
theorem d322 {j pc len : Nat} {i : Instr} (h : K322[j]? = some (pc, i, len)) : decode (mB 322) pc = .ok (i, len) := by
  unfold mB
  rw [mX_322]
  exact chk_at kc322 j h
def K323 : List (Nat × Instr × Nat) := [(0, .aload_n 0, 1), (1, .iconst 1, 1), (2, .iload_n 1, 1), (3, .iload_n 2, 1), (4, .iload_n 3, 1), (5, .iconst 0, 1), (6, .iconst 0, 1), (7, .iconst 0, 1), (8, .invokevirtual 594, 3), (11, .ireturn, 1)]
set_option maxRecDepth 100000 in
theorem kc323 : chk cX12_market K323 = true := by decide +kernel
theorem d323 {j pc len : Nat} {i : Instr} (h : K323[j]? = some (pc, i, len)) : decode (mB 323) pc = .ok (i, len) := by
  unfold mB
  rw [mX_323]
  exact chk_at kc323 j h
def K324 : List (Nat × Instr × Nat) := [(0, .aload_n 0, 1), (1, .iconst 2, 1), (2, .iload_n 1, 1), (3, .iload_n 2, 1), (4, .iload_n 3, 1), (5, .iload 4, 2), (7, .iload 5, 2), (9, .iconst 0, 1), (10, .invokevirtual 594, 3), (13, .ireturn, 1)]
set_option maxRecDepth 100000 in
theorem kc324 : chk cX12_iceberg K324 = true := by decide +kernel
theorem d324 {j pc len : Nat} {i : Instr} (h : K324[j]? = some (pc, i, len)) : decode (mB 324) pc = .ok (i, len) := by
  unfold mB
  rw [mX_324]
  exact chk_at kc324 j h
def K325 : List (Nat × Instr × Nat) := [(0, .aload_n 0, 1), (1, .iconst 3, 1), (2, .iload_n 1, 1), (3, .iload_n 2, 1), (4, .iload_n 3, 1), (5, .iload 4, 2), (7, .iload 5, 2), (9, .iconst 0, 1), (10, .invokevirtual 594, 3), (13, .ireturn, 1)]
set_option maxRecDepth 100000 in
theorem kc325 : chk cX12_peg K325 = true := by decide +kernel
theorem d325 {j pc len : Nat} {i : Instr} (h : K325[j]? = some (pc, i, len)) : decode (mB 325) pc = .ok (i, len) := by
  unfold mB
  rw [mX_325]
  exact chk_at kc325 j h
def K326 : List (Nat × Instr × Nat) := [(0, .aload_n 0, 1), (1, .iconst 4, 1), (2, .iload_n 1, 1), (3, .iload_n 2, 1), (4, .iload_n 3, 1), (5, .iload 4, 2), (7, .iload 5, 2), (9, .iconst 0, 1), (10, .invokevirtual 594, 3), (13, .ireturn, 1)]
set_option maxRecDepth 100000 in
theorem kc326 : chk cX12_stop K326 = true := by decide +kernel
theorem d326 {j pc len : Nat} {i : Instr} (h : K326[j]? = some (pc, i, len)) : decode (mB 326) pc = .ok (i, len) := by
  unfold mB
  rw [mX_326]
  exact chk_at kc326 j h
def K327 : List (Nat × Instr × Nat) := [(0, .aload_n 0, 1), (1, .iconst 5, 1), (2, .iload_n 1, 1), (3, .iload_n 2, 1), (4, .iload_n 3, 1), (5, .iload 4, 2), (7, .iload 5, 2), (9, .iconst 0, 1), (10, .invokevirtual 594, 3), (13, .ireturn, 1)]
set_option maxRecDepth 100000 in
theorem kc327 : chk cX12_quote K327 = true := by decide +kernel
theorem d327 {j pc len : Nat} {i : Instr} (h : K327[j]? = some (pc, i, len)) : decode (mB 327) pc = .ok (i, len) := by
  unfold mB
  rw [mX_327]
  exact chk_at kc327 j h
def K328 : List (Nat × Instr × Nat) := [(0, .aload_n 0, 1), (1, .bipush 6, 2), (3, .iload_n 1, 1), (4, .iconst 0, 1), (5, .iconst 0, 1), (6, .iconst 0, 1), (7, .iconst 0, 1), (8, .iconst 0, 1), (9, .invokevirtual 594, 3), (12, .ireturn, 1)]
set_option maxRecDepth 100000 in
theorem kc328 : chk cX12_cancel K328 = true := by decide +kernel
theorem d328 {j pc len : Nat} {i : Instr} (h : K328[j]? = some (pc, i, len)) : decode (mB 328) pc = .ok (i, len) := by
  unfold mB
  rw [mX_328]
  exact chk_at kc328 j h
def K329 : List (Nat × Instr × Nat) := [(0, .aload_n 0, 1), (1, .bipush 7, 2), (3, .iload_n 1, 1), (4, .iload_n 2, 1), (5, .iload_n 3, 1), (6, .iload 4, 2), (8, .iconst 0, 1), (9, .iconst 0, 1), (10, .invokevirtual 594, 3), (13, .ireturn, 1)]
set_option maxRecDepth 100000 in
theorem kc329 : chk cX12_setRule K329 = true := by decide +kernel
theorem d329 {j pc len : Nat} {i : Instr} (h : K329[j]? = some (pc, i, len)) : decode (mB 329) pc = .ok (i, len) := by
  unfold mB
  rw [mX_329]
  exact chk_at kc329 j h
def K330 : List (Nat × Instr × Nat) := [(0, .aload_n 0, 1), (1, .bipush 8, 2), (3, .iload_n 1, 1), (4, .iload_n 2, 1), (5, .iconst 0, 1), (6, .iconst 0, 1), (7, .iconst 0, 1), (8, .iconst 0, 1), (9, .invokevirtual 594, 3), (12, .ireturn, 1)]
set_option maxRecDepth 100000 in
theorem kc330 : chk cX12_setBand K330 = true := by decide +kernel
theorem d330 {j pc len : Nat} {i : Instr} (h : K330[j]? = some (pc, i, len)) : decode (mB 330) pc = .ok (i, len) := by
  unfold mB
  rw [mX_330]
  exact chk_at kc330 j h
def K331 : List (Nat × Instr × Nat) := [(0, .aload_n 0, 1), (1, .bipush 9, 2), (3, .iload_n 1, 1), (4, .iload_n 2, 1), (5, .iconst 0, 1), (6, .iconst 0, 1), (7, .iconst 0, 1), (8, .iconst 0, 1), (9, .invokevirtual 594, 3), (12, .ireturn, 1)]
set_option maxRecDepth 100000 in
theorem kc331 : chk cX12_setProtection K331 = true := by decide +kernel
theorem d331 {j pc len : Nat} {i : Instr} (h : K331[j]? = some (pc, i, len)) : decode (mB 331) pc = .ok (i, len) := by
  unfold mB
  rw [mX_331]
  exact chk_at kc331 j h
def K332 : List (Nat × Instr × Nat) := [(0, .aload_n 0, 1), (1, .bipush 10, 2), (3, .iload_n 1, 1), (4, .iload_n 2, 1), (5, .iload_n 3, 1), (6, .iconst 0, 1), (7, .iconst 0, 1), (8, .iconst 0, 1), (9, .invokevirtual 594, 3), (12, .ireturn, 1)]
set_option maxRecDepth 100000 in
theorem kc332 : chk cX12_setLimit K332 = true := by decide +kernel
theorem d332 {j pc len : Nat} {i : Instr} (h : K332[j]? = some (pc, i, len)) : decode (mB 332) pc = .ok (i, len) := by
  unfold mB
  rw [mX_332]
  exact chk_at kc332 j h
def K333 : List (Nat × Instr × Nat) := [(0, .aload_n 0, 1), (1, .bipush 11, 2), (3, .iload_n 1, 1), (4, .iload_n 2, 1), (5, .iload_n 3, 1), (6, .iload 4, 2), (8, .iconst 0, 1), (9, .iconst 0, 1), (10, .invokevirtual 594, 3), (13, .ireturn, 1)]
set_option maxRecDepth 100000 in
theorem kc333 : chk cX12_auction K333 = true := by decide +kernel
theorem d333 {j pc len : Nat} {i : Instr} (h : K333[j]? = some (pc, i, len)) : decode (mB 333) pc = .ok (i, len) := by
  unfold mB
  rw [mX_333]
  exact chk_at kc333 j h
def K334 : List (Nat × Instr × Nat) := [(0, .aload_n 0, 1), (1, .bipush 12, 2), (3, .iload_n 1, 1), (4, .iconst 0, 1), (5, .iconst 0, 1), (6, .iconst 0, 1), (7, .iconst 0, 1), (8, .iconst 0, 1), (9, .invokevirtual 594, 3), (12, .ireturn, 1)]
set_option maxRecDepth 100000 in
theorem kc334 : chk cX12_pass K334 = true := by decide +kernel
theorem d334 {j pc len : Nat} {i : Instr} (h : K334[j]? = some (pc, i, len)) : decode (mB 334) pc = .ok (i, len) := by
  unfold mB
  rw [mX_334]
  exact chk_at kc334 j h
def K335 : List (Nat × Instr × Nat) := [(0, .aload_n 0, 1), (1, .bipush 13, 2), (3, .iconst 0, 1), (4, .iconst 0, 1), (5, .iconst 0, 1), (6, .iconst 0, 1), (7, .iconst 0, 1), (8, .iconst 0, 1), (9, .invokevirtual 594, 3), (12, .ireturn, 1)]
set_option maxRecDepth 100000 in
theorem kc335 : chk cX12_endDay K335 = true := by decide +kernel
theorem d335 {j pc len : Nat} {i : Instr} (h : K335[j]? = some (pc, i, len)) : decode (mB 335) pc = .ok (i, len) := by
  unfold mB
  rw [mX_335]
  exact chk_at kc335 j h
def K336 : List (Nat × Instr × Nat) := [(0, .aload_n 0, 1), (1, .bipush 14, 2), (3, .iload_n 1, 1), (4, .iconst 0, 1), (5, .iconst 0, 1), (6, .iconst 0, 1), (7, .iconst 0, 1), (8, .iconst 0, 1), (9, .invokevirtual 594, 3), (12, .ireturn, 1)]
set_option maxRecDepth 100000 in
theorem kc336 : chk cX12_bust K336 = true := by decide +kernel
theorem d336 {j pc len : Nat} {i : Instr} (h : K336[j]? = some (pc, i, len)) : decode (mB 336) pc = .ok (i, len) := by
  unfold mB
  rw [mX_336]
  exact chk_at kc336 j h
def K337 : List (Nat × Instr × Nat) := [(0, .aload_n 0, 1), (1, .bipush 15, 2), (3, .iload_n 1, 1), (4, .iload_n 2, 1), (5, .iconst 0, 1), (6, .iconst 0, 1), (7, .iconst 0, 1), (8, .iconst 0, 1), (9, .invokevirtual 594, 3), (12, .ireturn, 1)]
set_option maxRecDepth 100000 in
theorem kc337 : chk cX12_adjust K337 = true := by decide +kernel
theorem d337 {j pc len : Nat} {i : Instr} (h : K337[j]? = some (pc, i, len)) : decode (mB 337) pc = .ok (i, len) := by
  unfold mB
  rw [mX_337]
  exact chk_at kc337 j h
def K338 : List (Nat × Instr × Nat) := [(0, .aload_n 0, 1), (1, .bipush 16, 2), (3, .iload_n 1, 1), (4, .iload_n 2, 1), (5, .ifCond .eq 7, 3), (8, .iconst 1, 1), (9, .goto 4, 3), (12, .iconst 0, 1), (13, .iload_n 3, 1), (14, .iconst 0, 1), (15, .iconst 0, 1), (16, .iconst 0, 1), (17, .invokevirtual 594, 3), (20, .ireturn, 1)]
set_option maxRecDepth 100000 in
theorem kc338 : chk cX12_giveUp K338 = true := by decide +kernel
theorem d338 {j pc len : Nat} {i : Instr} (h : K338[j]? = some (pc, i, len)) : decode (mB 338) pc = .ok (i, len) := by
  unfold mB
  rw [mX_338]
  exact chk_at kc338 j h
def K339 : List (Nat × Instr × Nat) := [(0, .aload_n 0, 1), (1, .bipush 17, 2), (3, .iload_n 1, 1), (4, .iload_n 2, 1), (5, .iload_n 3, 1), (6, .iload 4, 2), (8, .iconst 0, 1), (9, .iconst 0, 1), (10, .invokevirtual 594, 3), (13, .ireturn, 1)]
set_option maxRecDepth 100000 in
theorem kc339 : chk cX12_allot K339 = true := by decide +kernel
theorem d339 {j pc len : Nat} {i : Instr} (h : K339[j]? = some (pc, i, len)) : decode (mB 339) pc = .ok (i, len) := by
  unfold mB
  rw [mX_339]
  exact chk_at kc339 j h
def K340 : List (Nat × Instr × Nat) := [(0, .aload_n 0, 1), (1, .bipush 18, 2), (3, .iload_n 1, 1), (4, .iload_n 2, 1), (5, .iload_n 3, 1), (6, .iconst 0, 1), (7, .iconst 0, 1), (8, .iconst 0, 1), (9, .invokevirtual 594, 3), (12, .ireturn, 1)]
set_option maxRecDepth 100000 in
theorem kc340 : chk cX12_exercise K340 = true := by decide +kernel
theorem d340 {j pc len : Nat} {i : Instr} (h : K340[j]? = some (pc, i, len)) : decode (mB 340) pc = .ok (i, len) := by
  unfold mB
  rw [mX_340]
  exact chk_at kc340 j h
def K341 : List (Nat × Instr × Nat) := [(0, .aload_n 0, 1), (1, .bipush 19, 2), (3, .iload_n 1, 1), (4, .iload_n 2, 1), (5, .iload_n 3, 1), (6, .iconst 0, 1), (7, .iconst 0, 1), (8, .iconst 0, 1), (9, .invokevirtual 594, 3), (12, .ireturn, 1)]
set_option maxRecDepth 100000 in
theorem kc341 : chk cX12_convert K341 = true := by decide +kernel
theorem d341 {j pc len : Nat} {i : Instr} (h : K341[j]? = some (pc, i, len)) : decode (mB 341) pc = .ok (i, len) := by
  unfold mB
  rw [mX_341]
  exact chk_at kc341 j h
def K342 : List (Nat × Instr × Nat) := [(0, .aload_n 0, 1), (1, .bipush 20, 2), (3, .iload_n 1, 1), (4, .iload_n 2, 1), (5, .iload_n 3, 1), (6, .iconst 0, 1), (7, .iconst 0, 1), (8, .iconst 0, 1), (9, .invokevirtual 594, 3), (12, .ireturn, 1)]
set_option maxRecDepth 100000 in
theorem kc342 : chk cX12_setMove K342 = true := by decide +kernel
theorem d342 {j pc len : Nat} {i : Instr} (h : K342[j]? = some (pc, i, len)) : decode (mB 342) pc = .ok (i, len) := by
  unfold mB
  rw [mX_342]
  exact chk_at kc342 j h
def K343 : List (Nat × Instr × Nat) := [(0, .aload_n 0, 1), (1, .bipush 21, 2), (3, .iload_n 1, 1), (4, .iconst 0, 1), (5, .iconst 0, 1), (6, .iconst 0, 1), (7, .iconst 0, 1), (8, .iconst 0, 1), (9, .invokevirtual 594, 3), (12, .ireturn, 1)]
set_option maxRecDepth 100000 in
theorem kc343 : chk cX12_setHaircut K343 = true := by decide +kernel
theorem d343 {j pc len : Nat} {i : Instr} (h : K343[j]? = some (pc, i, len)) : decode (mB 343) pc = .ok (i, len) := by
  unfold mB
  rw [mX_343]
  exact chk_at kc343 j h
def K344 : List (Nat × Instr × Nat) := [(0, .aload_n 0, 1), (1, .bipush 22, 2), (3, .iload_n 1, 1), (4, .iload_n 2, 1), (5, .iload_n 3, 1), (6, .iconst 0, 1), (7, .iconst 0, 1), (8, .iconst 0, 1), (9, .invokevirtual 594, 3), (12, .ireturn, 1)]
set_option maxRecDepth 100000 in
theorem kc344 : chk cX12_pay K344 = true := by decide +kernel
theorem d344 {j pc len : Nat} {i : Instr} (h : K344[j]? = some (pc, i, len)) : decode (mB 344) pc = .ok (i, len) := by
  unfold mB
  rw [mX_344]
  exact chk_at kc344 j h
def K345 : List (Nat × Instr × Nat) := [(0, .aload_n 0, 1), (1, .bipush 23, 2), (3, .iload_n 1, 1), (4, .iload_n 2, 1), (5, .iconst 0, 1), (6, .iconst 0, 1), (7, .iconst 0, 1), (8, .iconst 0, 1), (9, .invokevirtual 594, 3), (12, .ireturn, 1)]
set_option maxRecDepth 100000 in
theorem kc345 : chk cX12_setFund K345 = true := by decide +kernel
theorem d345 {j pc len : Nat} {i : Instr} (h : K345[j]? = some (pc, i, len)) : decode (mB 345) pc = .ok (i, len) := by
  unfold mB
  rw [mX_345]
  exact chk_at kc345 j h
def K346 : List (Nat × Instr × Nat) := [(0, .aload_n 0, 1), (1, .bipush 24, 2), (3, .iload_n 1, 1), (4, .iconst 0, 1), (5, .iconst 0, 1), (6, .iconst 0, 1), (7, .iconst 0, 1), (8, .iconst 0, 1), (9, .invokevirtual 594, 3), (12, .ireturn, 1)]
set_option maxRecDepth 100000 in
theorem kc346 : chk cX12_fail K346 = true := by decide +kernel
theorem d346 {j pc len : Nat} {i : Instr} (h : K346[j]? = some (pc, i, len)) : decode (mB 346) pc = .ok (i, len) := by
  unfold mB
  rw [mX_346]
  exact chk_at kc346 j h
def K347 : List (Nat × Instr × Nat) := [(0, .aload_n 0, 1), (1, .bipush 25, 2), (3, .iload_n 1, 1), (4, .iload_n 2, 1), (5, .iconst 0, 1), (6, .iconst 0, 1), (7, .iconst 0, 1), (8, .iconst 0, 1), (9, .invokevirtual 594, 3), (12, .ireturn, 1)]
set_option maxRecDepth 100000 in
theorem kc347 : chk cX12_bid K347 = true := by decide +kernel
theorem d347 {j pc len : Nat} {i : Instr} (h : K347[j]? = some (pc, i, len)) : decode (mB 347) pc = .ok (i, len) := by
  unfold mB
  rw [mX_347]
  exact chk_at kc347 j h
def K348 : List (Nat × Instr × Nat) := [(0, .aload_n 0, 1), (1, .bipush 26, 2), (3, .iconst 0, 1), (4, .iconst 0, 1), (5, .iconst 0, 1), (6, .iconst 0, 1), (7, .iconst 0, 1), (8, .iconst 0, 1), (9, .invokevirtual 594, 3), (12, .ireturn, 1)]
set_option maxRecDepth 100000 in
theorem kc348 : chk cX12_closeOut K348 = true := by decide +kernel
theorem d348 {j pc len : Nat} {i : Instr} (h : K348[j]? = some (pc, i, len)) : decode (mB 348) pc = .ok (i, len) := by
  unfold mB
  rw [mX_348]
  exact chk_at kc348 j h
def K349 : List (Nat × Instr × Nat) := [(0, .aload_n 0, 1), (1, .iconst 0, 1), (2, .putfield 180, 3), (5, .aload_n 0, 1), (6, .aload_n 0, 1), (7, .getfield 591, 3), (10, .putfield 598, 3), (13, .aload_n 0, 1), (14, .getfield 598, 3), (17, .ireturn, 1)]
set_option maxRecDepth 100000 in
theorem kc349 : chk cX12_keep K349 = true := by decide +kernel
theorem d349 {j pc len : Nat} {i : Instr} (h : K349[j]? = some (pc, i, len)) : decode (mB 349) pc = .ok (i, len) := by
  unfold mB
  rw [mX_349]
  exact chk_at kc349 j h
def K350 : List (Nat × Instr × Nat) := [(0, .aload_n 0, 1), (1, .getfield 591, 3), (4, .aload_n 0, 1), (5, .getfield 598, 3), (8, .isub, 1), (9, .istore_n 1, 1), (10, .aload_n 0, 1), (11, .invokevirtual 177, 3), (14, .iconst 0, 1), (15, .istore_n 2, 1), (16, .iload_n 2, 1), (17, .aload_n 0, 1), (18, .getfield 598, 3), (21, .if_icmp .ge 79, 3), (24, .bipush 7, 2), (26, .iload_n 2, 1), (27, .imul, 1), (28, .istore_n 3, 1), (29, .aload_n 0, 1), (30, .aload_n 0, 1), (31, .getfield 162, 3), (34, .iload_n 3, 1), (35, .iaload, 1), (36, .aload_n 0, 1), (37, .getfield 162, 3), (40, .iload_n 3, 1), (41, .iconst 1, 1), (42, .iadd, 1), (43, .iaload, 1), (44, .aload_n 0, 1), (45, .getfield 162, 3), (48, .iload_n 3, 1), (49, .iconst 2, 1), (50, .iadd, 1), (51, .iaload, 1), (52, .aload_n 0, 1), (53, .getfield 162, 3), (56, .iload_n 3, 1), (57, .iconst 3, 1), (58, .iadd, 1), (59, .iaload, 1), (60, .aload_n 0, 1), (61, .getfield 162, 3), (64, .iload_n 3, 1), (65, .iconst 4, 1), (66, .iadd, 1), (67, .iaload, 1), (68, .aload_n 0, 1), (69, .getfield 162, 3), (72, .iload_n 3, 1), (73, .iconst 5, 1), (74, .iadd, 1), (75, .iaload, 1), (76, .aload_n 0, 1), (77, .getfield 162, 3), (80, .iload_n 3, 1), (81, .bipush 6, 2), (83, .iadd, 1), (84, .iaload, 1), (85, .invokevirtual 587, 3), (88, .lstore 4, 2), (90, .aload_n 0, 1), (91, .invokevirtual 390, 3), (94, .iinc 2 1, 3), (97, .goto (-81), 3), (100, .aload_n 0, 1), (101, .aload_n 0, 1), (102, .getfield 598, 3), (105, .putfield 591, 3), (108, .aload_n 0, 1), (109, .iconst 0, 1), (110, .putfield 180, 3), (113, .iload_n 1, 1), (114, .ireturn, 1)]
set_option maxRecDepth 100000 in
theorem kc350 : chk cX12_failOver K350 = true := by decide +kernel
theorem d350 {j pc len : Nat} {i : Instr} (h : K350[j]? = some (pc, i, len)) : decode (mB 350) pc = .ok (i, len) := by
  unfold mB
  rw [mX_350]
  exact chk_at kc350 j h
def K351 : List (Nat × Instr × Nat) := [(0, .aload_n 0, 1), (1, .iconst 0, 1), (2, .putfield 180, 3), (5, .aload_n 0, 1), (6, .getfield 591, 3), (9, .ireturn, 1)]
set_option maxRecDepth 100000 in
theorem kc351 : chk cX12_events K351 = true := by decide +kernel
theorem d351 {j pc len : Nat} {i : Instr} (h : K351[j]? = some (pc, i, len)) : decode (mB 351) pc = .ok (i, len) := by
  unfold mB
  rw [mX_351]
  exact chk_at kc351 j h
def K352 : List (Nat × Instr × Nat) := [(0, .aload_n 0, 1), (1, .iload_n 1, 1), (2, .iload_n 2, 1), (3, .invokevirtual 601, 3), (6, .ireturn, 1)]
set_option maxRecDepth 100000 in
theorem kc352 : chk cX12_positionByLog K352 = true := by decide +kernel
theorem d352 {j pc len : Nat} {i : Instr} (h : K352[j]? = some (pc, i, len)) : decode (mB 352) pc = .ok (i, len) := by
  unfold mB
  rw [mX_352]
  exact chk_at kc352 j h
def K353 : List (Nat × Instr × Nat) := [(0, .aload_n 0, 1), (1, .iload_n 1, 1), (2, .iload_n 2, 1), (3, .invokevirtual 604, 3), (6, .ireturn, 1)]
set_option maxRecDepth 100000 in
theorem kc353 : chk cX12_bestByLog K353 = true := by decide +kernel
theorem d353 {j pc len : Nat} {i : Instr} (h : K353[j]? = some (pc, i, len)) : decode (mB 353) pc = .ok (i, len) := by
  unfold mB
  rw [mX_353]
  exact chk_at kc353 j h
def K354 : List (Nat × Instr × Nat) := [(0, .aload_n 0, 1), (1, .iload_n 1, 1), (2, .iconst 0, 1), (3, .iconst 5, 1), (4, .invokestatic 209, 3), (7, .ifCond .eq 7, 3), (10, .iconst 0, 1), (11, .goto 4, 3), (14, .iconst 1, 1), (15, .putfield 180, 3), (18, .aload_n 0, 1), (19, .getfield 180, 3), (22, .ifCond .ne 7, 3), (25, .iconst 1, 1), (26, .goto 4, 3), (29, .iconst 0, 1), (30, .ireturn, 1)]
set_option maxRecDepth 100000 in
theorem kc354 : chk cX12_isBook K354 = true := by decide +kernel
theorem d354 {j pc len : Nat} {i : Instr} (h : K354[j]? = some (pc, i, len)) : decode (mB 354) pc = .ok (i, len) := by
  unfold mB
  rw [mX_354]
  exact chk_at kc354 j h
def K355 : List (Nat × Instr × Nat) := [(0, .aload_n 0, 1), (1, .iload_n 1, 1), (2, .invokevirtual 607, 3), (5, .ifCond .eq 13, 3), (8, .aload_n 0, 1), (9, .iload_n 1, 1), (10, .iload_n 2, 1), (11, .iconst 1, 1), (12, .invokevirtual 301, 3), (15, .goto 4, 3), (18, .iconst 0, 1), (19, .ireturn, 1)]
set_option maxRecDepth 100000 in
theorem kc355 : chk cX12_best K355 = true := by decide +kernel
theorem d355 {j pc len : Nat} {i : Instr} (h : K355[j]? = some (pc, i, len)) : decode (mB 355) pc = .ok (i, len) := by
  unfold mB
  rw [mX_355]
  exact chk_at kc355 j h
def K356 : List (Nat × Instr × Nat) := [(0, .iconst 0, 1), (1, .istore 4, 2), (3, .iconst 0, 1), (4, .istore 5, 2), (6, .iload 5, 2), (8, .bipush 44, 2), (10, .if_icmp .ge 44, 3), (13, .aload_n 0, 1), (14, .iload_n 1, 1), (15, .invokevirtual 607, 3), (18, .ifCond .eq 36, 3), (21, .iload 4, 2), (23, .aload_n 0, 1), (24, .iload 5, 2), (26, .iload_n 1, 1), (27, .iload_n 2, 1), (28, .iload_n 3, 1), (29, .invokevirtual 251, 3), (32, .ifCond .eq 12, 3), (35, .aload_n 0, 1), (36, .iload 5, 2), (38, .invokevirtual 258, 3), (41, .goto 4, 3), (44, .iconst 0, 1), (45, .iadd, 1), (46, .istore 4, 2), (48, .iinc 5 1, 3), (51, .goto (-45), 3), (54, .iload 4, 2), (56, .ireturn, 1)]
set_option maxRecDepth 100000 in
theorem kc356 : chk cX12_shown K356 = true := by decide +kernel
theorem d356 {j pc len : Nat} {i : Instr} (h : K356[j]? = some (pc, i, len)) : decode (mB 356) pc = .ok (i, len) := by
  unfold mB
  rw [mX_356]
  exact chk_at kc356 j h
def K357 : List (Nat × Instr × Nat) := [(0, .aload_n 0, 1), (1, .iconst 0, 1), (2, .putfield 180, 3), (5, .aload_n 0, 1), (6, .iload_n 1, 1), (7, .invokevirtual 449, 3), (10, .istore_n 2, 1), (11, .iload_n 2, 1), (12, .ifCond .ge 7, 3), (15, .iconst 0, 1), (16, .goto 9, 3), (19, .aload_n 0, 1), (20, .getfield 99, 3), (23, .iload_n 2, 1), (24, .iaload, 1), (25, .ireturn, 1)]
set_option maxRecDepth 100000 in
theorem kc357 : chk cX12_stateOf K357 = true := by decide +kernel
theorem d357 {j pc len : Nat} {i : Instr} (h : K357[j]? = some (pc, i, len)) : decode (mB 357) pc = .ok (i, len) := by
  unfold mB
  rw [mX_357]
  exact chk_at kc357 j h
def K358 : List (Nat × Instr × Nat) := [(0, .aload_n 0, 1), (1, .iload_n 1, 1), (2, .invokevirtual 449, 3), (5, .istore_n 2, 1), (6, .aload_n 0, 1), (7, .iload_n 2, 1), (8, .ifCond .ge 7, 3), (11, .iconst 1, 1), (12, .goto 4, 3), (15, .iconst 0, 1), (16, .putfield 180, 3), (19, .iload_n 2, 1), (20, .ifCond .ge 7, 3), (23, .iconst 0, 1), (24, .goto 9, 3), (27, .aload_n 0, 1), (28, .getfield 75, 3), (31, .iload_n 2, 1), (32, .iaload, 1), (33, .ireturn, 1)]
set_option maxRecDepth 100000 in
theorem kc358 : chk cX12_rest K358 = true := by decide +kernel
theorem d358 {j pc len : Nat} {i : Instr} (h : K358[j]? = some (pc, i, len)) : decode (mB 358) pc = .ok (i, len) := by
  unfold mB
  rw [mX_358]
  exact chk_at kc358 j h
def K359 : List (Nat × Instr × Nat) := [(0, .aload_n 0, 1), (1, .iload_n 1, 1), (2, .invokevirtual 449, 3), (5, .istore_n 2, 1), (6, .aload_n 0, 1), (7, .iload_n 2, 1), (8, .ifCond .ge 7, 3), (11, .iconst 1, 1), (12, .goto 4, 3), (15, .iconst 0, 1), (16, .putfield 180, 3), (19, .iload_n 2, 1), (20, .ifCond .ge 7, 3), (23, .iconst 0, 1), (24, .goto 33, 3), (27, .aload_n 0, 1), (28, .getfield 99, 3), (31, .iload_n 2, 1), (32, .iaload, 1), (33, .iconst 1, 1), (34, .if_icmp .ne 21, 3), (37, .aload_n 0, 1), (38, .getfield 78, 3), (41, .iload_n 2, 1), (42, .baload, 1), (43, .ifCond .ne 12, 3), (46, .aload_n 0, 1), (47, .getfield 102, 3), (50, .iload_n 2, 1), (51, .iaload, 1), (52, .goto 5, 3), (55, .ldc 184, 2), (57, .ireturn, 1)]
set_option maxRecDepth 100000 in
theorem kc359 : chk cX12_priceOf K359 = true := by decide +kernel
theorem d359 {j pc len : Nat} {i : Instr} (h : K359[j]? = some (pc, i, len)) : decode (mB 359) pc = .ok (i, len) := by
  unfold mB
  rw [mX_359]
  exact chk_at kc359 j h
def K360 : List (Nat × Instr × Nat) := [(0, .aload_n 0, 1), (1, .iload_n 1, 1), (2, .invokevirtual 607, 3), (5, .ifCond .ne 7, 3), (8, .iconst 0, 1), (9, .goto 22, 3), (12, .iload_n 2, 1), (13, .ifCond .eq 12, 3), (16, .aload_n 0, 1), (17, .getfield 48, 3), (20, .iload_n 1, 1), (21, .iaload, 1), (22, .goto 9, 3), (25, .aload_n 0, 1), (26, .getfield 45, 3), (29, .iload_n 1, 1), (30, .iaload, 1), (31, .ireturn, 1)]
set_option maxRecDepth 100000 in
theorem kc360 : chk cX12_last K360 = true := by decide +kernel
theorem d360 {j pc len : Nat} {i : Instr} (h : K360[j]? = some (pc, i, len)) : decode (mB 360) pc = .ok (i, len) := by
  unfold mB
  rw [mX_360]
  exact chk_at kc360 j h
def K361 : List (Nat × Instr × Nat) := [(0, .aload_n 0, 1), (1, .iload_n 1, 1), (2, .invokevirtual 607, 3), (5, .ifCond .eq 12, 3), (8, .aload_n 0, 1), (9, .getfield 51, 3), (12, .iload_n 1, 1), (13, .iaload, 1), (14, .goto 4, 3), (17, .iconst 0, 1), (18, .ireturn, 1)]
set_option maxRecDepth 100000 in
theorem kc361 : chk cX12_endOf K361 = true := by decide +kernel
theorem d361 {j pc len : Nat} {i : Instr} (h : K361[j]? = some (pc, i, len)) : decode (mB 361) pc = .ok (i, len) := by
  unfold mB
  rw [mX_361]
  exact chk_at kc361 j h
def K362 : List (Nat × Instr × Nat) := [(0, .aload_n 0, 1), (1, .iload_n 1, 1), (2, .invokevirtual 607, 3), (5, .ifCond .ne 5, 3), (8, .iconst 0, 1), (9, .ireturn, 1), (10, .aload_n 0, 1), (11, .ldc 184, 2), (13, .putfield 372, 3), (16, .aload_n 0, 1), (17, .iconst 0, 1), (18, .putfield 375, 3), (21, .aload_n 0, 1), (22, .iload_n 1, 1), (23, .invokevirtual 328, 3), (26, .ifCond .ne 8, 3), (29, .aload_n 0, 1), (30, .iload_n 1, 1), (31, .invokevirtual 384, 3), (34, .iload_n 2, 1), (35, .ifCond .eq 10, 3), (38, .aload_n 0, 1), (39, .getfield 375, 3), (42, .goto 7, 3), (45, .aload_n 0, 1), (46, .getfield 372, 3), (49, .ireturn, 1)]
set_option maxRecDepth 100000 in
theorem kc362 : chk cX12_indicated K362 = true := by decide +kernel
theorem d362 {j pc len : Nat} {i : Instr} (h : K362[j]? = some (pc, i, len)) : decode (mB 362) pc = .ok (i, len) := by
  unfold mB
  rw [mX_362]
  exact chk_at kc362 j h
def K363 : List (Nat × Instr × Nat) := [(0, .aload_n 0, 1), (1, .iconst 0, 1), (2, .putfield 180, 3), (5, .aload_n 0, 1), (6, .getfield 206, 3), (9, .ireturn, 1)]
set_option maxRecDepth 100000 in
theorem kc363 : chk cX12_trades K363 = true := by decide +kernel
theorem d363 {j pc len : Nat} {i : Instr} (h : K363[j]? = some (pc, i, len)) : decode (mB 363) pc = .ok (i, len) := by
  unfold mB
  rw [mX_363]
  exact chk_at kc363 j h
def K364 : List (Nat × Instr × Nat) := [(0, .aload_n 0, 1), (1, .aload_n 0, 1), (2, .iload_n 1, 1), (3, .invokevirtual 240, 3), (6, .ifCond .ne 7, 3), (9, .iconst 1, 1), (10, .goto 17, 3), (13, .iload_n 2, 1), (14, .iconst 0, 1), (15, .iconst 5, 1), (16, .invokestatic 209, 3), (19, .ifCond .eq 7, 3), (22, .iconst 0, 1), (23, .goto 4, 3), (26, .iconst 2, 1), (27, .putfield 180, 3), (30, .aload_n 0, 1), (31, .getfield 180, 3), (34, .ifCond .eq 5, 3), (37, .iconst 0, 1), (38, .ireturn, 1), (39, .iload_n 1, 1), (40, .bipush 60, 2), (42, .irem, 1), (43, .istore_n 3, 1), (44, .iload_n 2, 1), (45, .ifCond .ne 12, 3), (48, .aload_n 0, 1), (49, .getfield 120, 3), (52, .iload_n 3, 1), (53, .iaload, 1), (54, .goto 73, 3), (57, .iload_n 2, 1), (58, .iconst 1, 1), (59, .if_icmp .ne 12, 3), (62, .aload_n 0, 1), (63, .getfield 123, 3), (66, .iload_n 3, 1), (67, .iaload, 1), (68, .goto 59, 3), (71, .iload_n 2, 1), (72, .iconst 2, 1), (73, .if_icmp .ne 12, 3), (76, .aload_n 0, 1), (77, .getfield 126, 3), (80, .iload_n 3, 1), (81, .iaload, 1), (82, .goto 45, 3), (85, .iload_n 2, 1), (86, .iconst 3, 1), (87, .if_icmp .ne 12, 3), (90, .aload_n 0, 1), (91, .getfield 129, 3), (94, .iload_n 3, 1), (95, .iaload, 1), (96, .goto 31, 3), (99, .iload_n 2, 1), (100, .iconst 4, 1), (101, .if_icmp .ne 12, 3), (104, .aload_n 0, 1), (105, .getfield 132, 3), (108, .iload_n 3, 1), (109, .iaload, 1), (110, .goto 17, 3), (113, .aload_n 0, 1), (114, .getfield 135, 3), (117, .iload_n 3, 1), (118, .baload, 1), (119, .ifCond .eq 7, 3), (122, .iconst 1, 1), (123, .goto 4, 3), (126, .iconst 0, 1), (127, .ireturn, 1)]
set_option maxRecDepth 100000 in
theorem kc364 : chk cX12_trade K364 = true := by decide +kernel
theorem d364 {j pc len : Nat} {i : Instr} (h : K364[j]? = some (pc, i, len)) : decode (mB 364) pc = .ok (i, len) := by
  unfold mB
  rw [mX_364]
  exact chk_at kc364 j h
def K365 : List (Nat × Instr × Nat) := [(0, .aload_n 0, 1), (1, .iload_n 1, 1), (2, .iconst 0, 1), (3, .bipush 8, 2), (5, .invokestatic 209, 3), (8, .ifCond .eq 16, 3), (11, .iload_n 2, 1), (12, .iconst 0, 1), (13, .iconst 3, 1), (14, .invokestatic 209, 3), (17, .ifCond .eq 7, 3), (20, .iconst 0, 1), (21, .goto 4, 3), (24, .iconst 1, 1), (25, .putfield 180, 3), (28, .aload_n 0, 1), (29, .getfield 180, 3), (32, .ifCond .ne 16, 3), (35, .aload_n 0, 1), (36, .getfield 7, 3), (39, .iconst 4, 1), (40, .iload_n 1, 1), (41, .imul, 1), (42, .iload_n 2, 1), (43, .iadd, 1), (44, .iaload, 1), (45, .goto 4, 3), (48, .iconst 0, 1), (49, .ireturn, 1)]
set_option maxRecDepth 100000 in
theorem kc365 : chk cX12_position K365 = true := by decide +kernel
theorem d365 {j pc len : Nat} {i : Instr} (h : K365[j]? = some (pc, i, len)) : decode (mB 365) pc = .ok (i, len) := by
  unfold mB
  rw [mX_365]
  exact chk_at kc365 j h
def K366 : List (Nat × Instr × Nat) := [(0, .aload_n 0, 1), (1, .iload_n 1, 1), (2, .iconst 0, 1), (3, .bipush 8, 2), (5, .invokestatic 209, 3), (8, .ifCond .eq 7, 3), (11, .iconst 0, 1), (12, .goto 4, 3), (15, .iconst 1, 1), (16, .putfield 180, 3), (19, .aload_n 0, 1), (20, .getfield 180, 3), (23, .ifCond .ne 12, 3), (26, .aload_n 0, 1), (27, .getfield 13, 3), (30, .iload_n 1, 1), (31, .laload, 1), (32, .goto 4, 3), (35, .lconst 0, 1), (36, .lreturn, 1)]
set_option maxRecDepth 100000 in
theorem kc366 : chk cX12_cash K366 = true := by decide +kernel
theorem d366 {j pc len : Nat} {i : Instr} (h : K366[j]? = some (pc, i, len)) : decode (mB 366) pc = .ok (i, len) := by
  unfold mB
  rw [mX_366]
  exact chk_at kc366 j h
def K367 : List (Nat × Instr × Nat) := [(0, .aload_n 0, 1), (1, .iload_n 1, 1), (2, .invokestatic 429, 3), (5, .ifCond .eq 7, 3), (8, .iconst 0, 1), (9, .goto 4, 3), (12, .iconst 1, 1), (13, .putfield 180, 3), (16, .aload_n 0, 1), (17, .getfield 180, 3), (20, .ifCond .ne 12, 3), (23, .aload_n 0, 1), (24, .getfield 30, 3), (27, .iload_n 1, 1), (28, .iaload, 1), (29, .goto 4, 3), (32, .iconst 0, 1), (33, .ireturn, 1)]
set_option maxRecDepth 100000 in
theorem kc367 : chk cX12_quoted K367 = true := by decide +kernel
theorem d367 {j pc len : Nat} {i : Instr} (h : K367[j]? = some (pc, i, len)) : decode (mB 367) pc = .ok (i, len) := by
  unfold mB
  rw [mX_367]
  exact chk_at kc367 j h
def K368 : List (Nat × Instr × Nat) := [(0, .aload_n 0, 1), (1, .iload_n 1, 1), (2, .iconst 0, 1), (3, .iconst 3, 1), (4, .invokestatic 209, 3), (7, .ifCond .ne 7, 3), (10, .iconst 1, 1), (11, .goto 18, 3), (14, .iload_n 2, 1), (15, .iconst 0, 1), (16, .bipush 6, 2), (18, .invokestatic 209, 3), (21, .ifCond .eq 7, 3), (24, .iconst 0, 1), (25, .goto 4, 3), (28, .iconst 2, 1), (29, .putfield 180, 3), (32, .aload_n 0, 1), (33, .getfield 180, 3), (36, .ifCond .eq 5, 3), (39, .lconst 0, 1), (40, .lreturn, 1), (41, .iload_n 2, 1), (42, .ifCond .ne 11, 3), (45, .aload_n 0, 1), (46, .iload_n 1, 1), (47, .invokevirtual 411, 3), (50, .goto 88, 3), (53, .iload_n 2, 1), (54, .iconst 1, 1), (55, .if_icmp .ne 11, 3), (58, .aload_n 0, 1), (59, .iload_n 1, 1), (60, .invokevirtual 414, 3), (63, .goto 75, 3), (66, .iload_n 2, 1), (67, .iconst 2, 1), (68, .if_icmp .ne 11, 3), (71, .aload_n 0, 1), (72, .iload_n 1, 1), (73, .invokevirtual 479, 3), (76, .goto 62, 3), (79, .iload_n 2, 1), (80, .iconst 3, 1), (81, .if_icmp .ne 13, 3), (84, .aload_n 0, 1), (85, .getfield 144, 3), (88, .iload_n 1, 1), (89, .iaload, 1), (90, .i2l, 1), (91, .goto 47, 3), (94, .iload_n 2, 1), (95, .iconst 4, 1), (96, .if_icmp .ne 13, 3), (99, .aload_n 0, 1), (100, .getfield 147, 3), (103, .iload_n 1, 1), (104, .iaload, 1), (105, .i2l, 1), (106, .goto 32, 3), (109, .iload_n 2, 1), (110, .iconst 5, 1), (111, .if_icmp .ne 13, 3), (114, .aload_n 0, 1), (115, .getfield 150, 3), (118, .iload_n 1, 1), (119, .iaload, 1), (120, .i2l, 1), (121, .goto 17, 3), (124, .aload_n 0, 1), (125, .getfield 153, 3), (128, .iload_n 1, 1), (129, .baload, 1), (130, .ifCond .eq 7, 3), (133, .lconst 1, 1), (134, .goto 4, 3), (137, .lconst 0, 1), (138, .lreturn, 1)]
set_option maxRecDepth 100000 in
theorem kc368 : chk cX12_member K368 = true := by decide +kernel
theorem d368 {j pc len : Nat} {i : Instr} (h : K368[j]? = some (pc, i, len)) : decode (mB 368) pc = .ok (i, len) := by
  unfold mB
  rw [mX_368]
  exact chk_at kc368 j h
def K369 : List (Nat × Instr × Nat) := [(0, .aload_n 0, 1), (1, .iconst 0, 1), (2, .putfield 180, 3), (5, .aload_n 0, 1), (6, .getfield 191, 3), (9, .ireturn, 1)]
set_option maxRecDepth 100000 in
theorem kc369 : chk cX12_stake K369 = true := by decide +kernel
theorem d369 {j pc len : Nat} {i : Instr} (h : K369[j]? = some (pc, i, len)) : decode (mB 369) pc = .ok (i, len) := by
  unfold mB
  rw [mX_369]
  exact chk_at kc369 j h
def K370 : List (Nat × Instr × Nat) := [(0, .lload_n 0, 1), (1, .iload_n 2, 1), (2, .i2l, 1), (3, .invokestatic 143, 3), (6, .lreturn, 1)]
set_option maxRecDepth 100000 in
theorem kc370 : chk cJ9_floorDiv_b2ac5 K370 = true := by decide +kernel
theorem d370 {j pc len : Nat} {i : Instr} (h : K370[j]? = some (pc, i, len)) : decode (mB 370) pc = .ok (i, len) := by
  unfold mB
  rw [mX_370]
  exact chk_at kc370 j h
def K371 : List (Nat × Instr × Nat) := [(0, .lload_n 0, 1), (1, .lload_n 2, 1), (2, .ldiv, 1), (3, .lstore 4, 2), (5, .lload_n 0, 1), (6, .lload_n 2, 1), (7, .lxor, 1), (8, .lconst 0, 1), (9, .lcmp, 1), (10, .ifCond .ge 17, 3), (13, .lload 4, 2), (15, .lload_n 2, 1), (16, .lmul, 1), (17, .lload_n 0, 1), (18, .lcmp, 1), (19, .ifCond .eq 8, 3), (22, .lload 4, 2), (24, .lconst 1, 1), (25, .lsub, 1), (26, .lreturn, 1), (27, .lload 4, 2), (29, .lreturn, 1)]
set_option maxRecDepth 100000 in
theorem kc371 : chk cJ9_floorDiv_f86c9 K371 = true := by decide +kernel
theorem d371 {j pc len : Nat} {i : Instr} (h : K371[j]? = some (pc, i, len)) : decode (mB 371) pc = .ok (i, len) := by
  unfold mB
  rw [mX_371]
  exact chk_at kc371 j h
def K372 : List (Nat × Instr × Nat) := [(0, .iload_n 0, 1), (1, .iload_n 1, 1), (2, .irem, 1), (3, .istore_n 2, 1), (4, .iload_n 0, 1), (5, .iload_n 1, 1), (6, .ixor, 1), (7, .ifCond .ge 11, 3), (10, .iload_n 2, 1), (11, .ifCond .eq 7, 3), (14, .iload_n 2, 1), (15, .iload_n 1, 1), (16, .iadd, 1), (17, .ireturn, 1), (18, .iload_n 2, 1), (19, .ireturn, 1)]
set_option maxRecDepth 100000 in
theorem kc372 : chk cJ9_floorMod_7cf53 K372 = true := by decide +kernel
theorem d372 {j pc len : Nat} {i : Instr} (h : K372[j]? = some (pc, i, len)) : decode (mB 372) pc = .ok (i, len) := by
  unfold mB
  rw [mX_372]
  exact chk_at kc372 j h
def K373 : List (Nat × Instr × Nat) := [(0, .iload_n 0, 1), (1, .ifCond .ge 8, 3), (4, .iload_n 0, 1), (5, .ineg, 1), (6, .goto 4, 3), (9, .iload_n 0, 1), (10, .ireturn, 1)]
set_option maxRecDepth 100000 in
theorem kc373 : chk cJ9_abs_0f7a4 K373 = true := by decide +kernel
theorem d373 {j pc len : Nat} {i : Instr} (h : K373[j]? = some (pc, i, len)) : decode (mB 373) pc = .ok (i, len) := by
  unfold mB
  rw [mX_373]
  exact chk_at kc373 j h
def K374 : List (Nat × Instr × Nat) := [(0, .lload_n 0, 1), (1, .lconst 0, 1), (2, .lcmp, 1), (3, .ifCond .ge 8, 3), (6, .lload_n 0, 1), (7, .lneg, 1), (8, .goto 4, 3), (11, .lload_n 0, 1), (12, .lreturn, 1)]
set_option maxRecDepth 100000 in
theorem kc374 : chk cJ9_abs_067f4 K374 = true := by decide +kernel
theorem d374 {j pc len : Nat} {i : Instr} (h : K374[j]? = some (pc, i, len)) : decode (mB 374) pc = .ok (i, len) := by
  unfold mB
  rw [mX_374]
  exact chk_at kc374 j h
def K375 : List (Nat × Instr × Nat) := [(0, .iload_n 0, 1), (1, .iload_n 1, 1), (2, .if_icmp .lt 7, 3), (5, .iload_n 0, 1), (6, .goto 4, 3), (9, .iload_n 1, 1), (10, .ireturn, 1)]
set_option maxRecDepth 100000 in
theorem kc375 : chk cJ9_max_7cf53 K375 = true := by decide +kernel
theorem d375 {j pc len : Nat} {i : Instr} (h : K375[j]? = some (pc, i, len)) : decode (mB 375) pc = .ok (i, len) := by
  unfold mB
  rw [mX_375]
  exact chk_at kc375 j h
def K376 : List (Nat × Instr × Nat) := [(0, .lload_n 0, 1), (1, .lload_n 2, 1), (2, .lcmp, 1), (3, .ifCond .lt 7, 3), (6, .lload_n 0, 1), (7, .goto 4, 3), (10, .lload_n 2, 1), (11, .lreturn, 1)]
set_option maxRecDepth 100000 in
theorem kc376 : chk cJ9_max_f86c9 K376 = true := by decide +kernel
theorem d376 {j pc len : Nat} {i : Instr} (h : K376[j]? = some (pc, i, len)) : decode (mB 376) pc = .ok (i, len) := by
  unfold mB
  rw [mX_376]
  exact chk_at kc376 j h
def K377 : List (Nat × Instr × Nat) := [(0, .iload_n 0, 1), (1, .iload_n 1, 1), (2, .if_icmp .gt 7, 3), (5, .iload_n 0, 1), (6, .goto 4, 3), (9, .iload_n 1, 1), (10, .ireturn, 1)]
set_option maxRecDepth 100000 in
theorem kc377 : chk cJ9_min_7cf53 K377 = true := by decide +kernel
theorem d377 {j pc len : Nat} {i : Instr} (h : K377[j]? = some (pc, i, len)) : decode (mB 377) pc = .ok (i, len) := by
  unfold mB
  rw [mX_377]
  exact chk_at kc377 j h
def K378 : List (Nat × Instr × Nat) := [(0, .lload_n 0, 1), (1, .lload_n 2, 1), (2, .lcmp, 1), (3, .ifCond .gt 7, 3), (6, .lload_n 0, 1), (7, .goto 4, 3), (10, .lload_n 2, 1), (11, .lreturn, 1)]
set_option maxRecDepth 100000 in
theorem kc378 : chk cJ9_min_f86c9 K378 = true := by decide +kernel
theorem d378 {j pc len : Nat} {i : Instr} (h : K378[j]? = some (pc, i, len)) : decode (mB 378) pc = .ok (i, len) := by
  unfold mB
  rw [mX_378]
  exact chk_at kc378 j h
def K379 : List (Nat × Instr × Nat) := [(0, .aload 7, 2), (2, .iconst 0, 1), (3, .aload_n 0, 1), (4, .iload_n 1, 1), (5, .iload_n 2, 1), (6, .iload_n 3, 1), (7, .iload 4, 2), (9, .iload 5, 2), (11, .iload 6, 2), (13, .invokevirtual 7, 3), (16, .i2l, 1), (17, .lastore, 1), (18, .goto 15, 3), (21, .astore 8, 2), (23, .iconst 1, 1), (24, .ireturn, 1), (25, .astore 8, 2), (27, .iconst 2, 1), (28, .ireturn, 1), (29, .astore 8, 2), (31, .iconst 3, 1), (32, .ireturn, 1), (33, .iconst 0, 1), (34, .ireturn, 1)]
set_option maxRecDepth 100000 in
theorem kc379 : chk cL_limit K379 = true := by decide +kernel
theorem d379 {j pc len : Nat} {i : Instr} (h : K379[j]? = some (pc, i, len)) : decode (mB 379) pc = .ok (i, len) := by
  unfold mB
  rw [mX_379]
  exact chk_at kc379 j h
def K380 : List (Nat × Instr × Nat) := [(0, .aload 4, 2), (2, .iconst 0, 1), (3, .aload_n 0, 1), (4, .iload_n 1, 1), (5, .iload_n 2, 1), (6, .iload_n 3, 1), (7, .invokevirtual 19, 3), (10, .i2l, 1), (11, .lastore, 1), (12, .goto 15, 3), (15, .astore 5, 2), (17, .iconst 1, 1), (18, .ireturn, 1), (19, .astore 5, 2), (21, .iconst 2, 1), (22, .ireturn, 1), (23, .astore 5, 2), (25, .iconst 3, 1), (26, .ireturn, 1), (27, .iconst 0, 1), (28, .ireturn, 1)]
set_option maxRecDepth 100000 in
theorem kc380 : chk cL_market K380 = true := by decide +kernel
theorem d380 {j pc len : Nat} {i : Instr} (h : K380[j]? = some (pc, i, len)) : decode (mB 380) pc = .ok (i, len) := by
  unfold mB
  rw [mX_380]
  exact chk_at kc380 j h
def K381 : List (Nat × Instr × Nat) := [(0, .aload 6, 2), (2, .iconst 0, 1), (3, .aload_n 0, 1), (4, .iload_n 1, 1), (5, .iload_n 2, 1), (6, .iload_n 3, 1), (7, .iload 4, 2), (9, .iload 5, 2), (11, .invokevirtual 23, 3), (14, .i2l, 1), (15, .lastore, 1), (16, .goto 15, 3), (19, .astore 7, 2), (21, .iconst 1, 1), (22, .ireturn, 1), (23, .astore 7, 2), (25, .iconst 2, 1), (26, .ireturn, 1), (27, .astore 7, 2), (29, .iconst 3, 1), (30, .ireturn, 1), (31, .iconst 0, 1), (32, .ireturn, 1)]
set_option maxRecDepth 100000 in
theorem kc381 : chk cL_iceberg K381 = true := by decide +kernel
theorem d381 {j pc len : Nat} {i : Instr} (h : K381[j]? = some (pc, i, len)) : decode (mB 381) pc = .ok (i, len) := by
  unfold mB
  rw [mX_381]
  exact chk_at kc381 j h
def K382 : List (Nat × Instr × Nat) := [(0, .aload 6, 2), (2, .iconst 0, 1), (3, .aload_n 0, 1), (4, .iload_n 1, 1), (5, .iload_n 2, 1), (6, .iload_n 3, 1), (7, .iload 4, 2), (9, .iload 5, 2), (11, .invokevirtual 27, 3), (14, .i2l, 1), (15, .lastore, 1), (16, .goto 15, 3), (19, .astore 7, 2), (21, .iconst 1, 1), (22, .ireturn, 1), (23, .astore 7, 2), (25, .iconst 2, 1), (26, .ireturn, 1), (27, .astore 7, 2), (29, .iconst 3, 1), (30, .ireturn, 1), (31, .iconst 0, 1), (32, .ireturn, 1)]
set_option maxRecDepth 100000 in
theorem kc382 : chk cL_peg K382 = true := by decide +kernel
theorem d382 {j pc len : Nat} {i : Instr} (h : K382[j]? = some (pc, i, len)) : decode (mB 382) pc = .ok (i, len) := by
  unfold mB
  rw [mX_382]
  exact chk_at kc382 j h
def K383 : List (Nat × Instr × Nat) := [(0, .aload 6, 2), (2, .iconst 0, 1), (3, .aload_n 0, 1), (4, .iload_n 1, 1), (5, .iload_n 2, 1), (6, .iload_n 3, 1), (7, .iload 4, 2), (9, .iload 5, 2), (11, .invokevirtual 30, 3), (14, .i2l, 1), (15, .lastore, 1), (16, .goto 15, 3), (19, .astore 7, 2), (21, .iconst 1, 1), (22, .ireturn, 1), (23, .astore 7, 2), (25, .iconst 2, 1), (26, .ireturn, 1), (27, .astore 7, 2), (29, .iconst 3, 1), (30, .ireturn, 1), (31, .iconst 0, 1), (32, .ireturn, 1)]
set_option maxRecDepth 100000 in
theorem kc383 : chk cL_stop K383 = true := by decide +kernel
theorem d383 {j pc len : Nat} {i : Instr} (h : K383[j]? = some (pc, i, len)) : decode (mB 383) pc = .ok (i, len) := by
  unfold mB
  rw [mX_383]
  exact chk_at kc383 j h
def K384 : List (Nat × Instr × Nat) := [(0, .aload 6, 2), (2, .iconst 0, 1), (3, .aload_n 0, 1), (4, .iload_n 1, 1), (5, .iload_n 2, 1), (6, .iload_n 3, 1), (7, .iload 4, 2), (9, .iload 5, 2), (11, .invokevirtual 33, 3), (14, .i2l, 1), (15, .lastore, 1), (16, .goto 15, 3), (19, .astore 7, 2), (21, .iconst 1, 1), (22, .ireturn, 1), (23, .astore 7, 2), (25, .iconst 2, 1), (26, .ireturn, 1), (27, .astore 7, 2), (29, .iconst 3, 1), (30, .ireturn, 1), (31, .iconst 0, 1), (32, .ireturn, 1)]
set_option maxRecDepth 100000 in
theorem kc384 : chk cL_quote K384 = true := by decide +kernel
theorem d384 {j pc len : Nat} {i : Instr} (h : K384[j]? = some (pc, i, len)) : decode (mB 384) pc = .ok (i, len) := by
  unfold mB
  rw [mX_384]
  exact chk_at kc384 j h
