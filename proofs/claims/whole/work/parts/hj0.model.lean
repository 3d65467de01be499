/-! the reference is made -/
def md0 : PM := pN Zp 12 1
def Y212_0 : List YR := [(0, .aload_n 0, 1, 0, 0, 0, 0, 0), (1, .invokespecial 1, 3, 0, 0, 0, 0, 4), (4, .aload_n 0, 1, 0, 0, 0, 0, 0), (5, .bipush 36, 2, 0, 0, 0, 0, 36), (7, .newarray .int, 2, 0, 0, 0, 0, 0), (9, .putfield 7, 3, 12, 1, 16, 0, 0), (12, .aload_n 0, 1, 0, 0, 0, 0, 0), (13, .bipush 9, 2, 0, 0, 0, 0, 9), (15, .newarray .long, 2, 0, 0, 0, 0, 0), (17, .putfield 13, 3, 12, 2, 17, 0, 0), (20, .aload_n 0, 1, 0, 0, 0, 0, 0), (21, .bipush 32, 2, 0, 0, 0, 0, 32), (23, .newarray .int, 2, 0, 0, 0, 0, 0), (25, .putfield 17, 3, 12, 3, 16, 0, 0), (28, .aload_n 0, 1, 0, 0, 0, 0, 0), (29, .bipush 8, 2, 0, 0, 0, 0, 8), (31, .newarray .int, 2, 0, 0, 0, 0, 0), (33, .putfield 20, 3, 12, 4, 16, 0, 0), (36, .aload_n 0, 1, 0, 0, 0, 0, 0), (37, .bipush 8, 2, 0, 0, 0, 0, 8), (39, .newarray .int, 2, 0, 0, 0, 0, 0), (41, .putfield 23, 3, 12, 5, 16, 0, 0)]
set_option maxRecDepth 100000 in
theorem yk212_0 : T3OK 212 Y212_0 := t3_sub yk212 (by decide +kernel)
def md1 : PM := pR (pN (pR (pN (pR (pN (pR (pN (pR (pN (md0) 13 1) 12 1 1 1) 14 1) 12 1 2 1) 13 2) 12 1 3 2) 13 3) 12 1 4 3) 13 4) 12 1 5 4
def Y212_1 : List YR := [(44, .aload_n 0, 1, 0, 0, 0, 0, 0), (45, .bipush 8, 2, 0, 0, 0, 0, 8), (47, .newarray .boolean, 2, 0, 0, 0, 0, 0), (49, .putfield 26, 3, 12, 6, 18, 0, 0), (52, .aload_n 0, 1, 0, 0, 0, 0, 0), (53, .bipush 8, 2, 0, 0, 0, 0, 8), (55, .newarray .int, 2, 0, 0, 0, 0, 0), (57, .putfield 30, 3, 12, 7, 16, 0, 0), (60, .aload_n 0, 1, 0, 0, 0, 0, 0), (61, .bipush 6, 2, 0, 0, 0, 0, 6), (63, .newarray .int, 2, 0, 0, 0, 0, 0), (65, .putfield 33, 3, 12, 8, 16, 0, 0), (68, .aload_n 0, 1, 0, 0, 0, 0, 0), (69, .bipush 6, 2, 0, 0, 0, 0, 6), (71, .newarray .int, 2, 0, 0, 0, 0, 0), (73, .putfield 36, 3, 12, 9, 16, 0, 0), (76, .aload_n 0, 1, 0, 0, 0, 0, 0), (77, .bipush 6, 2, 0, 0, 0, 0, 6), (79, .newarray .int, 2, 0, 0, 0, 0, 0), (81, .putfield 39, 3, 12, 10, 16, 0, 0)]
set_option maxRecDepth 100000 in
theorem yk212_1 : T3OK 212 Y212_1 := t3_sub yk212 (by decide +kernel)
def md2 : PM := pR (pN (pR (pN (pR (pN (pR (pN (pR (pN (md1) 15 1) 12 1 6 1) 13 5) 12 1 7 5) 13 6) 12 1 8 6) 13 7) 12 1 9 7) 13 8) 12 1 10 8
def Y212_2 : List YR := [(84, .aload_n 0, 1, 0, 0, 0, 0, 0), (85, .bipush 6, 2, 0, 0, 0, 0, 6), (87, .newarray .int, 2, 0, 0, 0, 0, 0), (89, .putfield 42, 3, 12, 11, 16, 0, 0), (92, .aload_n 0, 1, 0, 0, 0, 0, 0), (93, .bipush 6, 2, 0, 0, 0, 0, 6), (95, .newarray .int, 2, 0, 0, 0, 0, 0), (97, .putfield 45, 3, 12, 12, 16, 0, 0), (100, .aload_n 0, 1, 0, 0, 0, 0, 0), (101, .bipush 6, 2, 0, 0, 0, 0, 6), (103, .newarray .int, 2, 0, 0, 0, 0, 0), (105, .putfield 48, 3, 12, 13, 16, 0, 0), (108, .aload_n 0, 1, 0, 0, 0, 0, 0), (109, .bipush 6, 2, 0, 0, 0, 0, 6), (111, .newarray .int, 2, 0, 0, 0, 0, 0), (113, .putfield 51, 3, 12, 14, 16, 0, 0), (116, .aload_n 0, 1, 0, 0, 0, 0, 0), (117, .bipush 6, 2, 0, 0, 0, 0, 6), (119, .newarray .int, 2, 0, 0, 0, 0, 0), (121, .putfield 54, 3, 12, 15, 16, 0, 0)]
set_option maxRecDepth 100000 in
theorem yk212_2 : T3OK 212 Y212_2 := t3_sub yk212 (by decide +kernel)
def md3 : PM := pR (pN (pR (pN (pR (pN (pR (pN (pR (pN (md2) 13 9) 12 1 11 9) 13 10) 12 1 12 10) 13 11) 12 1 13 11) 13 12) 12 1 14 12) 13 13) 12 1 15 13
def Y212_3 : List YR := [(124, .aload_n 0, 1, 0, 0, 0, 0, 0), (125, .bipush 6, 2, 0, 0, 0, 0, 6), (127, .newarray .boolean, 2, 0, 0, 0, 0, 0), (129, .putfield 57, 3, 12, 16, 18, 0, 0), (132, .aload_n 0, 1, 0, 0, 0, 0, 0), (133, .bipush 44, 2, 0, 0, 0, 0, 44), (135, .newarray .boolean, 2, 0, 0, 0, 0, 0), (137, .putfield 60, 3, 12, 19, 18, 0, 0), (140, .aload_n 0, 1, 0, 0, 0, 0, 0), (141, .bipush 44, 2, 0, 0, 0, 0, 44), (143, .newarray .int, 2, 0, 0, 0, 0, 0), (145, .putfield 63, 3, 12, 20, 16, 0, 0), (148, .aload_n 0, 1, 0, 0, 0, 0, 0), (149, .bipush 44, 2, 0, 0, 0, 0, 44), (151, .newarray .int, 2, 0, 0, 0, 0, 0), (153, .putfield 66, 3, 12, 21, 16, 0, 0), (156, .aload_n 0, 1, 0, 0, 0, 0, 0), (157, .bipush 44, 2, 0, 0, 0, 0, 44), (159, .newarray .int, 2, 0, 0, 0, 0, 0), (161, .putfield 69, 3, 12, 22, 16, 0, 0)]
set_option maxRecDepth 100000 in
theorem yk212_3 : T3OK 212 Y212_3 := t3_sub yk212 (by decide +kernel)
def md4 : PM := pR (pN (pR (pN (pR (pN (pR (pN (pR (pN (md3) 15 2) 12 1 16 2) 15 3) 12 1 19 3) 13 14) 12 1 20 14) 13 15) 12 1 21 15) 13 16) 12 1 22 16
def Y212_4 : List YR := [(164, .aload_n 0, 1, 0, 0, 0, 0, 0), (165, .bipush 44, 2, 0, 0, 0, 0, 44), (167, .newarray .boolean, 2, 0, 0, 0, 0, 0), (169, .putfield 72, 3, 12, 23, 18, 0, 0), (172, .aload_n 0, 1, 0, 0, 0, 0, 0), (173, .bipush 44, 2, 0, 0, 0, 0, 44), (175, .newarray .int, 2, 0, 0, 0, 0, 0), (177, .putfield 75, 3, 12, 24, 16, 0, 0), (180, .aload_n 0, 1, 0, 0, 0, 0, 0), (181, .bipush 44, 2, 0, 0, 0, 0, 44), (183, .newarray .boolean, 2, 0, 0, 0, 0, 0), (185, .putfield 78, 3, 12, 25, 18, 0, 0), (188, .aload_n 0, 1, 0, 0, 0, 0, 0), (189, .bipush 44, 2, 0, 0, 0, 0, 44), (191, .newarray .int, 2, 0, 0, 0, 0, 0), (193, .putfield 81, 3, 12, 26, 16, 0, 0), (196, .aload_n 0, 1, 0, 0, 0, 0, 0), (197, .bipush 44, 2, 0, 0, 0, 0, 44), (199, .newarray .int, 2, 0, 0, 0, 0, 0), (201, .putfield 84, 3, 12, 27, 16, 0, 0)]
set_option maxRecDepth 100000 in
theorem yk212_4 : T3OK 212 Y212_4 := t3_sub yk212 (by decide +kernel)
def md5 : PM := pR (pN (pR (pN (pR (pN (pR (pN (pR (pN (md4) 15 4) 12 1 23 4) 13 17) 12 1 24 17) 15 5) 12 1 25 5) 13 18) 12 1 26 18) 13 19) 12 1 27 19
def Y212_5 : List YR := [(204, .aload_n 0, 1, 0, 0, 0, 0, 0), (205, .bipush 44, 2, 0, 0, 0, 0, 44), (207, .newarray .int, 2, 0, 0, 0, 0, 0), (209, .putfield 87, 3, 12, 28, 16, 0, 0), (212, .aload_n 0, 1, 0, 0, 0, 0, 0), (213, .bipush 44, 2, 0, 0, 0, 0, 44), (215, .newarray .int, 2, 0, 0, 0, 0, 0), (217, .putfield 90, 3, 12, 29, 16, 0, 0), (220, .aload_n 0, 1, 0, 0, 0, 0, 0), (221, .bipush 44, 2, 0, 0, 0, 0, 44), (223, .newarray .int, 2, 0, 0, 0, 0, 0), (225, .putfield 93, 3, 12, 30, 16, 0, 0), (228, .aload_n 0, 1, 0, 0, 0, 0, 0), (229, .bipush 44, 2, 0, 0, 0, 0, 44), (231, .newarray .int, 2, 0, 0, 0, 0, 0), (233, .putfield 96, 3, 12, 31, 16, 0, 0), (236, .aload_n 0, 1, 0, 0, 0, 0, 0), (237, .bipush 44, 2, 0, 0, 0, 0, 44), (239, .newarray .int, 2, 0, 0, 0, 0, 0), (241, .putfield 99, 3, 12, 32, 16, 0, 0)]
set_option maxRecDepth 100000 in
theorem yk212_5 : T3OK 212 Y212_5 := t3_sub yk212 (by decide +kernel)
def md6 : PM := pR (pN (pR (pN (pR (pN (pR (pN (pR (pN (md5) 13 20) 12 1 28 20) 13 21) 12 1 29 21) 13 22) 12 1 30 22) 13 23) 12 1 31 23) 13 24) 12 1 32 24
def Y212_6 : List YR := [(244, .aload_n 0, 1, 0, 0, 0, 0, 0), (245, .bipush 44, 2, 0, 0, 0, 0, 44), (247, .newarray .int, 2, 0, 0, 0, 0, 0), (249, .putfield 102, 3, 12, 33, 16, 0, 0), (252, .aload_n 0, 1, 0, 0, 0, 0, 0), (253, .bipush 44, 2, 0, 0, 0, 0, 44), (255, .newarray .int, 2, 0, 0, 0, 0, 0), (257, .putfield 105, 3, 12, 34, 16, 0, 0), (260, .aload_n 0, 1, 0, 0, 0, 0, 0), (261, .bipush 44, 2, 0, 0, 0, 0, 44), (263, .newarray .int, 2, 0, 0, 0, 0, 0), (265, .putfield 108, 3, 12, 35, 16, 0, 0), (268, .aload_n 0, 1, 0, 0, 0, 0, 0), (269, .bipush 44, 2, 0, 0, 0, 0, 44), (271, .newarray .int, 2, 0, 0, 0, 0, 0), (273, .putfield 111, 3, 12, 36, 16, 0, 0), (276, .aload_n 0, 1, 0, 0, 0, 0, 0), (277, .bipush 44, 2, 0, 0, 0, 0, 44), (279, .newarray .boolean, 2, 0, 0, 0, 0, 0), (281, .putfield 114, 3, 12, 37, 18, 0, 0)]
set_option maxRecDepth 100000 in
theorem yk212_6 : T3OK 212 Y212_6 := t3_sub yk212 (by decide +kernel)
def md7 : PM := pR (pN (pR (pN (pR (pN (pR (pN (pR (pN (md6) 13 25) 12 1 33 25) 13 26) 12 1 34 26) 13 27) 12 1 35 27) 13 28) 12 1 36 28) 15 6) 12 1 37 6
def Y212_7 : List YR := [(284, .aload_n 0, 1, 0, 0, 0, 0, 0), (285, .bipush 44, 2, 0, 0, 0, 0, 44), (287, .newarray .int, 2, 0, 0, 0, 0, 0), (289, .putfield 117, 3, 12, 38, 16, 0, 0), (292, .aload_n 0, 1, 0, 0, 0, 0, 0), (293, .bipush 60, 2, 0, 0, 0, 0, 60), (295, .newarray .int, 2, 0, 0, 0, 0, 0), (297, .putfield 120, 3, 12, 41, 16, 0, 0), (300, .aload_n 0, 1, 0, 0, 0, 0, 0), (301, .bipush 60, 2, 0, 0, 0, 0, 60), (303, .newarray .int, 2, 0, 0, 0, 0, 0), (305, .putfield 123, 3, 12, 42, 16, 0, 0), (308, .aload_n 0, 1, 0, 0, 0, 0, 0), (309, .bipush 60, 2, 0, 0, 0, 0, 60), (311, .newarray .int, 2, 0, 0, 0, 0, 0), (313, .putfield 126, 3, 12, 43, 16, 0, 0), (316, .aload_n 0, 1, 0, 0, 0, 0, 0), (317, .bipush 60, 2, 0, 0, 0, 0, 60), (319, .newarray .int, 2, 0, 0, 0, 0, 0), (321, .putfield 129, 3, 12, 44, 16, 0, 0)]
set_option maxRecDepth 100000 in
theorem yk212_7 : T3OK 212 Y212_7 := t3_sub yk212 (by decide +kernel)
def md8 : PM := pR (pN (pR (pN (pR (pN (pR (pN (pR (pN (md7) 13 29) 12 1 38 29) 13 30) 12 1 41 30) 13 31) 12 1 42 31) 13 32) 12 1 43 32) 13 33) 12 1 44 33
def Y212_8 : List YR := [(324, .aload_n 0, 1, 0, 0, 0, 0, 0), (325, .bipush 60, 2, 0, 0, 0, 0, 60), (327, .newarray .int, 2, 0, 0, 0, 0, 0), (329, .putfield 132, 3, 12, 45, 16, 0, 0), (332, .aload_n 0, 1, 0, 0, 0, 0, 0), (333, .bipush 60, 2, 0, 0, 0, 0, 60), (335, .newarray .boolean, 2, 0, 0, 0, 0, 0), (337, .putfield 135, 3, 12, 46, 18, 0, 0), (340, .aload_n 0, 1, 0, 0, 0, 0, 0), (341, .bipush 60, 2, 0, 0, 0, 0, 60), (343, .newarray .boolean, 2, 0, 0, 0, 0, 0), (345, .putfield 138, 3, 12, 47, 18, 0, 0), (348, .aload_n 0, 1, 0, 0, 0, 0, 0), (349, .bipush 16, 2, 0, 0, 0, 0, 16), (351, .newarray .int, 2, 0, 0, 0, 0, 0), (353, .putfield 141, 3, 12, 49, 16, 0, 0), (356, .aload_n 0, 1, 0, 0, 0, 0, 0), (357, .iconst 4, 1, 0, 0, 0, 0, 4), (358, .newarray .int, 2, 0, 0, 0, 0, 0), (360, .putfield 144, 3, 12, 51, 16, 0, 0)]
set_option maxRecDepth 100000 in
theorem yk212_8 : T3OK 212 Y212_8 := t3_sub yk212 (by decide +kernel)
def md9 : PM := pR (pN (pR (pN (pR (pN (pR (pN (pR (pN (md8) 13 34) 12 1 45 34) 15 7) 12 1 46 7) 15 8) 12 1 47 8) 13 35) 12 1 49 35) 13 36) 12 1 51 36
def Y212_9 : List YR := [(363, .aload_n 0, 1, 0, 0, 0, 0, 0), (364, .iconst 4, 1, 0, 0, 0, 0, 4), (365, .newarray .int, 2, 0, 0, 0, 0, 0), (367, .putfield 147, 3, 12, 52, 16, 0, 0), (370, .aload_n 0, 1, 0, 0, 0, 0, 0), (371, .iconst 4, 1, 0, 0, 0, 0, 4), (372, .newarray .int, 2, 0, 0, 0, 0, 0), (374, .putfield 150, 3, 12, 53, 16, 0, 0), (377, .aload_n 0, 1, 0, 0, 0, 0, 0), (378, .iconst 4, 1, 0, 0, 0, 0, 4), (379, .newarray .boolean, 2, 0, 0, 0, 0, 0), (381, .putfield 153, 3, 12, 54, 18, 0, 0), (384, .aload_n 0, 1, 0, 0, 0, 0, 0), (385, .iconst 4, 1, 0, 0, 0, 0, 4), (386, .newarray .boolean, 2, 0, 0, 0, 0, 0), (388, .putfield 156, 3, 12, 55, 18, 0, 0), (391, .aload_n 0, 1, 0, 0, 0, 0, 0), (392, .iconst 4, 1, 0, 0, 0, 0, 4), (393, .newarray .int, 2, 0, 0, 0, 0, 0), (395, .putfield 159, 3, 12, 56, 16, 0, 0)]
set_option maxRecDepth 100000 in
theorem yk212_9 : T3OK 212 Y212_9 := t3_sub yk212 (by decide +kernel)
def md10 : PM := pR (pN (pR (pN (pR (pN (pR (pN (pR (pN (md9) 13 37) 12 1 52 37) 13 38) 12 1 53 38) 15 9) 12 1 54 9) 15 10) 12 1 55 10) 13 39) 12 1 56 39
def Y212_10 : List YR := [(398, .aload_n 0, 1, 0, 0, 0, 0, 0), (399, .sipush 3640, 3, 0, 0, 0, 0, 3640), (402, .newarray .int, 2, 0, 0, 0, 0, 0), (404, .putfield 162, 3, 12, 59, 16, 0, 0), (407, .aload_n 0, 1, 0, 0, 0, 0, 0), (408, .bipush 44, 2, 0, 0, 0, 0, 44), (410, .newarray .int, 2, 0, 0, 0, 0, 0), (412, .putfield 165, 3, 12, 62, 16, 0, 0), (415, .aload_n 0, 1, 0, 0, 0, 0, 0), (416, .bipush 44, 2, 0, 0, 0, 0, 44), (418, .newarray .int, 2, 0, 0, 0, 0, 0), (420, .putfield 168, 3, 12, 63, 16, 0, 0), (423, .aload_n 0, 1, 0, 0, 0, 0, 0), (424, .iconst 4, 1, 0, 0, 0, 0, 4), (425, .newarray .long, 2, 0, 0, 0, 0, 0), (427, .putfield 171, 3, 12, 66, 17, 0, 0), (430, .aload_n 0, 1, 0, 0, 0, 0, 0), (431, .iconst 4, 1, 0, 0, 0, 0, 4), (432, .newarray .long, 2, 0, 0, 0, 0, 0), (434, .putfield 174, 3, 12, 67, 17, 0, 0)]
set_option maxRecDepth 100000 in
theorem yk212_10 : T3OK 212 Y212_10 := t3_sub yk212 (by decide +kernel)
def md11 : PM := pR (pN (pR (pN (pR (pN (pR (pN (pR (pN (md10) 13 40) 12 1 59 40) 13 41) 12 1 62 41) 13 42) 12 1 63 42) 14 2) 12 1 66 2) 14 3) 12 1 67 3
set_option maxRecDepth 100000 in
theorem al_m0 : aE 313 = (2, 13, 1, 36) := by decide +kernel
set_option maxRecDepth 100000 in
theorem al_m1 : aE 314 = (2, 14, 1, 9) := by decide +kernel
set_option maxRecDepth 100000 in
theorem al_m2 : aE 315 = (2, 13, 2, 32) := by decide +kernel
set_option maxRecDepth 100000 in
theorem al_m3 : aE 316 = (2, 13, 3, 8) := by decide +kernel
set_option maxRecDepth 100000 in
theorem al_m4 : aE 317 = (2, 13, 4, 8) := by decide +kernel
set_option maxRecDepth 100000 in
theorem al_m5 : aE 318 = (2, 15, 1, 8) := by decide +kernel
set_option maxRecDepth 100000 in
theorem al_m6 : aE 319 = (2, 13, 5, 8) := by decide +kernel
set_option maxRecDepth 100000 in
theorem al_m7 : aE 320 = (2, 13, 6, 6) := by decide +kernel
set_option maxRecDepth 100000 in
theorem al_m8 : aE 321 = (2, 13, 7, 6) := by decide +kernel
set_option maxRecDepth 100000 in
theorem al_m9 : aE 322 = (2, 13, 8, 6) := by decide +kernel
set_option maxRecDepth 100000 in
theorem al_m10 : aE 323 = (2, 13, 9, 6) := by decide +kernel
set_option maxRecDepth 100000 in
theorem al_m11 : aE 324 = (2, 13, 10, 6) := by decide +kernel
set_option maxRecDepth 100000 in
theorem al_m12 : aE 325 = (2, 13, 11, 6) := by decide +kernel
set_option maxRecDepth 100000 in
theorem al_m13 : aE 326 = (2, 13, 12, 6) := by decide +kernel
set_option maxRecDepth 100000 in
theorem al_m14 : aE 327 = (2, 13, 13, 6) := by decide +kernel
set_option maxRecDepth 100000 in
theorem al_m15 : aE 328 = (2, 15, 2, 6) := by decide +kernel
set_option maxRecDepth 100000 in
theorem al_m16 : aE 329 = (2, 15, 3, 44) := by decide +kernel
set_option maxRecDepth 100000 in
theorem al_m17 : aE 330 = (2, 13, 14, 44) := by decide +kernel
set_option maxRecDepth 100000 in
theorem al_m18 : aE 331 = (2, 13, 15, 44) := by decide +kernel
set_option maxRecDepth 100000 in
theorem al_m19 : aE 332 = (2, 13, 16, 44) := by decide +kernel
set_option maxRecDepth 100000 in
theorem al_m20 : aE 333 = (2, 15, 4, 44) := by decide +kernel
set_option maxRecDepth 100000 in
theorem al_m21 : aE 334 = (2, 13, 17, 44) := by decide +kernel
set_option maxRecDepth 100000 in
theorem al_m22 : aE 335 = (2, 15, 5, 44) := by decide +kernel
set_option maxRecDepth 100000 in
theorem al_m23 : aE 336 = (2, 13, 18, 44) := by decide +kernel
set_option maxRecDepth 100000 in
theorem al_m24 : aE 337 = (2, 13, 19, 44) := by decide +kernel
set_option maxRecDepth 100000 in
theorem al_m25 : aE 338 = (2, 13, 20, 44) := by decide +kernel
set_option maxRecDepth 100000 in
theorem al_m26 : aE 339 = (2, 13, 21, 44) := by decide +kernel
set_option maxRecDepth 100000 in
theorem al_m27 : aE 340 = (2, 13, 22, 44) := by decide +kernel
set_option maxRecDepth 100000 in
theorem al_m28 : aE 341 = (2, 13, 23, 44) := by decide +kernel
set_option maxRecDepth 100000 in
theorem al_m29 : aE 342 = (2, 13, 24, 44) := by decide +kernel
set_option maxRecDepth 100000 in
theorem al_m30 : aE 343 = (2, 13, 25, 44) := by decide +kernel
set_option maxRecDepth 100000 in
theorem al_m31 : aE 344 = (2, 13, 26, 44) := by decide +kernel
set_option maxRecDepth 100000 in
theorem al_m32 : aE 345 = (2, 13, 27, 44) := by decide +kernel
set_option maxRecDepth 100000 in
theorem al_m33 : aE 346 = (2, 13, 28, 44) := by decide +kernel
set_option maxRecDepth 100000 in
theorem al_m34 : aE 347 = (2, 15, 6, 44) := by decide +kernel
set_option maxRecDepth 100000 in
theorem al_m35 : aE 348 = (2, 13, 29, 44) := by decide +kernel
set_option maxRecDepth 100000 in
theorem al_m36 : aE 349 = (2, 13, 30, 60) := by decide +kernel
set_option maxRecDepth 100000 in
theorem al_m37 : aE 350 = (2, 13, 31, 60) := by decide +kernel
set_option maxRecDepth 100000 in
theorem al_m38 : aE 351 = (2, 13, 32, 60) := by decide +kernel
set_option maxRecDepth 100000 in
theorem al_m39 : aE 352 = (2, 13, 33, 60) := by decide +kernel
set_option maxRecDepth 100000 in
theorem al_m40 : aE 353 = (2, 13, 34, 60) := by decide +kernel
set_option maxRecDepth 100000 in
theorem al_m41 : aE 354 = (2, 15, 7, 60) := by decide +kernel
set_option maxRecDepth 100000 in
theorem al_m42 : aE 355 = (2, 15, 8, 60) := by decide +kernel
set_option maxRecDepth 100000 in
theorem al_m43 : aE 356 = (2, 13, 35, 16) := by decide +kernel
set_option maxRecDepth 100000 in
theorem al_m44 : aE 357 = (2, 13, 36, 4) := by decide +kernel
set_option maxRecDepth 100000 in
theorem al_m45 : aE 358 = (2, 13, 37, 4) := by decide +kernel
set_option maxRecDepth 100000 in
theorem al_m46 : aE 359 = (2, 13, 38, 4) := by decide +kernel
set_option maxRecDepth 100000 in
theorem al_m47 : aE 360 = (2, 15, 9, 4) := by decide +kernel
set_option maxRecDepth 100000 in
theorem al_m48 : aE 361 = (2, 15, 10, 4) := by decide +kernel
set_option maxRecDepth 100000 in
theorem al_m49 : aE 362 = (2, 13, 39, 4) := by decide +kernel
set_option maxRecDepth 100000 in
theorem al_m50 : aE 363 = (2, 13, 40, 3640) := by decide +kernel
set_option maxRecDepth 100000 in
theorem al_m51 : aE 364 = (2, 13, 41, 44) := by decide +kernel
set_option maxRecDepth 100000 in
theorem al_m52 : aE 365 = (2, 13, 42, 44) := by decide +kernel
set_option maxRecDepth 100000 in
theorem al_m53 : aE 366 = (2, 14, 2, 4) := by decide +kernel
set_option maxRecDepth 100000 in
theorem al_m54 : aE 367 = (2, 14, 3, 4) := by decide +kernel
section Mod
variable {B : Nat → PM} {L : Nat}
theorem mk_0 : X 212 0 [rR 2 12 1] [] (cMm 2 md0 313 B L) = X 212 44 [rR 2 12 1] [] (cMm 2 md1 318 B L) := by
  refine y_nar yk212_0 4 7 9 (K := 13) (m := 36) rfl rfl rfl (fun _ => rfl) (by decide) (by decide) al_m0 (by omega) rfl rfl cMm_N ?_
  refine y_ptr yk212_0 0 9 12 13 rfl rfl rfl (by decide) rfl rfl cMm_R ?_
  refine y_nar yk212_0 2 15 17 (K := 14) (m := 9) rfl rfl rfl (fun _ => rfl) (by decide) (by decide) al_m1 (by omega) rfl rfl cMm_N ?_
  refine y_ptr yk212_0 0 17 20 14 rfl rfl rfl (by decide) rfl rfl cMm_R ?_
  refine y_nar yk212_0 2 23 25 (K := 13) (m := 32) rfl rfl rfl (fun _ => rfl) (by decide) (by decide) al_m2 (by omega) rfl rfl cMm_N ?_
  refine y_ptr yk212_0 0 25 28 13 rfl rfl rfl (by decide) rfl rfl cMm_R ?_
  refine y_nar yk212_0 2 31 33 (K := 13) (m := 8) rfl rfl rfl (fun _ => rfl) (by decide) (by decide) al_m3 (by omega) rfl rfl cMm_N ?_
  refine y_ptr yk212_0 0 33 36 13 rfl rfl rfl (by decide) rfl rfl cMm_R ?_
  refine y_nar yk212_0 2 39 41 (K := 13) (m := 8) rfl rfl rfl (fun _ => rfl) (by decide) (by decide) al_m4 (by omega) rfl rfl cMm_N ?_
  refine y_ptr yk212_0 0 41 44 13 rfl rfl rfl (by decide) rfl rfl cMm_R ?_
  rfl
theorem mk_1 : X 212 44 [rR 2 12 1] [] (cMm 2 md1 318 B L) = X 212 84 [rR 2 12 1] [] (cMm 2 md2 323 B L) := by
  refine y_nar yk212_1 2 47 49 (K := 15) (m := 8) rfl rfl rfl (fun _ => rfl) (by decide) (by decide) al_m5 (by omega) rfl rfl cMm_N ?_
  refine y_ptr yk212_1 0 49 52 15 rfl rfl rfl (by decide) rfl rfl cMm_R ?_
  refine y_nar yk212_1 2 55 57 (K := 13) (m := 8) rfl rfl rfl (fun _ => rfl) (by decide) (by decide) al_m6 (by omega) rfl rfl cMm_N ?_
  refine y_ptr yk212_1 0 57 60 13 rfl rfl rfl (by decide) rfl rfl cMm_R ?_
  refine y_nar yk212_1 2 63 65 (K := 13) (m := 6) rfl rfl rfl (fun _ => rfl) (by decide) (by decide) al_m7 (by omega) rfl rfl cMm_N ?_
  refine y_ptr yk212_1 0 65 68 13 rfl rfl rfl (by decide) rfl rfl cMm_R ?_
  refine y_nar yk212_1 2 71 73 (K := 13) (m := 6) rfl rfl rfl (fun _ => rfl) (by decide) (by decide) al_m8 (by omega) rfl rfl cMm_N ?_
  refine y_ptr yk212_1 0 73 76 13 rfl rfl rfl (by decide) rfl rfl cMm_R ?_
  refine y_nar yk212_1 2 79 81 (K := 13) (m := 6) rfl rfl rfl (fun _ => rfl) (by decide) (by decide) al_m9 (by omega) rfl rfl cMm_N ?_
  refine y_ptr yk212_1 0 81 84 13 rfl rfl rfl (by decide) rfl rfl cMm_R ?_
  rfl
theorem mk_2 : X 212 84 [rR 2 12 1] [] (cMm 2 md2 323 B L) = X 212 124 [rR 2 12 1] [] (cMm 2 md3 328 B L) := by
  refine y_nar yk212_2 2 87 89 (K := 13) (m := 6) rfl rfl rfl (fun _ => rfl) (by decide) (by decide) al_m10 (by omega) rfl rfl cMm_N ?_
  refine y_ptr yk212_2 0 89 92 13 rfl rfl rfl (by decide) rfl rfl cMm_R ?_
  refine y_nar yk212_2 2 95 97 (K := 13) (m := 6) rfl rfl rfl (fun _ => rfl) (by decide) (by decide) al_m11 (by omega) rfl rfl cMm_N ?_
  refine y_ptr yk212_2 0 97 100 13 rfl rfl rfl (by decide) rfl rfl cMm_R ?_
  refine y_nar yk212_2 2 103 105 (K := 13) (m := 6) rfl rfl rfl (fun _ => rfl) (by decide) (by decide) al_m12 (by omega) rfl rfl cMm_N ?_
  refine y_ptr yk212_2 0 105 108 13 rfl rfl rfl (by decide) rfl rfl cMm_R ?_
  refine y_nar yk212_2 2 111 113 (K := 13) (m := 6) rfl rfl rfl (fun _ => rfl) (by decide) (by decide) al_m13 (by omega) rfl rfl cMm_N ?_
  refine y_ptr yk212_2 0 113 116 13 rfl rfl rfl (by decide) rfl rfl cMm_R ?_
  refine y_nar yk212_2 2 119 121 (K := 13) (m := 6) rfl rfl rfl (fun _ => rfl) (by decide) (by decide) al_m14 (by omega) rfl rfl cMm_N ?_
  refine y_ptr yk212_2 0 121 124 13 rfl rfl rfl (by decide) rfl rfl cMm_R ?_
  rfl
theorem mk_3 : X 212 124 [rR 2 12 1] [] (cMm 2 md3 328 B L) = X 212 164 [rR 2 12 1] [] (cMm 2 md4 333 B L) := by
  refine y_nar yk212_3 2 127 129 (K := 15) (m := 6) rfl rfl rfl (fun _ => rfl) (by decide) (by decide) al_m15 (by omega) rfl rfl cMm_N ?_
  refine y_ptr yk212_3 0 129 132 15 rfl rfl rfl (by decide) rfl rfl cMm_R ?_
  refine y_nar yk212_3 2 135 137 (K := 15) (m := 44) rfl rfl rfl (fun _ => rfl) (by decide) (by decide) al_m16 (by omega) rfl rfl cMm_N ?_
  refine y_ptr yk212_3 0 137 140 15 rfl rfl rfl (by decide) rfl rfl cMm_R ?_
  refine y_nar yk212_3 2 143 145 (K := 13) (m := 44) rfl rfl rfl (fun _ => rfl) (by decide) (by decide) al_m17 (by omega) rfl rfl cMm_N ?_
  refine y_ptr yk212_3 0 145 148 13 rfl rfl rfl (by decide) rfl rfl cMm_R ?_
  refine y_nar yk212_3 2 151 153 (K := 13) (m := 44) rfl rfl rfl (fun _ => rfl) (by decide) (by decide) al_m18 (by omega) rfl rfl cMm_N ?_
  refine y_ptr yk212_3 0 153 156 13 rfl rfl rfl (by decide) rfl rfl cMm_R ?_
  refine y_nar yk212_3 2 159 161 (K := 13) (m := 44) rfl rfl rfl (fun _ => rfl) (by decide) (by decide) al_m19 (by omega) rfl rfl cMm_N ?_
  refine y_ptr yk212_3 0 161 164 13 rfl rfl rfl (by decide) rfl rfl cMm_R ?_
  rfl
theorem mk_4 : X 212 164 [rR 2 12 1] [] (cMm 2 md4 333 B L) = X 212 204 [rR 2 12 1] [] (cMm 2 md5 338 B L) := by
  refine y_nar yk212_4 2 167 169 (K := 15) (m := 44) rfl rfl rfl (fun _ => rfl) (by decide) (by decide) al_m20 (by omega) rfl rfl cMm_N ?_
  refine y_ptr yk212_4 0 169 172 15 rfl rfl rfl (by decide) rfl rfl cMm_R ?_
  refine y_nar yk212_4 2 175 177 (K := 13) (m := 44) rfl rfl rfl (fun _ => rfl) (by decide) (by decide) al_m21 (by omega) rfl rfl cMm_N ?_
  refine y_ptr yk212_4 0 177 180 13 rfl rfl rfl (by decide) rfl rfl cMm_R ?_
  refine y_nar yk212_4 2 183 185 (K := 15) (m := 44) rfl rfl rfl (fun _ => rfl) (by decide) (by decide) al_m22 (by omega) rfl rfl cMm_N ?_
  refine y_ptr yk212_4 0 185 188 15 rfl rfl rfl (by decide) rfl rfl cMm_R ?_
  refine y_nar yk212_4 2 191 193 (K := 13) (m := 44) rfl rfl rfl (fun _ => rfl) (by decide) (by decide) al_m23 (by omega) rfl rfl cMm_N ?_
  refine y_ptr yk212_4 0 193 196 13 rfl rfl rfl (by decide) rfl rfl cMm_R ?_
  refine y_nar yk212_4 2 199 201 (K := 13) (m := 44) rfl rfl rfl (fun _ => rfl) (by decide) (by decide) al_m24 (by omega) rfl rfl cMm_N ?_
  refine y_ptr yk212_4 0 201 204 13 rfl rfl rfl (by decide) rfl rfl cMm_R ?_
  rfl
theorem mk_5 : X 212 204 [rR 2 12 1] [] (cMm 2 md5 338 B L) = X 212 244 [rR 2 12 1] [] (cMm 2 md6 343 B L) := by
  refine y_nar yk212_5 2 207 209 (K := 13) (m := 44) rfl rfl rfl (fun _ => rfl) (by decide) (by decide) al_m25 (by omega) rfl rfl cMm_N ?_
  refine y_ptr yk212_5 0 209 212 13 rfl rfl rfl (by decide) rfl rfl cMm_R ?_
  refine y_nar yk212_5 2 215 217 (K := 13) (m := 44) rfl rfl rfl (fun _ => rfl) (by decide) (by decide) al_m26 (by omega) rfl rfl cMm_N ?_
  refine y_ptr yk212_5 0 217 220 13 rfl rfl rfl (by decide) rfl rfl cMm_R ?_
  refine y_nar yk212_5 2 223 225 (K := 13) (m := 44) rfl rfl rfl (fun _ => rfl) (by decide) (by decide) al_m27 (by omega) rfl rfl cMm_N ?_
  refine y_ptr yk212_5 0 225 228 13 rfl rfl rfl (by decide) rfl rfl cMm_R ?_
  refine y_nar yk212_5 2 231 233 (K := 13) (m := 44) rfl rfl rfl (fun _ => rfl) (by decide) (by decide) al_m28 (by omega) rfl rfl cMm_N ?_
  refine y_ptr yk212_5 0 233 236 13 rfl rfl rfl (by decide) rfl rfl cMm_R ?_
  refine y_nar yk212_5 2 239 241 (K := 13) (m := 44) rfl rfl rfl (fun _ => rfl) (by decide) (by decide) al_m29 (by omega) rfl rfl cMm_N ?_
  refine y_ptr yk212_5 0 241 244 13 rfl rfl rfl (by decide) rfl rfl cMm_R ?_
  rfl
theorem mk_6 : X 212 244 [rR 2 12 1] [] (cMm 2 md6 343 B L) = X 212 284 [rR 2 12 1] [] (cMm 2 md7 348 B L) := by
  refine y_nar yk212_6 2 247 249 (K := 13) (m := 44) rfl rfl rfl (fun _ => rfl) (by decide) (by decide) al_m30 (by omega) rfl rfl cMm_N ?_
  refine y_ptr yk212_6 0 249 252 13 rfl rfl rfl (by decide) rfl rfl cMm_R ?_
  refine y_nar yk212_6 2 255 257 (K := 13) (m := 44) rfl rfl rfl (fun _ => rfl) (by decide) (by decide) al_m31 (by omega) rfl rfl cMm_N ?_
  refine y_ptr yk212_6 0 257 260 13 rfl rfl rfl (by decide) rfl rfl cMm_R ?_
  refine y_nar yk212_6 2 263 265 (K := 13) (m := 44) rfl rfl rfl (fun _ => rfl) (by decide) (by decide) al_m32 (by omega) rfl rfl cMm_N ?_
  refine y_ptr yk212_6 0 265 268 13 rfl rfl rfl (by decide) rfl rfl cMm_R ?_
  refine y_nar yk212_6 2 271 273 (K := 13) (m := 44) rfl rfl rfl (fun _ => rfl) (by decide) (by decide) al_m33 (by omega) rfl rfl cMm_N ?_
  refine y_ptr yk212_6 0 273 276 13 rfl rfl rfl (by decide) rfl rfl cMm_R ?_
  refine y_nar yk212_6 2 279 281 (K := 15) (m := 44) rfl rfl rfl (fun _ => rfl) (by decide) (by decide) al_m34 (by omega) rfl rfl cMm_N ?_
  refine y_ptr yk212_6 0 281 284 15 rfl rfl rfl (by decide) rfl rfl cMm_R ?_
  rfl
theorem mk_7 : X 212 284 [rR 2 12 1] [] (cMm 2 md7 348 B L) = X 212 324 [rR 2 12 1] [] (cMm 2 md8 353 B L) := by
  refine y_nar yk212_7 2 287 289 (K := 13) (m := 44) rfl rfl rfl (fun _ => rfl) (by decide) (by decide) al_m35 (by omega) rfl rfl cMm_N ?_
  refine y_ptr yk212_7 0 289 292 13 rfl rfl rfl (by decide) rfl rfl cMm_R ?_
  refine y_nar yk212_7 2 295 297 (K := 13) (m := 60) rfl rfl rfl (fun _ => rfl) (by decide) (by decide) al_m36 (by omega) rfl rfl cMm_N ?_
  refine y_ptr yk212_7 0 297 300 13 rfl rfl rfl (by decide) rfl rfl cMm_R ?_
  refine y_nar yk212_7 2 303 305 (K := 13) (m := 60) rfl rfl rfl (fun _ => rfl) (by decide) (by decide) al_m37 (by omega) rfl rfl cMm_N ?_
  refine y_ptr yk212_7 0 305 308 13 rfl rfl rfl (by decide) rfl rfl cMm_R ?_
  refine y_nar yk212_7 2 311 313 (K := 13) (m := 60) rfl rfl rfl (fun _ => rfl) (by decide) (by decide) al_m38 (by omega) rfl rfl cMm_N ?_
  refine y_ptr yk212_7 0 313 316 13 rfl rfl rfl (by decide) rfl rfl cMm_R ?_
  refine y_nar yk212_7 2 319 321 (K := 13) (m := 60) rfl rfl rfl (fun _ => rfl) (by decide) (by decide) al_m39 (by omega) rfl rfl cMm_N ?_
  refine y_ptr yk212_7 0 321 324 13 rfl rfl rfl (by decide) rfl rfl cMm_R ?_
  rfl
theorem mk_8 : X 212 324 [rR 2 12 1] [] (cMm 2 md8 353 B L) = X 212 363 [rR 2 12 1] [] (cMm 2 md9 358 B L) := by
  refine y_nar yk212_8 2 327 329 (K := 13) (m := 60) rfl rfl rfl (fun _ => rfl) (by decide) (by decide) al_m40 (by omega) rfl rfl cMm_N ?_
  refine y_ptr yk212_8 0 329 332 13 rfl rfl rfl (by decide) rfl rfl cMm_R ?_
  refine y_nar yk212_8 2 335 337 (K := 15) (m := 60) rfl rfl rfl (fun _ => rfl) (by decide) (by decide) al_m41 (by omega) rfl rfl cMm_N ?_
  refine y_ptr yk212_8 0 337 340 15 rfl rfl rfl (by decide) rfl rfl cMm_R ?_
  refine y_nar yk212_8 2 343 345 (K := 15) (m := 60) rfl rfl rfl (fun _ => rfl) (by decide) (by decide) al_m42 (by omega) rfl rfl cMm_N ?_
  refine y_ptr yk212_8 0 345 348 15 rfl rfl rfl (by decide) rfl rfl cMm_R ?_
  refine y_nar yk212_8 2 351 353 (K := 13) (m := 16) rfl rfl rfl (fun _ => rfl) (by decide) (by decide) al_m43 (by omega) rfl rfl cMm_N ?_
  refine y_ptr yk212_8 0 353 356 13 rfl rfl rfl (by decide) rfl rfl cMm_R ?_
  refine y_nar yk212_8 2 358 360 (K := 13) (m := 4) rfl rfl rfl (fun _ => rfl) (by decide) (by decide) al_m44 (by omega) rfl rfl cMm_N ?_
  refine y_ptr yk212_8 0 360 363 13 rfl rfl rfl (by decide) rfl rfl cMm_R ?_
  rfl
theorem mk_9 : X 212 363 [rR 2 12 1] [] (cMm 2 md9 358 B L) = X 212 398 [rR 2 12 1] [] (cMm 2 md10 363 B L) := by
  refine y_nar yk212_9 2 365 367 (K := 13) (m := 4) rfl rfl rfl (fun _ => rfl) (by decide) (by decide) al_m45 (by omega) rfl rfl cMm_N ?_
  refine y_ptr yk212_9 0 367 370 13 rfl rfl rfl (by decide) rfl rfl cMm_R ?_
  refine y_nar yk212_9 2 372 374 (K := 13) (m := 4) rfl rfl rfl (fun _ => rfl) (by decide) (by decide) al_m46 (by omega) rfl rfl cMm_N ?_
  refine y_ptr yk212_9 0 374 377 13 rfl rfl rfl (by decide) rfl rfl cMm_R ?_
  refine y_nar yk212_9 2 379 381 (K := 15) (m := 4) rfl rfl rfl (fun _ => rfl) (by decide) (by decide) al_m47 (by omega) rfl rfl cMm_N ?_
  refine y_ptr yk212_9 0 381 384 15 rfl rfl rfl (by decide) rfl rfl cMm_R ?_
  refine y_nar yk212_9 2 386 388 (K := 15) (m := 4) rfl rfl rfl (fun _ => rfl) (by decide) (by decide) al_m48 (by omega) rfl rfl cMm_N ?_
  refine y_ptr yk212_9 0 388 391 15 rfl rfl rfl (by decide) rfl rfl cMm_R ?_
  refine y_nar yk212_9 2 393 395 (K := 13) (m := 4) rfl rfl rfl (fun _ => rfl) (by decide) (by decide) al_m49 (by omega) rfl rfl cMm_N ?_
  refine y_ptr yk212_9 0 395 398 13 rfl rfl rfl (by decide) rfl rfl cMm_R ?_
  rfl
theorem mk_10 : X 212 398 [rR 2 12 1] [] (cMm 2 md10 363 B L) = X 212 437 [rR 2 12 1] [] (cMm 2 md11 368 B L) := by
  refine y_nar yk212_10 2 402 404 (K := 13) (m := 3640) rfl rfl rfl (fun _ => rfl) (by decide) (by decide) al_m50 (by omega) rfl rfl cMm_N ?_
  refine y_ptr yk212_10 0 404 407 13 rfl rfl rfl (by decide) rfl rfl cMm_R ?_
  refine y_nar yk212_10 2 410 412 (K := 13) (m := 44) rfl rfl rfl (fun _ => rfl) (by decide) (by decide) al_m51 (by omega) rfl rfl cMm_N ?_
  refine y_ptr yk212_10 0 412 415 13 rfl rfl rfl (by decide) rfl rfl cMm_R ?_
  refine y_nar yk212_10 2 418 420 (K := 13) (m := 44) rfl rfl rfl (fun _ => rfl) (by decide) (by decide) al_m52 (by omega) rfl rfl cMm_N ?_
  refine y_ptr yk212_10 0 420 423 13 rfl rfl rfl (by decide) rfl rfl cMm_R ?_
  refine y_nar yk212_10 2 425 427 (K := 14) (m := 4) rfl rfl rfl (fun _ => rfl) (by decide) (by decide) al_m53 (by omega) rfl rfl cMm_N ?_
  refine y_ptr yk212_10 0 427 430 14 rfl rfl rfl (by decide) rfl rfl cMm_R ?_
  refine y_nar yk212_10 2 432 434 (K := 14) (m := 4) rfl rfl rfl (fun _ => rfl) (by decide) (by decide) al_m54 (by omega) rfl rfl cMm_N ?_
  refine y_ptr yk212_10 0 434 437 14 rfl rfl rfl (by decide) rfl rfl cMm_R ?_
  rfl
set_option maxRecDepth 100000 in
theorem md_g : ∀ q ∈ grT 2, md11.2.2 q.1 1 q.2.1 = q.2.2 := by decide +kernel
theorem md_gr : Gr 2 md11 := ⟨md_g, fun h => absurd h (by decide)⟩
def Y212_e : List YR := [(437, .aload_n 0, 1, 0, 0, 0, 0, 0), (438, .invokevirtual 177, 3, 214, 1, 2, 12, 0), (441, .return_, 1, 0, 0, 0, 0, 0)]
set_option maxRecDepth 100000 in
theorem yk212_e : T3OK 212 Y212_e := t3_sub yk212 (by decide +kernel)
theorem x_mod (hr : g12_resets md11) : X 212 0 [rR 2 12 1] [] (cMm 2 md0 313 B L) = some (.inl none, cMm 2 (v12_resets md11) 368 B L) := by
  rw [mk_0, mk_1, mk_2, mk_3, mk_4, mk_5, mk_6, mk_7, mk_8, mk_9, mk_10]
  have e0 := x_hV (M := cMm 2 md11 368 B L) okx2 (t12_resets md11 md_gr hr) cMm_P
  refine y_ca0 yk212_e 2 441 rfl e0 ?_
  exact y_rtv yk212_e 1 rfl
end Mod
