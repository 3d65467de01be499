/-! tables of the play, a case each; what is done, by its kind -/
def Y201s : List YR := [(97, .tableswitch 594 1 27 #[123, 144, 159, 178, 197, 216, 235, 249, 272, 291, 310, 331, 359, 370, 382, 393, 409, 436, 456, 474, 489, 507, 521, 539, 555, 566, 582], 123, 0, 0, 0, 0, 0)]
set_option maxRecDepth 100000 in
theorem yk201s : T3OK 201 Y201s := t3_sub yk201 (by decide +kernel)
def Y201_0 : List YR := [(220, .aload_n 1, 1, 0, 0, 0, 0, 0), (221, .iload 4, 2, 0, 0, 0, 0, 0), (223, .iload 5, 2, 0, 0, 0, 0, 0), (225, .iload 6, 2, 0, 0, 0, 0, 0), (227, .iload 7, 2, 0, 0, 0, 0, 0), (229, .iload 8, 2, 0, 0, 0, 0, 0), (231, .iload 9, 2, 0, 0, 0, 0, 0), (233, .invokevirtual 274, 3, 58, 7, 9, 5, 0), (236, .istore 10, 2, 0, 0, 0, 0, 0), (238, .goto 453, 3, 0, 0, 0, 0, 0), (691, .aload_n 1, 1, 0, 0, 0, 0, 0), (692, .invokevirtual 362, 3, 70, 1, 3, 5, 0), (695, .iload 10, 2, 0, 0, 0, 0, 0), (697, .ireturn, 1, 0, 0, 0, 0, 0)]
set_option maxRecDepth 100000 in
theorem yk201_0 : T3OK 201 Y201_0 := t3_sub yk201 (by decide +kernel)
def Y201_1 : List YR := [(241, .aload_n 1, 1, 0, 0, 0, 0, 0), (242, .iload 4, 2, 0, 0, 0, 0, 0), (244, .iload 5, 2, 0, 0, 0, 0, 0), (246, .iload 6, 2, 0, 0, 0, 0, 0), (248, .invokevirtual 278, 3, 59, 4, 5, 5, 0), (251, .istore 10, 2, 0, 0, 0, 0, 0), (253, .goto 438, 3, 0, 0, 0, 0, 0), (691, .aload_n 1, 1, 0, 0, 0, 0, 0), (692, .invokevirtual 362, 3, 70, 1, 3, 5, 0), (695, .iload 10, 2, 0, 0, 0, 0, 0), (697, .ireturn, 1, 0, 0, 0, 0, 0)]
set_option maxRecDepth 100000 in
theorem yk201_1 : T3OK 201 Y201_1 := t3_sub yk201 (by decide +kernel)
def Y201_2 : List YR := [(256, .aload_n 1, 1, 0, 0, 0, 0, 0), (257, .iload 4, 2, 0, 0, 0, 0, 0), (259, .iload 5, 2, 0, 0, 0, 0, 0), (261, .iload 6, 2, 0, 0, 0, 0, 0), (263, .iload 7, 2, 0, 0, 0, 0, 0), (265, .iload 8, 2, 0, 0, 0, 0, 0), (267, .invokevirtual 282, 3, 60, 6, 7, 5, 0), (270, .istore 10, 2, 0, 0, 0, 0, 0), (272, .goto 419, 3, 0, 0, 0, 0, 0), (691, .aload_n 1, 1, 0, 0, 0, 0, 0), (692, .invokevirtual 362, 3, 70, 1, 3, 5, 0), (695, .iload 10, 2, 0, 0, 0, 0, 0), (697, .ireturn, 1, 0, 0, 0, 0, 0)]
set_option maxRecDepth 100000 in
theorem yk201_2 : T3OK 201 Y201_2 := t3_sub yk201 (by decide +kernel)
def Y201_3 : List YR := [(275, .aload_n 1, 1, 0, 0, 0, 0, 0), (276, .iload 4, 2, 0, 0, 0, 0, 0), (278, .iload 5, 2, 0, 0, 0, 0, 0), (280, .iload 6, 2, 0, 0, 0, 0, 0), (282, .iload 7, 2, 0, 0, 0, 0, 0), (284, .iload 8, 2, 0, 0, 0, 0, 0), (286, .invokevirtual 286, 3, 61, 6, 7, 5, 0), (289, .istore 10, 2, 0, 0, 0, 0, 0), (291, .goto 400, 3, 0, 0, 0, 0, 0), (691, .aload_n 1, 1, 0, 0, 0, 0, 0), (692, .invokevirtual 362, 3, 70, 1, 3, 5, 0), (695, .iload 10, 2, 0, 0, 0, 0, 0), (697, .ireturn, 1, 0, 0, 0, 0, 0)]
set_option maxRecDepth 100000 in
theorem yk201_3 : T3OK 201 Y201_3 := t3_sub yk201 (by decide +kernel)
def Y201_4 : List YR := [(294, .aload_n 1, 1, 0, 0, 0, 0, 0), (295, .iload 4, 2, 0, 0, 0, 0, 0), (297, .iload 5, 2, 0, 0, 0, 0, 0), (299, .iload 6, 2, 0, 0, 0, 0, 0), (301, .iload 7, 2, 0, 0, 0, 0, 0), (303, .iload 8, 2, 0, 0, 0, 0, 0), (305, .invokevirtual 289, 3, 62, 6, 8, 5, 0), (308, .istore 10, 2, 0, 0, 0, 0, 0), (310, .goto 381, 3, 0, 0, 0, 0, 0), (691, .aload_n 1, 1, 0, 0, 0, 0, 0), (692, .invokevirtual 362, 3, 70, 1, 3, 5, 0), (695, .iload 10, 2, 0, 0, 0, 0, 0), (697, .ireturn, 1, 0, 0, 0, 0, 0)]
set_option maxRecDepth 100000 in
theorem yk201_4 : T3OK 201 Y201_4 := t3_sub yk201 (by decide +kernel)
def Y201_5 : List YR := [(313, .aload_n 1, 1, 0, 0, 0, 0, 0), (314, .iload 4, 2, 0, 0, 0, 0, 0), (316, .iload 5, 2, 0, 0, 0, 0, 0), (318, .iload 6, 2, 0, 0, 0, 0, 0), (320, .iload 7, 2, 0, 0, 0, 0, 0), (322, .iload 8, 2, 0, 0, 0, 0, 0), (324, .invokevirtual 292, 3, 63, 6, 10, 5, 0), (327, .istore 10, 2, 0, 0, 0, 0, 0), (329, .goto 362, 3, 0, 0, 0, 0, 0), (691, .aload_n 1, 1, 0, 0, 0, 0, 0), (692, .invokevirtual 362, 3, 70, 1, 3, 5, 0), (695, .iload 10, 2, 0, 0, 0, 0, 0), (697, .ireturn, 1, 0, 0, 0, 0, 0)]
set_option maxRecDepth 100000 in
theorem yk201_5 : T3OK 201 Y201_5 := t3_sub yk201 (by decide +kernel)
def Y201_6 : List YR := [(332, .aload_n 1, 1, 0, 0, 0, 0, 0), (333, .getfield 34, 3, 5, 0, 9, 0, 0), (336, .iload 4, 2, 0, 0, 0, 0, 0), (338, .invokevirtual 295, 3, 85, 2, 3, 6, 0), (341, .istore 10, 2, 0, 0, 0, 0, 0), (343, .goto 348, 3, 0, 0, 0, 0, 0), (691, .aload_n 1, 1, 0, 0, 0, 0, 0), (692, .invokevirtual 362, 3, 70, 1, 3, 5, 0), (695, .iload 10, 2, 0, 0, 0, 0, 0), (697, .ireturn, 1, 0, 0, 0, 0, 0)]
set_option maxRecDepth 100000 in
theorem yk201_6 : T3OK 201 Y201_6 := t3_sub yk201 (by decide +kernel)
def Y201_7 : List YR := [(346, .aload_n 1, 1, 0, 0, 0, 0, 0), (347, .getfield 34, 3, 5, 0, 9, 0, 0), (350, .iload 4, 2, 0, 0, 0, 0, 0), (352, .invokevirtual 38, 3, 73, 2, 2, 6, 0), (355, .iload 5, 2, 0, 0, 0, 0, 0), (357, .iload 6, 2, 0, 0, 0, 0, 0), (359, .iload 7, 2, 0, 0, 0, 0, 0), (361, .invokevirtual 298, 3, 14, 4, 5, 1, 0), (364, .istore 10, 2, 0, 0, 0, 0, 0), (366, .goto 325, 3, 0, 0, 0, 0, 0), (691, .aload_n 1, 1, 0, 0, 0, 0, 0), (692, .invokevirtual 362, 3, 70, 1, 3, 5, 0), (695, .iload 10, 2, 0, 0, 0, 0, 0), (697, .ireturn, 1, 0, 0, 0, 0, 0)]
set_option maxRecDepth 100000 in
theorem yk201_7 : T3OK 201 Y201_7 := t3_sub yk201 (by decide +kernel)
def Y201_8 : List YR := [(369, .aload_n 1, 1, 0, 0, 0, 0, 0), (370, .getfield 34, 3, 5, 0, 9, 0, 0), (373, .iload 4, 2, 0, 0, 0, 0, 0), (375, .invokevirtual 38, 3, 73, 2, 2, 6, 0), (378, .iload 5, 2, 0, 0, 0, 0, 0), (380, .invokevirtual 301, 3, 15, 2, 3, 1, 0), (383, .istore 10, 2, 0, 0, 0, 0, 0), (385, .goto 306, 3, 0, 0, 0, 0, 0), (691, .aload_n 1, 1, 0, 0, 0, 0, 0), (692, .invokevirtual 362, 3, 70, 1, 3, 5, 0), (695, .iload 10, 2, 0, 0, 0, 0, 0), (697, .ireturn, 1, 0, 0, 0, 0, 0)]
set_option maxRecDepth 100000 in
theorem yk201_8 : T3OK 201 Y201_8 := t3_sub yk201 (by decide +kernel)
def Y201_9 : List YR := [(388, .aload_n 1, 1, 0, 0, 0, 0, 0), (389, .getfield 141, 3, 5, 1, 10, 0, 0), (392, .iload 4, 2, 0, 0, 0, 0, 0), (394, .invokevirtual 150, 3, 104, 2, 2, 7, 0), (397, .iload 5, 2, 0, 0, 0, 0, 0), (399, .invokevirtual 304, 3, 6, 2, 3, 0, 0), (402, .istore 10, 2, 0, 0, 0, 0, 0), (404, .goto 287, 3, 0, 0, 0, 0, 0), (691, .aload_n 1, 1, 0, 0, 0, 0, 0), (692, .invokevirtual 362, 3, 70, 1, 3, 5, 0), (695, .iload 10, 2, 0, 0, 0, 0, 0), (697, .ireturn, 1, 0, 0, 0, 0, 0)]
set_option maxRecDepth 100000 in
theorem yk201_9 : T3OK 201 Y201_9 := t3_sub yk201 (by decide +kernel)
def Y201_10 : List YR := [(407, .aload_n 1, 1, 0, 0, 0, 0, 0), (408, .getfield 141, 3, 5, 1, 10, 0, 0), (411, .iload 4, 2, 0, 0, 0, 0, 0), (413, .invokevirtual 150, 3, 104, 2, 2, 7, 0), (416, .iload 5, 2, 0, 0, 0, 0, 0), (418, .iload 6, 2, 0, 0, 0, 0, 0), (420, .invokevirtual 307, 3, 7, 3, 4, 0, 0), (423, .istore 10, 2, 0, 0, 0, 0, 0), (425, .goto 266, 3, 0, 0, 0, 0, 0), (691, .aload_n 1, 1, 0, 0, 0, 0, 0), (692, .invokevirtual 362, 3, 70, 1, 3, 5, 0), (695, .iload 10, 2, 0, 0, 0, 0, 0), (697, .ireturn, 1, 0, 0, 0, 0, 0)]
set_option maxRecDepth 100000 in
theorem yk201_10 : T3OK 201 Y201_10 := t3_sub yk201 (by decide +kernel)
def Y201_11 : List YR := [(428, .aload_n 1, 1, 0, 0, 0, 0, 0), (429, .getfield 34, 3, 5, 0, 9, 0, 0), (432, .aload_n 1, 1, 0, 0, 0, 0, 0), (433, .getfield 34, 3, 5, 0, 9, 0, 0), (436, .iload 4, 2, 0, 0, 0, 0, 0), (438, .invokevirtual 38, 3, 73, 2, 2, 6, 0), (441, .iload 5, 2, 0, 0, 0, 0, 0), (443, .iload 7, 2, 0, 0, 0, 0, 0), (445, .iadd, 1, 0, 0, 0, 0, 0), (446, .iload 6, 2, 0, 0, 0, 0, 0), (448, .invokevirtual 311, 3, 93, 4, 4, 6, 0), (451, .istore 10, 2, 0, 0, 0, 0, 0), (453, .goto 238, 3, 0, 0, 0, 0, 0), (691, .aload_n 1, 1, 0, 0, 0, 0, 0), (692, .invokevirtual 362, 3, 70, 1, 3, 5, 0), (695, .iload 10, 2, 0, 0, 0, 0, 0), (697, .ireturn, 1, 0, 0, 0, 0, 0)]
set_option maxRecDepth 100000 in
theorem yk201_11 : T3OK 201 Y201_11 := t3_sub yk201 (by decide +kernel)
def Y201_12 : List YR := [(456, .aload_n 1, 1, 0, 0, 0, 0, 0), (457, .iload 4, 2, 0, 0, 0, 0, 0), (459, .invokevirtual 315, 3, 65, 2, 7, 5, 0), (462, .istore 10, 2, 0, 0, 0, 0, 0), (464, .goto 227, 3, 0, 0, 0, 0, 0), (691, .aload_n 1, 1, 0, 0, 0, 0, 0), (692, .invokevirtual 362, 3, 70, 1, 3, 5, 0), (695, .iload 10, 2, 0, 0, 0, 0, 0), (697, .ireturn, 1, 0, 0, 0, 0, 0)]
set_option maxRecDepth 100000 in
theorem yk201_12 : T3OK 201 Y201_12 := t3_sub yk201 (by decide +kernel)
def Y201_13 : List YR := [(467, .aload_n 1, 1, 0, 0, 0, 0, 0), (468, .getfield 34, 3, 5, 0, 9, 0, 0), (471, .invokevirtual 318, 3, 95, 1, 6, 6, 0), (474, .istore 10, 2, 0, 0, 0, 0, 0), (476, .goto 215, 3, 0, 0, 0, 0, 0), (691, .aload_n 1, 1, 0, 0, 0, 0, 0), (692, .invokevirtual 362, 3, 70, 1, 3, 5, 0), (695, .iload 10, 2, 0, 0, 0, 0, 0), (697, .ireturn, 1, 0, 0, 0, 0, 0)]
set_option maxRecDepth 100000 in
theorem yk201_13 : T3OK 201 Y201_13 := t3_sub yk201 (by decide +kernel)
def Y201_14 : List YR := [(479, .aload_n 1, 1, 0, 0, 0, 0, 0), (480, .iload 4, 2, 0, 0, 0, 0, 0), (482, .invokevirtual 321, 3, 66, 2, 4, 5, 0), (485, .istore 10, 2, 0, 0, 0, 0, 0), (487, .goto 204, 3, 0, 0, 0, 0, 0), (691, .aload_n 1, 1, 0, 0, 0, 0, 0), (692, .invokevirtual 362, 3, 70, 1, 3, 5, 0), (695, .iload 10, 2, 0, 0, 0, 0, 0), (697, .ireturn, 1, 0, 0, 0, 0, 0)]
set_option maxRecDepth 100000 in
theorem yk201_14 : T3OK 201 Y201_14 := t3_sub yk201 (by decide +kernel)
def Y201_15 : List YR := [(490, .aload_n 1, 1, 0, 0, 0, 0, 0), (491, .getfield 141, 3, 5, 1, 10, 0, 0), (494, .iload 4, 2, 0, 0, 0, 0, 0), (496, .iload 5, 2, 0, 0, 0, 0, 0), (498, .invokevirtual 324, 3, 109, 3, 7, 7, 0), (501, .istore 10, 2, 0, 0, 0, 0, 0), (503, .goto 188, 3, 0, 0, 0, 0, 0), (691, .aload_n 1, 1, 0, 0, 0, 0, 0), (692, .invokevirtual 362, 3, 70, 1, 3, 5, 0), (695, .iload 10, 2, 0, 0, 0, 0, 0), (697, .ireturn, 1, 0, 0, 0, 0, 0)]
set_option maxRecDepth 100000 in
theorem yk201_15 : T3OK 201 Y201_15 := t3_sub yk201 (by decide +kernel)
def Y201_16 : List YR := [(506, .aload_n 1, 1, 0, 0, 0, 0, 0), (507, .getfield 141, 3, 5, 1, 10, 0, 0), (510, .iload 4, 2, 0, 0, 0, 0, 0), (512, .iload 5, 2, 0, 0, 0, 0, 0), (514, .iconst 1, 1, 0, 0, 0, 0, 1), (515, .if_icmp .ne 7, 3, 0, 0, 0, 0, 0), (518, .iconst 1, 1, 0, 0, 0, 0, 1), (519, .goto 4, 3, 0, 0, 0, 0, 0), (522, .iconst 0, 1, 0, 0, 0, 0, 0), (523, .iload 6, 2, 0, 0, 0, 0, 0), (525, .invokevirtual 327, 3, 110, 4, 8, 7, 0), (528, .istore 10, 2, 0, 0, 0, 0, 0), (530, .goto 161, 3, 0, 0, 0, 0, 0), (691, .aload_n 1, 1, 0, 0, 0, 0, 0), (692, .invokevirtual 362, 3, 70, 1, 3, 5, 0), (695, .iload 10, 2, 0, 0, 0, 0, 0), (697, .ireturn, 1, 0, 0, 0, 0, 0)]
set_option maxRecDepth 100000 in
theorem yk201_16 : T3OK 201 Y201_16 := t3_sub yk201 (by decide +kernel)
def Y201_17 : List YR := [(533, .aload_n 1, 1, 0, 0, 0, 0, 0), (534, .getfield 141, 3, 5, 1, 10, 0, 0), (537, .iload 4, 2, 0, 0, 0, 0, 0), (539, .iload 5, 2, 0, 0, 0, 0, 0), (541, .iload 6, 2, 0, 0, 0, 0, 0), (543, .iload 7, 2, 0, 0, 0, 0, 0), (545, .invokevirtual 331, 3, 112, 5, 8, 7, 0), (548, .istore 10, 2, 0, 0, 0, 0, 0), (550, .goto 141, 3, 0, 0, 0, 0, 0), (691, .aload_n 1, 1, 0, 0, 0, 0, 0), (692, .invokevirtual 362, 3, 70, 1, 3, 5, 0), (695, .iload 10, 2, 0, 0, 0, 0, 0), (697, .ireturn, 1, 0, 0, 0, 0, 0)]
set_option maxRecDepth 100000 in
theorem yk201_17 : T3OK 201 Y201_17 := t3_sub yk201 (by decide +kernel)
def Y201_18 : List YR := [(553, .aload_n 1, 1, 0, 0, 0, 0, 0), (554, .getfield 141, 3, 5, 1, 10, 0, 0), (557, .iload 4, 2, 0, 0, 0, 0, 0), (559, .iload 5, 2, 0, 0, 0, 0, 0), (561, .iload 6, 2, 0, 0, 0, 0, 0), (563, .invokevirtual 335, 3, 113, 4, 8, 7, 0), (566, .istore 10, 2, 0, 0, 0, 0, 0), (568, .goto 123, 3, 0, 0, 0, 0, 0), (691, .aload_n 1, 1, 0, 0, 0, 0, 0), (692, .invokevirtual 362, 3, 70, 1, 3, 5, 0), (695, .iload 10, 2, 0, 0, 0, 0, 0), (697, .ireturn, 1, 0, 0, 0, 0, 0)]
set_option maxRecDepth 100000 in
theorem yk201_18 : T3OK 201 Y201_18 := t3_sub yk201 (by decide +kernel)
def Y201_19 : List YR := [(571, .aload_n 1, 1, 0, 0, 0, 0, 0), (572, .iload 4, 2, 0, 0, 0, 0, 0), (574, .iload 5, 2, 0, 0, 0, 0, 0), (576, .iload 6, 2, 0, 0, 0, 0, 0), (578, .invokevirtual 338, 3, 67, 4, 6, 5, 0), (581, .istore 10, 2, 0, 0, 0, 0, 0), (583, .goto 108, 3, 0, 0, 0, 0, 0), (691, .aload_n 1, 1, 0, 0, 0, 0, 0), (692, .invokevirtual 362, 3, 70, 1, 3, 5, 0), (695, .iload 10, 2, 0, 0, 0, 0, 0), (697, .ireturn, 1, 0, 0, 0, 0, 0)]
set_option maxRecDepth 100000 in
theorem yk201_19 : T3OK 201 Y201_19 := t3_sub yk201 (by decide +kernel)
def Y201_20 : List YR := [(586, .aload_n 1, 1, 0, 0, 0, 0, 0), (587, .getfield 163, 3, 5, 4, 5, 0, 0), (590, .iload 4, 2, 0, 0, 0, 0, 0), (592, .iload 5, 2, 0, 0, 0, 0, 0), (594, .iload 6, 2, 0, 0, 0, 0, 0), (596, .invokevirtual 341, 3, 30, 4, 6, 2, 0), (599, .istore 10, 2, 0, 0, 0, 0, 0), (601, .goto 90, 3, 0, 0, 0, 0, 0), (691, .aload_n 1, 1, 0, 0, 0, 0, 0), (692, .invokevirtual 362, 3, 70, 1, 3, 5, 0), (695, .iload 10, 2, 0, 0, 0, 0, 0), (697, .ireturn, 1, 0, 0, 0, 0, 0)]
set_option maxRecDepth 100000 in
theorem yk201_20 : T3OK 201 Y201_20 := t3_sub yk201 (by decide +kernel)
def Y201_21 : List YR := [(604, .aload_n 1, 1, 0, 0, 0, 0, 0), (605, .getfield 163, 3, 5, 4, 5, 0, 0), (608, .iload 4, 2, 0, 0, 0, 0, 0), (610, .invokevirtual 344, 3, 31, 2, 3, 2, 0), (613, .istore 10, 2, 0, 0, 0, 0, 0), (615, .goto 76, 3, 0, 0, 0, 0, 0), (691, .aload_n 1, 1, 0, 0, 0, 0, 0), (692, .invokevirtual 362, 3, 70, 1, 3, 5, 0), (695, .iload 10, 2, 0, 0, 0, 0, 0), (697, .ireturn, 1, 0, 0, 0, 0, 0)]
set_option maxRecDepth 100000 in
theorem yk201_21 : T3OK 201 Y201_21 := t3_sub yk201 (by decide +kernel)
def Y201_22 : List YR := [(618, .aload_n 1, 1, 0, 0, 0, 0, 0), (619, .getfield 163, 3, 5, 4, 5, 0, 0), (622, .iload 4, 2, 0, 0, 0, 0, 0), (624, .iload 5, 2, 0, 0, 0, 0, 0), (626, .iload 6, 2, 0, 0, 0, 0, 0), (628, .invokevirtual 347, 3, 29, 4, 5, 2, 0), (631, .istore 10, 2, 0, 0, 0, 0, 0), (633, .goto 58, 3, 0, 0, 0, 0, 0), (691, .aload_n 1, 1, 0, 0, 0, 0, 0), (692, .invokevirtual 362, 3, 70, 1, 3, 5, 0), (695, .iload 10, 2, 0, 0, 0, 0, 0), (697, .ireturn, 1, 0, 0, 0, 0, 0)]
set_option maxRecDepth 100000 in
theorem yk201_22 : T3OK 201 Y201_22 := t3_sub yk201 (by decide +kernel)
def Y201_23 : List YR := [(636, .aload_n 1, 1, 0, 0, 0, 0, 0), (637, .getfield 163, 3, 5, 4, 5, 0, 0), (640, .iload 4, 2, 0, 0, 0, 0, 0), (642, .iload 5, 2, 0, 0, 0, 0, 0), (644, .invokevirtual 350, 3, 32, 3, 5, 2, 0), (647, .istore 10, 2, 0, 0, 0, 0, 0), (649, .goto 42, 3, 0, 0, 0, 0, 0), (691, .aload_n 1, 1, 0, 0, 0, 0, 0), (692, .invokevirtual 362, 3, 70, 1, 3, 5, 0), (695, .iload 10, 2, 0, 0, 0, 0, 0), (697, .ireturn, 1, 0, 0, 0, 0, 0)]
set_option maxRecDepth 100000 in
theorem yk201_23 : T3OK 201 Y201_23 := t3_sub yk201 (by decide +kernel)
def Y201_24 : List YR := [(652, .aload_n 1, 1, 0, 0, 0, 0, 0), (653, .iload 4, 2, 0, 0, 0, 0, 0), (655, .invokevirtual 353, 3, 69, 2, 2, 5, 0), (658, .istore 10, 2, 0, 0, 0, 0, 0), (660, .goto 31, 3, 0, 0, 0, 0, 0), (691, .aload_n 1, 1, 0, 0, 0, 0, 0), (692, .invokevirtual 362, 3, 70, 1, 3, 5, 0), (695, .iload 10, 2, 0, 0, 0, 0, 0), (697, .ireturn, 1, 0, 0, 0, 0, 0)]
set_option maxRecDepth 100000 in
theorem yk201_24 : T3OK 201 Y201_24 := t3_sub yk201 (by decide +kernel)
def Y201_25 : List YR := [(663, .aload_n 1, 1, 0, 0, 0, 0, 0), (664, .getfield 163, 3, 5, 4, 5, 0, 0), (667, .iload 4, 2, 0, 0, 0, 0, 0), (669, .iload 5, 2, 0, 0, 0, 0, 0), (671, .invokevirtual 356, 3, 35, 3, 9, 2, 0), (674, .istore 10, 2, 0, 0, 0, 0, 0), (676, .goto 15, 3, 0, 0, 0, 0, 0), (691, .aload_n 1, 1, 0, 0, 0, 0, 0), (692, .invokevirtual 362, 3, 70, 1, 3, 5, 0), (695, .iload 10, 2, 0, 0, 0, 0, 0), (697, .ireturn, 1, 0, 0, 0, 0, 0)]
set_option maxRecDepth 100000 in
theorem yk201_25 : T3OK 201 Y201_25 := t3_sub yk201 (by decide +kernel)
def Y201_26 : List YR := [(679, .aload_n 1, 1, 0, 0, 0, 0, 0), (680, .getfield 163, 3, 5, 4, 5, 0, 0), (683, .invokevirtual 359, 3, 37, 1, 6, 2, 0), (686, .istore 10, 2, 0, 0, 0, 0, 0), (688, .goto 3, 3, 0, 0, 0, 0, 0), (691, .aload_n 1, 1, 0, 0, 0, 0, 0), (692, .invokevirtual 362, 3, 70, 1, 3, 5, 0), (695, .iload 10, 2, 0, 0, 0, 0, 0), (697, .ireturn, 1, 0, 0, 0, 0, 0)]
set_option maxRecDepth 100000 in
theorem yk201_26 : T3OK 201 Y201_26 := t3_sub yk201 (by decide +kernel)
theorem vE_0 (p : PM) (a b c d x f : Int32) : vE p a b c d x f 0 = v5_tellLimit p a b c d x f := by simp only [vE]
theorem vE_1 (p : PM) (a b c d x f : Int32) : vE p a b c d x f 1 = v5_tellMarket p a b c := by simp only [vE]
theorem vE_2 (p : PM) (a b c d x f : Int32) : vE p a b c d x f 2 = v5_tellIceberg p a b c d x := by simp only [vE]
theorem vE_3 (p : PM) (a b c d x f : Int32) : vE p a b c d x f 3 = v5_tellPeg p a b c d x := by simp only [vE]
theorem vE_4 (p : PM) (a b c d x f : Int32) : vE p a b c d x f 4 = v5_tellStop p a b c d x := by simp only [vE]
theorem vE_5 (p : PM) (a b c d x f : Int32) : vE p a b c d x f 5 = v5_tellQuote p a b c d x := by simp only [vE]
theorem vE_6 (p : PM) (a b c d x f : Int32) : vE p a b c d x f 6 = v6_withdraw p a := by simp only [vE]
theorem vE_7 (p : PM) (a b c d x f : Int32) : vE p a b c d x f 7 = v1_changeRule p (v6_bookAt p a) b c d := by simp only [vE]
theorem vE_8 (p : PM) (a b c d x f : Int32) : vE p a b c d x f 8 = v1_changeBand p (v6_bookAt p a) b := by simp only [vE]
theorem vE_9 (p : PM) (a b c d x f : Int32) : vE p a b c d x f 9 = v0_changeProtection p (v7_accountAt p a) b := by simp only [vE]
theorem vE_10 (p : PM) (a b c d x f : Int32) : vE p a b c d x f 10 = v0_changeLimit p (v7_accountAt p a) b c := by simp only [vE]
theorem vE_11 (p : PM) (a b c d x f : Int32) : vE p a b c d x f 11 = v6_beginAuction p (v6_bookAt p a) (b + d) c := by simp only [vE]
theorem vE_12 (p : PM) (a b c d x f : Int32) : vE p a b c d x f 12 = v5_letPass p a := by simp only [vE]
theorem vE_13 (p : PM) (a b c d x f : Int32) : vE p a b c d x f 13 = v6_turnDay p := by simp only [vE]
theorem vE_14 (p : PM) (a b c d x f : Int32) : vE p a b c d x f 14 = v5_undo p a := by simp only [vE]
theorem vE_15 (p : PM) (a b c d x f : Int32) : vE p a b c d x f 15 = v7_reprice p a b := by simp only [vE]
theorem vE_16 (p : PM) (a b c d x f : Int32) : vE p a b c d x f 16 = v7_replaceSide p a (if b = cn 1 then cn 1 else cn 0) c := by simp only [vE]
theorem vE_17 (p : PM) (a b c d x f : Int32) : vE p a b c d x f 17 = v7_allotLots p a b c d := by simp only [vE]
theorem vE_18 (p : PM) (a b c d x f : Int32) : vE p a b c d x f 18 = v7_exerciseLots p a b c := by simp only [vE]
theorem vE_19 (p : PM) (a b c d x f : Int32) : vE p a b c d x f 19 = v5_convertContract p a b c := by simp only [vE]
theorem vE_20 (p : PM) (a b c d x f : Int32) : vE p a b c d x f 20 = v2_changeMove p a b c := by simp only [vE]
theorem vE_21 (p : PM) (a b c d x f : Int32) : vE p a b c d x f 21 = v2_changeHaircut p a := by simp only [vE]
theorem vE_22 (p : PM) (a b c d x f : Int32) : vE p a b c d x f 22 = v2_bring p a b c := by simp only [vE]
theorem vE_23 (p : PM) (a b c d x f : Int32) : vE p a b c d x f 23 = v2_changeFund p a b := by simp only [vE]
theorem vE_24 (p : PM) (a b c d x f : Int32) : vE p a b c d x f 24 = v5_failMember p a := by simp only [vE]
theorem vE_25 (p : PM) (a b c d x f : Int32) : vE p a b c d x f 25 = v2_takeBid p a b := by simp only [vE]
theorem vE_26 (p : PM) (a b c d x f : Int32) : vE p a b c d x f 26 = v2_closePortfolio p := by simp only [vE]
theorem gE_0 (p : PM) (a b c d x f : Int32) : gE p a b c d x f 0 = (g5_tellLimit p a b c d x f) := by simp only [gE]
theorem gE_1 (p : PM) (a b c d x f : Int32) : gE p a b c d x f 1 = (g5_tellMarket p a b c) := by simp only [gE]
theorem gE_2 (p : PM) (a b c d x f : Int32) : gE p a b c d x f 2 = (g5_tellIceberg p a b c d x) := by simp only [gE]
theorem gE_3 (p : PM) (a b c d x f : Int32) : gE p a b c d x f 3 = (g5_tellPeg p a b c d x) := by simp only [gE]
theorem gE_4 (p : PM) (a b c d x f : Int32) : gE p a b c d x f 4 = (g5_tellStop p a b c d x) := by simp only [gE]
theorem gE_5 (p : PM) (a b c d x f : Int32) : gE p a b c d x f 5 = (g5_tellQuote p a b c d x) := by simp only [gE]
theorem gE_6 (p : PM) (a b c d x f : Int32) : gE p a b c d x f 6 = (g6_withdraw p a) := by simp only [gE]
theorem gE_7 (p : PM) (a b c d x f : Int32) : gE p a b c d x f 7 = (g6_bookAt p a ∧ g1_changeRule p (v6_bookAt p a) b c d) := by simp only [gE]
theorem gE_8 (p : PM) (a b c d x f : Int32) : gE p a b c d x f 8 = (g6_bookAt p a ∧ g1_changeBand p (v6_bookAt p a) b) := by simp only [gE]
theorem gE_9 (p : PM) (a b c d x f : Int32) : gE p a b c d x f 9 = (g7_accountAt p a ∧ g0_changeProtection p (v7_accountAt p a) b) := by simp only [gE]
theorem gE_10 (p : PM) (a b c d x f : Int32) : gE p a b c d x f 10 = (g7_accountAt p a ∧ g0_changeLimit p (v7_accountAt p a) b c) := by simp only [gE]
theorem gE_11 (p : PM) (a b c d x f : Int32) : gE p a b c d x f 11 = (g6_bookAt p a ∧ g6_beginAuction p (v6_bookAt p a) (b + d) c) := by simp only [gE]
theorem gE_12 (p : PM) (a b c d x f : Int32) : gE p a b c d x f 12 = (g5_letPass p a) := by simp only [gE]
theorem gE_13 (p : PM) (a b c d x f : Int32) : gE p a b c d x f 13 = (g6_turnDay p) := by simp only [gE]
theorem gE_14 (p : PM) (a b c d x f : Int32) : gE p a b c d x f 14 = (g5_undo p a) := by simp only [gE]
theorem gE_15 (p : PM) (a b c d x f : Int32) : gE p a b c d x f 15 = (g7_reprice p a b) := by simp only [gE]
theorem gE_16 (p : PM) (a b c d x f : Int32) : gE p a b c d x f 16 = (g7_replaceSide p a (if b = cn 1 then cn 1 else cn 0) c) := by simp only [gE]
theorem gE_17 (p : PM) (a b c d x f : Int32) : gE p a b c d x f 17 = (g7_allotLots p a b c d) := by simp only [gE]
theorem gE_18 (p : PM) (a b c d x f : Int32) : gE p a b c d x f 18 = (g7_exerciseLots p a b c) := by simp only [gE]
theorem gE_19 (p : PM) (a b c d x f : Int32) : gE p a b c d x f 19 = (g5_convertContract p a b c) := by simp only [gE]
theorem gE_20 (p : PM) (a b c d x f : Int32) : gE p a b c d x f 20 = (g2_changeMove p a b c) := by simp only [gE]
theorem gE_21 (p : PM) (a b c d x f : Int32) : gE p a b c d x f 21 = (g2_changeHaircut p a) := by simp only [gE]
theorem gE_22 (p : PM) (a b c d x f : Int32) : gE p a b c d x f 22 = (g2_bring p a b c) := by simp only [gE]
theorem gE_23 (p : PM) (a b c d x f : Int32) : gE p a b c d x f 23 = (g2_changeFund p a b) := by simp only [gE]
theorem gE_24 (p : PM) (a b c d x f : Int32) : gE p a b c d x f 24 = (g5_failMember p a) := by simp only [gE]
theorem gE_25 (p : PM) (a b c d x f : Int32) : gE p a b c d x f 25 = (g2_takeBid p a b) := by simp only [gE]
theorem gE_26 (p : PM) (a b c d x f : Int32) : gE p a b c d x f 26 = (g2_closePortfolio p) := by simp only [gE]
