/-! the face's questions -/
def Y173 : List YR := [(0, .aload_n 0, 1, 0, 0, 0, 0, 0), (1, .getfield 187, 3, 11, 3, 0, 0, 0), (4, .ireturn, 1, 0, 0, 0, 0, 0)]
set_option maxRecDepth 100000 in
theorem yr173 : Y173.all (rok3 173) = true := by decide +kernel
set_option maxRecDepth 100000 in
theorem yk173 : T3OK 173 Y173 := t3_ok (K := K173) rfl (fun h => d173 h) yr173
set_option maxRecDepth 100000 in
theorem nh173 : lk hT 173 = none := by decide +kernel
def Y176 : List YR := [(0, .iload_n 1, 1, 0, 0, 0, 0, 0), (1, .invokestatic 27, 3, 195, 1, 1, 11, 0), (4, .invokestatic 30, 3, 190, 1, 1, 11, 0), (7, .aload_n 0, 1, 0, 0, 0, 0, 0), (8, .getfield 10, 3, 11, 0, 8, 0, 0), (11, .getfield 34, 3, 5, 0, 9, 0, 0), (14, .aload_n 0, 1, 0, 0, 0, 0, 0), (15, .getfield 10, 3, 11, 0, 8, 0, 0), (18, .getfield 34, 3, 5, 0, 9, 0, 0), (21, .iload_n 1, 1, 0, 0, 0, 0, 0), (22, .invokevirtual 38, 3, 73, 2, 2, 6, 0), (25, .iload_n 2, 1, 0, 0, 0, 0, 0), (26, .iconst 1, 1, 0, 0, 0, 0, 1), (27, .invokevirtual 199, 3, 80, 4, 9, 6, 0), (30, .ireturn, 1, 0, 0, 0, 0, 0)]
set_option maxRecDepth 100000 in
theorem yr176 : Y176.all (rok3 176) = true := by decide +kernel
set_option maxRecDepth 100000 in
theorem yk176 : T3OK 176 Y176 := t3_ok (K := K176) rfl (fun h => d176 h) yr176
set_option maxRecDepth 100000 in
theorem nh176 : lk hT 176 = none := by decide +kernel
def Y177 : List YR := [(0, .iload_n 1, 1, 0, 0, 0, 0, 0), (1, .invokestatic 27, 3, 195, 1, 1, 11, 0), (4, .invokestatic 30, 3, 190, 1, 1, 11, 0), (7, .aload_n 0, 1, 0, 0, 0, 0, 0), (8, .getfield 10, 3, 11, 0, 8, 0, 0), (11, .getfield 34, 3, 5, 0, 9, 0, 0), (14, .aload_n 0, 1, 0, 0, 0, 0, 0), (15, .getfield 10, 3, 11, 0, 8, 0, 0), (18, .getfield 34, 3, 5, 0, 9, 0, 0), (21, .iload_n 1, 1, 0, 0, 0, 0, 0), (22, .invokevirtual 38, 3, 73, 2, 2, 6, 0), (25, .iload_n 2, 1, 0, 0, 0, 0, 0), (26, .iload_n 3, 1, 0, 0, 0, 0, 0), (27, .invokevirtual 203, 3, 82, 4, 9, 6, 0), (30, .ireturn, 1, 0, 0, 0, 0, 0)]
set_option maxRecDepth 100000 in
theorem yr177 : Y177.all (rok3 177) = true := by decide +kernel
set_option maxRecDepth 100000 in
theorem yk177 : T3OK 177 Y177 := t3_ok (K := K177) rfl (fun h => d177 h) yr177
set_option maxRecDepth 100000 in
theorem nh177 : lk hT 177 = none := by decide +kernel
def Y178 : List YR := [(0, .aload_n 0, 1, 0, 0, 0, 0, 0), (1, .getfield 10, 3, 11, 0, 8, 0, 0), (4, .getfield 34, 3, 5, 0, 9, 0, 0), (7, .iload_n 1, 1, 0, 0, 0, 0, 0), (8, .invokevirtual 91, 3, 74, 2, 6, 6, 0), (11, .astore_n 2, 1, 0, 0, 0, 0, 0), (12, .aload_n 2, 1, 0, 0, 0, 0, 0), (13, .ifnonnull 7, 3, 0, 0, 0, 0, 0), (16, .iconst 0, 1, 0, 0, 0, 0, 0), (17, .goto 7, 3, 0, 0, 0, 0, 0), (20, .aload_n 2, 1, 0, 0, 0, 0, 0), (21, .getfield 207, 3, 10, 2, 0, 0, 0), (24, .ireturn, 1, 0, 0, 0, 0, 0)]
set_option maxRecDepth 100000 in
theorem yr178 : Y178.all (rok3 178) = true := by decide +kernel
set_option maxRecDepth 100000 in
theorem yk178 : T3OK 178 Y178 := t3_ok (K := K178) rfl (fun h => d178 h) yr178
set_option maxRecDepth 100000 in
theorem nh178 : lk hT 178 = none := by decide +kernel
def Y179 : List YR := [(0, .aload_n 0, 1, 0, 0, 0, 0, 0), (1, .getfield 10, 3, 11, 0, 8, 0, 0), (4, .getfield 34, 3, 5, 0, 9, 0, 0), (7, .iload_n 1, 1, 0, 0, 0, 0, 0), (8, .invokevirtual 91, 3, 74, 2, 6, 6, 0), (11, .astore_n 2, 1, 0, 0, 0, 0, 0), (12, .aload_n 2, 1, 0, 0, 0, 0, 0), (13, .ifnonnull 13, 3, 0, 0, 0, 0, 0), (16, .new 95, 3, 0, 0, 0, 0, 0), (19, .dup, 1, 0, 0, 0, 0, 0), (20, .ldc 97, 2, 1, 0, 0, 0, 0), (22, .invokespecial 99, 3, 0, 0, 0, 0, 9), (25, .athrow, 1, 0, 0, 0, 0, 0), (26, .aload_n 2, 1, 0, 0, 0, 0, 0), (27, .getfield 210, 3, 10, 9, 0, 0, 0), (30, .ireturn, 1, 0, 0, 0, 0, 0)]
set_option maxRecDepth 100000 in
theorem yr179 : Y179.all (rok3 179) = true := by decide +kernel
set_option maxRecDepth 100000 in
theorem yk179 : T3OK 179 Y179 := t3_ok (K := K179) rfl (fun h => d179 h) yr179
set_option maxRecDepth 100000 in
theorem nh179 : lk hT 179 = none := by decide +kernel
def Y180 : List YR := [(0, .aload_n 0, 1, 0, 0, 0, 0, 0), (1, .getfield 10, 3, 11, 0, 8, 0, 0), (4, .getfield 34, 3, 5, 0, 9, 0, 0), (7, .iload_n 1, 1, 0, 0, 0, 0, 0), (8, .invokevirtual 91, 3, 74, 2, 6, 6, 0), (11, .astore_n 2, 1, 0, 0, 0, 0, 0), (12, .aload_n 2, 1, 0, 0, 0, 0, 0), (13, .ifnonnull 13, 3, 0, 0, 0, 0, 0), (16, .new 95, 3, 0, 0, 0, 0, 0), (19, .dup, 1, 0, 0, 0, 0, 0), (20, .ldc 97, 2, 1, 0, 0, 0, 0), (22, .invokespecial 99, 3, 0, 0, 0, 0, 9), (25, .athrow, 1, 0, 0, 0, 0, 0), (26, .aload_n 2, 1, 0, 0, 0, 0, 0), (27, .getfield 213, 3, 10, 7, 0, 0, 0), (30, .ireturn, 1, 0, 0, 0, 0, 0)]
set_option maxRecDepth 100000 in
theorem yr180 : Y180.all (rok3 180) = true := by decide +kernel
set_option maxRecDepth 100000 in
theorem yk180 : T3OK 180 Y180 := t3_ok (K := K180) rfl (fun h => d180 h) yr180
set_option maxRecDepth 100000 in
theorem nh180 : lk hT 180 = none := by decide +kernel
def Y181 : List YR := [(0, .iload_n 1, 1, 0, 0, 0, 0, 0), (1, .invokestatic 27, 3, 195, 1, 1, 11, 0), (4, .invokestatic 30, 3, 190, 1, 1, 11, 0), (7, .aload_n 0, 1, 0, 0, 0, 0, 0), (8, .getfield 10, 3, 11, 0, 8, 0, 0), (11, .getfield 34, 3, 5, 0, 9, 0, 0), (14, .iload_n 1, 1, 0, 0, 0, 0, 0), (15, .invokevirtual 38, 3, 73, 2, 2, 6, 0), (18, .astore_n 3, 1, 0, 0, 0, 0, 0), (19, .iload_n 2, 1, 0, 0, 0, 0, 0), (20, .ifCond .eq 10, 3, 0, 0, 0, 0, 0), (23, .aload_n 3, 1, 0, 0, 0, 0, 0), (24, .getfield 216, 3, 1, 4, 0, 0, 0), (27, .goto 7, 3, 0, 0, 0, 0, 0), (30, .aload_n 3, 1, 0, 0, 0, 0, 0), (31, .getfield 219, 3, 1, 3, 0, 0, 0), (34, .ireturn, 1, 0, 0, 0, 0, 0)]
set_option maxRecDepth 100000 in
theorem yr181 : Y181.all (rok3 181) = true := by decide +kernel
set_option maxRecDepth 100000 in
theorem yk181 : T3OK 181 Y181 := t3_ok (K := K181) rfl (fun h => d181 h) yr181
set_option maxRecDepth 100000 in
theorem nh181 : lk hT 181 = none := by decide +kernel
def Y182 : List YR := [(0, .iload_n 1, 1, 0, 0, 0, 0, 0), (1, .invokestatic 27, 3, 195, 1, 1, 11, 0), (4, .invokestatic 30, 3, 190, 1, 1, 11, 0), (7, .aload_n 0, 1, 0, 0, 0, 0, 0), (8, .getfield 10, 3, 11, 0, 8, 0, 0), (11, .getfield 34, 3, 5, 0, 9, 0, 0), (14, .iload_n 1, 1, 0, 0, 0, 0, 0), (15, .invokevirtual 38, 3, 73, 2, 2, 6, 0), (18, .astore_n 2, 1, 0, 0, 0, 0, 0), (19, .aload_n 2, 1, 0, 0, 0, 0, 0), (20, .getfield 66, 3, 1, 5, 1, 0, 0), (23, .ifCond .eq 10, 3, 0, 0, 0, 0, 0), (26, .aload_n 2, 1, 0, 0, 0, 0, 0), (27, .getfield 222, 3, 1, 7, 0, 0, 0), (30, .goto 5, 3, 0, 0, 0, 0, 0), (33, .ldc 58, 2, 0, 0, 0, 0, (-100000)), (35, .ireturn, 1, 0, 0, 0, 0, 0)]
set_option maxRecDepth 100000 in
theorem yr182 : Y182.all (rok3 182) = true := by decide +kernel
set_option maxRecDepth 100000 in
theorem yk182 : T3OK 182 Y182 := t3_ok (K := K182) rfl (fun h => d182 h) yr182
set_option maxRecDepth 100000 in
theorem nh182 : lk hT 182 = none := by decide +kernel
def Y183 : List YR := [(0, .iload_n 1, 1, 0, 0, 0, 0, 0), (1, .invokestatic 27, 3, 195, 1, 1, 11, 0), (4, .invokestatic 30, 3, 190, 1, 1, 11, 0), (7, .aload_n 0, 1, 0, 0, 0, 0, 0), (8, .getfield 10, 3, 11, 0, 8, 0, 0), (11, .getfield 34, 3, 5, 0, 9, 0, 0), (14, .iload_n 1, 1, 0, 0, 0, 0, 0), (15, .invokevirtual 38, 3, 73, 2, 2, 6, 0), (18, .astore_n 3, 1, 0, 0, 0, 0, 0), (19, .aload_n 3, 1, 0, 0, 0, 0, 0), (20, .getfield 66, 3, 1, 5, 1, 0, 0), (23, .ifCond .eq 17, 3, 0, 0, 0, 0, 0), (26, .aload_n 0, 1, 0, 0, 0, 0, 0), (27, .getfield 10, 3, 11, 0, 8, 0, 0), (30, .getfield 225, 3, 5, 2, 11, 0, 0), (33, .aload_n 3, 1, 0, 0, 0, 0, 0), (34, .invokevirtual 229, 3, 133, 2, 13, 8, 0), (37, .goto 5, 3, 0, 0, 0, 0, 0), (40, .ldc 58, 2, 0, 0, 0, 0, (-100000)), (42, .istore 4, 2, 0, 0, 0, 0, 0), (44, .iload_n 2, 1, 0, 0, 0, 0, 0), (45, .ifCond .eq 28, 3, 0, 0, 0, 0, 0), (48, .iload 4, 2, 0, 0, 0, 0, 0), (50, .ldc 58, 2, 0, 0, 0, 0, (-100000)), (52, .if_icmp .ne 7, 3, 0, 0, 0, 0, 0), (55, .iconst 0, 1, 0, 0, 0, 0, 0), (56, .goto 16, 3, 0, 0, 0, 0, 0), (59, .aload_n 0, 1, 0, 0, 0, 0, 0), (60, .getfield 10, 3, 11, 0, 8, 0, 0), (63, .getfield 225, 3, 5, 2, 11, 0, 0), (66, .aload_n 3, 1, 0, 0, 0, 0, 0), (67, .iload 4, 2, 0, 0, 0, 0, 0), (69, .invokevirtual 235, 3, 135, 3, 3, 8, 0), (72, .ireturn, 1, 0, 0, 0, 0, 0), (73, .iload 4, 2, 0, 0, 0, 0, 0), (75, .ireturn, 1, 0, 0, 0, 0, 0)]
set_option maxRecDepth 100000 in
theorem yr183 : Y183.all (rok3 183) = true := by decide +kernel
set_option maxRecDepth 100000 in
theorem yk183 : T3OK 183 Y183 := t3_ok (K := K183) rfl (fun h => d183 h) yr183
set_option maxRecDepth 100000 in
theorem nh183 : lk hT 183 = none := by decide +kernel
def Y184 : List YR := [(0, .aload_n 0, 1, 0, 0, 0, 0, 0), (1, .getfield 10, 3, 11, 0, 8, 0, 0), (4, .getfield 141, 3, 5, 1, 10, 0, 0), (7, .getfield 239, 3, 7, 2, 0, 0, 0), (10, .ireturn, 1, 0, 0, 0, 0, 0)]
set_option maxRecDepth 100000 in
theorem yr184 : Y184.all (rok3 184) = true := by decide +kernel
set_option maxRecDepth 100000 in
theorem yk184 : T3OK 184 Y184 := t3_ok (K := K184) rfl (fun h => d184 h) yr184
set_option maxRecDepth 100000 in
theorem nh184 : lk hT 184 = none := by decide +kernel
def Y185 : List YR := [(0, .aload_n 0, 1, 0, 0, 0, 0, 0), (1, .iload_n 1, 1, 0, 0, 0, 0, 0), (2, .invokevirtual 119, 3, 199, 2, 3, 11, 0), (5, .astore_n 3, 1, 0, 0, 0, 0, 0), (6, .iload_n 2, 1, 0, 0, 0, 0, 0), (7, .iconst 0, 1, 0, 0, 0, 0, 0), (8, .iconst 5, 1, 0, 0, 0, 0, 5), (9, .invokestatic 59, 3, 193, 3, 3, 11, 0), (12, .invokestatic 63, 3, 191, 1, 1, 11, 0), (15, .aload_n 3, 1, 0, 0, 0, 0, 0), (16, .iload_n 2, 1, 0, 0, 0, 0, 0), (17, .invokevirtual 242, 3, 54, 2, 2, 4, 0), (20, .ireturn, 1, 0, 0, 0, 0, 0)]
set_option maxRecDepth 100000 in
theorem yr185 : Y185.all (rok3 185) = true := by decide +kernel
set_option maxRecDepth 100000 in
theorem yk185 : T3OK 185 Y185 := t3_ok (K := K185) rfl (fun h => d185 h) yr185
set_option maxRecDepth 100000 in
theorem nh185 : lk hT 185 = none := by decide +kernel
def Y186 : List YR := [(0, .iload_n 1, 1, 0, 0, 0, 0, 0), (1, .iconst 0, 1, 0, 0, 0, 0, 0), (2, .bipush 8, 2, 0, 0, 0, 0, 8), (4, .invokestatic 59, 3, 193, 3, 3, 11, 0), (7, .ifCond .eq 14, 3, 0, 0, 0, 0, 0), (10, .iload_n 2, 1, 0, 0, 0, 0, 0), (11, .invokestatic 84, 3, 196, 1, 1, 11, 0), (14, .ifCond .eq 7, 3, 0, 0, 0, 0, 0), (17, .iconst 1, 1, 0, 0, 0, 0, 1), (18, .goto 4, 3, 0, 0, 0, 0, 0), (21, .iconst 0, 1, 0, 0, 0, 0, 0), (22, .invokestatic 30, 3, 190, 1, 1, 11, 0), (25, .aload_n 0, 1, 0, 0, 0, 0, 0), (26, .getfield 10, 3, 11, 0, 8, 0, 0), (29, .getfield 141, 3, 5, 1, 10, 0, 0), (32, .iload_n 1, 1, 0, 0, 0, 0, 0), (33, .invokevirtual 150, 3, 104, 2, 2, 7, 0), (36, .iload_n 2, 1, 0, 0, 0, 0, 0), (37, .invokevirtual 154, 3, 2, 2, 2, 0, 0), (40, .ireturn, 1, 0, 0, 0, 0, 0)]
set_option maxRecDepth 100000 in
theorem yr186 : Y186.all (rok3 186) = true := by decide +kernel
set_option maxRecDepth 100000 in
theorem yk186 : T3OK 186 Y186 := t3_ok (K := K186) rfl (fun h => d186 h) yr186
set_option maxRecDepth 100000 in
theorem nh186 : lk hT 186 = none := by decide +kernel
def Y187 : List YR := [(0, .iload_n 1, 1, 0, 0, 0, 0, 0), (1, .iconst 0, 1, 0, 0, 0, 0, 0), (2, .bipush 8, 2, 0, 0, 0, 0, 8), (4, .invokestatic 59, 3, 193, 3, 3, 11, 0), (7, .invokestatic 30, 3, 190, 1, 1, 11, 0), (10, .aload_n 0, 1, 0, 0, 0, 0, 0), (11, .getfield 10, 3, 11, 0, 8, 0, 0), (14, .getfield 141, 3, 5, 1, 10, 0, 0), (17, .iload_n 1, 1, 0, 0, 0, 0, 0), (18, .invokevirtual 150, 3, 104, 2, 2, 7, 0), (21, .getfield 245, 3, 0, 4, 2, 0, 0), (24, .lreturn, 1, 0, 0, 0, 0, 0)]
set_option maxRecDepth 100000 in
theorem yr187 : Y187.all (rok3 187) = true := by decide +kernel
set_option maxRecDepth 100000 in
theorem yk187 : T3OK 187 Y187 := t3_ok (K := K187) rfl (fun h => d187 h) yr187
set_option maxRecDepth 100000 in
theorem nh187 : lk hT 187 = none := by decide +kernel
set_option maxRecDepth 100000 in
set_option maxRecDepth 100000 in
set_option maxRecDepth 100000 in
def Y188 : List YR := [(0, .iload_n 1, 1, 0, 0, 0, 0, 0), (1, .invokestatic 160, 3, 197, 1, 1, 11, 0), (4, .invokestatic 30, 3, 190, 1, 1, 11, 0), (7, .iload_n 2, 1, 0, 0, 0, 0, 0), (8, .iconst 0, 1, 0, 0, 0, 0, 0), (9, .bipush 6, 2, 0, 0, 0, 0, 6), (11, .invokestatic 59, 3, 193, 3, 3, 11, 0), (14, .invokestatic 63, 3, 191, 1, 1, 11, 0), (17, .aload_n 0, 1, 0, 0, 0, 0, 0), (18, .getfield 10, 3, 11, 0, 8, 0, 0), (21, .getfield 163, 3, 5, 4, 5, 0, 0), (24, .iload_n 1, 1, 0, 0, 0, 0, 0), (25, .iload_n 2, 1, 0, 0, 0, 0, 0), (26, .invokevirtual 252, 3, 21, 3, 4, 2, 0), (29, .lreturn, 1, 0, 0, 0, 0, 0)]
set_option maxRecDepth 100000 in
theorem yr188 : Y188.all (rok3 188) = true := by decide +kernel
set_option maxRecDepth 100000 in
theorem yk188 : T3OK 188 Y188 := t3_ok (K := K188) rfl (fun h => d188 h) yr188
set_option maxRecDepth 100000 in
theorem nh188 : lk hT 188 = none := by decide +kernel
def Y189 : List YR := [(0, .aload_n 0, 1, 0, 0, 0, 0, 0), (1, .getfield 10, 3, 11, 0, 8, 0, 0), (4, .getfield 163, 3, 5, 4, 5, 0, 0), (7, .getfield 255, 3, 2, 5, 0, 0, 0), (10, .ireturn, 1, 0, 0, 0, 0, 0)]
set_option maxRecDepth 100000 in
theorem yr189 : Y189.all (rok3 189) = true := by decide +kernel
set_option maxRecDepth 100000 in
theorem yk189 : T3OK 189 Y189 := t3_ok (K := K189) rfl (fun h => d189 h) yr189
set_option maxRecDepth 100000 in
theorem nh189 : lk hT 189 = none := by decide +kernel
section FaceQ
variable {P0 P1 Q Q2 : PM} {cl : Nat → Int32} {kp fo : Int32} {ou : Int64} {L e N T D t : Nat} {xs lg : Nat → Int32} {a b c d x f V W : Int32}
theorem fq_182 (I : IV lg P0 Q2 N T D t) (hg : Gr 0 P0) : X 173 0 [rR 3 11 1] [] (mm P0 P1 Q cl (cn t) kp fo ou L xs e) = some (.inl (some (vI (cn t))), (mm P0 P1 Q cl (cn t) kp fo ou L xs e)) := by
  exact y_ret yk173 3 rfl rfl
theorem fq_185 (I : IV lg P0 Q2 N T D t) (hg : Gr 0 P0) (HO : kBk a = 0 → g6_bookAt P0 a ∧ g6_bestPrice P0 (v6_bookAt P0 a) b (cn 1)) (hV : v6_bestPrice P0 (v6_bookAt P0 a) b (cn 1) = V) : X 176 0 [rR 3 11 1, vI a, vI b] [] (mm P0 P1 Q cl (cn t) kp fo ou L xs e) = evR (kBk a) [0] (some (.inl (some (vI V)), (mm P0 P1 Q cl (cn t) kp fo ou L xs e))) (mm P0 P1 Q cl (cn t) kp fo ou L xs e) := by
  refine y_cal yk176 2 4 rfl x_isBook ?_
  by_cases h1 : isW a (cn 0) (cn 5) = 0
  · have hk : kBk a = 1 := by unfold kBk; (try simp only [if_pos h1]); (try (repeat' (first | rfl | split)))
    exact y_thr yk176 1 7 rfl (x_np0 h1) (by decide +kernel) nh176 (by rw [hk]; rfl)
  · refine y_ca0 yk176 1 7 rfl (x_np1 h1) ?_
    refine y_gfr yk176 1 8 11 5 1 0 rfl rfl rfl rfl rfl rfl (by decide) ?_
    refine y_gfr yk176 0 11 14 6 1 0 rfl rfl rfl rfl rfl (hg.1 (5, 0, 1) (by decide)) (by decide) ?_
    refine y_gfr yk176 1 15 18 5 1 0 rfl rfl rfl rfl rfl rfl (by decide) ?_
    refine y_gfr yk176 0 18 21 6 1 0 rfl rfl rfl rfl rfl (hg.1 (5, 0, 1) (by decide)) (by decide) ?_
    have e1 := x_R (M := (mm P0 P1 Q cl (cn t) kp fo ou L xs e)) okx0 (fb5 P0 h1).2 (t6_bookAt P0 hg a (fb5 P0 h1).1)
    refine y_cal yk176 2 25 rfl e1 ?_
    have hk0 : kBk a = 0 := by unfold kBk; (try simp only [if_neg h1]); (try (repeat' (first | rfl | split)))
    have HG := HO hk0
    have e1 := x_I' (M := (mm P0 P1 Q cl (cn t) kp fo ou L xs e)) okx0 (t6_bestPrice P0 hg (v6_bookAt P0 a) b (cn 1) HG.2) (by show _ :: vR _ _ _ :: _ = _; rw [vR_pos (fb5 P0 h1).2]; try rfl)
    rw [hV] at e1
    refine y_cal yk176 3 30 rfl e1 ?_
    have hk : kBk a = 0 := by unfold kBk; (try simp only [if_neg h1]); (try (repeat' (first | rfl | split)))
    exact y_ret yk176 1 rfl (by rw [hk]; rfl)
theorem fq_186 (I : IV lg P0 Q2 N T D t) (hg : Gr 0 P0) (HO : kBk a = 0 → g6_bookAt P0 a ∧ g6_sumShown P0 (v6_bookAt P0 a) b c) (hV : v6_sumShown P0 (v6_bookAt P0 a) b c = V) : X 177 0 [rR 3 11 1, vI a, vI b, vI c] [] (mm P0 P1 Q cl (cn t) kp fo ou L xs e) = evR (kBk a) [0] (some (.inl (some (vI V)), (mm P0 P1 Q cl (cn t) kp fo ou L xs e))) (mm P0 P1 Q cl (cn t) kp fo ou L xs e) := by
  refine y_cal yk177 2 4 rfl x_isBook ?_
  by_cases h1 : isW a (cn 0) (cn 5) = 0
  · have hk : kBk a = 1 := by unfold kBk; (try simp only [if_pos h1]); (try (repeat' (first | rfl | split)))
    exact y_thr yk177 1 7 rfl (x_np0 h1) (by decide +kernel) nh177 (by rw [hk]; rfl)
  · refine y_ca0 yk177 1 7 rfl (x_np1 h1) ?_
    refine y_gfr yk177 1 8 11 5 1 0 rfl rfl rfl rfl rfl rfl (by decide) ?_
    refine y_gfr yk177 0 11 14 6 1 0 rfl rfl rfl rfl rfl (hg.1 (5, 0, 1) (by decide)) (by decide) ?_
    refine y_gfr yk177 1 15 18 5 1 0 rfl rfl rfl rfl rfl rfl (by decide) ?_
    refine y_gfr yk177 0 18 21 6 1 0 rfl rfl rfl rfl rfl (hg.1 (5, 0, 1) (by decide)) (by decide) ?_
    have e1 := x_R (M := (mm P0 P1 Q cl (cn t) kp fo ou L xs e)) okx0 (fb5 P0 h1).2 (t6_bookAt P0 hg a (fb5 P0 h1).1)
    refine y_cal yk177 2 25 rfl e1 ?_
    have hk0 : kBk a = 0 := by unfold kBk; (try simp only [if_neg h1]); (try (repeat' (first | rfl | split)))
    have HG := HO hk0
    have e1 := x_I' (M := (mm P0 P1 Q cl (cn t) kp fo ou L xs e)) okx0 (t6_sumShown P0 hg (v6_bookAt P0 a) b c HG.2) (by show _ :: vR _ _ _ :: _ = _; rw [vR_pos (fb5 P0 h1).2]; try rfl)
    rw [hV] at e1
    refine y_cal yk177 3 30 rfl e1 ?_
    have hk : kBk a = 0 := by unfold kBk; (try simp only [if_neg h1]); (try (repeat' (first | rfl | split)))
    exact y_ret yk177 1 rfl (by rw [hk]; rfl)
theorem fq_187 (I : IV lg P0 Q2 N T D t) (hg : Gr 0 P0) : X 178 0 [rR 3 11 1, vI a, vJ] [] (mm P0 P1 Q cl (cn t) kp fo ou L xs e) = some (.inl (some (vI (if v6_find P0 a = 0 then cn 0 else P0.1 10 (v6_find P0 a) 2))), (mm P0 P1 Q cl (cn t) kp fo ou L xs e)) := by
  refine y_gfr yk178 1 1 4 5 1 0 rfl rfl rfl rfl rfl rfl (by decide) ?_
  refine y_gfr yk178 0 4 7 6 1 0 rfl rfl rfl rfl rfl (hg.1 (5, 0, 1) (by decide)) (by decide) ?_
  by_cases h1 : v6_find P0 a = 0
  · rw [if_pos h1]
    have e1 := x_N (M := (mm P0 P1 Q cl (cn t) kp fo ou L xs e)) okx0 h1 (t6_find P0 hg a (gfind I))
    refine y_cal yk178 2 11 rfl e1 ?_
    refine y_go yk178 3 16 rfl ?_
    refine y_go yk178 2 24 rfl ?_
    exact y_ret yk178 1 rfl rfl
  · rw [if_neg h1]
    have e1 := x_R (M := (mm P0 P1 Q cl (cn t) kp fo ou L xs e)) okx0 h1 (t6_find P0 hg a (gfind I))
    refine y_cal yk178 2 11 rfl e1 ?_
    refine y_go yk178 3 20 rfl ?_
    exact y_ret yk178 3 rfl rfl
theorem fq_188 (I : IV lg P0 Q2 N T D t) (hg : Gr 0 P0) : X 179 0 [rR 3 11 1, vI a, vJ] [] (mm P0 P1 Q cl (cn t) kp fo ou L xs e) = evR (kFind P0 a) [0] (some (.inl (some (vI (P0.1 10 (v6_find P0 a) 9))), (mm P0 P1 Q cl (cn t) kp fo ou L xs e))) (mm P0 P1 Q cl (cn t) kp fo ou L xs e) := by
  refine y_gfr yk179 1 1 4 5 1 0 rfl rfl rfl rfl rfl rfl (by decide) ?_
  refine y_gfr yk179 0 4 7 6 1 0 rfl rfl rfl rfl rfl (hg.1 (5, 0, 1) (by decide)) (by decide) ?_
  by_cases h1 : v6_find P0 a = 0
  · have e1 := x_N (M := (mm P0 P1 Q cl (cn t) kp fo ou L xs e)) okx0 h1 (t6_find P0 hg a (gfind I))
    refine y_cal yk179 2 11 rfl e1 ?_
    refine y_go yk179 3 16 rfl ?_
    have hk : kFind P0 a = 1 := by unfold kFind; (try simp only [if_pos h1]); (try (repeat' (first | rfl | split)))
    exact y_ret yk179 1 rfl (by rw [hk]; rfl)
  · have e1 := x_R (M := (mm P0 P1 Q cl (cn t) kp fo ou L xs e)) okx0 h1 (t6_find P0 hg a (gfind I))
    refine y_cal yk179 2 11 rfl e1 ?_
    refine y_go yk179 3 26 rfl ?_
    have hk : kFind P0 a = 0 := by unfold kFind; (try simp only [if_neg h1]); (try (repeat' (first | rfl | split)))
    exact y_ret yk179 3 rfl (by rw [hk]; rfl)
theorem fq_189 (I : IV lg P0 Q2 N T D t) (hg : Gr 0 P0) : X 180 0 [rR 3 11 1, vI a, vJ] [] (mm P0 P1 Q cl (cn t) kp fo ou L xs e) = evR (kFind P0 a) [0] (some (.inl (some (vI (P0.1 10 (v6_find P0 a) 7))), (mm P0 P1 Q cl (cn t) kp fo ou L xs e))) (mm P0 P1 Q cl (cn t) kp fo ou L xs e) := by
  refine y_gfr yk180 1 1 4 5 1 0 rfl rfl rfl rfl rfl rfl (by decide) ?_
  refine y_gfr yk180 0 4 7 6 1 0 rfl rfl rfl rfl rfl (hg.1 (5, 0, 1) (by decide)) (by decide) ?_
  by_cases h1 : v6_find P0 a = 0
  · have e1 := x_N (M := (mm P0 P1 Q cl (cn t) kp fo ou L xs e)) okx0 h1 (t6_find P0 hg a (gfind I))
    refine y_cal yk180 2 11 rfl e1 ?_
    refine y_go yk180 3 16 rfl ?_
    have hk : kFind P0 a = 1 := by unfold kFind; (try simp only [if_pos h1]); (try (repeat' (first | rfl | split)))
    exact y_ret yk180 1 rfl (by rw [hk]; rfl)
  · have e1 := x_R (M := (mm P0 P1 Q cl (cn t) kp fo ou L xs e)) okx0 h1 (t6_find P0 hg a (gfind I))
    refine y_cal yk180 2 11 rfl e1 ?_
    refine y_go yk180 3 26 rfl ?_
    have hk : kFind P0 a = 0 := by unfold kFind; (try simp only [if_neg h1]); (try (repeat' (first | rfl | split)))
    exact y_ret yk180 3 rfl (by rw [hk]; rfl)
theorem fq_190 (I : IV lg P0 Q2 N T D t) (hg : Gr 0 P0) : X 181 0 [rR 3 11 1, vI a, vI b, vJ] [] (mm P0 P1 Q cl (cn t) kp fo ou L xs e) = evR (kBk a) [0] (some (.inl (some (vI (if b = 0 then P0.1 1 (v6_bookAt P0 a) 3 else P0.1 1 (v6_bookAt P0 a) 4))), (mm P0 P1 Q cl (cn t) kp fo ou L xs e))) (mm P0 P1 Q cl (cn t) kp fo ou L xs e) := by
  refine y_cal yk181 2 4 rfl x_isBook ?_
  by_cases h1 : isW a (cn 0) (cn 5) = 0
  · have hk : kBk a = 1 := by unfold kBk; (try simp only [if_pos h1]); (try (repeat' (first | rfl | split)))
    exact y_thr yk181 1 7 rfl (x_np0 h1) (by decide +kernel) nh181 (by rw [hk]; rfl)
  · refine y_ca0 yk181 1 7 rfl (x_np1 h1) ?_
    refine y_gfr yk181 1 8 11 5 1 0 rfl rfl rfl rfl rfl rfl (by decide) ?_
    refine y_gfr yk181 0 11 14 6 1 0 rfl rfl rfl rfl rfl (hg.1 (5, 0, 1) (by decide)) (by decide) ?_
    have e1 := x_R (M := (mm P0 P1 Q cl (cn t) kp fo ou L xs e)) okx0 (fb5 P0 h1).2 (t6_bookAt P0 hg a (fb5 P0 h1).1)
    refine y_cal yk181 2 18 rfl e1 ?_
    by_cases h2 : b = 0
    · rw [if_pos h2]
      refine y_ifT yk181 2 20 30 rfl rfl rfl (decide_eq_true h2) ?_
      have hk : kBk a = 0 := by unfold kBk; (try simp only [if_neg h1, if_pos h2]); (try (repeat' (first | rfl | split)))
      exact y_ret yk181 3 rfl (by rw [hk]; rfl)
    · rw [if_neg h2]
      refine y_ifF yk181 2 20 23 rfl rfl rfl (by decide) (decide_eq_false h2) ?_
      refine y_go yk181 3 34 rfl ?_
      have hk : kBk a = 0 := by unfold kBk; (try simp only [if_neg h1, if_neg h2]); (try (repeat' (first | rfl | split)))
      exact y_ret yk181 1 rfl (by rw [hk]; rfl)
theorem fq_191 (I : IV lg P0 Q2 N T D t) (hg : Gr 0 P0) : X 182 0 [rR 3 11 1, vI a, vJ] [] (mm P0 P1 Q cl (cn t) kp fo ou L xs e) = evR (kBk a) [0] (some (.inl (some (vI (if P0.1 1 (v6_bookAt P0 a) 5 = 0 then cn (-100000) else P0.1 1 (v6_bookAt P0 a) 7))), (mm P0 P1 Q cl (cn t) kp fo ou L xs e))) (mm P0 P1 Q cl (cn t) kp fo ou L xs e) := by
  refine y_cal yk182 2 4 rfl x_isBook ?_
  by_cases h1 : isW a (cn 0) (cn 5) = 0
  · have hk : kBk a = 1 := by unfold kBk; (try simp only [if_pos h1]); (try (repeat' (first | rfl | split)))
    exact y_thr yk182 1 7 rfl (x_np0 h1) (by decide +kernel) nh182 (by rw [hk]; rfl)
  · refine y_ca0 yk182 1 7 rfl (x_np1 h1) ?_
    refine y_gfr yk182 1 8 11 5 1 0 rfl rfl rfl rfl rfl rfl (by decide) ?_
    refine y_gfr yk182 0 11 14 6 1 0 rfl rfl rfl rfl rfl (hg.1 (5, 0, 1) (by decide)) (by decide) ?_
    have e1 := x_R (M := (mm P0 P1 Q cl (cn t) kp fo ou L xs e)) okx0 (fb5 P0 h1).2 (t6_bookAt P0 hg a (fb5 P0 h1).1)
    refine y_cal yk182 2 18 rfl e1 ?_
    by_cases h2 : P0.1 1 (v6_bookAt P0 a) 5 = 0
    · rw [if_pos h2]
      refine y_ifT yk182 3 23 33 rfl rfl rfl (decide_eq_true h2) ?_
      have hk : kBk a = 0 := by unfold kBk; (try simp only [if_neg h1, if_pos h2]); (try (repeat' (first | rfl | split)))
      exact y_ret yk182 2 rfl (by rw [hk]; rfl)
    · rw [if_neg h2]
      refine y_ifF yk182 3 23 26 rfl rfl rfl (by decide) (decide_eq_false h2) ?_
      refine y_go yk182 3 35 rfl ?_
      have hk : kBk a = 0 := by unfold kBk; (try simp only [if_neg h1, if_neg h2]); (try (repeat' (first | rfl | split)))
      exact y_ret yk182 1 rfl (by rw [hk]; rfl)
theorem fq_192 (I : IV lg P0 Q2 N T D t) (hg : Gr 0 P0) (HO : kBk a = 0 → g6_bookAt P0 a ∧ (¬ P0.1 1 (v6_bookAt P0 a) 5 = 0 → g8_findPrice P0 (v6_bookAt P0 a) ∧ ∀ v, g8_volumeAt P0 (v6_bookAt P0 a) v)) (hV : v8_findPrice P0 (v6_bookAt P0 a) = V) (hW : v8_volumeAt P0 (v6_bookAt P0 a) V = W) : X 183 0 [rR 3 11 1, vI a, vI b, vJ, vJ] [] (mm P0 P1 Q cl (cn t) kp fo ou L xs e) = evR (kBk a) [0] (some (.inl (some (vI (if b = 0 then (if P0.1 1 (v6_bookAt P0 a) 5 = 0 then cn (-100000) else V) else if (if P0.1 1 (v6_bookAt P0 a) 5 = 0 then cn (-100000) else V) = cn (-100000) then cn 0 else W))), (mm P0 P1 Q cl (cn t) kp fo ou L xs e))) (mm P0 P1 Q cl (cn t) kp fo ou L xs e) := by
  refine y_cal yk183 2 4 rfl x_isBook ?_
  by_cases h1 : isW a (cn 0) (cn 5) = 0
  · have hk : kBk a = 1 := by unfold kBk; (try simp only [if_pos h1]); (try (repeat' (first | rfl | split)))
    exact y_thr yk183 1 7 rfl (x_np0 h1) (by decide +kernel) nh183 (by rw [hk]; rfl)
  · refine y_ca0 yk183 1 7 rfl (x_np1 h1) ?_
    refine y_gfr yk183 1 8 11 5 1 0 rfl rfl rfl rfl rfl rfl (by decide) ?_
    refine y_gfr yk183 0 11 14 6 1 0 rfl rfl rfl rfl rfl (hg.1 (5, 0, 1) (by decide)) (by decide) ?_
    have e1 := x_R (M := (mm P0 P1 Q cl (cn t) kp fo ou L xs e)) okx0 (fb5 P0 h1).2 (t6_bookAt P0 hg a (fb5 P0 h1).1)
    refine y_cal yk183 2 18 rfl e1 ?_
    by_cases h2 : P0.1 1 (v6_bookAt P0 a) 5 = 0
    · (try simp only [if_pos h2, if_true])
      refine y_ifT yk183 3 23 40 rfl rfl rfl (decide_eq_true h2) ?_
      by_cases h3 : b = 0
      · (try simp only [if_pos h3, if_true])
        refine y_ifT yk183 3 45 73 rfl rfl rfl (decide_eq_true h3) ?_
        have hk : kBk a = 0 := by unfold kBk; (try simp only [if_neg h1, if_pos h2, if_pos h3]); (try (repeat' (first | rfl | split)))
        exact y_ret yk183 2 rfl (by rw [hk]; rfl)
      · (try simp only [if_neg h3, if_true])
        refine y_ifF yk183 3 45 48 rfl rfl rfl (by decide) (decide_eq_false h3) ?_
        refine y_icF yk183 2 52 55 rfl rfl rfl (by decide) (by decide) ?_
        refine y_go yk183 2 72 rfl ?_
        have hk : kBk a = 0 := by unfold kBk; (try simp only [if_neg h1, if_pos h2, if_neg h3]); (try (repeat' (first | rfl | split)))
        exact y_ret yk183 1 rfl (by rw [hk]; rfl)
    · (try simp only [if_neg h2, if_true])
      refine y_ifF yk183 3 23 26 rfl rfl rfl (by decide) (decide_eq_false h2) ?_
      refine y_gfr yk183 1 27 30 5 1 0 rfl rfl rfl rfl rfl rfl (by decide) ?_
      refine y_gfr yk183 0 30 33 8 1 0 rfl rfl rfl rfl rfl (hg.1 (5, 2, 1) (by decide)) (by decide) ?_
      have hk0 : kBk a = 0 := by unfold kBk; (try simp only [if_neg h1, if_neg h2]); (try (repeat' (first | rfl | split)))
      have HG := HO hk0
      have e1 := x_I' (M := (mm P0 P1 Q cl (cn t) kp fo ou L xs e)) okx0 (t8_findPrice P0 hg (v6_bookAt P0 a) (HG.2 h2).1) (by show _ :: vR _ _ _ :: _ = _; rw [vR_pos (fb5 P0 h1).2]; try rfl)
      rw [hV] at e1
      refine y_cal yk183 2 37 rfl e1 ?_
      refine y_go yk183 1 42 rfl ?_
      by_cases h4 : b = 0
      · (try simp only [if_pos h4, if_true])
        refine y_ifT yk183 2 45 73 rfl rfl rfl (decide_eq_true h4) ?_
        have hk : kBk a = 0 := by unfold kBk; (try simp only [if_neg h1, if_neg h2, if_pos h4]); (try (repeat' (first | rfl | split)))
        exact y_ret yk183 2 rfl (by rw [hk]; rfl)
      · (try simp only [if_neg h4, if_true])
        refine y_ifF yk183 2 45 48 rfl rfl rfl (by decide) (decide_eq_false h4) ?_
        by_cases h5 : V = (cn (-100000))
        · (try simp only [if_pos h5, if_true])
          refine y_icF yk183 2 52 55 rfl rfl rfl (by decide) (decide_eq_false (fun h9 => h9 h5)) ?_
          refine y_go yk183 2 72 rfl ?_
          have hk : kBk a = 0 := by unfold kBk; (try simp only [if_neg h1, if_neg h2, if_neg h4, if_pos h5]); (try (repeat' (first | rfl | split)))
          exact y_ret yk183 1 rfl (by rw [hk]; rfl)
        · (try simp only [if_neg h5, if_true])
          refine y_icT yk183 2 52 59 rfl rfl rfl (decide_eq_true h5) ?_
          refine y_gfr yk183 1 60 63 5 1 0 rfl rfl rfl rfl rfl rfl (by decide) ?_
          refine y_gfr yk183 0 63 66 8 1 0 rfl rfl rfl rfl rfl (hg.1 (5, 2, 1) (by decide)) (by decide) ?_
          have e1 := x_I' (M := (mm P0 P1 Q cl (cn t) kp fo ou L xs e)) okx0 (t8_volumeAt P0 hg (v6_bookAt P0 a) V ((HG.2 h2).2 _)) (by show _ :: vR _ _ _ :: _ = _; rw [vR_pos (fb5 P0 h1).2]; try rfl)
          rw [hW] at e1
          refine y_cal yk183 3 72 rfl e1 ?_
          have hk : kBk a = 0 := by unfold kBk; (try simp only [if_neg h1, if_neg h2, if_neg h4, if_neg h5]); (try (repeat' (first | rfl | split)))
          exact y_ret yk183 1 rfl (by rw [hk]; rfl)
theorem fq_193 (I : IV lg P0 Q2 N T D t) (hg : Gr 0 P0) : X 184 0 [rR 3 11 1] [] (mm P0 P1 Q cl (cn t) kp fo ou L xs e) = some (.inl (some (vI (P0.1 7 1 2))), (mm P0 P1 Q cl (cn t) kp fo ou L xs e)) := by
  refine y_gfr yk184 1 1 4 5 1 0 rfl rfl rfl rfl rfl rfl (by decide) ?_
  refine y_gfr yk184 0 4 7 7 1 0 rfl rfl rfl rfl rfl (hg.1 (5, 1, 1) (by decide)) (by decide) ?_
  exact y_ret yk184 2 rfl rfl
theorem fq_194 (I : IV lg P0 Q2 N T D t) (hg : Gr 0 P0) (HO : kTrade P0 a b = 0 → g7_find P0 a ∧ g4_tell P0 (v7_find P0 a) b) : X 185 0 [rR 3 11 1, vI a, vI b, vJ] [] (mm P0 P1 Q cl (cn t) kp fo ou L xs e) = evR (kTrade P0 a b) [0, 1] (some (.inl (some (vI (v4_tell P0 (v7_find P0 a) b))), (mm P0 P1 Q cl (cn t) kp fo ou L xs e))) (mm P0 P1 Q cl (cn t) kp fo ou L xs e) := by
  by_cases h1 : v7_find P0 a = 0
  · have hk : kTrade P0 a b = 1 := by unfold kTrade; (try simp only [if_pos h1]); (try (repeat' (first | rfl | split)))
    exact y_thr yk185 3 5 rfl (x_kept0 hg (gkept I).1 h1) (by decide +kernel) nh185 (by rw [hk]; rfl)
  · refine y_cal yk185 3 5 rfl (x_kept1 hg (gkept I).1 h1) ?_
    refine y_cal yk185 5 12 rfl x_isW ?_
    by_cases h2 : isW b (cn 0) (cn 5) = 0
    · have hk : kTrade P0 a b = 2 := by unfold kTrade; (try simp only [if_neg h1, if_pos h2]); (try (repeat' (first | rfl | split)))
      exact y_thr yk185 1 15 rfl (x_nr0 h2) (by decide +kernel) nh185 (by rw [hk]; rfl)
    · refine y_ca0 yk185 1 15 rfl (x_nr1 h2) ?_
      have hk0 : kTrade P0 a b = 0 := by unfold kTrade; (try simp only [if_neg h1, if_neg h2]); (try (repeat' (first | rfl | split)))
      have HG := HO hk0
      have e1 := x_I' (M := (mm P0 P1 Q cl (cn t) kp fo ou L xs e)) okx0 (t4_tell P0 hg (v7_find P0 a) b HG.2) (by show vR _ _ _ :: _ = _; rw [vR_pos h1]; try rfl)
      refine y_cal yk185 3 20 rfl e1 ?_
      have hk : kTrade P0 a b = 0 := by unfold kTrade; (try simp only [if_neg h1, if_neg h2]); (try (repeat' (first | rfl | split)))
      exact y_ret yk185 1 rfl (by rw [hk]; rfl)
theorem fq_195 (I : IV lg P0 Q2 N T D t) (hg : Gr 0 P0) : X 186 0 [rR 3 11 1, vI a, vI b] [] (mm P0 P1 Q cl (cn t) kp fo ou L xs e) = evR (kPos a b) [0] (some (.inl (some (vI (v0_holds P0 (v7_accountAt P0 a) b))), (mm P0 P1 Q cl (cn t) kp fo ou L xs e))) (mm P0 P1 Q cl (cn t) kp fo ou L xs e) := by
  refine y_cal yk186 4 7 rfl x_isW ?_
  by_cases h1 : isW a (cn 0) (cn 8) = 0
  · refine y_ifT yk186 0 7 21 rfl rfl rfl (decide_eq_true h1) ?_
    have hk : kPos a b = 1 := by unfold kPos; (try simp only [if_pos h1]); (try (repeat' (first | rfl | split)))
    exact y_thr yk186 2 25 rfl (x_np0 rfl) (by decide +kernel) nh186 (by rw [hk]; rfl)
  · refine y_ifF yk186 0 7 10 rfl rfl rfl (by decide) (decide_eq_false h1) ?_
    refine y_cal yk186 2 14 rfl x_isContract ?_
    by_cases h2 : isW b (cn 0) (cn 3) = 0
    · refine y_ifT yk186 0 14 21 rfl rfl rfl (decide_eq_true h2) ?_
      have hk : kPos a b = 1 := by unfold kPos; (try simp only [if_neg h1, if_pos h2]); (try (repeat' (first | rfl | split)))
      exact y_thr yk186 2 25 rfl (x_np0 rfl) (by decide +kernel) nh186 (by rw [hk]; rfl)
    · refine y_ifF yk186 0 14 17 rfl rfl rfl (by decide) (decide_eq_false h2) ?_
      refine y_go yk186 2 22 rfl ?_
      refine y_ca0 yk186 1 25 rfl (x_np1 (by decide)) ?_
      refine y_gfr yk186 1 26 29 5 1 0 rfl rfl rfl rfl rfl rfl (by decide) ?_
      refine y_gfr yk186 0 29 32 7 1 0 rfl rfl rfl rfl rfl (hg.1 (5, 1, 1) (by decide)) (by decide) ?_
      have e1 := x_R (M := (mm P0 P1 Q cl (cn t) kp fo ou L xs e)) okx0 (fa8 P0 h1).2 (t7_accountAt P0 hg a (fa8 P0 h1).1)
      refine y_cal yk186 2 36 rfl e1 ?_
      have e1 := x_I' (M := (mm P0 P1 Q cl (cn t) kp fo ou L xs e)) okx0 (t0_holds P0 hg (v7_accountAt P0 a) b (gholds P0 h1 h2)) (by show vR _ _ _ :: _ = _; rw [vR_pos (fa8 P0 h1).2]; try rfl)
      refine y_cal yk186 2 40 rfl e1 ?_
      have hk : kPos a b = 0 := by unfold kPos; (try simp only [if_neg h1, if_neg h2]); (try (repeat' (first | rfl | split)))
      exact y_ret yk186 1 rfl (by rw [hk]; rfl)
theorem fq_196 (I : IV lg P0 Q2 N T D t) (hg : Gr 0 P0) : X 187 0 [rR 3 11 1, vI a] [] (mm P0 P1 Q cl (cn t) kp fo ou L xs e) = evR (kAcc a) [0] (some (.inl (some (vL (P0.2.1 0 (v7_accountAt P0 a) 4))), (mm P0 P1 Q cl (cn t) kp fo ou L xs e))) (mm P0 P1 Q cl (cn t) kp fo ou L xs e) := by
  refine y_cal yk187 4 7 rfl x_isW ?_
  by_cases h1 : isW a (cn 0) (cn 8) = 0
  · have hk : kAcc a = 1 := by unfold kAcc; (try simp only [if_pos h1]); (try (repeat' (first | rfl | split)))
    exact y_thr yk187 1 10 rfl (x_np0 h1) (by decide +kernel) nh187 (by rw [hk]; rfl)
  · refine y_ca0 yk187 1 10 rfl (x_np1 h1) ?_
    refine y_gfr yk187 1 11 14 5 1 0 rfl rfl rfl rfl rfl rfl (by decide) ?_
    refine y_gfr yk187 0 14 17 7 1 0 rfl rfl rfl rfl rfl (hg.1 (5, 1, 1) (by decide)) (by decide) ?_
    have e1 := x_R (M := (mm P0 P1 Q cl (cn t) kp fo ou L xs e)) okx0 (fa8 P0 h1).2 (t7_accountAt P0 hg a (fa8 P0 h1).1)
    refine y_cal yk187 2 21 rfl e1 ?_
    have hk : kAcc a = 0 := by unfold kAcc; (try simp only [if_neg h1]); (try (repeat' (first | rfl | split)))
    exact y_ret yk187 2 rfl (by rw [hk]; rfl)
theorem fq_198 (I : IV lg P0 Q2 N T D t) (hg : Gr 0 P0) (HO : kMem a b = 0 → g2_tell P0 a b) : X 188 0 [rR 3 11 1, vI a, vI b] [] (mm P0 P1 Q cl (cn t) kp fo ou L xs e) = evR (kMem a b) [0, 1] (some (.inl (some (vL (v2_tell P0 a b))), (mm P0 P1 Q cl (cn t) kp fo ou L xs e))) (mm P0 P1 Q cl (cn t) kp fo ou L xs e) := by
  refine y_cal yk188 2 4 rfl x_isMember ?_
  by_cases h1 : isW a (cn 0) (cn 3) = 0
  · have hk : kMem a b = 1 := by unfold kMem; (try simp only [if_pos h1]); (try (repeat' (first | rfl | split)))
    exact y_thr yk188 1 7 rfl (x_np0 h1) (by decide +kernel) nh188 (by rw [hk]; rfl)
  · refine y_ca0 yk188 1 7 rfl (x_np1 h1) ?_
    refine y_cal yk188 4 14 rfl x_isW ?_
    by_cases h2 : isW b (cn 0) (cn 6) = 0
    · have hk : kMem a b = 2 := by unfold kMem; (try simp only [if_neg h1, if_pos h2]); (try (repeat' (first | rfl | split)))
      exact y_thr yk188 1 17 rfl (x_nr0 h2) (by decide +kernel) nh188 (by rw [hk]; rfl)
    · refine y_ca0 yk188 1 17 rfl (x_nr1 h2) ?_
      refine y_gfr yk188 1 18 21 5 1 0 rfl rfl rfl rfl rfl rfl (by decide) ?_
      refine y_gfr yk188 0 21 24 2 1 0 rfl rfl rfl rfl rfl (hg.1 (5, 4, 1) (by decide)) (by decide) ?_
      have hk0 : kMem a b = 0 := by unfold kMem; (try simp only [if_neg h1, if_neg h2]); (try (repeat' (first | rfl | split)))
      have HG := HO hk0
      have e1 := x_L (M := (mm P0 P1 Q cl (cn t) kp fo ou L xs e)) okx0 (t2_tell P0 hg a b HG)
      refine y_cal yk188 3 29 rfl e1 ?_
      have hk : kMem a b = 0 := by unfold kMem; (try simp only [if_neg h1, if_neg h2]); (try (repeat' (first | rfl | split)))
      exact y_ret yk188 1 rfl (by rw [hk]; rfl)
theorem fq_199 (I : IV lg P0 Q2 N T D t) (hg : Gr 0 P0) : X 189 0 [rR 3 11 1] [] (mm P0 P1 Q cl (cn t) kp fo ou L xs e) = some (.inl (some (vI (P0.1 2 1 5))), (mm P0 P1 Q cl (cn t) kp fo ou L xs e)) := by
  refine y_gfr yk189 1 1 4 5 1 0 rfl rfl rfl rfl rfl rfl (by decide) ?_
  refine y_gfr yk189 0 4 7 2 1 0 rfl rfl rfl rfl rfl (hg.1 (5, 4, 1) (by decide)) (by decide) ?_
  exact y_ret yk189 2 rfl rfl
end FaceQ
