-- Search_findWay
def seg_200 : SegL := [
  (0, [(.aload_n 0, 1, []), (.iconst 0, 1, []), (.putfield 44, 3, [7, 3, 0, 272, 0, 0]), (.aload_n 2, 1, []), (.aload_n 0, 1, []), (.getfield 34, 3, [7, 5, 0, 276, 0]), (.aload_n 0, 1, []), (.getfield 38, 3, [7, 6, 0, 277, 0]), (.invokevirtual 47, 3, [146, 3, 1172, 0, 3, 0, 0, 0, 0, 8])]),
  (17, [(.ifCond .eq 5, 3, [22])]),
  (20, [(.iconst 1, 1, []), (.ireturn, 1, [3])]),
  (22, [(.aload_n 0, 1, []), (.dup, 1, []), (.getfield 41, 3, [7, 7, 0, 278, 0]), (.aload_n 2, 1, []), (.aload_n 0, 1, []), (.getfield 38, 3, [7, 6, 0, 277, 0]), (.invokevirtual 51, 3, [181, 2, 1173, 0, 4, 0, 0, 0, 0, 8])]),
  (35, [(.iconst (-1), 1, []), (.ixor, 1, []), (.iand, 1, []), (.putfield 41, 3, [7, 7, 0, 278, 0, 0]), (.aload_n 0, 1, []), (.aload_n 1, 1, []), (.aload_n 2, 1, []), (.iconst 0, 1, []), (.invokevirtual 55, 3, [199, 4, 1174, 0, 8, 0, 0, 0, 0, 7])]),
  (48, [(.ifCond .eq 5, 3, [53])]),
  (51, [(.iconst 1, 1, []), (.ireturn, 1, [3])]),
  (53, [(.aload_n 1, 1, []), (.getfield 59, 3, [6, 2, 2, 625, 1]), (.getfield 65, 3, [0, 1, 2, 366, 1]), (.getfield 71, 3, [4, 2, 0, 329, 1]), (.istore 4, 2, []), (.iconst 0, 1, []), (.istore 5, 2, [])]),
  (68, [(.iload 5, 2, []), (.iload 4, 2, []), (.if_icmp .ge 133, 3, [205])]),
  (75, [(.iload_n 3, 1, []), (.iconst 1, 1, []), (.if_icmp .le 128, 3, [205])]),
  (80, [(.iconst 0, 1, []), (.istore 6, 2, [])]),
  (83, [(.iload 6, 2, []), (.iload 4, 2, []), (.if_icmp .ge 112, 3, [199])]),
  (90, [(.iconst 0, 1, []), (.istore 7, 2, [])]),
  (93, [(.iload 7, 2, []), (.aload_n 1, 1, []), (.getfield 59, 3, [6, 2, 2, 625, 1]), (.getfield 76, 3, [0, 2, 2, 371, 1]), (.getfield 71, 3, [4, 2, 0, 329, 1]), (.if_icmp .ge 88, 3, [193])]),
  (108, [(.iload 5, 2, []), (.iload 6, 2, []), (.if_icmp .eq 75, 3, [187])]),
  (115, [(.aload_n 1, 1, []), (.aload_n 2, 1, []), (.iload 5, 2, []), (.iload 6, 2, []), (.iload 7, 2, []), (.invokevirtual 79, 3, [121, 5, 1183, 0, 5, 0, 0, 0, 0, 6])]),
  (126, [(.ifCond .eq 61, 3, [187])]),
  (129, [(.aload_n 0, 1, []), (.getfield 12, 3, [7, 0, 2, 268, 0]), (.aload_n 2, 1, []), (.invokevirtual 83, 3, [142, 2, 1184, 0, 3, 0, 0, 0, 0, 8])]),
  (137, [(.aload_n 1, 1, []), (.aload_n 0, 1, []), (.getfield 12, 3, [7, 0, 2, 268, 0]), (.iload 5, 2, []), (.iload 6, 2, []), (.iload 7, 2, []), (.invokevirtual 87, 3, [149, 5, 1185, 0, 9, 0, 0, 0, 0, 6])]),
  (151, [(.pop, 1, []), (.aload_n 0, 1, []), (.aload_n 1, 1, []), (.aload_n 0, 1, []), (.getfield 12, 3, [7, 0, 2, 268, 0]), (.iconst 1, 1, []), (.invokevirtual 55, 3, [199, 4, 1174, 0, 8, 0, 0, 0, 0, 7])]),
  (162, [(.ifCond .eq 25, 3, [187])]),
  (165, [(.aload_n 0, 1, []), (.getfield 21, 3, [7, 2, 2, 270, 0]), (.iconst 0, 1, []), (.bipush 100, 2, []), (.iload 5, 2, []), (.imul, 1, []), (.bipush 10, 2, []), (.iload 6, 2, []), (.imul, 1, []), (.iadd, 1, []), (.iload 7, 2, []), (.iadd, 1, []), (.iastore, 1, []), (.iconst 1, 1, []), (.ireturn, 1, [3])]),
  (187, [(.iinc 7 1, 3, []), (.goto (-97), 3, [93])]),
  (193, [(.iinc 6 1, 3, []), (.goto (-113), 3, [83])]),
  (199, [(.iinc 5 1, 3, []), (.goto (-134), 3, [68])]),
  (205, [(.iconst 0, 1, []), (.ireturn, 1, [3])])]
set_option maxRecDepth 100000 in
theorem ok_200 : chkM 200 seg_200 = true := by decide +kernel
-- AC_way
def seg_201 : SegL := [
  (0, [(.aload_n 0, 1, []), (.iload_n 1, 1, []), (.iload_n 2, 1, []), (.iload_n 3, 1, []), (.iload 4, 2, []), (.invokevirtual 294, 3, [196, 5, 1160, 0, 5, 0, 0, 0, 0, 11])]),
  (9, [(.ifCond .ne 5, 3, [14])]),
  (12, [(.iconst (-1), 1, []), (.ireturn, 1, [0])]),
  (14, [(.aload_n 0, 1, []), (.getfield 71, 3, [11, 10, 2, 664, 0]), (.aload_n 0, 1, []), (.getfield 50, 3, [11, 7, 2, 661, 0]), (.invokevirtual 171, 3, [117, 2, 921, 0, 2, 0, 0, 0, 0, 6])]),
  (25, [(.aload_n 0, 1, []), (.getfield 40, 3, [11, 5, 2, 659, 0]), (.iload_n 1, 1, []), (.iload_n 2, 1, []), (.iload_n 3, 1, []), (.invokevirtual 297, 3, [197, 4, 1164, 0, 4, 0, 0, 0, 0, 7])]),
  (35, [(.aload_n 0, 1, []), (.getfield 40, 3, [11, 5, 2, 659, 0]), (.aload_n 0, 1, []), (.getfield 71, 3, [11, 10, 2, 664, 0]), (.aload_n 0, 1, []), (.getfield 16, 3, [11, 1, 2, 655, 0]), (.iload 4, 2, []), (.invokevirtual 301, 3, [200, 4, 1168, 0, 8, 0, 0, 0, 0, 7])]),
  (52, [(.ifCond .eq 13, 3, [65])]),
  (55, [(.aload_n 0, 1, []), (.getfield 40, 3, [11, 5, 2, 659, 0]), (.getfield 305, 3, [7, 3, 0, 273, 1]), (.goto 5, 3, [67])]),
  (65, [(.bipush (-2), 2, [])]),
  (67, [(.ireturn, 1, [0])])]
set_option maxRecDepth 100000 in
theorem ok_201 : chkM 201 seg_201 = true := by decide +kernel
-- MD_isAsked
def seg_202 : SegL := [
  (0, [(.aload_n 0, 1, []), (.iload_n 1, 1, []), (.invokevirtual 443, 3, [109, 2, 1803, 0, 2, 0, 0, 0, 0, 12])]),
  (5, [(.ifCond .eq 46, 3, [51])]),
  (8, [(.aload_n 0, 1, []), (.iload_n 2, 1, []), (.invokevirtual 464, 3, [161, 2, 1909, 0, 2, 0, 0, 0, 0, 12])]),
  (13, [(.ifCond .eq 38, 3, [51])]),
  (16, [(.iload_n 3, 1, []), (.ifCond .lt 34, 3, [51])]),
  (20, [(.iload_n 3, 1, []), (.aload_n 0, 1, []), (.getfield 231, 3, [12, 13, 0, 1419, 0]), (.ishr, 1, []), (.ifCond .ne 25, 3, [51])]),
  (29, [(.iload_n 3, 1, []), (.iload_n 1, 1, []), (.invokestatic 264, 3, [82, 2, 1725, 0, 2, 0, 0, 0, 0, 12])]),
  (34, [(.ifCond .ne 17, 3, [51])]),
  (37, [(.iload 4, 2, []), (.iconst 1, 1, []), (.iconst 2, 1, []), (.invokestatic 193, 3, [78, 3, 1714, 0, 3, 0, 0, 0, 0, 12])]),
  (44, [(.ifCond .eq 7, 3, [51])]),
  (47, [(.iconst 1, 1, []), (.goto 4, 3, [52])]),
  (51, [(.iconst 0, 1, [])]),
  (52, [(.ireturn, 1, [3])])]
set_option maxRecDepth 100000 in
theorem ok_202 : chkM 202 seg_202 = true := by decide +kernel
-- MD_steps
def seg_203 : SegL := [
  (0, [(.aload_n 0, 1, []), (.getfield 231, 3, [12, 13, 0, 1419, 0]), (.aload_n 0, 1, []), (.getfield 231, 3, [12, 13, 0, 1419, 0]), (.imul, 1, []), (.aload_n 0, 1, []), (.getfield 234, 3, [12, 14, 0, 1420, 0]), (.imul, 1, []), (.ireturn, 1, [0])])]
set_option maxRecDepth 100000 in
theorem ok_203 : chkM 203 seg_203 = true := by decide +kernel
-- MD_whoOf
def seg_204 : SegL := [
  (0, [(.iload_n 1, 1, []), (.aload_n 0, 1, []), (.getfield 234, 3, [12, 14, 0, 1420, 0]), (.idiv, 1, []), (.aload_n 0, 1, []), (.getfield 231, 3, [12, 13, 0, 1419, 0]), (.idiv, 1, []), (.ireturn, 1, [0])])]
set_option maxRecDepth 100000 in
theorem ok_204 : chkM 204 seg_204 = true := by decide +kernel
-- MD_whomOf
def seg_205 : SegL := [
  (0, [(.iload_n 1, 1, []), (.aload_n 0, 1, []), (.getfield 234, 3, [12, 14, 0, 1420, 0]), (.idiv, 1, []), (.aload_n 0, 1, []), (.getfield 231, 3, [12, 13, 0, 1419, 0]), (.irem, 1, []), (.ireturn, 1, [0])])]
set_option maxRecDepth 100000 in
theorem ok_205 : chkM 205 seg_205 = true := by decide +kernel
-- MD_whatOf
def seg_206 : SegL := [
  (0, [(.iload_n 1, 1, []), (.aload_n 0, 1, []), (.getfield 234, 3, [12, 14, 0, 1420, 0]), (.irem, 1, []), (.ireturn, 1, [0])])]
set_option maxRecDepth 100000 in
theorem ok_206 : chkM 206 seg_206 = true := by decide +kernel
-- MD_does
def seg_207 : SegL := [
  (0, [(.aload_n 0, 1, []), (.iload_n 1, 1, []), (.invokevirtual 482, 3, [204, 2, 1993, 0, 2, 0, 0, 0, 0, 12])]),
  (5, [(.istore_n 2, 1, []), (.aload_n 0, 1, []), (.iload_n 1, 1, []), (.invokevirtual 485, 3, [205, 2, 1997, 0, 2, 0, 0, 0, 0, 12])]),
  (11, [(.istore_n 3, 1, []), (.aload_n 0, 1, []), (.iload_n 1, 1, []), (.invokevirtual 488, 3, [206, 2, 2001, 0, 2, 0, 0, 0, 0, 12])]),
  (17, [(.istore 4, 2, []), (.aload_n 0, 1, []), (.iconst 1, 1, []), (.iload_n 2, 1, []), (.iload_n 3, 1, []), (.iload 4, 2, []), (.invokevirtual 452, 3, [124, 5, 1823, 0, 5, 0, 0, 0, 0, 12])]),
  (28, [(.ifCond .ne 5, 3, [33])]),
  (31, [(.iconst 0, 1, []), (.ireturn, 1, [3])]),
  (33, [(.aload_n 0, 1, []), (.iconst 1, 1, []), (.iload_n 2, 1, []), (.iload_n 3, 1, []), (.iload 4, 2, []), (.invokevirtual 461, 3, [157, 5, 1880, 0, 6, 0, 0, 0, 0, 12])]),
  (42, [(.istore 5, 2, []), (.iconst 1, 1, []), (.ireturn, 1, [3])])]
set_option maxRecDepth 100000 in
theorem ok_207 : chkM 207 seg_207 = true := by decide +kernel
-- MD_isWay
def seg_208 : SegL := [
  (0, [(.iconst 0, 1, []), (.istore 4, 2, [])]),
  (3, [(.iload 4, 2, []), (.aload_n 0, 1, []), (.getfield 231, 3, [12, 13, 0, 1419, 0]), (.if_icmp .ge 50, 3, [59])]),
  (12, [(.iload_n 3, 1, []), (.iload 4, 2, []), (.invokestatic 264, 3, [82, 2, 1725, 0, 2, 0, 0, 0, 0, 12])]),
  (18, [(.ifCond .eq 35, 3, [53])]),
  (21, [(.aload_n 0, 1, []), (.getfield 100, 3, [12, 55, 2, 1461, 0]), (.iload 4, 2, []), (.iaload, 1, []), (.iload_n 2, 1, []), (.invokestatic 264, 3, [82, 2, 1725, 0, 2, 0, 0, 0, 0, 12])]),
  (32, [(.ifCond .ne 21, 3, [53])]),
  (35, [(.aload_n 0, 1, []), (.getfield 100, 3, [12, 55, 2, 1461, 0]), (.iconst 5, 1, []), (.iload 4, 2, []), (.iadd, 1, []), (.iaload, 1, []), (.iload_n 2, 1, []), (.invokestatic 264, 3, [82, 2, 1725, 0, 2, 0, 0, 0, 0, 12])]),
  (48, [(.ifCond .eq 5, 3, [53])]),
  (51, [(.iconst 0, 1, []), (.ireturn, 1, [3])]),
  (53, [(.iinc 4 1, 3, []), (.goto (-53), 3, [3])]),
  (59, [(.aload_n 0, 1, []), (.getfield 100, 3, [12, 55, 2, 1461, 0]), (.iconst 5, 1, []), (.iload_n 1, 1, []), (.iadd, 1, []), (.iaload, 1, []), (.iload_n 2, 1, []), (.invokestatic 264, 3, [82, 2, 1725, 0, 2, 0, 0, 0, 0, 12])]),
  (71, [(.ireturn, 1, [3])])]
set_option maxRecDepth 100000 in
theorem ok_208 : chkM 208 seg_208 = true := by decide +kernel
-- MD_wayOf
def seg_209 : SegL := [
  (0, [(.aload_n 0, 1, []), (.getfield 100, 3, [12, 55, 2, 1461, 0]), (.iload_n 1, 1, []), (.iaload, 1, []), (.iload_n 2, 1, []), (.invokestatic 264, 3, [82, 2, 1725, 0, 2, 0, 0, 0, 0, 12])]),
  (10, [(.ifCond .eq 5, 3, [15])]),
  (13, [(.iconst 0, 1, []), (.ireturn, 1, [0])]),
  (15, [(.iconst 0, 1, []), (.istore 5, 2, [])]),
  (18, [(.iload 5, 2, []), (.aload_n 0, 1, []), (.invokevirtual 491, 3, [203, 1, 1985, 0, 1, 0, 0, 0, 0, 12])]),
  (24, [(.if_icmp .ge 42, 3, [66])]),
  (27, [(.aload_n 0, 1, []), (.invokevirtual 470, 3, [171, 1, 1925, 0, 2, 0, 0, 0, 0, 12])]),
  (31, [(.aload_n 0, 1, []), (.getfield 115, 3, [12, 68, 2, 1474, 0]), (.iconst 0, 1, []), (.iload 5, 2, []), (.iastore, 1, []), (.aload_n 0, 1, []), (.iload 5, 2, []), (.invokevirtual 494, 3, [207, 2, 1989, 0, 6, 0, 0, 0, 0, 12])]),
  (45, [(.ifCond .eq 15, 3, [60])]),
  (48, [(.aload_n 0, 1, []), (.iload_n 1, 1, []), (.iload_n 2, 1, []), (.iload_n 3, 1, []), (.invokevirtual 497, 3, [208, 4, 2005, 0, 5, 0, 0, 0, 0, 12])]),
  (55, [(.ifCond .eq 5, 3, [60])]),
  (58, [(.iconst 1, 1, []), (.ireturn, 1, [0])]),
  (60, [(.iinc 5 1, 3, []), (.goto (-45), 3, [18])]),
  (66, [(.iconst 0, 1, []), (.istore 5, 2, [])]),
  (69, [(.iload 5, 2, []), (.aload_n 0, 1, []), (.invokevirtual 491, 3, [203, 1, 1985, 0, 1, 0, 0, 0, 0, 12])]),
  (75, [(.if_icmp .ge 111, 3, [186])]),
  (78, [(.iload 4, 2, []), (.iconst 2, 1, []), (.if_icmp .ne 105, 3, [186])]),
  (84, [(.aload_n 0, 1, []), (.invokevirtual 470, 3, [171, 1, 1925, 0, 2, 0, 0, 0, 0, 12])]),
  (88, [(.aload_n 0, 1, []), (.iload 5, 2, []), (.invokevirtual 494, 3, [207, 2, 1989, 0, 6, 0, 0, 0, 0, 12])]),
  (94, [(.ifCond .ne 6, 3, [100])]),
  (97, [(.goto 83, 3, [180])]),
  (100, [(.iconst 0, 1, []), (.istore 6, 2, [])]),
  (103, [(.iload 6, 2, []), (.aload_n 0, 1, []), (.invokevirtual 491, 3, [203, 1, 1985, 0, 1, 0, 0, 0, 0, 12])]),
  (109, [(.if_icmp .ge 71, 3, [180])]),
  (112, [(.aload_n 0, 1, []), (.invokevirtual 470, 3, [171, 1, 1925, 0, 2, 0, 0, 0, 0, 12])]),
  (116, [(.aload_n 0, 1, []), (.iload 5, 2, []), (.invokevirtual 494, 3, [207, 2, 1989, 0, 6, 0, 0, 0, 0, 12])]),
  (122, [(.ifCond .eq 16, 3, [138])]),
  (125, [(.aload_n 0, 1, []), (.iload 6, 2, []), (.invokevirtual 494, 3, [207, 2, 1989, 0, 6, 0, 0, 0, 0, 12])]),
  (131, [(.ifCond .eq 7, 3, [138])]),
  (134, [(.iconst 1, 1, []), (.goto 4, 3, [139])]),
  (138, [(.iconst 0, 1, [])]),
  (139, [(.istore 7, 2, []), (.aload_n 0, 1, []), (.getfield 115, 3, [12, 68, 2, 1474, 0]), (.iconst 0, 1, []), (.iload 5, 2, []), (.iastore, 1, []), (.aload_n 0, 1, []), (.getfield 115, 3, [12, 68, 2, 1474, 0]), (.iconst 1, 1, []), (.iload 6, 2, []), (.iastore, 1, []), (.iload 7, 2, []), (.ifCond .eq 15, 3, [174])]),
  (162, [(.aload_n 0, 1, []), (.iload_n 1, 1, []), (.iload_n 2, 1, []), (.iload_n 3, 1, []), (.invokevirtual 497, 3, [208, 4, 2005, 0, 5, 0, 0, 0, 0, 12])]),
  (169, [(.ifCond .eq 5, 3, [174])]),
  (172, [(.iconst 2, 1, []), (.ireturn, 1, [0])]),
  (174, [(.iinc 6 1, 3, []), (.goto (-74), 3, [103])]),
  (180, [(.iinc 5 1, 3, []), (.goto (-114), 3, [69])]),
  (186, [(.bipush (-2), 2, []), (.ireturn, 1, [0])])]
set_option maxRecDepth 100000 in
theorem ok_209 : chkM 209 seg_209 = true := by decide +kernel
-- MD_way
def seg_210 : SegL := [
  (0, [(.aload_n 0, 1, []), (.iconst 0, 1, []), (.putfield 148, 3, [12, 2, 0, 1408, 0, 0]), (.aload_n 0, 1, []), (.iload_n 1, 1, []), (.iload_n 2, 1, []), (.iload_n 3, 1, []), (.iload 4, 2, []), (.invokevirtual 500, 3, [202, 5, 1977, 0, 5, 0, 0, 0, 0, 12])]),
  (14, [(.ifCond .eq 15, 3, [29])]),
  (17, [(.aload_n 0, 1, []), (.iload_n 1, 1, []), (.iload_n 2, 1, []), (.iload_n 3, 1, []), (.iload 4, 2, []), (.invokevirtual 503, 3, [209, 5, 1981, 0, 8, 0, 0, 0, 0, 12])]),
  (26, [(.goto 4, 3, [30])]),
  (29, [(.iconst (-1), 1, [])]),
  (30, [(.ireturn, 1, [0])])]
set_option maxRecDepth 100000 in
theorem ok_210 : chkM 210 seg_210 = true := by decide +kernel
-- AC_step
def seg_211 : SegL := [
  (0, [(.aload_n 0, 1, []), (.iload_n 1, 1, []), (.iload_n 2, 1, []), (.iload_n 3, 1, []), (.iload 4, 2, []), (.invokevirtual 294, 3, [196, 5, 1160, 0, 5, 0, 0, 0, 0, 11])]),
  (9, [(.ifCond .eq 8, 3, [17])]),
  (12, [(.iload 5, 2, []), (.ifCond .ge 5, 3, [19])]),
  (17, [(.iconst (-1), 1, []), (.ireturn, 1, [0])]),
  (19, [(.aload_n 0, 1, []), (.getfield 71, 3, [11, 10, 2, 664, 0]), (.aload_n 0, 1, []), (.getfield 50, 3, [11, 7, 2, 661, 0]), (.invokevirtual 171, 3, [117, 2, 921, 0, 2, 0, 0, 0, 0, 6])]),
  (30, [(.aload_n 0, 1, []), (.getfield 40, 3, [11, 5, 2, 659, 0]), (.iload_n 1, 1, []), (.iload_n 2, 1, []), (.iload_n 3, 1, []), (.invokevirtual 297, 3, [197, 4, 1164, 0, 4, 0, 0, 0, 0, 7])]),
  (40, [(.aload_n 0, 1, []), (.getfield 40, 3, [11, 5, 2, 659, 0]), (.aload_n 0, 1, []), (.getfield 71, 3, [11, 10, 2, 664, 0]), (.aload_n 0, 1, []), (.getfield 16, 3, [11, 1, 2, 655, 0]), (.iload 4, 2, []), (.invokevirtual 301, 3, [200, 4, 1168, 0, 8, 0, 0, 0, 0, 7])]),
  (57, [(.ifCond .eq 15, 3, [72])]),
  (60, [(.iload 5, 2, []), (.aload_n 0, 1, []), (.getfield 40, 3, [11, 5, 2, 659, 0]), (.getfield 305, 3, [7, 3, 0, 273, 1]), (.if_icmp .lt 6, 3, [75])]),
  (72, [(.bipush (-2), 2, []), (.ireturn, 1, [0])]),
  (75, [(.aload_n 0, 1, []), (.getfield 40, 3, [11, 5, 2, 659, 0]), (.getfield 308, 3, [7, 2, 2, 271, 1]), (.iload 5, 2, []), (.iaload, 1, []), (.ireturn, 1, [0])])]
set_option maxRecDepth 100000 in
theorem ok_211 : chkM 211 seg_211 = true := by decide +kernel
-- MD_step
def seg_212 : SegL := [
  (0, [(.aload_n 0, 1, []), (.iconst 0, 1, []), (.putfield 148, 3, [12, 2, 0, 1408, 0, 0]), (.aload_n 0, 1, []), (.iload_n 1, 1, []), (.iload_n 2, 1, []), (.iload_n 3, 1, []), (.iload 4, 2, []), (.invokevirtual 500, 3, [202, 5, 1977, 0, 5, 0, 0, 0, 0, 12])]),
  (14, [(.ifCond .eq 8, 3, [22])]),
  (17, [(.iload 5, 2, []), (.ifCond .ge 5, 3, [24])]),
  (22, [(.iconst (-1), 1, []), (.ireturn, 1, [0])]),
  (24, [(.aload_n 0, 1, []), (.iload_n 1, 1, []), (.iload_n 2, 1, []), (.iload_n 3, 1, []), (.iload 4, 2, []), (.invokevirtual 503, 3, [209, 5, 1981, 0, 8, 0, 0, 0, 0, 12])]),
  (33, [(.istore 6, 2, []), (.iload 5, 2, []), (.iload 6, 2, []), (.if_icmp .lt 8, 3, [47])]),
  (42, [(.bipush (-2), 2, []), (.goto 44, 3, [88])]),
  (47, [(.bipush 100, 2, []), (.aload_n 0, 1, []), (.aload_n 0, 1, []), (.getfield 115, 3, [12, 68, 2, 1474, 0]), (.iload 5, 2, []), (.iaload, 1, []), (.invokevirtual 482, 3, [204, 2, 1993, 0, 2, 0, 0, 0, 0, 12])]),
  (60, [(.imul, 1, []), (.bipush 10, 2, []), (.aload_n 0, 1, []), (.aload_n 0, 1, []), (.getfield 115, 3, [12, 68, 2, 1474, 0]), (.iload 5, 2, []), (.iaload, 1, []), (.invokevirtual 485, 3, [205, 2, 1997, 0, 2, 0, 0, 0, 0, 12])]),
  (74, [(.imul, 1, []), (.iadd, 1, []), (.aload_n 0, 1, []), (.aload_n 0, 1, []), (.getfield 115, 3, [12, 68, 2, 1474, 0]), (.iload 5, 2, []), (.iaload, 1, []), (.invokevirtual 488, 3, [206, 2, 2001, 0, 2, 0, 0, 0, 0, 12])]),
  (87, [(.iadd, 1, [])]),
  (88, [(.ireturn, 1, [0])])]
set_option maxRecDepth 100000 in
theorem ok_212 : chkM 212 seg_212 = true := by decide +kernel
-- AC_isNewsInRoom
def seg_213 : SegL := [
  (0, [(.iconst 0, 1, []), (.istore_n 3, 1, [])]),
  (2, [(.iload_n 3, 1, []), (.aload_n 0, 1, []), (.getfield 50, 3, [11, 7, 2, 661, 0]), (.getfield 121, 3, [0, 1, 2, 369, 1]), (.getfield 189, 3, [4, 2, 0, 332, 1]), (.if_icmp .ge 54, 3, [67])]),
  (16, [(.iload_n 2, 1, []), (.iconst (-1), 1, []), (.if_icmp .eq 49, 3, [67])]),
  (21, [(.iload_n 3, 1, []), (.iload_n 1, 1, []), (.if_icmp .eq 38, 3, [61])]),
  (26, [(.aload_n 0, 1, []), (.getfield 16, 3, [11, 1, 2, 655, 0]), (.getfield 140, 3, [8, 1, 2, 171, 1]), (.iload_n 3, 1, []), (.iaload, 1, []), (.aload_n 0, 1, []), (.getfield 16, 3, [11, 1, 2, 655, 0]), (.getfield 140, 3, [8, 1, 2, 171, 1]), (.iload_n 1, 1, []), (.iaload, 1, []), (.if_icmp .ne 17, 3, [61])]),
  (47, [(.aload_n 0, 1, []), (.getfield 16, 3, [11, 1, 2, 655, 0]), (.iload_n 3, 1, []), (.iload_n 2, 1, []), (.invokevirtual 228, 3, [146, 3, 1042, 0, 3, 0, 0, 0, 0, 8])]),
  (56, [(.ifCond .ne 5, 3, [61])]),
  (59, [(.iconst 1, 1, []), (.ireturn, 1, [3])]),
  (61, [(.iinc 3 1, 3, []), (.goto (-62), 3, [2])]),
  (67, [(.iconst 0, 1, []), (.ireturn, 1, [3])])]
set_option maxRecDepth 100000 in
theorem ok_213 : chkM 213 seg_213 = true := by decide +kernel
-- AC_canBeMadeToSlip
def seg_214 : SegL := [
  (0, [(.iconst 0, 1, []), (.istore_n 3, 1, [])]),
  (2, [(.iload_n 3, 1, []), (.aload_n 0, 1, []), (.getfield 50, 3, [11, 7, 2, 661, 0]), (.getfield 121, 3, [0, 1, 2, 369, 1]), (.getfield 189, 3, [4, 2, 0, 332, 1]), (.if_icmp .ge 61, 3, [74])]),
  (16, [(.iload_n 3, 1, []), (.iload_n 1, 1, []), (.if_icmp .eq 50, 3, [68])]),
  (21, [(.aload_n 0, 1, []), (.getfield 71, 3, [11, 10, 2, 664, 0]), (.aload_n 0, 1, []), (.getfield 16, 3, [11, 1, 2, 655, 0]), (.iload_n 3, 1, []), (.iload_n 1, 1, []), (.iload_n 2, 1, []), (.invokevirtual 172, 3, [121, 5, 925, 0, 5, 0, 0, 0, 0, 6])]),
  (35, [(.ifCond .eq 33, 3, [68])]),
  (38, [(.aload_n 0, 1, []), (.getfield 44, 3, [11, 6, 2, 660, 0]), (.aload_n 0, 1, []), (.getfield 16, 3, [11, 1, 2, 655, 0]), (.invokevirtual 237, 3, [142, 2, 1064, 0, 3, 0, 0, 0, 0, 8])]),
  (49, [(.aload_n 0, 1, []), (.getfield 71, 3, [11, 10, 2, 664, 0]), (.aload_n 0, 1, []), (.getfield 44, 3, [11, 6, 2, 660, 0]), (.iload_n 3, 1, []), (.iload_n 1, 1, []), (.iload_n 2, 1, []), (.invokevirtual 222, 3, [149, 5, 1003, 0, 9, 0, 0, 0, 0, 6])]),
  (63, [(.ifCond .eq 5, 3, [68])]),
  (66, [(.iconst 1, 1, []), (.ireturn, 1, [3])]),
  (68, [(.iinc 3 1, 3, []), (.goto (-69), 3, [2])]),
  (74, [(.iconst 0, 1, []), (.ireturn, 1, [3])])]
set_option maxRecDepth 100000 in
theorem ok_214 : chkM 214 seg_214 = true := by decide +kernel
-- AC_care
def seg_215 : SegL := [
  (0, [(.aload_n 0, 1, []), (.getfield 50, 3, [11, 7, 2, 661, 0]), (.getfield 121, 3, [0, 1, 2, 369, 1]), (.iload_n 1, 1, []), (.invokevirtual 127, 3, [106, 2, 909, 0, 2, 0, 0, 0, 0, 4])]),
  (11, [(.ifCond .ne 5, 3, [16])]),
  (14, [(.iconst (-1), 1, []), (.ireturn, 1, [0])]),
  (16, [(.aload_n 0, 1, []), (.getfield 71, 3, [11, 10, 2, 664, 0]), (.aload_n 0, 1, []), (.getfield 50, 3, [11, 7, 2, 661, 0]), (.invokevirtual 171, 3, [117, 2, 921, 0, 2, 0, 0, 0, 0, 6])]),
  (27, [(.iconst 0, 1, []), (.istore_n 2, 1, []), (.iconst 0, 1, []), (.istore_n 3, 1, [])]),
  (31, [(.iload_n 3, 1, []), (.aload_n 0, 1, []), (.getfield 50, 3, [11, 7, 2, 661, 0]), (.getfield 124, 3, [0, 2, 2, 372, 1]), (.getfield 189, 3, [4, 2, 0, 332, 1]), (.if_icmp .ge 41, 3, [83])]),
  (45, [(.aload_n 0, 1, []), (.iload_n 1, 1, []), (.aload_n 0, 1, []), (.getfield 50, 3, [11, 7, 2, 661, 0]), (.getfield 164, 3, [0, 10, 2, 402, 1]), (.iload_n 3, 1, []), (.iaload, 1, []), (.invokevirtual 288, 3, [213, 3, 1148, 0, 4, 0, 0, 0, 0, 11])]),
  (59, [(.ifCond .eq 18, 3, [77])]),
  (62, [(.aload_n 0, 1, []), (.iload_n 1, 1, []), (.iload_n 3, 1, []), (.invokevirtual 291, 3, [214, 3, 1152, 0, 4, 0, 0, 0, 0, 11])]),
  (68, [(.ifCond .eq 9, 3, [77])]),
  (71, [(.iload_n 2, 1, []), (.iconst 1, 1, []), (.iload_n 3, 1, []), (.ishl, 1, []), (.ior, 1, []), (.istore_n 2, 1, [])]),
  (77, [(.iinc 3 1, 3, []), (.goto (-49), 3, [31])]),
  (83, [(.iload_n 2, 1, []), (.ireturn, 1, [0])])]
set_option maxRecDepth 100000 in
theorem ok_215 : chkM 215 seg_215 = true := by decide +kernel
-- MD_isCare
def seg_216 : SegL := [
  (0, [(.iconst 0, 1, []), (.istore_n 3, 1, [])]),
  (2, [(.iload_n 3, 1, []), (.aload_n 0, 1, []), (.getfield 231, 3, [12, 13, 0, 1419, 0]), (.if_icmp .ge 99, 3, [106])]),
  (10, [(.aload_n 0, 1, []), (.invokevirtual 470, 3, [171, 1, 1925, 0, 2, 0, 0, 0, 0, 12])]),
  (14, [(.aload_n 0, 1, []), (.iconst 1, 1, []), (.iload_n 3, 1, []), (.iload_n 1, 1, []), (.iload_n 2, 1, []), (.invokevirtual 452, 3, [124, 5, 1823, 0, 5, 0, 0, 0, 0, 12])]),
  (22, [(.ifCond .eq 78, 3, [100])]),
  (25, [(.aload_n 0, 1, []), (.iconst 1, 1, []), (.iload_n 3, 1, []), (.iload_n 1, 1, []), (.iload_n 2, 1, []), (.invokevirtual 461, 3, [157, 5, 1880, 0, 6, 0, 0, 0, 0, 12])]),
  (33, [(.ifCond .ne 6, 3, [39])]),
  (36, [(.goto 64, 3, [100])]),
  (39, [(.iconst 0, 1, []), (.istore 4, 2, [])]),
  (42, [(.iload 4, 2, []), (.aload_n 0, 1, []), (.getfield 231, 3, [12, 13, 0, 1419, 0]), (.if_icmp .ge 52, 3, [100])]),
  (51, [(.iload 4, 2, []), (.iload_n 1, 1, []), (.if_icmp .eq 40, 3, [94])]),
  (57, [(.aload_n 0, 1, []), (.getfield 106, 3, [12, 57, 2, 1463, 0]), (.iload 4, 2, []), (.iaload, 1, []), (.aload_n 0, 1, []), (.getfield 106, 3, [12, 57, 2, 1463, 0]), (.iload_n 1, 1, []), (.iaload, 1, []), (.if_icmp .ne 24, 3, [94])]),
  (73, [(.aload_n 0, 1, []), (.getfield 100, 3, [12, 55, 2, 1461, 0]), (.iload 4, 2, []), (.iaload, 1, []), (.aload_n 0, 1, []), (.getfield 57, 3, [12, 34, 2, 1440, 0]), (.iload_n 2, 1, []), (.iaload, 1, []), (.invokestatic 264, 3, [82, 2, 1725, 0, 2, 0, 0, 0, 0, 12])]),
  (89, [(.ifCond .ne 5, 3, [94])]),
  (92, [(.iconst 1, 1, []), (.ireturn, 1, [3])]),
  (94, [(.iinc 4 1, 3, []), (.goto (-55), 3, [42])]),
  (100, [(.iinc 3 1, 3, []), (.goto (-101), 3, [2])]),
  (106, [(.iconst 0, 1, []), (.ireturn, 1, [3])])]
set_option maxRecDepth 100000 in
theorem ok_216 : chkM 216 seg_216 = true := by decide +kernel
-- MD_care
def seg_217 : SegL := [
  (0, [(.aload_n 0, 1, []), (.iconst 0, 1, []), (.putfield 148, 3, [12, 2, 0, 1408, 0, 0]), (.aload_n 0, 1, []), (.iload_n 1, 1, []), (.invokevirtual 443, 3, [109, 2, 1803, 0, 2, 0, 0, 0, 0, 12])]),
  (10, [(.ifCond .ne 5, 3, [15])]),
  (13, [(.iconst (-1), 1, []), (.ireturn, 1, [0])]),
  (15, [(.iconst 0, 1, []), (.istore_n 2, 1, []), (.iconst 0, 1, []), (.istore_n 3, 1, [])]),
  (19, [(.iload_n 3, 1, []), (.aload_n 0, 1, []), (.getfield 234, 3, [12, 14, 0, 1420, 0]), (.if_icmp .ge 28, 3, [52])]),
  (27, [(.iload_n 2, 1, []), (.aload_n 0, 1, []), (.iload_n 1, 1, []), (.iload_n 3, 1, []), (.invokevirtual 507, 3, [216, 3, 2017, 0, 5, 0, 0, 0, 0, 12])]),
  (34, [(.ifCond .eq 9, 3, [43])]),
  (37, [(.iconst 1, 1, []), (.iload_n 3, 1, []), (.ishl, 1, []), (.goto 4, 3, [44])]),
  (43, [(.iconst 0, 1, [])]),
  (44, [(.ior, 1, []), (.istore_n 2, 1, []), (.iinc 3 1, 3, []), (.goto (-30), 3, [19])]),
  (52, [(.iload_n 2, 1, []), (.ireturn, 1, [0])])]
set_option maxRecDepth 100000 in
theorem ok_217 : chkM 217 seg_217 = true := by decide +kernel
-- Search_offer
def seg_218 : SegL := [
  (0, [(.iload_n 1, 1, []), (.aload_n 0, 1, []), (.getfield 100, 3, [7, 4, 0, 274, 0]), (.if_icmp .le 22, 3, [27])]),
  (8, [(.aload_n 0, 1, []), (.iload_n 1, 1, []), (.putfield 100, 3, [7, 4, 0, 274, 0, 0]), (.aload_n 0, 1, []), (.getfield 21, 3, [7, 2, 2, 270, 0]), (.iconst 0, 1, []), (.iload_n 2, 1, []), (.iastore, 1, []), (.aload_n 0, 1, []), (.getfield 21, 3, [7, 2, 2, 270, 0]), (.iconst 1, 1, []), (.iload_n 3, 1, []), (.iastore, 1, [])]),
  (27, [(.return_, 1, [])])]
set_option maxRecDepth 100000 in
theorem ok_218 : chkM 218 seg_218 = true := by decide +kernel
-- Search_offerSeconds
def seg_219 : SegL := [
  (0, [(.iconst 0, 1, []), (.istore 4, 2, [])]),
  (3, [(.iload 4, 2, []), (.aload_n 1, 1, []), (.getfield 59, 3, [6, 2, 2, 625, 1]), (.getfield 65, 3, [0, 1, 2, 366, 1]), (.getfield 71, 3, [4, 2, 0, 329, 1]), (.if_icmp .ge 100, 3, [115])]),
  (18, [(.iconst 0, 1, []), (.istore 5, 2, [])]),
  (21, [(.iload 5, 2, []), (.aload_n 1, 1, []), (.getfield 59, 3, [6, 2, 2, 625, 1]), (.getfield 76, 3, [0, 2, 2, 371, 1]), (.getfield 71, 3, [4, 2, 0, 329, 1]), (.if_icmp .ge 76, 3, [109])]),
  (36, [(.iload 4, 2, []), (.iload_n 2, 1, []), (.if_icmp .eq 64, 3, [103])]),
  (42, [(.aload_n 1, 1, []), (.aload_n 0, 1, []), (.getfield 12, 3, [7, 0, 2, 268, 0]), (.iload_n 2, 1, []), (.iload 4, 2, []), (.iload 5, 2, []), (.invokevirtual 79, 3, [121, 5, 1183, 0, 5, 0, 0, 0, 0, 6])]),
  (55, [(.ifCond .eq 48, 3, [103])]),
  (58, [(.aload_n 0, 1, []), (.getfield 18, 3, [7, 1, 2, 269, 0]), (.aload_n 0, 1, []), (.getfield 12, 3, [7, 0, 2, 268, 0]), (.invokevirtual 83, 3, [142, 2, 1184, 0, 3, 0, 0, 0, 0, 8])]),
  (69, [(.aload_n 1, 1, []), (.aload_n 0, 1, []), (.getfield 18, 3, [7, 1, 2, 269, 0]), (.iload_n 2, 1, []), (.iload 4, 2, []), (.iload 5, 2, []), (.invokevirtual 87, 3, [149, 5, 1185, 0, 9, 0, 0, 0, 0, 6])]),
  (82, [(.pop, 1, []), (.aload_n 0, 1, []), (.aload_n 0, 1, []), (.getfield 18, 3, [7, 1, 2, 269, 0]), (.invokevirtual 103, 3, [168, 1, 1198, 0, 3, 0, 0, 0, 0, 8])]),
  (91, [(.iload_n 3, 1, []), (.bipush 10, 2, []), (.iload 4, 2, []), (.imul, 1, []), (.iload 5, 2, []), (.iadd, 1, []), (.invokevirtual 107, 3, [218, 4, 1199, 0, 4, 0, 0, 0, 0, 7])]),
  (103, [(.iinc 5 1, 3, []), (.goto (-85), 3, [21])]),
  (109, [(.iinc 4 1, 3, []), (.goto (-109), 3, [3])]),
  (115, [(.return_, 1, [])])]
set_option maxRecDepth 100000 in
theorem ok_219 : chkM 219 seg_219 = true := by decide +kernel
-- Search_findDay
def seg_220 : SegL := [
  (0, [(.aload_n 0, 1, []), (.iconst (-1), 1, []), (.putfield 100, 3, [7, 4, 0, 274, 0, 0]), (.iconst 0, 1, []), (.istore 5, 2, [])]),
  (8, [(.iload 5, 2, []), (.aload_n 1, 1, []), (.getfield 59, 3, [6, 2, 2, 625, 1]), (.getfield 65, 3, [0, 1, 2, 366, 1]), (.getfield 71, 3, [4, 2, 0, 329, 1]), (.if_icmp .ge 117, 3, [137])]),
  (23, [(.iconst 0, 1, []), (.istore 6, 2, [])]),
  (26, [(.iload 6, 2, []), (.aload_n 1, 1, []), (.getfield 59, 3, [6, 2, 2, 625, 1]), (.getfield 76, 3, [0, 2, 2, 371, 1]), (.getfield 71, 3, [4, 2, 0, 329, 1]), (.if_icmp .ge 93, 3, [131])]),
  (41, [(.iload 5, 2, []), (.iload_n 3, 1, []), (.if_icmp .eq 81, 3, [125])]),
  (47, [(.aload_n 1, 1, []), (.aload_n 2, 1, []), (.iload_n 3, 1, []), (.iload 5, 2, []), (.iload 6, 2, []), (.invokevirtual 79, 3, [121, 5, 1183, 0, 5, 0, 0, 0, 0, 6])]),
  (57, [(.ifCond .eq 68, 3, [125])]),
  (60, [(.aload_n 0, 1, []), (.getfield 12, 3, [7, 0, 2, 268, 0]), (.aload_n 2, 1, []), (.invokevirtual 83, 3, [142, 2, 1184, 0, 3, 0, 0, 0, 0, 8])]),
  (68, [(.aload_n 1, 1, []), (.aload_n 0, 1, []), (.getfield 12, 3, [7, 0, 2, 268, 0]), (.iload_n 3, 1, []), (.iload 5, 2, []), (.iload 6, 2, []), (.invokevirtual 87, 3, [149, 5, 1185, 0, 9, 0, 0, 0, 0, 6])]),
  (81, [(.pop, 1, []), (.iload 4, 2, []), (.iconst 1, 1, []), (.if_icmp .ne 26, 3, [111])]),
  (88, [(.aload_n 0, 1, []), (.aload_n 0, 1, []), (.getfield 12, 3, [7, 0, 2, 268, 0]), (.invokevirtual 103, 3, [168, 1, 1198, 0, 3, 0, 0, 0, 0, 8])]),
  (96, [(.bipush 10, 2, []), (.iload 5, 2, []), (.imul, 1, []), (.iload 6, 2, []), (.iadd, 1, []), (.iconst 0, 1, []), (.invokevirtual 107, 3, [218, 4, 1199, 0, 4, 0, 0, 0, 0, 7])]),
  (108, [(.goto 17, 3, [125])]),
  (111, [(.aload_n 0, 1, []), (.aload_n 1, 1, []), (.iload_n 3, 1, []), (.bipush 10, 2, []), (.iload 5, 2, []), (.imul, 1, []), (.iload 6, 2, []), (.iadd, 1, []), (.invokevirtual 111, 3, [219, 4, 1203, 0, 6, 0, 0, 0, 0, 7])]),
  (125, [(.iinc 6 1, 3, []), (.goto (-102), 3, [26])]),
  (131, [(.iinc 5 1, 3, []), (.goto (-126), 3, [8])]),
  (137, [(.aload_n 0, 1, []), (.getfield 100, 3, [7, 4, 0, 274, 0]), (.iconst (-1), 1, []), (.if_icmp .eq 7, 3, [149])]),
  (145, [(.iconst 1, 1, []), (.goto 4, 3, [150])]),
  (149, [(.iconst 0, 1, [])]),
  (150, [(.ireturn, 1, [3])])]
set_option maxRecDepth 100000 in
theorem ok_220 : chkM 220 seg_220 = true := by decide +kernel
-- AC_best
def seg_221 : SegL := [
  (0, [(.aload_n 0, 1, []), (.getfield 50, 3, [11, 7, 2, 661, 0]), (.getfield 121, 3, [0, 1, 2, 369, 1]), (.iload_n 1, 1, []), (.invokevirtual 127, 3, [106, 2, 909, 0, 2, 0, 0, 0, 0, 4])]),
  (11, [(.ifCond .eq 22, 3, [33])]),
  (14, [(.iload_n 2, 1, []), (.iconst 1, 1, []), (.if_icmp .lt 17, 3, [33])]),
  (19, [(.iload_n 2, 1, []), (.iconst 2, 1, []), (.if_icmp .gt 12, 3, [33])]),
  (24, [(.iload_n 3, 1, []), (.ifCond .lt 8, 3, [33])]),
  (28, [(.iload_n 3, 1, []), (.iconst 2, 1, []), (.if_icmp .le 5, 3, [35])]),
  (33, [(.iconst (-1), 1, []), (.ireturn, 1, [0])]),
  (35, [(.aload_n 0, 1, []), (.getfield 71, 3, [11, 10, 2, 664, 0]), (.aload_n 0, 1, []), (.getfield 50, 3, [11, 7, 2, 661, 0]), (.invokevirtual 171, 3, [117, 2, 921, 0, 2, 0, 0, 0, 0, 6])]),
  (46, [(.aload_n 0, 1, []), (.getfield 40, 3, [11, 5, 2, 659, 0]), (.aload_n 0, 1, []), (.getfield 71, 3, [11, 10, 2, 664, 0]), (.aload_n 0, 1, []), (.getfield 16, 3, [11, 1, 2, 655, 0]), (.iload_n 1, 1, []), (.iload_n 2, 1, []), (.invokevirtual 311, 3, [220, 5, 1194, 0, 7, 0, 0, 0, 0, 7])]),
  (63, [(.ifCond .ne 6, 3, [69])]),
  (66, [(.bipush (-3), 2, []), (.ireturn, 1, [0])]),
  (69, [(.iload_n 3, 1, []), (.ifCond .ne 11, 3, [81])]),
  (73, [(.aload_n 0, 1, []), (.getfield 40, 3, [11, 5, 2, 659, 0]), (.getfield 315, 3, [7, 4, 0, 275, 1]), (.ireturn, 1, [0])]),
  (81, [(.iload_n 3, 1, []), (.iload_n 2, 1, []), (.if_icmp .le 8, 3, [91])]),
  (86, [(.bipush (-2), 2, []), (.goto 14, 3, [102])]),
  (91, [(.aload_n 0, 1, []), (.getfield 40, 3, [11, 5, 2, 659, 0]), (.getfield 308, 3, [7, 2, 2, 271, 1]), (.iload_n 3, 1, []), (.iconst 1, 1, []), (.isub, 1, []), (.iaload, 1, [])]),
  (102, [(.ireturn, 1, [0])])]
set_option maxRecDepth 100000 in
theorem ok_221 : chkM 221 seg_221 = true := by decide +kernel
-- MD_best
def seg_222 : SegL := [
  (0, [(.aload_n 0, 1, []), (.iconst 0, 1, []), (.putfield 148, 3, [12, 2, 0, 1408, 0, 0]), (.aload_n 0, 1, []), (.iload_n 1, 1, []), (.invokevirtual 443, 3, [109, 2, 1803, 0, 2, 0, 0, 0, 0, 12])]),
  (10, [(.ifCond .eq 21, 3, [31])]),
  (13, [(.iload_n 2, 1, []), (.iconst 1, 1, []), (.iconst 2, 1, []), (.invokestatic 193, 3, [78, 3, 1714, 0, 3, 0, 0, 0, 0, 12])]),
  (19, [(.ifCond .eq 12, 3, [31])]),
  (22, [(.iload_n 3, 1, []), (.iconst 0, 1, []), (.iconst 2, 1, []), (.invokestatic 193, 3, [78, 3, 1714, 0, 3, 0, 0, 0, 0, 12])]),
  (28, [(.ifCond .ne 5, 3, [33])]),
  (31, [(.iconst (-1), 1, []), (.ireturn, 1, [0])]),
  (33, [(.iconst (-1), 1, []), (.istore 4, 2, []), (.iconst 0, 1, []), (.istore 5, 2, []), (.iconst 0, 1, []), (.istore 6, 2, []), (.aload_n 0, 1, []), (.getfield 231, 3, [12, 13, 0, 1419, 0]), (.aload_n 0, 1, []), (.getfield 234, 3, [12, 14, 0, 1420, 0]), (.imul, 1, []), (.istore 7, 2, []), (.iconst 0, 1, []), (.istore 8, 2, [])]),
  (56, [(.iload 8, 2, []), (.iload 7, 2, []), (.if_icmp .ge 99, 3, [159])]),
  (63, [(.iconst 0, 1, []), (.istore 9, 2, [])]),
  (66, [(.iload 9, 2, []), (.iload_n 2, 1, []), (.iconst 2, 1, []), (.if_icmp .ne 8, 3, [78])]),
  (73, [(.iload 7, 2, []), (.goto 4, 3, [79])]),
  (78, [(.iconst 1, 1, [])]),
  (79, [(.if_icmp .ge 74, 3, [153])]),
  (82, [(.aload_n 0, 1, []), (.invokevirtual 470, 3, [171, 1, 1925, 0, 2, 0, 0, 0, 0, 12])]),
  (86, [(.aload_n 0, 1, []), (.iload 7, 2, []), (.iload_n 1, 1, []), (.imul, 1, []), (.iload 8, 2, []), (.iadd, 1, []), (.invokevirtual 494, 3, [207, 2, 1989, 0, 6, 0, 0, 0, 0, 12])]),
  (97, [(.ifCond .eq 50, 3, [147])]),
  (100, [(.iload_n 2, 1, []), (.iconst 2, 1, []), (.if_icmp .ne 17, 3, [119])]),
  (105, [(.aload_n 0, 1, []), (.iload 7, 2, []), (.iload_n 1, 1, []), (.imul, 1, []), (.iload 9, 2, []), (.iadd, 1, []), (.invokevirtual 494, 3, [207, 2, 1989, 0, 6, 0, 0, 0, 0, 12])]),
  (116, [(.ifCond .eq 31, 3, [147])]),
  (119, [(.aload_n 0, 1, []), (.iconst 1, 1, []), (.invokevirtual 467, 3, [172, 2, 1933, 0, 4, 0, 0, 0, 0, 12])]),
  (124, [(.iload 4, 2, []), (.if_icmp .gt 6, 3, [132])]),
  (129, [(.goto 18, 3, [147])]),
  (132, [(.aload_n 0, 1, []), (.iconst 1, 1, []), (.invokevirtual 467, 3, [172, 2, 1933, 0, 4, 0, 0, 0, 0, 12])]),
  (137, [(.istore 4, 2, []), (.iload 8, 2, []), (.istore 5, 2, []), (.iload 9, 2, []), (.istore 6, 2, [])]),
  (147, [(.iinc 9 1, 3, []), (.goto (-84), 3, [66])]),
  (153, [(.iinc 8 1, 3, []), (.goto (-100), 3, [56])]),
  (159, [(.iload 4, 2, []), (.ifCond .ge 6, 3, [167])]),
  (164, [(.bipush (-3), 2, []), (.ireturn, 1, [0])]),
  (167, [(.iload_n 3, 1, []), (.iconst 1, 1, []), (.if_icmp .ne 8, 3, [177])]),
  (172, [(.iload 5, 2, []), (.goto 5, 3, [179])]),
  (177, [(.iload 6, 2, [])]),
  (179, [(.istore 8, 2, []), (.iload_n 3, 1, []), (.ifCond .ne 8, 3, [190])]),
  (185, [(.iload 4, 2, []), (.goto 31, 3, [218])]),
  (190, [(.iload_n 3, 1, []), (.iload_n 2, 1, []), (.if_icmp .le 8, 3, [200])]),
  (195, [(.bipush (-2), 2, []), (.goto 21, 3, [218])]),
  (200, [(.bipush 10, 2, []), (.iload 8, 2, []), (.aload_n 0, 1, []), (.getfield 234, 3, [12, 14, 0, 1420, 0]), (.idiv, 1, []), (.imul, 1, []), (.iload 8, 2, []), (.aload_n 0, 1, []), (.getfield 234, 3, [12, 14, 0, 1420, 0]), (.irem, 1, []), (.iadd, 1, [])]),
  (218, [(.ireturn, 1, [0])])]
set_option maxRecDepth 100000 in
theorem ok_222 : chkM 222 seg_222 = true := by decide +kernel
-- AC_isDuel
def seg_223 : SegL := [
  (0, [(.aload_n 0, 1, []), (.iload_n 1, 1, []), (.iload_n 2, 1, []), (.invokevirtual 167, 3, [116, 3, 917, 0, 3, 0, 0, 0, 0, 11])]),
  (6, [(.ifCond .eq 28, 3, [34])]),
  (9, [(.aload_n 0, 1, []), (.getfield 16, 3, [11, 1, 2, 655, 0]), (.getfield 140, 3, [8, 1, 2, 171, 1]), (.iload_n 1, 1, []), (.iaload, 1, []), (.aload_n 0, 1, []), (.getfield 16, 3, [11, 1, 2, 655, 0]), (.getfield 140, 3, [8, 1, 2, 171, 1]), (.iload_n 2, 1, []), (.iaload, 1, []), (.if_icmp .ne 7, 3, [34])]),
  (30, [(.iconst 1, 1, []), (.goto 4, 3, [35])]),
  (34, [(.iconst 0, 1, [])]),
  (35, [(.ireturn, 1, [3])])]
set_option maxRecDepth 100000 in
theorem ok_223 : chkM 223 seg_223 = true := by decide +kernel
-- Search_askIfAllowed
def seg_224 : SegL := [
  (0, [(.iload 4, 2, []), (.aload_n 1, 1, []), (.getfield 59, 3, [6, 2, 2, 625, 1]), (.getfield 76, 3, [0, 2, 2, 371, 1]), (.getfield 71, 3, [4, 2, 0, 329, 1]), (.if_icmp .ge 31, 3, [43])]),
  (15, [(.aload_n 1, 1, []), (.aload_n 0, 1, []), (.getfield 12, 3, [7, 0, 2, 268, 0]), (.iload_n 2, 1, []), (.iload_n 3, 1, []), (.iload 4, 2, []), (.invokevirtual 79, 3, [121, 5, 1183, 0, 5, 0, 0, 0, 0, 6])]),
  (27, [(.ifCond .eq 16, 3, [43])]),
  (30, [(.aload_n 1, 1, []), (.aload_n 0, 1, []), (.getfield 12, 3, [7, 0, 2, 268, 0]), (.iload_n 2, 1, []), (.iload_n 3, 1, []), (.iload 4, 2, []), (.invokevirtual 87, 3, [149, 5, 1185, 0, 9, 0, 0, 0, 0, 6])]),
  (42, [(.pop, 1, [])]),
  (43, [(.return_, 1, [])])]
set_option maxRecDepth 100000 in
theorem ok_224 : chkM 224 seg_224 = true := by decide +kernel
-- Search_isRest
def seg_225 : SegL := [
  (0, [(.bipush 9, 2, []), (.iload_n 1, 1, []), (.imul, 1, []), (.iload_n 2, 1, []), (.iadd, 1, []), (.istore 4, 2, []), (.iconst 0, 1, []), (.istore 5, 2, [])]),
  (11, [(.iload 5, 2, []), (.iload_n 3, 1, []), (.if_icmp .gt 55, 3, [69])]),
  (17, [(.aload_n 0, 1, []), (.getfield 25, 3, [7, 8, 2, 279, 0]), (.bipush 9, 2, []), (.iload 5, 2, []), (.imul, 1, []), (.iload_n 2, 1, []), (.iadd, 1, []), (.iaload, 1, []), (.aload_n 0, 1, []), (.getfield 25, 3, [7, 8, 2, 279, 0]), (.iload 4, 2, []), (.iaload, 1, []), (.if_icmp .gt 25, 3, [61])]),
  (39, [(.aload_n 0, 1, []), (.getfield 28, 3, [7, 9, 2, 280, 0]), (.bipush 9, 2, []), (.iload_n 1, 1, []), (.imul, 1, []), (.iload 5, 2, []), (.iadd, 1, []), (.iaload, 1, []), (.aload_n 0, 1, []), (.getfield 28, 3, [7, 9, 2, 280, 0]), (.iload 4, 2, []), (.iaload, 1, []), (.if_icmp .le 5, 3, [63])]),
  (61, [(.iconst 0, 1, []), (.ireturn, 1, [3])]),
  (63, [(.iinc 5 1, 3, []), (.goto (-55), 3, [11])]),
  (69, [(.iconst 1, 1, []), (.ireturn, 1, [3])])]
set_option maxRecDepth 100000 in
theorem ok_225 : chkM 225 seg_225 = true := by decide +kernel
-- Search_findRests
def seg_226 : SegL := [
  (0, [(.aload_n 1, 1, []), (.getfield 59, 3, [6, 2, 2, 625, 1]), (.getfield 76, 3, [0, 2, 2, 371, 1]), (.getfield 71, 3, [4, 2, 0, 329, 1]), (.istore 5, 2, []), (.iconst 0, 1, []), (.istore 6, 2, [])]),
  (15, [(.iload 6, 2, []), (.iload 5, 2, []), (.if_icmp .gt 127, 3, [146])]),
  (22, [(.iconst 0, 1, []), (.istore 7, 2, [])]),
  (25, [(.iload 7, 2, []), (.iload 5, 2, []), (.if_icmp .gt 111, 3, [140])]),
  (32, [(.aload_n 0, 1, []), (.getfield 12, 3, [7, 0, 2, 268, 0]), (.aload_n 2, 1, []), (.invokevirtual 83, 3, [142, 2, 1184, 0, 3, 0, 0, 0, 0, 8])]),
  (40, [(.aload_n 0, 1, []), (.aload_n 1, 1, []), (.iload_n 3, 1, []), (.iload 4, 2, []), (.iload 6, 2, []), (.invokevirtual 115, 3, [224, 5, 1219, 0, 5, 0, 0, 0, 0, 7])]),
  (50, [(.aload_n 0, 1, []), (.aload_n 1, 1, []), (.iload 4, 2, []), (.iload_n 3, 1, []), (.iload 7, 2, []), (.invokevirtual 115, 3, [224, 5, 1219, 0, 5, 0, 0, 0, 0, 7])]),
  (60, [(.bipush 9, 2, []), (.iload 6, 2, []), (.imul, 1, []), (.iload 7, 2, []), (.iadd, 1, []), (.istore 8, 2, []), (.aload_n 0, 1, []), (.getfield 25, 3, [7, 8, 2, 279, 0]), (.iload 8, 2, []), (.aload_n 0, 1, []), (.getfield 12, 3, [7, 0, 2, 268, 0]), (.getfield 119, 3, [8, 0, 2, 168, 1]), (.iload_n 3, 1, []), (.iaload, 1, []), (.invokestatic 122, 3, [127, 1, 1223, 0, 1, 0, 0, 0, 0, 99])]),
  (88, [(.iconst 2, 1, []), (.aload_n 0, 1, []), (.getfield 12, 3, [7, 0, 2, 268, 0]), (.getfield 127, 3, [8, 2, 2, 175, 1]), (.iload_n 3, 1, []), (.iaload, 1, []), (.imul, 1, []), (.isub, 1, []), (.iastore, 1, []), (.aload_n 0, 1, []), (.getfield 28, 3, [7, 9, 2, 280, 0]), (.iload 8, 2, []), (.aload_n 0, 1, []), (.getfield 12, 3, [7, 0, 2, 268, 0]), (.getfield 119, 3, [8, 0, 2, 168, 1]), (.iload 4, 2, []), (.iaload, 1, []), (.invokestatic 122, 3, [127, 1, 1223, 0, 1, 0, 0, 0, 0, 99])]),
  (120, [(.iconst 2, 1, []), (.aload_n 0, 1, []), (.getfield 12, 3, [7, 0, 2, 268, 0]), (.getfield 127, 3, [8, 2, 2, 175, 1]), (.iload 4, 2, []), (.iaload, 1, []), (.imul, 1, []), (.isub, 1, []), (.iastore, 1, []), (.iinc 7 1, 3, []), (.goto (-112), 3, [25])]),
  (140, [(.iinc 6 1, 3, []), (.goto (-128), 3, [15])]),
  (146, [(.aload_n 0, 1, []), (.iconst 0, 1, []), (.putfield 130, 3, [7, 11, 0, 283, 0, 0]), (.iconst 0, 1, []), (.istore 6, 2, [])]),
  (154, [(.iload 6, 2, []), (.iload 5, 2, []), (.if_icmp .gt 65, 3, [223])]),
  (161, [(.iconst 0, 1, []), (.istore 7, 2, [])]),
  (164, [(.iload 7, 2, []), (.iload 5, 2, []), (.if_icmp .gt 49, 3, [217])]),
  (171, [(.aload_n 0, 1, []), (.iload 6, 2, []), (.iload 7, 2, []), (.iload 5, 2, []), (.invokevirtual 133, 3, [225, 4, 1224, 0, 6, 0, 0, 0, 0, 7])]),
  (181, [(.ifCond .eq 30, 3, [211])]),
  (184, [(.aload_n 0, 1, []), (.getfield 31, 3, [7, 10, 2, 281, 0]), (.aload_n 0, 1, []), (.getfield 130, 3, [7, 11, 0, 283, 0]), (.bipush 100, 2, []), (.iload 6, 2, []), (.imul, 1, []), (.iload 7, 2, []), (.iadd, 1, []), (.iastore, 1, []), (.aload_n 0, 1, []), (.dup, 1, []), (.getfield 130, 3, [7, 11, 0, 283, 0]), (.iconst 1, 1, []), (.iadd, 1, []), (.putfield 130, 3, [7, 11, 0, 283, 0, 0])]),
  (211, [(.iinc 7 1, 3, []), (.goto (-50), 3, [164])]),
  (217, [(.iinc 6 1, 3, []), (.goto (-66), 3, [154])]),
  (223, [(.return_, 1, [])])]
set_option maxRecDepth 100000 in
theorem ok_226 : chkM 226 seg_226 = true := by decide +kernel
-- AC_rests
def seg_227 : SegL := [
  (0, [(.aload_n 0, 1, []), (.iload_n 1, 1, []), (.iload_n 2, 1, []), (.invokevirtual 318, 3, [223, 3, 1211, 0, 3, 0, 0, 0, 0, 11])]),
  (6, [(.ifCond .ne 5, 3, [11])]),
  (9, [(.iconst (-1), 1, []), (.ireturn, 1, [0])]),
  (11, [(.aload_n 0, 1, []), (.getfield 71, 3, [11, 10, 2, 664, 0]), (.aload_n 0, 1, []), (.getfield 50, 3, [11, 7, 2, 661, 0]), (.invokevirtual 171, 3, [117, 2, 921, 0, 2, 0, 0, 0, 0, 6])]),
  (22, [(.aload_n 0, 1, []), (.getfield 40, 3, [11, 5, 2, 659, 0]), (.aload_n 0, 1, []), (.getfield 71, 3, [11, 10, 2, 664, 0]), (.aload_n 0, 1, []), (.getfield 16, 3, [11, 1, 2, 655, 0]), (.iload_n 1, 1, []), (.iload_n 2, 1, []), (.invokevirtual 321, 3, [226, 5, 1215, 0, 9, 0, 0, 0, 0, 7])]),
  (39, [(.aload_n 0, 1, []), (.getfield 40, 3, [11, 5, 2, 659, 0]), (.getfield 325, 3, [7, 11, 0, 284, 1]), (.ireturn, 1, [0])])]
set_option maxRecDepth 100000 in
theorem ok_227 : chkM 227 seg_227 = true := by decide +kernel
-- MD_areTwo
def seg_228 : SegL := [
  (0, [(.aload_n 0, 1, []), (.iload_n 1, 1, []), (.invokevirtual 443, 3, [109, 2, 1803, 0, 2, 0, 0, 0, 0, 12])]),
  (5, [(.ifCond .eq 35, 3, [40])]),
  (8, [(.aload_n 0, 1, []), (.iload_n 2, 1, []), (.invokevirtual 443, 3, [109, 2, 1803, 0, 2, 0, 0, 0, 0, 12])]),
  (13, [(.ifCond .eq 27, 3, [40])]),
  (16, [(.iload_n 1, 1, []), (.iload_n 2, 1, []), (.if_icmp .eq 22, 3, [40])]),
  (21, [(.aload_n 0, 1, []), (.getfield 106, 3, [12, 57, 2, 1463, 0]), (.iload_n 1, 1, []), (.iaload, 1, []), (.aload_n 0, 1, []), (.getfield 106, 3, [12, 57, 2, 1463, 0]), (.iload_n 2, 1, []), (.iaload, 1, []), (.if_icmp .ne 7, 3, [40])]),
  (36, [(.iconst 1, 1, []), (.goto 4, 3, [41])]),
  (40, [(.iconst 0, 1, [])]),
  (41, [(.ireturn, 1, [3])])]
set_option maxRecDepth 100000 in
theorem ok_228 : chkM 228 seg_228 = true := by decide +kernel
-- MD_gainOf
def seg_229 : SegL := [
  (0, [(.aload_n 0, 1, []), (.getfield 100, 3, [12, 55, 2, 1461, 0]), (.iconst 5, 1, []), (.iload_n 1, 1, []), (.iadd, 1, []), (.iaload, 1, []), (.invokestatic 407, 3, [134, 1, 1844, 0, 3, 0, 0, 0, 0, 12])]),
  (11, [(.aload_n 0, 1, []), (.getfield 100, 3, [12, 55, 2, 1461, 0]), (.iload_n 1, 1, []), (.iaload, 1, []), (.invokestatic 407, 3, [134, 1, 1844, 0, 3, 0, 0, 0, 0, 12])]),
  (20, [(.isub, 1, []), (.iconst 2, 1, []), (.aload_n 0, 1, []), (.getfield 103, 3, [12, 56, 2, 1462, 0]), (.iconst 5, 1, []), (.iload_n 1, 1, []), (.iadd, 1, []), (.iaload, 1, []), (.aload_n 0, 1, []), (.getfield 103, 3, [12, 56, 2, 1462, 0]), (.iload_n 1, 1, []), (.iaload, 1, []), (.isub, 1, []), (.imul, 1, []), (.isub, 1, []), (.ireturn, 1, [0])])]
set_option maxRecDepth 100000 in
theorem ok_229 : chkM 229 seg_229 = true := by decide +kernel
-- MD_restAt
def seg_230_0 : SegL := [
  (0, [(.aload_n 0, 1, []), (.getfield 234, 3, [12, 14, 0, 1420, 0]), (.iconst 1, 1, []), (.iadd, 1, []), (.istore 4, 2, []), (.iconst 0, 1, []), (.istore 5, 2, [])]),
  (11, [(.iload 5, 2, []), (.iload 4, 2, []), (.iload 4, 2, []), (.imul, 1, []), (.if_icmp .ge 135, 3, [153])]),
  (21, [(.aload_n 0, 1, []), (.invokevirtual 470, 3, [171, 1, 1925, 0, 2, 0, 0, 0, 0, 12])]),
  (25, [(.iload 5, 2, []), (.iload 4, 2, []), (.idiv, 1, []), (.aload_n 0, 1, []), (.getfield 234, 3, [12, 14, 0, 1420, 0]), (.if_icmp .ge 37, 3, [71])]),
  (37, [(.aload_n 0, 1, []), (.iconst 1, 1, []), (.iload_n 1, 1, []), (.iload_n 2, 1, []), (.iload 5, 2, []), (.iload 4, 2, []), (.idiv, 1, []), (.invokevirtual 452, 3, [124, 5, 1823, 0, 5, 0, 0, 0, 0, 12])]),
  (49, [(.ifCond .eq 22, 3, [71])]),
  (52, [(.aload_n 0, 1, []), (.iconst 1, 1, []), (.iload_n 1, 1, []), (.iload_n 2, 1, []), (.iload 5, 2, []), (.iload 4, 2, []), (.idiv, 1, []), (.invokevirtual 461, 3, [157, 5, 1880, 0, 6, 0, 0, 0, 0, 12])]),
  (64, [(.ifCond .eq 7, 3, [71])]),
  (67, [(.iconst 1, 1, []), (.goto 4, 3, [72])]),
  (71, [(.iconst 0, 1, [])]),
  (72, [(.istore 6, 2, []), (.iload 5, 2, []), (.iload 4, 2, []), (.irem, 1, []), (.aload_n 0, 1, []), (.getfield 234, 3, [12, 14, 0, 1420, 0]), (.if_icmp .ge 37, 3, [120])])]
set_option maxRecDepth 100000 in
theorem seg_230_0_ok : chkM 230 seg_230_0 = true := by decide +kernel
def seg_230_1 : SegL := [
  (86, [(.aload_n 0, 1, []), (.iconst 1, 1, []), (.iload_n 2, 1, []), (.iload_n 1, 1, []), (.iload 5, 2, []), (.iload 4, 2, []), (.irem, 1, []), (.invokevirtual 452, 3, [124, 5, 1823, 0, 5, 0, 0, 0, 0, 12])]),
  (98, [(.ifCond .eq 22, 3, [120])]),
  (101, [(.aload_n 0, 1, []), (.iconst 1, 1, []), (.iload_n 2, 1, []), (.iload_n 1, 1, []), (.iload 5, 2, []), (.iload 4, 2, []), (.irem, 1, []), (.invokevirtual 461, 3, [157, 5, 1880, 0, 6, 0, 0, 0, 0, 12])]),
  (113, [(.ifCond .eq 7, 3, [120])]),
  (116, [(.iconst 1, 1, []), (.goto 4, 3, [121])]),
  (120, [(.iconst 0, 1, [])]),
  (121, [(.istore 6, 2, []), (.aload_n 0, 1, []), (.getfield 118, 3, [12, 69, 2, 1475, 0]), (.iload 5, 2, []), (.aload_n 0, 1, []), (.iload_n 1, 1, []), (.invokevirtual 510, 3, [229, 2, 2037, 0, 2, 0, 0, 0, 0, 12])]),
  (134, [(.iastore, 1, []), (.aload_n 0, 1, []), (.getfield 121, 3, [12, 70, 2, 1476, 0]), (.iload 5, 2, []), (.aload_n 0, 1, []), (.iload_n 2, 1, []), (.invokevirtual 510, 3, [229, 2, 2037, 0, 2, 0, 0, 0, 0, 12])]),
  (146, [(.iastore, 1, []), (.iinc 5 1, 3, []), (.goto (-139), 3, [11])]),
  (153, [(.iconst 0, 1, []), (.istore 5, 2, []), (.iconst 0, 1, []), (.istore 6, 2, [])]),
  (159, [(.iload 6, 2, []), (.iload 4, 2, []), (.iload 4, 2, []), (.imul, 1, []), (.if_icmp .ge 124, 3, [290])])]
set_option maxRecDepth 100000 in
theorem seg_230_1_ok : chkM 230 seg_230_1 = true := by decide +kernel
def seg_230_2 : SegL := [
  (169, [(.iconst 1, 1, []), (.istore 7, 2, []), (.iconst 0, 1, []), (.istore 8, 2, [])]),
  (175, [(.iload 8, 2, []), (.iload 4, 2, []), (.if_icmp .ge 73, 3, [252])]),
  (182, [(.iload 7, 2, []), (.ifCond .eq 59, 3, [243])]),
  (187, [(.aload_n 0, 1, []), (.getfield 118, 3, [12, 69, 2, 1475, 0]), (.iload 4, 2, []), (.iload 8, 2, []), (.imul, 1, []), (.iload 6, 2, []), (.iload 4, 2, []), (.irem, 1, []), (.iadd, 1, []), (.iaload, 1, []), (.aload_n 0, 1, []), (.getfield 118, 3, [12, 69, 2, 1475, 0]), (.iload 6, 2, []), (.iaload, 1, []), (.if_icmp .gt 33, 3, [243])]),
  (213, [(.aload_n 0, 1, []), (.getfield 121, 3, [12, 70, 2, 1476, 0]), (.iload 6, 2, []), (.iload 4, 2, []), (.idiv, 1, []), (.iload 4, 2, []), (.imul, 1, []), (.iload 8, 2, []), (.iadd, 1, []), (.iaload, 1, []), (.aload_n 0, 1, []), (.getfield 121, 3, [12, 70, 2, 1476, 0]), (.iload 6, 2, []), (.iaload, 1, []), (.if_icmp .gt 7, 3, [243])]),
  (239, [(.iconst 1, 1, []), (.goto 4, 3, [244])]),
  (243, [(.iconst 0, 1, [])]),
  (244, [(.istore 7, 2, []), (.iinc 8 1, 3, []), (.goto (-74), 3, [175])]),
  (252, [(.iload 7, 2, []), (.ifCond .ne 6, 3, [260])]),
  (257, [(.goto 27, 3, [284])])]
set_option maxRecDepth 100000 in
theorem seg_230_2_ok : chkM 230 seg_230_2 = true := by decide +kernel
def seg_230_3 : SegL := [
  (260, [(.iload 5, 2, []), (.iload_n 3, 1, []), (.if_icmp .ne 18, 3, [281])]),
  (266, [(.bipush 100, 2, []), (.iload 6, 2, []), (.iload 4, 2, []), (.idiv, 1, []), (.imul, 1, []), (.iload 6, 2, []), (.iload 4, 2, []), (.irem, 1, []), (.iadd, 1, []), (.ireturn, 1, [0])]),
  (281, [(.iinc 5 1, 3, [])]),
  (284, [(.iinc 6 1, 3, []), (.goto (-128), 3, [159])]),
  (290, [(.iload_n 3, 1, []), (.ifCond .ge 8, 3, [299])]),
  (294, [(.iload 5, 2, []), (.goto 5, 3, [301])]),
  (299, [(.bipush (-2), 2, [])]),
  (301, [(.ireturn, 1, [0])])]
set_option maxRecDepth 100000 in
theorem seg_230_3_ok : chkM 230 seg_230_3 = true := by decide +kernel
def seg_230 : SegL := seg_230_0 ++ (seg_230_1 ++ (seg_230_2 ++ (seg_230_3)))
theorem ok_230 : chkM 230 seg_230 = true := (chkM_app _ _ _ seg_230_0_ok (chkM_app _ _ _ seg_230_1_ok (chkM_app _ _ _ seg_230_2_ok seg_230_3_ok)))
-- MD_rests
def seg_231 : SegL := [
  (0, [(.aload_n 0, 1, []), (.iconst 0, 1, []), (.putfield 148, 3, [12, 2, 0, 1408, 0, 0]), (.aload_n 0, 1, []), (.iload_n 1, 1, []), (.iload_n 2, 1, []), (.invokevirtual 513, 3, [228, 3, 2029, 0, 3, 0, 0, 0, 0, 12])]),
  (11, [(.ifCond .eq 13, 3, [24])]),
  (14, [(.aload_n 0, 1, []), (.iload_n 1, 1, []), (.iload_n 2, 1, []), (.iconst (-1), 1, []), (.invokevirtual 516, 3, [230, 4, 2033, 0, 9, 0, 0, 0, 0, 12])]),
  (21, [(.goto 4, 3, [25])]),
  (24, [(.iconst (-1), 1, [])]),
  (25, [(.ireturn, 1, [0])])]
set_option maxRecDepth 100000 in
theorem ok_231 : chkM 231 seg_231 = true := by decide +kernel
-- AC_rest
def seg_232 : SegL := [
  (0, [(.aload_n 0, 1, []), (.iload_n 1, 1, []), (.iload_n 2, 1, []), (.invokevirtual 318, 3, [223, 3, 1211, 0, 3, 0, 0, 0, 0, 11])]),
  (6, [(.ifCond .eq 7, 3, [13])]),
  (9, [(.iload_n 3, 1, []), (.ifCond .ge 5, 3, [15])]),
  (13, [(.iconst (-1), 1, []), (.ireturn, 1, [0])]),
  (15, [(.aload_n 0, 1, []), (.getfield 71, 3, [11, 10, 2, 664, 0]), (.aload_n 0, 1, []), (.getfield 50, 3, [11, 7, 2, 661, 0]), (.invokevirtual 171, 3, [117, 2, 921, 0, 2, 0, 0, 0, 0, 6])]),
  (26, [(.aload_n 0, 1, []), (.getfield 40, 3, [11, 5, 2, 659, 0]), (.aload_n 0, 1, []), (.getfield 71, 3, [11, 10, 2, 664, 0]), (.aload_n 0, 1, []), (.getfield 16, 3, [11, 1, 2, 655, 0]), (.iload_n 1, 1, []), (.iload_n 2, 1, []), (.invokevirtual 321, 3, [226, 5, 1215, 0, 9, 0, 0, 0, 0, 7])]),
  (43, [(.iload_n 3, 1, []), (.aload_n 0, 1, []), (.getfield 40, 3, [11, 5, 2, 659, 0]), (.getfield 325, 3, [7, 11, 0, 284, 1]), (.if_icmp .ge 15, 3, [66])]),
  (54, [(.aload_n 0, 1, []), (.getfield 40, 3, [11, 5, 2, 659, 0]), (.getfield 328, 3, [7, 10, 2, 282, 1]), (.iload_n 3, 1, []), (.iaload, 1, []), (.goto 5, 3, [68])]),
  (66, [(.bipush (-2), 2, [])]),
  (68, [(.ireturn, 1, [0])])]
set_option maxRecDepth 100000 in
theorem ok_232 : chkM 232 seg_232 = true := by decide +kernel
-- MD_rest
def seg_233 : SegL := [
  (0, [(.aload_n 0, 1, []), (.iconst 0, 1, []), (.putfield 148, 3, [12, 2, 0, 1408, 0, 0]), (.aload_n 0, 1, []), (.iload_n 1, 1, []), (.iload_n 2, 1, []), (.invokevirtual 513, 3, [228, 3, 2029, 0, 3, 0, 0, 0, 0, 12])]),
  (11, [(.ifCond .eq 17, 3, [28])]),
  (14, [(.iload_n 3, 1, []), (.ifCond .lt 13, 3, [28])]),
  (18, [(.aload_n 0, 1, []), (.iload_n 1, 1, []), (.iload_n 2, 1, []), (.iload_n 3, 1, []), (.invokevirtual 516, 3, [230, 4, 2033, 0, 9, 0, 0, 0, 0, 12])]),
  (25, [(.goto 4, 3, [29])]),
  (28, [(.iconst (-1), 1, [])]),
  (29, [(.ireturn, 1, [0])])]
set_option maxRecDepth 100000 in
theorem ok_233 : chkM 233 seg_233 = true := by decide +kernel
-- Rules_hold
def seg_234 : SegL := [
  (0, [(.iload_n 2, 1, []), (.istore 4, 2, [])]),
  (3, [(.iload 4, 2, []), (.iload_n 3, 1, []), (.if_icmp .ge 83, 3, [89])]),
  (9, [(.iload 4, 2, []), (.aload_n 0, 1, []), (.getfield 25, 3, [6, 2, 2, 624, 0]), (.getfield 159, 3, [0, 16, 0, 425, 1]), (.if_icmp .ge 71, 3, [89])]),
  (21, [(.aload_n 0, 1, []), (.getfield 25, 3, [6, 2, 2, 624, 0]), (.getfield 162, 3, [0, 11, 2, 406, 1]), (.iload 4, 2, []), (.iaload, 1, []), (.istore 5, 2, []), (.aload_n 0, 1, []), (.getfield 25, 3, [6, 2, 2, 624, 0]), (.getfield 165, 3, [0, 12, 2, 409, 1]), (.iload 4, 2, []), (.iaload, 1, []), (.istore 6, 2, []), (.aload_n 0, 1, []), (.getfield 25, 3, [6, 2, 2, 624, 0]), (.getfield 168, 3, [0, 13, 2, 412, 1]), (.iload 4, 2, []), (.iaload, 1, []), (.istore 7, 2, []), (.aload_n 0, 1, []), (.aload_n 1, 1, []), (.iload 5, 2, []), (.iload 6, 2, []), (.iload 7, 2, []), (.invokevirtual 52, 3, [120, 5, 929, 0, 5, 0, 0, 0, 0, 6])]),
  (68, [(.ifCond .eq 15, 3, [83])]),
  (71, [(.aload_n 0, 1, []), (.aload_n 1, 1, []), (.iload 5, 2, []), (.iload 6, 2, []), (.iload 7, 2, []), (.invokevirtual 156, 3, [149, 5, 1082, 0, 9, 0, 0, 0, 0, 6])]),
  (82, [(.pop, 1, [])]),
  (83, [(.iinc 4 1, 3, []), (.goto (-83), 3, [3])]),
  (89, [(.return_, 1, [])])]
set_option maxRecDepth 100000 in
theorem ok_234 : chkM 234 seg_234 = true := by decide +kernel
-- AC_slipped
def seg_235 : SegL := [
  (0, [(.aload_n 0, 1, []), (.getfield 50, 3, [11, 7, 2, 661, 0]), (.getfield 121, 3, [0, 1, 2, 369, 1]), (.iload_n 1, 1, []), (.invokevirtual 127, 3, [106, 2, 909, 0, 2, 0, 0, 0, 0, 4])]),
  (11, [(.ifCond .ne 5, 3, [16])]),
  (14, [(.iconst (-1), 1, []), (.ireturn, 1, [0])]),
  (16, [(.aload_n 0, 1, []), (.getfield 71, 3, [11, 10, 2, 664, 0]), (.aload_n 0, 1, []), (.getfield 50, 3, [11, 7, 2, 661, 0]), (.invokevirtual 171, 3, [117, 2, 921, 0, 2, 0, 0, 0, 0, 6])]),
  (27, [(.aload_n 0, 1, []), (.getfield 44, 3, [11, 6, 2, 660, 0]), (.aload_n 0, 1, []), (.getfield 50, 3, [11, 7, 2, 661, 0]), (.invokevirtual 97, 3, [64, 2, 880, 0, 3, 0, 0, 0, 0, 8])]),
  (38, [(.aload_n 0, 1, []), (.getfield 71, 3, [11, 10, 2, 664, 0]), (.aload_n 0, 1, []), (.getfield 44, 3, [11, 6, 2, 660, 0]), (.iconst 0, 1, []), (.aload_n 0, 1, []), (.getfield 50, 3, [11, 7, 2, 661, 0]), (.getfield 192, 3, [0, 16, 0, 424, 1]), (.invokevirtual 331, 3, [234, 4, 1236, 0, 8, 0, 0, 0, 0, 6])]),
  (57, [(.aload_n 0, 1, []), (.getfield 44, 3, [11, 6, 2, 660, 0]), (.getfield 146, 3, [8, 2, 2, 174, 1]), (.iload_n 1, 1, []), (.iaload, 1, []), (.ireturn, 1, [0])])]
set_option maxRecDepth 100000 in
theorem ok_235 : chkM 235 seg_235 = true := by decide +kernel
-- MD_layTextTried
def seg_236 : SegL := [
  (0, [(.aload_n 0, 1, []), (.iconst 1, 1, []), (.invokevirtual 361, 3, [14, 2, 1398, 0, 3, 0, 0, 0, 0, 12])]),
  (5, [(.aload_n 0, 1, []), (.invokevirtual 371, 3, [15, 1, 1402, 0, 1, 0, 0, 0, 0, 12])]),
  (9, [(.aload_n 0, 1, []), (.iconst 1, 1, []), (.putfield 386, 3, [12, 63, 3, 1469, 0, 0]), (.return_, 1, [])])]
set_option maxRecDepth 100000 in
theorem ok_236 : chkM 236 seg_236 = true := by decide +kernel
-- MD_talkOf
def seg_237 : SegL := [
  (0, [(.aload_n 0, 1, []), (.iconst 1, 1, []), (.aload_n 0, 1, []), (.getfield 60, 3, [12, 35, 2, 1441, 0]), (.iload_n 1, 1, []), (.iaload, 1, []), (.aload_n 0, 1, []), (.getfield 63, 3, [12, 36, 2, 1442, 0]), (.iload_n 1, 1, []), (.iaload, 1, []), (.aload_n 0, 1, []), (.getfield 66, 3, [12, 37, 2, 1443, 0]), (.iload_n 1, 1, []), (.iaload, 1, []), (.invokevirtual 452, 3, [124, 5, 1823, 0, 5, 0, 0, 0, 0, 12])]),
  (23, [(.ifCond .eq 33, 3, [56])]),
  (26, [(.aload_n 0, 1, []), (.iconst 1, 1, []), (.aload_n 0, 1, []), (.getfield 60, 3, [12, 35, 2, 1441, 0]), (.iload_n 1, 1, []), (.iaload, 1, []), (.aload_n 0, 1, []), (.getfield 63, 3, [12, 36, 2, 1442, 0]), (.iload_n 1, 1, []), (.iaload, 1, []), (.aload_n 0, 1, []), (.getfield 66, 3, [12, 37, 2, 1443, 0]), (.iload_n 1, 1, []), (.iaload, 1, []), (.invokevirtual 461, 3, [157, 5, 1880, 0, 6, 0, 0, 0, 0, 12])]),
  (49, [(.ifCond .eq 7, 3, [56])]),
  (52, [(.iconst 1, 1, []), (.goto 4, 3, [57])]),
  (56, [(.iconst 0, 1, [])]),
  (57, [(.istore_n 2, 1, []), (.return_, 1, [])])]
set_option maxRecDepth 100000 in
theorem ok_237 : chkM 237 seg_237 = true := by decide +kernel
-- MD_slipped
def seg_238 : SegL := [
  (0, [(.aload_n 0, 1, []), (.iconst 0, 1, []), (.putfield 148, 3, [12, 2, 0, 1408, 0, 0]), (.aload_n 0, 1, []), (.iload_n 1, 1, []), (.invokevirtual 443, 3, [109, 2, 1803, 0, 2, 0, 0, 0, 0, 12])]),
  (10, [(.ifCond .ne 5, 3, [15])]),
  (13, [(.iconst (-1), 1, []), (.ireturn, 1, [0])]),
  (15, [(.aload_n 0, 1, []), (.invokevirtual 519, 3, [236, 1, 2049, 0, 1, 0, 0, 0, 0, 12])]),
  (19, [(.iconst 0, 1, []), (.istore_n 2, 1, [])]),
  (21, [(.iload_n 2, 1, []), (.aload_n 0, 1, []), (.getfield 237, 3, [12, 15, 0, 1421, 0]), (.if_icmp .ge 14, 3, [40])]),
  (29, [(.aload_n 0, 1, []), (.iload_n 2, 1, []), (.invokevirtual 522, 3, [237, 2, 2053, 0, 3, 0, 0, 0, 0, 12])]),
  (34, [(.iinc 2 1, 3, []), (.goto (-16), 3, [21])]),
  (40, [(.aload_n 0, 1, []), (.getfield 103, 3, [12, 56, 2, 1462, 0]), (.iconst 5, 1, []), (.iload_n 1, 1, []), (.iadd, 1, []), (.iaload, 1, []), (.ireturn, 1, [0])])]
set_option maxRecDepth 100000 in
theorem ok_238 : chkM 238 seg_238 = true := by decide +kernel
-- AC_behind
def seg_239 : SegL := [
  (0, [(.aload_n 0, 1, []), (.getfield 50, 3, [11, 7, 2, 661, 0]), (.getfield 121, 3, [0, 1, 2, 369, 1]), (.iload_n 2, 1, []), (.invokevirtual 127, 3, [106, 2, 909, 0, 2, 0, 0, 0, 0, 4])]),
  (11, [(.ifCond .eq 18, 3, [29])]),
  (14, [(.iload_n 1, 1, []), (.ifCond .lt 14, 3, [29])]),
  (18, [(.iload_n 1, 1, []), (.aload_n 0, 1, []), (.getfield 50, 3, [11, 7, 2, 661, 0]), (.getfield 192, 3, [0, 16, 0, 424, 1]), (.if_icmp .le 5, 3, [31])]),
  (29, [(.iconst (-1), 1, []), (.ireturn, 1, [0])]),
  (31, [(.aload_n 0, 1, []), (.getfield 71, 3, [11, 10, 2, 664, 0]), (.aload_n 0, 1, []), (.getfield 50, 3, [11, 7, 2, 661, 0]), (.invokevirtual 171, 3, [117, 2, 921, 0, 2, 0, 0, 0, 0, 6])]),
  (42, [(.aload_n 0, 1, []), (.getfield 44, 3, [11, 6, 2, 660, 0]), (.aload_n 0, 1, []), (.getfield 50, 3, [11, 7, 2, 661, 0]), (.invokevirtual 97, 3, [64, 2, 880, 0, 3, 0, 0, 0, 0, 8])]),
  (53, [(.aload_n 0, 1, []), (.getfield 71, 3, [11, 10, 2, 664, 0]), (.aload_n 0, 1, []), (.getfield 44, 3, [11, 6, 2, 660, 0]), (.iconst 0, 1, []), (.iload_n 1, 1, []), (.invokevirtual 331, 3, [234, 4, 1236, 0, 8, 0, 0, 0, 0, 6])]),
  (66, [(.aload_n 0, 1, []), (.getfield 44, 3, [11, 6, 2, 660, 0]), (.getfield 143, 3, [8, 0, 2, 167, 1]), (.iload_n 2, 1, []), (.iaload, 1, []), (.ireturn, 1, [0])])]
set_option maxRecDepth 100000 in
theorem ok_239 : chkM 239 seg_239 = true := by decide +kernel
-- MD_behind
def seg_240 : SegL := [
  (0, [(.aload_n 0, 1, []), (.iconst 0, 1, []), (.putfield 148, 3, [12, 2, 0, 1408, 0, 0]), (.iload_n 1, 1, []), (.iconst 0, 1, []), (.aload_n 0, 1, []), (.getfield 237, 3, [12, 15, 0, 1421, 0]), (.invokestatic 193, 3, [78, 3, 1714, 0, 3, 0, 0, 0, 0, 12])]),
  (14, [(.ifCond .eq 11, 3, [25])]),
  (17, [(.aload_n 0, 1, []), (.iload_n 2, 1, []), (.invokevirtual 443, 3, [109, 2, 1803, 0, 2, 0, 0, 0, 0, 12])]),
  (22, [(.ifCond .ne 5, 3, [27])]),
  (25, [(.iconst (-1), 1, []), (.ireturn, 1, [0])]),
  (27, [(.aload_n 0, 1, []), (.invokevirtual 519, 3, [236, 1, 2049, 0, 1, 0, 0, 0, 0, 12])]),
  (31, [(.iconst 0, 1, []), (.istore_n 3, 1, [])]),
  (33, [(.iload_n 3, 1, []), (.iload_n 1, 1, []), (.if_icmp .ge 14, 3, [49])]),
  (38, [(.aload_n 0, 1, []), (.iload_n 3, 1, []), (.invokevirtual 522, 3, [237, 2, 2053, 0, 3, 0, 0, 0, 0, 12])]),
  (43, [(.iinc 3 1, 3, []), (.goto (-13), 3, [33])]),
  (49, [(.aload_n 0, 1, []), (.getfield 100, 3, [12, 55, 2, 1461, 0]), (.iconst 5, 1, []), (.iload_n 2, 1, []), (.iadd, 1, []), (.iaload, 1, []), (.ireturn, 1, [0])])]
set_option maxRecDepth 100000 in
theorem ok_240 : chkM 240 seg_240 = true := by decide +kernel
-- Notes_isFull
def seg_241 : SegL := [
  (0, [(.aload_n 0, 1, []), (.getfield 35, 3, [5, 6, 0, 238, 0]), (.bipush 24, 2, []), (.if_icmp .lt 7, 3, [13])]),
  (9, [(.iconst 1, 1, []), (.goto 4, 3, [14])]),
  (13, [(.iconst 0, 1, [])]),
  (14, [(.ireturn, 1, [3])])]
set_option maxRecDepth 100000 in
theorem ok_241 : chkM 241 seg_241 = true := by decide +kernel
-- Notes_addNote
def seg_242 : SegL := [
  (0, [(.aload_n 0, 1, []), (.invokevirtual 38, 3, [241, 1, 1256, 0, 1, 0, 0, 0, 0, 5])]),
  (4, [(.ifCond .eq 5, 3, [9])]),
  (7, [(.iconst (-1), 1, []), (.ireturn, 1, [0])]),
  (9, [(.aload_n 0, 1, []), (.getfield 9, 3, [5, 0, 2, 232, 0]), (.aload_n 0, 1, []), (.getfield 35, 3, [5, 6, 0, 238, 0]), (.iload_n 1, 1, []), (.iastore, 1, []), (.aload_n 0, 1, []), (.getfield 15, 3, [5, 1, 2, 233, 0]), (.aload_n 0, 1, []), (.getfield 35, 3, [5, 6, 0, 238, 0]), (.iload_n 2, 1, []), (.iastore, 1, []), (.aload_n 0, 1, []), (.getfield 18, 3, [5, 2, 2, 234, 0]), (.aload_n 0, 1, []), (.getfield 35, 3, [5, 6, 0, 238, 0]), (.iload_n 3, 1, []), (.iastore, 1, []), (.aload_n 0, 1, []), (.getfield 21, 3, [5, 3, 2, 235, 0]), (.aload_n 0, 1, []), (.getfield 35, 3, [5, 6, 0, 238, 0]), (.iload 4, 2, []), (.bastore, 1, []), (.aload_n 0, 1, []), (.getfield 25, 3, [5, 4, 2, 236, 0]), (.aload_n 0, 1, []), (.getfield 35, 3, [5, 6, 0, 238, 0]), (.iconst (-1), 1, []), (.iastore, 1, []), (.aload_n 0, 1, []), (.dup, 1, []), (.getfield 35, 3, [5, 6, 0, 238, 0]), (.iconst 1, 1, []), (.iadd, 1, []), (.putfield 35, 3, [5, 6, 0, 238, 0, 0]), (.aload_n 0, 1, []), (.getfield 35, 3, [5, 6, 0, 238, 0]), (.iconst 1, 1, []), (.isub, 1, []), (.ireturn, 1, [0])])]
set_option maxRecDepth 100000 in
theorem ok_242 : chkM 242 seg_242 = true := by decide +kernel
-- AC_note
def seg_243 : SegL := [
  (0, [(.aload_n 0, 1, []), (.iload_n 2, 1, []), (.iload_n 3, 1, []), (.invokevirtual 225, 3, [159, 3, 1038, 0, 3, 0, 0, 0, 0, 11])]),
  (6, [(.ifCond .eq 28, 3, [34])]),
  (9, [(.iload_n 1, 1, []), (.ifCond .lt 24, 3, [34])]),
  (13, [(.iload_n 1, 1, []), (.aload_n 0, 1, []), (.getfield 50, 3, [11, 7, 2, 661, 0]), (.getfield 192, 3, [0, 16, 0, 424, 1]), (.if_icmp .gt 13, 3, [34])]),
  (24, [(.aload_n 0, 1, []), (.getfield 33, 3, [11, 4, 2, 658, 0]), (.invokevirtual 335, 3, [241, 1, 1248, 0, 1, 0, 0, 0, 0, 5])]),
  (31, [(.ifCond .eq 5, 3, [36])]),
  (34, [(.iconst (-1), 1, []), (.ireturn, 1, [0])]),
  (36, [(.aload_n 0, 1, []), (.getfield 33, 3, [11, 4, 2, 658, 0]), (.iload_n 1, 1, []), (.iload_n 2, 1, []), (.iload_n 3, 1, []), (.iload 4, 2, []), (.invokevirtual 339, 3, [242, 5, 1252, 0, 5, 0, 0, 0, 0, 5])]),
  (48, [(.ireturn, 1, [0])])]
set_option maxRecDepth 100000 in
theorem ok_243 : chkM 243 seg_243 = true := by decide +kernel
-- MD_noted
def seg_244 : SegL := [
  (0, [(.aload_n 0, 1, []), (.getfield 127, 3, [12, 73, 2, 1479, 0]), (.iconst 4, 1, []), (.aload_n 0, 1, []), (.getfield 374, 3, [12, 71, 0, 1477, 0]), (.imul, 1, []), (.iload_n 1, 1, []), (.iastore, 1, []), (.aload_n 0, 1, []), (.getfield 127, 3, [12, 73, 2, 1479, 0]), (.iconst 4, 1, []), (.aload_n 0, 1, []), (.getfield 374, 3, [12, 71, 0, 1477, 0]), (.imul, 1, []), (.iconst 1, 1, []), (.iadd, 1, []), (.iload_n 2, 1, []), (.iastore, 1, []), (.aload_n 0, 1, []), (.getfield 127, 3, [12, 73, 2, 1479, 0]), (.iconst 4, 1, []), (.aload_n 0, 1, []), (.getfield 374, 3, [12, 71, 0, 1477, 0]), (.imul, 1, []), (.iconst 2, 1, []), (.iadd, 1, []), (.iload_n 3, 1, []), (.iastore, 1, []), (.aload_n 0, 1, []), (.getfield 127, 3, [12, 73, 2, 1479, 0]), (.iconst 4, 1, []), (.aload_n 0, 1, []), (.getfield 374, 3, [12, 71, 0, 1477, 0]), (.imul, 1, []), (.iconst 3, 1, []), (.iadd, 1, []), (.iload 4, 2, []), (.iastore, 1, []), (.aload_n 0, 1, []), (.dup, 1, []), (.getfield 374, 3, [12, 71, 0, 1477, 0]), (.iconst 1, 1, []), (.iadd, 1, []), (.putfield 374, 3, [12, 71, 0, 1477, 0, 0]), (.aload_n 0, 1, []), (.getfield 374, 3, [12, 71, 0, 1477, 0]), (.iconst 1, 1, []), (.isub, 1, []), (.ireturn, 1, [0])])]
set_option maxRecDepth 100000 in
theorem ok_244 : chkM 244 seg_244 = true := by decide +kernel
-- MD_note
def seg_245 : SegL := [
  (0, [(.aload_n 0, 1, []), (.iconst 0, 1, []), (.putfield 148, 3, [12, 2, 0, 1408, 0, 0]), (.aload_n 0, 1, []), (.getfield 374, 3, [12, 71, 0, 1477, 0]), (.bipush 24, 2, []), (.if_icmp .eq 31, 3, [42])]),
  (14, [(.iload_n 1, 1, []), (.iconst 0, 1, []), (.aload_n 0, 1, []), (.getfield 237, 3, [12, 15, 0, 1421, 0]), (.invokestatic 193, 3, [78, 3, 1714, 0, 3, 0, 0, 0, 0, 12])]),
  (23, [(.ifCond .eq 19, 3, [42])]),
  (26, [(.aload_n 0, 1, []), (.iload_n 2, 1, []), (.invokevirtual 443, 3, [109, 2, 1803, 0, 2, 0, 0, 0, 0, 12])]),
  (31, [(.ifCond .eq 11, 3, [42])]),
  (34, [(.aload_n 0, 1, []), (.iload_n 3, 1, []), (.invokevirtual 464, 3, [161, 2, 1909, 0, 2, 0, 0, 0, 0, 12])]),
  (39, [(.ifCond .ne 7, 3, [46])]),
  (42, [(.iconst (-1), 1, []), (.goto 20, 3, [63])]),
  (46, [(.aload_n 0, 1, []), (.iload_n 1, 1, []), (.iload_n 2, 1, []), (.iload_n 3, 1, []), (.iload 4, 2, []), (.ifCond .eq 7, 3, [59])]),
  (55, [(.iconst 1, 1, []), (.goto 4, 3, [60])]),
  (59, [(.iconst 0, 1, [])]),
  (60, [(.invokevirtual 525, 3, [244, 5, 2065, 0, 5, 0, 0, 0, 0, 12])]),
  (63, [(.ireturn, 1, [0])])]
set_option maxRecDepth 100000 in
theorem ok_245 : chkM 245 seg_245 = true := by decide +kernel
-- Notes_addStrike
def seg_246 : SegL := [
  (0, [(.aload_n 0, 1, []), (.invokevirtual 38, 3, [241, 1, 1256, 0, 1, 0, 0, 0, 0, 5])]),
  (4, [(.ifCond .eq 5, 3, [9])]),
  (7, [(.iconst (-1), 1, []), (.ireturn, 1, [0])]),
  (9, [(.aload_n 0, 1, []), (.getfield 25, 3, [5, 4, 2, 236, 0]), (.aload_n 0, 1, []), (.getfield 35, 3, [5, 6, 0, 238, 0]), (.iload_n 1, 1, []), (.iastore, 1, []), (.aload_n 0, 1, []), (.dup, 1, []), (.getfield 35, 3, [5, 6, 0, 238, 0]), (.iconst 1, 1, []), (.iadd, 1, []), (.putfield 35, 3, [5, 6, 0, 238, 0, 0]), (.aload_n 0, 1, []), (.getfield 35, 3, [5, 6, 0, 238, 0]), (.iconst 1, 1, []), (.isub, 1, []), (.ireturn, 1, [0])])]
set_option maxRecDepth 100000 in
theorem ok_246 : chkM 246 seg_246 = true := by decide +kernel
-- AC_strike
def seg_247 : SegL := [
  (0, [(.iload_n 1, 1, []), (.ifCond .lt 24, 3, [25])]),
  (4, [(.iload_n 1, 1, []), (.aload_n 0, 1, []), (.getfield 33, 3, [11, 4, 2, 658, 0]), (.getfield 210, 3, [5, 6, 0, 239, 1]), (.if_icmp .ge 13, 3, [25])]),
  (15, [(.aload_n 0, 1, []), (.getfield 33, 3, [11, 4, 2, 658, 0]), (.invokevirtual 335, 3, [241, 1, 1248, 0, 1, 0, 0, 0, 0, 5])]),
  (22, [(.ifCond .eq 5, 3, [27])]),
  (25, [(.iconst (-1), 1, []), (.ireturn, 1, [0])]),
  (27, [(.aload_n 0, 1, []), (.getfield 33, 3, [11, 4, 2, 658, 0]), (.iload_n 1, 1, []), (.invokevirtual 343, 3, [246, 2, 1261, 0, 2, 0, 0, 0, 0, 5])]),
  (35, [(.ireturn, 1, [0])])]
set_option maxRecDepth 100000 in
theorem ok_247 : chkM 247 seg_247 = true := by decide +kernel
-- MD_strike
def seg_248 : SegL := [
  (0, [(.aload_n 0, 1, []), (.iconst 0, 1, []), (.putfield 148, 3, [12, 2, 0, 1408, 0, 0]), (.aload_n 0, 1, []), (.getfield 374, 3, [12, 71, 0, 1477, 0]), (.bipush 24, 2, []), (.if_icmp .eq 15, 3, [26])]),
  (14, [(.iload_n 1, 1, []), (.ifCond .lt 11, 3, [26])]),
  (18, [(.iload_n 1, 1, []), (.aload_n 0, 1, []), (.getfield 374, 3, [12, 71, 0, 1477, 0]), (.if_icmp .lt 7, 3, [30])]),
  (26, [(.iconst (-1), 1, []), (.goto 11, 3, [38])]),
  (30, [(.aload_n 0, 1, []), (.iconst (-1), 1, []), (.iload_n 1, 1, []), (.iconst 0, 1, []), (.iconst 0, 1, []), (.invokevirtual 525, 3, [244, 5, 2065, 0, 5, 0, 0, 0, 0, 12])]),
  (38, [(.ireturn, 1, [0])])]
set_option maxRecDepth 100000 in
theorem ok_248 : chkM 248 seg_248 = true := by decide +kernel
-- AC_known
def seg_249 : SegL := [
  (0, [(.iload_n 1, 1, []), (.iconst (-1), 1, []), (.if_icmp .lt 14, 3, [16])]),
  (5, [(.iload_n 1, 1, []), (.aload_n 0, 1, []), (.getfield 33, 3, [11, 4, 2, 658, 0]), (.getfield 210, 3, [5, 6, 0, 239, 1]), (.if_icmp .le 5, 3, [18])]),
  (16, [(.iconst 0, 1, []), (.ireturn, 1, [3])]),
  (18, [(.aload_n 0, 1, []), (.getfield 33, 3, [11, 4, 2, 658, 0]), (.iload_n 1, 1, []), (.putfield 346, 3, [5, 7, 0, 241, 1, 0]), (.iconst 1, 1, []), (.ireturn, 1, [3])])]
set_option maxRecDepth 100000 in
theorem ok_249 : chkM 249 seg_249 = true := by decide +kernel
def segG_4 : List SegL := [seg_200, seg_201, seg_202, seg_203, seg_204, seg_205, seg_206, seg_207, seg_208, seg_209, seg_210, seg_211, seg_212, seg_213, seg_214, seg_215, seg_216, seg_217, seg_218, seg_219, seg_220, seg_221, seg_222, seg_223, seg_224, seg_225, seg_226, seg_227, seg_228, seg_229, seg_230, seg_231, seg_232, seg_233, seg_234, seg_235, seg_236, seg_237, seg_238, seg_239, seg_240, seg_241, seg_242, seg_243, seg_244, seg_245, seg_246, seg_247, seg_248, seg_249]
theorem okG_4 : okFrom 200 segG_4 := ⟨ok_200, ok_201, ok_202, ok_203, ok_204, ok_205, ok_206, ok_207, ok_208, ok_209, ok_210, ok_211, ok_212, ok_213, ok_214, ok_215, ok_216, ok_217, ok_218, ok_219, ok_220, ok_221, ok_222, ok_223, ok_224, ok_225, ok_226, ok_227, ok_228, ok_229, ok_230, ok_231, ok_232, ok_233, ok_234, ok_235, ok_236, ok_237, ok_238, ok_239, ok_240, ok_241, ok_242, ok_243, ok_244, ok_245, ok_246, ok_247, ok_248, ok_249, trivial⟩
