-- AC_ask
def seg_150 : SegL := [
  (0, [(.aload_n 0, 1, []), (.iload_n 1, 1, []), (.iload_n 2, 1, []), (.invokevirtual 167, 3, [116, 3, 917, 0, 3, 0, 0, 0, 0, 11])]),
  (6, [(.ifCond .eq 17, 3, [23])]),
  (9, [(.aload_n 0, 1, []), (.getfield 50, 3, [11, 7, 2, 661, 0]), (.getfield 124, 3, [0, 2, 2, 372, 1]), (.iload_n 3, 1, []), (.invokevirtual 127, 3, [106, 2, 909, 0, 2, 0, 0, 0, 0, 4])]),
  (20, [(.ifCond .ne 5, 3, [25])]),
  (23, [(.iconst (-1), 1, []), (.ireturn, 1, [0])]),
  (25, [(.aload_n 0, 1, []), (.getfield 71, 3, [11, 10, 2, 664, 0]), (.aload_n 0, 1, []), (.getfield 50, 3, [11, 7, 2, 661, 0]), (.invokevirtual 171, 3, [117, 2, 921, 0, 2, 0, 0, 0, 0, 6])]),
  (36, [(.aload_n 0, 1, []), (.getfield 71, 3, [11, 10, 2, 664, 0]), (.aload_n 0, 1, []), (.getfield 16, 3, [11, 1, 2, 655, 0]), (.iload_n 1, 1, []), (.iload_n 2, 1, []), (.iload_n 3, 1, []), (.invokevirtual 172, 3, [121, 5, 925, 0, 5, 0, 0, 0, 0, 6])]),
  (50, [(.ifCond .ne 6, 3, [56])]),
  (53, [(.bipush (-2), 2, []), (.ireturn, 1, [0])]),
  (56, [(.aload_n 0, 1, []), (.getfield 26, 3, [11, 3, 2, 657, 0]), (.aload_n 0, 1, []), (.getfield 16, 3, [11, 1, 2, 655, 0]), (.invokevirtual 215, 3, [143, 2, 995, 0, 2, 0, 0, 0, 0, 1])]),
  (67, [(.aload_n 0, 1, []), (.getfield 71, 3, [11, 10, 2, 664, 0]), (.iconst 1, 1, []), (.putfield 219, 3, [6, 3, 3, 627, 1, 0]), (.aload_n 0, 1, []), (.getfield 71, 3, [11, 10, 2, 664, 0]), (.aload_n 0, 1, []), (.getfield 16, 3, [11, 1, 2, 655, 0]), (.iload_n 1, 1, []), (.iload_n 2, 1, []), (.iload_n 3, 1, []), (.invokevirtual 222, 3, [149, 5, 1003, 0, 9, 0, 0, 0, 0, 6])]),
  (89, [(.ifCond .eq 7, 3, [96])]),
  (92, [(.iconst 1, 1, []), (.goto 4, 3, [97])]),
  (96, [(.iconst 0, 1, [])]),
  (97, [(.ireturn, 1, [0])])]
set_option maxRecDepth 100000 in
theorem ok_150 : chkM 150 seg_150 = true := by decide +kernel
-- MD_put
def seg_151 : SegL := [
  (0, [(.iconst 0, 1, []), (.istore_n 3, 1, [])]),
  (2, [(.iload_n 3, 1, []), (.iconst 5, 1, []), (.if_icmp .ge 61, 3, [65])]),
  (7, [(.aload_n 1, 1, []), (.iload_n 2, 1, []), (.iload_n 3, 1, []), (.iadd, 1, []), (.aload_n 0, 1, []), (.getfield 100, 3, [12, 55, 2, 1461, 0]), (.iload_n 3, 1, []), (.iaload, 1, []), (.iastore, 1, []), (.aload_n 1, 1, []), (.iload_n 2, 1, []), (.iconst 5, 1, []), (.iadd, 1, []), (.iload_n 3, 1, []), (.iadd, 1, []), (.aload_n 0, 1, []), (.getfield 103, 3, [12, 56, 2, 1462, 0]), (.iload_n 3, 1, []), (.iaload, 1, []), (.iastore, 1, []), (.aload_n 1, 1, []), (.iload_n 2, 1, []), (.bipush 10, 2, []), (.iadd, 1, []), (.iload_n 3, 1, []), (.iadd, 1, []), (.aload_n 0, 1, []), (.getfield 106, 3, [12, 57, 2, 1463, 0]), (.iload_n 3, 1, []), (.iaload, 1, []), (.iastore, 1, []), (.aload_n 1, 1, []), (.iload_n 2, 1, []), (.bipush 15, 2, []), (.iadd, 1, []), (.iload_n 3, 1, []), (.iadd, 1, []), (.aload_n 0, 1, []), (.getfield 109, 3, [12, 58, 2, 1464, 0]), (.iload_n 3, 1, []), (.iaload, 1, []), (.iastore, 1, []), (.iinc 3 1, 3, []), (.goto (-60), 3, [2])]),
  (65, [(.aload_n 1, 1, []), (.iload_n 2, 1, []), (.bipush 20, 2, []), (.iadd, 1, []), (.aload_n 0, 1, []), (.getfield 112, 3, [12, 59, 2, 1465, 0]), (.iconst 0, 1, []), (.iaload, 1, []), (.iastore, 1, []), (.aload_n 1, 1, []), (.iload_n 2, 1, []), (.bipush 21, 2, []), (.iadd, 1, []), (.aload_n 0, 1, []), (.getfield 364, 3, [12, 60, 0, 1466, 0]), (.iastore, 1, []), (.return_, 1, [])])]
set_option maxRecDepth 100000 in
theorem ok_151 : chkM 151 seg_151 = true := by decide +kernel
-- MD_remember
def seg_152 : SegL := [
  (0, [(.aload_n 0, 1, []), (.getfield 377, 3, [12, 75, 0, 1481, 0]), (.bipush 20, 2, []), (.if_icmp .ne 71, 3, [77])]),
  (9, [(.iconst 0, 1, []), (.istore_n 1, 1, [])]),
  (11, [(.iload_n 1, 1, []), (.sipush 418, 3, []), (.if_icmp .ge 24, 3, [39])]),
  (18, [(.aload_n 0, 1, []), (.getfield 133, 3, [12, 76, 2, 1482, 0]), (.iload_n 1, 1, []), (.aload_n 0, 1, []), (.getfield 133, 3, [12, 76, 2, 1482, 0]), (.iload_n 1, 1, []), (.bipush 22, 2, []), (.iadd, 1, []), (.iaload, 1, []), (.iastore, 1, []), (.iinc 1 1, 3, []), (.goto (-25), 3, [11])]),
  (39, [(.iconst 0, 1, []), (.istore_n 1, 1, [])]),
  (41, [(.iload_n 1, 1, []), (.bipush 19, 2, []), (.if_icmp .ge 23, 3, [67])]),
  (47, [(.aload_n 0, 1, []), (.getfield 136, 3, [12, 77, 2, 1483, 0]), (.iload_n 1, 1, []), (.aload_n 0, 1, []), (.getfield 136, 3, [12, 77, 2, 1483, 0]), (.iload_n 1, 1, []), (.iconst 1, 1, []), (.iadd, 1, []), (.laload, 1, []), (.lastore, 1, []), (.iinc 1 1, 3, []), (.goto (-23), 3, [41])]),
  (67, [(.aload_n 0, 1, []), (.dup, 1, []), (.getfield 377, 3, [12, 75, 0, 1481, 0]), (.iconst 1, 1, []), (.isub, 1, []), (.putfield 377, 3, [12, 75, 0, 1481, 0, 0])]),
  (77, [(.aload_n 0, 1, []), (.aload_n 0, 1, []), (.getfield 133, 3, [12, 76, 2, 1482, 0]), (.bipush 22, 2, []), (.aload_n 0, 1, []), (.getfield 377, 3, [12, 75, 0, 1481, 0]), (.imul, 1, []), (.invokevirtual 537, 3, [151, 3, 1876, 0, 4, 0, 0, 0, 0, 12])]),
  (92, [(.aload_n 0, 1, []), (.getfield 136, 3, [12, 77, 2, 1483, 0]), (.aload_n 0, 1, []), (.getfield 377, 3, [12, 75, 0, 1481, 0]), (.aload_n 0, 1, []), (.getfield 367, 3, [12, 61, 1, 1467, 0]), (.lastore, 1, []), (.aload_n 0, 1, []), (.dup, 1, []), (.getfield 377, 3, [12, 75, 0, 1481, 0]), (.iconst 1, 1, []), (.iadd, 1, []), (.putfield 377, 3, [12, 75, 0, 1481, 0, 0]), (.return_, 1, [])])]
set_option maxRecDepth 100000 in
theorem ok_152 : chkM 152 seg_152 = true := by decide +kernel
-- MD_hears
def seg_153 : SegL := [
  (0, [(.aload_n 0, 1, []), (.getfield 48, 3, [12, 31, 2, 1437, 0]), (.iload_n 3, 1, []), (.iaload, 1, []), (.iconst 2, 1, []), (.if_icmp .ne 12, 3, [19])]),
  (10, [(.aload_n 0, 1, []), (.iload_n 2, 1, []), (.invokevirtual 404, 3, [133, 2, 1840, 0, 2, 0, 0, 0, 0, 12])]),
  (15, [(.iconst 5, 1, []), (.if_icmp .lt 7, 3, [23])]),
  (19, [(.iconst 1, 1, []), (.goto 4, 3, [24])]),
  (23, [(.iconst 0, 1, [])]),
  (24, [(.istore 4, 2, []), (.aload_n 0, 1, []), (.getfield 69, 3, [12, 38, 2, 1444, 0]), (.iconst 1, 1, []), (.baload, 1, []), (.ifCond .ne 6, 3, [38])]),
  (35, [(.iload 4, 2, []), (.ireturn, 1, [3])]),
  (38, [(.aload_n 0, 1, []), (.iload_n 1, 1, []), (.iload_n 2, 1, []), (.iload_n 3, 1, []), (.invokevirtual 414, 3, [135, 4, 1836, 0, 4, 0, 0, 0, 0, 12])]),
  (45, [(.aload_n 0, 1, []), (.iconst 1, 1, []), (.invokevirtual 417, 3, [140, 2, 1847, 0, 3, 0, 0, 0, 0, 12])]),
  (50, [(.lstore 5, 2, []), (.aload_n 0, 1, []), (.getfield 342, 3, [12, 54, 3, 1460, 0]), (.ifCond .eq 8, 3, [64])]),
  (59, [(.iload 4, 2, []), (.goto 15, 3, [76])]),
  (64, [(.lload 5, 2, []), (.lconst 0, 1, []), (.lcmp, 1, []), (.ifCond .eq 7, 3, [75])]),
  (71, [(.iconst 1, 1, []), (.goto 4, 3, [76])]),
  (75, [(.iconst 0, 1, [])]),
  (76, [(.ireturn, 1, [3])])]
set_option maxRecDepth 100000 in
theorem ok_153 : chkM 153 seg_153 = true := by decide +kernel
-- MD_slipOf
def seg_154 : SegL := [
  (0, [(.bipush 10, 2, []), (.aload_n 0, 1, []), (.getfield 33, 3, [12, 26, 2, 1432, 0]), (.iload_n 2, 1, []), (.iaload, 1, []), (.imul, 1, []), (.istore 4, 2, []), (.aload_n 0, 1, []), (.getfield 69, 3, [12, 38, 2, 1444, 0]), (.iconst 0, 1, []), (.baload, 1, []), (.ifCond .ne 6, 3, [23])]),
  (20, [(.iload 4, 2, []), (.ireturn, 1, [0])]),
  (23, [(.aload_n 0, 1, []), (.iload_n 1, 1, []), (.iload_n 2, 1, []), (.iload_n 3, 1, []), (.invokevirtual 414, 3, [135, 4, 1836, 0, 4, 0, 0, 0, 0, 12])]),
  (30, [(.aload_n 0, 1, []), (.iconst 0, 1, []), (.invokevirtual 417, 3, [140, 2, 1847, 0, 3, 0, 0, 0, 0, 12])]),
  (35, [(.lstore 5, 2, []), (.aload_n 0, 1, []), (.getfield 342, 3, [12, 54, 3, 1460, 0]), (.ifCond .eq 8, 3, [49])]),
  (44, [(.iload 4, 2, []), (.goto 31, 3, [77])]),
  (49, [(.lload 5, 2, []), (.lconst 0, 1, []), (.lcmp, 1, []), (.ifCond .ge 7, 3, [60])]),
  (56, [(.iconst 0, 1, []), (.goto 20, 3, [77])]),
  (60, [(.lload 5, 2, []), (.ldc2_w 420, 3, [100, 1896]), (.lcmp, 1, []), (.ifCond .le 8, 3, [74])]),
  (69, [(.bipush 100, 2, []), (.goto 6, 3, [77])]),
  (74, [(.lload 5, 2, []), (.l2i, 1, [])]),
  (77, [(.ireturn, 1, [0])])]
set_option maxRecDepth 100000 in
theorem ok_154 : chkM 154 seg_154 = true := by decide +kernel
-- MD_number1
def seg_155 : SegL := [
  (0, [(.aload_n 0, 1, []), (.aload_n 0, 1, []), (.getfield 367, 3, [12, 61, 1, 1467, 0]), (.ldc2_w 422, 3, [1103515245, 1901]), (.lmul, 1, []), (.ldc2_w 424, 3, [12345, 1902]), (.ladd, 1, []), (.ldc2_w 426, 3, [2147483647, 1903]), (.land, 1, []), (.putfield 367, 3, [12, 61, 1, 1467, 0, 0]), (.aload_n 0, 1, []), (.getfield 367, 3, [12, 61, 1, 1467, 0]), (.ldc2_w 428, 3, [65536, 1904]), (.ldiv, 1, []), (.iload_n 1, 1, []), (.i2l, 1, []), (.lrem, 1, []), (.l2i, 1, []), (.ireturn, 1, [0])])]
set_option maxRecDepth 100000 in
theorem ok_155 : chkM 155 seg_155 = true := by decide +kernel
-- MD_isSlip
def seg_156 : SegL := [
  (0, [(.aload_n 0, 1, []), (.getfield 57, 3, [12, 34, 2, 1440, 0]), (.iload_n 3, 1, []), (.iaload, 1, []), (.istore 4, 2, []), (.aload_n 0, 1, []), (.getfield 389, 3, [12, 64, 3, 1470, 0]), (.ifCond .ne 36, 3, [48])]),
  (15, [(.aload_n 0, 1, []), (.getfield 48, 3, [12, 31, 2, 1437, 0]), (.iload_n 3, 1, []), (.iaload, 1, []), (.iconst 3, 1, []), (.if_icmp .eq 26, 3, [48])]),
  (25, [(.iload 4, 2, []), (.ifCond .lt 21, 3, [48])]),
  (30, [(.aload_n 0, 1, []), (.getfield 100, 3, [12, 55, 2, 1461, 0]), (.iconst 5, 1, []), (.iload_n 1, 1, []), (.imul, 1, []), (.iload_n 2, 1, []), (.iadd, 1, []), (.iaload, 1, []), (.iload 4, 2, []), (.invokestatic 264, 3, [82, 2, 1725, 0, 2, 0, 0, 0, 0, 12])]),
  (45, [(.ifCond .ne 5, 3, [50])]),
  (48, [(.iconst 0, 1, []), (.ireturn, 1, [3])]),
  (50, [(.aload_n 0, 1, []), (.iload_n 1, 1, []), (.iload_n 2, 1, []), (.iload_n 3, 1, []), (.invokevirtual 430, 3, [154, 4, 1892, 0, 7, 0, 0, 0, 0, 12])]),
  (57, [(.istore 5, 2, []), (.aload_n 0, 1, []), (.getfield 383, 3, [12, 62, 3, 1468, 0]), (.ifCond .ne 16, 3, [79])]),
  (66, [(.iload 5, 2, []), (.bipush 50, 2, []), (.if_icmp .lt 7, 3, [77])]),
  (73, [(.iconst 1, 1, []), (.goto 4, 3, [78])]),
  (77, [(.iconst 0, 1, [])]),
  (78, [(.ireturn, 1, [3])]),
  (79, [(.iload 5, 2, []), (.bipush 100, 2, []), (.if_icmp .eq 19, 3, [102])]),
  (86, [(.iload 5, 2, []), (.ifCond .le 18, 3, [106])]),
  (91, [(.iload 5, 2, []), (.aload_n 0, 1, []), (.bipush 100, 2, []), (.invokevirtual 434, 3, [155, 2, 1897, 0, 2, 0, 0, 0, 0, 12])]),
  (99, [(.if_icmp .le 7, 3, [106])]),
  (102, [(.iconst 1, 1, []), (.goto 4, 3, [107])]),
  (106, [(.iconst 0, 1, [])]),
  (107, [(.ireturn, 1, [3])])]
set_option maxRecDepth 100000 in
theorem ok_156 : chkM 156 seg_156 = true := by decide +kernel
-- MD_asks
def seg_157_0 : SegL := [
  (0, [(.aload_n 0, 1, []), (.getfield 109, 3, [12, 58, 2, 1464, 0]), (.iconst 5, 1, []), (.iload_n 1, 1, []), (.imul, 1, []), (.iload_n 2, 1, []), (.iadd, 1, []), (.dup2, 1, []), (.iaload, 1, []), (.iconst 1, 1, []), (.iadd, 1, []), (.iastore, 1, []), (.iconst 0, 1, []), (.istore 5, 2, [])]),
  (17, [(.iload 5, 2, []), (.aload_n 0, 1, []), (.getfield 231, 3, [12, 13, 0, 1419, 0]), (.if_icmp .ge 86, 3, [109])]),
  (26, [(.iload 5, 2, []), (.iload_n 2, 1, []), (.if_icmp .eq 74, 3, [103])]),
  (32, [(.aload_n 0, 1, []), (.getfield 106, 3, [12, 57, 2, 1463, 0]), (.iconst 5, 1, []), (.iload_n 1, 1, []), (.imul, 1, []), (.iload 5, 2, []), (.iadd, 1, []), (.iaload, 1, []), (.aload_n 0, 1, []), (.getfield 106, 3, [12, 57, 2, 1463, 0]), (.iconst 5, 1, []), (.iload_n 1, 1, []), (.imul, 1, []), (.iload_n 2, 1, []), (.iadd, 1, []), (.iaload, 1, []), (.if_icmp .ne 50, 3, [103])]),
  (56, [(.aload_n 0, 1, []), (.getfield 395, 3, [12, 66, 0, 1472, 0]), (.iload 5, 2, []), (.invokestatic 264, 3, [82, 2, 1725, 0, 2, 0, 0, 0, 0, 12])]),
  (65, [(.ifCond .eq 6, 3, [71])]),
  (68, [(.goto 35, 3, [103])]),
  (71, [(.aload_n 0, 1, []), (.iload_n 1, 1, []), (.iload 5, 2, []), (.iload 4, 2, []), (.invokevirtual 437, 3, [153, 4, 1884, 0, 7, 0, 0, 0, 0, 12])]),
  (80, [(.ifCond .eq 23, 3, [103])])]
set_option maxRecDepth 100000 in
theorem seg_157_0_ok : chkM 157 seg_157_0 = true := by decide +kernel
def seg_157_1 : SegL := [
  (83, [(.aload_n 0, 1, []), (.getfield 100, 3, [12, 55, 2, 1461, 0]), (.iconst 5, 1, []), (.iload_n 1, 1, []), (.imul, 1, []), (.iload 5, 2, []), (.iadd, 1, []), (.dup2, 1, []), (.iaload, 1, []), (.aload_n 0, 1, []), (.iload 4, 2, []), (.invokevirtual 401, 3, [123, 2, 1827, 0, 3, 0, 0, 0, 0, 12])]),
  (101, [(.ior, 1, []), (.iastore, 1, [])]),
  (103, [(.iinc 5 1, 3, []), (.goto (-89), 3, [17])]),
  (109, [(.aload_n 0, 1, []), (.iload_n 1, 1, []), (.iload_n 3, 1, []), (.iload 4, 2, []), (.invokevirtual 440, 3, [156, 4, 1888, 0, 6, 0, 0, 0, 0, 12])]),
  (117, [(.ifCond .ne 5, 3, [122])]),
  (120, [(.iconst 0, 1, []), (.ireturn, 1, [3])]),
  (122, [(.iconst 0, 1, []), (.istore 5, 2, [])]),
  (125, [(.iload 5, 2, []), (.aload_n 0, 1, []), (.getfield 231, 3, [12, 13, 0, 1419, 0]), (.if_icmp .ge 68, 3, [199])]),
  (134, [(.aload_n 0, 1, []), (.getfield 106, 3, [12, 57, 2, 1463, 0]), (.iconst 5, 1, []), (.iload_n 1, 1, []), (.imul, 1, []), (.iload 5, 2, []), (.iadd, 1, []), (.iaload, 1, []), (.aload_n 0, 1, []), (.getfield 106, 3, [12, 57, 2, 1463, 0]), (.iconst 5, 1, []), (.iload_n 1, 1, []), (.imul, 1, []), (.iload_n 2, 1, []), (.iadd, 1, []), (.iaload, 1, []), (.if_icmp .ne 38, 3, [193])])]
set_option maxRecDepth 100000 in
theorem seg_157_1_ok : chkM 157 seg_157_1 = true := by decide +kernel
def seg_157_2 : SegL := [
  (158, [(.aload_n 0, 1, []), (.getfield 395, 3, [12, 66, 0, 1472, 0]), (.iload 5, 2, []), (.invokestatic 264, 3, [82, 2, 1725, 0, 2, 0, 0, 0, 0, 12])]),
  (167, [(.ifCond .ne 26, 3, [193])]),
  (170, [(.aload_n 0, 1, []), (.getfield 100, 3, [12, 55, 2, 1461, 0]), (.iconst 5, 1, []), (.iload_n 1, 1, []), (.imul, 1, []), (.iload 5, 2, []), (.iadd, 1, []), (.dup2, 1, []), (.iaload, 1, []), (.iconst 1, 1, []), (.aload_n 0, 1, []), (.getfield 57, 3, [12, 34, 2, 1440, 0]), (.iload 4, 2, []), (.iaload, 1, []), (.ishl, 1, []), (.ior, 1, []), (.iastore, 1, [])]),
  (193, [(.iinc 5 1, 3, []), (.goto (-71), 3, [125])]),
  (199, [(.aload_n 0, 1, []), (.getfield 103, 3, [12, 56, 2, 1462, 0]), (.iconst 5, 1, []), (.iload_n 1, 1, []), (.imul, 1, []), (.iload_n 3, 1, []), (.iadd, 1, []), (.dup2, 1, []), (.iaload, 1, []), (.iconst 1, 1, []), (.iadd, 1, []), (.iastore, 1, []), (.iconst 1, 1, []), (.ireturn, 1, [3])])]
set_option maxRecDepth 100000 in
theorem seg_157_2_ok : chkM 157 seg_157_2 = true := by decide +kernel
def seg_157 : SegL := seg_157_0 ++ (seg_157_1 ++ (seg_157_2))
theorem ok_157 : chkM 157 seg_157 = true := (chkM_app _ _ _ seg_157_0_ok (chkM_app _ _ _ seg_157_1_ok seg_157_2_ok))
-- MD_ask
def seg_158 : SegL := [
  (0, [(.aload_n 0, 1, []), (.iconst 0, 1, []), (.putfield 148, 3, [12, 2, 0, 1408, 0, 0]), (.aload_n 0, 1, []), (.iload_n 1, 1, []), (.invokevirtual 443, 3, [109, 2, 1803, 0, 2, 0, 0, 0, 0, 12])]),
  (10, [(.ifCond .eq 24, 3, [34])]),
  (13, [(.aload_n 0, 1, []), (.iload_n 2, 1, []), (.invokevirtual 443, 3, [109, 2, 1803, 0, 2, 0, 0, 0, 0, 12])]),
  (18, [(.ifCond .eq 16, 3, [34])]),
  (21, [(.iload_n 1, 1, []), (.iload_n 2, 1, []), (.if_icmp .eq 11, 3, [34])]),
  (26, [(.aload_n 0, 1, []), (.iload_n 3, 1, []), (.invokevirtual 449, 3, [114, 2, 1815, 0, 2, 0, 0, 0, 0, 12])]),
  (31, [(.ifCond .ne 5, 3, [36])]),
  (34, [(.iconst (-1), 1, []), (.ireturn, 1, [0])]),
  (36, [(.aload_n 0, 1, []), (.invokevirtual 371, 3, [15, 1, 1402, 0, 1, 0, 0, 0, 0, 12])]),
  (40, [(.aload_n 0, 1, []), (.iconst 0, 1, []), (.iload_n 1, 1, []), (.iload_n 2, 1, []), (.iload_n 3, 1, []), (.invokevirtual 452, 3, [124, 5, 1823, 0, 5, 0, 0, 0, 0, 12])]),
  (48, [(.ifCond .ne 6, 3, [54])]),
  (51, [(.bipush (-2), 2, []), (.ireturn, 1, [0])]),
  (54, [(.aload_n 0, 1, []), (.invokevirtual 458, 3, [152, 1, 1872, 0, 2, 0, 0, 0, 0, 12])]),
  (58, [(.aload_n 0, 1, []), (.iconst 1, 1, []), (.putfield 383, 3, [12, 62, 3, 1468, 0, 0]), (.aload_n 0, 1, []), (.iconst 0, 1, []), (.iload_n 1, 1, []), (.iload_n 2, 1, []), (.iload_n 3, 1, []), (.invokevirtual 461, 3, [157, 5, 1880, 0, 6, 0, 0, 0, 0, 12])]),
  (71, [(.istore 4, 2, []), (.aload_n 0, 1, []), (.iconst 0, 1, []), (.putfield 383, 3, [12, 62, 3, 1468, 0, 0]), (.aload_n 0, 1, []), (.dup, 1, []), (.getfield 364, 3, [12, 60, 0, 1466, 0]), (.iconst 1, 1, []), (.iadd, 1, []), (.putfield 364, 3, [12, 60, 0, 1466, 0, 0]), (.iload 4, 2, []), (.ifCond .eq 7, 3, [97])]),
  (93, [(.iconst 1, 1, []), (.goto 4, 3, [98])]),
  (97, [(.iconst 0, 1, [])]),
  (98, [(.ireturn, 1, [0])])]
set_option maxRecDepth 100000 in
theorem ok_158 : chkM 158 seg_158 = true := by decide +kernel
-- AC_areTold
def seg_159 : SegL := [
  (0, [(.aload_n 0, 1, []), (.getfield 50, 3, [11, 7, 2, 661, 0]), (.getfield 121, 3, [0, 1, 2, 369, 1]), (.iload_n 1, 1, []), (.invokevirtual 127, 3, [106, 2, 909, 0, 2, 0, 0, 0, 0, 4])]),
  (11, [(.ifCond .eq 21, 3, [32])]),
  (14, [(.aload_n 0, 1, []), (.getfield 50, 3, [11, 7, 2, 661, 0]), (.getfield 111, 3, [0, 0, 2, 363, 1]), (.iload_n 2, 1, []), (.invokevirtual 127, 3, [106, 2, 909, 0, 2, 0, 0, 0, 0, 4])]),
  (25, [(.ifCond .eq 7, 3, [32])]),
  (28, [(.iconst 1, 1, []), (.goto 4, 3, [33])]),
  (32, [(.iconst 0, 1, [])]),
  (33, [(.ireturn, 1, [3])])]
set_option maxRecDepth 100000 in
theorem ok_159 : chkM 159 seg_159 = true := by decide +kernel
-- AC_tell
def seg_160 : SegL := [
  (0, [(.aload_n 0, 1, []), (.iload_n 1, 1, []), (.iload_n 2, 1, []), (.invokevirtual 225, 3, [159, 3, 1038, 0, 3, 0, 0, 0, 0, 11])]),
  (6, [(.ifCond .eq 15, 3, [21])]),
  (9, [(.aload_n 0, 1, []), (.getfield 16, 3, [11, 1, 2, 655, 0]), (.iload_n 1, 1, []), (.iload_n 2, 1, []), (.invokevirtual 228, 3, [146, 3, 1042, 0, 3, 0, 0, 0, 0, 8])]),
  (18, [(.ifCond .eq 5, 3, [23])]),
  (21, [(.iconst 0, 1, []), (.ireturn, 1, [3])]),
  (23, [(.aload_n 0, 1, []), (.getfield 26, 3, [11, 3, 2, 657, 0]), (.aload_n 0, 1, []), (.getfield 16, 3, [11, 1, 2, 655, 0]), (.invokevirtual 215, 3, [143, 2, 995, 0, 2, 0, 0, 0, 0, 1])]),
  (34, [(.aload_n 0, 1, []), (.getfield 16, 3, [11, 1, 2, 655, 0]), (.getfield 143, 3, [8, 0, 2, 167, 1]), (.iload_n 1, 1, []), (.dup2, 1, []), (.iaload, 1, []), (.iconst 1, 1, []), (.iload_n 2, 1, []), (.ishl, 1, []), (.ior, 1, []), (.iastore, 1, []), (.iconst 1, 1, []), (.ireturn, 1, [3])])]
set_option maxRecDepth 100000 in
theorem ok_160 : chkM 160 seg_160 = true := by decide +kernel
-- MD_isFact
def seg_161 : SegL := [
  (0, [(.iload_n 1, 1, []), (.ifCond .lt 15, 3, [16])]),
  (4, [(.iload_n 1, 1, []), (.aload_n 0, 1, []), (.getfield 228, 3, [12, 12, 0, 1418, 0]), (.if_icmp .ge 7, 3, [16])]),
  (12, [(.iconst 1, 1, []), (.goto 4, 3, [17])]),
  (16, [(.iconst 0, 1, [])]),
  (17, [(.ireturn, 1, [3])])]
set_option maxRecDepth 100000 in
theorem ok_161 : chkM 161 seg_161 = true := by decide +kernel
-- MD_tell
def seg_162 : SegL := [
  (0, [(.aload_n 0, 1, []), (.iconst 0, 1, []), (.putfield 148, 3, [12, 2, 0, 1408, 0, 0]), (.aload_n 0, 1, []), (.iload_n 1, 1, []), (.invokevirtual 443, 3, [109, 2, 1803, 0, 2, 0, 0, 0, 0, 12])]),
  (10, [(.ifCond .eq 24, 3, [34])]),
  (13, [(.aload_n 0, 1, []), (.iload_n 2, 1, []), (.invokevirtual 464, 3, [161, 2, 1909, 0, 2, 0, 0, 0, 0, 12])]),
  (18, [(.ifCond .eq 16, 3, [34])]),
  (21, [(.aload_n 0, 1, []), (.getfield 100, 3, [12, 55, 2, 1461, 0]), (.iload_n 1, 1, []), (.iaload, 1, []), (.iload_n 2, 1, []), (.invokestatic 264, 3, [82, 2, 1725, 0, 2, 0, 0, 0, 0, 12])]),
  (31, [(.ifCond .eq 5, 3, [36])]),
  (34, [(.iconst 0, 1, []), (.ireturn, 1, [3])]),
  (36, [(.aload_n 0, 1, []), (.invokevirtual 458, 3, [152, 1, 1872, 0, 2, 0, 0, 0, 0, 12])]),
  (40, [(.aload_n 0, 1, []), (.getfield 100, 3, [12, 55, 2, 1461, 0]), (.iload_n 1, 1, []), (.dup2, 1, []), (.iaload, 1, []), (.iconst 1, 1, []), (.iload_n 2, 1, []), (.ishl, 1, []), (.ior, 1, []), (.iastore, 1, []), (.iconst 1, 1, []), (.ireturn, 1, [3])])]
set_option maxRecDepth 100000 in
theorem ok_162 : chkM 162 seg_162 = true := by decide +kernel
-- AC_send
def seg_163 : SegL := [
  (0, [(.aload_n 0, 1, []), (.getfield 50, 3, [11, 7, 2, 661, 0]), (.getfield 121, 3, [0, 1, 2, 369, 1]), (.iload_n 1, 1, []), (.invokevirtual 127, 3, [106, 2, 909, 0, 2, 0, 0, 0, 0, 4])]),
  (11, [(.ifCond .eq 25, 3, [36])]),
  (14, [(.iload_n 2, 1, []), (.ifCond .lt 21, 3, [36])]),
  (18, [(.iload_n 2, 1, []), (.iconst 3, 1, []), (.if_icmp .gt 16, 3, [36])]),
  (23, [(.aload_n 0, 1, []), (.getfield 16, 3, [11, 1, 2, 655, 0]), (.getfield 140, 3, [8, 1, 2, 171, 1]), (.iload_n 1, 1, []), (.iaload, 1, []), (.iload_n 2, 1, []), (.if_icmp .ne 5, 3, [38])]),
  (36, [(.iconst 0, 1, []), (.ireturn, 1, [3])]),
  (38, [(.aload_n 0, 1, []), (.getfield 26, 3, [11, 3, 2, 657, 0]), (.aload_n 0, 1, []), (.getfield 16, 3, [11, 1, 2, 655, 0]), (.invokevirtual 215, 3, [143, 2, 995, 0, 2, 0, 0, 0, 0, 1])]),
  (49, [(.aload_n 0, 1, []), (.getfield 16, 3, [11, 1, 2, 655, 0]), (.getfield 140, 3, [8, 1, 2, 171, 1]), (.iload_n 1, 1, []), (.iload_n 2, 1, []), (.iastore, 1, []), (.iconst 1, 1, []), (.ireturn, 1, [3])])]
set_option maxRecDepth 100000 in
theorem ok_163 : chkM 163 seg_163 = true := by decide +kernel
-- MD_send
def seg_164 : SegL := [
  (0, [(.aload_n 0, 1, []), (.iconst 0, 1, []), (.putfield 148, 3, [12, 2, 0, 1408, 0, 0]), (.aload_n 0, 1, []), (.iload_n 1, 1, []), (.invokevirtual 443, 3, [109, 2, 1803, 0, 2, 0, 0, 0, 0, 12])]),
  (10, [(.ifCond .eq 22, 3, [32])]),
  (13, [(.iload_n 2, 1, []), (.iconst 0, 1, []), (.iconst 3, 1, []), (.invokestatic 193, 3, [78, 3, 1714, 0, 3, 0, 0, 0, 0, 12])]),
  (19, [(.ifCond .eq 13, 3, [32])]),
  (22, [(.aload_n 0, 1, []), (.getfield 106, 3, [12, 57, 2, 1463, 0]), (.iload_n 1, 1, []), (.iaload, 1, []), (.iload_n 2, 1, []), (.if_icmp .ne 5, 3, [34])]),
  (32, [(.iconst 0, 1, []), (.ireturn, 1, [3])]),
  (34, [(.aload_n 0, 1, []), (.invokevirtual 458, 3, [152, 1, 1872, 0, 2, 0, 0, 0, 0, 12])]),
  (38, [(.aload_n 0, 1, []), (.getfield 106, 3, [12, 57, 2, 1463, 0]), (.iload_n 1, 1, []), (.iload_n 2, 1, []), (.iastore, 1, []), (.iconst 1, 1, []), (.ireturn, 1, [3])])]
set_option maxRecDepth 100000 in
theorem ok_164 : chkM 164 seg_164 = true := by decide +kernel
-- AC_end
def seg_165 : SegL := [
  (0, [(.aload_n 0, 1, []), (.getfield 16, 3, [11, 1, 2, 655, 0]), (.getfield 198, 3, [8, 4, 0, 181, 1]), (.sipush 999, 3, []), (.if_icmp .lt 5, 3, [15])]),
  (13, [(.iconst (-1), 1, []), (.ireturn, 1, [0])]),
  (15, [(.aload_n 0, 1, []), (.getfield 26, 3, [11, 3, 2, 657, 0]), (.aload_n 0, 1, []), (.getfield 16, 3, [11, 1, 2, 655, 0]), (.invokevirtual 215, 3, [143, 2, 995, 0, 2, 0, 0, 0, 0, 1])]),
  (26, [(.aload_n 0, 1, []), (.getfield 16, 3, [11, 1, 2, 655, 0]), (.aload_n 0, 1, []), (.getfield 16, 3, [11, 1, 2, 655, 0]), (.getfield 198, 3, [8, 4, 0, 181, 1]), (.iconst 1, 1, []), (.iadd, 1, []), (.invokevirtual 231, 3, [63, 2, 1051, 0, 3, 0, 0, 0, 0, 8])]),
  (42, [(.aload_n 0, 1, []), (.getfield 16, 3, [11, 1, 2, 655, 0]), (.getfield 198, 3, [8, 4, 0, 181, 1]), (.ireturn, 1, [0])])]
set_option maxRecDepth 100000 in
theorem ok_165 : chkM 165 seg_165 = true := by decide +kernel
-- MD_end
def seg_166 : SegL := [
  (0, [(.aload_n 0, 1, []), (.iconst 0, 1, []), (.putfield 148, 3, [12, 2, 0, 1408, 0, 0]), (.aload_n 0, 1, []), (.getfield 112, 3, [12, 59, 2, 1465, 0]), (.iconst 0, 1, []), (.iaload, 1, []), (.sipush 999, 3, []), (.if_icmp .ne 5, 3, [19])]),
  (17, [(.iconst (-1), 1, []), (.ireturn, 1, [0])]),
  (19, [(.aload_n 0, 1, []), (.invokevirtual 458, 3, [152, 1, 1872, 0, 2, 0, 0, 0, 0, 12])]),
  (23, [(.aload_n 0, 1, []), (.getfield 112, 3, [12, 59, 2, 1465, 0]), (.iconst 0, 1, []), (.dup2, 1, []), (.iaload, 1, []), (.iconst 1, 1, []), (.iadd, 1, []), (.iastore, 1, []), (.iconst 0, 1, []), (.istore_n 1, 1, [])]),
  (35, [(.iload_n 1, 1, []), (.iconst 5, 1, []), (.if_icmp .ge 16, 3, [53])]),
  (40, [(.aload_n 0, 1, []), (.getfield 109, 3, [12, 58, 2, 1464, 0]), (.iload_n 1, 1, []), (.iconst 0, 1, []), (.iastore, 1, []), (.iinc 1 1, 3, []), (.goto (-15), 3, [35])]),
  (53, [(.aload_n 0, 1, []), (.getfield 112, 3, [12, 59, 2, 1465, 0]), (.iconst 0, 1, []), (.iaload, 1, []), (.ireturn, 1, [0])])]
set_option maxRecDepth 100000 in
theorem ok_166 : chkM 166 seg_166 = true := by decide +kernel
-- AC_freshTrial
def seg_167 : SegL := [
  (0, [(.aload_n 0, 1, []), (.getfield 71, 3, [11, 10, 2, 664, 0]), (.aload_n 0, 1, []), (.getfield 50, 3, [11, 7, 2, 661, 0]), (.invokevirtual 171, 3, [117, 2, 921, 0, 2, 0, 0, 0, 0, 6])]),
  (11, [(.aload_n 0, 1, []), (.getfield 44, 3, [11, 6, 2, 660, 0]), (.aload_n 0, 1, []), (.getfield 16, 3, [11, 1, 2, 655, 0]), (.invokevirtual 237, 3, [142, 2, 1064, 0, 3, 0, 0, 0, 0, 8])]),
  (22, [(.aload_n 0, 1, []), (.getfield 44, 3, [11, 6, 2, 660, 0]), (.areturn, 1, [])])]
set_option maxRecDepth 100000 in
theorem ok_167 : chkM 167 seg_167 = true := by decide +kernel
-- State_knownInSum
def seg_168 : SegL := [
  (0, [(.iconst 0, 1, []), (.istore_n 1, 1, []), (.iconst 0, 1, []), (.istore_n 2, 1, [])]),
  (4, [(.iload_n 2, 1, []), (.aload_n 0, 1, []), (.getfield 36, 3, [8, 7, 0, 187, 0]), (.if_icmp .ge 21, 3, [30])]),
  (12, [(.iload_n 1, 1, []), (.aload_n 0, 1, []), (.getfield 9, 3, [8, 0, 2, 165, 0]), (.iload_n 2, 1, []), (.iaload, 1, []), (.invokestatic 56, 3, [127, 1, 982, 0, 1, 0, 0, 0, 0, 99])]),
  (22, [(.iadd, 1, []), (.istore_n 1, 1, []), (.iinc 2 1, 3, []), (.goto (-23), 3, [4])]),
  (30, [(.iload_n 1, 1, []), (.ireturn, 1, [0])])]
set_option maxRecDepth 100000 in
theorem ok_168 : chkM 168 seg_168 = true := by decide +kernel
-- Rules_settle
def seg_169 : SegL := [
  (0, [(.iconst 0, 1, []), (.istore_n 2, 1, [])]),
  (2, [(.iload_n 2, 1, []), (.bipush 40, 2, []), (.if_icmp .gt 128, 3, [133])]),
  (8, [(.aload_n 1, 1, []), (.invokevirtual 150, 3, [168, 1, 1081, 0, 3, 0, 0, 0, 0, 8])]),
  (12, [(.istore_n 3, 1, []), (.iconst 0, 1, []), (.istore 4, 2, [])]),
  (16, [(.iload 4, 2, []), (.aload_n 0, 1, []), (.getfield 25, 3, [6, 2, 2, 624, 0]), (.getfield 69, 3, [0, 1, 2, 367, 1]), (.getfield 73, 3, [4, 2, 0, 330, 1]), (.if_icmp .ge 90, 3, [118])]),
  (31, [(.iconst 0, 1, []), (.istore 5, 2, [])]),
  (34, [(.iload 5, 2, []), (.aload_n 0, 1, []), (.getfield 25, 3, [6, 2, 2, 624, 0]), (.getfield 69, 3, [0, 1, 2, 367, 1]), (.getfield 73, 3, [4, 2, 0, 330, 1]), (.if_icmp .ge 66, 3, [112])]),
  (49, [(.iconst 0, 1, []), (.istore 6, 2, [])]),
  (52, [(.iload 6, 2, []), (.aload_n 0, 1, []), (.getfield 25, 3, [6, 2, 2, 624, 0]), (.getfield 153, 3, [0, 2, 2, 374, 1]), (.getfield 73, 3, [4, 2, 0, 330, 1]), (.if_icmp .ge 42, 3, [106])]),
  (67, [(.iload 4, 2, []), (.iload 5, 2, []), (.if_icmp .eq 29, 3, [100])]),
  (74, [(.aload_n 0, 1, []), (.aload_n 1, 1, []), (.iload 4, 2, []), (.iload 5, 2, []), (.iload 6, 2, []), (.invokevirtual 52, 3, [120, 5, 929, 0, 5, 0, 0, 0, 0, 6])]),
  (85, [(.ifCond .eq 15, 3, [100])]),
  (88, [(.aload_n 0, 1, []), (.aload_n 1, 1, []), (.iload 4, 2, []), (.iload 5, 2, []), (.iload 6, 2, []), (.invokevirtual 156, 3, [149, 5, 1082, 0, 9, 0, 0, 0, 0, 6])]),
  (99, [(.pop, 1, [])]),
  (100, [(.iinc 6 1, 3, []), (.goto (-51), 3, [52])]),
  (106, [(.iinc 5 1, 3, []), (.goto (-75), 3, [34])]),
  (112, [(.iinc 4 1, 3, []), (.goto (-99), 3, [16])]),
  (118, [(.aload_n 1, 1, []), (.invokevirtual 150, 3, [168, 1, 1081, 0, 3, 0, 0, 0, 0, 8])]),
  (122, [(.iload_n 3, 1, []), (.if_icmp .ne 4, 3, [127])]),
  (126, [(.return_, 1, [])]),
  (127, [(.iinc 2 1, 3, []), (.goto (-128), 3, [2])]),
  (133, [(.return_, 1, [])])]
set_option maxRecDepth 100000 in
theorem ok_169 : chkM 169 seg_169 = true := by decide +kernel
-- AC_all
def seg_170 : SegL := [
  (0, [(.aload_n 0, 1, []), (.getfield 50, 3, [11, 7, 2, 661, 0]), (.getfield 121, 3, [0, 1, 2, 369, 1]), (.iload_n 1, 1, []), (.invokevirtual 127, 3, [106, 2, 909, 0, 2, 0, 0, 0, 0, 4])]),
  (11, [(.ifCond .ne 5, 3, [16])]),
  (14, [(.iconst (-1), 1, []), (.ireturn, 1, [0])]),
  (16, [(.aload_n 0, 1, []), (.invokevirtual 240, 3, [167, 1, 1073, 0, 1, 0, 0, 0, 0, 11])]),
  (20, [(.astore_n 2, 1, []), (.aload_n 0, 1, []), (.getfield 71, 3, [11, 10, 2, 664, 0]), (.aload_n 2, 1, []), (.invokevirtual 244, 3, [169, 2, 1077, 0, 7, 0, 0, 0, 0, 6])]),
  (29, [(.aload_n 2, 1, []), (.getfield 143, 3, [8, 0, 2, 167, 1]), (.iload_n 1, 1, []), (.iaload, 1, []), (.ireturn, 1, [0])])]
set_option maxRecDepth 100000 in
theorem ok_170 : chkM 170 seg_170 = true := by decide +kernel
-- MD_layTried
def seg_171 : SegL := [
  (0, [(.iconst 0, 1, []), (.istore_n 1, 1, [])]),
  (2, [(.iload_n 1, 1, []), (.iconst 5, 1, []), (.if_icmp .ge 65, 3, [69])]),
  (7, [(.aload_n 0, 1, []), (.getfield 100, 3, [12, 55, 2, 1461, 0]), (.iconst 5, 1, []), (.iload_n 1, 1, []), (.iadd, 1, []), (.aload_n 0, 1, []), (.getfield 100, 3, [12, 55, 2, 1461, 0]), (.iload_n 1, 1, []), (.iaload, 1, []), (.iastore, 1, []), (.aload_n 0, 1, []), (.getfield 103, 3, [12, 56, 2, 1462, 0]), (.iconst 5, 1, []), (.iload_n 1, 1, []), (.iadd, 1, []), (.aload_n 0, 1, []), (.getfield 103, 3, [12, 56, 2, 1462, 0]), (.iload_n 1, 1, []), (.iaload, 1, []), (.iastore, 1, []), (.aload_n 0, 1, []), (.getfield 106, 3, [12, 57, 2, 1463, 0]), (.iconst 5, 1, []), (.iload_n 1, 1, []), (.iadd, 1, []), (.aload_n 0, 1, []), (.getfield 106, 3, [12, 57, 2, 1463, 0]), (.iload_n 1, 1, []), (.iaload, 1, []), (.iastore, 1, []), (.aload_n 0, 1, []), (.getfield 109, 3, [12, 58, 2, 1464, 0]), (.iconst 5, 1, []), (.iload_n 1, 1, []), (.iadd, 1, []), (.aload_n 0, 1, []), (.getfield 109, 3, [12, 58, 2, 1464, 0]), (.iload_n 1, 1, []), (.iaload, 1, []), (.iastore, 1, []), (.iinc 1 1, 3, []), (.goto (-64), 3, [2])]),
  (69, [(.aload_n 0, 1, []), (.getfield 112, 3, [12, 59, 2, 1465, 0]), (.iconst 1, 1, []), (.aload_n 0, 1, []), (.getfield 112, 3, [12, 59, 2, 1465, 0]), (.iconst 0, 1, []), (.iaload, 1, []), (.iastore, 1, []), (.aload_n 0, 1, []), (.invokevirtual 371, 3, [15, 1, 1402, 0, 1, 0, 0, 0, 0, 12])]),
  (85, [(.return_, 1, [])])]
set_option maxRecDepth 100000 in
theorem ok_171 : chkM 171 seg_171 = true := by decide +kernel
-- MD_sumIn
def seg_172 : SegL := [
  (0, [(.iconst 0, 1, []), (.istore_n 2, 1, []), (.iconst 0, 1, []), (.istore_n 3, 1, [])]),
  (4, [(.iload_n 3, 1, []), (.aload_n 0, 1, []), (.getfield 231, 3, [12, 13, 0, 1419, 0]), (.if_icmp .ge 40, 3, [49])]),
  (12, [(.iload_n 2, 1, []), (.aload_n 0, 1, []), (.getfield 395, 3, [12, 66, 0, 1472, 0]), (.iload_n 3, 1, []), (.invokestatic 264, 3, [82, 2, 1725, 0, 2, 0, 0, 0, 0, 12])]),
  (21, [(.ifCond .eq 7, 3, [28])]),
  (24, [(.iconst 0, 1, []), (.goto 16, 3, [41])]),
  (28, [(.aload_n 0, 1, []), (.getfield 100, 3, [12, 55, 2, 1461, 0]), (.iconst 5, 1, []), (.iload_n 1, 1, []), (.imul, 1, []), (.iload_n 3, 1, []), (.iadd, 1, []), (.iaload, 1, []), (.invokestatic 407, 3, [134, 1, 1844, 0, 3, 0, 0, 0, 0, 12])]),
  (41, [(.iadd, 1, []), (.istore_n 2, 1, []), (.iinc 3 1, 3, []), (.goto (-42), 3, [4])]),
  (49, [(.iload_n 2, 1, []), (.ireturn, 1, [0])])]
set_option maxRecDepth 100000 in
theorem ok_172 : chkM 172 seg_172 = true := by decide +kernel
-- MD_askAll
def seg_173 : SegL := [
  (0, [(.aload_n 0, 1, []), (.iconst 1, 1, []), (.putfield 386, 3, [12, 63, 3, 1469, 0, 0]), (.iconst 1, 1, []), (.istore_n 1, 1, [])]),
  (7, [(.iload_n 1, 1, []), (.ifCond .eq 112, 3, [120])]),
  (11, [(.aload_n 0, 1, []), (.iconst 1, 1, []), (.invokevirtual 467, 3, [172, 2, 1933, 0, 4, 0, 0, 0, 0, 12])]),
  (16, [(.istore_n 2, 1, []), (.iconst 0, 1, []), (.istore_n 3, 1, [])]),
  (19, [(.iload_n 3, 1, []), (.aload_n 0, 1, []), (.getfield 231, 3, [12, 13, 0, 1419, 0]), (.if_icmp .ge 78, 3, [102])]),
  (27, [(.iconst 0, 1, []), (.istore 4, 2, [])]),
  (30, [(.iload 4, 2, []), (.aload_n 0, 1, []), (.getfield 231, 3, [12, 13, 0, 1419, 0]), (.if_icmp .ge 60, 3, [96])]),
  (39, [(.iconst 0, 1, []), (.istore 5, 2, [])]),
  (42, [(.iload 5, 2, []), (.aload_n 0, 1, []), (.getfield 234, 3, [12, 14, 0, 1420, 0]), (.if_icmp .ge 42, 3, [90])]),
  (51, [(.aload_n 0, 1, []), (.iconst 1, 1, []), (.iload_n 3, 1, []), (.iload 4, 2, []), (.iload 5, 2, []), (.invokevirtual 452, 3, [124, 5, 1823, 0, 5, 0, 0, 0, 0, 12])]),
  (61, [(.ifCond .eq 20, 3, [81])]),
  (64, [(.aload_n 0, 1, []), (.iconst 1, 1, []), (.iload_n 3, 1, []), (.iload 4, 2, []), (.iload 5, 2, []), (.invokevirtual 461, 3, [157, 5, 1880, 0, 6, 0, 0, 0, 0, 12])]),
  (74, [(.ifCond .eq 7, 3, [81])]),
  (77, [(.iconst 1, 1, []), (.goto 4, 3, [82])]),
  (81, [(.iconst 0, 1, [])]),
  (82, [(.istore 6, 2, []), (.iinc 5 1, 3, []), (.goto (-45), 3, [42])]),
  (90, [(.iinc 4 1, 3, []), (.goto (-63), 3, [30])]),
  (96, [(.iinc 3 1, 3, []), (.goto (-80), 3, [19])]),
  (102, [(.aload_n 0, 1, []), (.iconst 1, 1, []), (.invokevirtual 467, 3, [172, 2, 1933, 0, 4, 0, 0, 0, 0, 12])]),
  (107, [(.iload_n 2, 1, []), (.if_icmp .le 7, 3, [115])]),
  (111, [(.iconst 1, 1, []), (.goto 4, 3, [116])]),
  (115, [(.iconst 0, 1, [])]),
  (116, [(.istore_n 1, 1, []), (.goto (-110), 3, [7])]),
  (120, [(.return_, 1, [])])]
set_option maxRecDepth 100000 in
theorem ok_173 : chkM 173 seg_173 = true := by decide +kernel
-- MD_all
def seg_174 : SegL := [
  (0, [(.aload_n 0, 1, []), (.iconst 0, 1, []), (.putfield 148, 3, [12, 2, 0, 1408, 0, 0]), (.aload_n 0, 1, []), (.iload_n 1, 1, []), (.invokevirtual 443, 3, [109, 2, 1803, 0, 2, 0, 0, 0, 0, 12])]),
  (10, [(.ifCond .ne 5, 3, [15])]),
  (13, [(.iconst (-1), 1, []), (.ireturn, 1, [0])]),
  (15, [(.aload_n 0, 1, []), (.invokevirtual 470, 3, [171, 1, 1925, 0, 2, 0, 0, 0, 0, 12])]),
  (19, [(.aload_n 0, 1, []), (.invokevirtual 473, 3, [173, 1, 1929, 0, 7, 0, 0, 0, 0, 12])]),
  (23, [(.aload_n 0, 1, []), (.getfield 100, 3, [12, 55, 2, 1461, 0]), (.iconst 5, 1, []), (.iload_n 1, 1, []), (.iadd, 1, []), (.iaload, 1, []), (.ireturn, 1, [0])])]
set_option maxRecDepth 100000 in
theorem ok_174 : chkM 174 seg_174 = true := by decide +kernel
-- AC_never
def seg_175 : SegL := [
  (0, [(.aload_n 0, 1, []), (.iload_n 1, 1, []), (.iload_n 2, 1, []), (.invokevirtual 225, 3, [159, 3, 1038, 0, 3, 0, 0, 0, 0, 11])]),
  (6, [(.ifCond .ne 5, 3, [11])]),
  (9, [(.iconst (-1), 1, []), (.ireturn, 1, [0])]),
  (11, [(.aload_n 0, 1, []), (.invokevirtual 240, 3, [167, 1, 1073, 0, 1, 0, 0, 0, 0, 11])]),
  (15, [(.astore_n 3, 1, []), (.aload_n 0, 1, []), (.getfield 71, 3, [11, 10, 2, 664, 0]), (.aload_n 3, 1, []), (.invokevirtual 244, 3, [169, 2, 1077, 0, 7, 0, 0, 0, 0, 6])]),
  (24, [(.aload_n 3, 1, []), (.iload_n 1, 1, []), (.iload_n 2, 1, []), (.invokevirtual 228, 3, [146, 3, 1042, 0, 3, 0, 0, 0, 0, 8])]),
  (30, [(.ifCond .eq 7, 3, [37])]),
  (33, [(.iconst 0, 1, []), (.goto 4, 3, [38])]),
  (37, [(.iconst 1, 1, [])]),
  (38, [(.ireturn, 1, [0])])]
set_option maxRecDepth 100000 in
theorem ok_175 : chkM 175 seg_175 = true := by decide +kernel
-- MD_learns
def seg_176 : SegL := [
  (0, [(.aload_n 0, 1, []), (.invokevirtual 470, 3, [171, 1, 1925, 0, 2, 0, 0, 0, 0, 12])]),
  (4, [(.aload_n 0, 1, []), (.iload_n 3, 1, []), (.putfield 395, 3, [12, 66, 0, 1472, 0, 0]), (.aload_n 0, 1, []), (.invokevirtual 473, 3, [173, 1, 1929, 0, 7, 0, 0, 0, 0, 12])]),
  (13, [(.aload_n 0, 1, []), (.getfield 100, 3, [12, 55, 2, 1461, 0]), (.iconst 5, 1, []), (.iload_n 1, 1, []), (.iadd, 1, []), (.iaload, 1, []), (.iload_n 2, 1, []), (.invokestatic 264, 3, [82, 2, 1725, 0, 2, 0, 0, 0, 0, 12])]),
  (25, [(.istore 4, 2, []), (.aload_n 0, 1, []), (.invokevirtual 371, 3, [15, 1, 1402, 0, 1, 0, 0, 0, 0, 12])]),
  (31, [(.iload 4, 2, []), (.ireturn, 1, [3])])]
set_option maxRecDepth 100000 in
theorem ok_176 : chkM 176 seg_176 = true := by decide +kernel
-- MD_never
def seg_177 : SegL := [
  (0, [(.aload_n 0, 1, []), (.iconst 0, 1, []), (.putfield 148, 3, [12, 2, 0, 1408, 0, 0]), (.aload_n 0, 1, []), (.iload_n 1, 1, []), (.invokevirtual 443, 3, [109, 2, 1803, 0, 2, 0, 0, 0, 0, 12])]),
  (10, [(.ifCond .eq 11, 3, [21])]),
  (13, [(.aload_n 0, 1, []), (.iload_n 2, 1, []), (.invokevirtual 464, 3, [161, 2, 1909, 0, 2, 0, 0, 0, 0, 12])]),
  (18, [(.ifCond .ne 7, 3, [25])]),
  (21, [(.iconst (-1), 1, []), (.goto 18, 3, [40])]),
  (25, [(.aload_n 0, 1, []), (.iload_n 1, 1, []), (.iload_n 2, 1, []), (.iconst 0, 1, []), (.invokevirtual 476, 3, [176, 4, 1941, 0, 5, 0, 0, 0, 0, 12])]),
  (32, [(.ifCond .eq 7, 3, [39])]),
  (35, [(.iconst 0, 1, []), (.goto 4, 3, [40])]),
  (39, [(.iconst 1, 1, [])]),
  (40, [(.ireturn, 1, [0])])]
set_option maxRecDepth 100000 in
theorem ok_177 : chkM 177 seg_177 = true := by decide +kernel
-- AC_neverWithout
def seg_178 : SegL := [
  (0, [(.aload_n 0, 1, []), (.invokevirtual 240, 3, [167, 1, 1073, 0, 1, 0, 0, 0, 0, 11])]),
  (4, [(.astore 4, 2, []), (.aload_n 0, 1, []), (.getfield 71, 3, [11, 10, 2, 664, 0]), (.iload_n 1, 1, []), (.putfield 256, 3, [6, 4, 0, 629, 1, 0]), (.aload_n 0, 1, []), (.getfield 71, 3, [11, 10, 2, 664, 0]), (.aload 4, 2, []), (.invokevirtual 244, 3, [169, 2, 1077, 0, 7, 0, 0, 0, 0, 6])]),
  (23, [(.aload 4, 2, []), (.iload_n 2, 1, []), (.iload_n 3, 1, []), (.invokevirtual 228, 3, [146, 3, 1042, 0, 3, 0, 0, 0, 0, 8])]),
  (30, [(.ifCond .ne 7, 3, [37])]),
  (33, [(.iconst 1, 1, []), (.goto 4, 3, [38])]),
  (37, [(.iconst 0, 1, [])]),
  (38, [(.ireturn, 1, [3])])]
set_option maxRecDepth 100000 in
theorem ok_178 : chkM 178 seg_178 = true := by decide +kernel
-- AC_away
def seg_179 : SegL := [
  (0, [(.aload_n 0, 1, []), (.iload_n 1, 1, []), (.iload_n 2, 1, []), (.invokevirtual 225, 3, [159, 3, 1038, 0, 3, 0, 0, 0, 0, 11])]),
  (6, [(.ifCond .ne 5, 3, [11])]),
  (9, [(.iconst (-1), 1, []), (.ireturn, 1, [0])]),
  (11, [(.aload_n 0, 1, []), (.getfield 16, 3, [11, 1, 2, 655, 0]), (.iload_n 1, 1, []), (.iload_n 2, 1, []), (.invokevirtual 228, 3, [146, 3, 1042, 0, 3, 0, 0, 0, 0, 8])]),
  (20, [(.ifCond .eq 6, 3, [26])]),
  (23, [(.bipush (-2), 2, []), (.ireturn, 1, [0])]),
  (26, [(.aload_n 0, 1, []), (.getfield 50, 3, [11, 7, 2, 661, 0]), (.getfield 121, 3, [0, 1, 2, 369, 1]), (.getfield 189, 3, [4, 2, 0, 332, 1]), (.istore_n 3, 1, []), (.iconst 0, 1, []), (.istore 4, 2, [])]),
  (40, [(.iload 4, 2, []), (.iload_n 3, 1, []), (.if_icmp .ge 59, 3, [102])]),
  (46, [(.iconst 0, 1, []), (.istore 5, 2, [])]),
  (49, [(.iload 5, 2, []), (.iconst 1, 1, []), (.iload_n 3, 1, []), (.ishl, 1, []), (.if_icmp .ge 42, 3, [96])]),
  (57, [(.iload 5, 2, []), (.invokestatic 247, 3, [127, 1, 1091, 0, 1, 0, 0, 0, 0, 99])]),
  (62, [(.iload 4, 2, []), (.if_icmp .ne 26, 3, [90])]),
  (67, [(.iload 5, 2, []), (.iload_n 1, 1, []), (.ishr, 1, []), (.iconst 1, 1, []), (.iand, 1, []), (.ifCond .ne 17, 3, [90])]),
  (76, [(.aload_n 0, 1, []), (.iload 5, 2, []), (.iload_n 1, 1, []), (.iload_n 2, 1, []), (.invokevirtual 252, 3, [178, 4, 1092, 0, 5, 0, 0, 0, 0, 11])]),
  (84, [(.ifCond .eq 6, 3, [90])]),
  (87, [(.iload 5, 2, []), (.ireturn, 1, [0])]),
  (90, [(.iinc 5 1, 3, []), (.goto (-44), 3, [49])]),
  (96, [(.iinc 4 1, 3, []), (.goto (-59), 3, [40])]),
  (102, [(.bipush (-2), 2, []), (.ireturn, 1, [0])])]
set_option maxRecDepth 100000 in
theorem ok_179 : chkM 179 seg_179 = true := by decide +kernel
-- MD_away
def seg_180 : SegL := [
  (0, [(.aload_n 0, 1, []), (.iconst 0, 1, []), (.putfield 148, 3, [12, 2, 0, 1408, 0, 0]), (.aload_n 0, 1, []), (.iload_n 1, 1, []), (.invokevirtual 443, 3, [109, 2, 1803, 0, 2, 0, 0, 0, 0, 12])]),
  (10, [(.ifCond .eq 11, 3, [21])]),
  (13, [(.aload_n 0, 1, []), (.iload_n 2, 1, []), (.invokevirtual 464, 3, [161, 2, 1909, 0, 2, 0, 0, 0, 0, 12])]),
  (18, [(.ifCond .ne 5, 3, [23])]),
  (21, [(.iconst (-1), 1, []), (.ireturn, 1, [0])]),
  (23, [(.bipush (-2), 2, []), (.istore_n 3, 1, []), (.iconst 0, 1, []), (.istore 4, 2, [])]),
  (29, [(.iload 4, 2, []), (.iconst 1, 1, []), (.aload_n 0, 1, []), (.getfield 231, 3, [12, 13, 0, 1419, 0]), (.ishl, 1, []), (.if_icmp .ge 51, 3, [88])]),
  (40, [(.iload 4, 2, []), (.iload_n 1, 1, []), (.invokestatic 264, 3, [82, 2, 1725, 0, 2, 0, 0, 0, 0, 12])]),
  (46, [(.ifCond .ne 36, 3, [82])]),
  (49, [(.iload_n 3, 1, []), (.ifCond .lt 18, 3, [68])]),
  (53, [(.iload 4, 2, []), (.invokestatic 407, 3, [134, 1, 1844, 0, 3, 0, 0, 0, 0, 12])]),
  (58, [(.iload_n 3, 1, []), (.invokestatic 407, 3, [134, 1, 1844, 0, 3, 0, 0, 0, 0, 12])]),
  (62, [(.if_icmp .lt 6, 3, [68])]),
  (65, [(.goto 17, 3, [82])]),
  (68, [(.aload_n 0, 1, []), (.iload_n 1, 1, []), (.iload_n 2, 1, []), (.iload 4, 2, []), (.invokevirtual 476, 3, [176, 4, 1941, 0, 5, 0, 0, 0, 0, 12])]),
  (76, [(.ifCond .ne 6, 3, [82])]),
  (79, [(.iload 4, 2, []), (.istore_n 3, 1, [])]),
  (82, [(.iinc 4 1, 3, []), (.goto (-56), 3, [29])]),
  (88, [(.iload_n 3, 1, []), (.ireturn, 1, [0])])]
set_option maxRecDepth 100000 in
theorem ok_180 : chkM 180 seg_180 = true := by decide +kernel
-- State_knowers
def seg_181 : SegL := [
  (0, [(.iconst 0, 1, []), (.istore_n 2, 1, []), (.iconst 0, 1, []), (.istore_n 3, 1, [])]),
  (4, [(.iload_n 3, 1, []), (.aload_n 0, 1, []), (.getfield 36, 3, [8, 7, 0, 187, 0]), (.if_icmp .ge 24, 3, [33])]),
  (12, [(.iload_n 2, 1, []), (.aload_n 0, 1, []), (.getfield 9, 3, [8, 0, 2, 165, 0]), (.iload_n 3, 1, []), (.iaload, 1, []), (.iload_n 1, 1, []), (.ishr, 1, []), (.iconst 1, 1, []), (.iand, 1, []), (.iload_n 3, 1, []), (.ishl, 1, []), (.ior, 1, []), (.istore_n 2, 1, []), (.iinc 3 1, 3, []), (.goto (-26), 3, [4])]),
  (33, [(.iload_n 2, 1, []), (.ireturn, 1, [0])])]
set_option maxRecDepth 100000 in
theorem ok_181 : chkM 181 seg_181 = true := by decide +kernel
-- AC_spread
def seg_182 : SegL := [
  (0, [(.aload_n 0, 1, []), (.getfield 50, 3, [11, 7, 2, 661, 0]), (.getfield 111, 3, [0, 0, 2, 363, 1]), (.iload_n 1, 1, []), (.invokevirtual 127, 3, [106, 2, 909, 0, 2, 0, 0, 0, 0, 4])]),
  (11, [(.ifCond .ne 5, 3, [16])]),
  (14, [(.iconst (-1), 1, []), (.ireturn, 1, [0])]),
  (16, [(.aload_n 0, 1, []), (.invokevirtual 240, 3, [167, 1, 1073, 0, 1, 0, 0, 0, 0, 11])]),
  (20, [(.astore_n 2, 1, []), (.aload_n 0, 1, []), (.getfield 71, 3, [11, 10, 2, 664, 0]), (.aload_n 2, 1, []), (.invokevirtual 244, 3, [169, 2, 1077, 0, 7, 0, 0, 0, 0, 6])]),
  (29, [(.aload_n 2, 1, []), (.iload_n 1, 1, []), (.invokevirtual 259, 3, [181, 2, 1100, 0, 4, 0, 0, 0, 0, 8])]),
  (34, [(.ireturn, 1, [0])])]
set_option maxRecDepth 100000 in
theorem ok_182 : chkM 182 seg_182 = true := by decide +kernel
-- MD_spread
def seg_183 : SegL := [
  (0, [(.aload_n 0, 1, []), (.iconst 0, 1, []), (.putfield 148, 3, [12, 2, 0, 1408, 0, 0]), (.aload_n 0, 1, []), (.iload_n 1, 1, []), (.invokevirtual 464, 3, [161, 2, 1909, 0, 2, 0, 0, 0, 0, 12])]),
  (10, [(.ifCond .ne 5, 3, [15])]),
  (13, [(.iconst (-1), 1, []), (.ireturn, 1, [0])]),
  (15, [(.aload_n 0, 1, []), (.invokevirtual 470, 3, [171, 1, 1925, 0, 2, 0, 0, 0, 0, 12])]),
  (19, [(.aload_n 0, 1, []), (.invokevirtual 473, 3, [173, 1, 1929, 0, 7, 0, 0, 0, 0, 12])]),
  (23, [(.iconst 0, 1, []), (.istore_n 2, 1, []), (.iconst 0, 1, []), (.istore_n 3, 1, [])]),
  (27, [(.iload_n 3, 1, []), (.aload_n 0, 1, []), (.getfield 231, 3, [12, 13, 0, 1419, 0]), (.if_icmp .ge 34, 3, [66])]),
  (35, [(.iload_n 2, 1, []), (.aload_n 0, 1, []), (.getfield 100, 3, [12, 55, 2, 1461, 0]), (.iconst 5, 1, []), (.iload_n 3, 1, []), (.iadd, 1, []), (.iaload, 1, []), (.iload_n 1, 1, []), (.invokestatic 264, 3, [82, 2, 1725, 0, 2, 0, 0, 0, 0, 12])]),
  (48, [(.ifCond .eq 9, 3, [57])]),
  (51, [(.iconst 1, 1, []), (.iload_n 3, 1, []), (.ishl, 1, []), (.goto 4, 3, [58])]),
  (57, [(.iconst 0, 1, [])]),
  (58, [(.ior, 1, []), (.istore_n 2, 1, []), (.iinc 3 1, 3, []), (.goto (-36), 3, [27])]),
  (66, [(.iload_n 2, 1, []), (.ireturn, 1, [0])])]
set_option maxRecDepth 100000 in
theorem ok_183 : chkM 183 seg_183 = true := by decide +kernel
-- AC_helps
def seg_184 : SegL := [
  (0, [(.aload_n 0, 1, []), (.invokevirtual 240, 3, [167, 1, 1073, 0, 1, 0, 0, 0, 0, 11])]),
  (4, [(.astore 5, 2, []), (.aload 5, 2, []), (.getfield 143, 3, [8, 0, 2, 167, 1]), (.iload_n 1, 1, []), (.dup2, 1, []), (.iaload, 1, []), (.iconst 1, 1, []), (.iload_n 2, 1, []), (.ishl, 1, []), (.ior, 1, []), (.iastore, 1, []), (.aload_n 0, 1, []), (.getfield 71, 3, [11, 10, 2, 664, 0]), (.aload 5, 2, []), (.invokevirtual 244, 3, [169, 2, 1077, 0, 7, 0, 0, 0, 0, 6])]),
  (28, [(.aload 5, 2, []), (.iload_n 3, 1, []), (.iload 4, 2, []), (.invokevirtual 228, 3, [146, 3, 1042, 0, 3, 0, 0, 0, 0, 8])]),
  (36, [(.ireturn, 1, [3])])]
set_option maxRecDepth 100000 in
theorem ok_184 : chkM 184 seg_184 = true := by decide +kernel
-- AC_hint
def seg_185 : SegL := [
  (0, [(.aload_n 0, 1, []), (.iload_n 1, 1, []), (.iload_n 2, 1, []), (.invokevirtual 225, 3, [159, 3, 1038, 0, 3, 0, 0, 0, 0, 11])]),
  (6, [(.ifCond .eq 12, 3, [18])]),
  (9, [(.iload_n 3, 1, []), (.ifCond .lt 8, 3, [18])]),
  (13, [(.iload_n 3, 1, []), (.iconst 1, 1, []), (.if_icmp .le 5, 3, [20])]),
  (18, [(.iconst (-1), 1, []), (.ireturn, 1, [0])]),
  (20, [(.aload_n 0, 1, []), (.invokevirtual 240, 3, [167, 1, 1073, 0, 1, 0, 0, 0, 0, 11])]),
  (24, [(.astore 4, 2, []), (.aload_n 0, 1, []), (.getfield 71, 3, [11, 10, 2, 664, 0]), (.aload 4, 2, []), (.invokevirtual 244, 3, [169, 2, 1077, 0, 7, 0, 0, 0, 0, 6])]),
  (35, [(.aload 4, 2, []), (.iload_n 1, 1, []), (.iload_n 2, 1, []), (.invokevirtual 228, 3, [146, 3, 1042, 0, 3, 0, 0, 0, 0, 8])]),
  (42, [(.ifCond .eq 6, 3, [48])]),
  (45, [(.bipush (-2), 2, []), (.ireturn, 1, [0])]),
  (48, [(.iconst 0, 1, []), (.istore 5, 2, [])]),
  (51, [(.iload 5, 2, []), (.aload_n 0, 1, []), (.getfield 50, 3, [11, 7, 2, 661, 0]), (.getfield 121, 3, [0, 1, 2, 369, 1]), (.getfield 189, 3, [4, 2, 0, 332, 1]), (.if_icmp .ge 78, 3, [141])]),
  (66, [(.iconst 0, 1, []), (.istore 6, 2, [])]),
  (69, [(.iload 6, 2, []), (.aload_n 0, 1, []), (.getfield 50, 3, [11, 7, 2, 661, 0]), (.getfield 111, 3, [0, 0, 2, 363, 1]), (.getfield 189, 3, [4, 2, 0, 332, 1]), (.if_icmp .ge 54, 3, [135])]),
  (84, [(.iload 6, 2, []), (.iload_n 2, 1, []), (.if_icmp .eq 42, 3, [129])]),
  (90, [(.aload_n 0, 1, []), (.getfield 16, 3, [11, 1, 2, 655, 0]), (.iload 5, 2, []), (.iload 6, 2, []), (.invokevirtual 228, 3, [146, 3, 1042, 0, 3, 0, 0, 0, 0, 8])]),
  (101, [(.ifCond .ne 28, 3, [129])]),
  (104, [(.aload_n 0, 1, []), (.iload 5, 2, []), (.iload 6, 2, []), (.iload_n 1, 1, []), (.iload_n 2, 1, []), (.invokevirtual 262, 3, [184, 5, 1108, 0, 6, 0, 0, 0, 0, 11])]),
  (114, [(.ifCond .eq 15, 3, [129])]),
  (117, [(.iload_n 3, 1, []), (.ifCond .ne 8, 3, [126])]),
  (121, [(.iload 5, 2, []), (.goto 5, 3, [128])]),
  (126, [(.iload 6, 2, [])]),
  (128, [(.ireturn, 1, [0])]),
  (129, [(.iinc 6 1, 3, []), (.goto (-63), 3, [69])]),
  (135, [(.iinc 5 1, 3, []), (.goto (-87), 3, [51])]),
  (141, [(.bipush (-2), 2, []), (.ireturn, 1, [0])])]
set_option maxRecDepth 100000 in
theorem ok_185 : chkM 185 seg_185 = true := by decide +kernel
-- MD_hint
def seg_186 : SegL := [
  (0, [(.aload_n 0, 1, []), (.iconst 0, 1, []), (.putfield 148, 3, [12, 2, 0, 1408, 0, 0]), (.aload_n 0, 1, []), (.iload_n 1, 1, []), (.invokevirtual 443, 3, [109, 2, 1803, 0, 2, 0, 0, 0, 0, 12])]),
  (10, [(.ifCond .eq 20, 3, [30])]),
  (13, [(.aload_n 0, 1, []), (.iload_n 2, 1, []), (.invokevirtual 464, 3, [161, 2, 1909, 0, 2, 0, 0, 0, 0, 12])]),
  (18, [(.ifCond .eq 12, 3, [30])]),
  (21, [(.iload_n 3, 1, []), (.iconst 0, 1, []), (.iconst 1, 1, []), (.invokestatic 193, 3, [78, 3, 1714, 0, 3, 0, 0, 0, 0, 12])]),
  (27, [(.ifCond .ne 5, 3, [32])]),
  (30, [(.iconst (-1), 1, []), (.ireturn, 1, [0])]),
  (32, [(.aload_n 0, 1, []), (.iload_n 1, 1, []), (.iload_n 2, 1, []), (.iconst 0, 1, []), (.invokevirtual 476, 3, [176, 4, 1941, 0, 5, 0, 0, 0, 0, 12])]),
  (39, [(.ifCond .eq 6, 3, [45])]),
  (42, [(.bipush (-2), 2, []), (.ireturn, 1, [0])]),
  (45, [(.iconst 0, 1, []), (.istore 4, 2, [])]),
  (48, [(.iload 4, 2, []), (.aload_n 0, 1, []), (.getfield 231, 3, [12, 13, 0, 1419, 0]), (.if_icmp .ge 110, 3, [164])]),
  (57, [(.iconst 0, 1, []), (.istore 5, 2, [])]),
  (60, [(.iload 5, 2, []), (.aload_n 0, 1, []), (.getfield 228, 3, [12, 12, 0, 1418, 0]), (.if_icmp .ge 92, 3, [158])]),
  (69, [(.iload 5, 2, []), (.iload_n 2, 1, []), (.if_icmp .eq 80, 3, [152])]),
  (75, [(.aload_n 0, 1, []), (.getfield 100, 3, [12, 55, 2, 1461, 0]), (.iload 4, 2, []), (.iaload, 1, []), (.iload 5, 2, []), (.invokestatic 264, 3, [82, 2, 1725, 0, 2, 0, 0, 0, 0, 12])]),
  (87, [(.ifCond .eq 6, 3, [93])]),
  (90, [(.goto 62, 3, [152])]),
  (93, [(.aload_n 0, 1, []), (.invokevirtual 470, 3, [171, 1, 1925, 0, 2, 0, 0, 0, 0, 12])]),
  (97, [(.aload_n 0, 1, []), (.getfield 100, 3, [12, 55, 2, 1461, 0]), (.iconst 5, 1, []), (.iload 4, 2, []), (.iadd, 1, []), (.dup2, 1, []), (.iaload, 1, []), (.iconst 1, 1, []), (.iload 5, 2, []), (.ishl, 1, []), (.ior, 1, []), (.iastore, 1, []), (.aload_n 0, 1, []), (.invokevirtual 473, 3, [173, 1, 1929, 0, 7, 0, 0, 0, 0, 12])]),
  (117, [(.aload_n 0, 1, []), (.getfield 100, 3, [12, 55, 2, 1461, 0]), (.iconst 5, 1, []), (.iload_n 1, 1, []), (.iadd, 1, []), (.iaload, 1, []), (.iload_n 2, 1, []), (.invokestatic 264, 3, [82, 2, 1725, 0, 2, 0, 0, 0, 0, 12])]),
  (129, [(.istore 6, 2, []), (.aload_n 0, 1, []), (.invokevirtual 371, 3, [15, 1, 1402, 0, 1, 0, 0, 0, 0, 12])]),
  (135, [(.iload 6, 2, []), (.ifCond .eq 15, 3, [152])]),
  (140, [(.iload_n 3, 1, []), (.ifCond .ne 8, 3, [149])]),
  (144, [(.iload 4, 2, []), (.goto 5, 3, [151])]),
  (149, [(.iload 5, 2, [])]),
  (151, [(.ireturn, 1, [0])]),
  (152, [(.iinc 5 1, 3, []), (.goto (-95), 3, [60])]),
  (158, [(.iinc 4 1, 3, []), (.goto (-113), 3, [48])]),
  (164, [(.bipush (-2), 2, []), (.ireturn, 1, [0])])]
set_option maxRecDepth 100000 in
theorem ok_186 : chkM 186 seg_186 = true := by decide +kernel
-- AC_canAskAnybody
def seg_187 : SegL := [
  (0, [(.iconst 0, 1, []), (.istore_n 3, 1, [])]),
  (2, [(.iload_n 3, 1, []), (.aload_n 0, 1, []), (.getfield 50, 3, [11, 7, 2, 661, 0]), (.getfield 121, 3, [0, 1, 2, 369, 1]), (.getfield 189, 3, [4, 2, 0, 332, 1]), (.if_icmp .ge 33, 3, [46])]),
  (16, [(.iload_n 3, 1, []), (.iload_n 1, 1, []), (.if_icmp .eq 22, 3, [40])]),
  (21, [(.aload_n 0, 1, []), (.getfield 71, 3, [11, 10, 2, 664, 0]), (.aload_n 0, 1, []), (.getfield 16, 3, [11, 1, 2, 655, 0]), (.iload_n 1, 1, []), (.iload_n 3, 1, []), (.iload_n 2, 1, []), (.invokevirtual 172, 3, [121, 5, 925, 0, 5, 0, 0, 0, 0, 6])]),
  (35, [(.ifCond .eq 5, 3, [40])]),
  (38, [(.iconst 1, 1, []), (.ireturn, 1, [3])]),
  (40, [(.iinc 3 1, 3, []), (.goto (-41), 3, [2])]),
  (46, [(.iconst 0, 1, []), (.ireturn, 1, [3])])]
set_option maxRecDepth 100000 in
theorem ok_187 : chkM 187 seg_187 = true := by decide +kernel
-- AC_unasked
def seg_188 : SegL := [
  (0, [(.aload_n 0, 1, []), (.getfield 50, 3, [11, 7, 2, 661, 0]), (.getfield 121, 3, [0, 1, 2, 369, 1]), (.iload_n 1, 1, []), (.invokevirtual 127, 3, [106, 2, 909, 0, 2, 0, 0, 0, 0, 4])]),
  (11, [(.ifCond .ne 5, 3, [16])]),
  (14, [(.iconst (-1), 1, []), (.ireturn, 1, [0])]),
  (16, [(.aload_n 0, 1, []), (.getfield 71, 3, [11, 10, 2, 664, 0]), (.aload_n 0, 1, []), (.getfield 50, 3, [11, 7, 2, 661, 0]), (.invokevirtual 171, 3, [117, 2, 921, 0, 2, 0, 0, 0, 0, 6])]),
  (27, [(.iconst 0, 1, []), (.istore_n 2, 1, []), (.iconst 0, 1, []), (.istore_n 3, 1, [])]),
  (31, [(.iload_n 3, 1, []), (.aload_n 0, 1, []), (.getfield 50, 3, [11, 7, 2, 661, 0]), (.getfield 124, 3, [0, 2, 2, 372, 1]), (.getfield 189, 3, [4, 2, 0, 332, 1]), (.if_icmp .ge 24, 3, [66])]),
  (45, [(.aload_n 0, 1, []), (.iload_n 1, 1, []), (.iload_n 3, 1, []), (.invokevirtual 285, 3, [187, 3, 1140, 0, 4, 0, 0, 0, 0, 11])]),
  (51, [(.ifCond .ne 9, 3, [60])]),
  (54, [(.iload_n 2, 1, []), (.iconst 1, 1, []), (.iload_n 3, 1, []), (.ishl, 1, []), (.ior, 1, []), (.istore_n 2, 1, [])]),
  (60, [(.iinc 3 1, 3, []), (.goto (-32), 3, [31])]),
  (66, [(.iload_n 2, 1, []), (.ireturn, 1, [0])])]
set_option maxRecDepth 100000 in
theorem ok_188 : chkM 188 seg_188 = true := by decide +kernel
-- MD_unasked
def seg_189 : SegL := [
  (0, [(.aload_n 0, 1, []), (.iconst 0, 1, []), (.putfield 148, 3, [12, 2, 0, 1408, 0, 0]), (.aload_n 0, 1, []), (.iload_n 1, 1, []), (.invokevirtual 443, 3, [109, 2, 1803, 0, 2, 0, 0, 0, 0, 12])]),
  (10, [(.ifCond .ne 5, 3, [15])]),
  (13, [(.iconst (-1), 1, []), (.ireturn, 1, [0])]),
  (15, [(.aload_n 0, 1, []), (.invokevirtual 371, 3, [15, 1, 1402, 0, 1, 0, 0, 0, 0, 12])]),
  (19, [(.iconst 1, 1, []), (.aload_n 0, 1, []), (.getfield 234, 3, [12, 14, 0, 1420, 0]), (.ishl, 1, []), (.iconst 1, 1, []), (.isub, 1, []), (.istore_n 2, 1, []), (.iconst 0, 1, []), (.istore_n 3, 1, [])]),
  (30, [(.iload_n 3, 1, []), (.aload_n 0, 1, []), (.getfield 234, 3, [12, 14, 0, 1420, 0]), (.if_icmp .ge 47, 3, [82])]),
  (38, [(.iconst 0, 1, []), (.istore 4, 2, [])]),
  (41, [(.iload 4, 2, []), (.aload_n 0, 1, []), (.getfield 231, 3, [12, 13, 0, 1419, 0]), (.if_icmp .ge 29, 3, [76])]),
  (50, [(.aload_n 0, 1, []), (.iconst 0, 1, []), (.iload_n 1, 1, []), (.iload 4, 2, []), (.iload_n 3, 1, []), (.invokevirtual 452, 3, [124, 5, 1823, 0, 5, 0, 0, 0, 0, 12])]),
  (59, [(.ifCond .eq 11, 3, [70])]),
  (62, [(.iload_n 2, 1, []), (.iconst 1, 1, []), (.iload_n 3, 1, []), (.ishl, 1, []), (.iconst (-1), 1, []), (.ixor, 1, []), (.iand, 1, []), (.istore_n 2, 1, [])]),
  (70, [(.iinc 4 1, 3, []), (.goto (-32), 3, [41])]),
  (76, [(.iinc 3 1, 3, []), (.goto (-49), 3, [30])]),
  (82, [(.iload_n 2, 1, []), (.ireturn, 1, [0])])]
set_option maxRecDepth 100000 in
theorem ok_189 : chkM 189 seg_189 = true := by decide +kernel
-- AC_sumInRoom
def seg_190 : SegL := [
  (0, [(.aload_n 0, 1, []), (.invokevirtual 240, 3, [167, 1, 1073, 0, 1, 0, 0, 0, 0, 11])]),
  (4, [(.astore_n 3, 1, []), (.aload_n 3, 1, []), (.getfield 140, 3, [8, 1, 2, 171, 1]), (.iload_n 1, 1, []), (.iload_n 2, 1, []), (.iastore, 1, []), (.aload_n 0, 1, []), (.getfield 71, 3, [11, 10, 2, 664, 0]), (.aload_n 3, 1, []), (.invokevirtual 244, 3, [169, 2, 1077, 0, 7, 0, 0, 0, 0, 6])]),
  (20, [(.aload_n 3, 1, []), (.invokevirtual 201, 3, [168, 1, 978, 0, 3, 0, 0, 0, 0, 8])]),
  (24, [(.ireturn, 1, [0])])]
set_option maxRecDepth 100000 in
theorem ok_190 : chkM 190 seg_190 = true := by decide +kernel
-- AC_inRoom
def seg_191 : SegL := [
  (0, [(.aload_n 0, 1, []), (.getfield 50, 3, [11, 7, 2, 661, 0]), (.getfield 121, 3, [0, 1, 2, 369, 1]), (.iload_n 1, 1, []), (.invokevirtual 127, 3, [106, 2, 909, 0, 2, 0, 0, 0, 0, 4])]),
  (11, [(.ifCond .eq 12, 3, [23])]),
  (14, [(.iload_n 2, 1, []), (.ifCond .lt 8, 3, [23])]),
  (18, [(.iload_n 2, 1, []), (.iconst 3, 1, []), (.if_icmp .le 5, 3, [25])]),
  (23, [(.iconst (-1), 1, []), (.ireturn, 1, [0])]),
  (25, [(.aload_n 0, 1, []), (.iload_n 1, 1, []), (.iload_n 2, 1, []), (.invokevirtual 266, 3, [190, 3, 1116, 0, 4, 0, 0, 0, 0, 11])]),
  (31, [(.ireturn, 1, [0])])]
set_option maxRecDepth 100000 in
theorem ok_191 : chkM 191 seg_191 = true := by decide +kernel
-- MD_sumInRoom
def seg_192 : SegL := [
  (0, [(.aload_n 0, 1, []), (.invokevirtual 470, 3, [171, 1, 1925, 0, 2, 0, 0, 0, 0, 12])]),
  (4, [(.aload_n 0, 1, []), (.getfield 106, 3, [12, 57, 2, 1463, 0]), (.iconst 5, 1, []), (.iload_n 1, 1, []), (.iadd, 1, []), (.iload_n 2, 1, []), (.iastore, 1, []), (.aload_n 0, 1, []), (.invokevirtual 473, 3, [173, 1, 1929, 0, 7, 0, 0, 0, 0, 12])]),
  (17, [(.aload_n 0, 1, []), (.iconst 1, 1, []), (.invokevirtual 467, 3, [172, 2, 1933, 0, 4, 0, 0, 0, 0, 12])]),
  (22, [(.ireturn, 1, [0])])]
set_option maxRecDepth 100000 in
theorem ok_192 : chkM 192 seg_192 = true := by decide +kernel
-- MD_inRoom
def seg_193 : SegL := [
  (0, [(.aload_n 0, 1, []), (.iconst 0, 1, []), (.putfield 148, 3, [12, 2, 0, 1408, 0, 0]), (.aload_n 0, 1, []), (.iload_n 1, 1, []), (.invokevirtual 443, 3, [109, 2, 1803, 0, 2, 0, 0, 0, 0, 12])]),
  (10, [(.ifCond .eq 21, 3, [31])]),
  (13, [(.iload_n 2, 1, []), (.iconst 0, 1, []), (.iconst 3, 1, []), (.invokestatic 193, 3, [78, 3, 1714, 0, 3, 0, 0, 0, 0, 12])]),
  (19, [(.ifCond .eq 12, 3, [31])]),
  (22, [(.aload_n 0, 1, []), (.iload_n 1, 1, []), (.iload_n 2, 1, []), (.invokevirtual 479, 3, [192, 3, 1965, 0, 3, 0, 0, 0, 0, 12])]),
  (28, [(.goto 4, 3, [32])]),
  (31, [(.iconst (-1), 1, [])]),
  (32, [(.ireturn, 1, [0])])]
set_option maxRecDepth 100000 in
theorem ok_193 : chkM 193 seg_193 = true := by decide +kernel
-- AC_bestRoom
def seg_194 : SegL := [
  (0, [(.aload_n 0, 1, []), (.getfield 50, 3, [11, 7, 2, 661, 0]), (.getfield 121, 3, [0, 1, 2, 369, 1]), (.iload_n 1, 1, []), (.invokevirtual 127, 3, [106, 2, 909, 0, 2, 0, 0, 0, 0, 4])]),
  (11, [(.ifCond .ne 5, 3, [16])]),
  (14, [(.iconst (-1), 1, []), (.ireturn, 1, [0])]),
  (16, [(.iconst 0, 1, []), (.istore_n 2, 1, []), (.iconst (-1), 1, []), (.istore_n 3, 1, []), (.iconst 0, 1, []), (.istore 4, 2, [])]),
  (23, [(.iload 4, 2, []), (.iconst 3, 1, []), (.if_icmp .gt 30, 3, [56])]),
  (29, [(.aload_n 0, 1, []), (.iload_n 1, 1, []), (.iload 4, 2, []), (.invokevirtual 266, 3, [190, 3, 1116, 0, 4, 0, 0, 0, 0, 11])]),
  (36, [(.istore 5, 2, []), (.iload 5, 2, []), (.iload_n 3, 1, []), (.if_icmp .le 9, 3, [50])]),
  (44, [(.iload 5, 2, []), (.istore_n 3, 1, []), (.iload 4, 2, []), (.istore_n 2, 1, [])]),
  (50, [(.iinc 4 1, 3, []), (.goto (-30), 3, [23])]),
  (56, [(.iload_n 2, 1, []), (.ireturn, 1, [0])])]
set_option maxRecDepth 100000 in
theorem ok_194 : chkM 194 seg_194 = true := by decide +kernel
-- MD_bestRoom
def seg_195 : SegL := [
  (0, [(.aload_n 0, 1, []), (.iconst 0, 1, []), (.putfield 148, 3, [12, 2, 0, 1408, 0, 0]), (.aload_n 0, 1, []), (.iload_n 1, 1, []), (.invokevirtual 443, 3, [109, 2, 1803, 0, 2, 0, 0, 0, 0, 12])]),
  (10, [(.ifCond .ne 5, 3, [15])]),
  (13, [(.iconst (-1), 1, []), (.ireturn, 1, [0])]),
  (15, [(.iconst 0, 1, []), (.istore_n 2, 1, []), (.iconst 1, 1, []), (.istore_n 3, 1, [])]),
  (19, [(.iload_n 3, 1, []), (.iconst 4, 1, []), (.if_icmp .ge 30, 3, [51])]),
  (24, [(.aload_n 0, 1, []), (.iload_n 1, 1, []), (.iload_n 3, 1, []), (.invokevirtual 479, 3, [192, 3, 1965, 0, 3, 0, 0, 0, 0, 12])]),
  (30, [(.aload_n 0, 1, []), (.iload_n 1, 1, []), (.iload_n 2, 1, []), (.invokevirtual 479, 3, [192, 3, 1965, 0, 3, 0, 0, 0, 0, 12])]),
  (36, [(.if_icmp .le 7, 3, [43])]),
  (39, [(.iload_n 3, 1, []), (.goto 4, 3, [44])]),
  (43, [(.iload_n 2, 1, [])]),
  (44, [(.istore_n 2, 1, []), (.iinc 3 1, 3, []), (.goto (-29), 3, [19])]),
  (51, [(.iload_n 2, 1, []), (.ireturn, 1, [0])])]
set_option maxRecDepth 100000 in
theorem ok_195 : chkM 195 seg_195 = true := by decide +kernel
-- AC_isWay
def seg_196 : SegL := [
  (0, [(.aload_n 0, 1, []), (.iload_n 1, 1, []), (.iload_n 2, 1, []), (.invokevirtual 225, 3, [159, 3, 1038, 0, 3, 0, 0, 0, 0, 11])]),
  (6, [(.ifCond .eq 47, 3, [53])]),
  (9, [(.iload 4, 2, []), (.iconst 1, 1, []), (.if_icmp .lt 41, 3, [53])]),
  (15, [(.iload 4, 2, []), (.iconst 2, 1, []), (.if_icmp .gt 35, 3, [53])]),
  (21, [(.iload_n 3, 1, []), (.ifCond .lt 31, 3, [53])]),
  (25, [(.iload_n 3, 1, []), (.iconst 1, 1, []), (.aload_n 0, 1, []), (.getfield 50, 3, [11, 7, 2, 661, 0]), (.getfield 121, 3, [0, 1, 2, 369, 1]), (.getfield 189, 3, [4, 2, 0, 332, 1]), (.ishl, 1, []), (.if_icmp .ge 15, 3, [53])]),
  (41, [(.iload_n 3, 1, []), (.iload_n 1, 1, []), (.ishr, 1, []), (.iconst 1, 1, []), (.iand, 1, []), (.ifCond .ne 7, 3, [53])]),
  (49, [(.iconst 1, 1, []), (.goto 4, 3, [54])]),
  (53, [(.iconst 0, 1, [])]),
  (54, [(.ireturn, 1, [3])])]
set_option maxRecDepth 100000 in
theorem ok_196 : chkM 196 seg_196 = true := by decide +kernel
-- Search_aim
def seg_197 : SegL := [
  (0, [(.aload_n 0, 1, []), (.iload_n 1, 1, []), (.putfield 34, 3, [7, 5, 0, 276, 0, 0]), (.aload_n 0, 1, []), (.iload_n 2, 1, []), (.putfield 38, 3, [7, 6, 0, 277, 0, 0]), (.aload_n 0, 1, []), (.iload_n 3, 1, []), (.putfield 41, 3, [7, 7, 0, 278, 0, 0]), (.return_, 1, [])])]
set_option maxRecDepth 100000 in
theorem ok_197 : chkM 197 seg_197 = true := by decide +kernel
-- Search_canTell
def seg_198 : SegL := [
  (0, [(.aload_n 1, 1, []), (.getfield 94, 3, [0, 10, 2, 400, 1]), (.iload_n 2, 1, []), (.iaload, 1, []), (.aload_n 0, 1, []), (.getfield 38, 3, [7, 6, 0, 277, 0]), (.if_icmp .eq 18, 3, [28])]),
  (13, [(.aload_n 1, 1, []), (.iload_n 2, 1, []), (.invokevirtual 97, 3, [119, 2, 1182, 0, 3, 0, 0, 0, 0, 0])]),
  (18, [(.aload_n 0, 1, []), (.getfield 38, 3, [7, 6, 0, 277, 0]), (.ishr, 1, []), (.iconst 1, 1, []), (.iand, 1, []), (.ifCond .eq 7, 3, [32])]),
  (28, [(.iconst 1, 1, []), (.goto 4, 3, [33])]),
  (32, [(.iconst 0, 1, [])]),
  (33, [(.ireturn, 1, [3])])]
set_option maxRecDepth 100000 in
theorem ok_198 : chkM 198 seg_198 = true := by decide +kernel
-- Search_findLast
def seg_199 : SegL := [
  (0, [(.aload_n 1, 1, []), (.getfield 59, 3, [6, 2, 2, 625, 1]), (.getfield 65, 3, [0, 1, 2, 366, 1]), (.getfield 71, 3, [4, 2, 0, 329, 1]), (.istore 4, 2, []), (.iconst 0, 1, []), (.istore 5, 2, [])]),
  (15, [(.iload 5, 2, []), (.iload 4, 2, []), (.if_icmp .ge 172, 3, [191])]),
  (22, [(.iconst 0, 1, []), (.istore 6, 2, [])]),
  (25, [(.iload 6, 2, []), (.iload 4, 2, []), (.if_icmp .ge 156, 3, [185])]),
  (32, [(.iconst 0, 1, []), (.istore 7, 2, [])]),
  (35, [(.iload 7, 2, []), (.aload_n 1, 1, []), (.getfield 59, 3, [6, 2, 2, 625, 1]), (.getfield 76, 3, [0, 2, 2, 371, 1]), (.getfield 71, 3, [4, 2, 0, 329, 1]), (.if_icmp .ge 132, 3, [179])]),
  (50, [(.iload 5, 2, []), (.iload 6, 2, []), (.if_icmp .eq 119, 3, [173])]),
  (57, [(.aload_n 0, 1, []), (.aload_n 1, 1, []), (.getfield 59, 3, [6, 2, 2, 625, 1]), (.iload 7, 2, []), (.invokevirtual 90, 3, [198, 3, 1178, 0, 3, 0, 0, 0, 0, 7])]),
  (67, [(.ifCond .eq 106, 3, [173])]),
  (70, [(.aload_n 1, 1, []), (.aload_n 2, 1, []), (.iload 5, 2, []), (.iload 6, 2, []), (.iload 7, 2, []), (.invokevirtual 79, 3, [121, 5, 1183, 0, 5, 0, 0, 0, 0, 6])]),
  (81, [(.ifCond .eq 92, 3, [173])]),
  (84, [(.aload_n 0, 1, []), (.getfield 18, 3, [7, 1, 2, 269, 0]), (.aload_n 2, 1, []), (.invokevirtual 83, 3, [142, 2, 1184, 0, 3, 0, 0, 0, 0, 8])]),
  (92, [(.aload_n 1, 1, []), (.aload_n 0, 1, []), (.getfield 18, 3, [7, 1, 2, 269, 0]), (.iload 5, 2, []), (.iload 6, 2, []), (.iload 7, 2, []), (.invokevirtual 87, 3, [149, 5, 1185, 0, 9, 0, 0, 0, 0, 6])]),
  (106, [(.pop, 1, []), (.aload_n 0, 1, []), (.getfield 18, 3, [7, 1, 2, 269, 0]), (.aload_n 0, 1, []), (.getfield 34, 3, [7, 5, 0, 276, 0]), (.aload_n 0, 1, []), (.getfield 38, 3, [7, 6, 0, 277, 0]), (.invokevirtual 47, 3, [146, 3, 1172, 0, 3, 0, 0, 0, 0, 8])]),
  (122, [(.ifCond .eq 51, 3, [173])]),
  (125, [(.aload_n 0, 1, []), (.getfield 18, 3, [7, 1, 2, 269, 0]), (.aload_n 0, 1, []), (.getfield 38, 3, [7, 6, 0, 277, 0]), (.invokevirtual 51, 3, [181, 2, 1173, 0, 4, 0, 0, 0, 0, 8])]),
  (136, [(.aload_n 0, 1, []), (.getfield 41, 3, [7, 7, 0, 278, 0]), (.iand, 1, []), (.ifCond .ne 32, 3, [173])]),
  (144, [(.aload_n 0, 1, []), (.getfield 21, 3, [7, 2, 2, 270, 0]), (.iload_n 3, 1, []), (.bipush 100, 2, []), (.iload 5, 2, []), (.imul, 1, []), (.bipush 10, 2, []), (.iload 6, 2, []), (.imul, 1, []), (.iadd, 1, []), (.iload 7, 2, []), (.iadd, 1, []), (.iastore, 1, []), (.aload_n 0, 1, []), (.iload_n 3, 1, []), (.iconst 1, 1, []), (.iadd, 1, []), (.putfield 44, 3, [7, 3, 0, 272, 0, 0]), (.iconst 1, 1, []), (.ireturn, 1, [3])]),
  (173, [(.iinc 7 1, 3, []), (.goto (-141), 3, [35])]),
  (179, [(.iinc 6 1, 3, []), (.goto (-157), 3, [25])]),
  (185, [(.iinc 5 1, 3, []), (.goto (-173), 3, [15])]),
  (191, [(.iconst 0, 1, []), (.ireturn, 1, [3])])]
set_option maxRecDepth 100000 in
theorem ok_199 : chkM 199 seg_199 = true := by decide +kernel
def segG_3 : List SegL := [seg_150, seg_151, seg_152, seg_153, seg_154, seg_155, seg_156, seg_157, seg_158, seg_159, seg_160, seg_161, seg_162, seg_163, seg_164, seg_165, seg_166, seg_167, seg_168, seg_169, seg_170, seg_171, seg_172, seg_173, seg_174, seg_175, seg_176, seg_177, seg_178, seg_179, seg_180, seg_181, seg_182, seg_183, seg_184, seg_185, seg_186, seg_187, seg_188, seg_189, seg_190, seg_191, seg_192, seg_193, seg_194, seg_195, seg_196, seg_197, seg_198, seg_199]
theorem okG_3 : okFrom 150 segG_3 := ⟨ok_150, ok_151, ok_152, ok_153, ok_154, ok_155, ok_156, ok_157, ok_158, ok_159, ok_160, ok_161, ok_162, ok_163, ok_164, ok_165, ok_166, ok_167, ok_168, ok_169, ok_170, ok_171, ok_172, ok_173, ok_174, ok_175, ok_176, ok_177, ok_178, ok_179, ok_180, ok_181, ok_182, ok_183, ok_184, ok_185, ok_186, ok_187, ok_188, ok_189, ok_190, ok_191, ok_192, ok_193, ok_194, ok_195, ok_196, ok_197, ok_198, ok_199, trivial⟩
