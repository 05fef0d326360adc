-- MD_lineRead
def seg_100 : SegL := [
  (0, [(.aload_n 0, 1, []), (.getfield 166, 3, [12, 8, 0, 1414, 0]), (.iconst 1, 1, []), (.if_icmp .ne 12, 3, [17])]),
  (8, [(.aload_n 0, 1, []), (.getfield 177, 3, [12, 9, 0, 1415, 0]), (.bipush 7, 2, []), (.if_icmp .le 9, 3, [23])]),
  (17, [(.aload_n 0, 1, []), (.iconst 1, 1, []), (.invokevirtual 190, 3, [74, 2, 1691, 0, 2, 0, 0, 0, 0, 12])]),
  (22, [(.ireturn, 1, [3])]),
  (23, [(.aload_n 0, 1, []), (.getfield 177, 3, [12, 9, 0, 1415, 0]), (.tableswitch 103 0 6 #[41, 49, 57, 65, 73, 81, 92], 41, [130, 68, 76, 84, 92, 100, 108, 119])]),
  (68, [(.aload_n 0, 1, []), (.invokevirtual 271, 3, [77, 1, 1695, 0, 1, 0, 0, 0, 0, 12])]),
  (72, [(.istore_n 1, 1, []), (.goto 146, 3, [219])]),
  (76, [(.aload_n 0, 1, []), (.invokevirtual 274, 3, [80, 1, 1706, 0, 2, 0, 0, 0, 0, 12])]),
  (80, [(.istore_n 1, 1, []), (.goto 138, 3, [219])]),
  (84, [(.aload_n 0, 1, []), (.invokevirtual 277, 3, [83, 1, 1717, 0, 3, 0, 0, 0, 0, 12])]),
  (88, [(.istore_n 1, 1, []), (.goto 130, 3, [219])]),
  (92, [(.aload_n 0, 1, []), (.invokevirtual 280, 3, [86, 1, 1728, 0, 2, 0, 0, 0, 0, 12])]),
  (96, [(.istore_n 1, 1, []), (.goto 122, 3, [219])]),
  (100, [(.aload_n 0, 1, []), (.invokevirtual 283, 3, [87, 1, 1740, 0, 3, 0, 0, 0, 0, 12])]),
  (104, [(.istore_n 1, 1, []), (.goto 114, 3, [219])]),
  (108, [(.aload_n 0, 1, []), (.iconst 0, 1, []), (.bipush 99, 2, []), (.invokevirtual 286, 3, [88, 3, 1744, 0, 3, 0, 0, 0, 0, 12])]),
  (115, [(.istore_n 1, 1, []), (.goto 103, 3, [219])]),
  (119, [(.aload_n 0, 1, []), (.iconst 1, 1, []), (.ldc 186, 2, [99999, 1682]), (.invokevirtual 286, 3, [88, 3, 1744, 0, 3, 0, 0, 0, 0, 12])]),
  (126, [(.istore_n 1, 1, []), (.goto 92, 3, [219])]),
  (130, [(.aload_n 0, 1, []), (.invokevirtual 200, 3, [73, 1, 1662, 0, 1, 0, 0, 0, 0, 12])]),
  (134, [(.aload_n 0, 1, []), (.bipush 13, 2, []), (.invokevirtual 254, 3, [84, 2, 1736, 0, 2, 0, 0, 0, 0, 12])]),
  (140, [(.ifCond .ne 18, 3, [158])]),
  (143, [(.aload_n 0, 1, []), (.bipush 14, 2, []), (.invokevirtual 254, 3, [84, 2, 1736, 0, 2, 0, 0, 0, 0, 12])]),
  (149, [(.ifCond .ne 9, 3, [158])]),
  (152, [(.aload_n 0, 1, []), (.iconst 1, 1, []), (.invokevirtual 190, 3, [74, 2, 1691, 0, 2, 0, 0, 0, 0, 12])]),
  (157, [(.ireturn, 1, [3])]),
  (158, [(.iconst 2, 1, []), (.aload_n 0, 1, []), (.getfield 177, 3, [12, 9, 0, 1415, 0]), (.iadd, 1, []), (.bipush 13, 2, []), (.isub, 1, []), (.istore_n 2, 1, []), (.aload_n 0, 1, []), (.getfield 69, 3, [12, 38, 2, 1444, 0]), (.iload_n 2, 1, []), (.baload, 1, []), (.ifCond .eq 9, 3, [183])]),
  (177, [(.aload_n 0, 1, []), (.iconst 3, 1, []), (.invokevirtual 190, 3, [74, 2, 1691, 0, 2, 0, 0, 0, 0, 12])]),
  (182, [(.ireturn, 1, [3])]),
  (183, [(.aload_n 0, 1, []), (.getfield 69, 3, [12, 38, 2, 1444, 0]), (.iload_n 2, 1, []), (.iconst 1, 1, []), (.bastore, 1, []), (.aload_n 0, 1, []), (.invokevirtual 200, 3, [73, 1, 1662, 0, 1, 0, 0, 0, 0, 12])]),
  (194, [(.aload_n 0, 1, []), (.getfield 72, 3, [12, 39, 2, 1445, 0]), (.iload_n 2, 1, []), (.aload_n 0, 1, []), (.getfield 222, 3, [12, 21, 0, 1427, 0]), (.iastore, 1, []), (.aload_n 0, 1, []), (.invokevirtual 289, 3, [99, 1, 1748, 0, 1, 0, 0, 0, 0, 12])]),
  (208, [(.istore_n 1, 1, []), (.aload_n 0, 1, []), (.getfield 75, 3, [12, 40, 2, 1446, 0]), (.iload_n 2, 1, []), (.aload_n 0, 1, []), (.getfield 222, 3, [12, 21, 0, 1427, 0]), (.iastore, 1, [])]),
  (219, [(.iload_n 1, 1, []), (.ifCond .ne 5, 3, [225])]),
  (223, [(.iconst 0, 1, []), (.ireturn, 1, [3])]),
  (225, [(.aload_n 0, 1, []), (.bipush 59, 2, []), (.invokevirtual 203, 3, [89, 2, 1752, 0, 2, 0, 0, 0, 0, 12])]),
  (231, [(.ifCond .ne 9, 3, [240])]),
  (234, [(.aload_n 0, 1, []), (.iconst 1, 1, []), (.invokevirtual 190, 3, [74, 2, 1691, 0, 2, 0, 0, 0, 0, 12])]),
  (239, [(.ireturn, 1, [3])]),
  (240, [(.aload_n 0, 1, []), (.invokevirtual 200, 3, [73, 1, 1662, 0, 1, 0, 0, 0, 0, 12])]),
  (244, [(.iconst 1, 1, []), (.ireturn, 1, [3])])]
set_option maxRecDepth 100000 in
theorem ok_100 : chkM 100 seg_100 = true := by decide +kernel
-- MD_text
def seg_101 : SegL := [
  (0, [(.aload_n 0, 1, []), (.iconst 0, 1, []), (.putfield 148, 3, [12, 2, 0, 1408, 0, 0]), (.iload_n 1, 1, []), (.ifCond .lt 11, 3, [17])]),
  (9, [(.iload_n 1, 1, []), (.aload_n 0, 1, []), (.getfield 151, 3, [12, 1, 0, 1407, 0]), (.if_icmp .le 6, 3, [20])]),
  (17, [(.bipush (-2), 2, []), (.ireturn, 1, [0])]),
  (20, [(.aload_n 0, 1, []), (.iload_n 1, 1, []), (.putfield 160, 3, [12, 6, 0, 1412, 0, 0]), (.aload_n 0, 1, []), (.iconst 0, 1, []), (.putfield 151, 3, [12, 1, 0, 1407, 0, 0]), (.aload_n 0, 1, []), (.iconst 0, 1, []), (.putfield 154, 3, [12, 4, 0, 1410, 0, 0]), (.aload_n 0, 1, []), (.iconst (-1), 1, []), (.putfield 16, 3, [12, 5, 0, 1411, 0, 0]), (.aload_n 0, 1, []), (.iconst 0, 1, []), (.putfield 163, 3, [12, 7, 0, 1413, 0, 0]), (.aload_n 0, 1, []), (.invokevirtual 142, 3, [12, 1, 1383, 0, 2, 0, 0, 0, 0, 12])]),
  (49, [(.aload_n 0, 1, []), (.invokevirtual 200, 3, [73, 1, 1662, 0, 1, 0, 0, 0, 0, 12])]),
  (53, [(.iconst 0, 1, []), (.istore_n 2, 1, [])]),
  (55, [(.aload_n 0, 1, []), (.getfield 166, 3, [12, 8, 0, 1414, 0]), (.ifCond .eq 18, 3, [77])]),
  (62, [(.aload_n 0, 1, []), (.invokevirtual 292, 3, [100, 1, 1687, 0, 3, 0, 0, 0, 0, 12])]),
  (66, [(.ifCond .ne 5, 3, [71])]),
  (69, [(.iconst (-1), 1, []), (.ireturn, 1, [0])]),
  (71, [(.iinc 2 1, 3, []), (.goto (-19), 3, [55])]),
  (77, [(.aload_n 0, 1, []), (.invokevirtual 145, 3, [17, 1, 1387, 0, 2, 0, 0, 0, 0, 12])]),
  (81, [(.iload_n 2, 1, []), (.ireturn, 1, [0])])]
set_option maxRecDepth 100000 in
theorem ok_101 : chkM 101 seg_101 = true := by decide +kernel
-- AC_fault
def seg_102 : SegL := [
  (0, [(.iload_n 1, 1, []), (.lookupswitch 37 #[(0, 27), (1, 32)], 27, [38, 28, 33])]),
  (28, [(.aload_n 0, 1, []), (.getfield 90, 3, [11, 12, 0, 666, 0]), (.ireturn, 1, [0])]),
  (33, [(.aload_n 0, 1, []), (.getfield 75, 3, [11, 13, 0, 667, 0]), (.ireturn, 1, [0])]),
  (38, [(.iconst (-1), 1, []), (.ireturn, 1, [0])])]
set_option maxRecDepth 100000 in
theorem ok_102 : chkM 102 seg_102 = true := by decide +kernel
-- MD_fault
def seg_103 : SegL := [
  (0, [(.aload_n 0, 1, []), (.iconst 0, 1, []), (.putfield 148, 3, [12, 2, 0, 1408, 0, 0]), (.iload_n 1, 1, []), (.ifCond .ne 10, 3, [16])]),
  (9, [(.aload_n 0, 1, []), (.getfield 154, 3, [12, 4, 0, 1410, 0]), (.goto 16, 3, [29])]),
  (16, [(.iload_n 1, 1, []), (.iconst 1, 1, []), (.if_icmp .ne 10, 3, [28])]),
  (21, [(.aload_n 0, 1, []), (.getfield 16, 3, [12, 5, 0, 1411, 0]), (.goto 4, 3, [29])]),
  (28, [(.iconst (-1), 1, [])]),
  (29, [(.ireturn, 1, [0])])]
set_option maxRecDepth 100000 in
theorem ok_103 : chkM 103 seg_103 = true := by decide +kernel
-- AC_named
def seg_104 : SegL := [
  (0, [(.iload_n 1, 1, []), (.tableswitch 63 0 2 #[27, 39, 51], 27, [64, 28, 40, 52])]),
  (28, [(.aload_n 0, 1, []), (.getfield 50, 3, [11, 7, 2, 661, 0]), (.getfield 111, 3, [0, 0, 2, 363, 1]), (.iload_n 2, 1, []), (.invokevirtual 115, 3, [35, 2, 904, 0, 3, 0, 0, 0, 0, 4])]),
  (39, [(.ireturn, 1, [0])]),
  (40, [(.aload_n 0, 1, []), (.getfield 50, 3, [11, 7, 2, 661, 0]), (.getfield 121, 3, [0, 1, 2, 369, 1]), (.iload_n 2, 1, []), (.invokevirtual 115, 3, [35, 2, 904, 0, 3, 0, 0, 0, 0, 4])]),
  (51, [(.ireturn, 1, [0])]),
  (52, [(.aload_n 0, 1, []), (.getfield 50, 3, [11, 7, 2, 661, 0]), (.getfield 124, 3, [0, 2, 2, 372, 1]), (.iload_n 2, 1, []), (.invokevirtual 115, 3, [35, 2, 904, 0, 3, 0, 0, 0, 0, 4])]),
  (63, [(.ireturn, 1, [0])]),
  (64, [(.iconst (-1), 1, []), (.ireturn, 1, [0])])]
set_option maxRecDepth 100000 in
theorem ok_104 : chkM 104 seg_104 = true := by decide +kernel
-- MD_named
def seg_105 : SegL := [
  (0, [(.aload_n 0, 1, []), (.iconst 0, 1, []), (.putfield 148, 3, [12, 2, 0, 1408, 0, 0]), (.iload_n 1, 1, []), (.tableswitch 68 0 2 #[26, 40, 54], 26, [74, 32, 46, 60])]),
  (32, [(.aload_n 0, 1, []), (.getfield 27, 3, [12, 24, 2, 1430, 0]), (.iconst 0, 1, []), (.aload_n 0, 1, []), (.getfield 228, 3, [12, 12, 0, 1418, 0]), (.iload_n 2, 1, []), (.invokestatic 250, 3, [75, 4, 1703, 0, 5, 0, 0, 0, 0, 12])]),
  (45, [(.ireturn, 1, [0])]),
  (46, [(.aload_n 0, 1, []), (.getfield 30, 3, [12, 25, 2, 1431, 0]), (.iconst 0, 1, []), (.aload_n 0, 1, []), (.getfield 231, 3, [12, 13, 0, 1419, 0]), (.iload_n 2, 1, []), (.invokestatic 250, 3, [75, 4, 1703, 0, 5, 0, 0, 0, 0, 12])]),
  (59, [(.ireturn, 1, [0])]),
  (60, [(.aload_n 0, 1, []), (.getfield 45, 3, [12, 30, 2, 1436, 0]), (.iconst 0, 1, []), (.aload_n 0, 1, []), (.getfield 234, 3, [12, 14, 0, 1420, 0]), (.iload_n 2, 1, []), (.invokestatic 250, 3, [75, 4, 1703, 0, 5, 0, 0, 0, 0, 12])]),
  (73, [(.ireturn, 1, [0])]),
  (74, [(.iconst (-1), 1, []), (.ireturn, 1, [0])])]
set_option maxRecDepth 100000 in
theorem ok_105 : chkM 105 seg_105 = true := by decide +kernel
-- Names_has
def seg_106 : SegL := [
  (0, [(.iload_n 1, 1, []), (.ifCond .lt 15, 3, [16])]),
  (4, [(.iload_n 1, 1, []), (.aload_n 0, 1, []), (.getfield 25, 3, [4, 2, 0, 327, 0]), (.if_icmp .ge 7, 3, [16])]),
  (12, [(.iconst 1, 1, []), (.goto 4, 3, [17])]),
  (16, [(.iconst 0, 1, [])]),
  (17, [(.ireturn, 1, [3])])]
set_option maxRecDepth 100000 in
theorem ok_106 : chkM 106 seg_106 = true := by decide +kernel
-- AC_person
def seg_107 : SegL := [
  (0, [(.aload_n 0, 1, []), (.getfield 50, 3, [11, 7, 2, 661, 0]), (.getfield 121, 3, [0, 1, 2, 369, 1]), (.iload_n 1, 1, []), (.invokevirtual 127, 3, [106, 2, 909, 0, 2, 0, 0, 0, 0, 4])]),
  (11, [(.ifCond .ne 11, 3, [22])]),
  (14, [(.new 131, 3, []), (.dup, 1, []), (.invokespecial 133, 3, [])]),
  (21, [(.athrow, 1, [])]),
  (22, [(.iload_n 2, 1, []), (.tableswitch 97 0 5 #[37, 47, 57, 67, 77, 87], 37, [120, 60, 70, 80, 90, 100, 110])]),
  (60, [(.aload_n 0, 1, []), (.getfield 50, 3, [11, 7, 2, 661, 0]), (.getfield 134, 3, [0, 3, 2, 377, 1]), (.iload_n 1, 1, []), (.iaload, 1, []), (.ireturn, 1, [0])]),
  (70, [(.aload_n 0, 1, []), (.getfield 50, 3, [11, 7, 2, 661, 0]), (.getfield 137, 3, [0, 4, 2, 381, 1]), (.iload_n 1, 1, []), (.iaload, 1, []), (.ireturn, 1, [0])]),
  (80, [(.aload_n 0, 1, []), (.getfield 16, 3, [11, 1, 2, 655, 0]), (.getfield 140, 3, [8, 1, 2, 171, 1]), (.iload_n 1, 1, []), (.iaload, 1, []), (.ireturn, 1, [0])]),
  (90, [(.aload_n 0, 1, []), (.getfield 16, 3, [11, 1, 2, 655, 0]), (.getfield 143, 3, [8, 0, 2, 167, 1]), (.iload_n 1, 1, []), (.iaload, 1, []), (.ireturn, 1, [0])]),
  (100, [(.aload_n 0, 1, []), (.getfield 16, 3, [11, 1, 2, 655, 0]), (.getfield 146, 3, [8, 2, 2, 174, 1]), (.iload_n 1, 1, []), (.iaload, 1, []), (.ireturn, 1, [0])]),
  (110, [(.aload_n 0, 1, []), (.getfield 16, 3, [11, 1, 2, 655, 0]), (.getfield 149, 3, [8, 3, 2, 178, 1]), (.iload_n 1, 1, []), (.iaload, 1, []), (.ireturn, 1, [0])]),
  (120, [(.new 152, 3, []), (.dup, 1, []), (.invokespecial 154, 3, [])]),
  (127, [(.athrow, 1, [])])]
set_option maxRecDepth 100000 in
theorem ok_107 : chkM 107 seg_107 = true := by decide +kernel
def seg_108 : SegL := []
theorem ok_108 : chkM 108 seg_108 = true := by decide +kernel
-- MD_isPerson
def seg_109 : SegL := [
  (0, [(.iload_n 1, 1, []), (.ifCond .lt 15, 3, [16])]),
  (4, [(.iload_n 1, 1, []), (.aload_n 0, 1, []), (.getfield 231, 3, [12, 13, 0, 1419, 0]), (.if_icmp .ge 7, 3, [16])]),
  (12, [(.iconst 1, 1, []), (.goto 4, 3, [17])]),
  (16, [(.iconst 0, 1, [])]),
  (17, [(.ireturn, 1, [3])])]
set_option maxRecDepth 100000 in
theorem ok_109 : chkM 109 seg_109 = true := by decide +kernel
-- MD_fails
def seg_110 : SegL := [
  (0, [(.aload_n 0, 1, []), (.iload_n 1, 1, []), (.putfield 148, 3, [12, 2, 0, 1408, 0, 0]), (.iconst 0, 1, []), (.ireturn, 1, [0])])]
set_option maxRecDepth 100000 in
theorem ok_110 : chkM 110 seg_110 = true := by decide +kernel
-- MD_person
def seg_111 : SegL := [
  (0, [(.aload_n 0, 1, []), (.iconst 0, 1, []), (.putfield 148, 3, [12, 2, 0, 1408, 0, 0]), (.aload_n 0, 1, []), (.iload_n 1, 1, []), (.invokevirtual 443, 3, [109, 2, 1803, 0, 2, 0, 0, 0, 0, 12])]),
  (10, [(.ifCond .ne 9, 3, [19])]),
  (13, [(.aload_n 0, 1, []), (.iconst 1, 1, []), (.invokevirtual 446, 3, [110, 2, 1807, 0, 2, 0, 0, 0, 0, 12])]),
  (18, [(.ireturn, 1, [0])]),
  (19, [(.iload_n 2, 1, []), (.tableswitch 82 0 5 #[40, 47, 54, 61, 68, 75], 40, [102, 60, 67, 74, 81, 88, 95])]),
  (60, [(.aload_n 0, 1, []), (.getfield 33, 3, [12, 26, 2, 1432, 0]), (.iload_n 1, 1, []), (.iaload, 1, []), (.ireturn, 1, [0])]),
  (67, [(.aload_n 0, 1, []), (.getfield 36, 3, [12, 27, 2, 1433, 0]), (.iload_n 1, 1, []), (.iaload, 1, []), (.ireturn, 1, [0])]),
  (74, [(.aload_n 0, 1, []), (.getfield 106, 3, [12, 57, 2, 1463, 0]), (.iload_n 1, 1, []), (.iaload, 1, []), (.ireturn, 1, [0])]),
  (81, [(.aload_n 0, 1, []), (.getfield 100, 3, [12, 55, 2, 1461, 0]), (.iload_n 1, 1, []), (.iaload, 1, []), (.ireturn, 1, [0])]),
  (88, [(.aload_n 0, 1, []), (.getfield 103, 3, [12, 56, 2, 1462, 0]), (.iload_n 1, 1, []), (.iaload, 1, []), (.ireturn, 1, [0])]),
  (95, [(.aload_n 0, 1, []), (.getfield 109, 3, [12, 58, 2, 1464, 0]), (.iload_n 1, 1, []), (.iaload, 1, []), (.ireturn, 1, [0])]),
  (102, [(.aload_n 0, 1, []), (.iconst 2, 1, []), (.invokevirtual 446, 3, [110, 2, 1807, 0, 2, 0, 0, 0, 0, 12])]),
  (107, [(.ireturn, 1, [0])])]
set_option maxRecDepth 100000 in
theorem ok_111 : chkM 111 seg_111 = true := by decide +kernel
-- MD_thrown
def seg_112 : SegL := [
  (0, [(.aload_n 0, 1, []), (.getfield 148, 3, [12, 2, 0, 1408, 0]), (.ireturn, 1, [0])])]
set_option maxRecDepth 100000 in
theorem ok_112 : chkM 112 seg_112 = true := by decide +kernel
-- AC_question
def seg_113 : SegL := [
  (0, [(.aload_n 0, 1, []), (.getfield 50, 3, [11, 7, 2, 661, 0]), (.getfield 124, 3, [0, 2, 2, 372, 1]), (.iload_n 1, 1, []), (.invokevirtual 127, 3, [106, 2, 909, 0, 2, 0, 0, 0, 0, 4])]),
  (11, [(.ifCond .ne 6, 3, [17])]),
  (14, [(.bipush (-2), 2, []), (.ireturn, 1, [0])]),
  (17, [(.iload_n 2, 1, []), (.tableswitch 70 0 3 #[30, 40, 50, 60], 30, [88, 48, 58, 68, 78])]),
  (48, [(.aload_n 0, 1, []), (.getfield 50, 3, [11, 7, 2, 661, 0]), (.getfield 155, 3, [0, 7, 2, 391, 1]), (.iload_n 1, 1, []), (.iaload, 1, []), (.ireturn, 1, [0])]),
  (58, [(.aload_n 0, 1, []), (.getfield 50, 3, [11, 7, 2, 661, 0]), (.getfield 158, 3, [0, 8, 2, 394, 1]), (.iload_n 1, 1, []), (.iaload, 1, []), (.ireturn, 1, [0])]),
  (68, [(.aload_n 0, 1, []), (.getfield 50, 3, [11, 7, 2, 661, 0]), (.getfield 161, 3, [0, 9, 2, 397, 1]), (.iload_n 1, 1, []), (.iaload, 1, []), (.ireturn, 1, [0])]),
  (78, [(.aload_n 0, 1, []), (.getfield 50, 3, [11, 7, 2, 661, 0]), (.getfield 164, 3, [0, 10, 2, 402, 1]), (.iload_n 1, 1, []), (.iaload, 1, []), (.ireturn, 1, [0])]),
  (88, [(.bipush (-2), 2, []), (.ireturn, 1, [0])])]
set_option maxRecDepth 100000 in
theorem ok_113 : chkM 113 seg_113 = true := by decide +kernel
-- MD_isQuestion
def seg_114 : SegL := [
  (0, [(.iload_n 1, 1, []), (.ifCond .lt 15, 3, [16])]),
  (4, [(.iload_n 1, 1, []), (.aload_n 0, 1, []), (.getfield 234, 3, [12, 14, 0, 1420, 0]), (.if_icmp .ge 7, 3, [16])]),
  (12, [(.iconst 1, 1, []), (.goto 4, 3, [17])]),
  (16, [(.iconst 0, 1, [])]),
  (17, [(.ireturn, 1, [3])])]
set_option maxRecDepth 100000 in
theorem ok_114 : chkM 114 seg_114 = true := by decide +kernel
-- MD_question
def seg_115 : SegL := [
  (0, [(.aload_n 0, 1, []), (.iconst 0, 1, []), (.putfield 148, 3, [12, 2, 0, 1408, 0, 0]), (.aload_n 0, 1, []), (.iload_n 1, 1, []), (.invokevirtual 449, 3, [114, 2, 1815, 0, 2, 0, 0, 0, 0, 12])]),
  (10, [(.ifCond .ne 6, 3, [16])]),
  (13, [(.bipush (-2), 2, []), (.ireturn, 1, [0])]),
  (16, [(.iload_n 2, 1, []), (.ifCond .ne 12, 3, [29])]),
  (20, [(.aload_n 0, 1, []), (.getfield 48, 3, [12, 31, 2, 1437, 0]), (.iload_n 1, 1, []), (.iaload, 1, []), (.goto 47, 3, [73])]),
  (29, [(.iload_n 2, 1, []), (.iconst 1, 1, []), (.if_icmp .ne 12, 3, [43])]),
  (34, [(.aload_n 0, 1, []), (.getfield 51, 3, [12, 32, 2, 1438, 0]), (.iload_n 1, 1, []), (.iaload, 1, []), (.goto 33, 3, [73])]),
  (43, [(.iload_n 2, 1, []), (.iconst 2, 1, []), (.if_icmp .ne 12, 3, [57])]),
  (48, [(.aload_n 0, 1, []), (.getfield 54, 3, [12, 33, 2, 1439, 0]), (.iload_n 1, 1, []), (.iaload, 1, []), (.goto 19, 3, [73])]),
  (57, [(.iload_n 2, 1, []), (.iconst 3, 1, []), (.if_icmp .ne 12, 3, [71])]),
  (62, [(.aload_n 0, 1, []), (.getfield 57, 3, [12, 34, 2, 1440, 0]), (.iload_n 1, 1, []), (.iaload, 1, []), (.goto 5, 3, [73])]),
  (71, [(.bipush (-2), 2, [])]),
  (73, [(.ireturn, 1, [0])])]
set_option maxRecDepth 100000 in
theorem ok_115 : chkM 115 seg_115 = true := by decide +kernel
-- AC_areTwo
def seg_116 : SegL := [
  (0, [(.iload_n 1, 1, []), (.iload_n 2, 1, []), (.if_icmp .eq 35, 3, [37])]),
  (5, [(.aload_n 0, 1, []), (.getfield 50, 3, [11, 7, 2, 661, 0]), (.getfield 121, 3, [0, 1, 2, 369, 1]), (.iload_n 1, 1, []), (.invokevirtual 127, 3, [106, 2, 909, 0, 2, 0, 0, 0, 0, 4])]),
  (16, [(.ifCond .eq 21, 3, [37])]),
  (19, [(.aload_n 0, 1, []), (.getfield 50, 3, [11, 7, 2, 661, 0]), (.getfield 121, 3, [0, 1, 2, 369, 1]), (.iload_n 2, 1, []), (.invokevirtual 127, 3, [106, 2, 909, 0, 2, 0, 0, 0, 0, 4])]),
  (30, [(.ifCond .eq 7, 3, [37])]),
  (33, [(.iconst 1, 1, []), (.goto 4, 3, [38])]),
  (37, [(.iconst 0, 1, [])]),
  (38, [(.ireturn, 1, [3])])]
set_option maxRecDepth 100000 in
theorem ok_116 : chkM 116 seg_116 = true := by decide +kernel
-- Rules_begin
def seg_117 : SegL := [
  (0, [(.aload_n 0, 1, []), (.aload_n 1, 1, []), (.putfield 25, 3, [6, 2, 2, 624, 0, 0]), (.aload_n 0, 1, []), (.iconst 0, 1, []), (.putfield 29, 3, [6, 3, 3, 626, 0, 0]), (.aload_n 0, 1, []), (.iconst 0, 1, []), (.putfield 33, 3, [6, 4, 0, 628, 0, 0]), (.aload_n 0, 1, []), (.iconst (-1), 1, []), (.putfield 21, 3, [6, 5, 0, 630, 0, 0]), (.aload_n 0, 1, []), (.iconst 0, 1, []), (.putfield 36, 3, [6, 6, 3, 632, 0, 0]), (.aload_n 0, 1, []), (.iconst 0, 1, []), (.putfield 39, 3, [6, 7, 3, 634, 0, 0]), (.return_, 1, [])])]
set_option maxRecDepth 100000 in
theorem ok_117 : chkM 117 seg_117 = true := by decide +kernel
-- Court_bitOf
def seg_118 : SegL := [
  (0, [(.iload_n 0, 1, []), (.iconst (-1), 1, []), (.if_icmp .ne 7, 3, [9])]),
  (5, [(.iconst 0, 1, []), (.goto 6, 3, [12])]),
  (9, [(.iconst 1, 1, []), (.iload_n 0, 1, []), (.ishl, 1, [])]),
  (12, [(.ireturn, 1, [0])])]
set_option maxRecDepth 100000 in
theorem ok_118 : chkM 118 seg_118 = true := by decide +kernel
-- Court_supposed
def seg_119 : SegL := [
  (0, [(.aload_n 0, 1, []), (.getfield 42, 3, [0, 8, 2, 393, 0]), (.iload_n 1, 1, []), (.iaload, 1, []), (.invokestatic 87, 3, [118, 1, 937, 0, 1, 0, 0, 0, 0, 0])]),
  (9, [(.istore_n 2, 1, []), (.aload_n 0, 1, []), (.getfield 39, 3, [0, 7, 2, 389, 0]), (.iload_n 1, 1, []), (.iaload, 1, []), (.iconst 1, 1, []), (.if_icmp .ne 17, 3, [34])]),
  (20, [(.iload_n 2, 1, []), (.aload_n 0, 1, []), (.getfield 45, 3, [0, 9, 2, 396, 0]), (.iload_n 1, 1, []), (.iaload, 1, []), (.invokestatic 87, 3, [118, 1, 937, 0, 1, 0, 0, 0, 0, 0])]),
  (30, [(.ior, 1, []), (.goto 4, 3, [35])]),
  (34, [(.iload_n 2, 1, [])]),
  (35, [(.ireturn, 1, [0])])]
set_option maxRecDepth 100000 in
theorem ok_119 : chkM 119 seg_119 = true := by decide +kernel
-- Rules_allows
def seg_120 : SegL := [
  (0, [(.aload_n 1, 1, []), (.getfield 56, 3, [8, 1, 2, 170, 1]), (.iload_n 2, 1, []), (.iaload, 1, []), (.aload_n 1, 1, []), (.getfield 56, 3, [8, 1, 2, 170, 1]), (.iload_n 3, 1, []), (.iaload, 1, []), (.if_icmp .ne 59, 3, [71])]),
  (15, [(.iload 4, 2, []), (.aload_n 0, 1, []), (.getfield 21, 3, [6, 5, 0, 630, 0]), (.if_icmp .eq 50, 3, [71])]),
  (24, [(.aload_n 0, 1, []), (.getfield 33, 3, [6, 4, 0, 628, 0]), (.iload_n 2, 1, []), (.ishr, 1, []), (.iconst 1, 1, []), (.iand, 1, []), (.ifCond .ne 39, 3, [71])]),
  (35, [(.aload_n 0, 1, []), (.getfield 33, 3, [6, 4, 0, 628, 0]), (.iload_n 3, 1, []), (.ishr, 1, []), (.iconst 1, 1, []), (.iand, 1, []), (.ifCond .ne 28, 3, [71])]),
  (46, [(.aload_n 0, 1, []), (.getfield 25, 3, [6, 2, 2, 624, 0]), (.iload 4, 2, []), (.invokevirtual 59, 3, [119, 2, 933, 0, 3, 0, 0, 0, 0, 0])]),
  (55, [(.aload_n 1, 1, []), (.getfield 63, 3, [8, 0, 2, 166, 1]), (.iload_n 2, 1, []), (.iaload, 1, []), (.iconst (-1), 1, []), (.ixor, 1, []), (.iand, 1, []), (.ifCond .ne 7, 3, [71])]),
  (67, [(.iconst 1, 1, []), (.goto 4, 3, [72])]),
  (71, [(.iconst 0, 1, [])]),
  (72, [(.ireturn, 1, [3])])]
set_option maxRecDepth 100000 in
theorem ok_120 : chkM 120 seg_120 = true := by decide +kernel
-- Rules_allowsToday
def seg_121 : SegL := [
  (0, [(.aload_n 1, 1, []), (.getfield 42, 3, [8, 3, 2, 177, 1]), (.iload_n 2, 1, []), (.iaload, 1, []), (.aload_n 0, 1, []), (.getfield 25, 3, [6, 2, 2, 624, 0]), (.getfield 47, 3, [0, 17, 0, 427, 1]), (.if_icmp .ge 19, 3, [32])]),
  (16, [(.aload_n 0, 1, []), (.aload_n 1, 1, []), (.iload_n 2, 1, []), (.iload_n 3, 1, []), (.iload 4, 2, []), (.invokevirtual 52, 3, [120, 5, 929, 0, 5, 0, 0, 0, 0, 6])]),
  (25, [(.ifCond .eq 7, 3, [32])]),
  (28, [(.iconst 1, 1, []), (.goto 4, 3, [33])]),
  (32, [(.iconst 0, 1, [])]),
  (33, [(.ireturn, 1, [3])])]
set_option maxRecDepth 100000 in
theorem ok_121 : chkM 121 seg_121 = true := by decide +kernel
-- AC_can
def seg_122 : SegL := [
  (0, [(.aload_n 0, 1, []), (.iload_n 1, 1, []), (.iload_n 2, 1, []), (.invokevirtual 167, 3, [116, 3, 917, 0, 3, 0, 0, 0, 0, 11])]),
  (6, [(.ifCond .eq 17, 3, [23])]),
  (9, [(.aload_n 0, 1, []), (.getfield 50, 3, [11, 7, 2, 661, 0]), (.getfield 124, 3, [0, 2, 2, 372, 1]), (.iload_n 3, 1, []), (.invokevirtual 127, 3, [106, 2, 909, 0, 2, 0, 0, 0, 0, 4])]),
  (20, [(.ifCond .ne 5, 3, [25])]),
  (23, [(.iconst (-1), 1, []), (.ireturn, 1, [0])]),
  (25, [(.aload_n 0, 1, []), (.getfield 71, 3, [11, 10, 2, 664, 0]), (.aload_n 0, 1, []), (.getfield 50, 3, [11, 7, 2, 661, 0]), (.invokevirtual 171, 3, [117, 2, 921, 0, 2, 0, 0, 0, 0, 6])]),
  (36, [(.aload_n 0, 1, []), (.getfield 71, 3, [11, 10, 2, 664, 0]), (.aload_n 0, 1, []), (.getfield 16, 3, [11, 1, 2, 655, 0]), (.iload_n 1, 1, []), (.iload_n 2, 1, []), (.iload_n 3, 1, []), (.invokevirtual 172, 3, [121, 5, 925, 0, 5, 0, 0, 0, 0, 6])]),
  (50, [(.ifCond .eq 7, 3, [57])]),
  (53, [(.iconst 1, 1, []), (.goto 4, 3, [58])]),
  (57, [(.iconst 0, 1, [])]),
  (58, [(.ireturn, 1, [0])])]
set_option maxRecDepth 100000 in
theorem ok_122 : chkM 122 seg_122 = true := by decide +kernel
-- MD_supposed
def seg_123 : SegL := [
  (0, [(.aload_n 0, 1, []), (.getfield 51, 3, [12, 32, 2, 1438, 0]), (.iload_n 1, 1, []), (.iaload, 1, []), (.ifCond .ge 7, 3, [13])]),
  (9, [(.iconst 0, 1, []), (.goto 11, 3, [21])]),
  (13, [(.iconst 1, 1, []), (.aload_n 0, 1, []), (.getfield 51, 3, [12, 32, 2, 1438, 0]), (.iload_n 1, 1, []), (.iaload, 1, []), (.ishl, 1, [])]),
  (21, [(.istore_n 2, 1, []), (.aload_n 0, 1, []), (.getfield 48, 3, [12, 31, 2, 1437, 0]), (.iload_n 1, 1, []), (.iaload, 1, []), (.iconst 1, 1, []), (.if_icmp .ne 25, 3, [54])]),
  (32, [(.aload_n 0, 1, []), (.getfield 54, 3, [12, 33, 2, 1439, 0]), (.iload_n 1, 1, []), (.iaload, 1, []), (.ifCond .lt 16, 3, [54])]),
  (41, [(.iload_n 2, 1, []), (.iconst 1, 1, []), (.aload_n 0, 1, []), (.getfield 54, 3, [12, 33, 2, 1439, 0]), (.iload_n 1, 1, []), (.iaload, 1, []), (.ishl, 1, []), (.ior, 1, []), (.goto 4, 3, [55])]),
  (54, [(.iload_n 2, 1, [])]),
  (55, [(.ireturn, 1, [0])])]
set_option maxRecDepth 100000 in
theorem ok_123 : chkM 123 seg_123 = true := by decide +kernel
-- MD_canAsk
def seg_124 : SegL := [
  (0, [(.iload_n 2, 1, []), (.iload_n 3, 1, []), (.if_icmp .eq 57, 3, [59])]),
  (5, [(.aload_n 0, 1, []), (.getfield 106, 3, [12, 57, 2, 1463, 0]), (.iconst 5, 1, []), (.iload_n 1, 1, []), (.imul, 1, []), (.iload_n 2, 1, []), (.iadd, 1, []), (.iaload, 1, []), (.aload_n 0, 1, []), (.getfield 106, 3, [12, 57, 2, 1463, 0]), (.iconst 5, 1, []), (.iload_n 1, 1, []), (.imul, 1, []), (.iload_n 3, 1, []), (.iadd, 1, []), (.iaload, 1, []), (.if_icmp .ne 34, 3, [59])]),
  (28, [(.aload_n 0, 1, []), (.getfield 395, 3, [12, 66, 0, 1472, 0]), (.iload_n 2, 1, []), (.invokestatic 264, 3, [82, 2, 1725, 0, 2, 0, 0, 0, 0, 12])]),
  (36, [(.ifCond .ne 23, 3, [59])]),
  (39, [(.aload_n 0, 1, []), (.getfield 395, 3, [12, 66, 0, 1472, 0]), (.iload_n 3, 1, []), (.invokestatic 264, 3, [82, 2, 1725, 0, 2, 0, 0, 0, 0, 12])]),
  (47, [(.ifCond .ne 12, 3, [59])]),
  (50, [(.iload 4, 2, []), (.aload_n 0, 1, []), (.getfield 398, 3, [12, 67, 0, 1473, 0]), (.if_icmp .ne 5, 3, [61])]),
  (59, [(.iconst 0, 1, []), (.ireturn, 1, [3])]),
  (61, [(.aload_n 0, 1, []), (.iload 4, 2, []), (.invokevirtual 401, 3, [123, 2, 1827, 0, 3, 0, 0, 0, 0, 12])]),
  (67, [(.aload_n 0, 1, []), (.getfield 100, 3, [12, 55, 2, 1461, 0]), (.iconst 5, 1, []), (.iload_n 1, 1, []), (.imul, 1, []), (.iload_n 2, 1, []), (.iadd, 1, []), (.iaload, 1, []), (.iconst (-1), 1, []), (.ixor, 1, []), (.iand, 1, []), (.ifCond .ne 33, 3, [113])]),
  (83, [(.aload_n 0, 1, []), (.getfield 386, 3, [12, 63, 3, 1469, 0]), (.ifCond .ne 22, 3, [109])]),
  (90, [(.aload_n 0, 1, []), (.getfield 109, 3, [12, 58, 2, 1464, 0]), (.iconst 5, 1, []), (.iload_n 1, 1, []), (.imul, 1, []), (.iload_n 2, 1, []), (.iadd, 1, []), (.iaload, 1, []), (.aload_n 0, 1, []), (.getfield 24, 3, [12, 23, 2, 1429, 0]), (.iconst 0, 1, []), (.iaload, 1, []), (.if_icmp .ge 7, 3, [113])]),
  (109, [(.iconst 1, 1, []), (.goto 4, 3, [114])]),
  (113, [(.iconst 0, 1, [])]),
  (114, [(.ireturn, 1, [3])])]
set_option maxRecDepth 100000 in
theorem ok_124 : chkM 124 seg_124 = true := by decide +kernel
-- MD_can
def seg_125 : SegL := [
  (0, [(.aload_n 0, 1, []), (.iconst 0, 1, []), (.putfield 148, 3, [12, 2, 0, 1408, 0, 0]), (.aload_n 0, 1, []), (.iload_n 1, 1, []), (.invokevirtual 443, 3, [109, 2, 1803, 0, 2, 0, 0, 0, 0, 12])]),
  (10, [(.ifCond .eq 24, 3, [34])]),
  (13, [(.aload_n 0, 1, []), (.iload_n 2, 1, []), (.invokevirtual 443, 3, [109, 2, 1803, 0, 2, 0, 0, 0, 0, 12])]),
  (18, [(.ifCond .eq 16, 3, [34])]),
  (21, [(.iload_n 1, 1, []), (.iload_n 2, 1, []), (.if_icmp .eq 11, 3, [34])]),
  (26, [(.aload_n 0, 1, []), (.iload_n 3, 1, []), (.invokevirtual 449, 3, [114, 2, 1815, 0, 2, 0, 0, 0, 0, 12])]),
  (31, [(.ifCond .ne 5, 3, [36])]),
  (34, [(.iconst (-1), 1, []), (.ireturn, 1, [0])]),
  (36, [(.aload_n 0, 1, []), (.invokevirtual 371, 3, [15, 1, 1402, 0, 1, 0, 0, 0, 0, 12])]),
  (40, [(.aload_n 0, 1, []), (.iconst 0, 1, []), (.iload_n 1, 1, []), (.iload_n 2, 1, []), (.iload_n 3, 1, []), (.invokevirtual 452, 3, [124, 5, 1823, 0, 5, 0, 0, 0, 0, 12])]),
  (48, [(.ifCond .eq 7, 3, [55])]),
  (51, [(.iconst 1, 1, []), (.goto 4, 3, [56])]),
  (55, [(.iconst 0, 1, [])]),
  (56, [(.ireturn, 1, [0])])]
set_option maxRecDepth 100000 in
theorem ok_125 : chkM 125 seg_125 = true := by decide +kernel
-- Rules_witOf
def seg_126 : SegL := [
  (0, [(.aload_n 0, 1, []), (.getfield 39, 3, [6, 7, 3, 634, 0]), (.ifCond .eq 8, 3, [12])]),
  (7, [(.bipush 9, 2, []), (.goto 12, 3, [21])]),
  (12, [(.aload_n 0, 1, []), (.getfield 25, 3, [6, 2, 2, 624, 0]), (.getfield 130, 3, [0, 4, 2, 382, 1]), (.iload_n 1, 1, []), (.iaload, 1, [])]),
  (21, [(.ireturn, 1, [0])])]
set_option maxRecDepth 100000 in
theorem ok_126 : chkM 126 seg_126 = true := by decide +kernel
-- JI_bitCount
def seg_127 : SegL := [
  (0, [(.iload_n 0, 1, []), (.iload_n 0, 1, []), (.iconst 1, 1, []), (.iushr, 1, []), (.ldc_w 265, 3, [1431655765, 957]), (.iand, 1, []), (.isub, 1, []), (.istore_n 0, 1, []), (.iload_n 0, 1, []), (.ldc_w 266, 3, [858993459, 958]), (.iand, 1, []), (.iload_n 0, 1, []), (.iconst 2, 1, []), (.iushr, 1, []), (.ldc_w 266, 3, [858993459, 958]), (.iand, 1, []), (.iadd, 1, []), (.istore_n 0, 1, []), (.iload_n 0, 1, []), (.iload_n 0, 1, []), (.iconst 4, 1, []), (.iushr, 1, []), (.iadd, 1, []), (.ldc_w 267, 3, [252645135, 959]), (.iand, 1, []), (.istore_n 0, 1, []), (.iload_n 0, 1, []), (.iload_n 0, 1, []), (.bipush 8, 2, []), (.iushr, 1, []), (.iadd, 1, []), (.istore_n 0, 1, []), (.iload_n 0, 1, []), (.iload_n 0, 1, []), (.bipush 16, 2, []), (.iushr, 1, []), (.iadd, 1, []), (.istore_n 0, 1, []), (.iload_n 0, 1, []), (.bipush 63, 2, []), (.iand, 1, []), (.ireturn, 1, [0])])]
set_option maxRecDepth 100000 in
theorem ok_127 : chkM 127 seg_127 = true := by decide +kernel
-- Law_product
def seg_128 : SegL := [
  (0, [(.lload_n 2, 1, []), (.lconst 0, 1, []), (.lcmp, 1, []), (.ifCond .ne 5, 3, [8])]),
  (6, [(.lconst 0, 1, []), (.lreturn, 1, [])]),
  (8, [(.ldc2_w 42, 3, [1000000000000, 969]), (.lload_n 2, 1, []), (.lconst 0, 1, []), (.lcmp, 1, []), (.ifCond .ge 8, 3, [22])]),
  (17, [(.lload_n 2, 1, []), (.lneg, 1, []), (.goto 4, 3, [23])]),
  (22, [(.lload_n 2, 1, [])]),
  (23, [(.ldiv, 1, []), (.lstore 4, 2, []), (.lload_n 0, 1, []), (.lload 4, 2, []), (.lcmp, 1, []), (.ifCond .gt 11, 3, [41])]),
  (33, [(.lload_n 0, 1, []), (.lload 4, 2, []), (.lneg, 1, []), (.lcmp, 1, []), (.ifCond .ge 9, 3, [47])]),
  (41, [(.ldc2_w 32, 3, [9223372036854775808, 965]), (.goto 6, 3, [50])]),
  (47, [(.lload_n 0, 1, []), (.lload_n 2, 1, []), (.lmul, 1, [])]),
  (50, [(.lreturn, 1, [])])]
set_option maxRecDepth 100000 in
theorem ok_128 : chkM 128 seg_128 = true := by decide +kernel
-- Law_joined
def seg_129 : SegL := [
  (0, [(.iload_n 0, 1, []), (.tableswitch 215 15 35 #[99, 117, 215, 215, 215, 215, 215, 215, 215, 215, 215, 215, 215, 135, 147, 159, 171, 183, 195, 207, 211], 99, [216, 100, 118, 216, 216, 216, 216, 216, 216, 216, 216, 216, 216, 216, 136, 148, 160, 172, 184, 196, 208, 212])]),
  (100, [(.lload_n 1, 1, []), (.lconst 0, 1, []), (.lcmp, 1, []), (.ifCond .ne 9, 3, [112])]),
  (106, [(.lload_n 3, 1, []), (.lconst 0, 1, []), (.lcmp, 1, []), (.ifCond .eq 7, 3, [116])]),
  (112, [(.lconst 1, 1, []), (.goto 4, 3, [117])]),
  (116, [(.lconst 0, 1, [])]),
  (117, [(.lreturn, 1, [])]),
  (118, [(.lload_n 1, 1, []), (.lconst 0, 1, []), (.lcmp, 1, []), (.ifCond .eq 13, 3, [134])]),
  (124, [(.lload_n 3, 1, []), (.lconst 0, 1, []), (.lcmp, 1, []), (.ifCond .eq 7, 3, [134])]),
  (130, [(.lconst 1, 1, []), (.goto 4, 3, [135])]),
  (134, [(.lconst 0, 1, [])]),
  (135, [(.lreturn, 1, [])]),
  (136, [(.lload_n 1, 1, []), (.lload_n 3, 1, []), (.lcmp, 1, []), (.ifCond .ge 7, 3, [146])]),
  (142, [(.lconst 1, 1, []), (.goto 4, 3, [147])]),
  (146, [(.lconst 0, 1, [])]),
  (147, [(.lreturn, 1, [])]),
  (148, [(.lload_n 1, 1, []), (.lload_n 3, 1, []), (.lcmp, 1, []), (.ifCond .gt 7, 3, [158])]),
  (154, [(.lconst 1, 1, []), (.goto 4, 3, [159])]),
  (158, [(.lconst 0, 1, [])]),
  (159, [(.lreturn, 1, [])]),
  (160, [(.lload_n 1, 1, []), (.lload_n 3, 1, []), (.lcmp, 1, []), (.ifCond .ne 7, 3, [170])]),
  (166, [(.lconst 1, 1, []), (.goto 4, 3, [171])]),
  (170, [(.lconst 0, 1, [])]),
  (171, [(.lreturn, 1, [])]),
  (172, [(.lload_n 1, 1, []), (.lload_n 3, 1, []), (.lcmp, 1, []), (.ifCond .eq 7, 3, [182])]),
  (178, [(.lconst 1, 1, []), (.goto 4, 3, [183])]),
  (182, [(.lconst 0, 1, [])]),
  (183, [(.lreturn, 1, [])]),
  (184, [(.lload_n 1, 1, []), (.lload_n 3, 1, []), (.lcmp, 1, []), (.ifCond .lt 7, 3, [194])]),
  (190, [(.lconst 1, 1, []), (.goto 4, 3, [195])]),
  (194, [(.lconst 0, 1, [])]),
  (195, [(.lreturn, 1, [])]),
  (196, [(.lload_n 1, 1, []), (.lload_n 3, 1, []), (.lcmp, 1, []), (.ifCond .le 7, 3, [206])]),
  (202, [(.lconst 1, 1, []), (.goto 4, 3, [207])]),
  (206, [(.lconst 0, 1, [])]),
  (207, [(.lreturn, 1, [])]),
  (208, [(.lload_n 1, 1, []), (.lload_n 3, 1, []), (.ladd, 1, []), (.lreturn, 1, [])]),
  (212, [(.lload_n 1, 1, []), (.lload_n 3, 1, []), (.lsub, 1, []), (.lreturn, 1, [])]),
  (216, [(.lload_n 3, 1, []), (.lconst 0, 1, []), (.lcmp, 1, []), (.ifCond .ne 9, 3, [228])]),
  (222, [(.ldc2_w 32, 3, [9223372036854775808, 965]), (.goto 6, 3, [231])]),
  (228, [(.lload_n 1, 1, []), (.lload_n 3, 1, []), (.ldiv, 1, [])]),
  (231, [(.lreturn, 1, [])])]
set_option maxRecDepth 100000 in
theorem ok_129 : chkM 129 seg_129 = true := by decide +kernel
-- Law_value
def seg_130 : SegL := [
  (0, [(.iconst 0, 1, []), (.istore_n 3, 1, []), (.iconst 0, 1, []), (.istore 4, 2, [])]),
  (5, [(.iload 4, 2, []), (.aload_n 0, 1, []), (.getfield 18, 3, [2, 2, 0, 348, 0]), (.if_icmp .ge 198, 3, [209])]),
  (14, [(.aload_n 0, 1, []), (.getfield 9, 3, [2, 0, 2, 346, 0]), (.iload 4, 2, []), (.iaload, 1, []), (.istore 5, 2, []), (.iload 5, 2, []), (.bipush 26, 2, []), (.if_icmp .eq 11, 3, [38])]),
  (30, [(.iload 5, 2, []), (.invokestatic 28, 3, [52, 1, 964, 0, 1, 0, 0, 0, 0, 10])]),
  (35, [(.ifCond .eq 48, 3, [83])]),
  (38, [(.iload_n 3, 1, []), (.aload_n 2, 1, []), (.arraylength, 1, []), (.if_icmp .lt 7, 3, [48])]),
  (44, [(.ldc2_w 32, 3, [9223372036854775808, 965]), (.lreturn, 1, [])]),
  (48, [(.aload_n 2, 1, []), (.iload_n 3, 1, []), (.iload 5, 2, []), (.bipush 26, 2, []), (.if_icmp .ne 14, 3, [68])]),
  (57, [(.aload_n 0, 1, []), (.getfield 15, 3, [2, 1, 2, 347, 0]), (.iload 4, 2, []), (.iaload, 1, []), (.i2l, 1, []), (.goto 11, 3, [76])]),
  (68, [(.aload_n 1, 1, []), (.iload 5, 2, []), (.bipush 18, 2, []), (.isub, 1, []), (.iaload, 1, []), (.i2l, 1, [])]),
  (76, [(.lastore, 1, []), (.iinc 3 1, 3, []), (.goto 123, 3, [203])]),
  (83, [(.iload 5, 2, []), (.bipush 17, 2, []), (.if_icmp .ne 35, 3, [122])]),
  (90, [(.iload_n 3, 1, []), (.iconst 1, 1, []), (.if_icmp .ge 7, 3, [99])]),
  (95, [(.ldc2_w 32, 3, [9223372036854775808, 965]), (.lreturn, 1, [])]),
  (99, [(.aload_n 2, 1, []), (.iload_n 3, 1, []), (.iconst 1, 1, []), (.isub, 1, []), (.aload_n 2, 1, []), (.iload_n 3, 1, []), (.iconst 1, 1, []), (.isub, 1, []), (.laload, 1, []), (.lconst 0, 1, []), (.lcmp, 1, []), (.ifCond .ne 7, 3, [117])]),
  (113, [(.lconst 1, 1, []), (.goto 4, 3, [118])]),
  (117, [(.lconst 0, 1, [])]),
  (118, [(.lastore, 1, []), (.goto 84, 3, [203])]),
  (122, [(.iload_n 3, 1, []), (.iconst 2, 1, []), (.if_icmp .ge 7, 3, [131])]),
  (127, [(.ldc2_w 32, 3, [9223372036854775808, 965]), (.lreturn, 1, [])]),
  (131, [(.iinc 3 (-1), 3, []), (.aload_n 2, 1, []), (.iload_n 3, 1, []), (.iconst 1, 1, []), (.isub, 1, []), (.laload, 1, []), (.lstore 6, 2, []), (.aload_n 2, 1, []), (.iload_n 3, 1, []), (.laload, 1, []), (.lstore 8, 2, []), (.iload 5, 2, []), (.bipush 36, 2, []), (.if_icmp .ne 13, 3, [163])]),
  (153, [(.lload 6, 2, []), (.lload 8, 2, []), (.invokestatic 34, 3, [128, 2, 966, 0, 6, 0, 0, 0, 0, 2])]),
  (160, [(.goto 12, 3, [172])]),
  (163, [(.iload 5, 2, []), (.lload 6, 2, []), (.lload 8, 2, []), (.invokestatic 38, 3, [129, 3, 970, 0, 5, 0, 0, 0, 0, 2])]),
  (172, [(.lstore 10, 2, []), (.lload 10, 2, []), (.ldc2_w 42, 3, [1000000000000, 969]), (.lcmp, 1, []), (.ifCond .gt 12, 3, [192])]),
  (183, [(.lload 10, 2, []), (.ldc2_w 44, 3, [18446743073709551616, 973]), (.lcmp, 1, []), (.ifCond .ge 7, 3, [196])]),
  (192, [(.ldc2_w 32, 3, [9223372036854775808, 965]), (.lreturn, 1, [])]),
  (196, [(.aload_n 2, 1, []), (.iload_n 3, 1, []), (.iconst 1, 1, []), (.isub, 1, []), (.lload 10, 2, []), (.lastore, 1, [])]),
  (203, [(.iinc 4 1, 3, []), (.goto (-201), 3, [5])]),
  (209, [(.iload_n 3, 1, []), (.iconst 1, 1, []), (.if_icmp .ne 9, 3, [220])]),
  (214, [(.aload_n 2, 1, []), (.iconst 0, 1, []), (.laload, 1, []), (.goto 6, 3, [223])]),
  (220, [(.ldc2_w 32, 3, [9223372036854775808, 965])]),
  (223, [(.lreturn, 1, [])])]
set_option maxRecDepth 100000 in
theorem ok_130 : chkM 130 seg_130 = true := by decide +kernel
-- Rules_worth
def seg_131 : SegL := [
  (0, [(.aload_n 1, 1, []), (.getfield 133, 3, [2, 3, 3, 350, 1]), (.ifCond .ne 7, 3, [11])]),
  (7, [(.ldc2_w 109, 3, [9223372036854775808, 949]), (.lreturn, 1, [])]),
  (11, [(.aload_n 0, 1, []), (.getfield 11, 3, [6, 0, 2, 622, 0]), (.iconst 0, 1, []), (.aload_n 0, 1, []), (.getfield 25, 3, [6, 2, 2, 624, 0]), (.getfield 119, 3, [0, 3, 2, 378, 1]), (.iload_n 3, 1, []), (.iaload, 1, []), (.iastore, 1, []), (.aload_n 0, 1, []), (.getfield 11, 3, [6, 0, 2, 622, 0]), (.iconst 1, 1, []), (.aload_n 0, 1, []), (.iload_n 3, 1, []), (.invokevirtual 111, 3, [126, 2, 950, 0, 2, 0, 0, 0, 0, 6])]),
  (36, [(.iastore, 1, []), (.aload_n 0, 1, []), (.getfield 11, 3, [6, 0, 2, 622, 0]), (.iconst 2, 1, []), (.aload_n 2, 1, []), (.getfield 98, 3, [8, 2, 2, 173, 1]), (.iload_n 3, 1, []), (.iaload, 1, []), (.iastore, 1, []), (.aload_n 0, 1, []), (.getfield 11, 3, [6, 0, 2, 622, 0]), (.iconst 3, 1, []), (.aload_n 2, 1, []), (.getfield 63, 3, [8, 0, 2, 166, 1]), (.iload_n 3, 1, []), (.iaload, 1, []), (.invokestatic 138, 3, [127, 1, 954, 0, 1, 0, 0, 0, 0, 99])]),
  (63, [(.iastore, 1, []), (.aload_n 0, 1, []), (.getfield 11, 3, [6, 0, 2, 622, 0]), (.iconst 4, 1, []), (.aload_n 2, 1, []), (.getfield 56, 3, [8, 1, 2, 170, 1]), (.iload_n 3, 1, []), (.iaload, 1, []), (.iastore, 1, []), (.aload_n 0, 1, []), (.getfield 11, 3, [6, 0, 2, 622, 0]), (.iconst 5, 1, []), (.aload_n 0, 1, []), (.getfield 25, 3, [6, 2, 2, 624, 0]), (.getfield 88, 3, [0, 7, 2, 390, 1]), (.iload 4, 2, []), (.iaload, 1, []), (.iastore, 1, []), (.aload_n 0, 1, []), (.getfield 11, 3, [6, 0, 2, 622, 0]), (.bipush 6, 2, []), (.aload_n 2, 1, []), (.getfield 143, 3, [8, 4, 0, 180, 1]), (.iastore, 1, []), (.aload_n 1, 1, []), (.aload_n 0, 1, []), (.getfield 11, 3, [6, 0, 2, 622, 0]), (.aload_n 0, 1, []), (.getfield 17, 3, [6, 1, 2, 623, 0]), (.invokevirtual 146, 3, [130, 3, 960, 0, 12, 0, 0, 0, 0, 2])]),
  (115, [(.lreturn, 1, [])])]
set_option maxRecDepth 100000 in
theorem ok_131 : chkM 131 seg_131 = true := by decide +kernel
-- AC_law
def seg_132 : SegL := [
  (0, [(.iload_n 1, 1, []), (.ifCond .lt 36, 3, [37])]),
  (4, [(.iload_n 1, 1, []), (.iconst 1, 1, []), (.if_icmp .gt 31, 3, [37])]),
  (9, [(.aload_n 0, 1, []), (.getfield 50, 3, [11, 7, 2, 661, 0]), (.getfield 121, 3, [0, 1, 2, 369, 1]), (.iload_n 2, 1, []), (.invokevirtual 127, 3, [106, 2, 909, 0, 2, 0, 0, 0, 0, 4])]),
  (20, [(.ifCond .eq 17, 3, [37])]),
  (23, [(.aload_n 0, 1, []), (.getfield 50, 3, [11, 7, 2, 661, 0]), (.getfield 124, 3, [0, 2, 2, 372, 1]), (.iload_n 3, 1, []), (.invokevirtual 127, 3, [106, 2, 909, 0, 2, 0, 0, 0, 0, 4])]),
  (34, [(.ifCond .ne 7, 3, [41])]),
  (37, [(.ldc2_w 176, 3, [9223372036854775808, 944]), (.lreturn, 1, [])]),
  (41, [(.aload_n 0, 1, []), (.getfield 71, 3, [11, 10, 2, 664, 0]), (.aload_n 0, 1, []), (.getfield 50, 3, [11, 7, 2, 661, 0]), (.invokevirtual 171, 3, [117, 2, 921, 0, 2, 0, 0, 0, 0, 6])]),
  (52, [(.aload_n 0, 1, []), (.getfield 71, 3, [11, 10, 2, 664, 0]), (.iload_n 1, 1, []), (.ifCond .ne 13, 3, [70])]),
  (60, [(.aload_n 0, 1, []), (.getfield 50, 3, [11, 7, 2, 661, 0]), (.getfield 178, 3, [0, 14, 2, 416, 1]), (.goto 10, 3, [77])]),
  (70, [(.aload_n 0, 1, []), (.getfield 50, 3, [11, 7, 2, 661, 0]), (.getfield 182, 3, [0, 15, 2, 420, 1])]),
  (77, [(.aload_n 0, 1, []), (.getfield 16, 3, [11, 1, 2, 655, 0]), (.iload_n 2, 1, []), (.iload_n 3, 1, []), (.invokevirtual 185, 3, [131, 5, 945, 0, 5, 0, 0, 0, 0, 6])]),
  (86, [(.lreturn, 1, [])])]
set_option maxRecDepth 100000 in
theorem ok_132 : chkM 132 seg_132 = true := by decide +kernel
-- MD_witOf
def seg_133 : SegL := [
  (0, [(.aload_n 0, 1, []), (.getfield 392, 3, [12, 65, 3, 1471, 0]), (.ifCond .eq 8, 3, [12])]),
  (7, [(.bipush 9, 2, []), (.goto 9, 3, [18])]),
  (12, [(.aload_n 0, 1, []), (.getfield 36, 3, [12, 27, 2, 1433, 0]), (.iload_n 1, 1, []), (.iaload, 1, [])]),
  (18, [(.ireturn, 1, [0])])]
set_option maxRecDepth 100000 in
theorem ok_133 : chkM 133 seg_133 = true := by decide +kernel
-- MD_manyOf
def seg_134 : SegL := [
  (0, [(.iconst 0, 1, []), (.istore_n 1, 1, []), (.iconst 0, 1, []), (.istore_n 2, 1, [])]),
  (4, [(.iload_n 2, 1, []), (.bipush 8, 2, []), (.if_icmp .ge 17, 3, [24])]),
  (10, [(.iload_n 1, 1, []), (.iload_n 0, 1, []), (.iload_n 2, 1, []), (.ishr, 1, []), (.iconst 1, 1, []), (.iand, 1, []), (.iadd, 1, []), (.istore_n 1, 1, []), (.iinc 2 1, 3, []), (.goto (-17), 3, [4])]),
  (24, [(.iload_n 1, 1, []), (.ireturn, 1, [0])])]
set_option maxRecDepth 100000 in
theorem ok_134 : chkM 134 seg_134 = true := by decide +kernel
-- MD_layNames
def seg_135 : SegL := [
  (0, [(.aload_n 0, 1, []), (.getfield 93, 3, [12, 52, 2, 1458, 0]), (.iconst 0, 1, []), (.aload_n 0, 1, []), (.getfield 33, 3, [12, 26, 2, 1432, 0]), (.iload_n 2, 1, []), (.iaload, 1, []), (.i2l, 1, []), (.lastore, 1, []), (.aload_n 0, 1, []), (.getfield 93, 3, [12, 52, 2, 1458, 0]), (.iconst 1, 1, []), (.aload_n 0, 1, []), (.iload_n 2, 1, []), (.invokevirtual 404, 3, [133, 2, 1840, 0, 2, 0, 0, 0, 0, 12])]),
  (23, [(.i2l, 1, []), (.lastore, 1, []), (.aload_n 0, 1, []), (.getfield 93, 3, [12, 52, 2, 1458, 0]), (.iconst 2, 1, []), (.aload_n 0, 1, []), (.getfield 103, 3, [12, 56, 2, 1462, 0]), (.iconst 5, 1, []), (.iload_n 1, 1, []), (.imul, 1, []), (.iload_n 2, 1, []), (.iadd, 1, []), (.iaload, 1, []), (.i2l, 1, []), (.lastore, 1, []), (.aload_n 0, 1, []), (.getfield 93, 3, [12, 52, 2, 1458, 0]), (.iconst 3, 1, []), (.aload_n 0, 1, []), (.getfield 100, 3, [12, 55, 2, 1461, 0]), (.iconst 5, 1, []), (.iload_n 1, 1, []), (.imul, 1, []), (.iload_n 2, 1, []), (.iadd, 1, []), (.iaload, 1, []), (.invokestatic 407, 3, [134, 1, 1844, 0, 3, 0, 0, 0, 0, 12])]),
  (60, [(.i2l, 1, []), (.lastore, 1, []), (.aload_n 0, 1, []), (.getfield 93, 3, [12, 52, 2, 1458, 0]), (.iconst 4, 1, []), (.aload_n 0, 1, []), (.getfield 106, 3, [12, 57, 2, 1463, 0]), (.iconst 5, 1, []), (.iload_n 1, 1, []), (.imul, 1, []), (.iload_n 2, 1, []), (.iadd, 1, []), (.iaload, 1, []), (.i2l, 1, []), (.lastore, 1, []), (.aload_n 0, 1, []), (.getfield 93, 3, [12, 52, 2, 1458, 0]), (.iconst 5, 1, []), (.aload_n 0, 1, []), (.getfield 48, 3, [12, 31, 2, 1437, 0]), (.iload_n 3, 1, []), (.iaload, 1, []), (.i2l, 1, []), (.lastore, 1, []), (.aload_n 0, 1, []), (.getfield 93, 3, [12, 52, 2, 1458, 0]), (.bipush 6, 2, []), (.aload_n 0, 1, []), (.getfield 112, 3, [12, 59, 2, 1465, 0]), (.iload_n 1, 1, []), (.iaload, 1, []), (.i2l, 1, []), (.lastore, 1, []), (.return_, 1, [])])]
set_option maxRecDepth 100000 in
theorem ok_135 : chkM 135 seg_135 = true := by decide +kernel
-- MD_bounded
def seg_136 : SegL := [
  (0, [(.aload_n 0, 1, []), (.aload_n 0, 1, []), (.getfield 342, 3, [12, 54, 3, 1460, 0]), (.ifCond .ne 19, 3, [24])]),
  (8, [(.lload_n 1, 1, []), (.ldc2_w 345, 3, [1000000000000, 1859]), (.lcmp, 1, []), (.ifCond .gt 11, 3, [24])]),
  (16, [(.lload_n 1, 1, []), (.ldc2_w 347, 3, [18446743073709551616, 1860]), (.lcmp, 1, []), (.ifCond .ge 7, 3, [28])]),
  (24, [(.iconst 1, 1, []), (.goto 4, 3, [29])]),
  (28, [(.iconst 0, 1, [])]),
  (29, [(.putfield 342, 3, [12, 54, 3, 1460, 0, 0]), (.aload_n 0, 1, []), (.getfield 342, 3, [12, 54, 3, 1460, 0]), (.ifCond .eq 7, 3, [43])]),
  (39, [(.lconst 0, 1, []), (.goto 4, 3, [44])]),
  (43, [(.lload_n 1, 1, [])]),
  (44, [(.lreturn, 1, [])])]
set_option maxRecDepth 100000 in
theorem ok_136 : chkM 136 seg_136 = true := by decide +kernel
-- MD_times
def seg_137 : SegL := [
  (0, [(.lload_n 1, 1, []), (.lconst 0, 1, []), (.lcmp, 1, []), (.ifCond .eq 45, 3, [48])]),
  (6, [(.lload_n 3, 1, []), (.lconst 0, 1, []), (.lcmp, 1, []), (.ifCond .eq 39, 3, [48])]),
  (12, [(.lload_n 3, 1, []), (.lconst 0, 1, []), (.lcmp, 1, []), (.ifCond .ge 8, 3, [23])]),
  (18, [(.lload_n 3, 1, []), (.lneg, 1, []), (.goto 4, 3, [24])]),
  (23, [(.lload_n 3, 1, [])]),
  (24, [(.ldc2_w 345, 3, [1000000000000, 1859]), (.lload_n 1, 1, []), (.lconst 0, 1, []), (.lcmp, 1, []), (.ifCond .ge 8, 3, [38])]),
  (33, [(.lload_n 1, 1, []), (.lneg, 1, []), (.goto 4, 3, [39])]),
  (38, [(.lload_n 1, 1, [])]),
  (39, [(.ldiv, 1, []), (.lcmp, 1, []), (.ifCond .le 7, 3, [48])]),
  (44, [(.iconst 1, 1, []), (.goto 4, 3, [49])]),
  (48, [(.iconst 0, 1, [])]),
  (49, [(.istore 5, 2, []), (.aload_n 0, 1, []), (.aload_n 0, 1, []), (.getfield 342, 3, [12, 54, 3, 1460, 0]), (.ifCond .ne 8, 3, [64])]),
  (59, [(.iload 5, 2, []), (.ifCond .eq 7, 3, [68])]),
  (64, [(.iconst 1, 1, []), (.goto 4, 3, [69])]),
  (68, [(.iconst 0, 1, [])]),
  (69, [(.putfield 342, 3, [12, 54, 3, 1460, 0, 0]), (.aload_n 0, 1, []), (.getfield 342, 3, [12, 54, 3, 1460, 0]), (.ifCond .eq 7, 3, [83])]),
  (79, [(.lconst 0, 1, []), (.goto 6, 3, [86])]),
  (83, [(.lload_n 1, 1, []), (.lload_n 3, 1, []), (.lmul, 1, [])]),
  (86, [(.lreturn, 1, [])])]
set_option maxRecDepth 100000 in
theorem ok_137 : chkM 137 seg_137 = true := by decide +kernel
-- MD_compares
def seg_138 : SegL := [
  (0, [(.iload_n 0, 1, []), (.tableswitch 95 5 9 #[35, 47, 59, 71, 83], 35, [96, 36, 48, 60, 72, 84])]),
  (36, [(.lload_n 1, 1, []), (.lload_n 3, 1, []), (.lcmp, 1, []), (.ifCond .ge 7, 3, [46])]),
  (42, [(.iconst 1, 1, []), (.goto 4, 3, [47])]),
  (46, [(.iconst 0, 1, [])]),
  (47, [(.ireturn, 1, [3])]),
  (48, [(.lload_n 1, 1, []), (.lload_n 3, 1, []), (.lcmp, 1, []), (.ifCond .gt 7, 3, [58])]),
  (54, [(.iconst 1, 1, []), (.goto 4, 3, [59])]),
  (58, [(.iconst 0, 1, [])]),
  (59, [(.ireturn, 1, [3])]),
  (60, [(.lload_n 1, 1, []), (.lload_n 3, 1, []), (.lcmp, 1, []), (.ifCond .ne 7, 3, [70])]),
  (66, [(.iconst 1, 1, []), (.goto 4, 3, [71])]),
  (70, [(.iconst 0, 1, [])]),
  (71, [(.ireturn, 1, [3])]),
  (72, [(.lload_n 1, 1, []), (.lload_n 3, 1, []), (.lcmp, 1, []), (.ifCond .eq 7, 3, [82])]),
  (78, [(.iconst 1, 1, []), (.goto 4, 3, [83])]),
  (82, [(.iconst 0, 1, [])]),
  (83, [(.ireturn, 1, [3])]),
  (84, [(.lload_n 1, 1, []), (.lload_n 3, 1, []), (.lcmp, 1, []), (.ifCond .lt 7, 3, [94])]),
  (90, [(.iconst 1, 1, []), (.goto 4, 3, [95])]),
  (94, [(.iconst 0, 1, [])]),
  (95, [(.ireturn, 1, [3])]),
  (96, [(.lload_n 1, 1, []), (.lload_n 3, 1, []), (.lcmp, 1, []), (.ifCond .le 7, 3, [106])]),
  (102, [(.iconst 1, 1, []), (.goto 4, 3, [107])]),
  (106, [(.iconst 0, 1, [])]),
  (107, [(.ireturn, 1, [3])])]
set_option maxRecDepth 100000 in
theorem ok_138 : chkM 138 seg_138 = true := by decide +kernel
-- MD_valueOf
def seg_139_0 : SegL := [
  (0, [(.aload_n 0, 1, []), (.getfield 78, 3, [12, 41, 2, 1447, 0]), (.iload_n 1, 1, []), (.iaload, 1, []), (.ifCond .ne 11, 3, [17])]),
  (9, [(.aload_n 0, 1, []), (.getfield 81, 3, [12, 42, 2, 1448, 0]), (.iload_n 1, 1, []), (.iaload, 1, []), (.i2l, 1, []), (.lreturn, 1, [])]),
  (17, [(.aload_n 0, 1, []), (.getfield 78, 3, [12, 41, 2, 1447, 0]), (.iload_n 1, 1, []), (.iaload, 1, []), (.iconst 1, 1, []), (.if_icmp .ne 15, 3, [39])]),
  (27, [(.aload_n 0, 1, []), (.getfield 93, 3, [12, 52, 2, 1458, 0]), (.aload_n 0, 1, []), (.getfield 81, 3, [12, 42, 2, 1448, 0]), (.iload_n 1, 1, []), (.iaload, 1, []), (.laload, 1, []), (.lreturn, 1, [])]),
  (39, [(.aload_n 0, 1, []), (.getfield 97, 3, [12, 53, 2, 1459, 0]), (.aload_n 0, 1, []), (.getfield 81, 3, [12, 42, 2, 1448, 0]), (.iload_n 1, 1, []), (.iaload, 1, []), (.laload, 1, []), (.lstore_n 2, 1, []), (.aload_n 0, 1, []), (.getfield 78, 3, [12, 41, 2, 1447, 0]), (.iload_n 1, 1, []), (.iaload, 1, []), (.iconst 2, 1, []), (.if_icmp .ne 15, 3, [73])]),
  (61, [(.lload_n 2, 1, []), (.lconst 0, 1, []), (.lcmp, 1, []), (.ifCond .ne 7, 3, [71])]),
  (67, [(.lconst 1, 1, []), (.goto 4, 3, [72])]),
  (71, [(.lconst 0, 1, [])]),
  (72, [(.lreturn, 1, [])])]
set_option maxRecDepth 100000 in
theorem seg_139_0_ok : chkM 139 seg_139_0 = true := by decide +kernel
def seg_139_1 : SegL := [
  (73, [(.aload_n 0, 1, []), (.getfield 97, 3, [12, 53, 2, 1459, 0]), (.aload_n 0, 1, []), (.getfield 84, 3, [12, 43, 2, 1449, 0]), (.iload_n 1, 1, []), (.iaload, 1, []), (.laload, 1, []), (.lstore 4, 2, []), (.aload_n 0, 1, []), (.getfield 78, 3, [12, 41, 2, 1447, 0]), (.iload_n 1, 1, []), (.iaload, 1, []), (.tableswitch 167 3 14 #[64, 83, 167, 167, 167, 167, 167, 167, 102, 111, 120, 128], 64, [259, 156, 175, 259, 259, 259, 259, 259, 259, 194, 203, 212, 220])]),
  (156, [(.lload_n 2, 1, []), (.lconst 0, 1, []), (.lcmp, 1, []), (.ifCond .eq 14, 3, [173])]),
  (162, [(.lload 4, 2, []), (.lconst 0, 1, []), (.lcmp, 1, []), (.ifCond .eq 7, 3, [173])]),
  (169, [(.lconst 1, 1, []), (.goto 4, 3, [174])]),
  (173, [(.lconst 0, 1, [])]),
  (174, [(.lreturn, 1, [])]),
  (175, [(.lload_n 2, 1, []), (.lconst 0, 1, []), (.lcmp, 1, []), (.ifCond .ne 10, 3, [188])]),
  (181, [(.lload 4, 2, []), (.lconst 0, 1, []), (.lcmp, 1, []), (.ifCond .eq 7, 3, [192])]),
  (188, [(.lconst 1, 1, []), (.goto 4, 3, [193])]),
  (192, [(.lconst 0, 1, [])]),
  (193, [(.lreturn, 1, [])]),
  (194, [(.aload_n 0, 1, []), (.lload_n 2, 1, []), (.lload 4, 2, []), (.ladd, 1, []), (.invokevirtual 349, 3, [136, 2, 1855, 0, 3, 0, 0, 0, 0, 12])]),
  (202, [(.lreturn, 1, [])]),
  (203, [(.aload_n 0, 1, []), (.lload_n 2, 1, []), (.lload 4, 2, []), (.lsub, 1, []), (.invokevirtual 349, 3, [136, 2, 1855, 0, 3, 0, 0, 0, 0, 12])]),
  (211, [(.lreturn, 1, [])])]
set_option maxRecDepth 100000 in
theorem seg_139_1_ok : chkM 139 seg_139_1 = true := by decide +kernel
def seg_139_2 : SegL := [
  (212, [(.aload_n 0, 1, []), (.lload_n 2, 1, []), (.lload 4, 2, []), (.invokevirtual 353, 3, [137, 3, 1861, 0, 6, 0, 0, 0, 0, 12])]),
  (219, [(.lreturn, 1, [])]),
  (220, [(.aload_n 0, 1, []), (.aload_n 0, 1, []), (.getfield 342, 3, [12, 54, 3, 1460, 0]), (.ifCond .ne 10, 3, [235])]),
  (228, [(.lload 4, 2, []), (.lconst 0, 1, []), (.lcmp, 1, []), (.ifCond .ne 7, 3, [239])]),
  (235, [(.iconst 1, 1, []), (.goto 4, 3, [240])]),
  (239, [(.iconst 0, 1, [])]),
  (240, [(.putfield 342, 3, [12, 54, 3, 1460, 0, 0]), (.aload_n 0, 1, []), (.getfield 342, 3, [12, 54, 3, 1460, 0]), (.ifCond .eq 7, 3, [254])]),
  (250, [(.lconst 0, 1, []), (.goto 7, 3, [258])]),
  (254, [(.lload_n 2, 1, []), (.lload 4, 2, []), (.ldiv, 1, [])]),
  (258, [(.lreturn, 1, [])]),
  (259, [(.aload_n 0, 1, []), (.getfield 78, 3, [12, 41, 2, 1447, 0]), (.iload_n 1, 1, []), (.iaload, 1, []), (.lload_n 2, 1, []), (.lload 4, 2, []), (.invokestatic 357, 3, [138, 3, 1865, 0, 5, 0, 0, 0, 0, 12])]),
  (271, [(.ifCond .eq 7, 3, [278])]),
  (274, [(.lconst 1, 1, []), (.goto 4, 3, [279])]),
  (278, [(.lconst 0, 1, [])]),
  (279, [(.lreturn, 1, [])])]
set_option maxRecDepth 100000 in
theorem seg_139_2_ok : chkM 139 seg_139_2 = true := by decide +kernel
def seg_139 : SegL := seg_139_0 ++ (seg_139_1 ++ (seg_139_2))
theorem ok_139 : chkM 139 seg_139 = true := (chkM_app _ _ _ seg_139_0_ok (chkM_app _ _ _ seg_139_1_ok seg_139_2_ok))
-- MD_lawOf
def seg_140 : SegL := [
  (0, [(.aload_n 0, 1, []), (.iconst 0, 1, []), (.putfield 342, 3, [12, 54, 3, 1460, 0, 0]), (.aload_n 0, 1, []), (.getfield 72, 3, [12, 39, 2, 1445, 0]), (.iload_n 1, 1, []), (.iaload, 1, []), (.istore_n 2, 1, [])]),
  (12, [(.iload_n 2, 1, []), (.aload_n 0, 1, []), (.getfield 75, 3, [12, 40, 2, 1446, 0]), (.iload_n 1, 1, []), (.iaload, 1, []), (.if_icmp .ge 20, 3, [39])]),
  (22, [(.aload_n 0, 1, []), (.getfield 97, 3, [12, 53, 2, 1459, 0]), (.iload_n 2, 1, []), (.aload_n 0, 1, []), (.iload_n 2, 1, []), (.invokevirtual 410, 3, [139, 2, 1851, 0, 6, 0, 0, 0, 0, 12])]),
  (32, [(.lastore, 1, []), (.iinc 2 1, 3, []), (.goto (-24), 3, [12])]),
  (39, [(.aload_n 0, 1, []), (.getfield 342, 3, [12, 54, 3, 1460, 0]), (.ifCond .eq 7, 3, [50])]),
  (46, [(.lconst 0, 1, []), (.goto 16, 3, [63])]),
  (50, [(.aload_n 0, 1, []), (.getfield 97, 3, [12, 53, 2, 1459, 0]), (.aload_n 0, 1, []), (.getfield 75, 3, [12, 40, 2, 1446, 0]), (.iload_n 1, 1, []), (.iaload, 1, []), (.iconst 1, 1, []), (.isub, 1, []), (.laload, 1, [])]),
  (63, [(.lreturn, 1, [])])]
set_option maxRecDepth 100000 in
theorem ok_140 : chkM 140 seg_140 = true := by decide +kernel
-- MD_law
def seg_141 : SegL := [
  (0, [(.aload_n 0, 1, []), (.iconst 0, 1, []), (.putfield 148, 3, [12, 2, 0, 1408, 0, 0]), (.iload_n 1, 1, []), (.iconst 0, 1, []), (.iconst 1, 1, []), (.invokestatic 193, 3, [78, 3, 1714, 0, 3, 0, 0, 0, 0, 12])]),
  (11, [(.ifCond .eq 28, 3, [39])]),
  (14, [(.aload_n 0, 1, []), (.getfield 69, 3, [12, 38, 2, 1444, 0]), (.iload_n 1, 1, []), (.baload, 1, []), (.ifCond .eq 19, 3, [39])]),
  (23, [(.aload_n 0, 1, []), (.iload_n 2, 1, []), (.invokevirtual 443, 3, [109, 2, 1803, 0, 2, 0, 0, 0, 0, 12])]),
  (28, [(.ifCond .eq 11, 3, [39])]),
  (31, [(.aload_n 0, 1, []), (.iload_n 3, 1, []), (.invokevirtual 449, 3, [114, 2, 1815, 0, 2, 0, 0, 0, 0, 12])]),
  (36, [(.ifCond .ne 7, 3, [43])]),
  (39, [(.ldc2_w 456, 3, [9223372036854775808, 1835]), (.lreturn, 1, [])]),
  (43, [(.aload_n 0, 1, []), (.invokevirtual 371, 3, [15, 1, 1402, 0, 1, 0, 0, 0, 0, 12])]),
  (47, [(.aload_n 0, 1, []), (.iconst 0, 1, []), (.iload_n 2, 1, []), (.iload_n 3, 1, []), (.invokevirtual 414, 3, [135, 4, 1836, 0, 4, 0, 0, 0, 0, 12])]),
  (54, [(.aload_n 0, 1, []), (.iload_n 1, 1, []), (.invokevirtual 417, 3, [140, 2, 1847, 0, 3, 0, 0, 0, 0, 12])]),
  (59, [(.lstore 4, 2, []), (.aload_n 0, 1, []), (.getfield 342, 3, [12, 54, 3, 1460, 0]), (.ifCond .eq 9, 3, [74])]),
  (68, [(.ldc2_w 456, 3, [9223372036854775808, 1835]), (.goto 5, 3, [76])]),
  (74, [(.lload 4, 2, [])]),
  (76, [(.lreturn, 1, [])])]
set_option maxRecDepth 100000 in
theorem ok_141 : chkM 141 seg_141 = true := by decide +kernel
-- State_take
def seg_142 : SegL := [
  (0, [(.iconst 0, 1, []), (.istore_n 2, 1, [])]),
  (2, [(.iload_n 2, 1, []), (.iconst 5, 1, []), (.if_icmp .ge 57, 3, [61])]),
  (7, [(.aload_n 0, 1, []), (.getfield 9, 3, [8, 0, 2, 165, 0]), (.iload_n 2, 1, []), (.aload_n 1, 1, []), (.getfield 9, 3, [8, 0, 2, 165, 0]), (.iload_n 2, 1, []), (.iaload, 1, []), (.iastore, 1, []), (.aload_n 0, 1, []), (.getfield 15, 3, [8, 1, 2, 169, 0]), (.iload_n 2, 1, []), (.aload_n 1, 1, []), (.getfield 15, 3, [8, 1, 2, 169, 0]), (.iload_n 2, 1, []), (.iaload, 1, []), (.iastore, 1, []), (.aload_n 0, 1, []), (.getfield 18, 3, [8, 2, 2, 172, 0]), (.iload_n 2, 1, []), (.aload_n 1, 1, []), (.getfield 18, 3, [8, 2, 2, 172, 0]), (.iload_n 2, 1, []), (.iaload, 1, []), (.iastore, 1, []), (.aload_n 0, 1, []), (.getfield 21, 3, [8, 3, 2, 176, 0]), (.iload_n 2, 1, []), (.aload_n 1, 1, []), (.getfield 21, 3, [8, 3, 2, 176, 0]), (.iload_n 2, 1, []), (.iaload, 1, []), (.iastore, 1, []), (.iinc 2 1, 3, []), (.goto (-56), 3, [2])]),
  (61, [(.aload_n 0, 1, []), (.aload_n 1, 1, []), (.getfield 53, 3, [8, 4, 0, 179, 0]), (.putfield 53, 3, [8, 4, 0, 179, 0, 0]), (.aload_n 0, 1, []), (.aload_n 1, 1, []), (.getfield 46, 3, [8, 5, 0, 182, 0]), (.putfield 46, 3, [8, 5, 0, 182, 0, 0]), (.aload_n 0, 1, []), (.aload_n 1, 1, []), (.getfield 43, 3, [8, 6, 0, 185, 0]), (.putfield 43, 3, [8, 6, 0, 185, 0, 0]), (.aload_n 0, 1, []), (.aload_n 1, 1, []), (.getfield 36, 3, [8, 7, 0, 187, 0]), (.putfield 36, 3, [8, 7, 0, 187, 0, 0]), (.return_, 1, [])])]
set_option maxRecDepth 100000 in
theorem ok_142 : chkM 142 seg_142 = true := by decide +kernel
-- History_push
def seg_143 : SegL := [
  (0, [(.aload_n 0, 1, []), (.getfield 11, 3, [1, 0, 2, 215, 0]), (.aload_n 0, 1, []), (.getfield 22, 3, [1, 1, 0, 216, 0]), (.aload_n 0, 1, []), (.getfield 18, 3, [1, 2, 0, 217, 0]), (.iadd, 1, []), (.bipush 20, 2, []), (.irem, 1, []), (.aaload, 1, []), (.aload_n 1, 1, []), (.invokevirtual 25, 3, [142, 2, 999, 0, 3, 0, 0, 0, 0, 8])]),
  (21, [(.aload_n 0, 1, []), (.getfield 18, 3, [1, 2, 0, 217, 0]), (.bipush 20, 2, []), (.if_icmp .ge 16, 3, [43])]),
  (30, [(.aload_n 0, 1, []), (.dup, 1, []), (.getfield 18, 3, [1, 2, 0, 217, 0]), (.iconst 1, 1, []), (.iadd, 1, []), (.putfield 18, 3, [1, 2, 0, 217, 0, 0]), (.goto 16, 3, [56])]),
  (43, [(.aload_n 0, 1, []), (.aload_n 0, 1, []), (.getfield 22, 3, [1, 1, 0, 216, 0]), (.iconst 1, 1, []), (.iadd, 1, []), (.bipush 20, 2, []), (.irem, 1, []), (.putfield 22, 3, [1, 1, 0, 216, 0, 0])]),
  (56, [(.return_, 1, [])])]
set_option maxRecDepth 100000 in
theorem ok_143 : chkM 143 seg_143 = true := by decide +kernel
-- Rules_isIn
def seg_144 : SegL := [
  (0, [(.aload_n 1, 1, []), (.getfield 56, 3, [8, 1, 2, 170, 1]), (.iload_n 2, 1, []), (.iaload, 1, []), (.iload_n 3, 1, []), (.if_icmp .ne 18, 3, [25])]),
  (10, [(.aload_n 0, 1, []), (.getfield 33, 3, [6, 4, 0, 628, 0]), (.iload_n 2, 1, []), (.ishr, 1, []), (.iconst 1, 1, []), (.iand, 1, []), (.ifCond .ne 7, 3, [25])]),
  (21, [(.iconst 1, 1, []), (.goto 4, 3, [26])]),
  (25, [(.iconst 0, 1, [])]),
  (26, [(.ireturn, 1, [3])])]
set_option maxRecDepth 100000 in
theorem ok_144 : chkM 144 seg_144 = true := by decide +kernel
-- Rules_hears
def seg_145 : SegL := [
  (0, [(.aload_n 0, 1, []), (.aload_n 0, 1, []), (.getfield 25, 3, [6, 2, 2, 624, 0]), (.getfield 101, 3, [0, 15, 2, 419, 1]), (.aload_n 1, 1, []), (.iload_n 2, 1, []), (.iload_n 3, 1, []), (.invokevirtual 105, 3, [131, 5, 1015, 0, 5, 0, 0, 0, 0, 6])]),
  (14, [(.lstore 4, 2, []), (.lload 4, 2, []), (.ldc2_w 109, 3, [9223372036854775808, 949]), (.lcmp, 1, []), (.ifCond .eq 16, 3, [38])]),
  (25, [(.lload 4, 2, []), (.lconst 0, 1, []), (.lcmp, 1, []), (.ifCond .eq 7, 3, [36])]),
  (32, [(.iconst 1, 1, []), (.goto 4, 3, [37])]),
  (36, [(.iconst 0, 1, [])]),
  (37, [(.ireturn, 1, [3])]),
  (38, [(.aload_n 0, 1, []), (.getfield 25, 3, [6, 2, 2, 624, 0]), (.getfield 88, 3, [0, 7, 2, 390, 1]), (.iload_n 3, 1, []), (.iaload, 1, []), (.iconst 2, 1, []), (.if_icmp .ne 12, 3, [60])]),
  (51, [(.aload_n 0, 1, []), (.iload_n 2, 1, []), (.invokevirtual 111, 3, [126, 2, 950, 0, 2, 0, 0, 0, 0, 6])]),
  (56, [(.iconst 5, 1, []), (.if_icmp .lt 7, 3, [64])]),
  (60, [(.iconst 1, 1, []), (.goto 4, 3, [65])]),
  (64, [(.iconst 0, 1, [])]),
  (65, [(.ireturn, 1, [3])])]
set_option maxRecDepth 100000 in
theorem ok_145 : chkM 145 seg_145 = true := by decide +kernel
-- State_isKnown
def seg_146 : SegL := [
  (0, [(.aload_n 0, 1, []), (.getfield 9, 3, [8, 0, 2, 165, 0]), (.iload_n 1, 1, []), (.iaload, 1, []), (.iload_n 2, 1, []), (.ishr, 1, []), (.iconst 1, 1, []), (.iand, 1, []), (.ifCond .eq 7, 3, [17])]),
  (13, [(.iconst 1, 1, []), (.goto 4, 3, [18])]),
  (17, [(.iconst 0, 1, [])]),
  (18, [(.ireturn, 1, [3])])]
set_option maxRecDepth 100000 in
theorem ok_146 : chkM 146 seg_146 = true := by decide +kernel
-- State_drawNumber
def seg_147 : SegL := [
  (0, [(.aload_n 0, 1, []), (.aload_n 0, 1, []), (.getfield 43, 3, [8, 6, 0, 185, 0]), (.ldc 62, 2, [1103515245, 1031]), (.imul, 1, []), (.sipush 12345, 3, []), (.iadd, 1, []), (.ldc 63, 2, [2147483647, 1032]), (.iand, 1, []), (.putfield 43, 3, [8, 6, 0, 185, 0, 0]), (.aload_n 0, 1, []), (.getfield 43, 3, [8, 6, 0, 185, 0]), (.ldc 64, 2, [65536, 1033]), (.idiv, 1, []), (.ireturn, 1, [0])])]
set_option maxRecDepth 100000 in
theorem ok_147 : chkM 147 seg_147 = true := by decide +kernel
-- Rules_slips
def seg_148 : SegL := [
  (0, [(.aload_n 0, 1, []), (.getfield 36, 3, [6, 6, 3, 632, 0]), (.ifCond .eq 5, 3, [9])]),
  (7, [(.iconst 0, 1, []), (.ireturn, 1, [3])]),
  (9, [(.aload_n 0, 1, []), (.aload_n 0, 1, []), (.getfield 25, 3, [6, 2, 2, 624, 0]), (.getfield 114, 3, [0, 14, 2, 415, 1]), (.aload_n 1, 1, []), (.iload_n 2, 1, []), (.iload_n 3, 1, []), (.invokevirtual 105, 3, [131, 5, 1015, 0, 5, 0, 0, 0, 0, 6])]),
  (23, [(.lstore 4, 2, []), (.lload 4, 2, []), (.ldc2_w 109, 3, [9223372036854775808, 949]), (.lcmp, 1, []), (.ifCond .ne 19, 3, [50])]),
  (34, [(.ldc2_w 117, 3, [10, 1024]), (.aload_n 0, 1, []), (.getfield 25, 3, [6, 2, 2, 624, 0]), (.getfield 119, 3, [0, 3, 2, 378, 1]), (.iload_n 2, 1, []), (.iaload, 1, []), (.i2l, 1, []), (.lmul, 1, []), (.lstore 4, 2, [])]),
  (50, [(.aload_n 0, 1, []), (.getfield 29, 3, [6, 3, 3, 626, 0]), (.ifCond .ne 18, 3, [72])]),
  (57, [(.lload 4, 2, []), (.ldc2_w 122, 3, [50, 1025]), (.lcmp, 1, []), (.ifCond .lt 7, 3, [70])]),
  (66, [(.iconst 1, 1, []), (.goto 4, 3, [71])]),
  (70, [(.iconst 0, 1, [])]),
  (71, [(.ireturn, 1, [3])]),
  (72, [(.lload 4, 2, []), (.lconst 0, 1, []), (.lcmp, 1, []), (.ifCond .le 12, 3, [88])]),
  (79, [(.lload 4, 2, []), (.ldc2_w 124, 3, [100, 1026]), (.lcmp, 1, []), (.ifCond .lt 16, 3, [101])]),
  (88, [(.lload 4, 2, []), (.lconst 0, 1, []), (.lcmp, 1, []), (.ifCond .le 7, 3, [99])]),
  (95, [(.iconst 1, 1, []), (.goto 4, 3, [100])]),
  (99, [(.iconst 0, 1, [])]),
  (100, [(.ireturn, 1, [3])]),
  (101, [(.lload 4, 2, []), (.aload_n 1, 1, []), (.invokevirtual 126, 3, [147, 1, 1027, 0, 1, 0, 0, 0, 0, 8])]),
  (107, [(.bipush 100, 2, []), (.irem, 1, []), (.i2l, 1, []), (.lcmp, 1, []), (.ifCond .le 7, 3, [119])]),
  (115, [(.iconst 1, 1, []), (.goto 4, 3, [120])]),
  (119, [(.iconst 0, 1, [])]),
  (120, [(.ireturn, 1, [3])])]
set_option maxRecDepth 100000 in
theorem ok_148 : chkM 148 seg_148 = true := by decide +kernel
-- Rules_pose
def seg_149_0 : SegL := [
  (0, [(.aload_n 1, 1, []), (.getfield 42, 3, [8, 3, 2, 177, 1]), (.iload_n 2, 1, []), (.dup2, 1, []), (.iaload, 1, []), (.iconst 1, 1, []), (.iadd, 1, []), (.iastore, 1, []), (.aload_n 1, 1, []), (.dup, 1, []), (.getfield 66, 3, [8, 5, 0, 183, 1]), (.iconst 1, 1, []), (.iadd, 1, []), (.putfield 66, 3, [8, 5, 0, 183, 1, 0]), (.aload_n 1, 1, []), (.getfield 56, 3, [8, 1, 2, 170, 1]), (.iload_n 2, 1, []), (.iaload, 1, []), (.istore 5, 2, []), (.aload_n 0, 1, []), (.getfield 25, 3, [6, 2, 2, 624, 0]), (.iload 4, 2, []), (.invokevirtual 59, 3, [119, 2, 933, 0, 3, 0, 0, 0, 0, 0])]),
  (37, [(.istore 6, 2, []), (.iconst 0, 1, []), (.istore 7, 2, [])]),
  (42, [(.iload 7, 2, []), (.aload_n 0, 1, []), (.getfield 25, 3, [6, 2, 2, 624, 0]), (.getfield 69, 3, [0, 1, 2, 367, 1]), (.getfield 73, 3, [4, 2, 0, 330, 1]), (.if_icmp .ge 66, 3, [120])]),
  (57, [(.iload 7, 2, []), (.iload_n 2, 1, []), (.if_icmp .eq 54, 3, [114])]),
  (63, [(.aload_n 0, 1, []), (.aload_n 1, 1, []), (.iload 7, 2, []), (.iload 5, 2, []), (.invokevirtual 78, 3, [144, 4, 1007, 0, 4, 0, 0, 0, 0, 6])]),
  (72, [(.ifCond .eq 42, 3, [114])]),
  (75, [(.iload 6, 2, []), (.aload_n 1, 1, []), (.getfield 63, 3, [8, 0, 2, 166, 1]), (.iload 7, 2, []), (.iaload, 1, []), (.iconst (-1), 1, []), (.ixor, 1, []), (.iand, 1, []), (.ifCond .eq 27, 3, [114])])]
set_option maxRecDepth 100000 in
theorem seg_149_0_ok : chkM 149 seg_149_0 = true := by decide +kernel
def seg_149_1 : SegL := [
  (90, [(.aload_n 0, 1, []), (.aload_n 1, 1, []), (.iload 7, 2, []), (.iload 4, 2, []), (.invokevirtual 82, 3, [145, 4, 1011, 0, 6, 0, 0, 0, 0, 6])]),
  (99, [(.ifCond .eq 15, 3, [114])]),
  (102, [(.aload_n 1, 1, []), (.getfield 63, 3, [8, 0, 2, 166, 1]), (.iload 7, 2, []), (.dup2, 1, []), (.iaload, 1, []), (.iload 6, 2, []), (.ior, 1, []), (.iastore, 1, [])]),
  (114, [(.iinc 7 1, 3, []), (.goto (-75), 3, [42])]),
  (120, [(.aload_n 0, 1, []), (.getfield 25, 3, [6, 2, 2, 624, 0]), (.getfield 85, 3, [0, 10, 2, 401, 1]), (.iload 4, 2, []), (.iaload, 1, []), (.istore 7, 2, []), (.aload_n 0, 1, []), (.getfield 25, 3, [6, 2, 2, 624, 0]), (.getfield 88, 3, [0, 7, 2, 390, 1]), (.iload 4, 2, []), (.iaload, 1, []), (.iconst 3, 1, []), (.if_icmp .eq 30, 3, [173])]),
  (146, [(.iload 7, 2, []), (.iconst (-1), 1, []), (.if_icmp .eq 24, 3, [173])]),
  (152, [(.aload_n 1, 1, []), (.iload_n 3, 1, []), (.iload 7, 2, []), (.invokevirtual 91, 3, [146, 3, 1016, 0, 3, 0, 0, 0, 0, 8])]),
  (159, [(.ifCond .eq 14, 3, [173])]),
  (162, [(.aload_n 0, 1, []), (.aload_n 1, 1, []), (.iload_n 3, 1, []), (.iload 4, 2, []), (.invokevirtual 95, 3, [148, 4, 1020, 0, 6, 0, 0, 0, 0, 6])]),
  (170, [(.ifCond .ne 5, 3, [175])]),
  (173, [(.iconst 0, 1, []), (.ireturn, 1, [3])]),
  (175, [(.iconst 0, 1, []), (.istore 8, 2, [])])]
set_option maxRecDepth 100000 in
theorem seg_149_1_ok : chkM 149 seg_149_1 = true := by decide +kernel
def seg_149_2 : SegL := [
  (178, [(.iload 8, 2, []), (.aload_n 0, 1, []), (.getfield 25, 3, [6, 2, 2, 624, 0]), (.getfield 69, 3, [0, 1, 2, 367, 1]), (.getfield 73, 3, [4, 2, 0, 330, 1]), (.if_icmp .ge 35, 3, [225])]),
  (193, [(.aload_n 0, 1, []), (.aload_n 1, 1, []), (.iload 8, 2, []), (.iload 5, 2, []), (.invokevirtual 78, 3, [144, 4, 1007, 0, 4, 0, 0, 0, 0, 6])]),
  (202, [(.ifCond .eq 17, 3, [219])]),
  (205, [(.aload_n 1, 1, []), (.getfield 63, 3, [8, 0, 2, 166, 1]), (.iload 8, 2, []), (.dup2, 1, []), (.iaload, 1, []), (.iconst 1, 1, []), (.iload 7, 2, []), (.ishl, 1, []), (.ior, 1, []), (.iastore, 1, [])]),
  (219, [(.iinc 8 1, 3, []), (.goto (-44), 3, [178])]),
  (225, [(.aload_n 1, 1, []), (.getfield 98, 3, [8, 2, 2, 173, 1]), (.iload_n 3, 1, []), (.dup2, 1, []), (.iaload, 1, []), (.iconst 1, 1, []), (.iadd, 1, []), (.iastore, 1, []), (.iconst 1, 1, []), (.ireturn, 1, [3])])]
set_option maxRecDepth 100000 in
theorem seg_149_2_ok : chkM 149 seg_149_2 = true := by decide +kernel
def seg_149 : SegL := seg_149_0 ++ (seg_149_1 ++ (seg_149_2))
theorem ok_149 : chkM 149 seg_149 = true := (chkM_app _ _ _ seg_149_0_ok (chkM_app _ _ _ seg_149_1_ok seg_149_2_ok))
def segG_2 : List SegL := [seg_100, seg_101, seg_102, seg_103, seg_104, seg_105, seg_106, seg_107, seg_108, seg_109, seg_110, seg_111, seg_112, seg_113, seg_114, seg_115, seg_116, seg_117, seg_118, seg_119, seg_120, seg_121, seg_122, seg_123, seg_124, seg_125, seg_126, seg_127, seg_128, seg_129, seg_130, seg_131, seg_132, seg_133, seg_134, seg_135, seg_136, seg_137, seg_138, seg_139, seg_140, seg_141, seg_142, seg_143, seg_144, seg_145, seg_146, seg_147, seg_148, seg_149]
theorem okG_2 : okFrom 100 segG_2 := ⟨ok_100, ok_101, ok_102, ok_103, ok_104, ok_105, ok_106, ok_107, ok_108, ok_109, ok_110, ok_111, ok_112, ok_113, ok_114, ok_115, ok_116, ok_117, ok_118, ok_119, ok_120, ok_121, ok_122, ok_123, ok_124, ok_125, ok_126, ok_127, ok_128, ok_129, ok_130, ok_131, ok_132, ok_133, ok_134, ok_135, ok_136, ok_137, ok_138, ok_139, ok_140, ok_141, ok_142, ok_143, ok_144, ok_145, ok_146, ok_147, ok_148, ok_149, trivial⟩
