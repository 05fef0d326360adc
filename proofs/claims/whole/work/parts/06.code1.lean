-- LawReader_levelOf
def seg_50 : SegL := [
  (0, [(.iload_n 0, 1, []), (.tableswitch 120 15 37 #[107, 109, 111, 120, 120, 120, 120, 120, 120, 120, 120, 120, 120, 113, 113, 113, 113, 113, 113, 115, 115, 117, 117], 107, [121, 108, 110, 112, 121, 121, 121, 121, 121, 121, 121, 121, 121, 121, 114, 114, 114, 114, 114, 114, 116, 116, 118, 118])]),
  (108, [(.iconst 1, 1, []), (.ireturn, 1, [0])]),
  (110, [(.iconst 2, 1, []), (.ireturn, 1, [0])]),
  (112, [(.iconst 3, 1, []), (.ireturn, 1, [0])]),
  (114, [(.iconst 4, 1, []), (.ireturn, 1, [0])]),
  (116, [(.iconst 5, 1, []), (.ireturn, 1, [0])]),
  (118, [(.bipush 6, 2, []), (.ireturn, 1, [0])]),
  (121, [(.iconst 0, 1, []), (.ireturn, 1, [0])])]
set_option maxRecDepth 100000 in
theorem ok_50 : chkM 50 seg_50 = true := by decide +kernel
-- LawReader_countKnot
def seg_51 : SegL := [
  (0, [(.aload_n 0, 1, []), (.getfield 19, 3, [3, 6, 2, 577, 0]), (.getfield 90, 3, [0, 19, 0, 433, 1]), (.bipush 64, 2, []), (.if_icmp .lt 5, 3, [14])]),
  (12, [(.iconst 2, 1, []), (.ireturn, 1, [0])]),
  (14, [(.aload_n 0, 1, []), (.getfield 19, 3, [3, 6, 2, 577, 0]), (.dup, 1, []), (.getfield 90, 3, [0, 19, 0, 433, 1]), (.iconst 1, 1, []), (.iadd, 1, []), (.putfield 90, 3, [0, 19, 0, 433, 1, 0]), (.iconst (-1), 1, []), (.ireturn, 1, [0])])]
set_option maxRecDepth 100000 in
theorem ok_51 : chkM 51 seg_51 = true := by decide +kernel
-- Tokens_isLawName
def seg_52 : SegL := [
  (0, [(.iload_n 0, 1, []), (.bipush 18, 2, []), (.if_icmp .lt 13, 3, [16])]),
  (6, [(.iload_n 0, 1, []), (.bipush 24, 2, []), (.if_icmp .gt 7, 3, [16])]),
  (12, [(.iconst 1, 1, []), (.goto 4, 3, [17])]),
  (16, [(.iconst 0, 1, [])]),
  (17, [(.ireturn, 1, [3])])]
set_option maxRecDepth 100000 in
theorem ok_52 : chkM 52 seg_52 = true := by decide +kernel
-- Law_add
def seg_53 : SegL := [
  (0, [(.aload_n 0, 1, []), (.getfield 18, 3, [2, 2, 0, 348, 0]), (.bipush 64, 2, []), (.if_icmp .ge 33, 3, [39])]),
  (9, [(.aload_n 0, 1, []), (.getfield 9, 3, [2, 0, 2, 346, 0]), (.aload_n 0, 1, []), (.getfield 18, 3, [2, 2, 0, 348, 0]), (.iload_n 1, 1, []), (.iastore, 1, []), (.aload_n 0, 1, []), (.getfield 15, 3, [2, 1, 2, 347, 0]), (.aload_n 0, 1, []), (.getfield 18, 3, [2, 2, 0, 348, 0]), (.iload_n 2, 1, []), (.iastore, 1, []), (.aload_n 0, 1, []), (.dup, 1, []), (.getfield 18, 3, [2, 2, 0, 348, 0]), (.iconst 1, 1, []), (.iadd, 1, []), (.putfield 18, 3, [2, 2, 0, 348, 0, 0])]),
  (39, [(.return_, 1, [])])]
set_option maxRecDepth 100000 in
theorem ok_53 : chkM 53 seg_53 = true := by decide +kernel
-- LawReader_takeOperand
def seg_54 : SegL := [
  (0, [(.aload_n 0, 1, []), (.getfield 15, 3, [3, 0, 2, 571, 0]), (.getfield 47, 3, [10, 4, 0, 541, 1]), (.istore_n 1, 1, []), (.iload_n 1, 1, []), (.bipush 38, 2, []), (.if_icmp .ne 31, 3, [42])]),
  (14, [(.aload_n 0, 1, []), (.getfield 36, 3, [3, 3, 0, 574, 0]), (.bipush 8, 2, []), (.if_icmp .lt 5, 3, [25])]),
  (23, [(.iconst 2, 1, []), (.ireturn, 1, [0])]),
  (25, [(.aload_n 0, 1, []), (.dup, 1, []), (.getfield 36, 3, [3, 3, 0, 574, 0]), (.iconst 1, 1, []), (.iadd, 1, []), (.putfield 36, 3, [3, 3, 0, 574, 0, 0]), (.aload_n 0, 1, []), (.iload_n 1, 1, []), (.invokevirtual 63, 3, [49, 2, 845, 0, 2, 0, 0, 0, 0, 3])]),
  (40, [(.iconst (-1), 1, []), (.ireturn, 1, [0])]),
  (42, [(.iload_n 1, 1, []), (.bipush 17, 2, []), (.if_icmp .ne 40, 3, [85])]),
  (48, [(.aload_n 0, 1, []), (.getfield 32, 3, [3, 2, 0, 573, 0]), (.ifCond .le 23, 3, [75])]),
  (55, [(.aload_n 0, 1, []), (.getfield 11, 3, [3, 1, 2, 572, 0]), (.aload_n 0, 1, []), (.getfield 32, 3, [3, 2, 0, 573, 0]), (.iconst 1, 1, []), (.isub, 1, []), (.iaload, 1, []), (.invokestatic 67, 3, [50, 1, 849, 0, 1, 0, 0, 0, 0, 3])]),
  (69, [(.iconst 3, 1, []), (.if_icmp .le 5, 3, [75])]),
  (73, [(.iconst 1, 1, []), (.ireturn, 1, [0])]),
  (75, [(.aload_n 0, 1, []), (.iload_n 1, 1, []), (.invokevirtual 63, 3, [49, 2, 845, 0, 2, 0, 0, 0, 0, 3])]),
  (80, [(.aload_n 0, 1, []), (.invokevirtual 71, 3, [51, 1, 852, 0, 1, 0, 0, 0, 0, 3])]),
  (84, [(.ireturn, 1, [0])]),
  (85, [(.iload_n 1, 1, []), (.bipush 26, 2, []), (.if_icmp .eq 12, 3, [100])]),
  (91, [(.iload_n 1, 1, []), (.invokestatic 74, 3, [52, 1, 856, 0, 1, 0, 0, 0, 0, 10])]),
  (95, [(.ifCond .ne 5, 3, [100])]),
  (98, [(.iconst 1, 1, []), (.ireturn, 1, [0])]),
  (100, [(.iload_n 1, 1, []), (.bipush 26, 2, []), (.if_icmp .ne 18, 3, [121])]),
  (106, [(.aload_n 0, 1, []), (.getfield 15, 3, [3, 0, 2, 571, 0]), (.getfield 78, 3, [10, 6, 0, 546, 1]), (.sipush 9999, 3, []), (.if_icmp .le 5, 3, [121])]),
  (119, [(.iconst 2, 1, []), (.ireturn, 1, [0])]),
  (121, [(.aload_n 0, 1, []), (.getfield 29, 3, [3, 5, 2, 576, 0]), (.iload_n 1, 1, []), (.aload_n 0, 1, []), (.getfield 15, 3, [3, 0, 2, 571, 0]), (.getfield 78, 3, [10, 6, 0, 546, 1]), (.invokevirtual 81, 3, [53, 3, 859, 0, 3, 0, 0, 0, 0, 2])]),
  (136, [(.aload_n 0, 1, []), (.iconst 0, 1, []), (.putfield 39, 3, [3, 4, 3, 575, 0, 0]), (.aload_n 0, 1, []), (.invokevirtual 71, 3, [51, 1, 852, 0, 1, 0, 0, 0, 0, 3])]),
  (145, [(.ireturn, 1, [0])])]
set_option maxRecDepth 100000 in
theorem ok_54 : chkM 54 seg_54 = true := by decide +kernel
-- LawReader_joinAbove
def seg_55 : SegL := [
  (0, [(.aload_n 0, 1, []), (.getfield 32, 3, [3, 2, 0, 573, 0]), (.ifCond .le 51, 3, [55])]),
  (7, [(.aload_n 0, 1, []), (.getfield 11, 3, [3, 1, 2, 572, 0]), (.aload_n 0, 1, []), (.getfield 32, 3, [3, 2, 0, 573, 0]), (.iconst 1, 1, []), (.isub, 1, []), (.iaload, 1, []), (.invokestatic 67, 3, [50, 1, 849, 0, 1, 0, 0, 0, 0, 3])]),
  (21, [(.iload_n 1, 1, []), (.if_icmp .le 33, 3, [55])]),
  (25, [(.aload_n 0, 1, []), (.dup, 1, []), (.getfield 32, 3, [3, 2, 0, 573, 0]), (.iconst 1, 1, []), (.isub, 1, []), (.putfield 32, 3, [3, 2, 0, 573, 0, 0]), (.aload_n 0, 1, []), (.getfield 29, 3, [3, 5, 2, 576, 0]), (.aload_n 0, 1, []), (.getfield 11, 3, [3, 1, 2, 572, 0]), (.aload_n 0, 1, []), (.getfield 32, 3, [3, 2, 0, 573, 0]), (.iaload, 1, []), (.iconst 0, 1, []), (.invokevirtual 81, 3, [53, 3, 859, 0, 3, 0, 0, 0, 0, 2])]),
  (52, [(.goto (-52), 3, [0])]),
  (55, [(.return_, 1, [])])]
set_option maxRecDepth 100000 in
theorem ok_55 : chkM 55 seg_55 = true := by decide +kernel
-- LawReader_takeClose
def seg_56 : SegL := [
  (0, [(.aload_n 0, 1, []), (.getfield 36, 3, [3, 3, 0, 574, 0]), (.ifCond .ne 5, 3, [9])]),
  (7, [(.iconst 1, 1, []), (.ireturn, 1, [0])]),
  (9, [(.aload_n 0, 1, []), (.iconst 0, 1, []), (.invokevirtual 87, 3, [55, 2, 867, 0, 2, 0, 0, 0, 0, 3])]),
  (14, [(.aload_n 0, 1, []), (.dup, 1, []), (.getfield 36, 3, [3, 3, 0, 574, 0]), (.iconst 1, 1, []), (.isub, 1, []), (.putfield 36, 3, [3, 3, 0, 574, 0, 0]), (.aload_n 0, 1, []), (.dup, 1, []), (.getfield 32, 3, [3, 2, 0, 573, 0]), (.iconst 1, 1, []), (.isub, 1, []), (.putfield 32, 3, [3, 2, 0, 573, 0, 0]), (.iconst (-1), 1, []), (.ireturn, 1, [0])])]
set_option maxRecDepth 100000 in
theorem ok_56 : chkM 56 seg_56 = true := by decide +kernel
-- LawReader_takeOperator
def seg_57 : SegL := [
  (0, [(.aload_n 0, 1, []), (.getfield 15, 3, [3, 0, 2, 571, 0]), (.getfield 47, 3, [10, 4, 0, 541, 1]), (.istore_n 1, 1, []), (.iload_n 1, 1, []), (.bipush 27, 2, []), (.if_icmp .ne 17, 3, [28])]),
  (14, [(.aload_n 0, 1, []), (.getfield 36, 3, [3, 3, 0, 574, 0]), (.ifCond .ne 10, 3, [28])]),
  (21, [(.aload_n 0, 1, []), (.iconst 0, 1, []), (.invokevirtual 87, 3, [55, 2, 867, 0, 2, 0, 0, 0, 0, 3])]),
  (26, [(.iconst 0, 1, []), (.ireturn, 1, [0])]),
  (28, [(.iload_n 1, 1, []), (.invokestatic 67, 3, [50, 1, 849, 0, 1, 0, 0, 0, 0, 3])]),
  (32, [(.istore_n 2, 1, []), (.iload_n 2, 1, []), (.ifCond .eq 8, 3, [42])]),
  (37, [(.iload_n 2, 1, []), (.iconst 3, 1, []), (.if_icmp .ne 5, 3, [44])]),
  (42, [(.iconst 1, 1, []), (.ireturn, 1, [0])]),
  (44, [(.iload_n 2, 1, []), (.iconst 4, 1, []), (.if_icmp .ne 35, 3, [81])]),
  (49, [(.aload_n 0, 1, []), (.iload_n 2, 1, []), (.invokevirtual 87, 3, [55, 2, 867, 0, 2, 0, 0, 0, 0, 3])]),
  (54, [(.aload_n 0, 1, []), (.getfield 32, 3, [3, 2, 0, 573, 0]), (.ifCond .le 23, 3, [81])]),
  (61, [(.aload_n 0, 1, []), (.getfield 11, 3, [3, 1, 2, 572, 0]), (.aload_n 0, 1, []), (.getfield 32, 3, [3, 2, 0, 573, 0]), (.iconst 1, 1, []), (.isub, 1, []), (.iaload, 1, []), (.invokestatic 67, 3, [50, 1, 849, 0, 1, 0, 0, 0, 0, 3])]),
  (75, [(.iload_n 2, 1, []), (.if_icmp .ne 5, 3, [81])]),
  (79, [(.iconst 1, 1, []), (.ireturn, 1, [0])]),
  (81, [(.aload_n 0, 1, []), (.iload_n 2, 1, []), (.iconst 1, 1, []), (.isub, 1, []), (.invokevirtual 87, 3, [55, 2, 867, 0, 2, 0, 0, 0, 0, 3])]),
  (88, [(.aload_n 0, 1, []), (.iload_n 1, 1, []), (.invokevirtual 63, 3, [49, 2, 845, 0, 2, 0, 0, 0, 0, 3])]),
  (93, [(.aload_n 0, 1, []), (.iconst 1, 1, []), (.putfield 39, 3, [3, 4, 3, 575, 0, 0]), (.aload_n 0, 1, []), (.invokevirtual 71, 3, [51, 1, 852, 0, 1, 0, 0, 0, 0, 3])]),
  (102, [(.ireturn, 1, [0])])]
set_option maxRecDepth 100000 in
theorem ok_57 : chkM 57 seg_57 = true := by decide +kernel
-- LawReader_readLaw
def seg_58 : SegL := [
  (0, [(.aload_n 0, 1, []), (.aload_n 1, 1, []), (.putfield 29, 3, [3, 5, 2, 576, 0, 0]), (.aload_n 0, 1, []), (.aload_n 2, 1, []), (.putfield 19, 3, [3, 6, 2, 577, 0, 0]), (.aload_n 0, 1, []), (.iconst 0, 1, []), (.putfield 32, 3, [3, 2, 0, 573, 0, 0]), (.aload_n 0, 1, []), (.iconst 0, 1, []), (.putfield 36, 3, [3, 3, 0, 574, 0, 0]), (.aload_n 0, 1, []), (.iconst 1, 1, []), (.putfield 39, 3, [3, 4, 3, 575, 0, 0]), (.iconst 0, 1, []), (.istore_n 3, 1, [])]),
  (27, [(.iload_n 3, 1, []), (.sipush 700, 3, []), (.if_icmp .gt 64, 3, [95])]),
  (34, [(.aload_n 0, 1, []), (.getfield 39, 3, [3, 4, 3, 575, 0]), (.ifCond .eq 10, 3, [48])]),
  (41, [(.aload_n 0, 1, []), (.invokevirtual 43, 3, [54, 1, 841, 0, 2, 0, 0, 0, 0, 3])]),
  (45, [(.goto 26, 3, [71])]),
  (48, [(.aload_n 0, 1, []), (.getfield 15, 3, [3, 0, 2, 571, 0]), (.getfield 47, 3, [10, 4, 0, 541, 1]), (.bipush 39, 2, []), (.if_icmp .ne 10, 3, [67])]),
  (60, [(.aload_n 0, 1, []), (.invokevirtual 52, 3, [56, 1, 863, 0, 1, 0, 0, 0, 0, 3])]),
  (64, [(.goto 7, 3, [71])]),
  (67, [(.aload_n 0, 1, []), (.invokevirtual 55, 3, [57, 1, 871, 0, 3, 0, 0, 0, 0, 3])]),
  (71, [(.istore 4, 2, []), (.iload 4, 2, []), (.iconst (-1), 1, []), (.if_icmp .eq 6, 3, [82])]),
  (79, [(.iload 4, 2, []), (.ireturn, 1, [0])]),
  (82, [(.aload_n 0, 1, []), (.getfield 15, 3, [3, 0, 2, 571, 0]), (.invokevirtual 58, 3, [32, 1, 875, 0, 1, 0, 0, 0, 0, 10])]),
  (89, [(.iinc 3 1, 3, []), (.goto (-65), 3, [27])]),
  (95, [(.iconst 1, 1, []), (.ireturn, 1, [0])])]
set_option maxRecDepth 100000 in
theorem ok_58 : chkM 58 seg_58 = true := by decide +kernel
-- TextReader_readLaw
def seg_59 : SegL := [
  (0, [(.aload_n 0, 1, []), (.getfield 20, 3, [9, 0, 2, 593, 0]), (.invokevirtual 63, 3, [32, 1, 778, 0, 1, 0, 0, 0, 0, 10])]),
  (7, [(.aload_n 0, 1, []), (.getfield 20, 3, [9, 0, 2, 593, 0]), (.getfield 56, 3, [10, 4, 0, 542, 1]), (.bipush 13, 2, []), (.if_icmp .eq 17, 3, [33])]),
  (19, [(.aload_n 0, 1, []), (.getfield 20, 3, [9, 0, 2, 593, 0]), (.getfield 56, 3, [10, 4, 0, 542, 1]), (.bipush 14, 2, []), (.if_icmp .eq 5, 3, [33])]),
  (31, [(.iconst 1, 1, []), (.ireturn, 1, [0])]),
  (33, [(.aload_n 0, 1, []), (.getfield 20, 3, [9, 0, 2, 593, 0]), (.getfield 56, 3, [10, 4, 0, 542, 1]), (.bipush 13, 2, []), (.if_icmp .ne 13, 3, [55])]),
  (45, [(.aload_n 0, 1, []), (.getfield 9, 3, [9, 2, 2, 595, 0]), (.getfield 174, 3, [0, 14, 2, 417, 1]), (.goto 10, 3, [62])]),
  (55, [(.aload_n 0, 1, []), (.getfield 9, 3, [9, 2, 2, 595, 0]), (.getfield 178, 3, [0, 15, 2, 421, 1])]),
  (62, [(.astore_n 1, 1, []), (.aload_n 1, 1, []), (.getfield 181, 3, [2, 3, 3, 351, 1]), (.ifCond .eq 5, 3, [72])]),
  (70, [(.iconst 3, 1, []), (.ireturn, 1, [0])]),
  (72, [(.aload_n 1, 1, []), (.iconst 1, 1, []), (.putfield 181, 3, [2, 3, 3, 351, 1, 0]), (.aload_n 0, 1, []), (.getfield 20, 3, [9, 0, 2, 593, 0]), (.invokevirtual 63, 3, [32, 1, 778, 0, 1, 0, 0, 0, 0, 10])]),
  (84, [(.aload_n 0, 1, []), (.getfield 29, 3, [9, 1, 2, 594, 0]), (.aload_n 1, 1, []), (.aload_n 0, 1, []), (.getfield 9, 3, [9, 2, 2, 595, 0]), (.invokevirtual 186, 3, [58, 3, 837, 0, 5, 0, 0, 0, 0, 3])]),
  (96, [(.ireturn, 1, [0])])]
set_option maxRecDepth 100000 in
theorem ok_59 : chkM 59 seg_59 = true := by decide +kernel
-- TextReader_readLine
def seg_60 : SegL := [
  (0, [(.aload_n 0, 1, []), (.getfield 20, 3, [9, 0, 2, 593, 0]), (.getfield 56, 3, [10, 4, 0, 542, 1]), (.tableswitch 85 0 7 #[45, 50, 55, 60, 65, 70, 75, 80], 45, [92, 52, 57, 62, 67, 72, 77, 82, 87])]),
  (52, [(.aload_n 0, 1, []), (.invokevirtual 66, 3, [38, 1, 770, 0, 1, 0, 0, 0, 0, 9])]),
  (56, [(.ireturn, 1, [0])]),
  (57, [(.aload_n 0, 1, []), (.invokevirtual 69, 3, [40, 1, 792, 0, 3, 0, 0, 0, 0, 9])]),
  (61, [(.ireturn, 1, [0])]),
  (62, [(.aload_n 0, 1, []), (.invokevirtual 72, 3, [43, 1, 800, 0, 3, 0, 0, 0, 0, 9])]),
  (66, [(.ireturn, 1, [0])]),
  (67, [(.aload_n 0, 1, []), (.invokevirtual 75, 3, [45, 1, 812, 0, 3, 0, 0, 0, 0, 9])]),
  (71, [(.ireturn, 1, [0])]),
  (72, [(.aload_n 0, 1, []), (.invokevirtual 78, 3, [46, 1, 820, 0, 4, 0, 0, 0, 0, 9])]),
  (76, [(.ireturn, 1, [0])]),
  (77, [(.aload_n 0, 1, []), (.invokevirtual 81, 3, [47, 1, 824, 0, 2, 0, 0, 0, 0, 9])]),
  (81, [(.ireturn, 1, [0])]),
  (82, [(.aload_n 0, 1, []), (.invokevirtual 84, 3, [48, 1, 828, 0, 2, 0, 0, 0, 0, 9])]),
  (86, [(.ireturn, 1, [0])]),
  (87, [(.aload_n 0, 1, []), (.invokevirtual 87, 3, [59, 1, 833, 0, 2, 0, 0, 0, 0, 9])]),
  (91, [(.ireturn, 1, [0])]),
  (92, [(.iconst 1, 1, []), (.ireturn, 1, [0])])]
set_option maxRecDepth 100000 in
theorem ok_60 : chkM 60 seg_60 = true := by decide +kernel
-- TextReader_readText
def seg_61 : SegL := [
  (0, [(.aload_n 0, 1, []), (.aload_n 1, 1, []), (.putfield 9, 3, [9, 2, 2, 595, 0, 0]), (.aload_n 0, 1, []), (.getfield 9, 3, [9, 2, 2, 595, 0]), (.invokevirtual 37, 3, [24, 1, 716, 0, 1, 0, 0, 0, 0, 0])]),
  (12, [(.aload_n 0, 1, []), (.iconst 0, 1, []), (.putfield 42, 3, [9, 3, 3, 596, 0, 0]), (.aload_n 0, 1, []), (.iconst 0, 1, []), (.putfield 46, 3, [9, 4, 3, 597, 0, 0]), (.aload_n 0, 1, []), (.getfield 20, 3, [9, 0, 2, 593, 0]), (.iload_n 2, 1, []), (.invokevirtual 49, 3, [33, 2, 728, 0, 2, 0, 0, 0, 0, 10])]),
  (30, [(.aload_n 0, 1, []), (.iconst 0, 1, []), (.putfield 53, 3, [9, 5, 0, 598, 0, 0])]),
  (35, [(.aload_n 0, 1, []), (.getfield 53, 3, [9, 5, 0, 598, 0]), (.iload_n 2, 1, []), (.if_icmp .ge 60, 3, [100])]),
  (43, [(.aload_n 0, 1, []), (.getfield 20, 3, [9, 0, 2, 593, 0]), (.getfield 56, 3, [10, 4, 0, 542, 1]), (.bipush 40, 2, []), (.if_icmp .eq 48, 3, [100])]),
  (55, [(.aload_n 0, 1, []), (.invokevirtual 59, 3, [60, 1, 766, 0, 1, 0, 0, 0, 0, 9])]),
  (59, [(.istore_n 3, 1, []), (.iload_n 3, 1, []), (.ifCond .eq 5, 3, [66])]),
  (64, [(.iload_n 3, 1, []), (.ireturn, 1, [0])]),
  (66, [(.aload_n 0, 1, []), (.getfield 20, 3, [9, 0, 2, 593, 0]), (.getfield 56, 3, [10, 4, 0, 542, 1]), (.bipush 27, 2, []), (.if_icmp .eq 5, 3, [80])]),
  (78, [(.iconst 1, 1, []), (.ireturn, 1, [0])]),
  (80, [(.aload_n 0, 1, []), (.getfield 20, 3, [9, 0, 2, 593, 0]), (.invokevirtual 63, 3, [32, 1, 778, 0, 1, 0, 0, 0, 0, 10])]),
  (87, [(.aload_n 0, 1, []), (.dup, 1, []), (.getfield 53, 3, [9, 5, 0, 598, 0]), (.iconst 1, 1, []), (.iadd, 1, []), (.putfield 53, 3, [9, 5, 0, 598, 0, 0]), (.goto (-62), 3, [35])]),
  (100, [(.iconst 0, 1, []), (.ireturn, 1, [0])])]
set_option maxRecDepth 100000 in
theorem ok_61 : chkM 61 seg_61 = true := by decide +kernel
-- TextReader_place
def seg_62 : SegL := [
  (0, [(.aload_n 0, 1, []), (.getfield 20, 3, [9, 0, 2, 593, 0]), (.getfield 33, 3, [10, 5, 0, 544, 1]), (.ireturn, 1, [0])])]
set_option maxRecDepth 100000 in
theorem ok_62 : chkM 62 seg_62 = true := by decide +kernel
-- State_beginDay
def seg_63 : SegL := [
  (0, [(.aload_n 0, 1, []), (.iload_n 1, 1, []), (.putfield 53, 3, [8, 4, 0, 179, 0, 0]), (.iconst 0, 1, []), (.istore_n 2, 1, [])]),
  (7, [(.iload_n 2, 1, []), (.iconst 5, 1, []), (.if_icmp .ge 16, 3, [25])]),
  (12, [(.aload_n 0, 1, []), (.getfield 21, 3, [8, 3, 2, 176, 0]), (.iload_n 2, 1, []), (.iconst 0, 1, []), (.iastore, 1, []), (.iinc 2 1, 3, []), (.goto (-15), 3, [7])]),
  (25, [(.return_, 1, [])])]
set_option maxRecDepth 100000 in
theorem ok_63 : chkM 63 seg_63 = true := by decide +kernel
-- State_begin
def seg_64 : SegL := [
  (0, [(.aload_n 0, 1, []), (.aload_n 1, 1, []), (.getfield 24, 3, [0, 1, 2, 365, 1]), (.getfield 30, 3, [4, 2, 0, 328, 1]), (.putfield 36, 3, [8, 7, 0, 187, 0, 0]), (.iconst 0, 1, []), (.istore_n 2, 1, [])]),
  (13, [(.iload_n 2, 1, []), (.iconst 5, 1, []), (.if_icmp .ge 40, 3, [55])]),
  (18, [(.aload_n 0, 1, []), (.getfield 9, 3, [8, 0, 2, 165, 0]), (.iload_n 2, 1, []), (.aload_n 1, 1, []), (.getfield 38, 3, [0, 6, 2, 387, 1]), (.iload_n 2, 1, []), (.iaload, 1, []), (.iastore, 1, []), (.aload_n 0, 1, []), (.getfield 15, 3, [8, 1, 2, 169, 0]), (.iload_n 2, 1, []), (.aload_n 1, 1, []), (.getfield 39, 3, [0, 5, 2, 384, 1]), (.iload_n 2, 1, []), (.iaload, 1, []), (.iastore, 1, []), (.aload_n 0, 1, []), (.getfield 18, 3, [8, 2, 2, 172, 0]), (.iload_n 2, 1, []), (.iconst 0, 1, []), (.iastore, 1, []), (.iinc 2 1, 3, []), (.goto (-39), 3, [13])]),
  (55, [(.aload_n 0, 1, []), (.aload_n 1, 1, []), (.getfield 40, 3, [0, 18, 0, 430, 1]), (.putfield 43, 3, [8, 6, 0, 185, 0, 0]), (.aload_n 0, 1, []), (.iconst 0, 1, []), (.putfield 46, 3, [8, 5, 0, 182, 0, 0]), (.aload_n 0, 1, []), (.iconst 0, 1, []), (.invokevirtual 49, 3, [63, 2, 884, 0, 3, 0, 0, 0, 0, 8])]),
  (73, [(.return_, 1, [])])]
set_option maxRecDepth 100000 in
theorem ok_64 : chkM 64 seg_64 = true := by decide +kernel
-- Notes_clear
def seg_65 : SegL := [
  (0, [(.aload_n 0, 1, []), (.iconst 0, 1, []), (.putfield 35, 3, [5, 6, 0, 238, 0, 0]), (.aload_n 0, 1, []), (.iconst (-1), 1, []), (.putfield 31, 3, [5, 7, 0, 240, 0, 0]), (.return_, 1, [])])]
set_option maxRecDepth 100000 in
theorem ok_65 : chkM 65 seg_65 = true := by decide +kernel
-- History_clear
def seg_66 : SegL := [
  (0, [(.aload_n 0, 1, []), (.iconst 0, 1, []), (.putfield 18, 3, [1, 2, 0, 217, 0, 0]), (.return_, 1, [])])]
set_option maxRecDepth 100000 in
theorem ok_66 : chkM 66 seg_66 = true := by decide +kernel
-- AC_text
def seg_67 : SegL := [
  (0, [(.iload_n 1, 1, []), (.ifCond .lt 11, 3, [12])]),
  (4, [(.iload_n 1, 1, []), (.aload_n 0, 1, []), (.getfield 79, 3, [11, 11, 0, 665, 0]), (.if_icmp .le 6, 3, [15])]),
  (12, [(.bipush (-2), 2, []), (.ireturn, 1, [0])]),
  (15, [(.aload_n 0, 1, []), (.iconst 0, 1, []), (.putfield 79, 3, [11, 11, 0, 665, 0, 0]), (.aload_n 0, 1, []), (.aload_n 0, 1, []), (.getfield 62, 3, [11, 9, 2, 663, 0]), (.aload_n 0, 1, []), (.getfield 54, 3, [11, 8, 2, 662, 0]), (.iload_n 1, 1, []), (.invokevirtual 86, 3, [61, 3, 712, 0, 4, 0, 0, 0, 0, 9])]),
  (33, [(.putfield 90, 3, [11, 12, 0, 666, 0, 0]), (.aload_n 0, 1, []), (.aload_n 0, 1, []), (.getfield 90, 3, [11, 12, 0, 666, 0]), (.ifCond .ne 7, 3, [48])]),
  (44, [(.iconst (-1), 1, []), (.goto 10, 3, [55])]),
  (48, [(.aload_n 0, 1, []), (.getfield 62, 3, [11, 9, 2, 663, 0]), (.invokevirtual 93, 3, [62, 1, 876, 0, 1, 0, 0, 0, 0, 9])]),
  (55, [(.putfield 75, 3, [11, 13, 0, 667, 0, 0]), (.aload_n 0, 1, []), (.getfield 90, 3, [11, 12, 0, 666, 0]), (.ifCond .eq 5, 3, [67])]),
  (65, [(.iconst (-1), 1, []), (.ireturn, 1, [0])]),
  (67, [(.aload_n 0, 1, []), (.getfield 54, 3, [11, 8, 2, 662, 0]), (.astore_n 2, 1, []), (.aload_n 0, 1, []), (.aload_n 0, 1, []), (.getfield 50, 3, [11, 7, 2, 661, 0]), (.putfield 54, 3, [11, 8, 2, 662, 0, 0]), (.aload_n 0, 1, []), (.aload_n 2, 1, []), (.putfield 50, 3, [11, 7, 2, 661, 0, 0]), (.aload_n 0, 1, []), (.getfield 16, 3, [11, 1, 2, 655, 0]), (.aload_n 0, 1, []), (.getfield 50, 3, [11, 7, 2, 661, 0]), (.invokevirtual 97, 3, [64, 2, 880, 0, 3, 0, 0, 0, 0, 8])]),
  (96, [(.aload_n 0, 1, []), (.getfield 33, 3, [11, 4, 2, 658, 0]), (.invokevirtual 100, 3, [65, 1, 888, 0, 1, 0, 0, 0, 0, 5])]),
  (103, [(.aload_n 0, 1, []), (.getfield 26, 3, [11, 3, 2, 657, 0]), (.invokevirtual 103, 3, [66, 1, 892, 0, 1, 0, 0, 0, 0, 1])]),
  (110, [(.aload_n 0, 1, []), (.iconst 0, 1, []), (.putfield 104, 3, [11, 14, 3, 668, 0, 0]), (.aload_n 0, 1, []), (.getfield 62, 3, [11, 9, 2, 663, 0]), (.getfield 108, 3, [9, 5, 0, 599, 1]), (.ireturn, 1, [0])])]
set_option maxRecDepth 100000 in
theorem ok_67 : chkM 67 seg_67 = true := by decide +kernel
-- MD_isSmall
def seg_68 : SegL := [
  (0, [(.iload_n 1, 1, []), (.aload_n 0, 1, []), (.getfield 160, 3, [12, 6, 0, 1412, 0]), (.if_icmp .ge 29, 3, [34])]),
  (8, [(.aload_n 0, 1, []), (.getfield 7, 3, [12, 0, 2, 1406, 0]), (.iload_n 1, 1, []), (.iaload, 1, []), (.bipush 97, 2, []), (.if_icmp .lt 18, 3, [34])]),
  (19, [(.aload_n 0, 1, []), (.getfield 7, 3, [12, 0, 2, 1406, 0]), (.iload_n 1, 1, []), (.iaload, 1, []), (.bipush 122, 2, []), (.if_icmp .gt 7, 3, [34])]),
  (30, [(.iconst 1, 1, []), (.goto 4, 3, [35])]),
  (34, [(.iconst 0, 1, [])]),
  (35, [(.ireturn, 1, [3])])]
set_option maxRecDepth 100000 in
theorem ok_68 : chkM 68 seg_68 = true := by decide +kernel
-- MD_wordAt
def seg_69 : SegL := [
  (0, [(.iconst 0, 1, []), (.istore_n 3, 1, []), (.iconst 0, 1, []), (.istore 4, 2, [])]),
  (5, [(.iload 4, 2, []), (.aload_n 0, 1, []), (.getfield 13, 3, [12, 3, 2, 1409, 0]), (.arraylength, 1, []), (.if_icmp .ge 114, 3, [126])]),
  (15, [(.iconst 0, 1, []), (.istore 5, 2, [])]),
  (18, [(.aload_n 0, 1, []), (.getfield 13, 3, [12, 3, 2, 1409, 0]), (.iload 4, 2, []), (.iload 5, 2, []), (.iadd, 1, []), (.iaload, 1, []), (.bipush 32, 2, []), (.if_icmp .eq 9, 3, [39])]),
  (33, [(.iinc 5 1, 3, []), (.goto (-18), 3, [18])]),
  (39, [(.iload 5, 2, []), (.iload_n 2, 1, []), (.iload_n 1, 1, []), (.isub, 1, []), (.if_icmp .ne 7, 3, [51])]),
  (47, [(.iconst 1, 1, []), (.goto 4, 3, [52])]),
  (51, [(.iconst 0, 1, [])]),
  (52, [(.istore 6, 2, []), (.iconst 0, 1, []), (.istore 7, 2, [])]),
  (57, [(.iload 7, 2, []), (.iload 5, 2, []), (.if_icmp .ge 43, 3, [104])]),
  (64, [(.iload 6, 2, []), (.ifCond .eq 38, 3, [104])]),
  (69, [(.aload_n 0, 1, []), (.getfield 13, 3, [12, 3, 2, 1409, 0]), (.iload 4, 2, []), (.iload 7, 2, []), (.iadd, 1, []), (.iaload, 1, []), (.aload_n 0, 1, []), (.getfield 7, 3, [12, 0, 2, 1406, 0]), (.iload_n 1, 1, []), (.iload 7, 2, []), (.iadd, 1, []), (.iaload, 1, []), (.if_icmp .ne 7, 3, [95])]),
  (91, [(.iconst 1, 1, []), (.goto 4, 3, [96])]),
  (95, [(.iconst 0, 1, [])]),
  (96, [(.istore 6, 2, []), (.iinc 7 1, 3, []), (.goto (-44), 3, [57])]),
  (104, [(.iload 6, 2, []), (.ifCond .eq 5, 3, [111])]),
  (109, [(.iload_n 3, 1, []), (.ireturn, 1, [0])]),
  (111, [(.iload 4, 2, []), (.iload 5, 2, []), (.iconst 1, 1, []), (.iadd, 1, []), (.iadd, 1, []), (.istore 4, 2, []), (.iinc 3 1, 3, []), (.goto (-118), 3, [5])]),
  (126, [(.iconst (-1), 1, []), (.ireturn, 1, [0])])]
set_option maxRecDepth 100000 in
theorem ok_69 : chkM 69 seg_69 = true := by decide +kernel
-- MD_packed
def seg_70 : SegL := [
  (0, [(.iconst 0, 1, []), (.istore_n 3, 1, []), (.iload_n 1, 1, []), (.istore 4, 2, [])]),
  (5, [(.iload 4, 2, []), (.iload_n 1, 1, []), (.bipush 6, 2, []), (.iadd, 1, []), (.if_icmp .ge 34, 3, [45])]),
  (14, [(.iload_n 3, 1, []), (.iconst 5, 1, []), (.ishl, 1, []), (.iload 4, 2, []), (.iload_n 2, 1, []), (.if_icmp .ge 16, 3, [36])]),
  (23, [(.aload_n 0, 1, []), (.getfield 7, 3, [12, 0, 2, 1406, 0]), (.iload 4, 2, []), (.iaload, 1, []), (.bipush 96, 2, []), (.isub, 1, []), (.goto 4, 3, [37])]),
  (36, [(.iconst 0, 1, [])]),
  (37, [(.ior, 1, []), (.istore_n 3, 1, []), (.iinc 4 1, 3, []), (.goto (-37), 3, [5])]),
  (45, [(.iload_n 3, 1, []), (.ireturn, 1, [0])])]
set_option maxRecDepth 100000 in
theorem ok_70 : chkM 70 seg_70 = true := by decide +kernel
-- MD_isDigit
def seg_71 : SegL := [
  (0, [(.iload_n 1, 1, []), (.aload_n 0, 1, []), (.getfield 160, 3, [12, 6, 0, 1412, 0]), (.if_icmp .ge 29, 3, [34])]),
  (8, [(.aload_n 0, 1, []), (.getfield 7, 3, [12, 0, 2, 1406, 0]), (.iload_n 1, 1, []), (.iaload, 1, []), (.bipush 48, 2, []), (.if_icmp .lt 18, 3, [34])]),
  (19, [(.aload_n 0, 1, []), (.getfield 7, 3, [12, 0, 2, 1406, 0]), (.iload_n 1, 1, []), (.iaload, 1, []), (.bipush 57, 2, []), (.if_icmp .gt 7, 3, [34])]),
  (30, [(.iconst 1, 1, []), (.goto 4, 3, [35])]),
  (34, [(.iconst 0, 1, [])]),
  (35, [(.ireturn, 1, [3])])]
set_option maxRecDepth 100000 in
theorem ok_71 : chkM 71 seg_71 = true := by decide +kernel
-- MD_signToken
def seg_72_0 : SegL := [
  (0, [(.aload_n 0, 1, []), (.aload_n 0, 1, []), (.getfield 7, 3, [12, 0, 2, 1406, 0]), (.aload_n 0, 1, []), (.getfield 163, 3, [12, 7, 0, 1413, 0]), (.iaload, 1, []), (.putfield 177, 3, [12, 9, 0, 1415, 0, 0]), (.aload_n 0, 1, []), (.dup, 1, []), (.getfield 163, 3, [12, 7, 0, 1413, 0]), (.iconst 1, 1, []), (.iadd, 1, []), (.putfield 163, 3, [12, 7, 0, 1413, 0, 0]), (.aload_n 0, 1, []), (.getfield 177, 3, [12, 9, 0, 1415, 0]), (.bipush 60, 2, []), (.if_icmp .eq 21, 3, [50])]),
  (32, [(.aload_n 0, 1, []), (.getfield 177, 3, [12, 9, 0, 1415, 0]), (.bipush 62, 2, []), (.if_icmp .eq 12, 3, [50])]),
  (41, [(.aload_n 0, 1, []), (.getfield 177, 3, [12, 9, 0, 1415, 0]), (.bipush 61, 2, []), (.if_icmp .ne 151, 3, [198])]),
  (50, [(.aload_n 0, 1, []), (.getfield 163, 3, [12, 7, 0, 1413, 0]), (.aload_n 0, 1, []), (.getfield 160, 3, [12, 6, 0, 1412, 0]), (.if_icmp .ge 15, 3, [73])]),
  (61, [(.aload_n 0, 1, []), (.getfield 7, 3, [12, 0, 2, 1406, 0]), (.aload_n 0, 1, []), (.getfield 163, 3, [12, 7, 0, 1413, 0]), (.iaload, 1, []), (.goto 4, 3, [74])]),
  (73, [(.iconst 0, 1, [])]),
  (74, [(.istore_n 1, 1, []), (.aload_n 0, 1, []), (.getfield 177, 3, [12, 9, 0, 1415, 0]), (.bipush 61, 2, []), (.if_icmp .eq 13, 3, [94])]),
  (84, [(.iload_n 1, 1, []), (.bipush 61, 2, []), (.if_icmp .ne 7, 3, [94])]),
  (90, [(.iconst 1, 1, []), (.goto 4, 3, [95])]),
  (94, [(.iconst 0, 1, [])])]
set_option maxRecDepth 100000 in
theorem seg_72_0_ok : chkM 72 seg_72_0 = true := by decide +kernel
def seg_72_1 : SegL := [
  (95, [(.istore_n 2, 1, []), (.aload_n 0, 1, []), (.getfield 177, 3, [12, 9, 0, 1415, 0]), (.bipush 60, 2, []), (.if_icmp .ne 13, 3, [115])]),
  (105, [(.iload_n 1, 1, []), (.bipush 62, 2, []), (.if_icmp .ne 7, 3, [115])]),
  (111, [(.iconst 1, 1, []), (.goto 4, 3, [116])]),
  (115, [(.iconst 0, 1, [])]),
  (116, [(.istore_n 3, 1, []), (.iload_n 2, 1, []), (.ifCond .ne 7, 3, [125])]),
  (121, [(.iload_n 3, 1, []), (.ifCond .eq 13, 3, [135])]),
  (125, [(.aload_n 0, 1, []), (.dup, 1, []), (.getfield 163, 3, [12, 7, 0, 1413, 0]), (.iconst 1, 1, []), (.iadd, 1, []), (.putfield 163, 3, [12, 7, 0, 1413, 0, 0])]),
  (135, [(.aload_n 0, 1, []), (.iconst 5, 1, []), (.putfield 166, 3, [12, 8, 0, 1414, 0, 0]), (.aload_n 0, 1, []), (.aload_n 0, 1, []), (.getfield 177, 3, [12, 9, 0, 1415, 0]), (.bipush 61, 2, []), (.if_icmp .ne 7, 3, [154])]),
  (150, [(.iconst 2, 1, []), (.goto 41, 3, [192])]),
  (154, [(.aload_n 0, 1, []), (.getfield 177, 3, [12, 9, 0, 1415, 0]), (.bipush 60, 2, []), (.if_icmp .ne 23, 3, [183])]),
  (163, [(.iload_n 2, 1, []), (.ifCond .eq 7, 3, [171])]),
  (167, [(.iconst 1, 1, []), (.goto 24, 3, [192])]),
  (171, [(.iload_n 3, 1, []), (.ifCond .eq 7, 3, [179])]),
  (175, [(.iconst 3, 1, []), (.goto 16, 3, [192])]),
  (179, [(.iconst 0, 1, []), (.goto 12, 3, [192])]),
  (183, [(.iload_n 2, 1, []), (.ifCond .eq 7, 3, [191])]),
  (187, [(.iconst 4, 1, []), (.goto 4, 3, [192])])]
set_option maxRecDepth 100000 in
theorem seg_72_1_ok : chkM 72 seg_72_1 = true := by decide +kernel
def seg_72_2 : SegL := [
  (191, [(.iconst 5, 1, [])]),
  (192, [(.putfield 177, 3, [12, 9, 0, 1415, 0, 0]), (.goto 95, 3, [290])]),
  (198, [(.aload_n 0, 1, []), (.getfield 177, 3, [12, 9, 0, 1415, 0]), (.bipush 59, 2, []), (.if_icmp .eq 66, 3, [270])]),
  (207, [(.aload_n 0, 1, []), (.getfield 177, 3, [12, 9, 0, 1415, 0]), (.bipush 40, 2, []), (.if_icmp .eq 57, 3, [270])]),
  (216, [(.aload_n 0, 1, []), (.getfield 177, 3, [12, 9, 0, 1415, 0]), (.bipush 41, 2, []), (.if_icmp .eq 48, 3, [270])]),
  (225, [(.aload_n 0, 1, []), (.getfield 177, 3, [12, 9, 0, 1415, 0]), (.bipush 43, 2, []), (.if_icmp .eq 39, 3, [270])]),
  (234, [(.aload_n 0, 1, []), (.getfield 177, 3, [12, 9, 0, 1415, 0]), (.bipush 45, 2, []), (.if_icmp .eq 30, 3, [270])]),
  (243, [(.aload_n 0, 1, []), (.getfield 177, 3, [12, 9, 0, 1415, 0]), (.bipush 42, 2, []), (.if_icmp .eq 21, 3, [270])]),
  (252, [(.aload_n 0, 1, []), (.getfield 177, 3, [12, 9, 0, 1415, 0]), (.bipush 47, 2, []), (.if_icmp .eq 12, 3, [270])]),
  (261, [(.aload_n 0, 1, []), (.getfield 177, 3, [12, 9, 0, 1415, 0]), (.bipush 37, 2, []), (.if_icmp .ne 7, 3, [274])]),
  (270, [(.iconst 1, 1, []), (.goto 4, 3, [275])]),
  (274, [(.iconst 0, 1, [])]),
  (275, [(.istore_n 1, 1, []), (.aload_n 0, 1, []), (.iload_n 1, 1, []), (.ifCond .eq 7, 3, [285])]),
  (281, [(.iconst 4, 1, []), (.goto 5, 3, [287])]),
  (285, [(.bipush 6, 2, [])]),
  (287, [(.putfield 166, 3, [12, 8, 0, 1414, 0, 0])]),
  (290, [(.return_, 1, [])])]
set_option maxRecDepth 100000 in
theorem seg_72_2_ok : chkM 72 seg_72_2 = true := by decide +kernel
def seg_72 : SegL := seg_72_0 ++ (seg_72_1 ++ (seg_72_2))
theorem ok_72 : chkM 72 seg_72 = true := (chkM_app _ _ _ seg_72_0_ok (chkM_app _ _ _ seg_72_1_ok seg_72_2_ok))
-- MD_token
def seg_73_0 : SegL := [
  (0, [(.aload_n 0, 1, []), (.getfield 163, 3, [12, 7, 0, 1413, 0]), (.aload_n 0, 1, []), (.getfield 160, 3, [12, 6, 0, 1412, 0]), (.if_icmp .ge 44, 3, [52])]),
  (11, [(.aload_n 0, 1, []), (.getfield 7, 3, [12, 0, 2, 1406, 0]), (.aload_n 0, 1, []), (.getfield 163, 3, [12, 7, 0, 1413, 0]), (.iaload, 1, []), (.bipush 10, 2, []), (.if_icmp .eq 17, 3, [39])]),
  (25, [(.aload_n 0, 1, []), (.getfield 7, 3, [12, 0, 2, 1406, 0]), (.aload_n 0, 1, []), (.getfield 163, 3, [12, 7, 0, 1413, 0]), (.iaload, 1, []), (.bipush 32, 2, []), (.if_icmp .ne 16, 3, [52])]),
  (39, [(.aload_n 0, 1, []), (.dup, 1, []), (.getfield 163, 3, [12, 7, 0, 1413, 0]), (.iconst 1, 1, []), (.iadd, 1, []), (.putfield 163, 3, [12, 7, 0, 1413, 0, 0]), (.goto (-49), 3, [0])]),
  (52, [(.aload_n 0, 1, []), (.aload_n 0, 1, []), (.getfield 163, 3, [12, 7, 0, 1413, 0]), (.putfield 157, 3, [12, 10, 0, 1416, 0, 0]), (.aload_n 0, 1, []), (.getfield 163, 3, [12, 7, 0, 1413, 0]), (.aload_n 0, 1, []), (.getfield 160, 3, [12, 6, 0, 1412, 0]), (.if_icmp .ne 11, 3, [79])]),
  (71, [(.aload_n 0, 1, []), (.iconst 0, 1, []), (.putfield 166, 3, [12, 8, 0, 1414, 0, 0]), (.goto 205, 3, [281])]),
  (79, [(.aload_n 0, 1, []), (.aload_n 0, 1, []), (.getfield 163, 3, [12, 7, 0, 1413, 0]), (.invokevirtual 169, 3, [68, 2, 1666, 0, 2, 0, 0, 0, 0, 12])]),
  (87, [(.ifCond .eq 105, 3, [192])]),
  (90, [(.aload_n 0, 1, []), (.aload_n 0, 1, []), (.getfield 163, 3, [12, 7, 0, 1413, 0]), (.invokevirtual 169, 3, [68, 2, 1666, 0, 2, 0, 0, 0, 0, 12])]),
  (98, [(.ifCond .eq 16, 3, [114])])]
set_option maxRecDepth 100000 in
theorem seg_73_0_ok : chkM 73 seg_73_0 = true := by decide +kernel
def seg_73_1 : SegL := [
  (101, [(.aload_n 0, 1, []), (.dup, 1, []), (.getfield 163, 3, [12, 7, 0, 1413, 0]), (.iconst 1, 1, []), (.iadd, 1, []), (.putfield 163, 3, [12, 7, 0, 1413, 0, 0]), (.goto (-21), 3, [90])]),
  (114, [(.aload_n 0, 1, []), (.aload_n 0, 1, []), (.aload_n 0, 1, []), (.getfield 157, 3, [12, 10, 0, 1416, 0]), (.aload_n 0, 1, []), (.getfield 163, 3, [12, 7, 0, 1413, 0]), (.invokevirtual 173, 3, [69, 3, 1670, 0, 8, 0, 0, 0, 0, 12])]),
  (127, [(.putfield 177, 3, [12, 9, 0, 1415, 0, 0]), (.aload_n 0, 1, []), (.aload_n 0, 1, []), (.getfield 177, 3, [12, 9, 0, 1415, 0]), (.ifCond .lt 7, 3, [142])]),
  (138, [(.iconst 1, 1, []), (.goto 23, 3, [162])]),
  (142, [(.aload_n 0, 1, []), (.getfield 163, 3, [12, 7, 0, 1413, 0]), (.aload_n 0, 1, []), (.getfield 157, 3, [12, 10, 0, 1416, 0]), (.isub, 1, []), (.bipush 6, 2, []), (.if_icmp .le 8, 3, [161])]),
  (156, [(.bipush 6, 2, []), (.goto 4, 3, [162])]),
  (161, [(.iconst 2, 1, [])]),
  (162, [(.putfield 166, 3, [12, 8, 0, 1414, 0, 0]), (.aload_n 0, 1, []), (.getfield 166, 3, [12, 8, 0, 1414, 0]), (.iconst 2, 1, []), (.if_icmp .ne 111, 3, [281])]),
  (173, [(.aload_n 0, 1, []), (.aload_n 0, 1, []), (.aload_n 0, 1, []), (.getfield 157, 3, [12, 10, 0, 1416, 0]), (.aload_n 0, 1, []), (.getfield 163, 3, [12, 7, 0, 1413, 0]), (.invokevirtual 180, 3, [70, 3, 1674, 0, 5, 0, 0, 0, 0, 12])]),
  (186, [(.putfield 177, 3, [12, 9, 0, 1415, 0, 0]), (.goto 92, 3, [281])]),
  (192, [(.aload_n 0, 1, []), (.aload_n 0, 1, []), (.getfield 163, 3, [12, 7, 0, 1413, 0]), (.invokevirtual 183, 3, [71, 2, 1678, 0, 2, 0, 0, 0, 0, 12])]),
  (200, [(.ifCond .eq 77, 3, [277])])]
set_option maxRecDepth 100000 in
theorem seg_73_1_ok : chkM 73 seg_73_1 = true := by decide +kernel
def seg_73_2 : SegL := [
  (203, [(.aload_n 0, 1, []), (.iconst 3, 1, []), (.putfield 166, 3, [12, 8, 0, 1414, 0, 0]), (.aload_n 0, 1, []), (.iconst 0, 1, []), (.putfield 177, 3, [12, 9, 0, 1415, 0, 0])]),
  (213, [(.aload_n 0, 1, []), (.aload_n 0, 1, []), (.getfield 163, 3, [12, 7, 0, 1413, 0]), (.invokevirtual 183, 3, [71, 2, 1678, 0, 2, 0, 0, 0, 0, 12])]),
  (221, [(.ifCond .eq 60, 3, [281])]),
  (224, [(.aload_n 0, 1, []), (.aload_n 0, 1, []), (.getfield 177, 3, [12, 9, 0, 1415, 0]), (.ldc 186, 2, [99999, 1682]), (.if_icmp .le 10, 3, [241])]),
  (234, [(.aload_n 0, 1, []), (.getfield 177, 3, [12, 9, 0, 1415, 0]), (.goto 23, 3, [261])]),
  (241, [(.bipush 10, 2, []), (.aload_n 0, 1, []), (.getfield 177, 3, [12, 9, 0, 1415, 0]), (.imul, 1, []), (.aload_n 0, 1, []), (.getfield 7, 3, [12, 0, 2, 1406, 0]), (.aload_n 0, 1, []), (.getfield 163, 3, [12, 7, 0, 1413, 0]), (.iaload, 1, []), (.iadd, 1, []), (.bipush 48, 2, []), (.isub, 1, [])]),
  (261, [(.putfield 177, 3, [12, 9, 0, 1415, 0, 0]), (.aload_n 0, 1, []), (.dup, 1, []), (.getfield 163, 3, [12, 7, 0, 1413, 0]), (.iconst 1, 1, []), (.iadd, 1, []), (.putfield 163, 3, [12, 7, 0, 1413, 0, 0]), (.goto (-61), 3, [213])]),
  (277, [(.aload_n 0, 1, []), (.invokevirtual 187, 3, [72, 1, 1683, 0, 4, 0, 0, 0, 0, 12])]),
  (281, [(.return_, 1, [])])]
set_option maxRecDepth 100000 in
theorem seg_73_2_ok : chkM 73 seg_73_2 = true := by decide +kernel
def seg_73 : SegL := seg_73_0 ++ (seg_73_1 ++ (seg_73_2))
theorem ok_73 : chkM 73 seg_73 = true := (chkM_app _ _ _ seg_73_0_ok (chkM_app _ _ _ seg_73_1_ok seg_73_2_ok))
-- MD_wrong
def seg_74 : SegL := [
  (0, [(.aload_n 0, 1, []), (.iload_n 1, 1, []), (.putfield 154, 3, [12, 4, 0, 1410, 0, 0]), (.aload_n 0, 1, []), (.aload_n 0, 1, []), (.getfield 157, 3, [12, 10, 0, 1416, 0]), (.putfield 16, 3, [12, 5, 0, 1411, 0, 0]), (.iconst 0, 1, []), (.ireturn, 1, [3])])]
set_option maxRecDepth 100000 in
theorem ok_74 : chkM 74 seg_74 = true := by decide +kernel
-- MD_find
def seg_75 : SegL := [
  (0, [(.iconst 0, 1, []), (.istore 4, 2, [])]),
  (3, [(.iload 4, 2, []), (.iload_n 2, 1, []), (.if_icmp .ge 22, 3, [28])]),
  (9, [(.aload_n 0, 1, []), (.iload_n 1, 1, []), (.iload 4, 2, []), (.iadd, 1, []), (.iaload, 1, []), (.iload_n 3, 1, []), (.if_icmp .ne 6, 3, [22])]),
  (19, [(.iload 4, 2, []), (.ireturn, 1, [0])]),
  (22, [(.iinc 4 1, 3, []), (.goto (-22), 3, [3])]),
  (28, [(.iconst (-1), 1, []), (.ireturn, 1, [0])])]
set_option maxRecDepth 100000 in
theorem ok_75 : chkM 75 seg_75 = true := by decide +kernel
-- MD_newName
def seg_76 : SegL := [
  (0, [(.aload_n 0, 1, []), (.getfield 166, 3, [12, 8, 0, 1414, 0]), (.iconst 2, 1, []), (.if_icmp .eq 9, 3, [14])]),
  (8, [(.aload_n 0, 1, []), (.iconst 1, 1, []), (.invokevirtual 190, 3, [74, 2, 1691, 0, 2, 0, 0, 0, 0, 12])]),
  (13, [(.ireturn, 1, [3])]),
  (14, [(.aload_n 1, 1, []), (.iload_n 2, 1, []), (.iload_n 3, 1, []), (.aload_n 0, 1, []), (.getfield 177, 3, [12, 9, 0, 1415, 0]), (.invokestatic 250, 3, [75, 4, 1703, 0, 5, 0, 0, 0, 0, 12])]),
  (24, [(.ifCond .lt 9, 3, [33])]),
  (27, [(.aload_n 0, 1, []), (.iconst 3, 1, []), (.invokevirtual 190, 3, [74, 2, 1691, 0, 2, 0, 0, 0, 0, 12])]),
  (32, [(.ireturn, 1, [3])]),
  (33, [(.aload_n 1, 1, []), (.iload_n 2, 1, []), (.iload_n 3, 1, []), (.iadd, 1, []), (.aload_n 0, 1, []), (.getfield 177, 3, [12, 9, 0, 1415, 0]), (.iastore, 1, []), (.aload_n 0, 1, []), (.invokevirtual 200, 3, [73, 1, 1662, 0, 1, 0, 0, 0, 0, 12])]),
  (46, [(.iconst 1, 1, []), (.ireturn, 1, [3])])]
set_option maxRecDepth 100000 in
theorem ok_76 : chkM 76 seg_76 = true := by decide +kernel
-- MD_factLine
def seg_77 : SegL := [
  (0, [(.aload_n 0, 1, []), (.getfield 210, 3, [12, 17, 0, 1423, 0]), (.bipush 8, 2, []), (.if_icmp .ne 9, 3, [15])]),
  (9, [(.aload_n 0, 1, []), (.iconst 2, 1, []), (.invokevirtual 190, 3, [74, 2, 1691, 0, 2, 0, 0, 0, 0, 12])]),
  (14, [(.ireturn, 1, [3])]),
  (15, [(.aload_n 0, 1, []), (.invokevirtual 200, 3, [73, 1, 1662, 0, 1, 0, 0, 0, 0, 12])]),
  (19, [(.aload_n 0, 1, []), (.aload_n 0, 1, []), (.getfield 27, 3, [12, 24, 2, 1430, 0]), (.bipush 8, 2, []), (.aload_n 0, 1, []), (.getfield 210, 3, [12, 17, 0, 1423, 0]), (.invokevirtual 261, 3, [76, 4, 1699, 0, 4, 0, 0, 0, 0, 12])]),
  (33, [(.ifCond .ne 5, 3, [38])]),
  (36, [(.iconst 0, 1, []), (.ireturn, 1, [3])]),
  (38, [(.aload_n 0, 1, []), (.dup, 1, []), (.getfield 210, 3, [12, 17, 0, 1423, 0]), (.iconst 1, 1, []), (.iadd, 1, []), (.putfield 210, 3, [12, 17, 0, 1423, 0, 0]), (.iconst 1, 1, []), (.ireturn, 1, [3])])]
set_option maxRecDepth 100000 in
theorem ok_77 : chkM 77 seg_77 = true := by decide +kernel
-- MD_isIn
def seg_78 : SegL := [
  (0, [(.iload_n 0, 1, []), (.iload_n 1, 1, []), (.if_icmp .lt 12, 3, [14])]),
  (5, [(.iload_n 0, 1, []), (.iload_n 2, 1, []), (.if_icmp .gt 7, 3, [14])]),
  (10, [(.iconst 1, 1, []), (.goto 4, 3, [15])]),
  (14, [(.iconst 0, 1, [])]),
  (15, [(.ireturn, 1, [3])])]
set_option maxRecDepth 100000 in
theorem ok_78 : chkM 78 seg_78 = true := by decide +kernel
-- MD_number
def seg_79 : SegL := [
  (0, [(.aload_n 0, 1, []), (.getfield 166, 3, [12, 8, 0, 1414, 0]), (.iconst 3, 1, []), (.if_icmp .eq 9, 3, [14])]),
  (8, [(.aload_n 0, 1, []), (.iconst 1, 1, []), (.invokevirtual 190, 3, [74, 2, 1691, 0, 2, 0, 0, 0, 0, 12])]),
  (13, [(.ireturn, 1, [3])]),
  (14, [(.aload_n 0, 1, []), (.getfield 177, 3, [12, 9, 0, 1415, 0]), (.iload_n 1, 1, []), (.iload_n 2, 1, []), (.invokestatic 193, 3, [78, 3, 1714, 0, 3, 0, 0, 0, 0, 12])]),
  (23, [(.ifCond .ne 9, 3, [32])]),
  (26, [(.aload_n 0, 1, []), (.iconst 2, 1, []), (.invokevirtual 190, 3, [74, 2, 1691, 0, 2, 0, 0, 0, 0, 12])]),
  (31, [(.ireturn, 1, [3])]),
  (32, [(.aload_n 0, 1, []), (.aload_n 0, 1, []), (.getfield 177, 3, [12, 9, 0, 1415, 0]), (.putfield 197, 3, [12, 11, 0, 1417, 0, 0]), (.aload_n 0, 1, []), (.invokevirtual 200, 3, [73, 1, 1662, 0, 1, 0, 0, 0, 0, 12])]),
  (44, [(.iconst 1, 1, []), (.ireturn, 1, [3])])]
set_option maxRecDepth 100000 in
theorem ok_79 : chkM 79 seg_79 = true := by decide +kernel
-- MD_personLine
def seg_80 : SegL := [
  (0, [(.aload_n 0, 1, []), (.getfield 213, 3, [12, 18, 0, 1424, 0]), (.iconst 5, 1, []), (.if_icmp .ne 9, 3, [14])]),
  (8, [(.aload_n 0, 1, []), (.iconst 2, 1, []), (.invokevirtual 190, 3, [74, 2, 1691, 0, 2, 0, 0, 0, 0, 12])]),
  (13, [(.ireturn, 1, [3])]),
  (14, [(.aload_n 0, 1, []), (.invokevirtual 200, 3, [73, 1, 1662, 0, 1, 0, 0, 0, 0, 12])]),
  (18, [(.aload_n 0, 1, []), (.aload_n 0, 1, []), (.getfield 30, 3, [12, 25, 2, 1431, 0]), (.iconst 5, 1, []), (.aload_n 0, 1, []), (.getfield 213, 3, [12, 18, 0, 1424, 0]), (.invokevirtual 261, 3, [76, 4, 1699, 0, 4, 0, 0, 0, 0, 12])]),
  (31, [(.ifCond .ne 5, 3, [36])]),
  (34, [(.iconst 0, 1, []), (.ireturn, 1, [3])]),
  (36, [(.iconst 5, 1, []), (.aload_n 0, 1, []), (.getfield 213, 3, [12, 18, 0, 1424, 0]), (.iadd, 1, []), (.istore_n 1, 1, []), (.aload_n 0, 1, []), (.iconst 0, 1, []), (.bipush 9, 2, []), (.invokevirtual 206, 3, [79, 3, 1710, 0, 3, 0, 0, 0, 0, 12])]),
  (50, [(.ifCond .ne 5, 3, [55])]),
  (53, [(.iconst 0, 1, []), (.ireturn, 1, [3])]),
  (55, [(.aload_n 0, 1, []), (.getfield 33, 3, [12, 26, 2, 1432, 0]), (.iload_n 1, 1, []), (.aload_n 0, 1, []), (.getfield 197, 3, [12, 11, 0, 1417, 0]), (.iastore, 1, []), (.aload_n 0, 1, []), (.iconst 0, 1, []), (.bipush 9, 2, []), (.invokevirtual 206, 3, [79, 3, 1710, 0, 3, 0, 0, 0, 0, 12])]),
  (72, [(.ifCond .ne 5, 3, [77])]),
  (75, [(.iconst 0, 1, []), (.ireturn, 1, [3])]),
  (77, [(.aload_n 0, 1, []), (.getfield 36, 3, [12, 27, 2, 1433, 0]), (.iload_n 1, 1, []), (.aload_n 0, 1, []), (.getfield 197, 3, [12, 11, 0, 1417, 0]), (.iastore, 1, []), (.aload_n 0, 1, []), (.iconst 0, 1, []), (.iconst 3, 1, []), (.invokevirtual 206, 3, [79, 3, 1710, 0, 3, 0, 0, 0, 0, 12])]),
  (93, [(.ifCond .ne 5, 3, [98])]),
  (96, [(.iconst 0, 1, []), (.ireturn, 1, [3])]),
  (98, [(.aload_n 0, 1, []), (.getfield 39, 3, [12, 28, 2, 1434, 0]), (.iload_n 1, 1, []), (.aload_n 0, 1, []), (.getfield 197, 3, [12, 11, 0, 1417, 0]), (.iastore, 1, []), (.aload_n 0, 1, []), (.getfield 42, 3, [12, 29, 2, 1435, 0]), (.iload_n 1, 1, []), (.iconst 0, 1, []), (.iastore, 1, []), (.aload_n 0, 1, []), (.dup, 1, []), (.getfield 213, 3, [12, 18, 0, 1424, 0]), (.iconst 1, 1, []), (.iadd, 1, []), (.putfield 213, 3, [12, 18, 0, 1424, 0, 0]), (.iconst 1, 1, []), (.ireturn, 1, [3])])]
set_option maxRecDepth 100000 in
theorem ok_80 : chkM 80 seg_80 = true := by decide +kernel
-- MD_there
def seg_81 : SegL := [
  (0, [(.aload_n 0, 1, []), (.getfield 166, 3, [12, 8, 0, 1414, 0]), (.iconst 2, 1, []), (.if_icmp .eq 9, 3, [14])]),
  (8, [(.aload_n 0, 1, []), (.iconst 1, 1, []), (.invokevirtual 190, 3, [74, 2, 1691, 0, 2, 0, 0, 0, 0, 12])]),
  (13, [(.ireturn, 1, [3])]),
  (14, [(.aload_n 1, 1, []), (.iload_n 2, 1, []), (.iload_n 3, 1, []), (.aload_n 0, 1, []), (.getfield 177, 3, [12, 9, 0, 1415, 0]), (.invokestatic 250, 3, [75, 4, 1703, 0, 5, 0, 0, 0, 0, 12])]),
  (24, [(.istore 4, 2, []), (.iload 4, 2, []), (.ifCond .ge 9, 3, [37])]),
  (31, [(.aload_n 0, 1, []), (.iconst 4, 1, []), (.invokevirtual 190, 3, [74, 2, 1691, 0, 2, 0, 0, 0, 0, 12])]),
  (36, [(.ireturn, 1, [3])]),
  (37, [(.aload_n 0, 1, []), (.invokevirtual 200, 3, [73, 1, 1662, 0, 1, 0, 0, 0, 0, 12])]),
  (41, [(.aload_n 0, 1, []), (.iload 4, 2, []), (.putfield 197, 3, [12, 11, 0, 1417, 0, 0]), (.iconst 1, 1, []), (.ireturn, 1, [3])])]
set_option maxRecDepth 100000 in
theorem ok_81 : chkM 81 seg_81 = true := by decide +kernel
-- MD_isOf
def seg_82 : SegL := [
  (0, [(.iload_n 0, 1, []), (.iload_n 1, 1, []), (.ishr, 1, []), (.iconst 1, 1, []), (.iand, 1, []), (.iconst 1, 1, []), (.if_icmp .ne 7, 3, [13])]),
  (9, [(.iconst 1, 1, []), (.goto 4, 3, [14])]),
  (13, [(.iconst 0, 1, [])]),
  (14, [(.ireturn, 1, [3])])]
set_option maxRecDepth 100000 in
theorem ok_82 : chkM 82 seg_82 = true := by decide +kernel
-- MD_knowsLine
def seg_83 : SegL := [
  (0, [(.aload_n 0, 1, []), (.invokevirtual 200, 3, [73, 1, 1662, 0, 1, 0, 0, 0, 0, 12])]),
  (4, [(.aload_n 0, 1, []), (.aload_n 0, 1, []), (.getfield 30, 3, [12, 25, 2, 1431, 0]), (.iconst 5, 1, []), (.aload_n 0, 1, []), (.getfield 213, 3, [12, 18, 0, 1424, 0]), (.invokevirtual 257, 3, [81, 4, 1721, 0, 5, 0, 0, 0, 0, 12])]),
  (17, [(.ifCond .ne 5, 3, [22])]),
  (20, [(.iconst 0, 1, []), (.ireturn, 1, [3])]),
  (22, [(.iconst 5, 1, []), (.aload_n 0, 1, []), (.getfield 197, 3, [12, 11, 0, 1417, 0]), (.iadd, 1, []), (.istore_n 1, 1, []), (.aload_n 0, 1, []), (.getfield 157, 3, [12, 10, 0, 1416, 0]), (.istore_n 2, 1, []), (.aload_n 0, 1, []), (.aload_n 0, 1, []), (.getfield 27, 3, [12, 24, 2, 1430, 0]), (.bipush 8, 2, []), (.aload_n 0, 1, []), (.getfield 210, 3, [12, 17, 0, 1423, 0]), (.invokevirtual 257, 3, [81, 4, 1721, 0, 5, 0, 0, 0, 0, 12])]),
  (48, [(.ifCond .ne 5, 3, [53])]),
  (51, [(.iconst 0, 1, []), (.ireturn, 1, [3])]),
  (53, [(.aload_n 0, 1, []), (.getfield 42, 3, [12, 29, 2, 1435, 0]), (.iload_n 1, 1, []), (.iaload, 1, []), (.aload_n 0, 1, []), (.getfield 197, 3, [12, 11, 0, 1417, 0]), (.invokestatic 264, 3, [82, 2, 1725, 0, 2, 0, 0, 0, 0, 12])]),
  (66, [(.ifCond .eq 14, 3, [80])]),
  (69, [(.aload_n 0, 1, []), (.iload_n 2, 1, []), (.putfield 157, 3, [12, 10, 0, 1416, 0, 0]), (.aload_n 0, 1, []), (.iconst 3, 1, []), (.invokevirtual 190, 3, [74, 2, 1691, 0, 2, 0, 0, 0, 0, 12])]),
  (79, [(.ireturn, 1, [3])]),
  (80, [(.aload_n 0, 1, []), (.getfield 42, 3, [12, 29, 2, 1435, 0]), (.iload_n 1, 1, []), (.dup2, 1, []), (.iaload, 1, []), (.iconst 1, 1, []), (.aload_n 0, 1, []), (.getfield 197, 3, [12, 11, 0, 1417, 0]), (.ishl, 1, []), (.ior, 1, []), (.iastore, 1, []), (.iconst 1, 1, []), (.ireturn, 1, [3])])]
set_option maxRecDepth 100000 in
theorem ok_83 : chkM 83 seg_83 = true := by decide +kernel
-- MD_isKey
def seg_84 : SegL := [
  (0, [(.aload_n 0, 1, []), (.getfield 166, 3, [12, 8, 0, 1414, 0]), (.iconst 1, 1, []), (.if_icmp .ne 15, 3, [20])]),
  (8, [(.aload_n 0, 1, []), (.getfield 177, 3, [12, 9, 0, 1415, 0]), (.iload_n 1, 1, []), (.if_icmp .ne 7, 3, [20])]),
  (16, [(.iconst 1, 1, []), (.goto 4, 3, [21])]),
  (20, [(.iconst 0, 1, [])]),
  (21, [(.ireturn, 1, [3])])]
set_option maxRecDepth 100000 in
theorem ok_84 : chkM 84 seg_84 = true := by decide +kernel
-- MD_some
def seg_85 : SegL := [
  (0, [(.aload_n 0, 1, []), (.bipush 12, 2, []), (.invokevirtual 254, 3, [84, 2, 1736, 0, 2, 0, 0, 0, 0, 12])]),
  (6, [(.ifCond .ne 18, 3, [24])]),
  (9, [(.aload_n 0, 1, []), (.aload_n 0, 1, []), (.getfield 27, 3, [12, 24, 2, 1430, 0]), (.bipush 8, 2, []), (.aload_n 0, 1, []), (.getfield 210, 3, [12, 17, 0, 1423, 0]), (.invokevirtual 257, 3, [81, 4, 1721, 0, 5, 0, 0, 0, 0, 12])]),
  (23, [(.ireturn, 1, [3])]),
  (24, [(.aload_n 0, 1, []), (.invokevirtual 200, 3, [73, 1, 1662, 0, 1, 0, 0, 0, 0, 12])]),
  (28, [(.aload_n 0, 1, []), (.iconst (-1), 1, []), (.putfield 197, 3, [12, 11, 0, 1417, 0, 0]), (.iconst 1, 1, []), (.ireturn, 1, [3])])]
set_option maxRecDepth 100000 in
theorem ok_85 : chkM 85 seg_85 = true := by decide +kernel
-- MD_askLine
def seg_86 : SegL := [
  (0, [(.aload_n 0, 1, []), (.getfield 216, 3, [12, 19, 0, 1425, 0]), (.bipush 8, 2, []), (.if_icmp .ne 9, 3, [15])]),
  (9, [(.aload_n 0, 1, []), (.iconst 2, 1, []), (.invokevirtual 190, 3, [74, 2, 1691, 0, 2, 0, 0, 0, 0, 12])]),
  (14, [(.ireturn, 1, [3])]),
  (15, [(.aload_n 0, 1, []), (.invokevirtual 200, 3, [73, 1, 1662, 0, 1, 0, 0, 0, 0, 12])]),
  (19, [(.aload_n 0, 1, []), (.aload_n 0, 1, []), (.getfield 45, 3, [12, 30, 2, 1436, 0]), (.bipush 8, 2, []), (.aload_n 0, 1, []), (.getfield 216, 3, [12, 19, 0, 1425, 0]), (.invokevirtual 261, 3, [76, 4, 1699, 0, 4, 0, 0, 0, 0, 12])]),
  (33, [(.ifCond .ne 5, 3, [38])]),
  (36, [(.iconst 0, 1, []), (.ireturn, 1, [3])]),
  (38, [(.bipush 8, 2, []), (.aload_n 0, 1, []), (.getfield 216, 3, [12, 19, 0, 1425, 0]), (.iadd, 1, []), (.istore_n 1, 1, []), (.aload_n 0, 1, []), (.getfield 166, 3, [12, 8, 0, 1414, 0]), (.iconst 1, 1, []), (.if_icmp .ne 21, 3, [72])]),
  (54, [(.aload_n 0, 1, []), (.getfield 177, 3, [12, 9, 0, 1415, 0]), (.bipush 8, 2, []), (.if_icmp .lt 12, 3, [72])]),
  (63, [(.aload_n 0, 1, []), (.getfield 177, 3, [12, 9, 0, 1415, 0]), (.bipush 11, 2, []), (.if_icmp .le 9, 3, [78])]),
  (72, [(.aload_n 0, 1, []), (.iconst 1, 1, []), (.invokevirtual 190, 3, [74, 2, 1691, 0, 2, 0, 0, 0, 0, 12])]),
  (77, [(.ireturn, 1, [3])]),
  (78, [(.aload_n 0, 1, []), (.getfield 48, 3, [12, 31, 2, 1437, 0]), (.iload_n 1, 1, []), (.aload_n 0, 1, []), (.getfield 177, 3, [12, 9, 0, 1415, 0]), (.bipush 8, 2, []), (.isub, 1, []), (.iastore, 1, []), (.aload_n 0, 1, []), (.invokevirtual 200, 3, [73, 1, 1662, 0, 1, 0, 0, 0, 0, 12])]),
  (95, [(.aload_n 0, 1, []), (.invokevirtual 267, 3, [85, 1, 1732, 0, 1, 0, 0, 0, 0, 12])]),
  (99, [(.ifCond .ne 5, 3, [104])]),
  (102, [(.iconst 0, 1, []), (.ireturn, 1, [3])]),
  (104, [(.aload_n 0, 1, []), (.getfield 51, 3, [12, 32, 2, 1438, 0]), (.iload_n 1, 1, []), (.aload_n 0, 1, []), (.getfield 197, 3, [12, 11, 0, 1417, 0]), (.iastore, 1, []), (.aload_n 0, 1, []), (.invokevirtual 267, 3, [85, 1, 1732, 0, 1, 0, 0, 0, 0, 12])]),
  (118, [(.ifCond .ne 5, 3, [123])]),
  (121, [(.iconst 0, 1, []), (.ireturn, 1, [3])]),
  (123, [(.aload_n 0, 1, []), (.getfield 54, 3, [12, 33, 2, 1439, 0]), (.iload_n 1, 1, []), (.aload_n 0, 1, []), (.getfield 197, 3, [12, 11, 0, 1417, 0]), (.iastore, 1, []), (.aload_n 0, 1, []), (.invokevirtual 267, 3, [85, 1, 1732, 0, 1, 0, 0, 0, 0, 12])]),
  (137, [(.ifCond .ne 5, 3, [142])]),
  (140, [(.iconst 0, 1, []), (.ireturn, 1, [3])]),
  (142, [(.aload_n 0, 1, []), (.getfield 57, 3, [12, 34, 2, 1440, 0]), (.iload_n 1, 1, []), (.aload_n 0, 1, []), (.getfield 197, 3, [12, 11, 0, 1417, 0]), (.iastore, 1, []), (.aload_n 0, 1, []), (.dup, 1, []), (.getfield 216, 3, [12, 19, 0, 1425, 0]), (.iconst 1, 1, []), (.iadd, 1, []), (.putfield 216, 3, [12, 19, 0, 1425, 0, 0]), (.iconst 1, 1, []), (.ireturn, 1, [3])])]
set_option maxRecDepth 100000 in
theorem ok_86 : chkM 86 seg_86 = true := by decide +kernel
-- MD_talkLine
def seg_87 : SegL := [
  (0, [(.aload_n 0, 1, []), (.getfield 219, 3, [12, 20, 0, 1426, 0]), (.bipush 10, 2, []), (.if_icmp .ne 9, 3, [15])]),
  (9, [(.aload_n 0, 1, []), (.iconst 2, 1, []), (.invokevirtual 190, 3, [74, 2, 1691, 0, 2, 0, 0, 0, 0, 12])]),
  (14, [(.ireturn, 1, [3])]),
  (15, [(.aload_n 0, 1, []), (.invokevirtual 200, 3, [73, 1, 1662, 0, 1, 0, 0, 0, 0, 12])]),
  (19, [(.bipush 10, 2, []), (.aload_n 0, 1, []), (.getfield 219, 3, [12, 20, 0, 1426, 0]), (.iadd, 1, []), (.istore_n 1, 1, []), (.aload_n 0, 1, []), (.aload_n 0, 1, []), (.getfield 30, 3, [12, 25, 2, 1431, 0]), (.iconst 5, 1, []), (.aload_n 0, 1, []), (.getfield 213, 3, [12, 18, 0, 1424, 0]), (.invokevirtual 257, 3, [81, 4, 1721, 0, 5, 0, 0, 0, 0, 12])]),
  (40, [(.ifCond .ne 5, 3, [45])]),
  (43, [(.iconst 0, 1, []), (.ireturn, 1, [3])]),
  (45, [(.aload_n 0, 1, []), (.getfield 60, 3, [12, 35, 2, 1441, 0]), (.iload_n 1, 1, []), (.aload_n 0, 1, []), (.getfield 197, 3, [12, 11, 0, 1417, 0]), (.iastore, 1, []), (.aload_n 0, 1, []), (.getfield 157, 3, [12, 10, 0, 1416, 0]), (.istore_n 2, 1, []), (.aload_n 0, 1, []), (.aload_n 0, 1, []), (.getfield 30, 3, [12, 25, 2, 1431, 0]), (.iconst 5, 1, []), (.aload_n 0, 1, []), (.getfield 213, 3, [12, 18, 0, 1424, 0]), (.invokevirtual 257, 3, [81, 4, 1721, 0, 5, 0, 0, 0, 0, 12])]),
  (73, [(.ifCond .ne 5, 3, [78])]),
  (76, [(.iconst 0, 1, []), (.ireturn, 1, [3])]),
  (78, [(.aload_n 0, 1, []), (.getfield 63, 3, [12, 36, 2, 1442, 0]), (.iload_n 1, 1, []), (.aload_n 0, 1, []), (.getfield 197, 3, [12, 11, 0, 1417, 0]), (.iastore, 1, []), (.aload_n 0, 1, []), (.getfield 197, 3, [12, 11, 0, 1417, 0]), (.aload_n 0, 1, []), (.getfield 60, 3, [12, 35, 2, 1441, 0]), (.iload_n 1, 1, []), (.iaload, 1, []), (.if_icmp .ne 14, 3, [112])]),
  (101, [(.aload_n 0, 1, []), (.iload_n 2, 1, []), (.putfield 157, 3, [12, 10, 0, 1416, 0, 0]), (.aload_n 0, 1, []), (.iconst 5, 1, []), (.invokevirtual 190, 3, [74, 2, 1691, 0, 2, 0, 0, 0, 0, 12])]),
  (111, [(.ireturn, 1, [3])]),
  (112, [(.aload_n 0, 1, []), (.aload_n 0, 1, []), (.getfield 45, 3, [12, 30, 2, 1436, 0]), (.bipush 8, 2, []), (.aload_n 0, 1, []), (.getfield 216, 3, [12, 19, 0, 1425, 0]), (.invokevirtual 257, 3, [81, 4, 1721, 0, 5, 0, 0, 0, 0, 12])]),
  (126, [(.ifCond .ne 5, 3, [131])]),
  (129, [(.iconst 0, 1, []), (.ireturn, 1, [3])]),
  (131, [(.aload_n 0, 1, []), (.getfield 66, 3, [12, 37, 2, 1443, 0]), (.iload_n 1, 1, []), (.aload_n 0, 1, []), (.getfield 197, 3, [12, 11, 0, 1417, 0]), (.iastore, 1, []), (.aload_n 0, 1, []), (.dup, 1, []), (.getfield 219, 3, [12, 20, 0, 1426, 0]), (.iconst 1, 1, []), (.iadd, 1, []), (.putfield 219, 3, [12, 20, 0, 1426, 0, 0]), (.iconst 1, 1, []), (.ireturn, 1, [3])])]
set_option maxRecDepth 100000 in
theorem ok_87 : chkM 87 seg_87 = true := by decide +kernel
-- MD_onceLine
def seg_88 : SegL := [
  (0, [(.aload_n 0, 1, []), (.getfield 20, 3, [12, 22, 2, 1428, 0]), (.iload_n 1, 1, []), (.baload, 1, []), (.ifCond .eq 9, 3, [15])]),
  (9, [(.aload_n 0, 1, []), (.iconst 3, 1, []), (.invokevirtual 190, 3, [74, 2, 1691, 0, 2, 0, 0, 0, 0, 12])]),
  (14, [(.ireturn, 1, [3])]),
  (15, [(.aload_n 0, 1, []), (.getfield 20, 3, [12, 22, 2, 1428, 0]), (.iload_n 1, 1, []), (.iconst 1, 1, []), (.bastore, 1, []), (.aload_n 0, 1, []), (.invokevirtual 200, 3, [73, 1, 1662, 0, 1, 0, 0, 0, 0, 12])]),
  (26, [(.aload_n 0, 1, []), (.iconst 0, 1, []), (.iload_n 2, 1, []), (.invokevirtual 206, 3, [79, 3, 1710, 0, 3, 0, 0, 0, 0, 12])]),
  (32, [(.ifCond .ne 5, 3, [37])]),
  (35, [(.iconst 0, 1, []), (.ireturn, 1, [3])]),
  (37, [(.aload_n 0, 1, []), (.getfield 24, 3, [12, 23, 2, 1429, 0]), (.iconst 2, 1, []), (.iload_n 1, 1, []), (.iadd, 1, []), (.aload_n 0, 1, []), (.getfield 197, 3, [12, 11, 0, 1417, 0]), (.iastore, 1, []), (.iconst 1, 1, []), (.ireturn, 1, [3])])]
set_option maxRecDepth 100000 in
theorem ok_88 : chkM 88 seg_88 = true := by decide +kernel
-- MD_isSign
def seg_89 : SegL := [
  (0, [(.aload_n 0, 1, []), (.getfield 166, 3, [12, 8, 0, 1414, 0]), (.iconst 4, 1, []), (.if_icmp .ne 15, 3, [20])]),
  (8, [(.aload_n 0, 1, []), (.getfield 177, 3, [12, 9, 0, 1415, 0]), (.iload_n 1, 1, []), (.if_icmp .ne 7, 3, [20])]),
  (16, [(.iconst 1, 1, []), (.goto 4, 3, [21])]),
  (20, [(.iconst 0, 1, [])]),
  (21, [(.ireturn, 1, [3])])]
set_option maxRecDepth 100000 in
theorem ok_89 : chkM 89 seg_89 = true := by decide +kernel
-- MD_waitsFor
def seg_90 : SegL := [
  (0, [(.aload_n 0, 1, []), (.getfield 87, 3, [12, 44, 2, 1450, 0]), (.aload_n 0, 1, []), (.getfield 298, 3, [12, 46, 0, 1452, 0]), (.iload_n 1, 1, []), (.iastore, 1, []), (.aload_n 0, 1, []), (.dup, 1, []), (.getfield 298, 3, [12, 46, 0, 1452, 0]), (.iconst 1, 1, []), (.iadd, 1, []), (.putfield 298, 3, [12, 46, 0, 1452, 0, 0]), (.return_, 1, [])])]
set_option maxRecDepth 100000 in
theorem ok_90 : chkM 90 seg_90 = true := by decide +kernel
-- MD_isCounted
def seg_91 : SegL := [
  (0, [(.aload_n 0, 1, []), (.getfield 225, 3, [12, 49, 0, 1455, 0]), (.bipush 64, 2, []), (.if_icmp .ne 9, 3, [15])]),
  (9, [(.aload_n 0, 1, []), (.iconst 2, 1, []), (.invokevirtual 190, 3, [74, 2, 1691, 0, 2, 0, 0, 0, 0, 12])]),
  (14, [(.ireturn, 1, [3])]),
  (15, [(.aload_n 0, 1, []), (.dup, 1, []), (.getfield 225, 3, [12, 49, 0, 1455, 0]), (.iconst 1, 1, []), (.iadd, 1, []), (.putfield 225, 3, [12, 49, 0, 1455, 0, 0]), (.iconst 1, 1, []), (.ireturn, 1, [3])])]
set_option maxRecDepth 100000 in
theorem ok_91 : chkM 91 seg_91 = true := by decide +kernel
-- MD_nameMet
def seg_92 : SegL := [
  (0, [(.aload_n 0, 1, []), (.getfield 166, 3, [12, 8, 0, 1414, 0]), (.iconst 1, 1, []), (.if_icmp .ne 22, 3, [27])]),
  (8, [(.aload_n 0, 1, []), (.getfield 177, 3, [12, 9, 0, 1415, 0]), (.bipush 18, 2, []), (.if_icmp .lt 13, 3, [27])]),
  (17, [(.aload_n 0, 1, []), (.getfield 177, 3, [12, 9, 0, 1415, 0]), (.bipush 18, 2, []), (.isub, 1, []), (.goto 4, 3, [28])]),
  (27, [(.iconst (-1), 1, [])]),
  (28, [(.ireturn, 1, [0])])]
set_option maxRecDepth 100000 in
theorem ok_92 : chkM 92 seg_92 = true := by decide +kernel
-- MD_grown
def seg_93 : SegL := [
  (0, [(.aload_n 0, 1, []), (.getfield 78, 3, [12, 41, 2, 1447, 0]), (.bipush 64, 2, []), (.aload_n 0, 1, []), (.getfield 222, 3, [12, 21, 0, 1427, 0]), (.iadd, 1, []), (.iload_n 1, 1, []), (.iastore, 1, []), (.aload_n 0, 1, []), (.getfield 81, 3, [12, 42, 2, 1448, 0]), (.bipush 64, 2, []), (.aload_n 0, 1, []), (.getfield 222, 3, [12, 21, 0, 1427, 0]), (.iadd, 1, []), (.iload_n 2, 1, []), (.iastore, 1, []), (.aload_n 0, 1, []), (.getfield 84, 3, [12, 43, 2, 1449, 0]), (.bipush 64, 2, []), (.aload_n 0, 1, []), (.getfield 222, 3, [12, 21, 0, 1427, 0]), (.iadd, 1, []), (.iload_n 3, 1, []), (.iastore, 1, []), (.aload_n 0, 1, []), (.getfield 90, 3, [12, 45, 2, 1451, 0]), (.aload_n 0, 1, []), (.getfield 295, 3, [12, 47, 0, 1453, 0]), (.aload_n 0, 1, []), (.getfield 222, 3, [12, 21, 0, 1427, 0]), (.iastore, 1, []), (.aload_n 0, 1, []), (.dup, 1, []), (.getfield 295, 3, [12, 47, 0, 1453, 0]), (.iconst 1, 1, []), (.iadd, 1, []), (.putfield 295, 3, [12, 47, 0, 1453, 0, 0]), (.aload_n 0, 1, []), (.dup, 1, []), (.getfield 222, 3, [12, 21, 0, 1427, 0]), (.iconst 1, 1, []), (.iadd, 1, []), (.putfield 222, 3, [12, 21, 0, 1427, 0, 0]), (.return_, 1, [])])]
set_option maxRecDepth 100000 in
theorem ok_93 : chkM 93 seg_93 = true := by decide +kernel
-- MD_leafRead
def seg_94 : SegL := [
  (0, [(.aload_n 0, 1, []), (.bipush 40, 2, []), (.invokevirtual 203, 3, [89, 2, 1752, 0, 2, 0, 0, 0, 0, 12])]),
  (6, [(.ifCond .eq 44, 3, [50])]),
  (9, [(.aload_n 0, 1, []), (.getfield 313, 3, [12, 48, 0, 1454, 0]), (.bipush 8, 2, []), (.if_icmp .ne 9, 3, [24])]),
  (18, [(.aload_n 0, 1, []), (.iconst 2, 1, []), (.invokevirtual 190, 3, [74, 2, 1691, 0, 2, 0, 0, 0, 0, 12])]),
  (23, [(.ireturn, 1, [3])]),
  (24, [(.aload_n 0, 1, []), (.dup, 1, []), (.getfield 313, 3, [12, 48, 0, 1454, 0]), (.iconst 1, 1, []), (.iadd, 1, []), (.putfield 313, 3, [12, 48, 0, 1454, 0, 0]), (.aload_n 0, 1, []), (.iconst 0, 1, []), (.invokevirtual 316, 3, [90, 2, 1760, 0, 2, 0, 0, 0, 0, 12])]),
  (39, [(.aload_n 0, 1, []), (.iconst 1, 1, []), (.putfield 320, 3, [12, 51, 3, 1457, 0, 0]), (.aload_n 0, 1, []), (.invokevirtual 200, 3, [73, 1, 1662, 0, 1, 0, 0, 0, 0, 12])]),
  (48, [(.iconst 1, 1, []), (.ireturn, 1, [3])]),
  (50, [(.aload_n 0, 1, []), (.bipush 17, 2, []), (.invokevirtual 254, 3, [84, 2, 1736, 0, 2, 0, 0, 0, 0, 12])]),
  (56, [(.ifCond .eq 30, 3, [86])]),
  (59, [(.aload_n 0, 1, []), (.getfield 320, 3, [12, 51, 3, 1457, 0]), (.ifCond .eq 23, 3, [86])]),
  (66, [(.aload_n 0, 1, []), (.invokevirtual 324, 3, [91, 1, 1764, 0, 1, 0, 0, 0, 0, 12])]),
  (70, [(.ifCond .ne 5, 3, [75])]),
  (73, [(.iconst 0, 1, []), (.ireturn, 1, [3])]),
  (75, [(.aload_n 0, 1, []), (.iconst 2, 1, []), (.invokevirtual 316, 3, [90, 2, 1760, 0, 2, 0, 0, 0, 0, 12])]),
  (80, [(.aload_n 0, 1, []), (.invokevirtual 200, 3, [73, 1, 1662, 0, 1, 0, 0, 0, 0, 12])]),
  (84, [(.iconst 1, 1, []), (.ireturn, 1, [3])]),
  (86, [(.aload_n 0, 1, []), (.invokevirtual 327, 3, [92, 1, 1768, 0, 1, 0, 0, 0, 0, 12])]),
  (90, [(.istore_n 1, 1, []), (.iload_n 1, 1, []), (.ifCond .ge 17, 3, [109])]),
  (95, [(.aload_n 0, 1, []), (.getfield 166, 3, [12, 8, 0, 1414, 0]), (.iconst 3, 1, []), (.if_icmp .eq 9, 3, [109])]),
  (103, [(.aload_n 0, 1, []), (.iconst 1, 1, []), (.invokevirtual 190, 3, [74, 2, 1691, 0, 2, 0, 0, 0, 0, 12])]),
  (108, [(.ireturn, 1, [3])]),
  (109, [(.iload_n 1, 1, []), (.ifCond .ge 19, 3, [129])]),
  (113, [(.aload_n 0, 1, []), (.getfield 177, 3, [12, 9, 0, 1415, 0]), (.sipush 9999, 3, []), (.if_icmp .le 9, 3, [129])]),
  (123, [(.aload_n 0, 1, []), (.iconst 2, 1, []), (.invokevirtual 190, 3, [74, 2, 1691, 0, 2, 0, 0, 0, 0, 12])]),
  (128, [(.ireturn, 1, [3])]),
  (129, [(.aload_n 0, 1, []), (.invokevirtual 324, 3, [91, 1, 1764, 0, 1, 0, 0, 0, 0, 12])]),
  (133, [(.ifCond .ne 5, 3, [138])]),
  (136, [(.iconst 0, 1, []), (.ireturn, 1, [3])]),
  (138, [(.aload_n 0, 1, []), (.iload_n 1, 1, []), (.ifCond .lt 7, 3, [147])]),
  (143, [(.iconst 1, 1, []), (.goto 4, 3, [148])]),
  (147, [(.iconst 0, 1, [])]),
  (148, [(.iload_n 1, 1, []), (.ifCond .lt 7, 3, [156])]),
  (152, [(.iload_n 1, 1, []), (.goto 7, 3, [160])]),
  (156, [(.aload_n 0, 1, []), (.getfield 177, 3, [12, 9, 0, 1415, 0])]),
  (160, [(.iconst 0, 1, []), (.invokevirtual 309, 3, [93, 4, 1772, 0, 4, 0, 0, 0, 0, 12])]),
  (164, [(.aload_n 0, 1, []), (.iconst 0, 1, []), (.putfield 330, 3, [12, 50, 3, 1456, 0, 0]), (.aload_n 0, 1, []), (.invokevirtual 200, 3, [73, 1, 1662, 0, 1, 0, 0, 0, 0, 12])]),
  (173, [(.iconst 1, 1, []), (.ireturn, 1, [3])])]
set_option maxRecDepth 100000 in
theorem ok_94 : chkM 94 seg_94 = true := by decide +kernel
-- MD_rank
def seg_95 : SegL := [
  (0, [(.iload_n 0, 1, []), (.bipush 13, 2, []), (.if_icmp .lt 8, 3, [11])]),
  (6, [(.bipush 6, 2, []), (.goto 50, 3, [58])]),
  (11, [(.iload_n 0, 1, []), (.bipush 11, 2, []), (.if_icmp .lt 7, 3, [21])]),
  (17, [(.iconst 5, 1, []), (.goto 40, 3, [58])]),
  (21, [(.iload_n 0, 1, []), (.iconst 5, 1, []), (.if_icmp .lt 7, 3, [30])]),
  (26, [(.iconst 4, 1, []), (.goto 31, 3, [58])]),
  (30, [(.iload_n 0, 1, []), (.iconst 2, 1, []), (.if_icmp .ne 7, 3, [39])]),
  (35, [(.iconst 3, 1, []), (.goto 22, 3, [58])]),
  (39, [(.iload_n 0, 1, []), (.iconst 3, 1, []), (.if_icmp .ne 7, 3, [48])]),
  (44, [(.iconst 2, 1, []), (.goto 13, 3, [58])]),
  (48, [(.iload_n 0, 1, []), (.iconst 4, 1, []), (.if_icmp .ne 7, 3, [57])]),
  (53, [(.iconst 1, 1, []), (.goto 4, 3, [58])]),
  (57, [(.iconst 0, 1, [])]),
  (58, [(.ireturn, 1, [0])])]
set_option maxRecDepth 100000 in
theorem ok_95 : chkM 95 seg_95 = true := by decide +kernel
-- MD_dropHeld
def seg_96 : SegL := [
  (0, [(.aload_n 0, 1, []), (.dup, 1, []), (.getfield 295, 3, [12, 47, 0, 1453, 0]), (.iconst 1, 1, []), (.isub, 1, []), (.putfield 295, 3, [12, 47, 0, 1453, 0, 0]), (.aload_n 0, 1, []), (.getfield 90, 3, [12, 45, 2, 1451, 0]), (.aload_n 0, 1, []), (.getfield 295, 3, [12, 47, 0, 1453, 0]), (.iaload, 1, []), (.ireturn, 1, [0])])]
set_option maxRecDepth 100000 in
theorem ok_96 : chkM 96 seg_96 = true := by decide +kernel
-- MD_bind
def seg_97 : SegL := [
  (0, [(.aload_n 0, 1, []), (.getfield 298, 3, [12, 46, 0, 1452, 0]), (.ifCond .le 72, 3, [76])]),
  (7, [(.aload_n 0, 1, []), (.getfield 87, 3, [12, 44, 2, 1450, 0]), (.aload_n 0, 1, []), (.getfield 298, 3, [12, 46, 0, 1452, 0]), (.iconst 1, 1, []), (.isub, 1, []), (.iaload, 1, []), (.invokestatic 301, 3, [95, 1, 1784, 0, 1, 0, 0, 0, 0, 12])]),
  (21, [(.iload_n 1, 1, []), (.if_icmp .lt 54, 3, [76])]),
  (25, [(.aload_n 0, 1, []), (.dup, 1, []), (.getfield 298, 3, [12, 46, 0, 1452, 0]), (.iconst 1, 1, []), (.isub, 1, []), (.putfield 298, 3, [12, 46, 0, 1452, 0, 0]), (.aload_n 0, 1, []), (.getfield 87, 3, [12, 44, 2, 1450, 0]), (.aload_n 0, 1, []), (.getfield 298, 3, [12, 46, 0, 1452, 0]), (.iaload, 1, []), (.istore_n 2, 1, []), (.iload_n 2, 1, []), (.iconst 2, 1, []), (.if_icmp .ne 7, 3, [54])]),
  (50, [(.iconst (-1), 1, []), (.goto 7, 3, [58])]),
  (54, [(.aload_n 0, 1, []), (.invokevirtual 305, 3, [96, 1, 1787, 0, 1, 0, 0, 0, 0, 12])]),
  (58, [(.istore_n 3, 1, []), (.aload_n 0, 1, []), (.invokevirtual 305, 3, [96, 1, 1787, 0, 1, 0, 0, 0, 0, 12])]),
  (63, [(.istore 4, 2, []), (.aload_n 0, 1, []), (.iload_n 2, 1, []), (.iload 4, 2, []), (.iload_n 3, 1, []), (.invokevirtual 309, 3, [93, 4, 1772, 0, 4, 0, 0, 0, 0, 12])]),
  (73, [(.goto (-73), 3, [0])]),
  (76, [(.return_, 1, [])])]
set_option maxRecDepth 100000 in
theorem ok_97 : chkM 97 seg_97 = true := by decide +kernel
-- MD_signs
def seg_98_0 : SegL := [
  (0, [(.aload_n 0, 1, []), (.bipush 41, 2, []), (.invokevirtual 203, 3, [89, 2, 1752, 0, 2, 0, 0, 0, 0, 12])]),
  (6, [(.ifCond .eq 41, 3, [47])]),
  (9, [(.aload_n 0, 1, []), (.getfield 313, 3, [12, 48, 0, 1454, 0]), (.ifCond .le 34, 3, [47])]),
  (16, [(.aload_n 0, 1, []), (.iconst 1, 1, []), (.invokevirtual 333, 3, [97, 2, 1780, 0, 5, 0, 0, 0, 0, 12])]),
  (21, [(.aload_n 0, 1, []), (.dup, 1, []), (.getfield 298, 3, [12, 46, 0, 1452, 0]), (.iconst 1, 1, []), (.isub, 1, []), (.putfield 298, 3, [12, 46, 0, 1452, 0, 0]), (.aload_n 0, 1, []), (.dup, 1, []), (.getfield 313, 3, [12, 48, 0, 1454, 0]), (.iconst 1, 1, []), (.isub, 1, []), (.putfield 313, 3, [12, 48, 0, 1454, 0, 0]), (.aload_n 0, 1, []), (.invokevirtual 200, 3, [73, 1, 1662, 0, 1, 0, 0, 0, 0, 12])]),
  (45, [(.iconst 1, 1, []), (.ireturn, 1, [3])]),
  (47, [(.aload_n 0, 1, []), (.bipush 15, 2, []), (.invokevirtual 254, 3, [84, 2, 1736, 0, 2, 0, 0, 0, 0, 12])]),
  (53, [(.ifCond .eq 7, 3, [60])]),
  (56, [(.iconst 3, 1, []), (.goto 90, 3, [147])]),
  (60, [(.aload_n 0, 1, []), (.bipush 16, 2, []), (.invokevirtual 254, 3, [84, 2, 1736, 0, 2, 0, 0, 0, 0, 12])]),
  (66, [(.ifCond .eq 7, 3, [73])]),
  (69, [(.iconst 4, 1, []), (.goto 77, 3, [147])]),
  (73, [(.aload_n 0, 1, []), (.getfield 166, 3, [12, 8, 0, 1414, 0]), (.iconst 5, 1, []), (.if_icmp .ne 12, 3, [90])]),
  (81, [(.iconst 5, 1, []), (.aload_n 0, 1, []), (.getfield 177, 3, [12, 9, 0, 1415, 0]), (.iadd, 1, []), (.goto 60, 3, [147])]),
  (90, [(.aload_n 0, 1, []), (.bipush 43, 2, []), (.invokevirtual 203, 3, [89, 2, 1752, 0, 2, 0, 0, 0, 0, 12])])]
set_option maxRecDepth 100000 in
theorem seg_98_0_ok : chkM 98 seg_98_0 = true := by decide +kernel
def seg_98_1 : SegL := [
  (96, [(.ifCond .eq 8, 3, [104])]),
  (99, [(.bipush 11, 2, []), (.goto 46, 3, [147])]),
  (104, [(.aload_n 0, 1, []), (.bipush 45, 2, []), (.invokevirtual 203, 3, [89, 2, 1752, 0, 2, 0, 0, 0, 0, 12])]),
  (110, [(.ifCond .eq 8, 3, [118])]),
  (113, [(.bipush 12, 2, []), (.goto 32, 3, [147])]),
  (118, [(.aload_n 0, 1, []), (.bipush 42, 2, []), (.invokevirtual 203, 3, [89, 2, 1752, 0, 2, 0, 0, 0, 0, 12])]),
  (124, [(.ifCond .eq 8, 3, [132])]),
  (127, [(.bipush 13, 2, []), (.goto 18, 3, [147])]),
  (132, [(.aload_n 0, 1, []), (.bipush 47, 2, []), (.invokevirtual 203, 3, [89, 2, 1752, 0, 2, 0, 0, 0, 0, 12])]),
  (138, [(.ifCond .eq 8, 3, [146])]),
  (141, [(.bipush 14, 2, []), (.goto 4, 3, [147])]),
  (146, [(.iconst 0, 1, [])]),
  (147, [(.istore_n 1, 1, []), (.iload_n 1, 1, []), (.ifCond .ne 9, 3, [158])]),
  (152, [(.aload_n 0, 1, []), (.iconst 1, 1, []), (.invokevirtual 190, 3, [74, 2, 1691, 0, 2, 0, 0, 0, 0, 12])]),
  (157, [(.ireturn, 1, [3])]),
  (158, [(.aload_n 0, 1, []), (.iload_n 1, 1, []), (.invokestatic 301, 3, [95, 1, 1784, 0, 1, 0, 0, 0, 0, 12])]),
  (163, [(.iconst 4, 1, []), (.if_icmp .ne 7, 3, [171])]),
  (167, [(.iconst 5, 1, []), (.goto 7, 3, [175])]),
  (171, [(.iload_n 1, 1, []), (.invokestatic 301, 3, [95, 1, 1784, 0, 1, 0, 0, 0, 0, 12])]),
  (175, [(.invokevirtual 333, 3, [97, 2, 1780, 0, 5, 0, 0, 0, 0, 12])]),
  (178, [(.iload_n 1, 1, []), (.invokestatic 301, 3, [95, 1, 1784, 0, 1, 0, 0, 0, 0, 12])]),
  (182, [(.iconst 4, 1, []), (.if_icmp .ne 34, 3, [217])]),
  (186, [(.aload_n 0, 1, []), (.getfield 298, 3, [12, 46, 0, 1452, 0]), (.ifCond .le 27, 3, [217])])]
set_option maxRecDepth 100000 in
theorem seg_98_1_ok : chkM 98 seg_98_1 = true := by decide +kernel
def seg_98_2 : SegL := [
  (193, [(.aload_n 0, 1, []), (.getfield 87, 3, [12, 44, 2, 1450, 0]), (.aload_n 0, 1, []), (.getfield 298, 3, [12, 46, 0, 1452, 0]), (.iconst 1, 1, []), (.isub, 1, []), (.iaload, 1, []), (.invokestatic 301, 3, [95, 1, 1784, 0, 1, 0, 0, 0, 0, 12])]),
  (207, [(.iconst 4, 1, []), (.if_icmp .ne 9, 3, [217])]),
  (211, [(.aload_n 0, 1, []), (.iconst 1, 1, []), (.invokevirtual 190, 3, [74, 2, 1691, 0, 2, 0, 0, 0, 0, 12])]),
  (216, [(.ireturn, 1, [3])]),
  (217, [(.aload_n 0, 1, []), (.invokevirtual 324, 3, [91, 1, 1764, 0, 1, 0, 0, 0, 0, 12])]),
  (221, [(.ifCond .ne 5, 3, [226])]),
  (224, [(.iconst 0, 1, []), (.ireturn, 1, [3])]),
  (226, [(.aload_n 0, 1, []), (.iload_n 1, 1, []), (.invokevirtual 316, 3, [90, 2, 1760, 0, 2, 0, 0, 0, 0, 12])]),
  (231, [(.aload_n 0, 1, []), (.iconst 1, 1, []), (.putfield 330, 3, [12, 50, 3, 1456, 0, 0]), (.aload_n 0, 1, []), (.iload_n 1, 1, []), (.invokestatic 301, 3, [95, 1, 1784, 0, 1, 0, 0, 0, 0, 12])]),
  (241, [(.iconst 3, 1, []), (.if_icmp .ge 7, 3, [249])]),
  (245, [(.iconst 1, 1, []), (.goto 4, 3, [250])]),
  (249, [(.iconst 0, 1, [])]),
  (250, [(.putfield 320, 3, [12, 51, 3, 1457, 0, 0]), (.aload_n 0, 1, []), (.invokevirtual 200, 3, [73, 1, 1662, 0, 1, 0, 0, 0, 0, 12])]),
  (257, [(.iconst 1, 1, []), (.ireturn, 1, [3])])]
set_option maxRecDepth 100000 in
theorem seg_98_2_ok : chkM 98 seg_98_2 = true := by decide +kernel
def seg_98 : SegL := seg_98_0 ++ (seg_98_1 ++ (seg_98_2))
theorem ok_98 : chkM 98 seg_98 = true := (chkM_app _ _ _ seg_98_0_ok (chkM_app _ _ _ seg_98_1_ok seg_98_2_ok))
-- MD_sumRead
def seg_99 : SegL := [
  (0, [(.aload_n 0, 1, []), (.iconst 0, 1, []), (.putfield 298, 3, [12, 46, 0, 1452, 0, 0]), (.aload_n 0, 1, []), (.iconst 0, 1, []), (.putfield 295, 3, [12, 47, 0, 1453, 0, 0]), (.aload_n 0, 1, []), (.iconst 0, 1, []), (.putfield 313, 3, [12, 48, 0, 1454, 0, 0]), (.aload_n 0, 1, []), (.iconst 1, 1, []), (.putfield 330, 3, [12, 50, 3, 1456, 0, 0]), (.aload_n 0, 1, []), (.iconst 1, 1, []), (.putfield 320, 3, [12, 51, 3, 1457, 0, 0])]),
  (25, [(.aload_n 0, 1, []), (.bipush 59, 2, []), (.invokevirtual 203, 3, [89, 2, 1752, 0, 2, 0, 0, 0, 0, 12])]),
  (31, [(.ifCond .eq 17, 3, [48])]),
  (34, [(.aload_n 0, 1, []), (.getfield 330, 3, [12, 50, 3, 1456, 0]), (.ifCond .ne 10, 3, [48])]),
  (41, [(.aload_n 0, 1, []), (.getfield 313, 3, [12, 48, 0, 1454, 0]), (.ifCond .le 29, 3, [74])]),
  (48, [(.aload_n 0, 1, []), (.getfield 330, 3, [12, 50, 3, 1456, 0]), (.ifCond .eq 13, 3, [65])]),
  (55, [(.aload_n 0, 1, []), (.invokevirtual 336, 3, [94, 1, 1756, 0, 2, 0, 0, 0, 0, 12])]),
  (59, [(.ifCond .eq 13, 3, [72])]),
  (62, [(.goto (-37), 3, [25])]),
  (65, [(.aload_n 0, 1, []), (.invokevirtual 339, 3, [98, 1, 1776, 0, 2, 0, 0, 0, 0, 12])]),
  (69, [(.ifCond .ne (-44), 3, [25])]),
  (72, [(.iconst 0, 1, []), (.ireturn, 1, [3])]),
  (74, [(.aload_n 0, 1, []), (.iconst 1, 1, []), (.invokevirtual 333, 3, [97, 2, 1780, 0, 5, 0, 0, 0, 0, 12])]),
  (79, [(.iconst 1, 1, []), (.ireturn, 1, [3])])]
set_option maxRecDepth 100000 in
theorem ok_99 : chkM 99 seg_99 = true := by decide +kernel
def segG_1 : List SegL := [seg_50, seg_51, seg_52, seg_53, seg_54, seg_55, seg_56, seg_57, seg_58, seg_59, seg_60, seg_61, seg_62, seg_63, seg_64, seg_65, seg_66, seg_67, seg_68, seg_69, seg_70, seg_71, seg_72, seg_73, seg_74, seg_75, seg_76, seg_77, seg_78, seg_79, seg_80, seg_81, seg_82, seg_83, seg_84, seg_85, seg_86, seg_87, seg_88, seg_89, seg_90, seg_91, seg_92, seg_93, seg_94, seg_95, seg_96, seg_97, seg_98, seg_99]
theorem okG_1 : okFrom 50 segG_1 := ⟨ok_50, ok_51, ok_52, ok_53, ok_54, ok_55, ok_56, ok_57, ok_58, ok_59, ok_60, ok_61, ok_62, ok_63, ok_64, ok_65, ok_66, ok_67, ok_68, ok_69, ok_70, ok_71, ok_72, ok_73, ok_74, ok_75, ok_76, ok_77, ok_78, ok_79, ok_80, ok_81, ok_82, ok_83, ok_84, ok_85, ok_86, ok_87, ok_88, ok_89, ok_90, ok_91, ok_92, ok_93, ok_94, ok_95, ok_96, ok_97, ok_98, ok_99, trivial⟩
