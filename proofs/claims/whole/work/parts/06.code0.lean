-- State_init
def seg_0 : SegL := [
  (0, [(.aload_n 0, 1, []), (.invokespecial 3, 3, [999, 1, 164, 157, 158])]),
  (4, [(.aload_n 0, 1, []), (.iconst 5, 1, []), (.newarray .int, 2, [4, 20]), (.putfield 9, 3, [8, 0, 2, 165, 0, 1]), (.aload_n 0, 1, []), (.iconst 5, 1, []), (.newarray .int, 2, [4, 20]), (.putfield 15, 3, [8, 1, 2, 169, 0, 1]), (.aload_n 0, 1, []), (.iconst 5, 1, []), (.newarray .int, 2, [4, 20]), (.putfield 18, 3, [8, 2, 2, 172, 0, 1]), (.aload_n 0, 1, []), (.iconst 5, 1, []), (.newarray .int, 2, [4, 20]), (.putfield 21, 3, [8, 3, 2, 176, 0, 1]), (.return_, 1, [])])]
set_option maxRecDepth 100000 in
theorem ok_0 : chkM 0 seg_0 = true := by decide +kernel
-- History_init
def seg_1 : SegL := [
  (0, [(.aload_n 0, 1, []), (.invokespecial 3, 3, [999, 1, 211, 157, 158])]),
  (4, [(.aload_n 0, 1, []), (.bipush 20, 2, []), (.anewarray 9, 3, [101, 580, 212]), (.putfield 11, 3, [1, 0, 2, 215, 0, 1]), (.iconst 0, 1, []), (.istore_n 1, 1, [])]),
  (15, [(.iload_n 1, 1, []), (.bipush 20, 2, []), (.if_icmp .ge 22, 3, [40])]),
  (21, [(.aload_n 0, 1, []), (.getfield 11, 3, [1, 0, 2, 215, 0]), (.iload_n 1, 1, []), (.new 9, 3, [8, 8, 101, 580, 212, 160, 128]), (.dup, 1, []), (.invokespecial 17, 3, [0, 1, 214, 1, 1, 4, 20, 101, 580, 8])]),
  (33, [(.aastore, 1, []), (.iinc 1 1, 3, []), (.goto (-22), 3, [15])]),
  (40, [(.return_, 1, [])])]
set_option maxRecDepth 100000 in
theorem ok_1 : chkM 1 seg_1 = true := by decide +kernel
-- Notes_init
def seg_2 : SegL := [
  (0, [(.aload_n 0, 1, []), (.invokespecial 3, 3, [999, 1, 231, 157, 158])]),
  (4, [(.aload_n 0, 1, []), (.bipush 24, 2, []), (.newarray .int, 2, [6, 144]), (.putfield 9, 3, [5, 0, 2, 232, 0, 1]), (.aload_n 0, 1, []), (.bipush 24, 2, []), (.newarray .int, 2, [6, 144]), (.putfield 15, 3, [5, 1, 2, 233, 0, 1]), (.aload_n 0, 1, []), (.bipush 24, 2, []), (.newarray .int, 2, [6, 144]), (.putfield 18, 3, [5, 2, 2, 234, 0, 1]), (.aload_n 0, 1, []), (.bipush 24, 2, []), (.newarray .boolean, 2, [6, 144]), (.putfield 21, 3, [5, 3, 2, 235, 0, 1]), (.aload_n 0, 1, []), (.bipush 24, 2, []), (.newarray .int, 2, [6, 144]), (.putfield 25, 3, [5, 4, 2, 236, 0, 1]), (.aload_n 0, 1, []), (.bipush 24, 2, []), (.newarray .boolean, 2, [6, 144]), (.putfield 28, 3, [5, 5, 2, 237, 0, 1]), (.aload_n 0, 1, []), (.iconst (-1), 1, []), (.putfield 31, 3, [5, 7, 0, 240, 0, 0]), (.return_, 1, [])])]
set_option maxRecDepth 100000 in
theorem ok_2 : chkM 2 seg_2 = true := by decide +kernel
-- Search_init
def seg_3 : SegL := [
  (0, [(.aload_n 0, 1, []), (.invokespecial 3, 3, [999, 1, 265, 157, 158])]),
  (4, [(.aload_n 0, 1, []), (.new 9, 3, [8, 8, 14, 301, 266, 160, 128]), (.dup, 1, []), (.invokespecial 11, 3, [0, 1, 267, 1, 1, 4, 20, 14, 301, 8])]),
  (12, [(.putfield 12, 3, [7, 0, 2, 268, 0, 1]), (.aload_n 0, 1, []), (.new 9, 3, [8, 8, 14, 301, 266, 160, 128]), (.dup, 1, []), (.invokespecial 11, 3, [0, 1, 267, 1, 1, 4, 20, 14, 301, 8])]),
  (23, [(.putfield 18, 3, [7, 1, 2, 269, 0, 1]), (.aload_n 0, 1, []), (.iconst 2, 1, []), (.newarray .int, 2, [14, 301]), (.putfield 21, 3, [7, 2, 2, 270, 0, 1]), (.aload_n 0, 1, []), (.bipush 81, 2, []), (.newarray .int, 2, [14, 301]), (.putfield 25, 3, [7, 8, 2, 279, 0, 1]), (.aload_n 0, 1, []), (.bipush 81, 2, []), (.newarray .int, 2, [14, 301]), (.putfield 28, 3, [7, 9, 2, 280, 0, 1]), (.aload_n 0, 1, []), (.bipush 81, 2, []), (.newarray .int, 2, [14, 301]), (.putfield 31, 3, [7, 10, 2, 281, 0, 1]), (.return_, 1, [])])]
set_option maxRecDepth 100000 in
theorem ok_3 : chkM 3 seg_3 = true := by decide +kernel
-- Names_init
def seg_4 : SegL := [
  (0, [(.aload_n 0, 1, []), (.invokespecial 3, 3, [999, 1, 321, 157, 158])]),
  (4, [(.aload_n 0, 1, []), (.bipush 8, 2, []), (.newarray .int, 2, [1, 8]), (.putfield 9, 3, [4, 0, 2, 325, 0, 1]), (.aload_n 0, 1, []), (.iload_n 1, 1, []), (.bipush 8, 2, []), (.invokestatic 15, 3, [997, 322, 323, 134, 324])]),
  (19, [(.putfield 21, 3, [4, 1, 0, 326, 0, 1]), (.return_, 1, [])])]
set_option maxRecDepth 100000 in
theorem ok_4 : chkM 4 seg_4 = true := by decide +kernel
-- Law_init
def seg_5 : SegL := [
  (0, [(.aload_n 0, 1, []), (.invokespecial 3, 3, [999, 1, 345, 157, 158])]),
  (4, [(.aload_n 0, 1, []), (.bipush 64, 2, []), (.newarray .int, 2, [2, 128]), (.putfield 9, 3, [2, 0, 2, 346, 0, 1]), (.aload_n 0, 1, []), (.bipush 64, 2, []), (.newarray .int, 2, [2, 128]), (.putfield 15, 3, [2, 1, 2, 347, 0, 1]), (.return_, 1, [])])]
set_option maxRecDepth 100000 in
theorem ok_5 : chkM 5 seg_5 = true := by decide +kernel
-- Court_init
def seg_6 : SegL := [
  (0, [(.aload_n 0, 1, []), (.invokespecial 3, 3, [999, 1, 315, 157, 158])]),
  (4, [(.aload_n 0, 1, []), (.new 9, 3, [4, 3, 23, 379, 316, 317, 133]), (.dup, 1, []), (.bipush 8, 2, []), (.invokespecial 11, 3, [4, 2, 318, 0, 2, 1, 8, 23, 379, 4])]),
  (14, [(.putfield 14, 3, [0, 0, 2, 361, 0, 1]), (.aload_n 0, 1, []), (.new 9, 3, [4, 3, 23, 379, 316, 317, 133]), (.dup, 1, []), (.iconst 5, 1, []), (.invokespecial 11, 3, [4, 2, 318, 0, 2, 1, 8, 23, 379, 4])]),
  (26, [(.putfield 20, 3, [0, 1, 2, 364, 0, 1]), (.aload_n 0, 1, []), (.new 9, 3, [4, 3, 23, 379, 316, 317, 133]), (.dup, 1, []), (.bipush 8, 2, []), (.invokespecial 11, 3, [4, 2, 318, 0, 2, 1, 8, 23, 379, 4])]),
  (39, [(.putfield 23, 3, [0, 2, 2, 370, 0, 1]), (.aload_n 0, 1, []), (.iconst 5, 1, []), (.newarray .int, 2, [23, 379]), (.putfield 26, 3, [0, 3, 2, 375, 0, 1]), (.aload_n 0, 1, []), (.iconst 5, 1, []), (.newarray .int, 2, [23, 379]), (.putfield 30, 3, [0, 4, 2, 379, 0, 1]), (.aload_n 0, 1, []), (.iconst 5, 1, []), (.newarray .int, 2, [23, 379]), (.putfield 33, 3, [0, 5, 2, 383, 0, 1]), (.aload_n 0, 1, []), (.iconst 5, 1, []), (.newarray .int, 2, [23, 379]), (.putfield 36, 3, [0, 6, 2, 386, 0, 1]), (.aload_n 0, 1, []), (.bipush 8, 2, []), (.newarray .int, 2, [23, 379]), (.putfield 39, 3, [0, 7, 2, 389, 0, 1]), (.aload_n 0, 1, []), (.bipush 8, 2, []), (.newarray .int, 2, [23, 379]), (.putfield 42, 3, [0, 8, 2, 393, 0, 1]), (.aload_n 0, 1, []), (.bipush 8, 2, []), (.newarray .int, 2, [23, 379]), (.putfield 45, 3, [0, 9, 2, 396, 0, 1]), (.aload_n 0, 1, []), (.bipush 8, 2, []), (.newarray .int, 2, [23, 379]), (.putfield 48, 3, [0, 10, 2, 399, 0, 1]), (.aload_n 0, 1, []), (.bipush 10, 2, []), (.newarray .int, 2, [23, 379]), (.putfield 51, 3, [0, 11, 2, 404, 0, 1]), (.aload_n 0, 1, []), (.bipush 10, 2, []), (.newarray .int, 2, [23, 379]), (.putfield 54, 3, [0, 12, 2, 407, 0, 1]), (.aload_n 0, 1, []), (.bipush 10, 2, []), (.newarray .int, 2, [23, 379]), (.putfield 57, 3, [0, 13, 2, 410, 0, 1]), (.aload_n 0, 1, []), (.new 60, 3, [2, 4, 23, 379, 340, 341, 135]), (.dup, 1, []), (.invokespecial 62, 3, [5, 1, 342, 1, 1, 2, 128, 23, 379, 2])]),
  (134, [(.putfield 63, 3, [0, 14, 2, 414, 0, 1]), (.aload_n 0, 1, []), (.new 60, 3, [2, 4, 23, 379, 340, 341, 135]), (.dup, 1, []), (.invokespecial 62, 3, [5, 1, 342, 1, 1, 2, 128, 23, 379, 2])]),
  (145, [(.putfield 67, 3, [0, 15, 2, 418, 0, 1]), (.aload_n 0, 1, []), (.bipush 9, 2, []), (.putfield 70, 3, [0, 17, 0, 426, 0, 0]), (.return_, 1, [])])]
set_option maxRecDepth 100000 in
theorem ok_6 : chkM 6 seg_6 = true := by decide +kernel
def seg_7 : SegL := []
theorem ok_7 : chkM 7 seg_7 = true := by decide +kernel
-- LawReader_init
def seg_8 : SegL := [
  (0, [(.aload_n 0, 1, []), (.invokespecial 3, 3, [999, 1, 570, 157, 158])]),
  (4, [(.aload_n 0, 1, []), (.bipush 72, 2, []), (.newarray .int, 2, [1, 72]), (.putfield 11, 3, [3, 1, 2, 572, 0, 1]), (.aload_n 0, 1, []), (.aload_n 1, 1, []), (.putfield 15, 3, [3, 0, 2, 571, 0, 1]), (.aload_n 0, 1, []), (.aload_n 2, 1, []), (.putfield 19, 3, [3, 6, 2, 577, 0, 0]), (.aload_n 0, 1, []), (.aload_n 2, 1, []), (.getfield 23, 3, [0, 14, 2, 413, 1]), (.putfield 29, 3, [3, 5, 2, 576, 0, 0]), (.return_, 1, [])])]
set_option maxRecDepth 100000 in
theorem ok_8 : chkM 8 seg_8 = true := by decide +kernel
-- TextReader_init
def seg_9 : SegL := [
  (0, [(.aload_n 0, 1, []), (.invokespecial 3, 3, [999, 1, 481, 157, 158])]),
  (4, [(.aload_n 0, 1, []), (.aload_n 2, 1, []), (.putfield 9, 3, [9, 2, 2, 595, 0, 0]), (.aload_n 0, 1, []), (.new 15, 3, [10, 7, 4, 111, 482, 483, 137]), (.dup, 1, []), (.aload_n 1, 1, []), (.invokespecial 17, 3, [7, 2, 484, 0, 5, 1, 25, 4, 111, 10])]),
  (18, [(.putfield 20, 3, [9, 0, 2, 593, 0, 1]), (.aload_n 0, 1, []), (.new 24, 3, [3, 7, 4, 111, 565, 566, 142]), (.dup, 1, []), (.aload_n 0, 1, []), (.getfield 20, 3, [9, 0, 2, 593, 0]), (.aload_n 2, 1, []), (.invokespecial 26, 3, [8, 3, 567, 0, 3, 1, 72, 4, 111, 3])]),
  (34, [(.putfield 29, 3, [9, 1, 2, 594, 0, 1]), (.return_, 1, [])])]
set_option maxRecDepth 100000 in
theorem ok_9 : chkM 9 seg_9 = true := by decide +kernel
-- Rules_init
def seg_10 : SegL := [
  (0, [(.aload_n 0, 1, []), (.invokespecial 3, 3, [999, 1, 621, 157, 158])]),
  (4, [(.aload_n 0, 1, []), (.bipush 7, 2, []), (.newarray .int, 2, [2, 71]), (.putfield 11, 3, [6, 0, 2, 622, 0, 1]), (.aload_n 0, 1, []), (.bipush 64, 2, []), (.newarray .long, 2, [2, 71]), (.putfield 17, 3, [6, 1, 2, 623, 0, 1]), (.aload_n 0, 1, []), (.iconst (-1), 1, []), (.putfield 21, 3, [6, 5, 0, 630, 0, 0]), (.aload_n 0, 1, []), (.aload_n 1, 1, []), (.putfield 25, 3, [6, 2, 2, 624, 0, 0]), (.return_, 1, [])])]
set_option maxRecDepth 100000 in
theorem ok_10 : chkM 10 seg_10 = true := by decide +kernel
-- AC_init
def seg_11 : SegL := [
  (0, [(.aload_n 0, 1, []), (.invokespecial 1, 3, [999, 1, 156, 157, 158])]),
  (4, [(.aload_n 0, 1, []), (.sipush 700, 3, []), (.newarray .int, 2, [196, 2827]), (.putfield 9, 3, [11, 0, 2, 654, 0, 1]), (.aload_n 0, 1, []), (.new 13, 3, [8, 8, 196, 2827, 159, 160, 128]), (.dup, 1, []), (.invokespecial 15, 3, [0, 1, 161, 1, 1, 4, 20, 196, 2827, 8])]),
  (21, [(.putfield 16, 3, [11, 1, 2, 655, 0, 1]), (.aload_n 0, 1, []), (.new 13, 3, [8, 8, 196, 2827, 159, 160, 128]), (.dup, 1, []), (.invokespecial 15, 3, [0, 1, 161, 1, 1, 4, 20, 196, 2827, 8])]),
  (32, [(.putfield 20, 3, [11, 2, 2, 656, 0, 1]), (.aload_n 0, 1, []), (.new 23, 3, [1, 3, 196, 2827, 206, 207, 129]), (.dup, 1, []), (.invokespecial 25, 3, [1, 1, 208, 0, 2, 101, 580, 196, 2827, 1])]),
  (43, [(.putfield 26, 3, [11, 3, 2, 657, 0, 1]), (.aload_n 0, 1, []), (.new 30, 3, [5, 8, 196, 2827, 226, 227, 130]), (.dup, 1, []), (.invokespecial 32, 3, [2, 1, 228, 1, 1, 6, 144, 196, 2827, 5])]),
  (54, [(.putfield 33, 3, [11, 4, 2, 658, 0, 1]), (.aload_n 0, 1, []), (.new 37, 3, [7, 12, 196, 2827, 260, 261, 131]), (.dup, 1, []), (.invokespecial 39, 3, [3, 1, 262, 1, 1, 14, 301, 196, 2827, 7])]),
  (65, [(.putfield 40, 3, [11, 5, 2, 659, 0, 1]), (.aload_n 0, 1, []), (.new 13, 3, [8, 8, 196, 2827, 159, 160, 128]), (.dup, 1, []), (.invokespecial 15, 3, [0, 1, 161, 1, 1, 4, 20, 196, 2827, 8])]),
  (76, [(.putfield 44, 3, [11, 6, 2, 660, 0, 1]), (.aload_n 0, 1, []), (.new 47, 3, [0, 20, 196, 2827, 310, 311, 132]), (.dup, 1, []), (.invokespecial 49, 3, [6, 1, 312, 1, 1, 23, 379, 196, 2827, 0])]),
  (87, [(.putfield 50, 3, [11, 7, 2, 661, 0, 0]), (.aload_n 0, 1, []), (.new 47, 3, [0, 20, 196, 2827, 310, 311, 132]), (.dup, 1, []), (.invokespecial 49, 3, [6, 1, 312, 1, 1, 23, 379, 196, 2827, 0])]),
  (98, [(.putfield 54, 3, [11, 8, 2, 662, 0, 0]), (.aload_n 0, 1, []), (.new 57, 3, [9, 7, 196, 2827, 476, 477, 136]), (.dup, 1, []), (.aload_n 0, 1, []), (.getfield 9, 3, [11, 0, 2, 654, 0]), (.aload_n 0, 1, []), (.getfield 54, 3, [11, 8, 2, 662, 0]), (.invokespecial 59, 3, [9, 3, 478, 0, 3, 4, 111, 196, 2827, 9])]),
  (117, [(.putfield 62, 3, [11, 9, 2, 663, 0, 1]), (.aload_n 0, 1, []), (.new 66, 3, [6, 8, 196, 2827, 616, 617, 143]), (.dup, 1, []), (.aload_n 0, 1, []), (.getfield 50, 3, [11, 7, 2, 661, 0]), (.invokespecial 68, 3, [10, 2, 618, 0, 2, 2, 71, 196, 2827, 6])]),
  (132, [(.putfield 71, 3, [11, 10, 2, 664, 0, 1]), (.aload_n 0, 1, []), (.iconst (-1), 1, []), (.putfield 75, 3, [11, 13, 0, 667, 0, 0]), (.return_, 1, [])])]
set_option maxRecDepth 100000 in
theorem ok_11 : chkM 11 seg_11 = true := by decide +kernel
-- MD_plain
def seg_12 : SegL := [
  (0, [(.aload_n 0, 1, []), (.iconst 0, 1, []), (.putfield 210, 3, [12, 17, 0, 1423, 0, 0]), (.aload_n 0, 1, []), (.iconst 0, 1, []), (.putfield 213, 3, [12, 18, 0, 1424, 0, 0]), (.aload_n 0, 1, []), (.iconst 0, 1, []), (.putfield 216, 3, [12, 19, 0, 1425, 0, 0]), (.aload_n 0, 1, []), (.iconst 0, 1, []), (.putfield 219, 3, [12, 20, 0, 1426, 0, 0]), (.aload_n 0, 1, []), (.iconst 0, 1, []), (.putfield 222, 3, [12, 21, 0, 1427, 0, 0]), (.aload_n 0, 1, []), (.iconst 0, 1, []), (.putfield 225, 3, [12, 49, 0, 1455, 0, 0]), (.iconst 0, 1, []), (.istore_n 1, 1, [])]),
  (32, [(.iload_n 1, 1, []), (.iconst 2, 1, []), (.if_icmp .ge 43, 3, [77])]),
  (37, [(.aload_n 0, 1, []), (.getfield 20, 3, [12, 22, 2, 1428, 0]), (.iload_n 1, 1, []), (.iconst 0, 1, []), (.bastore, 1, []), (.aload_n 0, 1, []), (.getfield 24, 3, [12, 23, 2, 1429, 0]), (.iconst 2, 1, []), (.iload_n 1, 1, []), (.iadd, 1, []), (.iload_n 1, 1, []), (.ifCond .ne 8, 3, [60])]),
  (55, [(.bipush 9, 2, []), (.goto 4, 3, [61])]),
  (60, [(.iconst 0, 1, [])]),
  (61, [(.iastore, 1, []), (.aload_n 0, 1, []), (.getfield 69, 3, [12, 38, 2, 1444, 0]), (.iconst 2, 1, []), (.iload_n 1, 1, []), (.iadd, 1, []), (.iconst 0, 1, []), (.bastore, 1, []), (.iinc 1 1, 3, []), (.goto (-42), 3, [32])]),
  (77, [(.return_, 1, [])])]
set_option maxRecDepth 100000 in
theorem ok_12 : chkM 12 seg_12 = true := by decide +kernel
-- MD_copies
def seg_13 : SegL := [
  (0, [(.iconst 0, 1, []), (.istore_n 2, 1, [])]),
  (2, [(.iload_n 2, 1, []), (.iload_n 1, 1, []), (.if_icmp .ge 17, 3, [21])]),
  (7, [(.aload_n 0, 1, []), (.iload_n 2, 1, []), (.aload_n 0, 1, []), (.iload_n 1, 1, []), (.iload_n 2, 1, []), (.iadd, 1, []), (.iaload, 1, []), (.iastore, 1, []), (.iinc 2 1, 3, []), (.goto (-16), 3, [2])]),
  (21, [(.return_, 1, [])])]
set_option maxRecDepth 100000 in
theorem ok_13 : chkM 13 seg_13 = true := by decide +kernel
-- MD_atFirst
def seg_14 : SegL := [
  (0, [(.iconst 0, 1, []), (.istore_n 2, 1, [])]),
  (2, [(.iload_n 2, 1, []), (.iconst 5, 1, []), (.if_icmp .ge 75, 3, [79])]),
  (7, [(.aload_n 0, 1, []), (.getfield 100, 3, [12, 55, 2, 1461, 0]), (.iconst 5, 1, []), (.iload_n 1, 1, []), (.imul, 1, []), (.iload_n 2, 1, []), (.iadd, 1, []), (.iload_n 2, 1, []), (.aload_n 0, 1, []), (.getfield 231, 3, [12, 13, 0, 1419, 0]), (.if_icmp .ge 12, 3, [33])]),
  (24, [(.aload_n 0, 1, []), (.getfield 42, 3, [12, 29, 2, 1435, 0]), (.iload_n 2, 1, []), (.iaload, 1, []), (.goto 4, 3, [34])]),
  (33, [(.iconst 0, 1, [])]),
  (34, [(.iastore, 1, []), (.aload_n 0, 1, []), (.getfield 103, 3, [12, 56, 2, 1462, 0]), (.iconst 5, 1, []), (.iload_n 1, 1, []), (.imul, 1, []), (.iload_n 2, 1, []), (.iadd, 1, []), (.iconst 0, 1, []), (.iastore, 1, []), (.aload_n 0, 1, []), (.getfield 106, 3, [12, 57, 2, 1463, 0]), (.iconst 5, 1, []), (.iload_n 1, 1, []), (.imul, 1, []), (.iload_n 2, 1, []), (.iadd, 1, []), (.aload_n 0, 1, []), (.getfield 39, 3, [12, 28, 2, 1434, 0]), (.iload_n 2, 1, []), (.iaload, 1, []), (.iastore, 1, []), (.aload_n 0, 1, []), (.getfield 109, 3, [12, 58, 2, 1464, 0]), (.iconst 5, 1, []), (.iload_n 1, 1, []), (.imul, 1, []), (.iload_n 2, 1, []), (.iadd, 1, []), (.iconst 0, 1, []), (.iastore, 1, []), (.iinc 2 1, 3, []), (.goto (-74), 3, [2])]),
  (79, [(.aload_n 0, 1, []), (.getfield 112, 3, [12, 59, 2, 1465, 0]), (.iload_n 1, 1, []), (.iconst 0, 1, []), (.iastore, 1, []), (.return_, 1, [])])]
set_option maxRecDepth 100000 in
theorem ok_14 : chkM 14 seg_14 = true := by decide +kernel
-- MD_plainTried
def seg_15 : SegL := [
  (0, [(.aload_n 0, 1, []), (.iconst 0, 1, []), (.putfield 383, 3, [12, 62, 3, 1468, 0, 0]), (.aload_n 0, 1, []), (.iconst 0, 1, []), (.putfield 386, 3, [12, 63, 3, 1469, 0, 0]), (.aload_n 0, 1, []), (.iconst 0, 1, []), (.putfield 389, 3, [12, 64, 3, 1470, 0, 0]), (.aload_n 0, 1, []), (.iconst 0, 1, []), (.putfield 392, 3, [12, 65, 3, 1471, 0, 0]), (.aload_n 0, 1, []), (.iconst 0, 1, []), (.putfield 395, 3, [12, 66, 0, 1472, 0, 0]), (.aload_n 0, 1, []), (.iconst (-1), 1, []), (.putfield 398, 3, [12, 67, 0, 1473, 0, 0]), (.return_, 1, [])])]
set_option maxRecDepth 100000 in
theorem ok_15 : chkM 15 seg_15 = true := by decide +kernel
-- MD_begin
def seg_16 : SegL := [
  (0, [(.aload_n 0, 1, []), (.iconst 0, 1, []), (.invokevirtual 361, 3, [14, 2, 1398, 0, 3, 0, 0, 0, 0, 12])]),
  (5, [(.aload_n 0, 1, []), (.iconst 0, 1, []), (.putfield 364, 3, [12, 60, 0, 1466, 0, 0]), (.aload_n 0, 1, []), (.aload_n 0, 1, []), (.getfield 24, 3, [12, 23, 2, 1429, 0]), (.iconst 1, 1, []), (.iaload, 1, []), (.i2l, 1, []), (.putfield 367, 3, [12, 61, 1, 1467, 0, 0]), (.aload_n 0, 1, []), (.invokevirtual 371, 3, [15, 1, 1402, 0, 1, 0, 0, 0, 0, 12])]),
  (25, [(.aload_n 0, 1, []), (.iconst 0, 1, []), (.putfield 374, 3, [12, 71, 0, 1477, 0, 0]), (.aload_n 0, 1, []), (.iconst (-1), 1, []), (.putfield 124, 3, [12, 72, 0, 1478, 0, 0]), (.aload_n 0, 1, []), (.iconst 0, 1, []), (.putfield 377, 3, [12, 75, 0, 1481, 0, 0]), (.aload_n 0, 1, []), (.iconst 0, 1, []), (.putfield 380, 3, [12, 78, 3, 1484, 0, 0]), (.return_, 1, [])])]
set_option maxRecDepth 100000 in
theorem ok_16 : chkM 16 seg_16 = true := by decide +kernel
-- MD_keepText
def seg_17 : SegL := [
  (0, [(.aload_n 0, 1, []), (.aload_n 0, 1, []), (.getfield 210, 3, [12, 17, 0, 1423, 0]), (.putfield 228, 3, [12, 12, 0, 1418, 0, 0]), (.aload_n 0, 1, []), (.aload_n 0, 1, []), (.getfield 213, 3, [12, 18, 0, 1424, 0]), (.putfield 231, 3, [12, 13, 0, 1419, 0, 0]), (.aload_n 0, 1, []), (.aload_n 0, 1, []), (.getfield 216, 3, [12, 19, 0, 1425, 0]), (.putfield 234, 3, [12, 14, 0, 1420, 0, 0]), (.aload_n 0, 1, []), (.aload_n 0, 1, []), (.getfield 219, 3, [12, 20, 0, 1426, 0]), (.putfield 237, 3, [12, 15, 0, 1421, 0, 0]), (.aload_n 0, 1, []), (.aload_n 0, 1, []), (.getfield 222, 3, [12, 21, 0, 1427, 0]), (.putfield 240, 3, [12, 16, 0, 1422, 0, 0]), (.aload_n 0, 1, []), (.getfield 24, 3, [12, 23, 2, 1429, 0]), (.iconst 2, 1, []), (.invokestatic 243, 3, [13, 2, 1391, 0, 3, 0, 0, 0, 0, 12])]),
  (48, [(.aload_n 0, 1, []), (.getfield 27, 3, [12, 24, 2, 1430, 0]), (.bipush 8, 2, []), (.invokestatic 243, 3, [13, 2, 1391, 0, 3, 0, 0, 0, 0, 12])]),
  (57, [(.aload_n 0, 1, []), (.getfield 30, 3, [12, 25, 2, 1431, 0]), (.iconst 5, 1, []), (.invokestatic 243, 3, [13, 2, 1391, 0, 3, 0, 0, 0, 0, 12])]),
  (65, [(.aload_n 0, 1, []), (.getfield 33, 3, [12, 26, 2, 1432, 0]), (.iconst 5, 1, []), (.invokestatic 243, 3, [13, 2, 1391, 0, 3, 0, 0, 0, 0, 12])]),
  (73, [(.aload_n 0, 1, []), (.getfield 36, 3, [12, 27, 2, 1433, 0]), (.iconst 5, 1, []), (.invokestatic 243, 3, [13, 2, 1391, 0, 3, 0, 0, 0, 0, 12])]),
  (81, [(.aload_n 0, 1, []), (.getfield 39, 3, [12, 28, 2, 1434, 0]), (.iconst 5, 1, []), (.invokestatic 243, 3, [13, 2, 1391, 0, 3, 0, 0, 0, 0, 12])]),
  (89, [(.aload_n 0, 1, []), (.getfield 42, 3, [12, 29, 2, 1435, 0]), (.iconst 5, 1, []), (.invokestatic 243, 3, [13, 2, 1391, 0, 3, 0, 0, 0, 0, 12])]),
  (97, [(.aload_n 0, 1, []), (.getfield 45, 3, [12, 30, 2, 1436, 0]), (.bipush 8, 2, []), (.invokestatic 243, 3, [13, 2, 1391, 0, 3, 0, 0, 0, 0, 12])]),
  (106, [(.aload_n 0, 1, []), (.getfield 48, 3, [12, 31, 2, 1437, 0]), (.bipush 8, 2, []), (.invokestatic 243, 3, [13, 2, 1391, 0, 3, 0, 0, 0, 0, 12])]),
  (115, [(.aload_n 0, 1, []), (.getfield 51, 3, [12, 32, 2, 1438, 0]), (.bipush 8, 2, []), (.invokestatic 243, 3, [13, 2, 1391, 0, 3, 0, 0, 0, 0, 12])]),
  (124, [(.aload_n 0, 1, []), (.getfield 54, 3, [12, 33, 2, 1439, 0]), (.bipush 8, 2, []), (.invokestatic 243, 3, [13, 2, 1391, 0, 3, 0, 0, 0, 0, 12])]),
  (133, [(.aload_n 0, 1, []), (.getfield 57, 3, [12, 34, 2, 1440, 0]), (.bipush 8, 2, []), (.invokestatic 243, 3, [13, 2, 1391, 0, 3, 0, 0, 0, 0, 12])]),
  (142, [(.aload_n 0, 1, []), (.getfield 60, 3, [12, 35, 2, 1441, 0]), (.bipush 10, 2, []), (.invokestatic 243, 3, [13, 2, 1391, 0, 3, 0, 0, 0, 0, 12])]),
  (151, [(.aload_n 0, 1, []), (.getfield 63, 3, [12, 36, 2, 1442, 0]), (.bipush 10, 2, []), (.invokestatic 243, 3, [13, 2, 1391, 0, 3, 0, 0, 0, 0, 12])]),
  (160, [(.aload_n 0, 1, []), (.getfield 66, 3, [12, 37, 2, 1443, 0]), (.bipush 10, 2, []), (.invokestatic 243, 3, [13, 2, 1391, 0, 3, 0, 0, 0, 0, 12])]),
  (169, [(.iconst 0, 1, []), (.istore_n 1, 1, [])]),
  (171, [(.iload_n 1, 1, []), (.iconst 2, 1, []), (.if_icmp .ge 23, 3, [196])]),
  (176, [(.aload_n 0, 1, []), (.getfield 69, 3, [12, 38, 2, 1444, 0]), (.iload_n 1, 1, []), (.aload_n 0, 1, []), (.getfield 69, 3, [12, 38, 2, 1444, 0]), (.iconst 2, 1, []), (.iload_n 1, 1, []), (.iadd, 1, []), (.baload, 1, []), (.bastore, 1, []), (.iinc 1 1, 3, []), (.goto (-22), 3, [171])]),
  (196, [(.aload_n 0, 1, []), (.getfield 72, 3, [12, 39, 2, 1445, 0]), (.iconst 2, 1, []), (.invokestatic 243, 3, [13, 2, 1391, 0, 3, 0, 0, 0, 0, 12])]),
  (204, [(.aload_n 0, 1, []), (.getfield 75, 3, [12, 40, 2, 1446, 0]), (.iconst 2, 1, []), (.invokestatic 243, 3, [13, 2, 1391, 0, 3, 0, 0, 0, 0, 12])]),
  (212, [(.aload_n 0, 1, []), (.getfield 78, 3, [12, 41, 2, 1447, 0]), (.bipush 64, 2, []), (.invokestatic 243, 3, [13, 2, 1391, 0, 3, 0, 0, 0, 0, 12])]),
  (221, [(.aload_n 0, 1, []), (.getfield 81, 3, [12, 42, 2, 1448, 0]), (.bipush 64, 2, []), (.invokestatic 243, 3, [13, 2, 1391, 0, 3, 0, 0, 0, 0, 12])]),
  (230, [(.aload_n 0, 1, []), (.getfield 84, 3, [12, 43, 2, 1449, 0]), (.bipush 64, 2, []), (.invokestatic 243, 3, [13, 2, 1391, 0, 3, 0, 0, 0, 0, 12])]),
  (239, [(.aload_n 0, 1, []), (.invokevirtual 247, 3, [16, 1, 1394, 0, 1, 0, 0, 0, 0, 12])]),
  (243, [(.return_, 1, [])])]
set_option maxRecDepth 100000 in
theorem ok_17 : chkM 17 seg_17 = true := by decide +kernel
-- MD_init
def seg_18_0 : SegL := [
  (0, [(.aload_n 0, 1, []), (.invokespecial 1, 3, [999, 1, 1382, 157, 158])])]
set_option maxRecDepth 100000 in
theorem seg_18_0_ok : chkM 18 seg_18_0 = true := by decide +kernel
def seg_18_1_c0 : List MI := [(.aload_n 0, 1, []), (.sipush 700, 3, []), (.newarray .int, 2, [41, 2503]), (.putfield 7, 3, [12, 0, 2, 1406, 0, 1]), (.aload_n 0, 1, []), (.bipush 124, 2, []), (.newarray .int, 2, [41, 2503]), (.dup, 1, []), (.iconst 0, 1, []), (.bipush 102, 2, []), (.iastore, 1, []), (.dup, 1, []), (.iconst 1, 1, []), (.bipush 97, 2, []), (.iastore, 1, []), (.dup, 1, []), (.iconst 2, 1, []), (.bipush 99, 2, []), (.iastore, 1, []), (.dup, 1, []), (.iconst 3, 1, []), (.bipush 116, 2, []), (.iastore, 1, []), (.dup, 1, []), (.iconst 4, 1, []), (.bipush 32, 2, []), (.iastore, 1, []), (.dup, 1, []), (.iconst 5, 1, []), (.bipush 112, 2, []), (.iastore, 1, []), (.dup, 1, []), (.bipush 6, 2, []), (.bipush 101, 2, []), (.iastore, 1, []), (.dup, 1, []), (.bipush 7, 2, []), (.bipush 114, 2, []), (.iastore, 1, []), (.dup, 1, []), (.bipush 8, 2, []), (.bipush 115, 2, []), (.iastore, 1, []), (.dup, 1, []), (.bipush 9, 2, []), (.bipush 111, 2, []), (.iastore, 1, []), (.dup, 1, []), (.bipush 10, 2, []), (.bipush 110, 2, [])]
set_option maxRecDepth 100000 in
theorem seg_18_1_k0 : chkS (mt 18) 4 seg_18_1_c0 = true := by decide +kernel
def seg_18_1_c1 : List MI := [(.iastore, 1, []), (.dup, 1, []), (.bipush 11, 2, []), (.bipush 32, 2, []), (.iastore, 1, []), (.dup, 1, []), (.bipush 12, 2, []), (.bipush 107, 2, []), (.iastore, 1, []), (.dup, 1, []), (.bipush 13, 2, []), (.bipush 110, 2, []), (.iastore, 1, []), (.dup, 1, []), (.bipush 14, 2, []), (.bipush 111, 2, []), (.iastore, 1, []), (.dup, 1, []), (.bipush 15, 2, []), (.bipush 119, 2, []), (.iastore, 1, []), (.dup, 1, []), (.bipush 16, 2, []), (.bipush 115, 2, []), (.iastore, 1, []), (.dup, 1, []), (.bipush 17, 2, []), (.bipush 32, 2, []), (.iastore, 1, []), (.dup, 1, []), (.bipush 18, 2, []), (.bipush 97, 2, []), (.iastore, 1, []), (.dup, 1, []), (.bipush 19, 2, []), (.bipush 115, 2, []), (.iastore, 1, []), (.dup, 1, []), (.bipush 20, 2, []), (.bipush 107, 2, []), (.iastore, 1, []), (.dup, 1, []), (.bipush 21, 2, []), (.bipush 32, 2, []), (.iastore, 1, []), (.dup, 1, []), (.bipush 22, 2, []), (.bipush 116, 2, []), (.iastore, 1, []), (.dup, 1, [])]
set_option maxRecDepth 100000 in
theorem seg_18_1_k1 : chkS (mt 18) 77 seg_18_1_c1 = true := by decide +kernel
def seg_18_1_c2 : List MI := [(.bipush 23, 2, []), (.bipush 97, 2, []), (.iastore, 1, []), (.dup, 1, []), (.bipush 24, 2, []), (.bipush 108, 2, []), (.iastore, 1, []), (.dup, 1, []), (.bipush 25, 2, []), (.bipush 107, 2, []), (.iastore, 1, []), (.dup, 1, []), (.bipush 26, 2, []), (.bipush 32, 2, []), (.iastore, 1, []), (.dup, 1, []), (.bipush 27, 2, []), (.bipush 110, 2, []), (.iastore, 1, []), (.dup, 1, []), (.bipush 28, 2, []), (.bipush 105, 2, []), (.iastore, 1, []), (.dup, 1, []), (.bipush 29, 2, []), (.bipush 110, 2, []), (.iastore, 1, []), (.dup, 1, []), (.bipush 30, 2, []), (.bipush 101, 2, []), (.iastore, 1, []), (.dup, 1, []), (.bipush 31, 2, []), (.bipush 32, 2, []), (.iastore, 1, []), (.dup, 1, []), (.bipush 32, 2, []), (.bipush 115, 2, []), (.iastore, 1, []), (.dup, 1, []), (.bipush 33, 2, []), (.bipush 101, 2, []), (.iastore, 1, []), (.dup, 1, []), (.bipush 34, 2, []), (.bipush 101, 2, []), (.iastore, 1, []), (.dup, 1, []), (.bipush 35, 2, []), (.bipush 100, 2, [])]
set_option maxRecDepth 100000 in
theorem seg_18_1_k2 : chkS (mt 18) 151 seg_18_1_c2 = true := by decide +kernel
def seg_18_1_c3 : List MI := [(.iastore, 1, []), (.dup, 1, []), (.bipush 36, 2, []), (.bipush 32, 2, []), (.iastore, 1, []), (.dup, 1, []), (.bipush 37, 2, []), (.bipush 108, 2, []), (.iastore, 1, []), (.dup, 1, []), (.bipush 38, 2, []), (.bipush 97, 2, []), (.iastore, 1, []), (.dup, 1, []), (.bipush 39, 2, []), (.bipush 119, 2, []), (.iastore, 1, []), (.dup, 1, []), (.bipush 40, 2, []), (.bipush 32, 2, []), (.iastore, 1, []), (.dup, 1, []), (.bipush 41, 2, []), (.bipush 112, 2, []), (.iastore, 1, []), (.dup, 1, []), (.bipush 42, 2, []), (.bipush 108, 2, []), (.iastore, 1, []), (.dup, 1, []), (.bipush 43, 2, []), (.bipush 97, 2, []), (.iastore, 1, []), (.dup, 1, []), (.bipush 44, 2, []), (.bipush 105, 2, []), (.iastore, 1, []), (.dup, 1, []), (.bipush 45, 2, []), (.bipush 110, 2, []), (.iastore, 1, []), (.dup, 1, []), (.bipush 46, 2, []), (.bipush 32, 2, []), (.iastore, 1, []), (.dup, 1, []), (.bipush 47, 2, []), (.bipush 100, 2, []), (.iastore, 1, []), (.dup, 1, [])]
set_option maxRecDepth 100000 in
theorem seg_18_1_k3 : chkS (mt 18) 227 seg_18_1_c3 = true := by decide +kernel
def seg_18_1_c4 : List MI := [(.bipush 48, 2, []), (.bipush 111, 2, []), (.iastore, 1, []), (.dup, 1, []), (.bipush 49, 2, []), (.bipush 117, 2, []), (.iastore, 1, []), (.dup, 1, []), (.bipush 50, 2, []), (.bipush 98, 2, []), (.iastore, 1, []), (.dup, 1, []), (.bipush 51, 2, []), (.bipush 108, 2, []), (.iastore, 1, []), (.dup, 1, []), (.bipush 52, 2, []), (.bipush 101, 2, []), (.iastore, 1, []), (.dup, 1, []), (.bipush 53, 2, []), (.bipush 32, 2, []), (.iastore, 1, []), (.dup, 1, []), (.bipush 54, 2, []), (.bipush 98, 2, []), (.iastore, 1, []), (.dup, 1, []), (.bipush 55, 2, []), (.bipush 97, 2, []), (.iastore, 1, []), (.dup, 1, []), (.bipush 56, 2, []), (.bipush 99, 2, []), (.iastore, 1, []), (.dup, 1, []), (.bipush 57, 2, []), (.bipush 107, 2, []), (.iastore, 1, []), (.dup, 1, []), (.bipush 58, 2, []), (.bipush 32, 2, []), (.iastore, 1, []), (.dup, 1, []), (.bipush 59, 2, []), (.bipush 105, 2, []), (.iastore, 1, []), (.dup, 1, []), (.bipush 60, 2, []), (.bipush 100, 2, [])]
set_option maxRecDepth 100000 in
theorem seg_18_1_k4 : chkS (mt 18) 301 seg_18_1_c4 = true := by decide +kernel
def seg_18_1_c5 : List MI := [(.iastore, 1, []), (.dup, 1, []), (.bipush 61, 2, []), (.bipush 108, 2, []), (.iastore, 1, []), (.dup, 1, []), (.bipush 62, 2, []), (.bipush 101, 2, []), (.iastore, 1, []), (.dup, 1, []), (.bipush 63, 2, []), (.bipush 32, 2, []), (.iastore, 1, []), (.dup, 1, []), (.bipush 64, 2, []), (.bipush 110, 2, []), (.iastore, 1, []), (.dup, 1, []), (.bipush 65, 2, []), (.bipush 111, 2, []), (.iastore, 1, []), (.dup, 1, []), (.bipush 66, 2, []), (.bipush 110, 2, []), (.iastore, 1, []), (.dup, 1, []), (.bipush 67, 2, []), (.bipush 101, 2, []), (.iastore, 1, []), (.dup, 1, []), (.bipush 68, 2, []), (.bipush 32, 2, []), (.iastore, 1, []), (.dup, 1, []), (.bipush 69, 2, []), (.bipush 115, 2, []), (.iastore, 1, []), (.dup, 1, []), (.bipush 70, 2, []), (.bipush 108, 2, []), (.iastore, 1, []), (.dup, 1, []), (.bipush 71, 2, []), (.bipush 105, 2, []), (.iastore, 1, []), (.dup, 1, []), (.bipush 72, 2, []), (.bipush 112, 2, []), (.iastore, 1, []), (.dup, 1, [])]
set_option maxRecDepth 100000 in
theorem seg_18_1_k5 : chkS (mt 18) 377 seg_18_1_c5 = true := by decide +kernel
def seg_18_1_c6 : List MI := [(.bipush 73, 2, []), (.bipush 32, 2, []), (.iastore, 1, []), (.dup, 1, []), (.bipush 74, 2, []), (.bipush 104, 2, []), (.iastore, 1, []), (.dup, 1, []), (.bipush 75, 2, []), (.bipush 101, 2, []), (.iastore, 1, []), (.dup, 1, []), (.bipush 76, 2, []), (.bipush 97, 2, []), (.iastore, 1, []), (.dup, 1, []), (.bipush 77, 2, []), (.bipush 114, 2, []), (.iastore, 1, []), (.dup, 1, []), (.bipush 78, 2, []), (.bipush 32, 2, []), (.iastore, 1, []), (.dup, 1, []), (.bipush 79, 2, []), (.bipush 97, 2, []), (.iastore, 1, []), (.dup, 1, []), (.bipush 80, 2, []), (.bipush 110, 2, []), (.iastore, 1, []), (.dup, 1, []), (.bipush 81, 2, []), (.bipush 100, 2, []), (.iastore, 1, []), (.dup, 1, []), (.bipush 82, 2, []), (.bipush 32, 2, []), (.iastore, 1, []), (.dup, 1, []), (.bipush 83, 2, []), (.bipush 111, 2, []), (.iastore, 1, []), (.dup, 1, []), (.bipush 84, 2, []), (.bipush 114, 2, []), (.iastore, 1, []), (.dup, 1, []), (.bipush 85, 2, []), (.bipush 32, 2, [])]
set_option maxRecDepth 100000 in
theorem seg_18_1_k6 : chkS (mt 18) 451 seg_18_1_c6 = true := by decide +kernel
def seg_18_1_c7 : List MI := [(.iastore, 1, []), (.dup, 1, []), (.bipush 86, 2, []), (.bipush 110, 2, []), (.iastore, 1, []), (.dup, 1, []), (.bipush 87, 2, []), (.bipush 111, 2, []), (.iastore, 1, []), (.dup, 1, []), (.bipush 88, 2, []), (.bipush 116, 2, []), (.iastore, 1, []), (.dup, 1, []), (.bipush 89, 2, []), (.bipush 32, 2, []), (.iastore, 1, []), (.dup, 1, []), (.bipush 90, 2, []), (.bipush 108, 2, []), (.iastore, 1, []), (.dup, 1, []), (.bipush 91, 2, []), (.bipush 105, 2, []), (.iastore, 1, []), (.dup, 1, []), (.bipush 92, 2, []), (.bipush 112, 2, []), (.iastore, 1, []), (.dup, 1, []), (.bipush 93, 2, []), (.bipush 115, 2, []), (.iastore, 1, []), (.dup, 1, []), (.bipush 94, 2, []), (.bipush 32, 2, []), (.iastore, 1, []), (.dup, 1, []), (.bipush 95, 2, []), (.bipush 119, 2, []), (.iastore, 1, []), (.dup, 1, []), (.bipush 96, 2, []), (.bipush 105, 2, []), (.iastore, 1, []), (.dup, 1, []), (.bipush 97, 2, []), (.bipush 116, 2, []), (.iastore, 1, []), (.dup, 1, [])]
set_option maxRecDepth 100000 in
theorem seg_18_1_k7 : chkS (mt 18) 527 seg_18_1_c7 = true := by decide +kernel
def seg_18_1_c8 : List MI := [(.bipush 98, 2, []), (.bipush 32, 2, []), (.iastore, 1, []), (.dup, 1, []), (.bipush 99, 2, []), (.bipush 108, 2, []), (.iastore, 1, []), (.dup, 1, []), (.bipush 100, 2, []), (.bipush 111, 2, []), (.iastore, 1, []), (.dup, 1, []), (.bipush 101, 2, []), (.bipush 115, 2, []), (.iastore, 1, []), (.dup, 1, []), (.bipush 102, 2, []), (.bipush 116, 2, []), (.iastore, 1, []), (.dup, 1, []), (.bipush 103, 2, []), (.bipush 32, 2, []), (.iastore, 1, []), (.dup, 1, []), (.bipush 104, 2, []), (.bipush 104, 2, []), (.iastore, 1, []), (.dup, 1, []), (.bipush 105, 2, []), (.bipush 101, 2, []), (.iastore, 1, []), (.dup, 1, []), (.bipush 106, 2, []), (.bipush 97, 2, []), (.iastore, 1, []), (.dup, 1, []), (.bipush 107, 2, []), (.bipush 114, 2, []), (.iastore, 1, []), (.dup, 1, []), (.bipush 108, 2, []), (.bipush 100, 2, []), (.iastore, 1, []), (.dup, 1, []), (.bipush 109, 2, []), (.bipush 32, 2, []), (.iastore, 1, []), (.dup, 1, []), (.bipush 110, 2, []), (.bipush 114, 2, [])]
set_option maxRecDepth 100000 in
theorem seg_18_1_k8 : chkS (mt 18) 601 seg_18_1_c8 = true := by decide +kernel
def seg_18_1_c9 : List MI := [(.iastore, 1, []), (.dup, 1, []), (.bipush 111, 2, []), (.bipush 111, 2, []), (.iastore, 1, []), (.dup, 1, []), (.bipush 112, 2, []), (.bipush 111, 2, []), (.iastore, 1, []), (.dup, 1, []), (.bipush 113, 2, []), (.bipush 109, 2, []), (.iastore, 1, []), (.dup, 1, []), (.bipush 114, 2, []), (.bipush 32, 2, []), (.iastore, 1, []), (.dup, 1, []), (.bipush 115, 2, []), (.bipush 107, 2, []), (.iastore, 1, []), (.dup, 1, []), (.bipush 116, 2, []), (.bipush 105, 2, []), (.iastore, 1, []), (.dup, 1, []), (.bipush 117, 2, []), (.bipush 110, 2, []), (.iastore, 1, []), (.dup, 1, []), (.bipush 118, 2, []), (.bipush 100, 2, []), (.iastore, 1, []), (.dup, 1, []), (.bipush 119, 2, []), (.bipush 32, 2, []), (.iastore, 1, []), (.dup, 1, []), (.bipush 120, 2, []), (.bipush 100, 2, []), (.iastore, 1, []), (.dup, 1, []), (.bipush 121, 2, []), (.bipush 97, 2, []), (.iastore, 1, []), (.dup, 1, []), (.bipush 122, 2, []), (.bipush 121, 2, []), (.iastore, 1, []), (.dup, 1, [])]
set_option maxRecDepth 100000 in
theorem seg_18_1_k9 : chkS (mt 18) 677 seg_18_1_c9 = true := by decide +kernel
def seg_18_1_c10 : List MI := [(.bipush 123, 2, []), (.bipush 32, 2, []), (.iastore, 1, []), (.putfield 13, 3, [12, 3, 2, 1409, 0, 1]), (.aload_n 0, 1, []), (.iconst (-1), 1, []), (.putfield 16, 3, [12, 5, 0, 1411, 0, 0]), (.aload_n 0, 1, []), (.iconst 2, 1, []), (.newarray .boolean, 2, [41, 2503]), (.putfield 20, 3, [12, 22, 2, 1428, 0, 1]), (.aload_n 0, 1, []), (.iconst 4, 1, []), (.newarray .int, 2, [41, 2503]), (.putfield 24, 3, [12, 23, 2, 1429, 0, 1]), (.aload_n 0, 1, []), (.bipush 16, 2, []), (.newarray .int, 2, [41, 2503]), (.putfield 27, 3, [12, 24, 2, 1430, 0, 1]), (.aload_n 0, 1, []), (.bipush 10, 2, []), (.newarray .int, 2, [41, 2503]), (.putfield 30, 3, [12, 25, 2, 1431, 0, 1]), (.aload_n 0, 1, []), (.bipush 10, 2, []), (.newarray .int, 2, [41, 2503]), (.putfield 33, 3, [12, 26, 2, 1432, 0, 1]), (.aload_n 0, 1, []), (.bipush 10, 2, []), (.newarray .int, 2, [41, 2503]), (.putfield 36, 3, [12, 27, 2, 1433, 0, 1]), (.aload_n 0, 1, []), (.bipush 10, 2, []), (.newarray .int, 2, [41, 2503]), (.putfield 39, 3, [12, 28, 2, 1434, 0, 1]), (.aload_n 0, 1, []), (.bipush 10, 2, []), (.newarray .int, 2, [41, 2503]), (.putfield 42, 3, [12, 29, 2, 1435, 0, 1]), (.aload_n 0, 1, []), (.bipush 16, 2, []), (.newarray .int, 2, [41, 2503]), (.putfield 45, 3, [12, 30, 2, 1436, 0, 1]), (.aload_n 0, 1, []), (.bipush 16, 2, []), (.newarray .int, 2, [41, 2503]), (.putfield 48, 3, [12, 31, 2, 1437, 0, 1]), (.aload_n 0, 1, []), (.bipush 16, 2, []), (.newarray .int, 2, [41, 2503])]
set_option maxRecDepth 100000 in
theorem seg_18_1_k10 : chkS (mt 18) 751 seg_18_1_c10 = true := by decide +kernel
def seg_18_1_c11 : List MI := [(.putfield 51, 3, [12, 32, 2, 1438, 0, 1]), (.aload_n 0, 1, []), (.bipush 16, 2, []), (.newarray .int, 2, [41, 2503]), (.putfield 54, 3, [12, 33, 2, 1439, 0, 1]), (.aload_n 0, 1, []), (.bipush 16, 2, []), (.newarray .int, 2, [41, 2503]), (.putfield 57, 3, [12, 34, 2, 1440, 0, 1]), (.aload_n 0, 1, []), (.bipush 20, 2, []), (.newarray .int, 2, [41, 2503]), (.putfield 60, 3, [12, 35, 2, 1441, 0, 1]), (.aload_n 0, 1, []), (.bipush 20, 2, []), (.newarray .int, 2, [41, 2503]), (.putfield 63, 3, [12, 36, 2, 1442, 0, 1]), (.aload_n 0, 1, []), (.bipush 20, 2, []), (.newarray .int, 2, [41, 2503]), (.putfield 66, 3, [12, 37, 2, 1443, 0, 1]), (.aload_n 0, 1, []), (.iconst 4, 1, []), (.newarray .boolean, 2, [41, 2503]), (.putfield 69, 3, [12, 38, 2, 1444, 0, 1]), (.aload_n 0, 1, []), (.iconst 4, 1, []), (.newarray .int, 2, [41, 2503]), (.putfield 72, 3, [12, 39, 2, 1445, 0, 1]), (.aload_n 0, 1, []), (.iconst 4, 1, []), (.newarray .int, 2, [41, 2503]), (.putfield 75, 3, [12, 40, 2, 1446, 0, 1]), (.aload_n 0, 1, []), (.sipush 128, 3, []), (.newarray .int, 2, [41, 2503]), (.putfield 78, 3, [12, 41, 2, 1447, 0, 1]), (.aload_n 0, 1, []), (.sipush 128, 3, []), (.newarray .int, 2, [41, 2503]), (.putfield 81, 3, [12, 42, 2, 1448, 0, 1]), (.aload_n 0, 1, []), (.sipush 128, 3, []), (.newarray .int, 2, [41, 2503]), (.putfield 84, 3, [12, 43, 2, 1449, 0, 1]), (.aload_n 0, 1, []), (.bipush 96, 2, []), (.newarray .int, 2, [41, 2503]), (.putfield 87, 3, [12, 44, 2, 1450, 0, 1]), (.aload_n 0, 1, [])]
set_option maxRecDepth 100000 in
theorem seg_18_1_k11 : chkS (mt 18) 847 seg_18_1_c11 = true := by decide +kernel
def seg_18_1_c12 : List MI := [(.bipush 96, 2, []), (.newarray .int, 2, [41, 2503]), (.putfield 90, 3, [12, 45, 2, 1451, 0, 1]), (.aload_n 0, 1, []), (.bipush 7, 2, []), (.newarray .long, 2, [41, 2503]), (.putfield 93, 3, [12, 52, 2, 1458, 0, 1]), (.aload_n 0, 1, []), (.bipush 64, 2, []), (.newarray .long, 2, [41, 2503]), (.putfield 97, 3, [12, 53, 2, 1459, 0, 1]), (.aload_n 0, 1, []), (.bipush 10, 2, []), (.newarray .int, 2, [41, 2503]), (.putfield 100, 3, [12, 55, 2, 1461, 0, 1]), (.aload_n 0, 1, []), (.bipush 10, 2, []), (.newarray .int, 2, [41, 2503]), (.putfield 103, 3, [12, 56, 2, 1462, 0, 1]), (.aload_n 0, 1, []), (.bipush 10, 2, []), (.newarray .int, 2, [41, 2503]), (.putfield 106, 3, [12, 57, 2, 1463, 0, 1]), (.aload_n 0, 1, []), (.bipush 10, 2, []), (.newarray .int, 2, [41, 2503]), (.putfield 109, 3, [12, 58, 2, 1464, 0, 1]), (.aload_n 0, 1, []), (.iconst 2, 1, []), (.newarray .int, 2, [41, 2503]), (.putfield 112, 3, [12, 59, 2, 1465, 0, 1]), (.aload_n 0, 1, []), (.iconst 2, 1, []), (.newarray .int, 2, [41, 2503]), (.putfield 115, 3, [12, 68, 2, 1474, 0, 1]), (.aload_n 0, 1, []), (.bipush 81, 2, []), (.newarray .int, 2, [41, 2503]), (.putfield 118, 3, [12, 69, 2, 1475, 0, 1]), (.aload_n 0, 1, []), (.bipush 81, 2, []), (.newarray .int, 2, [41, 2503]), (.putfield 121, 3, [12, 70, 2, 1476, 0, 1]), (.aload_n 0, 1, []), (.iconst (-1), 1, []), (.putfield 124, 3, [12, 72, 0, 1478, 0, 0]), (.aload_n 0, 1, []), (.bipush 96, 2, []), (.newarray .int, 2, [41, 2503]), (.putfield 127, 3, [12, 73, 2, 1479, 0, 1])]
set_option maxRecDepth 100000 in
theorem seg_18_1_k12 : chkS (mt 18) 947 seg_18_1_c12 = true := by decide +kernel
def seg_18_1_c13 : List MI := [(.aload_n 0, 1, []), (.bipush 24, 2, []), (.newarray .boolean, 2, [41, 2503]), (.putfield 130, 3, [12, 74, 2, 1480, 0, 1]), (.aload_n 0, 1, []), (.sipush 440, 3, []), (.newarray .int, 2, [41, 2503]), (.putfield 133, 3, [12, 76, 2, 1482, 0, 1]), (.aload_n 0, 1, []), (.bipush 20, 2, []), (.newarray .long, 2, [41, 2503]), (.putfield 136, 3, [12, 77, 2, 1483, 0, 1]), (.aload_n 0, 1, []), (.bipush 22, 2, []), (.newarray .int, 2, [41, 2503]), (.putfield 139, 3, [12, 79, 2, 1485, 0, 1]), (.aload_n 0, 1, []), (.invokevirtual 142, 3, [12, 1, 1383, 0, 2, 0, 0, 41, 2503, 12])]
set_option maxRecDepth 100000 in
theorem seg_18_1_k13 : chkS (mt 18) 1045 seg_18_1_c13 = true := by decide +kernel
def seg_18_1 : SegL := [(4, seg_18_1_c0 ++ (seg_18_1_c1 ++ (seg_18_1_c2 ++ (seg_18_1_c3 ++ (seg_18_1_c4 ++ (seg_18_1_c5 ++ (seg_18_1_c6 ++ (seg_18_1_c7 ++ (seg_18_1_c8 ++ (seg_18_1_c9 ++ (seg_18_1_c10 ++ (seg_18_1_c11 ++ (seg_18_1_c12 ++ (seg_18_1_c13))))))))))))))]
theorem seg_18_1_ok : chkM 18 seg_18_1 = true := chkM_one _ _ _ (chkS_app _ _ _ 4 77 (by decide +kernel) seg_18_1_k0 (chkS_app _ _ _ 77 151 (by decide +kernel) seg_18_1_k1 (chkS_app _ _ _ 151 227 (by decide +kernel) seg_18_1_k2 (chkS_app _ _ _ 227 301 (by decide +kernel) seg_18_1_k3 (chkS_app _ _ _ 301 377 (by decide +kernel) seg_18_1_k4 (chkS_app _ _ _ 377 451 (by decide +kernel) seg_18_1_k5 (chkS_app _ _ _ 451 527 (by decide +kernel) seg_18_1_k6 (chkS_app _ _ _ 527 601 (by decide +kernel) seg_18_1_k7 (chkS_app _ _ _ 601 677 (by decide +kernel) seg_18_1_k8 (chkS_app _ _ _ 677 751 (by decide +kernel) seg_18_1_k9 (chkS_app _ _ _ 751 847 (by decide +kernel) seg_18_1_k10 (chkS_app _ _ _ 847 947 (by decide +kernel) seg_18_1_k11 (chkS_app _ _ _ 947 1045 (by decide +kernel) seg_18_1_k12 seg_18_1_k13)))))))))))))
def seg_18_2 : SegL := [
  (1082, [(.aload_n 0, 1, []), (.invokevirtual 145, 3, [17, 1, 1387, 0, 2, 0, 0, 41, 2503, 12])]),
  (1086, [(.return_, 1, [])])]
set_option maxRecDepth 100000 in
theorem seg_18_2_ok : chkM 18 seg_18_2 = true := by decide +kernel
def seg_18 : SegL := seg_18_0 ++ (seg_18_1 ++ (seg_18_2))
theorem ok_18 : chkM 18 seg_18 = true := (chkM_app _ _ _ seg_18_0_ok (chkM_app _ _ _ seg_18_1_ok seg_18_2_ok))
-- AC_putBytes
def seg_19 : SegL := [
  (0, [(.bipush 24, 2, []), (.istore_n 2, 1, [])]),
  (3, [(.iload_n 2, 1, []), (.ifCond .lt 47, 3, [51])]),
  (7, [(.aload_n 0, 1, []), (.getfield 79, 3, [11, 11, 0, 665, 0]), (.aload_n 0, 1, []), (.getfield 9, 3, [11, 0, 2, 654, 0]), (.arraylength, 1, []), (.if_icmp .ge 35, 3, [51])]),
  (19, [(.aload_n 0, 1, []), (.getfield 9, 3, [11, 0, 2, 654, 0]), (.aload_n 0, 1, []), (.getfield 79, 3, [11, 11, 0, 665, 0]), (.iload_n 1, 1, []), (.iload_n 2, 1, []), (.ishr, 1, []), (.sipush 255, 3, []), (.iand, 1, []), (.iastore, 1, []), (.aload_n 0, 1, []), (.dup, 1, []), (.getfield 79, 3, [11, 11, 0, 665, 0]), (.iconst 1, 1, []), (.iadd, 1, []), (.putfield 79, 3, [11, 11, 0, 665, 0, 0]), (.iinc 2 (-8), 3, []), (.goto (-45), 3, [3])]),
  (51, [(.return_, 1, [])])]
set_option maxRecDepth 100000 in
theorem ok_19 : chkM 19 seg_19 = true := by decide +kernel
-- AC_feed
def seg_20 : SegL := [
  (0, [(.aload_n 0, 1, []), (.getfield 79, 3, [11, 11, 0, 665, 0]), (.sipush 680, 3, []), (.if_icmp .le 5, 3, [12])]),
  (10, [(.iconst (-1), 1, []), (.ireturn, 1, [0])]),
  (12, [(.aload_n 0, 1, []), (.iload_n 1, 1, []), (.invokevirtual 82, 3, [19, 2, 704, 0, 3, 0, 0, 0, 0, 11])]),
  (17, [(.aload_n 0, 1, []), (.iload_n 2, 1, []), (.invokevirtual 82, 3, [19, 2, 704, 0, 3, 0, 0, 0, 0, 11])]),
  (22, [(.aload_n 0, 1, []), (.iload_n 3, 1, []), (.invokevirtual 82, 3, [19, 2, 704, 0, 3, 0, 0, 0, 0, 11])]),
  (27, [(.aload_n 0, 1, []), (.iload 4, 2, []), (.invokevirtual 82, 3, [19, 2, 704, 0, 3, 0, 0, 0, 0, 11])]),
  (33, [(.aload_n 0, 1, []), (.iload 5, 2, []), (.invokevirtual 82, 3, [19, 2, 704, 0, 3, 0, 0, 0, 0, 11])]),
  (39, [(.aload_n 0, 1, []), (.getfield 79, 3, [11, 11, 0, 665, 0]), (.ireturn, 1, [0])])]
set_option maxRecDepth 100000 in
theorem ok_20 : chkM 20 seg_20 = true := by decide +kernel
-- MD_feed
def seg_21 : SegL := [
  (0, [(.aload_n 0, 1, []), (.iconst 0, 1, []), (.putfield 148, 3, [12, 2, 0, 1408, 0, 0]), (.aload_n 0, 1, []), (.getfield 151, 3, [12, 1, 0, 1407, 0]), (.bipush 20, 2, []), (.iadd, 1, []), (.sipush 700, 3, []), (.if_icmp .le 5, 3, [20])]),
  (18, [(.iconst (-1), 1, []), (.ireturn, 1, [0])]),
  (20, [(.iconst 0, 1, []), (.istore 6, 2, [])]),
  (23, [(.iload 6, 2, []), (.bipush 20, 2, []), (.if_icmp .ge 86, 3, [113])]),
  (30, [(.iload 6, 2, []), (.iconst 4, 1, []), (.if_icmp .ge 7, 3, [40])]),
  (36, [(.iload_n 1, 1, []), (.goto 39, 3, [76])]),
  (40, [(.iload 6, 2, []), (.bipush 8, 2, []), (.if_icmp .ge 7, 3, [51])]),
  (47, [(.iload_n 2, 1, []), (.goto 28, 3, [76])]),
  (51, [(.iload 6, 2, []), (.bipush 12, 2, []), (.if_icmp .ge 7, 3, [62])]),
  (58, [(.iload_n 3, 1, []), (.goto 17, 3, [76])]),
  (62, [(.iload 6, 2, []), (.bipush 16, 2, []), (.if_icmp .ge 8, 3, [74])]),
  (69, [(.iload 4, 2, []), (.goto 5, 3, [76])]),
  (74, [(.iload 5, 2, [])]),
  (76, [(.istore 7, 2, []), (.aload_n 0, 1, []), (.getfield 7, 3, [12, 0, 2, 1406, 0]), (.aload_n 0, 1, []), (.getfield 151, 3, [12, 1, 0, 1407, 0]), (.iload 6, 2, []), (.iadd, 1, []), (.iload 7, 2, []), (.bipush 24, 2, []), (.bipush 8, 2, []), (.iload 6, 2, []), (.iconst 4, 1, []), (.irem, 1, []), (.imul, 1, []), (.isub, 1, []), (.ishr, 1, []), (.sipush 255, 3, []), (.iand, 1, []), (.iastore, 1, []), (.iinc 6 1, 3, []), (.goto (-87), 3, [23])]),
  (113, [(.aload_n 0, 1, []), (.dup, 1, []), (.getfield 151, 3, [12, 1, 0, 1407, 0]), (.bipush 20, 2, []), (.iadd, 1, []), (.putfield 151, 3, [12, 1, 0, 1407, 0, 0]), (.aload_n 0, 1, []), (.getfield 151, 3, [12, 1, 0, 1407, 0]), (.ireturn, 1, [0])])]
set_option maxRecDepth 100000 in
theorem ok_21 : chkM 21 seg_21 = true := by decide +kernel
-- Names_clear
def seg_22 : SegL := [
  (0, [(.aload_n 0, 1, []), (.iconst 0, 1, []), (.putfield 25, 3, [4, 2, 0, 327, 0, 0]), (.return_, 1, [])])]
set_option maxRecDepth 100000 in
theorem ok_22 : chkM 22 seg_22 = true := by decide +kernel
-- Law_clear
def seg_23 : SegL := [
  (0, [(.aload_n 0, 1, []), (.iconst 0, 1, []), (.putfield 18, 3, [2, 2, 0, 348, 0, 0]), (.aload_n 0, 1, []), (.iconst 0, 1, []), (.putfield 22, 3, [2, 3, 3, 349, 0, 0]), (.return_, 1, [])])]
set_option maxRecDepth 100000 in
theorem ok_23 : chkM 23 seg_23 = true := by decide +kernel
-- Court_clear
def seg_24 : SegL := [
  (0, [(.aload_n 0, 1, []), (.getfield 14, 3, [0, 0, 2, 361, 0]), (.invokevirtual 74, 3, [22, 1, 720, 0, 1, 0, 0, 0, 0, 4])]),
  (7, [(.aload_n 0, 1, []), (.getfield 20, 3, [0, 1, 2, 364, 0]), (.invokevirtual 74, 3, [22, 1, 720, 0, 1, 0, 0, 0, 0, 4])]),
  (14, [(.aload_n 0, 1, []), (.getfield 23, 3, [0, 2, 2, 370, 0]), (.invokevirtual 74, 3, [22, 1, 720, 0, 1, 0, 0, 0, 0, 4])]),
  (21, [(.aload_n 0, 1, []), (.getfield 63, 3, [0, 14, 2, 414, 0]), (.invokevirtual 77, 3, [23, 1, 724, 0, 1, 0, 0, 0, 0, 2])]),
  (28, [(.aload_n 0, 1, []), (.getfield 67, 3, [0, 15, 2, 418, 0]), (.invokevirtual 77, 3, [23, 1, 724, 0, 1, 0, 0, 0, 0, 2])]),
  (35, [(.aload_n 0, 1, []), (.iconst 0, 1, []), (.putfield 78, 3, [0, 16, 0, 422, 0, 0]), (.aload_n 0, 1, []), (.bipush 9, 2, []), (.putfield 70, 3, [0, 17, 0, 426, 0, 0]), (.aload_n 0, 1, []), (.iconst 0, 1, []), (.putfield 81, 3, [0, 18, 0, 429, 0, 0]), (.aload_n 0, 1, []), (.iconst 0, 1, []), (.putfield 84, 3, [0, 19, 0, 432, 0, 0]), (.return_, 1, [])])]
set_option maxRecDepth 100000 in
theorem ok_24 : chkM 24 seg_24 = true := by decide +kernel
-- Tokens_isLetter
def seg_25 : SegL := [
  (0, [(.iload_n 0, 1, []), (.bipush 97, 2, []), (.if_icmp .lt 13, 3, [16])]),
  (6, [(.iload_n 0, 1, []), (.bipush 122, 2, []), (.if_icmp .gt 7, 3, [16])]),
  (12, [(.iconst 1, 1, []), (.goto 4, 3, [17])]),
  (16, [(.iconst 0, 1, [])]),
  (17, [(.ireturn, 1, [3])])]
set_option maxRecDepth 100000 in
theorem ok_25 : chkM 25 seg_25 = true := by decide +kernel
-- Tokens_kindOfWord
def seg_26 : SegL := [
  (0, [(.iconst 0, 1, []), (.istore_n 1, 1, [])]),
  (2, [(.iload_n 1, 1, []), (.bipush 25, 2, []), (.if_icmp .ge 24, 3, [29])]),
  (8, [(.aload_n 0, 1, []), (.getfield 9, 3, [10, 1, 2, 538, 0]), (.iload_n 1, 1, []), (.iaload, 1, []), (.aload_n 0, 1, []), (.getfield 72, 3, [10, 6, 0, 547, 0]), (.if_icmp .ne 5, 3, [23])]),
  (21, [(.iload_n 1, 1, []), (.ireturn, 1, [0])]),
  (23, [(.iinc 1 1, 3, []), (.goto (-24), 3, [2])]),
  (29, [(.bipush 25, 2, []), (.ireturn, 1, [0])])]
set_option maxRecDepth 100000 in
theorem ok_26 : chkM 26 seg_26 = true := by decide +kernel
-- Tokens_readWord
def seg_27 : SegL := [
  (0, [(.iconst 0, 1, []), (.istore_n 1, 1, []), (.aload_n 0, 1, []), (.iconst 0, 1, []), (.putfield 72, 3, [10, 6, 0, 547, 0, 0])]),
  (7, [(.aload_n 0, 1, []), (.getfield 40, 3, [10, 3, 0, 540, 0]), (.aload_n 0, 1, []), (.getfield 37, 3, [10, 2, 0, 539, 0]), (.if_icmp .ge 69, 3, [84])]),
  (18, [(.aload_n 0, 1, []), (.getfield 13, 3, [10, 0, 2, 537, 0]), (.aload_n 0, 1, []), (.getfield 40, 3, [10, 3, 0, 540, 0]), (.iaload, 1, []), (.invokestatic 52, 3, [25, 1, 740, 0, 1, 0, 0, 0, 0, 10])]),
  (30, [(.ifCond .eq 54, 3, [84])]),
  (33, [(.iload_n 1, 1, []), (.bipush 6, 2, []), (.if_icmp .ge 32, 3, [68])]),
  (39, [(.aload_n 0, 1, []), (.dup, 1, []), (.getfield 72, 3, [10, 6, 0, 547, 0]), (.aload_n 0, 1, []), (.getfield 13, 3, [10, 0, 2, 537, 0]), (.aload_n 0, 1, []), (.getfield 40, 3, [10, 3, 0, 540, 0]), (.iaload, 1, []), (.bipush 97, 2, []), (.isub, 1, []), (.iconst 1, 1, []), (.iadd, 1, []), (.iconst 5, 1, []), (.iconst 5, 1, []), (.iload_n 1, 1, []), (.isub, 1, []), (.imul, 1, []), (.ishl, 1, []), (.ior, 1, []), (.putfield 72, 3, [10, 6, 0, 547, 0, 0])]),
  (68, [(.iinc 1 1, 3, []), (.aload_n 0, 1, []), (.dup, 1, []), (.getfield 40, 3, [10, 3, 0, 540, 0]), (.iconst 1, 1, []), (.iadd, 1, []), (.putfield 40, 3, [10, 3, 0, 540, 0, 0]), (.goto (-74), 3, [7])]),
  (84, [(.aload_n 0, 1, []), (.iload_n 1, 1, []), (.bipush 6, 2, []), (.if_icmp .le 8, 3, [96])]),
  (91, [(.bipush 41, 2, []), (.goto 7, 3, [100])]),
  (96, [(.aload_n 0, 1, []), (.invokevirtual 75, 3, [26, 1, 747, 0, 2, 0, 0, 0, 0, 10])]),
  (100, [(.putfield 49, 3, [10, 4, 0, 543, 0, 0]), (.return_, 1, [])])]
set_option maxRecDepth 100000 in
theorem ok_27 : chkM 27 seg_27 = true := by decide +kernel
-- Tokens_isDigit
def seg_28 : SegL := [
  (0, [(.iload_n 0, 1, []), (.bipush 48, 2, []), (.if_icmp .lt 13, 3, [16])]),
  (6, [(.iload_n 0, 1, []), (.bipush 57, 2, []), (.if_icmp .gt 7, 3, [16])]),
  (12, [(.iconst 1, 1, []), (.goto 4, 3, [17])]),
  (16, [(.iconst 0, 1, [])]),
  (17, [(.ireturn, 1, [3])])]
set_option maxRecDepth 100000 in
theorem ok_28 : chkM 28 seg_28 = true := by decide +kernel
-- Tokens_readNumber
def seg_29 : SegL := [
  (0, [(.aload_n 0, 1, []), (.bipush 26, 2, []), (.putfield 49, 3, [10, 4, 0, 543, 0, 0]), (.aload_n 0, 1, []), (.iconst 0, 1, []), (.putfield 72, 3, [10, 6, 0, 547, 0, 0])]),
  (11, [(.aload_n 0, 1, []), (.getfield 40, 3, [10, 3, 0, 540, 0]), (.aload_n 0, 1, []), (.getfield 37, 3, [10, 2, 0, 539, 0]), (.if_icmp .ge 60, 3, [79])]),
  (22, [(.aload_n 0, 1, []), (.getfield 13, 3, [10, 0, 2, 537, 0]), (.aload_n 0, 1, []), (.getfield 40, 3, [10, 3, 0, 540, 0]), (.iaload, 1, []), (.invokestatic 59, 3, [28, 1, 751, 0, 1, 0, 0, 0, 0, 10])]),
  (34, [(.ifCond .eq 45, 3, [79])]),
  (37, [(.aload_n 0, 1, []), (.ldc 78, 2, [1000000, 758]), (.aload_n 0, 1, []), (.getfield 72, 3, [10, 6, 0, 547, 0]), (.bipush 10, 2, []), (.imul, 1, []), (.aload_n 0, 1, []), (.getfield 13, 3, [10, 0, 2, 537, 0]), (.aload_n 0, 1, []), (.getfield 40, 3, [10, 3, 0, 540, 0]), (.iaload, 1, []), (.iadd, 1, []), (.bipush 48, 2, []), (.isub, 1, []), (.invokestatic 28, 3, [997, 732, 323, 134, 324])]),
  (63, [(.putfield 72, 3, [10, 6, 0, 547, 0, 0]), (.aload_n 0, 1, []), (.dup, 1, []), (.getfield 40, 3, [10, 3, 0, 540, 0]), (.iconst 1, 1, []), (.iadd, 1, []), (.putfield 40, 3, [10, 3, 0, 540, 0, 0]), (.goto (-65), 3, [11])]),
  (79, [(.return_, 1, [])])]
set_option maxRecDepth 100000 in
theorem ok_29 : chkM 29 seg_29 = true := by decide +kernel
-- Tokens_signOf
def seg_30 : SegL := [
  (0, [(.iload_n 0, 1, []), (.tableswitch 137 40 62 #[131, 134, 125, 119, 137, 122, 137, 128, 137, 137, 137, 137, 137, 137, 137, 137, 137, 137, 137, 107, 110, 113, 116], 107, [138, 132, 135, 126, 120, 138, 123, 138, 129, 138, 138, 138, 138, 138, 138, 138, 138, 138, 138, 138, 108, 111, 114, 117])]),
  (108, [(.bipush 27, 2, []), (.ireturn, 1, [0])]),
  (111, [(.bipush 28, 2, []), (.ireturn, 1, [0])]),
  (114, [(.bipush 30, 2, []), (.ireturn, 1, [0])]),
  (117, [(.bipush 33, 2, []), (.ireturn, 1, [0])]),
  (120, [(.bipush 34, 2, []), (.ireturn, 1, [0])]),
  (123, [(.bipush 35, 2, []), (.ireturn, 1, [0])]),
  (126, [(.bipush 36, 2, []), (.ireturn, 1, [0])]),
  (129, [(.bipush 37, 2, []), (.ireturn, 1, [0])]),
  (132, [(.bipush 38, 2, []), (.ireturn, 1, [0])]),
  (135, [(.bipush 39, 2, []), (.ireturn, 1, [0])]),
  (138, [(.bipush 41, 2, []), (.ireturn, 1, [0])])]
set_option maxRecDepth 100000 in
theorem ok_30 : chkM 30 seg_30 = true := by decide +kernel
-- Tokens_lengthenSign
def seg_31 : SegL := [
  (0, [(.aload_n 0, 1, []), (.getfield 49, 3, [10, 4, 0, 543, 0]), (.istore_n 1, 1, []), (.aload_n 0, 1, []), (.getfield 40, 3, [10, 3, 0, 540, 0]), (.aload_n 0, 1, []), (.getfield 37, 3, [10, 2, 0, 539, 0]), (.if_icmp .ge 15, 3, [28])]),
  (16, [(.aload_n 0, 1, []), (.getfield 13, 3, [10, 0, 2, 537, 0]), (.aload_n 0, 1, []), (.getfield 40, 3, [10, 3, 0, 540, 0]), (.iaload, 1, []), (.goto 4, 3, [29])]),
  (28, [(.iconst 0, 1, [])]),
  (29, [(.istore_n 2, 1, []), (.iload_n 1, 1, []), (.bipush 28, 2, []), (.if_icmp .ne 18, 3, [51])]),
  (36, [(.iload_n 2, 1, []), (.bipush 61, 2, []), (.if_icmp .ne 12, 3, [51])]),
  (42, [(.aload_n 0, 1, []), (.bipush 29, 2, []), (.putfield 49, 3, [10, 4, 0, 543, 0, 0]), (.goto 42, 3, [90])]),
  (51, [(.iload_n 1, 1, []), (.bipush 28, 2, []), (.if_icmp .ne 18, 3, [72])]),
  (57, [(.iload_n 2, 1, []), (.bipush 62, 2, []), (.if_icmp .ne 12, 3, [72])]),
  (63, [(.aload_n 0, 1, []), (.bipush 31, 2, []), (.putfield 49, 3, [10, 4, 0, 543, 0, 0]), (.goto 21, 3, [90])]),
  (72, [(.iload_n 1, 1, []), (.bipush 33, 2, []), (.if_icmp .ne 15, 3, [90])]),
  (78, [(.iload_n 2, 1, []), (.bipush 61, 2, []), (.if_icmp .ne 9, 3, [90])]),
  (84, [(.aload_n 0, 1, []), (.bipush 32, 2, []), (.putfield 49, 3, [10, 4, 0, 543, 0, 0])]),
  (90, [(.aload_n 0, 1, []), (.getfield 49, 3, [10, 4, 0, 543, 0]), (.iload_n 1, 1, []), (.if_icmp .eq 13, 3, [108])]),
  (98, [(.aload_n 0, 1, []), (.dup, 1, []), (.getfield 40, 3, [10, 3, 0, 540, 0]), (.iconst 1, 1, []), (.iadd, 1, []), (.putfield 40, 3, [10, 3, 0, 540, 0, 0])]),
  (108, [(.return_, 1, [])])]
set_option maxRecDepth 100000 in
theorem ok_31 : chkM 31 seg_31 = true := by decide +kernel
-- Tokens_move
def seg_32 : SegL := [
  (0, [(.aload_n 0, 1, []), (.getfield 40, 3, [10, 3, 0, 540, 0]), (.aload_n 0, 1, []), (.getfield 37, 3, [10, 2, 0, 539, 0]), (.if_icmp .ge 44, 3, [52])]),
  (11, [(.aload_n 0, 1, []), (.getfield 13, 3, [10, 0, 2, 537, 0]), (.aload_n 0, 1, []), (.getfield 40, 3, [10, 3, 0, 540, 0]), (.iaload, 1, []), (.bipush 32, 2, []), (.if_icmp .eq 17, 3, [39])]),
  (25, [(.aload_n 0, 1, []), (.getfield 13, 3, [10, 0, 2, 537, 0]), (.aload_n 0, 1, []), (.getfield 40, 3, [10, 3, 0, 540, 0]), (.iaload, 1, []), (.bipush 10, 2, []), (.if_icmp .ne 16, 3, [52])]),
  (39, [(.aload_n 0, 1, []), (.dup, 1, []), (.getfield 40, 3, [10, 3, 0, 540, 0]), (.iconst 1, 1, []), (.iadd, 1, []), (.putfield 40, 3, [10, 3, 0, 540, 0, 0]), (.goto (-49), 3, [0])]),
  (52, [(.aload_n 0, 1, []), (.aload_n 0, 1, []), (.getfield 40, 3, [10, 3, 0, 540, 0]), (.putfield 46, 3, [10, 5, 0, 545, 0, 0]), (.aload_n 0, 1, []), (.getfield 40, 3, [10, 3, 0, 540, 0]), (.aload_n 0, 1, []), (.getfield 37, 3, [10, 2, 0, 539, 0]), (.if_icmp .lt 12, 3, [80])]),
  (71, [(.aload_n 0, 1, []), (.bipush 40, 2, []), (.putfield 49, 3, [10, 4, 0, 543, 0, 0]), (.goto 77, 3, [154])]),
  (80, [(.aload_n 0, 1, []), (.getfield 13, 3, [10, 0, 2, 537, 0]), (.aload_n 0, 1, []), (.getfield 40, 3, [10, 3, 0, 540, 0]), (.iaload, 1, []), (.invokestatic 52, 3, [25, 1, 740, 0, 1, 0, 0, 0, 0, 10])]),
  (92, [(.ifCond .eq 10, 3, [102])]),
  (95, [(.aload_n 0, 1, []), (.invokevirtual 56, 3, [27, 1, 743, 0, 2, 0, 0, 0, 0, 10])]),
  (99, [(.goto 55, 3, [154])]),
  (102, [(.aload_n 0, 1, []), (.getfield 13, 3, [10, 0, 2, 537, 0]), (.aload_n 0, 1, []), (.getfield 40, 3, [10, 3, 0, 540, 0]), (.iaload, 1, []), (.invokestatic 59, 3, [28, 1, 751, 0, 1, 0, 0, 0, 0, 10])]),
  (114, [(.ifCond .eq 10, 3, [124])]),
  (117, [(.aload_n 0, 1, []), (.invokevirtual 62, 3, [29, 1, 754, 0, 1, 0, 0, 0, 0, 10])]),
  (121, [(.goto 33, 3, [154])]),
  (124, [(.aload_n 0, 1, []), (.aload_n 0, 1, []), (.getfield 13, 3, [10, 0, 2, 537, 0]), (.aload_n 0, 1, []), (.getfield 40, 3, [10, 3, 0, 540, 0]), (.iaload, 1, []), (.invokestatic 65, 3, [30, 1, 759, 0, 1, 0, 0, 0, 0, 10])]),
  (137, [(.putfield 49, 3, [10, 4, 0, 543, 0, 0]), (.aload_n 0, 1, []), (.dup, 1, []), (.getfield 40, 3, [10, 3, 0, 540, 0]), (.iconst 1, 1, []), (.iadd, 1, []), (.putfield 40, 3, [10, 3, 0, 540, 0, 0]), (.aload_n 0, 1, []), (.invokevirtual 69, 3, [31, 1, 762, 0, 3, 0, 0, 0, 0, 10])]),
  (154, [(.return_, 1, [])])]
set_option maxRecDepth 100000 in
theorem ok_32 : chkM 32 seg_32 = true := by decide +kernel
-- Tokens_start
def seg_33 : SegL := [
  (0, [(.aload_n 0, 1, []), (.iconst 0, 1, []), (.iload_n 1, 1, []), (.aload_n 0, 1, []), (.getfield 13, 3, [10, 0, 2, 537, 0]), (.arraylength, 1, []), (.invokestatic 28, 3, [997, 732, 323, 134, 324])]),
  (11, [(.invokestatic 34, 3, [998, 733, 734, 134, 735])]),
  (14, [(.putfield 37, 3, [10, 2, 0, 539, 0, 0]), (.aload_n 0, 1, []), (.iconst 0, 1, []), (.putfield 40, 3, [10, 3, 0, 540, 0, 0]), (.aload_n 0, 1, []), (.invokevirtual 43, 3, [32, 1, 736, 0, 1, 0, 0, 0, 0, 10])]),
  (26, [(.return_, 1, [])])]
set_option maxRecDepth 100000 in
theorem ok_33 : chkM 33 seg_33 = true := by decide +kernel
-- Names_isFull
def seg_34 : SegL := [
  (0, [(.aload_n 0, 1, []), (.getfield 25, 3, [4, 2, 0, 327, 0]), (.aload_n 0, 1, []), (.getfield 21, 3, [4, 1, 0, 326, 0]), (.if_icmp .lt 7, 3, [15])]),
  (11, [(.iconst 1, 1, []), (.goto 4, 3, [16])]),
  (15, [(.iconst 0, 1, [])]),
  (16, [(.ireturn, 1, [3])])]
set_option maxRecDepth 100000 in
theorem ok_34 : chkM 34 seg_34 = true := by decide +kernel
-- Names_numberOf
def seg_35 : SegL := [
  (0, [(.iconst 0, 1, []), (.istore_n 2, 1, [])]),
  (2, [(.iload_n 2, 1, []), (.aload_n 0, 1, []), (.getfield 25, 3, [4, 2, 0, 327, 0]), (.if_icmp .ge 21, 3, [28])]),
  (10, [(.aload_n 0, 1, []), (.getfield 9, 3, [4, 0, 2, 325, 0]), (.iload_n 2, 1, []), (.iaload, 1, []), (.iload_n 1, 1, []), (.if_icmp .ne 5, 3, [22])]),
  (20, [(.iload_n 2, 1, []), (.ireturn, 1, [0])]),
  (22, [(.iinc 2 1, 3, []), (.goto (-23), 3, [2])]),
  (28, [(.iconst (-1), 1, []), (.ireturn, 1, [0])])]
set_option maxRecDepth 100000 in
theorem ok_35 : chkM 35 seg_35 = true := by decide +kernel
-- Names_add
def seg_36 : SegL := [
  (0, [(.aload_n 0, 1, []), (.invokevirtual 28, 3, [34, 1, 791, 0, 1, 0, 0, 0, 0, 4])]),
  (4, [(.ifCond .ne 23, 3, [27])]),
  (7, [(.aload_n 0, 1, []), (.getfield 9, 3, [4, 0, 2, 325, 0]), (.aload_n 0, 1, []), (.getfield 25, 3, [4, 2, 0, 327, 0]), (.iload_n 1, 1, []), (.iastore, 1, []), (.aload_n 0, 1, []), (.dup, 1, []), (.getfield 25, 3, [4, 2, 0, 327, 0]), (.iconst 1, 1, []), (.iadd, 1, []), (.putfield 25, 3, [4, 2, 0, 327, 0, 0])]),
  (27, [(.return_, 1, [])])]
set_option maxRecDepth 100000 in
theorem ok_36 : chkM 36 seg_36 = true := by decide +kernel
-- TextReader_takeNew
def seg_37 : SegL := [
  (0, [(.aload_n 0, 1, []), (.getfield 20, 3, [9, 0, 2, 593, 0]), (.getfield 56, 3, [10, 4, 0, 542, 1]), (.bipush 25, 2, []), (.if_icmp .eq 5, 3, [14])]),
  (12, [(.iconst 1, 1, []), (.ireturn, 1, [0])]),
  (14, [(.aload_n 1, 1, []), (.aload_n 0, 1, []), (.getfield 20, 3, [9, 0, 2, 593, 0]), (.getfield 189, 3, [10, 6, 0, 548, 1]), (.invokevirtual 192, 3, [35, 2, 783, 0, 3, 0, 0, 0, 0, 4])]),
  (25, [(.iconst (-1), 1, []), (.if_icmp .eq 5, 3, [31])]),
  (29, [(.iconst 3, 1, []), (.ireturn, 1, [0])]),
  (31, [(.aload_n 1, 1, []), (.aload_n 0, 1, []), (.getfield 20, 3, [9, 0, 2, 593, 0]), (.getfield 189, 3, [10, 6, 0, 548, 1]), (.invokevirtual 195, 3, [36, 2, 787, 0, 2, 0, 0, 0, 0, 4])]),
  (42, [(.aload_n 0, 1, []), (.getfield 20, 3, [9, 0, 2, 593, 0]), (.invokevirtual 63, 3, [32, 1, 778, 0, 1, 0, 0, 0, 0, 10])]),
  (49, [(.iconst 0, 1, []), (.ireturn, 1, [0])])]
set_option maxRecDepth 100000 in
theorem ok_37 : chkM 37 seg_37 = true := by decide +kernel
-- TextReader_readFact
def seg_38 : SegL := [
  (0, [(.aload_n 0, 1, []), (.getfield 9, 3, [9, 2, 2, 595, 0]), (.getfield 90, 3, [0, 0, 2, 362, 1]), (.invokevirtual 94, 3, [34, 1, 774, 0, 1, 0, 0, 0, 0, 4])]),
  (10, [(.ifCond .eq 5, 3, [15])]),
  (13, [(.iconst 2, 1, []), (.ireturn, 1, [0])]),
  (15, [(.aload_n 0, 1, []), (.getfield 20, 3, [9, 0, 2, 593, 0]), (.invokevirtual 63, 3, [32, 1, 778, 0, 1, 0, 0, 0, 0, 10])]),
  (22, [(.aload_n 0, 1, []), (.aload_n 0, 1, []), (.getfield 9, 3, [9, 2, 2, 595, 0]), (.getfield 90, 3, [0, 0, 2, 362, 1]), (.invokevirtual 100, 3, [37, 2, 779, 0, 2, 0, 0, 0, 0, 9])]),
  (33, [(.ireturn, 1, [0])])]
set_option maxRecDepth 100000 in
theorem ok_38 : chkM 38 seg_38 = true := by decide +kernel
-- TextReader_takeNumber
def seg_39 : SegL := [
  (0, [(.aload_n 0, 1, []), (.getfield 20, 3, [9, 0, 2, 593, 0]), (.getfield 56, 3, [10, 4, 0, 542, 1]), (.bipush 26, 2, []), (.if_icmp .eq 5, 3, [14])]),
  (12, [(.iconst 1, 1, []), (.ireturn, 1, [0])]),
  (14, [(.aload_n 0, 1, []), (.getfield 20, 3, [9, 0, 2, 593, 0]), (.getfield 189, 3, [10, 6, 0, 548, 1]), (.iload_n 1, 1, []), (.if_icmp .le 5, 3, [27])]),
  (25, [(.iconst 2, 1, []), (.ireturn, 1, [0])]),
  (27, [(.aload_n 0, 1, []), (.aload_n 0, 1, []), (.getfield 20, 3, [9, 0, 2, 593, 0]), (.getfield 189, 3, [10, 6, 0, 548, 1]), (.putfield 121, 3, [9, 6, 0, 600, 0, 0]), (.aload_n 0, 1, []), (.getfield 20, 3, [9, 0, 2, 593, 0]), (.invokevirtual 63, 3, [32, 1, 778, 0, 1, 0, 0, 0, 0, 10])]),
  (45, [(.iconst 0, 1, []), (.ireturn, 1, [0])])]
set_option maxRecDepth 100000 in
theorem ok_39 : chkM 39 seg_39 = true := by decide +kernel
-- TextReader_readPerson
def seg_40 : SegL := [
  (0, [(.aload_n 0, 1, []), (.getfield 9, 3, [9, 2, 2, 595, 0]), (.getfield 104, 3, [0, 1, 2, 368, 1]), (.getfield 107, 3, [4, 2, 0, 331, 1]), (.istore_n 1, 1, []), (.aload_n 0, 1, []), (.getfield 9, 3, [9, 2, 2, 595, 0]), (.getfield 104, 3, [0, 1, 2, 368, 1]), (.invokevirtual 94, 3, [34, 1, 774, 0, 1, 0, 0, 0, 0, 4])]),
  (21, [(.ifCond .eq 5, 3, [26])]),
  (24, [(.iconst 2, 1, []), (.ireturn, 1, [0])]),
  (26, [(.aload_n 0, 1, []), (.getfield 9, 3, [9, 2, 2, 595, 0]), (.getfield 110, 3, [0, 6, 2, 388, 1]), (.iload_n 1, 1, []), (.iconst 0, 1, []), (.iastore, 1, []), (.aload_n 0, 1, []), (.getfield 20, 3, [9, 0, 2, 593, 0]), (.invokevirtual 63, 3, [32, 1, 778, 0, 1, 0, 0, 0, 0, 10])]),
  (43, [(.aload_n 0, 1, []), (.aload_n 0, 1, []), (.getfield 9, 3, [9, 2, 2, 595, 0]), (.getfield 104, 3, [0, 1, 2, 368, 1]), (.invokevirtual 100, 3, [37, 2, 779, 0, 2, 0, 0, 0, 0, 9])]),
  (54, [(.istore_n 2, 1, []), (.iload_n 2, 1, []), (.ifCond .eq 5, 3, [61])]),
  (59, [(.iload_n 2, 1, []), (.ireturn, 1, [0])]),
  (61, [(.aload_n 0, 1, []), (.bipush 9, 2, []), (.invokevirtual 114, 3, [39, 2, 796, 0, 2, 0, 0, 0, 0, 9])]),
  (67, [(.istore_n 2, 1, []), (.iload_n 2, 1, []), (.ifCond .eq 5, 3, [74])]),
  (72, [(.iload_n 2, 1, []), (.ireturn, 1, [0])]),
  (74, [(.aload_n 0, 1, []), (.getfield 9, 3, [9, 2, 2, 595, 0]), (.getfield 118, 3, [0, 3, 2, 376, 1]), (.iload_n 1, 1, []), (.aload_n 0, 1, []), (.getfield 121, 3, [9, 6, 0, 600, 0]), (.iastore, 1, []), (.aload_n 0, 1, []), (.bipush 9, 2, []), (.invokevirtual 114, 3, [39, 2, 796, 0, 2, 0, 0, 0, 0, 9])]),
  (93, [(.istore_n 2, 1, []), (.iload_n 2, 1, []), (.ifCond .eq 5, 3, [100])]),
  (98, [(.iload_n 2, 1, []), (.ireturn, 1, [0])]),
  (100, [(.aload_n 0, 1, []), (.getfield 9, 3, [9, 2, 2, 595, 0]), (.getfield 124, 3, [0, 4, 2, 380, 1]), (.iload_n 1, 1, []), (.aload_n 0, 1, []), (.getfield 121, 3, [9, 6, 0, 600, 0]), (.iastore, 1, []), (.aload_n 0, 1, []), (.iconst 3, 1, []), (.invokevirtual 114, 3, [39, 2, 796, 0, 2, 0, 0, 0, 0, 9])]),
  (118, [(.istore_n 2, 1, []), (.aload_n 0, 1, []), (.getfield 9, 3, [9, 2, 2, 595, 0]), (.getfield 127, 3, [0, 5, 2, 385, 1]), (.iload_n 1, 1, []), (.aload_n 0, 1, []), (.getfield 121, 3, [9, 6, 0, 600, 0]), (.iastore, 1, []), (.iload_n 2, 1, []), (.ireturn, 1, [0])])]
set_option maxRecDepth 100000 in
theorem ok_40 : chkM 40 seg_40 = true := by decide +kernel
-- TextReader_findTold
def seg_41 : SegL := [
  (0, [(.aload_n 0, 1, []), (.getfield 20, 3, [9, 0, 2, 593, 0]), (.getfield 56, 3, [10, 4, 0, 542, 1]), (.bipush 25, 2, []), (.if_icmp .eq 5, 3, [14])]),
  (12, [(.iconst 1, 1, []), (.ireturn, 1, [0])]),
  (14, [(.aload_n 0, 1, []), (.aload_n 1, 1, []), (.aload_n 0, 1, []), (.getfield 20, 3, [9, 0, 2, 593, 0]), (.getfield 189, 3, [10, 6, 0, 548, 1]), (.invokevirtual 192, 3, [35, 2, 783, 0, 3, 0, 0, 0, 0, 4])]),
  (26, [(.putfield 121, 3, [9, 6, 0, 600, 0, 0]), (.aload_n 0, 1, []), (.getfield 121, 3, [9, 6, 0, 600, 0]), (.iconst (-1), 1, []), (.if_icmp .ne 7, 3, [41])]),
  (37, [(.iconst 4, 1, []), (.goto 4, 3, [42])]),
  (41, [(.iconst 0, 1, [])]),
  (42, [(.ireturn, 1, [0])])]
set_option maxRecDepth 100000 in
theorem ok_41 : chkM 41 seg_41 = true := by decide +kernel
-- TextReader_takeTold
def seg_42 : SegL := [
  (0, [(.aload_n 0, 1, []), (.aload_n 1, 1, []), (.invokevirtual 133, 3, [41, 2, 808, 0, 2, 0, 0, 0, 0, 9])]),
  (5, [(.istore_n 2, 1, []), (.iload_n 2, 1, []), (.ifCond .ne 10, 3, [17])]),
  (10, [(.aload_n 0, 1, []), (.getfield 20, 3, [9, 0, 2, 593, 0]), (.invokevirtual 63, 3, [32, 1, 778, 0, 1, 0, 0, 0, 0, 10])]),
  (17, [(.iload_n 2, 1, []), (.ireturn, 1, [0])])]
set_option maxRecDepth 100000 in
theorem ok_42 : chkM 42 seg_42 = true := by decide +kernel
-- TextReader_readKnows
def seg_43 : SegL := [
  (0, [(.aload_n 0, 1, []), (.getfield 20, 3, [9, 0, 2, 593, 0]), (.invokevirtual 63, 3, [32, 1, 778, 0, 1, 0, 0, 0, 0, 10])]),
  (7, [(.aload_n 0, 1, []), (.aload_n 0, 1, []), (.getfield 9, 3, [9, 2, 2, 595, 0]), (.getfield 104, 3, [0, 1, 2, 368, 1]), (.invokevirtual 130, 3, [42, 2, 804, 0, 3, 0, 0, 0, 0, 9])]),
  (18, [(.istore_n 1, 1, []), (.iload_n 1, 1, []), (.ifCond .eq 5, 3, [25])]),
  (23, [(.iload_n 1, 1, []), (.ireturn, 1, [0])]),
  (25, [(.aload_n 0, 1, []), (.getfield 121, 3, [9, 6, 0, 600, 0]), (.istore_n 2, 1, []), (.aload_n 0, 1, []), (.aload_n 0, 1, []), (.getfield 9, 3, [9, 2, 2, 595, 0]), (.getfield 90, 3, [0, 0, 2, 362, 1]), (.invokevirtual 133, 3, [41, 2, 808, 0, 2, 0, 0, 0, 0, 9])]),
  (41, [(.istore_n 1, 1, []), (.iload_n 1, 1, []), (.ifCond .eq 5, 3, [48])]),
  (46, [(.iload_n 1, 1, []), (.ireturn, 1, [0])]),
  (48, [(.aload_n 0, 1, []), (.getfield 9, 3, [9, 2, 2, 595, 0]), (.getfield 110, 3, [0, 6, 2, 388, 1]), (.iload_n 2, 1, []), (.iaload, 1, []), (.aload_n 0, 1, []), (.getfield 121, 3, [9, 6, 0, 600, 0]), (.ishr, 1, []), (.iconst 1, 1, []), (.iand, 1, []), (.ifCond .eq 5, 3, [69])]),
  (67, [(.iconst 3, 1, []), (.ireturn, 1, [0])]),
  (69, [(.aload_n 0, 1, []), (.getfield 9, 3, [9, 2, 2, 595, 0]), (.getfield 110, 3, [0, 6, 2, 388, 1]), (.iload_n 2, 1, []), (.dup2, 1, []), (.iaload, 1, []), (.iconst 1, 1, []), (.aload_n 0, 1, []), (.getfield 121, 3, [9, 6, 0, 600, 0]), (.ishl, 1, []), (.ior, 1, []), (.iastore, 1, []), (.aload_n 0, 1, []), (.getfield 20, 3, [9, 0, 2, 593, 0]), (.invokevirtual 63, 3, [32, 1, 778, 0, 1, 0, 0, 0, 0, 10])]),
  (94, [(.iconst 0, 1, []), (.ireturn, 1, [0])])]
set_option maxRecDepth 100000 in
theorem ok_43 : chkM 43 seg_43 = true := by decide +kernel
-- TextReader_takeSome
def seg_44 : SegL := [
  (0, [(.iconst 0, 1, []), (.istore_n 3, 1, []), (.aload_n 0, 1, []), (.iconst (-1), 1, []), (.putfield 121, 3, [9, 6, 0, 600, 0, 0]), (.aload_n 0, 1, []), (.getfield 20, 3, [9, 0, 2, 593, 0]), (.getfield 56, 3, [10, 4, 0, 542, 1]), (.bipush 12, 2, []), (.if_icmp .eq 15, 3, [31])]),
  (19, [(.aload_n 0, 1, []), (.aload_n 0, 1, []), (.getfield 9, 3, [9, 2, 2, 595, 0]), (.getfield 90, 3, [0, 0, 2, 362, 1]), (.invokevirtual 133, 3, [41, 2, 808, 0, 2, 0, 0, 0, 0, 9])]),
  (30, [(.istore_n 3, 1, [])]),
  (31, [(.iload_n 3, 1, []), (.ifCond .ne 10, 3, [42])]),
  (35, [(.aload_n 0, 1, []), (.getfield 20, 3, [9, 0, 2, 593, 0]), (.invokevirtual 63, 3, [32, 1, 778, 0, 1, 0, 0, 0, 0, 10])]),
  (42, [(.aload_n 1, 1, []), (.iload_n 2, 1, []), (.aload_n 0, 1, []), (.getfield 121, 3, [9, 6, 0, 600, 0]), (.iastore, 1, []), (.iload_n 3, 1, []), (.ireturn, 1, [0])])]
set_option maxRecDepth 100000 in
theorem ok_44 : chkM 44 seg_44 = true := by decide +kernel
-- TextReader_readAsk
def seg_45 : SegL := [
  (0, [(.aload_n 0, 1, []), (.getfield 9, 3, [9, 2, 2, 595, 0]), (.getfield 136, 3, [0, 2, 2, 373, 1]), (.getfield 107, 3, [4, 2, 0, 331, 1]), (.istore_n 1, 1, []), (.aload_n 0, 1, []), (.getfield 9, 3, [9, 2, 2, 595, 0]), (.getfield 136, 3, [0, 2, 2, 373, 1]), (.invokevirtual 94, 3, [34, 1, 774, 0, 1, 0, 0, 0, 0, 4])]),
  (21, [(.ifCond .eq 5, 3, [26])]),
  (24, [(.iconst 2, 1, []), (.ireturn, 1, [0])]),
  (26, [(.aload_n 0, 1, []), (.getfield 20, 3, [9, 0, 2, 593, 0]), (.invokevirtual 63, 3, [32, 1, 778, 0, 1, 0, 0, 0, 0, 10])]),
  (33, [(.aload_n 0, 1, []), (.aload_n 0, 1, []), (.getfield 9, 3, [9, 2, 2, 595, 0]), (.getfield 136, 3, [0, 2, 2, 373, 1]), (.invokevirtual 100, 3, [37, 2, 779, 0, 2, 0, 0, 0, 0, 9])]),
  (44, [(.istore_n 2, 1, []), (.iload_n 2, 1, []), (.ifCond .eq 5, 3, [51])]),
  (49, [(.iload_n 2, 1, []), (.ireturn, 1, [0])]),
  (51, [(.aload_n 0, 1, []), (.getfield 20, 3, [9, 0, 2, 593, 0]), (.getfield 56, 3, [10, 4, 0, 542, 1]), (.bipush 8, 2, []), (.if_icmp .lt 15, 3, [75])]),
  (63, [(.aload_n 0, 1, []), (.getfield 20, 3, [9, 0, 2, 593, 0]), (.getfield 56, 3, [10, 4, 0, 542, 1]), (.bipush 11, 2, []), (.if_icmp .le 5, 3, [77])]),
  (75, [(.iconst 1, 1, []), (.ireturn, 1, [0])]),
  (77, [(.aload_n 0, 1, []), (.getfield 9, 3, [9, 2, 2, 595, 0]), (.getfield 139, 3, [0, 7, 2, 392, 1]), (.iload_n 1, 1, []), (.aload_n 0, 1, []), (.getfield 20, 3, [9, 0, 2, 593, 0]), (.getfield 56, 3, [10, 4, 0, 542, 1]), (.bipush 8, 2, []), (.isub, 1, []), (.iastore, 1, []), (.aload_n 0, 1, []), (.getfield 20, 3, [9, 0, 2, 593, 0]), (.invokevirtual 63, 3, [32, 1, 778, 0, 1, 0, 0, 0, 0, 10])]),
  (103, [(.aload_n 0, 1, []), (.aload_n 0, 1, []), (.getfield 9, 3, [9, 2, 2, 595, 0]), (.getfield 142, 3, [0, 8, 2, 395, 1]), (.iload_n 1, 1, []), (.invokevirtual 145, 3, [44, 3, 816, 0, 4, 0, 0, 0, 0, 9])]),
  (115, [(.istore_n 2, 1, []), (.iload_n 2, 1, []), (.ifCond .ne 16, 3, [133])]),
  (120, [(.aload_n 0, 1, []), (.aload_n 0, 1, []), (.getfield 9, 3, [9, 2, 2, 595, 0]), (.getfield 149, 3, [0, 9, 2, 398, 1]), (.iload_n 1, 1, []), (.invokevirtual 145, 3, [44, 3, 816, 0, 4, 0, 0, 0, 0, 9])]),
  (132, [(.istore_n 2, 1, [])]),
  (133, [(.iload_n 2, 1, []), (.ifCond .ne 16, 3, [150])]),
  (137, [(.aload_n 0, 1, []), (.aload_n 0, 1, []), (.getfield 9, 3, [9, 2, 2, 595, 0]), (.getfield 152, 3, [0, 10, 2, 403, 1]), (.iload_n 1, 1, []), (.invokevirtual 145, 3, [44, 3, 816, 0, 4, 0, 0, 0, 0, 9])]),
  (149, [(.istore_n 2, 1, [])]),
  (150, [(.iload_n 2, 1, []), (.ireturn, 1, [0])])]
set_option maxRecDepth 100000 in
theorem ok_45 : chkM 45 seg_45 = true := by decide +kernel
-- TextReader_readTalk
def seg_46 : SegL := [
  (0, [(.aload_n 0, 1, []), (.getfield 9, 3, [9, 2, 2, 595, 0]), (.getfield 155, 3, [0, 16, 0, 423, 1]), (.istore_n 1, 1, []), (.iload_n 1, 1, []), (.bipush 10, 2, []), (.if_icmp .lt 5, 3, [16])]),
  (14, [(.iconst 2, 1, []), (.ireturn, 1, [0])]),
  (16, [(.aload_n 0, 1, []), (.getfield 20, 3, [9, 0, 2, 593, 0]), (.invokevirtual 63, 3, [32, 1, 778, 0, 1, 0, 0, 0, 0, 10])]),
  (23, [(.aload_n 0, 1, []), (.aload_n 0, 1, []), (.getfield 9, 3, [9, 2, 2, 595, 0]), (.getfield 104, 3, [0, 1, 2, 368, 1]), (.invokevirtual 130, 3, [42, 2, 804, 0, 3, 0, 0, 0, 0, 9])]),
  (34, [(.istore_n 2, 1, []), (.iload_n 2, 1, []), (.ifCond .eq 5, 3, [41])]),
  (39, [(.iload_n 2, 1, []), (.ireturn, 1, [0])]),
  (41, [(.aload_n 0, 1, []), (.getfield 121, 3, [9, 6, 0, 600, 0]), (.istore_n 3, 1, []), (.aload_n 0, 1, []), (.aload_n 0, 1, []), (.getfield 9, 3, [9, 2, 2, 595, 0]), (.getfield 104, 3, [0, 1, 2, 368, 1]), (.invokevirtual 133, 3, [41, 2, 808, 0, 2, 0, 0, 0, 0, 9])]),
  (57, [(.istore_n 2, 1, []), (.iload_n 2, 1, []), (.ifCond .eq 5, 3, [64])]),
  (62, [(.iload_n 2, 1, []), (.ireturn, 1, [0])]),
  (64, [(.aload_n 0, 1, []), (.getfield 121, 3, [9, 6, 0, 600, 0]), (.iload_n 3, 1, []), (.if_icmp .ne 5, 3, [74])]),
  (72, [(.iconst 5, 1, []), (.ireturn, 1, [0])]),
  (74, [(.aload_n 0, 1, []), (.getfield 9, 3, [9, 2, 2, 595, 0]), (.getfield 158, 3, [0, 11, 2, 405, 1]), (.iload_n 1, 1, []), (.iload_n 3, 1, []), (.iastore, 1, []), (.aload_n 0, 1, []), (.getfield 9, 3, [9, 2, 2, 595, 0]), (.getfield 161, 3, [0, 12, 2, 408, 1]), (.iload_n 1, 1, []), (.aload_n 0, 1, []), (.getfield 121, 3, [9, 6, 0, 600, 0]), (.iastore, 1, []), (.aload_n 0, 1, []), (.getfield 20, 3, [9, 0, 2, 593, 0]), (.invokevirtual 63, 3, [32, 1, 778, 0, 1, 0, 0, 0, 0, 10])]),
  (104, [(.aload_n 0, 1, []), (.aload_n 0, 1, []), (.getfield 9, 3, [9, 2, 2, 595, 0]), (.getfield 136, 3, [0, 2, 2, 373, 1]), (.invokevirtual 130, 3, [42, 2, 804, 0, 3, 0, 0, 0, 0, 9])]),
  (115, [(.istore_n 2, 1, []), (.aload_n 0, 1, []), (.getfield 9, 3, [9, 2, 2, 595, 0]), (.getfield 164, 3, [0, 13, 2, 411, 1]), (.iload_n 1, 1, []), (.aload_n 0, 1, []), (.getfield 121, 3, [9, 6, 0, 600, 0]), (.iastore, 1, []), (.aload_n 0, 1, []), (.getfield 9, 3, [9, 2, 2, 595, 0]), (.dup, 1, []), (.getfield 155, 3, [0, 16, 0, 423, 1]), (.iconst 1, 1, []), (.iadd, 1, []), (.putfield 155, 3, [0, 16, 0, 423, 1, 0]), (.iload_n 2, 1, []), (.ireturn, 1, [0])])]
set_option maxRecDepth 100000 in
theorem ok_46 : chkM 46 seg_46 = true := by decide +kernel
-- TextReader_readNine
def seg_47 : SegL := [
  (0, [(.aload_n 0, 1, []), (.getfield 42, 3, [9, 3, 3, 596, 0]), (.ifCond .eq 5, 3, [9])]),
  (7, [(.iconst 3, 1, []), (.ireturn, 1, [0])]),
  (9, [(.aload_n 0, 1, []), (.iconst 1, 1, []), (.putfield 42, 3, [9, 3, 3, 596, 0, 0]), (.aload_n 0, 1, []), (.getfield 20, 3, [9, 0, 2, 593, 0]), (.invokevirtual 63, 3, [32, 1, 778, 0, 1, 0, 0, 0, 0, 10])]),
  (21, [(.aload_n 0, 1, []), (.bipush 99, 2, []), (.invokevirtual 114, 3, [39, 2, 796, 0, 2, 0, 0, 0, 0, 9])]),
  (27, [(.istore_n 1, 1, []), (.aload_n 0, 1, []), (.getfield 9, 3, [9, 2, 2, 595, 0]), (.aload_n 0, 1, []), (.getfield 121, 3, [9, 6, 0, 600, 0]), (.putfield 167, 3, [0, 17, 0, 428, 1, 0]), (.iload_n 1, 1, []), (.ireturn, 1, [0])])]
set_option maxRecDepth 100000 in
theorem ok_47 : chkM 47 seg_47 = true := by decide +kernel
-- TextReader_readSeed
def seg_48 : SegL := [
  (0, [(.aload_n 0, 1, []), (.getfield 46, 3, [9, 4, 3, 597, 0]), (.ifCond .eq 5, 3, [9])]),
  (7, [(.iconst 3, 1, []), (.ireturn, 1, [0])]),
  (9, [(.aload_n 0, 1, []), (.iconst 1, 1, []), (.putfield 46, 3, [9, 4, 3, 597, 0, 0]), (.aload_n 0, 1, []), (.getfield 20, 3, [9, 0, 2, 593, 0]), (.invokevirtual 63, 3, [32, 1, 778, 0, 1, 0, 0, 0, 0, 10])]),
  (21, [(.aload_n 0, 1, []), (.ldc 170, 2, [99999, 832]), (.invokevirtual 114, 3, [39, 2, 796, 0, 2, 0, 0, 0, 0, 9])]),
  (27, [(.istore_n 1, 1, []), (.aload_n 0, 1, []), (.getfield 9, 3, [9, 2, 2, 595, 0]), (.aload_n 0, 1, []), (.getfield 121, 3, [9, 6, 0, 600, 0]), (.putfield 171, 3, [0, 18, 0, 431, 1, 0]), (.iload_n 1, 1, []), (.ireturn, 1, [0])])]
set_option maxRecDepth 100000 in
theorem ok_48 : chkM 48 seg_48 = true := by decide +kernel
-- LawReader_pushWaiting
def seg_49 : SegL := [
  (0, [(.aload_n 0, 1, []), (.getfield 32, 3, [3, 2, 0, 573, 0]), (.aload_n 0, 1, []), (.getfield 11, 3, [3, 1, 2, 572, 0]), (.arraylength, 1, []), (.if_icmp .ge 23, 3, [32])]),
  (12, [(.aload_n 0, 1, []), (.getfield 11, 3, [3, 1, 2, 572, 0]), (.aload_n 0, 1, []), (.getfield 32, 3, [3, 2, 0, 573, 0]), (.iload_n 1, 1, []), (.iastore, 1, []), (.aload_n 0, 1, []), (.dup, 1, []), (.getfield 32, 3, [3, 2, 0, 573, 0]), (.iconst 1, 1, []), (.iadd, 1, []), (.putfield 32, 3, [3, 2, 0, 573, 0, 0])]),
  (32, [(.return_, 1, [])])]
set_option maxRecDepth 100000 in
theorem ok_49 : chkM 49 seg_49 = true := by decide +kernel
def segG_0 : List SegL := [seg_0, seg_1, seg_2, seg_3, seg_4, seg_5, seg_6, seg_7, seg_8, seg_9, seg_10, seg_11, seg_12, seg_13, seg_14, seg_15, seg_16, seg_17, seg_18, seg_19, seg_20, seg_21, seg_22, seg_23, seg_24, seg_25, seg_26, seg_27, seg_28, seg_29, seg_30, seg_31, seg_32, seg_33, seg_34, seg_35, seg_36, seg_37, seg_38, seg_39, seg_40, seg_41, seg_42, seg_43, seg_44, seg_45, seg_46, seg_47, seg_48, seg_49]
theorem okG_0 : okFrom 0 segG_0 := ⟨ok_0, ok_1, ok_2, ok_3, ok_4, ok_5, ok_6, ok_7, ok_8, ok_9, ok_10, ok_11, ok_12, ok_13, ok_14, ok_15, ok_16, ok_17, ok_18, ok_19, ok_20, ok_21, ok_22, ok_23, ok_24, ok_25, ok_26, ok_27, ok_28, ok_29, ok_30, ok_31, ok_32, ok_33, ok_34, ok_35, ok_36, ok_37, ok_38, ok_39, ok_40, ok_41, ok_42, ok_43, ok_44, ok_45, ok_46, ok_47, ok_48, ok_49, trivial⟩
