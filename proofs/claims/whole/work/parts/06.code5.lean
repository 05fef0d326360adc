-- MD_known
def seg_250 : SegL := [
  (0, [(.aload_n 0, 1, []), (.iconst 0, 1, []), (.putfield 148, 3, [12, 2, 0, 1408, 0, 0]), (.iload_n 1, 1, []), (.iconst (-1), 1, []), (.aload_n 0, 1, []), (.getfield 374, 3, [12, 71, 0, 1477, 0]), (.invokestatic 193, 3, [78, 3, 1714, 0, 3, 0, 0, 0, 0, 12])]),
  (14, [(.ifCond .ne 5, 3, [19])]),
  (17, [(.iconst 0, 1, []), (.ireturn, 1, [3])]),
  (19, [(.aload_n 0, 1, []), (.iload_n 1, 1, []), (.putfield 124, 3, [12, 72, 0, 1478, 0, 0]), (.iconst 1, 1, []), (.ireturn, 1, [3])])]
set_option maxRecDepth 100000 in
theorem ok_250 : chkM 250 seg_250 = true := by decide +kernel
-- Notes_counted
def seg_251 : SegL := [
  (0, [(.aload_n 0, 1, []), (.getfield 31, 3, [5, 7, 0, 240, 0]), (.iconst (-1), 1, []), (.if_icmp .ne 10, 3, [15])]),
  (8, [(.aload_n 0, 1, []), (.getfield 35, 3, [5, 6, 0, 238, 0]), (.goto 7, 3, [19])]),
  (15, [(.aload_n 0, 1, []), (.getfield 31, 3, [5, 7, 0, 240, 0])]),
  (19, [(.ireturn, 1, [0])])]
set_option maxRecDepth 100000 in
theorem ok_251 : chkM 251 seg_251 = true := by decide +kernel
-- Notes_strikeOut
def seg_252 : SegL := [
  (0, [(.iconst 0, 1, []), (.istore_n 1, 1, [])]),
  (2, [(.iload_n 1, 1, []), (.bipush 24, 2, []), (.if_icmp .ge 16, 3, [21])]),
  (8, [(.aload_n 0, 1, []), (.getfield 28, 3, [5, 5, 2, 237, 0]), (.iload_n 1, 1, []), (.iconst 0, 1, []), (.bastore, 1, []), (.iinc 1 1, 3, []), (.goto (-16), 3, [2])]),
  (21, [(.aload_n 0, 1, []), (.invokevirtual 42, 3, [251, 1, 1277, 0, 1, 0, 0, 0, 0, 5])]),
  (25, [(.iconst 1, 1, []), (.isub, 1, []), (.istore_n 1, 1, [])]),
  (28, [(.iload_n 1, 1, []), (.ifCond .lt 40, 3, [69])]),
  (32, [(.aload_n 0, 1, []), (.getfield 28, 3, [5, 5, 2, 237, 0]), (.iload_n 1, 1, []), (.baload, 1, []), (.ifCond .ne 25, 3, [63])]),
  (41, [(.aload_n 0, 1, []), (.getfield 25, 3, [5, 4, 2, 236, 0]), (.iload_n 1, 1, []), (.iaload, 1, []), (.iconst (-1), 1, []), (.if_icmp .eq 15, 3, [63])]),
  (51, [(.aload_n 0, 1, []), (.getfield 28, 3, [5, 5, 2, 237, 0]), (.aload_n 0, 1, []), (.getfield 25, 3, [5, 4, 2, 236, 0]), (.iload_n 1, 1, []), (.iaload, 1, []), (.iconst 1, 1, []), (.bastore, 1, [])]),
  (63, [(.iinc 1 (-1), 3, []), (.goto (-38), 3, [28])]),
  (69, [(.return_, 1, [])])]
set_option maxRecDepth 100000 in
theorem ok_252 : chkM 252 seg_252 = true := by decide +kernel
-- Notes_agree
def seg_253 : SegL := [
  (0, [(.iconst 0, 1, []), (.istore_n 3, 1, [])]),
  (2, [(.iload_n 3, 1, []), (.aload_n 0, 1, []), (.invokevirtual 42, 3, [251, 1, 1277, 0, 1, 0, 0, 0, 0, 5])]),
  (7, [(.if_icmp .ge 65, 3, [72])]),
  (10, [(.aload_n 0, 1, []), (.getfield 28, 3, [5, 5, 2, 237, 0]), (.iload_n 3, 1, []), (.baload, 1, []), (.ifCond .ne 50, 3, [66])]),
  (19, [(.aload_n 0, 1, []), (.getfield 25, 3, [5, 4, 2, 236, 0]), (.iload_n 3, 1, []), (.iaload, 1, []), (.iconst (-1), 1, []), (.if_icmp .ne 40, 3, [66])]),
  (29, [(.aload_n 0, 1, []), (.getfield 9, 3, [5, 0, 2, 232, 0]), (.iload_n 3, 1, []), (.iaload, 1, []), (.iload_n 1, 1, []), (.if_icmp .ne 30, 3, [66])]),
  (39, [(.aload_n 2, 1, []), (.aload_n 0, 1, []), (.getfield 15, 3, [5, 1, 2, 233, 0]), (.iload_n 3, 1, []), (.iaload, 1, []), (.aload_n 0, 1, []), (.getfield 18, 3, [5, 2, 2, 234, 0]), (.iload_n 3, 1, []), (.iaload, 1, []), (.invokevirtual 46, 3, [146, 3, 1286, 0, 3, 0, 0, 0, 0, 8])]),
  (55, [(.aload_n 0, 1, []), (.getfield 21, 3, [5, 3, 2, 235, 0]), (.iload_n 3, 1, []), (.baload, 1, []), (.if_icmp .eq 5, 3, [66])]),
  (64, [(.iconst 0, 1, []), (.ireturn, 1, [3])]),
  (66, [(.iinc 3 1, 3, []), (.goto (-67), 3, [2])]),
  (72, [(.iconst 1, 1, []), (.ireturn, 1, [3])])]
set_option maxRecDepth 100000 in
theorem ok_253 : chkM 253 seg_253 = true := by decide +kernel
-- AC_agreesWithNotes
def seg_254 : SegL := [
  (0, [(.iconst 0, 1, []), (.istore_n 2, 1, [])]),
  (2, [(.iload_n 2, 1, []), (.aload_n 0, 1, []), (.getfield 50, 3, [11, 7, 2, 661, 0]), (.getfield 192, 3, [0, 16, 0, 424, 1]), (.if_icmp .gt 35, 3, [45])]),
  (13, [(.aload_n 0, 1, []), (.getfield 33, 3, [11, 4, 2, 658, 0]), (.iload_n 2, 1, []), (.aload_n 1, 1, []), (.invokevirtual 356, 3, [253, 3, 1282, 0, 4, 0, 0, 0, 0, 5])]),
  (22, [(.ifCond .ne 5, 3, [27])]),
  (25, [(.iconst 0, 1, []), (.ireturn, 1, [3])]),
  (27, [(.aload_n 0, 1, []), (.getfield 71, 3, [11, 10, 2, 664, 0]), (.aload_n 1, 1, []), (.iload_n 2, 1, []), (.iload_n 2, 1, []), (.iconst 1, 1, []), (.iadd, 1, []), (.invokevirtual 331, 3, [234, 4, 1236, 0, 8, 0, 0, 0, 0, 6])]),
  (39, [(.iinc 2 1, 3, []), (.goto (-40), 3, [2])]),
  (45, [(.iconst 1, 1, []), (.ireturn, 1, [3])])]
set_option maxRecDepth 100000 in
theorem ok_254 : chkM 254 seg_254 = true := by decide +kernel
-- AC_knew
def seg_255 : SegL := [
  (0, [(.aload_n 0, 1, []), (.getfield 50, 3, [11, 7, 2, 661, 0]), (.getfield 121, 3, [0, 1, 2, 369, 1]), (.iload_n 1, 1, []), (.invokevirtual 127, 3, [106, 2, 909, 0, 2, 0, 0, 0, 0, 4])]),
  (11, [(.ifCond .ne 5, 3, [16])]),
  (14, [(.iconst (-1), 1, []), (.ireturn, 1, [0])]),
  (16, [(.aload_n 0, 1, []), (.getfield 33, 3, [11, 4, 2, 658, 0]), (.invokevirtual 349, 3, [252, 1, 1273, 0, 2, 0, 0, 0, 0, 5])]),
  (23, [(.iconst 0, 1, []), (.istore_n 2, 1, []), (.iconst 0, 1, []), (.istore_n 3, 1, [])]),
  (27, [(.iload_n 3, 1, []), (.aload_n 0, 1, []), (.getfield 50, 3, [11, 7, 2, 661, 0]), (.getfield 111, 3, [0, 0, 2, 363, 1]), (.getfield 189, 3, [4, 2, 0, 332, 1]), (.if_icmp .gt 77, 3, [115])]),
  (41, [(.aload_n 0, 1, []), (.getfield 71, 3, [11, 10, 2, 664, 0]), (.aload_n 0, 1, []), (.getfield 50, 3, [11, 7, 2, 661, 0]), (.invokevirtual 171, 3, [117, 2, 921, 0, 2, 0, 0, 0, 0, 6])]),
  (52, [(.aload_n 0, 1, []), (.getfield 44, 3, [11, 6, 2, 660, 0]), (.aload_n 0, 1, []), (.getfield 50, 3, [11, 7, 2, 661, 0]), (.invokevirtual 97, 3, [64, 2, 880, 0, 3, 0, 0, 0, 0, 8])]),
  (63, [(.iload_n 3, 1, []), (.aload_n 0, 1, []), (.getfield 50, 3, [11, 7, 2, 661, 0]), (.getfield 111, 3, [0, 0, 2, 363, 1]), (.getfield 189, 3, [4, 2, 0, 332, 1]), (.if_icmp .ge 18, 3, [92])]),
  (77, [(.aload_n 0, 1, []), (.getfield 44, 3, [11, 6, 2, 660, 0]), (.getfield 143, 3, [8, 0, 2, 167, 1]), (.iload_n 1, 1, []), (.dup2, 1, []), (.iaload, 1, []), (.iconst 1, 1, []), (.iload_n 3, 1, []), (.ishl, 1, []), (.ior, 1, []), (.iastore, 1, [])]),
  (92, [(.aload_n 0, 1, []), (.aload_n 0, 1, []), (.getfield 44, 3, [11, 6, 2, 660, 0]), (.invokevirtual 352, 3, [254, 2, 1278, 0, 3, 0, 0, 0, 0, 11])]),
  (100, [(.ifCond .eq 9, 3, [109])]),
  (103, [(.iload_n 2, 1, []), (.iconst 1, 1, []), (.iload_n 3, 1, []), (.ishl, 1, []), (.ior, 1, []), (.istore_n 2, 1, [])]),
  (109, [(.iinc 3 1, 3, []), (.goto (-85), 3, [27])]),
  (115, [(.iload_n 2, 1, []), (.ireturn, 1, [0])])]
set_option maxRecDepth 100000 in
theorem ok_255 : chkM 255 seg_255 = true := by decide +kernel
-- MD_knownBy
def seg_256 : SegL := [
  (0, [(.aload_n 0, 1, []), (.getfield 124, 3, [12, 72, 0, 1478, 0]), (.ifCond .ge 10, 3, [14])]),
  (7, [(.aload_n 0, 1, []), (.getfield 374, 3, [12, 71, 0, 1477, 0]), (.goto 7, 3, [18])]),
  (14, [(.aload_n 0, 1, []), (.getfield 124, 3, [12, 72, 0, 1478, 0])]),
  (18, [(.ireturn, 1, [0])])]
set_option maxRecDepth 100000 in
theorem ok_256 : chkM 256 seg_256 = true := by decide +kernel
-- MD_isSo
def seg_257 : SegL := [
  (0, [(.iconst 0, 1, []), (.istore_n 2, 1, [])]),
  (2, [(.iload_n 2, 1, []), (.aload_n 0, 1, []), (.invokevirtual 528, 3, [256, 1, 2081, 0, 1, 0, 0, 0, 0, 12])]),
  (7, [(.if_icmp .ge 87, 3, [94])]),
  (10, [(.aload_n 0, 1, []), (.getfield 130, 3, [12, 74, 2, 1480, 0]), (.iload_n 2, 1, []), (.baload, 1, []), (.ifCond .eq 72, 3, [88])]),
  (19, [(.aload_n 0, 1, []), (.getfield 127, 3, [12, 73, 2, 1479, 0]), (.iconst 4, 1, []), (.iload_n 2, 1, []), (.imul, 1, []), (.iaload, 1, []), (.iload_n 1, 1, []), (.if_icmp .eq 6, 3, [34])]),
  (31, [(.goto 57, 3, [88])]),
  (34, [(.aload_n 0, 1, []), (.getfield 100, 3, [12, 55, 2, 1461, 0]), (.iconst 5, 1, []), (.aload_n 0, 1, []), (.getfield 127, 3, [12, 73, 2, 1479, 0]), (.iconst 4, 1, []), (.iload_n 2, 1, []), (.imul, 1, []), (.iconst 1, 1, []), (.iadd, 1, []), (.iaload, 1, []), (.iadd, 1, []), (.iaload, 1, []), (.aload_n 0, 1, []), (.getfield 127, 3, [12, 73, 2, 1479, 0]), (.iconst 4, 1, []), (.iload_n 2, 1, []), (.imul, 1, []), (.iconst 2, 1, []), (.iadd, 1, []), (.iaload, 1, []), (.invokestatic 264, 3, [82, 2, 1725, 0, 2, 0, 0, 0, 0, 12])]),
  (64, [(.aload_n 0, 1, []), (.getfield 127, 3, [12, 73, 2, 1479, 0]), (.iconst 4, 1, []), (.iload_n 2, 1, []), (.imul, 1, []), (.iconst 3, 1, []), (.iadd, 1, []), (.iaload, 1, []), (.iconst 1, 1, []), (.if_icmp .ne 7, 3, [82])]),
  (78, [(.iconst 1, 1, []), (.goto 4, 3, [83])]),
  (82, [(.iconst 0, 1, [])]),
  (83, [(.if_icmp .eq 5, 3, [88])]),
  (86, [(.iconst 0, 1, []), (.ireturn, 1, [3])]),
  (88, [(.iinc 2 1, 3, []), (.goto (-89), 3, [2])]),
  (94, [(.iconst 1, 1, []), (.ireturn, 1, [3])])]
set_option maxRecDepth 100000 in
theorem ok_257 : chkM 257 seg_257 = true := by decide +kernel
-- MD_fits
def seg_258 : SegL := [
  (0, [(.aload_n 0, 1, []), (.invokevirtual 519, 3, [236, 1, 2049, 0, 1, 0, 0, 0, 0, 12])]),
  (4, [(.iload_n 2, 1, []), (.aload_n 0, 1, []), (.getfield 228, 3, [12, 12, 0, 1418, 0]), (.if_icmp .ge 17, 3, [26])]),
  (12, [(.aload_n 0, 1, []), (.getfield 100, 3, [12, 55, 2, 1461, 0]), (.iconst 5, 1, []), (.iload_n 1, 1, []), (.iadd, 1, []), (.dup2, 1, []), (.iaload, 1, []), (.iconst 1, 1, []), (.iload_n 2, 1, []), (.ishl, 1, []), (.ior, 1, []), (.iastore, 1, [])]),
  (26, [(.aload_n 0, 1, []), (.iconst 0, 1, []), (.invokevirtual 531, 3, [257, 2, 2089, 0, 3, 0, 0, 0, 0, 12])]),
  (31, [(.istore_n 3, 1, []), (.iconst 0, 1, []), (.istore 4, 2, [])]),
  (35, [(.iload 4, 2, []), (.aload_n 0, 1, []), (.getfield 237, 3, [12, 15, 0, 1421, 0]), (.if_icmp .ge 28, 3, [69])]),
  (44, [(.iload_n 3, 1, []), (.ifCond .eq 24, 3, [69])]),
  (48, [(.aload_n 0, 1, []), (.iload 4, 2, []), (.invokevirtual 522, 3, [237, 2, 2053, 0, 3, 0, 0, 0, 0, 12])]),
  (54, [(.aload_n 0, 1, []), (.iload 4, 2, []), (.iconst 1, 1, []), (.iadd, 1, []), (.invokevirtual 531, 3, [257, 2, 2089, 0, 3, 0, 0, 0, 0, 12])]),
  (62, [(.istore_n 3, 1, []), (.iinc 4 1, 3, []), (.goto (-31), 3, [35])]),
  (69, [(.iload_n 3, 1, []), (.ireturn, 1, [3])])]
set_option maxRecDepth 100000 in
theorem ok_258 : chkM 258 seg_258 = true := by decide +kernel
-- MD_knew
def seg_259 : SegL := [
  (0, [(.aload_n 0, 1, []), (.iconst 0, 1, []), (.putfield 148, 3, [12, 2, 0, 1408, 0, 0]), (.aload_n 0, 1, []), (.iload_n 1, 1, []), (.invokevirtual 443, 3, [109, 2, 1803, 0, 2, 0, 0, 0, 0, 12])]),
  (10, [(.ifCond .ne 5, 3, [15])]),
  (13, [(.iconst (-1), 1, []), (.ireturn, 1, [0])]),
  (15, [(.iconst 0, 1, []), (.istore_n 2, 1, [])]),
  (17, [(.iload_n 2, 1, []), (.aload_n 0, 1, []), (.invokevirtual 528, 3, [256, 1, 2081, 0, 1, 0, 0, 0, 0, 12])]),
  (22, [(.if_icmp .ge 16, 3, [38])]),
  (25, [(.aload_n 0, 1, []), (.getfield 130, 3, [12, 74, 2, 1480, 0]), (.iload_n 2, 1, []), (.iconst 1, 1, []), (.bastore, 1, []), (.iinc 2 1, 3, []), (.goto (-18), 3, [17])]),
  (38, [(.aload_n 0, 1, []), (.invokevirtual 528, 3, [256, 1, 2081, 0, 1, 0, 0, 0, 0, 12])]),
  (42, [(.iconst 1, 1, []), (.isub, 1, []), (.istore_n 2, 1, [])]),
  (45, [(.iload_n 2, 1, []), (.ifCond .lt 45, 3, [91])]),
  (49, [(.aload_n 0, 1, []), (.getfield 130, 3, [12, 74, 2, 1480, 0]), (.iload_n 2, 1, []), (.baload, 1, []), (.ifCond .eq 30, 3, [85])]),
  (58, [(.aload_n 0, 1, []), (.getfield 127, 3, [12, 73, 2, 1479, 0]), (.iconst 4, 1, []), (.iload_n 2, 1, []), (.imul, 1, []), (.iaload, 1, []), (.ifCond .ge 19, 3, [85])]),
  (69, [(.aload_n 0, 1, []), (.getfield 130, 3, [12, 74, 2, 1480, 0]), (.aload_n 0, 1, []), (.getfield 127, 3, [12, 73, 2, 1479, 0]), (.iconst 4, 1, []), (.iload_n 2, 1, []), (.imul, 1, []), (.iconst 1, 1, []), (.iadd, 1, []), (.iaload, 1, []), (.iconst 0, 1, []), (.bastore, 1, [])]),
  (85, [(.iinc 2 (-1), 3, []), (.goto (-43), 3, [45])]),
  (91, [(.iconst 0, 1, []), (.istore_n 2, 1, []), (.iconst 0, 1, []), (.istore_n 3, 1, [])]),
  (95, [(.iload_n 3, 1, []), (.aload_n 0, 1, []), (.getfield 228, 3, [12, 12, 0, 1418, 0]), (.if_icmp .gt 28, 3, [128])]),
  (103, [(.iload_n 2, 1, []), (.aload_n 0, 1, []), (.iload_n 1, 1, []), (.iload_n 3, 1, []), (.invokevirtual 534, 3, [258, 3, 2085, 0, 5, 0, 0, 0, 0, 12])]),
  (110, [(.ifCond .eq 9, 3, [119])]),
  (113, [(.iconst 1, 1, []), (.iload_n 3, 1, []), (.ishl, 1, []), (.goto 4, 3, [120])]),
  (119, [(.iconst 0, 1, [])]),
  (120, [(.ior, 1, []), (.istore_n 2, 1, []), (.iinc 3 1, 3, []), (.goto (-30), 3, [95])]),
  (128, [(.iload_n 2, 1, []), (.ireturn, 1, [0])])]
set_option maxRecDepth 100000 in
theorem ok_259 : chkM 259 seg_259 = true := by decide +kernel
-- AC_chance
def seg_260 : SegL := [
  (0, [(.iload_n 1, 1, []), (.ifCond .lt 12, 3, [13])]),
  (4, [(.aload_n 0, 1, []), (.iload_n 2, 1, []), (.iload_n 3, 1, []), (.invokevirtual 225, 3, [159, 3, 1038, 0, 3, 0, 0, 0, 0, 11])]),
  (10, [(.ifCond .ne 5, 3, [15])]),
  (13, [(.iconst (-1), 1, []), (.ireturn, 1, [0])]),
  (15, [(.aload_n 0, 1, []), (.getfield 71, 3, [11, 10, 2, 664, 0]), (.aload_n 0, 1, []), (.getfield 50, 3, [11, 7, 2, 661, 0]), (.invokevirtual 171, 3, [117, 2, 921, 0, 2, 0, 0, 0, 0, 6])]),
  (26, [(.aload_n 0, 1, []), (.getfield 71, 3, [11, 10, 2, 664, 0]), (.iconst 1, 1, []), (.putfield 219, 3, [6, 3, 3, 627, 1, 0]), (.iconst 0, 1, []), (.istore 4, 2, []), (.iload_n 1, 1, []), (.istore 5, 2, []), (.iconst 0, 1, []), (.istore 6, 2, [])]),
  (43, [(.iload 6, 2, []), (.bipush 10, 2, []), (.if_icmp .ge 72, 3, [119])]),
  (50, [(.aload_n 0, 1, []), (.getfield 44, 3, [11, 6, 2, 660, 0]), (.aload_n 0, 1, []), (.getfield 16, 3, [11, 1, 2, 655, 0]), (.invokevirtual 237, 3, [142, 2, 1064, 0, 3, 0, 0, 0, 0, 8])]),
  (61, [(.aload_n 0, 1, []), (.getfield 44, 3, [11, 6, 2, 660, 0]), (.iload 5, 2, []), (.putfield 360, 3, [8, 6, 0, 186, 1, 0]), (.aload_n 0, 1, []), (.getfield 71, 3, [11, 10, 2, 664, 0]), (.aload_n 0, 1, []), (.getfield 44, 3, [11, 6, 2, 660, 0]), (.iconst 0, 1, []), (.aload_n 0, 1, []), (.getfield 50, 3, [11, 7, 2, 661, 0]), (.getfield 192, 3, [0, 16, 0, 424, 1]), (.invokevirtual 331, 3, [234, 4, 1236, 0, 8, 0, 0, 0, 0, 6])]),
  (89, [(.aload_n 0, 1, []), (.getfield 44, 3, [11, 6, 2, 660, 0]), (.getfield 360, 3, [8, 6, 0, 186, 1]), (.istore 5, 2, []), (.aload_n 0, 1, []), (.getfield 44, 3, [11, 6, 2, 660, 0]), (.iload_n 2, 1, []), (.iload_n 3, 1, []), (.invokevirtual 228, 3, [146, 3, 1042, 0, 3, 0, 0, 0, 0, 8])]),
  (107, [(.ifCond .eq 6, 3, [113])]),
  (110, [(.iinc 4 1, 3, [])]),
  (113, [(.iinc 6 1, 3, []), (.goto (-73), 3, [43])]),
  (119, [(.iload 4, 2, []), (.ireturn, 1, [0])])]
set_option maxRecDepth 100000 in
theorem ok_260 : chkM 260 seg_260 = true := by decide +kernel
-- MD_chance
def seg_261 : SegL := [
  (0, [(.aload_n 0, 1, []), (.iconst 0, 1, []), (.putfield 148, 3, [12, 2, 0, 1408, 0, 0]), (.iload_n 1, 1, []), (.ifCond .lt 19, 3, [25])]),
  (9, [(.aload_n 0, 1, []), (.iload_n 2, 1, []), (.invokevirtual 443, 3, [109, 2, 1803, 0, 2, 0, 0, 0, 0, 12])]),
  (14, [(.ifCond .eq 11, 3, [25])]),
  (17, [(.aload_n 0, 1, []), (.iload_n 3, 1, []), (.invokevirtual 464, 3, [161, 2, 1909, 0, 2, 0, 0, 0, 0, 12])]),
  (22, [(.ifCond .ne 5, 3, [27])]),
  (25, [(.iconst (-1), 1, []), (.ireturn, 1, [0])]),
  (27, [(.aload_n 0, 1, []), (.getfield 367, 3, [12, 61, 1, 1467, 0]), (.lstore 4, 2, []), (.aload_n 0, 1, []), (.iload_n 1, 1, []), (.i2l, 1, []), (.putfield 367, 3, [12, 61, 1, 1467, 0, 0]), (.iconst 0, 1, []), (.istore 6, 2, []), (.iconst 0, 1, []), (.istore 7, 2, [])]),
  (45, [(.iload 7, 2, []), (.bipush 10, 2, []), (.if_icmp .ge 72, 3, [121])]),
  (52, [(.aload_n 0, 1, []), (.invokevirtual 470, 3, [171, 1, 1925, 0, 2, 0, 0, 0, 0, 12])]),
  (56, [(.aload_n 0, 1, []), (.iconst 1, 1, []), (.putfield 383, 3, [12, 62, 3, 1468, 0, 0]), (.aload_n 0, 1, []), (.iconst 1, 1, []), (.putfield 386, 3, [12, 63, 3, 1469, 0, 0]), (.iconst 0, 1, []), (.istore 8, 2, [])]),
  (69, [(.iload 8, 2, []), (.aload_n 0, 1, []), (.getfield 237, 3, [12, 15, 0, 1421, 0]), (.if_icmp .ge 15, 3, [90])]),
  (78, [(.aload_n 0, 1, []), (.iload 8, 2, []), (.invokevirtual 522, 3, [237, 2, 2053, 0, 3, 0, 0, 0, 0, 12])]),
  (84, [(.iinc 8 1, 3, []), (.goto (-18), 3, [69])]),
  (90, [(.iload 6, 2, []), (.aload_n 0, 1, []), (.getfield 100, 3, [12, 55, 2, 1461, 0]), (.iconst 5, 1, []), (.iload_n 2, 1, []), (.iadd, 1, []), (.iaload, 1, []), (.iload_n 3, 1, []), (.invokestatic 264, 3, [82, 2, 1725, 0, 2, 0, 0, 0, 0, 12])]),
  (104, [(.ifCond .eq 7, 3, [111])]),
  (107, [(.iconst 1, 1, []), (.goto 4, 3, [112])]),
  (111, [(.iconst 0, 1, [])]),
  (112, [(.iadd, 1, []), (.istore 6, 2, []), (.iinc 7 1, 3, []), (.goto (-73), 3, [45])]),
  (121, [(.aload_n 0, 1, []), (.invokevirtual 371, 3, [15, 1, 1402, 0, 1, 0, 0, 0, 0, 12])]),
  (125, [(.aload_n 0, 1, []), (.lload 4, 2, []), (.putfield 367, 3, [12, 61, 1, 1467, 0, 0]), (.iload 6, 2, []), (.ireturn, 1, [0])])]
set_option maxRecDepth 100000 in
theorem ok_261 : chkM 261 seg_261 = true := by decide +kernel
-- AC_canBeTried
def seg_262 : SegL := [
  (0, [(.iload_n 1, 1, []), (.tableswitch 69 0 4 #[35, 35, 45, 57, 35], 35, [70, 36, 36, 46, 58, 36])]),
  (36, [(.iload_n 2, 1, []), (.ifCond .ne 7, 3, [44])]),
  (40, [(.iconst 1, 1, []), (.goto 4, 3, [45])]),
  (44, [(.iconst 0, 1, [])]),
  (45, [(.ireturn, 1, [3])]),
  (46, [(.aload_n 0, 1, []), (.getfield 50, 3, [11, 7, 2, 661, 0]), (.getfield 121, 3, [0, 1, 2, 369, 1]), (.iload_n 2, 1, []), (.invokevirtual 127, 3, [106, 2, 909, 0, 2, 0, 0, 0, 0, 4])]),
  (57, [(.ireturn, 1, [3])]),
  (58, [(.aload_n 0, 1, []), (.getfield 50, 3, [11, 7, 2, 661, 0]), (.getfield 124, 3, [0, 2, 2, 372, 1]), (.iload_n 2, 1, []), (.invokevirtual 127, 3, [106, 2, 909, 0, 2, 0, 0, 0, 0, 4])]),
  (69, [(.ireturn, 1, [3])]),
  (70, [(.iconst 0, 1, []), (.ireturn, 1, [3])])]
set_option maxRecDepth 100000 in
theorem ok_262 : chkM 262 seg_262 = true := by decide +kernel
-- State_gather
def seg_263 : SegL := [
  (0, [(.iconst 0, 1, []), (.istore_n 1, 1, [])]),
  (2, [(.iload_n 1, 1, []), (.aload_n 0, 1, []), (.getfield 36, 3, [8, 7, 0, 187, 0]), (.if_icmp .ge 16, 3, [23])]),
  (10, [(.aload_n 0, 1, []), (.getfield 15, 3, [8, 1, 2, 169, 0]), (.iload_n 1, 1, []), (.iconst 0, 1, []), (.iastore, 1, []), (.iinc 1 1, 3, []), (.goto (-18), 3, [2])]),
  (23, [(.return_, 1, [])])]
set_option maxRecDepth 100000 in
theorem ok_263 : chkM 263 seg_263 = true := by decide +kernel
-- AC_tried
def seg_264 : SegL := [
  (0, [(.aload_n 0, 1, []), (.iload_n 1, 1, []), (.iload_n 2, 1, []), (.invokevirtual 270, 3, [262, 3, 1128, 0, 3, 0, 0, 0, 0, 11])]),
  (6, [(.ifCond .ne 5, 3, [11])]),
  (9, [(.iconst (-1), 1, []), (.ireturn, 1, [0])]),
  (11, [(.aload_n 0, 1, []), (.invokevirtual 240, 3, [167, 1, 1073, 0, 1, 0, 0, 0, 0, 11])]),
  (15, [(.astore_n 3, 1, []), (.iload_n 1, 1, []), (.tableswitch 73 0 3 #[31, 42, 49, 62], 31, [90, 48, 59, 66, 79])]),
  (48, [(.aload_n 0, 1, []), (.getfield 71, 3, [11, 10, 2, 664, 0]), (.iconst 1, 1, []), (.putfield 273, 3, [6, 6, 3, 633, 1, 0]), (.goto 42, 3, [98])]),
  (59, [(.aload_n 3, 1, []), (.invokevirtual 276, 3, [263, 1, 1132, 0, 2, 0, 0, 0, 0, 8])]),
  (63, [(.goto 35, 3, [98])]),
  (66, [(.aload_n 0, 1, []), (.getfield 71, 3, [11, 10, 2, 664, 0]), (.iconst 1, 1, []), (.iload_n 2, 1, []), (.ishl, 1, []), (.putfield 256, 3, [6, 4, 0, 629, 1, 0]), (.goto 22, 3, [98])]),
  (79, [(.aload_n 0, 1, []), (.getfield 71, 3, [11, 10, 2, 664, 0]), (.iload_n 2, 1, []), (.putfield 279, 3, [6, 5, 0, 631, 1, 0]), (.goto 11, 3, [98])]),
  (90, [(.aload_n 0, 1, []), (.getfield 71, 3, [11, 10, 2, 664, 0]), (.iconst 1, 1, []), (.putfield 282, 3, [6, 7, 3, 635, 1, 0])]),
  (98, [(.aload_n 0, 1, []), (.getfield 71, 3, [11, 10, 2, 664, 0]), (.aload_n 3, 1, []), (.invokevirtual 244, 3, [169, 2, 1077, 0, 7, 0, 0, 0, 0, 6])]),
  (106, [(.iload_n 1, 1, []), (.iconst 2, 1, []), (.if_icmp .ne 10, 3, [118])]),
  (111, [(.aload_n 3, 1, []), (.getfield 143, 3, [8, 0, 2, 167, 1]), (.iload_n 2, 1, []), (.iconst 0, 1, []), (.iastore, 1, [])]),
  (118, [(.aload_n 3, 1, []), (.invokevirtual 201, 3, [168, 1, 978, 0, 3, 0, 0, 0, 0, 8])]),
  (122, [(.ireturn, 1, [0])])]
set_option maxRecDepth 100000 in
theorem ok_264 : chkM 264 seg_264 = true := by decide +kernel
-- MD_tried
def seg_265 : SegL := [
  (0, [(.aload_n 0, 1, []), (.iconst 0, 1, []), (.putfield 148, 3, [12, 2, 0, 1408, 0, 0]), (.iload_n 1, 1, []), (.iconst 0, 1, []), (.iconst 4, 1, []), (.invokestatic 193, 3, [78, 3, 1714, 0, 3, 0, 0, 0, 0, 12])]),
  (11, [(.ifCond .eq 39, 3, [50])]),
  (14, [(.iload_n 1, 1, []), (.iconst 2, 1, []), (.if_icmp .ne 14, 3, [30])]),
  (19, [(.aload_n 0, 1, []), (.iload_n 2, 1, []), (.invokevirtual 443, 3, [109, 2, 1803, 0, 2, 0, 0, 0, 0, 12])]),
  (24, [(.ifCond .ne 28, 3, [52])]),
  (27, [(.goto 23, 3, [50])]),
  (30, [(.iload_n 1, 1, []), (.iconst 3, 1, []), (.if_icmp .ne 14, 3, [46])]),
  (35, [(.aload_n 0, 1, []), (.iload_n 2, 1, []), (.invokevirtual 449, 3, [114, 2, 1815, 0, 2, 0, 0, 0, 0, 12])]),
  (40, [(.ifCond .ne 12, 3, [52])]),
  (43, [(.goto 7, 3, [50])]),
  (46, [(.iload_n 2, 1, []), (.ifCond .eq 5, 3, [52])]),
  (50, [(.iconst (-1), 1, []), (.ireturn, 1, [0])]),
  (52, [(.aload_n 0, 1, []), (.invokevirtual 470, 3, [171, 1, 1925, 0, 2, 0, 0, 0, 0, 12])]),
  (56, [(.aload_n 0, 1, []), (.iload_n 1, 1, []), (.ifCond .ne 7, 3, [65])]),
  (61, [(.iconst 1, 1, []), (.goto 4, 3, [66])]),
  (65, [(.iconst 0, 1, [])]),
  (66, [(.putfield 389, 3, [12, 64, 3, 1470, 0, 0]), (.aload_n 0, 1, []), (.iload_n 1, 1, []), (.iconst 2, 1, []), (.if_icmp .ne 9, 3, [81])]),
  (75, [(.iconst 1, 1, []), (.iload_n 2, 1, []), (.ishl, 1, []), (.goto 4, 3, [82])]),
  (81, [(.iconst 0, 1, [])]),
  (82, [(.putfield 395, 3, [12, 66, 0, 1472, 0, 0]), (.aload_n 0, 1, []), (.iload_n 1, 1, []), (.iconst 3, 1, []), (.if_icmp .ne 7, 3, [95])]),
  (91, [(.iload_n 2, 1, []), (.goto 4, 3, [96])]),
  (95, [(.iconst (-1), 1, [])]),
  (96, [(.putfield 398, 3, [12, 67, 0, 1473, 0, 0]), (.aload_n 0, 1, []), (.iload_n 1, 1, []), (.iconst 4, 1, []), (.if_icmp .ne 7, 3, [109])]),
  (105, [(.iconst 1, 1, []), (.goto 4, 3, [110])]),
  (109, [(.iconst 0, 1, [])]),
  (110, [(.putfield 392, 3, [12, 65, 3, 1471, 0, 0]), (.iconst 0, 1, []), (.istore_n 3, 1, [])]),
  (115, [(.iload_n 3, 1, []), (.iconst 5, 1, []), (.if_icmp .ge 23, 3, [140])]),
  (120, [(.iload_n 1, 1, []), (.iconst 1, 1, []), (.if_icmp .ne 18, 3, [140])]),
  (125, [(.aload_n 0, 1, []), (.getfield 106, 3, [12, 57, 2, 1463, 0]), (.iconst 5, 1, []), (.iload_n 3, 1, []), (.iadd, 1, []), (.iconst 0, 1, []), (.iastore, 1, []), (.iinc 3 1, 3, []), (.goto (-22), 3, [115])]),
  (140, [(.aload_n 0, 1, []), (.invokevirtual 473, 3, [173, 1, 1929, 0, 7, 0, 0, 0, 0, 12])]),
  (144, [(.aload_n 0, 1, []), (.iconst 1, 1, []), (.invokevirtual 467, 3, [172, 2, 1933, 0, 4, 0, 0, 0, 0, 12])]),
  (149, [(.istore_n 3, 1, []), (.aload_n 0, 1, []), (.invokevirtual 371, 3, [15, 1, 1402, 0, 1, 0, 0, 0, 0, 12])]),
  (154, [(.iload_n 3, 1, []), (.ireturn, 1, [0])])]
set_option maxRecDepth 100000 in
theorem ok_265 : chkM 265 seg_265 = true := by decide +kernel
-- History_pop
def seg_266 : SegL := [
  (0, [(.aload_n 0, 1, []), (.getfield 18, 3, [1, 2, 0, 217, 0]), (.ifCond .le 34, 3, [38])]),
  (7, [(.aload_n 0, 1, []), (.dup, 1, []), (.getfield 18, 3, [1, 2, 0, 217, 0]), (.iconst 1, 1, []), (.isub, 1, []), (.putfield 18, 3, [1, 2, 0, 217, 0, 0]), (.aload_n 1, 1, []), (.aload_n 0, 1, []), (.getfield 11, 3, [1, 0, 2, 215, 0]), (.aload_n 0, 1, []), (.getfield 22, 3, [1, 1, 0, 216, 0]), (.aload_n 0, 1, []), (.getfield 18, 3, [1, 2, 0, 217, 0]), (.iadd, 1, []), (.bipush 20, 2, []), (.irem, 1, []), (.aaload, 1, []), (.invokevirtual 25, 3, [142, 2, 999, 0, 3, 0, 0, 0, 0, 8])]),
  (38, [(.return_, 1, [])])]
set_option maxRecDepth 100000 in
theorem ok_266 : chkM 266 seg_266 = true := by decide +kernel
-- AC_undo
def seg_267 : SegL := [
  (0, [(.aload_n 0, 1, []), (.getfield 26, 3, [11, 3, 2, 657, 0]), (.getfield 214, 3, [1, 2, 0, 218, 1]), (.ifCond .ne 5, 3, [12])]),
  (10, [(.iconst (-1), 1, []), (.ireturn, 1, [0])]),
  (12, [(.aload_n 0, 1, []), (.getfield 26, 3, [11, 3, 2, 657, 0]), (.aload_n 0, 1, []), (.getfield 16, 3, [11, 1, 2, 655, 0]), (.invokevirtual 234, 3, [266, 2, 1056, 0, 2, 0, 0, 0, 0, 1])]),
  (23, [(.aload_n 0, 1, []), (.getfield 26, 3, [11, 3, 2, 657, 0]), (.getfield 214, 3, [1, 2, 0, 218, 1]), (.ireturn, 1, [0])])]
set_option maxRecDepth 100000 in
theorem ok_267 : chkM 267 seg_267 = true := by decide +kernel
-- MD_take
def seg_268 : SegL := [
  (0, [(.iconst 0, 1, []), (.istore_n 3, 1, [])]),
  (2, [(.iload_n 3, 1, []), (.iconst 5, 1, []), (.if_icmp .ge 61, 3, [65])]),
  (7, [(.aload_n 0, 1, []), (.getfield 100, 3, [12, 55, 2, 1461, 0]), (.iload_n 3, 1, []), (.aload_n 1, 1, []), (.iload_n 2, 1, []), (.iload_n 3, 1, []), (.iadd, 1, []), (.iaload, 1, []), (.iastore, 1, []), (.aload_n 0, 1, []), (.getfield 103, 3, [12, 56, 2, 1462, 0]), (.iload_n 3, 1, []), (.aload_n 1, 1, []), (.iload_n 2, 1, []), (.iconst 5, 1, []), (.iadd, 1, []), (.iload_n 3, 1, []), (.iadd, 1, []), (.iaload, 1, []), (.iastore, 1, []), (.aload_n 0, 1, []), (.getfield 106, 3, [12, 57, 2, 1463, 0]), (.iload_n 3, 1, []), (.aload_n 1, 1, []), (.iload_n 2, 1, []), (.bipush 10, 2, []), (.iadd, 1, []), (.iload_n 3, 1, []), (.iadd, 1, []), (.iaload, 1, []), (.iastore, 1, []), (.aload_n 0, 1, []), (.getfield 109, 3, [12, 58, 2, 1464, 0]), (.iload_n 3, 1, []), (.aload_n 1, 1, []), (.iload_n 2, 1, []), (.bipush 15, 2, []), (.iadd, 1, []), (.iload_n 3, 1, []), (.iadd, 1, []), (.iaload, 1, []), (.iastore, 1, []), (.iinc 3 1, 3, []), (.goto (-60), 3, [2])]),
  (65, [(.aload_n 0, 1, []), (.getfield 112, 3, [12, 59, 2, 1465, 0]), (.iconst 0, 1, []), (.aload_n 1, 1, []), (.iload_n 2, 1, []), (.bipush 20, 2, []), (.iadd, 1, []), (.iaload, 1, []), (.iastore, 1, []), (.aload_n 0, 1, []), (.aload_n 1, 1, []), (.iload_n 2, 1, []), (.bipush 21, 2, []), (.iadd, 1, []), (.iaload, 1, []), (.putfield 364, 3, [12, 60, 0, 1466, 0, 0]), (.return_, 1, [])])]
set_option maxRecDepth 100000 in
theorem ok_268 : chkM 268 seg_268 = true := by decide +kernel
-- MD_undo
def seg_269 : SegL := [
  (0, [(.aload_n 0, 1, []), (.iconst 0, 1, []), (.putfield 148, 3, [12, 2, 0, 1408, 0, 0]), (.aload_n 0, 1, []), (.getfield 377, 3, [12, 75, 0, 1481, 0]), (.ifCond .ne 5, 3, [14])]),
  (12, [(.iconst (-1), 1, []), (.ireturn, 1, [0])]),
  (14, [(.aload_n 0, 1, []), (.dup, 1, []), (.getfield 377, 3, [12, 75, 0, 1481, 0]), (.iconst 1, 1, []), (.isub, 1, []), (.putfield 377, 3, [12, 75, 0, 1481, 0, 0]), (.aload_n 0, 1, []), (.aload_n 0, 1, []), (.getfield 133, 3, [12, 76, 2, 1482, 0]), (.bipush 22, 2, []), (.aload_n 0, 1, []), (.getfield 377, 3, [12, 75, 0, 1481, 0]), (.imul, 1, []), (.invokevirtual 540, 3, [268, 3, 2105, 0, 4, 0, 0, 0, 0, 12])]),
  (39, [(.aload_n 0, 1, []), (.aload_n 0, 1, []), (.getfield 136, 3, [12, 77, 2, 1483, 0]), (.aload_n 0, 1, []), (.getfield 377, 3, [12, 75, 0, 1481, 0]), (.laload, 1, []), (.putfield 367, 3, [12, 61, 1, 1467, 0, 0]), (.aload_n 0, 1, []), (.getfield 377, 3, [12, 75, 0, 1481, 0]), (.ireturn, 1, [0])])]
set_option maxRecDepth 100000 in
theorem ok_269 : chkM 269 seg_269 = true := by decide +kernel
-- AC_keep
def seg_270 : SegL := [
  (0, [(.aload_n 0, 1, []), (.getfield 20, 3, [11, 2, 2, 656, 0]), (.aload_n 0, 1, []), (.getfield 16, 3, [11, 1, 2, 655, 0]), (.invokevirtual 237, 3, [142, 2, 1064, 0, 3, 0, 0, 0, 0, 8])]),
  (11, [(.aload_n 0, 1, []), (.iconst 1, 1, []), (.putfield 104, 3, [11, 14, 3, 668, 0, 0]), (.aload_n 0, 1, []), (.getfield 16, 3, [11, 1, 2, 655, 0]), (.getfield 198, 3, [8, 4, 0, 181, 1]), (.ireturn, 1, [0])])]
set_option maxRecDepth 100000 in
theorem ok_270 : chkM 270 seg_270 = true := by decide +kernel
-- MD_keep
def seg_271 : SegL := [
  (0, [(.aload_n 0, 1, []), (.iconst 0, 1, []), (.putfield 148, 3, [12, 2, 0, 1408, 0, 0]), (.aload_n 0, 1, []), (.iconst 1, 1, []), (.putfield 380, 3, [12, 78, 3, 1484, 0, 0]), (.aload_n 0, 1, []), (.aload_n 0, 1, []), (.getfield 139, 3, [12, 79, 2, 1485, 0]), (.iconst 0, 1, []), (.invokevirtual 537, 3, [151, 3, 1876, 0, 4, 0, 0, 0, 0, 12])]),
  (19, [(.aload_n 0, 1, []), (.aload_n 0, 1, []), (.getfield 367, 3, [12, 61, 1, 1467, 0]), (.putfield 543, 3, [12, 80, 1, 1486, 0, 0]), (.aload_n 0, 1, []), (.getfield 112, 3, [12, 59, 2, 1465, 0]), (.iconst 0, 1, []), (.iaload, 1, []), (.ireturn, 1, [0])])]
set_option maxRecDepth 100000 in
theorem ok_271 : chkM 271 seg_271 = true := by decide +kernel
-- AC_back
def seg_272 : SegL := [
  (0, [(.aload_n 0, 1, []), (.getfield 104, 3, [11, 14, 3, 668, 0]), (.ifCond .ne 5, 3, [9])]),
  (7, [(.iconst (-1), 1, []), (.ireturn, 1, [0])]),
  (9, [(.aload_n 0, 1, []), (.getfield 16, 3, [11, 1, 2, 655, 0]), (.aload_n 0, 1, []), (.getfield 20, 3, [11, 2, 2, 656, 0]), (.invokevirtual 237, 3, [142, 2, 1064, 0, 3, 0, 0, 0, 0, 8])]),
  (20, [(.aload_n 0, 1, []), (.getfield 26, 3, [11, 3, 2, 657, 0]), (.invokevirtual 103, 3, [66, 1, 892, 0, 1, 0, 0, 0, 0, 1])]),
  (27, [(.aload_n 0, 1, []), (.getfield 16, 3, [11, 1, 2, 655, 0]), (.getfield 198, 3, [8, 4, 0, 181, 1]), (.ireturn, 1, [0])])]
set_option maxRecDepth 100000 in
theorem ok_272 : chkM 272 seg_272 = true := by decide +kernel
-- MD_back
def seg_273 : SegL := [
  (0, [(.aload_n 0, 1, []), (.iconst 0, 1, []), (.putfield 148, 3, [12, 2, 0, 1408, 0, 0]), (.aload_n 0, 1, []), (.getfield 380, 3, [12, 78, 3, 1484, 0]), (.ifCond .ne 5, 3, [14])]),
  (12, [(.iconst (-1), 1, []), (.ireturn, 1, [0])]),
  (14, [(.aload_n 0, 1, []), (.aload_n 0, 1, []), (.getfield 139, 3, [12, 79, 2, 1485, 0]), (.iconst 0, 1, []), (.invokevirtual 540, 3, [268, 3, 2105, 0, 4, 0, 0, 0, 0, 12])]),
  (23, [(.aload_n 0, 1, []), (.aload_n 0, 1, []), (.getfield 543, 3, [12, 80, 1, 1486, 0]), (.putfield 367, 3, [12, 61, 1, 1467, 0, 0]), (.aload_n 0, 1, []), (.iconst 0, 1, []), (.putfield 377, 3, [12, 75, 0, 1481, 0, 0]), (.aload_n 0, 1, []), (.getfield 112, 3, [12, 59, 2, 1465, 0]), (.iconst 0, 1, []), (.iaload, 1, []), (.ireturn, 1, [0])])]
set_option maxRecDepth 100000 in
theorem ok_273 : chkM 273 seg_273 = true := by decide +kernel
-- State_lostInSum
def seg_274 : SegL := [
  (0, [(.iconst 0, 1, []), (.istore_n 1, 1, []), (.iconst 0, 1, []), (.istore_n 2, 1, [])]),
  (4, [(.iload_n 2, 1, []), (.aload_n 0, 1, []), (.getfield 36, 3, [8, 7, 0, 187, 0]), (.if_icmp .ge 18, 3, [27])]),
  (12, [(.iload_n 1, 1, []), (.aload_n 0, 1, []), (.getfield 18, 3, [8, 2, 2, 172, 0]), (.iload_n 2, 1, []), (.iaload, 1, []), (.iadd, 1, []), (.istore_n 1, 1, []), (.iinc 2 1, 3, []), (.goto (-20), 3, [4])]),
  (27, [(.iload_n 1, 1, []), (.ireturn, 1, [0])])]
set_option maxRecDepth 100000 in
theorem ok_274 : chkM 274 seg_274 = true := by decide +kernel
-- AC_count
def seg_275 : SegL := [
  (0, [(.iload_n 1, 1, []), (.tableswitch 168 0 11 #[63, 74, 85, 96, 104, 112, 120, 128, 136, 144, 152, 160], 63, [169, 64, 75, 86, 97, 105, 113, 121, 129, 137, 145, 153, 161])]),
  (64, [(.aload_n 0, 1, []), (.getfield 50, 3, [11, 7, 2, 661, 0]), (.getfield 111, 3, [0, 0, 2, 363, 1]), (.getfield 189, 3, [4, 2, 0, 332, 1]), (.ireturn, 1, [0])]),
  (75, [(.aload_n 0, 1, []), (.getfield 50, 3, [11, 7, 2, 661, 0]), (.getfield 121, 3, [0, 1, 2, 369, 1]), (.getfield 189, 3, [4, 2, 0, 332, 1]), (.ireturn, 1, [0])]),
  (86, [(.aload_n 0, 1, []), (.getfield 50, 3, [11, 7, 2, 661, 0]), (.getfield 124, 3, [0, 2, 2, 372, 1]), (.getfield 189, 3, [4, 2, 0, 332, 1]), (.ireturn, 1, [0])]),
  (97, [(.aload_n 0, 1, []), (.getfield 50, 3, [11, 7, 2, 661, 0]), (.getfield 192, 3, [0, 16, 0, 424, 1]), (.ireturn, 1, [0])]),
  (105, [(.aload_n 0, 1, []), (.getfield 50, 3, [11, 7, 2, 661, 0]), (.getfield 195, 3, [0, 19, 0, 434, 1]), (.ireturn, 1, [0])]),
  (113, [(.aload_n 0, 1, []), (.getfield 16, 3, [11, 1, 2, 655, 0]), (.getfield 198, 3, [8, 4, 0, 181, 1]), (.ireturn, 1, [0])]),
  (121, [(.aload_n 0, 1, []), (.getfield 16, 3, [11, 1, 2, 655, 0]), (.invokevirtual 201, 3, [168, 1, 978, 0, 3, 0, 0, 0, 0, 8])]),
  (128, [(.ireturn, 1, [0])]),
  (129, [(.aload_n 0, 1, []), (.getfield 16, 3, [11, 1, 2, 655, 0]), (.invokevirtual 204, 3, [274, 1, 983, 0, 3, 0, 0, 0, 0, 8])]),
  (136, [(.ireturn, 1, [0])]),
  (137, [(.aload_n 0, 1, []), (.getfield 16, 3, [11, 1, 2, 655, 0]), (.getfield 207, 3, [8, 5, 0, 184, 1]), (.ireturn, 1, [0])]),
  (145, [(.aload_n 0, 1, []), (.getfield 33, 3, [11, 4, 2, 658, 0]), (.getfield 210, 3, [5, 6, 0, 239, 1]), (.ireturn, 1, [0])]),
  (153, [(.aload_n 0, 1, []), (.getfield 33, 3, [11, 4, 2, 658, 0]), (.invokevirtual 211, 3, [251, 1, 987, 0, 1, 0, 0, 0, 0, 5])]),
  (160, [(.ireturn, 1, [0])]),
  (161, [(.aload_n 0, 1, []), (.getfield 26, 3, [11, 3, 2, 657, 0]), (.getfield 214, 3, [1, 2, 0, 218, 1]), (.ireturn, 1, [0])]),
  (169, [(.iconst (-1), 1, []), (.ireturn, 1, [0])])]
set_option maxRecDepth 100000 in
theorem ok_275 : chkM 275 seg_275 = true := by decide +kernel
-- MD_count
def seg_276 : SegL := [
  (0, [(.aload_n 0, 1, []), (.iconst 0, 1, []), (.putfield 148, 3, [12, 2, 0, 1408, 0, 0]), (.iconst 0, 1, []), (.istore_n 2, 1, []), (.iload_n 1, 1, []), (.tableswitch 173 0 11 #[64, 69, 74, 79, 84, 89, 96, 126, 153, 158, 163, 168], 64, [181, 72, 77, 82, 87, 92, 97, 104, 134, 161, 166, 171, 176])]),
  (72, [(.aload_n 0, 1, []), (.getfield 228, 3, [12, 12, 0, 1418, 0]), (.ireturn, 1, [0])]),
  (77, [(.aload_n 0, 1, []), (.getfield 231, 3, [12, 13, 0, 1419, 0]), (.ireturn, 1, [0])]),
  (82, [(.aload_n 0, 1, []), (.getfield 234, 3, [12, 14, 0, 1420, 0]), (.ireturn, 1, [0])]),
  (87, [(.aload_n 0, 1, []), (.getfield 237, 3, [12, 15, 0, 1421, 0]), (.ireturn, 1, [0])]),
  (92, [(.aload_n 0, 1, []), (.getfield 240, 3, [12, 16, 0, 1422, 0]), (.ireturn, 1, [0])]),
  (97, [(.aload_n 0, 1, []), (.getfield 112, 3, [12, 59, 2, 1465, 0]), (.iconst 0, 1, []), (.iaload, 1, []), (.ireturn, 1, [0])]),
  (104, [(.iconst 0, 1, []), (.istore_n 3, 1, [])]),
  (106, [(.iload_n 3, 1, []), (.aload_n 0, 1, []), (.getfield 231, 3, [12, 13, 0, 1419, 0]), (.if_icmp .ge 21, 3, [132])]),
  (114, [(.iload_n 2, 1, []), (.aload_n 0, 1, []), (.getfield 100, 3, [12, 55, 2, 1461, 0]), (.iload_n 3, 1, []), (.iaload, 1, []), (.invokestatic 407, 3, [134, 1, 1844, 0, 3, 0, 0, 0, 0, 12])]),
  (124, [(.iadd, 1, []), (.istore_n 2, 1, []), (.iinc 3 1, 3, []), (.goto (-23), 3, [106])]),
  (132, [(.iload_n 2, 1, []), (.ireturn, 1, [0])]),
  (134, [(.iconst 0, 1, []), (.istore_n 3, 1, [])]),
  (136, [(.iload_n 3, 1, []), (.aload_n 0, 1, []), (.getfield 231, 3, [12, 13, 0, 1419, 0]), (.if_icmp .ge 18, 3, [159])]),
  (144, [(.iload_n 2, 1, []), (.aload_n 0, 1, []), (.getfield 103, 3, [12, 56, 2, 1462, 0]), (.iload_n 3, 1, []), (.iaload, 1, []), (.iadd, 1, []), (.istore_n 2, 1, []), (.iinc 3 1, 3, []), (.goto (-20), 3, [136])]),
  (159, [(.iload_n 2, 1, []), (.ireturn, 1, [0])]),
  (161, [(.aload_n 0, 1, []), (.getfield 364, 3, [12, 60, 0, 1466, 0]), (.ireturn, 1, [0])]),
  (166, [(.aload_n 0, 1, []), (.getfield 374, 3, [12, 71, 0, 1477, 0]), (.ireturn, 1, [0])]),
  (171, [(.aload_n 0, 1, []), (.invokevirtual 528, 3, [256, 1, 2081, 0, 1, 0, 0, 0, 0, 12])]),
  (175, [(.ireturn, 1, [0])]),
  (176, [(.aload_n 0, 1, []), (.getfield 377, 3, [12, 75, 0, 1481, 0]), (.ireturn, 1, [0])]),
  (181, [(.iconst (-1), 1, []), (.ireturn, 1, [0])])]
set_option maxRecDepth 100000 in
theorem ok_276 : chkM 276 seg_276 = true := by decide +kernel
-- LW_law
def seg_277_0 : SegL := [
  (0, [(.new 8, 3, [11, 15, 601024, 7293034, 151, 152, 127]), (.dup, 1, []), (.invokespecial 17, 3, [11, 1, 153, 0, 1, 196, 2827, 601024, 7293034, 11])]),
  (7, [(.astore_n 1, 1, []), (.new 18, 3, [12, 81, 601024, 7293034, 1377, 1378, 144]), (.dup, 1, []), (.invokespecial 20, 3, [18, 1, 1379, 0, 1, 41, 2503, 601024, 7293034, 12])]),
  (15, [(.astore_n 2, 1, []), (.iconst 1, 1, []), (.newarray .long, 2, [601024, 7293034]), (.astore_n 3, 1, []), (.iconst 0, 1, []), (.istore 4, 2, [])]),
  (23, [(.iload 4, 2, []), (.aload_n 0, 1, []), (.arraylength, 1, []), (.bipush 6, 2, []), (.isub, 1, []), (.if_icmp .gt 1602, 3, [1632])]),
  (33, [(.aload_n 0, 1, []), (.iload 4, 2, []), (.iaload, 1, []), (.bipush 63, 2, []), (.iand, 1, []), (.tableswitch 1586 0 37 #[168, 241, 266, 291, 328, 396, 433, 482, 532, 581, 618, 655, 668, 693, 730, 767, 792, 841, 866, 903, 928, 989, 1062, 1087, 1136, 1173, 1222, 1247, 1284, 1361, 1386, 1411, 1436, 1485, 1522, 1535, 1548, 1561], 168, [1626, 208, 281, 306, 331, 368, 436, 473, 522, 572, 621, 658, 695, 708, 733, 770, 807, 832, 881, 906, 943, 968, 1029, 1102, 1127, 1176, 1213, 1262, 1287, 1324, 1401, 1426, 1451, 1476, 1525, 1562, 1575, 1588, 1601])])]
set_option maxRecDepth 100000 in
theorem seg_277_0_ok : chkM 277 seg_277_0 = true := by decide +kernel
def seg_277_1 : SegL := [
  (208, [(.aload_n 1, 1, []), (.aload_n 0, 1, []), (.iload 4, 2, []), (.iconst 1, 1, []), (.iadd, 1, []), (.iaload, 1, []), (.aload_n 0, 1, []), (.iload 4, 2, []), (.iconst 2, 1, []), (.iadd, 1, []), (.iaload, 1, []), (.aload_n 0, 1, []), (.iload 4, 2, []), (.iconst 3, 1, []), (.iadd, 1, []), (.iaload, 1, []), (.aload_n 0, 1, []), (.iload 4, 2, []), (.iconst 4, 1, []), (.iadd, 1, []), (.iaload, 1, []), (.aload_n 0, 1, []), (.iload 4, 2, []), (.iconst 5, 1, []), (.iadd, 1, []), (.iaload, 1, []), (.invokevirtual 21, 3, [20, 6, 700, 0, 6, 0, 0, 601024, 7293034, 11])])]
set_option maxRecDepth 100000 in
theorem seg_277_1_ok : chkM 277 seg_277_1 = true := by decide +kernel
def seg_277_2 : SegL := [
  (242, [(.aload_n 2, 1, []), (.aload_n 0, 1, []), (.iload 4, 2, []), (.iconst 1, 1, []), (.iadd, 1, []), (.iaload, 1, []), (.aload_n 0, 1, []), (.iload 4, 2, []), (.iconst 2, 1, []), (.iadd, 1, []), (.iaload, 1, []), (.aload_n 0, 1, []), (.iload 4, 2, []), (.iconst 3, 1, []), (.iadd, 1, []), (.iaload, 1, []), (.aload_n 0, 1, []), (.iload 4, 2, []), (.iconst 4, 1, []), (.iadd, 1, []), (.iaload, 1, []), (.aload_n 0, 1, []), (.iload 4, 2, []), (.iconst 5, 1, []), (.iadd, 1, []), (.iaload, 1, []), (.invokevirtual 25, 3, [21, 6, 1654, 0, 8, 0, 0, 601024, 7293034, 12])]),
  (276, [(.if_icmp .eq 1350, 3, [1626])]),
  (279, [(.iconst 0, 1, []), (.ireturn, 1, [3])]),
  (281, [(.aload_n 1, 1, []), (.aload_n 0, 1, []), (.iload 4, 2, []), (.iconst 1, 1, []), (.iadd, 1, []), (.iaload, 1, []), (.invokevirtual 26, 3, [67, 2, 708, 0, 3, 0, 0, 601024, 7293034, 11])]),
  (291, [(.aload_n 2, 1, []), (.aload_n 0, 1, []), (.iload 4, 2, []), (.iconst 1, 1, []), (.iadd, 1, []), (.iaload, 1, []), (.invokevirtual 30, 3, [101, 2, 1658, 0, 3, 0, 0, 601024, 7293034, 12])]),
  (301, [(.if_icmp .eq 1325, 3, [1626])]),
  (304, [(.iconst 0, 1, []), (.ireturn, 1, [3])])]
set_option maxRecDepth 100000 in
theorem seg_277_2_ok : chkM 277 seg_277_2 = true := by decide +kernel
def seg_277_3 : SegL := [
  (306, [(.aload_n 1, 1, []), (.aload_n 0, 1, []), (.iload 4, 2, []), (.iconst 1, 1, []), (.iadd, 1, []), (.iaload, 1, []), (.invokevirtual 31, 3, [102, 2, 896, 0, 2, 0, 0, 601024, 7293034, 11])]),
  (316, [(.aload_n 2, 1, []), (.aload_n 0, 1, []), (.iload 4, 2, []), (.iconst 1, 1, []), (.iadd, 1, []), (.iaload, 1, []), (.invokevirtual 34, 3, [103, 2, 1791, 0, 2, 0, 0, 601024, 7293034, 12])]),
  (326, [(.if_icmp .eq 1300, 3, [1626])]),
  (329, [(.iconst 0, 1, []), (.ireturn, 1, [3])]),
  (331, [(.aload_n 1, 1, []), (.aload_n 0, 1, []), (.iload 4, 2, []), (.iconst 1, 1, []), (.iadd, 1, []), (.iaload, 1, []), (.aload_n 0, 1, []), (.iload 4, 2, []), (.iconst 2, 1, []), (.iadd, 1, []), (.iaload, 1, []), (.invokevirtual 35, 3, [104, 3, 900, 0, 3, 0, 0, 601024, 7293034, 11])]),
  (347, [(.aload_n 2, 1, []), (.aload_n 0, 1, []), (.iload 4, 2, []), (.iconst 1, 1, []), (.iadd, 1, []), (.iaload, 1, []), (.aload_n 0, 1, []), (.iload 4, 2, []), (.iconst 2, 1, []), (.iadd, 1, []), (.iaload, 1, []), (.invokevirtual 38, 3, [105, 3, 1795, 0, 3, 0, 0, 601024, 7293034, 12])]),
  (363, [(.if_icmp .eq 1263, 3, [1626])]),
  (366, [(.iconst 0, 1, []), (.ireturn, 1, [3])])]
set_option maxRecDepth 100000 in
theorem seg_277_3_ok : chkM 277 seg_277_3 = true := by decide +kernel
def seg_277_4 : SegL := [
  (368, [(.aload_n 1, 1, []), (.aload_n 0, 1, []), (.iload 4, 2, []), (.iconst 1, 1, []), (.iadd, 1, []), (.iaload, 1, []), (.aload_n 0, 1, []), (.iload 4, 2, []), (.iconst 2, 1, []), (.iadd, 1, []), (.iaload, 1, []), (.aload_n 3, 1, []), (.invokestatic 39, 3, [996, 1291, 4, 40, 601024, 7293034])]),
  (385, [(.istore 5, 2, []), (.aload_n 2, 1, []), (.aload_n 0, 1, []), (.iload 4, 2, []), (.iconst 1, 1, []), (.iadd, 1, []), (.iaload, 1, []), (.aload_n 0, 1, []), (.iload 4, 2, []), (.iconst 2, 1, []), (.iadd, 1, []), (.iaload, 1, []), (.invokevirtual 44, 3, [111, 3, 1799, 0, 3, 0, 0, 601024, 7293034, 12])]),
  (403, [(.istore 6, 2, []), (.aload_n 2, 1, []), (.invokevirtual 45, 3, [112, 1, 1650, 0, 1, 0, 0, 601024, 7293034, 12])]),
  (409, [(.iload 5, 2, []), (.if_icmp .eq 5, 3, [416])]),
  (414, [(.iconst 0, 1, []), (.ireturn, 1, [3])]),
  (416, [(.iload 5, 2, []), (.ifCond .ne 15, 3, [433])]),
  (421, [(.aload_n 3, 1, []), (.iconst 0, 1, []), (.laload, 1, []), (.iload 6, 2, []), (.i2l, 1, []), (.lcmp, 1, []), (.ifCond .eq 5, 3, [433])]),
  (431, [(.iconst 0, 1, []), (.ireturn, 1, [3])]),
  (433, [(.goto 1193, 3, [1626])])]
set_option maxRecDepth 100000 in
theorem seg_277_4_ok : chkM 277 seg_277_4 = true := by decide +kernel
def seg_277_5 : SegL := [
  (436, [(.aload_n 1, 1, []), (.aload_n 0, 1, []), (.iload 4, 2, []), (.iconst 1, 1, []), (.iadd, 1, []), (.iaload, 1, []), (.aload_n 0, 1, []), (.iload 4, 2, []), (.iconst 2, 1, []), (.iadd, 1, []), (.iaload, 1, []), (.invokevirtual 49, 3, [113, 3, 905, 0, 3, 0, 0, 601024, 7293034, 11])]),
  (452, [(.aload_n 2, 1, []), (.aload_n 0, 1, []), (.iload 4, 2, []), (.iconst 1, 1, []), (.iadd, 1, []), (.iaload, 1, []), (.aload_n 0, 1, []), (.iload 4, 2, []), (.iconst 2, 1, []), (.iadd, 1, []), (.iaload, 1, []), (.invokevirtual 52, 3, [115, 3, 1811, 0, 3, 0, 0, 601024, 7293034, 12])]),
  (468, [(.if_icmp .eq 1158, 3, [1626])]),
  (471, [(.iconst 0, 1, []), (.ireturn, 1, [3])]),
  (473, [(.aload_n 1, 1, []), (.aload_n 0, 1, []), (.iload 4, 2, []), (.iconst 1, 1, []), (.iadd, 1, []), (.iaload, 1, []), (.aload_n 0, 1, []), (.iload 4, 2, []), (.iconst 2, 1, []), (.iadd, 1, []), (.iaload, 1, []), (.aload_n 0, 1, []), (.iload 4, 2, []), (.iconst 3, 1, []), (.iadd, 1, []), (.iaload, 1, []), (.invokevirtual 53, 3, [122, 4, 913, 0, 4, 0, 0, 601024, 7293034, 11])])]
set_option maxRecDepth 100000 in
theorem seg_277_5_ok : chkM 277 seg_277_5 = true := by decide +kernel
def seg_277_6 : SegL := [
  (495, [(.aload_n 2, 1, []), (.aload_n 0, 1, []), (.iload 4, 2, []), (.iconst 1, 1, []), (.iadd, 1, []), (.iaload, 1, []), (.aload_n 0, 1, []), (.iload 4, 2, []), (.iconst 2, 1, []), (.iadd, 1, []), (.iaload, 1, []), (.aload_n 0, 1, []), (.iload 4, 2, []), (.iconst 3, 1, []), (.iadd, 1, []), (.iaload, 1, []), (.invokevirtual 57, 3, [125, 4, 1819, 0, 4, 0, 0, 601024, 7293034, 12])]),
  (517, [(.if_icmp .eq 1109, 3, [1626])]),
  (520, [(.iconst 0, 1, []), (.ireturn, 1, [3])]),
  (522, [(.aload_n 1, 1, []), (.aload_n 0, 1, []), (.iload 4, 2, []), (.iconst 1, 1, []), (.iadd, 1, []), (.iaload, 1, []), (.aload_n 0, 1, []), (.iload 4, 2, []), (.iconst 2, 1, []), (.iadd, 1, []), (.iaload, 1, []), (.aload_n 0, 1, []), (.iload 4, 2, []), (.iconst 3, 1, []), (.iadd, 1, []), (.iaload, 1, []), (.invokevirtual 58, 3, [132, 4, 940, 0, 4, 0, 0, 601024, 7293034, 11])])]
set_option maxRecDepth 100000 in
theorem seg_277_6_ok : chkM 277 seg_277_6 = true := by decide +kernel
def seg_277_7 : SegL := [
  (544, [(.aload_n 2, 1, []), (.aload_n 0, 1, []), (.iload 4, 2, []), (.iconst 1, 1, []), (.iadd, 1, []), (.iaload, 1, []), (.aload_n 0, 1, []), (.iload 4, 2, []), (.iconst 2, 1, []), (.iadd, 1, []), (.iaload, 1, []), (.aload_n 0, 1, []), (.iload 4, 2, []), (.iconst 3, 1, []), (.iadd, 1, []), (.iaload, 1, []), (.invokevirtual 62, 3, [141, 4, 1831, 0, 6, 0, 0, 601024, 7293034, 12])]),
  (566, [(.lcmp, 1, []), (.ifCond .eq 1059, 3, [1626])]),
  (570, [(.iconst 0, 1, []), (.ireturn, 1, [3])]),
  (572, [(.aload_n 1, 1, []), (.aload_n 0, 1, []), (.iload 4, 2, []), (.iconst 1, 1, []), (.iadd, 1, []), (.iaload, 1, []), (.aload_n 0, 1, []), (.iload 4, 2, []), (.iconst 2, 1, []), (.iadd, 1, []), (.iaload, 1, []), (.aload_n 0, 1, []), (.iload 4, 2, []), (.iconst 3, 1, []), (.iadd, 1, []), (.iaload, 1, []), (.invokevirtual 63, 3, [150, 4, 991, 0, 4, 0, 0, 601024, 7293034, 11])])]
set_option maxRecDepth 100000 in
theorem seg_277_7_ok : chkM 277 seg_277_7 = true := by decide +kernel
def seg_277_8 : SegL := [
  (594, [(.aload_n 2, 1, []), (.aload_n 0, 1, []), (.iload 4, 2, []), (.iconst 1, 1, []), (.iadd, 1, []), (.iaload, 1, []), (.aload_n 0, 1, []), (.iload 4, 2, []), (.iconst 2, 1, []), (.iadd, 1, []), (.iaload, 1, []), (.aload_n 0, 1, []), (.iload 4, 2, []), (.iconst 3, 1, []), (.iadd, 1, []), (.iaload, 1, []), (.invokevirtual 66, 3, [158, 4, 1868, 0, 5, 0, 0, 601024, 7293034, 12])]),
  (616, [(.if_icmp .eq 1010, 3, [1626])]),
  (619, [(.iconst 0, 1, []), (.ireturn, 1, [3])]),
  (621, [(.aload_n 1, 1, []), (.aload_n 0, 1, []), (.iload 4, 2, []), (.iconst 1, 1, []), (.iadd, 1, []), (.iaload, 1, []), (.aload_n 0, 1, []), (.iload 4, 2, []), (.iconst 2, 1, []), (.iadd, 1, []), (.iaload, 1, []), (.invokevirtual 67, 3, [160, 3, 1034, 0, 3, 0, 0, 601024, 7293034, 11])]),
  (637, [(.aload_n 2, 1, []), (.aload_n 0, 1, []), (.iload 4, 2, []), (.iconst 1, 1, []), (.iadd, 1, []), (.iaload, 1, []), (.aload_n 0, 1, []), (.iload 4, 2, []), (.iconst 2, 1, []), (.iadd, 1, []), (.iaload, 1, []), (.invokevirtual 71, 3, [162, 3, 1905, 0, 3, 0, 0, 601024, 7293034, 12])]),
  (653, [(.if_icmp .eq 973, 3, [1626])]),
  (656, [(.iconst 0, 1, []), (.ireturn, 1, [3])])]
set_option maxRecDepth 100000 in
theorem seg_277_8_ok : chkM 277 seg_277_8 = true := by decide +kernel
def seg_277_9 : SegL := [
  (658, [(.aload_n 1, 1, []), (.aload_n 0, 1, []), (.iload 4, 2, []), (.iconst 1, 1, []), (.iadd, 1, []), (.iaload, 1, []), (.aload_n 0, 1, []), (.iload 4, 2, []), (.iconst 2, 1, []), (.iadd, 1, []), (.iaload, 1, []), (.invokevirtual 72, 3, [163, 3, 1043, 0, 3, 0, 0, 601024, 7293034, 11])]),
  (674, [(.aload_n 2, 1, []), (.aload_n 0, 1, []), (.iload 4, 2, []), (.iconst 1, 1, []), (.iadd, 1, []), (.iaload, 1, []), (.aload_n 0, 1, []), (.iload 4, 2, []), (.iconst 2, 1, []), (.iadd, 1, []), (.iaload, 1, []), (.invokevirtual 75, 3, [164, 3, 1913, 0, 3, 0, 0, 601024, 7293034, 12])]),
  (690, [(.if_icmp .eq 936, 3, [1626])]),
  (693, [(.iconst 0, 1, []), (.ireturn, 1, [3])]),
  (695, [(.aload_n 1, 1, []), (.invokevirtual 76, 3, [165, 1, 1047, 0, 1, 0, 0, 601024, 7293034, 11])]),
  (699, [(.aload_n 2, 1, []), (.invokevirtual 79, 3, [166, 1, 1917, 0, 2, 0, 0, 601024, 7293034, 12])]),
  (703, [(.if_icmp .eq 923, 3, [1626])]),
  (706, [(.iconst 0, 1, []), (.ireturn, 1, [3])]),
  (708, [(.aload_n 1, 1, []), (.aload_n 0, 1, []), (.iload 4, 2, []), (.iconst 1, 1, []), (.iadd, 1, []), (.iaload, 1, []), (.invokevirtual 80, 3, [170, 2, 1069, 0, 3, 0, 0, 601024, 7293034, 11])]),
  (718, [(.aload_n 2, 1, []), (.aload_n 0, 1, []), (.iload 4, 2, []), (.iconst 1, 1, []), (.iadd, 1, []), (.iaload, 1, []), (.invokevirtual 83, 3, [174, 2, 1921, 0, 2, 0, 0, 601024, 7293034, 12])]),
  (728, [(.if_icmp .eq 898, 3, [1626])])]
set_option maxRecDepth 100000 in
theorem seg_277_9_ok : chkM 277 seg_277_9 = true := by decide +kernel
def seg_277_10 : SegL := [
  (731, [(.iconst 0, 1, []), (.ireturn, 1, [3])]),
  (733, [(.aload_n 1, 1, []), (.aload_n 0, 1, []), (.iload 4, 2, []), (.iconst 1, 1, []), (.iadd, 1, []), (.iaload, 1, []), (.aload_n 0, 1, []), (.iload 4, 2, []), (.iconst 2, 1, []), (.iadd, 1, []), (.iaload, 1, []), (.invokevirtual 84, 3, [175, 3, 1083, 0, 4, 0, 0, 601024, 7293034, 11])]),
  (749, [(.aload_n 2, 1, []), (.aload_n 0, 1, []), (.iload 4, 2, []), (.iconst 1, 1, []), (.iadd, 1, []), (.iaload, 1, []), (.aload_n 0, 1, []), (.iload 4, 2, []), (.iconst 2, 1, []), (.iadd, 1, []), (.iaload, 1, []), (.invokevirtual 87, 3, [177, 3, 1937, 0, 3, 0, 0, 601024, 7293034, 12])]),
  (765, [(.if_icmp .eq 861, 3, [1626])]),
  (768, [(.iconst 0, 1, []), (.ireturn, 1, [3])]),
  (770, [(.aload_n 1, 1, []), (.aload_n 0, 1, []), (.iload 4, 2, []), (.iconst 1, 1, []), (.iadd, 1, []), (.iaload, 1, []), (.aload_n 0, 1, []), (.iload 4, 2, []), (.iconst 2, 1, []), (.iadd, 1, []), (.iaload, 1, []), (.invokevirtual 88, 3, [179, 3, 1087, 0, 6, 0, 0, 601024, 7293034, 11])])]
set_option maxRecDepth 100000 in
theorem seg_277_10_ok : chkM 277 seg_277_10 = true := by decide +kernel
def seg_277_11 : SegL := [
  (786, [(.aload_n 2, 1, []), (.aload_n 0, 1, []), (.iload 4, 2, []), (.iconst 1, 1, []), (.iadd, 1, []), (.iaload, 1, []), (.aload_n 0, 1, []), (.iload 4, 2, []), (.iconst 2, 1, []), (.iadd, 1, []), (.iaload, 1, []), (.invokevirtual 91, 3, [180, 3, 1945, 0, 5, 0, 0, 601024, 7293034, 12])]),
  (802, [(.if_icmp .eq 824, 3, [1626])]),
  (805, [(.iconst 0, 1, []), (.ireturn, 1, [3])]),
  (807, [(.aload_n 1, 1, []), (.aload_n 0, 1, []), (.iload 4, 2, []), (.iconst 1, 1, []), (.iadd, 1, []), (.iaload, 1, []), (.invokevirtual 92, 3, [182, 2, 1096, 0, 3, 0, 0, 601024, 7293034, 11])]),
  (817, [(.aload_n 2, 1, []), (.aload_n 0, 1, []), (.iload 4, 2, []), (.iconst 1, 1, []), (.iadd, 1, []), (.iaload, 1, []), (.invokevirtual 95, 3, [183, 2, 1949, 0, 4, 0, 0, 601024, 7293034, 12])]),
  (827, [(.if_icmp .eq 799, 3, [1626])]),
  (830, [(.iconst 0, 1, []), (.ireturn, 1, [3])]),
  (832, [(.aload_n 1, 1, []), (.aload_n 0, 1, []), (.iload 4, 2, []), (.iconst 1, 1, []), (.iadd, 1, []), (.iaload, 1, []), (.aload_n 0, 1, []), (.iload 4, 2, []), (.iconst 2, 1, []), (.iadd, 1, []), (.iaload, 1, []), (.aload_n 0, 1, []), (.iload 4, 2, []), (.iconst 3, 1, []), (.iadd, 1, []), (.iaload, 1, []), (.invokevirtual 96, 3, [185, 4, 1104, 0, 7, 0, 0, 601024, 7293034, 11])])]
set_option maxRecDepth 100000 in
theorem seg_277_11_ok : chkM 277 seg_277_11 = true := by decide +kernel
def seg_277_12 : SegL := [
  (854, [(.aload_n 2, 1, []), (.aload_n 0, 1, []), (.iload 4, 2, []), (.iconst 1, 1, []), (.iadd, 1, []), (.iaload, 1, []), (.aload_n 0, 1, []), (.iload 4, 2, []), (.iconst 2, 1, []), (.iadd, 1, []), (.iaload, 1, []), (.aload_n 0, 1, []), (.iload 4, 2, []), (.iconst 3, 1, []), (.iadd, 1, []), (.iaload, 1, []), (.invokevirtual 99, 3, [186, 4, 1953, 0, 7, 0, 0, 601024, 7293034, 12])]),
  (876, [(.if_icmp .eq 750, 3, [1626])]),
  (879, [(.iconst 0, 1, []), (.ireturn, 1, [3])]),
  (881, [(.aload_n 1, 1, []), (.aload_n 0, 1, []), (.iload 4, 2, []), (.iconst 1, 1, []), (.iadd, 1, []), (.iaload, 1, []), (.invokevirtual 100, 3, [188, 2, 1136, 0, 4, 0, 0, 601024, 7293034, 11])]),
  (891, [(.aload_n 2, 1, []), (.aload_n 0, 1, []), (.iload 4, 2, []), (.iconst 1, 1, []), (.iadd, 1, []), (.iaload, 1, []), (.invokevirtual 103, 3, [189, 2, 1957, 0, 5, 0, 0, 601024, 7293034, 12])]),
  (901, [(.if_icmp .eq 725, 3, [1626])]),
  (904, [(.iconst 0, 1, []), (.ireturn, 1, [3])]),
  (906, [(.aload_n 1, 1, []), (.aload_n 0, 1, []), (.iload 4, 2, []), (.iconst 1, 1, []), (.iadd, 1, []), (.iaload, 1, []), (.aload_n 0, 1, []), (.iload 4, 2, []), (.iconst 2, 1, []), (.iadd, 1, []), (.iaload, 1, []), (.invokevirtual 104, 3, [191, 3, 1112, 0, 3, 0, 0, 601024, 7293034, 11])])]
set_option maxRecDepth 100000 in
theorem seg_277_12_ok : chkM 277 seg_277_12 = true := by decide +kernel
def seg_277_13 : SegL := [
  (922, [(.aload_n 2, 1, []), (.aload_n 0, 1, []), (.iload 4, 2, []), (.iconst 1, 1, []), (.iadd, 1, []), (.iaload, 1, []), (.aload_n 0, 1, []), (.iload 4, 2, []), (.iconst 2, 1, []), (.iadd, 1, []), (.iaload, 1, []), (.invokevirtual 107, 3, [193, 3, 1961, 0, 3, 0, 0, 601024, 7293034, 12])]),
  (938, [(.if_icmp .eq 688, 3, [1626])]),
  (941, [(.iconst 0, 1, []), (.ireturn, 1, [3])]),
  (943, [(.aload_n 1, 1, []), (.aload_n 0, 1, []), (.iload 4, 2, []), (.iconst 1, 1, []), (.iadd, 1, []), (.iaload, 1, []), (.invokevirtual 108, 3, [194, 2, 1120, 0, 6, 0, 0, 601024, 7293034, 11])]),
  (953, [(.aload_n 2, 1, []), (.aload_n 0, 1, []), (.iload 4, 2, []), (.iconst 1, 1, []), (.iadd, 1, []), (.iaload, 1, []), (.invokevirtual 111, 3, [195, 2, 1969, 0, 4, 0, 0, 601024, 7293034, 12])]),
  (963, [(.if_icmp .eq 663, 3, [1626])]),
  (966, [(.iconst 0, 1, []), (.ireturn, 1, [3])])]
set_option maxRecDepth 100000 in
theorem seg_277_13_ok : chkM 277 seg_277_13 = true := by decide +kernel
def seg_277_14 : SegL := [
  (968, [(.aload_n 1, 1, []), (.aload_n 0, 1, []), (.iload 4, 2, []), (.iconst 1, 1, []), (.iadd, 1, []), (.iaload, 1, []), (.aload_n 0, 1, []), (.iload 4, 2, []), (.iconst 2, 1, []), (.iadd, 1, []), (.iaload, 1, []), (.aload_n 0, 1, []), (.iload 4, 2, []), (.iconst 3, 1, []), (.iadd, 1, []), (.iaload, 1, []), (.aload_n 0, 1, []), (.iload 4, 2, []), (.iconst 4, 1, []), (.iadd, 1, []), (.iaload, 1, []), (.invokevirtual 112, 3, [201, 5, 1156, 0, 5, 0, 0, 601024, 7293034, 11])]),
  (996, [(.aload_n 2, 1, []), (.aload_n 0, 1, []), (.iload 4, 2, []), (.iconst 1, 1, []), (.iadd, 1, []), (.iaload, 1, []), (.aload_n 0, 1, []), (.iload 4, 2, []), (.iconst 2, 1, []), (.iadd, 1, []), (.iaload, 1, []), (.aload_n 0, 1, []), (.iload 4, 2, []), (.iconst 3, 1, []), (.iadd, 1, []), (.iaload, 1, []), (.aload_n 0, 1, []), (.iload 4, 2, []), (.iconst 4, 1, []), (.iadd, 1, []), (.iaload, 1, []), (.invokevirtual 116, 3, [210, 5, 1973, 0, 5, 0, 0, 601024, 7293034, 12])]),
  (1024, [(.if_icmp .eq 602, 3, [1626])]),
  (1027, [(.iconst 0, 1, []), (.ireturn, 1, [3])])]
set_option maxRecDepth 100000 in
theorem seg_277_14_ok : chkM 277 seg_277_14 = true := by decide +kernel
def seg_277_15 : SegL := [
  (1029, [(.aload_n 1, 1, []), (.aload_n 0, 1, []), (.iload 4, 2, []), (.iconst 1, 1, []), (.iadd, 1, []), (.iaload, 1, []), (.aload_n 0, 1, []), (.iload 4, 2, []), (.iconst 2, 1, []), (.iadd, 1, []), (.iaload, 1, []), (.aload_n 0, 1, []), (.iload 4, 2, []), (.iconst 3, 1, []), (.iadd, 1, []), (.iaload, 1, []), (.aload_n 0, 1, []), (.iload 4, 2, []), (.iconst 4, 1, []), (.iadd, 1, []), (.iaload, 1, []), (.aload_n 0, 1, []), (.iload 4, 2, []), (.iconst 5, 1, []), (.iadd, 1, []), (.iaload, 1, []), (.invokevirtual 117, 3, [211, 6, 1186, 0, 6, 0, 0, 601024, 7293034, 11])])]
set_option maxRecDepth 100000 in
theorem seg_277_15_ok : chkM 277 seg_277_15 = true := by decide +kernel
def seg_277_16 : SegL := [
  (1063, [(.aload_n 2, 1, []), (.aload_n 0, 1, []), (.iload 4, 2, []), (.iconst 1, 1, []), (.iadd, 1, []), (.iaload, 1, []), (.aload_n 0, 1, []), (.iload 4, 2, []), (.iconst 2, 1, []), (.iadd, 1, []), (.iaload, 1, []), (.aload_n 0, 1, []), (.iload 4, 2, []), (.iconst 3, 1, []), (.iadd, 1, []), (.iaload, 1, []), (.aload_n 0, 1, []), (.iload 4, 2, []), (.iconst 4, 1, []), (.iadd, 1, []), (.iaload, 1, []), (.aload_n 0, 1, []), (.iload 4, 2, []), (.iconst 5, 1, []), (.iadd, 1, []), (.iaload, 1, []), (.invokevirtual 120, 3, [212, 6, 2009, 0, 7, 0, 0, 601024, 7293034, 12])]),
  (1097, [(.if_icmp .eq 529, 3, [1626])]),
  (1100, [(.iconst 0, 1, []), (.ireturn, 1, [3])]),
  (1102, [(.aload_n 1, 1, []), (.aload_n 0, 1, []), (.iload 4, 2, []), (.iconst 1, 1, []), (.iadd, 1, []), (.iaload, 1, []), (.invokevirtual 121, 3, [215, 2, 1144, 0, 4, 0, 0, 601024, 7293034, 11])]),
  (1112, [(.aload_n 2, 1, []), (.aload_n 0, 1, []), (.iload 4, 2, []), (.iconst 1, 1, []), (.iadd, 1, []), (.iaload, 1, []), (.invokevirtual 124, 3, [217, 2, 2013, 0, 4, 0, 0, 601024, 7293034, 12])]),
  (1122, [(.if_icmp .eq 504, 3, [1626])]),
  (1125, [(.iconst 0, 1, []), (.ireturn, 1, [3])])]
set_option maxRecDepth 100000 in
theorem seg_277_16_ok : chkM 277 seg_277_16 = true := by decide +kernel
def seg_277_17 : SegL := [
  (1127, [(.aload_n 1, 1, []), (.aload_n 0, 1, []), (.iload 4, 2, []), (.iconst 1, 1, []), (.iadd, 1, []), (.iaload, 1, []), (.aload_n 0, 1, []), (.iload 4, 2, []), (.iconst 2, 1, []), (.iadd, 1, []), (.iaload, 1, []), (.aload_n 0, 1, []), (.iload 4, 2, []), (.iconst 3, 1, []), (.iadd, 1, []), (.iaload, 1, []), (.invokevirtual 125, 3, [221, 4, 1190, 0, 4, 0, 0, 601024, 7293034, 11])]),
  (1149, [(.aload_n 2, 1, []), (.aload_n 0, 1, []), (.iload 4, 2, []), (.iconst 1, 1, []), (.iadd, 1, []), (.iaload, 1, []), (.aload_n 0, 1, []), (.iload 4, 2, []), (.iconst 2, 1, []), (.iadd, 1, []), (.iaload, 1, []), (.aload_n 0, 1, []), (.iload 4, 2, []), (.iconst 3, 1, []), (.iadd, 1, []), (.iaload, 1, []), (.invokevirtual 128, 3, [222, 4, 2021, 0, 10, 0, 0, 601024, 7293034, 12])]),
  (1171, [(.if_icmp .eq 455, 3, [1626])]),
  (1174, [(.iconst 0, 1, []), (.ireturn, 1, [3])]),
  (1176, [(.aload_n 1, 1, []), (.aload_n 0, 1, []), (.iload 4, 2, []), (.iconst 1, 1, []), (.iadd, 1, []), (.iaload, 1, []), (.aload_n 0, 1, []), (.iload 4, 2, []), (.iconst 2, 1, []), (.iadd, 1, []), (.iaload, 1, []), (.invokevirtual 129, 3, [227, 3, 1207, 0, 3, 0, 0, 601024, 7293034, 11])])]
set_option maxRecDepth 100000 in
theorem seg_277_17_ok : chkM 277 seg_277_17 = true := by decide +kernel
def seg_277_18 : SegL := [
  (1192, [(.aload_n 2, 1, []), (.aload_n 0, 1, []), (.iload 4, 2, []), (.iconst 1, 1, []), (.iadd, 1, []), (.iaload, 1, []), (.aload_n 0, 1, []), (.iload 4, 2, []), (.iconst 2, 1, []), (.iadd, 1, []), (.iaload, 1, []), (.invokevirtual 132, 3, [231, 3, 2025, 0, 3, 0, 0, 601024, 7293034, 12])]),
  (1208, [(.if_icmp .eq 418, 3, [1626])]),
  (1211, [(.iconst 0, 1, []), (.ireturn, 1, [3])]),
  (1213, [(.aload_n 1, 1, []), (.aload_n 0, 1, []), (.iload 4, 2, []), (.iconst 1, 1, []), (.iadd, 1, []), (.iaload, 1, []), (.aload_n 0, 1, []), (.iload 4, 2, []), (.iconst 2, 1, []), (.iadd, 1, []), (.iaload, 1, []), (.aload_n 0, 1, []), (.iload 4, 2, []), (.iconst 3, 1, []), (.iadd, 1, []), (.iaload, 1, []), (.invokevirtual 133, 3, [232, 4, 1228, 0, 4, 0, 0, 601024, 7293034, 11])]),
  (1235, [(.aload_n 2, 1, []), (.aload_n 0, 1, []), (.iload 4, 2, []), (.iconst 1, 1, []), (.iadd, 1, []), (.iaload, 1, []), (.aload_n 0, 1, []), (.iload 4, 2, []), (.iconst 2, 1, []), (.iadd, 1, []), (.iaload, 1, []), (.aload_n 0, 1, []), (.iload 4, 2, []), (.iconst 3, 1, []), (.iadd, 1, []), (.iaload, 1, []), (.invokevirtual 136, 3, [233, 4, 2041, 0, 4, 0, 0, 601024, 7293034, 12])]),
  (1257, [(.if_icmp .eq 369, 3, [1626])])]
set_option maxRecDepth 100000 in
theorem seg_277_18_ok : chkM 277 seg_277_18 = true := by decide +kernel
def seg_277_19 : SegL := [
  (1260, [(.iconst 0, 1, []), (.ireturn, 1, [3])]),
  (1262, [(.aload_n 1, 1, []), (.aload_n 0, 1, []), (.iload 4, 2, []), (.iconst 1, 1, []), (.iadd, 1, []), (.iaload, 1, []), (.invokevirtual 137, 3, [235, 2, 1232, 0, 2, 0, 0, 601024, 7293034, 11])]),
  (1272, [(.aload_n 2, 1, []), (.aload_n 0, 1, []), (.iload 4, 2, []), (.iconst 1, 1, []), (.iadd, 1, []), (.iaload, 1, []), (.invokevirtual 140, 3, [238, 2, 2045, 0, 3, 0, 0, 601024, 7293034, 12])]),
  (1282, [(.if_icmp .eq 344, 3, [1626])]),
  (1285, [(.iconst 0, 1, []), (.ireturn, 1, [3])]),
  (1287, [(.aload_n 1, 1, []), (.aload_n 0, 1, []), (.iload 4, 2, []), (.iconst 1, 1, []), (.iadd, 1, []), (.iaload, 1, []), (.aload_n 0, 1, []), (.iload 4, 2, []), (.iconst 2, 1, []), (.iadd, 1, []), (.iaload, 1, []), (.invokevirtual 141, 3, [239, 3, 1240, 0, 3, 0, 0, 601024, 7293034, 11])]),
  (1303, [(.aload_n 2, 1, []), (.aload_n 0, 1, []), (.iload 4, 2, []), (.iconst 1, 1, []), (.iadd, 1, []), (.iaload, 1, []), (.aload_n 0, 1, []), (.iload 4, 2, []), (.iconst 2, 1, []), (.iadd, 1, []), (.iaload, 1, []), (.invokevirtual 144, 3, [240, 3, 2057, 0, 4, 0, 0, 601024, 7293034, 12])]),
  (1319, [(.if_icmp .eq 307, 3, [1626])]),
  (1322, [(.iconst 0, 1, []), (.ireturn, 1, [3])])]
set_option maxRecDepth 100000 in
theorem seg_277_19_ok : chkM 277 seg_277_19 = true := by decide +kernel
def seg_277_20 : SegL := [
  (1324, [(.aload_n 1, 1, []), (.aload_n 0, 1, []), (.iload 4, 2, []), (.iconst 1, 1, []), (.iadd, 1, []), (.iaload, 1, []), (.aload_n 0, 1, []), (.iload 4, 2, []), (.iconst 2, 1, []), (.iadd, 1, []), (.iaload, 1, []), (.aload_n 0, 1, []), (.iload 4, 2, []), (.iconst 3, 1, []), (.iadd, 1, []), (.iaload, 1, []), (.aload_n 0, 1, []), (.iload 4, 2, []), (.iconst 4, 1, []), (.iadd, 1, []), (.iaload, 1, []), (.ifCond .eq 7, 3, [1356])]),
  (1352, [(.iconst 1, 1, []), (.goto 4, 3, [1357])]),
  (1356, [(.iconst 0, 1, [])]),
  (1357, [(.invokevirtual 145, 3, [243, 5, 1244, 0, 5, 0, 0, 601024, 7293034, 11])]),
  (1360, [(.aload_n 2, 1, []), (.aload_n 0, 1, []), (.iload 4, 2, []), (.iconst 1, 1, []), (.iadd, 1, []), (.iaload, 1, []), (.aload_n 0, 1, []), (.iload 4, 2, []), (.iconst 2, 1, []), (.iadd, 1, []), (.iaload, 1, []), (.aload_n 0, 1, []), (.iload 4, 2, []), (.iconst 3, 1, []), (.iadd, 1, []), (.iaload, 1, []), (.aload_n 0, 1, []), (.iload 4, 2, []), (.iconst 4, 1, []), (.iadd, 1, []), (.iaload, 1, []), (.ifCond .eq 7, 3, [1392])]),
  (1388, [(.iconst 1, 1, []), (.goto 4, 3, [1393])])]
set_option maxRecDepth 100000 in
theorem seg_277_20_ok : chkM 277 seg_277_20 = true := by decide +kernel
def seg_277_21 : SegL := [
  (1392, [(.iconst 0, 1, [])]),
  (1393, [(.invokevirtual 149, 3, [245, 5, 2061, 0, 5, 0, 0, 601024, 7293034, 12])]),
  (1396, [(.if_icmp .eq 230, 3, [1626])]),
  (1399, [(.iconst 0, 1, []), (.ireturn, 1, [3])]),
  (1401, [(.aload_n 1, 1, []), (.aload_n 0, 1, []), (.iload 4, 2, []), (.iconst 1, 1, []), (.iadd, 1, []), (.iaload, 1, []), (.invokevirtual 150, 3, [247, 2, 1257, 0, 2, 0, 0, 601024, 7293034, 11])]),
  (1411, [(.aload_n 2, 1, []), (.aload_n 0, 1, []), (.iload 4, 2, []), (.iconst 1, 1, []), (.iadd, 1, []), (.iaload, 1, []), (.invokevirtual 153, 3, [248, 2, 2069, 0, 2, 0, 0, 601024, 7293034, 12])]),
  (1421, [(.if_icmp .eq 205, 3, [1626])]),
  (1424, [(.iconst 0, 1, []), (.ireturn, 1, [3])]),
  (1426, [(.aload_n 1, 1, []), (.aload_n 0, 1, []), (.iload 4, 2, []), (.iconst 1, 1, []), (.iadd, 1, []), (.iaload, 1, []), (.invokevirtual 154, 3, [249, 2, 1265, 0, 2, 0, 0, 601024, 7293034, 11])]),
  (1436, [(.aload_n 2, 1, []), (.aload_n 0, 1, []), (.iload 4, 2, []), (.iconst 1, 1, []), (.iadd, 1, []), (.iaload, 1, []), (.invokevirtual 158, 3, [250, 2, 2073, 0, 2, 0, 0, 601024, 7293034, 12])]),
  (1446, [(.if_icmp .eq 180, 3, [1626])]),
  (1449, [(.iconst 0, 1, []), (.ireturn, 1, [3])]),
  (1451, [(.aload_n 1, 1, []), (.aload_n 0, 1, []), (.iload 4, 2, []), (.iconst 1, 1, []), (.iadd, 1, []), (.iaload, 1, []), (.invokevirtual 159, 3, [255, 2, 1269, 0, 4, 0, 0, 601024, 7293034, 11])])]
set_option maxRecDepth 100000 in
theorem seg_277_21_ok : chkM 277 seg_277_21 = true := by decide +kernel
def seg_277_22 : SegL := [
  (1461, [(.aload_n 2, 1, []), (.aload_n 0, 1, []), (.iload 4, 2, []), (.iconst 1, 1, []), (.iadd, 1, []), (.iaload, 1, []), (.invokevirtual 162, 3, [259, 2, 2077, 0, 4, 0, 0, 601024, 7293034, 12])]),
  (1471, [(.if_icmp .eq 155, 3, [1626])]),
  (1474, [(.iconst 0, 1, []), (.ireturn, 1, [3])]),
  (1476, [(.aload_n 1, 1, []), (.aload_n 0, 1, []), (.iload 4, 2, []), (.iconst 1, 1, []), (.iadd, 1, []), (.iaload, 1, []), (.aload_n 0, 1, []), (.iload 4, 2, []), (.iconst 2, 1, []), (.iadd, 1, []), (.iaload, 1, []), (.aload_n 0, 1, []), (.iload 4, 2, []), (.iconst 3, 1, []), (.iadd, 1, []), (.iaload, 1, []), (.invokevirtual 163, 3, [260, 4, 1287, 0, 7, 0, 0, 601024, 7293034, 11])]),
  (1498, [(.aload_n 2, 1, []), (.aload_n 0, 1, []), (.iload 4, 2, []), (.iconst 1, 1, []), (.iadd, 1, []), (.iaload, 1, []), (.aload_n 0, 1, []), (.iload 4, 2, []), (.iconst 2, 1, []), (.iadd, 1, []), (.iaload, 1, []), (.aload_n 0, 1, []), (.iload 4, 2, []), (.iconst 3, 1, []), (.iadd, 1, []), (.iaload, 1, []), (.invokevirtual 166, 3, [261, 4, 2093, 0, 9, 0, 0, 601024, 7293034, 12])]),
  (1520, [(.if_icmp .eq 106, 3, [1626])]),
  (1523, [(.iconst 0, 1, []), (.ireturn, 1, [3])])]
set_option maxRecDepth 100000 in
theorem seg_277_22_ok : chkM 277 seg_277_22 = true := by decide +kernel
def seg_277_23 : SegL := [
  (1525, [(.aload_n 1, 1, []), (.aload_n 0, 1, []), (.iload 4, 2, []), (.iconst 1, 1, []), (.iadd, 1, []), (.iaload, 1, []), (.aload_n 0, 1, []), (.iload 4, 2, []), (.iconst 2, 1, []), (.iadd, 1, []), (.iaload, 1, []), (.invokevirtual 167, 3, [264, 3, 1124, 0, 4, 0, 0, 601024, 7293034, 11])]),
  (1541, [(.aload_n 2, 1, []), (.aload_n 0, 1, []), (.iload 4, 2, []), (.iconst 1, 1, []), (.iadd, 1, []), (.iaload, 1, []), (.aload_n 0, 1, []), (.iload 4, 2, []), (.iconst 2, 1, []), (.iadd, 1, []), (.iaload, 1, []), (.invokevirtual 170, 3, [265, 3, 2097, 0, 4, 0, 0, 601024, 7293034, 12])]),
  (1557, [(.if_icmp .eq 69, 3, [1626])]),
  (1560, [(.iconst 0, 1, []), (.ireturn, 1, [3])]),
  (1562, [(.aload_n 1, 1, []), (.invokevirtual 171, 3, [267, 1, 1052, 0, 1, 0, 0, 601024, 7293034, 11])]),
  (1566, [(.aload_n 2, 1, []), (.invokevirtual 174, 3, [269, 1, 2101, 0, 1, 0, 0, 601024, 7293034, 12])]),
  (1570, [(.if_icmp .eq 56, 3, [1626])]),
  (1573, [(.iconst 0, 1, []), (.ireturn, 1, [3])]),
  (1575, [(.aload_n 1, 1, []), (.invokevirtual 175, 3, [270, 1, 1060, 0, 1, 0, 0, 601024, 7293034, 11])]),
  (1579, [(.aload_n 2, 1, []), (.invokevirtual 178, 3, [271, 1, 2109, 0, 1, 0, 0, 601024, 7293034, 12])]),
  (1583, [(.if_icmp .eq 43, 3, [1626])]),
  (1586, [(.iconst 0, 1, []), (.ireturn, 1, [3])]),
  (1588, [(.aload_n 1, 1, []), (.invokevirtual 179, 3, [272, 1, 1065, 0, 1, 0, 0, 601024, 7293034, 11])]),
  (1592, [(.aload_n 2, 1, []), (.invokevirtual 182, 3, [273, 1, 2113, 0, 1, 0, 0, 601024, 7293034, 12])]),
  (1596, [(.if_icmp .eq 30, 3, [1626])]),
  (1599, [(.iconst 0, 1, []), (.ireturn, 1, [3])])]
set_option maxRecDepth 100000 in
theorem seg_277_23_ok : chkM 277 seg_277_23 = true := by decide +kernel
def seg_277_24 : SegL := [
  (1601, [(.aload_n 1, 1, []), (.aload_n 0, 1, []), (.iload 4, 2, []), (.iconst 1, 1, []), (.iadd, 1, []), (.iaload, 1, []), (.invokevirtual 183, 3, [275, 2, 974, 0, 2, 0, 0, 601024, 7293034, 11])]),
  (1611, [(.aload_n 2, 1, []), (.aload_n 0, 1, []), (.iload 4, 2, []), (.iconst 1, 1, []), (.iadd, 1, []), (.iaload, 1, []), (.invokevirtual 186, 3, [276, 2, 2117, 0, 4, 0, 0, 601024, 7293034, 12])]),
  (1621, [(.if_icmp .eq 5, 3, [1626])]),
  (1624, [(.iconst 0, 1, []), (.ireturn, 1, [3])]),
  (1626, [(.iinc 4 6, 3, []), (.goto (-1606), 3, [23])]),
  (1632, [(.iconst 1, 1, []), (.ireturn, 1, [3])])]
set_option maxRecDepth 100000 in
theorem seg_277_24_ok : chkM 277 seg_277_24 = true := by decide +kernel
def seg_277 : SegL := seg_277_0 ++ (seg_277_1 ++ (seg_277_2 ++ (seg_277_3 ++ (seg_277_4 ++ (seg_277_5 ++ (seg_277_6 ++ (seg_277_7 ++ (seg_277_8 ++ (seg_277_9 ++ (seg_277_10 ++ (seg_277_11 ++ (seg_277_12 ++ (seg_277_13 ++ (seg_277_14 ++ (seg_277_15 ++ (seg_277_16 ++ (seg_277_17 ++ (seg_277_18 ++ (seg_277_19 ++ (seg_277_20 ++ (seg_277_21 ++ (seg_277_22 ++ (seg_277_23 ++ (seg_277_24))))))))))))))))))))))))
theorem ok_277 : chkM 277 seg_277 = true := (chkM_app _ _ _ seg_277_0_ok (chkM_app _ _ _ seg_277_1_ok (chkM_app _ _ _ seg_277_2_ok (chkM_app _ _ _ seg_277_3_ok (chkM_app _ _ _ seg_277_4_ok (chkM_app _ _ _ seg_277_5_ok (chkM_app _ _ _ seg_277_6_ok (chkM_app _ _ _ seg_277_7_ok (chkM_app _ _ _ seg_277_8_ok (chkM_app _ _ _ seg_277_9_ok (chkM_app _ _ _ seg_277_10_ok (chkM_app _ _ _ seg_277_11_ok (chkM_app _ _ _ seg_277_12_ok (chkM_app _ _ _ seg_277_13_ok (chkM_app _ _ _ seg_277_14_ok (chkM_app _ _ _ seg_277_15_ok (chkM_app _ _ _ seg_277_16_ok (chkM_app _ _ _ seg_277_17_ok (chkM_app _ _ _ seg_277_18_ok (chkM_app _ _ _ seg_277_19_ok (chkM_app _ _ _ seg_277_20_ok (chkM_app _ _ _ seg_277_21_ok (chkM_app _ _ _ seg_277_22_ok (chkM_app _ _ _ seg_277_23_ok seg_277_24_ok))))))))))))))))))))))))
def segG_5 : List SegL := [seg_250, seg_251, seg_252, seg_253, seg_254, seg_255, seg_256, seg_257, seg_258, seg_259, seg_260, seg_261, seg_262, seg_263, seg_264, seg_265, seg_266, seg_267, seg_268, seg_269, seg_270, seg_271, seg_272, seg_273, seg_274, seg_275, seg_276, seg_277]
theorem okG_5 : okFrom 250 segG_5 := ⟨ok_250, ok_251, ok_252, ok_253, ok_254, ok_255, ok_256, ok_257, ok_258, ok_259, ok_260, ok_261, ok_262, ok_263, ok_264, ok_265, ok_266, ok_267, ok_268, ok_269, ok_270, ok_271, ok_272, ok_273, ok_274, ok_275, ok_276, ok_277, trivial⟩
