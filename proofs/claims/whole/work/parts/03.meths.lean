-- the methods: name, code, locals, answer, own class, flag (0 static, 1 instance, 2 constructor, 3 apart), places of words, parameters, room
abbrev MT : Type := MethodName × ByteArray × Nat × Option FieldType × Nat × Nat × List Nat
def mt0 : MT := (⟨"", "", ""⟩, .mk #[], 0, none, 99, 9, [])
def ownL : List String := ["AskedCourt$Court", "AskedCourt$History", "AskedCourt$Law", "AskedCourt$LawReader", "AskedCourt$Names", "AskedCourt$Notes", "AskedCourt$Rules", "AskedCourt$Search", "AskedCourt$State", "AskedCourt$TextReader", "AskedCourt$Tokens", "AskedCourt", "AskedCourtModel", "AskedCourtLaw", "java/lang/Math", "java/lang/Integer", "java/lang/String"]
def ownS (i : Nat) : String := ownL.getD i ""
def mtab_0 : List MT := [
  (⟨"AskedCourt$State", "<init>", "()V"⟩, prog_10_method_1_code, 1, none, 8, 2, [163, 162, 0, 128, 0, 1, 12, 4, 20]),
  (⟨"AskedCourt$History", "<init>", "()V"⟩, prog_3_method_1_code, 2, none, 1, 2, [210, 209, 0, 129, 0, 2, 32, 101, 580]),
  (⟨"AskedCourt$Notes", "<init>", "()V"⟩, prog_7_method_1_code, 1, none, 5, 2, [230, 229, 0, 130, 0, 1, 12, 6, 144]),
  (⟨"AskedCourt$Search", "<init>", "()V"⟩, prog_9_method_1_code, 1, none, 7, 2, [264, 263, 0, 131, 0, 2, 32, 14, 301]),
  (⟨"AskedCourt$Names", "<init>", "(I)V"⟩, prog_6_method_1_code, 2, none, 4, 2, [320, 319, 0, 133, 1, 1, 21, 1, 8]),
  (⟨"AskedCourt$Law", "<init>", "()V"⟩, prog_4_method_1_code, 1, none, 2, 2, [344, 343, 0, 135, 0, 1, 12, 2, 128]),
  (⟨"AskedCourt$Court", "<init>", "()V"⟩, prog_2_method_1_code, 1, none, 0, 2, [314, 313, 0, 132, 0, 2, 42, 23, 379]),
  (⟨"AskedCourt$Tokens", "<init>", "([I)V"⟩, prog_12_method_1_code, 5, none, 10, 2, [486, 485, 0, 137, 1, 5, 120, 1, 25]),
  (⟨"AskedCourt$LawReader", "<init>", "(LAskedCourt$Tokens;LAskedCourt$Court;)V"⟩, prog_5_method_1_code, 3, none, 3, 2, [569, 568, 0, 142, 2, 1, 12, 1, 72]),
  (⟨"AskedCourt$TextReader", "<init>", "([ILAskedCourt$Court;)V"⟩, prog_11_method_1_code, 3, none, 9, 2, [480, 479, 0, 136, 2, 6, 144, 4, 111]),
  (⟨"AskedCourt$Rules", "<init>", "(LAskedCourt$Court;)V"⟩, prog_8_method_1_code, 2, none, 6, 2, [620, 619, 0, 143, 1, 1, 12, 2, 71]),
  (⟨"AskedCourt", "<init>", "()V"⟩, prog_1_method_1_code, 1, none, 11, 2, [155, 154, 0, 127, 0, 7, 166, 196, 2827]),
  (⟨"AskedCourtModel", "plain", "()V"⟩, prog_14_method_17_code, 2, none, 12, 1, [1386, 1385, 49, 144, 0, 0, 0, 0, 0]),
  (⟨"AskedCourtModel", "copies", "([II)V"⟩, prog_14_method_18_code, 3, none, 12, 0, [1393, 1392, 0, 144, 2, 0, 0, 0, 0]),
  (⟨"AskedCourtModel", "atFirst", "(I)V"⟩, prog_14_method_49_code, 3, none, 12, 1, [1401, 1400, 52, 144, 1, 0, 0, 0, 0]),
  (⟨"AskedCourtModel", "plainTried", "()V"⟩, prog_14_method_50_code, 1, none, 12, 1, [1405, 1404, 53, 144, 0, 0, 0, 0, 0]),
  (⟨"AskedCourtModel", "begin", "()V"⟩, prog_14_method_48_code, 1, none, 12, 1, [1397, 1396, 51, 144, 0, 1, 22, 0, 0]),
  (⟨"AskedCourtModel", "keepText", "()V"⟩, prog_14_method_19_code, 2, none, 12, 1, [1390, 1389, 50, 144, 0, 2, 42, 0, 0]),
  (⟨"AskedCourtModel", "<init>", "()V"⟩, prog_14_method_1_code, 1, none, 12, 2, [1381, 1380, 0, 144, 0, 3, 63, 41, 2503]),
  (⟨"AskedCourt", "putBytes", "(I)V"⟩, prog_1_method_3_code, 3, none, 11, 1, [707, 706, 0, 127, 1, 0, 0, 0, 0]),
  (⟨"AskedCourt", "feed", "(IIIII)I"⟩, prog_1_method_2_code, 6, (some .int), 11, 1, [703, 701, 702, 127, 5, 1, 22, 0, 0]),
  (⟨"AskedCourtModel", "feed", "(IIIII)I"⟩, prog_14_method_3_code, 8, (some .int), 12, 1, [1657, 1655, 1656, 144, 5, 0, 0, 0, 0]),
  (⟨"AskedCourt$Names", "clear", "()V"⟩, prog_6_method_2_code, 1, none, 4, 1, [723, 721, 722, 133, 0, 0, 0, 0, 0]),
  (⟨"AskedCourt$Law", "clear", "()V"⟩, prog_4_method_2_code, 1, none, 2, 1, [727, 725, 726, 135, 0, 0, 0, 0, 0]),
  (⟨"AskedCourt$Court", "clear", "()V"⟩, prog_2_method_2_code, 1, none, 0, 1, [719, 717, 718, 132, 0, 1, 20, 0, 0]),
  (⟨"AskedCourt$Tokens", "isLetter", "(I)Z"⟩, prog_12_method_5_code, 1, (some .boolean), 10, 0, [742, 741, 0, 137, 1, 0, 0, 0, 0]),
  (⟨"AskedCourt$Tokens", "kindOfWord", "()I"⟩, prog_12_method_8_code, 2, (some .int), 10, 1, [750, 749, 2, 137, 0, 0, 0, 0, 0]),
  (⟨"AskedCourt$Tokens", "readWord", "()V"⟩, prog_12_method_7_code, 2, none, 10, 1, [746, 745, 1, 137, 0, 1, 21, 0, 0]),
  (⟨"AskedCourt$Tokens", "isDigit", "(I)Z"⟩, prog_12_method_6_code, 1, (some .boolean), 10, 0, [753, 752, 0, 137, 1, 0, 0, 0, 0]),
  (⟨"AskedCourt$Tokens", "readNumber", "()V"⟩, prog_12_method_9_code, 1, none, 10, 1, [757, 756, 3, 137, 0, 1, 21, 0, 0]),
  (⟨"AskedCourt$Tokens", "signOf", "(I)I"⟩, prog_12_method_10_code, 1, (some .int), 10, 0, [761, 760, 0, 137, 1, 0, 0, 0, 0]),
  (⟨"AskedCourt$Tokens", "lengthenSign", "()V"⟩, prog_12_method_11_code, 3, none, 10, 1, [765, 764, 4, 137, 0, 0, 0, 0, 0]),
  (⟨"AskedCourt$Tokens", "move", "()V"⟩, prog_12_method_4_code, 1, none, 10, 1, [739, 737, 738, 137, 0, 2, 42, 0, 0]),
  (⟨"AskedCourt$Tokens", "start", "(I)V"⟩, prog_12_method_3_code, 2, none, 10, 1, [731, 729, 730, 137, 1, 3, 62, 0, 0]),
  (⟨"AskedCourt$Names", "isFull", "()Z"⟩, prog_6_method_3_code, 1, (some .boolean), 4, 1, [777, 775, 776, 133, 0, 0, 0, 0, 0]),
  (⟨"AskedCourt$Names", "numberOf", "(I)I"⟩, prog_6_method_5_code, 3, (some .int), 4, 1, [786, 784, 785, 133, 1, 0, 0, 0, 0]),
  (⟨"AskedCourt$Names", "add", "(I)V"⟩, prog_6_method_6_code, 2, none, 4, 1, [790, 788, 789, 133, 1, 1, 20, 0, 0]),
  (⟨"AskedCourt$TextReader", "takeNew", "(LAskedCourt$Names;)I"⟩, prog_11_method_13_code, 2, (some .int), 9, 1, [782, 781, 7, 136, 1, 3, 62, 0, 0]),
  (⟨"AskedCourt$TextReader", "readFact", "()I"⟩, prog_11_method_5_code, 1, (some .int), 9, 1, [773, 772, 6, 136, 0, 4, 83, 0, 0]),
  (⟨"AskedCourt$TextReader", "takeNumber", "(I)I"⟩, prog_11_method_17_code, 2, (some .int), 9, 1, [799, 798, 9, 136, 1, 3, 62, 0, 0])]
def mtab_1 : List MT := [
  (⟨"AskedCourt$TextReader", "readPerson", "()I"⟩, prog_11_method_6_code, 3, (some .int), 9, 1, [795, 794, 8, 136, 0, 4, 83, 0, 0]),
  (⟨"AskedCourt$TextReader", "findTold", "(LAskedCourt$Names;)I"⟩, prog_11_method_14_code, 2, (some .int), 9, 1, [811, 810, 12, 136, 1, 1, 22, 0, 0]),
  (⟨"AskedCourt$TextReader", "takeTold", "(LAskedCourt$Names;)I"⟩, prog_11_method_15_code, 3, (some .int), 9, 1, [807, 806, 11, 136, 1, 3, 62, 0, 0]),
  (⟨"AskedCourt$TextReader", "readKnows", "()I"⟩, prog_11_method_7_code, 3, (some .int), 9, 1, [803, 802, 10, 136, 0, 4, 84, 0, 0]),
  (⟨"AskedCourt$TextReader", "takeSome", "([II)I"⟩, prog_11_method_16_code, 4, (some .int), 9, 1, [819, 818, 14, 136, 2, 3, 62, 0, 0]),
  (⟨"AskedCourt$TextReader", "readAsk", "()I"⟩, prog_11_method_8_code, 3, (some .int), 9, 1, [815, 814, 13, 136, 0, 4, 85, 0, 0]),
  (⟨"AskedCourt$TextReader", "readTalk", "()I"⟩, prog_11_method_9_code, 4, (some .int), 9, 1, [823, 822, 15, 136, 0, 4, 84, 0, 0]),
  (⟨"AskedCourt$TextReader", "readNine", "()I"⟩, prog_11_method_10_code, 2, (some .int), 9, 1, [827, 826, 16, 136, 0, 4, 83, 0, 0]),
  (⟨"AskedCourt$TextReader", "readSeed", "()I"⟩, prog_11_method_11_code, 2, (some .int), 9, 1, [831, 830, 17, 136, 0, 4, 83, 0, 0]),
  (⟨"AskedCourt$LawReader", "pushWaiting", "(I)V"⟩, prog_5_method_7_code, 2, none, 3, 1, [848, 847, 20, 142, 1, 0, 0, 0, 0]),
  (⟨"AskedCourt$LawReader", "levelOf", "(I)I"⟩, prog_5_method_9_code, 1, (some .int), 3, 0, [851, 850, 0, 142, 1, 0, 0, 0, 0]),
  (⟨"AskedCourt$LawReader", "countKnot", "()I"⟩, prog_5_method_8_code, 1, (some .int), 3, 1, [855, 854, 21, 142, 0, 0, 0, 0, 0]),
  (⟨"AskedCourt$Tokens", "isLawName", "(I)Z"⟩, prog_12_method_2_code, 1, (some .boolean), 10, 0, [858, 857, 0, 137, 1, 0, 0, 0, 0]),
  (⟨"AskedCourt$Law", "add", "(II)V"⟩, prog_4_method_3_code, 3, none, 2, 1, [862, 860, 861, 135, 2, 0, 0, 0, 0]),
  (⟨"AskedCourt$LawReader", "takeOperand", "()I"⟩, prog_5_method_3_code, 2, (some .int), 3, 1, [844, 843, 19, 142, 0, 1, 22, 0, 0]),
  (⟨"AskedCourt$LawReader", "joinAbove", "(I)V"⟩, prog_5_method_6_code, 2, none, 3, 1, [870, 869, 23, 142, 1, 1, 22, 0, 0]),
  (⟨"AskedCourt$LawReader", "takeClose", "()I"⟩, prog_5_method_5_code, 1, (some .int), 3, 1, [866, 865, 22, 142, 0, 2, 43, 0, 0]),
  (⟨"AskedCourt$LawReader", "takeOperator", "()I"⟩, prog_5_method_4_code, 3, (some .int), 3, 1, [874, 873, 24, 142, 0, 2, 43, 0, 0]),
  (⟨"AskedCourt$LawReader", "readLaw", "(LAskedCourt$Law;LAskedCourt$Court;)I"⟩, prog_5_method_2_code, 5, (some .int), 3, 1, [840, 838, 839, 142, 2, 3, 65, 0, 0]),
  (⟨"AskedCourt$TextReader", "readLaw", "()I"⟩, prog_11_method_12_code, 2, (some .int), 9, 1, [836, 835, 18, 136, 0, 4, 89, 0, 0]),
  (⟨"AskedCourt$TextReader", "readLine", "()I"⟩, prog_11_method_4_code, 1, (some .int), 9, 1, [769, 768, 5, 136, 0, 5, 110, 0, 0]),
  (⟨"AskedCourt$TextReader", "readText", "(LAskedCourt$Court;I)I"⟩, prog_11_method_3_code, 4, (some .int), 9, 1, [715, 713, 714, 136, 2, 6, 130, 0, 0]),
  (⟨"AskedCourt$TextReader", "place", "()I"⟩, prog_11_method_2_code, 1, (some .int), 9, 1, [879, 877, 878, 136, 0, 0, 0, 0, 0]),
  (⟨"AskedCourt$State", "beginDay", "(I)V"⟩, prog_10_method_3_code, 3, none, 8, 1, [887, 885, 886, 128, 1, 0, 0, 0, 0]),
  (⟨"AskedCourt$State", "begin", "(LAskedCourt$Court;)V"⟩, prog_10_method_2_code, 3, none, 8, 1, [883, 881, 882, 128, 1, 1, 22, 0, 0]),
  (⟨"AskedCourt$Notes", "clear", "()V"⟩, prog_7_method_2_code, 1, none, 5, 1, [891, 889, 890, 130, 0, 0, 0, 0, 0]),
  (⟨"AskedCourt$History", "clear", "()V"⟩, prog_3_method_2_code, 1, none, 1, 1, [895, 893, 894, 129, 0, 0, 0, 0, 0]),
  (⟨"AskedCourt", "text", "(I)I"⟩, prog_1_method_4_code, 3, (some .int), 11, 1, [711, 709, 710, 127, 1, 7, 153, 0, 0]),
  (⟨"AskedCourtModel", "isSmall", "(I)Z"⟩, prog_14_method_8_code, 2, (some .boolean), 12, 1, [1669, 1668, 55, 144, 1, 0, 0, 0, 0]),
  (⟨"AskedCourtModel", "wordAt", "(II)I"⟩, prog_14_method_7_code, 8, (some .int), 12, 1, [1673, 1672, 56, 144, 2, 0, 0, 0, 0]),
  (⟨"AskedCourtModel", "packed", "(II)I"⟩, prog_14_method_12_code, 5, (some .int), 12, 1, [1677, 1676, 57, 144, 2, 0, 0, 0, 0]),
  (⟨"AskedCourtModel", "isDigit", "(I)Z"⟩, prog_14_method_9_code, 2, (some .boolean), 12, 1, [1681, 1680, 58, 144, 1, 0, 0, 0, 0]),
  (⟨"AskedCourtModel", "signToken", "()V"⟩, prog_14_method_11_code, 4, none, 12, 1, [1686, 1685, 59, 144, 0, 0, 0, 0, 0]),
  (⟨"AskedCourtModel", "token", "()V"⟩, prog_14_method_10_code, 1, none, 12, 1, [1665, 1664, 54, 144, 0, 1, 27, 0, 0]),
  (⟨"AskedCourtModel", "wrong", "(I)Z"⟩, prog_14_method_6_code, 2, (some .boolean), 12, 1, [1694, 1693, 61, 144, 1, 0, 0, 0, 0]),
  (⟨"AskedCourtModel", "find", "([IIII)I"⟩, prog_14_method_20_code, 5, (some .int), 12, 0, [1705, 1704, 0, 144, 4, 0, 0, 0, 0]),
  (⟨"AskedCourtModel", "newName", "([III)Z"⟩, prog_14_method_21_code, 4, (some .boolean), 12, 1, [1702, 1701, 63, 144, 3, 2, 47, 0, 0]),
  (⟨"AskedCourtModel", "factLine", "()Z"⟩, prog_14_method_24_code, 1, (some .boolean), 12, 1, [1698, 1697, 62, 144, 0, 3, 70, 0, 0]),
  (⟨"AskedCourtModel", "isIn", "(III)Z"⟩, prog_14_method_4_code, 3, (some .boolean), 12, 0, [1716, 1715, 0, 144, 3, 0, 0, 0, 0]),
  (⟨"AskedCourtModel", "number", "(II)Z"⟩, prog_14_method_15_code, 3, (some .boolean), 12, 1, [1713, 1712, 65, 144, 2, 2, 47, 0, 0])]
def mtab_2 : List MT := [
  (⟨"AskedCourtModel", "personLine", "()Z"⟩, prog_14_method_25_code, 2, (some .boolean), 12, 1, [1709, 1708, 64, 144, 0, 3, 70, 0, 0]),
  (⟨"AskedCourtModel", "there", "([III)Z"⟩, prog_14_method_22_code, 5, (some .boolean), 12, 1, [1724, 1723, 67, 144, 3, 2, 47, 0, 0]),
  (⟨"AskedCourtModel", "isOf", "(II)Z"⟩, prog_14_method_5_code, 2, (some .boolean), 12, 0, [1727, 1726, 0, 144, 2, 0, 0, 0, 0]),
  (⟨"AskedCourtModel", "knowsLine", "()Z"⟩, prog_14_method_26_code, 3, (some .boolean), 12, 1, [1720, 1719, 66, 144, 0, 3, 71, 0, 0]),
  (⟨"AskedCourtModel", "isKey", "(I)Z"⟩, prog_14_method_13_code, 2, (some .boolean), 12, 1, [1739, 1738, 70, 144, 1, 0, 0, 0, 0]),
  (⟨"AskedCourtModel", "some", "()Z"⟩, prog_14_method_23_code, 1, (some .boolean), 12, 1, [1735, 1734, 69, 144, 0, 3, 71, 0, 0]),
  (⟨"AskedCourtModel", "askLine", "()Z"⟩, prog_14_method_27_code, 2, (some .boolean), 12, 1, [1731, 1730, 68, 144, 0, 4, 91, 0, 0]),
  (⟨"AskedCourtModel", "talkLine", "()Z"⟩, prog_14_method_28_code, 3, (some .boolean), 12, 1, [1743, 1742, 71, 144, 0, 3, 71, 0, 0]),
  (⟨"AskedCourtModel", "onceLine", "(II)Z"⟩, prog_14_method_29_code, 3, (some .boolean), 12, 1, [1747, 1746, 72, 144, 2, 3, 69, 0, 0]),
  (⟨"AskedCourtModel", "isSign", "(I)Z"⟩, prog_14_method_14_code, 2, (some .boolean), 12, 1, [1755, 1754, 74, 144, 1, 0, 0, 0, 0]),
  (⟨"AskedCourtModel", "waitsFor", "(I)V"⟩, prog_14_method_39_code, 2, none, 12, 1, [1763, 1762, 76, 144, 1, 0, 0, 0, 0]),
  (⟨"AskedCourtModel", "isCounted", "()Z"⟩, prog_14_method_38_code, 1, (some .boolean), 12, 1, [1767, 1766, 77, 144, 0, 1, 21, 0, 0]),
  (⟨"AskedCourtModel", "nameMet", "()I"⟩, prog_14_method_40_code, 1, (some .int), 12, 1, [1771, 1770, 78, 144, 0, 0, 0, 0, 0]),
  (⟨"AskedCourtModel", "grown", "(III)V"⟩, prog_14_method_35_code, 4, none, 12, 1, [1775, 1774, 79, 144, 3, 0, 0, 0, 0]),
  (⟨"AskedCourtModel", "leafRead", "()Z"⟩, prog_14_method_41_code, 2, (some .boolean), 12, 1, [1759, 1758, 75, 144, 0, 2, 47, 0, 0]),
  (⟨"AskedCourtModel", "rank", "(I)I"⟩, prog_14_method_34_code, 1, (some .int), 12, 0, [1786, 1785, 0, 144, 1, 0, 0, 0, 0]),
  (⟨"AskedCourtModel", "dropHeld", "()I"⟩, prog_14_method_36_code, 1, (some .int), 12, 1, [1790, 1789, 82, 144, 0, 0, 0, 0, 0]),
  (⟨"AskedCourtModel", "bind", "(I)V"⟩, prog_14_method_37_code, 5, none, 12, 1, [1783, 1782, 81, 144, 1, 1, 23, 0, 0]),
  (⟨"AskedCourtModel", "signs", "()Z"⟩, prog_14_method_42_code, 2, (some .boolean), 12, 1, [1779, 1778, 80, 144, 0, 2, 47, 0, 0]),
  (⟨"AskedCourtModel", "sumRead", "()Z"⟩, prog_14_method_43_code, 1, (some .boolean), 12, 1, [1751, 1750, 73, 144, 0, 3, 68, 0, 0]),
  (⟨"AskedCourtModel", "lineRead", "()Z"⟩, prog_14_method_30_code, 3, (some .boolean), 12, 1, [1690, 1689, 60, 144, 0, 5, 112, 0, 0]),
  (⟨"AskedCourtModel", "text", "(I)I"⟩, prog_14_method_31_code, 3, (some .int), 12, 1, [1661, 1659, 1660, 144, 1, 6, 134, 0, 0]),
  (⟨"AskedCourt", "fault", "(I)I"⟩, prog_1_method_5_code, 2, (some .int), 11, 1, [899, 897, 898, 127, 1, 0, 0, 0, 0]),
  (⟨"AskedCourtModel", "fault", "(I)I"⟩, prog_14_method_32_code, 2, (some .int), 12, 1, [1794, 1792, 1793, 144, 1, 0, 0, 0, 0]),
  (⟨"AskedCourt", "named", "(II)I"⟩, prog_1_method_6_code, 3, (some .int), 11, 1, [903, 901, 902, 127, 2, 1, 22, 0, 0]),
  (⟨"AskedCourtModel", "named", "(II)I"⟩, prog_14_method_33_code, 3, (some .int), 12, 1, [1798, 1796, 1797, 144, 2, 1, 24, 0, 0]),
  (⟨"AskedCourt$Names", "has", "(I)Z"⟩, prog_6_method_4_code, 2, (some .boolean), 4, 1, [912, 910, 911, 133, 1, 0, 0, 0, 0]),
  (⟨"AskedCourt", "person", "(II)I"⟩, prog_1_method_7_code, 3, (some .int), 11, 1, [1299, 1297, 1298, 127, 2, 1, 21, 0, 0]),
  (⟨"AskedCourtLaw", "person", "(LAskedCourt;II[J)I"⟩, method_3_code, 5, (some .int), 13, 3, [0, 0, 0, 0, 4, 8, 250, 4, 40]),
  (⟨"AskedCourtModel", "isPerson", "(I)Z"⟩, prog_14_method_52_code, 2, (some .boolean), 12, 1, [1806, 1805, 83, 144, 1, 0, 0, 0, 0]),
  (⟨"AskedCourtModel", "fails", "(I)I"⟩, prog_14_method_67_code, 2, (some .int), 12, 1, [1810, 1809, 84, 144, 1, 0, 0, 0, 0]),
  (⟨"AskedCourtModel", "person", "(II)I"⟩, prog_14_method_68_code, 3, (some .int), 12, 1, [1802, 1800, 1801, 144, 2, 1, 21, 0, 0]),
  (⟨"AskedCourtModel", "thrown", "()I"⟩, prog_14_method_2_code, 1, (some .int), 12, 1, [1653, 1651, 1652, 144, 0, 0, 0, 0, 0]),
  (⟨"AskedCourt", "question", "(II)I"⟩, prog_1_method_8_code, 3, (some .int), 11, 1, [908, 906, 907, 127, 2, 1, 21, 0, 0]),
  (⟨"AskedCourtModel", "isQuestion", "(I)Z"⟩, prog_14_method_54_code, 2, (some .boolean), 12, 1, [1818, 1817, 85, 144, 1, 0, 0, 0, 0]),
  (⟨"AskedCourtModel", "question", "(II)I"⟩, prog_14_method_69_code, 3, (some .int), 12, 1, [1814, 1812, 1813, 144, 2, 1, 21, 0, 0]),
  (⟨"AskedCourt", "areTwo", "(II)Z"⟩, prog_1_method_12_code, 3, (some .boolean), 11, 1, [920, 919, 25, 127, 2, 1, 21, 0, 0]),
  (⟨"AskedCourt$Rules", "begin", "(LAskedCourt$Court;)V"⟩, prog_8_method_2_code, 2, none, 6, 1, [924, 922, 923, 143, 1, 0, 0, 0, 0]),
  (⟨"AskedCourt$Court", "bitOf", "(I)I"⟩, prog_2_method_4_code, 1, (some .int), 0, 0, [939, 938, 0, 132, 1, 0, 0, 0, 0]),
  (⟨"AskedCourt$Court", "supposed", "(I)I"⟩, prog_2_method_3_code, 3, (some .int), 0, 1, [936, 934, 935, 132, 1, 1, 20, 0, 0])]
def mtab_3 : List MT := [
  (⟨"AskedCourt$Rules", "allows", "(LAskedCourt$State;III)Z"⟩, prog_8_method_4_code, 5, (some .boolean), 6, 1, [932, 930, 931, 143, 4, 2, 42, 0, 0]),
  (⟨"AskedCourt$Rules", "allowsToday", "(LAskedCourt$State;III)Z"⟩, prog_8_method_3_code, 5, (some .boolean), 6, 1, [928, 926, 927, 143, 4, 3, 66, 0, 0]),
  (⟨"AskedCourt", "can", "(III)I"⟩, prog_1_method_9_code, 4, (some .int), 11, 1, [916, 914, 915, 127, 3, 4, 90, 0, 0]),
  (⟨"AskedCourtModel", "supposed", "(I)I"⟩, prog_14_method_56_code, 3, (some .int), 12, 1, [1830, 1829, 87, 144, 1, 0, 0, 0, 0]),
  (⟨"AskedCourtModel", "canAsk", "(IIII)Z"⟩, prog_14_method_57_code, 5, (some .boolean), 12, 1, [1826, 1825, 86, 144, 4, 1, 22, 0, 0]),
  (⟨"AskedCourtModel", "can", "(III)I"⟩, prog_14_method_70_code, 4, (some .int), 12, 1, [1822, 1820, 1821, 144, 3, 2, 46, 0, 0]),
  (⟨"AskedCourt$Rules", "witOf", "(I)I"⟩, prog_8_method_9_code, 2, (some .int), 6, 1, [953, 952, 26, 143, 1, 0, 0, 0, 0]),
  (⟨"java/lang/Integer", "bitCount", "(I)I"⟩, prog_20_method_49_code, 1, (some .int), 15, 0, [956, 955, 0, 150, 1, 0, 0, 0, 0]),
  (⟨"AskedCourt$Law", "product", "(JJ)J"⟩, prog_4_method_6_code, 6, (some .long), 2, 0, [968, 967, 0, 135, 2, 0, 0, 0, 0, 0, 2, 4]),
  (⟨"AskedCourt$Law", "joined", "(IJJ)J"⟩, prog_4_method_5_code, 5, (some .long), 2, 0, [972, 971, 0, 135, 3, 0, 0, 0, 0, 1, 3]),
  (⟨"AskedCourt$Law", "value", "([I[J)J"⟩, prog_4_method_4_code, 12, (some .long), 2, 1, [963, 961, 962, 135, 2, 1, 25, 0, 0, 6, 8, 10]),
  (⟨"AskedCourt$Rules", "worth", "(LAskedCourt$Law;LAskedCourt$State;II)J"⟩, prog_8_method_10_code, 5, (some .long), 6, 1, [948, 946, 947, 143, 4, 2, 56, 0, 0]),
  (⟨"AskedCourt", "law", "(III)J"⟩, prog_1_method_10_code, 4, (some .long), 11, 1, [943, 941, 942, 127, 3, 3, 80, 0, 0]),
  (⟨"AskedCourtModel", "witOf", "(I)I"⟩, prog_14_method_58_code, 2, (some .int), 12, 1, [1843, 1842, 89, 144, 1, 0, 0, 0, 0]),
  (⟨"AskedCourtModel", "manyOf", "(I)I"⟩, prog_14_method_55_code, 3, (some .int), 12, 0, [1846, 1845, 0, 144, 1, 0, 0, 0, 0]),
  (⟨"AskedCourtModel", "layNames", "(III)V"⟩, prog_14_method_59_code, 4, none, 12, 1, [1839, 1838, 88, 144, 3, 1, 22, 0, 0]),
  (⟨"AskedCourtModel", "bounded", "(J)J"⟩, prog_14_method_44_code, 3, (some .long), 12, 1, [1858, 1857, 92, 144, 1, 0, 0, 0, 0, 1]),
  (⟨"AskedCourtModel", "times", "(JJ)J"⟩, prog_14_method_46_code, 6, (some .long), 12, 1, [1864, 1863, 93, 144, 2, 0, 0, 0, 0, 1, 3]),
  (⟨"AskedCourtModel", "compares", "(IJJ)Z"⟩, prog_14_method_45_code, 5, (some .boolean), 12, 0, [1867, 1866, 0, 144, 3, 0, 0, 0, 0, 1, 3]),
  (⟨"AskedCourtModel", "valueOf", "(I)J"⟩, prog_14_method_47_code, 6, (some .long), 12, 1, [1854, 1853, 91, 144, 1, 1, 25, 0, 0, 2, 4]),
  (⟨"AskedCourtModel", "lawOf", "(I)J"⟩, prog_14_method_60_code, 3, (some .long), 12, 1, [1850, 1849, 90, 144, 1, 2, 50, 0, 0]),
  (⟨"AskedCourtModel", "law", "(III)J"⟩, prog_14_method_71_code, 6, (some .long), 12, 1, [1834, 1832, 1833, 144, 3, 3, 72, 0, 0, 4]),
  (⟨"AskedCourt$State", "take", "(LAskedCourt$State;)V"⟩, prog_10_method_4_code, 3, none, 8, 1, [1002, 1000, 1001, 128, 1, 0, 0, 0, 0]),
  (⟨"AskedCourt$History", "push", "(LAskedCourt$State;)V"⟩, prog_3_method_3_code, 2, none, 1, 1, [998, 996, 997, 129, 1, 1, 22, 0, 0]),
  (⟨"AskedCourt$Rules", "isIn", "(LAskedCourt$State;II)Z"⟩, prog_8_method_6_code, 4, (some .boolean), 6, 1, [1010, 1009, 27, 143, 3, 0, 0, 0, 0]),
  (⟨"AskedCourt$Rules", "hears", "(LAskedCourt$State;II)Z"⟩, prog_8_method_7_code, 6, (some .boolean), 6, 1, [1014, 1013, 28, 143, 3, 3, 80, 0, 0, 4]),
  (⟨"AskedCourt$State", "isKnown", "(II)Z"⟩, prog_10_method_5_code, 3, (some .boolean), 8, 1, [1019, 1017, 1018, 128, 2, 0, 0, 0, 0]),
  (⟨"AskedCourt$State", "drawNumber", "()I"⟩, prog_10_method_10_code, 1, (some .int), 8, 1, [1030, 1028, 1029, 128, 0, 0, 0, 0, 0]),
  (⟨"AskedCourt$Rules", "slips", "(LAskedCourt$State;II)Z"⟩, prog_8_method_8_code, 6, (some .boolean), 6, 1, [1023, 1022, 29, 143, 3, 3, 80, 0, 0, 4]),
  (⟨"AskedCourt$Rules", "pose", "(LAskedCourt$State;III)Z"⟩, prog_8_method_5_code, 9, (some .boolean), 6, 1, [1006, 1004, 1005, 143, 4, 4, 105, 0, 0]),
  (⟨"AskedCourt", "ask", "(III)I"⟩, prog_1_method_14_code, 4, (some .int), 11, 1, [994, 992, 993, 127, 3, 5, 133, 0, 0]),
  (⟨"AskedCourtModel", "put", "([II)V"⟩, prog_14_method_119_code, 4, none, 12, 1, [1879, 1878, 95, 144, 2, 0, 0, 0, 0]),
  (⟨"AskedCourtModel", "remember", "()V"⟩, prog_14_method_121_code, 2, none, 12, 1, [1875, 1874, 94, 144, 0, 1, 23, 0, 0]),
  (⟨"AskedCourtModel", "hears", "(III)Z"⟩, prog_14_method_61_code, 7, (some .boolean), 12, 1, [1887, 1886, 97, 144, 3, 3, 72, 0, 0, 5]),
  (⟨"AskedCourtModel", "slipOf", "(III)I"⟩, prog_14_method_62_code, 7, (some .int), 12, 1, [1895, 1894, 99, 144, 3, 3, 72, 0, 0, 5]),
  (⟨"AskedCourtModel", "number1", "(I)I"⟩, prog_14_method_63_code, 2, (some .int), 12, 1, [1900, 1899, 100, 144, 1, 0, 0, 0, 0]),
  (⟨"AskedCourtModel", "isSlip", "(III)Z"⟩, prog_14_method_64_code, 6, (some .boolean), 12, 1, [1891, 1890, 98, 144, 3, 4, 98, 0, 0]),
  (⟨"AskedCourtModel", "asks", "(IIII)Z"⟩, prog_14_method_65_code, 6, (some .boolean), 12, 1, [1883, 1882, 96, 144, 4, 5, 123, 0, 0]),
  (⟨"AskedCourtModel", "ask", "(III)I"⟩, prog_14_method_72_code, 5, (some .int), 12, 1, [1871, 1869, 1870, 144, 3, 6, 148, 0, 0]),
  (⟨"AskedCourt", "areTold", "(II)Z"⟩, prog_1_method_13_code, 3, (some .boolean), 11, 1, [1041, 1040, 30, 127, 2, 1, 21, 0, 0])]
def mtab_4 : List MT := [
  (⟨"AskedCourt", "tell", "(II)Z"⟩, prog_1_method_15_code, 3, (some .boolean), 11, 1, [1037, 1035, 1036, 127, 2, 2, 43, 0, 0]),
  (⟨"AskedCourtModel", "isFact", "(I)Z"⟩, prog_14_method_53_code, 2, (some .boolean), 12, 1, [1912, 1911, 101, 144, 1, 0, 0, 0, 0]),
  (⟨"AskedCourtModel", "tell", "(II)Z"⟩, prog_14_method_73_code, 3, (some .boolean), 12, 1, [1908, 1906, 1907, 144, 2, 2, 44, 0, 0]),
  (⟨"AskedCourt", "send", "(II)Z"⟩, prog_1_method_16_code, 3, (some .boolean), 11, 1, [1046, 1044, 1045, 127, 2, 2, 43, 0, 0]),
  (⟨"AskedCourtModel", "send", "(II)Z"⟩, prog_14_method_74_code, 3, (some .boolean), 12, 1, [1916, 1914, 1915, 144, 2, 2, 44, 0, 0]),
  (⟨"AskedCourt", "end", "()I"⟩, prog_1_method_17_code, 1, (some .int), 11, 1, [1050, 1048, 1049, 127, 0, 2, 43, 0, 0]),
  (⟨"AskedCourtModel", "end", "()I"⟩, prog_14_method_75_code, 2, (some .int), 12, 1, [1920, 1918, 1919, 144, 0, 2, 44, 0, 0]),
  (⟨"AskedCourt", "freshTrial", "()LAskedCourt$State;"⟩, prog_1_method_21_code, 1, (some (.object "AskedCourt$State")), 11, 1, [1076, 1075, 31, 127, 0, 1, 22, 0, 0]),
  (⟨"AskedCourt$State", "knownInSum", "()I"⟩, prog_10_method_7_code, 3, (some .int), 8, 1, [981, 979, 980, 128, 0, 1, 20, 0, 0]),
  (⟨"AskedCourt$Rules", "settle", "(LAskedCourt$State;)V"⟩, prog_8_method_11_code, 7, none, 6, 1, [1080, 1078, 1079, 143, 1, 5, 133, 0, 0]),
  (⟨"AskedCourt", "all", "(I)I"⟩, prog_1_method_22_code, 3, (some .int), 11, 1, [1072, 1070, 1071, 127, 1, 6, 159, 0, 0]),
  (⟨"AskedCourtModel", "layTried", "()V"⟩, prog_14_method_51_code, 2, none, 12, 1, [1928, 1927, 102, 144, 0, 1, 20, 0, 0]),
  (⟨"AskedCourtModel", "sumIn", "(I)I"⟩, prog_14_method_66_code, 4, (some .int), 12, 1, [1936, 1935, 104, 144, 1, 1, 22, 0, 0]),
  (⟨"AskedCourtModel", "askAll", "()V"⟩, prog_14_method_76_code, 7, none, 12, 1, [1932, 1931, 103, 144, 0, 6, 148, 0, 0]),
  (⟨"AskedCourtModel", "all", "(I)I"⟩, prog_14_method_77_code, 2, (some .int), 12, 1, [1924, 1922, 1923, 144, 1, 7, 174, 0, 0]),
  (⟨"AskedCourt", "never", "(II)I"⟩, prog_1_method_23_code, 4, (some .int), 11, 1, [1086, 1084, 1085, 127, 2, 6, 159, 0, 0]),
  (⟨"AskedCourtModel", "learns", "(III)Z"⟩, prog_14_method_78_code, 5, (some .boolean), 12, 1, [1944, 1943, 105, 144, 3, 7, 174, 0, 0]),
  (⟨"AskedCourtModel", "never", "(II)I"⟩, prog_14_method_79_code, 3, (some .int), 12, 1, [1940, 1938, 1939, 144, 2, 8, 198, 0, 0]),
  (⟨"AskedCourt", "neverWithout", "(III)Z"⟩, prog_1_method_25_code, 5, (some .boolean), 11, 1, [1095, 1094, 32, 127, 3, 6, 159, 0, 0]),
  (⟨"AskedCourt", "away", "(II)I"⟩, prog_1_method_24_code, 6, (some .int), 11, 1, [1090, 1088, 1089, 127, 2, 7, 183, 0, 0]),
  (⟨"AskedCourtModel", "away", "(II)I"⟩, prog_14_method_80_code, 5, (some .int), 12, 1, [1948, 1946, 1947, 144, 2, 8, 198, 0, 0]),
  (⟨"AskedCourt$State", "knowers", "(I)I"⟩, prog_10_method_6_code, 4, (some .int), 8, 1, [1103, 1101, 1102, 128, 1, 0, 0, 0, 0]),
  (⟨"AskedCourt", "spread", "(I)I"⟩, prog_1_method_26_code, 3, (some .int), 11, 1, [1099, 1097, 1098, 127, 1, 6, 159, 0, 0]),
  (⟨"AskedCourtModel", "spread", "(I)I"⟩, prog_14_method_81_code, 4, (some .int), 12, 1, [1952, 1950, 1951, 144, 1, 7, 174, 0, 0]),
  (⟨"AskedCourt", "helps", "(IIII)Z"⟩, prog_1_method_28_code, 6, (some .boolean), 11, 1, [1111, 1110, 33, 127, 4, 6, 159, 0, 0]),
  (⟨"AskedCourt", "hint", "(III)I"⟩, prog_1_method_27_code, 7, (some .int), 11, 1, [1107, 1105, 1106, 127, 3, 7, 184, 0, 0]),
  (⟨"AskedCourtModel", "hint", "(III)I"⟩, prog_14_method_82_code, 7, (some .int), 12, 1, [1956, 1954, 1955, 144, 3, 8, 198, 0, 0]),
  (⟨"AskedCourt", "canAskAnybody", "(II)Z"⟩, prog_1_method_35_code, 4, (some .boolean), 11, 1, [1143, 1142, 36, 127, 2, 4, 90, 0, 0]),
  (⟨"AskedCourt", "unasked", "(I)I"⟩, prog_1_method_34_code, 4, (some .int), 11, 1, [1139, 1137, 1138, 127, 1, 5, 113, 0, 0]),
  (⟨"AskedCourtModel", "unasked", "(I)I"⟩, prog_14_method_83_code, 5, (some .int), 12, 1, [1960, 1958, 1959, 144, 1, 2, 46, 0, 0]),
  (⟨"AskedCourt", "sumInRoom", "(II)I"⟩, prog_1_method_30_code, 4, (some .int), 11, 1, [1119, 1118, 34, 127, 2, 6, 159, 0, 0]),
  (⟨"AskedCourt", "inRoom", "(II)I"⟩, prog_1_method_29_code, 3, (some .int), 11, 1, [1115, 1113, 1114, 127, 2, 7, 182, 0, 0]),
  (⟨"AskedCourtModel", "sumInRoom", "(II)I"⟩, prog_14_method_84_code, 3, (some .int), 12, 1, [1968, 1967, 106, 144, 2, 7, 174, 0, 0]),
  (⟨"AskedCourtModel", "inRoom", "(II)I"⟩, prog_14_method_85_code, 3, (some .int), 12, 1, [1964, 1962, 1963, 144, 2, 8, 196, 0, 0]),
  (⟨"AskedCourt", "bestRoom", "(I)I"⟩, prog_1_method_31_code, 6, (some .int), 11, 1, [1123, 1121, 1122, 127, 1, 7, 182, 0, 0]),
  (⟨"AskedCourtModel", "bestRoom", "(I)I"⟩, prog_14_method_86_code, 4, (some .int), 12, 1, [1972, 1970, 1971, 144, 1, 8, 196, 0, 0]),
  (⟨"AskedCourt", "isWay", "(IIII)Z"⟩, prog_1_method_41_code, 5, (some .boolean), 11, 1, [1163, 1162, 39, 127, 4, 2, 43, 0, 0]),
  (⟨"AskedCourt$Search", "aim", "(III)V"⟩, prog_9_method_2_code, 4, none, 7, 1, [1167, 1165, 1166, 131, 3, 0, 0, 0, 0]),
  (⟨"AskedCourt$Search", "canTell", "(LAskedCourt$Court;I)Z"⟩, prog_9_method_5_code, 3, (some .boolean), 7, 1, [1181, 1180, 41, 131, 2, 2, 42, 0, 0]),
  (⟨"AskedCourt$Search", "findLast", "(LAskedCourt$Rules;LAskedCourt$State;I)Z"⟩, prog_9_method_4_code, 8, (some .boolean), 7, 1, [1177, 1176, 40, 131, 3, 5, 133, 0, 0])]
def mtab_5 : List MT := [
  (⟨"AskedCourt$Search", "findWay", "(LAskedCourt$Rules;LAskedCourt$State;I)Z"⟩, prog_9_method_3_code, 8, (some .boolean), 7, 1, [1171, 1169, 1170, 131, 3, 6, 160, 0, 0]),
  (⟨"AskedCourt", "way", "(IIII)I"⟩, prog_1_method_39_code, 5, (some .int), 11, 1, [1159, 1157, 1158, 127, 4, 7, 187, 0, 0]),
  (⟨"AskedCourtModel", "isAsked", "(IIII)Z"⟩, prog_14_method_94_code, 5, (some .boolean), 12, 1, [1980, 1979, 107, 144, 4, 1, 22, 0, 0]),
  (⟨"AskedCourtModel", "steps", "()I"⟩, prog_14_method_87_code, 1, (some .int), 12, 1, [1988, 1987, 109, 144, 0, 0, 0, 0, 0]),
  (⟨"AskedCourtModel", "whoOf", "(I)I"⟩, prog_14_method_88_code, 2, (some .int), 12, 1, [1996, 1995, 111, 144, 1, 0, 0, 0, 0]),
  (⟨"AskedCourtModel", "whomOf", "(I)I"⟩, prog_14_method_89_code, 2, (some .int), 12, 1, [2000, 1999, 112, 144, 1, 0, 0, 0, 0]),
  (⟨"AskedCourtModel", "whatOf", "(I)I"⟩, prog_14_method_90_code, 2, (some .int), 12, 1, [2004, 2003, 113, 144, 1, 0, 0, 0, 0]),
  (⟨"AskedCourtModel", "does", "(I)Z"⟩, prog_14_method_91_code, 6, (some .boolean), 12, 1, [1992, 1991, 110, 144, 1, 6, 148, 0, 0]),
  (⟨"AskedCourtModel", "isWay", "(III)Z"⟩, prog_14_method_92_code, 5, (some .boolean), 12, 1, [2008, 2007, 114, 144, 3, 1, 21, 0, 0]),
  (⟨"AskedCourtModel", "wayOf", "(IIII)I"⟩, prog_14_method_93_code, 8, (some .int), 12, 1, [1984, 1983, 108, 144, 4, 7, 173, 0, 0]),
  (⟨"AskedCourtModel", "way", "(IIII)I"⟩, prog_14_method_95_code, 5, (some .int), 12, 1, [1976, 1974, 1975, 144, 4, 8, 200, 0, 0]),
  (⟨"AskedCourt", "step", "(IIIII)I"⟩, prog_1_method_40_code, 6, (some .int), 11, 1, [1189, 1187, 1188, 127, 5, 7, 187, 0, 0]),
  (⟨"AskedCourtModel", "step", "(IIIII)I"⟩, prog_14_method_96_code, 7, (some .int), 12, 1, [2012, 2010, 2011, 144, 5, 8, 200, 0, 0]),
  (⟨"AskedCourt", "isNewsInRoom", "(II)Z"⟩, prog_1_method_37_code, 4, (some .boolean), 11, 1, [1151, 1150, 37, 127, 2, 1, 22, 0, 0]),
  (⟨"AskedCourt", "canBeMadeToSlip", "(II)Z"⟩, prog_1_method_38_code, 4, (some .boolean), 11, 1, [1155, 1154, 38, 127, 2, 5, 133, 0, 0]),
  (⟨"AskedCourt", "care", "(I)I"⟩, prog_1_method_36_code, 4, (some .int), 11, 1, [1147, 1145, 1146, 127, 1, 6, 156, 0, 0]),
  (⟨"AskedCourtModel", "isCare", "(II)Z"⟩, prog_14_method_97_code, 5, (some .boolean), 12, 1, [2020, 2019, 115, 144, 2, 6, 148, 0, 0]),
  (⟨"AskedCourtModel", "care", "(I)I"⟩, prog_14_method_98_code, 4, (some .int), 12, 1, [2016, 2014, 2015, 144, 1, 7, 172, 0, 0]),
  (⟨"AskedCourt$Search", "offer", "(III)V"⟩, prog_9_method_8_code, 4, none, 7, 1, [1202, 1201, 42, 131, 3, 0, 0, 0, 0]),
  (⟨"AskedCourt$Search", "offerSeconds", "(LAskedCourt$Rules;II)V"⟩, prog_9_method_7_code, 6, none, 7, 1, [1206, 1205, 43, 131, 3, 5, 133, 0, 0]),
  (⟨"AskedCourt$Search", "findDay", "(LAskedCourt$Rules;LAskedCourt$State;II)Z"⟩, prog_9_method_6_code, 7, (some .boolean), 7, 1, [1197, 1195, 1196, 131, 4, 6, 158, 0, 0]),
  (⟨"AskedCourt", "best", "(III)I"⟩, prog_1_method_42_code, 4, (some .int), 11, 1, [1193, 1191, 1192, 127, 3, 7, 184, 0, 0]),
  (⟨"AskedCourtModel", "best", "(III)I"⟩, prog_14_method_99_code, 10, (some .int), 12, 1, [2024, 2022, 2023, 144, 3, 7, 173, 0, 0]),
  (⟨"AskedCourt", "isDuel", "(II)Z"⟩, prog_1_method_45_code, 3, (some .boolean), 11, 1, [1214, 1213, 44, 127, 2, 2, 43, 0, 0]),
  (⟨"AskedCourt$Search", "askIfAllowed", "(LAskedCourt$Rules;III)V"⟩, prog_9_method_10_code, 5, none, 7, 1, [1222, 1221, 45, 131, 4, 5, 133, 0, 0]),
  (⟨"AskedCourt$Search", "isRest", "(III)Z"⟩, prog_9_method_11_code, 6, (some .boolean), 7, 1, [1227, 1226, 46, 131, 3, 0, 0, 0, 0]),
  (⟨"AskedCourt$Search", "findRests", "(LAskedCourt$Rules;LAskedCourt$State;II)V"⟩, prog_9_method_9_code, 9, none, 7, 1, [1218, 1216, 1217, 131, 4, 6, 157, 0, 0]),
  (⟨"AskedCourt", "rests", "(II)I"⟩, prog_1_method_43_code, 3, (some .int), 11, 1, [1210, 1208, 1209, 127, 2, 7, 185, 0, 0]),
  (⟨"AskedCourtModel", "areTwo", "(II)Z"⟩, prog_14_method_102_code, 3, (some .boolean), 12, 1, [2032, 2031, 116, 144, 2, 1, 21, 0, 0]),
  (⟨"AskedCourtModel", "gainOf", "(I)I"⟩, prog_14_method_100_code, 2, (some .int), 12, 1, [2040, 2039, 118, 144, 1, 1, 22, 0, 0]),
  (⟨"AskedCourtModel", "restAt", "(III)I"⟩, prog_14_method_101_code, 9, (some .int), 12, 1, [2036, 2035, 117, 144, 3, 6, 148, 0, 0]),
  (⟨"AskedCourtModel", "rests", "(II)I"⟩, prog_14_method_103_code, 3, (some .int), 12, 1, [2028, 2026, 2027, 144, 2, 7, 176, 0, 0]),
  (⟨"AskedCourt", "rest", "(III)I"⟩, prog_1_method_44_code, 4, (some .int), 11, 1, [1231, 1229, 1230, 127, 3, 7, 185, 0, 0]),
  (⟨"AskedCourtModel", "rest", "(III)I"⟩, prog_14_method_104_code, 4, (some .int), 12, 1, [2044, 2042, 2043, 144, 3, 7, 176, 0, 0]),
  (⟨"AskedCourt$Rules", "hold", "(LAskedCourt$State;II)V"⟩, prog_8_method_12_code, 8, none, 6, 1, [1239, 1237, 1238, 143, 3, 5, 133, 0, 0]),
  (⟨"AskedCourt", "slipped", "(I)I"⟩, prog_1_method_46_code, 2, (some .int), 11, 1, [1235, 1233, 1234, 127, 1, 6, 160, 0, 0]),
  (⟨"AskedCourtModel", "layTextTried", "()V"⟩, prog_14_method_105_code, 1, none, 12, 1, [2052, 2051, 119, 144, 0, 1, 22, 0, 0]),
  (⟨"AskedCourtModel", "talkOf", "(I)V"⟩, prog_14_method_106_code, 3, none, 12, 1, [2056, 2055, 120, 144, 1, 6, 148, 0, 0]),
  (⟨"AskedCourtModel", "slipped", "(I)I"⟩, prog_14_method_107_code, 3, (some .int), 12, 1, [2048, 2046, 2047, 144, 1, 7, 170, 0, 0]),
  (⟨"AskedCourt", "behind", "(II)I"⟩, prog_1_method_47_code, 3, (some .int), 11, 1, [1243, 1241, 1242, 127, 2, 6, 160, 0, 0])]
def mtab_6 : List MT := [
  (⟨"AskedCourtModel", "behind", "(II)I"⟩, prog_14_method_108_code, 4, (some .int), 12, 1, [2060, 2058, 2059, 144, 2, 7, 170, 0, 0]),
  (⟨"AskedCourt$Notes", "isFull", "()Z"⟩, prog_7_method_3_code, 1, (some .boolean), 5, 1, [1251, 1249, 1250, 130, 0, 0, 0, 0, 0]),
  (⟨"AskedCourt$Notes", "addNote", "(IIIZ)I"⟩, prog_7_method_5_code, 5, (some .int), 5, 1, [1255, 1253, 1254, 130, 4, 1, 20, 0, 0]),
  (⟨"AskedCourt", "note", "(IIIZ)I"⟩, prog_1_method_48_code, 5, (some .int), 11, 1, [1247, 1245, 1246, 127, 4, 2, 44, 0, 0]),
  (⟨"AskedCourtModel", "noted", "(IIII)I"⟩, prog_14_method_109_code, 5, (some .int), 12, 1, [2068, 2067, 121, 144, 4, 0, 0, 0, 0]),
  (⟨"AskedCourtModel", "note", "(IIIZ)I"⟩, prog_14_method_110_code, 5, (some .int), 12, 1, [2064, 2062, 2063, 144, 4, 1, 24, 0, 0]),
  (⟨"AskedCourt$Notes", "addStrike", "(I)I"⟩, prog_7_method_6_code, 2, (some .int), 5, 1, [1264, 1262, 1263, 130, 1, 1, 20, 0, 0]),
  (⟨"AskedCourt", "strike", "(I)I"⟩, prog_1_method_49_code, 2, (some .int), 11, 1, [1260, 1258, 1259, 127, 1, 2, 41, 0, 0]),
  (⟨"AskedCourtModel", "strike", "(I)I"⟩, prog_14_method_111_code, 2, (some .int), 12, 1, [2072, 2070, 2071, 144, 1, 1, 24, 0, 0]),
  (⟨"AskedCourt", "known", "(I)Z"⟩, prog_1_method_50_code, 2, (some .boolean), 11, 1, [1268, 1266, 1267, 127, 1, 0, 0, 0, 0]),
  (⟨"AskedCourtModel", "known", "(I)Z"⟩, prog_14_method_112_code, 2, (some .boolean), 12, 1, [2076, 2074, 2075, 144, 1, 1, 22, 0, 0]),
  (⟨"AskedCourt$Notes", "counted", "()I"⟩, prog_7_method_4_code, 1, (some .int), 5, 1, [990, 988, 989, 130, 0, 0, 0, 0, 0]),
  (⟨"AskedCourt$Notes", "strikeOut", "()V"⟩, prog_7_method_7_code, 2, none, 5, 1, [1276, 1274, 1275, 130, 0, 1, 20, 0, 0]),
  (⟨"AskedCourt$Notes", "agree", "(ILAskedCourt$State;)Z"⟩, prog_7_method_8_code, 4, (some .boolean), 5, 1, [1285, 1283, 1284, 130, 2, 1, 22, 0, 0]),
  (⟨"AskedCourt", "agreesWithNotes", "(LAskedCourt$State;)Z"⟩, prog_1_method_52_code, 3, (some .boolean), 11, 1, [1281, 1280, 47, 127, 1, 6, 160, 0, 0]),
  (⟨"AskedCourt", "knew", "(I)I"⟩, prog_1_method_51_code, 4, (some .int), 11, 1, [1272, 1270, 1271, 127, 1, 7, 182, 0, 0]),
  (⟨"AskedCourtModel", "knownBy", "()I"⟩, prog_14_method_113_code, 1, (some .int), 12, 1, [2084, 2083, 122, 144, 0, 0, 0, 0, 0]),
  (⟨"AskedCourtModel", "isSo", "(I)Z"⟩, prog_14_method_114_code, 3, (some .boolean), 12, 1, [2092, 2091, 124, 144, 1, 1, 21, 0, 0]),
  (⟨"AskedCourtModel", "fits", "(II)Z"⟩, prog_14_method_115_code, 5, (some .boolean), 12, 1, [2088, 2087, 123, 144, 2, 7, 170, 0, 0]),
  (⟨"AskedCourtModel", "knew", "(I)I"⟩, prog_14_method_116_code, 4, (some .int), 12, 1, [2080, 2078, 2079, 144, 1, 8, 194, 0, 0]),
  (⟨"AskedCourt", "chance", "(III)I"⟩, prog_1_method_53_code, 7, (some .int), 11, 1, [1290, 1288, 1289, 127, 3, 6, 160, 0, 0]),
  (⟨"AskedCourtModel", "chance", "(III)I"⟩, prog_14_method_117_code, 9, (some .int), 12, 1, [2096, 2094, 2095, 144, 3, 7, 170, 0, 0, 4]),
  (⟨"AskedCourt", "canBeTried", "(II)Z"⟩, prog_1_method_33_code, 3, (some .boolean), 11, 1, [1131, 1130, 35, 127, 2, 1, 21, 0, 0]),
  (⟨"AskedCourt$State", "gather", "()V"⟩, prog_10_method_9_code, 2, none, 8, 1, [1135, 1133, 1134, 128, 0, 0, 0, 0, 0]),
  (⟨"AskedCourt", "tried", "(II)I"⟩, prog_1_method_32_code, 4, (some .int), 11, 1, [1127, 1125, 1126, 127, 2, 6, 159, 0, 0]),
  (⟨"AskedCourtModel", "tried", "(II)I"⟩, prog_14_method_118_code, 4, (some .int), 12, 1, [2100, 2098, 2099, 144, 2, 7, 174, 0, 0]),
  (⟨"AskedCourt$History", "pop", "(LAskedCourt$State;)V"⟩, prog_3_method_4_code, 2, none, 1, 1, [1059, 1057, 1058, 129, 1, 1, 22, 0, 0]),
  (⟨"AskedCourt", "undo", "()I"⟩, prog_1_method_18_code, 1, (some .int), 11, 1, [1055, 1053, 1054, 127, 0, 2, 43, 0, 0]),
  (⟨"AskedCourtModel", "take", "([II)V"⟩, prog_14_method_120_code, 4, none, 12, 1, [2108, 2107, 125, 144, 2, 0, 0, 0, 0]),
  (⟨"AskedCourtModel", "undo", "()I"⟩, prog_14_method_122_code, 1, (some .int), 12, 1, [2104, 2102, 2103, 144, 0, 1, 23, 0, 0]),
  (⟨"AskedCourt", "keep", "()I"⟩, prog_1_method_19_code, 1, (some .int), 11, 1, [1063, 1061, 1062, 127, 0, 1, 22, 0, 0]),
  (⟨"AskedCourtModel", "keep", "()I"⟩, prog_14_method_123_code, 1, (some .int), 12, 1, [2112, 2110, 2111, 144, 0, 1, 23, 0, 0]),
  (⟨"AskedCourt", "back", "()I"⟩, prog_1_method_20_code, 1, (some .int), 11, 1, [1068, 1066, 1067, 127, 0, 1, 22, 0, 0]),
  (⟨"AskedCourtModel", "back", "()I"⟩, prog_14_method_124_code, 1, (some .int), 12, 1, [2116, 2114, 2115, 144, 0, 1, 23, 0, 0]),
  (⟨"AskedCourt$State", "lostInSum", "()I"⟩, prog_10_method_8_code, 3, (some .int), 8, 1, [986, 984, 985, 128, 0, 0, 0, 0, 0]),
  (⟨"AskedCourt", "count", "(I)I"⟩, prog_1_method_11_code, 2, (some .int), 11, 1, [977, 975, 976, 127, 1, 2, 42, 0, 0]),
  (⟨"AskedCourtModel", "count", "(I)I"⟩, prog_14_method_125_code, 4, (some .int), 12, 1, [2120, 2118, 2119, 144, 1, 1, 22, 0, 0]),
  (⟨"AskedCourtLaw", "law", "([I)Z"⟩, code, 7, (some .boolean), 13, 3, [0, 0, 0, 0, 1, 11, 454, 601024, 7293034])]
def mtab : List MT := mtab_0 ++ (mtab_1 ++ (mtab_2 ++ (mtab_3 ++ (mtab_4 ++ (mtab_5 ++ (mtab_6))))))
def mt (mi : Nat) : MT := mtab.getD mi mt0
def mY (mi : Nat) : MethodName := (mt mi).1
def mC (mi : Nat) : ByteArray := (mt mi).2.1
def mL (mi : Nat) : Nat := (mt mi).2.2.1
def mR (mi : Nat) : Option FieldType := (mt mi).2.2.2.1
def mO (mi : Nat) : Nat := (mt mi).2.2.2.2.1
def mF (mi : Nat) : Nat := (mt mi).2.2.2.2.2.1
def mP (mi : Nat) (j : Nat) : Nat := (mt mi).2.2.2.2.2.2.getD j 0
def mRoom (mi : Nat) : Room := { frames := mP mi 5, cells := mP mi 7, slots := mP mi 8, locals := mP mi 6 }
/-- what the tables say of a method -/
def mchk (q : MT) : Bool := match q with
  | (y, cc, nl, rt, ow, f, is) => (f == 3) || (decide (lw_tbl[is.getD 3 0]? = some (.initialized y.cls)) && (if f = 0 then decide (lw_tbl[is.getD 1 0]? = some (.static y)) else decide (lw_tbl[is.getD 1 0]? = some (.instanceMethod y))) && (if f = 1 then decide (lw_tbl[is.getD 2 0]? = some (.selects y.cls y y)) else true) && (decide (y.name = "<init>") == decide (f = 2)) && decide (y.cls = ownS ow) && decide (y.cls ≠ "java/lang/invoke/MethodHandle") && decide (y.cls ≠ "java/lang/invoke/VarHandle") && decide ((parseMethodDescriptor y.desc).map (fun d => d.parameters.length) = some (is.getD 4 0)) && plainName y.cls)
theorem mchk_0 : mtab_0.all mchk = true := by decide +kernel
theorem mchk_1 : mtab_1.all mchk = true := by decide +kernel
theorem mchk_2 : mtab_2.all mchk = true := by decide +kernel
theorem mchk_3 : mtab_3.all mchk = true := by decide +kernel
theorem mchk_4 : mtab_4.all mchk = true := by decide +kernel
theorem mchk_5 : mtab_5.all mchk = true := by decide +kernel
theorem mchk_6 : mtab_6.all mchk = true := by decide +kernel
theorem mchk_all : ∀ q ∈ mtab, mchk q = true := by
  intro q hq
  simp only [mtab, List.mem_append] at hq
  rcases hq with h | h | h | h | h | h | h
  · exact List.all_eq_true.mp mchk_0 q h
  · exact List.all_eq_true.mp mchk_1 q h
  · exact List.all_eq_true.mp mchk_2 q h
  · exact List.all_eq_true.mp mchk_3 q h
  · exact List.all_eq_true.mp mchk_4 q h
  · exact List.all_eq_true.mp mchk_5 q h
  · exact List.all_eq_true.mp mchk_6 q h
def mcodeP (q : MT) : Prop := q.2.2.2.2.2.1 = 3 ∨ lw_tbl[q.2.2.2.2.2.2.getD 0 0]? = some (.code q.1 q.2.1 q.2.2.1 q.2.2.2.1)
set_option maxRecDepth 100000 in
theorem tc_0 : lw_tbl[163]? = some (.code ⟨"AskedCourt$State", "<init>", "()V"⟩ prog_10_method_1_code 1 none) := rfl
set_option maxRecDepth 100000 in
theorem tc_1 : lw_tbl[210]? = some (.code ⟨"AskedCourt$History", "<init>", "()V"⟩ prog_3_method_1_code 2 none) := rfl
set_option maxRecDepth 100000 in
theorem tc_2 : lw_tbl[230]? = some (.code ⟨"AskedCourt$Notes", "<init>", "()V"⟩ prog_7_method_1_code 1 none) := rfl
set_option maxRecDepth 100000 in
theorem tc_3 : lw_tbl[264]? = some (.code ⟨"AskedCourt$Search", "<init>", "()V"⟩ prog_9_method_1_code 1 none) := rfl
set_option maxRecDepth 100000 in
theorem tc_4 : lw_tbl[320]? = some (.code ⟨"AskedCourt$Names", "<init>", "(I)V"⟩ prog_6_method_1_code 2 none) := rfl
set_option maxRecDepth 100000 in
theorem tc_5 : lw_tbl[344]? = some (.code ⟨"AskedCourt$Law", "<init>", "()V"⟩ prog_4_method_1_code 1 none) := rfl
set_option maxRecDepth 100000 in
theorem tc_6 : lw_tbl[314]? = some (.code ⟨"AskedCourt$Court", "<init>", "()V"⟩ prog_2_method_1_code 1 none) := rfl
set_option maxRecDepth 100000 in
theorem tc_7 : lw_tbl[486]? = some (.code ⟨"AskedCourt$Tokens", "<init>", "([I)V"⟩ prog_12_method_1_code 5 none) := rfl
set_option maxRecDepth 100000 in
theorem tc_8 : lw_tbl[569]? = some (.code ⟨"AskedCourt$LawReader", "<init>", "(LAskedCourt$Tokens;LAskedCourt$Court;)V"⟩ prog_5_method_1_code 3 none) := rfl
set_option maxRecDepth 100000 in
theorem tc_9 : lw_tbl[480]? = some (.code ⟨"AskedCourt$TextReader", "<init>", "([ILAskedCourt$Court;)V"⟩ prog_11_method_1_code 3 none) := rfl
set_option maxRecDepth 100000 in
theorem tc_10 : lw_tbl[620]? = some (.code ⟨"AskedCourt$Rules", "<init>", "(LAskedCourt$Court;)V"⟩ prog_8_method_1_code 2 none) := rfl
set_option maxRecDepth 100000 in
theorem tc_11 : lw_tbl[155]? = some (.code ⟨"AskedCourt", "<init>", "()V"⟩ prog_1_method_1_code 1 none) := rfl
set_option maxRecDepth 100000 in
theorem tc_12 : lw_tbl[1386]? = some (.code ⟨"AskedCourtModel", "plain", "()V"⟩ prog_14_method_17_code 2 none) := rfl
set_option maxRecDepth 100000 in
theorem tc_13 : lw_tbl[1393]? = some (.code ⟨"AskedCourtModel", "copies", "([II)V"⟩ prog_14_method_18_code 3 none) := rfl
set_option maxRecDepth 100000 in
theorem tc_14 : lw_tbl[1401]? = some (.code ⟨"AskedCourtModel", "atFirst", "(I)V"⟩ prog_14_method_49_code 3 none) := rfl
set_option maxRecDepth 100000 in
theorem tc_15 : lw_tbl[1405]? = some (.code ⟨"AskedCourtModel", "plainTried", "()V"⟩ prog_14_method_50_code 1 none) := rfl
set_option maxRecDepth 100000 in
theorem tc_16 : lw_tbl[1397]? = some (.code ⟨"AskedCourtModel", "begin", "()V"⟩ prog_14_method_48_code 1 none) := rfl
set_option maxRecDepth 100000 in
theorem tc_17 : lw_tbl[1390]? = some (.code ⟨"AskedCourtModel", "keepText", "()V"⟩ prog_14_method_19_code 2 none) := rfl
set_option maxRecDepth 100000 in
theorem tc_18 : lw_tbl[1381]? = some (.code ⟨"AskedCourtModel", "<init>", "()V"⟩ prog_14_method_1_code 1 none) := rfl
set_option maxRecDepth 100000 in
theorem tc_19 : lw_tbl[707]? = some (.code ⟨"AskedCourt", "putBytes", "(I)V"⟩ prog_1_method_3_code 3 none) := rfl
set_option maxRecDepth 100000 in
theorem tc_20 : lw_tbl[703]? = some (.code ⟨"AskedCourt", "feed", "(IIIII)I"⟩ prog_1_method_2_code 6 (some .int)) := rfl
set_option maxRecDepth 100000 in
theorem tc_21 : lw_tbl[1657]? = some (.code ⟨"AskedCourtModel", "feed", "(IIIII)I"⟩ prog_14_method_3_code 8 (some .int)) := rfl
set_option maxRecDepth 100000 in
theorem tc_22 : lw_tbl[723]? = some (.code ⟨"AskedCourt$Names", "clear", "()V"⟩ prog_6_method_2_code 1 none) := rfl
set_option maxRecDepth 100000 in
theorem tc_23 : lw_tbl[727]? = some (.code ⟨"AskedCourt$Law", "clear", "()V"⟩ prog_4_method_2_code 1 none) := rfl
set_option maxRecDepth 100000 in
theorem tc_24 : lw_tbl[719]? = some (.code ⟨"AskedCourt$Court", "clear", "()V"⟩ prog_2_method_2_code 1 none) := rfl
set_option maxRecDepth 100000 in
theorem tc_25 : lw_tbl[742]? = some (.code ⟨"AskedCourt$Tokens", "isLetter", "(I)Z"⟩ prog_12_method_5_code 1 (some .boolean)) := rfl
set_option maxRecDepth 100000 in
theorem tc_26 : lw_tbl[750]? = some (.code ⟨"AskedCourt$Tokens", "kindOfWord", "()I"⟩ prog_12_method_8_code 2 (some .int)) := rfl
set_option maxRecDepth 100000 in
theorem tc_27 : lw_tbl[746]? = some (.code ⟨"AskedCourt$Tokens", "readWord", "()V"⟩ prog_12_method_7_code 2 none) := rfl
set_option maxRecDepth 100000 in
theorem tc_28 : lw_tbl[753]? = some (.code ⟨"AskedCourt$Tokens", "isDigit", "(I)Z"⟩ prog_12_method_6_code 1 (some .boolean)) := rfl
set_option maxRecDepth 100000 in
theorem tc_29 : lw_tbl[757]? = some (.code ⟨"AskedCourt$Tokens", "readNumber", "()V"⟩ prog_12_method_9_code 1 none) := rfl
set_option maxRecDepth 100000 in
theorem tc_30 : lw_tbl[761]? = some (.code ⟨"AskedCourt$Tokens", "signOf", "(I)I"⟩ prog_12_method_10_code 1 (some .int)) := rfl
set_option maxRecDepth 100000 in
theorem tc_31 : lw_tbl[765]? = some (.code ⟨"AskedCourt$Tokens", "lengthenSign", "()V"⟩ prog_12_method_11_code 3 none) := rfl
set_option maxRecDepth 100000 in
theorem tc_32 : lw_tbl[739]? = some (.code ⟨"AskedCourt$Tokens", "move", "()V"⟩ prog_12_method_4_code 1 none) := rfl
set_option maxRecDepth 100000 in
theorem tc_33 : lw_tbl[731]? = some (.code ⟨"AskedCourt$Tokens", "start", "(I)V"⟩ prog_12_method_3_code 2 none) := rfl
set_option maxRecDepth 100000 in
theorem tc_34 : lw_tbl[777]? = some (.code ⟨"AskedCourt$Names", "isFull", "()Z"⟩ prog_6_method_3_code 1 (some .boolean)) := rfl
set_option maxRecDepth 100000 in
theorem tc_35 : lw_tbl[786]? = some (.code ⟨"AskedCourt$Names", "numberOf", "(I)I"⟩ prog_6_method_5_code 3 (some .int)) := rfl
set_option maxRecDepth 100000 in
theorem tc_36 : lw_tbl[790]? = some (.code ⟨"AskedCourt$Names", "add", "(I)V"⟩ prog_6_method_6_code 2 none) := rfl
set_option maxRecDepth 100000 in
theorem tc_37 : lw_tbl[782]? = some (.code ⟨"AskedCourt$TextReader", "takeNew", "(LAskedCourt$Names;)I"⟩ prog_11_method_13_code 2 (some .int)) := rfl
set_option maxRecDepth 100000 in
theorem tc_38 : lw_tbl[773]? = some (.code ⟨"AskedCourt$TextReader", "readFact", "()I"⟩ prog_11_method_5_code 1 (some .int)) := rfl
set_option maxRecDepth 100000 in
theorem tc_39 : lw_tbl[799]? = some (.code ⟨"AskedCourt$TextReader", "takeNumber", "(I)I"⟩ prog_11_method_17_code 2 (some .int)) := rfl
set_option maxRecDepth 100000 in
theorem tc_40 : lw_tbl[795]? = some (.code ⟨"AskedCourt$TextReader", "readPerson", "()I"⟩ prog_11_method_6_code 3 (some .int)) := rfl
set_option maxRecDepth 100000 in
theorem tc_41 : lw_tbl[811]? = some (.code ⟨"AskedCourt$TextReader", "findTold", "(LAskedCourt$Names;)I"⟩ prog_11_method_14_code 2 (some .int)) := rfl
set_option maxRecDepth 100000 in
theorem tc_42 : lw_tbl[807]? = some (.code ⟨"AskedCourt$TextReader", "takeTold", "(LAskedCourt$Names;)I"⟩ prog_11_method_15_code 3 (some .int)) := rfl
set_option maxRecDepth 100000 in
theorem tc_43 : lw_tbl[803]? = some (.code ⟨"AskedCourt$TextReader", "readKnows", "()I"⟩ prog_11_method_7_code 3 (some .int)) := rfl
set_option maxRecDepth 100000 in
theorem tc_44 : lw_tbl[819]? = some (.code ⟨"AskedCourt$TextReader", "takeSome", "([II)I"⟩ prog_11_method_16_code 4 (some .int)) := rfl
set_option maxRecDepth 100000 in
theorem tc_45 : lw_tbl[815]? = some (.code ⟨"AskedCourt$TextReader", "readAsk", "()I"⟩ prog_11_method_8_code 3 (some .int)) := rfl
set_option maxRecDepth 100000 in
theorem tc_46 : lw_tbl[823]? = some (.code ⟨"AskedCourt$TextReader", "readTalk", "()I"⟩ prog_11_method_9_code 4 (some .int)) := rfl
set_option maxRecDepth 100000 in
theorem tc_47 : lw_tbl[827]? = some (.code ⟨"AskedCourt$TextReader", "readNine", "()I"⟩ prog_11_method_10_code 2 (some .int)) := rfl
set_option maxRecDepth 100000 in
theorem tc_48 : lw_tbl[831]? = some (.code ⟨"AskedCourt$TextReader", "readSeed", "()I"⟩ prog_11_method_11_code 2 (some .int)) := rfl
set_option maxRecDepth 100000 in
theorem tc_49 : lw_tbl[848]? = some (.code ⟨"AskedCourt$LawReader", "pushWaiting", "(I)V"⟩ prog_5_method_7_code 2 none) := rfl
set_option maxRecDepth 100000 in
theorem tc_50 : lw_tbl[851]? = some (.code ⟨"AskedCourt$LawReader", "levelOf", "(I)I"⟩ prog_5_method_9_code 1 (some .int)) := rfl
set_option maxRecDepth 100000 in
theorem tc_51 : lw_tbl[855]? = some (.code ⟨"AskedCourt$LawReader", "countKnot", "()I"⟩ prog_5_method_8_code 1 (some .int)) := rfl
set_option maxRecDepth 100000 in
theorem tc_52 : lw_tbl[858]? = some (.code ⟨"AskedCourt$Tokens", "isLawName", "(I)Z"⟩ prog_12_method_2_code 1 (some .boolean)) := rfl
set_option maxRecDepth 100000 in
theorem tc_53 : lw_tbl[862]? = some (.code ⟨"AskedCourt$Law", "add", "(II)V"⟩ prog_4_method_3_code 3 none) := rfl
set_option maxRecDepth 100000 in
theorem tc_54 : lw_tbl[844]? = some (.code ⟨"AskedCourt$LawReader", "takeOperand", "()I"⟩ prog_5_method_3_code 2 (some .int)) := rfl
set_option maxRecDepth 100000 in
theorem tc_55 : lw_tbl[870]? = some (.code ⟨"AskedCourt$LawReader", "joinAbove", "(I)V"⟩ prog_5_method_6_code 2 none) := rfl
set_option maxRecDepth 100000 in
theorem tc_56 : lw_tbl[866]? = some (.code ⟨"AskedCourt$LawReader", "takeClose", "()I"⟩ prog_5_method_5_code 1 (some .int)) := rfl
set_option maxRecDepth 100000 in
theorem tc_57 : lw_tbl[874]? = some (.code ⟨"AskedCourt$LawReader", "takeOperator", "()I"⟩ prog_5_method_4_code 3 (some .int)) := rfl
set_option maxRecDepth 100000 in
theorem tc_58 : lw_tbl[840]? = some (.code ⟨"AskedCourt$LawReader", "readLaw", "(LAskedCourt$Law;LAskedCourt$Court;)I"⟩ prog_5_method_2_code 5 (some .int)) := rfl
set_option maxRecDepth 100000 in
theorem tc_59 : lw_tbl[836]? = some (.code ⟨"AskedCourt$TextReader", "readLaw", "()I"⟩ prog_11_method_12_code 2 (some .int)) := rfl
set_option maxRecDepth 100000 in
theorem tc_60 : lw_tbl[769]? = some (.code ⟨"AskedCourt$TextReader", "readLine", "()I"⟩ prog_11_method_4_code 1 (some .int)) := rfl
set_option maxRecDepth 100000 in
theorem tc_61 : lw_tbl[715]? = some (.code ⟨"AskedCourt$TextReader", "readText", "(LAskedCourt$Court;I)I"⟩ prog_11_method_3_code 4 (some .int)) := rfl
set_option maxRecDepth 100000 in
theorem tc_62 : lw_tbl[879]? = some (.code ⟨"AskedCourt$TextReader", "place", "()I"⟩ prog_11_method_2_code 1 (some .int)) := rfl
set_option maxRecDepth 100000 in
theorem tc_63 : lw_tbl[887]? = some (.code ⟨"AskedCourt$State", "beginDay", "(I)V"⟩ prog_10_method_3_code 3 none) := rfl
set_option maxRecDepth 100000 in
theorem tc_64 : lw_tbl[883]? = some (.code ⟨"AskedCourt$State", "begin", "(LAskedCourt$Court;)V"⟩ prog_10_method_2_code 3 none) := rfl
set_option maxRecDepth 100000 in
theorem tc_65 : lw_tbl[891]? = some (.code ⟨"AskedCourt$Notes", "clear", "()V"⟩ prog_7_method_2_code 1 none) := rfl
set_option maxRecDepth 100000 in
theorem tc_66 : lw_tbl[895]? = some (.code ⟨"AskedCourt$History", "clear", "()V"⟩ prog_3_method_2_code 1 none) := rfl
set_option maxRecDepth 100000 in
theorem tc_67 : lw_tbl[711]? = some (.code ⟨"AskedCourt", "text", "(I)I"⟩ prog_1_method_4_code 3 (some .int)) := rfl
set_option maxRecDepth 100000 in
theorem tc_68 : lw_tbl[1669]? = some (.code ⟨"AskedCourtModel", "isSmall", "(I)Z"⟩ prog_14_method_8_code 2 (some .boolean)) := rfl
set_option maxRecDepth 100000 in
theorem tc_69 : lw_tbl[1673]? = some (.code ⟨"AskedCourtModel", "wordAt", "(II)I"⟩ prog_14_method_7_code 8 (some .int)) := rfl
set_option maxRecDepth 100000 in
theorem tc_70 : lw_tbl[1677]? = some (.code ⟨"AskedCourtModel", "packed", "(II)I"⟩ prog_14_method_12_code 5 (some .int)) := rfl
set_option maxRecDepth 100000 in
theorem tc_71 : lw_tbl[1681]? = some (.code ⟨"AskedCourtModel", "isDigit", "(I)Z"⟩ prog_14_method_9_code 2 (some .boolean)) := rfl
set_option maxRecDepth 100000 in
theorem tc_72 : lw_tbl[1686]? = some (.code ⟨"AskedCourtModel", "signToken", "()V"⟩ prog_14_method_11_code 4 none) := rfl
set_option maxRecDepth 100000 in
theorem tc_73 : lw_tbl[1665]? = some (.code ⟨"AskedCourtModel", "token", "()V"⟩ prog_14_method_10_code 1 none) := rfl
set_option maxRecDepth 100000 in
theorem tc_74 : lw_tbl[1694]? = some (.code ⟨"AskedCourtModel", "wrong", "(I)Z"⟩ prog_14_method_6_code 2 (some .boolean)) := rfl
set_option maxRecDepth 100000 in
theorem tc_75 : lw_tbl[1705]? = some (.code ⟨"AskedCourtModel", "find", "([IIII)I"⟩ prog_14_method_20_code 5 (some .int)) := rfl
set_option maxRecDepth 100000 in
theorem tc_76 : lw_tbl[1702]? = some (.code ⟨"AskedCourtModel", "newName", "([III)Z"⟩ prog_14_method_21_code 4 (some .boolean)) := rfl
set_option maxRecDepth 100000 in
theorem tc_77 : lw_tbl[1698]? = some (.code ⟨"AskedCourtModel", "factLine", "()Z"⟩ prog_14_method_24_code 1 (some .boolean)) := rfl
set_option maxRecDepth 100000 in
theorem tc_78 : lw_tbl[1716]? = some (.code ⟨"AskedCourtModel", "isIn", "(III)Z"⟩ prog_14_method_4_code 3 (some .boolean)) := rfl
set_option maxRecDepth 100000 in
theorem tc_79 : lw_tbl[1713]? = some (.code ⟨"AskedCourtModel", "number", "(II)Z"⟩ prog_14_method_15_code 3 (some .boolean)) := rfl
set_option maxRecDepth 100000 in
theorem tc_80 : lw_tbl[1709]? = some (.code ⟨"AskedCourtModel", "personLine", "()Z"⟩ prog_14_method_25_code 2 (some .boolean)) := rfl
set_option maxRecDepth 100000 in
theorem tc_81 : lw_tbl[1724]? = some (.code ⟨"AskedCourtModel", "there", "([III)Z"⟩ prog_14_method_22_code 5 (some .boolean)) := rfl
set_option maxRecDepth 100000 in
theorem tc_82 : lw_tbl[1727]? = some (.code ⟨"AskedCourtModel", "isOf", "(II)Z"⟩ prog_14_method_5_code 2 (some .boolean)) := rfl
set_option maxRecDepth 100000 in
theorem tc_83 : lw_tbl[1720]? = some (.code ⟨"AskedCourtModel", "knowsLine", "()Z"⟩ prog_14_method_26_code 3 (some .boolean)) := rfl
set_option maxRecDepth 100000 in
theorem tc_84 : lw_tbl[1739]? = some (.code ⟨"AskedCourtModel", "isKey", "(I)Z"⟩ prog_14_method_13_code 2 (some .boolean)) := rfl
set_option maxRecDepth 100000 in
theorem tc_85 : lw_tbl[1735]? = some (.code ⟨"AskedCourtModel", "some", "()Z"⟩ prog_14_method_23_code 1 (some .boolean)) := rfl
set_option maxRecDepth 100000 in
theorem tc_86 : lw_tbl[1731]? = some (.code ⟨"AskedCourtModel", "askLine", "()Z"⟩ prog_14_method_27_code 2 (some .boolean)) := rfl
set_option maxRecDepth 100000 in
theorem tc_87 : lw_tbl[1743]? = some (.code ⟨"AskedCourtModel", "talkLine", "()Z"⟩ prog_14_method_28_code 3 (some .boolean)) := rfl
set_option maxRecDepth 100000 in
theorem tc_88 : lw_tbl[1747]? = some (.code ⟨"AskedCourtModel", "onceLine", "(II)Z"⟩ prog_14_method_29_code 3 (some .boolean)) := rfl
set_option maxRecDepth 100000 in
theorem tc_89 : lw_tbl[1755]? = some (.code ⟨"AskedCourtModel", "isSign", "(I)Z"⟩ prog_14_method_14_code 2 (some .boolean)) := rfl
set_option maxRecDepth 100000 in
theorem tc_90 : lw_tbl[1763]? = some (.code ⟨"AskedCourtModel", "waitsFor", "(I)V"⟩ prog_14_method_39_code 2 none) := rfl
set_option maxRecDepth 100000 in
theorem tc_91 : lw_tbl[1767]? = some (.code ⟨"AskedCourtModel", "isCounted", "()Z"⟩ prog_14_method_38_code 1 (some .boolean)) := rfl
set_option maxRecDepth 100000 in
theorem tc_92 : lw_tbl[1771]? = some (.code ⟨"AskedCourtModel", "nameMet", "()I"⟩ prog_14_method_40_code 1 (some .int)) := rfl
set_option maxRecDepth 100000 in
theorem tc_93 : lw_tbl[1775]? = some (.code ⟨"AskedCourtModel", "grown", "(III)V"⟩ prog_14_method_35_code 4 none) := rfl
set_option maxRecDepth 100000 in
theorem tc_94 : lw_tbl[1759]? = some (.code ⟨"AskedCourtModel", "leafRead", "()Z"⟩ prog_14_method_41_code 2 (some .boolean)) := rfl
set_option maxRecDepth 100000 in
theorem tc_95 : lw_tbl[1786]? = some (.code ⟨"AskedCourtModel", "rank", "(I)I"⟩ prog_14_method_34_code 1 (some .int)) := rfl
set_option maxRecDepth 100000 in
theorem tc_96 : lw_tbl[1790]? = some (.code ⟨"AskedCourtModel", "dropHeld", "()I"⟩ prog_14_method_36_code 1 (some .int)) := rfl
set_option maxRecDepth 100000 in
theorem tc_97 : lw_tbl[1783]? = some (.code ⟨"AskedCourtModel", "bind", "(I)V"⟩ prog_14_method_37_code 5 none) := rfl
set_option maxRecDepth 100000 in
theorem tc_98 : lw_tbl[1779]? = some (.code ⟨"AskedCourtModel", "signs", "()Z"⟩ prog_14_method_42_code 2 (some .boolean)) := rfl
set_option maxRecDepth 100000 in
theorem tc_99 : lw_tbl[1751]? = some (.code ⟨"AskedCourtModel", "sumRead", "()Z"⟩ prog_14_method_43_code 1 (some .boolean)) := rfl
set_option maxRecDepth 100000 in
theorem tc_100 : lw_tbl[1690]? = some (.code ⟨"AskedCourtModel", "lineRead", "()Z"⟩ prog_14_method_30_code 3 (some .boolean)) := rfl
set_option maxRecDepth 100000 in
theorem tc_101 : lw_tbl[1661]? = some (.code ⟨"AskedCourtModel", "text", "(I)I"⟩ prog_14_method_31_code 3 (some .int)) := rfl
set_option maxRecDepth 100000 in
theorem tc_102 : lw_tbl[899]? = some (.code ⟨"AskedCourt", "fault", "(I)I"⟩ prog_1_method_5_code 2 (some .int)) := rfl
set_option maxRecDepth 100000 in
theorem tc_103 : lw_tbl[1794]? = some (.code ⟨"AskedCourtModel", "fault", "(I)I"⟩ prog_14_method_32_code 2 (some .int)) := rfl
set_option maxRecDepth 100000 in
theorem tc_104 : lw_tbl[903]? = some (.code ⟨"AskedCourt", "named", "(II)I"⟩ prog_1_method_6_code 3 (some .int)) := rfl
set_option maxRecDepth 100000 in
theorem tc_105 : lw_tbl[1798]? = some (.code ⟨"AskedCourtModel", "named", "(II)I"⟩ prog_14_method_33_code 3 (some .int)) := rfl
set_option maxRecDepth 100000 in
theorem tc_106 : lw_tbl[912]? = some (.code ⟨"AskedCourt$Names", "has", "(I)Z"⟩ prog_6_method_4_code 2 (some .boolean)) := rfl
set_option maxRecDepth 100000 in
theorem tc_107 : lw_tbl[1299]? = some (.code ⟨"AskedCourt", "person", "(II)I"⟩ prog_1_method_7_code 3 (some .int)) := rfl
set_option maxRecDepth 100000 in
theorem tc_109 : lw_tbl[1806]? = some (.code ⟨"AskedCourtModel", "isPerson", "(I)Z"⟩ prog_14_method_52_code 2 (some .boolean)) := rfl
set_option maxRecDepth 100000 in
theorem tc_110 : lw_tbl[1810]? = some (.code ⟨"AskedCourtModel", "fails", "(I)I"⟩ prog_14_method_67_code 2 (some .int)) := rfl
set_option maxRecDepth 100000 in
theorem tc_111 : lw_tbl[1802]? = some (.code ⟨"AskedCourtModel", "person", "(II)I"⟩ prog_14_method_68_code 3 (some .int)) := rfl
set_option maxRecDepth 100000 in
theorem tc_112 : lw_tbl[1653]? = some (.code ⟨"AskedCourtModel", "thrown", "()I"⟩ prog_14_method_2_code 1 (some .int)) := rfl
set_option maxRecDepth 100000 in
theorem tc_113 : lw_tbl[908]? = some (.code ⟨"AskedCourt", "question", "(II)I"⟩ prog_1_method_8_code 3 (some .int)) := rfl
set_option maxRecDepth 100000 in
theorem tc_114 : lw_tbl[1818]? = some (.code ⟨"AskedCourtModel", "isQuestion", "(I)Z"⟩ prog_14_method_54_code 2 (some .boolean)) := rfl
set_option maxRecDepth 100000 in
theorem tc_115 : lw_tbl[1814]? = some (.code ⟨"AskedCourtModel", "question", "(II)I"⟩ prog_14_method_69_code 3 (some .int)) := rfl
set_option maxRecDepth 100000 in
theorem tc_116 : lw_tbl[920]? = some (.code ⟨"AskedCourt", "areTwo", "(II)Z"⟩ prog_1_method_12_code 3 (some .boolean)) := rfl
set_option maxRecDepth 100000 in
theorem tc_117 : lw_tbl[924]? = some (.code ⟨"AskedCourt$Rules", "begin", "(LAskedCourt$Court;)V"⟩ prog_8_method_2_code 2 none) := rfl
set_option maxRecDepth 100000 in
theorem tc_118 : lw_tbl[939]? = some (.code ⟨"AskedCourt$Court", "bitOf", "(I)I"⟩ prog_2_method_4_code 1 (some .int)) := rfl
set_option maxRecDepth 100000 in
theorem tc_119 : lw_tbl[936]? = some (.code ⟨"AskedCourt$Court", "supposed", "(I)I"⟩ prog_2_method_3_code 3 (some .int)) := rfl
set_option maxRecDepth 100000 in
theorem tc_120 : lw_tbl[932]? = some (.code ⟨"AskedCourt$Rules", "allows", "(LAskedCourt$State;III)Z"⟩ prog_8_method_4_code 5 (some .boolean)) := rfl
set_option maxRecDepth 100000 in
theorem tc_121 : lw_tbl[928]? = some (.code ⟨"AskedCourt$Rules", "allowsToday", "(LAskedCourt$State;III)Z"⟩ prog_8_method_3_code 5 (some .boolean)) := rfl
set_option maxRecDepth 100000 in
theorem tc_122 : lw_tbl[916]? = some (.code ⟨"AskedCourt", "can", "(III)I"⟩ prog_1_method_9_code 4 (some .int)) := rfl
set_option maxRecDepth 100000 in
theorem tc_123 : lw_tbl[1830]? = some (.code ⟨"AskedCourtModel", "supposed", "(I)I"⟩ prog_14_method_56_code 3 (some .int)) := rfl
set_option maxRecDepth 100000 in
theorem tc_124 : lw_tbl[1826]? = some (.code ⟨"AskedCourtModel", "canAsk", "(IIII)Z"⟩ prog_14_method_57_code 5 (some .boolean)) := rfl
set_option maxRecDepth 100000 in
theorem tc_125 : lw_tbl[1822]? = some (.code ⟨"AskedCourtModel", "can", "(III)I"⟩ prog_14_method_70_code 4 (some .int)) := rfl
set_option maxRecDepth 100000 in
theorem tc_126 : lw_tbl[953]? = some (.code ⟨"AskedCourt$Rules", "witOf", "(I)I"⟩ prog_8_method_9_code 2 (some .int)) := rfl
set_option maxRecDepth 100000 in
theorem tc_127 : lw_tbl[956]? = some (.code ⟨"java/lang/Integer", "bitCount", "(I)I"⟩ prog_20_method_49_code 1 (some .int)) := rfl
set_option maxRecDepth 100000 in
theorem tc_128 : lw_tbl[968]? = some (.code ⟨"AskedCourt$Law", "product", "(JJ)J"⟩ prog_4_method_6_code 6 (some .long)) := rfl
set_option maxRecDepth 100000 in
theorem tc_129 : lw_tbl[972]? = some (.code ⟨"AskedCourt$Law", "joined", "(IJJ)J"⟩ prog_4_method_5_code 5 (some .long)) := rfl
set_option maxRecDepth 100000 in
theorem tc_130 : lw_tbl[963]? = some (.code ⟨"AskedCourt$Law", "value", "([I[J)J"⟩ prog_4_method_4_code 12 (some .long)) := rfl
set_option maxRecDepth 100000 in
theorem tc_131 : lw_tbl[948]? = some (.code ⟨"AskedCourt$Rules", "worth", "(LAskedCourt$Law;LAskedCourt$State;II)J"⟩ prog_8_method_10_code 5 (some .long)) := rfl
set_option maxRecDepth 100000 in
theorem tc_132 : lw_tbl[943]? = some (.code ⟨"AskedCourt", "law", "(III)J"⟩ prog_1_method_10_code 4 (some .long)) := rfl
set_option maxRecDepth 100000 in
theorem tc_133 : lw_tbl[1843]? = some (.code ⟨"AskedCourtModel", "witOf", "(I)I"⟩ prog_14_method_58_code 2 (some .int)) := rfl
set_option maxRecDepth 100000 in
theorem tc_134 : lw_tbl[1846]? = some (.code ⟨"AskedCourtModel", "manyOf", "(I)I"⟩ prog_14_method_55_code 3 (some .int)) := rfl
set_option maxRecDepth 100000 in
theorem tc_135 : lw_tbl[1839]? = some (.code ⟨"AskedCourtModel", "layNames", "(III)V"⟩ prog_14_method_59_code 4 none) := rfl
set_option maxRecDepth 100000 in
theorem tc_136 : lw_tbl[1858]? = some (.code ⟨"AskedCourtModel", "bounded", "(J)J"⟩ prog_14_method_44_code 3 (some .long)) := rfl
set_option maxRecDepth 100000 in
theorem tc_137 : lw_tbl[1864]? = some (.code ⟨"AskedCourtModel", "times", "(JJ)J"⟩ prog_14_method_46_code 6 (some .long)) := rfl
set_option maxRecDepth 100000 in
theorem tc_138 : lw_tbl[1867]? = some (.code ⟨"AskedCourtModel", "compares", "(IJJ)Z"⟩ prog_14_method_45_code 5 (some .boolean)) := rfl
set_option maxRecDepth 100000 in
theorem tc_139 : lw_tbl[1854]? = some (.code ⟨"AskedCourtModel", "valueOf", "(I)J"⟩ prog_14_method_47_code 6 (some .long)) := rfl
set_option maxRecDepth 100000 in
theorem tc_140 : lw_tbl[1850]? = some (.code ⟨"AskedCourtModel", "lawOf", "(I)J"⟩ prog_14_method_60_code 3 (some .long)) := rfl
set_option maxRecDepth 100000 in
theorem tc_141 : lw_tbl[1834]? = some (.code ⟨"AskedCourtModel", "law", "(III)J"⟩ prog_14_method_71_code 6 (some .long)) := rfl
set_option maxRecDepth 100000 in
theorem tc_142 : lw_tbl[1002]? = some (.code ⟨"AskedCourt$State", "take", "(LAskedCourt$State;)V"⟩ prog_10_method_4_code 3 none) := rfl
set_option maxRecDepth 100000 in
theorem tc_143 : lw_tbl[998]? = some (.code ⟨"AskedCourt$History", "push", "(LAskedCourt$State;)V"⟩ prog_3_method_3_code 2 none) := rfl
set_option maxRecDepth 100000 in
theorem tc_144 : lw_tbl[1010]? = some (.code ⟨"AskedCourt$Rules", "isIn", "(LAskedCourt$State;II)Z"⟩ prog_8_method_6_code 4 (some .boolean)) := rfl
set_option maxRecDepth 100000 in
theorem tc_145 : lw_tbl[1014]? = some (.code ⟨"AskedCourt$Rules", "hears", "(LAskedCourt$State;II)Z"⟩ prog_8_method_7_code 6 (some .boolean)) := rfl
set_option maxRecDepth 100000 in
theorem tc_146 : lw_tbl[1019]? = some (.code ⟨"AskedCourt$State", "isKnown", "(II)Z"⟩ prog_10_method_5_code 3 (some .boolean)) := rfl
set_option maxRecDepth 100000 in
theorem tc_147 : lw_tbl[1030]? = some (.code ⟨"AskedCourt$State", "drawNumber", "()I"⟩ prog_10_method_10_code 1 (some .int)) := rfl
set_option maxRecDepth 100000 in
theorem tc_148 : lw_tbl[1023]? = some (.code ⟨"AskedCourt$Rules", "slips", "(LAskedCourt$State;II)Z"⟩ prog_8_method_8_code 6 (some .boolean)) := rfl
set_option maxRecDepth 100000 in
theorem tc_149 : lw_tbl[1006]? = some (.code ⟨"AskedCourt$Rules", "pose", "(LAskedCourt$State;III)Z"⟩ prog_8_method_5_code 9 (some .boolean)) := rfl
set_option maxRecDepth 100000 in
theorem tc_150 : lw_tbl[994]? = some (.code ⟨"AskedCourt", "ask", "(III)I"⟩ prog_1_method_14_code 4 (some .int)) := rfl
set_option maxRecDepth 100000 in
theorem tc_151 : lw_tbl[1879]? = some (.code ⟨"AskedCourtModel", "put", "([II)V"⟩ prog_14_method_119_code 4 none) := rfl
set_option maxRecDepth 100000 in
theorem tc_152 : lw_tbl[1875]? = some (.code ⟨"AskedCourtModel", "remember", "()V"⟩ prog_14_method_121_code 2 none) := rfl
set_option maxRecDepth 100000 in
theorem tc_153 : lw_tbl[1887]? = some (.code ⟨"AskedCourtModel", "hears", "(III)Z"⟩ prog_14_method_61_code 7 (some .boolean)) := rfl
set_option maxRecDepth 100000 in
theorem tc_154 : lw_tbl[1895]? = some (.code ⟨"AskedCourtModel", "slipOf", "(III)I"⟩ prog_14_method_62_code 7 (some .int)) := rfl
set_option maxRecDepth 100000 in
theorem tc_155 : lw_tbl[1900]? = some (.code ⟨"AskedCourtModel", "number1", "(I)I"⟩ prog_14_method_63_code 2 (some .int)) := rfl
set_option maxRecDepth 100000 in
theorem tc_156 : lw_tbl[1891]? = some (.code ⟨"AskedCourtModel", "isSlip", "(III)Z"⟩ prog_14_method_64_code 6 (some .boolean)) := rfl
set_option maxRecDepth 100000 in
theorem tc_157 : lw_tbl[1883]? = some (.code ⟨"AskedCourtModel", "asks", "(IIII)Z"⟩ prog_14_method_65_code 6 (some .boolean)) := rfl
set_option maxRecDepth 100000 in
theorem tc_158 : lw_tbl[1871]? = some (.code ⟨"AskedCourtModel", "ask", "(III)I"⟩ prog_14_method_72_code 5 (some .int)) := rfl
set_option maxRecDepth 100000 in
theorem tc_159 : lw_tbl[1041]? = some (.code ⟨"AskedCourt", "areTold", "(II)Z"⟩ prog_1_method_13_code 3 (some .boolean)) := rfl
set_option maxRecDepth 100000 in
theorem tc_160 : lw_tbl[1037]? = some (.code ⟨"AskedCourt", "tell", "(II)Z"⟩ prog_1_method_15_code 3 (some .boolean)) := rfl
set_option maxRecDepth 100000 in
theorem tc_161 : lw_tbl[1912]? = some (.code ⟨"AskedCourtModel", "isFact", "(I)Z"⟩ prog_14_method_53_code 2 (some .boolean)) := rfl
set_option maxRecDepth 100000 in
theorem tc_162 : lw_tbl[1908]? = some (.code ⟨"AskedCourtModel", "tell", "(II)Z"⟩ prog_14_method_73_code 3 (some .boolean)) := rfl
set_option maxRecDepth 100000 in
theorem tc_163 : lw_tbl[1046]? = some (.code ⟨"AskedCourt", "send", "(II)Z"⟩ prog_1_method_16_code 3 (some .boolean)) := rfl
set_option maxRecDepth 100000 in
theorem tc_164 : lw_tbl[1916]? = some (.code ⟨"AskedCourtModel", "send", "(II)Z"⟩ prog_14_method_74_code 3 (some .boolean)) := rfl
set_option maxRecDepth 100000 in
theorem tc_165 : lw_tbl[1050]? = some (.code ⟨"AskedCourt", "end", "()I"⟩ prog_1_method_17_code 1 (some .int)) := rfl
set_option maxRecDepth 100000 in
theorem tc_166 : lw_tbl[1920]? = some (.code ⟨"AskedCourtModel", "end", "()I"⟩ prog_14_method_75_code 2 (some .int)) := rfl
set_option maxRecDepth 100000 in
theorem tc_167 : lw_tbl[1076]? = some (.code ⟨"AskedCourt", "freshTrial", "()LAskedCourt$State;"⟩ prog_1_method_21_code 1 (some (.object "AskedCourt$State"))) := rfl
set_option maxRecDepth 100000 in
theorem tc_168 : lw_tbl[981]? = some (.code ⟨"AskedCourt$State", "knownInSum", "()I"⟩ prog_10_method_7_code 3 (some .int)) := rfl
set_option maxRecDepth 100000 in
theorem tc_169 : lw_tbl[1080]? = some (.code ⟨"AskedCourt$Rules", "settle", "(LAskedCourt$State;)V"⟩ prog_8_method_11_code 7 none) := rfl
set_option maxRecDepth 100000 in
theorem tc_170 : lw_tbl[1072]? = some (.code ⟨"AskedCourt", "all", "(I)I"⟩ prog_1_method_22_code 3 (some .int)) := rfl
set_option maxRecDepth 100000 in
theorem tc_171 : lw_tbl[1928]? = some (.code ⟨"AskedCourtModel", "layTried", "()V"⟩ prog_14_method_51_code 2 none) := rfl
set_option maxRecDepth 100000 in
theorem tc_172 : lw_tbl[1936]? = some (.code ⟨"AskedCourtModel", "sumIn", "(I)I"⟩ prog_14_method_66_code 4 (some .int)) := rfl
set_option maxRecDepth 100000 in
theorem tc_173 : lw_tbl[1932]? = some (.code ⟨"AskedCourtModel", "askAll", "()V"⟩ prog_14_method_76_code 7 none) := rfl
set_option maxRecDepth 100000 in
theorem tc_174 : lw_tbl[1924]? = some (.code ⟨"AskedCourtModel", "all", "(I)I"⟩ prog_14_method_77_code 2 (some .int)) := rfl
set_option maxRecDepth 100000 in
theorem tc_175 : lw_tbl[1086]? = some (.code ⟨"AskedCourt", "never", "(II)I"⟩ prog_1_method_23_code 4 (some .int)) := rfl
set_option maxRecDepth 100000 in
theorem tc_176 : lw_tbl[1944]? = some (.code ⟨"AskedCourtModel", "learns", "(III)Z"⟩ prog_14_method_78_code 5 (some .boolean)) := rfl
set_option maxRecDepth 100000 in
theorem tc_177 : lw_tbl[1940]? = some (.code ⟨"AskedCourtModel", "never", "(II)I"⟩ prog_14_method_79_code 3 (some .int)) := rfl
set_option maxRecDepth 100000 in
theorem tc_178 : lw_tbl[1095]? = some (.code ⟨"AskedCourt", "neverWithout", "(III)Z"⟩ prog_1_method_25_code 5 (some .boolean)) := rfl
set_option maxRecDepth 100000 in
theorem tc_179 : lw_tbl[1090]? = some (.code ⟨"AskedCourt", "away", "(II)I"⟩ prog_1_method_24_code 6 (some .int)) := rfl
set_option maxRecDepth 100000 in
theorem tc_180 : lw_tbl[1948]? = some (.code ⟨"AskedCourtModel", "away", "(II)I"⟩ prog_14_method_80_code 5 (some .int)) := rfl
set_option maxRecDepth 100000 in
theorem tc_181 : lw_tbl[1103]? = some (.code ⟨"AskedCourt$State", "knowers", "(I)I"⟩ prog_10_method_6_code 4 (some .int)) := rfl
set_option maxRecDepth 100000 in
theorem tc_182 : lw_tbl[1099]? = some (.code ⟨"AskedCourt", "spread", "(I)I"⟩ prog_1_method_26_code 3 (some .int)) := rfl
set_option maxRecDepth 100000 in
theorem tc_183 : lw_tbl[1952]? = some (.code ⟨"AskedCourtModel", "spread", "(I)I"⟩ prog_14_method_81_code 4 (some .int)) := rfl
set_option maxRecDepth 100000 in
theorem tc_184 : lw_tbl[1111]? = some (.code ⟨"AskedCourt", "helps", "(IIII)Z"⟩ prog_1_method_28_code 6 (some .boolean)) := rfl
set_option maxRecDepth 100000 in
theorem tc_185 : lw_tbl[1107]? = some (.code ⟨"AskedCourt", "hint", "(III)I"⟩ prog_1_method_27_code 7 (some .int)) := rfl
set_option maxRecDepth 100000 in
theorem tc_186 : lw_tbl[1956]? = some (.code ⟨"AskedCourtModel", "hint", "(III)I"⟩ prog_14_method_82_code 7 (some .int)) := rfl
set_option maxRecDepth 100000 in
theorem tc_187 : lw_tbl[1143]? = some (.code ⟨"AskedCourt", "canAskAnybody", "(II)Z"⟩ prog_1_method_35_code 4 (some .boolean)) := rfl
set_option maxRecDepth 100000 in
theorem tc_188 : lw_tbl[1139]? = some (.code ⟨"AskedCourt", "unasked", "(I)I"⟩ prog_1_method_34_code 4 (some .int)) := rfl
set_option maxRecDepth 100000 in
theorem tc_189 : lw_tbl[1960]? = some (.code ⟨"AskedCourtModel", "unasked", "(I)I"⟩ prog_14_method_83_code 5 (some .int)) := rfl
set_option maxRecDepth 100000 in
theorem tc_190 : lw_tbl[1119]? = some (.code ⟨"AskedCourt", "sumInRoom", "(II)I"⟩ prog_1_method_30_code 4 (some .int)) := rfl
set_option maxRecDepth 100000 in
theorem tc_191 : lw_tbl[1115]? = some (.code ⟨"AskedCourt", "inRoom", "(II)I"⟩ prog_1_method_29_code 3 (some .int)) := rfl
set_option maxRecDepth 100000 in
theorem tc_192 : lw_tbl[1968]? = some (.code ⟨"AskedCourtModel", "sumInRoom", "(II)I"⟩ prog_14_method_84_code 3 (some .int)) := rfl
set_option maxRecDepth 100000 in
theorem tc_193 : lw_tbl[1964]? = some (.code ⟨"AskedCourtModel", "inRoom", "(II)I"⟩ prog_14_method_85_code 3 (some .int)) := rfl
set_option maxRecDepth 100000 in
theorem tc_194 : lw_tbl[1123]? = some (.code ⟨"AskedCourt", "bestRoom", "(I)I"⟩ prog_1_method_31_code 6 (some .int)) := rfl
set_option maxRecDepth 100000 in
theorem tc_195 : lw_tbl[1972]? = some (.code ⟨"AskedCourtModel", "bestRoom", "(I)I"⟩ prog_14_method_86_code 4 (some .int)) := rfl
set_option maxRecDepth 100000 in
theorem tc_196 : lw_tbl[1163]? = some (.code ⟨"AskedCourt", "isWay", "(IIII)Z"⟩ prog_1_method_41_code 5 (some .boolean)) := rfl
set_option maxRecDepth 100000 in
theorem tc_197 : lw_tbl[1167]? = some (.code ⟨"AskedCourt$Search", "aim", "(III)V"⟩ prog_9_method_2_code 4 none) := rfl
set_option maxRecDepth 100000 in
theorem tc_198 : lw_tbl[1181]? = some (.code ⟨"AskedCourt$Search", "canTell", "(LAskedCourt$Court;I)Z"⟩ prog_9_method_5_code 3 (some .boolean)) := rfl
set_option maxRecDepth 100000 in
theorem tc_199 : lw_tbl[1177]? = some (.code ⟨"AskedCourt$Search", "findLast", "(LAskedCourt$Rules;LAskedCourt$State;I)Z"⟩ prog_9_method_4_code 8 (some .boolean)) := rfl
set_option maxRecDepth 100000 in
theorem tc_200 : lw_tbl[1171]? = some (.code ⟨"AskedCourt$Search", "findWay", "(LAskedCourt$Rules;LAskedCourt$State;I)Z"⟩ prog_9_method_3_code 8 (some .boolean)) := rfl
set_option maxRecDepth 100000 in
theorem tc_201 : lw_tbl[1159]? = some (.code ⟨"AskedCourt", "way", "(IIII)I"⟩ prog_1_method_39_code 5 (some .int)) := rfl
set_option maxRecDepth 100000 in
theorem tc_202 : lw_tbl[1980]? = some (.code ⟨"AskedCourtModel", "isAsked", "(IIII)Z"⟩ prog_14_method_94_code 5 (some .boolean)) := rfl
set_option maxRecDepth 100000 in
theorem tc_203 : lw_tbl[1988]? = some (.code ⟨"AskedCourtModel", "steps", "()I"⟩ prog_14_method_87_code 1 (some .int)) := rfl
set_option maxRecDepth 100000 in
theorem tc_204 : lw_tbl[1996]? = some (.code ⟨"AskedCourtModel", "whoOf", "(I)I"⟩ prog_14_method_88_code 2 (some .int)) := rfl
set_option maxRecDepth 100000 in
theorem tc_205 : lw_tbl[2000]? = some (.code ⟨"AskedCourtModel", "whomOf", "(I)I"⟩ prog_14_method_89_code 2 (some .int)) := rfl
set_option maxRecDepth 100000 in
theorem tc_206 : lw_tbl[2004]? = some (.code ⟨"AskedCourtModel", "whatOf", "(I)I"⟩ prog_14_method_90_code 2 (some .int)) := rfl
set_option maxRecDepth 100000 in
theorem tc_207 : lw_tbl[1992]? = some (.code ⟨"AskedCourtModel", "does", "(I)Z"⟩ prog_14_method_91_code 6 (some .boolean)) := rfl
set_option maxRecDepth 100000 in
theorem tc_208 : lw_tbl[2008]? = some (.code ⟨"AskedCourtModel", "isWay", "(III)Z"⟩ prog_14_method_92_code 5 (some .boolean)) := rfl
set_option maxRecDepth 100000 in
theorem tc_209 : lw_tbl[1984]? = some (.code ⟨"AskedCourtModel", "wayOf", "(IIII)I"⟩ prog_14_method_93_code 8 (some .int)) := rfl
set_option maxRecDepth 100000 in
theorem tc_210 : lw_tbl[1976]? = some (.code ⟨"AskedCourtModel", "way", "(IIII)I"⟩ prog_14_method_95_code 5 (some .int)) := rfl
set_option maxRecDepth 100000 in
theorem tc_211 : lw_tbl[1189]? = some (.code ⟨"AskedCourt", "step", "(IIIII)I"⟩ prog_1_method_40_code 6 (some .int)) := rfl
set_option maxRecDepth 100000 in
theorem tc_212 : lw_tbl[2012]? = some (.code ⟨"AskedCourtModel", "step", "(IIIII)I"⟩ prog_14_method_96_code 7 (some .int)) := rfl
set_option maxRecDepth 100000 in
theorem tc_213 : lw_tbl[1151]? = some (.code ⟨"AskedCourt", "isNewsInRoom", "(II)Z"⟩ prog_1_method_37_code 4 (some .boolean)) := rfl
set_option maxRecDepth 100000 in
theorem tc_214 : lw_tbl[1155]? = some (.code ⟨"AskedCourt", "canBeMadeToSlip", "(II)Z"⟩ prog_1_method_38_code 4 (some .boolean)) := rfl
set_option maxRecDepth 100000 in
theorem tc_215 : lw_tbl[1147]? = some (.code ⟨"AskedCourt", "care", "(I)I"⟩ prog_1_method_36_code 4 (some .int)) := rfl
set_option maxRecDepth 100000 in
theorem tc_216 : lw_tbl[2020]? = some (.code ⟨"AskedCourtModel", "isCare", "(II)Z"⟩ prog_14_method_97_code 5 (some .boolean)) := rfl
set_option maxRecDepth 100000 in
theorem tc_217 : lw_tbl[2016]? = some (.code ⟨"AskedCourtModel", "care", "(I)I"⟩ prog_14_method_98_code 4 (some .int)) := rfl
set_option maxRecDepth 100000 in
theorem tc_218 : lw_tbl[1202]? = some (.code ⟨"AskedCourt$Search", "offer", "(III)V"⟩ prog_9_method_8_code 4 none) := rfl
set_option maxRecDepth 100000 in
theorem tc_219 : lw_tbl[1206]? = some (.code ⟨"AskedCourt$Search", "offerSeconds", "(LAskedCourt$Rules;II)V"⟩ prog_9_method_7_code 6 none) := rfl
set_option maxRecDepth 100000 in
theorem tc_220 : lw_tbl[1197]? = some (.code ⟨"AskedCourt$Search", "findDay", "(LAskedCourt$Rules;LAskedCourt$State;II)Z"⟩ prog_9_method_6_code 7 (some .boolean)) := rfl
set_option maxRecDepth 100000 in
theorem tc_221 : lw_tbl[1193]? = some (.code ⟨"AskedCourt", "best", "(III)I"⟩ prog_1_method_42_code 4 (some .int)) := rfl
set_option maxRecDepth 100000 in
theorem tc_222 : lw_tbl[2024]? = some (.code ⟨"AskedCourtModel", "best", "(III)I"⟩ prog_14_method_99_code 10 (some .int)) := rfl
set_option maxRecDepth 100000 in
theorem tc_223 : lw_tbl[1214]? = some (.code ⟨"AskedCourt", "isDuel", "(II)Z"⟩ prog_1_method_45_code 3 (some .boolean)) := rfl
set_option maxRecDepth 100000 in
theorem tc_224 : lw_tbl[1222]? = some (.code ⟨"AskedCourt$Search", "askIfAllowed", "(LAskedCourt$Rules;III)V"⟩ prog_9_method_10_code 5 none) := rfl
set_option maxRecDepth 100000 in
theorem tc_225 : lw_tbl[1227]? = some (.code ⟨"AskedCourt$Search", "isRest", "(III)Z"⟩ prog_9_method_11_code 6 (some .boolean)) := rfl
set_option maxRecDepth 100000 in
theorem tc_226 : lw_tbl[1218]? = some (.code ⟨"AskedCourt$Search", "findRests", "(LAskedCourt$Rules;LAskedCourt$State;II)V"⟩ prog_9_method_9_code 9 none) := rfl
set_option maxRecDepth 100000 in
theorem tc_227 : lw_tbl[1210]? = some (.code ⟨"AskedCourt", "rests", "(II)I"⟩ prog_1_method_43_code 3 (some .int)) := rfl
set_option maxRecDepth 100000 in
theorem tc_228 : lw_tbl[2032]? = some (.code ⟨"AskedCourtModel", "areTwo", "(II)Z"⟩ prog_14_method_102_code 3 (some .boolean)) := rfl
set_option maxRecDepth 100000 in
theorem tc_229 : lw_tbl[2040]? = some (.code ⟨"AskedCourtModel", "gainOf", "(I)I"⟩ prog_14_method_100_code 2 (some .int)) := rfl
set_option maxRecDepth 100000 in
theorem tc_230 : lw_tbl[2036]? = some (.code ⟨"AskedCourtModel", "restAt", "(III)I"⟩ prog_14_method_101_code 9 (some .int)) := rfl
set_option maxRecDepth 100000 in
theorem tc_231 : lw_tbl[2028]? = some (.code ⟨"AskedCourtModel", "rests", "(II)I"⟩ prog_14_method_103_code 3 (some .int)) := rfl
set_option maxRecDepth 100000 in
theorem tc_232 : lw_tbl[1231]? = some (.code ⟨"AskedCourt", "rest", "(III)I"⟩ prog_1_method_44_code 4 (some .int)) := rfl
set_option maxRecDepth 100000 in
theorem tc_233 : lw_tbl[2044]? = some (.code ⟨"AskedCourtModel", "rest", "(III)I"⟩ prog_14_method_104_code 4 (some .int)) := rfl
set_option maxRecDepth 100000 in
theorem tc_234 : lw_tbl[1239]? = some (.code ⟨"AskedCourt$Rules", "hold", "(LAskedCourt$State;II)V"⟩ prog_8_method_12_code 8 none) := rfl
set_option maxRecDepth 100000 in
theorem tc_235 : lw_tbl[1235]? = some (.code ⟨"AskedCourt", "slipped", "(I)I"⟩ prog_1_method_46_code 2 (some .int)) := rfl
set_option maxRecDepth 100000 in
theorem tc_236 : lw_tbl[2052]? = some (.code ⟨"AskedCourtModel", "layTextTried", "()V"⟩ prog_14_method_105_code 1 none) := rfl
set_option maxRecDepth 100000 in
theorem tc_237 : lw_tbl[2056]? = some (.code ⟨"AskedCourtModel", "talkOf", "(I)V"⟩ prog_14_method_106_code 3 none) := rfl
set_option maxRecDepth 100000 in
theorem tc_238 : lw_tbl[2048]? = some (.code ⟨"AskedCourtModel", "slipped", "(I)I"⟩ prog_14_method_107_code 3 (some .int)) := rfl
set_option maxRecDepth 100000 in
theorem tc_239 : lw_tbl[1243]? = some (.code ⟨"AskedCourt", "behind", "(II)I"⟩ prog_1_method_47_code 3 (some .int)) := rfl
set_option maxRecDepth 100000 in
theorem tc_240 : lw_tbl[2060]? = some (.code ⟨"AskedCourtModel", "behind", "(II)I"⟩ prog_14_method_108_code 4 (some .int)) := rfl
set_option maxRecDepth 100000 in
theorem tc_241 : lw_tbl[1251]? = some (.code ⟨"AskedCourt$Notes", "isFull", "()Z"⟩ prog_7_method_3_code 1 (some .boolean)) := rfl
set_option maxRecDepth 100000 in
theorem tc_242 : lw_tbl[1255]? = some (.code ⟨"AskedCourt$Notes", "addNote", "(IIIZ)I"⟩ prog_7_method_5_code 5 (some .int)) := rfl
set_option maxRecDepth 100000 in
theorem tc_243 : lw_tbl[1247]? = some (.code ⟨"AskedCourt", "note", "(IIIZ)I"⟩ prog_1_method_48_code 5 (some .int)) := rfl
set_option maxRecDepth 100000 in
theorem tc_244 : lw_tbl[2068]? = some (.code ⟨"AskedCourtModel", "noted", "(IIII)I"⟩ prog_14_method_109_code 5 (some .int)) := rfl
set_option maxRecDepth 100000 in
theorem tc_245 : lw_tbl[2064]? = some (.code ⟨"AskedCourtModel", "note", "(IIIZ)I"⟩ prog_14_method_110_code 5 (some .int)) := rfl
set_option maxRecDepth 100000 in
theorem tc_246 : lw_tbl[1264]? = some (.code ⟨"AskedCourt$Notes", "addStrike", "(I)I"⟩ prog_7_method_6_code 2 (some .int)) := rfl
set_option maxRecDepth 100000 in
theorem tc_247 : lw_tbl[1260]? = some (.code ⟨"AskedCourt", "strike", "(I)I"⟩ prog_1_method_49_code 2 (some .int)) := rfl
set_option maxRecDepth 100000 in
theorem tc_248 : lw_tbl[2072]? = some (.code ⟨"AskedCourtModel", "strike", "(I)I"⟩ prog_14_method_111_code 2 (some .int)) := rfl
set_option maxRecDepth 100000 in
theorem tc_249 : lw_tbl[1268]? = some (.code ⟨"AskedCourt", "known", "(I)Z"⟩ prog_1_method_50_code 2 (some .boolean)) := rfl
set_option maxRecDepth 100000 in
theorem tc_250 : lw_tbl[2076]? = some (.code ⟨"AskedCourtModel", "known", "(I)Z"⟩ prog_14_method_112_code 2 (some .boolean)) := rfl
set_option maxRecDepth 100000 in
theorem tc_251 : lw_tbl[990]? = some (.code ⟨"AskedCourt$Notes", "counted", "()I"⟩ prog_7_method_4_code 1 (some .int)) := rfl
set_option maxRecDepth 100000 in
theorem tc_252 : lw_tbl[1276]? = some (.code ⟨"AskedCourt$Notes", "strikeOut", "()V"⟩ prog_7_method_7_code 2 none) := rfl
set_option maxRecDepth 100000 in
theorem tc_253 : lw_tbl[1285]? = some (.code ⟨"AskedCourt$Notes", "agree", "(ILAskedCourt$State;)Z"⟩ prog_7_method_8_code 4 (some .boolean)) := rfl
set_option maxRecDepth 100000 in
theorem tc_254 : lw_tbl[1281]? = some (.code ⟨"AskedCourt", "agreesWithNotes", "(LAskedCourt$State;)Z"⟩ prog_1_method_52_code 3 (some .boolean)) := rfl
set_option maxRecDepth 100000 in
theorem tc_255 : lw_tbl[1272]? = some (.code ⟨"AskedCourt", "knew", "(I)I"⟩ prog_1_method_51_code 4 (some .int)) := rfl
set_option maxRecDepth 100000 in
theorem tc_256 : lw_tbl[2084]? = some (.code ⟨"AskedCourtModel", "knownBy", "()I"⟩ prog_14_method_113_code 1 (some .int)) := rfl
set_option maxRecDepth 100000 in
theorem tc_257 : lw_tbl[2092]? = some (.code ⟨"AskedCourtModel", "isSo", "(I)Z"⟩ prog_14_method_114_code 3 (some .boolean)) := rfl
set_option maxRecDepth 100000 in
theorem tc_258 : lw_tbl[2088]? = some (.code ⟨"AskedCourtModel", "fits", "(II)Z"⟩ prog_14_method_115_code 5 (some .boolean)) := rfl
set_option maxRecDepth 100000 in
theorem tc_259 : lw_tbl[2080]? = some (.code ⟨"AskedCourtModel", "knew", "(I)I"⟩ prog_14_method_116_code 4 (some .int)) := rfl
set_option maxRecDepth 100000 in
theorem tc_260 : lw_tbl[1290]? = some (.code ⟨"AskedCourt", "chance", "(III)I"⟩ prog_1_method_53_code 7 (some .int)) := rfl
set_option maxRecDepth 100000 in
theorem tc_261 : lw_tbl[2096]? = some (.code ⟨"AskedCourtModel", "chance", "(III)I"⟩ prog_14_method_117_code 9 (some .int)) := rfl
set_option maxRecDepth 100000 in
theorem tc_262 : lw_tbl[1131]? = some (.code ⟨"AskedCourt", "canBeTried", "(II)Z"⟩ prog_1_method_33_code 3 (some .boolean)) := rfl
set_option maxRecDepth 100000 in
theorem tc_263 : lw_tbl[1135]? = some (.code ⟨"AskedCourt$State", "gather", "()V"⟩ prog_10_method_9_code 2 none) := rfl
set_option maxRecDepth 100000 in
theorem tc_264 : lw_tbl[1127]? = some (.code ⟨"AskedCourt", "tried", "(II)I"⟩ prog_1_method_32_code 4 (some .int)) := rfl
set_option maxRecDepth 100000 in
theorem tc_265 : lw_tbl[2100]? = some (.code ⟨"AskedCourtModel", "tried", "(II)I"⟩ prog_14_method_118_code 4 (some .int)) := rfl
set_option maxRecDepth 100000 in
theorem tc_266 : lw_tbl[1059]? = some (.code ⟨"AskedCourt$History", "pop", "(LAskedCourt$State;)V"⟩ prog_3_method_4_code 2 none) := rfl
set_option maxRecDepth 100000 in
theorem tc_267 : lw_tbl[1055]? = some (.code ⟨"AskedCourt", "undo", "()I"⟩ prog_1_method_18_code 1 (some .int)) := rfl
set_option maxRecDepth 100000 in
theorem tc_268 : lw_tbl[2108]? = some (.code ⟨"AskedCourtModel", "take", "([II)V"⟩ prog_14_method_120_code 4 none) := rfl
set_option maxRecDepth 100000 in
theorem tc_269 : lw_tbl[2104]? = some (.code ⟨"AskedCourtModel", "undo", "()I"⟩ prog_14_method_122_code 1 (some .int)) := rfl
set_option maxRecDepth 100000 in
theorem tc_270 : lw_tbl[1063]? = some (.code ⟨"AskedCourt", "keep", "()I"⟩ prog_1_method_19_code 1 (some .int)) := rfl
set_option maxRecDepth 100000 in
theorem tc_271 : lw_tbl[2112]? = some (.code ⟨"AskedCourtModel", "keep", "()I"⟩ prog_14_method_123_code 1 (some .int)) := rfl
set_option maxRecDepth 100000 in
theorem tc_272 : lw_tbl[1068]? = some (.code ⟨"AskedCourt", "back", "()I"⟩ prog_1_method_20_code 1 (some .int)) := rfl
set_option maxRecDepth 100000 in
theorem tc_273 : lw_tbl[2116]? = some (.code ⟨"AskedCourtModel", "back", "()I"⟩ prog_14_method_124_code 1 (some .int)) := rfl
set_option maxRecDepth 100000 in
theorem tc_274 : lw_tbl[986]? = some (.code ⟨"AskedCourt$State", "lostInSum", "()I"⟩ prog_10_method_8_code 3 (some .int)) := rfl
set_option maxRecDepth 100000 in
theorem tc_275 : lw_tbl[977]? = some (.code ⟨"AskedCourt", "count", "(I)I"⟩ prog_1_method_11_code 2 (some .int)) := rfl
set_option maxRecDepth 100000 in
theorem tc_276 : lw_tbl[2120]? = some (.code ⟨"AskedCourtModel", "count", "(I)I"⟩ prog_14_method_125_code 4 (some .int)) := rfl
theorem mcode_0 : ∀ q ∈ mtab_0, mcodeP q :=
  List.forall_mem_cons.mpr ⟨Or.inr tc_0, 
  List.forall_mem_cons.mpr ⟨Or.inr tc_1, 
  List.forall_mem_cons.mpr ⟨Or.inr tc_2, 
  List.forall_mem_cons.mpr ⟨Or.inr tc_3, 
  List.forall_mem_cons.mpr ⟨Or.inr tc_4, 
  List.forall_mem_cons.mpr ⟨Or.inr tc_5, 
  List.forall_mem_cons.mpr ⟨Or.inr tc_6, 
  List.forall_mem_cons.mpr ⟨Or.inr tc_7, 
  List.forall_mem_cons.mpr ⟨Or.inr tc_8, 
  List.forall_mem_cons.mpr ⟨Or.inr tc_9, 
  List.forall_mem_cons.mpr ⟨Or.inr tc_10, 
  List.forall_mem_cons.mpr ⟨Or.inr tc_11, 
  List.forall_mem_cons.mpr ⟨Or.inr tc_12, 
  List.forall_mem_cons.mpr ⟨Or.inr tc_13, 
  List.forall_mem_cons.mpr ⟨Or.inr tc_14, 
  List.forall_mem_cons.mpr ⟨Or.inr tc_15, 
  List.forall_mem_cons.mpr ⟨Or.inr tc_16, 
  List.forall_mem_cons.mpr ⟨Or.inr tc_17, 
  List.forall_mem_cons.mpr ⟨Or.inr tc_18, 
  List.forall_mem_cons.mpr ⟨Or.inr tc_19, 
  List.forall_mem_cons.mpr ⟨Or.inr tc_20, 
  List.forall_mem_cons.mpr ⟨Or.inr tc_21, 
  List.forall_mem_cons.mpr ⟨Or.inr tc_22, 
  List.forall_mem_cons.mpr ⟨Or.inr tc_23, 
  List.forall_mem_cons.mpr ⟨Or.inr tc_24, 
  List.forall_mem_cons.mpr ⟨Or.inr tc_25, 
  List.forall_mem_cons.mpr ⟨Or.inr tc_26, 
  List.forall_mem_cons.mpr ⟨Or.inr tc_27, 
  List.forall_mem_cons.mpr ⟨Or.inr tc_28, 
  List.forall_mem_cons.mpr ⟨Or.inr tc_29, 
  List.forall_mem_cons.mpr ⟨Or.inr tc_30, 
  List.forall_mem_cons.mpr ⟨Or.inr tc_31, 
  List.forall_mem_cons.mpr ⟨Or.inr tc_32, 
  List.forall_mem_cons.mpr ⟨Or.inr tc_33, 
  List.forall_mem_cons.mpr ⟨Or.inr tc_34, 
  List.forall_mem_cons.mpr ⟨Or.inr tc_35, 
  List.forall_mem_cons.mpr ⟨Or.inr tc_36, 
  List.forall_mem_cons.mpr ⟨Or.inr tc_37, 
  List.forall_mem_cons.mpr ⟨Or.inr tc_38, 
  List.forall_mem_cons.mpr ⟨Or.inr tc_39, fun _ h => absurd h List.not_mem_nil⟩⟩⟩⟩⟩⟩⟩⟩⟩⟩⟩⟩⟩⟩⟩⟩⟩⟩⟩⟩⟩⟩⟩⟩⟩⟩⟩⟩⟩⟩⟩⟩⟩⟩⟩⟩⟩⟩⟩⟩
theorem mcode_1 : ∀ q ∈ mtab_1, mcodeP q :=
  List.forall_mem_cons.mpr ⟨Or.inr tc_40, 
  List.forall_mem_cons.mpr ⟨Or.inr tc_41, 
  List.forall_mem_cons.mpr ⟨Or.inr tc_42, 
  List.forall_mem_cons.mpr ⟨Or.inr tc_43, 
  List.forall_mem_cons.mpr ⟨Or.inr tc_44, 
  List.forall_mem_cons.mpr ⟨Or.inr tc_45, 
  List.forall_mem_cons.mpr ⟨Or.inr tc_46, 
  List.forall_mem_cons.mpr ⟨Or.inr tc_47, 
  List.forall_mem_cons.mpr ⟨Or.inr tc_48, 
  List.forall_mem_cons.mpr ⟨Or.inr tc_49, 
  List.forall_mem_cons.mpr ⟨Or.inr tc_50, 
  List.forall_mem_cons.mpr ⟨Or.inr tc_51, 
  List.forall_mem_cons.mpr ⟨Or.inr tc_52, 
  List.forall_mem_cons.mpr ⟨Or.inr tc_53, 
  List.forall_mem_cons.mpr ⟨Or.inr tc_54, 
  List.forall_mem_cons.mpr ⟨Or.inr tc_55, 
  List.forall_mem_cons.mpr ⟨Or.inr tc_56, 
  List.forall_mem_cons.mpr ⟨Or.inr tc_57, 
  List.forall_mem_cons.mpr ⟨Or.inr tc_58, 
  List.forall_mem_cons.mpr ⟨Or.inr tc_59, 
  List.forall_mem_cons.mpr ⟨Or.inr tc_60, 
  List.forall_mem_cons.mpr ⟨Or.inr tc_61, 
  List.forall_mem_cons.mpr ⟨Or.inr tc_62, 
  List.forall_mem_cons.mpr ⟨Or.inr tc_63, 
  List.forall_mem_cons.mpr ⟨Or.inr tc_64, 
  List.forall_mem_cons.mpr ⟨Or.inr tc_65, 
  List.forall_mem_cons.mpr ⟨Or.inr tc_66, 
  List.forall_mem_cons.mpr ⟨Or.inr tc_67, 
  List.forall_mem_cons.mpr ⟨Or.inr tc_68, 
  List.forall_mem_cons.mpr ⟨Or.inr tc_69, 
  List.forall_mem_cons.mpr ⟨Or.inr tc_70, 
  List.forall_mem_cons.mpr ⟨Or.inr tc_71, 
  List.forall_mem_cons.mpr ⟨Or.inr tc_72, 
  List.forall_mem_cons.mpr ⟨Or.inr tc_73, 
  List.forall_mem_cons.mpr ⟨Or.inr tc_74, 
  List.forall_mem_cons.mpr ⟨Or.inr tc_75, 
  List.forall_mem_cons.mpr ⟨Or.inr tc_76, 
  List.forall_mem_cons.mpr ⟨Or.inr tc_77, 
  List.forall_mem_cons.mpr ⟨Or.inr tc_78, 
  List.forall_mem_cons.mpr ⟨Or.inr tc_79, fun _ h => absurd h List.not_mem_nil⟩⟩⟩⟩⟩⟩⟩⟩⟩⟩⟩⟩⟩⟩⟩⟩⟩⟩⟩⟩⟩⟩⟩⟩⟩⟩⟩⟩⟩⟩⟩⟩⟩⟩⟩⟩⟩⟩⟩⟩
theorem mcode_2 : ∀ q ∈ mtab_2, mcodeP q :=
  List.forall_mem_cons.mpr ⟨Or.inr tc_80, 
  List.forall_mem_cons.mpr ⟨Or.inr tc_81, 
  List.forall_mem_cons.mpr ⟨Or.inr tc_82, 
  List.forall_mem_cons.mpr ⟨Or.inr tc_83, 
  List.forall_mem_cons.mpr ⟨Or.inr tc_84, 
  List.forall_mem_cons.mpr ⟨Or.inr tc_85, 
  List.forall_mem_cons.mpr ⟨Or.inr tc_86, 
  List.forall_mem_cons.mpr ⟨Or.inr tc_87, 
  List.forall_mem_cons.mpr ⟨Or.inr tc_88, 
  List.forall_mem_cons.mpr ⟨Or.inr tc_89, 
  List.forall_mem_cons.mpr ⟨Or.inr tc_90, 
  List.forall_mem_cons.mpr ⟨Or.inr tc_91, 
  List.forall_mem_cons.mpr ⟨Or.inr tc_92, 
  List.forall_mem_cons.mpr ⟨Or.inr tc_93, 
  List.forall_mem_cons.mpr ⟨Or.inr tc_94, 
  List.forall_mem_cons.mpr ⟨Or.inr tc_95, 
  List.forall_mem_cons.mpr ⟨Or.inr tc_96, 
  List.forall_mem_cons.mpr ⟨Or.inr tc_97, 
  List.forall_mem_cons.mpr ⟨Or.inr tc_98, 
  List.forall_mem_cons.mpr ⟨Or.inr tc_99, 
  List.forall_mem_cons.mpr ⟨Or.inr tc_100, 
  List.forall_mem_cons.mpr ⟨Or.inr tc_101, 
  List.forall_mem_cons.mpr ⟨Or.inr tc_102, 
  List.forall_mem_cons.mpr ⟨Or.inr tc_103, 
  List.forall_mem_cons.mpr ⟨Or.inr tc_104, 
  List.forall_mem_cons.mpr ⟨Or.inr tc_105, 
  List.forall_mem_cons.mpr ⟨Or.inr tc_106, 
  List.forall_mem_cons.mpr ⟨Or.inr tc_107, 
  List.forall_mem_cons.mpr ⟨Or.inl rfl, 
  List.forall_mem_cons.mpr ⟨Or.inr tc_109, 
  List.forall_mem_cons.mpr ⟨Or.inr tc_110, 
  List.forall_mem_cons.mpr ⟨Or.inr tc_111, 
  List.forall_mem_cons.mpr ⟨Or.inr tc_112, 
  List.forall_mem_cons.mpr ⟨Or.inr tc_113, 
  List.forall_mem_cons.mpr ⟨Or.inr tc_114, 
  List.forall_mem_cons.mpr ⟨Or.inr tc_115, 
  List.forall_mem_cons.mpr ⟨Or.inr tc_116, 
  List.forall_mem_cons.mpr ⟨Or.inr tc_117, 
  List.forall_mem_cons.mpr ⟨Or.inr tc_118, 
  List.forall_mem_cons.mpr ⟨Or.inr tc_119, fun _ h => absurd h List.not_mem_nil⟩⟩⟩⟩⟩⟩⟩⟩⟩⟩⟩⟩⟩⟩⟩⟩⟩⟩⟩⟩⟩⟩⟩⟩⟩⟩⟩⟩⟩⟩⟩⟩⟩⟩⟩⟩⟩⟩⟩⟩
theorem mcode_3 : ∀ q ∈ mtab_3, mcodeP q :=
  List.forall_mem_cons.mpr ⟨Or.inr tc_120, 
  List.forall_mem_cons.mpr ⟨Or.inr tc_121, 
  List.forall_mem_cons.mpr ⟨Or.inr tc_122, 
  List.forall_mem_cons.mpr ⟨Or.inr tc_123, 
  List.forall_mem_cons.mpr ⟨Or.inr tc_124, 
  List.forall_mem_cons.mpr ⟨Or.inr tc_125, 
  List.forall_mem_cons.mpr ⟨Or.inr tc_126, 
  List.forall_mem_cons.mpr ⟨Or.inr tc_127, 
  List.forall_mem_cons.mpr ⟨Or.inr tc_128, 
  List.forall_mem_cons.mpr ⟨Or.inr tc_129, 
  List.forall_mem_cons.mpr ⟨Or.inr tc_130, 
  List.forall_mem_cons.mpr ⟨Or.inr tc_131, 
  List.forall_mem_cons.mpr ⟨Or.inr tc_132, 
  List.forall_mem_cons.mpr ⟨Or.inr tc_133, 
  List.forall_mem_cons.mpr ⟨Or.inr tc_134, 
  List.forall_mem_cons.mpr ⟨Or.inr tc_135, 
  List.forall_mem_cons.mpr ⟨Or.inr tc_136, 
  List.forall_mem_cons.mpr ⟨Or.inr tc_137, 
  List.forall_mem_cons.mpr ⟨Or.inr tc_138, 
  List.forall_mem_cons.mpr ⟨Or.inr tc_139, 
  List.forall_mem_cons.mpr ⟨Or.inr tc_140, 
  List.forall_mem_cons.mpr ⟨Or.inr tc_141, 
  List.forall_mem_cons.mpr ⟨Or.inr tc_142, 
  List.forall_mem_cons.mpr ⟨Or.inr tc_143, 
  List.forall_mem_cons.mpr ⟨Or.inr tc_144, 
  List.forall_mem_cons.mpr ⟨Or.inr tc_145, 
  List.forall_mem_cons.mpr ⟨Or.inr tc_146, 
  List.forall_mem_cons.mpr ⟨Or.inr tc_147, 
  List.forall_mem_cons.mpr ⟨Or.inr tc_148, 
  List.forall_mem_cons.mpr ⟨Or.inr tc_149, 
  List.forall_mem_cons.mpr ⟨Or.inr tc_150, 
  List.forall_mem_cons.mpr ⟨Or.inr tc_151, 
  List.forall_mem_cons.mpr ⟨Or.inr tc_152, 
  List.forall_mem_cons.mpr ⟨Or.inr tc_153, 
  List.forall_mem_cons.mpr ⟨Or.inr tc_154, 
  List.forall_mem_cons.mpr ⟨Or.inr tc_155, 
  List.forall_mem_cons.mpr ⟨Or.inr tc_156, 
  List.forall_mem_cons.mpr ⟨Or.inr tc_157, 
  List.forall_mem_cons.mpr ⟨Or.inr tc_158, 
  List.forall_mem_cons.mpr ⟨Or.inr tc_159, fun _ h => absurd h List.not_mem_nil⟩⟩⟩⟩⟩⟩⟩⟩⟩⟩⟩⟩⟩⟩⟩⟩⟩⟩⟩⟩⟩⟩⟩⟩⟩⟩⟩⟩⟩⟩⟩⟩⟩⟩⟩⟩⟩⟩⟩⟩
theorem mcode_4 : ∀ q ∈ mtab_4, mcodeP q :=
  List.forall_mem_cons.mpr ⟨Or.inr tc_160, 
  List.forall_mem_cons.mpr ⟨Or.inr tc_161, 
  List.forall_mem_cons.mpr ⟨Or.inr tc_162, 
  List.forall_mem_cons.mpr ⟨Or.inr tc_163, 
  List.forall_mem_cons.mpr ⟨Or.inr tc_164, 
  List.forall_mem_cons.mpr ⟨Or.inr tc_165, 
  List.forall_mem_cons.mpr ⟨Or.inr tc_166, 
  List.forall_mem_cons.mpr ⟨Or.inr tc_167, 
  List.forall_mem_cons.mpr ⟨Or.inr tc_168, 
  List.forall_mem_cons.mpr ⟨Or.inr tc_169, 
  List.forall_mem_cons.mpr ⟨Or.inr tc_170, 
  List.forall_mem_cons.mpr ⟨Or.inr tc_171, 
  List.forall_mem_cons.mpr ⟨Or.inr tc_172, 
  List.forall_mem_cons.mpr ⟨Or.inr tc_173, 
  List.forall_mem_cons.mpr ⟨Or.inr tc_174, 
  List.forall_mem_cons.mpr ⟨Or.inr tc_175, 
  List.forall_mem_cons.mpr ⟨Or.inr tc_176, 
  List.forall_mem_cons.mpr ⟨Or.inr tc_177, 
  List.forall_mem_cons.mpr ⟨Or.inr tc_178, 
  List.forall_mem_cons.mpr ⟨Or.inr tc_179, 
  List.forall_mem_cons.mpr ⟨Or.inr tc_180, 
  List.forall_mem_cons.mpr ⟨Or.inr tc_181, 
  List.forall_mem_cons.mpr ⟨Or.inr tc_182, 
  List.forall_mem_cons.mpr ⟨Or.inr tc_183, 
  List.forall_mem_cons.mpr ⟨Or.inr tc_184, 
  List.forall_mem_cons.mpr ⟨Or.inr tc_185, 
  List.forall_mem_cons.mpr ⟨Or.inr tc_186, 
  List.forall_mem_cons.mpr ⟨Or.inr tc_187, 
  List.forall_mem_cons.mpr ⟨Or.inr tc_188, 
  List.forall_mem_cons.mpr ⟨Or.inr tc_189, 
  List.forall_mem_cons.mpr ⟨Or.inr tc_190, 
  List.forall_mem_cons.mpr ⟨Or.inr tc_191, 
  List.forall_mem_cons.mpr ⟨Or.inr tc_192, 
  List.forall_mem_cons.mpr ⟨Or.inr tc_193, 
  List.forall_mem_cons.mpr ⟨Or.inr tc_194, 
  List.forall_mem_cons.mpr ⟨Or.inr tc_195, 
  List.forall_mem_cons.mpr ⟨Or.inr tc_196, 
  List.forall_mem_cons.mpr ⟨Or.inr tc_197, 
  List.forall_mem_cons.mpr ⟨Or.inr tc_198, 
  List.forall_mem_cons.mpr ⟨Or.inr tc_199, fun _ h => absurd h List.not_mem_nil⟩⟩⟩⟩⟩⟩⟩⟩⟩⟩⟩⟩⟩⟩⟩⟩⟩⟩⟩⟩⟩⟩⟩⟩⟩⟩⟩⟩⟩⟩⟩⟩⟩⟩⟩⟩⟩⟩⟩⟩
theorem mcode_5 : ∀ q ∈ mtab_5, mcodeP q :=
  List.forall_mem_cons.mpr ⟨Or.inr tc_200, 
  List.forall_mem_cons.mpr ⟨Or.inr tc_201, 
  List.forall_mem_cons.mpr ⟨Or.inr tc_202, 
  List.forall_mem_cons.mpr ⟨Or.inr tc_203, 
  List.forall_mem_cons.mpr ⟨Or.inr tc_204, 
  List.forall_mem_cons.mpr ⟨Or.inr tc_205, 
  List.forall_mem_cons.mpr ⟨Or.inr tc_206, 
  List.forall_mem_cons.mpr ⟨Or.inr tc_207, 
  List.forall_mem_cons.mpr ⟨Or.inr tc_208, 
  List.forall_mem_cons.mpr ⟨Or.inr tc_209, 
  List.forall_mem_cons.mpr ⟨Or.inr tc_210, 
  List.forall_mem_cons.mpr ⟨Or.inr tc_211, 
  List.forall_mem_cons.mpr ⟨Or.inr tc_212, 
  List.forall_mem_cons.mpr ⟨Or.inr tc_213, 
  List.forall_mem_cons.mpr ⟨Or.inr tc_214, 
  List.forall_mem_cons.mpr ⟨Or.inr tc_215, 
  List.forall_mem_cons.mpr ⟨Or.inr tc_216, 
  List.forall_mem_cons.mpr ⟨Or.inr tc_217, 
  List.forall_mem_cons.mpr ⟨Or.inr tc_218, 
  List.forall_mem_cons.mpr ⟨Or.inr tc_219, 
  List.forall_mem_cons.mpr ⟨Or.inr tc_220, 
  List.forall_mem_cons.mpr ⟨Or.inr tc_221, 
  List.forall_mem_cons.mpr ⟨Or.inr tc_222, 
  List.forall_mem_cons.mpr ⟨Or.inr tc_223, 
  List.forall_mem_cons.mpr ⟨Or.inr tc_224, 
  List.forall_mem_cons.mpr ⟨Or.inr tc_225, 
  List.forall_mem_cons.mpr ⟨Or.inr tc_226, 
  List.forall_mem_cons.mpr ⟨Or.inr tc_227, 
  List.forall_mem_cons.mpr ⟨Or.inr tc_228, 
  List.forall_mem_cons.mpr ⟨Or.inr tc_229, 
  List.forall_mem_cons.mpr ⟨Or.inr tc_230, 
  List.forall_mem_cons.mpr ⟨Or.inr tc_231, 
  List.forall_mem_cons.mpr ⟨Or.inr tc_232, 
  List.forall_mem_cons.mpr ⟨Or.inr tc_233, 
  List.forall_mem_cons.mpr ⟨Or.inr tc_234, 
  List.forall_mem_cons.mpr ⟨Or.inr tc_235, 
  List.forall_mem_cons.mpr ⟨Or.inr tc_236, 
  List.forall_mem_cons.mpr ⟨Or.inr tc_237, 
  List.forall_mem_cons.mpr ⟨Or.inr tc_238, 
  List.forall_mem_cons.mpr ⟨Or.inr tc_239, fun _ h => absurd h List.not_mem_nil⟩⟩⟩⟩⟩⟩⟩⟩⟩⟩⟩⟩⟩⟩⟩⟩⟩⟩⟩⟩⟩⟩⟩⟩⟩⟩⟩⟩⟩⟩⟩⟩⟩⟩⟩⟩⟩⟩⟩⟩
theorem mcode_6 : ∀ q ∈ mtab_6, mcodeP q :=
  List.forall_mem_cons.mpr ⟨Or.inr tc_240, 
  List.forall_mem_cons.mpr ⟨Or.inr tc_241, 
  List.forall_mem_cons.mpr ⟨Or.inr tc_242, 
  List.forall_mem_cons.mpr ⟨Or.inr tc_243, 
  List.forall_mem_cons.mpr ⟨Or.inr tc_244, 
  List.forall_mem_cons.mpr ⟨Or.inr tc_245, 
  List.forall_mem_cons.mpr ⟨Or.inr tc_246, 
  List.forall_mem_cons.mpr ⟨Or.inr tc_247, 
  List.forall_mem_cons.mpr ⟨Or.inr tc_248, 
  List.forall_mem_cons.mpr ⟨Or.inr tc_249, 
  List.forall_mem_cons.mpr ⟨Or.inr tc_250, 
  List.forall_mem_cons.mpr ⟨Or.inr tc_251, 
  List.forall_mem_cons.mpr ⟨Or.inr tc_252, 
  List.forall_mem_cons.mpr ⟨Or.inr tc_253, 
  List.forall_mem_cons.mpr ⟨Or.inr tc_254, 
  List.forall_mem_cons.mpr ⟨Or.inr tc_255, 
  List.forall_mem_cons.mpr ⟨Or.inr tc_256, 
  List.forall_mem_cons.mpr ⟨Or.inr tc_257, 
  List.forall_mem_cons.mpr ⟨Or.inr tc_258, 
  List.forall_mem_cons.mpr ⟨Or.inr tc_259, 
  List.forall_mem_cons.mpr ⟨Or.inr tc_260, 
  List.forall_mem_cons.mpr ⟨Or.inr tc_261, 
  List.forall_mem_cons.mpr ⟨Or.inr tc_262, 
  List.forall_mem_cons.mpr ⟨Or.inr tc_263, 
  List.forall_mem_cons.mpr ⟨Or.inr tc_264, 
  List.forall_mem_cons.mpr ⟨Or.inr tc_265, 
  List.forall_mem_cons.mpr ⟨Or.inr tc_266, 
  List.forall_mem_cons.mpr ⟨Or.inr tc_267, 
  List.forall_mem_cons.mpr ⟨Or.inr tc_268, 
  List.forall_mem_cons.mpr ⟨Or.inr tc_269, 
  List.forall_mem_cons.mpr ⟨Or.inr tc_270, 
  List.forall_mem_cons.mpr ⟨Or.inr tc_271, 
  List.forall_mem_cons.mpr ⟨Or.inr tc_272, 
  List.forall_mem_cons.mpr ⟨Or.inr tc_273, 
  List.forall_mem_cons.mpr ⟨Or.inr tc_274, 
  List.forall_mem_cons.mpr ⟨Or.inr tc_275, 
  List.forall_mem_cons.mpr ⟨Or.inr tc_276, 
  List.forall_mem_cons.mpr ⟨Or.inl rfl, fun _ h => absurd h List.not_mem_nil⟩⟩⟩⟩⟩⟩⟩⟩⟩⟩⟩⟩⟩⟩⟩⟩⟩⟩⟩⟩⟩⟩⟩⟩⟩⟩⟩⟩⟩⟩⟩⟩⟩⟩⟩⟩⟩⟩
theorem mcode_all : ∀ q ∈ mtab, mcodeP q := by
  intro q hq
  simp only [mtab, List.mem_append] at hq
  rcases hq with h | h | h | h | h | h | h
  · exact mcode_0 q h
  · exact mcode_1 q h
  · exact mcode_2 q h
  · exact mcode_3 q h
  · exact mcode_4 q h
  · exact mcode_5 q h
  · exact mcode_6 q h
