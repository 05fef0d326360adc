-- Integer.bitCount
def bc0 (x : Int32) : Int32 := x - ((x.toUInt32 >>> ((1 : Int32).toUInt32 &&& Int32.toUInt32 31)).toInt32 &&& 1431655765)
def bc1 (a : Int32) : Int32 := (a &&& 858993459) + ((a.toUInt32 >>> ((2 : Int32).toUInt32 &&& Int32.toUInt32 31)).toInt32 &&& 858993459)
def bc2 (b : Int32) : Int32 := (b + (b.toUInt32 >>> ((4 : Int32).toUInt32 &&& Int32.toUInt32 31)).toInt32) &&& 252645135
def bc3 (c : Int32) : Int32 := c + (c.toUInt32 >>> ((8 : Int32).toUInt32 &&& Int32.toUInt32 31)).toInt32
def bc4 (d : Int32) : Int32 := d + (d.toUInt32 >>> ((16 : Int32).toUInt32 &&& Int32.toUInt32 31)).toInt32
def bcE (x : Int32) : Int32 := bc4 (bc3 (bc2 (bc1 (bc0 x)))) &&& 63
def ck_5 : List MI := (.iload_n 0, 1, []) :: (.bipush 63, 2, []) :: (.iand, 1, []) :: (.ireturn, 1, [0]) :: []
def ck_4 : List MI := (.iload_n 0, 1, []) :: (.iload_n 0, 1, []) :: (.bipush 16, 2, []) :: (.iushr, 1, []) :: (.iadd, 1, []) :: (.istore_n 0, 1, []) :: ck_5
def ck_3 : List MI := (.iload_n 0, 1, []) :: (.iload_n 0, 1, []) :: (.bipush 8, 2, []) :: (.iushr, 1, []) :: (.iadd, 1, []) :: (.istore_n 0, 1, []) :: ck_4
def ck_2 : List MI := (.iload_n 0, 1, []) :: (.iload_n 0, 1, []) :: (.iconst 4, 1, []) :: (.iushr, 1, []) :: (.iadd, 1, []) :: (.ldc_w 267, 3, [252645135, 959]) :: (.iand, 1, []) :: (.istore_n 0, 1, []) :: ck_3
def ck_1 : List MI := (.iload_n 0, 1, []) :: (.ldc_w 266, 3, [858993459, 958]) :: (.iand, 1, []) :: (.iload_n 0, 1, []) :: (.iconst 2, 1, []) :: (.iushr, 1, []) :: (.ldc_w 266, 3, [858993459, 958]) :: (.iand, 1, []) :: (.iadd, 1, []) :: (.istore_n 0, 1, []) :: ck_2
def ck_0 : List MI := (.iload_n 0, 1, []) :: (.iload_n 0, 1, []) :: (.iconst 1, 1, []) :: (.iushr, 1, []) :: (.ldc_w 265, 3, [1431655765, 957]) :: (.iand, 1, []) :: (.isub, 1, []) :: (.istore_n 0, 1, []) :: ck_1
section BitC
variable {sc : Nat × (Nat → Int32)} {pp : Nat → Nat → Int32 → Int32 → Hp → Option (Hp × Int32)} {rec : Rec} {h : Hp}
set_option maxHeartbeats 20000 in
theorem kb_0 (x : Int32) : exS sc pp rec 127 0 ck_0 [some (.int x)] [] 0 0 h = exS sc pp rec 127 10 ck_1 [some (.int (bc0 x))] [] 0 0 h := by
  unfold ck_0 bc0
  simp only [x_iload_n0, x_iconst_1, x_iushr, x_ldcw_1431655765, x_iand, x_isub, x_istore_n0, Nat.reduceAdd]
set_option maxHeartbeats 20000 in
theorem kb_1 (x : Int32) : exS sc pp rec 127 10 ck_1 [some (.int x)] [] 0 0 h = exS sc pp rec 127 24 ck_2 [some (.int (bc1 x))] [] 0 0 h := by
  unfold ck_1 bc1
  simp only [x_iload_n0, x_ldcw_858993459, x_iand, x_iconst_2, x_iushr, x_iadd, x_istore_n0, Nat.reduceAdd]
set_option maxHeartbeats 20000 in
theorem kb_2 (x : Int32) : exS sc pp rec 127 24 ck_2 [some (.int x)] [] 0 0 h = exS sc pp rec 127 34 ck_3 [some (.int (bc2 x))] [] 0 0 h := by
  unfold ck_2 bc2
  simp only [x_iload_n0, x_iconst_4, x_iushr, x_iadd, x_ldcw_252645135, x_iand, x_istore_n0, Nat.reduceAdd]
set_option maxHeartbeats 20000 in
theorem kb_3 (x : Int32) : exS sc pp rec 127 34 ck_3 [some (.int x)] [] 0 0 h = exS sc pp rec 127 41 ck_4 [some (.int (bc3 x))] [] 0 0 h := by
  unfold ck_3 bc3
  simp only [x_iload_n0, x_bipush_8, x_iushr, x_iadd, x_istore_n0, Nat.reduceAdd]
set_option maxHeartbeats 20000 in
theorem kb_4 (x : Int32) : exS sc pp rec 127 41 ck_4 [some (.int x)] [] 0 0 h = exS sc pp rec 127 48 ck_5 [some (.int (bc4 x))] [] 0 0 h := by
  unfold ck_4 bc4
  simp only [x_iload_n0, x_bipush_16, x_iushr, x_iadd, x_istore_n0, Nat.reduceAdd]
set_option maxHeartbeats 20000 in
theorem kb_5 (x : Int32) : exS sc pp rec 127 48 ck_5 [some (.int x)] [] 0 0 h = some (h, some (.int (x &&& 63))) := by
  unfold ck_5
  simp only [x_iload_n0, x_bipush_63, x_iand, x_ireturn, Nat.reduceAdd]
set_option maxHeartbeats 20000 in
theorem c_bitCount (x : Int32) (h : Hp) : Lm sc pp 127 0 [some (.int x)] [] 0 0 h = some (h, some (.int (bcE x))) := by
  have e : Lm sc pp 127 0 [some (.int x)] [] 0 0 h = exS sc pp (Lm sc pp) 127 0 ck_0 [some (.int x)] [] 0 0 h := Lm_eq (by decide) (by rfl) _ _ _ _ _
  rw [e, kb_0, kb_1, kb_2, kb_3, kb_4, kb_5, bcE]
end BitC
