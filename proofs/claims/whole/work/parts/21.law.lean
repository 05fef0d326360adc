-- E of a law: joining two values; whether one can ask
section T21
variable {sc : Nat × (Nat → Int32)} {pp : Nat → Nat → Int32 → Int32 → Hp → Option (Hp × Int32)}
theorem L_128_0 (lv : Lv) (st : List Value) (cu su : Nat) (h : Hp) : Lm sc pp 128 0 lv st cu su h = exS sc pp (Lm sc pp) 128 0 [(.lload_n 2, 1, []), (.lconst 0, 1, []), (.lcmp, 1, []), (.ifCond .ne 5, 3, [8])] lv st cu su h := Lm_eq (by decide) (by rfl) lv st cu su h
theorem L_128_6 (lv : Lv) (st : List Value) (cu su : Nat) (h : Hp) : Lm sc pp 128 6 lv st cu su h = exS sc pp (Lm sc pp) 128 6 [(.lconst 0, 1, []), (.lreturn, 1, [])] lv st cu su h := Lm_eq (by decide) (by rfl) lv st cu su h
theorem L_128_8 (lv : Lv) (st : List Value) (cu su : Nat) (h : Hp) : Lm sc pp 128 8 lv st cu su h = exS sc pp (Lm sc pp) 128 8 [(.ldc2_w 42, 3, [1000000000000, 969]), (.lload_n 2, 1, []), (.lconst 0, 1, []), (.lcmp, 1, []), (.ifCond .ge 8, 3, [22])] lv st cu su h := Lm_eq (by decide) (by rfl) lv st cu su h
theorem L_128_17 (lv : Lv) (st : List Value) (cu su : Nat) (h : Hp) : Lm sc pp 128 17 lv st cu su h = exS sc pp (Lm sc pp) 128 17 [(.lload_n 2, 1, []), (.lneg, 1, []), (.goto 4, 3, [23])] lv st cu su h := Lm_eq (by decide) (by rfl) lv st cu su h
theorem L_128_22 (lv : Lv) (st : List Value) (cu su : Nat) (h : Hp) : Lm sc pp 128 22 lv st cu su h = exS sc pp (Lm sc pp) 128 22 [(.lload_n 2, 1, [])] lv st cu su h := Lm_eq (by decide) (by rfl) lv st cu su h
theorem L_128_23 (lv : Lv) (st : List Value) (cu su : Nat) (h : Hp) : Lm sc pp 128 23 lv st cu su h = exS sc pp (Lm sc pp) 128 23 [(.ldiv, 1, []), (.lstore 4, 2, []), (.lload_n 0, 1, []), (.lload 4, 2, []), (.lcmp, 1, []), (.ifCond .gt 11, 3, [41])] lv st cu su h := Lm_eq (by decide) (by rfl) lv st cu su h
theorem L_128_33 (lv : Lv) (st : List Value) (cu su : Nat) (h : Hp) : Lm sc pp 128 33 lv st cu su h = exS sc pp (Lm sc pp) 128 33 [(.lload_n 0, 1, []), (.lload 4, 2, []), (.lneg, 1, []), (.lcmp, 1, []), (.ifCond .ge 9, 3, [47])] lv st cu su h := Lm_eq (by decide) (by rfl) lv st cu su h
theorem L_128_41 (lv : Lv) (st : List Value) (cu su : Nat) (h : Hp) : Lm sc pp 128 41 lv st cu su h = exS sc pp (Lm sc pp) 128 41 [(.ldc2_w 32, 3, [9223372036854775808, 965]), (.goto 6, 3, [50])] lv st cu su h := Lm_eq (by decide) (by rfl) lv st cu su h
theorem L_128_47 (lv : Lv) (st : List Value) (cu su : Nat) (h : Hp) : Lm sc pp 128 47 lv st cu su h = exS sc pp (Lm sc pp) 128 47 [(.lload_n 0, 1, []), (.lload_n 2, 1, []), (.lmul, 1, [])] lv st cu su h := Lm_eq (by decide) (by rfl) lv st cu su h
theorem L_128_50 (lv : Lv) (st : List Value) (cu su : Nat) (h : Hp) : Lm sc pp 128 50 lv st cu su h = exS sc pp (Lm sc pp) 128 50 [(.lreturn, 1, [])] lv st cu su h := Lm_eq (by decide) (by rfl) lv st cu su h
theorem L_129_0 (lv : Lv) (st : List Value) (cu su : Nat) (h : Hp) : Lm sc pp 129 0 lv st cu su h = exS sc pp (Lm sc pp) 129 0 [(.iload_n 0, 1, []), (.tableswitch 215 15 35 #[99, 117, 215, 215, 215, 215, 215, 215, 215, 215, 215, 215, 215, 135, 147, 159, 171, 183, 195, 207, 211], 99, [216, 100, 118, 216, 216, 216, 216, 216, 216, 216, 216, 216, 216, 216, 136, 148, 160, 172, 184, 196, 208, 212])] lv st cu su h := Lm_eq (by decide) (by rfl) lv st cu su h
theorem L_129_100 (lv : Lv) (st : List Value) (cu su : Nat) (h : Hp) : Lm sc pp 129 100 lv st cu su h = exS sc pp (Lm sc pp) 129 100 [(.lload_n 1, 1, []), (.lconst 0, 1, []), (.lcmp, 1, []), (.ifCond .ne 9, 3, [112])] lv st cu su h := Lm_eq (by decide) (by rfl) lv st cu su h
theorem L_129_106 (lv : Lv) (st : List Value) (cu su : Nat) (h : Hp) : Lm sc pp 129 106 lv st cu su h = exS sc pp (Lm sc pp) 129 106 [(.lload_n 3, 1, []), (.lconst 0, 1, []), (.lcmp, 1, []), (.ifCond .eq 7, 3, [116])] lv st cu su h := Lm_eq (by decide) (by rfl) lv st cu su h
theorem L_129_112 (lv : Lv) (st : List Value) (cu su : Nat) (h : Hp) : Lm sc pp 129 112 lv st cu su h = exS sc pp (Lm sc pp) 129 112 [(.lconst 1, 1, []), (.goto 4, 3, [117])] lv st cu su h := Lm_eq (by decide) (by rfl) lv st cu su h
theorem L_129_116 (lv : Lv) (st : List Value) (cu su : Nat) (h : Hp) : Lm sc pp 129 116 lv st cu su h = exS sc pp (Lm sc pp) 129 116 [(.lconst 0, 1, [])] lv st cu su h := Lm_eq (by decide) (by rfl) lv st cu su h
theorem L_129_117 (lv : Lv) (st : List Value) (cu su : Nat) (h : Hp) : Lm sc pp 129 117 lv st cu su h = exS sc pp (Lm sc pp) 129 117 [(.lreturn, 1, [])] lv st cu su h := Lm_eq (by decide) (by rfl) lv st cu su h
theorem L_129_118 (lv : Lv) (st : List Value) (cu su : Nat) (h : Hp) : Lm sc pp 129 118 lv st cu su h = exS sc pp (Lm sc pp) 129 118 [(.lload_n 1, 1, []), (.lconst 0, 1, []), (.lcmp, 1, []), (.ifCond .eq 13, 3, [134])] lv st cu su h := Lm_eq (by decide) (by rfl) lv st cu su h
theorem L_129_124 (lv : Lv) (st : List Value) (cu su : Nat) (h : Hp) : Lm sc pp 129 124 lv st cu su h = exS sc pp (Lm sc pp) 129 124 [(.lload_n 3, 1, []), (.lconst 0, 1, []), (.lcmp, 1, []), (.ifCond .eq 7, 3, [134])] lv st cu su h := Lm_eq (by decide) (by rfl) lv st cu su h
theorem L_129_130 (lv : Lv) (st : List Value) (cu su : Nat) (h : Hp) : Lm sc pp 129 130 lv st cu su h = exS sc pp (Lm sc pp) 129 130 [(.lconst 1, 1, []), (.goto 4, 3, [135])] lv st cu su h := Lm_eq (by decide) (by rfl) lv st cu su h
theorem L_129_134 (lv : Lv) (st : List Value) (cu su : Nat) (h : Hp) : Lm sc pp 129 134 lv st cu su h = exS sc pp (Lm sc pp) 129 134 [(.lconst 0, 1, [])] lv st cu su h := Lm_eq (by decide) (by rfl) lv st cu su h
theorem L_129_135 (lv : Lv) (st : List Value) (cu su : Nat) (h : Hp) : Lm sc pp 129 135 lv st cu su h = exS sc pp (Lm sc pp) 129 135 [(.lreturn, 1, [])] lv st cu su h := Lm_eq (by decide) (by rfl) lv st cu su h
theorem L_129_136 (lv : Lv) (st : List Value) (cu su : Nat) (h : Hp) : Lm sc pp 129 136 lv st cu su h = exS sc pp (Lm sc pp) 129 136 [(.lload_n 1, 1, []), (.lload_n 3, 1, []), (.lcmp, 1, []), (.ifCond .ge 7, 3, [146])] lv st cu su h := Lm_eq (by decide) (by rfl) lv st cu su h
theorem L_129_142 (lv : Lv) (st : List Value) (cu su : Nat) (h : Hp) : Lm sc pp 129 142 lv st cu su h = exS sc pp (Lm sc pp) 129 142 [(.lconst 1, 1, []), (.goto 4, 3, [147])] lv st cu su h := Lm_eq (by decide) (by rfl) lv st cu su h
theorem L_129_146 (lv : Lv) (st : List Value) (cu su : Nat) (h : Hp) : Lm sc pp 129 146 lv st cu su h = exS sc pp (Lm sc pp) 129 146 [(.lconst 0, 1, [])] lv st cu su h := Lm_eq (by decide) (by rfl) lv st cu su h
theorem L_129_147 (lv : Lv) (st : List Value) (cu su : Nat) (h : Hp) : Lm sc pp 129 147 lv st cu su h = exS sc pp (Lm sc pp) 129 147 [(.lreturn, 1, [])] lv st cu su h := Lm_eq (by decide) (by rfl) lv st cu su h
theorem L_129_148 (lv : Lv) (st : List Value) (cu su : Nat) (h : Hp) : Lm sc pp 129 148 lv st cu su h = exS sc pp (Lm sc pp) 129 148 [(.lload_n 1, 1, []), (.lload_n 3, 1, []), (.lcmp, 1, []), (.ifCond .gt 7, 3, [158])] lv st cu su h := Lm_eq (by decide) (by rfl) lv st cu su h
theorem L_129_154 (lv : Lv) (st : List Value) (cu su : Nat) (h : Hp) : Lm sc pp 129 154 lv st cu su h = exS sc pp (Lm sc pp) 129 154 [(.lconst 1, 1, []), (.goto 4, 3, [159])] lv st cu su h := Lm_eq (by decide) (by rfl) lv st cu su h
theorem L_129_158 (lv : Lv) (st : List Value) (cu su : Nat) (h : Hp) : Lm sc pp 129 158 lv st cu su h = exS sc pp (Lm sc pp) 129 158 [(.lconst 0, 1, [])] lv st cu su h := Lm_eq (by decide) (by rfl) lv st cu su h
theorem L_129_159 (lv : Lv) (st : List Value) (cu su : Nat) (h : Hp) : Lm sc pp 129 159 lv st cu su h = exS sc pp (Lm sc pp) 129 159 [(.lreturn, 1, [])] lv st cu su h := Lm_eq (by decide) (by rfl) lv st cu su h
theorem L_129_160 (lv : Lv) (st : List Value) (cu su : Nat) (h : Hp) : Lm sc pp 129 160 lv st cu su h = exS sc pp (Lm sc pp) 129 160 [(.lload_n 1, 1, []), (.lload_n 3, 1, []), (.lcmp, 1, []), (.ifCond .ne 7, 3, [170])] lv st cu su h := Lm_eq (by decide) (by rfl) lv st cu su h
theorem L_129_166 (lv : Lv) (st : List Value) (cu su : Nat) (h : Hp) : Lm sc pp 129 166 lv st cu su h = exS sc pp (Lm sc pp) 129 166 [(.lconst 1, 1, []), (.goto 4, 3, [171])] lv st cu su h := Lm_eq (by decide) (by rfl) lv st cu su h
theorem L_129_170 (lv : Lv) (st : List Value) (cu su : Nat) (h : Hp) : Lm sc pp 129 170 lv st cu su h = exS sc pp (Lm sc pp) 129 170 [(.lconst 0, 1, [])] lv st cu su h := Lm_eq (by decide) (by rfl) lv st cu su h
theorem L_129_171 (lv : Lv) (st : List Value) (cu su : Nat) (h : Hp) : Lm sc pp 129 171 lv st cu su h = exS sc pp (Lm sc pp) 129 171 [(.lreturn, 1, [])] lv st cu su h := Lm_eq (by decide) (by rfl) lv st cu su h
theorem L_129_172 (lv : Lv) (st : List Value) (cu su : Nat) (h : Hp) : Lm sc pp 129 172 lv st cu su h = exS sc pp (Lm sc pp) 129 172 [(.lload_n 1, 1, []), (.lload_n 3, 1, []), (.lcmp, 1, []), (.ifCond .eq 7, 3, [182])] lv st cu su h := Lm_eq (by decide) (by rfl) lv st cu su h
theorem L_129_178 (lv : Lv) (st : List Value) (cu su : Nat) (h : Hp) : Lm sc pp 129 178 lv st cu su h = exS sc pp (Lm sc pp) 129 178 [(.lconst 1, 1, []), (.goto 4, 3, [183])] lv st cu su h := Lm_eq (by decide) (by rfl) lv st cu su h
theorem L_129_182 (lv : Lv) (st : List Value) (cu su : Nat) (h : Hp) : Lm sc pp 129 182 lv st cu su h = exS sc pp (Lm sc pp) 129 182 [(.lconst 0, 1, [])] lv st cu su h := Lm_eq (by decide) (by rfl) lv st cu su h
theorem L_129_183 (lv : Lv) (st : List Value) (cu su : Nat) (h : Hp) : Lm sc pp 129 183 lv st cu su h = exS sc pp (Lm sc pp) 129 183 [(.lreturn, 1, [])] lv st cu su h := Lm_eq (by decide) (by rfl) lv st cu su h
theorem L_129_184 (lv : Lv) (st : List Value) (cu su : Nat) (h : Hp) : Lm sc pp 129 184 lv st cu su h = exS sc pp (Lm sc pp) 129 184 [(.lload_n 1, 1, []), (.lload_n 3, 1, []), (.lcmp, 1, []), (.ifCond .lt 7, 3, [194])] lv st cu su h := Lm_eq (by decide) (by rfl) lv st cu su h
theorem L_129_190 (lv : Lv) (st : List Value) (cu su : Nat) (h : Hp) : Lm sc pp 129 190 lv st cu su h = exS sc pp (Lm sc pp) 129 190 [(.lconst 1, 1, []), (.goto 4, 3, [195])] lv st cu su h := Lm_eq (by decide) (by rfl) lv st cu su h
theorem L_129_194 (lv : Lv) (st : List Value) (cu su : Nat) (h : Hp) : Lm sc pp 129 194 lv st cu su h = exS sc pp (Lm sc pp) 129 194 [(.lconst 0, 1, [])] lv st cu su h := Lm_eq (by decide) (by rfl) lv st cu su h
theorem L_129_195 (lv : Lv) (st : List Value) (cu su : Nat) (h : Hp) : Lm sc pp 129 195 lv st cu su h = exS sc pp (Lm sc pp) 129 195 [(.lreturn, 1, [])] lv st cu su h := Lm_eq (by decide) (by rfl) lv st cu su h
theorem L_129_196 (lv : Lv) (st : List Value) (cu su : Nat) (h : Hp) : Lm sc pp 129 196 lv st cu su h = exS sc pp (Lm sc pp) 129 196 [(.lload_n 1, 1, []), (.lload_n 3, 1, []), (.lcmp, 1, []), (.ifCond .le 7, 3, [206])] lv st cu su h := Lm_eq (by decide) (by rfl) lv st cu su h
theorem L_129_202 (lv : Lv) (st : List Value) (cu su : Nat) (h : Hp) : Lm sc pp 129 202 lv st cu su h = exS sc pp (Lm sc pp) 129 202 [(.lconst 1, 1, []), (.goto 4, 3, [207])] lv st cu su h := Lm_eq (by decide) (by rfl) lv st cu su h
theorem L_129_206 (lv : Lv) (st : List Value) (cu su : Nat) (h : Hp) : Lm sc pp 129 206 lv st cu su h = exS sc pp (Lm sc pp) 129 206 [(.lconst 0, 1, [])] lv st cu su h := Lm_eq (by decide) (by rfl) lv st cu su h
theorem L_129_207 (lv : Lv) (st : List Value) (cu su : Nat) (h : Hp) : Lm sc pp 129 207 lv st cu su h = exS sc pp (Lm sc pp) 129 207 [(.lreturn, 1, [])] lv st cu su h := Lm_eq (by decide) (by rfl) lv st cu su h
theorem L_129_208 (lv : Lv) (st : List Value) (cu su : Nat) (h : Hp) : Lm sc pp 129 208 lv st cu su h = exS sc pp (Lm sc pp) 129 208 [(.lload_n 1, 1, []), (.lload_n 3, 1, []), (.ladd, 1, []), (.lreturn, 1, [])] lv st cu su h := Lm_eq (by decide) (by rfl) lv st cu su h
theorem L_129_212 (lv : Lv) (st : List Value) (cu su : Nat) (h : Hp) : Lm sc pp 129 212 lv st cu su h = exS sc pp (Lm sc pp) 129 212 [(.lload_n 1, 1, []), (.lload_n 3, 1, []), (.lsub, 1, []), (.lreturn, 1, [])] lv st cu su h := Lm_eq (by decide) (by rfl) lv st cu su h
theorem L_129_216 (lv : Lv) (st : List Value) (cu su : Nat) (h : Hp) : Lm sc pp 129 216 lv st cu su h = exS sc pp (Lm sc pp) 129 216 [(.lload_n 3, 1, []), (.lconst 0, 1, []), (.lcmp, 1, []), (.ifCond .ne 9, 3, [228])] lv st cu su h := Lm_eq (by decide) (by rfl) lv st cu su h
theorem L_129_222 (lv : Lv) (st : List Value) (cu su : Nat) (h : Hp) : Lm sc pp 129 222 lv st cu su h = exS sc pp (Lm sc pp) 129 222 [(.ldc2_w 32, 3, [9223372036854775808, 965]), (.goto 6, 3, [231])] lv st cu su h := Lm_eq (by decide) (by rfl) lv st cu su h
theorem L_129_228 (lv : Lv) (st : List Value) (cu su : Nat) (h : Hp) : Lm sc pp 129 228 lv st cu su h = exS sc pp (Lm sc pp) 129 228 [(.lload_n 1, 1, []), (.lload_n 3, 1, []), (.ldiv, 1, [])] lv st cu su h := Lm_eq (by decide) (by rfl) lv st cu su h
theorem L_129_231 (lv : Lv) (st : List Value) (cu su : Nat) (h : Hp) : Lm sc pp 129 231 lv st cu su h = exS sc pp (Lm sc pp) 129 231 [(.lreturn, 1, [])] lv st cu su h := Lm_eq (by decide) (by rfl) lv st cu su h

def b64 (P : Prop) [Decidable P] : Int64 := if P then 1 else 0
def joinF (k : Nat) (l r : Int64) : Int64 := match k with
  | 15 => b64 (l ≠ 0 ∨ r ≠ 0)
  | 16 => b64 (l ≠ 0 ∧ r ≠ 0)
  | 28 => b64 (l < r)
  | 29 => b64 (l ≤ r)
  | 30 => b64 (l = r)
  | 31 => b64 (l ≠ r)
  | 32 => b64 (r ≤ l)
  | 33 => b64 (r < l)
  | 34 => l + r
  | 35 => l - r
  | _ => if r = 0 then -9223372036854775808 else l / r
theorem c_joined (k : Nat) (hk : k ∈ [15, 16, 28, 29, 30, 31, 32, 33, 34, 35, 37]) (l r : Int64) (h : Hp) : Lm sc pp 129 0 [some (.int (nI k)), some (.long l), none, some (.long r), none] [] 0 0 h = some (h, some (.long (joinF k l r))) := by
  simp only [List.mem_cons, List.not_mem_nil, or_false] at hk
  rcases hk with rfl | rfl | rfl | rfl | rfl | rfl | rfl | rfl | rfl | rfl | rfl
  · rw [L_129_0]
    simp only [x_iload_n0, x_table]
    rw [if_neg (by decide), show ([100, 118, 216, 216, 216, 216, 216, 216, 216, 216, 216, 216, 216, 136, 148, 160, 172, 184, 196, 208, 212] : List Nat).getD ((nI 15).toInt - 15).toNat 0 = 100 from by decide]
    simp only [x_nil, Nat.reduceAdd, x_iload_n0, x_table, x_lload_n1, x_lconst_0, x_lcmp, x_if_ne, x_lload_n3, x_if_eq, x_lconst_1, x_goto, x_lreturn, x_if_ge, x_if_gt, x_if_lt, x_if_le, x_ladd, x_lsub, x_ldc2_9223372036854775808, x_ldiv, L_129_100, L_129_106, L_129_112, L_129_116, L_129_117, L_129_118, L_129_124, L_129_130, L_129_134, L_129_135, L_129_136, L_129_142, L_129_146, L_129_147, L_129_148, L_129_154, L_129_158, L_129_159, L_129_160, L_129_166, L_129_170, L_129_171, L_129_172, L_129_178, L_129_182, L_129_183, L_129_184, L_129_190, L_129_194, L_129_195, L_129_196, L_129_202, L_129_206, L_129_207, L_129_208, L_129_212, L_129_216, L_129_222, L_129_228, L_129_231, lg_cmp_ge, lg_cmp_le, lg_cmp_gt, lg_cmp_lt, lg_cmp_eq, ne_eq, joinF, b64]
    by_cases h1 : l = 0 <;> by_cases h2 : r = 0 <;> simp [h1, h2]
  · rw [L_129_0]
    simp only [x_iload_n0, x_table]
    rw [if_neg (by decide), show ([100, 118, 216, 216, 216, 216, 216, 216, 216, 216, 216, 216, 216, 136, 148, 160, 172, 184, 196, 208, 212] : List Nat).getD ((nI 16).toInt - 15).toNat 0 = 118 from by decide]
    simp only [x_nil, Nat.reduceAdd, x_iload_n0, x_table, x_lload_n1, x_lconst_0, x_lcmp, x_if_ne, x_lload_n3, x_if_eq, x_lconst_1, x_goto, x_lreturn, x_if_ge, x_if_gt, x_if_lt, x_if_le, x_ladd, x_lsub, x_ldc2_9223372036854775808, x_ldiv, L_129_100, L_129_106, L_129_112, L_129_116, L_129_117, L_129_118, L_129_124, L_129_130, L_129_134, L_129_135, L_129_136, L_129_142, L_129_146, L_129_147, L_129_148, L_129_154, L_129_158, L_129_159, L_129_160, L_129_166, L_129_170, L_129_171, L_129_172, L_129_178, L_129_182, L_129_183, L_129_184, L_129_190, L_129_194, L_129_195, L_129_196, L_129_202, L_129_206, L_129_207, L_129_208, L_129_212, L_129_216, L_129_222, L_129_228, L_129_231, lg_cmp_ge, lg_cmp_le, lg_cmp_gt, lg_cmp_lt, lg_cmp_eq, ne_eq, joinF, b64]
    by_cases h1 : l = 0 <;> by_cases h2 : r = 0 <;> simp [h1, h2]
  · rw [L_129_0]
    simp only [x_iload_n0, x_table]
    rw [if_neg (by decide), show ([100, 118, 216, 216, 216, 216, 216, 216, 216, 216, 216, 216, 216, 136, 148, 160, 172, 184, 196, 208, 212] : List Nat).getD ((nI 28).toInt - 15).toNat 0 = 136 from by decide]
    simp only [x_nil, Nat.reduceAdd, x_iload_n0, x_table, x_lload_n1, x_lconst_0, x_lcmp, x_if_ne, x_lload_n3, x_if_eq, x_lconst_1, x_goto, x_lreturn, x_if_ge, x_if_gt, x_if_lt, x_if_le, x_ladd, x_lsub, x_ldc2_9223372036854775808, x_ldiv, L_129_100, L_129_106, L_129_112, L_129_116, L_129_117, L_129_118, L_129_124, L_129_130, L_129_134, L_129_135, L_129_136, L_129_142, L_129_146, L_129_147, L_129_148, L_129_154, L_129_158, L_129_159, L_129_160, L_129_166, L_129_170, L_129_171, L_129_172, L_129_178, L_129_182, L_129_183, L_129_184, L_129_190, L_129_194, L_129_195, L_129_196, L_129_202, L_129_206, L_129_207, L_129_208, L_129_212, L_129_216, L_129_222, L_129_228, L_129_231, lg_cmp_ge, lg_cmp_le, lg_cmp_gt, lg_cmp_lt, lg_cmp_eq, ne_eq, joinF, b64]
    by_cases h1 : l < r
    · simp only [h1, Int64.not_le.mpr h1, if_true, if_false]
    · simp only [h1, Int64.not_lt.mp h1, if_true, if_false]
  · rw [L_129_0]
    simp only [x_iload_n0, x_table]
    rw [if_neg (by decide), show ([100, 118, 216, 216, 216, 216, 216, 216, 216, 216, 216, 216, 216, 136, 148, 160, 172, 184, 196, 208, 212] : List Nat).getD ((nI 29).toInt - 15).toNat 0 = 148 from by decide]
    simp only [x_nil, Nat.reduceAdd, x_iload_n0, x_table, x_lload_n1, x_lconst_0, x_lcmp, x_if_ne, x_lload_n3, x_if_eq, x_lconst_1, x_goto, x_lreturn, x_if_ge, x_if_gt, x_if_lt, x_if_le, x_ladd, x_lsub, x_ldc2_9223372036854775808, x_ldiv, L_129_100, L_129_106, L_129_112, L_129_116, L_129_117, L_129_118, L_129_124, L_129_130, L_129_134, L_129_135, L_129_136, L_129_142, L_129_146, L_129_147, L_129_148, L_129_154, L_129_158, L_129_159, L_129_160, L_129_166, L_129_170, L_129_171, L_129_172, L_129_178, L_129_182, L_129_183, L_129_184, L_129_190, L_129_194, L_129_195, L_129_196, L_129_202, L_129_206, L_129_207, L_129_208, L_129_212, L_129_216, L_129_222, L_129_228, L_129_231, lg_cmp_ge, lg_cmp_le, lg_cmp_gt, lg_cmp_lt, lg_cmp_eq, ne_eq, joinF, b64]
    by_cases h1 : l ≤ r
    · simp only [h1, Int64.not_lt.mpr h1, if_true, if_false]
    · simp only [h1, Int64.not_le.mp h1, if_true, if_false]
  · rw [L_129_0]
    simp only [x_iload_n0, x_table]
    rw [if_neg (by decide), show ([100, 118, 216, 216, 216, 216, 216, 216, 216, 216, 216, 216, 216, 136, 148, 160, 172, 184, 196, 208, 212] : List Nat).getD ((nI 30).toInt - 15).toNat 0 = 160 from by decide]
    simp only [x_nil, Nat.reduceAdd, x_iload_n0, x_table, x_lload_n1, x_lconst_0, x_lcmp, x_if_ne, x_lload_n3, x_if_eq, x_lconst_1, x_goto, x_lreturn, x_if_ge, x_if_gt, x_if_lt, x_if_le, x_ladd, x_lsub, x_ldc2_9223372036854775808, x_ldiv, L_129_100, L_129_106, L_129_112, L_129_116, L_129_117, L_129_118, L_129_124, L_129_130, L_129_134, L_129_135, L_129_136, L_129_142, L_129_146, L_129_147, L_129_148, L_129_154, L_129_158, L_129_159, L_129_160, L_129_166, L_129_170, L_129_171, L_129_172, L_129_178, L_129_182, L_129_183, L_129_184, L_129_190, L_129_194, L_129_195, L_129_196, L_129_202, L_129_206, L_129_207, L_129_208, L_129_212, L_129_216, L_129_222, L_129_228, L_129_231, lg_cmp_ge, lg_cmp_le, lg_cmp_gt, lg_cmp_lt, lg_cmp_eq, ne_eq, joinF, b64]
    by_cases h1 : l = r <;> simp [h1]
  · rw [L_129_0]
    simp only [x_iload_n0, x_table]
    rw [if_neg (by decide), show ([100, 118, 216, 216, 216, 216, 216, 216, 216, 216, 216, 216, 216, 136, 148, 160, 172, 184, 196, 208, 212] : List Nat).getD ((nI 31).toInt - 15).toNat 0 = 172 from by decide]
    simp only [x_nil, Nat.reduceAdd, x_iload_n0, x_table, x_lload_n1, x_lconst_0, x_lcmp, x_if_ne, x_lload_n3, x_if_eq, x_lconst_1, x_goto, x_lreturn, x_if_ge, x_if_gt, x_if_lt, x_if_le, x_ladd, x_lsub, x_ldc2_9223372036854775808, x_ldiv, L_129_100, L_129_106, L_129_112, L_129_116, L_129_117, L_129_118, L_129_124, L_129_130, L_129_134, L_129_135, L_129_136, L_129_142, L_129_146, L_129_147, L_129_148, L_129_154, L_129_158, L_129_159, L_129_160, L_129_166, L_129_170, L_129_171, L_129_172, L_129_178, L_129_182, L_129_183, L_129_184, L_129_190, L_129_194, L_129_195, L_129_196, L_129_202, L_129_206, L_129_207, L_129_208, L_129_212, L_129_216, L_129_222, L_129_228, L_129_231, lg_cmp_ge, lg_cmp_le, lg_cmp_gt, lg_cmp_lt, lg_cmp_eq, ne_eq, joinF, b64]
    by_cases h1 : l = r <;> simp [h1]
  · rw [L_129_0]
    simp only [x_iload_n0, x_table]
    rw [if_neg (by decide), show ([100, 118, 216, 216, 216, 216, 216, 216, 216, 216, 216, 216, 216, 136, 148, 160, 172, 184, 196, 208, 212] : List Nat).getD ((nI 32).toInt - 15).toNat 0 = 184 from by decide]
    simp only [x_nil, Nat.reduceAdd, x_iload_n0, x_table, x_lload_n1, x_lconst_0, x_lcmp, x_if_ne, x_lload_n3, x_if_eq, x_lconst_1, x_goto, x_lreturn, x_if_ge, x_if_gt, x_if_lt, x_if_le, x_ladd, x_lsub, x_ldc2_9223372036854775808, x_ldiv, L_129_100, L_129_106, L_129_112, L_129_116, L_129_117, L_129_118, L_129_124, L_129_130, L_129_134, L_129_135, L_129_136, L_129_142, L_129_146, L_129_147, L_129_148, L_129_154, L_129_158, L_129_159, L_129_160, L_129_166, L_129_170, L_129_171, L_129_172, L_129_178, L_129_182, L_129_183, L_129_184, L_129_190, L_129_194, L_129_195, L_129_196, L_129_202, L_129_206, L_129_207, L_129_208, L_129_212, L_129_216, L_129_222, L_129_228, L_129_231, lg_cmp_ge, lg_cmp_le, lg_cmp_gt, lg_cmp_lt, lg_cmp_eq, ne_eq, joinF, b64]
    by_cases h1 : r ≤ l
    · simp only [h1, Int64.not_lt.mpr h1, if_true, if_false]
    · simp only [h1, Int64.not_le.mp h1, if_true, if_false]
  · rw [L_129_0]
    simp only [x_iload_n0, x_table]
    rw [if_neg (by decide), show ([100, 118, 216, 216, 216, 216, 216, 216, 216, 216, 216, 216, 216, 136, 148, 160, 172, 184, 196, 208, 212] : List Nat).getD ((nI 33).toInt - 15).toNat 0 = 196 from by decide]
    simp only [x_nil, Nat.reduceAdd, x_iload_n0, x_table, x_lload_n1, x_lconst_0, x_lcmp, x_if_ne, x_lload_n3, x_if_eq, x_lconst_1, x_goto, x_lreturn, x_if_ge, x_if_gt, x_if_lt, x_if_le, x_ladd, x_lsub, x_ldc2_9223372036854775808, x_ldiv, L_129_100, L_129_106, L_129_112, L_129_116, L_129_117, L_129_118, L_129_124, L_129_130, L_129_134, L_129_135, L_129_136, L_129_142, L_129_146, L_129_147, L_129_148, L_129_154, L_129_158, L_129_159, L_129_160, L_129_166, L_129_170, L_129_171, L_129_172, L_129_178, L_129_182, L_129_183, L_129_184, L_129_190, L_129_194, L_129_195, L_129_196, L_129_202, L_129_206, L_129_207, L_129_208, L_129_212, L_129_216, L_129_222, L_129_228, L_129_231, lg_cmp_ge, lg_cmp_le, lg_cmp_gt, lg_cmp_lt, lg_cmp_eq, ne_eq, joinF, b64]
    by_cases h1 : r < l
    · simp only [h1, Int64.not_le.mpr h1, if_true, if_false]
    · simp only [h1, Int64.not_lt.mp h1, if_true, if_false]
  · rw [L_129_0]
    simp only [x_iload_n0, x_table]
    rw [if_neg (by decide), show ([100, 118, 216, 216, 216, 216, 216, 216, 216, 216, 216, 216, 216, 136, 148, 160, 172, 184, 196, 208, 212] : List Nat).getD ((nI 34).toInt - 15).toNat 0 = 208 from by decide]
    simp only [x_nil, Nat.reduceAdd, x_iload_n0, x_table, x_lload_n1, x_lconst_0, x_lcmp, x_if_ne, x_lload_n3, x_if_eq, x_lconst_1, x_goto, x_lreturn, x_if_ge, x_if_gt, x_if_lt, x_if_le, x_ladd, x_lsub, x_ldc2_9223372036854775808, x_ldiv, L_129_100, L_129_106, L_129_112, L_129_116, L_129_117, L_129_118, L_129_124, L_129_130, L_129_134, L_129_135, L_129_136, L_129_142, L_129_146, L_129_147, L_129_148, L_129_154, L_129_158, L_129_159, L_129_160, L_129_166, L_129_170, L_129_171, L_129_172, L_129_178, L_129_182, L_129_183, L_129_184, L_129_190, L_129_194, L_129_195, L_129_196, L_129_202, L_129_206, L_129_207, L_129_208, L_129_212, L_129_216, L_129_222, L_129_228, L_129_231, lg_cmp_ge, lg_cmp_le, lg_cmp_gt, lg_cmp_lt, lg_cmp_eq, ne_eq, joinF, b64]
  · rw [L_129_0]
    simp only [x_iload_n0, x_table]
    rw [if_neg (by decide), show ([100, 118, 216, 216, 216, 216, 216, 216, 216, 216, 216, 216, 216, 136, 148, 160, 172, 184, 196, 208, 212] : List Nat).getD ((nI 35).toInt - 15).toNat 0 = 212 from by decide]
    simp only [x_nil, Nat.reduceAdd, x_iload_n0, x_table, x_lload_n1, x_lconst_0, x_lcmp, x_if_ne, x_lload_n3, x_if_eq, x_lconst_1, x_goto, x_lreturn, x_if_ge, x_if_gt, x_if_lt, x_if_le, x_ladd, x_lsub, x_ldc2_9223372036854775808, x_ldiv, L_129_100, L_129_106, L_129_112, L_129_116, L_129_117, L_129_118, L_129_124, L_129_130, L_129_134, L_129_135, L_129_136, L_129_142, L_129_146, L_129_147, L_129_148, L_129_154, L_129_158, L_129_159, L_129_160, L_129_166, L_129_170, L_129_171, L_129_172, L_129_178, L_129_182, L_129_183, L_129_184, L_129_190, L_129_194, L_129_195, L_129_196, L_129_202, L_129_206, L_129_207, L_129_208, L_129_212, L_129_216, L_129_222, L_129_228, L_129_231, lg_cmp_ge, lg_cmp_le, lg_cmp_gt, lg_cmp_lt, lg_cmp_eq, ne_eq, joinF, b64]
  · rw [L_129_0]
    simp only [x_iload_n0, x_table]
    rw [if_pos (by decide)]
    simp only [x_nil, Nat.reduceAdd, x_iload_n0, x_table, x_lload_n1, x_lconst_0, x_lcmp, x_if_ne, x_lload_n3, x_if_eq, x_lconst_1, x_goto, x_lreturn, x_if_ge, x_if_gt, x_if_lt, x_if_le, x_ladd, x_lsub, x_ldc2_9223372036854775808, x_ldiv, L_129_100, L_129_106, L_129_112, L_129_116, L_129_117, L_129_118, L_129_124, L_129_130, L_129_134, L_129_135, L_129_136, L_129_142, L_129_146, L_129_147, L_129_148, L_129_154, L_129_158, L_129_159, L_129_160, L_129_166, L_129_170, L_129_171, L_129_172, L_129_178, L_129_182, L_129_183, L_129_184, L_129_190, L_129_194, L_129_195, L_129_196, L_129_202, L_129_206, L_129_207, L_129_208, L_129_212, L_129_216, L_129_222, L_129_228, L_129_231, lg_cmp_ge, lg_cmp_le, lg_cmp_gt, lg_cmp_lt, lg_cmp_eq, ne_eq, joinF, b64]
    by_cases h1 : r = 0 <;> simp [h1]
def prodF (l r : Int64) : Int64 := if r = 0 then 0 else if 1000000000000 / (if r < 0 then -r else r) < l then -9223372036854775808 else if l < -(1000000000000 / (if r < 0 then -r else r)) then -9223372036854775808 else l * r
theorem c_product (l r : Int64) (h : Hp) : Lm sc pp 128 0 [some (.long l), none, some (.long r), none, none, none] [] 0 0 h = some (h, some (.long (prodF l r))) := by
  simp only [x_nil, Nat.reduceAdd, x_lload_n2, x_lconst_0, x_lcmp, x_if_ne, x_lreturn, x_ldc2_1000000000000, x_if_ge, x_lneg, x_goto, x_ldiv, x_lstore4, x_lload_n0, x_lload4, x_if_gt, x_ldc2_9223372036854775808, x_lmul, L_128_0, L_128_6, L_128_8, L_128_17, L_128_22, L_128_23, L_128_33, L_128_41, L_128_47, L_128_50, lg_cmp_ge, lg_cmp_le, lg_cmp_gt, lg_cmp_lt, lg_cmp_eq, ne_eq, prodF]
  by_cases h0 : r = 0
  · simp only [h0, not_true_eq_false, if_false, if_true]
  · have hm : ¬ -r = 0 := by
      intro q
      apply h0
      have := congrArg (fun z : Int64 => -z) q
      simpa using this
    by_cases h1 : 0 ≤ r
    · have h2 : ¬ r < 0 := Int64.not_lt.mpr h1
      simp only [h0, h1, h2, not_false_eq_true, if_true, if_false]
      by_cases c1 : 1000000000000 / r < l
      · simp only [c1, if_true]
      · simp only [c1, if_false]
        by_cases c2 : l < -(1000000000000 / r)
        · simp only [c2, if_true, Int64.not_le.mpr c2, if_false]
        · simp only [c2, if_false, Int64.not_lt.mp c2, if_true]
    · have h2 : r < 0 := Int64.not_le.mp h1
      simp only [h0, h1, h2, hm, not_false_eq_true, if_true, if_false]
      by_cases c1 : 1000000000000 / -r < l
      · simp only [c1, if_true]
      · simp only [c1, if_false]
        by_cases c2 : l < -(1000000000000 / -r)
        · simp only [c2, if_true, Int64.not_le.mpr c2, if_false]
        · simp only [c2, if_false, Int64.not_lt.mp c2, if_true]
/-- one can ask, nine apart -/
def allowP (rm kn : Nat → Int32) (missing leftOut sup : Int32) (one other q : Nat) : Prop := rm one = rm other ∧ ¬ nI q = leftOut ∧ (missing >>> (nI one &&& 31)) &&& 1 = 0 ∧ (missing >>> (nI other &&& 31)) &&& 1 = 0 ∧ sup &&& (kn one ^^^ (-1)) = 0
theorem c_allows (u c s one other q : Nat) (h : Hp) (hU : isU h u) (hR : hR h u 2 = c + 1) (hC : isC h c) (hs : isS h s) (h1 : one < 5) (h2 : other < 5) (hq : q < 8) : Lm sc pp 120 0 [some (.ref u), some (.ref s), some (.int (nI one)), some (.int (nI other)), some (.int (nI q))] [] 0 0 h = some (h, some (.int (@ite _ (allowP (hI h (s + 2)) (hI h (s + 1)) (hI h u 4) (hI h u 5) (supF (hI h (c + 11) q) (hI h (c + 12) q) (hI h (c + 13) q)) one other q) (Classical.propDecidable _) 1 0))) := by
  have hc1 := nI_clamp (show one < 2 ^ 31 by omega)
  have hc2 := nI_clamp (show other < 2 ^ 31 by omega)
  have z1 : ¬ nI one < 0 := nI_pos (by omega)
  have z2 : ¬ nI other < 0 := nI_pos (by omega)
  have y1 : ¬ 5 ≤ one := by omega
  have y2 : ¬ 5 ≤ other := by omega
  simp only [x_nil, Nat.reduceAdd, x_aload_n1, x_getR, x_iload_n2, x_iald, x_iload_n3, x_icmp_ne, x_iload4, x_aload_n0, x_getI, x_icmp_eq, x_ishr, x_iconst_1, x_iand, x_if_ne, K_119, bindR_some, toL_s, toL_n, ap_n, ap_c, List.map_nil, List.map_cons, List.sum_nil, List.sum_cons, cat_i, cat_r, cat_l, Nat.reduceLeDiff, Nat.zero_le, Nat.le_refl, x_iconst_m1, x_ixor, x_goto, x_iconst_0, x_zreturn, L_120_0, L_120_15, L_120_24, L_120_35, L_120_46, L_120_55, L_120_67, L_120_71, L_120_72, U_k0 hU, hR, C_k0 hC, S_k0 hs, S_k1 hs, S_k2 hs, S_k3 hs, S_k4 hs, S_n1 hs, S_n2 hs, S_n3 hs, S_n4 hs, S_r0_0 hs, S_r0_1 hs, S_r0_2 hs, S_r0_3 hs, z1, z2, y1, y2, hc1, hc2, c_supposed c q h hC hq, if_true, ne_eq, not_false_eq_true, and_self, or_self, true_or, or_true, show (120 : Nat) ≠ 277 from by decide]
  unfold allowP
  by_cases a1 : hI h (s + 2) one = hI h (s + 2) other
  · by_cases a2 : nI q = hI h u 5
    · simp [a1, a2]
    · by_cases a3 : (hI h u 4 >>> (nI one &&& 31)) &&& 1 = 0
      · by_cases a4 : (hI h u 4 >>> (nI other &&& 31)) &&& 1 = 0
        · by_cases a5 : supF (hI h (c + 11) q) (hI h (c + 12) q) (hI h (c + 13) q) &&& (hI h (s + 1) one ^^^ (-1)) = 0
          · simp only [a1, a2, a3, a4, a5, not_true_eq_false, not_false_eq_true, if_true, if_false, and_self]
          · simp only [a1, a2, a3, a4, a5, not_true_eq_false, not_false_eq_true, if_true, if_false, and_false]
        · simp [a1, a2, a3, a4]
      · simp [a1, a2, a3]
  · simp [a1]
/-- one can ask today -/
theorem c_allowsToday (u c s one other q : Nat) (h : Hp) (hU : isU h u) (hR : hR h u 2 = c + 1) (hC : isC h c) (hs : isS h s) (h1 : one < 5) (h2 : other < 5) (hq : q < 8) : Lm sc pp 121 0 [some (.ref u), some (.ref s), some (.int (nI one)), some (.int (nI other)), some (.int (nI q))] [] 0 0 h = some (h, some (.int (@ite _ (hI h (s + 4) one < hI h c 17 ∧ allowP (hI h (s + 2)) (hI h (s + 1)) (hI h u 4) (hI h u 5) (supF (hI h (c + 11) q) (hI h (c + 12) q) (hI h (c + 13) q)) one other q) (Classical.propDecidable _) 1 0))) := by
  have hc1 := nI_clamp (show one < 2 ^ 31 by omega)
  have z1 : ¬ nI one < 0 := nI_pos (by omega)
  have y1 : ¬ 5 ≤ one := by omega
  simp only [x_nil, Nat.reduceAdd, x_aload_n1, x_getR, x_iload_n2, x_iald, x_aload_n0, x_getI, x_icmp_ge, x_iload_n3, x_iload4, K_120, bindR_some, toL_s, toL_n, ap_n, ap_c, List.map_nil, List.map_cons, List.sum_nil, List.sum_cons, cat_i, cat_r, cat_l, Nat.reduceLeDiff, Nat.zero_le, Nat.le_refl, x_if_eq, x_iconst_1, x_goto, x_iconst_0, x_zreturn, L_121_0, L_121_16, L_121_25, L_121_28, L_121_32, L_121_33, U_k0 hU, hR, C_k0 hC, S_k0 hs, S_k1 hs, S_k2 hs, S_k3 hs, S_k4 hs, S_n1 hs, S_n2 hs, S_n3 hs, S_n4 hs, S_r0_0 hs, S_r0_1 hs, S_r0_2 hs, S_r0_3 hs, z1, y1, hc1, c_allows u c s one other q h hU hR hC hs h1 h2 hq, if_true, ne_eq, not_false_eq_true, and_self, or_self, true_or, or_true, show (121 : Nat) ≠ 277 from by decide]
  by_cases a1 : hI h (s + 4) one < hI h c 17
  · simp only [a1, Int32.not_le.mpr a1, if_false, true_and]
    by_cases a2 : allowP (hI h (s + 2)) (hI h (s + 1)) (hI h u 4) (hI h u 5) (supF (hI h (c + 11) q) (hI h (c + 12) q) (hI h (c + 13) q)) one other q
    · simp [a1, a2]
    · simp [a1, a2]
  · simp only [a1, Int32.not_lt.mp a1, if_true, false_and, if_false]
end T21
