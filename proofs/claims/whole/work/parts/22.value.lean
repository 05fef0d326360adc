-- E of a law, worked out
section T22
variable {sc : Nat × (Nat → Int32)} {pp : Nat → Nat → Int32 → Int32 → Hp → Option (Hp × Int32)}
theorem L_52_0 (lv : Lv) (st : List Value) (cu su : Nat) (h : Hp) : Lm sc pp 52 0 lv st cu su h = exS sc pp (Lm sc pp) 52 0 [(.iload_n 0, 1, []), (.bipush 18, 2, []), (.if_icmp .lt 13, 3, [16])] lv st cu su h := Lm_eq (by decide) (by rfl) lv st cu su h
theorem L_52_6 (lv : Lv) (st : List Value) (cu su : Nat) (h : Hp) : Lm sc pp 52 6 lv st cu su h = exS sc pp (Lm sc pp) 52 6 [(.iload_n 0, 1, []), (.bipush 24, 2, []), (.if_icmp .gt 7, 3, [16])] lv st cu su h := Lm_eq (by decide) (by rfl) lv st cu su h
theorem L_52_12 (lv : Lv) (st : List Value) (cu su : Nat) (h : Hp) : Lm sc pp 52 12 lv st cu su h = exS sc pp (Lm sc pp) 52 12 [(.iconst 1, 1, []), (.goto 4, 3, [17])] lv st cu su h := Lm_eq (by decide) (by rfl) lv st cu su h
theorem L_52_16 (lv : Lv) (st : List Value) (cu su : Nat) (h : Hp) : Lm sc pp 52 16 lv st cu su h = exS sc pp (Lm sc pp) 52 16 [(.iconst 0, 1, [])] lv st cu su h := Lm_eq (by decide) (by rfl) lv st cu su h
theorem L_52_17 (lv : Lv) (st : List Value) (cu su : Nat) (h : Hp) : Lm sc pp 52 17 lv st cu su h = exS sc pp (Lm sc pp) 52 17 [(.ireturn, 1, [3])] lv st cu su h := Lm_eq (by decide) (by rfl) lv st cu su h
theorem L_130_0 (lv : Lv) (st : List Value) (cu su : Nat) (h : Hp) : Lm sc pp 130 0 lv st cu su h = exS sc pp (Lm sc pp) 130 0 [(.iconst 0, 1, []), (.istore_n 3, 1, []), (.iconst 0, 1, []), (.istore 4, 2, [])] lv st cu su h := Lm_eq (by decide) (by rfl) lv st cu su h
theorem L_130_5 (lv : Lv) (st : List Value) (cu su : Nat) (h : Hp) : Lm sc pp 130 5 lv st cu su h = exS sc pp (Lm sc pp) 130 5 [(.iload 4, 2, []), (.aload_n 0, 1, []), (.getfield 18, 3, [2, 2, 0, 348, 0]), (.if_icmp .ge 198, 3, [209])] lv st cu su h := Lm_eq (by decide) (by rfl) lv st cu su h
theorem L_130_14 (lv : Lv) (st : List Value) (cu su : Nat) (h : Hp) : Lm sc pp 130 14 lv st cu su h = exS sc pp (Lm sc pp) 130 14 [(.aload_n 0, 1, []), (.getfield 9, 3, [2, 0, 2, 346, 0]), (.iload 4, 2, []), (.iaload, 1, []), (.istore 5, 2, []), (.iload 5, 2, []), (.bipush 26, 2, []), (.if_icmp .eq 11, 3, [38])] lv st cu su h := Lm_eq (by decide) (by rfl) lv st cu su h
theorem L_130_30 (lv : Lv) (st : List Value) (cu su : Nat) (h : Hp) : Lm sc pp 130 30 lv st cu su h = exS sc pp (Lm sc pp) 130 30 [(.iload 5, 2, []), (.invokestatic 28, 3, [52, 1, 964, 0, 1, 0, 0, 0, 0, 10])] lv st cu su h := Lm_eq (by decide) (by rfl) lv st cu su h
theorem L_130_35 (lv : Lv) (st : List Value) (cu su : Nat) (h : Hp) : Lm sc pp 130 35 lv st cu su h = exS sc pp (Lm sc pp) 130 35 [(.ifCond .eq 48, 3, [83])] lv st cu su h := Lm_eq (by decide) (by rfl) lv st cu su h
theorem L_130_38 (lv : Lv) (st : List Value) (cu su : Nat) (h : Hp) : Lm sc pp 130 38 lv st cu su h = exS sc pp (Lm sc pp) 130 38 [(.iload_n 3, 1, []), (.aload_n 2, 1, []), (.arraylength, 1, []), (.if_icmp .lt 7, 3, [48])] lv st cu su h := Lm_eq (by decide) (by rfl) lv st cu su h
theorem L_130_44 (lv : Lv) (st : List Value) (cu su : Nat) (h : Hp) : Lm sc pp 130 44 lv st cu su h = exS sc pp (Lm sc pp) 130 44 [(.ldc2_w 32, 3, [9223372036854775808, 965]), (.lreturn, 1, [])] lv st cu su h := Lm_eq (by decide) (by rfl) lv st cu su h
theorem L_130_48 (lv : Lv) (st : List Value) (cu su : Nat) (h : Hp) : Lm sc pp 130 48 lv st cu su h = exS sc pp (Lm sc pp) 130 48 [(.aload_n 2, 1, []), (.iload_n 3, 1, []), (.iload 5, 2, []), (.bipush 26, 2, []), (.if_icmp .ne 14, 3, [68])] lv st cu su h := Lm_eq (by decide) (by rfl) lv st cu su h
theorem L_130_57 (lv : Lv) (st : List Value) (cu su : Nat) (h : Hp) : Lm sc pp 130 57 lv st cu su h = exS sc pp (Lm sc pp) 130 57 [(.aload_n 0, 1, []), (.getfield 15, 3, [2, 1, 2, 347, 0]), (.iload 4, 2, []), (.iaload, 1, []), (.i2l, 1, []), (.goto 11, 3, [76])] lv st cu su h := Lm_eq (by decide) (by rfl) lv st cu su h
theorem L_130_68 (lv : Lv) (st : List Value) (cu su : Nat) (h : Hp) : Lm sc pp 130 68 lv st cu su h = exS sc pp (Lm sc pp) 130 68 [(.aload_n 1, 1, []), (.iload 5, 2, []), (.bipush 18, 2, []), (.isub, 1, []), (.iaload, 1, []), (.i2l, 1, [])] lv st cu su h := Lm_eq (by decide) (by rfl) lv st cu su h
theorem L_130_76 (lv : Lv) (st : List Value) (cu su : Nat) (h : Hp) : Lm sc pp 130 76 lv st cu su h = exS sc pp (Lm sc pp) 130 76 [(.lastore, 1, []), (.iinc 3 1, 3, []), (.goto 123, 3, [203])] lv st cu su h := Lm_eq (by decide) (by rfl) lv st cu su h
theorem L_130_83 (lv : Lv) (st : List Value) (cu su : Nat) (h : Hp) : Lm sc pp 130 83 lv st cu su h = exS sc pp (Lm sc pp) 130 83 [(.iload 5, 2, []), (.bipush 17, 2, []), (.if_icmp .ne 35, 3, [122])] lv st cu su h := Lm_eq (by decide) (by rfl) lv st cu su h
theorem L_130_90 (lv : Lv) (st : List Value) (cu su : Nat) (h : Hp) : Lm sc pp 130 90 lv st cu su h = exS sc pp (Lm sc pp) 130 90 [(.iload_n 3, 1, []), (.iconst 1, 1, []), (.if_icmp .ge 7, 3, [99])] lv st cu su h := Lm_eq (by decide) (by rfl) lv st cu su h
theorem L_130_95 (lv : Lv) (st : List Value) (cu su : Nat) (h : Hp) : Lm sc pp 130 95 lv st cu su h = exS sc pp (Lm sc pp) 130 95 [(.ldc2_w 32, 3, [9223372036854775808, 965]), (.lreturn, 1, [])] lv st cu su h := Lm_eq (by decide) (by rfl) lv st cu su h
theorem L_130_99 (lv : Lv) (st : List Value) (cu su : Nat) (h : Hp) : Lm sc pp 130 99 lv st cu su h = exS sc pp (Lm sc pp) 130 99 [(.aload_n 2, 1, []), (.iload_n 3, 1, []), (.iconst 1, 1, []), (.isub, 1, []), (.aload_n 2, 1, []), (.iload_n 3, 1, []), (.iconst 1, 1, []), (.isub, 1, []), (.laload, 1, []), (.lconst 0, 1, []), (.lcmp, 1, []), (.ifCond .ne 7, 3, [117])] lv st cu su h := Lm_eq (by decide) (by rfl) lv st cu su h
theorem L_130_113 (lv : Lv) (st : List Value) (cu su : Nat) (h : Hp) : Lm sc pp 130 113 lv st cu su h = exS sc pp (Lm sc pp) 130 113 [(.lconst 1, 1, []), (.goto 4, 3, [118])] lv st cu su h := Lm_eq (by decide) (by rfl) lv st cu su h
theorem L_130_117 (lv : Lv) (st : List Value) (cu su : Nat) (h : Hp) : Lm sc pp 130 117 lv st cu su h = exS sc pp (Lm sc pp) 130 117 [(.lconst 0, 1, [])] lv st cu su h := Lm_eq (by decide) (by rfl) lv st cu su h
theorem L_130_118 (lv : Lv) (st : List Value) (cu su : Nat) (h : Hp) : Lm sc pp 130 118 lv st cu su h = exS sc pp (Lm sc pp) 130 118 [(.lastore, 1, []), (.goto 84, 3, [203])] lv st cu su h := Lm_eq (by decide) (by rfl) lv st cu su h
theorem L_130_122 (lv : Lv) (st : List Value) (cu su : Nat) (h : Hp) : Lm sc pp 130 122 lv st cu su h = exS sc pp (Lm sc pp) 130 122 [(.iload_n 3, 1, []), (.iconst 2, 1, []), (.if_icmp .ge 7, 3, [131])] lv st cu su h := Lm_eq (by decide) (by rfl) lv st cu su h
theorem L_130_127 (lv : Lv) (st : List Value) (cu su : Nat) (h : Hp) : Lm sc pp 130 127 lv st cu su h = exS sc pp (Lm sc pp) 130 127 [(.ldc2_w 32, 3, [9223372036854775808, 965]), (.lreturn, 1, [])] lv st cu su h := Lm_eq (by decide) (by rfl) lv st cu su h
theorem L_130_131 (lv : Lv) (st : List Value) (cu su : Nat) (h : Hp) : Lm sc pp 130 131 lv st cu su h = exS sc pp (Lm sc pp) 130 131 [(.iinc 3 (-1), 3, []), (.aload_n 2, 1, []), (.iload_n 3, 1, []), (.iconst 1, 1, []), (.isub, 1, []), (.laload, 1, []), (.lstore 6, 2, []), (.aload_n 2, 1, []), (.iload_n 3, 1, []), (.laload, 1, []), (.lstore 8, 2, []), (.iload 5, 2, []), (.bipush 36, 2, []), (.if_icmp .ne 13, 3, [163])] lv st cu su h := Lm_eq (by decide) (by rfl) lv st cu su h
theorem L_130_153 (lv : Lv) (st : List Value) (cu su : Nat) (h : Hp) : Lm sc pp 130 153 lv st cu su h = exS sc pp (Lm sc pp) 130 153 [(.lload 6, 2, []), (.lload 8, 2, []), (.invokestatic 34, 3, [128, 2, 966, 0, 6, 0, 0, 0, 0, 2])] lv st cu su h := Lm_eq (by decide) (by rfl) lv st cu su h
theorem L_130_160 (lv : Lv) (st : List Value) (cu su : Nat) (h : Hp) : Lm sc pp 130 160 lv st cu su h = exS sc pp (Lm sc pp) 130 160 [(.goto 12, 3, [172])] lv st cu su h := Lm_eq (by decide) (by rfl) lv st cu su h
theorem L_130_163 (lv : Lv) (st : List Value) (cu su : Nat) (h : Hp) : Lm sc pp 130 163 lv st cu su h = exS sc pp (Lm sc pp) 130 163 [(.iload 5, 2, []), (.lload 6, 2, []), (.lload 8, 2, []), (.invokestatic 38, 3, [129, 3, 970, 0, 5, 0, 0, 0, 0, 2])] lv st cu su h := Lm_eq (by decide) (by rfl) lv st cu su h
theorem L_130_172 (lv : Lv) (st : List Value) (cu su : Nat) (h : Hp) : Lm sc pp 130 172 lv st cu su h = exS sc pp (Lm sc pp) 130 172 [(.lstore 10, 2, []), (.lload 10, 2, []), (.ldc2_w 42, 3, [1000000000000, 969]), (.lcmp, 1, []), (.ifCond .gt 12, 3, [192])] lv st cu su h := Lm_eq (by decide) (by rfl) lv st cu su h
theorem L_130_183 (lv : Lv) (st : List Value) (cu su : Nat) (h : Hp) : Lm sc pp 130 183 lv st cu su h = exS sc pp (Lm sc pp) 130 183 [(.lload 10, 2, []), (.ldc2_w 44, 3, [18446743073709551616, 973]), (.lcmp, 1, []), (.ifCond .ge 7, 3, [196])] lv st cu su h := Lm_eq (by decide) (by rfl) lv st cu su h
theorem L_130_192 (lv : Lv) (st : List Value) (cu su : Nat) (h : Hp) : Lm sc pp 130 192 lv st cu su h = exS sc pp (Lm sc pp) 130 192 [(.ldc2_w 32, 3, [9223372036854775808, 965]), (.lreturn, 1, [])] lv st cu su h := Lm_eq (by decide) (by rfl) lv st cu su h
theorem L_130_196 (lv : Lv) (st : List Value) (cu su : Nat) (h : Hp) : Lm sc pp 130 196 lv st cu su h = exS sc pp (Lm sc pp) 130 196 [(.aload_n 2, 1, []), (.iload_n 3, 1, []), (.iconst 1, 1, []), (.isub, 1, []), (.lload 10, 2, []), (.lastore, 1, [])] lv st cu su h := Lm_eq (by decide) (by rfl) lv st cu su h
theorem L_130_203 (lv : Lv) (st : List Value) (cu su : Nat) (h : Hp) : Lm sc pp 130 203 lv st cu su h = exS sc pp (Lm sc pp) 130 203 [(.iinc 4 1, 3, []), (.goto (-201), 3, [5])] lv st cu su h := Lm_eq (by decide) (by rfl) lv st cu su h
theorem L_130_209 (lv : Lv) (st : List Value) (cu su : Nat) (h : Hp) : Lm sc pp 130 209 lv st cu su h = exS sc pp (Lm sc pp) 130 209 [(.iload_n 3, 1, []), (.iconst 1, 1, []), (.if_icmp .ne 9, 3, [220])] lv st cu su h := Lm_eq (by decide) (by rfl) lv st cu su h
theorem L_130_214 (lv : Lv) (st : List Value) (cu su : Nat) (h : Hp) : Lm sc pp 130 214 lv st cu su h = exS sc pp (Lm sc pp) 130 214 [(.aload_n 2, 1, []), (.iconst 0, 1, []), (.laload, 1, []), (.goto 6, 3, [223])] lv st cu su h := Lm_eq (by decide) (by rfl) lv st cu su h
theorem L_130_220 (lv : Lv) (st : List Value) (cu su : Nat) (h : Hp) : Lm sc pp 130 220 lv st cu su h = exS sc pp (Lm sc pp) 130 220 [(.ldc2_w 32, 3, [9223372036854775808, 965])] lv st cu su h := Lm_eq (by decide) (by rfl) lv st cu su h
theorem L_130_223 (lv : Lv) (st : List Value) (cu su : Nat) (h : Hp) : Lm sc pp 130 223 lv st cu su h = exS sc pp (Lm sc pp) 130 223 [(.lreturn, 1, [])] lv st cu su h := Lm_eq (by decide) (by rfl) lv st cu su h

theorem c_isLawName (k : Nat) (hk : k < 64) (h : Hp) : Lm sc pp 52 0 [some (.int (nI k))] [] 0 0 h = some (h, some (.int (if 18 ≤ k ∧ k ≤ 24 then 1 else 0))) := by
  have e1 : nI k < 18 ↔ k < 18 := nI_ltI (by omega) (by decide)
  have e2 : (24 : Int32) < nI k ↔ 24 < k := nI_ltI (by decide) (by omega)
  simp only [x_nil, Nat.reduceAdd, x_iload_n0, x_bipush_18, x_icmp_lt, x_bipush_24, x_icmp_gt, x_iconst_1, x_goto, x_iconst_0, x_zreturn, L_52_0, L_52_6, L_52_12, L_52_16, L_52_17, e1, e2, if_true, true_or, or_true]
  by_cases a : k < 18 <;> by_cases b : 24 < k <;> simp [a, b] <;> omega
def lwStep (k : Nat) (num : Int32) (nm : Nat → Int32) (st : List Int64) : Option (List Int64) :=
  if k = 26 then some (num.toInt64 :: st)
  else if 18 ≤ k ∧ k ≤ 24 then some ((nm (k - 18)).toInt64 :: st)
  else if k = 17 then (match st with
    | x :: t => some ((if x = 0 then 1 else 0) :: t)
    | [] => none)
  else (match st with
    | r :: l :: t => if 1000000000000 < (if k = 36 then prodF l r else joinF k l r) ∨ (if k = 36 then prodF l r else joinF k l r) < -1000000000000 then none else some ((if k = 36 then prodF l r else joinF k l r) :: t)
    | _ => none)
def lwRun (cd : Nat → Nat) (nums nm : Nat → Int32) : Nat → Nat → List Int64 → Option (List Int64)
  | 0, _, st => some st
  | m + 1, i, st => match lwStep (cd i) (nums i) nm st with
    | none => none
    | some st' => lwRun cd nums nm m (i + 1) st'
def lwEnd (r : Option (List Int64)) : Int64 := match r with
  | some [v] => v
  | _ => -9223372036854775808
def stRel (st : List Int64) (J : Nat → Int64) : Prop := ∀ j, j < st.length → J j = st.getD (st.length - 1 - j) 0
theorem stRel.push {st : List Int64} {h : Hp} {K : Nat} {v : Int64} (a : stRel st (hJ h K)) : stRel (v :: st) (hJ (sJ h K st.length v) K) := by
  intro j hj
  show up2 (hJ h) K st.length v K j = _
  simp only [List.length_cons] at hj
  by_cases e : j = st.length
  · subst e; simp [up2]
  · rw [up2_nj e, a j (by omega)]
    simp only [List.length_cons]
    rw [show st.length + 1 - 1 - j = (st.length - 1 - j) + 1 by omega, List.getD_cons_succ]
theorem stRel.pop {st : List Int64} {x : Int64} {J : Nat → Int64} (a : stRel (x :: st) J) : stRel st J ∧ J st.length = x := by
  refine ⟨fun j hj => ?_, ?_⟩
  · have := a j (by simp; omega)
    simp only [List.length_cons] at this
    rw [this, show st.length + 1 - 1 - j = (st.length - 1 - j) + 1 by omega, List.getD_cons_succ]
  · have := a st.length (by simp)
    simp only [List.length_cons] at this
    rw [this, show st.length + 1 - 1 - st.length = 0 by omega]
    rfl
theorem Fr_sJ {h : Hp} {a j : Nat} {v : Int64} {L : List Nat} (ha : a ∈ L) : Fr h (sJ h a j v) L := ⟨rfl, rfl, rfl, rfl, fun k hk => ⟨rfl, up2_ne (fun q => hk (q ▸ ha))⟩⟩
theorem ofNat_nI (n : Nat) : Int32.ofNat n = nI n := rfl
theorem kd_sJ {h : Hp} {a j k : Nat} {v : Int64} : kd (sJ h a j v) k = kd h k := rfl
theorem hN_sJ {h : Hp} {a j : Nat} {v : Int64} : hN (sJ h a j v) = hN h := rfl
theorem hI_sJ {h : Hp} {a j : Nat} {v : Int64} : hI (sJ h a j v) = hI h := rfl
theorem hR_sJ {h : Hp} {a j : Nat} {v : Int64} : hR (sJ h a j v) = hR h := rfl
theorem ofIntm1 : Int32.ofInt (-1) = -1 := rfl
theorem c_value_end (a N K d i : Nat) (o5 o6 o7 o8 o9 o10 o11 : Option Value) (h : Hp) (st : List Int64) (hK : kd h K = 14) (hKn : hN h K = 64) (hd : st.length = d) (hd64 : d ≤ 64) (hr : stRel st (hJ h K)) : Lm sc pp 130 209 [some (.ref a), some (.ref N), some (.ref K), some (.int (nI d)), some (.int (nI i)), o5, o6, o7, o8, o9, o10, o11] [] 0 0 h = some (h, some (.long (lwEnd (some st)))) := by
  have e1 : nI d = 1 ↔ d = 1 := nI_eq (by omega) (by decide)
  rw [L_130_209]
  simp only [x_nil, Nat.reduceAdd, x_iconst_0, x_istore_n3, x_istore4, x_iload4, x_aload_n0, x_getI, x_icmp_ge, x_getR, x_iald, x_istore5, x_iload5, x_bipush_26, x_icmp_eq, K_52, bindR_some, toL_s, toL_n, ap_n, ap_c, List.map_nil, List.map_cons, List.sum_nil, List.sum_cons, cat_i, cat_r, cat_l, Nat.reduceLeDiff, Nat.zero_le, Nat.le_refl, x_if_eq, x_iload_n3, x_aload_n2, x_alen, x_icmp_lt, x_ldc2_9223372036854775808, x_lreturn, x_icmp_ne, x_i2l, x_goto, x_aload_n1, x_bipush_18, x_isub, x_last, x_iinc3, x_bipush_17, x_iconst_1, x_lald, x_lconst_0, x_lcmp, x_if_ne, x_lconst_1, x_iconst_2, x_lstore6, x_lstore8, x_bipush_36, x_lload6, x_lload8, K_128, K_129, x_lstore10, x_lload10, x_ldc2_1000000000000, x_if_gt, x_ldc2_18446743073709551616, x_if_ge, x_iinc4, L_130_0, L_130_30, L_130_35, L_130_38, L_130_44, L_130_48, L_130_57, L_130_68, L_130_76, L_130_83, L_130_90, L_130_95, L_130_99, L_130_113, L_130_117, L_130_118, L_130_122, L_130_127, L_130_131, L_130_153, L_130_160, L_130_163, L_130_172, L_130_183, L_130_192, L_130_196, L_130_203, L_130_214, L_130_220, L_130_223, hK, hKn, e1, ne_eq, show ¬ (0 : Int32) < 0 from by decide, show (0 : Int32).toNatClampNeg = 0 from by decide, show ¬ 64 ≤ 0 from by decide, or_self, not_false_eq_true, and_self, if_true]
  match st, hd with
  | [], hd => simp at hd; subst hd; simp [lwEnd]
  | [v], hd =>
    simp at hd; subst hd
    have := hr.pop.2
    simp at this
    simp [lwEnd, this]
  | _ :: _ :: _, hd => simp at hd; simp [lwEnd]; omega
theorem c_value_loop (a N K : Nat) (nm : Nat → Int32) (cd : Nat → Nat) (n : Nat) (hn64 : n ≤ 64) (hNK : N ≠ K) (haK : a ≠ K ∧ a + 1 ≠ K ∧ a + 2 ≠ K) : ∀ (m i d : Nat) (st : List Int64) (o5 o6 o7 o8 o9 o10 o11 : Option Value) (h : Hp), i + m = n → isA h a → kd h N = 13 → hN h N = 7 → kd h K = 14 → hN h K = 64 → hI h a 2 = nI n → (∀ j, j < n → hI h (a + 1) j = nI (cd j) ∧ (cd j = 26 ∨ (18 ≤ cd j ∧ cd j ≤ 24) ∨ cd j = 17 ∨ cd j = 36 ∨ cd j ∈ [15, 16, 28, 29, 30, 31, 32, 33, 34, 35, 37])) → (∀ j, j < 7 → hI h N j = nm j) → st.length = d → d ≤ i → stRel st (hJ h K) → ∃ h', Lm sc pp 130 5 [some (.ref a), some (.ref N), some (.ref K), some (.int (nI d)), some (.int (nI i)), o5, o6, o7, o8, o9, o10, o11] [] 0 0 h = some (h', some (.long (lwEnd (lwRun cd (hI h (a + 2)) nm m i st)))) ∧ Fr h h' [K] := by
  intro m
  induction m with
  | zero =>
    intro i d st o5 o6 o7 o8 o9 o10 o11 h hi ha hN1 hN2 hK1 hK2 hn hcd hnm hd hdi hr
    have : i = n := by omega
    subst this
    refine ⟨h, ?_, Fr.refl _ _⟩
    rw [L_130_5]
    simp only [x_nil, Nat.reduceAdd, x_iload4, x_aload_n0, x_getI, x_icmp_ge, A_k0 ha, hn, if_true, nI_self (show i < 2 ^ 31 by omega)]
    exact c_value_end a N K d i o5 o6 o7 o8 o9 o10 o11 h st hK1 hK2 hd (by omega) hr
  | succ m ih =>
    intro i d st o5 o6 o7 o8 o9 o10 o11 h hi ha hN1 hN2 hK1 hK2 hn hcd hnm hd hdi hr
    have hci := nI_clamp (show i < 2 ^ 31 by omega)
    have hcdd := nI_clamp (show d < 2 ^ 31 by omega)
    have zi : ¬ nI i < 0 := nI_pos (by omega)
    have yi : ¬ 64 ≤ i := by omega
    have zd : ¬ nI d < 0 := nI_pos (by omega)
    have yd : ¬ 64 ≤ d := by omega
    have zc : ¬ nI n ≤ nI i := nI_ge (by omega) (by omega)
    have zl : nI d < nI 64 := nI_lt (by omega) (by decide)
    obtain ⟨hc1, hc2⟩ := hcd i (by omega)
    have hm : (130 : Nat) ≠ 277 := by decide
    have e26 : nI (cd i) = 26 ↔ cd i = 26 := nI_eq (by rcases hc2 with q | q | q | q | q <;> first | omega | (simp at q; omega)) (by decide)
    have c64 : cd i < 64 := by rcases hc2 with q | q | q | q | q <;> first | omega | (simp at q; omega)
    by_cases k26 : cd i = 26
    · obtain ⟨h', e, f⟩ := ih (i + 1) (d + 1) ((hI h (a + 2) i).toInt64 :: st) (some (.int 26)) o6 o7 o8 o9 o10 o11 (sJ h K d (hI h (a + 2) i).toInt64) (by omega) (ha.move (Fr_sJ (L := [K]) (by simp))) hN1 hN2 hK1 hK2 hn hcd hnm (by simp [hd]) (by omega) (by rw [← hd]; exact hr.push)
      refine ⟨h', ?_, (Fr_sJ (L := [K]) (by simp)).trans f⟩
      rw [L_130_5]
      simp only [x_nil, Nat.reduceAdd, x_iconst_0, x_istore_n3, x_istore4, x_iload4, x_aload_n0, x_getI, x_icmp_ge, x_getR, x_iald, x_istore5, x_iload5, x_bipush_26, x_icmp_eq, K_52, bindR_some, toL_s, toL_n, ap_n, ap_c, List.map_nil, List.map_cons, List.sum_nil, List.sum_cons, cat_i, cat_r, cat_l, Nat.reduceLeDiff, Nat.zero_le, Nat.le_refl, x_if_eq, x_iload_n3, x_aload_n2, x_alen, x_icmp_lt, x_ldc2_9223372036854775808, x_lreturn, x_icmp_ne, x_i2l, x_goto, x_aload_n1, x_bipush_18, x_isub, x_last, x_iinc3, x_bipush_17, x_iconst_1, x_lald, x_lconst_0, x_lcmp, x_if_ne, x_lconst_1, x_iconst_2, x_lstore6, x_lstore8, x_bipush_36, x_lload6, x_lload8, K_128, K_129, x_lstore10, x_lload10, x_ldc2_1000000000000, x_if_gt, x_ldc2_18446743073709551616, x_if_ge, x_iinc4, L_130_0, L_130_14, L_130_30, L_130_35, L_130_38, L_130_44, L_130_48, L_130_57, L_130_68, L_130_76, L_130_83, L_130_90, L_130_95, L_130_99, L_130_113, L_130_117, L_130_118, L_130_122, L_130_127, L_130_131, L_130_153, L_130_160, L_130_163, L_130_172, L_130_183, L_130_192, L_130_196, L_130_203, L_130_214, L_130_220, L_130_223, A_k0 ha, A_k1 ha, A_k2 ha, A_n1 ha, A_n2 ha, A_r0_0 ha, A_r0_1 ha, hn, hc1, k26, hK1, hK2, zi, yi, zd, yd, zc, zl, hci, hcdd, ofNat_nI, show nI 26 = 26 from rfl, ofInt1, nI_1, hm, ne_eq, not_true_eq_false, not_false_eq_true, if_true, if_false, and_self, or_self, Nat.reduceLeDiff, show 13 ≤ 14 from by decide, show 14 ≤ 16 from by decide]
      rw [e]
      simp only [hI_sJ, lwRun, lwStep, k26, if_true]
    · by_cases kN : 18 ≤ cd i ∧ cd i ≤ 24
      · have esub : nI (cd i) - 18 = nI (cd i - 18) := pk_sub kN.1
        have hcn := nI_clamp (show cd i - 18 < 2 ^ 31 by omega)
        have zn : ¬ nI (cd i - 18) < 0 := nI_pos (by omega)
        have yn : ¬ 7 ≤ cd i - 18 := by omega
        obtain ⟨h', e, f⟩ := ih (i + 1) (d + 1) ((nm (cd i - 18)).toInt64 :: st) (some (.int (nI (cd i)))) o6 o7 o8 o9 o10 o11 (sJ h K d (nm (cd i - 18)).toInt64) (by omega) (ha.move (Fr_sJ (L := [K]) (by simp))) hN1 hN2 hK1 hK2 hn hcd hnm (by simp [hd]) (by omega) (by rw [← hd]; exact hr.push)
        refine ⟨h', ?_, (Fr_sJ (L := [K]) (by simp)).trans f⟩
        rw [L_130_5]
        simp only [x_nil, Nat.reduceAdd, x_iconst_0, x_istore_n3, x_istore4, x_iload4, x_aload_n0, x_getI, x_icmp_ge, x_getR, x_iald, x_istore5, x_iload5, x_bipush_26, x_icmp_eq, K_52, bindR_some, toL_s, toL_n, ap_n, ap_c, List.map_nil, List.map_cons, List.sum_nil, List.sum_cons, cat_i, cat_r, cat_l, Nat.reduceLeDiff, Nat.zero_le, Nat.le_refl, x_if_eq, x_iload_n3, x_aload_n2, x_alen, x_icmp_lt, x_ldc2_9223372036854775808, x_lreturn, x_icmp_ne, x_i2l, x_goto, x_aload_n1, x_bipush_18, x_isub, x_last, x_iinc3, x_bipush_17, x_iconst_1, x_lald, x_lconst_0, x_lcmp, x_if_ne, x_lconst_1, x_iconst_2, x_lstore6, x_lstore8, x_bipush_36, x_lload6, x_lload8, K_128, K_129, x_lstore10, x_lload10, x_ldc2_1000000000000, x_if_gt, x_ldc2_18446743073709551616, x_if_ge, x_iinc4, L_130_0, L_130_14, L_130_30, L_130_35, L_130_38, L_130_44, L_130_48, L_130_57, L_130_68, L_130_76, L_130_83, L_130_90, L_130_95, L_130_99, L_130_113, L_130_117, L_130_118, L_130_122, L_130_127, L_130_131, L_130_153, L_130_160, L_130_163, L_130_172, L_130_183, L_130_192, L_130_196, L_130_203, L_130_214, L_130_220, L_130_223, A_k0 ha, A_k1 ha, A_k2 ha, A_n1 ha, A_n2 ha, A_r0_0 ha, A_r0_1 ha, hn, hc1, hK1, hK2, zi, yi, zd, yd, zc, zl, hci, hcdd, ofNat_nI, ofInt1, nI_1, hm, ne_eq, not_true_eq_false, not_false_eq_true, if_true, if_false, and_self, or_self, Nat.reduceLeDiff, show 13 ≤ 14 from by decide, show 14 ≤ 16 from by decide, e26, k26, c_isLawName _ c64, kN, esub, hcn, zn, yn, hN1, hN2, hnm (cd i - 18) (by omega), show ¬ (1 : Int32) = 0 from by decide]
        rw [e]
        simp only [hI_sJ, lwRun, lwStep, k26, kN, and_self, if_true, if_false]
      · by_cases k17 : cd i = 17
        · have p17 : nI (cd i) = 17 ↔ True := iff_true_intro (by rw [k17]; rfl)
          cases st with
          | nil =>
            simp at hd
            subst hd
            refine ⟨h, ?_, Fr.refl _ _⟩
            rw [L_130_5]
            simp only [x_nil, Nat.reduceAdd, x_iconst_0, x_istore_n3, x_istore4, x_iload4, x_aload_n0, x_getI, x_icmp_ge, x_getR, x_iald, x_istore5, x_iload5, x_bipush_26, x_icmp_eq, K_52, bindR_some, toL_s, toL_n, ap_n, ap_c, List.map_nil, List.map_cons, List.sum_nil, List.sum_cons, cat_i, cat_r, cat_l, Nat.reduceLeDiff, Nat.zero_le, Nat.le_refl, x_if_eq, x_iload_n3, x_aload_n2, x_alen, x_icmp_lt, x_ldc2_9223372036854775808, x_lreturn, x_icmp_ne, x_i2l, x_goto, x_aload_n1, x_bipush_18, x_isub, x_last, x_iinc3, x_bipush_17, x_iconst_1, x_lald, x_lconst_0, x_lcmp, x_if_ne, x_lconst_1, x_iconst_2, x_lstore6, x_lstore8, x_bipush_36, x_lload6, x_lload8, K_128, K_129, x_lstore10, x_lload10, x_ldc2_1000000000000, x_if_gt, x_ldc2_18446743073709551616, x_if_ge, x_iinc4, L_130_0, L_130_14, L_130_30, L_130_35, L_130_38, L_130_44, L_130_48, L_130_57, L_130_68, L_130_76, L_130_83, L_130_90, L_130_95, L_130_99, L_130_113, L_130_117, L_130_118, L_130_122, L_130_127, L_130_131, L_130_153, L_130_160, L_130_163, L_130_172, L_130_183, L_130_192, L_130_196, L_130_203, L_130_214, L_130_220, L_130_223, A_k0 ha, A_k1 ha, A_k2 ha, A_n1 ha, A_n2 ha, A_r0_0 ha, A_r0_1 ha, hn, hc1, hK1, hK2, zi, yi, zd, yd, zc, zl, hci, hcdd, ofNat_nI, ofInt1, nI_1, hm, ne_eq, not_true_eq_false, not_false_eq_true, if_true, if_false, and_self, or_self, Nat.reduceLeDiff, show 13 ≤ 14 from by decide, show 14 ≤ 16 from by decide, e26, k26, c_isLawName _ c64, kN, p17, show ¬ (1 : Int32) ≤ nI 0 from by decide]
            simp [lwRun, lwStep, k17, lwEnd]
          | cons x t =>
            simp at hd
            have ht : t.length = d - 1 := by omega
            have hp := hr.pop
            have e1 : (1 : Int32) ≤ nI d := nI_le (show 1 ≤ d by omega) (by omega)
            have es : nI d - 1 = nI (d - 1) := pk_sub (show 1 ≤ d by omega)
            have hcp := nI_clamp (show d - 1 < 2 ^ 31 by omega)
            have zp : ¬ nI (d - 1) < 0 := nI_pos (by omega)
            have yp : ¬ 64 ≤ d - 1 := by omega
            have hx : hJ h K (d - 1) = x := by rw [← ht]; exact hp.2
            obtain ⟨h', e, f⟩ := ih (i + 1) d ((if x = 0 then 1 else 0) :: t) (some (.int (nI (cd i)))) o6 o7 o8 o9 o10 o11 (sJ h K (d - 1) (if x = 0 then 1 else 0)) (by omega) (ha.move (Fr_sJ (L := [K]) (by simp))) hN1 hN2 hK1 hK2 hn hcd hnm (by simp; omega) (by omega) (by rw [← ht]; exact hp.1.push)
            refine ⟨h', ?_, (Fr_sJ (L := [K]) (by simp)).trans f⟩
            rw [L_130_5]
            simp only [x_nil, Nat.reduceAdd, x_iconst_0, x_istore_n3, x_istore4, x_iload4, x_aload_n0, x_getI, x_icmp_ge, x_getR, x_iald, x_istore5, x_iload5, x_bipush_26, x_icmp_eq, K_52, bindR_some, toL_s, toL_n, ap_n, ap_c, List.map_nil, List.map_cons, List.sum_nil, List.sum_cons, cat_i, cat_r, cat_l, Nat.reduceLeDiff, Nat.zero_le, Nat.le_refl, x_if_eq, x_iload_n3, x_aload_n2, x_alen, x_icmp_lt, x_ldc2_9223372036854775808, x_lreturn, x_icmp_ne, x_i2l, x_goto, x_aload_n1, x_bipush_18, x_isub, x_last, x_iinc3, x_bipush_17, x_iconst_1, x_lald, x_lconst_0, x_lcmp, x_if_ne, x_lconst_1, x_iconst_2, x_lstore6, x_lstore8, x_bipush_36, x_lload6, x_lload8, K_128, K_129, x_lstore10, x_lload10, x_ldc2_1000000000000, x_if_gt, x_ldc2_18446743073709551616, x_if_ge, x_iinc4, L_130_0, L_130_14, L_130_30, L_130_35, L_130_38, L_130_44, L_130_48, L_130_57, L_130_68, L_130_76, L_130_83, L_130_90, L_130_95, L_130_99, L_130_113, L_130_117, L_130_118, L_130_122, L_130_127, L_130_131, L_130_153, L_130_160, L_130_163, L_130_172, L_130_183, L_130_192, L_130_196, L_130_203, L_130_214, L_130_220, L_130_223, A_k0 ha, A_k1 ha, A_k2 ha, A_n1 ha, A_n2 ha, A_r0_0 ha, A_r0_1 ha, hn, hc1, hK1, hK2, zi, yi, zd, yd, zc, zl, hci, hcdd, ofNat_nI, ofInt1, nI_1, hm, ne_eq, not_true_eq_false, not_false_eq_true, if_true, if_false, and_self, or_self, Nat.reduceLeDiff, show 13 ≤ 14 from by decide, show 14 ≤ 16 from by decide, e26, k26, c_isLawName _ c64, kN, p17, e1, es, hcp, zp, yp, hx, lg_cmp_eq]
            have el : lwRun cd (hI h (a + 2)) nm (m + 1) i (x :: t) = lwRun cd (hI h (a + 2)) nm m (i + 1) ((if x = 0 then 1 else 0) :: t) := by
              simp [lwRun, lwStep, k17]
            rw [el]
            rw [hI_sJ] at e
            by_cases hx0 : x = 0
            · simp only [hx0, if_true, not_true_eq_false, if_false] at e ⊢
              exact e
            · simp only [hx0, if_true, not_false_eq_true, if_false] at e ⊢
              exact e
        · have p17 : nI (cd i) = 17 ↔ False := iff_false_intro (fun q => k17 ((nI_eq (by omega) (by decide)).mp q))
          have e36 : nI (cd i) = 36 ↔ cd i = 36 := nI_eq (by omega) (by decide)
          match st, hd, hr with
          | [], hd, hr =>
            simp at hd
            have n2 : ¬ (2 : Int32) ≤ nI d := nI_ge (show d < 2 by omega) (by decide)
            refine ⟨h, ?_, Fr.refl _ _⟩
            rw [L_130_5]
            simp only [x_nil, Nat.reduceAdd, x_iconst_0, x_istore_n3, x_istore4, x_iload4, x_aload_n0, x_getI, x_icmp_ge, x_getR, x_iald, x_istore5, x_iload5, x_bipush_26, x_icmp_eq, K_52, bindR_some, toL_s, toL_n, ap_n, ap_c, List.map_nil, List.map_cons, List.sum_nil, List.sum_cons, cat_i, cat_r, cat_l, Nat.reduceLeDiff, Nat.zero_le, Nat.le_refl, x_if_eq, x_iload_n3, x_aload_n2, x_alen, x_icmp_lt, x_ldc2_9223372036854775808, x_lreturn, x_icmp_ne, x_i2l, x_goto, x_aload_n1, x_bipush_18, x_isub, x_last, x_iinc3, x_bipush_17, x_iconst_1, x_lald, x_lconst_0, x_lcmp, x_if_ne, x_lconst_1, x_iconst_2, x_lstore6, x_lstore8, x_bipush_36, x_lload6, x_lload8, K_128, K_129, x_lstore10, x_lload10, x_ldc2_1000000000000, x_if_gt, x_ldc2_18446743073709551616, x_if_ge, x_iinc4, L_130_0, L_130_14, L_130_30, L_130_35, L_130_38, L_130_44, L_130_48, L_130_57, L_130_68, L_130_76, L_130_83, L_130_90, L_130_95, L_130_99, L_130_113, L_130_117, L_130_118, L_130_122, L_130_127, L_130_131, L_130_153, L_130_160, L_130_163, L_130_172, L_130_183, L_130_192, L_130_196, L_130_203, L_130_214, L_130_220, L_130_223, A_k0 ha, A_k1 ha, A_k2 ha, A_n1 ha, A_n2 ha, A_r0_0 ha, A_r0_1 ha, hn, hc1, hK1, hK2, zi, yi, zd, yd, zc, zl, hci, hcdd, ofNat_nI, ofInt1, nI_1, hm, ne_eq, not_true_eq_false, not_false_eq_true, if_true, if_false, and_self, or_self, Nat.reduceLeDiff, show 13 ≤ 14 from by decide, show 14 ≤ 16 from by decide, e26, k26, c_isLawName _ c64, kN, p17, n2]
            simp [lwRun, lwStep, k17, k26, kN, lwEnd]
          | [x], hd, hr =>
            simp at hd
            have n2 : ¬ (2 : Int32) ≤ nI d := nI_ge (show d < 2 by omega) (by decide)
            refine ⟨h, ?_, Fr.refl _ _⟩
            rw [L_130_5]
            simp only [x_nil, Nat.reduceAdd, x_iconst_0, x_istore_n3, x_istore4, x_iload4, x_aload_n0, x_getI, x_icmp_ge, x_getR, x_iald, x_istore5, x_iload5, x_bipush_26, x_icmp_eq, K_52, bindR_some, toL_s, toL_n, ap_n, ap_c, List.map_nil, List.map_cons, List.sum_nil, List.sum_cons, cat_i, cat_r, cat_l, Nat.reduceLeDiff, Nat.zero_le, Nat.le_refl, x_if_eq, x_iload_n3, x_aload_n2, x_alen, x_icmp_lt, x_ldc2_9223372036854775808, x_lreturn, x_icmp_ne, x_i2l, x_goto, x_aload_n1, x_bipush_18, x_isub, x_last, x_iinc3, x_bipush_17, x_iconst_1, x_lald, x_lconst_0, x_lcmp, x_if_ne, x_lconst_1, x_iconst_2, x_lstore6, x_lstore8, x_bipush_36, x_lload6, x_lload8, K_128, K_129, x_lstore10, x_lload10, x_ldc2_1000000000000, x_if_gt, x_ldc2_18446743073709551616, x_if_ge, x_iinc4, L_130_0, L_130_14, L_130_30, L_130_35, L_130_38, L_130_44, L_130_48, L_130_57, L_130_68, L_130_76, L_130_83, L_130_90, L_130_95, L_130_99, L_130_113, L_130_117, L_130_118, L_130_122, L_130_127, L_130_131, L_130_153, L_130_160, L_130_163, L_130_172, L_130_183, L_130_192, L_130_196, L_130_203, L_130_214, L_130_220, L_130_223, A_k0 ha, A_k1 ha, A_k2 ha, A_n1 ha, A_n2 ha, A_r0_0 ha, A_r0_1 ha, hn, hc1, hK1, hK2, zi, yi, zd, yd, zc, zl, hci, hcdd, ofNat_nI, ofInt1, nI_1, hm, ne_eq, not_true_eq_false, not_false_eq_true, if_true, if_false, and_self, or_self, Nat.reduceLeDiff, show 13 ≤ 14 from by decide, show 14 ≤ 16 from by decide, e26, k26, c_isLawName _ c64, kN, p17, n2]
            simp [lwRun, lwStep, k17, k26, kN, lwEnd]
          | r :: l :: t, hd, hr =>
            simp at hd
            have ht : t.length = d - 1 - 1 := by omega
            have hp := hr.pop
            have hp2 := hp.1.pop
            have n2 : (2 : Int32) ≤ nI d := nI_le (show 2 ≤ d by omega) (by omega)
            have em1 : nI d + -1 = nI (d - 1) := sb_m1 (by omega)
            have es2 : nI (d - 1) - 1 = nI (d - 1 - 1) := pk_sub (show 1 ≤ d - 1 by omega)
            have hc1' := nI_clamp (show d - 1 < 2 ^ 31 by omega)
            have hc2' := nI_clamp (show d - 1 - 1 < 2 ^ 31 by omega)
            have z1' : ¬ nI (d - 1) < 0 := nI_pos (by omega)
            have z2' : ¬ nI (d - 1 - 1) < 0 := nI_pos (by omega)
            have y1' : ¬ 64 ≤ d - 1 := by omega
            have y2' : ¬ 64 ≤ d - 1 - 1 := by omega
            have hvr : hJ h K (d - 1) = r := by have := hp.2; simp only [List.length_cons] at this; rw [← this]; congr 1; omega
            have hvl : hJ h K (d - 1 - 1) = l := by rw [← ht]; exact hp2.2
            by_cases k36 : cd i = 36
            · have p36 : nI (cd i) = 36 ↔ True := iff_true_intro (e36.mpr k36)
              have hv : lwStep (cd i) (hI h (a + 2) i) nm (r :: l :: t) = if 1000000000000 < prodF l r ∨ prodF l r < -1000000000000 then none else some (prodF l r :: t) := by
                simp [lwStep, k17, k26, kN, k36]
              generalize hvv : prodF l r = v at hv
              by_cases b1 : 1000000000000 < v
              · refine ⟨h, ?_, Fr.refl _ _⟩
                rw [L_130_5]
                simp only [x_nil, Nat.reduceAdd, x_iconst_0, x_istore_n3, x_istore4, x_iload4, x_aload_n0, x_getI, x_icmp_ge, x_getR, x_iald, x_istore5, x_iload5, x_bipush_26, x_icmp_eq, K_52, bindR_some, toL_s, toL_n, ap_n, ap_c, List.map_nil, List.map_cons, List.sum_nil, List.sum_cons, cat_i, cat_r, cat_l, Nat.reduceLeDiff, Nat.zero_le, Nat.le_refl, x_if_eq, x_iload_n3, x_aload_n2, x_alen, x_icmp_lt, x_ldc2_9223372036854775808, x_lreturn, x_icmp_ne, x_i2l, x_goto, x_aload_n1, x_bipush_18, x_isub, x_last, x_iinc3, x_bipush_17, x_iconst_1, x_lald, x_lconst_0, x_lcmp, x_if_ne, x_lconst_1, x_iconst_2, x_lstore6, x_lstore8, x_bipush_36, x_lload6, x_lload8, K_128, K_129, x_lstore10, x_lload10, x_ldc2_1000000000000, x_if_gt, x_ldc2_18446743073709551616, x_if_ge, x_iinc4, L_130_0, L_130_14, L_130_30, L_130_35, L_130_38, L_130_44, L_130_48, L_130_57, L_130_68, L_130_76, L_130_83, L_130_90, L_130_95, L_130_99, L_130_113, L_130_117, L_130_118, L_130_122, L_130_127, L_130_131, L_130_153, L_130_160, L_130_163, L_130_172, L_130_183, L_130_192, L_130_196, L_130_203, L_130_214, L_130_220, L_130_223, A_k0 ha, A_k1 ha, A_k2 ha, A_n1 ha, A_n2 ha, A_r0_0 ha, A_r0_1 ha, hn, hc1, hK1, hK2, zi, yi, zd, yd, zc, zl, hci, hcdd, ofNat_nI, ofInt1, nI_1, hm, ne_eq, not_true_eq_false, not_false_eq_true, if_true, if_false, and_self, or_self, Nat.reduceLeDiff, show 13 ≤ 14 from by decide, show 14 ≤ 16 from by decide, e26, k26, c_isLawName _ c64, kN, p17, n2, ofIntm1, em1, es2, hc1', hc2', z1', z2', y1', y2', hvl, hvr, p36, c_product, hvv, lg_cmp_gt, lg_cmp_ge, b1]
                simp [lwRun, hv, b1, lwEnd]
              · by_cases b2 : v < -1000000000000
                · refine ⟨h, ?_, Fr.refl _ _⟩
                  rw [L_130_5]
                  simp only [x_nil, Nat.reduceAdd, x_iconst_0, x_istore_n3, x_istore4, x_iload4, x_aload_n0, x_getI, x_icmp_ge, x_getR, x_iald, x_istore5, x_iload5, x_bipush_26, x_icmp_eq, K_52, bindR_some, toL_s, toL_n, ap_n, ap_c, List.map_nil, List.map_cons, List.sum_nil, List.sum_cons, cat_i, cat_r, cat_l, Nat.reduceLeDiff, Nat.zero_le, Nat.le_refl, x_if_eq, x_iload_n3, x_aload_n2, x_alen, x_icmp_lt, x_ldc2_9223372036854775808, x_lreturn, x_icmp_ne, x_i2l, x_goto, x_aload_n1, x_bipush_18, x_isub, x_last, x_iinc3, x_bipush_17, x_iconst_1, x_lald, x_lconst_0, x_lcmp, x_if_ne, x_lconst_1, x_iconst_2, x_lstore6, x_lstore8, x_bipush_36, x_lload6, x_lload8, K_128, K_129, x_lstore10, x_lload10, x_ldc2_1000000000000, x_if_gt, x_ldc2_18446743073709551616, x_if_ge, x_iinc4, L_130_0, L_130_14, L_130_30, L_130_35, L_130_38, L_130_44, L_130_48, L_130_57, L_130_68, L_130_76, L_130_83, L_130_90, L_130_95, L_130_99, L_130_113, L_130_117, L_130_118, L_130_122, L_130_127, L_130_131, L_130_153, L_130_160, L_130_163, L_130_172, L_130_183, L_130_192, L_130_196, L_130_203, L_130_214, L_130_220, L_130_223, A_k0 ha, A_k1 ha, A_k2 ha, A_n1 ha, A_n2 ha, A_r0_0 ha, A_r0_1 ha, hn, hc1, hK1, hK2, zi, yi, zd, yd, zc, zl, hci, hcdd, ofNat_nI, ofInt1, nI_1, hm, ne_eq, not_true_eq_false, not_false_eq_true, if_true, if_false, and_self, or_self, Nat.reduceLeDiff, show 13 ≤ 14 from by decide, show 14 ≤ 16 from by decide, e26, k26, c_isLawName _ c64, kN, p17, n2, ofIntm1, em1, es2, hc1', hc2', z1', z2', y1', y2', hvl, hvr, p36, c_product, hvv, lg_cmp_gt, lg_cmp_ge, b1, Int64.not_le.mpr b2]
                  simp [lwRun, hv, b2, lwEnd]
                · obtain ⟨h', e, f⟩ := ih (i + 1) (d - 1) (v :: t) (some (.int (nI (cd i)))) (some (.long l)) none (some (.long r)) none (some (.long v)) none (sJ h K (d - 1 - 1) v) (by omega) (ha.move (Fr_sJ (L := [K]) (by simp))) hN1 hN2 hK1 hK2 hn hcd hnm (by simp; omega) (by omega) (by rw [← ht]; exact hp2.1.push)
                  refine ⟨h', ?_, (Fr_sJ (L := [K]) (by simp)).trans f⟩
                  have el : lwRun cd (hI h (a + 2)) nm (m + 1) i (r :: l :: t) = lwRun cd (hI h (a + 2)) nm m (i + 1) (v :: t) := by
                    simp [lwRun, hv, b1, b2]
                  rw [el]
                  rw [hI_sJ] at e
                  rw [L_130_5]
                  simp only [x_nil, Nat.reduceAdd, x_iconst_0, x_istore_n3, x_istore4, x_iload4, x_aload_n0, x_getI, x_icmp_ge, x_getR, x_iald, x_istore5, x_iload5, x_bipush_26, x_icmp_eq, K_52, bindR_some, toL_s, toL_n, ap_n, ap_c, List.map_nil, List.map_cons, List.sum_nil, List.sum_cons, cat_i, cat_r, cat_l, Nat.reduceLeDiff, Nat.zero_le, Nat.le_refl, x_if_eq, x_iload_n3, x_aload_n2, x_alen, x_icmp_lt, x_ldc2_9223372036854775808, x_lreturn, x_icmp_ne, x_i2l, x_goto, x_aload_n1, x_bipush_18, x_isub, x_last, x_iinc3, x_bipush_17, x_iconst_1, x_lald, x_lconst_0, x_lcmp, x_if_ne, x_lconst_1, x_iconst_2, x_lstore6, x_lstore8, x_bipush_36, x_lload6, x_lload8, K_128, K_129, x_lstore10, x_lload10, x_ldc2_1000000000000, x_if_gt, x_ldc2_18446743073709551616, x_if_ge, x_iinc4, L_130_0, L_130_14, L_130_30, L_130_35, L_130_38, L_130_44, L_130_48, L_130_57, L_130_68, L_130_76, L_130_83, L_130_90, L_130_95, L_130_99, L_130_113, L_130_117, L_130_118, L_130_122, L_130_127, L_130_131, L_130_153, L_130_160, L_130_163, L_130_172, L_130_183, L_130_192, L_130_196, L_130_203, L_130_214, L_130_220, L_130_223, A_k0 ha, A_k1 ha, A_k2 ha, A_n1 ha, A_n2 ha, A_r0_0 ha, A_r0_1 ha, hn, hc1, hK1, hK2, zi, yi, zd, yd, zc, zl, hci, hcdd, ofNat_nI, ofInt1, nI_1, hm, ne_eq, not_true_eq_false, not_false_eq_true, if_true, if_false, and_self, or_self, Nat.reduceLeDiff, show 13 ≤ 14 from by decide, show 14 ≤ 16 from by decide, e26, k26, c_isLawName _ c64, kN, p17, n2, ofIntm1, em1, es2, hc1', hc2', z1', z2', y1', y2', hvl, hvr, p36, c_product, hvv, lg_cmp_gt, lg_cmp_ge, b1, Int64.not_lt.mp b2]
                  exact e
            · have hv : lwStep (cd i) (hI h (a + 2) i) nm (r :: l :: t) = if 1000000000000 < joinF (cd i) l r ∨ joinF (cd i) l r < -1000000000000 then none else some (joinF (cd i) l r :: t) := by
                simp [lwStep, k17, k26, kN, k36]
              generalize hvv : joinF (cd i) l r = v at hv
              by_cases b1 : 1000000000000 < v
              · refine ⟨h, ?_, Fr.refl _ _⟩
                rw [L_130_5]
                simp only [x_nil, Nat.reduceAdd, x_iconst_0, x_istore_n3, x_istore4, x_iload4, x_aload_n0, x_getI, x_icmp_ge, x_getR, x_iald, x_istore5, x_iload5, x_bipush_26, x_icmp_eq, K_52, bindR_some, toL_s, toL_n, ap_n, ap_c, List.map_nil, List.map_cons, List.sum_nil, List.sum_cons, cat_i, cat_r, cat_l, Nat.reduceLeDiff, Nat.zero_le, Nat.le_refl, x_if_eq, x_iload_n3, x_aload_n2, x_alen, x_icmp_lt, x_ldc2_9223372036854775808, x_lreturn, x_icmp_ne, x_i2l, x_goto, x_aload_n1, x_bipush_18, x_isub, x_last, x_iinc3, x_bipush_17, x_iconst_1, x_lald, x_lconst_0, x_lcmp, x_if_ne, x_lconst_1, x_iconst_2, x_lstore6, x_lstore8, x_bipush_36, x_lload6, x_lload8, K_128, K_129, x_lstore10, x_lload10, x_ldc2_1000000000000, x_if_gt, x_ldc2_18446743073709551616, x_if_ge, x_iinc4, L_130_0, L_130_14, L_130_30, L_130_35, L_130_38, L_130_44, L_130_48, L_130_57, L_130_68, L_130_76, L_130_83, L_130_90, L_130_95, L_130_99, L_130_113, L_130_117, L_130_118, L_130_122, L_130_127, L_130_131, L_130_153, L_130_160, L_130_163, L_130_172, L_130_183, L_130_192, L_130_196, L_130_203, L_130_214, L_130_220, L_130_223, A_k0 ha, A_k1 ha, A_k2 ha, A_n1 ha, A_n2 ha, A_r0_0 ha, A_r0_1 ha, hn, hc1, hK1, hK2, zi, yi, zd, yd, zc, zl, hci, hcdd, ofNat_nI, ofInt1, nI_1, hm, ne_eq, not_true_eq_false, not_false_eq_true, if_true, if_false, and_self, or_self, Nat.reduceLeDiff, show 13 ≤ 14 from by decide, show 14 ≤ 16 from by decide, e26, k26, c_isLawName _ c64, kN, p17, n2, ofIntm1, em1, es2, hc1', hc2', z1', z2', y1', y2', hvl, hvr, e36, k36, c_joined (cd i) (by rcases hc2 with q | q | q | q | q <;> first | exact q | omega) l r, hvv, lg_cmp_gt, lg_cmp_ge, b1]
                simp [lwRun, hv, b1, lwEnd]
              · by_cases b2 : v < -1000000000000
                · refine ⟨h, ?_, Fr.refl _ _⟩
                  rw [L_130_5]
                  simp only [x_nil, Nat.reduceAdd, x_iconst_0, x_istore_n3, x_istore4, x_iload4, x_aload_n0, x_getI, x_icmp_ge, x_getR, x_iald, x_istore5, x_iload5, x_bipush_26, x_icmp_eq, K_52, bindR_some, toL_s, toL_n, ap_n, ap_c, List.map_nil, List.map_cons, List.sum_nil, List.sum_cons, cat_i, cat_r, cat_l, Nat.reduceLeDiff, Nat.zero_le, Nat.le_refl, x_if_eq, x_iload_n3, x_aload_n2, x_alen, x_icmp_lt, x_ldc2_9223372036854775808, x_lreturn, x_icmp_ne, x_i2l, x_goto, x_aload_n1, x_bipush_18, x_isub, x_last, x_iinc3, x_bipush_17, x_iconst_1, x_lald, x_lconst_0, x_lcmp, x_if_ne, x_lconst_1, x_iconst_2, x_lstore6, x_lstore8, x_bipush_36, x_lload6, x_lload8, K_128, K_129, x_lstore10, x_lload10, x_ldc2_1000000000000, x_if_gt, x_ldc2_18446743073709551616, x_if_ge, x_iinc4, L_130_0, L_130_14, L_130_30, L_130_35, L_130_38, L_130_44, L_130_48, L_130_57, L_130_68, L_130_76, L_130_83, L_130_90, L_130_95, L_130_99, L_130_113, L_130_117, L_130_118, L_130_122, L_130_127, L_130_131, L_130_153, L_130_160, L_130_163, L_130_172, L_130_183, L_130_192, L_130_196, L_130_203, L_130_214, L_130_220, L_130_223, A_k0 ha, A_k1 ha, A_k2 ha, A_n1 ha, A_n2 ha, A_r0_0 ha, A_r0_1 ha, hn, hc1, hK1, hK2, zi, yi, zd, yd, zc, zl, hci, hcdd, ofNat_nI, ofInt1, nI_1, hm, ne_eq, not_true_eq_false, not_false_eq_true, if_true, if_false, and_self, or_self, Nat.reduceLeDiff, show 13 ≤ 14 from by decide, show 14 ≤ 16 from by decide, e26, k26, c_isLawName _ c64, kN, p17, n2, ofIntm1, em1, es2, hc1', hc2', z1', z2', y1', y2', hvl, hvr, e36, k36, c_joined (cd i) (by rcases hc2 with q | q | q | q | q <;> first | exact q | omega) l r, hvv, lg_cmp_gt, lg_cmp_ge, b1, Int64.not_le.mpr b2]
                  simp [lwRun, hv, b2, lwEnd]
                · obtain ⟨h', e, f⟩ := ih (i + 1) (d - 1) (v :: t) (some (.int (nI (cd i)))) (some (.long l)) none (some (.long r)) none (some (.long v)) none (sJ h K (d - 1 - 1) v) (by omega) (ha.move (Fr_sJ (L := [K]) (by simp))) hN1 hN2 hK1 hK2 hn hcd hnm (by simp; omega) (by omega) (by rw [← ht]; exact hp2.1.push)
                  refine ⟨h', ?_, (Fr_sJ (L := [K]) (by simp)).trans f⟩
                  have el : lwRun cd (hI h (a + 2)) nm (m + 1) i (r :: l :: t) = lwRun cd (hI h (a + 2)) nm m (i + 1) (v :: t) := by
                    simp [lwRun, hv, b1, b2]
                  rw [el]
                  rw [hI_sJ] at e
                  rw [L_130_5]
                  simp only [x_nil, Nat.reduceAdd, x_iconst_0, x_istore_n3, x_istore4, x_iload4, x_aload_n0, x_getI, x_icmp_ge, x_getR, x_iald, x_istore5, x_iload5, x_bipush_26, x_icmp_eq, K_52, bindR_some, toL_s, toL_n, ap_n, ap_c, List.map_nil, List.map_cons, List.sum_nil, List.sum_cons, cat_i, cat_r, cat_l, Nat.reduceLeDiff, Nat.zero_le, Nat.le_refl, x_if_eq, x_iload_n3, x_aload_n2, x_alen, x_icmp_lt, x_ldc2_9223372036854775808, x_lreturn, x_icmp_ne, x_i2l, x_goto, x_aload_n1, x_bipush_18, x_isub, x_last, x_iinc3, x_bipush_17, x_iconst_1, x_lald, x_lconst_0, x_lcmp, x_if_ne, x_lconst_1, x_iconst_2, x_lstore6, x_lstore8, x_bipush_36, x_lload6, x_lload8, K_128, K_129, x_lstore10, x_lload10, x_ldc2_1000000000000, x_if_gt, x_ldc2_18446743073709551616, x_if_ge, x_iinc4, L_130_0, L_130_14, L_130_30, L_130_35, L_130_38, L_130_44, L_130_48, L_130_57, L_130_68, L_130_76, L_130_83, L_130_90, L_130_95, L_130_99, L_130_113, L_130_117, L_130_118, L_130_122, L_130_127, L_130_131, L_130_153, L_130_160, L_130_163, L_130_172, L_130_183, L_130_192, L_130_196, L_130_203, L_130_214, L_130_220, L_130_223, A_k0 ha, A_k1 ha, A_k2 ha, A_n1 ha, A_n2 ha, A_r0_0 ha, A_r0_1 ha, hn, hc1, hK1, hK2, zi, yi, zd, yd, zc, zl, hci, hcdd, ofNat_nI, ofInt1, nI_1, hm, ne_eq, not_true_eq_false, not_false_eq_true, if_true, if_false, and_self, or_self, Nat.reduceLeDiff, show 13 ≤ 14 from by decide, show 14 ≤ 16 from by decide, e26, k26, c_isLawName _ c64, kN, p17, n2, ofIntm1, em1, es2, hc1', hc2', z1', z2', y1', y2', hvl, hvr, e36, k36, c_joined (cd i) (by rcases hc2 with q | q | q | q | q <;> first | exact q | omega) l r, hvv, lg_cmp_gt, lg_cmp_ge, b1, Int64.not_lt.mp b2]
                  exact e
theorem c_value (a N K : Nat) (nm : Nat → Int32) (cd : Nat → Nat) (n : Nat) (hn64 : n ≤ 64) (hNK : N ≠ K) (haK : a ≠ K ∧ a + 1 ≠ K ∧ a + 2 ≠ K) (h : Hp) (ha : isA h a) (hN1 : kd h N = 13) (hN2 : hN h N = 7) (hK1 : kd h K = 14) (hK2 : hN h K = 64) (hn : hI h a 2 = nI n) (hcd : ∀ j, j < n → hI h (a + 1) j = nI (cd j) ∧ (cd j = 26 ∨ (18 ≤ cd j ∧ cd j ≤ 24) ∨ cd j = 17 ∨ cd j = 36 ∨ cd j ∈ [15, 16, 28, 29, 30, 31, 32, 33, 34, 35, 37])) (hnm : ∀ j, j < 7 → hI h N j = nm j) : ∃ h', Lm sc pp 130 0 [some (.ref a), some (.ref N), some (.ref K), none, none, none, none, none, none, none, none, none] [] 0 0 h = some (h', some (.long (lwEnd (lwRun cd (hI h (a + 2)) nm n 0 [])))) ∧ Fr h h' [K] := by
  obtain ⟨h', e, f⟩ := c_value_loop (sc := sc) (pp := pp) a N K nm cd n hn64 hNK haK n 0 0 [] none none none none none none none h (by omega) ha hN1 hN2 hK1 hK2 hn hcd hnm rfl (by omega) (fun j hj => by simp at hj)
  refine ⟨h', ?_, f⟩
  rw [L_130_0]
  simp only [x_nil, Nat.reduceAdd, x_iconst_0, x_istore_n3, x_istore4]
  exact e
end T22
