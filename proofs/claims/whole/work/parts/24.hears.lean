-- who hears, who lets slip
section T24
variable {sc : Nat × (Nat → Int32)} {pp : Nat → Nat → Int32 → Int32 → Hp → Option (Hp × Int32)}
theorem L_145_0 (lv : Lv) (st : List Value) (cu su : Nat) (h : Hp) : Lm sc pp 145 0 lv st cu su h = exS sc pp (Lm sc pp) 145 0 [(.aload_n 0, 1, []), (.aload_n 0, 1, []), (.getfield 25, 3, [6, 2, 2, 624, 0]), (.getfield 101, 3, [0, 15, 2, 419, 1]), (.aload_n 1, 1, []), (.iload_n 2, 1, []), (.iload_n 3, 1, []), (.invokevirtual 105, 3, [131, 5, 1015, 0, 5, 0, 0, 0, 0, 6])] lv st cu su h := Lm_eq (by decide) (by rfl) lv st cu su h
theorem L_145_14 (lv : Lv) (st : List Value) (cu su : Nat) (h : Hp) : Lm sc pp 145 14 lv st cu su h = exS sc pp (Lm sc pp) 145 14 [(.lstore 4, 2, []), (.lload 4, 2, []), (.ldc2_w 109, 3, [9223372036854775808, 949]), (.lcmp, 1, []), (.ifCond .eq 16, 3, [38])] lv st cu su h := Lm_eq (by decide) (by rfl) lv st cu su h
theorem L_145_25 (lv : Lv) (st : List Value) (cu su : Nat) (h : Hp) : Lm sc pp 145 25 lv st cu su h = exS sc pp (Lm sc pp) 145 25 [(.lload 4, 2, []), (.lconst 0, 1, []), (.lcmp, 1, []), (.ifCond .eq 7, 3, [36])] lv st cu su h := Lm_eq (by decide) (by rfl) lv st cu su h
theorem L_145_32 (lv : Lv) (st : List Value) (cu su : Nat) (h : Hp) : Lm sc pp 145 32 lv st cu su h = exS sc pp (Lm sc pp) 145 32 [(.iconst 1, 1, []), (.goto 4, 3, [37])] lv st cu su h := Lm_eq (by decide) (by rfl) lv st cu su h
theorem L_145_36 (lv : Lv) (st : List Value) (cu su : Nat) (h : Hp) : Lm sc pp 145 36 lv st cu su h = exS sc pp (Lm sc pp) 145 36 [(.iconst 0, 1, [])] lv st cu su h := Lm_eq (by decide) (by rfl) lv st cu su h
theorem L_145_37 (lv : Lv) (st : List Value) (cu su : Nat) (h : Hp) : Lm sc pp 145 37 lv st cu su h = exS sc pp (Lm sc pp) 145 37 [(.ireturn, 1, [3])] lv st cu su h := Lm_eq (by decide) (by rfl) lv st cu su h
theorem L_145_38 (lv : Lv) (st : List Value) (cu su : Nat) (h : Hp) : Lm sc pp 145 38 lv st cu su h = exS sc pp (Lm sc pp) 145 38 [(.aload_n 0, 1, []), (.getfield 25, 3, [6, 2, 2, 624, 0]), (.getfield 88, 3, [0, 7, 2, 390, 1]), (.iload_n 3, 1, []), (.iaload, 1, []), (.iconst 2, 1, []), (.if_icmp .ne 12, 3, [60])] lv st cu su h := Lm_eq (by decide) (by rfl) lv st cu su h
theorem L_145_51 (lv : Lv) (st : List Value) (cu su : Nat) (h : Hp) : Lm sc pp 145 51 lv st cu su h = exS sc pp (Lm sc pp) 145 51 [(.aload_n 0, 1, []), (.iload_n 2, 1, []), (.invokevirtual 111, 3, [126, 2, 950, 0, 2, 0, 0, 0, 0, 6])] lv st cu su h := Lm_eq (by decide) (by rfl) lv st cu su h
theorem L_145_56 (lv : Lv) (st : List Value) (cu su : Nat) (h : Hp) : Lm sc pp 145 56 lv st cu su h = exS sc pp (Lm sc pp) 145 56 [(.iconst 5, 1, []), (.if_icmp .lt 7, 3, [64])] lv st cu su h := Lm_eq (by decide) (by rfl) lv st cu su h
theorem L_145_60 (lv : Lv) (st : List Value) (cu su : Nat) (h : Hp) : Lm sc pp 145 60 lv st cu su h = exS sc pp (Lm sc pp) 145 60 [(.iconst 1, 1, []), (.goto 4, 3, [65])] lv st cu su h := Lm_eq (by decide) (by rfl) lv st cu su h
theorem L_145_64 (lv : Lv) (st : List Value) (cu su : Nat) (h : Hp) : Lm sc pp 145 64 lv st cu su h = exS sc pp (Lm sc pp) 145 64 [(.iconst 0, 1, [])] lv st cu su h := Lm_eq (by decide) (by rfl) lv st cu su h
theorem L_145_65 (lv : Lv) (st : List Value) (cu su : Nat) (h : Hp) : Lm sc pp 145 65 lv st cu su h = exS sc pp (Lm sc pp) 145 65 [(.ireturn, 1, [3])] lv st cu su h := Lm_eq (by decide) (by rfl) lv st cu su h
theorem L_148_0 (lv : Lv) (st : List Value) (cu su : Nat) (h : Hp) : Lm sc pp 148 0 lv st cu su h = exS sc pp (Lm sc pp) 148 0 [(.aload_n 0, 1, []), (.getfield 36, 3, [6, 6, 3, 632, 0]), (.ifCond .eq 5, 3, [9])] lv st cu su h := Lm_eq (by decide) (by rfl) lv st cu su h
theorem L_148_7 (lv : Lv) (st : List Value) (cu su : Nat) (h : Hp) : Lm sc pp 148 7 lv st cu su h = exS sc pp (Lm sc pp) 148 7 [(.iconst 0, 1, []), (.ireturn, 1, [3])] lv st cu su h := Lm_eq (by decide) (by rfl) lv st cu su h
theorem L_148_9 (lv : Lv) (st : List Value) (cu su : Nat) (h : Hp) : Lm sc pp 148 9 lv st cu su h = exS sc pp (Lm sc pp) 148 9 [(.aload_n 0, 1, []), (.aload_n 0, 1, []), (.getfield 25, 3, [6, 2, 2, 624, 0]), (.getfield 114, 3, [0, 14, 2, 415, 1]), (.aload_n 1, 1, []), (.iload_n 2, 1, []), (.iload_n 3, 1, []), (.invokevirtual 105, 3, [131, 5, 1015, 0, 5, 0, 0, 0, 0, 6])] lv st cu su h := Lm_eq (by decide) (by rfl) lv st cu su h
theorem L_148_23 (lv : Lv) (st : List Value) (cu su : Nat) (h : Hp) : Lm sc pp 148 23 lv st cu su h = exS sc pp (Lm sc pp) 148 23 [(.lstore 4, 2, []), (.lload 4, 2, []), (.ldc2_w 109, 3, [9223372036854775808, 949]), (.lcmp, 1, []), (.ifCond .ne 19, 3, [50])] lv st cu su h := Lm_eq (by decide) (by rfl) lv st cu su h
theorem L_148_34 (lv : Lv) (st : List Value) (cu su : Nat) (h : Hp) : Lm sc pp 148 34 lv st cu su h = exS sc pp (Lm sc pp) 148 34 [(.ldc2_w 117, 3, [10, 1024]), (.aload_n 0, 1, []), (.getfield 25, 3, [6, 2, 2, 624, 0]), (.getfield 119, 3, [0, 3, 2, 378, 1]), (.iload_n 2, 1, []), (.iaload, 1, []), (.i2l, 1, []), (.lmul, 1, []), (.lstore 4, 2, [])] lv st cu su h := Lm_eq (by decide) (by rfl) lv st cu su h
theorem L_148_50 (lv : Lv) (st : List Value) (cu su : Nat) (h : Hp) : Lm sc pp 148 50 lv st cu su h = exS sc pp (Lm sc pp) 148 50 [(.aload_n 0, 1, []), (.getfield 29, 3, [6, 3, 3, 626, 0]), (.ifCond .ne 18, 3, [72])] lv st cu su h := Lm_eq (by decide) (by rfl) lv st cu su h
theorem L_148_57 (lv : Lv) (st : List Value) (cu su : Nat) (h : Hp) : Lm sc pp 148 57 lv st cu su h = exS sc pp (Lm sc pp) 148 57 [(.lload 4, 2, []), (.ldc2_w 122, 3, [50, 1025]), (.lcmp, 1, []), (.ifCond .lt 7, 3, [70])] lv st cu su h := Lm_eq (by decide) (by rfl) lv st cu su h
theorem L_148_66 (lv : Lv) (st : List Value) (cu su : Nat) (h : Hp) : Lm sc pp 148 66 lv st cu su h = exS sc pp (Lm sc pp) 148 66 [(.iconst 1, 1, []), (.goto 4, 3, [71])] lv st cu su h := Lm_eq (by decide) (by rfl) lv st cu su h
theorem L_148_70 (lv : Lv) (st : List Value) (cu su : Nat) (h : Hp) : Lm sc pp 148 70 lv st cu su h = exS sc pp (Lm sc pp) 148 70 [(.iconst 0, 1, [])] lv st cu su h := Lm_eq (by decide) (by rfl) lv st cu su h
theorem L_148_71 (lv : Lv) (st : List Value) (cu su : Nat) (h : Hp) : Lm sc pp 148 71 lv st cu su h = exS sc pp (Lm sc pp) 148 71 [(.ireturn, 1, [3])] lv st cu su h := Lm_eq (by decide) (by rfl) lv st cu su h
theorem L_148_72 (lv : Lv) (st : List Value) (cu su : Nat) (h : Hp) : Lm sc pp 148 72 lv st cu su h = exS sc pp (Lm sc pp) 148 72 [(.lload 4, 2, []), (.lconst 0, 1, []), (.lcmp, 1, []), (.ifCond .le 12, 3, [88])] lv st cu su h := Lm_eq (by decide) (by rfl) lv st cu su h
theorem L_148_79 (lv : Lv) (st : List Value) (cu su : Nat) (h : Hp) : Lm sc pp 148 79 lv st cu su h = exS sc pp (Lm sc pp) 148 79 [(.lload 4, 2, []), (.ldc2_w 124, 3, [100, 1026]), (.lcmp, 1, []), (.ifCond .lt 16, 3, [101])] lv st cu su h := Lm_eq (by decide) (by rfl) lv st cu su h
theorem L_148_88 (lv : Lv) (st : List Value) (cu su : Nat) (h : Hp) : Lm sc pp 148 88 lv st cu su h = exS sc pp (Lm sc pp) 148 88 [(.lload 4, 2, []), (.lconst 0, 1, []), (.lcmp, 1, []), (.ifCond .le 7, 3, [99])] lv st cu su h := Lm_eq (by decide) (by rfl) lv st cu su h
theorem L_148_95 (lv : Lv) (st : List Value) (cu su : Nat) (h : Hp) : Lm sc pp 148 95 lv st cu su h = exS sc pp (Lm sc pp) 148 95 [(.iconst 1, 1, []), (.goto 4, 3, [100])] lv st cu su h := Lm_eq (by decide) (by rfl) lv st cu su h
theorem L_148_99 (lv : Lv) (st : List Value) (cu su : Nat) (h : Hp) : Lm sc pp 148 99 lv st cu su h = exS sc pp (Lm sc pp) 148 99 [(.iconst 0, 1, [])] lv st cu su h := Lm_eq (by decide) (by rfl) lv st cu su h
theorem L_148_100 (lv : Lv) (st : List Value) (cu su : Nat) (h : Hp) : Lm sc pp 148 100 lv st cu su h = exS sc pp (Lm sc pp) 148 100 [(.ireturn, 1, [3])] lv st cu su h := Lm_eq (by decide) (by rfl) lv st cu su h
theorem L_148_101 (lv : Lv) (st : List Value) (cu su : Nat) (h : Hp) : Lm sc pp 148 101 lv st cu su h = exS sc pp (Lm sc pp) 148 101 [(.lload 4, 2, []), (.aload_n 1, 1, []), (.invokevirtual 126, 3, [147, 1, 1027, 0, 1, 0, 0, 0, 0, 8])] lv st cu su h := Lm_eq (by decide) (by rfl) lv st cu su h
theorem L_148_107 (lv : Lv) (st : List Value) (cu su : Nat) (h : Hp) : Lm sc pp 148 107 lv st cu su h = exS sc pp (Lm sc pp) 148 107 [(.bipush 100, 2, []), (.irem, 1, []), (.i2l, 1, []), (.lcmp, 1, []), (.ifCond .le 7, 3, [119])] lv st cu su h := Lm_eq (by decide) (by rfl) lv st cu su h
theorem L_148_115 (lv : Lv) (st : List Value) (cu su : Nat) (h : Hp) : Lm sc pp 148 115 lv st cu su h = exS sc pp (Lm sc pp) 148 115 [(.iconst 1, 1, []), (.goto 4, 3, [120])] lv st cu su h := Lm_eq (by decide) (by rfl) lv st cu su h
theorem L_148_119 (lv : Lv) (st : List Value) (cu su : Nat) (h : Hp) : Lm sc pp 148 119 lv st cu su h = exS sc pp (Lm sc pp) 148 119 [(.iconst 0, 1, [])] lv st cu su h := Lm_eq (by decide) (by rfl) lv st cu su h
theorem L_148_120 (lv : Lv) (st : List Value) (cu su : Nat) (h : Hp) : Lm sc pp 148 120 lv st cu su h = exS sc pp (Lm sc pp) 148 120 [(.ireturn, 1, [3])] lv st cu su h := Lm_eq (by decide) (by rfl) lv st cu su h

def hearP (w : Int64) (kind wit : Int32) : Prop := (w ≠ -9223372036854775808 ∧ w ≠ 0) ∨ (w = -9223372036854775808 ∧ (kind ≠ 2 ∨ 5 ≤ wit))
theorem c_hears (u c s p q : Nat) (cd : Nat → Nat) (n : Nat) (h : Hp) (hU : isU h u) (hRu : hR h u 2 = c + 1) (hC : isC h c) (hs : isS h s) (hcu : c + 24 ≤ u) (hsu : s + 5 ≤ u) (hp : p < 5) (hq : q < 8) (hcd : codesOK h (c + 21) cd n) : ∃ h', Lm sc pp 145 0 [some (.ref u), some (.ref s), some (.int (nI p)), some (.int (nI q)), none, none] [] 0 0 h = some (h', some (.int (@ite _ (hearP (worthF h u c s (c + 21) p q cd n) (hI h (c + 11) q) (if hI h u 7 = 0 then hI h (c + 8) p else 9)) (Classical.propDecidable _) 1 0))) ∧ Fr h h' [u + 1, u + 2] := by
  obtain ⟨h', e, f⟩ := c_worth (sc := sc) (pp := pp) u c s (c + 21) p q cd n h hU hRu hC hs hC.a21 (by omega) hcu hsu hp hq hcd
  refine ⟨h', ?_, f⟩
  have hU' := hU.move f
  have hC' := hC.move f
  have hR' : hR h' u 2 = c + 1 := by rw [f.2.2.2.1]; exact hRu
  have ew := c_witOf (sc := sc) (pp := pp) u c p h' hU' hR' hC' hp
  have i1 : hI h' u = hI h u := f.I (by simp)
  have i2 : hI h' (c + 8) = hI h (c + 8) := f.I (by simp; omega)
  have i3 : hI h' (c + 11) = hI h (c + 11) := f.I (by simp; omega)
  rw [i1, i2] at ew
  have hcq := nI_clamp (show q < 2 ^ 31 by omega)
  have zq : ¬ nI q < 0 := nI_pos (by omega)
  have yq : ¬ 8 ≤ q := by omega
  generalize hw : worthF h u c s (c + 21) p q cd n = w at e
  unfold hearP
  simp only [x_nil, Nat.reduceAdd, x_aload_n0, x_getR, x_aload_n1, x_iload_n2, x_iload_n3, K_131, bindR_some, toL_s, toL_n, ap_n, ap_c, List.map_nil, List.map_cons, List.sum_nil, List.sum_cons, cat_i, cat_r, cat_l, Nat.reduceLeDiff, Nat.zero_le, Nat.le_refl, x_lstore4, x_lload4, x_ldc2_9223372036854775808, x_lcmp, x_if_eq, x_lconst_0, x_iconst_1, x_goto, x_iconst_0, x_zreturn, x_iald, x_iconst_2, x_icmp_ne, K_126, x_iconst_5, x_icmp_lt, L_145_0, L_145_14, L_145_25, L_145_32, L_145_36, L_145_37, L_145_38, L_145_51, L_145_56, L_145_60, L_145_64, L_145_65, U_k0 hU, hRu, C_k0 hC, C_r0_15 hC, e, U_k0 hU', hR', C_k0 hC', C_r0_7 hC', C_k11 hC', C_n11 hC', i3, ew, hcq, zq, yq, lg_cmp_eq, ne_eq, not_false_eq_true, if_true, if_false, and_self, or_self, true_or, or_true, show (145 : Nat) ≠ 277 from by decide]
  generalize (if hI h u 7 = 0 then hI h (c + 8) p else 9) = wt
  by_cases a1 : w = -9223372036854775808
  · by_cases a2 : hI h (c + 11) q = 2
    · by_cases a3 : wt < 5
      · simp [a1, a2, a3, Int32.not_le.mpr a3]
      · simp [a1, a2, a3, Int32.not_lt.mp a3]
    · simp [a1, a2]
  · by_cases a2 : w = 0
    · simp [a2]
    · simp [a1, a2]
def slipV (w : Int64) (lips : Int32) : Int64 := if w = -9223372036854775808 then 10 * lips.toInt64 else w
def slipB (silent draws num lips : Int32) (w : Int64) : Prop := silent = 0 ∧ ((draws = 0 ∧ 50 ≤ slipV w lips) ∨ (draws ≠ 0 ∧ (slipV w lips ≤ 0 ∨ 100 ≤ slipV w lips) ∧ 0 < slipV w lips) ∨ (draws ≠ 0 ∧ ¬ (slipV w lips ≤ 0 ∨ 100 ≤ slipV w lips) ∧ (drawF num / 65536 - drawF num / 65536 / 100 * 100).toInt64 < slipV w lips))
noncomputable def slipN (silent draws num lips : Int32) (w : Int64) : Int32 := @ite _ (silent = 0 ∧ draws ≠ 0 ∧ ¬ (slipV w lips ≤ 0 ∨ 100 ≤ slipV w lips)) (Classical.propDecidable _) (drawF num) num
theorem c_slips (u c s p q : Nat) (cd : Nat → Nat) (n : Nat) (h : Hp) (hU : isU h u) (hRu : hR h u 2 = c + 1) (hC : isC h c) (hs : isS h s) (hcu : c + 24 ≤ u) (hsu : s + 5 ≤ u) (hp : p < 5) (hq : q < 8) (hcd : codesOK h (c + 18) cd n) : ∃ h', Lm sc pp 148 0 [some (.ref u), some (.ref s), some (.int (nI p)), some (.int (nI q)), none, none] [] 0 0 h = some (h', some (.int (@ite _ (slipB (hI h u 6) (hI h u 3) (hI h s 6) (hI h (c + 7) p) (worthF h u c s (c + 18) p q cd n)) (Classical.propDecidable _) 1 0))) ∧ Fr h h' [u + 1, u + 2, s] ∧ ∀ j, hI h' s j = if j = 6 then slipN (hI h u 6) (hI h u 3) (hI h s 6) (hI h (c + 7) p) (worthF h u c s (c + 18) p q cd n) else hI h s j := by
  by_cases hsil : hI h u 6 = 0
  · obtain ⟨h1, e, f⟩ := c_worth (sc := sc) (pp := pp) u c s (c + 18) p q cd n h hU hRu hC hs hC.a18 (by omega) hcu hsu hp hq hcd
    have hU' := hU.move f
    have hC' := hC.move f
    have hs' := hs.move f
    have hR' : hR h1 u 2 = c + 1 := by rw [f.2.2.2.1]; exact hRu
    have i1 : hI h1 u = hI h u := f.I (by simp)
    have i2 : hI h1 (c + 7) = hI h (c + 7) := f.I (by simp; omega)
    have i3 : hI h1 s = hI h s := f.I (by simp; omega)
    have ed := c_drawNumber (sc := sc) (pp := pp) s h1 hs'
    rw [i3] at ed
    have hcp := nI_clamp (show p < 2 ^ 31 by omega)
    have zp : ¬ nI p < 0 := nI_pos (by omega)
    have yp : ¬ 5 ≤ p := by omega
    generalize hw : worthF h u c s (c + 18) p q cd n = w at e
    have fm : Fr h h1 [u + 1, u + 2, s] := f.mono (by simp)
    by_cases hdr : hI h u 3 = 0
    · refine ⟨h1, ?_, fm, fun j => ?_⟩
      · simp only [x_nil, Nat.reduceAdd, x_aload_n0, x_getZ, x_if_eq, x_iconst_0, x_zreturn, x_getR, x_aload_n1, x_iload_n2, x_iload_n3, K_131, bindR_some, toL_s, toL_n, ap_n, ap_c, List.map_nil, List.map_cons, List.sum_nil, List.sum_cons, cat_i, cat_r, cat_l, Nat.reduceLeDiff, Nat.zero_le, Nat.le_refl, x_lstore4, x_lload4, x_ldc2_9223372036854775808, x_lcmp, x_if_ne, x_ldc2_10, x_iald, x_i2l, x_lmul, x_ldc2_50, x_if_lt, x_iconst_1, x_goto, x_lconst_0, x_if_le, x_ldc2_100, K_147, x_bipush_100, x_irem, L_148_0, L_148_7, L_148_9, L_148_23, L_148_34, L_148_50, L_148_57, L_148_66, L_148_70, L_148_71, L_148_72, L_148_79, L_148_88, L_148_95, L_148_99, L_148_100, L_148_101, L_148_107, L_148_115, L_148_119, L_148_120, U_k0 hU, hRu, C_k0 hC, C_r0_14 hC, hsil, e, U_k0 hU', hR', C_k0 hC', C_r0_3 hC', C_k7 hC', C_n7 hC', i1, i2, hdr, hcp, zp, yp, lg_cmp_eq, lg_cmp_lt, lg_cmp_le, ne_eq, not_true_eq_false, not_false_eq_true, if_true, if_false, and_self, or_self, true_or, or_true, show (148 : Nat) ≠ 277 from by decide]
        unfold slipB slipV
        by_cases a1 : w = -9223372036854775808
        · by_cases a2 : 10 * (hI h (c + 7) p).toInt64 < 50
          · simp [hsil, hdr, a1, a2, Int64.not_le.mpr a2]
          · simp [hsil, hdr, a1, a2, Int64.not_lt.mp a2]
        · by_cases a2 : w < 50
          · simp [hsil, hdr, a1, a2, Int64.not_le.mpr a2]
          · simp [hsil, hdr, a1, a2, Int64.not_lt.mp a2]
      · rw [i3]; unfold slipN; simp [hdr]; intro hj; rw [hj]
    · have main : ∀ (v : Int64) (o5 : Option Value), v = slipV w (hI h (c + 7) p) → ∃ h', Lm sc pp 148 50 [some (.ref u), some (.ref s), some (.int (nI p)), some (.int (nI q)), some (.long v), o5] [] 0 0 h1 = some (h', some (.int (@ite _ (slipB (hI h u 6) (hI h u 3) (hI h s 6) (hI h (c + 7) p) w) (Classical.propDecidable _) 1 0))) ∧ Fr h h' [u + 1, u + 2, s] ∧ ∀ j, hI h' s j = if j = 6 then slipN (hI h u 6) (hI h u 3) (hI h s 6) (hI h (c + 7) p) w else hI h s j := by
        intro v o5 hv
        unfold slipB slipN
        rw [← hv]
        by_cases b1 : v ≤ 0 ∨ 100 ≤ v
        · refine ⟨h1, ?_, fm, fun j => ?_⟩
          · simp only [x_nil, Nat.reduceAdd, x_aload_n0, x_getZ, x_if_eq, x_iconst_0, x_zreturn, x_getR, x_aload_n1, x_iload_n2, x_iload_n3, K_131, bindR_some, toL_s, toL_n, ap_n, ap_c, List.map_nil, List.map_cons, List.sum_nil, List.sum_cons, cat_i, cat_r, cat_l, Nat.reduceLeDiff, Nat.zero_le, Nat.le_refl, x_lstore4, x_lload4, x_ldc2_9223372036854775808, x_lcmp, x_if_ne, x_ldc2_10, x_iald, x_i2l, x_lmul, x_ldc2_50, x_if_lt, x_iconst_1, x_goto, x_lconst_0, x_if_le, x_ldc2_100, K_147, x_bipush_100, x_irem, L_148_7, L_148_9, L_148_23, L_148_34, L_148_50, L_148_57, L_148_66, L_148_70, L_148_71, L_148_72, L_148_79, L_148_88, L_148_95, L_148_99, L_148_100, L_148_101, L_148_107, L_148_115, L_148_119, L_148_120, U_k0 hU', i1, hdr, lg_cmp_eq, lg_cmp_lt, lg_cmp_le, ne_eq, not_true_eq_false, not_false_eq_true, if_true, if_false, true_or, or_true]
            by_cases b2 : v ≤ 0
            · simp [hsil, hdr, b2, Int64.not_lt.mpr b2]
            · have b3 : 100 ≤ v := b1.resolve_left b2
              simp [hsil, hdr, b2, b3, Int64.not_lt.mpr b3, Int64.not_le.mp b2]
          · rw [i3]; simp only [b1, not_true_eq_false, and_false, if_false]; by_cases hj : j = 6
            · rw [hj]; simp
            · simp [hj]
        · have b2 : ¬ v ≤ 0 := fun q => b1 (Or.inl q)
          have b3 : ¬ 100 ≤ v := fun q => b1 (Or.inr q)
          refine ⟨sI h1 s 6 (drawF (hI h s 6)), ?_, fm.trans (Fr_sI (by simp)), fun j => ?_⟩
          · simp only [x_nil, Nat.reduceAdd, x_aload_n0, x_getZ, x_if_eq, x_iconst_0, x_zreturn, x_getR, x_aload_n1, x_iload_n2, x_iload_n3, K_131, bindR_some, toL_s, toL_n, ap_n, ap_c, List.map_nil, List.map_cons, List.sum_nil, List.sum_cons, cat_i, cat_r, cat_l, Nat.reduceLeDiff, Nat.zero_le, Nat.le_refl, x_lstore4, x_lload4, x_ldc2_9223372036854775808, x_lcmp, x_if_ne, x_ldc2_10, x_iald, x_i2l, x_lmul, x_ldc2_50, x_if_lt, x_iconst_1, x_goto, x_lconst_0, x_if_le, x_ldc2_100, K_147, x_bipush_100, x_irem, L_148_7, L_148_9, L_148_23, L_148_34, L_148_50, L_148_57, L_148_66, L_148_70, L_148_71, L_148_72, L_148_79, L_148_88, L_148_95, L_148_99, L_148_100, L_148_101, L_148_107, L_148_115, L_148_119, L_148_120, U_k0 hU', S_k0 hs', ed, i1, hdr, b2, Int64.not_le.mp b3, lg_cmp_eq, lg_cmp_lt, lg_cmp_le, ne_eq, not_true_eq_false, not_false_eq_true, if_true, if_false, true_or, or_true, show ¬ (100 : Int32) = 0 from by decide]
            by_cases b4 : v ≤ (drawF (hI h s 6) / 65536 - drawF (hI h s 6) / 65536 / 100 * 100).toInt64
            · simp [hsil, hdr, b1, b2, b3, b4, Int64.not_lt.mpr b4]
            · simp [hsil, hdr, b1, b2, b3, b4, Int64.not_le.mp b4]
          · simp only [hI_sI, i3, hsil, b1]; simp [hdr]
      by_cases a1 : w = -9223372036854775808
      · obtain ⟨h', e9, r9⟩ := main (10 * (hI h (c + 7) p).toInt64) none (by simp [slipV, a1])
        refine ⟨h', ?_, r9⟩
        simp only [x_nil, Nat.reduceAdd, x_aload_n0, x_getZ, x_if_eq, x_iconst_0, x_zreturn, x_getR, x_aload_n1, x_iload_n2, x_iload_n3, K_131, bindR_some, toL_s, toL_n, ap_n, ap_c, List.map_nil, List.map_cons, List.sum_nil, List.sum_cons, cat_i, cat_r, cat_l, Nat.reduceLeDiff, Nat.zero_le, Nat.le_refl, x_lstore4, x_lload4, x_ldc2_9223372036854775808, x_lcmp, x_if_ne, x_ldc2_10, x_iald, x_i2l, x_lmul, x_ldc2_50, x_if_lt, x_iconst_1, x_goto, x_lconst_0, x_if_le, x_ldc2_100, K_147, x_bipush_100, x_irem, L_148_0, L_148_7, L_148_9, L_148_23, L_148_34, L_148_57, L_148_66, L_148_70, L_148_71, L_148_72, L_148_79, L_148_88, L_148_95, L_148_99, L_148_100, L_148_101, L_148_107, L_148_115, L_148_119, L_148_120, U_k0 hU, hRu, C_k0 hC, C_r0_14 hC, hsil, e, hR', U_k0 hU', C_k0 hC', C_r0_3 hC', C_k7 hC', C_n7 hC', i2, hcp, zp, yp, lg_cmp_eq, a1, ne_eq, not_true_eq_false, not_false_eq_true, if_true, if_false, and_self, or_self, show (148 : Nat) ≠ 277 from by decide]
        exact e9
      · obtain ⟨h', e9, r9⟩ := main w none (by simp [slipV, a1])
        refine ⟨h', ?_, r9⟩
        simp only [x_nil, Nat.reduceAdd, x_aload_n0, x_getZ, x_if_eq, x_iconst_0, x_zreturn, x_getR, x_aload_n1, x_iload_n2, x_iload_n3, K_131, bindR_some, toL_s, toL_n, ap_n, ap_c, List.map_nil, List.map_cons, List.sum_nil, List.sum_cons, cat_i, cat_r, cat_l, Nat.reduceLeDiff, Nat.zero_le, Nat.le_refl, x_lstore4, x_lload4, x_ldc2_9223372036854775808, x_lcmp, x_if_ne, x_ldc2_10, x_iald, x_i2l, x_lmul, x_ldc2_50, x_if_lt, x_iconst_1, x_goto, x_lconst_0, x_if_le, x_ldc2_100, K_147, x_bipush_100, x_irem, L_148_0, L_148_7, L_148_9, L_148_23, L_148_34, L_148_57, L_148_66, L_148_70, L_148_71, L_148_72, L_148_79, L_148_88, L_148_95, L_148_99, L_148_100, L_148_101, L_148_107, L_148_115, L_148_119, L_148_120, U_k0 hU, hRu, C_k0 hC, C_r0_14 hC, hsil, e, lg_cmp_eq, a1, ne_eq, not_true_eq_false, not_false_eq_true, if_true, if_false]
        exact e9
  · refine ⟨h, ?_, Fr.refl _ _, fun j => ?_⟩
    · simp only [x_nil, Nat.reduceAdd, x_aload_n0, x_getZ, x_if_eq, x_iconst_0, x_zreturn, x_getR, x_aload_n1, x_iload_n2, x_iload_n3, K_131, bindR_some, toL_s, toL_n, ap_n, ap_c, List.map_nil, List.map_cons, List.sum_nil, List.sum_cons, cat_i, cat_r, cat_l, Nat.reduceLeDiff, Nat.zero_le, Nat.le_refl, x_lstore4, x_lload4, x_ldc2_9223372036854775808, x_lcmp, x_if_ne, x_ldc2_10, x_iald, x_i2l, x_lmul, x_ldc2_50, x_if_lt, x_iconst_1, x_goto, x_lconst_0, x_if_le, x_ldc2_100, K_147, x_bipush_100, x_irem, L_148_0, L_148_7, L_148_9, L_148_23, L_148_34, L_148_50, L_148_57, L_148_66, L_148_70, L_148_71, L_148_72, L_148_79, L_148_88, L_148_95, L_148_99, L_148_100, L_148_101, L_148_107, L_148_115, L_148_119, L_148_120, U_k0 hU, hsil, true_or, if_true, if_false]
      simp [slipB, hsil]
    · unfold slipN; simp [hsil]; intro hj; rw [hj]
end T24
