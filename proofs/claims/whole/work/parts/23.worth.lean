-- E for a person by a question
section T23
variable {sc : Nat × (Nat → Int32)} {pp : Nat → Nat → Int32 → Int32 → Hp → Option (Hp × Int32)}
theorem L_131_0 (lv : Lv) (st : List Value) (cu su : Nat) (h : Hp) : Lm sc pp 131 0 lv st cu su h = exS sc pp (Lm sc pp) 131 0 [(.aload_n 1, 1, []), (.getfield 133, 3, [2, 3, 3, 350, 1]), (.ifCond .ne 7, 3, [11])] lv st cu su h := Lm_eq (by decide) (by rfl) lv st cu su h
theorem L_131_7 (lv : Lv) (st : List Value) (cu su : Nat) (h : Hp) : Lm sc pp 131 7 lv st cu su h = exS sc pp (Lm sc pp) 131 7 [(.ldc2_w 109, 3, [9223372036854775808, 949]), (.lreturn, 1, [])] lv st cu su h := Lm_eq (by decide) (by rfl) lv st cu su h
theorem L_131_11 (lv : Lv) (st : List Value) (cu su : Nat) (h : Hp) : Lm sc pp 131 11 lv st cu su h = exS sc pp (Lm sc pp) 131 11 [(.aload_n 0, 1, []), (.getfield 11, 3, [6, 0, 2, 622, 0]), (.iconst 0, 1, []), (.aload_n 0, 1, []), (.getfield 25, 3, [6, 2, 2, 624, 0]), (.getfield 119, 3, [0, 3, 2, 378, 1]), (.iload_n 3, 1, []), (.iaload, 1, []), (.iastore, 1, []), (.aload_n 0, 1, []), (.getfield 11, 3, [6, 0, 2, 622, 0]), (.iconst 1, 1, []), (.aload_n 0, 1, []), (.iload_n 3, 1, []), (.invokevirtual 111, 3, [126, 2, 950, 0, 2, 0, 0, 0, 0, 6])] lv st cu su h := Lm_eq (by decide) (by rfl) lv st cu su h
theorem L_131_36 (lv : Lv) (st : List Value) (cu su : Nat) (h : Hp) : Lm sc pp 131 36 lv st cu su h = exS sc pp (Lm sc pp) 131 36 [(.iastore, 1, []), (.aload_n 0, 1, []), (.getfield 11, 3, [6, 0, 2, 622, 0]), (.iconst 2, 1, []), (.aload_n 2, 1, []), (.getfield 98, 3, [8, 2, 2, 173, 1]), (.iload_n 3, 1, []), (.iaload, 1, []), (.iastore, 1, []), (.aload_n 0, 1, []), (.getfield 11, 3, [6, 0, 2, 622, 0]), (.iconst 3, 1, []), (.aload_n 2, 1, []), (.getfield 63, 3, [8, 0, 2, 166, 1]), (.iload_n 3, 1, []), (.iaload, 1, []), (.invokestatic 138, 3, [127, 1, 954, 0, 1, 0, 0, 0, 0, 99])] lv st cu su h := Lm_eq (by decide) (by rfl) lv st cu su h
theorem L_131_63 (lv : Lv) (st : List Value) (cu su : Nat) (h : Hp) : Lm sc pp 131 63 lv st cu su h = exS sc pp (Lm sc pp) 131 63 [(.iastore, 1, []), (.aload_n 0, 1, []), (.getfield 11, 3, [6, 0, 2, 622, 0]), (.iconst 4, 1, []), (.aload_n 2, 1, []), (.getfield 56, 3, [8, 1, 2, 170, 1]), (.iload_n 3, 1, []), (.iaload, 1, []), (.iastore, 1, []), (.aload_n 0, 1, []), (.getfield 11, 3, [6, 0, 2, 622, 0]), (.iconst 5, 1, []), (.aload_n 0, 1, []), (.getfield 25, 3, [6, 2, 2, 624, 0]), (.getfield 88, 3, [0, 7, 2, 390, 1]), (.iload 4, 2, []), (.iaload, 1, []), (.iastore, 1, []), (.aload_n 0, 1, []), (.getfield 11, 3, [6, 0, 2, 622, 0]), (.bipush 6, 2, []), (.aload_n 2, 1, []), (.getfield 143, 3, [8, 4, 0, 180, 1]), (.iastore, 1, []), (.aload_n 1, 1, []), (.aload_n 0, 1, []), (.getfield 11, 3, [6, 0, 2, 622, 0]), (.aload_n 0, 1, []), (.getfield 17, 3, [6, 1, 2, 623, 0]), (.invokevirtual 146, 3, [130, 3, 960, 0, 12, 0, 0, 0, 0, 2])] lv st cu su h := Lm_eq (by decide) (by rfl) lv st cu su h
theorem L_131_115 (lv : Lv) (st : List Value) (cu su : Nat) (h : Hp) : Lm sc pp 131 115 lv st cu su h = exS sc pp (Lm sc pp) 131 115 [(.lreturn, 1, [])] lv st cu su h := Lm_eq (by decide) (by rfl) lv st cu su h

def nmF (h : Hp) (u c s p q : Nat) (j : Nat) : Int32 := match j with
  | 0 => hI h (c + 7) p
  | 1 => if hI h u 7 = 0 then hI h (c + 8) p else 9
  | 2 => hI h (s + 3) p
  | 3 => bcE (hI h (s + 1) p)
  | 4 => hI h (s + 2) p
  | 5 => hI h (c + 11) q
  | _ => hI h s 4
def codesOK (h : Hp) (a : Nat) (cd : Nat → Nat) (n : Nat) : Prop := hI h a 2 = nI n ∧ n ≤ 64 ∧ ∀ j, j < n → hI h (a + 1) j = nI (cd j) ∧ (cd j = 26 ∨ (18 ≤ cd j ∧ cd j ≤ 24) ∨ cd j = 17 ∨ cd j = 36 ∨ cd j ∈ [15, 16, 28, 29, 30, 31, 32, 33, 34, 35, 37])
def worthF (h : Hp) (u c s a p q : Nat) (cd : Nat → Nat) (n : Nat) : Int64 := if hI h a 3 = 0 then -9223372036854775808 else lwEnd (lwRun cd (hI h (a + 2)) (nmF h u c s p q) n 0 [])
theorem c_worth (u c s a p q : Nat) (cd : Nat → Nat) (n : Nat) (h : Hp) (hU : isU h u) (hR : hR h u 2 = c + 1) (hC : isC h c) (hs : isS h s) (ha : isA h a) (hau : a + 3 ≤ u) (hcu : c + 24 ≤ u) (hsu : s + 5 ≤ u) (hp : p < 5) (hq : q < 8) (hcd : codesOK h a cd n) : ∃ h', Lm sc pp 131 0 [some (.ref u), some (.ref a), some (.ref s), some (.int (nI p)), some (.int (nI q))] [] 0 0 h = some (h', some (.long (worthF h u c s a p q cd n))) ∧ Fr h h' [u + 1, u + 2] := by
  unfold worthF
  by_cases ht : hI h a 3 = 0
  · refine ⟨h, ?_, Fr.refl _ _⟩
    simp only [x_nil, Nat.reduceAdd, x_aload_n1, x_getZ, x_if_ne, x_ldc2_9223372036854775808, x_lreturn, x_aload_n0, x_getR, x_iconst_0, x_iload_n3, x_iald, x_iast, x_iconst_1, K_126, bindR_some, toL_s, toL_n, ap_n, ap_c, List.map_nil, List.map_cons, List.sum_nil, List.sum_cons, cat_i, cat_r, cat_l, Nat.reduceLeDiff, Nat.zero_le, Nat.le_refl, x_iconst_2, x_aload_n2, x_iconst_3, K_127, x_iconst_4, x_iconst_5, x_iload4, x_bipush_6, x_getI, K_130, L_131_0, L_131_7, L_131_11, L_131_36, L_131_63, L_131_115, A_k0 ha, ht, ne_eq, not_true_eq_false, if_true, if_false]
  · have hcp := nI_clamp (show p < 2 ^ 31 by omega)
    have zp : ¬ nI p < 0 := nI_pos (by omega)
    have yp : ¬ 5 ≤ p := by omega
    have hcq := nI_clamp (show q < 2 ^ 31 by omega)
    have zq : ¬ nI q < 0 := nI_pos (by omega)
    have yq : ¬ 8 ≤ q := by omega
    have fr : Fr h (sI (sI (sI (sI (sI (sI (sI h (u + 1) 0 (nmF h u c s p q 0)) (u + 1) 1 (nmF h u c s p q 1)) (u + 1) 2 (nmF h u c s p q 2)) (u + 1) 3 (nmF h u c s p q 3)) (u + 1) 4 (nmF h u c s p q 4)) (u + 1) 5 (nmF h u c s p q 5)) (u + 1) 6 (nmF h u c s p q 6)) [u + 1, u + 2] := by
      refine (((((((Fr_sI (by simp)).trans (Fr_sI (by simp))).trans (Fr_sI (by simp))).trans (Fr_sI (by simp))).trans (Fr_sI (by simp))).trans (Fr_sI (by simp))).trans (Fr_sI (by simp)))
    generalize hh : (sI (sI (sI (sI (sI (sI (sI h (u + 1) 0 (nmF h u c s p q 0)) (u + 1) 1 (nmF h u c s p q 1)) (u + 1) 2 (nmF h u c s p q 2)) (u + 1) 3 (nmF h u c s p q 3)) (u + 1) 4 (nmF h u c s p q 4)) (u + 1) 5 (nmF h u c s p q 5)) (u + 1) 6 (nmF h u c s p q 6)) = h1 at fr
    have i1 : ∀ k, k ≤ u → hI h1 k = hI h k := fun k hk => fr.I (by simp; omega)
    obtain ⟨h', e, f⟩ := c_value (sc := sc) (pp := pp) a (u + 1) (u + 2) (nmF h u c s p q) cd n hcd.2.1 (by omega) (by omega) h1 (ha.move fr) (by rw [fr.kd]; exact U_k1 hU) (by rw [fr.2.2.1]; exact U_n1 hU) (by rw [fr.kd]; exact U_k2 hU) (by rw [fr.2.2.1]; exact U_n2 hU) (by rw [i1 a (by omega)]; exact hcd.1) (by rw [i1 (a + 1) (by omega)]; exact hcd.2.2) (by
      intro j hj
      rw [← hh]
      simp only [hI_sI]
      rcases (by omega : j = 0 ∨ j = 1 ∨ j = 2 ∨ j = 3 ∨ j = 4 ∨ j = 5 ∨ j = 6) with rfl | rfl | rfl | rfl | rfl | rfl | rfl <;> simp)
    rw [i1 (a + 2) (by omega)] at e
    refine ⟨h', ?_, fr.trans (f.mono (by simp))⟩
    rw [if_neg ht]
    simp only [x_nil, Nat.reduceAdd, x_aload_n1, x_getZ, x_if_ne, x_ldc2_9223372036854775808, x_lreturn, x_aload_n0, x_getR, x_iconst_0, x_iload_n3, x_iald, x_iast, x_iconst_1, K_126, bindR_some, toL_s, toL_n, ap_n, ap_c, List.map_nil, List.map_cons, List.sum_nil, List.sum_cons, cat_i, cat_r, cat_l, Nat.reduceLeDiff, Nat.zero_le, Nat.le_refl, x_iconst_2, x_aload_n2, x_iconst_3, K_127, x_iconst_4, x_iconst_5, x_iload4, x_bipush_6, x_getI, K_130, L_131_0, L_131_7, L_131_11, L_131_36, L_131_63, L_131_115, A_k0 ha, ht, U_k0 hU, U_k1 hU, U_n1 hU, U_r0_0 hU, U_r0_1 hU, hR, C_k0 hC, C_r0_3 hC, C_r0_7 hC, C_k7 hC, C_n7 hC, C_k11 hC, C_n11 hC, S_k0 hs, S_k1 hs, S_k2 hs, S_k3 hs, S_k4 hs, S_n1 hs, S_n2 hs, S_n3 hs, S_n4 hs, S_r0_0 hs, S_r0_1 hs, S_r0_2 hs, S_r0_3 hs, kd_sI, hN_sI, hR_sI, hcp, zp, yp, hcq, zq, yq, c_bitCount, ne_eq, not_false_eq_true, if_true, if_false, and_self, or_self, show (131 : Nat) ≠ 277 from by decide, show ¬ (0 : Int32) < 0 from by decide, show ¬ (1 : Int32) < 0 from by decide, show ¬ (2 : Int32) < 0 from by decide, show ¬ (3 : Int32) < 0 from by decide, show ¬ (4 : Int32) < 0 from by decide, show ¬ (5 : Int32) < 0 from by decide, show ¬ (6 : Int32) < 0 from by decide, show (0 : Int32).toNatClampNeg = 0 from by decide, show (1 : Int32).toNatClampNeg = 1 from by decide, show (2 : Int32).toNatClampNeg = 2 from by decide, show (3 : Int32).toNatClampNeg = 3 from by decide, show (4 : Int32).toNatClampNeg = 4 from by decide, show (5 : Int32).toNatClampNeg = 5 from by decide, show (6 : Int32).toNatClampNeg = 6 from by decide, Nat.reduceLeDiff]
    have fr0 : Fr h (sI h (u + 1) 0 (hI h (c + 7) p)) [u + 1, u + 2] := Fr_sI (by simp)
    have ew := c_witOf (sc := sc) (pp := pp) u c p (sI h (u + 1) 0 (hI h (c + 7) p)) (hU.move fr0) hR (hC.move fr0) hp
    rw [hI_ne (show u ≠ u + 1 by omega), hI_ne (show c + 8 ≠ u + 1 by omega)] at ew
    have e' := e
    rw [← hh] at e'
    simp only [nmF] at e'
    simp only [ew, x_nil, Nat.reduceAdd, x_aload_n1, x_getZ, x_if_ne, x_ldc2_9223372036854775808, x_lreturn, x_aload_n0, x_getR, x_iconst_0, x_iload_n3, x_iald, x_iast, x_iconst_1, K_126, bindR_some, toL_s, toL_n, ap_n, ap_c, List.map_nil, List.map_cons, List.sum_nil, List.sum_cons, cat_i, cat_r, cat_l, Nat.reduceLeDiff, Nat.zero_le, Nat.le_refl, x_iconst_2, x_aload_n2, x_iconst_3, K_127, x_iconst_4, x_iconst_5, x_iload4, x_bipush_6, x_getI, K_130, L_131_0, L_131_7, L_131_11, L_131_36, L_131_63, L_131_115, A_k0 ha, ht, U_k0 hU, U_k1 hU, U_n1 hU, U_r0_0 hU, U_r0_1 hU, hR, C_k0 hC, C_r0_3 hC, C_r0_7 hC, C_k7 hC, C_n7 hC, C_k11 hC, C_n11 hC, S_k0 hs, S_k1 hs, S_k2 hs, S_k3 hs, S_k4 hs, S_n1 hs, S_n2 hs, S_n3 hs, S_n4 hs, S_r0_0 hs, S_r0_1 hs, S_r0_2 hs, S_r0_3 hs, kd_sI, hN_sI, hR_sI, hcp, zp, yp, hcq, zq, yq, c_bitCount, ne_eq, not_false_eq_true, if_true, if_false, and_self, or_self, show (131 : Nat) ≠ 277 from by decide, show ¬ (0 : Int32) < 0 from by decide, show ¬ (1 : Int32) < 0 from by decide, show ¬ (2 : Int32) < 0 from by decide, show ¬ (3 : Int32) < 0 from by decide, show ¬ (4 : Int32) < 0 from by decide, show ¬ (5 : Int32) < 0 from by decide, show ¬ (6 : Int32) < 0 from by decide, show (0 : Int32).toNatClampNeg = 0 from by decide, show (1 : Int32).toNatClampNeg = 1 from by decide, show (2 : Int32).toNatClampNeg = 2 from by decide, show (3 : Int32).toNatClampNeg = 3 from by decide, show (4 : Int32).toNatClampNeg = 4 from by decide, show (5 : Int32).toNatClampNeg = 5 from by decide, show (6 : Int32).toNatClampNeg = 6 from by decide, Nat.reduceLeDiff, hI_ne (show s + 3 ≠ u + 1 by omega), hI_ne (show s + 1 ≠ u + 1 by omega), hI_ne (show s + 2 ≠ u + 1 by omega), hI_ne (show c + 11 ≠ u + 1 by omega), hI_ne (show s ≠ u + 1 by omega), e']
end T23
