-- State, the rest; Names; Court
section T19
variable {sc : Nat × (Nat → Int32)} {pp : Nat → Nat → Int32 → Int32 → Hp → Option (Hp × Int32)}
theorem L_35_0 (lv : Lv) (st : List Value) (cu su : Nat) (h : Hp) : Lm sc pp 35 0 lv st cu su h = exS sc pp (Lm sc pp) 35 0 [(.iconst 0, 1, []), (.istore_n 2, 1, [])] lv st cu su h := Lm_eq (by decide) (by rfl) lv st cu su h
theorem L_35_2 (lv : Lv) (st : List Value) (cu su : Nat) (h : Hp) : Lm sc pp 35 2 lv st cu su h = exS sc pp (Lm sc pp) 35 2 [(.iload_n 2, 1, []), (.aload_n 0, 1, []), (.getfield 25, 3, [4, 2, 0, 327, 0]), (.if_icmp .ge 21, 3, [28])] lv st cu su h := Lm_eq (by decide) (by rfl) lv st cu su h
theorem L_35_10 (lv : Lv) (st : List Value) (cu su : Nat) (h : Hp) : Lm sc pp 35 10 lv st cu su h = exS sc pp (Lm sc pp) 35 10 [(.aload_n 0, 1, []), (.getfield 9, 3, [4, 0, 2, 325, 0]), (.iload_n 2, 1, []), (.iaload, 1, []), (.iload_n 1, 1, []), (.if_icmp .ne 5, 3, [22])] lv st cu su h := Lm_eq (by decide) (by rfl) lv st cu su h
theorem L_35_20 (lv : Lv) (st : List Value) (cu su : Nat) (h : Hp) : Lm sc pp 35 20 lv st cu su h = exS sc pp (Lm sc pp) 35 20 [(.iload_n 2, 1, []), (.ireturn, 1, [0])] lv st cu su h := Lm_eq (by decide) (by rfl) lv st cu su h
theorem L_35_22 (lv : Lv) (st : List Value) (cu su : Nat) (h : Hp) : Lm sc pp 35 22 lv st cu su h = exS sc pp (Lm sc pp) 35 22 [(.iinc 2 1, 3, []), (.goto (-23), 3, [2])] lv st cu su h := Lm_eq (by decide) (by rfl) lv st cu su h
theorem L_35_28 (lv : Lv) (st : List Value) (cu su : Nat) (h : Hp) : Lm sc pp 35 28 lv st cu su h = exS sc pp (Lm sc pp) 35 28 [(.iconst (-1), 1, []), (.ireturn, 1, [0])] lv st cu su h := Lm_eq (by decide) (by rfl) lv st cu su h
theorem L_118_0 (lv : Lv) (st : List Value) (cu su : Nat) (h : Hp) : Lm sc pp 118 0 lv st cu su h = exS sc pp (Lm sc pp) 118 0 [(.iload_n 0, 1, []), (.iconst (-1), 1, []), (.if_icmp .ne 7, 3, [9])] lv st cu su h := Lm_eq (by decide) (by rfl) lv st cu su h
theorem L_118_5 (lv : Lv) (st : List Value) (cu su : Nat) (h : Hp) : Lm sc pp 118 5 lv st cu su h = exS sc pp (Lm sc pp) 118 5 [(.iconst 0, 1, []), (.goto 6, 3, [12])] lv st cu su h := Lm_eq (by decide) (by rfl) lv st cu su h
theorem L_118_9 (lv : Lv) (st : List Value) (cu su : Nat) (h : Hp) : Lm sc pp 118 9 lv st cu su h = exS sc pp (Lm sc pp) 118 9 [(.iconst 1, 1, []), (.iload_n 0, 1, []), (.ishl, 1, [])] lv st cu su h := Lm_eq (by decide) (by rfl) lv st cu su h
theorem L_118_12 (lv : Lv) (st : List Value) (cu su : Nat) (h : Hp) : Lm sc pp 118 12 lv st cu su h = exS sc pp (Lm sc pp) 118 12 [(.ireturn, 1, [0])] lv st cu su h := Lm_eq (by decide) (by rfl) lv st cu su h
theorem L_119_0 (lv : Lv) (st : List Value) (cu su : Nat) (h : Hp) : Lm sc pp 119 0 lv st cu su h = exS sc pp (Lm sc pp) 119 0 [(.aload_n 0, 1, []), (.getfield 42, 3, [0, 8, 2, 393, 0]), (.iload_n 1, 1, []), (.iaload, 1, []), (.invokestatic 87, 3, [118, 1, 937, 0, 1, 0, 0, 0, 0, 0])] lv st cu su h := Lm_eq (by decide) (by rfl) lv st cu su h
theorem L_119_9 (lv : Lv) (st : List Value) (cu su : Nat) (h : Hp) : Lm sc pp 119 9 lv st cu su h = exS sc pp (Lm sc pp) 119 9 [(.istore_n 2, 1, []), (.aload_n 0, 1, []), (.getfield 39, 3, [0, 7, 2, 389, 0]), (.iload_n 1, 1, []), (.iaload, 1, []), (.iconst 1, 1, []), (.if_icmp .ne 17, 3, [34])] lv st cu su h := Lm_eq (by decide) (by rfl) lv st cu su h
theorem L_119_20 (lv : Lv) (st : List Value) (cu su : Nat) (h : Hp) : Lm sc pp 119 20 lv st cu su h = exS sc pp (Lm sc pp) 119 20 [(.iload_n 2, 1, []), (.aload_n 0, 1, []), (.getfield 45, 3, [0, 9, 2, 396, 0]), (.iload_n 1, 1, []), (.iaload, 1, []), (.invokestatic 87, 3, [118, 1, 937, 0, 1, 0, 0, 0, 0, 0])] lv st cu su h := Lm_eq (by decide) (by rfl) lv st cu su h
theorem L_119_30 (lv : Lv) (st : List Value) (cu su : Nat) (h : Hp) : Lm sc pp 119 30 lv st cu su h = exS sc pp (Lm sc pp) 119 30 [(.ior, 1, []), (.goto 4, 3, [35])] lv st cu su h := Lm_eq (by decide) (by rfl) lv st cu su h
theorem L_119_34 (lv : Lv) (st : List Value) (cu su : Nat) (h : Hp) : Lm sc pp 119 34 lv st cu su h = exS sc pp (Lm sc pp) 119 34 [(.iload_n 2, 1, [])] lv st cu su h := Lm_eq (by decide) (by rfl) lv st cu su h
theorem L_119_35 (lv : Lv) (st : List Value) (cu su : Nat) (h : Hp) : Lm sc pp 119 35 lv st cu su h = exS sc pp (Lm sc pp) 119 35 [(.ireturn, 1, [0])] lv st cu su h := Lm_eq (by decide) (by rfl) lv st cu su h

theorem nI_self {k : Nat} (h : k < 2 ^ 31) : nI k ≤ nI k := nI_le (Nat.le_refl k) h
theorem c_knowers (s n : Nat) (f : Int32) (h : Hp) (hs : isS h s) (hn : hI h s 7 = nI n) (h5 : n ≤ 5) : Lm sc pp 181 0 [some (.ref s), some (.int f), none, none] [] 0 0 h = some (h, some (.int (orN (fun p => ((hI h (s + 1) p >>> (f &&& 31)) &&& 1) <<< (nI p &&& 31)) n))) := by
  have loop : ∀ (m k : Nat), k + m = n → Lm sc pp 181 4 [some (.ref s), some (.int f), some (.int (orN (fun p => ((hI h (s + 1) p >>> (f &&& 31)) &&& 1) <<< (nI p &&& 31)) k)), some (.int (nI k))] [] 0 0 h = some (h, some (.int (orN (fun p => ((hI h (s + 1) p >>> (f &&& 31)) &&& 1) <<< (nI p &&& 31)) n))) := by
    intro m
    induction m with
    | zero =>
      intro k hk
      have : k = n := by omega
      subst this
      rw [L_181_4]
      simp only [x_nil, Nat.reduceAdd, x_iconst_0, x_istore_n2, x_istore_n3, x_iload_n3, x_aload_n0, x_getI, x_icmp_ge, x_iload_n2, x_getR, x_iald, x_iload_n1, x_ishr, x_iconst_1, x_iand, x_ishl, x_ior, x_iinc3, x_goto, x_ireturn, L_181_0, L_181_12, L_181_33, S_k0 hs, S_k1 hs, S_k2 hs, S_k3 hs, S_k4 hs, S_n1 hs, S_n2 hs, S_n3 hs, S_n4 hs, S_r0_0 hs, S_r0_1 hs, S_r0_2 hs, S_r0_3 hs, hn, if_true, nI_self (show k < 2 ^ 31 by omega)]
    | succ m ih =>
      intro k hk
      have hc := nI_clamp (show k < 2 ^ 31 by omega)
      have z0 : ¬ nI k < 0 := nI_pos (by omega)
      have z5 : ¬ 5 ≤ k := by omega
      have zc : ¬ nI n ≤ nI k := nI_ge (by omega) (by omega)
      rw [L_181_4]
      simp only [x_nil, Nat.reduceAdd, x_iconst_0, x_istore_n2, x_istore_n3, x_iload_n3, x_aload_n0, x_getI, x_icmp_ge, x_iload_n2, x_getR, x_iald, x_iload_n1, x_ishr, x_iconst_1, x_iand, x_ishl, x_ior, x_iinc3, x_goto, x_ireturn, L_181_0, L_181_12, L_181_33, S_k0 hs, S_k1 hs, S_k2 hs, S_k3 hs, S_k4 hs, S_n1 hs, S_n2 hs, S_n3 hs, S_n4 hs, S_r0_0 hs, S_r0_1 hs, S_r0_2 hs, S_r0_3 hs, hn, z0, z5, zc, hc, ofInt1, nI_1, if_true, if_false, ne_eq, not_false_eq_true, and_self, or_self, show (181 : Nat) ≠ 277 from by decide]
      exact ih (k + 1) (by omega)
  have l0 := loop n 0 (by omega)
  rw [L_181_0]
  simp only [x_nil, Nat.reduceAdd, x_iconst_0, x_istore_n2, x_istore_n3]
  exact l0
theorem c_lostInSum (s n : Nat) (h : Hp) (hs : isS h s) (hn : hI h s 7 = nI n) (h5 : n ≤ 5) : Lm sc pp 274 0 [some (.ref s), none, none] [] 0 0 h = some (h, some (.int (sumN (fun p => hI h (s + 3) p) n))) := by
  have loop : ∀ (m k : Nat), k + m = n → Lm sc pp 274 4 [some (.ref s), some (.int (sumN (fun p => hI h (s + 3) p) k)), some (.int (nI k))] [] 0 0 h = some (h, some (.int (sumN (fun p => hI h (s + 3) p) n))) := by
    intro m
    induction m with
    | zero =>
      intro k hk
      have : k = n := by omega
      subst this
      rw [L_274_4]
      simp only [x_nil, Nat.reduceAdd, x_iconst_0, x_istore_n1, x_istore_n2, x_iload_n2, x_aload_n0, x_getI, x_icmp_ge, x_iload_n1, x_getR, x_iald, x_iadd, x_iinc2, x_goto, x_ireturn, L_274_0, L_274_12, L_274_27, S_k0 hs, S_k1 hs, S_k2 hs, S_k3 hs, S_k4 hs, S_n1 hs, S_n2 hs, S_n3 hs, S_n4 hs, S_r0_0 hs, S_r0_1 hs, S_r0_2 hs, S_r0_3 hs, hn, if_true, nI_self (show k < 2 ^ 31 by omega)]
    | succ m ih =>
      intro k hk
      have hc := nI_clamp (show k < 2 ^ 31 by omega)
      have z0 : ¬ nI k < 0 := nI_pos (by omega)
      have z5 : ¬ 5 ≤ k := by omega
      have zc : ¬ nI n ≤ nI k := nI_ge (by omega) (by omega)
      rw [L_274_4]
      simp only [x_nil, Nat.reduceAdd, x_iconst_0, x_istore_n1, x_istore_n2, x_iload_n2, x_aload_n0, x_getI, x_icmp_ge, x_iload_n1, x_getR, x_iald, x_iadd, x_iinc2, x_goto, x_ireturn, L_274_0, L_274_12, L_274_27, S_k0 hs, S_k1 hs, S_k2 hs, S_k3 hs, S_k4 hs, S_n1 hs, S_n2 hs, S_n3 hs, S_n4 hs, S_r0_0 hs, S_r0_1 hs, S_r0_2 hs, S_r0_3 hs, hn, z0, z5, zc, hc, ofInt1, nI_1, if_true, if_false, ne_eq, not_false_eq_true, and_self, or_self, show (274 : Nat) ≠ 277 from by decide]
      exact ih (k + 1) (by omega)
  have l0 := loop n 0 (by omega)
  rw [L_274_0]
  simp only [x_nil, Nat.reduceAdd, x_iconst_0, x_istore_n1, x_istore_n2]
  exact l0
def drawF (x : Int32) : Int32 := x * 1103515245 + 12345 &&& 2147483647
theorem c_drawNumber (s : Nat) (h : Hp) (hs : isS h s) : Lm sc pp 147 0 [some (.ref s)] [] 0 0 h = some (sI h s 6 (drawF (hI h s 6)), some (.int (drawF (hI h s 6) / 65536))) := by
  simp only [x_nil, Nat.reduceAdd, x_aload_n0, x_getI, x_ldc_1103515245, x_imul, x_sipush_12345, x_iadd, x_ldc_2147483647, x_iand, x_putI, x_ldc_65536, x_idiv, x_ireturn, L_147_0, S_k0 hs, S_k1 hs, S_k2 hs, S_k3 hs, S_k4 hs, S_n1 hs, S_n2 hs, S_n3 hs, S_n4 hs, S_r0_0 hs, S_r0_1 hs, S_r0_2 hs, S_r0_3 hs, kd_sI, hI_eq, if_true, show ¬ (65536 : Int32) = 0 from by decide, if_false, drawF]
theorem c_gather (s n : Nat) (h : Hp) (hs : isS h s) (hn : hI h s 7 = nI n) (h5 : n ≤ 5) : ∃ h', Lm sc pp 263 0 [some (.ref s), none] [] 0 0 h = some (h', none) ∧ Fr h h' [s + 2] ∧ ∀ p, hI h' (s + 2) p = if p < n then 0 else hI h (s + 2) p := by
  have loop : ∀ (m k : Nat) (h : Hp), k + m = n → isS h s → hI h s 7 = nI n → ∃ h', Lm sc pp 263 2 [some (.ref s), some (.int (nI k))] [] 0 0 h = some (h', none) ∧ Fr h h' [s + 2] ∧ ∀ p, hI h' (s + 2) p = if k ≤ p ∧ p < n then 0 else hI h (s + 2) p := by
    intro m
    induction m with
    | zero =>
      intro k h hk hs hn
      have : k = n := by omega
      subst this
      refine ⟨h, ?_, Fr.refl _ _, fun p => by rw [if_neg (by omega)]⟩
      rw [L_263_2]
      simp only [x_nil, Nat.reduceAdd, x_iconst_0, x_istore_n1, x_iload_n1, x_aload_n0, x_getI, x_icmp_ge, x_getR, x_iast, x_iinc1, x_goto, x_return, L_263_0, L_263_10, L_263_23, S_k0 hs, S_k1 hs, S_k2 hs, S_k3 hs, S_k4 hs, S_n1 hs, S_n2 hs, S_n3 hs, S_n4 hs, S_r0_0 hs, S_r0_1 hs, S_r0_2 hs, S_r0_3 hs, hn, if_true, nI_self (show k < 2 ^ 31 by omega)]
    | succ m ih =>
      intro k h hk hs hn
      have hc := nI_clamp (show k < 2 ^ 31 by omega)
      have z0 : ¬ nI k < 0 := nI_pos (by omega)
      have z5 : ¬ 5 ≤ k := by omega
      have zc : ¬ nI n ≤ nI k := nI_ge (by omega) (by omega)
      have fr : Fr h (sI h (s + 2) k 0) [s + 2] := Fr_sI (by simp)
      obtain ⟨h', e, f, v⟩ := ih (k + 1) (sI h (s + 2) k 0) (by omega) (hs.move fr) (by rw [hI_ne (by omega)]; exact hn)
      refine ⟨h', ?_, fr.trans f, fun p => ?_⟩
      · rw [L_263_2]
        simp only [x_nil, Nat.reduceAdd, x_iconst_0, x_istore_n1, x_iload_n1, x_aload_n0, x_getI, x_icmp_ge, x_getR, x_iast, x_iinc1, x_goto, x_return, L_263_0, L_263_10, L_263_23, S_k0 hs, S_k1 hs, S_k2 hs, S_k3 hs, S_k4 hs, S_n1 hs, S_n2 hs, S_n3 hs, S_n4 hs, S_r0_0 hs, S_r0_1 hs, S_r0_2 hs, S_r0_3 hs, hn, z0, z5, zc, hc, ofInt1, nI_1, if_true, if_false, ne_eq, not_false_eq_true, and_self, or_self]
        exact e
      · rw [v p]; simp only [hI_sI]; grind
  obtain ⟨h', e, f, v⟩ := loop n 0 h (by omega) hs hn
  refine ⟨h', ?_, f, fun p => by rw [v p]; simp⟩
  rw [L_263_0]
  simp only [x_nil, Nat.reduceAdd, x_iconst_0, x_istore_n1]
  exact e
theorem c_beginDay (s : Nat) (d : Int32) (h : Hp) (hs : isS h s) : ∃ h', Lm sc pp 63 0 [some (.ref s), some (.int d), none] [] 0 0 h = some (h', none) ∧ Fr h h' [s, s + 4] ∧ (∀ p, hI h' (s + 4) p = if p < 5 then 0 else hI h (s + 4) p) ∧ ∀ j, hI h' s j = if j = 4 then d else hI h s j := by
  have loop : ∀ (m k : Nat) (h : Hp), k + m = 5 → isS h s → ∃ h', Lm sc pp 63 7 [some (.ref s), some (.int d), some (.int (nI k))] [] 0 0 h = some (h', none) ∧ Fr h h' [s + 4] ∧ ∀ p, hI h' (s + 4) p = if k ≤ p ∧ p < 5 then 0 else hI h (s + 4) p := by
    intro m
    induction m with
    | zero =>
      intro k h hk hs
      have : k = 5 := by omega
      subst this
      refine ⟨h, ?_, Fr.refl _ _, fun p => by rw [if_neg (by omega)]⟩
      rw [L_63_7]
      simp only [x_nil, Nat.reduceAdd, x_aload_n0, x_iload_n1, x_putI, x_iconst_0, x_istore_n2, x_iload_n2, x_iconst_5, x_icmp_ge, x_getR, x_iast, x_iinc2, x_goto, x_return, L_63_0, L_63_12, L_63_25, S_k0 hs, S_k1 hs, S_k2 hs, S_k3 hs, S_k4 hs, S_n1 hs, S_n2 hs, S_n3 hs, S_n4 hs, S_r0_0 hs, S_r0_1 hs, S_r0_2 hs, S_r0_3 hs, if_true, show (5 : Int32) ≤ nI 5 from by decide]
    | succ m ih =>
      intro k h hk hs
      have hc := nI_clamp (show k < 2 ^ 31 by omega)
      have z0 : ¬ nI k < 0 := nI_pos (by omega)
      have z5 : ¬ 5 ≤ k := by omega
      have zc : ¬ (5 : Int32) ≤ nI k := nI_ge (show k < 5 by omega) (by decide)
      have fr : Fr h (sI h (s + 4) k 0) [s + 4] := Fr_sI (by simp)
      obtain ⟨h', e, f, v⟩ := ih (k + 1) (sI h (s + 4) k 0) (by omega) (hs.move fr)
      refine ⟨h', ?_, fr.trans f, fun p => ?_⟩
      · rw [L_63_7]
        simp only [x_nil, Nat.reduceAdd, x_aload_n0, x_iload_n1, x_putI, x_iconst_0, x_istore_n2, x_iload_n2, x_iconst_5, x_icmp_ge, x_getR, x_iast, x_iinc2, x_goto, x_return, L_63_0, L_63_12, L_63_25, S_k0 hs, S_k1 hs, S_k2 hs, S_k3 hs, S_k4 hs, S_n1 hs, S_n2 hs, S_n3 hs, S_n4 hs, S_r0_0 hs, S_r0_1 hs, S_r0_2 hs, S_r0_3 hs, z0, z5, zc, hc, ofInt1, nI_1, if_true, if_false, ne_eq, not_false_eq_true, and_self, or_self]
        exact e
      · rw [v p]; simp only [hI_sI]; grind
  have fr : Fr h (sI h s 4 d) [s] := Fr_sI (by simp)
  obtain ⟨h', e, f, v⟩ := loop 5 0 (sI h s 4 d) (by omega) (hs.move fr)
  refine ⟨h', ?_, (fr.mono (by simp)).trans (f.mono (by simp)), fun p => ?_, fun j => ?_⟩
  · rw [L_63_0]
    simp only [x_nil, Nat.reduceAdd, x_aload_n0, x_iload_n1, x_putI, S_k0 hs, S_k1 hs, S_k2 hs, S_k3 hs, S_k4 hs, S_n1 hs, S_n2 hs, S_n3 hs, S_n4 hs, S_r0_0 hs, S_r0_1 hs, S_r0_2 hs, S_r0_3 hs, if_true, x_iconst_0, x_istore_n2]
    exact e
  · rw [v p]; simp only [hI_sI]; grind
  · rw [f.I (by simp)]; simp only [hI_sI]; grind
end T19
