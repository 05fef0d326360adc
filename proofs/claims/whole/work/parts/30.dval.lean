-- the reference: bits, what is supposed, the values of a law
theorem and1 (x : Int32) : (x &&& 1 = 1) = ¬ (x &&& 1 = 0) := by
  have e : x &&& 1 = 0 ∨ x &&& 1 = 1 := by
    have h := BitVec.and_one_eq_setWidth_ofBool_getLsbD (x := x.toBitVec)
    cases hb : x.toBitVec.getLsbD 0 with
    | false => left; apply Int32.toBitVec_inj.mp; rw [Int32.toBitVec_and]; rw [hb] at h; exact h
    | true => right; apply Int32.toBitVec_inj.mp; rw [Int32.toBitVec_and]; rw [hb] at h; exact h
  rcases e with e | e
  · rw [e]; simp
  · rw [e]; simp
theorem sI_self {h : Hp} {k j : Nat} : sI h k j (hI h k j) = h := by
  obtain ⟨a, b, c, d, e, f⟩ := h
  unfold sI up2
  simp only [hn, hK, hN, hI, hJ, hR]
  congr 5
  funext x y
  split
  · next g => rw [g.1, g.2]
  · rfl
section T30
variable {sc : Nat × (Nat → Int32)} {pp : Nat → Nat → Int32 → Int32 → Hp → Option (Hp × Int32)}
def isOfP (x k : Int32) : Prop := ¬ (x >>> (k &&& 31)) &&& 1 = 0
theorem d_isOf (x k : Int32) (h : Hp) : Lm sc pp 82 0 [some (.int x), some (.int k)] [] 0 0 h = some (h, some (.int (b32 (isOfP x k)))) := by
  unfold isOfP
  by_cases a : (x >>> (k &&& 31)) &&& 1 = 0
  · rw [b32_f (by simp [a])]
    simp (disch := first | assumption | omega | exact Nat.le_of_ble_eq_true rfl | simp only [kdI, kdJ, kdR, *]) only [x_nil, Nat.reduceAdd, x_iload_n0, x_iload_n1, x_ishr, x_iconst_1, x_iand, x_icmp_ne, x_goto, x_iconst_0, x_zreturn, L_82_0, L_82_9, L_82_13, L_82_14, ofInt1, ofIntm1, kdI, hNI, hRI, hJI, kdJ, hNJ, hIJ, hRJ, kdR, hNR, hIR, hJR, n_clamp, z_lt, z_ge, z_eq, z_le, z_gt, o_eq, o_lt, o_gt, o_le, o_ge, m_eq, n_eq, n_le, n_lt, n_sub1, nI_1, ol_add, nI_add, z_cl, o_cl, z_pos, o_pos, o_z, z_o, m_z, N_le, N_lt, ne_eq, not_true_eq_false, not_false_eq_true, if_true, if_false, and_self, or_self, true_or, or_true, and_true, true_and, and_false, false_and, or_false, false_or, Nat.reduceEqDiff, Nat.le_refl, and1, a]
  · rw [b32_t a]
    simp (disch := first | assumption | omega | exact Nat.le_of_ble_eq_true rfl | simp only [kdI, kdJ, kdR, *]) only [x_nil, Nat.reduceAdd, x_iload_n0, x_iload_n1, x_ishr, x_iconst_1, x_iand, x_icmp_ne, x_goto, x_iconst_0, x_zreturn, L_82_0, L_82_9, L_82_13, L_82_14, ofInt1, ofIntm1, kdI, hNI, hRI, hJI, kdJ, hNJ, hIJ, hRJ, kdR, hNR, hIR, hJR, n_clamp, z_lt, z_ge, z_eq, z_le, z_gt, o_eq, o_lt, o_gt, o_le, o_ge, m_eq, n_eq, n_le, n_lt, n_sub1, nI_1, ol_add, nI_add, z_cl, o_cl, z_pos, o_pos, o_z, z_o, m_z, N_le, N_lt, ne_eq, not_true_eq_false, not_false_eq_true, if_true, if_false, and_self, or_self, true_or, or_true, and_true, true_and, and_false, false_and, or_false, false_or, Nat.reduceEqDiff, Nat.le_refl, and1, a]
def many8 (x : Int32) : Int32 := sumN (fun k => (x >>> (nI k &&& 31)) &&& 1) 8
theorem d_manyOf (x : Int32) (h : Hp) : Lm sc pp 134 0 [some (.int x), none, none] [] 0 0 h = some (h, some (.int (many8 x))) := by
  have loop : ∀ (m k : Nat), k + m = 8 → Lm sc pp 134 4 [some (.int x), some (.int (sumN (fun k => (x >>> (nI k &&& 31)) &&& 1) k)), some (.int (nI k))] [] 0 0 h = some (h, some (.int (many8 x))) := by
    intro m
    induction m with
    | zero =>
      intro k hk
      have : k = 8 := by omega
      subst this
      rw [L_134_4]
      simp (disch := first | assumption | omega | exact Nat.le_of_ble_eq_true rfl | simp only [kdI, kdJ, kdR, *]) only [x_nil, Nat.reduceAdd, x_iconst_0, x_istore_n1, x_istore_n2, x_iload_n2, x_bipush_8, x_icmp_ge, x_iload_n1, x_iload_n0, x_ishr, x_iconst_1, x_iand, x_iadd, x_iinc2, x_goto, x_ireturn, L_134_10, L_134_24, ofInt1, ofIntm1, kdI, hNI, hRI, hJI, kdJ, hNJ, hIJ, hRJ, kdR, hNR, hIR, hJR, n_clamp, z_lt, z_ge, z_eq, z_le, z_gt, o_eq, o_lt, o_gt, o_le, o_ge, m_eq, n_eq, n_le, n_lt, n_sub1, nI_1, ol_add, nI_add, z_cl, o_cl, z_pos, o_pos, o_z, z_o, m_z, N_le, N_lt, q8_le, q8_lt, q8_ge, q8_gt, q8_eq, q8_mul, q8_add, q8_adl, q8_cl, q8_pos, q8_ti, q8_tj, ne_eq, not_true_eq_false, not_false_eq_true, if_true, if_false, and_self, or_self, true_or, or_true, and_true, true_and, and_false, false_and, or_false, false_or, Nat.reduceEqDiff, Nat.le_refl, many8]
    | succ m ih =>
      intro k hk
      rw [L_134_4]
      simp (disch := first | assumption | omega | exact Nat.le_of_ble_eq_true rfl | simp only [kdI, kdJ, kdR, *]) only [x_nil, Nat.reduceAdd, x_iconst_0, x_istore_n1, x_istore_n2, x_iload_n2, x_bipush_8, x_icmp_ge, x_iload_n1, x_iload_n0, x_ishr, x_iconst_1, x_iand, x_iadd, x_iinc2, x_goto, x_ireturn, L_134_10, L_134_24, ofInt1, ofIntm1, kdI, hNI, hRI, hJI, kdJ, hNJ, hIJ, hRJ, kdR, hNR, hIR, hJR, n_clamp, z_lt, z_ge, z_eq, z_le, z_gt, o_eq, o_lt, o_gt, o_le, o_ge, m_eq, n_eq, n_le, n_lt, n_sub1, nI_1, ol_add, nI_add, z_cl, o_cl, z_pos, o_pos, o_z, z_o, m_z, N_le, N_lt, q8_le, q8_lt, q8_ge, q8_gt, q8_eq, q8_mul, q8_add, q8_adl, q8_cl, q8_pos, q8_ti, q8_tj, ne_eq, not_true_eq_false, not_false_eq_true, if_true, if_false, and_self, or_self, true_or, or_true, and_true, true_and, and_false, false_and, or_false, false_or, Nat.reduceEqDiff, Nat.le_refl]
      exact ih (k + 1) (by omega)
  have l0 := loop 8 0 (by omega)
  rw [L_134_0]
  simp only [x_nil, Nat.reduceAdd, x_iconst_0, x_istore_n1, x_istore_n2]
  exact l0
theorem d_bounded (n : Int64) (h : Hp) (hD : isD h) : Lm sc pp 136 0 [some (.ref 197), some (.long n), none] [] 0 0 h = some (sI h 197 54 (b32 (¬ hI h 197 54 = 0 ∨ 1000000000000 < n ∨ n < -1000000000000)), some (.long (if b32 (¬ hI h 197 54 = 0 ∨ 1000000000000 < n ∨ n < -1000000000000) = 0 then n else 0))) := by
  by_cases a : hI h 197 54 = 0
  · by_cases b : 1000000000000 < n
    · rw [b32_t (Or.inr (Or.inl b))]
      simp (disch := first | assumption | omega | exact Nat.le_of_ble_eq_true rfl | simp only [kdI, kdJ, kdR, *]) only [x_nil, Nat.reduceAdd, x_aload_n0, x_getZ, x_if_ne, x_lload_n1, x_ldc2_1000000000000, x_lcmp, x_if_gt, x_ldc2_18446743073709551616, x_if_ge, x_iconst_1, x_goto, x_iconst_0, x_putZ, x_if_eq, x_lconst_0, x_lreturn, L_136_0, L_136_8, L_136_16, L_136_24, L_136_28, L_136_29, L_136_39, L_136_43, L_136_44, ofInt1, ofIntm1, kdI, hNI, hRI, hJI, kdJ, hNJ, hIJ, hRJ, kdR, hNR, hIR, hJR, n_clamp, z_lt, z_ge, z_eq, z_le, z_gt, o_eq, o_lt, o_gt, o_le, o_ge, m_eq, n_eq, n_le, n_lt, n_sub1, nI_1, ol_add, nI_add, z_cl, o_cl, z_pos, o_pos, o_z, z_o, m_z, N_le, N_lt, ne_eq, not_true_eq_false, not_false_eq_true, if_true, if_false, and_self, or_self, true_or, or_true, and_true, true_and, and_false, false_and, or_false, false_or, Nat.reduceEqDiff, Nat.le_refl, D_k197, lg_cmp_gt, lg_cmp_ge, hI_eq, a, b]
    · by_cases c : n < -1000000000000
      · rw [b32_t (Or.inr (Or.inr c))]
        simp (disch := first | assumption | omega | exact Nat.le_of_ble_eq_true rfl | simp only [kdI, kdJ, kdR, *]) only [x_nil, Nat.reduceAdd, x_aload_n0, x_getZ, x_if_ne, x_lload_n1, x_ldc2_1000000000000, x_lcmp, x_if_gt, x_ldc2_18446743073709551616, x_if_ge, x_iconst_1, x_goto, x_iconst_0, x_putZ, x_if_eq, x_lconst_0, x_lreturn, L_136_0, L_136_8, L_136_16, L_136_24, L_136_28, L_136_29, L_136_39, L_136_43, L_136_44, ofInt1, ofIntm1, kdI, hNI, hRI, hJI, kdJ, hNJ, hIJ, hRJ, kdR, hNR, hIR, hJR, n_clamp, z_lt, z_ge, z_eq, z_le, z_gt, o_eq, o_lt, o_gt, o_le, o_ge, m_eq, n_eq, n_le, n_lt, n_sub1, nI_1, ol_add, nI_add, z_cl, o_cl, z_pos, o_pos, o_z, z_o, m_z, N_le, N_lt, ne_eq, not_true_eq_false, not_false_eq_true, if_true, if_false, and_self, or_self, true_or, or_true, and_true, true_and, and_false, false_and, or_false, false_or, Nat.reduceEqDiff, Nat.le_refl, D_k197, lg_cmp_gt, lg_cmp_ge, hI_eq, a, b, Int64.not_le.mpr c]
      · rw [b32_f (by simp [a, b, c])]
        simp (disch := first | assumption | omega | exact Nat.le_of_ble_eq_true rfl | simp only [kdI, kdJ, kdR, *]) only [x_nil, Nat.reduceAdd, x_aload_n0, x_getZ, x_if_ne, x_lload_n1, x_ldc2_1000000000000, x_lcmp, x_if_gt, x_ldc2_18446743073709551616, x_if_ge, x_iconst_1, x_goto, x_iconst_0, x_putZ, x_if_eq, x_lconst_0, x_lreturn, L_136_0, L_136_8, L_136_16, L_136_24, L_136_28, L_136_29, L_136_39, L_136_43, L_136_44, ofInt1, ofIntm1, kdI, hNI, hRI, hJI, kdJ, hNJ, hIJ, hRJ, kdR, hNR, hIR, hJR, n_clamp, z_lt, z_ge, z_eq, z_le, z_gt, o_eq, o_lt, o_gt, o_le, o_ge, m_eq, n_eq, n_le, n_lt, n_sub1, nI_1, ol_add, nI_add, z_cl, o_cl, z_pos, o_pos, o_z, z_o, m_z, N_le, N_lt, ne_eq, not_true_eq_false, not_false_eq_true, if_true, if_false, and_self, or_self, true_or, or_true, and_true, true_and, and_false, false_and, or_false, false_or, Nat.reduceEqDiff, Nat.le_refl, D_k197, lg_cmp_gt, lg_cmp_ge, hI_eq, a, b, Int64.not_lt.mp c]
  · rw [b32_t (Or.inl a)]
    simp (disch := first | assumption | omega | exact Nat.le_of_ble_eq_true rfl | simp only [kdI, kdJ, kdR, *]) only [x_nil, Nat.reduceAdd, x_aload_n0, x_getZ, x_if_ne, x_lload_n1, x_ldc2_1000000000000, x_lcmp, x_if_gt, x_ldc2_18446743073709551616, x_if_ge, x_iconst_1, x_goto, x_iconst_0, x_putZ, x_if_eq, x_lconst_0, x_lreturn, L_136_0, L_136_8, L_136_16, L_136_24, L_136_28, L_136_29, L_136_39, L_136_43, L_136_44, ofInt1, ofIntm1, kdI, hNI, hRI, hJI, kdJ, hNJ, hIJ, hRJ, kdR, hNR, hIR, hJR, n_clamp, z_lt, z_ge, z_eq, z_le, z_gt, o_eq, o_lt, o_gt, o_le, o_ge, m_eq, n_eq, n_le, n_lt, n_sub1, nI_1, ol_add, nI_add, z_cl, o_cl, z_pos, o_pos, o_z, z_o, m_z, N_le, N_lt, ne_eq, not_true_eq_false, not_false_eq_true, if_true, if_false, and_self, or_self, true_or, or_true, and_true, true_and, and_false, false_and, or_false, false_or, Nat.reduceEqDiff, Nat.le_refl, D_k197, lg_cmp_gt, lg_cmp_ge, hI_eq, a]
end T30
