-- light
-- the reference keeps a text
def mmR (k : Nat) : Nat := if k = 201 then 2 else if k = 202 then 8 else if k ≤ 207 then 5 else if k ≤ 212 then 8 else if k ≤ 215 then 10 else if k ≤ 218 then 2 else 64
def cpd (g x : Hp) (i : Nat) : Prop := ∀ k j, hI x k j = if 201 ≤ k ∧ k < 201 + i ∧ j < mmR k then hI g k (mmR k + j) else hI g k j
def pCp (k _j : Nat) : Prop := 201 ≤ k ∧ k ≤ 221
section T87
variable {sc : Nat × (Nat → Int32)} {pp : Nat → Nat → Int32 → Int32 → Hp → Option (Hp × Int32)} {g : Hp}
theorem d_copies (a m : Nat) (hm : m ≤ 64) : ∀ (l k : Nat) (x : Hp), k + l = m → kd x a = 13 → hN x a = 2 * m → ∃ y, Lm sc pp 13 2 [some (.ref a), some (.int (nI m)), some (.int (nI k))] [] 0 0 x = some (y, none) ∧ FrP x y (fun i _ => i = a) qNo ∧ ∀ i j, hI y i j = if i = a ∧ k ≤ j ∧ j < m then hI x a (m + j) else hI x i j := by
  intro l
  induction l with
  | zero =>
    intro k x hk ka na
    have : k = m := by omega
    subst this
    refine ⟨x, ?_, FrP.refl _ _ _, fun i j => by rw [if_neg (by omega)]⟩
    rw [L_13_2]
    simp (disch := first | assumption | omega | exact Nat.le_of_ble_eq_true rfl | exact D_k197 (by assumption) | (simp (disch := assumption) only [kdI, kdJ, kdR, D_k197]; done) | (simp only [kdI, kdJ, kdR]; assumption) | fail) only [↓reduceIte, Int32.reduceLE, Int32.reduceLT, x_nil, Nat.reduceAdd, x_iconst_0, x_istore_n2, x_iload_n2, x_iload_n1, x_icmp_ge, x_aload_n0, x_iadd, x_iald, x_iast, x_iinc2, x_goto, x_return, L_13_7, L_13_21, ofInt1, ofIntm1, kdI, hNI, hRI, hJI, kdJ, hNJ, hIJ, hRJ, kdR, hNR, hIR, hJR, hII, hJJ, hRR, n_clamp, z_lt, z_ge, z_eq, z_le, z_gt, o_eq, o_lt, o_gt, o_le, o_ge, m_eq, n_eq, n_le, n_lt, n_sub1, nI_1, ol_add, nI_add, z_cl, o_cl, z_pos, o_pos, o_z, z_o, m_z, N_le, N_lt, ne_eq, not_true_eq_false, not_false_eq_true, if_true, if_false, and_self, or_self, true_or, or_true, and_true, true_and, and_false, false_and, or_false, false_or, Nat.reduceEqDiff, Nat.le_refl, Nat.reduceLT, Nat.reduceLeDiff, b32_01, nI_0, D_k197, D_k198, D_n198, D_r0, D_k199, D_n199, D_r3, D_k200, D_n200, D_r22, D_k201, D_n201, D_r23, D_k202, D_n202, D_r24, D_k203, D_n203, D_r25, D_k204, D_n204, D_r26, D_k205, D_n205, D_r27, D_k206, D_n206, D_r28, D_k207, D_n207, D_r29, D_k208, D_n208, D_r30, D_k209, D_n209, D_r31, D_k210, D_n210, D_r32, D_k211, D_n211, D_r33, D_k212, D_n212, D_r34, D_k213, D_n213, D_r35, D_k214, D_n214, D_r36, D_k215, D_n215, D_r37, D_k216, D_n216, D_r38, D_k217, D_n217, D_r39, D_k218, D_n218, D_r40, D_k219, D_n219, D_r41, D_k220, D_n220, D_r42, D_k221, D_n221, D_r43, D_k222, D_n222, D_r44, D_k223, D_n223, D_r45, D_k224, D_n224, D_r52, D_k225, D_n225, D_r53, D_k226, D_n226, D_r55, D_k227, D_n227, D_r56, D_k228, D_n228, D_r57, D_k229, D_n229, D_r58, D_k230, D_n230, D_r59, D_k231, D_n231, D_r68, D_k232, D_n232, D_r69, D_k233, D_n233, D_r70, D_k234, D_n234, D_r73, D_k235, D_n235, D_r74, D_k236, D_n236, D_r76, D_k237, D_n237, D_r77, D_k238, D_n238, D_r79]
  | succ l ih =>
    intro k x hk ka na
    have q1 : ¬ m ≤ k := by omega
    have q2 : ¬ 2 * m ≤ k := by omega
    have q3 : ¬ 2 * m ≤ m + k := by omega
    obtain ⟨y, e, F, r⟩ := ih (k + 1) (sI x a k (hI x a (m + k))) (by omega) ka na
    refine ⟨y, ?_, (FrP_sI (P := fun i _ => i = a) rfl).trans F, fun i j => ?_⟩
    · rw [← e, L_13_2]
      simp (disch := first | assumption | omega | exact Nat.le_of_ble_eq_true rfl | exact D_k197 (by assumption) | (simp (disch := assumption) only [kdI, kdJ, kdR, D_k197]; done) | (simp only [kdI, kdJ, kdR]; assumption) | fail) only [↓reduceIte, Int32.reduceLE, Int32.reduceLT, x_nil, Nat.reduceAdd, x_iconst_0, x_istore_n2, x_iload_n2, x_iload_n1, x_icmp_ge, x_aload_n0, x_iadd, x_iald, x_iast, x_iinc2, x_goto, x_return, L_13_7, L_13_21, ofInt1, ofIntm1, kdI, hNI, hRI, hJI, kdJ, hNJ, hIJ, hRJ, kdR, hNR, hIR, hJR, hII, hJJ, hRR, n_clamp, z_lt, z_ge, z_eq, z_le, z_gt, o_eq, o_lt, o_gt, o_le, o_ge, m_eq, n_eq, n_le, n_lt, n_sub1, nI_1, ol_add, nI_add, z_cl, o_cl, z_pos, o_pos, o_z, z_o, m_z, N_le, N_lt, ne_eq, not_true_eq_false, not_false_eq_true, if_true, if_false, and_self, or_self, true_or, or_true, and_true, true_and, and_false, false_and, or_false, false_or, Nat.reduceEqDiff, Nat.le_refl, Nat.reduceLT, Nat.reduceLeDiff, b32_01, nI_0, D_k197, D_k198, D_n198, D_r0, D_k199, D_n199, D_r3, D_k200, D_n200, D_r22, D_k201, D_n201, D_r23, D_k202, D_n202, D_r24, D_k203, D_n203, D_r25, D_k204, D_n204, D_r26, D_k205, D_n205, D_r27, D_k206, D_n206, D_r28, D_k207, D_n207, D_r29, D_k208, D_n208, D_r30, D_k209, D_n209, D_r31, D_k210, D_n210, D_r32, D_k211, D_n211, D_r33, D_k212, D_n212, D_r34, D_k213, D_n213, D_r35, D_k214, D_n214, D_r36, D_k215, D_n215, D_r37, D_k216, D_n216, D_r38, D_k217, D_n217, D_r39, D_k218, D_n218, D_r40, D_k219, D_n219, D_r41, D_k220, D_n220, D_r42, D_k221, D_n221, D_r43, D_k222, D_n222, D_r44, D_k223, D_n223, D_r45, D_k224, D_n224, D_r52, D_k225, D_n225, D_r53, D_k226, D_n226, D_r55, D_k227, D_n227, D_r56, D_k228, D_n228, D_r57, D_k229, D_n229, D_r58, D_k230, D_n230, D_r59, D_k231, D_n231, D_r68, D_k232, D_n232, D_r69, D_k233, D_n233, D_r70, D_k234, D_n234, D_r73, D_k235, D_n235, D_r74, D_k236, D_n236, D_r76, D_k237, D_n237, D_r77, D_k238, D_n238, D_r79, ka, na, q1, q2, q3]
    · rw [r i j]
      by_cases z : i = a ∧ k + 1 ≤ j ∧ j < m
      · rw [if_pos z, if_pos (by omega), hII, if_neg (by omega)]
      · rw [if_neg z, hII]
        by_cases z2 : i = a ∧ j = k
        · rw [if_pos z2, if_pos (by omega), z2.2]
        · rw [if_neg z2, if_neg (by omega)]
theorem cp_next {x : Hp} {i m : Nat} (c : cpd g x i) (hi : i < 21) (hmm : mmR (201 + i) = m) (hm : m ≤ 64) (ka : kd x (201 + i) = 13) (na : hN x (201 + i) = 2 * m) : ∃ y, Lm sc pp 13 0 [some (.ref (201 + i)), some (.int (nI m)), none] [] 0 0 x = some (y, none) ∧ FrP x y (fun k _ => k = 201 + i) qNo ∧ cpd g y (i + 1) := by
  obtain ⟨y, e, F, r⟩ := d_copies (sc := sc) (pp := pp) (201 + i) m hm m 0 x (by omega) ka na
  rw [nI_0] at e
  refine ⟨y, ?_, F, fun k j => ?_⟩
  · simp (disch := first | assumption | omega | exact Nat.le_of_ble_eq_true rfl | exact D_k197 (by assumption) | (simp (disch := assumption) only [kdI, kdJ, kdR, D_k197]; done) | (simp only [kdI, kdJ, kdR]; assumption) | fail) only [↓reduceIte, Int32.reduceLE, Int32.reduceLT, x_nil, Nat.reduceAdd, x_iconst_0, x_istore_n2, x_iload_n2, x_iload_n1, x_icmp_ge, x_aload_n0, x_iadd, x_iald, x_iast, x_iinc2, x_goto, x_return, L_13_0, ofInt1, ofIntm1, kdI, hNI, hRI, hJI, kdJ, hNJ, hIJ, hRJ, kdR, hNR, hIR, hJR, hII, hJJ, hRR, n_clamp, z_lt, z_ge, z_eq, z_le, z_gt, o_eq, o_lt, o_gt, o_le, o_ge, m_eq, n_eq, n_le, n_lt, n_sub1, nI_1, ol_add, nI_add, z_cl, o_cl, z_pos, o_pos, o_z, z_o, m_z, N_le, N_lt, ne_eq, not_true_eq_false, not_false_eq_true, if_true, if_false, and_self, or_self, true_or, or_true, and_true, true_and, and_false, false_and, or_false, false_or, Nat.reduceEqDiff, Nat.le_refl, Nat.reduceLT, Nat.reduceLeDiff, b32_01, nI_0, D_k197, D_k198, D_n198, D_r0, D_k199, D_n199, D_r3, D_k200, D_n200, D_r22, D_k201, D_n201, D_r23, D_k202, D_n202, D_r24, D_k203, D_n203, D_r25, D_k204, D_n204, D_r26, D_k205, D_n205, D_r27, D_k206, D_n206, D_r28, D_k207, D_n207, D_r29, D_k208, D_n208, D_r30, D_k209, D_n209, D_r31, D_k210, D_n210, D_r32, D_k211, D_n211, D_r33, D_k212, D_n212, D_r34, D_k213, D_n213, D_r35, D_k214, D_n214, D_r36, D_k215, D_n215, D_r37, D_k216, D_n216, D_r38, D_k217, D_n217, D_r39, D_k218, D_n218, D_r40, D_k219, D_n219, D_r41, D_k220, D_n220, D_r42, D_k221, D_n221, D_r43, D_k222, D_n222, D_r44, D_k223, D_n223, D_r45, D_k224, D_n224, D_r52, D_k225, D_n225, D_r53, D_k226, D_n226, D_r55, D_k227, D_n227, D_r56, D_k228, D_n228, D_r57, D_k229, D_n229, D_r58, D_k230, D_n230, D_r59, D_k231, D_n231, D_r68, D_k232, D_n232, D_r69, D_k233, D_n233, D_r70, D_k234, D_n234, D_r73, D_k235, D_n235, D_r74, D_k236, D_n236, D_r76, D_k237, D_n237, D_r77, D_k238, D_n238, D_r79, e]
  · rw [r k j]
    by_cases z : k = 201 + i
    · subst z
      by_cases z2 : j < m
      · rw [if_pos ⟨rfl, by omega, z2⟩, if_pos (by omega), c, if_neg (by omega), hmm]
      · rw [if_neg (by omega), if_neg (by omega), c, if_neg (by omega)]
    · rw [if_neg (by omega), c]
      by_cases z2 : 201 ≤ k ∧ k < 201 + i ∧ j < mmR k
      · rw [if_pos z2, if_pos (by omega)]
      · rw [if_neg z2, if_neg (by omega)]
theorem cp_told {x : Hp} (hD : isD x) (c : cpd g x 15) (b2 : hI g 216 2 = 0 ∨ hI g 216 2 = 1) (b3 : hI g 216 3 = 0 ∨ hI g 216 3 = 1) : ∃ y, Lm sc pp 17 171 [some (.ref 197), some (.int 0)] [] 0 0 x = Lm sc pp 17 196 [some (.ref 197), some (.int 2)] [] 0 0 y ∧ FrP x y (fun k _ => k = 216) qNo ∧ cpd g y 16 := by
  have x2 : hI x 216 2 = hI g 216 2 := by rw [c, if_neg (by omega)]
  have x3 : hI x 216 3 = hI g 216 3 := by rw [c, if_neg (by omega)]
  have o2 : (hI g 216 2 = 0 ∨ hI g 216 2 = 1) = True := eq_true b2
  have o3 : (hI g 216 3 = 0 ∨ hI g 216 3 = 1) = True := eq_true b3
  refine ⟨sI (sI x 216 0 (hI g 216 2)) 216 1 (hI g 216 3), ?_, (FrP_sI (P := fun k _ => k = 216) rfl).trans (FrP_sI (P := fun k _ => k = 216) rfl), fun k j => ?_⟩
  · have s1 : (2 : Int32) + 0 = 2 := by decide
    have s2 : (2 : Int32) + 1 = 3 := by decide
    have s3 : (0 : Int32) + 1 = 1 := by decide
    have s4 : (1 : Int32) + 1 = 2 := by decide
    have c1 : ((2 : Int32) ≤ 0) = False := eq_false (by decide)
    have c2 : ((2 : Int32) ≤ 1) = False := eq_false (by decide)
    have c3 : ((2 : Int32) ≤ 2) = True := eq_true (by decide)
    simp (disch := first | assumption | omega | exact Nat.le_of_ble_eq_true rfl | exact D_k197 (by assumption) | (simp (disch := assumption) only [kdI, kdJ, kdR, D_k197]; done) | (simp only [kdI, kdJ, kdR]; assumption) | fail) only [↓reduceIte, Int32.reduceLE, Int32.reduceLT, x_nil, Nat.reduceAdd, x_aload_n0, x_getI, x_putI, x_getR, x_iconst_2, K_13, bindR_some, toL_s, toL_n, ap_n, ap_c, List.map_nil, List.map_cons, List.sum_nil, List.sum_cons, cat_i, cat_r, cat_l, Nat.reduceLeDiff, Nat.zero_le, Nat.le_refl, x_bipush_8, x_iconst_5, x_bipush_10, x_iconst_0, x_istore_n1, x_iload_n1, x_icmp_ge, x_iadd, x_bald, x_bast, x_iinc1, x_goto, x_bipush_64, K_16, x_return, L_17_171, L_17_176, ofInt1, ofIntm1, kdI, hNI, hRI, hJI, kdJ, hNJ, hIJ, hRJ, kdR, hNR, hIR, hJR, hII, hJJ, hRR, n_clamp, z_lt, z_ge, z_eq, z_le, z_gt, o_eq, o_lt, o_gt, o_le, o_ge, m_eq, n_eq, n_le, n_lt, n_sub1, nI_1, ol_add, nI_add, z_cl, o_cl, z_pos, o_pos, o_z, z_o, m_z, N_le, N_lt, q2_le, q2_lt, q2_ge, q2_gt, q2_eq, q2_mul, q2_add, q2_adl, q2_cl, q2_pos, q2_ti, q2_tj, zq2, qz2, q5_le, q5_lt, q5_ge, q5_gt, q5_eq, q5_mul, q5_add, q5_adl, q5_cl, q5_pos, q5_ti, q5_tj, zq5, qz5, q8_le, q8_lt, q8_ge, q8_gt, q8_eq, q8_mul, q8_add, q8_adl, q8_cl, q8_pos, q8_ti, q8_tj, zq8, qz8, q10_le, q10_lt, q10_ge, q10_gt, q10_eq, q10_mul, q10_add, q10_adl, q10_cl, q10_pos, q10_ti, q10_tj, zq10, qz10, q64_le, q64_lt, q64_ge, q64_gt, q64_eq, q64_mul, q64_add, q64_adl, q64_cl, q64_pos, q64_ti, q64_tj, zq64, qz64, ne_eq, not_true_eq_false, not_false_eq_true, if_true, if_false, and_self, or_self, true_or, or_true, and_true, true_and, and_false, false_and, or_false, false_or, Nat.reduceEqDiff, Nat.le_refl, Nat.reduceLT, Nat.reduceLeDiff, b32_01, nI_0, D_k197, D_k198, D_n198, D_r0, D_k199, D_n199, D_r3, D_k200, D_n200, D_r22, D_k201, D_n201, D_r23, D_k202, D_n202, D_r24, D_k203, D_n203, D_r25, D_k204, D_n204, D_r26, D_k205, D_n205, D_r27, D_k206, D_n206, D_r28, D_k207, D_n207, D_r29, D_k208, D_n208, D_r30, D_k209, D_n209, D_r31, D_k210, D_n210, D_r32, D_k211, D_n211, D_r33, D_k212, D_n212, D_r34, D_k213, D_n213, D_r35, D_k214, D_n214, D_r36, D_k215, D_n215, D_r37, D_k216, D_n216, D_r38, D_k217, D_n217, D_r39, D_k218, D_n218, D_r40, D_k219, D_n219, D_r41, D_k220, D_n220, D_r42, D_k221, D_n221, D_r43, D_k222, D_n222, D_r44, D_k223, D_n223, D_r45, D_k224, D_n224, D_r52, D_k225, D_n225, D_r53, D_k226, D_n226, D_r55, D_k227, D_n227, D_r56, D_k228, D_n228, D_r57, D_k229, D_n229, D_r58, D_k230, D_n230, D_r59, D_k231, D_n231, D_r68, D_k232, D_n232, D_r69, D_k233, D_n233, D_r70, D_k234, D_n234, D_r73, D_k235, D_n235, D_r74, D_k236, D_n236, D_r76, D_k237, D_n237, D_r77, D_k238, D_n238, D_r79, x2, x3, o2, o3, s1, s2, s3, s4, c1, c2, c3, q2_pos, q2_cl, q3_pos, q3_cl]
  · rw [hII, hII, c]
    by_cases z : k = 216
    · subst z
      have m2 : mmR 216 = 2 := rfl
      rw [m2]
      rcases (by omega : j = 0 ∨ j = 1 ∨ 2 ≤ j) with e | e | e
      · rw [if_neg (by omega), if_pos ⟨rfl, e⟩, if_pos (by omega), e]
      · rw [if_pos ⟨rfl, e⟩, if_pos (by omega), e]
      · rw [if_neg (by omega), if_neg (by omega), if_neg (by omega), if_neg (by omega)]
    · rw [if_neg (by omega), if_neg (by omega)]
      by_cases z2 : 201 ≤ k ∧ k < 201 + 15 ∧ j < mmR k
      · rw [if_pos z2, if_pos (by omega)]
      · rw [if_neg z2, if_neg (by omega)]
set_option maxHeartbeats 20000000 in
/-- all rows are copied, up to the state's beginning -/
theorem d_rows (hD : isD g) (b2 : hI g 216 2 = 0 ∨ hI g 216 2 = 1) (b3 : hI g 216 3 = 0 ∨ hI g 216 3 = 1) : ∃ y, Lm sc pp 17 0 [some (.ref 197), none] [] 0 0 g = Lm sc pp 17 239 [some (.ref 197), some (.int 2)] [] 0 0 y ∧ FrP g y (fun k j => pCp k j ∨ (k = 197 ∧ 12 ≤ j ∧ j ≤ 16)) qNo ∧ (∀ k j, k ≠ 197 → hI y k j = if 201 ≤ k ∧ k < 222 ∧ j < mmR k then hI g k (mmR k + j) else hI g k j) ∧ hI y 197 12 = hI g 197 17 ∧ hI y 197 13 = hI g 197 18 ∧ hI y 197 14 = hI g 197 19 ∧ hI y 197 15 = hI g 197 20 ∧ hI y 197 16 = hI g 197 21 := by
  have F0 : FrP g (sI (sI (sI (sI (sI g 197 12 (hI g 197 17)) 197 13 (hI g 197 18)) 197 14 (hI g 197 19)) 197 15 (hI g 197 20)) 197 16 (hI g 197 21)) (fun k j => pCp k j ∨ (k = 197 ∧ 12 ≤ j ∧ j ≤ 16)) qNo := ((((FrP_sI (by omega)).trans (FrP_sI (by omega))).trans (FrP_sI (by omega))).trans (FrP_sI (by omega))).trans (FrP_sI (by omega))
  have z12 : hI (sI (sI (sI (sI (sI g 197 12 (hI g 197 17)) 197 13 (hI g 197 18)) 197 14 (hI g 197 19)) 197 15 (hI g 197 20)) 197 16 (hI g 197 21)) 197 12 = hI g 197 17 := by rw [hII, if_neg (by omega), hII, if_neg (by omega), hII, if_neg (by omega), hII, if_neg (by omega), hII, if_pos ⟨rfl, rfl⟩]
  have z13 : hI (sI (sI (sI (sI (sI g 197 12 (hI g 197 17)) 197 13 (hI g 197 18)) 197 14 (hI g 197 19)) 197 15 (hI g 197 20)) 197 16 (hI g 197 21)) 197 13 = hI g 197 18 := by rw [hII, if_neg (by omega), hII, if_neg (by omega), hII, if_neg (by omega), hII, if_pos ⟨rfl, rfl⟩]
  have z14 : hI (sI (sI (sI (sI (sI g 197 12 (hI g 197 17)) 197 13 (hI g 197 18)) 197 14 (hI g 197 19)) 197 15 (hI g 197 20)) 197 16 (hI g 197 21)) 197 14 = hI g 197 19 := by rw [hII, if_neg (by omega), hII, if_neg (by omega), hII, if_pos ⟨rfl, rfl⟩]
  have z15 : hI (sI (sI (sI (sI (sI g 197 12 (hI g 197 17)) 197 13 (hI g 197 18)) 197 14 (hI g 197 19)) 197 15 (hI g 197 20)) 197 16 (hI g 197 21)) 197 15 = hI g 197 20 := by rw [hII, if_neg (by omega), hII, if_pos ⟨rfl, rfl⟩]
  have z16 : hI (sI (sI (sI (sI (sI g 197 12 (hI g 197 17)) 197 13 (hI g 197 18)) 197 14 (hI g 197 19)) 197 15 (hI g 197 20)) 197 16 (hI g 197 21)) 197 16 = hI g 197 21 := by rw [hII, if_pos ⟨rfl, rfl⟩]
  have zr : ∀ k j, k ≠ 197 → hI (sI (sI (sI (sI (sI g 197 12 (hI g 197 17)) 197 13 (hI g 197 18)) 197 14 (hI g 197 19)) 197 15 (hI g 197 20)) 197 16 (hI g 197 21)) k j = hI g k j := fun k j _ => by rw [hII, if_neg (by omega), hII, if_neg (by omega), hII, if_neg (by omega), hII, if_neg (by omega), hII, if_neg (by omega)]
  have D0 := hD.moveP F0
  generalize hx0 : sI (sI (sI (sI (sI g 197 12 (hI g 197 17)) 197 13 (hI g 197 18)) 197 14 (hI g 197 19)) 197 15 (hI g 197 20)) 197 16 (hI g 197 21) = x0 at *
  have c0 : cpd x0 x0 0 := fun k j => by rw [if_neg (by omega)]
  have b2' : hI x0 216 2 = 0 ∨ hI x0 216 2 = 1 := by rw [zr _ _ (by omega)]; exact b2
  have b3' : hI x0 216 3 = 0 ∨ hI x0 216 3 = 1 := by rw [zr _ _ (by omega)]; exact b3
  obtain ⟨x1, e1, F1, c1⟩ := cp_next (sc := sc) (pp := pp) (i := 0) (m := 2) c0 (by omega) rfl (by omega) (D_k201 D0) (D_n201 D0)
  have D1 := D0.moveP F1
  obtain ⟨x2, e2, F2, c2⟩ := cp_next (sc := sc) (pp := pp) (i := 1) (m := 8) c1 (by omega) rfl (by omega) (D_k202 D1) (D_n202 D1)
  have D2 := D1.moveP F2
  obtain ⟨x3, e3, F3, c3⟩ := cp_next (sc := sc) (pp := pp) (i := 2) (m := 5) c2 (by omega) rfl (by omega) (D_k203 D2) (D_n203 D2)
  have D3 := D2.moveP F3
  obtain ⟨x4, e4, F4, c4⟩ := cp_next (sc := sc) (pp := pp) (i := 3) (m := 5) c3 (by omega) rfl (by omega) (D_k204 D3) (D_n204 D3)
  have D4 := D3.moveP F4
  obtain ⟨x5, e5, F5, c5⟩ := cp_next (sc := sc) (pp := pp) (i := 4) (m := 5) c4 (by omega) rfl (by omega) (D_k205 D4) (D_n205 D4)
  have D5 := D4.moveP F5
  obtain ⟨x6, e6, F6, c6⟩ := cp_next (sc := sc) (pp := pp) (i := 5) (m := 5) c5 (by omega) rfl (by omega) (D_k206 D5) (D_n206 D5)
  have D6 := D5.moveP F6
  obtain ⟨x7, e7, F7, c7⟩ := cp_next (sc := sc) (pp := pp) (i := 6) (m := 5) c6 (by omega) rfl (by omega) (D_k207 D6) (D_n207 D6)
  have D7 := D6.moveP F7
  obtain ⟨x8, e8, F8, c8⟩ := cp_next (sc := sc) (pp := pp) (i := 7) (m := 8) c7 (by omega) rfl (by omega) (D_k208 D7) (D_n208 D7)
  have D8 := D7.moveP F8
  obtain ⟨x9, e9, F9, c9⟩ := cp_next (sc := sc) (pp := pp) (i := 8) (m := 8) c8 (by omega) rfl (by omega) (D_k209 D8) (D_n209 D8)
  have D9 := D8.moveP F9
  obtain ⟨x10, e10, F10, c10⟩ := cp_next (sc := sc) (pp := pp) (i := 9) (m := 8) c9 (by omega) rfl (by omega) (D_k210 D9) (D_n210 D9)
  have D10 := D9.moveP F10
  obtain ⟨x11, e11, F11, c11⟩ := cp_next (sc := sc) (pp := pp) (i := 10) (m := 8) c10 (by omega) rfl (by omega) (D_k211 D10) (D_n211 D10)
  have D11 := D10.moveP F11
  obtain ⟨x12, e12, F12, c12⟩ := cp_next (sc := sc) (pp := pp) (i := 11) (m := 8) c11 (by omega) rfl (by omega) (D_k212 D11) (D_n212 D11)
  have D12 := D11.moveP F12
  obtain ⟨x13, e13, F13, c13⟩ := cp_next (sc := sc) (pp := pp) (i := 12) (m := 10) c12 (by omega) rfl (by omega) (D_k213 D12) (D_n213 D12)
  have D13 := D12.moveP F13
  obtain ⟨x14, e14, F14, c14⟩ := cp_next (sc := sc) (pp := pp) (i := 13) (m := 10) c13 (by omega) rfl (by omega) (D_k214 D13) (D_n214 D13)
  have D14 := D13.moveP F14
  obtain ⟨x15, e15, F15, c15⟩ := cp_next (sc := sc) (pp := pp) (i := 14) (m := 10) c14 (by omega) rfl (by omega) (D_k215 D14) (D_n215 D14)
  have D15 := D14.moveP F15
  obtain ⟨x16, e16, F16, c16⟩ := cp_told (sc := sc) (pp := pp) D15 c15 b2' b3'
  have D16 := D15.moveP F16
  obtain ⟨x17, e17, F17, c17⟩ := cp_next (sc := sc) (pp := pp) (i := 16) (m := 2) c16 (by omega) rfl (by omega) (D_k217 D16) (D_n217 D16)
  have D17 := D16.moveP F17
  obtain ⟨x18, e18, F18, c18⟩ := cp_next (sc := sc) (pp := pp) (i := 17) (m := 2) c17 (by omega) rfl (by omega) (D_k218 D17) (D_n218 D17)
  have D18 := D17.moveP F18
  obtain ⟨x19, e19, F19, c19⟩ := cp_next (sc := sc) (pp := pp) (i := 18) (m := 64) c18 (by omega) rfl (by omega) (D_k219 D18) (D_n219 D18)
  have D19 := D18.moveP F19
  obtain ⟨x20, e20, F20, c20⟩ := cp_next (sc := sc) (pp := pp) (i := 19) (m := 64) c19 (by omega) rfl (by omega) (D_k220 D19) (D_n220 D19)
  have D20 := D19.moveP F20
  obtain ⟨x21, e21, F21, c21⟩ := cp_next (sc := sc) (pp := pp) (i := 20) (m := 64) c20 (by omega) rfl (by omega) (D_k221 D20) (D_n221 D20)
  have D21 := D20.moveP F21
  have e1' : Lm sc pp 13 0 [some (.ref 201), some (.int 2), none] [] 0 0 x0 = some (x1, none) := e1
  have e2' : Lm sc pp 13 0 [some (.ref 202), some (.int 8), none] [] 0 0 x1 = some (x2, none) := e2
  have e3' : Lm sc pp 13 0 [some (.ref 203), some (.int 5), none] [] 0 0 x2 = some (x3, none) := e3
  have e4' : Lm sc pp 13 0 [some (.ref 204), some (.int 5), none] [] 0 0 x3 = some (x4, none) := e4
  have e5' : Lm sc pp 13 0 [some (.ref 205), some (.int 5), none] [] 0 0 x4 = some (x5, none) := e5
  have e6' : Lm sc pp 13 0 [some (.ref 206), some (.int 5), none] [] 0 0 x5 = some (x6, none) := e6
  have e7' : Lm sc pp 13 0 [some (.ref 207), some (.int 5), none] [] 0 0 x6 = some (x7, none) := e7
  have e8' : Lm sc pp 13 0 [some (.ref 208), some (.int 8), none] [] 0 0 x7 = some (x8, none) := e8
  have e9' : Lm sc pp 13 0 [some (.ref 209), some (.int 8), none] [] 0 0 x8 = some (x9, none) := e9
  have e10' : Lm sc pp 13 0 [some (.ref 210), some (.int 8), none] [] 0 0 x9 = some (x10, none) := e10
  have e11' : Lm sc pp 13 0 [some (.ref 211), some (.int 8), none] [] 0 0 x10 = some (x11, none) := e11
  have e12' : Lm sc pp 13 0 [some (.ref 212), some (.int 8), none] [] 0 0 x11 = some (x12, none) := e12
  have e13' : Lm sc pp 13 0 [some (.ref 213), some (.int 10), none] [] 0 0 x12 = some (x13, none) := e13
  have e14' : Lm sc pp 13 0 [some (.ref 214), some (.int 10), none] [] 0 0 x13 = some (x14, none) := e14
  have e15' : Lm sc pp 13 0 [some (.ref 215), some (.int 10), none] [] 0 0 x14 = some (x15, none) := e15
  have e17' : Lm sc pp 13 0 [some (.ref 217), some (.int 2), none] [] 0 0 x16 = some (x17, none) := e17
  have e18' : Lm sc pp 13 0 [some (.ref 218), some (.int 2), none] [] 0 0 x17 = some (x18, none) := e18
  have e19' : Lm sc pp 13 0 [some (.ref 219), some (.int 64), none] [] 0 0 x18 = some (x19, none) := e19
  have e20' : Lm sc pp 13 0 [some (.ref 220), some (.int 64), none] [] 0 0 x19 = some (x20, none) := e20
  have e21' : Lm sc pp 13 0 [some (.ref 221), some (.int 64), none] [] 0 0 x20 = some (x21, none) := e21
  refine ⟨x21, ?_, (((((((((((((((((((((F0.trans (F1.mono (fun k j q => by unfold pCp; omega) (fun _ _ q => q))).trans (F2.mono (fun k j q => by unfold pCp; omega) (fun _ _ q => q))).trans (F3.mono (fun k j q => by unfold pCp; omega) (fun _ _ q => q))).trans (F4.mono (fun k j q => by unfold pCp; omega) (fun _ _ q => q))).trans (F5.mono (fun k j q => by unfold pCp; omega) (fun _ _ q => q))).trans (F6.mono (fun k j q => by unfold pCp; omega) (fun _ _ q => q))).trans (F7.mono (fun k j q => by unfold pCp; omega) (fun _ _ q => q))).trans (F8.mono (fun k j q => by unfold pCp; omega) (fun _ _ q => q))).trans (F9.mono (fun k j q => by unfold pCp; omega) (fun _ _ q => q))).trans (F10.mono (fun k j q => by unfold pCp; omega) (fun _ _ q => q))).trans (F11.mono (fun k j q => by unfold pCp; omega) (fun _ _ q => q))).trans (F12.mono (fun k j q => by unfold pCp; omega) (fun _ _ q => q))).trans (F13.mono (fun k j q => by unfold pCp; omega) (fun _ _ q => q))).trans (F14.mono (fun k j q => by unfold pCp; omega) (fun _ _ q => q))).trans (F15.mono (fun k j q => by unfold pCp; omega) (fun _ _ q => q))).trans (F16.mono (fun k j q => by unfold pCp; omega) (fun _ _ q => q))).trans (F17.mono (fun k j q => by unfold pCp; omega) (fun _ _ q => q))).trans (F18.mono (fun k j q => by unfold pCp; omega) (fun _ _ q => q))).trans (F19.mono (fun k j q => by unfold pCp; omega) (fun _ _ q => q))).trans (F20.mono (fun k j q => by unfold pCp; omega) (fun _ _ q => q))).trans (F21.mono (fun k j q => by unfold pCp; omega) (fun _ _ q => q))), fun k j hk => ?_, ?_, ?_, ?_, ?_, ?_⟩
  · have e00 : Lm sc pp 17 0 [some (.ref 197), none] [] 0 0 g = Lm sc pp 17 48 [some (.ref 197), none] [] 0 0 x1 := by
      simp (disch := first | assumption | omega | exact Nat.le_of_ble_eq_true rfl | exact D_k197 (by assumption) | (simp (disch := assumption) only [kdI, kdJ, kdR, D_k197]; done) | (simp only [kdI, kdJ, kdR]; assumption) | fail) only [↓reduceIte, Int32.reduceLE, Int32.reduceLT, x_nil, Nat.reduceAdd, x_aload_n0, x_getI, x_putI, x_getR, x_iconst_2, K_13, bindR_some, toL_s, toL_n, ap_n, ap_c, List.map_nil, List.map_cons, List.sum_nil, List.sum_cons, cat_i, cat_r, cat_l, Nat.reduceLeDiff, Nat.zero_le, Nat.le_refl, x_bipush_8, x_iconst_5, x_bipush_10, x_iconst_0, x_istore_n1, x_iload_n1, x_icmp_ge, x_iadd, x_bald, x_bast, x_iinc1, x_goto, x_bipush_64, K_16, x_return, L_17_0, ofInt1, ofIntm1, kdI, hNI, hRI, hJI, kdJ, hNJ, hIJ, hRJ, kdR, hNR, hIR, hJR, hII, hJJ, hRR, n_clamp, z_lt, z_ge, z_eq, z_le, z_gt, o_eq, o_lt, o_gt, o_le, o_ge, m_eq, n_eq, n_le, n_lt, n_sub1, nI_1, ol_add, nI_add, z_cl, o_cl, z_pos, o_pos, o_z, z_o, m_z, N_le, N_lt, q2_le, q2_lt, q2_ge, q2_gt, q2_eq, q2_mul, q2_add, q2_adl, q2_cl, q2_pos, q2_ti, q2_tj, zq2, qz2, q5_le, q5_lt, q5_ge, q5_gt, q5_eq, q5_mul, q5_add, q5_adl, q5_cl, q5_pos, q5_ti, q5_tj, zq5, qz5, q8_le, q8_lt, q8_ge, q8_gt, q8_eq, q8_mul, q8_add, q8_adl, q8_cl, q8_pos, q8_ti, q8_tj, zq8, qz8, q10_le, q10_lt, q10_ge, q10_gt, q10_eq, q10_mul, q10_add, q10_adl, q10_cl, q10_pos, q10_ti, q10_tj, zq10, qz10, q64_le, q64_lt, q64_ge, q64_gt, q64_eq, q64_mul, q64_add, q64_adl, q64_cl, q64_pos, q64_ti, q64_tj, zq64, qz64, ne_eq, not_true_eq_false, not_false_eq_true, if_true, if_false, and_self, or_self, true_or, or_true, and_true, true_and, and_false, false_and, or_false, false_or, Nat.reduceEqDiff, Nat.le_refl, Nat.reduceLT, Nat.reduceLeDiff, b32_01, nI_0, D_k197, D_k198, D_n198, D_r0, D_k199, D_n199, D_r3, D_k200, D_n200, D_r22, D_k201, D_n201, D_r23, D_k202, D_n202, D_r24, D_k203, D_n203, D_r25, D_k204, D_n204, D_r26, D_k205, D_n205, D_r27, D_k206, D_n206, D_r28, D_k207, D_n207, D_r29, D_k208, D_n208, D_r30, D_k209, D_n209, D_r31, D_k210, D_n210, D_r32, D_k211, D_n211, D_r33, D_k212, D_n212, D_r34, D_k213, D_n213, D_r35, D_k214, D_n214, D_r36, D_k215, D_n215, D_r37, D_k216, D_n216, D_r38, D_k217, D_n217, D_r39, D_k218, D_n218, D_r40, D_k219, D_n219, D_r41, D_k220, D_n220, D_r42, D_k221, D_n221, D_r43, D_k222, D_n222, D_r44, D_k223, D_n223, D_r45, D_k224, D_n224, D_r52, D_k225, D_n225, D_r53, D_k226, D_n226, D_r55, D_k227, D_n227, D_r56, D_k228, D_n228, D_r57, D_k229, D_n229, D_r58, D_k230, D_n230, D_r59, D_k231, D_n231, D_r68, D_k232, D_n232, D_r69, D_k233, D_n233, D_r70, D_k234, D_n234, D_r73, D_k235, D_n235, D_r74, D_k236, D_n236, D_r76, D_k237, D_n237, D_r77, D_k238, D_n238, D_r79, hx0, e1']
    rw [e00]
    have u1 : Lm sc pp 17 169 [some (.ref 197), none] [] 0 0 x15 = Lm sc pp 17 239 [some (.ref 197), some (.int 2)] [] 0 0 x21 := by
      have u2 : Lm sc pp 17 196 [some (.ref 197), some (.int 2)] [] 0 0 x16 = Lm sc pp 17 239 [some (.ref 197), some (.int 2)] [] 0 0 x21 := by
        simp (disch := first | assumption | omega | exact Nat.le_of_ble_eq_true rfl | exact D_k197 (by assumption) | (simp (disch := assumption) only [kdI, kdJ, kdR, D_k197]; done) | (simp only [kdI, kdJ, kdR]; assumption) | fail) only [↓reduceIte, Int32.reduceLE, Int32.reduceLT, x_nil, Nat.reduceAdd, x_aload_n0, x_getI, x_putI, x_getR, x_iconst_2, K_13, bindR_some, toL_s, toL_n, ap_n, ap_c, List.map_nil, List.map_cons, List.sum_nil, List.sum_cons, cat_i, cat_r, cat_l, Nat.reduceLeDiff, Nat.zero_le, Nat.le_refl, x_bipush_8, x_iconst_5, x_bipush_10, x_iconst_0, x_istore_n1, x_iload_n1, x_icmp_ge, x_iadd, x_bald, x_bast, x_iinc1, x_goto, x_bipush_64, K_16, x_return, L_17_196, L_17_204, L_17_212, L_17_221, L_17_230, ofInt1, ofIntm1, kdI, hNI, hRI, hJI, kdJ, hNJ, hIJ, hRJ, kdR, hNR, hIR, hJR, hII, hJJ, hRR, n_clamp, z_lt, z_ge, z_eq, z_le, z_gt, o_eq, o_lt, o_gt, o_le, o_ge, m_eq, n_eq, n_le, n_lt, n_sub1, nI_1, ol_add, nI_add, z_cl, o_cl, z_pos, o_pos, o_z, z_o, m_z, N_le, N_lt, q2_le, q2_lt, q2_ge, q2_gt, q2_eq, q2_mul, q2_add, q2_adl, q2_cl, q2_pos, q2_ti, q2_tj, zq2, qz2, q5_le, q5_lt, q5_ge, q5_gt, q5_eq, q5_mul, q5_add, q5_adl, q5_cl, q5_pos, q5_ti, q5_tj, zq5, qz5, q8_le, q8_lt, q8_ge, q8_gt, q8_eq, q8_mul, q8_add, q8_adl, q8_cl, q8_pos, q8_ti, q8_tj, zq8, qz8, q10_le, q10_lt, q10_ge, q10_gt, q10_eq, q10_mul, q10_add, q10_adl, q10_cl, q10_pos, q10_ti, q10_tj, zq10, qz10, q64_le, q64_lt, q64_ge, q64_gt, q64_eq, q64_mul, q64_add, q64_adl, q64_cl, q64_pos, q64_ti, q64_tj, zq64, qz64, ne_eq, not_true_eq_false, not_false_eq_true, if_true, if_false, and_self, or_self, true_or, or_true, and_true, true_and, and_false, false_and, or_false, false_or, Nat.reduceEqDiff, Nat.le_refl, Nat.reduceLT, Nat.reduceLeDiff, b32_01, nI_0, D_k197, D_k198, D_n198, D_r0, D_k199, D_n199, D_r3, D_k200, D_n200, D_r22, D_k201, D_n201, D_r23, D_k202, D_n202, D_r24, D_k203, D_n203, D_r25, D_k204, D_n204, D_r26, D_k205, D_n205, D_r27, D_k206, D_n206, D_r28, D_k207, D_n207, D_r29, D_k208, D_n208, D_r30, D_k209, D_n209, D_r31, D_k210, D_n210, D_r32, D_k211, D_n211, D_r33, D_k212, D_n212, D_r34, D_k213, D_n213, D_r35, D_k214, D_n214, D_r36, D_k215, D_n215, D_r37, D_k216, D_n216, D_r38, D_k217, D_n217, D_r39, D_k218, D_n218, D_r40, D_k219, D_n219, D_r41, D_k220, D_n220, D_r42, D_k221, D_n221, D_r43, D_k222, D_n222, D_r44, D_k223, D_n223, D_r45, D_k224, D_n224, D_r52, D_k225, D_n225, D_r53, D_k226, D_n226, D_r55, D_k227, D_n227, D_r56, D_k228, D_n228, D_r57, D_k229, D_n229, D_r58, D_k230, D_n230, D_r59, D_k231, D_n231, D_r68, D_k232, D_n232, D_r69, D_k233, D_n233, D_r70, D_k234, D_n234, D_r73, D_k235, D_n235, D_r74, D_k236, D_n236, D_r76, D_k237, D_n237, D_r77, D_k238, D_n238, D_r79, e17', e18', e19', e20', e21']
      have u3 : Lm sc pp 17 171 [some (.ref 197), some (.int 0)] [] 0 0 x15 = Lm sc pp 17 239 [some (.ref 197), some (.int 2)] [] 0 0 x21 := e16.trans u2
      simp (disch := first | assumption | omega | exact Nat.le_of_ble_eq_true rfl | exact D_k197 (by assumption) | (simp (disch := assumption) only [kdI, kdJ, kdR, D_k197]; done) | (simp only [kdI, kdJ, kdR]; assumption) | fail) only [↓reduceIte, Int32.reduceLE, Int32.reduceLT, x_nil, Nat.reduceAdd, x_aload_n0, x_getI, x_putI, x_getR, x_iconst_2, K_13, bindR_some, toL_s, toL_n, ap_n, ap_c, List.map_nil, List.map_cons, List.sum_nil, List.sum_cons, cat_i, cat_r, cat_l, Nat.reduceLeDiff, Nat.zero_le, Nat.le_refl, x_bipush_8, x_iconst_5, x_bipush_10, x_iconst_0, x_istore_n1, x_iload_n1, x_icmp_ge, x_iadd, x_bald, x_bast, x_iinc1, x_goto, x_bipush_64, K_16, x_return, L_17_169, ofInt1, ofIntm1, kdI, hNI, hRI, hJI, kdJ, hNJ, hIJ, hRJ, kdR, hNR, hIR, hJR, hII, hJJ, hRR, n_clamp, z_lt, z_ge, z_eq, z_le, z_gt, o_eq, o_lt, o_gt, o_le, o_ge, m_eq, n_eq, n_le, n_lt, n_sub1, nI_1, ol_add, nI_add, z_cl, o_cl, z_pos, o_pos, o_z, z_o, m_z, N_le, N_lt, q2_le, q2_lt, q2_ge, q2_gt, q2_eq, q2_mul, q2_add, q2_adl, q2_cl, q2_pos, q2_ti, q2_tj, zq2, qz2, q5_le, q5_lt, q5_ge, q5_gt, q5_eq, q5_mul, q5_add, q5_adl, q5_cl, q5_pos, q5_ti, q5_tj, zq5, qz5, q8_le, q8_lt, q8_ge, q8_gt, q8_eq, q8_mul, q8_add, q8_adl, q8_cl, q8_pos, q8_ti, q8_tj, zq8, qz8, q10_le, q10_lt, q10_ge, q10_gt, q10_eq, q10_mul, q10_add, q10_adl, q10_cl, q10_pos, q10_ti, q10_tj, zq10, qz10, q64_le, q64_lt, q64_ge, q64_gt, q64_eq, q64_mul, q64_add, q64_adl, q64_cl, q64_pos, q64_ti, q64_tj, zq64, qz64, ne_eq, not_true_eq_false, not_false_eq_true, if_true, if_false, and_self, or_self, true_or, or_true, and_true, true_and, and_false, false_and, or_false, false_or, Nat.reduceEqDiff, Nat.le_refl, Nat.reduceLT, Nat.reduceLeDiff, b32_01, nI_0, D_k197, D_k198, D_n198, D_r0, D_k199, D_n199, D_r3, D_k200, D_n200, D_r22, D_k201, D_n201, D_r23, D_k202, D_n202, D_r24, D_k203, D_n203, D_r25, D_k204, D_n204, D_r26, D_k205, D_n205, D_r27, D_k206, D_n206, D_r28, D_k207, D_n207, D_r29, D_k208, D_n208, D_r30, D_k209, D_n209, D_r31, D_k210, D_n210, D_r32, D_k211, D_n211, D_r33, D_k212, D_n212, D_r34, D_k213, D_n213, D_r35, D_k214, D_n214, D_r36, D_k215, D_n215, D_r37, D_k216, D_n216, D_r38, D_k217, D_n217, D_r39, D_k218, D_n218, D_r40, D_k219, D_n219, D_r41, D_k220, D_n220, D_r42, D_k221, D_n221, D_r43, D_k222, D_n222, D_r44, D_k223, D_n223, D_r45, D_k224, D_n224, D_r52, D_k225, D_n225, D_r53, D_k226, D_n226, D_r55, D_k227, D_n227, D_r56, D_k228, D_n228, D_r57, D_k229, D_n229, D_r58, D_k230, D_n230, D_r59, D_k231, D_n231, D_r68, D_k232, D_n232, D_r69, D_k233, D_n233, D_r70, D_k234, D_n234, D_r73, D_k235, D_n235, D_r74, D_k236, D_n236, D_r76, D_k237, D_n237, D_r77, D_k238, D_n238, D_r79, u3]
    rw [L_17_48]
    simp (disch := first | assumption | omega | exact Nat.le_of_ble_eq_true rfl | exact D_k197 (by assumption) | (simp (disch := assumption) only [kdI, kdJ, kdR, D_k197]; done) | (simp only [kdI, kdJ, kdR]; assumption) | fail) only [↓reduceIte, Int32.reduceLE, Int32.reduceLT, x_nil, Nat.reduceAdd, x_aload_n0, x_getI, x_putI, x_getR, x_iconst_2, K_13, bindR_some, toL_s, toL_n, ap_n, ap_c, List.map_nil, List.map_cons, List.sum_nil, List.sum_cons, cat_i, cat_r, cat_l, Nat.reduceLeDiff, Nat.zero_le, Nat.le_refl, x_bipush_8, x_iconst_5, x_bipush_10, x_iconst_0, x_istore_n1, x_iload_n1, x_icmp_ge, x_iadd, x_bald, x_bast, x_iinc1, x_goto, x_bipush_64, K_16, x_return, L_17_57, L_17_65, L_17_73, L_17_81, L_17_89, L_17_97, L_17_106, L_17_115, L_17_124, L_17_133, L_17_142, L_17_151, L_17_160, ofInt1, ofIntm1, kdI, hNI, hRI, hJI, kdJ, hNJ, hIJ, hRJ, kdR, hNR, hIR, hJR, hII, hJJ, hRR, n_clamp, z_lt, z_ge, z_eq, z_le, z_gt, o_eq, o_lt, o_gt, o_le, o_ge, m_eq, n_eq, n_le, n_lt, n_sub1, nI_1, ol_add, nI_add, z_cl, o_cl, z_pos, o_pos, o_z, z_o, m_z, N_le, N_lt, q2_le, q2_lt, q2_ge, q2_gt, q2_eq, q2_mul, q2_add, q2_adl, q2_cl, q2_pos, q2_ti, q2_tj, zq2, qz2, q5_le, q5_lt, q5_ge, q5_gt, q5_eq, q5_mul, q5_add, q5_adl, q5_cl, q5_pos, q5_ti, q5_tj, zq5, qz5, q8_le, q8_lt, q8_ge, q8_gt, q8_eq, q8_mul, q8_add, q8_adl, q8_cl, q8_pos, q8_ti, q8_tj, zq8, qz8, q10_le, q10_lt, q10_ge, q10_gt, q10_eq, q10_mul, q10_add, q10_adl, q10_cl, q10_pos, q10_ti, q10_tj, zq10, qz10, q64_le, q64_lt, q64_ge, q64_gt, q64_eq, q64_mul, q64_add, q64_adl, q64_cl, q64_pos, q64_ti, q64_tj, zq64, qz64, ne_eq, not_true_eq_false, not_false_eq_true, if_true, if_false, and_self, or_self, true_or, or_true, and_true, true_and, and_false, false_and, or_false, false_or, Nat.reduceEqDiff, Nat.le_refl, Nat.reduceLT, Nat.reduceLeDiff, b32_01, nI_0, D_k197, D_k198, D_n198, D_r0, D_k199, D_n199, D_r3, D_k200, D_n200, D_r22, D_k201, D_n201, D_r23, D_k202, D_n202, D_r24, D_k203, D_n203, D_r25, D_k204, D_n204, D_r26, D_k205, D_n205, D_r27, D_k206, D_n206, D_r28, D_k207, D_n207, D_r29, D_k208, D_n208, D_r30, D_k209, D_n209, D_r31, D_k210, D_n210, D_r32, D_k211, D_n211, D_r33, D_k212, D_n212, D_r34, D_k213, D_n213, D_r35, D_k214, D_n214, D_r36, D_k215, D_n215, D_r37, D_k216, D_n216, D_r38, D_k217, D_n217, D_r39, D_k218, D_n218, D_r40, D_k219, D_n219, D_r41, D_k220, D_n220, D_r42, D_k221, D_n221, D_r43, D_k222, D_n222, D_r44, D_k223, D_n223, D_r45, D_k224, D_n224, D_r52, D_k225, D_n225, D_r53, D_k226, D_n226, D_r55, D_k227, D_n227, D_r56, D_k228, D_n228, D_r57, D_k229, D_n229, D_r58, D_k230, D_n230, D_r59, D_k231, D_n231, D_r68, D_k232, D_n232, D_r69, D_k233, D_n233, D_r70, D_k234, D_n234, D_r73, D_k235, D_n235, D_r74, D_k236, D_n236, D_r76, D_k237, D_n237, D_r77, D_k238, D_n238, D_r79, e2', e3', e4', e5', e6', e7', e8', e9', e10', e11', e12', e13', e14', e15', u1]
  · rw [c21 k j]
    by_cases z : 201 ≤ k ∧ k < 201 + 21 ∧ j < mmR k
    · rw [if_pos z, if_pos (by omega), zr k _ hk]
    · rw [if_neg z, if_neg (by omega), zr k _ hk]
  · rw [c21 197 12, if_neg (by omega)]; exact z12
  · rw [c21 197 13, if_neg (by omega)]; exact z13
  · rw [c21 197 14, if_neg (by omega)]; exact z14
  · rw [c21 197 15, if_neg (by omega)]; exact z15
  · rw [c21 197 16, if_neg (by omega)]; exact z16
end T87
