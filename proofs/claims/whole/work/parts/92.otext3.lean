-- light
-- text, of both: what follows the lines
section T92
variable {sc : Nat × (Nat → Int32)} {pp : Nat → Nat → Int32 → Int32 → Hp → Option (Hp × Int32)} {h g : Hp} {c d : Nat} {co st im : Mx} {hs : Nat → Mx} {nt ax : Mx} {hl : Nat → Mx} {m B : Nat}
theorem FrT.A {h' : Hp} (F : FrT d h h') (hd : d = 141 ∨ d = 165) : FA h h' := by
  refine ⟨F.1, F.2.1, F.2.2.1, fun k hk => ⟨(F.2.2.2.2.2.2.1 k (by omega) (by omega) (by omega) (by omega) (by omega)).1, (F.2.2.2.2.2.2.1 k (by omega) (by omega) (by omega) (by omega) (by omega)).2, F.2.2.2.1 k (by omega) (by omega)⟩, fun k hk => ?_⟩
  by_cases q : d ≤ k ∧ k < d + 24
  · rcases (by omega : k = d + 1 ∨ k = d + 3 ∨ k = d + 5) with rfl | rfl | rfl
    · exact F.2.2.2.2.2.2.2.1
    · exact F.2.2.2.2.2.2.2.2.1
    · exact F.2.2.2.2.2.2.2.2.2
  · rw [(F.2.2.2.2.2.2.1 k (by omega) (by omega) (by omega) (by omega) (by omega)).1]
theorem FA_sR {j v : Nat} : FA h (sR h 0 j v) := ⟨rfl, rfl, rfl, fun k hk => ⟨rfl, rfl, by funext i; rw [hRR, if_neg (by omega)]⟩, fun _ _ => rfl⟩
theorem SHp_sR {j v : Nat} (hj : j = 7 ∨ j = 8) : SHp h (sR h 0 j v) := ⟨⟨rfl, rfl, rfl⟩, fun k _ _ _ => by funext i; rw [hRR, if_neg (by omega)], fun i _ _ => by rw [hRR, if_neg (by omega)], ⟨by rw [hRR, if_neg (by omega)], by rw [hRR, if_neg (by omega)]⟩, ⟨by rw [hRR, if_neg (by omega)], by rw [hRR, if_neg (by omega)]⟩⟩
theorem c_place (X : isX h) : Lm sc pp 62 0 [some (.ref 189)] [] 0 0 h = some (h, some (.int (hI h 190 5))) := by
  have k189 := X_k189 X
  have k190 := X_k190 X
  have r0 := X_r189_0 X
  simp (disch := first | assumption | omega | exact Nat.le_of_ble_eq_true rfl | (simp only [kdI, kdJ, kdR]; assumption) | fail) only [↓reduceIte, Int32.reduceLE, Int32.reduceLT, x_nil, Nat.reduceAdd, x_aload_n0, x_getR, x_getI, x_ireturn, L_62_0, ofInt1, ofIntm1, kdI, hNI, hRI, hJI, kdJ, hNJ, hIJ, hRJ, kdR, hNR, hIR, hJR, hII, hJJ, hRR, n_clamp, z_lt, z_ge, z_eq, z_le, z_gt, o_eq, o_lt, o_gt, o_le, o_ge, m_eq, n_eq, n_le, n_lt, n_sub1, nI_1, ol_add, nI_add, z_cl, o_cl, z_pos, o_pos, o_z, z_o, m_z, N_le, N_lt, ne_eq, not_true_eq_false, not_false_eq_true, if_true, if_false, and_self, or_self, true_or, or_true, and_true, true_and, and_false, false_and, or_false, false_or, Nat.reduceEqDiff, Nat.le_refl, Nat.reduceLT, Nat.reduceLeDiff, b32_01, nI_0, k189, k190, r0]
theorem c_nClear (n8 : isN h 114) : Lm sc pp 65 0 [some (.ref 114)] [] 0 0 h = some (sI (sI h 114 6 0) 114 7 (-1), none) := by
  have k := N_k0 n8
  simp (disch := first | assumption | omega | exact Nat.le_of_ble_eq_true rfl | (simp only [kdI, kdJ, kdR]; assumption) | fail) only [↓reduceIte, Int32.reduceLE, Int32.reduceLT, x_nil, Nat.reduceAdd, x_aload_n0, x_iconst_0, x_putI, x_iconst_m1, x_return, L_65_0, ofInt1, ofIntm1, kdI, hNI, hRI, hJI, kdJ, hNJ, hIJ, hRJ, kdR, hNR, hIR, hJR, hII, hJJ, hRR, n_clamp, z_lt, z_ge, z_eq, z_le, z_gt, o_eq, o_lt, o_gt, o_le, o_ge, m_eq, n_eq, n_le, n_lt, n_sub1, nI_1, ol_add, nI_add, z_cl, o_cl, z_pos, o_pos, o_z, z_o, m_z, N_le, N_lt, ne_eq, not_true_eq_false, not_false_eq_true, if_true, if_false, and_self, or_self, true_or, or_true, and_true, true_and, and_false, false_and, or_false, false_or, Nat.reduceEqDiff, Nat.le_refl, Nat.reduceLT, Nat.reduceLeDiff, b32_01, nI_0, k]
theorem c_hClear (X : isX h) : Lm sc pp 66 0 [some (.ref 12)] [] 0 0 h = some (sI h 12 2 0, none) := by
  have k := X_k12 X
  simp (disch := first | assumption | omega | exact Nat.le_of_ble_eq_true rfl | (simp only [kdI, kdJ, kdR]; assumption) | fail) only [↓reduceIte, Int32.reduceLE, Int32.reduceLT, x_nil, Nat.reduceAdd, x_aload_n0, x_iconst_0, x_putI, x_return, L_66_0, ofInt1, ofIntm1, kdI, hNI, hRI, hJI, kdJ, hNJ, hIJ, hRJ, kdR, hNR, hIR, hJR, hII, hJJ, hRR, n_clamp, z_lt, z_ge, z_eq, z_le, z_gt, o_eq, o_lt, o_gt, o_le, o_ge, m_eq, n_eq, n_le, n_lt, n_sub1, nI_1, ol_add, nI_add, z_cl, o_cl, z_pos, o_pos, o_z, z_o, m_z, N_le, N_lt, ne_eq, not_true_eq_false, not_false_eq_true, if_true, if_false, and_self, or_self, true_or, or_true, and_true, true_and, and_false, false_and, or_false, false_or, Nat.reduceEqDiff, Nat.le_refl, Nat.reduceLT, Nat.reduceLeDiff, b32_01, nI_0, k]
theorem c_textF {h5 : Hp} {n a : Nat} {v : Int32} (I : CI h c d co st im hs nt ax) (t0 : hI h 0 11 = nI a) (hna : n ≤ a) (h7 : a ≤ 700) (X5 : isX h5) (v0 : ¬ v = 0) (e : Lm sc pp 61 0 [some (.ref 189), some (.ref d), some (.int (nI n)), none] [] 0 0 (sI h 0 11 0) = some (h5, some (.int v))) : Lm sc pp 67 0 [some (.ref 0), some (.int (nI n)), none] [] 0 0 h = some (sI (sI h5 0 12 v) 0 13 (hI h5 190 5), some (.int (-1))) := by
  have k0 := I.k0
  have r8 := I.rd
  have r9 := X_r0_9 I.x
  have k05 := X_k0 X5
  have r95 := X_r0_9 X5
  have X6 : isX (sI h5 0 12 v) := X5.mv (Fr_sI (L := [0]) (by simp))
  have k189 : kd (sI h 0 11 0) 189 = 9 := by rw [kdI]; exact X_k189 I.x
  have k189b := X_k189 X6
  have ep := c_place (sc := sc) (pp := pp) X6
  rw [hII, if_neg (by omega)] at ep
  simp (disch := first | assumption | omega | exact Nat.le_of_ble_eq_true rfl | (simp only [kdI, kdJ, kdR]; assumption) | fail) only [↓reduceIte, Int32.reduceLE, Int32.reduceLT, x_nil, Nat.reduceAdd, x_iload_n1, x_if_lt, x_aload_n0, x_getI, x_icmp_le, x_bipush_m2, x_ireturn, x_iconst_0, x_putI, x_getR, K_61, bindR_some, toL_s, toL_n, ap_n, ap_c, List.map_nil, List.map_cons, List.sum_nil, List.sum_cons, cat_i, cat_r, cat_l, Nat.reduceLeDiff, Nat.zero_le, Nat.le_refl, x_if_ne, x_iconst_m1, x_goto, K_62, x_if_eq, x_astore_n2, x_putR, x_aload_n2, K_64, K_65, K_66, x_putZ, L_67_0, L_67_4, L_67_12, L_67_15, L_67_33, L_67_44, L_67_48, L_67_55, L_67_65, ofInt1, ofIntm1, kdI, hNI, hRI, hJI, kdJ, hNJ, hIJ, hRJ, kdR, hNR, hIR, hJR, hII, hJJ, hRR, n_clamp, z_lt, z_ge, z_eq, z_le, z_gt, o_eq, o_lt, o_gt, o_le, o_ge, m_eq, n_eq, n_le, n_lt, n_sub1, nI_1, ol_add, nI_add, z_cl, o_cl, z_pos, o_pos, o_z, z_o, m_z, N_le, N_lt, ne_eq, not_true_eq_false, not_false_eq_true, if_true, if_false, and_self, or_self, true_or, or_true, and_true, true_and, and_false, false_and, or_false, false_or, Nat.reduceEqDiff, Nat.le_refl, Nat.reduceLT, Nat.reduceLeDiff, b32_01, nI_0, k0, r8, r9, t0, hna, e, k05, r95, v0, ep]
theorem c_textT {h5 h8 : Hp} {n a : Nat} (I : CI h c d co st im hs nt ax) (t0 : hI h 0 11 = nI a) (hna : n ≤ a) (h7 : a ≤ 700) (X5 : isX h5) (rc5 : hR h5 0 7 = c + 1) (rd5 : hR h5 0 8 = d + 1) (e : Lm sc pp 61 0 [some (.ref 189), some (.ref d), some (.int (nI n)), none] [] 0 0 (sI h 0 11 0) = some (h5, some (.int 0))) (eb : Lm sc pp 64 0 [some (.ref 2), some (.ref d), none] [] 0 0 (sR (sR (sI (sI h5 0 12 0) 0 13 (-1)) 0 8 (c + 1)) 0 7 (d + 1)) = some (h8, none)) (X8 : isX h8) (n8 : isN h8 114) (k2 : kd (sR (sR (sI (sI h5 0 12 0) 0 13 (-1)) 0 8 (c + 1)) 0 7 (d + 1)) 2 = 8) : Lm sc pp 67 0 [some (.ref 0), some (.int (nI n)), none] [] 0 0 h = some (sI (sI (sI (sI h8 114 6 0) 114 7 (-1)) 12 2 0) 0 14 0, some (.int (hI h8 189 5))) := by
  have hcd := I.cd
  have k0 := I.k0
  have r8 := I.rd
  have r9 := X_r0_9 I.x
  have k05 := X_k0 X5
  have r95 := X_r0_9 X5
  have r15 := X_r0_1 X5
  have k08 := X_k0 X8
  have r48 := X_r0_4 X8
  have r38 := X_r0_3 X8
  have r98 := X_r0_9 X8
  have k1898 := X_k189 X8
  have en := c_nClear (sc := sc) (pp := pp) n8
  have eh := c_hClear (sc := sc) (pp := pp) (h := sI (sI h8 114 6 0) 114 7 (-1)) ((X8.mv (Fr_sI (L := [114]) (by simp))).mv (Fr_sI (L := [114]) (by simp)))
  have k189 : kd (sI h 0 11 0) 189 = 9 := by rw [kdI]; exact X_k189 I.x
  have k114 : kd h8 114 = 5 := N_k0 n8
  have k12 : kd (sI (sI h8 114 6 0) 114 7 (-1)) 12 = 1 := by rw [kdI, kdI]; exact X_k12 X8
  have c1 : c < 1000 := by omega
  have d1 : d < 1000 := by omega
  simp (disch := first | assumption | omega | exact Nat.le_of_ble_eq_true rfl | (simp only [kdI, kdJ, kdR]; assumption) | fail) only [↓reduceIte, Int32.reduceLE, Int32.reduceLT, x_nil, Nat.reduceAdd, x_iload_n1, x_if_lt, x_aload_n0, x_getI, x_icmp_le, x_bipush_m2, x_ireturn, x_iconst_0, x_putI, x_getR, K_61, bindR_some, toL_s, toL_n, ap_n, ap_c, List.map_nil, List.map_cons, List.sum_nil, List.sum_cons, cat_i, cat_r, cat_l, Nat.reduceLeDiff, Nat.zero_le, Nat.le_refl, x_if_ne, x_iconst_m1, x_goto, K_62, x_if_eq, x_astore_n2, x_putR, x_aload_n2, K_64, K_65, K_66, x_putZ, L_67_0, L_67_4, L_67_12, L_67_15, L_67_33, L_67_44, L_67_55, L_67_67, L_67_96, L_67_103, L_67_110, ofInt1, ofIntm1, kdI, hNI, hRI, hJI, kdJ, hNJ, hIJ, hRJ, kdR, hNR, hIR, hJR, hII, hJJ, hRR, n_clamp, z_lt, z_ge, z_eq, z_le, z_gt, o_eq, o_lt, o_gt, o_le, o_ge, m_eq, n_eq, n_le, n_lt, n_sub1, nI_1, ol_add, nI_add, z_cl, o_cl, z_pos, o_pos, o_z, z_o, m_z, N_le, N_lt, ne_eq, not_true_eq_false, not_false_eq_true, if_true, if_false, and_self, or_self, true_or, or_true, and_true, true_and, and_false, false_and, or_false, false_or, Nat.reduceEqDiff, Nat.le_refl, Nat.reduceLT, Nat.reduceLeDiff, b32_01, nI_0, k0, r8, r9, t0, hna, e, k05, r95, r15, rc5, rd5, N_ltT c1, N_ltT d1, eb, k08, r48, r38, r98, k1898, en, eh]
theorem d_textT {g5 : Hp} {co' : Mx} {l nf np nq nt' kn : Nat} {h5 : Hp} (n : Nat) (C : RC h5 g5 d nf np nq nt' kn) (hco : co' = fun r => hI h5 (d + r)) : ∃ g', Lm sc pp 101 77 [some (.ref 197), some (.int (nI n)), some (.int (nI l))] [] 0 0 g5 = some (g', some (.int (nI l))) ∧ FrP g5 g' (fun k j => pCp k j ∨ (k = 197 ∧ 12 ≤ j ∧ j ≤ 16) ∨ pBg k j) qBg ∧ repE g' co' ∧ repB g' 0 (npO co') (stB co') ∧ hI g' 197 60 = 0 ∧ hI g' 197 71 = 0 ∧ hI g' 197 72 = -1 ∧ hI g' 197 75 = 0 ∧ hI g' 197 78 = 0 := by
  subst hco
  have hD := C.2.1
  obtain ⟨_, _, _, _, l5, l6⟩ := C.2.2.2.2.2.2.2.2
  have bo : ∀ a w, rLaw h5 g5 a w kn → hI g5 216 w = 0 ∨ hI g5 216 w = 1 := fun a w r => by
    rw [r.1]
    exact r.2.imp (fun z => z.1) (fun z => z.1)
  obtain ⟨y, ey, Fy, ry, y12, y13, y14, y15, y16⟩ := d_rows (sc := sc) (pp := pp) hD (bo _ _ l5) (bo _ _ l6)
  have hDy := hD.moveP Fy
  have E := C.rep hDy ry y12 y13 y14 y15 y16
  obtain ⟨g', eb, Fb, s, b1, b2, b3, b4, b5⟩ := d_begin (sc := sc) (pp := pp) E C.wf.1
  have hDb := hDy.moveP Fb
  have ek : Lm sc pp 17 0 [some (.ref 197), none] [] 0 0 g5 = some (g', none) := by
    rw [ey, L_17_239]
    simp (disch := first | assumption | omega | exact Nat.le_of_ble_eq_true rfl | exact D_k197 (by assumption) | (simp (disch := assumption) only [kdI, kdJ, kdR, D_k197]; done) | (simp only [kdI, kdJ, kdR]; assumption) | fail) only [↓reduceIte, Int32.reduceLE, Int32.reduceLT, x_nil, Nat.reduceAdd, x_aload_n0, x_getI, x_putI, x_getR, x_iconst_2, K_13, bindR_some, toL_s, toL_n, ap_n, ap_c, List.map_nil, List.map_cons, List.sum_nil, List.sum_cons, cat_i, cat_r, cat_l, Nat.reduceLeDiff, Nat.zero_le, Nat.le_refl, x_bipush_8, x_iconst_5, x_bipush_10, x_iconst_0, x_istore_n1, x_iload_n1, x_icmp_ge, x_iadd, x_bald, x_bast, x_iinc1, x_goto, x_bipush_64, K_16, x_return, L_17_243, ofInt1, ofIntm1, kdI, hNI, hRI, hJI, kdJ, hNJ, hIJ, hRJ, kdR, hNR, hIR, hJR, hII, hJJ, hRR, n_clamp, z_lt, z_ge, z_eq, z_le, z_gt, o_eq, o_lt, o_gt, o_le, o_ge, m_eq, n_eq, n_le, n_lt, n_sub1, nI_1, ol_add, nI_add, z_cl, o_cl, z_pos, o_pos, o_z, z_o, m_z, N_le, N_lt, q2_le, q2_lt, q2_ge, q2_gt, q2_eq, q2_mul, q2_add, q2_adl, q2_cl, q2_pos, q2_ti, q2_tj, zq2, qz2, q5_le, q5_lt, q5_ge, q5_gt, q5_eq, q5_mul, q5_add, q5_adl, q5_cl, q5_pos, q5_ti, q5_tj, zq5, qz5, q8_le, q8_lt, q8_ge, q8_gt, q8_eq, q8_mul, q8_add, q8_adl, q8_cl, q8_pos, q8_ti, q8_tj, zq8, qz8, q10_le, q10_lt, q10_ge, q10_gt, q10_eq, q10_mul, q10_add, q10_adl, q10_cl, q10_pos, q10_ti, q10_tj, zq10, qz10, q64_le, q64_lt, q64_ge, q64_gt, q64_eq, q64_mul, q64_add, q64_adl, q64_cl, q64_pos, q64_ti, q64_tj, zq64, qz64, ne_eq, not_true_eq_false, not_false_eq_true, if_true, if_false, and_self, or_self, true_or, or_true, and_true, true_and, and_false, false_and, or_false, false_or, Nat.reduceEqDiff, Nat.le_refl, Nat.reduceLT, Nat.reduceLeDiff, b32_01, nI_0, D_k197, D_k198, D_n198, D_r0, D_k199, D_n199, D_r3, D_k200, D_n200, D_r22, D_k201, D_n201, D_r23, D_k202, D_n202, D_r24, D_k203, D_n203, D_r25, D_k204, D_n204, D_r26, D_k205, D_n205, D_r27, D_k206, D_n206, D_r28, D_k207, D_n207, D_r29, D_k208, D_n208, D_r30, D_k209, D_n209, D_r31, D_k210, D_n210, D_r32, D_k211, D_n211, D_r33, D_k212, D_n212, D_r34, D_k213, D_n213, D_r35, D_k214, D_n214, D_r36, D_k215, D_n215, D_r37, D_k216, D_n216, D_r38, D_k217, D_n217, D_r39, D_k218, D_n218, D_r40, D_k219, D_n219, D_r41, D_k220, D_n220, D_r42, D_k221, D_n221, D_r43, D_k222, D_n222, D_r44, D_k223, D_n223, D_r45, D_k224, D_n224, D_r52, D_k225, D_n225, D_r53, D_k226, D_n226, D_r55, D_k227, D_n227, D_r56, D_k228, D_n228, D_r57, D_k229, D_n229, D_r58, D_k230, D_n230, D_r59, D_k231, D_n231, D_r68, D_k232, D_n232, D_r69, D_k233, D_n233, D_r70, D_k234, D_n234, D_r73, D_k235, D_n235, D_r74, D_k236, D_n236, D_r76, D_k237, D_n237, D_r77, D_k238, D_n238, D_r79, eb]
  refine ⟨g', ?_, (Fy.mono (fun k j q => by rcases q with q | q; exact Or.inl q; exact Or.inr (Or.inl q)) (fun _ _ q => q.elim)).trans (Fb.mono (fun k j q => Or.inr (Or.inr q)) (fun _ _ q => q)), E.mvP Fb (fun k j q => by unfold pBg at q; unfold ctCell; omega), s, b1, b2, b3, b4, b5⟩
  rw [L_101_77]
  simp (disch := first | assumption | omega | exact Nat.le_of_ble_eq_true rfl | exact D_k197 (by assumption) | (simp (disch := assumption) only [kdI, kdJ, kdR, D_k197]; done) | (simp only [kdI, kdJ, kdR]; assumption) | fail) only [↓reduceIte, Int32.reduceLE, Int32.reduceLT, x_nil, Nat.reduceAdd, x_aload_n0, x_iconst_0, x_putI, x_iload_n1, x_if_lt, x_getI, x_icmp_le, x_bipush_m2, x_ireturn, x_iconst_m1, K_12, bindR_some, toL_s, toL_n, ap_n, ap_c, List.map_nil, List.map_cons, List.sum_nil, List.sum_cons, cat_i, cat_r, cat_l, Nat.reduceLeDiff, Nat.zero_le, Nat.le_refl, K_73, x_istore_n2, x_if_eq, K_100, x_if_ne, x_iinc2, x_goto, K_17, x_iload_n2, L_101_81, ofInt1, ofIntm1, kdI, hNI, hRI, hJI, kdJ, hNJ, hIJ, hRJ, kdR, hNR, hIR, hJR, hII, hJJ, hRR, n_clamp, z_lt, z_ge, z_eq, z_le, z_gt, o_eq, o_lt, o_gt, o_le, o_ge, m_eq, n_eq, n_le, n_lt, n_sub1, nI_1, ol_add, nI_add, z_cl, o_cl, z_pos, o_pos, o_z, z_o, m_z, N_le, N_lt, ne_eq, not_true_eq_false, not_false_eq_true, if_true, if_false, and_self, or_self, true_or, or_true, and_true, true_and, and_false, false_and, or_false, false_or, Nat.reduceEqDiff, Nat.le_refl, Nat.reduceLT, Nat.reduceLeDiff, b32_01, nI_0, D_k197, D_k198, D_n198, D_r0, D_k199, D_n199, D_r3, D_k200, D_n200, D_r22, D_k201, D_n201, D_r23, D_k202, D_n202, D_r24, D_k203, D_n203, D_r25, D_k204, D_n204, D_r26, D_k205, D_n205, D_r27, D_k206, D_n206, D_r28, D_k207, D_n207, D_r29, D_k208, D_n208, D_r30, D_k209, D_n209, D_r31, D_k210, D_n210, D_r32, D_k211, D_n211, D_r33, D_k212, D_n212, D_r34, D_k213, D_n213, D_r35, D_k214, D_n214, D_r36, D_k215, D_n215, D_r37, D_k216, D_n216, D_r38, D_k217, D_n217, D_r39, D_k218, D_n218, D_r40, D_k219, D_n219, D_r41, D_k220, D_n220, D_r42, D_k221, D_n221, D_r43, D_k222, D_n222, D_r44, D_k223, D_n223, D_r45, D_k224, D_n224, D_r52, D_k225, D_n225, D_r53, D_k226, D_n226, D_r55, D_k227, D_n227, D_r56, D_k228, D_n228, D_r57, D_k229, D_n229, D_r58, D_k230, D_n230, D_r59, D_k231, D_n231, D_r68, D_k232, D_n232, D_r69, D_k233, D_n233, D_r70, D_k234, D_n234, D_r73, D_k235, D_n235, D_r74, D_k236, D_n236, D_r76, D_k237, D_n237, D_r77, D_k238, D_n238, D_r79, ek]
theorem stB_wf (w : wfC co) : wfS (npO co) (B + 1) (stB co) := by
  refine ⟨fun p hp => ?_, w.p.1, fun p hp => ⟨0, by omega, rfl⟩, 0, by omega, rfl⟩
  obtain ⟨_, _, _, v, hv, e⟩ := w.pers hp
  have h8 := w.f.2
  have : 2 ^ nfO co ≤ 2 ^ 8 := Nat.pow_le_pow_right (by omega) h8
  exact ⟨v, by omega, e⟩
set_option maxHeartbeats 4000000 in
theorem o_textF {h5 g5 : Hp} {n a : Nat} {v : Int32} (I : CI h c d co st im hs nt ax) (D : DI g co st im hl m nt ax) (H : HR hs ax hl m) (w : wfW B co st im hl m nt ax) (t0 : hI h 0 11 = nI a) (hna : n ≤ a) (h7 : a ≤ 700) (e : Lm sc pp 61 0 [some (.ref 189), some (.ref d), some (.int (nI n)), none] [] 0 0 (sI h 0 11 0) = some (h5, some (.int v))) (FT : FrT d (sI h 0 11 0) h5) (G : FrP g g5 pX qNo) (g1 : hI g5 197 1 = 0) (v0 : ¬ v = 0) (eg : Lm sc pp 101 0 [some (.ref 197), some (.int (nI n)), none] [] 0 0 g = some (g5, some (.int (-1)))) (g4 : hI g5 197 4 = v) (g5' : hI g5 197 5 = hI h5 190 5) : Out (Lm sc pp 67 0 [some (.ref 0), some (.int (nI n)), none] [] 0 0 h) (Lm sc pp 101 0 [some (.ref 197), some (.int (nI n)), none] [] 0 0 g) h g (B + 1) := by
  have hcd := I.cd
  have hd : d = 141 ∨ d = 165 := by omega
  have F0 : Fr h (sI h 0 11 0) [0] := Fr_sI (by simp)
  have X5 : isX h5 := (I.x.mv F0).sh FT.sh
  have F6 : Fr h5 (sI (sI h5 0 12 v) 0 13 (hI h5 190 5)) [0] := (Fr_sI (by simp)).trans (Fr_sI (by simp))
  have ec := c_textF (sc := sc) (pp := pp) I t0 hna h7 X5 v0 e
  have S6 : SHp h (sI (sI h5 0 12 v) 0 13 (hI h5 190 5)) := (F0.sh.trans FT.sh).trans F6.sh
  have r0 : ∀ j, hI (sI (sI h5 0 12 v) 0 13 (hI h5 190 5)) 0 j = if j = 13 then hI h5 190 5 else if j = 12 then v else if j = 11 then 0 else ax 0 j := fun j => by
    rw [hII, hII, (FT.2.2.2.2.2.2.1 0 (by omega) (by omega) (by omega) (by omega) (by omega)).1, hII, I.axR.1]
    simp only [true_and]
  have rr : ∀ k, k ≠ 0 → (k < d ∨ d + 24 ≤ k) → k ≠ 189 → k ≠ 190 → k ≠ 192 → k ≠ 193 → hI (sI (sI h5 0 12 v) 0 13 (hI h5 190 5)) k = hI h k := fun k z1 z2 z3 z4 z5 z6 => by
    rw [F6.I (by simp <;> omega), (FT.2.2.2.2.2.2.1 k z2 z3 z4 z5 z6).1, F0.I (by simp <;> omega)]
  have r7 : hR (sI (sI h5 0 12 v) 0 13 (hI h5 190 5)) 0 = hR h 0 := by
    rw [F6.2.2.2.1, FT.2.2.2.1 0 (by omega) (by omega), F0.2.2.2.1]
  have fa : FA h (sI (sI h5 0 12 v) 0 13 (hI h5 190 5)) := ((F0.A (by simp)).trans (FT.A hd)).trans (F6.A (by simp))
  generalize sI (sI h5 0 12 v) 0 13 (hI h5 190 5) = h6 at *
  have I6 := I.flt S6 (by rw [r7]) (by rw [r7]) rr
  refine ⟨h6, g5, .int (-1), ec, eg, fa, G.mono (fun k j q => by unfold pX pU at q; unfold inB; omega) (fun _ _ q => q.elim), c, d, co, st, im, hs, nt, _, hl, m, I6, D.flt I.w G (fun j hj => rfl) ?_ ?_ ?_ ?_, H.of rfl, ?_⟩
  · show hI h6 0 14 = _
    rw [r0, if_neg (by omega), if_neg (by omega), if_neg (by omega)]
  · show _ = hI h6 0 11
    rw [r0, if_neg (by omega), if_neg (by omega), if_pos rfl]; exact g1
  · show _ = hI h6 0 12
    rw [r0, if_neg (by omega), if_pos rfl]; exact g4
  · show _ = hI h6 0 13
    rw [r0, if_pos rfl]; exact g5'
  · have w' := w.up (Nat.le_succ B)
    have e14 : hI h6 0 14 = ax 0 14 := by rw [r0, if_neg (by omega), if_neg (by omega), if_neg (by omega)]
    have e11 : hI h6 0 11 = 0 := by rw [r0, if_neg (by omega), if_neg (by omega), if_pos rfl]
    unfold wfW at *
    show wfS _ _ _ ∧ (hI h6 0 14 = 0 ∨ hI h6 0 14 = 1) ∧ (¬ hI h6 0 14 = 0 → _) ∧ _ ∧ _ ∧ (∃ v, v ≤ 700 ∧ hI h6 0 11 = nI v) ∧ ∀ j, j < 700 → ∃ v, v < 256 ∧ ax 1 j = nI v
    rw [e14, e11]
    exact ⟨w'.1, w'.2.1, w'.2.2.1, w'.2.2.2.1, w'.2.2.2.2.1, ⟨0, by omega, rfl⟩, w'.2.2.2.2.2.2⟩
set_option maxHeartbeats 4000000 in
theorem o_textT {h5 g5 : Hp} {n a l nf np nq nt' kn : Nat} (I : CI h c d co st im hs nt ax) (D : DI g co st im hl m nt ax) (H : HR hs ax hl m) (w : wfW B co st im hl m nt ax) (t0 : hI h 0 11 = nI a) (hna : n ≤ a) (h7 : a ≤ 700) (e : Lm sc pp 61 0 [some (.ref 189), some (.ref d), some (.int (nI n)), none] [] 0 0 (sI h 0 11 0) = some (h5, some (.int 0))) (FT : FrT d (sI h 0 11 0) h5) (G : FrP g g5 pX qNo) (g1 : hI g5 197 1 = 0) (eg : Lm sc pp 101 0 [some (.ref 197), some (.int (nI n)), none] [] 0 0 g = Lm sc pp 101 77 [some (.ref 197), some (.int (nI n)), some (.int (nI l))] [] 0 0 g5) (hl5 : hI h5 189 5 = nI l) (g4 : hI g5 197 4 = 0) (g5' : hI g5 197 5 = -1) (C : RC h5 g5 d nf np nq nt' kn) : Out (Lm sc pp 67 0 [some (.ref 0), some (.int (nI n)), none] [] 0 0 h) (Lm sc pp 101 0 [some (.ref 197), some (.int (nI n)), none] [] 0 0 g) h g (B + 1) := by
  have hcd := I.cd
  have hd : d = 141 ∨ d = 165 := by omega
  have F0 : Fr h (sI h 0 11 0) [0] := Fr_sI (by simp)
  have X5 : isX h5 := (I.x.mv F0).sh FT.sh
  have F6 : Fr h5 (sI (sI h5 0 12 0) 0 13 (-1)) [0] := (Fr_sI (by simp)).trans (Fr_sI (by simp))
  have W := C.wf.1
  obtain ⟨g', e7, G7, E7, s7, b1, b2, b3, b4, b5⟩ := d_textT (sc := sc) (pp := pp) (l := l) n C rfl
  have S7 : SHp h (sR (sR (sI (sI h5 0 12 0) 0 13 (-1)) 0 8 (c + 1)) 0 7 (d + 1)) := (((F0.sh.trans FT.sh).trans F6.sh).trans (SHp_sR (by omega))).trans (SHp_sR (by omega))
  have A7 : FA h (sR (sR (sI (sI h5 0 12 0) 0 13 (-1)) 0 8 (c + 1)) 0 7 (d + 1)) := ((((F0.A (by simp)).trans (FT.A hd)).trans (F6.A (by simp))).trans FA_sR).trans FA_sR
  have q7 : hR (sR (sR (sI (sI h5 0 12 0) 0 13 (-1)) 0 8 (c + 1)) 0 7 (d + 1)) 0 7 = d + 1 := by rw [hRR, if_pos ⟨rfl, rfl⟩]
  have q8 : hR (sR (sR (sI (sI h5 0 12 0) 0 13 (-1)) 0 8 (c + 1)) 0 7 (d + 1)) 0 8 = c + 1 := by rw [hRR, if_neg (by omega), hRR, if_pos ⟨rfl, rfl⟩]
  have rI : ∀ k, hI (sR (sR (sI (sI h5 0 12 0) 0 13 (-1)) 0 8 (c + 1)) 0 7 (d + 1)) k = hI (sI (sI h5 0 12 0) 0 13 (-1)) k := fun k => rfl
  have rk : ∀ k, k ≠ 0 → hI (sR (sR (sI (sI h5 0 12 0) 0 13 (-1)) 0 8 (c + 1)) 0 7 (d + 1)) k = hI h5 k := fun k hk => by rw [rI, F6.I (by simp <;> omega)]
  have r0 : ∀ j, hI (sR (sR (sI (sI h5 0 12 0) 0 13 (-1)) 0 8 (c + 1)) 0 7 (d + 1)) 0 j = if j = 13 then -1 else if j = 12 then 0 else if j = 11 then 0 else ax 0 j := fun j => by
    rw [rI, hII, hII, (FT.2.2.2.2.2.2.1 0 (by omega) (by omega) (by omega) (by omega) (by omega)).1, hII, I.axR.1]
    simp only [true_and]
  have rc5 : hR h5 0 7 = c + 1 := by rw [FT.2.2.2.1 0 (by omega) (by omega), F0.2.2.2.1]; exact I.rc
  have rd5 : hR h5 0 8 = d + 1 := by rw [FT.2.2.2.1 0 (by omega) (by omega), F0.2.2.2.1]; exact I.rd
  have k2 : kd (sR (sR (sI (sI h5 0 12 0) 0 13 (-1)) 0 8 (c + 1)) 0 7 (d + 1)) 2 = 8 := by rw [S7.kd]; exact S_k0 I.S.1
  have ct := fun h8 => c_textT (sc := sc) (pp := pp) (h8 := h8) I t0 hna h7 X5 rc5 rd5 e
  have hC7 : repC (sR (sR (sI (sI h5 0 12 0) 0 13 (-1)) 0 8 (c + 1)) 0 7 (d + 1)) d (fun r => hI h5 (d + r)) := ⟨I.D.sh S7 (by omega), fun r hr => rk _ (by omega)⟩
  generalize sR (sR (sI (sI h5 0 12 0) 0 13 (-1)) 0 8 (c + 1)) 0 7 (d + 1) = h7' at *
  obtain ⟨h8, e8, F8, S8⟩ := r_begin (sc := sc) (pp := pp) 2 (I.S.1.sh S7 (by omega)) hC7 (by omega)
  have X8 : isX h8 := (I.x.sh S7).mv F8
  have n8 : isN h8 114 := (I.n.sh S7).move F8
  have ec := ct h8 e8 X8 n8 k2
  have F9 : Fr h8 (sI (sI (sI (sI h8 114 6 0) 114 7 (-1)) 12 2 0) 0 14 0) [0, 12, 114] := (((Fr_sI (by simp)).trans (Fr_sI (by simp))).trans (Fr_sI (by simp))).trans (Fr_sI (by simp))
  have z6 : hI (sI (sI (sI (sI h8 114 6 0) 114 7 (-1)) 12 2 0) 0 14 0) 114 6 = 0 := by rw [hII, if_neg (by omega), hII, if_neg (by omega), hII, if_neg (by omega), hII, if_pos ⟨rfl, rfl⟩]
  have z7 : hI (sI (sI (sI (sI h8 114 6 0) 114 7 (-1)) 12 2 0) 0 14 0) 114 7 = -1 := by rw [hII, if_neg (by omega), hII, if_neg (by omega), hII, if_pos ⟨rfl, rfl⟩]
  have z12 : hI (sI (sI (sI (sI h8 114 6 0) 114 7 (-1)) 12 2 0) 0 14 0) 12 2 = 0 := by rw [hII, if_neg (by omega), hII, if_pos ⟨rfl, rfl⟩]
  have z121 : hI (sI (sI (sI (sI h8 114 6 0) 114 7 (-1)) 12 2 0) 0 14 0) 12 1 = ax 12 1 := by
    rw [hII, if_neg (by omega), hII, if_neg (by omega), hII, if_neg (by omega), hII, if_neg (by omega), F8.I (by simp), rk 12 (by omega), (FT.2.2.2.2.2.2.1 12 (by omega) (by omega) (by omega) (by omega) (by omega)).1, F0.I (by simp), I.axR.2.2]
  have z0 : ∀ j, j ≠ 14 → hI (sI (sI (sI (sI h8 114 6 0) 114 7 (-1)) 12 2 0) 0 14 0) 0 j = if j = 13 then -1 else if j = 12 then 0 else if j = 11 then 0 else ax 0 j := fun j hj => by
    rw [hII, if_neg (by omega), hII, if_neg (by omega), hII, if_neg (by omega), hII, if_neg (by omega), F8.I (by simp), r0]
  have z14 : hI (sI (sI (sI (sI h8 114 6 0) 114 7 (-1)) 12 2 0) 0 14 0) 0 14 = 0 := by rw [hII, if_pos ⟨rfl, rfl⟩]
  have zk : ∀ k, k ≠ 0 → k ≠ 12 → k ≠ 114 → ¬ (2 ≤ k ∧ k ≤ 6) → hI (sI (sI (sI (sI h8 114 6 0) 114 7 (-1)) 12 2 0) 0 14 0) k = hI h5 k := fun k _ _ _ _ => by
    rw [F9.I (by simp <;> omega), F8.I (by simp <;> omega), rk k (by omega)]
  have l8 : hI h8 189 5 = nI l := by rw [F8.I (by simp), rk 189 (by omega)]; exact hl5
  have S9 : SHp h (sI (sI (sI (sI h8 114 6 0) 114 7 (-1)) 12 2 0) 0 14 0) := (S7.trans F8.sh).trans F9.sh
  have A9 : FA h (sI (sI (sI (sI h8 114 6 0) 114 7 (-1)) 12 2 0) 0 14 0) := (A7.trans (F8.A (by simp))).trans (F9.A (by simp))
  have p7 : hR (sI (sI (sI (sI h8 114 6 0) 114 7 (-1)) 12 2 0) 0 14 0) 0 7 = d + 1 := by rw [F9.2.2.2.1, F8.2.2.2.1]; exact q7
  have p8 : hR (sI (sI (sI (sI h8 114 6 0) 114 7 (-1)) 12 2 0) 0 14 0) 0 8 = c + 1 := by rw [F9.2.2.2.1, F8.2.2.2.1]; exact q8
  have S8' := S8.move F9 (by simp)
  rw [l8] at ec
  generalize sI (sI (sI (sI h8 114 6 0) 114 7 (-1)) 12 2 0) 0 14 0 = h9 at *
  have z1 : hI h9 1 = ax 1 := by rw [zk 1 (by omega) (by omega) (by omega) (by omega), (FT.2.2.2.2.2.2.1 1 (by omega) (by omega) (by omega) (by omega) (by omega)).1, F0.I (by simp)]; exact I.axR.2.1
  have I9 := I.took S9 p7 p8 (fun k y0 y1 y2 y3 y4 y5 y6 y7 y8 => by rw [zk k y0 y2 y3 y1, (FT.2.2.2.2.2.2.1 k y4 y5 y6 y7 y8).1, F0.I (by simp <;> omega)]) W (fun q hq => zk _ (by omega) (by omega) (by omega) (by omega)) S8'
  have GG : ∀ k j, ¬ pX k j → ¬ (pCp k j ∨ (k = 197 ∧ 12 ≤ j ∧ j ≤ 16) ∨ pBg k j) → hI g' k j = hI g k j := fun k j y1 y2 => by rw [G7.I y2, G.I y1]
  have GH : ∀ j, j = 1 ∨ j = 4 ∨ j = 5 → hI g' 197 j = hI g5 197 j := fun j hj => G7.I (by unfold pCp pBg; omega)
  refine ⟨h9, g', .int (nI l), ec, by rw [eg]; exact e7, A9, (G.mono (fun k j q => by unfold pX pU at q; unfold inB; omega) (fun _ _ q => q.elim)).trans (G7.mono (fun k j q => by unfold pCp pBg at q; unfold inB; omega) (fun k j q => by unfold qBg at q; unfold inB; omega)), d, c, _, _, im, hs, _, _, hl, 0, I9, ⟨E7, s7, b1, ⟨?_, fun z => absurd z14 z⟩, ⟨b4, fun i hi => absurd hi (by omega)⟩, ⟨?_, ?_, fun k hk => ?_⟩, fun j hj => ?_, ?_, ?_, ?_⟩, ⟨by omega, ?_⟩, ?_⟩
  · exact b5.trans z14.symm
  · exact b2.trans z6.symm
  · exact b3.trans z7.symm
  · exfalso
    have hk' : k < nO (hI h9 114 6) := hk
    rw [z6] at hk'
    exact absurd hk' (by rw [show nO (0 : Int32) = 0 from rfl]; omega)
  · show _ = hI h9 1 j
    rw [z1, GG 198 j (by unfold pX pU; omega) (by unfold pCp pBg; omega)]; exact D.2.2.2.2.2.2.1 j hj
  · show _ = hI h9 0 11
    rw [z0 11 (by omega), if_neg (by omega), if_neg (by omega), if_pos rfl, GH 1 (by omega)]; exact g1
  · show _ = hI h9 0 12
    rw [z0 12 (by omega), if_neg (by omega), if_pos rfl, GH 4 (by omega)]; exact g4
  · show _ = hI h9 0 13
    rw [z0 13 (by omega), if_pos rfl, GH 5 (by omega)]; exact g5'
  · obtain ⟨_, old, ho, a1, _⟩ := H
    exact ⟨old, ho, z121.trans a1, z12, fun i hi => absurd hi (by omega)⟩
  · refine ⟨stB_wf W, Or.inl z14, fun z => absurd z14 z, fun i hi => absurd hi (by omega), ⟨?_, Or.inl z7, fun k hk => ?_⟩, ⟨0, by omega, ?_⟩, fun j hj => ?_⟩
    · show hI h9 114 6 = nI (nO (hI h9 114 6)) ∧ nO (hI h9 114 6) ≤ 24
      rw [z6]
      exact ⟨rfl, by rw [show nO (0 : Int32) = 0 from rfl]; omega⟩
    · exfalso
      have hk' : k < nO (hI h9 114 6) := hk
      rw [z6] at hk'
      exact absurd hk' (by rw [show nO (0 : Int32) = 0 from rfl]; omega)
    · show hI h9 0 11 = _
      rw [z0 11 (by omega), if_neg (by omega), if_neg (by omega), if_pos rfl]; rfl
    · show ∃ v, v < 256 ∧ hI h9 1 j = nI v
      rw [z1]; exact w.2.2.2.2.2.2 j hj
theorem o_text (n : Int32) (I : CI h c d co st im hs nt ax) (D : DI g co st im hl m nt ax) (H : HR hs ax hl m) (w : wfW B co st im hl m nt ax) (xw : XW h) (yw : YW g) : Out (Lm sc pp 67 0 [some (.ref 0), some (.int n), none] [] 0 0 h) (Lm sc pp 101 0 [some (.ref 197), some (.int n), none] [] 0 0 g) h g (B + 1) := by
  have hD := D.1.1
  obtain ⟨a, ha, ea⟩ := w.2.2.2.2.2.1
  have t0 : hI h 0 11 = nI a := by rw [I.axR.1]; exact ea
  have t1 : hI g 197 1 = nI a := D.2.2.2.2.2.2.2.1.trans ea
  have k0 := I.k0
  by_cases q1 : n < 0
  · refine out0 (x := .int (-2)) I D H w ?_ ?_
    · simp (disch := first | assumption | omega | exact Nat.le_of_ble_eq_true rfl | (simp only [kdI, kdJ, kdR]; assumption) | fail) only [↓reduceIte, Int32.reduceLE, Int32.reduceLT, x_nil, Nat.reduceAdd, x_iload_n1, x_if_lt, x_aload_n0, x_getI, x_icmp_le, x_bipush_m2, x_ireturn, x_iconst_0, x_putI, x_getR, K_61, bindR_some, toL_s, toL_n, ap_n, ap_c, List.map_nil, List.map_cons, List.sum_nil, List.sum_cons, cat_i, cat_r, cat_l, Nat.reduceLeDiff, Nat.zero_le, Nat.le_refl, x_if_ne, x_iconst_m1, x_goto, K_62, x_if_eq, x_astore_n2, x_putR, x_aload_n2, K_64, K_65, K_66, x_putZ, L_67_0, L_67_12, ofInt1, ofIntm1, kdI, hNI, hRI, hJI, kdJ, hNJ, hIJ, hRJ, kdR, hNR, hIR, hJR, hII, hJJ, hRR, n_clamp, z_lt, z_ge, z_eq, z_le, z_gt, o_eq, o_lt, o_gt, o_le, o_ge, m_eq, n_eq, n_le, n_lt, n_sub1, nI_1, ol_add, nI_add, z_cl, o_cl, z_pos, o_pos, o_z, z_o, m_z, N_le, N_lt, ne_eq, not_true_eq_false, not_false_eq_true, if_true, if_false, and_self, or_self, true_or, or_true, and_true, true_and, and_false, false_and, or_false, false_or, Nat.reduceEqDiff, Nat.le_refl, Nat.reduceLT, Nat.reduceLeDiff, b32_01, nI_0, k0, q1]
    · simp (disch := first | assumption | omega | exact Nat.le_of_ble_eq_true rfl | exact D_k197 (by assumption) | (simp (disch := assumption) only [kdI, kdJ, kdR, D_k197]; done) | (simp only [kdI, kdJ, kdR]; assumption) | fail) only [↓reduceIte, Int32.reduceLE, Int32.reduceLT, x_nil, Nat.reduceAdd, x_aload_n0, x_iconst_0, x_putI, x_iload_n1, x_if_lt, x_getI, x_icmp_le, x_bipush_m2, x_ireturn, x_iconst_m1, K_12, bindR_some, toL_s, toL_n, ap_n, ap_c, List.map_nil, List.map_cons, List.sum_nil, List.sum_cons, cat_i, cat_r, cat_l, Nat.reduceLeDiff, Nat.zero_le, Nat.le_refl, K_73, x_istore_n2, x_if_eq, K_100, x_if_ne, x_iinc2, x_goto, K_17, x_iload_n2, L_101_0, L_101_17, ofInt1, ofIntm1, kdI, hNI, hRI, hJI, kdJ, hNJ, hIJ, hRJ, kdR, hNR, hIR, hJR, hII, hJJ, hRR, n_clamp, z_lt, z_ge, z_eq, z_le, z_gt, o_eq, o_lt, o_gt, o_le, o_ge, m_eq, n_eq, n_le, n_lt, n_sub1, nI_1, ol_add, nI_add, z_cl, o_cl, z_pos, o_pos, o_z, z_o, m_z, N_le, N_lt, ne_eq, not_true_eq_false, not_false_eq_true, if_true, if_false, and_self, or_self, true_or, or_true, and_true, true_and, and_false, false_and, or_false, false_or, Nat.reduceEqDiff, Nat.le_refl, Nat.reduceLT, Nat.reduceLeDiff, b32_01, nI_0, D_k197, D_k198, D_n198, D_r0, D_k199, D_n199, D_r3, D_k200, D_n200, D_r22, D_k201, D_n201, D_r23, D_k202, D_n202, D_r24, D_k203, D_n203, D_r25, D_k204, D_n204, D_r26, D_k205, D_n205, D_r27, D_k206, D_n206, D_r28, D_k207, D_n207, D_r29, D_k208, D_n208, D_r30, D_k209, D_n209, D_r31, D_k210, D_n210, D_r32, D_k211, D_n211, D_r33, D_k212, D_n212, D_r34, D_k213, D_n213, D_r35, D_k214, D_n214, D_r36, D_k215, D_n215, D_r37, D_k216, D_n216, D_r38, D_k217, D_n217, D_r39, D_k218, D_n218, D_r40, D_k219, D_n219, D_r41, D_k220, D_n220, D_r42, D_k221, D_n221, D_r43, D_k222, D_n222, D_r44, D_k223, D_n223, D_r45, D_k224, D_n224, D_r52, D_k225, D_n225, D_r53, D_k226, D_n226, D_r55, D_k227, D_n227, D_r56, D_k228, D_n228, D_r57, D_k229, D_n229, D_r58, D_k230, D_n230, D_r59, D_k231, D_n231, D_r68, D_k232, D_n232, D_r69, D_k233, D_n233, D_r70, D_k234, D_n234, D_r73, D_k235, D_n235, D_r74, D_k236, D_n236, D_r76, D_k237, D_n237, D_r77, D_k238, D_n238, D_r79, q1]
  by_cases q2 : nI a < n
  · have q3 : ¬ n ≤ nI a := fun z => Int32.lt_irrefl (Int32.lt_of_lt_of_le q2 z)
    refine out0 (x := .int (-2)) I D H w ?_ ?_
    · simp (disch := first | assumption | omega | exact Nat.le_of_ble_eq_true rfl | (simp only [kdI, kdJ, kdR]; assumption) | fail) only [↓reduceIte, Int32.reduceLE, Int32.reduceLT, x_nil, Nat.reduceAdd, x_iload_n1, x_if_lt, x_aload_n0, x_getI, x_icmp_le, x_bipush_m2, x_ireturn, x_iconst_0, x_putI, x_getR, K_61, bindR_some, toL_s, toL_n, ap_n, ap_c, List.map_nil, List.map_cons, List.sum_nil, List.sum_cons, cat_i, cat_r, cat_l, Nat.reduceLeDiff, Nat.zero_le, Nat.le_refl, x_if_ne, x_iconst_m1, x_goto, K_62, x_if_eq, x_astore_n2, x_putR, x_aload_n2, K_64, K_65, K_66, x_putZ, L_67_0, L_67_4, L_67_12, ofInt1, ofIntm1, kdI, hNI, hRI, hJI, kdJ, hNJ, hIJ, hRJ, kdR, hNR, hIR, hJR, hII, hJJ, hRR, n_clamp, z_lt, z_ge, z_eq, z_le, z_gt, o_eq, o_lt, o_gt, o_le, o_ge, m_eq, n_eq, n_le, n_lt, n_sub1, nI_1, ol_add, nI_add, z_cl, o_cl, z_pos, o_pos, o_z, z_o, m_z, N_le, N_lt, ne_eq, not_true_eq_false, not_false_eq_true, if_true, if_false, and_self, or_self, true_or, or_true, and_true, true_and, and_false, false_and, or_false, false_or, Nat.reduceEqDiff, Nat.le_refl, Nat.reduceLT, Nat.reduceLeDiff, b32_01, nI_0, k0, q1, t0, q3]
    · simp (disch := first | assumption | omega | exact Nat.le_of_ble_eq_true rfl | exact D_k197 (by assumption) | (simp (disch := assumption) only [kdI, kdJ, kdR, D_k197]; done) | (simp only [kdI, kdJ, kdR]; assumption) | fail) only [↓reduceIte, Int32.reduceLE, Int32.reduceLT, x_nil, Nat.reduceAdd, x_aload_n0, x_iconst_0, x_putI, x_iload_n1, x_if_lt, x_getI, x_icmp_le, x_bipush_m2, x_ireturn, x_iconst_m1, K_12, bindR_some, toL_s, toL_n, ap_n, ap_c, List.map_nil, List.map_cons, List.sum_nil, List.sum_cons, cat_i, cat_r, cat_l, Nat.reduceLeDiff, Nat.zero_le, Nat.le_refl, K_73, x_istore_n2, x_if_eq, K_100, x_if_ne, x_iinc2, x_goto, K_17, x_iload_n2, L_101_0, L_101_9, L_101_17, ofInt1, ofIntm1, kdI, hNI, hRI, hJI, kdJ, hNJ, hIJ, hRJ, kdR, hNR, hIR, hJR, hII, hJJ, hRR, n_clamp, z_lt, z_ge, z_eq, z_le, z_gt, o_eq, o_lt, o_gt, o_le, o_ge, m_eq, n_eq, n_le, n_lt, n_sub1, nI_1, ol_add, nI_add, z_cl, o_cl, z_pos, o_pos, o_z, z_o, m_z, N_le, N_lt, ne_eq, not_true_eq_false, not_false_eq_true, if_true, if_false, and_self, or_self, true_or, or_true, and_true, true_and, and_false, false_and, or_false, false_or, Nat.reduceEqDiff, Nat.le_refl, Nat.reduceLT, Nat.reduceLeDiff, b32_01, nI_0, D_k197, D_k198, D_n198, D_r0, D_k199, D_n199, D_r3, D_k200, D_n200, D_r22, D_k201, D_n201, D_r23, D_k202, D_n202, D_r24, D_k203, D_n203, D_r25, D_k204, D_n204, D_r26, D_k205, D_n205, D_r27, D_k206, D_n206, D_r28, D_k207, D_n207, D_r29, D_k208, D_n208, D_r30, D_k209, D_n209, D_r31, D_k210, D_n210, D_r32, D_k211, D_n211, D_r33, D_k212, D_n212, D_r34, D_k213, D_n213, D_r35, D_k214, D_n214, D_r36, D_k215, D_n215, D_r37, D_k216, D_n216, D_r38, D_k217, D_n217, D_r39, D_k218, D_n218, D_r40, D_k219, D_n219, D_r41, D_k220, D_n220, D_r42, D_k221, D_n221, D_r43, D_k222, D_n222, D_r44, D_k223, D_n223, D_r45, D_k224, D_n224, D_r52, D_k225, D_n225, D_r53, D_k226, D_n226, D_r55, D_k227, D_n227, D_r56, D_k228, D_n228, D_r57, D_k229, D_n229, D_r58, D_k230, D_n230, D_r59, D_k231, D_n231, D_r68, D_k232, D_n232, D_r69, D_k233, D_n233, D_r70, D_k234, D_n234, D_r73, D_k235, D_n235, D_r74, D_k236, D_n236, D_r76, D_k237, D_n237, D_r77, D_k238, D_n238, D_r79, q1, t1, q3]
  obtain ⟨k, hk, rfl⟩ := (hasB_iff' (by omega)).mpr ⟨q1, q2⟩
  obtain ⟨h5, g5, v, e, FT, G, g1, res⟩ := t_lines (sc := sc) (pp := pp) k I D w xw yw t1 (by omega) ha
  rcases res with ⟨rfl, l, nf, np, nq, nt', kn, _, x2, x3, x4, x5, x6⟩ | ⟨v0, x1, x2, x3⟩
  · exact o_textT (sc := sc) (pp := pp) I D H w t0 (by omega) ha e FT G g1 x2 x3 x4 x5 x6
  · exact o_textF (sc := sc) (pp := pp) I D H w t0 (by omega) ha e FT G g1 v0 x1 x2 x3
end T92
