-- the reading of a law: an operand, in both
def FrLw (d a : Nat) (h h' : Hp) : Prop := Fr h h' [190, 192, 193, a, a + 1, a + 2, d] ∧ (∀ j, j ≠ 19 → hI h' d j = hI h d j) ∧ ∀ j, j ≠ 2 → hI h' a j = hI h a j
theorem FrLw.refl (d a : Nat) (h : Hp) : FrLw d a h h := ⟨Fr.refl _ _, fun _ _ => rfl, fun _ _ => rfl⟩
theorem FrLw.trans {d a : Nat} {x y z : Hp} (p : FrLw d a x y) (q : FrLw d a y z) : FrLw d a x z := ⟨p.1.trans q.1, fun j hj => (q.2.1 j hj).trans (p.2.1 j hj), fun j hj => (q.2.2 j hj).trans (p.2.2 j hj)⟩
theorem FrLw.of {d a : Nat} {h h' : Hp} {M : List Nat} (hd : d < 189 ∧ 141 ≤ d) (ha : a < 189 ∧ d < a) (F : Fr h h' M) (hM : ∀ k, k ∈ M → k = 190 ∨ k = 192 ∨ k = 193) : FrLw d a h h' := ⟨F.mono (fun k q => by have := hM k q; simp; omega), fun j _ => by rw [F.I (fun q => by have := hM _ q; omega)], fun j _ => by rw [F.I (fun q => by have := hM _ q; omega)]⟩
def pLw (f k j : Nat) : Prop := (k = 197 ∧ (j = 4 ∨ j = 5 ∨ (7 ≤ j ∧ j ≤ 10) ∨ j = 21 ∨ (46 ≤ j ∧ j ≤ 51))) ∨ (219 ≤ k ∧ k ≤ 221 ∧ 64 + f ≤ j) ∨ k = 222 ∨ k = 223
theorem LG.set {g : Hp} {f : Nat} {W : List Nat} {L : Nat} {w mn : Int32} {kn : Nat} {cd : Nat → Nat} {nu : Nat → Int32} (G : LG g f W L w mn kn cd nu) (u : Int32) : LG (sI g 197 50 u) f W L u mn kn cd nu := by
  obtain ⟨c1, c2, c3, c4, c5, c6, c7, c8, c9, c10, c11⟩ := G
  have r : ∀ j, j ≠ 50 → hI (sI g 197 50 u) 197 j = hI g 197 j := fun j hj => by rw [hII, if_neg (by omega)]
  have r3 : ∀ k, k ≠ 197 → hI (sI g 197 50 u) k = hI g k := fun k hk => funext fun j => by rw [hII, if_neg (by omega)]
  refine ⟨c1.sI, ?_, ?_, ?_, ?_, ?_, ?_, ?_, ?_, ?_, ?_⟩
  · rw [r _ (by omega)]; exact c2
  · rw [r _ (by omega)]; exact c3
  · rw [r _ (by omega)]; exact c4
  · rw [r _ (by omega)]; exact c5
  · rw [hII, if_pos ⟨rfl, rfl⟩]
  · rw [r _ (by omega)]; exact c7
  · rw [r _ (by omega)]; exact c8
  · rw [r3 222 (by omega)]; exact c9
  · rw [r3 223 (by omega)]; exact c10
  · unfold lawU at *
    rw [r3 219 (by omega), r3 220 (by omega), r3 221 (by omega)]; exact c11
section T78
variable {sc : Nat × (Nat → Int32)} {pp : Nat → Nat → Int32 → Int32 → Hp → Option (Hp × Int32)} {t : Nat → Nat} {n : Nat}
/-- one token of a law: a fault, or both go on -/
def LGo (sc : Nat × (Nat → Int32)) (pp : Nat → Nat → Int32 → Int32 → Hp → Option (Hp × Int32)) (d a f : Nat) (A B : Rs) (h g : Hp) : Prop :=
  (∃ h1 g1 v, A = some (h1, some (.int v)) ∧ ¬ v = 0 ∧ ¬ v = -1 ∧ B = some (g1, some (.int 0)) ∧ FrLw d a h h1 ∧ FrP g g1 (pLw f) qNo ∧ hI g1 197 4 = v ∧ hI g1 197 5 = hI h1 190 5)
  ∨ (∃ h1 g0 W L w mn kn cd nu, A = some (h1, some (.int (-1))) ∧ (∀ g1, Lm sc pp 73 0 [some (.ref 197)] [] 0 0 g0 = some (g1, none) → B = some (g1, some (.int 1))) ∧ FrLw d a h h1 ∧ FrP g g0 (pLw f) qNo ∧ hI h1 190 = hI h 190 ∧ (∀ j, 4 ≤ j → j ≤ 10 → hI g0 197 j = hI g 197 j) ∧ LC h1 d a W L w kn cd nu ∧ LG g0 f W L w mn kn cd nu ∧ LPu f W L w mn kn cd)
theorem wrong_F {g : Hp} {f : Nat} {c : Int32} : FrP g (sI (sI g 197 4 c) 197 5 (hI g 197 10)) (pLw f) qNo := (FrP_sI (by unfold pLw; omega)).trans (FrP_sI (by unfold pLw; omega))
theorem LGo.bad {d a f : Nat} {A B : Rs} {h g h1 g1 : Hp} {v : Int32} (e1 : A = some (h1, some (.int v))) (v0 : ¬ v = 0) (v1 : ¬ v = -1) (e2 : B = some (sI (sI g1 197 4 v) 197 5 (hI g1 197 10), some (.int 0))) (F : FrLw d a h h1) (G : FrP g g1 (pLw f) qNo) (pl : hI g1 197 10 = hI h1 190 5) : LGo sc pp d a f A B h g := Or.inl ⟨h1, _, v, e1, v0, v1, e2, F, G.trans wrong_F, by rw [hII, if_neg (by omega), hII, if_pos ⟨rfl, rfl⟩], by rw [hII, if_pos ⟨rfl, rfl⟩, pl]⟩
theorem d_nameMet {g : Hp} {k : Nat} {v : Int32} (hD : isD g) (T : tkR k v (hI g 197 8) (hI g 197 9)) : Lm sc pp 92 0 [some (.ref 197)] [] 0 0 g = some (g, some (.int ((if 18 ≤ k ∧ k ≤ 24 then nI (k - 18) else -1)))) := by
  obtain ⟨t1, -, -, -, -⟩ := tk_num T
  by_cases q : k < 25
  · have e8 : hI g 197 8 = 1 := by rw [t1]; exact q
    have e9 := (tk_which T).1 q
    by_cases q2 : 18 ≤ k
    · have es : swp k = k := by unfold swp; rw [if_neg (by omega), if_neg (by omega)]
      rw [es] at e9
      rw [if_pos ⟨q2, by omega⟩]
      have s18 : nI k - 18 = nI (k - 18) := nI_subN (b := 18) q2
      have q2' : ¬ k < 18 := by omega
      simp (disch := first | assumption | omega | exact Nat.le_of_ble_eq_true rfl | exact D_k197 (by assumption) | (simp (disch := assumption) only [kdI, kdJ, kdR, D_k197]; done) | (simp only [kdI, kdJ, kdR, *]; done) | fail) only [↓reduceIte, Int32.reduceLE, Int32.reduceLT, x_nil, Nat.reduceAdd, x_aload_n0, x_getI, x_iconst_1, x_icmp_ne, x_bipush_18, x_icmp_lt, x_isub, x_goto, x_iconst_m1, x_ireturn, L_92_0, L_92_8, L_92_17, L_92_27, L_92_28, ofInt1, ofIntm1, kdI, hNI, hRI, hJI, kdJ, hNJ, hIJ, hRJ, kdR, hNR, hIR, hJR, hII, hJJ, hRR, n_clamp, z_lt, z_ge, z_eq, z_le, z_gt, o_eq, o_lt, o_gt, o_le, o_ge, m_eq, n_eq, n_le, n_lt, n_sub1, nI_1, ol_add, nI_add, z_cl, o_cl, z_pos, o_pos, o_z, z_o, m_z, N_le, N_lt, q18_le, q18_lt, q18_ge, q18_gt, q18_eq, q18_mul, q18_add, q18_adl, q18_cl, q18_pos, q18_ti, q18_tj, zq18, qz18, ne_eq, not_true_eq_false, not_false_eq_true, if_true, if_false, and_self, or_self, true_or, or_true, and_true, true_and, and_false, false_and, or_false, false_or, Nat.reduceEqDiff, Nat.le_refl, Nat.reduceLT, Nat.reduceLeDiff, b32_01, nI_0, D_k197, D_k198, D_n198, D_r0, D_k199, D_n199, D_r3, D_k200, D_n200, D_r22, D_k201, D_n201, D_r23, D_k202, D_n202, D_r24, D_k203, D_n203, D_r25, D_k204, D_n204, D_r26, D_k205, D_n205, D_r27, D_k206, D_n206, D_r28, D_k207, D_n207, D_r29, D_k208, D_n208, D_r30, D_k209, D_n209, D_r31, D_k210, D_n210, D_r32, D_k211, D_n211, D_r33, D_k212, D_n212, D_r34, D_k213, D_n213, D_r35, D_k214, D_n214, D_r36, D_k215, D_n215, D_r37, D_k216, D_n216, D_r38, D_k217, D_n217, D_r39, D_k218, D_n218, D_r40, D_k219, D_n219, D_r41, D_k220, D_n220, D_r42, D_k221, D_n221, D_r43, D_k222, D_n222, D_r44, D_k223, D_n223, D_r45, D_k224, D_n224, D_r52, D_k225, D_n225, D_r53, D_k226, D_n226, D_r55, D_k227, D_n227, D_r56, D_k228, D_n228, D_r57, D_k229, D_n229, D_r58, D_k230, D_n230, D_r59, D_k231, D_n231, D_r68, D_k232, D_n232, D_r69, D_k233, D_n233, D_r70, D_k234, D_n234, D_r73, D_k235, D_n235, D_r74, D_k236, D_n236, D_r76, D_k237, D_n237, D_r77, D_k238, D_n238, D_r79, e8, e9, q2', s18]
    · have hs : swp k < 18 := by unfold swp; split <;> (try split) <;> omega
      rw [if_neg (by omega)]
      simp (disch := first | assumption | omega | exact Nat.le_of_ble_eq_true rfl | exact D_k197 (by assumption) | (simp (disch := assumption) only [kdI, kdJ, kdR, D_k197]; done) | (simp only [kdI, kdJ, kdR, *]; done) | fail) only [↓reduceIte, Int32.reduceLE, Int32.reduceLT, x_nil, Nat.reduceAdd, x_aload_n0, x_getI, x_iconst_1, x_icmp_ne, x_bipush_18, x_icmp_lt, x_isub, x_goto, x_iconst_m1, x_ireturn, L_92_0, L_92_8, L_92_17, L_92_27, L_92_28, ofInt1, ofIntm1, kdI, hNI, hRI, hJI, kdJ, hNJ, hIJ, hRJ, kdR, hNR, hIR, hJR, hII, hJJ, hRR, n_clamp, z_lt, z_ge, z_eq, z_le, z_gt, o_eq, o_lt, o_gt, o_le, o_ge, m_eq, n_eq, n_le, n_lt, n_sub1, nI_1, ol_add, nI_add, z_cl, o_cl, z_pos, o_pos, o_z, z_o, m_z, N_le, N_lt, q18_le, q18_lt, q18_ge, q18_gt, q18_eq, q18_mul, q18_add, q18_adl, q18_cl, q18_pos, q18_ti, q18_tj, zq18, qz18, ne_eq, not_true_eq_false, not_false_eq_true, if_true, if_false, and_self, or_self, true_or, or_true, and_true, true_and, and_false, false_and, or_false, false_or, Nat.reduceEqDiff, Nat.le_refl, Nat.reduceLT, Nat.reduceLeDiff, b32_01, nI_0, D_k197, D_k198, D_n198, D_r0, D_k199, D_n199, D_r3, D_k200, D_n200, D_r22, D_k201, D_n201, D_r23, D_k202, D_n202, D_r24, D_k203, D_n203, D_r25, D_k204, D_n204, D_r26, D_k205, D_n205, D_r27, D_k206, D_n206, D_r28, D_k207, D_n207, D_r29, D_k208, D_n208, D_r30, D_k209, D_n209, D_r31, D_k210, D_n210, D_r32, D_k211, D_n211, D_r33, D_k212, D_n212, D_r34, D_k213, D_n213, D_r35, D_k214, D_n214, D_r36, D_k215, D_n215, D_r37, D_k216, D_n216, D_r38, D_k217, D_n217, D_r39, D_k218, D_n218, D_r40, D_k219, D_n219, D_r41, D_k220, D_n220, D_r42, D_k221, D_n221, D_r43, D_k222, D_n222, D_r44, D_k223, D_n223, D_r45, D_k224, D_n224, D_r52, D_k225, D_n225, D_r53, D_k226, D_n226, D_r55, D_k227, D_n227, D_r56, D_k228, D_n228, D_r57, D_k229, D_n229, D_r58, D_k230, D_n230, D_r59, D_k231, D_n231, D_r68, D_k232, D_n232, D_r69, D_k233, D_n233, D_r70, D_k234, D_n234, D_r73, D_k235, D_n235, D_r74, D_k236, D_n236, D_r76, D_k237, D_n237, D_r77, D_k238, D_n238, D_r79, e8, e9, hs]
  · have e8 : ¬ hI g 197 8 = 1 := by rw [t1]; exact q
    rw [if_neg (by omega)]
    simp (disch := first | assumption | omega | exact Nat.le_of_ble_eq_true rfl | exact D_k197 (by assumption) | (simp (disch := assumption) only [kdI, kdJ, kdR, D_k197]; done) | (simp only [kdI, kdJ, kdR, *]; done) | fail) only [↓reduceIte, Int32.reduceLE, Int32.reduceLT, x_nil, Nat.reduceAdd, x_aload_n0, x_getI, x_iconst_1, x_icmp_ne, x_bipush_18, x_icmp_lt, x_isub, x_goto, x_iconst_m1, x_ireturn, L_92_0, L_92_8, L_92_17, L_92_27, L_92_28, ofInt1, ofIntm1, kdI, hNI, hRI, hJI, kdJ, hNJ, hIJ, hRJ, kdR, hNR, hIR, hJR, hII, hJJ, hRR, n_clamp, z_lt, z_ge, z_eq, z_le, z_gt, o_eq, o_lt, o_gt, o_le, o_ge, m_eq, n_eq, n_le, n_lt, n_sub1, nI_1, ol_add, nI_add, z_cl, o_cl, z_pos, o_pos, o_z, z_o, m_z, N_le, N_lt, q18_le, q18_lt, q18_ge, q18_gt, q18_eq, q18_mul, q18_add, q18_adl, q18_cl, q18_pos, q18_ti, q18_tj, zq18, qz18, ne_eq, not_true_eq_false, not_false_eq_true, if_true, if_false, and_self, or_self, true_or, or_true, and_true, true_and, and_false, false_and, or_false, false_or, Nat.reduceEqDiff, Nat.le_refl, Nat.reduceLT, Nat.reduceLeDiff, b32_01, nI_0, D_k197, D_k198, D_n198, D_r0, D_k199, D_n199, D_r3, D_k200, D_n200, D_r22, D_k201, D_n201, D_r23, D_k202, D_n202, D_r24, D_k203, D_n203, D_r25, D_k204, D_n204, D_r26, D_k205, D_n205, D_r27, D_k206, D_n206, D_r28, D_k207, D_n207, D_r29, D_k208, D_n208, D_r30, D_k209, D_n209, D_r31, D_k210, D_n210, D_r32, D_k211, D_n211, D_r33, D_k212, D_n212, D_r34, D_k213, D_n213, D_r35, D_k214, D_n214, D_r36, D_k215, D_n215, D_r37, D_k216, D_n216, D_r38, D_k217, D_n217, D_r39, D_k218, D_n218, D_r40, D_k219, D_n219, D_r41, D_k220, D_n220, D_r42, D_k221, D_n221, D_r43, D_k222, D_n222, D_r44, D_k223, D_n223, D_r45, D_k224, D_n224, D_r52, D_k225, D_n225, D_r53, D_k226, D_n226, D_r55, D_k227, D_n227, D_r56, D_k228, D_n228, D_r57, D_k229, D_n229, D_r58, D_k230, D_n230, D_r59, D_k231, D_n231, D_r68, D_k232, D_n232, D_r69, D_k233, D_n233, D_r70, D_k234, D_n234, D_r73, D_k235, D_n235, D_r74, D_k236, D_n236, D_r76, D_k237, D_n237, D_r77, D_k238, D_n238, D_r79, e8]
theorem c_lawAddX {h : Hp} (a L : Nat) (x y : Int32) (hA : isA h a) (e : hI h a 2 = nI L) (hL : L ≤ 64) : ∃ h1, Lm sc pp 53 0 [some (.ref a), some (.int x), some (.int y)] [] 0 0 h = some (h1, none) ∧ Fr h h1 [a, a + 1, a + 2] ∧ ∀ j, j ≠ 2 → hI h1 a j = hI h a j := by
  by_cases q : L < 64
  · exact ⟨_, c_lawAdd a L x y hA e q, ((Fr_sI (by simp)).trans (Fr_sI (by simp))).trans (Fr_sI (by simp)), fun j hj => by rw [hII, if_neg (by omega), hII, if_neg (by omega), hII, if_neg (by omega)]⟩
  · have q' : 64 ≤ L := by omega
    refine ⟨h, ?_, Fr.refl _ _, fun _ _ => rfl⟩
    simp (disch := first | assumption | omega | exact Nat.le_of_ble_eq_true rfl | exact CI.k0 (by assumption) | exact CI.k2 (by assumption) | exact CI.kc3 (by assumption) | exact CI.kc1 (by assumption) | exact CI.kc5 (by assumption) | exact CI.kc (by assumption) | exact CI.k136 (by assumption) | exact CI.k194 (by assumption) | exact CI.k114 (by assumption) | exact CI.k121 (by assumption) | exact CI.k12 (by assumption) | exact CI.kc18 (by assumption) | exact CI.kc21 (by assumption) | exact CI.k122 (by assumption) | exact CI.k127 (by assumption) | exact CI.k7 (by assumption) | exact CI.k189 (by assumption) | exact CI.k190 (by assumption) | exact CI.k192 (by assumption) | (simp only [kdI, kdJ, kdR, *]; done) | fail) only [↓reduceIte, Int32.reduceLE, Int32.reduceLT, x_nil, Nat.reduceAdd, x_aload_n0, x_getI, x_bipush_64, x_icmp_ge, x_getR, x_iload_n1, x_iast, x_iload_n2, x_dupI, x_dupA, x_iconst_1, x_iadd, x_putI, x_return, L_53_0, L_53_9, L_53_39, ofInt1, ofIntm1, kdI, hNI, hRI, hJI, kdJ, hNJ, hIJ, hRJ, kdR, hNR, hIR, hJR, hII, hJJ, hRR, n_clamp, z_lt, z_ge, z_eq, z_le, z_gt, o_eq, o_lt, o_gt, o_le, o_ge, m_eq, n_eq, n_le, n_lt, n_sub1, nI_1, ol_add, nI_add, z_cl, o_cl, z_pos, o_pos, o_z, z_o, m_z, N_le, N_lt, q64_le, q64_lt, q64_ge, q64_gt, q64_eq, q64_mul, q64_add, q64_adl, q64_cl, q64_pos, q64_ti, q64_tj, zq64, qz64, ne_eq, not_true_eq_false, not_false_eq_true, if_true, if_false, and_self, or_self, true_or, or_true, and_true, true_and, and_false, false_and, or_false, false_or, Nat.reduceEqDiff, Nat.le_refl, Nat.reduceLT, Nat.reduceLeDiff, b32_01, nI_0, A_k0 hA, A_k1 hA, A_k2 hA, A_n1 hA, A_n2 hA, A_r0_0 hA, A_r0_1 hA, e, q']
theorem c_pushX {h : Hp} (k : Int32) (m : Nat) (k0 : kd h 192 = 3) (k1 : kd h 193 = 13) (n1 : hN h 193 = 72) (r1 : hR h 192 1 = 194) (e : hI h 192 2 = nI m) (hm : m ≤ 72) : ∃ h1, Lm sc pp 49 0 [some (.ref 192), some (.int k)] [] 0 0 h = some (h1, none) ∧ Fr h h1 [192, 193] := by
  by_cases q : m < 72
  · exact ⟨_, c_pushWaiting k m k0 k1 n1 r1 e q, (Fr_sI (by simp)).trans (Fr_sI (by simp))⟩
  · have q' : 72 ≤ m := by omega
    have f72 : Int32.ofNat 72 = nI 72 := rfl
    refine ⟨h, ?_, Fr.refl _ _⟩
    simp (disch := first | assumption | omega | exact Nat.le_of_ble_eq_true rfl | exact CI.k0 (by assumption) | exact CI.k2 (by assumption) | exact CI.kc3 (by assumption) | exact CI.kc1 (by assumption) | exact CI.kc5 (by assumption) | exact CI.kc (by assumption) | exact CI.k136 (by assumption) | exact CI.k194 (by assumption) | exact CI.k114 (by assumption) | exact CI.k121 (by assumption) | exact CI.k12 (by assumption) | exact CI.kc18 (by assumption) | exact CI.kc21 (by assumption) | exact CI.k122 (by assumption) | exact CI.k127 (by assumption) | exact CI.k7 (by assumption) | exact CI.k189 (by assumption) | exact CI.k190 (by assumption) | exact CI.k192 (by assumption) | (simp only [kdI, kdJ, kdR, *]; done) | fail) only [↓reduceIte, Int32.reduceLE, Int32.reduceLT, x_nil, Nat.reduceAdd, x_aload_n0, x_getI, x_getR, x_alen, x_icmp_ge, x_iload_n1, x_iast, x_dupI, x_dupA, x_iconst_1, x_iadd, x_putI, x_return, L_49_0, L_49_12, L_49_32, ofInt1, ofIntm1, kdI, hNI, hRI, hJI, kdJ, hNJ, hIJ, hRJ, kdR, hNR, hIR, hJR, hII, hJJ, hRR, n_clamp, z_lt, z_ge, z_eq, z_le, z_gt, o_eq, o_lt, o_gt, o_le, o_ge, m_eq, n_eq, n_le, n_lt, n_sub1, nI_1, ol_add, nI_add, z_cl, o_cl, z_pos, o_pos, o_z, z_o, m_z, N_le, N_lt, ne_eq, not_true_eq_false, not_false_eq_true, if_true, if_false, and_self, or_self, true_or, or_true, and_true, true_and, and_false, false_and, or_false, false_or, Nat.reduceEqDiff, Nat.le_refl, Nat.reduceLT, Nat.reduceLeDiff, b32_01, nI_0, k0, k1, n1, r1, e, f72, q']
/-- a name or a number more -/
theorem leaf_T {k L : Nat} {cd : Nat → Nat} (lf : leafK k = true) : lwIx (cdS cd L k) (L + 1) = L :: lwIx cd L := by
  rw [lwIx_leaf (show leafK (cdS cd L k L) = true from by rw [show cdS cd L k L = k from if_pos rfl]; exact lf), lwIx_congr L (fun j hj => show cdS cd L k j = cd j from if_neg (by omega))]
theorem leaf_ok {k : Nat} (lf : leafK k = true) : okK k ∧ k ≠ 17 := by
  unfold leafK at lf
  simp at lf
  unfold okK
  omega
theorem leaf_C {d a k kn L : Nat} {W : List Nat} {cd : Nat → Nat} {nu : Nat → Int32} {h : Hp} {v : Int32} (C : LC h d a W L 1 kn cd nu) : LC (sI (sI (sI (sI (sI h (a + 1) L (nI k)) (a + 2) L v) a 2 (nI (L + 1))) 192 4 0) d 19 (nI (kn + 1))) d a W (L + 1) 0 (kn + 1) (cdS cd L k) (nuS nu L v) := by
  have C2 := C.add k v
  generalize sI (sI (sI h (a + 1) L (nI k)) (a + 2) L v) a 2 (nI (L + 1)) = z at *
  obtain ⟨c1, c2, c3, c4, c5, c6, c7, c8, c9, c10, c11⟩ := C2
  have F : Fr z (sI (sI z 192 4 0) d 19 (nI (kn + 1))) [192, d] := (Fr_sI (by simp)).trans (Fr_sI (by simp))
  refine ⟨c1.mv F, c2.move F, c3, by rw [F.2.2.2.1]; exact c4, ?_, ?_, ?_, ?_, ?_, fun j hj => ⟨?_, ?_⟩, ?_⟩
  · rw [hII, if_neg (by omega), hII, if_neg (by omega)]; exact c5
  · rw [hII, if_neg (by omega), hII, if_neg (by omega)]; exact c6
  · rw [hII, if_neg (by omega), hII, if_pos ⟨rfl, rfl⟩]
  · exact c8.congr (fun i _ => by rw [hII, if_neg (by omega), hII, if_neg (by omega)])
  · rw [hII, if_neg (by omega), hII, if_neg (by omega)]; exact c9
  · rw [hII, if_neg (by omega), hII, if_neg (by omega)]; exact (c10 j hj).1
  · rw [hII, if_neg (by omega), hII, if_neg (by omega)]; exact (c10 j hj).2
  · rw [hII, if_pos ⟨rfl, rfl⟩]
theorem leaf_G {f k kn L : Nat} {W : List Nat} {mn : Int32} {cd : Nat → Nat} {nu : Nat → Int32} {g : Hp} {v x : Int32} (G : LG g f W L 1 mn kn cd nu) (lf : leafK k = true) (x1 : k = 26 → x = v) (x2 : 18 ≤ k ∧ k ≤ 24 → x = nI (k - 18)) : LG (sI (grH (sI g 197 49 (nI (kn + 1))) (f + L) (lwIx cd L).length (nI (kmap k)) x 0) 197 50 0) f W (L + 1) 0 mn (kn + 1) (cdS cd L k) (nuS nu L v) := by
  obtain ⟨g1, g2, g3, g4, g5, g6, g7, g8, g9, g10, g11⟩ := G
  obtain ⟨lk, k17⟩ := leaf_ok lf
  have r : ∀ k j, ¬ (k = 197 ∧ j = 49) → hI (sI g 197 49 (nI (kn + 1))) k j = hI g k j := fun k j q => by rw [hII, if_neg q]
  have e49 : hI (sI g 197 49 (nI (kn + 1))) 197 49 = nI (kn + 1) := by rw [hII, if_pos ⟨rfl, rfl⟩]
  have hD' : isD (sI g 197 49 (nI (kn + 1))) := g1.sI
  generalize sI g 197 49 (nI (kn + 1)) = z at *
  refine LG.set (w := 1) (LG.grow (g := z) (T := lwIx cd L) hD' ?_ ?_ e49 ?_ ?_ ?_ ?_ ?_ lk (leaf_T lf) rfl x1 x2 (fun e => absurd e k17) (fun e => absurd lf e)) 0
  · rw [r _ _ (by omega)]; exact g2
  · rw [r _ _ (by omega)]; exact g4
  · rw [r _ _ (by omega)]; exact g6
  · rw [r _ _ (by omega)]; exact g7
  · exact g9.congr (fun i _ => r _ _ (by omega))
  · exact g10.congr (fun i _ => r _ _ (by omega))
  · intro i hi
    rw [r _ _ (by omega), r _ _ (by omega), r _ _ (by omega)]; exact g11 i hi
theorem leaf_P {f k kn L : Nat} {W : List Nat} {mn : Int32} {cd : Nat → Nat} (P : LPu f W L 1 mn kn cd) (hk : kn < 64) (lf : leafK k = true) : LPu f W (L + 1) 0 mn (kn + 1) (cdS cd L k) := by
  obtain ⟨p1, p2, p3, p4, p5, p6, p7⟩ := P
  have p6' : (lwIx cd L).length = binN W := by rw [p6, if_neg (show ¬ (1 : Int32) = 0 by decide), Nat.add_zero]
  refine ⟨p1, by omega, by omega, p4, Or.inl rfl, ?_, fun e => absurd e (show ¬ (0 : Int32) = 1 by decide)⟩
  rw [leaf_T lf, List.length_cons, p6', if_pos rfl]
theorem leaf_go {d a f k kn L : Nat} {W : List Nat} {mn : Int32} {cd : Nat → Nat} {nu : Nat → Int32} {h g : Hp} {v x : Int32} (C : LC h d a W L 1 kn cd nu) (G : LG g f W L 1 mn kn cd nu) (P : LPu f W L 1 mn kn cd) (hk : kn < 64) (lf : leafK k = true) (x1 : k = 26 → x = v) (x2 : 18 ≤ k ∧ k ≤ 24 → x = nI (k - 18)) : LC (sI (sI (sI (sI (sI h (a + 1) L (nI k)) (a + 2) L v) a 2 (nI (L + 1))) 192 4 0) d 19 (nI (kn + 1))) d a W (L + 1) 0 (kn + 1) (cdS cd L k) (nuS nu L v) ∧ LG (sI (grH (sI g 197 49 (nI (kn + 1))) (f + L) (lwIx cd L).length (nI (kmap k)) x 0) 197 50 0) f W (L + 1) 0 mn (kn + 1) (cdS cd L k) (nuS nu L v) ∧ LPu f W (L + 1) 0 mn (kn + 1) (cdS cd L k) := ⟨leaf_C C, leaf_G G lf x1 x2, leaf_P P hk lf⟩
end T78
