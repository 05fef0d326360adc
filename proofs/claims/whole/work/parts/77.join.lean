-- the reading of a law: what waits is joined, in both
def LC (h : Hp) (d a : Nat) (W : List Nat) (L : Nat) (w : Int32) (kn : Nat) (cd : Nat → Nat) (nu : Nat → Int32) : Prop := isX h ∧ isC h d ∧ ((d = 141 ∨ d = 165) ∧ (a = d + 18 ∨ a = d + 21)) ∧ (hR h 192 5 = a + 1 ∧ hR h 192 6 = d + 1) ∧ hI h 192 2 = nI W.length ∧ hI h 192 3 = nI (opnN W) ∧ hI h 192 4 = w ∧ repStk (hI h 193) W ∧ hI h a 2 = nI L ∧ (∀ j, j < L → hI h (a + 1) j = nI (cd j) ∧ hI h (a + 2) j = nu j) ∧ hI h d 19 = nI kn
def LG (g : Hp) (f : Nat) (W : List Nat) (L : Nat) (w mn : Int32) (kn : Nat) (cd : Nat → Nat) (nu : Nat → Int32) : Prop := isD g ∧ hI g 197 46 = nI W.length ∧ hI g 197 47 = nI (lwIx cd L).length ∧ hI g 197 48 = nI (opnN W) ∧ hI g 197 49 = nI kn ∧ hI g 197 50 = w ∧ hI g 197 51 = mn ∧ hI g 197 21 = nI (f + L) ∧ repStk (hI g 222) (W.map wmap) ∧ repStk (hI g 223) ((lwIx cd L).map (fun x => f + x)) ∧ lawU g f L cd nu
def LPu (f : Nat) (W : List Nat) (L : Nat) (w mn : Int32) (kn : Nat) (cd : Nat → Nat) : Prop := (∀ c, c ∈ W → okWt c) ∧ f + L + opsN W = kn ∧ kn ≤ 64 ∧ opnN W ≤ 8 ∧ (w = 0 ∨ w = 1) ∧ (lwIx cd L).length = binN W + (if w = 0 then 1 else 0) ∧ (w = 1 → mn = b32 (∀ c l, W = c :: l → lvF c ≤ 3))
theorem isX.mv {h h' : Hp} {L : List Nat} (a : isX h) (F : Fr h h' L) : isX h' := by
  unfold isX at *
  simp only [F.kd, F.2.2.1, F.2.2.2.1]
  exact a
theorem LC.mv {h h' : Hp} {d a : Nat} {W : List Nat} {L : Nat} {w : Int32} {kn : Nat} {cd : Nat → Nat} {nu : Nat → Int32} {M : List Nat} (C : LC h d a W L w kn cd nu) (F : Fr h h' M) (hM : ∀ k, k ∈ M → k ≠ 192 ∧ k ≠ 193 ∧ (k < 141 ∨ 189 ≤ k)) : LC h' d a W L w kn cd nu := by
  obtain ⟨c1, c2, c3, c4, c5, c6, c7, c8, c9, c10, c11⟩ := C
  have r : ∀ k, k = 192 ∨ k = 193 ∨ (141 ≤ k ∧ k < 189) → hI h' k = hI h k := fun k hk => F.I (fun q => by have := hM k q; omega)
  refine ⟨c1.mv F, c2.move F, c3, ?_, ?_, ?_, ?_, ?_, ?_, ?_, ?_⟩
  · rw [F.2.2.2.1]; exact c4
  · rw [r 192 (by omega)]; exact c5
  · rw [r 192 (by omega)]; exact c6
  · rw [r 192 (by omega)]; exact c7
  · rw [r 193 (by omega)]; exact c8
  · rw [r a (by omega)]; exact c9
  · rw [r (a + 1) (by omega), r (a + 2) (by omega)]; exact c10
  · rw [r d (by omega)]; exact c11
theorem LG.mv {g g' : Hp} {f : Nat} {W : List Nat} {L : Nat} {w mn : Int32} {kn : Nat} {cd : Nat → Nat} {nu : Nat → Int32} {P Q : Nat → Nat → Prop} (G : LG g f W L w mn kn cd nu) (F : FrP g g' P Q) (hP : ∀ k j, P k j → k = 197 ∧ (j < 21 ∨ 51 < j)) : LG g' f W L w mn kn cd nu := by
  obtain ⟨c1, c2, c3, c4, c5, c6, c7, c8, c9, c10, c11⟩ := G
  have r : ∀ j, 21 ≤ j → j ≤ 51 → hI g' 197 j = hI g 197 j := fun j _ _ => F.I (fun q => by have := hP _ _ q; omega)
  have rw3 : ∀ k, k ≠ 197 → hI g' k = hI g k := fun k hk => funext fun j => F.I (fun q => by have := hP _ _ q; omega)
  refine ⟨c1.moveP F, ?_, ?_, ?_, ?_, ?_, ?_, ?_, ?_, ?_, ?_⟩
  · rw [r _ (by omega) (by omega)]; exact c2
  · rw [r _ (by omega) (by omega)]; exact c3
  · rw [r _ (by omega) (by omega)]; exact c4
  · rw [r _ (by omega) (by omega)]; exact c5
  · rw [r _ (by omega) (by omega)]; exact c6
  · rw [r _ (by omega) (by omega)]; exact c7
  · rw [r _ (by omega) (by omega)]; exact c8
  · rw [rw3 222 (by omega)]; exact c9
  · rw [rw3 223 (by omega)]; exact c10
  · unfold lawU at *
    rw [rw3 219 (by omega), rw3 220 (by omega), rw3 221 (by omega)]; exact c11
/-- a knot more, in the class -/
theorem LC.add {h : Hp} {d a : Nat} {W : List Nat} {L : Nat} {w : Int32} {kn : Nat} {cd : Nat → Nat} {nu : Nat → Int32} (C : LC h d a W L w kn cd nu) (x : Nat) (v : Int32) : LC (sI (sI (sI h (a + 1) L (nI x)) (a + 2) L v) a 2 (nI (L + 1))) d a W (L + 1) w kn (cdS cd L x) (nuS nu L v) := by
  have F : Fr h (sI (sI (sI h (a + 1) L (nI x)) (a + 2) L v) a 2 (nI (L + 1))) [a, a + 1, a + 2] := ((Fr_sI (by simp)).trans (Fr_sI (by simp))).trans (Fr_sI (by simp))
  obtain ⟨c1, c2, c3, c4, c5, c6, c7, c8, c9, c10, c11⟩ := C
  have r : ∀ k, k ≠ a → k ≠ a + 1 → k ≠ a + 2 → hI (sI (sI (sI h (a + 1) L (nI x)) (a + 2) L v) a 2 (nI (L + 1))) k = hI h k := fun k _ _ _ => F.I (by simp; omega)
  refine ⟨c1.mv F, c2.move F, c3, c4, ?_, ?_, ?_, ?_, ?_, fun j hj => ⟨?_, ?_⟩, ?_⟩
  · rw [r 192 (by omega) (by omega) (by omega)]; exact c5
  · rw [r 192 (by omega) (by omega) (by omega)]; exact c6
  · rw [r 192 (by omega) (by omega) (by omega)]; exact c7
  · rw [r 193 (by omega) (by omega) (by omega)]; exact c8
  · rw [hII, if_pos ⟨rfl, rfl⟩]
  · rw [hII, if_neg (by omega), hII, if_neg (by omega), hII]
    unfold cdS
    by_cases q : j = L
    · rw [if_pos ⟨rfl, q⟩, if_pos q]
    · rw [if_neg (fun z => q z.2), if_neg q]; exact (c10 j (by omega)).1
  · rw [hII, if_neg (by omega), hII]
    unfold nuS
    by_cases q : j = L
    · rw [if_pos ⟨rfl, q⟩, if_pos q]
    · rw [if_neg (fun z => q z.2), if_neg q, hII, if_neg (by omega)]; exact (c10 j (by omega)).2
  · rw [r d (by omega) (by omega) (by omega)]; exact c11
/-- a knot more, in the reference -/
def grH (g : Hp) (m H : Nat) (k x y : Int32) : Hp := sI (sI (sI (sI (sI (sI g 219 (64 + m) k) 220 (64 + m) x) 221 (64 + m) y) 223 H (nI m)) 197 47 (nI (H + 1))) 197 21 (nI (m + 1))
def pGr (f k j : Nat) : Prop := (k = 197 ∧ (j = 21 ∨ j = 47)) ∨ (219 ≤ k ∧ k ≤ 221 ∧ 64 + f ≤ j) ∨ k = 223
theorem grH_F {g : Hp} {f m H : Nat} {k x y : Int32} (hm : f ≤ m) : FrP g (grH g m H k x y) (pGr f) qNo := by
  unfold grH
  exact (((((FrP_sI (by unfold pGr; omega)).trans (FrP_sI (by unfold pGr; omega))).trans (FrP_sI (by unfold pGr; omega))).trans (FrP_sI (by unfold pGr; omega))).trans (FrP_sI (by unfold pGr; omega))).trans (FrP_sI (by unfold pGr; omega))
theorem LG.grow {g : Hp} {f : Nat} {W T : List Nat} {L : Nat} {w mn : Int32} {kn H c : Nat} {cd : Nat → Nat} {nu : Nat → Int32} {v x y : Int32} (hD : isD g) (e46 : hI g 197 46 = nI W.length) (e48 : hI g 197 48 = nI (opnN W)) (e49 : hI g 197 49 = nI kn) (e50 : hI g 197 50 = w) (e51 : hI g 197 51 = mn) (s2 : repStk (hI g 222) (W.map wmap)) (s3 : repStk (hI g 223) (T.map (fun x => f + x))) (U : lawU g f L cd nu) (hc : okK c) (eT : lwIx (cdS cd L c) (L + 1) = L :: T) (eH : T.length = H) (a1 : c = 26 → x = v) (a2 : 18 ≤ c ∧ c ≤ 24 → x = nI (c - 18)) (a3 : c = 17 → ∃ z t, lwIx cd L = z :: t ∧ x = nI (f + z)) (a4 : ¬ leafK c = true → c ≠ 17 → ∃ u z t, lwIx cd L = u :: z :: t ∧ x = nI (f + z) ∧ y = nI (f + u)) : LG (grH g (f + L) H (nI (kmap c)) x y) f W (L + 1) w mn kn (cdS cd L c) (nuS nu L v) := by
  have F : FrP g (grH g (f + L) H (nI (kmap c)) x y) (pGr f) qNo := grH_F (by omega)
  have r : ∀ j, 46 ≤ j → j ≠ 47 → hI (grH g (f + L) H (nI (kmap c)) x y) 197 j = hI g 197 j := fun j _ _ => F.I (by unfold pGr; omega)
  refine ⟨hD.moveP F, ?_, ?_, ?_, ?_, ?_, ?_, ?_, ?_, ?_, ?_⟩
  · rw [r 46 (by omega) (by omega)]; exact e46
  · rw [eT, List.length_cons, eH]
    unfold grH
    rw [hII, if_neg (by omega), hII, if_pos ⟨rfl, rfl⟩]
  · rw [r 48 (by omega) (by omega)]; exact e48
  · rw [r 49 (by omega) (by omega)]; exact e49
  · rw [r 50 (by omega) (by omega)]; exact e50
  · rw [r 51 (by omega) (by omega)]; exact e51
  · unfold grH
    rw [hII, if_pos ⟨rfl, rfl⟩]; rfl
  · exact s2.congr (fun i _ => F.I (by unfold pGr; omega))
  · rw [eT, List.map_cons]
    have p := repStk.push (h := sI (sI (sI g 219 (64 + (f + L)) (nI (kmap c))) 220 (64 + (f + L)) x) 221 (64 + (f + L)) y) (K := 223) (x := f + L) (l := T.map (fun x => f + x)) (s3.congr (fun i _ => by rw [hII, if_neg (by omega), hII, if_neg (by omega), hII, if_neg (by omega)]))
    rw [List.length_map, eH] at p
    exact p.congr (fun i _ => by unfold grH; rw [hII, if_neg (by omega), hII, if_neg (by omega)])
  · refine U.grow hc (fun k j b1 b2 b3 => ?_) ?_ ?_ ?_ a1 a2 a3 a4
    · unfold grH
      rw [hII, if_neg (by omega), hII, if_neg (by omega), hII, if_neg (by omega), hII, if_neg (by omega), hII, if_neg (by omega), hII, if_neg (by omega)]
    · unfold grH
      rw [hII, if_neg (by omega), hII, if_neg (by omega), hII, if_neg (by omega), hII, if_neg (by omega), hII, if_neg (by omega), hII, if_pos ⟨rfl, rfl⟩]
    · unfold grH
      rw [hII, if_neg (by omega), hII, if_neg (by omega), hII, if_neg (by omega), hII, if_neg (by omega), hII, if_pos ⟨rfl, rfl⟩]
    · unfold grH
      rw [hII, if_neg (by omega), hII, if_neg (by omega), hII, if_neg (by omega), hII, if_pos ⟨rfl, rfl⟩]
def pJn (f k j : Nat) : Prop := (k = 197 ∧ (j = 21 ∨ j = 46 ∨ j = 47)) ∨ (219 ≤ k ∧ k ≤ 221 ∧ 64 + f ≤ j) ∨ k = 223
section T77
variable {sc : Nat × (Nat → Int32)} {pp : Nat → Nat → Int32 → Int32 → Hp → Option (Hp × Int32)} {t : Nat → Nat} {n : Nat}
theorem okOp_okK {c : Nat} (h : okOp c) : okK c := by
  unfold okOp at h
  unfold okK
  simp
  omega
theorem opc {c : Nat} (h : okWt c) (h38 : c ≠ 38) : (c = 17 ∧ wmap c = 2) ∨ (okOp c ∧ c ≠ 17 ∧ wmap c ≠ 2 ∧ ¬ leafK c = true) := by
  rcases wt_all h with rfl | rfl | rfl | rfl | rfl | rfl | rfl | rfl | rfl | rfl | rfl | rfl | rfl | rfl <;> first | (exact Or.inl ⟨rfl, rfl⟩) | (exact absurd rfl h38) | (exact Or.inr ⟨by unfold okOp; omega, by decide, by decide, by decide⟩)
/-- what waits with a higher level is joined -/
theorem m_join (d a f kn : Nat) (mn : Int32) (lv : Nat) (hlv : lv < 7) : ∀ (W : List Nat) (h g : Hp) (L : Nat) (cd : Nat → Nat) (nu : Nat → Int32), LC h d a W L 0 kn cd nu → LG g f W L 0 mn kn cd nu → LPu f W L 0 mn kn cd → ∃ h' g' W' L' cd' nu', Lm sc pp 55 0 [some (.ref 192), some (.int (nI lv))] [] 0 0 h = some (h', none) ∧ (∀ o2 o3 o4 : Option Value, Lm sc pp 97 0 [some (.ref 197), some (.int (nI (lv + 1))), o2, o3, o4] [] 0 0 g = some (g', none)) ∧ LC h' d a W' L' 0 kn cd' nu' ∧ LG g' f W' L' 0 mn kn cd' nu' ∧ LPu f W' L' 0 mn kn cd' ∧ Fr h h' [192, a, a + 1, a + 2] ∧ (∀ j, j ≠ 2 → hI h' a j = hI h a j) ∧ FrP g g' (pJn f) qNo ∧ opnN W' = opnN W ∧ (∀ c l, W' = c :: l → lvF c ≤ lv) := by
  intro W
  induction W with
  | nil =>
    intro h g L cd nu C G P
    have k192 := X_k192 C.1
    have e2 : hI h 192 2 = 0 := C.2.2.2.2.1
    have hD := G.1
    have g46 : hI g 197 46 = 0 := G.2.1
    refine ⟨h, g, [], L, cd, nu, ?_, fun o2 o3 o4 => ?_, C, G, P, Fr.refl _ _, fun _ _ => rfl, FrP.refl _ _ _, rfl, fun c l e => by cases e⟩
    · have z : ((0 : Int32) ≤ 0) = True := eq_true (by decide)
      rw [L_55_0]
      simp (disch := first | assumption | omega | exact Nat.le_of_ble_eq_true rfl | exact CI.k0 (by assumption) | exact CI.k2 (by assumption) | exact CI.kc3 (by assumption) | exact CI.kc1 (by assumption) | exact CI.kc5 (by assumption) | exact CI.kc (by assumption) | exact CI.k136 (by assumption) | exact CI.k194 (by assumption) | exact CI.k114 (by assumption) | exact CI.k121 (by assumption) | exact CI.k12 (by assumption) | exact CI.kc18 (by assumption) | exact CI.kc21 (by assumption) | exact CI.k122 (by assumption) | exact CI.k127 (by assumption) | exact CI.k7 (by assumption) | exact CI.k189 (by assumption) | exact CI.k190 (by assumption) | exact CI.k192 (by assumption) | (simp only [kdI, kdJ, kdR, *]; done) | fail) only [↓reduceIte, Int32.reduceLE, Int32.reduceLT, x_nil, Nat.reduceAdd, x_aload_n0, x_getI, x_if_le, x_getR, x_iconst_1, x_isub, x_iald, K_50, bindR_some, toL_s, toL_n, ap_n, ap_c, List.map_nil, List.map_cons, List.sum_nil, List.sum_cons, cat_i, cat_r, cat_l, Nat.reduceLeDiff, Nat.zero_le, Nat.le_refl, x_iload_n1, x_icmp_le, x_dupI, x_dupA, x_putI, x_iconst_0, K_53, x_goto, x_return, L_55_55, ofInt1, ofIntm1, kdI, hNI, hRI, hJI, kdJ, hNJ, hIJ, hRJ, kdR, hNR, hIR, hJR, hII, hJJ, hRR, n_clamp, z_lt, z_ge, z_eq, z_le, z_gt, o_eq, o_lt, o_gt, o_le, o_ge, m_eq, n_eq, n_le, n_lt, n_sub1, nI_1, ol_add, nI_add, z_cl, o_cl, z_pos, o_pos, o_z, z_o, m_z, N_le, N_lt, ne_eq, not_true_eq_false, not_false_eq_true, if_true, if_false, and_self, or_self, true_or, or_true, and_true, true_and, and_false, false_and, or_false, false_or, Nat.reduceEqDiff, Nat.le_refl, Nat.reduceLT, Nat.reduceLeDiff, b32_01, nI_0, k192, e2, z]
    · have z : ((0 : Int32) ≤ 0) = True := eq_true (by decide)
      rw [L_97_0]
      simp (disch := first | assumption | omega | exact Nat.le_of_ble_eq_true rfl | exact D_k197 (by assumption) | (simp (disch := assumption) only [kdI, kdJ, kdR, D_k197]; done) | (simp only [kdI, kdJ, kdR, *]; done) | fail) only [↓reduceIte, Int32.reduceLE, Int32.reduceLT, x_nil, Nat.reduceAdd, x_aload_n0, x_getI, x_if_le, x_getR, x_iconst_1, x_isub, x_iald, K_95, bindR_some, toL_s, toL_n, ap_n, ap_c, List.map_nil, List.map_cons, List.sum_nil, List.sum_cons, cat_i, cat_r, cat_l, Nat.reduceLeDiff, Nat.zero_le, Nat.le_refl, x_iload_n1, x_icmp_lt, x_dupI, x_dupA, x_putI, x_istore_n2, x_iload_n2, x_iconst_2, x_icmp_ne, x_iconst_m1, x_goto, K_96, x_istore_n3, x_istore4, x_iload4, x_iload_n3, K_93, x_return, L_97_76, ofInt1, ofIntm1, kdI, hNI, hRI, hJI, kdJ, hNJ, hIJ, hRJ, kdR, hNR, hIR, hJR, hII, hJJ, hRR, n_clamp, z_lt, z_ge, z_eq, z_le, z_gt, o_eq, o_lt, o_gt, o_le, o_ge, m_eq, n_eq, n_le, n_lt, n_sub1, nI_1, ol_add, nI_add, z_cl, o_cl, z_pos, o_pos, o_z, z_o, m_z, N_le, N_lt, q2_le, q2_lt, q2_ge, q2_gt, q2_eq, q2_mul, q2_add, q2_adl, q2_cl, q2_pos, q2_ti, q2_tj, zq2, qz2, ne_eq, not_true_eq_false, not_false_eq_true, if_true, if_false, and_self, or_self, true_or, or_true, and_true, true_and, and_false, false_and, or_false, false_or, Nat.reduceEqDiff, Nat.le_refl, Nat.reduceLT, Nat.reduceLeDiff, b32_01, nI_0, D_k197, D_k198, D_n198, D_r0, D_k199, D_n199, D_r3, D_k200, D_n200, D_r22, D_k201, D_n201, D_r23, D_k202, D_n202, D_r24, D_k203, D_n203, D_r25, D_k204, D_n204, D_r26, D_k205, D_n205, D_r27, D_k206, D_n206, D_r28, D_k207, D_n207, D_r29, D_k208, D_n208, D_r30, D_k209, D_n209, D_r31, D_k210, D_n210, D_r32, D_k211, D_n211, D_r33, D_k212, D_n212, D_r34, D_k213, D_n213, D_r35, D_k214, D_n214, D_r36, D_k215, D_n215, D_r37, D_k216, D_n216, D_r38, D_k217, D_n217, D_r39, D_k218, D_n218, D_r40, D_k219, D_n219, D_r41, D_k220, D_n220, D_r42, D_k221, D_n221, D_r43, D_k222, D_n222, D_r44, D_k223, D_n223, D_r45, D_k224, D_n224, D_r52, D_k225, D_n225, D_r53, D_k226, D_n226, D_r55, D_k227, D_n227, D_r56, D_k228, D_n228, D_r57, D_k229, D_n229, D_r58, D_k230, D_n230, D_r59, D_k231, D_n231, D_r68, D_k232, D_n232, D_r69, D_k233, D_n233, D_r70, D_k234, D_n234, D_r73, D_k235, D_n235, D_r74, D_k236, D_n236, D_r76, D_k237, D_n237, D_r77, D_k238, D_n238, D_r79, g46, z]
  | cons c W ih =>
    intro h g L cd nu C G P
    have C0 := C
    have G0 := G
    obtain ⟨c1, c2, c3, c4, c5, c6, c7, c8, c9, c10, c11⟩ := C
    obtain ⟨g1, g2, g3, g4, g5, g6, g7, g8, g9, g10, g11⟩ := G
    obtain ⟨p1, p2, p3, p4, p5, p6, p7⟩ := P
    have okc := p1 c List.mem_cons_self
    have cl := cnt_len (c :: W)
    rw [List.length_cons] at c5 g2 cl
    have c39 := okWt_lt okc
    have hlen : W.length < 72 := by omega
    have k192 := X_k192 c1
    have k193 := X_k193 c1
    have n193 := X_n193 c1
    have r1 := X_r192_1 c1
    have hz : ¬ W.length + 1 = 0 := by omega
    have s1 : nI (W.length + 1) - 1 = nI W.length := by rw [n_sub1 (by omega)]; rfl
    obtain ⟨sv, sp⟩ := c8.pop
    have el := c_level (sc := sc) (pp := pp) c (by omega) h
    obtain ⟨rk1, rk2⟩ := rk_lvl okc
    have er := d_rank (sc := sc) (pp := pp) (wmap c) rk2 g
    rw [rk1] at er
    have hD := g1
    rw [List.map_cons] at g9
    obtain ⟨tv, tp⟩ := g9.pop
    rw [List.length_map] at tv
    have lv7 := lvl_lt c
    by_cases q : lvF c ≤ lv
    · refine ⟨h, g, c :: W, L, cd, nu, ?_, fun o2 o3 o4 => ?_, C0, G0, ⟨p1, p2, p3, p4, p5, p6, p7⟩, Fr.refl _ _, fun _ _ => rfl, FrP.refl _ _ _, rfl, fun c' l e => by cases e; exact q⟩
      · rw [L_55_0]
        simp (disch := first | assumption | omega | exact Nat.le_of_ble_eq_true rfl | exact CI.k0 (by assumption) | exact CI.k2 (by assumption) | exact CI.kc3 (by assumption) | exact CI.kc1 (by assumption) | exact CI.kc5 (by assumption) | exact CI.kc (by assumption) | exact CI.k136 (by assumption) | exact CI.k194 (by assumption) | exact CI.k114 (by assumption) | exact CI.k121 (by assumption) | exact CI.k12 (by assumption) | exact CI.kc18 (by assumption) | exact CI.kc21 (by assumption) | exact CI.k122 (by assumption) | exact CI.k127 (by assumption) | exact CI.k7 (by assumption) | exact CI.k189 (by assumption) | exact CI.k190 (by assumption) | exact CI.k192 (by assumption) | (simp only [kdI, kdJ, kdR, *]; done) | fail) only [↓reduceIte, Int32.reduceLE, Int32.reduceLT, x_nil, Nat.reduceAdd, x_aload_n0, x_getI, x_if_le, x_getR, x_iconst_1, x_isub, x_iald, K_50, bindR_some, toL_s, toL_n, ap_n, ap_c, List.map_nil, List.map_cons, List.sum_nil, List.sum_cons, cat_i, cat_r, cat_l, Nat.reduceLeDiff, Nat.zero_le, Nat.le_refl, x_iload_n1, x_icmp_le, x_dupI, x_dupA, x_putI, x_iconst_0, K_53, x_goto, x_return, L_55_7, L_55_21, L_55_55, ofInt1, ofIntm1, kdI, hNI, hRI, hJI, kdJ, hNJ, hIJ, hRJ, kdR, hNR, hIR, hJR, hII, hJJ, hRR, n_clamp, z_lt, z_ge, z_eq, z_le, z_gt, o_eq, o_lt, o_gt, o_le, o_ge, m_eq, n_eq, n_le, n_lt, n_sub1, nI_1, ol_add, nI_add, z_cl, o_cl, z_pos, o_pos, o_z, z_o, m_z, N_le, N_lt, ne_eq, not_true_eq_false, not_false_eq_true, if_true, if_false, and_self, or_self, true_or, or_true, and_true, true_and, and_false, false_and, or_false, false_or, Nat.reduceEqDiff, Nat.le_refl, Nat.reduceLT, Nat.reduceLeDiff, b32_01, nI_0, k192, k193, n193, r1, c5, hz, s1, sv, el, q]
      · have q' : lvF c < lv + 1 := by omega
        rw [L_97_0]
        simp (disch := first | assumption | omega | exact Nat.le_of_ble_eq_true rfl | exact D_k197 (by assumption) | (simp (disch := assumption) only [kdI, kdJ, kdR, D_k197]; done) | (simp only [kdI, kdJ, kdR, *]; done) | fail) only [↓reduceIte, Int32.reduceLE, Int32.reduceLT, x_nil, Nat.reduceAdd, x_aload_n0, x_getI, x_if_le, x_getR, x_iconst_1, x_isub, x_iald, K_95, bindR_some, toL_s, toL_n, ap_n, ap_c, List.map_nil, List.map_cons, List.sum_nil, List.sum_cons, cat_i, cat_r, cat_l, Nat.reduceLeDiff, Nat.zero_le, Nat.le_refl, x_iload_n1, x_icmp_lt, x_dupI, x_dupA, x_putI, x_istore_n2, x_iload_n2, x_iconst_2, x_icmp_ne, x_iconst_m1, x_goto, K_96, x_istore_n3, x_istore4, x_iload4, x_iload_n3, K_93, x_return, L_97_7, L_97_21, L_97_76, ofInt1, ofIntm1, kdI, hNI, hRI, hJI, kdJ, hNJ, hIJ, hRJ, kdR, hNR, hIR, hJR, hII, hJJ, hRR, n_clamp, z_lt, z_ge, z_eq, z_le, z_gt, o_eq, o_lt, o_gt, o_le, o_ge, m_eq, n_eq, n_le, n_lt, n_sub1, nI_1, ol_add, nI_add, z_cl, o_cl, z_pos, o_pos, o_z, z_o, m_z, N_le, N_lt, q2_le, q2_lt, q2_ge, q2_gt, q2_eq, q2_mul, q2_add, q2_adl, q2_cl, q2_pos, q2_ti, q2_tj, zq2, qz2, ne_eq, not_true_eq_false, not_false_eq_true, if_true, if_false, and_self, or_self, true_or, or_true, and_true, true_and, and_false, false_and, or_false, false_or, Nat.reduceEqDiff, Nat.le_refl, Nat.reduceLT, Nat.reduceLeDiff, b32_01, nI_0, D_k197, D_k198, D_n198, D_r0, D_k199, D_n199, D_r3, D_k200, D_n200, D_r22, D_k201, D_n201, D_r23, D_k202, D_n202, D_r24, D_k203, D_n203, D_r25, D_k204, D_n204, D_r26, D_k205, D_n205, D_r27, D_k206, D_n206, D_r28, D_k207, D_n207, D_r29, D_k208, D_n208, D_r30, D_k209, D_n209, D_r31, D_k210, D_n210, D_r32, D_k211, D_n211, D_r33, D_k212, D_n212, D_r34, D_k213, D_n213, D_r35, D_k214, D_n214, D_r36, D_k215, D_n215, D_r37, D_k216, D_n216, D_r38, D_k217, D_n217, D_r39, D_k218, D_n218, D_r40, D_k219, D_n219, D_r41, D_k220, D_n220, D_r42, D_k221, D_n221, D_r43, D_k222, D_n222, D_r44, D_k223, D_n223, D_r45, D_k224, D_n224, D_r52, D_k225, D_n225, D_r53, D_k226, D_n226, D_r55, D_k227, D_n227, D_r56, D_k228, D_n228, D_r57, D_k229, D_n229, D_r58, D_k230, D_n230, D_r59, D_k231, D_n231, D_r68, D_k232, D_n232, D_r69, D_k233, D_n233, D_r70, D_k234, D_n234, D_r73, D_k235, D_n235, D_r74, D_k236, D_n236, D_r76, D_k237, D_n237, D_r77, D_k238, D_n238, D_r79, g2, hz, s1, tv, er, q']
    · have h38 : c ≠ 38 := fun e => q (by rw [e]; exact Nat.zero_le _)
      have on : opnN (c :: W) = opnN W := by show _ + _ = _; rw [if_neg h38, Nat.zero_add]
      have os : opsN (c :: W) = 1 + opsN W := by show _ + _ = _; rw [if_neg h38]
      have hL : f + L < 64 := by omega
      rw [on] at c6 g4 p4
      rw [os] at p2
      -- the class
      have F1 : Fr h (sI h 192 2 (nI W.length)) [192, a, a + 1, a + 2] := Fr_sI (by simp)
      have C1 : LC (sI h 192 2 (nI W.length)) d a W L 0 kn cd nu := ⟨c1.mv F1, c2.move F1, c3, c4, by rw [hII, if_pos ⟨rfl, rfl⟩], by rw [hII, if_neg (by omega)]; exact c6, by rw [hII, if_neg (by omega)]; exact c7, sp.congr (fun i _ => by rw [hII, if_neg (by omega)]), by rw [hII, if_neg (by omega)]; exact c9, fun j hj => ⟨by rw [hII, if_neg (by omega)]; exact (c10 j hj).1, by rw [hII, if_neg (by omega)]; exact (c10 j hj).2⟩, by rw [hII, if_neg (by omega)]; exact c11⟩
      have hA : isA (sI h 192 2 (nI W.length)) a := by
        rcases c3.2 with e | e
        · rw [e]; exact C1.2.1.a18
        · rw [e]; exact C1.2.1.a21
      have ea := c_lawAdd (sc := sc) (pp := pp) a L (nI c) 0 hA C1.2.2.2.2.2.2.2.2.1 (by omega)
      have C2 := C1.add c 0
      have F2 : Fr (sI h 192 2 (nI W.length)) (sI (sI (sI (sI h 192 2 (nI W.length)) (a + 1) L (nI c)) (a + 2) L 0) a 2 (nI (L + 1))) [192, a, a + 1, a + 2] := ((Fr_sI (by simp)).trans (Fr_sI (by simp))).trans (Fr_sI (by simp))
      have ka2 : ∀ j, j ≠ 2 → hI (sI (sI (sI (sI h 192 2 (nI W.length)) (a + 1) L (nI c)) (a + 2) L 0) a 2 (nI (L + 1))) a j = hI h a j := fun j hj => by
        rw [hII, if_neg (by omega), hII, if_neg (by omega), hII, if_neg (by omega), hII, if_neg (by omega)]
      -- the reference: the shorter row
      have GF1 : FrP g (sI g 197 46 (nI W.length)) (pJn f) qNo := FrP_sI (by unfold pJn; omega)
      have mvJ : ∀ {x y : Hp}, FrP x y (pGr f) qNo → FrP x y (pJn f) qNo := fun F => F.mono (fun k j q => by unfold pGr at q; unfold pJn; omega) (fun _ _ q => q)
      have ix : (lwIx cd L).length = binN (c :: W) + 1 := by rw [p6, if_pos rfl]
      have key : ∃ g2' cd' nu', (∀ o2 o3 o4 : Option Value, ∃ o2' o3' o4' : Option Value, Lm sc pp 97 0 [some (.ref 197), some (.int (nI (lv + 1))), o2, o3, o4] [] 0 0 g = Lm sc pp 97 0 [some (.ref 197), some (.int (nI (lv + 1))), o2', o3', o4'] [] 0 0 g2') ∧ cd' = cdS cd L c ∧ nu' = nuS nu L 0 ∧ LG g2' f W (L + 1) 0 mn kn cd' nu' ∧ FrP g g2' (pJn f) qNo ∧ LPu f W (L + 1) 0 mn kn cd' := by
        have pw : ∀ c', c' ∈ W → okWt c' := fun c' hc' => p1 c' (List.mem_cons_of_mem _ hc')
        have lv' : ¬ lvF c < lv + 1 := by omega
        rcases opc okc h38 with ⟨e17, w2⟩ | ⟨op, n17, w2, nl⟩
        · -- not
          have bn : binN (c :: W) = binN W := by show _ + _ = _; rw [if_pos (Or.inr e17), Nat.zero_add]
          obtain ⟨z, T, eT⟩ : ∃ z T, lwIx cd L = z :: T := by
            cases hx : lwIx cd L with
            | nil => rw [hx] at ix; simp at ix
            | cons z T => exact ⟨z, T, rfl⟩
          have lT : T.length = binN W := by rw [eT, List.length_cons, bn] at ix; omega
          rw [eT, List.map_cons] at g10
          obtain ⟨hv, hp⟩ := g10.pop
          rw [List.length_map] at hv
          have e47 : hI (sI g 197 46 (nI W.length)) 197 47 = nI (T.length + 1) := by rw [hII, if_neg (by omega), g3, eT, List.length_cons]
          have cl2 := cnt_len W
          have ed := d_dropHeld (sc := sc) (pp := pp) (g := sI g 197 46 (nI W.length)) T.length (g1.moveP GF1) e47 (by omega)
          rw [show hI (sI g 197 46 (nI W.length)) 223 T.length = nI (f + z) from by rw [hII, if_neg (by omega)]; exact hv] at ed
          have GF2 : FrP g (sI (sI g 197 46 (nI W.length)) 197 47 (nI T.length)) (pJn f) qNo := GF1.trans (FrP_sI (by unfold pJn; omega))
          have D2 := g1.moveP GF2
          have eg := d_grown (sc := sc) (pp := pp) (g := sI (sI g 197 46 (nI W.length)) 197 47 (nI T.length)) 2 (nI (f + z)) (-1) (f + L) T.length D2 (by rw [hII, if_neg (by omega), hII, if_neg (by omega)]; exact g8) (by rw [hII, if_pos ⟨rfl, rfl⟩]) hL (by omega)
          have cT : lwIx (cdS cd L c) (L + 1) = L :: T := by
            rw [lwIx_not (show cdS cd L c L = 17 from (if_pos rfl).trans e17), lwIx_congr L (fun j hj => show cdS cd L c j = cd j from if_neg (by omega)), eT]
            rfl
          have rr : ∀ k j, k = 222 ∨ k = 223 ∨ (219 ≤ k ∧ k ≤ 221) ∨ (k = 197 ∧ j ≠ 46 ∧ j ≠ 47) → hI (sI (sI g 197 46 (nI W.length)) 197 47 (nI T.length)) k j = hI g k j := fun k j hk => by rw [hII, if_neg (by omega), hII, if_neg (by omega)]
          have GG := LG.grow (g := sI (sI g 197 46 (nI W.length)) 197 47 (nI T.length)) (f := f) (W := W) (T := T) (L := L) (w := 0) (mn := mn) (kn := kn) (H := T.length) (c := c) (cd := cd) (nu := nu) (v := 0) (x := nI (f + z)) (y := -1) D2 (by rw [hII, if_neg (by omega), hII, if_pos ⟨rfl, rfl⟩]) (by rw [rr _ _ (by omega)]; exact g4) (by rw [rr _ _ (by omega)]; exact g5) (by rw [rr _ _ (by omega)]; exact g6) (by rw [rr _ _ (by omega)]; exact g7) (tp.congr (fun i _ => rr _ _ (by omega))) (hp.congr (fun i _ => rr _ _ (by omega))) (fun i hi => by rw [rr _ _ (by omega), rr _ _ (by omega), rr _ _ (by omega)]; exact g11 i hi) (by rw [e17]; exact Or.inr (Or.inr (Or.inl rfl))) cT rfl (fun e => by omega) (fun e => by omega) (fun _ => ⟨z, T, eT, rfl⟩) (fun _ e => absurd e17 e)
          have k2 : (2 : Int32) = nI (kmap c) := by rw [e17]; rfl
          rw [← k2] at GG
          refine ⟨_, _, _, fun o2 o3 o4 => ⟨some (.int 2), some (.int (-1)), some (.int (nI (f + z))), ?_⟩, rfl, rfl, GG, GF2.trans (mvJ (grH_F (by omega))), pw, by omega, p3, p4, p5, ?_, fun e => absurd e (by decide)⟩
          · rw [L_97_0]
            rw [w2] at tv er
            have t2 : nI 2 = 2 := rfl
            rw [t2] at tv er
            unfold grH
            simp (disch := first | assumption | omega | exact Nat.le_of_ble_eq_true rfl | exact D_k197 (by assumption) | (simp (disch := assumption) only [kdI, kdJ, kdR, D_k197]; done) | (simp only [kdI, kdJ, kdR, *]; done) | fail) only [↓reduceIte, Int32.reduceLE, Int32.reduceLT, x_nil, Nat.reduceAdd, x_aload_n0, x_getI, x_if_le, x_getR, x_iconst_1, x_isub, x_iald, K_95, bindR_some, toL_s, toL_n, ap_n, ap_c, List.map_nil, List.map_cons, List.sum_nil, List.sum_cons, cat_i, cat_r, cat_l, Nat.reduceLeDiff, Nat.zero_le, Nat.le_refl, x_iload_n1, x_icmp_lt, x_dupI, x_dupA, x_putI, x_istore_n2, x_iload_n2, x_iconst_2, x_icmp_ne, x_iconst_m1, x_goto, K_96, x_istore_n3, x_istore4, x_iload4, x_iload_n3, K_93, x_return, L_97_7, L_97_21, L_97_25, L_97_50, L_97_54, L_97_58, L_97_63, L_97_73, L_97_76, ofInt1, ofIntm1, kdI, hNI, hRI, hJI, kdJ, hNJ, hIJ, hRJ, kdR, hNR, hIR, hJR, hII, hJJ, hRR, n_clamp, z_lt, z_ge, z_eq, z_le, z_gt, o_eq, o_lt, o_gt, o_le, o_ge, m_eq, n_eq, n_le, n_lt, n_sub1, nI_1, ol_add, nI_add, z_cl, o_cl, z_pos, o_pos, o_z, z_o, m_z, N_le, N_lt, q2_le, q2_lt, q2_ge, q2_gt, q2_eq, q2_mul, q2_add, q2_adl, q2_cl, q2_pos, q2_ti, q2_tj, zq2, qz2, ne_eq, not_true_eq_false, not_false_eq_true, if_true, if_false, and_self, or_self, true_or, or_true, and_true, true_and, and_false, false_and, or_false, false_or, Nat.reduceEqDiff, Nat.le_refl, Nat.reduceLT, Nat.reduceLeDiff, b32_01, nI_0, D_k197, D_k198, D_n198, D_r0, D_k199, D_n199, D_r3, D_k200, D_n200, D_r22, D_k201, D_n201, D_r23, D_k202, D_n202, D_r24, D_k203, D_n203, D_r25, D_k204, D_n204, D_r26, D_k205, D_n205, D_r27, D_k206, D_n206, D_r28, D_k207, D_n207, D_r29, D_k208, D_n208, D_r30, D_k209, D_n209, D_r31, D_k210, D_n210, D_r32, D_k211, D_n211, D_r33, D_k212, D_n212, D_r34, D_k213, D_n213, D_r35, D_k214, D_n214, D_r36, D_k215, D_n215, D_r37, D_k216, D_n216, D_r38, D_k217, D_n217, D_r39, D_k218, D_n218, D_r40, D_k219, D_n219, D_r41, D_k220, D_n220, D_r42, D_k221, D_n221, D_r43, D_k222, D_n222, D_r44, D_k223, D_n223, D_r45, D_k224, D_n224, D_r52, D_k225, D_n225, D_r53, D_k226, D_n226, D_r55, D_k227, D_n227, D_r56, D_k228, D_n228, D_r57, D_k229, D_n229, D_r58, D_k230, D_n230, D_r59, D_k231, D_n231, D_r68, D_k232, D_n232, D_r69, D_k233, D_n233, D_r70, D_k234, D_n234, D_r73, D_k235, D_n235, D_r74, D_k236, D_n236, D_r76, D_k237, D_n237, D_r77, D_k238, D_n238, D_r79, g2, hz, s1, tv, er, lv', ed, eg]
          · rw [cT, List.length_cons, lT, if_pos rfl]
        · -- two sides
          have bn : binN (c :: W) = 1 + binN W := by show _ + _ = _; rw [if_neg (by omega)]
          obtain ⟨y, z, T, eT⟩ : ∃ y z T, lwIx cd L = y :: z :: T := by
            cases hx : lwIx cd L with
            | nil => rw [hx] at ix; simp at ix
            | cons y T1 =>
              cases T1 with
              | nil => rw [hx, bn] at ix; simp at ix
              | cons z T => exact ⟨y, z, T, rfl⟩
          have lT : T.length = binN W := by rw [eT, List.length_cons, List.length_cons, bn] at ix; omega
          rw [eT, List.map_cons, List.map_cons] at g10
          obtain ⟨hv, hp⟩ := g10.pop
          obtain ⟨hv2, hp2⟩ := hp.pop
          rw [List.length_cons, List.length_map] at hv
          rw [List.length_map] at hv2
          have e47 : hI (sI g 197 46 (nI W.length)) 197 47 = nI (T.length + 1 + 1) := by rw [hII, if_neg (by omega), g3, eT, List.length_cons, List.length_cons]
          have cl2 := cnt_len W
          have ed := d_dropHeld (sc := sc) (pp := pp) (g := sI g 197 46 (nI W.length)) (T.length + 1) (g1.moveP GF1) e47 (by omega)
          rw [show hI (sI g 197 46 (nI W.length)) 223 (T.length + 1) = nI (f + y) from by rw [hII, if_neg (by omega)]; exact hv] at ed
          have GF2 : FrP g (sI (sI g 197 46 (nI W.length)) 197 47 (nI (T.length + 1))) (pJn f) qNo := GF1.trans (FrP_sI (by unfold pJn; omega))
          have ed2 := d_dropHeld (sc := sc) (pp := pp) (g := sI (sI g 197 46 (nI W.length)) 197 47 (nI (T.length + 1))) T.length (g1.moveP GF2) (by rw [hII, if_pos ⟨rfl, rfl⟩]) (by omega)
          rw [show hI (sI (sI g 197 46 (nI W.length)) 197 47 (nI (T.length + 1))) 223 T.length = nI (f + z) from by rw [hII, if_neg (by omega), hII, if_neg (by omega)]; exact hv2] at ed2
          have GF3 : FrP g (sI (sI (sI g 197 46 (nI W.length)) 197 47 (nI (T.length + 1))) 197 47 (nI T.length)) (pJn f) qNo := GF2.trans (FrP_sI (by unfold pJn; omega))
          have D2 := g1.moveP GF3
          have eg := d_grown (sc := sc) (pp := pp) (g := sI (sI (sI g 197 46 (nI W.length)) 197 47 (nI (T.length + 1))) 197 47 (nI T.length)) (nI (wmap c)) (nI (f + z)) (nI (f + y)) (f + L) T.length D2 (by rw [hII, if_neg (by omega), hII, if_neg (by omega), hII, if_neg (by omega)]; exact g8) (by rw [hII, if_pos ⟨rfl, rfl⟩]) hL (by omega)
          have cT : lwIx (cdS cd L c) (L + 1) = L :: T := by
            rw [lwIx_bin (show okOp (cdS cd L c L) from by rw [show cdS cd L c L = c from if_pos rfl]; exact op), lwIx_congr L (fun j hj => show cdS cd L c j = cd j from if_neg (by omega)), eT]
            rfl
          have rr : ∀ k j, k = 222 ∨ k = 223 ∨ (219 ≤ k ∧ k ≤ 221) ∨ (k = 197 ∧ j ≠ 46 ∧ j ≠ 47) → hI (sI (sI (sI g 197 46 (nI W.length)) 197 47 (nI (T.length + 1))) 197 47 (nI T.length)) k j = hI g k j := fun k j hk => by rw [hII, if_neg (by omega), hII, if_neg (by omega), hII, if_neg (by omega)]
          have GG := LG.grow (g := sI (sI (sI g 197 46 (nI W.length)) 197 47 (nI (T.length + 1))) 197 47 (nI T.length)) (f := f) (W := W) (T := T) (L := L) (w := 0) (mn := mn) (kn := kn) (H := T.length) (c := c) (cd := cd) (nu := nu) (v := 0) (x := nI (f + z)) (y := nI (f + y)) D2 (by rw [hII, if_neg (by omega), hII, if_neg (by omega), hII, if_pos ⟨rfl, rfl⟩]) (by rw [rr _ _ (by omega)]; exact g4) (by rw [rr _ _ (by omega)]; exact g5) (by rw [rr _ _ (by omega)]; exact g6) (by rw [rr _ _ (by omega)]; exact g7) (tp.congr (fun i _ => rr _ _ (by omega))) (hp2.congr (fun i _ => rr _ _ (by omega))) (fun i hi => by rw [rr _ _ (by omega), rr _ _ (by omega), rr _ _ (by omega)]; exact g11 i hi) (okOp_okK op) cT rfl (fun e => absurd (by rw [e]; rfl) nl) (fun e => absurd (by unfold leafK; simp; omega) nl) (fun e => absurd e n17) (fun _ _ => ⟨y, z, T, eT, rfl, rfl⟩)
          have k2 : nI (wmap c) = nI (kmap c) := by unfold wmap; rw [if_neg h38]
          rw [← k2] at GG
          refine ⟨_, _, _, fun o2 o3 o4 => ⟨some (.int (nI (wmap c))), some (.int (nI (f + y))), some (.int (nI (f + z))), ?_⟩, rfl, rfl, GG, GF3.trans (mvJ (grH_F (by omega))), pw, by omega, p3, p4, p5, ?_, fun e => absurd e (by decide)⟩
          · rw [L_97_0]
            unfold grH
            simp (disch := first | assumption | omega | exact Nat.le_of_ble_eq_true rfl | exact D_k197 (by assumption) | (simp (disch := assumption) only [kdI, kdJ, kdR, D_k197]; done) | (simp only [kdI, kdJ, kdR, *]; done) | fail) only [↓reduceIte, Int32.reduceLE, Int32.reduceLT, x_nil, Nat.reduceAdd, x_aload_n0, x_getI, x_if_le, x_getR, x_iconst_1, x_isub, x_iald, K_95, bindR_some, toL_s, toL_n, ap_n, ap_c, List.map_nil, List.map_cons, List.sum_nil, List.sum_cons, cat_i, cat_r, cat_l, Nat.reduceLeDiff, Nat.zero_le, Nat.le_refl, x_iload_n1, x_icmp_lt, x_dupI, x_dupA, x_putI, x_istore_n2, x_iload_n2, x_iconst_2, x_icmp_ne, x_iconst_m1, x_goto, K_96, x_istore_n3, x_istore4, x_iload4, x_iload_n3, K_93, x_return, L_97_7, L_97_21, L_97_25, L_97_50, L_97_54, L_97_58, L_97_63, L_97_73, L_97_76, ofInt1, ofIntm1, kdI, hNI, hRI, hJI, kdJ, hNJ, hIJ, hRJ, kdR, hNR, hIR, hJR, hII, hJJ, hRR, n_clamp, z_lt, z_ge, z_eq, z_le, z_gt, o_eq, o_lt, o_gt, o_le, o_ge, m_eq, n_eq, n_le, n_lt, n_sub1, nI_1, ol_add, nI_add, z_cl, o_cl, z_pos, o_pos, o_z, z_o, m_z, N_le, N_lt, q2_le, q2_lt, q2_ge, q2_gt, q2_eq, q2_mul, q2_add, q2_adl, q2_cl, q2_pos, q2_ti, q2_tj, zq2, qz2, ne_eq, not_true_eq_false, not_false_eq_true, if_true, if_false, and_self, or_self, true_or, or_true, and_true, true_and, and_false, false_and, or_false, false_or, Nat.reduceEqDiff, Nat.le_refl, Nat.reduceLT, Nat.reduceLeDiff, b32_01, nI_0, D_k197, D_k198, D_n198, D_r0, D_k199, D_n199, D_r3, D_k200, D_n200, D_r22, D_k201, D_n201, D_r23, D_k202, D_n202, D_r24, D_k203, D_n203, D_r25, D_k204, D_n204, D_r26, D_k205, D_n205, D_r27, D_k206, D_n206, D_r28, D_k207, D_n207, D_r29, D_k208, D_n208, D_r30, D_k209, D_n209, D_r31, D_k210, D_n210, D_r32, D_k211, D_n211, D_r33, D_k212, D_n212, D_r34, D_k213, D_n213, D_r35, D_k214, D_n214, D_r36, D_k215, D_n215, D_r37, D_k216, D_n216, D_r38, D_k217, D_n217, D_r39, D_k218, D_n218, D_r40, D_k219, D_n219, D_r41, D_k220, D_n220, D_r42, D_k221, D_n221, D_r43, D_k222, D_n222, D_r44, D_k223, D_n223, D_r45, D_k224, D_n224, D_r52, D_k225, D_n225, D_r53, D_k226, D_n226, D_r55, D_k227, D_n227, D_r56, D_k228, D_n228, D_r57, D_k229, D_n229, D_r58, D_k230, D_n230, D_r59, D_k231, D_n231, D_r68, D_k232, D_n232, D_r69, D_k233, D_n233, D_r70, D_k234, D_n234, D_r73, D_k235, D_n235, D_r74, D_k236, D_n236, D_r76, D_k237, D_n237, D_r77, D_k238, D_n238, D_r79, g2, hz, s1, tv, er, lv', w2, ed, ed2, eg]
          · rw [cT, List.length_cons, lT, if_pos rfl]
      obtain ⟨g2', cd', nu', eb, rfl, rfl, G2, GFr, P2⟩ := key
      obtain ⟨h', g', W', L', cd', nu', x1, x2, x3, x4, x5, x6, x7, x8, x9, x10⟩ := ih _ g2' (L + 1) _ _ C2 G2 P2
      refine ⟨h', g', W', L', cd', nu', ?_, fun o2 o3 o4 => ?_, x3, x4, x5, (F1.trans F2).trans x6, fun j hj => (x7 j hj).trans (ka2 j hj), GFr.trans x8, x9.trans on.symm, x10⟩
      · rw [L_55_0]
        have q' : ¬ lvF c ≤ lv := q
        have r5 := c4.1
        have ka : kd h a = 2 := A_k0 hA
        simp (disch := first | assumption | omega | exact Nat.le_of_ble_eq_true rfl | exact CI.k0 (by assumption) | exact CI.k2 (by assumption) | exact CI.kc3 (by assumption) | exact CI.kc1 (by assumption) | exact CI.kc5 (by assumption) | exact CI.kc (by assumption) | exact CI.k136 (by assumption) | exact CI.k194 (by assumption) | exact CI.k114 (by assumption) | exact CI.k121 (by assumption) | exact CI.k12 (by assumption) | exact CI.kc18 (by assumption) | exact CI.kc21 (by assumption) | exact CI.k122 (by assumption) | exact CI.k127 (by assumption) | exact CI.k7 (by assumption) | exact CI.k189 (by assumption) | exact CI.k190 (by assumption) | exact CI.k192 (by assumption) | (simp only [kdI, kdJ, kdR, *]; done) | fail) only [↓reduceIte, Int32.reduceLE, Int32.reduceLT, x_nil, Nat.reduceAdd, x_aload_n0, x_getI, x_if_le, x_getR, x_iconst_1, x_isub, x_iald, K_50, bindR_some, toL_s, toL_n, ap_n, ap_c, List.map_nil, List.map_cons, List.sum_nil, List.sum_cons, cat_i, cat_r, cat_l, Nat.reduceLeDiff, Nat.zero_le, Nat.le_refl, x_iload_n1, x_icmp_le, x_dupI, x_dupA, x_putI, x_iconst_0, K_53, x_goto, x_return, L_55_7, L_55_21, L_55_25, L_55_52, L_55_55, ofInt1, ofIntm1, kdI, hNI, hRI, hJI, kdJ, hNJ, hIJ, hRJ, kdR, hNR, hIR, hJR, hII, hJJ, hRR, n_clamp, z_lt, z_ge, z_eq, z_le, z_gt, o_eq, o_lt, o_gt, o_le, o_ge, m_eq, n_eq, n_le, n_lt, n_sub1, nI_1, ol_add, nI_add, z_cl, o_cl, z_pos, o_pos, o_z, z_o, m_z, N_le, N_lt, ne_eq, not_true_eq_false, not_false_eq_true, if_true, if_false, and_self, or_self, true_or, or_true, and_true, true_and, and_false, false_and, or_false, false_or, Nat.reduceEqDiff, Nat.le_refl, Nat.reduceLT, Nat.reduceLeDiff, b32_01, nI_0, k192, k193, n193, r1, r5, c5, hz, s1, sv, el, q', ka, ea, x1]
      · obtain ⟨o2', o3', o4', e⟩ := eb o2 o3 o4
        rw [e]; exact x2 _ _ _
end T77
