-- light
-- text
def lowC (k j : Nat) : Prop := (k = 197 ∧ 12 ≤ j ∧ j ≤ 16) ∨ (201 ≤ k ∧ k ≤ 221 ∧ j < mmR k)
def pX (k j : Nat) : Prop := pU k j ∨ (k = 197 ∧ (j = 1 ∨ j = 2 ∨ j = 6))
theorem mm_U {k j : Nat} (h : pU k j) (hk : 201 ≤ k ∧ k ≤ 221) : mmR k ≤ j := by
  unfold pU at h
  unfold mmR
  by_cases e1 : k = 201
  · rw [if_pos e1]; omega
  rw [if_neg e1]
  by_cases e2 : k = 202
  · rw [if_pos e2]; omega
  rw [if_neg e2]
  by_cases e3 : k ≤ 207
  · rw [if_pos e3]; omega
  rw [if_neg e3]
  by_cases e4 : k ≤ 212
  · rw [if_pos e4]; omega
  rw [if_neg e4]
  by_cases e5 : k ≤ 215
  · rw [if_pos e5]; omega
  rw [if_neg e5]
  by_cases e6 : k ≤ 218
  · rw [if_pos e6]; omega
  rw [if_neg e6]; omega
section T90
variable {sc : Nat × (Nat → Int32)} {pp : Nat → Nat → Int32 → Int32 → Hp → Option (Hp × Int32)} {h g g' : Hp} {c d : Nat} {co st im : Mx} {hs : Nat → Mx} {nt ax : Mx} {hl : Nat → Mx} {n B : Nat}
theorem repE.low (e : repE g co) (w : wfC co) (hD : isD g') (r : ∀ k j, lowC k j → hI g' k j = hI g k j) : repE g' co := by
  obtain ⟨_, a2, a3, a4, a5, a6, a7, a8, a9⟩ := e
  have f8 := w.f.2
  have p5 := w.p.2
  have q8 := w.q.2
  have t10 := w.t.2
  have m1 : mmR 201 = 2 := rfl
  have m2 : mmR 202 = 8 := rfl
  have m3 : mmR 203 = 5 ∧ mmR 204 = 5 ∧ mmR 205 = 5 ∧ mmR 206 = 5 ∧ mmR 207 = 5 := ⟨rfl, rfl, rfl, rfl, rfl⟩
  have m4 : mmR 208 = 8 ∧ mmR 209 = 8 ∧ mmR 210 = 8 ∧ mmR 211 = 8 ∧ mmR 212 = 8 := ⟨rfl, rfl, rfl, rfl, rfl⟩
  have m5 : mmR 213 = 10 ∧ mmR 214 = 10 ∧ mmR 215 = 10 := ⟨rfl, rfl, rfl⟩
  have m6 : mmR 216 = 2 ∧ mmR 217 = 2 ∧ mmR 218 = 2 := ⟨rfl, rfl, rfl⟩
  have m7 : mmR 219 = 64 ∧ mmR 220 = 64 ∧ mmR 221 = 64 := ⟨rfl, rfl, rfl⟩
  have law : ∀ v a, (v = 0 ∨ v = 1) → lawD g v a co → lawD g' v a co := by
    intro v a hv l
    unfold lawD at *
    rw [r 216 v (by unfold lowC; omega), r 217 v (by unfold lowC; omega), r 218 v (by unfold lowC; omega)]
    refine ⟨l.1, l.2.imp id (fun z => ⟨z.1, ?_⟩)⟩
    obtain ⟨f, b1, b2, b3, ⟨b4, b5⟩, b6⟩ := z.2
    refine ⟨f, b1, b2, b3, ⟨b4, fun i hi => ?_⟩, b6⟩
    rw [r 219 _ (by unfold lowC; omega), r 220 _ (by unfold lowC; omega), r 221 _ (by unfold lowC; omega)]
    exact b5 i hi
  refine ⟨hD, ?_, ?_, fun i hi => ?_, fun p hp => ?_, fun q hq => ?_, fun s hs' => ?_, law 0 18 (by omega) a8, law 1 21 (by omega) a9⟩
  · rw [r 197 12 (by unfold lowC; omega), r 197 13 (by unfold lowC; omega), r 197 14 (by unfold lowC; omega), r 197 15 (by unfold lowC; omega), r 197 16 (by unfold lowC; omega)]; exact a2
  · rw [r 201 0 (by unfold lowC; omega), r 201 1 (by unfold lowC; omega)]; exact a3
  · rw [r 202 i (by unfold lowC; omega)]; exact a4 i hi
  · rw [r 203 p (by unfold lowC; omega), r 204 p (by unfold lowC; omega), r 205 p (by unfold lowC; omega), r 206 p (by unfold lowC; omega), r 207 p (by unfold lowC; omega)]; exact a5 p hp
  · rw [r 208 q (by unfold lowC; omega), r 209 q (by unfold lowC; omega), r 210 q (by unfold lowC; omega), r 211 q (by unfold lowC; omega), r 212 q (by unfold lowC; omega)]; exact a6 q hq
  · rw [r 213 s (by unfold lowC; omega), r 214 s (by unfold lowC; omega), r 215 s (by unfold lowC; omega)]; exact a7 s hs'
/-- the reference, where the text wasn't taken -/
theorem DI.flt {ax' : Mx} (D : DI g co st im hl n nt ax) (w : wfC co) (F : FrP g g' pX qNo) (x1 : ∀ j, j < 700 → ax' 1 j = ax 1 j) (x14 : ax' 0 14 = ax 0 14) (e1 : hI g' 197 1 = ax' 0 11) (e4 : hI g' 197 4 = ax' 0 12) (e5 : hI g' 197 5 = ax' 0 13) : DI g' co st im hl n nt ax' := by
  obtain ⟨a1, a2, a3, a4, a5, a6, a7, a8, a9, a10⟩ := D
  have nu : ∀ k j, pX k j → k ≠ 198 ∧ (k = 197 → j < 52) ∧ k < 224 := fun k j q => by unfold pX pU at q; omega
  have r : ∀ j, 52 ≤ j → hI g' 197 j = hI g 197 j := fun j _ => F.I (fun q => by have := nu _ _ q; omega)
  have rw3 : ∀ k, k = 198 ∨ 224 ≤ k → hI g' k = hI g k := fun k hk => F.row (fun j q => by have := nu _ _ q; omega)
  have rj : ∀ k j, hJ g' k j = hJ g k j := fun k j => F.J (fun q => q)
  refine ⟨a1.low w (a1.1.moveP F) (fun k j q => F.I (fun z => ?_)), ?_, by rw [r 60 (by omega)]; exact a3, ⟨by rw [r 78 (by omega), x14]; exact a4.1, fun z => ?_⟩, ⟨by rw [r 75 (by omega)]; exact a5.1, fun i hi => ⟨(a5.2 i hi).1.mv (rw3 _ (by omega)), by rw [rj]; exact (a5.2 i hi).2⟩⟩, a6.mv (r 71 (by omega)) (r 72 (by omega)) (rw3 234 (by omega)), fun j hj => by rw [rw3 198 (by omega), x1 j hj]; exact a7 j hj, e1, e4, e5⟩
  · unfold lowC at q
    rcases z with z | z
    · by_cases b : 201 ≤ k ∧ k ≤ 221
      · have := mm_U z b
        omega
      · unfold pU at z
        omega
    · omega
  · refine ⟨fun p hp => ?_, ?_, ?_⟩
    · rw [rw3 226 (by omega), rw3 227 (by omega), rw3 228 (by omega), rw3 229 (by omega)]; exact a2.1 p hp
    · rw [rw3 230 (by omega)]; exact a2.2.1
    · rw [rj]; exact a2.2.2
  · rw [x14] at z
    exact ⟨(a4.2 z).1.mv (rw3 _ (by omega)), by rw [rj]; exact (a4.2 z).2⟩
def pBg (k j : Nat) : Prop := (226 ≤ k ∧ k ≤ 230) ∨ (k = 197 ∧ (j = 60 ∨ (62 ≤ j ∧ j ≤ 67) ∨ j = 71 ∨ j = 72 ∨ j = 75 ∨ j = 78))
def qBg (k j : Nat) : Prop := k = 197 ∧ j = 61
set_option maxHeartbeats 4000000 in
theorem d_begin (e : repE g co) (w : wfC co) : ∃ g', Lm sc pp 16 0 [some (.ref 197)] [] 0 0 g = some (g', none) ∧ FrP g g' pBg qBg ∧ repB g' 0 (npO co) (stB co) ∧ hI g' 197 60 = 0 ∧ hI g' 197 71 = 0 ∧ hI g' 197 72 = -1 ∧ hI g' 197 75 = 0 ∧ hI g' 197 78 = 0 := by
  obtain ⟨x, ex, Fx, vx, x0⟩ := d_atFirst0 (sc := sc) (pp := pp) e w
  have hD := e.1
  have hDx := e.1.moveP Fx
  have e201 : hI x 201 1 = co 0 18 := by rw [Fx.I (by omega)]; exact e.2.2.1.2
  obtain ⟨y, ey, Fy, -⟩ := d_plainTried (sc := sc) (pp := pp) (g := sJ (sI x 197 60 0) 197 61 (co 0 18).toInt64) hDx
  have hDy : isD y := (show isD (sJ (sI x 197 60 0) 197 61 (co 0 18).toInt64) from hDx).moveP Fy
  have F1 : FrP g (sJ (sI x 197 60 0) 197 61 (co 0 18).toInt64) pBg qBg := ((Fx.mono (fun k j q => by unfold pBg; omega) (fun _ _ q => q.elim)).trans (FrP_sI (by unfold pBg; omega))).trans (FrP_sJ ⟨rfl, rfl⟩)
  have F2 : FrP g (sI (sI (sI (sI y 197 71 0) 197 72 (-1)) 197 75 0) 197 78 0) pBg qBg := ((((F1.trans (Fy.mono (fun k j q => by unfold pBg; omega) (fun _ _ q => q.elim))).trans (FrP_sI (by unfold pBg; omega))).trans (FrP_sI (by unfold pBg; omega))).trans (FrP_sI (by unfold pBg; omega))).trans (FrP_sI (by unfold pBg; omega))
  have back : ∀ k j, (226 ≤ k ∧ k ≤ 230) → hI (sI (sI (sI (sI y 197 71 0) 197 72 (-1)) 197 75 0) 197 78 0) k j = hI x k j := fun k j hk => by rw [hII, if_neg (by omega), hII, if_neg (by omega), hII, if_neg (by omega), hII, if_neg (by omega), Fy.I (by omega), hIJ, hII, if_neg (by omega)]
  refine ⟨sI (sI (sI (sI y 197 71 0) 197 72 (-1)) 197 75 0) 197 78 0, ?_, F2, ⟨fun p hp => ?_, ?_, ?_⟩, ?_, ?_, ?_, ?_, ?_⟩
  · have t0 : ((0 : Int32) = 0 ∨ (0 : Int32) = 1) = True := eq_true (Or.inl rfl)
    simp (disch := first | assumption | omega | exact Nat.le_of_ble_eq_true rfl | exact D_k197 (by assumption) | (simp (disch := assumption) only [kdI, kdJ, kdR, D_k197]; done) | (simp only [kdI, kdJ, kdR]; assumption) | fail) only [↓reduceIte, Int32.reduceLE, Int32.reduceLT, x_nil, Nat.reduceAdd, x_aload_n0, x_iconst_0, K_14, bindR_some, toL_s, toL_n, ap_n, ap_c, List.map_nil, List.map_cons, List.sum_nil, List.sum_cons, cat_i, cat_r, cat_l, Nat.reduceLeDiff, Nat.zero_le, Nat.le_refl, x_putI, x_getR, x_iconst_1, x_iald, x_i2l, x_putJ, K_15, x_iconst_m1, x_putZ, x_return, L_16_0, L_16_5, L_16_25, ofInt1, ofIntm1, kdI, hNI, hRI, hJI, kdJ, hNJ, hIJ, hRJ, kdR, hNR, hIR, hJR, hII, hJJ, hRR, n_clamp, z_lt, z_ge, z_eq, z_le, z_gt, o_eq, o_lt, o_gt, o_le, o_ge, m_eq, n_eq, n_le, n_lt, n_sub1, nI_1, ol_add, nI_add, z_cl, o_cl, z_pos, o_pos, o_z, z_o, m_z, N_le, N_lt, ne_eq, not_true_eq_false, not_false_eq_true, if_true, if_false, and_self, or_self, true_or, or_true, and_true, true_and, and_false, false_and, or_false, false_or, Nat.reduceEqDiff, Nat.le_refl, Nat.reduceLT, Nat.reduceLeDiff, b32_01, nI_0, D_k197, D_k198, D_n198, D_r0, D_k199, D_n199, D_r3, D_k200, D_n200, D_r22, D_k201, D_n201, D_r23, D_k202, D_n202, D_r24, D_k203, D_n203, D_r25, D_k204, D_n204, D_r26, D_k205, D_n205, D_r27, D_k206, D_n206, D_r28, D_k207, D_n207, D_r29, D_k208, D_n208, D_r30, D_k209, D_n209, D_r31, D_k210, D_n210, D_r32, D_k211, D_n211, D_r33, D_k212, D_n212, D_r34, D_k213, D_n213, D_r35, D_k214, D_n214, D_r36, D_k215, D_n215, D_r37, D_k216, D_n216, D_r38, D_k217, D_n217, D_r39, D_k218, D_n218, D_r40, D_k219, D_n219, D_r41, D_k220, D_n220, D_r42, D_k221, D_n221, D_r43, D_k222, D_n222, D_r44, D_k223, D_n223, D_r45, D_k224, D_n224, D_r52, D_k225, D_n225, D_r53, D_k226, D_n226, D_r55, D_k227, D_n227, D_r56, D_k228, D_n228, D_r57, D_k229, D_n229, D_r58, D_k230, D_n230, D_r59, D_k231, D_n231, D_r68, D_k232, D_n232, D_r69, D_k233, D_n233, D_r70, D_k234, D_n234, D_r73, D_k235, D_n235, D_r74, D_k236, D_n236, D_r76, D_k237, D_n237, D_r77, D_k238, D_n238, D_r79, ex, e201, ey, t0]
  · obtain ⟨v1, v2, v3, v4⟩ := vx p hp
    rw [Nat.mul_zero, Nat.zero_add, back _ _ (by omega), back _ _ (by omega), back _ _ (by omega), back _ _ (by omega)]
    exact ⟨v1, v3, v2, v4⟩
  · rw [back _ _ (by omega)]; exact x0
  · rw [hJI, hJI, hJI, hJI, Fy.J (fun q => q), hJJ, if_pos ⟨rfl, rfl⟩]; rfl
  · rw [hII, if_neg (by omega), hII, if_neg (by omega), hII, if_neg (by omega), hII, if_neg (by omega), Fy.I (by omega), hIJ, hII, if_pos ⟨rfl, rfl⟩]
  · rw [hII, if_neg (by omega), hII, if_neg (by omega), hII, if_neg (by omega), hII, if_pos ⟨rfl, rfl⟩]
  · rw [hII, if_neg (by omega), hII, if_neg (by omega), hII, if_pos ⟨rfl, rfl⟩]
  · rw [hII, if_neg (by omega), hII, if_pos ⟨rfl, rfl⟩]
  · rw [hII, if_pos ⟨rfl, rfl⟩]
end T90
