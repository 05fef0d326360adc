-- the reference: a law's value, numbers
theorem many8_bc {v : Nat} (h : v < 256) : many8 (nI v) = bcE (nI v) := by
  have a : ∀ v, v < 256 → many8 (nI v) = bcE (nI v) := by decide +kernel
  exact a v h
theorem drawL (x : Int32) : (x.toInt64 * 1103515245 + 12345) &&& 2147483647 = (drawF x).toInt64 := by
  apply Int64.toBitVec_inj.mp
  apply BitVec.eq_of_toNat_eq
  have hm : (drawF x).toBitVec.toNat = (x.toBitVec.toNat * 1103515245 + 12345) % 2 ^ 32 % 2 ^ 31 := by
    unfold drawF
    rw [Int32.toBitVec_and, Int32.toBitVec_add, Int32.toBitVec_mul, BitVec.toNat_and, show (2147483647 : Int32).toBitVec.toNat = 2 ^ 31 - 1 from rfl, Nat.and_two_pow_sub_one_eq_mod, BitVec.toNat_add, BitVec.toNat_mul, show (1103515245 : Int32).toBitVec.toNat = 1103515245 from rfl, show (12345 : Int32).toBitVec.toNat = 12345 from rfl]
    omega
  have h0 : (drawF x).toBitVec.msb = false := by
    rw [BitVec.msb_eq_false_iff_two_mul_lt, hm]
    omega
  rw [Int32.toBitVec_toInt64, BitVec.signExtend_eq_setWidth_of_msb_false h0, BitVec.toNat_setWidth, hm, Int64.toBitVec_and, Int64.toBitVec_add, Int64.toBitVec_mul, BitVec.toNat_and, show (2147483647 : Int64).toBitVec.toNat = 2 ^ 31 - 1 from rfl, Nat.and_two_pow_sub_one_eq_mod, BitVec.toNat_add, BitVec.toNat_mul, show (1103515245 : Int64).toBitVec.toNat = 1103515245 from rfl, show (12345 : Int64).toBitVec.toNat = 12345 from rfl, Int32.toBitVec_toInt64, BitVec.toNat_signExtend, BitVec.toNat_setWidth]
  have := x.toBitVec.isLt
  have m1 : ∀ a : Nat, (a * 1103515245 % 2 ^ 64 + 12345) % 2 ^ 64 % 2 ^ 31 = (a * 1103515245 + 12345) % 2 ^ 31 := fun a => by
    generalize a * 1103515245 = Y
    omega
  have m2 : ∀ Y : Nat, Y % 2 ^ 32 % 2 ^ 31 % 2 ^ 64 = Y % 2 ^ 31 := fun Y => by omega
  rw [m1, m2]
  split <;> omega
theorem drawF_pos (x : Int32) : 0 ≤ (drawF x).toInt := by
  have hm : (drawF x).toBitVec.toNat < 2 ^ 31 := by
    unfold drawF
    rw [Int32.toBitVec_and, BitVec.toNat_and, show (2147483647 : Int32).toBitVec.toNat = 2 ^ 31 - 1 from rfl, Nat.and_two_pow_sub_one_eq_mod]
    omega
  show 0 ≤ (drawF x).toBitVec.toInt
  rw [BitVec.toInt_eq_toNat_of_lt (by omega)]
  omega
theorem drawM (x : Int32) : (((drawF x).toInt64 / 65536) - (drawF x).toInt64 / 65536 / (100 : Int32).toInt64 * (100 : Int32).toInt64).toInt32 = drawF x / 65536 - drawF x / 65536 / 100 * 100 := by
  have h0 := drawF_pos x
  have h1 := (drawF x).toInt_lt
  generalize drawF x = y at *
  have e1 : (y / 65536).toInt = y.toInt / 65536 := by
    rw [Int32.toInt_div_of_ne_right _ _ (by decide), show (65536 : Int32).toInt = 65536 from by decide, Int.tdiv_eq_ediv_of_nonneg h0]
  have e2 : (y / 65536 / 100).toInt = y.toInt / 65536 / 100 := by
    rw [Int32.toInt_div_of_ne_right _ _ (by decide), e1, show (100 : Int32).toInt = 100 from by decide, Int.tdiv_eq_ediv_of_nonneg (by omega)]
  have f1 : (y.toInt64 / 65536).toInt = y.toInt / 65536 := by
    rw [Int64.toInt_div_of_ne_right _ _ (by decide), show (65536 : Int64).toInt = 65536 from by decide, Int32.toInt_toInt64, Int.tdiv_eq_ediv_of_nonneg h0]
  have c1 : (100 : Int32).toInt64 = 100 := by decide
  have f2 : (y.toInt64 / 65536 / 100).toInt = y.toInt / 65536 / 100 := by
    rw [Int64.toInt_div_of_ne_right _ _ (by decide), f1, show (100 : Int64).toInt = 100 from by decide, Int.tdiv_eq_ediv_of_nonneg (by omega)]
  rw [c1]
  apply Int32.toInt_inj.mp
  rw [Int64.toInt_toInt32, Int64.toInt_sub, Int64.toInt_mul, f1, f2, Int32.toInt_sub, Int32.toInt_mul, e1, e2, show (100 : Int64).toInt = 100 from by decide, show (100 : Int32).toInt = 100 from by decide]
  rw [Int.bmod_eq_of_le (n := y.toInt / 65536 / 100 * 100) (m := 2 ^ 64) (by omega) (by omega), Int.bmod_eq_of_le (n := y.toInt / 65536 / 100 * 100) (m := 2 ^ 32) (by omega) (by omega), Int.bmod_eq_of_le (m := 2 ^ 64) (by omega) (by omega)]
-- the reference's court and states, told by the class' matrices
def lawD (g : Hp) (w a : Nat) (co : Mx) : Prop := hI g 216 w = co a 3 ∧ (co a 3 = 0 ∨ (co a 3 = 1 ∧ ∃ f, hI g 217 w = nI f ∧ hI g 218 w = nI (f + nO (co a 2)) ∧ 0 < nO (co a 2) ∧ lawK g f (nO (co a 2)) (fun j => nO (co (a + 1) j)) (co (a + 2)) ∧ lwIx (fun j => nO (co (a + 1) j)) (nO (co a 2)) = [nO (co a 2) - 1]))
def repE (g : Hp) (co : Mx) : Prop := isD g ∧ (hI g 197 12 = co 1 2 ∧ hI g 197 13 = co 3 2 ∧ hI g 197 14 = co 5 2 ∧ hI g 197 15 = co 0 16 ∧ hI g 197 16 = co 0 19) ∧ (hI g 201 0 = co 0 17 ∧ hI g 201 1 = co 0 18) ∧ (∀ i, i < nfO co → hI g 202 i = co 2 i) ∧ (∀ p, p < npO co → hI g 203 p = co 4 p ∧ hI g 204 p = co 7 p ∧ hI g 205 p = co 8 p ∧ hI g 206 p = co 9 p ∧ hI g 207 p = co 10 p) ∧ (∀ q, q < nqO co → hI g 208 q = co 6 q ∧ hI g 209 q = co 11 q ∧ hI g 210 q = co 12 q ∧ hI g 211 q = co 13 q ∧ hI g 212 q = co 14 q) ∧ (∀ t, t < ntO co → hI g 213 t = co 15 t ∧ hI g 214 t = co 16 t ∧ hI g 215 t = co 17 t) ∧ lawD g 0 18 co ∧ lawD g 1 21 co
def ctCell (k j : Nat) : Prop := (k = 197 ∧ 12 ≤ j ∧ j ≤ 16) ∨ (201 ≤ k ∧ k ≤ 221)
theorem lawK.mv {g g' : Hp} {f n : Nat} {cd : Nat → Nat} {nums : Nat → Int32} (a : lawK g f n cd nums) (e1 : hI g' 219 = hI g 219) (e2 : hI g' 220 = hI g 220) (e3 : hI g' 221 = hI g 221) : lawK g' f n cd nums := by
  unfold lawK at *
  rw [e1, e2, e3]
  exact a
theorem repE.mv {g g' : Hp} {co : Mx} (a : repE g co) (d : isD g') (e : ∀ k j, ctCell k j → hI g' k j = hI g k j) : repE g' co := by
  have r : ∀ k, 201 ≤ k → k ≤ 221 → hI g' k = hI g k := fun k x y => funext (fun j => e k j (Or.inr ⟨x, y⟩))
  have o : ∀ j, 12 ≤ j → j ≤ 16 → hI g' 197 j = hI g 197 j := fun j x y => e 197 j (Or.inl ⟨rfl, x, y⟩)
  refine ⟨d, ?_⟩
  have b := a.2
  unfold lawD lawK at *
  rw [o 12 (by omega) (by omega), o 13 (by omega) (by omega), o 14 (by omega) (by omega), o 15 (by omega) (by omega), o 16 (by omega) (by omega), r 201 (by omega) (by omega), r 202 (by omega) (by omega), r 203 (by omega) (by omega), r 204 (by omega) (by omega), r 205 (by omega) (by omega), r 206 (by omega) (by omega), r 207 (by omega) (by omega), r 208 (by omega) (by omega), r 209 (by omega) (by omega), r 210 (by omega) (by omega), r 211 (by omega) (by omega), r 212 (by omega) (by omega), r 213 (by omega) (by omega), r 214 (by omega) (by omega), r 215 (by omega) (by omega), r 216 (by omega) (by omega), r 217 (by omega) (by omega), r 218 (by omega) (by omega), r 219 (by omega) (by omega), r 220 (by omega) (by omega), r 221 (by omega) (by omega)]
  exact b
theorem repE.mvP {g g' : Hp} {co : Mx} {P Q : Nat → Nat → Prop} (a : repE g co) (f : FrP g g' P Q) (hP : ∀ k j, P k j → ¬ ctCell k j) : repE g' co := a.mv (a.1.moveP f) (fun k j c => f.I (fun p => hP k j p c))
theorem repE.D {g : Hp} {co : Mx} (a : repE g co) : isD g := a.1
theorem repE.np {g : Hp} {co : Mx} (a : repE g co) (w : wfC co) : hI g 197 13 = nI (npO co) := a.2.1.2.1.trans w.p.1
theorem repE.nf {g : Hp} {co : Mx} (a : repE g co) (w : wfC co) : hI g 197 12 = nI (nfO co) := a.2.1.1.trans w.f.1
theorem repE.nq {g : Hp} {co : Mx} (a : repE g co) (w : wfC co) : hI g 197 14 = nI (nqO co) := a.2.1.2.2.1.trans w.q.1
theorem repE.nt {g : Hp} {co : Mx} (a : repE g co) (w : wfC co) : hI g 197 15 = nI (ntO co) := a.2.1.2.2.2.1.trans w.t.1
theorem repE.pers {g : Hp} {co : Mx} (a : repE g co) {p : Nat} (h : p < npO co) : hI g 203 p = co 4 p ∧ hI g 204 p = co 7 p ∧ hI g 205 p = co 8 p ∧ hI g 206 p = co 9 p ∧ hI g 207 p = co 10 p := a.2.2.2.2.1 p h
theorem repE.ques {g : Hp} {co : Mx} (a : repE g co) {q : Nat} (h : q < nqO co) : hI g 208 q = co 6 q ∧ hI g 209 q = co 11 q ∧ hI g 210 q = co 12 q ∧ hI g 211 q = co 13 q ∧ hI g 212 q = co 14 q := a.2.2.2.2.2.1 q h
theorem repE.talk {g : Hp} {co : Mx} (a : repE g co) {t : Nat} (h : t < ntO co) : hI g 213 t = co 15 t ∧ hI g 214 t = co 16 t ∧ hI g 215 t = co 17 t := a.2.2.2.2.2.2.1 t h
theorem repE.law0 {g : Hp} {co : Mx} (a : repE g co) : lawD g 0 18 co := a.2.2.2.2.2.2.2.1
theorem repE.law1 {g : Hp} {co : Mx} (a : repE g co) : lawD g 1 21 co := a.2.2.2.2.2.2.2.2
def repB (g : Hp) (b n : Nat) (st : Mx) : Prop := (∀ p, p < n → hI g 226 (5 * b + p) = st 1 p ∧ hI g 228 (5 * b + p) = st 2 p ∧ hI g 227 (5 * b + p) = st 3 p ∧ hI g 229 (5 * b + p) = st 4 p) ∧ hI g 230 b = st 0 4 ∧ hJ g 197 61 = (st 0 6).toInt64
def repF (g : Hp) (fl : Nat → Int32) (nn : Int32) : Prop := hI g 197 62 = fl 3 ∧ hI g 197 63 = nn ∧ hI g 197 64 = fl 6 ∧ hI g 197 65 = fl 7 ∧ hI g 197 66 = fl 4 ∧ hI g 197 67 = fl 5
def pB (b k j : Nat) : Prop := ((k = 226 ∨ k = 227 ∨ k = 229) ∧ 5 * b ≤ j ∧ j < 5 * b + 5) ∨ (k = 197 ∧ j = 54)
def qB (k j : Nat) : Prop := k = 224 ∨ k = 225 ∨ (k = 197 ∧ j = 61)
def qN (k _j : Nat) : Prop := k = 224 ∨ k = 225
theorem repB.mvP {g g' : Hp} {b n : Nat} {st : Mx} {P Q : Nat → Nat → Prop} (a : repB g b n st) (f : FrP g g' P Q) (hP : ∀ k j, P k j → k = 197 ∨ k = 231 ∨ k = 232 ∨ k = 233 ∨ k = 235) (hQ : ∀ k j, Q k j → k ≠ 197) : repB g' b n st := by
  have r : ∀ k j, 226 ≤ k → k ≤ 230 → hI g' k j = hI g k j := fun k j x y => f.I (fun p => by have := hP k j p; omega)
  refine ⟨fun p hp => ?_, ?_, ?_⟩
  · rw [r 226 _ (by omega) (by omega), r 227 _ (by omega) (by omega), r 228 _ (by omega) (by omega), r 229 _ (by omega) (by omega)]
    exact a.1 p hp
  · rw [r 230 _ (by omega) (by omega)]; exact a.2.1
  · rw [f.J (fun q => hQ _ _ q rfl)]; exact a.2.2
theorem repF.mvP {g g' : Hp} {fl : Nat → Int32} {nn : Int32} {P Q : Nat → Nat → Prop} (a : repF g fl nn) (f : FrP g g' P Q) (hP : ∀ k j, P k j → k ≠ 197 ∨ j = 54 ∨ j = 2) : repF g' fl nn := by
  have r : ∀ j, 62 ≤ j → hI g' 197 j = hI g 197 j := fun j x => f.I (fun p => by have := hP 197 j p; omega)
  unfold repF
  rw [r 62 (by omega), r 63 (by omega), r 64 (by omega), r 65 (by omega), r 66 (by omega), r 67 (by omega)]
  exact a
section T34
variable {sc : Nat × (Nat → Int32)} {pp : Nat → Nat → Int32 → Int32 → Hp → Option (Hp × Int32)}
theorem d_lawOf (w f n : Nat) (cd : Nat → Nat) (nums nm : Nat → Int32) (g : Hp) (hD : isD g) (hw : w < 2) (hf : hI g 217 w = nI f) (hl : hI g 218 w = nI (f + n)) (h0 : 0 < n) (hL : lawK g f n cd nums) (hx : lwIx cd n = [n - 1]) (hN7 : ∀ j, j < 7 → hJ g 224 j = (nm j).toInt64) : ∃ g' v, Lm sc pp 140 0 [some (.ref 197), some (.int (nI w)), none] [] 0 0 g = some (g', some (.long v)) ∧ FrP g g' pE qV ∧ ((lwEnd (lwRun cd nums nm n 0 []) = -9223372036854775808 ∧ ¬ hI g' 197 54 = 0) ∨ (¬ lwEnd (lwRun cd nums nm n 0 []) = -9223372036854775808 ∧ hI g' 197 54 = 0 ∧ v = lwEnd (lwRun cd nums nm n 0 []))) := by
  have f64 := hL.1
  have fr0 : FrP g (sI g 197 54 0) pE qV := FrP_sI ⟨rfl, rfl⟩
  obtain ⟨x, ⟨F, LI⟩, e⟩ := loopUp (fun k x => Lm sc pp 140 12 [some (.ref 197), some (.int (nI w)), some (.int (nI (f + k)))] [] 0 0 x) (fun k x => FrP g x pE qV ∧ lawI (hJ x 225) (hI x 197 54) f k cd nums nm) n (fun k x hk i => by
    obtain ⟨F, LI⟩ := i
    have hDx := hD.moveP F
    have rw1 : ∀ k j, k ≠ 197 → hI x k j = hI g k j := fun k j n => F.I (fun p => n p.1)
    obtain ⟨E', v, e, li⟩ := d_knot (sc := sc) (pp := pp) f n k cd nums nm x hDx (hL.mv (funext fun j => rw1 _ _ (by decide)) (funext fun j => rw1 _ _ (by decide)) (funext fun j => rw1 _ _ (by decide))) hk (fun j hj => by rw [F.J (fun q => by unfold qV at q; omega)]; exact hN7 j hj) LI
    have l2 : hI x 218 w = nI (f + n) := by rw [rw1 _ _ (by decide)]; exact hl
    refine ⟨sJ (sI x 197 54 E') 225 (f + k) v, ⟨(F.trans (FrP_sI ⟨rfl, rfl⟩)).trans (FrP_sJ rfl), ?_⟩, ?_⟩
    · have e1 : hJ (sJ (sI x 197 54 E') 225 (f + k) v) 225 = fun j => if j = f + k then v else hJ x 225 j := by
        funext j
        rw [hJ_sJ, hJ_sI]
        simp only [true_and]
      rw [e1]
      exact li
    · rw [L_140_12]
      simp (disch := first | assumption | omega | exact Nat.le_of_ble_eq_true rfl | exact D_k197 (by assumption) | (simp (disch := assumption) only [kdI, kdJ, kdR, D_k197]; done) | (simp only [kdI, kdJ, kdR, *]; done) | fail) only [x_nil, Nat.reduceAdd, x_aload_n0, x_iconst_0, x_putZ, x_getR, x_iload_n1, x_iald, x_istore_n2, x_iload_n2, x_icmp_ge, K_139, bindR_some, toL_s, toL_n, ap_n, ap_c, List.map_nil, List.map_cons, List.sum_nil, List.sum_cons, cat_i, cat_r, cat_l, Nat.reduceLeDiff, Nat.zero_le, Nat.le_refl, x_last, x_iinc2, x_goto, x_getZ, x_if_eq, x_lconst_0, x_iconst_1, x_isub, x_lald, x_lreturn, L_140_22, L_140_32, ofInt1, ofIntm1, kdI, hNI, hRI, hJI, kdJ, hNJ, hIJ, hRJ, kdR, hNR, hIR, hJR, hII, hJJ, hRR, n_clamp, z_lt, z_ge, z_eq, z_le, z_gt, o_eq, o_lt, o_gt, o_le, o_ge, m_eq, n_eq, n_le, n_lt, n_sub1, nI_1, ol_add, nI_add, z_cl, o_cl, z_pos, o_pos, o_z, z_o, m_z, N_le, N_lt, ne_eq, not_true_eq_false, not_false_eq_true, if_true, if_false, and_self, or_self, true_or, or_true, and_true, true_and, and_false, false_and, or_false, false_or, Nat.reduceEqDiff, Nat.le_refl, D_k197, D_k198, D_n198, D_r0, D_k199, D_n199, D_r3, D_k200, D_n200, D_r22, D_k201, D_n201, D_r23, D_k202, D_n202, D_r24, D_k203, D_n203, D_r25, D_k204, D_n204, D_r26, D_k205, D_n205, D_r27, D_k206, D_n206, D_r28, D_k207, D_n207, D_r29, D_k208, D_n208, D_r30, D_k209, D_n209, D_r31, D_k210, D_n210, D_r32, D_k211, D_n211, D_r33, D_k212, D_n212, D_r34, D_k213, D_n213, D_r35, D_k214, D_n214, D_r36, D_k215, D_n215, D_r37, D_k216, D_n216, D_r38, D_k217, D_n217, D_r39, D_k218, D_n218, D_r40, D_k219, D_n219, D_r41, D_k220, D_n220, D_r42, D_k221, D_n221, D_r43, D_k222, D_n222, D_r44, D_k223, D_n223, D_r45, D_k224, D_n224, D_r52, D_k225, D_n225, D_r53, D_k226, D_n226, D_r55, D_k227, D_n227, D_r56, D_k228, D_n228, D_r57, D_k229, D_n229, D_r58, D_k230, D_n230, D_r59, D_k231, D_n231, D_r68, D_k232, D_n232, D_r69, D_k233, D_n233, D_r70, D_k234, D_n234, D_r73, D_k235, D_n235, D_r74, D_k236, D_n236, D_r76, D_k237, D_n237, D_r77, D_k238, D_n238, D_r79, l2, e]
      rw [show f + (k + 1) = f + k + 1 by omega]) n 0 (sI g 197 54 0) (by omega) ⟨fr0, by
        show (hI (sI g 197 54 0) 197 54 = 0 ∧ ([] : List Int64) = _ ∧ _)
        exact ⟨by rw [hI_eq], rfl, by simp⟩⟩
  have hDx := hD.moveP F
  have rw1 : ∀ k j, k ≠ 197 → hI x k j = hI g k j := fun k j n => F.I (fun p => n p.1)
  have l2 : hI x 218 w = nI (f + n) := by rw [rw1 _ _ (by decide)]; exact hl
  have st : Lm sc pp 140 0 [some (.ref 197), some (.int (nI w)), none] [] 0 0 g = Lm sc pp 140 39 [some (.ref 197), some (.int (nI w)), some (.int (nI (f + n)))] [] 0 0 x := by
    rw [Nat.add_zero] at e
    rw [L_140_0]
    simp (disch := first | assumption | omega | exact Nat.le_of_ble_eq_true rfl | exact D_k197 (by assumption) | (simp (disch := assumption) only [kdI, kdJ, kdR, D_k197]; done) | (simp only [kdI, kdJ, kdR, *]; done) | fail) only [x_nil, Nat.reduceAdd, x_aload_n0, x_iconst_0, x_putZ, x_getR, x_iload_n1, x_iald, x_istore_n2, x_iload_n2, x_icmp_ge, K_139, bindR_some, toL_s, toL_n, ap_n, ap_c, List.map_nil, List.map_cons, List.sum_nil, List.sum_cons, cat_i, cat_r, cat_l, Nat.reduceLeDiff, Nat.zero_le, Nat.le_refl, x_last, x_iinc2, x_goto, x_getZ, x_if_eq, x_lconst_0, x_iconst_1, x_isub, x_lald, x_lreturn, L_140_22, L_140_32, ofInt1, ofIntm1, kdI, hNI, hRI, hJI, kdJ, hNJ, hIJ, hRJ, kdR, hNR, hIR, hJR, hII, hJJ, hRR, n_clamp, z_lt, z_ge, z_eq, z_le, z_gt, o_eq, o_lt, o_gt, o_le, o_ge, m_eq, n_eq, n_le, n_lt, n_sub1, nI_1, ol_add, nI_add, z_cl, o_cl, z_pos, o_pos, o_z, z_o, m_z, N_le, N_lt, ne_eq, not_true_eq_false, not_false_eq_true, if_true, if_false, and_self, or_self, true_or, or_true, and_true, true_and, and_false, false_and, or_false, false_or, Nat.reduceEqDiff, Nat.le_refl, D_k197, D_k198, D_n198, D_r0, D_k199, D_n199, D_r3, D_k200, D_n200, D_r22, D_k201, D_n201, D_r23, D_k202, D_n202, D_r24, D_k203, D_n203, D_r25, D_k204, D_n204, D_r26, D_k205, D_n205, D_r27, D_k206, D_n206, D_r28, D_k207, D_n207, D_r29, D_k208, D_n208, D_r30, D_k209, D_n209, D_r31, D_k210, D_n210, D_r32, D_k211, D_n211, D_r33, D_k212, D_n212, D_r34, D_k213, D_n213, D_r35, D_k214, D_n214, D_r36, D_k215, D_n215, D_r37, D_k216, D_n216, D_r38, D_k217, D_n217, D_r39, D_k218, D_n218, D_r40, D_k219, D_n219, D_r41, D_k220, D_n220, D_r42, D_k221, D_n221, D_r43, D_k222, D_n222, D_r44, D_k223, D_n223, D_r45, D_k224, D_n224, D_r52, D_k225, D_n225, D_r53, D_k226, D_n226, D_r55, D_k227, D_n227, D_r56, D_k228, D_n228, D_r57, D_k229, D_n229, D_r58, D_k230, D_n230, D_r59, D_k231, D_n231, D_r68, D_k232, D_n232, D_r69, D_k233, D_n233, D_r70, D_k234, D_n234, D_r73, D_k235, D_n235, D_r74, D_k236, D_n236, D_r76, D_k237, D_n237, D_r77, D_k238, D_n238, D_r79, hf]
    refine e.trans ?_
    rw [L_140_12]
    simp (disch := first | assumption | omega | exact Nat.le_of_ble_eq_true rfl | exact D_k197 (by assumption) | (simp (disch := assumption) only [kdI, kdJ, kdR, D_k197]; done) | (simp only [kdI, kdJ, kdR, *]; done) | fail) only [x_nil, Nat.reduceAdd, x_aload_n0, x_iconst_0, x_putZ, x_getR, x_iload_n1, x_iald, x_istore_n2, x_iload_n2, x_icmp_ge, K_139, bindR_some, toL_s, toL_n, ap_n, ap_c, List.map_nil, List.map_cons, List.sum_nil, List.sum_cons, cat_i, cat_r, cat_l, Nat.reduceLeDiff, Nat.zero_le, Nat.le_refl, x_last, x_iinc2, x_goto, x_getZ, x_if_eq, x_lconst_0, x_iconst_1, x_isub, x_lald, x_lreturn, L_140_22, L_140_32, ofInt1, ofIntm1, kdI, hNI, hRI, hJI, kdJ, hNJ, hIJ, hRJ, kdR, hNR, hIR, hJR, hII, hJJ, hRR, n_clamp, z_lt, z_ge, z_eq, z_le, z_gt, o_eq, o_lt, o_gt, o_le, o_ge, m_eq, n_eq, n_le, n_lt, n_sub1, nI_1, ol_add, nI_add, z_cl, o_cl, z_pos, o_pos, o_z, z_o, m_z, N_le, N_lt, ne_eq, not_true_eq_false, not_false_eq_true, if_true, if_false, and_self, or_self, true_or, or_true, and_true, true_and, and_false, false_and, or_false, false_or, Nat.reduceEqDiff, Nat.le_refl, D_k197, D_k198, D_n198, D_r0, D_k199, D_n199, D_r3, D_k200, D_n200, D_r22, D_k201, D_n201, D_r23, D_k202, D_n202, D_r24, D_k203, D_n203, D_r25, D_k204, D_n204, D_r26, D_k205, D_n205, D_r27, D_k206, D_n206, D_r28, D_k207, D_n207, D_r29, D_k208, D_n208, D_r30, D_k209, D_n209, D_r31, D_k210, D_n210, D_r32, D_k211, D_n211, D_r33, D_k212, D_n212, D_r34, D_k213, D_n213, D_r35, D_k214, D_n214, D_r36, D_k215, D_n215, D_r37, D_k216, D_n216, D_r38, D_k217, D_n217, D_r39, D_k218, D_n218, D_r40, D_k219, D_n219, D_r41, D_k220, D_n220, D_r42, D_k221, D_n221, D_r43, D_k222, D_n222, D_r44, D_k223, D_n223, D_r45, D_k224, D_n224, D_r52, D_k225, D_n225, D_r53, D_k226, D_n226, D_r55, D_k227, D_n227, D_r56, D_k228, D_n228, D_r57, D_k229, D_n229, D_r58, D_k230, D_n230, D_r59, D_k231, D_n231, D_r68, D_k232, D_n232, D_r69, D_k233, D_n233, D_r70, D_k234, D_n234, D_r73, D_k235, D_n235, D_r74, D_k236, D_n236, D_r76, D_k237, D_n237, D_r77, D_k238, D_n238, D_r79, l2, Nat.le_refl]
  unfold lawI at LI
  cases hr : lwRun cd nums nm n 0 [] with
  | none =>
    rw [hr] at LI
    refine ⟨x, 0, ?_, F, Or.inl ⟨rfl, LI⟩⟩
    rw [st, L_140_39]
    simp (disch := first | assumption | omega | exact Nat.le_of_ble_eq_true rfl | exact D_k197 (by assumption) | (simp (disch := assumption) only [kdI, kdJ, kdR, D_k197]; done) | (simp only [kdI, kdJ, kdR, *]; done) | fail) only [x_nil, Nat.reduceAdd, x_aload_n0, x_iconst_0, x_putZ, x_getR, x_iload_n1, x_iald, x_istore_n2, x_iload_n2, x_icmp_ge, K_139, bindR_some, toL_s, toL_n, ap_n, ap_c, List.map_nil, List.map_cons, List.sum_nil, List.sum_cons, cat_i, cat_r, cat_l, Nat.reduceLeDiff, Nat.zero_le, Nat.le_refl, x_last, x_iinc2, x_goto, x_getZ, x_if_eq, x_lconst_0, x_iconst_1, x_isub, x_lald, x_lreturn, L_140_22, L_140_32, L_140_46, L_140_50, L_140_63, ofInt1, ofIntm1, kdI, hNI, hRI, hJI, kdJ, hNJ, hIJ, hRJ, kdR, hNR, hIR, hJR, hII, hJJ, hRR, n_clamp, z_lt, z_ge, z_eq, z_le, z_gt, o_eq, o_lt, o_gt, o_le, o_ge, m_eq, n_eq, n_le, n_lt, n_sub1, nI_1, ol_add, nI_add, z_cl, o_cl, z_pos, o_pos, o_z, z_o, m_z, N_le, N_lt, ne_eq, not_true_eq_false, not_false_eq_true, if_true, if_false, and_self, or_self, true_or, or_true, and_true, true_and, and_false, false_and, or_false, false_or, Nat.reduceEqDiff, Nat.le_refl, D_k197, D_k198, D_n198, D_r0, D_k199, D_n199, D_r3, D_k200, D_n200, D_r22, D_k201, D_n201, D_r23, D_k202, D_n202, D_r24, D_k203, D_n203, D_r25, D_k204, D_n204, D_r26, D_k205, D_n205, D_r27, D_k206, D_n206, D_r28, D_k207, D_n207, D_r29, D_k208, D_n208, D_r30, D_k209, D_n209, D_r31, D_k210, D_n210, D_r32, D_k211, D_n211, D_r33, D_k212, D_n212, D_r34, D_k213, D_n213, D_r35, D_k214, D_n214, D_r36, D_k215, D_n215, D_r37, D_k216, D_n216, D_r38, D_k217, D_n217, D_r39, D_k218, D_n218, D_r40, D_k219, D_n219, D_r41, D_k220, D_n220, D_r42, D_k221, D_n221, D_r43, D_k222, D_n222, D_r44, D_k223, D_n223, D_r45, D_k224, D_n224, D_r52, D_k225, D_n225, D_r53, D_k226, D_n226, D_r55, D_k227, D_n227, D_r56, D_k228, D_n228, D_r57, D_k229, D_n229, D_r58, D_k230, D_n230, D_r59, D_k231, D_n231, D_r68, D_k232, D_n232, D_r69, D_k233, D_n233, D_r70, D_k234, D_n234, D_r73, D_k235, D_n235, D_r74, D_k236, D_n236, D_r76, D_k237, D_n237, D_r77, D_k238, D_n238, D_r79, LI]
  | some s =>
    rw [hr, hx] at LI
    obtain ⟨z, s1, s2⟩ := LI
    subst s1
    have lv := s2 (hJ x 225 (f + (n - 1))) (by simp)
    have nm1 : ¬ hJ x 225 (f + (n - 1)) = -9223372036854775808 := by
      intro q
      rw [q] at lv
      exact absurd lv.1 (by decide)
    refine ⟨x, hJ x 225 (f + (n - 1)), ?_, F, Or.inr ⟨nm1, z, rfl⟩⟩
    rw [st, L_140_39]
    simp (disch := first | assumption | omega | exact Nat.le_of_ble_eq_true rfl | exact D_k197 (by assumption) | (simp (disch := assumption) only [kdI, kdJ, kdR, D_k197]; done) | (simp only [kdI, kdJ, kdR, *]; done) | fail) only [x_nil, Nat.reduceAdd, x_aload_n0, x_iconst_0, x_putZ, x_getR, x_iload_n1, x_iald, x_istore_n2, x_iload_n2, x_icmp_ge, K_139, bindR_some, toL_s, toL_n, ap_n, ap_c, List.map_nil, List.map_cons, List.sum_nil, List.sum_cons, cat_i, cat_r, cat_l, Nat.reduceLeDiff, Nat.zero_le, Nat.le_refl, x_last, x_iinc2, x_goto, x_getZ, x_if_eq, x_lconst_0, x_iconst_1, x_isub, x_lald, x_lreturn, L_140_22, L_140_32, L_140_46, L_140_50, L_140_63, ofInt1, ofIntm1, kdI, hNI, hRI, hJI, kdJ, hNJ, hIJ, hRJ, kdR, hNR, hIR, hJR, hII, hJJ, hRR, n_clamp, z_lt, z_ge, z_eq, z_le, z_gt, o_eq, o_lt, o_gt, o_le, o_ge, m_eq, n_eq, n_le, n_lt, n_sub1, nI_1, ol_add, nI_add, z_cl, o_cl, z_pos, o_pos, o_z, z_o, m_z, N_le, N_lt, ne_eq, not_true_eq_false, not_false_eq_true, if_true, if_false, and_self, or_self, true_or, or_true, and_true, true_and, and_false, false_and, or_false, false_or, Nat.reduceEqDiff, Nat.le_refl, D_k197, D_k198, D_n198, D_r0, D_k199, D_n199, D_r3, D_k200, D_n200, D_r22, D_k201, D_n201, D_r23, D_k202, D_n202, D_r24, D_k203, D_n203, D_r25, D_k204, D_n204, D_r26, D_k205, D_n205, D_r27, D_k206, D_n206, D_r28, D_k207, D_n207, D_r29, D_k208, D_n208, D_r30, D_k209, D_n209, D_r31, D_k210, D_n210, D_r32, D_k211, D_n211, D_r33, D_k212, D_n212, D_r34, D_k213, D_n213, D_r35, D_k214, D_n214, D_r36, D_k215, D_n215, D_r37, D_k216, D_n216, D_r38, D_k217, D_n217, D_r39, D_k218, D_n218, D_r40, D_k219, D_n219, D_r41, D_k220, D_n220, D_r42, D_k221, D_n221, D_r43, D_k222, D_n222, D_r44, D_k223, D_n223, D_r45, D_k224, D_n224, D_r52, D_k225, D_n225, D_r53, D_k226, D_n226, D_r55, D_k227, D_n227, D_r56, D_k228, D_n228, D_r57, D_k229, D_n229, D_r58, D_k230, D_n230, D_r59, D_k231, D_n231, D_r68, D_k232, D_n232, D_r69, D_k233, D_n233, D_r70, D_k234, D_n234, D_r73, D_k235, D_n235, D_r74, D_k236, D_n236, D_r76, D_k237, D_n237, D_r77, D_k238, D_n238, D_r79, z, l2]
    rw [show f + n - 1 = f + (n - 1) by omega]
theorem d_witOf (p : Nat) (g : Hp) (hD : isD g) (hp : p < 10) : Lm sc pp 133 0 [some (.ref 197), some (.int (nI p))] [] 0 0 g = some (g, some (.int (if hI g 197 65 = 0 then hI g 205 p else 9))) := by
  by_cases a : hI g 197 65 = 0
  · rw [if_pos a]; simp (disch := first | assumption | omega | exact Nat.le_of_ble_eq_true rfl | exact D_k197 (by assumption) | (simp (disch := assumption) only [kdI, kdJ, kdR, D_k197]; done) | (simp only [kdI, kdJ, kdR, *]; done) | fail) only [x_nil, Nat.reduceAdd, x_aload_n0, x_getZ, x_if_eq, x_bipush_9, x_goto, x_getR, x_iload_n1, x_iald, x_ireturn, L_133_0, L_133_7, L_133_12, L_133_18, ofInt1, ofIntm1, kdI, hNI, hRI, hJI, kdJ, hNJ, hIJ, hRJ, kdR, hNR, hIR, hJR, hII, hJJ, hRR, n_clamp, z_lt, z_ge, z_eq, z_le, z_gt, o_eq, o_lt, o_gt, o_le, o_ge, m_eq, n_eq, n_le, n_lt, n_sub1, nI_1, ol_add, nI_add, z_cl, o_cl, z_pos, o_pos, o_z, z_o, m_z, N_le, N_lt, q9_le, q9_lt, q9_ge, q9_gt, q9_eq, q9_mul, q9_add, q9_adl, q9_cl, q9_pos, q9_ti, q9_tj, ne_eq, not_true_eq_false, not_false_eq_true, if_true, if_false, and_self, or_self, true_or, or_true, and_true, true_and, and_false, false_and, or_false, false_or, Nat.reduceEqDiff, Nat.le_refl, D_k197, D_k198, D_n198, D_r0, D_k199, D_n199, D_r3, D_k200, D_n200, D_r22, D_k201, D_n201, D_r23, D_k202, D_n202, D_r24, D_k203, D_n203, D_r25, D_k204, D_n204, D_r26, D_k205, D_n205, D_r27, D_k206, D_n206, D_r28, D_k207, D_n207, D_r29, D_k208, D_n208, D_r30, D_k209, D_n209, D_r31, D_k210, D_n210, D_r32, D_k211, D_n211, D_r33, D_k212, D_n212, D_r34, D_k213, D_n213, D_r35, D_k214, D_n214, D_r36, D_k215, D_n215, D_r37, D_k216, D_n216, D_r38, D_k217, D_n217, D_r39, D_k218, D_n218, D_r40, D_k219, D_n219, D_r41, D_k220, D_n220, D_r42, D_k221, D_n221, D_r43, D_k222, D_n222, D_r44, D_k223, D_n223, D_r45, D_k224, D_n224, D_r52, D_k225, D_n225, D_r53, D_k226, D_n226, D_r55, D_k227, D_n227, D_r56, D_k228, D_n228, D_r57, D_k229, D_n229, D_r58, D_k230, D_n230, D_r59, D_k231, D_n231, D_r68, D_k232, D_n232, D_r69, D_k233, D_n233, D_r70, D_k234, D_n234, D_r73, D_k235, D_n235, D_r74, D_k236, D_n236, D_r76, D_k237, D_n237, D_r77, D_k238, D_n238, D_r79, a]
  · rw [if_neg a]; simp (disch := first | assumption | omega | exact Nat.le_of_ble_eq_true rfl | exact D_k197 (by assumption) | (simp (disch := assumption) only [kdI, kdJ, kdR, D_k197]; done) | (simp only [kdI, kdJ, kdR, *]; done) | fail) only [x_nil, Nat.reduceAdd, x_aload_n0, x_getZ, x_if_eq, x_bipush_9, x_goto, x_getR, x_iload_n1, x_iald, x_ireturn, L_133_0, L_133_7, L_133_12, L_133_18, ofInt1, ofIntm1, kdI, hNI, hRI, hJI, kdJ, hNJ, hIJ, hRJ, kdR, hNR, hIR, hJR, hII, hJJ, hRR, n_clamp, z_lt, z_ge, z_eq, z_le, z_gt, o_eq, o_lt, o_gt, o_le, o_ge, m_eq, n_eq, n_le, n_lt, n_sub1, nI_1, ol_add, nI_add, z_cl, o_cl, z_pos, o_pos, o_z, z_o, m_z, N_le, N_lt, q9_le, q9_lt, q9_ge, q9_gt, q9_eq, q9_mul, q9_add, q9_adl, q9_cl, q9_pos, q9_ti, q9_tj, ne_eq, not_true_eq_false, not_false_eq_true, if_true, if_false, and_self, or_self, true_or, or_true, and_true, true_and, and_false, false_and, or_false, false_or, Nat.reduceEqDiff, Nat.le_refl, D_k197, D_k198, D_n198, D_r0, D_k199, D_n199, D_r3, D_k200, D_n200, D_r22, D_k201, D_n201, D_r23, D_k202, D_n202, D_r24, D_k203, D_n203, D_r25, D_k204, D_n204, D_r26, D_k205, D_n205, D_r27, D_k206, D_n206, D_r28, D_k207, D_n207, D_r29, D_k208, D_n208, D_r30, D_k209, D_n209, D_r31, D_k210, D_n210, D_r32, D_k211, D_n211, D_r33, D_k212, D_n212, D_r34, D_k213, D_n213, D_r35, D_k214, D_n214, D_r36, D_k215, D_n215, D_r37, D_k216, D_n216, D_r38, D_k217, D_n217, D_r39, D_k218, D_n218, D_r40, D_k219, D_n219, D_r41, D_k220, D_n220, D_r42, D_k221, D_n221, D_r43, D_k222, D_n222, D_r44, D_k223, D_n223, D_r45, D_k224, D_n224, D_r52, D_k225, D_n225, D_r53, D_k226, D_n226, D_r55, D_k227, D_n227, D_r56, D_k228, D_n228, D_r57, D_k229, D_n229, D_r58, D_k230, D_n230, D_r59, D_k231, D_n231, D_r68, D_k232, D_n232, D_r69, D_k233, D_n233, D_r70, D_k234, D_n234, D_r73, D_k235, D_n235, D_r74, D_k236, D_n236, D_r76, D_k237, D_n237, D_r77, D_k238, D_n238, D_r79, a]
theorem d_layNames (b p q : Nat) (g : Hp) (hD : isD g) (hb : b < 2) (hp : p < 5) (hq : q < 8) : ∃ g', Lm sc pp 135 0 [some (.ref 197), some (.int (nI b)), some (.int (nI p)), some (.int (nI q))] [] 0 0 g = some (g', none) ∧ FrP g g' (fun _ _ => False) qN ∧ hJ g' 224 0 = (hI g 204 p).toInt64 ∧ hJ g' 224 1 = (if hI g 197 65 = 0 then hI g 205 p else 9).toInt64 ∧ hJ g' 224 2 = (hI g 227 (5 * b + p)).toInt64 ∧ hJ g' 224 3 = (many8 (hI g 226 (5 * b + p))).toInt64 ∧ hJ g' 224 4 = (hI g 228 (5 * b + p)).toInt64 ∧ hJ g' 224 5 = (hI g 209 q).toInt64 ∧ hJ g' 224 6 = (hI g 230 b).toInt64 := by
  have ew : ∀ g2, isD g2 → Lm sc pp 133 0 [some (.ref 197), some (.int (nI p))] [] 0 0 g2 = some (g2, some (.int (if hI g2 197 65 = 0 then hI g2 205 p else 9))) := fun g2 h2 => d_witOf p g2 h2 (by omega)
  have em : ∀ x g2, Lm sc pp 134 0 [some (.int x), none, none] [] 0 0 g2 = some (g2, some (.int (many8 x))) := fun x g2 => d_manyOf x g2
  refine ⟨sJ (sJ (sJ (sJ (sJ (sJ (sJ g 224 0 (hI g 204 p).toInt64) 224 1 (if hI g 197 65 = 0 then hI g 205 p else 9).toInt64) 224 2 (hI g 227 (5 * b + p)).toInt64) 224 3 (many8 (hI g 226 (5 * b + p))).toInt64) 224 4 (hI g 228 (5 * b + p)).toInt64) 224 5 (hI g 209 q).toInt64) 224 6 (hI g 230 b).toInt64, ?_, ?_, ?_⟩
  · have w1 := ew (sJ g 224 0 (hI g 204 p).toInt64) hD
    rw [hI_sJ] at w1
    simp (disch := first | assumption | omega | exact Nat.le_of_ble_eq_true rfl | exact D_k197 (by assumption) | (simp (disch := assumption) only [kdI, kdJ, kdR, D_k197]; done) | (simp only [kdI, kdJ, kdR, *]; done) | fail) only [x_nil, Nat.reduceAdd, x_aload_n0, x_getR, x_iconst_0, x_iload_n2, x_iald, x_i2l, x_last, x_iconst_1, K_133, bindR_some, toL_s, toL_n, ap_n, ap_c, List.map_nil, List.map_cons, List.sum_nil, List.sum_cons, cat_i, cat_r, cat_l, Nat.reduceLeDiff, Nat.zero_le, Nat.le_refl, x_iconst_2, x_iconst_5, x_iload_n1, x_imul, x_iadd, x_iconst_3, K_134, x_iconst_4, x_iload_n3, x_bipush_6, x_return, L_135_0, L_135_23, L_135_60, ofInt1, ofIntm1, kdI, hNI, hRI, hJI, kdJ, hNJ, hIJ, hRJ, kdR, hNR, hIR, hJR, hII, hJJ, hRR, n_clamp, z_lt, z_ge, z_eq, z_le, z_gt, o_eq, o_lt, o_gt, o_le, o_ge, m_eq, n_eq, n_le, n_lt, n_sub1, nI_1, ol_add, nI_add, z_cl, o_cl, z_pos, o_pos, o_z, z_o, m_z, N_le, N_lt, q2_le, q2_lt, q2_ge, q2_gt, q2_eq, q2_mul, q2_add, q2_adl, q2_cl, q2_pos, q2_ti, q2_tj, q3_le, q3_lt, q3_ge, q3_gt, q3_eq, q3_mul, q3_add, q3_adl, q3_cl, q3_pos, q3_ti, q3_tj, q4_le, q4_lt, q4_ge, q4_gt, q4_eq, q4_mul, q4_add, q4_adl, q4_cl, q4_pos, q4_ti, q4_tj, q5_le, q5_lt, q5_ge, q5_gt, q5_eq, q5_mul, q5_add, q5_adl, q5_cl, q5_pos, q5_ti, q5_tj, q6_le, q6_lt, q6_ge, q6_gt, q6_eq, q6_mul, q6_add, q6_adl, q6_cl, q6_pos, q6_ti, q6_tj, ne_eq, not_true_eq_false, not_false_eq_true, if_true, if_false, and_self, or_self, true_or, or_true, and_true, true_and, and_false, false_and, or_false, false_or, Nat.reduceEqDiff, Nat.le_refl, D_k197, D_k198, D_n198, D_r0, D_k199, D_n199, D_r3, D_k200, D_n200, D_r22, D_k201, D_n201, D_r23, D_k202, D_n202, D_r24, D_k203, D_n203, D_r25, D_k204, D_n204, D_r26, D_k205, D_n205, D_r27, D_k206, D_n206, D_r28, D_k207, D_n207, D_r29, D_k208, D_n208, D_r30, D_k209, D_n209, D_r31, D_k210, D_n210, D_r32, D_k211, D_n211, D_r33, D_k212, D_n212, D_r34, D_k213, D_n213, D_r35, D_k214, D_n214, D_r36, D_k215, D_n215, D_r37, D_k216, D_n216, D_r38, D_k217, D_n217, D_r39, D_k218, D_n218, D_r40, D_k219, D_n219, D_r41, D_k220, D_n220, D_r42, D_k221, D_n221, D_r43, D_k222, D_n222, D_r44, D_k223, D_n223, D_r45, D_k224, D_n224, D_r52, D_k225, D_n225, D_r53, D_k226, D_n226, D_r55, D_k227, D_n227, D_r56, D_k228, D_n228, D_r57, D_k229, D_n229, D_r58, D_k230, D_n230, D_r59, D_k231, D_n231, D_r68, D_k232, D_n232, D_r69, D_k233, D_n233, D_r70, D_k234, D_n234, D_r73, D_k235, D_n235, D_r74, D_k236, D_n236, D_r76, D_k237, D_n237, D_r77, D_k238, D_n238, D_r79, w1, em]
  · have q0 : qN 224 0 := Or.inl rfl
    exact ((((((FrP_sJ (Or.inl rfl)).trans (FrP_sJ (Or.inl rfl))).trans (FrP_sJ (Or.inl rfl))).trans (FrP_sJ (Or.inl rfl))).trans (FrP_sJ (Or.inl rfl))).trans (FrP_sJ (Or.inl rfl))).trans (FrP_sJ (Or.inl rfl))
  · simp only [hJJ, Nat.reduceEqDiff, and_false, and_true, and_self, if_true, if_false, true_and]
end T34
