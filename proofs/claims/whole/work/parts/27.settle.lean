-- all go on asking; the talk
def allowA (fl : Nat → Int32) (co st : Mx) (one other q : Nat) : Prop := allowP (st 2) (st 1) (fl 4) (fl 5) (supA co q) one other q
noncomputable def askS (fl : Nat → Int32) (co : Mx) (a b q : Nat) (st : Mx) : Mx := @ite _ (a ≠ b ∧ allowA fl co st a b q) (Classical.propDecidable _) (poseA fl co st a b q) st
noncomputable def round1 (fl : Nat → Int32) (co : Mx) (a b : Nat) (st : Mx) : Mx := iterN (fun q => askS fl co a b q) (nqO co) st
noncomputable def round2 (fl : Nat → Int32) (co : Mx) (a : Nat) (st : Mx) : Mx := iterN (fun b => round1 fl co a b) (npO co) st
noncomputable def roundA (fl : Nat → Int32) (co st : Mx) : Mx := iterN (fun a => round2 fl co a) (npO co) st
def knA (n : Nat) (st : Mx) : Int32 := sumN (fun p => bcE (st 1 p)) n
noncomputable def settleN (fl : Nat → Int32) (co : Mx) : Nat → Mx → Mx
  | 0, st => st
  | n + 1, st => @ite _ (knA (npO co) (roundA fl co st) = knA (npO co) st) (Classical.propDecidable _) (roundA fl co st) (settleN fl co n (roundA fl co st))
theorem sumN_congr {f g : Nat → Int32} : ∀ {n : Nat}, (∀ p, p < n → f p = g p) → sumN f n = sumN g n := by
  intro n
  induction n with
  | zero => intro _; rfl
  | succ n ih => intro h; simp only [sumN]; rw [ih (fun p hp => h p (by omega)), h n (by omega)]
theorem orN_congr {f g : Nat → Int32} : ∀ {n : Nat}, (∀ p, p < n → f p = g p) → orN f n = orN g n := by
  intro n
  induction n with
  | zero => intro _; rfl
  | succ n ih => intro h; simp only [orN]; rw [ih (fun p hp => h p (by omega)), h n (by omega)]
theorem iterN_ind {α : Type} {f : Nat → α → α} (P : α → Prop) : ∀ (n : Nat) (a : α), P a → (∀ k a, k < n → P a → P (f k a)) → P (iterN f n a) := by
  intro n
  induction n with
  | zero => intro a h _; exact h
  | succ n ih => intro a h s; exact s n _ (by omega) (ih a h (fun k a hk => s k a (by omega)))
theorem hearS_07 {fl : Nat → Int32} {co st : Mx} {one q p : Nat} {room sup : Int32} : hearS fl co one q room sup p st 0 7 = st 0 7 := by
  unfold hearS; split
  · rfl
  · rfl
theorem factS_07 {fl : Nat → Int32} {st : Mx} {p : Nat} {room bits : Int32} : factS fl room bits p st 0 7 = st 0 7 := by
  unfold factS; split
  · rfl
  · rfl
theorem poseA_07 {fl : Nat → Int32} {co st : Mx} {one other q : Nat} : poseA fl co st one other q 0 7 = st 0 7 := by
  have e2 : pose2 fl co st one q 0 7 = st 0 7 := by
    unfold pose2
    exact iterN_ind (fun (x : Mx) => x 0 7 = st 0 7) _ _ (by rfl) (fun k a _ ha => by rw [hearS_07]; exact ha)
  have e3 : pose3 fl co (pose2 fl co st one q) other q 0 7 = st 0 7 := by
    unfold pose3; split
    · exact e2
    · exact e2
  unfold poseA; split
  · show pose4 fl co (pose3 fl co (pose2 fl co st one q) other q) (st 2 one) q 0 7 = st 0 7
    unfold pose4
    exact iterN_ind (fun (x : Mx) => x 0 7 = st 0 7) _ _ e3 (fun k a _ ha => by rw [factS_07]; exact ha)
  · exact e3
theorem askS_07 {fl : Nat → Int32} {co st : Mx} {a b q : Nat} : askS fl co a b q st 0 7 = st 0 7 := by
  unfold askS; split
  · exact poseA_07
  · rfl
theorem round1_07 {fl : Nat → Int32} {co st : Mx} {a b : Nat} : round1 fl co a b st 0 7 = st 0 7 := iterN_ind (fun (x : Mx) => x 0 7 = st 0 7) _ _ rfl (fun k x _ hx => by rw [askS_07]; exact hx)
theorem round2_07 {fl : Nat → Int32} {co st : Mx} {a : Nat} : round2 fl co a st 0 7 = st 0 7 := iterN_ind (fun (x : Mx) => x 0 7 = st 0 7) _ _ rfl (fun k x _ hx => by rw [round1_07]; exact hx)
theorem roundA_07 {fl : Nat → Int32} {co st : Mx} : roundA fl co st 0 7 = st 0 7 := iterN_ind (fun (x : Mx) => x 0 7 = st 0 7) _ _ rfl (fun k x _ hx => by rw [round2_07]; exact hx)
theorem settleN_07 {fl : Nat → Int32} {co : Mx} : ∀ {n : Nat} {st : Mx}, settleN fl co n st 0 7 = st 0 7 := by
  intro n
  induction n with
  | zero => intro st; rfl
  | succ n ih => intro st; unfold settleN; split
                 · exact roundA_07
                 · rw [ih]; exact roundA_07
def fU (u s : Nat) : List Nat := [u + 1, u + 2, s, s + 1, s + 3, s + 4]
section T27
variable {sc : Nat × (Nat → Int32)} {pp : Nat → Nat → Int32 → Int32 → Hp → Option (Hp × Int32)}
theorem r_allows (u c s one other q : Nat) (fl : Nat → Int32) (co st : Mx) (h : Hp) (hU : repU h u c fl) (hC : repC h c co) (hS : repS h s st) (h1 : one < 5) (h2 : other < 5) (hq : q < 8) : Lm sc pp 120 0 [some (.ref u), some (.ref s), some (.int (nI one)), some (.int (nI other)), some (.int (nI q))] [] 0 0 h = some (h, some (.int (b32 (allowA fl co st one other q)))) := by
  rw [c_allows u c s one other q h hU.1 hU.2.1 hC.1 hS.1 h1 h2 hq, hC.2 11 (by omega), hC.2 12 (by omega), hC.2 13 (by omega), hU.e4, hU.e5]
  have e : allowP (hI h (s + 2)) (hI h (s + 1)) (fl 4) (fl 5) (supF (co 11 q) (co 12 q) (co 13 q)) one other q = allowA fl co st one other q := by
    unfold allowA allowP
    rw [hS.2.1 one h1, hS.2.2.1 one h1, hS.2.2.1 other h2]
    rfl
  rw [e]
  rfl
theorem r_allowsToday (u c s one other q : Nat) (fl : Nat → Int32) (co st : Mx) (h : Hp) (hU : repU h u c fl) (hC : repC h c co) (hS : repS h s st) (h1 : one < 5) (h2 : other < 5) (hq : q < 8) : Lm sc pp 121 0 [some (.ref u), some (.ref s), some (.int (nI one)), some (.int (nI other)), some (.int (nI q))] [] 0 0 h = some (h, some (.int (b32 (st 4 one < co 0 17 ∧ allowA fl co st one other q)))) := by
  have c0 := hC.2 0 (by omega)
  simp only [Nat.add_zero] at c0
  rw [c_allowsToday u c s one other q h hU.1 hU.2.1 hC.1 hS.1 h1 h2 hq, hC.2 11 (by omega), hC.2 12 (by omega), hC.2 13 (by omega), hU.e4, hU.e5, hS.2.2.2.2.1 one h1, c0]
  have e : allowP (hI h (s + 2)) (hI h (s + 1)) (fl 4) (fl 5) (supF (co 11 q) (co 12 q) (co 13 q)) one other q = allowA fl co st one other q := by
    unfold allowA allowP
    rw [hS.2.1 one h1, hS.2.2.1 one h1, hS.2.2.1 other h2]
    rfl
  rw [e]
  rfl
theorem r_knownInSum (s n : Nat) (st : Mx) (h : Hp) (hS : repS h s st) (hn : st 0 7 = nI n) (h5 : n ≤ 5) : Lm sc pp 168 0 [some (.ref s), none, none] [] 0 0 h = some (h, some (.int (knA n st))) := by
  rw [c_knownInSum s n h hS.1 (by rw [hS.2.2.2.2.2.2.2.2]; exact hn) h5]
  unfold knA
  rw [sumN_congr (fun p hp => by rw [hS.2.1 p (by omega)])]
theorem r_settle6 (u c s a b q : Nat) (rd bf : Int32) (fl : Nat → Int32) (co st : Mx) (h : Hp) (hU : repU h u c fl) (hC : repC h c co) (hS : repS h s st) (hcu : c + 24 ≤ u) (hsc : s + 5 ≤ c) (ha : a < 5) (hb : b < 5) (hq : q < nqO co) (hw : wfC co) : ∃ h', (Fr h h' (fU u s) ∧ repS h' s (askS fl co a b q st)) ∧ Lm sc pp 169 52 [some (.ref u), some (.ref s), some (.int rd), some (.int bf), some (.int (nI a)), some (.int (nI b)), some (.int (nI q))] [] 0 0 h = Lm sc pp 169 52 [some (.ref u), some (.ref s), some (.int rd), some (.int bf), some (.int (nI a)), some (.int (nI b)), some (.int (nI (q + 1)))] [] 0 0 h' := by
  have hm := hw.q.2
  have zc : ¬ nI (nqO co) ≤ nI q := nI_ge (by omega) (by omega)
  have em : hI h (c + 5) 2 = nI (nqO co) := by rw [hC.2 5 (by omega)]; exact hw.q.1
  have eo : nI a = nI b ↔ a = b := nI_eq (by omega) (by omega)
  have eal := r_allows (sc := sc) (pp := pp) u c s a b q fl co st h hU hC hS ha hb (by omega)
  rw [L_169_52]
  by_cases a1 : a = b
  · refine ⟨h, ⟨Fr.refl _ _, ?_⟩, ?_⟩
    · unfold askS; rw [if_neg (by simp [a1])]; exact hS
    · simp only [x_nil, Nat.reduceAdd, x_iconst_0, x_istore_n2, x_iload_n2, x_bipush_40, x_icmp_gt, x_aload_n1, K_168, bindR_some, toL_s, toL_n, ap_n, ap_c, List.map_nil, List.map_cons, List.sum_nil, List.sum_cons, cat_i, cat_r, cat_l, Nat.reduceLeDiff, Nat.zero_le, Nat.le_refl, x_istore_n3, x_istore4, x_iload4, x_aload_n0, x_getR, x_getI, x_icmp_ge, x_istore5, x_iload5, x_istore6, x_iload6, x_icmp_eq, K_120, x_if_eq, K_149, x_popI, x_iinc6, x_goto, x_iinc5, x_iinc4, x_iload_n3, x_icmp_ne, x_return, x_iinc2, L_169_8, L_169_12, L_169_31, L_169_49, L_169_67, L_169_74, L_169_85, L_169_88, L_169_99, L_169_100, L_169_122, L_169_126, L_169_127, L_169_133, U_k0 hU.1, hU.2.1, C_k0 hC.1, C_r0_2 hC.1, C_k5 hC.1, em, zc, eo, a1, ofInt1, nI_1, ne_eq, not_true_eq_false, not_false_eq_true, if_true, if_false, and_self, or_self, true_or, or_true, and_true, true_and, and_false, false_and, or_false, false_or, Nat.reduceEqDiff]
  · by_cases a2 : allowA fl co st a b q
    · rw [b32_t a2] at eal
      obtain ⟨h', e, f, S'⟩ := r_pose (sc := sc) (pp := pp) u c s a b q fl co st h hU hC hS hcu hsc ha hb (by omega) hw
      refine ⟨h', ⟨f, ?_⟩, ?_⟩
      · unfold askS; rw [if_pos ⟨a1, a2⟩]; exact S'
      · simp only [x_nil, Nat.reduceAdd, x_iconst_0, x_istore_n2, x_iload_n2, x_bipush_40, x_icmp_gt, x_aload_n1, K_168, bindR_some, toL_s, toL_n, ap_n, ap_c, List.map_nil, List.map_cons, List.sum_nil, List.sum_cons, cat_i, cat_r, cat_l, Nat.reduceLeDiff, Nat.zero_le, Nat.le_refl, x_istore_n3, x_istore4, x_iload4, x_aload_n0, x_getR, x_getI, x_icmp_ge, x_istore5, x_iload5, x_istore6, x_iload6, x_icmp_eq, K_120, x_if_eq, K_149, x_popI, x_iinc6, x_goto, x_iinc5, x_iinc4, x_iload_n3, x_icmp_ne, x_return, x_iinc2, L_169_8, L_169_12, L_169_31, L_169_49, L_169_67, L_169_74, L_169_85, L_169_88, L_169_99, L_169_100, L_169_122, L_169_126, L_169_127, L_169_133, U_k0 hU.1, hU.2.1, C_k0 hC.1, C_r0_2 hC.1, C_k5 hC.1, em, zc, eo, a1, eal, e, ofInt1, nI_1, show ¬ (1 : Int32) = 0 from by decide, ne_eq, not_true_eq_false, not_false_eq_true, if_true, if_false, and_self, or_self, true_or, or_true, and_true, true_and, and_false, false_and, or_false, false_or, Nat.reduceEqDiff]
    · rw [b32_f a2] at eal
      refine ⟨h, ⟨Fr.refl _ _, ?_⟩, ?_⟩
      · unfold askS; rw [if_neg (fun g => a2 g.2)]; exact hS
      · simp only [x_nil, Nat.reduceAdd, x_iconst_0, x_istore_n2, x_iload_n2, x_bipush_40, x_icmp_gt, x_aload_n1, K_168, bindR_some, toL_s, toL_n, ap_n, ap_c, List.map_nil, List.map_cons, List.sum_nil, List.sum_cons, cat_i, cat_r, cat_l, Nat.reduceLeDiff, Nat.zero_le, Nat.le_refl, x_istore_n3, x_istore4, x_iload4, x_aload_n0, x_getR, x_getI, x_icmp_ge, x_istore5, x_iload5, x_istore6, x_iload6, x_icmp_eq, K_120, x_if_eq, K_149, x_popI, x_iinc6, x_goto, x_iinc5, x_iinc4, x_iload_n3, x_icmp_ne, x_return, x_iinc2, L_169_8, L_169_12, L_169_31, L_169_49, L_169_67, L_169_74, L_169_85, L_169_88, L_169_99, L_169_100, L_169_122, L_169_126, L_169_127, L_169_133, U_k0 hU.1, hU.2.1, C_k0 hC.1, C_r0_2 hC.1, C_k5 hC.1, em, zc, eo, a1, eal, ofInt1, nI_1, ne_eq, not_true_eq_false, not_false_eq_true, if_true, if_false, and_self, or_self, true_or, or_true, and_true, true_and, and_false, false_and, or_false, false_or, Nat.reduceEqDiff]
theorem r_settle5 (u c s a b : Nat) (rd bf : Int32) (o6 : Option Value) (fl : Nat → Int32) (co st : Mx) (h : Hp) (hU : repU h u c fl) (hC : repC h c co) (hS : repS h s st) (hcu : c + 24 ≤ u) (hsc : s + 5 ≤ c) (ha : a < 5) (hb : b < npO co) (hw : wfC co) : ∃ h', (Fr h h' (fU u s) ∧ repS h' s (round1 fl co a b st)) ∧ Lm sc pp 169 34 [some (.ref u), some (.ref s), some (.int rd), some (.int bf), some (.int (nI a)), some (.int (nI b)), o6] [] 0 0 h = Lm sc pp 169 34 [some (.ref u), some (.ref s), some (.int rd), some (.int bf), some (.int (nI a)), some (.int (nI (b + 1))), some (.int (nI (nqO co)))] [] 0 0 h' := by
  have hm := hw.p.2
  have hmq := hw.q.2
  have zc : ¬ nI (npO co) ≤ nI b := nI_ge (by omega) (by omega)
  have em : hI h (c + 3) 2 = nI (npO co) := by rw [hC.2 3 (by omega)]; exact hw.p.1
  obtain ⟨h', ⟨F, S'⟩, e⟩ := loopUp (fun k h => Lm sc pp 169 52 [some (.ref u), some (.ref s), some (.int rd), some (.int bf), some (.int (nI a)), some (.int (nI b)), some (.int (nI k))] [] 0 0 h) (fun k h' => Fr h h' (fU u s) ∧ repS h' s (iterN (fun q => askS fl co a b q) k st)) (nqO co) (fun k x hk i => by
    obtain ⟨i1, i2⟩ := i
    obtain ⟨h', ⟨f', s'⟩, e'⟩ := r_settle6 (sc := sc) (pp := pp) u c s a b k rd bf fl co _ x (hU.move i1 (by simp [fU]; omega)) (hC.move i1 (by simp [fU]; omega)) i2 hcu hsc ha (by omega) hk hw
    exact ⟨h', ⟨i1.trans f', s'⟩, e'⟩) (nqO co) 0 h (by omega) ⟨Fr.refl _ _, hS⟩
  have U2 := hU.move F (by simp [fU]; omega)
  have C2 := hC.move F (by simp [fU]; omega)
  have em2 : hI h' (c + 5) 2 = nI (nqO co) := by rw [C2.2 5 (by omega)]; exact hw.q.1
  refine ⟨h', ⟨F, S'⟩, ?_⟩
  rw [L_169_34]
  simp only [x_nil, Nat.reduceAdd, x_iconst_0, x_istore_n2, x_iload_n2, x_bipush_40, x_icmp_gt, x_aload_n1, K_168, bindR_some, toL_s, toL_n, ap_n, ap_c, List.map_nil, List.map_cons, List.sum_nil, List.sum_cons, cat_i, cat_r, cat_l, Nat.reduceLeDiff, Nat.zero_le, Nat.le_refl, x_istore_n3, x_istore4, x_iload4, x_aload_n0, x_getR, x_getI, x_icmp_ge, x_istore5, x_iload5, x_istore6, x_iload6, x_icmp_eq, K_120, x_if_eq, K_149, x_popI, x_iinc6, x_goto, x_iinc5, x_iinc4, x_iload_n3, x_icmp_ne, x_return, x_iinc2, L_169_8, L_169_12, L_169_31, L_169_49, L_169_67, L_169_74, L_169_85, L_169_88, L_169_99, L_169_100, L_169_122, L_169_126, L_169_127, L_169_133, U_k0 hU.1, hU.2.1, C_k0 hC.1, C_r0_1 hC.1, C_k3 hC.1, em, zc, ne_eq, not_true_eq_false, not_false_eq_true, if_true, if_false, and_self, or_self, true_or, or_true, and_true, true_and, and_false, false_and, or_false, false_or, Nat.reduceEqDiff]
  simp only [nI_0] at e
  rw [e, L_169_52]
  simp only [x_nil, Nat.reduceAdd, x_iconst_0, x_istore_n2, x_iload_n2, x_bipush_40, x_icmp_gt, x_aload_n1, K_168, bindR_some, toL_s, toL_n, ap_n, ap_c, List.map_nil, List.map_cons, List.sum_nil, List.sum_cons, cat_i, cat_r, cat_l, Nat.reduceLeDiff, Nat.zero_le, Nat.le_refl, x_istore_n3, x_istore4, x_iload4, x_aload_n0, x_getR, x_getI, x_icmp_ge, x_istore5, x_iload5, x_istore6, x_iload6, x_icmp_eq, K_120, x_if_eq, K_149, x_popI, x_iinc6, x_goto, x_iinc5, x_iinc4, x_iload_n3, x_icmp_ne, x_return, x_iinc2, L_169_8, L_169_12, L_169_31, L_169_49, L_169_67, L_169_74, L_169_85, L_169_88, L_169_99, L_169_100, L_169_106, L_169_122, L_169_126, L_169_127, L_169_133, U_k0 U2.1, U2.2.1, C_k0 C2.1, C_r0_2 C2.1, C_k5 C2.1, em2, nI_self (show nqO co < 2 ^ 31 by omega), ofInt1, nI_1, ne_eq, not_true_eq_false, not_false_eq_true, if_true, if_false, and_self, or_self, true_or, or_true, and_true, true_and, and_false, false_and, or_false, false_or, Nat.reduceEqDiff]
theorem r_settle4 (u c s a : Nat) (rd bf : Int32) (o5 o6 : Option Value) (fl : Nat → Int32) (co st : Mx) (h : Hp) (hU : repU h u c fl) (hC : repC h c co) (hS : repS h s st) (hcu : c + 24 ≤ u) (hsc : s + 5 ≤ c) (ha : a < npO co) (hw : wfC co) : ∃ h', (Fr h h' (fU u s) ∧ repS h' s (round2 fl co a st)) ∧ ∃ p5 p6, Lm sc pp 169 16 [some (.ref u), some (.ref s), some (.int rd), some (.int bf), some (.int (nI a)), o5, o6] [] 0 0 h = Lm sc pp 169 16 [some (.ref u), some (.ref s), some (.int rd), some (.int bf), some (.int (nI (a + 1))), p5, p6] [] 0 0 h' := by
  have hm := hw.p.2
  have zc : ¬ nI (npO co) ≤ nI a := nI_ge (by omega) (by omega)
  have em : hI h (c + 3) 2 = nI (npO co) := by rw [hC.2 3 (by omega)]; exact hw.p.1
  obtain ⟨⟨h', p6⟩, ⟨F, S'⟩, e⟩ := loopUp (fun k (x : Hp × Option Value) => Lm sc pp 169 34 [some (.ref u), some (.ref s), some (.int rd), some (.int bf), some (.int (nI a)), some (.int (nI k)), x.2] [] 0 0 x.1) (fun k x => Fr h x.1 (fU u s) ∧ repS x.1 s (iterN (fun b => round1 fl co a b) k st)) (npO co) (fun k x hk i => by
    obtain ⟨i1, i2⟩ := i
    obtain ⟨h', ⟨f', s'⟩, e'⟩ := r_settle5 (sc := sc) (pp := pp) u c s a k rd bf x.2 fl co _ x.1 (hU.move i1 (by simp [fU]; omega)) (hC.move i1 (by simp [fU]; omega)) i2 hcu hsc (by omega) hk hw
    exact ⟨(h', _), ⟨i1.trans f', s'⟩, e'⟩) (npO co) 0 (h, o6) (by omega) ⟨Fr.refl _ _, hS⟩
  have U2 := hU.move F (by simp [fU]; omega)
  have C2 := hC.move F (by simp [fU]; omega)
  have em2 : hI h' (c + 3) 2 = nI (npO co) := by rw [C2.2 3 (by omega)]; exact hw.p.1
  refine ⟨h', ⟨F, S'⟩, some (.int (nI (npO co))), p6, ?_⟩
  rw [L_169_16]
  simp only [x_nil, Nat.reduceAdd, x_iconst_0, x_istore_n2, x_iload_n2, x_bipush_40, x_icmp_gt, x_aload_n1, K_168, bindR_some, toL_s, toL_n, ap_n, ap_c, List.map_nil, List.map_cons, List.sum_nil, List.sum_cons, cat_i, cat_r, cat_l, Nat.reduceLeDiff, Nat.zero_le, Nat.le_refl, x_istore_n3, x_istore4, x_iload4, x_aload_n0, x_getR, x_getI, x_icmp_ge, x_istore5, x_iload5, x_istore6, x_iload6, x_icmp_eq, K_120, x_if_eq, K_149, x_popI, x_iinc6, x_goto, x_iinc5, x_iinc4, x_iload_n3, x_icmp_ne, x_return, x_iinc2, L_169_8, L_169_12, L_169_31, L_169_49, L_169_67, L_169_74, L_169_85, L_169_88, L_169_99, L_169_100, L_169_122, L_169_126, L_169_127, L_169_133, U_k0 hU.1, hU.2.1, C_k0 hC.1, C_r0_1 hC.1, C_k3 hC.1, em, zc, ne_eq, not_true_eq_false, not_false_eq_true, if_true, if_false, and_self, or_self, true_or, or_true, and_true, true_and, and_false, false_and, or_false, false_or, Nat.reduceEqDiff]
  simp only [nI_0] at e
  rw [e, L_169_34]
  simp only [x_nil, Nat.reduceAdd, x_iconst_0, x_istore_n2, x_iload_n2, x_bipush_40, x_icmp_gt, x_aload_n1, K_168, bindR_some, toL_s, toL_n, ap_n, ap_c, List.map_nil, List.map_cons, List.sum_nil, List.sum_cons, cat_i, cat_r, cat_l, Nat.reduceLeDiff, Nat.zero_le, Nat.le_refl, x_istore_n3, x_istore4, x_iload4, x_aload_n0, x_getR, x_getI, x_icmp_ge, x_istore5, x_iload5, x_istore6, x_iload6, x_icmp_eq, K_120, x_if_eq, K_149, x_popI, x_iinc6, x_goto, x_iinc5, x_iinc4, x_iload_n3, x_icmp_ne, x_return, x_iinc2, L_169_8, L_169_12, L_169_31, L_169_49, L_169_67, L_169_74, L_169_85, L_169_88, L_169_99, L_169_100, L_169_106, L_169_112, L_169_122, L_169_126, L_169_127, L_169_133, U_k0 U2.1, U2.2.1, C_k0 C2.1, C_r0_1 C2.1, C_k3 C2.1, em2, nI_self (show npO co < 2 ^ 31 by omega), ofInt1, nI_1, ne_eq, not_true_eq_false, not_false_eq_true, if_true, if_false, and_self, or_self, true_or, or_true, and_true, true_and, and_false, false_and, or_false, false_or, Nat.reduceEqDiff]
theorem r_settle_loop (u c s : Nat) (fl : Nat → Int32) (co : Mx) (hcu : c + 24 ≤ u) (hsc : s + 5 ≤ c) (hw : wfC co) : ∀ (d k : Nat) (o3 o4 o5 o6 : Option Value) (st : Mx) (h : Hp), k + d = 41 → repU h u c fl → repC h c co → repS h s st → st 0 7 = nI (npO co) → ∃ h', Lm sc pp 169 2 [some (.ref u), some (.ref s), some (.int (nI k)), o3, o4, o5, o6] [] 0 0 h = some (h', none) ∧ Fr h h' (fU u s) ∧ repS h' s (settleN fl co d st) := by
  have hm := hw.p.2
  intro d
  induction d with
  | zero =>
    intro k o3 o4 o5 o6 st h hk hU hC hS h7
    have : k = 41 := by omega
    subst this
    refine ⟨h, ?_, Fr.refl _ _, hS⟩
    rw [L_169_2]
    simp only [x_nil, Nat.reduceAdd, x_iconst_0, x_istore_n2, x_iload_n2, x_bipush_40, x_icmp_gt, x_aload_n1, K_168, bindR_some, toL_s, toL_n, ap_n, ap_c, List.map_nil, List.map_cons, List.sum_nil, List.sum_cons, cat_i, cat_r, cat_l, Nat.reduceLeDiff, Nat.zero_le, Nat.le_refl, x_istore_n3, x_istore4, x_iload4, x_aload_n0, x_getR, x_getI, x_icmp_ge, x_istore5, x_iload5, x_istore6, x_iload6, x_icmp_eq, K_120, x_if_eq, K_149, x_popI, x_iinc6, x_goto, x_iinc5, x_iinc4, x_iload_n3, x_icmp_ne, x_return, x_iinc2, L_169_8, L_169_12, L_169_31, L_169_49, L_169_67, L_169_74, L_169_85, L_169_88, L_169_99, L_169_100, L_169_122, L_169_126, L_169_127, L_169_133, show (40 : Int32) < nI 41 from by decide, ne_eq, not_true_eq_false, not_false_eq_true, if_true, if_false, and_self, or_self, true_or, or_true, and_true, true_and, and_false, false_and, or_false, false_or, Nat.reduceEqDiff]
  | succ d ih =>
    intro k o3 o4 o5 o6 st h hk hU hC hS h7
    have zk : ¬ (40 : Int32) < nI k := by
      have := nI_nlt (a := 40) (b := k) (by omega) (by omega)
      exact this
    have e0 := r_knownInSum (sc := sc) (pp := pp) s (npO co) st h hS h7 hm
    obtain ⟨⟨h', p5, p6⟩, ⟨F, S'⟩, e⟩ := loopUp (fun k' (x : Hp × Option Value × Option Value) => Lm sc pp 169 16 [some (.ref u), some (.ref s), some (.int (nI k)), some (.int (knA (npO co) st)), some (.int (nI k')), x.2.1, x.2.2] [] 0 0 x.1) (fun k' x => Fr h x.1 (fU u s) ∧ repS x.1 s (iterN (fun a => round2 fl co a) k' st)) (npO co) (fun k' x hk i => by
      obtain ⟨i1, i2⟩ := i
      obtain ⟨h', ⟨f', s'⟩, p5, p6, e'⟩ := r_settle4 (sc := sc) (pp := pp) u c s k' (nI k) (knA (npO co) st) x.2.1 x.2.2 fl co _ x.1 (hU.move i1 (by simp [fU]; omega)) (hC.move i1 (by simp [fU]; omega)) i2 hcu hsc hk hw
      exact ⟨(h', p5, p6), ⟨i1.trans f', s'⟩, e'⟩) (npO co) 0 (h, o5, o6) (by omega) ⟨Fr.refl _ _, hS⟩
    have U2 := hU.move F (by simp [fU]; omega)
    have C2 := hC.move F (by simp [fU]; omega)
    have S2 : repS h' s (roundA fl co st) := S'
    have em2 : hI h' (c + 3) 2 = nI (npO co) := by rw [C2.2 3 (by omega)]; exact hw.p.1
    have h72 : roundA fl co st 0 7 = nI (npO co) := by rw [roundA_07]; exact h7
    have e2 := r_knownInSum (sc := sc) (pp := pp) s (npO co) _ h' S2 h72 hm
    have go : Lm sc pp 169 2 [some (.ref u), some (.ref s), some (.int (nI k)), o3, o4, o5, o6] [] 0 0 h = Lm sc pp 169 118 [some (.ref u), some (.ref s), some (.int (nI k)), some (.int (knA (npO co) st)), some (.int (nI (npO co))), p5, p6] [] 0 0 h' := by
      rw [L_169_2]
      simp only [x_nil, Nat.reduceAdd, x_iconst_0, x_istore_n2, x_iload_n2, x_bipush_40, x_icmp_gt, x_aload_n1, K_168, bindR_some, toL_s, toL_n, ap_n, ap_c, List.map_nil, List.map_cons, List.sum_nil, List.sum_cons, cat_i, cat_r, cat_l, Nat.reduceLeDiff, Nat.zero_le, Nat.le_refl, x_istore_n3, x_istore4, x_iload4, x_aload_n0, x_getR, x_getI, x_icmp_ge, x_istore5, x_iload5, x_istore6, x_iload6, x_icmp_eq, K_120, x_if_eq, K_149, x_popI, x_iinc6, x_goto, x_iinc5, x_iinc4, x_iload_n3, x_icmp_ne, x_return, x_iinc2, L_169_8, L_169_12, L_169_31, L_169_49, L_169_67, L_169_74, L_169_85, L_169_88, L_169_99, L_169_100, L_169_122, L_169_126, L_169_127, L_169_133, zk, S_k0 hS.1, e0, ne_eq, not_true_eq_false, not_false_eq_true, if_true, if_false, and_self, or_self, true_or, or_true, and_true, true_and, and_false, false_and, or_false, false_or, Nat.reduceEqDiff]
      simp only [nI_0] at e
      rw [e, L_169_16]
      simp only [x_nil, Nat.reduceAdd, x_iconst_0, x_istore_n2, x_iload_n2, x_bipush_40, x_icmp_gt, x_aload_n1, K_168, bindR_some, toL_s, toL_n, ap_n, ap_c, List.map_nil, List.map_cons, List.sum_nil, List.sum_cons, cat_i, cat_r, cat_l, Nat.reduceLeDiff, Nat.zero_le, Nat.le_refl, x_istore_n3, x_istore4, x_iload4, x_aload_n0, x_getR, x_getI, x_icmp_ge, x_istore5, x_iload5, x_istore6, x_iload6, x_icmp_eq, K_120, x_if_eq, K_149, x_popI, x_iinc6, x_goto, x_iinc5, x_iinc4, x_iload_n3, x_icmp_ne, x_return, x_iinc2, L_169_8, L_169_12, L_169_31, L_169_49, L_169_67, L_169_74, L_169_85, L_169_88, L_169_99, L_169_100, L_169_122, L_169_126, L_169_127, L_169_133, U_k0 U2.1, U2.2.1, C_k0 C2.1, C_r0_1 C2.1, C_k3 C2.1, em2, nI_self (show npO co < 2 ^ 31 by omega), ne_eq, not_true_eq_false, not_false_eq_true, if_true, if_false, and_self, or_self, true_or, or_true, and_true, true_and, and_false, false_and, or_false, false_or, Nat.reduceEqDiff]
    rw [go]
    unfold settleN
    by_cases a1 : knA (npO co) (roundA fl co st) = knA (npO co) st
    · refine ⟨h', ?_, F, ?_⟩
      · rw [L_169_118]
        simp only [x_nil, Nat.reduceAdd, x_iconst_0, x_istore_n2, x_iload_n2, x_bipush_40, x_icmp_gt, x_aload_n1, K_168, bindR_some, toL_s, toL_n, ap_n, ap_c, List.map_nil, List.map_cons, List.sum_nil, List.sum_cons, cat_i, cat_r, cat_l, Nat.reduceLeDiff, Nat.zero_le, Nat.le_refl, x_istore_n3, x_istore4, x_iload4, x_aload_n0, x_getR, x_getI, x_icmp_ge, x_istore5, x_iload5, x_istore6, x_iload6, x_icmp_eq, K_120, x_if_eq, K_149, x_popI, x_iinc6, x_goto, x_iinc5, x_iinc4, x_iload_n3, x_icmp_ne, x_return, x_iinc2, L_169_8, L_169_12, L_169_31, L_169_49, L_169_67, L_169_74, L_169_85, L_169_88, L_169_99, L_169_100, L_169_122, L_169_126, L_169_127, L_169_133, S_k0 S2.1, e2, a1, ne_eq, not_true_eq_false, not_false_eq_true, if_true, if_false, and_self, or_self, true_or, or_true, and_true, true_and, and_false, false_and, or_false, false_or, Nat.reduceEqDiff]
      · rw [if_pos a1]; exact S2
    · obtain ⟨h3, e3, f3, s3⟩ := ih (k + 1) (some (.int (knA (npO co) st))) (some (.int (nI (npO co)))) p5 p6 (roundA fl co st) h' (by omega) U2 C2 S2 h72
      refine ⟨h3, ?_, F.trans f3, ?_⟩
      · rw [L_169_118]
        simp only [x_nil, Nat.reduceAdd, x_iconst_0, x_istore_n2, x_iload_n2, x_bipush_40, x_icmp_gt, x_aload_n1, K_168, bindR_some, toL_s, toL_n, ap_n, ap_c, List.map_nil, List.map_cons, List.sum_nil, List.sum_cons, cat_i, cat_r, cat_l, Nat.reduceLeDiff, Nat.zero_le, Nat.le_refl, x_istore_n3, x_istore4, x_iload4, x_aload_n0, x_getR, x_getI, x_icmp_ge, x_istore5, x_iload5, x_istore6, x_iload6, x_icmp_eq, K_120, x_if_eq, K_149, x_popI, x_iinc6, x_goto, x_iinc5, x_iinc4, x_iload_n3, x_icmp_ne, x_return, x_iinc2, L_169_8, L_169_12, L_169_31, L_169_49, L_169_67, L_169_74, L_169_85, L_169_88, L_169_99, L_169_100, L_169_122, L_169_126, L_169_127, L_169_133, S_k0 S2.1, e2, a1, ofInt1, nI_1, ne_eq, not_true_eq_false, not_false_eq_true, if_true, if_false, and_self, or_self, true_or, or_true, and_true, true_and, and_false, false_and, or_false, false_or, Nat.reduceEqDiff]
        exact e3
      · rw [if_neg a1]; exact s3
theorem r_settle (u c s : Nat) (fl : Nat → Int32) (co st : Mx) (h : Hp) (hU : repU h u c fl) (hC : repC h c co) (hS : repS h s st) (hcu : c + 24 ≤ u) (hsc : s + 5 ≤ c) (hw : wfC co) (h7 : st 0 7 = nI (npO co)) : ∃ h', Lm sc pp 169 0 [some (.ref u), some (.ref s), none, none, none, none, none] [] 0 0 h = some (h', none) ∧ Fr h h' (fU u s) ∧ repS h' s (settleN fl co 41 st) := by
  obtain ⟨h', e, r⟩ := r_settle_loop (sc := sc) (pp := pp) u c s fl co hcu hsc hw 41 0 none none none none st h (by omega) hU hC hS h7
  refine ⟨h', ?_, r⟩
  rw [L_169_0]
  simp only [x_nil, Nat.reduceAdd, x_iconst_0, x_istore_n2]
  exact e
noncomputable def talkS (fl : Nat → Int32) (co : Mx) (t : Nat) (st : Mx) : Mx := @ite _ (allowA fl co st (nO (co 15 t)) (nO (co 16 t)) (nO (co 17 t))) (Classical.propDecidable _) (poseA fl co st (nO (co 15 t)) (nO (co 16 t)) (nO (co 17 t))) st
theorem talkS_07 {fl : Nat → Int32} {co st : Mx} {t : Nat} : talkS fl co t st 0 7 = st 0 7 := by
  unfold talkS; split
  · exact poseA_07
  · rfl
theorem nO_nI {n : Nat} (h : n < 2 ^ 31) : nO (nI n) = n := nI_clamp h
theorem repC.z {h : Hp} {c : Nat} {co : Mx} (a : repC h c co) : hI h c = co 0 := a.2 0 (by omega)
theorem r_hold1 (u c s t e : Nat) (fm : Int32) (o5 o6 o7 : Option Value) (fl : Nat → Int32) (co st : Mx) (h : Hp) (hU : repU h u c fl) (hC : repC h c co) (hS : repS h s st) (hcu : c + 24 ≤ u) (hsc : s + 5 ≤ c) (hw : wfC co) (ht : t < ntO co) (hte : t < e) (he : e < 1000) : ∃ h', (Fr h h' (fU u s) ∧ repS h' s (talkS fl co t st)) ∧ ∃ p5 p6 p7, Lm sc pp 234 3 [some (.ref u), some (.ref s), some (.int fm), some (.int (nI e)), some (.int (nI t)), o5, o6, o7] [] 0 0 h = Lm sc pp 234 3 [some (.ref u), some (.ref s), some (.int fm), some (.int (nI e)), some (.int (nI (t + 1))), p5, p6, p7] [] 0 0 h' := by
  have hm := hw.p.2
  have hmq := hw.q.2
  have hmt := hw.t.2
  have ku := U_k0 hU.1
  have kc := C_k0 hC.1
  have ru := hU.2.1
  have em : hI h c 16 = nI (ntO co) := by rw [hC.z]; exact hw.t.1
  obtain ⟨a, b, q, ha, hb, hab, hq, e1, e2, e3⟩ := hw.talk ht
  have ea : nO (co 15 t) = a := by rw [e1]; exact nO_nI (by omega)
  have eb : nO (co 16 t) = b := by rw [e2]; exact nO_nI (by omega)
  have eq : nO (co 17 t) = q := by rw [e3]; exact nO_nI (by omega)
  have i1 : hI h (c + 15) t = nI a := by rw [hC.2 15 (by omega)]; exact e1
  have i2 : hI h (c + 16) t = nI b := by rw [hC.2 16 (by omega)]; exact e2
  have i3 : hI h (c + 17) t = nI q := by rw [hC.2 17 (by omega)]; exact e3
  have eal := r_allows (sc := sc) (pp := pp) u c s a b q fl co st h hU hC hS (by omega) (by omega) (by omega)
  by_cases a2 : allowA fl co st a b q
  · rw [b32_t a2] at eal
    obtain ⟨h', ep, f, S'⟩ := r_pose (sc := sc) (pp := pp) u c s a b q fl co st h hU hC hS hcu hsc (by omega) (by omega) (by omega) hw
    refine ⟨h', ⟨f, ?_⟩, some (.int (nI a)), some (.int (nI b)), some (.int (nI q)), ?_⟩
    · unfold talkS; rw [ea, eb, eq, if_pos a2]; exact S'
    · rw [L_234_3]
      simp (disch := first | assumption | omega | exact Nat.le_of_ble_eq_true rfl | simp only [kd_sI, kd_sJ, *]) only [x_nil, Nat.reduceAdd, x_iload_n2, x_istore4, x_iload4, x_iload_n3, x_icmp_ge, x_aload_n0, x_getR, x_getI, x_iald, x_istore5, x_istore6, x_istore7, x_aload_n1, x_iload5, x_iload6, x_iload7, K_120, bindR_some, toL_s, toL_n, ap_n, ap_c, List.map_nil, List.map_cons, List.sum_nil, List.sum_cons, cat_i, cat_r, cat_l, Nat.reduceLeDiff, Nat.zero_le, Nat.le_refl, x_if_eq, K_149, x_popI, x_iinc4, x_goto, x_return, L_234_9, L_234_21, L_234_68, L_234_71, L_234_82, L_234_83, ofInt1, ofIntm1, kd_sI, hN_sI, hR_sI, hJ_sI, kd_sJ, hN_sJ, hI_sJ, hR_sJ, n_clamp, z_lt, z_ge, z_eq, z_le, z_gt, o_eq, o_lt, o_gt, o_le, o_ge, m_eq, n_eq, n_le, n_lt, n_sub1, nI_1, ol_add, nI_add, z_cl, o_cl, z_pos, o_pos, o_z, z_o, m_z, N_le, N_lt, ne_eq, not_true_eq_false, not_false_eq_true, if_true, if_false, and_self, or_self, true_or, or_true, and_true, true_and, and_false, false_and, or_false, false_or, Nat.reduceEqDiff, ku, kc, ru, C_k0 hC.1, C_k1 hC.1, C_k2 hC.1, C_k3 hC.1, C_k4 hC.1, C_k5 hC.1, C_k6 hC.1, C_k7 hC.1, C_k8 hC.1, C_k9 hC.1, C_k10 hC.1, C_k11 hC.1, C_k12 hC.1, C_k13 hC.1, C_k14 hC.1, C_k15 hC.1, C_k16 hC.1, C_k17 hC.1, C_k18 hC.1, C_k19 hC.1, C_k20 hC.1, C_k21 hC.1, C_k22 hC.1, C_k23 hC.1, C_n2 hC.1, C_n4 hC.1, C_n6 hC.1, C_n7 hC.1, C_n8 hC.1, C_n9 hC.1, C_n10 hC.1, C_n11 hC.1, C_n12 hC.1, C_n13 hC.1, C_n14 hC.1, C_n15 hC.1, C_n16 hC.1, C_n17 hC.1, C_n19 hC.1, C_n20 hC.1, C_n22 hC.1, C_n23 hC.1, C_r0_0 hC.1, C_r0_1 hC.1, C_r0_2 hC.1, C_r0_3 hC.1, C_r0_4 hC.1, C_r0_5 hC.1, C_r0_6 hC.1, C_r0_7 hC.1, C_r0_8 hC.1, C_r0_9 hC.1, C_r0_10 hC.1, C_r0_11 hC.1, C_r0_12 hC.1, C_r0_13 hC.1, C_r0_14 hC.1, C_r0_15 hC.1, C_r1_0 hC.1, C_r3_0 hC.1, C_r5_0 hC.1, C_r18_0 hC.1, C_r18_1 hC.1, C_r21_0 hC.1, C_r21_1 hC.1, em, i1, i2, i3, eal, ep]
  · rw [b32_f a2] at eal
    refine ⟨h, ⟨Fr.refl _ _, ?_⟩, some (.int (nI a)), some (.int (nI b)), some (.int (nI q)), ?_⟩
    · unfold talkS; rw [ea, eb, eq, if_neg a2]; exact hS
    · rw [L_234_3]
      simp (disch := first | assumption | omega | exact Nat.le_of_ble_eq_true rfl | simp only [kd_sI, kd_sJ, *]) only [x_nil, Nat.reduceAdd, x_iload_n2, x_istore4, x_iload4, x_iload_n3, x_icmp_ge, x_aload_n0, x_getR, x_getI, x_iald, x_istore5, x_istore6, x_istore7, x_aload_n1, x_iload5, x_iload6, x_iload7, K_120, bindR_some, toL_s, toL_n, ap_n, ap_c, List.map_nil, List.map_cons, List.sum_nil, List.sum_cons, cat_i, cat_r, cat_l, Nat.reduceLeDiff, Nat.zero_le, Nat.le_refl, x_if_eq, K_149, x_popI, x_iinc4, x_goto, x_return, L_234_9, L_234_21, L_234_68, L_234_71, L_234_82, L_234_83, ofInt1, ofIntm1, kd_sI, hN_sI, hR_sI, hJ_sI, kd_sJ, hN_sJ, hI_sJ, hR_sJ, n_clamp, z_lt, z_ge, z_eq, z_le, z_gt, o_eq, o_lt, o_gt, o_le, o_ge, m_eq, n_eq, n_le, n_lt, n_sub1, nI_1, ol_add, nI_add, z_cl, o_cl, z_pos, o_pos, o_z, z_o, m_z, N_le, N_lt, ne_eq, not_true_eq_false, not_false_eq_true, if_true, if_false, and_self, or_self, true_or, or_true, and_true, true_and, and_false, false_and, or_false, false_or, Nat.reduceEqDiff, ku, kc, ru, C_k0 hC.1, C_k1 hC.1, C_k2 hC.1, C_k3 hC.1, C_k4 hC.1, C_k5 hC.1, C_k6 hC.1, C_k7 hC.1, C_k8 hC.1, C_k9 hC.1, C_k10 hC.1, C_k11 hC.1, C_k12 hC.1, C_k13 hC.1, C_k14 hC.1, C_k15 hC.1, C_k16 hC.1, C_k17 hC.1, C_k18 hC.1, C_k19 hC.1, C_k20 hC.1, C_k21 hC.1, C_k22 hC.1, C_k23 hC.1, C_n2 hC.1, C_n4 hC.1, C_n6 hC.1, C_n7 hC.1, C_n8 hC.1, C_n9 hC.1, C_n10 hC.1, C_n11 hC.1, C_n12 hC.1, C_n13 hC.1, C_n14 hC.1, C_n15 hC.1, C_n16 hC.1, C_n17 hC.1, C_n19 hC.1, C_n20 hC.1, C_n22 hC.1, C_n23 hC.1, C_r0_0 hC.1, C_r0_1 hC.1, C_r0_2 hC.1, C_r0_3 hC.1, C_r0_4 hC.1, C_r0_5 hC.1, C_r0_6 hC.1, C_r0_7 hC.1, C_r0_8 hC.1, C_r0_9 hC.1, C_r0_10 hC.1, C_r0_11 hC.1, C_r0_12 hC.1, C_r0_13 hC.1, C_r0_14 hC.1, C_r0_15 hC.1, C_r1_0 hC.1, C_r3_0 hC.1, C_r5_0 hC.1, C_r18_0 hC.1, C_r18_1 hC.1, C_r21_0 hC.1, C_r21_1 hC.1, em, i1, i2, i3, eal]
noncomputable def holdA (fl : Nat → Int32) (co : Mx) (a e : Nat) (st : Mx) : Mx := iterN (fun k => talkS fl co (a + k)) (min e (ntO co) - a) st
theorem holdA_07 {fl : Nat → Int32} {co st : Mx} {a e : Nat} : holdA fl co a e st 0 7 = st 0 7 := iterN_ind (fun (x : Mx) => x 0 7 = st 0 7) _ _ rfl (fun k x _ hx => by rw [talkS_07]; exact hx)
theorem r_hold (u c s a e : Nat) (fl : Nat → Int32) (co st : Mx) (h : Hp) (hU : repU h u c fl) (hC : repC h c co) (hS : repS h s st) (hcu : c + 24 ≤ u) (hsc : s + 5 ≤ c) (hw : wfC co) (ha : a ≤ min e (ntO co)) (he : e < 1000) : ∃ h', Lm sc pp 234 0 [some (.ref u), some (.ref s), some (.int (nI a)), some (.int (nI e)), none, none, none, none] [] 0 0 h = some (h', none) ∧ Fr h h' (fU u s) ∧ repS h' s (holdA fl co a e st) := by
  have hmt := hw.t.2
  obtain ⟨⟨h', p5, p6, p7⟩, ⟨F, S'⟩, e1⟩ := loopUp (fun k (x : Hp × Option Value × Option Value × Option Value) => Lm sc pp 234 3 [some (.ref u), some (.ref s), some (.int (nI a)), some (.int (nI e)), some (.int (nI (a + k))), x.2.1, x.2.2.1, x.2.2.2] [] 0 0 x.1) (fun k x => Fr h x.1 (fU u s) ∧ repS x.1 s (iterN (fun k => talkS fl co (a + k)) k st)) (min e (ntO co) - a) (fun k x hk i => by
    obtain ⟨i1, i2⟩ := i
    obtain ⟨h', ⟨f', s'⟩, p5, p6, p7, e'⟩ := r_hold1 (sc := sc) (pp := pp) u c s (a + k) e (nI a) x.2.1 x.2.2.1 x.2.2.2 fl co _ x.1 (hU.move i1 (by simp [fU]; omega)) (hC.move i1 (by simp [fU]; omega)) i2 hcu hsc hw (by omega) (by omega) he
    exact ⟨(h', p5, p6, p7), ⟨i1.trans f', s'⟩, e'⟩) (min e (ntO co) - a) 0 (h, none, none, none) (by omega) ⟨Fr.refl _ _, hS⟩
  refine ⟨h', ?_, F, S'⟩
  have U2 := hU.move F (by simp [fU]; omega)
  have C2 := hC.move F (by simp [fU]; omega)
  have ku := U_k0 U2.1
  have kc := C_k0 C2.1
  have ru := U2.2.1
  have em : hI h' c 16 = nI (ntO co) := by rw [C2.z]; exact hw.t.1
  rw [L_234_0]
  simp (disch := first | assumption | omega | exact Nat.le_of_ble_eq_true rfl | simp only [kd_sI, kd_sJ, *]) only [x_nil, Nat.reduceAdd, x_iload_n2, x_istore4, x_iload4, x_iload_n3, x_icmp_ge, x_aload_n0, x_getR, x_getI, x_iald, x_istore5, x_istore6, x_istore7, x_aload_n1, x_iload5, x_iload6, x_iload7, K_120, bindR_some, toL_s, toL_n, ap_n, ap_c, List.map_nil, List.map_cons, List.sum_nil, List.sum_cons, cat_i, cat_r, cat_l, Nat.reduceLeDiff, Nat.zero_le, Nat.le_refl, x_if_eq, K_149, x_popI, x_iinc4, x_goto, x_return, L_234_9, L_234_21, L_234_68, L_234_71, L_234_82, L_234_83, ofInt1, ofIntm1, kd_sI, hN_sI, hR_sI, hJ_sI, kd_sJ, hN_sJ, hI_sJ, hR_sJ, n_clamp, z_lt, z_ge, z_eq, z_le, z_gt, o_eq, o_lt, o_gt, o_le, o_ge, m_eq, n_eq, n_le, n_lt, n_sub1, nI_1, ol_add, nI_add, z_cl, o_cl, z_pos, o_pos, o_z, z_o, m_z, N_le, N_lt, ne_eq, not_true_eq_false, not_false_eq_true, if_true, if_false, and_self, or_self, true_or, or_true, and_true, true_and, and_false, false_and, or_false, false_or, Nat.reduceEqDiff]
  simp only [Nat.add_zero] at e1
  rw [e1, L_234_3]
  have e2 : a + (min e (ntO co) - a) = min e (ntO co) := by omega
  rw [e2]
  by_cases c1 : e ≤ ntO co
  · rw [Nat.min_eq_left c1]
    simp (disch := first | assumption | omega | exact Nat.le_of_ble_eq_true rfl | simp only [kd_sI, kd_sJ, *]) only [x_nil, Nat.reduceAdd, x_iload_n2, x_istore4, x_iload4, x_iload_n3, x_icmp_ge, x_aload_n0, x_getR, x_getI, x_iald, x_istore5, x_istore6, x_istore7, x_aload_n1, x_iload5, x_iload6, x_iload7, K_120, bindR_some, toL_s, toL_n, ap_n, ap_c, List.map_nil, List.map_cons, List.sum_nil, List.sum_cons, cat_i, cat_r, cat_l, Nat.reduceLeDiff, Nat.zero_le, Nat.le_refl, x_if_eq, K_149, x_popI, x_iinc4, x_goto, x_return, L_234_9, L_234_21, L_234_68, L_234_71, L_234_82, L_234_83, L_234_89, ofInt1, ofIntm1, kd_sI, hN_sI, hR_sI, hJ_sI, kd_sJ, hN_sJ, hI_sJ, hR_sJ, n_clamp, z_lt, z_ge, z_eq, z_le, z_gt, o_eq, o_lt, o_gt, o_le, o_ge, m_eq, n_eq, n_le, n_lt, n_sub1, nI_1, ol_add, nI_add, z_cl, o_cl, z_pos, o_pos, o_z, z_o, m_z, N_le, N_lt, ne_eq, not_true_eq_false, not_false_eq_true, if_true, if_false, and_self, or_self, true_or, or_true, and_true, true_and, and_false, false_and, or_false, false_or, Nat.reduceEqDiff, ku, kc, ru, em, Nat.le_refl]
  · rw [Nat.min_eq_right (by omega)]
    simp (disch := first | assumption | omega | exact Nat.le_of_ble_eq_true rfl | simp only [kd_sI, kd_sJ, *]) only [x_nil, Nat.reduceAdd, x_iload_n2, x_istore4, x_iload4, x_iload_n3, x_icmp_ge, x_aload_n0, x_getR, x_getI, x_iald, x_istore5, x_istore6, x_istore7, x_aload_n1, x_iload5, x_iload6, x_iload7, K_120, bindR_some, toL_s, toL_n, ap_n, ap_c, List.map_nil, List.map_cons, List.sum_nil, List.sum_cons, cat_i, cat_r, cat_l, Nat.reduceLeDiff, Nat.zero_le, Nat.le_refl, x_if_eq, K_149, x_popI, x_iinc4, x_goto, x_return, L_234_9, L_234_21, L_234_68, L_234_71, L_234_82, L_234_83, L_234_89, ofInt1, ofIntm1, kd_sI, hN_sI, hR_sI, hJ_sI, kd_sJ, hN_sJ, hI_sJ, hR_sJ, n_clamp, z_lt, z_ge, z_eq, z_le, z_gt, o_eq, o_lt, o_gt, o_le, o_ge, m_eq, n_eq, n_le, n_lt, n_sub1, nI_1, ol_add, nI_add, z_cl, o_cl, z_pos, o_pos, o_z, z_o, m_z, N_le, N_lt, ne_eq, not_true_eq_false, not_false_eq_true, if_true, if_false, and_self, or_self, true_or, or_true, and_true, true_and, and_false, false_and, or_false, false_or, Nat.reduceEqDiff, ku, kc, ru, em, Nat.le_refl, show ¬ e ≤ ntO co from c1]
end T27
