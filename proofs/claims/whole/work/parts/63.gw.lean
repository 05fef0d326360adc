-- the whole state, of both
def repRow (g : Hp) (k o n : Nat) (s : Mx) : Prop := (∀ p, p < n → hI g k (o + p) = s 1 p ∧ hI g k (o + 5 + p) = s 3 p ∧ hI g k (o + 10 + p) = s 2 p ∧ hI g k (o + 15 + p) = s 4 p) ∧ hI g k (o + 20) = s 0 4 ∧ hI g k (o + 21) = s 0 5
def HR (hs : Nat → Mx) (ax : Mx) (hl : Nat → Mx) (n : Nat) : Prop := n ≤ 20 ∧ ∃ old, old < 20 ∧ ax 12 1 = nI old ∧ ax 12 2 = nI n ∧ ∀ i, i < n → hl i = hs ((old + i) % 20)
def DI (g : Hp) (co st im : Mx) (hl : Nat → Mx) (n : Nat) (nt ax : Mx) : Prop := repE g co ∧ repB g 0 (npO co) st ∧ hI g 197 60 = st 0 5 ∧ (hI g 197 78 = ax 0 14 ∧ (¬ ax 0 14 = 0 → repRow g 238 0 (npO co) im ∧ hJ g 197 80 = (im 0 6).toInt64)) ∧ (hI g 197 75 = nI n ∧ ∀ i, i < n → repRow g 236 (22 * i) (npO co) (hl i) ∧ hJ g 237 i = (hl i 0 6).toInt64) ∧ repN g nt ∧ (∀ j, j < 700 → hI g 198 j = ax 1 j) ∧ hI g 197 1 = ax 0 11 ∧ hI g 197 4 = ax 0 12 ∧ hI g 197 5 = ax 0 13
def wfS (n B : Nat) (s : Mx) : Prop := wfK n s ∧ s 0 7 = nI n ∧ lostB n B s ∧ ∃ v, v ≤ 999 ∧ s 0 4 = nI v
def wfW (B : Nat) (co st im : Mx) (hl : Nat → Mx) (n : Nat) (nt ax : Mx) : Prop := wfS (npO co) B st ∧ (ax 0 14 = 0 ∨ ax 0 14 = 1) ∧ (¬ ax 0 14 = 0 → wfS (npO co) B im) ∧ (∀ i, i < n → wfS (npO co) B (hl i)) ∧ wfN co nt ∧ (∃ v, v ≤ 700 ∧ ax 0 11 = nI v) ∧ ∀ j, j < 700 → ∃ v, v < 256 ∧ ax 1 j = nI v
/-- class and reference tell the same -/
def GW (h g : Hp) (B : Nat) : Prop := ∃ c d co st im hs nt ax hl n, CI h c d co st im hs nt ax ∧ DI g co st im hl n nt ax ∧ HR hs ax hl n ∧ wfW B co st im hl n nt ax
def FA (h h' : Hp) : Prop := hn h' = hn h ∧ hK h' = hK h ∧ hN h' = hN h ∧ (∀ k, 197 ≤ k ∨ k = 191 → hI h' k = hI h k ∧ hJ h' k = hJ h k ∧ hR h' k = hR h k) ∧ ∀ k, k = 142 ∨ k = 144 ∨ k = 146 ∨ k = 166 ∨ k = 168 ∨ k = 170 → hI h' k 1 = hI h k 1
def inB (k _j : Nat) : Prop := 197 ≤ k ∧ k ≤ 238 ∧ k ≠ 199
def FB (g g' : Hp) : Prop := FrP g g' inB inB
/-- both answer the same, and tell the same afterwards -/
def Out (A B : Rs) (h g : Hp) (n : Nat) : Prop := ∃ h' g' r, A = some (h', some r) ∧ B = some (g', some r) ∧ FA h h' ∧ FB g g' ∧ GW h' g' n
theorem FA.refl (h : Hp) : FA h h := ⟨rfl, rfl, rfl, fun _ _ => ⟨rfl, rfl, rfl⟩, fun _ _ => rfl⟩
theorem FA.trans {a b c : Hp} (x : FA a b) (y : FA b c) : FA a c := ⟨y.1.trans x.1, y.2.1.trans x.2.1, y.2.2.1.trans x.2.2.1, fun k hk => ⟨(y.2.2.2.1 k hk).1.trans (x.2.2.2.1 k hk).1, (y.2.2.2.1 k hk).2.1.trans (x.2.2.2.1 k hk).2.1, (y.2.2.2.1 k hk).2.2.trans (x.2.2.2.1 k hk).2.2⟩, fun k hk => (y.2.2.2.2 k hk).trans (x.2.2.2.2 k hk)⟩
theorem FrS.A {h h' : Hp} (f : FrS h h') : FA h h' := ⟨f.1, f.2.1, f.2.2.1, fun k hk => ⟨(f.2.2.2.2.2 k (by omega) (by omega) (by omega) (by omega)).1, (f.2.2.2.2.2 k (by omega) (by omega) (by omega) (by omega)).2, f.2.2.2.1 k (by omega)⟩, fun k hk => congrFun (f.2.2.2.2.2 k (by omega) (by omega) (by omega) (by omega)).1 1⟩
theorem Fr.A {h h' : Hp} {L : List Nat} (f : Fr h h' L) (hL : ∀ k, k ∈ L → k < 141 ∨ (194 ≤ k ∧ k < 197)) : FA h h' := ⟨f.1, f.2.1, f.2.2.1, fun k hk => ⟨(f.2.2.2.2 k (fun q => by have := hL k q; omega)).1, (f.2.2.2.2 k (fun q => by have := hL k q; omega)).2, by rw [f.2.2.2.1]⟩, fun k hk => congrFun (f.2.2.2.2 k (fun q => by have := hL k q; omega)).1 1⟩
theorem pD_B {k j : Nat} (h : pD k j) : inB k j := by
  unfold pD at h; unfold inB; omega
theorem qD_B {k j : Nat} (h : qD k j) : inB k j := by
  unfold qD at h; unfold inB; omega
theorem repRow.mv {g g' : Hp} {k o n : Nat} {s : Mx} (a : repRow g k o n s) (e : hI g' k = hI g k) : repRow g' k o n s := by
  unfold repRow at *
  rw [e]; exact a
theorem DI.mvD {g g' : Hp} {co st im : Mx} {hl : Nat → Mx} {n : Nat} {nt ax : Mx} (a : DI g co st im hl n nt ax) (h5 : npO co ≤ 5) (F : FrP g g' pD qD) : DI g' co st im hl n nt ax := by
  obtain ⟨a1, a2, a3, a4, a5, a6, a7, a8, a9, a10⟩ := a
  have r : ∀ j, j = 1 ∨ j = 4 ∨ j = 5 ∨ j = 60 ∨ j = 75 ∨ j = 78 → hI g' 197 j = hI g 197 j := fun j hj => F.I (by unfold pD; omega)
  have q : ∀ k j, k = 197 ∨ k = 237 → hJ g' k j = hJ g k j := fun k j hk => F.J (by unfold qD; omega)
  have rw3 : ∀ k, k = 198 ∨ k = 236 ∨ k = 238 → hI g' k = hI g k := fun k hk => funext fun j => F.I (by unfold pD; omega)
  refine ⟨a1.mvP F (fun _ _ q => pD_ct q), a2.mvD h5 F, by rw [r 60 (by omega)]; exact a3, ⟨by rw [r 78 (by omega)]; exact a4.1, fun z => ⟨(a4.2 z).1.mv (rw3 _ (by omega)), by rw [q _ _ (by omega)]; exact (a4.2 z).2⟩⟩, ⟨by rw [r 75 (by omega)]; exact a5.1, fun i hi => ⟨(a5.2 i hi).1.mv (rw3 _ (by omega)), by rw [q _ _ (by omega)]; exact (a5.2 i hi).2⟩⟩, a6.mvD F, fun j hj => by rw [rw3 198 (by omega)]; exact a7 j hj, by rw [r 1 (by omega)]; exact a8, by rw [r 4 (by omega)]; exact a9, by rw [r 5 (by omega)]; exact a10⟩
theorem lostB.up {n B C : Nat} {s : Mx} (l : lostB n B s) (h : B ≤ C) : lostB n C s := fun p hp => by
  obtain ⟨v, hv, ev⟩ := l p hp
  exact ⟨v, by omega, ev⟩
theorem wfS.up {n B C : Nat} {s : Mx} (l : wfS n B s) (h : B ≤ C) : wfS n C s := ⟨l.1, l.2.1, l.2.2.1.up h, l.2.2.2⟩
theorem wfW.up {B C : Nat} {co st im : Mx} {hl : Nat → Mx} {n : Nat} {nt ax : Mx} (w : wfW B co st im hl n nt ax) (h : B ≤ C) : wfW C co st im hl n nt ax := ⟨w.1.up h, w.2.1, fun z => (w.2.2.1 z).up h, fun i hi => (w.2.2.2.1 i hi).up h, w.2.2.2.2⟩
theorem GW.up {h g : Hp} {B C : Nat} (w : GW h g B) (hBC : B ≤ C) : GW h g C := by
  obtain ⟨c, d, co, st, im, hs, nt, ax, hl, n, a1, a2, a3, a4⟩ := w
  exact ⟨c, d, co, st, im, hs, nt, ax, hl, n, a1, a2, a3, a4.up hBC⟩
theorem mkQW {h g : Hp} {c d : Nat} {co st im : Mx} {hs : Nat → Mx} {nt ax : Mx} {hl : Nat → Mx} {n B : Nat} (I : CI h c d co st im hs nt ax) (D : DI g co st im hl n nt ax) (w : wfW B co st im hl n nt ax) : QW h g c d co st im hs nt ax := ⟨I, D.1, D.2.1, w.1.1, w.1.2.1⟩
theorem Same.out {A B : Rs} {h g : Hp} {c d : Nat} {co st im : Mx} {hs : Nat → Mx} {nt ax : Mx} {hl : Nat → Mx} {n k : Nat} (s : Same A B h g) (I : CI h c d co st im hs nt ax) (D : DI g co st im hl n nt ax) (H : HR hs ax hl n) (w : wfW k co st im hl n nt ax) : Out A B h g (k + 1) := by
  obtain ⟨h', g', r, e1, e2, f1, f2⟩ := s
  exact ⟨h', g', r, e1, e2, f1.A, f2.mono (fun _ _ q => pD_B q) (fun _ _ q => qD_B q), c, d, co, st, im, hs, nt, ax, hl, n, I.moveS f1, D.mvD I.w.p.2 f2, H, w.up (by omega)⟩
theorem mod20 : ∀ a, a < 60 → nI a - nI a / 20 * 20 = nI (a % 20) := by decide +kernel
def pushL (hl : Nat → Mx) (n : Nat) (s : Mx) : Nat → Mx := if n < 20 then fun i => if i = n then s else hl i else fun i => if i = 19 then s else hl (i + 1)
def pushN (n : Nat) : Nat := if n < 20 then n + 1 else 20
section T63
variable {sc : Nat × (Nat → Int32)} {pp : Nat → Nat → Int32 → Int32 → Hp → Option (Hp × Int32)} {h g : Hp} {c d : Nat} {co st im : Mx} {hs : Nat → Mx} {nt ax : Mx} {fl : Nat → Int32} {hl : Nat → Mx} {n : Nat}
/-- the state ahead is kept, in the class -/
theorem c_push (I : CI h c d co st im hs nt ax) (H : HR hs ax hl n) : ∃ h' hs' ax', Lm sc pp 143 0 [some (.ref 12), some (.ref 2)] [] 0 0 h = some (h', none) ∧ FA h h' ∧ (∀ fl, repU h 194 c fl → repU h' 194 c fl) ∧ CI h' c d co st im hs' nt ax' ∧ HR hs' ax' (pushL hl n st) (pushN n) ∧ ax' 0 = ax 0 ∧ ax' 1 = ax 1 := by
  obtain ⟨hn20, old, ho, a1, a2, a3⟩ := H
  have o1 : hI h 12 1 = nI old := by rw [I.axR.2.2]; exact a1
  have o2 : hI h 12 2 = nI n := by rw [I.axR.2.2]; exact a2
  have md := mod20 (old + n) (by omega)
  have hi : (old + n) % 20 < 20 := Nat.mod_lt _ (by omega)
  generalize hm : (old + n) % 20 = m at *
  have rm : hR h 13 m = 14 + 5 * m + 1 := by rw [X_rh I.x m hi]; omega
  obtain ⟨x, ex, Fx, sx⟩ := r_take (sc := sc) (pp := pp) (14 + 5 * m) 2 st h (I.hsS hi).1 I.S (by omega)
  have km : kd h (14 + 5 * m) = 8 := S_k0 (I.hsS hi).1
  have hcd := I.cd
  have k12 : kd h 12 = 1 := I.k12
  have k12x : kd x 12 = 1 := by rw [Fx.kd]; exact k12
  have x12 : hI x 12 = hI h 12 := Fx.I (by simp; omega)
  have ox1 : hI x 12 1 = nI old := by rw [x12]; exact o1
  have ox2 : hI x 12 2 = nI n := by rw [x12]; exact o2
  -- the class as a whole after it
  have ci : ∀ y, Fr x y [12] → CI y c d co st im (fun j => if j = m then st else hs j) nt (fun r => if r = 12 then hI y 12 else ax r) := by
    intro y Fy
    have F : Fr h y [14 + 5 * m, 14 + 5 * m + 1, 14 + 5 * m + 2, 14 + 5 * m + 3, 14 + 5 * m + 4, 12] := (Fx.mono (by simp)).trans (Fy.mono (by simp))
    have ex' : isX y := by
      have := I.x
      unfold isX at *
      simp only [F.kd, F.2.2.1, F.2.2.2.1]
      exact this
    refine ⟨ex', hcd, ⟨by rw [F.2.2.2.1]; exact I.rc, by rw [F.2.2.2.1]; exact I.rd⟩, ⟨I.C.move F (by simp; omega), I.w⟩, I.D.move F, I.S.move F (by simp; omega), I.imS.move F (by simp; omega), fun i hi2 => ?_, ⟨I.n.move F, fun r hr => by rw [F.I (by simp; omega)]; exact I.ntR hr⟩, I.q.move F, I.t.move F, I.u.move F, by rw [F.I (by simp; omega)]; exact I.axR.1, by rw [F.I (by simp; omega)]; exact I.axR.2.1, rfl⟩
    show repS y (14 + 5 * i) (if i = m then st else hs i)
    by_cases e : i = m
    · subst e
      rw [if_pos rfl]
      exact sx.move Fy (by simp; omega)
    · rw [if_neg e]
      exact (I.hsS hi2).move F (by simp; omega)
  have uu : ∀ y, Fr x y [12] → ∀ fl, repU h 194 c fl → repU y 194 c fl := fun y Fy fl u => (u.move Fx (by simp; omega)).move Fy (by simp)
  have fa : ∀ y, Fr x y [12] → FA h y := fun y Fy => (Fx.A (by simp; omega)).trans (Fy.A (by simp))
  by_cases q : n < 20
  · have F2 : Fr x (sI x 12 2 (nI (n + 1))) [12] := Fr_sI (by simp)
    refine ⟨sI x 12 2 (nI (n + 1)), _, _, ?_, fa _ F2, uu _ F2, ci _ F2, ?_, rfl, rfl⟩
    · have q' : ¬ 20 ≤ n := by omega
      have hx := X_r12_0 I.x
      have kx := X_k13 I.x
      have nx := X_n13 I.x
      simp (disch := first | assumption | omega | exact Nat.le_of_ble_eq_true rfl | exact CI.k0 (by assumption) | exact CI.k2 (by assumption) | exact CI.kc3 (by assumption) | exact CI.kc1 (by assumption) | exact CI.kc5 (by assumption) | exact CI.kc (by assumption) | exact CI.k136 (by assumption) | exact CI.k194 (by assumption) | exact CI.k114 (by assumption) | exact CI.k121 (by assumption) | exact CI.k12 (by assumption) | exact CI.kc18 (by assumption) | exact CI.kc21 (by assumption) | exact CI.k122 (by assumption) | exact CI.k127 (by assumption) | exact CI.k7 (by assumption) | exact CI.k189 (by assumption) | exact CI.k190 (by assumption) | exact CI.k192 (by assumption) | (simp only [kdI, kdJ, kdR, *]; done) | fail) only [↓reduceIte, Int32.reduceLE, Int32.reduceLT, x_nil, Nat.reduceAdd, x_aload_n0, x_getR, x_getI, x_iadd, x_bipush_20, x_irem, x_aald, x_aload_n1, K_142, bindR_some, toL_s, toL_n, ap_n, ap_c, List.map_nil, List.map_cons, List.sum_nil, List.sum_cons, cat_i, cat_r, cat_l, Nat.reduceLeDiff, Nat.zero_le, Nat.le_refl, x_icmp_ge, x_dupI, x_dupA, x_iconst_1, x_putI, x_goto, x_return, L_143_0, L_143_21, L_143_30, L_143_43, L_143_56, ofInt1, ofIntm1, kdI, hNI, hRI, hJI, kdJ, hNJ, hIJ, hRJ, kdR, hNR, hIR, hJR, hII, hJJ, hRR, n_clamp, z_lt, z_ge, z_eq, z_le, z_gt, o_eq, o_lt, o_gt, o_le, o_ge, m_eq, n_eq, n_le, n_lt, n_sub1, nI_1, ol_add, nI_add, z_cl, o_cl, z_pos, o_pos, o_z, z_o, m_z, N_le, N_lt, q20_le, q20_lt, q20_ge, q20_gt, q20_eq, q20_mul, q20_add, q20_adl, q20_cl, q20_pos, q20_ti, q20_tj, zq20, qz20, ne_eq, not_true_eq_false, not_false_eq_true, if_true, if_false, and_self, or_self, true_or, or_true, and_true, true_and, and_false, false_and, or_false, false_or, Nat.reduceEqDiff, Nat.le_refl, Nat.reduceLT, Nat.reduceLeDiff, b32_01, nI_0, k12, k12x, o1, o2, md, hx, kx, nx, rm, km, ex, ox2, q']
    · unfold pushL pushN
      rw [if_pos q, if_pos q]
      refine ⟨by omega, old, ho, ?_, ?_, fun i hi2 => ?_⟩
      · show hI (sI x 12 2 _) 12 1 = _
        rw [hII, if_neg (by omega)]; exact ox1
      · show hI (sI x 12 2 _) 12 2 = _
        rw [hII, if_pos ⟨rfl, rfl⟩]
      · show (if i = n then st else hl i) = if (old + i) % 20 = m then st else hs ((old + i) % 20)
        by_cases e : i = n
        · subst e; rw [if_pos rfl, if_pos hm]
        · rw [if_neg e, if_neg (by omega)]
          exact a3 i (by omega)
  · have n20 : n = 20 := by omega
    subst n20
    have md2 := mod20 (old + 1) (by omega)
    have F2 : Fr x (sI x 12 1 (nI ((old + 1) % 20))) [12] := Fr_sI (by simp)
    refine ⟨sI x 12 1 (nI ((old + 1) % 20)), _, _, ?_, fa _ F2, uu _ F2, ci _ F2, ?_, rfl, rfl⟩
    · have hx := X_r12_0 I.x
      have kx := X_k13 I.x
      have nx := X_n13 I.x
      simp (disch := first | assumption | omega | exact Nat.le_of_ble_eq_true rfl | exact CI.k0 (by assumption) | exact CI.k2 (by assumption) | exact CI.kc3 (by assumption) | exact CI.kc1 (by assumption) | exact CI.kc5 (by assumption) | exact CI.kc (by assumption) | exact CI.k136 (by assumption) | exact CI.k194 (by assumption) | exact CI.k114 (by assumption) | exact CI.k121 (by assumption) | exact CI.k12 (by assumption) | exact CI.kc18 (by assumption) | exact CI.kc21 (by assumption) | exact CI.k122 (by assumption) | exact CI.k127 (by assumption) | exact CI.k7 (by assumption) | exact CI.k189 (by assumption) | exact CI.k190 (by assumption) | exact CI.k192 (by assumption) | (simp only [kdI, kdJ, kdR, *]; done) | fail) only [↓reduceIte, Int32.reduceLE, Int32.reduceLT, x_nil, Nat.reduceAdd, x_aload_n0, x_getR, x_getI, x_iadd, x_bipush_20, x_irem, x_aald, x_aload_n1, K_142, bindR_some, toL_s, toL_n, ap_n, ap_c, List.map_nil, List.map_cons, List.sum_nil, List.sum_cons, cat_i, cat_r, cat_l, Nat.reduceLeDiff, Nat.zero_le, Nat.le_refl, x_icmp_ge, x_dupI, x_dupA, x_iconst_1, x_putI, x_goto, x_return, L_143_0, L_143_21, L_143_30, L_143_43, L_143_56, ofInt1, ofIntm1, kdI, hNI, hRI, hJI, kdJ, hNJ, hIJ, hRJ, kdR, hNR, hIR, hJR, hII, hJJ, hRR, n_clamp, z_lt, z_ge, z_eq, z_le, z_gt, o_eq, o_lt, o_gt, o_le, o_ge, m_eq, n_eq, n_le, n_lt, n_sub1, nI_1, ol_add, nI_add, z_cl, o_cl, z_pos, o_pos, o_z, z_o, m_z, N_le, N_lt, q20_le, q20_lt, q20_ge, q20_gt, q20_eq, q20_mul, q20_add, q20_adl, q20_cl, q20_pos, q20_ti, q20_tj, zq20, qz20, ne_eq, not_true_eq_false, not_false_eq_true, if_true, if_false, and_self, or_self, true_or, or_true, and_true, true_and, and_false, false_and, or_false, false_or, Nat.reduceEqDiff, Nat.le_refl, Nat.reduceLT, Nat.reduceLeDiff, b32_01, nI_0, k12, k12x, o1, o2, md, hx, kx, nx, rm, km, ex, ox1, ox2, md2]
    · unfold pushL pushN
      rw [if_neg (by omega), if_neg (by omega)]
      have m1 : m = old := by omega
      refine ⟨by omega, (old + 1) % 20, by omega, ?_, ?_, fun i hi2 => ?_⟩
      · show hI (sI x 12 1 _) 12 1 = _
        rw [hII, if_pos ⟨rfl, rfl⟩]
      · show hI (sI x 12 1 _) 12 2 = _
        rw [hII, if_neg (by omega)]; exact ox2
      · show (if i = 19 then st else hl (i + 1)) = if ((old + 1) % 20 + i) % 20 = m then st else hs (((old + 1) % 20 + i) % 20)
        by_cases e : i = 19
        · subst e; rw [if_pos rfl, if_pos (by omega)]
        · rw [if_neg e, if_neg (by omega), a3 (i + 1) (by omega)]
          congr 1
          omega
end T63
