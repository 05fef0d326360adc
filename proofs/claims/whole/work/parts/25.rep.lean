-- what the cells of the class hold: matrices of ints; one asks, as a function of them
abbrev Mx : Type := Nat → Nat → Int32
theorem up2_at {α : Type} {f : Nat → Nat → α} {a b i j : Nat} {v : α} : up2 f a b v i j = if i = a ∧ j = b then v else f i j := rfl
def repS (h : Hp) (s : Nat) (st : Mx) : Prop := isS h s ∧ (∀ p, p < 5 → hI h (s + 1) p = st 1 p) ∧ (∀ p, p < 5 → hI h (s + 2) p = st 2 p) ∧ (∀ p, p < 5 → hI h (s + 3) p = st 3 p) ∧ (∀ p, p < 5 → hI h (s + 4) p = st 4 p) ∧ hI h s 4 = st 0 4 ∧ hI h s 5 = st 0 5 ∧ hI h s 6 = st 0 6 ∧ hI h s 7 = st 0 7
def repC (h : Hp) (c : Nat) (co : Mx) : Prop := isC h c ∧ ∀ r, r < 24 → hI h (c + r) = co r
def repU (h : Hp) (u c : Nat) (fl : Nat → Int32) : Prop := isU h u ∧ hR h u 2 = c + 1 ∧ hI h u 3 = fl 3 ∧ hI h u 4 = fl 4 ∧ hI h u 5 = fl 5 ∧ hI h u 6 = fl 6 ∧ hI h u 7 = fl 7
theorem repS.move {h h' : Hp} {s : Nat} {st : Mx} {L : List Nat} (a : repS h s st) (f : Fr h h' L) (hL : ∀ k, k ∈ L → k < s ∨ s + 5 ≤ k) : repS h' s st := by
  have g : ∀ r, r < 5 → hI h' (s + r) = hI h (s + r) := fun r hr => f.I (fun q => by have := hL _ q; omega)
  have g0 := g 0 (by omega)
  simp only [Nat.add_zero] at g0
  refine ⟨a.1.move f, ?_⟩
  rw [g 1 (by omega), g 2 (by omega), g 3 (by omega), g 4 (by omega), g0]
  exact a.2
theorem repC.move {h h' : Hp} {c : Nat} {co : Mx} {L : List Nat} (a : repC h c co) (f : Fr h h' L) (hL : ∀ k, k ∈ L → k < c ∨ c + 24 ≤ k) : repC h' c co := ⟨a.1.move f, fun r hr => (f.I (fun q => by have := hL _ q; omega)).trans (a.2 r hr)⟩
theorem repU.move {h h' : Hp} {u c : Nat} {fl : Nat → Int32} {L : List Nat} (a : repU h u c fl) (f : Fr h h' L) (hL : ∀ k, k ∈ L → k ≠ u) : repU h' u c fl := ⟨a.1.move f, by rw [f.2.2.2.1]; exact a.2.1, by rw [f.I (fun q => hL _ q rfl)]; exact a.2.2⟩
theorem repU.e3 {h : Hp} {u c : Nat} {fl : Nat → Int32} (a : repU h u c fl) : hI h u 3 = fl 3 := a.2.2.1
theorem repU.e4 {h : Hp} {u c : Nat} {fl : Nat → Int32} (a : repU h u c fl) : hI h u 4 = fl 4 := a.2.2.2.1
theorem repU.e5 {h : Hp} {u c : Nat} {fl : Nat → Int32} (a : repU h u c fl) : hI h u 5 = fl 5 := a.2.2.2.2.1
theorem repU.e6 {h : Hp} {u c : Nat} {fl : Nat → Int32} (a : repU h u c fl) : hI h u 6 = fl 6 := a.2.2.2.2.2.1
theorem repU.e7 {h : Hp} {u c : Nat} {fl : Nat → Int32} (a : repU h u c fl) : hI h u 7 = fl 7 := a.2.2.2.2.2.2
theorem repS.set {h : Hp} {s r k : Nat} {st : Mx} {v : Int32} (a : repS h s st) (hr : r < 5) : repS (sI h (s + r) k v) s (up2 st r k v) := by
  refine ⟨a.1.move (Fr_sI (L := [s + r]) (by simp)), fun p hp => ?_, fun p hp => ?_, fun p hp => ?_, fun p hp => ?_, ?_, ?_, ?_, ?_⟩
  · simp only [hI_sI, up2_at, Nat.add_left_cancel_iff]; rw [a.2.1 p hp]
  · simp only [hI_sI, up2_at, Nat.add_left_cancel_iff]; rw [a.2.2.1 p hp]
  · simp only [hI_sI, up2_at, Nat.add_left_cancel_iff]; rw [a.2.2.2.1 p hp]
  · simp only [hI_sI, up2_at, Nat.add_left_cancel_iff]; rw [a.2.2.2.2.1 p hp]
  all_goals
    simp only [hI_sI, up2_at]
    have e : (s = s + r) = (0 = r) := by simp; omega
    simp only [e]
  · rw [a.2.2.2.2.2.1]
  · rw [a.2.2.2.2.2.2.1]
  · rw [a.2.2.2.2.2.2.2.1]
  · rw [a.2.2.2.2.2.2.2.2]
theorem repS.set0 {h : Hp} {s k : Nat} {st : Mx} {v : Int32} (a : repS h s st) : repS (sI h s k v) s (up2 st 0 k v) := a.set (r := 0) (by omega)
def nO (x : Int32) : Nat := x.toNatClampNeg
def nfO (co : Mx) : Nat := nO (co 1 2)
def npO (co : Mx) : Nat := nO (co 3 2)
def nqO (co : Mx) : Nat := nO (co 5 2)
def ntO (co : Mx) : Nat := nO (co 0 16)
def okK (k : Nat) : Prop := k = 26 ∨ (18 ≤ k ∧ k ≤ 24) ∨ k = 17 ∨ k = 36 ∨ k ∈ [15, 16, 28, 29, 30, 31, 32, 33, 34, 35, 37]
def okL (co : Mx) (a : Nat) : Prop := co a 2 = nI (nO (co a 2)) ∧ nO (co a 2) ≤ 64 ∧ ∀ j, j < nO (co a 2) → co (a + 1) j = nI (nO (co (a + 1) j)) ∧ okK (nO (co (a + 1) j))
def okF (co : Mx) (x : Int32) : Prop := x = -1 ∨ ∃ f, f < nfO co ∧ x = nI f
def wfC (co : Mx) : Prop := (co 1 2 = nI (nfO co) ∧ nfO co ≤ 8) ∧ (co 3 2 = nI (npO co) ∧ npO co ≤ 5) ∧ (co 5 2 = nI (nqO co) ∧ nqO co ≤ 8) ∧ (co 0 16 = nI (ntO co) ∧ ntO co ≤ 10) ∧ okL co 18 ∧ okL co 21
  ∧ (∀ q, q < nqO co → (∃ v, v < 4 ∧ co 11 q = nI v) ∧ okF co (co 12 q) ∧ okF co (co 13 q) ∧ okF co (co 14 q))
  ∧ (∀ t, t < ntO co → ∃ a b q, a < npO co ∧ b < npO co ∧ a ≠ b ∧ q < nqO co ∧ co 15 t = nI a ∧ co 16 t = nI b ∧ co 17 t = nI q)
  ∧ (∀ p, p < npO co → (∃ v, v < 10 ∧ co 7 p = nI v) ∧ (∃ v, v < 10 ∧ co 8 p = nI v) ∧ (∃ v, v < 4 ∧ co 9 p = nI v) ∧ ∃ v, v < 2 ^ nfO co ∧ co 10 p = nI v)
  ∧ (∃ v, v < 100 ∧ co 0 17 = nI v) ∧ (∃ v, v < 100000 ∧ co 0 18 = nI v) ∧ (∃ v, v < 65 ∧ co 0 19 = nI v)
theorem wfC.p {co : Mx} (a : wfC co) : co 3 2 = nI (npO co) ∧ npO co ≤ 5 := a.2.1
theorem wfC.q {co : Mx} (a : wfC co) : co 5 2 = nI (nqO co) ∧ nqO co ≤ 8 := a.2.2.1
theorem wfC.f {co : Mx} (a : wfC co) : co 1 2 = nI (nfO co) ∧ nfO co ≤ 8 := a.1
theorem wfC.t {co : Mx} (a : wfC co) : co 0 16 = nI (ntO co) ∧ ntO co ≤ 10 := a.2.2.2.1
theorem wfC.s18 {co : Mx} (a : wfC co) : okL co 18 := a.2.2.2.2.1
theorem wfC.s21 {co : Mx} (a : wfC co) : okL co 21 := a.2.2.2.2.2.1
theorem wfC.ques {co : Mx} (a : wfC co) {q : Nat} (hq : q < nqO co) : (∃ v, v < 4 ∧ co 11 q = nI v) ∧ okF co (co 12 q) ∧ okF co (co 13 q) ∧ okF co (co 14 q) := a.2.2.2.2.2.2.1 q hq
theorem wfC.talk {co : Mx} (a : wfC co) {t : Nat} (ht : t < ntO co) : ∃ a b q, a < npO co ∧ b < npO co ∧ a ≠ b ∧ q < nqO co ∧ co 15 t = nI a ∧ co 16 t = nI b ∧ co 17 t = nI q := a.2.2.2.2.2.2.2.1 t ht
theorem wfC.pers {co : Mx} (a : wfC co) {p : Nat} (hp : p < npO co) : (∃ v, v < 10 ∧ co 7 p = nI v) ∧ (∃ v, v < 10 ∧ co 8 p = nI v) ∧ (∃ v, v < 4 ∧ co 9 p = nI v) ∧ ∃ v, v < 2 ^ nfO co ∧ co 10 p = nI v := a.2.2.2.2.2.2.2.2.1 p hp
theorem wfC.nine {co : Mx} (a : wfC co) : ∃ v, v < 100 ∧ co 0 17 = nI v := a.2.2.2.2.2.2.2.2.2.1
theorem wfC.seed {co : Mx} (a : wfC co) : ∃ v, v < 100000 ∧ co 0 18 = nI v := a.2.2.2.2.2.2.2.2.2.2.1
theorem repC.codes {h : Hp} {c : Nat} {co : Mx} {a : Nat} (r : repC h c co) (ha : a + 2 < 24) (o : okL co a) : codesOK h (c + a) (fun j => nO (co (a + 1) j)) (nO (co a 2)) := by
  unfold codesOK
  rw [r.2 a (by omega), Nat.add_assoc, r.2 (a + 1) (by omega)]
  exact o
def nmA (fl : Nat → Int32) (co st : Mx) (p q : Nat) (j : Nat) : Int32 := match j with
  | 0 => co 7 p
  | 1 => if fl 7 = 0 then co 8 p else 9
  | 2 => st 3 p
  | 3 => bcE (st 1 p)
  | 4 => st 2 p
  | 5 => co 11 q
  | _ => st 0 4
def worthA (fl : Nat → Int32) (co st : Mx) (a p q : Nat) : Int64 := if co a 3 = 0 then -9223372036854775808 else lwEnd (lwRun (fun j => nO (co (a + 1) j)) (co (a + 2)) (nmA fl co st p q) (nO (co a 2)) 0 [])
theorem worthA_eq {h : Hp} {u c s : Nat} {fl : Nat → Int32} {co st : Mx} {a p q : Nat} (hU : repU h u c fl) (hC : repC h c co) (hS : repS h s st) (hp : p < 5) (ha : a + 2 < 24) : worthF h u c s (c + a) p q (fun j => nO (co (a + 1) j)) (nO (co a 2)) = worthA fl co st a p q := by
  have en : nmF h u c s p q = nmA fl co st p q := by
    funext j
    match j with
    | 0 => exact congrFun (hC.2 7 (by omega)) p
    | 1 => show (if hI h u 7 = 0 then hI h (c + 8) p else 9) = _; rw [hU.e7, hC.2 8 (by omega)]; rfl
    | 2 => exact hS.2.2.2.1 p hp
    | 3 => show bcE (hI h (s + 1) p) = _; rw [hS.2.1 p hp]; rfl
    | 4 => exact hS.2.2.1 p hp
    | 5 => exact congrFun (hC.2 11 (by omega)) q
    | n + 6 => exact hS.2.2.2.2.2.1
  unfold worthF worthA
  rw [hC.2 a (by omega), Nat.add_assoc, hC.2 (a + 2) (by omega), en]
def hearsA (fl : Nat → Int32) (co st : Mx) (p q : Nat) : Prop := hearP (worthA fl co st 21 p q) (co 11 q) (if fl 7 = 0 then co 8 p else 9)
def bitM (x : Int32) (p : Nat) : Int32 := (x >>> (nI p &&& 31)) &&& 1
noncomputable def b32 (P : Prop) : Int32 := @ite _ P (Classical.propDecidable _) 1 0
theorem b32_t {P : Prop} (h : P) : b32 P = 1 := if_pos h
theorem b32_f {P : Prop} (h : ¬ P) : b32 P = 0 := if_neg h
noncomputable def hearS (fl : Nat → Int32) (co : Mx) (one q : Nat) (room sup : Int32) (p : Nat) (st : Mx) : Mx := @ite _ (p ≠ one ∧ st 2 p = room ∧ bitM (fl 4) p = 0 ∧ hearsA fl co st p q) (Classical.propDecidable _) (up2 st 1 p (st 1 p ||| sup)) st
def iterN {α : Type} (f : Nat → α → α) : Nat → α → α
  | 0, a => a
  | n + 1, a => f n (iterN f n a)
theorem loopUp {α : Type} (L : Nat → α → Rs) (I : Nat → α → Prop) (n : Nat) (step : ∀ k a, k < n → I k a → ∃ a', I (k + 1) a' ∧ L k a = L (k + 1) a') : ∀ d k a, k + d = n → I k a → ∃ a', I n a' ∧ L k a = L n a' := by
  intro d
  induction d with
  | zero => intro k a hk i; have : k = n := by omega
            subst this; exact ⟨a, i, rfl⟩
  | succ d ih =>
    intro k a hk i
    obtain ⟨a1, i1, e1⟩ := step k a (by omega) i
    obtain ⟨a2, i2, e2⟩ := ih (k + 1) a1 (by omega) i1
    exact ⟨a2, i2, e1.trans e2⟩
theorem loopQ {α : Type} (L : Nat → α → Rs) (I : Nat → α → Prop) (Q : Rs → Prop) (n : Nat) (step : ∀ k a, k < n → I k a → Q (L k a) ∨ ∃ a', I (k + 1) a' ∧ L k a = L (k + 1) a') (fin : ∀ a, I n a → Q (L n a)) : ∀ d k a, k + d = n → I k a → Q (L k a) := by
  intro d
  induction d with
  | zero => intro k a hk i; have : k = n := by omega
            subst this; exact fin a i
  | succ d ih =>
    intro k a hk i
    rcases step k a (by omega) i with q | ⟨a1, i1, e1⟩
    · exact q
    · rw [e1]; exact ih (k + 1) a1 (by omega) i1
theorem or_sub {k s : Int32} (h : s &&& (k ^^^ (-1)) = 0) : k ||| s = k := by
  have e : ∀ x : BitVec 32, ∀ y : BitVec 32, y &&& (x ^^^ (-1#32)) = 0#32 → x ||| y = x := by
    intro x y h
    ext i hi
    have h2 := congrArg (fun z : BitVec 32 => z.getLsbD i) h
    simp at h2
    have : y[i] = true → x[i] = true := by
      have h3 : (-1#32 : BitVec 32).getLsbD i = true := by
        rw [show (-1#32 : BitVec 32) = BitVec.allOnes 32 from by decide, BitVec.getLsbD_allOnes]; simpa using hi
      grind
    grind
  apply Int32.toBitVec_inj.mp
  have h2 := congrArg Int32.toBitVec h
  rw [Int32.toBitVec_and, Int32.toBitVec_xor] at h2
  rw [Int32.toBitVec_or]
  exact e _ _ h2
theorem x_dup2i {sc : Nat × (Nat → Int32)} {pp : Nat → Nat → Int32 → Int32 → Hp → Option (Hp × Int32)} {rec : Rec} {mi pc n cu su : Nat} {is : List Nat} {r : List MI} {lv : Lv} {st : List Value} {h : Hp} {x : Int32} {a : Nat} : exS sc pp rec mi pc ((.dup2, n, is) :: r) lv (.int x :: .ref a :: st) cu su h = exS sc pp rec mi (pc + n) r lv (.int x :: .ref a :: .int x :: .ref a :: st) cu su h := (rfl)
section T25
variable {sc : Nat × (Nat → Int32)} {pp : Nat → Nat → Int32 → Int32 → Hp → Option (Hp × Int32)}
theorem r_hears (u c s p q : Nat) (fl : Nat → Int32) (co st : Mx) (h : Hp) (hU : repU h u c fl) (hC : repC h c co) (hS : repS h s st) (hcu : c + 24 ≤ u) (hsu : s + 5 ≤ u) (hp : p < 5) (hq : q < 8) (hw : wfC co) : ∃ h', Lm sc pp 145 0 [some (.ref u), some (.ref s), some (.int (nI p)), some (.int (nI q)), none, none] [] 0 0 h = some (h', some (.int (b32 (hearsA fl co st p q)))) ∧ Fr h h' [u + 1, u + 2] := by
  obtain ⟨h', e, f⟩ := c_hears (sc := sc) (pp := pp) u c s p q _ _ h hU.1 hU.2.1 hC.1 hS.1 hcu hsu hp hq (hC.codes (by omega) hw.s21)
  refine ⟨h', ?_, f⟩
  rw [e, worthA_eq hU hC hS hp (by omega), hC.2 11 (by omega), hC.2 8 (by omega), hU.e7]
  rfl
theorem r_isIn (u c s p : Nat) (room : Int32) (fl : Nat → Int32) (st : Mx) (h : Hp) (hU : repU h u c fl) (hS : repS h s st) (hp : p < 5) : Lm sc pp 144 0 [some (.ref u), some (.ref s), some (.int (nI p)), some (.int room)] [] 0 0 h = some (h, some (.int (b32 (st 2 p = room ∧ bitM (fl 4) p = 0)))) := by
  rw [c_isIn u s p room h hU.1 hS.1 hp, hS.2.2.1 p hp, hU.e4]
  by_cases a : st 2 p = room ∧ bitM (fl 4) p = 0
  · rw [b32_t a]; unfold bitM at a; rw [if_pos a]
  · rw [b32_f a]; unfold bitM at a; rw [if_neg a]
/-- who hears: one round -/
theorem r_hear1 (u c s one other q k : Nat) (room sup : Int32) (o8 : Option Value) (fl : Nat → Int32) (co st : Mx) (h : Hp) (hU : repU h u c fl) (hC : repC h c co) (hS : repS h s st) (hcu : c + 24 ≤ u) (hsc : s + 5 ≤ c) (hk : k < npO co) (hq : q < 8) (h1 : one < 5) (hw : wfC co) : ∃ h', (Fr h h' [u + 1, u + 2, s + 1] ∧ repS h' s (hearS fl co one q room sup k st)) ∧ Lm sc pp 149 42 [some (.ref u), some (.ref s), some (.int (nI one)), some (.int (nI other)), some (.int (nI q)), some (.int room), some (.int sup), some (.int (nI k)), o8] [] 0 0 h = Lm sc pp 149 42 [some (.ref u), some (.ref s), some (.int (nI one)), some (.int (nI other)), some (.int (nI q)), some (.int room), some (.int sup), some (.int (nI (k + 1))), o8] [] 0 0 h' := by
  have hm := hw.p.2
  have hk5 : k < 5 := by omega
  have zc : ¬ nI (npO co) ≤ nI k := nI_ge (by omega) (by omega)
  have eo : nI k = nI one ↔ k = one := nI_eq (by omega) (by omega)
  have em : hI h (c + 3) 2 = nI (npO co) := by rw [hC.2 3 (by omega)]; exact hw.p.1
  have ein := r_isIn (sc := sc) (pp := pp) u c s k room fl st h hU hS hk5
  obtain ⟨h2, eh, f2⟩ := r_hears (sc := sc) (pp := pp) u c s k q fl co st h hU hC hS hcu (by omega) hk5 hq hw
  have j1 := hS.2.1 k hk5
  rw [L_149_42]
  have same : ∀ P : Prop, ¬ (k ≠ one ∧ st 2 k = room ∧ bitM (fl 4) k = 0 ∧ hearsA fl co st k q) → hearS fl co one q room sup k st = st := fun _ hn => if_neg hn
  by_cases a1 : k = one
  · subst a1
    refine ⟨h, ⟨Fr.refl _ _, ?_⟩, ?_⟩
    · rw [same True (by simp)]; exact hS
    · simp only [x_nil, Nat.reduceAdd, x_aload_n1, x_getR, x_iload_n2, x_dup2, x_iald, x_iconst_1, x_iadd, x_iast, x_dupI, x_dupA, x_getI, x_putI, x_istore5, x_aload_n0, x_iload4, K_119, bindR_some, toL_s, toL_n, ap_n, ap_c, List.map_nil, List.map_cons, List.sum_nil, List.sum_cons, cat_i, cat_r, cat_l, Nat.reduceLeDiff, Nat.zero_le, Nat.le_refl, x_istore6, x_iconst_0, x_istore7, x_iload7, x_icmp_ge, x_icmp_eq, x_iload5, K_144, x_if_eq, x_iload6, x_iconst_m1, x_ixor, x_iand, K_145, x_ior, x_iinc7, x_goto, x_iconst_3, x_iload_n3, K_146, K_148, x_if_ne, x_zreturn, x_istore8, x_iload8, x_ishl, x_iinc8, L_149_37, L_149_57, L_149_63, L_149_72, L_149_75, L_149_90, L_149_99, L_149_102, L_149_114, L_149_146, L_149_152, L_149_159, L_149_162, L_149_170, L_149_173, L_149_175, L_149_178, L_149_193, L_149_202, L_149_205, L_149_219, L_149_225, U_k0 hU.1, hU.2.1, C_k0 hC.1, C_r0_1 hC.1, C_k3 hC.1, em, zc, ofInt1, nI_1, ne_eq, not_true_eq_false, not_false_eq_true, if_true, if_false, and_self, or_self, true_or, or_true, and_true, true_and, and_false, false_and, or_false, false_or, Nat.reduceEqDiff]
  · by_cases a2 : st 2 k = room ∧ bitM (fl 4) k = 0
    · rw [b32_t a2] at ein
      by_cases a3 : sup &&& (st 1 k ^^^ (-1)) = 0
      · refine ⟨h, ⟨Fr.refl _ _, ?_⟩, ?_⟩
        · unfold hearS
          split
          · rw [or_sub a3]
            have : up2 st 1 k (st 1 k) = st := by
              funext a b; rw [up2_at]; split
              · next g => rw [g.1, g.2]
              · rfl
            rw [this]; exact hS
          · exact hS
        · simp only [x_nil, Nat.reduceAdd, x_aload_n1, x_getR, x_iload_n2, x_dup2, x_iald, x_iconst_1, x_iadd, x_iast, x_dupI, x_dupA, x_getI, x_putI, x_istore5, x_aload_n0, x_iload4, K_119, bindR_some, toL_s, toL_n, ap_n, ap_c, List.map_nil, List.map_cons, List.sum_nil, List.sum_cons, cat_i, cat_r, cat_l, Nat.reduceLeDiff, Nat.zero_le, Nat.le_refl, x_istore6, x_iconst_0, x_istore7, x_iload7, x_icmp_ge, x_icmp_eq, x_iload5, K_144, x_if_eq, x_iload6, x_iconst_m1, x_ixor, x_iand, K_145, x_ior, x_iinc7, x_goto, x_iconst_3, x_iload_n3, K_146, K_148, x_if_ne, x_zreturn, x_istore8, x_iload8, x_ishl, x_iinc8, L_149_37, L_149_57, L_149_63, L_149_72, L_149_75, L_149_90, L_149_99, L_149_102, L_149_114, L_149_146, L_149_152, L_149_159, L_149_162, L_149_170, L_149_173, L_149_175, L_149_178, L_149_193, L_149_202, L_149_205, L_149_219, L_149_225, U_k0 hU.1, hU.2.1, C_k0 hC.1, C_r0_1 hC.1, C_k3 hC.1, em, zc, eo, a1, ein, S_k0 hS.1, S_k1 hS.1, S_k2 hS.1, S_k3 hS.1, S_k4 hS.1, S_n1 hS.1, S_n2 hS.1, S_n3 hS.1, S_n4 hS.1, S_r0_0 hS.1, S_r0_1 hS.1, S_r0_2 hS.1, S_r0_3 hS.1, nI_clamp (show k < 2 ^ 31 by omega), show ¬ nI k < 0 from nI_pos (by omega), show ¬ 5 ≤ k by omega, j1, a3, ofInt1, nI_1, show ¬ (1 : Int32) = 0 from by decide, ne_eq, not_true_eq_false, not_false_eq_true, if_true, if_false, and_self, or_self, true_or, or_true, and_true, true_and, and_false, false_and, or_false, false_or, Nat.reduceEqDiff]
      · by_cases a4 : hearsA fl co st k q
        · rw [b32_t a4] at eh
          have hS2 := hS.1.move f2
          have i1 : hI h2 (s + 1) = hI h (s + 1) := f2.I (by simp; omega)
          refine ⟨sI h2 (s + 1) k (st 1 k ||| sup), ⟨(f2.mono (by simp)).trans (Fr_sI (by simp)), ?_⟩, ?_⟩
          · unfold hearS
            rw [if_pos ⟨a1, a2.1, a2.2, a4⟩]
            exact (hS.move f2 (by simp; omega)).set (by omega)
          · simp only [x_nil, Nat.reduceAdd, x_aload_n1, x_getR, x_iload_n2, x_dup2, x_iald, x_iconst_1, x_iadd, x_iast, x_dupI, x_dupA, x_getI, x_putI, x_istore5, x_aload_n0, x_iload4, K_119, bindR_some, toL_s, toL_n, ap_n, ap_c, List.map_nil, List.map_cons, List.sum_nil, List.sum_cons, cat_i, cat_r, cat_l, Nat.reduceLeDiff, Nat.zero_le, Nat.le_refl, x_istore6, x_iconst_0, x_istore7, x_iload7, x_icmp_ge, x_icmp_eq, x_iload5, K_144, x_if_eq, x_iload6, x_iconst_m1, x_ixor, x_iand, K_145, x_ior, x_iinc7, x_goto, x_iconst_3, x_iload_n3, K_146, K_148, x_if_ne, x_zreturn, x_istore8, x_iload8, x_ishl, x_iinc8, L_149_37, L_149_57, L_149_63, L_149_72, L_149_75, L_149_90, L_149_99, L_149_102, L_149_114, L_149_146, L_149_152, L_149_159, L_149_162, L_149_170, L_149_173, L_149_175, L_149_178, L_149_193, L_149_202, L_149_205, L_149_219, L_149_225, x_dup2i, U_k0 hU.1, hU.2.1, C_k0 hC.1, C_r0_1 hC.1, C_k3 hC.1, em, zc, eo, a1, ein, eh, S_k0 hS.1, S_k1 hS.1, S_k2 hS.1, S_k3 hS.1, S_k4 hS.1, S_n1 hS.1, S_n2 hS.1, S_n3 hS.1, S_n4 hS.1, S_r0_0 hS.1, S_r0_1 hS.1, S_r0_2 hS.1, S_r0_3 hS.1, S_k0 hS2, S_k1 hS2, S_k2 hS2, S_k3 hS2, S_k4 hS2, S_n1 hS2, S_n2 hS2, S_n3 hS2, S_n4 hS2, S_r0_0 hS2, S_r0_1 hS2, S_r0_2 hS2, S_r0_3 hS2, nI_clamp (show k < 2 ^ 31 by omega), show ¬ nI k < 0 from nI_pos (by omega), show ¬ 5 ≤ k by omega, i1, j1, a3, ofInt1, nI_1, show ¬ (1 : Int32) = 0 from by decide, ne_eq, not_true_eq_false, not_false_eq_true, if_true, if_false, and_self, or_self, true_or, or_true, and_true, true_and, and_false, false_and, or_false, false_or, Nat.reduceEqDiff]
        · rw [b32_f a4] at eh
          refine ⟨h2, ⟨f2.mono (by simp), ?_⟩, ?_⟩
          · rw [same True (by simp [a4])]; exact hS.move f2 (by simp; omega)
          · simp only [x_nil, Nat.reduceAdd, x_aload_n1, x_getR, x_iload_n2, x_dup2, x_iald, x_iconst_1, x_iadd, x_iast, x_dupI, x_dupA, x_getI, x_putI, x_istore5, x_aload_n0, x_iload4, K_119, bindR_some, toL_s, toL_n, ap_n, ap_c, List.map_nil, List.map_cons, List.sum_nil, List.sum_cons, cat_i, cat_r, cat_l, Nat.reduceLeDiff, Nat.zero_le, Nat.le_refl, x_istore6, x_iconst_0, x_istore7, x_iload7, x_icmp_ge, x_icmp_eq, x_iload5, K_144, x_if_eq, x_iload6, x_iconst_m1, x_ixor, x_iand, K_145, x_ior, x_iinc7, x_goto, x_iconst_3, x_iload_n3, K_146, K_148, x_if_ne, x_zreturn, x_istore8, x_iload8, x_ishl, x_iinc8, L_149_37, L_149_57, L_149_63, L_149_72, L_149_75, L_149_90, L_149_99, L_149_102, L_149_114, L_149_146, L_149_152, L_149_159, L_149_162, L_149_170, L_149_173, L_149_175, L_149_178, L_149_193, L_149_202, L_149_205, L_149_219, L_149_225, U_k0 hU.1, hU.2.1, C_k0 hC.1, C_r0_1 hC.1, C_k3 hC.1, em, zc, eo, a1, ein, eh, S_k0 hS.1, S_k1 hS.1, S_k2 hS.1, S_k3 hS.1, S_k4 hS.1, S_n1 hS.1, S_n2 hS.1, S_n3 hS.1, S_n4 hS.1, S_r0_0 hS.1, S_r0_1 hS.1, S_r0_2 hS.1, S_r0_3 hS.1, nI_clamp (show k < 2 ^ 31 by omega), show ¬ nI k < 0 from nI_pos (by omega), show ¬ 5 ≤ k by omega, j1, a3, ofInt1, nI_1, show ¬ (1 : Int32) = 0 from by decide, ne_eq, not_true_eq_false, not_false_eq_true, if_true, if_false, and_self, or_self, true_or, or_true, and_true, true_and, and_false, false_and, or_false, false_or, Nat.reduceEqDiff]
    · rw [b32_f a2] at ein
      refine ⟨h, ⟨Fr.refl _ _, ?_⟩, ?_⟩
      · rw [same True (fun g => a2 ⟨g.2.1, g.2.2.1⟩)]; exact hS
      · simp only [x_nil, Nat.reduceAdd, x_aload_n1, x_getR, x_iload_n2, x_dup2, x_iald, x_iconst_1, x_iadd, x_iast, x_dupI, x_dupA, x_getI, x_putI, x_istore5, x_aload_n0, x_iload4, K_119, bindR_some, toL_s, toL_n, ap_n, ap_c, List.map_nil, List.map_cons, List.sum_nil, List.sum_cons, cat_i, cat_r, cat_l, Nat.reduceLeDiff, Nat.zero_le, Nat.le_refl, x_istore6, x_iconst_0, x_istore7, x_iload7, x_icmp_ge, x_icmp_eq, x_iload5, K_144, x_if_eq, x_iload6, x_iconst_m1, x_ixor, x_iand, K_145, x_ior, x_iinc7, x_goto, x_iconst_3, x_iload_n3, K_146, K_148, x_if_ne, x_zreturn, x_istore8, x_iload8, x_ishl, x_iinc8, L_149_37, L_149_57, L_149_63, L_149_72, L_149_75, L_149_90, L_149_99, L_149_102, L_149_114, L_149_146, L_149_152, L_149_159, L_149_162, L_149_170, L_149_173, L_149_175, L_149_178, L_149_193, L_149_202, L_149_205, L_149_219, L_149_225, U_k0 hU.1, hU.2.1, C_k0 hC.1, C_r0_1 hC.1, C_k3 hC.1, em, zc, eo, a1, ein, ofInt1, nI_1, ne_eq, not_true_eq_false, not_false_eq_true, if_true, if_false, and_self, or_self, true_or, or_true, and_true, true_and, and_false, false_and, or_false, false_or, Nat.reduceEqDiff]
end T25
