-- the words of a text, one at a time: the reference
def wdR : List Nat := [102, 97, 99, 116, 32, 112, 101, 114, 115, 111, 110, 32, 107, 110, 111, 119, 115, 32, 97, 115, 107, 32, 116, 97, 108, 107, 32, 110, 105, 110, 101, 32, 115, 101, 101, 100, 32, 108, 97, 119, 32, 112, 108, 97, 105, 110, 32, 100, 111, 117, 98, 108, 101, 32, 98, 97, 99, 107, 32, 105, 100, 108, 101, 32, 110, 111, 110, 101, 32, 115, 108, 105, 112, 32, 104, 101, 97, 114, 32, 97, 110, 100, 32, 111, 114, 32, 110, 111, 116, 32, 108, 105, 112, 115, 32, 119, 105, 116, 32, 108, 111, 115, 116, 32, 104, 101, 97, 114, 100, 32, 114, 111, 111, 109, 32, 107, 105, 110, 100, 32, 100, 97, 121, 32]
def offL : List Nat := [0, 5, 12, 18, 22, 27, 32, 37, 41, 47, 54, 59, 64, 69, 74, 79, 83, 86, 90, 95, 99, 104, 110, 115, 120, 124]
def lenL : List Nat := [4, 6, 5, 3, 4, 4, 4, 3, 5, 6, 4, 4, 4, 4, 4, 3, 2, 3, 4, 3, 4, 5, 4, 4, 3]
def codL : List Nat := [202493952, 542723566, 384294496, 53837824, 672541696, 479663104, 642945024, 404455424, 549496256, 150636933, 68267008, 306582528, 485954560, 650428416, 273729536, 48365568, 522190848, 486146048, 412634112, 781844480, 419024896, 273729664, 620213248, 378998784, 136085504]
def offW (k : Nat) : Nat := offL.getD k 0
def lenW (k : Nat) : Nat := lenL.getD k 0
def codW (k : Nat) : Nat := codL.getD k 0
def swp (k : Nat) : Nat := if k = 15 then 16 else if k = 16 then 15 else k
theorem tW1 : ∀ k, k < 25 → offW k + lenW k < 124 ∧ offW k + (lenW k + 1) = offW (k + 1) ∧ wdR.getD (offW k + lenW k) 0 = 32 ∧ 0 < lenW k ∧ lenW k ≤ 6 := by decide +kernel
theorem tW2 : ∀ k, k < 25 → ∀ j, j < 6 → j < lenW k → 97 ≤ wdR.getD (offW k + j) 0 ∧ wdR.getD (offW k + j) 0 ≤ 122 := by decide +kernel
theorem tW3 : ∀ k, k < 25 → ∀ j, j < 6 → codW k / 2 ^ (5 * (5 - j)) % 32 = if j < lenW k then wdR.getD (offW k + j) 0 - 96 else 0 := by decide +kernel
theorem tW4 : ∀ k, k < 25 → tokW.getD (swp k) 0 = nI (codW k) ∧ codW k < 2 ^ 30 := by decide +kernel
theorem tW5 : ∀ k, k < 25 → ∀ j, j < 25 → codW k = codW j → k = j := by decide +kernel
theorem off0 : offW 0 = 0 := rfl
theorem off25 : offW 25 = 124 := rfl

theorem pk_dig {t : Nat → Nat} {a L i : Nat} (hL : L ≤ 6) (hi : i < 6) (hl : ∀ j, j < L → 97 ≤ t (a + j) ∧ t (a + j) ≤ 122) : pkN t a L / 2 ^ (5 * (5 - i)) % 32 = if i < L then t (a + i) - 96 else 0 := by
  have h0 := hl 0
  have h1 := hl 1
  have h2 := hl 2
  have h3 := hl 3
  have h4 := hl 4
  have h5 := hl 5
  rcases (by omega : L = 0 ∨ L = 1 ∨ L = 2 ∨ L = 3 ∨ L = 4 ∨ L = 5 ∨ L = 6) with rfl | rfl | rfl | rfl | rfl | rfl | rfl <;> rcases (by omega : i = 0 ∨ i = 1 ∨ i = 2 ∨ i = 3 ∨ i = 4 ∨ i = 5) with rfl | rfl | rfl | rfl | rfl | rfl <;> simp [pkN] at * <;> omega
theorem pk_b30 {t : Nat → Nat} {a L : Nat} (hL : L ≤ 6) (hl : ∀ j, j < L → 97 ≤ t (a + j) ∧ t (a + j) ≤ 122) : pkN t a L < 2 ^ 30 := by
  have h0 := hl 0
  have h1 := hl 1
  have h2 := hl 2
  have h3 := hl 3
  have h4 := hl 4
  have h5 := hl 5
  rcases (by omega : L = 0 ∨ L = 1 ∨ L = 2 ∨ L = 3 ∨ L = 4 ∨ L = 5 ∨ L = 6) with rfl | rfl | rfl | rfl | rfl | rfl | rfl <;> simp [pkN] at * <;> omega
theorem dig_ext {x y : Nat} (hx : x < 2 ^ 30) (hy : y < 2 ^ 30) (hd : ∀ i, i < 6 → x / 2 ^ (5 * (5 - i)) % 32 = y / 2 ^ (5 * (5 - i)) % 32) : x = y := by
  have h0 := hd 0 (by omega)
  have h1 := hd 1 (by omega)
  have h2 := hd 2 (by omega)
  have h3 := hd 3 (by omega)
  have h4 := hd 4 (by omega)
  have h5 := hd 5 (by omega)
  simp at *
  omega
/-- the word k of the language stands at a, L letters -/
def eqW (t : Nat → Nat) (a L k : Nat) : Prop := lenW k = L ∧ ∀ j, j < L → wdR.getD (offW k + j) 0 = t (a + j)
theorem eqW_iff {t : Nat → Nat} {a L k : Nat} (hk : k < 25) (hL : L ≤ 6) (hl : ∀ j, j < L → 97 ≤ t (a + j) ∧ t (a + j) ≤ 122) : eqW t a L k ↔ codW k = pkN t a L := by
  constructor
  · rintro ⟨e1, e2⟩
    refine dig_ext (tW4 k hk).2 (pk_b30 hL hl) (fun i hi => ?_)
    rw [tW3 k hk i hi, pk_dig hL hi hl, e1]
    by_cases q : i < L
    · rw [if_pos q, if_pos q, e2 i q]
    · rw [if_neg q, if_neg q]
  · intro e
    have dg : ∀ i, i < 6 → (if i < lenW k then wdR.getD (offW k + i) 0 - 96 else 0) = if i < L then t (a + i) - 96 else 0 := fun i hi => by rw [← tW3 k hk i hi, e, pk_dig hL hi hl]
    have l6 := (tW1 k hk).2.2.2.2
    have eL : lenW k = L := by
      rcases Nat.lt_trichotomy (lenW k) L with q | q | q
      · have := dg (lenW k) (by omega)
        rw [if_neg (by omega), if_pos q] at this
        have := hl _ q
        omega
      · exact q
      · have := dg L (by omega)
        rw [if_pos q, if_neg (by omega)] at this
        have := tW2 k hk L (by omega) q
        omega
    refine ⟨eL, fun j hj => ?_⟩
    have := dg j (by omega)
    rw [if_pos (by omega), if_pos hj] at this
    have a1 := tW2 k hk j (by omega) (by omega)
    have a2 := hl j hj
    omega
noncomputable def fstW (E : Nat → Prop) : Nat → Nat → Nat
  | 0, _ => 25
  | m + 1, k => @ite _ (E k) (Classical.propDecidable _) k (fstW E m (k + 1))
theorem fstW_t {E : Nat → Prop} {m k : Nat} (e : E k) : fstW E (m + 1) k = k := if_pos e
theorem fstW_f {E : Nat → Prop} {m k : Nat} (e : ¬ E k) : fstW E (m + 1) k = fstW E m (k + 1) := if_neg e
theorem fstW_at {E : Nat → Prop} {k0 : Nat} (h0 : k0 < 25) (e0 : E k0) (u : ∀ j, j < 25 → E j → j = k0) : ∀ m k, k + m = 25 → k ≤ k0 → fstW E m k = k0 := by
  intro m
  induction m with
  | zero => intro k a b; omega
  | succ m ih =>
    intro k a b
    by_cases e : E k
    · rw [fstW_t e]; exact u k (by omega) e
    · rw [fstW_f e]
      exact ih (k + 1) (by omega) (by
        have : k ≠ k0 := fun z => e (z ▸ e0)
        omega)
theorem fstW_no {E : Nat → Prop} (u : ∀ j, j < 25 → ¬ E j) : ∀ m k, k + m = 25 → fstW E m k = 25 := by
  intro m
  induction m with
  | zero => intro k a; rfl
  | succ m ih =>
    intro k a
    rw [fstW_f (u k (by omega))]
    exact ih (k + 1) (by omega)
theorem wkF_at {v : Int32} {k0 : Nat} (h0 : k0 < 25) (e0 : tokW.getD k0 0 = v) (u : ∀ j, j < 25 → tokW.getD j 0 = v → j = k0) : ∀ m k, k + m = 25 → k ≤ k0 → wkF v m k = k0 := by
  intro m
  induction m with
  | zero => intro k a b; omega
  | succ m ih =>
    intro k a b
    show (if _ then _ else _) = _
    by_cases e : tokW.getD k 0 = v
    · rw [if_pos e]; exact u k (by omega) e
    · rw [if_neg e]
      exact ih (k + 1) (by omega) (by
        have : k ≠ k0 := fun z => e (z ▸ e0)
        omega)
theorem wkF_no {v : Int32} (u : ∀ j, j < 25 → ¬ tokW.getD j 0 = v) : ∀ m k, k + m = 25 → wkF v m k = 25 := by
  intro m
  induction m with
  | zero => intro k a; rfl
  | succ m ih =>
    intro k a
    show (if _ then _ else _) = _
    rw [if_neg (u k (by omega))]
    exact ih (k + 1) (by omega)
theorem swp_lt {k : Nat} (h : k < 25) : swp k < 25 := by unfold swp; split <;> (try split) <;> omega
theorem swp_swp (k : Nat) : swp (swp k) = k := by unfold swp; split <;> (try split) <;> (try split) <;> omega
/-- both look a word up alike -/
theorem word_eq {t : Nat → Nat} {a L : Nat} (hL : L ≤ 6) (hl : ∀ j, j < L → 97 ≤ t (a + j) ∧ t (a + j) ≤ 122) : fstW (eqW t a L) 25 0 = swp (wkF (nI (pkN t a L)) 25 0) := by
  have hb := pk_b30 hL hl
  have tk : ∀ j, j < 25 → (tokW.getD (swp j) 0 = nI (pkN t a L) ↔ codW j = pkN t a L) := fun j hj => by
    rw [(tW4 j hj).1]
    have := (tW4 j hj).2
    exact nI_eq (by omega) (by omega)
  by_cases q : ∃ k, k < 25 ∧ codW k = pkN t a L
  · obtain ⟨k, hk, ek⟩ := q
    have a1 : fstW (eqW t a L) 25 0 = k := fstW_at hk ((eqW_iff hk hL hl).mpr ek) (fun j hj ej => tW5 j hj k hk (((eqW_iff hj hL hl).mp ej).trans ek.symm)) 25 0 rfl (Nat.zero_le _)
    have a2 : wkF (nI (pkN t a L)) 25 0 = swp k := wkF_at (swp_lt hk) ((tk k hk).mpr ek) (fun j hj ej => by
      have ej' : tokW.getD (swp (swp j)) 0 = nI (pkN t a L) := by rw [swp_swp]; exact ej
      have := tW5 _ (swp_lt hj) k hk (((tk _ (swp_lt hj)).mp ej').trans ek.symm)
      rw [← this, swp_swp]) 25 0 rfl (Nat.zero_le _)
    rw [a1, a2, swp_swp]
  · have a1 : fstW (eqW t a L) 25 0 = 25 := fstW_no (fun j hj ej => q ⟨j, hj, (eqW_iff hj hL hl).mp ej⟩) 25 0 rfl
    have a2 : wkF (nI (pkN t a L)) 25 0 = 25 := wkF_no (fun j hj ej => q ⟨swp j, swp_lt hj, (tk _ (swp_lt hj)).mp (by rw [swp_swp]; exact ej)⟩) 25 0 rfl
    rw [a1, a2]; rfl
def ansW (k : Nat) : Int32 := if k < 25 then nI k else -1
def fR (a e : Nat) : Nat := if 99999 < a then a else 10 * a + e
def nuRel (a b : Nat) : Prop := (a = b ∧ a ≤ 99999) ∨ (99999 < a ∧ a ≤ 1000000 ∧ 99999 < b ∧ b ≤ 1000000)
theorem nu_rel {t : Nat → Nat} : ∀ m p a b, nuRel a b → nuRel (numF fC t m p a) (numF fR t m p b) := by
  intro m
  induction m with
  | zero => intro p a b h; exact h
  | succ m ih =>
    intro p a b h
    show nuRel (if _ then _ else _) (if _ then _ else _)
    by_cases q : diB t p = true
    · rw [if_pos q, if_pos q]
      have := diB_iff.mp q
      refine ih _ _ _ ?_
      unfold nuRel fC fR at *
      split <;> split <;> omega
    · rw [if_neg q, if_neg q]; exact h
/-- what the reference holds of a token -/
def tkR (k : Nat) (v rk rw : Int32) : Prop := (k < 25 ∧ rk = 1 ∧ rw = nI (swp k)) ∨ (k = 25 ∧ rk = 2 ∧ rw = v) ∨ (k = 26 ∧ rk = 3 ∧ ∃ a b, v = nI a ∧ rw = nI b ∧ nuRel a b) ∨ (k = 27 ∧ rk = 4 ∧ rw = 59) ∨ (28 ≤ k ∧ k ≤ 33 ∧ rk = 5 ∧ rw = nI (k - 28)) ∨ (k = 34 ∧ rk = 4 ∧ rw = 43) ∨ (k = 35 ∧ rk = 4 ∧ rw = 45) ∨ (k = 36 ∧ rk = 4 ∧ rw = 42) ∨ (k = 37 ∧ rk = 4 ∧ rw = 47) ∨ (k = 38 ∧ rk = 4 ∧ rw = 40) ∨ (k = 39 ∧ rk = 4 ∧ rw = 41) ∨ (k = 40 ∧ rk = 0) ∨ (k = 41 ∧ (rk = 6 ∨ (rk = 4 ∧ rw = 37)))
def KD (g : Hp) (t : Nat → Nat) : Prop := isD g ∧ (∀ j, j < 700 → hI g 198 j = nI (t j)) ∧ (∀ j, j < 124 → hI g 199 j = nI (wdR.getD j 0)) ∧ hI g 197 4 = 0 ∧ hI g 197 5 = -1
def pTk (k j : Nat) : Prop := k = 197 ∧ 7 ≤ j ∧ j ≤ 10
def qNo (_k _j : Nat) : Prop := False
theorem KD.mv {g g' : Hp} {t : Nat → Nat} {P Q : Nat → Nat → Prop} (K : KD g t) (F : FrP g g' P Q) (hP : ∀ k j, P k j → k ≠ 198 ∧ k ≠ 199 ∧ ¬ (k = 197 ∧ (j = 4 ∨ j = 5))) : KD g' t := ⟨K.1.moveP F, fun j hj => by rw [F.I (fun q => (hP _ _ q).1 rfl)]; exact K.2.1 j hj, fun j hj => by rw [F.I (fun q => (hP _ _ q).2.1 rfl)]; exact K.2.2.1 j hj, by rw [F.I (fun q => (hP _ _ q).2.2 ⟨rfl, Or.inl rfl⟩)]; exact K.2.2.2.1, by rw [F.I (fun q => (hP _ _ q).2.2 ⟨rfl, Or.inr rfl⟩)]; exact K.2.2.2.2⟩
theorem KD.mvx {g g' : Hp} {t : Nat → Nat} {P Q : Nat → Nat → Prop} (K : KD g t) (F : FrP g g' P Q) (hP : ∀ k j, P k j → k ≠ 198 ∧ k ≠ 199) (e4 : hI g' 197 4 = hI g 197 4) (e5 : hI g' 197 5 = hI g 197 5) : KD g' t := ⟨K.1.moveP F, fun j hj => by rw [F.I (fun q => (hP _ _ q).1 rfl)]; exact K.2.1 j hj, fun j hj => by rw [F.I (fun q => (hP _ _ q).2 rfl)]; exact K.2.2.1 j hj, by rw [e4]; exact K.2.2.2.1, by rw [e5]; exact K.2.2.2.2⟩
section T74
variable {sc : Nat × (Nat → Int32)} {pp : Nat → Nat → Int32 → Int32 → Hp → Option (Hp × Int32)} {g : Hp} {t : Nat → Nat} {n : Nat}
theorem d_isSmall (k : Nat) (K : KD g t) (ht : ∀ j, t j < 256) (hn : n ≤ 700) (hk : k ≤ 700) (e6 : hI g 197 6 = nI n) : Lm sc pp 68 0 [some (.ref 197), some (.int (nI k))] [] 0 0 g = some (g, some (.int (b32 (k < n ∧ leB t k = true)))) := by
  obtain ⟨hD, tp, wd, -⟩ := K
  have htk := ht k
  rw [leB_iff]
  by_cases q : n ≤ k
  · rw [b32_f (by omega)]
    simp (disch := first | assumption | omega | exact Nat.le_of_ble_eq_true rfl | exact D_k197 (by assumption) | (simp (disch := assumption) only [kdI, kdJ, kdR, D_k197]; done) | (simp only [kdI, kdJ, kdR, *]; done) | fail) only [↓reduceIte, Int32.reduceLE, Int32.reduceLT, x_nil, Nat.reduceAdd, x_iload_n1, x_aload_n0, x_getI, x_icmp_ge, x_getR, x_iald, x_bipush_97, x_icmp_lt, x_bipush_122, x_icmp_gt, x_iconst_1, x_goto, x_iconst_0, x_zreturn, L_68_0, L_68_8, L_68_19, L_68_30, L_68_34, L_68_35, ofInt1, ofIntm1, kdI, hNI, hRI, hJI, kdJ, hNJ, hIJ, hRJ, kdR, hNR, hIR, hJR, hII, hJJ, hRR, n_clamp, z_lt, z_ge, z_eq, z_le, z_gt, o_eq, o_lt, o_gt, o_le, o_ge, m_eq, n_eq, n_le, n_lt, n_sub1, nI_1, ol_add, nI_add, z_cl, o_cl, z_pos, o_pos, o_z, z_o, m_z, N_le, N_lt, q97_le, q97_lt, q97_ge, q97_gt, q97_eq, q97_mul, q97_add, q97_adl, q97_cl, q97_pos, q97_ti, q97_tj, zq97, qz97, q122_le, q122_lt, q122_ge, q122_gt, q122_eq, q122_mul, q122_add, q122_adl, q122_cl, q122_pos, q122_ti, q122_tj, zq122, qz122, ne_eq, not_true_eq_false, not_false_eq_true, if_true, if_false, and_self, or_self, true_or, or_true, and_true, true_and, and_false, false_and, or_false, false_or, Nat.reduceEqDiff, Nat.le_refl, Nat.reduceLT, Nat.reduceLeDiff, b32_01, nI_0, D_k197, D_k198, D_n198, D_r0, D_k199, D_n199, D_r3, D_k200, D_n200, D_r22, D_k201, D_n201, D_r23, D_k202, D_n202, D_r24, D_k203, D_n203, D_r25, D_k204, D_n204, D_r26, D_k205, D_n205, D_r27, D_k206, D_n206, D_r28, D_k207, D_n207, D_r29, D_k208, D_n208, D_r30, D_k209, D_n209, D_r31, D_k210, D_n210, D_r32, D_k211, D_n211, D_r33, D_k212, D_n212, D_r34, D_k213, D_n213, D_r35, D_k214, D_n214, D_r36, D_k215, D_n215, D_r37, D_k216, D_n216, D_r38, D_k217, D_n217, D_r39, D_k218, D_n218, D_r40, D_k219, D_n219, D_r41, D_k220, D_n220, D_r42, D_k221, D_n221, D_r43, D_k222, D_n222, D_r44, D_k223, D_n223, D_r45, D_k224, D_n224, D_r52, D_k225, D_n225, D_r53, D_k226, D_n226, D_r55, D_k227, D_n227, D_r56, D_k228, D_n228, D_r57, D_k229, D_n229, D_r58, D_k230, D_n230, D_r59, D_k231, D_n231, D_r68, D_k232, D_n232, D_r69, D_k233, D_n233, D_r70, D_k234, D_n234, D_r73, D_k235, D_n235, D_r74, D_k236, D_n236, D_r76, D_k237, D_n237, D_r77, D_k238, D_n238, D_r79, e6, q]
  · have ep := tp k (by omega)
    by_cases q1 : t k < 97
    · rw [b32_f (by omega)]
      simp (disch := first | assumption | omega | exact Nat.le_of_ble_eq_true rfl | exact D_k197 (by assumption) | (simp (disch := assumption) only [kdI, kdJ, kdR, D_k197]; done) | (simp only [kdI, kdJ, kdR, *]; done) | fail) only [↓reduceIte, Int32.reduceLE, Int32.reduceLT, x_nil, Nat.reduceAdd, x_iload_n1, x_aload_n0, x_getI, x_icmp_ge, x_getR, x_iald, x_bipush_97, x_icmp_lt, x_bipush_122, x_icmp_gt, x_iconst_1, x_goto, x_iconst_0, x_zreturn, L_68_0, L_68_8, L_68_19, L_68_30, L_68_34, L_68_35, ofInt1, ofIntm1, kdI, hNI, hRI, hJI, kdJ, hNJ, hIJ, hRJ, kdR, hNR, hIR, hJR, hII, hJJ, hRR, n_clamp, z_lt, z_ge, z_eq, z_le, z_gt, o_eq, o_lt, o_gt, o_le, o_ge, m_eq, n_eq, n_le, n_lt, n_sub1, nI_1, ol_add, nI_add, z_cl, o_cl, z_pos, o_pos, o_z, z_o, m_z, N_le, N_lt, q97_le, q97_lt, q97_ge, q97_gt, q97_eq, q97_mul, q97_add, q97_adl, q97_cl, q97_pos, q97_ti, q97_tj, zq97, qz97, q122_le, q122_lt, q122_ge, q122_gt, q122_eq, q122_mul, q122_add, q122_adl, q122_cl, q122_pos, q122_ti, q122_tj, zq122, qz122, ne_eq, not_true_eq_false, not_false_eq_true, if_true, if_false, and_self, or_self, true_or, or_true, and_true, true_and, and_false, false_and, or_false, false_or, Nat.reduceEqDiff, Nat.le_refl, Nat.reduceLT, Nat.reduceLeDiff, b32_01, nI_0, D_k197, D_k198, D_n198, D_r0, D_k199, D_n199, D_r3, D_k200, D_n200, D_r22, D_k201, D_n201, D_r23, D_k202, D_n202, D_r24, D_k203, D_n203, D_r25, D_k204, D_n204, D_r26, D_k205, D_n205, D_r27, D_k206, D_n206, D_r28, D_k207, D_n207, D_r29, D_k208, D_n208, D_r30, D_k209, D_n209, D_r31, D_k210, D_n210, D_r32, D_k211, D_n211, D_r33, D_k212, D_n212, D_r34, D_k213, D_n213, D_r35, D_k214, D_n214, D_r36, D_k215, D_n215, D_r37, D_k216, D_n216, D_r38, D_k217, D_n217, D_r39, D_k218, D_n218, D_r40, D_k219, D_n219, D_r41, D_k220, D_n220, D_r42, D_k221, D_n221, D_r43, D_k222, D_n222, D_r44, D_k223, D_n223, D_r45, D_k224, D_n224, D_r52, D_k225, D_n225, D_r53, D_k226, D_n226, D_r55, D_k227, D_n227, D_r56, D_k228, D_n228, D_r57, D_k229, D_n229, D_r58, D_k230, D_n230, D_r59, D_k231, D_n231, D_r68, D_k232, D_n232, D_r69, D_k233, D_n233, D_r70, D_k234, D_n234, D_r73, D_k235, D_n235, D_r74, D_k236, D_n236, D_r76, D_k237, D_n237, D_r77, D_k238, D_n238, D_r79, e6, q, ep, q1]
    · by_cases q2 : 122 < t k
      · rw [b32_f (by omega)]
        simp (disch := first | assumption | omega | exact Nat.le_of_ble_eq_true rfl | exact D_k197 (by assumption) | (simp (disch := assumption) only [kdI, kdJ, kdR, D_k197]; done) | (simp only [kdI, kdJ, kdR, *]; done) | fail) only [↓reduceIte, Int32.reduceLE, Int32.reduceLT, x_nil, Nat.reduceAdd, x_iload_n1, x_aload_n0, x_getI, x_icmp_ge, x_getR, x_iald, x_bipush_97, x_icmp_lt, x_bipush_122, x_icmp_gt, x_iconst_1, x_goto, x_iconst_0, x_zreturn, L_68_0, L_68_8, L_68_19, L_68_30, L_68_34, L_68_35, ofInt1, ofIntm1, kdI, hNI, hRI, hJI, kdJ, hNJ, hIJ, hRJ, kdR, hNR, hIR, hJR, hII, hJJ, hRR, n_clamp, z_lt, z_ge, z_eq, z_le, z_gt, o_eq, o_lt, o_gt, o_le, o_ge, m_eq, n_eq, n_le, n_lt, n_sub1, nI_1, ol_add, nI_add, z_cl, o_cl, z_pos, o_pos, o_z, z_o, m_z, N_le, N_lt, q97_le, q97_lt, q97_ge, q97_gt, q97_eq, q97_mul, q97_add, q97_adl, q97_cl, q97_pos, q97_ti, q97_tj, zq97, qz97, q122_le, q122_lt, q122_ge, q122_gt, q122_eq, q122_mul, q122_add, q122_adl, q122_cl, q122_pos, q122_ti, q122_tj, zq122, qz122, ne_eq, not_true_eq_false, not_false_eq_true, if_true, if_false, and_self, or_self, true_or, or_true, and_true, true_and, and_false, false_and, or_false, false_or, Nat.reduceEqDiff, Nat.le_refl, Nat.reduceLT, Nat.reduceLeDiff, b32_01, nI_0, D_k197, D_k198, D_n198, D_r0, D_k199, D_n199, D_r3, D_k200, D_n200, D_r22, D_k201, D_n201, D_r23, D_k202, D_n202, D_r24, D_k203, D_n203, D_r25, D_k204, D_n204, D_r26, D_k205, D_n205, D_r27, D_k206, D_n206, D_r28, D_k207, D_n207, D_r29, D_k208, D_n208, D_r30, D_k209, D_n209, D_r31, D_k210, D_n210, D_r32, D_k211, D_n211, D_r33, D_k212, D_n212, D_r34, D_k213, D_n213, D_r35, D_k214, D_n214, D_r36, D_k215, D_n215, D_r37, D_k216, D_n216, D_r38, D_k217, D_n217, D_r39, D_k218, D_n218, D_r40, D_k219, D_n219, D_r41, D_k220, D_n220, D_r42, D_k221, D_n221, D_r43, D_k222, D_n222, D_r44, D_k223, D_n223, D_r45, D_k224, D_n224, D_r52, D_k225, D_n225, D_r53, D_k226, D_n226, D_r55, D_k227, D_n227, D_r56, D_k228, D_n228, D_r57, D_k229, D_n229, D_r58, D_k230, D_n230, D_r59, D_k231, D_n231, D_r68, D_k232, D_n232, D_r69, D_k233, D_n233, D_r70, D_k234, D_n234, D_r73, D_k235, D_n235, D_r74, D_k236, D_n236, D_r76, D_k237, D_n237, D_r77, D_k238, D_n238, D_r79, e6, q, ep, q1, q2]
      · rw [b32_t (by omega)]
        simp (disch := first | assumption | omega | exact Nat.le_of_ble_eq_true rfl | exact D_k197 (by assumption) | (simp (disch := assumption) only [kdI, kdJ, kdR, D_k197]; done) | (simp only [kdI, kdJ, kdR, *]; done) | fail) only [↓reduceIte, Int32.reduceLE, Int32.reduceLT, x_nil, Nat.reduceAdd, x_iload_n1, x_aload_n0, x_getI, x_icmp_ge, x_getR, x_iald, x_bipush_97, x_icmp_lt, x_bipush_122, x_icmp_gt, x_iconst_1, x_goto, x_iconst_0, x_zreturn, L_68_0, L_68_8, L_68_19, L_68_30, L_68_34, L_68_35, ofInt1, ofIntm1, kdI, hNI, hRI, hJI, kdJ, hNJ, hIJ, hRJ, kdR, hNR, hIR, hJR, hII, hJJ, hRR, n_clamp, z_lt, z_ge, z_eq, z_le, z_gt, o_eq, o_lt, o_gt, o_le, o_ge, m_eq, n_eq, n_le, n_lt, n_sub1, nI_1, ol_add, nI_add, z_cl, o_cl, z_pos, o_pos, o_z, z_o, m_z, N_le, N_lt, q97_le, q97_lt, q97_ge, q97_gt, q97_eq, q97_mul, q97_add, q97_adl, q97_cl, q97_pos, q97_ti, q97_tj, zq97, qz97, q122_le, q122_lt, q122_ge, q122_gt, q122_eq, q122_mul, q122_add, q122_adl, q122_cl, q122_pos, q122_ti, q122_tj, zq122, qz122, ne_eq, not_true_eq_false, not_false_eq_true, if_true, if_false, and_self, or_self, true_or, or_true, and_true, true_and, and_false, false_and, or_false, false_or, Nat.reduceEqDiff, Nat.le_refl, Nat.reduceLT, Nat.reduceLeDiff, b32_01, nI_0, D_k197, D_k198, D_n198, D_r0, D_k199, D_n199, D_r3, D_k200, D_n200, D_r22, D_k201, D_n201, D_r23, D_k202, D_n202, D_r24, D_k203, D_n203, D_r25, D_k204, D_n204, D_r26, D_k205, D_n205, D_r27, D_k206, D_n206, D_r28, D_k207, D_n207, D_r29, D_k208, D_n208, D_r30, D_k209, D_n209, D_r31, D_k210, D_n210, D_r32, D_k211, D_n211, D_r33, D_k212, D_n212, D_r34, D_k213, D_n213, D_r35, D_k214, D_n214, D_r36, D_k215, D_n215, D_r37, D_k216, D_n216, D_r38, D_k217, D_n217, D_r39, D_k218, D_n218, D_r40, D_k219, D_n219, D_r41, D_k220, D_n220, D_r42, D_k221, D_n221, D_r43, D_k222, D_n222, D_r44, D_k223, D_n223, D_r45, D_k224, D_n224, D_r52, D_k225, D_n225, D_r53, D_k226, D_n226, D_r55, D_k227, D_n227, D_r56, D_k228, D_n228, D_r57, D_k229, D_n229, D_r58, D_k230, D_n230, D_r59, D_k231, D_n231, D_r68, D_k232, D_n232, D_r69, D_k233, D_n233, D_r70, D_k234, D_n234, D_r73, D_k235, D_n235, D_r74, D_k236, D_n236, D_r76, D_k237, D_n237, D_r77, D_k238, D_n238, D_r79, e6, q, ep, q1, q2]
theorem d_isDigit (k : Nat) (K : KD g t) (ht : ∀ j, t j < 256) (hn : n ≤ 700) (hk : k ≤ 700) (e6 : hI g 197 6 = nI n) : Lm sc pp 71 0 [some (.ref 197), some (.int (nI k))] [] 0 0 g = some (g, some (.int (b32 (k < n ∧ diB t k = true)))) := by
  obtain ⟨hD, tp, wd, -⟩ := K
  have htk := ht k
  rw [diB_iff]
  by_cases q : n ≤ k
  · rw [b32_f (by omega)]
    simp (disch := first | assumption | omega | exact Nat.le_of_ble_eq_true rfl | exact D_k197 (by assumption) | (simp (disch := assumption) only [kdI, kdJ, kdR, D_k197]; done) | (simp only [kdI, kdJ, kdR, *]; done) | fail) only [↓reduceIte, Int32.reduceLE, Int32.reduceLT, x_nil, Nat.reduceAdd, x_iload_n1, x_aload_n0, x_getI, x_icmp_ge, x_getR, x_iald, x_bipush_48, x_icmp_lt, x_bipush_57, x_icmp_gt, x_iconst_1, x_goto, x_iconst_0, x_zreturn, L_71_0, L_71_8, L_71_19, L_71_30, L_71_34, L_71_35, ofInt1, ofIntm1, kdI, hNI, hRI, hJI, kdJ, hNJ, hIJ, hRJ, kdR, hNR, hIR, hJR, hII, hJJ, hRR, n_clamp, z_lt, z_ge, z_eq, z_le, z_gt, o_eq, o_lt, o_gt, o_le, o_ge, m_eq, n_eq, n_le, n_lt, n_sub1, nI_1, ol_add, nI_add, z_cl, o_cl, z_pos, o_pos, o_z, z_o, m_z, N_le, N_lt, q48_le, q48_lt, q48_ge, q48_gt, q48_eq, q48_mul, q48_add, q48_adl, q48_cl, q48_pos, q48_ti, q48_tj, zq48, qz48, q57_le, q57_lt, q57_ge, q57_gt, q57_eq, q57_mul, q57_add, q57_adl, q57_cl, q57_pos, q57_ti, q57_tj, zq57, qz57, ne_eq, not_true_eq_false, not_false_eq_true, if_true, if_false, and_self, or_self, true_or, or_true, and_true, true_and, and_false, false_and, or_false, false_or, Nat.reduceEqDiff, Nat.le_refl, Nat.reduceLT, Nat.reduceLeDiff, b32_01, nI_0, D_k197, D_k198, D_n198, D_r0, D_k199, D_n199, D_r3, D_k200, D_n200, D_r22, D_k201, D_n201, D_r23, D_k202, D_n202, D_r24, D_k203, D_n203, D_r25, D_k204, D_n204, D_r26, D_k205, D_n205, D_r27, D_k206, D_n206, D_r28, D_k207, D_n207, D_r29, D_k208, D_n208, D_r30, D_k209, D_n209, D_r31, D_k210, D_n210, D_r32, D_k211, D_n211, D_r33, D_k212, D_n212, D_r34, D_k213, D_n213, D_r35, D_k214, D_n214, D_r36, D_k215, D_n215, D_r37, D_k216, D_n216, D_r38, D_k217, D_n217, D_r39, D_k218, D_n218, D_r40, D_k219, D_n219, D_r41, D_k220, D_n220, D_r42, D_k221, D_n221, D_r43, D_k222, D_n222, D_r44, D_k223, D_n223, D_r45, D_k224, D_n224, D_r52, D_k225, D_n225, D_r53, D_k226, D_n226, D_r55, D_k227, D_n227, D_r56, D_k228, D_n228, D_r57, D_k229, D_n229, D_r58, D_k230, D_n230, D_r59, D_k231, D_n231, D_r68, D_k232, D_n232, D_r69, D_k233, D_n233, D_r70, D_k234, D_n234, D_r73, D_k235, D_n235, D_r74, D_k236, D_n236, D_r76, D_k237, D_n237, D_r77, D_k238, D_n238, D_r79, e6, q]
  · have ep := tp k (by omega)
    by_cases q1 : t k < 48
    · rw [b32_f (by omega)]
      simp (disch := first | assumption | omega | exact Nat.le_of_ble_eq_true rfl | exact D_k197 (by assumption) | (simp (disch := assumption) only [kdI, kdJ, kdR, D_k197]; done) | (simp only [kdI, kdJ, kdR, *]; done) | fail) only [↓reduceIte, Int32.reduceLE, Int32.reduceLT, x_nil, Nat.reduceAdd, x_iload_n1, x_aload_n0, x_getI, x_icmp_ge, x_getR, x_iald, x_bipush_48, x_icmp_lt, x_bipush_57, x_icmp_gt, x_iconst_1, x_goto, x_iconst_0, x_zreturn, L_71_0, L_71_8, L_71_19, L_71_30, L_71_34, L_71_35, ofInt1, ofIntm1, kdI, hNI, hRI, hJI, kdJ, hNJ, hIJ, hRJ, kdR, hNR, hIR, hJR, hII, hJJ, hRR, n_clamp, z_lt, z_ge, z_eq, z_le, z_gt, o_eq, o_lt, o_gt, o_le, o_ge, m_eq, n_eq, n_le, n_lt, n_sub1, nI_1, ol_add, nI_add, z_cl, o_cl, z_pos, o_pos, o_z, z_o, m_z, N_le, N_lt, q48_le, q48_lt, q48_ge, q48_gt, q48_eq, q48_mul, q48_add, q48_adl, q48_cl, q48_pos, q48_ti, q48_tj, zq48, qz48, q57_le, q57_lt, q57_ge, q57_gt, q57_eq, q57_mul, q57_add, q57_adl, q57_cl, q57_pos, q57_ti, q57_tj, zq57, qz57, ne_eq, not_true_eq_false, not_false_eq_true, if_true, if_false, and_self, or_self, true_or, or_true, and_true, true_and, and_false, false_and, or_false, false_or, Nat.reduceEqDiff, Nat.le_refl, Nat.reduceLT, Nat.reduceLeDiff, b32_01, nI_0, D_k197, D_k198, D_n198, D_r0, D_k199, D_n199, D_r3, D_k200, D_n200, D_r22, D_k201, D_n201, D_r23, D_k202, D_n202, D_r24, D_k203, D_n203, D_r25, D_k204, D_n204, D_r26, D_k205, D_n205, D_r27, D_k206, D_n206, D_r28, D_k207, D_n207, D_r29, D_k208, D_n208, D_r30, D_k209, D_n209, D_r31, D_k210, D_n210, D_r32, D_k211, D_n211, D_r33, D_k212, D_n212, D_r34, D_k213, D_n213, D_r35, D_k214, D_n214, D_r36, D_k215, D_n215, D_r37, D_k216, D_n216, D_r38, D_k217, D_n217, D_r39, D_k218, D_n218, D_r40, D_k219, D_n219, D_r41, D_k220, D_n220, D_r42, D_k221, D_n221, D_r43, D_k222, D_n222, D_r44, D_k223, D_n223, D_r45, D_k224, D_n224, D_r52, D_k225, D_n225, D_r53, D_k226, D_n226, D_r55, D_k227, D_n227, D_r56, D_k228, D_n228, D_r57, D_k229, D_n229, D_r58, D_k230, D_n230, D_r59, D_k231, D_n231, D_r68, D_k232, D_n232, D_r69, D_k233, D_n233, D_r70, D_k234, D_n234, D_r73, D_k235, D_n235, D_r74, D_k236, D_n236, D_r76, D_k237, D_n237, D_r77, D_k238, D_n238, D_r79, e6, q, ep, q1]
    · by_cases q2 : 57 < t k
      · rw [b32_f (by omega)]
        simp (disch := first | assumption | omega | exact Nat.le_of_ble_eq_true rfl | exact D_k197 (by assumption) | (simp (disch := assumption) only [kdI, kdJ, kdR, D_k197]; done) | (simp only [kdI, kdJ, kdR, *]; done) | fail) only [↓reduceIte, Int32.reduceLE, Int32.reduceLT, x_nil, Nat.reduceAdd, x_iload_n1, x_aload_n0, x_getI, x_icmp_ge, x_getR, x_iald, x_bipush_48, x_icmp_lt, x_bipush_57, x_icmp_gt, x_iconst_1, x_goto, x_iconst_0, x_zreturn, L_71_0, L_71_8, L_71_19, L_71_30, L_71_34, L_71_35, ofInt1, ofIntm1, kdI, hNI, hRI, hJI, kdJ, hNJ, hIJ, hRJ, kdR, hNR, hIR, hJR, hII, hJJ, hRR, n_clamp, z_lt, z_ge, z_eq, z_le, z_gt, o_eq, o_lt, o_gt, o_le, o_ge, m_eq, n_eq, n_le, n_lt, n_sub1, nI_1, ol_add, nI_add, z_cl, o_cl, z_pos, o_pos, o_z, z_o, m_z, N_le, N_lt, q48_le, q48_lt, q48_ge, q48_gt, q48_eq, q48_mul, q48_add, q48_adl, q48_cl, q48_pos, q48_ti, q48_tj, zq48, qz48, q57_le, q57_lt, q57_ge, q57_gt, q57_eq, q57_mul, q57_add, q57_adl, q57_cl, q57_pos, q57_ti, q57_tj, zq57, qz57, ne_eq, not_true_eq_false, not_false_eq_true, if_true, if_false, and_self, or_self, true_or, or_true, and_true, true_and, and_false, false_and, or_false, false_or, Nat.reduceEqDiff, Nat.le_refl, Nat.reduceLT, Nat.reduceLeDiff, b32_01, nI_0, D_k197, D_k198, D_n198, D_r0, D_k199, D_n199, D_r3, D_k200, D_n200, D_r22, D_k201, D_n201, D_r23, D_k202, D_n202, D_r24, D_k203, D_n203, D_r25, D_k204, D_n204, D_r26, D_k205, D_n205, D_r27, D_k206, D_n206, D_r28, D_k207, D_n207, D_r29, D_k208, D_n208, D_r30, D_k209, D_n209, D_r31, D_k210, D_n210, D_r32, D_k211, D_n211, D_r33, D_k212, D_n212, D_r34, D_k213, D_n213, D_r35, D_k214, D_n214, D_r36, D_k215, D_n215, D_r37, D_k216, D_n216, D_r38, D_k217, D_n217, D_r39, D_k218, D_n218, D_r40, D_k219, D_n219, D_r41, D_k220, D_n220, D_r42, D_k221, D_n221, D_r43, D_k222, D_n222, D_r44, D_k223, D_n223, D_r45, D_k224, D_n224, D_r52, D_k225, D_n225, D_r53, D_k226, D_n226, D_r55, D_k227, D_n227, D_r56, D_k228, D_n228, D_r57, D_k229, D_n229, D_r58, D_k230, D_n230, D_r59, D_k231, D_n231, D_r68, D_k232, D_n232, D_r69, D_k233, D_n233, D_r70, D_k234, D_n234, D_r73, D_k235, D_n235, D_r74, D_k236, D_n236, D_r76, D_k237, D_n237, D_r77, D_k238, D_n238, D_r79, e6, q, ep, q1, q2]
      · rw [b32_t (by omega)]
        simp (disch := first | assumption | omega | exact Nat.le_of_ble_eq_true rfl | exact D_k197 (by assumption) | (simp (disch := assumption) only [kdI, kdJ, kdR, D_k197]; done) | (simp only [kdI, kdJ, kdR, *]; done) | fail) only [↓reduceIte, Int32.reduceLE, Int32.reduceLT, x_nil, Nat.reduceAdd, x_iload_n1, x_aload_n0, x_getI, x_icmp_ge, x_getR, x_iald, x_bipush_48, x_icmp_lt, x_bipush_57, x_icmp_gt, x_iconst_1, x_goto, x_iconst_0, x_zreturn, L_71_0, L_71_8, L_71_19, L_71_30, L_71_34, L_71_35, ofInt1, ofIntm1, kdI, hNI, hRI, hJI, kdJ, hNJ, hIJ, hRJ, kdR, hNR, hIR, hJR, hII, hJJ, hRR, n_clamp, z_lt, z_ge, z_eq, z_le, z_gt, o_eq, o_lt, o_gt, o_le, o_ge, m_eq, n_eq, n_le, n_lt, n_sub1, nI_1, ol_add, nI_add, z_cl, o_cl, z_pos, o_pos, o_z, z_o, m_z, N_le, N_lt, q48_le, q48_lt, q48_ge, q48_gt, q48_eq, q48_mul, q48_add, q48_adl, q48_cl, q48_pos, q48_ti, q48_tj, zq48, qz48, q57_le, q57_lt, q57_ge, q57_gt, q57_eq, q57_mul, q57_add, q57_adl, q57_cl, q57_pos, q57_ti, q57_tj, zq57, qz57, ne_eq, not_true_eq_false, not_false_eq_true, if_true, if_false, and_self, or_self, true_or, or_true, and_true, true_and, and_false, false_and, or_false, false_or, Nat.reduceEqDiff, Nat.le_refl, Nat.reduceLT, Nat.reduceLeDiff, b32_01, nI_0, D_k197, D_k198, D_n198, D_r0, D_k199, D_n199, D_r3, D_k200, D_n200, D_r22, D_k201, D_n201, D_r23, D_k202, D_n202, D_r24, D_k203, D_n203, D_r25, D_k204, D_n204, D_r26, D_k205, D_n205, D_r27, D_k206, D_n206, D_r28, D_k207, D_n207, D_r29, D_k208, D_n208, D_r30, D_k209, D_n209, D_r31, D_k210, D_n210, D_r32, D_k211, D_n211, D_r33, D_k212, D_n212, D_r34, D_k213, D_n213, D_r35, D_k214, D_n214, D_r36, D_k215, D_n215, D_r37, D_k216, D_n216, D_r38, D_k217, D_n217, D_r39, D_k218, D_n218, D_r40, D_k219, D_n219, D_r41, D_k220, D_n220, D_r42, D_k221, D_n221, D_r43, D_k222, D_n222, D_r44, D_k223, D_n223, D_r45, D_k224, D_n224, D_r52, D_k225, D_n225, D_r53, D_k226, D_n226, D_r55, D_k227, D_n227, D_r56, D_k228, D_n228, D_r57, D_k229, D_n229, D_r58, D_k230, D_n230, D_r59, D_k231, D_n231, D_r68, D_k232, D_n232, D_r69, D_k233, D_n233, D_r70, D_k234, D_n234, D_r73, D_k235, D_n235, D_r74, D_k236, D_n236, D_r76, D_k237, D_n237, D_r77, D_k238, D_n238, D_r79, e6, q, ep, q1, q2]
theorem d_wlen (K : KD g t) (a b k f l : Nat) (o6 o7 : Option Value) (hf : f + l < 124) (e32 : wdR.getD (f + l) 0 = 32) (ne : ∀ j, j < l → ¬ wdR.getD (f + j) 0 = 32) : ∀ (m i : Nat), i + m = l → Lm sc pp 69 18 [some (.ref 197), some (.int (nI a)), some (.int (nI b)), some (.int (nI k)), some (.int (nI f)), some (.int (nI i)), o6, o7] [] 0 0 g = Lm sc pp 69 39 [some (.ref 197), some (.int (nI a)), some (.int (nI b)), some (.int (nI k)), some (.int (nI f)), some (.int (nI l)), o6, o7] [] 0 0 g := by
  obtain ⟨hD, tp, wd, -⟩ := K
  have hw : ∀ j, wdR.getD j 0 < 256 := by
    intro j
    by_cases q : j < 124
    · exact (by decide +kernel : ∀ j, j < 124 → wdR.getD j 0 < 256) j q
    · rw [getD_ge (show wdR.length ≤ j from Nat.le_of_not_lt q)]; omega
  intro m
  induction m with
  | zero =>
    intro i hi
    have : i = l := by omega
    subst this
    have ew := wd (f + i) hf
    rw [e32] at ew
    rw [L_69_18]
    simp (disch := first | assumption | omega | exact Nat.le_of_ble_eq_true rfl | exact D_k197 (by assumption) | (simp (disch := assumption) only [kdI, kdJ, kdR, D_k197]; done) | (simp only [kdI, kdJ, kdR, *]; done) | fail) only [↓reduceIte, Int32.reduceLE, Int32.reduceLT, x_nil, Nat.reduceAdd, x_iconst_0, x_istore_n3, x_istore4, x_iload4, x_aload_n0, x_getR, x_alen, x_icmp_ge, x_istore5, x_iload5, x_iadd, x_iald, x_bipush_32, x_icmp_eq, x_iinc5, x_goto, x_iload_n2, x_iload_n1, x_isub, x_icmp_ne, x_iconst_1, x_istore6, x_istore7, x_iload7, x_iload6, x_if_eq, x_iinc7, x_iload_n3, x_ireturn, x_iinc3, x_iconst_m1, L_69_33, ofInt1, ofIntm1, kdI, hNI, hRI, hJI, kdJ, hNJ, hIJ, hRJ, kdR, hNR, hIR, hJR, hII, hJJ, hRR, n_clamp, z_lt, z_ge, z_eq, z_le, z_gt, o_eq, o_lt, o_gt, o_le, o_ge, m_eq, n_eq, n_le, n_lt, n_sub1, nI_1, ol_add, nI_add, z_cl, o_cl, z_pos, o_pos, o_z, z_o, m_z, N_le, N_lt, q32_le, q32_lt, q32_ge, q32_gt, q32_eq, q32_mul, q32_add, q32_adl, q32_cl, q32_pos, q32_ti, q32_tj, zq32, qz32, ne_eq, not_true_eq_false, not_false_eq_true, if_true, if_false, and_self, or_self, true_or, or_true, and_true, true_and, and_false, false_and, or_false, false_or, Nat.reduceEqDiff, Nat.le_refl, Nat.reduceLT, Nat.reduceLeDiff, b32_01, nI_0, D_k197, D_k198, D_n198, D_r0, D_k199, D_n199, D_r3, D_k200, D_n200, D_r22, D_k201, D_n201, D_r23, D_k202, D_n202, D_r24, D_k203, D_n203, D_r25, D_k204, D_n204, D_r26, D_k205, D_n205, D_r27, D_k206, D_n206, D_r28, D_k207, D_n207, D_r29, D_k208, D_n208, D_r30, D_k209, D_n209, D_r31, D_k210, D_n210, D_r32, D_k211, D_n211, D_r33, D_k212, D_n212, D_r34, D_k213, D_n213, D_r35, D_k214, D_n214, D_r36, D_k215, D_n215, D_r37, D_k216, D_n216, D_r38, D_k217, D_n217, D_r39, D_k218, D_n218, D_r40, D_k219, D_n219, D_r41, D_k220, D_n220, D_r42, D_k221, D_n221, D_r43, D_k222, D_n222, D_r44, D_k223, D_n223, D_r45, D_k224, D_n224, D_r52, D_k225, D_n225, D_r53, D_k226, D_n226, D_r55, D_k227, D_n227, D_r56, D_k228, D_n228, D_r57, D_k229, D_n229, D_r58, D_k230, D_n230, D_r59, D_k231, D_n231, D_r68, D_k232, D_n232, D_r69, D_k233, D_n233, D_r70, D_k234, D_n234, D_r73, D_k235, D_n235, D_r74, D_k236, D_n236, D_r76, D_k237, D_n237, D_r77, D_k238, D_n238, D_r79, ew]
  | succ m ih =>
    intro i hi
    have ew := wd (f + i) (by omega)
    have nn := ne i (by omega)
    have h256 := hw (f + i)
    rw [← ih (i + 1) (by omega), L_69_18]
    simp (disch := first | assumption | omega | exact Nat.le_of_ble_eq_true rfl | exact D_k197 (by assumption) | (simp (disch := assumption) only [kdI, kdJ, kdR, D_k197]; done) | (simp only [kdI, kdJ, kdR, *]; done) | fail) only [↓reduceIte, Int32.reduceLE, Int32.reduceLT, x_nil, Nat.reduceAdd, x_iconst_0, x_istore_n3, x_istore4, x_iload4, x_aload_n0, x_getR, x_alen, x_icmp_ge, x_istore5, x_iload5, x_iadd, x_iald, x_bipush_32, x_icmp_eq, x_iinc5, x_goto, x_iload_n2, x_iload_n1, x_isub, x_icmp_ne, x_iconst_1, x_istore6, x_istore7, x_iload7, x_iload6, x_if_eq, x_iinc7, x_iload_n3, x_ireturn, x_iinc3, x_iconst_m1, L_69_33, ofInt1, ofIntm1, kdI, hNI, hRI, hJI, kdJ, hNJ, hIJ, hRJ, kdR, hNR, hIR, hJR, hII, hJJ, hRR, n_clamp, z_lt, z_ge, z_eq, z_le, z_gt, o_eq, o_lt, o_gt, o_le, o_ge, m_eq, n_eq, n_le, n_lt, n_sub1, nI_1, ol_add, nI_add, z_cl, o_cl, z_pos, o_pos, o_z, z_o, m_z, N_le, N_lt, q32_le, q32_lt, q32_ge, q32_gt, q32_eq, q32_mul, q32_add, q32_adl, q32_cl, q32_pos, q32_ti, q32_tj, zq32, qz32, ne_eq, not_true_eq_false, not_false_eq_true, if_true, if_false, and_self, or_self, true_or, or_true, and_true, true_and, and_false, false_and, or_false, false_or, Nat.reduceEqDiff, Nat.le_refl, Nat.reduceLT, Nat.reduceLeDiff, b32_01, nI_0, D_k197, D_k198, D_n198, D_r0, D_k199, D_n199, D_r3, D_k200, D_n200, D_r22, D_k201, D_n201, D_r23, D_k202, D_n202, D_r24, D_k203, D_n203, D_r25, D_k204, D_n204, D_r26, D_k205, D_n205, D_r27, D_k206, D_n206, D_r28, D_k207, D_n207, D_r29, D_k208, D_n208, D_r30, D_k209, D_n209, D_r31, D_k210, D_n210, D_r32, D_k211, D_n211, D_r33, D_k212, D_n212, D_r34, D_k213, D_n213, D_r35, D_k214, D_n214, D_r36, D_k215, D_n215, D_r37, D_k216, D_n216, D_r38, D_k217, D_n217, D_r39, D_k218, D_n218, D_r40, D_k219, D_n219, D_r41, D_k220, D_n220, D_r42, D_k221, D_n221, D_r43, D_k222, D_n222, D_r44, D_k223, D_n223, D_r45, D_k224, D_n224, D_r52, D_k225, D_n225, D_r53, D_k226, D_n226, D_r55, D_k227, D_n227, D_r56, D_k228, D_n228, D_r57, D_k229, D_n229, D_r58, D_k230, D_n230, D_r59, D_k231, D_n231, D_r68, D_k232, D_n232, D_r69, D_k233, D_n233, D_r70, D_k234, D_n234, D_r73, D_k235, D_n235, D_r74, D_k236, D_n236, D_r76, D_k237, D_n237, D_r77, D_k238, D_n238, D_r79, ew, nn]
theorem d_wcmp (K : KD g t) (ht : ∀ j, t j < 256) (a b k f l : Nat) (hb : b ≤ 700) (hl : a + l = b) (hf : f + l < 124) : ∀ (m i : Nat), i + m = l → (∀ j, j < i → wdR.getD (f + j) 0 = t (a + j)) → ∃ o7, Lm sc pp 69 57 [some (.ref 197), some (.int (nI a)), some (.int (nI b)), some (.int (nI k)), some (.int (nI f)), some (.int (nI l)), some (.int 1), some (.int (nI i))] [] 0 0 g = Lm sc pp 69 104 [some (.ref 197), some (.int (nI a)), some (.int (nI b)), some (.int (nI k)), some (.int (nI f)), some (.int (nI l)), some (.int (b32 (∀ j, j < l → wdR.getD (f + j) 0 = t (a + j)))), o7] [] 0 0 g := by
  obtain ⟨hD, tp, wd, -⟩ := K
  have hw : ∀ j, wdR.getD j 0 < 256 := by
    intro j
    by_cases q : j < 124
    · exact (by decide +kernel : ∀ j, j < 124 → wdR.getD j 0 < 256) j q
    · rw [getD_ge (show wdR.length ≤ j from Nat.le_of_not_lt q)]; omega
  intro m
  induction m with
  | zero =>
    intro i hi al
    have : i = l := by omega
    subst this
    refine ⟨some (.int (nI i)), ?_⟩
    rw [b32_t al, L_69_57]
    simp (disch := first | assumption | omega | exact Nat.le_of_ble_eq_true rfl | exact D_k197 (by assumption) | (simp (disch := assumption) only [kdI, kdJ, kdR, D_k197]; done) | (simp only [kdI, kdJ, kdR, *]; done) | fail) only [↓reduceIte, Int32.reduceLE, Int32.reduceLT, x_nil, Nat.reduceAdd, x_iconst_0, x_istore_n3, x_istore4, x_iload4, x_aload_n0, x_getR, x_alen, x_icmp_ge, x_istore5, x_iload5, x_iadd, x_iald, x_bipush_32, x_icmp_eq, x_iinc5, x_goto, x_iload_n2, x_iload_n1, x_isub, x_icmp_ne, x_iconst_1, x_istore6, x_istore7, x_iload7, x_iload6, x_if_eq, x_iinc7, x_iload_n3, x_ireturn, x_iinc3, x_iconst_m1, L_69_64, L_69_69, L_69_91, L_69_95, L_69_96, ofInt1, ofIntm1, kdI, hNI, hRI, hJI, kdJ, hNJ, hIJ, hRJ, kdR, hNR, hIR, hJR, hII, hJJ, hRR, n_clamp, z_lt, z_ge, z_eq, z_le, z_gt, o_eq, o_lt, o_gt, o_le, o_ge, m_eq, n_eq, n_le, n_lt, n_sub1, nI_1, ol_add, nI_add, z_cl, o_cl, z_pos, o_pos, o_z, z_o, m_z, N_le, N_lt, q32_le, q32_lt, q32_ge, q32_gt, q32_eq, q32_mul, q32_add, q32_adl, q32_cl, q32_pos, q32_ti, q32_tj, zq32, qz32, ne_eq, not_true_eq_false, not_false_eq_true, if_true, if_false, and_self, or_self, true_or, or_true, and_true, true_and, and_false, false_and, or_false, false_or, Nat.reduceEqDiff, Nat.le_refl, Nat.reduceLT, Nat.reduceLeDiff, b32_01, nI_0, D_k197, D_k198, D_n198, D_r0, D_k199, D_n199, D_r3, D_k200, D_n200, D_r22, D_k201, D_n201, D_r23, D_k202, D_n202, D_r24, D_k203, D_n203, D_r25, D_k204, D_n204, D_r26, D_k205, D_n205, D_r27, D_k206, D_n206, D_r28, D_k207, D_n207, D_r29, D_k208, D_n208, D_r30, D_k209, D_n209, D_r31, D_k210, D_n210, D_r32, D_k211, D_n211, D_r33, D_k212, D_n212, D_r34, D_k213, D_n213, D_r35, D_k214, D_n214, D_r36, D_k215, D_n215, D_r37, D_k216, D_n216, D_r38, D_k217, D_n217, D_r39, D_k218, D_n218, D_r40, D_k219, D_n219, D_r41, D_k220, D_n220, D_r42, D_k221, D_n221, D_r43, D_k222, D_n222, D_r44, D_k223, D_n223, D_r45, D_k224, D_n224, D_r52, D_k225, D_n225, D_r53, D_k226, D_n226, D_r55, D_k227, D_n227, D_r56, D_k228, D_n228, D_r57, D_k229, D_n229, D_r58, D_k230, D_n230, D_r59, D_k231, D_n231, D_r68, D_k232, D_n232, D_r69, D_k233, D_n233, D_r70, D_k234, D_n234, D_r73, D_k235, D_n235, D_r74, D_k236, D_n236, D_r76, D_k237, D_n237, D_r77, D_k238, D_n238, D_r79]
  | succ m ih =>
    intro i hi al
    have ew := wd (f + i) (by omega)
    have et := tp (a + i) (by omega)
    have h256 := hw (f + i)
    have t256 := ht (a + i)
    have il : ¬ l ≤ i := by omega
    by_cases q : wdR.getD (f + i) 0 = t (a + i)
    · obtain ⟨o7, e⟩ := ih (i + 1) (by omega) (fun j hj => by
        by_cases z : j = i
        · subst z; exact q
        · exact al j (by omega))
      refine ⟨o7, ?_⟩
      rw [← e, L_69_57]
      simp (disch := first | assumption | omega | exact Nat.le_of_ble_eq_true rfl | exact D_k197 (by assumption) | (simp (disch := assumption) only [kdI, kdJ, kdR, D_k197]; done) | (simp only [kdI, kdJ, kdR, *]; done) | fail) only [↓reduceIte, Int32.reduceLE, Int32.reduceLT, x_nil, Nat.reduceAdd, x_iconst_0, x_istore_n3, x_istore4, x_iload4, x_aload_n0, x_getR, x_alen, x_icmp_ge, x_istore5, x_iload5, x_iadd, x_iald, x_bipush_32, x_icmp_eq, x_iinc5, x_goto, x_iload_n2, x_iload_n1, x_isub, x_icmp_ne, x_iconst_1, x_istore6, x_istore7, x_iload7, x_iload6, x_if_eq, x_iinc7, x_iload_n3, x_ireturn, x_iinc3, x_iconst_m1, L_69_64, L_69_69, L_69_91, L_69_95, L_69_96, ofInt1, ofIntm1, kdI, hNI, hRI, hJI, kdJ, hNJ, hIJ, hRJ, kdR, hNR, hIR, hJR, hII, hJJ, hRR, n_clamp, z_lt, z_ge, z_eq, z_le, z_gt, o_eq, o_lt, o_gt, o_le, o_ge, m_eq, n_eq, n_le, n_lt, n_sub1, nI_1, ol_add, nI_add, z_cl, o_cl, z_pos, o_pos, o_z, z_o, m_z, N_le, N_lt, q32_le, q32_lt, q32_ge, q32_gt, q32_eq, q32_mul, q32_add, q32_adl, q32_cl, q32_pos, q32_ti, q32_tj, zq32, qz32, ne_eq, not_true_eq_false, not_false_eq_true, if_true, if_false, and_self, or_self, true_or, or_true, and_true, true_and, and_false, false_and, or_false, false_or, Nat.reduceEqDiff, Nat.le_refl, Nat.reduceLT, Nat.reduceLeDiff, b32_01, nI_0, D_k197, D_k198, D_n198, D_r0, D_k199, D_n199, D_r3, D_k200, D_n200, D_r22, D_k201, D_n201, D_r23, D_k202, D_n202, D_r24, D_k203, D_n203, D_r25, D_k204, D_n204, D_r26, D_k205, D_n205, D_r27, D_k206, D_n206, D_r28, D_k207, D_n207, D_r29, D_k208, D_n208, D_r30, D_k209, D_n209, D_r31, D_k210, D_n210, D_r32, D_k211, D_n211, D_r33, D_k212, D_n212, D_r34, D_k213, D_n213, D_r35, D_k214, D_n214, D_r36, D_k215, D_n215, D_r37, D_k216, D_n216, D_r38, D_k217, D_n217, D_r39, D_k218, D_n218, D_r40, D_k219, D_n219, D_r41, D_k220, D_n220, D_r42, D_k221, D_n221, D_r43, D_k222, D_n222, D_r44, D_k223, D_n223, D_r45, D_k224, D_n224, D_r52, D_k225, D_n225, D_r53, D_k226, D_n226, D_r55, D_k227, D_n227, D_r56, D_k228, D_n228, D_r57, D_k229, D_n229, D_r58, D_k230, D_n230, D_r59, D_k231, D_n231, D_r68, D_k232, D_n232, D_r69, D_k233, D_n233, D_r70, D_k234, D_n234, D_r73, D_k235, D_n235, D_r74, D_k236, D_n236, D_r76, D_k237, D_n237, D_r77, D_k238, D_n238, D_r79, ew, et, q, il]
    · rw [b32_f (fun z => q (z i (by omega)))]
      refine ⟨some (.int (nI (i + 1))), ?_⟩
      rw [L_69_57]
      by_cases z : l ≤ i + 1
      · simp (disch := first | assumption | omega | exact Nat.le_of_ble_eq_true rfl | exact D_k197 (by assumption) | (simp (disch := assumption) only [kdI, kdJ, kdR, D_k197]; done) | (simp only [kdI, kdJ, kdR, *]; done) | fail) only [↓reduceIte, Int32.reduceLE, Int32.reduceLT, x_nil, Nat.reduceAdd, x_iconst_0, x_istore_n3, x_istore4, x_iload4, x_aload_n0, x_getR, x_alen, x_icmp_ge, x_istore5, x_iload5, x_iadd, x_iald, x_bipush_32, x_icmp_eq, x_iinc5, x_goto, x_iload_n2, x_iload_n1, x_isub, x_icmp_ne, x_iconst_1, x_istore6, x_istore7, x_iload7, x_iload6, x_if_eq, x_iinc7, x_iload_n3, x_ireturn, x_iinc3, x_iconst_m1, L_69_64, L_69_69, L_69_91, L_69_95, L_69_96, ofInt1, ofIntm1, kdI, hNI, hRI, hJI, kdJ, hNJ, hIJ, hRJ, kdR, hNR, hIR, hJR, hII, hJJ, hRR, n_clamp, z_lt, z_ge, z_eq, z_le, z_gt, o_eq, o_lt, o_gt, o_le, o_ge, m_eq, n_eq, n_le, n_lt, n_sub1, nI_1, ol_add, nI_add, z_cl, o_cl, z_pos, o_pos, o_z, z_o, m_z, N_le, N_lt, q32_le, q32_lt, q32_ge, q32_gt, q32_eq, q32_mul, q32_add, q32_adl, q32_cl, q32_pos, q32_ti, q32_tj, zq32, qz32, ne_eq, not_true_eq_false, not_false_eq_true, if_true, if_false, and_self, or_self, true_or, or_true, and_true, true_and, and_false, false_and, or_false, false_or, Nat.reduceEqDiff, Nat.le_refl, Nat.reduceLT, Nat.reduceLeDiff, b32_01, nI_0, D_k197, D_k198, D_n198, D_r0, D_k199, D_n199, D_r3, D_k200, D_n200, D_r22, D_k201, D_n201, D_r23, D_k202, D_n202, D_r24, D_k203, D_n203, D_r25, D_k204, D_n204, D_r26, D_k205, D_n205, D_r27, D_k206, D_n206, D_r28, D_k207, D_n207, D_r29, D_k208, D_n208, D_r30, D_k209, D_n209, D_r31, D_k210, D_n210, D_r32, D_k211, D_n211, D_r33, D_k212, D_n212, D_r34, D_k213, D_n213, D_r35, D_k214, D_n214, D_r36, D_k215, D_n215, D_r37, D_k216, D_n216, D_r38, D_k217, D_n217, D_r39, D_k218, D_n218, D_r40, D_k219, D_n219, D_r41, D_k220, D_n220, D_r42, D_k221, D_n221, D_r43, D_k222, D_n222, D_r44, D_k223, D_n223, D_r45, D_k224, D_n224, D_r52, D_k225, D_n225, D_r53, D_k226, D_n226, D_r55, D_k227, D_n227, D_r56, D_k228, D_n228, D_r57, D_k229, D_n229, D_r58, D_k230, D_n230, D_r59, D_k231, D_n231, D_r68, D_k232, D_n232, D_r69, D_k233, D_n233, D_r70, D_k234, D_n234, D_r73, D_k235, D_n235, D_r74, D_k236, D_n236, D_r76, D_k237, D_n237, D_r77, D_k238, D_n238, D_r79, ew, et, q, il, L_69_57, z]
      · simp (disch := first | assumption | omega | exact Nat.le_of_ble_eq_true rfl | exact D_k197 (by assumption) | (simp (disch := assumption) only [kdI, kdJ, kdR, D_k197]; done) | (simp only [kdI, kdJ, kdR, *]; done) | fail) only [↓reduceIte, Int32.reduceLE, Int32.reduceLT, x_nil, Nat.reduceAdd, x_iconst_0, x_istore_n3, x_istore4, x_iload4, x_aload_n0, x_getR, x_alen, x_icmp_ge, x_istore5, x_iload5, x_iadd, x_iald, x_bipush_32, x_icmp_eq, x_iinc5, x_goto, x_iload_n2, x_iload_n1, x_isub, x_icmp_ne, x_iconst_1, x_istore6, x_istore7, x_iload7, x_iload6, x_if_eq, x_iinc7, x_iload_n3, x_ireturn, x_iinc3, x_iconst_m1, L_69_64, L_69_69, L_69_91, L_69_95, L_69_96, ofInt1, ofIntm1, kdI, hNI, hRI, hJI, kdJ, hNJ, hIJ, hRJ, kdR, hNR, hIR, hJR, hII, hJJ, hRR, n_clamp, z_lt, z_ge, z_eq, z_le, z_gt, o_eq, o_lt, o_gt, o_le, o_ge, m_eq, n_eq, n_le, n_lt, n_sub1, nI_1, ol_add, nI_add, z_cl, o_cl, z_pos, o_pos, o_z, z_o, m_z, N_le, N_lt, q32_le, q32_lt, q32_ge, q32_gt, q32_eq, q32_mul, q32_add, q32_adl, q32_cl, q32_pos, q32_ti, q32_tj, zq32, qz32, ne_eq, not_true_eq_false, not_false_eq_true, if_true, if_false, and_self, or_self, true_or, or_true, and_true, true_and, and_false, false_and, or_false, false_or, Nat.reduceEqDiff, Nat.le_refl, Nat.reduceLT, Nat.reduceLeDiff, b32_01, nI_0, D_k197, D_k198, D_n198, D_r0, D_k199, D_n199, D_r3, D_k200, D_n200, D_r22, D_k201, D_n201, D_r23, D_k202, D_n202, D_r24, D_k203, D_n203, D_r25, D_k204, D_n204, D_r26, D_k205, D_n205, D_r27, D_k206, D_n206, D_r28, D_k207, D_n207, D_r29, D_k208, D_n208, D_r30, D_k209, D_n209, D_r31, D_k210, D_n210, D_r32, D_k211, D_n211, D_r33, D_k212, D_n212, D_r34, D_k213, D_n213, D_r35, D_k214, D_n214, D_r36, D_k215, D_n215, D_r37, D_k216, D_n216, D_r38, D_k217, D_n217, D_r39, D_k218, D_n218, D_r40, D_k219, D_n219, D_r41, D_k220, D_n220, D_r42, D_k221, D_n221, D_r43, D_k222, D_n222, D_r44, D_k223, D_n223, D_r45, D_k224, D_n224, D_r52, D_k225, D_n225, D_r53, D_k226, D_n226, D_r55, D_k227, D_n227, D_r56, D_k228, D_n228, D_r57, D_k229, D_n229, D_r58, D_k230, D_n230, D_r59, D_k231, D_n231, D_r68, D_k232, D_n232, D_r69, D_k233, D_n233, D_r70, D_k234, D_n234, D_r73, D_k235, D_n235, D_r74, D_k236, D_n236, D_r76, D_k237, D_n237, D_r77, D_k238, D_n238, D_r79, ew, et, q, il, L_69_57, z]
theorem d_wordAt (K : KD g t) (ht : ∀ j, t j < 256) (a b : Nat) (hb : b ≤ 700) (hab : a ≤ b) : Lm sc pp 69 0 [some (.ref 197), some (.int (nI a)), some (.int (nI b)), none, none, none, none, none] [] 0 0 g = some (g, some (.int (ansW (fstW (eqW t a (b - a)) 25 0)))) := by
  have hD := K.1
  have es : nI b - nI a = nI (b - a) := nI_subN hab
  have outer : ∀ (m k : Nat) (o5 o6 o7 : Option Value), k + m = 25 → Lm sc pp 69 5 [some (.ref 197), some (.int (nI a)), some (.int (nI b)), some (.int (nI k)), some (.int (nI (offW k))), o5, o6, o7] [] 0 0 g = some (g, some (.int (ansW (fstW (eqW t a (b - a)) m k)))) := by
    intro m
    induction m with
    | zero =>
      intro k o5 o6 o7 hk
      have : k = 25 := by omega
      subst this
      rw [off25, L_69_5]
      have z : ansW (fstW (eqW t a (b - a)) 0 25) = -1 := rfl
      have f124 : Int32.ofNat 124 = nI 124 := rfl
      rw [z]
      simp (disch := first | assumption | omega | exact Nat.le_of_ble_eq_true rfl | exact D_k197 (by assumption) | (simp (disch := assumption) only [kdI, kdJ, kdR, D_k197]; done) | (simp only [kdI, kdJ, kdR, *]; done) | fail) only [↓reduceIte, Int32.reduceLE, Int32.reduceLT, x_nil, Nat.reduceAdd, x_iconst_0, x_istore_n3, x_istore4, x_iload4, x_aload_n0, x_getR, x_alen, x_icmp_ge, x_istore5, x_iload5, x_iadd, x_iald, x_bipush_32, x_icmp_eq, x_iinc5, x_goto, x_iload_n2, x_iload_n1, x_isub, x_icmp_ne, x_iconst_1, x_istore6, x_istore7, x_iload7, x_iload6, x_if_eq, x_iinc7, x_iload_n3, x_ireturn, x_iinc3, x_iconst_m1, L_69_126, ofInt1, ofIntm1, kdI, hNI, hRI, hJI, kdJ, hNJ, hIJ, hRJ, kdR, hNR, hIR, hJR, hII, hJJ, hRR, n_clamp, z_lt, z_ge, z_eq, z_le, z_gt, o_eq, o_lt, o_gt, o_le, o_ge, m_eq, n_eq, n_le, n_lt, n_sub1, nI_1, ol_add, nI_add, z_cl, o_cl, z_pos, o_pos, o_z, z_o, m_z, N_le, N_lt, q32_le, q32_lt, q32_ge, q32_gt, q32_eq, q32_mul, q32_add, q32_adl, q32_cl, q32_pos, q32_ti, q32_tj, zq32, qz32, ne_eq, not_true_eq_false, not_false_eq_true, if_true, if_false, and_self, or_self, true_or, or_true, and_true, true_and, and_false, false_and, or_false, false_or, Nat.reduceEqDiff, Nat.le_refl, Nat.reduceLT, Nat.reduceLeDiff, b32_01, nI_0, D_k197, D_k198, D_n198, D_r0, D_k199, D_n199, D_r3, D_k200, D_n200, D_r22, D_k201, D_n201, D_r23, D_k202, D_n202, D_r24, D_k203, D_n203, D_r25, D_k204, D_n204, D_r26, D_k205, D_n205, D_r27, D_k206, D_n206, D_r28, D_k207, D_n207, D_r29, D_k208, D_n208, D_r30, D_k209, D_n209, D_r31, D_k210, D_n210, D_r32, D_k211, D_n211, D_r33, D_k212, D_n212, D_r34, D_k213, D_n213, D_r35, D_k214, D_n214, D_r36, D_k215, D_n215, D_r37, D_k216, D_n216, D_r38, D_k217, D_n217, D_r39, D_k218, D_n218, D_r40, D_k219, D_n219, D_r41, D_k220, D_n220, D_r42, D_k221, D_n221, D_r43, D_k222, D_n222, D_r44, D_k223, D_n223, D_r45, D_k224, D_n224, D_r52, D_k225, D_n225, D_r53, D_k226, D_n226, D_r55, D_k227, D_n227, D_r56, D_k228, D_n228, D_r57, D_k229, D_n229, D_r58, D_k230, D_n230, D_r59, D_k231, D_n231, D_r68, D_k232, D_n232, D_r69, D_k233, D_n233, D_r70, D_k234, D_n234, D_r73, D_k235, D_n235, D_r74, D_k236, D_n236, D_r76, D_k237, D_n237, D_r77, D_k238, D_n238, D_r79, f124]
    | succ m ih =>
      intro k o5 o6 o7 hk
      have hk25 : k < 25 := by omega
      obtain ⟨w1, w2, w3, w4, w5⟩ := tW1 k hk25
      have ne : ∀ j, j < lenW k → ¬ wdR.getD (offW k + j) 0 = 32 := fun j hj => by
        have := tW2 k hk25 j (by omega) hj
        omega
      have e18 := fun o6 o7 => d_wlen (sc := sc) (pp := pp) K a b k (offW k) (lenW k) o6 o7 w1 w3 ne (lenW k) 0 (by omega)
      simp only [nI_0] at e18
      have f124 : Int32.ofNat 124 = nI 124 := rfl
      have q0 : ¬ 124 ≤ offW k := by omega
      rw [L_69_5]
      by_cases q : lenW k = b - a
      · obtain ⟨o, e57⟩ := d_wcmp (sc := sc) (pp := pp) K ht a b k (offW k) (lenW k) hb (by omega) w1 (lenW k) 0 (by omega) (fun j hj => absurd hj (by omega))
        rw [nI_0] at e57
        have q' := eq_true q
        by_cases E : eqW t a (b - a) k
        · rw [fstW_t E]
          have E2 : ∀ j, j < lenW k → wdR.getD (offW k + j) 0 = t (a + j) := fun j hj => E.2 j (by omega)
          rw [b32_t E2] at e57
          have ea : ansW k = nI k := if_pos hk25
          rw [ea]
          simp (disch := first | assumption | omega | exact Nat.le_of_ble_eq_true rfl | exact D_k197 (by assumption) | (simp (disch := assumption) only [kdI, kdJ, kdR, D_k197]; done) | (simp only [kdI, kdJ, kdR, *]; done) | fail) only [↓reduceIte, Int32.reduceLE, Int32.reduceLT, x_nil, Nat.reduceAdd, x_iconst_0, x_istore_n3, x_istore4, x_iload4, x_aload_n0, x_getR, x_alen, x_icmp_ge, x_istore5, x_iload5, x_iadd, x_iald, x_bipush_32, x_icmp_eq, x_iinc5, x_goto, x_iload_n2, x_iload_n1, x_isub, x_icmp_ne, x_iconst_1, x_istore6, x_istore7, x_iload7, x_iload6, x_if_eq, x_iinc7, x_iload_n3, x_ireturn, x_iinc3, x_iconst_m1, L_69_15, L_69_39, L_69_47, L_69_51, L_69_52, L_69_104, L_69_109, ofInt1, ofIntm1, kdI, hNI, hRI, hJI, kdJ, hNJ, hIJ, hRJ, kdR, hNR, hIR, hJR, hII, hJJ, hRR, n_clamp, z_lt, z_ge, z_eq, z_le, z_gt, o_eq, o_lt, o_gt, o_le, o_ge, m_eq, n_eq, n_le, n_lt, n_sub1, nI_1, ol_add, nI_add, z_cl, o_cl, z_pos, o_pos, o_z, z_o, m_z, N_le, N_lt, q32_le, q32_lt, q32_ge, q32_gt, q32_eq, q32_mul, q32_add, q32_adl, q32_cl, q32_pos, q32_ti, q32_tj, zq32, qz32, ne_eq, not_true_eq_false, not_false_eq_true, if_true, if_false, and_self, or_self, true_or, or_true, and_true, true_and, and_false, false_and, or_false, false_or, Nat.reduceEqDiff, Nat.le_refl, Nat.reduceLT, Nat.reduceLeDiff, b32_01, nI_0, D_k197, D_k198, D_n198, D_r0, D_k199, D_n199, D_r3, D_k200, D_n200, D_r22, D_k201, D_n201, D_r23, D_k202, D_n202, D_r24, D_k203, D_n203, D_r25, D_k204, D_n204, D_r26, D_k205, D_n205, D_r27, D_k206, D_n206, D_r28, D_k207, D_n207, D_r29, D_k208, D_n208, D_r30, D_k209, D_n209, D_r31, D_k210, D_n210, D_r32, D_k211, D_n211, D_r33, D_k212, D_n212, D_r34, D_k213, D_n213, D_r35, D_k214, D_n214, D_r36, D_k215, D_n215, D_r37, D_k216, D_n216, D_r38, D_k217, D_n217, D_r39, D_k218, D_n218, D_r40, D_k219, D_n219, D_r41, D_k220, D_n220, D_r42, D_k221, D_n221, D_r43, D_k222, D_n222, D_r44, D_k223, D_n223, D_r45, D_k224, D_n224, D_r52, D_k225, D_n225, D_r53, D_k226, D_n226, D_r55, D_k227, D_n227, D_r56, D_k228, D_n228, D_r57, D_k229, D_n229, D_r58, D_k230, D_n230, D_r59, D_k231, D_n231, D_r68, D_k232, D_n232, D_r69, D_k233, D_n233, D_r70, D_k234, D_n234, D_r73, D_k235, D_n235, D_r74, D_k236, D_n236, D_r76, D_k237, D_n237, D_r77, D_k238, D_n238, D_r79, f124, q0, e18, es, q', e57]
        · rw [fstW_f E]
          have E2 : ¬ ∀ j, j < lenW k → wdR.getD (offW k + j) 0 = t (a + j) := fun z => E ⟨q, fun j hj => z j (by omega)⟩
          rw [b32_f E2] at e57
          rw [← ih (k + 1) (some (.int (nI (lenW k)))) (some (.int 0)) o (by omega)]
          simp (disch := first | assumption | omega | exact Nat.le_of_ble_eq_true rfl | exact D_k197 (by assumption) | (simp (disch := assumption) only [kdI, kdJ, kdR, D_k197]; done) | (simp only [kdI, kdJ, kdR, *]; done) | fail) only [↓reduceIte, Int32.reduceLE, Int32.reduceLT, x_nil, Nat.reduceAdd, x_iconst_0, x_istore_n3, x_istore4, x_iload4, x_aload_n0, x_getR, x_alen, x_icmp_ge, x_istore5, x_iload5, x_iadd, x_iald, x_bipush_32, x_icmp_eq, x_iinc5, x_goto, x_iload_n2, x_iload_n1, x_isub, x_icmp_ne, x_iconst_1, x_istore6, x_istore7, x_iload7, x_iload6, x_if_eq, x_iinc7, x_iload_n3, x_ireturn, x_iinc3, x_iconst_m1, L_69_15, L_69_39, L_69_47, L_69_51, L_69_52, L_69_104, L_69_111, ofInt1, ofIntm1, kdI, hNI, hRI, hJI, kdJ, hNJ, hIJ, hRJ, kdR, hNR, hIR, hJR, hII, hJJ, hRR, n_clamp, z_lt, z_ge, z_eq, z_le, z_gt, o_eq, o_lt, o_gt, o_le, o_ge, m_eq, n_eq, n_le, n_lt, n_sub1, nI_1, ol_add, nI_add, z_cl, o_cl, z_pos, o_pos, o_z, z_o, m_z, N_le, N_lt, q32_le, q32_lt, q32_ge, q32_gt, q32_eq, q32_mul, q32_add, q32_adl, q32_cl, q32_pos, q32_ti, q32_tj, zq32, qz32, ne_eq, not_true_eq_false, not_false_eq_true, if_true, if_false, and_self, or_self, true_or, or_true, and_true, true_and, and_false, false_and, or_false, false_or, Nat.reduceEqDiff, Nat.le_refl, Nat.reduceLT, Nat.reduceLeDiff, b32_01, nI_0, D_k197, D_k198, D_n198, D_r0, D_k199, D_n199, D_r3, D_k200, D_n200, D_r22, D_k201, D_n201, D_r23, D_k202, D_n202, D_r24, D_k203, D_n203, D_r25, D_k204, D_n204, D_r26, D_k205, D_n205, D_r27, D_k206, D_n206, D_r28, D_k207, D_n207, D_r29, D_k208, D_n208, D_r30, D_k209, D_n209, D_r31, D_k210, D_n210, D_r32, D_k211, D_n211, D_r33, D_k212, D_n212, D_r34, D_k213, D_n213, D_r35, D_k214, D_n214, D_r36, D_k215, D_n215, D_r37, D_k216, D_n216, D_r38, D_k217, D_n217, D_r39, D_k218, D_n218, D_r40, D_k219, D_n219, D_r41, D_k220, D_n220, D_r42, D_k221, D_n221, D_r43, D_k222, D_n222, D_r44, D_k223, D_n223, D_r45, D_k224, D_n224, D_r52, D_k225, D_n225, D_r53, D_k226, D_n226, D_r55, D_k227, D_n227, D_r56, D_k228, D_n228, D_r57, D_k229, D_n229, D_r58, D_k230, D_n230, D_r59, D_k231, D_n231, D_r68, D_k232, D_n232, D_r69, D_k233, D_n233, D_r70, D_k234, D_n234, D_r73, D_k235, D_n235, D_r74, D_k236, D_n236, D_r76, D_k237, D_n237, D_r77, D_k238, D_n238, D_r79, f124, q0, e18, es, q', e57, w2]
      · have E : ¬ eqW t a (b - a) k := fun z => q z.1
        rw [fstW_f E, ← ih (k + 1) (some (.int (nI (lenW k)))) (some (.int 0)) (some (.int 0)) (by omega)]
        have hlk : lenW k < 2 ^ 31 := by omega
        have hlz : ((0 : Int32) = 0) = True := eq_true rfl
        have z : ¬ lenW k = 0 := by omega
        simp (disch := first | assumption | omega | exact Nat.le_of_ble_eq_true rfl | exact D_k197 (by assumption) | (simp (disch := assumption) only [kdI, kdJ, kdR, D_k197]; done) | (simp only [kdI, kdJ, kdR, *]; done) | fail) only [↓reduceIte, Int32.reduceLE, Int32.reduceLT, x_nil, Nat.reduceAdd, x_iconst_0, x_istore_n3, x_istore4, x_iload4, x_aload_n0, x_getR, x_alen, x_icmp_ge, x_istore5, x_iload5, x_iadd, x_iald, x_bipush_32, x_icmp_eq, x_iinc5, x_goto, x_iload_n2, x_iload_n1, x_isub, x_icmp_ne, x_iconst_1, x_istore6, x_istore7, x_iload7, x_iload6, x_if_eq, x_iinc7, x_iload_n3, x_ireturn, x_iinc3, x_iconst_m1, L_69_15, L_69_39, L_69_47, L_69_51, L_69_52, L_69_57, L_69_64, L_69_104, L_69_111, ofInt1, ofIntm1, kdI, hNI, hRI, hJI, kdJ, hNJ, hIJ, hRJ, kdR, hNR, hIR, hJR, hII, hJJ, hRR, n_clamp, z_lt, z_ge, z_eq, z_le, z_gt, o_eq, o_lt, o_gt, o_le, o_ge, m_eq, n_eq, n_le, n_lt, n_sub1, nI_1, ol_add, nI_add, z_cl, o_cl, z_pos, o_pos, o_z, z_o, m_z, N_le, N_lt, q32_le, q32_lt, q32_ge, q32_gt, q32_eq, q32_mul, q32_add, q32_adl, q32_cl, q32_pos, q32_ti, q32_tj, zq32, qz32, ne_eq, not_true_eq_false, not_false_eq_true, if_true, if_false, and_self, or_self, true_or, or_true, and_true, true_and, and_false, false_and, or_false, false_or, Nat.reduceEqDiff, Nat.le_refl, Nat.reduceLT, Nat.reduceLeDiff, b32_01, nI_0, D_k197, D_k198, D_n198, D_r0, D_k199, D_n199, D_r3, D_k200, D_n200, D_r22, D_k201, D_n201, D_r23, D_k202, D_n202, D_r24, D_k203, D_n203, D_r25, D_k204, D_n204, D_r26, D_k205, D_n205, D_r27, D_k206, D_n206, D_r28, D_k207, D_n207, D_r29, D_k208, D_n208, D_r30, D_k209, D_n209, D_r31, D_k210, D_n210, D_r32, D_k211, D_n211, D_r33, D_k212, D_n212, D_r34, D_k213, D_n213, D_r35, D_k214, D_n214, D_r36, D_k215, D_n215, D_r37, D_k216, D_n216, D_r38, D_k217, D_n217, D_r39, D_k218, D_n218, D_r40, D_k219, D_n219, D_r41, D_k220, D_n220, D_r42, D_k221, D_n221, D_r43, D_k222, D_n222, D_r44, D_k223, D_n223, D_r45, D_k224, D_n224, D_r52, D_k225, D_n225, D_r53, D_k226, D_n226, D_r55, D_k227, D_n227, D_r56, D_k228, D_n228, D_r57, D_k229, D_n229, D_r58, D_k230, D_n230, D_r59, D_k231, D_n231, D_r68, D_k232, D_n232, D_r69, D_k233, D_n233, D_r70, D_k234, D_n234, D_r73, D_k235, D_n235, D_r74, D_k236, D_n236, D_r76, D_k237, D_n237, D_r77, D_k238, D_n238, D_r79, f124, q0, e18, es, q, w2, z]
  have l0 := outer 25 0 none none none rfl
  rw [off0, nI_0] at l0
  simp (disch := first | assumption | omega | exact Nat.le_of_ble_eq_true rfl | exact D_k197 (by assumption) | (simp (disch := assumption) only [kdI, kdJ, kdR, D_k197]; done) | (simp only [kdI, kdJ, kdR, *]; done) | fail) only [↓reduceIte, Int32.reduceLE, Int32.reduceLT, x_nil, Nat.reduceAdd, x_iconst_0, x_istore_n3, x_istore4, x_iload4, x_aload_n0, x_getR, x_alen, x_icmp_ge, x_istore5, x_iload5, x_iadd, x_iald, x_bipush_32, x_icmp_eq, x_iinc5, x_goto, x_iload_n2, x_iload_n1, x_isub, x_icmp_ne, x_iconst_1, x_istore6, x_istore7, x_iload7, x_iload6, x_if_eq, x_iinc7, x_iload_n3, x_ireturn, x_iinc3, x_iconst_m1, L_69_0, ofInt1, ofIntm1, kdI, hNI, hRI, hJI, kdJ, hNJ, hIJ, hRJ, kdR, hNR, hIR, hJR, hII, hJJ, hRR, n_clamp, z_lt, z_ge, z_eq, z_le, z_gt, o_eq, o_lt, o_gt, o_le, o_ge, m_eq, n_eq, n_le, n_lt, n_sub1, nI_1, ol_add, nI_add, z_cl, o_cl, z_pos, o_pos, o_z, z_o, m_z, N_le, N_lt, q32_le, q32_lt, q32_ge, q32_gt, q32_eq, q32_mul, q32_add, q32_adl, q32_cl, q32_pos, q32_ti, q32_tj, zq32, qz32, ne_eq, not_true_eq_false, not_false_eq_true, if_true, if_false, and_self, or_self, true_or, or_true, and_true, true_and, and_false, false_and, or_false, false_or, Nat.reduceEqDiff, Nat.le_refl, Nat.reduceLT, Nat.reduceLeDiff, b32_01, nI_0, D_k197, D_k198, D_n198, D_r0, D_k199, D_n199, D_r3, D_k200, D_n200, D_r22, D_k201, D_n201, D_r23, D_k202, D_n202, D_r24, D_k203, D_n203, D_r25, D_k204, D_n204, D_r26, D_k205, D_n205, D_r27, D_k206, D_n206, D_r28, D_k207, D_n207, D_r29, D_k208, D_n208, D_r30, D_k209, D_n209, D_r31, D_k210, D_n210, D_r32, D_k211, D_n211, D_r33, D_k212, D_n212, D_r34, D_k213, D_n213, D_r35, D_k214, D_n214, D_r36, D_k215, D_n215, D_r37, D_k216, D_n216, D_r38, D_k217, D_n217, D_r39, D_k218, D_n218, D_r40, D_k219, D_n219, D_r41, D_k220, D_n220, D_r42, D_k221, D_n221, D_r43, D_k222, D_n222, D_r44, D_k223, D_n223, D_r45, D_k224, D_n224, D_r52, D_k225, D_n225, D_r53, D_k226, D_n226, D_r55, D_k227, D_n227, D_r56, D_k228, D_n228, D_r57, D_k229, D_n229, D_r58, D_k230, D_n230, D_r59, D_k231, D_n231, D_r68, D_k232, D_n232, D_r69, D_k233, D_n233, D_r70, D_k234, D_n234, D_r73, D_k235, D_n235, D_r74, D_k236, D_n236, D_r76, D_k237, D_n237, D_r77, D_k238, D_n238, D_r79, l0]
theorem shl5 (x : Nat) : nI x <<< ((5 : Int32) &&& 31) = nI (x * 32) := by
  apply Int32.toBitVec_inj.mp
  have e : ((5 : Int32) &&& 31).toBitVec.smod 32 = 5#32 := by decide
  rw [Int32.toBitVec_shiftLeft, e]
  show (BitVec.ofNat 32 x) <<< (5#32) = BitVec.ofNat 32 (x * 32)
  apply BitVec.eq_of_toNat_eq
  simp [BitVec.toNat_ofNat, Nat.shiftLeft_eq]
def pkS (t : Nat → Nat) (a L : Nat) : Nat → Nat
  | 0 => 0
  | i + 1 => pkS t a L i * 32 + (if i < L then t (a + i) - 96 else 0)
theorem pkS_6 {t : Nat → Nat} {a L : Nat} (hL : L ≤ 6) : pkS t a L 6 = pkN t a L := by
  rcases (by omega : L = 0 ∨ L = 1 ∨ L = 2 ∨ L = 3 ∨ L = 4 ∨ L = 5 ∨ L = 6) with rfl | rfl | rfl | rfl | rfl | rfl | rfl <;> simp [pkS, pkN] <;> omega
theorem pk_or5 {x y : Nat} (hy : y < 32) : nI (x * 32) ||| nI y = nI (x * 32 + y) := by
  rw [nI_or]
  congr 1
  have := Nat.shiftLeft_add_eq_or_of_lt (i := 5) (b := y) hy x
  rw [Nat.shiftLeft_eq] at this
  exact this.symm
theorem d_packed (K : KD g t) (ht : ∀ j, t j < 256) (a b : Nat) (hb : b ≤ 700) (hab : a ≤ b) (h6 : b - a ≤ 6) (hl : ∀ j, j < b - a → 97 ≤ t (a + j) ∧ t (a + j) ≤ 122) : Lm sc pp 70 0 [some (.ref 197), some (.int (nI a)), some (.int (nI b)), none, none] [] 0 0 g = some (g, some (.int (nI (pkN t a (b - a))))) := by
  obtain ⟨hD, tp, wd, -⟩ := K
  have loop : ∀ (m i : Nat), i + m = 6 → Lm sc pp 70 5 [some (.ref 197), some (.int (nI a)), some (.int (nI b)), some (.int (nI (pkS t a (b - a) i))), some (.int (nI (a + i)))] [] 0 0 g = some (g, some (.int (nI (pkS t a (b - a) 6)))) := by
    intro m
    induction m with
    | zero =>
      intro i hi
      have : i = 6 := by omega
      subst this
      rw [L_70_5]
      simp (disch := first | assumption | omega | exact Nat.le_of_ble_eq_true rfl | exact D_k197 (by assumption) | (simp (disch := assumption) only [kdI, kdJ, kdR, D_k197]; done) | (simp only [kdI, kdJ, kdR, *]; done) | fail) only [↓reduceIte, Int32.reduceLE, Int32.reduceLT, x_nil, Nat.reduceAdd, x_iconst_0, x_istore_n3, x_iload_n1, x_istore4, x_iload4, x_bipush_6, x_iadd, x_icmp_ge, x_iload_n3, x_iconst_5, x_ishl, x_iload_n2, x_aload_n0, x_getR, x_iald, x_bipush_96, x_isub, x_goto, x_ior, x_iinc4, x_ireturn, L_70_14, L_70_23, L_70_36, L_70_37, L_70_45, ofInt1, ofIntm1, kdI, hNI, hRI, hJI, kdJ, hNJ, hIJ, hRJ, kdR, hNR, hIR, hJR, hII, hJJ, hRR, n_clamp, z_lt, z_ge, z_eq, z_le, z_gt, o_eq, o_lt, o_gt, o_le, o_ge, m_eq, n_eq, n_le, n_lt, n_sub1, nI_1, ol_add, nI_add, z_cl, o_cl, z_pos, o_pos, o_z, z_o, m_z, N_le, N_lt, q5_le, q5_lt, q5_ge, q5_gt, q5_eq, q5_mul, q5_add, q5_adl, q5_cl, q5_pos, q5_ti, q5_tj, zq5, qz5, q6_le, q6_lt, q6_ge, q6_gt, q6_eq, q6_mul, q6_add, q6_adl, q6_cl, q6_pos, q6_ti, q6_tj, zq6, qz6, q96_le, q96_lt, q96_ge, q96_gt, q96_eq, q96_mul, q96_add, q96_adl, q96_cl, q96_pos, q96_ti, q96_tj, zq96, qz96, ne_eq, not_true_eq_false, not_false_eq_true, if_true, if_false, and_self, or_self, true_or, or_true, and_true, true_and, and_false, false_and, or_false, false_or, Nat.reduceEqDiff, Nat.le_refl, Nat.reduceLT, Nat.reduceLeDiff, b32_01, nI_0, D_k197, D_k198, D_n198, D_r0, D_k199, D_n199, D_r3, D_k200, D_n200, D_r22, D_k201, D_n201, D_r23, D_k202, D_n202, D_r24, D_k203, D_n203, D_r25, D_k204, D_n204, D_r26, D_k205, D_n205, D_r27, D_k206, D_n206, D_r28, D_k207, D_n207, D_r29, D_k208, D_n208, D_r30, D_k209, D_n209, D_r31, D_k210, D_n210, D_r32, D_k211, D_n211, D_r33, D_k212, D_n212, D_r34, D_k213, D_n213, D_r35, D_k214, D_n214, D_r36, D_k215, D_n215, D_r37, D_k216, D_n216, D_r38, D_k217, D_n217, D_r39, D_k218, D_n218, D_r40, D_k219, D_n219, D_r41, D_k220, D_n220, D_r42, D_k221, D_n221, D_r43, D_k222, D_n222, D_r44, D_k223, D_n223, D_r45, D_k224, D_n224, D_r52, D_k225, D_n225, D_r53, D_k226, D_n226, D_r55, D_k227, D_n227, D_r56, D_k228, D_n228, D_r57, D_k229, D_n229, D_r58, D_k230, D_n230, D_r59, D_k231, D_n231, D_r68, D_k232, D_n232, D_r69, D_k233, D_n233, D_r70, D_k234, D_n234, D_r73, D_k235, D_n235, D_r74, D_k236, D_n236, D_r76, D_k237, D_n237, D_r77, D_k238, D_n238, D_r79]
    | succ m ih =>
      intro i hi
      have q0 : ¬ a + 6 ≤ a + i := by omega
      rw [← ih (i + 1) (by omega), L_70_5]
      have s5 := shl5 (pkS t a (b - a) i)
      by_cases q : i < b - a
      · have q' : ¬ b ≤ a + i := by omega
        have ep := tp (a + i) (by omega)
        have h1 := hl i q
        have e96 : nI (t (a + i)) - 96 = nI (t (a + i) - 96) := nI_subN (b := 96) (by omega)
        have eo := pk_or5 (x := pkS t a (b - a) i) (y := t (a + i) - 96) (by omega)
        have e2 : pkS t a (b - a) i * 32 + (t (a + i) - 96) = pkS t a (b - a) (i + 1) := by
          show _ = pkS t a (b - a) i * 32 + _
          rw [if_pos q]
        rw [e2] at eo
        simp (disch := first | assumption | omega | exact Nat.le_of_ble_eq_true rfl | exact D_k197 (by assumption) | (simp (disch := assumption) only [kdI, kdJ, kdR, D_k197]; done) | (simp only [kdI, kdJ, kdR, *]; done) | fail) only [↓reduceIte, Int32.reduceLE, Int32.reduceLT, x_nil, Nat.reduceAdd, x_iconst_0, x_istore_n3, x_iload_n1, x_istore4, x_iload4, x_bipush_6, x_iadd, x_icmp_ge, x_iload_n3, x_iconst_5, x_ishl, x_iload_n2, x_aload_n0, x_getR, x_iald, x_bipush_96, x_isub, x_goto, x_ior, x_iinc4, x_ireturn, L_70_14, L_70_23, L_70_36, L_70_37, L_70_45, ofInt1, ofIntm1, kdI, hNI, hRI, hJI, kdJ, hNJ, hIJ, hRJ, kdR, hNR, hIR, hJR, hII, hJJ, hRR, n_clamp, z_lt, z_ge, z_eq, z_le, z_gt, o_eq, o_lt, o_gt, o_le, o_ge, m_eq, n_eq, n_le, n_lt, n_sub1, nI_1, ol_add, nI_add, z_cl, o_cl, z_pos, o_pos, o_z, z_o, m_z, N_le, N_lt, q5_le, q5_lt, q5_ge, q5_gt, q5_eq, q5_mul, q5_add, q5_adl, q5_cl, q5_pos, q5_ti, q5_tj, zq5, qz5, q6_le, q6_lt, q6_ge, q6_gt, q6_eq, q6_mul, q6_add, q6_adl, q6_cl, q6_pos, q6_ti, q6_tj, zq6, qz6, q96_le, q96_lt, q96_ge, q96_gt, q96_eq, q96_mul, q96_add, q96_adl, q96_cl, q96_pos, q96_ti, q96_tj, zq96, qz96, ne_eq, not_true_eq_false, not_false_eq_true, if_true, if_false, and_self, or_self, true_or, or_true, and_true, true_and, and_false, false_and, or_false, false_or, Nat.reduceEqDiff, Nat.le_refl, Nat.reduceLT, Nat.reduceLeDiff, b32_01, nI_0, D_k197, D_k198, D_n198, D_r0, D_k199, D_n199, D_r3, D_k200, D_n200, D_r22, D_k201, D_n201, D_r23, D_k202, D_n202, D_r24, D_k203, D_n203, D_r25, D_k204, D_n204, D_r26, D_k205, D_n205, D_r27, D_k206, D_n206, D_r28, D_k207, D_n207, D_r29, D_k208, D_n208, D_r30, D_k209, D_n209, D_r31, D_k210, D_n210, D_r32, D_k211, D_n211, D_r33, D_k212, D_n212, D_r34, D_k213, D_n213, D_r35, D_k214, D_n214, D_r36, D_k215, D_n215, D_r37, D_k216, D_n216, D_r38, D_k217, D_n217, D_r39, D_k218, D_n218, D_r40, D_k219, D_n219, D_r41, D_k220, D_n220, D_r42, D_k221, D_n221, D_r43, D_k222, D_n222, D_r44, D_k223, D_n223, D_r45, D_k224, D_n224, D_r52, D_k225, D_n225, D_r53, D_k226, D_n226, D_r55, D_k227, D_n227, D_r56, D_k228, D_n228, D_r57, D_k229, D_n229, D_r58, D_k230, D_n230, D_r59, D_k231, D_n231, D_r68, D_k232, D_n232, D_r69, D_k233, D_n233, D_r70, D_k234, D_n234, D_r73, D_k235, D_n235, D_r74, D_k236, D_n236, D_r76, D_k237, D_n237, D_r77, D_k238, D_n238, D_r79, q0, q', ep, s5, e96, eo, Nat.add_assoc]
      · have q' : b ≤ a + i := by omega
        have eo := pk_or5 (x := pkS t a (b - a) i) (y := 0) (by omega)
        have e2 : pkS t a (b - a) i * 32 + 0 = pkS t a (b - a) (i + 1) := by
          show _ = pkS t a (b - a) i * 32 + _
          rw [if_neg q]
        rw [e2, nI_0] at eo
        simp (disch := first | assumption | omega | exact Nat.le_of_ble_eq_true rfl | exact D_k197 (by assumption) | (simp (disch := assumption) only [kdI, kdJ, kdR, D_k197]; done) | (simp only [kdI, kdJ, kdR, *]; done) | fail) only [↓reduceIte, Int32.reduceLE, Int32.reduceLT, x_nil, Nat.reduceAdd, x_iconst_0, x_istore_n3, x_iload_n1, x_istore4, x_iload4, x_bipush_6, x_iadd, x_icmp_ge, x_iload_n3, x_iconst_5, x_ishl, x_iload_n2, x_aload_n0, x_getR, x_iald, x_bipush_96, x_isub, x_goto, x_ior, x_iinc4, x_ireturn, L_70_14, L_70_23, L_70_36, L_70_37, L_70_45, ofInt1, ofIntm1, kdI, hNI, hRI, hJI, kdJ, hNJ, hIJ, hRJ, kdR, hNR, hIR, hJR, hII, hJJ, hRR, n_clamp, z_lt, z_ge, z_eq, z_le, z_gt, o_eq, o_lt, o_gt, o_le, o_ge, m_eq, n_eq, n_le, n_lt, n_sub1, nI_1, ol_add, nI_add, z_cl, o_cl, z_pos, o_pos, o_z, z_o, m_z, N_le, N_lt, q5_le, q5_lt, q5_ge, q5_gt, q5_eq, q5_mul, q5_add, q5_adl, q5_cl, q5_pos, q5_ti, q5_tj, zq5, qz5, q6_le, q6_lt, q6_ge, q6_gt, q6_eq, q6_mul, q6_add, q6_adl, q6_cl, q6_pos, q6_ti, q6_tj, zq6, qz6, q96_le, q96_lt, q96_ge, q96_gt, q96_eq, q96_mul, q96_add, q96_adl, q96_cl, q96_pos, q96_ti, q96_tj, zq96, qz96, ne_eq, not_true_eq_false, not_false_eq_true, if_true, if_false, and_self, or_self, true_or, or_true, and_true, true_and, and_false, false_and, or_false, false_or, Nat.reduceEqDiff, Nat.le_refl, Nat.reduceLT, Nat.reduceLeDiff, b32_01, nI_0, D_k197, D_k198, D_n198, D_r0, D_k199, D_n199, D_r3, D_k200, D_n200, D_r22, D_k201, D_n201, D_r23, D_k202, D_n202, D_r24, D_k203, D_n203, D_r25, D_k204, D_n204, D_r26, D_k205, D_n205, D_r27, D_k206, D_n206, D_r28, D_k207, D_n207, D_r29, D_k208, D_n208, D_r30, D_k209, D_n209, D_r31, D_k210, D_n210, D_r32, D_k211, D_n211, D_r33, D_k212, D_n212, D_r34, D_k213, D_n213, D_r35, D_k214, D_n214, D_r36, D_k215, D_n215, D_r37, D_k216, D_n216, D_r38, D_k217, D_n217, D_r39, D_k218, D_n218, D_r40, D_k219, D_n219, D_r41, D_k220, D_n220, D_r42, D_k221, D_n221, D_r43, D_k222, D_n222, D_r44, D_k223, D_n223, D_r45, D_k224, D_n224, D_r52, D_k225, D_n225, D_r53, D_k226, D_n226, D_r55, D_k227, D_n227, D_r56, D_k228, D_n228, D_r57, D_k229, D_n229, D_r58, D_k230, D_n230, D_r59, D_k231, D_n231, D_r68, D_k232, D_n232, D_r69, D_k233, D_n233, D_r70, D_k234, D_n234, D_r73, D_k235, D_n235, D_r74, D_k236, D_n236, D_r76, D_k237, D_n237, D_r77, D_k238, D_n238, D_r79, q0, q', s5, eo, Nat.add_assoc]
  have l0 := loop 6 0 rfl
  rw [Nat.add_zero, show pkS t a (b - a) 0 = 0 from rfl, nI_0, pkS_6 h6] at l0
  simp (disch := first | assumption | omega | exact Nat.le_of_ble_eq_true rfl | exact D_k197 (by assumption) | (simp (disch := assumption) only [kdI, kdJ, kdR, D_k197]; done) | (simp only [kdI, kdJ, kdR, *]; done) | fail) only [↓reduceIte, Int32.reduceLE, Int32.reduceLT, x_nil, Nat.reduceAdd, x_iconst_0, x_istore_n3, x_iload_n1, x_istore4, x_iload4, x_bipush_6, x_iadd, x_icmp_ge, x_iload_n3, x_iconst_5, x_ishl, x_iload_n2, x_aload_n0, x_getR, x_iald, x_bipush_96, x_isub, x_goto, x_ior, x_iinc4, x_ireturn, L_70_0, ofInt1, ofIntm1, kdI, hNI, hRI, hJI, kdJ, hNJ, hIJ, hRJ, kdR, hNR, hIR, hJR, hII, hJJ, hRR, n_clamp, z_lt, z_ge, z_eq, z_le, z_gt, o_eq, o_lt, o_gt, o_le, o_ge, m_eq, n_eq, n_le, n_lt, n_sub1, nI_1, ol_add, nI_add, z_cl, o_cl, z_pos, o_pos, o_z, z_o, m_z, N_le, N_lt, q5_le, q5_lt, q5_ge, q5_gt, q5_eq, q5_mul, q5_add, q5_adl, q5_cl, q5_pos, q5_ti, q5_tj, zq5, qz5, q6_le, q6_lt, q6_ge, q6_gt, q6_eq, q6_mul, q6_add, q6_adl, q6_cl, q6_pos, q6_ti, q6_tj, zq6, qz6, q96_le, q96_lt, q96_ge, q96_gt, q96_eq, q96_mul, q96_add, q96_adl, q96_cl, q96_pos, q96_ti, q96_tj, zq96, qz96, ne_eq, not_true_eq_false, not_false_eq_true, if_true, if_false, and_self, or_self, true_or, or_true, and_true, true_and, and_false, false_and, or_false, false_or, Nat.reduceEqDiff, Nat.le_refl, Nat.reduceLT, Nat.reduceLeDiff, b32_01, nI_0, D_k197, D_k198, D_n198, D_r0, D_k199, D_n199, D_r3, D_k200, D_n200, D_r22, D_k201, D_n201, D_r23, D_k202, D_n202, D_r24, D_k203, D_n203, D_r25, D_k204, D_n204, D_r26, D_k205, D_n205, D_r27, D_k206, D_n206, D_r28, D_k207, D_n207, D_r29, D_k208, D_n208, D_r30, D_k209, D_n209, D_r31, D_k210, D_n210, D_r32, D_k211, D_n211, D_r33, D_k212, D_n212, D_r34, D_k213, D_n213, D_r35, D_k214, D_n214, D_r36, D_k215, D_n215, D_r37, D_k216, D_n216, D_r38, D_k217, D_n217, D_r39, D_k218, D_n218, D_r40, D_k219, D_n219, D_r41, D_k220, D_n220, D_r42, D_k221, D_n221, D_r43, D_k222, D_n222, D_r44, D_k223, D_n223, D_r45, D_k224, D_n224, D_r52, D_k225, D_n225, D_r53, D_k226, D_n226, D_r55, D_k227, D_n227, D_r56, D_k228, D_n228, D_r57, D_k229, D_n229, D_r58, D_k230, D_n230, D_r59, D_k231, D_n231, D_r68, D_k232, D_n232, D_r69, D_k233, D_n233, D_r70, D_k234, D_n234, D_r73, D_k235, D_n235, D_r74, D_k236, D_n236, D_r76, D_k237, D_n237, D_r77, D_k238, D_n238, D_r79, l0]
end T74
