-- the words of a text, one at a time: the class
theorem nI_subN {a b : Nat} (h : b ≤ a) : nI a - nI b = nI (a - b) := by
  have e : nI (a - b) + nI b = nI a := by rw [nI_add, show a - b + b = a by omega]
  rw [← e, Int32.add_sub_cancel]
theorem nI_sub48 {a : Nat} (h : 48 ≤ a) : nI a - 48 = nI (a - 48) := nI_subN h
def scanF (P : Nat → Bool) : Nat → Nat → Nat
  | 0, p => p
  | m + 1, p => if P p = true then scanF P m (p + 1) else p
theorem scan_t {P : Nat → Bool} {m p : Nat} (h : P p = true) : scanF P (m + 1) p = scanF P m (p + 1) := by
  show (if _ then _ else _) = _
  rw [if_pos h]
theorem scan_f {P : Nat → Bool} {m p : Nat} (h : ¬ P p = true) : scanF P (m + 1) p = p := by
  show (if _ then _ else _) = _
  rw [if_neg h]
theorem scan_le {P : Nat → Bool} : ∀ m p, p ≤ scanF P m p ∧ scanF P m p ≤ p + m := by
  intro m
  induction m with
  | zero => intro p; exact ⟨Nat.le_refl _, Nat.le_refl _⟩
  | succ m ih =>
    intro p
    by_cases h : P p = true
    · rw [scan_t h]; have := ih (p + 1); omega
    · rw [scan_f h]; omega
theorem scan_in {P : Nat → Bool} : ∀ m p j, p ≤ j → j < scanF P m p → P j = true := by
  intro m
  induction m with
  | zero => intro p j a b; have : scanF P 0 p = p := rfl; omega
  | succ m ih =>
    intro p j a b
    by_cases h : P p = true
    · rw [scan_t h] at b
      by_cases e : j = p
      · subst e; exact h
      · exact ih (p + 1) j (by omega) b
    · rw [scan_f h] at b; omega
theorem scan_out {P : Nat → Bool} : ∀ m p, scanF P m p < p + m → ¬ P (scanF P m p) = true := by
  intro m
  induction m with
  | zero => intro p b; have : scanF P 0 p = p := rfl; omega
  | succ m ih =>
    intro p b
    by_cases h : P p = true
    · rw [scan_t h] at b ⊢; exact ih (p + 1) (by omega)
    · rw [scan_f h]; exact h
def blB (t : Nat → Nat) (j : Nat) : Bool := decide (t j = 32 ∨ t j = 10)
def leB (t : Nat → Nat) (j : Nat) : Bool := decide (97 ≤ t j ∧ t j ≤ 122)
def diB (t : Nat → Nat) (j : Nat) : Bool := decide (48 ≤ t j ∧ t j ≤ 57)
theorem leB_iff {t : Nat → Nat} {j : Nat} : leB t j = true ↔ 97 ≤ t j ∧ t j ≤ 122 := by unfold leB; exact decide_eq_true_iff
theorem diB_iff {t : Nat → Nat} {j : Nat} : diB t j = true ↔ 48 ≤ t j ∧ t j ≤ 57 := by unfold diB; exact decide_eq_true_iff
theorem blB_iff {t : Nat → Nat} {j : Nat} : blB t j = true ↔ t j = 32 ∨ t j = 10 := by unfold blB; exact decide_eq_true_iff
/-- a word's letters, five bits each -/
def pkN (t : Nat → Nat) (p : Nat) : Nat → Nat
  | 0 => 0
  | i + 1 => pkN t p i + (if i < 6 then (t (p + i) - 96) * 2 ^ (5 * (5 - i)) else 0)
def pkR (t : Nat → Nat) (p : Nat) : Nat → Nat
  | 0 => 0
  | i + 1 => pkR t p i * 32 + (t (p + i) - 96)
theorem pkN_R {t : Nat → Nat} {p : Nat} : ∀ i, i ≤ 6 → pkN t p i = pkR t p i * 2 ^ (5 * (6 - i)) := by
  intro i
  induction i with
  | zero => intro _; show 0 = 0 * _; rw [Nat.zero_mul]
  | succ i ih =>
    intro hi
    show pkN t p i + _ = (pkR t p i * 32 + (t (p + i) - 96)) * _
    rw [ih (by omega), if_pos (by omega), show 5 * (6 - i) = 5 * (5 - i) + 5 by omega, show 6 - (i + 1) = 5 - i by omega, Nat.pow_add, Nat.add_mul, Nat.mul_assoc]
    congr 2
    rw [Nat.mul_comm]
theorem shT : ∀ c, c < 32 → ∀ i, i < 6 → nI c <<< (nI (5 * (5 - i)) &&& 31) = nI (c * 2 ^ (5 * (5 - i))) := by decide +kernel
theorem pk_or {t : Nat → Nat} {p i : Nat} (hi : i < 6) (hl : 97 ≤ t (p + i) ∧ t (p + i) ≤ 122) : nI (pkN t p i) ||| nI (t (p + i) - 97 + 1) <<< (nI (5 * (5 - i)) &&& 31) = nI (pkN t p (i + 1)) := by
  rw [show t (p + i) - 97 + 1 = t (p + i) - 96 by omega, shT _ (by omega) i hi, nI_or]
  show _ = nI (pkN t p i + _)
  rw [if_pos hi, pkN_R i (by omega)]
  congr 1
  have hb : (t (p + i) - 96) * 2 ^ (5 * (5 - i)) < 2 ^ (5 * (6 - i)) := by
    rw [show 5 * (6 - i) = 5 + 5 * (5 - i) by omega, Nat.pow_add]
    exact Nat.mul_lt_mul_of_pos_right (by omega) (Nat.two_pow_pos _)
  have := Nat.shiftLeft_add_eq_or_of_lt hb (pkR t p i)
  rw [Nat.shiftLeft_eq] at this
  exact this.symm
def wkF (v : Int32) : Nat → Nat → Nat
  | 0, _ => 25
  | m + 1, k => if tokW.getD k 0 = v then k else wkF v m (k + 1)
theorem wkF_le (v : Int32) : ∀ m k, k + m = 25 → wkF v m k ≤ 25 := by
  intro m
  induction m with
  | zero => intro k _; exact Nat.le_refl _
  | succ m ih =>
    intro k hk
    show (if _ then _ else _) ≤ _
    split
    · omega
    · exact ih (k + 1) (by omega)
def fC (a e : Nat) : Nat := if 10 * a + e < 1000000 then 10 * a + e else 1000000
def numF (f : Nat → Nat → Nat) (t : Nat → Nat) : Nat → Nat → Nat → Nat
  | 0, _, a => a
  | m + 1, p, a => if diB t p = true then numF f t m (p + 1) (f a (t p - 48)) else a
def sgN (b : Nat) : Nat := if b = 59 then 27 else if b = 60 then 28 else if b = 61 then 30 else if b = 62 then 33 else if b = 43 then 34 else if b = 45 then 35 else if b = 42 then 36 else if b = 47 then 37 else if b = 40 then 38 else if b = 41 then 39 else 41
def sgK (b x : Nat) : Nat := if b = 60 ∧ x = 61 then 29 else if b = 60 ∧ x = 62 then 31 else if b = 62 ∧ x = 61 then 32 else sgN b
def sgX (b x : Nat) : Nat := if (b = 60 ∧ x = 61) ∨ (b = 60 ∧ x = 62) ∨ (b = 62 ∧ x = 61) then 1 else 0
def tkP (t : Nat → Nat) (n p : Nat) : Nat := scanF (blB t) (n - p) p
def nxB (t : Nat → Nat) (n q : Nat) : Nat := if q + 1 < n then t (q + 1) else 0
def tkE (t : Nat → Nat) (n q : Nat) : Nat := if n ≤ q then q else if leB t q = true then scanF (leB t) (n - q) q else if diB t q = true then scanF (diB t) (n - q) q else q + 1 + sgX (t q) (nxB t n q)
def tkK (t : Nat → Nat) (n q : Nat) : Nat := if n ≤ q then 40 else if leB t q = true then (if 6 < scanF (leB t) (n - q) q - q then 41 else wkF (nI (pkN t q (scanF (leB t) (n - q) q - q))) 25 0) else if diB t q = true then 26 else sgK (t q) (nxB t n q)
/-- a word's letters, a number's worth -/
def tkV (t : Nat → Nat) (n q : Nat) (v : Int32) : Prop := (¬ n ≤ q → leB t q = true → v = nI (pkN t q (scanF (leB t) (n - q) q - q))) ∧ (¬ n ≤ q → ¬ leB t q = true → diB t q = true → v = nI (numF fC t (n - q) q 0))
def KT (h : Hp) (t : Nat → Nat) : Prop := kd h 190 = 10 ∧ kd h 1 = 13 ∧ hN h 1 = 700 ∧ hR h 190 0 = 2 ∧ hR h 190 1 = 192 ∧ kd h 191 = 13 ∧ hN h 191 = 25 ∧ (∀ j, j < 700 → hI h 1 j = nI (t j)) ∧ ∀ j, j < 25 → hI h 191 j = tokW.getD j 0
theorem KT.mv {h h' : Hp} {t : Nat → Nat} {L : List Nat} (K : KT h t) (F : Fr h h' L) (h1 : 1 ∉ L) (h2 : 191 ∉ L) : KT h' t := by
  unfold KT at *
  rw [F.kd, F.kd, F.kd, F.2.2.1, F.2.2.2.1, F.I h1, F.I h2]
  exact K
section T72
variable {sc : Nat × (Nat → Int32)} {pp : Nat → Nat → Int32 → Int32 → Hp → Option (Hp × Int32)} {h : Hp} {t : Nat → Nat} {n : Nat}
theorem c_isLetter (b : Nat) (h : Hp) (hb : b < 256) : Lm sc pp 25 0 [some (.int (nI b))] [] 0 0 h = some (h, some (.int (b32 (97 ≤ b ∧ b ≤ 122)))) := by
  by_cases q1 : b < 97
  · rw [b32_f (by omega)]
    simp (disch := first | assumption | omega | exact Nat.le_of_ble_eq_true rfl | exact CI.k0 (by assumption) | exact CI.k2 (by assumption) | exact CI.kc3 (by assumption) | exact CI.kc1 (by assumption) | exact CI.kc5 (by assumption) | exact CI.kc (by assumption) | exact CI.k136 (by assumption) | exact CI.k194 (by assumption) | exact CI.k114 (by assumption) | exact CI.k121 (by assumption) | exact CI.k12 (by assumption) | exact CI.kc18 (by assumption) | exact CI.kc21 (by assumption) | exact CI.k122 (by assumption) | exact CI.k127 (by assumption) | exact CI.k7 (by assumption) | exact CI.k189 (by assumption) | exact CI.k190 (by assumption) | exact CI.k192 (by assumption) | (simp only [kdI, kdJ, kdR, *]; done) | fail) only [↓reduceIte, Int32.reduceLE, Int32.reduceLT, x_nil, Nat.reduceAdd, x_iload_n0, x_bipush_97, x_icmp_lt, x_bipush_122, x_icmp_gt, x_iconst_1, x_goto, x_iconst_0, x_zreturn, L_25_0, L_25_6, L_25_12, L_25_16, L_25_17, ofInt1, ofIntm1, kdI, hNI, hRI, hJI, kdJ, hNJ, hIJ, hRJ, kdR, hNR, hIR, hJR, hII, hJJ, hRR, n_clamp, z_lt, z_ge, z_eq, z_le, z_gt, o_eq, o_lt, o_gt, o_le, o_ge, m_eq, n_eq, n_le, n_lt, n_sub1, nI_1, ol_add, nI_add, z_cl, o_cl, z_pos, o_pos, o_z, z_o, m_z, N_le, N_lt, q97_le, q97_lt, q97_ge, q97_gt, q97_eq, q97_mul, q97_add, q97_adl, q97_cl, q97_pos, q97_ti, q97_tj, zq97, qz97, q122_le, q122_lt, q122_ge, q122_gt, q122_eq, q122_mul, q122_add, q122_adl, q122_cl, q122_pos, q122_ti, q122_tj, zq122, qz122, ne_eq, not_true_eq_false, not_false_eq_true, if_true, if_false, and_self, or_self, true_or, or_true, and_true, true_and, and_false, false_and, or_false, false_or, Nat.reduceEqDiff, Nat.le_refl, Nat.reduceLT, Nat.reduceLeDiff, b32_01, nI_0, q1]
  · by_cases q2 : 122 < b
    · rw [b32_f (by omega)]
      simp (disch := first | assumption | omega | exact Nat.le_of_ble_eq_true rfl | exact CI.k0 (by assumption) | exact CI.k2 (by assumption) | exact CI.kc3 (by assumption) | exact CI.kc1 (by assumption) | exact CI.kc5 (by assumption) | exact CI.kc (by assumption) | exact CI.k136 (by assumption) | exact CI.k194 (by assumption) | exact CI.k114 (by assumption) | exact CI.k121 (by assumption) | exact CI.k12 (by assumption) | exact CI.kc18 (by assumption) | exact CI.kc21 (by assumption) | exact CI.k122 (by assumption) | exact CI.k127 (by assumption) | exact CI.k7 (by assumption) | exact CI.k189 (by assumption) | exact CI.k190 (by assumption) | exact CI.k192 (by assumption) | (simp only [kdI, kdJ, kdR, *]; done) | fail) only [↓reduceIte, Int32.reduceLE, Int32.reduceLT, x_nil, Nat.reduceAdd, x_iload_n0, x_bipush_97, x_icmp_lt, x_bipush_122, x_icmp_gt, x_iconst_1, x_goto, x_iconst_0, x_zreturn, L_25_0, L_25_6, L_25_12, L_25_16, L_25_17, ofInt1, ofIntm1, kdI, hNI, hRI, hJI, kdJ, hNJ, hIJ, hRJ, kdR, hNR, hIR, hJR, hII, hJJ, hRR, n_clamp, z_lt, z_ge, z_eq, z_le, z_gt, o_eq, o_lt, o_gt, o_le, o_ge, m_eq, n_eq, n_le, n_lt, n_sub1, nI_1, ol_add, nI_add, z_cl, o_cl, z_pos, o_pos, o_z, z_o, m_z, N_le, N_lt, q97_le, q97_lt, q97_ge, q97_gt, q97_eq, q97_mul, q97_add, q97_adl, q97_cl, q97_pos, q97_ti, q97_tj, zq97, qz97, q122_le, q122_lt, q122_ge, q122_gt, q122_eq, q122_mul, q122_add, q122_adl, q122_cl, q122_pos, q122_ti, q122_tj, zq122, qz122, ne_eq, not_true_eq_false, not_false_eq_true, if_true, if_false, and_self, or_self, true_or, or_true, and_true, true_and, and_false, false_and, or_false, false_or, Nat.reduceEqDiff, Nat.le_refl, Nat.reduceLT, Nat.reduceLeDiff, b32_01, nI_0, q1, q2]
    · rw [b32_t (by omega)]
      simp (disch := first | assumption | omega | exact Nat.le_of_ble_eq_true rfl | exact CI.k0 (by assumption) | exact CI.k2 (by assumption) | exact CI.kc3 (by assumption) | exact CI.kc1 (by assumption) | exact CI.kc5 (by assumption) | exact CI.kc (by assumption) | exact CI.k136 (by assumption) | exact CI.k194 (by assumption) | exact CI.k114 (by assumption) | exact CI.k121 (by assumption) | exact CI.k12 (by assumption) | exact CI.kc18 (by assumption) | exact CI.kc21 (by assumption) | exact CI.k122 (by assumption) | exact CI.k127 (by assumption) | exact CI.k7 (by assumption) | exact CI.k189 (by assumption) | exact CI.k190 (by assumption) | exact CI.k192 (by assumption) | (simp only [kdI, kdJ, kdR, *]; done) | fail) only [↓reduceIte, Int32.reduceLE, Int32.reduceLT, x_nil, Nat.reduceAdd, x_iload_n0, x_bipush_97, x_icmp_lt, x_bipush_122, x_icmp_gt, x_iconst_1, x_goto, x_iconst_0, x_zreturn, L_25_0, L_25_6, L_25_12, L_25_16, L_25_17, ofInt1, ofIntm1, kdI, hNI, hRI, hJI, kdJ, hNJ, hIJ, hRJ, kdR, hNR, hIR, hJR, hII, hJJ, hRR, n_clamp, z_lt, z_ge, z_eq, z_le, z_gt, o_eq, o_lt, o_gt, o_le, o_ge, m_eq, n_eq, n_le, n_lt, n_sub1, nI_1, ol_add, nI_add, z_cl, o_cl, z_pos, o_pos, o_z, z_o, m_z, N_le, N_lt, q97_le, q97_lt, q97_ge, q97_gt, q97_eq, q97_mul, q97_add, q97_adl, q97_cl, q97_pos, q97_ti, q97_tj, zq97, qz97, q122_le, q122_lt, q122_ge, q122_gt, q122_eq, q122_mul, q122_add, q122_adl, q122_cl, q122_pos, q122_ti, q122_tj, zq122, qz122, ne_eq, not_true_eq_false, not_false_eq_true, if_true, if_false, and_self, or_self, true_or, or_true, and_true, true_and, and_false, false_and, or_false, false_or, Nat.reduceEqDiff, Nat.le_refl, Nat.reduceLT, Nat.reduceLeDiff, b32_01, nI_0, q1, q2]
theorem c_isDigit (b : Nat) (h : Hp) (hb : b < 256) : Lm sc pp 28 0 [some (.int (nI b))] [] 0 0 h = some (h, some (.int (b32 (48 ≤ b ∧ b ≤ 57)))) := by
  by_cases q1 : b < 48
  · rw [b32_f (by omega)]
    simp (disch := first | assumption | omega | exact Nat.le_of_ble_eq_true rfl | exact CI.k0 (by assumption) | exact CI.k2 (by assumption) | exact CI.kc3 (by assumption) | exact CI.kc1 (by assumption) | exact CI.kc5 (by assumption) | exact CI.kc (by assumption) | exact CI.k136 (by assumption) | exact CI.k194 (by assumption) | exact CI.k114 (by assumption) | exact CI.k121 (by assumption) | exact CI.k12 (by assumption) | exact CI.kc18 (by assumption) | exact CI.kc21 (by assumption) | exact CI.k122 (by assumption) | exact CI.k127 (by assumption) | exact CI.k7 (by assumption) | exact CI.k189 (by assumption) | exact CI.k190 (by assumption) | exact CI.k192 (by assumption) | (simp only [kdI, kdJ, kdR, *]; done) | fail) only [↓reduceIte, Int32.reduceLE, Int32.reduceLT, x_nil, Nat.reduceAdd, x_iload_n0, x_bipush_48, x_icmp_lt, x_bipush_57, x_icmp_gt, x_iconst_1, x_goto, x_iconst_0, x_zreturn, L_28_0, L_28_6, L_28_12, L_28_16, L_28_17, ofInt1, ofIntm1, kdI, hNI, hRI, hJI, kdJ, hNJ, hIJ, hRJ, kdR, hNR, hIR, hJR, hII, hJJ, hRR, n_clamp, z_lt, z_ge, z_eq, z_le, z_gt, o_eq, o_lt, o_gt, o_le, o_ge, m_eq, n_eq, n_le, n_lt, n_sub1, nI_1, ol_add, nI_add, z_cl, o_cl, z_pos, o_pos, o_z, z_o, m_z, N_le, N_lt, q48_le, q48_lt, q48_ge, q48_gt, q48_eq, q48_mul, q48_add, q48_adl, q48_cl, q48_pos, q48_ti, q48_tj, zq48, qz48, q57_le, q57_lt, q57_ge, q57_gt, q57_eq, q57_mul, q57_add, q57_adl, q57_cl, q57_pos, q57_ti, q57_tj, zq57, qz57, ne_eq, not_true_eq_false, not_false_eq_true, if_true, if_false, and_self, or_self, true_or, or_true, and_true, true_and, and_false, false_and, or_false, false_or, Nat.reduceEqDiff, Nat.le_refl, Nat.reduceLT, Nat.reduceLeDiff, b32_01, nI_0, q1]
  · by_cases q2 : 57 < b
    · rw [b32_f (by omega)]
      simp (disch := first | assumption | omega | exact Nat.le_of_ble_eq_true rfl | exact CI.k0 (by assumption) | exact CI.k2 (by assumption) | exact CI.kc3 (by assumption) | exact CI.kc1 (by assumption) | exact CI.kc5 (by assumption) | exact CI.kc (by assumption) | exact CI.k136 (by assumption) | exact CI.k194 (by assumption) | exact CI.k114 (by assumption) | exact CI.k121 (by assumption) | exact CI.k12 (by assumption) | exact CI.kc18 (by assumption) | exact CI.kc21 (by assumption) | exact CI.k122 (by assumption) | exact CI.k127 (by assumption) | exact CI.k7 (by assumption) | exact CI.k189 (by assumption) | exact CI.k190 (by assumption) | exact CI.k192 (by assumption) | (simp only [kdI, kdJ, kdR, *]; done) | fail) only [↓reduceIte, Int32.reduceLE, Int32.reduceLT, x_nil, Nat.reduceAdd, x_iload_n0, x_bipush_48, x_icmp_lt, x_bipush_57, x_icmp_gt, x_iconst_1, x_goto, x_iconst_0, x_zreturn, L_28_0, L_28_6, L_28_12, L_28_16, L_28_17, ofInt1, ofIntm1, kdI, hNI, hRI, hJI, kdJ, hNJ, hIJ, hRJ, kdR, hNR, hIR, hJR, hII, hJJ, hRR, n_clamp, z_lt, z_ge, z_eq, z_le, z_gt, o_eq, o_lt, o_gt, o_le, o_ge, m_eq, n_eq, n_le, n_lt, n_sub1, nI_1, ol_add, nI_add, z_cl, o_cl, z_pos, o_pos, o_z, z_o, m_z, N_le, N_lt, q48_le, q48_lt, q48_ge, q48_gt, q48_eq, q48_mul, q48_add, q48_adl, q48_cl, q48_pos, q48_ti, q48_tj, zq48, qz48, q57_le, q57_lt, q57_ge, q57_gt, q57_eq, q57_mul, q57_add, q57_adl, q57_cl, q57_pos, q57_ti, q57_tj, zq57, qz57, ne_eq, not_true_eq_false, not_false_eq_true, if_true, if_false, and_self, or_self, true_or, or_true, and_true, true_and, and_false, false_and, or_false, false_or, Nat.reduceEqDiff, Nat.le_refl, Nat.reduceLT, Nat.reduceLeDiff, b32_01, nI_0, q1, q2]
    · rw [b32_t (by omega)]
      simp (disch := first | assumption | omega | exact Nat.le_of_ble_eq_true rfl | exact CI.k0 (by assumption) | exact CI.k2 (by assumption) | exact CI.kc3 (by assumption) | exact CI.kc1 (by assumption) | exact CI.kc5 (by assumption) | exact CI.kc (by assumption) | exact CI.k136 (by assumption) | exact CI.k194 (by assumption) | exact CI.k114 (by assumption) | exact CI.k121 (by assumption) | exact CI.k12 (by assumption) | exact CI.kc18 (by assumption) | exact CI.kc21 (by assumption) | exact CI.k122 (by assumption) | exact CI.k127 (by assumption) | exact CI.k7 (by assumption) | exact CI.k189 (by assumption) | exact CI.k190 (by assumption) | exact CI.k192 (by assumption) | (simp only [kdI, kdJ, kdR, *]; done) | fail) only [↓reduceIte, Int32.reduceLE, Int32.reduceLT, x_nil, Nat.reduceAdd, x_iload_n0, x_bipush_48, x_icmp_lt, x_bipush_57, x_icmp_gt, x_iconst_1, x_goto, x_iconst_0, x_zreturn, L_28_0, L_28_6, L_28_12, L_28_16, L_28_17, ofInt1, ofIntm1, kdI, hNI, hRI, hJI, kdJ, hNJ, hIJ, hRJ, kdR, hNR, hIR, hJR, hII, hJJ, hRR, n_clamp, z_lt, z_ge, z_eq, z_le, z_gt, o_eq, o_lt, o_gt, o_le, o_ge, m_eq, n_eq, n_le, n_lt, n_sub1, nI_1, ol_add, nI_add, z_cl, o_cl, z_pos, o_pos, o_z, z_o, m_z, N_le, N_lt, q48_le, q48_lt, q48_ge, q48_gt, q48_eq, q48_mul, q48_add, q48_adl, q48_cl, q48_pos, q48_ti, q48_tj, zq48, qz48, q57_le, q57_lt, q57_ge, q57_gt, q57_eq, q57_mul, q57_add, q57_adl, q57_cl, q57_pos, q57_ti, q57_tj, zq57, qz57, ne_eq, not_true_eq_false, not_false_eq_true, if_true, if_false, and_self, or_self, true_or, or_true, and_true, true_and, and_false, false_and, or_false, false_or, Nat.reduceEqDiff, Nat.le_refl, Nat.reduceLT, Nat.reduceLeDiff, b32_01, nI_0, q1, q2]
theorem c_skip (ht : ∀ j, t j < 256) (hn : n ≤ 700) : ∀ (m p : Nat) (h : Hp), p + m = n → KT h t → hI h 190 2 = nI n → hI h 190 3 = nI p → ∃ h', Lm sc pp 32 0 [some (.ref 190)] [] 0 0 h = Lm sc pp 32 52 [some (.ref 190)] [] 0 0 h' ∧ Fr h h' [190] ∧ hI h' 190 2 = nI n ∧ hI h' 190 3 = nI (scanF (blB t) m p) := by
  intro m
  induction m with
  | zero =>
    intro p h hp K e2 e3
    have : p = n := by omega
    subst this
    obtain ⟨k0, k1, n1, r0, r1, k2, n2, tp, wd⟩ := K
    refine ⟨h, ?_, Fr.refl _ _, e2, e3⟩
    rw [L_32_0]
    simp (disch := first | assumption | omega | exact Nat.le_of_ble_eq_true rfl | exact CI.k0 (by assumption) | exact CI.k2 (by assumption) | exact CI.kc3 (by assumption) | exact CI.kc1 (by assumption) | exact CI.kc5 (by assumption) | exact CI.kc (by assumption) | exact CI.k136 (by assumption) | exact CI.k194 (by assumption) | exact CI.k114 (by assumption) | exact CI.k121 (by assumption) | exact CI.k12 (by assumption) | exact CI.kc18 (by assumption) | exact CI.kc21 (by assumption) | exact CI.k122 (by assumption) | exact CI.k127 (by assumption) | exact CI.k7 (by assumption) | exact CI.k189 (by assumption) | exact CI.k190 (by assumption) | exact CI.k192 (by assumption) | (simp only [kdI, kdJ, kdR, *]; done) | fail) only [↓reduceIte, Int32.reduceLE, Int32.reduceLT, x_nil, Nat.reduceAdd, x_aload_n0, x_getI, x_icmp_ge, x_getR, x_iald, x_bipush_32, x_icmp_eq, x_bipush_10, x_icmp_ne, x_dupI, x_dupA, x_iconst_1, x_iadd, x_putI, x_goto, x_icmp_lt, x_bipush_40, K_25, bindR_some, toL_s, toL_n, ap_n, ap_c, List.map_nil, List.map_cons, List.sum_nil, List.sum_cons, cat_i, cat_r, cat_l, Nat.reduceLeDiff, Nat.zero_le, Nat.le_refl, x_if_eq, K_27, K_28, K_29, K_30, K_31, x_return, L_32_11, L_32_25, L_32_39, ofInt1, ofIntm1, kdI, hNI, hRI, hJI, kdJ, hNJ, hIJ, hRJ, kdR, hNR, hIR, hJR, hII, hJJ, hRR, n_clamp, z_lt, z_ge, z_eq, z_le, z_gt, o_eq, o_lt, o_gt, o_le, o_ge, m_eq, n_eq, n_le, n_lt, n_sub1, nI_1, ol_add, nI_add, z_cl, o_cl, z_pos, o_pos, o_z, z_o, m_z, N_le, N_lt, q10_le, q10_lt, q10_ge, q10_gt, q10_eq, q10_mul, q10_add, q10_adl, q10_cl, q10_pos, q10_ti, q10_tj, zq10, qz10, q32_le, q32_lt, q32_ge, q32_gt, q32_eq, q32_mul, q32_add, q32_adl, q32_cl, q32_pos, q32_ti, q32_tj, zq32, qz32, q40_le, q40_lt, q40_ge, q40_gt, q40_eq, q40_mul, q40_add, q40_adl, q40_cl, q40_pos, q40_ti, q40_tj, zq40, qz40, ne_eq, not_true_eq_false, not_false_eq_true, if_true, if_false, and_self, or_self, true_or, or_true, and_true, true_and, and_false, false_and, or_false, false_or, Nat.reduceEqDiff, Nat.le_refl, Nat.reduceLT, Nat.reduceLeDiff, b32_01, nI_0, k0, e2, e3]
  | succ m ih =>
    intro p h hp K e2 e3
    have hp' : ¬ n ≤ p := by omega
    have htp := ht p
    have K0 := K
    obtain ⟨k0, k1, n1, r0, r1, k2, n2, tp, wd⟩ := K
    have ep := tp p (by omega)
    by_cases b : blB t p = true
    · rw [scan_t b]
      have F1 : Fr h (sI h 190 3 (nI (p + 1))) [190] := Fr_sI (by simp)
      obtain ⟨h', e, F, x2, x3⟩ := ih (p + 1) (sI h 190 3 (nI (p + 1))) (by omega) (K0.mv F1 (by simp) (by simp)) (by rw [hII, if_neg (by omega)]; exact e2) (by rw [hII, if_pos ⟨rfl, rfl⟩])
      refine ⟨h', ?_, F1.trans F, x2, x3⟩
      rw [← e, L_32_0]
      by_cases b1 : t p = 32
      · have b1' := eq_true b1
        simp (disch := first | assumption | omega | exact Nat.le_of_ble_eq_true rfl | exact CI.k0 (by assumption) | exact CI.k2 (by assumption) | exact CI.kc3 (by assumption) | exact CI.kc1 (by assumption) | exact CI.kc5 (by assumption) | exact CI.kc (by assumption) | exact CI.k136 (by assumption) | exact CI.k194 (by assumption) | exact CI.k114 (by assumption) | exact CI.k121 (by assumption) | exact CI.k12 (by assumption) | exact CI.kc18 (by assumption) | exact CI.kc21 (by assumption) | exact CI.k122 (by assumption) | exact CI.k127 (by assumption) | exact CI.k7 (by assumption) | exact CI.k189 (by assumption) | exact CI.k190 (by assumption) | exact CI.k192 (by assumption) | (simp only [kdI, kdJ, kdR, *]; done) | fail) only [↓reduceIte, Int32.reduceLE, Int32.reduceLT, x_nil, Nat.reduceAdd, x_aload_n0, x_getI, x_icmp_ge, x_getR, x_iald, x_bipush_32, x_icmp_eq, x_bipush_10, x_icmp_ne, x_dupI, x_dupA, x_iconst_1, x_iadd, x_putI, x_goto, x_icmp_lt, x_bipush_40, K_25, bindR_some, toL_s, toL_n, ap_n, ap_c, List.map_nil, List.map_cons, List.sum_nil, List.sum_cons, cat_i, cat_r, cat_l, Nat.reduceLeDiff, Nat.zero_le, Nat.le_refl, x_if_eq, K_27, K_28, K_29, K_30, K_31, x_return, L_32_11, L_32_25, L_32_39, ofInt1, ofIntm1, kdI, hNI, hRI, hJI, kdJ, hNJ, hIJ, hRJ, kdR, hNR, hIR, hJR, hII, hJJ, hRR, n_clamp, z_lt, z_ge, z_eq, z_le, z_gt, o_eq, o_lt, o_gt, o_le, o_ge, m_eq, n_eq, n_le, n_lt, n_sub1, nI_1, ol_add, nI_add, z_cl, o_cl, z_pos, o_pos, o_z, z_o, m_z, N_le, N_lt, q10_le, q10_lt, q10_ge, q10_gt, q10_eq, q10_mul, q10_add, q10_adl, q10_cl, q10_pos, q10_ti, q10_tj, zq10, qz10, q32_le, q32_lt, q32_ge, q32_gt, q32_eq, q32_mul, q32_add, q32_adl, q32_cl, q32_pos, q32_ti, q32_tj, zq32, qz32, q40_le, q40_lt, q40_ge, q40_gt, q40_eq, q40_mul, q40_add, q40_adl, q40_cl, q40_pos, q40_ti, q40_tj, zq40, qz40, ne_eq, not_true_eq_false, not_false_eq_true, if_true, if_false, and_self, or_self, true_or, or_true, and_true, true_and, and_false, false_and, or_false, false_or, Nat.reduceEqDiff, Nat.le_refl, Nat.reduceLT, Nat.reduceLeDiff, b32_01, nI_0, k0, k1, n1, r0, e2, e3, ep, hp', b1']
      · have b2' := eq_true ((blB_iff.mp b).resolve_left b1)
        simp (disch := first | assumption | omega | exact Nat.le_of_ble_eq_true rfl | exact CI.k0 (by assumption) | exact CI.k2 (by assumption) | exact CI.kc3 (by assumption) | exact CI.kc1 (by assumption) | exact CI.kc5 (by assumption) | exact CI.kc (by assumption) | exact CI.k136 (by assumption) | exact CI.k194 (by assumption) | exact CI.k114 (by assumption) | exact CI.k121 (by assumption) | exact CI.k12 (by assumption) | exact CI.kc18 (by assumption) | exact CI.kc21 (by assumption) | exact CI.k122 (by assumption) | exact CI.k127 (by assumption) | exact CI.k7 (by assumption) | exact CI.k189 (by assumption) | exact CI.k190 (by assumption) | exact CI.k192 (by assumption) | (simp only [kdI, kdJ, kdR, *]; done) | fail) only [↓reduceIte, Int32.reduceLE, Int32.reduceLT, x_nil, Nat.reduceAdd, x_aload_n0, x_getI, x_icmp_ge, x_getR, x_iald, x_bipush_32, x_icmp_eq, x_bipush_10, x_icmp_ne, x_dupI, x_dupA, x_iconst_1, x_iadd, x_putI, x_goto, x_icmp_lt, x_bipush_40, K_25, bindR_some, toL_s, toL_n, ap_n, ap_c, List.map_nil, List.map_cons, List.sum_nil, List.sum_cons, cat_i, cat_r, cat_l, Nat.reduceLeDiff, Nat.zero_le, Nat.le_refl, x_if_eq, K_27, K_28, K_29, K_30, K_31, x_return, L_32_11, L_32_25, L_32_39, ofInt1, ofIntm1, kdI, hNI, hRI, hJI, kdJ, hNJ, hIJ, hRJ, kdR, hNR, hIR, hJR, hII, hJJ, hRR, n_clamp, z_lt, z_ge, z_eq, z_le, z_gt, o_eq, o_lt, o_gt, o_le, o_ge, m_eq, n_eq, n_le, n_lt, n_sub1, nI_1, ol_add, nI_add, z_cl, o_cl, z_pos, o_pos, o_z, z_o, m_z, N_le, N_lt, q10_le, q10_lt, q10_ge, q10_gt, q10_eq, q10_mul, q10_add, q10_adl, q10_cl, q10_pos, q10_ti, q10_tj, zq10, qz10, q32_le, q32_lt, q32_ge, q32_gt, q32_eq, q32_mul, q32_add, q32_adl, q32_cl, q32_pos, q32_ti, q32_tj, zq32, qz32, q40_le, q40_lt, q40_ge, q40_gt, q40_eq, q40_mul, q40_add, q40_adl, q40_cl, q40_pos, q40_ti, q40_tj, zq40, qz40, ne_eq, not_true_eq_false, not_false_eq_true, if_true, if_false, and_self, or_self, true_or, or_true, and_true, true_and, and_false, false_and, or_false, false_or, Nat.reduceEqDiff, Nat.le_refl, Nat.reduceLT, Nat.reduceLeDiff, b32_01, nI_0, k0, k1, n1, r0, e2, e3, ep, hp', b1, b2']
    · rw [scan_f b]
      have b1 : ¬ t p = 32 := fun z => b (blB_iff.mpr (Or.inl z))
      have b2 : ¬ t p = 10 := fun z => b (blB_iff.mpr (Or.inr z))
      refine ⟨h, ?_, Fr.refl _ _, e2, e3⟩
      rw [L_32_0]
      simp (disch := first | assumption | omega | exact Nat.le_of_ble_eq_true rfl | exact CI.k0 (by assumption) | exact CI.k2 (by assumption) | exact CI.kc3 (by assumption) | exact CI.kc1 (by assumption) | exact CI.kc5 (by assumption) | exact CI.kc (by assumption) | exact CI.k136 (by assumption) | exact CI.k194 (by assumption) | exact CI.k114 (by assumption) | exact CI.k121 (by assumption) | exact CI.k12 (by assumption) | exact CI.kc18 (by assumption) | exact CI.kc21 (by assumption) | exact CI.k122 (by assumption) | exact CI.k127 (by assumption) | exact CI.k7 (by assumption) | exact CI.k189 (by assumption) | exact CI.k190 (by assumption) | exact CI.k192 (by assumption) | (simp only [kdI, kdJ, kdR, *]; done) | fail) only [↓reduceIte, Int32.reduceLE, Int32.reduceLT, x_nil, Nat.reduceAdd, x_aload_n0, x_getI, x_icmp_ge, x_getR, x_iald, x_bipush_32, x_icmp_eq, x_bipush_10, x_icmp_ne, x_dupI, x_dupA, x_iconst_1, x_iadd, x_putI, x_goto, x_icmp_lt, x_bipush_40, K_25, bindR_some, toL_s, toL_n, ap_n, ap_c, List.map_nil, List.map_cons, List.sum_nil, List.sum_cons, cat_i, cat_r, cat_l, Nat.reduceLeDiff, Nat.zero_le, Nat.le_refl, x_if_eq, K_27, K_28, K_29, K_30, K_31, x_return, L_32_11, L_32_25, L_32_39, ofInt1, ofIntm1, kdI, hNI, hRI, hJI, kdJ, hNJ, hIJ, hRJ, kdR, hNR, hIR, hJR, hII, hJJ, hRR, n_clamp, z_lt, z_ge, z_eq, z_le, z_gt, o_eq, o_lt, o_gt, o_le, o_ge, m_eq, n_eq, n_le, n_lt, n_sub1, nI_1, ol_add, nI_add, z_cl, o_cl, z_pos, o_pos, o_z, z_o, m_z, N_le, N_lt, q10_le, q10_lt, q10_ge, q10_gt, q10_eq, q10_mul, q10_add, q10_adl, q10_cl, q10_pos, q10_ti, q10_tj, zq10, qz10, q32_le, q32_lt, q32_ge, q32_gt, q32_eq, q32_mul, q32_add, q32_adl, q32_cl, q32_pos, q32_ti, q32_tj, zq32, qz32, q40_le, q40_lt, q40_ge, q40_gt, q40_eq, q40_mul, q40_add, q40_adl, q40_cl, q40_pos, q40_ti, q40_tj, zq40, qz40, ne_eq, not_true_eq_false, not_false_eq_true, if_true, if_false, and_self, or_self, true_or, or_true, and_true, true_and, and_false, false_and, or_false, false_or, Nat.reduceEqDiff, Nat.le_refl, Nat.reduceLT, Nat.reduceLeDiff, b32_01, nI_0, k0, k1, n1, r0, e2, e3, ep, hp', b1, b2]
theorem c_word_loop (ht : ∀ j, t j < 256) (hn : n ≤ 700) (p : Nat) : ∀ (m i : Nat) (h : Hp), p + i + m = n → KT h t → hI h 190 2 = nI n → hI h 190 3 = nI (p + i) → hI h 190 6 = nI (pkN t p i) → ∃ h', Lm sc pp 27 7 [some (.ref 190), some (.int (nI i))] [] 0 0 h = Lm sc pp 27 84 [some (.ref 190), some (.int (nI (scanF (leB t) m (p + i) - p)))] [] 0 0 h' ∧ Fr h h' [190] ∧ hI h' 190 2 = nI n ∧ hI h' 190 3 = nI (scanF (leB t) m (p + i)) ∧ hI h' 190 5 = hI h 190 5 ∧ hI h' 190 6 = nI (pkN t p (scanF (leB t) m (p + i) - p)) := by
  intro m
  induction m with
  | zero =>
    intro i h hp K e2 e3 e6
    have hp' : n ≤ p + i := by omega
    obtain ⟨k0, k1, n1, r0, r1, k2, n2, tp, wd⟩ := K
    have e : scanF (leB t) 0 (p + i) - p = i := by show p + i - p = i; omega
    rw [e]
    refine ⟨h, ?_, Fr.refl _ _, e2, e3, rfl, e6⟩
    rw [L_27_7]
    simp (disch := first | assumption | omega | exact Nat.le_of_ble_eq_true rfl | exact CI.k0 (by assumption) | exact CI.k2 (by assumption) | exact CI.kc3 (by assumption) | exact CI.kc1 (by assumption) | exact CI.kc5 (by assumption) | exact CI.kc (by assumption) | exact CI.k136 (by assumption) | exact CI.k194 (by assumption) | exact CI.k114 (by assumption) | exact CI.k121 (by assumption) | exact CI.k12 (by assumption) | exact CI.kc18 (by assumption) | exact CI.kc21 (by assumption) | exact CI.k122 (by assumption) | exact CI.k127 (by assumption) | exact CI.k7 (by assumption) | exact CI.k189 (by assumption) | exact CI.k190 (by assumption) | exact CI.k192 (by assumption) | (simp only [kdI, kdJ, kdR, *]; done) | fail) only [↓reduceIte, Int32.reduceLE, Int32.reduceLT, x_nil, Nat.reduceAdd, x_iconst_0, x_istore_n1, x_aload_n0, x_putI, x_getI, x_icmp_ge, x_getR, x_iald, K_25, bindR_some, toL_s, toL_n, ap_n, ap_c, List.map_nil, List.map_cons, List.sum_nil, List.sum_cons, cat_i, cat_r, cat_l, Nat.reduceLeDiff, Nat.zero_le, Nat.le_refl, x_if_eq, x_iload_n1, x_bipush_6, x_dupI, x_dupA, x_bipush_97, x_isub, x_iconst_1, x_iadd, x_iconst_5, x_imul, x_ishl, x_ior, x_iinc1, x_goto, x_icmp_le, x_bipush_41, K_26, x_return, L_27_18, L_27_30, L_27_33, L_27_39, L_27_68, ofInt1, ofIntm1, kdI, hNI, hRI, hJI, kdJ, hNJ, hIJ, hRJ, kdR, hNR, hIR, hJR, hII, hJJ, hRR, n_clamp, z_lt, z_ge, z_eq, z_le, z_gt, o_eq, o_lt, o_gt, o_le, o_ge, m_eq, n_eq, n_le, n_lt, n_sub1, nI_1, ol_add, nI_add, z_cl, o_cl, z_pos, o_pos, o_z, z_o, m_z, N_le, N_lt, q5_le, q5_lt, q5_ge, q5_gt, q5_eq, q5_mul, q5_add, q5_adl, q5_cl, q5_pos, q5_ti, q5_tj, zq5, qz5, q6_le, q6_lt, q6_ge, q6_gt, q6_eq, q6_mul, q6_add, q6_adl, q6_cl, q6_pos, q6_ti, q6_tj, zq6, qz6, q41_le, q41_lt, q41_ge, q41_gt, q41_eq, q41_mul, q41_add, q41_adl, q41_cl, q41_pos, q41_ti, q41_tj, zq41, qz41, q97_le, q97_lt, q97_ge, q97_gt, q97_eq, q97_mul, q97_add, q97_adl, q97_cl, q97_pos, q97_ti, q97_tj, zq97, qz97, ne_eq, not_true_eq_false, not_false_eq_true, if_true, if_false, and_self, or_self, true_or, or_true, and_true, true_and, and_false, false_and, or_false, false_or, Nat.reduceEqDiff, Nat.le_refl, Nat.reduceLT, Nat.reduceLeDiff, b32_01, nI_0, k0, e2, e3, hp']
  | succ m ih =>
    intro i h hp K e2 e3 e6
    have hp' : ¬ n ≤ p + i := by omega
    have htp := ht (p + i)
    have K0 := K
    obtain ⟨k0, k1, n1, r0, r1, k2, n2, tp, wd⟩ := K
    have ep := tp (p + i) (by omega)
    have el := c_isLetter (sc := sc) (pp := pp) (t (p + i)) h htp
    by_cases b : leB t (p + i) = true
    · rw [scan_t b]
      have bb := leB_iff.mp b
      rw [b32_t bb] at el
      by_cases i6 : i < 6
      · have F1 : Fr h (sI (sI h 190 6 (nI (pkN t p (i + 1)))) 190 3 (nI (p + i + 1))) [190] := (Fr_sI (by simp)).trans (Fr_sI (by simp))
        obtain ⟨h', e, F, x2, x3, x5, x6⟩ := ih (i + 1) (sI (sI h 190 6 (nI (pkN t p (i + 1)))) 190 3 (nI (p + i + 1))) (by omega) (K0.mv F1 (by simp) (by simp)) (by rw [hII, if_neg (by omega), hII, if_neg (by omega)]; exact e2) (by rw [hII, if_pos ⟨rfl, rfl⟩]; rfl) (by rw [hII, if_neg (by omega), hII, if_pos ⟨rfl, rfl⟩])
        refine ⟨h', ?_, F1.trans F, x2, x3, x5.trans (by rw [hII, if_neg (by omega), hII, if_neg (by omega)]), x6⟩
        rw [show p + i + 1 = p + (i + 1) from rfl, ← e, L_27_7]
        have a5 : (5 : Int32) - nI i = nI (5 - i) := (by decide +kernel : ∀ i, i < 6 → (5 : Int32) - nI i = nI (5 - i)) i i6
        have a97 : nI (t (p + i)) - 97 = nI (t (p + i) - 97) := (by decide +kernel : ∀ x, x < 256 → 97 ≤ x → nI x - 97 = nI (x - 97)) _ htp bb.1
        have eo := pk_or i6 bb
        have i6' : ¬ 6 ≤ i := by omega
        simp (disch := first | assumption | omega | exact Nat.le_of_ble_eq_true rfl | exact CI.k0 (by assumption) | exact CI.k2 (by assumption) | exact CI.kc3 (by assumption) | exact CI.kc1 (by assumption) | exact CI.kc5 (by assumption) | exact CI.kc (by assumption) | exact CI.k136 (by assumption) | exact CI.k194 (by assumption) | exact CI.k114 (by assumption) | exact CI.k121 (by assumption) | exact CI.k12 (by assumption) | exact CI.kc18 (by assumption) | exact CI.kc21 (by assumption) | exact CI.k122 (by assumption) | exact CI.k127 (by assumption) | exact CI.k7 (by assumption) | exact CI.k189 (by assumption) | exact CI.k190 (by assumption) | exact CI.k192 (by assumption) | (simp only [kdI, kdJ, kdR, *]; done) | fail) only [↓reduceIte, Int32.reduceLE, Int32.reduceLT, x_nil, Nat.reduceAdd, x_iconst_0, x_istore_n1, x_aload_n0, x_putI, x_getI, x_icmp_ge, x_getR, x_iald, K_25, bindR_some, toL_s, toL_n, ap_n, ap_c, List.map_nil, List.map_cons, List.sum_nil, List.sum_cons, cat_i, cat_r, cat_l, Nat.reduceLeDiff, Nat.zero_le, Nat.le_refl, x_if_eq, x_iload_n1, x_bipush_6, x_dupI, x_dupA, x_bipush_97, x_isub, x_iconst_1, x_iadd, x_iconst_5, x_imul, x_ishl, x_ior, x_iinc1, x_goto, x_icmp_le, x_bipush_41, K_26, x_return, L_27_18, L_27_30, L_27_33, L_27_39, L_27_68, ofInt1, ofIntm1, kdI, hNI, hRI, hJI, kdJ, hNJ, hIJ, hRJ, kdR, hNR, hIR, hJR, hII, hJJ, hRR, n_clamp, z_lt, z_ge, z_eq, z_le, z_gt, o_eq, o_lt, o_gt, o_le, o_ge, m_eq, n_eq, n_le, n_lt, n_sub1, nI_1, ol_add, nI_add, z_cl, o_cl, z_pos, o_pos, o_z, z_o, m_z, N_le, N_lt, q5_le, q5_lt, q5_ge, q5_gt, q5_eq, q5_mul, q5_add, q5_adl, q5_cl, q5_pos, q5_ti, q5_tj, zq5, qz5, q6_le, q6_lt, q6_ge, q6_gt, q6_eq, q6_mul, q6_add, q6_adl, q6_cl, q6_pos, q6_ti, q6_tj, zq6, qz6, q41_le, q41_lt, q41_ge, q41_gt, q41_eq, q41_mul, q41_add, q41_adl, q41_cl, q41_pos, q41_ti, q41_tj, zq41, qz41, q97_le, q97_lt, q97_ge, q97_gt, q97_eq, q97_mul, q97_add, q97_adl, q97_cl, q97_pos, q97_ti, q97_tj, zq97, qz97, ne_eq, not_true_eq_false, not_false_eq_true, if_true, if_false, and_self, or_self, true_or, or_true, and_true, true_and, and_false, false_and, or_false, false_or, Nat.reduceEqDiff, Nat.le_refl, Nat.reduceLT, Nat.reduceLeDiff, b32_01, nI_0, k0, k1, n1, r0, e2, e3, e6, ep, hp', el, i6', a5, a97, eo, Nat.add_assoc]
      · have F1 : Fr h (sI h 190 3 (nI (p + i + 1))) [190] := Fr_sI (by simp)
        have epk : pkN t p (i + 1) = pkN t p i := by
          show pkN t p i + _ = _
          rw [if_neg i6, Nat.add_zero]
        obtain ⟨h', e, F, x2, x3, x5, x6⟩ := ih (i + 1) (sI h 190 3 (nI (p + i + 1))) (by omega) (K0.mv F1 (by simp) (by simp)) (by rw [hII, if_neg (by omega)]; exact e2) (by rw [hII, if_pos ⟨rfl, rfl⟩]; rfl) (by rw [hII, if_neg (by omega), epk]; exact e6)
        refine ⟨h', ?_, F1.trans F, x2, x3, x5.trans (by rw [hII, if_neg (by omega)]), x6⟩
        rw [show p + i + 1 = p + (i + 1) from rfl, ← e, L_27_7]
        have i6' : 6 ≤ i := by omega
        simp (disch := first | assumption | omega | exact Nat.le_of_ble_eq_true rfl | exact CI.k0 (by assumption) | exact CI.k2 (by assumption) | exact CI.kc3 (by assumption) | exact CI.kc1 (by assumption) | exact CI.kc5 (by assumption) | exact CI.kc (by assumption) | exact CI.k136 (by assumption) | exact CI.k194 (by assumption) | exact CI.k114 (by assumption) | exact CI.k121 (by assumption) | exact CI.k12 (by assumption) | exact CI.kc18 (by assumption) | exact CI.kc21 (by assumption) | exact CI.k122 (by assumption) | exact CI.k127 (by assumption) | exact CI.k7 (by assumption) | exact CI.k189 (by assumption) | exact CI.k190 (by assumption) | exact CI.k192 (by assumption) | (simp only [kdI, kdJ, kdR, *]; done) | fail) only [↓reduceIte, Int32.reduceLE, Int32.reduceLT, x_nil, Nat.reduceAdd, x_iconst_0, x_istore_n1, x_aload_n0, x_putI, x_getI, x_icmp_ge, x_getR, x_iald, K_25, bindR_some, toL_s, toL_n, ap_n, ap_c, List.map_nil, List.map_cons, List.sum_nil, List.sum_cons, cat_i, cat_r, cat_l, Nat.reduceLeDiff, Nat.zero_le, Nat.le_refl, x_if_eq, x_iload_n1, x_bipush_6, x_dupI, x_dupA, x_bipush_97, x_isub, x_iconst_1, x_iadd, x_iconst_5, x_imul, x_ishl, x_ior, x_iinc1, x_goto, x_icmp_le, x_bipush_41, K_26, x_return, L_27_18, L_27_30, L_27_33, L_27_39, L_27_68, ofInt1, ofIntm1, kdI, hNI, hRI, hJI, kdJ, hNJ, hIJ, hRJ, kdR, hNR, hIR, hJR, hII, hJJ, hRR, n_clamp, z_lt, z_ge, z_eq, z_le, z_gt, o_eq, o_lt, o_gt, o_le, o_ge, m_eq, n_eq, n_le, n_lt, n_sub1, nI_1, ol_add, nI_add, z_cl, o_cl, z_pos, o_pos, o_z, z_o, m_z, N_le, N_lt, q5_le, q5_lt, q5_ge, q5_gt, q5_eq, q5_mul, q5_add, q5_adl, q5_cl, q5_pos, q5_ti, q5_tj, zq5, qz5, q6_le, q6_lt, q6_ge, q6_gt, q6_eq, q6_mul, q6_add, q6_adl, q6_cl, q6_pos, q6_ti, q6_tj, zq6, qz6, q41_le, q41_lt, q41_ge, q41_gt, q41_eq, q41_mul, q41_add, q41_adl, q41_cl, q41_pos, q41_ti, q41_tj, zq41, qz41, q97_le, q97_lt, q97_ge, q97_gt, q97_eq, q97_mul, q97_add, q97_adl, q97_cl, q97_pos, q97_ti, q97_tj, zq97, qz97, ne_eq, not_true_eq_false, not_false_eq_true, if_true, if_false, and_self, or_self, true_or, or_true, and_true, true_and, and_false, false_and, or_false, false_or, Nat.reduceEqDiff, Nat.le_refl, Nat.reduceLT, Nat.reduceLeDiff, b32_01, nI_0, k0, k1, n1, r0, e2, e3, e6, ep, hp', el, i6', Nat.add_assoc]
    · rw [scan_f b]
      rw [b32_f (fun z => b (leB_iff.mpr z))] at el
      have e : p + i - p = i := by omega
      rw [e]
      refine ⟨h, ?_, Fr.refl _ _, e2, e3, rfl, e6⟩
      rw [L_27_7]
      simp (disch := first | assumption | omega | exact Nat.le_of_ble_eq_true rfl | exact CI.k0 (by assumption) | exact CI.k2 (by assumption) | exact CI.kc3 (by assumption) | exact CI.kc1 (by assumption) | exact CI.kc5 (by assumption) | exact CI.kc (by assumption) | exact CI.k136 (by assumption) | exact CI.k194 (by assumption) | exact CI.k114 (by assumption) | exact CI.k121 (by assumption) | exact CI.k12 (by assumption) | exact CI.kc18 (by assumption) | exact CI.kc21 (by assumption) | exact CI.k122 (by assumption) | exact CI.k127 (by assumption) | exact CI.k7 (by assumption) | exact CI.k189 (by assumption) | exact CI.k190 (by assumption) | exact CI.k192 (by assumption) | (simp only [kdI, kdJ, kdR, *]; done) | fail) only [↓reduceIte, Int32.reduceLE, Int32.reduceLT, x_nil, Nat.reduceAdd, x_iconst_0, x_istore_n1, x_aload_n0, x_putI, x_getI, x_icmp_ge, x_getR, x_iald, K_25, bindR_some, toL_s, toL_n, ap_n, ap_c, List.map_nil, List.map_cons, List.sum_nil, List.sum_cons, cat_i, cat_r, cat_l, Nat.reduceLeDiff, Nat.zero_le, Nat.le_refl, x_if_eq, x_iload_n1, x_bipush_6, x_dupI, x_dupA, x_bipush_97, x_isub, x_iconst_1, x_iadd, x_iconst_5, x_imul, x_ishl, x_ior, x_iinc1, x_goto, x_icmp_le, x_bipush_41, K_26, x_return, L_27_18, L_27_30, L_27_33, L_27_39, L_27_68, ofInt1, ofIntm1, kdI, hNI, hRI, hJI, kdJ, hNJ, hIJ, hRJ, kdR, hNR, hIR, hJR, hII, hJJ, hRR, n_clamp, z_lt, z_ge, z_eq, z_le, z_gt, o_eq, o_lt, o_gt, o_le, o_ge, m_eq, n_eq, n_le, n_lt, n_sub1, nI_1, ol_add, nI_add, z_cl, o_cl, z_pos, o_pos, o_z, z_o, m_z, N_le, N_lt, q5_le, q5_lt, q5_ge, q5_gt, q5_eq, q5_mul, q5_add, q5_adl, q5_cl, q5_pos, q5_ti, q5_tj, zq5, qz5, q6_le, q6_lt, q6_ge, q6_gt, q6_eq, q6_mul, q6_add, q6_adl, q6_cl, q6_pos, q6_ti, q6_tj, zq6, qz6, q41_le, q41_lt, q41_ge, q41_gt, q41_eq, q41_mul, q41_add, q41_adl, q41_cl, q41_pos, q41_ti, q41_tj, zq41, qz41, q97_le, q97_lt, q97_ge, q97_gt, q97_eq, q97_mul, q97_add, q97_adl, q97_cl, q97_pos, q97_ti, q97_tj, zq97, qz97, ne_eq, not_true_eq_false, not_false_eq_true, if_true, if_false, and_self, or_self, true_or, or_true, and_true, true_and, and_false, false_and, or_false, false_or, Nat.reduceEqDiff, Nat.le_refl, Nat.reduceLT, Nat.reduceLeDiff, b32_01, nI_0, k0, k1, n1, r0, e2, e3, ep, hp', el]
theorem c_kow (K : KT h t) (v : Int32) (ev : hI h 190 6 = v) : Lm sc pp 26 0 [some (.ref 190), none] [] 0 0 h = some (h, some (.int (nI (wkF v 25 0)))) := by
  obtain ⟨k0, k1, n1, r0, r1, k2, n2, tp, wd⟩ := K
  have loop : ∀ (m k : Nat), k + m = 25 → Lm sc pp 26 2 [some (.ref 190), some (.int (nI k))] [] 0 0 h = some (h, some (.int (nI (wkF v m k)))) := by
    intro m
    induction m with
    | zero =>
      intro k hk
      have : k = 25 := by omega
      subst this
      rw [L_26_2]
      have z : (25 : Int32) = nI 25 := rfl
      show _ = some (h, some (Value.int (nI 25)))
      simp (disch := first | assumption | omega | exact Nat.le_of_ble_eq_true rfl | exact CI.k0 (by assumption) | exact CI.k2 (by assumption) | exact CI.kc3 (by assumption) | exact CI.kc1 (by assumption) | exact CI.kc5 (by assumption) | exact CI.kc (by assumption) | exact CI.k136 (by assumption) | exact CI.k194 (by assumption) | exact CI.k114 (by assumption) | exact CI.k121 (by assumption) | exact CI.k12 (by assumption) | exact CI.kc18 (by assumption) | exact CI.kc21 (by assumption) | exact CI.k122 (by assumption) | exact CI.k127 (by assumption) | exact CI.k7 (by assumption) | exact CI.k189 (by assumption) | exact CI.k190 (by assumption) | exact CI.k192 (by assumption) | (simp only [kdI, kdJ, kdR, *]; done) | fail) only [↓reduceIte, Int32.reduceLE, Int32.reduceLT, x_nil, Nat.reduceAdd, x_iconst_0, x_istore_n1, x_iload_n1, x_bipush_25, x_icmp_ge, x_aload_n0, x_getR, x_iald, x_getI, x_icmp_ne, x_ireturn, x_iinc1, x_goto, L_26_8, L_26_21, L_26_23, L_26_29, ofInt1, ofIntm1, kdI, hNI, hRI, hJI, kdJ, hNJ, hIJ, hRJ, kdR, hNR, hIR, hJR, hII, hJJ, hRR, n_clamp, z_lt, z_ge, z_eq, z_le, z_gt, o_eq, o_lt, o_gt, o_le, o_ge, m_eq, n_eq, n_le, n_lt, n_sub1, nI_1, ol_add, nI_add, z_cl, o_cl, z_pos, o_pos, o_z, z_o, m_z, N_le, N_lt, q25_le, q25_lt, q25_ge, q25_gt, q25_eq, q25_mul, q25_add, q25_adl, q25_cl, q25_pos, q25_ti, q25_tj, zq25, qz25, ne_eq, not_true_eq_false, not_false_eq_true, if_true, if_false, and_self, or_self, true_or, or_true, and_true, true_and, and_false, false_and, or_false, false_or, Nat.reduceEqDiff, Nat.le_refl, Nat.reduceLT, Nat.reduceLeDiff, b32_01, nI_0, ← z]
    | succ m ih =>
      intro k hk
      have hk' : ¬ 25 ≤ k := by omega
      have ew := wd k (by omega)
      rw [L_26_2]
      show _ = some (h, some (Value.int (nI (if tokW.getD k 0 = v then k else wkF v m (k + 1)))))
      by_cases e : tokW.getD k 0 = v
      · rw [if_pos e]
        simp (disch := first | assumption | omega | exact Nat.le_of_ble_eq_true rfl | exact CI.k0 (by assumption) | exact CI.k2 (by assumption) | exact CI.kc3 (by assumption) | exact CI.kc1 (by assumption) | exact CI.kc5 (by assumption) | exact CI.kc (by assumption) | exact CI.k136 (by assumption) | exact CI.k194 (by assumption) | exact CI.k114 (by assumption) | exact CI.k121 (by assumption) | exact CI.k12 (by assumption) | exact CI.kc18 (by assumption) | exact CI.kc21 (by assumption) | exact CI.k122 (by assumption) | exact CI.k127 (by assumption) | exact CI.k7 (by assumption) | exact CI.k189 (by assumption) | exact CI.k190 (by assumption) | exact CI.k192 (by assumption) | (simp only [kdI, kdJ, kdR, *]; done) | fail) only [↓reduceIte, Int32.reduceLE, Int32.reduceLT, x_nil, Nat.reduceAdd, x_iconst_0, x_istore_n1, x_iload_n1, x_bipush_25, x_icmp_ge, x_aload_n0, x_getR, x_iald, x_getI, x_icmp_ne, x_ireturn, x_iinc1, x_goto, L_26_8, L_26_21, L_26_23, L_26_29, ofInt1, ofIntm1, kdI, hNI, hRI, hJI, kdJ, hNJ, hIJ, hRJ, kdR, hNR, hIR, hJR, hII, hJJ, hRR, n_clamp, z_lt, z_ge, z_eq, z_le, z_gt, o_eq, o_lt, o_gt, o_le, o_ge, m_eq, n_eq, n_le, n_lt, n_sub1, nI_1, ol_add, nI_add, z_cl, o_cl, z_pos, o_pos, o_z, z_o, m_z, N_le, N_lt, q25_le, q25_lt, q25_ge, q25_gt, q25_eq, q25_mul, q25_add, q25_adl, q25_cl, q25_pos, q25_ti, q25_tj, zq25, qz25, ne_eq, not_true_eq_false, not_false_eq_true, if_true, if_false, and_self, or_self, true_or, or_true, and_true, true_and, and_false, false_and, or_false, false_or, Nat.reduceEqDiff, Nat.le_refl, Nat.reduceLT, Nat.reduceLeDiff, b32_01, nI_0, k0, k2, n2, r1, ew, ev, e, hk']
      · rw [if_neg e, ← ih (k + 1) (by omega)]
        simp (disch := first | assumption | omega | exact Nat.le_of_ble_eq_true rfl | exact CI.k0 (by assumption) | exact CI.k2 (by assumption) | exact CI.kc3 (by assumption) | exact CI.kc1 (by assumption) | exact CI.kc5 (by assumption) | exact CI.kc (by assumption) | exact CI.k136 (by assumption) | exact CI.k194 (by assumption) | exact CI.k114 (by assumption) | exact CI.k121 (by assumption) | exact CI.k12 (by assumption) | exact CI.kc18 (by assumption) | exact CI.kc21 (by assumption) | exact CI.k122 (by assumption) | exact CI.k127 (by assumption) | exact CI.k7 (by assumption) | exact CI.k189 (by assumption) | exact CI.k190 (by assumption) | exact CI.k192 (by assumption) | (simp only [kdI, kdJ, kdR, *]; done) | fail) only [↓reduceIte, Int32.reduceLE, Int32.reduceLT, x_nil, Nat.reduceAdd, x_iconst_0, x_istore_n1, x_iload_n1, x_bipush_25, x_icmp_ge, x_aload_n0, x_getR, x_iald, x_getI, x_icmp_ne, x_ireturn, x_iinc1, x_goto, L_26_8, L_26_21, L_26_23, L_26_29, ofInt1, ofIntm1, kdI, hNI, hRI, hJI, kdJ, hNJ, hIJ, hRJ, kdR, hNR, hIR, hJR, hII, hJJ, hRR, n_clamp, z_lt, z_ge, z_eq, z_le, z_gt, o_eq, o_lt, o_gt, o_le, o_ge, m_eq, n_eq, n_le, n_lt, n_sub1, nI_1, ol_add, nI_add, z_cl, o_cl, z_pos, o_pos, o_z, z_o, m_z, N_le, N_lt, q25_le, q25_lt, q25_ge, q25_gt, q25_eq, q25_mul, q25_add, q25_adl, q25_cl, q25_pos, q25_ti, q25_tj, zq25, qz25, ne_eq, not_true_eq_false, not_false_eq_true, if_true, if_false, and_self, or_self, true_or, or_true, and_true, true_and, and_false, false_and, or_false, false_or, Nat.reduceEqDiff, Nat.le_refl, Nat.reduceLT, Nat.reduceLeDiff, b32_01, nI_0, k0, k2, n2, r1, ew, ev, e, hk']
  have l0 := loop 25 0 rfl
  rw [nI_0] at l0
  simp (disch := first | assumption | omega | exact Nat.le_of_ble_eq_true rfl | exact CI.k0 (by assumption) | exact CI.k2 (by assumption) | exact CI.kc3 (by assumption) | exact CI.kc1 (by assumption) | exact CI.kc5 (by assumption) | exact CI.kc (by assumption) | exact CI.k136 (by assumption) | exact CI.k194 (by assumption) | exact CI.k114 (by assumption) | exact CI.k121 (by assumption) | exact CI.k12 (by assumption) | exact CI.kc18 (by assumption) | exact CI.kc21 (by assumption) | exact CI.k122 (by assumption) | exact CI.k127 (by assumption) | exact CI.k7 (by assumption) | exact CI.k189 (by assumption) | exact CI.k190 (by assumption) | exact CI.k192 (by assumption) | (simp only [kdI, kdJ, kdR, *]; done) | fail) only [↓reduceIte, Int32.reduceLE, Int32.reduceLT, x_nil, Nat.reduceAdd, x_iconst_0, x_istore_n1, x_iload_n1, x_bipush_25, x_icmp_ge, x_aload_n0, x_getR, x_iald, x_getI, x_icmp_ne, x_ireturn, x_iinc1, x_goto, L_26_0, L_26_8, L_26_21, L_26_23, L_26_29, ofInt1, ofIntm1, kdI, hNI, hRI, hJI, kdJ, hNJ, hIJ, hRJ, kdR, hNR, hIR, hJR, hII, hJJ, hRR, n_clamp, z_lt, z_ge, z_eq, z_le, z_gt, o_eq, o_lt, o_gt, o_le, o_ge, m_eq, n_eq, n_le, n_lt, n_sub1, nI_1, ol_add, nI_add, z_cl, o_cl, z_pos, o_pos, o_z, z_o, m_z, N_le, N_lt, q25_le, q25_lt, q25_ge, q25_gt, q25_eq, q25_mul, q25_add, q25_adl, q25_cl, q25_pos, q25_ti, q25_tj, zq25, qz25, ne_eq, not_true_eq_false, not_false_eq_true, if_true, if_false, and_self, or_self, true_or, or_true, and_true, true_and, and_false, false_and, or_false, false_or, Nat.reduceEqDiff, Nat.le_refl, Nat.reduceLT, Nat.reduceLeDiff, b32_01, nI_0, l0]
theorem c_num_loop (ht : ∀ j, t j < 256) (hn : n ≤ 700) : ∀ (m p a : Nat) (h : Hp), p + m = n → a ≤ 1000000 → KT h t → hI h 190 2 = nI n → hI h 190 3 = nI p → hI h 190 6 = nI a → ∃ h', Lm sc pp 29 11 [some (.ref 190)] [] 0 0 h = some (h', none) ∧ Fr h h' [190] ∧ hI h' 190 2 = nI n ∧ hI h' 190 3 = nI (scanF (diB t) m p) ∧ hI h' 190 4 = hI h 190 4 ∧ hI h' 190 5 = hI h 190 5 ∧ hI h' 190 6 = nI (numF fC t m p a) := by
  intro m
  induction m with
  | zero =>
    intro p a h hp ha K e2 e3 e6
    have hp' : n ≤ p := by omega
    obtain ⟨k0, k1, n1, r0, r1, k2, n2, tp, wd⟩ := K
    refine ⟨h, ?_, Fr.refl _ _, e2, e3, rfl, rfl, e6⟩
    rw [L_29_11]
    simp (disch := first | assumption | omega | exact Nat.le_of_ble_eq_true rfl | exact CI.k0 (by assumption) | exact CI.k2 (by assumption) | exact CI.kc3 (by assumption) | exact CI.kc1 (by assumption) | exact CI.kc5 (by assumption) | exact CI.kc (by assumption) | exact CI.k136 (by assumption) | exact CI.k194 (by assumption) | exact CI.k114 (by assumption) | exact CI.k121 (by assumption) | exact CI.k12 (by assumption) | exact CI.kc18 (by assumption) | exact CI.kc21 (by assumption) | exact CI.k122 (by assumption) | exact CI.k127 (by assumption) | exact CI.k7 (by assumption) | exact CI.k189 (by assumption) | exact CI.k190 (by assumption) | exact CI.k192 (by assumption) | (simp only [kdI, kdJ, kdR, *]; done) | fail) only [↓reduceIte, Int32.reduceLE, Int32.reduceLT, x_nil, Nat.reduceAdd, x_aload_n0, x_bipush_26, x_putI, x_iconst_0, x_getI, x_icmp_ge, x_getR, x_iald, K_28, bindR_some, toL_s, toL_n, ap_n, ap_c, List.map_nil, List.map_cons, List.sum_nil, List.sum_cons, cat_i, cat_r, cat_l, Nat.reduceLeDiff, Nat.zero_le, Nat.le_refl, x_if_eq, x_ldc_1000000, x_bipush_10, x_imul, x_iadd, x_bipush_48, x_isub, x_min, x_dupI, x_dupA, x_iconst_1, x_goto, x_return, L_29_22, L_29_34, L_29_37, L_29_63, L_29_79, ofInt1, ofIntm1, kdI, hNI, hRI, hJI, kdJ, hNJ, hIJ, hRJ, kdR, hNR, hIR, hJR, hII, hJJ, hRR, n_clamp, z_lt, z_ge, z_eq, z_le, z_gt, o_eq, o_lt, o_gt, o_le, o_ge, m_eq, n_eq, n_le, n_lt, n_sub1, nI_1, ol_add, nI_add, z_cl, o_cl, z_pos, o_pos, o_z, z_o, m_z, N_le, N_lt, q10_le, q10_lt, q10_ge, q10_gt, q10_eq, q10_mul, q10_add, q10_adl, q10_cl, q10_pos, q10_ti, q10_tj, zq10, qz10, q26_le, q26_lt, q26_ge, q26_gt, q26_eq, q26_mul, q26_add, q26_adl, q26_cl, q26_pos, q26_ti, q26_tj, zq26, qz26, q48_le, q48_lt, q48_ge, q48_gt, q48_eq, q48_mul, q48_add, q48_adl, q48_cl, q48_pos, q48_ti, q48_tj, zq48, qz48, q1000000_le, q1000000_lt, q1000000_ge, q1000000_gt, q1000000_eq, q1000000_mul, q1000000_add, q1000000_adl, q1000000_cl, q1000000_pos, q1000000_ti, q1000000_tj, zq1000000, qz1000000, ne_eq, not_true_eq_false, not_false_eq_true, if_true, if_false, and_self, or_self, true_or, or_true, and_true, true_and, and_false, false_and, or_false, false_or, Nat.reduceEqDiff, Nat.le_refl, Nat.reduceLT, Nat.reduceLeDiff, b32_01, nI_0, k0, e2, e3, hp']
  | succ m ih =>
    intro p a h hp ha K e2 e3 e6
    have hp' : ¬ n ≤ p := by omega
    have htp := ht p
    have K0 := K
    obtain ⟨k0, k1, n1, r0, r1, k2, n2, tp, wd⟩ := K
    have ep := tp p (by omega)
    have el := c_isDigit (sc := sc) (pp := pp) (t p) h htp
    by_cases b : diB t p = true
    · have bb := diB_iff.mp b
      rw [scan_t b, show numF fC t (m + 1) p a = numF fC t m (p + 1) (fC a (t p - 48)) from if_pos b]
      rw [b32_t bb] at el
      have hf : fC a (t p - 48) ≤ 1000000 := by unfold fC; split <;> omega
      have F1 : Fr h (sI (sI h 190 6 (nI (fC a (t p - 48)))) 190 3 (nI (p + 1))) [190] := (Fr_sI (by simp)).trans (Fr_sI (by simp))
      obtain ⟨h', e, F, x2, x3, x4, x5, x6⟩ := ih (p + 1) (fC a (t p - 48)) (sI (sI h 190 6 (nI (fC a (t p - 48)))) 190 3 (nI (p + 1))) (by omega) hf (K0.mv F1 (by simp) (by simp)) (by rw [hII, if_neg (by omega), hII, if_neg (by omega)]; exact e2) (by rw [hII, if_pos ⟨rfl, rfl⟩]) (by rw [hII, if_neg (by omega), hII, if_pos ⟨rfl, rfl⟩])
      refine ⟨h', ?_, F1.trans F, x2, x3, x4.trans (by rw [hII, if_neg (by omega), hII, if_neg (by omega)]), x5.trans (by rw [hII, if_neg (by omega), hII, if_neg (by omega)]), x6⟩
      rw [← e, L_29_11]
      have a1 : nI a * 10 = nI (a * 10) := nI_mul a 10
      have a2 : nI (a * 10) + nI (t p) = nI (a * 10 + t p) := nI_add _ _
      have a3 : nI (a * 10 + t p) - 48 = nI (a * 10 + t p - 48) := nI_sub48 (by omega)
      have a4 : (if a * 10 + t p - 48 < 1000000 then nI (a * 10 + t p - 48) else 1000000) = nI (fC a (t p - 48)) := by
        unfold fC
        rw [show a * 10 + t p - 48 = 10 * a + (t p - 48) by omega]
        split <;> rfl
      simp (disch := first | assumption | omega | exact Nat.le_of_ble_eq_true rfl | exact CI.k0 (by assumption) | exact CI.k2 (by assumption) | exact CI.kc3 (by assumption) | exact CI.kc1 (by assumption) | exact CI.kc5 (by assumption) | exact CI.kc (by assumption) | exact CI.k136 (by assumption) | exact CI.k194 (by assumption) | exact CI.k114 (by assumption) | exact CI.k121 (by assumption) | exact CI.k12 (by assumption) | exact CI.kc18 (by assumption) | exact CI.kc21 (by assumption) | exact CI.k122 (by assumption) | exact CI.k127 (by assumption) | exact CI.k7 (by assumption) | exact CI.k189 (by assumption) | exact CI.k190 (by assumption) | exact CI.k192 (by assumption) | (simp only [kdI, kdJ, kdR, *]; done) | fail) only [↓reduceIte, Int32.reduceLE, Int32.reduceLT, x_nil, Nat.reduceAdd, x_aload_n0, x_bipush_26, x_putI, x_iconst_0, x_getI, x_icmp_ge, x_getR, x_iald, K_28, bindR_some, toL_s, toL_n, ap_n, ap_c, List.map_nil, List.map_cons, List.sum_nil, List.sum_cons, cat_i, cat_r, cat_l, Nat.reduceLeDiff, Nat.zero_le, Nat.le_refl, x_if_eq, x_ldc_1000000, x_bipush_10, x_imul, x_iadd, x_bipush_48, x_isub, x_min, x_dupI, x_dupA, x_iconst_1, x_goto, x_return, L_29_22, L_29_34, L_29_37, L_29_63, L_29_79, ofInt1, ofIntm1, kdI, hNI, hRI, hJI, kdJ, hNJ, hIJ, hRJ, kdR, hNR, hIR, hJR, hII, hJJ, hRR, n_clamp, z_lt, z_ge, z_eq, z_le, z_gt, o_eq, o_lt, o_gt, o_le, o_ge, m_eq, n_eq, n_le, n_lt, n_sub1, nI_1, ol_add, nI_add, z_cl, o_cl, z_pos, o_pos, o_z, z_o, m_z, N_le, N_lt, q10_le, q10_lt, q10_ge, q10_gt, q10_eq, q10_mul, q10_add, q10_adl, q10_cl, q10_pos, q10_ti, q10_tj, zq10, qz10, q26_le, q26_lt, q26_ge, q26_gt, q26_eq, q26_mul, q26_add, q26_adl, q26_cl, q26_pos, q26_ti, q26_tj, zq26, qz26, q48_le, q48_lt, q48_ge, q48_gt, q48_eq, q48_mul, q48_add, q48_adl, q48_cl, q48_pos, q48_ti, q48_tj, zq48, qz48, q1000000_le, q1000000_lt, q1000000_ge, q1000000_gt, q1000000_eq, q1000000_mul, q1000000_add, q1000000_adl, q1000000_cl, q1000000_pos, q1000000_ti, q1000000_tj, zq1000000, qz1000000, ne_eq, not_true_eq_false, not_false_eq_true, if_true, if_false, and_self, or_self, true_or, or_true, and_true, true_and, and_false, false_and, or_false, false_or, Nat.reduceEqDiff, Nat.le_refl, Nat.reduceLT, Nat.reduceLeDiff, b32_01, nI_0, k0, k1, n1, r0, e2, e3, e6, ep, hp', el, a1, a2, a3, a4]
    · rw [scan_f b, show numF fC t (m + 1) p a = a from if_neg b]
      rw [b32_f (fun z => b (diB_iff.mpr z))] at el
      refine ⟨h, ?_, Fr.refl _ _, e2, e3, rfl, rfl, e6⟩
      rw [L_29_11]
      simp (disch := first | assumption | omega | exact Nat.le_of_ble_eq_true rfl | exact CI.k0 (by assumption) | exact CI.k2 (by assumption) | exact CI.kc3 (by assumption) | exact CI.kc1 (by assumption) | exact CI.kc5 (by assumption) | exact CI.kc (by assumption) | exact CI.k136 (by assumption) | exact CI.k194 (by assumption) | exact CI.k114 (by assumption) | exact CI.k121 (by assumption) | exact CI.k12 (by assumption) | exact CI.kc18 (by assumption) | exact CI.kc21 (by assumption) | exact CI.k122 (by assumption) | exact CI.k127 (by assumption) | exact CI.k7 (by assumption) | exact CI.k189 (by assumption) | exact CI.k190 (by assumption) | exact CI.k192 (by assumption) | (simp only [kdI, kdJ, kdR, *]; done) | fail) only [↓reduceIte, Int32.reduceLE, Int32.reduceLT, x_nil, Nat.reduceAdd, x_aload_n0, x_bipush_26, x_putI, x_iconst_0, x_getI, x_icmp_ge, x_getR, x_iald, K_28, bindR_some, toL_s, toL_n, ap_n, ap_c, List.map_nil, List.map_cons, List.sum_nil, List.sum_cons, cat_i, cat_r, cat_l, Nat.reduceLeDiff, Nat.zero_le, Nat.le_refl, x_if_eq, x_ldc_1000000, x_bipush_10, x_imul, x_iadd, x_bipush_48, x_isub, x_min, x_dupI, x_dupA, x_iconst_1, x_goto, x_return, L_29_22, L_29_34, L_29_37, L_29_63, L_29_79, ofInt1, ofIntm1, kdI, hNI, hRI, hJI, kdJ, hNJ, hIJ, hRJ, kdR, hNR, hIR, hJR, hII, hJJ, hRR, n_clamp, z_lt, z_ge, z_eq, z_le, z_gt, o_eq, o_lt, o_gt, o_le, o_ge, m_eq, n_eq, n_le, n_lt, n_sub1, nI_1, ol_add, nI_add, z_cl, o_cl, z_pos, o_pos, o_z, z_o, m_z, N_le, N_lt, q10_le, q10_lt, q10_ge, q10_gt, q10_eq, q10_mul, q10_add, q10_adl, q10_cl, q10_pos, q10_ti, q10_tj, zq10, qz10, q26_le, q26_lt, q26_ge, q26_gt, q26_eq, q26_mul, q26_add, q26_adl, q26_cl, q26_pos, q26_ti, q26_tj, zq26, qz26, q48_le, q48_lt, q48_ge, q48_gt, q48_eq, q48_mul, q48_add, q48_adl, q48_cl, q48_pos, q48_ti, q48_tj, zq48, qz48, q1000000_le, q1000000_lt, q1000000_ge, q1000000_gt, q1000000_eq, q1000000_mul, q1000000_add, q1000000_adl, q1000000_cl, q1000000_pos, q1000000_ti, q1000000_tj, zq1000000, qz1000000, ne_eq, not_true_eq_false, not_false_eq_true, if_true, if_false, and_self, or_self, true_or, or_true, and_true, true_and, and_false, false_and, or_false, false_or, Nat.reduceEqDiff, Nat.le_refl, Nat.reduceLT, Nat.reduceLeDiff, b32_01, nI_0, k0, k1, n1, r0, e2, e3, ep, hp', el]
end T72
