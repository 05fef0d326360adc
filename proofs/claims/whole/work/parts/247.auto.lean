-- rules that work by their side conditions
theorem nI_mul (a b : Nat) : nI a * nI b = nI (a * b) := (Int32.ofNat_mul a b).symm
theorem z_lt {k : Nat} (h : k < 2 ^ 31) : (nI k < 0) = False := eq_false (nI_pos h)
theorem z_ge {k : Nat} (h : k < 2 ^ 31) : (0 ≤ nI k) = True := eq_true (nI_pos' h)
theorem z_eq {k : Nat} (h : k < 2 ^ 31) : (nI k = 0) = (k = 0) := propext (nI_eq (b := 0) h (by decide))
theorem z_le {k : Nat} (h : k < 2 ^ 31) : (nI k ≤ 0) = (k = 0) := by
  rw [show (nI k ≤ 0) = (k ≤ 0) from propext (nI_leI (b := 0) h (by decide))]
  exact propext Nat.le_zero
theorem z_gt {k : Nat} (h : k < 2 ^ 31) : (0 < nI k) = (0 < k) := propext (nI_ltI (a := 0) (by decide) h)
theorem o_eq {k : Nat} (h : k < 2 ^ 31) : (nI k = 1) = (k = 1) := propext (nI_eq (b := 1) h (by decide))
theorem o_lt {k : Nat} (h : k < 2 ^ 31) : (nI k < 1) = (k < 1) := propext (nI_ltI (b := 1) h (by decide))
theorem o_gt {k : Nat} (h : k < 2 ^ 31) : ((1 : Int32) < nI k) = (1 < k) := propext (nI_ltI (a := 1) (by decide) h)
theorem o_le {k : Nat} (h : k < 2 ^ 31) : ((1 : Int32) ≤ nI k) = (1 ≤ k) := propext (nI_leI (a := 1) (by decide) h)
theorem o_ge {k : Nat} (h : k < 2 ^ 31) : (nI k ≤ 1) = (k ≤ 1) := propext (nI_leI (b := 1) h (by decide))
theorem m_eq {k : Nat} (h : k < 2 ^ 31) : (nI k = -1) = False := eq_false (fun e => by
  have h1 := nI_pos' h
  rw [e] at h1
  exact absurd h1 (by decide))
theorem n_eq {a b : Nat} (ha : a < 2 ^ 31) (hb : b < 2 ^ 31) : (nI a = nI b) = (a = b) := propext (nI_eq ha hb)
theorem n_le {a b : Nat} (ha : a < 2 ^ 31) (hb : b < 2 ^ 31) : (nI a ≤ nI b) = (a ≤ b) := propext (nI_leI ha hb)
theorem n_lt {a b : Nat} (ha : a < 2 ^ 31) (hb : b < 2 ^ 31) : (nI a < nI b) = (a < b) := propext (nI_ltI ha hb)
theorem n_clamp {k : Nat} (h : k < 2 ^ 31) : (nI k).toNatClampNeg = k := nI_clamp h
theorem n_sub1 {k : Nat} (h : 1 ≤ k) : nI k - 1 = nI (k - 1) := by
  obtain ⟨j, rfl⟩ : ∃ j, k = j + 1 := ⟨k - 1, by omega⟩
  exact nI_pred j
theorem ol_add {k : Nat} : (1 : Int32) + nI k = nI (1 + k) := nI_add 1 k
theorem z_cl : (0 : Int32).toNatClampNeg = 0 := nI_clamp (n := 0) (by decide)
theorem o_cl : (1 : Int32).toNatClampNeg = 1 := nI_clamp (n := 1) (by decide)
theorem z_pos : ((0 : Int32) < 0) = False := eq_false (by decide)
theorem o_pos : ((1 : Int32) < 0) = False := eq_false (by decide)
theorem o_z : ((1 : Int32) = 0) = False := eq_false (by decide)
theorem z_o : ((0 : Int32) = 1) = False := eq_false (by decide)
theorem m_z : ((-1 : Int32) = 0) = False := eq_false (by decide)
theorem N_le {n k : Nat} (h : k < n) : (n ≤ k) = False := eq_false (by omega)
theorem N_leT {n k : Nat} (h : n ≤ k) : (n ≤ k) = True := eq_true h
theorem N_lt {n k : Nat} (h : n ≤ k) : (k < n) = False := eq_false (by omega)
theorem N_ltT {n k : Nat} (h : k < n) : (k < n) = True := eq_true h
theorem N_ne {n k : Nat} (h : n ≠ k) : (n = k) = False := eq_false h
theorem ofIntm8 : Int32.ofInt (-8) = -8 := rfl
theorem ofInt6 : Int32.ofInt 6 = 6 := rfl
theorem q2_le {k : Nat} (hk : k < 2 ^ 31) : ((2 : Int32) ≤ nI k) = (2 ≤ k) := propext (nI_leI (a := 2) (by decide) hk)
theorem q2_lt {k : Nat} (hk : k < 2 ^ 31) : ((2 : Int32) < nI k) = (2 < k) := propext (nI_ltI (a := 2) (by decide) hk)
theorem q2_ge {k : Nat} (hk : k < 2 ^ 31) : (nI k ≤ (2 : Int32)) = (k ≤ 2) := propext (nI_leI (b := 2) hk (by decide))
theorem q2_gt {k : Nat} (hk : k < 2 ^ 31) : (nI k < (2 : Int32)) = (k < 2) := propext (nI_ltI (b := 2) hk (by decide))
theorem q2_eq {k : Nat} (hk : k < 2 ^ 31) : (nI k = (2 : Int32)) = (k = 2) := propext (nI_eq (b := 2) hk (by decide))
theorem q2_mul {k : Nat} : (2 : Int32) * nI k = nI (2 * k) := (nI_mul 2 k)
theorem q2_add {k : Nat} : nI k + (2 : Int32) = nI (k + 2) := nI_add k 2
theorem q2_adl {k : Nat} : (2 : Int32) + nI k = nI (2 + k) := nI_add 2 k
theorem q2_cl : (2 : Int32).toNatClampNeg = 2 := nI_clamp (n := 2) (by decide)
theorem q2_ti : (nI 2).toInt = 2 := nI_toInt (n := 2) (by decide)
theorem q2_tj : (2 : Int32).toInt = 2 := nI_toInt (n := 2) (by decide)
theorem q2_pos : ((2 : Int32) < 0) = False := eq_false (nI_pos (n := 2) (by decide))
theorem q3_le {k : Nat} (hk : k < 2 ^ 31) : ((3 : Int32) ≤ nI k) = (3 ≤ k) := propext (nI_leI (a := 3) (by decide) hk)
theorem q3_lt {k : Nat} (hk : k < 2 ^ 31) : ((3 : Int32) < nI k) = (3 < k) := propext (nI_ltI (a := 3) (by decide) hk)
theorem q3_ge {k : Nat} (hk : k < 2 ^ 31) : (nI k ≤ (3 : Int32)) = (k ≤ 3) := propext (nI_leI (b := 3) hk (by decide))
theorem q3_gt {k : Nat} (hk : k < 2 ^ 31) : (nI k < (3 : Int32)) = (k < 3) := propext (nI_ltI (b := 3) hk (by decide))
theorem q3_eq {k : Nat} (hk : k < 2 ^ 31) : (nI k = (3 : Int32)) = (k = 3) := propext (nI_eq (b := 3) hk (by decide))
theorem q3_mul {k : Nat} : (3 : Int32) * nI k = nI (3 * k) := (nI_mul 3 k)
theorem q3_add {k : Nat} : nI k + (3 : Int32) = nI (k + 3) := nI_add k 3
theorem q3_adl {k : Nat} : (3 : Int32) + nI k = nI (3 + k) := nI_add 3 k
theorem q3_cl : (3 : Int32).toNatClampNeg = 3 := nI_clamp (n := 3) (by decide)
theorem q3_ti : (nI 3).toInt = 3 := nI_toInt (n := 3) (by decide)
theorem q3_tj : (3 : Int32).toInt = 3 := nI_toInt (n := 3) (by decide)
theorem q3_pos : ((3 : Int32) < 0) = False := eq_false (nI_pos (n := 3) (by decide))
theorem q4_le {k : Nat} (hk : k < 2 ^ 31) : ((4 : Int32) ≤ nI k) = (4 ≤ k) := propext (nI_leI (a := 4) (by decide) hk)
theorem q4_lt {k : Nat} (hk : k < 2 ^ 31) : ((4 : Int32) < nI k) = (4 < k) := propext (nI_ltI (a := 4) (by decide) hk)
theorem q4_ge {k : Nat} (hk : k < 2 ^ 31) : (nI k ≤ (4 : Int32)) = (k ≤ 4) := propext (nI_leI (b := 4) hk (by decide))
theorem q4_gt {k : Nat} (hk : k < 2 ^ 31) : (nI k < (4 : Int32)) = (k < 4) := propext (nI_ltI (b := 4) hk (by decide))
theorem q4_eq {k : Nat} (hk : k < 2 ^ 31) : (nI k = (4 : Int32)) = (k = 4) := propext (nI_eq (b := 4) hk (by decide))
theorem q4_mul {k : Nat} : (4 : Int32) * nI k = nI (4 * k) := (nI_mul 4 k)
theorem q4_add {k : Nat} : nI k + (4 : Int32) = nI (k + 4) := nI_add k 4
theorem q4_adl {k : Nat} : (4 : Int32) + nI k = nI (4 + k) := nI_add 4 k
theorem q4_cl : (4 : Int32).toNatClampNeg = 4 := nI_clamp (n := 4) (by decide)
theorem q4_ti : (nI 4).toInt = 4 := nI_toInt (n := 4) (by decide)
theorem q4_tj : (4 : Int32).toInt = 4 := nI_toInt (n := 4) (by decide)
theorem q4_pos : ((4 : Int32) < 0) = False := eq_false (nI_pos (n := 4) (by decide))
theorem q5_le {k : Nat} (hk : k < 2 ^ 31) : ((5 : Int32) ≤ nI k) = (5 ≤ k) := propext (nI_leI (a := 5) (by decide) hk)
theorem q5_lt {k : Nat} (hk : k < 2 ^ 31) : ((5 : Int32) < nI k) = (5 < k) := propext (nI_ltI (a := 5) (by decide) hk)
theorem q5_ge {k : Nat} (hk : k < 2 ^ 31) : (nI k ≤ (5 : Int32)) = (k ≤ 5) := propext (nI_leI (b := 5) hk (by decide))
theorem q5_gt {k : Nat} (hk : k < 2 ^ 31) : (nI k < (5 : Int32)) = (k < 5) := propext (nI_ltI (b := 5) hk (by decide))
theorem q5_eq {k : Nat} (hk : k < 2 ^ 31) : (nI k = (5 : Int32)) = (k = 5) := propext (nI_eq (b := 5) hk (by decide))
theorem q5_mul {k : Nat} : (5 : Int32) * nI k = nI (5 * k) := (nI_mul 5 k)
theorem q5_add {k : Nat} : nI k + (5 : Int32) = nI (k + 5) := nI_add k 5
theorem q5_adl {k : Nat} : (5 : Int32) + nI k = nI (5 + k) := nI_add 5 k
theorem q5_cl : (5 : Int32).toNatClampNeg = 5 := nI_clamp (n := 5) (by decide)
theorem q5_ti : (nI 5).toInt = 5 := nI_toInt (n := 5) (by decide)
theorem q5_tj : (5 : Int32).toInt = 5 := nI_toInt (n := 5) (by decide)
theorem q5_pos : ((5 : Int32) < 0) = False := eq_false (nI_pos (n := 5) (by decide))
theorem q6_le {k : Nat} (hk : k < 2 ^ 31) : ((6 : Int32) ≤ nI k) = (6 ≤ k) := propext (nI_leI (a := 6) (by decide) hk)
theorem q6_lt {k : Nat} (hk : k < 2 ^ 31) : ((6 : Int32) < nI k) = (6 < k) := propext (nI_ltI (a := 6) (by decide) hk)
theorem q6_ge {k : Nat} (hk : k < 2 ^ 31) : (nI k ≤ (6 : Int32)) = (k ≤ 6) := propext (nI_leI (b := 6) hk (by decide))
theorem q6_gt {k : Nat} (hk : k < 2 ^ 31) : (nI k < (6 : Int32)) = (k < 6) := propext (nI_ltI (b := 6) hk (by decide))
theorem q6_eq {k : Nat} (hk : k < 2 ^ 31) : (nI k = (6 : Int32)) = (k = 6) := propext (nI_eq (b := 6) hk (by decide))
theorem q6_mul {k : Nat} : (6 : Int32) * nI k = nI (6 * k) := (nI_mul 6 k)
theorem q6_add {k : Nat} : nI k + (6 : Int32) = nI (k + 6) := nI_add k 6
theorem q6_adl {k : Nat} : (6 : Int32) + nI k = nI (6 + k) := nI_add 6 k
theorem q6_cl : (6 : Int32).toNatClampNeg = 6 := nI_clamp (n := 6) (by decide)
theorem q6_ti : (nI 6).toInt = 6 := nI_toInt (n := 6) (by decide)
theorem q6_tj : (6 : Int32).toInt = 6 := nI_toInt (n := 6) (by decide)
theorem q6_pos : ((6 : Int32) < 0) = False := eq_false (nI_pos (n := 6) (by decide))
theorem q7_le {k : Nat} (hk : k < 2 ^ 31) : ((7 : Int32) ≤ nI k) = (7 ≤ k) := propext (nI_leI (a := 7) (by decide) hk)
theorem q7_lt {k : Nat} (hk : k < 2 ^ 31) : ((7 : Int32) < nI k) = (7 < k) := propext (nI_ltI (a := 7) (by decide) hk)
theorem q7_ge {k : Nat} (hk : k < 2 ^ 31) : (nI k ≤ (7 : Int32)) = (k ≤ 7) := propext (nI_leI (b := 7) hk (by decide))
theorem q7_gt {k : Nat} (hk : k < 2 ^ 31) : (nI k < (7 : Int32)) = (k < 7) := propext (nI_ltI (b := 7) hk (by decide))
theorem q7_eq {k : Nat} (hk : k < 2 ^ 31) : (nI k = (7 : Int32)) = (k = 7) := propext (nI_eq (b := 7) hk (by decide))
theorem q7_mul {k : Nat} : (7 : Int32) * nI k = nI (7 * k) := (nI_mul 7 k)
theorem q7_add {k : Nat} : nI k + (7 : Int32) = nI (k + 7) := nI_add k 7
theorem q7_adl {k : Nat} : (7 : Int32) + nI k = nI (7 + k) := nI_add 7 k
theorem q7_cl : (7 : Int32).toNatClampNeg = 7 := nI_clamp (n := 7) (by decide)
theorem q7_ti : (nI 7).toInt = 7 := nI_toInt (n := 7) (by decide)
theorem q7_tj : (7 : Int32).toInt = 7 := nI_toInt (n := 7) (by decide)
theorem q7_pos : ((7 : Int32) < 0) = False := eq_false (nI_pos (n := 7) (by decide))
theorem q8_le {k : Nat} (hk : k < 2 ^ 31) : ((8 : Int32) ≤ nI k) = (8 ≤ k) := propext (nI_leI (a := 8) (by decide) hk)
theorem q8_lt {k : Nat} (hk : k < 2 ^ 31) : ((8 : Int32) < nI k) = (8 < k) := propext (nI_ltI (a := 8) (by decide) hk)
theorem q8_ge {k : Nat} (hk : k < 2 ^ 31) : (nI k ≤ (8 : Int32)) = (k ≤ 8) := propext (nI_leI (b := 8) hk (by decide))
theorem q8_gt {k : Nat} (hk : k < 2 ^ 31) : (nI k < (8 : Int32)) = (k < 8) := propext (nI_ltI (b := 8) hk (by decide))
theorem q8_eq {k : Nat} (hk : k < 2 ^ 31) : (nI k = (8 : Int32)) = (k = 8) := propext (nI_eq (b := 8) hk (by decide))
theorem q8_mul {k : Nat} : (8 : Int32) * nI k = nI (8 * k) := (nI_mul 8 k)
theorem q8_add {k : Nat} : nI k + (8 : Int32) = nI (k + 8) := nI_add k 8
theorem q8_adl {k : Nat} : (8 : Int32) + nI k = nI (8 + k) := nI_add 8 k
theorem q8_cl : (8 : Int32).toNatClampNeg = 8 := nI_clamp (n := 8) (by decide)
theorem q8_ti : (nI 8).toInt = 8 := nI_toInt (n := 8) (by decide)
theorem q8_tj : (8 : Int32).toInt = 8 := nI_toInt (n := 8) (by decide)
theorem q8_pos : ((8 : Int32) < 0) = False := eq_false (nI_pos (n := 8) (by decide))
theorem q9_le {k : Nat} (hk : k < 2 ^ 31) : ((9 : Int32) ≤ nI k) = (9 ≤ k) := propext (nI_leI (a := 9) (by decide) hk)
theorem q9_lt {k : Nat} (hk : k < 2 ^ 31) : ((9 : Int32) < nI k) = (9 < k) := propext (nI_ltI (a := 9) (by decide) hk)
theorem q9_ge {k : Nat} (hk : k < 2 ^ 31) : (nI k ≤ (9 : Int32)) = (k ≤ 9) := propext (nI_leI (b := 9) hk (by decide))
theorem q9_gt {k : Nat} (hk : k < 2 ^ 31) : (nI k < (9 : Int32)) = (k < 9) := propext (nI_ltI (b := 9) hk (by decide))
theorem q9_eq {k : Nat} (hk : k < 2 ^ 31) : (nI k = (9 : Int32)) = (k = 9) := propext (nI_eq (b := 9) hk (by decide))
theorem q9_mul {k : Nat} : (9 : Int32) * nI k = nI (9 * k) := (nI_mul 9 k)
theorem q9_add {k : Nat} : nI k + (9 : Int32) = nI (k + 9) := nI_add k 9
theorem q9_adl {k : Nat} : (9 : Int32) + nI k = nI (9 + k) := nI_add 9 k
theorem q9_cl : (9 : Int32).toNatClampNeg = 9 := nI_clamp (n := 9) (by decide)
theorem q9_ti : (nI 9).toInt = 9 := nI_toInt (n := 9) (by decide)
theorem q9_tj : (9 : Int32).toInt = 9 := nI_toInt (n := 9) (by decide)
theorem q9_pos : ((9 : Int32) < 0) = False := eq_false (nI_pos (n := 9) (by decide))
theorem q10_le {k : Nat} (hk : k < 2 ^ 31) : ((10 : Int32) ≤ nI k) = (10 ≤ k) := propext (nI_leI (a := 10) (by decide) hk)
theorem q10_lt {k : Nat} (hk : k < 2 ^ 31) : ((10 : Int32) < nI k) = (10 < k) := propext (nI_ltI (a := 10) (by decide) hk)
theorem q10_ge {k : Nat} (hk : k < 2 ^ 31) : (nI k ≤ (10 : Int32)) = (k ≤ 10) := propext (nI_leI (b := 10) hk (by decide))
theorem q10_gt {k : Nat} (hk : k < 2 ^ 31) : (nI k < (10 : Int32)) = (k < 10) := propext (nI_ltI (b := 10) hk (by decide))
theorem q10_eq {k : Nat} (hk : k < 2 ^ 31) : (nI k = (10 : Int32)) = (k = 10) := propext (nI_eq (b := 10) hk (by decide))
theorem q10_mul {k : Nat} : (10 : Int32) * nI k = nI (10 * k) := (nI_mul 10 k)
theorem q10_add {k : Nat} : nI k + (10 : Int32) = nI (k + 10) := nI_add k 10
theorem q10_adl {k : Nat} : (10 : Int32) + nI k = nI (10 + k) := nI_add 10 k
theorem q10_cl : (10 : Int32).toNatClampNeg = 10 := nI_clamp (n := 10) (by decide)
theorem q10_ti : (nI 10).toInt = 10 := nI_toInt (n := 10) (by decide)
theorem q10_tj : (10 : Int32).toInt = 10 := nI_toInt (n := 10) (by decide)
theorem q10_pos : ((10 : Int32) < 0) = False := eq_false (nI_pos (n := 10) (by decide))
theorem q11_le {k : Nat} (hk : k < 2 ^ 31) : ((11 : Int32) ≤ nI k) = (11 ≤ k) := propext (nI_leI (a := 11) (by decide) hk)
theorem q11_lt {k : Nat} (hk : k < 2 ^ 31) : ((11 : Int32) < nI k) = (11 < k) := propext (nI_ltI (a := 11) (by decide) hk)
theorem q11_ge {k : Nat} (hk : k < 2 ^ 31) : (nI k ≤ (11 : Int32)) = (k ≤ 11) := propext (nI_leI (b := 11) hk (by decide))
theorem q11_gt {k : Nat} (hk : k < 2 ^ 31) : (nI k < (11 : Int32)) = (k < 11) := propext (nI_ltI (b := 11) hk (by decide))
theorem q11_eq {k : Nat} (hk : k < 2 ^ 31) : (nI k = (11 : Int32)) = (k = 11) := propext (nI_eq (b := 11) hk (by decide))
theorem q11_mul {k : Nat} : (11 : Int32) * nI k = nI (11 * k) := (nI_mul 11 k)
theorem q11_add {k : Nat} : nI k + (11 : Int32) = nI (k + 11) := nI_add k 11
theorem q11_adl {k : Nat} : (11 : Int32) + nI k = nI (11 + k) := nI_add 11 k
theorem q11_cl : (11 : Int32).toNatClampNeg = 11 := nI_clamp (n := 11) (by decide)
theorem q11_ti : (nI 11).toInt = 11 := nI_toInt (n := 11) (by decide)
theorem q11_tj : (11 : Int32).toInt = 11 := nI_toInt (n := 11) (by decide)
theorem q11_pos : ((11 : Int32) < 0) = False := eq_false (nI_pos (n := 11) (by decide))
theorem q12_le {k : Nat} (hk : k < 2 ^ 31) : ((12 : Int32) ≤ nI k) = (12 ≤ k) := propext (nI_leI (a := 12) (by decide) hk)
theorem q12_lt {k : Nat} (hk : k < 2 ^ 31) : ((12 : Int32) < nI k) = (12 < k) := propext (nI_ltI (a := 12) (by decide) hk)
theorem q12_ge {k : Nat} (hk : k < 2 ^ 31) : (nI k ≤ (12 : Int32)) = (k ≤ 12) := propext (nI_leI (b := 12) hk (by decide))
theorem q12_gt {k : Nat} (hk : k < 2 ^ 31) : (nI k < (12 : Int32)) = (k < 12) := propext (nI_ltI (b := 12) hk (by decide))
theorem q12_eq {k : Nat} (hk : k < 2 ^ 31) : (nI k = (12 : Int32)) = (k = 12) := propext (nI_eq (b := 12) hk (by decide))
theorem q12_mul {k : Nat} : (12 : Int32) * nI k = nI (12 * k) := (nI_mul 12 k)
theorem q12_add {k : Nat} : nI k + (12 : Int32) = nI (k + 12) := nI_add k 12
theorem q12_adl {k : Nat} : (12 : Int32) + nI k = nI (12 + k) := nI_add 12 k
theorem q12_cl : (12 : Int32).toNatClampNeg = 12 := nI_clamp (n := 12) (by decide)
theorem q12_ti : (nI 12).toInt = 12 := nI_toInt (n := 12) (by decide)
theorem q12_tj : (12 : Int32).toInt = 12 := nI_toInt (n := 12) (by decide)
theorem q12_pos : ((12 : Int32) < 0) = False := eq_false (nI_pos (n := 12) (by decide))
theorem q13_le {k : Nat} (hk : k < 2 ^ 31) : ((13 : Int32) ≤ nI k) = (13 ≤ k) := propext (nI_leI (a := 13) (by decide) hk)
theorem q13_lt {k : Nat} (hk : k < 2 ^ 31) : ((13 : Int32) < nI k) = (13 < k) := propext (nI_ltI (a := 13) (by decide) hk)
theorem q13_ge {k : Nat} (hk : k < 2 ^ 31) : (nI k ≤ (13 : Int32)) = (k ≤ 13) := propext (nI_leI (b := 13) hk (by decide))
theorem q13_gt {k : Nat} (hk : k < 2 ^ 31) : (nI k < (13 : Int32)) = (k < 13) := propext (nI_ltI (b := 13) hk (by decide))
theorem q13_eq {k : Nat} (hk : k < 2 ^ 31) : (nI k = (13 : Int32)) = (k = 13) := propext (nI_eq (b := 13) hk (by decide))
theorem q13_mul {k : Nat} : (13 : Int32) * nI k = nI (13 * k) := (nI_mul 13 k)
theorem q13_add {k : Nat} : nI k + (13 : Int32) = nI (k + 13) := nI_add k 13
theorem q13_adl {k : Nat} : (13 : Int32) + nI k = nI (13 + k) := nI_add 13 k
theorem q13_cl : (13 : Int32).toNatClampNeg = 13 := nI_clamp (n := 13) (by decide)
theorem q13_ti : (nI 13).toInt = 13 := nI_toInt (n := 13) (by decide)
theorem q13_tj : (13 : Int32).toInt = 13 := nI_toInt (n := 13) (by decide)
theorem q13_pos : ((13 : Int32) < 0) = False := eq_false (nI_pos (n := 13) (by decide))
theorem q14_le {k : Nat} (hk : k < 2 ^ 31) : ((14 : Int32) ≤ nI k) = (14 ≤ k) := propext (nI_leI (a := 14) (by decide) hk)
theorem q14_lt {k : Nat} (hk : k < 2 ^ 31) : ((14 : Int32) < nI k) = (14 < k) := propext (nI_ltI (a := 14) (by decide) hk)
theorem q14_ge {k : Nat} (hk : k < 2 ^ 31) : (nI k ≤ (14 : Int32)) = (k ≤ 14) := propext (nI_leI (b := 14) hk (by decide))
theorem q14_gt {k : Nat} (hk : k < 2 ^ 31) : (nI k < (14 : Int32)) = (k < 14) := propext (nI_ltI (b := 14) hk (by decide))
theorem q14_eq {k : Nat} (hk : k < 2 ^ 31) : (nI k = (14 : Int32)) = (k = 14) := propext (nI_eq (b := 14) hk (by decide))
theorem q14_mul {k : Nat} : (14 : Int32) * nI k = nI (14 * k) := (nI_mul 14 k)
theorem q14_add {k : Nat} : nI k + (14 : Int32) = nI (k + 14) := nI_add k 14
theorem q14_adl {k : Nat} : (14 : Int32) + nI k = nI (14 + k) := nI_add 14 k
theorem q14_cl : (14 : Int32).toNatClampNeg = 14 := nI_clamp (n := 14) (by decide)
theorem q14_ti : (nI 14).toInt = 14 := nI_toInt (n := 14) (by decide)
theorem q14_tj : (14 : Int32).toInt = 14 := nI_toInt (n := 14) (by decide)
theorem q14_pos : ((14 : Int32) < 0) = False := eq_false (nI_pos (n := 14) (by decide))
theorem q15_le {k : Nat} (hk : k < 2 ^ 31) : ((15 : Int32) ≤ nI k) = (15 ≤ k) := propext (nI_leI (a := 15) (by decide) hk)
theorem q15_lt {k : Nat} (hk : k < 2 ^ 31) : ((15 : Int32) < nI k) = (15 < k) := propext (nI_ltI (a := 15) (by decide) hk)
theorem q15_ge {k : Nat} (hk : k < 2 ^ 31) : (nI k ≤ (15 : Int32)) = (k ≤ 15) := propext (nI_leI (b := 15) hk (by decide))
theorem q15_gt {k : Nat} (hk : k < 2 ^ 31) : (nI k < (15 : Int32)) = (k < 15) := propext (nI_ltI (b := 15) hk (by decide))
theorem q15_eq {k : Nat} (hk : k < 2 ^ 31) : (nI k = (15 : Int32)) = (k = 15) := propext (nI_eq (b := 15) hk (by decide))
theorem q15_mul {k : Nat} : (15 : Int32) * nI k = nI (15 * k) := (nI_mul 15 k)
theorem q15_add {k : Nat} : nI k + (15 : Int32) = nI (k + 15) := nI_add k 15
theorem q15_adl {k : Nat} : (15 : Int32) + nI k = nI (15 + k) := nI_add 15 k
theorem q15_cl : (15 : Int32).toNatClampNeg = 15 := nI_clamp (n := 15) (by decide)
theorem q15_ti : (nI 15).toInt = 15 := nI_toInt (n := 15) (by decide)
theorem q15_tj : (15 : Int32).toInt = 15 := nI_toInt (n := 15) (by decide)
theorem q15_pos : ((15 : Int32) < 0) = False := eq_false (nI_pos (n := 15) (by decide))
theorem q16_le {k : Nat} (hk : k < 2 ^ 31) : ((16 : Int32) ≤ nI k) = (16 ≤ k) := propext (nI_leI (a := 16) (by decide) hk)
theorem q16_lt {k : Nat} (hk : k < 2 ^ 31) : ((16 : Int32) < nI k) = (16 < k) := propext (nI_ltI (a := 16) (by decide) hk)
theorem q16_ge {k : Nat} (hk : k < 2 ^ 31) : (nI k ≤ (16 : Int32)) = (k ≤ 16) := propext (nI_leI (b := 16) hk (by decide))
theorem q16_gt {k : Nat} (hk : k < 2 ^ 31) : (nI k < (16 : Int32)) = (k < 16) := propext (nI_ltI (b := 16) hk (by decide))
theorem q16_eq {k : Nat} (hk : k < 2 ^ 31) : (nI k = (16 : Int32)) = (k = 16) := propext (nI_eq (b := 16) hk (by decide))
theorem q16_mul {k : Nat} : (16 : Int32) * nI k = nI (16 * k) := (nI_mul 16 k)
theorem q16_add {k : Nat} : nI k + (16 : Int32) = nI (k + 16) := nI_add k 16
theorem q16_adl {k : Nat} : (16 : Int32) + nI k = nI (16 + k) := nI_add 16 k
theorem q16_cl : (16 : Int32).toNatClampNeg = 16 := nI_clamp (n := 16) (by decide)
theorem q16_ti : (nI 16).toInt = 16 := nI_toInt (n := 16) (by decide)
theorem q16_tj : (16 : Int32).toInt = 16 := nI_toInt (n := 16) (by decide)
theorem q16_pos : ((16 : Int32) < 0) = False := eq_false (nI_pos (n := 16) (by decide))
theorem q17_le {k : Nat} (hk : k < 2 ^ 31) : ((17 : Int32) ≤ nI k) = (17 ≤ k) := propext (nI_leI (a := 17) (by decide) hk)
theorem q17_lt {k : Nat} (hk : k < 2 ^ 31) : ((17 : Int32) < nI k) = (17 < k) := propext (nI_ltI (a := 17) (by decide) hk)
theorem q17_ge {k : Nat} (hk : k < 2 ^ 31) : (nI k ≤ (17 : Int32)) = (k ≤ 17) := propext (nI_leI (b := 17) hk (by decide))
theorem q17_gt {k : Nat} (hk : k < 2 ^ 31) : (nI k < (17 : Int32)) = (k < 17) := propext (nI_ltI (b := 17) hk (by decide))
theorem q17_eq {k : Nat} (hk : k < 2 ^ 31) : (nI k = (17 : Int32)) = (k = 17) := propext (nI_eq (b := 17) hk (by decide))
theorem q17_mul {k : Nat} : (17 : Int32) * nI k = nI (17 * k) := (nI_mul 17 k)
theorem q17_add {k : Nat} : nI k + (17 : Int32) = nI (k + 17) := nI_add k 17
theorem q17_adl {k : Nat} : (17 : Int32) + nI k = nI (17 + k) := nI_add 17 k
theorem q17_cl : (17 : Int32).toNatClampNeg = 17 := nI_clamp (n := 17) (by decide)
theorem q17_ti : (nI 17).toInt = 17 := nI_toInt (n := 17) (by decide)
theorem q17_tj : (17 : Int32).toInt = 17 := nI_toInt (n := 17) (by decide)
theorem q17_pos : ((17 : Int32) < 0) = False := eq_false (nI_pos (n := 17) (by decide))
theorem q18_le {k : Nat} (hk : k < 2 ^ 31) : ((18 : Int32) ≤ nI k) = (18 ≤ k) := propext (nI_leI (a := 18) (by decide) hk)
theorem q18_lt {k : Nat} (hk : k < 2 ^ 31) : ((18 : Int32) < nI k) = (18 < k) := propext (nI_ltI (a := 18) (by decide) hk)
theorem q18_ge {k : Nat} (hk : k < 2 ^ 31) : (nI k ≤ (18 : Int32)) = (k ≤ 18) := propext (nI_leI (b := 18) hk (by decide))
theorem q18_gt {k : Nat} (hk : k < 2 ^ 31) : (nI k < (18 : Int32)) = (k < 18) := propext (nI_ltI (b := 18) hk (by decide))
theorem q18_eq {k : Nat} (hk : k < 2 ^ 31) : (nI k = (18 : Int32)) = (k = 18) := propext (nI_eq (b := 18) hk (by decide))
theorem q18_mul {k : Nat} : (18 : Int32) * nI k = nI (18 * k) := (nI_mul 18 k)
theorem q18_add {k : Nat} : nI k + (18 : Int32) = nI (k + 18) := nI_add k 18
theorem q18_adl {k : Nat} : (18 : Int32) + nI k = nI (18 + k) := nI_add 18 k
theorem q18_cl : (18 : Int32).toNatClampNeg = 18 := nI_clamp (n := 18) (by decide)
theorem q18_ti : (nI 18).toInt = 18 := nI_toInt (n := 18) (by decide)
theorem q18_tj : (18 : Int32).toInt = 18 := nI_toInt (n := 18) (by decide)
theorem q18_pos : ((18 : Int32) < 0) = False := eq_false (nI_pos (n := 18) (by decide))
theorem q19_le {k : Nat} (hk : k < 2 ^ 31) : ((19 : Int32) ≤ nI k) = (19 ≤ k) := propext (nI_leI (a := 19) (by decide) hk)
theorem q19_lt {k : Nat} (hk : k < 2 ^ 31) : ((19 : Int32) < nI k) = (19 < k) := propext (nI_ltI (a := 19) (by decide) hk)
theorem q19_ge {k : Nat} (hk : k < 2 ^ 31) : (nI k ≤ (19 : Int32)) = (k ≤ 19) := propext (nI_leI (b := 19) hk (by decide))
theorem q19_gt {k : Nat} (hk : k < 2 ^ 31) : (nI k < (19 : Int32)) = (k < 19) := propext (nI_ltI (b := 19) hk (by decide))
theorem q19_eq {k : Nat} (hk : k < 2 ^ 31) : (nI k = (19 : Int32)) = (k = 19) := propext (nI_eq (b := 19) hk (by decide))
theorem q19_mul {k : Nat} : (19 : Int32) * nI k = nI (19 * k) := (nI_mul 19 k)
theorem q19_add {k : Nat} : nI k + (19 : Int32) = nI (k + 19) := nI_add k 19
theorem q19_adl {k : Nat} : (19 : Int32) + nI k = nI (19 + k) := nI_add 19 k
theorem q19_cl : (19 : Int32).toNatClampNeg = 19 := nI_clamp (n := 19) (by decide)
theorem q19_ti : (nI 19).toInt = 19 := nI_toInt (n := 19) (by decide)
theorem q19_tj : (19 : Int32).toInt = 19 := nI_toInt (n := 19) (by decide)
theorem q19_pos : ((19 : Int32) < 0) = False := eq_false (nI_pos (n := 19) (by decide))
theorem q20_le {k : Nat} (hk : k < 2 ^ 31) : ((20 : Int32) ≤ nI k) = (20 ≤ k) := propext (nI_leI (a := 20) (by decide) hk)
theorem q20_lt {k : Nat} (hk : k < 2 ^ 31) : ((20 : Int32) < nI k) = (20 < k) := propext (nI_ltI (a := 20) (by decide) hk)
theorem q20_ge {k : Nat} (hk : k < 2 ^ 31) : (nI k ≤ (20 : Int32)) = (k ≤ 20) := propext (nI_leI (b := 20) hk (by decide))
theorem q20_gt {k : Nat} (hk : k < 2 ^ 31) : (nI k < (20 : Int32)) = (k < 20) := propext (nI_ltI (b := 20) hk (by decide))
theorem q20_eq {k : Nat} (hk : k < 2 ^ 31) : (nI k = (20 : Int32)) = (k = 20) := propext (nI_eq (b := 20) hk (by decide))
theorem q20_mul {k : Nat} : (20 : Int32) * nI k = nI (20 * k) := (nI_mul 20 k)
theorem q20_add {k : Nat} : nI k + (20 : Int32) = nI (k + 20) := nI_add k 20
theorem q20_adl {k : Nat} : (20 : Int32) + nI k = nI (20 + k) := nI_add 20 k
theorem q20_cl : (20 : Int32).toNatClampNeg = 20 := nI_clamp (n := 20) (by decide)
theorem q20_ti : (nI 20).toInt = 20 := nI_toInt (n := 20) (by decide)
theorem q20_tj : (20 : Int32).toInt = 20 := nI_toInt (n := 20) (by decide)
theorem q20_pos : ((20 : Int32) < 0) = False := eq_false (nI_pos (n := 20) (by decide))
theorem q21_le {k : Nat} (hk : k < 2 ^ 31) : ((21 : Int32) ≤ nI k) = (21 ≤ k) := propext (nI_leI (a := 21) (by decide) hk)
theorem q21_lt {k : Nat} (hk : k < 2 ^ 31) : ((21 : Int32) < nI k) = (21 < k) := propext (nI_ltI (a := 21) (by decide) hk)
theorem q21_ge {k : Nat} (hk : k < 2 ^ 31) : (nI k ≤ (21 : Int32)) = (k ≤ 21) := propext (nI_leI (b := 21) hk (by decide))
theorem q21_gt {k : Nat} (hk : k < 2 ^ 31) : (nI k < (21 : Int32)) = (k < 21) := propext (nI_ltI (b := 21) hk (by decide))
theorem q21_eq {k : Nat} (hk : k < 2 ^ 31) : (nI k = (21 : Int32)) = (k = 21) := propext (nI_eq (b := 21) hk (by decide))
theorem q21_mul {k : Nat} : (21 : Int32) * nI k = nI (21 * k) := (nI_mul 21 k)
theorem q21_add {k : Nat} : nI k + (21 : Int32) = nI (k + 21) := nI_add k 21
theorem q21_adl {k : Nat} : (21 : Int32) + nI k = nI (21 + k) := nI_add 21 k
theorem q21_cl : (21 : Int32).toNatClampNeg = 21 := nI_clamp (n := 21) (by decide)
theorem q21_ti : (nI 21).toInt = 21 := nI_toInt (n := 21) (by decide)
theorem q21_tj : (21 : Int32).toInt = 21 := nI_toInt (n := 21) (by decide)
theorem q21_pos : ((21 : Int32) < 0) = False := eq_false (nI_pos (n := 21) (by decide))
theorem q22_le {k : Nat} (hk : k < 2 ^ 31) : ((22 : Int32) ≤ nI k) = (22 ≤ k) := propext (nI_leI (a := 22) (by decide) hk)
theorem q22_lt {k : Nat} (hk : k < 2 ^ 31) : ((22 : Int32) < nI k) = (22 < k) := propext (nI_ltI (a := 22) (by decide) hk)
theorem q22_ge {k : Nat} (hk : k < 2 ^ 31) : (nI k ≤ (22 : Int32)) = (k ≤ 22) := propext (nI_leI (b := 22) hk (by decide))
theorem q22_gt {k : Nat} (hk : k < 2 ^ 31) : (nI k < (22 : Int32)) = (k < 22) := propext (nI_ltI (b := 22) hk (by decide))
theorem q22_eq {k : Nat} (hk : k < 2 ^ 31) : (nI k = (22 : Int32)) = (k = 22) := propext (nI_eq (b := 22) hk (by decide))
theorem q22_mul {k : Nat} : (22 : Int32) * nI k = nI (22 * k) := (nI_mul 22 k)
theorem q22_add {k : Nat} : nI k + (22 : Int32) = nI (k + 22) := nI_add k 22
theorem q22_adl {k : Nat} : (22 : Int32) + nI k = nI (22 + k) := nI_add 22 k
theorem q22_cl : (22 : Int32).toNatClampNeg = 22 := nI_clamp (n := 22) (by decide)
theorem q22_ti : (nI 22).toInt = 22 := nI_toInt (n := 22) (by decide)
theorem q22_tj : (22 : Int32).toInt = 22 := nI_toInt (n := 22) (by decide)
theorem q22_pos : ((22 : Int32) < 0) = False := eq_false (nI_pos (n := 22) (by decide))
theorem q23_le {k : Nat} (hk : k < 2 ^ 31) : ((23 : Int32) ≤ nI k) = (23 ≤ k) := propext (nI_leI (a := 23) (by decide) hk)
theorem q23_lt {k : Nat} (hk : k < 2 ^ 31) : ((23 : Int32) < nI k) = (23 < k) := propext (nI_ltI (a := 23) (by decide) hk)
theorem q23_ge {k : Nat} (hk : k < 2 ^ 31) : (nI k ≤ (23 : Int32)) = (k ≤ 23) := propext (nI_leI (b := 23) hk (by decide))
theorem q23_gt {k : Nat} (hk : k < 2 ^ 31) : (nI k < (23 : Int32)) = (k < 23) := propext (nI_ltI (b := 23) hk (by decide))
theorem q23_eq {k : Nat} (hk : k < 2 ^ 31) : (nI k = (23 : Int32)) = (k = 23) := propext (nI_eq (b := 23) hk (by decide))
theorem q23_mul {k : Nat} : (23 : Int32) * nI k = nI (23 * k) := (nI_mul 23 k)
theorem q23_add {k : Nat} : nI k + (23 : Int32) = nI (k + 23) := nI_add k 23
theorem q23_adl {k : Nat} : (23 : Int32) + nI k = nI (23 + k) := nI_add 23 k
theorem q23_cl : (23 : Int32).toNatClampNeg = 23 := nI_clamp (n := 23) (by decide)
theorem q23_ti : (nI 23).toInt = 23 := nI_toInt (n := 23) (by decide)
theorem q23_tj : (23 : Int32).toInt = 23 := nI_toInt (n := 23) (by decide)
theorem q23_pos : ((23 : Int32) < 0) = False := eq_false (nI_pos (n := 23) (by decide))
theorem q24_le {k : Nat} (hk : k < 2 ^ 31) : ((24 : Int32) ≤ nI k) = (24 ≤ k) := propext (nI_leI (a := 24) (by decide) hk)
theorem q24_lt {k : Nat} (hk : k < 2 ^ 31) : ((24 : Int32) < nI k) = (24 < k) := propext (nI_ltI (a := 24) (by decide) hk)
theorem q24_ge {k : Nat} (hk : k < 2 ^ 31) : (nI k ≤ (24 : Int32)) = (k ≤ 24) := propext (nI_leI (b := 24) hk (by decide))
theorem q24_gt {k : Nat} (hk : k < 2 ^ 31) : (nI k < (24 : Int32)) = (k < 24) := propext (nI_ltI (b := 24) hk (by decide))
theorem q24_eq {k : Nat} (hk : k < 2 ^ 31) : (nI k = (24 : Int32)) = (k = 24) := propext (nI_eq (b := 24) hk (by decide))
theorem q24_mul {k : Nat} : (24 : Int32) * nI k = nI (24 * k) := (nI_mul 24 k)
theorem q24_add {k : Nat} : nI k + (24 : Int32) = nI (k + 24) := nI_add k 24
theorem q24_adl {k : Nat} : (24 : Int32) + nI k = nI (24 + k) := nI_add 24 k
theorem q24_cl : (24 : Int32).toNatClampNeg = 24 := nI_clamp (n := 24) (by decide)
theorem q24_ti : (nI 24).toInt = 24 := nI_toInt (n := 24) (by decide)
theorem q24_tj : (24 : Int32).toInt = 24 := nI_toInt (n := 24) (by decide)
theorem q24_pos : ((24 : Int32) < 0) = False := eq_false (nI_pos (n := 24) (by decide))
theorem q25_le {k : Nat} (hk : k < 2 ^ 31) : ((25 : Int32) ≤ nI k) = (25 ≤ k) := propext (nI_leI (a := 25) (by decide) hk)
theorem q25_lt {k : Nat} (hk : k < 2 ^ 31) : ((25 : Int32) < nI k) = (25 < k) := propext (nI_ltI (a := 25) (by decide) hk)
theorem q25_ge {k : Nat} (hk : k < 2 ^ 31) : (nI k ≤ (25 : Int32)) = (k ≤ 25) := propext (nI_leI (b := 25) hk (by decide))
theorem q25_gt {k : Nat} (hk : k < 2 ^ 31) : (nI k < (25 : Int32)) = (k < 25) := propext (nI_ltI (b := 25) hk (by decide))
theorem q25_eq {k : Nat} (hk : k < 2 ^ 31) : (nI k = (25 : Int32)) = (k = 25) := propext (nI_eq (b := 25) hk (by decide))
theorem q25_mul {k : Nat} : (25 : Int32) * nI k = nI (25 * k) := (nI_mul 25 k)
theorem q25_add {k : Nat} : nI k + (25 : Int32) = nI (k + 25) := nI_add k 25
theorem q25_adl {k : Nat} : (25 : Int32) + nI k = nI (25 + k) := nI_add 25 k
theorem q25_cl : (25 : Int32).toNatClampNeg = 25 := nI_clamp (n := 25) (by decide)
theorem q25_ti : (nI 25).toInt = 25 := nI_toInt (n := 25) (by decide)
theorem q25_tj : (25 : Int32).toInt = 25 := nI_toInt (n := 25) (by decide)
theorem q25_pos : ((25 : Int32) < 0) = False := eq_false (nI_pos (n := 25) (by decide))
theorem q26_le {k : Nat} (hk : k < 2 ^ 31) : ((26 : Int32) ≤ nI k) = (26 ≤ k) := propext (nI_leI (a := 26) (by decide) hk)
theorem q26_lt {k : Nat} (hk : k < 2 ^ 31) : ((26 : Int32) < nI k) = (26 < k) := propext (nI_ltI (a := 26) (by decide) hk)
theorem q26_ge {k : Nat} (hk : k < 2 ^ 31) : (nI k ≤ (26 : Int32)) = (k ≤ 26) := propext (nI_leI (b := 26) hk (by decide))
theorem q26_gt {k : Nat} (hk : k < 2 ^ 31) : (nI k < (26 : Int32)) = (k < 26) := propext (nI_ltI (b := 26) hk (by decide))
theorem q26_eq {k : Nat} (hk : k < 2 ^ 31) : (nI k = (26 : Int32)) = (k = 26) := propext (nI_eq (b := 26) hk (by decide))
theorem q26_mul {k : Nat} : (26 : Int32) * nI k = nI (26 * k) := (nI_mul 26 k)
theorem q26_add {k : Nat} : nI k + (26 : Int32) = nI (k + 26) := nI_add k 26
theorem q26_adl {k : Nat} : (26 : Int32) + nI k = nI (26 + k) := nI_add 26 k
theorem q26_cl : (26 : Int32).toNatClampNeg = 26 := nI_clamp (n := 26) (by decide)
theorem q26_ti : (nI 26).toInt = 26 := nI_toInt (n := 26) (by decide)
theorem q26_tj : (26 : Int32).toInt = 26 := nI_toInt (n := 26) (by decide)
theorem q26_pos : ((26 : Int32) < 0) = False := eq_false (nI_pos (n := 26) (by decide))
theorem q27_le {k : Nat} (hk : k < 2 ^ 31) : ((27 : Int32) ≤ nI k) = (27 ≤ k) := propext (nI_leI (a := 27) (by decide) hk)
theorem q27_lt {k : Nat} (hk : k < 2 ^ 31) : ((27 : Int32) < nI k) = (27 < k) := propext (nI_ltI (a := 27) (by decide) hk)
theorem q27_ge {k : Nat} (hk : k < 2 ^ 31) : (nI k ≤ (27 : Int32)) = (k ≤ 27) := propext (nI_leI (b := 27) hk (by decide))
theorem q27_gt {k : Nat} (hk : k < 2 ^ 31) : (nI k < (27 : Int32)) = (k < 27) := propext (nI_ltI (b := 27) hk (by decide))
theorem q27_eq {k : Nat} (hk : k < 2 ^ 31) : (nI k = (27 : Int32)) = (k = 27) := propext (nI_eq (b := 27) hk (by decide))
theorem q27_mul {k : Nat} : (27 : Int32) * nI k = nI (27 * k) := (nI_mul 27 k)
theorem q27_add {k : Nat} : nI k + (27 : Int32) = nI (k + 27) := nI_add k 27
theorem q27_adl {k : Nat} : (27 : Int32) + nI k = nI (27 + k) := nI_add 27 k
theorem q27_cl : (27 : Int32).toNatClampNeg = 27 := nI_clamp (n := 27) (by decide)
theorem q27_ti : (nI 27).toInt = 27 := nI_toInt (n := 27) (by decide)
theorem q27_tj : (27 : Int32).toInt = 27 := nI_toInt (n := 27) (by decide)
theorem q27_pos : ((27 : Int32) < 0) = False := eq_false (nI_pos (n := 27) (by decide))
theorem q28_le {k : Nat} (hk : k < 2 ^ 31) : ((28 : Int32) ≤ nI k) = (28 ≤ k) := propext (nI_leI (a := 28) (by decide) hk)
theorem q28_lt {k : Nat} (hk : k < 2 ^ 31) : ((28 : Int32) < nI k) = (28 < k) := propext (nI_ltI (a := 28) (by decide) hk)
theorem q28_ge {k : Nat} (hk : k < 2 ^ 31) : (nI k ≤ (28 : Int32)) = (k ≤ 28) := propext (nI_leI (b := 28) hk (by decide))
theorem q28_gt {k : Nat} (hk : k < 2 ^ 31) : (nI k < (28 : Int32)) = (k < 28) := propext (nI_ltI (b := 28) hk (by decide))
theorem q28_eq {k : Nat} (hk : k < 2 ^ 31) : (nI k = (28 : Int32)) = (k = 28) := propext (nI_eq (b := 28) hk (by decide))
theorem q28_mul {k : Nat} : (28 : Int32) * nI k = nI (28 * k) := (nI_mul 28 k)
theorem q28_add {k : Nat} : nI k + (28 : Int32) = nI (k + 28) := nI_add k 28
theorem q28_adl {k : Nat} : (28 : Int32) + nI k = nI (28 + k) := nI_add 28 k
theorem q28_cl : (28 : Int32).toNatClampNeg = 28 := nI_clamp (n := 28) (by decide)
theorem q28_ti : (nI 28).toInt = 28 := nI_toInt (n := 28) (by decide)
theorem q28_tj : (28 : Int32).toInt = 28 := nI_toInt (n := 28) (by decide)
theorem q28_pos : ((28 : Int32) < 0) = False := eq_false (nI_pos (n := 28) (by decide))
theorem q29_le {k : Nat} (hk : k < 2 ^ 31) : ((29 : Int32) ≤ nI k) = (29 ≤ k) := propext (nI_leI (a := 29) (by decide) hk)
theorem q29_lt {k : Nat} (hk : k < 2 ^ 31) : ((29 : Int32) < nI k) = (29 < k) := propext (nI_ltI (a := 29) (by decide) hk)
theorem q29_ge {k : Nat} (hk : k < 2 ^ 31) : (nI k ≤ (29 : Int32)) = (k ≤ 29) := propext (nI_leI (b := 29) hk (by decide))
theorem q29_gt {k : Nat} (hk : k < 2 ^ 31) : (nI k < (29 : Int32)) = (k < 29) := propext (nI_ltI (b := 29) hk (by decide))
theorem q29_eq {k : Nat} (hk : k < 2 ^ 31) : (nI k = (29 : Int32)) = (k = 29) := propext (nI_eq (b := 29) hk (by decide))
theorem q29_mul {k : Nat} : (29 : Int32) * nI k = nI (29 * k) := (nI_mul 29 k)
theorem q29_add {k : Nat} : nI k + (29 : Int32) = nI (k + 29) := nI_add k 29
theorem q29_adl {k : Nat} : (29 : Int32) + nI k = nI (29 + k) := nI_add 29 k
theorem q29_cl : (29 : Int32).toNatClampNeg = 29 := nI_clamp (n := 29) (by decide)
theorem q29_ti : (nI 29).toInt = 29 := nI_toInt (n := 29) (by decide)
theorem q29_tj : (29 : Int32).toInt = 29 := nI_toInt (n := 29) (by decide)
theorem q29_pos : ((29 : Int32) < 0) = False := eq_false (nI_pos (n := 29) (by decide))
theorem q30_le {k : Nat} (hk : k < 2 ^ 31) : ((30 : Int32) ≤ nI k) = (30 ≤ k) := propext (nI_leI (a := 30) (by decide) hk)
theorem q30_lt {k : Nat} (hk : k < 2 ^ 31) : ((30 : Int32) < nI k) = (30 < k) := propext (nI_ltI (a := 30) (by decide) hk)
theorem q30_ge {k : Nat} (hk : k < 2 ^ 31) : (nI k ≤ (30 : Int32)) = (k ≤ 30) := propext (nI_leI (b := 30) hk (by decide))
theorem q30_gt {k : Nat} (hk : k < 2 ^ 31) : (nI k < (30 : Int32)) = (k < 30) := propext (nI_ltI (b := 30) hk (by decide))
theorem q30_eq {k : Nat} (hk : k < 2 ^ 31) : (nI k = (30 : Int32)) = (k = 30) := propext (nI_eq (b := 30) hk (by decide))
theorem q30_mul {k : Nat} : (30 : Int32) * nI k = nI (30 * k) := (nI_mul 30 k)
theorem q30_add {k : Nat} : nI k + (30 : Int32) = nI (k + 30) := nI_add k 30
theorem q30_adl {k : Nat} : (30 : Int32) + nI k = nI (30 + k) := nI_add 30 k
theorem q30_cl : (30 : Int32).toNatClampNeg = 30 := nI_clamp (n := 30) (by decide)
theorem q30_ti : (nI 30).toInt = 30 := nI_toInt (n := 30) (by decide)
theorem q30_tj : (30 : Int32).toInt = 30 := nI_toInt (n := 30) (by decide)
theorem q30_pos : ((30 : Int32) < 0) = False := eq_false (nI_pos (n := 30) (by decide))
theorem q31_le {k : Nat} (hk : k < 2 ^ 31) : ((31 : Int32) ≤ nI k) = (31 ≤ k) := propext (nI_leI (a := 31) (by decide) hk)
theorem q31_lt {k : Nat} (hk : k < 2 ^ 31) : ((31 : Int32) < nI k) = (31 < k) := propext (nI_ltI (a := 31) (by decide) hk)
theorem q31_ge {k : Nat} (hk : k < 2 ^ 31) : (nI k ≤ (31 : Int32)) = (k ≤ 31) := propext (nI_leI (b := 31) hk (by decide))
theorem q31_gt {k : Nat} (hk : k < 2 ^ 31) : (nI k < (31 : Int32)) = (k < 31) := propext (nI_ltI (b := 31) hk (by decide))
theorem q31_eq {k : Nat} (hk : k < 2 ^ 31) : (nI k = (31 : Int32)) = (k = 31) := propext (nI_eq (b := 31) hk (by decide))
theorem q31_mul {k : Nat} : (31 : Int32) * nI k = nI (31 * k) := (nI_mul 31 k)
theorem q31_add {k : Nat} : nI k + (31 : Int32) = nI (k + 31) := nI_add k 31
theorem q31_adl {k : Nat} : (31 : Int32) + nI k = nI (31 + k) := nI_add 31 k
theorem q31_cl : (31 : Int32).toNatClampNeg = 31 := nI_clamp (n := 31) (by decide)
theorem q31_ti : (nI 31).toInt = 31 := nI_toInt (n := 31) (by decide)
theorem q31_tj : (31 : Int32).toInt = 31 := nI_toInt (n := 31) (by decide)
theorem q31_pos : ((31 : Int32) < 0) = False := eq_false (nI_pos (n := 31) (by decide))
theorem q32_le {k : Nat} (hk : k < 2 ^ 31) : ((32 : Int32) ≤ nI k) = (32 ≤ k) := propext (nI_leI (a := 32) (by decide) hk)
theorem q32_lt {k : Nat} (hk : k < 2 ^ 31) : ((32 : Int32) < nI k) = (32 < k) := propext (nI_ltI (a := 32) (by decide) hk)
theorem q32_ge {k : Nat} (hk : k < 2 ^ 31) : (nI k ≤ (32 : Int32)) = (k ≤ 32) := propext (nI_leI (b := 32) hk (by decide))
theorem q32_gt {k : Nat} (hk : k < 2 ^ 31) : (nI k < (32 : Int32)) = (k < 32) := propext (nI_ltI (b := 32) hk (by decide))
theorem q32_eq {k : Nat} (hk : k < 2 ^ 31) : (nI k = (32 : Int32)) = (k = 32) := propext (nI_eq (b := 32) hk (by decide))
theorem q32_mul {k : Nat} : (32 : Int32) * nI k = nI (32 * k) := (nI_mul 32 k)
theorem q32_add {k : Nat} : nI k + (32 : Int32) = nI (k + 32) := nI_add k 32
theorem q32_adl {k : Nat} : (32 : Int32) + nI k = nI (32 + k) := nI_add 32 k
theorem q32_cl : (32 : Int32).toNatClampNeg = 32 := nI_clamp (n := 32) (by decide)
theorem q32_ti : (nI 32).toInt = 32 := nI_toInt (n := 32) (by decide)
theorem q32_tj : (32 : Int32).toInt = 32 := nI_toInt (n := 32) (by decide)
theorem q32_pos : ((32 : Int32) < 0) = False := eq_false (nI_pos (n := 32) (by decide))
theorem q33_le {k : Nat} (hk : k < 2 ^ 31) : ((33 : Int32) ≤ nI k) = (33 ≤ k) := propext (nI_leI (a := 33) (by decide) hk)
theorem q33_lt {k : Nat} (hk : k < 2 ^ 31) : ((33 : Int32) < nI k) = (33 < k) := propext (nI_ltI (a := 33) (by decide) hk)
theorem q33_ge {k : Nat} (hk : k < 2 ^ 31) : (nI k ≤ (33 : Int32)) = (k ≤ 33) := propext (nI_leI (b := 33) hk (by decide))
theorem q33_gt {k : Nat} (hk : k < 2 ^ 31) : (nI k < (33 : Int32)) = (k < 33) := propext (nI_ltI (b := 33) hk (by decide))
theorem q33_eq {k : Nat} (hk : k < 2 ^ 31) : (nI k = (33 : Int32)) = (k = 33) := propext (nI_eq (b := 33) hk (by decide))
theorem q33_mul {k : Nat} : (33 : Int32) * nI k = nI (33 * k) := (nI_mul 33 k)
theorem q33_add {k : Nat} : nI k + (33 : Int32) = nI (k + 33) := nI_add k 33
theorem q33_adl {k : Nat} : (33 : Int32) + nI k = nI (33 + k) := nI_add 33 k
theorem q33_cl : (33 : Int32).toNatClampNeg = 33 := nI_clamp (n := 33) (by decide)
theorem q33_ti : (nI 33).toInt = 33 := nI_toInt (n := 33) (by decide)
theorem q33_tj : (33 : Int32).toInt = 33 := nI_toInt (n := 33) (by decide)
theorem q33_pos : ((33 : Int32) < 0) = False := eq_false (nI_pos (n := 33) (by decide))
theorem q34_le {k : Nat} (hk : k < 2 ^ 31) : ((34 : Int32) ≤ nI k) = (34 ≤ k) := propext (nI_leI (a := 34) (by decide) hk)
theorem q34_lt {k : Nat} (hk : k < 2 ^ 31) : ((34 : Int32) < nI k) = (34 < k) := propext (nI_ltI (a := 34) (by decide) hk)
theorem q34_ge {k : Nat} (hk : k < 2 ^ 31) : (nI k ≤ (34 : Int32)) = (k ≤ 34) := propext (nI_leI (b := 34) hk (by decide))
theorem q34_gt {k : Nat} (hk : k < 2 ^ 31) : (nI k < (34 : Int32)) = (k < 34) := propext (nI_ltI (b := 34) hk (by decide))
theorem q34_eq {k : Nat} (hk : k < 2 ^ 31) : (nI k = (34 : Int32)) = (k = 34) := propext (nI_eq (b := 34) hk (by decide))
theorem q34_mul {k : Nat} : (34 : Int32) * nI k = nI (34 * k) := (nI_mul 34 k)
theorem q34_add {k : Nat} : nI k + (34 : Int32) = nI (k + 34) := nI_add k 34
theorem q34_adl {k : Nat} : (34 : Int32) + nI k = nI (34 + k) := nI_add 34 k
theorem q34_cl : (34 : Int32).toNatClampNeg = 34 := nI_clamp (n := 34) (by decide)
theorem q34_ti : (nI 34).toInt = 34 := nI_toInt (n := 34) (by decide)
theorem q34_tj : (34 : Int32).toInt = 34 := nI_toInt (n := 34) (by decide)
theorem q34_pos : ((34 : Int32) < 0) = False := eq_false (nI_pos (n := 34) (by decide))
theorem q35_le {k : Nat} (hk : k < 2 ^ 31) : ((35 : Int32) ≤ nI k) = (35 ≤ k) := propext (nI_leI (a := 35) (by decide) hk)
theorem q35_lt {k : Nat} (hk : k < 2 ^ 31) : ((35 : Int32) < nI k) = (35 < k) := propext (nI_ltI (a := 35) (by decide) hk)
theorem q35_ge {k : Nat} (hk : k < 2 ^ 31) : (nI k ≤ (35 : Int32)) = (k ≤ 35) := propext (nI_leI (b := 35) hk (by decide))
theorem q35_gt {k : Nat} (hk : k < 2 ^ 31) : (nI k < (35 : Int32)) = (k < 35) := propext (nI_ltI (b := 35) hk (by decide))
theorem q35_eq {k : Nat} (hk : k < 2 ^ 31) : (nI k = (35 : Int32)) = (k = 35) := propext (nI_eq (b := 35) hk (by decide))
theorem q35_mul {k : Nat} : (35 : Int32) * nI k = nI (35 * k) := (nI_mul 35 k)
theorem q35_add {k : Nat} : nI k + (35 : Int32) = nI (k + 35) := nI_add k 35
theorem q35_adl {k : Nat} : (35 : Int32) + nI k = nI (35 + k) := nI_add 35 k
theorem q35_cl : (35 : Int32).toNatClampNeg = 35 := nI_clamp (n := 35) (by decide)
theorem q35_ti : (nI 35).toInt = 35 := nI_toInt (n := 35) (by decide)
theorem q35_tj : (35 : Int32).toInt = 35 := nI_toInt (n := 35) (by decide)
theorem q35_pos : ((35 : Int32) < 0) = False := eq_false (nI_pos (n := 35) (by decide))
theorem q36_le {k : Nat} (hk : k < 2 ^ 31) : ((36 : Int32) ≤ nI k) = (36 ≤ k) := propext (nI_leI (a := 36) (by decide) hk)
theorem q36_lt {k : Nat} (hk : k < 2 ^ 31) : ((36 : Int32) < nI k) = (36 < k) := propext (nI_ltI (a := 36) (by decide) hk)
theorem q36_ge {k : Nat} (hk : k < 2 ^ 31) : (nI k ≤ (36 : Int32)) = (k ≤ 36) := propext (nI_leI (b := 36) hk (by decide))
theorem q36_gt {k : Nat} (hk : k < 2 ^ 31) : (nI k < (36 : Int32)) = (k < 36) := propext (nI_ltI (b := 36) hk (by decide))
theorem q36_eq {k : Nat} (hk : k < 2 ^ 31) : (nI k = (36 : Int32)) = (k = 36) := propext (nI_eq (b := 36) hk (by decide))
theorem q36_mul {k : Nat} : (36 : Int32) * nI k = nI (36 * k) := (nI_mul 36 k)
theorem q36_add {k : Nat} : nI k + (36 : Int32) = nI (k + 36) := nI_add k 36
theorem q36_adl {k : Nat} : (36 : Int32) + nI k = nI (36 + k) := nI_add 36 k
theorem q36_cl : (36 : Int32).toNatClampNeg = 36 := nI_clamp (n := 36) (by decide)
theorem q36_ti : (nI 36).toInt = 36 := nI_toInt (n := 36) (by decide)
theorem q36_tj : (36 : Int32).toInt = 36 := nI_toInt (n := 36) (by decide)
theorem q36_pos : ((36 : Int32) < 0) = False := eq_false (nI_pos (n := 36) (by decide))
theorem q37_le {k : Nat} (hk : k < 2 ^ 31) : ((37 : Int32) ≤ nI k) = (37 ≤ k) := propext (nI_leI (a := 37) (by decide) hk)
theorem q37_lt {k : Nat} (hk : k < 2 ^ 31) : ((37 : Int32) < nI k) = (37 < k) := propext (nI_ltI (a := 37) (by decide) hk)
theorem q37_ge {k : Nat} (hk : k < 2 ^ 31) : (nI k ≤ (37 : Int32)) = (k ≤ 37) := propext (nI_leI (b := 37) hk (by decide))
theorem q37_gt {k : Nat} (hk : k < 2 ^ 31) : (nI k < (37 : Int32)) = (k < 37) := propext (nI_ltI (b := 37) hk (by decide))
theorem q37_eq {k : Nat} (hk : k < 2 ^ 31) : (nI k = (37 : Int32)) = (k = 37) := propext (nI_eq (b := 37) hk (by decide))
theorem q37_mul {k : Nat} : (37 : Int32) * nI k = nI (37 * k) := (nI_mul 37 k)
theorem q37_add {k : Nat} : nI k + (37 : Int32) = nI (k + 37) := nI_add k 37
theorem q37_adl {k : Nat} : (37 : Int32) + nI k = nI (37 + k) := nI_add 37 k
theorem q37_cl : (37 : Int32).toNatClampNeg = 37 := nI_clamp (n := 37) (by decide)
theorem q37_ti : (nI 37).toInt = 37 := nI_toInt (n := 37) (by decide)
theorem q37_tj : (37 : Int32).toInt = 37 := nI_toInt (n := 37) (by decide)
theorem q37_pos : ((37 : Int32) < 0) = False := eq_false (nI_pos (n := 37) (by decide))
theorem q38_le {k : Nat} (hk : k < 2 ^ 31) : ((38 : Int32) ≤ nI k) = (38 ≤ k) := propext (nI_leI (a := 38) (by decide) hk)
theorem q38_lt {k : Nat} (hk : k < 2 ^ 31) : ((38 : Int32) < nI k) = (38 < k) := propext (nI_ltI (a := 38) (by decide) hk)
theorem q38_ge {k : Nat} (hk : k < 2 ^ 31) : (nI k ≤ (38 : Int32)) = (k ≤ 38) := propext (nI_leI (b := 38) hk (by decide))
theorem q38_gt {k : Nat} (hk : k < 2 ^ 31) : (nI k < (38 : Int32)) = (k < 38) := propext (nI_ltI (b := 38) hk (by decide))
theorem q38_eq {k : Nat} (hk : k < 2 ^ 31) : (nI k = (38 : Int32)) = (k = 38) := propext (nI_eq (b := 38) hk (by decide))
theorem q38_mul {k : Nat} : (38 : Int32) * nI k = nI (38 * k) := (nI_mul 38 k)
theorem q38_add {k : Nat} : nI k + (38 : Int32) = nI (k + 38) := nI_add k 38
theorem q38_adl {k : Nat} : (38 : Int32) + nI k = nI (38 + k) := nI_add 38 k
theorem q38_cl : (38 : Int32).toNatClampNeg = 38 := nI_clamp (n := 38) (by decide)
theorem q38_ti : (nI 38).toInt = 38 := nI_toInt (n := 38) (by decide)
theorem q38_tj : (38 : Int32).toInt = 38 := nI_toInt (n := 38) (by decide)
theorem q38_pos : ((38 : Int32) < 0) = False := eq_false (nI_pos (n := 38) (by decide))
theorem q39_le {k : Nat} (hk : k < 2 ^ 31) : ((39 : Int32) ≤ nI k) = (39 ≤ k) := propext (nI_leI (a := 39) (by decide) hk)
theorem q39_lt {k : Nat} (hk : k < 2 ^ 31) : ((39 : Int32) < nI k) = (39 < k) := propext (nI_ltI (a := 39) (by decide) hk)
theorem q39_ge {k : Nat} (hk : k < 2 ^ 31) : (nI k ≤ (39 : Int32)) = (k ≤ 39) := propext (nI_leI (b := 39) hk (by decide))
theorem q39_gt {k : Nat} (hk : k < 2 ^ 31) : (nI k < (39 : Int32)) = (k < 39) := propext (nI_ltI (b := 39) hk (by decide))
theorem q39_eq {k : Nat} (hk : k < 2 ^ 31) : (nI k = (39 : Int32)) = (k = 39) := propext (nI_eq (b := 39) hk (by decide))
theorem q39_mul {k : Nat} : (39 : Int32) * nI k = nI (39 * k) := (nI_mul 39 k)
theorem q39_add {k : Nat} : nI k + (39 : Int32) = nI (k + 39) := nI_add k 39
theorem q39_adl {k : Nat} : (39 : Int32) + nI k = nI (39 + k) := nI_add 39 k
theorem q39_cl : (39 : Int32).toNatClampNeg = 39 := nI_clamp (n := 39) (by decide)
theorem q39_ti : (nI 39).toInt = 39 := nI_toInt (n := 39) (by decide)
theorem q39_tj : (39 : Int32).toInt = 39 := nI_toInt (n := 39) (by decide)
theorem q39_pos : ((39 : Int32) < 0) = False := eq_false (nI_pos (n := 39) (by decide))
theorem q40_le {k : Nat} (hk : k < 2 ^ 31) : ((40 : Int32) ≤ nI k) = (40 ≤ k) := propext (nI_leI (a := 40) (by decide) hk)
theorem q40_lt {k : Nat} (hk : k < 2 ^ 31) : ((40 : Int32) < nI k) = (40 < k) := propext (nI_ltI (a := 40) (by decide) hk)
theorem q40_ge {k : Nat} (hk : k < 2 ^ 31) : (nI k ≤ (40 : Int32)) = (k ≤ 40) := propext (nI_leI (b := 40) hk (by decide))
theorem q40_gt {k : Nat} (hk : k < 2 ^ 31) : (nI k < (40 : Int32)) = (k < 40) := propext (nI_ltI (b := 40) hk (by decide))
theorem q40_eq {k : Nat} (hk : k < 2 ^ 31) : (nI k = (40 : Int32)) = (k = 40) := propext (nI_eq (b := 40) hk (by decide))
theorem q40_mul {k : Nat} : (40 : Int32) * nI k = nI (40 * k) := (nI_mul 40 k)
theorem q40_add {k : Nat} : nI k + (40 : Int32) = nI (k + 40) := nI_add k 40
theorem q40_adl {k : Nat} : (40 : Int32) + nI k = nI (40 + k) := nI_add 40 k
theorem q40_cl : (40 : Int32).toNatClampNeg = 40 := nI_clamp (n := 40) (by decide)
theorem q40_ti : (nI 40).toInt = 40 := nI_toInt (n := 40) (by decide)
theorem q40_tj : (40 : Int32).toInt = 40 := nI_toInt (n := 40) (by decide)
theorem q40_pos : ((40 : Int32) < 0) = False := eq_false (nI_pos (n := 40) (by decide))
theorem q41_le {k : Nat} (hk : k < 2 ^ 31) : ((41 : Int32) ≤ nI k) = (41 ≤ k) := propext (nI_leI (a := 41) (by decide) hk)
theorem q41_lt {k : Nat} (hk : k < 2 ^ 31) : ((41 : Int32) < nI k) = (41 < k) := propext (nI_ltI (a := 41) (by decide) hk)
theorem q41_ge {k : Nat} (hk : k < 2 ^ 31) : (nI k ≤ (41 : Int32)) = (k ≤ 41) := propext (nI_leI (b := 41) hk (by decide))
theorem q41_gt {k : Nat} (hk : k < 2 ^ 31) : (nI k < (41 : Int32)) = (k < 41) := propext (nI_ltI (b := 41) hk (by decide))
theorem q41_eq {k : Nat} (hk : k < 2 ^ 31) : (nI k = (41 : Int32)) = (k = 41) := propext (nI_eq (b := 41) hk (by decide))
theorem q41_mul {k : Nat} : (41 : Int32) * nI k = nI (41 * k) := (nI_mul 41 k)
theorem q41_add {k : Nat} : nI k + (41 : Int32) = nI (k + 41) := nI_add k 41
theorem q41_adl {k : Nat} : (41 : Int32) + nI k = nI (41 + k) := nI_add 41 k
theorem q41_cl : (41 : Int32).toNatClampNeg = 41 := nI_clamp (n := 41) (by decide)
theorem q41_ti : (nI 41).toInt = 41 := nI_toInt (n := 41) (by decide)
theorem q41_tj : (41 : Int32).toInt = 41 := nI_toInt (n := 41) (by decide)
theorem q41_pos : ((41 : Int32) < 0) = False := eq_false (nI_pos (n := 41) (by decide))
theorem q42_le {k : Nat} (hk : k < 2 ^ 31) : ((42 : Int32) ≤ nI k) = (42 ≤ k) := propext (nI_leI (a := 42) (by decide) hk)
theorem q42_lt {k : Nat} (hk : k < 2 ^ 31) : ((42 : Int32) < nI k) = (42 < k) := propext (nI_ltI (a := 42) (by decide) hk)
theorem q42_ge {k : Nat} (hk : k < 2 ^ 31) : (nI k ≤ (42 : Int32)) = (k ≤ 42) := propext (nI_leI (b := 42) hk (by decide))
theorem q42_gt {k : Nat} (hk : k < 2 ^ 31) : (nI k < (42 : Int32)) = (k < 42) := propext (nI_ltI (b := 42) hk (by decide))
theorem q42_eq {k : Nat} (hk : k < 2 ^ 31) : (nI k = (42 : Int32)) = (k = 42) := propext (nI_eq (b := 42) hk (by decide))
theorem q42_mul {k : Nat} : (42 : Int32) * nI k = nI (42 * k) := (nI_mul 42 k)
theorem q42_add {k : Nat} : nI k + (42 : Int32) = nI (k + 42) := nI_add k 42
theorem q42_adl {k : Nat} : (42 : Int32) + nI k = nI (42 + k) := nI_add 42 k
theorem q42_cl : (42 : Int32).toNatClampNeg = 42 := nI_clamp (n := 42) (by decide)
theorem q42_ti : (nI 42).toInt = 42 := nI_toInt (n := 42) (by decide)
theorem q42_tj : (42 : Int32).toInt = 42 := nI_toInt (n := 42) (by decide)
theorem q42_pos : ((42 : Int32) < 0) = False := eq_false (nI_pos (n := 42) (by decide))
theorem q43_le {k : Nat} (hk : k < 2 ^ 31) : ((43 : Int32) ≤ nI k) = (43 ≤ k) := propext (nI_leI (a := 43) (by decide) hk)
theorem q43_lt {k : Nat} (hk : k < 2 ^ 31) : ((43 : Int32) < nI k) = (43 < k) := propext (nI_ltI (a := 43) (by decide) hk)
theorem q43_ge {k : Nat} (hk : k < 2 ^ 31) : (nI k ≤ (43 : Int32)) = (k ≤ 43) := propext (nI_leI (b := 43) hk (by decide))
theorem q43_gt {k : Nat} (hk : k < 2 ^ 31) : (nI k < (43 : Int32)) = (k < 43) := propext (nI_ltI (b := 43) hk (by decide))
theorem q43_eq {k : Nat} (hk : k < 2 ^ 31) : (nI k = (43 : Int32)) = (k = 43) := propext (nI_eq (b := 43) hk (by decide))
theorem q43_mul {k : Nat} : (43 : Int32) * nI k = nI (43 * k) := (nI_mul 43 k)
theorem q43_add {k : Nat} : nI k + (43 : Int32) = nI (k + 43) := nI_add k 43
theorem q43_adl {k : Nat} : (43 : Int32) + nI k = nI (43 + k) := nI_add 43 k
theorem q43_cl : (43 : Int32).toNatClampNeg = 43 := nI_clamp (n := 43) (by decide)
theorem q43_ti : (nI 43).toInt = 43 := nI_toInt (n := 43) (by decide)
theorem q43_tj : (43 : Int32).toInt = 43 := nI_toInt (n := 43) (by decide)
theorem q43_pos : ((43 : Int32) < 0) = False := eq_false (nI_pos (n := 43) (by decide))
theorem q44_le {k : Nat} (hk : k < 2 ^ 31) : ((44 : Int32) ≤ nI k) = (44 ≤ k) := propext (nI_leI (a := 44) (by decide) hk)
theorem q44_lt {k : Nat} (hk : k < 2 ^ 31) : ((44 : Int32) < nI k) = (44 < k) := propext (nI_ltI (a := 44) (by decide) hk)
theorem q44_ge {k : Nat} (hk : k < 2 ^ 31) : (nI k ≤ (44 : Int32)) = (k ≤ 44) := propext (nI_leI (b := 44) hk (by decide))
theorem q44_gt {k : Nat} (hk : k < 2 ^ 31) : (nI k < (44 : Int32)) = (k < 44) := propext (nI_ltI (b := 44) hk (by decide))
theorem q44_eq {k : Nat} (hk : k < 2 ^ 31) : (nI k = (44 : Int32)) = (k = 44) := propext (nI_eq (b := 44) hk (by decide))
theorem q44_mul {k : Nat} : (44 : Int32) * nI k = nI (44 * k) := (nI_mul 44 k)
theorem q44_add {k : Nat} : nI k + (44 : Int32) = nI (k + 44) := nI_add k 44
theorem q44_adl {k : Nat} : (44 : Int32) + nI k = nI (44 + k) := nI_add 44 k
theorem q44_cl : (44 : Int32).toNatClampNeg = 44 := nI_clamp (n := 44) (by decide)
theorem q44_ti : (nI 44).toInt = 44 := nI_toInt (n := 44) (by decide)
theorem q44_tj : (44 : Int32).toInt = 44 := nI_toInt (n := 44) (by decide)
theorem q44_pos : ((44 : Int32) < 0) = False := eq_false (nI_pos (n := 44) (by decide))
theorem q45_le {k : Nat} (hk : k < 2 ^ 31) : ((45 : Int32) ≤ nI k) = (45 ≤ k) := propext (nI_leI (a := 45) (by decide) hk)
theorem q45_lt {k : Nat} (hk : k < 2 ^ 31) : ((45 : Int32) < nI k) = (45 < k) := propext (nI_ltI (a := 45) (by decide) hk)
theorem q45_ge {k : Nat} (hk : k < 2 ^ 31) : (nI k ≤ (45 : Int32)) = (k ≤ 45) := propext (nI_leI (b := 45) hk (by decide))
theorem q45_gt {k : Nat} (hk : k < 2 ^ 31) : (nI k < (45 : Int32)) = (k < 45) := propext (nI_ltI (b := 45) hk (by decide))
theorem q45_eq {k : Nat} (hk : k < 2 ^ 31) : (nI k = (45 : Int32)) = (k = 45) := propext (nI_eq (b := 45) hk (by decide))
theorem q45_mul {k : Nat} : (45 : Int32) * nI k = nI (45 * k) := (nI_mul 45 k)
theorem q45_add {k : Nat} : nI k + (45 : Int32) = nI (k + 45) := nI_add k 45
theorem q45_adl {k : Nat} : (45 : Int32) + nI k = nI (45 + k) := nI_add 45 k
theorem q45_cl : (45 : Int32).toNatClampNeg = 45 := nI_clamp (n := 45) (by decide)
theorem q45_ti : (nI 45).toInt = 45 := nI_toInt (n := 45) (by decide)
theorem q45_tj : (45 : Int32).toInt = 45 := nI_toInt (n := 45) (by decide)
theorem q45_pos : ((45 : Int32) < 0) = False := eq_false (nI_pos (n := 45) (by decide))
theorem q46_le {k : Nat} (hk : k < 2 ^ 31) : ((46 : Int32) ≤ nI k) = (46 ≤ k) := propext (nI_leI (a := 46) (by decide) hk)
theorem q46_lt {k : Nat} (hk : k < 2 ^ 31) : ((46 : Int32) < nI k) = (46 < k) := propext (nI_ltI (a := 46) (by decide) hk)
theorem q46_ge {k : Nat} (hk : k < 2 ^ 31) : (nI k ≤ (46 : Int32)) = (k ≤ 46) := propext (nI_leI (b := 46) hk (by decide))
theorem q46_gt {k : Nat} (hk : k < 2 ^ 31) : (nI k < (46 : Int32)) = (k < 46) := propext (nI_ltI (b := 46) hk (by decide))
theorem q46_eq {k : Nat} (hk : k < 2 ^ 31) : (nI k = (46 : Int32)) = (k = 46) := propext (nI_eq (b := 46) hk (by decide))
theorem q46_mul {k : Nat} : (46 : Int32) * nI k = nI (46 * k) := (nI_mul 46 k)
theorem q46_add {k : Nat} : nI k + (46 : Int32) = nI (k + 46) := nI_add k 46
theorem q46_adl {k : Nat} : (46 : Int32) + nI k = nI (46 + k) := nI_add 46 k
theorem q46_cl : (46 : Int32).toNatClampNeg = 46 := nI_clamp (n := 46) (by decide)
theorem q46_ti : (nI 46).toInt = 46 := nI_toInt (n := 46) (by decide)
theorem q46_tj : (46 : Int32).toInt = 46 := nI_toInt (n := 46) (by decide)
theorem q46_pos : ((46 : Int32) < 0) = False := eq_false (nI_pos (n := 46) (by decide))
theorem q47_le {k : Nat} (hk : k < 2 ^ 31) : ((47 : Int32) ≤ nI k) = (47 ≤ k) := propext (nI_leI (a := 47) (by decide) hk)
theorem q47_lt {k : Nat} (hk : k < 2 ^ 31) : ((47 : Int32) < nI k) = (47 < k) := propext (nI_ltI (a := 47) (by decide) hk)
theorem q47_ge {k : Nat} (hk : k < 2 ^ 31) : (nI k ≤ (47 : Int32)) = (k ≤ 47) := propext (nI_leI (b := 47) hk (by decide))
theorem q47_gt {k : Nat} (hk : k < 2 ^ 31) : (nI k < (47 : Int32)) = (k < 47) := propext (nI_ltI (b := 47) hk (by decide))
theorem q47_eq {k : Nat} (hk : k < 2 ^ 31) : (nI k = (47 : Int32)) = (k = 47) := propext (nI_eq (b := 47) hk (by decide))
theorem q47_mul {k : Nat} : (47 : Int32) * nI k = nI (47 * k) := (nI_mul 47 k)
theorem q47_add {k : Nat} : nI k + (47 : Int32) = nI (k + 47) := nI_add k 47
theorem q47_adl {k : Nat} : (47 : Int32) + nI k = nI (47 + k) := nI_add 47 k
theorem q47_cl : (47 : Int32).toNatClampNeg = 47 := nI_clamp (n := 47) (by decide)
theorem q47_ti : (nI 47).toInt = 47 := nI_toInt (n := 47) (by decide)
theorem q47_tj : (47 : Int32).toInt = 47 := nI_toInt (n := 47) (by decide)
theorem q47_pos : ((47 : Int32) < 0) = False := eq_false (nI_pos (n := 47) (by decide))
theorem q48_le {k : Nat} (hk : k < 2 ^ 31) : ((48 : Int32) ≤ nI k) = (48 ≤ k) := propext (nI_leI (a := 48) (by decide) hk)
theorem q48_lt {k : Nat} (hk : k < 2 ^ 31) : ((48 : Int32) < nI k) = (48 < k) := propext (nI_ltI (a := 48) (by decide) hk)
theorem q48_ge {k : Nat} (hk : k < 2 ^ 31) : (nI k ≤ (48 : Int32)) = (k ≤ 48) := propext (nI_leI (b := 48) hk (by decide))
theorem q48_gt {k : Nat} (hk : k < 2 ^ 31) : (nI k < (48 : Int32)) = (k < 48) := propext (nI_ltI (b := 48) hk (by decide))
theorem q48_eq {k : Nat} (hk : k < 2 ^ 31) : (nI k = (48 : Int32)) = (k = 48) := propext (nI_eq (b := 48) hk (by decide))
theorem q48_mul {k : Nat} : (48 : Int32) * nI k = nI (48 * k) := (nI_mul 48 k)
theorem q48_add {k : Nat} : nI k + (48 : Int32) = nI (k + 48) := nI_add k 48
theorem q48_adl {k : Nat} : (48 : Int32) + nI k = nI (48 + k) := nI_add 48 k
theorem q48_cl : (48 : Int32).toNatClampNeg = 48 := nI_clamp (n := 48) (by decide)
theorem q48_ti : (nI 48).toInt = 48 := nI_toInt (n := 48) (by decide)
theorem q48_tj : (48 : Int32).toInt = 48 := nI_toInt (n := 48) (by decide)
theorem q48_pos : ((48 : Int32) < 0) = False := eq_false (nI_pos (n := 48) (by decide))
theorem q49_le {k : Nat} (hk : k < 2 ^ 31) : ((49 : Int32) ≤ nI k) = (49 ≤ k) := propext (nI_leI (a := 49) (by decide) hk)
theorem q49_lt {k : Nat} (hk : k < 2 ^ 31) : ((49 : Int32) < nI k) = (49 < k) := propext (nI_ltI (a := 49) (by decide) hk)
theorem q49_ge {k : Nat} (hk : k < 2 ^ 31) : (nI k ≤ (49 : Int32)) = (k ≤ 49) := propext (nI_leI (b := 49) hk (by decide))
theorem q49_gt {k : Nat} (hk : k < 2 ^ 31) : (nI k < (49 : Int32)) = (k < 49) := propext (nI_ltI (b := 49) hk (by decide))
theorem q49_eq {k : Nat} (hk : k < 2 ^ 31) : (nI k = (49 : Int32)) = (k = 49) := propext (nI_eq (b := 49) hk (by decide))
theorem q49_mul {k : Nat} : (49 : Int32) * nI k = nI (49 * k) := (nI_mul 49 k)
theorem q49_add {k : Nat} : nI k + (49 : Int32) = nI (k + 49) := nI_add k 49
theorem q49_adl {k : Nat} : (49 : Int32) + nI k = nI (49 + k) := nI_add 49 k
theorem q49_cl : (49 : Int32).toNatClampNeg = 49 := nI_clamp (n := 49) (by decide)
theorem q49_ti : (nI 49).toInt = 49 := nI_toInt (n := 49) (by decide)
theorem q49_tj : (49 : Int32).toInt = 49 := nI_toInt (n := 49) (by decide)
theorem q49_pos : ((49 : Int32) < 0) = False := eq_false (nI_pos (n := 49) (by decide))
theorem q50_le {k : Nat} (hk : k < 2 ^ 31) : ((50 : Int32) ≤ nI k) = (50 ≤ k) := propext (nI_leI (a := 50) (by decide) hk)
theorem q50_lt {k : Nat} (hk : k < 2 ^ 31) : ((50 : Int32) < nI k) = (50 < k) := propext (nI_ltI (a := 50) (by decide) hk)
theorem q50_ge {k : Nat} (hk : k < 2 ^ 31) : (nI k ≤ (50 : Int32)) = (k ≤ 50) := propext (nI_leI (b := 50) hk (by decide))
theorem q50_gt {k : Nat} (hk : k < 2 ^ 31) : (nI k < (50 : Int32)) = (k < 50) := propext (nI_ltI (b := 50) hk (by decide))
theorem q50_eq {k : Nat} (hk : k < 2 ^ 31) : (nI k = (50 : Int32)) = (k = 50) := propext (nI_eq (b := 50) hk (by decide))
theorem q50_mul {k : Nat} : (50 : Int32) * nI k = nI (50 * k) := (nI_mul 50 k)
theorem q50_add {k : Nat} : nI k + (50 : Int32) = nI (k + 50) := nI_add k 50
theorem q50_adl {k : Nat} : (50 : Int32) + nI k = nI (50 + k) := nI_add 50 k
theorem q50_cl : (50 : Int32).toNatClampNeg = 50 := nI_clamp (n := 50) (by decide)
theorem q50_ti : (nI 50).toInt = 50 := nI_toInt (n := 50) (by decide)
theorem q50_tj : (50 : Int32).toInt = 50 := nI_toInt (n := 50) (by decide)
theorem q50_pos : ((50 : Int32) < 0) = False := eq_false (nI_pos (n := 50) (by decide))
theorem q57_le {k : Nat} (hk : k < 2 ^ 31) : ((57 : Int32) ≤ nI k) = (57 ≤ k) := propext (nI_leI (a := 57) (by decide) hk)
theorem q57_lt {k : Nat} (hk : k < 2 ^ 31) : ((57 : Int32) < nI k) = (57 < k) := propext (nI_ltI (a := 57) (by decide) hk)
theorem q57_ge {k : Nat} (hk : k < 2 ^ 31) : (nI k ≤ (57 : Int32)) = (k ≤ 57) := propext (nI_leI (b := 57) hk (by decide))
theorem q57_gt {k : Nat} (hk : k < 2 ^ 31) : (nI k < (57 : Int32)) = (k < 57) := propext (nI_ltI (b := 57) hk (by decide))
theorem q57_eq {k : Nat} (hk : k < 2 ^ 31) : (nI k = (57 : Int32)) = (k = 57) := propext (nI_eq (b := 57) hk (by decide))
theorem q57_mul {k : Nat} : (57 : Int32) * nI k = nI (57 * k) := (nI_mul 57 k)
theorem q57_add {k : Nat} : nI k + (57 : Int32) = nI (k + 57) := nI_add k 57
theorem q57_adl {k : Nat} : (57 : Int32) + nI k = nI (57 + k) := nI_add 57 k
theorem q57_cl : (57 : Int32).toNatClampNeg = 57 := nI_clamp (n := 57) (by decide)
theorem q57_ti : (nI 57).toInt = 57 := nI_toInt (n := 57) (by decide)
theorem q57_tj : (57 : Int32).toInt = 57 := nI_toInt (n := 57) (by decide)
theorem q57_pos : ((57 : Int32) < 0) = False := eq_false (nI_pos (n := 57) (by decide))
theorem q59_le {k : Nat} (hk : k < 2 ^ 31) : ((59 : Int32) ≤ nI k) = (59 ≤ k) := propext (nI_leI (a := 59) (by decide) hk)
theorem q59_lt {k : Nat} (hk : k < 2 ^ 31) : ((59 : Int32) < nI k) = (59 < k) := propext (nI_ltI (a := 59) (by decide) hk)
theorem q59_ge {k : Nat} (hk : k < 2 ^ 31) : (nI k ≤ (59 : Int32)) = (k ≤ 59) := propext (nI_leI (b := 59) hk (by decide))
theorem q59_gt {k : Nat} (hk : k < 2 ^ 31) : (nI k < (59 : Int32)) = (k < 59) := propext (nI_ltI (b := 59) hk (by decide))
theorem q59_eq {k : Nat} (hk : k < 2 ^ 31) : (nI k = (59 : Int32)) = (k = 59) := propext (nI_eq (b := 59) hk (by decide))
theorem q59_mul {k : Nat} : (59 : Int32) * nI k = nI (59 * k) := (nI_mul 59 k)
theorem q59_add {k : Nat} : nI k + (59 : Int32) = nI (k + 59) := nI_add k 59
theorem q59_adl {k : Nat} : (59 : Int32) + nI k = nI (59 + k) := nI_add 59 k
theorem q59_cl : (59 : Int32).toNatClampNeg = 59 := nI_clamp (n := 59) (by decide)
theorem q59_ti : (nI 59).toInt = 59 := nI_toInt (n := 59) (by decide)
theorem q59_tj : (59 : Int32).toInt = 59 := nI_toInt (n := 59) (by decide)
theorem q59_pos : ((59 : Int32) < 0) = False := eq_false (nI_pos (n := 59) (by decide))
theorem q60_le {k : Nat} (hk : k < 2 ^ 31) : ((60 : Int32) ≤ nI k) = (60 ≤ k) := propext (nI_leI (a := 60) (by decide) hk)
theorem q60_lt {k : Nat} (hk : k < 2 ^ 31) : ((60 : Int32) < nI k) = (60 < k) := propext (nI_ltI (a := 60) (by decide) hk)
theorem q60_ge {k : Nat} (hk : k < 2 ^ 31) : (nI k ≤ (60 : Int32)) = (k ≤ 60) := propext (nI_leI (b := 60) hk (by decide))
theorem q60_gt {k : Nat} (hk : k < 2 ^ 31) : (nI k < (60 : Int32)) = (k < 60) := propext (nI_ltI (b := 60) hk (by decide))
theorem q60_eq {k : Nat} (hk : k < 2 ^ 31) : (nI k = (60 : Int32)) = (k = 60) := propext (nI_eq (b := 60) hk (by decide))
theorem q60_mul {k : Nat} : (60 : Int32) * nI k = nI (60 * k) := (nI_mul 60 k)
theorem q60_add {k : Nat} : nI k + (60 : Int32) = nI (k + 60) := nI_add k 60
theorem q60_adl {k : Nat} : (60 : Int32) + nI k = nI (60 + k) := nI_add 60 k
theorem q60_cl : (60 : Int32).toNatClampNeg = 60 := nI_clamp (n := 60) (by decide)
theorem q60_ti : (nI 60).toInt = 60 := nI_toInt (n := 60) (by decide)
theorem q60_tj : (60 : Int32).toInt = 60 := nI_toInt (n := 60) (by decide)
theorem q60_pos : ((60 : Int32) < 0) = False := eq_false (nI_pos (n := 60) (by decide))
theorem q61_le {k : Nat} (hk : k < 2 ^ 31) : ((61 : Int32) ≤ nI k) = (61 ≤ k) := propext (nI_leI (a := 61) (by decide) hk)
theorem q61_lt {k : Nat} (hk : k < 2 ^ 31) : ((61 : Int32) < nI k) = (61 < k) := propext (nI_ltI (a := 61) (by decide) hk)
theorem q61_ge {k : Nat} (hk : k < 2 ^ 31) : (nI k ≤ (61 : Int32)) = (k ≤ 61) := propext (nI_leI (b := 61) hk (by decide))
theorem q61_gt {k : Nat} (hk : k < 2 ^ 31) : (nI k < (61 : Int32)) = (k < 61) := propext (nI_ltI (b := 61) hk (by decide))
theorem q61_eq {k : Nat} (hk : k < 2 ^ 31) : (nI k = (61 : Int32)) = (k = 61) := propext (nI_eq (b := 61) hk (by decide))
theorem q61_mul {k : Nat} : (61 : Int32) * nI k = nI (61 * k) := (nI_mul 61 k)
theorem q61_add {k : Nat} : nI k + (61 : Int32) = nI (k + 61) := nI_add k 61
theorem q61_adl {k : Nat} : (61 : Int32) + nI k = nI (61 + k) := nI_add 61 k
theorem q61_cl : (61 : Int32).toNatClampNeg = 61 := nI_clamp (n := 61) (by decide)
theorem q61_ti : (nI 61).toInt = 61 := nI_toInt (n := 61) (by decide)
theorem q61_tj : (61 : Int32).toInt = 61 := nI_toInt (n := 61) (by decide)
theorem q61_pos : ((61 : Int32) < 0) = False := eq_false (nI_pos (n := 61) (by decide))
theorem q62_le {k : Nat} (hk : k < 2 ^ 31) : ((62 : Int32) ≤ nI k) = (62 ≤ k) := propext (nI_leI (a := 62) (by decide) hk)
theorem q62_lt {k : Nat} (hk : k < 2 ^ 31) : ((62 : Int32) < nI k) = (62 < k) := propext (nI_ltI (a := 62) (by decide) hk)
theorem q62_ge {k : Nat} (hk : k < 2 ^ 31) : (nI k ≤ (62 : Int32)) = (k ≤ 62) := propext (nI_leI (b := 62) hk (by decide))
theorem q62_gt {k : Nat} (hk : k < 2 ^ 31) : (nI k < (62 : Int32)) = (k < 62) := propext (nI_ltI (b := 62) hk (by decide))
theorem q62_eq {k : Nat} (hk : k < 2 ^ 31) : (nI k = (62 : Int32)) = (k = 62) := propext (nI_eq (b := 62) hk (by decide))
theorem q62_mul {k : Nat} : (62 : Int32) * nI k = nI (62 * k) := (nI_mul 62 k)
theorem q62_add {k : Nat} : nI k + (62 : Int32) = nI (k + 62) := nI_add k 62
theorem q62_adl {k : Nat} : (62 : Int32) + nI k = nI (62 + k) := nI_add 62 k
theorem q62_cl : (62 : Int32).toNatClampNeg = 62 := nI_clamp (n := 62) (by decide)
theorem q62_ti : (nI 62).toInt = 62 := nI_toInt (n := 62) (by decide)
theorem q62_tj : (62 : Int32).toInt = 62 := nI_toInt (n := 62) (by decide)
theorem q62_pos : ((62 : Int32) < 0) = False := eq_false (nI_pos (n := 62) (by decide))
theorem q63_le {k : Nat} (hk : k < 2 ^ 31) : ((63 : Int32) ≤ nI k) = (63 ≤ k) := propext (nI_leI (a := 63) (by decide) hk)
theorem q63_lt {k : Nat} (hk : k < 2 ^ 31) : ((63 : Int32) < nI k) = (63 < k) := propext (nI_ltI (a := 63) (by decide) hk)
theorem q63_ge {k : Nat} (hk : k < 2 ^ 31) : (nI k ≤ (63 : Int32)) = (k ≤ 63) := propext (nI_leI (b := 63) hk (by decide))
theorem q63_gt {k : Nat} (hk : k < 2 ^ 31) : (nI k < (63 : Int32)) = (k < 63) := propext (nI_ltI (b := 63) hk (by decide))
theorem q63_eq {k : Nat} (hk : k < 2 ^ 31) : (nI k = (63 : Int32)) = (k = 63) := propext (nI_eq (b := 63) hk (by decide))
theorem q63_mul {k : Nat} : (63 : Int32) * nI k = nI (63 * k) := (nI_mul 63 k)
theorem q63_add {k : Nat} : nI k + (63 : Int32) = nI (k + 63) := nI_add k 63
theorem q63_adl {k : Nat} : (63 : Int32) + nI k = nI (63 + k) := nI_add 63 k
theorem q63_cl : (63 : Int32).toNatClampNeg = 63 := nI_clamp (n := 63) (by decide)
theorem q63_ti : (nI 63).toInt = 63 := nI_toInt (n := 63) (by decide)
theorem q63_tj : (63 : Int32).toInt = 63 := nI_toInt (n := 63) (by decide)
theorem q63_pos : ((63 : Int32) < 0) = False := eq_false (nI_pos (n := 63) (by decide))
theorem q64_le {k : Nat} (hk : k < 2 ^ 31) : ((64 : Int32) ≤ nI k) = (64 ≤ k) := propext (nI_leI (a := 64) (by decide) hk)
theorem q64_lt {k : Nat} (hk : k < 2 ^ 31) : ((64 : Int32) < nI k) = (64 < k) := propext (nI_ltI (a := 64) (by decide) hk)
theorem q64_ge {k : Nat} (hk : k < 2 ^ 31) : (nI k ≤ (64 : Int32)) = (k ≤ 64) := propext (nI_leI (b := 64) hk (by decide))
theorem q64_gt {k : Nat} (hk : k < 2 ^ 31) : (nI k < (64 : Int32)) = (k < 64) := propext (nI_ltI (b := 64) hk (by decide))
theorem q64_eq {k : Nat} (hk : k < 2 ^ 31) : (nI k = (64 : Int32)) = (k = 64) := propext (nI_eq (b := 64) hk (by decide))
theorem q64_mul {k : Nat} : (64 : Int32) * nI k = nI (64 * k) := (nI_mul 64 k)
theorem q64_add {k : Nat} : nI k + (64 : Int32) = nI (k + 64) := nI_add k 64
theorem q64_adl {k : Nat} : (64 : Int32) + nI k = nI (64 + k) := nI_add 64 k
theorem q64_cl : (64 : Int32).toNatClampNeg = 64 := nI_clamp (n := 64) (by decide)
theorem q64_ti : (nI 64).toInt = 64 := nI_toInt (n := 64) (by decide)
theorem q64_tj : (64 : Int32).toInt = 64 := nI_toInt (n := 64) (by decide)
theorem q64_pos : ((64 : Int32) < 0) = False := eq_false (nI_pos (n := 64) (by decide))
theorem q65_le {k : Nat} (hk : k < 2 ^ 31) : ((65 : Int32) ≤ nI k) = (65 ≤ k) := propext (nI_leI (a := 65) (by decide) hk)
theorem q65_lt {k : Nat} (hk : k < 2 ^ 31) : ((65 : Int32) < nI k) = (65 < k) := propext (nI_ltI (a := 65) (by decide) hk)
theorem q65_ge {k : Nat} (hk : k < 2 ^ 31) : (nI k ≤ (65 : Int32)) = (k ≤ 65) := propext (nI_leI (b := 65) hk (by decide))
theorem q65_gt {k : Nat} (hk : k < 2 ^ 31) : (nI k < (65 : Int32)) = (k < 65) := propext (nI_ltI (b := 65) hk (by decide))
theorem q65_eq {k : Nat} (hk : k < 2 ^ 31) : (nI k = (65 : Int32)) = (k = 65) := propext (nI_eq (b := 65) hk (by decide))
theorem q65_mul {k : Nat} : (65 : Int32) * nI k = nI (65 * k) := (nI_mul 65 k)
theorem q65_add {k : Nat} : nI k + (65 : Int32) = nI (k + 65) := nI_add k 65
theorem q65_adl {k : Nat} : (65 : Int32) + nI k = nI (65 + k) := nI_add 65 k
theorem q65_cl : (65 : Int32).toNatClampNeg = 65 := nI_clamp (n := 65) (by decide)
theorem q65_ti : (nI 65).toInt = 65 := nI_toInt (n := 65) (by decide)
theorem q65_tj : (65 : Int32).toInt = 65 := nI_toInt (n := 65) (by decide)
theorem q65_pos : ((65 : Int32) < 0) = False := eq_false (nI_pos (n := 65) (by decide))
theorem q72_le {k : Nat} (hk : k < 2 ^ 31) : ((72 : Int32) ≤ nI k) = (72 ≤ k) := propext (nI_leI (a := 72) (by decide) hk)
theorem q72_lt {k : Nat} (hk : k < 2 ^ 31) : ((72 : Int32) < nI k) = (72 < k) := propext (nI_ltI (a := 72) (by decide) hk)
theorem q72_ge {k : Nat} (hk : k < 2 ^ 31) : (nI k ≤ (72 : Int32)) = (k ≤ 72) := propext (nI_leI (b := 72) hk (by decide))
theorem q72_gt {k : Nat} (hk : k < 2 ^ 31) : (nI k < (72 : Int32)) = (k < 72) := propext (nI_ltI (b := 72) hk (by decide))
theorem q72_eq {k : Nat} (hk : k < 2 ^ 31) : (nI k = (72 : Int32)) = (k = 72) := propext (nI_eq (b := 72) hk (by decide))
theorem q72_mul {k : Nat} : (72 : Int32) * nI k = nI (72 * k) := (nI_mul 72 k)
theorem q72_add {k : Nat} : nI k + (72 : Int32) = nI (k + 72) := nI_add k 72
theorem q72_adl {k : Nat} : (72 : Int32) + nI k = nI (72 + k) := nI_add 72 k
theorem q72_cl : (72 : Int32).toNatClampNeg = 72 := nI_clamp (n := 72) (by decide)
theorem q72_ti : (nI 72).toInt = 72 := nI_toInt (n := 72) (by decide)
theorem q72_tj : (72 : Int32).toInt = 72 := nI_toInt (n := 72) (by decide)
theorem q72_pos : ((72 : Int32) < 0) = False := eq_false (nI_pos (n := 72) (by decide))
theorem q81_le {k : Nat} (hk : k < 2 ^ 31) : ((81 : Int32) ≤ nI k) = (81 ≤ k) := propext (nI_leI (a := 81) (by decide) hk)
theorem q81_lt {k : Nat} (hk : k < 2 ^ 31) : ((81 : Int32) < nI k) = (81 < k) := propext (nI_ltI (a := 81) (by decide) hk)
theorem q81_ge {k : Nat} (hk : k < 2 ^ 31) : (nI k ≤ (81 : Int32)) = (k ≤ 81) := propext (nI_leI (b := 81) hk (by decide))
theorem q81_gt {k : Nat} (hk : k < 2 ^ 31) : (nI k < (81 : Int32)) = (k < 81) := propext (nI_ltI (b := 81) hk (by decide))
theorem q81_eq {k : Nat} (hk : k < 2 ^ 31) : (nI k = (81 : Int32)) = (k = 81) := propext (nI_eq (b := 81) hk (by decide))
theorem q81_mul {k : Nat} : (81 : Int32) * nI k = nI (81 * k) := (nI_mul 81 k)
theorem q81_add {k : Nat} : nI k + (81 : Int32) = nI (k + 81) := nI_add k 81
theorem q81_adl {k : Nat} : (81 : Int32) + nI k = nI (81 + k) := nI_add 81 k
theorem q81_cl : (81 : Int32).toNatClampNeg = 81 := nI_clamp (n := 81) (by decide)
theorem q81_ti : (nI 81).toInt = 81 := nI_toInt (n := 81) (by decide)
theorem q81_tj : (81 : Int32).toInt = 81 := nI_toInt (n := 81) (by decide)
theorem q81_pos : ((81 : Int32) < 0) = False := eq_false (nI_pos (n := 81) (by decide))
theorem q90_le {k : Nat} (hk : k < 2 ^ 31) : ((90 : Int32) ≤ nI k) = (90 ≤ k) := propext (nI_leI (a := 90) (by decide) hk)
theorem q90_lt {k : Nat} (hk : k < 2 ^ 31) : ((90 : Int32) < nI k) = (90 < k) := propext (nI_ltI (a := 90) (by decide) hk)
theorem q90_ge {k : Nat} (hk : k < 2 ^ 31) : (nI k ≤ (90 : Int32)) = (k ≤ 90) := propext (nI_leI (b := 90) hk (by decide))
theorem q90_gt {k : Nat} (hk : k < 2 ^ 31) : (nI k < (90 : Int32)) = (k < 90) := propext (nI_ltI (b := 90) hk (by decide))
theorem q90_eq {k : Nat} (hk : k < 2 ^ 31) : (nI k = (90 : Int32)) = (k = 90) := propext (nI_eq (b := 90) hk (by decide))
theorem q90_mul {k : Nat} : (90 : Int32) * nI k = nI (90 * k) := (nI_mul 90 k)
theorem q90_add {k : Nat} : nI k + (90 : Int32) = nI (k + 90) := nI_add k 90
theorem q90_adl {k : Nat} : (90 : Int32) + nI k = nI (90 + k) := nI_add 90 k
theorem q90_cl : (90 : Int32).toNatClampNeg = 90 := nI_clamp (n := 90) (by decide)
theorem q90_ti : (nI 90).toInt = 90 := nI_toInt (n := 90) (by decide)
theorem q90_tj : (90 : Int32).toInt = 90 := nI_toInt (n := 90) (by decide)
theorem q90_pos : ((90 : Int32) < 0) = False := eq_false (nI_pos (n := 90) (by decide))
theorem q95_le {k : Nat} (hk : k < 2 ^ 31) : ((95 : Int32) ≤ nI k) = (95 ≤ k) := propext (nI_leI (a := 95) (by decide) hk)
theorem q95_lt {k : Nat} (hk : k < 2 ^ 31) : ((95 : Int32) < nI k) = (95 < k) := propext (nI_ltI (a := 95) (by decide) hk)
theorem q95_ge {k : Nat} (hk : k < 2 ^ 31) : (nI k ≤ (95 : Int32)) = (k ≤ 95) := propext (nI_leI (b := 95) hk (by decide))
theorem q95_gt {k : Nat} (hk : k < 2 ^ 31) : (nI k < (95 : Int32)) = (k < 95) := propext (nI_ltI (b := 95) hk (by decide))
theorem q95_eq {k : Nat} (hk : k < 2 ^ 31) : (nI k = (95 : Int32)) = (k = 95) := propext (nI_eq (b := 95) hk (by decide))
theorem q95_mul {k : Nat} : (95 : Int32) * nI k = nI (95 * k) := (nI_mul 95 k)
theorem q95_add {k : Nat} : nI k + (95 : Int32) = nI (k + 95) := nI_add k 95
theorem q95_adl {k : Nat} : (95 : Int32) + nI k = nI (95 + k) := nI_add 95 k
theorem q95_cl : (95 : Int32).toNatClampNeg = 95 := nI_clamp (n := 95) (by decide)
theorem q95_ti : (nI 95).toInt = 95 := nI_toInt (n := 95) (by decide)
theorem q95_tj : (95 : Int32).toInt = 95 := nI_toInt (n := 95) (by decide)
theorem q95_pos : ((95 : Int32) < 0) = False := eq_false (nI_pos (n := 95) (by decide))
theorem q96_le {k : Nat} (hk : k < 2 ^ 31) : ((96 : Int32) ≤ nI k) = (96 ≤ k) := propext (nI_leI (a := 96) (by decide) hk)
theorem q96_lt {k : Nat} (hk : k < 2 ^ 31) : ((96 : Int32) < nI k) = (96 < k) := propext (nI_ltI (a := 96) (by decide) hk)
theorem q96_ge {k : Nat} (hk : k < 2 ^ 31) : (nI k ≤ (96 : Int32)) = (k ≤ 96) := propext (nI_leI (b := 96) hk (by decide))
theorem q96_gt {k : Nat} (hk : k < 2 ^ 31) : (nI k < (96 : Int32)) = (k < 96) := propext (nI_ltI (b := 96) hk (by decide))
theorem q96_eq {k : Nat} (hk : k < 2 ^ 31) : (nI k = (96 : Int32)) = (k = 96) := propext (nI_eq (b := 96) hk (by decide))
theorem q96_mul {k : Nat} : (96 : Int32) * nI k = nI (96 * k) := (nI_mul 96 k)
theorem q96_add {k : Nat} : nI k + (96 : Int32) = nI (k + 96) := nI_add k 96
theorem q96_adl {k : Nat} : (96 : Int32) + nI k = nI (96 + k) := nI_add 96 k
theorem q96_cl : (96 : Int32).toNatClampNeg = 96 := nI_clamp (n := 96) (by decide)
theorem q96_ti : (nI 96).toInt = 96 := nI_toInt (n := 96) (by decide)
theorem q96_tj : (96 : Int32).toInt = 96 := nI_toInt (n := 96) (by decide)
theorem q96_pos : ((96 : Int32) < 0) = False := eq_false (nI_pos (n := 96) (by decide))
theorem q97_le {k : Nat} (hk : k < 2 ^ 31) : ((97 : Int32) ≤ nI k) = (97 ≤ k) := propext (nI_leI (a := 97) (by decide) hk)
theorem q97_lt {k : Nat} (hk : k < 2 ^ 31) : ((97 : Int32) < nI k) = (97 < k) := propext (nI_ltI (a := 97) (by decide) hk)
theorem q97_ge {k : Nat} (hk : k < 2 ^ 31) : (nI k ≤ (97 : Int32)) = (k ≤ 97) := propext (nI_leI (b := 97) hk (by decide))
theorem q97_gt {k : Nat} (hk : k < 2 ^ 31) : (nI k < (97 : Int32)) = (k < 97) := propext (nI_ltI (b := 97) hk (by decide))
theorem q97_eq {k : Nat} (hk : k < 2 ^ 31) : (nI k = (97 : Int32)) = (k = 97) := propext (nI_eq (b := 97) hk (by decide))
theorem q97_mul {k : Nat} : (97 : Int32) * nI k = nI (97 * k) := (nI_mul 97 k)
theorem q97_add {k : Nat} : nI k + (97 : Int32) = nI (k + 97) := nI_add k 97
theorem q97_adl {k : Nat} : (97 : Int32) + nI k = nI (97 + k) := nI_add 97 k
theorem q97_cl : (97 : Int32).toNatClampNeg = 97 := nI_clamp (n := 97) (by decide)
theorem q97_ti : (nI 97).toInt = 97 := nI_toInt (n := 97) (by decide)
theorem q97_tj : (97 : Int32).toInt = 97 := nI_toInt (n := 97) (by decide)
theorem q97_pos : ((97 : Int32) < 0) = False := eq_false (nI_pos (n := 97) (by decide))
theorem q98_le {k : Nat} (hk : k < 2 ^ 31) : ((98 : Int32) ≤ nI k) = (98 ≤ k) := propext (nI_leI (a := 98) (by decide) hk)
theorem q98_lt {k : Nat} (hk : k < 2 ^ 31) : ((98 : Int32) < nI k) = (98 < k) := propext (nI_ltI (a := 98) (by decide) hk)
theorem q98_ge {k : Nat} (hk : k < 2 ^ 31) : (nI k ≤ (98 : Int32)) = (k ≤ 98) := propext (nI_leI (b := 98) hk (by decide))
theorem q98_gt {k : Nat} (hk : k < 2 ^ 31) : (nI k < (98 : Int32)) = (k < 98) := propext (nI_ltI (b := 98) hk (by decide))
theorem q98_eq {k : Nat} (hk : k < 2 ^ 31) : (nI k = (98 : Int32)) = (k = 98) := propext (nI_eq (b := 98) hk (by decide))
theorem q98_mul {k : Nat} : (98 : Int32) * nI k = nI (98 * k) := (nI_mul 98 k)
theorem q98_add {k : Nat} : nI k + (98 : Int32) = nI (k + 98) := nI_add k 98
theorem q98_adl {k : Nat} : (98 : Int32) + nI k = nI (98 + k) := nI_add 98 k
theorem q98_cl : (98 : Int32).toNatClampNeg = 98 := nI_clamp (n := 98) (by decide)
theorem q98_ti : (nI 98).toInt = 98 := nI_toInt (n := 98) (by decide)
theorem q98_tj : (98 : Int32).toInt = 98 := nI_toInt (n := 98) (by decide)
theorem q98_pos : ((98 : Int32) < 0) = False := eq_false (nI_pos (n := 98) (by decide))
theorem q99_le {k : Nat} (hk : k < 2 ^ 31) : ((99 : Int32) ≤ nI k) = (99 ≤ k) := propext (nI_leI (a := 99) (by decide) hk)
theorem q99_lt {k : Nat} (hk : k < 2 ^ 31) : ((99 : Int32) < nI k) = (99 < k) := propext (nI_ltI (a := 99) (by decide) hk)
theorem q99_ge {k : Nat} (hk : k < 2 ^ 31) : (nI k ≤ (99 : Int32)) = (k ≤ 99) := propext (nI_leI (b := 99) hk (by decide))
theorem q99_gt {k : Nat} (hk : k < 2 ^ 31) : (nI k < (99 : Int32)) = (k < 99) := propext (nI_ltI (b := 99) hk (by decide))
theorem q99_eq {k : Nat} (hk : k < 2 ^ 31) : (nI k = (99 : Int32)) = (k = 99) := propext (nI_eq (b := 99) hk (by decide))
theorem q99_mul {k : Nat} : (99 : Int32) * nI k = nI (99 * k) := (nI_mul 99 k)
theorem q99_add {k : Nat} : nI k + (99 : Int32) = nI (k + 99) := nI_add k 99
theorem q99_adl {k : Nat} : (99 : Int32) + nI k = nI (99 + k) := nI_add 99 k
theorem q99_cl : (99 : Int32).toNatClampNeg = 99 := nI_clamp (n := 99) (by decide)
theorem q99_ti : (nI 99).toInt = 99 := nI_toInt (n := 99) (by decide)
theorem q99_tj : (99 : Int32).toInt = 99 := nI_toInt (n := 99) (by decide)
theorem q99_pos : ((99 : Int32) < 0) = False := eq_false (nI_pos (n := 99) (by decide))
theorem q100_le {k : Nat} (hk : k < 2 ^ 31) : ((100 : Int32) ≤ nI k) = (100 ≤ k) := propext (nI_leI (a := 100) (by decide) hk)
theorem q100_lt {k : Nat} (hk : k < 2 ^ 31) : ((100 : Int32) < nI k) = (100 < k) := propext (nI_ltI (a := 100) (by decide) hk)
theorem q100_ge {k : Nat} (hk : k < 2 ^ 31) : (nI k ≤ (100 : Int32)) = (k ≤ 100) := propext (nI_leI (b := 100) hk (by decide))
theorem q100_gt {k : Nat} (hk : k < 2 ^ 31) : (nI k < (100 : Int32)) = (k < 100) := propext (nI_ltI (b := 100) hk (by decide))
theorem q100_eq {k : Nat} (hk : k < 2 ^ 31) : (nI k = (100 : Int32)) = (k = 100) := propext (nI_eq (b := 100) hk (by decide))
theorem q100_mul {k : Nat} : (100 : Int32) * nI k = nI (100 * k) := (nI_mul 100 k)
theorem q100_add {k : Nat} : nI k + (100 : Int32) = nI (k + 100) := nI_add k 100
theorem q100_adl {k : Nat} : (100 : Int32) + nI k = nI (100 + k) := nI_add 100 k
theorem q100_cl : (100 : Int32).toNatClampNeg = 100 := nI_clamp (n := 100) (by decide)
theorem q100_ti : (nI 100).toInt = 100 := nI_toInt (n := 100) (by decide)
theorem q100_tj : (100 : Int32).toInt = 100 := nI_toInt (n := 100) (by decide)
theorem q100_pos : ((100 : Int32) < 0) = False := eq_false (nI_pos (n := 100) (by decide))
theorem q122_le {k : Nat} (hk : k < 2 ^ 31) : ((122 : Int32) ≤ nI k) = (122 ≤ k) := propext (nI_leI (a := 122) (by decide) hk)
theorem q122_lt {k : Nat} (hk : k < 2 ^ 31) : ((122 : Int32) < nI k) = (122 < k) := propext (nI_ltI (a := 122) (by decide) hk)
theorem q122_ge {k : Nat} (hk : k < 2 ^ 31) : (nI k ≤ (122 : Int32)) = (k ≤ 122) := propext (nI_leI (b := 122) hk (by decide))
theorem q122_gt {k : Nat} (hk : k < 2 ^ 31) : (nI k < (122 : Int32)) = (k < 122) := propext (nI_ltI (b := 122) hk (by decide))
theorem q122_eq {k : Nat} (hk : k < 2 ^ 31) : (nI k = (122 : Int32)) = (k = 122) := propext (nI_eq (b := 122) hk (by decide))
theorem q122_mul {k : Nat} : (122 : Int32) * nI k = nI (122 * k) := (nI_mul 122 k)
theorem q122_add {k : Nat} : nI k + (122 : Int32) = nI (k + 122) := nI_add k 122
theorem q122_adl {k : Nat} : (122 : Int32) + nI k = nI (122 + k) := nI_add 122 k
theorem q122_cl : (122 : Int32).toNatClampNeg = 122 := nI_clamp (n := 122) (by decide)
theorem q122_ti : (nI 122).toInt = 122 := nI_toInt (n := 122) (by decide)
theorem q122_tj : (122 : Int32).toInt = 122 := nI_toInt (n := 122) (by decide)
theorem q122_pos : ((122 : Int32) < 0) = False := eq_false (nI_pos (n := 122) (by decide))
theorem q124_le {k : Nat} (hk : k < 2 ^ 31) : ((124 : Int32) ≤ nI k) = (124 ≤ k) := propext (nI_leI (a := 124) (by decide) hk)
theorem q124_lt {k : Nat} (hk : k < 2 ^ 31) : ((124 : Int32) < nI k) = (124 < k) := propext (nI_ltI (a := 124) (by decide) hk)
theorem q124_ge {k : Nat} (hk : k < 2 ^ 31) : (nI k ≤ (124 : Int32)) = (k ≤ 124) := propext (nI_leI (b := 124) hk (by decide))
theorem q124_gt {k : Nat} (hk : k < 2 ^ 31) : (nI k < (124 : Int32)) = (k < 124) := propext (nI_ltI (b := 124) hk (by decide))
theorem q124_eq {k : Nat} (hk : k < 2 ^ 31) : (nI k = (124 : Int32)) = (k = 124) := propext (nI_eq (b := 124) hk (by decide))
theorem q124_mul {k : Nat} : (124 : Int32) * nI k = nI (124 * k) := (nI_mul 124 k)
theorem q124_add {k : Nat} : nI k + (124 : Int32) = nI (k + 124) := nI_add k 124
theorem q124_adl {k : Nat} : (124 : Int32) + nI k = nI (124 + k) := nI_add 124 k
theorem q124_cl : (124 : Int32).toNatClampNeg = 124 := nI_clamp (n := 124) (by decide)
theorem q124_ti : (nI 124).toInt = 124 := nI_toInt (n := 124) (by decide)
theorem q124_tj : (124 : Int32).toInt = 124 := nI_toInt (n := 124) (by decide)
theorem q124_pos : ((124 : Int32) < 0) = False := eq_false (nI_pos (n := 124) (by decide))
theorem q128_le {k : Nat} (hk : k < 2 ^ 31) : ((128 : Int32) ≤ nI k) = (128 ≤ k) := propext (nI_leI (a := 128) (by decide) hk)
theorem q128_lt {k : Nat} (hk : k < 2 ^ 31) : ((128 : Int32) < nI k) = (128 < k) := propext (nI_ltI (a := 128) (by decide) hk)
theorem q128_ge {k : Nat} (hk : k < 2 ^ 31) : (nI k ≤ (128 : Int32)) = (k ≤ 128) := propext (nI_leI (b := 128) hk (by decide))
theorem q128_gt {k : Nat} (hk : k < 2 ^ 31) : (nI k < (128 : Int32)) = (k < 128) := propext (nI_ltI (b := 128) hk (by decide))
theorem q128_eq {k : Nat} (hk : k < 2 ^ 31) : (nI k = (128 : Int32)) = (k = 128) := propext (nI_eq (b := 128) hk (by decide))
theorem q128_mul {k : Nat} : (128 : Int32) * nI k = nI (128 * k) := (nI_mul 128 k)
theorem q128_add {k : Nat} : nI k + (128 : Int32) = nI (k + 128) := nI_add k 128
theorem q128_adl {k : Nat} : (128 : Int32) + nI k = nI (128 + k) := nI_add 128 k
theorem q128_cl : (128 : Int32).toNatClampNeg = 128 := nI_clamp (n := 128) (by decide)
theorem q128_ti : (nI 128).toInt = 128 := nI_toInt (n := 128) (by decide)
theorem q128_tj : (128 : Int32).toInt = 128 := nI_toInt (n := 128) (by decide)
theorem q128_pos : ((128 : Int32) < 0) = False := eq_false (nI_pos (n := 128) (by decide))
theorem q255_le {k : Nat} (hk : k < 2 ^ 31) : ((255 : Int32) ≤ nI k) = (255 ≤ k) := propext (nI_leI (a := 255) (by decide) hk)
theorem q255_lt {k : Nat} (hk : k < 2 ^ 31) : ((255 : Int32) < nI k) = (255 < k) := propext (nI_ltI (a := 255) (by decide) hk)
theorem q255_ge {k : Nat} (hk : k < 2 ^ 31) : (nI k ≤ (255 : Int32)) = (k ≤ 255) := propext (nI_leI (b := 255) hk (by decide))
theorem q255_gt {k : Nat} (hk : k < 2 ^ 31) : (nI k < (255 : Int32)) = (k < 255) := propext (nI_ltI (b := 255) hk (by decide))
theorem q255_eq {k : Nat} (hk : k < 2 ^ 31) : (nI k = (255 : Int32)) = (k = 255) := propext (nI_eq (b := 255) hk (by decide))
theorem q255_mul {k : Nat} : (255 : Int32) * nI k = nI (255 * k) := (nI_mul 255 k)
theorem q255_add {k : Nat} : nI k + (255 : Int32) = nI (k + 255) := nI_add k 255
theorem q255_adl {k : Nat} : (255 : Int32) + nI k = nI (255 + k) := nI_add 255 k
theorem q255_cl : (255 : Int32).toNatClampNeg = 255 := nI_clamp (n := 255) (by decide)
theorem q255_ti : (nI 255).toInt = 255 := nI_toInt (n := 255) (by decide)
theorem q255_tj : (255 : Int32).toInt = 255 := nI_toInt (n := 255) (by decide)
theorem q255_pos : ((255 : Int32) < 0) = False := eq_false (nI_pos (n := 255) (by decide))
theorem q418_le {k : Nat} (hk : k < 2 ^ 31) : ((418 : Int32) ≤ nI k) = (418 ≤ k) := propext (nI_leI (a := 418) (by decide) hk)
theorem q418_lt {k : Nat} (hk : k < 2 ^ 31) : ((418 : Int32) < nI k) = (418 < k) := propext (nI_ltI (a := 418) (by decide) hk)
theorem q418_ge {k : Nat} (hk : k < 2 ^ 31) : (nI k ≤ (418 : Int32)) = (k ≤ 418) := propext (nI_leI (b := 418) hk (by decide))
theorem q418_gt {k : Nat} (hk : k < 2 ^ 31) : (nI k < (418 : Int32)) = (k < 418) := propext (nI_ltI (b := 418) hk (by decide))
theorem q418_eq {k : Nat} (hk : k < 2 ^ 31) : (nI k = (418 : Int32)) = (k = 418) := propext (nI_eq (b := 418) hk (by decide))
theorem q418_mul {k : Nat} : (418 : Int32) * nI k = nI (418 * k) := (nI_mul 418 k)
theorem q418_add {k : Nat} : nI k + (418 : Int32) = nI (k + 418) := nI_add k 418
theorem q418_adl {k : Nat} : (418 : Int32) + nI k = nI (418 + k) := nI_add 418 k
theorem q418_cl : (418 : Int32).toNatClampNeg = 418 := nI_clamp (n := 418) (by decide)
theorem q418_ti : (nI 418).toInt = 418 := nI_toInt (n := 418) (by decide)
theorem q418_tj : (418 : Int32).toInt = 418 := nI_toInt (n := 418) (by decide)
theorem q418_pos : ((418 : Int32) < 0) = False := eq_false (nI_pos (n := 418) (by decide))
theorem q440_le {k : Nat} (hk : k < 2 ^ 31) : ((440 : Int32) ≤ nI k) = (440 ≤ k) := propext (nI_leI (a := 440) (by decide) hk)
theorem q440_lt {k : Nat} (hk : k < 2 ^ 31) : ((440 : Int32) < nI k) = (440 < k) := propext (nI_ltI (a := 440) (by decide) hk)
theorem q440_ge {k : Nat} (hk : k < 2 ^ 31) : (nI k ≤ (440 : Int32)) = (k ≤ 440) := propext (nI_leI (b := 440) hk (by decide))
theorem q440_gt {k : Nat} (hk : k < 2 ^ 31) : (nI k < (440 : Int32)) = (k < 440) := propext (nI_ltI (b := 440) hk (by decide))
theorem q440_eq {k : Nat} (hk : k < 2 ^ 31) : (nI k = (440 : Int32)) = (k = 440) := propext (nI_eq (b := 440) hk (by decide))
theorem q440_mul {k : Nat} : (440 : Int32) * nI k = nI (440 * k) := (nI_mul 440 k)
theorem q440_add {k : Nat} : nI k + (440 : Int32) = nI (k + 440) := nI_add k 440
theorem q440_adl {k : Nat} : (440 : Int32) + nI k = nI (440 + k) := nI_add 440 k
theorem q440_cl : (440 : Int32).toNatClampNeg = 440 := nI_clamp (n := 440) (by decide)
theorem q440_ti : (nI 440).toInt = 440 := nI_toInt (n := 440) (by decide)
theorem q440_tj : (440 : Int32).toInt = 440 := nI_toInt (n := 440) (by decide)
theorem q440_pos : ((440 : Int32) < 0) = False := eq_false (nI_pos (n := 440) (by decide))
theorem q680_le {k : Nat} (hk : k < 2 ^ 31) : ((680 : Int32) ≤ nI k) = (680 ≤ k) := propext (nI_leI (a := 680) (by decide) hk)
theorem q680_lt {k : Nat} (hk : k < 2 ^ 31) : ((680 : Int32) < nI k) = (680 < k) := propext (nI_ltI (a := 680) (by decide) hk)
theorem q680_ge {k : Nat} (hk : k < 2 ^ 31) : (nI k ≤ (680 : Int32)) = (k ≤ 680) := propext (nI_leI (b := 680) hk (by decide))
theorem q680_gt {k : Nat} (hk : k < 2 ^ 31) : (nI k < (680 : Int32)) = (k < 680) := propext (nI_ltI (b := 680) hk (by decide))
theorem q680_eq {k : Nat} (hk : k < 2 ^ 31) : (nI k = (680 : Int32)) = (k = 680) := propext (nI_eq (b := 680) hk (by decide))
theorem q680_mul {k : Nat} : (680 : Int32) * nI k = nI (680 * k) := (nI_mul 680 k)
theorem q680_add {k : Nat} : nI k + (680 : Int32) = nI (k + 680) := nI_add k 680
theorem q680_adl {k : Nat} : (680 : Int32) + nI k = nI (680 + k) := nI_add 680 k
theorem q680_cl : (680 : Int32).toNatClampNeg = 680 := nI_clamp (n := 680) (by decide)
theorem q680_ti : (nI 680).toInt = 680 := nI_toInt (n := 680) (by decide)
theorem q680_tj : (680 : Int32).toInt = 680 := nI_toInt (n := 680) (by decide)
theorem q680_pos : ((680 : Int32) < 0) = False := eq_false (nI_pos (n := 680) (by decide))
theorem q700_le {k : Nat} (hk : k < 2 ^ 31) : ((700 : Int32) ≤ nI k) = (700 ≤ k) := propext (nI_leI (a := 700) (by decide) hk)
theorem q700_lt {k : Nat} (hk : k < 2 ^ 31) : ((700 : Int32) < nI k) = (700 < k) := propext (nI_ltI (a := 700) (by decide) hk)
theorem q700_ge {k : Nat} (hk : k < 2 ^ 31) : (nI k ≤ (700 : Int32)) = (k ≤ 700) := propext (nI_leI (b := 700) hk (by decide))
theorem q700_gt {k : Nat} (hk : k < 2 ^ 31) : (nI k < (700 : Int32)) = (k < 700) := propext (nI_ltI (b := 700) hk (by decide))
theorem q700_eq {k : Nat} (hk : k < 2 ^ 31) : (nI k = (700 : Int32)) = (k = 700) := propext (nI_eq (b := 700) hk (by decide))
theorem q700_mul {k : Nat} : (700 : Int32) * nI k = nI (700 * k) := (nI_mul 700 k)
theorem q700_add {k : Nat} : nI k + (700 : Int32) = nI (k + 700) := nI_add k 700
theorem q700_adl {k : Nat} : (700 : Int32) + nI k = nI (700 + k) := nI_add 700 k
theorem q700_cl : (700 : Int32).toNatClampNeg = 700 := nI_clamp (n := 700) (by decide)
theorem q700_ti : (nI 700).toInt = 700 := nI_toInt (n := 700) (by decide)
theorem q700_tj : (700 : Int32).toInt = 700 := nI_toInt (n := 700) (by decide)
theorem q700_pos : ((700 : Int32) < 0) = False := eq_false (nI_pos (n := 700) (by decide))
theorem q999_le {k : Nat} (hk : k < 2 ^ 31) : ((999 : Int32) ≤ nI k) = (999 ≤ k) := propext (nI_leI (a := 999) (by decide) hk)
theorem q999_lt {k : Nat} (hk : k < 2 ^ 31) : ((999 : Int32) < nI k) = (999 < k) := propext (nI_ltI (a := 999) (by decide) hk)
theorem q999_ge {k : Nat} (hk : k < 2 ^ 31) : (nI k ≤ (999 : Int32)) = (k ≤ 999) := propext (nI_leI (b := 999) hk (by decide))
theorem q999_gt {k : Nat} (hk : k < 2 ^ 31) : (nI k < (999 : Int32)) = (k < 999) := propext (nI_ltI (b := 999) hk (by decide))
theorem q999_eq {k : Nat} (hk : k < 2 ^ 31) : (nI k = (999 : Int32)) = (k = 999) := propext (nI_eq (b := 999) hk (by decide))
theorem q999_mul {k : Nat} : (999 : Int32) * nI k = nI (999 * k) := (nI_mul 999 k)
theorem q999_add {k : Nat} : nI k + (999 : Int32) = nI (k + 999) := nI_add k 999
theorem q999_adl {k : Nat} : (999 : Int32) + nI k = nI (999 + k) := nI_add 999 k
theorem q999_cl : (999 : Int32).toNatClampNeg = 999 := nI_clamp (n := 999) (by decide)
theorem q999_ti : (nI 999).toInt = 999 := nI_toInt (n := 999) (by decide)
theorem q999_tj : (999 : Int32).toInt = 999 := nI_toInt (n := 999) (by decide)
theorem q999_pos : ((999 : Int32) < 0) = False := eq_false (nI_pos (n := 999) (by decide))
theorem q9999_le {k : Nat} (hk : k < 2 ^ 31) : ((9999 : Int32) ≤ nI k) = (9999 ≤ k) := propext (nI_leI (a := 9999) (by decide) hk)
theorem q9999_lt {k : Nat} (hk : k < 2 ^ 31) : ((9999 : Int32) < nI k) = (9999 < k) := propext (nI_ltI (a := 9999) (by decide) hk)
theorem q9999_ge {k : Nat} (hk : k < 2 ^ 31) : (nI k ≤ (9999 : Int32)) = (k ≤ 9999) := propext (nI_leI (b := 9999) hk (by decide))
theorem q9999_gt {k : Nat} (hk : k < 2 ^ 31) : (nI k < (9999 : Int32)) = (k < 9999) := propext (nI_ltI (b := 9999) hk (by decide))
theorem q9999_eq {k : Nat} (hk : k < 2 ^ 31) : (nI k = (9999 : Int32)) = (k = 9999) := propext (nI_eq (b := 9999) hk (by decide))
theorem q9999_mul {k : Nat} : (9999 : Int32) * nI k = nI (9999 * k) := (nI_mul 9999 k)
theorem q9999_add {k : Nat} : nI k + (9999 : Int32) = nI (k + 9999) := nI_add k 9999
theorem q9999_adl {k : Nat} : (9999 : Int32) + nI k = nI (9999 + k) := nI_add 9999 k
theorem q9999_cl : (9999 : Int32).toNatClampNeg = 9999 := nI_clamp (n := 9999) (by decide)
theorem q9999_ti : (nI 9999).toInt = 9999 := nI_toInt (n := 9999) (by decide)
theorem q9999_tj : (9999 : Int32).toInt = 9999 := nI_toInt (n := 9999) (by decide)
theorem q9999_pos : ((9999 : Int32) < 0) = False := eq_false (nI_pos (n := 9999) (by decide))
theorem q99999_le {k : Nat} (hk : k < 2 ^ 31) : ((99999 : Int32) ≤ nI k) = (99999 ≤ k) := propext (nI_leI (a := 99999) (by decide) hk)
theorem q99999_lt {k : Nat} (hk : k < 2 ^ 31) : ((99999 : Int32) < nI k) = (99999 < k) := propext (nI_ltI (a := 99999) (by decide) hk)
theorem q99999_ge {k : Nat} (hk : k < 2 ^ 31) : (nI k ≤ (99999 : Int32)) = (k ≤ 99999) := propext (nI_leI (b := 99999) hk (by decide))
theorem q99999_gt {k : Nat} (hk : k < 2 ^ 31) : (nI k < (99999 : Int32)) = (k < 99999) := propext (nI_ltI (b := 99999) hk (by decide))
theorem q99999_eq {k : Nat} (hk : k < 2 ^ 31) : (nI k = (99999 : Int32)) = (k = 99999) := propext (nI_eq (b := 99999) hk (by decide))
theorem q99999_mul {k : Nat} : (99999 : Int32) * nI k = nI (99999 * k) := (nI_mul 99999 k)
theorem q99999_add {k : Nat} : nI k + (99999 : Int32) = nI (k + 99999) := nI_add k 99999
theorem q99999_adl {k : Nat} : (99999 : Int32) + nI k = nI (99999 + k) := nI_add 99999 k
theorem q99999_cl : (99999 : Int32).toNatClampNeg = 99999 := nI_clamp (n := 99999) (by decide)
theorem q99999_ti : (nI 99999).toInt = 99999 := nI_toInt (n := 99999) (by decide)
theorem q99999_tj : (99999 : Int32).toInt = 99999 := nI_toInt (n := 99999) (by decide)
theorem q99999_pos : ((99999 : Int32) < 0) = False := eq_false (nI_pos (n := 99999) (by decide))
theorem q1000000_le {k : Nat} (hk : k < 2 ^ 31) : ((1000000 : Int32) ≤ nI k) = (1000000 ≤ k) := propext (nI_leI (a := 1000000) (by decide) hk)
theorem q1000000_lt {k : Nat} (hk : k < 2 ^ 31) : ((1000000 : Int32) < nI k) = (1000000 < k) := propext (nI_ltI (a := 1000000) (by decide) hk)
theorem q1000000_ge {k : Nat} (hk : k < 2 ^ 31) : (nI k ≤ (1000000 : Int32)) = (k ≤ 1000000) := propext (nI_leI (b := 1000000) hk (by decide))
theorem q1000000_gt {k : Nat} (hk : k < 2 ^ 31) : (nI k < (1000000 : Int32)) = (k < 1000000) := propext (nI_ltI (b := 1000000) hk (by decide))
theorem q1000000_eq {k : Nat} (hk : k < 2 ^ 31) : (nI k = (1000000 : Int32)) = (k = 1000000) := propext (nI_eq (b := 1000000) hk (by decide))
theorem q1000000_mul {k : Nat} : (1000000 : Int32) * nI k = nI (1000000 * k) := (nI_mul 1000000 k)
theorem q1000000_add {k : Nat} : nI k + (1000000 : Int32) = nI (k + 1000000) := nI_add k 1000000
theorem q1000000_adl {k : Nat} : (1000000 : Int32) + nI k = nI (1000000 + k) := nI_add 1000000 k
theorem q1000000_cl : (1000000 : Int32).toNatClampNeg = 1000000 := nI_clamp (n := 1000000) (by decide)
theorem q1000000_ti : (nI 1000000).toInt = 1000000 := nI_toInt (n := 1000000) (by decide)
theorem q1000000_tj : (1000000 : Int32).toInt = 1000000 := nI_toInt (n := 1000000) (by decide)
theorem q1000000_pos : ((1000000 : Int32) < 0) = False := eq_false (nI_pos (n := 1000000) (by decide))

-- shape of the reference
def isD (h : Hp) : Prop := kd h 197 = 12 ∧ kd h 198 = 13 ∧ hN h 198 = 700 ∧ hR h 197 0 = 199 ∧ kd h 199 = 13 ∧ hN h 199 = 124 ∧ hR h 197 3 = 200 ∧ kd h 200 = 15 ∧ hN h 200 = 2 ∧ hR h 197 22 = 201 ∧ kd h 201 = 13 ∧ hN h 201 = 4 ∧ hR h 197 23 = 202 ∧ kd h 202 = 13 ∧ hN h 202 = 16 ∧ hR h 197 24 = 203 ∧ kd h 203 = 13 ∧ hN h 203 = 10 ∧ hR h 197 25 = 204 ∧ kd h 204 = 13 ∧ hN h 204 = 10 ∧ hR h 197 26 = 205 ∧ kd h 205 = 13 ∧ hN h 205 = 10 ∧ hR h 197 27 = 206 ∧ kd h 206 = 13 ∧ hN h 206 = 10 ∧ hR h 197 28 = 207 ∧ kd h 207 = 13 ∧ hN h 207 = 10 ∧ hR h 197 29 = 208 ∧ kd h 208 = 13 ∧ hN h 208 = 16 ∧ hR h 197 30 = 209 ∧ kd h 209 = 13 ∧ hN h 209 = 16 ∧ hR h 197 31 = 210 ∧ kd h 210 = 13 ∧ hN h 210 = 16 ∧ hR h 197 32 = 211 ∧ kd h 211 = 13 ∧ hN h 211 = 16 ∧ hR h 197 33 = 212 ∧ kd h 212 = 13 ∧ hN h 212 = 16 ∧ hR h 197 34 = 213 ∧ kd h 213 = 13 ∧ hN h 213 = 20 ∧ hR h 197 35 = 214 ∧ kd h 214 = 13 ∧ hN h 214 = 20 ∧ hR h 197 36 = 215 ∧ kd h 215 = 13 ∧ hN h 215 = 20 ∧ hR h 197 37 = 216 ∧ kd h 216 = 15 ∧ hN h 216 = 4 ∧ hR h 197 38 = 217 ∧ kd h 217 = 13 ∧ hN h 217 = 4 ∧ hR h 197 39 = 218 ∧ kd h 218 = 13 ∧ hN h 218 = 4 ∧ hR h 197 40 = 219 ∧ kd h 219 = 13 ∧ hN h 219 = 128 ∧ hR h 197 41 = 220 ∧ kd h 220 = 13 ∧ hN h 220 = 128 ∧ hR h 197 42 = 221 ∧ kd h 221 = 13 ∧ hN h 221 = 128 ∧ hR h 197 43 = 222 ∧ kd h 222 = 13 ∧ hN h 222 = 96 ∧ hR h 197 44 = 223 ∧ kd h 223 = 13 ∧ hN h 223 = 96 ∧ hR h 197 45 = 224 ∧ kd h 224 = 14 ∧ hN h 224 = 7 ∧ hR h 197 52 = 225 ∧ kd h 225 = 14 ∧ hN h 225 = 64 ∧ hR h 197 53 = 226 ∧ kd h 226 = 13 ∧ hN h 226 = 10 ∧ hR h 197 55 = 227 ∧ kd h 227 = 13 ∧ hN h 227 = 10 ∧ hR h 197 56 = 228 ∧ kd h 228 = 13 ∧ hN h 228 = 10 ∧ hR h 197 57 = 229 ∧ kd h 229 = 13 ∧ hN h 229 = 10 ∧ hR h 197 58 = 230 ∧ kd h 230 = 13 ∧ hN h 230 = 2 ∧ hR h 197 59 = 231 ∧ kd h 231 = 13 ∧ hN h 231 = 2 ∧ hR h 197 68 = 232 ∧ kd h 232 = 13 ∧ hN h 232 = 81 ∧ hR h 197 69 = 233 ∧ kd h 233 = 13 ∧ hN h 233 = 81 ∧ hR h 197 70 = 234 ∧ kd h 234 = 13 ∧ hN h 234 = 96 ∧ hR h 197 73 = 235 ∧ kd h 235 = 15 ∧ hN h 235 = 24 ∧ hR h 197 74 = 236 ∧ kd h 236 = 13 ∧ hN h 236 = 440 ∧ hR h 197 76 = 237 ∧ kd h 237 = 14 ∧ hN h 237 = 20 ∧ hR h 197 77 = 238 ∧ kd h 238 = 13 ∧ hN h 238 = 22 ∧ hR h 197 79 = 239
theorem D_k197 {h : Hp} (a : isD h) : kd h 197 = 12 := a.1
theorem D_k198 {h : Hp} (a : isD h) : kd h 198 = 13 := a.2.1
theorem D_n198 {h : Hp} (a : isD h) : hN h 198 = 700 := a.2.2.1
theorem D_r0 {h : Hp} (a : isD h) : hR h 197 0 = 199 := a.2.2.2.1
theorem D_k199 {h : Hp} (a : isD h) : kd h 199 = 13 := a.2.2.2.2.1
theorem D_n199 {h : Hp} (a : isD h) : hN h 199 = 124 := a.2.2.2.2.2.1
theorem D_r3 {h : Hp} (a : isD h) : hR h 197 3 = 200 := a.2.2.2.2.2.2.1
theorem D_k200 {h : Hp} (a : isD h) : kd h 200 = 15 := a.2.2.2.2.2.2.2.1
theorem D_n200 {h : Hp} (a : isD h) : hN h 200 = 2 := a.2.2.2.2.2.2.2.2.1
theorem D_r22 {h : Hp} (a : isD h) : hR h 197 22 = 201 := a.2.2.2.2.2.2.2.2.2.1
theorem D_k201 {h : Hp} (a : isD h) : kd h 201 = 13 := a.2.2.2.2.2.2.2.2.2.2.1
theorem D_n201 {h : Hp} (a : isD h) : hN h 201 = 4 := a.2.2.2.2.2.2.2.2.2.2.2.1
theorem D_r23 {h : Hp} (a : isD h) : hR h 197 23 = 202 := a.2.2.2.2.2.2.2.2.2.2.2.2.1
theorem D_k202 {h : Hp} (a : isD h) : kd h 202 = 13 := a.2.2.2.2.2.2.2.2.2.2.2.2.2.1
theorem D_n202 {h : Hp} (a : isD h) : hN h 202 = 16 := a.2.2.2.2.2.2.2.2.2.2.2.2.2.2.1
theorem D_r24 {h : Hp} (a : isD h) : hR h 197 24 = 203 := a.2.2.2.2.2.2.2.2.2.2.2.2.2.2.2.1
theorem D_k203 {h : Hp} (a : isD h) : kd h 203 = 13 := a.2.2.2.2.2.2.2.2.2.2.2.2.2.2.2.2.1
theorem D_n203 {h : Hp} (a : isD h) : hN h 203 = 10 := a.2.2.2.2.2.2.2.2.2.2.2.2.2.2.2.2.2.1
theorem D_r25 {h : Hp} (a : isD h) : hR h 197 25 = 204 := a.2.2.2.2.2.2.2.2.2.2.2.2.2.2.2.2.2.2.1
theorem D_k204 {h : Hp} (a : isD h) : kd h 204 = 13 := a.2.2.2.2.2.2.2.2.2.2.2.2.2.2.2.2.2.2.2.1
theorem D_n204 {h : Hp} (a : isD h) : hN h 204 = 10 := a.2.2.2.2.2.2.2.2.2.2.2.2.2.2.2.2.2.2.2.2.1
theorem D_r26 {h : Hp} (a : isD h) : hR h 197 26 = 205 := a.2.2.2.2.2.2.2.2.2.2.2.2.2.2.2.2.2.2.2.2.2.1
theorem D_k205 {h : Hp} (a : isD h) : kd h 205 = 13 := a.2.2.2.2.2.2.2.2.2.2.2.2.2.2.2.2.2.2.2.2.2.2.1
theorem D_n205 {h : Hp} (a : isD h) : hN h 205 = 10 := a.2.2.2.2.2.2.2.2.2.2.2.2.2.2.2.2.2.2.2.2.2.2.2.1
theorem D_r27 {h : Hp} (a : isD h) : hR h 197 27 = 206 := a.2.2.2.2.2.2.2.2.2.2.2.2.2.2.2.2.2.2.2.2.2.2.2.2.1
theorem D_k206 {h : Hp} (a : isD h) : kd h 206 = 13 := a.2.2.2.2.2.2.2.2.2.2.2.2.2.2.2.2.2.2.2.2.2.2.2.2.2.1
theorem D_n206 {h : Hp} (a : isD h) : hN h 206 = 10 := a.2.2.2.2.2.2.2.2.2.2.2.2.2.2.2.2.2.2.2.2.2.2.2.2.2.2.1
theorem D_r28 {h : Hp} (a : isD h) : hR h 197 28 = 207 := a.2.2.2.2.2.2.2.2.2.2.2.2.2.2.2.2.2.2.2.2.2.2.2.2.2.2.2.1
theorem D_k207 {h : Hp} (a : isD h) : kd h 207 = 13 := a.2.2.2.2.2.2.2.2.2.2.2.2.2.2.2.2.2.2.2.2.2.2.2.2.2.2.2.2.1
theorem D_n207 {h : Hp} (a : isD h) : hN h 207 = 10 := a.2.2.2.2.2.2.2.2.2.2.2.2.2.2.2.2.2.2.2.2.2.2.2.2.2.2.2.2.2.1
theorem D_r29 {h : Hp} (a : isD h) : hR h 197 29 = 208 := a.2.2.2.2.2.2.2.2.2.2.2.2.2.2.2.2.2.2.2.2.2.2.2.2.2.2.2.2.2.2.1
theorem D_k208 {h : Hp} (a : isD h) : kd h 208 = 13 := a.2.2.2.2.2.2.2.2.2.2.2.2.2.2.2.2.2.2.2.2.2.2.2.2.2.2.2.2.2.2.2.1
theorem D_n208 {h : Hp} (a : isD h) : hN h 208 = 16 := a.2.2.2.2.2.2.2.2.2.2.2.2.2.2.2.2.2.2.2.2.2.2.2.2.2.2.2.2.2.2.2.2.1
theorem D_r30 {h : Hp} (a : isD h) : hR h 197 30 = 209 := a.2.2.2.2.2.2.2.2.2.2.2.2.2.2.2.2.2.2.2.2.2.2.2.2.2.2.2.2.2.2.2.2.2.1
theorem D_k209 {h : Hp} (a : isD h) : kd h 209 = 13 := a.2.2.2.2.2.2.2.2.2.2.2.2.2.2.2.2.2.2.2.2.2.2.2.2.2.2.2.2.2.2.2.2.2.2.1
theorem D_n209 {h : Hp} (a : isD h) : hN h 209 = 16 := a.2.2.2.2.2.2.2.2.2.2.2.2.2.2.2.2.2.2.2.2.2.2.2.2.2.2.2.2.2.2.2.2.2.2.2.1
theorem D_r31 {h : Hp} (a : isD h) : hR h 197 31 = 210 := a.2.2.2.2.2.2.2.2.2.2.2.2.2.2.2.2.2.2.2.2.2.2.2.2.2.2.2.2.2.2.2.2.2.2.2.2.1
theorem D_k210 {h : Hp} (a : isD h) : kd h 210 = 13 := a.2.2.2.2.2.2.2.2.2.2.2.2.2.2.2.2.2.2.2.2.2.2.2.2.2.2.2.2.2.2.2.2.2.2.2.2.2.1
theorem D_n210 {h : Hp} (a : isD h) : hN h 210 = 16 := a.2.2.2.2.2.2.2.2.2.2.2.2.2.2.2.2.2.2.2.2.2.2.2.2.2.2.2.2.2.2.2.2.2.2.2.2.2.2.1
theorem D_r32 {h : Hp} (a : isD h) : hR h 197 32 = 211 := a.2.2.2.2.2.2.2.2.2.2.2.2.2.2.2.2.2.2.2.2.2.2.2.2.2.2.2.2.2.2.2.2.2.2.2.2.2.2.2.1
theorem D_k211 {h : Hp} (a : isD h) : kd h 211 = 13 := a.2.2.2.2.2.2.2.2.2.2.2.2.2.2.2.2.2.2.2.2.2.2.2.2.2.2.2.2.2.2.2.2.2.2.2.2.2.2.2.2.1
theorem D_n211 {h : Hp} (a : isD h) : hN h 211 = 16 := a.2.2.2.2.2.2.2.2.2.2.2.2.2.2.2.2.2.2.2.2.2.2.2.2.2.2.2.2.2.2.2.2.2.2.2.2.2.2.2.2.2.1
theorem D_r33 {h : Hp} (a : isD h) : hR h 197 33 = 212 := a.2.2.2.2.2.2.2.2.2.2.2.2.2.2.2.2.2.2.2.2.2.2.2.2.2.2.2.2.2.2.2.2.2.2.2.2.2.2.2.2.2.2.1
theorem D_k212 {h : Hp} (a : isD h) : kd h 212 = 13 := a.2.2.2.2.2.2.2.2.2.2.2.2.2.2.2.2.2.2.2.2.2.2.2.2.2.2.2.2.2.2.2.2.2.2.2.2.2.2.2.2.2.2.2.1
theorem D_n212 {h : Hp} (a : isD h) : hN h 212 = 16 := a.2.2.2.2.2.2.2.2.2.2.2.2.2.2.2.2.2.2.2.2.2.2.2.2.2.2.2.2.2.2.2.2.2.2.2.2.2.2.2.2.2.2.2.2.1
theorem D_r34 {h : Hp} (a : isD h) : hR h 197 34 = 213 := a.2.2.2.2.2.2.2.2.2.2.2.2.2.2.2.2.2.2.2.2.2.2.2.2.2.2.2.2.2.2.2.2.2.2.2.2.2.2.2.2.2.2.2.2.2.1
theorem D_k213 {h : Hp} (a : isD h) : kd h 213 = 13 := a.2.2.2.2.2.2.2.2.2.2.2.2.2.2.2.2.2.2.2.2.2.2.2.2.2.2.2.2.2.2.2.2.2.2.2.2.2.2.2.2.2.2.2.2.2.2.1
theorem D_n213 {h : Hp} (a : isD h) : hN h 213 = 20 := a.2.2.2.2.2.2.2.2.2.2.2.2.2.2.2.2.2.2.2.2.2.2.2.2.2.2.2.2.2.2.2.2.2.2.2.2.2.2.2.2.2.2.2.2.2.2.2.1
theorem D_r35 {h : Hp} (a : isD h) : hR h 197 35 = 214 := a.2.2.2.2.2.2.2.2.2.2.2.2.2.2.2.2.2.2.2.2.2.2.2.2.2.2.2.2.2.2.2.2.2.2.2.2.2.2.2.2.2.2.2.2.2.2.2.2.1
theorem D_k214 {h : Hp} (a : isD h) : kd h 214 = 13 := a.2.2.2.2.2.2.2.2.2.2.2.2.2.2.2.2.2.2.2.2.2.2.2.2.2.2.2.2.2.2.2.2.2.2.2.2.2.2.2.2.2.2.2.2.2.2.2.2.2.1
theorem D_n214 {h : Hp} (a : isD h) : hN h 214 = 20 := a.2.2.2.2.2.2.2.2.2.2.2.2.2.2.2.2.2.2.2.2.2.2.2.2.2.2.2.2.2.2.2.2.2.2.2.2.2.2.2.2.2.2.2.2.2.2.2.2.2.2.1
theorem D_r36 {h : Hp} (a : isD h) : hR h 197 36 = 215 := a.2.2.2.2.2.2.2.2.2.2.2.2.2.2.2.2.2.2.2.2.2.2.2.2.2.2.2.2.2.2.2.2.2.2.2.2.2.2.2.2.2.2.2.2.2.2.2.2.2.2.2.1
theorem D_k215 {h : Hp} (a : isD h) : kd h 215 = 13 := a.2.2.2.2.2.2.2.2.2.2.2.2.2.2.2.2.2.2.2.2.2.2.2.2.2.2.2.2.2.2.2.2.2.2.2.2.2.2.2.2.2.2.2.2.2.2.2.2.2.2.2.2.1
theorem D_n215 {h : Hp} (a : isD h) : hN h 215 = 20 := a.2.2.2.2.2.2.2.2.2.2.2.2.2.2.2.2.2.2.2.2.2.2.2.2.2.2.2.2.2.2.2.2.2.2.2.2.2.2.2.2.2.2.2.2.2.2.2.2.2.2.2.2.2.1
theorem D_r37 {h : Hp} (a : isD h) : hR h 197 37 = 216 := a.2.2.2.2.2.2.2.2.2.2.2.2.2.2.2.2.2.2.2.2.2.2.2.2.2.2.2.2.2.2.2.2.2.2.2.2.2.2.2.2.2.2.2.2.2.2.2.2.2.2.2.2.2.2.1
theorem D_k216 {h : Hp} (a : isD h) : kd h 216 = 15 := a.2.2.2.2.2.2.2.2.2.2.2.2.2.2.2.2.2.2.2.2.2.2.2.2.2.2.2.2.2.2.2.2.2.2.2.2.2.2.2.2.2.2.2.2.2.2.2.2.2.2.2.2.2.2.2.1
theorem D_n216 {h : Hp} (a : isD h) : hN h 216 = 4 := a.2.2.2.2.2.2.2.2.2.2.2.2.2.2.2.2.2.2.2.2.2.2.2.2.2.2.2.2.2.2.2.2.2.2.2.2.2.2.2.2.2.2.2.2.2.2.2.2.2.2.2.2.2.2.2.2.1
theorem D_r38 {h : Hp} (a : isD h) : hR h 197 38 = 217 := a.2.2.2.2.2.2.2.2.2.2.2.2.2.2.2.2.2.2.2.2.2.2.2.2.2.2.2.2.2.2.2.2.2.2.2.2.2.2.2.2.2.2.2.2.2.2.2.2.2.2.2.2.2.2.2.2.2.1
theorem D_k217 {h : Hp} (a : isD h) : kd h 217 = 13 := a.2.2.2.2.2.2.2.2.2.2.2.2.2.2.2.2.2.2.2.2.2.2.2.2.2.2.2.2.2.2.2.2.2.2.2.2.2.2.2.2.2.2.2.2.2.2.2.2.2.2.2.2.2.2.2.2.2.2.1
theorem D_n217 {h : Hp} (a : isD h) : hN h 217 = 4 := a.2.2.2.2.2.2.2.2.2.2.2.2.2.2.2.2.2.2.2.2.2.2.2.2.2.2.2.2.2.2.2.2.2.2.2.2.2.2.2.2.2.2.2.2.2.2.2.2.2.2.2.2.2.2.2.2.2.2.2.1
theorem D_r39 {h : Hp} (a : isD h) : hR h 197 39 = 218 := a.2.2.2.2.2.2.2.2.2.2.2.2.2.2.2.2.2.2.2.2.2.2.2.2.2.2.2.2.2.2.2.2.2.2.2.2.2.2.2.2.2.2.2.2.2.2.2.2.2.2.2.2.2.2.2.2.2.2.2.2.1
theorem D_k218 {h : Hp} (a : isD h) : kd h 218 = 13 := a.2.2.2.2.2.2.2.2.2.2.2.2.2.2.2.2.2.2.2.2.2.2.2.2.2.2.2.2.2.2.2.2.2.2.2.2.2.2.2.2.2.2.2.2.2.2.2.2.2.2.2.2.2.2.2.2.2.2.2.2.2.1
theorem D_n218 {h : Hp} (a : isD h) : hN h 218 = 4 := a.2.2.2.2.2.2.2.2.2.2.2.2.2.2.2.2.2.2.2.2.2.2.2.2.2.2.2.2.2.2.2.2.2.2.2.2.2.2.2.2.2.2.2.2.2.2.2.2.2.2.2.2.2.2.2.2.2.2.2.2.2.2.1
theorem D_r40 {h : Hp} (a : isD h) : hR h 197 40 = 219 := a.2.2.2.2.2.2.2.2.2.2.2.2.2.2.2.2.2.2.2.2.2.2.2.2.2.2.2.2.2.2.2.2.2.2.2.2.2.2.2.2.2.2.2.2.2.2.2.2.2.2.2.2.2.2.2.2.2.2.2.2.2.2.2.1
theorem D_k219 {h : Hp} (a : isD h) : kd h 219 = 13 := a.2.2.2.2.2.2.2.2.2.2.2.2.2.2.2.2.2.2.2.2.2.2.2.2.2.2.2.2.2.2.2.2.2.2.2.2.2.2.2.2.2.2.2.2.2.2.2.2.2.2.2.2.2.2.2.2.2.2.2.2.2.2.2.2.1
theorem D_n219 {h : Hp} (a : isD h) : hN h 219 = 128 := a.2.2.2.2.2.2.2.2.2.2.2.2.2.2.2.2.2.2.2.2.2.2.2.2.2.2.2.2.2.2.2.2.2.2.2.2.2.2.2.2.2.2.2.2.2.2.2.2.2.2.2.2.2.2.2.2.2.2.2.2.2.2.2.2.2.1
theorem D_r41 {h : Hp} (a : isD h) : hR h 197 41 = 220 := a.2.2.2.2.2.2.2.2.2.2.2.2.2.2.2.2.2.2.2.2.2.2.2.2.2.2.2.2.2.2.2.2.2.2.2.2.2.2.2.2.2.2.2.2.2.2.2.2.2.2.2.2.2.2.2.2.2.2.2.2.2.2.2.2.2.2.1
theorem D_k220 {h : Hp} (a : isD h) : kd h 220 = 13 := a.2.2.2.2.2.2.2.2.2.2.2.2.2.2.2.2.2.2.2.2.2.2.2.2.2.2.2.2.2.2.2.2.2.2.2.2.2.2.2.2.2.2.2.2.2.2.2.2.2.2.2.2.2.2.2.2.2.2.2.2.2.2.2.2.2.2.2.1
theorem D_n220 {h : Hp} (a : isD h) : hN h 220 = 128 := a.2.2.2.2.2.2.2.2.2.2.2.2.2.2.2.2.2.2.2.2.2.2.2.2.2.2.2.2.2.2.2.2.2.2.2.2.2.2.2.2.2.2.2.2.2.2.2.2.2.2.2.2.2.2.2.2.2.2.2.2.2.2.2.2.2.2.2.2.1
theorem D_r42 {h : Hp} (a : isD h) : hR h 197 42 = 221 := a.2.2.2.2.2.2.2.2.2.2.2.2.2.2.2.2.2.2.2.2.2.2.2.2.2.2.2.2.2.2.2.2.2.2.2.2.2.2.2.2.2.2.2.2.2.2.2.2.2.2.2.2.2.2.2.2.2.2.2.2.2.2.2.2.2.2.2.2.2.1
theorem D_k221 {h : Hp} (a : isD h) : kd h 221 = 13 := a.2.2.2.2.2.2.2.2.2.2.2.2.2.2.2.2.2.2.2.2.2.2.2.2.2.2.2.2.2.2.2.2.2.2.2.2.2.2.2.2.2.2.2.2.2.2.2.2.2.2.2.2.2.2.2.2.2.2.2.2.2.2.2.2.2.2.2.2.2.2.1
theorem D_n221 {h : Hp} (a : isD h) : hN h 221 = 128 := a.2.2.2.2.2.2.2.2.2.2.2.2.2.2.2.2.2.2.2.2.2.2.2.2.2.2.2.2.2.2.2.2.2.2.2.2.2.2.2.2.2.2.2.2.2.2.2.2.2.2.2.2.2.2.2.2.2.2.2.2.2.2.2.2.2.2.2.2.2.2.2.1
theorem D_r43 {h : Hp} (a : isD h) : hR h 197 43 = 222 := a.2.2.2.2.2.2.2.2.2.2.2.2.2.2.2.2.2.2.2.2.2.2.2.2.2.2.2.2.2.2.2.2.2.2.2.2.2.2.2.2.2.2.2.2.2.2.2.2.2.2.2.2.2.2.2.2.2.2.2.2.2.2.2.2.2.2.2.2.2.2.2.2.1
theorem D_k222 {h : Hp} (a : isD h) : kd h 222 = 13 := a.2.2.2.2.2.2.2.2.2.2.2.2.2.2.2.2.2.2.2.2.2.2.2.2.2.2.2.2.2.2.2.2.2.2.2.2.2.2.2.2.2.2.2.2.2.2.2.2.2.2.2.2.2.2.2.2.2.2.2.2.2.2.2.2.2.2.2.2.2.2.2.2.2.1
theorem D_n222 {h : Hp} (a : isD h) : hN h 222 = 96 := a.2.2.2.2.2.2.2.2.2.2.2.2.2.2.2.2.2.2.2.2.2.2.2.2.2.2.2.2.2.2.2.2.2.2.2.2.2.2.2.2.2.2.2.2.2.2.2.2.2.2.2.2.2.2.2.2.2.2.2.2.2.2.2.2.2.2.2.2.2.2.2.2.2.2.1
theorem D_r44 {h : Hp} (a : isD h) : hR h 197 44 = 223 := a.2.2.2.2.2.2.2.2.2.2.2.2.2.2.2.2.2.2.2.2.2.2.2.2.2.2.2.2.2.2.2.2.2.2.2.2.2.2.2.2.2.2.2.2.2.2.2.2.2.2.2.2.2.2.2.2.2.2.2.2.2.2.2.2.2.2.2.2.2.2.2.2.2.2.2.1
theorem D_k223 {h : Hp} (a : isD h) : kd h 223 = 13 := a.2.2.2.2.2.2.2.2.2.2.2.2.2.2.2.2.2.2.2.2.2.2.2.2.2.2.2.2.2.2.2.2.2.2.2.2.2.2.2.2.2.2.2.2.2.2.2.2.2.2.2.2.2.2.2.2.2.2.2.2.2.2.2.2.2.2.2.2.2.2.2.2.2.2.2.2.1
theorem D_n223 {h : Hp} (a : isD h) : hN h 223 = 96 := a.2.2.2.2.2.2.2.2.2.2.2.2.2.2.2.2.2.2.2.2.2.2.2.2.2.2.2.2.2.2.2.2.2.2.2.2.2.2.2.2.2.2.2.2.2.2.2.2.2.2.2.2.2.2.2.2.2.2.2.2.2.2.2.2.2.2.2.2.2.2.2.2.2.2.2.2.2.1
theorem D_r45 {h : Hp} (a : isD h) : hR h 197 45 = 224 := a.2.2.2.2.2.2.2.2.2.2.2.2.2.2.2.2.2.2.2.2.2.2.2.2.2.2.2.2.2.2.2.2.2.2.2.2.2.2.2.2.2.2.2.2.2.2.2.2.2.2.2.2.2.2.2.2.2.2.2.2.2.2.2.2.2.2.2.2.2.2.2.2.2.2.2.2.2.2.1
theorem D_k224 {h : Hp} (a : isD h) : kd h 224 = 14 := a.2.2.2.2.2.2.2.2.2.2.2.2.2.2.2.2.2.2.2.2.2.2.2.2.2.2.2.2.2.2.2.2.2.2.2.2.2.2.2.2.2.2.2.2.2.2.2.2.2.2.2.2.2.2.2.2.2.2.2.2.2.2.2.2.2.2.2.2.2.2.2.2.2.2.2.2.2.2.2.1
theorem D_n224 {h : Hp} (a : isD h) : hN h 224 = 7 := a.2.2.2.2.2.2.2.2.2.2.2.2.2.2.2.2.2.2.2.2.2.2.2.2.2.2.2.2.2.2.2.2.2.2.2.2.2.2.2.2.2.2.2.2.2.2.2.2.2.2.2.2.2.2.2.2.2.2.2.2.2.2.2.2.2.2.2.2.2.2.2.2.2.2.2.2.2.2.2.2.1
theorem D_r52 {h : Hp} (a : isD h) : hR h 197 52 = 225 := a.2.2.2.2.2.2.2.2.2.2.2.2.2.2.2.2.2.2.2.2.2.2.2.2.2.2.2.2.2.2.2.2.2.2.2.2.2.2.2.2.2.2.2.2.2.2.2.2.2.2.2.2.2.2.2.2.2.2.2.2.2.2.2.2.2.2.2.2.2.2.2.2.2.2.2.2.2.2.2.2.2.1
theorem D_k225 {h : Hp} (a : isD h) : kd h 225 = 14 := a.2.2.2.2.2.2.2.2.2.2.2.2.2.2.2.2.2.2.2.2.2.2.2.2.2.2.2.2.2.2.2.2.2.2.2.2.2.2.2.2.2.2.2.2.2.2.2.2.2.2.2.2.2.2.2.2.2.2.2.2.2.2.2.2.2.2.2.2.2.2.2.2.2.2.2.2.2.2.2.2.2.2.1
theorem D_n225 {h : Hp} (a : isD h) : hN h 225 = 64 := a.2.2.2.2.2.2.2.2.2.2.2.2.2.2.2.2.2.2.2.2.2.2.2.2.2.2.2.2.2.2.2.2.2.2.2.2.2.2.2.2.2.2.2.2.2.2.2.2.2.2.2.2.2.2.2.2.2.2.2.2.2.2.2.2.2.2.2.2.2.2.2.2.2.2.2.2.2.2.2.2.2.2.2.1
theorem D_r53 {h : Hp} (a : isD h) : hR h 197 53 = 226 := a.2.2.2.2.2.2.2.2.2.2.2.2.2.2.2.2.2.2.2.2.2.2.2.2.2.2.2.2.2.2.2.2.2.2.2.2.2.2.2.2.2.2.2.2.2.2.2.2.2.2.2.2.2.2.2.2.2.2.2.2.2.2.2.2.2.2.2.2.2.2.2.2.2.2.2.2.2.2.2.2.2.2.2.2.1
theorem D_k226 {h : Hp} (a : isD h) : kd h 226 = 13 := a.2.2.2.2.2.2.2.2.2.2.2.2.2.2.2.2.2.2.2.2.2.2.2.2.2.2.2.2.2.2.2.2.2.2.2.2.2.2.2.2.2.2.2.2.2.2.2.2.2.2.2.2.2.2.2.2.2.2.2.2.2.2.2.2.2.2.2.2.2.2.2.2.2.2.2.2.2.2.2.2.2.2.2.2.2.1
theorem D_n226 {h : Hp} (a : isD h) : hN h 226 = 10 := a.2.2.2.2.2.2.2.2.2.2.2.2.2.2.2.2.2.2.2.2.2.2.2.2.2.2.2.2.2.2.2.2.2.2.2.2.2.2.2.2.2.2.2.2.2.2.2.2.2.2.2.2.2.2.2.2.2.2.2.2.2.2.2.2.2.2.2.2.2.2.2.2.2.2.2.2.2.2.2.2.2.2.2.2.2.2.1
theorem D_r55 {h : Hp} (a : isD h) : hR h 197 55 = 227 := a.2.2.2.2.2.2.2.2.2.2.2.2.2.2.2.2.2.2.2.2.2.2.2.2.2.2.2.2.2.2.2.2.2.2.2.2.2.2.2.2.2.2.2.2.2.2.2.2.2.2.2.2.2.2.2.2.2.2.2.2.2.2.2.2.2.2.2.2.2.2.2.2.2.2.2.2.2.2.2.2.2.2.2.2.2.2.2.1
theorem D_k227 {h : Hp} (a : isD h) : kd h 227 = 13 := a.2.2.2.2.2.2.2.2.2.2.2.2.2.2.2.2.2.2.2.2.2.2.2.2.2.2.2.2.2.2.2.2.2.2.2.2.2.2.2.2.2.2.2.2.2.2.2.2.2.2.2.2.2.2.2.2.2.2.2.2.2.2.2.2.2.2.2.2.2.2.2.2.2.2.2.2.2.2.2.2.2.2.2.2.2.2.2.2.1
theorem D_n227 {h : Hp} (a : isD h) : hN h 227 = 10 := a.2.2.2.2.2.2.2.2.2.2.2.2.2.2.2.2.2.2.2.2.2.2.2.2.2.2.2.2.2.2.2.2.2.2.2.2.2.2.2.2.2.2.2.2.2.2.2.2.2.2.2.2.2.2.2.2.2.2.2.2.2.2.2.2.2.2.2.2.2.2.2.2.2.2.2.2.2.2.2.2.2.2.2.2.2.2.2.2.2.1
theorem D_r56 {h : Hp} (a : isD h) : hR h 197 56 = 228 := a.2.2.2.2.2.2.2.2.2.2.2.2.2.2.2.2.2.2.2.2.2.2.2.2.2.2.2.2.2.2.2.2.2.2.2.2.2.2.2.2.2.2.2.2.2.2.2.2.2.2.2.2.2.2.2.2.2.2.2.2.2.2.2.2.2.2.2.2.2.2.2.2.2.2.2.2.2.2.2.2.2.2.2.2.2.2.2.2.2.2.1
theorem D_k228 {h : Hp} (a : isD h) : kd h 228 = 13 := a.2.2.2.2.2.2.2.2.2.2.2.2.2.2.2.2.2.2.2.2.2.2.2.2.2.2.2.2.2.2.2.2.2.2.2.2.2.2.2.2.2.2.2.2.2.2.2.2.2.2.2.2.2.2.2.2.2.2.2.2.2.2.2.2.2.2.2.2.2.2.2.2.2.2.2.2.2.2.2.2.2.2.2.2.2.2.2.2.2.2.2.1
theorem D_n228 {h : Hp} (a : isD h) : hN h 228 = 10 := a.2.2.2.2.2.2.2.2.2.2.2.2.2.2.2.2.2.2.2.2.2.2.2.2.2.2.2.2.2.2.2.2.2.2.2.2.2.2.2.2.2.2.2.2.2.2.2.2.2.2.2.2.2.2.2.2.2.2.2.2.2.2.2.2.2.2.2.2.2.2.2.2.2.2.2.2.2.2.2.2.2.2.2.2.2.2.2.2.2.2.2.2.1
theorem D_r57 {h : Hp} (a : isD h) : hR h 197 57 = 229 := a.2.2.2.2.2.2.2.2.2.2.2.2.2.2.2.2.2.2.2.2.2.2.2.2.2.2.2.2.2.2.2.2.2.2.2.2.2.2.2.2.2.2.2.2.2.2.2.2.2.2.2.2.2.2.2.2.2.2.2.2.2.2.2.2.2.2.2.2.2.2.2.2.2.2.2.2.2.2.2.2.2.2.2.2.2.2.2.2.2.2.2.2.2.1
theorem D_k229 {h : Hp} (a : isD h) : kd h 229 = 13 := a.2.2.2.2.2.2.2.2.2.2.2.2.2.2.2.2.2.2.2.2.2.2.2.2.2.2.2.2.2.2.2.2.2.2.2.2.2.2.2.2.2.2.2.2.2.2.2.2.2.2.2.2.2.2.2.2.2.2.2.2.2.2.2.2.2.2.2.2.2.2.2.2.2.2.2.2.2.2.2.2.2.2.2.2.2.2.2.2.2.2.2.2.2.2.1
theorem D_n229 {h : Hp} (a : isD h) : hN h 229 = 10 := a.2.2.2.2.2.2.2.2.2.2.2.2.2.2.2.2.2.2.2.2.2.2.2.2.2.2.2.2.2.2.2.2.2.2.2.2.2.2.2.2.2.2.2.2.2.2.2.2.2.2.2.2.2.2.2.2.2.2.2.2.2.2.2.2.2.2.2.2.2.2.2.2.2.2.2.2.2.2.2.2.2.2.2.2.2.2.2.2.2.2.2.2.2.2.2.1
theorem D_r58 {h : Hp} (a : isD h) : hR h 197 58 = 230 := a.2.2.2.2.2.2.2.2.2.2.2.2.2.2.2.2.2.2.2.2.2.2.2.2.2.2.2.2.2.2.2.2.2.2.2.2.2.2.2.2.2.2.2.2.2.2.2.2.2.2.2.2.2.2.2.2.2.2.2.2.2.2.2.2.2.2.2.2.2.2.2.2.2.2.2.2.2.2.2.2.2.2.2.2.2.2.2.2.2.2.2.2.2.2.2.2.1
theorem D_k230 {h : Hp} (a : isD h) : kd h 230 = 13 := a.2.2.2.2.2.2.2.2.2.2.2.2.2.2.2.2.2.2.2.2.2.2.2.2.2.2.2.2.2.2.2.2.2.2.2.2.2.2.2.2.2.2.2.2.2.2.2.2.2.2.2.2.2.2.2.2.2.2.2.2.2.2.2.2.2.2.2.2.2.2.2.2.2.2.2.2.2.2.2.2.2.2.2.2.2.2.2.2.2.2.2.2.2.2.2.2.2.1
theorem D_n230 {h : Hp} (a : isD h) : hN h 230 = 2 := a.2.2.2.2.2.2.2.2.2.2.2.2.2.2.2.2.2.2.2.2.2.2.2.2.2.2.2.2.2.2.2.2.2.2.2.2.2.2.2.2.2.2.2.2.2.2.2.2.2.2.2.2.2.2.2.2.2.2.2.2.2.2.2.2.2.2.2.2.2.2.2.2.2.2.2.2.2.2.2.2.2.2.2.2.2.2.2.2.2.2.2.2.2.2.2.2.2.2.1
theorem D_r59 {h : Hp} (a : isD h) : hR h 197 59 = 231 := a.2.2.2.2.2.2.2.2.2.2.2.2.2.2.2.2.2.2.2.2.2.2.2.2.2.2.2.2.2.2.2.2.2.2.2.2.2.2.2.2.2.2.2.2.2.2.2.2.2.2.2.2.2.2.2.2.2.2.2.2.2.2.2.2.2.2.2.2.2.2.2.2.2.2.2.2.2.2.2.2.2.2.2.2.2.2.2.2.2.2.2.2.2.2.2.2.2.2.2.1
theorem D_k231 {h : Hp} (a : isD h) : kd h 231 = 13 := a.2.2.2.2.2.2.2.2.2.2.2.2.2.2.2.2.2.2.2.2.2.2.2.2.2.2.2.2.2.2.2.2.2.2.2.2.2.2.2.2.2.2.2.2.2.2.2.2.2.2.2.2.2.2.2.2.2.2.2.2.2.2.2.2.2.2.2.2.2.2.2.2.2.2.2.2.2.2.2.2.2.2.2.2.2.2.2.2.2.2.2.2.2.2.2.2.2.2.2.2.1
theorem D_n231 {h : Hp} (a : isD h) : hN h 231 = 2 := a.2.2.2.2.2.2.2.2.2.2.2.2.2.2.2.2.2.2.2.2.2.2.2.2.2.2.2.2.2.2.2.2.2.2.2.2.2.2.2.2.2.2.2.2.2.2.2.2.2.2.2.2.2.2.2.2.2.2.2.2.2.2.2.2.2.2.2.2.2.2.2.2.2.2.2.2.2.2.2.2.2.2.2.2.2.2.2.2.2.2.2.2.2.2.2.2.2.2.2.2.2.1
theorem D_r68 {h : Hp} (a : isD h) : hR h 197 68 = 232 := a.2.2.2.2.2.2.2.2.2.2.2.2.2.2.2.2.2.2.2.2.2.2.2.2.2.2.2.2.2.2.2.2.2.2.2.2.2.2.2.2.2.2.2.2.2.2.2.2.2.2.2.2.2.2.2.2.2.2.2.2.2.2.2.2.2.2.2.2.2.2.2.2.2.2.2.2.2.2.2.2.2.2.2.2.2.2.2.2.2.2.2.2.2.2.2.2.2.2.2.2.2.2.1
theorem D_k232 {h : Hp} (a : isD h) : kd h 232 = 13 := a.2.2.2.2.2.2.2.2.2.2.2.2.2.2.2.2.2.2.2.2.2.2.2.2.2.2.2.2.2.2.2.2.2.2.2.2.2.2.2.2.2.2.2.2.2.2.2.2.2.2.2.2.2.2.2.2.2.2.2.2.2.2.2.2.2.2.2.2.2.2.2.2.2.2.2.2.2.2.2.2.2.2.2.2.2.2.2.2.2.2.2.2.2.2.2.2.2.2.2.2.2.2.2.1
theorem D_n232 {h : Hp} (a : isD h) : hN h 232 = 81 := a.2.2.2.2.2.2.2.2.2.2.2.2.2.2.2.2.2.2.2.2.2.2.2.2.2.2.2.2.2.2.2.2.2.2.2.2.2.2.2.2.2.2.2.2.2.2.2.2.2.2.2.2.2.2.2.2.2.2.2.2.2.2.2.2.2.2.2.2.2.2.2.2.2.2.2.2.2.2.2.2.2.2.2.2.2.2.2.2.2.2.2.2.2.2.2.2.2.2.2.2.2.2.2.2.1
theorem D_r69 {h : Hp} (a : isD h) : hR h 197 69 = 233 := a.2.2.2.2.2.2.2.2.2.2.2.2.2.2.2.2.2.2.2.2.2.2.2.2.2.2.2.2.2.2.2.2.2.2.2.2.2.2.2.2.2.2.2.2.2.2.2.2.2.2.2.2.2.2.2.2.2.2.2.2.2.2.2.2.2.2.2.2.2.2.2.2.2.2.2.2.2.2.2.2.2.2.2.2.2.2.2.2.2.2.2.2.2.2.2.2.2.2.2.2.2.2.2.2.2.1
theorem D_k233 {h : Hp} (a : isD h) : kd h 233 = 13 := a.2.2.2.2.2.2.2.2.2.2.2.2.2.2.2.2.2.2.2.2.2.2.2.2.2.2.2.2.2.2.2.2.2.2.2.2.2.2.2.2.2.2.2.2.2.2.2.2.2.2.2.2.2.2.2.2.2.2.2.2.2.2.2.2.2.2.2.2.2.2.2.2.2.2.2.2.2.2.2.2.2.2.2.2.2.2.2.2.2.2.2.2.2.2.2.2.2.2.2.2.2.2.2.2.2.2.1
theorem D_n233 {h : Hp} (a : isD h) : hN h 233 = 81 := a.2.2.2.2.2.2.2.2.2.2.2.2.2.2.2.2.2.2.2.2.2.2.2.2.2.2.2.2.2.2.2.2.2.2.2.2.2.2.2.2.2.2.2.2.2.2.2.2.2.2.2.2.2.2.2.2.2.2.2.2.2.2.2.2.2.2.2.2.2.2.2.2.2.2.2.2.2.2.2.2.2.2.2.2.2.2.2.2.2.2.2.2.2.2.2.2.2.2.2.2.2.2.2.2.2.2.2.1
theorem D_r70 {h : Hp} (a : isD h) : hR h 197 70 = 234 := a.2.2.2.2.2.2.2.2.2.2.2.2.2.2.2.2.2.2.2.2.2.2.2.2.2.2.2.2.2.2.2.2.2.2.2.2.2.2.2.2.2.2.2.2.2.2.2.2.2.2.2.2.2.2.2.2.2.2.2.2.2.2.2.2.2.2.2.2.2.2.2.2.2.2.2.2.2.2.2.2.2.2.2.2.2.2.2.2.2.2.2.2.2.2.2.2.2.2.2.2.2.2.2.2.2.2.2.2.1
theorem D_k234 {h : Hp} (a : isD h) : kd h 234 = 13 := a.2.2.2.2.2.2.2.2.2.2.2.2.2.2.2.2.2.2.2.2.2.2.2.2.2.2.2.2.2.2.2.2.2.2.2.2.2.2.2.2.2.2.2.2.2.2.2.2.2.2.2.2.2.2.2.2.2.2.2.2.2.2.2.2.2.2.2.2.2.2.2.2.2.2.2.2.2.2.2.2.2.2.2.2.2.2.2.2.2.2.2.2.2.2.2.2.2.2.2.2.2.2.2.2.2.2.2.2.2.1
theorem D_n234 {h : Hp} (a : isD h) : hN h 234 = 96 := a.2.2.2.2.2.2.2.2.2.2.2.2.2.2.2.2.2.2.2.2.2.2.2.2.2.2.2.2.2.2.2.2.2.2.2.2.2.2.2.2.2.2.2.2.2.2.2.2.2.2.2.2.2.2.2.2.2.2.2.2.2.2.2.2.2.2.2.2.2.2.2.2.2.2.2.2.2.2.2.2.2.2.2.2.2.2.2.2.2.2.2.2.2.2.2.2.2.2.2.2.2.2.2.2.2.2.2.2.2.2.1
theorem D_r73 {h : Hp} (a : isD h) : hR h 197 73 = 235 := a.2.2.2.2.2.2.2.2.2.2.2.2.2.2.2.2.2.2.2.2.2.2.2.2.2.2.2.2.2.2.2.2.2.2.2.2.2.2.2.2.2.2.2.2.2.2.2.2.2.2.2.2.2.2.2.2.2.2.2.2.2.2.2.2.2.2.2.2.2.2.2.2.2.2.2.2.2.2.2.2.2.2.2.2.2.2.2.2.2.2.2.2.2.2.2.2.2.2.2.2.2.2.2.2.2.2.2.2.2.2.2.1
theorem D_k235 {h : Hp} (a : isD h) : kd h 235 = 15 := a.2.2.2.2.2.2.2.2.2.2.2.2.2.2.2.2.2.2.2.2.2.2.2.2.2.2.2.2.2.2.2.2.2.2.2.2.2.2.2.2.2.2.2.2.2.2.2.2.2.2.2.2.2.2.2.2.2.2.2.2.2.2.2.2.2.2.2.2.2.2.2.2.2.2.2.2.2.2.2.2.2.2.2.2.2.2.2.2.2.2.2.2.2.2.2.2.2.2.2.2.2.2.2.2.2.2.2.2.2.2.2.2.1
theorem D_n235 {h : Hp} (a : isD h) : hN h 235 = 24 := a.2.2.2.2.2.2.2.2.2.2.2.2.2.2.2.2.2.2.2.2.2.2.2.2.2.2.2.2.2.2.2.2.2.2.2.2.2.2.2.2.2.2.2.2.2.2.2.2.2.2.2.2.2.2.2.2.2.2.2.2.2.2.2.2.2.2.2.2.2.2.2.2.2.2.2.2.2.2.2.2.2.2.2.2.2.2.2.2.2.2.2.2.2.2.2.2.2.2.2.2.2.2.2.2.2.2.2.2.2.2.2.2.2.1
theorem D_r74 {h : Hp} (a : isD h) : hR h 197 74 = 236 := a.2.2.2.2.2.2.2.2.2.2.2.2.2.2.2.2.2.2.2.2.2.2.2.2.2.2.2.2.2.2.2.2.2.2.2.2.2.2.2.2.2.2.2.2.2.2.2.2.2.2.2.2.2.2.2.2.2.2.2.2.2.2.2.2.2.2.2.2.2.2.2.2.2.2.2.2.2.2.2.2.2.2.2.2.2.2.2.2.2.2.2.2.2.2.2.2.2.2.2.2.2.2.2.2.2.2.2.2.2.2.2.2.2.2.1
theorem D_k236 {h : Hp} (a : isD h) : kd h 236 = 13 := a.2.2.2.2.2.2.2.2.2.2.2.2.2.2.2.2.2.2.2.2.2.2.2.2.2.2.2.2.2.2.2.2.2.2.2.2.2.2.2.2.2.2.2.2.2.2.2.2.2.2.2.2.2.2.2.2.2.2.2.2.2.2.2.2.2.2.2.2.2.2.2.2.2.2.2.2.2.2.2.2.2.2.2.2.2.2.2.2.2.2.2.2.2.2.2.2.2.2.2.2.2.2.2.2.2.2.2.2.2.2.2.2.2.2.2.1
theorem D_n236 {h : Hp} (a : isD h) : hN h 236 = 440 := a.2.2.2.2.2.2.2.2.2.2.2.2.2.2.2.2.2.2.2.2.2.2.2.2.2.2.2.2.2.2.2.2.2.2.2.2.2.2.2.2.2.2.2.2.2.2.2.2.2.2.2.2.2.2.2.2.2.2.2.2.2.2.2.2.2.2.2.2.2.2.2.2.2.2.2.2.2.2.2.2.2.2.2.2.2.2.2.2.2.2.2.2.2.2.2.2.2.2.2.2.2.2.2.2.2.2.2.2.2.2.2.2.2.2.2.2.1
theorem D_r76 {h : Hp} (a : isD h) : hR h 197 76 = 237 := a.2.2.2.2.2.2.2.2.2.2.2.2.2.2.2.2.2.2.2.2.2.2.2.2.2.2.2.2.2.2.2.2.2.2.2.2.2.2.2.2.2.2.2.2.2.2.2.2.2.2.2.2.2.2.2.2.2.2.2.2.2.2.2.2.2.2.2.2.2.2.2.2.2.2.2.2.2.2.2.2.2.2.2.2.2.2.2.2.2.2.2.2.2.2.2.2.2.2.2.2.2.2.2.2.2.2.2.2.2.2.2.2.2.2.2.2.2.1
theorem D_k237 {h : Hp} (a : isD h) : kd h 237 = 14 := a.2.2.2.2.2.2.2.2.2.2.2.2.2.2.2.2.2.2.2.2.2.2.2.2.2.2.2.2.2.2.2.2.2.2.2.2.2.2.2.2.2.2.2.2.2.2.2.2.2.2.2.2.2.2.2.2.2.2.2.2.2.2.2.2.2.2.2.2.2.2.2.2.2.2.2.2.2.2.2.2.2.2.2.2.2.2.2.2.2.2.2.2.2.2.2.2.2.2.2.2.2.2.2.2.2.2.2.2.2.2.2.2.2.2.2.2.2.2.1
theorem D_n237 {h : Hp} (a : isD h) : hN h 237 = 20 := a.2.2.2.2.2.2.2.2.2.2.2.2.2.2.2.2.2.2.2.2.2.2.2.2.2.2.2.2.2.2.2.2.2.2.2.2.2.2.2.2.2.2.2.2.2.2.2.2.2.2.2.2.2.2.2.2.2.2.2.2.2.2.2.2.2.2.2.2.2.2.2.2.2.2.2.2.2.2.2.2.2.2.2.2.2.2.2.2.2.2.2.2.2.2.2.2.2.2.2.2.2.2.2.2.2.2.2.2.2.2.2.2.2.2.2.2.2.2.2.1
theorem D_r77 {h : Hp} (a : isD h) : hR h 197 77 = 238 := a.2.2.2.2.2.2.2.2.2.2.2.2.2.2.2.2.2.2.2.2.2.2.2.2.2.2.2.2.2.2.2.2.2.2.2.2.2.2.2.2.2.2.2.2.2.2.2.2.2.2.2.2.2.2.2.2.2.2.2.2.2.2.2.2.2.2.2.2.2.2.2.2.2.2.2.2.2.2.2.2.2.2.2.2.2.2.2.2.2.2.2.2.2.2.2.2.2.2.2.2.2.2.2.2.2.2.2.2.2.2.2.2.2.2.2.2.2.2.2.2.1
theorem D_k238 {h : Hp} (a : isD h) : kd h 238 = 13 := a.2.2.2.2.2.2.2.2.2.2.2.2.2.2.2.2.2.2.2.2.2.2.2.2.2.2.2.2.2.2.2.2.2.2.2.2.2.2.2.2.2.2.2.2.2.2.2.2.2.2.2.2.2.2.2.2.2.2.2.2.2.2.2.2.2.2.2.2.2.2.2.2.2.2.2.2.2.2.2.2.2.2.2.2.2.2.2.2.2.2.2.2.2.2.2.2.2.2.2.2.2.2.2.2.2.2.2.2.2.2.2.2.2.2.2.2.2.2.2.2.2.1
theorem D_n238 {h : Hp} (a : isD h) : hN h 238 = 22 := a.2.2.2.2.2.2.2.2.2.2.2.2.2.2.2.2.2.2.2.2.2.2.2.2.2.2.2.2.2.2.2.2.2.2.2.2.2.2.2.2.2.2.2.2.2.2.2.2.2.2.2.2.2.2.2.2.2.2.2.2.2.2.2.2.2.2.2.2.2.2.2.2.2.2.2.2.2.2.2.2.2.2.2.2.2.2.2.2.2.2.2.2.2.2.2.2.2.2.2.2.2.2.2.2.2.2.2.2.2.2.2.2.2.2.2.2.2.2.2.2.2.2.1
theorem D_r79 {h : Hp} (a : isD h) : hR h 197 79 = 239 := a.2.2.2.2.2.2.2.2.2.2.2.2.2.2.2.2.2.2.2.2.2.2.2.2.2.2.2.2.2.2.2.2.2.2.2.2.2.2.2.2.2.2.2.2.2.2.2.2.2.2.2.2.2.2.2.2.2.2.2.2.2.2.2.2.2.2.2.2.2.2.2.2.2.2.2.2.2.2.2.2.2.2.2.2.2.2.2.2.2.2.2.2.2.2.2.2.2.2.2.2.2.2.2.2.2.2.2.2.2.2.2.2.2.2.2.2.2.2.2.2.2.2.2
theorem isD.move {h h' : Hp} {L : List Nat} (a : isD h) (f : Fr h h' L) : isD h' := by
  unfold isD at *
  simp only [f.kd, f.2.2.1, f.2.2.2.1]
  exact a
theorem isD.sI {h : Hp} {k j : Nat} {v : Int32} (a : isD h) : isD (sI h k j v) := a
theorem isD.sJ {h : Hp} {k j : Nat} {v : Int64} (a : isD h) : isD (sJ h k j v) := a

