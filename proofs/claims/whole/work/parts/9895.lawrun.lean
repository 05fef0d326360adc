-- the law from its start
section T9895
variable {sc : Nat × (Nat → Int32)} {pp : Nat → Nat → Int32 → Int32 → Hp → Option (Hp × Int32)} {rec : Rec} {pc n cu su : Nat} {is : List Nat} {r : List MI} {lv : Lv} {st : List Value} {h : Hp}
theorem xl_newJ {c2 s2 : Nat} (hc : cu + 1 ≤ c2) (hs : su + 1 ≤ s2) (hh : hn h < 240) : exS sc pp rec 277 pc ((.newarray .long, n, [c2, s2]) :: r) lv (.int 1 :: st) cu su h = exS sc pp rec 277 (pc + n) r lv (.ref (hn h) :: st) (cu + 1) (su + 1) (alloc h 14 1) := by
  show (if ¬ (1 : Int32) < 0 ∧ (1 : Int32).toNatClampNeg ≤ 100000 ∧ cu + 1 ≤ c2 ∧ su + (1 : Int32).toNatClampNeg ≤ s2 ∧ hn h < 240 then exS sc pp rec 277 (pc + n) r lv (.ref (hn h) :: st) (cu + 1) (su + (1 : Int32).toNatClampNeg) (alloc h 14 (1 : Int32).toNatClampNeg) else none) = _
  rw [show (1 : Int32).toNatClampNeg = 1 from rfl, if_pos ⟨by decide, by decide, hc, hs, hh⟩]
theorem law_run (h3 : sc.1 ≤ 3072) : ∃ z', Lm sc (ppR sc) 277 0 [some (.ref 1000), none, none, none, none, none, none] [] 0 0 e0 = some (z', some (.int 1)) := by
  have eA : Lm sc (ppR sc) 11 0 [some (.ref 0)] [] 0 0 (alloc e0 11 0) = some (zA, none) := mr0_Lm (okN_eq rA_ok.1)
  have eB : Lm sc (ppR sc) 18 0 [some (.ref 197)] [] 0 0 (alloc zA 12 0) = some (zB, none) := mr0_Lm (okN_eq rB_ok.1)
  have nA := rA_ok.2
  have nB := rB_ok.2
  have n0 : hn e0 = 0 := rfl
  have kA : kd (alloc e0 11 0) 0 = 11 := by decide +kernel
  have kB : ∀ z : Hp, hn z = 197 → kd (alloc z 12 0) 197 = 12 := fun z hz => by
    unfold kd
    rw [if_pos (by show 197 < hn z + 1; omega)]
    show va_up (hK z) (hn z) 12 197 = 12
    rw [hz]
    simp [va_up]
  have kB' := kB zA nA
  obtain ⟨z2, e2⟩ := law_loop (sc := sc) h3 513 0 zC 240 5427 none none rfl ⟨zC_GW, zC_XW, zC_YW, zC_v.2.2.2.2.2.2.2.2.2.2.2.2.2, zC_v.2.2.2.2.2.2.2.2.2.2.2.1, zC_v.2.2.2.2.2.2.2.2.2.2.2.2.1⟩ (by omega) (by omega)
  rw [show nI (6 * 0) = (0 : Int32) from rfl] at e2
  refine ⟨z2, ?_⟩
  rw [← e2]
  have eC : alloc zB 14 1 = zC := rfl
  rw [L_277_0]
  simp (disch := first | assumption | omega | exact Nat.le_of_ble_eq_true rfl | (rw [n0]; omega) | (rw [nA]; omega) | (rw [nB]; omega) | fail) only [x_nil, Nat.reduceAdd, xl_new, n0, x_dupA, K_11, bindR_some, toL_s, toL_n, ap_n, ap_c, List.map_nil, List.map_cons, List.sum_nil, List.sum_cons, eA, L_277_7, x_astore_n1, nA, K_18, eB, L_277_15, x_astore_n2, x_iconst_1, xl_newJ, nB, x_astore_n3, x_iconst_0, x_istore4, eC, nI_0]
end T9895
