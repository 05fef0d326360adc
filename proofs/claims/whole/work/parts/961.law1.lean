-- the law, case by case (1)
section T96_1
variable {sc : Nat × (Nat → Int32)} {pp : Nat → Nat → Int32 → Int32 → Hp → Option (Hp × Int32)} {i k cu su : Nat} {z : Hp} {o5 o6 : Option Value}
theorem lw_0 (hi : i + 6 ≤ sc.1) (h3 : sc.1 ≤ 3072) (hk : k ≤ 512) (W : WZ z k) (hc : cu ≤ 601024) (hs : su ≤ 7293034) : ∃ z2, WZ z2 (k + 1) ∧ Lm sc pp 277 208 [some (.ref 1000), some (.ref 0), some (.ref 197), some (.ref 239), some (.int (nI i)), o5, o6] [] cu su z = Lm sc pp 277 1626 [some (.ref 1000), some (.ref 0), some (.ref 197), some (.ref 239), some (.int (nI i)), o5, o6] [] cu su z2 := by
  obtain ⟨z1, z2, r, e1, e2, kz, W2⟩ := both (A := fun h => Lm sc pp 20 0 [some (.ref 0), some (.int (sc.2 (i + 1))), some (.int (sc.2 (i + 2))), some (.int (sc.2 (i + 3))), some (.int (sc.2 (i + 4))), some (.int (sc.2 (i + 5)))] [] 0 0 h) (B := fun g => Lm sc pp 21 0 [some (.ref 197), some (.int (sc.2 (i + 1))), some (.int (sc.2 (i + 2))), some (.int (sc.2 (i + 3))), some (.int (sc.2 (i + 4))), some (.int (sc.2 (i + 5))), none, none] [] 0 0 g) W (fun h g c d co st im hs nt ax hl n I D H w xw yw => o_feed (sc := sc) (pp := pp) _ _ _ _ _ I D H w)
  have e1' : Lm sc pp 20 0 [some (.ref 0), some (.int (sc.2 (i + 1))), some (.int (sc.2 (i + 2))), some (.int (sc.2 (i + 3))), some (.int (sc.2 (i + 4))), some (.int (sc.2 (i + 5)))] [] 0 0 z = some (z1, some r) := e1
  have e2' : Lm sc pp 21 0 [some (.ref 197), some (.int (sc.2 (i + 1))), some (.int (sc.2 (i + 2))), some (.int (sc.2 (i + 3))), some (.int (sc.2 (i + 4))), some (.int (sc.2 (i + 5))), none, none] [] 0 0 z1 = some (z2, some r) := e2
  obtain ⟨x, rfl⟩ : ∃ x, r = .int x := isV_0 (Lm_V (κ := 0) (by decide) (by decide +kernel) e1')
  have k0 : kd z 0 = 11 := W.k0
  have k197 : kd z1 197 = 12 := by rw [kz]; exact W.k197
  refine ⟨z2, W2, ?_⟩
  rw [L_277_208]
  simp (disch := first | assumption | omega | exact Nat.le_of_ble_eq_true rfl | fail) only [x_nil, Nat.reduceAdd, la1, la2, la3, la4, la5, if_true, eq_self, lg_self, x_aload_n1, x_aload_n0, x_iload4, x_iconst_1, x_iadd, xl_iald, x_iconst_2, x_iconst_3, x_iconst_4, x_iconst_5, K_20, bindR_some, toL_s, toL_n, ap_n, ap_c, List.map_nil, List.map_cons, List.sum_nil, List.sum_cons, cat_i, cat_r, cat_l, Nat.reduceLeDiff, Nat.zero_le, Nat.le_refl, x_aload_n2, K_21, x_icmp_eq, e1', e2', L_277_242, L_277_276]
theorem lw_1 (hi : i + 6 ≤ sc.1) (h3 : sc.1 ≤ 3072) (hk : k ≤ 512) (W : WZ z k) (hc : cu ≤ 601024) (hs : su ≤ 7293034) : ∃ z2, WZ z2 (k + 1) ∧ Lm sc pp 277 281 [some (.ref 1000), some (.ref 0), some (.ref 197), some (.ref 239), some (.int (nI i)), o5, o6] [] cu su z = Lm sc pp 277 1626 [some (.ref 1000), some (.ref 0), some (.ref 197), some (.ref 239), some (.int (nI i)), o5, o6] [] cu su z2 := by
  obtain ⟨z1, z2, r, e1, e2, kz, W2⟩ := both (A := fun h => Lm sc pp 67 0 [some (.ref 0), some (.int (sc.2 (i + 1))), none] [] 0 0 h) (B := fun g => Lm sc pp 101 0 [some (.ref 197), some (.int (sc.2 (i + 1))), none] [] 0 0 g) W (fun h g c d co st im hs nt ax hl n I D H w xw yw => o_text (sc := sc) (pp := pp) _ I D H w xw yw)
  have e1' : Lm sc pp 67 0 [some (.ref 0), some (.int (sc.2 (i + 1))), none] [] 0 0 z = some (z1, some r) := e1
  have e2' : Lm sc pp 101 0 [some (.ref 197), some (.int (sc.2 (i + 1))), none] [] 0 0 z1 = some (z2, some r) := e2
  obtain ⟨x, rfl⟩ : ∃ x, r = .int x := isV_0 (Lm_V (κ := 0) (by decide) (by decide +kernel) e1')
  have k0 : kd z 0 = 11 := W.k0
  have k197 : kd z1 197 = 12 := by rw [kz]; exact W.k197
  refine ⟨z2, W2, ?_⟩
  rw [L_277_281]
  simp (disch := first | assumption | omega | exact Nat.le_of_ble_eq_true rfl | fail) only [x_nil, Nat.reduceAdd, la1, la2, la3, la4, la5, if_true, eq_self, lg_self, x_aload_n1, x_aload_n0, x_iload4, x_iconst_1, x_iadd, xl_iald, K_67, bindR_some, toL_s, toL_n, ap_n, ap_c, List.map_nil, List.map_cons, List.sum_nil, List.sum_cons, cat_i, cat_r, cat_l, Nat.reduceLeDiff, Nat.zero_le, Nat.le_refl, x_aload_n2, K_101, x_icmp_eq, e1', e2', L_277_291, L_277_301]
theorem lw_2 (hi : i + 6 ≤ sc.1) (h3 : sc.1 ≤ 3072) (hk : k ≤ 512) (W : WZ z k) (hc : cu ≤ 601024) (hs : su ≤ 7293034) : ∃ z2, WZ z2 (k + 1) ∧ Lm sc pp 277 306 [some (.ref 1000), some (.ref 0), some (.ref 197), some (.ref 239), some (.int (nI i)), o5, o6] [] cu su z = Lm sc pp 277 1626 [some (.ref 1000), some (.ref 0), some (.ref 197), some (.ref 239), some (.int (nI i)), o5, o6] [] cu su z2 := by
  obtain ⟨z1, z2, r, e1, e2, kz, W2⟩ := both (A := fun h => Lm sc pp 102 0 [some (.ref 0), some (.int (sc.2 (i + 1)))] [] 0 0 h) (B := fun g => Lm sc pp 103 0 [some (.ref 197), some (.int (sc.2 (i + 1)))] [] 0 0 g) W (fun h g c d co st im hs nt ax hl n I D H w xw yw => o_fault (sc := sc) (pp := pp) _ I D H w)
  have e1' : Lm sc pp 102 0 [some (.ref 0), some (.int (sc.2 (i + 1)))] [] 0 0 z = some (z1, some r) := e1
  have e2' : Lm sc pp 103 0 [some (.ref 197), some (.int (sc.2 (i + 1)))] [] 0 0 z1 = some (z2, some r) := e2
  obtain ⟨x, rfl⟩ : ∃ x, r = .int x := isV_0 (Lm_V (κ := 0) (by decide) (by decide +kernel) e1')
  have k0 : kd z 0 = 11 := W.k0
  have k197 : kd z1 197 = 12 := by rw [kz]; exact W.k197
  refine ⟨z2, W2, ?_⟩
  rw [L_277_306]
  simp (disch := first | assumption | omega | exact Nat.le_of_ble_eq_true rfl | fail) only [x_nil, Nat.reduceAdd, la1, la2, la3, la4, la5, if_true, eq_self, lg_self, x_aload_n1, x_aload_n0, x_iload4, x_iconst_1, x_iadd, xl_iald, K_102, bindR_some, toL_s, toL_n, ap_n, ap_c, List.map_nil, List.map_cons, List.sum_nil, List.sum_cons, cat_i, cat_r, cat_l, Nat.reduceLeDiff, Nat.zero_le, Nat.le_refl, x_aload_n2, K_103, x_icmp_eq, e1', e2', L_277_316, L_277_326]
theorem lw_3 (hi : i + 6 ≤ sc.1) (h3 : sc.1 ≤ 3072) (hk : k ≤ 512) (W : WZ z k) (hc : cu ≤ 601024) (hs : su ≤ 7293034) : ∃ z2, WZ z2 (k + 1) ∧ Lm sc pp 277 331 [some (.ref 1000), some (.ref 0), some (.ref 197), some (.ref 239), some (.int (nI i)), o5, o6] [] cu su z = Lm sc pp 277 1626 [some (.ref 1000), some (.ref 0), some (.ref 197), some (.ref 239), some (.int (nI i)), o5, o6] [] cu su z2 := by
  obtain ⟨z1, z2, r, e1, e2, kz, W2⟩ := both (A := fun h => Lm sc pp 104 0 [some (.ref 0), some (.int (sc.2 (i + 1))), some (.int (sc.2 (i + 2)))] [] 0 0 h) (B := fun g => Lm sc pp 105 0 [some (.ref 197), some (.int (sc.2 (i + 1))), some (.int (sc.2 (i + 2)))] [] 0 0 g) W (fun h g c d co st im hs nt ax hl n I D H w xw yw => o_named (sc := sc) (pp := pp) _ _ I D H w)
  have e1' : Lm sc pp 104 0 [some (.ref 0), some (.int (sc.2 (i + 1))), some (.int (sc.2 (i + 2)))] [] 0 0 z = some (z1, some r) := e1
  have e2' : Lm sc pp 105 0 [some (.ref 197), some (.int (sc.2 (i + 1))), some (.int (sc.2 (i + 2)))] [] 0 0 z1 = some (z2, some r) := e2
  obtain ⟨x, rfl⟩ : ∃ x, r = .int x := isV_0 (Lm_V (κ := 0) (by decide) (by decide +kernel) e1')
  have k0 : kd z 0 = 11 := W.k0
  have k197 : kd z1 197 = 12 := by rw [kz]; exact W.k197
  refine ⟨z2, W2, ?_⟩
  rw [L_277_331]
  simp (disch := first | assumption | omega | exact Nat.le_of_ble_eq_true rfl | fail) only [x_nil, Nat.reduceAdd, la1, la2, la3, la4, la5, if_true, eq_self, lg_self, x_aload_n1, x_aload_n0, x_iload4, x_iconst_1, x_iadd, xl_iald, x_iconst_2, K_104, bindR_some, toL_s, toL_n, ap_n, ap_c, List.map_nil, List.map_cons, List.sum_nil, List.sum_cons, cat_i, cat_r, cat_l, Nat.reduceLeDiff, Nat.zero_le, Nat.le_refl, x_aload_n2, K_105, x_icmp_eq, e1', e2', L_277_347, L_277_363]
theorem lw_5 (hi : i + 6 ≤ sc.1) (h3 : sc.1 ≤ 3072) (hk : k ≤ 512) (W : WZ z k) (hc : cu ≤ 601024) (hs : su ≤ 7293034) : ∃ z2, WZ z2 (k + 1) ∧ Lm sc pp 277 436 [some (.ref 1000), some (.ref 0), some (.ref 197), some (.ref 239), some (.int (nI i)), o5, o6] [] cu su z = Lm sc pp 277 1626 [some (.ref 1000), some (.ref 0), some (.ref 197), some (.ref 239), some (.int (nI i)), o5, o6] [] cu su z2 := by
  obtain ⟨z1, z2, r, e1, e2, kz, W2⟩ := both (A := fun h => Lm sc pp 113 0 [some (.ref 0), some (.int (sc.2 (i + 1))), some (.int (sc.2 (i + 2)))] [] 0 0 h) (B := fun g => Lm sc pp 115 0 [some (.ref 197), some (.int (sc.2 (i + 1))), some (.int (sc.2 (i + 2)))] [] 0 0 g) W (fun h g c d co st im hs nt ax hl n I D H w xw yw => o_question (sc := sc) (pp := pp) _ _ I D H w)
  have e1' : Lm sc pp 113 0 [some (.ref 0), some (.int (sc.2 (i + 1))), some (.int (sc.2 (i + 2)))] [] 0 0 z = some (z1, some r) := e1
  have e2' : Lm sc pp 115 0 [some (.ref 197), some (.int (sc.2 (i + 1))), some (.int (sc.2 (i + 2)))] [] 0 0 z1 = some (z2, some r) := e2
  obtain ⟨x, rfl⟩ : ∃ x, r = .int x := isV_0 (Lm_V (κ := 0) (by decide) (by decide +kernel) e1')
  have k0 : kd z 0 = 11 := W.k0
  have k197 : kd z1 197 = 12 := by rw [kz]; exact W.k197
  refine ⟨z2, W2, ?_⟩
  rw [L_277_436]
  simp (disch := first | assumption | omega | exact Nat.le_of_ble_eq_true rfl | fail) only [x_nil, Nat.reduceAdd, la1, la2, la3, la4, la5, if_true, eq_self, lg_self, x_aload_n1, x_aload_n0, x_iload4, x_iconst_1, x_iadd, xl_iald, x_iconst_2, K_113, bindR_some, toL_s, toL_n, ap_n, ap_c, List.map_nil, List.map_cons, List.sum_nil, List.sum_cons, cat_i, cat_r, cat_l, Nat.reduceLeDiff, Nat.zero_le, Nat.le_refl, x_aload_n2, K_115, x_icmp_eq, e1', e2', L_277_452, L_277_468]
theorem lw_6 (hi : i + 6 ≤ sc.1) (h3 : sc.1 ≤ 3072) (hk : k ≤ 512) (W : WZ z k) (hc : cu ≤ 601024) (hs : su ≤ 7293034) : ∃ z2, WZ z2 (k + 1) ∧ Lm sc pp 277 473 [some (.ref 1000), some (.ref 0), some (.ref 197), some (.ref 239), some (.int (nI i)), o5, o6] [] cu su z = Lm sc pp 277 1626 [some (.ref 1000), some (.ref 0), some (.ref 197), some (.ref 239), some (.int (nI i)), o5, o6] [] cu su z2 := by
  obtain ⟨z1, z2, r, e1, e2, kz, W2⟩ := both (A := fun h => Lm sc pp 122 0 [some (.ref 0), some (.int (sc.2 (i + 1))), some (.int (sc.2 (i + 2))), some (.int (sc.2 (i + 3)))] [] 0 0 h) (B := fun g => Lm sc pp 125 0 [some (.ref 197), some (.int (sc.2 (i + 1))), some (.int (sc.2 (i + 2))), some (.int (sc.2 (i + 3)))] [] 0 0 g) W (fun h g c d co st im hs nt ax hl n I D H w xw yw => (q_can (sc := sc) (pp := pp) _ _ _ (mkQW I D w)).out I D H w)
  have e1' : Lm sc pp 122 0 [some (.ref 0), some (.int (sc.2 (i + 1))), some (.int (sc.2 (i + 2))), some (.int (sc.2 (i + 3)))] [] 0 0 z = some (z1, some r) := e1
  have e2' : Lm sc pp 125 0 [some (.ref 197), some (.int (sc.2 (i + 1))), some (.int (sc.2 (i + 2))), some (.int (sc.2 (i + 3)))] [] 0 0 z1 = some (z2, some r) := e2
  obtain ⟨x, rfl⟩ : ∃ x, r = .int x := isV_0 (Lm_V (κ := 0) (by decide) (by decide +kernel) e1')
  have k0 : kd z 0 = 11 := W.k0
  have k197 : kd z1 197 = 12 := by rw [kz]; exact W.k197
  refine ⟨z2, W2, ?_⟩
  rw [L_277_473]
  simp (disch := first | assumption | omega | exact Nat.le_of_ble_eq_true rfl | fail) only [x_nil, Nat.reduceAdd, la1, la2, la3, la4, la5, if_true, eq_self, lg_self, x_aload_n1, x_aload_n0, x_iload4, x_iconst_1, x_iadd, xl_iald, x_iconst_2, x_iconst_3, K_122, bindR_some, toL_s, toL_n, ap_n, ap_c, List.map_nil, List.map_cons, List.sum_nil, List.sum_cons, cat_i, cat_r, cat_l, Nat.reduceLeDiff, Nat.zero_le, Nat.le_refl, x_aload_n2, K_125, x_icmp_eq, e1', e2', L_277_495, L_277_517]
theorem lw_7 (hi : i + 6 ≤ sc.1) (h3 : sc.1 ≤ 3072) (hk : k ≤ 512) (W : WZ z k) (hc : cu ≤ 601024) (hs : su ≤ 7293034) : ∃ z2, WZ z2 (k + 1) ∧ Lm sc pp 277 522 [some (.ref 1000), some (.ref 0), some (.ref 197), some (.ref 239), some (.int (nI i)), o5, o6] [] cu su z = Lm sc pp 277 1626 [some (.ref 1000), some (.ref 0), some (.ref 197), some (.ref 239), some (.int (nI i)), o5, o6] [] cu su z2 := by
  obtain ⟨z1, z2, r, e1, e2, kz, W2⟩ := both (A := fun h => Lm sc pp 132 0 [some (.ref 0), some (.int (sc.2 (i + 1))), some (.int (sc.2 (i + 2))), some (.int (sc.2 (i + 3)))] [] 0 0 h) (B := fun g => Lm sc pp 141 0 [some (.ref 197), some (.int (sc.2 (i + 1))), some (.int (sc.2 (i + 2))), some (.int (sc.2 (i + 3))), none, none] [] 0 0 g) W (fun h g c d co st im hs nt ax hl n I D H w xw yw => (q_law (sc := sc) (pp := pp) _ _ _ (mkQW I D w)).out I D H w)
  have e1' : Lm sc pp 132 0 [some (.ref 0), some (.int (sc.2 (i + 1))), some (.int (sc.2 (i + 2))), some (.int (sc.2 (i + 3)))] [] 0 0 z = some (z1, some r) := e1
  have e2' : Lm sc pp 141 0 [some (.ref 197), some (.int (sc.2 (i + 1))), some (.int (sc.2 (i + 2))), some (.int (sc.2 (i + 3))), none, none] [] 0 0 z1 = some (z2, some r) := e2
  obtain ⟨x, rfl⟩ : ∃ x, r = .long x := isV_1 (Lm_V (κ := 1) (by decide) (by decide +kernel) e1')
  have k0 : kd z 0 = 11 := W.k0
  have k197 : kd z1 197 = 12 := by rw [kz]; exact W.k197
  refine ⟨z2, W2, ?_⟩
  rw [L_277_522]
  simp (disch := first | assumption | omega | exact Nat.le_of_ble_eq_true rfl | fail) only [x_nil, Nat.reduceAdd, la1, la2, la3, la4, la5, if_true, eq_self, lg_self, x_aload_n1, x_aload_n0, x_iload4, x_iconst_1, x_iadd, xl_iald, x_iconst_2, x_iconst_3, K_132, bindR_some, toL_s, toL_n, ap_n, ap_c, List.map_nil, List.map_cons, List.sum_nil, List.sum_cons, cat_i, cat_r, cat_l, Nat.reduceLeDiff, Nat.zero_le, Nat.le_refl, x_aload_n2, K_141, x_lcmp, x_if_eq, e1', e2', L_277_544, L_277_566]
theorem lw_8 (hi : i + 6 ≤ sc.1) (h3 : sc.1 ≤ 3072) (hk : k ≤ 512) (W : WZ z k) (hc : cu ≤ 601024) (hs : su ≤ 7293034) : ∃ z2, WZ z2 (k + 1) ∧ Lm sc pp 277 572 [some (.ref 1000), some (.ref 0), some (.ref 197), some (.ref 239), some (.int (nI i)), o5, o6] [] cu su z = Lm sc pp 277 1626 [some (.ref 1000), some (.ref 0), some (.ref 197), some (.ref 239), some (.int (nI i)), o5, o6] [] cu su z2 := by
  obtain ⟨z1, z2, r, e1, e2, kz, W2⟩ := both (A := fun h => Lm sc pp 150 0 [some (.ref 0), some (.int (sc.2 (i + 1))), some (.int (sc.2 (i + 2))), some (.int (sc.2 (i + 3)))] [] 0 0 h) (B := fun g => Lm sc pp 158 0 [some (.ref 197), some (.int (sc.2 (i + 1))), some (.int (sc.2 (i + 2))), some (.int (sc.2 (i + 3))), none] [] 0 0 g) W (fun h g c d co st im hs nt ax hl n I D H w xw yw => o_ask (sc := sc) (pp := pp) _ _ _ I D H w)
  have e1' : Lm sc pp 150 0 [some (.ref 0), some (.int (sc.2 (i + 1))), some (.int (sc.2 (i + 2))), some (.int (sc.2 (i + 3)))] [] 0 0 z = some (z1, some r) := e1
  have e2' : Lm sc pp 158 0 [some (.ref 197), some (.int (sc.2 (i + 1))), some (.int (sc.2 (i + 2))), some (.int (sc.2 (i + 3))), none] [] 0 0 z1 = some (z2, some r) := e2
  obtain ⟨x, rfl⟩ : ∃ x, r = .int x := isV_0 (Lm_V (κ := 0) (by decide) (by decide +kernel) e1')
  have k0 : kd z 0 = 11 := W.k0
  have k197 : kd z1 197 = 12 := by rw [kz]; exact W.k197
  refine ⟨z2, W2, ?_⟩
  rw [L_277_572]
  simp (disch := first | assumption | omega | exact Nat.le_of_ble_eq_true rfl | fail) only [x_nil, Nat.reduceAdd, la1, la2, la3, la4, la5, if_true, eq_self, lg_self, x_aload_n1, x_aload_n0, x_iload4, x_iconst_1, x_iadd, xl_iald, x_iconst_2, x_iconst_3, K_150, bindR_some, toL_s, toL_n, ap_n, ap_c, List.map_nil, List.map_cons, List.sum_nil, List.sum_cons, cat_i, cat_r, cat_l, Nat.reduceLeDiff, Nat.zero_le, Nat.le_refl, x_aload_n2, K_158, x_icmp_eq, e1', e2', L_277_594, L_277_616]
theorem lw_9 (hi : i + 6 ≤ sc.1) (h3 : sc.1 ≤ 3072) (hk : k ≤ 512) (W : WZ z k) (hc : cu ≤ 601024) (hs : su ≤ 7293034) : ∃ z2, WZ z2 (k + 1) ∧ Lm sc pp 277 621 [some (.ref 1000), some (.ref 0), some (.ref 197), some (.ref 239), some (.int (nI i)), o5, o6] [] cu su z = Lm sc pp 277 1626 [some (.ref 1000), some (.ref 0), some (.ref 197), some (.ref 239), some (.int (nI i)), o5, o6] [] cu su z2 := by
  obtain ⟨z1, z2, r, e1, e2, kz, W2⟩ := both (A := fun h => Lm sc pp 160 0 [some (.ref 0), some (.int (sc.2 (i + 1))), some (.int (sc.2 (i + 2)))] [] 0 0 h) (B := fun g => Lm sc pp 162 0 [some (.ref 197), some (.int (sc.2 (i + 1))), some (.int (sc.2 (i + 2)))] [] 0 0 g) W (fun h g c d co st im hs nt ax hl n I D H w xw yw => o_tell (sc := sc) (pp := pp) _ _ I D H w)
  have e1' : Lm sc pp 160 0 [some (.ref 0), some (.int (sc.2 (i + 1))), some (.int (sc.2 (i + 2)))] [] 0 0 z = some (z1, some r) := e1
  have e2' : Lm sc pp 162 0 [some (.ref 197), some (.int (sc.2 (i + 1))), some (.int (sc.2 (i + 2)))] [] 0 0 z1 = some (z2, some r) := e2
  obtain ⟨x, rfl⟩ : ∃ x, r = .int x := isV_0 (Lm_V (κ := 0) (by decide) (by decide +kernel) e1')
  have k0 : kd z 0 = 11 := W.k0
  have k197 : kd z1 197 = 12 := by rw [kz]; exact W.k197
  refine ⟨z2, W2, ?_⟩
  rw [L_277_621]
  simp (disch := first | assumption | omega | exact Nat.le_of_ble_eq_true rfl | fail) only [x_nil, Nat.reduceAdd, la1, la2, la3, la4, la5, if_true, eq_self, lg_self, x_aload_n1, x_aload_n0, x_iload4, x_iconst_1, x_iadd, xl_iald, x_iconst_2, K_160, bindR_some, toL_s, toL_n, ap_n, ap_c, List.map_nil, List.map_cons, List.sum_nil, List.sum_cons, cat_i, cat_r, cat_l, Nat.reduceLeDiff, Nat.zero_le, Nat.le_refl, x_aload_n2, K_162, x_icmp_eq, e1', e2', L_277_637, L_277_653]
theorem lw_10 (hi : i + 6 ≤ sc.1) (h3 : sc.1 ≤ 3072) (hk : k ≤ 512) (W : WZ z k) (hc : cu ≤ 601024) (hs : su ≤ 7293034) : ∃ z2, WZ z2 (k + 1) ∧ Lm sc pp 277 658 [some (.ref 1000), some (.ref 0), some (.ref 197), some (.ref 239), some (.int (nI i)), o5, o6] [] cu su z = Lm sc pp 277 1626 [some (.ref 1000), some (.ref 0), some (.ref 197), some (.ref 239), some (.int (nI i)), o5, o6] [] cu su z2 := by
  obtain ⟨z1, z2, r, e1, e2, kz, W2⟩ := both (A := fun h => Lm sc pp 163 0 [some (.ref 0), some (.int (sc.2 (i + 1))), some (.int (sc.2 (i + 2)))] [] 0 0 h) (B := fun g => Lm sc pp 164 0 [some (.ref 197), some (.int (sc.2 (i + 1))), some (.int (sc.2 (i + 2)))] [] 0 0 g) W (fun h g c d co st im hs nt ax hl n I D H w xw yw => o_send (sc := sc) (pp := pp) _ _ I D H w)
  have e1' : Lm sc pp 163 0 [some (.ref 0), some (.int (sc.2 (i + 1))), some (.int (sc.2 (i + 2)))] [] 0 0 z = some (z1, some r) := e1
  have e2' : Lm sc pp 164 0 [some (.ref 197), some (.int (sc.2 (i + 1))), some (.int (sc.2 (i + 2)))] [] 0 0 z1 = some (z2, some r) := e2
  obtain ⟨x, rfl⟩ : ∃ x, r = .int x := isV_0 (Lm_V (κ := 0) (by decide) (by decide +kernel) e1')
  have k0 : kd z 0 = 11 := W.k0
  have k197 : kd z1 197 = 12 := by rw [kz]; exact W.k197
  refine ⟨z2, W2, ?_⟩
  rw [L_277_658]
  simp (disch := first | assumption | omega | exact Nat.le_of_ble_eq_true rfl | fail) only [x_nil, Nat.reduceAdd, la1, la2, la3, la4, la5, if_true, eq_self, lg_self, x_aload_n1, x_aload_n0, x_iload4, x_iconst_1, x_iadd, xl_iald, x_iconst_2, K_163, bindR_some, toL_s, toL_n, ap_n, ap_c, List.map_nil, List.map_cons, List.sum_nil, List.sum_cons, cat_i, cat_r, cat_l, Nat.reduceLeDiff, Nat.zero_le, Nat.le_refl, x_aload_n2, K_164, x_icmp_eq, e1', e2', L_277_674, L_277_690]
theorem lw_11 (hi : i + 6 ≤ sc.1) (h3 : sc.1 ≤ 3072) (hk : k ≤ 512) (W : WZ z k) (hc : cu ≤ 601024) (hs : su ≤ 7293034) : ∃ z2, WZ z2 (k + 1) ∧ Lm sc pp 277 695 [some (.ref 1000), some (.ref 0), some (.ref 197), some (.ref 239), some (.int (nI i)), o5, o6] [] cu su z = Lm sc pp 277 1626 [some (.ref 1000), some (.ref 0), some (.ref 197), some (.ref 239), some (.int (nI i)), o5, o6] [] cu su z2 := by
  obtain ⟨z1, z2, r, e1, e2, kz, W2⟩ := both (A := fun h => Lm sc pp 165 0 [some (.ref 0)] [] 0 0 h) (B := fun g => Lm sc pp 166 0 [some (.ref 197), none] [] 0 0 g) W (fun h g c d co st im hs nt ax hl n I D H w xw yw => o_end (sc := sc) (pp := pp)  I D H w)
  have e1' : Lm sc pp 165 0 [some (.ref 0)] [] 0 0 z = some (z1, some r) := e1
  have e2' : Lm sc pp 166 0 [some (.ref 197), none] [] 0 0 z1 = some (z2, some r) := e2
  obtain ⟨x, rfl⟩ : ∃ x, r = .int x := isV_0 (Lm_V (κ := 0) (by decide) (by decide +kernel) e1')
  have k0 : kd z 0 = 11 := W.k0
  have k197 : kd z1 197 = 12 := by rw [kz]; exact W.k197
  refine ⟨z2, W2, ?_⟩
  rw [L_277_695]
  simp (disch := first | assumption | omega | exact Nat.le_of_ble_eq_true rfl | fail) only [x_nil, Nat.reduceAdd, la1, la2, la3, la4, la5, if_true, eq_self, lg_self, x_aload_n1, K_165, bindR_some, toL_s, toL_n, ap_n, ap_c, List.map_nil, List.map_cons, List.sum_nil, List.sum_cons, cat_i, cat_r, cat_l, Nat.reduceLeDiff, Nat.zero_le, Nat.le_refl, x_aload_n2, K_166, x_icmp_eq, e1', e2', L_277_699, L_277_703]
theorem lw_12 (hi : i + 6 ≤ sc.1) (h3 : sc.1 ≤ 3072) (hk : k ≤ 512) (W : WZ z k) (hc : cu ≤ 601024) (hs : su ≤ 7293034) : ∃ z2, WZ z2 (k + 1) ∧ Lm sc pp 277 708 [some (.ref 1000), some (.ref 0), some (.ref 197), some (.ref 239), some (.int (nI i)), o5, o6] [] cu su z = Lm sc pp 277 1626 [some (.ref 1000), some (.ref 0), some (.ref 197), some (.ref 239), some (.int (nI i)), o5, o6] [] cu su z2 := by
  obtain ⟨z1, z2, r, e1, e2, kz, W2⟩ := both (A := fun h => Lm sc pp 170 0 [some (.ref 0), some (.int (sc.2 (i + 1))), none] [] 0 0 h) (B := fun g => Lm sc pp 174 0 [some (.ref 197), some (.int (sc.2 (i + 1)))] [] 0 0 g) W (fun h g c d co st im hs nt ax hl n I D H w xw yw => (q_all (sc := sc) (pp := pp) _ (mkQW I D w)).out I D H w)
  have e1' : Lm sc pp 170 0 [some (.ref 0), some (.int (sc.2 (i + 1))), none] [] 0 0 z = some (z1, some r) := e1
  have e2' : Lm sc pp 174 0 [some (.ref 197), some (.int (sc.2 (i + 1)))] [] 0 0 z1 = some (z2, some r) := e2
  obtain ⟨x, rfl⟩ : ∃ x, r = .int x := isV_0 (Lm_V (κ := 0) (by decide) (by decide +kernel) e1')
  have k0 : kd z 0 = 11 := W.k0
  have k197 : kd z1 197 = 12 := by rw [kz]; exact W.k197
  refine ⟨z2, W2, ?_⟩
  rw [L_277_708]
  simp (disch := first | assumption | omega | exact Nat.le_of_ble_eq_true rfl | fail) only [x_nil, Nat.reduceAdd, la1, la2, la3, la4, la5, if_true, eq_self, lg_self, x_aload_n1, x_aload_n0, x_iload4, x_iconst_1, x_iadd, xl_iald, K_170, bindR_some, toL_s, toL_n, ap_n, ap_c, List.map_nil, List.map_cons, List.sum_nil, List.sum_cons, cat_i, cat_r, cat_l, Nat.reduceLeDiff, Nat.zero_le, Nat.le_refl, x_aload_n2, K_174, x_icmp_eq, e1', e2', L_277_718, L_277_728]
theorem lw_13 (hi : i + 6 ≤ sc.1) (h3 : sc.1 ≤ 3072) (hk : k ≤ 512) (W : WZ z k) (hc : cu ≤ 601024) (hs : su ≤ 7293034) : ∃ z2, WZ z2 (k + 1) ∧ Lm sc pp 277 733 [some (.ref 1000), some (.ref 0), some (.ref 197), some (.ref 239), some (.int (nI i)), o5, o6] [] cu su z = Lm sc pp 277 1626 [some (.ref 1000), some (.ref 0), some (.ref 197), some (.ref 239), some (.int (nI i)), o5, o6] [] cu su z2 := by
  obtain ⟨z1, z2, r, e1, e2, kz, W2⟩ := both (A := fun h => Lm sc pp 175 0 [some (.ref 0), some (.int (sc.2 (i + 1))), some (.int (sc.2 (i + 2))), none] [] 0 0 h) (B := fun g => Lm sc pp 177 0 [some (.ref 197), some (.int (sc.2 (i + 1))), some (.int (sc.2 (i + 2)))] [] 0 0 g) W (fun h g c d co st im hs nt ax hl n I D H w xw yw => (q_never (sc := sc) (pp := pp) _ _ (mkQW I D w)).out I D H w)
  have e1' : Lm sc pp 175 0 [some (.ref 0), some (.int (sc.2 (i + 1))), some (.int (sc.2 (i + 2))), none] [] 0 0 z = some (z1, some r) := e1
  have e2' : Lm sc pp 177 0 [some (.ref 197), some (.int (sc.2 (i + 1))), some (.int (sc.2 (i + 2)))] [] 0 0 z1 = some (z2, some r) := e2
  obtain ⟨x, rfl⟩ : ∃ x, r = .int x := isV_0 (Lm_V (κ := 0) (by decide) (by decide +kernel) e1')
  have k0 : kd z 0 = 11 := W.k0
  have k197 : kd z1 197 = 12 := by rw [kz]; exact W.k197
  refine ⟨z2, W2, ?_⟩
  rw [L_277_733]
  simp (disch := first | assumption | omega | exact Nat.le_of_ble_eq_true rfl | fail) only [x_nil, Nat.reduceAdd, la1, la2, la3, la4, la5, if_true, eq_self, lg_self, x_aload_n1, x_aload_n0, x_iload4, x_iconst_1, x_iadd, xl_iald, x_iconst_2, K_175, bindR_some, toL_s, toL_n, ap_n, ap_c, List.map_nil, List.map_cons, List.sum_nil, List.sum_cons, cat_i, cat_r, cat_l, Nat.reduceLeDiff, Nat.zero_le, Nat.le_refl, x_aload_n2, K_177, x_icmp_eq, e1', e2', L_277_749, L_277_765]
theorem lw_14 (hi : i + 6 ≤ sc.1) (h3 : sc.1 ≤ 3072) (hk : k ≤ 512) (W : WZ z k) (hc : cu ≤ 601024) (hs : su ≤ 7293034) : ∃ z2, WZ z2 (k + 1) ∧ Lm sc pp 277 770 [some (.ref 1000), some (.ref 0), some (.ref 197), some (.ref 239), some (.int (nI i)), o5, o6] [] cu su z = Lm sc pp 277 1626 [some (.ref 1000), some (.ref 0), some (.ref 197), some (.ref 239), some (.int (nI i)), o5, o6] [] cu su z2 := by
  obtain ⟨z1, z2, r, e1, e2, kz, W2⟩ := both (A := fun h => Lm sc pp 179 0 [some (.ref 0), some (.int (sc.2 (i + 1))), some (.int (sc.2 (i + 2))), none, none, none] [] 0 0 h) (B := fun g => Lm sc pp 180 0 [some (.ref 197), some (.int (sc.2 (i + 1))), some (.int (sc.2 (i + 2))), none, none] [] 0 0 g) W (fun h g c d co st im hs nt ax hl n I D H w xw yw => (q_away (sc := sc) (pp := pp) _ _ (mkQW I D w)).out I D H w)
  have e1' : Lm sc pp 179 0 [some (.ref 0), some (.int (sc.2 (i + 1))), some (.int (sc.2 (i + 2))), none, none, none] [] 0 0 z = some (z1, some r) := e1
  have e2' : Lm sc pp 180 0 [some (.ref 197), some (.int (sc.2 (i + 1))), some (.int (sc.2 (i + 2))), none, none] [] 0 0 z1 = some (z2, some r) := e2
  obtain ⟨x, rfl⟩ : ∃ x, r = .int x := isV_0 (Lm_V (κ := 0) (by decide) (by decide +kernel) e1')
  have k0 : kd z 0 = 11 := W.k0
  have k197 : kd z1 197 = 12 := by rw [kz]; exact W.k197
  refine ⟨z2, W2, ?_⟩
  rw [L_277_770]
  simp (disch := first | assumption | omega | exact Nat.le_of_ble_eq_true rfl | fail) only [x_nil, Nat.reduceAdd, la1, la2, la3, la4, la5, if_true, eq_self, lg_self, x_aload_n1, x_aload_n0, x_iload4, x_iconst_1, x_iadd, xl_iald, x_iconst_2, K_179, bindR_some, toL_s, toL_n, ap_n, ap_c, List.map_nil, List.map_cons, List.sum_nil, List.sum_cons, cat_i, cat_r, cat_l, Nat.reduceLeDiff, Nat.zero_le, Nat.le_refl, x_aload_n2, K_180, x_icmp_eq, e1', e2', L_277_786, L_277_802]
theorem lw_15 (hi : i + 6 ≤ sc.1) (h3 : sc.1 ≤ 3072) (hk : k ≤ 512) (W : WZ z k) (hc : cu ≤ 601024) (hs : su ≤ 7293034) : ∃ z2, WZ z2 (k + 1) ∧ Lm sc pp 277 807 [some (.ref 1000), some (.ref 0), some (.ref 197), some (.ref 239), some (.int (nI i)), o5, o6] [] cu su z = Lm sc pp 277 1626 [some (.ref 1000), some (.ref 0), some (.ref 197), some (.ref 239), some (.int (nI i)), o5, o6] [] cu su z2 := by
  obtain ⟨z1, z2, r, e1, e2, kz, W2⟩ := both (A := fun h => Lm sc pp 182 0 [some (.ref 0), some (.int (sc.2 (i + 1))), none] [] 0 0 h) (B := fun g => Lm sc pp 183 0 [some (.ref 197), some (.int (sc.2 (i + 1))), none, none] [] 0 0 g) W (fun h g c d co st im hs nt ax hl n I D H w xw yw => (q_spread (sc := sc) (pp := pp) _ (mkQW I D w)).out I D H w)
  have e1' : Lm sc pp 182 0 [some (.ref 0), some (.int (sc.2 (i + 1))), none] [] 0 0 z = some (z1, some r) := e1
  have e2' : Lm sc pp 183 0 [some (.ref 197), some (.int (sc.2 (i + 1))), none, none] [] 0 0 z1 = some (z2, some r) := e2
  obtain ⟨x, rfl⟩ : ∃ x, r = .int x := isV_0 (Lm_V (κ := 0) (by decide) (by decide +kernel) e1')
  have k0 : kd z 0 = 11 := W.k0
  have k197 : kd z1 197 = 12 := by rw [kz]; exact W.k197
  refine ⟨z2, W2, ?_⟩
  rw [L_277_807]
  simp (disch := first | assumption | omega | exact Nat.le_of_ble_eq_true rfl | fail) only [x_nil, Nat.reduceAdd, la1, la2, la3, la4, la5, if_true, eq_self, lg_self, x_aload_n1, x_aload_n0, x_iload4, x_iconst_1, x_iadd, xl_iald, K_182, bindR_some, toL_s, toL_n, ap_n, ap_c, List.map_nil, List.map_cons, List.sum_nil, List.sum_cons, cat_i, cat_r, cat_l, Nat.reduceLeDiff, Nat.zero_le, Nat.le_refl, x_aload_n2, K_183, x_icmp_eq, e1', e2', L_277_817, L_277_827]
theorem lw_16 (hi : i + 6 ≤ sc.1) (h3 : sc.1 ≤ 3072) (hk : k ≤ 512) (W : WZ z k) (hc : cu ≤ 601024) (hs : su ≤ 7293034) : ∃ z2, WZ z2 (k + 1) ∧ Lm sc pp 277 832 [some (.ref 1000), some (.ref 0), some (.ref 197), some (.ref 239), some (.int (nI i)), o5, o6] [] cu su z = Lm sc pp 277 1626 [some (.ref 1000), some (.ref 0), some (.ref 197), some (.ref 239), some (.int (nI i)), o5, o6] [] cu su z2 := by
  obtain ⟨z1, z2, r, e1, e2, kz, W2⟩ := both (A := fun h => Lm sc pp 185 0 [some (.ref 0), some (.int (sc.2 (i + 1))), some (.int (sc.2 (i + 2))), some (.int (sc.2 (i + 3))), none, none, none] [] 0 0 h) (B := fun g => Lm sc pp 186 0 [some (.ref 197), some (.int (sc.2 (i + 1))), some (.int (sc.2 (i + 2))), some (.int (sc.2 (i + 3))), none, none, none] [] 0 0 g) W (fun h g c d co st im hs nt ax hl n I D H w xw yw => (q_hint (sc := sc) (pp := pp) _ _ _ (mkQW I D w)).out I D H w)
  have e1' : Lm sc pp 185 0 [some (.ref 0), some (.int (sc.2 (i + 1))), some (.int (sc.2 (i + 2))), some (.int (sc.2 (i + 3))), none, none, none] [] 0 0 z = some (z1, some r) := e1
  have e2' : Lm sc pp 186 0 [some (.ref 197), some (.int (sc.2 (i + 1))), some (.int (sc.2 (i + 2))), some (.int (sc.2 (i + 3))), none, none, none] [] 0 0 z1 = some (z2, some r) := e2
  obtain ⟨x, rfl⟩ : ∃ x, r = .int x := isV_0 (Lm_V (κ := 0) (by decide) (by decide +kernel) e1')
  have k0 : kd z 0 = 11 := W.k0
  have k197 : kd z1 197 = 12 := by rw [kz]; exact W.k197
  refine ⟨z2, W2, ?_⟩
  rw [L_277_832]
  simp (disch := first | assumption | omega | exact Nat.le_of_ble_eq_true rfl | fail) only [x_nil, Nat.reduceAdd, la1, la2, la3, la4, la5, if_true, eq_self, lg_self, x_aload_n1, x_aload_n0, x_iload4, x_iconst_1, x_iadd, xl_iald, x_iconst_2, x_iconst_3, K_185, bindR_some, toL_s, toL_n, ap_n, ap_c, List.map_nil, List.map_cons, List.sum_nil, List.sum_cons, cat_i, cat_r, cat_l, Nat.reduceLeDiff, Nat.zero_le, Nat.le_refl, x_aload_n2, K_186, x_icmp_eq, e1', e2', L_277_854, L_277_876]
theorem lw_17 (hi : i + 6 ≤ sc.1) (h3 : sc.1 ≤ 3072) (hk : k ≤ 512) (W : WZ z k) (hc : cu ≤ 601024) (hs : su ≤ 7293034) : ∃ z2, WZ z2 (k + 1) ∧ Lm sc pp 277 881 [some (.ref 1000), some (.ref 0), some (.ref 197), some (.ref 239), some (.int (nI i)), o5, o6] [] cu su z = Lm sc pp 277 1626 [some (.ref 1000), some (.ref 0), some (.ref 197), some (.ref 239), some (.int (nI i)), o5, o6] [] cu su z2 := by
  obtain ⟨z1, z2, r, e1, e2, kz, W2⟩ := both (A := fun h => Lm sc pp 188 0 [some (.ref 0), some (.int (sc.2 (i + 1))), none, none] [] 0 0 h) (B := fun g => Lm sc pp 189 0 [some (.ref 197), some (.int (sc.2 (i + 1))), none, none, none] [] 0 0 g) W (fun h g c d co st im hs nt ax hl n I D H w xw yw => (q_unasked (sc := sc) (pp := pp) _ (mkQW I D w)).out I D H w)
  have e1' : Lm sc pp 188 0 [some (.ref 0), some (.int (sc.2 (i + 1))), none, none] [] 0 0 z = some (z1, some r) := e1
  have e2' : Lm sc pp 189 0 [some (.ref 197), some (.int (sc.2 (i + 1))), none, none, none] [] 0 0 z1 = some (z2, some r) := e2
  obtain ⟨x, rfl⟩ : ∃ x, r = .int x := isV_0 (Lm_V (κ := 0) (by decide) (by decide +kernel) e1')
  have k0 : kd z 0 = 11 := W.k0
  have k197 : kd z1 197 = 12 := by rw [kz]; exact W.k197
  refine ⟨z2, W2, ?_⟩
  rw [L_277_881]
  simp (disch := first | assumption | omega | exact Nat.le_of_ble_eq_true rfl | fail) only [x_nil, Nat.reduceAdd, la1, la2, la3, la4, la5, if_true, eq_self, lg_self, x_aload_n1, x_aload_n0, x_iload4, x_iconst_1, x_iadd, xl_iald, K_188, bindR_some, toL_s, toL_n, ap_n, ap_c, List.map_nil, List.map_cons, List.sum_nil, List.sum_cons, cat_i, cat_r, cat_l, Nat.reduceLeDiff, Nat.zero_le, Nat.le_refl, x_aload_n2, K_189, x_icmp_eq, e1', e2', L_277_891, L_277_901]
theorem lw_18 (hi : i + 6 ≤ sc.1) (h3 : sc.1 ≤ 3072) (hk : k ≤ 512) (W : WZ z k) (hc : cu ≤ 601024) (hs : su ≤ 7293034) : ∃ z2, WZ z2 (k + 1) ∧ Lm sc pp 277 906 [some (.ref 1000), some (.ref 0), some (.ref 197), some (.ref 239), some (.int (nI i)), o5, o6] [] cu su z = Lm sc pp 277 1626 [some (.ref 1000), some (.ref 0), some (.ref 197), some (.ref 239), some (.int (nI i)), o5, o6] [] cu su z2 := by
  obtain ⟨z1, z2, r, e1, e2, kz, W2⟩ := both (A := fun h => Lm sc pp 191 0 [some (.ref 0), some (.int (sc.2 (i + 1))), some (.int (sc.2 (i + 2)))] [] 0 0 h) (B := fun g => Lm sc pp 193 0 [some (.ref 197), some (.int (sc.2 (i + 1))), some (.int (sc.2 (i + 2)))] [] 0 0 g) W (fun h g c d co st im hs nt ax hl n I D H w xw yw => (q_inRoom (sc := sc) (pp := pp) _ _ (mkQW I D w)).out I D H w)
  have e1' : Lm sc pp 191 0 [some (.ref 0), some (.int (sc.2 (i + 1))), some (.int (sc.2 (i + 2)))] [] 0 0 z = some (z1, some r) := e1
  have e2' : Lm sc pp 193 0 [some (.ref 197), some (.int (sc.2 (i + 1))), some (.int (sc.2 (i + 2)))] [] 0 0 z1 = some (z2, some r) := e2
  obtain ⟨x, rfl⟩ : ∃ x, r = .int x := isV_0 (Lm_V (κ := 0) (by decide) (by decide +kernel) e1')
  have k0 : kd z 0 = 11 := W.k0
  have k197 : kd z1 197 = 12 := by rw [kz]; exact W.k197
  refine ⟨z2, W2, ?_⟩
  rw [L_277_906]
  simp (disch := first | assumption | omega | exact Nat.le_of_ble_eq_true rfl | fail) only [x_nil, Nat.reduceAdd, la1, la2, la3, la4, la5, if_true, eq_self, lg_self, x_aload_n1, x_aload_n0, x_iload4, x_iconst_1, x_iadd, xl_iald, x_iconst_2, K_191, bindR_some, toL_s, toL_n, ap_n, ap_c, List.map_nil, List.map_cons, List.sum_nil, List.sum_cons, cat_i, cat_r, cat_l, Nat.reduceLeDiff, Nat.zero_le, Nat.le_refl, x_aload_n2, K_193, x_icmp_eq, e1', e2', L_277_922, L_277_938]
end T96_1
