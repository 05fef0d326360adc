-- the law, case by case (2)
section T96_2
variable {sc : Nat × (Nat → Int32)} {pp : Nat → Nat → Int32 → Int32 → Hp → Option (Hp × Int32)} {i k cu su : Nat} {z : Hp} {o5 o6 : Option Value}
theorem lw_19 (hi : i + 6 ≤ sc.1) (h3 : sc.1 ≤ 3072) (hk : k ≤ 512) (W : WZ z k) (hc : cu ≤ 601024) (hs : su ≤ 7293034) : ∃ z2, WZ z2 (k + 1) ∧ Lm sc pp 277 943 [some (.ref 1000), some (.ref 0), some (.ref 197), some (.ref 239), some (.int (nI i)), o5, o6] [] cu su z = Lm sc pp 277 1626 [some (.ref 1000), some (.ref 0), some (.ref 197), some (.ref 239), some (.int (nI i)), o5, o6] [] cu su z2 := by
  obtain ⟨z1, z2, r, e1, e2, kz, W2⟩ := both (A := fun h => Lm sc pp 194 0 [some (.ref 0), some (.int (sc.2 (i + 1))), none, none, none, none] [] 0 0 h) (B := fun g => Lm sc pp 195 0 [some (.ref 197), some (.int (sc.2 (i + 1))), none, none] [] 0 0 g) W (fun h g c d co st im hs nt ax hl n I D H w xw yw => (q_bestRoom (sc := sc) (pp := pp) _ (mkQW I D w)).out I D H w)
  have e1' : Lm sc pp 194 0 [some (.ref 0), some (.int (sc.2 (i + 1))), none, none, none, none] [] 0 0 z = some (z1, some r) := e1
  have e2' : Lm sc pp 195 0 [some (.ref 197), some (.int (sc.2 (i + 1))), none, none] [] 0 0 z1 = some (z2, some r) := e2
  obtain ⟨x, rfl⟩ : ∃ x, r = .int x := isV_0 (Lm_V (κ := 0) (by decide) (by decide +kernel) e1')
  have k0 : kd z 0 = 11 := W.k0
  have k197 : kd z1 197 = 12 := by rw [kz]; exact W.k197
  refine ⟨z2, W2, ?_⟩
  rw [L_277_943]
  simp (disch := first | assumption | omega | exact Nat.le_of_ble_eq_true rfl | fail) only [x_nil, Nat.reduceAdd, la1, la2, la3, la4, la5, if_true, eq_self, lg_self, x_aload_n1, x_aload_n0, x_iload4, x_iconst_1, x_iadd, xl_iald, K_194, bindR_some, toL_s, toL_n, ap_n, ap_c, List.map_nil, List.map_cons, List.sum_nil, List.sum_cons, cat_i, cat_r, cat_l, Nat.reduceLeDiff, Nat.zero_le, Nat.le_refl, x_aload_n2, K_195, x_icmp_eq, e1', e2', L_277_953, L_277_963]
theorem lw_20 (hi : i + 6 ≤ sc.1) (h3 : sc.1 ≤ 3072) (hk : k ≤ 512) (W : WZ z k) (hc : cu ≤ 601024) (hs : su ≤ 7293034) : ∃ z2, WZ z2 (k + 1) ∧ Lm sc pp 277 968 [some (.ref 1000), some (.ref 0), some (.ref 197), some (.ref 239), some (.int (nI i)), o5, o6] [] cu su z = Lm sc pp 277 1626 [some (.ref 1000), some (.ref 0), some (.ref 197), some (.ref 239), some (.int (nI i)), o5, o6] [] cu su z2 := by
  obtain ⟨z1, z2, r, e1, e2, kz, W2⟩ := both (A := fun h => Lm sc pp 201 0 [some (.ref 0), some (.int (sc.2 (i + 1))), some (.int (sc.2 (i + 2))), some (.int (sc.2 (i + 3))), some (.int (sc.2 (i + 4)))] [] 0 0 h) (B := fun g => Lm sc pp 210 0 [some (.ref 197), some (.int (sc.2 (i + 1))), some (.int (sc.2 (i + 2))), some (.int (sc.2 (i + 3))), some (.int (sc.2 (i + 4)))] [] 0 0 g) W (fun h g c d co st im hs nt ax hl n I D H w xw yw => (q_way (sc := sc) (pp := pp) _ _ _ _ (mkQW I D w)).out I D H w)
  have e1' : Lm sc pp 201 0 [some (.ref 0), some (.int (sc.2 (i + 1))), some (.int (sc.2 (i + 2))), some (.int (sc.2 (i + 3))), some (.int (sc.2 (i + 4)))] [] 0 0 z = some (z1, some r) := e1
  have e2' : Lm sc pp 210 0 [some (.ref 197), some (.int (sc.2 (i + 1))), some (.int (sc.2 (i + 2))), some (.int (sc.2 (i + 3))), some (.int (sc.2 (i + 4)))] [] 0 0 z1 = some (z2, some r) := e2
  obtain ⟨x, rfl⟩ : ∃ x, r = .int x := isV_0 (Lm_V (κ := 0) (by decide) (by decide +kernel) e1')
  have k0 : kd z 0 = 11 := W.k0
  have k197 : kd z1 197 = 12 := by rw [kz]; exact W.k197
  refine ⟨z2, W2, ?_⟩
  rw [L_277_968]
  simp (disch := first | assumption | omega | exact Nat.le_of_ble_eq_true rfl | fail) only [x_nil, Nat.reduceAdd, la1, la2, la3, la4, la5, if_true, eq_self, lg_self, x_aload_n1, x_aload_n0, x_iload4, x_iconst_1, x_iadd, xl_iald, x_iconst_2, x_iconst_3, x_iconst_4, K_201, bindR_some, toL_s, toL_n, ap_n, ap_c, List.map_nil, List.map_cons, List.sum_nil, List.sum_cons, cat_i, cat_r, cat_l, Nat.reduceLeDiff, Nat.zero_le, Nat.le_refl, x_aload_n2, K_210, x_icmp_eq, e1', e2', L_277_996, L_277_1024]
theorem lw_21 (hi : i + 6 ≤ sc.1) (h3 : sc.1 ≤ 3072) (hk : k ≤ 512) (W : WZ z k) (hc : cu ≤ 601024) (hs : su ≤ 7293034) : ∃ z2, WZ z2 (k + 1) ∧ Lm sc pp 277 1029 [some (.ref 1000), some (.ref 0), some (.ref 197), some (.ref 239), some (.int (nI i)), o5, o6] [] cu su z = Lm sc pp 277 1626 [some (.ref 1000), some (.ref 0), some (.ref 197), some (.ref 239), some (.int (nI i)), o5, o6] [] cu su z2 := by
  obtain ⟨z1, z2, r, e1, e2, kz, W2⟩ := both (A := fun h => Lm sc pp 211 0 [some (.ref 0), some (.int (sc.2 (i + 1))), some (.int (sc.2 (i + 2))), some (.int (sc.2 (i + 3))), some (.int (sc.2 (i + 4))), some (.int (sc.2 (i + 5)))] [] 0 0 h) (B := fun g => Lm sc pp 212 0 [some (.ref 197), some (.int (sc.2 (i + 1))), some (.int (sc.2 (i + 2))), some (.int (sc.2 (i + 3))), some (.int (sc.2 (i + 4))), some (.int (sc.2 (i + 5))), none] [] 0 0 g) W (fun h g c d co st im hs nt ax hl n I D H w xw yw => (q_step (sc := sc) (pp := pp) _ _ _ _ _ (mkQW I D w)).out I D H w)
  have e1' : Lm sc pp 211 0 [some (.ref 0), some (.int (sc.2 (i + 1))), some (.int (sc.2 (i + 2))), some (.int (sc.2 (i + 3))), some (.int (sc.2 (i + 4))), some (.int (sc.2 (i + 5)))] [] 0 0 z = some (z1, some r) := e1
  have e2' : Lm sc pp 212 0 [some (.ref 197), some (.int (sc.2 (i + 1))), some (.int (sc.2 (i + 2))), some (.int (sc.2 (i + 3))), some (.int (sc.2 (i + 4))), some (.int (sc.2 (i + 5))), none] [] 0 0 z1 = some (z2, some r) := e2
  obtain ⟨x, rfl⟩ : ∃ x, r = .int x := isV_0 (Lm_V (κ := 0) (by decide) (by decide +kernel) e1')
  have k0 : kd z 0 = 11 := W.k0
  have k197 : kd z1 197 = 12 := by rw [kz]; exact W.k197
  refine ⟨z2, W2, ?_⟩
  rw [L_277_1029]
  simp (disch := first | assumption | omega | exact Nat.le_of_ble_eq_true rfl | fail) only [x_nil, Nat.reduceAdd, la1, la2, la3, la4, la5, if_true, eq_self, lg_self, x_aload_n1, x_aload_n0, x_iload4, x_iconst_1, x_iadd, xl_iald, x_iconst_2, x_iconst_3, x_iconst_4, x_iconst_5, K_211, bindR_some, toL_s, toL_n, ap_n, ap_c, List.map_nil, List.map_cons, List.sum_nil, List.sum_cons, cat_i, cat_r, cat_l, Nat.reduceLeDiff, Nat.zero_le, Nat.le_refl, x_aload_n2, K_212, x_icmp_eq, e1', e2', L_277_1063, L_277_1097]
theorem lw_22 (hi : i + 6 ≤ sc.1) (h3 : sc.1 ≤ 3072) (hk : k ≤ 512) (W : WZ z k) (hc : cu ≤ 601024) (hs : su ≤ 7293034) : ∃ z2, WZ z2 (k + 1) ∧ Lm sc pp 277 1102 [some (.ref 1000), some (.ref 0), some (.ref 197), some (.ref 239), some (.int (nI i)), o5, o6] [] cu su z = Lm sc pp 277 1626 [some (.ref 1000), some (.ref 0), some (.ref 197), some (.ref 239), some (.int (nI i)), o5, o6] [] cu su z2 := by
  obtain ⟨z1, z2, r, e1, e2, kz, W2⟩ := both (A := fun h => Lm sc pp 215 0 [some (.ref 0), some (.int (sc.2 (i + 1))), none, none] [] 0 0 h) (B := fun g => Lm sc pp 217 0 [some (.ref 197), some (.int (sc.2 (i + 1))), none, none] [] 0 0 g) W (fun h g c d co st im hs nt ax hl n I D H w xw yw => (q_care (sc := sc) (pp := pp) _ (mkQW I D w)).out I D H w)
  have e1' : Lm sc pp 215 0 [some (.ref 0), some (.int (sc.2 (i + 1))), none, none] [] 0 0 z = some (z1, some r) := e1
  have e2' : Lm sc pp 217 0 [some (.ref 197), some (.int (sc.2 (i + 1))), none, none] [] 0 0 z1 = some (z2, some r) := e2
  obtain ⟨x, rfl⟩ : ∃ x, r = .int x := isV_0 (Lm_V (κ := 0) (by decide) (by decide +kernel) e1')
  have k0 : kd z 0 = 11 := W.k0
  have k197 : kd z1 197 = 12 := by rw [kz]; exact W.k197
  refine ⟨z2, W2, ?_⟩
  rw [L_277_1102]
  simp (disch := first | assumption | omega | exact Nat.le_of_ble_eq_true rfl | fail) only [x_nil, Nat.reduceAdd, la1, la2, la3, la4, la5, if_true, eq_self, lg_self, x_aload_n1, x_aload_n0, x_iload4, x_iconst_1, x_iadd, xl_iald, K_215, bindR_some, toL_s, toL_n, ap_n, ap_c, List.map_nil, List.map_cons, List.sum_nil, List.sum_cons, cat_i, cat_r, cat_l, Nat.reduceLeDiff, Nat.zero_le, Nat.le_refl, x_aload_n2, K_217, x_icmp_eq, e1', e2', L_277_1112, L_277_1122]
theorem lw_23 (hi : i + 6 ≤ sc.1) (h3 : sc.1 ≤ 3072) (hk : k ≤ 512) (W : WZ z k) (hc : cu ≤ 601024) (hs : su ≤ 7293034) : ∃ z2, WZ z2 (k + 1) ∧ Lm sc pp 277 1127 [some (.ref 1000), some (.ref 0), some (.ref 197), some (.ref 239), some (.int (nI i)), o5, o6] [] cu su z = Lm sc pp 277 1626 [some (.ref 1000), some (.ref 0), some (.ref 197), some (.ref 239), some (.int (nI i)), o5, o6] [] cu su z2 := by
  obtain ⟨z1, z2, r, e1, e2, kz, W2⟩ := both (A := fun h => Lm sc pp 221 0 [some (.ref 0), some (.int (sc.2 (i + 1))), some (.int (sc.2 (i + 2))), some (.int (sc.2 (i + 3)))] [] 0 0 h) (B := fun g => Lm sc pp 222 0 [some (.ref 197), some (.int (sc.2 (i + 1))), some (.int (sc.2 (i + 2))), some (.int (sc.2 (i + 3))), none, none, none, none, none, none] [] 0 0 g) W (fun h g c d co st im hs nt ax hl n I D H w xw yw => (q_best (sc := sc) (pp := pp) _ _ _ (mkQW I D w)).out I D H w)
  have e1' : Lm sc pp 221 0 [some (.ref 0), some (.int (sc.2 (i + 1))), some (.int (sc.2 (i + 2))), some (.int (sc.2 (i + 3)))] [] 0 0 z = some (z1, some r) := e1
  have e2' : Lm sc pp 222 0 [some (.ref 197), some (.int (sc.2 (i + 1))), some (.int (sc.2 (i + 2))), some (.int (sc.2 (i + 3))), none, none, none, none, none, none] [] 0 0 z1 = some (z2, some r) := e2
  obtain ⟨x, rfl⟩ : ∃ x, r = .int x := isV_0 (Lm_V (κ := 0) (by decide) (by decide +kernel) e1')
  have k0 : kd z 0 = 11 := W.k0
  have k197 : kd z1 197 = 12 := by rw [kz]; exact W.k197
  refine ⟨z2, W2, ?_⟩
  rw [L_277_1127]
  simp (disch := first | assumption | omega | exact Nat.le_of_ble_eq_true rfl | fail) only [x_nil, Nat.reduceAdd, la1, la2, la3, la4, la5, if_true, eq_self, lg_self, x_aload_n1, x_aload_n0, x_iload4, x_iconst_1, x_iadd, xl_iald, x_iconst_2, x_iconst_3, K_221, bindR_some, toL_s, toL_n, ap_n, ap_c, List.map_nil, List.map_cons, List.sum_nil, List.sum_cons, cat_i, cat_r, cat_l, Nat.reduceLeDiff, Nat.zero_le, Nat.le_refl, x_aload_n2, K_222, x_icmp_eq, e1', e2', L_277_1149, L_277_1171]
theorem lw_24 (hi : i + 6 ≤ sc.1) (h3 : sc.1 ≤ 3072) (hk : k ≤ 512) (W : WZ z k) (hc : cu ≤ 601024) (hs : su ≤ 7293034) : ∃ z2, WZ z2 (k + 1) ∧ Lm sc pp 277 1176 [some (.ref 1000), some (.ref 0), some (.ref 197), some (.ref 239), some (.int (nI i)), o5, o6] [] cu su z = Lm sc pp 277 1626 [some (.ref 1000), some (.ref 0), some (.ref 197), some (.ref 239), some (.int (nI i)), o5, o6] [] cu su z2 := by
  obtain ⟨z1, z2, r, e1, e2, kz, W2⟩ := both (A := fun h => Lm sc pp 227 0 [some (.ref 0), some (.int (sc.2 (i + 1))), some (.int (sc.2 (i + 2)))] [] 0 0 h) (B := fun g => Lm sc pp 231 0 [some (.ref 197), some (.int (sc.2 (i + 1))), some (.int (sc.2 (i + 2)))] [] 0 0 g) W (fun h g c d co st im hs nt ax hl n I D H w xw yw => (q_rests (sc := sc) (pp := pp) _ _ (mkQW I D w) (w.1.2.2.1.up (by omega))).out I D H w)
  have e1' : Lm sc pp 227 0 [some (.ref 0), some (.int (sc.2 (i + 1))), some (.int (sc.2 (i + 2)))] [] 0 0 z = some (z1, some r) := e1
  have e2' : Lm sc pp 231 0 [some (.ref 197), some (.int (sc.2 (i + 1))), some (.int (sc.2 (i + 2)))] [] 0 0 z1 = some (z2, some r) := e2
  obtain ⟨x, rfl⟩ : ∃ x, r = .int x := isV_0 (Lm_V (κ := 0) (by decide) (by decide +kernel) e1')
  have k0 : kd z 0 = 11 := W.k0
  have k197 : kd z1 197 = 12 := by rw [kz]; exact W.k197
  refine ⟨z2, W2, ?_⟩
  rw [L_277_1176]
  simp (disch := first | assumption | omega | exact Nat.le_of_ble_eq_true rfl | fail) only [x_nil, Nat.reduceAdd, la1, la2, la3, la4, la5, if_true, eq_self, lg_self, x_aload_n1, x_aload_n0, x_iload4, x_iconst_1, x_iadd, xl_iald, x_iconst_2, K_227, bindR_some, toL_s, toL_n, ap_n, ap_c, List.map_nil, List.map_cons, List.sum_nil, List.sum_cons, cat_i, cat_r, cat_l, Nat.reduceLeDiff, Nat.zero_le, Nat.le_refl, x_aload_n2, K_231, x_icmp_eq, e1', e2', L_277_1192, L_277_1208]
theorem lw_25 (hi : i + 6 ≤ sc.1) (h3 : sc.1 ≤ 3072) (hk : k ≤ 512) (W : WZ z k) (hc : cu ≤ 601024) (hs : su ≤ 7293034) : ∃ z2, WZ z2 (k + 1) ∧ Lm sc pp 277 1213 [some (.ref 1000), some (.ref 0), some (.ref 197), some (.ref 239), some (.int (nI i)), o5, o6] [] cu su z = Lm sc pp 277 1626 [some (.ref 1000), some (.ref 0), some (.ref 197), some (.ref 239), some (.int (nI i)), o5, o6] [] cu su z2 := by
  obtain ⟨z1, z2, r, e1, e2, kz, W2⟩ := both (A := fun h => Lm sc pp 232 0 [some (.ref 0), some (.int (sc.2 (i + 1))), some (.int (sc.2 (i + 2))), some (.int (sc.2 (i + 3)))] [] 0 0 h) (B := fun g => Lm sc pp 233 0 [some (.ref 197), some (.int (sc.2 (i + 1))), some (.int (sc.2 (i + 2))), some (.int (sc.2 (i + 3)))] [] 0 0 g) W (fun h g c d co st im hs nt ax hl n I D H w xw yw => (q_rest (sc := sc) (pp := pp) _ _ _ (mkQW I D w) (w.1.2.2.1.up (by omega))).out I D H w)
  have e1' : Lm sc pp 232 0 [some (.ref 0), some (.int (sc.2 (i + 1))), some (.int (sc.2 (i + 2))), some (.int (sc.2 (i + 3)))] [] 0 0 z = some (z1, some r) := e1
  have e2' : Lm sc pp 233 0 [some (.ref 197), some (.int (sc.2 (i + 1))), some (.int (sc.2 (i + 2))), some (.int (sc.2 (i + 3)))] [] 0 0 z1 = some (z2, some r) := e2
  obtain ⟨x, rfl⟩ : ∃ x, r = .int x := isV_0 (Lm_V (κ := 0) (by decide) (by decide +kernel) e1')
  have k0 : kd z 0 = 11 := W.k0
  have k197 : kd z1 197 = 12 := by rw [kz]; exact W.k197
  refine ⟨z2, W2, ?_⟩
  rw [L_277_1213]
  simp (disch := first | assumption | omega | exact Nat.le_of_ble_eq_true rfl | fail) only [x_nil, Nat.reduceAdd, la1, la2, la3, la4, la5, if_true, eq_self, lg_self, x_aload_n1, x_aload_n0, x_iload4, x_iconst_1, x_iadd, xl_iald, x_iconst_2, x_iconst_3, K_232, bindR_some, toL_s, toL_n, ap_n, ap_c, List.map_nil, List.map_cons, List.sum_nil, List.sum_cons, cat_i, cat_r, cat_l, Nat.reduceLeDiff, Nat.zero_le, Nat.le_refl, x_aload_n2, K_233, x_icmp_eq, e1', e2', L_277_1235, L_277_1257]
theorem lw_26 (hi : i + 6 ≤ sc.1) (h3 : sc.1 ≤ 3072) (hk : k ≤ 512) (W : WZ z k) (hc : cu ≤ 601024) (hs : su ≤ 7293034) : ∃ z2, WZ z2 (k + 1) ∧ Lm sc pp 277 1262 [some (.ref 1000), some (.ref 0), some (.ref 197), some (.ref 239), some (.int (nI i)), o5, o6] [] cu su z = Lm sc pp 277 1626 [some (.ref 1000), some (.ref 0), some (.ref 197), some (.ref 239), some (.int (nI i)), o5, o6] [] cu su z2 := by
  obtain ⟨z1, z2, r, e1, e2, kz, W2⟩ := both (A := fun h => Lm sc pp 235 0 [some (.ref 0), some (.int (sc.2 (i + 1)))] [] 0 0 h) (B := fun g => Lm sc pp 238 0 [some (.ref 197), some (.int (sc.2 (i + 1))), none] [] 0 0 g) W (fun h g c d co st im hs nt ax hl n I D H w xw yw => (q_slipped (sc := sc) (pp := pp) _ (mkQW I D w)).out I D H w)
  have e1' : Lm sc pp 235 0 [some (.ref 0), some (.int (sc.2 (i + 1)))] [] 0 0 z = some (z1, some r) := e1
  have e2' : Lm sc pp 238 0 [some (.ref 197), some (.int (sc.2 (i + 1))), none] [] 0 0 z1 = some (z2, some r) := e2
  obtain ⟨x, rfl⟩ : ∃ x, r = .int x := isV_0 (Lm_V (κ := 0) (by decide) (by decide +kernel) e1')
  have k0 : kd z 0 = 11 := W.k0
  have k197 : kd z1 197 = 12 := by rw [kz]; exact W.k197
  refine ⟨z2, W2, ?_⟩
  rw [L_277_1262]
  simp (disch := first | assumption | omega | exact Nat.le_of_ble_eq_true rfl | fail) only [x_nil, Nat.reduceAdd, la1, la2, la3, la4, la5, if_true, eq_self, lg_self, x_aload_n1, x_aload_n0, x_iload4, x_iconst_1, x_iadd, xl_iald, K_235, bindR_some, toL_s, toL_n, ap_n, ap_c, List.map_nil, List.map_cons, List.sum_nil, List.sum_cons, cat_i, cat_r, cat_l, Nat.reduceLeDiff, Nat.zero_le, Nat.le_refl, x_aload_n2, K_238, x_icmp_eq, e1', e2', L_277_1272, L_277_1282]
theorem lw_27 (hi : i + 6 ≤ sc.1) (h3 : sc.1 ≤ 3072) (hk : k ≤ 512) (W : WZ z k) (hc : cu ≤ 601024) (hs : su ≤ 7293034) : ∃ z2, WZ z2 (k + 1) ∧ Lm sc pp 277 1287 [some (.ref 1000), some (.ref 0), some (.ref 197), some (.ref 239), some (.int (nI i)), o5, o6] [] cu su z = Lm sc pp 277 1626 [some (.ref 1000), some (.ref 0), some (.ref 197), some (.ref 239), some (.int (nI i)), o5, o6] [] cu su z2 := by
  obtain ⟨z1, z2, r, e1, e2, kz, W2⟩ := both (A := fun h => Lm sc pp 239 0 [some (.ref 0), some (.int (sc.2 (i + 1))), some (.int (sc.2 (i + 2)))] [] 0 0 h) (B := fun g => Lm sc pp 240 0 [some (.ref 197), some (.int (sc.2 (i + 1))), some (.int (sc.2 (i + 2))), none] [] 0 0 g) W (fun h g c d co st im hs nt ax hl n I D H w xw yw => (q_behind (sc := sc) (pp := pp) _ _ (mkQW I D w)).out I D H w)
  have e1' : Lm sc pp 239 0 [some (.ref 0), some (.int (sc.2 (i + 1))), some (.int (sc.2 (i + 2)))] [] 0 0 z = some (z1, some r) := e1
  have e2' : Lm sc pp 240 0 [some (.ref 197), some (.int (sc.2 (i + 1))), some (.int (sc.2 (i + 2))), none] [] 0 0 z1 = some (z2, some r) := e2
  obtain ⟨x, rfl⟩ : ∃ x, r = .int x := isV_0 (Lm_V (κ := 0) (by decide) (by decide +kernel) e1')
  have k0 : kd z 0 = 11 := W.k0
  have k197 : kd z1 197 = 12 := by rw [kz]; exact W.k197
  refine ⟨z2, W2, ?_⟩
  rw [L_277_1287]
  simp (disch := first | assumption | omega | exact Nat.le_of_ble_eq_true rfl | fail) only [x_nil, Nat.reduceAdd, la1, la2, la3, la4, la5, if_true, eq_self, lg_self, x_aload_n1, x_aload_n0, x_iload4, x_iconst_1, x_iadd, xl_iald, x_iconst_2, K_239, bindR_some, toL_s, toL_n, ap_n, ap_c, List.map_nil, List.map_cons, List.sum_nil, List.sum_cons, cat_i, cat_r, cat_l, Nat.reduceLeDiff, Nat.zero_le, Nat.le_refl, x_aload_n2, K_240, x_icmp_eq, e1', e2', L_277_1303, L_277_1319]
theorem lw_29 (hi : i + 6 ≤ sc.1) (h3 : sc.1 ≤ 3072) (hk : k ≤ 512) (W : WZ z k) (hc : cu ≤ 601024) (hs : su ≤ 7293034) : ∃ z2, WZ z2 (k + 1) ∧ Lm sc pp 277 1401 [some (.ref 1000), some (.ref 0), some (.ref 197), some (.ref 239), some (.int (nI i)), o5, o6] [] cu su z = Lm sc pp 277 1626 [some (.ref 1000), some (.ref 0), some (.ref 197), some (.ref 239), some (.int (nI i)), o5, o6] [] cu su z2 := by
  obtain ⟨z1, z2, r, e1, e2, kz, W2⟩ := both (A := fun h => Lm sc pp 247 0 [some (.ref 0), some (.int (sc.2 (i + 1)))] [] 0 0 h) (B := fun g => Lm sc pp 248 0 [some (.ref 197), some (.int (sc.2 (i + 1)))] [] 0 0 g) W (fun h g c d co st im hs nt ax hl n I D H w xw yw => o_strike (sc := sc) (pp := pp) _ I D H w)
  have e1' : Lm sc pp 247 0 [some (.ref 0), some (.int (sc.2 (i + 1)))] [] 0 0 z = some (z1, some r) := e1
  have e2' : Lm sc pp 248 0 [some (.ref 197), some (.int (sc.2 (i + 1)))] [] 0 0 z1 = some (z2, some r) := e2
  obtain ⟨x, rfl⟩ : ∃ x, r = .int x := isV_0 (Lm_V (κ := 0) (by decide) (by decide +kernel) e1')
  have k0 : kd z 0 = 11 := W.k0
  have k197 : kd z1 197 = 12 := by rw [kz]; exact W.k197
  refine ⟨z2, W2, ?_⟩
  rw [L_277_1401]
  simp (disch := first | assumption | omega | exact Nat.le_of_ble_eq_true rfl | fail) only [x_nil, Nat.reduceAdd, la1, la2, la3, la4, la5, if_true, eq_self, lg_self, x_aload_n1, x_aload_n0, x_iload4, x_iconst_1, x_iadd, xl_iald, K_247, bindR_some, toL_s, toL_n, ap_n, ap_c, List.map_nil, List.map_cons, List.sum_nil, List.sum_cons, cat_i, cat_r, cat_l, Nat.reduceLeDiff, Nat.zero_le, Nat.le_refl, x_aload_n2, K_248, x_icmp_eq, e1', e2', L_277_1411, L_277_1421]
theorem lw_30 (hi : i + 6 ≤ sc.1) (h3 : sc.1 ≤ 3072) (hk : k ≤ 512) (W : WZ z k) (hc : cu ≤ 601024) (hs : su ≤ 7293034) : ∃ z2, WZ z2 (k + 1) ∧ Lm sc pp 277 1426 [some (.ref 1000), some (.ref 0), some (.ref 197), some (.ref 239), some (.int (nI i)), o5, o6] [] cu su z = Lm sc pp 277 1626 [some (.ref 1000), some (.ref 0), some (.ref 197), some (.ref 239), some (.int (nI i)), o5, o6] [] cu su z2 := by
  obtain ⟨z1, z2, r, e1, e2, kz, W2⟩ := both (A := fun h => Lm sc pp 249 0 [some (.ref 0), some (.int (sc.2 (i + 1)))] [] 0 0 h) (B := fun g => Lm sc pp 250 0 [some (.ref 197), some (.int (sc.2 (i + 1)))] [] 0 0 g) W (fun h g c d co st im hs nt ax hl n I D H w xw yw => o_known (sc := sc) (pp := pp) _ I D H w)
  have e1' : Lm sc pp 249 0 [some (.ref 0), some (.int (sc.2 (i + 1)))] [] 0 0 z = some (z1, some r) := e1
  have e2' : Lm sc pp 250 0 [some (.ref 197), some (.int (sc.2 (i + 1)))] [] 0 0 z1 = some (z2, some r) := e2
  obtain ⟨x, rfl⟩ : ∃ x, r = .int x := isV_0 (Lm_V (κ := 0) (by decide) (by decide +kernel) e1')
  have k0 : kd z 0 = 11 := W.k0
  have k197 : kd z1 197 = 12 := by rw [kz]; exact W.k197
  refine ⟨z2, W2, ?_⟩
  rw [L_277_1426]
  simp (disch := first | assumption | omega | exact Nat.le_of_ble_eq_true rfl | fail) only [x_nil, Nat.reduceAdd, la1, la2, la3, la4, la5, if_true, eq_self, lg_self, x_aload_n1, x_aload_n0, x_iload4, x_iconst_1, x_iadd, xl_iald, K_249, bindR_some, toL_s, toL_n, ap_n, ap_c, List.map_nil, List.map_cons, List.sum_nil, List.sum_cons, cat_i, cat_r, cat_l, Nat.reduceLeDiff, Nat.zero_le, Nat.le_refl, x_aload_n2, K_250, x_icmp_eq, e1', e2', L_277_1436, L_277_1446]
theorem lw_31 (hi : i + 6 ≤ sc.1) (h3 : sc.1 ≤ 3072) (hk : k ≤ 512) (W : WZ z k) (hc : cu ≤ 601024) (hs : su ≤ 7293034) : ∃ z2, WZ z2 (k + 1) ∧ Lm sc pp 277 1451 [some (.ref 1000), some (.ref 0), some (.ref 197), some (.ref 239), some (.int (nI i)), o5, o6] [] cu su z = Lm sc pp 277 1626 [some (.ref 1000), some (.ref 0), some (.ref 197), some (.ref 239), some (.int (nI i)), o5, o6] [] cu su z2 := by
  obtain ⟨z1, z2, r, e1, e2, kz, W2⟩ := both (A := fun h => Lm sc pp 255 0 [some (.ref 0), some (.int (sc.2 (i + 1))), none, none] [] 0 0 h) (B := fun g => Lm sc pp 259 0 [some (.ref 197), some (.int (sc.2 (i + 1))), none, none] [] 0 0 g) W (fun h g c d co st im hs nt ax hl n I D H w xw yw => (q_knew (sc := sc) (pp := pp) _ (mkQW I D w) D.2.2.2.2.2.1 w.2.2.2.2.1).out I D H w)
  have e1' : Lm sc pp 255 0 [some (.ref 0), some (.int (sc.2 (i + 1))), none, none] [] 0 0 z = some (z1, some r) := e1
  have e2' : Lm sc pp 259 0 [some (.ref 197), some (.int (sc.2 (i + 1))), none, none] [] 0 0 z1 = some (z2, some r) := e2
  obtain ⟨x, rfl⟩ : ∃ x, r = .int x := isV_0 (Lm_V (κ := 0) (by decide) (by decide +kernel) e1')
  have k0 : kd z 0 = 11 := W.k0
  have k197 : kd z1 197 = 12 := by rw [kz]; exact W.k197
  refine ⟨z2, W2, ?_⟩
  rw [L_277_1451]
  simp (disch := first | assumption | omega | exact Nat.le_of_ble_eq_true rfl | fail) only [x_nil, Nat.reduceAdd, la1, la2, la3, la4, la5, if_true, eq_self, lg_self, x_aload_n1, x_aload_n0, x_iload4, x_iconst_1, x_iadd, xl_iald, K_255, bindR_some, toL_s, toL_n, ap_n, ap_c, List.map_nil, List.map_cons, List.sum_nil, List.sum_cons, cat_i, cat_r, cat_l, Nat.reduceLeDiff, Nat.zero_le, Nat.le_refl, x_aload_n2, K_259, x_icmp_eq, e1', e2', L_277_1461, L_277_1471]
theorem lw_32 (hi : i + 6 ≤ sc.1) (h3 : sc.1 ≤ 3072) (hk : k ≤ 512) (W : WZ z k) (hc : cu ≤ 601024) (hs : su ≤ 7293034) : ∃ z2, WZ z2 (k + 1) ∧ Lm sc pp 277 1476 [some (.ref 1000), some (.ref 0), some (.ref 197), some (.ref 239), some (.int (nI i)), o5, o6] [] cu su z = Lm sc pp 277 1626 [some (.ref 1000), some (.ref 0), some (.ref 197), some (.ref 239), some (.int (nI i)), o5, o6] [] cu su z2 := by
  obtain ⟨z1, z2, r, e1, e2, kz, W2⟩ := both (A := fun h => Lm sc pp 260 0 [some (.ref 0), some (.int (sc.2 (i + 1))), some (.int (sc.2 (i + 2))), some (.int (sc.2 (i + 3))), none, none, none] [] 0 0 h) (B := fun g => Lm sc pp 261 0 [some (.ref 197), some (.int (sc.2 (i + 1))), some (.int (sc.2 (i + 2))), some (.int (sc.2 (i + 3))), none, none, none, none, none] [] 0 0 g) W (fun h g c d co st im hs nt ax hl n I D H w xw yw => (q_chance (sc := sc) (pp := pp) _ _ _ (mkQW I D w)).out I D H w)
  have e1' : Lm sc pp 260 0 [some (.ref 0), some (.int (sc.2 (i + 1))), some (.int (sc.2 (i + 2))), some (.int (sc.2 (i + 3))), none, none, none] [] 0 0 z = some (z1, some r) := e1
  have e2' : Lm sc pp 261 0 [some (.ref 197), some (.int (sc.2 (i + 1))), some (.int (sc.2 (i + 2))), some (.int (sc.2 (i + 3))), none, none, none, none, none] [] 0 0 z1 = some (z2, some r) := e2
  obtain ⟨x, rfl⟩ : ∃ x, r = .int x := isV_0 (Lm_V (κ := 0) (by decide) (by decide +kernel) e1')
  have k0 : kd z 0 = 11 := W.k0
  have k197 : kd z1 197 = 12 := by rw [kz]; exact W.k197
  refine ⟨z2, W2, ?_⟩
  rw [L_277_1476]
  simp (disch := first | assumption | omega | exact Nat.le_of_ble_eq_true rfl | fail) only [x_nil, Nat.reduceAdd, la1, la2, la3, la4, la5, if_true, eq_self, lg_self, x_aload_n1, x_aload_n0, x_iload4, x_iconst_1, x_iadd, xl_iald, x_iconst_2, x_iconst_3, K_260, bindR_some, toL_s, toL_n, ap_n, ap_c, List.map_nil, List.map_cons, List.sum_nil, List.sum_cons, cat_i, cat_r, cat_l, Nat.reduceLeDiff, Nat.zero_le, Nat.le_refl, x_aload_n2, K_261, x_icmp_eq, e1', e2', L_277_1498, L_277_1520]
theorem lw_33 (hi : i + 6 ≤ sc.1) (h3 : sc.1 ≤ 3072) (hk : k ≤ 512) (W : WZ z k) (hc : cu ≤ 601024) (hs : su ≤ 7293034) : ∃ z2, WZ z2 (k + 1) ∧ Lm sc pp 277 1525 [some (.ref 1000), some (.ref 0), some (.ref 197), some (.ref 239), some (.int (nI i)), o5, o6] [] cu su z = Lm sc pp 277 1626 [some (.ref 1000), some (.ref 0), some (.ref 197), some (.ref 239), some (.int (nI i)), o5, o6] [] cu su z2 := by
  obtain ⟨z1, z2, r, e1, e2, kz, W2⟩ := both (A := fun h => Lm sc pp 264 0 [some (.ref 0), some (.int (sc.2 (i + 1))), some (.int (sc.2 (i + 2))), none] [] 0 0 h) (B := fun g => Lm sc pp 265 0 [some (.ref 197), some (.int (sc.2 (i + 1))), some (.int (sc.2 (i + 2))), none] [] 0 0 g) W (fun h g c d co st im hs nt ax hl n I D H w xw yw => (q_tried (sc := sc) (pp := pp) _ _ (mkQW I D w)).out I D H w)
  have e1' : Lm sc pp 264 0 [some (.ref 0), some (.int (sc.2 (i + 1))), some (.int (sc.2 (i + 2))), none] [] 0 0 z = some (z1, some r) := e1
  have e2' : Lm sc pp 265 0 [some (.ref 197), some (.int (sc.2 (i + 1))), some (.int (sc.2 (i + 2))), none] [] 0 0 z1 = some (z2, some r) := e2
  obtain ⟨x, rfl⟩ : ∃ x, r = .int x := isV_0 (Lm_V (κ := 0) (by decide) (by decide +kernel) e1')
  have k0 : kd z 0 = 11 := W.k0
  have k197 : kd z1 197 = 12 := by rw [kz]; exact W.k197
  refine ⟨z2, W2, ?_⟩
  rw [L_277_1525]
  simp (disch := first | assumption | omega | exact Nat.le_of_ble_eq_true rfl | fail) only [x_nil, Nat.reduceAdd, la1, la2, la3, la4, la5, if_true, eq_self, lg_self, x_aload_n1, x_aload_n0, x_iload4, x_iconst_1, x_iadd, xl_iald, x_iconst_2, K_264, bindR_some, toL_s, toL_n, ap_n, ap_c, List.map_nil, List.map_cons, List.sum_nil, List.sum_cons, cat_i, cat_r, cat_l, Nat.reduceLeDiff, Nat.zero_le, Nat.le_refl, x_aload_n2, K_265, x_icmp_eq, e1', e2', L_277_1541, L_277_1557]
theorem lw_34 (hi : i + 6 ≤ sc.1) (h3 : sc.1 ≤ 3072) (hk : k ≤ 512) (W : WZ z k) (hc : cu ≤ 601024) (hs : su ≤ 7293034) : ∃ z2, WZ z2 (k + 1) ∧ Lm sc pp 277 1562 [some (.ref 1000), some (.ref 0), some (.ref 197), some (.ref 239), some (.int (nI i)), o5, o6] [] cu su z = Lm sc pp 277 1626 [some (.ref 1000), some (.ref 0), some (.ref 197), some (.ref 239), some (.int (nI i)), o5, o6] [] cu su z2 := by
  obtain ⟨z1, z2, r, e1, e2, kz, W2⟩ := both (A := fun h => Lm sc pp 267 0 [some (.ref 0)] [] 0 0 h) (B := fun g => Lm sc pp 269 0 [some (.ref 197)] [] 0 0 g) W (fun h g c d co st im hs nt ax hl n I D H w xw yw => o_undo (sc := sc) (pp := pp)  I D H w)
  have e1' : Lm sc pp 267 0 [some (.ref 0)] [] 0 0 z = some (z1, some r) := e1
  have e2' : Lm sc pp 269 0 [some (.ref 197)] [] 0 0 z1 = some (z2, some r) := e2
  obtain ⟨x, rfl⟩ : ∃ x, r = .int x := isV_0 (Lm_V (κ := 0) (by decide) (by decide +kernel) e1')
  have k0 : kd z 0 = 11 := W.k0
  have k197 : kd z1 197 = 12 := by rw [kz]; exact W.k197
  refine ⟨z2, W2, ?_⟩
  rw [L_277_1562]
  simp (disch := first | assumption | omega | exact Nat.le_of_ble_eq_true rfl | fail) only [x_nil, Nat.reduceAdd, la1, la2, la3, la4, la5, if_true, eq_self, lg_self, x_aload_n1, K_267, bindR_some, toL_s, toL_n, ap_n, ap_c, List.map_nil, List.map_cons, List.sum_nil, List.sum_cons, cat_i, cat_r, cat_l, Nat.reduceLeDiff, Nat.zero_le, Nat.le_refl, x_aload_n2, K_269, x_icmp_eq, e1', e2', L_277_1566, L_277_1570]
theorem lw_35 (hi : i + 6 ≤ sc.1) (h3 : sc.1 ≤ 3072) (hk : k ≤ 512) (W : WZ z k) (hc : cu ≤ 601024) (hs : su ≤ 7293034) : ∃ z2, WZ z2 (k + 1) ∧ Lm sc pp 277 1575 [some (.ref 1000), some (.ref 0), some (.ref 197), some (.ref 239), some (.int (nI i)), o5, o6] [] cu su z = Lm sc pp 277 1626 [some (.ref 1000), some (.ref 0), some (.ref 197), some (.ref 239), some (.int (nI i)), o5, o6] [] cu su z2 := by
  obtain ⟨z1, z2, r, e1, e2, kz, W2⟩ := both (A := fun h => Lm sc pp 270 0 [some (.ref 0)] [] 0 0 h) (B := fun g => Lm sc pp 271 0 [some (.ref 197)] [] 0 0 g) W (fun h g c d co st im hs nt ax hl n I D H w xw yw => o_keep (sc := sc) (pp := pp)  I D H w)
  have e1' : Lm sc pp 270 0 [some (.ref 0)] [] 0 0 z = some (z1, some r) := e1
  have e2' : Lm sc pp 271 0 [some (.ref 197)] [] 0 0 z1 = some (z2, some r) := e2
  obtain ⟨x, rfl⟩ : ∃ x, r = .int x := isV_0 (Lm_V (κ := 0) (by decide) (by decide +kernel) e1')
  have k0 : kd z 0 = 11 := W.k0
  have k197 : kd z1 197 = 12 := by rw [kz]; exact W.k197
  refine ⟨z2, W2, ?_⟩
  rw [L_277_1575]
  simp (disch := first | assumption | omega | exact Nat.le_of_ble_eq_true rfl | fail) only [x_nil, Nat.reduceAdd, la1, la2, la3, la4, la5, if_true, eq_self, lg_self, x_aload_n1, K_270, bindR_some, toL_s, toL_n, ap_n, ap_c, List.map_nil, List.map_cons, List.sum_nil, List.sum_cons, cat_i, cat_r, cat_l, Nat.reduceLeDiff, Nat.zero_le, Nat.le_refl, x_aload_n2, K_271, x_icmp_eq, e1', e2', L_277_1579, L_277_1583]
theorem lw_36 (hi : i + 6 ≤ sc.1) (h3 : sc.1 ≤ 3072) (hk : k ≤ 512) (W : WZ z k) (hc : cu ≤ 601024) (hs : su ≤ 7293034) : ∃ z2, WZ z2 (k + 1) ∧ Lm sc pp 277 1588 [some (.ref 1000), some (.ref 0), some (.ref 197), some (.ref 239), some (.int (nI i)), o5, o6] [] cu su z = Lm sc pp 277 1626 [some (.ref 1000), some (.ref 0), some (.ref 197), some (.ref 239), some (.int (nI i)), o5, o6] [] cu su z2 := by
  obtain ⟨z1, z2, r, e1, e2, kz, W2⟩ := both (A := fun h => Lm sc pp 272 0 [some (.ref 0)] [] 0 0 h) (B := fun g => Lm sc pp 273 0 [some (.ref 197)] [] 0 0 g) W (fun h g c d co st im hs nt ax hl n I D H w xw yw => o_back (sc := sc) (pp := pp)  I D H w)
  have e1' : Lm sc pp 272 0 [some (.ref 0)] [] 0 0 z = some (z1, some r) := e1
  have e2' : Lm sc pp 273 0 [some (.ref 197)] [] 0 0 z1 = some (z2, some r) := e2
  obtain ⟨x, rfl⟩ : ∃ x, r = .int x := isV_0 (Lm_V (κ := 0) (by decide) (by decide +kernel) e1')
  have k0 : kd z 0 = 11 := W.k0
  have k197 : kd z1 197 = 12 := by rw [kz]; exact W.k197
  refine ⟨z2, W2, ?_⟩
  rw [L_277_1588]
  simp (disch := first | assumption | omega | exact Nat.le_of_ble_eq_true rfl | fail) only [x_nil, Nat.reduceAdd, la1, la2, la3, la4, la5, if_true, eq_self, lg_self, x_aload_n1, K_272, bindR_some, toL_s, toL_n, ap_n, ap_c, List.map_nil, List.map_cons, List.sum_nil, List.sum_cons, cat_i, cat_r, cat_l, Nat.reduceLeDiff, Nat.zero_le, Nat.le_refl, x_aload_n2, K_273, x_icmp_eq, e1', e2', L_277_1592, L_277_1596]
theorem lw_37 (hi : i + 6 ≤ sc.1) (h3 : sc.1 ≤ 3072) (hk : k ≤ 512) (W : WZ z k) (hc : cu ≤ 601024) (hs : su ≤ 7293034) : ∃ z2, WZ z2 (k + 1) ∧ Lm sc pp 277 1601 [some (.ref 1000), some (.ref 0), some (.ref 197), some (.ref 239), some (.int (nI i)), o5, o6] [] cu su z = Lm sc pp 277 1626 [some (.ref 1000), some (.ref 0), some (.ref 197), some (.ref 239), some (.int (nI i)), o5, o6] [] cu su z2 := by
  obtain ⟨z1, z2, r, e1, e2, kz, W2⟩ := both (A := fun h => Lm sc pp 275 0 [some (.ref 0), some (.int (sc.2 (i + 1)))] [] 0 0 h) (B := fun g => Lm sc pp 276 0 [some (.ref 197), some (.int (sc.2 (i + 1))), none, none] [] 0 0 g) W (fun h g c d co st im hs nt ax hl n I D H w xw yw => o_count (sc := sc) (pp := pp) _ I D H w)
  have e1' : Lm sc pp 275 0 [some (.ref 0), some (.int (sc.2 (i + 1)))] [] 0 0 z = some (z1, some r) := e1
  have e2' : Lm sc pp 276 0 [some (.ref 197), some (.int (sc.2 (i + 1))), none, none] [] 0 0 z1 = some (z2, some r) := e2
  obtain ⟨x, rfl⟩ : ∃ x, r = .int x := isV_0 (Lm_V (κ := 0) (by decide) (by decide +kernel) e1')
  have k0 : kd z 0 = 11 := W.k0
  have k197 : kd z1 197 = 12 := by rw [kz]; exact W.k197
  refine ⟨z2, W2, ?_⟩
  rw [L_277_1601]
  simp (disch := first | assumption | omega | exact Nat.le_of_ble_eq_true rfl | fail) only [x_nil, Nat.reduceAdd, la1, la2, la3, la4, la5, if_true, eq_self, lg_self, x_aload_n1, x_aload_n0, x_iload4, x_iconst_1, x_iadd, xl_iald, K_275, bindR_some, toL_s, toL_n, ap_n, ap_c, List.map_nil, List.map_cons, List.sum_nil, List.sum_cons, cat_i, cat_r, cat_l, Nat.reduceLeDiff, Nat.zero_le, Nat.le_refl, x_aload_n2, K_276, x_icmp_eq, e1', e2', L_277_1611, L_277_1621]
theorem lw_28z (b4 : sc.2 (i + 4) = 0) (hi : i + 6 ≤ sc.1) (h3 : sc.1 ≤ 3072) (hk : k ≤ 512) (W : WZ z k) (hc : cu ≤ 601024) (hs : su ≤ 7293034) : ∃ z2, WZ z2 (k + 1) ∧ Lm sc pp 277 1324 [some (.ref 1000), some (.ref 0), some (.ref 197), some (.ref 239), some (.int (nI i)), o5, o6] [] cu su z = Lm sc pp 277 1626 [some (.ref 1000), some (.ref 0), some (.ref 197), some (.ref 239), some (.int (nI i)), o5, o6] [] cu su z2 := by
  obtain ⟨z1, z2, r, e1, e2, kz, W2⟩ := both (A := fun h => Lm sc pp 243 0 [some (.ref 0), some (.int (sc.2 (i + 1))), some (.int (sc.2 (i + 2))), some (.int (sc.2 (i + 3))), some (.int (0))] [] 0 0 h) (B := fun g => Lm sc pp 245 0 [some (.ref 197), some (.int (sc.2 (i + 1))), some (.int (sc.2 (i + 2))), some (.int (sc.2 (i + 3))), some (.int (0))] [] 0 0 g) W (fun h g c d co st im hs nt ax hl n I D H w xw yw => o_note (sc := sc) (pp := pp) _ _ _ _ (by decide) I D H w)
  have e1' : Lm sc pp 243 0 [some (.ref 0), some (.int (sc.2 (i + 1))), some (.int (sc.2 (i + 2))), some (.int (sc.2 (i + 3))), some (.int (0))] [] 0 0 z = some (z1, some r) := e1
  have e2' : Lm sc pp 245 0 [some (.ref 197), some (.int (sc.2 (i + 1))), some (.int (sc.2 (i + 2))), some (.int (sc.2 (i + 3))), some (.int (0))] [] 0 0 z1 = some (z2, some r) := e2
  obtain ⟨x, rfl⟩ : ∃ x, r = .int x := isV_0 (Lm_V (κ := 0) (by decide) (by decide +kernel) e1')
  have k0 : kd z 0 = 11 := W.k0
  have k197 : kd z1 197 = 12 := by rw [kz]; exact W.k197
  refine ⟨z2, W2, ?_⟩
  rw [L_277_1324]
  simp (disch := first | assumption | omega | exact Nat.le_of_ble_eq_true rfl | fail) only [x_nil, Nat.reduceAdd, la1, la2, la3, la4, la5, if_true, eq_self, lg_self, x_aload_n1, x_aload_n0, x_iload4, x_iconst_1, x_iadd, xl_iald, x_iconst_2, x_iconst_3, x_iconst_4, x_if_eq, x_goto, x_iconst_0, K_243, bindR_some, toL_s, toL_n, ap_n, ap_c, List.map_nil, List.map_cons, List.sum_nil, List.sum_cons, cat_i, cat_r, cat_l, Nat.reduceLeDiff, Nat.zero_le, Nat.le_refl, x_aload_n2, K_245, x_icmp_eq, b4, if_false, e1', e2', L_277_1356, L_277_1357, L_277_1360, L_277_1392, L_277_1393, L_277_1396]
theorem lw_28o (b4 : ¬ sc.2 (i + 4) = 0) (hi : i + 6 ≤ sc.1) (h3 : sc.1 ≤ 3072) (hk : k ≤ 512) (W : WZ z k) (hc : cu ≤ 601024) (hs : su ≤ 7293034) : ∃ z2, WZ z2 (k + 1) ∧ Lm sc pp 277 1324 [some (.ref 1000), some (.ref 0), some (.ref 197), some (.ref 239), some (.int (nI i)), o5, o6] [] cu su z = Lm sc pp 277 1626 [some (.ref 1000), some (.ref 0), some (.ref 197), some (.ref 239), some (.int (nI i)), o5, o6] [] cu su z2 := by
  obtain ⟨z1, z2, r, e1, e2, kz, W2⟩ := both (A := fun h => Lm sc pp 243 0 [some (.ref 0), some (.int (sc.2 (i + 1))), some (.int (sc.2 (i + 2))), some (.int (sc.2 (i + 3))), some (.int (1))] [] 0 0 h) (B := fun g => Lm sc pp 245 0 [some (.ref 197), some (.int (sc.2 (i + 1))), some (.int (sc.2 (i + 2))), some (.int (sc.2 (i + 3))), some (.int (1))] [] 0 0 g) W (fun h g c d co st im hs nt ax hl n I D H w xw yw => o_note (sc := sc) (pp := pp) _ _ _ _ (by decide) I D H w)
  have e1' : Lm sc pp 243 0 [some (.ref 0), some (.int (sc.2 (i + 1))), some (.int (sc.2 (i + 2))), some (.int (sc.2 (i + 3))), some (.int (1))] [] 0 0 z = some (z1, some r) := e1
  have e2' : Lm sc pp 245 0 [some (.ref 197), some (.int (sc.2 (i + 1))), some (.int (sc.2 (i + 2))), some (.int (sc.2 (i + 3))), some (.int (1))] [] 0 0 z1 = some (z2, some r) := e2
  obtain ⟨x, rfl⟩ : ∃ x, r = .int x := isV_0 (Lm_V (κ := 0) (by decide) (by decide +kernel) e1')
  have k0 : kd z 0 = 11 := W.k0
  have k197 : kd z1 197 = 12 := by rw [kz]; exact W.k197
  refine ⟨z2, W2, ?_⟩
  rw [L_277_1324]
  simp (disch := first | assumption | omega | exact Nat.le_of_ble_eq_true rfl | fail) only [x_nil, Nat.reduceAdd, la1, la2, la3, la4, la5, if_true, eq_self, lg_self, x_aload_n1, x_aload_n0, x_iload4, x_iconst_1, x_iadd, xl_iald, x_iconst_2, x_iconst_3, x_iconst_4, x_if_eq, x_goto, x_iconst_0, K_243, bindR_some, toL_s, toL_n, ap_n, ap_c, List.map_nil, List.map_cons, List.sum_nil, List.sum_cons, cat_i, cat_r, cat_l, Nat.reduceLeDiff, Nat.zero_le, Nat.le_refl, x_aload_n2, K_245, x_icmp_eq, b4, if_false, e1', e2', L_277_1352, L_277_1357, L_277_1360, L_277_1388, L_277_1393, L_277_1396]
theorem lw_28 (hi : i + 6 ≤ sc.1) (h3 : sc.1 ≤ 3072) (hk : k ≤ 512) (W : WZ z k) (hc : cu ≤ 601024) (hs : su ≤ 7293034) : ∃ z2, WZ z2 (k + 1) ∧ Lm sc pp 277 1324 [some (.ref 1000), some (.ref 0), some (.ref 197), some (.ref 239), some (.int (nI i)), o5, o6] [] cu su z = Lm sc pp 277 1626 [some (.ref 1000), some (.ref 0), some (.ref 197), some (.ref 239), some (.int (nI i)), o5, o6] [] cu su z2 := by
  by_cases b4 : sc.2 (i + 4) = 0
  · exact lw_28z b4 hi h3 hk W hc hs
  · exact lw_28o b4 hi h3 hk W hc hs
end T96_2
