-- the small machine is sound, put together
theorem ret_init : mtab.all (fun q => (q.2.2.2.2.2.1 != 2) || q.2.2.2.1.isNone) = true := by decide +kernel
theorem mR_init {cm : Nat} (hF : mF cm = 2) : mR cm = none := by
  have h1 := List.all_eq_true.mp ret_init _ (mt_in (cm := cm) (by omega))
  unfold mF at hF
  unfold mR
  rw [hF] at h1
  simpa using h1
section Snd2
variable {l : Launch} {D : va_G} {cy : Nat → ClassId} {base : Nat} {ext : Nat → Nat} {sc : Nat × (Nat → Int32)} {pp : Nat → Nat → Int32 → Int32 → Hp → Option (Hp × Int32)} {rec : Rec} {k : Knt} {mi pc : Nat} {lv : Lv} {st : List Value} {cu su : Nat} {h : Hp} {res : Hp × Option Value}
theorem run_S {cm ix pos : Nat} {as rest : List Value} {rs : Hp × Option Value} (hd : decode (mC mi) pc = .ok (.invokestatic ix, 3)) (hF : mF cm = 0) (hlk : lw_tbl[pos]? = some (.methodLink (ownS (mO mi)) ix (mY cm))) (r1 : mP cm 5 + 1 ≤ mP mi 5) (r2 : 8 + (mL cm + 11) + mP cm 6 ≤ mP mi 6)
    (hlen : as.length = mP cm 4) (h8 : (rest.map fun v => v.category).sum ≤ 8) (g4 : cu + mP cm 7 ≤ mP mi 7) (g5 : su + mP cm 8 ≤ mP mi 8) (hM : Ct l D cy base ext cm as h rs) {p : Program} {e : Env} {s : State} {m : MethodId} {args : Array Value} {below : List Frame} {meth : Method} {c : Code} (C0 : Cx D cy base ext sc p s m args meth c mi) {H : Heap} {locs : List Loc} {ls : Array Slot} (hW : WHp D cy base ext h H) (hS : va_S (fun q => base ≤ q) s.heap H locs) (hL : LvOK base ext ls (mL mi) lv (LSm mi)) :
    va_Run p l e (mRoom mi) s m args below meth c H locs cu su (mP cm 7) (mP cm 8) (F0 m pc ls ((as.reverse ++ rest).map (tr base ext))) (rest.map (tr base ext)) (QC D cy base ext rs (as.map (tr base ext)).toArray) (fun q => base ≤ q) := by
  obtain ⟨f1, f2, f3, -, -, -, f7, f8, f9, f10, -⟩ := m_facts hF (by omega)
  have hT : GoodIn TW (va_wsS (ownS (mO mi)) ix (mY cm) (wsm cm)) := by
    intro w hw
    rcases List.mem_append.mp hw with hw | hw
    · simp only [List.mem_cons, List.mem_nil_iff, or_false] at hw
      rcases hw with rfl | rfl | rfl
      · exact tw_good (tw_at pos hlk rfl)
      · exact tw_good (f3 rfl)
      · exact tw_good f2
    · exact gi_m f1 w hw
  have hst : (as.reverse ++ rest).map (tr base ext) = (as.map (tr base ext)).reverse ++ rest.map (tr base ext) := by simp
  rw [hst]
  exact va_runS (As := as.map (tr base ext)) (rest := rest.map (tr base ext)) (g := F0 m pc ls ((as.map (tr base ext)).reverse ++ rest.map (tr base ext))) (H := H) (locs := locs) (cells := cu) (slots := su) (e := e) (below := below) (meth := meth) (R := mRoom mi) (cc := mC mi) (nL := mL mi) (Ts := TW) (own := ownS (mO mi)) ⟨C0.1, C0.2.1, C0.2.2.1, C0.2.2.2.1, C0.2.2.2.2.1⟩ hM (va_cwS (mP cm 4) C0.2.2.2.2.1 hT rfl rfl rfl ⟨f8, f9, f10⟩ ⟨r1, r2⟩) ⟨PC_blind, call_pre C0 hW hS⟩ rfl (by simpa using hlen) hL.2.1 rfl (lv_room (by simp only [List.map_map, Function.comp_def, tr_cat]; exact h8)) hd ⟨g4, g5⟩
theorem run_I {cm ix pos nest : Nat} {as rest : List Value} {rs : Hp × Option Value} (hd : decode (mC mi) pc = .ok (.invokespecial ix, 3)) (hF : mF cm = 2) (hlk : (nest = 0 ∧ lw_tbl[pos]? = some (.methodLink (ownS (mO mi)) ix (mY cm))) ∨ lw_tbl[pos]? = some (.methodLinkNest (ownS (mO mi)) ix (mY cm) "AskedCourt")) (r1 : mP cm 5 + 1 ≤ mP mi 5) (r2 : 8 + (mL cm + 11) + mP cm 6 ≤ mP mi 6)
    (hlen : as.length = mP cm 4 + 1) (hok : ∃ a As, as = .ref a :: As) (h8 : (rest.map fun v => v.category).sum ≤ 8) (g4 : cu + mP cm 7 ≤ mP mi 7) (g5 : su + mP cm 8 ≤ mP mi 8) (hM : Ct l D cy base ext cm as h rs) {p : Program} {e : Env} {s : State} {m : MethodId} {args : Array Value} {below : List Frame} {meth : Method} {c : Code} (C0 : Cx D cy base ext sc p s m args meth c mi) {H : Heap} {locs : List Loc} {ls : Array Slot} (hW : WHp D cy base ext h H) (hS : va_S (fun q => base ≤ q) s.heap H locs) (hL : LvOK base ext ls (mL mi) lv (LSm mi)) :
    va_Run p l e (mRoom mi) s m args below meth c H locs cu su (mP cm 7) (mP cm 8) (F0 m pc ls ((as.reverse ++ rest).map (tr base ext))) (rest.map (tr base ext)) (QC D cy base ext rs (as.map (tr base ext)).toArray) (fun q => base ≤ q) := by
  obtain ⟨f1, f2, -, f4, -, f6, f7, f8, f9, f10, -⟩ := m_facts hF (by omega)
  obtain ⟨a, As, rfl⟩ := hok
  have hG := gi_m f1
  have hst : ((Value.ref a :: As).reverse ++ rest).map (tr base ext) = (As.map (tr base ext)).reverse ++ Value.ref (adr base ext a) :: rest.map (tr base ext) := by
    simp [tr]
  have hw : wsm cm = Cond.code (mY cm) (mC cm) (mL cm) none :: TW := by unfold wsm; rw [mR_init hF]
  rw [hst]
  have hPre : PreS s H (PC D cy base ext (.ref a :: As) h) (Value.ref (adr base ext a) :: As.map (tr base ext)) := ⟨PC_blind, call_pre (vs := .ref a :: As) C0 hW hS⟩
  rcases hlk with ⟨-, hlk⟩ | hlk
  · exact va_runI (As := As.map (tr base ext)) (rest := rest.map (tr base ext)) (b := adr base ext a) (g := F0 m pc ls ((As.map (tr base ext)).reverse ++ Value.ref (adr base ext a) :: rest.map (tr base ext))) (H := H) (locs := locs) (cells := cu) (slots := su) (e := e) (below := below) (meth := meth) (R := mRoom mi) (cc := mC mi) (nL := mL mi) (Ts := TW) (own := ownS (mO mi)) ⟨C0.1, C0.2.1, C0.2.2.1, C0.2.2.2.1, C0.2.2.2.2.1⟩ hM (cwI (mP cm 4) C0.2.2.2.2.1 hG hw rfl rfl (C0.2.2.2.2.1 _ f2) (C0.2.2.2.2.1 _ (tw_at pos hlk rfl)) (C0.2.2.2.2.1 _ (f4 (by omega))) (f6 rfl) ⟨f8, f9, f10⟩ ⟨r1, r2⟩) hPre rfl (by simp at hlen; simpa using hlen) hL.2.1 rfl (lv_room (by simp only [List.map_map, Function.comp_def, tr_cat]; exact h8)) hd ⟨g4, g5⟩
  · exact va_runIN (As := As.map (tr base ext)) (rest := rest.map (tr base ext)) (b := adr base ext a) (g := F0 m pc ls ((As.map (tr base ext)).reverse ++ Value.ref (adr base ext a) :: rest.map (tr base ext))) (H := H) (locs := locs) (cells := cu) (slots := su) (e := e) (below := below) (meth := meth) (R := mRoom mi) (cc := mC mi) (nL := mL mi) (Ts := TW) (own := ownS (mO mi)) (host := "AskedCourt") ⟨C0.1, C0.2.1, C0.2.2.1, C0.2.2.2.1, C0.2.2.2.2.1⟩ hM ⟨va_cnB (mP cm 4) C0.2.2.2.2.1 hG hw rfl rfl (C0.2.2.2.2.2.2.1.2.1 _ (List.mem_filter.mpr ⟨List.mem_of_getElem? hlk, rfl⟩)) (C0.2.2.2.2.1 _ f2) ⟨f8, f9, f10⟩ ⟨r1, r2⟩, f6 rfl, C0.2.2.2.2.1 _ (f4 (by omega))⟩ hPre rfl (by simp at hlen; simpa using hlen) hL.2.1 rfl (lv_room (by simp only [List.map_map, Function.comp_def, tr_cat]; exact h8)) hd ⟨g4, g5⟩
theorem chk_dec {q : MT} {pc n : Nat} {i : Instr} {is : List Nat} (hc : chkI q pc (i, n, is) = true) : decode q.2.1 pc = .ok (i, n) := by
  unfold chkI at hc
  simp only [Bool.and_eq_true, decide_eq_true_eq] at hc
  exact hc.1
/-- the call of the law's own 'person', apart -/
def PPok (l : Launch) (D : va_G) (cy : Nat → ClassId) (base : Nat) (ext : Nat → Nat) (sc : Nat × (Nat → Int32)) (pp : Nat → Nat → Int32 → Int32 → Hp → Option (Hp × Int32)) : Prop := ∀ (k : Knt) (pc ix p1 : Nat) (lv : Lv) (st : List Value) (cu su : Nat) (h : Hp) (res : Hp × Option Value), decode (mC 277) pc = .ok (.invokestatic ix, 3) → lw_tbl[p1]? = some (.methodLink "AskedCourtLaw" ix (mY 108)) → KOK l D cy base ext sc k 277 (pc + 3) →
  (pA st fun o st => pI st fun p1 st => pI st fun p0 st => pA st fun x st => if (st.map fun v => v.category).sum ≤ 8 ∧ cu + mP 108 7 ≤ mP 277 7 ∧ su + mP 108 8 ≤ mP 277 8 then (match pp x o p0 p1 h with
      | some (h', r) => k lv (.int r :: st) (cu + mP 108 7) (su + mP 108 8) h'
      | none => none) else none) = some res → RW l D cy base ext sc 277 pc lv st cu su h res
theorem own13 : ∀ mi, mi < 278 → mO mi = 13 → mi = 277 ∨ mi = 108 := by decide +kernel
theorem own_hi {mi : Nat} (h : mO mi = 13) : mi < 278 := by
  apply Nat.lt_of_not_le
  intro hle
  unfold mO mt at h
  have hl : mtab.length = 278 := by decide +kernel
  rw [getD_ge (by rw [hl]; exact hle)] at h
  cases h
theorem cchk_spec {q : MT} {ix cm na pos nest ml c1 s1 c2 s2 : Nat} (hc : cchk q ix cm na pos nest ml c1 s1 c2 s2 = true) : ((nest = 0 ∧ lw_tbl[pos]? = some (.methodLink (ownS q.2.2.2.2.1) ix (mY cm))) ∨ (nest ≠ 0 ∧ lw_tbl[pos]? = some (.methodLinkNest (ownS q.2.2.2.2.1) ix (mY cm) "AskedCourt"))) ∧ ml = mL cm ∧ c1 = mP cm 7 ∧ s1 = mP cm 8 ∧ c2 = q.2.2.2.2.2.2.getD 7 0 ∧ s2 = q.2.2.2.2.2.2.getD 8 0 ∧ mP cm 5 + 1 ≤ q.2.2.2.2.2.2.getD 5 0 ∧ 8 + (ml + 11) + mP cm 6 ≤ q.2.2.2.2.2.2.getD 6 0 ∧ cm < 277 := by
  unfold cchk at hc
  simp only [Bool.and_eq_true, decide_eq_true_eq] at hc
  obtain ⟨⟨⟨⟨⟨⟨⟨⟨a0, a1⟩, a2⟩, a3⟩, a4⟩, a5⟩, a6⟩, a7⟩, a8⟩ := hc
  refine ⟨?_, a1, a2, a3, a4, a5, a6, a7, a8⟩
  by_cases hn : nest = 0
  · rw [if_pos hn] at a0; exact Or.inl ⟨hn, of_decide_eq_true a0⟩
  · rw [if_neg hn] at a0
    simp only [Bool.and_eq_true, decide_eq_true_eq] at a0
    exact Or.inr ⟨hn, a0.2⟩
set_option maxHeartbeats 4000000 in
theorem snd1 {i : Instr} {n : Nat} {is : List Nat} (hr : ROK l D cy base ext sc rec mi) (hk : KOK l D cy base ext sc k mi (pc + n))
    (hcal : ∀ (cm : Nat) (as : List Value) (h : Hp) (rs : Hp × Option Value), cm < 277 → (lvE as (mL cm)).length = mL cm → rec cm 0 (lvE as (mL cm)) [] 0 0 h = some rs → (as.all (fun v => v.category == 1) = true ∨ lsOK (LSm cm) (lvE as (mL cm)) = true) → Ct l D cy base ext cm as h rs)
    (hPP : PPok l D cy base ext sc pp) (hcode : mi ≠ 108) (hc : chkI (mt mi) pc (i, n, is) = true) (hlen : lenOK (i, n, is) = true) (hown : ownOK (mO mi) (i, n, is) = true) (hq : ex1 sc pp rec k mi i is lv st cu su h = some res) : RW l D cy base ext sc mi pc lv st cu su h res := by
  have hd : decode (mC mi) pc = .ok (i, n) := chk_dec hc
  cases i
  case iadd =>
    obtain rfl : n = 1 := by simpa [lenOK] using hlen
    exact so_iadd hd hk hq
  case isub =>
    obtain rfl : n = 1 := by simpa [lenOK] using hlen
    exact so_isub hd hk hq
  case imul =>
    obtain rfl : n = 1 := by simpa [lenOK] using hlen
    exact so_imul hd hk hq
  case iand =>
    obtain rfl : n = 1 := by simpa [lenOK] using hlen
    exact so_iand hd hk hq
  case ior =>
    obtain rfl : n = 1 := by simpa [lenOK] using hlen
    exact so_ior hd hk hq
  case ixor =>
    obtain rfl : n = 1 := by simpa [lenOK] using hlen
    exact so_ixor hd hk hq
  case ishl =>
    obtain rfl : n = 1 := by simpa [lenOK] using hlen
    exact so_ishl hd hk hq
  case ishr =>
    obtain rfl : n = 1 := by simpa [lenOK] using hlen
    exact so_ishr hd hk hq
  case iushr =>
    obtain rfl : n = 1 := by simpa [lenOK] using hlen
    exact so_iushr hd hk hq
  case idiv =>
    obtain rfl : n = 1 := by simpa [lenOK] using hlen
    exact so_idiv hd hk hq
  case irem =>
    obtain rfl : n = 1 := by simpa [lenOK] using hlen
    exact so_irem hd hk hq
  case ladd =>
    obtain rfl : n = 1 := by simpa [lenOK] using hlen
    exact so_ladd hd hk hq
  case lsub =>
    obtain rfl : n = 1 := by simpa [lenOK] using hlen
    exact so_lsub hd hk hq
  case lmul =>
    obtain rfl : n = 1 := by simpa [lenOK] using hlen
    exact so_lmul hd hk hq
  case land =>
    obtain rfl : n = 1 := by simpa [lenOK] using hlen
    exact so_land hd hk hq
  case ldiv =>
    obtain rfl : n = 1 := by simpa [lenOK] using hlen
    exact so_ldiv hd hk hq
  case lrem =>
    obtain rfl : n = 1 := by simpa [lenOK] using hlen
    exact so_lrem hd hk hq
  case lneg =>
    obtain rfl : n = 1 := by simpa [lenOK] using hlen
    exact so_lneg hd hk hq
  case lcmp =>
    obtain rfl : n = 1 := by simpa [lenOK] using hlen
    exact so_lcmp hd hk hq
  case i2l =>
    obtain rfl : n = 1 := by simpa [lenOK] using hlen
    exact so_i2l hd hk hq
  case l2i =>
    obtain rfl : n = 1 := by simpa [lenOK] using hlen
    exact so_l2i hd hk hq
  case i2c =>
    obtain rfl : n = 1 := by simpa [lenOK] using hlen
    exact so_i2c hd hk hq
  case dup =>
    obtain rfl : n = 1 := by simpa [lenOK] using hlen
    exact so_dup hd hk hq
  case dup2 =>
    obtain rfl : n = 1 := by simpa [lenOK] using hlen
    exact so_dup2 hd hk hq
  case pop =>
    obtain rfl : n = 1 := by simpa [lenOK] using hlen
    exact so_pop hd hk hq
  case laload =>
    obtain rfl : n = 1 := by simpa [lenOK] using hlen
    exact so_laload hd hk hq
  case baload =>
    obtain rfl : n = 1 := by simpa [lenOK] using hlen
    exact so_baload hd hk hq
  case aaload =>
    obtain rfl : n = 1 := by simpa [lenOK] using hlen
    exact so_aaload hd hk hq
  case iastore =>
    obtain rfl : n = 1 := by simpa [lenOK] using hlen
    exact so_iastore hd hk hq
  case bastore =>
    obtain rfl : n = 1 := by simpa [lenOK] using hlen
    exact so_bastore hd hk hq
  case lastore =>
    obtain rfl : n = 1 := by simpa [lenOK] using hlen
    exact so_lastore hd hk hq
  case aastore =>
    obtain rfl : n = 1 := by simpa [lenOK] using hlen
    exact so_aastore hd hk hq
  case iconst c =>
    obtain rfl : n = 1 := by simpa [lenOK] using hlen
    exact so_iconst hd hk hq
  case bipush c =>
    obtain rfl : n = 2 := by simpa [lenOK] using hlen
    exact so_bipush hd hk hq
  case sipush c =>
    obtain rfl : n = 3 := by simpa [lenOK] using hlen
    exact so_sipush hd hk hq
  case lconst c =>
    obtain rfl : n = 1 := by simpa [lenOK] using hlen
    exact so_lconst hd hk hq
  case iload m =>
    obtain rfl : n = 2 := by simpa [lenOK] using hlen
    exact so_iload hd hk hq
  case iload_n m =>
    obtain rfl : n = 1 := by simpa [lenOK] using hlen
    exact so_iload_n hd hk hq
  case lload m =>
    obtain rfl : n = 2 := by simpa [lenOK] using hlen
    exact so_lload hd hk hq
  case lload_n m =>
    obtain rfl : n = 1 := by simpa [lenOK] using hlen
    exact so_lload_n hd hk hq
  case aload m =>
    obtain rfl : n = 2 := by simpa [lenOK] using hlen
    exact so_aload hd hk hq
  case aload_n m =>
    obtain rfl : n = 1 := by simpa [lenOK] using hlen
    exact so_aload_n hd hk hq
  case ldc ix =>
    obtain rfl : n = 2 := by simpa [lenOK] using hlen
    match is, hc, hq with
    | [v, pos], hc, hq =>
      simp only [chkI, Bool.and_eq_true, decide_eq_true_eq] at hc
      exact so_ldc hd hk hc.2 hq
    | [], _, hq => cases hq
    | [_], _, hq => cases hq
    | _ :: _ :: _ :: _, _, hq => cases hq
  case ldc_w ix =>
    obtain rfl : n = 3 := by simpa [lenOK] using hlen
    match is, hc, hq with
    | [v, pos], hc, hq =>
      simp only [chkI, Bool.and_eq_true, decide_eq_true_eq] at hc
      exact so_ldc_w hd hk hc.2 hq
    | [], _, hq => cases hq
    | [_], _, hq => cases hq
    | _ :: _ :: _ :: _, _, hq => cases hq
  case ldc2_w ix =>
    obtain rfl : n = 3 := by simpa [lenOK] using hlen
    match is, hc, hq with
    | [v, pos], hc, hq =>
      simp only [chkI, Bool.and_eq_true, decide_eq_true_eq] at hc
      exact so_ldc2 hd hk hc.2 hq
    | [], _, hq => cases hq
    | [_], _, hq => cases hq
    | _ :: _ :: _ :: _, _, hq => cases hq
  case istore m =>
    obtain rfl : n = 2 := by simpa [lenOK] using hlen
    simp only [chkI, Bool.and_eq_true, decide_eq_true_eq] at hc
    have hi : (m : Nat) = 0 ∨ (m : Nat) - 1 ∉ LSm mi := by
      simpa [LSm, List.contains_iff_mem] using hc.2
    exact so_istore hd hk hi hq
  case istore_n m =>
    obtain rfl : n = 1 := by simpa [lenOK] using hlen
    simp only [chkI, Bool.and_eq_true, decide_eq_true_eq] at hc
    have hi : (m : Nat) = 0 ∨ (m : Nat) - 1 ∉ LSm mi := by
      simpa [LSm, List.contains_iff_mem] using hc.2
    exact so_istore_n hd hk hi hq
  case astore m =>
    obtain rfl : n = 2 := by simpa [lenOK] using hlen
    simp only [chkI, Bool.and_eq_true, decide_eq_true_eq] at hc
    have hi : (m : Nat) = 0 ∨ (m : Nat) - 1 ∉ LSm mi := by
      simpa [LSm, List.contains_iff_mem] using hc.2
    exact so_astore hd hk hi hq
  case astore_n m =>
    obtain rfl : n = 1 := by simpa [lenOK] using hlen
    simp only [chkI, Bool.and_eq_true, decide_eq_true_eq] at hc
    have hi : (m : Nat) = 0 ∨ (m : Nat) - 1 ∉ LSm mi := by
      simpa [LSm, List.contains_iff_mem] using hc.2
    exact so_astore_n hd hk hi hq
  case iinc m d =>
    obtain rfl : n = 3 := by simpa [lenOK] using hlen
    simp only [chkI, Bool.and_eq_true, decide_eq_true_eq] at hc
    have hi : m = 0 ∨ m - 1 ∉ LSm mi := by
      simpa [LSm, List.contains_iff_mem] using hc.2
    exact so_iinc hd hk hi hq
  case lstore m =>
    obtain rfl : n = 2 := by simpa [lenOK] using hlen
    simp only [chkI, Bool.and_eq_true, decide_eq_true_eq] at hc
    have hi : (m : Nat) ∈ LSm mi ∧ ((m : Nat) = 0 ∨ (m : Nat) - 1 ∉ LSm mi) := by
      simpa [LSm, List.contains_iff_mem] using hc.2
    exact so_lstore hd hk hi.2 hi.1 hq
  case lstore_n m =>
    obtain rfl : n = 1 := by simpa [lenOK] using hlen
    simp only [chkI, Bool.and_eq_true, decide_eq_true_eq] at hc
    have hi : (m : Nat) ∈ LSm mi ∧ ((m : Nat) = 0 ∨ (m : Nat) - 1 ∉ LSm mi) := by
      simpa [LSm, List.contains_iff_mem] using hc.2
    exact so_lstore_n hd hk hi.2 hi.1 hq
  case goto off =>
    obtain rfl : n = 3 := by simpa [lenOK] using hlen
    match is, hc, hq with
    | [t], hc, hq =>
      simp only [chkI, Bool.and_eq_true, decide_eq_true_eq] at hc
      exact so_goto hd hc.2 hr hq
    | [], _, hq => cases hq
    | _ :: _ :: _, _, hq => cases hq
  case if_icmp cnd off =>
    obtain rfl : n = 3 := by simpa [lenOK] using hlen
    match is, hc, hq with
    | [t], hc, hq =>
      simp only [chkI, Bool.and_eq_true, decide_eq_true_eq] at hc
      cases cnd
      case eq => exact so_icmp_eq hd hk hc.2 hr hq
      case ne => exact so_icmp_ne hd hk hc.2 hr hq
      case lt => exact so_icmp_lt hd hk hc.2 hr hq
      case ge => exact so_icmp_ge hd hk hc.2 hr hq
      case gt => exact so_icmp_gt hd hk hc.2 hr hq
      case le => exact so_icmp_le hd hk hc.2 hr hq
    | [], _, hq => cases hq
    | _ :: _ :: _, _, hq => cases hq
  case ifCond cnd off =>
    obtain rfl : n = 3 := by simpa [lenOK] using hlen
    match is, hc, hq with
    | [t], hc, hq =>
      simp only [chkI, Bool.and_eq_true, decide_eq_true_eq] at hc
      cases cnd
      case eq => exact so_if_eq hd hk hc.2 hr hq
      case ne => exact so_if_ne hd hk hc.2 hr hq
      case lt => exact so_if_lt hd hk hc.2 hr hq
      case ge => exact so_if_ge hd hk hc.2 hr hq
      case gt => exact so_if_gt hd hk hc.2 hr hq
      case le => exact so_if_le hd hk hc.2 hr hq
    | [], _, hq => cases hq
    | _ :: _ :: _, _, hq => cases hq
  case tableswitch d lo hi offs =>
    match is, hc, hq with
    | dd :: ts, hc, hq =>
      simp only [chkI, Bool.and_eq_true, decide_eq_true_eq] at hc
      exact so_table hd hr hc.2.1.1 hc.2.1.2 hc.2.2 hq
    | [], _, hq => cases hq
  case lookupswitch d ps =>
    match is, hc, hq with
    | dd :: ts, hc, hq =>
      simp only [chkI, Bool.and_eq_true, decide_eq_true_eq] at hc
      exact so_lookup hd hr hc.2.1.1 hc.2.1.2 hc.2.2 hq
    | [], _, hq => cases hq
  case getfield ix =>
    obtain rfl : n = 3 := by simpa [lenOK] using hlen
    match is, hc, hq with
    | [ci, j, t, pos, nest], hc, hq =>
      simp only [chkI, Bool.and_eq_true, decide_eq_true_eq] at hc
      exact so_getf hd hk hc.2 hq
    | [], _, hq => cases hq
    | [_], _, hq => cases hq
    | [_, _], _, hq => cases hq
    | [_, _, _], _, hq => cases hq
    | [_, _, _, _], _, hq => cases hq
    | _ :: _ :: _ :: _ :: _ :: _ :: _, _, hq => cases hq
  case putfield ix =>
    obtain rfl : n = 3 := by simpa [lenOK] using hlen
    match is, hc, hown, hq with
    | [ci, j, t, pos, nest, fin], hc, hown, hq =>
      simp only [chkI, Bool.and_eq_true, decide_eq_true_eq] at hc
      have ho : fin = 0 ∨ ownS (mO mi) = ownS ci := by
        simp only [ownOK, Bool.or_eq_true, beq_iff_eq] at hown
        rcases hown with hx | hx
        · exact Or.inl hx
        · exact Or.inr (by rw [hx])
      exact so_putf hd hk hc.2.1 hc.2.2 ho hq
    | [], _, _, hq => cases hq
    | [_], _, _, hq => cases hq
    | [_, _], _, _, hq => cases hq
    | [_, _, _], _, _, hq => cases hq
    | [_, _, _, _], _, _, hq => cases hq
    | [_, _, _, _, _], _, _, hq => cases hq
    | _ :: _ :: _ :: _ :: _ :: _ :: _ :: _, _, _, hq => cases hq
  case iaload =>
    obtain rfl : n = 1 := by simpa [lenOK] using hlen
    by_cases hmi : mi = 277
    · have hq' : (if mi = 277 then (pI st fun i st => pA st fun a st => if a = 1000 ∧ ¬ (i < 0 ∨ sc.1 ≤ i.toNatClampNeg) then k lv (.int (sc.2 i.toNatClampNeg) :: st) cu su h else none) else pI st fun i st => pA st fun a st => if kd h a = 13 ∧ ¬ (i < 0 ∨ hN h a ≤ i.toNatClampNeg) then k lv (.int (hI h a i.toNatClampNeg) :: st) cu su h else none) = some res := hq
      rw [if_pos hmi] at hq'
      exact so_sload hmi hd hk hq'
    · have hq' : (if mi = 277 then (pI st fun i st => pA st fun a st => if a = 1000 ∧ ¬ (i < 0 ∨ sc.1 ≤ i.toNatClampNeg) then k lv (.int (sc.2 i.toNatClampNeg) :: st) cu su h else none) else pI st fun i st => pA st fun a st => if kd h a = 13 ∧ ¬ (i < 0 ∨ hN h a ≤ i.toNatClampNeg) then k lv (.int (hI h a i.toNatClampNeg) :: st) cu su h else none) = some res := hq
      rw [if_neg hmi] at hq'
      exact so_iaload hmi hd hk hq'
  case arraylength =>
    obtain rfl : n = 1 := by simpa [lenOK] using hlen
    by_cases hmi : mi = 277
    · have hq' : (if mi = 277 then (pA st fun a st => if a = 1000 then k lv (.int (Int32.ofNat sc.1) :: st) cu su h else none) else pA st fun a st => if 13 ≤ kd h a ∧ kd h a ≤ 16 then k lv (.int (Int32.ofNat (hN h a)) :: st) cu su h else none) = some res := hq
      rw [if_pos hmi] at hq'
      exact so_slen hmi hd hk hq'
    · have hq' : (if mi = 277 then (pA st fun a st => if a = 1000 then k lv (.int (Int32.ofNat sc.1) :: st) cu su h else none) else pA st fun a st => if 13 ≤ kd h a ∧ kd h a ≤ 16 then k lv (.int (Int32.ofNat (hN h a)) :: st) cu su h else none) = some res := hq
      rw [if_neg hmi] at hq'
      exact so_alen hd hk hq'
  case newarray t =>
    obtain rfl : n = 2 := by simpa [lenOK] using hlen
    match is, hc, hq with
    | [c2, s2], hc, hq =>
      simp only [chkI, Bool.and_eq_true, decide_eq_true_eq] at hc
      refine so_newarray hd hk hc.2.1.1 hc.2.1.2 ?_ hq
      cases t
      case int => exact Or.inl rfl
      case long => exact Or.inr (Or.inl rfl)
      case boolean => exact Or.inr (Or.inr rfl)
      all_goals (have := hc.2.2; cases this)
    | [], _, hq => cases hq
    | [_], _, hq => cases hq
    | _ :: _ :: _ :: _, _, hq => cases hq
  case anewarray ix =>
    obtain rfl : n = 3 := by simpa [lenOK] using hlen
    match is, hc, hq with
    | [c2, s2, pos], hc, hq =>
      simp only [chkI, Bool.and_eq_true, decide_eq_true_eq] at hc
      exact so_anew hd hk hc.2.1.1 hc.2.1.2 hc.2.2 hq
    | [], _, hq => cases hq
    | [_], _, hq => cases hq
    | [_, _], _, hq => cases hq
    | _ :: _ :: _ :: _ :: _, _, hq => cases hq
  case new ix =>
    obtain rfl : n = 3 := by simpa [lenOK] using hlen
    match is, hc, hq with
    | [ci, nf, c2, s2, p1, p2, p3], hc, hq =>
      simp only [chkI, Bool.and_eq_true, decide_eq_true_eq] at hc
      cases hcl : vwCl[ci]? with
      | none => rw [hcl] at hc; cases hc.2.2
      | some q =>
        obtain ⟨C, T, N⟩ := q
        rw [hcl] at hc
        simp only [Bool.and_eq_true, decide_eq_true_eq] at hc
        exact so_new hd hk hc.2.1.1 hc.2.1.2 hcl hc.2.2.1.1.1 hc.2.2.1.1.2 hc.2.2.1.2 hc.2.2.2 hq
    | [], _, hq => cases hq
    | [_], _, hq => cases hq
    | [_, _], _, hq => cases hq
    | [_, _, _], _, hq => cases hq
    | [_, _, _, _], _, hq => cases hq
    | [_, _, _, _, _], _, hq => cases hq
    | [_, _, _, _, _, _], _, hq => cases hq
    | _ :: _ :: _ :: _ :: _ :: _ :: _ :: _ :: _, _, hq => cases hq
  case ireturn =>
    obtain rfl : n = 1 := by simpa [lenOK] using hlen
    match is, hc, hq with
    | [0], hc, hq =>
      simp only [chkI, Bool.and_eq_true, decide_eq_true_eq] at hc
      exact so_ireturn0 hd hc.2 hq
    | [3], hc, hq =>
      simp only [chkI, Bool.and_eq_true, decide_eq_true_eq] at hc
      exact so_ireturn3 hd hc.2 hq
    | [], hc, _ => simp [chkI] at hc
    | [1], hc, _ => simp [chkI] at hc
    | [2], hc, _ => simp [chkI] at hc
    | [x + 4], hc, _ => simp [chkI] at hc
    | _ :: _ :: _, hc, _ => simp [chkI] at hc
  case lreturn =>
    obtain rfl : n = 1 := by simpa [lenOK] using hlen
    simp only [chkI, Bool.and_eq_true, decide_eq_true_eq] at hc
    exact so_lreturn hd hc.2 hq
  case areturn =>
    obtain rfl : n = 1 := by simpa [lenOK] using hlen
    simp only [chkI, Bool.and_eq_true, decide_eq_true_eq] at hc
    exact so_areturn hd hc.2 hq
  case return_ =>
    obtain rfl : n = 1 := by simpa [lenOK] using hlen
    simp only [chkI, Bool.and_eq_true, decide_eq_true_eq] at hc
    exact so_return hd hc.2 hq
  case invokevirtual ix =>
    obtain rfl : n = 3 := by simpa [lenOK] using hlen
    match is, hc, hown, hq with
    | [cm, na, pos, nest, ml, c1, s1, c2, s2, rc], hc, hown, hq =>
      simp only [chkI, Bool.and_eq_true, decide_eq_true_eq] at hc
      obtain ⟨-, ⟨⟨⟨a0, a1⟩, a2⟩, a3⟩, a4⟩ := hc
      obtain ⟨b0, b1, b2, b3, b4, b5, b6, b7, b8⟩ := cchk_spec a0
      subst b1
      have hlk : nest = 0 ∧ lw_tbl[pos]? = some (.methodLink (ownS (mO mi)) ix (mY cm)) := by
        rcases b0 with b0 | b0
        · exact b0
        · have h9 : nest = 0 := by simpa [ownOK] using hown
          exact absurd h9 b0.1
      have hq' : doCall rec k cm na (mL cm) c1 s1 c2 s2 (fun as => match as with | .ref a :: _ => kd h a == rc | _ => false) lv st cu su h = some res := hq
      refine so_call (na := na) (ok := (fun as => match as with | .ref a :: _ => kd h a == rc | _ => false)) rfl b2 b3 b4 b5 hk (fun as rs e1 e2 e3 => hcal cm as h rs b8 e1 e2 e3) ?_ hq'
      exact (fun as rest rs e1 e2 e3 e4 e5 hM p e s m args below meth c C0 H locs ls hW hS hL => run_V hd a1 hlk.2 a3 a4 b6 b7 (by rw [e1, a2]) e2 e3 e4 e5 hM C0 hW hS hL)
    | [], _, _, hq => cases hq
    | [_], _, _, hq => cases hq
    | [_, _], _, _, hq => cases hq
    | [_, _, _], _, _, hq => cases hq
    | [_, _, _, _], _, _, hq => cases hq
    | [_, _, _, _, _], _, _, hq => cases hq
    | [_, _, _, _, _, _], _, _, hq => cases hq
    | [_, _, _, _, _, _, _], _, _, hq => cases hq
    | [_, _, _, _, _, _, _, _], _, _, hq => cases hq
    | [_, _, _, _, _, _, _, _, _], _, _, hq => cases hq
    | _ :: _ :: _ :: _ :: _ :: _ :: _ :: _ :: _ :: _ :: _ ::  _, _, _, hq => cases hq
  case invokestatic ix =>
    obtain rfl : n = 3 := by simpa [lenOK] using hlen
    match is, hc, hown, hq with
    | [cm, na, pos, nest, ml, c1, s1, c2, s2, rc], hc, hown, hq =>
      simp only [chkI, Bool.and_eq_true, decide_eq_true_eq] at hc
      obtain ⟨-, ⟨a0, a1⟩, a2⟩ := hc
      obtain ⟨b0, b1, b2, b3, b4, b5, b6, b7, b8⟩ := cchk_spec a0
      subst b1
      have hlk : nest = 0 ∧ lw_tbl[pos]? = some (.methodLink (ownS (mO mi)) ix (mY cm)) := by
        rcases b0 with b0 | b0
        · exact b0
        · have h9 : nest = 0 := by simpa [ownOK] using hown
          exact absurd h9 b0.1
      have hq' : doCall rec k cm na (mL cm) c1 s1 c2 s2 (fun _ => true) lv st cu su h = some res := hq
      refine so_call (na := na) (ok := fun _ => true) rfl b2 b3 b4 b5 hk (fun as rs e1 e2 e3 => hcal cm as h rs b8 e1 e2 e3) ?_ hq'
      exact (fun as rest rs e1 e2 e3 e4 e5 hM p e s m args below meth c C0 H locs ls hW hS hL => run_S hd a1 hlk.2 b6 b7 (by rw [e1, a2]) e3 e4 e5 hM C0 hW hS hL)
    | [a, p1, p2, p3, p4], hc, _, hq =>
      simp only [chkI, Bool.and_eq_true, decide_eq_true_eq] at hc
      obtain ⟨-, ⟨⟨a1, a2⟩, a3⟩, a4⟩ := hc
      by_cases h7 : a = 997
      · subst h7
        rw [if_pos rfl] at a4
        simp only [Bool.and_eq_true, decide_eq_true_eq] at a4
        exact so_min hd hk a4.1.1 a4.1.2 a3 a4.2 a1 a2 hq
      · rw [if_neg h7] at a4
        simp only [Bool.and_eq_true, decide_eq_true_eq] at a4
        obtain ⟨⟨⟨h8, w1⟩, w2⟩, w4⟩ := a4
        subst h8
        exact so_max hd hk w1 w2 a3 w4 a1 a2 hq
    | [a, p1, c1, s1, c2, s2], hc, hown, hq =>
      simp only [chkI, Bool.and_eq_true, decide_eq_true_eq] at hc
      obtain ⟨-, ⟨⟨⟨⟨a1, a2⟩, a3⟩, a4⟩, a5⟩, a6⟩ := hc
      have ho : mO mi = 13 := by simpa [ownOK] using hown
      have hmi : mi = 277 := (own13 mi (own_hi ho) ho).resolve_right hcode
      subst hmi
      subst a1
      subst a3
      subst a4
      have b5 : c2 = mP 277 7 := a5
      have b6 : s2 = mP 277 8 := a6
      subst b5
      subst b6
      exact hPP k pc ix p1 lv st cu su h res hd a2 hk hq
    | [], _, _, hq => cases hq
    | [_], _, _, hq => cases hq
    | [_, _], _, _, hq => cases hq
    | [_, _, _], _, _, hq => cases hq
    | [_, _, _, _], _, _, hq => cases hq
    | [_, _, _, _, _, _, _], _, _, hq => cases hq
    | [_, _, _, _, _, _, _, _], _, _, hq => cases hq
    | [_, _, _, _, _, _, _, _, _], _, _, hq => cases hq
    | _ :: _ :: _ :: _ :: _ :: _ :: _ :: _ :: _ :: _ :: _ ::  _, _, _, hq => cases hq
  case invokespecial ix =>
    obtain rfl : n = 3 := by simpa [lenOK] using hlen
    match is, hc, hown, hq with
    | [cm, na, pos, nest, ml, c1, s1, c2, s2, rc], hc, hown, hq =>
      simp only [chkI, Bool.and_eq_true, decide_eq_true_eq] at hc
      obtain ⟨-, ⟨a0, a1⟩, a2⟩ := hc
      obtain ⟨b0, b1, b2, b3, b4, b5, b6, b7, b8⟩ := cchk_spec a0
      subst b1
      have hlk : (nest = 0 ∧ lw_tbl[pos]? = some (.methodLink (ownS (mO mi)) ix (mY cm))) ∨ lw_tbl[pos]? = some (.methodLinkNest (ownS (mO mi)) ix (mY cm) "AskedCourt") := by
        rcases b0 with b0 | b0
        · exact Or.inl b0
        · exact Or.inr b0.2
      have hq' : doCall rec k cm na (mL cm) c1 s1 c2 s2 (fun as => match as with | .ref a :: _ => kd h a == rc | _ => false) lv st cu su h = some res := hq
      refine so_call (na := na) (ok := (fun as => match as with | .ref a :: _ => kd h a == rc | _ => false)) rfl b2 b3 b4 b5 hk (fun as rs e1 e2 e3 => hcal cm as h rs b8 e1 e2 e3) ?_ hq'
      intro as rest rs e1 e2 e3 e4 e5 hM p e s m args below meth c C0 H locs ls hW hS hL
      refine run_I hd a1 hlk b6 b7 (by rw [e1, a2]) ?_ e3 e4 e5 hM C0 hW hS hL
      cases as with
      | nil => cases e2
      | cons v As => cases v with
        | ref a => exact ⟨a, As, rfl⟩
        | _ => cases e2
    | [a, x, p1, p2, p3], hc, _, hq =>
      simp only [chkI, Bool.and_eq_true, decide_eq_true_eq] at hc
      obtain ⟨-, ⟨⟨⟨⟨a1, a2⟩, a3⟩, a4⟩, a5⟩, a6⟩ := hc
      subst a1
      exact so_objInit hd hk a2 a3 a4 a5 a6 hq
    | [], _, _, hq => cases hq
    | [_], _, _, hq => cases hq
    | [_, _], _, _, hq => cases hq
    | [_, _, _], _, _, hq => cases hq
    | [_, _, _, _], _, _, hq => cases hq
    | [_, _, _, _, _, _], _, _, hq => cases hq
    | [_, _, _, _, _, _, _], _, _, hq => cases hq
    | [_, _, _, _, _, _, _, _], _, _, hq => cases hq
    | [_, _, _, _, _, _, _, _, _], _, _, hq => cases hq
    | _ :: _ :: _ :: _ :: _ :: _ :: _ :: _ :: _ :: _ :: _ ::  _, _, _, hq => cases hq
  all_goals (cases hq)
end Snd2
