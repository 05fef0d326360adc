-- the law's person in the machine: what is caught
def hhP : List (Nat × Nat × Nat × Nat) := [(0, 10, 13, 13), (0, 10, 17, 15)]
def wsP : List Cond := .codeWith (mY 108) (mC 108) (mL 108) (mR 108) hhP :: TW
section LP98
variable {l : Launch} {D : va_G} {cy : Nat → ClassId} {base : Nat} {ext : Nat → Nat} {sc : Nat × (Nat → Int32)} {h : Hp}
theorem ofWW {y : MethodName} {ws ws' : List Cond} {rm : Room} {Pc : Array Value → State → Prop} {Qc : Array Value → State → Outcome → State → Prop} {mc ms : Nat} {free : Addr → Prop} {cc : ByteArray} {maxL : Nat} {ret : Option FieldType} {hh : List (Nat × Nat × Nat × Nat)} (hy : plainName y.cls = true) (hw : ws = Cond.codeWith y cc maxL ret hh :: ws')
    (body : ∀ p e s m args below meth c s₁, BodyLoose p l y (headSpec ws rm) cc maxL ret e s m args below meth c s₁ → c.maxLocals = maxL → c.exceptionTable.toList = tableOf hh → Pc args s → W p l e (headSpec ws rm).room s m args below meth c s.heap [] 0 0 (MQ below Qc args s mc ms free) (entryFrame m args maxL)) : Met l y ws rm Pc Qc mc ms free := by
  refine MetFree.of_bodyS (code := cc) (maxLocals := maxL) (ret := ret) hy ?_ ?_
  · intro args s m h hn
    obtain ⟨m9, meth, c, hn9, h1, h2, h3, h4, -, h5, h6, -⟩ := Cond.codeWith_spec (atoms_spec (ws := ws) h _ (by rw [hw]; exact List.mem_cons_self))
    cases Option.some.inj (hn9.symm.trans hn)
    exact ⟨meth, c, h1, h2, h3, h4, h5, h6⟩
  · intro p e s m args below meth c s₁ B hml hP _
    have hh0 : s₁.heap = s.heap := by rw [B.state]; rfl
    have ht := vx_table (x := y) B (atoms_spec (ws := ws) B.pre _ (by rw [hw]; exact List.mem_cons_self))
    obtain ⟨t, a1, o, b1, b2, b3⟩ := body p e s m args below meth c s₁ B hml ht hP s₁ hh0 (Stand.of_body B)
    exact ⟨t, o, a1, b1, b2, b3⟩
theorem cx108 {p : Program} {e : Env} {s s₁ : State} {m : MethodId} {args : Array Value} {below : List Frame} {meth : Method} {c : Code} {rm : Room} (B : BodyLoose p l (mY 108) (headSpec wsP rm) (mC 108) (mL 108) (mR 108) e s m args below meth c s₁) (hml : c.maxLocals = mL 108) (hKS : KSZ base D cy s) (hbs : base ≤ s.heap.size) : CxZ D cy base ext sc p s m args meth c 108 := by
  have hts := atoms_spec (ws := wsP) B.pre
  exact ⟨B.exec, B.bytes, hml, by rw [show ownS (mO 108) = (mY 108).cls by decide +kernel]; exact findClass_of_methodNamed B.named, fun w hw => hts w (List.mem_cons_of_mem _ hw), fun h2 => by rw [show mF 108 = 3 by decide +kernel] at h2; omega, hKS, hbs, fun h9 => absurd h9 (by omega)⟩
/-- a long into its row -/
theorem w_last {mi pc o cu su : Nat} {x : Int64} {R : Room} {p : Program} {e : Env} {s : State} {m : MethodId} {args : Array Value} {below : List Frame} {meth : Method} {c : Code} {Q : State → Prop} {H : Heap} {locs : List Loc} {ls : Array Slot} (hd : decode (mC mi) pc = .ok (.lastore, 1)) (ha : kd h o = 14) (hi : 0 < hN h o) (C0 : CxZ D cy base ext sc p s m args meth c mi) (hW : WHp D cy base ext h H) (hS : va_S (fun q => base ≤ q) s.heap H locs)
    (kk : ∀ (H1 : Heap) (locs1 : List Loc), WHp D cy base ext (sJ h o 0 x) H1 → va_S (fun q => base ≤ q) s.heap H1 locs1 → W p l e R s m args below meth c H1 locs1 cu su Q (F0 m (pc + 1) ls [])) : W p l e R s m args below meth c H locs cu su Q (F0 m pc ls [.long x, .int 0, .ref (adr base ext o)]) := by
  have e0 : adr base ext o = base + o := adr_kd ha (by omega) hW.2.1
  have he0 := arr_at (cy := cy) (base := base) (ext := ext) ha (by omega) (by omega)
  have he := he0
  rw [arE_j ha] at he
  rw [e0]
  refine W.last C0.1 C0.2.1 (hW.1 o _ he) ((C0.2.2.2.2.2.2.1.1.2 1 _ rfl).1 (hN h o) (fun j => .long (hJ h o j))) (fun q => by cases q) (by show ¬ ((0 : Int32) < 0 ∨ (arrV _ _ _).slots.size ≤ _); rw [arrV_size]; exact fun z => z.elim (by decide) (fun q => absurd q (by show ¬ hN h o ≤ 0; omega))) rfl rfl hd fun H1 e1 z oq => ?_
  have hcell : H1[base + o]? = some (vp_cell (cy (14 - 13)) (arE base ext (sJ h o 0 x) o)) := by
    rw [arE_j (h := sJ h o 0 x) ha, e1]
    show some ((vp_cell _ (hN h o, .inr (.inl (hJ h o)))).setSlot _ _) = some (vp_cell _ (hN h o, .inr (.inl (up2 (hJ h) o 0 x o))))
    rw [vp_cell_l, vp_cell_l, arrV_store]
    congr 2
    funext q
    by_cases hqq : q = 0
    · subst hqq; simp [updV, up2]
    · have : ¬ q = (0 : Int32).toNatClampNeg := hqq
      simp [updV, up2, hqq]
  have hP1 := hW.1.set (H1 := H1) (e := .inl (cy (14 - 13), arE base ext (sJ h o 0 x) o)) (pl_D (cy := cy) (base := base) (ext := ext) (h := h)) he0 hcell oq
  rw [pl_arr (h' := sJ h o 0 x) ha (by omega) (by omega) rfl rfl (fun j hj => cE_sJ hj)] at hP1
  exact kk H1 _ ⟨hP1, hW.2.1, fun q => by rw [z]; exact hW.2.2 q⟩ (hS.put z oq (Nat.le_add_right _ _))
/-- the call of person in the law's person, ahead -/
theorem w_pre {x o : Nat} {p0 p1 : Int32} {R : Room} {p : Program} {e : Env} {s : State} {m : MethodId} {args : Array Value} {below : List Frame} {meth : Method} {c : Code} {Q : State → Prop} {H : Heap} {locs : List Loc} {ls : Array Slot} {cu su : Nat} (C0 : CxZ D cy base ext sc p s m args meth c 108) (hL : LvOK base ext ls (mL 108) [some (.ref x), some (.int p0), some (.int p1), some (.ref o), none] (LSm 108))
    (kk : W p l e R s m args below meth c H locs cu su Q (F0 m 5 ls [.int p1, .int p0, .ref (adr base ext x), .int 0, .ref (adr base ext o)])) : W p l e R s m args below meth c H locs cu su Q (F0 m 0 ls []) := by
  refine lv_aload_n C0.1 C0.2.1 (show decode (mC 108) 0 = .ok (.aload_n 3, 1) by decide +kernel) rfl (hL.2.2.2 3 (.ref o) rfl).1 ?_
  refine lv_iconst C0.1 C0.2.1 (show decode (mC 108) 1 = .ok (.iconst 0, 1) by decide +kernel) rfl ?_
  refine lv_aload_n C0.1 C0.2.1 (show decode (mC 108) 2 = .ok (.aload_n 0, 1) by decide +kernel) rfl (hL.2.2.2 0 (.ref x) rfl).1 ?_
  refine lv_iload_n C0.1 C0.2.1 (show decode (mC 108) 3 = .ok (.iload_n 1, 1) by decide +kernel) rfl (hL.2.2.2 1 (.int p0) rfl).1 ?_
  refine lv_iload_n C0.1 C0.2.1 (show decode (mC 108) 4 = .ok (.iload_n 2, 1) by decide +kernel) rfl (hL.2.2.2 2 (.int p1) rfl).1 ?_
  exact kk
/-- person answers -/
theorem lp_ok {x o : Nat} {p0 p1 v : Int32} (sc : Nat × (Nat → Int32)) (kx : kd h x = 11) (ko : kd h o = 14) (no : 0 < hN h o) (hM : CtZ l D cy base ext 107 [.ref x, .int p0, .int p1] h (h, some (.int v))) : Met l (mY 108) wsP (mRoom 108) (PX D cy base ext [.ref x, .int p0, .int p1, .ref o] h) (QC D cy base ext (sJ h o 0 v.toInt64, some (.int 0))) (mP 108 7) (mP 108 8) (fun q => base ≤ q) := by
  refine ofWW (cc := mC 108) (maxL := mL 108) (ret := mR 108) (hh := hhP) (by decide +kernel) rfl ?_
  intro p e s m args below meth c s₁ B hml htab hv
  obtain ⟨rfl, hWp, hKS, hbs, hXS⟩ := hv
  have C0 := cx108 (sc := sc) (ext := ext) B hml hKS hbs
  have hlk := B.notSynchronized
  rw [lg_entry_eq]
  have hL : LvOK base ext _ (mL 108) [some (.ref x), some (.int p0), some (.int p1), some (.ref o), none] (LSm 108) := lvE_entry (base := base) (ext := ext) (as := [.ref x, .int p0, .int p1, .ref o]) (n := mL 108) (LS := LSm 108) rfl (Or.inl rfl)
  refine w_pre C0 hL ?_
  have hrun := run_VR (l := l) (e := e) (below := below) (R := mRoom 108) (mi := 108) (cm := 107) (pc := 5) (ix := 7) (pos := 1296) (rc := 11) (as := [.ref x, .int p0, .int p1]) (rest := [.int 0, .ref o]) (rs := (h, some (.int v))) (cu := 0) (su := 0) (lv := [some (.ref x), some (.int p0), some (.int p1), some (.ref o), none]) (by decide +kernel) (by decide +kernel) (by decide +kernel) (by decide) (by decide +kernel) (by decide +kernel) (by decide +kernel) (by rw [show mP 107 4 = 2 by decide +kernel]; rfl) (by simp [kx]) (Nat.le_of_ble_eq_true rfl) (by decide +kernel) (by decide +kernel) hM C0 hWp va_S.rf hL
  rw [show mP 107 7 = 0 by decide +kernel, show mP 107 8 = 0 by decide +kernel] at hrun
  refine call_go hrun va_S.rf (fun H1 locs1 hW1 hS1 => ?_)
  refine lv_i2l C0.1 C0.2.1 (show decode (mC 108) 8 = .ok (.i2l, 1) by decide +kernel) rfl ?_
  refine w_last (mi := 108) (pc := 9) (by decide +kernel) ko no C0 hW1 hS1 (fun H2 locs2 hW2 hS2 => ?_)
  refine lv_goto C0.1 C0.2.1 (show decode (mC 108) 10 = .ok (.goto 11, 3) by decide +kernel) (tgt := 21) (by decide) ?_
  refine lv_iconst C0.1 C0.2.1 (show decode (mC 108) 21 = .ok (.iconst 0, 1) by decide +kernel) rfl ?_
  refine W.widen (k := mP 108 7) (n := mP 108 8) (Nat.zero_le _) (Nat.zero_le _) ?_
  exact W.iret (v := 0) C0.1 C0.2.1 (B.returns.trans (by decide +kernel)) (fun t ht hWm => ⟨rfl, by rw [ht]; exact hW2, hS2.F ht⟩) hS2.2.2 (show decode (mC 108) 22 = .ok (.ireturn, 1) by decide +kernel)
/-- person throws -/
theorem lp_thr {x o : Nat} {p0 p1 r : Int32} {E : String} (sc : Nat × (Nat → Int32)) (kx : kd h x = 11) (hM : vx_Met l (mY 107) (wsm 107) rmT (PX D cy base ext [.ref x, .int p0, .int p1] h) (fun _ _ _ _ => False) (XCt D cy base ext h E) 1 6 (fun q => base ≤ q)) (hE : (E = ioN ∧ r = 1) ∨ (E = nsN ∧ r = 2)) : Met l (mY 108) wsP (mRoom 108) (PX D cy base ext [.ref x, .int p0, .int p1, .ref o] h) (QC D cy base ext (h, some (.int r))) (mP 108 7) (mP 108 8) (fun q => base ≤ q) := by
  refine ofWW (cc := mC 108) (maxL := mL 108) (ret := mR 108) (hh := hhP) (by decide +kernel) rfl ?_
  intro p e s m args below meth c s₁ B hml htab hv
  obtain ⟨rfl, hWp, hKS, hbs, hXS⟩ := hv
  have C0 := cx108 (sc := sc) (ext := ext) B hml hKS hbs
  have hlk := B.notSynchronized
  rw [lg_entry_eq]
  have hL : LvOK base ext _ (mL 108) [some (.ref x), some (.int p0), some (.int p1), some (.ref o), none] (LSm 108) := lvE_entry (base := base) (ext := ext) (as := [.ref x, .int p0, .int p1, .ref o]) (n := mL 108) (LS := LSm 108) rfl (Or.inl rfl)
  generalize (lg_sl (List.map (tr base ext) [Value.ref x, Value.int p0, Value.int p1, Value.ref o]) ++ List.replicate (mL 108 - (lg_sl (List.map (tr base ext) [Value.ref x, Value.int p0, Value.int p1, Value.ref o])).length) Slot.unset).toArray = ls at hL ⊢
  refine w_pre C0 hL ?_
  have e0 : adr base ext x = base + x := adr_kd kx (by omega) hWp.2.1
  have hal := kd_in kx (by omega)
  have he : (pl cy base ext h)[x]? = some (base + x, .inr (11, oc base ext h x 11)) := by rw [pl_at hal.1, cE_obj hal.2 (by omega)]
  have hrecv := va_recv C0.2.2.2.2.2.2.1.1 hWp.1 (show vwCl[11]? = some _ from rfl) he
  obtain ⟨f1, f2, -, f4, f5, -, f7, f8, f9, f10, -⟩ := m_facts (cm := 107) (f := 1) (by decide +kernel) (by omega)
  have hT : GoodIn TW (wsV (ownS (mO 108)) 7 (mY 107).cls (mY 107) (wsm 107)) := by
    intro w hw
    rcases List.mem_append.mp hw with hw | hw
    · simp only [List.mem_cons, List.mem_nil_iff, or_false] at hw
      rcases hw with rfl | rfl | rfl | rfl
      · exact tw_good (tw_at 1296 (by decide +kernel) rfl)
      · exact tw_good (f4 (by omega))
      · exact tw_good (f5 rfl)
      · exact tw_good f2
    · exact gi_m f1 w hw
  have hpre : ∀ U : State, U.heap = s.heap → s.WarmedH U.vm → PX D cy base ext [.ref x, .int p0, .int p1] h (Value.ref (base + x) :: [Value.int p0, Value.int p1]).toArray U := fun U hU hWm => ⟨by rw [← e0]; rfl, by rw [hU]; exact hWp, KSZ.warm hWm (fun a _ _ => by rw [hU]) hKS, by rw [hU]; exact hbs, hXS.move hWm (fun a _ _ => by rw [hU])⟩
  have hr := vx_runV (As := [.int p0, .int p1]) (rest := [.int 0, .ref (adr base ext o)]) (b := base + x) (g := F0 m 5 ls [.int p1, .int p0, .ref (base + x), .int 0, .ref (adr base ext o)]) (H := s.heap) (locs := []) (cells := 0) (slots := 0) (e := e) (below := below) (meth := meth) (R := mRoom 108) (cc := mC 108) (nL := mL 108) (Ts := TW) (own := ownS (mO 108)) ⟨C0.1, C0.2.1, C0.2.2.1, C0.2.2.2.1, C0.2.2.2.2.1⟩ hM (cwV (mP 107 4) C0.2.2.2.2.1 hT rfl rfl rfl ⟨rfl, f8, f9, f10⟩ ⟨by decide +kernel, by decide +kernel⟩) ⟨PX_blind, hrecv, hpre⟩ rfl (by rw [show mP 107 4 = 2 by decide +kernel]; rfl) hL.2.1 rfl (Nat.le_of_ble_eq_true rfl) (show decode (mC 108) 5 = .ok (.invokevirtual 7, 3) by decide +kernel) ⟨by decide +kernel, by decide +kernel⟩
  rw [e0]
  intro T hTh X
  rcases hr T hTh X with ⟨v, st0, t, T', L, h0, X', hLL, e1, e2, hF, sts⟩ | ⟨q, st0, t, T', L, E', ce, h0, X', hLL, e1, e2, ⟨rfl, hWt, hFt⟩, hce, hcv, hcl, sts⟩
  · exact hF.elim
  have hWt' : WHp D cy base ext h T'.heap := by rw [e1]; exact hWt
  have hSt : va_S (fun q => base ≤ q) s.heap T'.heap ([] ++ L) := by
    obtain ⟨hz, hk⟩ := hFt
    rw [h0] at hz hk
    exact ⟨by rw [e1]; exact hz, fun q q1 q2 => by rw [e1]; exact hk q q1 q2, fun q hq => hLL q (by simpa using hq)⟩
  have hce' : T'.heap[q]? = some ce := by rw [e1]; exact hce
  have fin : ∀ (pcH : Nat) (ls' : Array Slot), decode (mC 108) pcH = .ok (.ireturn, 1) → W p l e (mRoom 108) s m ([Value.ref x, Value.int p0, Value.int p1, Value.ref o].map (tr base ext)).toArray below meth c T'.heap ([] ++ L) (0 + 1) (0 + 6) (MQ below (QC D cy base ext (h, some (.int r))) ([Value.ref x, Value.int p0, Value.int p1, Value.ref o].map (tr base ext)).toArray s (mP 108 7) (mP 108 8) (fun q => base ≤ q)) (F0 m pcH ls' [.int r]) := by
    intro pcH ls' hd
    refine W.widen (k := mP 108 7) (n := mP 108 8) (by decide +kernel) (by decide +kernel) ?_
    exact W.iret (v := r) C0.1 C0.2.1 (B.returns.trans (by decide +kernel)) (fun t ht hWm => ⟨rfl, by rw [ht]; exact hWt', hSt.F ht⟩) hSt.2.2 hd
  have cat : vx_W p l e (mRoom 108) s m ([Value.ref x, Value.int p0, Value.int p1, Value.ref o].map (tr base ext)).toArray below meth c T'.heap ([] ++ L) (0 + 1) (0 + 6) (MQ below (QC D cy base ext (h, some (.int r))) ([Value.ref x, Value.int p0, Value.int p1, Value.ref o].map (tr base ext)).toArray s (mP 108 7) (mP 108 8) (fun q => base ≤ q)) (F0 m 5 ls [.int 0, .ref (adr base ext o)]) q := by
    rcases hE with ⟨rfl, rfl⟩ | ⟨rfl, rfl⟩
    · refine vx_catch (own := "AskedCourtLaw") (name := ioN) (E := ioN) C0.2.2.2.1 [] ⟨0, 10, 13, 13⟩ [⟨0, 10, 17, 15⟩] (by rw [htab]; rfl) (fun z hz => by cases hz) (by decide) (by decide) (C0.2.2.2.2.1 _ (tw_at 1294 (by decide +kernel) rfl)) (va_Nw.use rfl hXS.2.2.1.1) hce' hcv hcl ?_
      refine lv_astore C0.1 C0.2.1 (show decode (mC 108) 13 = .ok (.astore 4, 2) by decide +kernel) hL.has (by decide +kernel) rfl (fun ls' _ => ?_)
      refine lv_iconst C0.1 C0.2.1 (show decode (mC 108) 15 = .ok (.iconst 1, 1) by decide +kernel) rfl ?_
      exact fin 16 ls' (by decide +kernel)
    · refine vx_catch (own := "AskedCourtLaw") (name := nsN) (E := nsN) C0.2.2.2.1 [⟨0, 10, 13, 13⟩] ⟨0, 10, 17, 15⟩ [] (by rw [htab]; rfl) (fun z hz => Or.inr ?_) (by decide) (by decide) (C0.2.2.2.2.1 _ (tw_at 1295 (by decide +kernel) rfl)) (va_Nw.use rfl hXS.2.2.1.2) hce' hcv hcl ?_
      · rcases List.mem_singleton.mp hz with rfl
        exact ⟨by decide, ioN, C0.2.2.2.2.1 _ (tw_at 1294 (by decide +kernel) rfl), hXS.2.2.2.2⟩
      · refine lv_astore C0.1 C0.2.1 (show decode (mC 108) 17 = .ok (.astore 4, 2) by decide +kernel) hL.has (by decide +kernel) rfl (fun ls' _ => ?_)
        refine lv_iconst C0.1 C0.2.1 (show decode (mC 108) 19 = .ok (.iconst 2, 1) by decide +kernel) rfl ?_
        exact fin 20 ls' (by decide +kernel)
  obtain ⟨t2, a1, b1⟩ := cat T' rfl X'
  exact ⟨t2, sts.trans a1, b1⟩
end LP98
