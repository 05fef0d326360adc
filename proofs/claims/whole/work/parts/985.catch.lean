-- the law's person in the machine: its contract
theorem at_io : ∀ w ∈ (vx_at0 "AskedCourt" 133 ioN supN).filter goodWord, w ∈ lw_tbl := by decide +kernel
theorem at_ns : ∀ w ∈ (vx_at0 "AskedCourt" 154 nsN supN).filter goodWord, w ∈ lw_tbl := by decide +kernel
theorem an_io : ∀ w ∈ (vx_at0 "AskedCourt" 133 ioN supN).filter (fun w => !goodWord w), w ∈ Cond.castable ioN ioN :: decW := by decide +kernel
theorem an_ns : ∀ w ∈ (vx_at0 "AskedCourt" 154 nsN supN).filter (fun w => !goodWord w), w ∈ Cond.castable nsN nsN :: decW := by decide +kernel
theorem ot_io : ∀ w ∈ Cond.classLink "AskedCourt" 131 ioN :: Cond.initialized ioN :: vx_at0 "AskedCourt" 133 ioN supN, vx_ot w = true := by decide +kernel
theorem ot_ns : ∀ w ∈ Cond.classLink "AskedCourt" 152 nsN :: Cond.initialized nsN :: vx_at0 "AskedCourt" 154 nsN supN, vx_ot w = true := by decide +kernel
section Cat
variable {l : Launch} {D : va_G} {cy : Nat → ClassId} {base : Nat} {ext : Nat → Nat} {sc : Nat × (Nat → Int32)} {h : Hp}
/-- 'throw new E()' in person -/
theorem w_throw {E : String} {ik ic pc0 : Nat} {p : Program} {e : Env} {s : State} {m : MethodId} {args : Array Value} {below : List Frame} {meth : Method} {c : Code} {H : Heap} {locs : List Loc} {ls : Array Slot} (hl : l.stackTraces = false) (C0 : CxZ D cy base ext sc p s m args meth c 107) (htab : ∀ x ∈ c.exceptionTable.toList, False) (hlocks : meth.locks = false) (hX : XS base s s.heap) (h240 : hn h = 240) (hW : WHp D cy base ext h H) (hS : va_S (fun q => base ≤ q) s.heap H locs) (hls : ls.size = c.maxLocals) (fitE : Bundle.fit E = true) (hk : Cond.classLink "AskedCourt" ik E ∈ TW) (hini : Cond.initialized E ∈ TW) (hg : ∀ w ∈ (vx_at0 "AskedCourt" ic E supN).filter goodWord, w ∈ lw_tbl) (hb : ∀ w ∈ (vx_at0 "AskedCourt" ic E supN).filter (fun w => !goodWord w), w ∈ Cond.castable E E :: decW) (hcast : va_Nw (.castable E E) s) (hot : ∀ w ∈ Cond.classLink "AskedCourt" ik E :: Cond.initialized E :: vx_at0 "AskedCourt" ic E supN, vx_ot w = true)
    (d0 : decode (mC 107) pc0 = .ok (.new ik, 3)) (d3 : decode (mC 107) (pc0 + 3) = .ok (.dup, 1)) (d4 : decode (mC 107) (pc0 + 4) = .ok (.invokespecial ic, 3)) (d7 : decode (mC 107) (pc0 + 7) = .ok (.athrow, 1)) : W p l e rmT s m args below meth c H locs 0 0 (vx_MQ below (fun _ _ _ _ => False) (XCt D cy base ext h E) args s 1 6 (fun q => base ≤ q)) (F0 m pc0 ls []) := by
  refine vx_throw0 (cc := mC 107) C0.1 C0.2.1 hl (own := "AskedCourt") (cls := E) (names := supN) (ik := ik) (ic := ic) (A := fun q => base ≤ q) C0.2.2.2.1 fitE (by decide) (C0.2.2.2.2.1 _ hk) (C0.2.2.2.2.1 _ hini) (vx_hat (fun w hw => C0.2.2.2.2.1 _ (List.mem_filter.mpr ⟨hg w hw, (List.mem_filter.mp hw).2⟩)) hb (vx_c (va_Nw.use rfl hcast) (vx_c (va_Nw.use rfl hX.2.2.2.1.1) (vx_c (va_Nw.use rfl hX.2.2.2.1.2.1) (vx_c (va_Nw.use rfl hX.2.2.2.1.2.2) vx_n))))) hot hX.1 hX.2.1 hS hls d0 d3 d4 d7 (fun x hx => (htab x hx).elim) (by decide) (by decide) (by decide) (by decide) hlocks ?_ hS.2.2 (by decide) (by decide)
  intro t ha hsz hq
  exact ⟨rfl, hW.grow h240 hq, Nat.le_trans hS.1 hsz, fun q q1 q2 => (hq q (Nat.lt_of_lt_of_le q1 hS.1)).trans (hS.2.1 q q1 q2)⟩
theorem cx107 {p : Program} {e : Env} {s s₁ : State} {m : MethodId} {args : Array Value} {below : List Frame} {meth : Method} {c : Code} {rm : Room} (B : BodyLoose p l (mY 107) (headSpec (wsm 107) rm) (mC 107) (mL 107) (mR 107) e s m args below meth c s₁) (hml : c.maxLocals = mL 107) (hKS : KSZ base D cy s) (hbs : base ≤ s.heap.size) : CxZ D cy base ext sc p s m args meth c 107 := by
  have hts := atoms_spec (ws := wsm 107) B.pre
  obtain ⟨f1, f2, f3, f4, f5, f6, f7, f8, f9, f10, f11⟩ := m_facts (cm := 107) (f := 1) (by decide +kernel) (by omega)
  exact ⟨B.exec, B.bytes, hml, by rw [← f7]; exact findClass_of_methodNamed B.named, fun w hw => hts w (List.mem_cons_of_mem _ hw), fun h2 => by rw [show mF 107 = 1 by decide +kernel] at h2; omega, hKS, hbs, fun h9 => absurd h9 (by omega)⟩
/-- no such person -/
theorem p_throw1 {x a : Nat} {p0 p1 : Int32} (sc : Nat × (Nat → Int32)) (hl : l.stackTraces = false) (hp : PH h x a) (hM : CtZ l D cy base ext 106 [.ref a, .int p0] h (h, some (.int 0))) : vx_Met l (mY 107) (wsm 107) rmT (PX D cy base ext [.ref x, .int p0, .int p1] h) (fun _ _ _ _ => False) (XCt D cy base ext h ioN) 1 6 (fun q => base ≤ q) := by
  refine vx_ofW (cc := mC 107) (maxL := mL 107) (ret := mR 107) (m_facts (cm := 107) (f := 1) (by decide +kernel) (by omega)).2.2.2.2.2.2.2.2.2.2 rfl ?_
  intro p e s m args below meth c s₁ B hml htab hv
  obtain ⟨rfl, hWp, hKS, hbs, hXS⟩ := hv
  have C0 := cx107 (sc := sc) (ext := ext) B hml hKS hbs
  have hlk := B.notSynchronized
  rw [lg_entry_eq]
  have hL : LvOK base ext _ (mL 107) [some (.ref x), some (.int p0), some (.int p1)] (LSm 107) := lvE_entry (base := base) (ext := ext) (as := [.ref x, .int p0, .int p1]) (n := mL 107) (LS := LSm 107) rfl (Or.inl rfl)
  refine w_has (R := rmT) (h := h) C0 (by decide) (by decide) (by decide) (by decide) hWp va_S.rf hL hp hM (fun H1 locs1 hW1 hS1 => ?_)
  refine lv_if_ne (tgt := 22) C0.1 C0.2.1 (show decode (mC 107) 11 = .ok (.ifCond .ne 11, 3) by decide +kernel) (by decide) (fun cc => absurd rfl cc) (fun _ => ?_)
  exact w_throw hl C0 htab hlk hXS hp.1 hW1 hS1 (by rw [hL.2.1, hml]) (by decide) (tw_at 1300 (by decide +kernel) rfl) (tw_at 148 (by decide +kernel) rfl) at_io an_io hXS.2.2.1.1 ot_io (by decide +kernel) (by decide +kernel) (by decide +kernel) (by decide +kernel)
/-- nothing of that number -/
theorem p_throw2 {x a : Nat} {p0 p1 : Int32} (sc : Nat × (Nat → Int32)) (hl : l.stackTraces = false) (hp : PH h x a) (hM : CtZ l D cy base ext 106 [.ref a, .int p0] h (h, some (.int 1))) (hw : p1.toInt < 0 ∨ 5 < p1.toInt) : vx_Met l (mY 107) (wsm 107) rmT (PX D cy base ext [.ref x, .int p0, .int p1] h) (fun _ _ _ _ => False) (XCt D cy base ext h nsN) 1 6 (fun q => base ≤ q) := by
  refine vx_ofW (cc := mC 107) (maxL := mL 107) (ret := mR 107) (m_facts (cm := 107) (f := 1) (by decide +kernel) (by omega)).2.2.2.2.2.2.2.2.2.2 rfl ?_
  intro p e s m args below meth c s₁ B hml htab hv
  obtain ⟨rfl, hWp, hKS, hbs, hXS⟩ := hv
  have C0 := cx107 (sc := sc) (ext := ext) B hml hKS hbs
  have hlk := B.notSynchronized
  rw [lg_entry_eq]
  have hL : LvOK base ext _ (mL 107) [some (.ref x), some (.int p0), some (.int p1)] (LSm 107) := lvE_entry (base := base) (ext := ext) (as := [.ref x, .int p0, .int p1]) (n := mL 107) (LS := LSm 107) rfl (Or.inl rfl)
  refine w_has (R := rmT) (h := h) C0 (by decide) (by decide) (by decide) (by decide) hWp va_S.rf hL hp hM (fun H1 locs1 hW1 hS1 => ?_)
  refine lv_if_ne (tgt := 22) C0.1 C0.2.1 (show decode (mC 107) 11 = .ok (.ifCond .ne 11, 3) by decide +kernel) (by decide) (fun _ => ?_) (fun cc => absurd cc (by decide))
  refine lv_iload_n C0.1 C0.2.1 (show decode (mC 107) 22 = .ok (.iload_n 2, 1) by decide +kernel) rfl (hL.2.2.2 2 (.int p1) rfl).1 ?_
  refine lv_tableOut C0.1 C0.2.1 (show decode (mC 107) 23 = .ok (.tableswitch 97 0 5 #[37, 47, 57, 67, 77, 87], 37) by decide +kernel) hw (tgt := 120) (by decide) ?_
  exact w_throw hl C0 htab hlk hXS hp.1 hW1 hS1 (by rw [hL.2.1, hml]) (by decide) (tw_at 1362 (by decide +kernel) rfl) (tw_at (lw_tbl.idxOf (Cond.initialized nsN)) (by decide +kernel) rfl) at_ns an_ns hXS.2.2.1.2 ot_ns (by decide +kernel) (by decide +kernel) (by decide +kernel) (by decide +kernel)
end Cat
