-- the law's person in the machine: what is thrown, and what is caught
def rmT : Room := { frames := 6, cells := 1, slots := 6, locals := 120 }
theorem WHp.grow {D : va_G} {cy : Nat → ClassId} {base : Nat} {ext : Nat → Nat} {h : Hp} {H H1 : Heap} (hW : WHp D cy base ext h H) (h240 : hn h = 240) (hq : ∀ a : Nat, a < H.size → H1[a]? = H[a]?) : WHp D cy base ext h H1 := ⟨hW.1.kept (fun k q hk => hq _ (hW.1 k q hk).lt), hW.2.1, fun z => absurd z (by omega)⟩
section Pers
variable {l : Launch} {D : va_G} {cy : Nat → ClassId} {base : Nat} {ext : Nat → Nat} {sc : Nat × (Nat → Int32)} {rec : Rec} {k : Knt} {mi pc : Nat} {lv : Lv} {st : List Value} {cu su : Nat} {h : Hp} {res : Hp × Option Value}
theorem run_VR {R : Room} {cm ix pos rc : Nat} {as rest : List Value} {rs : Hp × Option Value} (hd : decode (mC mi) pc = .ok (.invokevirtual ix, 3)) (hF : mF cm = 1) (hlk : lw_tbl[pos]? = some (.methodLink (ownS (mO mi)) ix (mY cm))) (hrc : rc < 13) (hrc2 : rc = mO cm) (r1 : mP cm 5 + 1 ≤ R.frames) (r2 : 8 + (mL cm + 11) + mP cm 6 ≤ R.locals)
    (hlen : as.length = mP cm 4 + 1) (hok : (match (generalizing := false) as with | .ref a :: _ => kd h a == rc | _ => false) = true) (h8 : (rest.map fun v => v.category).sum ≤ 8) (g4 : cu + mP cm 7 ≤ R.cells) (g5 : su + mP cm 8 ≤ R.slots) (hM : CtZ l D cy base ext cm as h rs) {p : Program} {e : Env} {s : State} {m : MethodId} {args : Array Value} {below : List Frame} {meth : Method} {c : Code} (C0 : CxZ D cy base ext sc p s m args meth c mi) {H : Heap} {locs : List Loc} {ls : Array Slot} (hW : WHp D cy base ext h H) (hS : va_S (fun q => base ≤ q) s.heap H locs) (hL : LvOK base ext ls (mL mi) lv (LSm mi)) :
    va_Run p l e R s m args below meth c H locs cu su (mP cm 7) (mP cm 8) (F0 m pc ls ((as.reverse ++ rest).map (tr base ext))) (rest.map (tr base ext)) (QC D cy base ext rs (as.map (tr base ext)).toArray) (fun q => base ≤ q) := by
  obtain ⟨f1, f2, -, f4, f5, -, f7, f8, f9, f10, -⟩ := m_facts hF (by omega)
  cases as with
  | nil => cases hok
  | cons v0 As =>
    cases v0 with
    | ref a =>
      have ha : kd h a = rc := by simpa using hok
      have e0 : adr base ext a = base + a := adr_kd ha (by omega) hW.2.1
      have hal := kd_in ha (by omega)
      have he : (pl cy base ext h)[a]? = some (base + a, .inr (rc, oc base ext h a rc)) := by rw [pl_at hal.1, cE_obj hal.2 hrc]
      obtain ⟨q, hq⟩ : ∃ q, vwCl[rc]? = some q := ⟨_, List.getElem?_eq_getElem (by exact hrc)⟩
      have hqn : q.1 = (mY cm).cls := by
        rw [f7, ← hrc2]
        match rc, hq with
        | 0, h => cases h; rfl
        | 1, h => cases h; rfl
        | 2, h => cases h; rfl
        | 3, h => cases h; rfl
        | 4, h => cases h; rfl
        | 5, h => cases h; rfl
        | 6, h => cases h; rfl
        | 7, h => cases h; rfl
        | 8, h => cases h; rfl
        | 9, h => cases h; rfl
        | 10, h => cases h; rfl
        | 11, h => cases h; rfl
        | 12, h => cases h; rfl
        | n + 13, h => simp [vwCl] at h
      have hT : GoodIn TW (wsV (ownS (mO mi)) ix (mY cm).cls (mY cm) (wsm cm)) := by
        intro w hw
        rcases List.mem_append.mp hw with hw | hw
        · simp only [List.mem_cons, List.mem_nil_iff, or_false] at hw
          rcases hw with rfl | rfl | rfl | rfl
          · exact tw_good (tw_at pos hlk rfl)
          · exact tw_good (f4 (by omega))
          · exact tw_good (f5 rfl)
          · exact tw_good f2
        · exact gi_m f1 w hw
      have hrecv := va_recv C0.2.2.2.2.2.2.1.1 hW.1 hq he
      rw [hqn] at hrecv
      have hst : ((Value.ref a :: As).reverse ++ rest).map (tr base ext) = (As.map (tr base ext)).reverse ++ Value.ref (base + a) :: rest.map (tr base ext) := by
        simp [tr, e0]
      rw [hst]
      have := va_runV (As := As.map (tr base ext)) (rest := rest.map (tr base ext)) (b := base + a) (g := F0 m pc ls ((As.map (tr base ext)).reverse ++ Value.ref (base + a) :: rest.map (tr base ext))) (H := H) (locs := locs) (cells := cu) (slots := su) (e := e) (below := below) (meth := meth) (R := R) (cc := mC mi) (nL := mL mi) (Ts := TW) (own := ownS (mO mi)) ⟨C0.1, C0.2.1, C0.2.2.1, C0.2.2.2.1, C0.2.2.2.2.1⟩ hM (cwV (mP cm 4) C0.2.2.2.2.1 hT rfl rfl rfl ⟨rfl, f8, f9, f10⟩ ⟨r1, r2⟩) ⟨PC_blindZ, hrecv, fun U hU hWm => by have := call_preZ (vs := .ref a :: As) C0 hW hS U hU hWm; rw [List.map_cons, show tr base ext (.ref a) = .ref (base + a) by simp [tr, e0]] at this; exact this⟩ rfl (by simp at hlen; simpa using hlen) hL.2.1 rfl (lv_room (by simp only [List.map_map, Function.comp_def, tr_cat]; exact h8)) hd ⟨g4, g5⟩
      rw [List.map_cons, show tr base ext (.ref a) = .ref (base + a) by simp [tr, e0]]
      exact this
    | _ => cases hok
def PX (D : va_G) (cy : Nat → ClassId) (base : Nat) (ext : Nat → Nat) (vs : List Value) (h : Hp) : Array Value → State → Prop := va_Pc (vs.map (tr base ext)) (fun U => WHp D cy base ext h U.heap ∧ KSZ base D cy U ∧ base ≤ U.heap.size ∧ XS base U U.heap)
theorem PX_blind {vs : List Value} : FrameBlind (PX D cy base ext vs h) := fun a U g mk q => ⟨q.1, q.2.1, KSZ.same (u := U) (U := U.calling g mk a) rfl rfl q.2.2.1, q.2.2.2.1, XS.same (u := U) (U := U.calling g mk a) rfl q.2.2.2.2⟩
def XCt (D : va_G) (cy : Nat → ClassId) (base : Nat) (ext : Nat → Nat) (h : Hp) (E0 : String) : String → State → State → Prop := fun E st t => E = E0 ∧ WHp D cy base ext h t.heap ∧ va_F (fun q => base ≤ q) st t
/-- a field that holds a cell -/
theorem w_getR {ix ci j pos nest a r : Nat} {R : Room} {st : List Value} {p : Program} {e : Env} {s : State} {m : MethodId} {args : Array Value} {below : List Frame} {meth : Method} {c : Code} {Q : State → Prop} {H : Heap} {locs : List Loc} {ls : Array Slot} (hd : decode (mC mi) pc = .ok (.getfield ix, 3)) (hf : fchk (mO mi) ix ci j 2 pos nest = true) (ha : kd h a = ci) (hr : hR h a j = r + 1) (C0 : CxZ D cy base ext sc p s m args meth c mi) (hW : WHp D cy base ext h H) (w : W p l e R s m args below meth c H locs cu su Q (F0 m (pc + 3) ls (.ref (adr base ext r) :: st))) : W p l e R s m args below meth c H locs cu su Q (F0 m pc ls (.ref (adr base ext a) :: st)) := by
  obtain ⟨C, T, N, hc, hjN, hT1, ht, hlink⟩ := fchk_spec hf
  have hci := cl_lt hc
  have hin := tw_cl ci _ hc
  have hjl : j < (fks.getD ci []).length := by rw [fks_len hc]; exact hjN
  have hal := kd_in ha (by omega)
  have e0 : adr base ext a = base + a := adr_kd ha (by omega) hW.2.1
  have he : (pl cy base ext h)[a]? = some (base + a, .inr (ci, oc base ext h a ci)) := by rw [pl_at hal.1, cE_obj hal.2 hci]
  have hv := oc_get (base := base) (ext := ext) (h := h) (k := a) hjl
  rw [ht] at hv
  have e1 : fv base ext h a j 2 = .ref (adr base ext r) := by simp [fv, hr, rfo, va_rf]
  rw [e0]
  rw [e1] at hv
  rcases hlink with ⟨-, hlk⟩ | ⟨-, hlk⟩
  · exact va_get C0.1 C0.2.1 C0.2.2.2.2.1 hin C0.2.2.2.1 C0.2.2.2.2.2.2.1.1 hW.1 a he hc j hjN (C0.2.2.2.2.1 _ (tw_at pos hlk rfl)) (by rw [hT1]; exact fun _ h9 => h9) hv hd w
  · exact va_getN C0.1 C0.2.1 C0.2.2.2.2.1 hin C0.2.2.2.1 C0.2.2.2.2.2.2.1.1 hW.1 a he hc j hjN (va_Nw.use rfl (C0.2.2.2.2.2.2.1.2.1 _ (List.mem_filter.mpr ⟨List.mem_of_getElem? hlk, rfl⟩))) (by rw [hT1]; exact fun _ h9 => h9) hv hd w
/-- what the small machine's heap says where person is asked -/
def PH (h : Hp) (x a : Nat) : Prop := hn h = 240 ∧ kd h x = 11 ∧ ∃ c0, hR h x 7 = c0 + 1 ∧ kd h c0 = 0 ∧ hR h c0 1 = a + 1 ∧ kd h a = 4
/-- person, up to what has answers -/
theorem w_has {x a : Nat} {p0 p1 b : Int32} {R : Room} {p : Program} {e : Env} {s : State} {m : MethodId} {args : Array Value} {below : List Frame} {meth : Method} {c : Code} {Q : State → Prop} {H : Heap} {locs : List Loc} {ls : Array Slot} (C0 : CxZ D cy base ext sc p s m args meth c 107) (hR1 : 1 ≤ R.frames) (hR2 : 21 ≤ R.locals) (hc : cu ≤ R.cells) (hs : su ≤ R.slots) (hW : WHp D cy base ext h H) (hS : va_S (fun q => base ≤ q) s.heap H locs) (hL : LvOK base ext ls (mL 107) [some (.ref x), some (.int p0), some (.int p1)] (LSm 107)) (hp : PH h x a) (hM : CtZ l D cy base ext 106 [.ref a, .int p0] h (h, some (.int b)))
    (kk : ∀ (H1 : Heap) (locs1 : List Loc), WHp D cy base ext h H1 → va_S (fun q => base ≤ q) s.heap H1 locs1 → W p l e R s m args below meth c H1 locs1 cu su Q (F0 m 11 ls [.int b])) : W p l e R s m args below meth c H locs cu su Q (F0 m 0 ls []) := by
  obtain ⟨-, hx, c0, hc7, kc, h1, ka⟩ := hp
  refine lv_aload_n C0.1 C0.2.1 (show decode (mC 107) 0 = .ok (.aload_n 0, 1) by decide +kernel) rfl (hL.2.2.2 0 (.ref x) rfl).1 ?_
  refine w_getR (mi := 107) (pc := 1) (ix := 50) (ci := 11) (j := 7) (pos := 661) (nest := 0) (by decide +kernel) (by decide +kernel) hx hc7 C0 hW ?_
  refine w_getR (mi := 107) (pc := 4) (ix := 121) (ci := 0) (j := 1) (pos := 369) (nest := 1) (by decide +kernel) (by decide +kernel) kc h1 C0 hW ?_
  refine lv_iload_n C0.1 C0.2.1 (show decode (mC 107) 7 = .ok (.iload_n 1, 1) by decide +kernel) rfl (hL.2.2.2 1 (.int p0) rfl).1 ?_
  have hrun := run_VR (l := l) (e := e) (below := below) (R := R) (mi := 107) (cm := 106) (pc := 8) (ix := 127) (pos := 909) (rc := 4) (as := [.ref a, .int p0]) (rest := []) (rs := (h, some (.int b))) (cu := cu) (su := su) (lv := [some (.ref x), some (.int p0), some (.int p1)]) (by decide +kernel) (by decide +kernel) (by decide +kernel) (by decide) (by decide +kernel) (by rw [show mP 106 5 = 0 by decide +kernel]; omega) (by rw [show mP 106 6 = 0 by decide +kernel, show mL 106 = 2 by decide +kernel]; omega) (by rw [show mP 106 4 = 1 by decide +kernel]; rfl) (by simp [ka]) (by simp) (by rw [show mP 106 7 = 0 by decide +kernel]; omega) (by rw [show mP 106 8 = 0 by decide +kernel]; omega) hM C0 hW hS hL
  rw [show mP 106 7 = 0 by decide +kernel, show mP 106 8 = 0 by decide +kernel] at hrun
  exact call_go hrun hS (fun H1 locs1 hW1 hS1 => kk H1 locs1 hW1 hS1)
end Pers
