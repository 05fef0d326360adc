-- calls: a callee's run gives its contract, its contract the caller's step
def wsm (mi : Nat) : List Cond := .code (mY mi) (mC mi) (mL mi) (mR mi) :: TW
def QC (D : va_G) (cy : Nat → ClassId) (base : Nat) (ext : Nat → Nat) (res : Hp × Option Value) : Array Value → State → Outcome → State → Prop := fun _ st o t => o = .returned (res.2.map (tr base ext)) ∧ WHp D cy base ext res.1 t.heap ∧ va_F (fun q => base ≤ q) st t
def PC (D : va_G) (cy : Nat → ClassId) (base : Nat) (ext : Nat → Nat) (vs : List Value) (h : Hp) : Array Value → State → Prop := va_Pc (vs.map (tr base ext)) (fun U => WHp D cy base ext h U.heap ∧ KS D cy U ∧ base ≤ U.heap.size)
def Ct (l : Launch) (D : va_G) (cy : Nat → ClassId) (base : Nat) (ext : Nat → Nat) (cm : Nat) (vs : List Value) (h : Hp) (res : Hp × Option Value) : Prop := Met l (mY cm) (wsm cm) (mRoom cm) (PC D cy base ext vs h) (QC D cy base ext res) (mP cm 7) (mP cm 8) (fun q => base ≤ q)
theorem mt_in {cm : Nat} (h : mF cm ≠ 9) : mt cm ∈ mtab := by
  unfold mt
  by_cases hl : cm < mtab.length
  · rw [getD_lt hl]; exact List.getElem_mem hl
  · exfalso
    apply h
    unfold mF mt
    rw [getD_ge (Nat.le_of_not_lt hl)]
    rfl
/-- what the tables say of method cm -/
theorem m_facts {cm f : Nat} (hf : mF cm = f) (h3 : f < 3) : Cond.code (mY cm) (mC cm) (mL cm) (mR cm) ∈ TW ∧ Cond.initialized (mY cm).cls ∈ TW ∧ (f = 0 → Cond.static (mY cm) ∈ TW) ∧ (f ≠ 0 → Cond.instanceMethod (mY cm) ∈ TW) ∧ (f = 1 → Cond.selects (mY cm).cls (mY cm) (mY cm) ∈ TW) ∧ (f = 2 → (mY cm).name = "<init>") ∧ (mY cm).cls = ownS (mO cm) ∧ (mY cm).cls ≠ "java/lang/invoke/MethodHandle" ∧ (mY cm).cls ≠ "java/lang/invoke/VarHandle" ∧ (parseMethodDescriptor (mY cm).desc).map (fun d => d.parameters.length) = some (mP cm 4) ∧ plainName (mY cm).cls = true := by
  have hin := mt_in (cm := cm) (by omega)
  have h1 := mchk_all _ hin
  have h2 := mcode_all _ hin
  unfold mF at hf
  unfold mY mC mL mR mO mP
  generalize mt cm = q at *
  obtain ⟨y, cc, nl, rt, ow, g, is⟩ := q
  simp only at hf
  subst hf
  simp only [mchk, Bool.or_eq_true, Bool.and_eq_true, decide_eq_true_eq, beq_iff_eq] at h1
  rcases h1 with h1 | h1
  · omega
  rcases h2 with h2 | h2
  · simp only at h2; omega
  obtain ⟨⟨⟨⟨⟨⟨⟨⟨a1, a2⟩, a3⟩, a4⟩, a5⟩, a6⟩, a7⟩, a8⟩, a9⟩ := h1
  refine ⟨tw_at _ h2 rfl, tw_at _ a1 rfl, fun h0 => ?_, fun h0 => ?_, fun h0 => ?_, fun h0 => ?_, a5, a6, a7, a8, a9⟩
  · rw [if_pos h0] at a2; exact tw_at _ (of_decide_eq_true a2) rfl
  · rw [if_neg h0] at a2; exact tw_at _ (of_decide_eq_true a2) rfl
  · rw [if_pos h0] at a3; exact tw_at _ (of_decide_eq_true a3) rfl
  · subst h0
    simpa using a4
theorem tw_good {w : Cond} (h : w ∈ TW) : w ∈ TW ∧ ((w.onTables && w.keeps) = true ∨ ∃ ty, w = .arrayClass ty) := ⟨h, good_of_word (List.mem_filter.mp h).2⟩
section CallA
variable {l : Launch} {D : va_G} {cy : Nat → ClassId} {base : Nat} {ext : Nat → Nat} {sc : Nat × (Nat → Int32)} {rec : Rec} {k : Knt} {mi pc : Nat} {lv : Lv} {st : List Value} {cu su : Nat} {h : Hp} {res : Hp × Option Value}
theorem PC_blind {vs : List Value} : FrameBlind (PC D cy base ext vs h) := fun a U g mk q => ⟨q.1, q.2.1, KS.same (u := U) (U := U.calling g mk a) rfl q.2.2.1, q.2.2.2⟩
theorem call_go {p : Program} {e : Env} {s : State} {m : MethodId} {args : Array Value} {below : List Frame} {meth : Method} {c : Code} {Q : State → Prop} {H : Heap} {locs : List Loc} {ls : Array Slot} {R : Room} {mc ms : Nat} {st0 rest : List Value} {a : Array Value} {rs : Hp × Option Value}
    (hr : va_Run p l e R s m args below meth c H locs cu su mc ms (F0 m pc ls st0) rest (QC D cy base ext rs a) (fun q => base ≤ q)) (hS : va_S (fun q => base ≤ q) s.heap H locs)
    (kk : ∀ (H1 : Heap) (locs1 : List Loc), WHp D cy base ext rs.1 H1 → va_S (fun q => base ≤ q) s.heap H1 locs1 → W p l e R s m args below meth c H1 locs1 (cu + mc) (su + ms) Q (F0 m (pc + 3) ls ((rs.2.map (tr base ext)).toList ++ rest))) : W p l e R s m args below meth c H locs cu su Q (F0 m pc ls st0) := by
  intro T hT X
  obtain ⟨v, st₀, t, T', L, h0, X', hL, e1, e2, ⟨hv, hp, hz, hk⟩, st⟩ := hr T hT X
  cases hv
  rw [h0] at hz hk
  obtain ⟨t2, a1, b1⟩ := kk T'.heap (locs ++ L) (by rw [e1]; exact hp) ⟨Nat.le_trans hS.1 (by rw [e1]; exact hz), fun q q1 q2 => by rw [e1, hk q (Nat.lt_of_lt_of_le q1 hS.1) q2]; exact hS.2.1 q q1 q2, fun q hq => by
      rcases List.mem_append.mp hq with h | h
      · exact hS.2.2 q h
      · exact hL q h⟩ T' rfl X'
  exact ⟨t2, st t2 a1, b1⟩
/-- the pieces that every call needs -/
theorem call_pre {p : Program} {s : State} {m : MethodId} {args : Array Value} {meth : Method} {c : Code} {H : Heap} {vs : List Value} {locs : List Loc} (C0 : Cx D cy base ext sc p s m args meth c mi) (hW : WHp D cy base ext h H) (hS : va_S (fun q => base ≤ q) s.heap H locs) : ∀ U : State, U.heap = H → s.WarmedH U.vm → PC D cy base ext vs h (vs.map (tr base ext)).toArray U := fun U hU hWm => ⟨rfl, by rw [hU]; exact hW, C0.2.2.2.2.2.2.1.warm hWm, by rw [hU]; exact Nat.le_trans C0.2.2.2.2.2.2.2.1 hS.1⟩
/-- a call, whatever its kind -/
theorem so_call {cm na ml c1 s1 c2 s2 : Nat} {ok : List Value → Bool} (hml : ml = mL cm) (hc1 : c1 = mP cm 7) (hs1 : s1 = mP cm 8) (hc2 : c2 = mP mi 7) (hs2 : s2 = mP mi 8) (hk : KOK l D cy base ext sc k mi (pc + 3))
    (hcal : ∀ (as : List Value) (rs : Hp × Option Value), (lvE as (mL cm)).length = mL cm → rec cm 0 (lvE as (mL cm)) [] 0 0 h = some rs → (as.all (fun v => v.category == 1) = true ∨ lsOK (LSm cm) (lvE as (mL cm)) = true) → Ct l D cy base ext cm as h rs)
    (hrun : ∀ (as rest : List Value) (rs : Hp × Option Value), as.length = na → ok as = true → (rest.map fun v => v.category).sum ≤ 8 → cu + mP cm 7 ≤ mP mi 7 → su + mP cm 8 ≤ mP mi 8 → Ct l D cy base ext cm as h rs → ∀ (p : Program) (e : Env) (s : State) (m : MethodId) (args : Array Value) (below : List Frame) (meth : Method) (c : Code), Cx D cy base ext sc p s m args meth c mi → ∀ (H : Heap) (locs : List Loc) (ls : Array Slot), WHp D cy base ext h H → va_S (fun q => base ≤ q) s.heap H locs → LvOK base ext ls (mL mi) lv (LSm mi) → va_Run p l e (mRoom mi) s m args below meth c H locs cu su (mP cm 7) (mP cm 8) (F0 m pc ls ((as.reverse ++ rest).map (tr base ext))) (rest.map (tr base ext)) (QC D cy base ext rs (as.map (tr base ext)).toArray) (fun q => base ≤ q))
    (hq : doCall rec k cm na ml c1 s1 c2 s2 ok lv st cu su h = some res) : RW l D cy base ext sc mi pc lv st cu su h res := by
  subst hml; subst hc1; subst hs1; subst hc2; subst hs2
  unfold doCall at hq
  obtain ⟨⟨g1, g2, g3, g4, g5, g6, g7⟩, hq1⟩ := if_some hq
  cases hrec : rec cm 0 (lvE (st.take na).reverse (mL cm)) [] 0 0 h with
  | none => rw [hrec] at hq1; cases hq1
  | some rs =>
    rw [hrec] at hq1
    obtain ⟨h', r⟩ := rs
    have hq2 : k lv (r.toList ++ st.drop na) (cu + mP cm 7) (su + mP cm 8) h' = some res := hq1
    have hM := hcal _ _ g6 hrec (by rw [List.all_reverse]; exact g7)
    intro p e s m args below meth c Q C0 hend H locs ls hW hS hL h1 h2
    have hst : st = (st.take na).reverse.reverse ++ st.drop na := by rw [List.reverse_reverse, List.take_append_drop]
    have hR := hrun (st.take na).reverse (st.drop na) (h', r) (by rw [List.length_reverse, List.length_take]; omega) g2 g3 g4 g5 hM p e s m args below meth c C0 H locs ls hW hS hL
    rw [← hst] at hR
    refine call_go hR hS (fun H1 locs1 hW1 hS1 => ?_)
    have hnx := hk _ _ _ _ _ _ hq2 p e s m args below meth c Q C0 hend H1 locs1 ls hW1 hS1 hL g4 g5
    rw [List.map_append] at hnx
    have e3 : (r.map (tr base ext)).toList = r.toList.map (tr base ext) := by cases r <;> rfl
    show W p l e (mRoom mi) s m args below meth c H1 locs1 _ _ Q (F0 m (pc + 3) ls ((r.map (tr base ext)).toList ++ (st.drop na).map (tr base ext)))
    rw [e3]
    exact hnx
theorem gi_m {cm : Nat} (hc : Cond.code (mY cm) (mC cm) (mL cm) (mR cm) ∈ TW) : GoodIn TW (wsm cm) := fun w hw => by
  rcases List.mem_cons.mp hw with rfl | hw
  · exact tw_good hc
  · exact tw_good hw
theorem run_V {cm ix pos rc : Nat} {as rest : List Value} {rs : Hp × Option Value} (hd : decode (mC mi) pc = .ok (.invokevirtual ix, 3)) (hF : mF cm = 1) (hlk : lw_tbl[pos]? = some (.methodLink (ownS (mO mi)) ix (mY cm))) (hrc : rc < 13) (hrc2 : rc = mO cm) (r1 : mP cm 5 + 1 ≤ mP mi 5) (r2 : 8 + (mL cm + 11) + mP cm 6 ≤ mP mi 6)
    (hlen : as.length = mP cm 4 + 1) (hok : (match (generalizing := false) as with | .ref a :: _ => kd h a == rc | _ => false) = true) (h8 : (rest.map fun v => v.category).sum ≤ 8) (g4 : cu + mP cm 7 ≤ mP mi 7) (g5 : su + mP cm 8 ≤ mP mi 8) (hM : Ct l D cy base ext cm as h rs) {p : Program} {e : Env} {s : State} {m : MethodId} {args : Array Value} {below : List Frame} {meth : Method} {c : Code} (C0 : Cx D cy base ext sc p s m args meth c mi) {H : Heap} {locs : List Loc} {ls : Array Slot} (hW : WHp D cy base ext h H) (hS : va_S (fun q => base ≤ q) s.heap H locs) (hL : LvOK base ext ls (mL mi) lv (LSm mi)) :
    va_Run p l e (mRoom mi) s m args below meth c H locs cu su (mP cm 7) (mP cm 8) (F0 m pc ls ((as.reverse ++ rest).map (tr base ext))) (rest.map (tr base ext)) (QC D cy base ext rs (as.map (tr base ext)).toArray) (fun q => base ≤ q) := by
  obtain ⟨f1, f2, -, f4, f5, -, f7, f8, f9, f10, -⟩ := m_facts hF (by omega)
  cases as with
  | nil => cases hok
  | cons v0 As =>
    cases v0 with
    | ref a =>
      have ha : kd h a = rc := by simpa using hok
      have e0 : adr base ext a = base + a := adr_kd ha (by omega) hW.2.1
      have hal := kd_in ha (by omega)
      have he : (pl cy base ext h)[a]? = some (base + a, .inr (rc, oc base ext h a rc)) := by rw [pl_at hal.1, cE_obj hal.2 hrc]
      obtain ⟨q, hq⟩ : ∃ q, vwCl[rc]? = some q := ⟨_, List.getElem?_eq_getElem (by exact hrc)⟩
      have hqn : q.1 = (mY cm).cls := by
        rw [f7, ← hrc2]
        match rc, hq with
        | 0, h => cases h; rfl
        | 1, h => cases h; rfl
        | 2, h => cases h; rfl
        | 3, h => cases h; rfl
        | 4, h => cases h; rfl
        | 5, h => cases h; rfl
        | 6, h => cases h; rfl
        | 7, h => cases h; rfl
        | 8, h => cases h; rfl
        | 9, h => cases h; rfl
        | 10, h => cases h; rfl
        | 11, h => cases h; rfl
        | 12, h => cases h; rfl
        | n + 13, h => simp [vwCl] at h
      have hT : GoodIn TW (wsV (ownS (mO mi)) ix (mY cm).cls (mY cm) (wsm cm)) := by
        intro w hw
        rcases List.mem_append.mp hw with hw | hw
        · simp only [List.mem_cons, List.mem_nil_iff, or_false] at hw
          rcases hw with rfl | rfl | rfl | rfl
          · exact tw_good (tw_at pos hlk rfl)
          · exact tw_good (f4 (by omega))
          · exact tw_good (f5 rfl)
          · exact tw_good f2
        · exact gi_m f1 w hw
      have hrecv := va_recv C0.2.2.2.2.2.2.1.1 hW.1 hq he
      rw [hqn] at hrecv
      have hst : ((Value.ref a :: As).reverse ++ rest).map (tr base ext) = (As.map (tr base ext)).reverse ++ Value.ref (base + a) :: rest.map (tr base ext) := by
        simp [tr, e0]
      rw [hst]
      have := va_runV (As := As.map (tr base ext)) (rest := rest.map (tr base ext)) (b := base + a) (g := F0 m pc ls ((As.map (tr base ext)).reverse ++ Value.ref (base + a) :: rest.map (tr base ext))) (H := H) (locs := locs) (cells := cu) (slots := su) (e := e) (below := below) (meth := meth) (R := mRoom mi) (cc := mC mi) (nL := mL mi) (Ts := TW) (own := ownS (mO mi)) ⟨C0.1, C0.2.1, C0.2.2.1, C0.2.2.2.1, C0.2.2.2.2.1⟩ hM (cwV (mP cm 4) C0.2.2.2.2.1 hT rfl rfl rfl ⟨rfl, f8, f9, f10⟩ ⟨r1, r2⟩) ⟨PC_blind, hrecv, fun U hU hWm => by have := call_pre (vs := .ref a :: As) C0 hW hS U hU hWm; rw [List.map_cons, show tr base ext (.ref a) = .ref (base + a) by simp [tr, e0]] at this; exact this⟩ rfl (by simp at hlen; simpa using hlen) hL.2.1 rfl (lv_room (by simp only [List.map_map, Function.comp_def, tr_cat]; exact h8)) hd ⟨g4, g5⟩
      rw [List.map_cons, show tr base ext (.ref a) = .ref (base + a) by simp [tr, e0]]
      exact this
    | _ => cases hok
end CallA
