-- new cells; switches; small library calls
section AllocA
variable {l : Launch} {D : va_G} {cy : Nat → ClassId} {base : Nat} {ext : Nat → Nat} {sc : Nat × (Nat → Int32)} {rec : Rec} {k : Knt} {mi pc : Nat} {lv : Lv} {st : List Value} {cu su : Nat} {h : Hp} {res : Hp × Option Value}
theorem WHp_push {h' : Hp} {H H' : Heap} (hW : WHp D cy base ext h H) (hlt : hn h < 240) (hn' : hn h' = hn h + 1) (ho : ∀ i, i < hn h → cE cy base ext h' i = cE cy base ext h i) (hnew : va_at D vwCl (base + hn h, cE cy base ext h' (hn h)) H') (hsz : H'.size = H.size + 1) (hold : ∀ q, q < H.size → H'[q]? = H[q]?) : WHp D cy base ext h' H' := by
  have hP' : va_P D vwCl (pl cy base ext h) H' := hW.1.kept (fun i x hx => hold _ (hW.1 i x hx).lt)
  refine ⟨fun i q hi => ?_, by omega, fun _ => by rw [hsz, hW.2.2 hlt, hn']; omega⟩
  by_cases hin : i < hn h
  · rw [pl_at (by omega), ho i hin] at hi
    cases hi
    exact hP' i _ (pl_at hin)
  · have hil : i < (pl cy base ext h').length := (List.getElem?_eq_some_iff.mp hi).1
    have : i = hn h := by
      simp only [pl, List.length_map, List.length_range] at hil
      omega
    subst this
    rw [pl_at (by omega)] at hi
    cases hi
    exact hnew
theorem cE_alloc {kk n i : Nat} (hi : i < hn h) : cE cy base ext (alloc h kk n) i = cE cy base ext h i := by
  have hne : i ≠ hn h := by omega
  refine cE_congr ?_ ?_ ?_ ?_ ?_
  · show va_up (hK h) (hn h) kk i = hK h i
    simp [va_up, hne]
  · show va_up (hN h) (hn h) n i = hN h i
    simp [va_up, hne]
  · funext b; show (if i = hn h then 0 else hI h i b) = hI h i b; simp [hne]
  · funext b; show (if i = hn h then 0 else hJ h i b) = hJ h i b; simp [hne]
  · funext b; show (if i = hn h then 0 else hR h i b) = hR h i b; simp [hne]
theorem hK_alloc {kk n : Nat} : hK (alloc h kk n) (hn h) = kk := by show va_up (hK h) (hn h) kk (hn h) = kk; simp [va_up]
theorem hN_alloc {kk n : Nat} : hN (alloc h kk n) (hn h) = n := by show va_up (hN h) (hn h) n (hn h) = n; simp [va_up]
theorem hI_alloc {kk n : Nat} : hI (alloc h kk n) (hn h) = fun _ => 0 := by funext b; show (if hn h = hn h then 0 else hI h (hn h) b) = 0; simp
theorem hJ_alloc {kk n : Nat} : hJ (alloc h kk n) (hn h) = fun _ => 0 := by funext b; show (if hn h = hn h then 0 else hJ h (hn h) b) = 0; simp
theorem hR_alloc {kk n : Nat} : hR (alloc h kk n) (hn h) = fun _ => 0 := by funext b; show (if hn h = hn h then 0 else hR h (hn h) b) = 0; simp
theorem aw_i : Cond.arrayClass .int ∈ TW := tw_at 205 (by decide +kernel) rfl
theorem aw_z : Cond.arrayClass .boolean ∈ TW := tw_at 259 (by decide +kernel) rfl
theorem aw_j : Cond.arrayClass .long ∈ TW := tw_at 653 (by decide +kernel) rfl
/-- behind a new cell the run goes on -/
theorem new_go {p : Program} {e : Env} {s : State} {m : MethodId} {args : Array Value} {below : List Frame} {meth : Method} {c : Code} {Q : State → Prop} {H H' : Heap} {locs : List Loc} {ls : Array Slot} {kk n pc' nn : Nat} (C0 : Cx D cy base ext sc p s m args meth c mi) (hend : ∀ (pc : Nat) (ls : Array Slot) (H : Heap) (locs : List Loc) (cu su : Nat), WHp D cy base ext res.1 H → va_S (fun q => base ≤ q) s.heap H locs → cu ≤ mP mi 7 → su ≤ mP mi 8 → retAt mi pc res.2 → W p l e (mRoom mi) s m args below meth c H locs cu su Q (F0 m pc ls (res.2.toList.map (tr base ext))))
    (hW : WHp D cy base ext h H) (hS : va_S (fun q => base ≤ q) s.heap H locs) (hL : LvOK base ext ls (mL mi) lv (LSm mi)) (h1 : cu + 1 ≤ mP mi 7) (h2 : su + nn ≤ mP mi 8) (hlt : hn h < 240) (hnew : va_at D vwCl (base + hn h, cE cy base ext (alloc h kk n) (hn h)) H') (hsz : H'.size = H.size + 1) (hold : ∀ q, q < H.size → H'[q]? = H[q]?) (hk : RW l D cy base ext sc mi pc' lv (.ref (hn h) :: st) (cu + 1) (su + nn) (alloc h kk n) res) : W p l e (mRoom mi) s m args below meth c H' locs (cu + 1) (su + nn) Q (F0 m pc' ls (.ref H.size :: st.map (tr base ext))) := by
  have e0 : H.size = adr base ext (hn h) := by rw [adr_in (by omega)]; exact hW.2.2 hlt
  rw [e0]
  exact hk p e s m args below meth c Q C0 hend H' locs ls (WHp_push hW hlt rfl (fun i hi => cE_alloc hi) hnew hsz hold) ⟨by rw [hsz]; exact Nat.le_succ_of_le hS.1, fun q q1 q2 => (hold q (Nat.lt_of_lt_of_le q1 hS.1)).trans (hS.2.1 q q1 q2), hS.2.2⟩ hL h1 h2
theorem so_newarray {t : ArrayType} {c2 s2 : Nat} (hd : decode (mC mi) pc = .ok (.newarray t, 2)) (hk : KOK l D cy base ext sc k mi (pc + 2)) (hc2 : c2 = mP mi 7) (hs2 : s2 = mP mi 8) (ht : t = .int ∨ t = .long ∨ t = .boolean)
    (hq : (pI st fun n st => if ¬ n < 0 ∧ n.toNatClampNeg ≤ 100000 ∧ cu + 1 ≤ c2 ∧ su + n.toNatClampNeg ≤ s2 ∧ hn h < 240 then k lv (.ref (hn h) :: st) (cu + 1) (su + n.toNatClampNeg) (alloc h (match t with | .int => 13 | .long => 14 | _ => 15) n.toNatClampNeg) else none) = some res) : RW l D cy base ext sc mi pc lv st cu su h res := by
  obtain ⟨n, st1, rfl, hq1⟩ := pI_some hq
  obtain ⟨⟨g1, g2, g3, g4, g5⟩, hq2⟩ := if_some hq1
  subst hc2; subst hs2
  intro p e s m args below meth c Q C0 hend H locs ls hW hS hL h1 h2
  have tyc : ∀ (ty : FieldType) (i : Nat) (cA : ClassId), (tysE cy)[i]? = some (cy i, ty) → (∀ C, ty ≠ .object C) → s.vm.findClass ("[" ++ ty.toString) = some cA → cA = cy i := by
    intro ty i cA hi hno hf
    have h9 := (C0.2.2.2.2.2.2.1.1.2 i _ hi).2
    cases ty with
    | object C => exact absurd rfl (hno C)
    | _ => exact Option.some.inj (hf.symm.trans h9)
  rcases ht with rfl | rfl | rfl
  · refine va_newaK (atype := .int) C0.1 C0.2.1 (C0.2.2.2.2.1 _ aw_i) rfl hd rfl g1 rfl (by show _ * 4 ≤ _; omega) g3 g4 rfl fun H' cA e1 e2 e3 _ e5 => ?_
    have ec := tyc .int 0 cA rfl (fun C q => by cases q) e5
    subst ec
    refine new_go C0 hend hW hS hL g3 g4 g5 ?_ e2 e3 (hk _ _ _ _ _ _ hq2)
    rw [cE_arr (by rw [hK_alloc]; decide), hK_alloc]
    show H'[base + hn h]? = some (vp_cell _ (arE base ext _ _))
    rw [← hW.2.2 g5, e1]
    simp only [arE, hK_alloc, hN_alloc, hI_alloc]
    rfl
  · refine va_newaK (atype := .long) C0.1 C0.2.1 (C0.2.2.2.2.1 _ aw_j) rfl hd rfl g1 rfl (by show _ * 8 ≤ _; omega) g3 g4 rfl fun H' cA e1 e2 e3 _ e5 => ?_
    have ec := tyc .long 1 cA rfl (fun C q => by cases q) e5
    subst ec
    refine new_go C0 hend hW hS hL g3 g4 g5 ?_ e2 e3 (hk _ _ _ _ _ _ hq2)
    rw [cE_arr (by rw [hK_alloc]; decide), hK_alloc]
    show H'[base + hn h]? = some (vp_cell _ (arE base ext _ _))
    rw [← hW.2.2 g5, e1]
    simp only [arE, hK_alloc, hN_alloc, hJ_alloc]
    rfl
  · refine va_newaK (atype := .boolean) C0.1 C0.2.1 (C0.2.2.2.2.1 _ aw_z) rfl hd rfl g1 rfl (by show _ * 1 ≤ _; omega) g3 g4 rfl fun H' cA e1 e2 e3 _ e5 => ?_
    have ec := tyc .boolean 2 cA rfl (fun C q => by cases q) e5
    subst ec
    refine new_go C0 hend hW hS hL g3 g4 g5 ?_ e2 e3 (hk _ _ _ _ _ _ hq2)
    rw [cE_arr (by rw [hK_alloc]; decide), hK_alloc]
    show H'[base + hn h]? = some (vp_cell _ (arE base ext _ _))
    rw [← hW.2.2 g5, e1]
    simp only [arE, hK_alloc, hN_alloc, hI_alloc]
    rfl
theorem so_anew {ix pos c2 s2 : Nat} (hd : decode (mC mi) pc = .ok (.anewarray ix, 3)) (hk : KOK l D cy base ext sc k mi (pc + 3)) (hc2 : c2 = mP mi 7) (hs2 : s2 = mP mi 8) (hlk : lw_tbl[pos]? = some (.classLink (ownS (mO mi)) ix "AskedCourt$State"))
    (hq : (pI st fun n st => if ¬ n < 0 ∧ n.toNatClampNeg ≤ 100000 ∧ cu + 1 ≤ c2 ∧ su + n.toNatClampNeg ≤ s2 ∧ hn h < 240 then k lv (.ref (hn h) :: st) (cu + 1) (su + n.toNatClampNeg) (alloc h 16 n.toNatClampNeg) else none) = some res) : RW l D cy base ext sc mi pc lv st cu su h res := by
  obtain ⟨n, st1, rfl, hq1⟩ := pI_some hq
  obtain ⟨⟨g1, g2, g3, g4, g5⟩, hq2⟩ := if_some hq1
  subst hc2; subst hs2
  intro p e s m args below meth c Q C0 hend H locs ls hW hS hL h1 h2
  refine W.anew C0.1 C0.2.1 C0.2.2.2.1 (C0.2.2.2.2.1 _ (tw_at pos hlk rfl)) (va_AO.use C0.2.2.2.2.2.2.1.2.2) rfl hd rfl g1 (by omega) g3 g4 fun cA kA comp f1 f2 f3 f4 => ?_
  obtain ⟨kA', comp', k1, k2, k3, k4⟩ := (C0.2.2.2.2.2.2.1.1.2 3 _ rfl).2
  have ec : cA = cy 3 := Option.some.inj (f1.symm.trans k4)
  subst ec
  refine new_go C0 hend hW hS hL g3 g4 g5 ?_ (by rw [Array.size_push]) (fun q hq => by rw [Array.getElem?_push, if_neg (Nat.ne_of_lt hq)]) (hk _ _ _ _ _ _ hq2)
  rw [cE_arr (by rw [hK_alloc]; decide), hK_alloc]
  show (H.push _)[base + hn h]? = some (vp_cell _ (arE base ext _ _))
  have e7 : vp_cell (cy (16 - 13)) (arE base ext (alloc h 16 n.toNatClampNeg) (hn h)) = arrV (cy 3) n.toNatClampNeg (fun _ => .null) := by
    simp only [arE, hK_alloc, hN_alloc, hR_alloc]
    rfl
  rw [← hW.2.2 g5, Array.getElem?_push_size]
  refine congrArg some ?_
  refine Eq.trans ?_ e7.symm
  rw [← arrV_new]
theorem born_ok {ci : Nat} {q : vw_C} (hc : vwCl[ci]? = some q) : ∀ j, j < q.2.2 → defaultValue (clT ci j) = vp_V (oc base ext (alloc h ci 0) (hn h) ci) j := by
  intro j hj
  have hjl : j < (fks.getD ci []).length := by rw [fks_len hc]; exact hj
  have hty := tyk_all ci (cl_lt hc) j hjl
  have hv := oc_get (base := base) (ext := ext) (h := alloc h ci 0) (k := hn h) hjl
  have e1 : vp_V (oc base ext (alloc h ci 0) (hn h) ci) j = fv base ext (alloc h ci 0) (hn h) j ((fks.getD ci []).getD j 9) := by
    unfold vp_V
    rw [List.getD_eq_getElem?_getD, hv]
    rfl
  rw [e1]
  generalize (fks.getD ci []).getD j 9 = t at hty ⊢
  simp only [fv, hI_alloc, hJ_alloc, hR_alloc]
  cases hcl : clT ci j <;> rw [hcl] at hty <;> simp [tykB] at hty <;> subst hty <;> rfl
theorem so_new {ix ci nf c2 s2 p1 p2 p3 : Nat} {C : String} {T : u_T} {N : Nat} (hd : decode (mC mi) pc = .ok (.new ix, 3)) (hk : KOK l D cy base ext sc k mi (pc + 3)) (hc2 : c2 = mP mi 7) (hs2 : s2 = mP mi 8) (hc : vwCl[ci]? = some (C, T, N)) (hnf : nf = N) (w1 : lw_tbl[p1]? = some (.classLink (ownS (mO mi)) ix C)) (w2 : lw_tbl[p2]? = some (.instantiable C N)) (w3 : lw_tbl[p3]? = some (.initialized C))
    (hq : (if cu + 1 ≤ c2 ∧ su + nf ≤ s2 ∧ hn h < 240 then k lv (.ref (hn h) :: st) (cu + 1) (su + nf) (alloc h ci 0) else none) = some res) : RW l D cy base ext sc mi pc lv st cu su h res := by
  obtain ⟨⟨g3, g4, g5⟩, hq2⟩ := if_some hq
  subst hc2; subst hs2; subst hnf
  intro p e s m args below meth c Q C0 hend H locs ls hW hS hL h1 h2
  have hKn := C0.2.2.2.2.2.2.1.1.1 ci _ hc
  refine W.newcK C0.1 C0.2.1 C0.2.2.2.1 (C0.2.2.2.2.1 _ (tw_at p1 w1 rfl)) (C0.2.2.2.2.1 _ (tw_at p2 w2 rfl)) (C0.2.2.2.2.1 _ (tw_at p3 w3 rfl)) rfl hd g3 g4 hKn.2.1 rfl fun H1 kC hkC e1 z1 o1 => ?_
  refine new_go C0 hend hW hS hL g3 g4 g5 ?_ z1 o1 (hk _ _ _ _ _ _ hq2)
  rw [cE_obj hK_alloc (cl_lt hc)]
  rw [hW.2.2 g5] at e1
  exact ⟨_, hc, (u_born (clT ci) C0.2.2.2.2.1 (tw_cl ci _ hc) hKn hkC e1 (cl_ty ci _ hc)).to (born_ok hc)⟩
theorem so_objInit {ix p1 p2 p3 : Nat} (hd : decode (mC mi) pc = .ok (.invokespecial ix, 3)) (hk : KOK l D cy base ext sc k mi (pc + 3)) (w1 : lw_tbl[p1]? = some (.methodLink (ownS (mO mi)) ix objectInit)) (w2 : lw_tbl[p2]? = some (.instanceMethod objectInit)) (w3 : lw_tbl[p3]? = some (.code objectInit ⟨#[0xb1]⟩ 1 none)) (r1 : 1 ≤ mP mi 5) (r2 : 12 ≤ mP mi 6)
    (hq : (pA st fun _ st => match st with
      | [] => k lv [] cu su h
      | _ => none) = some res) : RW l D cy base ext sc mi pc lv st cu su h res := by
  obtain ⟨a, st1, rfl, hq1⟩ := pA_some hq
  cases st1 with
  | cons _ _ => cases hq1
  | nil =>
    intro p e s m args below meth c Q C0 hend H locs ls hW hS hL h1 h2
    refine W.objInit C0.1 C0.2.1 C0.2.2.2.1 (C0.2.2.2.2.1 _ (tw_at p1 w1 rfl)) (C0.2.2.2.2.1 _ (tw_at p2 w2 rfl)) (C0.2.2.2.2.1 _ (tw_at p3 w3 rfl)) rfl (by rw [C0.2.2.1]; exact hL.2.1) rfl hd r1 (by show 2 * 0 + 0 + 12 ≤ _; exact r2) ?_
    exact hk _ _ _ _ _ _ hq1 p e s m args below meth c Q C0 hend H locs ls hW hS hL h1 h2
theorem so_min {ix p1 p2 p3 p4 : Nat} (hd : decode (mC mi) pc = .ok (.invokestatic ix, 3)) (hk : KOK l D cy base ext sc k mi (pc + 3)) (w1 : lw_tbl[p1]? = some (.methodLink (ownS (mO mi)) ix Lib.Math.min.name)) (w2 : lw_tbl[p2]? = some (.static Lib.Math.min.name)) (w3 : lw_tbl[p3]? = some (.initialized "java/lang/Math")) (w4 : lw_tbl[p4]? = some (.code Lib.Math.min.name Lib.Math.min.code 2 (some .int))) (r1 : 1 ≤ mP mi 5) (r2 : 21 ≤ mP mi 6)
    (hq : (pI st fun y st => pI st fun x st => if (st.map fun v => v.category).sum ≤ 8 then k lv (.int (if y < x then y else x) :: st) cu su h else none) = some res) : RW l D cy base ext sc mi pc lv st cu su h res := by
  obtain ⟨y, st1, rfl, hq1⟩ := pI_some hq
  obtain ⟨x, st2, rfl, hq2⟩ := pI_some hq1
  obtain ⟨hs, hq3⟩ := if_some hq2
  intro p e s m args below meth c Q C0 hend H locs ls hW hS hL h1 h2
  exact va_mmin C0.1 C0.2.1 (by rw [C0.2.2.1]; exact hL.2.1.symm) C0.2.2.2.1 (C0.2.2.2.2.1 _ (tw_at p1 w1 rfl)) (C0.2.2.2.2.1 _ (tw_at p2 w2 rfl)) (C0.2.2.2.2.1 _ (tw_at p3 w3 rfl)) (C0.2.2.2.2.1 _ (tw_at p4 w4 rfl)) r1 (by simp only [List.map_map, Function.comp_def, tr_cat]; exact Nat.le_trans (Nat.add_le_add_right hs 13) r2) h1 h2 hd (hk _ _ _ _ _ _ hq3 p e s m args below meth c Q C0 hend H locs ls hW hS hL h1 h2)
theorem so_max {ix p1 p2 p3 p4 : Nat} (hd : decode (mC mi) pc = .ok (.invokestatic ix, 3)) (hk : KOK l D cy base ext sc k mi (pc + 3)) (w1 : lw_tbl[p1]? = some (.methodLink (ownS (mO mi)) ix Lib.Math.max.name)) (w2 : lw_tbl[p2]? = some (.static Lib.Math.max.name)) (w3 : lw_tbl[p3]? = some (.initialized "java/lang/Math")) (w4 : lw_tbl[p4]? = some (.code Lib.Math.max.name Lib.Math.max.code 2 (some .int))) (r1 : 1 ≤ mP mi 5) (r2 : 21 ≤ mP mi 6)
    (hq : (pI st fun y st => pI st fun x st => if (st.map fun v => v.category).sum ≤ 8 then k lv (.int (if x < y then y else x) :: st) cu su h else none) = some res) : RW l D cy base ext sc mi pc lv st cu su h res := by
  obtain ⟨y, st1, rfl, hq1⟩ := pI_some hq
  obtain ⟨x, st2, rfl, hq2⟩ := pI_some hq1
  obtain ⟨hs, hq3⟩ := if_some hq2
  intro p e s m args below meth c Q C0 hend H locs ls hW hS hL h1 h2
  exact va_mmax C0.1 C0.2.1 (by rw [C0.2.2.1]; exact hL.2.1.symm) C0.2.2.2.1 (C0.2.2.2.2.1 _ (tw_at p1 w1 rfl)) (C0.2.2.2.2.1 _ (tw_at p2 w2 rfl)) (C0.2.2.2.2.1 _ (tw_at p3 w3 rfl)) (C0.2.2.2.2.1 _ (tw_at p4 w4 rfl)) r1 (by simp only [List.map_map, Function.comp_def, tr_cat]; exact Nat.le_trans (Nat.add_le_add_right hs 13) r2) h1 h2 hd (hk _ _ _ _ _ _ hq3 p e s m args below meth c Q C0 hend H locs ls hW hS hL h1 h2)
theorem so_table {d lo hi : Int} {offs : Array Int} {len dd : Nat} {ts : List Nat} (hd : decode (mC mi) pc = .ok (.tableswitch d lo hi offs, len)) (hr : ROK l D cy base ext sc rec mi) (t1 : (pc : Int) + d = (dd : Int)) (t2 : ts.map (fun (t : Nat) => (t : Int) - (pc : Int)) = offs.toList) (t3 : (offs.toList.length : Int) = hi - lo + 1)
    (hq : (pI st fun x st => if x.toInt < lo ∨ hi < x.toInt then rec mi dd lv st cu su h else rec mi (ts.getD (x.toInt - lo).toNat 0) lv st cu su h) = some res) : RW l D cy base ext sc mi pc lv st cu su h res := by
  obtain ⟨x, st1, rfl, hq1⟩ := pI_some hq
  intro p e s m args below meth c Q C0 hend H locs ls hW hS hL h1 h2
  by_cases hx : x.toInt < lo ∨ hi < x.toInt
  · rw [if_pos hx] at hq1
    exact lv_tableOut C0.1 C0.2.1 hd hx t1 (hr _ _ _ _ _ _ _ hq1 p e s m args below meth c Q C0 hend H locs ls hW hS hL h1 h2)
  · rw [if_neg hx] at hq1
    have g1 : ¬ x.toInt < lo := fun q => hx (Or.inl q)
    have g2 : ¬ hi < x.toInt := fun q => hx (Or.inr q)
    have hl : (x.toInt - lo).toNat < ts.length := by
      have := congrArg List.length t2
      rw [List.length_map] at this
      omega
    have ho : offs[(x.toInt - lo).toNat]? = some ((ts.getD (x.toInt - lo).toNat 0 : Nat) - (pc : Int)) := by
      rw [← Array.getElem?_toList, ← t2, List.getElem?_map, List.getElem?_eq_getElem hl, getD_lt hl]
      rfl
    exact lv_tableIn C0.1 C0.2.1 hd g1 g2 ho (by omega) (hr _ _ _ _ _ _ _ hq1 p e s m args below meth c Q C0 hend H locs ls hW hS hL h1 h2)
theorem lsw_off : ∀ (ps : List (Int × Int)) (ts : List Nat) (pc dd : Nat) (d x : Int), (pc : Int) + d = (dd : Int) → ts.map (fun (t : Nat) => (t : Int) - (pc : Int)) = ps.map (fun q => q.2) → (pc : Int) + Op.lookupswitch.offset ps d x = ((lsw ps ts dd x : Nat) : Int) := by
  intro ps
  induction ps with
  | nil => intro ts pc dd d x h1 _; cases ts <;> simpa [lsw, Op.lookupswitch.offset] using h1
  | cons q r ih =>
    intro ts pc dd d x h1 h2
    obtain ⟨a, o⟩ := q
    cases ts with
    | nil => simp at h2
    | cons t ts =>
      simp only [List.map_cons, List.cons.injEq] at h2
      rw [Op.lookupswitch.offset_cons]
      simp only [lsw]
      by_cases hx : x = a
      · subst hx
        rw [if_pos rfl, if_pos rfl]
        omega
      · rw [if_neg hx, if_neg (fun q => hx q.symm)]
        exact ih ts pc dd d x h1 h2.2
theorem so_lookup {d : Int} {ps : Array (Int × Int)} {len dd : Nat} {ts : List Nat} (hd : decode (mC mi) pc = .ok (.lookupswitch d ps, len)) (hr : ROK l D cy base ext sc rec mi) (t1 : (pc : Int) + d = (dd : Int)) (t2 : ts.map (fun (t : Nat) => (t : Int) - (pc : Int)) = ps.toList.map (fun q => q.2)) (t3 : (ps.toList.zip (ps.toList.drop 1)).all (fun (a, next) => a.1 < next.1) = true)
    (hq : (pI st fun x st => rec mi (lsw ps.toList ts dd x.toInt) lv st cu su h) = some res) : RW l D cy base ext sc mi pc lv st cu su h res := by
  obtain ⟨x, st1, rfl, hq1⟩ := pI_some hq
  intro p e s m args below meth c Q C0 hend H locs ls hW hS hL h1 h2
  exact lv_lookup C0.1 C0.2.1 hd t3 rfl (lsw_off _ _ _ _ _ _ t1 t2) (hr _ _ _ _ _ _ _ hq1 p e s m args below meth c Q C0 hend H locs ls hW hS hL h1 h2)
end AllocA
