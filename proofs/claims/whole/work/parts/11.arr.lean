-- arrays, new objects and arrays
section ArrA
variable {l : Launch} {D : va_G} {cy : Nat → ClassId} {base : Nat} {ext : Nat → Nat} {sc : Nat × (Nat → Int32)} {rec : Rec} {k : Knt} {mi pc : Nat} {lv : Lv} {st : List Value} {cu su : Nat} {h : Hp} {res : Hp × Option Value}
theorem arr_at {a kk : Nat} (ha : kd h a = kk) (h13 : 13 ≤ kk) (h17 : kk < 17) : (pl cy base ext h)[a]? = some (base + a, .inl (cy (kk - 13), arE base ext h a)) := by
  have hal := kd_in ha (by omega)
  rw [pl_at hal.1, cE_arr (by rw [hal.2]; exact h13), hal.2]
theorem arE_i {a kk : Nat} (ha : kd h a = kk) (h14 : kk ≠ 14) (h16 : kk ≠ 16) (h99 : kk < 99) : arE base ext h a = (hN h a, .inl (hI h a)) := by
  have hal := kd_in ha h99
  simp [arE, hal.2, h14, h16]
theorem arE_j {a : Nat} (ha : kd h a = 14) : arE base ext h a = (hN h a, .inr (.inl (hJ h a))) := by
  have hal := kd_in ha (by omega)
  simp [arE, hal.2]
theorem arE_r {a : Nat} (ha : kd h a = 16) : arE base ext h a = (hN h a, .inr (.inr (.inr (.inr (fun j => rfo base ext (hR h a j)))))) := by
  have hal := kd_in ha (by omega)
  simp [arE, hal.2]
theorem so_iaload (hmi : mi ≠ 277) (hd : decode (mC mi) pc = .ok (.iaload, 1)) (hk : KOK l D cy base ext sc k mi (pc + 1)) (hq : (pI st fun i st => pA st fun a st => if kd h a = 13 ∧ ¬ (i < 0 ∨ hN h a ≤ i.toNatClampNeg) then k lv (.int (hI h a i.toNatClampNeg) :: st) cu su h else none) = some res) : RW l D cy base ext sc mi pc lv st cu su h res := by
  obtain ⟨i, st1, rfl, hq1⟩ := pI_some hq
  obtain ⟨a, st2, rfl, hq2⟩ := pA_some hq1
  obtain ⟨⟨ha, hi⟩, hq3⟩ := if_some hq2
  intro p e s m args below meth c Q C0 hend H locs ls hW hS hL h1 h2
  have e0 : adr base ext a = base + a := adr_kd ha (by omega) hW.2.1
  have he := arr_at (cy := cy) (base := base) (ext := ext) ha (by omega) (by omega)
  rw [arE_i ha (by omega) (by omega) (by omega)] at he
  show W p l e (mRoom mi) s m args below meth c H locs cu su Q (F0 m pc ls (Value.int i :: Value.ref (adr base ext a) :: st2.map (tr base ext)))
  rw [e0]
  exact va_iald C0.1 C0.2.1 C0.2.2.2.2.2.2.1.1 hW.1 a 0 he rfl hi hd (hk _ _ _ _ _ _ hq3 p e s m args below meth c Q C0 hend H locs ls hW hS hL h1 h2)
theorem so_sload (hmi : mi = 277) (hd : decode (mC mi) pc = .ok (.iaload, 1)) (hk : KOK l D cy base ext sc k mi (pc + 1)) (hq : (pI st fun i st => pA st fun a st => if a = 1000 ∧ ¬ (i < 0 ∨ sc.1 ≤ i.toNatClampNeg) then k lv (.int (sc.2 i.toNatClampNeg) :: st) cu su h else none) = some res) : RW l D cy base ext sc mi pc lv st cu su h res := by
  obtain ⟨i, st1, rfl, hq1⟩ := pI_some hq
  obtain ⟨a, st2, rfl, hq2⟩ := pA_some hq1
  obtain ⟨⟨ha, hi⟩, hq3⟩ := if_some hq2
  intro p e s m args below meth c Q C0 hend H locs ls hW hS hL h1 h2
  subst ha
  obtain ⟨x1, x2, x3, -⟩ := C0.2.2.2.2.2.2.2.2 hmi
  exact va_sld C0.1 C0.2.1 x1 x2 (fun z => absurd z (Nat.not_le.mpr x3)) hS hi hd (hk _ _ _ _ _ _ hq3 p e s m args below meth c Q C0 hend H locs ls hW hS hL h1 h2)
theorem so_slen (hmi : mi = 277) (hd : decode (mC mi) pc = .ok (.arraylength, 1)) (hk : KOK l D cy base ext sc k mi (pc + 1)) (hq : (pA st fun a st => if a = 1000 then k lv (.int (Int32.ofNat sc.1) :: st) cu su h else none) = some res) : RW l D cy base ext sc mi pc lv st cu su h res := by
  obtain ⟨a, st2, rfl, hq2⟩ := pA_some hq
  obtain ⟨ha, hq3⟩ := if_some hq2
  intro p e s m args below meth c Q C0 hend H locs ls hW hS hL h1 h2
  subst ha
  obtain ⟨x1, x2, x3, -⟩ := C0.2.2.2.2.2.2.2.2 hmi
  exact va_slen C0.1 C0.2.1 x1 x2 (fun z => absurd z (Nat.not_le.mpr x3)) hS hd (hk _ _ _ _ _ _ hq3 p e s m args below meth c Q C0 hend H locs ls hW hS hL h1 h2)
theorem so_alen (hd : decode (mC mi) pc = .ok (.arraylength, 1)) (hk : KOK l D cy base ext sc k mi (pc + 1)) (hq : (pA st fun a st => if 13 ≤ kd h a ∧ kd h a ≤ 16 then k lv (.int (Int32.ofNat (hN h a)) :: st) cu su h else none) = some res) : RW l D cy base ext sc mi pc lv st cu su h res := by
  obtain ⟨a, st2, rfl, hq2⟩ := pA_some hq
  obtain ⟨⟨ha, ha2⟩, hq3⟩ := if_some hq2
  intro p e s m args below meth c Q C0 hend H locs ls hW hS hL h1 h2
  have e0 : adr base ext a = base + a := adr_kd rfl (by omega) hW.2.1
  have he := arr_at (cy := cy) (base := base) (ext := ext) (h := h) (a := a) rfl ha (by omega)
  show W p l e (mRoom mi) s m args below meth c H locs cu su Q (F0 m pc ls (Value.ref (adr base ext a) :: st2.map (tr base ext)))
  rw [e0]
  have ht : ∃ ty, (tysE cy)[kd h a - 13]? = some (cy (kd h a - 13), ty) := by
    rcases (by omega : kd h a = 13 ∨ kd h a = 14 ∨ kd h a = 15 ∨ kd h a = 16) with q | q | q | q <;> rw [q] <;> exact ⟨_, rfl⟩
  obtain ⟨ty, ht⟩ := ht
  exact va_alen C0.1 C0.2.1 C0.2.2.2.2.2.2.1.1 hW.1 a _ he ht rfl hd (hk _ _ _ _ _ _ hq3 p e s m args below meth c Q C0 hend H locs ls hW hS hL h1 h2)
theorem so_laload (hd : decode (mC mi) pc = .ok (.laload, 1)) (hk : KOK l D cy base ext sc k mi (pc + 1)) (hq : (pI st fun i st => pA st fun a st => if kd h a = 14 ∧ ¬ (i < 0 ∨ hN h a ≤ i.toNatClampNeg) then k lv (.long (hJ h a i.toNatClampNeg) :: st) cu su h else none) = some res) : RW l D cy base ext sc mi pc lv st cu su h res := by
  obtain ⟨i, st1, rfl, hq1⟩ := pI_some hq
  obtain ⟨a, st2, rfl, hq2⟩ := pA_some hq1
  obtain ⟨⟨ha, hi⟩, hq3⟩ := if_some hq2
  intro p e s m args below meth c Q C0 hend H locs ls hW hS hL h1 h2
  have e0 : adr base ext a = base + a := adr_kd ha (by omega) hW.2.1
  have he := arr_at (cy := cy) (base := base) (ext := ext) ha (by omega) (by omega)
  rw [arE_j ha] at he
  show W p l e (mRoom mi) s m args below meth c H locs cu su Q (F0 m pc ls (Value.int i :: Value.ref (adr base ext a) :: st2.map (tr base ext)))
  rw [e0]
  exact va_lald C0.1 C0.2.1 C0.2.2.2.2.2.2.1.1 hW.1 a 1 he rfl hi hd (hk _ _ _ _ _ _ hq3 p e s m args below meth c Q C0 hend H locs ls hW hS hL h1 h2)
theorem so_baload (hd : decode (mC mi) pc = .ok (.baload, 1)) (hk : KOK l D cy base ext sc k mi (pc + 1)) (hq : (pI st fun i st => pA st fun a st => if kd h a = 15 ∧ ¬ (i < 0 ∨ hN h a ≤ i.toNatClampNeg) then k lv (.int (hI h a i.toNatClampNeg) :: st) cu su h else none) = some res) : RW l D cy base ext sc mi pc lv st cu su h res := by
  obtain ⟨i, st1, rfl, hq1⟩ := pI_some hq
  obtain ⟨a, st2, rfl, hq2⟩ := pA_some hq1
  obtain ⟨⟨ha, hi⟩, hq3⟩ := if_some hq2
  intro p e s m args below meth c Q C0 hend H locs ls hW hS hL h1 h2
  have e0 : adr base ext a = base + a := adr_kd ha (by omega) hW.2.1
  have he := arr_at (cy := cy) (base := base) (ext := ext) ha (by omega) (by omega)
  rw [arE_i ha (by omega) (by omega) (by omega)] at he
  show W p l e (mRoom mi) s m args below meth c H locs cu su Q (F0 m pc ls (Value.int i :: Value.ref (adr base ext a) :: st2.map (tr base ext)))
  rw [e0]
  exact va_zald C0.1 C0.2.1 C0.2.2.2.2.2.2.1.1 hW.1 a 2 he rfl hi hd (hk _ _ _ _ _ _ hq3 p e s m args below meth c Q C0 hend H locs ls hW hS hL h1 h2)
theorem so_aaload (hd : decode (mC mi) pc = .ok (.aaload, 1)) (hk : KOK l D cy base ext sc k mi (pc + 1)) (hq : (pI st fun i st => pA st fun a st => if kd h a = 16 ∧ ¬ (i < 0 ∨ hN h a ≤ i.toNatClampNeg) then (match hR h a i.toNatClampNeg with
      | 0 => none
      | r + 1 => k lv (.ref r :: st) cu su h) else none) = some res) : RW l D cy base ext sc mi pc lv st cu su h res := by
  obtain ⟨i, st1, rfl, hq1⟩ := pI_some hq
  obtain ⟨a, st2, rfl, hq2⟩ := pA_some hq1
  obtain ⟨⟨ha, hi⟩, hq3⟩ := if_some hq2
  intro p e s m args below meth c Q C0 hend H locs ls hW hS hL h1 h2
  have e0 : adr base ext a = base + a := adr_kd ha (by omega) hW.2.1
  have he := arr_at (cy := cy) (base := base) (ext := ext) ha (by omega) (by omega)
  rw [arE_r ha] at he
  show W p l e (mRoom mi) s m args below meth c H locs cu su Q (F0 m pc ls (Value.int i :: Value.ref (adr base ext a) :: st2.map (tr base ext)))
  rw [e0]
  cases hr : hR h a i.toNatClampNeg with
  | zero => rw [hr] at hq3; cases hq3
  | succ r =>
    rw [hr] at hq3
    refine va_aldq C0.1 C0.2.1 C0.2.2.2.2.2.2.1.1 hW.1 a 3 he rfl hi hd ?_
    have e2 : va_rf (rfo base ext (hR h a i.toNatClampNeg)) = .ref (adr base ext r) := by rw [hr]; rfl
    show W p l e (mRoom mi) s m args below meth c H locs cu su Q (F0 m (pc + 1) ls (va_rf (rfo base ext (hR h a i.toNatClampNeg)) :: st2.map (tr base ext)))
    rw [e2]
    exact hk _ _ _ _ _ _ hq3 p e s m args below meth c Q C0 hend H locs ls hW hS hL h1 h2
/-- the pool behind a write to one array -/
theorem pl_arr {h' : Hp} {a kk : Nat} (ha : kd h a = kk) (h13 : 13 ≤ kk) (h17 : kk < 17) (hn' : hn h' = hn h) (hK' : hK h' = hK h) (hc : ∀ i, i ≠ a → cE cy base ext h' i = cE cy base ext h i) : (pl cy base ext h).set a (base + a, .inl (cy (kk - 13), arE base ext h' a)) = pl cy base ext h' := by
  have hal := kd_in ha (by omega)
  have e : cE cy base ext h' a = .inl (cy (kk - 13), arE base ext h' a) := by rw [cE_arr (by rw [hK', hal.2]; exact h13), hK', hal.2]
  rw [← e]
  exact pl_set hal.1 hn' (fun i _ hi => hc i hi)
/-- an array behind a write, in the machine's heap -/
theorem arr_put {p : Program} {e : Env} {s : State} {m : MethodId} {args : Array Value} {below : List Frame} {meth : Method} {c : Code} {Q : State → Prop} {H H1 : Heap} {locs : List Loc} {ls : Array Slot} {h' : Hp} {a kk n : Nat} (C0 : Cx D cy base ext sc p s m args meth c mi) (hend : ∀ (pc : Nat) (ls : Array Slot) (H : Heap) (locs : List Loc) (cu su : Nat), WHp D cy base ext res.1 H → va_S (fun q => base ≤ q) s.heap H locs → cu ≤ mP mi 7 → su ≤ mP mi 8 → retAt mi pc res.2 → W p l e (mRoom mi) s m args below meth c H locs cu su Q (F0 m pc ls (res.2.toList.map (tr base ext))))
    (hW : WHp D cy base ext h H) (hS : va_S (fun q => base ≤ q) s.heap H locs) (hL : LvOK base ext ls (mL mi) lv (LSm mi)) (h1 : cu ≤ mP mi 7) (h2 : su ≤ mP mi 8) (ha : kd h a = kk) (h13 : 13 ≤ kk) (h17 : kk < 17) (hn' : hn h' = hn h) (hK' : hK h' = hK h) (hc : ∀ i, i ≠ a → cE cy base ext h' i = cE cy base ext h i)
    (hcell : H1[base + a]? = some (vp_cell (cy (kk - 13)) (arE base ext h' a))) (z : H1.size = H.size) (oq : ∀ q : Nat, q ≠ base + a → H1[q]? = H[q]?) (hk : RW l D cy base ext sc mi (pc + 1) lv st cu su h' res) : W p l e (mRoom mi) s m args below meth c H1 (locs ++ [⟨base + a, n⟩]) cu su Q (F0 m (pc + 1) ls (st.map (tr base ext))) := by
  have he := arr_at (cy := cy) (base := base) (ext := ext) ha h13 h17
  have hP1 := hW.1.set (H1 := H1) (e := .inl (cy (kk - 13), arE base ext h' a)) (pl_D (cy := cy) (base := base) (ext := ext) (h := h)) he hcell oq
  rw [pl_arr ha h13 h17 hn' hK' hc] at hP1
  exact hk p e s m args below meth c Q C0 hend H1 _ ls ⟨hP1, by rw [hn']; exact hW.2.1, by rw [hn', z]; exact hW.2.2⟩ (hS.put z oq (Nat.le_add_right _ _)) hL h1 h2
theorem so_iastore (hd : decode (mC mi) pc = .ok (.iastore, 1)) (hk : KOK l D cy base ext sc k mi (pc + 1)) (hq : (pI st fun x st => pI st fun i st => pA st fun a st => if kd h a = 13 ∧ ¬ (i < 0 ∨ hN h a ≤ i.toNatClampNeg) then k lv st cu su (sI h a i.toNatClampNeg x) else none) = some res) : RW l D cy base ext sc mi pc lv st cu su h res := by
  obtain ⟨x, st1, rfl, hq1⟩ := pI_some hq
  obtain ⟨i, st2, rfl, hq2⟩ := pI_some hq1
  obtain ⟨a, st3, rfl, hq3⟩ := pA_some hq2
  obtain ⟨⟨ha, hi⟩, hq4⟩ := if_some hq3
  intro p e s m args below meth c Q C0 hend H locs ls hW hS hL h1 h2
  have e0 : adr base ext a = base + a := adr_kd ha (by omega) hW.2.1
  have he := arr_at (cy := cy) (base := base) (ext := ext) ha (by omega) (by omega)
  rw [arE_i ha (by omega) (by omega) (by omega)] at he
  show W p l e (mRoom mi) s m args below meth c H locs cu su Q (F0 m pc ls (Value.int x :: Value.int i :: Value.ref (adr base ext a) :: st3.map (tr base ext)))
  rw [e0]
  refine W.iast C0.1 C0.2.1 (hW.1 a _ he) ((C0.2.2.2.2.2.2.1.1.2 0 _ rfl).1 (hN h a) (fun j => .int (hI h a j))) (fun q => by cases q) (by show ¬ (i < 0 ∨ (arrV _ _ _).slots.size ≤ _); rw [arrV_size]; exact hi) rfl rfl hd fun H1 e1 z oq => ?_
  refine arr_put (h' := sI h a i.toNatClampNeg x) C0 hend hW hS hL h1 h2 ha (by omega) (by omega) rfl rfl (fun j hj => cE_sI hj) ?_ z oq (hk _ _ _ _ _ _ hq4)
  rw [arE_i (h := sI h a i.toNatClampNeg x) ha (by omega) (by omega) (by omega), e1]
  show some ((vp_cell _ (hN h a, .inl (hI h a))).setSlot _ _) = some (vp_cell _ (hN h a, .inl (up2 (hI h) a i.toNatClampNeg x a)))
  rw [vp_cell_i, vp_cell_i, arrV_store]
  congr 2
  funext q
  by_cases hqq : q = i.toNatClampNeg
  · subst hqq; simp [updV, up2]
  · simp [updV, up2, hqq]
theorem so_bastore (hd : decode (mC mi) pc = .ok (.bastore, 1)) (hk : KOK l D cy base ext sc k mi (pc + 1)) (hq : (pI st fun x st => pI st fun i st => pA st fun a st => if kd h a = 15 ∧ (x = 0 ∨ x = 1) ∧ ¬ (i < 0 ∨ hN h a ≤ i.toNatClampNeg) then k lv st cu su (sI h a i.toNatClampNeg x) else none) = some res) : RW l D cy base ext sc mi pc lv st cu su h res := by
  obtain ⟨x, st1, rfl, hq1⟩ := pI_some hq
  obtain ⟨i, st2, rfl, hq2⟩ := pI_some hq1
  obtain ⟨a, st3, rfl, hq3⟩ := pA_some hq2
  obtain ⟨⟨ha, hx, hi⟩, hq4⟩ := if_some hq3
  intro p e s m args below meth c Q C0 hend H locs ls hW hS hL h1 h2
  have e0 : adr base ext a = base + a := adr_kd ha (by omega) hW.2.1
  have he := arr_at (cy := cy) (base := base) (ext := ext) ha (by omega) (by omega)
  rw [arE_i ha (by omega) (by omega) (by omega)] at he
  show W p l e (mRoom mi) s m args below meth c H locs cu su Q (F0 m pc ls (Value.int x :: Value.int i :: Value.ref (adr base ext a) :: st3.map (tr base ext)))
  rw [e0]
  refine W.zast C0.1 C0.2.1 (hW.1 a _ he) ((C0.2.2.2.2.2.2.1.1.2 2 _ rfl).1 (hN h a) (fun j => .int (hI h a j))) (fun q => by cases q) (by show ¬ (i < 0 ∨ (arrV _ _ _).slots.size ≤ _); rw [arrV_size]; exact hi) rfl rfl hd fun H1 e1 z oq => ?_
  refine arr_put (h' := sI h a i.toNatClampNeg x) C0 hend hW hS hL h1 h2 ha (by omega) (by omega) rfl rfl (fun j hj => cE_sI hj) ?_ z oq (hk _ _ _ _ _ _ hq4)
  rw [arE_i (h := sI h a i.toNatClampNeg x) ha (by omega) (by omega) (by omega), e1]
  have en : narrow .boolean (.int x) = .int x := by rcases hx with rfl | rfl <;> rfl
  show some ((vp_cell _ (hN h a, .inl (hI h a))).setSlot _ (narrow .boolean (.int x))) = some (vp_cell _ (hN h a, .inl (up2 (hI h) a i.toNatClampNeg x a)))
  rw [en, vp_cell_i, vp_cell_i, arrV_store]
  congr 2
  funext q
  by_cases hqq : q = i.toNatClampNeg
  · subst hqq; simp [updV, up2]
  · simp [updV, up2, hqq]
theorem so_lastore (hd : decode (mC mi) pc = .ok (.lastore, 1)) (hk : KOK l D cy base ext sc k mi (pc + 1)) (hq : (pJ st fun x st => pI st fun i st => pA st fun a st => if kd h a = 14 ∧ ¬ (i < 0 ∨ hN h a ≤ i.toNatClampNeg) then k lv st cu su (sJ h a i.toNatClampNeg x) else none) = some res) : RW l D cy base ext sc mi pc lv st cu su h res := by
  obtain ⟨x, st1, rfl, hq1⟩ := pJ_some hq
  obtain ⟨i, st2, rfl, hq2⟩ := pI_some hq1
  obtain ⟨a, st3, rfl, hq3⟩ := pA_some hq2
  obtain ⟨⟨ha, hi⟩, hq4⟩ := if_some hq3
  intro p e s m args below meth c Q C0 hend H locs ls hW hS hL h1 h2
  have e0 : adr base ext a = base + a := adr_kd ha (by omega) hW.2.1
  have he := arr_at (cy := cy) (base := base) (ext := ext) ha (by omega) (by omega)
  rw [arE_j ha] at he
  show W p l e (mRoom mi) s m args below meth c H locs cu su Q (F0 m pc ls (Value.long x :: Value.int i :: Value.ref (adr base ext a) :: st3.map (tr base ext)))
  rw [e0]
  refine W.last C0.1 C0.2.1 (hW.1 a _ he) ((C0.2.2.2.2.2.2.1.1.2 1 _ rfl).1 (hN h a) (fun j => .long (hJ h a j))) (fun q => by cases q) (by show ¬ (i < 0 ∨ (arrV _ _ _).slots.size ≤ _); rw [arrV_size]; exact hi) rfl rfl hd fun H1 e1 z oq => ?_
  refine arr_put (h' := sJ h a i.toNatClampNeg x) C0 hend hW hS hL h1 h2 ha (by omega) (by omega) rfl rfl (fun j hj => cE_sJ hj) ?_ z oq (hk _ _ _ _ _ _ hq4)
  rw [arE_j (h := sJ h a i.toNatClampNeg x) ha, e1]
  show some ((vp_cell _ (hN h a, .inr (.inl (hJ h a)))).setSlot _ _) = some (vp_cell _ (hN h a, .inr (.inl (up2 (hJ h) a i.toNatClampNeg x a))))
  rw [vp_cell_l, vp_cell_l, arrV_store]
  congr 2
  funext q
  by_cases hqq : q = i.toNatClampNeg
  · subst hqq; simp [updV, up2]
  · simp [updV, up2, hqq]
theorem so_aastore (hd : decode (mC mi) pc = .ok (.aastore, 1)) (hk : KOK l D cy base ext sc k mi (pc + 1)) (hq : (pA st fun x st => pI st fun i st => pA st fun a st => if kd h a = 16 ∧ kd h x = 8 ∧ ¬ (i < 0 ∨ hN h a ≤ i.toNatClampNeg) then k lv st cu su (sR h a i.toNatClampNeg (x + 1)) else none) = some res) : RW l D cy base ext sc mi pc lv st cu su h res := by
  obtain ⟨x, st1, rfl, hq1⟩ := pA_some hq
  obtain ⟨i, st2, rfl, hq2⟩ := pI_some hq1
  obtain ⟨a, st3, rfl, hq3⟩ := pA_some hq2
  obtain ⟨⟨ha, hx, hi⟩, hq4⟩ := if_some hq3
  intro p e s m args below meth c Q C0 hend H locs ls hW hS hL h1 h2
  have e0 : adr base ext a = base + a := adr_kd ha (by omega) hW.2.1
  have ex : adr base ext x = base + x := adr_kd hx (by omega) hW.2.1
  have he := arr_at (cy := cy) (base := base) (ext := ext) ha (by omega) (by omega)
  rw [arE_r ha] at he
  have hxl := kd_in hx (by omega)
  have hv : (pl cy base ext h)[x]? = some (base + x, .inr (8, oc base ext h x 8)) := by rw [pl_at hxl.1, cE_obj hxl.2 (by omega)]
  show W p l e (mRoom mi) s m args below meth c H locs cu su Q (F0 m pc ls (Value.ref (adr base ext x) :: Value.int i :: Value.ref (adr base ext a) :: st3.map (tr base ext)))
  rw [e0, ex]
  have hlt : i.toNatClampNeg < hN h a := Nat.not_le.mp fun q => hi (Or.inr q)
  have h0 : ¬ i < 0 := fun q => hi (Or.inl q)
  obtain ⟨r', hr', cellV, g1, g2, g3, -⟩ := hW.1 x _ hv
  have hcls := (C0.2.2.2.2.2.2.1.1.1 8 _ rfl).2
  obtain ⟨kA, comp, k1, k2, k3, -⟩ := (C0.2.2.2.2.2.2.1.1.2 3 _ rfl).2
  have hcomp : comp = D.1 8 := Option.some.inj (k3.symm.trans hcls.1)
  subst hcomp
  obtain ⟨kC, hkC, hkk⟩ := hcls.2
  refine W.aast C0.1 C0.2.1 (hW.1 a _ he) (fun q h => by cases h) (fun h => by cases h) k1 k2 rfl hkC ⟨h0, by show _ < (arrV _ _ _).slots.size; rw [arrV_size]; exact hlt⟩ g1 (fun q h => by rw [g3] at h; cases h) (by rw [g2]; exact hkC) (by rw [g2]; exact va_assign hcls) rfl rfl hd fun H1 e1 z oq => ?_
  refine arr_put (h' := sR h a i.toNatClampNeg (x + 1)) C0 hend hW hS hL h1 h2 ha (by omega) (by omega) rfl rfl (fun j hj => cE_sR hj) ?_ z oq (hk _ _ _ _ _ _ hq4)
  rw [arE_r (h := sR h a i.toNatClampNeg (x + 1)) ha, e1]
  show some ((vp_cell _ (hN h a, .inr (.inr (.inr (.inr (fun j => rfo base ext (hR h a j))))))).setSlot _ _) = some (vp_cell _ (hN h a, .inr (.inr (.inr (.inr (fun j => rfo base ext (up2 (hR h) a i.toNatClampNeg (x + 1) a j)))))))
  rw [vp_cell_q, vp_cell_q, arrV_store]
  congr 2
  funext q
  by_cases hqq : q = i.toNatClampNeg
  · subst hqq; simp [updV, up2, rfo, va_rf, ex]
  · simp [updV, up2, hqq]
end ArrA
