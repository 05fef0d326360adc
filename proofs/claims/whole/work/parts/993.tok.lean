-- the words' constructor: its text constant, read letter by letter
section Tok
variable {l : Launch} {D : va_G} {cy : Nat → ClassId} {base : Nat} {ext : Nat → Nat} {sc : Nat × (Nat → Int32)} {res : Hp × Option Value} {lv : Lv} {st : List Value} {cu su : Nat} {h : Hp}
def segT0 : List MI := [(.aload_n 0, 1, []), (.invokespecial 1, 3, [999, 1, 487, 157, 158]), (.aload_n 0, 1, []), (.bipush 25, 2, []), (.newarray .int, 2, [1, 25]), (.putfield 9, 3, [10, 1, 2, 538, 0, 1]), (.aload_n 0, 1, []), (.aload_n 1, 1, []), (.putfield 13, 3, [10, 0, 2, 537, 0, 1]), (.iconst 0, 1, []), (.istore_n 2, 1, []), (.iconst 0, 1, []), (.istore_n 3, 1, []), (.iconst 0, 1, []), (.istore 4, 2, [])]
def segT1 : List MI := [(.iload 4, 2, [])]
def segT2 : List MI := [(.if_icmp .ge 65, 3, [96]), (.iload_n 2, 1, []), (.bipush 25, 2, []), (.if_icmp .ge 59, 3, [96])]
def segT3 : List MI := [(.bipush 32, 2, []), (.if_icmp .eq 36, 3, [85]), (.aload_n 0, 1, []), (.getfield 9, 3, [10, 1, 2, 538, 0]), (.iload_n 2, 1, []), (.dup2, 1, []), (.iaload, 1, [])]
def segT4 : List MI := [(.bipush 97, 2, []), (.isub, 1, []), (.iconst 1, 1, []), (.iadd, 1, []), (.iconst 5, 1, []), (.iconst 5, 1, []), (.iload_n 3, 1, []), (.isub, 1, []), (.imul, 1, []), (.ishl, 1, []), (.ior, 1, []), (.iastore, 1, []), (.iinc 3 1, 3, []), (.goto 8, 3, [90])]
def segT5 : List MI := [(.iinc 2 1, 3, []), (.iconst 0, 1, []), (.istore_n 3, 1, []), (.iinc 4 1, 3, []), (.goto (-69), 3, [24])]
def segT6 : List MI := [(.iinc 4 1, 3, []), (.goto (-69), 3, [24])]
def segT7 : List MI := [(.return_, 1, [])]
theorem tk_rec (l : Launch) (D : va_G) (cy : Nat → ClassId) (base : Nat) (ext : Nat → Nat) (sc : Nat × (Nat → Int32)) (res : Hp × Option Value) : ∃ rec : Rec, (∀ (mi t : Nat) (lv : Lv) (st : List Value) (cu su : Nat) (h : Hp) (r : Hp × Option Value), rec mi t lv st cu su h = some r → mi = 7 ∧ t ≠ 0 ∧ r = res ∧ RWZ l D cy base ext sc 7 t lv st cu su h res) ∧ (∀ (t : Nat) (lv : Lv) (st : List Value) (cu su : Nat) (h : Hp), t ≠ 0 → RWZ l D cy base ext sc 7 t lv st cu su h res → rec 7 t lv st cu su h = some res) := by
  classical
  refine ⟨fun mi t lv st cu su h => if mi = 7 ∧ t ≠ 0 ∧ RWZ l D cy base ext sc 7 t lv st cu su h res then some res else none, ?_, ?_⟩
  · intro mi t lv st cu su h r hr
    replace hr : (if mi = 7 ∧ t ≠ 0 ∧ RWZ l D cy base ext sc 7 t lv st cu su h res then some res else none) = some r := hr
    by_cases e : mi = 7 ∧ t ≠ 0 ∧ RWZ l D cy base ext sc 7 t lv st cu su h res
    · rw [if_pos e] at hr
      cases hr
      exact ⟨e.1, e.2.1, rfl, e.2.2⟩
    · rw [if_neg e] at hr
      cases hr
  · intro t lv st cu su h ht hr
    exact if_pos ⟨rfl, ht, hr⟩
theorem tk_seg (seg : List MI) {pc : Nat} (hc : chkS (mt 7) pc seg = true) (hl : seg.all lenOK = true) (ho : seg.all (ownOK (mO 7)) = true) (hx : ∀ rec : Rec, (∀ (t : Nat) (lv : Lv) (st : List Value) (cu su : Nat) (h : Hp), t ≠ 0 → RWZ l D cy base ext sc 7 t lv st cu su h res → rec 7 t lv st cu su h = some res) → exS sc pp0 rec 7 pc seg lv st cu su h = some res) : RWZ l D cy base ext sc 7 pc lv st cu su h res := by
  obtain ⟨rec, r1, r2⟩ := tk_rec l D cy base ext sc res
  refine snd_segZ (rec := rec) (pp := pp0) ?_ ?_ PPok0 (by decide) seg pc hc (List.all_eq_true.mp hl) (List.all_eq_true.mp ho) lv st cu su h res (hx rec r2)
  · intro t lv st cu su h r hr
    obtain ⟨_, _, rfl, q⟩ := r1 _ _ _ _ _ _ _ _ hr
    exact q
  · intro cm as h rs _ _ hr _
    exact absurd rfl (r1 _ _ _ _ _ _ _ _ hr).2.1
theorem tk_own : ownS (mO 7) = "AskedCourt$Tokens" := by decide +kernel
theorem tk_B {p : Program} {s : State} {m : MethodId} {args : Array Value} {meth : Method} {c : Code} (C : CxZ D cy base ext sc p s m args meth c 7) : JB p s m args c (mC 7) (mL 7) "AskedCourt$Tokens" := ⟨C.1, C.2.1, C.2.2.1, by rw [← tk_own]; exact C.2.2.2.1, C.2.2.2.2.1⟩
theorem tk_len (hst : ((st.map (tr base ext)).map fun v => v.category).sum ≤ 8) (hk : RWZ l D cy base ext sc 7 31 lv (.int (nI 124) :: st) cu su h res) : RWZ l D cy base ext sc 7 26 lv st cu su h res := by
  intro p e s m args below meth c Q C hend H locs ls hW hS hL h1 h2
  obtain ⟨⟨adK, adV, x1, x2⟩, x3, x4⟩ := C.2.2.2.2.2.2.1.2.2.2.2
  have hX : SXa base adK adV s s.heap := ⟨x1, x3, x4⟩
  have B := tk_B C
  refine va_ldcS B.1 B.2.1 B.2.2.2.1 x2 (show decode (mC 7) 26 = .ok (.ldc 16, 2) by decide +kernel) ?_
  refine j_callV (idx := 18) (As := []) (pc := 28) (rest := st.map (tr base ext)) B hX hS j_len rfl rfl (tw_at 489 (by decide +kernel) rfl) (tw_at 490 (by decide +kernel) rfl) (tw_at 491 (by decide +kernel) rfl) (tw_at 138 (by decide +kernel) rfl) (tw_at 492 (by decide +kernel) rfl) (by decide +kernel) ⟨by decide +kernel, by decide +kernel⟩ h1 h2 hL.2.1 hst (by decide +kernel) ?_
  exact hk p e s m args below meth c Q C hend H locs ls hW hS hL h1 h2
theorem tk_chr {i pc : Nat} (hi : i < 124) (hp : pc = 40 ∨ pc = 59) (hlv : lget lv 4 = some (.int (nI i))) (hst : ((st.map (tr base ext)).map fun v => v.category).sum ≤ 8) (hk : RWZ l D cy base ext sc 7 (pc + 7) lv (.int (wdB.getD i 0) :: st) cu su h res) : RWZ l D cy base ext sc 7 pc lv st cu su h res := by
  intro p e s m args below meth c Q C hend H locs ls hW hS hL h1 h2
  obtain ⟨⟨adK, adV, x1, x2⟩, x3, x4⟩ := C.2.2.2.2.2.2.1.2.2.2.2
  have hX : SXa base adK adV s s.heap := ⟨x1, x3, x4⟩
  have B := tk_B C
  have hl4 : ls[4]? = some (.val (.int (nI i))) := (hL.2.2.2 4 _ (lget_some hlv)).1
  have d1 : decode (mC 7) pc = .ok (.ldc 16, 2) := by rcases hp with rfl | rfl <;> decide +kernel
  have d2 : decode (mC 7) (pc + 2) = .ok (.iload 4, 2) := by rcases hp with rfl | rfl <;> decide +kernel
  have d3 : decode (mC 7) (pc + 2 + 2) = .ok (.invokevirtual 24, 3) := by rcases hp with rfl | rfl <;> decide +kernel
  refine va_ldcS B.1 B.2.1 B.2.2.2.1 x2 d1 ?_
  refine lv_iload B.1 B.2.1 d2 hl4 ?_
  refine j_callV (idx := 24) (As := [.int (nI i)]) (rest := st.map (tr base ext)) B hX hS (j_chr hi) rfl rfl (tw_at 499 (by decide +kernel) rfl) (tw_at 500 (by decide +kernel) rfl) (tw_at 501 (by decide +kernel) rfl) (tw_at 138 (by decide +kernel) rfl) (tw_at 502 (by decide +kernel) rfl) (show _ = some 1 by decide +kernel) ⟨by decide +kernel, by decide +kernel⟩ h1 h2 hL.2.1 hst d3 ?_
  exact hk p e s m args below meth c Q C hend H locs ls hW hS hL h1 h2
/-- what the loop makes of the text -/
def tkF (i : Nat) (x : Int32 × Int32 × List Int32) : Int32 × Int32 × List Int32 := if wdB.getD i 0 = 32 then (x.1 + 1, 0, x.2.2) else (x.1, x.2.1 + 1, x.2.2.set x.1.toNatClampNeg (x.2.2.getD x.1.toNatClampNeg 0 ||| ((wdB.getD i 0 - 97 + 1) <<< ((5 * (5 - x.2.1)) &&& 31))))
def tkA : Nat → Int32 × Int32 × List Int32
  | 0 => (0, 0, List.replicate 25 0)
  | i + 1 => tkF i (tkA i)
theorem tkA_end : (tkA 124).2.2 = tokW := by decide +kernel
theorem tkA_in : ∀ i, i < 124 → ¬ (tkA i).1 < 0 ∧ (tkA i).1.toNatClampNeg < 25 ∧ ¬ (25 : Int32) ≤ (tkA i).1 ∧ (tkA i).2.2.length = 25 := by decide +kernel
def hT (a b : Nat) (h : Hp) (row : List Int32) : Hp := sR (sR (rowI (alloc h 13 25) (hn h) (fun j => row.getD j 0)) a 1 (hn h + 1)) a 0 (b + 1)
theorem kdT {a b k : Nat} {row : List Int32} : kd (hT a b h row) k = kd (alloc h 13 25) k := (rfl)
theorem kd_al {k x : Nat} (hk : kd h k = x) (hx : x ≠ 99) : kd (alloc h 13 25) k = x := by
  unfold kd at hk ⊢
  by_cases e : k < hn h
  · rw [if_pos e] at hk
    rw [if_pos (show k < hn (alloc h 13 25) from Nat.lt_succ_of_lt e)]
    show va_up (hK h) (hn h) 13 k = x
    unfold va_up
    rw [if_neg (by omega)]
    exact hk
  · rw [if_neg e] at hk
    exact absurd hk.symm hx
theorem kd_ltT {k x : Nat} (hk : kd h k = x) (hx : x ≠ 99) : k < hn h := by
  unfold kd at hk
  by_cases e : k < hn h
  · exact e
  · rw [if_neg e] at hk
    exact absurd hk.symm hx
theorem kd_new : kd (alloc h 13 25) (hn h) = 13 := by
  unfold kd
  rw [if_pos (show hn h < hn (alloc h 13 25) from Nat.lt_succ_self _)]
  show va_up (hK h) (hn h) 13 (hn h) = 13
  unfold va_up
  rw [if_pos rfl]
theorem hNT {a b : Nat} {row : List Int32} : hN (hT a b h row) (hn h) = 25 := by
  show va_up (hN h) (hn h) 25 (hn h) = 25
  unfold va_up
  rw [if_pos rfl]
theorem hRT {a b : Nat} {row : List Int32} : hR (hT a b h row) a 1 = hn h + 1 := by
  unfold hT
  rw [hRR, if_neg (by omega), hRR, if_pos ⟨rfl, rfl⟩]
theorem hIT {a b j : Nat} {row : List Int32} : hI (hT a b h row) (hn h) j = row.getD j 0 := by
  show (if hn h = hn h then row.getD j 0 else _) = _
  rw [if_pos rfl]
theorem sIT {a b j : Nat} {x : Int32} {row : List Int32} (hj : j < row.length) : sI (hT a b h row) (hn h) j x = hT a b h (row.set j x) := by
  have e : up2 (fun (c d : Nat) => if c = hn h then row.getD d 0 else hI (alloc h 13 25) c d) (hn h) j x = fun c d => if c = hn h then (row.set j x).getD d 0 else hI (alloc h 13 25) c d := by
    funext c d
    unfold up2
    by_cases e1 : c = hn h
    · subst e1
      by_cases e2 : d = j
      · subst e2
        simp [List.getD, hj]
      · have e3 : ¬ j = d := fun q => e2 q.symm
        simp [List.getD, e2, List.getElem?_set, e3]
    · simp [e1]
  show (_, _, _, up2 (fun (c d : Nat) => if c = hn h then row.getD d 0 else hI (alloc h 13 25) c d) (hn h) j x, _, _) = _
  rw [e]
  rfl
theorem hT0 {a b : Nat} : sR (sR (alloc h 13 25) a 1 (hn h + 1)) a 0 (b + 1) = hT a b h (List.replicate 25 0) := by
  have e : hI (alloc h 13 25) = fun c d => if c = hn h then (List.replicate 25 (0 : Int32)).getD d 0 else hI (alloc h 13 25) c d := by
    funext c d
    by_cases e1 : c = hn h
    · rw [if_pos e1]
      show (if c = hn h then (0 : Int32) else _) = _
      rw [if_pos e1]
      by_cases e2 : d < 25
      · rw [List.getD_eq_getElem?_getD, List.getElem?_replicate, if_pos e2]
        rfl
      · simp [List.getD, List.getElem?_replicate, e2]
    · rw [if_neg e1]
  show (_, _, _, hI (alloc h 13 25), _, _) = _
  rw [e]
  rfl
theorem x_objT {sc : Nat × (Nat → Int32)} {pp : Nat → Nat → Int32 → Int32 → Hp → Option (Hp × Int32)} {rec : Rec} {mi pc n cu su ix p0 p1 p2 p3 a : Nat} {r : List MI} {lv : Lv} : exS sc pp rec mi pc ((.invokespecial ix, n, [999, p0, p1, p2, p3]) :: r) lv [.ref a] cu su h = exS sc pp rec mi (pc + n) r lv [] cu su h := (rfl)
theorem x_newT {sc : Nat × (Nat → Int32)} {pp : Nat → Nat → Int32 → Int32 → Hp → Option (Hp × Int32)} {rec : Rec} {mi pc n cu su c2 s2 : Nat} {x : Int32} {r : List MI} {lv : Lv} {st : List Value} : exS sc pp rec mi pc ((.newarray .int, n, [c2, s2]) :: r) lv (.int x :: st) cu su h = if ¬ x < 0 ∧ x.toNatClampNeg ≤ 100000 ∧ cu + 1 ≤ c2 ∧ su + x.toNatClampNeg ≤ s2 ∧ hn h < 240 then exS sc pp rec mi (pc + n) r lv (.ref (hn h) :: st) (cu + 1) (su + x.toNatClampNeg) (alloc h 13 x.toNatClampNeg) else none := (rfl)
def lvT (a b i : Nat) (x : Int32 × Int32 × List Int32) : Lv := [some (.ref a), some (.ref b), some (.int x.1), some (.int x.2.1), some (.int (nI i))]
theorem nI_s1 (i : Nat) : nI i + Int32.ofInt 1 = nI (i + 1) := (Int32.ofNat_add i 1).symm
theorem tk_24 {a b i : Nat} {x : Int32 × Int32 × List Int32} (hk : RWZ l D cy base ext sc 7 31 (lvT a b i x) [.int (nI 124), .int (nI i)] cu su h res) : RWZ l D cy base ext sc 7 24 (lvT a b i x) [] cu su h res := by
  refine tk_seg segT1 (by decide +kernel) (by decide +kernel) (by decide +kernel) (fun rec hr => ?_)
  rw [segT1, lvT, x_iload4, x_nil]
  exact hr _ _ _ _ _ _ (by decide) (tk_len (Nat.le_of_ble_eq_true rfl) hk)
theorem tk_96 {a b i : Nat} {x : Int32 × Int32 × List Int32} : RWZ l D cy base ext sc 7 96 (lvT a b i x) [] cu su h (h, none) := by
  refine tk_seg segT7 (by decide +kernel) (by decide +kernel) (by decide +kernel) (fun rec hr => ?_)
  rw [segT7, x_return]
theorem tk_31e {a b i : Nat} {x : Int32 × Int32 × List Int32} (hi : i = 124) : RWZ l D cy base ext sc 7 31 (lvT a b i x) [.int (nI 124), .int (nI i)] cu su h (h, none) := by
  refine tk_seg segT2 (by decide +kernel) (by decide +kernel) (by decide +kernel) (fun rec hr => ?_)
  subst hi
  rw [segT2, x_icmp_ge, if_pos (by decide)]
  exact hr _ _ _ _ _ _ (by decide) tk_96
theorem tk_31 {a b i : Nat} {x : Int32 × Int32 × List Int32} (hi : i < 124) (hx : ¬ (25 : Int32) ≤ x.1) (hk : RWZ l D cy base ext sc 7 40 (lvT a b i x) [] cu su h res) : RWZ l D cy base ext sc 7 31 (lvT a b i x) [.int (nI 124), .int (nI i)] cu su h res := by
  refine tk_seg segT2 (by decide +kernel) (by decide +kernel) (by decide +kernel) (fun rec hr => ?_)
  rw [segT2, x_icmp_ge, if_neg (by have : ∀ i, i < 124 → ¬ nI 124 ≤ nI i := by decide +kernel
                                   exact this i hi), lvT, x_iload_n2, x_bipush_25, x_icmp_ge, if_neg hx, x_nil]
  exact hr _ _ _ _ _ _ (by decide) hk
theorem tk_85 {a b i : Nat} {x : Int32 × Int32 × List Int32} (hk : RWZ l D cy base ext sc 7 24 (lvT a b (i + 1) (x.1 + 1, 0, x.2.2)) [] cu su h res) : RWZ l D cy base ext sc 7 85 (lvT a b i x) [] cu su h res := by
  refine tk_seg segT5 (by decide +kernel) (by decide +kernel) (by decide +kernel) (fun rec hr => ?_)
  rw [segT5, lvT, x_iinc2, x_iconst_0, x_istore_n3, x_iinc4, x_goto, nI_s1]
  exact hr _ _ _ _ _ _ (by decide) hk
theorem tk_90 {a b i : Nat} {x : Int32 × Int32 × List Int32} (hk : RWZ l D cy base ext sc 7 24 (lvT a b (i + 1) x) [] cu su h res) : RWZ l D cy base ext sc 7 90 (lvT a b i x) [] cu su h res := by
  refine tk_seg segT6 (by decide +kernel) (by decide +kernel) (by decide +kernel) (fun rec hr => ?_)
  rw [segT6, lvT, x_iinc4, x_goto, nI_s1]
  exact hr _ _ _ _ _ _ (by decide) hk
theorem tk_step {a b i : Nat} (ha : kd h a = 10) {x : Int32 × Int32 × List Int32} (hi : i < 124) (hx : ¬ x.1 < 0 ∧ x.1.toNatClampNeg < 25 ∧ ¬ (25 : Int32) ≤ x.1 ∧ x.2.2.length = 25) (hk : RWZ l D cy base ext sc 7 24 (lvT a b (i + 1) (tkF i x)) [] cu su (hT a b h (tkF i x).2.2) res) : RWZ l D cy base ext sc 7 24 (lvT a b i x) [] cu su (hT a b h x.2.2) res := by
  obtain ⟨x1, x2, x3, x4⟩ := hx
  refine tk_24 (tk_31 hi x3 (tk_chr hi (Or.inl rfl) rfl (Nat.le_of_ble_eq_true rfl) ?_))
  refine tk_seg segT3 (by decide +kernel) (by decide +kernel) (by decide +kernel) (fun rec hr => ?_)
  rw [segT3, x_bipush_32, x_icmp_eq]
  by_cases e : wdB.getD i 0 = 32
  · rw [if_pos e]
    refine hr _ _ _ _ _ _ (by decide) (tk_85 ?_)
    unfold tkF at hk
    rw [if_pos e] at hk
    exact hk
  · unfold tkF at hk
    rw [if_neg e] at hk
    rw [if_neg e, lvT, x_aload_n0, x_getR, if_pos (by rw [kdT]; exact kd_al ha (by decide)), hRT]
    show exS sc pp0 rec 7 _ _ _ (.ref (hn h) :: _) _ _ _ = _
    rw [x_iload_n2, x_dup2, x_iald (by decide), if_pos ⟨by rw [kdT]; exact kd_new, fun q => q.elim x1 (fun q => by rw [hNT] at q; omega)⟩, x_nil, hIT]
    refine hr _ _ _ _ _ _ (by decide) (tk_chr hi (Or.inr rfl) rfl (Nat.le_of_ble_eq_true rfl) ?_)
    refine tk_seg segT4 (by decide +kernel) (by decide +kernel) (by decide +kernel) (fun rec hr => ?_)
    rw [segT4, x_bipush_97, x_isub, x_iconst_1, x_iadd, x_iconst_5, x_iconst_5, x_iload_n3, x_isub, x_imul, x_ishl, x_ior, x_iast, if_pos ⟨by rw [kdT]; exact kd_new, fun q => q.elim x1 (fun q => by rw [hNT] at q; omega)⟩, x_iinc3, x_goto, sIT (by omega)]
    exact hr _ _ _ _ _ _ (by decide) (tk_90 hk)
theorem tk_loop {a b : Nat} (ha : kd h a = 10) : ∀ k i, i + k = 124 → RWZ l D cy base ext sc 7 24 (lvT a b i (tkA i)) [] cu su (hT a b h (tkA i).2.2) (hT a b h tokW, none) := by
  intro k
  induction k with
  | zero =>
    intro i hi
    have e : i = 124 := by omega
    subst e
    rw [tkA_end]
    exact tk_24 (tk_31e rfl)
  | succ k ih =>
    intro i hi
    exact tk_step ha (by omega) (tkA_in i (by omega)) (ih (i + 1) (by omega))
theorem tk_0 {a b : Nat} (ha : kd h a = 10) (hb : kd h b = 13) (hn' : hn h < 240) : RWZ l D cy base ext sc 7 0 [some (.ref a), some (.ref b), none, none, none] [] 0 0 h (hT a b h tokW, none) := by
  refine tk_seg segT0 (by decide +kernel) (by decide +kernel) (by decide +kernel) (fun rec hr => ?_)
  have hb' : b < hn h := kd_ltT hb (by decide)
  rw [segT0, x_aload_n0, x_objT, x_aload_n0, x_bipush_25, x_newT, if_pos ⟨by decide, by decide, by decide, by decide, hn'⟩]
  rw [show (25 : Int32).toNatClampNeg = 25 by decide, x_putR, if_pos ⟨kd_al ha (by decide), by omega⟩, x_aload_n0, x_aload_n1, x_putR, if_pos ⟨kd_al ha (by decide), by omega⟩, x_iconst_0, x_istore_n2, x_iconst_0, x_istore_n3, x_iconst_0, x_istore4, x_nil, hT0]
  exact hr _ _ _ _ _ _ (by decide) (tk_loop ha 124 0 rfl)
theorem tk_entry {as : List Value} {n a b : Nat} (hlen : (lvE as n).length = n) (h5 : n = 5) (h0 : lget (lvE as n) 0 = some (.ref a)) (h1 : lget (lvE as n) 1 = some (.ref b)) : LvOK base ext ((lg_sl (as.map (tr base ext)) ++ List.replicate (n - (lg_sl (as.map (tr base ext))).length) Slot.unset).toArray) n [some (.ref a), some (.ref b), none, none, none] [] := by
  have hfl : (as.flatMap fun v => if v.category = 2 then [some v, none] else [some v]).length ≤ n := by
    unfold lvE at hlen
    rw [List.length_append, List.length_replicate] at hlen
    omega
  have hE := lv_entry (as.map (tr base ext)) (n := n) (by rw [lg_flat, List.length_map]; exact hfl)
  have key : ∀ (i : Nat) (v : Value), lget (lvE as n) i = some v → ((lg_sl (as.map (tr base ext)) ++ List.replicate (n - (lg_sl (as.map (tr base ext))).length) Slot.unset).toArray)[i]? = some (.val (tr base ext v)) := by
    intro i v hi
    have hi := lget_some hi
    have hin : (as.flatMap fun v => if v.category = 2 then [some v, none] else [some v])[i]? = some (some v) := by
      unfold lvE at hi
      by_cases hl : i < (as.flatMap fun v => if v.category = 2 then [some v, none] else [some v]).length
      · rwa [List.getElem?_append_left hl] at hi
      · rw [List.getElem?_append_right (by omega)] at hi
        have := List.eq_of_mem_replicate (List.mem_of_getElem? hi)
        cases this
    rw [List.getElem?_toArray, List.getElem?_append_left (by rw [lg_flat, List.length_map]; exact (List.getElem?_eq_some_iff.mp hin).1), lg_flat, List.getElem?_map, hin]
    rfl
  refine ⟨h5.symm, hE.1, hE.2.1, fun i v hi => ?_⟩
  match i, hi with
  | 0, hi => cases hi; exact ⟨key 0 _ h0, fun q => by cases q⟩
  | 1, hi => cases hi; exact ⟨key 1 _ h1, fun q => by cases q⟩
  | 2, hi => cases hi
  | 3, hi => cases hi
  | 4, hi => cases hi
  | i + 5, hi => cases hi
theorem tok_ct : ∀ (as : List Value) (h : Hp) (rs : Hp × Option Value), (lvE as (mL 7)).length = mL 7 → primT (lvE as (mL 7)) h = some rs → CtZ l D cy base ext 7 as h rs := by
  intro as h rs hlen hq
  obtain ⟨a, b, h0, h1, ha, hb, hn', rfl⟩ : ∃ a b, lget (lvE as (mL 7)) 0 = some (.ref a) ∧ lget (lvE as (mL 7)) 1 = some (.ref b) ∧ kd h a = 10 ∧ kd h b = 13 ∧ hn h < 240 ∧ rs = (hT a b h tokW, none) := by
    unfold primT at hq
    split at hq
    · rename_i a b e0 e1
      by_cases e : kd h a = 10 ∧ kd h b = 13 ∧ hn h < 240
      · rw [if_pos e] at hq
        cases hq
        exact ⟨a, b, e0, e1, e.1, e.2.1, e.2.2, rfl⟩
      · rw [if_neg e] at hq
        cases hq
    · cases hq
  have hrun := tk_0 (l := l) (D := D) (cy := cy) (base := base) (ext := ext) (sc := (0, fun _ => 0)) ha hb hn'
  obtain ⟨f1, f2, f3, f4, f5, f6, f7, f8, f9, f10, f11⟩ := m_facts (cm := 7) rfl (by decide +kernel)
  unfold CtZ
  refine Met.ofW (cc := mC 7) (maxL := mL 7) (ret := mR 7) f11 rfl ?_
  intro p e s m args below meth c s₁ B hml hv
  obtain ⟨rfl, hWp, hKS, hbs⟩ := hv
  have hts := atoms_spec (ws := wsm 7) B.pre
  have hlocks := B.notSynchronized
  have C0 : CxZ D cy base ext (0, fun _ => 0) p s m (as.map (tr base ext)).toArray meth c 7 := ⟨B.exec, B.bytes, hml, by rw [← f7]; exact findClass_of_methodNamed B.named, fun w hw => hts w (List.mem_cons_of_mem _ hw), fun h2 => by rw [(name_of_methodNamed B.named B.method).1]; exact f6 h2, hKS, hbs, fun h9 => absurd h9 (by decide)⟩
  rw [lg_entry_eq]
  refine hrun p e s m _ below meth c _ C0 ?_ s.heap [] _ hWp va_S.rf (tk_entry hlen (by decide +kernel) h0 h1) (Nat.zero_le _) (Nat.zero_le _)
  intro pc ls H locs cu su hW hS h1 h2 hret
  refine W.widen (k := mP 7 7) (n := mP 7 8) h1 h2 ?_
  rcases hret with ⟨x, hv, hd, hr⟩ | ⟨x, hv, hd, hr⟩ | ⟨x, hv, hd, hr⟩ | ⟨hv, hd, hr⟩
  · cases hv
  · cases hv
  · cases hv
  · exact W.vret C0.1 C0.2.1 (B.returns.trans hr) (fun t ht hWm => ⟨rfl, by rw [ht]; exact hW, hS.F ht⟩) hS.2.2 hd
end Tok
