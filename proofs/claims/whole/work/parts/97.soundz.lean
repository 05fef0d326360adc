-- the soundness, with one fact more of the law's own start
def CxZ (D : va_G) (cy : Nat → ClassId) (base : Nat) (ext : Nat → Nat) (sc : Nat × (Nat → Int32)) (p : Program) (s : State) (m : MethodId) (args : Array Value) (meth : Method) (c : Code) (mi : Nat) : Prop :=
  p.tables.exec = Jvm.exec ∧ c.code = mC mi ∧ c.maxLocals = mL mi ∧ s.vm.findClass (ownS (mO mi)) = some m.cls ∧ (∀ w ∈ TW, w.before args s = true) ∧ (mF mi = 2 → meth.name = "<init>") ∧ KSZ base D cy s ∧ base ≤ s.heap.size ∧ (mi = 277 → va_X (ext 0) sc.1 sc.2 s s.heap ∧ ext 0 < s.heap.size ∧ ext 0 < base ∧ (∀ w ∈ lw_tbl, w.before args s = true) ∧ (Jvm.Cond.and given_1 narrow_1).before args s = true)
def RWZ (l : Launch) (D : va_G) (cy : Nat → ClassId) (base : Nat) (ext : Nat → Nat) (sc : Nat × (Nat → Int32)) (mi pc : Nat) (lv : Lv) (st : List Value) (cu su : Nat) (h : Hp) (res : Hp × Option Value) : Prop :=
  ∀ (p : Program) (e : Env) (s : State) (m : MethodId) (args : Array Value) (below : List Frame) (meth : Method) (c : Code) (Q : State → Prop), CxZ D cy base ext sc p s m args meth c mi →
    (∀ (pc : Nat) (ls : Array Slot) (H : Heap) (locs : List Loc) (cu su : Nat), WHp D cy base ext res.1 H → va_S (fun q => base ≤ q) s.heap H locs → cu ≤ mP mi 7 → su ≤ mP mi 8 → retAt mi pc res.2 → W p l e (mRoom mi) s m args below meth c H locs cu su Q (F0 m pc ls (res.2.toList.map (tr base ext)))) →
    ∀ (H : Heap) (locs : List Loc) (ls : Array Slot), WHp D cy base ext h H → va_S (fun q => base ≤ q) s.heap H locs → LvOK base ext ls (mL mi) lv (LSm mi) → cu ≤ mP mi 7 → su ≤ mP mi 8 → W p l e (mRoom mi) s m args below meth c H locs cu su Q (F0 m pc ls (st.map (tr base ext)))
def KOKZ (l : Launch) (D : va_G) (cy : Nat → ClassId) (base : Nat) (ext : Nat → Nat) (sc : Nat × (Nat → Int32)) (k : Knt) (mi pc : Nat) : Prop := ∀ (lv : Lv) (st : List Value) (cu su : Nat) (h : Hp) (res : Hp × Option Value), k lv st cu su h = some res → RWZ l D cy base ext sc mi pc lv st cu su h res
def ROKZ (l : Launch) (D : va_G) (cy : Nat → ClassId) (base : Nat) (ext : Nat → Nat) (sc : Nat × (Nat → Int32)) (rec : Rec) (mi : Nat) : Prop := ∀ (t : Nat) (lv : Lv) (st : List Value) (cu su : Nat) (h : Hp) (res : Hp × Option Value), rec mi t lv st cu su h = some res → RWZ l D cy base ext sc mi t lv st cu su h res
section SndAZ
variable {l : Launch} {D : va_G} {cy : Nat → ClassId} {base : Nat} {ext : Nat → Nat} {sc : Nat × (Nat → Int32)} {rec : Rec} {k : Knt} {mi pc : Nat} {lv : Lv} {st : List Value} {cu su : Nat} {h : Hp} {res : Hp × Option Value}
theorem so_iaddZ (hd : decode (mC mi) pc = .ok (.iadd, 1)) (hk : KOKZ l D cy base ext sc k mi (pc + 1)) (hq : (pI st fun y st => pI st fun x st => k lv (.int (x + y) :: st) cu su h) = some res) : RWZ l D cy base ext sc mi pc lv st cu su h res := by
  obtain ⟨y, st1, rfl, hq1⟩ := pI_some hq
  obtain ⟨x, st2, rfl, hq2⟩ := pI_some hq1
  intro p e s m args below meth c Q C hend H locs ls hW hS hL h1 h2
  exact lv_iadd C.1 C.2.1 hd (hk _ _ _ _ _ _ hq2 p e s m args below meth c Q C hend H locs ls hW hS hL h1 h2)
theorem so_isubZ (hd : decode (mC mi) pc = .ok (.isub, 1)) (hk : KOKZ l D cy base ext sc k mi (pc + 1)) (hq : (pI st fun y st => pI st fun x st => k lv (.int (x - y) :: st) cu su h) = some res) : RWZ l D cy base ext sc mi pc lv st cu su h res := by
  obtain ⟨y, st1, rfl, hq1⟩ := pI_some hq
  obtain ⟨x, st2, rfl, hq2⟩ := pI_some hq1
  intro p e s m args below meth c Q C hend H locs ls hW hS hL h1 h2
  exact lv_isub C.1 C.2.1 hd (hk _ _ _ _ _ _ hq2 p e s m args below meth c Q C hend H locs ls hW hS hL h1 h2)
theorem so_imulZ (hd : decode (mC mi) pc = .ok (.imul, 1)) (hk : KOKZ l D cy base ext sc k mi (pc + 1)) (hq : (pI st fun y st => pI st fun x st => k lv (.int (x * y) :: st) cu su h) = some res) : RWZ l D cy base ext sc mi pc lv st cu su h res := by
  obtain ⟨y, st1, rfl, hq1⟩ := pI_some hq
  obtain ⟨x, st2, rfl, hq2⟩ := pI_some hq1
  intro p e s m args below meth c Q C hend H locs ls hW hS hL h1 h2
  exact lv_imul C.1 C.2.1 hd (hk _ _ _ _ _ _ hq2 p e s m args below meth c Q C hend H locs ls hW hS hL h1 h2)
theorem so_iandZ (hd : decode (mC mi) pc = .ok (.iand, 1)) (hk : KOKZ l D cy base ext sc k mi (pc + 1)) (hq : (pI st fun y st => pI st fun x st => k lv (.int (x &&& y) :: st) cu su h) = some res) : RWZ l D cy base ext sc mi pc lv st cu su h res := by
  obtain ⟨y, st1, rfl, hq1⟩ := pI_some hq
  obtain ⟨x, st2, rfl, hq2⟩ := pI_some hq1
  intro p e s m args below meth c Q C hend H locs ls hW hS hL h1 h2
  exact lv_iand C.1 C.2.1 hd (hk _ _ _ _ _ _ hq2 p e s m args below meth c Q C hend H locs ls hW hS hL h1 h2)
theorem so_iorZ (hd : decode (mC mi) pc = .ok (.ior, 1)) (hk : KOKZ l D cy base ext sc k mi (pc + 1)) (hq : (pI st fun y st => pI st fun x st => k lv (.int (x ||| y) :: st) cu su h) = some res) : RWZ l D cy base ext sc mi pc lv st cu su h res := by
  obtain ⟨y, st1, rfl, hq1⟩ := pI_some hq
  obtain ⟨x, st2, rfl, hq2⟩ := pI_some hq1
  intro p e s m args below meth c Q C hend H locs ls hW hS hL h1 h2
  exact lv_ior C.1 C.2.1 hd (hk _ _ _ _ _ _ hq2 p e s m args below meth c Q C hend H locs ls hW hS hL h1 h2)
theorem so_ixorZ (hd : decode (mC mi) pc = .ok (.ixor, 1)) (hk : KOKZ l D cy base ext sc k mi (pc + 1)) (hq : (pI st fun y st => pI st fun x st => k lv (.int (x ^^^ y) :: st) cu su h) = some res) : RWZ l D cy base ext sc mi pc lv st cu su h res := by
  obtain ⟨y, st1, rfl, hq1⟩ := pI_some hq
  obtain ⟨x, st2, rfl, hq2⟩ := pI_some hq1
  intro p e s m args below meth c Q C hend H locs ls hW hS hL h1 h2
  exact lv_ixor C.1 C.2.1 hd (hk _ _ _ _ _ _ hq2 p e s m args below meth c Q C hend H locs ls hW hS hL h1 h2)
theorem so_ishlZ (hd : decode (mC mi) pc = .ok (.ishl, 1)) (hk : KOKZ l D cy base ext sc k mi (pc + 1)) (hq : (pI st fun y st => pI st fun x st => k lv (.int (x <<< (y &&& 31)) :: st) cu su h) = some res) : RWZ l D cy base ext sc mi pc lv st cu su h res := by
  obtain ⟨y, st1, rfl, hq1⟩ := pI_some hq
  obtain ⟨x, st2, rfl, hq2⟩ := pI_some hq1
  intro p e s m args below meth c Q C hend H locs ls hW hS hL h1 h2
  exact lv_ishl C.1 C.2.1 hd (hk _ _ _ _ _ _ hq2 p e s m args below meth c Q C hend H locs ls hW hS hL h1 h2)
theorem so_ishrZ (hd : decode (mC mi) pc = .ok (.ishr, 1)) (hk : KOKZ l D cy base ext sc k mi (pc + 1)) (hq : (pI st fun y st => pI st fun x st => k lv (.int (x >>> (y &&& 31)) :: st) cu su h) = some res) : RWZ l D cy base ext sc mi pc lv st cu su h res := by
  obtain ⟨y, st1, rfl, hq1⟩ := pI_some hq
  obtain ⟨x, st2, rfl, hq2⟩ := pI_some hq1
  intro p e s m args below meth c Q C hend H locs ls hW hS hL h1 h2
  exact lv_ishr C.1 C.2.1 hd (hk _ _ _ _ _ _ hq2 p e s m args below meth c Q C hend H locs ls hW hS hL h1 h2)
theorem so_iushrZ (hd : decode (mC mi) pc = .ok (.iushr, 1)) (hk : KOKZ l D cy base ext sc k mi (pc + 1)) (hq : (pI st fun y st => pI st fun x st => k lv (.int ((x.toUInt32 >>> (y.toUInt32 &&& Int32.toUInt32 31)).toInt32) :: st) cu su h) = some res) : RWZ l D cy base ext sc mi pc lv st cu su h res := by
  obtain ⟨y, st1, rfl, hq1⟩ := pI_some hq
  obtain ⟨x, st2, rfl, hq2⟩ := pI_some hq1
  intro p e s m args below meth c Q C hend H locs ls hW hS hL h1 h2
  exact lv_iushr C.1 C.2.1 hd rfl (hk _ _ _ _ _ _ hq2 p e s m args below meth c Q C hend H locs ls hW hS hL h1 h2)
theorem so_idivZ (hd : decode (mC mi) pc = .ok (.idiv, 1)) (hk : KOKZ l D cy base ext sc k mi (pc + 1)) (hq : (pI st fun y st => pI st fun x st => if y = 0 then none else k lv (.int (x / y) :: st) cu su h) = some res) : RWZ l D cy base ext sc mi pc lv st cu su h res := by
  obtain ⟨y, st1, rfl, hq1⟩ := pI_some hq
  obtain ⟨x, st2, rfl, hq2⟩ := pI_some hq1
  obtain ⟨hz, hq3⟩ := nif_some hq2
  intro p e s m args below meth c Q C hend H locs ls hW hS hL h1 h2
  exact lv_idiv C.1 C.2.1 hd hz (hk _ _ _ _ _ _ hq3 p e s m args below meth c Q C hend H locs ls hW hS hL h1 h2)
theorem so_iremZ (hd : decode (mC mi) pc = .ok (.irem, 1)) (hk : KOKZ l D cy base ext sc k mi (pc + 1)) (hq : (pI st fun y st => pI st fun x st => if y = 0 then none else k lv (.int (x - x / y * y) :: st) cu su h) = some res) : RWZ l D cy base ext sc mi pc lv st cu su h res := by
  obtain ⟨y, st1, rfl, hq1⟩ := pI_some hq
  obtain ⟨x, st2, rfl, hq2⟩ := pI_some hq1
  obtain ⟨hz, hq3⟩ := nif_some hq2
  intro p e s m args below meth c Q C hend H locs ls hW hS hL h1 h2
  exact lv_irem C.1 C.2.1 hd hz (hk _ _ _ _ _ _ hq3 p e s m args below meth c Q C hend H locs ls hW hS hL h1 h2)
theorem so_laddZ (hd : decode (mC mi) pc = .ok (.ladd, 1)) (hk : KOKZ l D cy base ext sc k mi (pc + 1)) (hq : (pJ st fun y st => pJ st fun x st => k lv (.long (x + y) :: st) cu su h) = some res) : RWZ l D cy base ext sc mi pc lv st cu su h res := by
  obtain ⟨y, st1, rfl, hq1⟩ := pJ_some hq
  obtain ⟨x, st2, rfl, hq2⟩ := pJ_some hq1
  intro p e s m args below meth c Q C hend H locs ls hW hS hL h1 h2
  exact lv_ladd C.1 C.2.1 hd (hk _ _ _ _ _ _ hq2 p e s m args below meth c Q C hend H locs ls hW hS hL h1 h2)
theorem so_lsubZ (hd : decode (mC mi) pc = .ok (.lsub, 1)) (hk : KOKZ l D cy base ext sc k mi (pc + 1)) (hq : (pJ st fun y st => pJ st fun x st => k lv (.long (x - y) :: st) cu su h) = some res) : RWZ l D cy base ext sc mi pc lv st cu su h res := by
  obtain ⟨y, st1, rfl, hq1⟩ := pJ_some hq
  obtain ⟨x, st2, rfl, hq2⟩ := pJ_some hq1
  intro p e s m args below meth c Q C hend H locs ls hW hS hL h1 h2
  exact lv_lsub C.1 C.2.1 hd (hk _ _ _ _ _ _ hq2 p e s m args below meth c Q C hend H locs ls hW hS hL h1 h2)
theorem so_lmulZ (hd : decode (mC mi) pc = .ok (.lmul, 1)) (hk : KOKZ l D cy base ext sc k mi (pc + 1)) (hq : (pJ st fun y st => pJ st fun x st => k lv (.long (x * y) :: st) cu su h) = some res) : RWZ l D cy base ext sc mi pc lv st cu su h res := by
  obtain ⟨y, st1, rfl, hq1⟩ := pJ_some hq
  obtain ⟨x, st2, rfl, hq2⟩ := pJ_some hq1
  intro p e s m args below meth c Q C hend H locs ls hW hS hL h1 h2
  exact lv_lmul C.1 C.2.1 hd (hk _ _ _ _ _ _ hq2 p e s m args below meth c Q C hend H locs ls hW hS hL h1 h2)
theorem so_landZ (hd : decode (mC mi) pc = .ok (.land, 1)) (hk : KOKZ l D cy base ext sc k mi (pc + 1)) (hq : (pJ st fun y st => pJ st fun x st => k lv (.long (x &&& y) :: st) cu su h) = some res) : RWZ l D cy base ext sc mi pc lv st cu su h res := by
  obtain ⟨y, st1, rfl, hq1⟩ := pJ_some hq
  obtain ⟨x, st2, rfl, hq2⟩ := pJ_some hq1
  intro p e s m args below meth c Q C hend H locs ls hW hS hL h1 h2
  exact lv_land C.1 C.2.1 hd (hk _ _ _ _ _ _ hq2 p e s m args below meth c Q C hend H locs ls hW hS hL h1 h2)
theorem so_ldivZ (hd : decode (mC mi) pc = .ok (.ldiv, 1)) (hk : KOKZ l D cy base ext sc k mi (pc + 1)) (hq : (pJ st fun y st => pJ st fun x st => if y = 0 then none else k lv (.long (x / y) :: st) cu su h) = some res) : RWZ l D cy base ext sc mi pc lv st cu su h res := by
  obtain ⟨y, st1, rfl, hq1⟩ := pJ_some hq
  obtain ⟨x, st2, rfl, hq2⟩ := pJ_some hq1
  obtain ⟨hz, hq3⟩ := nif_some hq2
  intro p e s m args below meth c Q C hend H locs ls hW hS hL h1 h2
  exact lv_ldiv C.1 C.2.1 hd hz (hk _ _ _ _ _ _ hq3 p e s m args below meth c Q C hend H locs ls hW hS hL h1 h2)
theorem so_lremZ (hd : decode (mC mi) pc = .ok (.lrem, 1)) (hk : KOKZ l D cy base ext sc k mi (pc + 1)) (hq : (pJ st fun y st => pJ st fun x st => if y = 0 then none else k lv (.long (x - x / y * y) :: st) cu su h) = some res) : RWZ l D cy base ext sc mi pc lv st cu su h res := by
  obtain ⟨y, st1, rfl, hq1⟩ := pJ_some hq
  obtain ⟨x, st2, rfl, hq2⟩ := pJ_some hq1
  obtain ⟨hz, hq3⟩ := nif_some hq2
  intro p e s m args below meth c Q C hend H locs ls hW hS hL h1 h2
  exact lv_lrem C.1 C.2.1 hd hz (hk _ _ _ _ _ _ hq3 p e s m args below meth c Q C hend H locs ls hW hS hL h1 h2)
theorem so_lnegZ (hd : decode (mC mi) pc = .ok (.lneg, 1)) (hk : KOKZ l D cy base ext sc k mi (pc + 1)) (hq : (pJ st fun x st => k lv (.long (-x) :: st) cu su h) = some res) : RWZ l D cy base ext sc mi pc lv st cu su h res := by
  obtain ⟨x, st1, rfl, hq1⟩ := pJ_some hq
  intro p e s m args below meth c Q C hend H locs ls hW hS hL h1 h2
  exact lv_lneg C.1 C.2.1 hd (hk _ _ _ _ _ _ hq1 p e s m args below meth c Q C hend H locs ls hW hS hL h1 h2)
theorem so_lcmpZ (hd : decode (mC mi) pc = .ok (.lcmp, 1)) (hk : KOKZ l D cy base ext sc k mi (pc + 1)) (hq : (pJ st fun y st => pJ st fun x st => k lv (.int (lg_cmp x y) :: st) cu su h) = some res) : RWZ l D cy base ext sc mi pc lv st cu su h res := by
  obtain ⟨y, st1, rfl, hq1⟩ := pJ_some hq
  obtain ⟨x, st2, rfl, hq2⟩ := pJ_some hq1
  intro p e s m args below meth c Q C hend H locs ls hW hS hL h1 h2
  exact W.lcmp C.1 C.2.1 hd (hk _ _ _ _ _ _ hq2 p e s m args below meth c Q C hend H locs ls hW hS hL h1 h2)
theorem so_i2lZ (hd : decode (mC mi) pc = .ok (.i2l, 1)) (hk : KOKZ l D cy base ext sc k mi (pc + 1)) (hq : (pI st fun x st => k lv (.long x.toInt64 :: st) cu su h) = some res) : RWZ l D cy base ext sc mi pc lv st cu su h res := by
  obtain ⟨x, st1, rfl, hq1⟩ := pI_some hq
  intro p e s m args below meth c Q C hend H locs ls hW hS hL h1 h2
  exact lv_i2l C.1 C.2.1 hd rfl (hk _ _ _ _ _ _ hq1 p e s m args below meth c Q C hend H locs ls hW hS hL h1 h2)
theorem so_l2iZ (hd : decode (mC mi) pc = .ok (.l2i, 1)) (hk : KOKZ l D cy base ext sc k mi (pc + 1)) (hq : (pJ st fun x st => k lv (.int x.toInt32 :: st) cu su h) = some res) : RWZ l D cy base ext sc mi pc lv st cu su h res := by
  obtain ⟨x, st1, rfl, hq1⟩ := pJ_some hq
  intro p e s m args below meth c Q C hend H locs ls hW hS hL h1 h2
  exact lv_l2i C.1 C.2.1 hd rfl (hk _ _ _ _ _ _ hq1 p e s m args below meth c Q C hend H locs ls hW hS hL h1 h2)
theorem so_i2cZ (hd : decode (mC mi) pc = .ok (.i2c, 1)) (hk : KOKZ l D cy base ext sc k mi (pc + 1)) (hq : (pI st fun x st => k lv (.int (x.toUInt32 % 65536).toInt32 :: st) cu su h) = some res) : RWZ l D cy base ext sc mi pc lv st cu su h res := by
  obtain ⟨x, st1, rfl, hq1⟩ := pI_some hq
  intro p e s m args below meth c Q C hend H locs ls hW hS hL h1 h2
  exact lv_i2c C.1 C.2.1 hd rfl (hk _ _ _ _ _ _ hq1 p e s m args below meth c Q C hend H locs ls hW hS hL h1 h2)
theorem so_iconstZ {n : Int} (hd : decode (mC mi) pc = .ok (.iconst n, 1)) (hk : KOKZ l D cy base ext sc k mi (pc + 1)) (hq : (k lv (.int (Int32.ofInt n) :: st) cu su h) = some res) : RWZ l D cy base ext sc mi pc lv st cu su h res := by
  intro p e s m args below meth c Q C hend H locs ls hW hS hL h1 h2
  exact lv_iconst C.1 C.2.1 hd rfl (hk _ _ _ _ _ _ hq p e s m args below meth c Q C hend H locs ls hW hS hL h1 h2)
theorem so_bipushZ {n : Int} (hd : decode (mC mi) pc = .ok (.bipush n, 2)) (hk : KOKZ l D cy base ext sc k mi (pc + 2)) (hq : (k lv (.int (Int8.ofInt n).toInt32 :: st) cu su h) = some res) : RWZ l D cy base ext sc mi pc lv st cu su h res := by
  intro p e s m args below meth c Q C hend H locs ls hW hS hL h1 h2
  exact lv_bipush C.1 C.2.1 hd rfl (hk _ _ _ _ _ _ hq p e s m args below meth c Q C hend H locs ls hW hS hL h1 h2)
theorem so_sipushZ {n : Int} (hd : decode (mC mi) pc = .ok (.sipush n, 3)) (hk : KOKZ l D cy base ext sc k mi (pc + 3)) (hq : (k lv (.int (Int16.ofInt n).toInt32 :: st) cu su h) = some res) : RWZ l D cy base ext sc mi pc lv st cu su h res := by
  intro p e s m args below meth c Q C hend H locs ls hW hS hL h1 h2
  exact lv_sipush C.1 C.2.1 hd rfl (hk _ _ _ _ _ _ hq p e s m args below meth c Q C hend H locs ls hW hS hL h1 h2)
theorem so_lconstZ {n : Fin 2} (hd : decode (mC mi) pc = .ok (.lconst n, 1)) (hk : KOKZ l D cy base ext sc k mi (pc + 1)) (hq : (k lv (.long (Int64.ofNat (n : Nat)) :: st) cu su h) = some res) : RWZ l D cy base ext sc mi pc lv st cu su h res := by
  intro p e s m args below meth c Q C hend H locs ls hW hS hL h1 h2
  exact lv_lconst C.1 C.2.1 hd rfl (hk _ _ _ _ _ _ hq p e s m args below meth c Q C hend H locs ls hW hS hL h1 h2)
theorem so_ldcZ {ix v pos : Nat} (hd : decode (mC mi) pc = .ok (.ldc ix, 2)) (hk : KOKZ l D cy base ext sc k mi (pc + 2)) (hc : lw_tbl[pos]? = some (.constant (ownS (mO mi)) ix (Int32.ofNat v))) (hq : (k lv (.int (Int32.ofNat v) :: st) cu su h) = some res) : RWZ l D cy base ext sc mi pc lv st cu su h res := by
  intro p e s m args below meth c Q C hend H locs ls hW hS hL h1 h2
  exact lv_ldc C.1 C.2.1 C.2.2.2.1 (C.2.2.2.2.1 _ (tw_at pos hc rfl)) hd (hk _ _ _ _ _ _ hq p e s m args below meth c Q C hend H locs ls hW hS hL h1 h2)
theorem so_ldc_wZ {ix v pos : Nat} (hd : decode (mC mi) pc = .ok (.ldc_w ix, 3)) (hk : KOKZ l D cy base ext sc k mi (pc + 3)) (hc : lw_tbl[pos]? = some (.constant (ownS (mO mi)) ix (Int32.ofNat v))) (hq : (k lv (.int (Int32.ofNat v) :: st) cu su h) = some res) : RWZ l D cy base ext sc mi pc lv st cu su h res := by
  intro p e s m args below meth c Q C hend H locs ls hW hS hL h1 h2
  exact lv_ldcw C.1 C.2.1 C.2.2.2.1 (C.2.2.2.2.1 _ (tw_at pos hc rfl)) hd (hk _ _ _ _ _ _ hq p e s m args below meth c Q C hend H locs ls hW hS hL h1 h2)
theorem so_ldc2Z {ix v pos : Nat} (hd : decode (mC mi) pc = .ok (.ldc2_w ix, 3)) (hk : KOKZ l D cy base ext sc k mi (pc + 3)) (hc : lw_tbl[pos]? = some (.constantLong (ownS (mO mi)) ix (Int64.ofNat v))) (hq : (k lv (.long (Int64.ofNat v) :: st) cu su h) = some res) : RWZ l D cy base ext sc mi pc lv st cu su h res := by
  intro p e s m args below meth c Q C hend H locs ls hW hS hL h1 h2
  exact lv_ldc2 C.1 C.2.1 C.2.2.2.1 (C.2.2.2.2.1 _ (tw_at pos hc rfl)) hd (hk _ _ _ _ _ _ hq p e s m args below meth c Q C hend H locs ls hW hS hL h1 h2)
theorem so_iloadZ {n : Nat} (hd : decode (mC mi) pc = .ok (.iload n, 2)) (hk : KOKZ l D cy base ext sc k mi (pc + 2)) (hq : (gI lv n fun a => k lv (.int a :: st) cu su h) = some res) : RWZ l D cy base ext sc mi pc lv st cu su h res := by
  obtain ⟨a, ha, hq1⟩ := gI_some hq
  intro p e s m args below meth c Q C hend H locs ls hW hS hL h1 h2
  exact lv_iload C.1 C.2.1 hd (hL.2.2.2 _ _ (lget_some ha)).1 (hk _ _ _ _ _ _ hq1 p e s m args below meth c Q C hend H locs ls hW hS hL h1 h2)
theorem so_iload_nZ {n : Fin 4} (hd : decode (mC mi) pc = .ok (.iload_n n, 1)) (hk : KOKZ l D cy base ext sc k mi (pc + 1)) (hq : (gI lv n fun a => k lv (.int a :: st) cu su h) = some res) : RWZ l D cy base ext sc mi pc lv st cu su h res := by
  obtain ⟨a, ha, hq1⟩ := gI_some hq
  intro p e s m args below meth c Q C hend H locs ls hW hS hL h1 h2
  exact lv_iload_n C.1 C.2.1 hd rfl (hL.2.2.2 _ _ (lget_some ha)).1 (hk _ _ _ _ _ _ hq1 p e s m args below meth c Q C hend H locs ls hW hS hL h1 h2)
theorem so_lloadZ {n : Nat} (hd : decode (mC mi) pc = .ok (.lload n, 2)) (hk : KOKZ l D cy base ext sc k mi (pc + 2)) (hq : (gJ lv n fun a => k lv (.long a :: st) cu su h) = some res) : RWZ l D cy base ext sc mi pc lv st cu su h res := by
  obtain ⟨a, ha, hq1⟩ := gJ_some hq
  intro p e s m args below meth c Q C hend H locs ls hW hS hL h1 h2
  exact lv_lload C.1 C.2.1 hd (hL.2.2.2 _ _ (lget_some ha)).1 (hk _ _ _ _ _ _ hq1 p e s m args below meth c Q C hend H locs ls hW hS hL h1 h2)
theorem so_lload_nZ {n : Fin 4} (hd : decode (mC mi) pc = .ok (.lload_n n, 1)) (hk : KOKZ l D cy base ext sc k mi (pc + 1)) (hq : (gJ lv n fun a => k lv (.long a :: st) cu su h) = some res) : RWZ l D cy base ext sc mi pc lv st cu su h res := by
  obtain ⟨a, ha, hq1⟩ := gJ_some hq
  intro p e s m args below meth c Q C hend H locs ls hW hS hL h1 h2
  exact lv_lload_n C.1 C.2.1 hd rfl (hL.2.2.2 _ _ (lget_some ha)).1 (hk _ _ _ _ _ _ hq1 p e s m args below meth c Q C hend H locs ls hW hS hL h1 h2)
theorem so_aloadZ {n : Nat} (hd : decode (mC mi) pc = .ok (.aload n, 2)) (hk : KOKZ l D cy base ext sc k mi (pc + 2)) (hq : (gA lv n fun a => k lv (.ref a :: st) cu su h) = some res) : RWZ l D cy base ext sc mi pc lv st cu su h res := by
  obtain ⟨a, ha, hq1⟩ := gA_some hq
  intro p e s m args below meth c Q C hend H locs ls hW hS hL h1 h2
  exact lv_aload C.1 C.2.1 hd (hL.2.2.2 _ _ (lget_some ha)).1 (hk _ _ _ _ _ _ hq1 p e s m args below meth c Q C hend H locs ls hW hS hL h1 h2)
theorem so_aload_nZ {n : Fin 4} (hd : decode (mC mi) pc = .ok (.aload_n n, 1)) (hk : KOKZ l D cy base ext sc k mi (pc + 1)) (hq : (gA lv n fun a => k lv (.ref a :: st) cu su h) = some res) : RWZ l D cy base ext sc mi pc lv st cu su h res := by
  obtain ⟨a, ha, hq1⟩ := gA_some hq
  intro p e s m args below meth c Q C hend H locs ls hW hS hL h1 h2
  exact lv_aload_n C.1 C.2.1 hd rfl (hL.2.2.2 _ _ (lget_some ha)).1 (hk _ _ _ _ _ _ hq1 p e s m args below meth c Q C hend H locs ls hW hS hL h1 h2)
theorem so_istoreZ {n : Nat} (hd : decode (mC mi) pc = .ok (.istore n, 2)) (hk : KOKZ l D cy base ext sc k mi (pc + 2)) (hi : n = 0 ∨ n - 1 ∉ LSm mi) (hq : (pI st fun x st => if n < lv.length then k (lset1 lv n (.int x)) st cu su h else none) = some res) : RWZ l D cy base ext sc mi pc lv st cu su h res := by
  obtain ⟨x, st1, rfl, hq1⟩ := pI_some hq
  obtain ⟨hn, hq2⟩ := if_some hq1
  intro p e s m args below meth c Q C hend H locs ls hW hS hL h1 h2
  exact lv_istore C.1 C.2.1 hd hL.has (by rw [← hL.1]; exact hn) rfl (fun ls' h' => hk _ _ _ _ _ _ hq2 p e s m args below meth c Q C hend H locs ls' hW hS (hL.store1 hi rfl h') h1 h2)
theorem so_istore_nZ {n : Fin 4} (hd : decode (mC mi) pc = .ok (.istore_n n, 1)) (hk : KOKZ l D cy base ext sc k mi (pc + 1)) (hi : (n : Nat) = 0 ∨ (n : Nat) - 1 ∉ LSm mi) (hq : (pI st fun x st => if (n : Nat) < lv.length then k (lset1 lv n (.int x)) st cu su h else none) = some res) : RWZ l D cy base ext sc mi pc lv st cu su h res := by
  obtain ⟨x, st1, rfl, hq1⟩ := pI_some hq
  obtain ⟨hn, hq2⟩ := if_some hq1
  intro p e s m args below meth c Q C hend H locs ls hW hS hL h1 h2
  exact lv_istore_n C.1 C.2.1 hd rfl hL.has (by rw [← hL.1]; exact hn) rfl (fun ls' h' => hk _ _ _ _ _ _ hq2 p e s m args below meth c Q C hend H locs ls' hW hS (hL.store1 hi rfl h') h1 h2)
theorem so_astoreZ {n : Nat} (hd : decode (mC mi) pc = .ok (.astore n, 2)) (hk : KOKZ l D cy base ext sc k mi (pc + 2)) (hi : n = 0 ∨ n - 1 ∉ LSm mi) (hq : (pA st fun x st => if n < lv.length then k (lset1 lv n (.ref x)) st cu su h else none) = some res) : RWZ l D cy base ext sc mi pc lv st cu su h res := by
  obtain ⟨x, st1, rfl, hq1⟩ := pA_some hq
  obtain ⟨hn, hq2⟩ := if_some hq1
  intro p e s m args below meth c Q C hend H locs ls hW hS hL h1 h2
  exact lv_astore C.1 C.2.1 hd hL.has (by rw [← hL.1]; exact hn) rfl (fun ls' h' => hk _ _ _ _ _ _ hq2 p e s m args below meth c Q C hend H locs ls' hW hS (hL.store1 hi rfl h') h1 h2)
theorem so_astore_nZ {n : Fin 4} (hd : decode (mC mi) pc = .ok (.astore_n n, 1)) (hk : KOKZ l D cy base ext sc k mi (pc + 1)) (hi : (n : Nat) = 0 ∨ (n : Nat) - 1 ∉ LSm mi) (hq : (pA st fun x st => if (n : Nat) < lv.length then k (lset1 lv n (.ref x)) st cu su h else none) = some res) : RWZ l D cy base ext sc mi pc lv st cu su h res := by
  obtain ⟨x, st1, rfl, hq1⟩ := pA_some hq
  obtain ⟨hn, hq2⟩ := if_some hq1
  intro p e s m args below meth c Q C hend H locs ls hW hS hL h1 h2
  exact lv_astore_n C.1 C.2.1 hd rfl hL.has (by rw [← hL.1]; exact hn) rfl (fun ls' h' => hk _ _ _ _ _ _ hq2 p e s m args below meth c Q C hend H locs ls' hW hS (hL.store1 hi rfl h') h1 h2)
theorem so_lstoreZ {n : Nat} (hd : decode (mC mi) pc = .ok (.lstore n, 2)) (hk : KOKZ l D cy base ext sc k mi (pc + 2)) (hi : n = 0 ∨ n - 1 ∉ LSm mi) (hi2 : n ∈ LSm mi) (hq : (pJ st fun x st => if n + 1 < lv.length then k (lset2 lv n (.long x)) st cu su h else none) = some res) : RWZ l D cy base ext sc mi pc lv st cu su h res := by
  obtain ⟨x, st1, rfl, hq1⟩ := pJ_some hq
  obtain ⟨hn, hq2⟩ := if_some hq1
  intro p e s m args below meth c Q C hend H locs ls hW hS hL h1 h2
  exact lv_lstore C.1 C.2.1 hd hL.has (by rw [← hL.1]; exact hn) rfl (fun ls' h' => hk _ _ _ _ _ _ hq2 p e s m args below meth c Q C hend H locs ls' hW hS (hL.store2 hi hi2 h') h1 h2)
theorem so_lstore_nZ {n : Fin 4} (hd : decode (mC mi) pc = .ok (.lstore_n n, 1)) (hk : KOKZ l D cy base ext sc k mi (pc + 1)) (hi : (n : Nat) = 0 ∨ (n : Nat) - 1 ∉ LSm mi) (hi2 : (n : Nat) ∈ LSm mi) (hq : (pJ st fun x st => if (n : Nat) + 1 < lv.length then k (lset2 lv n (.long x)) st cu su h else none) = some res) : RWZ l D cy base ext sc mi pc lv st cu su h res := by
  obtain ⟨x, st1, rfl, hq1⟩ := pJ_some hq
  obtain ⟨hn, hq2⟩ := if_some hq1
  intro p e s m args below meth c Q C hend H locs ls hW hS hL h1 h2
  exact lv_lstore_n C.1 C.2.1 hd rfl hL.has (by rw [← hL.1]; exact hn) rfl (fun ls' h' => hk _ _ _ _ _ _ hq2 p e s m args below meth c Q C hend H locs ls' hW hS (hL.store2 hi hi2 h') h1 h2)
theorem so_iincZ {n : Nat} {d : Int} (hd : decode (mC mi) pc = .ok (.iinc n d, 3)) (hk : KOKZ l D cy base ext sc k mi (pc + 3)) (hi : n = 0 ∨ n - 1 ∉ LSm mi) (hq : (gI lv n fun x => if n < lv.length then k (lset1 lv n (.int (x + Int32.ofInt d))) st cu su h else none) = some res) : RWZ l D cy base ext sc mi pc lv st cu su h res := by
  obtain ⟨x, hx, hq1⟩ := gI_some hq
  obtain ⟨hn, hq2⟩ := if_some hq1
  intro p e s m args below meth c Q C hend H locs ls hW hS hL h1 h2
  obtain ⟨kk, hkk⟩ := List.getElem?_of_mem (mem_lvl (base := base) (ext := ext) (lget_some hx))
  exact lv_iinc C.1 C.2.1 hd hL.has hkk rfl (by rw [← hL.1]; exact hn) rfl (fun ls' h' => hk _ _ _ _ _ _ hq2 p e s m args below meth c Q C hend H locs ls' hW hS (hL.store1 hi rfl h') h1 h2)
theorem so_dupZ (hd : decode (mC mi) pc = .ok (.dup, 1)) (hk : KOKZ l D cy base ext sc k mi (pc + 1)) (hq : (pV st fun v st => k lv (v :: v :: st) cu su h) = some res) : RWZ l D cy base ext sc mi pc lv st cu su h res := by
  obtain ⟨v, st1, rfl, hc, hq1⟩ := pV_some hq
  intro p e s m args below meth c Q C hend H locs ls hW hS hL h1 h2
  exact lv_dup C.1 C.2.1 hd (by rw [tr_cat]; exact hc) (hk _ _ _ _ _ _ hq1 p e s m args below meth c Q C hend H locs ls hW hS hL h1 h2)
theorem so_dup2Z (hd : decode (mC mi) pc = .ok (.dup2, 1)) (hk : KOKZ l D cy base ext sc k mi (pc + 1)) (hq : (pV st fun v st => pV st fun w st => k lv (v :: w :: v :: w :: st) cu su h) = some res) : RWZ l D cy base ext sc mi pc lv st cu su h res := by
  obtain ⟨v, st1, rfl, hc, hq1⟩ := pV_some hq
  obtain ⟨w, st2, rfl, hc2, hq2⟩ := pV_some hq1
  intro p e s m args below meth c Q C hend H locs ls hW hS hL h1 h2
  exact lv_dup2_11 C.1 C.2.1 hd (by rw [tr_cat]; exact hc) (by rw [tr_cat]; exact hc2) (hk _ _ _ _ _ _ hq2 p e s m args below meth c Q C hend H locs ls hW hS hL h1 h2)
theorem so_popZ (hd : decode (mC mi) pc = .ok (.pop, 1)) (hk : KOKZ l D cy base ext sc k mi (pc + 1)) (hq : (pV st fun _ st => k lv st cu su h) = some res) : RWZ l D cy base ext sc mi pc lv st cu su h res := by
  obtain ⟨v, st1, rfl, hc, hq1⟩ := pV_some hq
  intro p e s m args below meth c Q C hend H locs ls hW hS hL h1 h2
  exact lv_pop C.1 C.2.1 hd (by rw [tr_cat]; exact hc) (hk _ _ _ _ _ _ hq1 p e s m args below meth c Q C hend H locs ls hW hS hL h1 h2)
theorem so_gotoZ {off : Int} {t : Nat} (hd : decode (mC mi) pc = .ok (.goto off, 3)) (ht : (pc : Int) + off = (t : Int)) (hr : ROKZ l D cy base ext sc rec mi) (hq : rec mi t lv st cu su h = some res) : RWZ l D cy base ext sc mi pc lv st cu su h res := by
  intro p e s m args below meth c Q C hend H locs ls hW hS hL h1 h2
  exact lv_goto C.1 C.2.1 hd ht (hr _ _ _ _ _ _ _ hq p e s m args below meth c Q C hend H locs ls hW hS hL h1 h2)
theorem so_icmp_eqZ {off : Int} {t : Nat} (hd : decode (mC mi) pc = .ok (.if_icmp .eq off, 3)) (hk : KOKZ l D cy base ext sc k mi (pc + 3)) (ht : (pc : Int) + off = (t : Int)) (hr : ROKZ l D cy base ext sc rec mi) (hq : (pI st fun y st => pI st fun x st => if x = y then rec mi t lv st cu su h else k lv st cu su h) = some res) : RWZ l D cy base ext sc mi pc lv st cu su h res := by
  obtain ⟨y, st1, rfl, hq1⟩ := pI_some hq
  obtain ⟨x, st2, rfl, hq2⟩ := pI_some hq1
  intro p e s m args below meth c Q C hend H locs ls hW hS hL h1 h2
  exact lv_icmp_eq (tgt := t) C.1 C.2.1 hd ht (fun cc => by rw [if_pos cc] at hq2; exact hr _ _ _ _ _ _ _ hq2 p e s m args below meth c Q C hend H locs ls hW hS hL h1 h2) (fun cc => by rw [if_neg cc] at hq2; exact hk _ _ _ _ _ _ hq2 p e s m args below meth c Q C hend H locs ls hW hS hL h1 h2)
theorem so_if_eqZ {off : Int} {t : Nat} (hd : decode (mC mi) pc = .ok (.ifCond .eq off, 3)) (hk : KOKZ l D cy base ext sc k mi (pc + 3)) (ht : (pc : Int) + off = (t : Int)) (hr : ROKZ l D cy base ext sc rec mi) (hq : (pI st fun x st => if x = 0 then rec mi t lv st cu su h else k lv st cu su h) = some res) : RWZ l D cy base ext sc mi pc lv st cu su h res := by
  obtain ⟨x, st1, rfl, hq1⟩ := pI_some hq
  intro p e s m args below meth c Q C hend H locs ls hW hS hL h1 h2
  exact lv_if_eq (tgt := t) C.1 C.2.1 hd ht (fun cc => by rw [if_pos cc] at hq1; exact hr _ _ _ _ _ _ _ hq1 p e s m args below meth c Q C hend H locs ls hW hS hL h1 h2) (fun cc => by rw [if_neg cc] at hq1; exact hk _ _ _ _ _ _ hq1 p e s m args below meth c Q C hend H locs ls hW hS hL h1 h2)
theorem so_icmp_neZ {off : Int} {t : Nat} (hd : decode (mC mi) pc = .ok (.if_icmp .ne off, 3)) (hk : KOKZ l D cy base ext sc k mi (pc + 3)) (ht : (pc : Int) + off = (t : Int)) (hr : ROKZ l D cy base ext sc rec mi) (hq : (pI st fun y st => pI st fun x st => if x ≠ y then rec mi t lv st cu su h else k lv st cu su h) = some res) : RWZ l D cy base ext sc mi pc lv st cu su h res := by
  obtain ⟨y, st1, rfl, hq1⟩ := pI_some hq
  obtain ⟨x, st2, rfl, hq2⟩ := pI_some hq1
  intro p e s m args below meth c Q C hend H locs ls hW hS hL h1 h2
  exact lv_icmp_ne (tgt := t) C.1 C.2.1 hd ht (fun cc => by rw [if_pos cc] at hq2; exact hr _ _ _ _ _ _ _ hq2 p e s m args below meth c Q C hend H locs ls hW hS hL h1 h2) (fun cc => by rw [if_neg (fun q => q cc)] at hq2; exact hk _ _ _ _ _ _ hq2 p e s m args below meth c Q C hend H locs ls hW hS hL h1 h2)
theorem so_if_neZ {off : Int} {t : Nat} (hd : decode (mC mi) pc = .ok (.ifCond .ne off, 3)) (hk : KOKZ l D cy base ext sc k mi (pc + 3)) (ht : (pc : Int) + off = (t : Int)) (hr : ROKZ l D cy base ext sc rec mi) (hq : (pI st fun x st => if x ≠ 0 then rec mi t lv st cu su h else k lv st cu su h) = some res) : RWZ l D cy base ext sc mi pc lv st cu su h res := by
  obtain ⟨x, st1, rfl, hq1⟩ := pI_some hq
  intro p e s m args below meth c Q C hend H locs ls hW hS hL h1 h2
  exact lv_if_ne (tgt := t) C.1 C.2.1 hd ht (fun cc => by rw [if_pos cc] at hq1; exact hr _ _ _ _ _ _ _ hq1 p e s m args below meth c Q C hend H locs ls hW hS hL h1 h2) (fun cc => by rw [if_neg (fun q => q cc)] at hq1; exact hk _ _ _ _ _ _ hq1 p e s m args below meth c Q C hend H locs ls hW hS hL h1 h2)
theorem so_icmp_ltZ {off : Int} {t : Nat} (hd : decode (mC mi) pc = .ok (.if_icmp .lt off, 3)) (hk : KOKZ l D cy base ext sc k mi (pc + 3)) (ht : (pc : Int) + off = (t : Int)) (hr : ROKZ l D cy base ext sc rec mi) (hq : (pI st fun y st => pI st fun x st => if x < y then rec mi t lv st cu su h else k lv st cu su h) = some res) : RWZ l D cy base ext sc mi pc lv st cu su h res := by
  obtain ⟨y, st1, rfl, hq1⟩ := pI_some hq
  obtain ⟨x, st2, rfl, hq2⟩ := pI_some hq1
  intro p e s m args below meth c Q C hend H locs ls hW hS hL h1 h2
  exact lv_icmp_lt (tgt := t) C.1 C.2.1 hd ht (fun cc => by rw [if_pos cc] at hq2; exact hr _ _ _ _ _ _ _ hq2 p e s m args below meth c Q C hend H locs ls hW hS hL h1 h2) (fun cc => by rw [if_neg cc] at hq2; exact hk _ _ _ _ _ _ hq2 p e s m args below meth c Q C hend H locs ls hW hS hL h1 h2)
theorem so_if_ltZ {off : Int} {t : Nat} (hd : decode (mC mi) pc = .ok (.ifCond .lt off, 3)) (hk : KOKZ l D cy base ext sc k mi (pc + 3)) (ht : (pc : Int) + off = (t : Int)) (hr : ROKZ l D cy base ext sc rec mi) (hq : (pI st fun x st => if x < 0 then rec mi t lv st cu su h else k lv st cu su h) = some res) : RWZ l D cy base ext sc mi pc lv st cu su h res := by
  obtain ⟨x, st1, rfl, hq1⟩ := pI_some hq
  intro p e s m args below meth c Q C hend H locs ls hW hS hL h1 h2
  exact lv_if_lt (tgt := t) C.1 C.2.1 hd ht (fun cc => by rw [if_pos cc] at hq1; exact hr _ _ _ _ _ _ _ hq1 p e s m args below meth c Q C hend H locs ls hW hS hL h1 h2) (fun cc => by rw [if_neg cc] at hq1; exact hk _ _ _ _ _ _ hq1 p e s m args below meth c Q C hend H locs ls hW hS hL h1 h2)
theorem so_icmp_geZ {off : Int} {t : Nat} (hd : decode (mC mi) pc = .ok (.if_icmp .ge off, 3)) (hk : KOKZ l D cy base ext sc k mi (pc + 3)) (ht : (pc : Int) + off = (t : Int)) (hr : ROKZ l D cy base ext sc rec mi) (hq : (pI st fun y st => pI st fun x st => if y ≤ x then rec mi t lv st cu su h else k lv st cu su h) = some res) : RWZ l D cy base ext sc mi pc lv st cu su h res := by
  obtain ⟨y, st1, rfl, hq1⟩ := pI_some hq
  obtain ⟨x, st2, rfl, hq2⟩ := pI_some hq1
  intro p e s m args below meth c Q C hend H locs ls hW hS hL h1 h2
  exact lv_icmp_ge (tgt := t) C.1 C.2.1 hd ht (fun cc => by rw [if_pos cc] at hq2; exact hr _ _ _ _ _ _ _ hq2 p e s m args below meth c Q C hend H locs ls hW hS hL h1 h2) (fun cc => by rw [if_neg cc] at hq2; exact hk _ _ _ _ _ _ hq2 p e s m args below meth c Q C hend H locs ls hW hS hL h1 h2)
theorem so_if_geZ {off : Int} {t : Nat} (hd : decode (mC mi) pc = .ok (.ifCond .ge off, 3)) (hk : KOKZ l D cy base ext sc k mi (pc + 3)) (ht : (pc : Int) + off = (t : Int)) (hr : ROKZ l D cy base ext sc rec mi) (hq : (pI st fun x st => if 0 ≤ x then rec mi t lv st cu su h else k lv st cu su h) = some res) : RWZ l D cy base ext sc mi pc lv st cu su h res := by
  obtain ⟨x, st1, rfl, hq1⟩ := pI_some hq
  intro p e s m args below meth c Q C hend H locs ls hW hS hL h1 h2
  exact lv_if_ge (tgt := t) C.1 C.2.1 hd ht (fun cc => by rw [if_pos cc] at hq1; exact hr _ _ _ _ _ _ _ hq1 p e s m args below meth c Q C hend H locs ls hW hS hL h1 h2) (fun cc => by rw [if_neg cc] at hq1; exact hk _ _ _ _ _ _ hq1 p e s m args below meth c Q C hend H locs ls hW hS hL h1 h2)
theorem so_icmp_gtZ {off : Int} {t : Nat} (hd : decode (mC mi) pc = .ok (.if_icmp .gt off, 3)) (hk : KOKZ l D cy base ext sc k mi (pc + 3)) (ht : (pc : Int) + off = (t : Int)) (hr : ROKZ l D cy base ext sc rec mi) (hq : (pI st fun y st => pI st fun x st => if y < x then rec mi t lv st cu su h else k lv st cu su h) = some res) : RWZ l D cy base ext sc mi pc lv st cu su h res := by
  obtain ⟨y, st1, rfl, hq1⟩ := pI_some hq
  obtain ⟨x, st2, rfl, hq2⟩ := pI_some hq1
  intro p e s m args below meth c Q C hend H locs ls hW hS hL h1 h2
  exact lv_icmp_gt (tgt := t) C.1 C.2.1 hd ht (fun cc => by rw [if_pos cc] at hq2; exact hr _ _ _ _ _ _ _ hq2 p e s m args below meth c Q C hend H locs ls hW hS hL h1 h2) (fun cc => by rw [if_neg cc] at hq2; exact hk _ _ _ _ _ _ hq2 p e s m args below meth c Q C hend H locs ls hW hS hL h1 h2)
theorem so_if_gtZ {off : Int} {t : Nat} (hd : decode (mC mi) pc = .ok (.ifCond .gt off, 3)) (hk : KOKZ l D cy base ext sc k mi (pc + 3)) (ht : (pc : Int) + off = (t : Int)) (hr : ROKZ l D cy base ext sc rec mi) (hq : (pI st fun x st => if 0 < x then rec mi t lv st cu su h else k lv st cu su h) = some res) : RWZ l D cy base ext sc mi pc lv st cu su h res := by
  obtain ⟨x, st1, rfl, hq1⟩ := pI_some hq
  intro p e s m args below meth c Q C hend H locs ls hW hS hL h1 h2
  exact lv_if_gt (tgt := t) C.1 C.2.1 hd ht (fun cc => by rw [if_pos cc] at hq1; exact hr _ _ _ _ _ _ _ hq1 p e s m args below meth c Q C hend H locs ls hW hS hL h1 h2) (fun cc => by rw [if_neg cc] at hq1; exact hk _ _ _ _ _ _ hq1 p e s m args below meth c Q C hend H locs ls hW hS hL h1 h2)
theorem so_icmp_leZ {off : Int} {t : Nat} (hd : decode (mC mi) pc = .ok (.if_icmp .le off, 3)) (hk : KOKZ l D cy base ext sc k mi (pc + 3)) (ht : (pc : Int) + off = (t : Int)) (hr : ROKZ l D cy base ext sc rec mi) (hq : (pI st fun y st => pI st fun x st => if x ≤ y then rec mi t lv st cu su h else k lv st cu su h) = some res) : RWZ l D cy base ext sc mi pc lv st cu su h res := by
  obtain ⟨y, st1, rfl, hq1⟩ := pI_some hq
  obtain ⟨x, st2, rfl, hq2⟩ := pI_some hq1
  intro p e s m args below meth c Q C hend H locs ls hW hS hL h1 h2
  exact lv_icmp_le (tgt := t) C.1 C.2.1 hd ht (fun cc => by rw [if_pos cc] at hq2; exact hr _ _ _ _ _ _ _ hq2 p e s m args below meth c Q C hend H locs ls hW hS hL h1 h2) (fun cc => by rw [if_neg cc] at hq2; exact hk _ _ _ _ _ _ hq2 p e s m args below meth c Q C hend H locs ls hW hS hL h1 h2)
theorem so_if_leZ {off : Int} {t : Nat} (hd : decode (mC mi) pc = .ok (.ifCond .le off, 3)) (hk : KOKZ l D cy base ext sc k mi (pc + 3)) (ht : (pc : Int) + off = (t : Int)) (hr : ROKZ l D cy base ext sc rec mi) (hq : (pI st fun x st => if x ≤ 0 then rec mi t lv st cu su h else k lv st cu su h) = some res) : RWZ l D cy base ext sc mi pc lv st cu su h res := by
  obtain ⟨x, st1, rfl, hq1⟩ := pI_some hq
  intro p e s m args below meth c Q C hend H locs ls hW hS hL h1 h2
  exact lv_if_le (tgt := t) C.1 C.2.1 hd ht (fun cc => by rw [if_pos cc] at hq1; exact hr _ _ _ _ _ _ _ hq1 p e s m args below meth c Q C hend H locs ls hW hS hL h1 h2) (fun cc => by rw [if_neg cc] at hq1; exact hk _ _ _ _ _ _ hq1 p e s m args below meth c Q C hend H locs ls hW hS hL h1 h2)
theorem so_ireturn0Z (hd : decode (mC mi) pc = .ok (.ireturn, 1)) (hr : mR mi = some .int) (hq : (pI st fun x st => match st with | [] => some (h, some (.int x)) | _ => none) = some res) : RWZ l D cy base ext sc mi pc lv st cu su h res := by
  obtain ⟨x, st1, rfl, hq1⟩ := pI_some hq
  cases st1 with
  | nil =>
    cases hq1
    intro p e s m args below meth c Q C hend H locs ls hW hS hL h1 h2
    exact hend pc ls H locs cu su hW hS h1 h2 (Or.inl ⟨x, rfl, hd, Or.inl hr⟩)
  | cons _ _ => cases hq1
theorem so_ireturn3Z (hd : decode (mC mi) pc = .ok (.ireturn, 1)) (hr : mR mi = some .boolean) (hq : (pI st fun x st => match st with | [] => if x = 0 ∨ x = 1 then some (h, some (.int x)) else none | _ => none) = some res) : RWZ l D cy base ext sc mi pc lv st cu su h res := by
  obtain ⟨x, st1, rfl, hq1⟩ := pI_some hq
  cases st1 with
  | nil =>
    obtain ⟨hx, hq2⟩ := if_some hq1
    cases hq2
    intro p e s m args below meth c Q C hend H locs ls hW hS hL h1 h2
    exact hend pc ls H locs cu su hW hS h1 h2 (Or.inl ⟨x, rfl, hd, Or.inr ⟨hr, hx⟩⟩)
  | cons _ _ => cases hq1
theorem so_lreturnZ (hd : decode (mC mi) pc = .ok (.lreturn, 1)) (hr : mR mi = some .long) (hq : (pJ st fun x st => match st with | [] => some (h, some (.long x)) | _ => none) = some res) : RWZ l D cy base ext sc mi pc lv st cu su h res := by
  obtain ⟨x, st1, rfl, hq1⟩ := pJ_some hq
  cases st1 with
  | nil =>
    cases hq1
    intro p e s m args below meth c Q C hend H locs ls hW hS hL h1 h2
    exact hend pc ls H locs cu su hW hS h1 h2 (Or.inr (Or.inl ⟨x, rfl, hd, hr⟩))
  | cons _ _ => cases hq1
theorem so_areturnZ (hd : decode (mC mi) pc = .ok (.areturn, 1)) (hr : mR mi = some (.object "AskedCourt$State")) (hq : (pA st fun x st => match st with | [] => some (h, some (.ref x)) | _ => none) = some res) : RWZ l D cy base ext sc mi pc lv st cu su h res := by
  obtain ⟨x, st1, rfl, hq1⟩ := pA_some hq
  cases st1 with
  | nil =>
    cases hq1
    intro p e s m args below meth c Q C hend H locs ls hW hS hL h1 h2
    exact hend pc ls H locs cu su hW hS h1 h2 (Or.inr (Or.inr (Or.inl ⟨x, rfl, hd, hr⟩)))
  | cons _ _ => cases hq1
theorem so_returnZ (hd : decode (mC mi) pc = .ok (.return_, 1)) (hr : mR mi = none) (hq : (match st with | [] => some (h, none) | _ => none) = some res) : RWZ l D cy base ext sc mi pc lv st cu su h res := by
  cases st with
  | nil =>
    cases hq
    intro p e s m args below meth c Q C hend H locs ls hW hS hL h1 h2
    exact hend pc ls H locs cu su hW hS h1 h2 (Or.inr (Or.inr (Or.inr ⟨rfl, hd, hr⟩)))
  | cons _ _ => cases hq
end SndAZ
section HeapAZ
variable {p : Program} {l : Launch} {e : Env} {R : Room} {s : State} {m : MethodId} {args : Array Value} {below : List Frame} {meth : Method} {c : Code} {H : Heap} {locs : List Loc} {cells slots : Nat} {Q : State → Prop} {cc : ByteArray} {pc : Nat} {ls : Array Slot} {rest : List Value} {D : va_G} {tys : List (ClassId × FieldType)} {ws : va_W} {A : Nat → Prop}
end HeapAZ
section HeapBZ
variable {l : Launch} {D : va_G} {cy : Nat → ClassId} {base : Nat} {ext : Nat → Nat} {sc : Nat × (Nat → Int32)} {rec : Rec} {k : Knt} {mi pc : Nat} {lv : Lv} {st : List Value} {cu su : Nat} {h : Hp} {res : Hp × Option Value}
theorem so_getfZ {ix ci j t pos nest : Nat} (hd : decode (mC mi) pc = .ok (.getfield ix, 3)) (hk : KOKZ l D cy base ext sc k mi (pc + 3)) (hf : fchk (mO mi) ix ci j t pos nest = true) (hq : (pA st fun a st => if kd h a = ci then (match (generalizing := false) t with
      | 1 => k lv (.long (hJ h a j) :: st) cu su h
      | 2 => (match hR h a j with
        | 0 => none
        | r + 1 => k lv (.ref r :: st) cu su h)
      | _ => k lv (.int (hI h a j) :: st) cu su h) else none) = some res) : RWZ l D cy base ext sc mi pc lv st cu su h res := by
  obtain ⟨a, st, rfl, hq⟩ := pA_some hq
  obtain ⟨ha, hq⟩ := if_some hq
  obtain ⟨C, T, N, hc, hjN, hT1, ht, hlink⟩ := fchk_spec hf
  have hci := cl_lt hc
  have hin := tw_cl ci _ hc
  have hjl : j < (fks.getD ci []).length := by rw [fks_len hc]; exact hjN
  intro p e s m args below meth c Q C0 hend H locs ls hW hS hL h1 h2
  have hal := kd_in ha (by omega)
  have e0 : adr base ext a = base + a := adr_kd ha (by omega) hW.2.1
  have he : (pl cy base ext h)[a]? = some (base + a, .inr (ci, oc base ext h a ci)) := by rw [pl_at hal.1, cE_obj hal.2 hci]
  have hv := oc_get (base := base) (ext := ext) (h := h) (k := a) hjl
  rw [ht] at hv
  have key : ∀ v : Value, fv base ext h a j t = v → W p l e (mRoom mi) s m args below meth c H locs cu su Q (F0 m (pc + 3) ls (v :: st.map (tr base ext))) → W p l e (mRoom mi) s m args below meth c H locs cu su Q (F0 m pc ls ((Value.ref a :: st).map (tr base ext))) := by
    intro v e1 w
    show W p l e (mRoom mi) s m args below meth c H locs cu su Q (F0 m pc ls (Value.ref (adr base ext a) :: st.map (tr base ext)))
    rw [e0]
    rw [e1] at hv
    rcases hlink with ⟨-, hlk⟩ | ⟨-, hlk⟩
    · exact va_get C0.1 C0.2.1 C0.2.2.2.2.1 hin C0.2.2.2.1 C0.2.2.2.2.2.2.1.1 hW.1 a he hc j hjN (C0.2.2.2.2.1 _ (tw_at pos hlk rfl)) (by rw [hT1]; exact fun _ h9 => h9) hv hd w
    · exact va_getN C0.1 C0.2.1 C0.2.2.2.2.1 hin C0.2.2.2.1 C0.2.2.2.2.2.2.1.1 hW.1 a he hc j hjN (va_Nw.use rfl (C0.2.2.2.2.2.2.1.2.1 _ (List.mem_filter.mpr ⟨List.mem_of_getElem? hlk, rfl⟩))) (by rw [hT1]; exact fun _ h9 => h9) hv hd w
  split at hq
  · exact key (.long (hJ h a j)) rfl (hk _ _ _ _ _ _ hq p e s m args below meth c Q C0 hend H locs ls hW hS hL h1 h2)
  · split at hq
    · cases hq
    · rename_i r hr
      exact key (.ref (adr base ext r)) (by simp [fv, hr, rfo, va_rf]) (hk _ _ _ _ _ _ hq p e s m args below meth c Q C0 hend H locs ls hW hS hL h1 h2)
  · rename_i n1 n2
    exact key (.int (hI h a j)) (by simp only [fv]; rw [if_neg (by first | exact n1 | (intro q; subst q; exact n1 rfl)), if_neg (by first | exact n2 | (intro q; subst q; exact n2 rfl))]) (hk _ _ _ _ _ _ hq p e s m args below meth c Q C0 hend H locs ls hW hS hL h1 h2)
end HeapBZ
section HeapCZ
variable {l : Launch} {D : va_G} {cy : Nat → ClassId} {base : Nat} {ext : Nat → Nat} {sc : Nat × (Nat → Int32)} {rec : Rec} {k : Knt} {mi pc : Nat} {lv : Lv} {st : List Value} {cu su : Nat} {h : Hp} {res : Hp × Option Value}
/-- any field is written -/
theorem put_coreZ {ix ci j t pos nest fin a : Nat} {v : Value} {h' : Hp} (hd : decode (mC mi) pc = .ok (.putfield ix, 3)) (hf : fchk (mO mi) ix ci j t pos nest = true) (hpf : pchk ci j fin nest (mF mi) = true) (hown : fin = 0 ∨ ownS (mO mi) = ownS ci) (ha : kd h a = ci) (hn' : hn h' = hn h) (hK' : hK h' = hK h)
    (hv : fv base ext h' a j t = tr base ext v) (ho : ∀ i u, i ≠ j → fv base ext h' a i u = fv base ext h a i u) (hc : ∀ i, i ≠ a → cE cy base ext h' i = cE cy base ext h i) (hnar : ∀ ty, tykB ty t = true → narrow ty (tr base ext v) = tr base ext v ∧ fits ty (tr base ext v) = true)
    (hk : RWZ l D cy base ext sc mi (pc + 3) lv st cu su h' res) : RWZ l D cy base ext sc mi pc lv (v :: .ref a :: st) cu su h res := by
  obtain ⟨C, T, N, hcl, hjN, hT1, ht, hlink⟩ := fchk_spec hf
  have hci := cl_lt hcl
  have hjl : j < (fks.getD ci []).length := by rw [fks_len hcl]; exact hjN
  intro p e s m args below meth c Q C0 hend H locs ls hW hS hL h1 h2
  have hal := kd_in ha (by omega)
  have e0 : adr base ext a = base + a := adr_kd ha (by omega) hW.2.1
  have he : (pl cy base ext h)[a]? = some (base + a, .inr (ci, oc base ext h a ci)) := by rw [pl_at hal.1, cE_obj hal.2 hci]
  have hty := tyk_all ci hci j hjl
  rw [ht] at hty
  obtain ⟨n1, n2⟩ := hnar _ hty
  obtain ⟨cell, cf, kf, fi, f, c1, c2, c3, c4, c5, c6, c7, c8⟩ := obj_cell (own := ownS (mO mi)) C0.2.2.2.2.1 C0.2.2.2.1 C0.2.2.2.2.2.2.1.1 hW.1 (pl_D (cy := cy) (base := base) (ext := ext) (h := h)) he hcl hjN (cl_ty ci _ hcl j hjN) n1 n2 (by simp only [oc, List.length_mapIdx]; exact hjl)
  have kk : ∀ H' : Heap, H'[base + a]? = some (cell.setSlot f.slot (tr base ext v)) → H'.size = H.size → (∀ q, q ≠ base + a → H'[q]? = H[q]?) → W p l e (mRoom mi) s m args below meth c H' (locs ++ [⟨base + a, f.slot⟩]) cu su Q (F0 m (pc + 3) ls (st.map (tr base ext))) := by
    intro H' e1 e2 e3
    have hP' := c8 H' e1 e3
    rw [pl_put (cy := cy) hal.1 hal.2 hci hn' hK' hjl (by rw [ht]; exact hv) ho hc] at hP'
    exact hk p e s m args below meth c Q C0 hend H' _ ls ⟨hP', by rw [hn']; exact hW.2.1, by rw [hn', e2]; exact hW.2.2⟩ (hS.put e2 e3 (Nat.le_add_right _ _)) hL h1 h2
  show W p l e (mRoom mi) s m args below meth c H locs cu su Q (F0 m pc ls (tr base ext v :: Value.ref (adr base ext a) :: st.map (tr base ext)))
  rw [e0]
  unfold pchk at hpf
  rw [hcl] at hpf
  simp only at hpf
  by_cases hfin : fin = 0
  · rw [if_pos hfin] at hpf
    have hff := of_decide_eq_true hpf
    rcases hlink with ⟨-, hlk⟩ | ⟨-, hlk⟩
    · exact W.putK C0.1 C0.2.1 (f := f) ⟨C0.2.2.2.1, C0.2.2.2.2.1 _ (tw_at pos hlk rfl), ⟨_, _, _, by rw [← hT1]; exact c3⟩, c4⟩ (c6 hff) c1 c2 c5 rfl rfl hd kk
    · exact va_WputK C0.1 C0.2.1 (f := f) C0.2.2.2.1 (va_Nw.use rfl (C0.2.2.2.2.2.2.1.2.1 _ (List.mem_filter.mpr ⟨List.mem_of_getElem? hlk, rfl⟩))) (by rw [← hT1]; exact c3) c4 (c6 hff) c1 c2 c5 rfl rfl hd kk
  · rw [if_neg hfin] at hpf
    simp only [Bool.and_eq_true, decide_eq_true_eq] at hpf
    obtain ⟨⟨hff, hne⟩, hini⟩ := hpf
    rcases hlink with ⟨-, hlk⟩ | ⟨hx, -⟩
    · have hdecl : (T j).1 = ownS (mO mi) := by
        rw [hT1, hown.resolve_left hfin]
        match ci, hcl with
        | 0, h => cases h; rfl
        | 1, h => cases h; rfl
        | 2, h => cases h; rfl
        | 3, h => cases h; rfl
        | 4, h => cases h; rfl
        | 5, h => cases h; rfl
        | 6, h => cases h; rfl
        | 7, h => cases h; rfl
        | 8, h => cases h; rfl
        | 9, h => cases h; rfl
        | 10, h => cases h; rfl
        | 11, h => cases h; rfl
        | 12, h => cases h; rfl
        | n + 13, h => simp [vwCl] at h
      obtain ⟨d1, d2⟩ := c7 hff hdecl
      exact W.putFinK C0.1 C0.2.1 C0.2.2.2.1 (C0.2.2.2.2.1 _ (tw_at pos hlk rfl)) (by rw [← hT1]; exact c3) c4 d1 (C0.2.2.2.2.2.1 hini) d2 c1 c2 c5 rfl rfl hd kk
    · exact absurd hne hx
theorem so_putfZ {ix ci j t pos nest fin : Nat} (hd : decode (mC mi) pc = .ok (.putfield ix, 3)) (hk : KOKZ l D cy base ext sc k mi (pc + 3)) (hf : fchk (mO mi) ix ci j t pos nest = true) (hpf : pchk ci j fin nest (mF mi) = true) (hown : fin = 0 ∨ ownS (mO mi) = ownS ci)
    (hq : (match (generalizing := false) t with
      | 1 => pJ st fun x st => pA st fun a st => if kd h a = ci then k lv st cu su (sJ h a j x) else none
      | 2 => pA st fun x st => pA st fun a st => if kd h a = ci ∧ x < 1000 then k lv st cu su (sR h a j (x + 1)) else none
      | 3 => pI st fun x st => pA st fun a st => if kd h a = ci ∧ (x = 0 ∨ x = 1) then k lv st cu su (sI h a j x) else none
      | _ => pI st fun x st => pA st fun a st => if kd h a = ci then k lv st cu su (sI h a j x) else none) = some res) : RWZ l D cy base ext sc mi pc lv st cu su h res := by
  match t, hf, hq with
  | 1, hf, hq =>
    have hq0 : (pJ st fun x st => pA st fun a st => if kd h a = ci then k lv st cu su (sJ h a j x) else none) = some res := hq
    obtain ⟨x, st1, rfl, hq1⟩ := pJ_some hq0
    obtain ⟨a, st2, rfl, hq2⟩ := pA_some hq1
    obtain ⟨ha, hq3⟩ := if_some hq2
    exact put_coreZ (h' := sJ h a j x) hd hf hpf hown ha rfl rfl (by simp only [fv, sJ, hJ, up2_eq]; rfl) (fun i u hi => fv_sJ hi) (fun i hi => cE_sJ hi) (fun ty hty => by cases ty <;> first | exact ⟨rfl, rfl⟩ | (simp [tykB] at hty)) (hk _ _ _ _ _ _ hq3)
  | 2, hf, hq =>
    have hq0 : (pA st fun x st => pA st fun a st => if kd h a = ci ∧ x < 1000 then k lv st cu su (sR h a j (x + 1)) else none) = some res := hq
    obtain ⟨x, st1, rfl, hq1⟩ := pA_some hq0
    obtain ⟨a, st2, rfl, hq2⟩ := pA_some hq1
    obtain ⟨⟨ha, hx⟩, hq3⟩ := if_some hq2
    exact put_coreZ (h' := sR h a j (x + 1)) hd hf hpf hown ha rfl rfl (by simp only [fv, sR, hR, up2_eq]; rfl) (fun i u hi => fv_sR hi) (fun i hi => cE_sR hi) (fun ty hty => by cases ty <;> first | exact ⟨rfl, rfl⟩ | (simp [tykB] at hty)) (hk _ _ _ _ _ _ hq3)
  | 3, hf, hq =>
    have hq0 : (pI st fun x st => pA st fun a st => if kd h a = ci ∧ (x = 0 ∨ x = 1) then k lv st cu su (sI h a j x) else none) = some res := hq
    obtain ⟨x, st1, rfl, hq1⟩ := pI_some hq0
    obtain ⟨a, st2, rfl, hq2⟩ := pA_some hq1
    obtain ⟨⟨ha, hx⟩, hq3⟩ := if_some hq2
    exact put_coreZ (h' := sI h a j x) hd hf hpf hown ha rfl rfl (by simp only [fv, sI, hI, up2_eq]; rfl) (fun i u hi => fv_sI hi) (fun i hi => cE_sI hi) (fun ty hty => by cases ty <;> first | (simp [tykB] at hty; done) | (rcases hx with rfl | rfl <;> exact ⟨rfl, rfl⟩)) (hk _ _ _ _ _ _ hq3)
  | 0, hf, hq =>
    have hq0 : (pI st fun x st => pA st fun a st => if kd h a = ci then k lv st cu su (sI h a j x) else none) = some res := hq
    obtain ⟨x, st1, rfl, hq1⟩ := pI_some hq0
    obtain ⟨a, st2, rfl, hq2⟩ := pA_some hq1
    obtain ⟨ha, hq3⟩ := if_some hq2
    exact put_coreZ (h' := sI h a j x) hd hf hpf hown ha rfl rfl (by simp only [fv, sI, hI, up2_eq]; rfl) (fun i u hi => fv_sI hi) (fun i hi => cE_sI hi) (fun ty hty => by cases ty <;> first | exact ⟨rfl, rfl⟩ | (simp [tykB] at hty)) (hk _ _ _ _ _ _ hq3)
  | t + 4, hf, hq =>
    have hq0 : (pI st fun x st => pA st fun a st => if kd h a = ci then k lv st cu su (sI h a j x) else none) = some res := hq
    obtain ⟨x, st1, rfl, hq1⟩ := pI_some hq0
    obtain ⟨a, st2, rfl, hq2⟩ := pA_some hq1
    obtain ⟨ha, hq3⟩ := if_some hq2
    exact put_coreZ (h' := sI h a j x) hd hf hpf hown ha rfl rfl (by simp only [fv]; rw [if_neg (by omega), if_neg (by omega)]; simp only [sI, hI, up2_eq]; rfl) (fun i u hi => fv_sI hi) (fun i hi => cE_sI hi) (fun ty hty => by cases ty <;> first | exact ⟨rfl, rfl⟩ | (simp [tykB] at hty)) (hk _ _ _ _ _ _ hq3)
end HeapCZ
section ArrAZ
variable {l : Launch} {D : va_G} {cy : Nat → ClassId} {base : Nat} {ext : Nat → Nat} {sc : Nat × (Nat → Int32)} {rec : Rec} {k : Knt} {mi pc : Nat} {lv : Lv} {st : List Value} {cu su : Nat} {h : Hp} {res : Hp × Option Value}
theorem so_ialoadZ (hmi : mi ≠ 277) (hd : decode (mC mi) pc = .ok (.iaload, 1)) (hk : KOKZ l D cy base ext sc k mi (pc + 1)) (hq : (pI st fun i st => pA st fun a st => if kd h a = 13 ∧ ¬ (i < 0 ∨ hN h a ≤ i.toNatClampNeg) then k lv (.int (hI h a i.toNatClampNeg) :: st) cu su h else none) = some res) : RWZ l D cy base ext sc mi pc lv st cu su h res := by
  obtain ⟨i, st1, rfl, hq1⟩ := pI_some hq
  obtain ⟨a, st2, rfl, hq2⟩ := pA_some hq1
  obtain ⟨⟨ha, hi⟩, hq3⟩ := if_some hq2
  intro p e s m args below meth c Q C0 hend H locs ls hW hS hL h1 h2
  have e0 : adr base ext a = base + a := adr_kd ha (by omega) hW.2.1
  have he := arr_at (cy := cy) (base := base) (ext := ext) ha (by omega) (by omega)
  rw [arE_i ha (by omega) (by omega) (by omega)] at he
  show W p l e (mRoom mi) s m args below meth c H locs cu su Q (F0 m pc ls (Value.int i :: Value.ref (adr base ext a) :: st2.map (tr base ext)))
  rw [e0]
  exact va_iald C0.1 C0.2.1 C0.2.2.2.2.2.2.1.1 hW.1 a 0 he rfl hi hd (hk _ _ _ _ _ _ hq3 p e s m args below meth c Q C0 hend H locs ls hW hS hL h1 h2)
theorem so_sloadZ (hmi : mi = 277) (hd : decode (mC mi) pc = .ok (.iaload, 1)) (hk : KOKZ l D cy base ext sc k mi (pc + 1)) (hq : (pI st fun i st => pA st fun a st => if a = 1000 ∧ ¬ (i < 0 ∨ sc.1 ≤ i.toNatClampNeg) then k lv (.int (sc.2 i.toNatClampNeg) :: st) cu su h else none) = some res) : RWZ l D cy base ext sc mi pc lv st cu su h res := by
  obtain ⟨i, st1, rfl, hq1⟩ := pI_some hq
  obtain ⟨a, st2, rfl, hq2⟩ := pA_some hq1
  obtain ⟨⟨ha, hi⟩, hq3⟩ := if_some hq2
  intro p e s m args below meth c Q C0 hend H locs ls hW hS hL h1 h2
  subst ha
  obtain ⟨x1, x2, x3, -⟩ := C0.2.2.2.2.2.2.2.2 hmi
  exact va_sld C0.1 C0.2.1 x1 x2 (fun z => absurd z (Nat.not_le.mpr x3)) hS hi hd (hk _ _ _ _ _ _ hq3 p e s m args below meth c Q C0 hend H locs ls hW hS hL h1 h2)
theorem so_slenZ (hmi : mi = 277) (hd : decode (mC mi) pc = .ok (.arraylength, 1)) (hk : KOKZ l D cy base ext sc k mi (pc + 1)) (hq : (pA st fun a st => if a = 1000 then k lv (.int (Int32.ofNat sc.1) :: st) cu su h else none) = some res) : RWZ l D cy base ext sc mi pc lv st cu su h res := by
  obtain ⟨a, st2, rfl, hq2⟩ := pA_some hq
  obtain ⟨ha, hq3⟩ := if_some hq2
  intro p e s m args below meth c Q C0 hend H locs ls hW hS hL h1 h2
  subst ha
  obtain ⟨x1, x2, x3, -⟩ := C0.2.2.2.2.2.2.2.2 hmi
  exact va_slen C0.1 C0.2.1 x1 x2 (fun z => absurd z (Nat.not_le.mpr x3)) hS hd (hk _ _ _ _ _ _ hq3 p e s m args below meth c Q C0 hend H locs ls hW hS hL h1 h2)
theorem so_alenZ (hd : decode (mC mi) pc = .ok (.arraylength, 1)) (hk : KOKZ l D cy base ext sc k mi (pc + 1)) (hq : (pA st fun a st => if 13 ≤ kd h a ∧ kd h a ≤ 16 then k lv (.int (Int32.ofNat (hN h a)) :: st) cu su h else none) = some res) : RWZ l D cy base ext sc mi pc lv st cu su h res := by
  obtain ⟨a, st2, rfl, hq2⟩ := pA_some hq
  obtain ⟨⟨ha, ha2⟩, hq3⟩ := if_some hq2
  intro p e s m args below meth c Q C0 hend H locs ls hW hS hL h1 h2
  have e0 : adr base ext a = base + a := adr_kd rfl (by omega) hW.2.1
  have he := arr_at (cy := cy) (base := base) (ext := ext) (h := h) (a := a) rfl ha (by omega)
  show W p l e (mRoom mi) s m args below meth c H locs cu su Q (F0 m pc ls (Value.ref (adr base ext a) :: st2.map (tr base ext)))
  rw [e0]
  have ht : ∃ ty, (tysE cy)[kd h a - 13]? = some (cy (kd h a - 13), ty) := by
    rcases (by omega : kd h a = 13 ∨ kd h a = 14 ∨ kd h a = 15 ∨ kd h a = 16) with q | q | q | q <;> rw [q] <;> exact ⟨_, rfl⟩
  obtain ⟨ty, ht⟩ := ht
  exact va_alen C0.1 C0.2.1 C0.2.2.2.2.2.2.1.1 hW.1 a _ he ht rfl hd (hk _ _ _ _ _ _ hq3 p e s m args below meth c Q C0 hend H locs ls hW hS hL h1 h2)
theorem so_laloadZ (hd : decode (mC mi) pc = .ok (.laload, 1)) (hk : KOKZ l D cy base ext sc k mi (pc + 1)) (hq : (pI st fun i st => pA st fun a st => if kd h a = 14 ∧ ¬ (i < 0 ∨ hN h a ≤ i.toNatClampNeg) then k lv (.long (hJ h a i.toNatClampNeg) :: st) cu su h else none) = some res) : RWZ l D cy base ext sc mi pc lv st cu su h res := by
  obtain ⟨i, st1, rfl, hq1⟩ := pI_some hq
  obtain ⟨a, st2, rfl, hq2⟩ := pA_some hq1
  obtain ⟨⟨ha, hi⟩, hq3⟩ := if_some hq2
  intro p e s m args below meth c Q C0 hend H locs ls hW hS hL h1 h2
  have e0 : adr base ext a = base + a := adr_kd ha (by omega) hW.2.1
  have he := arr_at (cy := cy) (base := base) (ext := ext) ha (by omega) (by omega)
  rw [arE_j ha] at he
  show W p l e (mRoom mi) s m args below meth c H locs cu su Q (F0 m pc ls (Value.int i :: Value.ref (adr base ext a) :: st2.map (tr base ext)))
  rw [e0]
  exact va_lald C0.1 C0.2.1 C0.2.2.2.2.2.2.1.1 hW.1 a 1 he rfl hi hd (hk _ _ _ _ _ _ hq3 p e s m args below meth c Q C0 hend H locs ls hW hS hL h1 h2)
theorem so_baloadZ (hd : decode (mC mi) pc = .ok (.baload, 1)) (hk : KOKZ l D cy base ext sc k mi (pc + 1)) (hq : (pI st fun i st => pA st fun a st => if kd h a = 15 ∧ ¬ (i < 0 ∨ hN h a ≤ i.toNatClampNeg) then k lv (.int (hI h a i.toNatClampNeg) :: st) cu su h else none) = some res) : RWZ l D cy base ext sc mi pc lv st cu su h res := by
  obtain ⟨i, st1, rfl, hq1⟩ := pI_some hq
  obtain ⟨a, st2, rfl, hq2⟩ := pA_some hq1
  obtain ⟨⟨ha, hi⟩, hq3⟩ := if_some hq2
  intro p e s m args below meth c Q C0 hend H locs ls hW hS hL h1 h2
  have e0 : adr base ext a = base + a := adr_kd ha (by omega) hW.2.1
  have he := arr_at (cy := cy) (base := base) (ext := ext) ha (by omega) (by omega)
  rw [arE_i ha (by omega) (by omega) (by omega)] at he
  show W p l e (mRoom mi) s m args below meth c H locs cu su Q (F0 m pc ls (Value.int i :: Value.ref (adr base ext a) :: st2.map (tr base ext)))
  rw [e0]
  exact va_zald C0.1 C0.2.1 C0.2.2.2.2.2.2.1.1 hW.1 a 2 he rfl hi hd (hk _ _ _ _ _ _ hq3 p e s m args below meth c Q C0 hend H locs ls hW hS hL h1 h2)
theorem so_aaloadZ (hd : decode (mC mi) pc = .ok (.aaload, 1)) (hk : KOKZ l D cy base ext sc k mi (pc + 1)) (hq : (pI st fun i st => pA st fun a st => if kd h a = 16 ∧ ¬ (i < 0 ∨ hN h a ≤ i.toNatClampNeg) then (match hR h a i.toNatClampNeg with
      | 0 => none
      | r + 1 => k lv (.ref r :: st) cu su h) else none) = some res) : RWZ l D cy base ext sc mi pc lv st cu su h res := by
  obtain ⟨i, st1, rfl, hq1⟩ := pI_some hq
  obtain ⟨a, st2, rfl, hq2⟩ := pA_some hq1
  obtain ⟨⟨ha, hi⟩, hq3⟩ := if_some hq2
  intro p e s m args below meth c Q C0 hend H locs ls hW hS hL h1 h2
  have e0 : adr base ext a = base + a := adr_kd ha (by omega) hW.2.1
  have he := arr_at (cy := cy) (base := base) (ext := ext) ha (by omega) (by omega)
  rw [arE_r ha] at he
  show W p l e (mRoom mi) s m args below meth c H locs cu su Q (F0 m pc ls (Value.int i :: Value.ref (adr base ext a) :: st2.map (tr base ext)))
  rw [e0]
  cases hr : hR h a i.toNatClampNeg with
  | zero => rw [hr] at hq3; cases hq3
  | succ r =>
    rw [hr] at hq3
    refine va_aldq C0.1 C0.2.1 C0.2.2.2.2.2.2.1.1 hW.1 a 3 he rfl hi hd ?_
    have e2 : va_rf (rfo base ext (hR h a i.toNatClampNeg)) = .ref (adr base ext r) := by rw [hr]; rfl
    show W p l e (mRoom mi) s m args below meth c H locs cu su Q (F0 m (pc + 1) ls (va_rf (rfo base ext (hR h a i.toNatClampNeg)) :: st2.map (tr base ext)))
    rw [e2]
    exact hk _ _ _ _ _ _ hq3 p e s m args below meth c Q C0 hend H locs ls hW hS hL h1 h2
/-- an array behind a write, in the machine's heap -/
theorem arr_putZ {p : Program} {e : Env} {s : State} {m : MethodId} {args : Array Value} {below : List Frame} {meth : Method} {c : Code} {Q : State → Prop} {H H1 : Heap} {locs : List Loc} {ls : Array Slot} {h' : Hp} {a kk n : Nat} (C0 : CxZ D cy base ext sc p s m args meth c mi) (hend : ∀ (pc : Nat) (ls : Array Slot) (H : Heap) (locs : List Loc) (cu su : Nat), WHp D cy base ext res.1 H → va_S (fun q => base ≤ q) s.heap H locs → cu ≤ mP mi 7 → su ≤ mP mi 8 → retAt mi pc res.2 → W p l e (mRoom mi) s m args below meth c H locs cu su Q (F0 m pc ls (res.2.toList.map (tr base ext))))
    (hW : WHp D cy base ext h H) (hS : va_S (fun q => base ≤ q) s.heap H locs) (hL : LvOK base ext ls (mL mi) lv (LSm mi)) (h1 : cu ≤ mP mi 7) (h2 : su ≤ mP mi 8) (ha : kd h a = kk) (h13 : 13 ≤ kk) (h17 : kk < 17) (hn' : hn h' = hn h) (hK' : hK h' = hK h) (hc : ∀ i, i ≠ a → cE cy base ext h' i = cE cy base ext h i)
    (hcell : H1[base + a]? = some (vp_cell (cy (kk - 13)) (arE base ext h' a))) (z : H1.size = H.size) (oq : ∀ q : Nat, q ≠ base + a → H1[q]? = H[q]?) (hk : RWZ l D cy base ext sc mi (pc + 1) lv st cu su h' res) : W p l e (mRoom mi) s m args below meth c H1 (locs ++ [⟨base + a, n⟩]) cu su Q (F0 m (pc + 1) ls (st.map (tr base ext))) := by
  have he := arr_at (cy := cy) (base := base) (ext := ext) ha h13 h17
  have hP1 := hW.1.set (H1 := H1) (e := .inl (cy (kk - 13), arE base ext h' a)) (pl_D (cy := cy) (base := base) (ext := ext) (h := h)) he hcell oq
  rw [pl_arr ha h13 h17 hn' hK' hc] at hP1
  exact hk p e s m args below meth c Q C0 hend H1 _ ls ⟨hP1, by rw [hn']; exact hW.2.1, by rw [hn', z]; exact hW.2.2⟩ (hS.put z oq (Nat.le_add_right _ _)) hL h1 h2
theorem so_iastoreZ (hd : decode (mC mi) pc = .ok (.iastore, 1)) (hk : KOKZ l D cy base ext sc k mi (pc + 1)) (hq : (pI st fun x st => pI st fun i st => pA st fun a st => if kd h a = 13 ∧ ¬ (i < 0 ∨ hN h a ≤ i.toNatClampNeg) then k lv st cu su (sI h a i.toNatClampNeg x) else none) = some res) : RWZ l D cy base ext sc mi pc lv st cu su h res := by
  obtain ⟨x, st1, rfl, hq1⟩ := pI_some hq
  obtain ⟨i, st2, rfl, hq2⟩ := pI_some hq1
  obtain ⟨a, st3, rfl, hq3⟩ := pA_some hq2
  obtain ⟨⟨ha, hi⟩, hq4⟩ := if_some hq3
  intro p e s m args below meth c Q C0 hend H locs ls hW hS hL h1 h2
  have e0 : adr base ext a = base + a := adr_kd ha (by omega) hW.2.1
  have he := arr_at (cy := cy) (base := base) (ext := ext) ha (by omega) (by omega)
  rw [arE_i ha (by omega) (by omega) (by omega)] at he
  show W p l e (mRoom mi) s m args below meth c H locs cu su Q (F0 m pc ls (Value.int x :: Value.int i :: Value.ref (adr base ext a) :: st3.map (tr base ext)))
  rw [e0]
  refine W.iast C0.1 C0.2.1 (hW.1 a _ he) ((C0.2.2.2.2.2.2.1.1.2 0 _ rfl).1 (hN h a) (fun j => .int (hI h a j))) (fun q => by cases q) (by show ¬ (i < 0 ∨ (arrV _ _ _).slots.size ≤ _); rw [arrV_size]; exact hi) rfl rfl hd fun H1 e1 z oq => ?_
  refine arr_putZ (h' := sI h a i.toNatClampNeg x) C0 hend hW hS hL h1 h2 ha (by omega) (by omega) rfl rfl (fun j hj => cE_sI hj) ?_ z oq (hk _ _ _ _ _ _ hq4)
  rw [arE_i (h := sI h a i.toNatClampNeg x) ha (by omega) (by omega) (by omega), e1]
  show some ((vp_cell _ (hN h a, .inl (hI h a))).setSlot _ _) = some (vp_cell _ (hN h a, .inl (up2 (hI h) a i.toNatClampNeg x a)))
  rw [vp_cell_i, vp_cell_i, arrV_store]
  congr 2
  funext q
  by_cases hqq : q = i.toNatClampNeg
  · subst hqq; simp [updV, up2]
  · simp [updV, up2, hqq]
theorem so_bastoreZ (hd : decode (mC mi) pc = .ok (.bastore, 1)) (hk : KOKZ l D cy base ext sc k mi (pc + 1)) (hq : (pI st fun x st => pI st fun i st => pA st fun a st => if kd h a = 15 ∧ (x = 0 ∨ x = 1) ∧ ¬ (i < 0 ∨ hN h a ≤ i.toNatClampNeg) then k lv st cu su (sI h a i.toNatClampNeg x) else none) = some res) : RWZ l D cy base ext sc mi pc lv st cu su h res := by
  obtain ⟨x, st1, rfl, hq1⟩ := pI_some hq
  obtain ⟨i, st2, rfl, hq2⟩ := pI_some hq1
  obtain ⟨a, st3, rfl, hq3⟩ := pA_some hq2
  obtain ⟨⟨ha, hx, hi⟩, hq4⟩ := if_some hq3
  intro p e s m args below meth c Q C0 hend H locs ls hW hS hL h1 h2
  have e0 : adr base ext a = base + a := adr_kd ha (by omega) hW.2.1
  have he := arr_at (cy := cy) (base := base) (ext := ext) ha (by omega) (by omega)
  rw [arE_i ha (by omega) (by omega) (by omega)] at he
  show W p l e (mRoom mi) s m args below meth c H locs cu su Q (F0 m pc ls (Value.int x :: Value.int i :: Value.ref (adr base ext a) :: st3.map (tr base ext)))
  rw [e0]
  refine W.zast C0.1 C0.2.1 (hW.1 a _ he) ((C0.2.2.2.2.2.2.1.1.2 2 _ rfl).1 (hN h a) (fun j => .int (hI h a j))) (fun q => by cases q) (by show ¬ (i < 0 ∨ (arrV _ _ _).slots.size ≤ _); rw [arrV_size]; exact hi) rfl rfl hd fun H1 e1 z oq => ?_
  refine arr_putZ (h' := sI h a i.toNatClampNeg x) C0 hend hW hS hL h1 h2 ha (by omega) (by omega) rfl rfl (fun j hj => cE_sI hj) ?_ z oq (hk _ _ _ _ _ _ hq4)
  rw [arE_i (h := sI h a i.toNatClampNeg x) ha (by omega) (by omega) (by omega), e1]
  have en : narrow .boolean (.int x) = .int x := by rcases hx with rfl | rfl <;> rfl
  show some ((vp_cell _ (hN h a, .inl (hI h a))).setSlot _ (narrow .boolean (.int x))) = some (vp_cell _ (hN h a, .inl (up2 (hI h) a i.toNatClampNeg x a)))
  rw [en, vp_cell_i, vp_cell_i, arrV_store]
  congr 2
  funext q
  by_cases hqq : q = i.toNatClampNeg
  · subst hqq; simp [updV, up2]
  · simp [updV, up2, hqq]
theorem so_lastoreZ (hd : decode (mC mi) pc = .ok (.lastore, 1)) (hk : KOKZ l D cy base ext sc k mi (pc + 1)) (hq : (pJ st fun x st => pI st fun i st => pA st fun a st => if kd h a = 14 ∧ ¬ (i < 0 ∨ hN h a ≤ i.toNatClampNeg) then k lv st cu su (sJ h a i.toNatClampNeg x) else none) = some res) : RWZ l D cy base ext sc mi pc lv st cu su h res := by
  obtain ⟨x, st1, rfl, hq1⟩ := pJ_some hq
  obtain ⟨i, st2, rfl, hq2⟩ := pI_some hq1
  obtain ⟨a, st3, rfl, hq3⟩ := pA_some hq2
  obtain ⟨⟨ha, hi⟩, hq4⟩ := if_some hq3
  intro p e s m args below meth c Q C0 hend H locs ls hW hS hL h1 h2
  have e0 : adr base ext a = base + a := adr_kd ha (by omega) hW.2.1
  have he := arr_at (cy := cy) (base := base) (ext := ext) ha (by omega) (by omega)
  rw [arE_j ha] at he
  show W p l e (mRoom mi) s m args below meth c H locs cu su Q (F0 m pc ls (Value.long x :: Value.int i :: Value.ref (adr base ext a) :: st3.map (tr base ext)))
  rw [e0]
  refine W.last C0.1 C0.2.1 (hW.1 a _ he) ((C0.2.2.2.2.2.2.1.1.2 1 _ rfl).1 (hN h a) (fun j => .long (hJ h a j))) (fun q => by cases q) (by show ¬ (i < 0 ∨ (arrV _ _ _).slots.size ≤ _); rw [arrV_size]; exact hi) rfl rfl hd fun H1 e1 z oq => ?_
  refine arr_putZ (h' := sJ h a i.toNatClampNeg x) C0 hend hW hS hL h1 h2 ha (by omega) (by omega) rfl rfl (fun j hj => cE_sJ hj) ?_ z oq (hk _ _ _ _ _ _ hq4)
  rw [arE_j (h := sJ h a i.toNatClampNeg x) ha, e1]
  show some ((vp_cell _ (hN h a, .inr (.inl (hJ h a)))).setSlot _ _) = some (vp_cell _ (hN h a, .inr (.inl (up2 (hJ h) a i.toNatClampNeg x a))))
  rw [vp_cell_l, vp_cell_l, arrV_store]
  congr 2
  funext q
  by_cases hqq : q = i.toNatClampNeg
  · subst hqq; simp [updV, up2]
  · simp [updV, up2, hqq]
theorem so_aastoreZ (hd : decode (mC mi) pc = .ok (.aastore, 1)) (hk : KOKZ l D cy base ext sc k mi (pc + 1)) (hq : (pA st fun x st => pI st fun i st => pA st fun a st => if kd h a = 16 ∧ kd h x = 8 ∧ ¬ (i < 0 ∨ hN h a ≤ i.toNatClampNeg) then k lv st cu su (sR h a i.toNatClampNeg (x + 1)) else none) = some res) : RWZ l D cy base ext sc mi pc lv st cu su h res := by
  obtain ⟨x, st1, rfl, hq1⟩ := pA_some hq
  obtain ⟨i, st2, rfl, hq2⟩ := pI_some hq1
  obtain ⟨a, st3, rfl, hq3⟩ := pA_some hq2
  obtain ⟨⟨ha, hx, hi⟩, hq4⟩ := if_some hq3
  intro p e s m args below meth c Q C0 hend H locs ls hW hS hL h1 h2
  have e0 : adr base ext a = base + a := adr_kd ha (by omega) hW.2.1
  have ex : adr base ext x = base + x := adr_kd hx (by omega) hW.2.1
  have he := arr_at (cy := cy) (base := base) (ext := ext) ha (by omega) (by omega)
  rw [arE_r ha] at he
  have hxl := kd_in hx (by omega)
  have hv : (pl cy base ext h)[x]? = some (base + x, .inr (8, oc base ext h x 8)) := by rw [pl_at hxl.1, cE_obj hxl.2 (by omega)]
  show W p l e (mRoom mi) s m args below meth c H locs cu su Q (F0 m pc ls (Value.ref (adr base ext x) :: Value.int i :: Value.ref (adr base ext a) :: st3.map (tr base ext)))
  rw [e0, ex]
  have hlt : i.toNatClampNeg < hN h a := Nat.not_le.mp fun q => hi (Or.inr q)
  have h0 : ¬ i < 0 := fun q => hi (Or.inl q)
  obtain ⟨r', hr', cellV, g1, g2, g3, -⟩ := hW.1 x _ hv
  have hcls := (C0.2.2.2.2.2.2.1.1.1 8 _ rfl).2
  obtain ⟨kA, comp, k1, k2, k3, -⟩ := (C0.2.2.2.2.2.2.1.1.2 3 _ rfl).2
  have hcomp : comp = D.1 8 := Option.some.inj (k3.symm.trans hcls.1)
  subst hcomp
  obtain ⟨kC, hkC, hkk⟩ := hcls.2
  refine W.aast C0.1 C0.2.1 (hW.1 a _ he) (fun q h => by cases h) (fun h => by cases h) k1 k2 rfl hkC ⟨h0, by show _ < (arrV _ _ _).slots.size; rw [arrV_size]; exact hlt⟩ g1 (fun q h => by rw [g3] at h; cases h) (by rw [g2]; exact hkC) (by rw [g2]; exact va_assign hcls) rfl rfl hd fun H1 e1 z oq => ?_
  refine arr_putZ (h' := sR h a i.toNatClampNeg (x + 1)) C0 hend hW hS hL h1 h2 ha (by omega) (by omega) rfl rfl (fun j hj => cE_sR hj) ?_ z oq (hk _ _ _ _ _ _ hq4)
  rw [arE_r (h := sR h a i.toNatClampNeg (x + 1)) ha, e1]
  show some ((vp_cell _ (hN h a, .inr (.inr (.inr (.inr (fun j => rfo base ext (hR h a j))))))).setSlot _ _) = some (vp_cell _ (hN h a, .inr (.inr (.inr (.inr (fun j => rfo base ext (up2 (hR h) a i.toNatClampNeg (x + 1) a j)))))))
  rw [vp_cell_q, vp_cell_q, arrV_store]
  congr 2
  funext q
  by_cases hqq : q = i.toNatClampNeg
  · subst hqq; simp [updV, up2, rfo, va_rf, ex]
  · simp [updV, up2, hqq]
end ArrAZ
section AllocAZ
variable {l : Launch} {D : va_G} {cy : Nat → ClassId} {base : Nat} {ext : Nat → Nat} {sc : Nat × (Nat → Int32)} {rec : Rec} {k : Knt} {mi pc : Nat} {lv : Lv} {st : List Value} {cu su : Nat} {h : Hp} {res : Hp × Option Value}
/-- behind a new cell the run goes on -/
theorem new_goZ {p : Program} {e : Env} {s : State} {m : MethodId} {args : Array Value} {below : List Frame} {meth : Method} {c : Code} {Q : State → Prop} {H H' : Heap} {locs : List Loc} {ls : Array Slot} {kk n pc' nn : Nat} (C0 : CxZ D cy base ext sc p s m args meth c mi) (hend : ∀ (pc : Nat) (ls : Array Slot) (H : Heap) (locs : List Loc) (cu su : Nat), WHp D cy base ext res.1 H → va_S (fun q => base ≤ q) s.heap H locs → cu ≤ mP mi 7 → su ≤ mP mi 8 → retAt mi pc res.2 → W p l e (mRoom mi) s m args below meth c H locs cu su Q (F0 m pc ls (res.2.toList.map (tr base ext))))
    (hW : WHp D cy base ext h H) (hS : va_S (fun q => base ≤ q) s.heap H locs) (hL : LvOK base ext ls (mL mi) lv (LSm mi)) (h1 : cu + 1 ≤ mP mi 7) (h2 : su + nn ≤ mP mi 8) (hlt : hn h < 240) (hnew : va_at D vwCl (base + hn h, cE cy base ext (alloc h kk n) (hn h)) H') (hsz : H'.size = H.size + 1) (hold : ∀ q, q < H.size → H'[q]? = H[q]?) (hk : RWZ l D cy base ext sc mi pc' lv (.ref (hn h) :: st) (cu + 1) (su + nn) (alloc h kk n) res) : W p l e (mRoom mi) s m args below meth c H' locs (cu + 1) (su + nn) Q (F0 m pc' ls (.ref H.size :: st.map (tr base ext))) := by
  have e0 : H.size = adr base ext (hn h) := by rw [adr_in (by omega)]; exact hW.2.2 hlt
  rw [e0]
  exact hk p e s m args below meth c Q C0 hend H' locs ls (WHp_push hW hlt rfl (fun i hi => cE_alloc hi) hnew hsz hold) ⟨by rw [hsz]; exact Nat.le_succ_of_le hS.1, fun q q1 q2 => (hold q (Nat.lt_of_lt_of_le q1 hS.1)).trans (hS.2.1 q q1 q2), hS.2.2⟩ hL h1 h2
theorem so_newarrayZ {t : ArrayType} {c2 s2 : Nat} (hd : decode (mC mi) pc = .ok (.newarray t, 2)) (hk : KOKZ l D cy base ext sc k mi (pc + 2)) (hc2 : c2 = mP mi 7) (hs2 : s2 = mP mi 8) (ht : t = .int ∨ t = .long ∨ t = .boolean)
    (hq : (pI st fun n st => if ¬ n < 0 ∧ n.toNatClampNeg ≤ 100000 ∧ cu + 1 ≤ c2 ∧ su + n.toNatClampNeg ≤ s2 ∧ hn h < 240 then k lv (.ref (hn h) :: st) (cu + 1) (su + n.toNatClampNeg) (alloc h (match t with | .int => 13 | .long => 14 | _ => 15) n.toNatClampNeg) else none) = some res) : RWZ l D cy base ext sc mi pc lv st cu su h res := by
  obtain ⟨n, st1, rfl, hq1⟩ := pI_some hq
  obtain ⟨⟨g1, g2, g3, g4, g5⟩, hq2⟩ := if_some hq1
  subst hc2; subst hs2
  intro p e s m args below meth c Q C0 hend H locs ls hW hS hL h1 h2
  have tyc : ∀ (ty : FieldType) (i : Nat) (cA : ClassId), (tysE cy)[i]? = some (cy i, ty) → (∀ C, ty ≠ .object C) → s.vm.findClass ("[" ++ ty.toString) = some cA → cA = cy i := by
    intro ty i cA hi hno hf
    have h9 := (C0.2.2.2.2.2.2.1.1.2 i _ hi).2
    cases ty with
    | object C => exact absurd rfl (hno C)
    | _ => exact Option.some.inj (hf.symm.trans h9)
  rcases ht with rfl | rfl | rfl
  · refine va_newaK (atype := .int) C0.1 C0.2.1 (C0.2.2.2.2.1 _ aw_i) rfl hd rfl g1 rfl (by show _ * 4 ≤ _; omega) g3 g4 rfl fun H' cA e1 e2 e3 _ e5 => ?_
    have ec := tyc .int 0 cA rfl (fun C q => by cases q) e5
    subst ec
    refine new_goZ C0 hend hW hS hL g3 g4 g5 ?_ e2 e3 (hk _ _ _ _ _ _ hq2)
    rw [cE_arr (by rw [hK_alloc]; decide), hK_alloc]
    show H'[base + hn h]? = some (vp_cell _ (arE base ext _ _))
    rw [← hW.2.2 g5, e1]
    simp only [arE, hK_alloc, hN_alloc, hI_alloc]
    rfl
  · refine va_newaK (atype := .long) C0.1 C0.2.1 (C0.2.2.2.2.1 _ aw_j) rfl hd rfl g1 rfl (by show _ * 8 ≤ _; omega) g3 g4 rfl fun H' cA e1 e2 e3 _ e5 => ?_
    have ec := tyc .long 1 cA rfl (fun C q => by cases q) e5
    subst ec
    refine new_goZ C0 hend hW hS hL g3 g4 g5 ?_ e2 e3 (hk _ _ _ _ _ _ hq2)
    rw [cE_arr (by rw [hK_alloc]; decide), hK_alloc]
    show H'[base + hn h]? = some (vp_cell _ (arE base ext _ _))
    rw [← hW.2.2 g5, e1]
    simp only [arE, hK_alloc, hN_alloc, hJ_alloc]
    rfl
  · refine va_newaK (atype := .boolean) C0.1 C0.2.1 (C0.2.2.2.2.1 _ aw_z) rfl hd rfl g1 rfl (by show _ * 1 ≤ _; omega) g3 g4 rfl fun H' cA e1 e2 e3 _ e5 => ?_
    have ec := tyc .boolean 2 cA rfl (fun C q => by cases q) e5
    subst ec
    refine new_goZ C0 hend hW hS hL g3 g4 g5 ?_ e2 e3 (hk _ _ _ _ _ _ hq2)
    rw [cE_arr (by rw [hK_alloc]; decide), hK_alloc]
    show H'[base + hn h]? = some (vp_cell _ (arE base ext _ _))
    rw [← hW.2.2 g5, e1]
    simp only [arE, hK_alloc, hN_alloc, hI_alloc]
    rfl
theorem so_anewZ {ix pos c2 s2 : Nat} (hd : decode (mC mi) pc = .ok (.anewarray ix, 3)) (hk : KOKZ l D cy base ext sc k mi (pc + 3)) (hc2 : c2 = mP mi 7) (hs2 : s2 = mP mi 8) (hlk : lw_tbl[pos]? = some (.classLink (ownS (mO mi)) ix "AskedCourt$State"))
    (hq : (pI st fun n st => if ¬ n < 0 ∧ n.toNatClampNeg ≤ 100000 ∧ cu + 1 ≤ c2 ∧ su + n.toNatClampNeg ≤ s2 ∧ hn h < 240 then k lv (.ref (hn h) :: st) (cu + 1) (su + n.toNatClampNeg) (alloc h 16 n.toNatClampNeg) else none) = some res) : RWZ l D cy base ext sc mi pc lv st cu su h res := by
  obtain ⟨n, st1, rfl, hq1⟩ := pI_some hq
  obtain ⟨⟨g1, g2, g3, g4, g5⟩, hq2⟩ := if_some hq1
  subst hc2; subst hs2
  intro p e s m args below meth c Q C0 hend H locs ls hW hS hL h1 h2
  refine W.anew C0.1 C0.2.1 C0.2.2.2.1 (C0.2.2.2.2.1 _ (tw_at pos hlk rfl)) (va_AO.use C0.2.2.2.2.2.2.1.2.2.1) rfl hd rfl g1 (by omega) g3 g4 fun cA kA comp f1 f2 f3 f4 => ?_
  obtain ⟨kA', comp', k1, k2, k3, k4⟩ := (C0.2.2.2.2.2.2.1.1.2 3 _ rfl).2
  have ec : cA = cy 3 := Option.some.inj (f1.symm.trans k4)
  subst ec
  refine new_goZ C0 hend hW hS hL g3 g4 g5 ?_ (by rw [Array.size_push]) (fun q hq => by rw [Array.getElem?_push, if_neg (Nat.ne_of_lt hq)]) (hk _ _ _ _ _ _ hq2)
  rw [cE_arr (by rw [hK_alloc]; decide), hK_alloc]
  show (H.push _)[base + hn h]? = some (vp_cell _ (arE base ext _ _))
  have e7 : vp_cell (cy (16 - 13)) (arE base ext (alloc h 16 n.toNatClampNeg) (hn h)) = arrV (cy 3) n.toNatClampNeg (fun _ => .null) := by
    simp only [arE, hK_alloc, hN_alloc, hR_alloc]
    rfl
  rw [← hW.2.2 g5, Array.getElem?_push_size]
  refine congrArg some ?_
  refine Eq.trans ?_ e7.symm
  rw [← arrV_new]
theorem so_newZ {ix ci nf c2 s2 p1 p2 p3 : Nat} {C : String} {T : u_T} {N : Nat} (hd : decode (mC mi) pc = .ok (.new ix, 3)) (hk : KOKZ l D cy base ext sc k mi (pc + 3)) (hc2 : c2 = mP mi 7) (hs2 : s2 = mP mi 8) (hc : vwCl[ci]? = some (C, T, N)) (hnf : nf = N) (w1 : lw_tbl[p1]? = some (.classLink (ownS (mO mi)) ix C)) (w2 : lw_tbl[p2]? = some (.instantiable C N)) (w3 : lw_tbl[p3]? = some (.initialized C))
    (hq : (if cu + 1 ≤ c2 ∧ su + nf ≤ s2 ∧ hn h < 240 then k lv (.ref (hn h) :: st) (cu + 1) (su + nf) (alloc h ci 0) else none) = some res) : RWZ l D cy base ext sc mi pc lv st cu su h res := by
  obtain ⟨⟨g3, g4, g5⟩, hq2⟩ := if_some hq
  subst hc2; subst hs2; subst hnf
  intro p e s m args below meth c Q C0 hend H locs ls hW hS hL h1 h2
  have hKn := C0.2.2.2.2.2.2.1.1.1 ci _ hc
  refine W.newcK C0.1 C0.2.1 C0.2.2.2.1 (C0.2.2.2.2.1 _ (tw_at p1 w1 rfl)) (C0.2.2.2.2.1 _ (tw_at p2 w2 rfl)) (C0.2.2.2.2.1 _ (tw_at p3 w3 rfl)) rfl hd g3 g4 hKn.2.1 rfl fun H1 kC hkC e1 z1 o1 => ?_
  refine new_goZ C0 hend hW hS hL g3 g4 g5 ?_ z1 o1 (hk _ _ _ _ _ _ hq2)
  rw [cE_obj hK_alloc (cl_lt hc)]
  rw [hW.2.2 g5] at e1
  exact ⟨_, hc, (u_born (clT ci) C0.2.2.2.2.1 (tw_cl ci _ hc) hKn hkC e1 (cl_ty ci _ hc)).to (born_ok hc)⟩
theorem so_objInitZ {ix p1 p2 p3 : Nat} (hd : decode (mC mi) pc = .ok (.invokespecial ix, 3)) (hk : KOKZ l D cy base ext sc k mi (pc + 3)) (w1 : lw_tbl[p1]? = some (.methodLink (ownS (mO mi)) ix objectInit)) (w2 : lw_tbl[p2]? = some (.instanceMethod objectInit)) (w3 : lw_tbl[p3]? = some (.code objectInit ⟨#[0xb1]⟩ 1 none)) (r1 : 1 ≤ mP mi 5) (r2 : 12 ≤ mP mi 6)
    (hq : (pA st fun _ st => match st with
      | [] => k lv [] cu su h
      | _ => none) = some res) : RWZ l D cy base ext sc mi pc lv st cu su h res := by
  obtain ⟨a, st1, rfl, hq1⟩ := pA_some hq
  cases st1 with
  | cons _ _ => cases hq1
  | nil =>
    intro p e s m args below meth c Q C0 hend H locs ls hW hS hL h1 h2
    refine W.objInit C0.1 C0.2.1 C0.2.2.2.1 (C0.2.2.2.2.1 _ (tw_at p1 w1 rfl)) (C0.2.2.2.2.1 _ (tw_at p2 w2 rfl)) (C0.2.2.2.2.1 _ (tw_at p3 w3 rfl)) rfl (by rw [C0.2.2.1]; exact hL.2.1) rfl hd r1 (by show 2 * 0 + 0 + 12 ≤ _; exact r2) ?_
    exact hk _ _ _ _ _ _ hq1 p e s m args below meth c Q C0 hend H locs ls hW hS hL h1 h2
theorem so_minZ {ix p1 p2 p3 p4 : Nat} (hd : decode (mC mi) pc = .ok (.invokestatic ix, 3)) (hk : KOKZ l D cy base ext sc k mi (pc + 3)) (w1 : lw_tbl[p1]? = some (.methodLink (ownS (mO mi)) ix Lib.Math.min.name)) (w2 : lw_tbl[p2]? = some (.static Lib.Math.min.name)) (w3 : lw_tbl[p3]? = some (.initialized "java/lang/Math")) (w4 : lw_tbl[p4]? = some (.code Lib.Math.min.name Lib.Math.min.code 2 (some .int))) (r1 : 1 ≤ mP mi 5) (r2 : 21 ≤ mP mi 6)
    (hq : (pI st fun y st => pI st fun x st => if (st.map fun v => v.category).sum ≤ 8 then k lv (.int (if y < x then y else x) :: st) cu su h else none) = some res) : RWZ l D cy base ext sc mi pc lv st cu su h res := by
  obtain ⟨y, st1, rfl, hq1⟩ := pI_some hq
  obtain ⟨x, st2, rfl, hq2⟩ := pI_some hq1
  obtain ⟨hs, hq3⟩ := if_some hq2
  intro p e s m args below meth c Q C0 hend H locs ls hW hS hL h1 h2
  exact va_mmin C0.1 C0.2.1 (by rw [C0.2.2.1]; exact hL.2.1.symm) C0.2.2.2.1 (C0.2.2.2.2.1 _ (tw_at p1 w1 rfl)) (C0.2.2.2.2.1 _ (tw_at p2 w2 rfl)) (C0.2.2.2.2.1 _ (tw_at p3 w3 rfl)) (C0.2.2.2.2.1 _ (tw_at p4 w4 rfl)) r1 (by simp only [List.map_map, Function.comp_def, tr_cat]; exact Nat.le_trans (Nat.add_le_add_right hs 13) r2) h1 h2 hd (hk _ _ _ _ _ _ hq3 p e s m args below meth c Q C0 hend H locs ls hW hS hL h1 h2)
theorem so_maxZ {ix p1 p2 p3 p4 : Nat} (hd : decode (mC mi) pc = .ok (.invokestatic ix, 3)) (hk : KOKZ l D cy base ext sc k mi (pc + 3)) (w1 : lw_tbl[p1]? = some (.methodLink (ownS (mO mi)) ix Lib.Math.max.name)) (w2 : lw_tbl[p2]? = some (.static Lib.Math.max.name)) (w3 : lw_tbl[p3]? = some (.initialized "java/lang/Math")) (w4 : lw_tbl[p4]? = some (.code Lib.Math.max.name Lib.Math.max.code 2 (some .int))) (r1 : 1 ≤ mP mi 5) (r2 : 21 ≤ mP mi 6)
    (hq : (pI st fun y st => pI st fun x st => if (st.map fun v => v.category).sum ≤ 8 then k lv (.int (if x < y then y else x) :: st) cu su h else none) = some res) : RWZ l D cy base ext sc mi pc lv st cu su h res := by
  obtain ⟨y, st1, rfl, hq1⟩ := pI_some hq
  obtain ⟨x, st2, rfl, hq2⟩ := pI_some hq1
  obtain ⟨hs, hq3⟩ := if_some hq2
  intro p e s m args below meth c Q C0 hend H locs ls hW hS hL h1 h2
  exact va_mmax C0.1 C0.2.1 (by rw [C0.2.2.1]; exact hL.2.1.symm) C0.2.2.2.1 (C0.2.2.2.2.1 _ (tw_at p1 w1 rfl)) (C0.2.2.2.2.1 _ (tw_at p2 w2 rfl)) (C0.2.2.2.2.1 _ (tw_at p3 w3 rfl)) (C0.2.2.2.2.1 _ (tw_at p4 w4 rfl)) r1 (by simp only [List.map_map, Function.comp_def, tr_cat]; exact Nat.le_trans (Nat.add_le_add_right hs 13) r2) h1 h2 hd (hk _ _ _ _ _ _ hq3 p e s m args below meth c Q C0 hend H locs ls hW hS hL h1 h2)
theorem so_tableZ {d lo hi : Int} {offs : Array Int} {len dd : Nat} {ts : List Nat} (hd : decode (mC mi) pc = .ok (.tableswitch d lo hi offs, len)) (hr : ROKZ l D cy base ext sc rec mi) (t1 : (pc : Int) + d = (dd : Int)) (t2 : ts.map (fun (t : Nat) => (t : Int) - (pc : Int)) = offs.toList) (t3 : (offs.toList.length : Int) = hi - lo + 1)
    (hq : (pI st fun x st => if x.toInt < lo ∨ hi < x.toInt then rec mi dd lv st cu su h else rec mi (ts.getD (x.toInt - lo).toNat 0) lv st cu su h) = some res) : RWZ l D cy base ext sc mi pc lv st cu su h res := by
  obtain ⟨x, st1, rfl, hq1⟩ := pI_some hq
  intro p e s m args below meth c Q C0 hend H locs ls hW hS hL h1 h2
  by_cases hx : x.toInt < lo ∨ hi < x.toInt
  · rw [if_pos hx] at hq1
    exact lv_tableOut C0.1 C0.2.1 hd hx t1 (hr _ _ _ _ _ _ _ hq1 p e s m args below meth c Q C0 hend H locs ls hW hS hL h1 h2)
  · rw [if_neg hx] at hq1
    have g1 : ¬ x.toInt < lo := fun q => hx (Or.inl q)
    have g2 : ¬ hi < x.toInt := fun q => hx (Or.inr q)
    have hl : (x.toInt - lo).toNat < ts.length := by
      have := congrArg List.length t2
      rw [List.length_map] at this
      omega
    have ho : offs[(x.toInt - lo).toNat]? = some ((ts.getD (x.toInt - lo).toNat 0 : Nat) - (pc : Int)) := by
      rw [← Array.getElem?_toList, ← t2, List.getElem?_map, List.getElem?_eq_getElem hl, getD_lt hl]
      rfl
    exact lv_tableIn C0.1 C0.2.1 hd g1 g2 ho (by omega) (hr _ _ _ _ _ _ _ hq1 p e s m args below meth c Q C0 hend H locs ls hW hS hL h1 h2)
theorem so_lookupZ {d : Int} {ps : Array (Int × Int)} {len dd : Nat} {ts : List Nat} (hd : decode (mC mi) pc = .ok (.lookupswitch d ps, len)) (hr : ROKZ l D cy base ext sc rec mi) (t1 : (pc : Int) + d = (dd : Int)) (t2 : ts.map (fun (t : Nat) => (t : Int) - (pc : Int)) = ps.toList.map (fun q => q.2)) (t3 : (ps.toList.zip (ps.toList.drop 1)).all (fun (a, next) => a.1 < next.1) = true)
    (hq : (pI st fun x st => rec mi (lsw ps.toList ts dd x.toInt) lv st cu su h) = some res) : RWZ l D cy base ext sc mi pc lv st cu su h res := by
  obtain ⟨x, st1, rfl, hq1⟩ := pI_some hq
  intro p e s m args below meth c Q C0 hend H locs ls hW hS hL h1 h2
  exact lv_lookup C0.1 C0.2.1 hd t3 rfl (lsw_off _ _ _ _ _ _ t1 t2) (hr _ _ _ _ _ _ _ hq1 p e s m args below meth c Q C0 hend H locs ls hW hS hL h1 h2)
end AllocAZ
def PCZ (D : va_G) (cy : Nat → ClassId) (base : Nat) (ext : Nat → Nat) (vs : List Value) (h : Hp) : Array Value → State → Prop := va_Pc (vs.map (tr base ext)) (fun U => WHp D cy base ext h U.heap ∧ KSZ base D cy U ∧ base ≤ U.heap.size)
def CtZ (l : Launch) (D : va_G) (cy : Nat → ClassId) (base : Nat) (ext : Nat → Nat) (cm : Nat) (vs : List Value) (h : Hp) (res : Hp × Option Value) : Prop := Met l (mY cm) (wsm cm) (mRoom cm) (PCZ D cy base ext vs h) (QC D cy base ext res) (mP cm 7) (mP cm 8) (fun q => base ≤ q)
section CallAZ
variable {l : Launch} {D : va_G} {cy : Nat → ClassId} {base : Nat} {ext : Nat → Nat} {sc : Nat × (Nat → Int32)} {rec : Rec} {k : Knt} {mi pc : Nat} {lv : Lv} {st : List Value} {cu su : Nat} {h : Hp} {res : Hp × Option Value}
theorem PC_blindZ {vs : List Value} : FrameBlind (PCZ D cy base ext vs h) := fun a U g mk q => ⟨q.1, q.2.1, KSZ.same (u := U) (U := U.calling g mk a) rfl rfl q.2.2.1, q.2.2.2⟩
/-- the pieces that every call needs -/
theorem call_preZ {p : Program} {s : State} {m : MethodId} {args : Array Value} {meth : Method} {c : Code} {H : Heap} {vs : List Value} {locs : List Loc} (C0 : CxZ D cy base ext sc p s m args meth c mi) (hW : WHp D cy base ext h H) (hS : va_S (fun q => base ≤ q) s.heap H locs) : ∀ U : State, U.heap = H → s.WarmedH U.vm → PCZ D cy base ext vs h (vs.map (tr base ext)).toArray U := fun U hU hWm => ⟨rfl, by rw [hU]; exact hW, KSZ.warm hWm (fun a h1 h2 => by rw [hU]; exact hS.2.1 a h1 h2) C0.2.2.2.2.2.2.1, by rw [hU]; exact Nat.le_trans C0.2.2.2.2.2.2.2.1 hS.1⟩
/-- a call, whatever its kind -/
theorem so_callZ {cm na ml c1 s1 c2 s2 : Nat} {ok : List Value → Bool} (hml : ml = mL cm) (hc1 : c1 = mP cm 7) (hs1 : s1 = mP cm 8) (hc2 : c2 = mP mi 7) (hs2 : s2 = mP mi 8) (hk : KOKZ l D cy base ext sc k mi (pc + 3))
    (hcal : ∀ (as : List Value) (rs : Hp × Option Value), (lvE as (mL cm)).length = mL cm → rec cm 0 (lvE as (mL cm)) [] 0 0 h = some rs → (as.all (fun v => v.category == 1) = true ∨ lsOK (LSm cm) (lvE as (mL cm)) = true) → CtZ l D cy base ext cm as h rs)
    (hrun : ∀ (as rest : List Value) (rs : Hp × Option Value), as.length = na → ok as = true → (rest.map fun v => v.category).sum ≤ 8 → cu + mP cm 7 ≤ mP mi 7 → su + mP cm 8 ≤ mP mi 8 → CtZ l D cy base ext cm as h rs → ∀ (p : Program) (e : Env) (s : State) (m : MethodId) (args : Array Value) (below : List Frame) (meth : Method) (c : Code), CxZ D cy base ext sc p s m args meth c mi → ∀ (H : Heap) (locs : List Loc) (ls : Array Slot), WHp D cy base ext h H → va_S (fun q => base ≤ q) s.heap H locs → LvOK base ext ls (mL mi) lv (LSm mi) → va_Run p l e (mRoom mi) s m args below meth c H locs cu su (mP cm 7) (mP cm 8) (F0 m pc ls ((as.reverse ++ rest).map (tr base ext))) (rest.map (tr base ext)) (QC D cy base ext rs (as.map (tr base ext)).toArray) (fun q => base ≤ q))
    (hq : doCall rec k cm na ml c1 s1 c2 s2 ok lv st cu su h = some res) : RWZ l D cy base ext sc mi pc lv st cu su h res := by
  subst hml; subst hc1; subst hs1; subst hc2; subst hs2
  unfold doCall at hq
  obtain ⟨⟨g1, g2, g3, g4, g5, g6, g7⟩, hq1⟩ := if_some hq
  cases hrec : rec cm 0 (lvE (st.take na).reverse (mL cm)) [] 0 0 h with
  | none => rw [hrec] at hq1; cases hq1
  | some rs =>
    rw [hrec] at hq1
    obtain ⟨h', r⟩ := rs
    have hq2 : k lv (r.toList ++ st.drop na) (cu + mP cm 7) (su + mP cm 8) h' = some res := hq1
    have hM := hcal _ _ g6 hrec (by rw [List.all_reverse]; exact g7)
    intro p e s m args below meth c Q C0 hend H locs ls hW hS hL h1 h2
    have hst : st = (st.take na).reverse.reverse ++ st.drop na := by rw [List.reverse_reverse, List.take_append_drop]
    have hR := hrun (st.take na).reverse (st.drop na) (h', r) (by rw [List.length_reverse, List.length_take]; omega) g2 g3 g4 g5 hM p e s m args below meth c C0 H locs ls hW hS hL
    rw [← hst] at hR
    refine call_go hR hS (fun H1 locs1 hW1 hS1 => ?_)
    have hnx := hk _ _ _ _ _ _ hq2 p e s m args below meth c Q C0 hend H1 locs1 ls hW1 hS1 hL g4 g5
    rw [List.map_append] at hnx
    have e3 : (r.map (tr base ext)).toList = r.toList.map (tr base ext) := by cases r <;> rfl
    show W p l e (mRoom mi) s m args below meth c H1 locs1 _ _ Q (F0 m (pc + 3) ls ((r.map (tr base ext)).toList ++ (st.drop na).map (tr base ext)))
    rw [e3]
    exact hnx
theorem run_VZ {cm ix pos rc : Nat} {as rest : List Value} {rs : Hp × Option Value} (hd : decode (mC mi) pc = .ok (.invokevirtual ix, 3)) (hF : mF cm = 1) (hlk : lw_tbl[pos]? = some (.methodLink (ownS (mO mi)) ix (mY cm))) (hrc : rc < 13) (hrc2 : rc = mO cm) (r1 : mP cm 5 + 1 ≤ mP mi 5) (r2 : 8 + (mL cm + 11) + mP cm 6 ≤ mP mi 6)
    (hlen : as.length = mP cm 4 + 1) (hok : (match (generalizing := false) as with | .ref a :: _ => kd h a == rc | _ => false) = true) (h8 : (rest.map fun v => v.category).sum ≤ 8) (g4 : cu + mP cm 7 ≤ mP mi 7) (g5 : su + mP cm 8 ≤ mP mi 8) (hM : CtZ l D cy base ext cm as h rs) {p : Program} {e : Env} {s : State} {m : MethodId} {args : Array Value} {below : List Frame} {meth : Method} {c : Code} (C0 : CxZ D cy base ext sc p s m args meth c mi) {H : Heap} {locs : List Loc} {ls : Array Slot} (hW : WHp D cy base ext h H) (hS : va_S (fun q => base ≤ q) s.heap H locs) (hL : LvOK base ext ls (mL mi) lv (LSm mi)) :
    va_Run p l e (mRoom mi) s m args below meth c H locs cu su (mP cm 7) (mP cm 8) (F0 m pc ls ((as.reverse ++ rest).map (tr base ext))) (rest.map (tr base ext)) (QC D cy base ext rs (as.map (tr base ext)).toArray) (fun q => base ≤ q) := by
  obtain ⟨f1, f2, -, f4, f5, -, f7, f8, f9, f10, -⟩ := m_facts hF (by omega)
  cases as with
  | nil => cases hok
  | cons v0 As =>
    cases v0 with
    | ref a =>
      have ha : kd h a = rc := by simpa using hok
      have e0 : adr base ext a = base + a := adr_kd ha (by omega) hW.2.1
      have hal := kd_in ha (by omega)
      have he : (pl cy base ext h)[a]? = some (base + a, .inr (rc, oc base ext h a rc)) := by rw [pl_at hal.1, cE_obj hal.2 hrc]
      obtain ⟨q, hq⟩ : ∃ q, vwCl[rc]? = some q := ⟨_, List.getElem?_eq_getElem (by exact hrc)⟩
      have hqn : q.1 = (mY cm).cls := by
        rw [f7, ← hrc2]
        match rc, hq with
        | 0, h => cases h; rfl
        | 1, h => cases h; rfl
        | 2, h => cases h; rfl
        | 3, h => cases h; rfl
        | 4, h => cases h; rfl
        | 5, h => cases h; rfl
        | 6, h => cases h; rfl
        | 7, h => cases h; rfl
        | 8, h => cases h; rfl
        | 9, h => cases h; rfl
        | 10, h => cases h; rfl
        | 11, h => cases h; rfl
        | 12, h => cases h; rfl
        | n + 13, h => simp [vwCl] at h
      have hT : GoodIn TW (wsV (ownS (mO mi)) ix (mY cm).cls (mY cm) (wsm cm)) := by
        intro w hw
        rcases List.mem_append.mp hw with hw | hw
        · simp only [List.mem_cons, List.mem_nil_iff, or_false] at hw
          rcases hw with rfl | rfl | rfl | rfl
          · exact tw_good (tw_at pos hlk rfl)
          · exact tw_good (f4 (by omega))
          · exact tw_good (f5 rfl)
          · exact tw_good f2
        · exact gi_m f1 w hw
      have hrecv := va_recv C0.2.2.2.2.2.2.1.1 hW.1 hq he
      rw [hqn] at hrecv
      have hst : ((Value.ref a :: As).reverse ++ rest).map (tr base ext) = (As.map (tr base ext)).reverse ++ Value.ref (base + a) :: rest.map (tr base ext) := by
        simp [tr, e0]
      rw [hst]
      have := va_runV (As := As.map (tr base ext)) (rest := rest.map (tr base ext)) (b := base + a) (g := F0 m pc ls ((As.map (tr base ext)).reverse ++ Value.ref (base + a) :: rest.map (tr base ext))) (H := H) (locs := locs) (cells := cu) (slots := su) (e := e) (below := below) (meth := meth) (R := mRoom mi) (cc := mC mi) (nL := mL mi) (Ts := TW) (own := ownS (mO mi)) ⟨C0.1, C0.2.1, C0.2.2.1, C0.2.2.2.1, C0.2.2.2.2.1⟩ hM (cwV (mP cm 4) C0.2.2.2.2.1 hT rfl rfl rfl ⟨rfl, f8, f9, f10⟩ ⟨r1, r2⟩) ⟨PC_blindZ, hrecv, fun U hU hWm => by have := call_preZ (vs := .ref a :: As) C0 hW hS U hU hWm; rw [List.map_cons, show tr base ext (.ref a) = .ref (base + a) by simp [tr, e0]] at this; exact this⟩ rfl (by simp at hlen; simpa using hlen) hL.2.1 rfl (lv_room (by simp only [List.map_map, Function.comp_def, tr_cat]; exact h8)) hd ⟨g4, g5⟩
      rw [List.map_cons, show tr base ext (.ref a) = .ref (base + a) by simp [tr, e0]]
      exact this
    | _ => cases hok
end CallAZ
section Snd2Z
variable {l : Launch} {D : va_G} {cy : Nat → ClassId} {base : Nat} {ext : Nat → Nat} {sc : Nat × (Nat → Int32)} {pp : Nat → Nat → Int32 → Int32 → Hp → Option (Hp × Int32)} {rec : Rec} {k : Knt} {mi pc : Nat} {lv : Lv} {st : List Value} {cu su : Nat} {h : Hp} {res : Hp × Option Value}
theorem run_SZ {cm ix pos : Nat} {as rest : List Value} {rs : Hp × Option Value} (hd : decode (mC mi) pc = .ok (.invokestatic ix, 3)) (hF : mF cm = 0) (hlk : lw_tbl[pos]? = some (.methodLink (ownS (mO mi)) ix (mY cm))) (r1 : mP cm 5 + 1 ≤ mP mi 5) (r2 : 8 + (mL cm + 11) + mP cm 6 ≤ mP mi 6)
    (hlen : as.length = mP cm 4) (h8 : (rest.map fun v => v.category).sum ≤ 8) (g4 : cu + mP cm 7 ≤ mP mi 7) (g5 : su + mP cm 8 ≤ mP mi 8) (hM : CtZ l D cy base ext cm as h rs) {p : Program} {e : Env} {s : State} {m : MethodId} {args : Array Value} {below : List Frame} {meth : Method} {c : Code} (C0 : CxZ D cy base ext sc p s m args meth c mi) {H : Heap} {locs : List Loc} {ls : Array Slot} (hW : WHp D cy base ext h H) (hS : va_S (fun q => base ≤ q) s.heap H locs) (hL : LvOK base ext ls (mL mi) lv (LSm mi)) :
    va_Run p l e (mRoom mi) s m args below meth c H locs cu su (mP cm 7) (mP cm 8) (F0 m pc ls ((as.reverse ++ rest).map (tr base ext))) (rest.map (tr base ext)) (QC D cy base ext rs (as.map (tr base ext)).toArray) (fun q => base ≤ q) := by
  obtain ⟨f1, f2, f3, -, -, -, f7, f8, f9, f10, -⟩ := m_facts hF (by omega)
  have hT : GoodIn TW (va_wsS (ownS (mO mi)) ix (mY cm) (wsm cm)) := by
    intro w hw
    rcases List.mem_append.mp hw with hw | hw
    · simp only [List.mem_cons, List.mem_nil_iff, or_false] at hw
      rcases hw with rfl | rfl | rfl
      · exact tw_good (tw_at pos hlk rfl)
      · exact tw_good (f3 rfl)
      · exact tw_good f2
    · exact gi_m f1 w hw
  have hst : (as.reverse ++ rest).map (tr base ext) = (as.map (tr base ext)).reverse ++ rest.map (tr base ext) := by simp
  rw [hst]
  exact va_runS (As := as.map (tr base ext)) (rest := rest.map (tr base ext)) (g := F0 m pc ls ((as.map (tr base ext)).reverse ++ rest.map (tr base ext))) (H := H) (locs := locs) (cells := cu) (slots := su) (e := e) (below := below) (meth := meth) (R := mRoom mi) (cc := mC mi) (nL := mL mi) (Ts := TW) (own := ownS (mO mi)) ⟨C0.1, C0.2.1, C0.2.2.1, C0.2.2.2.1, C0.2.2.2.2.1⟩ hM (va_cwS (mP cm 4) C0.2.2.2.2.1 hT rfl rfl rfl ⟨f8, f9, f10⟩ ⟨r1, r2⟩) ⟨PC_blindZ, call_preZ C0 hW hS⟩ rfl (by simpa using hlen) hL.2.1 rfl (lv_room (by simp only [List.map_map, Function.comp_def, tr_cat]; exact h8)) hd ⟨g4, g5⟩
theorem run_IZ {cm ix pos nest : Nat} {as rest : List Value} {rs : Hp × Option Value} (hd : decode (mC mi) pc = .ok (.invokespecial ix, 3)) (hF : mF cm = 2) (hlk : (nest = 0 ∧ lw_tbl[pos]? = some (.methodLink (ownS (mO mi)) ix (mY cm))) ∨ lw_tbl[pos]? = some (.methodLinkNest (ownS (mO mi)) ix (mY cm) "AskedCourt")) (r1 : mP cm 5 + 1 ≤ mP mi 5) (r2 : 8 + (mL cm + 11) + mP cm 6 ≤ mP mi 6)
    (hlen : as.length = mP cm 4 + 1) (hok : ∃ a As, as = .ref a :: As) (h8 : (rest.map fun v => v.category).sum ≤ 8) (g4 : cu + mP cm 7 ≤ mP mi 7) (g5 : su + mP cm 8 ≤ mP mi 8) (hM : CtZ l D cy base ext cm as h rs) {p : Program} {e : Env} {s : State} {m : MethodId} {args : Array Value} {below : List Frame} {meth : Method} {c : Code} (C0 : CxZ D cy base ext sc p s m args meth c mi) {H : Heap} {locs : List Loc} {ls : Array Slot} (hW : WHp D cy base ext h H) (hS : va_S (fun q => base ≤ q) s.heap H locs) (hL : LvOK base ext ls (mL mi) lv (LSm mi)) :
    va_Run p l e (mRoom mi) s m args below meth c H locs cu su (mP cm 7) (mP cm 8) (F0 m pc ls ((as.reverse ++ rest).map (tr base ext))) (rest.map (tr base ext)) (QC D cy base ext rs (as.map (tr base ext)).toArray) (fun q => base ≤ q) := by
  obtain ⟨f1, f2, -, f4, -, f6, f7, f8, f9, f10, -⟩ := m_facts hF (by omega)
  obtain ⟨a, As, rfl⟩ := hok
  have hG := gi_m f1
  have hst : ((Value.ref a :: As).reverse ++ rest).map (tr base ext) = (As.map (tr base ext)).reverse ++ Value.ref (adr base ext a) :: rest.map (tr base ext) := by
    simp [tr]
  have hw : wsm cm = Cond.code (mY cm) (mC cm) (mL cm) none :: TW := by unfold wsm; rw [mR_init hF]
  rw [hst]
  have hPre : PreS s H (PCZ D cy base ext (.ref a :: As) h) (Value.ref (adr base ext a) :: As.map (tr base ext)) := ⟨PC_blindZ, call_preZ (vs := .ref a :: As) C0 hW hS⟩
  rcases hlk with ⟨-, hlk⟩ | hlk
  · exact va_runI (As := As.map (tr base ext)) (rest := rest.map (tr base ext)) (b := adr base ext a) (g := F0 m pc ls ((As.map (tr base ext)).reverse ++ Value.ref (adr base ext a) :: rest.map (tr base ext))) (H := H) (locs := locs) (cells := cu) (slots := su) (e := e) (below := below) (meth := meth) (R := mRoom mi) (cc := mC mi) (nL := mL mi) (Ts := TW) (own := ownS (mO mi)) ⟨C0.1, C0.2.1, C0.2.2.1, C0.2.2.2.1, C0.2.2.2.2.1⟩ hM (cwI (mP cm 4) C0.2.2.2.2.1 hG hw rfl rfl (C0.2.2.2.2.1 _ f2) (C0.2.2.2.2.1 _ (tw_at pos hlk rfl)) (C0.2.2.2.2.1 _ (f4 (by omega))) (f6 rfl) ⟨f8, f9, f10⟩ ⟨r1, r2⟩) hPre rfl (by simp at hlen; simpa using hlen) hL.2.1 rfl (lv_room (by simp only [List.map_map, Function.comp_def, tr_cat]; exact h8)) hd ⟨g4, g5⟩
  · exact va_runIN (As := As.map (tr base ext)) (rest := rest.map (tr base ext)) (b := adr base ext a) (g := F0 m pc ls ((As.map (tr base ext)).reverse ++ Value.ref (adr base ext a) :: rest.map (tr base ext))) (H := H) (locs := locs) (cells := cu) (slots := su) (e := e) (below := below) (meth := meth) (R := mRoom mi) (cc := mC mi) (nL := mL mi) (Ts := TW) (own := ownS (mO mi)) (host := "AskedCourt") ⟨C0.1, C0.2.1, C0.2.2.1, C0.2.2.2.1, C0.2.2.2.2.1⟩ hM ⟨va_cnB (mP cm 4) C0.2.2.2.2.1 hG hw rfl rfl (C0.2.2.2.2.2.2.1.2.1 _ (List.mem_filter.mpr ⟨List.mem_of_getElem? hlk, rfl⟩)) (C0.2.2.2.2.1 _ f2) ⟨f8, f9, f10⟩ ⟨r1, r2⟩, f6 rfl, C0.2.2.2.2.1 _ (f4 (by omega))⟩ hPre rfl (by simp at hlen; simpa using hlen) hL.2.1 rfl (lv_room (by simp only [List.map_map, Function.comp_def, tr_cat]; exact h8)) hd ⟨g4, g5⟩
/-- the call of the law's own 'person', apart -/
def PPokZ (l : Launch) (D : va_G) (cy : Nat → ClassId) (base : Nat) (ext : Nat → Nat) (sc : Nat × (Nat → Int32)) (pp : Nat → Nat → Int32 → Int32 → Hp → Option (Hp × Int32)) : Prop := ∀ (k : Knt) (pc ix p1 : Nat) (lv : Lv) (st : List Value) (cu su : Nat) (h : Hp) (res : Hp × Option Value), decode (mC 277) pc = .ok (.invokestatic ix, 3) → lw_tbl[p1]? = some (.methodLink "AskedCourtLaw" ix (mY 108)) → KOKZ l D cy base ext sc k 277 (pc + 3) →
  (pA st fun o st => pI st fun p1 st => pI st fun p0 st => pA st fun x st => if (st.map fun v => v.category).sum ≤ 8 ∧ cu + mP 108 7 ≤ mP 277 7 ∧ su + mP 108 8 ≤ mP 277 8 then (match pp x o p0 p1 h with
      | some (h', r) => k lv (.int r :: st) (cu + mP 108 7) (su + mP 108 8) h'
      | none => none) else none) = some res → RWZ l D cy base ext sc 277 pc lv st cu su h res
set_option maxHeartbeats 4000000 in
theorem snd1Z {i : Instr} {n : Nat} {is : List Nat} (hr : ROKZ l D cy base ext sc rec mi) (hk : KOKZ l D cy base ext sc k mi (pc + n))
    (hcal : ∀ (cm : Nat) (as : List Value) (h : Hp) (rs : Hp × Option Value), cm < 277 → (lvE as (mL cm)).length = mL cm → rec cm 0 (lvE as (mL cm)) [] 0 0 h = some rs → (as.all (fun v => v.category == 1) = true ∨ lsOK (LSm cm) (lvE as (mL cm)) = true) → CtZ l D cy base ext cm as h rs)
    (hPP : PPokZ l D cy base ext sc pp) (hcode : mi ≠ 108) (hc : chkI (mt mi) pc (i, n, is) = true) (hlen : lenOK (i, n, is) = true) (hown : ownOK (mO mi) (i, n, is) = true) (hq : ex1 sc pp rec k mi i is lv st cu su h = some res) : RWZ l D cy base ext sc mi pc lv st cu su h res := by
  have hd : decode (mC mi) pc = .ok (i, n) := chk_dec hc
  cases i
  case iadd =>
    obtain rfl : n = 1 := by simpa [lenOK] using hlen
    exact so_iaddZ hd hk hq
  case isub =>
    obtain rfl : n = 1 := by simpa [lenOK] using hlen
    exact so_isubZ hd hk hq
  case imul =>
    obtain rfl : n = 1 := by simpa [lenOK] using hlen
    exact so_imulZ hd hk hq
  case iand =>
    obtain rfl : n = 1 := by simpa [lenOK] using hlen
    exact so_iandZ hd hk hq
  case ior =>
    obtain rfl : n = 1 := by simpa [lenOK] using hlen
    exact so_iorZ hd hk hq
  case ixor =>
    obtain rfl : n = 1 := by simpa [lenOK] using hlen
    exact so_ixorZ hd hk hq
  case ishl =>
    obtain rfl : n = 1 := by simpa [lenOK] using hlen
    exact so_ishlZ hd hk hq
  case ishr =>
    obtain rfl : n = 1 := by simpa [lenOK] using hlen
    exact so_ishrZ hd hk hq
  case iushr =>
    obtain rfl : n = 1 := by simpa [lenOK] using hlen
    exact so_iushrZ hd hk hq
  case idiv =>
    obtain rfl : n = 1 := by simpa [lenOK] using hlen
    exact so_idivZ hd hk hq
  case irem =>
    obtain rfl : n = 1 := by simpa [lenOK] using hlen
    exact so_iremZ hd hk hq
  case ladd =>
    obtain rfl : n = 1 := by simpa [lenOK] using hlen
    exact so_laddZ hd hk hq
  case lsub =>
    obtain rfl : n = 1 := by simpa [lenOK] using hlen
    exact so_lsubZ hd hk hq
  case lmul =>
    obtain rfl : n = 1 := by simpa [lenOK] using hlen
    exact so_lmulZ hd hk hq
  case land =>
    obtain rfl : n = 1 := by simpa [lenOK] using hlen
    exact so_landZ hd hk hq
  case ldiv =>
    obtain rfl : n = 1 := by simpa [lenOK] using hlen
    exact so_ldivZ hd hk hq
  case lrem =>
    obtain rfl : n = 1 := by simpa [lenOK] using hlen
    exact so_lremZ hd hk hq
  case lneg =>
    obtain rfl : n = 1 := by simpa [lenOK] using hlen
    exact so_lnegZ hd hk hq
  case lcmp =>
    obtain rfl : n = 1 := by simpa [lenOK] using hlen
    exact so_lcmpZ hd hk hq
  case i2l =>
    obtain rfl : n = 1 := by simpa [lenOK] using hlen
    exact so_i2lZ hd hk hq
  case l2i =>
    obtain rfl : n = 1 := by simpa [lenOK] using hlen
    exact so_l2iZ hd hk hq
  case i2c =>
    obtain rfl : n = 1 := by simpa [lenOK] using hlen
    exact so_i2cZ hd hk hq
  case dup =>
    obtain rfl : n = 1 := by simpa [lenOK] using hlen
    exact so_dupZ hd hk hq
  case dup2 =>
    obtain rfl : n = 1 := by simpa [lenOK] using hlen
    exact so_dup2Z hd hk hq
  case pop =>
    obtain rfl : n = 1 := by simpa [lenOK] using hlen
    exact so_popZ hd hk hq
  case laload =>
    obtain rfl : n = 1 := by simpa [lenOK] using hlen
    exact so_laloadZ hd hk hq
  case baload =>
    obtain rfl : n = 1 := by simpa [lenOK] using hlen
    exact so_baloadZ hd hk hq
  case aaload =>
    obtain rfl : n = 1 := by simpa [lenOK] using hlen
    exact so_aaloadZ hd hk hq
  case iastore =>
    obtain rfl : n = 1 := by simpa [lenOK] using hlen
    exact so_iastoreZ hd hk hq
  case bastore =>
    obtain rfl : n = 1 := by simpa [lenOK] using hlen
    exact so_bastoreZ hd hk hq
  case lastore =>
    obtain rfl : n = 1 := by simpa [lenOK] using hlen
    exact so_lastoreZ hd hk hq
  case aastore =>
    obtain rfl : n = 1 := by simpa [lenOK] using hlen
    exact so_aastoreZ hd hk hq
  case iconst c =>
    obtain rfl : n = 1 := by simpa [lenOK] using hlen
    exact so_iconstZ hd hk hq
  case bipush c =>
    obtain rfl : n = 2 := by simpa [lenOK] using hlen
    exact so_bipushZ hd hk hq
  case sipush c =>
    obtain rfl : n = 3 := by simpa [lenOK] using hlen
    exact so_sipushZ hd hk hq
  case lconst c =>
    obtain rfl : n = 1 := by simpa [lenOK] using hlen
    exact so_lconstZ hd hk hq
  case iload m =>
    obtain rfl : n = 2 := by simpa [lenOK] using hlen
    exact so_iloadZ hd hk hq
  case iload_n m =>
    obtain rfl : n = 1 := by simpa [lenOK] using hlen
    exact so_iload_nZ hd hk hq
  case lload m =>
    obtain rfl : n = 2 := by simpa [lenOK] using hlen
    exact so_lloadZ hd hk hq
  case lload_n m =>
    obtain rfl : n = 1 := by simpa [lenOK] using hlen
    exact so_lload_nZ hd hk hq
  case aload m =>
    obtain rfl : n = 2 := by simpa [lenOK] using hlen
    exact so_aloadZ hd hk hq
  case aload_n m =>
    obtain rfl : n = 1 := by simpa [lenOK] using hlen
    exact so_aload_nZ hd hk hq
  case ldc ix =>
    obtain rfl : n = 2 := by simpa [lenOK] using hlen
    match is, hc, hq with
    | [v, pos], hc, hq =>
      simp only [chkI, Bool.and_eq_true, decide_eq_true_eq] at hc
      exact so_ldcZ hd hk hc.2 hq
    | [], _, hq => cases hq
    | [_], _, hq => cases hq
    | _ :: _ :: _ :: _, _, hq => cases hq
  case ldc_w ix =>
    obtain rfl : n = 3 := by simpa [lenOK] using hlen
    match is, hc, hq with
    | [v, pos], hc, hq =>
      simp only [chkI, Bool.and_eq_true, decide_eq_true_eq] at hc
      exact so_ldc_wZ hd hk hc.2 hq
    | [], _, hq => cases hq
    | [_], _, hq => cases hq
    | _ :: _ :: _ :: _, _, hq => cases hq
  case ldc2_w ix =>
    obtain rfl : n = 3 := by simpa [lenOK] using hlen
    match is, hc, hq with
    | [v, pos], hc, hq =>
      simp only [chkI, Bool.and_eq_true, decide_eq_true_eq] at hc
      exact so_ldc2Z hd hk hc.2 hq
    | [], _, hq => cases hq
    | [_], _, hq => cases hq
    | _ :: _ :: _ :: _, _, hq => cases hq
  case istore m =>
    obtain rfl : n = 2 := by simpa [lenOK] using hlen
    simp only [chkI, Bool.and_eq_true, decide_eq_true_eq] at hc
    have hi : (m : Nat) = 0 ∨ (m : Nat) - 1 ∉ LSm mi := by
      simpa [LSm, List.contains_iff_mem] using hc.2
    exact so_istoreZ hd hk hi hq
  case istore_n m =>
    obtain rfl : n = 1 := by simpa [lenOK] using hlen
    simp only [chkI, Bool.and_eq_true, decide_eq_true_eq] at hc
    have hi : (m : Nat) = 0 ∨ (m : Nat) - 1 ∉ LSm mi := by
      simpa [LSm, List.contains_iff_mem] using hc.2
    exact so_istore_nZ hd hk hi hq
  case astore m =>
    obtain rfl : n = 2 := by simpa [lenOK] using hlen
    simp only [chkI, Bool.and_eq_true, decide_eq_true_eq] at hc
    have hi : (m : Nat) = 0 ∨ (m : Nat) - 1 ∉ LSm mi := by
      simpa [LSm, List.contains_iff_mem] using hc.2
    exact so_astoreZ hd hk hi hq
  case astore_n m =>
    obtain rfl : n = 1 := by simpa [lenOK] using hlen
    simp only [chkI, Bool.and_eq_true, decide_eq_true_eq] at hc
    have hi : (m : Nat) = 0 ∨ (m : Nat) - 1 ∉ LSm mi := by
      simpa [LSm, List.contains_iff_mem] using hc.2
    exact so_astore_nZ hd hk hi hq
  case iinc m d =>
    obtain rfl : n = 3 := by simpa [lenOK] using hlen
    simp only [chkI, Bool.and_eq_true, decide_eq_true_eq] at hc
    have hi : m = 0 ∨ m - 1 ∉ LSm mi := by
      simpa [LSm, List.contains_iff_mem] using hc.2
    exact so_iincZ hd hk hi hq
  case lstore m =>
    obtain rfl : n = 2 := by simpa [lenOK] using hlen
    simp only [chkI, Bool.and_eq_true, decide_eq_true_eq] at hc
    have hi : (m : Nat) ∈ LSm mi ∧ ((m : Nat) = 0 ∨ (m : Nat) - 1 ∉ LSm mi) := by
      simpa [LSm, List.contains_iff_mem] using hc.2
    exact so_lstoreZ hd hk hi.2 hi.1 hq
  case lstore_n m =>
    obtain rfl : n = 1 := by simpa [lenOK] using hlen
    simp only [chkI, Bool.and_eq_true, decide_eq_true_eq] at hc
    have hi : (m : Nat) ∈ LSm mi ∧ ((m : Nat) = 0 ∨ (m : Nat) - 1 ∉ LSm mi) := by
      simpa [LSm, List.contains_iff_mem] using hc.2
    exact so_lstore_nZ hd hk hi.2 hi.1 hq
  case goto off =>
    obtain rfl : n = 3 := by simpa [lenOK] using hlen
    match is, hc, hq with
    | [t], hc, hq =>
      simp only [chkI, Bool.and_eq_true, decide_eq_true_eq] at hc
      exact so_gotoZ hd hc.2 hr hq
    | [], _, hq => cases hq
    | _ :: _ :: _, _, hq => cases hq
  case if_icmp cnd off =>
    obtain rfl : n = 3 := by simpa [lenOK] using hlen
    match is, hc, hq with
    | [t], hc, hq =>
      simp only [chkI, Bool.and_eq_true, decide_eq_true_eq] at hc
      cases cnd
      case eq => exact so_icmp_eqZ hd hk hc.2 hr hq
      case ne => exact so_icmp_neZ hd hk hc.2 hr hq
      case lt => exact so_icmp_ltZ hd hk hc.2 hr hq
      case ge => exact so_icmp_geZ hd hk hc.2 hr hq
      case gt => exact so_icmp_gtZ hd hk hc.2 hr hq
      case le => exact so_icmp_leZ hd hk hc.2 hr hq
    | [], _, hq => cases hq
    | _ :: _ :: _, _, hq => cases hq
  case ifCond cnd off =>
    obtain rfl : n = 3 := by simpa [lenOK] using hlen
    match is, hc, hq with
    | [t], hc, hq =>
      simp only [chkI, Bool.and_eq_true, decide_eq_true_eq] at hc
      cases cnd
      case eq => exact so_if_eqZ hd hk hc.2 hr hq
      case ne => exact so_if_neZ hd hk hc.2 hr hq
      case lt => exact so_if_ltZ hd hk hc.2 hr hq
      case ge => exact so_if_geZ hd hk hc.2 hr hq
      case gt => exact so_if_gtZ hd hk hc.2 hr hq
      case le => exact so_if_leZ hd hk hc.2 hr hq
    | [], _, hq => cases hq
    | _ :: _ :: _, _, hq => cases hq
  case tableswitch d lo hi offs =>
    match is, hc, hq with
    | dd :: ts, hc, hq =>
      simp only [chkI, Bool.and_eq_true, decide_eq_true_eq] at hc
      exact so_tableZ hd hr hc.2.1.1 hc.2.1.2 hc.2.2 hq
    | [], _, hq => cases hq
  case lookupswitch d ps =>
    match is, hc, hq with
    | dd :: ts, hc, hq =>
      simp only [chkI, Bool.and_eq_true, decide_eq_true_eq] at hc
      exact so_lookupZ hd hr hc.2.1.1 hc.2.1.2 hc.2.2 hq
    | [], _, hq => cases hq
  case getfield ix =>
    obtain rfl : n = 3 := by simpa [lenOK] using hlen
    match is, hc, hq with
    | [ci, j, t, pos, nest], hc, hq =>
      simp only [chkI, Bool.and_eq_true, decide_eq_true_eq] at hc
      exact so_getfZ hd hk hc.2 hq
    | [], _, hq => cases hq
    | [_], _, hq => cases hq
    | [_, _], _, hq => cases hq
    | [_, _, _], _, hq => cases hq
    | [_, _, _, _], _, hq => cases hq
    | _ :: _ :: _ :: _ :: _ :: _ :: _, _, hq => cases hq
  case putfield ix =>
    obtain rfl : n = 3 := by simpa [lenOK] using hlen
    match is, hc, hown, hq with
    | [ci, j, t, pos, nest, fin], hc, hown, hq =>
      simp only [chkI, Bool.and_eq_true, decide_eq_true_eq] at hc
      have ho : fin = 0 ∨ ownS (mO mi) = ownS ci := by
        simp only [ownOK, Bool.or_eq_true, beq_iff_eq] at hown
        rcases hown with hx | hx
        · exact Or.inl hx
        · exact Or.inr (by rw [hx])
      exact so_putfZ hd hk hc.2.1 hc.2.2 ho hq
    | [], _, _, hq => cases hq
    | [_], _, _, hq => cases hq
    | [_, _], _, _, hq => cases hq
    | [_, _, _], _, _, hq => cases hq
    | [_, _, _, _], _, _, hq => cases hq
    | [_, _, _, _, _], _, _, hq => cases hq
    | _ :: _ :: _ :: _ :: _ :: _ :: _ :: _, _, _, hq => cases hq
  case iaload =>
    obtain rfl : n = 1 := by simpa [lenOK] using hlen
    by_cases hmi : mi = 277
    · have hq' : (if mi = 277 then (pI st fun i st => pA st fun a st => if a = 1000 ∧ ¬ (i < 0 ∨ sc.1 ≤ i.toNatClampNeg) then k lv (.int (sc.2 i.toNatClampNeg) :: st) cu su h else none) else pI st fun i st => pA st fun a st => if kd h a = 13 ∧ ¬ (i < 0 ∨ hN h a ≤ i.toNatClampNeg) then k lv (.int (hI h a i.toNatClampNeg) :: st) cu su h else none) = some res := hq
      rw [if_pos hmi] at hq'
      exact so_sloadZ hmi hd hk hq'
    · have hq' : (if mi = 277 then (pI st fun i st => pA st fun a st => if a = 1000 ∧ ¬ (i < 0 ∨ sc.1 ≤ i.toNatClampNeg) then k lv (.int (sc.2 i.toNatClampNeg) :: st) cu su h else none) else pI st fun i st => pA st fun a st => if kd h a = 13 ∧ ¬ (i < 0 ∨ hN h a ≤ i.toNatClampNeg) then k lv (.int (hI h a i.toNatClampNeg) :: st) cu su h else none) = some res := hq
      rw [if_neg hmi] at hq'
      exact so_ialoadZ hmi hd hk hq'
  case arraylength =>
    obtain rfl : n = 1 := by simpa [lenOK] using hlen
    by_cases hmi : mi = 277
    · have hq' : (if mi = 277 then (pA st fun a st => if a = 1000 then k lv (.int (Int32.ofNat sc.1) :: st) cu su h else none) else pA st fun a st => if 13 ≤ kd h a ∧ kd h a ≤ 16 then k lv (.int (Int32.ofNat (hN h a)) :: st) cu su h else none) = some res := hq
      rw [if_pos hmi] at hq'
      exact so_slenZ hmi hd hk hq'
    · have hq' : (if mi = 277 then (pA st fun a st => if a = 1000 then k lv (.int (Int32.ofNat sc.1) :: st) cu su h else none) else pA st fun a st => if 13 ≤ kd h a ∧ kd h a ≤ 16 then k lv (.int (Int32.ofNat (hN h a)) :: st) cu su h else none) = some res := hq
      rw [if_neg hmi] at hq'
      exact so_alenZ hd hk hq'
  case newarray t =>
    obtain rfl : n = 2 := by simpa [lenOK] using hlen
    match is, hc, hq with
    | [c2, s2], hc, hq =>
      simp only [chkI, Bool.and_eq_true, decide_eq_true_eq] at hc
      refine so_newarrayZ hd hk hc.2.1.1 hc.2.1.2 ?_ hq
      cases t
      case int => exact Or.inl rfl
      case long => exact Or.inr (Or.inl rfl)
      case boolean => exact Or.inr (Or.inr rfl)
      all_goals (have := hc.2.2; cases this)
    | [], _, hq => cases hq
    | [_], _, hq => cases hq
    | _ :: _ :: _ :: _, _, hq => cases hq
  case anewarray ix =>
    obtain rfl : n = 3 := by simpa [lenOK] using hlen
    match is, hc, hq with
    | [c2, s2, pos], hc, hq =>
      simp only [chkI, Bool.and_eq_true, decide_eq_true_eq] at hc
      exact so_anewZ hd hk hc.2.1.1 hc.2.1.2 hc.2.2 hq
    | [], _, hq => cases hq
    | [_], _, hq => cases hq
    | [_, _], _, hq => cases hq
    | _ :: _ :: _ :: _ :: _, _, hq => cases hq
  case new ix =>
    obtain rfl : n = 3 := by simpa [lenOK] using hlen
    match is, hc, hq with
    | [ci, nf, c2, s2, p1, p2, p3], hc, hq =>
      simp only [chkI, Bool.and_eq_true, decide_eq_true_eq] at hc
      cases hcl : vwCl[ci]? with
      | none => rw [hcl] at hc; cases hc.2.2
      | some q =>
        obtain ⟨C, T, N⟩ := q
        rw [hcl] at hc
        simp only [Bool.and_eq_true, decide_eq_true_eq] at hc
        exact so_newZ hd hk hc.2.1.1 hc.2.1.2 hcl hc.2.2.1.1.1 hc.2.2.1.1.2 hc.2.2.1.2 hc.2.2.2 hq
    | [], _, hq => cases hq
    | [_], _, hq => cases hq
    | [_, _], _, hq => cases hq
    | [_, _, _], _, hq => cases hq
    | [_, _, _, _], _, hq => cases hq
    | [_, _, _, _, _], _, hq => cases hq
    | [_, _, _, _, _, _], _, hq => cases hq
    | _ :: _ :: _ :: _ :: _ :: _ :: _ :: _ :: _, _, hq => cases hq
  case ireturn =>
    obtain rfl : n = 1 := by simpa [lenOK] using hlen
    match is, hc, hq with
    | [0], hc, hq =>
      simp only [chkI, Bool.and_eq_true, decide_eq_true_eq] at hc
      exact so_ireturn0Z hd hc.2 hq
    | [3], hc, hq =>
      simp only [chkI, Bool.and_eq_true, decide_eq_true_eq] at hc
      exact so_ireturn3Z hd hc.2 hq
    | [], hc, _ => simp [chkI] at hc
    | [1], hc, _ => simp [chkI] at hc
    | [2], hc, _ => simp [chkI] at hc
    | [x + 4], hc, _ => simp [chkI] at hc
    | _ :: _ :: _, hc, _ => simp [chkI] at hc
  case lreturn =>
    obtain rfl : n = 1 := by simpa [lenOK] using hlen
    simp only [chkI, Bool.and_eq_true, decide_eq_true_eq] at hc
    exact so_lreturnZ hd hc.2 hq
  case areturn =>
    obtain rfl : n = 1 := by simpa [lenOK] using hlen
    simp only [chkI, Bool.and_eq_true, decide_eq_true_eq] at hc
    exact so_areturnZ hd hc.2 hq
  case return_ =>
    obtain rfl : n = 1 := by simpa [lenOK] using hlen
    simp only [chkI, Bool.and_eq_true, decide_eq_true_eq] at hc
    exact so_returnZ hd hc.2 hq
  case invokevirtual ix =>
    obtain rfl : n = 3 := by simpa [lenOK] using hlen
    match is, hc, hown, hq with
    | [cm, na, pos, nest, ml, c1, s1, c2, s2, rc], hc, hown, hq =>
      simp only [chkI, Bool.and_eq_true, decide_eq_true_eq] at hc
      obtain ⟨-, ⟨⟨⟨a0, a1⟩, a2⟩, a3⟩, a4⟩ := hc
      obtain ⟨b0, b1, b2, b3, b4, b5, b6, b7, b8⟩ := cchk_spec a0
      subst b1
      have hlk : nest = 0 ∧ lw_tbl[pos]? = some (.methodLink (ownS (mO mi)) ix (mY cm)) := by
        rcases b0 with b0 | b0
        · exact b0
        · have h9 : nest = 0 := by simpa [ownOK] using hown
          exact absurd h9 b0.1
      have hq' : doCall rec k cm na (mL cm) c1 s1 c2 s2 (fun as => match as with | .ref a :: _ => kd h a == rc | _ => false) lv st cu su h = some res := hq
      refine so_callZ (na := na) (ok := (fun as => match as with | .ref a :: _ => kd h a == rc | _ => false)) rfl b2 b3 b4 b5 hk (fun as rs e1 e2 e3 => hcal cm as h rs b8 e1 e2 e3) ?_ hq'
      exact (fun as rest rs e1 e2 e3 e4 e5 hM p e s m args below meth c C0 H locs ls hW hS hL => run_VZ hd a1 hlk.2 a3 a4 b6 b7 (by rw [e1, a2]) e2 e3 e4 e5 hM C0 hW hS hL)
    | [], _, _, hq => cases hq
    | [_], _, _, hq => cases hq
    | [_, _], _, _, hq => cases hq
    | [_, _, _], _, _, hq => cases hq
    | [_, _, _, _], _, _, hq => cases hq
    | [_, _, _, _, _], _, _, hq => cases hq
    | [_, _, _, _, _, _], _, _, hq => cases hq
    | [_, _, _, _, _, _, _], _, _, hq => cases hq
    | [_, _, _, _, _, _, _, _], _, _, hq => cases hq
    | [_, _, _, _, _, _, _, _, _], _, _, hq => cases hq
    | _ :: _ :: _ :: _ :: _ :: _ :: _ :: _ :: _ :: _ :: _ ::  _, _, _, hq => cases hq
  case invokestatic ix =>
    obtain rfl : n = 3 := by simpa [lenOK] using hlen
    match is, hc, hown, hq with
    | [cm, na, pos, nest, ml, c1, s1, c2, s2, rc], hc, hown, hq =>
      simp only [chkI, Bool.and_eq_true, decide_eq_true_eq] at hc
      obtain ⟨-, ⟨a0, a1⟩, a2⟩ := hc
      obtain ⟨b0, b1, b2, b3, b4, b5, b6, b7, b8⟩ := cchk_spec a0
      subst b1
      have hlk : nest = 0 ∧ lw_tbl[pos]? = some (.methodLink (ownS (mO mi)) ix (mY cm)) := by
        rcases b0 with b0 | b0
        · exact b0
        · have h9 : nest = 0 := by simpa [ownOK] using hown
          exact absurd h9 b0.1
      have hq' : doCall rec k cm na (mL cm) c1 s1 c2 s2 (fun _ => true) lv st cu su h = some res := hq
      refine so_callZ (na := na) (ok := fun _ => true) rfl b2 b3 b4 b5 hk (fun as rs e1 e2 e3 => hcal cm as h rs b8 e1 e2 e3) ?_ hq'
      exact (fun as rest rs e1 e2 e3 e4 e5 hM p e s m args below meth c C0 H locs ls hW hS hL => run_SZ hd a1 hlk.2 b6 b7 (by rw [e1, a2]) e3 e4 e5 hM C0 hW hS hL)
    | [a, p1, p2, p3, p4], hc, _, hq =>
      simp only [chkI, Bool.and_eq_true, decide_eq_true_eq] at hc
      obtain ⟨-, ⟨⟨a1, a2⟩, a3⟩, a4⟩ := hc
      by_cases h7 : a = 997
      · subst h7
        rw [if_pos rfl] at a4
        simp only [Bool.and_eq_true, decide_eq_true_eq] at a4
        exact so_minZ hd hk a4.1.1 a4.1.2 a3 a4.2 a1 a2 hq
      · rw [if_neg h7] at a4
        simp only [Bool.and_eq_true, decide_eq_true_eq] at a4
        obtain ⟨⟨⟨h8, w1⟩, w2⟩, w4⟩ := a4
        subst h8
        exact so_maxZ hd hk w1 w2 a3 w4 a1 a2 hq
    | [a, p1, c1, s1, c2, s2], hc, hown, hq =>
      simp only [chkI, Bool.and_eq_true, decide_eq_true_eq] at hc
      obtain ⟨-, ⟨⟨⟨⟨a1, a2⟩, a3⟩, a4⟩, a5⟩, a6⟩ := hc
      have ho : mO mi = 13 := by simpa [ownOK] using hown
      have hmi : mi = 277 := (own13 mi (own_hi ho) ho).resolve_right hcode
      subst hmi
      subst a1
      subst a3
      subst a4
      have b5 : c2 = mP 277 7 := a5
      have b6 : s2 = mP 277 8 := a6
      subst b5
      subst b6
      exact hPP k pc ix p1 lv st cu su h res hd a2 hk hq
    | [], _, _, hq => cases hq
    | [_], _, _, hq => cases hq
    | [_, _], _, _, hq => cases hq
    | [_, _, _], _, _, hq => cases hq
    | [_, _, _, _], _, _, hq => cases hq
    | [_, _, _, _, _, _, _], _, _, hq => cases hq
    | [_, _, _, _, _, _, _, _], _, _, hq => cases hq
    | [_, _, _, _, _, _, _, _, _], _, _, hq => cases hq
    | _ :: _ :: _ :: _ :: _ :: _ :: _ :: _ :: _ :: _ :: _ ::  _, _, _, hq => cases hq
  case invokespecial ix =>
    obtain rfl : n = 3 := by simpa [lenOK] using hlen
    match is, hc, hown, hq with
    | [cm, na, pos, nest, ml, c1, s1, c2, s2, rc], hc, hown, hq =>
      simp only [chkI, Bool.and_eq_true, decide_eq_true_eq] at hc
      obtain ⟨-, ⟨a0, a1⟩, a2⟩ := hc
      obtain ⟨b0, b1, b2, b3, b4, b5, b6, b7, b8⟩ := cchk_spec a0
      subst b1
      have hlk : (nest = 0 ∧ lw_tbl[pos]? = some (.methodLink (ownS (mO mi)) ix (mY cm))) ∨ lw_tbl[pos]? = some (.methodLinkNest (ownS (mO mi)) ix (mY cm) "AskedCourt") := by
        rcases b0 with b0 | b0
        · exact Or.inl b0
        · exact Or.inr b0.2
      have hq' : doCall rec k cm na (mL cm) c1 s1 c2 s2 (fun as => match as with | .ref a :: _ => kd h a == rc | _ => false) lv st cu su h = some res := hq
      refine so_callZ (na := na) (ok := (fun as => match as with | .ref a :: _ => kd h a == rc | _ => false)) rfl b2 b3 b4 b5 hk (fun as rs e1 e2 e3 => hcal cm as h rs b8 e1 e2 e3) ?_ hq'
      intro as rest rs e1 e2 e3 e4 e5 hM p e s m args below meth c C0 H locs ls hW hS hL
      refine run_IZ hd a1 hlk b6 b7 (by rw [e1, a2]) ?_ e3 e4 e5 hM C0 hW hS hL
      cases as with
      | nil => cases e2
      | cons v As => cases v with
        | ref a => exact ⟨a, As, rfl⟩
        | _ => cases e2
    | [a, x, p1, p2, p3], hc, _, hq =>
      simp only [chkI, Bool.and_eq_true, decide_eq_true_eq] at hc
      obtain ⟨-, ⟨⟨⟨⟨a1, a2⟩, a3⟩, a4⟩, a5⟩, a6⟩ := hc
      subst a1
      exact so_objInitZ hd hk a2 a3 a4 a5 a6 hq
    | [], _, _, hq => cases hq
    | [_], _, _, hq => cases hq
    | [_, _], _, _, hq => cases hq
    | [_, _, _], _, _, hq => cases hq
    | [_, _, _, _], _, _, hq => cases hq
    | [_, _, _, _, _, _], _, _, hq => cases hq
    | [_, _, _, _, _, _, _], _, _, hq => cases hq
    | [_, _, _, _, _, _, _, _], _, _, hq => cases hq
    | [_, _, _, _, _, _, _, _, _], _, _, hq => cases hq
    | _ :: _ :: _ :: _ :: _ :: _ :: _ :: _ :: _ :: _ :: _ ::  _, _, _, hq => cases hq
  all_goals (cases hq)
end Snd2Z
section Fin1Z
variable {l : Launch} {D : va_G} {cy : Nat → ClassId} {base : Nat} {ext : Nat → Nat} {sc : Nat × (Nat → Int32)} {pp : Nat → Nat → Int32 → Int32 → Hp → Option (Hp × Int32)} {rec : Rec} {mi : Nat}
theorem snd_segZ (hr : ROKZ l D cy base ext sc rec mi)
    (hcal : ∀ (cm : Nat) (as : List Value) (h : Hp) (rs : Hp × Option Value), cm < 277 → (lvE as (mL cm)).length = mL cm → rec cm 0 (lvE as (mL cm)) [] 0 0 h = some rs → (as.all (fun v => v.category == 1) = true ∨ lsOK (LSm cm) (lvE as (mL cm)) = true) → CtZ l D cy base ext cm as h rs)
    (hPP : PPokZ l D cy base ext sc pp) (hcode : mi ≠ 108) : ∀ (s : List MI) (pc : Nat), chkS (mt mi) pc s = true → (∀ e ∈ s, lenOK e = true) → (∀ e ∈ s, ownOK (mO mi) e = true) → KOKZ l D cy base ext sc (exS sc pp rec mi pc s) mi pc := by
  intro s
  induction s with
  | nil => intro pc _ _ _ lv st cu su h res hq; exact hr pc lv st cu su h res hq
  | cons e r ih =>
    intro pc hc hl ho lv st cu su h res hq
    obtain ⟨i, n, is⟩ := e
    simp only [chkS, Bool.and_eq_true] at hc
    have hk := ih (pc + n) hc.2 (fun e he => hl e (List.mem_cons_of_mem _ he)) (fun e he => ho e (List.mem_cons_of_mem _ he))
    exact snd1Z (k := fun lv st cu su h => exS sc pp rec mi (pc + n) r lv st cu su h) hr (fun lv st cu su h res hq => hk lv st cu su h res hq) hcal hPP hcode hc.1 (hl _ List.mem_cons_self) (ho _ List.mem_cons_self) hq
theorem met_runZ {cm : Nat} {as : List Value} {h : Hp} {res : Hp × Option Value} (hF : mF cm < 3) (hcm : cm < 277) (hlen : (lvE as (mL cm)).length = mL cm) (hls : as.all (fun v => v.category == 1) = true ∨ lsOK (LSm cm) (lvE as (mL cm)) = true) (hrun : RWZ l D cy base ext sc cm 0 (lvE as (mL cm)) [] 0 0 h res) : CtZ l D cy base ext cm as h res := by
  obtain ⟨f1, f2, f3, f4, f5, f6, f7, f8, f9, f10, f11⟩ := m_facts rfl hF
  unfold CtZ
  refine Met.ofW (cc := mC cm) (maxL := mL cm) (ret := mR cm) f11 rfl ?_
  intro p e s m args below meth c s₁ B hml hv
  obtain ⟨rfl, hWp, hKS, hbs⟩ := hv
  have hts := atoms_spec (ws := wsm cm) B.pre
  have hlocks := B.notSynchronized
  have C0 : CxZ D cy base ext sc p s m (as.map (tr base ext)).toArray meth c cm := ⟨B.exec, B.bytes, hml, by rw [← f7]; exact findClass_of_methodNamed B.named, fun w hw => hts w (List.mem_cons_of_mem _ hw), fun h2 => by rw [(name_of_methodNamed B.named B.method).1]; exact f6 h2, hKS, hbs, fun h9 => absurd h9 (by omega)⟩
  rw [lg_entry_eq]
  refine hrun p e s m _ below meth c _ C0 ?_ s.heap [] _ hWp va_S.rf (lvE_entry hlen hls) (Nat.zero_le _) (Nat.zero_le _)
  intro pc ls H locs cu su hW hS h1 h2 hret
  refine W.widen (k := mP cm 7) (n := mP cm 8) h1 h2 ?_
  obtain ⟨h', rv⟩ := res
  rcases hret with ⟨x, hv, hd, hr⟩ | ⟨x, hv, hd, hr⟩ | ⟨x, hv, hd, hr⟩ | ⟨hv, hd, hr⟩
  · cases hv
    rcases hr with hr | ⟨hr, hx⟩
    · exact W.iret (v := x) C0.1 C0.2.1 (B.returns.trans hr) (fun t ht hWm => ⟨rfl, by rw [ht]; exact hW, hS.F ht⟩) hS.2.2 hd
    · exact W.zret (v := x) (ty := .boolean) C0.1 C0.2.1 (B.returns.trans hr) (by rcases hx with rfl | rfl <;> rfl) (fun t ht hWm => ⟨rfl, by rw [ht]; exact hW, hS.F ht⟩) hS.2.2 hd
  · cases hv
    exact W.lret (v := x) C0.1 C0.2.1 (B.returns.trans hr) (fun t ht hWm => ⟨rfl, by rw [ht]; exact hW, hS.F ht⟩) hS.2.2 hd
  · cases hv
    exact W.aret (v := .ref (adr base ext x)) C0.1 C0.2.1 (B.returns.trans hr) (Or.inl ⟨_, rfl⟩) (Or.inr ⟨_, rfl⟩) (fun t ht hWm => ⟨rfl, by rw [ht]; exact hW, hS.F ht⟩) hS.2.2 hd
  · cases hv
    exact W.vret C0.1 C0.2.1 (B.returns.trans hr) (fun t ht hWm => ⟨rfl, by rw [ht]; exact hW, hS.F ht⟩) hS.2.2 hd

theorem soundZ (hPP : PPokZ l D cy base ext sc pp) (hTok : ∀ (as : List Value) (h : Hp) (rs : Hp × Option Value), (lvE as (mL 7)).length = mL 7 → primT (lvE as (mL 7)) h = some rs → CtZ l D cy base ext 7 as h rs) : ∀ n : Nat,
    (∀ (mi pc : Nat) (lv : Lv) (st : List Value) (cu su : Nat) (h : Hp) (res : Hp × Option Value), mi ≠ 7 → mrun sc pp n mi pc lv st cu su h = some res → RWZ l D cy base ext sc mi pc lv st cu su h res) ∧
    (∀ (cm : Nat) (as : List Value) (h : Hp) (rs : Hp × Option Value), cm < 277 → (lvE as (mL cm)).length = mL cm → mrun sc pp n cm 0 (lvE as (mL cm)) [] 0 0 h = some rs → (as.all (fun v => v.category == 1) = true ∨ lsOK (LSm cm) (lvE as (mL cm)) = true) → CtZ l D cy base ext cm as h rs) := by
  intro n
  induction n with
  | zero => exact ⟨fun _ _ _ _ _ _ _ _ _ hq => (by cases hq), fun _ _ _ _ _ _ hq _ => (by cases hq)⟩
  | succ n ih =>
    have part1 : ∀ (mi pc : Nat) (lv : Lv) (st : List Value) (cu su : Nat) (h : Hp) (res : Hp × Option Value), mi ≠ 7 → mrun sc pp (n + 1) mi pc lv st cu su h = some res → RWZ l D cy base ext sc mi pc lv st cu su h res := by
      intro mi pc lv st cu su h res h7 hq
      unfold mrun at hq
      rw [if_neg h7] at hq
      cases hs : codeAt mi pc with
      | none => rw [hs] at hq; cases hq
      | some s =>
        rw [hs] at hq
        have h108 : mi ≠ 108 := fun e => by subst e; rw [no108] at hs; cases hs
        exact snd_segZ (rec := mrun sc pp n) (fun t lv st cu su h res hq => ih.1 mi t lv st cu su h res h7 hq) ih.2 hPP h108 s pc (code_ok hs) (len_ok hs) (own_ok hs) lv st cu su h res hq
    refine ⟨part1, fun cm as h rs hcm hlen hq hls => ?_⟩
    by_cases h7 : cm = 7
    · subst h7
      unfold mrun at hq
      rw [if_pos rfl, if_pos ⟨rfl, rfl⟩] at hq
      exact hTok as h rs hlen hq
    · by_cases h108 : cm = 108
      · subst h108
        unfold mrun at hq
        rw [if_neg h7, no108] at hq
        cases hq
      · exact met_runZ (flag_lt cm hcm h108) hcm hlen hls (part1 cm 0 _ [] 0 0 h rs h7 hq)
end Fin1Z
