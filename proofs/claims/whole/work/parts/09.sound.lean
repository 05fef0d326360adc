-- the small machine is sound: what it runs to, the machine comes to
def LSm (mi : Nat) : List Nat := (mt mi).2.2.2.2.2.2.drop 9
def retAt (mi pc : Nat) (v : Option Value) : Prop :=
  (∃ x : Int32, v = some (.int x) ∧ decode (mC mi) pc = .ok (.ireturn, 1) ∧ (mR mi = some .int ∨ (mR mi = some .boolean ∧ (x = 0 ∨ x = 1)))) ∨ (∃ x : Int64, v = some (.long x) ∧ decode (mC mi) pc = .ok (.lreturn, 1) ∧ mR mi = some .long) ∨ (∃ x : Nat, v = some (.ref x) ∧ decode (mC mi) pc = .ok (.areturn, 1) ∧ mR mi = some (.object "AskedCourt$State")) ∨ (v = none ∧ decode (mC mi) pc = .ok (.return_, 1) ∧ mR mi = none)
def Cx (D : va_G) (cy : Nat → ClassId) (base : Nat) (ext : Nat → Nat) (sc : Nat × (Nat → Int32)) (p : Program) (s : State) (m : MethodId) (args : Array Value) (meth : Method) (c : Code) (mi : Nat) : Prop :=
  p.tables.exec = Jvm.exec ∧ c.code = mC mi ∧ c.maxLocals = mL mi ∧ s.vm.findClass (ownS (mO mi)) = some m.cls ∧ (∀ w ∈ TW, w.before args s = true) ∧ (mF mi = 2 → meth.name = "<init>") ∧ KS D cy s ∧ base ≤ s.heap.size ∧ (mi = 277 → va_X (ext 0) sc.1 sc.2 s s.heap ∧ ext 0 < s.heap.size ∧ ext 0 < base ∧ (∀ w ∈ lw_tbl, w.before args s = true) ∧ (Jvm.Cond.and given_1 narrow_1).before args s = true)
def RW (l : Launch) (D : va_G) (cy : Nat → ClassId) (base : Nat) (ext : Nat → Nat) (sc : Nat × (Nat → Int32)) (mi pc : Nat) (lv : Lv) (st : List Value) (cu su : Nat) (h : Hp) (res : Hp × Option Value) : Prop :=
  ∀ (p : Program) (e : Env) (s : State) (m : MethodId) (args : Array Value) (below : List Frame) (meth : Method) (c : Code) (Q : State → Prop), Cx D cy base ext sc p s m args meth c mi →
    (∀ (pc : Nat) (ls : Array Slot) (H : Heap) (locs : List Loc) (cu su : Nat), WHp D cy base ext res.1 H → va_S (fun q => base ≤ q) s.heap H locs → cu ≤ mP mi 7 → su ≤ mP mi 8 → retAt mi pc res.2 → W p l e (mRoom mi) s m args below meth c H locs cu su Q (F0 m pc ls (res.2.toList.map (tr base ext)))) →
    ∀ (H : Heap) (locs : List Loc) (ls : Array Slot), WHp D cy base ext h H → va_S (fun q => base ≤ q) s.heap H locs → LvOK base ext ls (mL mi) lv (LSm mi) → cu ≤ mP mi 7 → su ≤ mP mi 8 → W p l e (mRoom mi) s m args below meth c H locs cu su Q (F0 m pc ls (st.map (tr base ext)))
def KOK (l : Launch) (D : va_G) (cy : Nat → ClassId) (base : Nat) (ext : Nat → Nat) (sc : Nat × (Nat → Int32)) (k : Knt) (mi pc : Nat) : Prop := ∀ (lv : Lv) (st : List Value) (cu su : Nat) (h : Hp) (res : Hp × Option Value), k lv st cu su h = some res → RW l D cy base ext sc mi pc lv st cu su h res
def ROK (l : Launch) (D : va_G) (cy : Nat → ClassId) (base : Nat) (ext : Nat → Nat) (sc : Nat × (Nat → Int32)) (rec : Rec) (mi : Nat) : Prop := ∀ (t : Nat) (lv : Lv) (st : List Value) (cu su : Nat) (h : Hp) (res : Hp × Option Value), rec mi t lv st cu su h = some res → RW l D cy base ext sc mi t lv st cu su h res
theorem pI_some {st : List Value} {f : Int32 → List Value → Rs} {r : Hp × Option Value} (h : pI st f = some r) : ∃ (x : Int32) (st' : List Value), st = .int x :: st' ∧ f x st' = some r := by
  unfold pI at h
  split at h
  · exact ⟨_, _, rfl, h⟩
  · cases h
theorem pJ_some {st : List Value} {f : Int64 → List Value → Rs} {r : Hp × Option Value} (h : pJ st f = some r) : ∃ (x : Int64) (st' : List Value), st = .long x :: st' ∧ f x st' = some r := by
  unfold pJ at h
  split at h
  · exact ⟨_, _, rfl, h⟩
  · cases h
theorem pA_some {st : List Value} {f : Nat → List Value → Rs} {r : Hp × Option Value} (h : pA st f = some r) : ∃ (x : Nat) (st' : List Value), st = .ref x :: st' ∧ f x st' = some r := by
  unfold pA at h
  split at h
  · exact ⟨_, _, rfl, h⟩
  · cases h
theorem pV_some {st : List Value} {f : Value → List Value → Rs} {r : Hp × Option Value} (h : pV st f = some r) : ∃ (v : Value) (st' : List Value), st = v :: st' ∧ v.category = 1 ∧ f v st' = some r := by
  unfold pV at h
  split at h
  · exact ⟨_, _, rfl, rfl, h⟩
  · exact ⟨_, _, rfl, rfl, h⟩
  · cases h
theorem gI_some {lv : Lv} {i : Nat} {f : Int32 → Rs} {r : Hp × Option Value} (h : gI lv i f = some r) : ∃ x : Int32, lget lv i = some (.int x) ∧ f x = some r := by
  unfold gI at h
  split at h
  · exact ⟨_, by assumption, h⟩
  · cases h
theorem gJ_some {lv : Lv} {i : Nat} {f : Int64 → Rs} {r : Hp × Option Value} (h : gJ lv i f = some r) : ∃ x : Int64, lget lv i = some (.long x) ∧ f x = some r := by
  unfold gJ at h
  split at h
  · exact ⟨_, by assumption, h⟩
  · cases h
theorem gA_some {lv : Lv} {i : Nat} {f : Nat → Rs} {r : Hp × Option Value} (h : gA lv i f = some r) : ∃ x : Nat, lget lv i = some (.ref x) ∧ f x = some r := by
  unfold gA at h
  split at h
  · exact ⟨_, by assumption, h⟩
  · cases h
theorem if_some {P : Prop} [Decidable P] {a : Rs} {r : Hp × Option Value} (h : (if P then a else none) = some r) : P ∧ a = some r := by
  by_cases hp : P
  · rw [if_pos hp] at h; exact ⟨hp, h⟩
  · rw [if_neg hp] at h; cases h
theorem nif_some {P : Prop} [Decidable P] {a : Rs} {r : Hp × Option Value} (h : (if P then none else a) = some r) : ¬ P ∧ a = some r := by
  by_cases hp : P
  · rw [if_pos hp] at h; cases h
  · rw [if_neg hp] at h; exact ⟨hp, h⟩
section SndA
variable {l : Launch} {D : va_G} {cy : Nat → ClassId} {base : Nat} {ext : Nat → Nat} {sc : Nat × (Nat → Int32)} {rec : Rec} {k : Knt} {mi pc : Nat} {lv : Lv} {st : List Value} {cu su : Nat} {h : Hp} {res : Hp × Option Value}
theorem so_iadd (hd : decode (mC mi) pc = .ok (.iadd, 1)) (hk : KOK l D cy base ext sc k mi (pc + 1)) (hq : (pI st fun y st => pI st fun x st => k lv (.int (x + y) :: st) cu su h) = some res) : RW l D cy base ext sc mi pc lv st cu su h res := by
  obtain ⟨y, st1, rfl, hq1⟩ := pI_some hq
  obtain ⟨x, st2, rfl, hq2⟩ := pI_some hq1
  intro p e s m args below meth c Q C hend H locs ls hW hS hL h1 h2
  exact lv_iadd C.1 C.2.1 hd (hk _ _ _ _ _ _ hq2 p e s m args below meth c Q C hend H locs ls hW hS hL h1 h2)
theorem so_isub (hd : decode (mC mi) pc = .ok (.isub, 1)) (hk : KOK l D cy base ext sc k mi (pc + 1)) (hq : (pI st fun y st => pI st fun x st => k lv (.int (x - y) :: st) cu su h) = some res) : RW l D cy base ext sc mi pc lv st cu su h res := by
  obtain ⟨y, st1, rfl, hq1⟩ := pI_some hq
  obtain ⟨x, st2, rfl, hq2⟩ := pI_some hq1
  intro p e s m args below meth c Q C hend H locs ls hW hS hL h1 h2
  exact lv_isub C.1 C.2.1 hd (hk _ _ _ _ _ _ hq2 p e s m args below meth c Q C hend H locs ls hW hS hL h1 h2)
theorem so_imul (hd : decode (mC mi) pc = .ok (.imul, 1)) (hk : KOK l D cy base ext sc k mi (pc + 1)) (hq : (pI st fun y st => pI st fun x st => k lv (.int (x * y) :: st) cu su h) = some res) : RW l D cy base ext sc mi pc lv st cu su h res := by
  obtain ⟨y, st1, rfl, hq1⟩ := pI_some hq
  obtain ⟨x, st2, rfl, hq2⟩ := pI_some hq1
  intro p e s m args below meth c Q C hend H locs ls hW hS hL h1 h2
  exact lv_imul C.1 C.2.1 hd (hk _ _ _ _ _ _ hq2 p e s m args below meth c Q C hend H locs ls hW hS hL h1 h2)
theorem so_iand (hd : decode (mC mi) pc = .ok (.iand, 1)) (hk : KOK l D cy base ext sc k mi (pc + 1)) (hq : (pI st fun y st => pI st fun x st => k lv (.int (x &&& y) :: st) cu su h) = some res) : RW l D cy base ext sc mi pc lv st cu su h res := by
  obtain ⟨y, st1, rfl, hq1⟩ := pI_some hq
  obtain ⟨x, st2, rfl, hq2⟩ := pI_some hq1
  intro p e s m args below meth c Q C hend H locs ls hW hS hL h1 h2
  exact lv_iand C.1 C.2.1 hd (hk _ _ _ _ _ _ hq2 p e s m args below meth c Q C hend H locs ls hW hS hL h1 h2)
theorem so_ior (hd : decode (mC mi) pc = .ok (.ior, 1)) (hk : KOK l D cy base ext sc k mi (pc + 1)) (hq : (pI st fun y st => pI st fun x st => k lv (.int (x ||| y) :: st) cu su h) = some res) : RW l D cy base ext sc mi pc lv st cu su h res := by
  obtain ⟨y, st1, rfl, hq1⟩ := pI_some hq
  obtain ⟨x, st2, rfl, hq2⟩ := pI_some hq1
  intro p e s m args below meth c Q C hend H locs ls hW hS hL h1 h2
  exact lv_ior C.1 C.2.1 hd (hk _ _ _ _ _ _ hq2 p e s m args below meth c Q C hend H locs ls hW hS hL h1 h2)
theorem so_ixor (hd : decode (mC mi) pc = .ok (.ixor, 1)) (hk : KOK l D cy base ext sc k mi (pc + 1)) (hq : (pI st fun y st => pI st fun x st => k lv (.int (x ^^^ y) :: st) cu su h) = some res) : RW l D cy base ext sc mi pc lv st cu su h res := by
  obtain ⟨y, st1, rfl, hq1⟩ := pI_some hq
  obtain ⟨x, st2, rfl, hq2⟩ := pI_some hq1
  intro p e s m args below meth c Q C hend H locs ls hW hS hL h1 h2
  exact lv_ixor C.1 C.2.1 hd (hk _ _ _ _ _ _ hq2 p e s m args below meth c Q C hend H locs ls hW hS hL h1 h2)
theorem so_ishl (hd : decode (mC mi) pc = .ok (.ishl, 1)) (hk : KOK l D cy base ext sc k mi (pc + 1)) (hq : (pI st fun y st => pI st fun x st => k lv (.int (x <<< (y &&& 31)) :: st) cu su h) = some res) : RW l D cy base ext sc mi pc lv st cu su h res := by
  obtain ⟨y, st1, rfl, hq1⟩ := pI_some hq
  obtain ⟨x, st2, rfl, hq2⟩ := pI_some hq1
  intro p e s m args below meth c Q C hend H locs ls hW hS hL h1 h2
  exact lv_ishl C.1 C.2.1 hd (hk _ _ _ _ _ _ hq2 p e s m args below meth c Q C hend H locs ls hW hS hL h1 h2)
theorem so_ishr (hd : decode (mC mi) pc = .ok (.ishr, 1)) (hk : KOK l D cy base ext sc k mi (pc + 1)) (hq : (pI st fun y st => pI st fun x st => k lv (.int (x >>> (y &&& 31)) :: st) cu su h) = some res) : RW l D cy base ext sc mi pc lv st cu su h res := by
  obtain ⟨y, st1, rfl, hq1⟩ := pI_some hq
  obtain ⟨x, st2, rfl, hq2⟩ := pI_some hq1
  intro p e s m args below meth c Q C hend H locs ls hW hS hL h1 h2
  exact lv_ishr C.1 C.2.1 hd (hk _ _ _ _ _ _ hq2 p e s m args below meth c Q C hend H locs ls hW hS hL h1 h2)
theorem so_iushr (hd : decode (mC mi) pc = .ok (.iushr, 1)) (hk : KOK l D cy base ext sc k mi (pc + 1)) (hq : (pI st fun y st => pI st fun x st => k lv (.int ((x.toUInt32 >>> (y.toUInt32 &&& Int32.toUInt32 31)).toInt32) :: st) cu su h) = some res) : RW l D cy base ext sc mi pc lv st cu su h res := by
  obtain ⟨y, st1, rfl, hq1⟩ := pI_some hq
  obtain ⟨x, st2, rfl, hq2⟩ := pI_some hq1
  intro p e s m args below meth c Q C hend H locs ls hW hS hL h1 h2
  exact lv_iushr C.1 C.2.1 hd rfl (hk _ _ _ _ _ _ hq2 p e s m args below meth c Q C hend H locs ls hW hS hL h1 h2)
theorem so_idiv (hd : decode (mC mi) pc = .ok (.idiv, 1)) (hk : KOK l D cy base ext sc k mi (pc + 1)) (hq : (pI st fun y st => pI st fun x st => if y = 0 then none else k lv (.int (x / y) :: st) cu su h) = some res) : RW l D cy base ext sc mi pc lv st cu su h res := by
  obtain ⟨y, st1, rfl, hq1⟩ := pI_some hq
  obtain ⟨x, st2, rfl, hq2⟩ := pI_some hq1
  obtain ⟨hz, hq3⟩ := nif_some hq2
  intro p e s m args below meth c Q C hend H locs ls hW hS hL h1 h2
  exact lv_idiv C.1 C.2.1 hd hz (hk _ _ _ _ _ _ hq3 p e s m args below meth c Q C hend H locs ls hW hS hL h1 h2)
theorem so_irem (hd : decode (mC mi) pc = .ok (.irem, 1)) (hk : KOK l D cy base ext sc k mi (pc + 1)) (hq : (pI st fun y st => pI st fun x st => if y = 0 then none else k lv (.int (x - x / y * y) :: st) cu su h) = some res) : RW l D cy base ext sc mi pc lv st cu su h res := by
  obtain ⟨y, st1, rfl, hq1⟩ := pI_some hq
  obtain ⟨x, st2, rfl, hq2⟩ := pI_some hq1
  obtain ⟨hz, hq3⟩ := nif_some hq2
  intro p e s m args below meth c Q C hend H locs ls hW hS hL h1 h2
  exact lv_irem C.1 C.2.1 hd hz (hk _ _ _ _ _ _ hq3 p e s m args below meth c Q C hend H locs ls hW hS hL h1 h2)
theorem so_ladd (hd : decode (mC mi) pc = .ok (.ladd, 1)) (hk : KOK l D cy base ext sc k mi (pc + 1)) (hq : (pJ st fun y st => pJ st fun x st => k lv (.long (x + y) :: st) cu su h) = some res) : RW l D cy base ext sc mi pc lv st cu su h res := by
  obtain ⟨y, st1, rfl, hq1⟩ := pJ_some hq
  obtain ⟨x, st2, rfl, hq2⟩ := pJ_some hq1
  intro p e s m args below meth c Q C hend H locs ls hW hS hL h1 h2
  exact lv_ladd C.1 C.2.1 hd (hk _ _ _ _ _ _ hq2 p e s m args below meth c Q C hend H locs ls hW hS hL h1 h2)
theorem so_lsub (hd : decode (mC mi) pc = .ok (.lsub, 1)) (hk : KOK l D cy base ext sc k mi (pc + 1)) (hq : (pJ st fun y st => pJ st fun x st => k lv (.long (x - y) :: st) cu su h) = some res) : RW l D cy base ext sc mi pc lv st cu su h res := by
  obtain ⟨y, st1, rfl, hq1⟩ := pJ_some hq
  obtain ⟨x, st2, rfl, hq2⟩ := pJ_some hq1
  intro p e s m args below meth c Q C hend H locs ls hW hS hL h1 h2
  exact lv_lsub C.1 C.2.1 hd (hk _ _ _ _ _ _ hq2 p e s m args below meth c Q C hend H locs ls hW hS hL h1 h2)
theorem so_lmul (hd : decode (mC mi) pc = .ok (.lmul, 1)) (hk : KOK l D cy base ext sc k mi (pc + 1)) (hq : (pJ st fun y st => pJ st fun x st => k lv (.long (x * y) :: st) cu su h) = some res) : RW l D cy base ext sc mi pc lv st cu su h res := by
  obtain ⟨y, st1, rfl, hq1⟩ := pJ_some hq
  obtain ⟨x, st2, rfl, hq2⟩ := pJ_some hq1
  intro p e s m args below meth c Q C hend H locs ls hW hS hL h1 h2
  exact lv_lmul C.1 C.2.1 hd (hk _ _ _ _ _ _ hq2 p e s m args below meth c Q C hend H locs ls hW hS hL h1 h2)
theorem so_land (hd : decode (mC mi) pc = .ok (.land, 1)) (hk : KOK l D cy base ext sc k mi (pc + 1)) (hq : (pJ st fun y st => pJ st fun x st => k lv (.long (x &&& y) :: st) cu su h) = some res) : RW l D cy base ext sc mi pc lv st cu su h res := by
  obtain ⟨y, st1, rfl, hq1⟩ := pJ_some hq
  obtain ⟨x, st2, rfl, hq2⟩ := pJ_some hq1
  intro p e s m args below meth c Q C hend H locs ls hW hS hL h1 h2
  exact lv_land C.1 C.2.1 hd (hk _ _ _ _ _ _ hq2 p e s m args below meth c Q C hend H locs ls hW hS hL h1 h2)
theorem so_ldiv (hd : decode (mC mi) pc = .ok (.ldiv, 1)) (hk : KOK l D cy base ext sc k mi (pc + 1)) (hq : (pJ st fun y st => pJ st fun x st => if y = 0 then none else k lv (.long (x / y) :: st) cu su h) = some res) : RW l D cy base ext sc mi pc lv st cu su h res := by
  obtain ⟨y, st1, rfl, hq1⟩ := pJ_some hq
  obtain ⟨x, st2, rfl, hq2⟩ := pJ_some hq1
  obtain ⟨hz, hq3⟩ := nif_some hq2
  intro p e s m args below meth c Q C hend H locs ls hW hS hL h1 h2
  exact lv_ldiv C.1 C.2.1 hd hz (hk _ _ _ _ _ _ hq3 p e s m args below meth c Q C hend H locs ls hW hS hL h1 h2)
theorem so_lrem (hd : decode (mC mi) pc = .ok (.lrem, 1)) (hk : KOK l D cy base ext sc k mi (pc + 1)) (hq : (pJ st fun y st => pJ st fun x st => if y = 0 then none else k lv (.long (x - x / y * y) :: st) cu su h) = some res) : RW l D cy base ext sc mi pc lv st cu su h res := by
  obtain ⟨y, st1, rfl, hq1⟩ := pJ_some hq
  obtain ⟨x, st2, rfl, hq2⟩ := pJ_some hq1
  obtain ⟨hz, hq3⟩ := nif_some hq2
  intro p e s m args below meth c Q C hend H locs ls hW hS hL h1 h2
  exact lv_lrem C.1 C.2.1 hd hz (hk _ _ _ _ _ _ hq3 p e s m args below meth c Q C hend H locs ls hW hS hL h1 h2)
theorem so_lneg (hd : decode (mC mi) pc = .ok (.lneg, 1)) (hk : KOK l D cy base ext sc k mi (pc + 1)) (hq : (pJ st fun x st => k lv (.long (-x) :: st) cu su h) = some res) : RW l D cy base ext sc mi pc lv st cu su h res := by
  obtain ⟨x, st1, rfl, hq1⟩ := pJ_some hq
  intro p e s m args below meth c Q C hend H locs ls hW hS hL h1 h2
  exact lv_lneg C.1 C.2.1 hd (hk _ _ _ _ _ _ hq1 p e s m args below meth c Q C hend H locs ls hW hS hL h1 h2)
theorem so_lcmp (hd : decode (mC mi) pc = .ok (.lcmp, 1)) (hk : KOK l D cy base ext sc k mi (pc + 1)) (hq : (pJ st fun y st => pJ st fun x st => k lv (.int (lg_cmp x y) :: st) cu su h) = some res) : RW l D cy base ext sc mi pc lv st cu su h res := by
  obtain ⟨y, st1, rfl, hq1⟩ := pJ_some hq
  obtain ⟨x, st2, rfl, hq2⟩ := pJ_some hq1
  intro p e s m args below meth c Q C hend H locs ls hW hS hL h1 h2
  exact W.lcmp C.1 C.2.1 hd (hk _ _ _ _ _ _ hq2 p e s m args below meth c Q C hend H locs ls hW hS hL h1 h2)
theorem so_i2l (hd : decode (mC mi) pc = .ok (.i2l, 1)) (hk : KOK l D cy base ext sc k mi (pc + 1)) (hq : (pI st fun x st => k lv (.long x.toInt64 :: st) cu su h) = some res) : RW l D cy base ext sc mi pc lv st cu su h res := by
  obtain ⟨x, st1, rfl, hq1⟩ := pI_some hq
  intro p e s m args below meth c Q C hend H locs ls hW hS hL h1 h2
  exact lv_i2l C.1 C.2.1 hd rfl (hk _ _ _ _ _ _ hq1 p e s m args below meth c Q C hend H locs ls hW hS hL h1 h2)
theorem so_l2i (hd : decode (mC mi) pc = .ok (.l2i, 1)) (hk : KOK l D cy base ext sc k mi (pc + 1)) (hq : (pJ st fun x st => k lv (.int x.toInt32 :: st) cu su h) = some res) : RW l D cy base ext sc mi pc lv st cu su h res := by
  obtain ⟨x, st1, rfl, hq1⟩ := pJ_some hq
  intro p e s m args below meth c Q C hend H locs ls hW hS hL h1 h2
  exact lv_l2i C.1 C.2.1 hd rfl (hk _ _ _ _ _ _ hq1 p e s m args below meth c Q C hend H locs ls hW hS hL h1 h2)
theorem so_i2c (hd : decode (mC mi) pc = .ok (.i2c, 1)) (hk : KOK l D cy base ext sc k mi (pc + 1)) (hq : (pI st fun x st => k lv (.int (x.toUInt32 % 65536).toInt32 :: st) cu su h) = some res) : RW l D cy base ext sc mi pc lv st cu su h res := by
  obtain ⟨x, st1, rfl, hq1⟩ := pI_some hq
  intro p e s m args below meth c Q C hend H locs ls hW hS hL h1 h2
  exact lv_i2c C.1 C.2.1 hd rfl (hk _ _ _ _ _ _ hq1 p e s m args below meth c Q C hend H locs ls hW hS hL h1 h2)
theorem so_iconst {n : Int} (hd : decode (mC mi) pc = .ok (.iconst n, 1)) (hk : KOK l D cy base ext sc k mi (pc + 1)) (hq : (k lv (.int (Int32.ofInt n) :: st) cu su h) = some res) : RW l D cy base ext sc mi pc lv st cu su h res := by
  intro p e s m args below meth c Q C hend H locs ls hW hS hL h1 h2
  exact lv_iconst C.1 C.2.1 hd rfl (hk _ _ _ _ _ _ hq p e s m args below meth c Q C hend H locs ls hW hS hL h1 h2)
theorem so_bipush {n : Int} (hd : decode (mC mi) pc = .ok (.bipush n, 2)) (hk : KOK l D cy base ext sc k mi (pc + 2)) (hq : (k lv (.int (Int8.ofInt n).toInt32 :: st) cu su h) = some res) : RW l D cy base ext sc mi pc lv st cu su h res := by
  intro p e s m args below meth c Q C hend H locs ls hW hS hL h1 h2
  exact lv_bipush C.1 C.2.1 hd rfl (hk _ _ _ _ _ _ hq p e s m args below meth c Q C hend H locs ls hW hS hL h1 h2)
theorem so_sipush {n : Int} (hd : decode (mC mi) pc = .ok (.sipush n, 3)) (hk : KOK l D cy base ext sc k mi (pc + 3)) (hq : (k lv (.int (Int16.ofInt n).toInt32 :: st) cu su h) = some res) : RW l D cy base ext sc mi pc lv st cu su h res := by
  intro p e s m args below meth c Q C hend H locs ls hW hS hL h1 h2
  exact lv_sipush C.1 C.2.1 hd rfl (hk _ _ _ _ _ _ hq p e s m args below meth c Q C hend H locs ls hW hS hL h1 h2)
theorem so_lconst {n : Fin 2} (hd : decode (mC mi) pc = .ok (.lconst n, 1)) (hk : KOK l D cy base ext sc k mi (pc + 1)) (hq : (k lv (.long (Int64.ofNat (n : Nat)) :: st) cu su h) = some res) : RW l D cy base ext sc mi pc lv st cu su h res := by
  intro p e s m args below meth c Q C hend H locs ls hW hS hL h1 h2
  exact lv_lconst C.1 C.2.1 hd rfl (hk _ _ _ _ _ _ hq p e s m args below meth c Q C hend H locs ls hW hS hL h1 h2)
theorem so_ldc {ix v pos : Nat} (hd : decode (mC mi) pc = .ok (.ldc ix, 2)) (hk : KOK l D cy base ext sc k mi (pc + 2)) (hc : lw_tbl[pos]? = some (.constant (ownS (mO mi)) ix (Int32.ofNat v))) (hq : (k lv (.int (Int32.ofNat v) :: st) cu su h) = some res) : RW l D cy base ext sc mi pc lv st cu su h res := by
  intro p e s m args below meth c Q C hend H locs ls hW hS hL h1 h2
  exact lv_ldc C.1 C.2.1 C.2.2.2.1 (C.2.2.2.2.1 _ (tw_at pos hc rfl)) hd (hk _ _ _ _ _ _ hq p e s m args below meth c Q C hend H locs ls hW hS hL h1 h2)
theorem so_ldc_w {ix v pos : Nat} (hd : decode (mC mi) pc = .ok (.ldc_w ix, 3)) (hk : KOK l D cy base ext sc k mi (pc + 3)) (hc : lw_tbl[pos]? = some (.constant (ownS (mO mi)) ix (Int32.ofNat v))) (hq : (k lv (.int (Int32.ofNat v) :: st) cu su h) = some res) : RW l D cy base ext sc mi pc lv st cu su h res := by
  intro p e s m args below meth c Q C hend H locs ls hW hS hL h1 h2
  exact lv_ldcw C.1 C.2.1 C.2.2.2.1 (C.2.2.2.2.1 _ (tw_at pos hc rfl)) hd (hk _ _ _ _ _ _ hq p e s m args below meth c Q C hend H locs ls hW hS hL h1 h2)
theorem so_ldc2 {ix v pos : Nat} (hd : decode (mC mi) pc = .ok (.ldc2_w ix, 3)) (hk : KOK l D cy base ext sc k mi (pc + 3)) (hc : lw_tbl[pos]? = some (.constantLong (ownS (mO mi)) ix (Int64.ofNat v))) (hq : (k lv (.long (Int64.ofNat v) :: st) cu su h) = some res) : RW l D cy base ext sc mi pc lv st cu su h res := by
  intro p e s m args below meth c Q C hend H locs ls hW hS hL h1 h2
  exact lv_ldc2 C.1 C.2.1 C.2.2.2.1 (C.2.2.2.2.1 _ (tw_at pos hc rfl)) hd (hk _ _ _ _ _ _ hq p e s m args below meth c Q C hend H locs ls hW hS hL h1 h2)
theorem so_iload {n : Nat} (hd : decode (mC mi) pc = .ok (.iload n, 2)) (hk : KOK l D cy base ext sc k mi (pc + 2)) (hq : (gI lv n fun a => k lv (.int a :: st) cu su h) = some res) : RW l D cy base ext sc mi pc lv st cu su h res := by
  obtain ⟨a, ha, hq1⟩ := gI_some hq
  intro p e s m args below meth c Q C hend H locs ls hW hS hL h1 h2
  exact lv_iload C.1 C.2.1 hd (hL.2.2.2 _ _ (lget_some ha)).1 (hk _ _ _ _ _ _ hq1 p e s m args below meth c Q C hend H locs ls hW hS hL h1 h2)
theorem so_iload_n {n : Fin 4} (hd : decode (mC mi) pc = .ok (.iload_n n, 1)) (hk : KOK l D cy base ext sc k mi (pc + 1)) (hq : (gI lv n fun a => k lv (.int a :: st) cu su h) = some res) : RW l D cy base ext sc mi pc lv st cu su h res := by
  obtain ⟨a, ha, hq1⟩ := gI_some hq
  intro p e s m args below meth c Q C hend H locs ls hW hS hL h1 h2
  exact lv_iload_n C.1 C.2.1 hd rfl (hL.2.2.2 _ _ (lget_some ha)).1 (hk _ _ _ _ _ _ hq1 p e s m args below meth c Q C hend H locs ls hW hS hL h1 h2)
theorem so_lload {n : Nat} (hd : decode (mC mi) pc = .ok (.lload n, 2)) (hk : KOK l D cy base ext sc k mi (pc + 2)) (hq : (gJ lv n fun a => k lv (.long a :: st) cu su h) = some res) : RW l D cy base ext sc mi pc lv st cu su h res := by
  obtain ⟨a, ha, hq1⟩ := gJ_some hq
  intro p e s m args below meth c Q C hend H locs ls hW hS hL h1 h2
  exact lv_lload C.1 C.2.1 hd (hL.2.2.2 _ _ (lget_some ha)).1 (hk _ _ _ _ _ _ hq1 p e s m args below meth c Q C hend H locs ls hW hS hL h1 h2)
theorem so_lload_n {n : Fin 4} (hd : decode (mC mi) pc = .ok (.lload_n n, 1)) (hk : KOK l D cy base ext sc k mi (pc + 1)) (hq : (gJ lv n fun a => k lv (.long a :: st) cu su h) = some res) : RW l D cy base ext sc mi pc lv st cu su h res := by
  obtain ⟨a, ha, hq1⟩ := gJ_some hq
  intro p e s m args below meth c Q C hend H locs ls hW hS hL h1 h2
  exact lv_lload_n C.1 C.2.1 hd rfl (hL.2.2.2 _ _ (lget_some ha)).1 (hk _ _ _ _ _ _ hq1 p e s m args below meth c Q C hend H locs ls hW hS hL h1 h2)
theorem so_aload {n : Nat} (hd : decode (mC mi) pc = .ok (.aload n, 2)) (hk : KOK l D cy base ext sc k mi (pc + 2)) (hq : (gA lv n fun a => k lv (.ref a :: st) cu su h) = some res) : RW l D cy base ext sc mi pc lv st cu su h res := by
  obtain ⟨a, ha, hq1⟩ := gA_some hq
  intro p e s m args below meth c Q C hend H locs ls hW hS hL h1 h2
  exact lv_aload C.1 C.2.1 hd (hL.2.2.2 _ _ (lget_some ha)).1 (hk _ _ _ _ _ _ hq1 p e s m args below meth c Q C hend H locs ls hW hS hL h1 h2)
theorem so_aload_n {n : Fin 4} (hd : decode (mC mi) pc = .ok (.aload_n n, 1)) (hk : KOK l D cy base ext sc k mi (pc + 1)) (hq : (gA lv n fun a => k lv (.ref a :: st) cu su h) = some res) : RW l D cy base ext sc mi pc lv st cu su h res := by
  obtain ⟨a, ha, hq1⟩ := gA_some hq
  intro p e s m args below meth c Q C hend H locs ls hW hS hL h1 h2
  exact lv_aload_n C.1 C.2.1 hd rfl (hL.2.2.2 _ _ (lget_some ha)).1 (hk _ _ _ _ _ _ hq1 p e s m args below meth c Q C hend H locs ls hW hS hL h1 h2)
theorem so_istore {n : Nat} (hd : decode (mC mi) pc = .ok (.istore n, 2)) (hk : KOK l D cy base ext sc k mi (pc + 2)) (hi : n = 0 ∨ n - 1 ∉ LSm mi) (hq : (pI st fun x st => if n < lv.length then k (lset1 lv n (.int x)) st cu su h else none) = some res) : RW l D cy base ext sc mi pc lv st cu su h res := by
  obtain ⟨x, st1, rfl, hq1⟩ := pI_some hq
  obtain ⟨hn, hq2⟩ := if_some hq1
  intro p e s m args below meth c Q C hend H locs ls hW hS hL h1 h2
  exact lv_istore C.1 C.2.1 hd hL.has (by rw [← hL.1]; exact hn) rfl (fun ls' h' => hk _ _ _ _ _ _ hq2 p e s m args below meth c Q C hend H locs ls' hW hS (hL.store1 hi rfl h') h1 h2)
theorem so_istore_n {n : Fin 4} (hd : decode (mC mi) pc = .ok (.istore_n n, 1)) (hk : KOK l D cy base ext sc k mi (pc + 1)) (hi : (n : Nat) = 0 ∨ (n : Nat) - 1 ∉ LSm mi) (hq : (pI st fun x st => if (n : Nat) < lv.length then k (lset1 lv n (.int x)) st cu su h else none) = some res) : RW l D cy base ext sc mi pc lv st cu su h res := by
  obtain ⟨x, st1, rfl, hq1⟩ := pI_some hq
  obtain ⟨hn, hq2⟩ := if_some hq1
  intro p e s m args below meth c Q C hend H locs ls hW hS hL h1 h2
  exact lv_istore_n C.1 C.2.1 hd rfl hL.has (by rw [← hL.1]; exact hn) rfl (fun ls' h' => hk _ _ _ _ _ _ hq2 p e s m args below meth c Q C hend H locs ls' hW hS (hL.store1 hi rfl h') h1 h2)
theorem so_astore {n : Nat} (hd : decode (mC mi) pc = .ok (.astore n, 2)) (hk : KOK l D cy base ext sc k mi (pc + 2)) (hi : n = 0 ∨ n - 1 ∉ LSm mi) (hq : (pA st fun x st => if n < lv.length then k (lset1 lv n (.ref x)) st cu su h else none) = some res) : RW l D cy base ext sc mi pc lv st cu su h res := by
  obtain ⟨x, st1, rfl, hq1⟩ := pA_some hq
  obtain ⟨hn, hq2⟩ := if_some hq1
  intro p e s m args below meth c Q C hend H locs ls hW hS hL h1 h2
  exact lv_astore C.1 C.2.1 hd hL.has (by rw [← hL.1]; exact hn) rfl (fun ls' h' => hk _ _ _ _ _ _ hq2 p e s m args below meth c Q C hend H locs ls' hW hS (hL.store1 hi rfl h') h1 h2)
theorem so_astore_n {n : Fin 4} (hd : decode (mC mi) pc = .ok (.astore_n n, 1)) (hk : KOK l D cy base ext sc k mi (pc + 1)) (hi : (n : Nat) = 0 ∨ (n : Nat) - 1 ∉ LSm mi) (hq : (pA st fun x st => if (n : Nat) < lv.length then k (lset1 lv n (.ref x)) st cu su h else none) = some res) : RW l D cy base ext sc mi pc lv st cu su h res := by
  obtain ⟨x, st1, rfl, hq1⟩ := pA_some hq
  obtain ⟨hn, hq2⟩ := if_some hq1
  intro p e s m args below meth c Q C hend H locs ls hW hS hL h1 h2
  exact lv_astore_n C.1 C.2.1 hd rfl hL.has (by rw [← hL.1]; exact hn) rfl (fun ls' h' => hk _ _ _ _ _ _ hq2 p e s m args below meth c Q C hend H locs ls' hW hS (hL.store1 hi rfl h') h1 h2)
theorem so_lstore {n : Nat} (hd : decode (mC mi) pc = .ok (.lstore n, 2)) (hk : KOK l D cy base ext sc k mi (pc + 2)) (hi : n = 0 ∨ n - 1 ∉ LSm mi) (hi2 : n ∈ LSm mi) (hq : (pJ st fun x st => if n + 1 < lv.length then k (lset2 lv n (.long x)) st cu su h else none) = some res) : RW l D cy base ext sc mi pc lv st cu su h res := by
  obtain ⟨x, st1, rfl, hq1⟩ := pJ_some hq
  obtain ⟨hn, hq2⟩ := if_some hq1
  intro p e s m args below meth c Q C hend H locs ls hW hS hL h1 h2
  exact lv_lstore C.1 C.2.1 hd hL.has (by rw [← hL.1]; exact hn) rfl (fun ls' h' => hk _ _ _ _ _ _ hq2 p e s m args below meth c Q C hend H locs ls' hW hS (hL.store2 hi hi2 h') h1 h2)
theorem so_lstore_n {n : Fin 4} (hd : decode (mC mi) pc = .ok (.lstore_n n, 1)) (hk : KOK l D cy base ext sc k mi (pc + 1)) (hi : (n : Nat) = 0 ∨ (n : Nat) - 1 ∉ LSm mi) (hi2 : (n : Nat) ∈ LSm mi) (hq : (pJ st fun x st => if (n : Nat) + 1 < lv.length then k (lset2 lv n (.long x)) st cu su h else none) = some res) : RW l D cy base ext sc mi pc lv st cu su h res := by
  obtain ⟨x, st1, rfl, hq1⟩ := pJ_some hq
  obtain ⟨hn, hq2⟩ := if_some hq1
  intro p e s m args below meth c Q C hend H locs ls hW hS hL h1 h2
  exact lv_lstore_n C.1 C.2.1 hd rfl hL.has (by rw [← hL.1]; exact hn) rfl (fun ls' h' => hk _ _ _ _ _ _ hq2 p e s m args below meth c Q C hend H locs ls' hW hS (hL.store2 hi hi2 h') h1 h2)
theorem so_iinc {n : Nat} {d : Int} (hd : decode (mC mi) pc = .ok (.iinc n d, 3)) (hk : KOK l D cy base ext sc k mi (pc + 3)) (hi : n = 0 ∨ n - 1 ∉ LSm mi) (hq : (gI lv n fun x => if n < lv.length then k (lset1 lv n (.int (x + Int32.ofInt d))) st cu su h else none) = some res) : RW l D cy base ext sc mi pc lv st cu su h res := by
  obtain ⟨x, hx, hq1⟩ := gI_some hq
  obtain ⟨hn, hq2⟩ := if_some hq1
  intro p e s m args below meth c Q C hend H locs ls hW hS hL h1 h2
  obtain ⟨kk, hkk⟩ := List.getElem?_of_mem (mem_lvl (base := base) (ext := ext) (lget_some hx))
  exact lv_iinc C.1 C.2.1 hd hL.has hkk rfl (by rw [← hL.1]; exact hn) rfl (fun ls' h' => hk _ _ _ _ _ _ hq2 p e s m args below meth c Q C hend H locs ls' hW hS (hL.store1 hi rfl h') h1 h2)
theorem so_dup (hd : decode (mC mi) pc = .ok (.dup, 1)) (hk : KOK l D cy base ext sc k mi (pc + 1)) (hq : (pV st fun v st => k lv (v :: v :: st) cu su h) = some res) : RW l D cy base ext sc mi pc lv st cu su h res := by
  obtain ⟨v, st1, rfl, hc, hq1⟩ := pV_some hq
  intro p e s m args below meth c Q C hend H locs ls hW hS hL h1 h2
  exact lv_dup C.1 C.2.1 hd (by rw [tr_cat]; exact hc) (hk _ _ _ _ _ _ hq1 p e s m args below meth c Q C hend H locs ls hW hS hL h1 h2)
theorem so_dup2 (hd : decode (mC mi) pc = .ok (.dup2, 1)) (hk : KOK l D cy base ext sc k mi (pc + 1)) (hq : (pV st fun v st => pV st fun w st => k lv (v :: w :: v :: w :: st) cu su h) = some res) : RW l D cy base ext sc mi pc lv st cu su h res := by
  obtain ⟨v, st1, rfl, hc, hq1⟩ := pV_some hq
  obtain ⟨w, st2, rfl, hc2, hq2⟩ := pV_some hq1
  intro p e s m args below meth c Q C hend H locs ls hW hS hL h1 h2
  exact lv_dup2_11 C.1 C.2.1 hd (by rw [tr_cat]; exact hc) (by rw [tr_cat]; exact hc2) (hk _ _ _ _ _ _ hq2 p e s m args below meth c Q C hend H locs ls hW hS hL h1 h2)
theorem so_pop (hd : decode (mC mi) pc = .ok (.pop, 1)) (hk : KOK l D cy base ext sc k mi (pc + 1)) (hq : (pV st fun _ st => k lv st cu su h) = some res) : RW l D cy base ext sc mi pc lv st cu su h res := by
  obtain ⟨v, st1, rfl, hc, hq1⟩ := pV_some hq
  intro p e s m args below meth c Q C hend H locs ls hW hS hL h1 h2
  exact lv_pop C.1 C.2.1 hd (by rw [tr_cat]; exact hc) (hk _ _ _ _ _ _ hq1 p e s m args below meth c Q C hend H locs ls hW hS hL h1 h2)
theorem so_goto {off : Int} {t : Nat} (hd : decode (mC mi) pc = .ok (.goto off, 3)) (ht : (pc : Int) + off = (t : Int)) (hr : ROK l D cy base ext sc rec mi) (hq : rec mi t lv st cu su h = some res) : RW l D cy base ext sc mi pc lv st cu su h res := by
  intro p e s m args below meth c Q C hend H locs ls hW hS hL h1 h2
  exact lv_goto C.1 C.2.1 hd ht (hr _ _ _ _ _ _ _ hq p e s m args below meth c Q C hend H locs ls hW hS hL h1 h2)
theorem so_icmp_eq {off : Int} {t : Nat} (hd : decode (mC mi) pc = .ok (.if_icmp .eq off, 3)) (hk : KOK l D cy base ext sc k mi (pc + 3)) (ht : (pc : Int) + off = (t : Int)) (hr : ROK l D cy base ext sc rec mi) (hq : (pI st fun y st => pI st fun x st => if x = y then rec mi t lv st cu su h else k lv st cu su h) = some res) : RW l D cy base ext sc mi pc lv st cu su h res := by
  obtain ⟨y, st1, rfl, hq1⟩ := pI_some hq
  obtain ⟨x, st2, rfl, hq2⟩ := pI_some hq1
  intro p e s m args below meth c Q C hend H locs ls hW hS hL h1 h2
  exact lv_icmp_eq (tgt := t) C.1 C.2.1 hd ht (fun cc => by rw [if_pos cc] at hq2; exact hr _ _ _ _ _ _ _ hq2 p e s m args below meth c Q C hend H locs ls hW hS hL h1 h2) (fun cc => by rw [if_neg cc] at hq2; exact hk _ _ _ _ _ _ hq2 p e s m args below meth c Q C hend H locs ls hW hS hL h1 h2)
theorem so_if_eq {off : Int} {t : Nat} (hd : decode (mC mi) pc = .ok (.ifCond .eq off, 3)) (hk : KOK l D cy base ext sc k mi (pc + 3)) (ht : (pc : Int) + off = (t : Int)) (hr : ROK l D cy base ext sc rec mi) (hq : (pI st fun x st => if x = 0 then rec mi t lv st cu su h else k lv st cu su h) = some res) : RW l D cy base ext sc mi pc lv st cu su h res := by
  obtain ⟨x, st1, rfl, hq1⟩ := pI_some hq
  intro p e s m args below meth c Q C hend H locs ls hW hS hL h1 h2
  exact lv_if_eq (tgt := t) C.1 C.2.1 hd ht (fun cc => by rw [if_pos cc] at hq1; exact hr _ _ _ _ _ _ _ hq1 p e s m args below meth c Q C hend H locs ls hW hS hL h1 h2) (fun cc => by rw [if_neg cc] at hq1; exact hk _ _ _ _ _ _ hq1 p e s m args below meth c Q C hend H locs ls hW hS hL h1 h2)
theorem so_icmp_ne {off : Int} {t : Nat} (hd : decode (mC mi) pc = .ok (.if_icmp .ne off, 3)) (hk : KOK l D cy base ext sc k mi (pc + 3)) (ht : (pc : Int) + off = (t : Int)) (hr : ROK l D cy base ext sc rec mi) (hq : (pI st fun y st => pI st fun x st => if x ≠ y then rec mi t lv st cu su h else k lv st cu su h) = some res) : RW l D cy base ext sc mi pc lv st cu su h res := by
  obtain ⟨y, st1, rfl, hq1⟩ := pI_some hq
  obtain ⟨x, st2, rfl, hq2⟩ := pI_some hq1
  intro p e s m args below meth c Q C hend H locs ls hW hS hL h1 h2
  exact lv_icmp_ne (tgt := t) C.1 C.2.1 hd ht (fun cc => by rw [if_pos cc] at hq2; exact hr _ _ _ _ _ _ _ hq2 p e s m args below meth c Q C hend H locs ls hW hS hL h1 h2) (fun cc => by rw [if_neg (fun q => q cc)] at hq2; exact hk _ _ _ _ _ _ hq2 p e s m args below meth c Q C hend H locs ls hW hS hL h1 h2)
theorem so_if_ne {off : Int} {t : Nat} (hd : decode (mC mi) pc = .ok (.ifCond .ne off, 3)) (hk : KOK l D cy base ext sc k mi (pc + 3)) (ht : (pc : Int) + off = (t : Int)) (hr : ROK l D cy base ext sc rec mi) (hq : (pI st fun x st => if x ≠ 0 then rec mi t lv st cu su h else k lv st cu su h) = some res) : RW l D cy base ext sc mi pc lv st cu su h res := by
  obtain ⟨x, st1, rfl, hq1⟩ := pI_some hq
  intro p e s m args below meth c Q C hend H locs ls hW hS hL h1 h2
  exact lv_if_ne (tgt := t) C.1 C.2.1 hd ht (fun cc => by rw [if_pos cc] at hq1; exact hr _ _ _ _ _ _ _ hq1 p e s m args below meth c Q C hend H locs ls hW hS hL h1 h2) (fun cc => by rw [if_neg (fun q => q cc)] at hq1; exact hk _ _ _ _ _ _ hq1 p e s m args below meth c Q C hend H locs ls hW hS hL h1 h2)
theorem so_icmp_lt {off : Int} {t : Nat} (hd : decode (mC mi) pc = .ok (.if_icmp .lt off, 3)) (hk : KOK l D cy base ext sc k mi (pc + 3)) (ht : (pc : Int) + off = (t : Int)) (hr : ROK l D cy base ext sc rec mi) (hq : (pI st fun y st => pI st fun x st => if x < y then rec mi t lv st cu su h else k lv st cu su h) = some res) : RW l D cy base ext sc mi pc lv st cu su h res := by
  obtain ⟨y, st1, rfl, hq1⟩ := pI_some hq
  obtain ⟨x, st2, rfl, hq2⟩ := pI_some hq1
  intro p e s m args below meth c Q C hend H locs ls hW hS hL h1 h2
  exact lv_icmp_lt (tgt := t) C.1 C.2.1 hd ht (fun cc => by rw [if_pos cc] at hq2; exact hr _ _ _ _ _ _ _ hq2 p e s m args below meth c Q C hend H locs ls hW hS hL h1 h2) (fun cc => by rw [if_neg cc] at hq2; exact hk _ _ _ _ _ _ hq2 p e s m args below meth c Q C hend H locs ls hW hS hL h1 h2)
theorem so_if_lt {off : Int} {t : Nat} (hd : decode (mC mi) pc = .ok (.ifCond .lt off, 3)) (hk : KOK l D cy base ext sc k mi (pc + 3)) (ht : (pc : Int) + off = (t : Int)) (hr : ROK l D cy base ext sc rec mi) (hq : (pI st fun x st => if x < 0 then rec mi t lv st cu su h else k lv st cu su h) = some res) : RW l D cy base ext sc mi pc lv st cu su h res := by
  obtain ⟨x, st1, rfl, hq1⟩ := pI_some hq
  intro p e s m args below meth c Q C hend H locs ls hW hS hL h1 h2
  exact lv_if_lt (tgt := t) C.1 C.2.1 hd ht (fun cc => by rw [if_pos cc] at hq1; exact hr _ _ _ _ _ _ _ hq1 p e s m args below meth c Q C hend H locs ls hW hS hL h1 h2) (fun cc => by rw [if_neg cc] at hq1; exact hk _ _ _ _ _ _ hq1 p e s m args below meth c Q C hend H locs ls hW hS hL h1 h2)
theorem so_icmp_ge {off : Int} {t : Nat} (hd : decode (mC mi) pc = .ok (.if_icmp .ge off, 3)) (hk : KOK l D cy base ext sc k mi (pc + 3)) (ht : (pc : Int) + off = (t : Int)) (hr : ROK l D cy base ext sc rec mi) (hq : (pI st fun y st => pI st fun x st => if y ≤ x then rec mi t lv st cu su h else k lv st cu su h) = some res) : RW l D cy base ext sc mi pc lv st cu su h res := by
  obtain ⟨y, st1, rfl, hq1⟩ := pI_some hq
  obtain ⟨x, st2, rfl, hq2⟩ := pI_some hq1
  intro p e s m args below meth c Q C hend H locs ls hW hS hL h1 h2
  exact lv_icmp_ge (tgt := t) C.1 C.2.1 hd ht (fun cc => by rw [if_pos cc] at hq2; exact hr _ _ _ _ _ _ _ hq2 p e s m args below meth c Q C hend H locs ls hW hS hL h1 h2) (fun cc => by rw [if_neg cc] at hq2; exact hk _ _ _ _ _ _ hq2 p e s m args below meth c Q C hend H locs ls hW hS hL h1 h2)
theorem so_if_ge {off : Int} {t : Nat} (hd : decode (mC mi) pc = .ok (.ifCond .ge off, 3)) (hk : KOK l D cy base ext sc k mi (pc + 3)) (ht : (pc : Int) + off = (t : Int)) (hr : ROK l D cy base ext sc rec mi) (hq : (pI st fun x st => if 0 ≤ x then rec mi t lv st cu su h else k lv st cu su h) = some res) : RW l D cy base ext sc mi pc lv st cu su h res := by
  obtain ⟨x, st1, rfl, hq1⟩ := pI_some hq
  intro p e s m args below meth c Q C hend H locs ls hW hS hL h1 h2
  exact lv_if_ge (tgt := t) C.1 C.2.1 hd ht (fun cc => by rw [if_pos cc] at hq1; exact hr _ _ _ _ _ _ _ hq1 p e s m args below meth c Q C hend H locs ls hW hS hL h1 h2) (fun cc => by rw [if_neg cc] at hq1; exact hk _ _ _ _ _ _ hq1 p e s m args below meth c Q C hend H locs ls hW hS hL h1 h2)
theorem so_icmp_gt {off : Int} {t : Nat} (hd : decode (mC mi) pc = .ok (.if_icmp .gt off, 3)) (hk : KOK l D cy base ext sc k mi (pc + 3)) (ht : (pc : Int) + off = (t : Int)) (hr : ROK l D cy base ext sc rec mi) (hq : (pI st fun y st => pI st fun x st => if y < x then rec mi t lv st cu su h else k lv st cu su h) = some res) : RW l D cy base ext sc mi pc lv st cu su h res := by
  obtain ⟨y, st1, rfl, hq1⟩ := pI_some hq
  obtain ⟨x, st2, rfl, hq2⟩ := pI_some hq1
  intro p e s m args below meth c Q C hend H locs ls hW hS hL h1 h2
  exact lv_icmp_gt (tgt := t) C.1 C.2.1 hd ht (fun cc => by rw [if_pos cc] at hq2; exact hr _ _ _ _ _ _ _ hq2 p e s m args below meth c Q C hend H locs ls hW hS hL h1 h2) (fun cc => by rw [if_neg cc] at hq2; exact hk _ _ _ _ _ _ hq2 p e s m args below meth c Q C hend H locs ls hW hS hL h1 h2)
theorem so_if_gt {off : Int} {t : Nat} (hd : decode (mC mi) pc = .ok (.ifCond .gt off, 3)) (hk : KOK l D cy base ext sc k mi (pc + 3)) (ht : (pc : Int) + off = (t : Int)) (hr : ROK l D cy base ext sc rec mi) (hq : (pI st fun x st => if 0 < x then rec mi t lv st cu su h else k lv st cu su h) = some res) : RW l D cy base ext sc mi pc lv st cu su h res := by
  obtain ⟨x, st1, rfl, hq1⟩ := pI_some hq
  intro p e s m args below meth c Q C hend H locs ls hW hS hL h1 h2
  exact lv_if_gt (tgt := t) C.1 C.2.1 hd ht (fun cc => by rw [if_pos cc] at hq1; exact hr _ _ _ _ _ _ _ hq1 p e s m args below meth c Q C hend H locs ls hW hS hL h1 h2) (fun cc => by rw [if_neg cc] at hq1; exact hk _ _ _ _ _ _ hq1 p e s m args below meth c Q C hend H locs ls hW hS hL h1 h2)
theorem so_icmp_le {off : Int} {t : Nat} (hd : decode (mC mi) pc = .ok (.if_icmp .le off, 3)) (hk : KOK l D cy base ext sc k mi (pc + 3)) (ht : (pc : Int) + off = (t : Int)) (hr : ROK l D cy base ext sc rec mi) (hq : (pI st fun y st => pI st fun x st => if x ≤ y then rec mi t lv st cu su h else k lv st cu su h) = some res) : RW l D cy base ext sc mi pc lv st cu su h res := by
  obtain ⟨y, st1, rfl, hq1⟩ := pI_some hq
  obtain ⟨x, st2, rfl, hq2⟩ := pI_some hq1
  intro p e s m args below meth c Q C hend H locs ls hW hS hL h1 h2
  exact lv_icmp_le (tgt := t) C.1 C.2.1 hd ht (fun cc => by rw [if_pos cc] at hq2; exact hr _ _ _ _ _ _ _ hq2 p e s m args below meth c Q C hend H locs ls hW hS hL h1 h2) (fun cc => by rw [if_neg cc] at hq2; exact hk _ _ _ _ _ _ hq2 p e s m args below meth c Q C hend H locs ls hW hS hL h1 h2)
theorem so_if_le {off : Int} {t : Nat} (hd : decode (mC mi) pc = .ok (.ifCond .le off, 3)) (hk : KOK l D cy base ext sc k mi (pc + 3)) (ht : (pc : Int) + off = (t : Int)) (hr : ROK l D cy base ext sc rec mi) (hq : (pI st fun x st => if x ≤ 0 then rec mi t lv st cu su h else k lv st cu su h) = some res) : RW l D cy base ext sc mi pc lv st cu su h res := by
  obtain ⟨x, st1, rfl, hq1⟩ := pI_some hq
  intro p e s m args below meth c Q C hend H locs ls hW hS hL h1 h2
  exact lv_if_le (tgt := t) C.1 C.2.1 hd ht (fun cc => by rw [if_pos cc] at hq1; exact hr _ _ _ _ _ _ _ hq1 p e s m args below meth c Q C hend H locs ls hW hS hL h1 h2) (fun cc => by rw [if_neg cc] at hq1; exact hk _ _ _ _ _ _ hq1 p e s m args below meth c Q C hend H locs ls hW hS hL h1 h2)
theorem so_ireturn0 (hd : decode (mC mi) pc = .ok (.ireturn, 1)) (hr : mR mi = some .int) (hq : (pI st fun x st => match st with | [] => some (h, some (.int x)) | _ => none) = some res) : RW l D cy base ext sc mi pc lv st cu su h res := by
  obtain ⟨x, st1, rfl, hq1⟩ := pI_some hq
  cases st1 with
  | nil =>
    cases hq1
    intro p e s m args below meth c Q C hend H locs ls hW hS hL h1 h2
    exact hend pc ls H locs cu su hW hS h1 h2 (Or.inl ⟨x, rfl, hd, Or.inl hr⟩)
  | cons _ _ => cases hq1
theorem so_ireturn3 (hd : decode (mC mi) pc = .ok (.ireturn, 1)) (hr : mR mi = some .boolean) (hq : (pI st fun x st => match st with | [] => if x = 0 ∨ x = 1 then some (h, some (.int x)) else none | _ => none) = some res) : RW l D cy base ext sc mi pc lv st cu su h res := by
  obtain ⟨x, st1, rfl, hq1⟩ := pI_some hq
  cases st1 with
  | nil =>
    obtain ⟨hx, hq2⟩ := if_some hq1
    cases hq2
    intro p e s m args below meth c Q C hend H locs ls hW hS hL h1 h2
    exact hend pc ls H locs cu su hW hS h1 h2 (Or.inl ⟨x, rfl, hd, Or.inr ⟨hr, hx⟩⟩)
  | cons _ _ => cases hq1
theorem so_lreturn (hd : decode (mC mi) pc = .ok (.lreturn, 1)) (hr : mR mi = some .long) (hq : (pJ st fun x st => match st with | [] => some (h, some (.long x)) | _ => none) = some res) : RW l D cy base ext sc mi pc lv st cu su h res := by
  obtain ⟨x, st1, rfl, hq1⟩ := pJ_some hq
  cases st1 with
  | nil =>
    cases hq1
    intro p e s m args below meth c Q C hend H locs ls hW hS hL h1 h2
    exact hend pc ls H locs cu su hW hS h1 h2 (Or.inr (Or.inl ⟨x, rfl, hd, hr⟩))
  | cons _ _ => cases hq1
theorem so_areturn (hd : decode (mC mi) pc = .ok (.areturn, 1)) (hr : mR mi = some (.object "AskedCourt$State")) (hq : (pA st fun x st => match st with | [] => some (h, some (.ref x)) | _ => none) = some res) : RW l D cy base ext sc mi pc lv st cu su h res := by
  obtain ⟨x, st1, rfl, hq1⟩ := pA_some hq
  cases st1 with
  | nil =>
    cases hq1
    intro p e s m args below meth c Q C hend H locs ls hW hS hL h1 h2
    exact hend pc ls H locs cu su hW hS h1 h2 (Or.inr (Or.inr (Or.inl ⟨x, rfl, hd, hr⟩)))
  | cons _ _ => cases hq1
theorem so_return (hd : decode (mC mi) pc = .ok (.return_, 1)) (hr : mR mi = none) (hq : (match st with | [] => some (h, none) | _ => none) = some res) : RW l D cy base ext sc mi pc lv st cu su h res := by
  cases st with
  | nil =>
    cases hq
    intro p e s m args below meth c Q C hend H locs ls hW hS hL h1 h2
    exact hend pc ls H locs cu su hW hS h1 h2 (Or.inr (Or.inr (Or.inr ⟨rfl, hd, hr⟩)))
  | cons _ _ => cases hq
end SndA
