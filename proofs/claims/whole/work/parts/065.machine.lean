-- a small machine: a heap of columns, resolved instructions, a run by segments
abbrev Hp : Type := Nat × (Nat → Nat) × (Nat → Nat) × (Nat → Nat → Int32) × (Nat → Nat → Int64) × (Nat → Nat → Nat)
def hn (h : Hp) : Nat := h.1
def hK (h : Hp) : Nat → Nat := h.2.1
def hN (h : Hp) : Nat → Nat := h.2.2.1
def hI (h : Hp) : Nat → Nat → Int32 := h.2.2.2.1
def hJ (h : Hp) : Nat → Nat → Int64 := h.2.2.2.2.1
def hR (h : Hp) : Nat → Nat → Nat := h.2.2.2.2.2
def up2 {α : Type} (f : Nat → Nat → α) (k j : Nat) (v : α) : Nat → Nat → α := fun a b => if a = k ∧ b = j then v else f a b
def sI (h : Hp) (k j : Nat) (v : Int32) : Hp := (hn h, hK h, hN h, up2 (hI h) k j v, hJ h, hR h)
def sJ (h : Hp) (k j : Nat) (v : Int64) : Hp := (hn h, hK h, hN h, hI h, up2 (hJ h) k j v, hR h)
def sR (h : Hp) (k j : Nat) (v : Nat) : Hp := (hn h, hK h, hN h, hI h, hJ h, up2 (hR h) k j v)
def kd (h : Hp) (k : Nat) : Nat := if k < hn h then hK h k else 99
def alloc (h : Hp) (kind len : Nat) : Hp := (hn h + 1, va_up (hK h) (hn h) kind, va_up (hN h) (hn h) len, fun a b => if a = hn h then 0 else hI h a b, fun a b => if a = hn h then 0 else hJ h a b, fun a b => if a = hn h then 0 else hR h a b)
abbrev Lv : Type := List (Option Value)
abbrev Rs : Type := Option (Hp × Option Value)
abbrev Rec : Type := Nat → Nat → Lv → List Value → Nat → Nat → Hp → Rs
abbrev Knt : Type := Lv → List Value → Nat → Nat → Hp → Rs
def lget (lv : Lv) (i : Nat) : Option Value := (lv[i]?).getD none
def lset1 (lv : Lv) (i : Nat) (v : Value) : Lv := lv.set i (some v)
def lset2 (lv : Lv) (i : Nat) (v : Value) : Lv := (lv.set i (some v)).set (i + 1) none
def pI (st : List Value) (f : Int32 → List Value → Rs) : Rs := match st with
  | .int x :: st => f x st
  | _ => none
def pJ (st : List Value) (f : Int64 → List Value → Rs) : Rs := match st with
  | .long x :: st => f x st
  | _ => none
def pA (st : List Value) (f : Nat → List Value → Rs) : Rs := match st with
  | .ref x :: st => f x st
  | _ => none
def pV (st : List Value) (f : Value → List Value → Rs) : Rs := match st with
  | .int x :: st => f (.int x) st
  | .ref x :: st => f (.ref x) st
  | _ => none
def gI (lv : Lv) (i : Nat) (f : Int32 → Rs) : Rs := match lget lv i with
  | some (.int x) => f x
  | _ => none
def gJ (lv : Lv) (i : Nat) (f : Int64 → Rs) : Rs := match lget lv i with
  | some (.long x) => f x
  | _ => none
def gA (lv : Lv) (i : Nat) (f : Nat → Rs) : Rs := match lget lv i with
  | some (.ref x) => f x
  | _ => none
def lsw : List (Int × Int) → List Nat → Nat → Int → Nat
  | (a, _) :: ks, t :: ts, d, x => if x = a then t else lsw ks ts d x
  | _, _, d, _ => d
def lvE (as : List Value) (n : Nat) : Lv := (as.flatMap fun v => if v.category = 2 then [some v, none] else [some v]) ++ List.replicate (n - (as.flatMap fun v => if v.category = 2 then [some v, none] else [some v]).length) none
def lsOK (LS : List Nat) (lv : Lv) : Bool := lv.zipIdx.all fun q => match q.1 with
  | some v => (v.category == 1) || LS.contains q.2
  | none => true
def doCall (rec : Rec) (k : Knt) (cm na ml c1 s1 c2 s2 : Nat) (ok : List Value → Bool) (lv : Lv) (st : List Value) (cu su : Nat) (h : Hp) : Rs :=
  if na ≤ st.length ∧ ok (st.take na).reverse = true ∧ ((st.drop na).map fun v => v.category).sum ≤ 8 ∧ cu + c1 ≤ c2 ∧ su + s1 ≤ s2 ∧ (lvE (st.take na).reverse ml).length = ml ∧ ((st.take na).all (fun v => v.category == 1) = true ∨ lsOK ((mt cm).2.2.2.2.2.2.drop 9) (lvE (st.take na).reverse ml) = true) then
    (match rec cm 0 (lvE (st.take na).reverse ml) [] 0 0 h with
    | some (h', r) => k lv (r.toList ++ st.drop na) (cu + c1) (su + s1) h'
    | none => none)
  else none
def ex1 (sc : Nat × (Nat → Int32)) (pp : Nat → Nat → Int32 → Int32 → Hp → Option (Hp × Int32)) (rec : Rec) (k : Knt) (mi : Nat) (i : Instr) (is : List Nat) (lv : Lv) (st : List Value) (cu su : Nat) (h : Hp) : Rs :=
  match i with
  | .aload_n n => gA lv n fun a => k lv (.ref a :: st) cu su h
  | .aload n => gA lv n fun a => k lv (.ref a :: st) cu su h
  | .iload_n n => gI lv n fun a => k lv (.int a :: st) cu su h
  | .iload n => gI lv n fun a => k lv (.int a :: st) cu su h
  | .lload_n n => gJ lv n fun a => k lv (.long a :: st) cu su h
  | .lload n => gJ lv n fun a => k lv (.long a :: st) cu su h
  | .iconst c => k lv (.int (Int32.ofInt c) :: st) cu su h
  | .bipush c => k lv (.int (Int8.ofInt c).toInt32 :: st) cu su h
  | .sipush c => k lv (.int (Int16.ofInt c).toInt32 :: st) cu su h
  | .lconst c => k lv (.long (Int64.ofNat (c : Nat)) :: st) cu su h
  | .ldc _ => match is with
    | [v, _] => k lv (.int (Int32.ofNat v) :: st) cu su h
    | _ => none
  | .ldc_w _ => match is with
    | [v, _] => k lv (.int (Int32.ofNat v) :: st) cu su h
    | _ => none
  | .ldc2_w _ => match is with
    | [v, _] => k lv (.long (Int64.ofNat v) :: st) cu su h
    | _ => none
  | .istore_n n => pI st fun x st => if (n : Nat) < lv.length then k (lset1 lv n (.int x)) st cu su h else none
  | .istore n => pI st fun x st => if n < lv.length then k (lset1 lv n (.int x)) st cu su h else none
  | .astore_n n => pA st fun x st => if (n : Nat) < lv.length then k (lset1 lv n (.ref x)) st cu su h else none
  | .astore n => pA st fun x st => if n < lv.length then k (lset1 lv n (.ref x)) st cu su h else none
  | .lstore_n n => pJ st fun x st => if (n : Nat) + 1 < lv.length then k (lset2 lv n (.long x)) st cu su h else none
  | .lstore n => pJ st fun x st => if n + 1 < lv.length then k (lset2 lv n (.long x)) st cu su h else none
  | .iinc n c => gI lv n fun x => if n < lv.length then k (lset1 lv n (.int (x + Int32.ofInt c))) st cu su h else none
  | .iadd => pI st fun y st => pI st fun x st => k lv (.int (x + y) :: st) cu su h
  | .isub => pI st fun y st => pI st fun x st => k lv (.int (x - y) :: st) cu su h
  | .imul => pI st fun y st => pI st fun x st => k lv (.int (x * y) :: st) cu su h
  | .iand => pI st fun y st => pI st fun x st => k lv (.int (x &&& y) :: st) cu su h
  | .ior => pI st fun y st => pI st fun x st => k lv (.int (x ||| y) :: st) cu su h
  | .ixor => pI st fun y st => pI st fun x st => k lv (.int (x ^^^ y) :: st) cu su h
  | .ishl => pI st fun y st => pI st fun x st => k lv (.int (x <<< (y &&& 31)) :: st) cu su h
  | .ishr => pI st fun y st => pI st fun x st => k lv (.int (x >>> (y &&& 31)) :: st) cu su h
  | .iushr => pI st fun y st => pI st fun x st => k lv (.int (x.toUInt32 >>> (y.toUInt32 &&& Int32.toUInt32 31)).toInt32 :: st) cu su h
  | .idiv => pI st fun y st => pI st fun x st => if y = 0 then none else k lv (.int (x / y) :: st) cu su h
  | .irem => pI st fun y st => pI st fun x st => if y = 0 then none else k lv (.int (x - x / y * y) :: st) cu su h
  | .ladd => pJ st fun y st => pJ st fun x st => k lv (.long (x + y) :: st) cu su h
  | .lsub => pJ st fun y st => pJ st fun x st => k lv (.long (x - y) :: st) cu su h
  | .lmul => pJ st fun y st => pJ st fun x st => k lv (.long (x * y) :: st) cu su h
  | .land => pJ st fun y st => pJ st fun x st => k lv (.long (x &&& y) :: st) cu su h
  | .ldiv => pJ st fun y st => pJ st fun x st => if y = 0 then none else k lv (.long (x / y) :: st) cu su h
  | .lrem => pJ st fun y st => pJ st fun x st => if y = 0 then none else k lv (.long (x - x / y * y) :: st) cu su h
  | .lneg => pJ st fun x st => k lv (.long (-x) :: st) cu su h
  | .lcmp => pJ st fun y st => pJ st fun x st => k lv (.int (lg_cmp x y) :: st) cu su h
  | .i2l => pI st fun x st => k lv (.long x.toInt64 :: st) cu su h
  | .l2i => pJ st fun x st => k lv (.int x.toInt32 :: st) cu su h
  | .i2c => pI st fun x st => k lv (.int (x.toUInt32 % 65536).toInt32 :: st) cu su h
  | .dup => pV st fun v st => k lv (v :: v :: st) cu su h
  | .dup2 => pV st fun v st => pV st fun w st => k lv (v :: w :: v :: w :: st) cu su h
  | .pop => pV st fun _ st => k lv st cu su h
  | .goto _ => match is with
    | [t] => rec mi t lv st cu su h
    | _ => none
  | .if_icmp c _ => match is with
    | [t] => (match c with
      | .eq => pI st fun y st => pI st fun x st => if x = y then rec mi t lv st cu su h else k lv st cu su h
      | .ne => pI st fun y st => pI st fun x st => if x ≠ y then rec mi t lv st cu su h else k lv st cu su h
      | .lt => pI st fun y st => pI st fun x st => if x < y then rec mi t lv st cu su h else k lv st cu su h
      | .ge => pI st fun y st => pI st fun x st => if y ≤ x then rec mi t lv st cu su h else k lv st cu su h
      | .gt => pI st fun y st => pI st fun x st => if y < x then rec mi t lv st cu su h else k lv st cu su h
      | .le => pI st fun y st => pI st fun x st => if x ≤ y then rec mi t lv st cu su h else k lv st cu su h)
    | _ => none
  | .ifCond c _ => match is with
    | [t] => (match c with
      | .eq => pI st fun x st => if x = 0 then rec mi t lv st cu su h else k lv st cu su h
      | .ne => pI st fun x st => if x ≠ 0 then rec mi t lv st cu su h else k lv st cu su h
      | .lt => pI st fun x st => if x < 0 then rec mi t lv st cu su h else k lv st cu su h
      | .ge => pI st fun x st => if 0 ≤ x then rec mi t lv st cu su h else k lv st cu su h
      | .gt => pI st fun x st => if 0 < x then rec mi t lv st cu su h else k lv st cu su h
      | .le => pI st fun x st => if x ≤ 0 then rec mi t lv st cu su h else k lv st cu su h)
    | _ => none
  | .tableswitch _ lo hi _ => match is with
    | d :: ts => pI st fun x st => if x.toInt < lo ∨ hi < x.toInt then rec mi d lv st cu su h else rec mi (ts.getD (x.toInt - lo).toNat 0) lv st cu su h
    | _ => none
  | .lookupswitch _ ps => match is with
    | d :: ts => pI st fun x st => rec mi (lsw ps.toList ts d x.toInt) lv st cu su h
    | _ => none
  | .getfield _ => match is with
    | [ci, j, t, _, _] => pA st fun a st => if kd h a = ci then (match t with
      | 1 => k lv (.long (hJ h a j) :: st) cu su h
      | 2 => (match hR h a j with
        | 0 => none
        | r + 1 => k lv (.ref r :: st) cu su h)
      | _ => k lv (.int (hI h a j) :: st) cu su h) else none
    | _ => none
  | .putfield _ => match is with
    | [ci, j, t, _, _, _] => (match t with
      | 1 => pJ st fun x st => pA st fun a st => if kd h a = ci then k lv st cu su (sJ h a j x) else none
      | 2 => pA st fun x st => pA st fun a st => if kd h a = ci ∧ x < 1000 then k lv st cu su (sR h a j (x + 1)) else none
      | 3 => pI st fun x st => pA st fun a st => if kd h a = ci ∧ (x = 0 ∨ x = 1) then k lv st cu su (sI h a j x) else none
      | _ => pI st fun x st => pA st fun a st => if kd h a = ci then k lv st cu su (sI h a j x) else none)
    | _ => none
  | .iaload => if mi = 277 then (pI st fun i st => pA st fun a st => if a = 1000 ∧ ¬ (i < 0 ∨ sc.1 ≤ i.toNatClampNeg) then k lv (.int (sc.2 i.toNatClampNeg) :: st) cu su h else none) else pI st fun i st => pA st fun a st => if kd h a = 13 ∧ ¬ (i < 0 ∨ hN h a ≤ i.toNatClampNeg) then k lv (.int (hI h a i.toNatClampNeg) :: st) cu su h else none
  | .iastore => pI st fun x st => pI st fun i st => pA st fun a st => if kd h a = 13 ∧ ¬ (i < 0 ∨ hN h a ≤ i.toNatClampNeg) then k lv st cu su (sI h a i.toNatClampNeg x) else none
  | .laload => pI st fun i st => pA st fun a st => if kd h a = 14 ∧ ¬ (i < 0 ∨ hN h a ≤ i.toNatClampNeg) then k lv (.long (hJ h a i.toNatClampNeg) :: st) cu su h else none
  | .lastore => pJ st fun x st => pI st fun i st => pA st fun a st => if kd h a = 14 ∧ ¬ (i < 0 ∨ hN h a ≤ i.toNatClampNeg) then k lv st cu su (sJ h a i.toNatClampNeg x) else none
  | .baload => pI st fun i st => pA st fun a st => if kd h a = 15 ∧ ¬ (i < 0 ∨ hN h a ≤ i.toNatClampNeg) then k lv (.int (hI h a i.toNatClampNeg) :: st) cu su h else none
  | .bastore => pI st fun x st => pI st fun i st => pA st fun a st => if kd h a = 15 ∧ (x = 0 ∨ x = 1) ∧ ¬ (i < 0 ∨ hN h a ≤ i.toNatClampNeg) then k lv st cu su (sI h a i.toNatClampNeg x) else none
  | .aaload => pI st fun i st => pA st fun a st => if kd h a = 16 ∧ ¬ (i < 0 ∨ hN h a ≤ i.toNatClampNeg) then (match hR h a i.toNatClampNeg with
      | 0 => none
      | r + 1 => k lv (.ref r :: st) cu su h) else none
  | .aastore => pA st fun x st => pI st fun i st => pA st fun a st => if kd h a = 16 ∧ kd h x = 8 ∧ ¬ (i < 0 ∨ hN h a ≤ i.toNatClampNeg) then k lv st cu su (sR h a i.toNatClampNeg (x + 1)) else none
  | .arraylength => if mi = 277 then (pA st fun a st => if a = 1000 then k lv (.int (Int32.ofNat sc.1) :: st) cu su h else none) else pA st fun a st => if 13 ≤ kd h a ∧ kd h a ≤ 16 then k lv (.int (Int32.ofNat (hN h a)) :: st) cu su h else none
  | .newarray t => match is with
    | [c2, s2] => pI st fun n st => if ¬ n < 0 ∧ n.toNatClampNeg ≤ 100000 ∧ cu + 1 ≤ c2 ∧ su + n.toNatClampNeg ≤ s2 ∧ hn h < 240 then k lv (.ref (hn h) :: st) (cu + 1) (su + n.toNatClampNeg) (alloc h (match t with | .int => 13 | .long => 14 | _ => 15) n.toNatClampNeg) else none
    | _ => none
  | .anewarray _ => match is with
    | [c2, s2, _] => pI st fun n st => if ¬ n < 0 ∧ n.toNatClampNeg ≤ 100000 ∧ cu + 1 ≤ c2 ∧ su + n.toNatClampNeg ≤ s2 ∧ hn h < 240 then k lv (.ref (hn h) :: st) (cu + 1) (su + n.toNatClampNeg) (alloc h 16 n.toNatClampNeg) else none
    | _ => none
  | .new _ => match is with
    | [ci, nf, c2, s2, _, _, _] => if cu + 1 ≤ c2 ∧ su + nf ≤ s2 ∧ hn h < 240 then k lv (.ref (hn h) :: st) (cu + 1) (su + nf) (alloc h ci 0) else none
    | _ => none
  | .invokespecial _ => match is with
    | [cm, na, _, _, ml, c1, s1, c2, s2, rc] => doCall rec k cm na ml c1 s1 c2 s2 (fun as => match as with | .ref a :: _ => kd h a == rc | _ => false) lv st cu su h
    | [999, _, _, _, _] => pA st fun _ st => match st with
      | [] => k lv [] cu su h
      | _ => none
    | _ => none
  | .invokevirtual _ => match is with
    | [cm, na, _, _, ml, c1, s1, c2, s2, rc] => doCall rec k cm na ml c1 s1 c2 s2 (fun as => match as with | .ref a :: _ => kd h a == rc | _ => false) lv st cu su h
    | _ => none
  | .invokestatic _ => match is with
    | [cm, na, _, _, ml, c1, s1, c2, s2, _] => doCall rec k cm na ml c1 s1 c2 s2 (fun _ => true) lv st cu su h
    | [996, _, c1, s1, c2, s2] => pA st fun o st => pI st fun p1 st => pI st fun p0 st => pA st fun x st => if (st.map fun v => v.category).sum ≤ 8 ∧ cu + c1 ≤ c2 ∧ su + s1 ≤ s2 then (match pp x o p0 p1 h with
      | some (h', r) => k lv (.int r :: st) (cu + c1) (su + s1) h'
      | none => none) else none
    | [997, _, _, _, _] => pI st fun y st => pI st fun x st => if (st.map fun v => v.category).sum ≤ 8 then k lv (.int (if y < x then y else x) :: st) cu su h else none
    | [998, _, _, _, _] => pI st fun y st => pI st fun x st => if (st.map fun v => v.category).sum ≤ 8 then k lv (.int (if x < y then y else x) :: st) cu su h else none
    | _ => none
  | .ireturn => match is with
    | [0] => pI st fun x st => match st with | [] => some (h, some (.int x)) | _ => none
    | [3] => pI st fun x st => match st with | [] => if x = 0 ∨ x = 1 then some (h, some (.int x)) else none | _ => none
    | _ => none
  | .lreturn => pJ st fun x st => match st with | [] => some (h, some (.long x)) | _ => none
  | .areturn => pA st fun x st => match st with | [] => some (h, some (.ref x)) | _ => none
  | .return_ => match st with | [] => some (h, none) | _ => none
  | _ => none
def exS (sc : Nat × (Nat → Int32)) (pp : Nat → Nat → Int32 → Int32 → Hp → Option (Hp × Int32)) (rec : Rec) (mi : Nat) : Nat → List MI → Knt
  | pc, [], lv, st, cu, su, h => rec mi pc lv st cu su h
  | pc, (i, n, is) :: r, lv, st, cu, su, h => ex1 sc pp rec (fun lv st cu su h => exS sc pp rec mi (pc + n) r lv st cu su h) mi i is lv st cu su h
