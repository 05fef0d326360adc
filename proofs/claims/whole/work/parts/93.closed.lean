-- closed runs, and the kind of what a method answers
def leR (a b : Rs) : Prop := ∀ r, a = some r → b = some r
def sc0 : Nat × (Nat → Int32) := (0, fun _ => 0)
def pp0 : Nat → Nat → Int32 → Int32 → Hp → Option (Hp × Int32) := fun _ _ _ _ _ => none
/-- a run that needs neither the script nor the law's person -/
def mr0 : Nat → Rec
  | 0 => fun _ _ _ _ _ _ _ => none
  | n + 1 => fun mi pc lv st cu su h => if mi = 277 then none else if mi = 7 then (if pc = 0 ∧ st = [] then primT lv h else none) else match codeAt mi pc with
    | none => none
    | some s => exS sc0 pp0 (mr0 n) mi pc s lv st cu su h
section Cl93
variable {sc : Nat × (Nat → Int32)} {pp : Nat → Nat → Int32 → Int32 → Hp → Option (Hp × Int32)}
set_option maxHeartbeats 4000000 in
theorem ex1_cl {mi : Nat} (h277 : mi ≠ 277) (R : Rec) (k : Knt) (i : Instr) (is : List Nat) (lv : Lv) (st : List Value) (cu su : Nat) (h : Hp) : leR (ex1 sc0 pp0 R k mi i is lv st cu su h) (ex1 sc pp R k mi i is lv st cu su h) := by
  intro r hr
  cases i
  case iaload =>
    have e : ∀ (sc : Nat × (Nat → Int32)) (pp : Nat → Nat → Int32 → Int32 → Hp → Option (Hp × Int32)), ex1 sc pp R k mi .iaload is lv st cu su h = pI st fun i st => pA st fun a st => if kd h a = 13 ∧ ¬ (i < 0 ∨ hN h a ≤ i.toNatClampNeg) then k lv (.int (hI h a i.toNatClampNeg) :: st) cu su h else none := fun sc pp => by
      show (if mi = 277 then _ else _) = _
      rw [if_neg h277]
    rw [e] at hr ⊢; exact hr
  case arraylength =>
    have e : ∀ (sc : Nat × (Nat → Int32)) (pp : Nat → Nat → Int32 → Int32 → Hp → Option (Hp × Int32)), ex1 sc pp R k mi .arraylength is lv st cu su h = pA st fun a st => if 13 ≤ kd h a ∧ kd h a ≤ 16 then k lv (.int (Int32.ofNat (hN h a)) :: st) cu su h else none := fun sc pp => by
      show (if mi = 277 then _ else _) = _
      rw [if_neg h277]
    rw [e] at hr ⊢; exact hr
  case invokestatic ix =>
    match is with
    | [cm, na, pos, nest, ml, c1, s1, c2, s2, rc] => exact hr
    | [a, p1, c1, s1, c2, s2] =>
      by_cases ha : a = 996
      · subst ha
        obtain ⟨o, st1, -, hr⟩ := pA_some hr
        obtain ⟨q1, st2, -, hr⟩ := pI_some hr
        obtain ⟨q0, st3, -, hr⟩ := pI_some hr
        obtain ⟨x, st4, -, hr⟩ := pA_some hr
        simp [pp0] at hr
      · have e : ∀ (sc : Nat × (Nat → Int32)) (pp : Nat → Nat → Int32 → Int32 → Hp → Option (Hp × Int32)), ex1 sc pp R k mi (.invokestatic ix) [a, p1, c1, s1, c2, s2] lv st cu su h = none := by
          intro sc pp
          unfold ex1
          simp only
          split <;> first | rfl | (rename_i he; first | (cases he; done) | (simp only [List.cons.injEq] at he; exact absurd he.1 ha))
        rw [e] at hr; cases hr
    | [a, p1, p2, p3, p4] =>
      by_cases ha : a = 997
      · subst ha; exact hr
      by_cases ha2 : a = 998
      · subst ha2; exact hr
      · have e : ∀ (sc : Nat × (Nat → Int32)) (pp : Nat → Nat → Int32 → Int32 → Hp → Option (Hp × Int32)), ex1 sc pp R k mi (.invokestatic ix) [a, p1, p2, p3, p4] lv st cu su h = none := by
          intro sc pp
          unfold ex1
          simp only
          split <;> first | rfl | (rename_i he; first | (cases he; done) | (simp only [List.cons.injEq] at he; first | exact absurd he.1 ha | exact absurd he.1 ha2))
        rw [e] at hr; cases hr
    | [] => exact hr
    | [_] => exact hr
    | [_, _] => exact hr
    | [_, _, _] => exact hr
    | [_, _, _, _] => exact hr
    | [_, _, _, _, _, _, _] => exact hr
    | [_, _, _, _, _, _, _, _] => exact hr
    | [_, _, _, _, _, _, _, _, _] => exact hr
    | _ :: _ :: _ :: _ :: _ :: _ :: _ :: _ :: _ :: _ :: _ :: _ => exact hr
  all_goals exact hr
theorem exS_cl {mi : Nat} (h277 : mi ≠ 277) (R : Rec) : ∀ (s : List MI) (pc : Nat) (lv : Lv) (st : List Value) (cu su : Nat) (h : Hp), leR (exS sc0 pp0 R mi pc s lv st cu su h) (exS sc pp R mi pc s lv st cu su h) := by
  intro s
  induction s with
  | nil => intro pc lv st cu su h r hr; exact hr
  | cons e s ih =>
    intro pc lv st cu su h r hr
    obtain ⟨i, n, is⟩ := e
    have m := cts_ex1 (sc := sc0) (pp := pp0) (mi := mi) (R := fun _ => R) (R' := R) (K := fun j lv st cu su h => if j = 0 then exS sc0 pp0 R mi (pc + n) s lv st cu su h else exS sc pp R mi (pc + n) s lv st cu su h) (K' := fun lv st cu su h => exS sc pp R mi (pc + n) s lv st cu su h) (fun _ _ _ _ _ _ _ => Cts_c _) (fun lv st cu su h => ⟨fun j r hr => by
        by_cases hj : j = 0
        · simp only [hj, if_true] at hr
          simpa using ih _ _ _ _ _ _ _ hr
        · simp only [hj, if_false] at hr
          simpa using hr, fun r hr => ⟨1, by simpa using hr⟩, fun j r hr => by
        by_cases hj : j = 0
        · simp only [hj, if_true] at hr
          exact ih _ _ _ _ _ _ _ hr
        · simp only [hj, if_false] at hr
          exact hr⟩) i is lv st cu su h
    have hr' : ex1 sc0 pp0 R (fun lv st cu su h => exS sc0 pp0 R mi (pc + n) s lv st cu su h) mi i is lv st cu su h = some r := hr
    have h1 := m.2.2 0 r (by simpa using hr')
    exact ex1_cl h277 R _ i is lv st cu su h r h1
theorem mr0_le : ∀ (n mi pc : Nat) (lv : Lv) (st : List Value) (cu su : Nat) (h : Hp), leR (mr0 n mi pc lv st cu su h) (mrun sc pp n mi pc lv st cu su h) := by
  intro n
  induction n with
  | zero => intro mi pc lv st cu su h r hr; cases hr
  | succ n ih =>
    intro mi pc lv st cu su h r hr
    unfold mr0 at hr
    unfold mrun
    by_cases h277 : mi = 277
    · rw [if_pos h277] at hr; cases hr
    rw [if_neg h277] at hr
    by_cases h7 : mi = 7
    · rw [if_pos h7] at hr ⊢; exact hr
    rw [if_neg h7] at hr ⊢
    cases hs : codeAt mi pc with
    | none => rw [hs] at hr; cases hr
    | some s =>
      rw [hs] at hr
      have h1 := exS_cl (sc := sc) (pp := pp) h277 (mr0 n) s pc lv st cu su h r hr
      have hC := cts_exS (sc := sc) (pp := pp) (mi := mi) (R := fun j => if j = 0 then mr0 n else mrun sc pp n) (R' := mrun sc pp n) (fun mi pc lv st cu su h => ⟨fun j r hr => by
          by_cases hj : j = 0
          · simp only [hj, if_true] at hr; simpa using ih _ _ _ _ _ _ _ _ hr
          · simp only [hj, if_false] at hr; simpa using hr, fun r hr => ⟨1, by simpa using hr⟩, fun j r hr => by
          by_cases hj : j = 0
          · simp only [hj, if_true] at hr; exact ih _ _ _ _ _ _ _ _ hr
          · simp only [hj, if_false] at hr; exact hr⟩) s pc lv st cu su h
      exact hC.2.2 0 r (by simpa using h1)
theorem mr0_Lm {n mi pc : Nat} {lv : Lv} {st : List Value} {cu su : Nat} {h : Hp} {r : Hp × Option Value} (hr : mr0 n mi pc lv st cu su h = some r) : Lm sc pp mi pc lv st cu su h = some r := Lm_iff.mpr ⟨n, mr0_le _ _ _ _ _ _ _ _ _ hr⟩
end Cl93
/-- the kind of an answer: 0 an int, else a long -/
def isV (κ : Nat) (v : Option Value) : Prop := if κ = 0 then ∃ x : Int32, v = some (.int x) else ∃ x : Int64, v = some (.long x)
def IV (κ : Nat) (x : Rs) : Prop := ∀ r, x = some r → isV κ r.2
def okV (κ : Nat) (i : Instr) : Bool := match i with
  | .ireturn => κ == 0
  | .lreturn => κ != 0
  | .areturn => false
  | .return_ => false
  | _ => true
section Iv93
variable {sc : Nat × (Nat → Int32)} {pp : Nat → Nat → Int32 → Int32 → Hp → Option (Hp × Int32)} {κ mi : Nat} {rec : Rec} {k : Knt}
theorem IV_none (κ : Nat) : IV κ none := fun r h => by cases h
theorem IV_ite {P : Prop} [Decidable P] {F F' : Rs} (h : IV κ F) (h' : IV κ F') : IV κ (if P then F else F') := by
  split
  · exact h
  · exact h'
theorem IV_pI {st : List Value} {f : Int32 → List Value → Rs} (h : ∀ x st, IV κ (f x st)) : IV κ (pI st f) := by
  unfold pI
  split
  · exact h _ _
  · exact IV_none κ
theorem IV_pJ {st : List Value} {f : Int64 → List Value → Rs} (h : ∀ x st, IV κ (f x st)) : IV κ (pJ st f) := by
  unfold pJ
  split
  · exact h _ _
  · exact IV_none κ
theorem IV_pA {st : List Value} {f : Nat → List Value → Rs} (h : ∀ x st, IV κ (f x st)) : IV κ (pA st f) := by
  unfold pA
  split
  · exact h _ _
  · exact IV_none κ
theorem IV_pV {st : List Value} {f : Value → List Value → Rs} (h : ∀ x st, IV κ (f x st)) : IV κ (pV st f) := by
  unfold pV
  split
  · exact h _ _
  · exact h _ _
  · exact IV_none κ
theorem IV_gI {lv : Lv} {i : Nat} {f : Int32 → Rs} (h : ∀ x, IV κ (f x)) : IV κ (gI lv i f) := by
  unfold gI
  split
  · exact h _
  · exact IV_none κ
theorem IV_gJ {lv : Lv} {i : Nat} {f : Int64 → Rs} (h : ∀ x, IV κ (f x)) : IV κ (gJ lv i f) := by
  unfold gJ
  split
  · exact h _
  · exact IV_none κ
theorem IV_gA {lv : Lv} {i : Nat} {f : Nat → Rs} (h : ∀ x, IV κ (f x)) : IV κ (gA lv i f) := by
  unfold gA
  split
  · exact h _
  · exact IV_none κ
theorem IV_bind {F : Rs} {f : Hp → Option Value → Rs} (h2 : ∀ x y, IV κ (f x y)) : IV κ (match (generalizing := false) F with
    | some (h', r) => f h' r
    | none => none) := by
  cases F with
  | none => exact IV_none κ
  | some q => obtain ⟨x, y⟩ := q; exact h2 x y
set_option maxHeartbeats 4000000 in
theorem iv_ex1 (hRc : ∀ pc lv st cu su h, IV κ (rec mi pc lv st cu su h)) (hK : ∀ lv st cu su h, IV κ (k lv st cu su h)) (i : Instr) (ho : okV κ i = true) (is : List Nat) (lv : Lv) (st : List Value) (cu su : Nat) (h : Hp) : IV κ (ex1 sc pp rec k mi i is lv st cu su h) := by
  have hN := IV_none κ
  cases i
  case aload m => exact IV_gA fun a => hK _ _ _ _ _
  case aload_n m => exact IV_gA fun a => hK _ _ _ _ _
  case iload m => exact IV_gI fun a => hK _ _ _ _ _
  case iload_n m => exact IV_gI fun a => hK _ _ _ _ _
  case lload m => exact IV_gJ fun a => hK _ _ _ _ _
  case lload_n m => exact IV_gJ fun a => hK _ _ _ _ _
  case iconst c => exact hK _ _ _ _ _
  case bipush c => exact hK _ _ _ _ _
  case sipush c => exact hK _ _ _ _ _
  case lconst c => exact hK _ _ _ _ _
  case ldc ix => 
    match is with
    | [v, pos] => exact hK _ _ _ _ _
    | [] => exact hN
    | [_] => exact hN
    | _ :: _ :: _ :: _ => exact hN
  case ldc_w ix => 
    match is with
    | [v, pos] => exact hK _ _ _ _ _
    | [] => exact hN
    | [_] => exact hN
    | _ :: _ :: _ :: _ => exact hN
  case ldc2_w ix => 
    match is with
    | [v, pos] => exact hK _ _ _ _ _
    | [] => exact hN
    | [_] => exact hN
    | _ :: _ :: _ :: _ => exact hN
  case istore m => exact IV_pI fun x st => IV_ite (hK _ _ _ _ _) hN
  case istore_n m => exact IV_pI fun x st => IV_ite (hK _ _ _ _ _) hN
  case astore m => exact IV_pA fun x st => IV_ite (hK _ _ _ _ _) hN
  case astore_n m => exact IV_pA fun x st => IV_ite (hK _ _ _ _ _) hN
  case lstore m => exact IV_pJ fun x st => IV_ite (hK _ _ _ _ _) hN
  case lstore_n m => exact IV_pJ fun x st => IV_ite (hK _ _ _ _ _) hN
  case iinc m d => exact IV_gI fun x => IV_ite (hK _ _ _ _ _) hN
  case iadd => exact IV_pI fun y st => IV_pI fun x st => hK _ _ _ _ _
  case isub => exact IV_pI fun y st => IV_pI fun x st => hK _ _ _ _ _
  case imul => exact IV_pI fun y st => IV_pI fun x st => hK _ _ _ _ _
  case iand => exact IV_pI fun y st => IV_pI fun x st => hK _ _ _ _ _
  case ior => exact IV_pI fun y st => IV_pI fun x st => hK _ _ _ _ _
  case ixor => exact IV_pI fun y st => IV_pI fun x st => hK _ _ _ _ _
  case ishl => exact IV_pI fun y st => IV_pI fun x st => hK _ _ _ _ _
  case ishr => exact IV_pI fun y st => IV_pI fun x st => hK _ _ _ _ _
  case iushr => exact IV_pI fun y st => IV_pI fun x st => hK _ _ _ _ _
  case idiv => exact IV_pI fun y st => IV_pI fun x st => IV_ite hN (hK _ _ _ _ _)
  case irem => exact IV_pI fun y st => IV_pI fun x st => IV_ite hN (hK _ _ _ _ _)
  case ladd => exact IV_pJ fun y st => IV_pJ fun x st => hK _ _ _ _ _
  case lsub => exact IV_pJ fun y st => IV_pJ fun x st => hK _ _ _ _ _
  case lmul => exact IV_pJ fun y st => IV_pJ fun x st => hK _ _ _ _ _
  case land => exact IV_pJ fun y st => IV_pJ fun x st => hK _ _ _ _ _
  case lcmp => exact IV_pJ fun y st => IV_pJ fun x st => hK _ _ _ _ _
  case ldiv => exact IV_pJ fun y st => IV_pJ fun x st => IV_ite hN (hK _ _ _ _ _)
  case lrem => exact IV_pJ fun y st => IV_pJ fun x st => IV_ite hN (hK _ _ _ _ _)
  case lneg => exact IV_pJ fun x st => hK _ _ _ _ _
  case i2l => exact IV_pI fun x st => hK _ _ _ _ _
  case l2i => exact IV_pJ fun x st => hK _ _ _ _ _
  case i2c => exact IV_pI fun x st => hK _ _ _ _ _
  case dup => 
    exact IV_pV (st := st) (f := fun v st => k lv (v :: v :: st) cu su h) fun x st => hK _ _ _ _ _
  case dup2 => 
    exact IV_pV (st := st) (f := fun v st => pV st fun w st => k lv (v :: w :: v :: w :: st) cu su h) fun v st => IV_pV (f := fun w st => k lv (v :: w :: v :: w :: st) cu su h) fun x st => hK _ _ _ _ _
  case pop => 
    exact IV_pV (st := st) (f := fun _ st => k lv st cu su h) fun x st => hK _ _ _ _ _
  case goto off => 
    match is with
    | [t] => exact hRc _ _ _ _ _ _
    | [] => exact hN
    | _ :: _ :: _ => exact hN
  case if_icmp cnd off => 
    match is with
    | [t] => cases cnd <;> exact IV_pI fun y st => IV_pI fun x st => IV_ite (hRc _ _ _ _ _ _) (hK _ _ _ _ _)
    | [] => exact hN
    | _ :: _ :: _ => exact hN
  case ifCond cnd off => 
    match is with
    | [t] => cases cnd <;> exact IV_pI fun x st => IV_ite (hRc _ _ _ _ _ _) (hK _ _ _ _ _)
    | [] => exact hN
    | _ :: _ :: _ => exact hN
  case tableswitch d lo hi offs => 
    match is with
    | dd :: ts => exact IV_pI fun x st => IV_ite (hRc _ _ _ _ _ _) (hRc _ _ _ _ _ _)
    | [] => exact hN
  case lookupswitch d ps => 
    match is with
    | dd :: ts => exact IV_pI fun x st => hRc _ _ _ _ _ _
    | [] => exact hN
  case getfield ix => 
    match is with
    | [ci, j, t, pos, nest] =>
      refine IV_pA fun a st => IV_ite ?_ hN
      match t with
      | 1 => exact hK _ _ _ _ _
      | 2 => cases hr : hR h a j with
        | zero => simp only [hr]; exact hN
        | succ r => simp only [hr]; exact hK _ _ _ _ _
      | 0 => exact hK _ _ _ _ _
      | t + 3 => exact hK _ _ _ _ _
    | [] => exact hN
    | [_] => exact hN
    | [_, _] => exact hN
    | [_, _, _] => exact hN
    | [_, _, _, _] => exact hN
    | _ :: _ :: _ :: _ :: _ :: _ :: _ => exact hN
  case putfield ix => 
    match is with
    | [ci, j, t, pos, nest, fin] =>
      match t with
      | 1 => exact IV_pJ fun x st => IV_pA fun a st => IV_ite (hK _ _ _ _ _) hN
      | 2 => exact IV_pA fun x st => IV_pA fun a st => IV_ite (hK _ _ _ _ _) hN
      | 3 => exact IV_pI fun x st => IV_pA fun a st => IV_ite (hK _ _ _ _ _) hN
      | 0 => exact IV_pI fun x st => IV_pA fun a st => IV_ite (hK _ _ _ _ _) hN
      | t + 4 => exact IV_pI fun x st => IV_pA fun a st => IV_ite (hK _ _ _ _ _) hN
    | [] => exact hN
    | [_] => exact hN
    | [_, _] => exact hN
    | [_, _, _] => exact hN
    | [_, _, _, _] => exact hN
    | [_, _, _, _, _] => exact hN
    | _ :: _ :: _ :: _ :: _ :: _ :: _ :: _ => exact hN
  case iaload => exact IV_ite (IV_pI fun i st => IV_pA fun a st => IV_ite (hK _ _ _ _ _) hN) (IV_pI fun i st => IV_pA fun a st => IV_ite (hK _ _ _ _ _) hN)
  case arraylength => exact IV_ite (IV_pA fun a st => IV_ite (hK _ _ _ _ _) hN) (IV_pA fun a st => IV_ite (hK _ _ _ _ _) hN)
  case laload => exact IV_pI fun i st => IV_pA fun a st => IV_ite (hK _ _ _ _ _) hN
  case baload => exact IV_pI fun i st => IV_pA fun a st => IV_ite (hK _ _ _ _ _) hN
  case aaload => 
    refine IV_pI fun i st => IV_pA fun a st => IV_ite ?_ hN
    cases hr : hR h a i.toNatClampNeg with
    | zero => simp only [hr]; exact hN
    | succ r => simp only [hr]; exact hK _ _ _ _ _
  case iastore => exact IV_pI fun x st => IV_pI fun i st => IV_pA fun a st => IV_ite (hK _ _ _ _ _) hN
  case bastore => exact IV_pI fun x st => IV_pI fun i st => IV_pA fun a st => IV_ite (hK _ _ _ _ _) hN
  case lastore => exact IV_pJ fun x st => IV_pI fun i st => IV_pA fun a st => IV_ite (hK _ _ _ _ _) hN
  case aastore => exact IV_pA fun x st => IV_pI fun i st => IV_pA fun a st => IV_ite (hK _ _ _ _ _) hN
  case newarray t => 
    match is with
    | [c2, s2] => exact IV_pI fun n st => IV_ite (hK _ _ _ _ _) hN
    | [] => exact hN
    | [_] => exact hN
    | _ :: _ :: _ :: _ => exact hN
  case anewarray ix => 
    match is with
    | [c2, s2, pos] => exact IV_pI fun n st => IV_ite (hK _ _ _ _ _) hN
    | [] => exact hN
    | [_] => exact hN
    | [_, _] => exact hN
    | _ :: _ :: _ :: _ :: _ => exact hN
  case new ix => 
    match is with
    | [ci, nf, c2, s2, p1, p2, p3] => exact IV_ite (hK _ _ _ _ _) hN
    | [] => exact hN
    | [_] => exact hN
    | [_, _] => exact hN
    | [_, _, _] => exact hN
    | [_, _, _, _] => exact hN
    | [_, _, _, _, _] => exact hN
    | [_, _, _, _, _, _] => exact hN
    | _ :: _ :: _ :: _ :: _ :: _ :: _ :: _ :: _ => exact hN
  case invokevirtual ix => 
    match is with
    | [cm, na, pos, nest, ml, c1, s1, c2, s2, rc] => exact IV_ite (IV_bind (fun x y => hK _ _ _ _ _)) hN
    | [] => exact hN
    | [_] => exact hN
    | [_, _] => exact hN
    | [_, _, _] => exact hN
    | [_, _, _, _] => exact hN
    | [_, _, _, _, _] => exact hN
    | [_, _, _, _, _, _] => exact hN
    | [_, _, _, _, _, _, _] => exact hN
    | [_, _, _, _, _, _, _, _] => exact hN
    | [_, _, _, _, _, _, _, _, _] => exact hN
    | _ :: _ :: _ :: _ :: _ :: _ :: _ :: _ :: _ :: _ :: _ :: _ => exact hN
  case invokespecial ix => 
    match is with
    | [cm, na, pos, nest, ml, c1, s1, c2, s2, rc] => exact IV_ite (IV_bind (fun x y => hK _ _ _ _ _)) hN
    | [a, x, p1, p2, p3] =>
      by_cases ha : a = 999
      · subst ha
        refine IV_pA fun _ st => ?_
        cases st with
        | nil => exact hK _ _ _ _ _
        | cons _ _ => exact hN
      · have e : ∀ (rec : Rec) (kk : Knt), ex1 sc pp rec kk mi (.invokespecial ix) [a, x, p1, p2, p3] lv st cu su h = none := by
          intro rec kk
          unfold ex1
          simp only
          split
          · rename_i he; cases he
          · rename_i he; simp only [List.cons.injEq] at he; exact absurd he.1 ha
          · rfl
        rw [e]
        exact hN
    | [] => exact hN
    | [_] => exact hN
    | [_, _] => exact hN
    | [_, _, _] => exact hN
    | [_, _, _, _] => exact hN
    | [_, _, _, _, _, _] => exact hN
    | [_, _, _, _, _, _, _] => exact hN
    | [_, _, _, _, _, _, _, _] => exact hN
    | [_, _, _, _, _, _, _, _, _] => exact hN
    | _ :: _ :: _ :: _ :: _ :: _ :: _ :: _ :: _ :: _ :: _ :: _ => exact hN
  case invokestatic ix => 
    match is with
    | [cm, na, pos, nest, ml, c1, s1, c2, s2, rc] => exact IV_ite (IV_bind (fun x y => hK _ _ _ _ _)) hN
    | [a, p1, c1, s1, c2, s2] =>
      by_cases ha : a = 996
      · subst ha
        refine IV_pA fun o st => IV_pI fun q1 st => IV_pI fun q0 st => IV_pA fun x st => IV_ite ?_ hN
        cases hp : pp x o q0 q1 h with
        | none => simp only [hp]; exact hN
        | some q => obtain ⟨h', r⟩ := q; simp only [hp]; exact hK _ _ _ _ _
      · have e : ∀ (rec : Rec) (kk : Knt), ex1 sc pp rec kk mi (.invokestatic ix) [a, p1, c1, s1, c2, s2] lv st cu su h = none := by
          intro rec kk
          unfold ex1
          simp only
          split <;> first | rfl | (rename_i he; first | (cases he; done) | (simp only [List.cons.injEq] at he; exact absurd he.1 ha))
        rw [e]
        exact hN
    | [a, p1, p2, p3, p4] =>
      by_cases ha : a = 997
      · subst ha
        exact IV_pI fun y st => IV_pI fun x st => IV_ite (hK _ _ _ _ _) hN
      by_cases ha2 : a = 998
      · subst ha2
        exact IV_pI fun y st => IV_pI fun x st => IV_ite (hK _ _ _ _ _) hN
      · have e : ∀ (rec : Rec) (kk : Knt), ex1 sc pp rec kk mi (.invokestatic ix) [a, p1, p2, p3, p4] lv st cu su h = none := by
          intro rec kk
          unfold ex1
          simp only
          split <;> first | rfl | (rename_i he; first | (cases he; done) | (simp only [List.cons.injEq] at he; first | exact absurd he.1 ha | exact absurd he.1 ha2))
        rw [e]
        exact hN
    | [] => exact hN
    | [_] => exact hN
    | [_, _] => exact hN
    | [_, _, _] => exact hN
    | [_, _, _, _] => exact hN
    | [_, _, _, _, _, _, _] => exact hN
    | [_, _, _, _, _, _, _, _] => exact hN
    | [_, _, _, _, _, _, _, _, _] => exact hN
    | _ :: _ :: _ :: _ :: _ :: _ :: _ :: _ :: _ :: _ :: _ :: _ => exact hN
  case ireturn =>
    have k0 : κ = 0 := by simpa [okV] using ho
    have vi : ∀ (x : Int32) (h : Hp), IV κ (some (h, some (.int x))) := fun x h r hr => by
      cases hr
      unfold isV
      rw [if_pos k0]
      exact ⟨x, rfl⟩
    match is with
    | [0] =>
      refine IV_pI fun x st => ?_
      cases st with
      | nil => exact vi _ _
      | cons _ _ => exact hN
    | [3] =>
      refine IV_pI fun x st => ?_
      cases st with
      | nil => exact IV_ite (vi _ _) hN
      | cons _ _ => exact hN
    | [] => exact hN
    | [1] => exact hN
    | [2] => exact hN
    | [t + 4] => exact hN
    | a :: b :: t =>
      have e : ex1 sc pp rec k mi .ireturn (a :: b :: t) lv st cu su h = none := by
        unfold ex1
        simp only
      rw [e]; exact hN
  case lreturn =>
    have k0 : ¬ κ = 0 := by simpa [okV] using ho
    refine IV_pJ fun x st => ?_
    cases st with
    | nil =>
      intro r hr
      cases hr
      unfold isV
      rw [if_neg k0]
      exact ⟨x, rfl⟩
    | cons _ _ => exact hN
  case areturn => cases ho
  case return_ => cases ho
  all_goals exact hN
theorem iv_exS (hRc : ∀ pc lv st cu su h, IV κ (rec mi pc lv st cu su h)) : ∀ (s : List MI), (s.all fun e => okV κ e.1) = true → ∀ (pc : Nat) (lv : Lv) (st : List Value) (cu su : Nat) (h : Hp), IV κ (exS sc pp rec mi pc s lv st cu su h) := by
  intro s
  induction s with
  | nil => intro _ pc lv st cu su h; exact hRc _ _ _ _ _ _
  | cons e r ih =>
    intro ho pc lv st cu su h
    obtain ⟨i, n, is⟩ := e
    simp only [List.all_cons, Bool.and_eq_true] at ho
    exact iv_ex1 (k := fun lv st cu su h => exS sc pp rec mi (pc + n) r lv st cu su h) hRc (fun lv st cu su h => ih ho.2 (pc + n) lv st cu su h) i ho.1 is lv st cu su h
def retV (κ mi : Nat) : Bool := (codeTab.getD mi []).all fun e => e.2.all fun q => okV κ q.1
theorem iv_run (h7 : mi ≠ 7) (ho : retV κ mi = true) : ∀ (n pc : Nat) (lv : Lv) (st : List Value) (cu su : Nat) (h : Hp), IV κ (mrun sc pp n mi pc lv st cu su h) := by
  intro n
  induction n with
  | zero => intro pc lv st cu su h; exact IV_none κ
  | succ n ih =>
    intro pc lv st cu su h
    unfold mrun
    rw [if_neg h7]
    cases hs : codeAt mi pc with
    | none => exact IV_none κ
    | some s =>
      have hm := lookup_mem _ _ _ hs
      exact iv_exS ih s (List.all_eq_true.mp ho _ hm) pc lv st cu su h
theorem Lm_V (h7 : mi ≠ 7) (ho : retV κ mi = true) {pc : Nat} {lv : Lv} {st : List Value} {cu su : Nat} {h h' : Hp} {v : Value} (hr : Lm sc pp mi pc lv st cu su h = some (h', some v)) : isV κ (some v) := by
  obtain ⟨n, hn⟩ := Lm_iff.mp hr
  exact iv_run h7 ho n pc lv st cu su h _ hn
end Iv93
