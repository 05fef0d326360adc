-- the limit of the runs: a run without fuel, as an equation
def Cts (F : Nat → Rs) (G : Rs) : Prop := (∀ n r, F n = some r → F (n + 1) = some r) ∧ (∀ r, G = some r → ∃ n, F n = some r) ∧ (∀ n r, F n = some r → G = some r)
theorem Cts_c (G : Rs) : Cts (fun _ => G) G := ⟨fun _ _ h => h, fun r h => ⟨0, h⟩, fun _ _ h => h⟩
theorem Cts.up {F : Nat → Rs} {G : Rs} (h : Cts F G) {n m : Nat} (hm : n ≤ m) {r : Hp × Option Value} (hr : F n = some r) : F m = some r := by
  induction m with
  | zero => rw [show n = 0 by omega] at hr; exact hr
  | succ m ih =>
    by_cases e : n = m + 1
    · rw [← e]; exact hr
    · exact h.1 m r (ih (by omega))
theorem Cts_ite {P : Prop} [Decidable P] {F F' : Nat → Rs} {G G' : Rs} (h : Cts F G) (h' : Cts F' G') : Cts (fun n => if P then F n else F' n) (if P then G else G') := by
  by_cases hp : P
  · simp only [if_pos hp]; exact h
  · simp only [if_neg hp]; exact h'
theorem Cts_pI {st : List Value} {f : Nat → Int32 → List Value → Rs} {g : Int32 → List Value → Rs} (h : ∀ x st, Cts (fun n => f n x st) (g x st)) : Cts (fun n => pI st (f n)) (pI st g) := by
  unfold pI
  cases st with
  | nil => exact Cts_c none
  | cons v st => cases v <;> first | exact h _ _ | exact Cts_c none
theorem Cts_pJ {st : List Value} {f : Nat → Int64 → List Value → Rs} {g : Int64 → List Value → Rs} (h : ∀ x st, Cts (fun n => f n x st) (g x st)) : Cts (fun n => pJ st (f n)) (pJ st g) := by
  unfold pJ
  cases st with
  | nil => exact Cts_c none
  | cons v st => cases v <;> first | exact h _ _ | exact Cts_c none
theorem Cts_pA {st : List Value} {f : Nat → Nat → List Value → Rs} {g : Nat → List Value → Rs} (h : ∀ x st, Cts (fun n => f n x st) (g x st)) : Cts (fun n => pA st (f n)) (pA st g) := by
  unfold pA
  cases st with
  | nil => exact Cts_c none
  | cons v st => cases v <;> first | exact h _ _ | exact Cts_c none
theorem Cts_pV {st : List Value} {f : Nat → Value → List Value → Rs} {g : Value → List Value → Rs} (h : ∀ x st, Cts (fun n => f n x st) (g x st)) : Cts (fun n => pV st (f n)) (pV st g) := by
  unfold pV
  cases st with
  | nil => exact Cts_c none
  | cons v st => cases v <;> first | exact h _ _ | exact Cts_c none
theorem Cts_gI {lv : Lv} {i : Nat} {f : Nat → Int32 → Rs} {g : Int32 → Rs} (h : ∀ x, Cts (fun n => f n x) (g x)) : Cts (fun n => gI lv i (f n)) (gI lv i g) := by
  unfold gI
  cases lget lv i with
  | none => exact Cts_c none
  | some v => cases v <;> first | exact h _ | exact Cts_c none
theorem Cts_gJ {lv : Lv} {i : Nat} {f : Nat → Int64 → Rs} {g : Int64 → Rs} (h : ∀ x, Cts (fun n => f n x) (g x)) : Cts (fun n => gJ lv i (f n)) (gJ lv i g) := by
  unfold gJ
  cases lget lv i with
  | none => exact Cts_c none
  | some v => cases v <;> first | exact h _ | exact Cts_c none
theorem Cts_gA {lv : Lv} {i : Nat} {f : Nat → Nat → Rs} {g : Nat → Rs} (h : ∀ x, Cts (fun n => f n x) (g x)) : Cts (fun n => gA lv i (f n)) (gA lv i g) := by
  unfold gA
  cases lget lv i with
  | none => exact Cts_c none
  | some v => cases v <;> first | exact h _ | exact Cts_c none
theorem Cts_bind {F : Nat → Rs} {G : Rs} {f : Nat → Hp → Option Value → Rs} {g : Hp → Option Value → Rs} (h : Cts F G) (h2 : ∀ x y, Cts (fun n => f n x y) (g x y)) : Cts (fun n => match (generalizing := false) F n with
    | some (h', r) => f n h' r
    | none => none) (match (generalizing := false) G with
    | some (h', r) => g h' r
    | none => none) := by
  refine ⟨fun n r hr => ?_, fun r hr => ?_, fun n r hr => ?_⟩
  · cases hF : F n with
    | none => simp only [hF] at hr; cases hr
    | some q =>
      obtain ⟨x, y⟩ := q
      simp only [hF] at hr
      simp only [h.1 n _ hF]
      exact (h2 x y).1 n r hr
  · cases hG : G with
    | none => rw [hG] at hr; cases hr
    | some q =>
      obtain ⟨x, y⟩ := q
      rw [hG] at hr
      obtain ⟨n1, e1⟩ := h.2.1 _ hG
      obtain ⟨n2, e2⟩ := (h2 x y).2.1 r hr
      refine ⟨max n1 n2, ?_⟩
      simp only [h.up (Nat.le_max_left n1 n2) e1]
      exact (h2 x y).up (Nat.le_max_right n1 n2) e2
  · cases hF : F n with
    | none => simp only [hF] at hr; cases hr
    | some q =>
      obtain ⟨x, y⟩ := q
      simp only [hF] at hr
      rw [h.2.2 n _ hF]
      exact (h2 x y).2.2 n r hr
section LimA
variable {sc : Nat × (Nat → Int32)} {pp : Nat → Nat → Int32 → Int32 → Hp → Option (Hp × Int32)} {R : Nat → Rec} {R' : Rec} {K : Nat → Knt} {K' : Knt} {mi : Nat}
set_option maxHeartbeats 4000000 in
theorem cts_ex1 (hRc : ∀ mi pc lv st cu su h, Cts (fun n => R n mi pc lv st cu su h) (R' mi pc lv st cu su h)) (hK : ∀ lv st cu su h, Cts (fun n => K n lv st cu su h) (K' lv st cu su h)) (i : Instr) (is : List Nat) (lv : Lv) (st : List Value) (cu su : Nat) (h : Hp) : Cts (fun n => ex1 sc pp (R n) (K n) mi i is lv st cu su h) (ex1 sc pp R' K' mi i is lv st cu su h) := by
  have hN := Cts_c none
  cases i
  case aload m => exact Cts_gA fun a => hK _ _ _ _ _
  case aload_n m => exact Cts_gA fun a => hK _ _ _ _ _
  case iload m => exact Cts_gI fun a => hK _ _ _ _ _
  case iload_n m => exact Cts_gI fun a => hK _ _ _ _ _
  case lload m => exact Cts_gJ fun a => hK _ _ _ _ _
  case lload_n m => exact Cts_gJ fun a => hK _ _ _ _ _
  case iconst c => exact hK _ _ _ _ _
  case bipush c => exact hK _ _ _ _ _
  case sipush c => exact hK _ _ _ _ _
  case lconst c => exact hK _ _ _ _ _
  case ldc ix => 
    match is with
    | [v, pos] => exact hK _ _ _ _ _
    | [] => exact hN
    | [_] => exact hN
    | _ :: _ :: _ :: _ => exact hN
  case ldc_w ix => 
    match is with
    | [v, pos] => exact hK _ _ _ _ _
    | [] => exact hN
    | [_] => exact hN
    | _ :: _ :: _ :: _ => exact hN
  case ldc2_w ix => 
    match is with
    | [v, pos] => exact hK _ _ _ _ _
    | [] => exact hN
    | [_] => exact hN
    | _ :: _ :: _ :: _ => exact hN
  case istore m => exact Cts_pI fun x st => Cts_ite (hK _ _ _ _ _) hN
  case istore_n m => exact Cts_pI fun x st => Cts_ite (hK _ _ _ _ _) hN
  case astore m => exact Cts_pA fun x st => Cts_ite (hK _ _ _ _ _) hN
  case astore_n m => exact Cts_pA fun x st => Cts_ite (hK _ _ _ _ _) hN
  case lstore m => exact Cts_pJ fun x st => Cts_ite (hK _ _ _ _ _) hN
  case lstore_n m => exact Cts_pJ fun x st => Cts_ite (hK _ _ _ _ _) hN
  case iinc m d => exact Cts_gI fun x => Cts_ite (hK _ _ _ _ _) hN
  case iadd => exact Cts_pI fun y st => Cts_pI fun x st => hK _ _ _ _ _
  case isub => exact Cts_pI fun y st => Cts_pI fun x st => hK _ _ _ _ _
  case imul => exact Cts_pI fun y st => Cts_pI fun x st => hK _ _ _ _ _
  case iand => exact Cts_pI fun y st => Cts_pI fun x st => hK _ _ _ _ _
  case ior => exact Cts_pI fun y st => Cts_pI fun x st => hK _ _ _ _ _
  case ixor => exact Cts_pI fun y st => Cts_pI fun x st => hK _ _ _ _ _
  case ishl => exact Cts_pI fun y st => Cts_pI fun x st => hK _ _ _ _ _
  case ishr => exact Cts_pI fun y st => Cts_pI fun x st => hK _ _ _ _ _
  case iushr => exact Cts_pI fun y st => Cts_pI fun x st => hK _ _ _ _ _
  case idiv => exact Cts_pI fun y st => Cts_pI fun x st => Cts_ite hN (hK _ _ _ _ _)
  case irem => exact Cts_pI fun y st => Cts_pI fun x st => Cts_ite hN (hK _ _ _ _ _)
  case ladd => exact Cts_pJ fun y st => Cts_pJ fun x st => hK _ _ _ _ _
  case lsub => exact Cts_pJ fun y st => Cts_pJ fun x st => hK _ _ _ _ _
  case lmul => exact Cts_pJ fun y st => Cts_pJ fun x st => hK _ _ _ _ _
  case land => exact Cts_pJ fun y st => Cts_pJ fun x st => hK _ _ _ _ _
  case lcmp => exact Cts_pJ fun y st => Cts_pJ fun x st => hK _ _ _ _ _
  case ldiv => exact Cts_pJ fun y st => Cts_pJ fun x st => Cts_ite hN (hK _ _ _ _ _)
  case lrem => exact Cts_pJ fun y st => Cts_pJ fun x st => Cts_ite hN (hK _ _ _ _ _)
  case lneg => exact Cts_pJ fun x st => hK _ _ _ _ _
  case i2l => exact Cts_pI fun x st => hK _ _ _ _ _
  case l2i => exact Cts_pJ fun x st => hK _ _ _ _ _
  case i2c => exact Cts_pI fun x st => hK _ _ _ _ _
  case dup => 
    show Cts (fun n => pV st fun v st => K n lv (v :: v :: st) cu su h) (pV st fun v st => K' lv (v :: v :: st) cu su h)
    exact Cts_pV (f := fun n v st => K n lv (v :: v :: st) cu su h) (g := fun v st => K' lv (v :: v :: st) cu su h) fun x st => hK _ _ _ _ _
  case dup2 => 
    show Cts (fun n => pV st fun v st => pV st fun w st => K n lv (v :: w :: v :: w :: st) cu su h) (pV st fun v st => pV st fun w st => K' lv (v :: w :: v :: w :: st) cu su h)
    exact Cts_pV (f := fun n v st => pV st fun w st => K n lv (v :: w :: v :: w :: st) cu su h) (g := fun v st => pV st fun w st => K' lv (v :: w :: v :: w :: st) cu su h) fun v st => Cts_pV (f := fun n w st => K n lv (v :: w :: v :: w :: st) cu su h) (g := fun w st => K' lv (v :: w :: v :: w :: st) cu su h) fun x st => hK _ _ _ _ _
  case pop => 
    show Cts (fun n => pV st fun _ st => K n lv st cu su h) (pV st fun _ st => K' lv st cu su h)
    exact Cts_pV (f := fun n _ st => K n lv st cu su h) (g := fun _ st => K' lv st cu su h) fun x st => hK _ _ _ _ _
  case goto off => 
    match is with
    | [t] => exact hRc _ _ _ _ _ _ _
    | [] => exact hN
    | _ :: _ :: _ => exact hN
  case if_icmp cnd off => 
    match is with
    | [t] => cases cnd <;> exact Cts_pI fun y st => Cts_pI fun x st => Cts_ite (hRc _ _ _ _ _ _ _) (hK _ _ _ _ _)
    | [] => exact hN
    | _ :: _ :: _ => exact hN
  case ifCond cnd off => 
    match is with
    | [t] => cases cnd <;> exact Cts_pI fun x st => Cts_ite (hRc _ _ _ _ _ _ _) (hK _ _ _ _ _)
    | [] => exact hN
    | _ :: _ :: _ => exact hN
  case tableswitch d lo hi offs => 
    match is with
    | dd :: ts => exact Cts_pI fun x st => Cts_ite (hRc _ _ _ _ _ _ _) (hRc _ _ _ _ _ _ _)
    | [] => exact hN
  case lookupswitch d ps => 
    match is with
    | dd :: ts => exact Cts_pI fun x st => hRc _ _ _ _ _ _ _
    | [] => exact hN
  case getfield ix => 
    match is with
    | [ci, j, t, pos, nest] =>
      refine Cts_pA fun a st => Cts_ite ?_ hN
      match t with
      | 1 => exact hK _ _ _ _ _
      | 2 => cases hr : hR h a j with
        | zero => simp only [hr]; exact hN
        | succ r => simp only [hr]; exact hK _ _ _ _ _
      | 0 => exact hK _ _ _ _ _
      | t + 3 => exact hK _ _ _ _ _
    | [] => exact hN
    | [_] => exact hN
    | [_, _] => exact hN
    | [_, _, _] => exact hN
    | [_, _, _, _] => exact hN
    | _ :: _ :: _ :: _ :: _ :: _ :: _ => exact hN
  case putfield ix => 
    match is with
    | [ci, j, t, pos, nest, fin] =>
      match t with
      | 1 => exact Cts_pJ fun x st => Cts_pA fun a st => Cts_ite (hK _ _ _ _ _) hN
      | 2 => exact Cts_pA fun x st => Cts_pA fun a st => Cts_ite (hK _ _ _ _ _) hN
      | 3 => exact Cts_pI fun x st => Cts_pA fun a st => Cts_ite (hK _ _ _ _ _) hN
      | 0 => exact Cts_pI fun x st => Cts_pA fun a st => Cts_ite (hK _ _ _ _ _) hN
      | t + 4 => exact Cts_pI fun x st => Cts_pA fun a st => Cts_ite (hK _ _ _ _ _) hN
    | [] => exact hN
    | [_] => exact hN
    | [_, _] => exact hN
    | [_, _, _] => exact hN
    | [_, _, _, _] => exact hN
    | [_, _, _, _, _] => exact hN
    | _ :: _ :: _ :: _ :: _ :: _ :: _ :: _ => exact hN
  case iaload => exact Cts_ite (Cts_pI fun i st => Cts_pA fun a st => Cts_ite (hK _ _ _ _ _) hN) (Cts_pI fun i st => Cts_pA fun a st => Cts_ite (hK _ _ _ _ _) hN)
  case arraylength => exact Cts_ite (Cts_pA fun a st => Cts_ite (hK _ _ _ _ _) hN) (Cts_pA fun a st => Cts_ite (hK _ _ _ _ _) hN)
  case laload => exact Cts_pI fun i st => Cts_pA fun a st => Cts_ite (hK _ _ _ _ _) hN
  case baload => exact Cts_pI fun i st => Cts_pA fun a st => Cts_ite (hK _ _ _ _ _) hN
  case aaload => 
    refine Cts_pI fun i st => Cts_pA fun a st => Cts_ite ?_ hN
    cases hr : hR h a i.toNatClampNeg with
    | zero => simp only [hr]; exact hN
    | succ r => simp only [hr]; exact hK _ _ _ _ _
  case iastore => exact Cts_pI fun x st => Cts_pI fun i st => Cts_pA fun a st => Cts_ite (hK _ _ _ _ _) hN
  case bastore => exact Cts_pI fun x st => Cts_pI fun i st => Cts_pA fun a st => Cts_ite (hK _ _ _ _ _) hN
  case lastore => exact Cts_pJ fun x st => Cts_pI fun i st => Cts_pA fun a st => Cts_ite (hK _ _ _ _ _) hN
  case aastore => exact Cts_pA fun x st => Cts_pI fun i st => Cts_pA fun a st => Cts_ite (hK _ _ _ _ _) hN
  case newarray t => 
    match is with
    | [c2, s2] => exact Cts_pI fun n st => Cts_ite (hK _ _ _ _ _) hN
    | [] => exact hN
    | [_] => exact hN
    | _ :: _ :: _ :: _ => exact hN
  case anewarray ix => 
    match is with
    | [c2, s2, pos] => exact Cts_pI fun n st => Cts_ite (hK _ _ _ _ _) hN
    | [] => exact hN
    | [_] => exact hN
    | [_, _] => exact hN
    | _ :: _ :: _ :: _ :: _ => exact hN
  case new ix => 
    match is with
    | [ci, nf, c2, s2, p1, p2, p3] => exact Cts_ite (hK _ _ _ _ _) hN
    | [] => exact hN
    | [_] => exact hN
    | [_, _] => exact hN
    | [_, _, _] => exact hN
    | [_, _, _, _] => exact hN
    | [_, _, _, _, _] => exact hN
    | [_, _, _, _, _, _] => exact hN
    | _ :: _ :: _ :: _ :: _ :: _ :: _ :: _ :: _ => exact hN
  case invokevirtual ix => 
    match is with
    | [cm, na, pos, nest, ml, c1, s1, c2, s2, rc] => exact Cts_ite (Cts_bind (hRc _ _ _ _ _ _ _) (fun x y => hK _ _ _ _ _)) hN
    | [] => exact hN
    | [_] => exact hN
    | [_, _] => exact hN
    | [_, _, _] => exact hN
    | [_, _, _, _] => exact hN
    | [_, _, _, _, _] => exact hN
    | [_, _, _, _, _, _] => exact hN
    | [_, _, _, _, _, _, _] => exact hN
    | [_, _, _, _, _, _, _, _] => exact hN
    | [_, _, _, _, _, _, _, _, _] => exact hN
    | _ :: _ :: _ :: _ :: _ :: _ :: _ :: _ :: _ :: _ :: _ :: _ => exact hN
  case invokespecial ix => 
    match is with
    | [cm, na, pos, nest, ml, c1, s1, c2, s2, rc] => exact Cts_ite (Cts_bind (hRc _ _ _ _ _ _ _) (fun x y => hK _ _ _ _ _)) hN
    | [a, x, p1, p2, p3] =>
      by_cases ha : a = 999
      · subst ha
        refine Cts_pA fun _ st => ?_
        cases st with
        | nil => exact hK _ _ _ _ _
        | cons _ _ => exact hN
      · have e : ∀ (rec : Rec) (kk : Knt), ex1 sc pp rec kk mi (.invokespecial ix) [a, x, p1, p2, p3] lv st cu su h = none := by
          intro rec kk
          unfold ex1
          simp only
          split
          · rename_i he; cases he
          · rename_i he; simp only [List.cons.injEq] at he; exact absurd he.1 ha
          · rfl
        simp only [e]
        exact hN
    | [] => exact hN
    | [_] => exact hN
    | [_, _] => exact hN
    | [_, _, _] => exact hN
    | [_, _, _, _] => exact hN
    | [_, _, _, _, _, _] => exact hN
    | [_, _, _, _, _, _, _] => exact hN
    | [_, _, _, _, _, _, _, _] => exact hN
    | [_, _, _, _, _, _, _, _, _] => exact hN
    | _ :: _ :: _ :: _ :: _ :: _ :: _ :: _ :: _ :: _ :: _ :: _ => exact hN
  case invokestatic ix => 
    match is with
    | [cm, na, pos, nest, ml, c1, s1, c2, s2, rc] => exact Cts_ite (Cts_bind (hRc _ _ _ _ _ _ _) (fun x y => hK _ _ _ _ _)) hN
    | [a, p1, c1, s1, c2, s2] =>
      by_cases ha : a = 996
      · subst ha
        refine Cts_pA fun o st => Cts_pI fun q1 st => Cts_pI fun q0 st => Cts_pA fun x st => Cts_ite ?_ hN
        cases hp : pp x o q0 q1 h with
        | none => simp only [hp]; exact hN
        | some q => obtain ⟨h', r⟩ := q; simp only [hp]; exact hK _ _ _ _ _
      · have e : ∀ (rec : Rec) (kk : Knt), ex1 sc pp rec kk mi (.invokestatic ix) [a, p1, c1, s1, c2, s2] lv st cu su h = none := by
          intro rec kk
          unfold ex1
          simp only
          split <;> first | rfl | (rename_i he; first | (cases he; done) | (simp only [List.cons.injEq] at he; exact absurd he.1 ha))
        simp only [e]
        exact hN
    | [a, p1, p2, p3, p4] =>
      by_cases ha : a = 997
      · subst ha
        exact Cts_pI fun y st => Cts_pI fun x st => Cts_ite (hK _ _ _ _ _) hN
      by_cases ha2 : a = 998
      · subst ha2
        exact Cts_pI fun y st => Cts_pI fun x st => Cts_ite (hK _ _ _ _ _) hN
      · have e : ∀ (rec : Rec) (kk : Knt), ex1 sc pp rec kk mi (.invokestatic ix) [a, p1, p2, p3, p4] lv st cu su h = none := by
          intro rec kk
          unfold ex1
          simp only
          split <;> first | rfl | (rename_i he; first | (cases he; done) | (simp only [List.cons.injEq] at he; first | exact absurd he.1 ha | exact absurd he.1 ha2))
        simp only [e]
        exact hN
    | [] => exact hN
    | [_] => exact hN
    | [_, _] => exact hN
    | [_, _, _] => exact hN
    | [_, _, _, _] => exact hN
    | [_, _, _, _, _, _, _] => exact hN
    | [_, _, _, _, _, _, _, _] => exact hN
    | [_, _, _, _, _, _, _, _, _] => exact hN
    | _ :: _ :: _ :: _ :: _ :: _ :: _ :: _ :: _ :: _ :: _ :: _ => exact hN
  all_goals exact Cts_c _
theorem cts_exS (hRc : ∀ mi pc lv st cu su h, Cts (fun n => R n mi pc lv st cu su h) (R' mi pc lv st cu su h)) : ∀ (s : List MI) (pc : Nat) (lv : Lv) (st : List Value) (cu su : Nat) (h : Hp), Cts (fun n => exS sc pp (R n) mi pc s lv st cu su h) (exS sc pp R' mi pc s lv st cu su h) := by
  intro s
  induction s with
  | nil => intro pc lv st cu su h; exact hRc _ _ _ _ _ _ _
  | cons e r ih =>
    intro pc lv st cu su h
    obtain ⟨i, n, is⟩ := e
    exact cts_ex1 (K := fun m lv st cu su h => exS sc pp (R m) mi (pc + n) r lv st cu su h) (K' := fun lv st cu su h => exS sc pp R' mi (pc + n) r lv st cu su h) hRc (fun lv st cu su h => ih (pc + n) lv st cu su h) i is lv st cu su h
theorem mrun_up : ∀ (n mi pc : Nat) (lv : Lv) (st : List Value) (cu su : Nat) (h : Hp) (r : Hp × Option Value), mrun sc pp n mi pc lv st cu su h = some r → mrun sc pp (n + 1) mi pc lv st cu su h = some r := by
  intro n
  induction n with
  | zero => intro mi pc lv st cu su h r hr; cases hr
  | succ n ih =>
    intro mi pc lv st cu su h r hr
    unfold mrun at hr ⊢
    by_cases h7 : mi = 7
    · rw [if_pos h7] at hr ⊢; exact hr
    · rw [if_neg h7] at hr ⊢
      cases hs : codeAt mi pc with
      | none => rw [hs] at hr; cases hr
      | some s =>
        rw [hs] at hr
        have hC := cts_exS (sc := sc) (pp := pp) (mi := mi) (R := fun j => if j = 0 then mrun sc pp n else mrun sc pp (n + 1)) (R' := mrun sc pp (n + 1)) (fun mi pc lv st cu su h => ⟨fun j r hr => by
            by_cases hj : j = 0
            · simp only [hj, if_true] at hr; simpa using ih _ _ _ _ _ _ _ _ hr
            · simp only [hj, if_false] at hr; simpa using hr, fun r hr => ⟨1, by simpa using hr⟩, fun j r hr => by
            by_cases hj : j = 0
            · simp only [hj, if_true] at hr; exact ih _ _ _ _ _ _ _ _ hr
            · simp only [hj, if_false] at hr; exact hr⟩) s pc lv st cu su h
        have h1 := hC.1 0 r (by simpa using hr)
        simpa using h1
end LimA
noncomputable def Lm (sc : Nat × (Nat → Int32)) (pp : Nat → Nat → Int32 → Int32 → Hp → Option (Hp × Int32)) : Rec := fun mi pc lv st cu su h => @dite Rs (∃ (n : Nat) (r : Hp × Option Value), mrun sc pp n mi pc lv st cu su h = some r) (Classical.propDecidable _) (fun hx => some hx.choose_spec.choose) (fun _ => none)
section LimB
variable {sc : Nat × (Nat → Int32)} {pp : Nat → Nat → Int32 → Int32 → Hp → Option (Hp × Int32)}
theorem mrun_le {n m : Nat} (hm : n ≤ m) {mi pc : Nat} {lv : Lv} {st : List Value} {cu su : Nat} {h : Hp} {r : Hp × Option Value} (hr : mrun sc pp n mi pc lv st cu su h = some r) : mrun sc pp m mi pc lv st cu su h = some r := by
  induction m with
  | zero => rw [show n = 0 by omega] at hr; exact hr
  | succ m ih =>
    by_cases e : n = m + 1
    · rw [← e]; exact hr
    · exact mrun_up _ _ _ _ _ _ _ _ _ (ih (by omega))
theorem Lm_iff {mi pc : Nat} {lv : Lv} {st : List Value} {cu su : Nat} {h : Hp} {r : Hp × Option Value} : Lm sc pp mi pc lv st cu su h = some r ↔ ∃ n, mrun sc pp n mi pc lv st cu su h = some r := by
  unfold Lm
  constructor
  · intro hr
    by_cases hx : ∃ (n : Nat) (r : Hp × Option Value), mrun sc pp n mi pc lv st cu su h = some r
    · rw [dif_pos hx] at hr
      have := hx.choose_spec.choose_spec
      rw [Option.some.inj hr] at this
      exact ⟨_, this⟩
    · rw [dif_neg hx] at hr; cases hr
  · rintro ⟨n, hr⟩
    have hx : ∃ (n : Nat) (r : Hp × Option Value), mrun sc pp n mi pc lv st cu su h = some r := ⟨n, r, hr⟩
    rw [dif_pos hx]
    have h1 := hx.choose_spec.choose_spec
    have h2 := mrun_le (Nat.le_max_left n hx.choose) hr
    have h3 := mrun_le (Nat.le_max_right n hx.choose) h1
    rw [h2] at h3
    exact h3.symm
theorem Lm_cts (mi pc : Nat) (lv : Lv) (st : List Value) (cu su : Nat) (h : Hp) : Cts (fun n => mrun sc pp n mi pc lv st cu su h) (Lm sc pp mi pc lv st cu su h) := ⟨fun n r hr => mrun_up _ _ _ _ _ _ _ _ _ hr, fun _ hr => Lm_iff.mp hr, fun n _ hr => Lm_iff.mpr ⟨n, hr⟩⟩
/-- the run, segment by segment -/
theorem Lm_eq {mi pc : Nat} {s : List MI} (h7 : mi ≠ 7) (hs : codeAt mi pc = some s) (lv : Lv) (st : List Value) (cu su : Nat) (h : Hp) : Lm sc pp mi pc lv st cu su h = exS sc pp (Lm sc pp) mi pc s lv st cu su h := by
  have hC := cts_exS (sc := sc) (pp := pp) (mi := mi) (R := fun n => mrun sc pp n) (R' := Lm sc pp) (fun mi pc lv st cu su h => Lm_cts mi pc lv st cu su h) s pc lv st cu su h
  have key : ∀ n, mrun sc pp (n + 1) mi pc lv st cu su h = exS sc pp (mrun sc pp n) mi pc s lv st cu su h := by
    intro n
    show (if mi = 7 then (if pc = 0 ∧ st = [] then primT lv h else none) else match codeAt mi pc with
      | none => none
      | some s => exS sc pp (mrun sc pp n) mi pc s lv st cu su h) = _
    rw [if_neg h7, hs]
  cases hL : exS sc pp (Lm sc pp) mi pc s lv st cu su h with
  | some r =>
    obtain ⟨n, hn⟩ := hC.2.1 r hL
    exact Lm_iff.mpr ⟨n + 1, by rw [key]; exact hn⟩
  | none =>
    cases hM : Lm sc pp mi pc lv st cu su h with
    | none => rfl
    | some r =>
      obtain ⟨n, hn⟩ := Lm_iff.mp hM
      have h1 := hC.2.2 n r (by have := mrun_up _ _ _ _ _ _ _ _ _ hn; rw [key] at this; exact this)
      rw [hL] at h1
      cases h1
theorem Lm_tok (lv : Lv) (h : Hp) : Lm sc pp 7 0 lv [] 0 0 h = primT lv h := by
  have key : ∀ n, mrun sc pp (n + 1) 7 0 lv [] 0 0 h = primT lv h := by
    intro n
    unfold mrun
    rw [if_pos rfl, if_pos ⟨rfl, rfl⟩]
  cases hP : primT lv h with
  | some r => exact Lm_iff.mpr ⟨1, by rw [key, hP]⟩
  | none =>
    cases hM : Lm sc pp 7 0 lv [] 0 0 h with
    | none => rfl
    | some r =>
      obtain ⟨n, hn⟩ := Lm_iff.mp hM
      have := mrun_up _ _ _ _ _ _ _ _ _ hn
      rw [key, hP] at this
      cases this
end LimB
