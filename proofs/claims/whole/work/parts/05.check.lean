-- what is checked of the resolved code, by the kernel
abbrev MI : Type := Instr × Nat × List Nat
def fchk (ow ix ci j t pos nest : Nat) : Bool := match vwCl[ci]? with
  | some (C, T, N) => decide (j < N) && decide ((T j).1 = C) && decide ((fks.getD ci []).getD j 9 = t) && (if nest = 0 then decide (lw_tbl[pos]? = some (.fieldLink (ownS ow) ix C (T j).2.1 (T j).2.2.1)) else (decide (nest = 1) && decide (lw_tbl[pos]? = some (.fieldLinkNest (ownS ow) ix C (T j).2.1 (T j).2.2.1 "AskedCourt"))))
  | none => false
def pchk (ci j fin nest f : Nat) : Bool := match vwCl[ci]? with
  | some (_, T, _) => (if fin = 0 then decide ((T j).2.2.2 = false) else (decide ((T j).2.2.2 = true) && decide (nest = 0) && decide (f = 2)))
  | none => false
/-- a call of method cm: its link, its room -/
def cchk (q : MT) (ix cm na pos nest ml c1 s1 c2 s2 : Nat) : Bool :=
  (if nest = 0 then decide (lw_tbl[pos]? = some (.methodLink (ownS q.2.2.2.2.1) ix (mY cm))) else (decide (nest = 1) && decide (lw_tbl[pos]? = some (.methodLinkNest (ownS q.2.2.2.2.1) ix (mY cm) "AskedCourt")))) && decide (ml = mL cm) && decide (c1 = mP cm 7) && decide (s1 = mP cm 8) && decide (c2 = q.2.2.2.2.2.2.getD 7 0) && decide (s2 = q.2.2.2.2.2.2.getD 8 0) && decide (mP cm 5 + 1 ≤ q.2.2.2.2.2.2.getD 5 0) && decide (8 + (ml + 11) + mP cm 6 ≤ q.2.2.2.2.2.2.getD 6 0) && decide (cm < 277)
def chkI (q : MT) (pc : Nat) (e : MI) : Bool := decide (decode q.2.1 pc = .ok (e.1, e.2.1)) && (match e.1 with
  | .goto off => (match e.2.2 with
    | [t] => decide ((pc : Int) + off = (t : Int))
    | _ => false)
  | .if_icmp _ off => (match e.2.2 with
    | [t] => decide ((pc : Int) + off = (t : Int))
    | _ => false)
  | .ifCond _ off => (match e.2.2 with
    | [t] => decide ((pc : Int) + off = (t : Int))
    | _ => false)
  | .tableswitch d lo hi offs => (match e.2.2 with
    | dd :: ts => decide ((pc : Int) + d = (dd : Int)) && decide (ts.map (fun (t : Nat) => (t : Int) - (pc : Int)) = offs.toList) && decide ((offs.toList.length : Int) = hi - lo + 1)
    | _ => false)
  | .lookupswitch d ps => (match e.2.2 with
    | dd :: ts => decide ((pc : Int) + d = (dd : Int)) && decide (ts.map (fun (t : Nat) => (t : Int) - (pc : Int)) = ps.toList.map (fun q => q.2)) && (ps.toList.zip (ps.toList.drop 1)).all (fun (a, next) => a.1 < next.1)
    | _ => false)
  | .getfield ix => (match e.2.2 with
    | [ci, j, t, pos, nest] => fchk q.2.2.2.2.1 ix ci j t pos nest
    | _ => false)
  | .putfield ix => (match e.2.2 with
    | [ci, j, t, pos, nest, fin] => fchk q.2.2.2.2.1 ix ci j t pos nest && pchk ci j fin nest q.2.2.2.2.2.1
    | _ => false)
  | .ldc ix => (match e.2.2 with
    | [v, pos] => decide (lw_tbl[pos]? = some (.constant (ownS q.2.2.2.2.1) ix (Int32.ofNat v)))
    | _ => true)
  | .ldc_w ix => (match e.2.2 with
    | [v, pos] => decide (lw_tbl[pos]? = some (.constant (ownS q.2.2.2.2.1) ix (Int32.ofNat v)))
    | _ => true)
  | .ldc2_w ix => (match e.2.2 with
    | [v, pos] => decide (lw_tbl[pos]? = some (.constantLong (ownS q.2.2.2.2.1) ix (Int64.ofNat v)))
    | _ => true)
  | .newarray t => (match e.2.2 with
    | [c2, s2] => decide (c2 = q.2.2.2.2.2.2.getD 7 0) && decide (s2 = q.2.2.2.2.2.2.getD 8 0) && (match t with | .int => true | .long => true | .boolean => true | _ => false)
    | _ => false)
  | .anewarray ix => (match e.2.2 with
    | [c2, s2, pos] => decide (c2 = q.2.2.2.2.2.2.getD 7 0) && decide (s2 = q.2.2.2.2.2.2.getD 8 0) && decide (lw_tbl[pos]? = some (.classLink (ownS q.2.2.2.2.1) ix "AskedCourt$State"))
    | _ => false)
  | .new ix => (match e.2.2 with
    | [ci, nf, c2, s2, p1, p2, p3] => decide (c2 = q.2.2.2.2.2.2.getD 7 0) && decide (s2 = q.2.2.2.2.2.2.getD 8 0) && (match vwCl[ci]? with
      | some (C, _, N) => decide (nf = N) && decide (lw_tbl[p1]? = some (.classLink (ownS q.2.2.2.2.1) ix C)) && decide (lw_tbl[p2]? = some (.instantiable C N)) && decide (lw_tbl[p3]? = some (.initialized C))
      | none => false)
    | _ => true)
  | .invokevirtual ix => (match e.2.2 with
    | [cm, na, pos, nest, ml, c1, s1, c2, s2, rc] => cchk q ix cm na pos nest ml c1 s1 c2 s2 && decide (mF cm = 1) && decide (na = mP cm 4 + 1) && decide (rc < 13) && decide (rc = mO cm)
    | _ => true)
  | .invokespecial ix => (match e.2.2 with
    | [cm, na, pos, nest, ml, c1, s1, c2, s2, _] => cchk q ix cm na pos nest ml c1 s1 c2 s2 && decide (mF cm = 2) && decide (na = mP cm 4 + 1)
    | [a, _, p1, p2, p3] => decide (a = 999) && decide (lw_tbl[p1]? = some (.methodLink (ownS q.2.2.2.2.1) ix objectInit)) && decide (lw_tbl[p2]? = some (.instanceMethod objectInit)) && decide (lw_tbl[p3]? = some (.code objectInit ⟨#[0xb1]⟩ 1 none)) && decide (1 ≤ q.2.2.2.2.2.2.getD 5 0) && decide (12 ≤ q.2.2.2.2.2.2.getD 6 0)
    | _ => true)
  | .invokestatic ix => (match e.2.2 with
    | [cm, na, pos, nest, ml, c1, s1, c2, s2, _] => cchk q ix cm na pos nest ml c1 s1 c2 s2 && decide (mF cm = 0) && decide (na = mP cm 4)
    | [a, p1, c1, s1, c2, s2] => decide (a = 996) && decide (lw_tbl[p1]? = some (.methodLink (ownS q.2.2.2.2.1) ix (mY 108))) && decide (c1 = mP 108 7) && decide (s1 = mP 108 8) && decide (c2 = q.2.2.2.2.2.2.getD 7 0) && decide (s2 = q.2.2.2.2.2.2.getD 8 0)
    | [a, p1, p2, p3, p4] => decide (1 ≤ q.2.2.2.2.2.2.getD 5 0) && decide (21 ≤ q.2.2.2.2.2.2.getD 6 0) && decide (lw_tbl[p3]? = some (.initialized "java/lang/Math")) && (if a = 997 then decide (lw_tbl[p1]? = some (.methodLink (ownS q.2.2.2.2.1) ix Lib.Math.min.name)) && decide (lw_tbl[p2]? = some (.static Lib.Math.min.name)) && decide (lw_tbl[p4]? = some (.code Lib.Math.min.name Lib.Math.min.code 2 (some .int))) else decide (a = 998) && decide (lw_tbl[p1]? = some (.methodLink (ownS q.2.2.2.2.1) ix Lib.Math.max.name)) && decide (lw_tbl[p2]? = some (.static Lib.Math.max.name)) && decide (lw_tbl[p4]? = some (.code Lib.Math.max.name Lib.Math.max.code 2 (some .int))))
    | _ => true)
  | .istore_n n => decide ((n : Nat) = 0) || !((q.2.2.2.2.2.2.drop 9).contains ((n : Nat) - 1))
  | .istore n => decide (n = 0) || !((q.2.2.2.2.2.2.drop 9).contains (n - 1))
  | .astore_n n => decide ((n : Nat) = 0) || !((q.2.2.2.2.2.2.drop 9).contains ((n : Nat) - 1))
  | .astore n => decide (n = 0) || !((q.2.2.2.2.2.2.drop 9).contains (n - 1))
  | .iinc n _ => decide (n = 0) || !((q.2.2.2.2.2.2.drop 9).contains (n - 1))
  | .lstore_n n => (q.2.2.2.2.2.2.drop 9).contains (n : Nat) && (decide ((n : Nat) = 0) || !((q.2.2.2.2.2.2.drop 9).contains ((n : Nat) - 1)))
  | .lstore n => (q.2.2.2.2.2.2.drop 9).contains n && (decide (n = 0) || !((q.2.2.2.2.2.2.drop 9).contains (n - 1)))
  | .ireturn => (match e.2.2 with
    | [0] => decide (q.2.2.2.1 = some .int)
    | [3] => decide (q.2.2.2.1 = some .boolean)
    | _ => false)
  | .lreturn => decide (q.2.2.2.1 = some .long)
  | .areturn => decide (q.2.2.2.1 = some (.object "AskedCourt$State"))
  | .return_ => decide (q.2.2.2.1 = none)
  | _ => true)
def chkS (q : MT) : Nat → List MI → Bool
  | _, [] => true
  | pc, e :: r => chkI q pc e && chkS q (pc + e.2.1) r
abbrev SegL : Type := List (Nat × List MI)
def chkM (mi : Nat) (s : SegL) : Bool := s.all (fun e => chkS (mt mi) e.1 e.2)
def okFrom : Nat → List SegL → Prop
  | _, [] => True
  | n, s :: r => chkM n s = true ∧ okFrom (n + 1) r
theorem okFrom_at : ∀ (l : List SegL) (n i : Nat), okFrom n l → chkM (n + i) (l.getD i []) = true := by
  intro l
  induction l with
  | nil => intro n i _; simp [chkM]
  | cons s r ih =>
    intro n i h
    cases i with
    | zero => exact h.1
    | succ i =>
      have := ih (n + 1) i h.2
      simp only [List.getD_cons_succ]
      rw [show n + (i + 1) = n + 1 + i by omega]
      exact this
theorem okFrom_app : ∀ (l r : List SegL) (n : Nat), okFrom n l → okFrom (n + l.length) r → okFrom n (l ++ r) := by
  intro l
  induction l with
  | nil => intro r n _ h; simpa using h
  | cons s q ih =>
    intro r n h1 h2
    refine ⟨h1.1, ih r (n + 1) h1.2 ?_⟩
    rw [show n + 1 + q.length = n + (s :: q).length by simp; omega]
    exact h2
theorem chkS_app (q : MT) : ∀ (a b : List MI) (pc n : Nat), pc + (a.map fun e => e.2.1).sum = n → chkS q pc a = true → chkS q n b = true → chkS q pc (a ++ b) = true := by
  intro a
  induction a with
  | nil => intro b pc n hn _ h; simp at hn; subst hn; simpa using h
  | cons e r ih =>
    intro b pc n hn h1 h2
    simp only [chkS, Bool.and_eq_true] at h1
    simp only [List.cons_append, chkS, Bool.and_eq_true]
    refine ⟨h1.1, ih b _ n ?_ h1.2 h2⟩
    simp only [List.map_cons, List.sum_cons] at hn
    omega
theorem chkM_app (mi : Nat) (a b : SegL) (h1 : chkM mi a = true) (h2 : chkM mi b = true) : chkM mi (a ++ b) = true := by
  simp only [chkM, List.all_append, Bool.and_eq_true] at *
  exact ⟨h1, h2⟩
theorem chkM_one (mi pc : Nat) (s : List MI) (h : chkS (mt mi) pc s = true) : chkM mi [(pc, s)] = true := by
  simp [chkM, h]
