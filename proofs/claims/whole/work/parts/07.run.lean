-- the run of the small machine
def codeTab : List SegL := segG_0 ++ (segG_1 ++ (segG_2 ++ (segG_3 ++ (segG_4 ++ segG_5))))
theorem code_okF : okFrom 0 codeTab :=
  okFrom_app _ _ 0 okG_0 (by
    rw [show 0 + segG_0.length = 50 from rfl]
    exact okFrom_app _ _ 50 okG_1 (by
      rw [show 50 + segG_1.length = 100 from rfl]
      exact okFrom_app _ _ 100 okG_2 (by
        rw [show 100 + segG_2.length = 150 from rfl]
        exact okFrom_app _ _ 150 okG_3 (by
          rw [show 150 + segG_3.length = 200 from rfl]
          exact okFrom_app _ _ 200 okG_4 (by
            rw [show 200 + segG_4.length = 250 from rfl]
            exact okG_5)))))
theorem lookup_mem {α : Type} : ∀ (l : List (Nat × α)) (a : Nat) (b : α), l.lookup a = some b → (a, b) ∈ l := by
  intro l
  induction l with
  | nil => intro a b h; simp at h
  | cons q r ih =>
    intro a b h
    obtain ⟨x, y⟩ := q
    rw [List.lookup_cons] at h
    by_cases e : a = x
    · subst e
      simp at h
      subst h
      exact List.mem_cons_self
    · have e2 : (a == x) = false := by simp [e]
      rw [e2] at h
      exact List.mem_cons_of_mem _ (ih a b h)
theorem getD_lt {α : Type} {l : List α} {i : Nat} {d : α} (hi : i < l.length) : l.getD i d = l[i] := by simp [List.getD, hi]
theorem getD_ge {α : Type} {l : List α} {i : Nat} {d : α} (hi : l.length ≤ i) : l.getD i d = d := by simp [List.getD, hi]
def codeAt (mi pc : Nat) : Option (List MI) := (codeTab.getD mi []).lookup pc
theorem code_ok {mi pc : Nat} {s : List MI} (h : codeAt mi pc = some s) : chkS (mt mi) pc s = true := by
  have h1 := okFrom_at codeTab 0 mi code_okF
  rw [Nat.zero_add] at h1
  exact List.all_eq_true.mp h1 _ (lookup_mem _ _ _ h)
def tokW : List Int32 := [202493952, 542723566, 384294496, 53837824, 672541696, 479663104, 642945024, 404455424, 549496256, 150636933, 68267008, 306582528, 485954560, 650428416, 273729536, 522190848, 48365568, 486146048, 412634112, 781844480, 419024896, 273729664, 620213248, 378998784, 136085504]
def rowI (h : Hp) (k : Nat) (f : Nat → Int32) : Hp := (hn h, hK h, hN h, fun a b => if a = k then f b else hI h a b, hJ h, hR h)
/-- the constructor of the reader of words, apart: its words, as its text constant tells them -/
def primT (lv : Lv) (h : Hp) : Rs := match lget lv 0, lget lv 1 with
  | some (.ref a), some (.ref b) => if kd h a = 10 ∧ kd h b = 13 ∧ hn h < 240 then some (sR (sR (rowI (alloc h 13 25) (hn h) (fun j => tokW.getD j 0)) a 1 (hn h + 1)) a 0 (b + 1), none) else none
  | _, _ => none
def mrun (sc : Nat × (Nat → Int32)) (pp : Nat → Nat → Int32 → Int32 → Hp → Option (Hp × Int32)) : Nat → Rec
  | 0 => fun _ _ _ _ _ _ _ => none
  | n + 1 => fun mi pc lv st cu su h => if mi = 7 then (if pc = 0 ∧ st = [] then primT lv h else none) else match codeAt mi pc with
    | none => none
    | some s => exS sc pp (mrun sc pp n) mi pc s lv st cu su h
def lenOK (e : MI) : Bool := match e.1 with
  | .aload _ => e.2.1 == 2
  | .iload _ => e.2.1 == 2
  | .lload _ => e.2.1 == 2
  | .istore _ => e.2.1 == 2
  | .astore _ => e.2.1 == 2
  | .lstore _ => e.2.1 == 2
  | .bipush _ => e.2.1 == 2
  | .ldc _ => e.2.1 == 2
  | .newarray _ => e.2.1 == 2
  | .sipush _ => e.2.1 == 3
  | .iinc _ _ => e.2.1 == 3
  | .goto _ => e.2.1 == 3
  | .if_icmp _ _ => e.2.1 == 3
  | .ifCond _ _ => e.2.1 == 3
  | .getfield _ => e.2.1 == 3
  | .putfield _ => e.2.1 == 3
  | .ldc_w _ => e.2.1 == 3
  | .ldc2_w _ => e.2.1 == 3
  | .anewarray _ => e.2.1 == 3
  | .new _ => e.2.1 == 3
  | .invokevirtual _ => e.2.1 == 3
  | .invokespecial _ => e.2.1 == 3
  | .invokestatic _ => e.2.1 == 3
  | .tableswitch _ _ _ _ => true
  | .lookupswitch _ _ => true
  | _ => e.2.1 == 1
def lenM (s : SegL) : Bool := s.all fun e => e.2.all lenOK
theorem lenG_0 : segG_0.all lenM = true := by decide +kernel
theorem lenG_1 : segG_1.all lenM = true := by decide +kernel
theorem lenG_2 : segG_2.all lenM = true := by decide +kernel
theorem lenG_3 : segG_3.all lenM = true := by decide +kernel
theorem lenG_4 : segG_4.all lenM = true := by decide +kernel
theorem lenG_5 : segG_5.all lenM = true := by decide +kernel
theorem len_ok {mi pc : Nat} {s : List MI} (h : codeAt mi pc = some s) : ∀ e ∈ s, lenOK e = true := by
  have h1 := lookup_mem _ _ _ h
  have h2 : codeTab.all lenM = true := by
    simp only [codeTab, List.all_append, lenG_0, lenG_1, lenG_2, lenG_3, lenG_4, lenG_5, Bool.and_self]
  have h3 : lenM (codeTab.getD mi []) = true := by
    by_cases hi : mi < codeTab.length
    · rw [getD_lt hi]
      exact List.all_eq_true.mp h2 _ (List.getElem_mem hi)
    · rw [getD_ge (Nat.le_of_not_lt hi)]
      rfl
  exact List.all_eq_true.mp (List.all_eq_true.mp h3 _ h1)
def ownOK (ow : Nat) (e : MI) : Bool := match e.1 with
  | .putfield _ => (match e.2.2 with
    | [ci, _, _, _, _, fin] => fin == 0 || ci == ow
    | _ => true)
  | .invokestatic _ => (match e.2.2 with
    | [_, _, _, _, _, _] => ow == 13
    | [_, _, _, nest, _, _, _, _, _, _] => nest == 0
    | _ => true)
  | .invokevirtual _ => (match e.2.2 with
    | [_, _, _, nest, _, _, _, _, _, _] => nest == 0
    | _ => true)
  | _ => true
def ownFrom : Nat → List SegL → Bool
  | _, [] => true
  | n, s :: r => (s.all fun e => e.2.all (ownOK (mO n))) && ownFrom (n + 1) r
theorem ownFrom_at : ∀ (l : List SegL) (n i : Nat), ownFrom n l = true → ((l.getD i []).all fun e => e.2.all (ownOK (mO (n + i)))) = true := by
  intro l
  induction l with
  | nil => intro n i _; simp
  | cons s r ih =>
    intro n i h
    simp only [ownFrom, Bool.and_eq_true] at h
    cases i with
    | zero => exact h.1
    | succ i =>
      have := ih (n + 1) i h.2
      simp only [List.getD_cons_succ]
      rw [show n + (i + 1) = n + 1 + i by omega]
      exact this
theorem ownFrom_app : ∀ (l r : List SegL) (n m : Nat), n + l.length = m → ownFrom n l = true → ownFrom m r = true → ownFrom n (l ++ r) = true := by
  intro l
  induction l with
  | nil => intro r n m hm _ h; simp at hm; subst hm; simpa using h
  | cons s q ih =>
    intro r n m hm h1 h2
    simp only [ownFrom, Bool.and_eq_true] at h1
    simp only [List.cons_append, ownFrom, Bool.and_eq_true]
    refine ⟨h1.1, ih r (n + 1) m ?_ h1.2 h2⟩
    simp only [List.length_cons] at hm
    omega
theorem ownG_0 : ownFrom 0 segG_0 = true := by decide +kernel
theorem ownG_1 : ownFrom 50 segG_1 = true := by decide +kernel
theorem ownG_2 : ownFrom 100 segG_2 = true := by decide +kernel
theorem ownG_3 : ownFrom 150 segG_3 = true := by decide +kernel
theorem ownG_4 : ownFrom 200 segG_4 = true := by decide +kernel
theorem ownG_5 : ownFrom 250 segG_5 = true := by decide +kernel
theorem own_ok {mi pc : Nat} {s : List MI} (h : codeAt mi pc = some s) : ∀ e ∈ s, ownOK (mO mi) e = true := by
  have h1 := lookup_mem _ _ _ h
  have h2 : ownFrom 0 codeTab = true := ownFrom_app _ _ 0 50 rfl ownG_0 (ownFrom_app _ _ 50 100 rfl ownG_1 (ownFrom_app _ _ 100 150 rfl ownG_2 (ownFrom_app _ _ 150 200 rfl ownG_3 (ownFrom_app _ _ 200 250 rfl ownG_4 ownG_5))))
  have h3 := ownFrom_at codeTab 0 mi h2
  rw [Nat.zero_add] at h3
  exact List.all_eq_true.mp (List.all_eq_true.mp h3 _ h1)
