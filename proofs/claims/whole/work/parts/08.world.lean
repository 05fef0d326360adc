-- the machine's heap as the small machine's: cells by their places
def adr (base : Nat) (ext : Nat → Nat) (k : Nat) : Nat := if k < 1000 then base + k else ext (k - 1000)
def tr (base : Nat) (ext : Nat → Nat) (v : Value) : Value := match v with
  | .ref k => .ref (adr base ext k)
  | v => v
theorem tr_cat (base : Nat) (ext : Nat → Nat) (v : Value) : (tr base ext v).category = v.category := by cases v <;> rfl
theorem adr_in {base : Nat} {ext : Nat → Nat} {k : Nat} (h : k < 1000) : adr base ext k = base + k := by simp [adr, h]
def rfo (base : Nat) (ext : Nat → Nat) (r : Nat) : Option Nat := match r with
  | 0 => none
  | k + 1 => some (adr base ext k)
def fv (base : Nat) (ext : Nat → Nat) (h : Hp) (k j t : Nat) : Value := if t = 1 then .long (hJ h k j) else if t = 2 then va_rf (rfo base ext (hR h k j)) else .int (hI h k j)
def oc (base : Nat) (ext : Nat → Nat) (h : Hp) (k ci : Nat) : List Value := (fks.getD ci []).mapIdx (fun j t => fv base ext h k j t)
def arE (base : Nat) (ext : Nat → Nat) (h : Hp) (k : Nat) : vp_A := (hN h k, if hK h k = 14 then .inr (.inl (hJ h k)) else if hK h k = 16 then .inr (.inr (.inr (.inr (fun j => rfo base ext (hR h k j))))) else .inl (hI h k))
def cE (cy : Nat → ClassId) (base : Nat) (ext : Nat → Nat) (h : Hp) (k : Nat) : va_E := if hK h k < 13 then .inr (hK h k, oc base ext h k (hK h k)) else .inl (cy (hK h k - 13), arE base ext h k)
def pl (cy : Nat → ClassId) (base : Nat) (ext : Nat → Nat) (h : Hp) : va_W := (List.range (hn h)).map fun k => (base + k, cE cy base ext h k)
section WorldA
variable {cy : Nat → ClassId} {base : Nat} {ext : Nat → Nat} {h h' : Hp} {k : Nat}
theorem pl_at (hk : k < hn h) : (pl cy base ext h)[k]? = some (base + k, cE cy base ext h k) := by simp [pl, hk]
theorem pl_D : va_D (fun q => base ≤ q) (pl cy base ext h) := by
  constructor
  · intro i j p q hi hj he
    simp only [pl, List.getElem?_map, Option.map_eq_some_iff] at hi hj
    obtain ⟨a, ha, rfl⟩ := hi
    obtain ⟨b, hb, rfl⟩ := hj
    obtain ⟨h1, h2⟩ := List.getElem?_eq_some_iff.mp ha
    obtain ⟨h3, h4⟩ := List.getElem?_eq_some_iff.mp hb
    rw [List.getElem_range] at h2 h4
    simp only at he
    omega
  · intro i q hi
    simp only [pl, List.getElem?_map, Option.map_eq_some_iff] at hi
    obtain ⟨a, ha, rfl⟩ := hi
    exact Nat.le_add_right _ _
theorem pl_set (hk : k < hn h) (hn' : hn h' = hn h) (ho : ∀ i, i < hn h → i ≠ k → cE cy base ext h' i = cE cy base ext h i) : (pl cy base ext h).set k (base + k, cE cy base ext h' k) = pl cy base ext h' := by
  apply List.ext_getElem?
  intro i
  rw [List.getElem?_set]
  by_cases hik : k = i
  · subst hik
    simp [pl, hk, hn']
  · rw [if_neg hik]
    by_cases hi : i < hn h
    · rw [pl_at hi, pl_at (by rw [hn']; exact hi), ho i hi (fun e => hik e.symm)]
    · simp [pl, hi, hn']
theorem pl_push (hn' : hn h' = hn h + 1) (ho : ∀ i, i < hn h → cE cy base ext h' i = cE cy base ext h i) : pl cy base ext h ++ [(base + hn h, cE cy base ext h' (hn h))] = pl cy base ext h' := by
  simp only [pl, hn', List.range_succ, List.map_append, List.map_cons, List.map_nil]
  congr 1
  apply List.map_congr_left
  intro i hi
  rw [ho i (List.mem_range.mp hi)]
theorem cE_obj {ci : Nat} (hc : hK h k = ci) (h13 : ci < 13) : cE cy base ext h k = .inr (ci, oc base ext h k ci) := by simp [cE, hc, h13]
theorem cE_arr (h13 : 13 ≤ hK h k) : cE cy base ext h k = .inl (cy (hK h k - 13), arE base ext h k) := by simp [cE, Nat.not_lt.mpr h13]
theorem kd_in {ci : Nat} (hk : kd h k = ci) (h99 : ci < 99) : k < hn h ∧ hK h k = ci := by
  unfold kd at hk
  by_cases hl : k < hn h
  · rw [if_pos hl] at hk; exact ⟨hl, hk⟩
  · rw [if_neg hl] at hk; omega
theorem oc_get {ci j : Nat} (hj : j < (fks.getD ci []).length) : (oc base ext h k ci)[j]? = some (fv base ext h k j ((fks.getD ci []).getD j 9)) := by
  rw [oc, List.getElem?_mapIdx, List.getElem?_eq_getElem hj, getD_lt hj]
  rfl
theorem oc_set {ci j : Nat} {v : Value} (hj : j < (fks.getD ci []).length) (hv : fv base ext h' k j ((fks.getD ci []).getD j 9) = v) (ho : ∀ i u, i ≠ j → fv base ext h' k i u = fv base ext h k i u) : (oc base ext h k ci).set j v = oc base ext h' k ci := by
  rw [getD_lt hj] at hv
  apply List.ext_getElem?
  intro i
  rw [List.getElem?_set]
  by_cases e : j = i
  · subst e
    simp only [oc, List.length_mapIdx, hj, if_true, List.getElem?_mapIdx, List.getElem?_eq_getElem hj, Option.map_some, hv]
  · rw [if_neg e]
    simp only [oc, List.getElem?_mapIdx]
    cases (fks.getD ci [])[i]? with
    | none => rfl
    | some u => simp [ho i u (fun q => e q.symm)]
end WorldA
def WHp (D : va_G) (cy : Nat → ClassId) (base : Nat) (ext : Nat → Nat) (h : Hp) (H : Heap) : Prop := va_P D vwCl (pl cy base ext h) H ∧ hn h ≤ 240 ∧ (hn h < 240 → H.size = base + hn h)
def tysE (cy : Nat → ClassId) : List (ClassId × FieldType) := [(cy 0, .int), (cy 1, .long), (cy 2, .boolean), (cy 3, .object "AskedCourt$State")]
def isNest : Cond → Bool
  | .fieldLinkNest .. => true
  | .methodLinkNest .. => true
  | _ => false
def nestW : List Cond := lw_tbl.filter isNest
def KS (D : va_G) (cy : Nat → ClassId) (s : State) : Prop := va_K D vwCl (tysE cy) s ∧ (∀ w ∈ nestW, va_Nw w s) ∧ va_AO "AskedCourt$State" s
theorem nest_tab {w : Cond} (h : w ∈ nestW) : w.onTables = true := by
  have h1 := (List.mem_filter.mp h).2
  cases w <;> first | rfl | (simp [isNest] at h1)
theorem KS.same {D : va_G} {cy : Nat → ClassId} {u U : State} (hv : u.vm = U.vm) (h : KS D cy u) : KS D cy U := ⟨va_K.moved (by rw [hv]; exact Vm.Alike.refl U.vm) h.1, fun w hw => va_Nw.same (nest_tab hw) hv (h.2.1 w hw), va_AO.moved (by rw [hv]; exact Vm.Alike.refl U.vm) h.2.2⟩
theorem KS.warm {D : va_G} {cy : Nat → ClassId} {s U : State} (hW : s.WarmedH U.vm) (h : KS D cy s) : KS D cy U := by
  refine ⟨va_K.moved hW.alike h.1, fun w hw => ?_, va_AO.moved hW.alike h.2.2⟩
  have h1 := (List.mem_filter.mp hw).2
  have h2 := h.2.1 w hw
  cases w with
  | fieldLinkNest a i b n d hh => exact va_Nw.warmF hW h2
  | methodLinkNest a i x hh => exact va_Nw.warmM hW h2
  | _ => simp [isNest] at h1
def LvOK (base : Nat) (ext : Nat → Nat) (ls : Array Slot) (n : Nat) (lv : Lv) (LS : List Nat) : Prop := lv.length = n ∧ ls.size = n ∧ lv_wf ls ∧ ∀ (i : Nat) (v : Value), lv[i]? = some (some v) → ls[i]? = some (.val (tr base ext v)) ∧ (v.category = 2 → i ∈ LS)
theorem lget_some {lv : Lv} {i : Nat} {v : Value} (h : lget lv i = some v) : lv[i]? = some (some v) := by
  unfold lget at h
  cases e : lv[i]? with
  | none => rw [e] at h; simp at h
  | some o => rw [e] at h; simp at h; rw [h]
def lvl (base : Nat) (ext : Nat → Nat) (lv : Lv) : List (Nat × Value) := (List.range lv.length).filterMap fun i => match lget lv i with
  | some v => some (i, tr base ext v)
  | none => none
theorem lvl_mem {base : Nat} {ext : Nat → Nat} {lv : Lv} {q : Nat × Value} (h : q ∈ lvl base ext lv) : ∃ v, lv[q.1]? = some (some v) ∧ q.2 = tr base ext v := by
  obtain ⟨i, -, hi⟩ := List.mem_filterMap.mp h
  cases e : lget lv i with
  | none => rw [e] at hi; cases hi
  | some v => rw [e] at hi; cases hi; exact ⟨v, lget_some e, rfl⟩
theorem mem_lvl {base : Nat} {ext : Nat → Nat} {lv : Lv} {i : Nat} {v : Value} (h : lv[i]? = some (some v)) : (i, tr base ext v) ∈ lvl base ext lv := by
  refine List.mem_filterMap.mpr ⟨i, List.mem_range.mpr (List.getElem?_eq_some_iff.mp h).1, ?_⟩
  have : lget lv i = some v := by simp [lget, h]
  rw [this]
theorem LvOK.has {base : Nat} {ext : Nat → Nat} {ls : Array Slot} {n : Nat} {lv : Lv} {LS : List Nat} (h : LvOK base ext ls n lv LS) : lv_has ls n (lvl base ext lv) := by
  refine ⟨h.2.1, h.2.2.1, fun q hq => ?_⟩
  obtain ⟨v, h1, h2⟩ := lvl_mem hq
  rw [(h.2.2.2 _ v h1).1, h2]
theorem LvOK.store1 {base : Nat} {ext : Nat → Nat} {ls ls' : Array Slot} {n i : Nat} {lv : Lv} {LS : List Nat} {v : Value} (h : LvOK base ext ls n lv LS) (hi : i = 0 ∨ i - 1 ∉ LS) (hc : v.category = 1)
    (h' : lv_has ls' n ((i, tr base ext v) :: (lvl base ext lv).filter (fun q => !(q.1 == i) && !(q.1 + 1 == i && q.2.category == 2)))) : LvOK base ext ls' n (lset1 lv i v) LS := by
  obtain ⟨e1, e2, e3⟩ := h'
  refine ⟨by simp [lset1, h.1], e1, e2, fun j w hj => ?_⟩
  unfold lset1 at hj
  rw [List.getElem?_set] at hj
  by_cases e : i = j
  · subst e
    rw [if_pos rfl] at hj
    split at hj
    · cases hj
      exact ⟨e3 (i, tr base ext v) List.mem_cons_self, fun q => by rw [hc] at q; cases q⟩
    · cases hj
  · rw [if_neg e] at hj
    have hL := (h.2.2.2 j w hj).2
    refine ⟨e3 (j, tr base ext w) (List.mem_cons_of_mem _ (List.mem_filter.mpr ⟨mem_lvl hj, ?_⟩)), hL⟩
    have n1 : (j == i) = false := by simp; exact fun q => e q.symm
    simp only [n1, Bool.not_false, Bool.true_and, Bool.not_eq_true', Bool.and_eq_false_iff, beq_eq_false_iff_ne]
    by_cases e4 : j + 1 = i
    · right
      rw [tr_cat]
      intro q
      rcases hi with hi | hi
      · omega
      · exact hi (by rw [show i - 1 = j by omega]; exact hL q)
    · left; exact e4
theorem LvOK.store2 {base : Nat} {ext : Nat → Nat} {ls ls' : Array Slot} {n i : Nat} {lv : Lv} {LS : List Nat} {v : Value} (h : LvOK base ext ls n lv LS) (hi : i = 0 ∨ i - 1 ∉ LS) (hL : i ∈ LS)
    (h' : lv_has ls' n ((i, tr base ext v) :: (lvl base ext lv).filter (fun q => !(q.1 == i) && (!(q.1 == i + 1) && !(q.1 + 1 == i && q.2.category == 2))))) : LvOK base ext ls' n (lset2 lv i v) LS := by
  obtain ⟨e1, e2, e3⟩ := h'
  refine ⟨by simp [lset2, h.1], e1, e2, fun j w hj => ?_⟩
  unfold lset2 at hj
  rw [List.getElem?_set] at hj
  by_cases e5 : i + 1 = j
  · rw [if_pos e5] at hj
    split at hj <;> cases hj
  rw [if_neg e5, List.getElem?_set] at hj
  by_cases e : i = j
  · subst e
    rw [if_pos rfl] at hj
    split at hj
    · cases hj
      exact ⟨e3 (i, tr base ext v) List.mem_cons_self, fun _ => hL⟩
    · cases hj
  · rw [if_neg e] at hj
    have hL2 := (h.2.2.2 j w hj).2
    refine ⟨e3 (j, tr base ext w) (List.mem_cons_of_mem _ (List.mem_filter.mpr ⟨mem_lvl hj, ?_⟩)), hL2⟩
    have n1 : (j == i) = false := by simp; exact fun q => e q.symm
    have n2 : (j == i + 1) = false := by simp; exact fun q => e5 q.symm
    simp only [n1, n2, Bool.not_false, Bool.true_and, Bool.not_eq_true', Bool.and_eq_false_iff, beq_eq_false_iff_ne]
    by_cases e4 : j + 1 = i
    · right
      rw [tr_cat]
      intro q
      rcases hi with hi | hi
      · omega
      · exact hi (by rw [show i - 1 = j by omega]; exact hL2 q)
    · left; exact e4
