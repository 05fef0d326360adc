-- the reference: a whole law worked out
def FrP (h h' : Hp) (P Q : Nat → Nat → Prop) : Prop := hn h' = hn h ∧ hK h' = hK h ∧ hN h' = hN h ∧ hR h' = hR h ∧ (∀ k j, ¬ P k j → hI h' k j = hI h k j) ∧ ∀ k j, ¬ Q k j → hJ h' k j = hJ h k j
theorem FrP.refl (h : Hp) (P Q : Nat → Nat → Prop) : FrP h h P Q := ⟨rfl, rfl, rfl, rfl, fun _ _ _ => rfl, fun _ _ _ => rfl⟩
theorem FrP.trans {a b c : Hp} {P Q : Nat → Nat → Prop} (x : FrP a b P Q) (y : FrP b c P Q) : FrP a c P Q := ⟨y.1.trans x.1, y.2.1.trans x.2.1, y.2.2.1.trans x.2.2.1, y.2.2.2.1.trans x.2.2.2.1, fun k j n => (y.2.2.2.2.1 k j n).trans (x.2.2.2.2.1 k j n), fun k j n => (y.2.2.2.2.2 k j n).trans (x.2.2.2.2.2 k j n)⟩
theorem FrP.mono {a b : Hp} {P Q P' Q' : Nat → Nat → Prop} (x : FrP a b P Q) (hP : ∀ k j, P k j → P' k j) (hQ : ∀ k j, Q k j → Q' k j) : FrP a b P' Q' := ⟨x.1, x.2.1, x.2.2.1, x.2.2.2.1, fun k j n => x.2.2.2.2.1 k j (fun g => n (hP k j g)), fun k j n => x.2.2.2.2.2 k j (fun g => n (hQ k j g))⟩
theorem FrP.kd {h h' : Hp} {P Q : Nat → Nat → Prop} (f : FrP h h' P Q) (k : Nat) : kd h' k = kd h k := by simp only [Jvm.Pilot.@@N@@.kd, f.1, f.2.1]
theorem FrP.I {h h' : Hp} {P Q : Nat → Nat → Prop} (f : FrP h h' P Q) {k j : Nat} (n : ¬ P k j) : hI h' k j = hI h k j := f.2.2.2.2.1 k j n
theorem FrP.J {h h' : Hp} {P Q : Nat → Nat → Prop} (f : FrP h h' P Q) {k j : Nat} (n : ¬ Q k j) : hJ h' k j = hJ h k j := f.2.2.2.2.2 k j n
theorem isD.moveP {h h' : Hp} {P Q : Nat → Nat → Prop} (a : isD h) (f : FrP h h' P Q) : isD h' := by
  unfold isD at *
  simp only [f.kd, f.2.2.1, f.2.2.2.1]
  exact a
theorem FrP_sI {h : Hp} {k j : Nat} {v : Int32} {P Q : Nat → Nat → Prop} (p : P k j) : FrP h (sI h k j v) P Q := ⟨rfl, rfl, rfl, rfl, fun a b n => by
  rw [hI_sI, if_neg]; rintro ⟨rfl, rfl⟩; exact n p, fun _ _ _ => rfl⟩
theorem hJ_sJ {h : Hp} {a j b i : Nat} {v : Int64} : hJ (sJ h a j v) b i = if b = a ∧ i = j then v else hJ h b i := rfl
theorem FrP_sJ {h : Hp} {k j : Nat} {v : Int64} {P Q : Nat → Nat → Prop} (p : Q k j) : FrP h (sJ h k j v) P Q := ⟨rfl, rfl, rfl, rfl, fun _ _ _ => rfl, fun a b n => by
  rw [hJ_sJ, if_neg]; rintro ⟨rfl, rfl⟩; exact n p⟩
def pE (k j : Nat) : Prop := k = 197 ∧ j = 54
def qV (k j : Nat) : Prop := k = 225
def lawK (h : Hp) (f n : Nat) (cd : Nat → Nat) (nums : Nat → Int32) : Prop := f + n ≤ 64 ∧ ∀ i, i < n → okK (cd i) ∧ hI h 219 (f + i) = nI (kmap (cd i)) ∧ (cd i = 26 → hI h 220 (f + i) = nums i) ∧ (18 ≤ cd i ∧ cd i ≤ 24 → hI h 220 (f + i) = nI (cd i - 18)) ∧ (cd i = 17 → ∃ x t, lwIx cd i = x :: t ∧ hI h 220 (f + i) = nI (f + x)) ∧ (¬ leafK (cd i) = true → cd i ≠ 17 → ∃ y x t, lwIx cd i = y :: x :: t ∧ hI h 220 (f + i) = nI (f + x) ∧ hI h 221 (f + i) = nI (f + y))
def lawI (V : Nat → Int64) (E : Int32) (f i : Nat) (cd : Nat → Nat) (nums nm : Nat → Int32) : Prop := match lwRun cd nums nm i 0 [] with
  | none => ¬ E = 0
  | some st => E = 0 ∧ st = (lwIx cd i).map (fun j => V (f + j)) ∧ ∀ v, v ∈ st → lim v
theorem lawI_s {V V' : Nat → Int64} {E E' : Int32} {f i : Nat} {cd : Nat → Nat} {nums nm : Nat → Int32} (a : lawI V E f i cd nums nm) (hV : ∀ j, j < i → V' (f + j) = V (f + j)) (hE : ¬ E = 0 → ¬ E' = 0) (hs : ∀ st, E = 0 → st = (lwIx cd i).map (fun j => V (f + j)) → (∀ v, v ∈ st → lim v) → match lwStep (cd i) (nums i) nm st with
    | none => ¬ E' = 0
    | some st' => E' = 0 ∧ ∃ v t, st' = v :: t ∧ v = V' (f + i) ∧ lim v ∧ t = (if leafK (cd i) = true then st else if cd i = 17 then st.drop 1 else st.drop 2)) : lawI V' E' f (i + 1) cd nums nm := by
  unfold lawI at *
  rw [lwRun_s, Nat.zero_add]
  cases hr : lwRun cd nums nm i 0 [] with
  | none => rw [hr] at a; exact hE a
  | some st =>
    rw [hr] at a
    obtain ⟨e0, e1, e2⟩ := a
    have h2 := hs st e0 e1 e2
    simp only
    cases hr2 : lwStep (cd i) (nums i) nm st with
    | none => rw [hr2] at h2; exact h2
    | some st' =>
      rw [hr2] at h2
      obtain ⟨z, v, t, g1, g2, g3, g4⟩ := h2
      have m : (lwIx cd i).map (fun j => V' (f + j)) = st := by
        rw [e1]
        exact List.map_congr_left (fun j hj => hV j (lwIx_lt hj))
      refine ⟨z, ?_, ?_⟩
      · rw [g1, g2, g4]
        show _ = List.map _ (i :: _)
        rw [List.map_cons]
        congr 1
        split
        · exact m.symm
        · split
          · rw [List.map_drop, m]
          · rw [List.map_drop, m]
      · intro w hw
        rw [g1] at hw
        rcases List.mem_cons.mp hw with e | e
        · rw [e]; exact g3
        · apply e2
          rw [g4] at e
          split at e
          · exact e
          · split at e
            · exact List.mem_of_mem_drop e
            · exact List.mem_of_mem_drop e
theorem outN {α : Type} {v : Int64} {a b : α} (h : ¬ outP v) : (if 1000000000000 < v ∨ v < -1000000000000 then a else b) = b := if_neg h
theorem outY {α : Type} {v : Int64} {a b : α} (h : outP v) : (if 1000000000000 < v ∨ v < -1000000000000 then a else b) = a := if_pos h
theorem step2 {c : Nat} {num : Int32} {nm : Nat → Int32} {l r : Int64} {t : List Int64} (hc : okK c) (h1 : ¬ leafK c = true) (h2 : c ≠ 17) (hl : lim l) (hr : lim r) : match lwStep c num nm (r :: l :: t) with
    | none => ¬ eF (kmap c) l r 0 = 0
    | some st' => eF (kmap c) l r 0 = 0 ∧ ∃ v t', st' = v :: t' ∧ v = vF (kmap c) l r (eF (kmap c) l r 0) ∧ lim v ∧ t' = t := by
  have n26 : ¬ c = 26 := fun e => h1 (by simp [leafK, e])
  have n18 : ¬ (18 ≤ c ∧ c ≤ 24) := fun e => h1 (by simp [leafK, e.1, e.2])
  have go : ∀ (v : Int64), (if c = 36 then prodF l r else joinF c l r) = v → lwStep c num nm (r :: l :: t) = if 1000000000000 < v ∨ v < -1000000000000 then none else some (v :: t) := by
    intro v hv
    unfold lwStep
    rw [if_neg n26, if_neg n18, if_neg h2]
    subst hv
    rfl
  have cmp : ∀ (P : Prop) [Decidable P], c ≠ 36 → joinF c l r = b64 P → eF (kmap c) l r 0 = 0 → vF (kmap c) l r 0 = b64 P → match lwStep c num nm (r :: l :: t) with
    | none => ¬ eF (kmap c) l r 0 = 0
    | some st' => eF (kmap c) l r 0 = 0 ∧ ∃ v t', st' = v :: t' ∧ v = vF (kmap c) l r (eF (kmap c) l r 0) ∧ lim v ∧ t' = t := by
    intro P _ n36 e1 e2 e3
    rw [go (b64 P) (by rw [if_neg n36]; exact e1), outN (outP_iff.mpr lim_b)]
    exact ⟨e2, _, _, rfl, by rw [e2]; exact e3.symm, lim_b, rfl⟩
  have z0 : ¬ ¬ (0 : Int32) = 0 := by decide
  rcases hc with e | e | e | e | e
  · exact absurd e n26
  · exact absurd e n18
  · exact absurd e h2
  · subst e
    have po := prod_out hl hr
    have ee : eF (kmap 36) l r 0 = b32 (muchP l r) := by
      show b32 (¬ (0 : Int32) = 0 ∨ muchP l r) = _
      by_cases m : muchP l r
      · rw [b32_t m, b32_t (Or.inr m)]
      · rw [b32_f m, b32_f (by rintro (x | x); exact z0 x; exact m x)]
    rw [go (prodF l r) (if_pos rfl), ee]
    by_cases m : muchP l r
    · rw [outY (po.1.mpr m), b32_t m]
      exact (show ¬ (1 : Int32) = 0 by decide)
    · have no : ¬ outP (prodF l r) := fun g => m (po.1.mp g)
      rw [outN no, b32_f m]
      refine ⟨rfl, _, _, rfl, ?_, outP_iff.mp no, rfl⟩
      rw [po.2 m]
      rfl
  · simp only [List.mem_cons, List.not_mem_nil, or_false] at e
    have add : ∀ (v : Int64), c ≠ 36 → joinF c l r = v → eF (kmap c) l r 0 = b32 (¬ (0 : Int32) = 0 ∨ outP v) → vF (kmap c) l r 0 = v → match lwStep c num nm (r :: l :: t) with
      | none => ¬ eF (kmap c) l r 0 = 0
      | some st' => eF (kmap c) l r 0 = 0 ∧ ∃ v t', st' = v :: t' ∧ v = vF (kmap c) l r (eF (kmap c) l r 0) ∧ lim v ∧ t' = t := by
      intro v n36 e1 e2 e3
      rw [go v (by rw [if_neg n36]; exact e1)]
      by_cases o : outP v
      · rw [outY o, e2, b32_t (Or.inr o)]
        exact (show ¬ (1 : Int32) = 0 by decide)
      · have e4 : eF (kmap c) l r 0 = 0 := by rw [e2, b32_f (by rintro (x | x); exact z0 x; exact o x)]
        rw [outN o]
        exact ⟨e4, _, _, rfl, by rw [e4]; exact e3.symm, outP_iff.mp o, rfl⟩
    rcases e with e | e | e | e | e | e | e | e | e | e | e <;> subst e
    · exact cmp (l ≠ 0 ∨ r ≠ 0) (by decide) rfl rfl rfl
    · exact cmp (l ≠ 0 ∧ r ≠ 0) (by decide) rfl rfl rfl
    · exact cmp (l < r) (by decide) rfl rfl rfl
    · exact cmp (l ≤ r) (by decide) rfl rfl rfl
    · exact cmp (l = r) (by decide) rfl rfl rfl
    · exact cmp (l ≠ r) (by decide) rfl rfl rfl
    · exact cmp (r ≤ l) (by decide) rfl rfl rfl
    · exact cmp (r < l) (by decide) rfl rfl rfl
    · exact add (l + r) (by decide) rfl rfl rfl
    · exact add (l - r) (by decide) rfl rfl rfl
    · have ee : eF (kmap 37) l r 0 = b32 (r = 0) := by
        show b32 (¬ (0 : Int32) = 0 ∨ r = 0) = _
        by_cases m : r = 0
        · rw [b32_t m, b32_t (Or.inr m)]
        · rw [b32_f m, b32_f (by rintro (x | x); exact z0 x; exact m x)]
      by_cases m : r = 0
      · rw [go (-9223372036854775808) (by subst m; rfl), if_pos (show (1000000000000 : Int64) < -9223372036854775808 ∨ (-9223372036854775808 : Int64) < -1000000000000 by decide), ee, b32_t m]
        exact (show ¬ (1 : Int32) = 0 by decide)
      · rw [go (l / r) (by rw [if_neg (by decide)]; show (if r = 0 then _ else _) = _; rw [if_neg m]), outN (outP_iff.mpr (div_lim hl)), ee, b32_f m]
        exact ⟨rfl, _, _, rfl, rfl, div_lim hl, rfl⟩
theorem kmap_r {c : Nat} (hc : okK c) (h1 : ¬ leafK c = true) (h2 : c ≠ 17) : kmap c ∈ [3, 4, 5, 6, 7, 8, 9, 10, 11, 12, 13, 14] := by
  rcases hc with e | e | e | e | e
  · exact absurd (by simp [leafK, e]) h1
  · exact absurd (by simp [leafK, e.1, e.2]) h1
  · exact absurd e h2
  · subst e; decide
  · simp only [List.mem_cons, List.not_mem_nil, or_false] at e
    rcases e with e | e | e | e | e | e | e | e | e | e | e <;> subst e <;> decide
theorem eF_ne {k : Nat} {a b : Int64} {E : Int32} (h : ¬ E = 0) : ¬ eF k a b E = 0 := by
  unfold eF
  split
  · rw [b32_t (Or.inl h)]; decide
  · split
    · rw [b32_t (Or.inl h)]; decide
    · split
      · rw [b32_t (Or.inl h)]; decide
      · split
        · rw [b32_t (Or.inl h)]; decide
        · exact h
section T33
variable {sc : Nat × (Nat → Int32)} {pp : Nat → Nat → Int32 → Int32 → Hp → Option (Hp × Int32)}
/-- the value of one knot -/
theorem d_knot (f n i : Nat) (cd : Nat → Nat) (nums nm : Nat → Int32) (h : Hp) (hD : isD h) (hL : lawK h f n cd nums) (hi : i < n) (hN7 : ∀ j, j < 7 → hJ h 224 j = (nm j).toInt64) (a : lawI (hJ h 225) (hI h 197 54) f i cd nums nm) : ∃ E' v, Lm sc pp 139 0 [some (.ref 197), some (.int (nI (f + i))), none, none, none, none] [] 0 0 h = some (sI h 197 54 E', some (.long v)) ∧ lawI (fun j => if j = f + i then v else hJ h 225 j) E' f (i + 1) cd nums nm := by
  obtain ⟨h64, hk⟩ := hL
  obtain ⟨ok, hkn, g26, g18, g17, g2⟩ := hk i hi
  have V1 : ∀ v : Int64, ∀ j, j < i → (fun j => if j = f + i then v else hJ h 225 j) (f + j) = hJ h 225 (f + j) := by
    intro v j hj
    show (if f + j = f + i then v else _) = _
    rw [if_neg (by omega)]
  have V2 : ∀ v : Int64, (fun j => if j = f + i then v else hJ h 225 j) (f + i) = v := fun v => if_pos rfl
  by_cases l26 : cd i = 26
  · have hk0 : hI h 219 (f + i) = 0 := by rw [hkn, l26]; rfl
    refine ⟨hI h 197 54, _, by rw [sI_self]; exact d_v0 (f + i) h hD (by omega) hk0, ?_⟩
    refine lawI_s a (V1 _) (fun x => x) (fun st e0 e1 e2 => ?_)
    rw [l26, show lwStep 26 (nums i) nm st = some ((nums i).toInt64 :: st) from rfl]
    refine ⟨e0, _, _, rfl, ?_, lim32 _, rfl⟩
    rw [if_pos rfl, g26 l26]
  · by_cases l18 : 18 ≤ cd i ∧ cd i ≤ 24
    · have km : kmap (cd i) = 1 := by unfold kmap; rw [if_neg l26, if_pos l18]
      have hk1 : hI h 219 (f + i) = 1 := by rw [hkn, km]; rfl
      refine ⟨hI h 197 54, _, by rw [sI_self]; exact d_v1 (f + i) (cd i - 18) h hD (by omega) hk1 (by omega) (g18 l18), ?_⟩
      refine lawI_s a (V1 _) (fun x => x) (fun st e0 e1 e2 => ?_)
      have es : lwStep (cd i) (nums i) nm st = some ((nm (cd i - 18)).toInt64 :: st) := by unfold lwStep; rw [if_neg l26, if_pos l18]
      have el : leafK (cd i) = true := by simp [leafK, l18.1, l18.2]
      rw [es, if_pos el]
      refine ⟨e0, _, _, rfl, ?_, lim32 _, rfl⟩
      rw [if_pos rfl, hN7 _ (by omega)]
    · have nl : ¬ leafK (cd i) = true := by
        simp only [leafK, Bool.or_eq_true, beq_iff_eq, Bool.and_eq_true, decide_eq_true_eq]
        rintro (x | x)
        · exact l26 x
        · exact l18 x
      by_cases l17 : cd i = 17
      · obtain ⟨x, t, ix, hp⟩ := g17 l17
        have hx : x < i := lwIx_lt (cd := cd) (by rw [ix]; exact List.mem_cons_self)
        have hk2 : hI h 219 (f + i) = nI 2 := by rw [hkn, l17]; rfl
        refine ⟨hI h 197 54, _, by rw [sI_self]; exact d_v2 (f + i) (f + x) h hD (by omega) hk2 (by omega) hp, ?_⟩
        refine lawI_s a (V1 _) (fun x => x) (fun st e0 e1 e2 => ?_)
        rw [if_neg nl, if_pos l17, l17]
        rw [ix, List.map_cons] at e1
        subst e1
        rw [show lwStep 17 (nums i) nm (hJ h 225 (f + x) :: List.map (fun j => hJ h 225 (f + j)) t) = some ((if hJ h 225 (f + x) = 0 then 1 else 0) :: List.map (fun j => hJ h 225 (f + j)) t) from rfl]
        refine ⟨e0, _, _, rfl, ?_, ?_, rfl⟩
        · rw [if_pos rfl]
        · split
          · exact lim_1
          · exact lim_0
      · obtain ⟨y, x, t, ix, hp, ho⟩ := g2 nl l17
        have hy : y < i := lwIx_lt (cd := cd) (by rw [ix]; exact List.mem_cons_self)
        have hx : x < i := lwIx_lt (cd := cd) (by rw [ix]; exact List.mem_cons_of_mem _ List.mem_cons_self)
        refine ⟨_, _, d_v3 (f + i) (f + x) (f + y) (kmap (cd i)) _ _ h hD (by omega) (kmap_r ok nl l17) hkn (by omega) hp (by omega) ho rfl rfl, ?_⟩
        refine lawI_s a (V1 _) (fun e => eF_ne e) (fun st e0 e1 e2 => ?_)
        rw [ix, List.map_cons, List.map_cons] at e1
        subst e1
        have s2 := step2 (num := nums i) (nm := nm) (t := List.map (fun j => hJ h 225 (f + j)) t) ok nl l17 (e2 (hJ h 225 (f + x)) (by simp)) (e2 (hJ h 225 (f + y)) (by simp))
        rw [e0]
        revert s2
        cases lwStep (cd i) (nums i) nm (hJ h 225 (f + y) :: hJ h 225 (f + x) :: List.map (fun j => hJ h 225 (f + j)) t) with
        | none => exact fun s2 => s2
        | some st' =>
          rintro ⟨z, v, t', q1, q2, q3, q4⟩
          refine ⟨z, v, t', q1, ?_, q3, ?_⟩
          · rw [if_pos rfl]; exact q2
          · rw [if_neg nl, if_neg l17]; exact q4
end T33
