-- light
-- the law: what its cases have in common
section T955
variable {sc : Nat × (Nat → Int32)} {pp : Nat → Nat → Int32 → Int32 → Hp → Option (Hp × Int32)} {rec : Rec} {pc n cu su : Nat} {is : List Nat} {r : List MI} {lv : Lv} {st : List Value} {h : Hp}
theorem xl_iald {j : Nat} (hj : j < sc.1) (h3 : sc.1 ≤ 3072) : exS sc pp rec 277 pc ((.iaload, n, is) :: r) lv (.int (nI j) :: .ref 1000 :: st) cu su h = exS sc pp rec 277 (pc + n) r lv (.int (sc.2 j) :: st) cu su h := by
  show (if (1000 : Nat) = 1000 ∧ ¬ (nI j < 0 ∨ sc.1 ≤ (nI j).toNatClampNeg) then exS sc pp rec 277 (pc + n) r lv (.int (sc.2 (nI j).toNatClampNeg) :: st) cu su h else none) = _
  rw [nI_clamp (by omega), if_pos ⟨rfl, fun z => z.elim (nI_pos (by omega)) (by omega)⟩]
theorem xl_alen : exS sc pp rec 277 pc ((.arraylength, n, is) :: r) lv (.ref 1000 :: st) cu su h = exS sc pp rec 277 (pc + n) r lv (.int (Int32.ofNat sc.1) :: st) cu su h := by
  show (if (1000 : Nat) = 1000 then exS sc pp rec 277 (pc + n) r lv (.int (Int32.ofNat sc.1) :: st) cu su h else none) = _
  rw [if_pos rfl]
theorem xl_person {ix p c1 s1 c2 s2 x o : Nat} {p0 p1 : Int32} : exS sc pp rec 277 pc ((.invokestatic ix, n, [996, p, c1, s1, c2, s2]) :: r) lv (.ref o :: .int p1 :: .int p0 :: .ref x :: st) cu su h = if (st.map fun v => v.category).sum ≤ 8 ∧ cu + c1 ≤ c2 ∧ su + s1 ≤ s2 then (match pp x o p0 p1 h with
      | some (h', r') => exS sc pp rec 277 (pc + n) r lv (.int r' :: st) (cu + c1) (su + s1) h'
      | none => none) else none := (rfl)
theorem xl_new {ix ci nf c2 s2 p q t : Nat} (hc : cu + 1 ≤ c2) (hs : su + nf ≤ s2) (hh : hn h < 240) : exS sc pp rec 277 pc ((.new ix, n, [ci, nf, c2, s2, p, q, t]) :: r) lv st cu su h = exS sc pp rec 277 (pc + n) r lv (.ref (hn h) :: st) (cu + 1) (su + nf) (alloc h ci 0) := by
  show (if cu + 1 ≤ c2 ∧ su + nf ≤ s2 ∧ hn h < 240 then exS sc pp rec 277 (pc + n) r lv (.ref (hn h) :: st) (cu + 1) (su + nf) (alloc h ci 0) else none) = _
  rw [if_pos ⟨hc, hs, hh⟩]
theorem la1 (i : Nat) : nI i + 1 = nI (i + 1) := nI_add i 1
theorem la2 (i : Nat) : nI i + 2 = nI (i + 2) := nI_add i 2
theorem la3 (i : Nat) : nI i + 3 = nI (i + 3) := nI_add i 3
theorem la4 (i : Nat) : nI i + 4 = nI (i + 4) := nI_add i 4
theorem la5 (i : Nat) : nI i + 5 = nI (i + 5) := nI_add i 5
theorem lg_self (x : Int64) : lg_cmp x x = 0 := by
  unfold lg_cmp
  simp
theorem isV_0 {r : Value} (h : isV 0 (some r)) : ∃ x, r = .int x := by
  unfold isV at h
  rw [if_pos rfl] at h
  obtain ⟨x, e⟩ := h
  exact ⟨x, Option.some.inj e⟩
theorem isV_1 {r : Value} (h : isV 1 (some r)) : ∃ x, r = .long x := by
  unfold isV at h
  rw [if_neg (by decide)] at h
  obtain ⟨x, e⟩ := h
  exact ⟨x, Option.some.inj e⟩
theorem WZ.k0 {z : Hp} {k : Nat} (W : WZ z k) : kd z 0 = 11 := by
  obtain ⟨⟨c, d, co, st, im, hs, nt, ax, hl, n, I, D, H, w⟩, -⟩ := W
  exact I.k0
theorem WZ.k197 {z : Hp} {k : Nat} (W : WZ z k) : kd z 197 = 12 := by
  obtain ⟨⟨c, d, co, st, im, hs, nt, ax, hl, n, I, D, H, w⟩, -⟩ := W
  exact D_k197 D.1.1
end T955
