-- fields and arrays: the rows of the heap
theorem fchk_spec {ow ix ci j t pos nest : Nat} (hf : fchk ow ix ci j t pos nest = true) : ∃ (C : String) (T : u_T) (N : Nat), vwCl[ci]? = some (C, T, N) ∧ j < N ∧ (T j).1 = C ∧ (fks.getD ci []).getD j 9 = t ∧ ((nest = 0 ∧ lw_tbl[pos]? = some (.fieldLink (ownS ow) ix C (T j).2.1 (T j).2.2.1)) ∨ (nest ≠ 0 ∧ lw_tbl[pos]? = some (.fieldLinkNest (ownS ow) ix C (T j).2.1 (T j).2.2.1 "AskedCourt"))) := by
  unfold fchk at hf
  cases e : vwCl[ci]? with
  | none => rw [e] at hf; cases hf
  | some q =>
    obtain ⟨C, T, N⟩ := q
    rw [e] at hf
    simp only [Bool.and_eq_true, decide_eq_true_eq] at hf
    obtain ⟨⟨⟨h1, h2⟩, h3⟩, h4⟩ := hf
    refine ⟨C, T, N, rfl, h1, h2, h3, ?_⟩
    by_cases hn : nest = 0
    · rw [if_pos hn] at h4
      exact Or.inl ⟨hn, of_decide_eq_true h4⟩
    · rw [if_neg hn] at h4
      simp only [Bool.and_eq_true, decide_eq_true_eq] at h4
      exact Or.inr ⟨hn, h4.2⟩
theorem cl_lt {ci : Nat} {q : vw_C} (h : vwCl[ci]? = some q) : ci < 13 := (List.getElem?_eq_some_iff.mp h).1
theorem fks_len {ci : Nat} {q : vw_C} (h : vwCl[ci]? = some q) : (fks.getD ci []).length = q.2.2 := by
  match ci, h with
  | 0, h => cases h; rfl
  | 1, h => cases h; rfl
  | 2, h => cases h; rfl
  | 3, h => cases h; rfl
  | 4, h => cases h; rfl
  | 5, h => cases h; rfl
  | 6, h => cases h; rfl
  | 7, h => cases h; rfl
  | 8, h => cases h; rfl
  | 9, h => cases h; rfl
  | 10, h => cases h; rfl
  | 11, h => cases h; rfl
  | 12, h => cases h; rfl
  | n + 13, h => simp [vwCl] at h
def tykB (ty : FieldType) (t : Nat) : Bool := match ty with
  | .int => t == 0
  | .long => t == 1
  | .boolean => t == 3
  | .object _ => t == 2
  | .array _ => t == 2
  | _ => false
theorem tyk_all : ∀ ci, ci < 13 → ∀ j, j < (fks.getD ci []).length → tykB (clT ci j) ((fks.getD ci []).getD j 9) = true := by decide +kernel
theorem adr_kd {base : Nat} {ext : Nat → Nat} {h : Hp} {k ci : Nat} (hk : kd h k = ci) (h99 : ci < 99) (hn240 : hn h ≤ 240) : adr base ext k = base + k := adr_in (by have := (kd_in hk h99).1; omega)
section HeapA
variable {p : Program} {l : Launch} {e : Env} {R : Room} {s : State} {m : MethodId} {args : Array Value} {below : List Frame} {meth : Method} {c : Code} {H : Heap} {locs : List Loc} {cells slots : Nat} {Q : State → Prop} {cc : ByteArray} {pc : Nat} {ls : Array Slot} {rest : List Value} {D : va_G} {tys : List (ClassId × FieldType)} {ws : va_W} {A : Nat → Prop}
/-- an object's cell and a field of it, ready to be written -/
theorem obj_cell {C own : String} {T : u_T} {N ci a q0 k : Nat} {fs : List Value} {v : Value} {ty : FieldType} (hts : ∀ w ∈ TW, w.before args s = true) (hown : s.vm.findClass own = some m.cls) (hK : va_K D vwCl tys s) (hP : va_P D vwCl ws H) (hD : va_D A ws) (he : ws[q0]? = some (a, .inr (ci, fs))) (hc : vwCl[ci]? = some (C, T, N)) (hk : k < N) (hd : parseFieldDescriptor (T k).2.2.1 = some ty) (hn : narrow ty v = v) (hfit : fits ty v = true) (hl : k < fs.length) :
    ∃ (cell : Cell) (cf : ClassId) (kf : Class) (fi : Nat) (f : Field), H[a]? = some cell ∧ cell.vm = .none ∧ s.fieldFound? (T k).1 (T k).2.1 (T k).2.2.1 = some (cf, kf, fi, f) ∧ f.isStatic = false ∧ f.slot < cell.slots.size ∧ ((T k).2.2.2 = false → k2_Sd s f cell.cls v) ∧ ((T k).2.2.2 = true → (T k).1 = own → m.cls = cf ∧ narrow f.type v = v ∧ s.fitsSlot cell.cls .none f.slot v = true) ∧
      ∀ H' : Heap, H'[a]? = some (cell.setSlot f.slot v) → (∀ q : Nat, q ≠ a → H'[q]? = H[q]?) → va_P D vwCl (ws.set q0 (a, .inr (ci, fs.set k v))) H' := by
  have hin := tw_cl ci _ hc
  have hap := va_apart (own := own) hts hin (clT ci) (cl_ty ci _ hc) (cl_nm ci _ hc) hK hc
  obtain ⟨r, h1, cell, q1, q2, q3, q4⟩ := hP q0 _ he
  have hr : r = (C, T, N) := Option.some.inj (h1.symm.trans hc)
  subst hr
  obtain ⟨hS, hfc, kC, hkC, hkind⟩ := hK.1 ci _ hc
  obtain ⟨cf, kf, fi, f, hi, hsl⟩ := hS k hk
  have hlay := hts _ (hin _ (u_in_lay hk))
  have hst := (u_facts hfc hkC (u_lays hts hin hk) hi).1
  refine ⟨cell, cf, kf, fi, f, q1, q3, hi, hst, by rw [hsl]; exact k2_hasslot (q4 k hk), fun hfin => ?_, fun hfin hdecl => ?_, fun H' e1 e3 => ?_⟩
  · unfold u_lay at hlay
    rw [if_neg (by rw [hfin]; decide)] at hlay
    rw [q2]
    exact u_store hfc hkC hkind hlay hi hd hn hfit
  · unfold u_lay at hlay
    rw [if_pos hfin] at hlay
    refine ⟨?_, by rw [q2]; exact u_fits hfc hkC hkind (Or.inr hlay) hi hd hn hfit⟩
    obtain ⟨_, _, c', _, _, _, -, -, hf', -, -, -, hown2, -⟩ := Cond.laysFinal_spec hlay
    have e1 : c' = cf := by have := hi.symm.trans hf'; simp at this; exact this.1.symm
    rw [hdecl] at hown2
    rw [← e1]
    exact Option.some.inj (hown.symm.trans hown2)
  · rw [hsl] at e1
    exact hP.set hD he ⟨_, hc, t_OB.to (V := updV (vp_V fs) k v) ⟨_, e1, q2, q3, t_set q4 hap hk v⟩ (fun j _ => vp_updV_set hl v j)⟩ e3
end HeapA
section HeapB
variable {l : Launch} {D : va_G} {cy : Nat → ClassId} {base : Nat} {ext : Nat → Nat} {sc : Nat × (Nat → Int32)} {rec : Rec} {k : Knt} {mi pc : Nat} {lv : Lv} {st : List Value} {cu su : Nat} {h : Hp} {res : Hp × Option Value}
theorem so_getf {ix ci j t pos nest : Nat} (hd : decode (mC mi) pc = .ok (.getfield ix, 3)) (hk : KOK l D cy base ext sc k mi (pc + 3)) (hf : fchk (mO mi) ix ci j t pos nest = true) (hq : (pA st fun a st => if kd h a = ci then (match (generalizing := false) t with
      | 1 => k lv (.long (hJ h a j) :: st) cu su h
      | 2 => (match hR h a j with
        | 0 => none
        | r + 1 => k lv (.ref r :: st) cu su h)
      | _ => k lv (.int (hI h a j) :: st) cu su h) else none) = some res) : RW l D cy base ext sc mi pc lv st cu su h res := by
  obtain ⟨a, st, rfl, hq⟩ := pA_some hq
  obtain ⟨ha, hq⟩ := if_some hq
  obtain ⟨C, T, N, hc, hjN, hT1, ht, hlink⟩ := fchk_spec hf
  have hci := cl_lt hc
  have hin := tw_cl ci _ hc
  have hjl : j < (fks.getD ci []).length := by rw [fks_len hc]; exact hjN
  intro p e s m args below meth c Q C0 hend H locs ls hW hS hL h1 h2
  have hal := kd_in ha (by omega)
  have e0 : adr base ext a = base + a := adr_kd ha (by omega) hW.2.1
  have he : (pl cy base ext h)[a]? = some (base + a, .inr (ci, oc base ext h a ci)) := by rw [pl_at hal.1, cE_obj hal.2 hci]
  have hv := oc_get (base := base) (ext := ext) (h := h) (k := a) hjl
  rw [ht] at hv
  have key : ∀ v : Value, fv base ext h a j t = v → W p l e (mRoom mi) s m args below meth c H locs cu su Q (F0 m (pc + 3) ls (v :: st.map (tr base ext))) → W p l e (mRoom mi) s m args below meth c H locs cu su Q (F0 m pc ls ((Value.ref a :: st).map (tr base ext))) := by
    intro v e1 w
    show W p l e (mRoom mi) s m args below meth c H locs cu su Q (F0 m pc ls (Value.ref (adr base ext a) :: st.map (tr base ext)))
    rw [e0]
    rw [e1] at hv
    rcases hlink with ⟨-, hlk⟩ | ⟨-, hlk⟩
    · exact va_get C0.1 C0.2.1 C0.2.2.2.2.1 hin C0.2.2.2.1 C0.2.2.2.2.2.2.1.1 hW.1 a he hc j hjN (C0.2.2.2.2.1 _ (tw_at pos hlk rfl)) (by rw [hT1]; exact fun _ h9 => h9) hv hd w
    · exact va_getN C0.1 C0.2.1 C0.2.2.2.2.1 hin C0.2.2.2.1 C0.2.2.2.2.2.2.1.1 hW.1 a he hc j hjN (va_Nw.use rfl (C0.2.2.2.2.2.2.1.2.1 _ (List.mem_filter.mpr ⟨List.mem_of_getElem? hlk, rfl⟩))) (by rw [hT1]; exact fun _ h9 => h9) hv hd w
  split at hq
  · exact key (.long (hJ h a j)) rfl (hk _ _ _ _ _ _ hq p e s m args below meth c Q C0 hend H locs ls hW hS hL h1 h2)
  · split at hq
    · cases hq
    · rename_i r hr
      exact key (.ref (adr base ext r)) (by simp [fv, hr, rfo, va_rf]) (hk _ _ _ _ _ _ hq p e s m args below meth c Q C0 hend H locs ls hW hS hL h1 h2)
  · rename_i n1 n2
    exact key (.int (hI h a j)) (by simp only [fv]; rw [if_neg (by first | exact n1 | (intro q; subst q; exact n1 rfl)), if_neg (by first | exact n2 | (intro q; subst q; exact n2 rfl))]) (hk _ _ _ _ _ _ hq p e s m args below meth c Q C0 hend H locs ls hW hS hL h1 h2)
end HeapB
theorem kd_up {h : Hp} {k a j : Nat} {v : Int32} : kd (sI h a j v) k = kd h k := rfl
section HeapC
variable {l : Launch} {D : va_G} {cy : Nat → ClassId} {base : Nat} {ext : Nat → Nat} {sc : Nat × (Nat → Int32)} {rec : Rec} {k : Knt} {mi pc : Nat} {lv : Lv} {st : List Value} {cu su : Nat} {h : Hp} {res : Hp × Option Value}
/-- the pool behind a write to one cell -/
theorem pl_put {h' : Hp} {a j ci : Nat} {v : Value} (hal : a < hn h) (hKa : hK h a = ci) (hci : ci < 13) (hn' : hn h' = hn h) (hK' : hK h' = hK h) (hjl : j < (fks.getD ci []).length) (hv : fv base ext h' a j ((fks.getD ci []).getD j 9) = v) (ho : ∀ i u, i ≠ j → fv base ext h' a i u = fv base ext h a i u) (hc : ∀ i, i ≠ a → cE cy base ext h' i = cE cy base ext h i) : (pl cy base ext h).set a (base + a, .inr (ci, (oc base ext h a ci).set j v)) = pl cy base ext h' := by
  rw [oc_set hjl hv ho, ← cE_obj (cy := cy) (h := h') (by rw [hK']; exact hKa) hci]
  exact pl_set hal hn' (fun i _ hi => hc i hi)
/-- any field is written -/
theorem put_core {ix ci j t pos nest fin a : Nat} {v : Value} {h' : Hp} (hd : decode (mC mi) pc = .ok (.putfield ix, 3)) (hf : fchk (mO mi) ix ci j t pos nest = true) (hpf : pchk ci j fin nest (mF mi) = true) (hown : fin = 0 ∨ ownS (mO mi) = ownS ci) (ha : kd h a = ci) (hn' : hn h' = hn h) (hK' : hK h' = hK h)
    (hv : fv base ext h' a j t = tr base ext v) (ho : ∀ i u, i ≠ j → fv base ext h' a i u = fv base ext h a i u) (hc : ∀ i, i ≠ a → cE cy base ext h' i = cE cy base ext h i) (hnar : ∀ ty, tykB ty t = true → narrow ty (tr base ext v) = tr base ext v ∧ fits ty (tr base ext v) = true)
    (hk : RW l D cy base ext sc mi (pc + 3) lv st cu su h' res) : RW l D cy base ext sc mi pc lv (v :: .ref a :: st) cu su h res := by
  obtain ⟨C, T, N, hcl, hjN, hT1, ht, hlink⟩ := fchk_spec hf
  have hci := cl_lt hcl
  have hjl : j < (fks.getD ci []).length := by rw [fks_len hcl]; exact hjN
  intro p e s m args below meth c Q C0 hend H locs ls hW hS hL h1 h2
  have hal := kd_in ha (by omega)
  have e0 : adr base ext a = base + a := adr_kd ha (by omega) hW.2.1
  have he : (pl cy base ext h)[a]? = some (base + a, .inr (ci, oc base ext h a ci)) := by rw [pl_at hal.1, cE_obj hal.2 hci]
  have hty := tyk_all ci hci j hjl
  rw [ht] at hty
  obtain ⟨n1, n2⟩ := hnar _ hty
  obtain ⟨cell, cf, kf, fi, f, c1, c2, c3, c4, c5, c6, c7, c8⟩ := obj_cell (own := ownS (mO mi)) C0.2.2.2.2.1 C0.2.2.2.1 C0.2.2.2.2.2.2.1.1 hW.1 (pl_D (cy := cy) (base := base) (ext := ext) (h := h)) he hcl hjN (cl_ty ci _ hcl j hjN) n1 n2 (by simp only [oc, List.length_mapIdx]; exact hjl)
  have kk : ∀ H' : Heap, H'[base + a]? = some (cell.setSlot f.slot (tr base ext v)) → H'.size = H.size → (∀ q, q ≠ base + a → H'[q]? = H[q]?) → W p l e (mRoom mi) s m args below meth c H' (locs ++ [⟨base + a, f.slot⟩]) cu su Q (F0 m (pc + 3) ls (st.map (tr base ext))) := by
    intro H' e1 e2 e3
    have hP' := c8 H' e1 e3
    rw [pl_put (cy := cy) hal.1 hal.2 hci hn' hK' hjl (by rw [ht]; exact hv) ho hc] at hP'
    exact hk p e s m args below meth c Q C0 hend H' _ ls ⟨hP', by rw [hn']; exact hW.2.1, by rw [hn', e2]; exact hW.2.2⟩ (hS.put e2 e3 (Nat.le_add_right _ _)) hL h1 h2
  show W p l e (mRoom mi) s m args below meth c H locs cu su Q (F0 m pc ls (tr base ext v :: Value.ref (adr base ext a) :: st.map (tr base ext)))
  rw [e0]
  unfold pchk at hpf
  rw [hcl] at hpf
  simp only at hpf
  by_cases hfin : fin = 0
  · rw [if_pos hfin] at hpf
    have hff := of_decide_eq_true hpf
    rcases hlink with ⟨-, hlk⟩ | ⟨-, hlk⟩
    · exact W.putK C0.1 C0.2.1 (f := f) ⟨C0.2.2.2.1, C0.2.2.2.2.1 _ (tw_at pos hlk rfl), ⟨_, _, _, by rw [← hT1]; exact c3⟩, c4⟩ (c6 hff) c1 c2 c5 rfl rfl hd kk
    · exact va_WputK C0.1 C0.2.1 (f := f) C0.2.2.2.1 (va_Nw.use rfl (C0.2.2.2.2.2.2.1.2.1 _ (List.mem_filter.mpr ⟨List.mem_of_getElem? hlk, rfl⟩))) (by rw [← hT1]; exact c3) c4 (c6 hff) c1 c2 c5 rfl rfl hd kk
  · rw [if_neg hfin] at hpf
    simp only [Bool.and_eq_true, decide_eq_true_eq] at hpf
    obtain ⟨⟨hff, hne⟩, hini⟩ := hpf
    rcases hlink with ⟨-, hlk⟩ | ⟨hx, -⟩
    · have hdecl : (T j).1 = ownS (mO mi) := by
        rw [hT1, hown.resolve_left hfin]
        match ci, hcl with
        | 0, h => cases h; rfl
        | 1, h => cases h; rfl
        | 2, h => cases h; rfl
        | 3, h => cases h; rfl
        | 4, h => cases h; rfl
        | 5, h => cases h; rfl
        | 6, h => cases h; rfl
        | 7, h => cases h; rfl
        | 8, h => cases h; rfl
        | 9, h => cases h; rfl
        | 10, h => cases h; rfl
        | 11, h => cases h; rfl
        | 12, h => cases h; rfl
        | n + 13, h => simp [vwCl] at h
      obtain ⟨d1, d2⟩ := c7 hff hdecl
      exact W.putFinK C0.1 C0.2.1 C0.2.2.2.1 (C0.2.2.2.2.1 _ (tw_at pos hlk rfl)) (by rw [← hT1]; exact c3) c4 d1 (C0.2.2.2.2.2.1 hini) d2 c1 c2 c5 rfl rfl hd kk
    · exact absurd hne hx
theorem up2_ne {α : Type} {f : Nat → Nat → α} {k j : Nat} {v : α} {i : Nat} (hi : i ≠ k) : up2 f k j v i = f i := by
  funext b
  simp [up2, hi]
theorem up2_nj {α : Type} {f : Nat → Nat → α} {k j : Nat} {v : α} {b : Nat} (hb : b ≠ j) : up2 f k j v k b = f k b := by simp [up2, hb]
theorem up2_eq {α : Type} {f : Nat → Nat → α} {k j : Nat} {v : α} : up2 f k j v k j = v := by simp [up2]
theorem cE_congr {h' : Hp} {i : Nat} (e1 : hK h' i = hK h i) (e2 : hN h' i = hN h i) (e3 : hI h' i = hI h i) (e4 : hJ h' i = hJ h i) (e5 : hR h' i = hR h i) : cE cy base ext h' i = cE cy base ext h i := by
  unfold cE oc arE fv
  rw [e1, e2, e3, e4, e5]
theorem cE_sI {a j i : Nat} {x : Int32} (hi : i ≠ a) : cE cy base ext (sI h a j x) i = cE cy base ext h i := cE_congr rfl rfl (up2_ne hi) rfl rfl
theorem cE_sJ {a j i : Nat} {x : Int64} (hi : i ≠ a) : cE cy base ext (sJ h a j x) i = cE cy base ext h i := cE_congr rfl rfl rfl (up2_ne hi) rfl
theorem cE_sR {a j i : Nat} {x : Nat} (hi : i ≠ a) : cE cy base ext (sR h a j x) i = cE cy base ext h i := cE_congr rfl rfl rfl rfl (up2_ne hi)
theorem fv_sI {a j i u : Nat} {x : Int32} (hi : i ≠ j) : fv base ext (sI h a j x) a i u = fv base ext h a i u := by
  simp only [fv, sI, hI, hJ, hR, up2_nj hi]
theorem fv_sJ {a j i u : Nat} {x : Int64} (hi : i ≠ j) : fv base ext (sJ h a j x) a i u = fv base ext h a i u := by
  simp only [fv, sJ, hI, hJ, hR, up2_nj hi]
theorem fv_sR {a j i u : Nat} {x : Nat} (hi : i ≠ j) : fv base ext (sR h a j x) a i u = fv base ext h a i u := by
  simp only [fv, sR, hI, hJ, hR, up2_nj hi]
theorem so_putf {ix ci j t pos nest fin : Nat} (hd : decode (mC mi) pc = .ok (.putfield ix, 3)) (hk : KOK l D cy base ext sc k mi (pc + 3)) (hf : fchk (mO mi) ix ci j t pos nest = true) (hpf : pchk ci j fin nest (mF mi) = true) (hown : fin = 0 ∨ ownS (mO mi) = ownS ci)
    (hq : (match (generalizing := false) t with
      | 1 => pJ st fun x st => pA st fun a st => if kd h a = ci then k lv st cu su (sJ h a j x) else none
      | 2 => pA st fun x st => pA st fun a st => if kd h a = ci ∧ x < 1000 then k lv st cu su (sR h a j (x + 1)) else none
      | 3 => pI st fun x st => pA st fun a st => if kd h a = ci ∧ (x = 0 ∨ x = 1) then k lv st cu su (sI h a j x) else none
      | _ => pI st fun x st => pA st fun a st => if kd h a = ci then k lv st cu su (sI h a j x) else none) = some res) : RW l D cy base ext sc mi pc lv st cu su h res := by
  match t, hf, hq with
  | 1, hf, hq =>
    have hq0 : (pJ st fun x st => pA st fun a st => if kd h a = ci then k lv st cu su (sJ h a j x) else none) = some res := hq
    obtain ⟨x, st1, rfl, hq1⟩ := pJ_some hq0
    obtain ⟨a, st2, rfl, hq2⟩ := pA_some hq1
    obtain ⟨ha, hq3⟩ := if_some hq2
    exact put_core (h' := sJ h a j x) hd hf hpf hown ha rfl rfl (by simp only [fv, sJ, hJ, up2_eq]; rfl) (fun i u hi => fv_sJ hi) (fun i hi => cE_sJ hi) (fun ty hty => by cases ty <;> first | exact ⟨rfl, rfl⟩ | (simp [tykB] at hty)) (hk _ _ _ _ _ _ hq3)
  | 2, hf, hq =>
    have hq0 : (pA st fun x st => pA st fun a st => if kd h a = ci ∧ x < 1000 then k lv st cu su (sR h a j (x + 1)) else none) = some res := hq
    obtain ⟨x, st1, rfl, hq1⟩ := pA_some hq0
    obtain ⟨a, st2, rfl, hq2⟩ := pA_some hq1
    obtain ⟨⟨ha, hx⟩, hq3⟩ := if_some hq2
    exact put_core (h' := sR h a j (x + 1)) hd hf hpf hown ha rfl rfl (by simp only [fv, sR, hR, up2_eq]; rfl) (fun i u hi => fv_sR hi) (fun i hi => cE_sR hi) (fun ty hty => by cases ty <;> first | exact ⟨rfl, rfl⟩ | (simp [tykB] at hty)) (hk _ _ _ _ _ _ hq3)
  | 3, hf, hq =>
    have hq0 : (pI st fun x st => pA st fun a st => if kd h a = ci ∧ (x = 0 ∨ x = 1) then k lv st cu su (sI h a j x) else none) = some res := hq
    obtain ⟨x, st1, rfl, hq1⟩ := pI_some hq0
    obtain ⟨a, st2, rfl, hq2⟩ := pA_some hq1
    obtain ⟨⟨ha, hx⟩, hq3⟩ := if_some hq2
    exact put_core (h' := sI h a j x) hd hf hpf hown ha rfl rfl (by simp only [fv, sI, hI, up2_eq]; rfl) (fun i u hi => fv_sI hi) (fun i hi => cE_sI hi) (fun ty hty => by cases ty <;> first | (simp [tykB] at hty; done) | (rcases hx with rfl | rfl <;> exact ⟨rfl, rfl⟩)) (hk _ _ _ _ _ _ hq3)
  | 0, hf, hq =>
    have hq0 : (pI st fun x st => pA st fun a st => if kd h a = ci then k lv st cu su (sI h a j x) else none) = some res := hq
    obtain ⟨x, st1, rfl, hq1⟩ := pI_some hq0
    obtain ⟨a, st2, rfl, hq2⟩ := pA_some hq1
    obtain ⟨ha, hq3⟩ := if_some hq2
    exact put_core (h' := sI h a j x) hd hf hpf hown ha rfl rfl (by simp only [fv, sI, hI, up2_eq]; rfl) (fun i u hi => fv_sI hi) (fun i hi => cE_sI hi) (fun ty hty => by cases ty <;> first | exact ⟨rfl, rfl⟩ | (simp [tykB] at hty)) (hk _ _ _ _ _ _ hq3)
  | t + 4, hf, hq =>
    have hq0 : (pI st fun x st => pA st fun a st => if kd h a = ci then k lv st cu su (sI h a j x) else none) = some res := hq
    obtain ⟨x, st1, rfl, hq1⟩ := pI_some hq0
    obtain ⟨a, st2, rfl, hq2⟩ := pA_some hq1
    obtain ⟨ha, hq3⟩ := if_some hq2
    exact put_core (h' := sI h a j x) hd hf hpf hown ha rfl rfl (by simp only [fv]; rw [if_neg (by omega), if_neg (by omega)]; simp only [sI, hI, up2_eq]; rfl) (fun i u hi => fv_sI hi) (fun i hi => cE_sI hi) (fun ty hty => by cases ty <;> first | exact ⟨rfl, rfl⟩ | (simp [tykB] at hty)) (hk _ _ _ _ _ _ hq3)
end HeapC
