-- the law's person: what it answers, in the small machine, and that the machine does so
def ppA (sc : Nat × (Nat → Int32)) (x o : Nat) (p0 : Int32) (h : Hp) (b : Int32) : Prop := ∃ a, PH h x a ∧ kd h o = 14 ∧ 0 < hN h o ∧ Lm sc pp0 106 0 [some (.ref a), some (.int p0)] [] 0 0 h = some (h, some (.int b))
def ppB (sc : Nat × (Nat → Int32)) (x o : Nat) (p0 p1 : Int32) (h : Hp) (v : Int32) : Prop := kd h x = 11 ∧ kd h o = 14 ∧ 0 < hN h o ∧ Lm sc pp0 107 0 [some (.ref x), some (.int p0), some (.int p1)] [] 0 0 h = some (h, some (.int v))
noncomputable def ppR (sc : Nat × (Nat → Int32)) : Nat → Nat → Int32 → Int32 → Hp → Option (Hp × Int32) := fun x o p0 p1 h => @ite _ (ppA sc x o p0 h 0) (Classical.propDecidable _) (some (h, 1)) (@ite _ (ppA sc x o p0 h 1 ∧ (p1.toInt < 0 ∨ 5 < p1.toInt)) (Classical.propDecidable _) (some (h, 2)) (@dite _ (∃ v, ppB sc x o p0 p1 h v) (Classical.propDecidable _) (fun q => some (sJ h o 0 (Classical.choose q).toInt64, 0)) (fun _ => none)))
theorem PPok0 {l : Launch} {D : va_G} {cy : Nat → ClassId} {base : Nat} {ext : Nat → Nat} {sc : Nat × (Nat → Int32)} : PPokZ l D cy base ext sc pp0 := by
  intro k pc ix p1 lv st cu su h res hd hlk hk hq
  obtain ⟨o, st1, -, hq⟩ := pA_some hq
  obtain ⟨q1, st2, -, hq⟩ := pI_some hq
  obtain ⟨q0, st3, -, hq⟩ := pI_some hq
  obtain ⟨x, st4, -, hq⟩ := pA_some hq
  simp [pp0] at hq
section Ppk
variable {l : Launch} {D : va_G} {cy : Nat → ClassId} {base : Nat} {ext : Nat → Nat} {sc : Nat × (Nat → Int32)} {h : Hp}
theorem ct_of (hTok : ∀ (as : List Value) (h : Hp) (rs : Hp × Option Value), (lvE as (mL 7)).length = mL 7 → primT (lvE as (mL 7)) h = some rs → CtZ l D cy base ext 7 as h rs) {cm : Nat} {as : List Value} {rs : Hp × Option Value} (hcm : cm < 277) (hlen : (lvE as (mL cm)).length = mL cm) (h1 : as.all (fun v => v.category == 1) = true) (e : Lm sc pp0 cm 0 (lvE as (mL cm)) [] 0 0 h = some rs) : CtZ l D cy base ext cm as h rs := by
  obtain ⟨n, hn⟩ := Lm_iff.mp e
  exact (soundZ (sc := sc) PPok0 hTok n).2 cm as h rs hcm hlen hn (Or.inl h1)
theorem lp_of (hl : l.stackTraces = false) (hTok : ∀ (as : List Value) (h : Hp) (rs : Hp × Option Value), (lvE as (mL 7)).length = mL 7 → primT (lvE as (mL 7)) h = some rs → CtZ l D cy base ext 7 as h rs) {x o : Nat} {p0 p1 r : Int32} {h' : Hp} (e : ppR sc x o p0 p1 h = some (h', r)) : Met l (mY 108) wsP (mRoom 108) (PX D cy base ext [.ref x, .int p0, .int p1, .ref o] h) (QC D cy base ext (h', some (.int r))) (mP 108 7) (mP 108 8) (fun q => base ≤ q) := by
  have hM : ∀ (a : Nat) (b : Int32), Lm sc pp0 106 0 [some (.ref a), some (.int p0)] [] 0 0 h = some (h, some (.int b)) → CtZ l D cy base ext 106 [.ref a, .int p0] h (h, some (.int b)) := fun a b q => ct_of (sc := sc) hTok (by omega) rfl rfl q
  unfold ppR at e
  by_cases q1 : ppA sc x o p0 h 0
  · rw [if_pos q1] at e
    cases e
    obtain ⟨a, hp, ko, no, q⟩ := q1
    exact lp_thr sc hp.2.1 (p_throw1 sc hl hp (hM a 0 q)) (Or.inl ⟨rfl, rfl⟩)
  rw [if_neg q1] at e
  by_cases q2 : ppA sc x o p0 h 1 ∧ (p1.toInt < 0 ∨ 5 < p1.toInt)
  · rw [if_pos q2] at e
    cases e
    obtain ⟨⟨a, hp, ko, no, q⟩, hw⟩ := q2
    exact lp_thr sc hp.2.1 (p_throw2 sc hl hp (hM a 1 q) hw) (Or.inr ⟨rfl, rfl⟩)
  rw [if_neg q2] at e
  by_cases q3 : ∃ v, ppB sc x o p0 p1 h v
  · rw [dif_pos q3] at e
    have hv := Classical.choose_spec q3
    generalize Classical.choose q3 = v at e hv
    cases e
    obtain ⟨kx, ko, no, q⟩ := hv
    exact lp_ok sc kx ko no (ct_of (sc := sc) hTok (by omega) rfl rfl q)
  · rw [dif_neg q3] at e
    cases e
theorem PPZ (hl : l.stackTraces = false) (hTok : ∀ (as : List Value) (h : Hp) (rs : Hp × Option Value), (lvE as (mL 7)).length = mL 7 → primT (lvE as (mL 7)) h = some rs → CtZ l D cy base ext 7 as h rs) : PPokZ l D cy base ext sc (ppR sc) := by
  intro k pc ix p1 lv st cu su h res hd hlk hk hq
  obtain ⟨o, st1, rfl, hqa⟩ := pA_some hq
  obtain ⟨q1, st2, rfl, hqb⟩ := pI_some hqa
  obtain ⟨q0, st3, rfl, hqc⟩ := pI_some hqb
  obtain ⟨x, st4, rfl, hqd⟩ := pA_some hqc
  obtain ⟨⟨g3, g4, g5⟩, hqe⟩ := if_some hqd
  clear hq hqa hqb hqc hqd
  cases hpp : ppR sc x o q0 q1 h with
  | none => rw [hpp] at hqe; cases hqe
  | some q =>
    obtain ⟨h', r⟩ := q
    rw [hpp] at hqe
    have hq2 : k lv (.int r :: st4) (cu + mP 108 7) (su + mP 108 8) h' = some res := hqe
    have hM := lp_of hl hTok hpp
    intro p e s m args below meth c Q C0 hend H locs ls hW hS hL h1 h2
    have hXs : XS base s s.heap := C0.2.2.2.2.2.2.1.2.2.2.1
    have hT : GoodIn TW (va_wsS (ownS (mO 277)) ix (mY 108) wsP) := by
      intro w hw
      rcases List.mem_append.mp hw with hw | hw
      · simp only [List.mem_cons, List.mem_nil_iff, or_false] at hw
        rcases hw with rfl | rfl | rfl
        · exact tw_good (tw_at p1 hlk rfl)
        · exact tw_good (tw_at 1292 (by decide +kernel) rfl)
        · exact tw_good (tw_at 126 (by decide +kernel) rfl)
      · rcases List.mem_cons.mp hw with rfl | hw
        · exact tw_good (tw_at 1293 (by decide +kernel) rfl)
        · exact tw_good hw
    have hrun := vx_runSW (As := [Value.ref x, Value.int q0, Value.int q1, Value.ref o].map (tr base ext)) (rest := st4.map (tr base ext)) (g := F0 m pc ls ((Value.ref o :: Value.int q1 :: Value.int q0 :: Value.ref x :: st4).map (tr base ext))) (H := H) (locs := locs) (cells := cu) (slots := su) (e := e) (below := below) (meth := meth) (R := mRoom 277) (cc := mC 277) (nL := mL 277) (Ts := TW) (own := ownS (mO 277)) ⟨C0.1, C0.2.1, C0.2.2.1, C0.2.2.2.1, C0.2.2.2.2.1⟩ hM (vx_cwSW 4 C0.2.2.2.2.1 hT rfl rfl rfl ⟨by decide, by decide, by decide +kernel⟩ ⟨by decide +kernel, by decide +kernel⟩) ⟨PX_blind, fun U hU hWm => ⟨rfl, by rw [hU]; exact hW, KSZ.warm hWm (fun a h1 h2 => by rw [hU]; exact hS.2.1 a h1 h2) C0.2.2.2.2.2.2.1, by rw [hU]; exact Nat.le_trans C0.2.2.2.2.2.2.2.1 hS.1, hXs.move hWm (fun a ha hb => by rw [hU]; exact hS.2.1 a ha hb)⟩⟩ rfl rfl hL.2.1 rfl (lv_room (by simp only [List.map_map, Function.comp_def, tr_cat]; exact g3)) hd ⟨g4, g5⟩
    refine call_go (rs := (h', some (.int r))) hrun hS (fun H1 locs1 hW1 hS1 => ?_)
    exact hk _ _ _ _ _ _ hq2 p e s m args below meth c Q C0 hend H1 locs1 ls hW1 hS1 hL g4 g5
end Ppk
