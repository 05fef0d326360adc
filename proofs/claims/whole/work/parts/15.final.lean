-- the run of a method gives its contract
section Fin1
variable {l : Launch} {D : va_G} {cy : Nat → ClassId} {base : Nat} {ext : Nat → Nat} {sc : Nat × (Nat → Int32)} {pp : Nat → Nat → Int32 → Int32 → Hp → Option (Hp × Int32)} {rec : Rec} {mi : Nat}
theorem snd_seg (hr : ROK l D cy base ext sc rec mi)
    (hcal : ∀ (cm : Nat) (as : List Value) (h : Hp) (rs : Hp × Option Value), cm < 277 → (lvE as (mL cm)).length = mL cm → rec cm 0 (lvE as (mL cm)) [] 0 0 h = some rs → (as.all (fun v => v.category == 1) = true ∨ lsOK (LSm cm) (lvE as (mL cm)) = true) → Ct l D cy base ext cm as h rs)
    (hPP : PPok l D cy base ext sc pp) (hcode : mi ≠ 108) : ∀ (s : List MI) (pc : Nat), chkS (mt mi) pc s = true → (∀ e ∈ s, lenOK e = true) → (∀ e ∈ s, ownOK (mO mi) e = true) → KOK l D cy base ext sc (exS sc pp rec mi pc s) mi pc := by
  intro s
  induction s with
  | nil => intro pc _ _ _ lv st cu su h res hq; exact hr pc lv st cu su h res hq
  | cons e r ih =>
    intro pc hc hl ho lv st cu su h res hq
    obtain ⟨i, n, is⟩ := e
    simp only [chkS, Bool.and_eq_true] at hc
    have hk := ih (pc + n) hc.2 (fun e he => hl e (List.mem_cons_of_mem _ he)) (fun e he => ho e (List.mem_cons_of_mem _ he))
    exact snd1 (k := fun lv st cu su h => exS sc pp rec mi (pc + n) r lv st cu su h) hr (fun lv st cu su h res hq => hk lv st cu su h res hq) hcal hPP hcode hc.1 (hl _ List.mem_cons_self) (ho _ List.mem_cons_self) hq
def slF (base : Nat) (ext : Nat → Nat) (o : Option Value) : Slot := match o with
  | some v => .val (tr base ext v)
  | none => .second
theorem lg_flat (as : List Value) : lg_sl (as.map (tr base ext)) = (as.flatMap fun v => if v.category = 2 then [some v, none] else [some v]).map (slF base ext) := by
  induction as with
  | nil => rfl
  | cons v vs ih =>
    simp only [List.map_cons, lg_sl, List.flatMap_cons, List.map_append, tr_cat] at ih ⊢
    rw [ih]
    by_cases hc : v.category = 2
    · simp [hc, slF]
    · simp [hc, slF]
theorem lvE_entry {as : List Value} {n : Nat} {LS : List Nat} (hlen : (lvE as n).length = n) (hls : as.all (fun v => v.category == 1) = true ∨ lsOK LS (lvE as n) = true) : LvOK base ext ((lg_sl (as.map (tr base ext)) ++ List.replicate (n - (lg_sl (as.map (tr base ext))).length) Slot.unset).toArray) n (lvE as n) LS := by
  have hfl : (as.flatMap fun v => if v.category = 2 then [some v, none] else [some v]).length ≤ n := by
    unfold lvE at hlen
    rw [List.length_append, List.length_replicate] at hlen
    omega
  have hE := lv_entry (as.map (tr base ext)) (n := n) (by rw [lg_flat, List.length_map]; exact hfl)
  refine ⟨hlen, hE.1, hE.2.1, fun i v hi => ?_⟩
  have hin : (as.flatMap fun v => if v.category = 2 then [some v, none] else [some v])[i]? = some (some v) := by
    unfold lvE at hi
    by_cases hl : i < (as.flatMap fun v => if v.category = 2 then [some v, none] else [some v]).length
    · rwa [List.getElem?_append_left hl] at hi
    · rw [List.getElem?_append_right (by omega)] at hi
      have := List.eq_of_mem_replicate (List.mem_of_getElem? hi)
      cases this
  refine ⟨?_, fun hc => ?_⟩
  · rw [List.getElem?_toArray, List.getElem?_append_left (by rw [lg_flat, List.length_map]; exact (List.getElem?_eq_some_iff.mp hin).1), lg_flat, List.getElem?_map, hin]
    rfl
  · rcases hls with hls | hls
    · exfalso
      obtain ⟨w, hw, hm⟩ := List.mem_flatMap.mp (List.mem_of_getElem? hin)
      have h1 : w.category = 1 := by simpa using List.all_eq_true.mp hls w hw
      rw [if_neg (by omega)] at hm
      simp at hm
      subst hm
      omega
    · unfold lsOK at hls
      have h2 := List.all_eq_true.mp hls (some v, i) (List.mem_zipIdx_iff_getElem?.mpr hi)
      simp only [Bool.or_eq_true, beq_iff_eq] at h2
      rcases h2 with h2 | h2
      · omega
      · simpa [List.contains_iff_mem] using h2
theorem met_run {cm : Nat} {as : List Value} {h : Hp} {res : Hp × Option Value} (hF : mF cm < 3) (hcm : cm < 277) (hlen : (lvE as (mL cm)).length = mL cm) (hls : as.all (fun v => v.category == 1) = true ∨ lsOK (LSm cm) (lvE as (mL cm)) = true) (hrun : RW l D cy base ext sc cm 0 (lvE as (mL cm)) [] 0 0 h res) : Ct l D cy base ext cm as h res := by
  obtain ⟨f1, f2, f3, f4, f5, f6, f7, f8, f9, f10, f11⟩ := m_facts rfl hF
  unfold Ct
  refine Met.ofW (cc := mC cm) (maxL := mL cm) (ret := mR cm) f11 rfl ?_
  intro p e s m args below meth c s₁ B hml hv
  obtain ⟨rfl, hWp, hKS, hbs⟩ := hv
  have hts := atoms_spec (ws := wsm cm) B.pre
  have hlocks := B.notSynchronized
  have C0 : Cx D cy base ext sc p s m (as.map (tr base ext)).toArray meth c cm := ⟨B.exec, B.bytes, hml, by rw [← f7]; exact findClass_of_methodNamed B.named, fun w hw => hts w (List.mem_cons_of_mem _ hw), fun h2 => by rw [(name_of_methodNamed B.named B.method).1]; exact f6 h2, hKS, hbs, fun h9 => absurd h9 (by omega)⟩
  rw [lg_entry_eq]
  refine hrun p e s m _ below meth c _ C0 ?_ s.heap [] _ hWp va_S.rf (lvE_entry hlen hls) (Nat.zero_le _) (Nat.zero_le _)
  intro pc ls H locs cu su hW hS h1 h2 hret
  refine W.widen (k := mP cm 7) (n := mP cm 8) h1 h2 ?_
  obtain ⟨h', rv⟩ := res
  rcases hret with ⟨x, hv, hd, hr⟩ | ⟨x, hv, hd, hr⟩ | ⟨x, hv, hd, hr⟩ | ⟨hv, hd, hr⟩
  · cases hv
    rcases hr with hr | ⟨hr, hx⟩
    · exact W.iret (v := x) C0.1 C0.2.1 (B.returns.trans hr) (fun t ht hWm => ⟨rfl, by rw [ht]; exact hW, hS.F ht⟩) hS.2.2 hd
    · exact W.zret (v := x) (ty := .boolean) C0.1 C0.2.1 (B.returns.trans hr) (by rcases hx with rfl | rfl <;> rfl) (fun t ht hWm => ⟨rfl, by rw [ht]; exact hW, hS.F ht⟩) hS.2.2 hd
  · cases hv
    exact W.lret (v := x) C0.1 C0.2.1 (B.returns.trans hr) (fun t ht hWm => ⟨rfl, by rw [ht]; exact hW, hS.F ht⟩) hS.2.2 hd
  · cases hv
    exact W.aret (v := .ref (adr base ext x)) C0.1 C0.2.1 (B.returns.trans hr) (Or.inl ⟨_, rfl⟩) (Or.inr ⟨_, rfl⟩) (fun t ht hWm => ⟨rfl, by rw [ht]; exact hW, hS.F ht⟩) hS.2.2 hd
  · cases hv
    exact W.vret C0.1 C0.2.1 (B.returns.trans hr) (fun t ht hWm => ⟨rfl, by rw [ht]; exact hW, hS.F ht⟩) hS.2.2 hd
theorem flag_lt : ∀ cm, cm < 277 → cm ≠ 108 → mF cm < 3 := by decide +kernel
theorem no108 (pc : Nat) : codeAt 108 pc = none := by
  have e : codeTab.getD 108 [] = [] := by rfl
  unfold codeAt
  rw [e]
  rfl
/-- THE SMALL MACHINE IS SOUND -/
theorem sound (hPP : PPok l D cy base ext sc pp) (hTok : ∀ (as : List Value) (h : Hp) (rs : Hp × Option Value), (lvE as (mL 7)).length = mL 7 → primT (lvE as (mL 7)) h = some rs → Ct l D cy base ext 7 as h rs) : ∀ n : Nat,
    (∀ (mi pc : Nat) (lv : Lv) (st : List Value) (cu su : Nat) (h : Hp) (res : Hp × Option Value), mi ≠ 7 → mrun sc pp n mi pc lv st cu su h = some res → RW l D cy base ext sc mi pc lv st cu su h res) ∧
    (∀ (cm : Nat) (as : List Value) (h : Hp) (rs : Hp × Option Value), cm < 277 → (lvE as (mL cm)).length = mL cm → mrun sc pp n cm 0 (lvE as (mL cm)) [] 0 0 h = some rs → (as.all (fun v => v.category == 1) = true ∨ lsOK (LSm cm) (lvE as (mL cm)) = true) → Ct l D cy base ext cm as h rs) := by
  intro n
  induction n with
  | zero => exact ⟨fun _ _ _ _ _ _ _ _ _ hq => (by cases hq), fun _ _ _ _ _ _ hq _ => (by cases hq)⟩
  | succ n ih =>
    have part1 : ∀ (mi pc : Nat) (lv : Lv) (st : List Value) (cu su : Nat) (h : Hp) (res : Hp × Option Value), mi ≠ 7 → mrun sc pp (n + 1) mi pc lv st cu su h = some res → RW l D cy base ext sc mi pc lv st cu su h res := by
      intro mi pc lv st cu su h res h7 hq
      unfold mrun at hq
      rw [if_neg h7] at hq
      cases hs : codeAt mi pc with
      | none => rw [hs] at hq; cases hq
      | some s =>
        rw [hs] at hq
        have h108 : mi ≠ 108 := fun e => by subst e; rw [no108] at hs; cases hs
        exact snd_seg (rec := mrun sc pp n) (fun t lv st cu su h res hq => ih.1 mi t lv st cu su h res h7 hq) ih.2 hPP h108 s pc (code_ok hs) (len_ok hs) (own_ok hs) lv st cu su h res hq
    refine ⟨part1, fun cm as h rs hcm hlen hq hls => ?_⟩
    by_cases h7 : cm = 7
    · subst h7
      unfold mrun at hq
      rw [if_pos rfl, if_pos ⟨rfl, rfl⟩] at hq
      exact hTok as h rs hlen hq
    · by_cases h108 : cm = 108
      · subst h108
        unfold mrun at hq
        rw [if_neg h7, no108] at hq
        cases hq
      · exact met_run (flag_lt cm hcm h108) hcm hlen hls (part1 cm 0 _ [] 0 0 h rs h7 hq)
end Fin1
