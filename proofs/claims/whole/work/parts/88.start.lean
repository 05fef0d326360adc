-- light
-- text: how both begin; what a text read gives
def XW (h : Hp) : Prop := (∀ j, j < 25 → hI h 191 j = tokW.getD j 0) ∧ (hI h 142 1 = nI 8 ∧ hI h 144 1 = nI 5 ∧ hI h 146 1 = nI 8) ∧ (hI h 166 1 = nI 8 ∧ hI h 168 1 = nI 5 ∧ hI h 170 1 = nI 8)
def YW (g : Hp) : Prop := ∀ j, j < 124 → hI g 199 j = nI (wdR.getD j 0)
theorem XW.mv {h h' : Hp} (x : XW h) (F : FA h h') : XW h' := by
  have r := F.2.2.2.2
  unfold XW at *
  rw [(F.2.2.2.1 191 (by omega)).1, r 142 (by omega), r 144 (by omega), r 146 (by omega), r 166 (by omega), r 168 (by omega), r 170 (by omega)]
  exact x
theorem YW.mv {g g' : Hp} (y : YW g) (F : FB g g') : YW g' := fun j hj => by
  rw [F.I (by unfold inB; omega)]; exact y j hj
def SHp (h h' : Hp) : Prop := (hn h' = hn h ∧ hK h' = hK h ∧ hN h' = hN h) ∧ (∀ k, k ≠ 0 → k ≠ 189 → k ≠ 192 → hR h' k = hR h k) ∧ (∀ j, j ≠ 7 → j ≠ 8 → hR h' 0 j = hR h 0 j) ∧ (hR h' 189 0 = hR h 189 0 ∧ hR h' 189 1 = hR h 189 1) ∧ (hR h' 192 0 = hR h 192 0 ∧ hR h' 192 1 = hR h 192 1)
section T88
variable {sc : Nat × (Nat → Int32)} {pp : Nat → Nat → Int32 → Int32 → Hp → Option (Hp × Int32)} {h h' g : Hp} {c d : Nat} {co st im : Mx} {hs : Nat → Mx} {nt ax : Mx} {hl : Nat → Mx} {n B : Nat}
theorem SHp.kd (s : SHp h h') (k : Nat) : kd h' k = kd h k := by simp only [Jvm.Pilot.@@N@@.kd, s.1.1, s.1.2.1]
theorem SHp.trans {h'' : Hp} (s : SHp h h') (u : SHp h' h'') : SHp h h'' := ⟨⟨u.1.1.trans s.1.1, u.1.2.1.trans s.1.2.1, u.1.2.2.trans s.1.2.2⟩, fun k a b e => (u.2.1 k a b e).trans (s.2.1 k a b e), fun j a b => (u.2.2.1 j a b).trans (s.2.2.1 j a b), ⟨u.2.2.2.1.1.trans s.2.2.2.1.1, u.2.2.2.1.2.trans s.2.2.2.1.2⟩, ⟨u.2.2.2.2.1.trans s.2.2.2.2.1, u.2.2.2.2.2.trans s.2.2.2.2.2⟩⟩
theorem FrT.sh (F : FrT d h h') : SHp h h' := ⟨⟨F.1, F.2.1, F.2.2.1⟩, fun k _ b c => F.2.2.2.1 k b c, fun j _ _ => by rw [F.2.2.2.1 0 (by omega) (by omega)], F.2.2.2.2.1, F.2.2.2.2.2.1⟩
theorem Fr.sh {L : List Nat} (F : Fr h h' L) : SHp h h' := ⟨⟨F.1, F.2.1, F.2.2.1⟩, fun k _ _ _ => by rw [F.2.2.2.1], fun j _ _ => by rw [F.2.2.2.1], by rw [F.2.2.2.1]; exact ⟨rfl, rfl⟩, by rw [F.2.2.2.1]; exact ⟨rfl, rfl⟩⟩
theorem isX.sh (a : isX h) (s : SHp h h') : isX h' := by
  have r := s.2.2.1
  have q := s.2.1
  unfold isX at *
  simp only [s.kd, s.1.2.2]
  rw [r 0 (by omega) (by omega), r 1 (by omega) (by omega), r 2 (by omega) (by omega), r 3 (by omega) (by omega), r 4 (by omega) (by omega), r 5 (by omega) (by omega), r 6 (by omega) (by omega), r 9 (by omega) (by omega), r 10 (by omega) (by omega), q 12 (by omega) (by omega) (by omega), q 13 (by omega) (by omega) (by omega), q 190 (by omega) (by omega) (by omega), s.2.2.2.1.1, s.2.2.2.1.2, s.2.2.2.2.1, s.2.2.2.2.2]
  exact a
theorem isC.sh (a : isC h c) (s : SHp h h') (hc : 1 ≤ c ∧ c ≤ 165) : isC h' c := by
  have q := s.2.1
  have q0 := q c (by omega) (by omega) (by omega)
  have q1 := q (c + 1) (by omega) (by omega) (by omega)
  have q3 := q (c + 3) (by omega) (by omega) (by omega)
  have q5 := q (c + 5) (by omega) (by omega) (by omega)
  have q18 := q (c + 18) (by omega) (by omega) (by omega)
  have q21 := q (c + 21) (by omega) (by omega) (by omega)
  unfold isC at *
  simp only [s.kd, s.1.2.2, q0, q1, q3, q5, q18, q21]
  exact a
theorem isS.sh {k : Nat} (a : isS h k) (s : SHp h h') (hk : 1 ≤ k ∧ k ≤ 165) : isS h' k := by
  unfold isS at *
  simp only [s.kd, s.1.2.2, s.2.1 k (by omega) (by omega) (by omega)]
  exact a
theorem isN.sh (a : isN h 114) (s : SHp h h') : isN h' 114 := by
  unfold isN at *
  simp only [s.kd, s.1.2.2, s.2.1 114 (by omega) (by omega) (by omega)]
  exact a
theorem isQ.sh (a : isQ h 121) (s : SHp h h') : isQ h' 121 := by
  have q := s.2.1
  unfold isQ at *
  simp only [s.kd, s.1.2.2, q 121 (by omega) (by omega) (by omega), q (121 + 1) (by omega) (by omega) (by omega), q (121 + 6) (by omega) (by omega) (by omega)]
  exact a
theorem isU.sh (a : isU h 194) (s : SHp h h') : isU h' 194 := by
  unfold isU at *
  simp only [s.kd, s.1.2.2, s.2.1 194 (by omega) (by omega) (by omega)]
  exact a
theorem repS.sh {k : Nat} (a : repS h k st) (s : SHp h h') (hk : 1 ≤ k ∧ k ≤ 165) (r : ∀ i, k ≤ i → i < k + 5 → hI h' i = hI h i) : repS h' k st := by
  refine ⟨a.1.sh s hk, ?_⟩
  rw [r (k + 1) (by omega) (by omega), r (k + 2) (by omega) (by omega), r (k + 3) (by omega) (by omega), r (k + 4) (by omega) (by omega), r k (by omega) (by omega)]
  exact a.2
/-- the class, where the text that is read wasn't taken -/
theorem CI.flt (I : CI h c d co st im hs nt ax) (s : SHp h h') (r7 : hR h' 0 7 = hR h 0 7) (r8 : hR h' 0 8 = hR h 0 8) (r : ∀ k, k ≠ 0 → (k < d ∨ d + 24 ≤ k) → k ≠ 189 → k ≠ 190 → k ≠ 192 → k ≠ 193 → hI h' k = hI h k) : CI h' c d co st im hs nt (fun r => if r = 0 then hI h' 0 else ax r) := by
  have hcd := I.cd
  refine ⟨I.x.sh s, hcd, ⟨by rw [r7]; exact I.rc, by rw [r8]; exact I.rd⟩, ⟨⟨I.C.1.sh s (by omega), fun q hq => ?_⟩, I.w⟩, I.D.sh s (by omega), I.S.sh s (by omega) (fun i _ _ => r i (by omega) (by omega) (by omega) (by omega) (by omega) (by omega)), I.imS.sh s (by omega) (fun i _ _ => r i (by omega) (by omega) (by omega) (by omega) (by omega) (by omega)), fun i hi => (I.hsS hi).sh s (by omega) (fun j _ _ => r j (by omega) (by omega) (by omega) (by omega) (by omega) (by omega)), ⟨I.n.sh s, fun q hq => ?_⟩, I.q.sh s, I.t.sh s (by omega), I.u.sh s, rfl, ?_, ?_⟩
  · rw [r _ (by omega) (by omega) (by omega) (by omega) (by omega) (by omega)]; exact I.C.2 q hq
  · rw [r _ (by omega) (by omega) (by omega) (by omega) (by omega) (by omega)]; exact I.ntR hq
  · rw [r 1 (by omega) (by omega) (by omega) (by omega) (by omega) (by omega)]; exact I.axR.2.1
  · rw [r 12 (by omega) (by omega) (by omega) (by omega) (by omega) (by omega)]; exact I.axR.2.2
/-- the class, where it was taken -/
theorem CI.took {co' st' : Mx} (I : CI h c d co st im hs nt ax) (s : SHp h h') (r7 : hR h' 0 7 = d + 1) (r8 : hR h' 0 8 = c + 1) (r : ∀ k, k ≠ 0 → ¬ (2 ≤ k ∧ k ≤ 6) → k ≠ 12 → k ≠ 114 → (k < d ∨ d + 24 ≤ k) → k ≠ 189 → k ≠ 190 → k ≠ 192 → k ≠ 193 → hI h' k = hI h k) (w : wfC co') (rc : ∀ q, q < 24 → hI h' (d + q) = co' q) (rs : repS h' 2 st') : CI h' d c co' st' im hs (fun q => hI h' (114 + q)) (fun q => hI h' q) := by
  have hcd := I.cd
  exact ⟨I.x.sh s, by omega, ⟨r7, r8⟩, ⟨⟨I.D.sh s (by omega), rc⟩, w⟩, I.C.1.sh s (by omega), rs, I.imS.sh s (by omega) (fun i _ _ => r i (by omega) (by omega) (by omega) (by omega) (by omega) (by omega) (by omega) (by omega) (by omega)), fun i hi => (I.hsS hi).sh s (by omega) (fun j _ _ => r j (by omega) (by omega) (by omega) (by omega) (by omega) (by omega) (by omega) (by omega) (by omega)), ⟨I.n.sh s, fun _ _ => rfl⟩, I.q.sh s, I.t.sh s (by omega), I.u.sh s, rfl, rfl, rfl⟩
/-- a text read keeps the rules -/
theorem RC.wf {nf np nq nt' kn : Nat} (C : RC h g d nf np nq nt' kn) : wfC (fun r => hI h (d + r)) ∧ nfO (fun r => hI h (d + r)) = nf ∧ npO (fun r => hI h (d + r)) = np ∧ nqO (fun r => hI h (d + r)) = nq ∧ ntO (fun r => hI h (d + r)) = nt' := by
  obtain ⟨X, hD, ms, ⟨f1, f2, f3, f4⟩, ⟨p1, p2, p3, p4⟩, ⟨q1, q2, q3, q4⟩, ⟨t1, t2, t3, t4⟩, ⟨o1, o2, o3, o4⟩, ⟨l1, l2, l3, l4, l5, l6⟩⟩ := C
  have ef : nfO (fun r => hI h (d + r)) = nf := by show nO (hI h (d + 1) 2) = _; rw [f2, nO_nI (by omega)]
  have ep : npO (fun r => hI h (d + r)) = np := by show nO (hI h (d + 3) 2) = _; rw [p2, nO_nI (by omega)]
  have eq : nqO (fun r => hI h (d + r)) = nq := by show nO (hI h (d + 5) 2) = _; rw [q2, nO_nI (by omega)]
  have et : ntO (fun r => hI h (d + r)) = nt' := by show nO (hI h d 16) = _; rw [t2, nO_nI (by omega)]
  refine ⟨?_, ef, ep, eq, et⟩
  have okl : ∀ a w, rLaw h g (d + a) w kn → okL (fun r => hI h (d + r)) a := by
    intro a w r
    unfold okL
    show hI h (d + a) 2 = nI (nO (hI h (d + a) 2)) ∧ nO (hI h (d + a) 2) ≤ 64 ∧ ∀ j, j < nO (hI h (d + a) 2) → hI h (d + (a + 1)) j = nI (nO (hI h (d + (a + 1)) j)) ∧ okK (nO (hI h (d + (a + 1)) j))
    rcases r.2 with ⟨_, e⟩ | ⟨_, f, L, cd, nu, a1, a2, a3, a4, a5, a6, a7, a8⟩
    · rw [e, show nO (0 : Int32) = 0 from rfl]
      exact ⟨rfl, by omega, fun j hj => absurd hj (by omega)⟩
    · rw [a5, nO_nI (by omega)]
      refine ⟨rfl, by omega, fun j hj => ?_⟩
      have ok := (a7 j hj).1
      have c37 : cd j < 100 := by
        unfold okK at ok
        simp at ok
        omega
      have e := (a6 j hj).1
      rw [show d + a + 1 = d + (a + 1) from rfl] at e
      rw [e, nO_nI (by omega)]
      exact ⟨rfl, ok⟩
  unfold wfC
  rw [ef, ep, eq, et]
  refine ⟨⟨f2, f1⟩, ⟨p2, p1⟩, ⟨q2, q1⟩, ⟨t2, t1⟩, okl 18 2 l5, okl 21 3 l6, fun q hq => ?_, fun s hs' => ?_, fun p hp => ?_, ?_, ?_, kn, by omega, l2⟩
  · obtain ⟨b1, ⟨v, hv, b2, _⟩, b3, b4, b5⟩ := q4 q hq
    have k : ∀ x, okS nf x → okF (fun r => hI h (d + r)) x := fun x z => by
      unfold okF
      rw [ef]
      exact z
    exact ⟨⟨v, hv, b2⟩, k _ b3.1, k _ b4.1, k _ b5.1⟩
  · obtain ⟨a, b, q, b1, b2, b3, b4, ⟨b5, b6, b7⟩, _⟩ := t4 s hs'
    exact ⟨a, b, q, b1, b2, b3, b4, b5, b6, b7⟩
  · obtain ⟨_, ⟨v1, a1, b1, _⟩, ⟨v2, a2, b2, _⟩, ⟨v3, a3, b3, _⟩, v4, a4, b4, _⟩ := p4 p hp
    exact ⟨⟨v1, a1, b1⟩, ⟨v2, a2, b2⟩, ⟨v3, a3, b3⟩, v4, a4, b4⟩
  · obtain ⟨v, a, b, _⟩ := o1
    exact ⟨v, a, b⟩
  · obtain ⟨v, a, b, _⟩ := o2
    exact ⟨v, a, b⟩
/-- what the reference keeps is what was read -/
theorem RC.rep {y : Hp} {nf np nq nt' kn : Nat} (C : RC h g d nf np nq nt' kn) (hD : isD y) (r : ∀ k j, k ≠ 197 → hI y k j = if 201 ≤ k ∧ k < 222 ∧ j < mmR k then hI g k (mmR k + j) else hI g k j) (y12 : hI y 197 12 = hI g 197 17) (y13 : hI y 197 13 = hI g 197 18) (y14 : hI y 197 14 = hI g 197 19) (y15 : hI y 197 15 = hI g 197 20) (y16 : hI y 197 16 = hI g 197 21) : repE y (fun r => hI h (d + r)) := by
  obtain ⟨_, ef, ep, eq, et⟩ := C.wf
  obtain ⟨X, _, ms, ⟨f1, f2, f3, f4⟩, ⟨p1, p2, p3, p4⟩, ⟨q1, q2, q3, q4⟩, ⟨t1, t2, t3, t4⟩, ⟨o1, o2, o3, o4⟩, ⟨l1, l2, l3, l4, l5, l6⟩⟩ := C
  have rr : ∀ k j m, 201 ≤ k → k < 222 → mmR k = m → j < m → hI y k j = hI g k (m + j) := fun k j m a b e z => by rw [r k j (by omega), e, if_pos ⟨a, b, z⟩]
  have law : ∀ a w, (w = 0 ∨ w = 1) → rLaw h g (d + a) (2 + w) kn → lawD y w a (fun r => hI h (d + r)) := by
    intro a w hw l
    unfold lawD
    show hI y 216 w = hI h (d + a) 3 ∧ (hI h (d + a) 3 = 0 ∨ (hI h (d + a) 3 = 1 ∧ ∃ f, hI y 217 w = nI f ∧ hI y 218 w = nI (f + nO (hI h (d + a) 2)) ∧ 0 < nO (hI h (d + a) 2) ∧ lawK y f (nO (hI h (d + a) 2)) (fun j => nO (hI h (d + (a + 1)) j)) (hI h (d + (a + 2))) ∧ lwIx (fun j => nO (hI h (d + (a + 1)) j)) (nO (hI h (d + a) 2)) = [nO (hI h (d + a) 2) - 1]))
    rw [rr 216 w 2 (by omega) (by omega) rfl (by omega), rr 217 w 2 (by omega) (by omega) rfl (by omega), rr 218 w 2 (by omega) (by omega) rfl (by omega)]
    refine ⟨l.1, ?_⟩
    rcases l.2 with ⟨e, _⟩ | ⟨e, f, L, cd, nu, a1, a2, a3, a4, a5, a6, a7, a8⟩
    · exact Or.inl e
    · refine Or.inr ⟨e, f, a3, ?_⟩
      rw [a5, nO_nI (by omega)]
      have c37 : ∀ j, j < L → cd j < 100 := fun j hj => by
        have ok := (a7 j hj).1
        unfold okK at ok
        simp at ok
        omega
      have ecd : ∀ j, j < L → nO (hI h (d + (a + 1)) j) = cd j := fun j hj => by
        have e := (a6 j hj).1
        rw [show d + a + 1 = d + (a + 1) from rfl] at e
        have := c37 j hj
        rw [e, nO_nI (by omega)]
      have enu : ∀ j, j < L → hI h (d + (a + 2)) j = nu j := fun j hj => (a6 j hj).2
      have ix : ∀ i, i ≤ L → lwIx (fun j => nO (hI h (d + (a + 1)) j)) i = lwIx cd i := fun i hi => lwIx_congr i (fun j hj => ecd j (by omega))
      refine ⟨a4, a2, ⟨by omega, fun i hi => ?_⟩, by rw [ix L (Nat.le_refl _)]; exact a8⟩
      rw [rr 219 (f + i) 64 (by omega) (by omega) rfl (by omega), rr 220 (f + i) 64 (by omega) (by omega) rfl (by omega), rr 221 (f + i) 64 (by omega) (by omega) rfl (by omega)]
      simp only [ecd i hi, enu i hi, ix i (by omega)]
      exact a7 i hi
  unfold repE
  rw [ef, ep, eq, et]
  refine ⟨hD, ⟨y12.trans (f3.trans f2.symm), y13.trans (p3.trans p2.symm), y14.trans (q3.trans q2.symm), y15.trans (t3.trans t2.symm), y16.trans (l3.trans l2.symm)⟩, ⟨?_, ?_⟩, fun i hi => ?_, fun p hp => ?_, fun q hq => ?_, fun s hs' => ?_, law 18 0 (by omega) l5, law 21 1 (by omega) l6⟩
  · obtain ⟨v, _, a, b⟩ := o1
    rw [rr 201 0 2 (by omega) (by omega) rfl (by omega)]
    exact b.trans a.symm
  · obtain ⟨v, _, a, b⟩ := o2
    rw [rr 201 1 2 (by omega) (by omega) rfl (by omega)]
    exact b.trans a.symm
  · rw [rr 202 i 8 (by omega) (by omega) rfl (by omega)]; exact f4 i hi
  · obtain ⟨b1, ⟨v1, _, b2, c2⟩, ⟨v2, _, b3, c3⟩, ⟨v3, _, b4, c4⟩, v4, _, b5, c5⟩ := p4 p hp
    rw [rr 203 p 5 (by omega) (by omega) rfl (by omega), rr 204 p 5 (by omega) (by omega) rfl (by omega), rr 205 p 5 (by omega) (by omega) rfl (by omega), rr 206 p 5 (by omega) (by omega) rfl (by omega), rr 207 p 5 (by omega) (by omega) rfl (by omega)]
    exact ⟨b1, c2.trans b2.symm, c3.trans b3.symm, c4.trans b4.symm, c5.trans b5.symm⟩
  · obtain ⟨b1, ⟨v1, _, b2, c2⟩, b3, b4, b5⟩ := q4 q hq
    rw [rr 208 q 8 (by omega) (by omega) rfl (by omega), rr 209 q 8 (by omega) (by omega) rfl (by omega), rr 210 q 8 (by omega) (by omega) rfl (by omega), rr 211 q 8 (by omega) (by omega) rfl (by omega), rr 212 q 8 (by omega) (by omega) rfl (by omega)]
    exact ⟨b1, c2.trans b2.symm, b3.2, b4.2, b5.2⟩
  · obtain ⟨a, b, q, _, _, _, _, ⟨b5, b6, b7⟩, c5, c6, c7⟩ := t4 s hs'
    rw [rr 213 s 10 (by omega) (by omega) rfl (by omega), rr 214 s 10 (by omega) (by omega) rfl (by omega), rr 215 s 10 (by omega) (by omega) rfl (by omega)]
    exact ⟨c5.trans b5.symm, c6.trans b6.symm, c7.trans b7.symm⟩
end T88
