-- the class as a whole: its cells, what stays when something is tried
-- the heap's updates, as rules that aren't definitional
theorem kdI {h : Hp} {a j k : Nat} {v : Int32} : kd (sI h a j v) k = kd h k := (rfl)
theorem hNI {h : Hp} {a j : Nat} {v : Int32} : hN (sI h a j v) = hN h := (rfl)
theorem hRI {h : Hp} {a j : Nat} {v : Int32} : hR (sI h a j v) = hR h := (rfl)
theorem hJI {h : Hp} {a j : Nat} {v : Int32} : hJ (sI h a j v) = hJ h := (rfl)
theorem hII {h : Hp} {a j b i : Nat} {v : Int32} : hI (sI h a j v) b i = if b = a ∧ i = j then v else hI h b i := (rfl)
theorem kdJ {h : Hp} {a j k : Nat} {v : Int64} : kd (sJ h a j v) k = kd h k := (rfl)
theorem hNJ {h : Hp} {a j : Nat} {v : Int64} : hN (sJ h a j v) = hN h := (rfl)
theorem hRJ {h : Hp} {a j : Nat} {v : Int64} : hR (sJ h a j v) = hR h := (rfl)
theorem hIJ {h : Hp} {a j : Nat} {v : Int64} : hI (sJ h a j v) = hI h := (rfl)
theorem hJJ {h : Hp} {a j b i : Nat} {v : Int64} : hJ (sJ h a j v) b i = if b = a ∧ i = j then v else hJ h b i := (rfl)
theorem kdR {h : Hp} {a j k : Nat} {v : Nat} : kd (sR h a j v) k = kd h k := (rfl)
theorem hNR {h : Hp} {a j : Nat} {v : Nat} : hN (sR h a j v) = hN h := (rfl)
theorem hIR {h : Hp} {a j : Nat} {v : Nat} : hI (sR h a j v) = hI h := (rfl)
theorem hJR {h : Hp} {a j : Nat} {v : Nat} : hJ (sR h a j v) = hJ h := (rfl)
theorem hRR {h : Hp} {a j b i : Nat} {v : Nat} : hR (sR h a j v) b i = if b = a ∧ i = j then v else hR h b i := (rfl)
def isX (h : Hp) : Prop := (kd h 0 = 11) ∧ (kd h 1 = 13) ∧ (kd h 12 = 1) ∧ (kd h 13 = 16) ∧ (kd h 189 = 9) ∧ (kd h 190 = 10) ∧ (kd h 191 = 13) ∧ (kd h 192 = 3) ∧ (kd h 193 = 13) ∧ (hN h 1 = 700) ∧ (hN h 13 = 20) ∧ (hN h 191 = 25) ∧ (hN h 193 = 72) ∧ (hR h 0 0 = 2) ∧ (hR h 0 1 = 3) ∧ (hR h 0 2 = 8) ∧ (hR h 0 3 = 13) ∧ (hR h 0 4 = 115) ∧ (hR h 0 5 = 122) ∧ (hR h 0 6 = 137) ∧ (hR h 0 9 = 190) ∧ (hR h 0 10 = 195) ∧ (hR h 12 0 = 14) ∧ (hR h 189 0 = 191) ∧ (hR h 189 1 = 193) ∧ (hR h 190 0 = 2) ∧ (hR h 190 1 = 192) ∧ (hR h 192 0 = 191) ∧ (hR h 192 1 = 194) ∧ (∀ i, i < 20 → hR h 13 i = 15 + 5 * i)
theorem X_k0 {h : Hp} (a : isX h) : kd h 0 = 11 := a.1
theorem X_k1 {h : Hp} (a : isX h) : kd h 1 = 13 := a.2.1
theorem X_k12 {h : Hp} (a : isX h) : kd h 12 = 1 := a.2.2.1
theorem X_k13 {h : Hp} (a : isX h) : kd h 13 = 16 := a.2.2.2.1
theorem X_k189 {h : Hp} (a : isX h) : kd h 189 = 9 := a.2.2.2.2.1
theorem X_k190 {h : Hp} (a : isX h) : kd h 190 = 10 := a.2.2.2.2.2.1
theorem X_k191 {h : Hp} (a : isX h) : kd h 191 = 13 := a.2.2.2.2.2.2.1
theorem X_k192 {h : Hp} (a : isX h) : kd h 192 = 3 := a.2.2.2.2.2.2.2.1
theorem X_k193 {h : Hp} (a : isX h) : kd h 193 = 13 := a.2.2.2.2.2.2.2.2.1
theorem X_n1 {h : Hp} (a : isX h) : hN h 1 = 700 := a.2.2.2.2.2.2.2.2.2.1
theorem X_n13 {h : Hp} (a : isX h) : hN h 13 = 20 := a.2.2.2.2.2.2.2.2.2.2.1
theorem X_n191 {h : Hp} (a : isX h) : hN h 191 = 25 := a.2.2.2.2.2.2.2.2.2.2.2.1
theorem X_n193 {h : Hp} (a : isX h) : hN h 193 = 72 := a.2.2.2.2.2.2.2.2.2.2.2.2.1
theorem X_r0_0 {h : Hp} (a : isX h) : hR h 0 0 = 2 := a.2.2.2.2.2.2.2.2.2.2.2.2.2.1
theorem X_r0_1 {h : Hp} (a : isX h) : hR h 0 1 = 3 := a.2.2.2.2.2.2.2.2.2.2.2.2.2.2.1
theorem X_r0_2 {h : Hp} (a : isX h) : hR h 0 2 = 8 := a.2.2.2.2.2.2.2.2.2.2.2.2.2.2.2.1
theorem X_r0_3 {h : Hp} (a : isX h) : hR h 0 3 = 13 := a.2.2.2.2.2.2.2.2.2.2.2.2.2.2.2.2.1
theorem X_r0_4 {h : Hp} (a : isX h) : hR h 0 4 = 115 := a.2.2.2.2.2.2.2.2.2.2.2.2.2.2.2.2.2.1
theorem X_r0_5 {h : Hp} (a : isX h) : hR h 0 5 = 122 := a.2.2.2.2.2.2.2.2.2.2.2.2.2.2.2.2.2.2.1
theorem X_r0_6 {h : Hp} (a : isX h) : hR h 0 6 = 137 := a.2.2.2.2.2.2.2.2.2.2.2.2.2.2.2.2.2.2.2.1
theorem X_r0_9 {h : Hp} (a : isX h) : hR h 0 9 = 190 := a.2.2.2.2.2.2.2.2.2.2.2.2.2.2.2.2.2.2.2.2.1
theorem X_r0_10 {h : Hp} (a : isX h) : hR h 0 10 = 195 := a.2.2.2.2.2.2.2.2.2.2.2.2.2.2.2.2.2.2.2.2.2.1
theorem X_r12_0 {h : Hp} (a : isX h) : hR h 12 0 = 14 := a.2.2.2.2.2.2.2.2.2.2.2.2.2.2.2.2.2.2.2.2.2.2.1
theorem X_r189_0 {h : Hp} (a : isX h) : hR h 189 0 = 191 := a.2.2.2.2.2.2.2.2.2.2.2.2.2.2.2.2.2.2.2.2.2.2.2.1
theorem X_r189_1 {h : Hp} (a : isX h) : hR h 189 1 = 193 := a.2.2.2.2.2.2.2.2.2.2.2.2.2.2.2.2.2.2.2.2.2.2.2.2.1
theorem X_r190_0 {h : Hp} (a : isX h) : hR h 190 0 = 2 := a.2.2.2.2.2.2.2.2.2.2.2.2.2.2.2.2.2.2.2.2.2.2.2.2.2.1
theorem X_r190_1 {h : Hp} (a : isX h) : hR h 190 1 = 192 := a.2.2.2.2.2.2.2.2.2.2.2.2.2.2.2.2.2.2.2.2.2.2.2.2.2.2.1
theorem X_r192_0 {h : Hp} (a : isX h) : hR h 192 0 = 191 := a.2.2.2.2.2.2.2.2.2.2.2.2.2.2.2.2.2.2.2.2.2.2.2.2.2.2.2.1
theorem X_r192_1 {h : Hp} (a : isX h) : hR h 192 1 = 194 := a.2.2.2.2.2.2.2.2.2.2.2.2.2.2.2.2.2.2.2.2.2.2.2.2.2.2.2.2.1
theorem X_rh {h : Hp} (a : isX h) : ∀ i, i < 20 → hR h 13 i = 15 + 5 * i := a.2.2.2.2.2.2.2.2.2.2.2.2.2.2.2.2.2.2.2.2.2.2.2.2.2.2.2.2.2

def FrS (h h' : Hp) : Prop := hn h' = hn h ∧ hK h' = hK h ∧ hN h' = hN h ∧ (∀ k, k ≠ 194 → hR h' k = hR h k) ∧ (hR h' 194 0 = hR h 194 0 ∧ hR h' 194 1 = hR h 194 1) ∧ ∀ k, (k < 120 ∨ 141 ≤ k) → k ≠ 194 → k ≠ 195 → k ≠ 196 → hI h' k = hI h k ∧ hJ h' k = hJ h k
theorem FrS.refl (h : Hp) : FrS h h := ⟨rfl, rfl, rfl, fun _ _ => rfl, ⟨rfl, rfl⟩, fun _ _ _ _ _ => ⟨rfl, rfl⟩⟩
theorem FrS.trans {a b c : Hp} (x : FrS a b) (y : FrS b c) : FrS a c := ⟨y.1.trans x.1, y.2.1.trans x.2.1, y.2.2.1.trans x.2.2.1, fun k hk => (y.2.2.2.1 k hk).trans (x.2.2.2.1 k hk), ⟨y.2.2.2.2.1.1.trans x.2.2.2.2.1.1, y.2.2.2.2.1.2.trans x.2.2.2.2.1.2⟩, fun k a b c d => ⟨(y.2.2.2.2.2 k a b c d).1.trans (x.2.2.2.2.2 k a b c d).1, (y.2.2.2.2.2 k a b c d).2.trans (x.2.2.2.2.2 k a b c d).2⟩⟩
theorem Fr.S {h h' : Hp} {L : List Nat} (f : Fr h h' L) (hL : ∀ k, k ∈ L → (120 ≤ k ∧ k < 141) ∨ k = 194 ∨ k = 195 ∨ k = 196) : FrS h h' := ⟨f.1, f.2.1, f.2.2.1, fun k _ => by rw [f.2.2.2.1], ⟨by rw [f.2.2.2.1], by rw [f.2.2.2.1]⟩, fun k a b c d => f.2.2.2.2 k (fun q => by have := hL k q; omega)⟩
theorem FrS.kd {h h' : Hp} (f : FrS h h') (k : Nat) : kd h' k = kd h k := by simp only [Jvm.Pilot.@@N@@.kd, f.1, f.2.1]
theorem FrS.I {h h' : Hp} (f : FrS h h') {k : Nat} (a : k < 120 ∨ 141 ≤ k) (b : k ≠ 194) (c : k ≠ 195) (d : k ≠ 196) : hI h' k = hI h k := (f.2.2.2.2.2 k a b c d).1
theorem isX.moveS {h h' : Hp} (a : isX h) (f : FrS h h') : isX h' := by
  have r0 := f.2.2.2.1 0 (by omega)
  have r12 := f.2.2.2.1 12 (by omega)
  have r13 := f.2.2.2.1 13 (by omega)
  have r189 := f.2.2.2.1 189 (by omega)
  have r190 := f.2.2.2.1 190 (by omega)
  have r192 := f.2.2.2.1 192 (by omega)
  unfold isX at *
  simp only [f.kd, f.2.2.1, r0, r12, r13, r189, r190, r192]
  exact a
theorem isS.moveS {h h' : Hp} {s : Nat} (a : isS h s) (f : FrS h h') (hs : s < 190) : isS h' s := by
  have r0 := f.2.2.2.1 s (by omega)
  unfold isS at *
  simp only [f.kd, f.2.2.1, r0]
  exact a
theorem isC.moveS {h h' : Hp} {c : Nat} (a : isC h c) (f : FrS h h') (hc : c < 170) : isC h' c := by
  have r0 := f.2.2.2.1 c (by omega)
  have r1 := f.2.2.2.1 (c + 1) (by omega)
  have r3 := f.2.2.2.1 (c + 3) (by omega)
  have r5 := f.2.2.2.1 (c + 5) (by omega)
  have r18 := f.2.2.2.1 (c + 18) (by omega)
  have r21 := f.2.2.2.1 (c + 21) (by omega)
  unfold isC at *
  simp only [f.kd, f.2.2.1, r0, r1, r3, r5, r18, r21]
  exact a
theorem isN.moveS {h h' : Hp} (a : isN h 114) (f : FrS h h') : isN h' 114 := by
  unfold isN at *
  simp only [f.kd, f.2.2.1, f.2.2.2.1 114 (by omega)]
  exact a
theorem isQ.moveS {h h' : Hp} (a : isQ h 121) (f : FrS h h') : isQ h' 121 := by
  have r0 := f.2.2.2.1 121 (by omega)
  have r1 := f.2.2.2.1 (121 + 1) (by omega)
  have r6 := f.2.2.2.1 (121 + 6) (by omega)
  unfold isQ at *
  simp only [f.kd, f.2.2.1, r0, r1, r6]
  exact a
theorem isU.moveS {h h' : Hp} (a : isU h 194) (f : FrS h h') : isU h' 194 := by
  unfold isU at *
  simp only [f.kd, f.2.2.1, f.2.2.2.2.1.1, f.2.2.2.2.1.2]
  exact a
theorem repS.moveS {h h' : Hp} {s : Nat} {st : Mx} (a : repS h s st) (f : FrS h h') (hs : s + 5 ≤ 120) : repS h' s st := by
  refine ⟨a.1.moveS f (by omega), ?_⟩
  rw [f.I (k := s + 1) (by omega) (by omega) (by omega) (by omega), f.I (k := s + 2) (by omega) (by omega) (by omega) (by omega), f.I (k := s + 3) (by omega) (by omega) (by omega) (by omega), f.I (k := s + 4) (by omega) (by omega) (by omega) (by omega), f.I (k := s) (by omega) (by omega) (by omega) (by omega)]
  exact a.2
theorem repC.moveS {h h' : Hp} {c : Nat} {co : Mx} (a : repC h c co) (f : FrS h h') (h1 : 141 ≤ c) (hc : c < 170) : repC h' c co := ⟨a.1.moveS f hc, fun r hr => (f.I (by omega) (by omega) (by omega) (by omega)).trans (a.2 r hr)⟩
def CI (h : Hp) (c d : Nat) (co st im : Mx) (hs : Nat → Mx) (nt ax : Mx) : Prop := isX h ∧ ((c = 141 ∧ d = 165) ∨ (c = 165 ∧ d = 141)) ∧ (hR h 0 7 = c + 1 ∧ hR h 0 8 = d + 1) ∧ (repC h c co ∧ wfC co) ∧ isC h d ∧ repS h 2 st ∧ repS h 7 im ∧ (∀ i, i < 20 → repS h (14 + 5 * i) (hs i)) ∧ (isN h 114 ∧ ∀ r, r < 6 → hI h (114 + r) = nt r) ∧ isQ h 121 ∧ isS h 136 ∧ isU h 194 ∧ (hI h 0 = ax 0 ∧ hI h 1 = ax 1 ∧ hI h 12 = ax 12)
section CIs
variable {h h' : Hp} {c d : Nat} {co st im : Mx} {hs : Nat → Mx} {nt ax : Mx}
theorem CI.x (a : CI h c d co st im hs nt ax) : isX h := a.1
theorem CI.cd (a : CI h c d co st im hs nt ax) : (c = 141 ∧ d = 165) ∨ (c = 165 ∧ d = 141) := a.2.1
theorem CI.rc (a : CI h c d co st im hs nt ax) : hR h 0 7 = c + 1 := a.2.2.1.1
theorem CI.rd (a : CI h c d co st im hs nt ax) : hR h 0 8 = d + 1 := a.2.2.1.2
theorem CI.C (a : CI h c d co st im hs nt ax) : repC h c co := a.2.2.2.1.1
theorem CI.w (a : CI h c d co st im hs nt ax) : wfC co := a.2.2.2.1.2
theorem CI.D (a : CI h c d co st im hs nt ax) : isC h d := a.2.2.2.2.1
theorem CI.S (a : CI h c d co st im hs nt ax) : repS h 2 st := a.2.2.2.2.2.1
theorem CI.imS (a : CI h c d co st im hs nt ax) : repS h 7 im := a.2.2.2.2.2.2.1
theorem CI.hsS (a : CI h c d co st im hs nt ax) {i : Nat} (hi : i < 20) : repS h (14 + 5 * i) (hs i) := a.2.2.2.2.2.2.2.1 i hi
theorem CI.n (a : CI h c d co st im hs nt ax) : isN h 114 := a.2.2.2.2.2.2.2.2.1.1
theorem CI.ntR (a : CI h c d co st im hs nt ax) {r : Nat} (hr : r < 6) : hI h (114 + r) = nt r := a.2.2.2.2.2.2.2.2.1.2 r hr
theorem CI.q (a : CI h c d co st im hs nt ax) : isQ h 121 := a.2.2.2.2.2.2.2.2.2.1
theorem CI.t (a : CI h c d co st im hs nt ax) : isS h 136 := a.2.2.2.2.2.2.2.2.2.2.1
theorem CI.u (a : CI h c d co st im hs nt ax) : isU h 194 := a.2.2.2.2.2.2.2.2.2.2.2.1
theorem CI.axR (a : CI h c d co st im hs nt ax) : hI h 0 = ax 0 ∧ hI h 1 = ax 1 ∧ hI h 12 = ax 12 := a.2.2.2.2.2.2.2.2.2.2.2.2
theorem CI.moveS (a : CI h c d co st im hs nt ax) (f : FrS h h') : CI h' c d co st im hs nt ax := by
  have hcd := a.cd
  refine ⟨a.x.moveS f, hcd, ⟨?_, ?_⟩, ⟨a.C.moveS f (by omega) (by omega), a.w⟩, a.D.moveS f (by omega), a.S.moveS f (by omega), a.imS.moveS f (by omega), fun i hi => (a.hsS hi).moveS f (by omega), ⟨a.n.moveS f, fun r hr => ?_⟩, a.q.moveS f, a.t.moveS f (by omega), a.u.moveS f, ?_, ?_, ?_⟩
  · rw [f.2.2.2.1 0 (by omega)]; exact a.rc
  · rw [f.2.2.2.1 0 (by omega)]; exact a.rd
  · rw [f.I (by omega) (by omega) (by omega) (by omega)]; exact a.ntR hr
  · rw [f.I (by omega) (by omega) (by omega) (by omega)]; exact a.axR.1
  · rw [f.I (by omega) (by omega) (by omega) (by omega)]; exact a.axR.2.1
  · rw [f.I (by omega) (by omega) (by omega) (by omega)]; exact a.axR.2.2
end CIs
def fl0 : Nat → Int32 := fun j => if j = 5 then -1 else 0
def flS (j : Nat) (v : Int32) : Nat → Int32 := fun i => if i = j then v else fl0 i
def hasB (x : Int32) (n : Nat) : Prop := ∃ j, j < n ∧ x = nI j
section T28
variable {sc : Nat × (Nat → Int32)} {pp : Nat → Nat → Int32 → Int32 → Hp → Option (Hp × Int32)}
theorem c_hasB (a n : Nat) (k : Int32) (h : Hp) (ha : kd h a = 4) (hn : hI h a 2 = nI n) (h8 : n < 1000) : Lm sc pp 106 0 [some (.ref a), some (.int k)] [] 0 0 h = some (h, some (.int (b32 (hasB k n)))) := by
  rw [c_has a k h ha, hn]
  by_cases z : k < 0
  · rw [if_pos z, b32_f]
    rintro ⟨j, hj, e⟩
    rw [e] at z
    exact nI_pos (by omega) z
  · rw [if_neg z]
    obtain ⟨j, hj, e⟩ := nI_of z
    subst e
    have q := nI_leI (a := n) (b := j) (by omega) hj
    by_cases g : n ≤ j
    · rw [if_pos (q.mpr g), b32_f]
      rintro ⟨i, hi, e⟩
      rw [nI_eq hj (by omega)] at e
      omega
    · rw [if_neg (fun z => g (q.mp z)), b32_t ⟨j, by omega, rfl⟩]
theorem c_begin0 (c : Nat) (h : Hp) (hU : isU h 194) (hc : c < 1000) : Lm sc pp 117 0 [some (.ref 194), some (.ref c)] [] 0 0 h = some (sI (sI (sI (sI (sI (sR h 194 2 (c + 1)) 194 3 0) 194 4 0) 194 5 (-1)) 194 6 0) 194 7 0, none) := by
  have ku := U_k0 hU
  simp (disch := first | assumption | omega | exact Nat.le_of_ble_eq_true rfl | exact D_k197 (by assumption) | (simp (disch := assumption) only [kdI, kdJ, kdR, D_k197]; done) | (simp only [kdI, kdJ, kdR, *]; done) | fail) only [x_nil, Nat.reduceAdd, x_aload_n0, x_aload_n1, x_putR, x_iconst_0, x_putZ, x_putI, x_iconst_m1, x_return, L_117_0, ofInt1, ofIntm1, kdI, hNI, hRI, hJI, kdJ, hNJ, hIJ, hRJ, kdR, hNR, hIR, hJR, hII, hJJ, hRR, n_clamp, z_lt, z_ge, z_eq, z_le, z_gt, o_eq, o_lt, o_gt, o_le, o_ge, m_eq, n_eq, n_le, n_lt, n_sub1, nI_1, ol_add, nI_add, z_cl, o_cl, z_pos, o_pos, o_z, z_o, m_z, N_le, N_lt, ne_eq, not_true_eq_false, not_false_eq_true, if_true, if_false, and_self, or_self, true_or, or_true, and_true, true_and, and_false, false_and, or_false, false_or, Nat.reduceEqDiff, Nat.le_refl, Nat.reduceLT, Nat.reduceLeDiff, ku, kdR, N_ltT hc]
theorem c_begin1 (c : Nat) (h : Hp) (x : Int32) : FrS h (sI (sI (sI (sI (sI (sR h 194 2 (c + 1)) 194 3 0) 194 4 0) 194 5 x) 194 6 0) 194 7 0) := by
  refine ⟨rfl, rfl, rfl, fun k hk => ?_, ⟨?_, ?_⟩, fun k a b c d => ⟨?_, rfl⟩⟩
  · funext j
    simp only [hRI, hRR, hk, false_and, if_false]
  · simp only [hRI, hRR, Nat.reduceEqDiff, and_false, if_false]
  · simp only [hRI, hRR, Nat.reduceEqDiff, and_false, if_false]
  · simp only [hI_ne b, hIR]
theorem c_begin2 (c : Nat) (h : Hp) (x : Int32) (hU : isU h 194) : repU (sI (sI (sI (sI (sI (sR h 194 2 (c + 1)) 194 3 0) 194 4 0) 194 5 x) 194 6 0) 194 7 0) 194 c (fun j => if j = 5 then x else 0) := by
  refine ⟨?_, ?_⟩
  · unfold isU at *
    simp only [kdI, kdR, hNI, hNR, hRI, hRR, Nat.reduceEqDiff, and_false, if_false]
    exact hU
  · simp only [hRI, hRR, hII, hIR, Nat.reduceEqDiff, and_false, and_true, and_self, if_true, if_false]
theorem c_begin (c : Nat) (h : Hp) (hU : isU h 194) (hc : c < 1000) : ∃ h', Lm sc pp 117 0 [some (.ref 194), some (.ref c)] [] 0 0 h = some (h', none) ∧ FrS h h' ∧ repU h' 194 c fl0 := ⟨_, c_begin0 c h hU hc, c_begin1 c h _, c_begin2 c h _ hU⟩
theorem r_take (s f : Nat) (st : Mx) (h : Hp) (hs : isS h s) (hf : repS h f st) (hd : s + 5 ≤ f ∨ f + 5 ≤ s) : ∃ h', Lm sc pp 142 0 [some (.ref s), some (.ref f), none] [] 0 0 h = some (h', none) ∧ Fr h h' [s, s + 1, s + 2, s + 3, s + 4] ∧ repS h' s st := by
  obtain ⟨h', e, fr, a, b4, b5, b6, b7⟩ := c_take (sc := sc) (pp := pp) s f h hs hf.1 hd
  refine ⟨h', e, fr, hs.move fr, fun p hp => ?_, fun p hp => ?_, fun p hp => ?_, fun p hp => ?_, ?_, ?_, ?_, ?_⟩
  · rw [(a p hp).1]; exact hf.2.1 p hp
  · rw [(a p hp).2.1]; exact hf.2.2.1 p hp
  · rw [(a p hp).2.2.1]; exact hf.2.2.2.1 p hp
  · rw [(a p hp).2.2.2]; exact hf.2.2.2.2.1 p hp
  · rw [b4]; exact hf.2.2.2.2.2.1
  · rw [b5]; exact hf.2.2.2.2.2.2.1
  · rw [b6]; exact hf.2.2.2.2.2.2.2.1
  · rw [b7]; exact hf.2.2.2.2.2.2.2.2
theorem c_freshTrial (c d : Nat) (co st im : Mx) (hs : Nat → Mx) (nt ax : Mx) (h : Hp) (ci : CI h c d co st im hs nt ax) : ∃ h', Lm sc pp 167 0 [some (.ref 0)] [] 0 0 h = some (h', some (.ref 136)) ∧ FrS h h' ∧ repU h' 194 c fl0 ∧ repS h' 136 st := by
  have hcd := ci.cd
  obtain ⟨h1, e1, f1, u1⟩ := c_begin (sc := sc) (pp := pp) c h ci.u (by omega)
  have I1 := ci.moveS f1
  obtain ⟨h2, e2, f2, s2⟩ := r_take (sc := sc) (pp := pp) 136 2 st h1 I1.t I1.S (by omega)
  refine ⟨h2, ?_, f1.trans (f2.S (by simp)), u1.move f2 (by simp), s2⟩
  have I2 := I1.moveS (f2.S (by simp))
  have k0 := X_k0 ci.x
  have k1 := X_k0 I1.x
  have ku := U_k0 ci.u
  have kt := S_k0 I1.t
  have rc := ci.rc
  simp (disch := first | assumption | omega | exact Nat.le_of_ble_eq_true rfl | exact D_k197 (by assumption) | (simp (disch := assumption) only [kdI, kdJ, kdR, D_k197]; done) | (simp only [kdI, kdJ, kdR, *]; done) | fail) only [x_nil, Nat.reduceAdd, x_aload_n0, x_getR, K_117, bindR_some, toL_s, toL_n, ap_n, ap_c, List.map_nil, List.map_cons, List.sum_nil, List.sum_cons, cat_i, cat_r, cat_l, Nat.reduceLeDiff, Nat.zero_le, Nat.le_refl, K_142, x_areturn, L_167_0, L_167_11, L_167_22, ofInt1, ofIntm1, kdI, hNI, hRI, hJI, kdJ, hNJ, hIJ, hRJ, kdR, hNR, hIR, hJR, hII, hJJ, hRR, n_clamp, z_lt, z_ge, z_eq, z_le, z_gt, o_eq, o_lt, o_gt, o_le, o_ge, m_eq, n_eq, n_le, n_lt, n_sub1, nI_1, ol_add, nI_add, z_cl, o_cl, z_pos, o_pos, o_z, z_o, m_z, N_le, N_lt, ne_eq, not_true_eq_false, not_false_eq_true, if_true, if_false, and_self, or_self, true_or, or_true, and_true, true_and, and_false, false_and, or_false, false_or, Nat.reduceEqDiff, Nat.le_refl, Nat.reduceLT, Nat.reduceLeDiff, X_k0 ci.x, X_k1 ci.x, X_k12 ci.x, X_k13 ci.x, X_k189 ci.x, X_k190 ci.x, X_k191 ci.x, X_k192 ci.x, X_k193 ci.x, X_n1 ci.x, X_n13 ci.x, X_n191 ci.x, X_n193 ci.x, X_r0_0 ci.x, X_r0_1 ci.x, X_r0_2 ci.x, X_r0_3 ci.x, X_r0_4 ci.x, X_r0_5 ci.x, X_r0_6 ci.x, X_r0_9 ci.x, X_r0_10 ci.x, X_r12_0 ci.x, X_r189_0 ci.x, X_r189_1 ci.x, X_r190_0 ci.x, X_r190_1 ci.x, X_r192_0 ci.x, X_r192_1 ci.x, X_k0 I1.x, X_k1 I1.x, X_k12 I1.x, X_k13 I1.x, X_k189 I1.x, X_k190 I1.x, X_k191 I1.x, X_k192 I1.x, X_k193 I1.x, X_n1 I1.x, X_n13 I1.x, X_n191 I1.x, X_n193 I1.x, X_r0_0 I1.x, X_r0_1 I1.x, X_r0_2 I1.x, X_r0_3 I1.x, X_r0_4 I1.x, X_r0_5 I1.x, X_r0_6 I1.x, X_r0_9 I1.x, X_r0_10 I1.x, X_r12_0 I1.x, X_r189_0 I1.x, X_r189_1 I1.x, X_r190_0 I1.x, X_r190_1 I1.x, X_r192_0 I1.x, X_r192_1 I1.x, X_k0 I2.x, X_k1 I2.x, X_k12 I2.x, X_k13 I2.x, X_k189 I2.x, X_k190 I2.x, X_k191 I2.x, X_k192 I2.x, X_k193 I2.x, X_n1 I2.x, X_n13 I2.x, X_n191 I2.x, X_n193 I2.x, X_r0_0 I2.x, X_r0_1 I2.x, X_r0_2 I2.x, X_r0_3 I2.x, X_r0_4 I2.x, X_r0_5 I2.x, X_r0_6 I2.x, X_r0_9 I2.x, X_r0_10 I2.x, X_r12_0 I2.x, X_r189_0 I2.x, X_r189_1 I2.x, X_r190_0 I2.x, X_r190_1 I2.x, X_r192_0 I2.x, X_r192_1 I2.x, rc, e1, e2]
end T28
