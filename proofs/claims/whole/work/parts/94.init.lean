-- the beginning: both are made
def e0 : Hp := (0, fun _ => 0, fun _ => 0, fun _ _ => 0, fun _ _ => 0, fun _ _ => 0)
def heapOf (x : Rs) : Hp := match x with
  | some (h, _) => h
  | none => e0
def okN (x : Rs) : Bool := match x with
  | some (_, none) => true
  | _ => false
theorem okN_eq {x : Rs} (h : okN x = true) : x = some (heapOf x, none) := by
  unfold okN at h
  split at h
  · rfl
  · cases h
def rA : Rs := mr0 400 11 0 [some (.ref 0)] [] 0 0 (alloc e0 11 0)
def zA : Hp := heapOf rA
def rB : Rs := mr0 400 18 0 [some (.ref 197)] [] 0 0 (alloc zA 12 0)
def zB : Hp := heapOf rB
def zC : Hp := alloc zB 14 1
theorem rA_ok : okN rA = true ∧ hn zA = 197 := by decide +kernel
theorem rB_ok : okN rB = true ∧ hn zB = 239 := by decide +kernel
theorem zC_X : isX zC := by unfold isX; decide +kernel
def AL : List (Nat × Nat) → Prop
  | [] => True
  | [q] => q.1 = q.2
  | q :: r :: t => q.1 = q.2 ∧ AL (r :: t)
theorem AL_of : ∀ (l : List (Nat × Nat)), (l.all fun q => q.1 == q.2) = true → AL l
  | [], _ => trivial
  | [q], h => by
    simp only [List.all_cons, List.all_nil, Bool.and_true, beq_iff_eq] at h
    exact h
  | q :: r :: t, h => by
    simp only [List.all_cons, Bool.and_eq_true, beq_iff_eq] at h
    exact ⟨h.1, AL_of (r :: t) (by simp only [List.all_cons, Bool.and_eq_true, beq_iff_eq]; exact h.2)⟩
theorem alC1 (z : Hp) (h : AL [(kd z 141, 0), (kd z (141 + 1), 4), (kd z (141 + 2), 13), (kd z (141 + 3), 4), (kd z (141 + 4), 13), (kd z (141 + 5), 4), (kd z (141 + 6), 13), (kd z (141 + 7), 13), (kd z (141 + 8), 13), (kd z (141 + 9), 13), (kd z (141 + 10), 13), (kd z (141 + 11), 13), (kd z (141 + 12), 13), (kd z (141 + 13), 13), (kd z (141 + 14), 13), (kd z (141 + 15), 13), (kd z (141 + 16), 13), (kd z (141 + 17), 13), (kd z (141 + 18), 2), (kd z (141 + 19), 13), (kd z (141 + 20), 13), (kd z (141 + 21), 2), (kd z (141 + 22), 13), (kd z (141 + 23), 13), (hN z (141 + 2), 8), (hN z (141 + 4), 8), (hN z (141 + 6), 8), (hN z (141 + 7), 5), (hN z (141 + 8), 5), (hN z (141 + 9), 5), (hN z (141 + 10), 5), (hN z (141 + 11), 8), (hN z (141 + 12), 8), (hN z (141 + 13), 8), (hN z (141 + 14), 8), (hN z (141 + 15), 10), (hN z (141 + 16), 10), (hN z (141 + 17), 10), (hN z (141 + 19), 64), (hN z (141 + 20), 64), (hN z (141 + 22), 64), (hN z (141 + 23), 64), (hR z 141 0, 141 + 2), (hR z 141 1, 141 + 4), (hR z 141 2, 141 + 6), (hR z 141 3, 141 + 8), (hR z 141 4, 141 + 9), (hR z 141 5, 141 + 10), (hR z 141 6, 141 + 11), (hR z 141 7, 141 + 12), (hR z 141 8, 141 + 13), (hR z 141 9, 141 + 14), (hR z 141 10, 141 + 15), (hR z 141 11, 141 + 16), (hR z 141 12, 141 + 17), (hR z 141 13, 141 + 18), (hR z 141 14, 141 + 19), (hR z 141 15, 141 + 22), (hR z (141 + 1) 0, 141 + 3), (hR z (141 + 3) 0, 141 + 5), (hR z (141 + 5) 0, 141 + 7), (hR z (141 + 18) 0, 141 + 20), (hR z (141 + 18) 1, 141 + 21), (hR z (141 + 21) 0, 141 + 23), (hR z (141 + 21) 1, 141 + 24)]) : isC z 141 := h
theorem zC_C1 : isC zC 141 := alC1 zC (AL_of _ (by decide +kernel))
theorem alC2 (z : Hp) (h : AL [(kd z 165, 0), (kd z (165 + 1), 4), (kd z (165 + 2), 13), (kd z (165 + 3), 4), (kd z (165 + 4), 13), (kd z (165 + 5), 4), (kd z (165 + 6), 13), (kd z (165 + 7), 13), (kd z (165 + 8), 13), (kd z (165 + 9), 13), (kd z (165 + 10), 13), (kd z (165 + 11), 13), (kd z (165 + 12), 13), (kd z (165 + 13), 13), (kd z (165 + 14), 13), (kd z (165 + 15), 13), (kd z (165 + 16), 13), (kd z (165 + 17), 13), (kd z (165 + 18), 2), (kd z (165 + 19), 13), (kd z (165 + 20), 13), (kd z (165 + 21), 2), (kd z (165 + 22), 13), (kd z (165 + 23), 13), (hN z (165 + 2), 8), (hN z (165 + 4), 8), (hN z (165 + 6), 8), (hN z (165 + 7), 5), (hN z (165 + 8), 5), (hN z (165 + 9), 5), (hN z (165 + 10), 5), (hN z (165 + 11), 8), (hN z (165 + 12), 8), (hN z (165 + 13), 8), (hN z (165 + 14), 8), (hN z (165 + 15), 10), (hN z (165 + 16), 10), (hN z (165 + 17), 10), (hN z (165 + 19), 64), (hN z (165 + 20), 64), (hN z (165 + 22), 64), (hN z (165 + 23), 64), (hR z 165 0, 165 + 2), (hR z 165 1, 165 + 4), (hR z 165 2, 165 + 6), (hR z 165 3, 165 + 8), (hR z 165 4, 165 + 9), (hR z 165 5, 165 + 10), (hR z 165 6, 165 + 11), (hR z 165 7, 165 + 12), (hR z 165 8, 165 + 13), (hR z 165 9, 165 + 14), (hR z 165 10, 165 + 15), (hR z 165 11, 165 + 16), (hR z 165 12, 165 + 17), (hR z 165 13, 165 + 18), (hR z 165 14, 165 + 19), (hR z 165 15, 165 + 22), (hR z (165 + 1) 0, 165 + 3), (hR z (165 + 3) 0, 165 + 5), (hR z (165 + 5) 0, 165 + 7), (hR z (165 + 18) 0, 165 + 20), (hR z (165 + 18) 1, 165 + 21), (hR z (165 + 21) 0, 165 + 23), (hR z (165 + 21) 1, 165 + 24)]) : isC z 165 := h
theorem zC_C2 : isC zC 165 := alC2 zC (AL_of _ (by decide +kernel))
theorem zC_S : ∀ i, i < 20 → isS zC (14 + 5 * i) := by unfold isS; decide +kernel
theorem zC_S2 : isS zC 2 ∧ isS zC 7 ∧ isS zC 136 := by unfold isS; decide +kernel
theorem zC_N : isN zC 114 := by unfold isN; decide +kernel
theorem zC_Q : isQ zC 121 := by unfold isQ; decide +kernel
theorem zC_U : isU zC 194 := by unfold isU; decide +kernel
theorem alD (z : Hp) (h : AL [(kd z 197, 12), (kd z 198, 13), (hN z 198, 700), (hR z 197 0, 199), (kd z 199, 13), (hN z 199, 124), (hR z 197 3, 200), (kd z 200, 15), (hN z 200, 2), (hR z 197 22, 201), (kd z 201, 13), (hN z 201, 4), (hR z 197 23, 202), (kd z 202, 13), (hN z 202, 16), (hR z 197 24, 203), (kd z 203, 13), (hN z 203, 10), (hR z 197 25, 204), (kd z 204, 13), (hN z 204, 10), (hR z 197 26, 205), (kd z 205, 13), (hN z 205, 10), (hR z 197 27, 206), (kd z 206, 13), (hN z 206, 10), (hR z 197 28, 207), (kd z 207, 13), (hN z 207, 10), (hR z 197 29, 208), (kd z 208, 13), (hN z 208, 16), (hR z 197 30, 209), (kd z 209, 13), (hN z 209, 16), (hR z 197 31, 210), (kd z 210, 13), (hN z 210, 16), (hR z 197 32, 211), (kd z 211, 13), (hN z 211, 16), (hR z 197 33, 212), (kd z 212, 13), (hN z 212, 16), (hR z 197 34, 213), (kd z 213, 13), (hN z 213, 20), (hR z 197 35, 214), (kd z 214, 13), (hN z 214, 20), (hR z 197 36, 215), (kd z 215, 13), (hN z 215, 20), (hR z 197 37, 216), (kd z 216, 15), (hN z 216, 4), (hR z 197 38, 217), (kd z 217, 13), (hN z 217, 4), (hR z 197 39, 218), (kd z 218, 13), (hN z 218, 4), (hR z 197 40, 219), (kd z 219, 13), (hN z 219, 128), (hR z 197 41, 220), (kd z 220, 13), (hN z 220, 128), (hR z 197 42, 221), (kd z 221, 13), (hN z 221, 128), (hR z 197 43, 222), (kd z 222, 13), (hN z 222, 96), (hR z 197 44, 223), (kd z 223, 13), (hN z 223, 96), (hR z 197 45, 224), (kd z 224, 14), (hN z 224, 7), (hR z 197 52, 225), (kd z 225, 14), (hN z 225, 64), (hR z 197 53, 226), (kd z 226, 13), (hN z 226, 10), (hR z 197 55, 227), (kd z 227, 13), (hN z 227, 10), (hR z 197 56, 228), (kd z 228, 13), (hN z 228, 10), (hR z 197 57, 229), (kd z 229, 13), (hN z 229, 10), (hR z 197 58, 230), (kd z 230, 13), (hN z 230, 2), (hR z 197 59, 231), (kd z 231, 13), (hN z 231, 2), (hR z 197 68, 232), (kd z 232, 13), (hN z 232, 81), (hR z 197 69, 233), (kd z 233, 13), (hN z 233, 81), (hR z 197 70, 234), (kd z 234, 13), (hN z 234, 96), (hR z 197 73, 235), (kd z 235, 15), (hN z 235, 24), (hR z 197 74, 236), (kd z 236, 13), (hN z 236, 440), (hR z 197 76, 237), (kd z 237, 14), (hN z 237, 20), (hR z 197 77, 238), (kd z 238, 13), (hN z 238, 22), (hR z 197 79, 239)]) : isD z := h
theorem zC_D : isD zC := alD zC (AL_of _ (by decide +kernel))
theorem zC_XW : XW zC := by unfold XW; decide +kernel
theorem zC_YW : YW zC := by unfold YW; decide +kernel
theorem zC_v : (hI zC 142 2 = 0 ∧ hI zC 144 2 = 0 ∧ hI zC 146 2 = 0 ∧ hI zC 141 16 = 0) ∧ (hI zC 159 2 = 0 ∧ hI zC 162 2 = 0 ∧ hI zC 159 3 = 0 ∧ hI zC 162 3 = 0) ∧ (hI zC 141 17 = 9 ∧ hI zC 141 18 = 0 ∧ hI zC 141 19 = 0) ∧ (hR zC 0 7 = 142 ∧ hR zC 0 8 = 166) ∧ (hI zC 197 12 = 0 ∧ hI zC 197 13 = 0 ∧ hI zC 197 14 = 0 ∧ hI zC 197 15 = 0 ∧ hI zC 197 16 = 0) ∧ (hI zC 201 0 = 9 ∧ hI zC 201 1 = 0 ∧ hI zC 216 0 = 0 ∧ hI zC 216 1 = 0) ∧ (hI zC 230 0 = hI zC 2 4 ∧ hJ zC 197 61 = (hI zC 2 6).toInt64 ∧ hI zC 197 60 = hI zC 2 5) ∧ (hI zC 197 78 = 0 ∧ hI zC 0 14 = 0 ∧ hI zC 197 75 = 0 ∧ hI zC 12 1 = 0 ∧ hI zC 12 2 = 0) ∧ (hI zC 114 6 = 0 ∧ hI zC 114 7 = -1 ∧ hI zC 197 71 = 0 ∧ hI zC 197 72 = -1) ∧ (hI zC 197 1 = 0 ∧ hI zC 0 11 = 0 ∧ hI zC 197 4 = hI zC 0 12 ∧ hI zC 197 5 = hI zC 0 13) ∧ (hI zC 2 7 = 0 ∧ hI zC 2 4 = 0) ∧ kd zC 239 = 14 ∧ hN zC 239 = 1 ∧ hn zC = 240 := by decide +kernel
theorem zC_t : ∀ j, j < 700 → hI zC 198 j = 0 ∧ hI zC 1 j = 0 := by decide +kernel
theorem repS_self {h : Hp} {s : Nat} (i : isS h s) : repS h s (fun r => hI h (s + r)) := ⟨i, fun _ _ => rfl, fun _ _ => rfl, fun _ _ => rfl, fun _ _ => rfl, rfl, rfl, rfl, rfl⟩
theorem zC_wf : wfC (fun r => hI zC (141 + r)) := by
  obtain ⟨⟨v1, v2, v3, v4⟩, ⟨v5, v6, v7, v8⟩, ⟨v9, v10, v11⟩, -⟩ := zC_v
  have f : nfO (fun r => hI zC (141 + r)) = 0 := by show nO (hI zC 142 2) = 0; rw [v1]; rfl
  have p : npO (fun r => hI zC (141 + r)) = 0 := by show nO (hI zC 144 2) = 0; rw [v2]; rfl
  have q : nqO (fun r => hI zC (141 + r)) = 0 := by show nO (hI zC 146 2) = 0; rw [v3]; rfl
  have t : ntO (fun r => hI zC (141 + r)) = 0 := by show nO (hI zC 141 16) = 0; rw [v4]; rfl
  unfold wfC
  rw [f, p, q, t]
  refine ⟨⟨v1, by omega⟩, ⟨v2, by omega⟩, ⟨v3, by omega⟩, ⟨v4, by omega⟩, ?_, ?_, fun q hq => absurd hq (by omega), fun q hq => absurd hq (by omega), fun q hq => absurd hq (by omega), ⟨9, by omega, v9⟩, ⟨0, by omega, v10⟩, 0, by omega, v11⟩
  · unfold okL
    show hI zC 159 2 = nI (nO (hI zC 159 2)) ∧ nO (hI zC 159 2) ≤ 64 ∧ ∀ j, j < nO (hI zC 159 2) → _
    rw [v5, show nO (0 : Int32) = 0 from rfl]
    exact ⟨rfl, by omega, fun j hj => absurd hj (by omega)⟩
  · unfold okL
    show hI zC 162 2 = nI (nO (hI zC 162 2)) ∧ nO (hI zC 162 2) ≤ 64 ∧ ∀ j, j < nO (hI zC 162 2) → _
    rw [v6, show nO (0 : Int32) = 0 from rfl]
    exact ⟨rfl, by omega, fun j hj => absurd hj (by omega)⟩
theorem zC_CI : CI zC 141 165 (fun r => hI zC (141 + r)) (fun r => hI zC (2 + r)) (fun r => hI zC (7 + r)) (fun i r => hI zC (14 + 5 * i + r)) (fun r => hI zC (114 + r)) (fun r => hI zC r) := ⟨zC_X, Or.inl ⟨rfl, rfl⟩, zC_v.2.2.2.1, ⟨⟨zC_C1, fun _ _ => rfl⟩, zC_wf⟩, zC_C2, repS_self zC_S2.1, repS_self zC_S2.2.1, fun i hi => repS_self (zC_S i hi), ⟨zC_N, fun _ _ => rfl⟩, zC_Q, zC_S2.2.2, zC_U, rfl, rfl, rfl⟩
theorem zC_DI : DI zC (fun r => hI zC (141 + r)) (fun r => hI zC (2 + r)) (fun r => hI zC (7 + r)) (fun i r => hI zC (14 + 5 * i + r)) 0 (fun r => hI zC (114 + r)) (fun r => hI zC r) := by
  obtain ⟨⟨v1, v2, v3, v4⟩, ⟨v5, v6, v7, v8⟩, ⟨v9, v10, v11⟩, ⟨v12, v13⟩, ⟨v14, v15, v16, v17, v18⟩, ⟨v19, v20, v21, v22⟩, ⟨v23, v24, v25⟩, ⟨v26, v27, v28, v29, v30⟩, ⟨v31, v32, v33, v34⟩, ⟨v35, v36, v37, v38⟩, -⟩ := zC_v
  have f : nfO (fun r => hI zC (141 + r)) = 0 := by show nO (hI zC 142 2) = 0; rw [v1]; rfl
  have p : npO (fun r => hI zC (141 + r)) = 0 := by show nO (hI zC 144 2) = 0; rw [v2]; rfl
  have q : nqO (fun r => hI zC (141 + r)) = 0 := by show nO (hI zC 146 2) = 0; rw [v3]; rfl
  have t : ntO (fun r => hI zC (141 + r)) = 0 := by show nO (hI zC 141 16) = 0; rw [v4]; rfl
  unfold DI repE repB repN
  rw [f, p, q, t]
  refine ⟨⟨zC_D, ⟨v14.trans v1.symm, v15.trans v2.symm, v16.trans v3.symm, v17.trans v4.symm, v18.trans v11.symm⟩, ⟨v19.trans v9.symm, v20.trans v10.symm⟩, fun i hi => absurd hi (by omega), fun i hi => absurd hi (by omega), fun i hi => absurd hi (by omega), fun i hi => absurd hi (by omega), ⟨v21.trans v7.symm, Or.inl v7⟩, ⟨v22.trans v8.symm, Or.inl v8⟩⟩, ⟨fun i hi => absurd hi (by omega), v23, v24⟩, v25, ⟨v26.trans v27.symm, fun z => absurd v27 z⟩, ⟨v28, fun i hi => absurd hi (by omega)⟩, ⟨v33.trans v31.symm, v34.trans v32.symm, fun k hk => ?_⟩, fun j hj => (zC_t j hj).1.trans (zC_t j hj).2.symm, v35.trans v36.symm, v37, v38⟩
  exfalso
  have hk' : k < nO (hI zC 114 6) := hk
  rw [v31] at hk'
  exact absurd hk' (by rw [show nO (0 : Int32) = 0 from rfl]; omega)
theorem zC_GW : GW zC zC 0 := by
  obtain ⟨⟨v1, v2, v3, v4⟩, ⟨v5, v6, v7, v8⟩, ⟨v9, v10, v11⟩, ⟨v12, v13⟩, ⟨v14, v15, v16, v17, v18⟩, ⟨v19, v20, v21, v22⟩, ⟨v23, v24, v25⟩, ⟨v26, v27, v28, v29, v30⟩, ⟨v31, v32, v33, v34⟩, ⟨v35, v36, v37, v38⟩, ⟨v39, v40⟩, -⟩ := zC_v
  have p : npO (fun r => hI zC (141 + r)) = 0 := by show nO (hI zC 144 2) = 0; rw [v2]; rfl
  refine ⟨141, 165, _, _, _, _, _, _, _, 0, zC_CI, zC_DI, ⟨by omega, 0, by omega, v29, v30, fun i hi => absurd hi (by omega)⟩, ?_⟩
  unfold wfW wfS wfK lostB
  rw [p]
  refine ⟨⟨fun i hi => absurd hi (by omega), v39, fun i hi => absurd hi (by omega), 0, by omega, v40⟩, Or.inl v27, fun z => absurd v27 z, fun i hi => absurd hi (by omega), ⟨?_, Or.inl v32, fun k hk => ?_⟩, ⟨0, by omega, v36⟩, fun j hj => ⟨0, by omega, (zC_t j hj).2⟩⟩
  · show hI zC 114 6 = nI (nO (hI zC 114 6)) ∧ nO (hI zC 114 6) ≤ 24
    rw [v31]
    exact ⟨rfl, by rw [show nO (0 : Int32) = 0 from rfl]; omega⟩
  · exfalso
    have hk' : k < nO (hI zC 114 6) := hk
    rw [v31] at hk'
    exact absurd hk' (by rw [show nO (0 : Int32) = 0 from rfl]; omega)
