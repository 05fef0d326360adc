-- the beginning: both are made
def e0 : Hp := (0, fun _ => 0, fun _ => 0, fun _ _ => 0, fun _ _ => 0, fun _ _ => 0)
def heapOf (x : Rs) : Hp := match x with
  | some (h, _) => h
  | none => e0
def okN (x : Rs) : Bool := match x with
  | some (_, none) => true
  | _ => false
theorem okN_eq {x : Rs} (h : okN x = true) : x = some (heapOf x, none) := by
  unfold okN at h
  split at h
  · rfl
  · cases h
def rA : Rs := mr0 400 11 0 [some (.ref 0)] [] 0 0 (alloc e0 11 0)
def zA : Hp := heapOf rA
def rB : Rs := mr0 400 18 0 [some (.ref 197)] [] 0 0 (alloc zA 12 0)
def zB : Hp := heapOf rB
def zC : Hp := alloc zB 14 1
theorem rA_ok : okN rA = true ∧ hn zA = 197 := by decide +kernel
theorem rB_ok : okN rB = true ∧ hn zB = 239 := by decide +kernel
theorem zC_X : isX zC := by unfold isX; decide +kernel
def AL : List (Nat × Nat) → Prop
  | [] => True
  | [q] => q.1 = q.2
  | q :: r :: t => q.1 = q.2 ∧ AL (r :: t)
theorem AL_of : ∀ (l : List (Nat × Nat)), (l.all fun q => q.1 == q.2) = true → AL l
  | [], _ => trivial
  | [q], h => by
    simp only [List.all_cons, List.all_nil, Bool.and_true, beq_iff_eq] at h
    exact h
  | q :: r :: t, h => by
    simp only [List.all_cons, Bool.and_eq_true, beq_iff_eq] at h
    exact ⟨h.1, AL_of (r :: t) (by simp only [List.all_cons, Bool.and_eq_true, beq_iff_eq]; exact h.2)⟩
theorem alC1 (z : Hp) (h : AL [(kd z 141, 0), (kd z (141 + 1), 4), (kd z (141 + 2), 13), (kd z (141 + 3), 4), (kd z (141 + 4), 13), (kd z (141 + 5), 4), (kd z (141 + 6), 13), (kd z (141 + 7), 13), (kd z (141 + 8), 13), (kd z (141 + 9), 13), (kd z (141 + 10), 13), (kd z (141 + 11), 13), (kd z (141 + 12), 13), (kd z (141 + 13), 13), (kd z (141 + 14), 13), (kd z (141 + 15), 13), (kd z (141 + 16), 13), (kd z (141 + 17), 13), (kd z (141 + 18), 2), (kd z (141 + 19), 13), (kd z (141 + 20), 13), (kd z (141 + 21), 2), (kd z (141 + 22), 13), (kd z (141 + 23), 13), (hN z (141 + 2), 8), (hN z (141 + 4), 8), (hN z (141 + 6), 8), (hN z (141 + 7), 5), (hN z (141 + 8), 5), (hN z (141 + 9), 5), (hN z (141 + 10), 5), (hN z (141 + 11), 8), (hN z (141 + 12), 8), (hN z (141 + 13), 8), (hN z (141 + 14), 8), (hN z (141 + 15), 10), (hN z (141 + 16), 10), (hN z (141 + 17), 10), (hN z (141 + 19), 64), (hN z (141 + 20), 64), (hN z (141 + 22), 64), (hN z (141 + 23), 64), (hR z 141 0, 141 + 2), (hR z 141 1, 141 + 4), (hR z 141 2, 141 + 6), (hR z 141 3, 141 + 8), (hR z 141 4, 141 + 9), (hR z 141 5, 141 + 10), (hR z 141 6, 141 + 11), (hR z 141 7, 141 + 12), (hR z 141 8, 141 + 13), (hR z 141 9, 141 + 14), (hR z 141 10, 141 + 15), (hR z 141 11, 141 + 16), (hR z 141 12, 141 + 17), (hR z 141 13, 141 + 18), (hR z 141 14, 141 + 19), (hR z 141 15, 141 + 22), (hR z (141 + 1) 0, 141 + 3), (hR z (141 + 3) 0, 141 + 5), (hR z (141 + 5) 0, 141 + 7), (hR z (141 + 18) 0, 141 + 20), (hR z (141 + 18) 1, 141 + 21), (hR z (141 + 21) 0, 141 + 23), (hR z (141 + 21) 1, 141 + 24)]) : isC z 141 := h
theorem zC_C1 : isC zC 141 := alC1 zC (AL_of _ (by decide +kernel))
theorem alC2 (z : Hp) (h : AL [(kd z 165, 0), (kd z (165 + 1), 4), (kd z (165 + 2), 13), (kd z (165 + 3), 4), (kd z (165 + 4), 13), (kd z (165 + 5), 4), (kd z (165 + 6), 13), (kd z (165 + 7), 13), (kd z (165 + 8), 13), (kd z (165 + 9), 13), (kd z (165 + 10), 13), (kd z (165 + 11), 13), (kd z (165 + 12), 13), (kd z (165 + 13), 13), (kd z (165 + 14), 13), (kd z (165 + 15), 13), (kd z (165 + 16), 13), (kd z (165 + 17), 13), (kd z (165 + 18), 2), (kd z (165 + 19), 13), (kd z (165 + 20), 13), (kd z (165 + 21), 2), (kd z (165 + 22), 13), (kd z (165 + 23), 13), (hN z (165 + 2), 8), (hN z (165 + 4), 8), (hN z (165 + 6), 8), (hN z (165 + 7), 5), (hN z (165 + 8), 5), (hN z (165 + 9), 5), (hN z (165 + 10), 5), (hN z (165 + 11), 8), (hN z (165 + 12), 8), (hN z (165 + 13), 8), (hN z (165 + 14), 8), (hN z (165 + 15), 10), (hN z (165 + 16), 10), (hN z (165 + 17), 10), (hN z (165 + 19), 64), (hN z (165 + 20), 64), (hN z (165 + 22), 64), (hN z (165 + 23), 64), (hR z 165 0, 165 + 2), (hR z 165 1, 165 + 4), (hR z 165 2, 165 + 6), (hR z 165 3, 165 + 8), (hR z 165 4, 165 + 9), (hR z 165 5, 165 + 10), (hR z 165 6, 165 + 11), (hR z 165 7, 165 + 12), (hR z 165 8, 165 + 13), (hR z 165 9, 165 + 14), (hR z 165 10, 165 + 15), (hR z 165 11, 165 + 16), (hR z 165 12, 165 + 17), (hR z 165 13, 165 + 18), (hR z 165 14, 165 + 19), (hR z 165 15, 165 + 22), (hR z (165 + 1) 0, 165 + 3), (hR z (165 + 3) 0, 165 + 5), (hR z (165 + 5) 0, 165 + 7), (hR z (165 + 18) 0, 165 + 20), (hR z (165 + 18) 1, 165 + 21), (hR z (165 + 21) 0, 165 + 23), (hR z (165 + 21) 1, 165 + 24)]) : isC z 165 := h
theorem zC_C2 : isC zC 165 := alC2 zC (AL_of _ (by decide +kernel))
theorem zC_S : ∀ i, i < 20 → isS zC (14 + 5 * i) := by unfold isS; decide +kernel
theorem zC_S2 : isS zC 2 ∧ isS zC 7 ∧ isS zC 136 := by unfold isS; decide +kernel
theorem zC_N : isN zC 114 := by unfold isN; decide +kernel
theorem zC_Q : isQ zC 121 := by unfold isQ; decide +kernel
theorem zC_U : isU zC 194 := by unfold isU; decide +kernel
theorem alD (z : Hp) (h : AL [(kd z 197, 12), (kd z 198, 13), (hN z 198, 700), (hR z 197 0, 199), (kd z 199, 13), (hN z 199, 124), (hR z 197 3, 200), (kd z 200, 15), (hN z 200, 2), (hR z 197 22, 201), (kd z 201, 13), (hN z 201, 4), (hR z 197 23, 202), (kd z 202, 13), (hN z 202, 16), (hR z 197 24, 203), (kd z 203, 13), (hN z 203, 10), (hR z 197 25, 204), (kd z 204, 13), (hN z 204, 10), (hR z 197 26, 205), (kd z 205, 13), (hN z 205, 10), (hR z 197 27, 206), (kd z 206, 13), (hN z 206, 10), (hR z 197 28, 207), (kd z 207, 13), (hN z 207, 10), (hR z 197 29, 208), (kd z 208, 13), (hN z 208, 16), (hR z 197 30, 209), (kd z 209, 13), (hN z 209, 16), (hR z 197 31, 210), (kd z 210, 13), (hN z 210, 16), (hR z 197 32, 211), (kd z 211, 13), (hN z 211, 16), (hR z 197 33, 212), (kd z 212, 13), (hN z 212, 16), (hR z 197 34, 213), (kd z 213, 13), (hN z 213, 20), (hR z 197 35, 214), (kd z 214, 13), (hN z 214, 20), (hR z 197 36, 215), (kd z 215, 13), (hN z 215, 20), (hR z 197 37, 216), (kd z 216, 15), (hN z 216, 4), (hR z 197 38, 217), (kd z 217, 13), (hN z 217, 4), (hR z 197 39, 218), (kd z 218, 13), (hN z 218, 4), (hR z 197 40, 219), (kd z 219, 13), (hN z 219, 128), (hR z 197 41, 220), (kd z 220, 13), (hN z 220, 128), (hR z 197 42, 221), (kd z 221, 13), (hN z 221, 128), (hR z 197 43, 222), (kd z 222, 13), (hN z 222, 96), (hR z 197 44, 223), (kd z 223, 13), (hN z 223, 96), (hR z 197 45, 224), (kd z 224, 14), (hN z 224, 7), (hR z 197 52, 225), (kd z 225, 14), (hN z 225, 64), (hR z 197 53, 226), (kd z 226, 13), (hN z 226, 10), (hR z 197 55, 227), (kd z 227, 13), (hN z 227, 10), (hR z 197 56, 228), (kd z 228, 13), (hN z 228, 10), (hR z 197 57, 229), (kd z 229, 13), (hN z 229, 10), (hR z 197 58, 230), (kd z 230, 13), (hN z 230, 2), (hR z 197 59, 231), (kd z 231, 13), (hN z 231, 2), (hR z 197 68, 232), (kd z 232, 13), (hN z 232, 81), (hR z 197 69, 233), (kd z 233, 13), (hN z 233, 81), (hR z 197 70, 234), (kd z 234, 13), (hN z 234, 96), (hR z 197 73, 235), (kd z 235, 15), (hN z 235, 24), (hR z 197 74, 236), (kd z 236, 13), (hN z 236, 440), (hR z 197 76, 237), (kd z 237, 14), (hN z 237, 20), (hR z 197 77, 238), (kd z 238, 13), (hN z 238, 22), (hR z 197 79, 239)]) : isD z := h
theorem zC_D : isD zC := alD zC (AL_of _ (by decide +kernel))
theorem zC_XW : XW zC := by unfold XW; decide +kernel
theorem zC_YW : YW zC := by unfold YW; decide +kernel
theorem zC_v : (hI zC 142 2 = 0 ∧ hI zC 144 2 = 0 ∧ hI zC 146 2 = 0 ∧ hI zC 141 16 = 0) ∧ (hI zC 159 2 = 0 ∧ hI zC 162 2 = 0 ∧ hI zC 159 3 = 0 ∧ hI zC 162 3 = 0) ∧ (hI zC 141 17 = 9 ∧ hI zC 141 18 = 0 ∧ hI zC 141 19 = 0) ∧ (hR zC 0 7 = 142 ∧ hR zC 0 8 = 166) ∧ (hI zC 197 12 = 0 ∧ hI zC 197 13 = 0 ∧ hI zC 197 14 = 0 ∧ hI zC 197 15 = 0 ∧ hI zC 197 16 = 0) ∧ (hI zC 201 0 = 9 ∧ hI zC 201 1 = 0 ∧ hI zC 216 0 = 0 ∧ hI zC 216 1 = 0) ∧ (hI zC 230 0 = hI zC 2 4 ∧ hJ zC 197 61 = (hI zC 2 6).toInt64 ∧ hI zC 197 60 = hI zC 2 5) ∧ (hI zC 197 78 = 0 ∧ hI zC 0 14 = 0 ∧ hI zC 197 75 = 0 ∧ hI zC 12 1 = 0 ∧ hI zC 12 2 = 0) ∧ (hI zC 114 6 = 0 ∧ hI zC 114 7 = -1 ∧ hI zC 197 71 = 0 ∧ hI zC 197 72 = -1) ∧ (hI zC 197 1 = 0 ∧ hI zC 0 11 = 0 ∧ hI zC 197 4 = hI zC 0 12 ∧ hI zC 197 5 = hI zC 0 13) ∧ (hI zC 2 7 = 0 ∧ hI zC 2 4 = 0) ∧ kd zC 239 = 14 ∧ hN zC 239 = 1 ∧ hn zC = 240 := by decide +kernel
