-- the beginning: the tapes are empty
theorem zC_t0 : ∀ j, j < 100 → hI zC 198 (0 + j) = 0 ∧ hI zC 1 (0 + j) = 0 := by decide +kernel
theorem zC_t1 : ∀ j, j < 100 → hI zC 198 (100 + j) = 0 ∧ hI zC 1 (100 + j) = 0 := by decide +kernel
theorem zC_t2 : ∀ j, j < 100 → hI zC 198 (200 + j) = 0 ∧ hI zC 1 (200 + j) = 0 := by decide +kernel
theorem zC_t3 : ∀ j, j < 100 → hI zC 198 (300 + j) = 0 ∧ hI zC 1 (300 + j) = 0 := by decide +kernel
theorem zC_t4 : ∀ j, j < 100 → hI zC 198 (400 + j) = 0 ∧ hI zC 1 (400 + j) = 0 := by decide +kernel
theorem zC_t5 : ∀ j, j < 100 → hI zC 198 (500 + j) = 0 ∧ hI zC 1 (500 + j) = 0 := by decide +kernel
theorem zC_t6 : ∀ j, j < 100 → hI zC 198 (600 + j) = 0 ∧ hI zC 1 (600 + j) = 0 := by decide +kernel
theorem zC_t : ∀ j, j < 700 → hI zC 198 j = 0 ∧ hI zC 1 j = 0 := by
  intro j hj
  rcases (by omega : j < 100 ∨ (100 ≤ j ∧ j < 200) ∨ (200 ≤ j ∧ j < 300) ∨ (300 ≤ j ∧ j < 400) ∨ (400 ≤ j ∧ j < 500) ∨ (500 ≤ j ∧ j < 600) ∨ (600 ≤ j ∧ j < 700)) with q | q | q | q | q | q | q
  · have := zC_t0 (j - 0) (by omega)
    rw [show 0 + (j - 0) = j by omega] at this
    exact this
  · have := zC_t1 (j - 100) (by omega)
    rw [show 100 + (j - 100) = j by omega] at this
    exact this
  · have := zC_t2 (j - 200) (by omega)
    rw [show 200 + (j - 200) = j by omega] at this
    exact this
  · have := zC_t3 (j - 300) (by omega)
    rw [show 300 + (j - 300) = j by omega] at this
    exact this
  · have := zC_t4 (j - 400) (by omega)
    rw [show 400 + (j - 400) = j by omega] at this
    exact this
  · have := zC_t5 (j - 500) (by omega)
    rw [show 500 + (j - 500) = j by omega] at this
    exact this
  · have := zC_t6 (j - 600) (by omega)
    rw [show 600 + (j - 600) = j by omega] at this
    exact this
