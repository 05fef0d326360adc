-- the way: what is looked for
theorem cU_bit (A : Nat → Prop) : ∀ n k, (cU A n).testBit k = true ↔ (k < n ∧ ¬ A k) := by
  intro n
  induction n with
  | zero => intro k; rw [show cU A 0 = 0 from rfl, Nat.zero_testBit]; simp
  | succ n ih =>
    intro k
    have lt := cU_lt A n
    rw [cU_s]
    by_cases a : A n
    · rw [if_pos a, ih k]
      constructor
      · rintro ⟨x, y⟩; exact ⟨by omega, y⟩
      · rintro ⟨x, y⟩
        refine ⟨?_, y⟩
        by_cases e : k = n
        · subst e; exact absurd a y
        · omega
    · rw [if_neg a, Nat.add_comm]
      by_cases e : k = n
      · subst e
        rw [Nat.testBit_two_pow_add_eq, Nat.testBit_lt_two_pow lt]
        simp [a]
      · by_cases l : k < n
        · rw [Nat.testBit_two_pow_add_gt l, ih k]
          constructor
          · rintro ⟨x, y⟩; exact ⟨by omega, y⟩
          · rintro ⟨x, y⟩; exact ⟨l, y⟩
        · have : 2 ^ n + cU A n < 2 ^ k := by
            have := pw_s n
            have := pw_mono (a := n + 1) (b := k) (by omega)
            omega
          rw [Nat.testBit_lt_two_pow this]
          constructor
          · intro q; cases q
          · rintro ⟨x, y⟩; omega
theorem and_nI : ∀ a, a < 32 → ∀ b, b < 32 → nI a &&& nI b = nI (a &&& b) := by decide +kernel
theorem andn_nI : ∀ a, a < 32 → ∀ b, b < 32 → nI a &&& (nI b ^^^ (-1)) = nI (a &&& (b ^^^ 31)) := by decide +kernel
theorem zero_bits : ∀ x, x < 32 → ((x = 0) ↔ ∀ k, k < 5 → x.testBit k = false) := by decide +kernel
theorem b31 : ∀ k, k < 5 → (31 : Nat).testBit k = true := by decide
theorem and32 {a b : Nat} (h : a < 32) : a &&& b < 32 := Nat.lt_of_le_of_lt Nat.and_le_left h
/-- who of the others comes to know it -/
def noOther (co st S : Mx) (o f : Nat) : Prop := ∀ k, k < npO co → ¬ (o.testBit k = true ∧ ¬ isKn st k (nI f) ∧ isKn S k (nI f))
def goodA (co st S : Mx) (o p f : Nat) : Prop := isKn S p (nI f) ∧ noOther co st S o f
noncomputable def kbN (S : Mx) (f n : Nat) : Nat := cU (fun k => ¬ isKn S k (nI f)) n
theorem kbN_lt {S : Mx} {f n : Nat} (h : n ≤ 5) : kbN S f n < 32 := by
  have := cU_lt (fun k => ¬ isKn S k (nI f)) n
  have := pw_mono (a := n) (b := 5) h
  unfold kbN
  omega
theorem others_iff {co st S : Mx} {o f : Nat} (h5 : npO co ≤ 5) (ho : o < 32) : (nI (kbN S f (npO co)) &&& nI (o &&& (kbN st f (npO co) ^^^ 31)) = 0) ↔ noOther co st S o f := by
  have l1 := kbN_lt (S := S) (f := f) h5
  have l2 := kbN_lt (S := st) (f := f) h5
  rw [and_nI _ l1 _ (and32 ho), z_eq (by have := and32 (b := o &&& (kbN st f (npO co) ^^^ 31)) l1; omega), zero_bits _ (and32 l1)]
  unfold noOther
  constructor
  · intro a k hk ⟨q1, q2, q3⟩
    have z := a k (by omega)
    have b1 : (kbN S f (npO co)).testBit k = true := (cU_bit _ _ k).mpr ⟨hk, fun q => q q3⟩
    have b2 : (kbN st f (npO co)).testBit k = false := by
      cases hb : (kbN st f (npO co)).testBit k with
      | false => rfl
      | true => exact absurd ((cU_bit _ _ k).mp hb).2 (fun q => q q2)
    rw [Nat.testBit_and, Nat.testBit_and, Nat.testBit_xor, b1, b2, q1, b31 k (by omega)] at z
    cases z
  · intro a k hk
    cases hb : (kbN S f (npO co) &&& (o &&& (kbN st f (npO co) ^^^ 31))).testBit k with
    | false => rfl
    | true =>
      exfalso
      rw [Nat.testBit_and, Nat.testBit_and, Nat.testBit_xor, b31 k hk] at hb
      simp only [Bool.and_eq_true] at hb
      obtain ⟨c1, c2, c3⟩ := hb
      obtain ⟨kn, c1'⟩ := (cU_bit _ _ k).mp c1
      refine a k kn ⟨c2, fun q => ?_, Classical.not_not.mp c1'⟩
      have : (kbN st f (npO co)).testBit k = true := (cU_bit _ _ k).mpr ⟨kn, fun z => z q⟩
      rw [this] at c3
      cases c3
theorem knowers_kb {S : Mx} {f : Nat} : ∀ {n : Nat}, n ≤ 5 → orN (fun p => ((S 1 p >>> (nI f &&& 31)) &&& 1) <<< (nI p &&& 31)) n = nI (kbN S f n) := by
  intro n
  induction n with
  | zero => intro _; rfl
  | succ n ih =>
    intro hn
    have lt := cU_lt (fun k => ¬ isKn S k (nI f)) n
    unfold kbN at *
    show orN _ n ||| ((S 1 n >>> (nI f &&& 31)) &&& 1) <<< (nI n &&& 31) = _
    rw [ih (by omega), bitSh (show n < 5 by omega), cU_s]
    have e : isOfP (S 1 n) (nI f) = isKn S n (nI f) := rfl
    rw [e]
    by_cases k : isKn S n (nI f)
    · rw [b32_t k, if_neg (by decide), if_neg (fun q => q k)]
      exact or_pow n (by omega) _ lt
    · rw [b32_f k, if_pos rfl, if_pos k, Int32.or_zero]
def tellP (co : Mx) (q f : Nat) : Prop := co 14 q = nI f ∨ ¬ (supA co q >>> (nI f &&& 31)) &&& 1 = 0
theorem or_kn {S : Mx} {p k f n : Nat} {s : Int32} (w : wfK n S) (hs : ∃ v, v < 256 ∧ s = nI v) (hp : p < n) (hk : k < n) (hf : f < 8) (h : isKn (up2 S 1 p (S 1 p ||| s)) k (nI f)) : isKn S k (nI f) ∨ ¬ (s >>> (nI f &&& 31)) &&& 1 = 0 := by
  by_cases e : k = p
  · subst e
    obtain ⟨a, ha, ea⟩ := w k hk
    obtain ⟨b, hb, eb⟩ := hs
    have e1 : up2 S 1 k (S 1 k ||| s) 1 k = nI (a ||| b) := by rw [up2_at, if_pos ⟨rfl, rfl⟩, ea, eb, nI_or]
    rw [isKn_bit e1 (or256 ha hb) hf, Nat.testBit_or, Bool.or_eq_true] at h
    rcases h with h | h
    · exact Or.inl ((isKn_bit ea ha hf).mpr h)
    · right
      have := (isKn_bit (st := fun _ _ => s) (p := 0) eb hb hf).mpr h
      exact this
  · left
    unfold isKn at *
    rw [up2_at, if_neg (fun q => e q.2)] at h
    exact h
theorem iter_kn {n f N : Nat} {F : Nat → Mx → Mx} {S : Mx} {T : Prop} (w : wfK n S) (hw : ∀ i a, i < N → wfK n a → wfK n (F i a)) (h : ∀ i a k, i < N → k < n → wfK n a → isKn (F i a) k (nI f) → isKn a k (nI f) ∨ T) : ∀ k, k < n → isKn (iterN F N S) k (nI f) → isKn S k (nI f) ∨ T := by
  have : wfK n (iterN F N S) ∧ ∀ k, k < n → isKn (iterN F N S) k (nI f) → isKn S k (nI f) ∨ T := iterN_ind (fun x => wfK n x ∧ ∀ k, k < n → isKn x k (nI f) → isKn S k (nI f) ∨ T) N S ⟨w, fun _ _ q => Or.inl q⟩ (fun i a hi ha => ⟨hw i a hi ha.1, fun k hk q => by
    rcases h i a k hi hk ha.1 q with z | z
    · exact ha.2 k hk z
    · exact Or.inr z⟩)
  exact this.2
/-- only by what is supposed or asked one comes to know it -/
theorem tell_kn {fl : Nat → Int32} {co S : Mx} {one other q f : Nat} (w : wfC co) (kk : wfK (npO co) S) (hq : q < nqO co) (hf : f < nfO co) : ∀ k, k < npO co → isKn (poseA fl co S one other q) k (nI f) → isKn S k (nI f) ∨ tellP co q f := by
  have hf8 := w.f.2
  have k1 : wfK (npO co) (pose1 S one) := kk
  have p2 : ∀ k, k < npO co → isKn (pose2 fl co S one q) k (nI f) → isKn S k (nI f) ∨ tellP co q f := iter_kn (S := pose1 S one) k1 (fun i a hi ha => wfK_hear ha (supA_w w hq) hi) (fun i a k hi hk ha z => by
    unfold hearS at z
    split at z
    · rcases or_kn ha (supA_w w hq) hi hk (by omega) z with y | y
      · exact Or.inl y
      · exact Or.inr (Or.inr y)
    · exact Or.inl z)
  have k2 := wfK_pose2 (fl := fl) (one := one) w hq kk
  have r3 : pose3 fl co (pose2 fl co S one q) other q 1 = pose2 fl co S one q 1 := by unfold pose3; split <;> rfl
  have p3 : ∀ k, k < npO co → isKn (pose3 fl co (pose2 fl co S one q) other q) k (nI f) → isKn S k (nI f) ∨ tellP co q f := by
    intro k hk z
    unfold isKn at z
    rw [r3] at z
    exact p2 k hk z
  intro k hk z
  unfold poseA at z
  split at z
  · next h =>
    obtain ⟨fo, hfo, ef⟩ := slip1_bit w hq h.1
    have hb : ∃ v, v < 256 ∧ (1 : Int32) <<< (co 14 q &&& 31) = nI v := ⟨2 ^ fo, pw256 (by omega), by rw [ef, sh8 (by omega)]⟩
    have bf : ¬ ((1 : Int32) <<< (co 14 q &&& 31)) >>> (nI f &&& 31) &&& 1 = 0 → co 14 q = nI f := by
      intro y
      rw [ef, sh8 (by omega)] at y
      have := (isKn_bit (st := fun _ _ => nI (2 ^ fo)) (p := 0) rfl (pw256 (by omega)) (by omega)).mp y
      rw [Nat.testBit_two_pow] at this
      rw [ef, of_decide_eq_true this]
    have k3 : wfK (npO co) (pose3 fl co (pose2 fl co S one q) other q) := wfK_pose3 k2
    have z4 : isKn (pose4 fl co (pose3 fl co (pose2 fl co S one q) other q) (S 2 one) q) k (nI f) := z
    have p4 : ∀ k, k < npO co → isKn (pose4 fl co (pose3 fl co (pose2 fl co S one q) other q) (S 2 one) q) k (nI f) → isKn (pose3 fl co (pose2 fl co S one q) other q) k (nI f) ∨ tellP co q f := iter_kn k3 (fun i a hi ha => wfK_fact ha hb hi) (fun i a k hi hk ha z => by
      unfold factS at z
      split at z
      · rcases or_kn ha hb hi hk (by omega) z with y | y
        · exact Or.inl y
        · exact Or.inr (Or.inl (bf y))
      · exact Or.inl z)
    rcases p4 k hk z4 with y | y
    · exact p3 k hk y
    · exact Or.inr y
  · exact p3 k hk z
-- steps, numbered
theorem dec1 {Q x q : Nat} (hq : q < Q) : (x * Q + q) / Q = x ∧ (x * Q + q) % Q = q := by
  have hp : 0 < Q := by omega
  constructor
  · rw [Nat.add_comm, Nat.add_mul_div_right _ _ hp, Nat.div_eq_of_lt hq, Nat.zero_add]
  · rw [Nat.add_comm, Nat.add_mul_mod_self_right, Nat.mod_eq_of_lt hq]
def whoS (co : Mx) (a : Nat) : Nat := a / nqO co / npO co
def whomS (co : Mx) (a : Nat) : Nat := a / nqO co % npO co
def whatS (co : Mx) (a : Nat) : Nat := a % nqO co
def stepsN (co : Mx) : Nat := npO co * npO co * nqO co
theorem decS {co : Mx} {one other q : Nat} (h2 : other < npO co) (h3 : q < nqO co) : whoS co ((one * npO co + other) * nqO co + q) = one ∧ whomS co ((one * npO co + other) * nqO co + q) = other ∧ whatS co ((one * npO co + other) * nqO co + q) = q := by
  unfold whoS whomS whatS
  rw [(dec1 h3).1, (dec1 h3).2, (dec1 h2).1, (dec1 h2).2]
  exact ⟨rfl, rfl, rfl⟩
theorem rngS {co : Mx} {a : Nat} (h : a < stepsN co) : whoS co a < npO co ∧ whomS co a < npO co ∧ whatS co a < nqO co := by
  unfold stepsN at h
  have hq : 0 < nqO co := Nat.pos_of_ne_zero (fun e => by rw [e, Nat.mul_zero] at h; omega)
  have hp : 0 < npO co := Nat.pos_of_ne_zero (fun e => by rw [e, Nat.mul_zero, Nat.zero_mul] at h; omega)
  refine ⟨?_, Nat.mod_lt _ hp, Nat.mod_lt _ hq⟩
  unfold whoS
  rw [Nat.div_lt_iff_lt_mul hp, Nat.div_lt_iff_lt_mul hq]
  exact h
theorem encS {co : Mx} {a : Nat} : (whoS co a * npO co + whomS co a) * nqO co + whatS co a = a := by
  unfold whoS whomS whatS
  rw [Nat.mul_comm (a / nqO co / npO co), Nat.div_add_mod, Nat.mul_comm, Nat.div_add_mod]
theorem stepsN_le {co : Mx} (w : wfC co) : stepsN co ≤ 200 := by
  unfold stepsN
  have h1 := w.p.2
  have h2 := w.q.2
  calc npO co * npO co * nqO co ≤ 5 * 5 * 8 := Nat.mul_le_mul (Nat.mul_le_mul h1 h1) h2
    _ = 200 := rfl
def canS (co S : Mx) (a : Nat) : Prop := whoS co a ≠ whomS co a ∧ todayA fl0 co S (whoS co a) (whomS co a) (whatS co a)
noncomputable def doS (co S : Mx) (a : Nat) : Mx := poseA fl0 co S (whoS co a) (whomS co a) (whatS co a)
def codeS (co : Mx) (a : Nat) : Nat := 100 * whoS co a + 10 * whomS co a + whatS co a
def isFst (V : Nat → Prop) (n a : Nat) : Prop := a < n ∧ V a ∧ ∀ b, b < a → ¬ V b
theorem isFst.uniq {V : Nat → Prop} {n m a b : Nat} (x : isFst V n a) (y : isFst V m b) : a = b := by
  rcases Nat.lt_trichotomy a b with h | h | h
  · exact absurd x.2.1 (y.2.2 a h)
  · exact h
  · exact absurd y.2.1 (x.2.2 b h)
