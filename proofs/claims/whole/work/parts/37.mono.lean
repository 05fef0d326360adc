-- knowing grows: sums of bits
def pcN (v : Nat) : Nat := (v.testBit 0).toNat + (v.testBit 1).toNat + (v.testBit 2).toNat + (v.testBit 3).toNat + (v.testBit 4).toNat + (v.testBit 5).toNat + (v.testBit 6).toNat + (v.testBit 7).toNat
theorem pcN_bc {v : Nat} (h : v < 256) : bcE (nI v) = nI (pcN v) := by
  have a : ∀ v, v < 256 → bcE (nI v) = nI (pcN v) := by decide +kernel
  exact a v h
theorem bt_le (b : Bool) : b.toNat ≤ 1 := by cases b <;> decide
theorem pcN_le (v : Nat) : pcN v ≤ 8 := by
  unfold pcN
  have a0 := bt_le (v.testBit 0)
  have a1 := bt_le (v.testBit 1)
  have a2 := bt_le (v.testBit 2)
  have a3 := bt_le (v.testBit 3)
  have a4 := bt_le (v.testBit 4)
  have a5 := bt_le (v.testBit 5)
  have a6 := bt_le (v.testBit 6)
  have a7 := bt_le (v.testBit 7)
  omega
theorem bt_or (a b : Bool) : a.toNat ≤ (a || b).toNat := by cases a <;> cases b <;> decide
theorem pcN_or (v x : Nat) : pcN v ≤ pcN (v ||| x) := by
  unfold pcN
  simp only [Nat.testBit_or]
  have a0 := bt_or (v.testBit 0) (x.testBit 0)
  have a1 := bt_or (v.testBit 1) (x.testBit 1)
  have a2 := bt_or (v.testBit 2) (x.testBit 2)
  have a3 := bt_or (v.testBit 3) (x.testBit 3)
  have a4 := bt_or (v.testBit 4) (x.testBit 4)
  have a5 := bt_or (v.testBit 5) (x.testBit 5)
  have a6 := bt_or (v.testBit 6) (x.testBit 6)
  have a7 := bt_or (v.testBit 7) (x.testBit 7)
  omega
def leK (m : Int32) (n : Nat) (a b : Mx) : Prop := ∀ p, p < n → ∃ v x, v < 256 ∧ x < 256 ∧ a 1 p = nI v ∧ b 1 p = nI (v ||| x) ∧ (¬ bitM m p = 0 → b 1 p = a 1 p)
theorem leK.refl {m : Int32} {n : Nat} {a : Mx} (k : wfK n a) : leK m n a a := by
  intro p hp
  obtain ⟨v, hv, ev⟩ := k p hp
  exact ⟨v, 0, hv, by omega, ev, by rw [Nat.or_zero]; exact ev, fun _ => rfl⟩
theorem leK.trans {m : Int32} {n : Nat} {a b c : Mx} (x : leK m n a b) (y : leK m n b c) : leK m n a c := by
  intro p hp
  obtain ⟨v, s, hv, hs, ea, eb, g⟩ := x p hp
  obtain ⟨v', s', hv', hs', ea', eb', g'⟩ := y p hp
  have e : v' = v ||| s := by
    rw [eb] at ea'
    have := or256 hv hs
    exact ((nI_eq (by omega) (by omega)).mp ea').symm
  subst e
  exact ⟨v, s ||| s', hv, or256 hs hs', ea, by rw [eb', Nat.or_assoc], fun q => (g' q).trans (g q)⟩
theorem leK.wf {m : Int32} {n : Nat} {a b : Mx} (x : leK m n a b) : wfK n b := by
  intro p hp
  obtain ⟨v, s, hv, hs, ea, eb, g⟩ := x p hp
  exact ⟨v ||| s, or256 hv hs, eb⟩
theorem leK.row {m : Int32} {n : Nat} {a b c : Mx} (x : leK m n a b) (e : c 1 = b 1) : leK m n a c := by
  intro p hp
  rw [e]
  exact x p hp
theorem leK_or {m : Int32} {n p : Nat} {st : Mx} {s : Int32} (k : wfK n st) (hs : ∃ v, v < 256 ∧ s = nI v) (hp : p < n) (hm : bitM m p = 0) : leK m n st (up2 st 1 p (st 1 p ||| s)) := by
  intro i hi
  obtain ⟨a, ha, ea⟩ := k i hi
  obtain ⟨b, hb, eb⟩ := hs
  by_cases e : i = p
  · subst e
    refine ⟨a, b, ha, hb, ea, ?_, fun q => absurd hm q⟩
    rw [up2_at, if_pos ⟨rfl, rfl⟩, ea, eb, nI_or]
  · refine ⟨a, 0, ha, by omega, ea, ?_, fun _ => ?_⟩
    · rw [up2_at, if_neg (fun q => e q.2), Nat.or_zero]; exact ea
    · rw [up2_at, if_neg (fun q => e q.2)]
section Le
variable {fl : Nat → Int32} {co st : Mx}
theorem leK_hear {one q p n : Nat} {room sup : Int32} (k : wfK n st) (hs : ∃ v, v < 256 ∧ sup = nI v) (hp : p < n) : leK (fl 4) n st (hearS fl co one q room sup p st) := by
  unfold hearS; split
  · next h => exact leK_or k hs hp h.2.2.1
  · exact leK.refl k
theorem leK_fact {p n : Nat} {room bits : Int32} (k : wfK n st) (hs : ∃ v, v < 256 ∧ bits = nI v) (hp : p < n) : leK (fl 4) n st (factS fl room bits p st) := by
  unfold factS; split
  · next h => exact leK_or k hs hp h.2
  · exact leK.refl k
theorem iter_le {m : Int32} {n N : Nat} {f : Nat → Mx → Mx} (k : wfK n st) (h : ∀ i a, i < N → wfK n a → leK m n a (f i a)) : leK m n st (iterN f N st) := iterN_ind (fun x => leK m n st x) N st (leK.refl k) (fun i a hi ha => ha.trans (h i a hi ha.wf))
theorem leK_pose {one other q : Nat} (w : wfC co) (hq : q < nqO co) (k : wfK (npO co) st) : leK (fl 4) (npO co) st (poseA fl co st one other q) := by
  have l2 : leK (fl 4) (npO co) st (pose2 fl co st one q) := by
    have k1 : wfK (npO co) (pose1 st one) := k
    have l1 : leK (fl 4) (npO co) (pose1 st one) (pose2 fl co st one q) := iter_le k1 (fun i a hi ha => leK_hear ha (supA_w w hq) hi)
    exact l1
  have l3 : leK (fl 4) (npO co) st (pose3 fl co (pose2 fl co st one q) other q) := l2.row (by unfold pose3; split <;> rfl)
  unfold poseA; split
  · next h =>
    obtain ⟨f, hf, ef⟩ := slip1_bit w hq h.1
    have hb : ∃ v, v < 256 ∧ (1 : Int32) <<< (co 14 q &&& 31) = nI v := by
      have := w.f.2
      exact ⟨2 ^ f, pw256 (by omega), by rw [ef, sh8 (by omega)]⟩
    have l4 : leK (fl 4) (npO co) st (pose4 fl co (pose3 fl co (pose2 fl co st one q) other q) (st 2 one) q) := l3.trans (iter_le l3.wf (fun i a hi ha => leK_fact ha hb hi))
    exact l4.row rfl
  · exact l3
theorem leK_ask {a b q : Nat} (w : wfC co) (hq : q < nqO co) (k : wfK (npO co) st) : leK (fl 4) (npO co) st (askS fl co a b q st) := by
  unfold askS; split
  · exact leK_pose w hq k
  · exact leK.refl k
theorem leK_round1 {a b : Nat} (w : wfC co) (k : wfK (npO co) st) : leK (fl 4) (npO co) st (round1 fl co a b st) := iter_le k (fun _ _ hi ha => leK_ask w hi ha)
theorem leK_round2 {a : Nat} (w : wfC co) (k : wfK (npO co) st) : leK (fl 4) (npO co) st (round2 fl co a st) := iter_le k (fun _ _ _ ha => leK_round1 w ha)
theorem leK_round (w : wfC co) (k : wfK (npO co) st) : leK (fl 4) (npO co) st (roundA fl co st) := iter_le k (fun _ _ _ ha => leK_round2 w ha)
theorem leK_settle (w : wfC co) : ∀ (n : Nat) (st : Mx), wfK (npO co) st → leK (fl 4) (npO co) st (settleN fl co n st) := by
  intro n
  induction n with
  | zero => intro st k; exact leK.refl k
  | succ n ih =>
    intro st k
    have l := leK_round (fl := fl) w k
    unfold settleN; split
    · exact l
    · exact l.trans (ih _ l.wf)
theorem leK_talk {t : Nat} (w : wfC co) (ht : t < ntO co) (k : wfK (npO co) st) : leK (fl 4) (npO co) st (talkS fl co t st) := by
  obtain ⟨a, b, q, _, _, _, hq, _, _, e3⟩ := w.talk ht
  have := w.q.2
  unfold talkS
  rw [e3, nO_nI (by omega)]
  split
  · exact leK_pose w hq k
  · exact leK.refl k
theorem leK_hold {a e : Nat} (w : wfC co) (k : wfK (npO co) st) : leK (fl 4) (npO co) st (holdA fl co a e st) := iter_le k (fun _ _ hi ha => leK_talk w (by omega) ha)
-- what doesn't draw keeps its number
theorem pose2_06 {one q : Nat} : pose2 fl co st one q 0 6 = st 0 6 := iterN_ind (fun (x : Mx) => x 0 6 = st 0 6) _ _ rfl (fun k a _ ha => by
  have : hearS fl co one q (st 2 one) (supA co q) k a 0 6 = a 0 6 := by unfold hearS; split <;> rfl
  exact this.trans ha)
theorem poseA_06 {one other q : Nat} (h : fl 3 = 0) : poseA fl co st one other q 0 6 = st 0 6 := by
  have e3 : pose3 fl co (pose2 fl co st one q) other q 0 6 = st 0 6 := by
    unfold pose3; split
    · unfold slipD slipN
      rw [up2_at, if_pos ⟨rfl, rfl⟩, if_neg (fun x => x.2.1 h)]
      exact pose2_06
    · exact pose2_06
  unfold poseA; split
  · have e4 : pose4 fl co (pose3 fl co (pose2 fl co st one q) other q) (st 2 one) q 0 6 = st 0 6 := iterN_ind (fun (x : Mx) => x 0 6 = st 0 6) _ _ e3 (fun k a _ ha => by
      have : factS fl (st 2 one) (1 <<< (co 14 q &&& 31)) k a 0 6 = a 0 6 := by unfold factS; split <;> rfl
      exact this.trans ha)
    exact e4
  · exact e3
theorem askS_06 {a b q : Nat} (h : fl 3 = 0) : askS fl co a b q st 0 6 = st 0 6 := by
  unfold askS; split
  · exact poseA_06 h
  · rfl
theorem roundA_06 (h : fl 3 = 0) : roundA fl co st 0 6 = st 0 6 := iterN_ind (fun (x : Mx) => x 0 6 = st 0 6) _ _ rfl (fun _ x _ hx => Eq.trans (iterN_ind (fun (y : Mx) => y 0 6 = x 0 6) _ _ rfl (fun _ y _ hy => Eq.trans (iterN_ind (fun (z : Mx) => z 0 6 = y 0 6) _ _ rfl (fun _ z _ hz => (askS_06 h).trans hz)) hy)) hx)
theorem settleN_06 (h : fl 3 = 0) : ∀ (n : Nat) (st : Mx), settleN fl co n st 0 6 = st 0 6 := by
  intro n
  induction n with
  | zero => intro st; rfl
  | succ n ih =>
    intro st
    unfold settleN; split
    · exact roundA_06 h
    · rw [ih]; exact roundA_06 h
theorem talkS_06 {t : Nat} (h : fl 3 = 0) : talkS fl co t st 0 6 = st 0 6 := by
  unfold talkS; split
  · exact poseA_06 h
  · rfl
end Le
def KN (st : Mx) : Nat → Nat
  | 0 => 0
  | n + 1 => KN st n + pcN (nO (st 1 n))
noncomputable def KG (m : Int32) (st : Mx) : Nat → Nat
  | 0 => 0
  | n + 1 => KG m st n + @ite _ (¬ bitM m n = 0) (Classical.propDecidable _) 0 (pcN (nO (st 1 n)))
theorem KN_le (st : Mx) : ∀ n, KN st n ≤ 8 * n := by
  intro n
  induction n with
  | zero => exact Nat.le_refl 0
  | succ n ih =>
    have := pcN_le (nO (st 1 n))
    show KN st n + _ ≤ _
    omega
theorem KG_le (m : Int32) (st : Mx) : ∀ n, KG m st n ≤ 8 * n := by
  intro n
  induction n with
  | zero => exact Nat.le_refl 0
  | succ n ih =>
    have := pcN_le (nO (st 1 n))
    show KG m st n + _ ≤ _
    split <;> omega
theorem knA_KN {st : Mx} : ∀ {n : Nat}, wfK n st → knA n st = nI (KN st n) := by
  intro n
  induction n with
  | zero => intro _; rfl
  | succ n ih =>
    intro k
    obtain ⟨v, hv, ev⟩ := k n (by omega)
    have i := ih (fun p hp => k p (by omega))
    unfold knA at i ⊢
    show sumN _ n + bcE (st 1 n) = nI (KN st n + pcN (nO (st 1 n)))
    rw [i, ev, nO_nI (by omega), pcN_bc hv, nI_add]
theorem KN_KG {m : Int32} {a b : Mx} : ∀ {n : Nat}, leK m n a b → KN a n ≤ KN b n ∧ KG m a n ≤ KG m b n ∧ KN b n + KG m a n = KN a n + KG m b n := by
  intro n
  induction n with
  | zero => intro _; exact ⟨Nat.le_refl _, Nat.le_refl _, rfl⟩
  | succ n ih =>
    intro l
    obtain ⟨i1, i2, i3⟩ := ih (fun p hp => l p (by omega))
    obtain ⟨v, x, hv, hx, ea, eb, g⟩ := l n (by omega)
    have h1 : nO (a 1 n) = v := by rw [ea]; exact nO_nI (by omega)
    have h2 : nO (b 1 n) = v ||| x := by rw [eb]; exact nO_nI (by have := or256 hv hx; omega)
    have h3 := pcN_or v x
    show KN a n + pcN (nO (a 1 n)) ≤ KN b n + pcN (nO (b 1 n)) ∧ KG m a n + _ ≤ KG m b n + _ ∧ (KN b n + pcN (nO (b 1 n))) + (KG m a n + _) = (KN a n + pcN (nO (a 1 n))) + (KG m b n + _)
    by_cases c : ¬ bitM m n = 0
    · have e := g c
      rw [if_pos c, if_pos c, e]
      omega
    · rw [if_neg c, if_neg c, h1, h2]
      omega
theorem KNc {a b : Mx} : ∀ {n : Nat}, (∀ p, p < n → a 1 p = b 1 p) → KN a n = KN b n := by
  intro n
  induction n with
  | zero => intro _; rfl
  | succ n ih => intro h; show KN a n + _ = KN b n + _; rw [ih (fun p hp => h p (by omega)), h n (by omega)]
