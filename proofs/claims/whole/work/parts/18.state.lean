-- frames of the small machine's heap; State
def Fr (h h' : Hp) (L : List Nat) : Prop := hn h' = hn h ∧ hK h' = hK h ∧ hN h' = hN h ∧ hR h' = hR h ∧ ∀ k, k ∉ L → hI h' k = hI h k ∧ hJ h' k = hJ h k
theorem Fr.refl (h : Hp) (L : List Nat) : Fr h h L := ⟨rfl, rfl, rfl, rfl, fun _ _ => ⟨rfl, rfl⟩⟩
theorem Fr.trans {h h1 h2 : Hp} {L : List Nat} (a : Fr h h1 L) (b : Fr h1 h2 L) : Fr h h2 L := ⟨b.1.trans a.1, b.2.1.trans a.2.1, b.2.2.1.trans a.2.2.1, b.2.2.2.1.trans a.2.2.2.1, fun k hk => ⟨(b.2.2.2.2 k hk).1.trans (a.2.2.2.2 k hk).1, (b.2.2.2.2 k hk).2.trans (a.2.2.2.2 k hk).2⟩⟩
theorem Fr.mono {h h1 : Hp} {L M : List Nat} (a : Fr h h1 L) (hs : ∀ k, k ∈ L → k ∈ M) : Fr h h1 M := ⟨a.1, a.2.1, a.2.2.1, a.2.2.2.1, fun k hk => a.2.2.2.2 k (fun q => hk (hs k q))⟩
theorem Fr.kd {h h' : Hp} {L : List Nat} (a : Fr h h' L) (k : Nat) : kd h' k = kd h k := by
  simp only [Jvm.Pilot.@@N@@.kd, a.1, a.2.1]
theorem Fr.I {h h' : Hp} {L : List Nat} (a : Fr h h' L) {k : Nat} (hk : k ∉ L) : hI h' k = hI h k := (a.2.2.2.2 k hk).1
theorem hI_ne {h : Hp} {a j k : Nat} {v : Int32} (hk : k ≠ a) : hI (sI h a j v) k = hI h k := up2_ne hk
theorem hI_eq {h : Hp} {a j : Nat} {v : Int32} : hI (sI h a j v) a j = v := up2_eq
theorem hI_nj {h : Hp} {a j b : Nat} {v : Int32} (hb : b ≠ j) : hI (sI h a j v) a b = hI h a b := up2_nj hb
theorem hI_sI {h : Hp} {a j b i : Nat} {v : Int32} : hI (sI h a j v) b i = if b = a ∧ i = j then v else hI h b i := rfl
theorem ofInt1 : Int32.ofInt 1 = 1 := rfl
theorem Fr_sI {h : Hp} {a j : Nat} {v : Int32} {L : List Nat} (ha : a ∈ L) : Fr h (sI h a j v) L := ⟨rfl, rfl, rfl, rfl, fun k hk => ⟨hI_ne (fun q => hk (q ▸ ha)), rfl⟩⟩
theorem kd_sI {h : Hp} {a j k : Nat} {v : Int32} : kd (sI h a j v) k = kd h k := rfl
theorem hN_sI {h : Hp} {a j : Nat} {v : Int32} : hN (sI h a j v) = hN h := rfl
theorem hR_sI {h : Hp} {a j : Nat} {v : Int32} : hR (sI h a j v) = hR h := rfl
theorem hJ_sI {h : Hp} {a j : Nat} {v : Int32} : hJ (sI h a j v) = hJ h := rfl
theorem inb {k n : Nat} (hk : k < n) (hn : n < 2 ^ 31) : ¬ (nI k < 0 ∨ n ≤ (nI k).toNatClampNeg) := nI_in hk hn
def isS (h : Hp) (s : Nat) : Prop := kd h s = 8 ∧ hR h s 0 = s + 2 ∧ hR h s 1 = s + 3 ∧ hR h s 2 = s + 4 ∧ hR h s 3 = s + 5 ∧ (kd h (s + 1) = 13 ∧ hN h (s + 1) = 5) ∧ (kd h (s + 2) = 13 ∧ hN h (s + 2) = 5) ∧ (kd h (s + 3) = 13 ∧ hN h (s + 3) = 5) ∧ (kd h (s + 4) = 13 ∧ hN h (s + 4) = 5)
theorem isS.move {h h' : Hp} {s : Nat} {L : List Nat} (a : isS h s) (f : Fr h h' L) : isS h' s := by
  unfold isS at *
  simp only [f.kd, f.2.2.1, f.2.2.2.1]
  exact a
section T18
variable {sc : Nat × (Nat → Int32)} {pp : Nat → Nat → Int32 → Int32 → Hp → Option (Hp × Int32)}
theorem L_106_0 (lv : Lv) (st : List Value) (cu su : Nat) (h : Hp) : Lm sc pp 106 0 lv st cu su h = exS sc pp (Lm sc pp) 106 0 [(.iload_n 1, 1, []), (.ifCond .lt 15, 3, [16])] lv st cu su h := Lm_eq (by decide) (by rfl) lv st cu su h
theorem L_106_4 (lv : Lv) (st : List Value) (cu su : Nat) (h : Hp) : Lm sc pp 106 4 lv st cu su h = exS sc pp (Lm sc pp) 106 4 [(.iload_n 1, 1, []), (.aload_n 0, 1, []), (.getfield 25, 3, [4, 2, 0, 327, 0]), (.if_icmp .ge 7, 3, [16])] lv st cu su h := Lm_eq (by decide) (by rfl) lv st cu su h
theorem L_106_12 (lv : Lv) (st : List Value) (cu su : Nat) (h : Hp) : Lm sc pp 106 12 lv st cu su h = exS sc pp (Lm sc pp) 106 12 [(.iconst 1, 1, []), (.goto 4, 3, [17])] lv st cu su h := Lm_eq (by decide) (by rfl) lv st cu su h
theorem L_106_16 (lv : Lv) (st : List Value) (cu su : Nat) (h : Hp) : Lm sc pp 106 16 lv st cu su h = exS sc pp (Lm sc pp) 106 16 [(.iconst 0, 1, [])] lv st cu su h := Lm_eq (by decide) (by rfl) lv st cu su h
theorem L_106_17 (lv : Lv) (st : List Value) (cu su : Nat) (h : Hp) : Lm sc pp 106 17 lv st cu su h = exS sc pp (Lm sc pp) 106 17 [(.ireturn, 1, [3])] lv st cu su h := Lm_eq (by decide) (by rfl) lv st cu su h
theorem L_142_0 (lv : Lv) (st : List Value) (cu su : Nat) (h : Hp) : Lm sc pp 142 0 lv st cu su h = exS sc pp (Lm sc pp) 142 0 [(.iconst 0, 1, []), (.istore_n 2, 1, [])] lv st cu su h := Lm_eq (by decide) (by rfl) lv st cu su h
theorem L_142_2 (lv : Lv) (st : List Value) (cu su : Nat) (h : Hp) : Lm sc pp 142 2 lv st cu su h = exS sc pp (Lm sc pp) 142 2 [(.iload_n 2, 1, []), (.iconst 5, 1, []), (.if_icmp .ge 57, 3, [61])] lv st cu su h := Lm_eq (by decide) (by rfl) lv st cu su h
theorem L_142_7 (lv : Lv) (st : List Value) (cu su : Nat) (h : Hp) : Lm sc pp 142 7 lv st cu su h = exS sc pp (Lm sc pp) 142 7 [(.aload_n 0, 1, []), (.getfield 9, 3, [8, 0, 2, 165, 0]), (.iload_n 2, 1, []), (.aload_n 1, 1, []), (.getfield 9, 3, [8, 0, 2, 165, 0]), (.iload_n 2, 1, []), (.iaload, 1, []), (.iastore, 1, []), (.aload_n 0, 1, []), (.getfield 15, 3, [8, 1, 2, 169, 0]), (.iload_n 2, 1, []), (.aload_n 1, 1, []), (.getfield 15, 3, [8, 1, 2, 169, 0]), (.iload_n 2, 1, []), (.iaload, 1, []), (.iastore, 1, []), (.aload_n 0, 1, []), (.getfield 18, 3, [8, 2, 2, 172, 0]), (.iload_n 2, 1, []), (.aload_n 1, 1, []), (.getfield 18, 3, [8, 2, 2, 172, 0]), (.iload_n 2, 1, []), (.iaload, 1, []), (.iastore, 1, []), (.aload_n 0, 1, []), (.getfield 21, 3, [8, 3, 2, 176, 0]), (.iload_n 2, 1, []), (.aload_n 1, 1, []), (.getfield 21, 3, [8, 3, 2, 176, 0]), (.iload_n 2, 1, []), (.iaload, 1, []), (.iastore, 1, []), (.iinc 2 1, 3, []), (.goto (-56), 3, [2])] lv st cu su h := Lm_eq (by decide) (by rfl) lv st cu su h
theorem L_142_61 (lv : Lv) (st : List Value) (cu su : Nat) (h : Hp) : Lm sc pp 142 61 lv st cu su h = exS sc pp (Lm sc pp) 142 61 [(.aload_n 0, 1, []), (.aload_n 1, 1, []), (.getfield 53, 3, [8, 4, 0, 179, 0]), (.putfield 53, 3, [8, 4, 0, 179, 0, 0]), (.aload_n 0, 1, []), (.aload_n 1, 1, []), (.getfield 46, 3, [8, 5, 0, 182, 0]), (.putfield 46, 3, [8, 5, 0, 182, 0, 0]), (.aload_n 0, 1, []), (.aload_n 1, 1, []), (.getfield 43, 3, [8, 6, 0, 185, 0]), (.putfield 43, 3, [8, 6, 0, 185, 0, 0]), (.aload_n 0, 1, []), (.aload_n 1, 1, []), (.getfield 36, 3, [8, 7, 0, 187, 0]), (.putfield 36, 3, [8, 7, 0, 187, 0, 0]), (.return_, 1, [])] lv st cu su h := Lm_eq (by decide) (by rfl) lv st cu su h
theorem L_146_0 (lv : Lv) (st : List Value) (cu su : Nat) (h : Hp) : Lm sc pp 146 0 lv st cu su h = exS sc pp (Lm sc pp) 146 0 [(.aload_n 0, 1, []), (.getfield 9, 3, [8, 0, 2, 165, 0]), (.iload_n 1, 1, []), (.iaload, 1, []), (.iload_n 2, 1, []), (.ishr, 1, []), (.iconst 1, 1, []), (.iand, 1, []), (.ifCond .eq 7, 3, [17])] lv st cu su h := Lm_eq (by decide) (by rfl) lv st cu su h
theorem L_146_13 (lv : Lv) (st : List Value) (cu su : Nat) (h : Hp) : Lm sc pp 146 13 lv st cu su h = exS sc pp (Lm sc pp) 146 13 [(.iconst 1, 1, []), (.goto 4, 3, [18])] lv st cu su h := Lm_eq (by decide) (by rfl) lv st cu su h
theorem L_146_17 (lv : Lv) (st : List Value) (cu su : Nat) (h : Hp) : Lm sc pp 146 17 lv st cu su h = exS sc pp (Lm sc pp) 146 17 [(.iconst 0, 1, [])] lv st cu su h := Lm_eq (by decide) (by rfl) lv st cu su h
theorem L_146_18 (lv : Lv) (st : List Value) (cu su : Nat) (h : Hp) : Lm sc pp 146 18 lv st cu su h = exS sc pp (Lm sc pp) 146 18 [(.ireturn, 1, [3])] lv st cu su h := Lm_eq (by decide) (by rfl) lv st cu su h

theorem c_has (a : Nat) (k : Int32) (h : Hp) (ha : kd h a = 4) : Lm sc pp 106 0 [some (.ref a), some (.int k)] [] 0 0 h = some (h, some (.int (if k < 0 then 0 else if hI h a 2 ≤ k then 0 else 1))) := by
  simp only [x_nil, Nat.reduceAdd, x_iload_n1, x_if_lt, x_aload_n0, x_getI, x_icmp_ge, x_iconst_1, x_goto, x_iconst_0, x_zreturn, L_106_0, L_106_4, L_106_12, L_106_16, L_106_17, ha, if_true, true_or, or_true]
  split
  · rfl
  · split <;> rfl
theorem c_isKnown (s : Nat) (p : Nat) (f : Int32) (h : Hp) (hs : isS h s) (hp : p < 5) : Lm sc pp 146 0 [some (.ref s), some (.int (nI p)), some (.int f)] [] 0 0 h = some (h, some (.int (if (hI h (s + 1) p >>> (f &&& 31)) &&& 1 = 0 then 0 else 1))) := by
  obtain ⟨s1, s2, s3, s4, s5, ⟨k1, n1⟩, -⟩ := hs
  have hc := nI_clamp (show p < 2 ^ 31 by omega)
  have z0 : ¬ nI p < 0 := nI_pos (by omega)
  have z5 : ¬ 5 ≤ p := by omega
  simp only [x_nil, Nat.reduceAdd, x_aload_n0, x_getR, x_iload_n1, x_iald, x_iload_n2, x_ishr, x_iconst_1, x_iand, x_if_eq, x_goto, x_iconst_0, x_zreturn, L_146_0, L_146_13, L_146_17, L_146_18, s1, s2, k1, n1, z0, z5, hc, if_true, ne_eq, not_false_eq_true, and_self, or_self, true_or, or_true, show (146 : Nat) ≠ 277 from by decide]
  split <;> rfl
def cpS (h' : Hp) (s : Nat) (h : Hp) (f k : Nat) : Prop := ∀ p, (k ≤ p → p < 5 → hI h' (s + 1) p = hI h (f + 1) p ∧ hI h' (s + 2) p = hI h (f + 2) p ∧ hI h' (s + 3) p = hI h (f + 3) p ∧ hI h' (s + 4) p = hI h (f + 4) p) ∧ (p < k → hI h' (s + 1) p = hI h (s + 1) p ∧ hI h' (s + 2) p = hI h (s + 2) p ∧ hI h' (s + 3) p = hI h (s + 3) p ∧ hI h' (s + 4) p = hI h (s + 4) p)
theorem c_take_end (s f : Nat) (o : Option Value) (h : Hp) (hs : kd h s = 8) (hf : kd h f = 8) (hsf : s ≠ f) : ∃ h', Lm sc pp 142 61 [some (.ref s), some (.ref f), o] [] 0 0 h = some (h', none) ∧ Fr h h' [s] ∧ hI h' s 4 = hI h f 4 ∧ hI h' s 5 = hI h f 5 ∧ hI h' s 6 = hI h f 6 ∧ hI h' s 7 = hI h f 7 := by
  simp only [x_nil, Nat.reduceAdd, x_iconst_0, x_istore_n2, x_iload_n2, x_iconst_5, x_icmp_ge, x_aload_n0, x_getR, x_aload_n1, x_iald, x_iast, x_iinc2, x_goto, x_getI, x_putI, x_return, L_142_0, L_142_7, L_142_61, hs, hf, kd_sI, if_true, hI_ne (Ne.symm hsf)]
  refine ⟨_, rfl, ?_, ?_, ?_, ?_, ?_⟩
  · exact (((Fr_sI (by simp)).trans (Fr_sI (by simp))).trans (Fr_sI (by simp))).trans (Fr_sI (by simp))
  all_goals simp [hI_eq, hI_nj]
theorem c_take_loop (s f : Nat) : ∀ (n k : Nat) (h : Hp), k + n = 5 → isS h s → isS h f → (s + 5 ≤ f ∨ f + 5 ≤ s) → ∃ h', Lm sc pp 142 2 [some (.ref s), some (.ref f), some (.int (nI k))] [] 0 0 h = some (h', none) ∧ Fr h h' [s, s + 1, s + 2, s + 3, s + 4] ∧ cpS h' s h f k ∧ hI h' s 4 = hI h f 4 ∧ hI h' s 5 = hI h f 5 ∧ hI h' s 6 = hI h f 6 ∧ hI h' s 7 = hI h f 7 := by
  intro n
  induction n with
  | zero =>
    intro k h hk hs hf hd
    have : k = 5 := by omega
    subst this
    obtain ⟨h', e, fr, a4, a5, a6, a7⟩ := c_take_end (sc := sc) (pp := pp) s f (some (.int (nI 5))) h hs.1 hf.1 (by omega)
    refine ⟨h', ?_, fr.mono (by simp), fun p => ⟨fun h1 h2 => by omega, fun _ => ?_⟩, a4, a5, a6, a7⟩
    · rw [L_142_2]
      simp only [x_nil, Nat.reduceAdd, x_iload_n2, x_iconst_5, x_icmp_ge, show (5 : Int32) ≤ nI 5 from by decide, if_true]
      exact e
    · refine ⟨?_, ?_, ?_, ?_⟩ <;> rw [fr.I (by simp)]
  | succ n ih =>
    intro k h hk hs hf hd
    have hk5 : k < 5 := by omega
    have hc := nI_clamp (show k < 2 ^ 31 by omega)
    have z0 : ¬ nI k < 0 := nI_pos (by omega)
    have z5 : ¬ 5 ≤ k := by omega
    have zc : ¬ (5 : Int32) ≤ nI k := nI_ge hk5 (by decide)
    obtain ⟨s1, s2, s3, s4, s5, ⟨k1, m1⟩, ⟨k2, m2⟩, ⟨k3, m3⟩, ⟨k4, m4⟩⟩ := id hs
    obtain ⟨f1, f2, f3, f4, f5, ⟨g1, w1⟩, ⟨g2, w2⟩, ⟨g3, w3⟩, ⟨g4, w4⟩⟩ := id hf
    rw [L_142_2]
    simp only [x_nil, Nat.reduceAdd, x_iconst_0, x_istore_n2, x_iload_n2, x_iconst_5, x_icmp_ge, x_aload_n0, x_getR, x_aload_n1, x_iald, x_iast, x_iinc2, x_goto, x_getI, x_putI, x_return, L_142_7, s1, s2, s3, s4, s5, k1, k2, k3, k4, m1, m2, m3, m4, f1, f2, f3, f4, f5, g1, g2, g3, g4, w1, w2, w3, w4, z0, z5, zc, hc, kd_sI, hN_sI, hR_sI, if_true, if_false, ne_eq, not_false_eq_true, and_self, or_self, show (142 : Nat) ≠ 277 from by decide]
    rw [ofInt1, nI_1]
    generalize hh : sI _ (s + 4) k _ = h1
    have fr1 : Fr h h1 [s, s + 1, s + 2, s + 3, s + 4] := by
      rw [← hh]
      exact (((Fr_sI (by simp)).trans (Fr_sI (by simp))).trans (Fr_sI (by simp))).trans (Fr_sI (by simp))
    have v1 : ∀ p, hI h1 (s + 1) p = if p = k then hI h (f + 1) k else hI h (s + 1) p := by intro p; rw [← hh]; simp only [hI_sI]; grind
    have v2 : ∀ p, hI h1 (s + 2) p = if p = k then hI h (f + 2) k else hI h (s + 2) p := by intro p; rw [← hh]; simp only [hI_sI]; grind
    have v3 : ∀ p, hI h1 (s + 3) p = if p = k then hI h (f + 3) k else hI h (s + 3) p := by intro p; rw [← hh]; simp only [hI_sI]; grind
    have v4 : ∀ p, hI h1 (s + 4) p = if p = k then hI h (f + 4) k else hI h (s + 4) p := by intro p; rw [← hh]; simp only [hI_sI]; grind
    obtain ⟨h', e, fr, cp, a4, a5, a6, a7⟩ := ih (k + 1) h1 (by omega) (hs.move fr1) (hf.move fr1) hd
    have q : ∀ j, j ≤ 4 → hI h1 (f + j) = hI h (f + j) := fun j hj => fr1.I (by simp; omega)
    refine ⟨h', e, fr1.trans fr, fun p => ⟨fun h1 h2 => ?_, fun h1 => ?_⟩, ?_, ?_, ?_, ?_⟩
    · have c1 := (cp p).1
      have c2 := (cp p).2
      simp only [q 1 (by omega), q 2 (by omega), q 3 (by omega), q 4 (by omega), v1, v2, v3, v4] at c1 c2
      by_cases hp : p = k
      · subst hp
        simpa using c2 (by omega)
      · exact c1 (by omega) h2
    · have c2 := (cp p).2 (by omega)
      simp only [v1, v2, v3, v4, if_neg (show p ≠ k by omega)] at c2
      exact c2
    · rw [a4]; exact congrFun (q 0 (by omega)) 4
    · rw [a5]; exact congrFun (q 0 (by omega)) 5
    · rw [a6]; exact congrFun (q 0 (by omega)) 6
    · rw [a7]; exact congrFun (q 0 (by omega)) 7
theorem c_take (s f : Nat) (h : Hp) (hs : isS h s) (hf : isS h f) (hd : s + 5 ≤ f ∨ f + 5 ≤ s) : ∃ h', Lm sc pp 142 0 [some (.ref s), some (.ref f), none] [] 0 0 h = some (h', none) ∧ Fr h h' [s, s + 1, s + 2, s + 3, s + 4] ∧ (∀ p, p < 5 → hI h' (s + 1) p = hI h (f + 1) p ∧ hI h' (s + 2) p = hI h (f + 2) p ∧ hI h' (s + 3) p = hI h (f + 3) p ∧ hI h' (s + 4) p = hI h (f + 4) p) ∧ hI h' s 4 = hI h f 4 ∧ hI h' s 5 = hI h f 5 ∧ hI h' s 6 = hI h f 6 ∧ hI h' s 7 = hI h f 7 := by
  obtain ⟨h', e, fr, cp, a⟩ := c_take_loop (sc := sc) (pp := pp) s f 5 0 h rfl hs hf hd
  refine ⟨h', ?_, fr, fun p hp => (cp p).1 (Nat.zero_le _) hp, a⟩
  rw [L_142_0]
  simp only [x_nil, Nat.reduceAdd, x_iconst_0, x_istore_n2]
  exact e
end T18
