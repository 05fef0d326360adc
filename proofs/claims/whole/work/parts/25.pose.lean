-- one asks: who hears
section T25
variable {sc : Nat × (Nat → Int32)} {pp : Nat → Nat → Int32 → Int32 → Hp → Option (Hp × Int32)}
theorem L_149_0 (lv : Lv) (st : List Value) (cu su : Nat) (h : Hp) : Lm sc pp 149 0 lv st cu su h = exS sc pp (Lm sc pp) 149 0 [(.aload_n 1, 1, []), (.getfield 42, 3, [8, 3, 2, 177, 1]), (.iload_n 2, 1, []), (.dup2, 1, []), (.iaload, 1, []), (.iconst 1, 1, []), (.iadd, 1, []), (.iastore, 1, []), (.aload_n 1, 1, []), (.dup, 1, []), (.getfield 66, 3, [8, 5, 0, 183, 1]), (.iconst 1, 1, []), (.iadd, 1, []), (.putfield 66, 3, [8, 5, 0, 183, 1, 0]), (.aload_n 1, 1, []), (.getfield 56, 3, [8, 1, 2, 170, 1]), (.iload_n 2, 1, []), (.iaload, 1, []), (.istore 5, 2, []), (.aload_n 0, 1, []), (.getfield 25, 3, [6, 2, 2, 624, 0]), (.iload 4, 2, []), (.invokevirtual 59, 3, [119, 2, 933, 0, 3, 0, 0, 0, 0, 0])] lv st cu su h := Lm_eq (by decide) (by rfl) lv st cu su h
theorem L_149_37 (lv : Lv) (st : List Value) (cu su : Nat) (h : Hp) : Lm sc pp 149 37 lv st cu su h = exS sc pp (Lm sc pp) 149 37 [(.istore 6, 2, []), (.iconst 0, 1, []), (.istore 7, 2, [])] lv st cu su h := Lm_eq (by decide) (by rfl) lv st cu su h
theorem L_149_42 (lv : Lv) (st : List Value) (cu su : Nat) (h : Hp) : Lm sc pp 149 42 lv st cu su h = exS sc pp (Lm sc pp) 149 42 [(.iload 7, 2, []), (.aload_n 0, 1, []), (.getfield 25, 3, [6, 2, 2, 624, 0]), (.getfield 69, 3, [0, 1, 2, 367, 1]), (.getfield 73, 3, [4, 2, 0, 330, 1]), (.if_icmp .ge 66, 3, [120])] lv st cu su h := Lm_eq (by decide) (by rfl) lv st cu su h
theorem L_149_57 (lv : Lv) (st : List Value) (cu su : Nat) (h : Hp) : Lm sc pp 149 57 lv st cu su h = exS sc pp (Lm sc pp) 149 57 [(.iload 7, 2, []), (.iload_n 2, 1, []), (.if_icmp .eq 54, 3, [114])] lv st cu su h := Lm_eq (by decide) (by rfl) lv st cu su h
theorem L_149_63 (lv : Lv) (st : List Value) (cu su : Nat) (h : Hp) : Lm sc pp 149 63 lv st cu su h = exS sc pp (Lm sc pp) 149 63 [(.aload_n 0, 1, []), (.aload_n 1, 1, []), (.iload 7, 2, []), (.iload 5, 2, []), (.invokevirtual 78, 3, [144, 4, 1007, 0, 4, 0, 0, 0, 0, 6])] lv st cu su h := Lm_eq (by decide) (by rfl) lv st cu su h
theorem L_149_72 (lv : Lv) (st : List Value) (cu su : Nat) (h : Hp) : Lm sc pp 149 72 lv st cu su h = exS sc pp (Lm sc pp) 149 72 [(.ifCond .eq 42, 3, [114])] lv st cu su h := Lm_eq (by decide) (by rfl) lv st cu su h
theorem L_149_75 (lv : Lv) (st : List Value) (cu su : Nat) (h : Hp) : Lm sc pp 149 75 lv st cu su h = exS sc pp (Lm sc pp) 149 75 [(.iload 6, 2, []), (.aload_n 1, 1, []), (.getfield 63, 3, [8, 0, 2, 166, 1]), (.iload 7, 2, []), (.iaload, 1, []), (.iconst (-1), 1, []), (.ixor, 1, []), (.iand, 1, []), (.ifCond .eq 27, 3, [114])] lv st cu su h := Lm_eq (by decide) (by rfl) lv st cu su h
theorem L_149_90 (lv : Lv) (st : List Value) (cu su : Nat) (h : Hp) : Lm sc pp 149 90 lv st cu su h = exS sc pp (Lm sc pp) 149 90 [(.aload_n 0, 1, []), (.aload_n 1, 1, []), (.iload 7, 2, []), (.iload 4, 2, []), (.invokevirtual 82, 3, [145, 4, 1011, 0, 6, 0, 0, 0, 0, 6])] lv st cu su h := Lm_eq (by decide) (by rfl) lv st cu su h
theorem L_149_99 (lv : Lv) (st : List Value) (cu su : Nat) (h : Hp) : Lm sc pp 149 99 lv st cu su h = exS sc pp (Lm sc pp) 149 99 [(.ifCond .eq 15, 3, [114])] lv st cu su h := Lm_eq (by decide) (by rfl) lv st cu su h
theorem L_149_102 (lv : Lv) (st : List Value) (cu su : Nat) (h : Hp) : Lm sc pp 149 102 lv st cu su h = exS sc pp (Lm sc pp) 149 102 [(.aload_n 1, 1, []), (.getfield 63, 3, [8, 0, 2, 166, 1]), (.iload 7, 2, []), (.dup2, 1, []), (.iaload, 1, []), (.iload 6, 2, []), (.ior, 1, []), (.iastore, 1, [])] lv st cu su h := Lm_eq (by decide) (by rfl) lv st cu su h
theorem L_149_114 (lv : Lv) (st : List Value) (cu su : Nat) (h : Hp) : Lm sc pp 149 114 lv st cu su h = exS sc pp (Lm sc pp) 149 114 [(.iinc 7 1, 3, []), (.goto (-75), 3, [42])] lv st cu su h := Lm_eq (by decide) (by rfl) lv st cu su h
theorem L_149_120 (lv : Lv) (st : List Value) (cu su : Nat) (h : Hp) : Lm sc pp 149 120 lv st cu su h = exS sc pp (Lm sc pp) 149 120 [(.aload_n 0, 1, []), (.getfield 25, 3, [6, 2, 2, 624, 0]), (.getfield 85, 3, [0, 10, 2, 401, 1]), (.iload 4, 2, []), (.iaload, 1, []), (.istore 7, 2, []), (.aload_n 0, 1, []), (.getfield 25, 3, [6, 2, 2, 624, 0]), (.getfield 88, 3, [0, 7, 2, 390, 1]), (.iload 4, 2, []), (.iaload, 1, []), (.iconst 3, 1, []), (.if_icmp .eq 30, 3, [173])] lv st cu su h := Lm_eq (by decide) (by rfl) lv st cu su h
theorem L_149_146 (lv : Lv) (st : List Value) (cu su : Nat) (h : Hp) : Lm sc pp 149 146 lv st cu su h = exS sc pp (Lm sc pp) 149 146 [(.iload 7, 2, []), (.iconst (-1), 1, []), (.if_icmp .eq 24, 3, [173])] lv st cu su h := Lm_eq (by decide) (by rfl) lv st cu su h
theorem L_149_152 (lv : Lv) (st : List Value) (cu su : Nat) (h : Hp) : Lm sc pp 149 152 lv st cu su h = exS sc pp (Lm sc pp) 149 152 [(.aload_n 1, 1, []), (.iload_n 3, 1, []), (.iload 7, 2, []), (.invokevirtual 91, 3, [146, 3, 1016, 0, 3, 0, 0, 0, 0, 8])] lv st cu su h := Lm_eq (by decide) (by rfl) lv st cu su h
theorem L_149_159 (lv : Lv) (st : List Value) (cu su : Nat) (h : Hp) : Lm sc pp 149 159 lv st cu su h = exS sc pp (Lm sc pp) 149 159 [(.ifCond .eq 14, 3, [173])] lv st cu su h := Lm_eq (by decide) (by rfl) lv st cu su h
theorem L_149_162 (lv : Lv) (st : List Value) (cu su : Nat) (h : Hp) : Lm sc pp 149 162 lv st cu su h = exS sc pp (Lm sc pp) 149 162 [(.aload_n 0, 1, []), (.aload_n 1, 1, []), (.iload_n 3, 1, []), (.iload 4, 2, []), (.invokevirtual 95, 3, [148, 4, 1020, 0, 6, 0, 0, 0, 0, 6])] lv st cu su h := Lm_eq (by decide) (by rfl) lv st cu su h
theorem L_149_170 (lv : Lv) (st : List Value) (cu su : Nat) (h : Hp) : Lm sc pp 149 170 lv st cu su h = exS sc pp (Lm sc pp) 149 170 [(.ifCond .ne 5, 3, [175])] lv st cu su h := Lm_eq (by decide) (by rfl) lv st cu su h
theorem L_149_173 (lv : Lv) (st : List Value) (cu su : Nat) (h : Hp) : Lm sc pp 149 173 lv st cu su h = exS sc pp (Lm sc pp) 149 173 [(.iconst 0, 1, []), (.ireturn, 1, [3])] lv st cu su h := Lm_eq (by decide) (by rfl) lv st cu su h
theorem L_149_175 (lv : Lv) (st : List Value) (cu su : Nat) (h : Hp) : Lm sc pp 149 175 lv st cu su h = exS sc pp (Lm sc pp) 149 175 [(.iconst 0, 1, []), (.istore 8, 2, [])] lv st cu su h := Lm_eq (by decide) (by rfl) lv st cu su h
theorem L_149_178 (lv : Lv) (st : List Value) (cu su : Nat) (h : Hp) : Lm sc pp 149 178 lv st cu su h = exS sc pp (Lm sc pp) 149 178 [(.iload 8, 2, []), (.aload_n 0, 1, []), (.getfield 25, 3, [6, 2, 2, 624, 0]), (.getfield 69, 3, [0, 1, 2, 367, 1]), (.getfield 73, 3, [4, 2, 0, 330, 1]), (.if_icmp .ge 35, 3, [225])] lv st cu su h := Lm_eq (by decide) (by rfl) lv st cu su h
theorem L_149_193 (lv : Lv) (st : List Value) (cu su : Nat) (h : Hp) : Lm sc pp 149 193 lv st cu su h = exS sc pp (Lm sc pp) 149 193 [(.aload_n 0, 1, []), (.aload_n 1, 1, []), (.iload 8, 2, []), (.iload 5, 2, []), (.invokevirtual 78, 3, [144, 4, 1007, 0, 4, 0, 0, 0, 0, 6])] lv st cu su h := Lm_eq (by decide) (by rfl) lv st cu su h
theorem L_149_202 (lv : Lv) (st : List Value) (cu su : Nat) (h : Hp) : Lm sc pp 149 202 lv st cu su h = exS sc pp (Lm sc pp) 149 202 [(.ifCond .eq 17, 3, [219])] lv st cu su h := Lm_eq (by decide) (by rfl) lv st cu su h
theorem L_149_205 (lv : Lv) (st : List Value) (cu su : Nat) (h : Hp) : Lm sc pp 149 205 lv st cu su h = exS sc pp (Lm sc pp) 149 205 [(.aload_n 1, 1, []), (.getfield 63, 3, [8, 0, 2, 166, 1]), (.iload 8, 2, []), (.dup2, 1, []), (.iaload, 1, []), (.iconst 1, 1, []), (.iload 7, 2, []), (.ishl, 1, []), (.ior, 1, []), (.iastore, 1, [])] lv st cu su h := Lm_eq (by decide) (by rfl) lv st cu su h
theorem L_149_219 (lv : Lv) (st : List Value) (cu su : Nat) (h : Hp) : Lm sc pp 149 219 lv st cu su h = exS sc pp (Lm sc pp) 149 219 [(.iinc 8 1, 3, []), (.goto (-44), 3, [178])] lv st cu su h := Lm_eq (by decide) (by rfl) lv st cu su h
theorem L_149_225 (lv : Lv) (st : List Value) (cu su : Nat) (h : Hp) : Lm sc pp 149 225 lv st cu su h = exS sc pp (Lm sc pp) 149 225 [(.aload_n 1, 1, []), (.getfield 98, 3, [8, 2, 2, 173, 1]), (.iload_n 3, 1, []), (.dup2, 1, []), (.iaload, 1, []), (.iconst 1, 1, []), (.iadd, 1, []), (.iastore, 1, []), (.iconst 1, 1, []), (.ireturn, 1, [3])] lv st cu su h := Lm_eq (by decide) (by rfl) lv st cu su h

theorem worth_congr {h h1 : Hp} {u c s a p q : Nat} {cd : Nat → Nat} {n : Nat} (e1 : hI h1 a = hI h a) (e2 : hI h1 (a + 2) = hI h (a + 2)) (e3 : hI h1 (c + 7) = hI h (c + 7)) (e4 : hI h1 (c + 8) = hI h (c + 8)) (e5 : hI h1 (c + 11) = hI h (c + 11)) (e6 : hI h1 u = hI h u) (e7 : hI h1 s 4 = hI h s 4) (e8 : hI h1 (s + 2) = hI h (s + 2)) (e9 : hI h1 (s + 3) = hI h (s + 3)) (e10 : hI h1 (s + 1) p = hI h (s + 1) p) : worthF h1 u c s a p q cd n = worthF h u c s a p q cd n := by
  have en : nmF h1 u c s p q = nmF h u c s p q := by
    funext j
    unfold nmF
    rw [e3, e4, e5, e6, e7, e8, e9, e10]
  unfold worthF
  rw [e1, e2, en]
noncomputable def knH (h : Hp) (u c s one q : Nat) (room sup : Int32) (cd : Nat → Nat) (n : Nat) (p : Nat) : Int32 :=
  @ite _ (p ≠ one ∧ (hI h (s + 2) p = room ∧ (hI h u 4 >>> (nI p &&& 31)) &&& 1 = 0) ∧ ¬ sup &&& (hI h (s + 1) p ^^^ (-1)) = 0 ∧ hearP (worthF h u c s (c + 21) p q cd n) (hI h (c + 11) q) (if hI h u 7 = 0 then hI h (c + 8) p else 9)) (Classical.propDecidable _) (hI h (s + 1) p ||| sup) (hI h (s + 1) p)
theorem x_dup2i {sc : Nat × (Nat → Int32)} {pp : Nat → Nat → Int32 → Int32 → Hp → Option (Hp × Int32)} {rec : Rec} {mi pc n cu su : Nat} {is : List Nat} {r : List MI} {lv : Lv} {st : List Value} {h : Hp} {x : Int32} {a : Nat} : exS sc pp rec mi pc ((.dup2, n, is) :: r) lv (.int x :: .ref a :: st) cu su h = exS sc pp rec mi (pc + n) r lv (.int x :: .ref a :: .int x :: .ref a :: st) cu su h := (rfl)
theorem c_pose_hear (u c s one other q m : Nat) (room sup : Int32) (cd : Nat → Nat) (n : Nat) (o8 : Option Value) (hcu : c + 24 ≤ u) (hsc : s + 5 ≤ c) (h1 : one < 5) (hq : q < 8) (hm5 : m ≤ 5) (h0 : Hp) (rs : Hp × Option Value) (P : Hp → Prop)
    (hend : ∀ h, Fr h0 h [u + 1, u + 2, s + 1] → (∀ p, hI h (s + 1) p = if p < m then knH h0 u c s one q room sup cd n p else hI h0 (s + 1) p) → ∃ h', P h' ∧ Lm sc pp 149 120 [some (.ref u), some (.ref s), some (.int (nI one)), some (.int (nI other)), some (.int (nI q)), some (.int room), some (.int sup), some (.int (nI m)), o8] [] 0 0 h = some (h', rs.2)) (hU : isU h0 u) (hRu : hR h0 u 2 = c + 1) (hC : isC h0 c) (hs : isS h0 s) (hm : hI h0 (c + 3) 2 = nI m) (hcd : codesOK h0 (c + 21) cd n) :
    ∀ (d k : Nat) (h : Hp), k + d = m → Fr h0 h [u + 1, u + 2, s + 1] → (∀ p, hI h (s + 1) p = if p < k then knH h0 u c s one q room sup cd n p else hI h0 (s + 1) p) → ∃ h', P h' ∧ Lm sc pp 149 42 [some (.ref u), some (.ref s), some (.int (nI one)), some (.int (nI other)), some (.int (nI q)), some (.int room), some (.int sup), some (.int (nI k)), o8] [] 0 0 h = some (h', rs.2) := by
  intro d
  induction d with
  | zero =>
    intro k h hk fr hv
    have : k = m := by omega
    subst this
    obtain ⟨h', p1, e⟩ := hend h fr hv
    refine ⟨h', p1, ?_⟩
    have hU' := hU.move fr
    have hC' := hC.move fr
    have hR' : hR h u 2 = c + 1 := by rw [fr.2.2.2.1]; exact hRu
    have hm' : hI h (c + 3) 2 = nI k := by rw [fr.I (by simp; omega)]; exact hm
    rw [L_149_42]
    simp only [x_nil, Nat.reduceAdd, x_iload7, x_aload_n0, x_getR, x_getI, x_icmp_ge, U_k0 hU', hR', C_k0 hC', C_r0_1 hC', C_k3 hC', hm', if_true, nI_self (show k < 2 ^ 31 by omega)]
    exact e
  | succ d ih =>
    intro k h hk fr hv
    have hU' := hU.move fr
    have hC' := hC.move fr
    have hs' := hs.move fr
    have hR' : hR h u 2 = c + 1 := by rw [fr.2.2.2.1]; exact hRu
    have hm' : hI h (c + 3) 2 = nI m := by rw [fr.I (by simp; omega)]; exact hm
    have hck := nI_clamp (show k < 2 ^ 31 by omega)
    have zk : ¬ nI k < 0 := nI_pos (by omega)
    have yk : ¬ 5 ≤ k := by omega
    have zc : ¬ nI m ≤ nI k := nI_ge (by omega) (by omega)
    have eo : nI k = nI one ↔ k = one := nI_eq (by omega) (by omega)
    have ein := c_isIn (sc := sc) (pp := pp) u s k room h hU' hs' (by omega)
    have j2 : hI h (s + 2) = hI h0 (s + 2) := fr.I (by simp; omega)
    have ju : hI h u = hI h0 u := fr.I (by simp; omega)
    have jk : hI h (s + 1) k = hI h0 (s + 1) k := by rw [hv k, if_neg (by omega)]
    rw [j2, ju] at ein
    have next : ∀ h2, Fr h0 h2 [u + 1, u + 2, s + 1] → (∀ p, hI h2 (s + 1) p = if p < k + 1 then knH h0 u c s one q room sup cd n p else hI h0 (s + 1) p) → ∃ h', P h' ∧ Lm sc pp 149 42 [some (.ref u), some (.ref s), some (.int (nI one)), some (.int (nI other)), some (.int (nI q)), some (.int room), some (.int sup), some (.int (nI (k + 1))), o8] [] 0 0 h2 = some (h', rs.2) := fun h2 f2 v2 => ih (k + 1) h2 (by omega) f2 v2
    have skip : knH h0 u c s one q room sup cd n k = hI h0 (s + 1) k → ∀ p, hI h (s + 1) p = if p < k + 1 then knH h0 u c s one q room sup cd n p else hI h0 (s + 1) p := by
      intro hkk p
      rw [hv p]
      by_cases hp : p = k
      · subst hp; rw [if_neg (by omega), if_pos (by omega), hkk]
      · by_cases hp2 : p < k
        · rw [if_pos hp2, if_pos (by omega)]
        · rw [if_neg hp2, if_neg (by omega)]
    sorry
end T25
