-- light
-- text, of both
section T91
variable {sc : Nat × (Nat → Int32)} {pp : Nat → Nat → Int32 → Int32 → Hp → Option (Hp × Int32)} {h g : Hp} {c d : Nat} {co st im : Mx} {hs : Nat → Mx} {nt ax : Mx} {hl : Nat → Mx} {m B : Nat}
/-- what both have read behind the lines -/
theorem t_lines (n : Nat) {a : Nat} (I : CI h c d co st im hs nt ax) (D : DI g co st im hl m nt ax) (w : wfW B co st im hl m nt ax) (xw : XW h) (yw : YW g) (ha : hI g 197 1 = nI a) (hna : n ≤ a) (h7 : a ≤ 700) : ∃ h5 g5 v, Lm sc pp 61 0 [some (.ref 189), some (.ref d), some (.int (nI n)), none] [] 0 0 (sI h 0 11 0) = some (h5, some (.int v)) ∧ FrT d (sI h 0 11 0) h5 ∧ FrP g g5 pX qNo ∧ hI g5 197 1 = 0 ∧ ((v = 0 ∧ ∃ l nf np nq nt' kn, l ≤ 700 ∧ Lm sc pp 101 0 [some (.ref 197), some (.int (nI n)), none] [] 0 0 g = Lm sc pp 101 77 [some (.ref 197), some (.int (nI n)), some (.int (nI l))] [] 0 0 g5 ∧ hI h5 189 5 = nI l ∧ hI g5 197 4 = 0 ∧ hI g5 197 5 = -1 ∧ RC h5 g5 d nf np nq nt' kn) ∨ (¬ v = 0 ∧ Lm sc pp 101 0 [some (.ref 197), some (.int (nI n)), none] [] 0 0 g = some (g5, some (.int (-1))) ∧ hI g5 197 4 = v ∧ hI g5 197 5 = hI h5 190 5)) := by
  have hcd := I.cd
  have hd : d = 141 ∨ d = 165 := by omega
  have hD := D.1.1
  have F0 : Fr h (sI h 0 11 0) [0] := Fr_sI (by simp)
  -- the bytes
  obtain ⟨t, ht, htp⟩ : ∃ t : Nat → Nat, (∀ j, t j < 256) ∧ ∀ j, j < 700 → ax 1 j = nI (t j) := by
    refine ⟨fun j => if j < 700 then nO (ax 1 j) else 0, fun j => ?_, fun j hj => ?_⟩
    · show (if _ then _ else _) < _
      split
      · next q =>
        obtain ⟨v, hv, ev⟩ := w.2.2.2.2.2.2 j q
        rw [ev, nO_nI (by omega)]; exact hv
      · omega
    · obtain ⟨v, hv, ev⟩ := w.2.2.2.2.2.2 j hj
      show _ = nI (if _ then _ else _)
      rw [if_pos hj, ev, nO_nI (by omega)]
  obtain ⟨h2, FT2, X2, ⟨a2, a3⟩, ⟨a4, a5⟩, ⟨v1, v2, v3, v4, v5, v6, v7, v8, v9, v10, v11⟩, run⟩ := c_readStart (sc := sc) (pp := pp) (h := sI h 0 11 0) (d := d) n (by omega) (I.x.mv F0) (I.D.move F0) hd
  have r2 := FT2.2.2.2.2.2.2.1
  have e1 : hI h2 1 = ax 1 := by rw [(r2 1 (by omega) (by omega) (by omega) (by omega) (by omega)).1, F0.I (by simp)]; exact I.axR.2.1
  have e191 : hI h2 191 = hI h 191 := by rw [(r2 191 (by omega) (by omega) (by omega) (by omega) (by omega)).1, F0.I (by simp)]
  have KTh : KT h2 t := ⟨X_k190 X2.1, X_k1 X2.1, X_n1 X2.1, X_r190_0 X2.1, X_r190_1 X2.1, X_k191 X2.1, X_n191 X2.1, fun j hj => by rw [e1]; exact htp j hj, fun j hj => by rw [e191]; exact xw.1 j hj⟩
  have Gs : FrP g (stG g n) (fun k j => k = 197 ∧ (j = 1 ∨ j = 2 ∨ (4 ≤ j ∧ j ≤ 7))) qNo := by
    unfold stG
    exact (((((FrP_sI (by omega)).trans (FrP_sI (by omega))).trans (FrP_sI (by omega))).trans (FrP_sI (by omega))).trans (FrP_sI (by omega))).trans (FrP_sI (by omega))
  have sv : hI (stG g n) 197 6 = nI n ∧ hI (stG g n) 197 7 = 0 ∧ hI (stG g n) 197 1 = 0 ∧ hI (stG g n) 197 4 = 0 ∧ hI (stG g n) 197 5 = -1 := by
    unfold stG
    simp [hII]
  have Gp := plH_F (g := stG g n)
  obtain ⟨w1, w2, w3, w4, w5, w6, w7, w8, w9, w10, w11, w12⟩ := plH_v (g := stG g n)
  have st := d_textStart (sc := sc) (pp := pp) n a hD ha hna h7
  generalize stG g n = gs at *
  generalize plH gs = g2 at *
  have G2 : FrP g g2 pX qNo := (Gs.mono (fun k j q => by unfold pX pU; omega) (fun _ _ q => q)).trans (Gp.mono (fun k j q => by unfold pPl at q; unfold pX pU; omega) (fun _ _ q => q))
  have KDg : KD g2 t := ⟨hD.moveP G2, fun j hj => by rw [Gp.I (by unfold pPl; omega), Gs.I (by omega), D.2.2.2.2.2.2.1 j hj]; exact htp j hj, fun j hj => by rw [Gp.I (by unfold pPl; omega), Gs.I (by omega)]; exact yw j hj, by rw [Gp.I (by unfold pPl; omega)]; exact sv.2.2.2.1, by rw [Gp.I (by unfold pPl; omega)]; exact sv.2.2.2.2⟩
  obtain ⟨h3, g3, p', k', em, et, Fm, Gm, T3, -, pk⟩ := m_move (sc := sc) (pp := pp) (h := h2) (g := g2) (p := 0) (k := 0) ht (by omega) (Nat.zero_le n) KTh KDg a2 a3 (by rw [Gp.I (by unfold pPl; omega)]; exact sv.1) (by rw [Gp.I (by unfold pPl; omega)]; exact sv.2.1)
  have k3 : kd h3 189 = 9 := by rw [Fm.kd]; exact X_k189 X2.1
  have eA := run h3 em k3
  have eB := st g3 et
  have F4 : Fr h2 (sI h3 189 5 0) [189, 190] := (Fm.mono (by simp)).trans (Fr_sI (by simp))
  have T4 := T3.mv (show Fr h3 (sI h3 189 5 0) [189] from Fr_sI (by simp)) (by simp) (by simp) (by simp) (FrP.refl g3 (fun _ _ => False) qNo) (fun k j q => q.elim)
  have q4 : ∀ k, k < 189 → hI (sI h3 189 5 0) k = hI h2 k := fun k _ => F4.I (by simp <;> omega)
  have q9 : ∀ j, j ≠ 5 → hI (sI h3 189 5 0) 189 j = hI h2 189 j := fun j _ => by rw [hII, if_neg (by omega), Fm.I (by simp)]
  have g3v : ∀ k j, ¬ (k = 197 ∧ 7 ≤ j ∧ j ≤ 10) → hI g3 k j = hI g2 k j := fun k j q => Gm.I (by unfold pTk; exact q)
  have mo : hI h2 (d + 1) 1 = nI 8 ∧ hI h2 (d + 3) 1 = nI 5 ∧ hI h2 (d + 5) 1 = nI 8 := by
    rw [FT2.2.2.2.2.2.2.2.1, FT2.2.2.2.2.2.2.2.2.1, FT2.2.2.2.2.2.2.2.2.2, F0.I (by simp <;> omega), F0.I (by simp <;> omega), F0.I (by simp <;> omega)]
    rcases hd with rfl | rfl
    · exact xw.2.1
    · exact xw.2.2
  have C4 : RC (sI h3 189 5 0) g3 d 0 0 0 0 0 := by
    refine ⟨X2.mv F4, T3.2.1.1, ?_, ⟨by omega, ?_, ?_, fun i hi => absurd hi (by omega)⟩, ⟨by omega, ?_, ?_, fun i hi => absurd hi (by omega)⟩, ⟨by omega, ?_, ?_, fun i hi => absurd hi (by omega)⟩, ⟨by omega, ?_, ?_, fun i hi => absurd hi (by omega)⟩, ⟨⟨9, by omega, ?_, ?_⟩, ⟨0, by omega, ?_, ?_⟩, ⟨?_, ?_⟩, ⟨?_, ?_⟩⟩, ⟨by omega, ?_, ?_, ?_, ⟨?_, Or.inl ⟨?_, ?_⟩⟩, ⟨?_, Or.inl ⟨?_, ?_⟩⟩⟩⟩
    · rw [q4 _ (by omega), q4 _ (by omega), q4 _ (by omega)]; exact mo
    · rw [q4 _ (by omega)]; exact v1
    · rw [g3v _ _ (by omega)]; exact w1
    · rw [q4 _ (by omega)]; exact v2
    · rw [g3v _ _ (by omega)]; exact w2
    · rw [q4 _ (by omega)]; exact v3
    · rw [g3v _ _ (by omega)]; exact w3
    · rw [q4 _ (by omega)]; exact v8
    · rw [g3v _ _ (by omega)]; exact w4
    · rw [q4 _ (by omega)]; exact v9
    · rw [g3v _ _ (by omega)]; exact w9
    · rw [q4 _ (by omega)]; exact v10
    · rw [g3v _ _ (by omega)]; exact w10
    · rw [q9 _ (by omega), g3v _ _ (by omega), a4, w7]
    · rw [q9 _ (by omega)]; exact Or.inl a4
    · rw [q9 _ (by omega), g3v _ _ (by omega), a5, w8]
    · rw [q9 _ (by omega)]; exact Or.inl a5
    · rw [q4 _ (by omega)]; exact v11
    · rw [g3v _ _ (by omega)]; exact w5
    · rw [g3v _ _ (by omega)]; exact w6
    · rw [g3v _ _ (by omega), q4 _ (by omega), w11, v5]
    · rw [q4 _ (by omega)]; exact v5
    · rw [q4 _ (by omega)]; exact v4
    · rw [g3v _ _ (by omega), q4 _ (by omega), w12, v7]
    · rw [q4 _ (by omega)]; exact v7
    · rw [q4 _ (by omega)]; exact v6
  have FT4 : FrT d (sI h 0 11 0) (sI h3 189 5 0) := FT2.trans (FrT.of' F4 (by simp) (by omega))
  have G3 : FrP g g3 pX qNo := G2.trans (Gm.mono (fun k j q => Or.inl (tk_U q)) (fun _ _ q => q))
  have g1z : ∀ x, FrP g3 x pU qNo → FrP g x pX qNo ∧ hI x 197 1 = 0 := fun x G => ⟨G3.trans (G.mono (fun _ _ q => Or.inl q) (fun _ _ q => q)), by rw [G.I (by unfold pU; omega), g3v _ _ (by omega), Gp.I (by unfold pPl; omega)]; exact sv.2.2.1⟩
  have key := m_textLoop (sc := sc) (pp := pp) (d := d) ht (by omega : n ≤ 700) 701 0 p' k' 0 0 0 0 0 none (sI h3 189 5 0) g3 rfl (Nat.zero_le _) (fun z => by have := pk z; omega) T4 C4 (by rw [hII, if_pos ⟨rfl, rfl⟩]; rfl)
  rw [nI_0] at key
  obtain ⟨h5, g5, v, b1, b2, b3, res⟩ := key
  obtain ⟨c1, c2⟩ := g1z g5 b3
  refine ⟨h5, g5, v, by rw [eA]; exact b1, FT4.trans b2, c1, c2, ?_⟩
  rcases res with ⟨q, l, nf, np, nq, nt', kn, x1, x2, x3, x4, x5⟩ | ⟨x0, x1, x2, x3⟩
  · exact Or.inl ⟨q, l, nf, np, nq, nt', kn, x1, by rw [eB]; exact x2, x3, x4.1, x4.2, x5⟩
  · exact Or.inr ⟨x0, by rw [eB]; exact x1, x2, x3⟩
end T91
