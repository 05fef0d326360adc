-- light
-- both, one behind the other, on one heap
def WZ (z : Hp) (k : Nat) : Prop := GW z z k ∧ XW z ∧ YW z ∧ hn z = 240 ∧ kd z 239 = 14 ∧ hN z 239 = 1
section T95
variable {sc : Nat × (Nat → Int32)} {pp : Nat → Nat → Int32 → Int32 → Hp → Option (Hp × Int32)} {h h' g g' : Hp} {c d : Nat} {co st im : Mx} {hs : Nat → Mx} {nt ax : Mx} {hl : Nat → Mx} {n B : Nat}
/-- the class doesn't see what the reference does -/
theorem CI.mvB (I : CI h c d co st im hs nt ax) (a1 : hn h' = hn h) (a2 : hK h' = hK h) (a3 : hN h' = hN h) (a4 : hR h' = hR h) (r : ∀ k, k < 197 → hI h' k = hI h k) : CI h' c d co st im hs nt ax := by
  have hcd := I.cd
  have s : SHp h h' := ⟨⟨a1, a2, a3⟩, fun k _ _ _ => by rw [a4], fun j _ _ => by rw [a4], ⟨by rw [a4], by rw [a4]⟩, ⟨by rw [a4], by rw [a4]⟩⟩
  exact ⟨I.x.sh s, hcd, ⟨by rw [a4]; exact I.rc, by rw [a4]; exact I.rd⟩, ⟨⟨I.C.1.sh s (by omega), fun q hq => by rw [r _ (by omega)]; exact I.C.2 q hq⟩, I.w⟩, I.D.sh s (by omega), I.S.sh s (by omega) (fun i _ _ => r i (by omega)), I.imS.sh s (by omega) (fun i _ _ => r i (by omega)), fun i hi => (I.hsS hi).sh s (by omega) (fun j _ _ => r j (by omega)), ⟨I.n.sh s, fun q hq => by rw [r _ (by omega)]; exact I.ntR hq⟩, I.q.sh s, I.t.sh s (by omega), I.u.sh s, by rw [r 0 (by omega)]; exact I.axR.1, by rw [r 1 (by omega)]; exact I.axR.2.1, by rw [r 12 (by omega)]; exact I.axR.2.2⟩
theorem isD.mvA (D : isD g) (a1 : hn g' = hn g) (a2 : hK g' = hK g) (a3 : hN g' = hN g) (aR : hR g' 197 = hR g 197) : isD g' := by
  have k : ∀ i, kd g' i = kd g i := fun i => by simp only [kd, a1, a2]
  unfold isD at *
  simp only [k, a3, aR]
  exact D
/-- the reference doesn't see what the class does -/
theorem DI.mvA (D : DI g co st im hl n nt ax) (a1 : hn g' = hn g) (a2 : hK g' = hK g) (a3 : hN g' = hN g) (aR : hR g' 197 = hR g 197) (aI : ∀ k, 197 ≤ k → k ≤ 238 → hI g' k = hI g k) (aJ : ∀ k, 197 ≤ k → k ≤ 238 → hJ g' k = hJ g k) : DI g' co st im hl n nt ax := by
  have hD := D.1.1.mvA a1 a2 a3 aR
  obtain ⟨⟨_, b⟩, e⟩ := D
  refine ⟨⟨hD, ?_⟩, ?_⟩
  · unfold lawD lawK at *
    simp only [aI 197 (by omega) (by omega), aI 198 (by omega) (by omega), aI 201 (by omega) (by omega), aI 202 (by omega) (by omega), aI 203 (by omega) (by omega), aI 204 (by omega) (by omega), aI 205 (by omega) (by omega), aI 206 (by omega) (by omega), aI 207 (by omega) (by omega), aI 208 (by omega) (by omega), aI 209 (by omega) (by omega), aI 210 (by omega) (by omega), aI 211 (by omega) (by omega), aI 212 (by omega) (by omega), aI 213 (by omega) (by omega), aI 214 (by omega) (by omega), aI 215 (by omega) (by omega), aI 216 (by omega) (by omega), aI 217 (by omega) (by omega), aI 218 (by omega) (by omega), aI 219 (by omega) (by omega), aI 220 (by omega) (by omega), aI 221 (by omega) (by omega), aI 226 (by omega) (by omega), aI 227 (by omega) (by omega), aI 228 (by omega) (by omega), aI 229 (by omega) (by omega), aI 230 (by omega) (by omega), aI 234 (by omega) (by omega), aI 236 (by omega) (by omega), aI 238 (by omega) (by omega)]
    exact b
  · unfold repB repN repRow at *
    simp only [aI 197 (by omega) (by omega), aI 198 (by omega) (by omega), aI 201 (by omega) (by omega), aI 202 (by omega) (by omega), aI 203 (by omega) (by omega), aI 204 (by omega) (by omega), aI 205 (by omega) (by omega), aI 206 (by omega) (by omega), aI 207 (by omega) (by omega), aI 208 (by omega) (by omega), aI 209 (by omega) (by omega), aI 210 (by omega) (by omega), aI 211 (by omega) (by omega), aI 212 (by omega) (by omega), aI 213 (by omega) (by omega), aI 214 (by omega) (by omega), aI 215 (by omega) (by omega), aI 216 (by omega) (by omega), aI 217 (by omega) (by omega), aI 218 (by omega) (by omega), aI 219 (by omega) (by omega), aI 220 (by omega) (by omega), aI 221 (by omega) (by omega), aI 226 (by omega) (by omega), aI 227 (by omega) (by omega), aI 228 (by omega) (by omega), aI 229 (by omega) (by omega), aI 230 (by omega) (by omega), aI 234 (by omega) (by omega), aI 236 (by omega) (by omega), aI 238 (by omega) (by omega), aJ 197 (by omega) (by omega), aJ 237 (by omega) (by omega)]
    exact e
theorem XW.mvB (x : XW h) (r : ∀ k, k < 197 → hI h' k = hI h k) : XW h' := by
  unfold XW at *
  rw [r 191 (by omega), r 142 (by omega), r 144 (by omega), r 146 (by omega), r 166 (by omega), r 168 (by omega), r 170 (by omega)]
  exact x
theorem both {A B : Hp → Rs} {z : Hp} {k : Nat} (W : WZ z k) (o : ∀ h g c d co st im hs nt ax hl n, CI h c d co st im hs nt ax → DI g co st im hl n nt ax → HR hs ax hl n → wfW k co st im hl n nt ax → XW h → YW g → Out (A h) (B g) h g (k + 1)) : ∃ z1 z2 r, A z = some (z1, some r) ∧ B z1 = some (z2, some r) ∧ (∀ i, kd z1 i = kd z i) ∧ WZ z2 (k + 1) := by
  obtain ⟨⟨c, d, co, st, im, hs, nt, ax, hl, n, I, D, H, w⟩, xw, yw, n0, k9, n9⟩ := W
  obtain ⟨z1, _, r, e1, _, fa, _, _⟩ := o z z c d co st im hs nt ax hl n I D H w xw yw
  have D1 : DI z1 co st im hl n nt ax := D.mvA fa.1 fa.2.1 fa.2.2.1 (fa.2.2.2.1 197 (by omega)).2.2 (fun k h1 _ => (fa.2.2.2.1 k (by omega)).1) (fun k h1 _ => (fa.2.2.2.1 k (by omega)).2.1)
  have y1 : YW z1 := fun j hj => by rw [(fa.2.2.2.1 199 (by omega)).1]; exact yw j hj
  obtain ⟨h', z2, r', e3, e4, fa', fb, gw⟩ := o z z1 c d co st im hs nt ax hl n I D1 H w xw y1
  rw [e1] at e3
  injection e3 with e5
  injection e5 with e6 e7
  injection e7 with e8
  subst e6 e8
  have rI : ∀ k, k < 197 → hI z2 k = hI z1 k := fun k hk => funext fun j => fb.I (by unfold inB; omega)
  obtain ⟨c', d', co', st', im', hs', nt', ax', hl', n', I', D', H', w'⟩ := gw
  refine ⟨z1, z2, r, e1, e4, fun i => by simp only [kd, fa.1, fa.2.1], ⟨c', d', co', st', im', hs', nt', ax', hl', n', I'.mvB fb.1 fb.2.1 fb.2.2.1 fb.2.2.2.1 rI, D', H', w'⟩, (xw.mv fa).mvB rI, y1.mv fb, by rw [fb.1, fa.1]; exact n0, ?_, by rw [fb.2.2.1, fa.2.2.1]; exact n9⟩
  rw [fb.kd]
  simp only [kd, fa.1, fa.2.1] at k9 ⊢
  exact k9
end T95
