-- frames of the small machine's heap; State
def Fr (h h' : Hp) (L : List Nat) : Prop := hn h' = hn h ∧ hK h' = hK h ∧ hN h' = hN h ∧ hR h' = hR h ∧ ∀ k, k ∉ L → hI h' k = hI h k ∧ hJ h' k = hJ h k
theorem Fr.refl (h : Hp) (L : List Nat) : Fr h h L := ⟨rfl, rfl, rfl, rfl, fun _ _ => ⟨rfl, rfl⟩⟩
theorem Fr.trans {h h1 h2 : Hp} {L : List Nat} (a : Fr h h1 L) (b : Fr h1 h2 L) : Fr h h2 L := ⟨b.1.trans a.1, b.2.1.trans a.2.1, b.2.2.1.trans a.2.2.1, b.2.2.2.1.trans a.2.2.2.1, fun k hk => ⟨(b.2.2.2.2 k hk).1.trans (a.2.2.2.2 k hk).1, (b.2.2.2.2 k hk).2.trans (a.2.2.2.2 k hk).2⟩⟩
theorem Fr.mono {h h1 : Hp} {L M : List Nat} (a : Fr h h1 L) (hs : ∀ k, k ∈ L → k ∈ M) : Fr h h1 M := ⟨a.1, a.2.1, a.2.2.1, a.2.2.2.1, fun k hk => a.2.2.2.2 k (fun q => hk (hs k q))⟩
theorem Fr.kd {h h' : Hp} {L : List Nat} (a : Fr h h' L) (k : Nat) : kd h' k = kd h k := by
  simp only [Jvm.Pilot.@@N@@.kd, a.1, a.2.1]
theorem Fr.I {h h' : Hp} {L : List Nat} (a : Fr h h' L) {k : Nat} (hk : k ∉ L) : hI h' k = hI h k := (a.2.2.2.2 k hk).1
theorem hI_ne {h : Hp} {a j k : Nat} {v : Int32} (hk : k ≠ a) : hI (sI h a j v) k = hI h k := up2_ne hk
theorem hI_eq {h : Hp} {a j : Nat} {v : Int32} : hI (sI h a j v) a j = v := up2_eq
theorem hI_nj {h : Hp} {a j b : Nat} {v : Int32} (hb : b ≠ j) : hI (sI h a j v) a b = hI h a b := up2_nj hb
theorem hI_sI {h : Hp} {a j b i : Nat} {v : Int32} : hI (sI h a j v) b i = if b = a ∧ i = j then v else hI h b i := rfl
theorem ofInt1 : Int32.ofInt 1 = 1 := rfl
theorem Fr_sI {h : Hp} {a j : Nat} {v : Int32} {L : List Nat} (ha : a ∈ L) : Fr h (sI h a j v) L := ⟨rfl, rfl, rfl, rfl, fun k hk => ⟨hI_ne (fun q => hk (q ▸ ha)), rfl⟩⟩
theorem kd_sI {h : Hp} {a j k : Nat} {v : Int32} : kd (sI h a j v) k = kd h k := rfl
theorem hN_sI {h : Hp} {a j : Nat} {v : Int32} : hN (sI h a j v) = hN h := rfl
theorem hR_sI {h : Hp} {a j : Nat} {v : Int32} : hR (sI h a j v) = hR h := rfl
theorem hJ_sI {h : Hp} {a j : Nat} {v : Int32} : hJ (sI h a j v) = hJ h := rfl
theorem inb {k n : Nat} (hk : k < n) (hn : n < 2 ^ 31) : ¬ (nI k < 0 ∨ n ≤ (nI k).toNatClampNeg) := nI_in hk hn
-- shapes: what kinds, lengths and references the cells from c on have
def isS (h : Hp) (c : Nat) : Prop := kd h c = 8 ∧ kd h (c + 1) = 13 ∧ kd h (c + 2) = 13 ∧ kd h (c + 3) = 13 ∧ kd h (c + 4) = 13 ∧ hN h (c + 1) = 5 ∧ hN h (c + 2) = 5 ∧ hN h (c + 3) = 5 ∧ hN h (c + 4) = 5 ∧ hR h c 0 = c + 2 ∧ hR h c 1 = c + 3 ∧ hR h c 2 = c + 4 ∧ hR h c 3 = c + 5
theorem S_k0 {h : Hp} {c : Nat} (a : isS h c) : kd h c = 8 := a.1
theorem S_k1 {h : Hp} {c : Nat} (a : isS h c) : kd h (c + 1) = 13 := a.2.1
theorem S_k2 {h : Hp} {c : Nat} (a : isS h c) : kd h (c + 2) = 13 := a.2.2.1
theorem S_k3 {h : Hp} {c : Nat} (a : isS h c) : kd h (c + 3) = 13 := a.2.2.2.1
theorem S_k4 {h : Hp} {c : Nat} (a : isS h c) : kd h (c + 4) = 13 := a.2.2.2.2.1
theorem S_n1 {h : Hp} {c : Nat} (a : isS h c) : hN h (c + 1) = 5 := a.2.2.2.2.2.1
theorem S_n2 {h : Hp} {c : Nat} (a : isS h c) : hN h (c + 2) = 5 := a.2.2.2.2.2.2.1
theorem S_n3 {h : Hp} {c : Nat} (a : isS h c) : hN h (c + 3) = 5 := a.2.2.2.2.2.2.2.1
theorem S_n4 {h : Hp} {c : Nat} (a : isS h c) : hN h (c + 4) = 5 := a.2.2.2.2.2.2.2.2.1
theorem S_r0_0 {h : Hp} {c : Nat} (a : isS h c) : hR h c 0 = c + 2 := a.2.2.2.2.2.2.2.2.2.1
theorem S_r0_1 {h : Hp} {c : Nat} (a : isS h c) : hR h c 1 = c + 3 := a.2.2.2.2.2.2.2.2.2.2.1
theorem S_r0_2 {h : Hp} {c : Nat} (a : isS h c) : hR h c 2 = c + 4 := a.2.2.2.2.2.2.2.2.2.2.2.1
theorem S_r0_3 {h : Hp} {c : Nat} (a : isS h c) : hR h c 3 = c + 5 := a.2.2.2.2.2.2.2.2.2.2.2.2
theorem isS.move {h h' : Hp} {c : Nat} {L : List Nat} (a : isS h c) (f : Fr h h' L) : isS h' c := by
  unfold isS at *
  simp only [f.kd, f.2.2.1, f.2.2.2.1]
  exact a
def isC (h : Hp) (c : Nat) : Prop := kd h c = 0 ∧ kd h (c + 1) = 4 ∧ kd h (c + 2) = 13 ∧ kd h (c + 3) = 4 ∧ kd h (c + 4) = 13 ∧ kd h (c + 5) = 4 ∧ kd h (c + 6) = 13 ∧ kd h (c + 7) = 13 ∧ kd h (c + 8) = 13 ∧ kd h (c + 9) = 13 ∧ kd h (c + 10) = 13 ∧ kd h (c + 11) = 13 ∧ kd h (c + 12) = 13 ∧ kd h (c + 13) = 13 ∧ kd h (c + 14) = 13 ∧ kd h (c + 15) = 13 ∧ kd h (c + 16) = 13 ∧ kd h (c + 17) = 13 ∧ kd h (c + 18) = 2 ∧ kd h (c + 19) = 13 ∧ kd h (c + 20) = 13 ∧ kd h (c + 21) = 2 ∧ kd h (c + 22) = 13 ∧ kd h (c + 23) = 13 ∧ hN h (c + 2) = 8 ∧ hN h (c + 4) = 8 ∧ hN h (c + 6) = 8 ∧ hN h (c + 7) = 5 ∧ hN h (c + 8) = 5 ∧ hN h (c + 9) = 5 ∧ hN h (c + 10) = 5 ∧ hN h (c + 11) = 8 ∧ hN h (c + 12) = 8 ∧ hN h (c + 13) = 8 ∧ hN h (c + 14) = 8 ∧ hN h (c + 15) = 10 ∧ hN h (c + 16) = 10 ∧ hN h (c + 17) = 10 ∧ hN h (c + 19) = 64 ∧ hN h (c + 20) = 64 ∧ hN h (c + 22) = 64 ∧ hN h (c + 23) = 64 ∧ hR h c 0 = c + 2 ∧ hR h c 1 = c + 4 ∧ hR h c 2 = c + 6 ∧ hR h c 3 = c + 8 ∧ hR h c 4 = c + 9 ∧ hR h c 5 = c + 10 ∧ hR h c 6 = c + 11 ∧ hR h c 7 = c + 12 ∧ hR h c 8 = c + 13 ∧ hR h c 9 = c + 14 ∧ hR h c 10 = c + 15 ∧ hR h c 11 = c + 16 ∧ hR h c 12 = c + 17 ∧ hR h c 13 = c + 18 ∧ hR h c 14 = c + 19 ∧ hR h c 15 = c + 22 ∧ hR h (c + 1) 0 = c + 3 ∧ hR h (c + 3) 0 = c + 5 ∧ hR h (c + 5) 0 = c + 7 ∧ hR h (c + 18) 0 = c + 20 ∧ hR h (c + 18) 1 = c + 21 ∧ hR h (c + 21) 0 = c + 23 ∧ hR h (c + 21) 1 = c + 24
theorem C_k0 {h : Hp} {c : Nat} (a : isC h c) : kd h c = 0 := a.1
theorem C_k1 {h : Hp} {c : Nat} (a : isC h c) : kd h (c + 1) = 4 := a.2.1
theorem C_k2 {h : Hp} {c : Nat} (a : isC h c) : kd h (c + 2) = 13 := a.2.2.1
theorem C_k3 {h : Hp} {c : Nat} (a : isC h c) : kd h (c + 3) = 4 := a.2.2.2.1
theorem C_k4 {h : Hp} {c : Nat} (a : isC h c) : kd h (c + 4) = 13 := a.2.2.2.2.1
theorem C_k5 {h : Hp} {c : Nat} (a : isC h c) : kd h (c + 5) = 4 := a.2.2.2.2.2.1
theorem C_k6 {h : Hp} {c : Nat} (a : isC h c) : kd h (c + 6) = 13 := a.2.2.2.2.2.2.1
theorem C_k7 {h : Hp} {c : Nat} (a : isC h c) : kd h (c + 7) = 13 := a.2.2.2.2.2.2.2.1
theorem C_k8 {h : Hp} {c : Nat} (a : isC h c) : kd h (c + 8) = 13 := a.2.2.2.2.2.2.2.2.1
theorem C_k9 {h : Hp} {c : Nat} (a : isC h c) : kd h (c + 9) = 13 := a.2.2.2.2.2.2.2.2.2.1
theorem C_k10 {h : Hp} {c : Nat} (a : isC h c) : kd h (c + 10) = 13 := a.2.2.2.2.2.2.2.2.2.2.1
theorem C_k11 {h : Hp} {c : Nat} (a : isC h c) : kd h (c + 11) = 13 := a.2.2.2.2.2.2.2.2.2.2.2.1
theorem C_k12 {h : Hp} {c : Nat} (a : isC h c) : kd h (c + 12) = 13 := a.2.2.2.2.2.2.2.2.2.2.2.2.1
theorem C_k13 {h : Hp} {c : Nat} (a : isC h c) : kd h (c + 13) = 13 := a.2.2.2.2.2.2.2.2.2.2.2.2.2.1
theorem C_k14 {h : Hp} {c : Nat} (a : isC h c) : kd h (c + 14) = 13 := a.2.2.2.2.2.2.2.2.2.2.2.2.2.2.1
theorem C_k15 {h : Hp} {c : Nat} (a : isC h c) : kd h (c + 15) = 13 := a.2.2.2.2.2.2.2.2.2.2.2.2.2.2.2.1
theorem C_k16 {h : Hp} {c : Nat} (a : isC h c) : kd h (c + 16) = 13 := a.2.2.2.2.2.2.2.2.2.2.2.2.2.2.2.2.1
theorem C_k17 {h : Hp} {c : Nat} (a : isC h c) : kd h (c + 17) = 13 := a.2.2.2.2.2.2.2.2.2.2.2.2.2.2.2.2.2.1
theorem C_k18 {h : Hp} {c : Nat} (a : isC h c) : kd h (c + 18) = 2 := a.2.2.2.2.2.2.2.2.2.2.2.2.2.2.2.2.2.2.1
theorem C_k19 {h : Hp} {c : Nat} (a : isC h c) : kd h (c + 19) = 13 := a.2.2.2.2.2.2.2.2.2.2.2.2.2.2.2.2.2.2.2.1
theorem C_k20 {h : Hp} {c : Nat} (a : isC h c) : kd h (c + 20) = 13 := a.2.2.2.2.2.2.2.2.2.2.2.2.2.2.2.2.2.2.2.2.1
theorem C_k21 {h : Hp} {c : Nat} (a : isC h c) : kd h (c + 21) = 2 := a.2.2.2.2.2.2.2.2.2.2.2.2.2.2.2.2.2.2.2.2.2.1
theorem C_k22 {h : Hp} {c : Nat} (a : isC h c) : kd h (c + 22) = 13 := a.2.2.2.2.2.2.2.2.2.2.2.2.2.2.2.2.2.2.2.2.2.2.1
theorem C_k23 {h : Hp} {c : Nat} (a : isC h c) : kd h (c + 23) = 13 := a.2.2.2.2.2.2.2.2.2.2.2.2.2.2.2.2.2.2.2.2.2.2.2.1
theorem C_n2 {h : Hp} {c : Nat} (a : isC h c) : hN h (c + 2) = 8 := a.2.2.2.2.2.2.2.2.2.2.2.2.2.2.2.2.2.2.2.2.2.2.2.2.1
theorem C_n4 {h : Hp} {c : Nat} (a : isC h c) : hN h (c + 4) = 8 := a.2.2.2.2.2.2.2.2.2.2.2.2.2.2.2.2.2.2.2.2.2.2.2.2.2.1
theorem C_n6 {h : Hp} {c : Nat} (a : isC h c) : hN h (c + 6) = 8 := a.2.2.2.2.2.2.2.2.2.2.2.2.2.2.2.2.2.2.2.2.2.2.2.2.2.2.1
theorem C_n7 {h : Hp} {c : Nat} (a : isC h c) : hN h (c + 7) = 5 := a.2.2.2.2.2.2.2.2.2.2.2.2.2.2.2.2.2.2.2.2.2.2.2.2.2.2.2.1
theorem C_n8 {h : Hp} {c : Nat} (a : isC h c) : hN h (c + 8) = 5 := a.2.2.2.2.2.2.2.2.2.2.2.2.2.2.2.2.2.2.2.2.2.2.2.2.2.2.2.2.1
theorem C_n9 {h : Hp} {c : Nat} (a : isC h c) : hN h (c + 9) = 5 := a.2.2.2.2.2.2.2.2.2.2.2.2.2.2.2.2.2.2.2.2.2.2.2.2.2.2.2.2.2.1
theorem C_n10 {h : Hp} {c : Nat} (a : isC h c) : hN h (c + 10) = 5 := a.2.2.2.2.2.2.2.2.2.2.2.2.2.2.2.2.2.2.2.2.2.2.2.2.2.2.2.2.2.2.1
theorem C_n11 {h : Hp} {c : Nat} (a : isC h c) : hN h (c + 11) = 8 := a.2.2.2.2.2.2.2.2.2.2.2.2.2.2.2.2.2.2.2.2.2.2.2.2.2.2.2.2.2.2.2.1
theorem C_n12 {h : Hp} {c : Nat} (a : isC h c) : hN h (c + 12) = 8 := a.2.2.2.2.2.2.2.2.2.2.2.2.2.2.2.2.2.2.2.2.2.2.2.2.2.2.2.2.2.2.2.2.1
theorem C_n13 {h : Hp} {c : Nat} (a : isC h c) : hN h (c + 13) = 8 := a.2.2.2.2.2.2.2.2.2.2.2.2.2.2.2.2.2.2.2.2.2.2.2.2.2.2.2.2.2.2.2.2.2.1
theorem C_n14 {h : Hp} {c : Nat} (a : isC h c) : hN h (c + 14) = 8 := a.2.2.2.2.2.2.2.2.2.2.2.2.2.2.2.2.2.2.2.2.2.2.2.2.2.2.2.2.2.2.2.2.2.2.1
theorem C_n15 {h : Hp} {c : Nat} (a : isC h c) : hN h (c + 15) = 10 := a.2.2.2.2.2.2.2.2.2.2.2.2.2.2.2.2.2.2.2.2.2.2.2.2.2.2.2.2.2.2.2.2.2.2.2.1
theorem C_n16 {h : Hp} {c : Nat} (a : isC h c) : hN h (c + 16) = 10 := a.2.2.2.2.2.2.2.2.2.2.2.2.2.2.2.2.2.2.2.2.2.2.2.2.2.2.2.2.2.2.2.2.2.2.2.2.1
theorem C_n17 {h : Hp} {c : Nat} (a : isC h c) : hN h (c + 17) = 10 := a.2.2.2.2.2.2.2.2.2.2.2.2.2.2.2.2.2.2.2.2.2.2.2.2.2.2.2.2.2.2.2.2.2.2.2.2.2.1
theorem C_n19 {h : Hp} {c : Nat} (a : isC h c) : hN h (c + 19) = 64 := a.2.2.2.2.2.2.2.2.2.2.2.2.2.2.2.2.2.2.2.2.2.2.2.2.2.2.2.2.2.2.2.2.2.2.2.2.2.2.1
theorem C_n20 {h : Hp} {c : Nat} (a : isC h c) : hN h (c + 20) = 64 := a.2.2.2.2.2.2.2.2.2.2.2.2.2.2.2.2.2.2.2.2.2.2.2.2.2.2.2.2.2.2.2.2.2.2.2.2.2.2.2.1
theorem C_n22 {h : Hp} {c : Nat} (a : isC h c) : hN h (c + 22) = 64 := a.2.2.2.2.2.2.2.2.2.2.2.2.2.2.2.2.2.2.2.2.2.2.2.2.2.2.2.2.2.2.2.2.2.2.2.2.2.2.2.2.1
theorem C_n23 {h : Hp} {c : Nat} (a : isC h c) : hN h (c + 23) = 64 := a.2.2.2.2.2.2.2.2.2.2.2.2.2.2.2.2.2.2.2.2.2.2.2.2.2.2.2.2.2.2.2.2.2.2.2.2.2.2.2.2.2.1
theorem C_r0_0 {h : Hp} {c : Nat} (a : isC h c) : hR h c 0 = c + 2 := a.2.2.2.2.2.2.2.2.2.2.2.2.2.2.2.2.2.2.2.2.2.2.2.2.2.2.2.2.2.2.2.2.2.2.2.2.2.2.2.2.2.2.1
theorem C_r0_1 {h : Hp} {c : Nat} (a : isC h c) : hR h c 1 = c + 4 := a.2.2.2.2.2.2.2.2.2.2.2.2.2.2.2.2.2.2.2.2.2.2.2.2.2.2.2.2.2.2.2.2.2.2.2.2.2.2.2.2.2.2.2.1
theorem C_r0_2 {h : Hp} {c : Nat} (a : isC h c) : hR h c 2 = c + 6 := a.2.2.2.2.2.2.2.2.2.2.2.2.2.2.2.2.2.2.2.2.2.2.2.2.2.2.2.2.2.2.2.2.2.2.2.2.2.2.2.2.2.2.2.2.1
theorem C_r0_3 {h : Hp} {c : Nat} (a : isC h c) : hR h c 3 = c + 8 := a.2.2.2.2.2.2.2.2.2.2.2.2.2.2.2.2.2.2.2.2.2.2.2.2.2.2.2.2.2.2.2.2.2.2.2.2.2.2.2.2.2.2.2.2.2.1
theorem C_r0_4 {h : Hp} {c : Nat} (a : isC h c) : hR h c 4 = c + 9 := a.2.2.2.2.2.2.2.2.2.2.2.2.2.2.2.2.2.2.2.2.2.2.2.2.2.2.2.2.2.2.2.2.2.2.2.2.2.2.2.2.2.2.2.2.2.2.1
theorem C_r0_5 {h : Hp} {c : Nat} (a : isC h c) : hR h c 5 = c + 10 := a.2.2.2.2.2.2.2.2.2.2.2.2.2.2.2.2.2.2.2.2.2.2.2.2.2.2.2.2.2.2.2.2.2.2.2.2.2.2.2.2.2.2.2.2.2.2.2.1
theorem C_r0_6 {h : Hp} {c : Nat} (a : isC h c) : hR h c 6 = c + 11 := a.2.2.2.2.2.2.2.2.2.2.2.2.2.2.2.2.2.2.2.2.2.2.2.2.2.2.2.2.2.2.2.2.2.2.2.2.2.2.2.2.2.2.2.2.2.2.2.2.1
theorem C_r0_7 {h : Hp} {c : Nat} (a : isC h c) : hR h c 7 = c + 12 := a.2.2.2.2.2.2.2.2.2.2.2.2.2.2.2.2.2.2.2.2.2.2.2.2.2.2.2.2.2.2.2.2.2.2.2.2.2.2.2.2.2.2.2.2.2.2.2.2.2.1
theorem C_r0_8 {h : Hp} {c : Nat} (a : isC h c) : hR h c 8 = c + 13 := a.2.2.2.2.2.2.2.2.2.2.2.2.2.2.2.2.2.2.2.2.2.2.2.2.2.2.2.2.2.2.2.2.2.2.2.2.2.2.2.2.2.2.2.2.2.2.2.2.2.2.1
theorem C_r0_9 {h : Hp} {c : Nat} (a : isC h c) : hR h c 9 = c + 14 := a.2.2.2.2.2.2.2.2.2.2.2.2.2.2.2.2.2.2.2.2.2.2.2.2.2.2.2.2.2.2.2.2.2.2.2.2.2.2.2.2.2.2.2.2.2.2.2.2.2.2.2.1
theorem C_r0_10 {h : Hp} {c : Nat} (a : isC h c) : hR h c 10 = c + 15 := a.2.2.2.2.2.2.2.2.2.2.2.2.2.2.2.2.2.2.2.2.2.2.2.2.2.2.2.2.2.2.2.2.2.2.2.2.2.2.2.2.2.2.2.2.2.2.2.2.2.2.2.2.1
theorem C_r0_11 {h : Hp} {c : Nat} (a : isC h c) : hR h c 11 = c + 16 := a.2.2.2.2.2.2.2.2.2.2.2.2.2.2.2.2.2.2.2.2.2.2.2.2.2.2.2.2.2.2.2.2.2.2.2.2.2.2.2.2.2.2.2.2.2.2.2.2.2.2.2.2.2.1
theorem C_r0_12 {h : Hp} {c : Nat} (a : isC h c) : hR h c 12 = c + 17 := a.2.2.2.2.2.2.2.2.2.2.2.2.2.2.2.2.2.2.2.2.2.2.2.2.2.2.2.2.2.2.2.2.2.2.2.2.2.2.2.2.2.2.2.2.2.2.2.2.2.2.2.2.2.2.1
theorem C_r0_13 {h : Hp} {c : Nat} (a : isC h c) : hR h c 13 = c + 18 := a.2.2.2.2.2.2.2.2.2.2.2.2.2.2.2.2.2.2.2.2.2.2.2.2.2.2.2.2.2.2.2.2.2.2.2.2.2.2.2.2.2.2.2.2.2.2.2.2.2.2.2.2.2.2.2.1
theorem C_r0_14 {h : Hp} {c : Nat} (a : isC h c) : hR h c 14 = c + 19 := a.2.2.2.2.2.2.2.2.2.2.2.2.2.2.2.2.2.2.2.2.2.2.2.2.2.2.2.2.2.2.2.2.2.2.2.2.2.2.2.2.2.2.2.2.2.2.2.2.2.2.2.2.2.2.2.2.1
theorem C_r0_15 {h : Hp} {c : Nat} (a : isC h c) : hR h c 15 = c + 22 := a.2.2.2.2.2.2.2.2.2.2.2.2.2.2.2.2.2.2.2.2.2.2.2.2.2.2.2.2.2.2.2.2.2.2.2.2.2.2.2.2.2.2.2.2.2.2.2.2.2.2.2.2.2.2.2.2.2.1
theorem C_r1_0 {h : Hp} {c : Nat} (a : isC h c) : hR h (c + 1) 0 = c + 3 := a.2.2.2.2.2.2.2.2.2.2.2.2.2.2.2.2.2.2.2.2.2.2.2.2.2.2.2.2.2.2.2.2.2.2.2.2.2.2.2.2.2.2.2.2.2.2.2.2.2.2.2.2.2.2.2.2.2.2.1
theorem C_r3_0 {h : Hp} {c : Nat} (a : isC h c) : hR h (c + 3) 0 = c + 5 := a.2.2.2.2.2.2.2.2.2.2.2.2.2.2.2.2.2.2.2.2.2.2.2.2.2.2.2.2.2.2.2.2.2.2.2.2.2.2.2.2.2.2.2.2.2.2.2.2.2.2.2.2.2.2.2.2.2.2.2.1
theorem C_r5_0 {h : Hp} {c : Nat} (a : isC h c) : hR h (c + 5) 0 = c + 7 := a.2.2.2.2.2.2.2.2.2.2.2.2.2.2.2.2.2.2.2.2.2.2.2.2.2.2.2.2.2.2.2.2.2.2.2.2.2.2.2.2.2.2.2.2.2.2.2.2.2.2.2.2.2.2.2.2.2.2.2.2.1
theorem C_r18_0 {h : Hp} {c : Nat} (a : isC h c) : hR h (c + 18) 0 = c + 20 := a.2.2.2.2.2.2.2.2.2.2.2.2.2.2.2.2.2.2.2.2.2.2.2.2.2.2.2.2.2.2.2.2.2.2.2.2.2.2.2.2.2.2.2.2.2.2.2.2.2.2.2.2.2.2.2.2.2.2.2.2.2.1
theorem C_r18_1 {h : Hp} {c : Nat} (a : isC h c) : hR h (c + 18) 1 = c + 21 := a.2.2.2.2.2.2.2.2.2.2.2.2.2.2.2.2.2.2.2.2.2.2.2.2.2.2.2.2.2.2.2.2.2.2.2.2.2.2.2.2.2.2.2.2.2.2.2.2.2.2.2.2.2.2.2.2.2.2.2.2.2.2.1
theorem C_r21_0 {h : Hp} {c : Nat} (a : isC h c) : hR h (c + 21) 0 = c + 23 := a.2.2.2.2.2.2.2.2.2.2.2.2.2.2.2.2.2.2.2.2.2.2.2.2.2.2.2.2.2.2.2.2.2.2.2.2.2.2.2.2.2.2.2.2.2.2.2.2.2.2.2.2.2.2.2.2.2.2.2.2.2.2.2.1
theorem C_r21_1 {h : Hp} {c : Nat} (a : isC h c) : hR h (c + 21) 1 = c + 24 := a.2.2.2.2.2.2.2.2.2.2.2.2.2.2.2.2.2.2.2.2.2.2.2.2.2.2.2.2.2.2.2.2.2.2.2.2.2.2.2.2.2.2.2.2.2.2.2.2.2.2.2.2.2.2.2.2.2.2.2.2.2.2.2.2
theorem isC.move {h h' : Hp} {c : Nat} {L : List Nat} (a : isC h c) (f : Fr h h' L) : isC h' c := by
  unfold isC at *
  simp only [f.kd, f.2.2.1, f.2.2.2.1]
  exact a
def isN (h : Hp) (c : Nat) : Prop := kd h c = 5 ∧ kd h (c + 1) = 13 ∧ kd h (c + 2) = 13 ∧ kd h (c + 3) = 13 ∧ kd h (c + 4) = 15 ∧ kd h (c + 5) = 13 ∧ kd h (c + 6) = 15 ∧ hN h (c + 1) = 24 ∧ hN h (c + 2) = 24 ∧ hN h (c + 3) = 24 ∧ hN h (c + 4) = 24 ∧ hN h (c + 5) = 24 ∧ hN h (c + 6) = 24 ∧ hR h c 0 = c + 2 ∧ hR h c 1 = c + 3 ∧ hR h c 2 = c + 4 ∧ hR h c 3 = c + 5 ∧ hR h c 4 = c + 6 ∧ hR h c 5 = c + 7
theorem N_k0 {h : Hp} {c : Nat} (a : isN h c) : kd h c = 5 := a.1
theorem N_k1 {h : Hp} {c : Nat} (a : isN h c) : kd h (c + 1) = 13 := a.2.1
theorem N_k2 {h : Hp} {c : Nat} (a : isN h c) : kd h (c + 2) = 13 := a.2.2.1
theorem N_k3 {h : Hp} {c : Nat} (a : isN h c) : kd h (c + 3) = 13 := a.2.2.2.1
theorem N_k4 {h : Hp} {c : Nat} (a : isN h c) : kd h (c + 4) = 15 := a.2.2.2.2.1
theorem N_k5 {h : Hp} {c : Nat} (a : isN h c) : kd h (c + 5) = 13 := a.2.2.2.2.2.1
theorem N_k6 {h : Hp} {c : Nat} (a : isN h c) : kd h (c + 6) = 15 := a.2.2.2.2.2.2.1
theorem N_n1 {h : Hp} {c : Nat} (a : isN h c) : hN h (c + 1) = 24 := a.2.2.2.2.2.2.2.1
theorem N_n2 {h : Hp} {c : Nat} (a : isN h c) : hN h (c + 2) = 24 := a.2.2.2.2.2.2.2.2.1
theorem N_n3 {h : Hp} {c : Nat} (a : isN h c) : hN h (c + 3) = 24 := a.2.2.2.2.2.2.2.2.2.1
theorem N_n4 {h : Hp} {c : Nat} (a : isN h c) : hN h (c + 4) = 24 := a.2.2.2.2.2.2.2.2.2.2.1
theorem N_n5 {h : Hp} {c : Nat} (a : isN h c) : hN h (c + 5) = 24 := a.2.2.2.2.2.2.2.2.2.2.2.1
theorem N_n6 {h : Hp} {c : Nat} (a : isN h c) : hN h (c + 6) = 24 := a.2.2.2.2.2.2.2.2.2.2.2.2.1
theorem N_r0_0 {h : Hp} {c : Nat} (a : isN h c) : hR h c 0 = c + 2 := a.2.2.2.2.2.2.2.2.2.2.2.2.2.1
theorem N_r0_1 {h : Hp} {c : Nat} (a : isN h c) : hR h c 1 = c + 3 := a.2.2.2.2.2.2.2.2.2.2.2.2.2.2.1
theorem N_r0_2 {h : Hp} {c : Nat} (a : isN h c) : hR h c 2 = c + 4 := a.2.2.2.2.2.2.2.2.2.2.2.2.2.2.2.1
theorem N_r0_3 {h : Hp} {c : Nat} (a : isN h c) : hR h c 3 = c + 5 := a.2.2.2.2.2.2.2.2.2.2.2.2.2.2.2.2.1
theorem N_r0_4 {h : Hp} {c : Nat} (a : isN h c) : hR h c 4 = c + 6 := a.2.2.2.2.2.2.2.2.2.2.2.2.2.2.2.2.2.1
theorem N_r0_5 {h : Hp} {c : Nat} (a : isN h c) : hR h c 5 = c + 7 := a.2.2.2.2.2.2.2.2.2.2.2.2.2.2.2.2.2.2
theorem isN.move {h h' : Hp} {c : Nat} {L : List Nat} (a : isN h c) (f : Fr h h' L) : isN h' c := by
  unfold isN at *
  simp only [f.kd, f.2.2.1, f.2.2.2.1]
  exact a
def isU (h : Hp) (c : Nat) : Prop := kd h c = 6 ∧ kd h (c + 1) = 13 ∧ kd h (c + 2) = 14 ∧ hN h (c + 1) = 7 ∧ hN h (c + 2) = 64 ∧ hR h c 0 = c + 2 ∧ hR h c 1 = c + 3
theorem U_k0 {h : Hp} {c : Nat} (a : isU h c) : kd h c = 6 := a.1
theorem U_k1 {h : Hp} {c : Nat} (a : isU h c) : kd h (c + 1) = 13 := a.2.1
theorem U_k2 {h : Hp} {c : Nat} (a : isU h c) : kd h (c + 2) = 14 := a.2.2.1
theorem U_n1 {h : Hp} {c : Nat} (a : isU h c) : hN h (c + 1) = 7 := a.2.2.2.1
theorem U_n2 {h : Hp} {c : Nat} (a : isU h c) : hN h (c + 2) = 64 := a.2.2.2.2.1
theorem U_r0_0 {h : Hp} {c : Nat} (a : isU h c) : hR h c 0 = c + 2 := a.2.2.2.2.2.1
theorem U_r0_1 {h : Hp} {c : Nat} (a : isU h c) : hR h c 1 = c + 3 := a.2.2.2.2.2.2
theorem isU.move {h h' : Hp} {c : Nat} {L : List Nat} (a : isU h c) (f : Fr h h' L) : isU h' c := by
  unfold isU at *
  simp only [f.kd, f.2.2.1, f.2.2.2.1]
  exact a
def isQ (h : Hp) (c : Nat) : Prop := kd h c = 7 ∧ kd h (c + 1) = 8 ∧ kd h (c + 2) = 13 ∧ kd h (c + 3) = 13 ∧ kd h (c + 4) = 13 ∧ kd h (c + 5) = 13 ∧ kd h (c + 6) = 8 ∧ kd h (c + 7) = 13 ∧ kd h (c + 8) = 13 ∧ kd h (c + 9) = 13 ∧ kd h (c + 10) = 13 ∧ kd h (c + 11) = 13 ∧ kd h (c + 12) = 13 ∧ kd h (c + 13) = 13 ∧ kd h (c + 14) = 13 ∧ hN h (c + 2) = 5 ∧ hN h (c + 3) = 5 ∧ hN h (c + 4) = 5 ∧ hN h (c + 5) = 5 ∧ hN h (c + 7) = 5 ∧ hN h (c + 8) = 5 ∧ hN h (c + 9) = 5 ∧ hN h (c + 10) = 5 ∧ hN h (c + 11) = 2 ∧ hN h (c + 12) = 81 ∧ hN h (c + 13) = 81 ∧ hN h (c + 14) = 81 ∧ hR h c 0 = c + 2 ∧ hR h c 1 = c + 7 ∧ hR h c 2 = c + 12 ∧ hR h c 8 = c + 13 ∧ hR h c 9 = c + 14 ∧ hR h c 10 = c + 15 ∧ hR h (c + 1) 0 = c + 3 ∧ hR h (c + 1) 1 = c + 4 ∧ hR h (c + 1) 2 = c + 5 ∧ hR h (c + 1) 3 = c + 6 ∧ hR h (c + 6) 0 = c + 8 ∧ hR h (c + 6) 1 = c + 9 ∧ hR h (c + 6) 2 = c + 10 ∧ hR h (c + 6) 3 = c + 11
theorem Q_k0 {h : Hp} {c : Nat} (a : isQ h c) : kd h c = 7 := a.1
theorem Q_k1 {h : Hp} {c : Nat} (a : isQ h c) : kd h (c + 1) = 8 := a.2.1
theorem Q_k2 {h : Hp} {c : Nat} (a : isQ h c) : kd h (c + 2) = 13 := a.2.2.1
theorem Q_k3 {h : Hp} {c : Nat} (a : isQ h c) : kd h (c + 3) = 13 := a.2.2.2.1
theorem Q_k4 {h : Hp} {c : Nat} (a : isQ h c) : kd h (c + 4) = 13 := a.2.2.2.2.1
theorem Q_k5 {h : Hp} {c : Nat} (a : isQ h c) : kd h (c + 5) = 13 := a.2.2.2.2.2.1
theorem Q_k6 {h : Hp} {c : Nat} (a : isQ h c) : kd h (c + 6) = 8 := a.2.2.2.2.2.2.1
theorem Q_k7 {h : Hp} {c : Nat} (a : isQ h c) : kd h (c + 7) = 13 := a.2.2.2.2.2.2.2.1
theorem Q_k8 {h : Hp} {c : Nat} (a : isQ h c) : kd h (c + 8) = 13 := a.2.2.2.2.2.2.2.2.1
theorem Q_k9 {h : Hp} {c : Nat} (a : isQ h c) : kd h (c + 9) = 13 := a.2.2.2.2.2.2.2.2.2.1
theorem Q_k10 {h : Hp} {c : Nat} (a : isQ h c) : kd h (c + 10) = 13 := a.2.2.2.2.2.2.2.2.2.2.1
theorem Q_k11 {h : Hp} {c : Nat} (a : isQ h c) : kd h (c + 11) = 13 := a.2.2.2.2.2.2.2.2.2.2.2.1
theorem Q_k12 {h : Hp} {c : Nat} (a : isQ h c) : kd h (c + 12) = 13 := a.2.2.2.2.2.2.2.2.2.2.2.2.1
theorem Q_k13 {h : Hp} {c : Nat} (a : isQ h c) : kd h (c + 13) = 13 := a.2.2.2.2.2.2.2.2.2.2.2.2.2.1
theorem Q_k14 {h : Hp} {c : Nat} (a : isQ h c) : kd h (c + 14) = 13 := a.2.2.2.2.2.2.2.2.2.2.2.2.2.2.1
theorem Q_n2 {h : Hp} {c : Nat} (a : isQ h c) : hN h (c + 2) = 5 := a.2.2.2.2.2.2.2.2.2.2.2.2.2.2.2.1
theorem Q_n3 {h : Hp} {c : Nat} (a : isQ h c) : hN h (c + 3) = 5 := a.2.2.2.2.2.2.2.2.2.2.2.2.2.2.2.2.1
theorem Q_n4 {h : Hp} {c : Nat} (a : isQ h c) : hN h (c + 4) = 5 := a.2.2.2.2.2.2.2.2.2.2.2.2.2.2.2.2.2.1
theorem Q_n5 {h : Hp} {c : Nat} (a : isQ h c) : hN h (c + 5) = 5 := a.2.2.2.2.2.2.2.2.2.2.2.2.2.2.2.2.2.2.1
theorem Q_n7 {h : Hp} {c : Nat} (a : isQ h c) : hN h (c + 7) = 5 := a.2.2.2.2.2.2.2.2.2.2.2.2.2.2.2.2.2.2.2.1
theorem Q_n8 {h : Hp} {c : Nat} (a : isQ h c) : hN h (c + 8) = 5 := a.2.2.2.2.2.2.2.2.2.2.2.2.2.2.2.2.2.2.2.2.1
theorem Q_n9 {h : Hp} {c : Nat} (a : isQ h c) : hN h (c + 9) = 5 := a.2.2.2.2.2.2.2.2.2.2.2.2.2.2.2.2.2.2.2.2.2.1
theorem Q_n10 {h : Hp} {c : Nat} (a : isQ h c) : hN h (c + 10) = 5 := a.2.2.2.2.2.2.2.2.2.2.2.2.2.2.2.2.2.2.2.2.2.2.1
theorem Q_n11 {h : Hp} {c : Nat} (a : isQ h c) : hN h (c + 11) = 2 := a.2.2.2.2.2.2.2.2.2.2.2.2.2.2.2.2.2.2.2.2.2.2.2.1
theorem Q_n12 {h : Hp} {c : Nat} (a : isQ h c) : hN h (c + 12) = 81 := a.2.2.2.2.2.2.2.2.2.2.2.2.2.2.2.2.2.2.2.2.2.2.2.2.1
theorem Q_n13 {h : Hp} {c : Nat} (a : isQ h c) : hN h (c + 13) = 81 := a.2.2.2.2.2.2.2.2.2.2.2.2.2.2.2.2.2.2.2.2.2.2.2.2.2.1
theorem Q_n14 {h : Hp} {c : Nat} (a : isQ h c) : hN h (c + 14) = 81 := a.2.2.2.2.2.2.2.2.2.2.2.2.2.2.2.2.2.2.2.2.2.2.2.2.2.2.1
theorem Q_r0_0 {h : Hp} {c : Nat} (a : isQ h c) : hR h c 0 = c + 2 := a.2.2.2.2.2.2.2.2.2.2.2.2.2.2.2.2.2.2.2.2.2.2.2.2.2.2.2.1
theorem Q_r0_1 {h : Hp} {c : Nat} (a : isQ h c) : hR h c 1 = c + 7 := a.2.2.2.2.2.2.2.2.2.2.2.2.2.2.2.2.2.2.2.2.2.2.2.2.2.2.2.2.1
theorem Q_r0_2 {h : Hp} {c : Nat} (a : isQ h c) : hR h c 2 = c + 12 := a.2.2.2.2.2.2.2.2.2.2.2.2.2.2.2.2.2.2.2.2.2.2.2.2.2.2.2.2.2.1
theorem Q_r0_8 {h : Hp} {c : Nat} (a : isQ h c) : hR h c 8 = c + 13 := a.2.2.2.2.2.2.2.2.2.2.2.2.2.2.2.2.2.2.2.2.2.2.2.2.2.2.2.2.2.2.1
theorem Q_r0_9 {h : Hp} {c : Nat} (a : isQ h c) : hR h c 9 = c + 14 := a.2.2.2.2.2.2.2.2.2.2.2.2.2.2.2.2.2.2.2.2.2.2.2.2.2.2.2.2.2.2.2.1
theorem Q_r0_10 {h : Hp} {c : Nat} (a : isQ h c) : hR h c 10 = c + 15 := a.2.2.2.2.2.2.2.2.2.2.2.2.2.2.2.2.2.2.2.2.2.2.2.2.2.2.2.2.2.2.2.2.1
theorem Q_r1_0 {h : Hp} {c : Nat} (a : isQ h c) : hR h (c + 1) 0 = c + 3 := a.2.2.2.2.2.2.2.2.2.2.2.2.2.2.2.2.2.2.2.2.2.2.2.2.2.2.2.2.2.2.2.2.2.1
theorem Q_r1_1 {h : Hp} {c : Nat} (a : isQ h c) : hR h (c + 1) 1 = c + 4 := a.2.2.2.2.2.2.2.2.2.2.2.2.2.2.2.2.2.2.2.2.2.2.2.2.2.2.2.2.2.2.2.2.2.2.1
theorem Q_r1_2 {h : Hp} {c : Nat} (a : isQ h c) : hR h (c + 1) 2 = c + 5 := a.2.2.2.2.2.2.2.2.2.2.2.2.2.2.2.2.2.2.2.2.2.2.2.2.2.2.2.2.2.2.2.2.2.2.2.1
theorem Q_r1_3 {h : Hp} {c : Nat} (a : isQ h c) : hR h (c + 1) 3 = c + 6 := a.2.2.2.2.2.2.2.2.2.2.2.2.2.2.2.2.2.2.2.2.2.2.2.2.2.2.2.2.2.2.2.2.2.2.2.2.1
theorem Q_r6_0 {h : Hp} {c : Nat} (a : isQ h c) : hR h (c + 6) 0 = c + 8 := a.2.2.2.2.2.2.2.2.2.2.2.2.2.2.2.2.2.2.2.2.2.2.2.2.2.2.2.2.2.2.2.2.2.2.2.2.2.1
theorem Q_r6_1 {h : Hp} {c : Nat} (a : isQ h c) : hR h (c + 6) 1 = c + 9 := a.2.2.2.2.2.2.2.2.2.2.2.2.2.2.2.2.2.2.2.2.2.2.2.2.2.2.2.2.2.2.2.2.2.2.2.2.2.2.1
theorem Q_r6_2 {h : Hp} {c : Nat} (a : isQ h c) : hR h (c + 6) 2 = c + 10 := a.2.2.2.2.2.2.2.2.2.2.2.2.2.2.2.2.2.2.2.2.2.2.2.2.2.2.2.2.2.2.2.2.2.2.2.2.2.2.2.1
theorem Q_r6_3 {h : Hp} {c : Nat} (a : isQ h c) : hR h (c + 6) 3 = c + 11 := a.2.2.2.2.2.2.2.2.2.2.2.2.2.2.2.2.2.2.2.2.2.2.2.2.2.2.2.2.2.2.2.2.2.2.2.2.2.2.2.2
theorem isQ.move {h h' : Hp} {c : Nat} {L : List Nat} (a : isQ h c) (f : Fr h h' L) : isQ h' c := by
  unfold isQ at *
  simp only [f.kd, f.2.2.1, f.2.2.2.1]
  exact a
def isA (h : Hp) (c : Nat) : Prop := kd h c = 2 ∧ kd h (c + 1) = 13 ∧ kd h (c + 2) = 13 ∧ hN h (c + 1) = 64 ∧ hN h (c + 2) = 64 ∧ hR h c 0 = c + 2 ∧ hR h c 1 = c + 3
theorem A_k0 {h : Hp} {c : Nat} (a : isA h c) : kd h c = 2 := a.1
theorem A_k1 {h : Hp} {c : Nat} (a : isA h c) : kd h (c + 1) = 13 := a.2.1
theorem A_k2 {h : Hp} {c : Nat} (a : isA h c) : kd h (c + 2) = 13 := a.2.2.1
theorem A_n1 {h : Hp} {c : Nat} (a : isA h c) : hN h (c + 1) = 64 := a.2.2.2.1
theorem A_n2 {h : Hp} {c : Nat} (a : isA h c) : hN h (c + 2) = 64 := a.2.2.2.2.1
theorem A_r0_0 {h : Hp} {c : Nat} (a : isA h c) : hR h c 0 = c + 2 := a.2.2.2.2.2.1
theorem A_r0_1 {h : Hp} {c : Nat} (a : isA h c) : hR h c 1 = c + 3 := a.2.2.2.2.2.2
theorem isA.move {h h' : Hp} {c : Nat} {L : List Nat} (a : isA h c) (f : Fr h h' L) : isA h' c := by
  unfold isA at *
  simp only [f.kd, f.2.2.1, f.2.2.2.1]
  exact a
def isM (h : Hp) (c : Nat) : Prop := kd h c = 4 ∧ kd h (c + 1) = 13 ∧ hN h (c + 1) = 8 ∧ hR h c 0 = c + 2
theorem M_k0 {h : Hp} {c : Nat} (a : isM h c) : kd h c = 4 := a.1
theorem M_k1 {h : Hp} {c : Nat} (a : isM h c) : kd h (c + 1) = 13 := a.2.1
theorem M_n1 {h : Hp} {c : Nat} (a : isM h c) : hN h (c + 1) = 8 := a.2.2.1
theorem M_r0_0 {h : Hp} {c : Nat} (a : isM h c) : hR h c 0 = c + 2 := a.2.2.2
theorem isM.move {h h' : Hp} {c : Nat} {L : List Nat} (a : isM h c) (f : Fr h h' L) : isM h' c := by
  unfold isM at *
  simp only [f.kd, f.2.2.1, f.2.2.2.1]
  exact a

section T18
variable {sc : Nat × (Nat → Int32)} {pp : Nat → Nat → Int32 → Int32 → Hp → Option (Hp × Int32)}
theorem L_63_0 (lv : Lv) (st : List Value) (cu su : Nat) (h : Hp) : Lm sc pp 63 0 lv st cu su h = exS sc pp (Lm sc pp) 63 0 [(.aload_n 0, 1, []), (.iload_n 1, 1, []), (.putfield 53, 3, [8, 4, 0, 179, 0, 0]), (.iconst 0, 1, []), (.istore_n 2, 1, [])] lv st cu su h := Lm_eq (by decide) (by rfl) lv st cu su h
theorem L_63_7 (lv : Lv) (st : List Value) (cu su : Nat) (h : Hp) : Lm sc pp 63 7 lv st cu su h = exS sc pp (Lm sc pp) 63 7 [(.iload_n 2, 1, []), (.iconst 5, 1, []), (.if_icmp .ge 16, 3, [25])] lv st cu su h := Lm_eq (by decide) (by rfl) lv st cu su h
theorem L_63_12 (lv : Lv) (st : List Value) (cu su : Nat) (h : Hp) : Lm sc pp 63 12 lv st cu su h = exS sc pp (Lm sc pp) 63 12 [(.aload_n 0, 1, []), (.getfield 21, 3, [8, 3, 2, 176, 0]), (.iload_n 2, 1, []), (.iconst 0, 1, []), (.iastore, 1, []), (.iinc 2 1, 3, []), (.goto (-15), 3, [7])] lv st cu su h := Lm_eq (by decide) (by rfl) lv st cu su h
theorem L_63_25 (lv : Lv) (st : List Value) (cu su : Nat) (h : Hp) : Lm sc pp 63 25 lv st cu su h = exS sc pp (Lm sc pp) 63 25 [(.return_, 1, [])] lv st cu su h := Lm_eq (by decide) (by rfl) lv st cu su h
theorem L_64_0 (lv : Lv) (st : List Value) (cu su : Nat) (h : Hp) : Lm sc pp 64 0 lv st cu su h = exS sc pp (Lm sc pp) 64 0 [(.aload_n 0, 1, []), (.aload_n 1, 1, []), (.getfield 24, 3, [0, 1, 2, 365, 1]), (.getfield 30, 3, [4, 2, 0, 328, 1]), (.putfield 36, 3, [8, 7, 0, 187, 0, 0]), (.iconst 0, 1, []), (.istore_n 2, 1, [])] lv st cu su h := Lm_eq (by decide) (by rfl) lv st cu su h
theorem L_64_13 (lv : Lv) (st : List Value) (cu su : Nat) (h : Hp) : Lm sc pp 64 13 lv st cu su h = exS sc pp (Lm sc pp) 64 13 [(.iload_n 2, 1, []), (.iconst 5, 1, []), (.if_icmp .ge 40, 3, [55])] lv st cu su h := Lm_eq (by decide) (by rfl) lv st cu su h
theorem L_64_18 (lv : Lv) (st : List Value) (cu su : Nat) (h : Hp) : Lm sc pp 64 18 lv st cu su h = exS sc pp (Lm sc pp) 64 18 [(.aload_n 0, 1, []), (.getfield 9, 3, [8, 0, 2, 165, 0]), (.iload_n 2, 1, []), (.aload_n 1, 1, []), (.getfield 38, 3, [0, 6, 2, 387, 1]), (.iload_n 2, 1, []), (.iaload, 1, []), (.iastore, 1, []), (.aload_n 0, 1, []), (.getfield 15, 3, [8, 1, 2, 169, 0]), (.iload_n 2, 1, []), (.aload_n 1, 1, []), (.getfield 39, 3, [0, 5, 2, 384, 1]), (.iload_n 2, 1, []), (.iaload, 1, []), (.iastore, 1, []), (.aload_n 0, 1, []), (.getfield 18, 3, [8, 2, 2, 172, 0]), (.iload_n 2, 1, []), (.iconst 0, 1, []), (.iastore, 1, []), (.iinc 2 1, 3, []), (.goto (-39), 3, [13])] lv st cu su h := Lm_eq (by decide) (by rfl) lv st cu su h
theorem L_64_55 (lv : Lv) (st : List Value) (cu su : Nat) (h : Hp) : Lm sc pp 64 55 lv st cu su h = exS sc pp (Lm sc pp) 64 55 [(.aload_n 0, 1, []), (.aload_n 1, 1, []), (.getfield 40, 3, [0, 18, 0, 430, 1]), (.putfield 43, 3, [8, 6, 0, 185, 0, 0]), (.aload_n 0, 1, []), (.iconst 0, 1, []), (.putfield 46, 3, [8, 5, 0, 182, 0, 0]), (.aload_n 0, 1, []), (.iconst 0, 1, []), (.invokevirtual 49, 3, [63, 2, 884, 0, 3, 0, 0, 0, 0, 8])] lv st cu su h := Lm_eq (by decide) (by rfl) lv st cu su h
theorem L_64_73 (lv : Lv) (st : List Value) (cu su : Nat) (h : Hp) : Lm sc pp 64 73 lv st cu su h = exS sc pp (Lm sc pp) 64 73 [(.return_, 1, [])] lv st cu su h := Lm_eq (by decide) (by rfl) lv st cu su h
theorem L_106_0 (lv : Lv) (st : List Value) (cu su : Nat) (h : Hp) : Lm sc pp 106 0 lv st cu su h = exS sc pp (Lm sc pp) 106 0 [(.iload_n 1, 1, []), (.ifCond .lt 15, 3, [16])] lv st cu su h := Lm_eq (by decide) (by rfl) lv st cu su h
theorem L_106_4 (lv : Lv) (st : List Value) (cu su : Nat) (h : Hp) : Lm sc pp 106 4 lv st cu su h = exS sc pp (Lm sc pp) 106 4 [(.iload_n 1, 1, []), (.aload_n 0, 1, []), (.getfield 25, 3, [4, 2, 0, 327, 0]), (.if_icmp .ge 7, 3, [16])] lv st cu su h := Lm_eq (by decide) (by rfl) lv st cu su h
theorem L_106_12 (lv : Lv) (st : List Value) (cu su : Nat) (h : Hp) : Lm sc pp 106 12 lv st cu su h = exS sc pp (Lm sc pp) 106 12 [(.iconst 1, 1, []), (.goto 4, 3, [17])] lv st cu su h := Lm_eq (by decide) (by rfl) lv st cu su h
theorem L_106_16 (lv : Lv) (st : List Value) (cu su : Nat) (h : Hp) : Lm sc pp 106 16 lv st cu su h = exS sc pp (Lm sc pp) 106 16 [(.iconst 0, 1, [])] lv st cu su h := Lm_eq (by decide) (by rfl) lv st cu su h
theorem L_106_17 (lv : Lv) (st : List Value) (cu su : Nat) (h : Hp) : Lm sc pp 106 17 lv st cu su h = exS sc pp (Lm sc pp) 106 17 [(.ireturn, 1, [3])] lv st cu su h := Lm_eq (by decide) (by rfl) lv st cu su h
theorem L_142_0 (lv : Lv) (st : List Value) (cu su : Nat) (h : Hp) : Lm sc pp 142 0 lv st cu su h = exS sc pp (Lm sc pp) 142 0 [(.iconst 0, 1, []), (.istore_n 2, 1, [])] lv st cu su h := Lm_eq (by decide) (by rfl) lv st cu su h
theorem L_142_2 (lv : Lv) (st : List Value) (cu su : Nat) (h : Hp) : Lm sc pp 142 2 lv st cu su h = exS sc pp (Lm sc pp) 142 2 [(.iload_n 2, 1, []), (.iconst 5, 1, []), (.if_icmp .ge 57, 3, [61])] lv st cu su h := Lm_eq (by decide) (by rfl) lv st cu su h
theorem L_142_7 (lv : Lv) (st : List Value) (cu su : Nat) (h : Hp) : Lm sc pp 142 7 lv st cu su h = exS sc pp (Lm sc pp) 142 7 [(.aload_n 0, 1, []), (.getfield 9, 3, [8, 0, 2, 165, 0]), (.iload_n 2, 1, []), (.aload_n 1, 1, []), (.getfield 9, 3, [8, 0, 2, 165, 0]), (.iload_n 2, 1, []), (.iaload, 1, []), (.iastore, 1, []), (.aload_n 0, 1, []), (.getfield 15, 3, [8, 1, 2, 169, 0]), (.iload_n 2, 1, []), (.aload_n 1, 1, []), (.getfield 15, 3, [8, 1, 2, 169, 0]), (.iload_n 2, 1, []), (.iaload, 1, []), (.iastore, 1, []), (.aload_n 0, 1, []), (.getfield 18, 3, [8, 2, 2, 172, 0]), (.iload_n 2, 1, []), (.aload_n 1, 1, []), (.getfield 18, 3, [8, 2, 2, 172, 0]), (.iload_n 2, 1, []), (.iaload, 1, []), (.iastore, 1, []), (.aload_n 0, 1, []), (.getfield 21, 3, [8, 3, 2, 176, 0]), (.iload_n 2, 1, []), (.aload_n 1, 1, []), (.getfield 21, 3, [8, 3, 2, 176, 0]), (.iload_n 2, 1, []), (.iaload, 1, []), (.iastore, 1, []), (.iinc 2 1, 3, []), (.goto (-56), 3, [2])] lv st cu su h := Lm_eq (by decide) (by rfl) lv st cu su h
theorem L_142_61 (lv : Lv) (st : List Value) (cu su : Nat) (h : Hp) : Lm sc pp 142 61 lv st cu su h = exS sc pp (Lm sc pp) 142 61 [(.aload_n 0, 1, []), (.aload_n 1, 1, []), (.getfield 53, 3, [8, 4, 0, 179, 0]), (.putfield 53, 3, [8, 4, 0, 179, 0, 0]), (.aload_n 0, 1, []), (.aload_n 1, 1, []), (.getfield 46, 3, [8, 5, 0, 182, 0]), (.putfield 46, 3, [8, 5, 0, 182, 0, 0]), (.aload_n 0, 1, []), (.aload_n 1, 1, []), (.getfield 43, 3, [8, 6, 0, 185, 0]), (.putfield 43, 3, [8, 6, 0, 185, 0, 0]), (.aload_n 0, 1, []), (.aload_n 1, 1, []), (.getfield 36, 3, [8, 7, 0, 187, 0]), (.putfield 36, 3, [8, 7, 0, 187, 0, 0]), (.return_, 1, [])] lv st cu su h := Lm_eq (by decide) (by rfl) lv st cu su h
theorem L_146_0 (lv : Lv) (st : List Value) (cu su : Nat) (h : Hp) : Lm sc pp 146 0 lv st cu su h = exS sc pp (Lm sc pp) 146 0 [(.aload_n 0, 1, []), (.getfield 9, 3, [8, 0, 2, 165, 0]), (.iload_n 1, 1, []), (.iaload, 1, []), (.iload_n 2, 1, []), (.ishr, 1, []), (.iconst 1, 1, []), (.iand, 1, []), (.ifCond .eq 7, 3, [17])] lv st cu su h := Lm_eq (by decide) (by rfl) lv st cu su h
theorem L_146_13 (lv : Lv) (st : List Value) (cu su : Nat) (h : Hp) : Lm sc pp 146 13 lv st cu su h = exS sc pp (Lm sc pp) 146 13 [(.iconst 1, 1, []), (.goto 4, 3, [18])] lv st cu su h := Lm_eq (by decide) (by rfl) lv st cu su h
theorem L_146_17 (lv : Lv) (st : List Value) (cu su : Nat) (h : Hp) : Lm sc pp 146 17 lv st cu su h = exS sc pp (Lm sc pp) 146 17 [(.iconst 0, 1, [])] lv st cu su h := Lm_eq (by decide) (by rfl) lv st cu su h
theorem L_146_18 (lv : Lv) (st : List Value) (cu su : Nat) (h : Hp) : Lm sc pp 146 18 lv st cu su h = exS sc pp (Lm sc pp) 146 18 [(.ireturn, 1, [3])] lv st cu su h := Lm_eq (by decide) (by rfl) lv st cu su h
theorem L_147_0 (lv : Lv) (st : List Value) (cu su : Nat) (h : Hp) : Lm sc pp 147 0 lv st cu su h = exS sc pp (Lm sc pp) 147 0 [(.aload_n 0, 1, []), (.aload_n 0, 1, []), (.getfield 43, 3, [8, 6, 0, 185, 0]), (.ldc 62, 2, [1103515245, 1031]), (.imul, 1, []), (.sipush 12345, 3, []), (.iadd, 1, []), (.ldc 63, 2, [2147483647, 1032]), (.iand, 1, []), (.putfield 43, 3, [8, 6, 0, 185, 0, 0]), (.aload_n 0, 1, []), (.getfield 43, 3, [8, 6, 0, 185, 0]), (.ldc 64, 2, [65536, 1033]), (.idiv, 1, []), (.ireturn, 1, [0])] lv st cu su h := Lm_eq (by decide) (by rfl) lv st cu su h
theorem L_168_0 (lv : Lv) (st : List Value) (cu su : Nat) (h : Hp) : Lm sc pp 168 0 lv st cu su h = exS sc pp (Lm sc pp) 168 0 [(.iconst 0, 1, []), (.istore_n 1, 1, []), (.iconst 0, 1, []), (.istore_n 2, 1, [])] lv st cu su h := Lm_eq (by decide) (by rfl) lv st cu su h
theorem L_168_4 (lv : Lv) (st : List Value) (cu su : Nat) (h : Hp) : Lm sc pp 168 4 lv st cu su h = exS sc pp (Lm sc pp) 168 4 [(.iload_n 2, 1, []), (.aload_n 0, 1, []), (.getfield 36, 3, [8, 7, 0, 187, 0]), (.if_icmp .ge 21, 3, [30])] lv st cu su h := Lm_eq (by decide) (by rfl) lv st cu su h
theorem L_168_12 (lv : Lv) (st : List Value) (cu su : Nat) (h : Hp) : Lm sc pp 168 12 lv st cu su h = exS sc pp (Lm sc pp) 168 12 [(.iload_n 1, 1, []), (.aload_n 0, 1, []), (.getfield 9, 3, [8, 0, 2, 165, 0]), (.iload_n 2, 1, []), (.iaload, 1, []), (.invokestatic 56, 3, [127, 1, 982, 0, 1, 0, 0, 0, 0, 99])] lv st cu su h := Lm_eq (by decide) (by rfl) lv st cu su h
theorem L_168_22 (lv : Lv) (st : List Value) (cu su : Nat) (h : Hp) : Lm sc pp 168 22 lv st cu su h = exS sc pp (Lm sc pp) 168 22 [(.iadd, 1, []), (.istore_n 1, 1, []), (.iinc 2 1, 3, []), (.goto (-23), 3, [4])] lv st cu su h := Lm_eq (by decide) (by rfl) lv st cu su h
theorem L_168_30 (lv : Lv) (st : List Value) (cu su : Nat) (h : Hp) : Lm sc pp 168 30 lv st cu su h = exS sc pp (Lm sc pp) 168 30 [(.iload_n 1, 1, []), (.ireturn, 1, [0])] lv st cu su h := Lm_eq (by decide) (by rfl) lv st cu su h
theorem L_181_0 (lv : Lv) (st : List Value) (cu su : Nat) (h : Hp) : Lm sc pp 181 0 lv st cu su h = exS sc pp (Lm sc pp) 181 0 [(.iconst 0, 1, []), (.istore_n 2, 1, []), (.iconst 0, 1, []), (.istore_n 3, 1, [])] lv st cu su h := Lm_eq (by decide) (by rfl) lv st cu su h
theorem L_181_4 (lv : Lv) (st : List Value) (cu su : Nat) (h : Hp) : Lm sc pp 181 4 lv st cu su h = exS sc pp (Lm sc pp) 181 4 [(.iload_n 3, 1, []), (.aload_n 0, 1, []), (.getfield 36, 3, [8, 7, 0, 187, 0]), (.if_icmp .ge 24, 3, [33])] lv st cu su h := Lm_eq (by decide) (by rfl) lv st cu su h
theorem L_181_12 (lv : Lv) (st : List Value) (cu su : Nat) (h : Hp) : Lm sc pp 181 12 lv st cu su h = exS sc pp (Lm sc pp) 181 12 [(.iload_n 2, 1, []), (.aload_n 0, 1, []), (.getfield 9, 3, [8, 0, 2, 165, 0]), (.iload_n 3, 1, []), (.iaload, 1, []), (.iload_n 1, 1, []), (.ishr, 1, []), (.iconst 1, 1, []), (.iand, 1, []), (.iload_n 3, 1, []), (.ishl, 1, []), (.ior, 1, []), (.istore_n 2, 1, []), (.iinc 3 1, 3, []), (.goto (-26), 3, [4])] lv st cu su h := Lm_eq (by decide) (by rfl) lv st cu su h
theorem L_181_33 (lv : Lv) (st : List Value) (cu su : Nat) (h : Hp) : Lm sc pp 181 33 lv st cu su h = exS sc pp (Lm sc pp) 181 33 [(.iload_n 2, 1, []), (.ireturn, 1, [0])] lv st cu su h := Lm_eq (by decide) (by rfl) lv st cu su h
theorem L_263_0 (lv : Lv) (st : List Value) (cu su : Nat) (h : Hp) : Lm sc pp 263 0 lv st cu su h = exS sc pp (Lm sc pp) 263 0 [(.iconst 0, 1, []), (.istore_n 1, 1, [])] lv st cu su h := Lm_eq (by decide) (by rfl) lv st cu su h
theorem L_263_2 (lv : Lv) (st : List Value) (cu su : Nat) (h : Hp) : Lm sc pp 263 2 lv st cu su h = exS sc pp (Lm sc pp) 263 2 [(.iload_n 1, 1, []), (.aload_n 0, 1, []), (.getfield 36, 3, [8, 7, 0, 187, 0]), (.if_icmp .ge 16, 3, [23])] lv st cu su h := Lm_eq (by decide) (by rfl) lv st cu su h
theorem L_263_10 (lv : Lv) (st : List Value) (cu su : Nat) (h : Hp) : Lm sc pp 263 10 lv st cu su h = exS sc pp (Lm sc pp) 263 10 [(.aload_n 0, 1, []), (.getfield 15, 3, [8, 1, 2, 169, 0]), (.iload_n 1, 1, []), (.iconst 0, 1, []), (.iastore, 1, []), (.iinc 1 1, 3, []), (.goto (-18), 3, [2])] lv st cu su h := Lm_eq (by decide) (by rfl) lv st cu su h
theorem L_263_23 (lv : Lv) (st : List Value) (cu su : Nat) (h : Hp) : Lm sc pp 263 23 lv st cu su h = exS sc pp (Lm sc pp) 263 23 [(.return_, 1, [])] lv st cu su h := Lm_eq (by decide) (by rfl) lv st cu su h
theorem L_274_0 (lv : Lv) (st : List Value) (cu su : Nat) (h : Hp) : Lm sc pp 274 0 lv st cu su h = exS sc pp (Lm sc pp) 274 0 [(.iconst 0, 1, []), (.istore_n 1, 1, []), (.iconst 0, 1, []), (.istore_n 2, 1, [])] lv st cu su h := Lm_eq (by decide) (by rfl) lv st cu su h
theorem L_274_4 (lv : Lv) (st : List Value) (cu su : Nat) (h : Hp) : Lm sc pp 274 4 lv st cu su h = exS sc pp (Lm sc pp) 274 4 [(.iload_n 2, 1, []), (.aload_n 0, 1, []), (.getfield 36, 3, [8, 7, 0, 187, 0]), (.if_icmp .ge 18, 3, [27])] lv st cu su h := Lm_eq (by decide) (by rfl) lv st cu su h
theorem L_274_12 (lv : Lv) (st : List Value) (cu su : Nat) (h : Hp) : Lm sc pp 274 12 lv st cu su h = exS sc pp (Lm sc pp) 274 12 [(.iload_n 1, 1, []), (.aload_n 0, 1, []), (.getfield 18, 3, [8, 2, 2, 172, 0]), (.iload_n 2, 1, []), (.iaload, 1, []), (.iadd, 1, []), (.istore_n 1, 1, []), (.iinc 2 1, 3, []), (.goto (-20), 3, [4])] lv st cu su h := Lm_eq (by decide) (by rfl) lv st cu su h
theorem L_274_27 (lv : Lv) (st : List Value) (cu su : Nat) (h : Hp) : Lm sc pp 274 27 lv st cu su h = exS sc pp (Lm sc pp) 274 27 [(.iload_n 1, 1, []), (.ireturn, 1, [0])] lv st cu su h := Lm_eq (by decide) (by rfl) lv st cu su h

theorem c_has (a : Nat) (k : Int32) (h : Hp) (ha : kd h a = 4) : Lm sc pp 106 0 [some (.ref a), some (.int k)] [] 0 0 h = some (h, some (.int (if k < 0 then 0 else if hI h a 2 ≤ k then 0 else 1))) := by
  simp only [x_nil, Nat.reduceAdd, x_iload_n1, x_if_lt, x_aload_n0, x_getI, x_icmp_ge, x_iconst_1, x_goto, x_iconst_0, x_zreturn, L_106_0, L_106_4, L_106_12, L_106_16, L_106_17, ha, if_true, true_or, or_true]
  split
  · rfl
  · split <;> rfl
theorem c_isKnown (s : Nat) (p : Nat) (f : Int32) (h : Hp) (hs : isS h s) (hp : p < 5) : Lm sc pp 146 0 [some (.ref s), some (.int (nI p)), some (.int f)] [] 0 0 h = some (h, some (.int (if (hI h (s + 1) p >>> (f &&& 31)) &&& 1 = 0 then 0 else 1))) := by
  have hc := nI_clamp (show p < 2 ^ 31 by omega)
  have z0 : ¬ nI p < 0 := nI_pos (by omega)
  have z5 : ¬ 5 ≤ p := by omega
  simp only [x_nil, Nat.reduceAdd, x_aload_n0, x_getR, x_iload_n1, x_iald, x_iload_n2, x_ishr, x_iconst_1, x_iand, x_if_eq, x_goto, x_iconst_0, x_zreturn, L_146_0, L_146_13, L_146_17, L_146_18, S_k0 hs, S_k1 hs, S_k2 hs, S_k3 hs, S_k4 hs, S_n1 hs, S_n2 hs, S_n3 hs, S_n4 hs, S_r0_0 hs, S_r0_1 hs, S_r0_2 hs, S_r0_3 hs, z0, z5, hc, if_true, ne_eq, not_false_eq_true, and_self, or_self, true_or, or_true, show (146 : Nat) ≠ 277 from by decide]
  split <;> rfl
def cpS (h' : Hp) (s : Nat) (h : Hp) (f k : Nat) : Prop := ∀ p, (k ≤ p → p < 5 → hI h' (s + 1) p = hI h (f + 1) p ∧ hI h' (s + 2) p = hI h (f + 2) p ∧ hI h' (s + 3) p = hI h (f + 3) p ∧ hI h' (s + 4) p = hI h (f + 4) p) ∧ (p < k → hI h' (s + 1) p = hI h (s + 1) p ∧ hI h' (s + 2) p = hI h (s + 2) p ∧ hI h' (s + 3) p = hI h (s + 3) p ∧ hI h' (s + 4) p = hI h (s + 4) p)
theorem c_take_end (s f : Nat) (o : Option Value) (h : Hp) (hs : kd h s = 8) (hf : kd h f = 8) (hsf : s ≠ f) : ∃ h', Lm sc pp 142 61 [some (.ref s), some (.ref f), o] [] 0 0 h = some (h', none) ∧ Fr h h' [s] ∧ hI h' s 4 = hI h f 4 ∧ hI h' s 5 = hI h f 5 ∧ hI h' s 6 = hI h f 6 ∧ hI h' s 7 = hI h f 7 := by
  simp only [x_nil, Nat.reduceAdd, x_iconst_0, x_istore_n2, x_iload_n2, x_iconst_5, x_icmp_ge, x_aload_n0, x_getR, x_aload_n1, x_iald, x_iast, x_iinc2, x_goto, x_getI, x_putI, x_return, L_142_0, L_142_7, L_142_61, hs, hf, kd_sI, if_true, hI_ne (Ne.symm hsf)]
  refine ⟨_, rfl, ?_, ?_, ?_, ?_, ?_⟩
  · exact (((Fr_sI (by simp)).trans (Fr_sI (by simp))).trans (Fr_sI (by simp))).trans (Fr_sI (by simp))
  all_goals simp [hI_eq, hI_nj]
theorem c_take_loop (s f : Nat) : ∀ (n k : Nat) (h : Hp), k + n = 5 → isS h s → isS h f → (s + 5 ≤ f ∨ f + 5 ≤ s) → ∃ h', Lm sc pp 142 2 [some (.ref s), some (.ref f), some (.int (nI k))] [] 0 0 h = some (h', none) ∧ Fr h h' [s, s + 1, s + 2, s + 3, s + 4] ∧ cpS h' s h f k ∧ hI h' s 4 = hI h f 4 ∧ hI h' s 5 = hI h f 5 ∧ hI h' s 6 = hI h f 6 ∧ hI h' s 7 = hI h f 7 := by
  intro n
  induction n with
  | zero =>
    intro k h hk hs hf hd
    have : k = 5 := by omega
    subst this
    obtain ⟨h', e, fr, a4, a5, a6, a7⟩ := c_take_end (sc := sc) (pp := pp) s f (some (.int (nI 5))) h (S_k0 hs) (S_k0 hf) (by omega)
    refine ⟨h', ?_, fr.mono (by simp), fun p => ⟨fun h1 h2 => by omega, fun _ => ?_⟩, a4, a5, a6, a7⟩
    · rw [L_142_2]
      simp only [x_nil, Nat.reduceAdd, x_iload_n2, x_iconst_5, x_icmp_ge, show (5 : Int32) ≤ nI 5 from by decide, if_true]
      exact e
    · refine ⟨?_, ?_, ?_, ?_⟩ <;> rw [fr.I (by simp)]
  | succ n ih =>
    intro k h hk hs hf hd
    have hk5 : k < 5 := by omega
    have hc := nI_clamp (show k < 2 ^ 31 by omega)
    have z0 : ¬ nI k < 0 := nI_pos (by omega)
    have z5 : ¬ 5 ≤ k := by omega
    have zc : ¬ (5 : Int32) ≤ nI k := nI_ge hk5 (by decide)
    rw [L_142_2]
    simp only [x_nil, Nat.reduceAdd, x_iconst_0, x_istore_n2, x_iload_n2, x_iconst_5, x_icmp_ge, x_aload_n0, x_getR, x_aload_n1, x_iald, x_iast, x_iinc2, x_goto, x_getI, x_putI, x_return, L_142_7, S_k0 hs, S_k1 hs, S_k2 hs, S_k3 hs, S_k4 hs, S_n1 hs, S_n2 hs, S_n3 hs, S_n4 hs, S_r0_0 hs, S_r0_1 hs, S_r0_2 hs, S_r0_3 hs, S_k0 hf, S_k1 hf, S_k2 hf, S_k3 hf, S_k4 hf, S_n1 hf, S_n2 hf, S_n3 hf, S_n4 hf, S_r0_0 hf, S_r0_1 hf, S_r0_2 hf, S_r0_3 hf, z0, z5, zc, hc, kd_sI, hN_sI, hR_sI, if_true, if_false, ne_eq, not_false_eq_true, and_self, or_self, show (142 : Nat) ≠ 277 from by decide]
    rw [ofInt1, nI_1]
    generalize hh : sI _ (s + 4) k _ = h1
    have fr1 : Fr h h1 [s, s + 1, s + 2, s + 3, s + 4] := by
      rw [← hh]
      exact (((Fr_sI (by simp)).trans (Fr_sI (by simp))).trans (Fr_sI (by simp))).trans (Fr_sI (by simp))
    have v1 : ∀ p, hI h1 (s + 1) p = if p = k then hI h (f + 1) k else hI h (s + 1) p := by intro p; rw [← hh]; simp only [hI_sI]; grind
    have v2 : ∀ p, hI h1 (s + 2) p = if p = k then hI h (f + 2) k else hI h (s + 2) p := by intro p; rw [← hh]; simp only [hI_sI]; grind
    have v3 : ∀ p, hI h1 (s + 3) p = if p = k then hI h (f + 3) k else hI h (s + 3) p := by intro p; rw [← hh]; simp only [hI_sI]; grind
    have v4 : ∀ p, hI h1 (s + 4) p = if p = k then hI h (f + 4) k else hI h (s + 4) p := by intro p; rw [← hh]; simp only [hI_sI]; grind
    obtain ⟨h', e, fr, cp, a4, a5, a6, a7⟩ := ih (k + 1) h1 (by omega) (hs.move fr1) (hf.move fr1) hd
    have q : ∀ j, j ≤ 4 → hI h1 (f + j) = hI h (f + j) := fun j hj => fr1.I (by simp; omega)
    refine ⟨h', e, fr1.trans fr, fun p => ⟨fun h1 h2 => ?_, fun h1 => ?_⟩, ?_, ?_, ?_, ?_⟩
    · have c1 := (cp p).1
      have c2 := (cp p).2
      simp only [q 1 (by omega), q 2 (by omega), q 3 (by omega), q 4 (by omega), v1, v2, v3, v4] at c1 c2
      by_cases hp : p = k
      · subst hp
        simpa using c2 (by omega)
      · exact c1 (by omega) h2
    · have c2 := (cp p).2 (by omega)
      simp only [v1, v2, v3, v4, if_neg (show p ≠ k by omega)] at c2
      exact c2
    · rw [a4]; exact congrFun (q 0 (by omega)) 4
    · rw [a5]; exact congrFun (q 0 (by omega)) 5
    · rw [a6]; exact congrFun (q 0 (by omega)) 6
    · rw [a7]; exact congrFun (q 0 (by omega)) 7
theorem c_take (s f : Nat) (h : Hp) (hs : isS h s) (hf : isS h f) (hd : s + 5 ≤ f ∨ f + 5 ≤ s) : ∃ h', Lm sc pp 142 0 [some (.ref s), some (.ref f), none] [] 0 0 h = some (h', none) ∧ Fr h h' [s, s + 1, s + 2, s + 3, s + 4] ∧ (∀ p, p < 5 → hI h' (s + 1) p = hI h (f + 1) p ∧ hI h' (s + 2) p = hI h (f + 2) p ∧ hI h' (s + 3) p = hI h (f + 3) p ∧ hI h' (s + 4) p = hI h (f + 4) p) ∧ hI h' s 4 = hI h f 4 ∧ hI h' s 5 = hI h f 5 ∧ hI h' s 6 = hI h f 6 ∧ hI h' s 7 = hI h f 7 := by
  obtain ⟨h', e, fr, cp, a⟩ := c_take_loop (sc := sc) (pp := pp) s f 5 0 h rfl hs hf hd
  refine ⟨h', ?_, fr, fun p hp => (cp p).1 (Nat.zero_le _) hp, a⟩
  rw [L_142_0]
  simp only [x_nil, Nat.reduceAdd, x_iconst_0, x_istore_n2]
  exact e
def sumN (f : Nat → Int32) : Nat → Int32
  | 0 => 0
  | n + 1 => sumN f n + f n
def orN (f : Nat → Int32) : Nat → Int32
  | 0 => 0
  | n + 1 => orN f n ||| f n
theorem c_knownInSum (s n : Nat) (h : Hp) (hs : isS h s) (hn : hI h s 7 = nI n) (h5 : n ≤ 5) : Lm sc pp 168 0 [some (.ref s), none, none] [] 0 0 h = some (h, some (.int (sumN (fun p => bcE (hI h (s + 1) p)) n))) := by
  have loop : ∀ (m k : Nat), k + m = n → Lm sc pp 168 4 [some (.ref s), some (.int (sumN (fun p => bcE (hI h (s + 1) p)) k)), some (.int (nI k))] [] 0 0 h = some (h, some (.int (sumN (fun p => bcE (hI h (s + 1) p)) n))) := by
    intro m
    induction m with
    | zero =>
      intro k hk
      have : k = n := by omega
      subst this
      rw [L_168_4]
      simp only [x_nil, Nat.reduceAdd, x_iconst_0, x_istore_n1, x_istore_n2, x_iload_n2, x_aload_n0, x_getI, x_icmp_ge, x_iload_n1, x_getR, x_iald, K_127, bindR_some, toL_s, toL_n, ap_n, ap_c, List.map_nil, List.map_cons, List.sum_nil, List.sum_cons, cat_i, cat_r, cat_l, Nat.reduceLeDiff, Nat.zero_le, Nat.le_refl, x_iadd, x_iinc2, x_goto, x_ireturn, L_168_0, L_168_12, L_168_22, L_168_30, S_k0 hs, S_k1 hs, S_k2 hs, S_k3 hs, S_k4 hs, S_n1 hs, S_n2 hs, S_n3 hs, S_n4 hs, S_r0_0 hs, S_r0_1 hs, S_r0_2 hs, S_r0_3 hs, hn, if_true, show nI k ≤ nI k from nI_le (Nat.le_refl k) (by omega)]
    | succ m ih =>
      intro k hk
      have hc := nI_clamp (show k < 2 ^ 31 by omega)
      have z0 : ¬ nI k < 0 := nI_pos (by omega)
      have z5 : ¬ 5 ≤ k := by omega
      have zc : ¬ nI n ≤ nI k := nI_ge (by omega) (by omega)
      rw [L_168_4]
      simp only [x_nil, Nat.reduceAdd, x_iconst_0, x_istore_n1, x_istore_n2, x_iload_n2, x_aload_n0, x_getI, x_icmp_ge, x_iload_n1, x_getR, x_iald, K_127, bindR_some, toL_s, toL_n, ap_n, ap_c, List.map_nil, List.map_cons, List.sum_nil, List.sum_cons, cat_i, cat_r, cat_l, Nat.reduceLeDiff, Nat.zero_le, Nat.le_refl, x_iadd, x_iinc2, x_goto, x_ireturn, L_168_0, L_168_12, L_168_22, L_168_30, S_k0 hs, S_k1 hs, S_k2 hs, S_k3 hs, S_k4 hs, S_n1 hs, S_n2 hs, S_n3 hs, S_n4 hs, S_r0_0 hs, S_r0_1 hs, S_r0_2 hs, S_r0_3 hs, hn, z0, z5, zc, hc, c_bitCount, ofInt1, nI_1, if_true, if_false, ne_eq, not_false_eq_true, and_self, or_self, show (168 : Nat) ≠ 277 from by decide]
      exact ih (k + 1) (by omega)
  have l0 := loop n 0 (by omega)
  rw [L_168_0]
  simp only [x_nil, Nat.reduceAdd, x_iconst_0, x_istore_n1, x_istore_n2]
  exact l0
end T18
