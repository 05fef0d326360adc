-- the beginning: class and reference tell the same
theorem repS_self {h : Hp} {s : Nat} (i : isS h s) : repS h s (fun r => hI h (s + r)) := ⟨i, fun _ _ => rfl, fun _ _ => rfl, fun _ _ => rfl, fun _ _ => rfl, rfl, rfl, rfl, rfl⟩
theorem zC_wf : wfC (fun r => hI zC (141 + r)) := by
  obtain ⟨⟨v1, v2, v3, v4⟩, ⟨v5, v6, v7, v8⟩, ⟨v9, v10, v11⟩, -⟩ := zC_v
  have f : nfO (fun r => hI zC (141 + r)) = 0 := by show nO (hI zC 142 2) = 0; rw [v1]; rfl
  have p : npO (fun r => hI zC (141 + r)) = 0 := by show nO (hI zC 144 2) = 0; rw [v2]; rfl
  have q : nqO (fun r => hI zC (141 + r)) = 0 := by show nO (hI zC 146 2) = 0; rw [v3]; rfl
  have t : ntO (fun r => hI zC (141 + r)) = 0 := by show nO (hI zC 141 16) = 0; rw [v4]; rfl
  unfold wfC
  rw [f, p, q, t]
  refine ⟨⟨v1, by omega⟩, ⟨v2, by omega⟩, ⟨v3, by omega⟩, ⟨v4, by omega⟩, ?_, ?_, fun q hq => absurd hq (by omega), fun q hq => absurd hq (by omega), fun q hq => absurd hq (by omega), ⟨9, by omega, v9⟩, ⟨0, by omega, v10⟩, 0, by omega, v11⟩
  · unfold okL
    show hI zC 159 2 = nI (nO (hI zC 159 2)) ∧ nO (hI zC 159 2) ≤ 64 ∧ ∀ j, j < nO (hI zC 159 2) → _
    rw [v5, show nO (0 : Int32) = 0 from rfl]
    exact ⟨rfl, by omega, fun j hj => absurd hj (by omega)⟩
  · unfold okL
    show hI zC 162 2 = nI (nO (hI zC 162 2)) ∧ nO (hI zC 162 2) ≤ 64 ∧ ∀ j, j < nO (hI zC 162 2) → _
    rw [v6, show nO (0 : Int32) = 0 from rfl]
    exact ⟨rfl, by omega, fun j hj => absurd hj (by omega)⟩
theorem zC_CI : CI zC 141 165 (fun r => hI zC (141 + r)) (fun r => hI zC (2 + r)) (fun r => hI zC (7 + r)) (fun i r => hI zC (14 + 5 * i + r)) (fun r => hI zC (114 + r)) (fun r => hI zC r) := ⟨zC_X, Or.inl ⟨rfl, rfl⟩, zC_v.2.2.2.1, ⟨⟨zC_C1, fun _ _ => rfl⟩, zC_wf⟩, zC_C2, repS_self zC_S2.1, repS_self zC_S2.2.1, fun i hi => repS_self (zC_S i hi), ⟨zC_N, fun _ _ => rfl⟩, zC_Q, zC_S2.2.2, zC_U, rfl, rfl, rfl⟩
theorem zC_DI : DI zC (fun r => hI zC (141 + r)) (fun r => hI zC (2 + r)) (fun r => hI zC (7 + r)) (fun i r => hI zC (14 + 5 * i + r)) 0 (fun r => hI zC (114 + r)) (fun r => hI zC r) := by
  obtain ⟨⟨v1, v2, v3, v4⟩, ⟨v5, v6, v7, v8⟩, ⟨v9, v10, v11⟩, ⟨v12, v13⟩, ⟨v14, v15, v16, v17, v18⟩, ⟨v19, v20, v21, v22⟩, ⟨v23, v24, v25⟩, ⟨v26, v27, v28, v29, v30⟩, ⟨v31, v32, v33, v34⟩, ⟨v35, v36, v37, v38⟩, -⟩ := zC_v
  have f : nfO (fun r => hI zC (141 + r)) = 0 := by show nO (hI zC 142 2) = 0; rw [v1]; rfl
  have p : npO (fun r => hI zC (141 + r)) = 0 := by show nO (hI zC 144 2) = 0; rw [v2]; rfl
  have q : nqO (fun r => hI zC (141 + r)) = 0 := by show nO (hI zC 146 2) = 0; rw [v3]; rfl
  have t : ntO (fun r => hI zC (141 + r)) = 0 := by show nO (hI zC 141 16) = 0; rw [v4]; rfl
  unfold DI repE repB repN
  rw [f, p, q, t]
  refine ⟨⟨zC_D, ⟨v14.trans v1.symm, v15.trans v2.symm, v16.trans v3.symm, v17.trans v4.symm, v18.trans v11.symm⟩, ⟨v19.trans v9.symm, v20.trans v10.symm⟩, fun i hi => absurd hi (by omega), fun i hi => absurd hi (by omega), fun i hi => absurd hi (by omega), fun i hi => absurd hi (by omega), ⟨v21.trans v7.symm, Or.inl v7⟩, ⟨v22.trans v8.symm, Or.inl v8⟩⟩, ⟨fun i hi => absurd hi (by omega), v23, v24⟩, v25, ⟨v26.trans v27.symm, fun z => absurd v27 z⟩, ⟨v28, fun i hi => absurd hi (by omega)⟩, ⟨v33.trans v31.symm, v34.trans v32.symm, fun k hk => ?_⟩, fun j hj => (zC_t j hj).1.trans (zC_t j hj).2.symm, v35.trans v36.symm, v37, v38⟩
  exfalso
  have hk' : k < nO (hI zC 114 6) := hk
  rw [v31] at hk'
  exact absurd hk' (by rw [show nO (0 : Int32) = 0 from rfl]; omega)
theorem zC_GW : GW zC zC 0 := by
  obtain ⟨⟨v1, v2, v3, v4⟩, ⟨v5, v6, v7, v8⟩, ⟨v9, v10, v11⟩, ⟨v12, v13⟩, ⟨v14, v15, v16, v17, v18⟩, ⟨v19, v20, v21, v22⟩, ⟨v23, v24, v25⟩, ⟨v26, v27, v28, v29, v30⟩, ⟨v31, v32, v33, v34⟩, ⟨v35, v36, v37, v38⟩, ⟨v39, v40⟩, -⟩ := zC_v
  have p : npO (fun r => hI zC (141 + r)) = 0 := by show nO (hI zC 144 2) = 0; rw [v2]; rfl
  refine ⟨141, 165, _, _, _, _, _, _, _, 0, zC_CI, zC_DI, ⟨by omega, 0, by omega, v29, v30, fun i hi => absurd hi (by omega)⟩, ?_⟩
  unfold wfW wfS wfK lostB
  rw [p]
  refine ⟨⟨fun i hi => absurd hi (by omega), v39, fun i hi => absurd hi (by omega), 0, by omega, v40⟩, Or.inl v27, fun z => absurd v27 z, fun i hi => absurd hi (by omega), ⟨?_, Or.inl v32, fun k hk => ?_⟩, ⟨0, by omega, v36⟩, fun j hj => ⟨0, by omega, (zC_t j hj).2⟩⟩
  · show hI zC 114 6 = nI (nO (hI zC 114 6)) ∧ nO (hI zC 114 6) ≤ 24
    rw [v31]
    exact ⟨rfl, by rw [show nO (0 : Int32) = 0 from rfl]; omega⟩
  · exfalso
    have hk' : k < nO (hI zC 114 6) := hk
    rw [v31] at hk'
    exact absurd hk' (by rw [show nO (0 : Int32) = 0 from rfl]; omega)
