-- the text constant: the contracts
section Str2
variable {l : Launch} {base : Nat} {adK adV : Nat → Nat}
theorem wd_c : ∀ i, i < 124 → ((wdB.getD i 0 &&& 255).toUInt32 % 65536).toInt32 = wdB.getD i 0 := by decide +kernel
theorem wd_n : ∀ i, i < 124 → narrow .char (.int (wdB.getD i 0)) = .int (wdB.getD i 0) := by decide +kernel
theorem j_cod : JM l yCod prog_23_method_152_code 1 (some .byte) 0 0 base adK adV [.ref (adK 0)] (some (.int 0)) := by
  refine JM.of (by decide) (Nat.le_of_ble_eq_true rfl) ?_
  intro p e s m below meth c ls B hr hlk hX hl
  have hS : va_S (fun q => base ≤ q) s.heap s.heap [] := va_S.rf
  refine va_gets B.1 B.2.1 hX.2.1 hS B.2.2.2.1 (B.2.2.2.2 _ (tw_at 497 (by decide +kernel) rfl)) (fun x h => h) (show decode prog_23_method_152_code 0 = .ok (.getstatic 38, 3) by decide +kernel) ?_
  refine lv_if_eq (tgt := 13) B.1 B.2.1 (show decode prog_23_method_152_code 3 = .ok (.ifCond .eq 10, 3) by decide +kernel) (by decide) (fun h => absurd h (by decide)) (fun _ => ?_)
  refine lv_aload_n B.1 B.2.1 (show decode prog_23_method_152_code 6 = .ok (.aload_n 0, 1) by decide +kernel) rfl (lv_at hl 0 rfl) ?_
  refine vk_getf B.1 B.2.1 (hX.1.1 0 (by omega)).2.1 hS B.2.2.2.1 (B.2.2.2.2 _ (tw_at 2140 (by decide +kernel) rfl)) (fun x h => h) (show decode prog_23_method_152_code 7 = .ok (.getfield 15, 3) by decide +kernel) ?_
  refine lv_goto B.1 B.2.1 (show decode prog_23_method_152_code 10 = .ok (.goto 4, 3) by decide +kernel) (tgt := 14) (by decide) ?_
  exact W.zret (v := 0) (ty := .byte) B.1 B.2.1 hr rfl (fun t ht hWm => ⟨rfl, ht⟩) (fun q hq => by cases hq) (show decode prog_23_method_152_code 14 = .ok (.ireturn, 1) by decide +kernel)
theorem j_lat : JM l yLat prog_23_method_154_code 1 (some .boolean) 0 0 base adK adV [.ref (adK 0)] (some (.int 1)) := by
  refine JM.of (by decide) (Nat.le_of_ble_eq_true rfl) ?_
  intro p e s m below meth c ls B hr hlk hX hl
  have hS : va_S (fun q => base ≤ q) s.heap s.heap [] := va_S.rf
  refine va_gets B.1 B.2.1 hX.2.1 hS B.2.2.2.1 (B.2.2.2.2 _ (tw_at 497 (by decide +kernel) rfl)) (fun x h => h) (show decode prog_23_method_154_code 0 = .ok (.getstatic 38, 3) by decide +kernel) ?_
  refine lv_if_eq (tgt := 17) B.1 B.2.1 (show decode prog_23_method_154_code 3 = .ok (.ifCond .eq 14, 3) by decide +kernel) (by decide) (fun h => absurd h (by decide)) (fun _ => ?_)
  refine lv_aload_n B.1 B.2.1 (show decode prog_23_method_154_code 6 = .ok (.aload_n 0, 1) by decide +kernel) rfl (lv_at hl 0 rfl) ?_
  refine vk_getf B.1 B.2.1 (hX.1.1 0 (by omega)).2.1 hS B.2.2.2.1 (B.2.2.2.2 _ (tw_at 2140 (by decide +kernel) rfl)) (fun x h => h) (show decode prog_23_method_154_code 7 = .ok (.getfield 15, 3) by decide +kernel) ?_
  refine lv_if_ne (tgt := 17) B.1 B.2.1 (show decode prog_23_method_154_code 10 = .ok (.ifCond .ne 7, 3) by decide +kernel) (by decide) (fun h => absurd rfl h) (fun _ => ?_)
  refine lv_iconst B.1 B.2.1 (show decode prog_23_method_154_code 13 = .ok (.iconst 1, 1) by decide +kernel) rfl ?_
  refine lv_goto B.1 B.2.1 (show decode prog_23_method_154_code 14 = .ok (.goto 4, 3) by decide +kernel) (tgt := 18) (by decide) ?_
  exact W.zret (v := 1) (ty := .boolean) B.1 B.2.1 hr rfl (fun t ht hWm => ⟨rfl, ht⟩) (fun q hq => by cases hq) (show decode prog_23_method_154_code 18 = .ok (.ireturn, 1) by decide +kernel)
theorem j_len : JM l yLen prog_23_method_54_code 1 (some .int) 1 20 base adK adV [.ref (adK 0)] (some (.int (nI 124))) := by
  refine JM.of (by decide) (Nat.le_of_ble_eq_true rfl) ?_
  intro p e s m below meth c ls B hr hlk hX hl
  have hS : va_S (fun q => base ≤ q) s.heap s.heap [] := va_S.rf
  refine lv_aload_n B.1 B.2.1 (show decode prog_23_method_54_code 0 = .ok (.aload_n 0, 1) by decide +kernel) rfl (lv_at hl 0 rfl) ?_
  refine vk_getf B.1 B.2.1 (hX.1.1 0 (by omega)).2.2.1 hS B.2.2.2.1 (B.2.2.2.2 _ (tw_at 2139 (by decide +kernel) rfl)) (fun x h => h) (show decode prog_23_method_54_code 1 = .ok (.getfield 9, 3) by decide +kernel) ?_
  refine va_tlen B.1 B.2.1 (hX.1.1 0 (by omega)).2.2.2 hS (v := nI 124) rfl (show decode prog_23_method_54_code 4 = .ok (.arraylength, 1) by decide +kernel) ?_
  refine lv_aload_n B.1 B.2.1 (show decode prog_23_method_54_code 5 = .ok (.aload_n 0, 1) by decide +kernel) rfl (lv_at hl 0 rfl) ?_
  refine j_callV (idx := 335) (As := []) (pc := 6) B hX hS j_cod rfl rfl (tw_at 493 (by decide +kernel) rfl) (tw_at 494 (by decide +kernel) rfl) (tw_at 495 (by decide +kernel) rfl) (tw_at 138 (by decide +kernel) rfl) (tw_at 496 (by decide +kernel) rfl) (by decide +kernel) ⟨by decide, by decide⟩ (by decide) (by decide) hl.1 (Nat.le_of_ble_eq_true rfl) (by decide +kernel) ?_
  refine lv_ishr B.1 B.2.1 (show decode prog_23_method_54_code 9 = .ok (.ishr, 1) by decide +kernel) ?_
  rw [show nI 124 >>> ((0 : Int32) &&& 31) = nI 124 by decide]
  exact W.iret (v := nI 124) B.1 B.2.1 hr (fun t ht hWm => ⟨rfl, ht⟩) (fun q hq => by cases hq) (show decode prog_23_method_54_code 10 = .ok (.ireturn, 1) by decide +kernel)
theorem j_pre {i : Nat} (hi : i < 124) {v : Value} (hv : v = .null ∨ ∃ t, v = .ref t) : JM l yPre prog_30_method_11_code 3 (some .int) 0 0 base adK adV [.int (nI i), .int (nI 124), v] (some (.int (nI i))) := by
  refine JM.of (by decide) (by rcases hv with rfl | ⟨t, rfl⟩ <;> exact Nat.le_of_ble_eq_true rfl) ?_
  intro p e s m below meth c ls B hr hlk hX hl
  have l0 : ls[0]? = some (.val (.int (nI i))) := lv_at hl 0 rfl
  have l1 : ls[1]? = some (.val (.int (nI 124))) := lv_at hl 1 rfl
  refine lv_iload_n B.1 B.2.1 (show decode prog_30_method_11_code 0 = .ok (.iload_n 0, 1) by decide +kernel) rfl l0 ?_
  refine lv_if_lt (tgt := 9) B.1 B.2.1 (show decode prog_30_method_11_code 1 = .ok (.ifCond .lt 8, 3) by decide +kernel) (by decide) (fun h => absurd h (nI_pos (by omega))) (fun _ => ?_)
  refine lv_iload_n B.1 B.2.1 (show decode prog_30_method_11_code 4 = .ok (.iload_n 0, 1) by decide +kernel) rfl l0 ?_
  refine lv_iload_n B.1 B.2.1 (show decode prog_30_method_11_code 5 = .ok (.iload_n 1, 1) by decide +kernel) rfl l1 ?_
  refine lv_icmp_lt (tgt := 16) B.1 B.2.1 (show decode prog_30_method_11_code 6 = .ok (.if_icmp .lt 10, 3) by decide +kernel) (by decide) (fun _ => ?_) (fun h => absurd (nI_lt (by omega) (by omega)) h)
  refine lv_iload_n B.1 B.2.1 (show decode prog_30_method_11_code 16 = .ok (.iload_n 0, 1) by decide +kernel) rfl l0 ?_
  exact W.iret (v := nI i) B.1 B.2.1 hr (fun t ht hWm => ⟨rfl, ht⟩) (fun q hq => by cases hq) (show decode prog_30_method_11_code 17 = .ok (.ireturn, 1) by decide +kernel)
theorem j_chk {i : Nat} (hi : i < 124) : JM l yChk prog_23_method_155_code 2 none 1 22 base adK adV [.int (nI i), .int (nI 124)] none := by
  refine JM.of (by decide) (Nat.le_of_ble_eq_true rfl) ?_
  intro p e s m below meth c ls B hr hlk hX hl
  have hS : va_S (fun q => base ≤ q) s.heap s.heap [] := va_S.rf
  refine lv_iload_n B.1 B.2.1 (show decode prog_23_method_155_code 0 = .ok (.iload_n 0, 1) by decide +kernel) rfl (lv_at hl 0 rfl) ?_
  refine lv_iload_n B.1 B.2.1 (show decode prog_23_method_155_code 1 = .ok (.iload_n 1, 1) by decide +kernel) rfl (lv_at hl 1 rfl) ?_
  obtain ⟨v, hv, hZ⟩ : ∃ v : Value, (v = .null ∨ ∃ t, v = .ref t) ∧ va_Z "jdk/internal/util/Preconditions" "SIOOBE_FORMATTER" "Ljava/util/function/BiFunction;" v (fun q => base ≤ q) s s.heap := by
    rcases hX.2.2 with h | ⟨t, h⟩
    · exact ⟨.null, Or.inl rfl, h⟩
    · exact ⟨.ref t, Or.inr ⟨t, rfl⟩, h⟩
  refine va_gets B.1 B.2.1 hZ hS B.2.2.2.1 (B.2.2.2.2 _ (tw_at 513 (by decide +kernel) rfl)) (fun x h => h) (show decode prog_23_method_155_code 2 = .ok (.getstatic 1053, 3) by decide +kernel) ?_
  refine j_callS (idx := 1059) (As := [.int (nI i), .int (nI 124), v]) (rest := []) (pc := 5) B hX hS (j_pre hi hv) (by decide) (tw_at 515 (by decide +kernel) rfl) (tw_at 516 (by decide +kernel) rfl) (tw_at 140 (by decide +kernel) rfl) (tw_at 517 (by decide +kernel) rfl) (show _ = some 3 by decide +kernel) ⟨by decide, by decide⟩ (by decide) (by decide) hl.1 (Nat.le_of_ble_eq_true rfl) (by decide +kernel) ?_
  refine lv_pop B.1 B.2.1 (show decode prog_23_method_155_code 8 = .ok (.pop, 1) by decide +kernel) rfl ?_
  exact W.vret B.1 B.2.1 hr (fun t ht hWm => ⟨rfl, ht⟩) (fun q hq => by cases hq) (show decode prog_23_method_155_code 9 = .ok (.return_, 1) by decide +kernel)
theorem j_chL {i : Nat} (hi : i < 124) : JM l yChL prog_24_method_2_code 2 (some .char) 2 43 base adK adV [.ref (adV 0), .int (nI i)] (some (.int (wdB.getD i 0))) := by
  refine JM.of (by decide) (Nat.le_of_ble_eq_true rfl) ?_
  intro p e s m below meth c ls B hr hlk hX hl
  have hS : va_S (fun q => base ≤ q) s.heap s.heap [] := va_S.rf
  have l0 : ls[0]? = some (.val (.ref (adV 0))) := lv_at hl 0 rfl
  have l1 : ls[1]? = some (.val (.int (nI i))) := lv_at hl 1 rfl
  refine lv_iload_n B.1 B.2.1 (show decode prog_24_method_2_code 0 = .ok (.iload_n 1, 1) by decide +kernel) rfl l1 ?_
  refine lv_aload_n B.1 B.2.1 (show decode prog_24_method_2_code 1 = .ok (.aload_n 0, 1) by decide +kernel) rfl l0 ?_
  refine va_tlen B.1 B.2.1 (hX.1.1 0 (by omega)).2.2.2 hS (v := nI 124) rfl (show decode prog_24_method_2_code 2 = .ok (.arraylength, 1) by decide +kernel) ?_
  refine j_callS (idx := 9) (As := [.int (nI i), .int (nI 124)]) (rest := []) (pc := 3) B hX hS (j_chk hi) (by decide) (tw_at 510 (by decide +kernel) rfl) (tw_at 511 (by decide +kernel) rfl) (tw_at 138 (by decide +kernel) rfl) (tw_at 512 (by decide +kernel) rfl) (show _ = some 2 by decide +kernel) ⟨by decide, by decide⟩ (by decide) (by decide) hl.1 (Nat.le_of_ble_eq_true rfl) (by decide +kernel) ?_
  refine lv_aload_n B.1 B.2.1 (show decode prog_24_method_2_code 6 = .ok (.aload_n 0, 1) by decide +kernel) rfl l0 ?_
  refine lv_iload_n B.1 B.2.1 (show decode prog_24_method_2_code 7 = .ok (.iload_n 1, 1) by decide +kernel) rfl l1 ?_
  refine va_tb B.1 B.2.1 (hX.1.1 0 (by omega)).2.2.2 hS (i := nI i) (vp_in_nI hi (by decide)) (v := .int (wdB.getD i 0)) (by rw [nI_clamp (by omega)]; rfl) (show decode prog_24_method_2_code 8 = .ok (.baload, 1) by decide +kernel) ?_
  refine lv_sipush B.1 B.2.1 (show decode prog_24_method_2_code 9 = .ok (.sipush 255, 3) by decide +kernel) (v := 255) (by decide) ?_
  refine lv_iand B.1 B.2.1 (show decode prog_24_method_2_code 12 = .ok (.iand, 1) by decide +kernel) ?_
  refine lv_i2c B.1 B.2.1 (show decode prog_24_method_2_code 13 = .ok (.i2c, 1) by decide +kernel) (wd_c i hi) ?_
  exact W.zret (v := wdB.getD i 0) (ty := .char) B.1 B.2.1 hr (wd_n i hi) (fun t ht hWm => ⟨rfl, ht⟩) (fun q hq => by cases hq) (show decode prog_24_method_2_code 14 = .ok (.ireturn, 1) by decide +kernel)
theorem j_chr {i : Nat} (hi : i < 124) : JM l yChr prog_23_method_56_code 2 (some .char) 3 64 base adK adV [.ref (adK 0), .int (nI i)] (some (.int (wdB.getD i 0))) := by
  refine JM.of (by decide) (Nat.le_of_ble_eq_true rfl) ?_
  intro p e s m below meth c ls B hr hlk hX hl
  have hS : va_S (fun q => base ≤ q) s.heap s.heap [] := va_S.rf
  have l0 : ls[0]? = some (.val (.ref (adK 0))) := lv_at hl 0 rfl
  have l1 : ls[1]? = some (.val (.int (nI i))) := lv_at hl 1 rfl
  refine lv_aload_n B.1 B.2.1 (show decode prog_23_method_56_code 0 = .ok (.aload_n 0, 1) by decide +kernel) rfl l0 ?_
  refine j_callV (idx := 492) (As := []) (rest := []) (pc := 1) B hX hS j_lat rfl rfl (tw_at 503 (by decide +kernel) rfl) (tw_at 504 (by decide +kernel) rfl) (tw_at 505 (by decide +kernel) rfl) (tw_at 138 (by decide +kernel) rfl) (tw_at 506 (by decide +kernel) rfl) (by decide +kernel) ⟨by decide, by decide⟩ (by decide) (by decide) hl.1 (Nat.le_of_ble_eq_true rfl) (by decide +kernel) ?_
  refine lv_if_eq (tgt := 16) B.1 B.2.1 (show decode prog_23_method_56_code 4 = .ok (.ifCond .eq 12, 3) by decide +kernel) (by decide) (fun h => absurd h (by decide)) (fun _ => ?_)
  refine lv_aload_n B.1 B.2.1 (show decode prog_23_method_56_code 7 = .ok (.aload_n 0, 1) by decide +kernel) rfl l0 ?_
  refine vk_getf B.1 B.2.1 (hX.1.1 0 (by omega)).2.2.1 hS B.2.2.2.1 (B.2.2.2.2 _ (tw_at 2139 (by decide +kernel) rfl)) (fun x h => h) (show decode prog_23_method_56_code 8 = .ok (.getfield 9, 3) by decide +kernel) ?_
  refine lv_iload_n B.1 B.2.1 (show decode prog_23_method_56_code 11 = .ok (.iload_n 1, 1) by decide +kernel) rfl l1 ?_
  refine j_callS (idx := 495) (As := [.ref (adV 0), .int (nI i)]) (rest := []) (pc := 12) B hX hS (j_chL hi) (by decide) (tw_at 507 (by decide +kernel) rfl) (tw_at 508 (by decide +kernel) rfl) (tw_at 139 (by decide +kernel) rfl) (tw_at 509 (by decide +kernel) rfl) (show _ = some 2 by decide +kernel) ⟨by decide, by decide⟩ (by decide) (by decide) hl.1 (Nat.le_of_ble_eq_true rfl) (by decide +kernel) ?_
  exact W.zret (v := wdB.getD i 0) (ty := .char) B.1 B.2.1 hr (wd_n i hi) (fun t ht hWm => ⟨rfl, ht⟩) (fun q hq => by cases hq) (show decode prog_23_method_56_code 15 = .ok (.ireturn, 1) by decide +kernel)
end Str2
