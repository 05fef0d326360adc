-- Names, Court, small Rules
section T20
variable {sc : Nat × (Nat → Int32)} {pp : Nat → Nat → Int32 → Int32 → Hp → Option (Hp × Int32)}
theorem L_22_0 (lv : Lv) (st : List Value) (cu su : Nat) (h : Hp) : Lm sc pp 22 0 lv st cu su h = exS sc pp (Lm sc pp) 22 0 [(.aload_n 0, 1, []), (.iconst 0, 1, []), (.putfield 25, 3, [4, 2, 0, 327, 0, 0]), (.return_, 1, [])] lv st cu su h := Lm_eq (by decide) (by rfl) lv st cu su h
theorem L_34_0 (lv : Lv) (st : List Value) (cu su : Nat) (h : Hp) : Lm sc pp 34 0 lv st cu su h = exS sc pp (Lm sc pp) 34 0 [(.aload_n 0, 1, []), (.getfield 25, 3, [4, 2, 0, 327, 0]), (.aload_n 0, 1, []), (.getfield 21, 3, [4, 1, 0, 326, 0]), (.if_icmp .lt 7, 3, [15])] lv st cu su h := Lm_eq (by decide) (by rfl) lv st cu su h
theorem L_34_11 (lv : Lv) (st : List Value) (cu su : Nat) (h : Hp) : Lm sc pp 34 11 lv st cu su h = exS sc pp (Lm sc pp) 34 11 [(.iconst 1, 1, []), (.goto 4, 3, [16])] lv st cu su h := Lm_eq (by decide) (by rfl) lv st cu su h
theorem L_34_15 (lv : Lv) (st : List Value) (cu su : Nat) (h : Hp) : Lm sc pp 34 15 lv st cu su h = exS sc pp (Lm sc pp) 34 15 [(.iconst 0, 1, [])] lv st cu su h := Lm_eq (by decide) (by rfl) lv st cu su h
theorem L_34_16 (lv : Lv) (st : List Value) (cu su : Nat) (h : Hp) : Lm sc pp 34 16 lv st cu su h = exS sc pp (Lm sc pp) 34 16 [(.ireturn, 1, [3])] lv st cu su h := Lm_eq (by decide) (by rfl) lv st cu su h
theorem L_36_0 (lv : Lv) (st : List Value) (cu su : Nat) (h : Hp) : Lm sc pp 36 0 lv st cu su h = exS sc pp (Lm sc pp) 36 0 [(.aload_n 0, 1, []), (.invokevirtual 28, 3, [34, 1, 791, 0, 1, 0, 0, 0, 0, 4])] lv st cu su h := Lm_eq (by decide) (by rfl) lv st cu su h
theorem L_36_4 (lv : Lv) (st : List Value) (cu su : Nat) (h : Hp) : Lm sc pp 36 4 lv st cu su h = exS sc pp (Lm sc pp) 36 4 [(.ifCond .ne 23, 3, [27])] lv st cu su h := Lm_eq (by decide) (by rfl) lv st cu su h
theorem L_36_7 (lv : Lv) (st : List Value) (cu su : Nat) (h : Hp) : Lm sc pp 36 7 lv st cu su h = exS sc pp (Lm sc pp) 36 7 [(.aload_n 0, 1, []), (.getfield 9, 3, [4, 0, 2, 325, 0]), (.aload_n 0, 1, []), (.getfield 25, 3, [4, 2, 0, 327, 0]), (.iload_n 1, 1, []), (.iastore, 1, []), (.aload_n 0, 1, []), (.dup, 1, []), (.getfield 25, 3, [4, 2, 0, 327, 0]), (.iconst 1, 1, []), (.iadd, 1, []), (.putfield 25, 3, [4, 2, 0, 327, 0, 0])] lv st cu su h := Lm_eq (by decide) (by rfl) lv st cu su h
theorem L_36_27 (lv : Lv) (st : List Value) (cu su : Nat) (h : Hp) : Lm sc pp 36 27 lv st cu su h = exS sc pp (Lm sc pp) 36 27 [(.return_, 1, [])] lv st cu su h := Lm_eq (by decide) (by rfl) lv st cu su h
theorem L_116_0 (lv : Lv) (st : List Value) (cu su : Nat) (h : Hp) : Lm sc pp 116 0 lv st cu su h = exS sc pp (Lm sc pp) 116 0 [(.iload_n 1, 1, []), (.iload_n 2, 1, []), (.if_icmp .eq 35, 3, [37])] lv st cu su h := Lm_eq (by decide) (by rfl) lv st cu su h
theorem L_116_5 (lv : Lv) (st : List Value) (cu su : Nat) (h : Hp) : Lm sc pp 116 5 lv st cu su h = exS sc pp (Lm sc pp) 116 5 [(.aload_n 0, 1, []), (.getfield 50, 3, [11, 7, 2, 661, 0]), (.getfield 121, 3, [0, 1, 2, 369, 1]), (.iload_n 1, 1, []), (.invokevirtual 127, 3, [106, 2, 909, 0, 2, 0, 0, 0, 0, 4])] lv st cu su h := Lm_eq (by decide) (by rfl) lv st cu su h
theorem L_116_16 (lv : Lv) (st : List Value) (cu su : Nat) (h : Hp) : Lm sc pp 116 16 lv st cu su h = exS sc pp (Lm sc pp) 116 16 [(.ifCond .eq 21, 3, [37])] lv st cu su h := Lm_eq (by decide) (by rfl) lv st cu su h
theorem L_116_19 (lv : Lv) (st : List Value) (cu su : Nat) (h : Hp) : Lm sc pp 116 19 lv st cu su h = exS sc pp (Lm sc pp) 116 19 [(.aload_n 0, 1, []), (.getfield 50, 3, [11, 7, 2, 661, 0]), (.getfield 121, 3, [0, 1, 2, 369, 1]), (.iload_n 2, 1, []), (.invokevirtual 127, 3, [106, 2, 909, 0, 2, 0, 0, 0, 0, 4])] lv st cu su h := Lm_eq (by decide) (by rfl) lv st cu su h
theorem L_116_30 (lv : Lv) (st : List Value) (cu su : Nat) (h : Hp) : Lm sc pp 116 30 lv st cu su h = exS sc pp (Lm sc pp) 116 30 [(.ifCond .eq 7, 3, [37])] lv st cu su h := Lm_eq (by decide) (by rfl) lv st cu su h
theorem L_116_33 (lv : Lv) (st : List Value) (cu su : Nat) (h : Hp) : Lm sc pp 116 33 lv st cu su h = exS sc pp (Lm sc pp) 116 33 [(.iconst 1, 1, []), (.goto 4, 3, [38])] lv st cu su h := Lm_eq (by decide) (by rfl) lv st cu su h
theorem L_116_37 (lv : Lv) (st : List Value) (cu su : Nat) (h : Hp) : Lm sc pp 116 37 lv st cu su h = exS sc pp (Lm sc pp) 116 37 [(.iconst 0, 1, [])] lv st cu su h := Lm_eq (by decide) (by rfl) lv st cu su h
theorem L_116_38 (lv : Lv) (st : List Value) (cu su : Nat) (h : Hp) : Lm sc pp 116 38 lv st cu su h = exS sc pp (Lm sc pp) 116 38 [(.ireturn, 1, [3])] lv st cu su h := Lm_eq (by decide) (by rfl) lv st cu su h
theorem L_117_0 (lv : Lv) (st : List Value) (cu su : Nat) (h : Hp) : Lm sc pp 117 0 lv st cu su h = exS sc pp (Lm sc pp) 117 0 [(.aload_n 0, 1, []), (.aload_n 1, 1, []), (.putfield 25, 3, [6, 2, 2, 624, 0, 0]), (.aload_n 0, 1, []), (.iconst 0, 1, []), (.putfield 29, 3, [6, 3, 3, 626, 0, 0]), (.aload_n 0, 1, []), (.iconst 0, 1, []), (.putfield 33, 3, [6, 4, 0, 628, 0, 0]), (.aload_n 0, 1, []), (.iconst (-1), 1, []), (.putfield 21, 3, [6, 5, 0, 630, 0, 0]), (.aload_n 0, 1, []), (.iconst 0, 1, []), (.putfield 36, 3, [6, 6, 3, 632, 0, 0]), (.aload_n 0, 1, []), (.iconst 0, 1, []), (.putfield 39, 3, [6, 7, 3, 634, 0, 0]), (.return_, 1, [])] lv st cu su h := Lm_eq (by decide) (by rfl) lv st cu su h
theorem L_120_0 (lv : Lv) (st : List Value) (cu su : Nat) (h : Hp) : Lm sc pp 120 0 lv st cu su h = exS sc pp (Lm sc pp) 120 0 [(.aload_n 1, 1, []), (.getfield 56, 3, [8, 1, 2, 170, 1]), (.iload_n 2, 1, []), (.iaload, 1, []), (.aload_n 1, 1, []), (.getfield 56, 3, [8, 1, 2, 170, 1]), (.iload_n 3, 1, []), (.iaload, 1, []), (.if_icmp .ne 59, 3, [71])] lv st cu su h := Lm_eq (by decide) (by rfl) lv st cu su h
theorem L_120_15 (lv : Lv) (st : List Value) (cu su : Nat) (h : Hp) : Lm sc pp 120 15 lv st cu su h = exS sc pp (Lm sc pp) 120 15 [(.iload 4, 2, []), (.aload_n 0, 1, []), (.getfield 21, 3, [6, 5, 0, 630, 0]), (.if_icmp .eq 50, 3, [71])] lv st cu su h := Lm_eq (by decide) (by rfl) lv st cu su h
theorem L_120_24 (lv : Lv) (st : List Value) (cu su : Nat) (h : Hp) : Lm sc pp 120 24 lv st cu su h = exS sc pp (Lm sc pp) 120 24 [(.aload_n 0, 1, []), (.getfield 33, 3, [6, 4, 0, 628, 0]), (.iload_n 2, 1, []), (.ishr, 1, []), (.iconst 1, 1, []), (.iand, 1, []), (.ifCond .ne 39, 3, [71])] lv st cu su h := Lm_eq (by decide) (by rfl) lv st cu su h
theorem L_120_35 (lv : Lv) (st : List Value) (cu su : Nat) (h : Hp) : Lm sc pp 120 35 lv st cu su h = exS sc pp (Lm sc pp) 120 35 [(.aload_n 0, 1, []), (.getfield 33, 3, [6, 4, 0, 628, 0]), (.iload_n 3, 1, []), (.ishr, 1, []), (.iconst 1, 1, []), (.iand, 1, []), (.ifCond .ne 28, 3, [71])] lv st cu su h := Lm_eq (by decide) (by rfl) lv st cu su h
theorem L_120_46 (lv : Lv) (st : List Value) (cu su : Nat) (h : Hp) : Lm sc pp 120 46 lv st cu su h = exS sc pp (Lm sc pp) 120 46 [(.aload_n 0, 1, []), (.getfield 25, 3, [6, 2, 2, 624, 0]), (.iload 4, 2, []), (.invokevirtual 59, 3, [119, 2, 933, 0, 3, 0, 0, 0, 0, 0])] lv st cu su h := Lm_eq (by decide) (by rfl) lv st cu su h
theorem L_120_55 (lv : Lv) (st : List Value) (cu su : Nat) (h : Hp) : Lm sc pp 120 55 lv st cu su h = exS sc pp (Lm sc pp) 120 55 [(.aload_n 1, 1, []), (.getfield 63, 3, [8, 0, 2, 166, 1]), (.iload_n 2, 1, []), (.iaload, 1, []), (.iconst (-1), 1, []), (.ixor, 1, []), (.iand, 1, []), (.ifCond .ne 7, 3, [71])] lv st cu su h := Lm_eq (by decide) (by rfl) lv st cu su h
theorem L_120_67 (lv : Lv) (st : List Value) (cu su : Nat) (h : Hp) : Lm sc pp 120 67 lv st cu su h = exS sc pp (Lm sc pp) 120 67 [(.iconst 1, 1, []), (.goto 4, 3, [72])] lv st cu su h := Lm_eq (by decide) (by rfl) lv st cu su h
theorem L_120_71 (lv : Lv) (st : List Value) (cu su : Nat) (h : Hp) : Lm sc pp 120 71 lv st cu su h = exS sc pp (Lm sc pp) 120 71 [(.iconst 0, 1, [])] lv st cu su h := Lm_eq (by decide) (by rfl) lv st cu su h
theorem L_120_72 (lv : Lv) (st : List Value) (cu su : Nat) (h : Hp) : Lm sc pp 120 72 lv st cu su h = exS sc pp (Lm sc pp) 120 72 [(.ireturn, 1, [3])] lv st cu su h := Lm_eq (by decide) (by rfl) lv st cu su h
theorem L_121_0 (lv : Lv) (st : List Value) (cu su : Nat) (h : Hp) : Lm sc pp 121 0 lv st cu su h = exS sc pp (Lm sc pp) 121 0 [(.aload_n 1, 1, []), (.getfield 42, 3, [8, 3, 2, 177, 1]), (.iload_n 2, 1, []), (.iaload, 1, []), (.aload_n 0, 1, []), (.getfield 25, 3, [6, 2, 2, 624, 0]), (.getfield 47, 3, [0, 17, 0, 427, 1]), (.if_icmp .ge 19, 3, [32])] lv st cu su h := Lm_eq (by decide) (by rfl) lv st cu su h
theorem L_121_16 (lv : Lv) (st : List Value) (cu su : Nat) (h : Hp) : Lm sc pp 121 16 lv st cu su h = exS sc pp (Lm sc pp) 121 16 [(.aload_n 0, 1, []), (.aload_n 1, 1, []), (.iload_n 2, 1, []), (.iload_n 3, 1, []), (.iload 4, 2, []), (.invokevirtual 52, 3, [120, 5, 929, 0, 5, 0, 0, 0, 0, 6])] lv st cu su h := Lm_eq (by decide) (by rfl) lv st cu su h
theorem L_121_25 (lv : Lv) (st : List Value) (cu su : Nat) (h : Hp) : Lm sc pp 121 25 lv st cu su h = exS sc pp (Lm sc pp) 121 25 [(.ifCond .eq 7, 3, [32])] lv st cu su h := Lm_eq (by decide) (by rfl) lv st cu su h
theorem L_121_28 (lv : Lv) (st : List Value) (cu su : Nat) (h : Hp) : Lm sc pp 121 28 lv st cu su h = exS sc pp (Lm sc pp) 121 28 [(.iconst 1, 1, []), (.goto 4, 3, [33])] lv st cu su h := Lm_eq (by decide) (by rfl) lv st cu su h
theorem L_121_32 (lv : Lv) (st : List Value) (cu su : Nat) (h : Hp) : Lm sc pp 121 32 lv st cu su h = exS sc pp (Lm sc pp) 121 32 [(.iconst 0, 1, [])] lv st cu su h := Lm_eq (by decide) (by rfl) lv st cu su h
theorem L_121_33 (lv : Lv) (st : List Value) (cu su : Nat) (h : Hp) : Lm sc pp 121 33 lv st cu su h = exS sc pp (Lm sc pp) 121 33 [(.ireturn, 1, [3])] lv st cu su h := Lm_eq (by decide) (by rfl) lv st cu su h
theorem L_126_0 (lv : Lv) (st : List Value) (cu su : Nat) (h : Hp) : Lm sc pp 126 0 lv st cu su h = exS sc pp (Lm sc pp) 126 0 [(.aload_n 0, 1, []), (.getfield 39, 3, [6, 7, 3, 634, 0]), (.ifCond .eq 8, 3, [12])] lv st cu su h := Lm_eq (by decide) (by rfl) lv st cu su h
theorem L_126_7 (lv : Lv) (st : List Value) (cu su : Nat) (h : Hp) : Lm sc pp 126 7 lv st cu su h = exS sc pp (Lm sc pp) 126 7 [(.bipush 9, 2, []), (.goto 12, 3, [21])] lv st cu su h := Lm_eq (by decide) (by rfl) lv st cu su h
theorem L_126_12 (lv : Lv) (st : List Value) (cu su : Nat) (h : Hp) : Lm sc pp 126 12 lv st cu su h = exS sc pp (Lm sc pp) 126 12 [(.aload_n 0, 1, []), (.getfield 25, 3, [6, 2, 2, 624, 0]), (.getfield 130, 3, [0, 4, 2, 382, 1]), (.iload_n 1, 1, []), (.iaload, 1, [])] lv st cu su h := Lm_eq (by decide) (by rfl) lv st cu su h
theorem L_126_21 (lv : Lv) (st : List Value) (cu su : Nat) (h : Hp) : Lm sc pp 126 21 lv st cu su h = exS sc pp (Lm sc pp) 126 21 [(.ireturn, 1, [0])] lv st cu su h := Lm_eq (by decide) (by rfl) lv st cu su h
theorem L_144_0 (lv : Lv) (st : List Value) (cu su : Nat) (h : Hp) : Lm sc pp 144 0 lv st cu su h = exS sc pp (Lm sc pp) 144 0 [(.aload_n 1, 1, []), (.getfield 56, 3, [8, 1, 2, 170, 1]), (.iload_n 2, 1, []), (.iaload, 1, []), (.iload_n 3, 1, []), (.if_icmp .ne 18, 3, [25])] lv st cu su h := Lm_eq (by decide) (by rfl) lv st cu su h
theorem L_144_10 (lv : Lv) (st : List Value) (cu su : Nat) (h : Hp) : Lm sc pp 144 10 lv st cu su h = exS sc pp (Lm sc pp) 144 10 [(.aload_n 0, 1, []), (.getfield 33, 3, [6, 4, 0, 628, 0]), (.iload_n 2, 1, []), (.ishr, 1, []), (.iconst 1, 1, []), (.iand, 1, []), (.ifCond .ne 7, 3, [25])] lv st cu su h := Lm_eq (by decide) (by rfl) lv st cu su h
theorem L_144_21 (lv : Lv) (st : List Value) (cu su : Nat) (h : Hp) : Lm sc pp 144 21 lv st cu su h = exS sc pp (Lm sc pp) 144 21 [(.iconst 1, 1, []), (.goto 4, 3, [26])] lv st cu su h := Lm_eq (by decide) (by rfl) lv st cu su h
theorem L_144_25 (lv : Lv) (st : List Value) (cu su : Nat) (h : Hp) : Lm sc pp 144 25 lv st cu su h = exS sc pp (Lm sc pp) 144 25 [(.iconst 0, 1, [])] lv st cu su h := Lm_eq (by decide) (by rfl) lv st cu su h
theorem L_144_26 (lv : Lv) (st : List Value) (cu su : Nat) (h : Hp) : Lm sc pp 144 26 lv st cu su h = exS sc pp (Lm sc pp) 144 26 [(.ireturn, 1, [3])] lv st cu su h := Lm_eq (by decide) (by rfl) lv st cu su h
theorem L_159_0 (lv : Lv) (st : List Value) (cu su : Nat) (h : Hp) : Lm sc pp 159 0 lv st cu su h = exS sc pp (Lm sc pp) 159 0 [(.aload_n 0, 1, []), (.getfield 50, 3, [11, 7, 2, 661, 0]), (.getfield 121, 3, [0, 1, 2, 369, 1]), (.iload_n 1, 1, []), (.invokevirtual 127, 3, [106, 2, 909, 0, 2, 0, 0, 0, 0, 4])] lv st cu su h := Lm_eq (by decide) (by rfl) lv st cu su h
theorem L_159_11 (lv : Lv) (st : List Value) (cu su : Nat) (h : Hp) : Lm sc pp 159 11 lv st cu su h = exS sc pp (Lm sc pp) 159 11 [(.ifCond .eq 21, 3, [32])] lv st cu su h := Lm_eq (by decide) (by rfl) lv st cu su h
theorem L_159_14 (lv : Lv) (st : List Value) (cu su : Nat) (h : Hp) : Lm sc pp 159 14 lv st cu su h = exS sc pp (Lm sc pp) 159 14 [(.aload_n 0, 1, []), (.getfield 50, 3, [11, 7, 2, 661, 0]), (.getfield 111, 3, [0, 0, 2, 363, 1]), (.iload_n 2, 1, []), (.invokevirtual 127, 3, [106, 2, 909, 0, 2, 0, 0, 0, 0, 4])] lv st cu su h := Lm_eq (by decide) (by rfl) lv st cu su h
theorem L_159_25 (lv : Lv) (st : List Value) (cu su : Nat) (h : Hp) : Lm sc pp 159 25 lv st cu su h = exS sc pp (Lm sc pp) 159 25 [(.ifCond .eq 7, 3, [32])] lv st cu su h := Lm_eq (by decide) (by rfl) lv st cu su h
theorem L_159_28 (lv : Lv) (st : List Value) (cu su : Nat) (h : Hp) : Lm sc pp 159 28 lv st cu su h = exS sc pp (Lm sc pp) 159 28 [(.iconst 1, 1, []), (.goto 4, 3, [33])] lv st cu su h := Lm_eq (by decide) (by rfl) lv st cu su h
theorem L_159_32 (lv : Lv) (st : List Value) (cu su : Nat) (h : Hp) : Lm sc pp 159 32 lv st cu su h = exS sc pp (Lm sc pp) 159 32 [(.iconst 0, 1, [])] lv st cu su h := Lm_eq (by decide) (by rfl) lv st cu su h
theorem L_159_33 (lv : Lv) (st : List Value) (cu su : Nat) (h : Hp) : Lm sc pp 159 33 lv st cu su h = exS sc pp (Lm sc pp) 159 33 [(.ireturn, 1, [3])] lv st cu su h := Lm_eq (by decide) (by rfl) lv st cu su h

theorem isC.m1 {h : Hp} {c : Nat} (a : isC h c) : isM h (c + 1) := ⟨C_k1 a, C_k2 a, C_n2 a, C_r1_0 a⟩
theorem isC.m3 {h : Hp} {c : Nat} (a : isC h c) : isM h (c + 3) := ⟨C_k3 a, C_k4 a, C_n4 a, C_r3_0 a⟩
theorem isC.m5 {h : Hp} {c : Nat} (a : isC h c) : isM h (c + 5) := ⟨C_k5 a, C_k6 a, C_n6 a, C_r5_0 a⟩
theorem isC.a18 {h : Hp} {c : Nat} (a : isC h c) : isA h (c + 18) := ⟨C_k18 a, C_k19 a, C_k20 a, C_n19 a, C_n20 a, C_r18_0 a, C_r18_1 a⟩
theorem isC.a21 {h : Hp} {c : Nat} (a : isC h c) : isA h (c + 21) := ⟨C_k21 a, C_k22 a, C_k23 a, C_n22 a, C_n23 a, C_r21_0 a, C_r21_1 a⟩
def findN (f : Nat → Int32) (x : Int32) : Nat → Nat → Int32
  | 0, _ => -1
  | m + 1, k => if f k = x then nI k else findN f x m (k + 1)
theorem c_numberOf (a n : Nat) (x : Int32) (h : Hp) (ha : isM h a) (hn : hI h a 2 = nI n) (h8 : n ≤ 8) : Lm sc pp 35 0 [some (.ref a), some (.int x), none] [] 0 0 h = some (h, some (.int (findN (hI h (a + 1)) x n 0))) := by
  have loop : ∀ (m k : Nat), k + m = n → Lm sc pp 35 2 [some (.ref a), some (.int x), some (.int (nI k))] [] 0 0 h = some (h, some (.int (findN (hI h (a + 1)) x m k))) := by
    intro m
    induction m with
    | zero =>
      intro k hk
      have : k = n := by omega
      subst this
      rw [L_35_2]
      simp only [x_nil, Nat.reduceAdd, x_iconst_0, x_istore_n2, x_iload_n2, x_aload_n0, x_getI, x_icmp_ge, x_getR, x_iald, x_iload_n1, x_icmp_ne, x_ireturn, x_iinc2, x_goto, x_iconst_m1, L_35_0, L_35_10, L_35_20, L_35_22, L_35_28, M_k0 ha, M_k1 ha, M_n1 ha, M_r0_0 ha, hn, if_true, nI_self (show k < 2 ^ 31 by omega), findN]
    | succ m ih =>
      intro k hk
      have hc := nI_clamp (show k < 2 ^ 31 by omega)
      have z0 : ¬ nI k < 0 := nI_pos (by omega)
      have z5 : ¬ 8 ≤ k := by omega
      have zc : ¬ nI n ≤ nI k := nI_ge (by omega) (by omega)
      rw [L_35_2]
      simp only [x_nil, Nat.reduceAdd, x_iconst_0, x_istore_n2, x_iload_n2, x_aload_n0, x_getI, x_icmp_ge, x_getR, x_iald, x_iload_n1, x_icmp_ne, x_ireturn, x_iinc2, x_goto, x_iconst_m1, L_35_0, L_35_10, L_35_20, L_35_22, L_35_28, M_k0 ha, M_k1 ha, M_n1 ha, M_r0_0 ha, hn, z0, z5, zc, hc, ofInt1, nI_1, if_true, if_false, ne_eq, not_false_eq_true, and_self, or_self, show (35 : Nat) ≠ 277 from by decide, findN]
      by_cases hx : hI h (a + 1) k = x
      · simp only [hx, not_true_eq_false, if_false, if_true]
      · simp only [hx, not_false_eq_true, if_true, if_false]
        exact ih (k + 1) (by omega)
  have l0 := loop n 0 (by omega)
  rw [L_35_0]
  simp only [x_nil, Nat.reduceAdd, x_iconst_0, x_istore_n2]
  exact l0
def bitF (f : Int32) : Int32 := if f = -1 then 0 else 1 <<< (f &&& 31)
theorem c_bitOf (f : Int32) (h : Hp) : Lm sc pp 118 0 [some (.int f)] [] 0 0 h = some (h, some (.int (bitF f))) := by
  simp only [x_nil, Nat.reduceAdd, x_iload_n0, x_iconst_m1, x_icmp_ne, x_iconst_0, x_goto, x_iconst_1, x_ishl, x_ireturn, L_118_0, L_118_5, L_118_9, L_118_12, bitF, ne_eq]
  by_cases hf : f = -1
  · simp only [hf, not_true_eq_false, if_false, if_true]
  · simp only [hf, not_false_eq_true, if_true, if_false]
def supF (kind sup also : Int32) : Int32 := if kind = 1 then bitF sup ||| bitF also else bitF sup
theorem c_supposed (c q : Nat) (h : Hp) (hC : isC h c) (hq : q < 8) : Lm sc pp 119 0 [some (.ref c), some (.int (nI q)), none] [] 0 0 h = some (h, some (.int (supF (hI h (c + 11) q) (hI h (c + 12) q) (hI h (c + 13) q)))) := by
  have hc := nI_clamp (show q < 2 ^ 31 by omega)
  have z0 : ¬ nI q < 0 := nI_pos (by omega)
  have z5 : ¬ 8 ≤ q := by omega
  simp only [x_nil, Nat.reduceAdd, x_aload_n0, x_getR, x_iload_n1, x_iald, K_118, bindR_some, toL_s, toL_n, ap_n, ap_c, List.map_nil, List.map_cons, List.sum_nil, List.sum_cons, cat_i, cat_r, cat_l, Nat.reduceLeDiff, Nat.zero_le, Nat.le_refl, x_istore_n2, x_iconst_1, x_icmp_ne, x_iload_n2, x_ior, x_goto, x_ireturn, L_119_0, L_119_9, L_119_20, L_119_30, L_119_34, L_119_35, C_k0 hC, C_k11 hC, C_k12 hC, C_k13 hC, C_n11 hC, C_n12 hC, C_n13 hC, C_r0_7 hC, C_r0_8 hC, C_r0_9 hC, z0, z5, hc, c_bitOf, if_true, ne_eq, not_false_eq_true, and_self, or_self, show (119 : Nat) ≠ 277 from by decide, supF]
  by_cases hf : hI h (c + 11) q = 1
  · simp only [hf, not_true_eq_false, if_false, if_true]
  · simp only [hf, not_false_eq_true, if_true, if_false]
theorem c_isFull (a : Nat) (h : Hp) (ha : isM h a) : Lm sc pp 34 0 [some (.ref a)] [] 0 0 h = some (h, some (.int (if hI h a 1 ≤ hI h a 2 then 1 else 0))) := by
  simp only [x_nil, Nat.reduceAdd, x_aload_n0, x_getI, x_icmp_lt, x_iconst_1, x_goto, x_iconst_0, x_zreturn, L_34_0, L_34_11, L_34_15, L_34_16, M_k0 ha, if_true, true_or, or_true]
  by_cases hx : hI h a 2 < hI h a 1
  · simp only [hx, if_true, Int32.not_le.mpr hx, if_false]
  · simp only [hx, if_false, Int32.not_lt.mp hx, if_true]
theorem c_witOf (u c p : Nat) (h : Hp) (hU : isU h u) (hR : hR h u 2 = c + 1) (hC : isC h c) (hp : p < 5) : Lm sc pp 126 0 [some (.ref u), some (.int (nI p))] [] 0 0 h = some (h, some (.int (if hI h u 7 = 0 then hI h (c + 8) p else 9))) := by
  have hc := nI_clamp (show p < 2 ^ 31 by omega)
  have z0 : ¬ nI p < 0 := nI_pos (by omega)
  have z5 : ¬ 5 ≤ p := by omega
  simp only [x_nil, Nat.reduceAdd, x_aload_n0, x_getZ, x_if_eq, x_bipush_9, x_goto, x_getR, x_iload_n1, x_iald, x_ireturn, L_126_0, L_126_7, L_126_12, L_126_21, U_k0 hU, hR, C_k0 hC, C_r0_4 hC, C_k8 hC, C_n8 hC, z0, z5, hc, if_true, ne_eq, not_false_eq_true, and_self, or_self, show (126 : Nat) ≠ 277 from by decide]
  split <;> rfl
theorem c_isIn (u s p : Nat) (room : Int32) (h : Hp) (hU : isU h u) (hs : isS h s) (hp : p < 5) : Lm sc pp 144 0 [some (.ref u), some (.ref s), some (.int (nI p)), some (.int room)] [] 0 0 h = some (h, some (.int (if hI h (s + 2) p = room ∧ (hI h u 4 >>> (nI p &&& 31)) &&& 1 = 0 then 1 else 0))) := by
  have hc := nI_clamp (show p < 2 ^ 31 by omega)
  have z0 : ¬ nI p < 0 := nI_pos (by omega)
  have z5 : ¬ 5 ≤ p := by omega
  simp only [x_nil, Nat.reduceAdd, x_aload_n1, x_getR, x_iload_n2, x_iald, x_iload_n3, x_icmp_ne, x_aload_n0, x_getI, x_ishr, x_iconst_1, x_iand, x_if_ne, x_goto, x_iconst_0, x_zreturn, L_144_0, L_144_10, L_144_21, L_144_25, L_144_26, U_k0 hU, S_k0 hs, S_k1 hs, S_k2 hs, S_k3 hs, S_k4 hs, S_n1 hs, S_n2 hs, S_n3 hs, S_n4 hs, S_r0_0 hs, S_r0_1 hs, S_r0_2 hs, S_r0_3 hs, z0, z5, hc, if_true, ne_eq, not_false_eq_true, and_self, or_self, true_or, or_true, show (144 : Nat) ≠ 277 from by decide]
  by_cases h1 : hI h (s + 2) p = room <;> by_cases h2 : (hI h u 4 >>> (nI p &&& 31)) &&& 1 = 0 <;> simp [h1, h2]
end T20
