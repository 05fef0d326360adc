-- calls, evaluated: a row a method
theorem cat_i (x : Int32) : (Value.int x).category = 1 := (rfl)
theorem cat_r (x : Nat) : (Value.ref x).category = 1 := (rfl)
theorem cat_l (x : Int64) : (Value.long x).category = 2 := (rfl)
def bindR (o : Rs) (f : Hp → Option Value → Rs) : Rs := match o with
  | some (h', r) => f h' r
  | none => none
theorem bindR_some {h' : Hp} {r : Option Value} {f : Hp → Option Value → Rs} : bindR (some (h', r)) f = f h' r := (rfl)
theorem toL_s (v : Value) : (some v).toList = [v] := (rfl)
theorem toL_n : (none : Option Value).toList = [] := (rfl)
theorem ap_n (l : List Value) : [] ++ l = l := (rfl)
theorem ap_c (v : Value) (l m : List Value) : (v :: l) ++ m = v :: (l ++ m) := (rfl)
section RunK
variable {sc : Nat × (Nat → Int32)} {pp : Nat → Nat → Int32 → Int32 → Hp → Option (Hp × Int32)} {rec : Rec} {mi pc n cu su : Nat} {r : List MI} {lv : Lv} {st : List Value} {h : Hp}
theorem K_0 {y0 : Nat} {ix p q c2 s2 : Nat} (hk : kd h y0 = 8) (h8 : (st.map fun v => v.category).sum ≤ 8) (hc : cu + 4 ≤ c2) (hs : su + 20 ≤ s2) : exS sc pp rec mi pc ((.invokespecial ix, n, [0, 1, p, q, 1, 4, 20, c2, s2, 8]) :: r) lv (.ref y0 :: st) cu su h = bindR (rec 0 0 [some (.ref y0)] [] 0 0 h) (fun h' r' => exS sc pp rec mi (pc + n) r lv (r'.toList ++ st) (cu + 4) (su + 20) h') := by
  simp [exS, ex1, doCall, lvE, cat_i, cat_r, cat_l, h8, hc, hs, hk]
  rfl
theorem K_1 {y0 : Nat} {ix p q c2 s2 : Nat} (hk : kd h y0 = 1) (h8 : (st.map fun v => v.category).sum ≤ 8) (hc : cu + 101 ≤ c2) (hs : su + 580 ≤ s2) : exS sc pp rec mi pc ((.invokespecial ix, n, [1, 1, p, q, 2, 101, 580, c2, s2, 1]) :: r) lv (.ref y0 :: st) cu su h = bindR (rec 1 0 [some (.ref y0), none] [] 0 0 h) (fun h' r' => exS sc pp rec mi (pc + n) r lv (r'.toList ++ st) (cu + 101) (su + 580) h') := by
  simp [exS, ex1, doCall, lvE, cat_i, cat_r, cat_l, h8, hc, hs, hk]
  rfl
theorem K_2 {y0 : Nat} {ix p q c2 s2 : Nat} (hk : kd h y0 = 5) (h8 : (st.map fun v => v.category).sum ≤ 8) (hc : cu + 6 ≤ c2) (hs : su + 144 ≤ s2) : exS sc pp rec mi pc ((.invokespecial ix, n, [2, 1, p, q, 1, 6, 144, c2, s2, 5]) :: r) lv (.ref y0 :: st) cu su h = bindR (rec 2 0 [some (.ref y0)] [] 0 0 h) (fun h' r' => exS sc pp rec mi (pc + n) r lv (r'.toList ++ st) (cu + 6) (su + 144) h') := by
  simp [exS, ex1, doCall, lvE, cat_i, cat_r, cat_l, h8, hc, hs, hk]
  rfl
theorem K_3 {y0 : Nat} {ix p q c2 s2 : Nat} (hk : kd h y0 = 7) (h8 : (st.map fun v => v.category).sum ≤ 8) (hc : cu + 14 ≤ c2) (hs : su + 301 ≤ s2) : exS sc pp rec mi pc ((.invokespecial ix, n, [3, 1, p, q, 1, 14, 301, c2, s2, 7]) :: r) lv (.ref y0 :: st) cu su h = bindR (rec 3 0 [some (.ref y0)] [] 0 0 h) (fun h' r' => exS sc pp rec mi (pc + n) r lv (r'.toList ++ st) (cu + 14) (su + 301) h') := by
  simp [exS, ex1, doCall, lvE, cat_i, cat_r, cat_l, h8, hc, hs, hk]
  rfl
theorem K_4 {y0 : Nat} {y1 : Int32} {ix p q c2 s2 : Nat} (hk : kd h y0 = 4) (h8 : (st.map fun v => v.category).sum ≤ 8) (hc : cu + 1 ≤ c2) (hs : su + 8 ≤ s2) : exS sc pp rec mi pc ((.invokespecial ix, n, [4, 2, p, q, 2, 1, 8, c2, s2, 4]) :: r) lv (.int y1 :: .ref y0 :: st) cu su h = bindR (rec 4 0 [some (.ref y0), some (.int y1)] [] 0 0 h) (fun h' r' => exS sc pp rec mi (pc + n) r lv (r'.toList ++ st) (cu + 1) (su + 8) h') := by
  simp [exS, ex1, doCall, lvE, cat_i, cat_r, cat_l, h8, hc, hs, hk]
  rfl
theorem K_5 {y0 : Nat} {ix p q c2 s2 : Nat} (hk : kd h y0 = 2) (h8 : (st.map fun v => v.category).sum ≤ 8) (hc : cu + 2 ≤ c2) (hs : su + 128 ≤ s2) : exS sc pp rec mi pc ((.invokespecial ix, n, [5, 1, p, q, 1, 2, 128, c2, s2, 2]) :: r) lv (.ref y0 :: st) cu su h = bindR (rec 5 0 [some (.ref y0)] [] 0 0 h) (fun h' r' => exS sc pp rec mi (pc + n) r lv (r'.toList ++ st) (cu + 2) (su + 128) h') := by
  simp [exS, ex1, doCall, lvE, cat_i, cat_r, cat_l, h8, hc, hs, hk]
  rfl
theorem K_6 {y0 : Nat} {ix p q c2 s2 : Nat} (hk : kd h y0 = 0) (h8 : (st.map fun v => v.category).sum ≤ 8) (hc : cu + 23 ≤ c2) (hs : su + 379 ≤ s2) : exS sc pp rec mi pc ((.invokespecial ix, n, [6, 1, p, q, 1, 23, 379, c2, s2, 0]) :: r) lv (.ref y0 :: st) cu su h = bindR (rec 6 0 [some (.ref y0)] [] 0 0 h) (fun h' r' => exS sc pp rec mi (pc + n) r lv (r'.toList ++ st) (cu + 23) (su + 379) h') := by
  simp [exS, ex1, doCall, lvE, cat_i, cat_r, cat_l, h8, hc, hs, hk]
  rfl
theorem K_7 {y0 : Nat} {y1 : Nat} {ix p q c2 s2 : Nat} (hk : kd h y0 = 10) (h8 : (st.map fun v => v.category).sum ≤ 8) (hc : cu + 1 ≤ c2) (hs : su + 25 ≤ s2) : exS sc pp rec mi pc ((.invokespecial ix, n, [7, 2, p, q, 5, 1, 25, c2, s2, 10]) :: r) lv (.ref y1 :: .ref y0 :: st) cu su h = bindR (rec 7 0 [some (.ref y0), some (.ref y1), none, none, none] [] 0 0 h) (fun h' r' => exS sc pp rec mi (pc + n) r lv (r'.toList ++ st) (cu + 1) (su + 25) h') := by
  simp [exS, ex1, doCall, lvE, cat_i, cat_r, cat_l, h8, hc, hs, hk]
  rfl
theorem K_8 {y0 : Nat} {y1 : Nat} {y2 : Nat} {ix p q c2 s2 : Nat} (hk : kd h y0 = 3) (h8 : (st.map fun v => v.category).sum ≤ 8) (hc : cu + 1 ≤ c2) (hs : su + 72 ≤ s2) : exS sc pp rec mi pc ((.invokespecial ix, n, [8, 3, p, q, 3, 1, 72, c2, s2, 3]) :: r) lv (.ref y2 :: .ref y1 :: .ref y0 :: st) cu su h = bindR (rec 8 0 [some (.ref y0), some (.ref y1), some (.ref y2)] [] 0 0 h) (fun h' r' => exS sc pp rec mi (pc + n) r lv (r'.toList ++ st) (cu + 1) (su + 72) h') := by
  simp [exS, ex1, doCall, lvE, cat_i, cat_r, cat_l, h8, hc, hs, hk]
  rfl
theorem K_9 {y0 : Nat} {y1 : Nat} {y2 : Nat} {ix p q c2 s2 : Nat} (hk : kd h y0 = 9) (h8 : (st.map fun v => v.category).sum ≤ 8) (hc : cu + 4 ≤ c2) (hs : su + 111 ≤ s2) : exS sc pp rec mi pc ((.invokespecial ix, n, [9, 3, p, q, 3, 4, 111, c2, s2, 9]) :: r) lv (.ref y2 :: .ref y1 :: .ref y0 :: st) cu su h = bindR (rec 9 0 [some (.ref y0), some (.ref y1), some (.ref y2)] [] 0 0 h) (fun h' r' => exS sc pp rec mi (pc + n) r lv (r'.toList ++ st) (cu + 4) (su + 111) h') := by
  simp [exS, ex1, doCall, lvE, cat_i, cat_r, cat_l, h8, hc, hs, hk]
  rfl
theorem K_10 {y0 : Nat} {y1 : Nat} {ix p q c2 s2 : Nat} (hk : kd h y0 = 6) (h8 : (st.map fun v => v.category).sum ≤ 8) (hc : cu + 2 ≤ c2) (hs : su + 71 ≤ s2) : exS sc pp rec mi pc ((.invokespecial ix, n, [10, 2, p, q, 2, 2, 71, c2, s2, 6]) :: r) lv (.ref y1 :: .ref y0 :: st) cu su h = bindR (rec 10 0 [some (.ref y0), some (.ref y1)] [] 0 0 h) (fun h' r' => exS sc pp rec mi (pc + n) r lv (r'.toList ++ st) (cu + 2) (su + 71) h') := by
  simp [exS, ex1, doCall, lvE, cat_i, cat_r, cat_l, h8, hc, hs, hk]
  rfl
theorem K_11 {y0 : Nat} {ix p q c2 s2 : Nat} (hk : kd h y0 = 11) (h8 : (st.map fun v => v.category).sum ≤ 8) (hc : cu + 196 ≤ c2) (hs : su + 2827 ≤ s2) : exS sc pp rec mi pc ((.invokespecial ix, n, [11, 1, p, q, 1, 196, 2827, c2, s2, 11]) :: r) lv (.ref y0 :: st) cu su h = bindR (rec 11 0 [some (.ref y0)] [] 0 0 h) (fun h' r' => exS sc pp rec mi (pc + n) r lv (r'.toList ++ st) (cu + 196) (su + 2827) h') := by
  simp [exS, ex1, doCall, lvE, cat_i, cat_r, cat_l, h8, hc, hs, hk]
  rfl
theorem K_12 {y0 : Nat} {ix p q c2 s2 : Nat} (hk : kd h y0 = 12) (h8 : (st.map fun v => v.category).sum ≤ 8) (hc : cu ≤ c2) (hs : su ≤ s2) : exS sc pp rec mi pc ((.invokevirtual ix, n, [12, 1, p, q, 2, 0, 0, c2, s2, 12]) :: r) lv (.ref y0 :: st) cu su h = bindR (rec 12 0 [some (.ref y0), none] [] 0 0 h) (fun h' r' => exS sc pp rec mi (pc + n) r lv (r'.toList ++ st) (cu) (su) h') := by
  simp [exS, ex1, doCall, lvE, cat_i, cat_r, cat_l, h8, hc, hs, hk]
  rfl
theorem K_13 {y0 : Nat} {y1 : Int32} {ix p q c2 s2 : Nat} (h8 : (st.map fun v => v.category).sum ≤ 8) (hc : cu ≤ c2) (hs : su ≤ s2) : exS sc pp rec mi pc ((.invokestatic ix, n, [13, 2, p, q, 3, 0, 0, c2, s2, 12]) :: r) lv (.int y1 :: .ref y0 :: st) cu su h = bindR (rec 13 0 [some (.ref y0), some (.int y1), none] [] 0 0 h) (fun h' r' => exS sc pp rec mi (pc + n) r lv (r'.toList ++ st) (cu) (su) h') := by
  simp [exS, ex1, doCall, lvE, cat_i, cat_r, cat_l, h8, hc, hs]
  rfl
theorem K_14 {y0 : Nat} {y1 : Int32} {ix p q c2 s2 : Nat} (hk : kd h y0 = 12) (h8 : (st.map fun v => v.category).sum ≤ 8) (hc : cu ≤ c2) (hs : su ≤ s2) : exS sc pp rec mi pc ((.invokevirtual ix, n, [14, 2, p, q, 3, 0, 0, c2, s2, 12]) :: r) lv (.int y1 :: .ref y0 :: st) cu su h = bindR (rec 14 0 [some (.ref y0), some (.int y1), none] [] 0 0 h) (fun h' r' => exS sc pp rec mi (pc + n) r lv (r'.toList ++ st) (cu) (su) h') := by
  simp [exS, ex1, doCall, lvE, cat_i, cat_r, cat_l, h8, hc, hs, hk]
  rfl
theorem K_15 {y0 : Nat} {ix p q c2 s2 : Nat} (hk : kd h y0 = 12) (h8 : (st.map fun v => v.category).sum ≤ 8) (hc : cu ≤ c2) (hs : su ≤ s2) : exS sc pp rec mi pc ((.invokevirtual ix, n, [15, 1, p, q, 1, 0, 0, c2, s2, 12]) :: r) lv (.ref y0 :: st) cu su h = bindR (rec 15 0 [some (.ref y0)] [] 0 0 h) (fun h' r' => exS sc pp rec mi (pc + n) r lv (r'.toList ++ st) (cu) (su) h') := by
  simp [exS, ex1, doCall, lvE, cat_i, cat_r, cat_l, h8, hc, hs, hk]
  rfl
theorem K_16 {y0 : Nat} {ix p q c2 s2 : Nat} (hk : kd h y0 = 12) (h8 : (st.map fun v => v.category).sum ≤ 8) (hc : cu ≤ c2) (hs : su ≤ s2) : exS sc pp rec mi pc ((.invokevirtual ix, n, [16, 1, p, q, 1, 0, 0, c2, s2, 12]) :: r) lv (.ref y0 :: st) cu su h = bindR (rec 16 0 [some (.ref y0)] [] 0 0 h) (fun h' r' => exS sc pp rec mi (pc + n) r lv (r'.toList ++ st) (cu) (su) h') := by
  simp [exS, ex1, doCall, lvE, cat_i, cat_r, cat_l, h8, hc, hs, hk]
  rfl
theorem K_17 {y0 : Nat} {ix p q c2 s2 : Nat} (hk : kd h y0 = 12) (h8 : (st.map fun v => v.category).sum ≤ 8) (hc : cu ≤ c2) (hs : su ≤ s2) : exS sc pp rec mi pc ((.invokevirtual ix, n, [17, 1, p, q, 2, 0, 0, c2, s2, 12]) :: r) lv (.ref y0 :: st) cu su h = bindR (rec 17 0 [some (.ref y0), none] [] 0 0 h) (fun h' r' => exS sc pp rec mi (pc + n) r lv (r'.toList ++ st) (cu) (su) h') := by
  simp [exS, ex1, doCall, lvE, cat_i, cat_r, cat_l, h8, hc, hs, hk]
  rfl
theorem K_18 {y0 : Nat} {ix p q c2 s2 : Nat} (hk : kd h y0 = 12) (h8 : (st.map fun v => v.category).sum ≤ 8) (hc : cu + 41 ≤ c2) (hs : su + 2503 ≤ s2) : exS sc pp rec mi pc ((.invokespecial ix, n, [18, 1, p, q, 1, 41, 2503, c2, s2, 12]) :: r) lv (.ref y0 :: st) cu su h = bindR (rec 18 0 [some (.ref y0)] [] 0 0 h) (fun h' r' => exS sc pp rec mi (pc + n) r lv (r'.toList ++ st) (cu + 41) (su + 2503) h') := by
  simp [exS, ex1, doCall, lvE, cat_i, cat_r, cat_l, h8, hc, hs, hk]
  rfl
theorem K_19 {y0 : Nat} {y1 : Int32} {ix p q c2 s2 : Nat} (hk : kd h y0 = 11) (h8 : (st.map fun v => v.category).sum ≤ 8) (hc : cu ≤ c2) (hs : su ≤ s2) : exS sc pp rec mi pc ((.invokevirtual ix, n, [19, 2, p, q, 3, 0, 0, c2, s2, 11]) :: r) lv (.int y1 :: .ref y0 :: st) cu su h = bindR (rec 19 0 [some (.ref y0), some (.int y1), none] [] 0 0 h) (fun h' r' => exS sc pp rec mi (pc + n) r lv (r'.toList ++ st) (cu) (su) h') := by
  simp [exS, ex1, doCall, lvE, cat_i, cat_r, cat_l, h8, hc, hs, hk]
  rfl
theorem K_20 {y0 : Nat} {y1 : Int32} {y2 : Int32} {y3 : Int32} {y4 : Int32} {y5 : Int32} {ix p q c2 s2 : Nat} (hk : kd h y0 = 11) (h8 : (st.map fun v => v.category).sum ≤ 8) (hc : cu ≤ c2) (hs : su ≤ s2) : exS sc pp rec mi pc ((.invokevirtual ix, n, [20, 6, p, q, 6, 0, 0, c2, s2, 11]) :: r) lv (.int y5 :: .int y4 :: .int y3 :: .int y2 :: .int y1 :: .ref y0 :: st) cu su h = bindR (rec 20 0 [some (.ref y0), some (.int y1), some (.int y2), some (.int y3), some (.int y4), some (.int y5)] [] 0 0 h) (fun h' r' => exS sc pp rec mi (pc + n) r lv (r'.toList ++ st) (cu) (su) h') := by
  simp [exS, ex1, doCall, lvE, cat_i, cat_r, cat_l, h8, hc, hs, hk]
  rfl
theorem K_21 {y0 : Nat} {y1 : Int32} {y2 : Int32} {y3 : Int32} {y4 : Int32} {y5 : Int32} {ix p q c2 s2 : Nat} (hk : kd h y0 = 12) (h8 : (st.map fun v => v.category).sum ≤ 8) (hc : cu ≤ c2) (hs : su ≤ s2) : exS sc pp rec mi pc ((.invokevirtual ix, n, [21, 6, p, q, 8, 0, 0, c2, s2, 12]) :: r) lv (.int y5 :: .int y4 :: .int y3 :: .int y2 :: .int y1 :: .ref y0 :: st) cu su h = bindR (rec 21 0 [some (.ref y0), some (.int y1), some (.int y2), some (.int y3), some (.int y4), some (.int y5), none, none] [] 0 0 h) (fun h' r' => exS sc pp rec mi (pc + n) r lv (r'.toList ++ st) (cu) (su) h') := by
  simp [exS, ex1, doCall, lvE, cat_i, cat_r, cat_l, h8, hc, hs, hk]
  rfl
theorem K_22 {y0 : Nat} {ix p q c2 s2 : Nat} (hk : kd h y0 = 4) (h8 : (st.map fun v => v.category).sum ≤ 8) (hc : cu ≤ c2) (hs : su ≤ s2) : exS sc pp rec mi pc ((.invokevirtual ix, n, [22, 1, p, q, 1, 0, 0, c2, s2, 4]) :: r) lv (.ref y0 :: st) cu su h = bindR (rec 22 0 [some (.ref y0)] [] 0 0 h) (fun h' r' => exS sc pp rec mi (pc + n) r lv (r'.toList ++ st) (cu) (su) h') := by
  simp [exS, ex1, doCall, lvE, cat_i, cat_r, cat_l, h8, hc, hs, hk]
  rfl
theorem K_23 {y0 : Nat} {ix p q c2 s2 : Nat} (hk : kd h y0 = 2) (h8 : (st.map fun v => v.category).sum ≤ 8) (hc : cu ≤ c2) (hs : su ≤ s2) : exS sc pp rec mi pc ((.invokevirtual ix, n, [23, 1, p, q, 1, 0, 0, c2, s2, 2]) :: r) lv (.ref y0 :: st) cu su h = bindR (rec 23 0 [some (.ref y0)] [] 0 0 h) (fun h' r' => exS sc pp rec mi (pc + n) r lv (r'.toList ++ st) (cu) (su) h') := by
  simp [exS, ex1, doCall, lvE, cat_i, cat_r, cat_l, h8, hc, hs, hk]
  rfl
theorem K_24 {y0 : Nat} {ix p q c2 s2 : Nat} (hk : kd h y0 = 0) (h8 : (st.map fun v => v.category).sum ≤ 8) (hc : cu ≤ c2) (hs : su ≤ s2) : exS sc pp rec mi pc ((.invokevirtual ix, n, [24, 1, p, q, 1, 0, 0, c2, s2, 0]) :: r) lv (.ref y0 :: st) cu su h = bindR (rec 24 0 [some (.ref y0)] [] 0 0 h) (fun h' r' => exS sc pp rec mi (pc + n) r lv (r'.toList ++ st) (cu) (su) h') := by
  simp [exS, ex1, doCall, lvE, cat_i, cat_r, cat_l, h8, hc, hs, hk]
  rfl
theorem K_25 {y0 : Int32} {ix p q c2 s2 : Nat} (h8 : (st.map fun v => v.category).sum ≤ 8) (hc : cu ≤ c2) (hs : su ≤ s2) : exS sc pp rec mi pc ((.invokestatic ix, n, [25, 1, p, q, 1, 0, 0, c2, s2, 10]) :: r) lv (.int y0 :: st) cu su h = bindR (rec 25 0 [some (.int y0)] [] 0 0 h) (fun h' r' => exS sc pp rec mi (pc + n) r lv (r'.toList ++ st) (cu) (su) h') := by
  simp [exS, ex1, doCall, lvE, cat_i, cat_r, cat_l, h8, hc, hs]
  rfl
theorem K_26 {y0 : Nat} {ix p q c2 s2 : Nat} (hk : kd h y0 = 10) (h8 : (st.map fun v => v.category).sum ≤ 8) (hc : cu ≤ c2) (hs : su ≤ s2) : exS sc pp rec mi pc ((.invokevirtual ix, n, [26, 1, p, q, 2, 0, 0, c2, s2, 10]) :: r) lv (.ref y0 :: st) cu su h = bindR (rec 26 0 [some (.ref y0), none] [] 0 0 h) (fun h' r' => exS sc pp rec mi (pc + n) r lv (r'.toList ++ st) (cu) (su) h') := by
  simp [exS, ex1, doCall, lvE, cat_i, cat_r, cat_l, h8, hc, hs, hk]
  rfl
theorem K_27 {y0 : Nat} {ix p q c2 s2 : Nat} (hk : kd h y0 = 10) (h8 : (st.map fun v => v.category).sum ≤ 8) (hc : cu ≤ c2) (hs : su ≤ s2) : exS sc pp rec mi pc ((.invokevirtual ix, n, [27, 1, p, q, 2, 0, 0, c2, s2, 10]) :: r) lv (.ref y0 :: st) cu su h = bindR (rec 27 0 [some (.ref y0), none] [] 0 0 h) (fun h' r' => exS sc pp rec mi (pc + n) r lv (r'.toList ++ st) (cu) (su) h') := by
  simp [exS, ex1, doCall, lvE, cat_i, cat_r, cat_l, h8, hc, hs, hk]
  rfl
theorem K_28 {y0 : Int32} {ix p q c2 s2 : Nat} (h8 : (st.map fun v => v.category).sum ≤ 8) (hc : cu ≤ c2) (hs : su ≤ s2) : exS sc pp rec mi pc ((.invokestatic ix, n, [28, 1, p, q, 1, 0, 0, c2, s2, 10]) :: r) lv (.int y0 :: st) cu su h = bindR (rec 28 0 [some (.int y0)] [] 0 0 h) (fun h' r' => exS sc pp rec mi (pc + n) r lv (r'.toList ++ st) (cu) (su) h') := by
  simp [exS, ex1, doCall, lvE, cat_i, cat_r, cat_l, h8, hc, hs]
  rfl
theorem K_29 {y0 : Nat} {ix p q c2 s2 : Nat} (hk : kd h y0 = 10) (h8 : (st.map fun v => v.category).sum ≤ 8) (hc : cu ≤ c2) (hs : su ≤ s2) : exS sc pp rec mi pc ((.invokevirtual ix, n, [29, 1, p, q, 1, 0, 0, c2, s2, 10]) :: r) lv (.ref y0 :: st) cu su h = bindR (rec 29 0 [some (.ref y0)] [] 0 0 h) (fun h' r' => exS sc pp rec mi (pc + n) r lv (r'.toList ++ st) (cu) (su) h') := by
  simp [exS, ex1, doCall, lvE, cat_i, cat_r, cat_l, h8, hc, hs, hk]
  rfl
theorem K_30 {y0 : Int32} {ix p q c2 s2 : Nat} (h8 : (st.map fun v => v.category).sum ≤ 8) (hc : cu ≤ c2) (hs : su ≤ s2) : exS sc pp rec mi pc ((.invokestatic ix, n, [30, 1, p, q, 1, 0, 0, c2, s2, 10]) :: r) lv (.int y0 :: st) cu su h = bindR (rec 30 0 [some (.int y0)] [] 0 0 h) (fun h' r' => exS sc pp rec mi (pc + n) r lv (r'.toList ++ st) (cu) (su) h') := by
  simp [exS, ex1, doCall, lvE, cat_i, cat_r, cat_l, h8, hc, hs]
  rfl
theorem K_31 {y0 : Nat} {ix p q c2 s2 : Nat} (hk : kd h y0 = 10) (h8 : (st.map fun v => v.category).sum ≤ 8) (hc : cu ≤ c2) (hs : su ≤ s2) : exS sc pp rec mi pc ((.invokevirtual ix, n, [31, 1, p, q, 3, 0, 0, c2, s2, 10]) :: r) lv (.ref y0 :: st) cu su h = bindR (rec 31 0 [some (.ref y0), none, none] [] 0 0 h) (fun h' r' => exS sc pp rec mi (pc + n) r lv (r'.toList ++ st) (cu) (su) h') := by
  simp [exS, ex1, doCall, lvE, cat_i, cat_r, cat_l, h8, hc, hs, hk]
  rfl
theorem K_32 {y0 : Nat} {ix p q c2 s2 : Nat} (hk : kd h y0 = 10) (h8 : (st.map fun v => v.category).sum ≤ 8) (hc : cu ≤ c2) (hs : su ≤ s2) : exS sc pp rec mi pc ((.invokevirtual ix, n, [32, 1, p, q, 1, 0, 0, c2, s2, 10]) :: r) lv (.ref y0 :: st) cu su h = bindR (rec 32 0 [some (.ref y0)] [] 0 0 h) (fun h' r' => exS sc pp rec mi (pc + n) r lv (r'.toList ++ st) (cu) (su) h') := by
  simp [exS, ex1, doCall, lvE, cat_i, cat_r, cat_l, h8, hc, hs, hk]
  rfl
theorem K_33 {y0 : Nat} {y1 : Int32} {ix p q c2 s2 : Nat} (hk : kd h y0 = 10) (h8 : (st.map fun v => v.category).sum ≤ 8) (hc : cu ≤ c2) (hs : su ≤ s2) : exS sc pp rec mi pc ((.invokevirtual ix, n, [33, 2, p, q, 2, 0, 0, c2, s2, 10]) :: r) lv (.int y1 :: .ref y0 :: st) cu su h = bindR (rec 33 0 [some (.ref y0), some (.int y1)] [] 0 0 h) (fun h' r' => exS sc pp rec mi (pc + n) r lv (r'.toList ++ st) (cu) (su) h') := by
  simp [exS, ex1, doCall, lvE, cat_i, cat_r, cat_l, h8, hc, hs, hk]
  rfl
theorem K_34 {y0 : Nat} {ix p q c2 s2 : Nat} (hk : kd h y0 = 4) (h8 : (st.map fun v => v.category).sum ≤ 8) (hc : cu ≤ c2) (hs : su ≤ s2) : exS sc pp rec mi pc ((.invokevirtual ix, n, [34, 1, p, q, 1, 0, 0, c2, s2, 4]) :: r) lv (.ref y0 :: st) cu su h = bindR (rec 34 0 [some (.ref y0)] [] 0 0 h) (fun h' r' => exS sc pp rec mi (pc + n) r lv (r'.toList ++ st) (cu) (su) h') := by
  simp [exS, ex1, doCall, lvE, cat_i, cat_r, cat_l, h8, hc, hs, hk]
  rfl
theorem K_35 {y0 : Nat} {y1 : Int32} {ix p q c2 s2 : Nat} (hk : kd h y0 = 4) (h8 : (st.map fun v => v.category).sum ≤ 8) (hc : cu ≤ c2) (hs : su ≤ s2) : exS sc pp rec mi pc ((.invokevirtual ix, n, [35, 2, p, q, 3, 0, 0, c2, s2, 4]) :: r) lv (.int y1 :: .ref y0 :: st) cu su h = bindR (rec 35 0 [some (.ref y0), some (.int y1), none] [] 0 0 h) (fun h' r' => exS sc pp rec mi (pc + n) r lv (r'.toList ++ st) (cu) (su) h') := by
  simp [exS, ex1, doCall, lvE, cat_i, cat_r, cat_l, h8, hc, hs, hk]
  rfl
theorem K_36 {y0 : Nat} {y1 : Int32} {ix p q c2 s2 : Nat} (hk : kd h y0 = 4) (h8 : (st.map fun v => v.category).sum ≤ 8) (hc : cu ≤ c2) (hs : su ≤ s2) : exS sc pp rec mi pc ((.invokevirtual ix, n, [36, 2, p, q, 2, 0, 0, c2, s2, 4]) :: r) lv (.int y1 :: .ref y0 :: st) cu su h = bindR (rec 36 0 [some (.ref y0), some (.int y1)] [] 0 0 h) (fun h' r' => exS sc pp rec mi (pc + n) r lv (r'.toList ++ st) (cu) (su) h') := by
  simp [exS, ex1, doCall, lvE, cat_i, cat_r, cat_l, h8, hc, hs, hk]
  rfl
theorem K_37 {y0 : Nat} {y1 : Nat} {ix p q c2 s2 : Nat} (hk : kd h y0 = 9) (h8 : (st.map fun v => v.category).sum ≤ 8) (hc : cu ≤ c2) (hs : su ≤ s2) : exS sc pp rec mi pc ((.invokevirtual ix, n, [37, 2, p, q, 2, 0, 0, c2, s2, 9]) :: r) lv (.ref y1 :: .ref y0 :: st) cu su h = bindR (rec 37 0 [some (.ref y0), some (.ref y1)] [] 0 0 h) (fun h' r' => exS sc pp rec mi (pc + n) r lv (r'.toList ++ st) (cu) (su) h') := by
  simp [exS, ex1, doCall, lvE, cat_i, cat_r, cat_l, h8, hc, hs, hk]
  rfl
theorem K_38 {y0 : Nat} {ix p q c2 s2 : Nat} (hk : kd h y0 = 9) (h8 : (st.map fun v => v.category).sum ≤ 8) (hc : cu ≤ c2) (hs : su ≤ s2) : exS sc pp rec mi pc ((.invokevirtual ix, n, [38, 1, p, q, 1, 0, 0, c2, s2, 9]) :: r) lv (.ref y0 :: st) cu su h = bindR (rec 38 0 [some (.ref y0)] [] 0 0 h) (fun h' r' => exS sc pp rec mi (pc + n) r lv (r'.toList ++ st) (cu) (su) h') := by
  simp [exS, ex1, doCall, lvE, cat_i, cat_r, cat_l, h8, hc, hs, hk]
  rfl
theorem K_39 {y0 : Nat} {y1 : Int32} {ix p q c2 s2 : Nat} (hk : kd h y0 = 9) (h8 : (st.map fun v => v.category).sum ≤ 8) (hc : cu ≤ c2) (hs : su ≤ s2) : exS sc pp rec mi pc ((.invokevirtual ix, n, [39, 2, p, q, 2, 0, 0, c2, s2, 9]) :: r) lv (.int y1 :: .ref y0 :: st) cu su h = bindR (rec 39 0 [some (.ref y0), some (.int y1)] [] 0 0 h) (fun h' r' => exS sc pp rec mi (pc + n) r lv (r'.toList ++ st) (cu) (su) h') := by
  simp [exS, ex1, doCall, lvE, cat_i, cat_r, cat_l, h8, hc, hs, hk]
  rfl
theorem K_40 {y0 : Nat} {ix p q c2 s2 : Nat} (hk : kd h y0 = 9) (h8 : (st.map fun v => v.category).sum ≤ 8) (hc : cu ≤ c2) (hs : su ≤ s2) : exS sc pp rec mi pc ((.invokevirtual ix, n, [40, 1, p, q, 3, 0, 0, c2, s2, 9]) :: r) lv (.ref y0 :: st) cu su h = bindR (rec 40 0 [some (.ref y0), none, none] [] 0 0 h) (fun h' r' => exS sc pp rec mi (pc + n) r lv (r'.toList ++ st) (cu) (su) h') := by
  simp [exS, ex1, doCall, lvE, cat_i, cat_r, cat_l, h8, hc, hs, hk]
  rfl
theorem K_41 {y0 : Nat} {y1 : Nat} {ix p q c2 s2 : Nat} (hk : kd h y0 = 9) (h8 : (st.map fun v => v.category).sum ≤ 8) (hc : cu ≤ c2) (hs : su ≤ s2) : exS sc pp rec mi pc ((.invokevirtual ix, n, [41, 2, p, q, 2, 0, 0, c2, s2, 9]) :: r) lv (.ref y1 :: .ref y0 :: st) cu su h = bindR (rec 41 0 [some (.ref y0), some (.ref y1)] [] 0 0 h) (fun h' r' => exS sc pp rec mi (pc + n) r lv (r'.toList ++ st) (cu) (su) h') := by
  simp [exS, ex1, doCall, lvE, cat_i, cat_r, cat_l, h8, hc, hs, hk]
  rfl
theorem K_42 {y0 : Nat} {y1 : Nat} {ix p q c2 s2 : Nat} (hk : kd h y0 = 9) (h8 : (st.map fun v => v.category).sum ≤ 8) (hc : cu ≤ c2) (hs : su ≤ s2) : exS sc pp rec mi pc ((.invokevirtual ix, n, [42, 2, p, q, 3, 0, 0, c2, s2, 9]) :: r) lv (.ref y1 :: .ref y0 :: st) cu su h = bindR (rec 42 0 [some (.ref y0), some (.ref y1), none] [] 0 0 h) (fun h' r' => exS sc pp rec mi (pc + n) r lv (r'.toList ++ st) (cu) (su) h') := by
  simp [exS, ex1, doCall, lvE, cat_i, cat_r, cat_l, h8, hc, hs, hk]
  rfl
theorem K_43 {y0 : Nat} {ix p q c2 s2 : Nat} (hk : kd h y0 = 9) (h8 : (st.map fun v => v.category).sum ≤ 8) (hc : cu ≤ c2) (hs : su ≤ s2) : exS sc pp rec mi pc ((.invokevirtual ix, n, [43, 1, p, q, 3, 0, 0, c2, s2, 9]) :: r) lv (.ref y0 :: st) cu su h = bindR (rec 43 0 [some (.ref y0), none, none] [] 0 0 h) (fun h' r' => exS sc pp rec mi (pc + n) r lv (r'.toList ++ st) (cu) (su) h') := by
  simp [exS, ex1, doCall, lvE, cat_i, cat_r, cat_l, h8, hc, hs, hk]
  rfl
theorem K_44 {y0 : Nat} {y1 : Nat} {y2 : Int32} {ix p q c2 s2 : Nat} (hk : kd h y0 = 9) (h8 : (st.map fun v => v.category).sum ≤ 8) (hc : cu ≤ c2) (hs : su ≤ s2) : exS sc pp rec mi pc ((.invokevirtual ix, n, [44, 3, p, q, 4, 0, 0, c2, s2, 9]) :: r) lv (.int y2 :: .ref y1 :: .ref y0 :: st) cu su h = bindR (rec 44 0 [some (.ref y0), some (.ref y1), some (.int y2), none] [] 0 0 h) (fun h' r' => exS sc pp rec mi (pc + n) r lv (r'.toList ++ st) (cu) (su) h') := by
  simp [exS, ex1, doCall, lvE, cat_i, cat_r, cat_l, h8, hc, hs, hk]
  rfl
theorem K_45 {y0 : Nat} {ix p q c2 s2 : Nat} (hk : kd h y0 = 9) (h8 : (st.map fun v => v.category).sum ≤ 8) (hc : cu ≤ c2) (hs : su ≤ s2) : exS sc pp rec mi pc ((.invokevirtual ix, n, [45, 1, p, q, 3, 0, 0, c2, s2, 9]) :: r) lv (.ref y0 :: st) cu su h = bindR (rec 45 0 [some (.ref y0), none, none] [] 0 0 h) (fun h' r' => exS sc pp rec mi (pc + n) r lv (r'.toList ++ st) (cu) (su) h') := by
  simp [exS, ex1, doCall, lvE, cat_i, cat_r, cat_l, h8, hc, hs, hk]
  rfl
theorem K_46 {y0 : Nat} {ix p q c2 s2 : Nat} (hk : kd h y0 = 9) (h8 : (st.map fun v => v.category).sum ≤ 8) (hc : cu ≤ c2) (hs : su ≤ s2) : exS sc pp rec mi pc ((.invokevirtual ix, n, [46, 1, p, q, 4, 0, 0, c2, s2, 9]) :: r) lv (.ref y0 :: st) cu su h = bindR (rec 46 0 [some (.ref y0), none, none, none] [] 0 0 h) (fun h' r' => exS sc pp rec mi (pc + n) r lv (r'.toList ++ st) (cu) (su) h') := by
  simp [exS, ex1, doCall, lvE, cat_i, cat_r, cat_l, h8, hc, hs, hk]
  rfl
theorem K_47 {y0 : Nat} {ix p q c2 s2 : Nat} (hk : kd h y0 = 9) (h8 : (st.map fun v => v.category).sum ≤ 8) (hc : cu ≤ c2) (hs : su ≤ s2) : exS sc pp rec mi pc ((.invokevirtual ix, n, [47, 1, p, q, 2, 0, 0, c2, s2, 9]) :: r) lv (.ref y0 :: st) cu su h = bindR (rec 47 0 [some (.ref y0), none] [] 0 0 h) (fun h' r' => exS sc pp rec mi (pc + n) r lv (r'.toList ++ st) (cu) (su) h') := by
  simp [exS, ex1, doCall, lvE, cat_i, cat_r, cat_l, h8, hc, hs, hk]
  rfl
theorem K_48 {y0 : Nat} {ix p q c2 s2 : Nat} (hk : kd h y0 = 9) (h8 : (st.map fun v => v.category).sum ≤ 8) (hc : cu ≤ c2) (hs : su ≤ s2) : exS sc pp rec mi pc ((.invokevirtual ix, n, [48, 1, p, q, 2, 0, 0, c2, s2, 9]) :: r) lv (.ref y0 :: st) cu su h = bindR (rec 48 0 [some (.ref y0), none] [] 0 0 h) (fun h' r' => exS sc pp rec mi (pc + n) r lv (r'.toList ++ st) (cu) (su) h') := by
  simp [exS, ex1, doCall, lvE, cat_i, cat_r, cat_l, h8, hc, hs, hk]
  rfl
theorem K_49 {y0 : Nat} {y1 : Int32} {ix p q c2 s2 : Nat} (hk : kd h y0 = 3) (h8 : (st.map fun v => v.category).sum ≤ 8) (hc : cu ≤ c2) (hs : su ≤ s2) : exS sc pp rec mi pc ((.invokevirtual ix, n, [49, 2, p, q, 2, 0, 0, c2, s2, 3]) :: r) lv (.int y1 :: .ref y0 :: st) cu su h = bindR (rec 49 0 [some (.ref y0), some (.int y1)] [] 0 0 h) (fun h' r' => exS sc pp rec mi (pc + n) r lv (r'.toList ++ st) (cu) (su) h') := by
  simp [exS, ex1, doCall, lvE, cat_i, cat_r, cat_l, h8, hc, hs, hk]
  rfl
theorem K_50 {y0 : Int32} {ix p q c2 s2 : Nat} (h8 : (st.map fun v => v.category).sum ≤ 8) (hc : cu ≤ c2) (hs : su ≤ s2) : exS sc pp rec mi pc ((.invokestatic ix, n, [50, 1, p, q, 1, 0, 0, c2, s2, 3]) :: r) lv (.int y0 :: st) cu su h = bindR (rec 50 0 [some (.int y0)] [] 0 0 h) (fun h' r' => exS sc pp rec mi (pc + n) r lv (r'.toList ++ st) (cu) (su) h') := by
  simp [exS, ex1, doCall, lvE, cat_i, cat_r, cat_l, h8, hc, hs]
  rfl
theorem K_51 {y0 : Nat} {ix p q c2 s2 : Nat} (hk : kd h y0 = 3) (h8 : (st.map fun v => v.category).sum ≤ 8) (hc : cu ≤ c2) (hs : su ≤ s2) : exS sc pp rec mi pc ((.invokevirtual ix, n, [51, 1, p, q, 1, 0, 0, c2, s2, 3]) :: r) lv (.ref y0 :: st) cu su h = bindR (rec 51 0 [some (.ref y0)] [] 0 0 h) (fun h' r' => exS sc pp rec mi (pc + n) r lv (r'.toList ++ st) (cu) (su) h') := by
  simp [exS, ex1, doCall, lvE, cat_i, cat_r, cat_l, h8, hc, hs, hk]
  rfl
theorem K_52 {y0 : Int32} {ix p q c2 s2 : Nat} (h8 : (st.map fun v => v.category).sum ≤ 8) (hc : cu ≤ c2) (hs : su ≤ s2) : exS sc pp rec mi pc ((.invokestatic ix, n, [52, 1, p, q, 1, 0, 0, c2, s2, 10]) :: r) lv (.int y0 :: st) cu su h = bindR (rec 52 0 [some (.int y0)] [] 0 0 h) (fun h' r' => exS sc pp rec mi (pc + n) r lv (r'.toList ++ st) (cu) (su) h') := by
  simp [exS, ex1, doCall, lvE, cat_i, cat_r, cat_l, h8, hc, hs]
  rfl
theorem K_53 {y0 : Nat} {y1 : Int32} {y2 : Int32} {ix p q c2 s2 : Nat} (hk : kd h y0 = 2) (h8 : (st.map fun v => v.category).sum ≤ 8) (hc : cu ≤ c2) (hs : su ≤ s2) : exS sc pp rec mi pc ((.invokevirtual ix, n, [53, 3, p, q, 3, 0, 0, c2, s2, 2]) :: r) lv (.int y2 :: .int y1 :: .ref y0 :: st) cu su h = bindR (rec 53 0 [some (.ref y0), some (.int y1), some (.int y2)] [] 0 0 h) (fun h' r' => exS sc pp rec mi (pc + n) r lv (r'.toList ++ st) (cu) (su) h') := by
  simp [exS, ex1, doCall, lvE, cat_i, cat_r, cat_l, h8, hc, hs, hk]
  rfl
theorem K_54 {y0 : Nat} {ix p q c2 s2 : Nat} (hk : kd h y0 = 3) (h8 : (st.map fun v => v.category).sum ≤ 8) (hc : cu ≤ c2) (hs : su ≤ s2) : exS sc pp rec mi pc ((.invokevirtual ix, n, [54, 1, p, q, 2, 0, 0, c2, s2, 3]) :: r) lv (.ref y0 :: st) cu su h = bindR (rec 54 0 [some (.ref y0), none] [] 0 0 h) (fun h' r' => exS sc pp rec mi (pc + n) r lv (r'.toList ++ st) (cu) (su) h') := by
  simp [exS, ex1, doCall, lvE, cat_i, cat_r, cat_l, h8, hc, hs, hk]
  rfl
theorem K_55 {y0 : Nat} {y1 : Int32} {ix p q c2 s2 : Nat} (hk : kd h y0 = 3) (h8 : (st.map fun v => v.category).sum ≤ 8) (hc : cu ≤ c2) (hs : su ≤ s2) : exS sc pp rec mi pc ((.invokevirtual ix, n, [55, 2, p, q, 2, 0, 0, c2, s2, 3]) :: r) lv (.int y1 :: .ref y0 :: st) cu su h = bindR (rec 55 0 [some (.ref y0), some (.int y1)] [] 0 0 h) (fun h' r' => exS sc pp rec mi (pc + n) r lv (r'.toList ++ st) (cu) (su) h') := by
  simp [exS, ex1, doCall, lvE, cat_i, cat_r, cat_l, h8, hc, hs, hk]
  rfl
theorem K_56 {y0 : Nat} {ix p q c2 s2 : Nat} (hk : kd h y0 = 3) (h8 : (st.map fun v => v.category).sum ≤ 8) (hc : cu ≤ c2) (hs : su ≤ s2) : exS sc pp rec mi pc ((.invokevirtual ix, n, [56, 1, p, q, 1, 0, 0, c2, s2, 3]) :: r) lv (.ref y0 :: st) cu su h = bindR (rec 56 0 [some (.ref y0)] [] 0 0 h) (fun h' r' => exS sc pp rec mi (pc + n) r lv (r'.toList ++ st) (cu) (su) h') := by
  simp [exS, ex1, doCall, lvE, cat_i, cat_r, cat_l, h8, hc, hs, hk]
  rfl
theorem K_57 {y0 : Nat} {ix p q c2 s2 : Nat} (hk : kd h y0 = 3) (h8 : (st.map fun v => v.category).sum ≤ 8) (hc : cu ≤ c2) (hs : su ≤ s2) : exS sc pp rec mi pc ((.invokevirtual ix, n, [57, 1, p, q, 3, 0, 0, c2, s2, 3]) :: r) lv (.ref y0 :: st) cu su h = bindR (rec 57 0 [some (.ref y0), none, none] [] 0 0 h) (fun h' r' => exS sc pp rec mi (pc + n) r lv (r'.toList ++ st) (cu) (su) h') := by
  simp [exS, ex1, doCall, lvE, cat_i, cat_r, cat_l, h8, hc, hs, hk]
  rfl
theorem K_58 {y0 : Nat} {y1 : Nat} {y2 : Nat} {ix p q c2 s2 : Nat} (hk : kd h y0 = 3) (h8 : (st.map fun v => v.category).sum ≤ 8) (hc : cu ≤ c2) (hs : su ≤ s2) : exS sc pp rec mi pc ((.invokevirtual ix, n, [58, 3, p, q, 5, 0, 0, c2, s2, 3]) :: r) lv (.ref y2 :: .ref y1 :: .ref y0 :: st) cu su h = bindR (rec 58 0 [some (.ref y0), some (.ref y1), some (.ref y2), none, none] [] 0 0 h) (fun h' r' => exS sc pp rec mi (pc + n) r lv (r'.toList ++ st) (cu) (su) h') := by
  simp [exS, ex1, doCall, lvE, cat_i, cat_r, cat_l, h8, hc, hs, hk]
  rfl
theorem K_59 {y0 : Nat} {ix p q c2 s2 : Nat} (hk : kd h y0 = 9) (h8 : (st.map fun v => v.category).sum ≤ 8) (hc : cu ≤ c2) (hs : su ≤ s2) : exS sc pp rec mi pc ((.invokevirtual ix, n, [59, 1, p, q, 2, 0, 0, c2, s2, 9]) :: r) lv (.ref y0 :: st) cu su h = bindR (rec 59 0 [some (.ref y0), none] [] 0 0 h) (fun h' r' => exS sc pp rec mi (pc + n) r lv (r'.toList ++ st) (cu) (su) h') := by
  simp [exS, ex1, doCall, lvE, cat_i, cat_r, cat_l, h8, hc, hs, hk]
  rfl
theorem K_60 {y0 : Nat} {ix p q c2 s2 : Nat} (hk : kd h y0 = 9) (h8 : (st.map fun v => v.category).sum ≤ 8) (hc : cu ≤ c2) (hs : su ≤ s2) : exS sc pp rec mi pc ((.invokevirtual ix, n, [60, 1, p, q, 1, 0, 0, c2, s2, 9]) :: r) lv (.ref y0 :: st) cu su h = bindR (rec 60 0 [some (.ref y0)] [] 0 0 h) (fun h' r' => exS sc pp rec mi (pc + n) r lv (r'.toList ++ st) (cu) (su) h') := by
  simp [exS, ex1, doCall, lvE, cat_i, cat_r, cat_l, h8, hc, hs, hk]
  rfl
theorem K_61 {y0 : Nat} {y1 : Nat} {y2 : Int32} {ix p q c2 s2 : Nat} (hk : kd h y0 = 9) (h8 : (st.map fun v => v.category).sum ≤ 8) (hc : cu ≤ c2) (hs : su ≤ s2) : exS sc pp rec mi pc ((.invokevirtual ix, n, [61, 3, p, q, 4, 0, 0, c2, s2, 9]) :: r) lv (.int y2 :: .ref y1 :: .ref y0 :: st) cu su h = bindR (rec 61 0 [some (.ref y0), some (.ref y1), some (.int y2), none] [] 0 0 h) (fun h' r' => exS sc pp rec mi (pc + n) r lv (r'.toList ++ st) (cu) (su) h') := by
  simp [exS, ex1, doCall, lvE, cat_i, cat_r, cat_l, h8, hc, hs, hk]
  rfl
theorem K_62 {y0 : Nat} {ix p q c2 s2 : Nat} (hk : kd h y0 = 9) (h8 : (st.map fun v => v.category).sum ≤ 8) (hc : cu ≤ c2) (hs : su ≤ s2) : exS sc pp rec mi pc ((.invokevirtual ix, n, [62, 1, p, q, 1, 0, 0, c2, s2, 9]) :: r) lv (.ref y0 :: st) cu su h = bindR (rec 62 0 [some (.ref y0)] [] 0 0 h) (fun h' r' => exS sc pp rec mi (pc + n) r lv (r'.toList ++ st) (cu) (su) h') := by
  simp [exS, ex1, doCall, lvE, cat_i, cat_r, cat_l, h8, hc, hs, hk]
  rfl
theorem K_63 {y0 : Nat} {y1 : Int32} {ix p q c2 s2 : Nat} (hk : kd h y0 = 8) (h8 : (st.map fun v => v.category).sum ≤ 8) (hc : cu ≤ c2) (hs : su ≤ s2) : exS sc pp rec mi pc ((.invokevirtual ix, n, [63, 2, p, q, 3, 0, 0, c2, s2, 8]) :: r) lv (.int y1 :: .ref y0 :: st) cu su h = bindR (rec 63 0 [some (.ref y0), some (.int y1), none] [] 0 0 h) (fun h' r' => exS sc pp rec mi (pc + n) r lv (r'.toList ++ st) (cu) (su) h') := by
  simp [exS, ex1, doCall, lvE, cat_i, cat_r, cat_l, h8, hc, hs, hk]
  rfl
theorem K_64 {y0 : Nat} {y1 : Nat} {ix p q c2 s2 : Nat} (hk : kd h y0 = 8) (h8 : (st.map fun v => v.category).sum ≤ 8) (hc : cu ≤ c2) (hs : su ≤ s2) : exS sc pp rec mi pc ((.invokevirtual ix, n, [64, 2, p, q, 3, 0, 0, c2, s2, 8]) :: r) lv (.ref y1 :: .ref y0 :: st) cu su h = bindR (rec 64 0 [some (.ref y0), some (.ref y1), none] [] 0 0 h) (fun h' r' => exS sc pp rec mi (pc + n) r lv (r'.toList ++ st) (cu) (su) h') := by
  simp [exS, ex1, doCall, lvE, cat_i, cat_r, cat_l, h8, hc, hs, hk]
  rfl
theorem K_65 {y0 : Nat} {ix p q c2 s2 : Nat} (hk : kd h y0 = 5) (h8 : (st.map fun v => v.category).sum ≤ 8) (hc : cu ≤ c2) (hs : su ≤ s2) : exS sc pp rec mi pc ((.invokevirtual ix, n, [65, 1, p, q, 1, 0, 0, c2, s2, 5]) :: r) lv (.ref y0 :: st) cu su h = bindR (rec 65 0 [some (.ref y0)] [] 0 0 h) (fun h' r' => exS sc pp rec mi (pc + n) r lv (r'.toList ++ st) (cu) (su) h') := by
  simp [exS, ex1, doCall, lvE, cat_i, cat_r, cat_l, h8, hc, hs, hk]
  rfl
theorem K_66 {y0 : Nat} {ix p q c2 s2 : Nat} (hk : kd h y0 = 1) (h8 : (st.map fun v => v.category).sum ≤ 8) (hc : cu ≤ c2) (hs : su ≤ s2) : exS sc pp rec mi pc ((.invokevirtual ix, n, [66, 1, p, q, 1, 0, 0, c2, s2, 1]) :: r) lv (.ref y0 :: st) cu su h = bindR (rec 66 0 [some (.ref y0)] [] 0 0 h) (fun h' r' => exS sc pp rec mi (pc + n) r lv (r'.toList ++ st) (cu) (su) h') := by
  simp [exS, ex1, doCall, lvE, cat_i, cat_r, cat_l, h8, hc, hs, hk]
  rfl
theorem K_67 {y0 : Nat} {y1 : Int32} {ix p q c2 s2 : Nat} (hk : kd h y0 = 11) (h8 : (st.map fun v => v.category).sum ≤ 8) (hc : cu ≤ c2) (hs : su ≤ s2) : exS sc pp rec mi pc ((.invokevirtual ix, n, [67, 2, p, q, 3, 0, 0, c2, s2, 11]) :: r) lv (.int y1 :: .ref y0 :: st) cu su h = bindR (rec 67 0 [some (.ref y0), some (.int y1), none] [] 0 0 h) (fun h' r' => exS sc pp rec mi (pc + n) r lv (r'.toList ++ st) (cu) (su) h') := by
  simp [exS, ex1, doCall, lvE, cat_i, cat_r, cat_l, h8, hc, hs, hk]
  rfl
theorem K_68 {y0 : Nat} {y1 : Int32} {ix p q c2 s2 : Nat} (hk : kd h y0 = 12) (h8 : (st.map fun v => v.category).sum ≤ 8) (hc : cu ≤ c2) (hs : su ≤ s2) : exS sc pp rec mi pc ((.invokevirtual ix, n, [68, 2, p, q, 2, 0, 0, c2, s2, 12]) :: r) lv (.int y1 :: .ref y0 :: st) cu su h = bindR (rec 68 0 [some (.ref y0), some (.int y1)] [] 0 0 h) (fun h' r' => exS sc pp rec mi (pc + n) r lv (r'.toList ++ st) (cu) (su) h') := by
  simp [exS, ex1, doCall, lvE, cat_i, cat_r, cat_l, h8, hc, hs, hk]
  rfl
theorem K_69 {y0 : Nat} {y1 : Int32} {y2 : Int32} {ix p q c2 s2 : Nat} (hk : kd h y0 = 12) (h8 : (st.map fun v => v.category).sum ≤ 8) (hc : cu ≤ c2) (hs : su ≤ s2) : exS sc pp rec mi pc ((.invokevirtual ix, n, [69, 3, p, q, 8, 0, 0, c2, s2, 12]) :: r) lv (.int y2 :: .int y1 :: .ref y0 :: st) cu su h = bindR (rec 69 0 [some (.ref y0), some (.int y1), some (.int y2), none, none, none, none, none] [] 0 0 h) (fun h' r' => exS sc pp rec mi (pc + n) r lv (r'.toList ++ st) (cu) (su) h') := by
  simp [exS, ex1, doCall, lvE, cat_i, cat_r, cat_l, h8, hc, hs, hk]
  rfl
theorem K_70 {y0 : Nat} {y1 : Int32} {y2 : Int32} {ix p q c2 s2 : Nat} (hk : kd h y0 = 12) (h8 : (st.map fun v => v.category).sum ≤ 8) (hc : cu ≤ c2) (hs : su ≤ s2) : exS sc pp rec mi pc ((.invokevirtual ix, n, [70, 3, p, q, 5, 0, 0, c2, s2, 12]) :: r) lv (.int y2 :: .int y1 :: .ref y0 :: st) cu su h = bindR (rec 70 0 [some (.ref y0), some (.int y1), some (.int y2), none, none] [] 0 0 h) (fun h' r' => exS sc pp rec mi (pc + n) r lv (r'.toList ++ st) (cu) (su) h') := by
  simp [exS, ex1, doCall, lvE, cat_i, cat_r, cat_l, h8, hc, hs, hk]
  rfl
theorem K_71 {y0 : Nat} {y1 : Int32} {ix p q c2 s2 : Nat} (hk : kd h y0 = 12) (h8 : (st.map fun v => v.category).sum ≤ 8) (hc : cu ≤ c2) (hs : su ≤ s2) : exS sc pp rec mi pc ((.invokevirtual ix, n, [71, 2, p, q, 2, 0, 0, c2, s2, 12]) :: r) lv (.int y1 :: .ref y0 :: st) cu su h = bindR (rec 71 0 [some (.ref y0), some (.int y1)] [] 0 0 h) (fun h' r' => exS sc pp rec mi (pc + n) r lv (r'.toList ++ st) (cu) (su) h') := by
  simp [exS, ex1, doCall, lvE, cat_i, cat_r, cat_l, h8, hc, hs, hk]
  rfl
theorem K_72 {y0 : Nat} {ix p q c2 s2 : Nat} (hk : kd h y0 = 12) (h8 : (st.map fun v => v.category).sum ≤ 8) (hc : cu ≤ c2) (hs : su ≤ s2) : exS sc pp rec mi pc ((.invokevirtual ix, n, [72, 1, p, q, 4, 0, 0, c2, s2, 12]) :: r) lv (.ref y0 :: st) cu su h = bindR (rec 72 0 [some (.ref y0), none, none, none] [] 0 0 h) (fun h' r' => exS sc pp rec mi (pc + n) r lv (r'.toList ++ st) (cu) (su) h') := by
  simp [exS, ex1, doCall, lvE, cat_i, cat_r, cat_l, h8, hc, hs, hk]
  rfl
theorem K_73 {y0 : Nat} {ix p q c2 s2 : Nat} (hk : kd h y0 = 12) (h8 : (st.map fun v => v.category).sum ≤ 8) (hc : cu ≤ c2) (hs : su ≤ s2) : exS sc pp rec mi pc ((.invokevirtual ix, n, [73, 1, p, q, 1, 0, 0, c2, s2, 12]) :: r) lv (.ref y0 :: st) cu su h = bindR (rec 73 0 [some (.ref y0)] [] 0 0 h) (fun h' r' => exS sc pp rec mi (pc + n) r lv (r'.toList ++ st) (cu) (su) h') := by
  simp [exS, ex1, doCall, lvE, cat_i, cat_r, cat_l, h8, hc, hs, hk]
  rfl
theorem K_74 {y0 : Nat} {y1 : Int32} {ix p q c2 s2 : Nat} (hk : kd h y0 = 12) (h8 : (st.map fun v => v.category).sum ≤ 8) (hc : cu ≤ c2) (hs : su ≤ s2) : exS sc pp rec mi pc ((.invokevirtual ix, n, [74, 2, p, q, 2, 0, 0, c2, s2, 12]) :: r) lv (.int y1 :: .ref y0 :: st) cu su h = bindR (rec 74 0 [some (.ref y0), some (.int y1)] [] 0 0 h) (fun h' r' => exS sc pp rec mi (pc + n) r lv (r'.toList ++ st) (cu) (su) h') := by
  simp [exS, ex1, doCall, lvE, cat_i, cat_r, cat_l, h8, hc, hs, hk]
  rfl
theorem K_75 {y0 : Nat} {y1 : Int32} {y2 : Int32} {y3 : Int32} {ix p q c2 s2 : Nat} (h8 : (st.map fun v => v.category).sum ≤ 8) (hc : cu ≤ c2) (hs : su ≤ s2) : exS sc pp rec mi pc ((.invokestatic ix, n, [75, 4, p, q, 5, 0, 0, c2, s2, 12]) :: r) lv (.int y3 :: .int y2 :: .int y1 :: .ref y0 :: st) cu su h = bindR (rec 75 0 [some (.ref y0), some (.int y1), some (.int y2), some (.int y3), none] [] 0 0 h) (fun h' r' => exS sc pp rec mi (pc + n) r lv (r'.toList ++ st) (cu) (su) h') := by
  simp [exS, ex1, doCall, lvE, cat_i, cat_r, cat_l, h8, hc, hs]
  rfl
theorem K_76 {y0 : Nat} {y1 : Nat} {y2 : Int32} {y3 : Int32} {ix p q c2 s2 : Nat} (hk : kd h y0 = 12) (h8 : (st.map fun v => v.category).sum ≤ 8) (hc : cu ≤ c2) (hs : su ≤ s2) : exS sc pp rec mi pc ((.invokevirtual ix, n, [76, 4, p, q, 4, 0, 0, c2, s2, 12]) :: r) lv (.int y3 :: .int y2 :: .ref y1 :: .ref y0 :: st) cu su h = bindR (rec 76 0 [some (.ref y0), some (.ref y1), some (.int y2), some (.int y3)] [] 0 0 h) (fun h' r' => exS sc pp rec mi (pc + n) r lv (r'.toList ++ st) (cu) (su) h') := by
  simp [exS, ex1, doCall, lvE, cat_i, cat_r, cat_l, h8, hc, hs, hk]
  rfl
theorem K_77 {y0 : Nat} {ix p q c2 s2 : Nat} (hk : kd h y0 = 12) (h8 : (st.map fun v => v.category).sum ≤ 8) (hc : cu ≤ c2) (hs : su ≤ s2) : exS sc pp rec mi pc ((.invokevirtual ix, n, [77, 1, p, q, 1, 0, 0, c2, s2, 12]) :: r) lv (.ref y0 :: st) cu su h = bindR (rec 77 0 [some (.ref y0)] [] 0 0 h) (fun h' r' => exS sc pp rec mi (pc + n) r lv (r'.toList ++ st) (cu) (su) h') := by
  simp [exS, ex1, doCall, lvE, cat_i, cat_r, cat_l, h8, hc, hs, hk]
  rfl
theorem K_78 {y0 : Int32} {y1 : Int32} {y2 : Int32} {ix p q c2 s2 : Nat} (h8 : (st.map fun v => v.category).sum ≤ 8) (hc : cu ≤ c2) (hs : su ≤ s2) : exS sc pp rec mi pc ((.invokestatic ix, n, [78, 3, p, q, 3, 0, 0, c2, s2, 12]) :: r) lv (.int y2 :: .int y1 :: .int y0 :: st) cu su h = bindR (rec 78 0 [some (.int y0), some (.int y1), some (.int y2)] [] 0 0 h) (fun h' r' => exS sc pp rec mi (pc + n) r lv (r'.toList ++ st) (cu) (su) h') := by
  simp [exS, ex1, doCall, lvE, cat_i, cat_r, cat_l, h8, hc, hs]
  rfl
theorem K_79 {y0 : Nat} {y1 : Int32} {y2 : Int32} {ix p q c2 s2 : Nat} (hk : kd h y0 = 12) (h8 : (st.map fun v => v.category).sum ≤ 8) (hc : cu ≤ c2) (hs : su ≤ s2) : exS sc pp rec mi pc ((.invokevirtual ix, n, [79, 3, p, q, 3, 0, 0, c2, s2, 12]) :: r) lv (.int y2 :: .int y1 :: .ref y0 :: st) cu su h = bindR (rec 79 0 [some (.ref y0), some (.int y1), some (.int y2)] [] 0 0 h) (fun h' r' => exS sc pp rec mi (pc + n) r lv (r'.toList ++ st) (cu) (su) h') := by
  simp [exS, ex1, doCall, lvE, cat_i, cat_r, cat_l, h8, hc, hs, hk]
  rfl
theorem K_80 {y0 : Nat} {ix p q c2 s2 : Nat} (hk : kd h y0 = 12) (h8 : (st.map fun v => v.category).sum ≤ 8) (hc : cu ≤ c2) (hs : su ≤ s2) : exS sc pp rec mi pc ((.invokevirtual ix, n, [80, 1, p, q, 2, 0, 0, c2, s2, 12]) :: r) lv (.ref y0 :: st) cu su h = bindR (rec 80 0 [some (.ref y0), none] [] 0 0 h) (fun h' r' => exS sc pp rec mi (pc + n) r lv (r'.toList ++ st) (cu) (su) h') := by
  simp [exS, ex1, doCall, lvE, cat_i, cat_r, cat_l, h8, hc, hs, hk]
  rfl
theorem K_81 {y0 : Nat} {y1 : Nat} {y2 : Int32} {y3 : Int32} {ix p q c2 s2 : Nat} (hk : kd h y0 = 12) (h8 : (st.map fun v => v.category).sum ≤ 8) (hc : cu ≤ c2) (hs : su ≤ s2) : exS sc pp rec mi pc ((.invokevirtual ix, n, [81, 4, p, q, 5, 0, 0, c2, s2, 12]) :: r) lv (.int y3 :: .int y2 :: .ref y1 :: .ref y0 :: st) cu su h = bindR (rec 81 0 [some (.ref y0), some (.ref y1), some (.int y2), some (.int y3), none] [] 0 0 h) (fun h' r' => exS sc pp rec mi (pc + n) r lv (r'.toList ++ st) (cu) (su) h') := by
  simp [exS, ex1, doCall, lvE, cat_i, cat_r, cat_l, h8, hc, hs, hk]
  rfl
theorem K_82 {y0 : Int32} {y1 : Int32} {ix p q c2 s2 : Nat} (h8 : (st.map fun v => v.category).sum ≤ 8) (hc : cu ≤ c2) (hs : su ≤ s2) : exS sc pp rec mi pc ((.invokestatic ix, n, [82, 2, p, q, 2, 0, 0, c2, s2, 12]) :: r) lv (.int y1 :: .int y0 :: st) cu su h = bindR (rec 82 0 [some (.int y0), some (.int y1)] [] 0 0 h) (fun h' r' => exS sc pp rec mi (pc + n) r lv (r'.toList ++ st) (cu) (su) h') := by
  simp [exS, ex1, doCall, lvE, cat_i, cat_r, cat_l, h8, hc, hs]
  rfl
theorem K_83 {y0 : Nat} {ix p q c2 s2 : Nat} (hk : kd h y0 = 12) (h8 : (st.map fun v => v.category).sum ≤ 8) (hc : cu ≤ c2) (hs : su ≤ s2) : exS sc pp rec mi pc ((.invokevirtual ix, n, [83, 1, p, q, 3, 0, 0, c2, s2, 12]) :: r) lv (.ref y0 :: st) cu su h = bindR (rec 83 0 [some (.ref y0), none, none] [] 0 0 h) (fun h' r' => exS sc pp rec mi (pc + n) r lv (r'.toList ++ st) (cu) (su) h') := by
  simp [exS, ex1, doCall, lvE, cat_i, cat_r, cat_l, h8, hc, hs, hk]
  rfl
theorem K_84 {y0 : Nat} {y1 : Int32} {ix p q c2 s2 : Nat} (hk : kd h y0 = 12) (h8 : (st.map fun v => v.category).sum ≤ 8) (hc : cu ≤ c2) (hs : su ≤ s2) : exS sc pp rec mi pc ((.invokevirtual ix, n, [84, 2, p, q, 2, 0, 0, c2, s2, 12]) :: r) lv (.int y1 :: .ref y0 :: st) cu su h = bindR (rec 84 0 [some (.ref y0), some (.int y1)] [] 0 0 h) (fun h' r' => exS sc pp rec mi (pc + n) r lv (r'.toList ++ st) (cu) (su) h') := by
  simp [exS, ex1, doCall, lvE, cat_i, cat_r, cat_l, h8, hc, hs, hk]
  rfl
theorem K_85 {y0 : Nat} {ix p q c2 s2 : Nat} (hk : kd h y0 = 12) (h8 : (st.map fun v => v.category).sum ≤ 8) (hc : cu ≤ c2) (hs : su ≤ s2) : exS sc pp rec mi pc ((.invokevirtual ix, n, [85, 1, p, q, 1, 0, 0, c2, s2, 12]) :: r) lv (.ref y0 :: st) cu su h = bindR (rec 85 0 [some (.ref y0)] [] 0 0 h) (fun h' r' => exS sc pp rec mi (pc + n) r lv (r'.toList ++ st) (cu) (su) h') := by
  simp [exS, ex1, doCall, lvE, cat_i, cat_r, cat_l, h8, hc, hs, hk]
  rfl
theorem K_86 {y0 : Nat} {ix p q c2 s2 : Nat} (hk : kd h y0 = 12) (h8 : (st.map fun v => v.category).sum ≤ 8) (hc : cu ≤ c2) (hs : su ≤ s2) : exS sc pp rec mi pc ((.invokevirtual ix, n, [86, 1, p, q, 2, 0, 0, c2, s2, 12]) :: r) lv (.ref y0 :: st) cu su h = bindR (rec 86 0 [some (.ref y0), none] [] 0 0 h) (fun h' r' => exS sc pp rec mi (pc + n) r lv (r'.toList ++ st) (cu) (su) h') := by
  simp [exS, ex1, doCall, lvE, cat_i, cat_r, cat_l, h8, hc, hs, hk]
  rfl
theorem K_87 {y0 : Nat} {ix p q c2 s2 : Nat} (hk : kd h y0 = 12) (h8 : (st.map fun v => v.category).sum ≤ 8) (hc : cu ≤ c2) (hs : su ≤ s2) : exS sc pp rec mi pc ((.invokevirtual ix, n, [87, 1, p, q, 3, 0, 0, c2, s2, 12]) :: r) lv (.ref y0 :: st) cu su h = bindR (rec 87 0 [some (.ref y0), none, none] [] 0 0 h) (fun h' r' => exS sc pp rec mi (pc + n) r lv (r'.toList ++ st) (cu) (su) h') := by
  simp [exS, ex1, doCall, lvE, cat_i, cat_r, cat_l, h8, hc, hs, hk]
  rfl
theorem K_88 {y0 : Nat} {y1 : Int32} {y2 : Int32} {ix p q c2 s2 : Nat} (hk : kd h y0 = 12) (h8 : (st.map fun v => v.category).sum ≤ 8) (hc : cu ≤ c2) (hs : su ≤ s2) : exS sc pp rec mi pc ((.invokevirtual ix, n, [88, 3, p, q, 3, 0, 0, c2, s2, 12]) :: r) lv (.int y2 :: .int y1 :: .ref y0 :: st) cu su h = bindR (rec 88 0 [some (.ref y0), some (.int y1), some (.int y2)] [] 0 0 h) (fun h' r' => exS sc pp rec mi (pc + n) r lv (r'.toList ++ st) (cu) (su) h') := by
  simp [exS, ex1, doCall, lvE, cat_i, cat_r, cat_l, h8, hc, hs, hk]
  rfl
theorem K_89 {y0 : Nat} {y1 : Int32} {ix p q c2 s2 : Nat} (hk : kd h y0 = 12) (h8 : (st.map fun v => v.category).sum ≤ 8) (hc : cu ≤ c2) (hs : su ≤ s2) : exS sc pp rec mi pc ((.invokevirtual ix, n, [89, 2, p, q, 2, 0, 0, c2, s2, 12]) :: r) lv (.int y1 :: .ref y0 :: st) cu su h = bindR (rec 89 0 [some (.ref y0), some (.int y1)] [] 0 0 h) (fun h' r' => exS sc pp rec mi (pc + n) r lv (r'.toList ++ st) (cu) (su) h') := by
  simp [exS, ex1, doCall, lvE, cat_i, cat_r, cat_l, h8, hc, hs, hk]
  rfl
theorem K_90 {y0 : Nat} {y1 : Int32} {ix p q c2 s2 : Nat} (hk : kd h y0 = 12) (h8 : (st.map fun v => v.category).sum ≤ 8) (hc : cu ≤ c2) (hs : su ≤ s2) : exS sc pp rec mi pc ((.invokevirtual ix, n, [90, 2, p, q, 2, 0, 0, c2, s2, 12]) :: r) lv (.int y1 :: .ref y0 :: st) cu su h = bindR (rec 90 0 [some (.ref y0), some (.int y1)] [] 0 0 h) (fun h' r' => exS sc pp rec mi (pc + n) r lv (r'.toList ++ st) (cu) (su) h') := by
  simp [exS, ex1, doCall, lvE, cat_i, cat_r, cat_l, h8, hc, hs, hk]
  rfl
theorem K_91 {y0 : Nat} {ix p q c2 s2 : Nat} (hk : kd h y0 = 12) (h8 : (st.map fun v => v.category).sum ≤ 8) (hc : cu ≤ c2) (hs : su ≤ s2) : exS sc pp rec mi pc ((.invokevirtual ix, n, [91, 1, p, q, 1, 0, 0, c2, s2, 12]) :: r) lv (.ref y0 :: st) cu su h = bindR (rec 91 0 [some (.ref y0)] [] 0 0 h) (fun h' r' => exS sc pp rec mi (pc + n) r lv (r'.toList ++ st) (cu) (su) h') := by
  simp [exS, ex1, doCall, lvE, cat_i, cat_r, cat_l, h8, hc, hs, hk]
  rfl
theorem K_92 {y0 : Nat} {ix p q c2 s2 : Nat} (hk : kd h y0 = 12) (h8 : (st.map fun v => v.category).sum ≤ 8) (hc : cu ≤ c2) (hs : su ≤ s2) : exS sc pp rec mi pc ((.invokevirtual ix, n, [92, 1, p, q, 1, 0, 0, c2, s2, 12]) :: r) lv (.ref y0 :: st) cu su h = bindR (rec 92 0 [some (.ref y0)] [] 0 0 h) (fun h' r' => exS sc pp rec mi (pc + n) r lv (r'.toList ++ st) (cu) (su) h') := by
  simp [exS, ex1, doCall, lvE, cat_i, cat_r, cat_l, h8, hc, hs, hk]
  rfl
theorem K_93 {y0 : Nat} {y1 : Int32} {y2 : Int32} {y3 : Int32} {ix p q c2 s2 : Nat} (hk : kd h y0 = 12) (h8 : (st.map fun v => v.category).sum ≤ 8) (hc : cu ≤ c2) (hs : su ≤ s2) : exS sc pp rec mi pc ((.invokevirtual ix, n, [93, 4, p, q, 4, 0, 0, c2, s2, 12]) :: r) lv (.int y3 :: .int y2 :: .int y1 :: .ref y0 :: st) cu su h = bindR (rec 93 0 [some (.ref y0), some (.int y1), some (.int y2), some (.int y3)] [] 0 0 h) (fun h' r' => exS sc pp rec mi (pc + n) r lv (r'.toList ++ st) (cu) (su) h') := by
  simp [exS, ex1, doCall, lvE, cat_i, cat_r, cat_l, h8, hc, hs, hk]
  rfl
theorem K_94 {y0 : Nat} {ix p q c2 s2 : Nat} (hk : kd h y0 = 12) (h8 : (st.map fun v => v.category).sum ≤ 8) (hc : cu ≤ c2) (hs : su ≤ s2) : exS sc pp rec mi pc ((.invokevirtual ix, n, [94, 1, p, q, 2, 0, 0, c2, s2, 12]) :: r) lv (.ref y0 :: st) cu su h = bindR (rec 94 0 [some (.ref y0), none] [] 0 0 h) (fun h' r' => exS sc pp rec mi (pc + n) r lv (r'.toList ++ st) (cu) (su) h') := by
  simp [exS, ex1, doCall, lvE, cat_i, cat_r, cat_l, h8, hc, hs, hk]
  rfl
theorem K_95 {y0 : Int32} {ix p q c2 s2 : Nat} (h8 : (st.map fun v => v.category).sum ≤ 8) (hc : cu ≤ c2) (hs : su ≤ s2) : exS sc pp rec mi pc ((.invokestatic ix, n, [95, 1, p, q, 1, 0, 0, c2, s2, 12]) :: r) lv (.int y0 :: st) cu su h = bindR (rec 95 0 [some (.int y0)] [] 0 0 h) (fun h' r' => exS sc pp rec mi (pc + n) r lv (r'.toList ++ st) (cu) (su) h') := by
  simp [exS, ex1, doCall, lvE, cat_i, cat_r, cat_l, h8, hc, hs]
  rfl
theorem K_96 {y0 : Nat} {ix p q c2 s2 : Nat} (hk : kd h y0 = 12) (h8 : (st.map fun v => v.category).sum ≤ 8) (hc : cu ≤ c2) (hs : su ≤ s2) : exS sc pp rec mi pc ((.invokevirtual ix, n, [96, 1, p, q, 1, 0, 0, c2, s2, 12]) :: r) lv (.ref y0 :: st) cu su h = bindR (rec 96 0 [some (.ref y0)] [] 0 0 h) (fun h' r' => exS sc pp rec mi (pc + n) r lv (r'.toList ++ st) (cu) (su) h') := by
  simp [exS, ex1, doCall, lvE, cat_i, cat_r, cat_l, h8, hc, hs, hk]
  rfl
theorem K_97 {y0 : Nat} {y1 : Int32} {ix p q c2 s2 : Nat} (hk : kd h y0 = 12) (h8 : (st.map fun v => v.category).sum ≤ 8) (hc : cu ≤ c2) (hs : su ≤ s2) : exS sc pp rec mi pc ((.invokevirtual ix, n, [97, 2, p, q, 5, 0, 0, c2, s2, 12]) :: r) lv (.int y1 :: .ref y0 :: st) cu su h = bindR (rec 97 0 [some (.ref y0), some (.int y1), none, none, none] [] 0 0 h) (fun h' r' => exS sc pp rec mi (pc + n) r lv (r'.toList ++ st) (cu) (su) h') := by
  simp [exS, ex1, doCall, lvE, cat_i, cat_r, cat_l, h8, hc, hs, hk]
  rfl
theorem K_98 {y0 : Nat} {ix p q c2 s2 : Nat} (hk : kd h y0 = 12) (h8 : (st.map fun v => v.category).sum ≤ 8) (hc : cu ≤ c2) (hs : su ≤ s2) : exS sc pp rec mi pc ((.invokevirtual ix, n, [98, 1, p, q, 2, 0, 0, c2, s2, 12]) :: r) lv (.ref y0 :: st) cu su h = bindR (rec 98 0 [some (.ref y0), none] [] 0 0 h) (fun h' r' => exS sc pp rec mi (pc + n) r lv (r'.toList ++ st) (cu) (su) h') := by
  simp [exS, ex1, doCall, lvE, cat_i, cat_r, cat_l, h8, hc, hs, hk]
  rfl
theorem K_99 {y0 : Nat} {ix p q c2 s2 : Nat} (hk : kd h y0 = 12) (h8 : (st.map fun v => v.category).sum ≤ 8) (hc : cu ≤ c2) (hs : su ≤ s2) : exS sc pp rec mi pc ((.invokevirtual ix, n, [99, 1, p, q, 1, 0, 0, c2, s2, 12]) :: r) lv (.ref y0 :: st) cu su h = bindR (rec 99 0 [some (.ref y0)] [] 0 0 h) (fun h' r' => exS sc pp rec mi (pc + n) r lv (r'.toList ++ st) (cu) (su) h') := by
  simp [exS, ex1, doCall, lvE, cat_i, cat_r, cat_l, h8, hc, hs, hk]
  rfl
theorem K_100 {y0 : Nat} {ix p q c2 s2 : Nat} (hk : kd h y0 = 12) (h8 : (st.map fun v => v.category).sum ≤ 8) (hc : cu ≤ c2) (hs : su ≤ s2) : exS sc pp rec mi pc ((.invokevirtual ix, n, [100, 1, p, q, 3, 0, 0, c2, s2, 12]) :: r) lv (.ref y0 :: st) cu su h = bindR (rec 100 0 [some (.ref y0), none, none] [] 0 0 h) (fun h' r' => exS sc pp rec mi (pc + n) r lv (r'.toList ++ st) (cu) (su) h') := by
  simp [exS, ex1, doCall, lvE, cat_i, cat_r, cat_l, h8, hc, hs, hk]
  rfl
theorem K_101 {y0 : Nat} {y1 : Int32} {ix p q c2 s2 : Nat} (hk : kd h y0 = 12) (h8 : (st.map fun v => v.category).sum ≤ 8) (hc : cu ≤ c2) (hs : su ≤ s2) : exS sc pp rec mi pc ((.invokevirtual ix, n, [101, 2, p, q, 3, 0, 0, c2, s2, 12]) :: r) lv (.int y1 :: .ref y0 :: st) cu su h = bindR (rec 101 0 [some (.ref y0), some (.int y1), none] [] 0 0 h) (fun h' r' => exS sc pp rec mi (pc + n) r lv (r'.toList ++ st) (cu) (su) h') := by
  simp [exS, ex1, doCall, lvE, cat_i, cat_r, cat_l, h8, hc, hs, hk]
  rfl
theorem K_102 {y0 : Nat} {y1 : Int32} {ix p q c2 s2 : Nat} (hk : kd h y0 = 11) (h8 : (st.map fun v => v.category).sum ≤ 8) (hc : cu ≤ c2) (hs : su ≤ s2) : exS sc pp rec mi pc ((.invokevirtual ix, n, [102, 2, p, q, 2, 0, 0, c2, s2, 11]) :: r) lv (.int y1 :: .ref y0 :: st) cu su h = bindR (rec 102 0 [some (.ref y0), some (.int y1)] [] 0 0 h) (fun h' r' => exS sc pp rec mi (pc + n) r lv (r'.toList ++ st) (cu) (su) h') := by
  simp [exS, ex1, doCall, lvE, cat_i, cat_r, cat_l, h8, hc, hs, hk]
  rfl
theorem K_103 {y0 : Nat} {y1 : Int32} {ix p q c2 s2 : Nat} (hk : kd h y0 = 12) (h8 : (st.map fun v => v.category).sum ≤ 8) (hc : cu ≤ c2) (hs : su ≤ s2) : exS sc pp rec mi pc ((.invokevirtual ix, n, [103, 2, p, q, 2, 0, 0, c2, s2, 12]) :: r) lv (.int y1 :: .ref y0 :: st) cu su h = bindR (rec 103 0 [some (.ref y0), some (.int y1)] [] 0 0 h) (fun h' r' => exS sc pp rec mi (pc + n) r lv (r'.toList ++ st) (cu) (su) h') := by
  simp [exS, ex1, doCall, lvE, cat_i, cat_r, cat_l, h8, hc, hs, hk]
  rfl
theorem K_104 {y0 : Nat} {y1 : Int32} {y2 : Int32} {ix p q c2 s2 : Nat} (hk : kd h y0 = 11) (h8 : (st.map fun v => v.category).sum ≤ 8) (hc : cu ≤ c2) (hs : su ≤ s2) : exS sc pp rec mi pc ((.invokevirtual ix, n, [104, 3, p, q, 3, 0, 0, c2, s2, 11]) :: r) lv (.int y2 :: .int y1 :: .ref y0 :: st) cu su h = bindR (rec 104 0 [some (.ref y0), some (.int y1), some (.int y2)] [] 0 0 h) (fun h' r' => exS sc pp rec mi (pc + n) r lv (r'.toList ++ st) (cu) (su) h') := by
  simp [exS, ex1, doCall, lvE, cat_i, cat_r, cat_l, h8, hc, hs, hk]
  rfl
theorem K_105 {y0 : Nat} {y1 : Int32} {y2 : Int32} {ix p q c2 s2 : Nat} (hk : kd h y0 = 12) (h8 : (st.map fun v => v.category).sum ≤ 8) (hc : cu ≤ c2) (hs : su ≤ s2) : exS sc pp rec mi pc ((.invokevirtual ix, n, [105, 3, p, q, 3, 0, 0, c2, s2, 12]) :: r) lv (.int y2 :: .int y1 :: .ref y0 :: st) cu su h = bindR (rec 105 0 [some (.ref y0), some (.int y1), some (.int y2)] [] 0 0 h) (fun h' r' => exS sc pp rec mi (pc + n) r lv (r'.toList ++ st) (cu) (su) h') := by
  simp [exS, ex1, doCall, lvE, cat_i, cat_r, cat_l, h8, hc, hs, hk]
  rfl
theorem K_106 {y0 : Nat} {y1 : Int32} {ix p q c2 s2 : Nat} (hk : kd h y0 = 4) (h8 : (st.map fun v => v.category).sum ≤ 8) (hc : cu ≤ c2) (hs : su ≤ s2) : exS sc pp rec mi pc ((.invokevirtual ix, n, [106, 2, p, q, 2, 0, 0, c2, s2, 4]) :: r) lv (.int y1 :: .ref y0 :: st) cu su h = bindR (rec 106 0 [some (.ref y0), some (.int y1)] [] 0 0 h) (fun h' r' => exS sc pp rec mi (pc + n) r lv (r'.toList ++ st) (cu) (su) h') := by
  simp [exS, ex1, doCall, lvE, cat_i, cat_r, cat_l, h8, hc, hs, hk]
  rfl
theorem K_107 {y0 : Nat} {y1 : Int32} {y2 : Int32} {ix p q c2 s2 : Nat} (hk : kd h y0 = 11) (h8 : (st.map fun v => v.category).sum ≤ 8) (hc : cu ≤ c2) (hs : su ≤ s2) : exS sc pp rec mi pc ((.invokevirtual ix, n, [107, 3, p, q, 3, 0, 0, c2, s2, 11]) :: r) lv (.int y2 :: .int y1 :: .ref y0 :: st) cu su h = bindR (rec 107 0 [some (.ref y0), some (.int y1), some (.int y2)] [] 0 0 h) (fun h' r' => exS sc pp rec mi (pc + n) r lv (r'.toList ++ st) (cu) (su) h') := by
  simp [exS, ex1, doCall, lvE, cat_i, cat_r, cat_l, h8, hc, hs, hk]
  rfl
theorem K_109 {y0 : Nat} {y1 : Int32} {ix p q c2 s2 : Nat} (hk : kd h y0 = 12) (h8 : (st.map fun v => v.category).sum ≤ 8) (hc : cu ≤ c2) (hs : su ≤ s2) : exS sc pp rec mi pc ((.invokevirtual ix, n, [109, 2, p, q, 2, 0, 0, c2, s2, 12]) :: r) lv (.int y1 :: .ref y0 :: st) cu su h = bindR (rec 109 0 [some (.ref y0), some (.int y1)] [] 0 0 h) (fun h' r' => exS sc pp rec mi (pc + n) r lv (r'.toList ++ st) (cu) (su) h') := by
  simp [exS, ex1, doCall, lvE, cat_i, cat_r, cat_l, h8, hc, hs, hk]
  rfl
theorem K_110 {y0 : Nat} {y1 : Int32} {ix p q c2 s2 : Nat} (hk : kd h y0 = 12) (h8 : (st.map fun v => v.category).sum ≤ 8) (hc : cu ≤ c2) (hs : su ≤ s2) : exS sc pp rec mi pc ((.invokevirtual ix, n, [110, 2, p, q, 2, 0, 0, c2, s2, 12]) :: r) lv (.int y1 :: .ref y0 :: st) cu su h = bindR (rec 110 0 [some (.ref y0), some (.int y1)] [] 0 0 h) (fun h' r' => exS sc pp rec mi (pc + n) r lv (r'.toList ++ st) (cu) (su) h') := by
  simp [exS, ex1, doCall, lvE, cat_i, cat_r, cat_l, h8, hc, hs, hk]
  rfl
theorem K_111 {y0 : Nat} {y1 : Int32} {y2 : Int32} {ix p q c2 s2 : Nat} (hk : kd h y0 = 12) (h8 : (st.map fun v => v.category).sum ≤ 8) (hc : cu ≤ c2) (hs : su ≤ s2) : exS sc pp rec mi pc ((.invokevirtual ix, n, [111, 3, p, q, 3, 0, 0, c2, s2, 12]) :: r) lv (.int y2 :: .int y1 :: .ref y0 :: st) cu su h = bindR (rec 111 0 [some (.ref y0), some (.int y1), some (.int y2)] [] 0 0 h) (fun h' r' => exS sc pp rec mi (pc + n) r lv (r'.toList ++ st) (cu) (su) h') := by
  simp [exS, ex1, doCall, lvE, cat_i, cat_r, cat_l, h8, hc, hs, hk]
  rfl
theorem K_112 {y0 : Nat} {ix p q c2 s2 : Nat} (hk : kd h y0 = 12) (h8 : (st.map fun v => v.category).sum ≤ 8) (hc : cu ≤ c2) (hs : su ≤ s2) : exS sc pp rec mi pc ((.invokevirtual ix, n, [112, 1, p, q, 1, 0, 0, c2, s2, 12]) :: r) lv (.ref y0 :: st) cu su h = bindR (rec 112 0 [some (.ref y0)] [] 0 0 h) (fun h' r' => exS sc pp rec mi (pc + n) r lv (r'.toList ++ st) (cu) (su) h') := by
  simp [exS, ex1, doCall, lvE, cat_i, cat_r, cat_l, h8, hc, hs, hk]
  rfl
theorem K_113 {y0 : Nat} {y1 : Int32} {y2 : Int32} {ix p q c2 s2 : Nat} (hk : kd h y0 = 11) (h8 : (st.map fun v => v.category).sum ≤ 8) (hc : cu ≤ c2) (hs : su ≤ s2) : exS sc pp rec mi pc ((.invokevirtual ix, n, [113, 3, p, q, 3, 0, 0, c2, s2, 11]) :: r) lv (.int y2 :: .int y1 :: .ref y0 :: st) cu su h = bindR (rec 113 0 [some (.ref y0), some (.int y1), some (.int y2)] [] 0 0 h) (fun h' r' => exS sc pp rec mi (pc + n) r lv (r'.toList ++ st) (cu) (su) h') := by
  simp [exS, ex1, doCall, lvE, cat_i, cat_r, cat_l, h8, hc, hs, hk]
  rfl
theorem K_114 {y0 : Nat} {y1 : Int32} {ix p q c2 s2 : Nat} (hk : kd h y0 = 12) (h8 : (st.map fun v => v.category).sum ≤ 8) (hc : cu ≤ c2) (hs : su ≤ s2) : exS sc pp rec mi pc ((.invokevirtual ix, n, [114, 2, p, q, 2, 0, 0, c2, s2, 12]) :: r) lv (.int y1 :: .ref y0 :: st) cu su h = bindR (rec 114 0 [some (.ref y0), some (.int y1)] [] 0 0 h) (fun h' r' => exS sc pp rec mi (pc + n) r lv (r'.toList ++ st) (cu) (su) h') := by
  simp [exS, ex1, doCall, lvE, cat_i, cat_r, cat_l, h8, hc, hs, hk]
  rfl
theorem K_115 {y0 : Nat} {y1 : Int32} {y2 : Int32} {ix p q c2 s2 : Nat} (hk : kd h y0 = 12) (h8 : (st.map fun v => v.category).sum ≤ 8) (hc : cu ≤ c2) (hs : su ≤ s2) : exS sc pp rec mi pc ((.invokevirtual ix, n, [115, 3, p, q, 3, 0, 0, c2, s2, 12]) :: r) lv (.int y2 :: .int y1 :: .ref y0 :: st) cu su h = bindR (rec 115 0 [some (.ref y0), some (.int y1), some (.int y2)] [] 0 0 h) (fun h' r' => exS sc pp rec mi (pc + n) r lv (r'.toList ++ st) (cu) (su) h') := by
  simp [exS, ex1, doCall, lvE, cat_i, cat_r, cat_l, h8, hc, hs, hk]
  rfl
theorem K_116 {y0 : Nat} {y1 : Int32} {y2 : Int32} {ix p q c2 s2 : Nat} (hk : kd h y0 = 11) (h8 : (st.map fun v => v.category).sum ≤ 8) (hc : cu ≤ c2) (hs : su ≤ s2) : exS sc pp rec mi pc ((.invokevirtual ix, n, [116, 3, p, q, 3, 0, 0, c2, s2, 11]) :: r) lv (.int y2 :: .int y1 :: .ref y0 :: st) cu su h = bindR (rec 116 0 [some (.ref y0), some (.int y1), some (.int y2)] [] 0 0 h) (fun h' r' => exS sc pp rec mi (pc + n) r lv (r'.toList ++ st) (cu) (su) h') := by
  simp [exS, ex1, doCall, lvE, cat_i, cat_r, cat_l, h8, hc, hs, hk]
  rfl
theorem K_117 {y0 : Nat} {y1 : Nat} {ix p q c2 s2 : Nat} (hk : kd h y0 = 6) (h8 : (st.map fun v => v.category).sum ≤ 8) (hc : cu ≤ c2) (hs : su ≤ s2) : exS sc pp rec mi pc ((.invokevirtual ix, n, [117, 2, p, q, 2, 0, 0, c2, s2, 6]) :: r) lv (.ref y1 :: .ref y0 :: st) cu su h = bindR (rec 117 0 [some (.ref y0), some (.ref y1)] [] 0 0 h) (fun h' r' => exS sc pp rec mi (pc + n) r lv (r'.toList ++ st) (cu) (su) h') := by
  simp [exS, ex1, doCall, lvE, cat_i, cat_r, cat_l, h8, hc, hs, hk]
  rfl
theorem K_118 {y0 : Int32} {ix p q c2 s2 : Nat} (h8 : (st.map fun v => v.category).sum ≤ 8) (hc : cu ≤ c2) (hs : su ≤ s2) : exS sc pp rec mi pc ((.invokestatic ix, n, [118, 1, p, q, 1, 0, 0, c2, s2, 0]) :: r) lv (.int y0 :: st) cu su h = bindR (rec 118 0 [some (.int y0)] [] 0 0 h) (fun h' r' => exS sc pp rec mi (pc + n) r lv (r'.toList ++ st) (cu) (su) h') := by
  simp [exS, ex1, doCall, lvE, cat_i, cat_r, cat_l, h8, hc, hs]
  rfl
theorem K_119 {y0 : Nat} {y1 : Int32} {ix p q c2 s2 : Nat} (hk : kd h y0 = 0) (h8 : (st.map fun v => v.category).sum ≤ 8) (hc : cu ≤ c2) (hs : su ≤ s2) : exS sc pp rec mi pc ((.invokevirtual ix, n, [119, 2, p, q, 3, 0, 0, c2, s2, 0]) :: r) lv (.int y1 :: .ref y0 :: st) cu su h = bindR (rec 119 0 [some (.ref y0), some (.int y1), none] [] 0 0 h) (fun h' r' => exS sc pp rec mi (pc + n) r lv (r'.toList ++ st) (cu) (su) h') := by
  simp [exS, ex1, doCall, lvE, cat_i, cat_r, cat_l, h8, hc, hs, hk]
  rfl
theorem K_120 {y0 : Nat} {y1 : Nat} {y2 : Int32} {y3 : Int32} {y4 : Int32} {ix p q c2 s2 : Nat} (hk : kd h y0 = 6) (h8 : (st.map fun v => v.category).sum ≤ 8) (hc : cu ≤ c2) (hs : su ≤ s2) : exS sc pp rec mi pc ((.invokevirtual ix, n, [120, 5, p, q, 5, 0, 0, c2, s2, 6]) :: r) lv (.int y4 :: .int y3 :: .int y2 :: .ref y1 :: .ref y0 :: st) cu su h = bindR (rec 120 0 [some (.ref y0), some (.ref y1), some (.int y2), some (.int y3), some (.int y4)] [] 0 0 h) (fun h' r' => exS sc pp rec mi (pc + n) r lv (r'.toList ++ st) (cu) (su) h') := by
  simp [exS, ex1, doCall, lvE, cat_i, cat_r, cat_l, h8, hc, hs, hk]
  rfl
theorem K_121 {y0 : Nat} {y1 : Nat} {y2 : Int32} {y3 : Int32} {y4 : Int32} {ix p q c2 s2 : Nat} (hk : kd h y0 = 6) (h8 : (st.map fun v => v.category).sum ≤ 8) (hc : cu ≤ c2) (hs : su ≤ s2) : exS sc pp rec mi pc ((.invokevirtual ix, n, [121, 5, p, q, 5, 0, 0, c2, s2, 6]) :: r) lv (.int y4 :: .int y3 :: .int y2 :: .ref y1 :: .ref y0 :: st) cu su h = bindR (rec 121 0 [some (.ref y0), some (.ref y1), some (.int y2), some (.int y3), some (.int y4)] [] 0 0 h) (fun h' r' => exS sc pp rec mi (pc + n) r lv (r'.toList ++ st) (cu) (su) h') := by
  simp [exS, ex1, doCall, lvE, cat_i, cat_r, cat_l, h8, hc, hs, hk]
  rfl
theorem K_122 {y0 : Nat} {y1 : Int32} {y2 : Int32} {y3 : Int32} {ix p q c2 s2 : Nat} (hk : kd h y0 = 11) (h8 : (st.map fun v => v.category).sum ≤ 8) (hc : cu ≤ c2) (hs : su ≤ s2) : exS sc pp rec mi pc ((.invokevirtual ix, n, [122, 4, p, q, 4, 0, 0, c2, s2, 11]) :: r) lv (.int y3 :: .int y2 :: .int y1 :: .ref y0 :: st) cu su h = bindR (rec 122 0 [some (.ref y0), some (.int y1), some (.int y2), some (.int y3)] [] 0 0 h) (fun h' r' => exS sc pp rec mi (pc + n) r lv (r'.toList ++ st) (cu) (su) h') := by
  simp [exS, ex1, doCall, lvE, cat_i, cat_r, cat_l, h8, hc, hs, hk]
  rfl
theorem K_123 {y0 : Nat} {y1 : Int32} {ix p q c2 s2 : Nat} (hk : kd h y0 = 12) (h8 : (st.map fun v => v.category).sum ≤ 8) (hc : cu ≤ c2) (hs : su ≤ s2) : exS sc pp rec mi pc ((.invokevirtual ix, n, [123, 2, p, q, 3, 0, 0, c2, s2, 12]) :: r) lv (.int y1 :: .ref y0 :: st) cu su h = bindR (rec 123 0 [some (.ref y0), some (.int y1), none] [] 0 0 h) (fun h' r' => exS sc pp rec mi (pc + n) r lv (r'.toList ++ st) (cu) (su) h') := by
  simp [exS, ex1, doCall, lvE, cat_i, cat_r, cat_l, h8, hc, hs, hk]
  rfl
theorem K_124 {y0 : Nat} {y1 : Int32} {y2 : Int32} {y3 : Int32} {y4 : Int32} {ix p q c2 s2 : Nat} (hk : kd h y0 = 12) (h8 : (st.map fun v => v.category).sum ≤ 8) (hc : cu ≤ c2) (hs : su ≤ s2) : exS sc pp rec mi pc ((.invokevirtual ix, n, [124, 5, p, q, 5, 0, 0, c2, s2, 12]) :: r) lv (.int y4 :: .int y3 :: .int y2 :: .int y1 :: .ref y0 :: st) cu su h = bindR (rec 124 0 [some (.ref y0), some (.int y1), some (.int y2), some (.int y3), some (.int y4)] [] 0 0 h) (fun h' r' => exS sc pp rec mi (pc + n) r lv (r'.toList ++ st) (cu) (su) h') := by
  simp [exS, ex1, doCall, lvE, cat_i, cat_r, cat_l, h8, hc, hs, hk]
  rfl
theorem K_125 {y0 : Nat} {y1 : Int32} {y2 : Int32} {y3 : Int32} {ix p q c2 s2 : Nat} (hk : kd h y0 = 12) (h8 : (st.map fun v => v.category).sum ≤ 8) (hc : cu ≤ c2) (hs : su ≤ s2) : exS sc pp rec mi pc ((.invokevirtual ix, n, [125, 4, p, q, 4, 0, 0, c2, s2, 12]) :: r) lv (.int y3 :: .int y2 :: .int y1 :: .ref y0 :: st) cu su h = bindR (rec 125 0 [some (.ref y0), some (.int y1), some (.int y2), some (.int y3)] [] 0 0 h) (fun h' r' => exS sc pp rec mi (pc + n) r lv (r'.toList ++ st) (cu) (su) h') := by
  simp [exS, ex1, doCall, lvE, cat_i, cat_r, cat_l, h8, hc, hs, hk]
  rfl
theorem K_126 {y0 : Nat} {y1 : Int32} {ix p q c2 s2 : Nat} (hk : kd h y0 = 6) (h8 : (st.map fun v => v.category).sum ≤ 8) (hc : cu ≤ c2) (hs : su ≤ s2) : exS sc pp rec mi pc ((.invokevirtual ix, n, [126, 2, p, q, 2, 0, 0, c2, s2, 6]) :: r) lv (.int y1 :: .ref y0 :: st) cu su h = bindR (rec 126 0 [some (.ref y0), some (.int y1)] [] 0 0 h) (fun h' r' => exS sc pp rec mi (pc + n) r lv (r'.toList ++ st) (cu) (su) h') := by
  simp [exS, ex1, doCall, lvE, cat_i, cat_r, cat_l, h8, hc, hs, hk]
  rfl
theorem K_127 {y0 : Int32} {ix p q c2 s2 : Nat} (h8 : (st.map fun v => v.category).sum ≤ 8) (hc : cu ≤ c2) (hs : su ≤ s2) : exS sc pp rec mi pc ((.invokestatic ix, n, [127, 1, p, q, 1, 0, 0, c2, s2, 99]) :: r) lv (.int y0 :: st) cu su h = bindR (rec 127 0 [some (.int y0)] [] 0 0 h) (fun h' r' => exS sc pp rec mi (pc + n) r lv (r'.toList ++ st) (cu) (su) h') := by
  simp [exS, ex1, doCall, lvE, cat_i, cat_r, cat_l, h8, hc, hs]
  rfl
theorem K_128 {y0 : Int64} {y1 : Int64} {ix p q c2 s2 : Nat} (h8 : (st.map fun v => v.category).sum ≤ 8) (hc : cu ≤ c2) (hs : su ≤ s2) : exS sc pp rec mi pc ((.invokestatic ix, n, [128, 2, p, q, 6, 0, 0, c2, s2, 2]) :: r) lv (.long y1 :: .long y0 :: st) cu su h = bindR (rec 128 0 [some (.long y0), none, some (.long y1), none, none, none] [] 0 0 h) (fun h' r' => exS sc pp rec mi (pc + n) r lv (r'.toList ++ st) (cu) (su) h') := by
  have hl : lsOK ((mt 128).2.2.2.2.2.2.drop 9) [some (.long y0), none, some (.long y1), none, none, none] = true := by
    have e : (mt 128).2.2.2.2.2.2.drop 9 = [0, 2, 4] := by decide +kernel
    rw [e]
    simp [lsOK, cat_i, cat_r, cat_l]
  simp [exS, ex1, doCall, lvE, cat_i, cat_r, cat_l, h8, hc, hs, hl]
  rfl
theorem K_129 {y0 : Int32} {y1 : Int64} {y2 : Int64} {ix p q c2 s2 : Nat} (h8 : (st.map fun v => v.category).sum ≤ 8) (hc : cu ≤ c2) (hs : su ≤ s2) : exS sc pp rec mi pc ((.invokestatic ix, n, [129, 3, p, q, 5, 0, 0, c2, s2, 2]) :: r) lv (.long y2 :: .long y1 :: .int y0 :: st) cu su h = bindR (rec 129 0 [some (.int y0), some (.long y1), none, some (.long y2), none] [] 0 0 h) (fun h' r' => exS sc pp rec mi (pc + n) r lv (r'.toList ++ st) (cu) (su) h') := by
  have hl : lsOK ((mt 129).2.2.2.2.2.2.drop 9) [some (.int y0), some (.long y1), none, some (.long y2), none] = true := by
    have e : (mt 129).2.2.2.2.2.2.drop 9 = [1, 3] := by decide +kernel
    rw [e]
    simp [lsOK, cat_i, cat_r, cat_l]
  simp [exS, ex1, doCall, lvE, cat_i, cat_r, cat_l, h8, hc, hs, hl]
  rfl
theorem K_130 {y0 : Nat} {y1 : Nat} {y2 : Nat} {ix p q c2 s2 : Nat} (hk : kd h y0 = 2) (h8 : (st.map fun v => v.category).sum ≤ 8) (hc : cu ≤ c2) (hs : su ≤ s2) : exS sc pp rec mi pc ((.invokevirtual ix, n, [130, 3, p, q, 12, 0, 0, c2, s2, 2]) :: r) lv (.ref y2 :: .ref y1 :: .ref y0 :: st) cu su h = bindR (rec 130 0 [some (.ref y0), some (.ref y1), some (.ref y2), none, none, none, none, none, none, none, none, none] [] 0 0 h) (fun h' r' => exS sc pp rec mi (pc + n) r lv (r'.toList ++ st) (cu) (su) h') := by
  simp [exS, ex1, doCall, lvE, cat_i, cat_r, cat_l, h8, hc, hs, hk]
  rfl
theorem K_131 {y0 : Nat} {y1 : Nat} {y2 : Nat} {y3 : Int32} {y4 : Int32} {ix p q c2 s2 : Nat} (hk : kd h y0 = 6) (h8 : (st.map fun v => v.category).sum ≤ 8) (hc : cu ≤ c2) (hs : su ≤ s2) : exS sc pp rec mi pc ((.invokevirtual ix, n, [131, 5, p, q, 5, 0, 0, c2, s2, 6]) :: r) lv (.int y4 :: .int y3 :: .ref y2 :: .ref y1 :: .ref y0 :: st) cu su h = bindR (rec 131 0 [some (.ref y0), some (.ref y1), some (.ref y2), some (.int y3), some (.int y4)] [] 0 0 h) (fun h' r' => exS sc pp rec mi (pc + n) r lv (r'.toList ++ st) (cu) (su) h') := by
  simp [exS, ex1, doCall, lvE, cat_i, cat_r, cat_l, h8, hc, hs, hk]
  rfl
theorem K_132 {y0 : Nat} {y1 : Int32} {y2 : Int32} {y3 : Int32} {ix p q c2 s2 : Nat} (hk : kd h y0 = 11) (h8 : (st.map fun v => v.category).sum ≤ 8) (hc : cu ≤ c2) (hs : su ≤ s2) : exS sc pp rec mi pc ((.invokevirtual ix, n, [132, 4, p, q, 4, 0, 0, c2, s2, 11]) :: r) lv (.int y3 :: .int y2 :: .int y1 :: .ref y0 :: st) cu su h = bindR (rec 132 0 [some (.ref y0), some (.int y1), some (.int y2), some (.int y3)] [] 0 0 h) (fun h' r' => exS sc pp rec mi (pc + n) r lv (r'.toList ++ st) (cu) (su) h') := by
  simp [exS, ex1, doCall, lvE, cat_i, cat_r, cat_l, h8, hc, hs, hk]
  rfl
theorem K_133 {y0 : Nat} {y1 : Int32} {ix p q c2 s2 : Nat} (hk : kd h y0 = 12) (h8 : (st.map fun v => v.category).sum ≤ 8) (hc : cu ≤ c2) (hs : su ≤ s2) : exS sc pp rec mi pc ((.invokevirtual ix, n, [133, 2, p, q, 2, 0, 0, c2, s2, 12]) :: r) lv (.int y1 :: .ref y0 :: st) cu su h = bindR (rec 133 0 [some (.ref y0), some (.int y1)] [] 0 0 h) (fun h' r' => exS sc pp rec mi (pc + n) r lv (r'.toList ++ st) (cu) (su) h') := by
  simp [exS, ex1, doCall, lvE, cat_i, cat_r, cat_l, h8, hc, hs, hk]
  rfl
theorem K_134 {y0 : Int32} {ix p q c2 s2 : Nat} (h8 : (st.map fun v => v.category).sum ≤ 8) (hc : cu ≤ c2) (hs : su ≤ s2) : exS sc pp rec mi pc ((.invokestatic ix, n, [134, 1, p, q, 3, 0, 0, c2, s2, 12]) :: r) lv (.int y0 :: st) cu su h = bindR (rec 134 0 [some (.int y0), none, none] [] 0 0 h) (fun h' r' => exS sc pp rec mi (pc + n) r lv (r'.toList ++ st) (cu) (su) h') := by
  simp [exS, ex1, doCall, lvE, cat_i, cat_r, cat_l, h8, hc, hs]
  rfl
theorem K_135 {y0 : Nat} {y1 : Int32} {y2 : Int32} {y3 : Int32} {ix p q c2 s2 : Nat} (hk : kd h y0 = 12) (h8 : (st.map fun v => v.category).sum ≤ 8) (hc : cu ≤ c2) (hs : su ≤ s2) : exS sc pp rec mi pc ((.invokevirtual ix, n, [135, 4, p, q, 4, 0, 0, c2, s2, 12]) :: r) lv (.int y3 :: .int y2 :: .int y1 :: .ref y0 :: st) cu su h = bindR (rec 135 0 [some (.ref y0), some (.int y1), some (.int y2), some (.int y3)] [] 0 0 h) (fun h' r' => exS sc pp rec mi (pc + n) r lv (r'.toList ++ st) (cu) (su) h') := by
  simp [exS, ex1, doCall, lvE, cat_i, cat_r, cat_l, h8, hc, hs, hk]
  rfl
theorem K_136 {y0 : Nat} {y1 : Int64} {ix p q c2 s2 : Nat} (hk : kd h y0 = 12) (h8 : (st.map fun v => v.category).sum ≤ 8) (hc : cu ≤ c2) (hs : su ≤ s2) : exS sc pp rec mi pc ((.invokevirtual ix, n, [136, 2, p, q, 3, 0, 0, c2, s2, 12]) :: r) lv (.long y1 :: .ref y0 :: st) cu su h = bindR (rec 136 0 [some (.ref y0), some (.long y1), none] [] 0 0 h) (fun h' r' => exS sc pp rec mi (pc + n) r lv (r'.toList ++ st) (cu) (su) h') := by
  have hl : lsOK ((mt 136).2.2.2.2.2.2.drop 9) [some (.ref y0), some (.long y1), none] = true := by
    have e : (mt 136).2.2.2.2.2.2.drop 9 = [1] := by decide +kernel
    rw [e]
    simp [lsOK, cat_i, cat_r, cat_l]
  simp [exS, ex1, doCall, lvE, cat_i, cat_r, cat_l, h8, hc, hs, hl, hk]
  rfl
theorem K_137 {y0 : Nat} {y1 : Int64} {y2 : Int64} {ix p q c2 s2 : Nat} (hk : kd h y0 = 12) (h8 : (st.map fun v => v.category).sum ≤ 8) (hc : cu ≤ c2) (hs : su ≤ s2) : exS sc pp rec mi pc ((.invokevirtual ix, n, [137, 3, p, q, 6, 0, 0, c2, s2, 12]) :: r) lv (.long y2 :: .long y1 :: .ref y0 :: st) cu su h = bindR (rec 137 0 [some (.ref y0), some (.long y1), none, some (.long y2), none, none] [] 0 0 h) (fun h' r' => exS sc pp rec mi (pc + n) r lv (r'.toList ++ st) (cu) (su) h') := by
  have hl : lsOK ((mt 137).2.2.2.2.2.2.drop 9) [some (.ref y0), some (.long y1), none, some (.long y2), none, none] = true := by
    have e : (mt 137).2.2.2.2.2.2.drop 9 = [1, 3] := by decide +kernel
    rw [e]
    simp [lsOK, cat_i, cat_r, cat_l]
  simp [exS, ex1, doCall, lvE, cat_i, cat_r, cat_l, h8, hc, hs, hl, hk]
  rfl
theorem K_138 {y0 : Int32} {y1 : Int64} {y2 : Int64} {ix p q c2 s2 : Nat} (h8 : (st.map fun v => v.category).sum ≤ 8) (hc : cu ≤ c2) (hs : su ≤ s2) : exS sc pp rec mi pc ((.invokestatic ix, n, [138, 3, p, q, 5, 0, 0, c2, s2, 12]) :: r) lv (.long y2 :: .long y1 :: .int y0 :: st) cu su h = bindR (rec 138 0 [some (.int y0), some (.long y1), none, some (.long y2), none] [] 0 0 h) (fun h' r' => exS sc pp rec mi (pc + n) r lv (r'.toList ++ st) (cu) (su) h') := by
  have hl : lsOK ((mt 138).2.2.2.2.2.2.drop 9) [some (.int y0), some (.long y1), none, some (.long y2), none] = true := by
    have e : (mt 138).2.2.2.2.2.2.drop 9 = [1, 3] := by decide +kernel
    rw [e]
    simp [lsOK, cat_i, cat_r, cat_l]
  simp [exS, ex1, doCall, lvE, cat_i, cat_r, cat_l, h8, hc, hs, hl]
  rfl
theorem K_139 {y0 : Nat} {y1 : Int32} {ix p q c2 s2 : Nat} (hk : kd h y0 = 12) (h8 : (st.map fun v => v.category).sum ≤ 8) (hc : cu ≤ c2) (hs : su ≤ s2) : exS sc pp rec mi pc ((.invokevirtual ix, n, [139, 2, p, q, 6, 0, 0, c2, s2, 12]) :: r) lv (.int y1 :: .ref y0 :: st) cu su h = bindR (rec 139 0 [some (.ref y0), some (.int y1), none, none, none, none] [] 0 0 h) (fun h' r' => exS sc pp rec mi (pc + n) r lv (r'.toList ++ st) (cu) (su) h') := by
  simp [exS, ex1, doCall, lvE, cat_i, cat_r, cat_l, h8, hc, hs, hk]
  rfl
theorem K_140 {y0 : Nat} {y1 : Int32} {ix p q c2 s2 : Nat} (hk : kd h y0 = 12) (h8 : (st.map fun v => v.category).sum ≤ 8) (hc : cu ≤ c2) (hs : su ≤ s2) : exS sc pp rec mi pc ((.invokevirtual ix, n, [140, 2, p, q, 3, 0, 0, c2, s2, 12]) :: r) lv (.int y1 :: .ref y0 :: st) cu su h = bindR (rec 140 0 [some (.ref y0), some (.int y1), none] [] 0 0 h) (fun h' r' => exS sc pp rec mi (pc + n) r lv (r'.toList ++ st) (cu) (su) h') := by
  simp [exS, ex1, doCall, lvE, cat_i, cat_r, cat_l, h8, hc, hs, hk]
  rfl
theorem K_141 {y0 : Nat} {y1 : Int32} {y2 : Int32} {y3 : Int32} {ix p q c2 s2 : Nat} (hk : kd h y0 = 12) (h8 : (st.map fun v => v.category).sum ≤ 8) (hc : cu ≤ c2) (hs : su ≤ s2) : exS sc pp rec mi pc ((.invokevirtual ix, n, [141, 4, p, q, 6, 0, 0, c2, s2, 12]) :: r) lv (.int y3 :: .int y2 :: .int y1 :: .ref y0 :: st) cu su h = bindR (rec 141 0 [some (.ref y0), some (.int y1), some (.int y2), some (.int y3), none, none] [] 0 0 h) (fun h' r' => exS sc pp rec mi (pc + n) r lv (r'.toList ++ st) (cu) (su) h') := by
  simp [exS, ex1, doCall, lvE, cat_i, cat_r, cat_l, h8, hc, hs, hk]
  rfl
theorem K_142 {y0 : Nat} {y1 : Nat} {ix p q c2 s2 : Nat} (hk : kd h y0 = 8) (h8 : (st.map fun v => v.category).sum ≤ 8) (hc : cu ≤ c2) (hs : su ≤ s2) : exS sc pp rec mi pc ((.invokevirtual ix, n, [142, 2, p, q, 3, 0, 0, c2, s2, 8]) :: r) lv (.ref y1 :: .ref y0 :: st) cu su h = bindR (rec 142 0 [some (.ref y0), some (.ref y1), none] [] 0 0 h) (fun h' r' => exS sc pp rec mi (pc + n) r lv (r'.toList ++ st) (cu) (su) h') := by
  simp [exS, ex1, doCall, lvE, cat_i, cat_r, cat_l, h8, hc, hs, hk]
  rfl
theorem K_143 {y0 : Nat} {y1 : Nat} {ix p q c2 s2 : Nat} (hk : kd h y0 = 1) (h8 : (st.map fun v => v.category).sum ≤ 8) (hc : cu ≤ c2) (hs : su ≤ s2) : exS sc pp rec mi pc ((.invokevirtual ix, n, [143, 2, p, q, 2, 0, 0, c2, s2, 1]) :: r) lv (.ref y1 :: .ref y0 :: st) cu su h = bindR (rec 143 0 [some (.ref y0), some (.ref y1)] [] 0 0 h) (fun h' r' => exS sc pp rec mi (pc + n) r lv (r'.toList ++ st) (cu) (su) h') := by
  simp [exS, ex1, doCall, lvE, cat_i, cat_r, cat_l, h8, hc, hs, hk]
  rfl
theorem K_144 {y0 : Nat} {y1 : Nat} {y2 : Int32} {y3 : Int32} {ix p q c2 s2 : Nat} (hk : kd h y0 = 6) (h8 : (st.map fun v => v.category).sum ≤ 8) (hc : cu ≤ c2) (hs : su ≤ s2) : exS sc pp rec mi pc ((.invokevirtual ix, n, [144, 4, p, q, 4, 0, 0, c2, s2, 6]) :: r) lv (.int y3 :: .int y2 :: .ref y1 :: .ref y0 :: st) cu su h = bindR (rec 144 0 [some (.ref y0), some (.ref y1), some (.int y2), some (.int y3)] [] 0 0 h) (fun h' r' => exS sc pp rec mi (pc + n) r lv (r'.toList ++ st) (cu) (su) h') := by
  simp [exS, ex1, doCall, lvE, cat_i, cat_r, cat_l, h8, hc, hs, hk]
  rfl
theorem K_145 {y0 : Nat} {y1 : Nat} {y2 : Int32} {y3 : Int32} {ix p q c2 s2 : Nat} (hk : kd h y0 = 6) (h8 : (st.map fun v => v.category).sum ≤ 8) (hc : cu ≤ c2) (hs : su ≤ s2) : exS sc pp rec mi pc ((.invokevirtual ix, n, [145, 4, p, q, 6, 0, 0, c2, s2, 6]) :: r) lv (.int y3 :: .int y2 :: .ref y1 :: .ref y0 :: st) cu su h = bindR (rec 145 0 [some (.ref y0), some (.ref y1), some (.int y2), some (.int y3), none, none] [] 0 0 h) (fun h' r' => exS sc pp rec mi (pc + n) r lv (r'.toList ++ st) (cu) (su) h') := by
  simp [exS, ex1, doCall, lvE, cat_i, cat_r, cat_l, h8, hc, hs, hk]
  rfl
theorem K_146 {y0 : Nat} {y1 : Int32} {y2 : Int32} {ix p q c2 s2 : Nat} (hk : kd h y0 = 8) (h8 : (st.map fun v => v.category).sum ≤ 8) (hc : cu ≤ c2) (hs : su ≤ s2) : exS sc pp rec mi pc ((.invokevirtual ix, n, [146, 3, p, q, 3, 0, 0, c2, s2, 8]) :: r) lv (.int y2 :: .int y1 :: .ref y0 :: st) cu su h = bindR (rec 146 0 [some (.ref y0), some (.int y1), some (.int y2)] [] 0 0 h) (fun h' r' => exS sc pp rec mi (pc + n) r lv (r'.toList ++ st) (cu) (su) h') := by
  simp [exS, ex1, doCall, lvE, cat_i, cat_r, cat_l, h8, hc, hs, hk]
  rfl
theorem K_147 {y0 : Nat} {ix p q c2 s2 : Nat} (hk : kd h y0 = 8) (h8 : (st.map fun v => v.category).sum ≤ 8) (hc : cu ≤ c2) (hs : su ≤ s2) : exS sc pp rec mi pc ((.invokevirtual ix, n, [147, 1, p, q, 1, 0, 0, c2, s2, 8]) :: r) lv (.ref y0 :: st) cu su h = bindR (rec 147 0 [some (.ref y0)] [] 0 0 h) (fun h' r' => exS sc pp rec mi (pc + n) r lv (r'.toList ++ st) (cu) (su) h') := by
  simp [exS, ex1, doCall, lvE, cat_i, cat_r, cat_l, h8, hc, hs, hk]
  rfl
theorem K_148 {y0 : Nat} {y1 : Nat} {y2 : Int32} {y3 : Int32} {ix p q c2 s2 : Nat} (hk : kd h y0 = 6) (h8 : (st.map fun v => v.category).sum ≤ 8) (hc : cu ≤ c2) (hs : su ≤ s2) : exS sc pp rec mi pc ((.invokevirtual ix, n, [148, 4, p, q, 6, 0, 0, c2, s2, 6]) :: r) lv (.int y3 :: .int y2 :: .ref y1 :: .ref y0 :: st) cu su h = bindR (rec 148 0 [some (.ref y0), some (.ref y1), some (.int y2), some (.int y3), none, none] [] 0 0 h) (fun h' r' => exS sc pp rec mi (pc + n) r lv (r'.toList ++ st) (cu) (su) h') := by
  simp [exS, ex1, doCall, lvE, cat_i, cat_r, cat_l, h8, hc, hs, hk]
  rfl
theorem K_149 {y0 : Nat} {y1 : Nat} {y2 : Int32} {y3 : Int32} {y4 : Int32} {ix p q c2 s2 : Nat} (hk : kd h y0 = 6) (h8 : (st.map fun v => v.category).sum ≤ 8) (hc : cu ≤ c2) (hs : su ≤ s2) : exS sc pp rec mi pc ((.invokevirtual ix, n, [149, 5, p, q, 9, 0, 0, c2, s2, 6]) :: r) lv (.int y4 :: .int y3 :: .int y2 :: .ref y1 :: .ref y0 :: st) cu su h = bindR (rec 149 0 [some (.ref y0), some (.ref y1), some (.int y2), some (.int y3), some (.int y4), none, none, none, none] [] 0 0 h) (fun h' r' => exS sc pp rec mi (pc + n) r lv (r'.toList ++ st) (cu) (su) h') := by
  simp [exS, ex1, doCall, lvE, cat_i, cat_r, cat_l, h8, hc, hs, hk]
  rfl
theorem K_150 {y0 : Nat} {y1 : Int32} {y2 : Int32} {y3 : Int32} {ix p q c2 s2 : Nat} (hk : kd h y0 = 11) (h8 : (st.map fun v => v.category).sum ≤ 8) (hc : cu ≤ c2) (hs : su ≤ s2) : exS sc pp rec mi pc ((.invokevirtual ix, n, [150, 4, p, q, 4, 0, 0, c2, s2, 11]) :: r) lv (.int y3 :: .int y2 :: .int y1 :: .ref y0 :: st) cu su h = bindR (rec 150 0 [some (.ref y0), some (.int y1), some (.int y2), some (.int y3)] [] 0 0 h) (fun h' r' => exS sc pp rec mi (pc + n) r lv (r'.toList ++ st) (cu) (su) h') := by
  simp [exS, ex1, doCall, lvE, cat_i, cat_r, cat_l, h8, hc, hs, hk]
  rfl
theorem K_151 {y0 : Nat} {y1 : Nat} {y2 : Int32} {ix p q c2 s2 : Nat} (hk : kd h y0 = 12) (h8 : (st.map fun v => v.category).sum ≤ 8) (hc : cu ≤ c2) (hs : su ≤ s2) : exS sc pp rec mi pc ((.invokevirtual ix, n, [151, 3, p, q, 4, 0, 0, c2, s2, 12]) :: r) lv (.int y2 :: .ref y1 :: .ref y0 :: st) cu su h = bindR (rec 151 0 [some (.ref y0), some (.ref y1), some (.int y2), none] [] 0 0 h) (fun h' r' => exS sc pp rec mi (pc + n) r lv (r'.toList ++ st) (cu) (su) h') := by
  simp [exS, ex1, doCall, lvE, cat_i, cat_r, cat_l, h8, hc, hs, hk]
  rfl
theorem K_152 {y0 : Nat} {ix p q c2 s2 : Nat} (hk : kd h y0 = 12) (h8 : (st.map fun v => v.category).sum ≤ 8) (hc : cu ≤ c2) (hs : su ≤ s2) : exS sc pp rec mi pc ((.invokevirtual ix, n, [152, 1, p, q, 2, 0, 0, c2, s2, 12]) :: r) lv (.ref y0 :: st) cu su h = bindR (rec 152 0 [some (.ref y0), none] [] 0 0 h) (fun h' r' => exS sc pp rec mi (pc + n) r lv (r'.toList ++ st) (cu) (su) h') := by
  simp [exS, ex1, doCall, lvE, cat_i, cat_r, cat_l, h8, hc, hs, hk]
  rfl
theorem K_153 {y0 : Nat} {y1 : Int32} {y2 : Int32} {y3 : Int32} {ix p q c2 s2 : Nat} (hk : kd h y0 = 12) (h8 : (st.map fun v => v.category).sum ≤ 8) (hc : cu ≤ c2) (hs : su ≤ s2) : exS sc pp rec mi pc ((.invokevirtual ix, n, [153, 4, p, q, 7, 0, 0, c2, s2, 12]) :: r) lv (.int y3 :: .int y2 :: .int y1 :: .ref y0 :: st) cu su h = bindR (rec 153 0 [some (.ref y0), some (.int y1), some (.int y2), some (.int y3), none, none, none] [] 0 0 h) (fun h' r' => exS sc pp rec mi (pc + n) r lv (r'.toList ++ st) (cu) (su) h') := by
  simp [exS, ex1, doCall, lvE, cat_i, cat_r, cat_l, h8, hc, hs, hk]
  rfl
theorem K_154 {y0 : Nat} {y1 : Int32} {y2 : Int32} {y3 : Int32} {ix p q c2 s2 : Nat} (hk : kd h y0 = 12) (h8 : (st.map fun v => v.category).sum ≤ 8) (hc : cu ≤ c2) (hs : su ≤ s2) : exS sc pp rec mi pc ((.invokevirtual ix, n, [154, 4, p, q, 7, 0, 0, c2, s2, 12]) :: r) lv (.int y3 :: .int y2 :: .int y1 :: .ref y0 :: st) cu su h = bindR (rec 154 0 [some (.ref y0), some (.int y1), some (.int y2), some (.int y3), none, none, none] [] 0 0 h) (fun h' r' => exS sc pp rec mi (pc + n) r lv (r'.toList ++ st) (cu) (su) h') := by
  simp [exS, ex1, doCall, lvE, cat_i, cat_r, cat_l, h8, hc, hs, hk]
  rfl
theorem K_155 {y0 : Nat} {y1 : Int32} {ix p q c2 s2 : Nat} (hk : kd h y0 = 12) (h8 : (st.map fun v => v.category).sum ≤ 8) (hc : cu ≤ c2) (hs : su ≤ s2) : exS sc pp rec mi pc ((.invokevirtual ix, n, [155, 2, p, q, 2, 0, 0, c2, s2, 12]) :: r) lv (.int y1 :: .ref y0 :: st) cu su h = bindR (rec 155 0 [some (.ref y0), some (.int y1)] [] 0 0 h) (fun h' r' => exS sc pp rec mi (pc + n) r lv (r'.toList ++ st) (cu) (su) h') := by
  simp [exS, ex1, doCall, lvE, cat_i, cat_r, cat_l, h8, hc, hs, hk]
  rfl
theorem K_156 {y0 : Nat} {y1 : Int32} {y2 : Int32} {y3 : Int32} {ix p q c2 s2 : Nat} (hk : kd h y0 = 12) (h8 : (st.map fun v => v.category).sum ≤ 8) (hc : cu ≤ c2) (hs : su ≤ s2) : exS sc pp rec mi pc ((.invokevirtual ix, n, [156, 4, p, q, 6, 0, 0, c2, s2, 12]) :: r) lv (.int y3 :: .int y2 :: .int y1 :: .ref y0 :: st) cu su h = bindR (rec 156 0 [some (.ref y0), some (.int y1), some (.int y2), some (.int y3), none, none] [] 0 0 h) (fun h' r' => exS sc pp rec mi (pc + n) r lv (r'.toList ++ st) (cu) (su) h') := by
  simp [exS, ex1, doCall, lvE, cat_i, cat_r, cat_l, h8, hc, hs, hk]
  rfl
theorem K_157 {y0 : Nat} {y1 : Int32} {y2 : Int32} {y3 : Int32} {y4 : Int32} {ix p q c2 s2 : Nat} (hk : kd h y0 = 12) (h8 : (st.map fun v => v.category).sum ≤ 8) (hc : cu ≤ c2) (hs : su ≤ s2) : exS sc pp rec mi pc ((.invokevirtual ix, n, [157, 5, p, q, 6, 0, 0, c2, s2, 12]) :: r) lv (.int y4 :: .int y3 :: .int y2 :: .int y1 :: .ref y0 :: st) cu su h = bindR (rec 157 0 [some (.ref y0), some (.int y1), some (.int y2), some (.int y3), some (.int y4), none] [] 0 0 h) (fun h' r' => exS sc pp rec mi (pc + n) r lv (r'.toList ++ st) (cu) (su) h') := by
  simp [exS, ex1, doCall, lvE, cat_i, cat_r, cat_l, h8, hc, hs, hk]
  rfl
theorem K_158 {y0 : Nat} {y1 : Int32} {y2 : Int32} {y3 : Int32} {ix p q c2 s2 : Nat} (hk : kd h y0 = 12) (h8 : (st.map fun v => v.category).sum ≤ 8) (hc : cu ≤ c2) (hs : su ≤ s2) : exS sc pp rec mi pc ((.invokevirtual ix, n, [158, 4, p, q, 5, 0, 0, c2, s2, 12]) :: r) lv (.int y3 :: .int y2 :: .int y1 :: .ref y0 :: st) cu su h = bindR (rec 158 0 [some (.ref y0), some (.int y1), some (.int y2), some (.int y3), none] [] 0 0 h) (fun h' r' => exS sc pp rec mi (pc + n) r lv (r'.toList ++ st) (cu) (su) h') := by
  simp [exS, ex1, doCall, lvE, cat_i, cat_r, cat_l, h8, hc, hs, hk]
  rfl
theorem K_159 {y0 : Nat} {y1 : Int32} {y2 : Int32} {ix p q c2 s2 : Nat} (hk : kd h y0 = 11) (h8 : (st.map fun v => v.category).sum ≤ 8) (hc : cu ≤ c2) (hs : su ≤ s2) : exS sc pp rec mi pc ((.invokevirtual ix, n, [159, 3, p, q, 3, 0, 0, c2, s2, 11]) :: r) lv (.int y2 :: .int y1 :: .ref y0 :: st) cu su h = bindR (rec 159 0 [some (.ref y0), some (.int y1), some (.int y2)] [] 0 0 h) (fun h' r' => exS sc pp rec mi (pc + n) r lv (r'.toList ++ st) (cu) (su) h') := by
  simp [exS, ex1, doCall, lvE, cat_i, cat_r, cat_l, h8, hc, hs, hk]
  rfl
theorem K_160 {y0 : Nat} {y1 : Int32} {y2 : Int32} {ix p q c2 s2 : Nat} (hk : kd h y0 = 11) (h8 : (st.map fun v => v.category).sum ≤ 8) (hc : cu ≤ c2) (hs : su ≤ s2) : exS sc pp rec mi pc ((.invokevirtual ix, n, [160, 3, p, q, 3, 0, 0, c2, s2, 11]) :: r) lv (.int y2 :: .int y1 :: .ref y0 :: st) cu su h = bindR (rec 160 0 [some (.ref y0), some (.int y1), some (.int y2)] [] 0 0 h) (fun h' r' => exS sc pp rec mi (pc + n) r lv (r'.toList ++ st) (cu) (su) h') := by
  simp [exS, ex1, doCall, lvE, cat_i, cat_r, cat_l, h8, hc, hs, hk]
  rfl
theorem K_161 {y0 : Nat} {y1 : Int32} {ix p q c2 s2 : Nat} (hk : kd h y0 = 12) (h8 : (st.map fun v => v.category).sum ≤ 8) (hc : cu ≤ c2) (hs : su ≤ s2) : exS sc pp rec mi pc ((.invokevirtual ix, n, [161, 2, p, q, 2, 0, 0, c2, s2, 12]) :: r) lv (.int y1 :: .ref y0 :: st) cu su h = bindR (rec 161 0 [some (.ref y0), some (.int y1)] [] 0 0 h) (fun h' r' => exS sc pp rec mi (pc + n) r lv (r'.toList ++ st) (cu) (su) h') := by
  simp [exS, ex1, doCall, lvE, cat_i, cat_r, cat_l, h8, hc, hs, hk]
  rfl
theorem K_162 {y0 : Nat} {y1 : Int32} {y2 : Int32} {ix p q c2 s2 : Nat} (hk : kd h y0 = 12) (h8 : (st.map fun v => v.category).sum ≤ 8) (hc : cu ≤ c2) (hs : su ≤ s2) : exS sc pp rec mi pc ((.invokevirtual ix, n, [162, 3, p, q, 3, 0, 0, c2, s2, 12]) :: r) lv (.int y2 :: .int y1 :: .ref y0 :: st) cu su h = bindR (rec 162 0 [some (.ref y0), some (.int y1), some (.int y2)] [] 0 0 h) (fun h' r' => exS sc pp rec mi (pc + n) r lv (r'.toList ++ st) (cu) (su) h') := by
  simp [exS, ex1, doCall, lvE, cat_i, cat_r, cat_l, h8, hc, hs, hk]
  rfl
theorem K_163 {y0 : Nat} {y1 : Int32} {y2 : Int32} {ix p q c2 s2 : Nat} (hk : kd h y0 = 11) (h8 : (st.map fun v => v.category).sum ≤ 8) (hc : cu ≤ c2) (hs : su ≤ s2) : exS sc pp rec mi pc ((.invokevirtual ix, n, [163, 3, p, q, 3, 0, 0, c2, s2, 11]) :: r) lv (.int y2 :: .int y1 :: .ref y0 :: st) cu su h = bindR (rec 163 0 [some (.ref y0), some (.int y1), some (.int y2)] [] 0 0 h) (fun h' r' => exS sc pp rec mi (pc + n) r lv (r'.toList ++ st) (cu) (su) h') := by
  simp [exS, ex1, doCall, lvE, cat_i, cat_r, cat_l, h8, hc, hs, hk]
  rfl
theorem K_164 {y0 : Nat} {y1 : Int32} {y2 : Int32} {ix p q c2 s2 : Nat} (hk : kd h y0 = 12) (h8 : (st.map fun v => v.category).sum ≤ 8) (hc : cu ≤ c2) (hs : su ≤ s2) : exS sc pp rec mi pc ((.invokevirtual ix, n, [164, 3, p, q, 3, 0, 0, c2, s2, 12]) :: r) lv (.int y2 :: .int y1 :: .ref y0 :: st) cu su h = bindR (rec 164 0 [some (.ref y0), some (.int y1), some (.int y2)] [] 0 0 h) (fun h' r' => exS sc pp rec mi (pc + n) r lv (r'.toList ++ st) (cu) (su) h') := by
  simp [exS, ex1, doCall, lvE, cat_i, cat_r, cat_l, h8, hc, hs, hk]
  rfl
theorem K_165 {y0 : Nat} {ix p q c2 s2 : Nat} (hk : kd h y0 = 11) (h8 : (st.map fun v => v.category).sum ≤ 8) (hc : cu ≤ c2) (hs : su ≤ s2) : exS sc pp rec mi pc ((.invokevirtual ix, n, [165, 1, p, q, 1, 0, 0, c2, s2, 11]) :: r) lv (.ref y0 :: st) cu su h = bindR (rec 165 0 [some (.ref y0)] [] 0 0 h) (fun h' r' => exS sc pp rec mi (pc + n) r lv (r'.toList ++ st) (cu) (su) h') := by
  simp [exS, ex1, doCall, lvE, cat_i, cat_r, cat_l, h8, hc, hs, hk]
  rfl
theorem K_166 {y0 : Nat} {ix p q c2 s2 : Nat} (hk : kd h y0 = 12) (h8 : (st.map fun v => v.category).sum ≤ 8) (hc : cu ≤ c2) (hs : su ≤ s2) : exS sc pp rec mi pc ((.invokevirtual ix, n, [166, 1, p, q, 2, 0, 0, c2, s2, 12]) :: r) lv (.ref y0 :: st) cu su h = bindR (rec 166 0 [some (.ref y0), none] [] 0 0 h) (fun h' r' => exS sc pp rec mi (pc + n) r lv (r'.toList ++ st) (cu) (su) h') := by
  simp [exS, ex1, doCall, lvE, cat_i, cat_r, cat_l, h8, hc, hs, hk]
  rfl
theorem K_167 {y0 : Nat} {ix p q c2 s2 : Nat} (hk : kd h y0 = 11) (h8 : (st.map fun v => v.category).sum ≤ 8) (hc : cu ≤ c2) (hs : su ≤ s2) : exS sc pp rec mi pc ((.invokevirtual ix, n, [167, 1, p, q, 1, 0, 0, c2, s2, 11]) :: r) lv (.ref y0 :: st) cu su h = bindR (rec 167 0 [some (.ref y0)] [] 0 0 h) (fun h' r' => exS sc pp rec mi (pc + n) r lv (r'.toList ++ st) (cu) (su) h') := by
  simp [exS, ex1, doCall, lvE, cat_i, cat_r, cat_l, h8, hc, hs, hk]
  rfl
theorem K_168 {y0 : Nat} {ix p q c2 s2 : Nat} (hk : kd h y0 = 8) (h8 : (st.map fun v => v.category).sum ≤ 8) (hc : cu ≤ c2) (hs : su ≤ s2) : exS sc pp rec mi pc ((.invokevirtual ix, n, [168, 1, p, q, 3, 0, 0, c2, s2, 8]) :: r) lv (.ref y0 :: st) cu su h = bindR (rec 168 0 [some (.ref y0), none, none] [] 0 0 h) (fun h' r' => exS sc pp rec mi (pc + n) r lv (r'.toList ++ st) (cu) (su) h') := by
  simp [exS, ex1, doCall, lvE, cat_i, cat_r, cat_l, h8, hc, hs, hk]
  rfl
theorem K_169 {y0 : Nat} {y1 : Nat} {ix p q c2 s2 : Nat} (hk : kd h y0 = 6) (h8 : (st.map fun v => v.category).sum ≤ 8) (hc : cu ≤ c2) (hs : su ≤ s2) : exS sc pp rec mi pc ((.invokevirtual ix, n, [169, 2, p, q, 7, 0, 0, c2, s2, 6]) :: r) lv (.ref y1 :: .ref y0 :: st) cu su h = bindR (rec 169 0 [some (.ref y0), some (.ref y1), none, none, none, none, none] [] 0 0 h) (fun h' r' => exS sc pp rec mi (pc + n) r lv (r'.toList ++ st) (cu) (su) h') := by
  simp [exS, ex1, doCall, lvE, cat_i, cat_r, cat_l, h8, hc, hs, hk]
  rfl
theorem K_170 {y0 : Nat} {y1 : Int32} {ix p q c2 s2 : Nat} (hk : kd h y0 = 11) (h8 : (st.map fun v => v.category).sum ≤ 8) (hc : cu ≤ c2) (hs : su ≤ s2) : exS sc pp rec mi pc ((.invokevirtual ix, n, [170, 2, p, q, 3, 0, 0, c2, s2, 11]) :: r) lv (.int y1 :: .ref y0 :: st) cu su h = bindR (rec 170 0 [some (.ref y0), some (.int y1), none] [] 0 0 h) (fun h' r' => exS sc pp rec mi (pc + n) r lv (r'.toList ++ st) (cu) (su) h') := by
  simp [exS, ex1, doCall, lvE, cat_i, cat_r, cat_l, h8, hc, hs, hk]
  rfl
theorem K_171 {y0 : Nat} {ix p q c2 s2 : Nat} (hk : kd h y0 = 12) (h8 : (st.map fun v => v.category).sum ≤ 8) (hc : cu ≤ c2) (hs : su ≤ s2) : exS sc pp rec mi pc ((.invokevirtual ix, n, [171, 1, p, q, 2, 0, 0, c2, s2, 12]) :: r) lv (.ref y0 :: st) cu su h = bindR (rec 171 0 [some (.ref y0), none] [] 0 0 h) (fun h' r' => exS sc pp rec mi (pc + n) r lv (r'.toList ++ st) (cu) (su) h') := by
  simp [exS, ex1, doCall, lvE, cat_i, cat_r, cat_l, h8, hc, hs, hk]
  rfl
theorem K_172 {y0 : Nat} {y1 : Int32} {ix p q c2 s2 : Nat} (hk : kd h y0 = 12) (h8 : (st.map fun v => v.category).sum ≤ 8) (hc : cu ≤ c2) (hs : su ≤ s2) : exS sc pp rec mi pc ((.invokevirtual ix, n, [172, 2, p, q, 4, 0, 0, c2, s2, 12]) :: r) lv (.int y1 :: .ref y0 :: st) cu su h = bindR (rec 172 0 [some (.ref y0), some (.int y1), none, none] [] 0 0 h) (fun h' r' => exS sc pp rec mi (pc + n) r lv (r'.toList ++ st) (cu) (su) h') := by
  simp [exS, ex1, doCall, lvE, cat_i, cat_r, cat_l, h8, hc, hs, hk]
  rfl
theorem K_173 {y0 : Nat} {ix p q c2 s2 : Nat} (hk : kd h y0 = 12) (h8 : (st.map fun v => v.category).sum ≤ 8) (hc : cu ≤ c2) (hs : su ≤ s2) : exS sc pp rec mi pc ((.invokevirtual ix, n, [173, 1, p, q, 7, 0, 0, c2, s2, 12]) :: r) lv (.ref y0 :: st) cu su h = bindR (rec 173 0 [some (.ref y0), none, none, none, none, none, none] [] 0 0 h) (fun h' r' => exS sc pp rec mi (pc + n) r lv (r'.toList ++ st) (cu) (su) h') := by
  simp [exS, ex1, doCall, lvE, cat_i, cat_r, cat_l, h8, hc, hs, hk]
  rfl
theorem K_174 {y0 : Nat} {y1 : Int32} {ix p q c2 s2 : Nat} (hk : kd h y0 = 12) (h8 : (st.map fun v => v.category).sum ≤ 8) (hc : cu ≤ c2) (hs : su ≤ s2) : exS sc pp rec mi pc ((.invokevirtual ix, n, [174, 2, p, q, 2, 0, 0, c2, s2, 12]) :: r) lv (.int y1 :: .ref y0 :: st) cu su h = bindR (rec 174 0 [some (.ref y0), some (.int y1)] [] 0 0 h) (fun h' r' => exS sc pp rec mi (pc + n) r lv (r'.toList ++ st) (cu) (su) h') := by
  simp [exS, ex1, doCall, lvE, cat_i, cat_r, cat_l, h8, hc, hs, hk]
  rfl
theorem K_175 {y0 : Nat} {y1 : Int32} {y2 : Int32} {ix p q c2 s2 : Nat} (hk : kd h y0 = 11) (h8 : (st.map fun v => v.category).sum ≤ 8) (hc : cu ≤ c2) (hs : su ≤ s2) : exS sc pp rec mi pc ((.invokevirtual ix, n, [175, 3, p, q, 4, 0, 0, c2, s2, 11]) :: r) lv (.int y2 :: .int y1 :: .ref y0 :: st) cu su h = bindR (rec 175 0 [some (.ref y0), some (.int y1), some (.int y2), none] [] 0 0 h) (fun h' r' => exS sc pp rec mi (pc + n) r lv (r'.toList ++ st) (cu) (su) h') := by
  simp [exS, ex1, doCall, lvE, cat_i, cat_r, cat_l, h8, hc, hs, hk]
  rfl
theorem K_176 {y0 : Nat} {y1 : Int32} {y2 : Int32} {y3 : Int32} {ix p q c2 s2 : Nat} (hk : kd h y0 = 12) (h8 : (st.map fun v => v.category).sum ≤ 8) (hc : cu ≤ c2) (hs : su ≤ s2) : exS sc pp rec mi pc ((.invokevirtual ix, n, [176, 4, p, q, 5, 0, 0, c2, s2, 12]) :: r) lv (.int y3 :: .int y2 :: .int y1 :: .ref y0 :: st) cu su h = bindR (rec 176 0 [some (.ref y0), some (.int y1), some (.int y2), some (.int y3), none] [] 0 0 h) (fun h' r' => exS sc pp rec mi (pc + n) r lv (r'.toList ++ st) (cu) (su) h') := by
  simp [exS, ex1, doCall, lvE, cat_i, cat_r, cat_l, h8, hc, hs, hk]
  rfl
theorem K_177 {y0 : Nat} {y1 : Int32} {y2 : Int32} {ix p q c2 s2 : Nat} (hk : kd h y0 = 12) (h8 : (st.map fun v => v.category).sum ≤ 8) (hc : cu ≤ c2) (hs : su ≤ s2) : exS sc pp rec mi pc ((.invokevirtual ix, n, [177, 3, p, q, 3, 0, 0, c2, s2, 12]) :: r) lv (.int y2 :: .int y1 :: .ref y0 :: st) cu su h = bindR (rec 177 0 [some (.ref y0), some (.int y1), some (.int y2)] [] 0 0 h) (fun h' r' => exS sc pp rec mi (pc + n) r lv (r'.toList ++ st) (cu) (su) h') := by
  simp [exS, ex1, doCall, lvE, cat_i, cat_r, cat_l, h8, hc, hs, hk]
  rfl
theorem K_178 {y0 : Nat} {y1 : Int32} {y2 : Int32} {y3 : Int32} {ix p q c2 s2 : Nat} (hk : kd h y0 = 11) (h8 : (st.map fun v => v.category).sum ≤ 8) (hc : cu ≤ c2) (hs : su ≤ s2) : exS sc pp rec mi pc ((.invokevirtual ix, n, [178, 4, p, q, 5, 0, 0, c2, s2, 11]) :: r) lv (.int y3 :: .int y2 :: .int y1 :: .ref y0 :: st) cu su h = bindR (rec 178 0 [some (.ref y0), some (.int y1), some (.int y2), some (.int y3), none] [] 0 0 h) (fun h' r' => exS sc pp rec mi (pc + n) r lv (r'.toList ++ st) (cu) (su) h') := by
  simp [exS, ex1, doCall, lvE, cat_i, cat_r, cat_l, h8, hc, hs, hk]
  rfl
theorem K_179 {y0 : Nat} {y1 : Int32} {y2 : Int32} {ix p q c2 s2 : Nat} (hk : kd h y0 = 11) (h8 : (st.map fun v => v.category).sum ≤ 8) (hc : cu ≤ c2) (hs : su ≤ s2) : exS sc pp rec mi pc ((.invokevirtual ix, n, [179, 3, p, q, 6, 0, 0, c2, s2, 11]) :: r) lv (.int y2 :: .int y1 :: .ref y0 :: st) cu su h = bindR (rec 179 0 [some (.ref y0), some (.int y1), some (.int y2), none, none, none] [] 0 0 h) (fun h' r' => exS sc pp rec mi (pc + n) r lv (r'.toList ++ st) (cu) (su) h') := by
  simp [exS, ex1, doCall, lvE, cat_i, cat_r, cat_l, h8, hc, hs, hk]
  rfl
theorem K_180 {y0 : Nat} {y1 : Int32} {y2 : Int32} {ix p q c2 s2 : Nat} (hk : kd h y0 = 12) (h8 : (st.map fun v => v.category).sum ≤ 8) (hc : cu ≤ c2) (hs : su ≤ s2) : exS sc pp rec mi pc ((.invokevirtual ix, n, [180, 3, p, q, 5, 0, 0, c2, s2, 12]) :: r) lv (.int y2 :: .int y1 :: .ref y0 :: st) cu su h = bindR (rec 180 0 [some (.ref y0), some (.int y1), some (.int y2), none, none] [] 0 0 h) (fun h' r' => exS sc pp rec mi (pc + n) r lv (r'.toList ++ st) (cu) (su) h') := by
  simp [exS, ex1, doCall, lvE, cat_i, cat_r, cat_l, h8, hc, hs, hk]
  rfl
theorem K_181 {y0 : Nat} {y1 : Int32} {ix p q c2 s2 : Nat} (hk : kd h y0 = 8) (h8 : (st.map fun v => v.category).sum ≤ 8) (hc : cu ≤ c2) (hs : su ≤ s2) : exS sc pp rec mi pc ((.invokevirtual ix, n, [181, 2, p, q, 4, 0, 0, c2, s2, 8]) :: r) lv (.int y1 :: .ref y0 :: st) cu su h = bindR (rec 181 0 [some (.ref y0), some (.int y1), none, none] [] 0 0 h) (fun h' r' => exS sc pp rec mi (pc + n) r lv (r'.toList ++ st) (cu) (su) h') := by
  simp [exS, ex1, doCall, lvE, cat_i, cat_r, cat_l, h8, hc, hs, hk]
  rfl
theorem K_182 {y0 : Nat} {y1 : Int32} {ix p q c2 s2 : Nat} (hk : kd h y0 = 11) (h8 : (st.map fun v => v.category).sum ≤ 8) (hc : cu ≤ c2) (hs : su ≤ s2) : exS sc pp rec mi pc ((.invokevirtual ix, n, [182, 2, p, q, 3, 0, 0, c2, s2, 11]) :: r) lv (.int y1 :: .ref y0 :: st) cu su h = bindR (rec 182 0 [some (.ref y0), some (.int y1), none] [] 0 0 h) (fun h' r' => exS sc pp rec mi (pc + n) r lv (r'.toList ++ st) (cu) (su) h') := by
  simp [exS, ex1, doCall, lvE, cat_i, cat_r, cat_l, h8, hc, hs, hk]
  rfl
theorem K_183 {y0 : Nat} {y1 : Int32} {ix p q c2 s2 : Nat} (hk : kd h y0 = 12) (h8 : (st.map fun v => v.category).sum ≤ 8) (hc : cu ≤ c2) (hs : su ≤ s2) : exS sc pp rec mi pc ((.invokevirtual ix, n, [183, 2, p, q, 4, 0, 0, c2, s2, 12]) :: r) lv (.int y1 :: .ref y0 :: st) cu su h = bindR (rec 183 0 [some (.ref y0), some (.int y1), none, none] [] 0 0 h) (fun h' r' => exS sc pp rec mi (pc + n) r lv (r'.toList ++ st) (cu) (su) h') := by
  simp [exS, ex1, doCall, lvE, cat_i, cat_r, cat_l, h8, hc, hs, hk]
  rfl
theorem K_184 {y0 : Nat} {y1 : Int32} {y2 : Int32} {y3 : Int32} {y4 : Int32} {ix p q c2 s2 : Nat} (hk : kd h y0 = 11) (h8 : (st.map fun v => v.category).sum ≤ 8) (hc : cu ≤ c2) (hs : su ≤ s2) : exS sc pp rec mi pc ((.invokevirtual ix, n, [184, 5, p, q, 6, 0, 0, c2, s2, 11]) :: r) lv (.int y4 :: .int y3 :: .int y2 :: .int y1 :: .ref y0 :: st) cu su h = bindR (rec 184 0 [some (.ref y0), some (.int y1), some (.int y2), some (.int y3), some (.int y4), none] [] 0 0 h) (fun h' r' => exS sc pp rec mi (pc + n) r lv (r'.toList ++ st) (cu) (su) h') := by
  simp [exS, ex1, doCall, lvE, cat_i, cat_r, cat_l, h8, hc, hs, hk]
  rfl
theorem K_185 {y0 : Nat} {y1 : Int32} {y2 : Int32} {y3 : Int32} {ix p q c2 s2 : Nat} (hk : kd h y0 = 11) (h8 : (st.map fun v => v.category).sum ≤ 8) (hc : cu ≤ c2) (hs : su ≤ s2) : exS sc pp rec mi pc ((.invokevirtual ix, n, [185, 4, p, q, 7, 0, 0, c2, s2, 11]) :: r) lv (.int y3 :: .int y2 :: .int y1 :: .ref y0 :: st) cu su h = bindR (rec 185 0 [some (.ref y0), some (.int y1), some (.int y2), some (.int y3), none, none, none] [] 0 0 h) (fun h' r' => exS sc pp rec mi (pc + n) r lv (r'.toList ++ st) (cu) (su) h') := by
  simp [exS, ex1, doCall, lvE, cat_i, cat_r, cat_l, h8, hc, hs, hk]
  rfl
theorem K_186 {y0 : Nat} {y1 : Int32} {y2 : Int32} {y3 : Int32} {ix p q c2 s2 : Nat} (hk : kd h y0 = 12) (h8 : (st.map fun v => v.category).sum ≤ 8) (hc : cu ≤ c2) (hs : su ≤ s2) : exS sc pp rec mi pc ((.invokevirtual ix, n, [186, 4, p, q, 7, 0, 0, c2, s2, 12]) :: r) lv (.int y3 :: .int y2 :: .int y1 :: .ref y0 :: st) cu su h = bindR (rec 186 0 [some (.ref y0), some (.int y1), some (.int y2), some (.int y3), none, none, none] [] 0 0 h) (fun h' r' => exS sc pp rec mi (pc + n) r lv (r'.toList ++ st) (cu) (su) h') := by
  simp [exS, ex1, doCall, lvE, cat_i, cat_r, cat_l, h8, hc, hs, hk]
  rfl
theorem K_187 {y0 : Nat} {y1 : Int32} {y2 : Int32} {ix p q c2 s2 : Nat} (hk : kd h y0 = 11) (h8 : (st.map fun v => v.category).sum ≤ 8) (hc : cu ≤ c2) (hs : su ≤ s2) : exS sc pp rec mi pc ((.invokevirtual ix, n, [187, 3, p, q, 4, 0, 0, c2, s2, 11]) :: r) lv (.int y2 :: .int y1 :: .ref y0 :: st) cu su h = bindR (rec 187 0 [some (.ref y0), some (.int y1), some (.int y2), none] [] 0 0 h) (fun h' r' => exS sc pp rec mi (pc + n) r lv (r'.toList ++ st) (cu) (su) h') := by
  simp [exS, ex1, doCall, lvE, cat_i, cat_r, cat_l, h8, hc, hs, hk]
  rfl
theorem K_188 {y0 : Nat} {y1 : Int32} {ix p q c2 s2 : Nat} (hk : kd h y0 = 11) (h8 : (st.map fun v => v.category).sum ≤ 8) (hc : cu ≤ c2) (hs : su ≤ s2) : exS sc pp rec mi pc ((.invokevirtual ix, n, [188, 2, p, q, 4, 0, 0, c2, s2, 11]) :: r) lv (.int y1 :: .ref y0 :: st) cu su h = bindR (rec 188 0 [some (.ref y0), some (.int y1), none, none] [] 0 0 h) (fun h' r' => exS sc pp rec mi (pc + n) r lv (r'.toList ++ st) (cu) (su) h') := by
  simp [exS, ex1, doCall, lvE, cat_i, cat_r, cat_l, h8, hc, hs, hk]
  rfl
theorem K_189 {y0 : Nat} {y1 : Int32} {ix p q c2 s2 : Nat} (hk : kd h y0 = 12) (h8 : (st.map fun v => v.category).sum ≤ 8) (hc : cu ≤ c2) (hs : su ≤ s2) : exS sc pp rec mi pc ((.invokevirtual ix, n, [189, 2, p, q, 5, 0, 0, c2, s2, 12]) :: r) lv (.int y1 :: .ref y0 :: st) cu su h = bindR (rec 189 0 [some (.ref y0), some (.int y1), none, none, none] [] 0 0 h) (fun h' r' => exS sc pp rec mi (pc + n) r lv (r'.toList ++ st) (cu) (su) h') := by
  simp [exS, ex1, doCall, lvE, cat_i, cat_r, cat_l, h8, hc, hs, hk]
  rfl
theorem K_190 {y0 : Nat} {y1 : Int32} {y2 : Int32} {ix p q c2 s2 : Nat} (hk : kd h y0 = 11) (h8 : (st.map fun v => v.category).sum ≤ 8) (hc : cu ≤ c2) (hs : su ≤ s2) : exS sc pp rec mi pc ((.invokevirtual ix, n, [190, 3, p, q, 4, 0, 0, c2, s2, 11]) :: r) lv (.int y2 :: .int y1 :: .ref y0 :: st) cu su h = bindR (rec 190 0 [some (.ref y0), some (.int y1), some (.int y2), none] [] 0 0 h) (fun h' r' => exS sc pp rec mi (pc + n) r lv (r'.toList ++ st) (cu) (su) h') := by
  simp [exS, ex1, doCall, lvE, cat_i, cat_r, cat_l, h8, hc, hs, hk]
  rfl
theorem K_191 {y0 : Nat} {y1 : Int32} {y2 : Int32} {ix p q c2 s2 : Nat} (hk : kd h y0 = 11) (h8 : (st.map fun v => v.category).sum ≤ 8) (hc : cu ≤ c2) (hs : su ≤ s2) : exS sc pp rec mi pc ((.invokevirtual ix, n, [191, 3, p, q, 3, 0, 0, c2, s2, 11]) :: r) lv (.int y2 :: .int y1 :: .ref y0 :: st) cu su h = bindR (rec 191 0 [some (.ref y0), some (.int y1), some (.int y2)] [] 0 0 h) (fun h' r' => exS sc pp rec mi (pc + n) r lv (r'.toList ++ st) (cu) (su) h') := by
  simp [exS, ex1, doCall, lvE, cat_i, cat_r, cat_l, h8, hc, hs, hk]
  rfl
theorem K_192 {y0 : Nat} {y1 : Int32} {y2 : Int32} {ix p q c2 s2 : Nat} (hk : kd h y0 = 12) (h8 : (st.map fun v => v.category).sum ≤ 8) (hc : cu ≤ c2) (hs : su ≤ s2) : exS sc pp rec mi pc ((.invokevirtual ix, n, [192, 3, p, q, 3, 0, 0, c2, s2, 12]) :: r) lv (.int y2 :: .int y1 :: .ref y0 :: st) cu su h = bindR (rec 192 0 [some (.ref y0), some (.int y1), some (.int y2)] [] 0 0 h) (fun h' r' => exS sc pp rec mi (pc + n) r lv (r'.toList ++ st) (cu) (su) h') := by
  simp [exS, ex1, doCall, lvE, cat_i, cat_r, cat_l, h8, hc, hs, hk]
  rfl
theorem K_193 {y0 : Nat} {y1 : Int32} {y2 : Int32} {ix p q c2 s2 : Nat} (hk : kd h y0 = 12) (h8 : (st.map fun v => v.category).sum ≤ 8) (hc : cu ≤ c2) (hs : su ≤ s2) : exS sc pp rec mi pc ((.invokevirtual ix, n, [193, 3, p, q, 3, 0, 0, c2, s2, 12]) :: r) lv (.int y2 :: .int y1 :: .ref y0 :: st) cu su h = bindR (rec 193 0 [some (.ref y0), some (.int y1), some (.int y2)] [] 0 0 h) (fun h' r' => exS sc pp rec mi (pc + n) r lv (r'.toList ++ st) (cu) (su) h') := by
  simp [exS, ex1, doCall, lvE, cat_i, cat_r, cat_l, h8, hc, hs, hk]
  rfl
theorem K_194 {y0 : Nat} {y1 : Int32} {ix p q c2 s2 : Nat} (hk : kd h y0 = 11) (h8 : (st.map fun v => v.category).sum ≤ 8) (hc : cu ≤ c2) (hs : su ≤ s2) : exS sc pp rec mi pc ((.invokevirtual ix, n, [194, 2, p, q, 6, 0, 0, c2, s2, 11]) :: r) lv (.int y1 :: .ref y0 :: st) cu su h = bindR (rec 194 0 [some (.ref y0), some (.int y1), none, none, none, none] [] 0 0 h) (fun h' r' => exS sc pp rec mi (pc + n) r lv (r'.toList ++ st) (cu) (su) h') := by
  simp [exS, ex1, doCall, lvE, cat_i, cat_r, cat_l, h8, hc, hs, hk]
  rfl
theorem K_195 {y0 : Nat} {y1 : Int32} {ix p q c2 s2 : Nat} (hk : kd h y0 = 12) (h8 : (st.map fun v => v.category).sum ≤ 8) (hc : cu ≤ c2) (hs : su ≤ s2) : exS sc pp rec mi pc ((.invokevirtual ix, n, [195, 2, p, q, 4, 0, 0, c2, s2, 12]) :: r) lv (.int y1 :: .ref y0 :: st) cu su h = bindR (rec 195 0 [some (.ref y0), some (.int y1), none, none] [] 0 0 h) (fun h' r' => exS sc pp rec mi (pc + n) r lv (r'.toList ++ st) (cu) (su) h') := by
  simp [exS, ex1, doCall, lvE, cat_i, cat_r, cat_l, h8, hc, hs, hk]
  rfl
theorem K_196 {y0 : Nat} {y1 : Int32} {y2 : Int32} {y3 : Int32} {y4 : Int32} {ix p q c2 s2 : Nat} (hk : kd h y0 = 11) (h8 : (st.map fun v => v.category).sum ≤ 8) (hc : cu ≤ c2) (hs : su ≤ s2) : exS sc pp rec mi pc ((.invokevirtual ix, n, [196, 5, p, q, 5, 0, 0, c2, s2, 11]) :: r) lv (.int y4 :: .int y3 :: .int y2 :: .int y1 :: .ref y0 :: st) cu su h = bindR (rec 196 0 [some (.ref y0), some (.int y1), some (.int y2), some (.int y3), some (.int y4)] [] 0 0 h) (fun h' r' => exS sc pp rec mi (pc + n) r lv (r'.toList ++ st) (cu) (su) h') := by
  simp [exS, ex1, doCall, lvE, cat_i, cat_r, cat_l, h8, hc, hs, hk]
  rfl
theorem K_197 {y0 : Nat} {y1 : Int32} {y2 : Int32} {y3 : Int32} {ix p q c2 s2 : Nat} (hk : kd h y0 = 7) (h8 : (st.map fun v => v.category).sum ≤ 8) (hc : cu ≤ c2) (hs : su ≤ s2) : exS sc pp rec mi pc ((.invokevirtual ix, n, [197, 4, p, q, 4, 0, 0, c2, s2, 7]) :: r) lv (.int y3 :: .int y2 :: .int y1 :: .ref y0 :: st) cu su h = bindR (rec 197 0 [some (.ref y0), some (.int y1), some (.int y2), some (.int y3)] [] 0 0 h) (fun h' r' => exS sc pp rec mi (pc + n) r lv (r'.toList ++ st) (cu) (su) h') := by
  simp [exS, ex1, doCall, lvE, cat_i, cat_r, cat_l, h8, hc, hs, hk]
  rfl
theorem K_198 {y0 : Nat} {y1 : Nat} {y2 : Int32} {ix p q c2 s2 : Nat} (hk : kd h y0 = 7) (h8 : (st.map fun v => v.category).sum ≤ 8) (hc : cu ≤ c2) (hs : su ≤ s2) : exS sc pp rec mi pc ((.invokevirtual ix, n, [198, 3, p, q, 3, 0, 0, c2, s2, 7]) :: r) lv (.int y2 :: .ref y1 :: .ref y0 :: st) cu su h = bindR (rec 198 0 [some (.ref y0), some (.ref y1), some (.int y2)] [] 0 0 h) (fun h' r' => exS sc pp rec mi (pc + n) r lv (r'.toList ++ st) (cu) (su) h') := by
  simp [exS, ex1, doCall, lvE, cat_i, cat_r, cat_l, h8, hc, hs, hk]
  rfl
theorem K_199 {y0 : Nat} {y1 : Nat} {y2 : Nat} {y3 : Int32} {ix p q c2 s2 : Nat} (hk : kd h y0 = 7) (h8 : (st.map fun v => v.category).sum ≤ 8) (hc : cu ≤ c2) (hs : su ≤ s2) : exS sc pp rec mi pc ((.invokevirtual ix, n, [199, 4, p, q, 8, 0, 0, c2, s2, 7]) :: r) lv (.int y3 :: .ref y2 :: .ref y1 :: .ref y0 :: st) cu su h = bindR (rec 199 0 [some (.ref y0), some (.ref y1), some (.ref y2), some (.int y3), none, none, none, none] [] 0 0 h) (fun h' r' => exS sc pp rec mi (pc + n) r lv (r'.toList ++ st) (cu) (su) h') := by
  simp [exS, ex1, doCall, lvE, cat_i, cat_r, cat_l, h8, hc, hs, hk]
  rfl
theorem K_200 {y0 : Nat} {y1 : Nat} {y2 : Nat} {y3 : Int32} {ix p q c2 s2 : Nat} (hk : kd h y0 = 7) (h8 : (st.map fun v => v.category).sum ≤ 8) (hc : cu ≤ c2) (hs : su ≤ s2) : exS sc pp rec mi pc ((.invokevirtual ix, n, [200, 4, p, q, 8, 0, 0, c2, s2, 7]) :: r) lv (.int y3 :: .ref y2 :: .ref y1 :: .ref y0 :: st) cu su h = bindR (rec 200 0 [some (.ref y0), some (.ref y1), some (.ref y2), some (.int y3), none, none, none, none] [] 0 0 h) (fun h' r' => exS sc pp rec mi (pc + n) r lv (r'.toList ++ st) (cu) (su) h') := by
  simp [exS, ex1, doCall, lvE, cat_i, cat_r, cat_l, h8, hc, hs, hk]
  rfl
theorem K_201 {y0 : Nat} {y1 : Int32} {y2 : Int32} {y3 : Int32} {y4 : Int32} {ix p q c2 s2 : Nat} (hk : kd h y0 = 11) (h8 : (st.map fun v => v.category).sum ≤ 8) (hc : cu ≤ c2) (hs : su ≤ s2) : exS sc pp rec mi pc ((.invokevirtual ix, n, [201, 5, p, q, 5, 0, 0, c2, s2, 11]) :: r) lv (.int y4 :: .int y3 :: .int y2 :: .int y1 :: .ref y0 :: st) cu su h = bindR (rec 201 0 [some (.ref y0), some (.int y1), some (.int y2), some (.int y3), some (.int y4)] [] 0 0 h) (fun h' r' => exS sc pp rec mi (pc + n) r lv (r'.toList ++ st) (cu) (su) h') := by
  simp [exS, ex1, doCall, lvE, cat_i, cat_r, cat_l, h8, hc, hs, hk]
  rfl
theorem K_202 {y0 : Nat} {y1 : Int32} {y2 : Int32} {y3 : Int32} {y4 : Int32} {ix p q c2 s2 : Nat} (hk : kd h y0 = 12) (h8 : (st.map fun v => v.category).sum ≤ 8) (hc : cu ≤ c2) (hs : su ≤ s2) : exS sc pp rec mi pc ((.invokevirtual ix, n, [202, 5, p, q, 5, 0, 0, c2, s2, 12]) :: r) lv (.int y4 :: .int y3 :: .int y2 :: .int y1 :: .ref y0 :: st) cu su h = bindR (rec 202 0 [some (.ref y0), some (.int y1), some (.int y2), some (.int y3), some (.int y4)] [] 0 0 h) (fun h' r' => exS sc pp rec mi (pc + n) r lv (r'.toList ++ st) (cu) (su) h') := by
  simp [exS, ex1, doCall, lvE, cat_i, cat_r, cat_l, h8, hc, hs, hk]
  rfl
theorem K_203 {y0 : Nat} {ix p q c2 s2 : Nat} (hk : kd h y0 = 12) (h8 : (st.map fun v => v.category).sum ≤ 8) (hc : cu ≤ c2) (hs : su ≤ s2) : exS sc pp rec mi pc ((.invokevirtual ix, n, [203, 1, p, q, 1, 0, 0, c2, s2, 12]) :: r) lv (.ref y0 :: st) cu su h = bindR (rec 203 0 [some (.ref y0)] [] 0 0 h) (fun h' r' => exS sc pp rec mi (pc + n) r lv (r'.toList ++ st) (cu) (su) h') := by
  simp [exS, ex1, doCall, lvE, cat_i, cat_r, cat_l, h8, hc, hs, hk]
  rfl
theorem K_204 {y0 : Nat} {y1 : Int32} {ix p q c2 s2 : Nat} (hk : kd h y0 = 12) (h8 : (st.map fun v => v.category).sum ≤ 8) (hc : cu ≤ c2) (hs : su ≤ s2) : exS sc pp rec mi pc ((.invokevirtual ix, n, [204, 2, p, q, 2, 0, 0, c2, s2, 12]) :: r) lv (.int y1 :: .ref y0 :: st) cu su h = bindR (rec 204 0 [some (.ref y0), some (.int y1)] [] 0 0 h) (fun h' r' => exS sc pp rec mi (pc + n) r lv (r'.toList ++ st) (cu) (su) h') := by
  simp [exS, ex1, doCall, lvE, cat_i, cat_r, cat_l, h8, hc, hs, hk]
  rfl
theorem K_205 {y0 : Nat} {y1 : Int32} {ix p q c2 s2 : Nat} (hk : kd h y0 = 12) (h8 : (st.map fun v => v.category).sum ≤ 8) (hc : cu ≤ c2) (hs : su ≤ s2) : exS sc pp rec mi pc ((.invokevirtual ix, n, [205, 2, p, q, 2, 0, 0, c2, s2, 12]) :: r) lv (.int y1 :: .ref y0 :: st) cu su h = bindR (rec 205 0 [some (.ref y0), some (.int y1)] [] 0 0 h) (fun h' r' => exS sc pp rec mi (pc + n) r lv (r'.toList ++ st) (cu) (su) h') := by
  simp [exS, ex1, doCall, lvE, cat_i, cat_r, cat_l, h8, hc, hs, hk]
  rfl
theorem K_206 {y0 : Nat} {y1 : Int32} {ix p q c2 s2 : Nat} (hk : kd h y0 = 12) (h8 : (st.map fun v => v.category).sum ≤ 8) (hc : cu ≤ c2) (hs : su ≤ s2) : exS sc pp rec mi pc ((.invokevirtual ix, n, [206, 2, p, q, 2, 0, 0, c2, s2, 12]) :: r) lv (.int y1 :: .ref y0 :: st) cu su h = bindR (rec 206 0 [some (.ref y0), some (.int y1)] [] 0 0 h) (fun h' r' => exS sc pp rec mi (pc + n) r lv (r'.toList ++ st) (cu) (su) h') := by
  simp [exS, ex1, doCall, lvE, cat_i, cat_r, cat_l, h8, hc, hs, hk]
  rfl
theorem K_207 {y0 : Nat} {y1 : Int32} {ix p q c2 s2 : Nat} (hk : kd h y0 = 12) (h8 : (st.map fun v => v.category).sum ≤ 8) (hc : cu ≤ c2) (hs : su ≤ s2) : exS sc pp rec mi pc ((.invokevirtual ix, n, [207, 2, p, q, 6, 0, 0, c2, s2, 12]) :: r) lv (.int y1 :: .ref y0 :: st) cu su h = bindR (rec 207 0 [some (.ref y0), some (.int y1), none, none, none, none] [] 0 0 h) (fun h' r' => exS sc pp rec mi (pc + n) r lv (r'.toList ++ st) (cu) (su) h') := by
  simp [exS, ex1, doCall, lvE, cat_i, cat_r, cat_l, h8, hc, hs, hk]
  rfl
theorem K_208 {y0 : Nat} {y1 : Int32} {y2 : Int32} {y3 : Int32} {ix p q c2 s2 : Nat} (hk : kd h y0 = 12) (h8 : (st.map fun v => v.category).sum ≤ 8) (hc : cu ≤ c2) (hs : su ≤ s2) : exS sc pp rec mi pc ((.invokevirtual ix, n, [208, 4, p, q, 5, 0, 0, c2, s2, 12]) :: r) lv (.int y3 :: .int y2 :: .int y1 :: .ref y0 :: st) cu su h = bindR (rec 208 0 [some (.ref y0), some (.int y1), some (.int y2), some (.int y3), none] [] 0 0 h) (fun h' r' => exS sc pp rec mi (pc + n) r lv (r'.toList ++ st) (cu) (su) h') := by
  simp [exS, ex1, doCall, lvE, cat_i, cat_r, cat_l, h8, hc, hs, hk]
  rfl
theorem K_209 {y0 : Nat} {y1 : Int32} {y2 : Int32} {y3 : Int32} {y4 : Int32} {ix p q c2 s2 : Nat} (hk : kd h y0 = 12) (h8 : (st.map fun v => v.category).sum ≤ 8) (hc : cu ≤ c2) (hs : su ≤ s2) : exS sc pp rec mi pc ((.invokevirtual ix, n, [209, 5, p, q, 8, 0, 0, c2, s2, 12]) :: r) lv (.int y4 :: .int y3 :: .int y2 :: .int y1 :: .ref y0 :: st) cu su h = bindR (rec 209 0 [some (.ref y0), some (.int y1), some (.int y2), some (.int y3), some (.int y4), none, none, none] [] 0 0 h) (fun h' r' => exS sc pp rec mi (pc + n) r lv (r'.toList ++ st) (cu) (su) h') := by
  simp [exS, ex1, doCall, lvE, cat_i, cat_r, cat_l, h8, hc, hs, hk]
  rfl
theorem K_210 {y0 : Nat} {y1 : Int32} {y2 : Int32} {y3 : Int32} {y4 : Int32} {ix p q c2 s2 : Nat} (hk : kd h y0 = 12) (h8 : (st.map fun v => v.category).sum ≤ 8) (hc : cu ≤ c2) (hs : su ≤ s2) : exS sc pp rec mi pc ((.invokevirtual ix, n, [210, 5, p, q, 5, 0, 0, c2, s2, 12]) :: r) lv (.int y4 :: .int y3 :: .int y2 :: .int y1 :: .ref y0 :: st) cu su h = bindR (rec 210 0 [some (.ref y0), some (.int y1), some (.int y2), some (.int y3), some (.int y4)] [] 0 0 h) (fun h' r' => exS sc pp rec mi (pc + n) r lv (r'.toList ++ st) (cu) (su) h') := by
  simp [exS, ex1, doCall, lvE, cat_i, cat_r, cat_l, h8, hc, hs, hk]
  rfl
theorem K_211 {y0 : Nat} {y1 : Int32} {y2 : Int32} {y3 : Int32} {y4 : Int32} {y5 : Int32} {ix p q c2 s2 : Nat} (hk : kd h y0 = 11) (h8 : (st.map fun v => v.category).sum ≤ 8) (hc : cu ≤ c2) (hs : su ≤ s2) : exS sc pp rec mi pc ((.invokevirtual ix, n, [211, 6, p, q, 6, 0, 0, c2, s2, 11]) :: r) lv (.int y5 :: .int y4 :: .int y3 :: .int y2 :: .int y1 :: .ref y0 :: st) cu su h = bindR (rec 211 0 [some (.ref y0), some (.int y1), some (.int y2), some (.int y3), some (.int y4), some (.int y5)] [] 0 0 h) (fun h' r' => exS sc pp rec mi (pc + n) r lv (r'.toList ++ st) (cu) (su) h') := by
  simp [exS, ex1, doCall, lvE, cat_i, cat_r, cat_l, h8, hc, hs, hk]
  rfl
theorem K_212 {y0 : Nat} {y1 : Int32} {y2 : Int32} {y3 : Int32} {y4 : Int32} {y5 : Int32} {ix p q c2 s2 : Nat} (hk : kd h y0 = 12) (h8 : (st.map fun v => v.category).sum ≤ 8) (hc : cu ≤ c2) (hs : su ≤ s2) : exS sc pp rec mi pc ((.invokevirtual ix, n, [212, 6, p, q, 7, 0, 0, c2, s2, 12]) :: r) lv (.int y5 :: .int y4 :: .int y3 :: .int y2 :: .int y1 :: .ref y0 :: st) cu su h = bindR (rec 212 0 [some (.ref y0), some (.int y1), some (.int y2), some (.int y3), some (.int y4), some (.int y5), none] [] 0 0 h) (fun h' r' => exS sc pp rec mi (pc + n) r lv (r'.toList ++ st) (cu) (su) h') := by
  simp [exS, ex1, doCall, lvE, cat_i, cat_r, cat_l, h8, hc, hs, hk]
  rfl
theorem K_213 {y0 : Nat} {y1 : Int32} {y2 : Int32} {ix p q c2 s2 : Nat} (hk : kd h y0 = 11) (h8 : (st.map fun v => v.category).sum ≤ 8) (hc : cu ≤ c2) (hs : su ≤ s2) : exS sc pp rec mi pc ((.invokevirtual ix, n, [213, 3, p, q, 4, 0, 0, c2, s2, 11]) :: r) lv (.int y2 :: .int y1 :: .ref y0 :: st) cu su h = bindR (rec 213 0 [some (.ref y0), some (.int y1), some (.int y2), none] [] 0 0 h) (fun h' r' => exS sc pp rec mi (pc + n) r lv (r'.toList ++ st) (cu) (su) h') := by
  simp [exS, ex1, doCall, lvE, cat_i, cat_r, cat_l, h8, hc, hs, hk]
  rfl
theorem K_214 {y0 : Nat} {y1 : Int32} {y2 : Int32} {ix p q c2 s2 : Nat} (hk : kd h y0 = 11) (h8 : (st.map fun v => v.category).sum ≤ 8) (hc : cu ≤ c2) (hs : su ≤ s2) : exS sc pp rec mi pc ((.invokevirtual ix, n, [214, 3, p, q, 4, 0, 0, c2, s2, 11]) :: r) lv (.int y2 :: .int y1 :: .ref y0 :: st) cu su h = bindR (rec 214 0 [some (.ref y0), some (.int y1), some (.int y2), none] [] 0 0 h) (fun h' r' => exS sc pp rec mi (pc + n) r lv (r'.toList ++ st) (cu) (su) h') := by
  simp [exS, ex1, doCall, lvE, cat_i, cat_r, cat_l, h8, hc, hs, hk]
  rfl
theorem K_215 {y0 : Nat} {y1 : Int32} {ix p q c2 s2 : Nat} (hk : kd h y0 = 11) (h8 : (st.map fun v => v.category).sum ≤ 8) (hc : cu ≤ c2) (hs : su ≤ s2) : exS sc pp rec mi pc ((.invokevirtual ix, n, [215, 2, p, q, 4, 0, 0, c2, s2, 11]) :: r) lv (.int y1 :: .ref y0 :: st) cu su h = bindR (rec 215 0 [some (.ref y0), some (.int y1), none, none] [] 0 0 h) (fun h' r' => exS sc pp rec mi (pc + n) r lv (r'.toList ++ st) (cu) (su) h') := by
  simp [exS, ex1, doCall, lvE, cat_i, cat_r, cat_l, h8, hc, hs, hk]
  rfl
theorem K_216 {y0 : Nat} {y1 : Int32} {y2 : Int32} {ix p q c2 s2 : Nat} (hk : kd h y0 = 12) (h8 : (st.map fun v => v.category).sum ≤ 8) (hc : cu ≤ c2) (hs : su ≤ s2) : exS sc pp rec mi pc ((.invokevirtual ix, n, [216, 3, p, q, 5, 0, 0, c2, s2, 12]) :: r) lv (.int y2 :: .int y1 :: .ref y0 :: st) cu su h = bindR (rec 216 0 [some (.ref y0), some (.int y1), some (.int y2), none, none] [] 0 0 h) (fun h' r' => exS sc pp rec mi (pc + n) r lv (r'.toList ++ st) (cu) (su) h') := by
  simp [exS, ex1, doCall, lvE, cat_i, cat_r, cat_l, h8, hc, hs, hk]
  rfl
theorem K_217 {y0 : Nat} {y1 : Int32} {ix p q c2 s2 : Nat} (hk : kd h y0 = 12) (h8 : (st.map fun v => v.category).sum ≤ 8) (hc : cu ≤ c2) (hs : su ≤ s2) : exS sc pp rec mi pc ((.invokevirtual ix, n, [217, 2, p, q, 4, 0, 0, c2, s2, 12]) :: r) lv (.int y1 :: .ref y0 :: st) cu su h = bindR (rec 217 0 [some (.ref y0), some (.int y1), none, none] [] 0 0 h) (fun h' r' => exS sc pp rec mi (pc + n) r lv (r'.toList ++ st) (cu) (su) h') := by
  simp [exS, ex1, doCall, lvE, cat_i, cat_r, cat_l, h8, hc, hs, hk]
  rfl
theorem K_218 {y0 : Nat} {y1 : Int32} {y2 : Int32} {y3 : Int32} {ix p q c2 s2 : Nat} (hk : kd h y0 = 7) (h8 : (st.map fun v => v.category).sum ≤ 8) (hc : cu ≤ c2) (hs : su ≤ s2) : exS sc pp rec mi pc ((.invokevirtual ix, n, [218, 4, p, q, 4, 0, 0, c2, s2, 7]) :: r) lv (.int y3 :: .int y2 :: .int y1 :: .ref y0 :: st) cu su h = bindR (rec 218 0 [some (.ref y0), some (.int y1), some (.int y2), some (.int y3)] [] 0 0 h) (fun h' r' => exS sc pp rec mi (pc + n) r lv (r'.toList ++ st) (cu) (su) h') := by
  simp [exS, ex1, doCall, lvE, cat_i, cat_r, cat_l, h8, hc, hs, hk]
  rfl
theorem K_219 {y0 : Nat} {y1 : Nat} {y2 : Int32} {y3 : Int32} {ix p q c2 s2 : Nat} (hk : kd h y0 = 7) (h8 : (st.map fun v => v.category).sum ≤ 8) (hc : cu ≤ c2) (hs : su ≤ s2) : exS sc pp rec mi pc ((.invokevirtual ix, n, [219, 4, p, q, 6, 0, 0, c2, s2, 7]) :: r) lv (.int y3 :: .int y2 :: .ref y1 :: .ref y0 :: st) cu su h = bindR (rec 219 0 [some (.ref y0), some (.ref y1), some (.int y2), some (.int y3), none, none] [] 0 0 h) (fun h' r' => exS sc pp rec mi (pc + n) r lv (r'.toList ++ st) (cu) (su) h') := by
  simp [exS, ex1, doCall, lvE, cat_i, cat_r, cat_l, h8, hc, hs, hk]
  rfl
theorem K_220 {y0 : Nat} {y1 : Nat} {y2 : Nat} {y3 : Int32} {y4 : Int32} {ix p q c2 s2 : Nat} (hk : kd h y0 = 7) (h8 : (st.map fun v => v.category).sum ≤ 8) (hc : cu ≤ c2) (hs : su ≤ s2) : exS sc pp rec mi pc ((.invokevirtual ix, n, [220, 5, p, q, 7, 0, 0, c2, s2, 7]) :: r) lv (.int y4 :: .int y3 :: .ref y2 :: .ref y1 :: .ref y0 :: st) cu su h = bindR (rec 220 0 [some (.ref y0), some (.ref y1), some (.ref y2), some (.int y3), some (.int y4), none, none] [] 0 0 h) (fun h' r' => exS sc pp rec mi (pc + n) r lv (r'.toList ++ st) (cu) (su) h') := by
  simp [exS, ex1, doCall, lvE, cat_i, cat_r, cat_l, h8, hc, hs, hk]
  rfl
theorem K_221 {y0 : Nat} {y1 : Int32} {y2 : Int32} {y3 : Int32} {ix p q c2 s2 : Nat} (hk : kd h y0 = 11) (h8 : (st.map fun v => v.category).sum ≤ 8) (hc : cu ≤ c2) (hs : su ≤ s2) : exS sc pp rec mi pc ((.invokevirtual ix, n, [221, 4, p, q, 4, 0, 0, c2, s2, 11]) :: r) lv (.int y3 :: .int y2 :: .int y1 :: .ref y0 :: st) cu su h = bindR (rec 221 0 [some (.ref y0), some (.int y1), some (.int y2), some (.int y3)] [] 0 0 h) (fun h' r' => exS sc pp rec mi (pc + n) r lv (r'.toList ++ st) (cu) (su) h') := by
  simp [exS, ex1, doCall, lvE, cat_i, cat_r, cat_l, h8, hc, hs, hk]
  rfl
theorem K_222 {y0 : Nat} {y1 : Int32} {y2 : Int32} {y3 : Int32} {ix p q c2 s2 : Nat} (hk : kd h y0 = 12) (h8 : (st.map fun v => v.category).sum ≤ 8) (hc : cu ≤ c2) (hs : su ≤ s2) : exS sc pp rec mi pc ((.invokevirtual ix, n, [222, 4, p, q, 10, 0, 0, c2, s2, 12]) :: r) lv (.int y3 :: .int y2 :: .int y1 :: .ref y0 :: st) cu su h = bindR (rec 222 0 [some (.ref y0), some (.int y1), some (.int y2), some (.int y3), none, none, none, none, none, none] [] 0 0 h) (fun h' r' => exS sc pp rec mi (pc + n) r lv (r'.toList ++ st) (cu) (su) h') := by
  simp [exS, ex1, doCall, lvE, cat_i, cat_r, cat_l, h8, hc, hs, hk]
  rfl
theorem K_223 {y0 : Nat} {y1 : Int32} {y2 : Int32} {ix p q c2 s2 : Nat} (hk : kd h y0 = 11) (h8 : (st.map fun v => v.category).sum ≤ 8) (hc : cu ≤ c2) (hs : su ≤ s2) : exS sc pp rec mi pc ((.invokevirtual ix, n, [223, 3, p, q, 3, 0, 0, c2, s2, 11]) :: r) lv (.int y2 :: .int y1 :: .ref y0 :: st) cu su h = bindR (rec 223 0 [some (.ref y0), some (.int y1), some (.int y2)] [] 0 0 h) (fun h' r' => exS sc pp rec mi (pc + n) r lv (r'.toList ++ st) (cu) (su) h') := by
  simp [exS, ex1, doCall, lvE, cat_i, cat_r, cat_l, h8, hc, hs, hk]
  rfl
theorem K_224 {y0 : Nat} {y1 : Nat} {y2 : Int32} {y3 : Int32} {y4 : Int32} {ix p q c2 s2 : Nat} (hk : kd h y0 = 7) (h8 : (st.map fun v => v.category).sum ≤ 8) (hc : cu ≤ c2) (hs : su ≤ s2) : exS sc pp rec mi pc ((.invokevirtual ix, n, [224, 5, p, q, 5, 0, 0, c2, s2, 7]) :: r) lv (.int y4 :: .int y3 :: .int y2 :: .ref y1 :: .ref y0 :: st) cu su h = bindR (rec 224 0 [some (.ref y0), some (.ref y1), some (.int y2), some (.int y3), some (.int y4)] [] 0 0 h) (fun h' r' => exS sc pp rec mi (pc + n) r lv (r'.toList ++ st) (cu) (su) h') := by
  simp [exS, ex1, doCall, lvE, cat_i, cat_r, cat_l, h8, hc, hs, hk]
  rfl
theorem K_225 {y0 : Nat} {y1 : Int32} {y2 : Int32} {y3 : Int32} {ix p q c2 s2 : Nat} (hk : kd h y0 = 7) (h8 : (st.map fun v => v.category).sum ≤ 8) (hc : cu ≤ c2) (hs : su ≤ s2) : exS sc pp rec mi pc ((.invokevirtual ix, n, [225, 4, p, q, 6, 0, 0, c2, s2, 7]) :: r) lv (.int y3 :: .int y2 :: .int y1 :: .ref y0 :: st) cu su h = bindR (rec 225 0 [some (.ref y0), some (.int y1), some (.int y2), some (.int y3), none, none] [] 0 0 h) (fun h' r' => exS sc pp rec mi (pc + n) r lv (r'.toList ++ st) (cu) (su) h') := by
  simp [exS, ex1, doCall, lvE, cat_i, cat_r, cat_l, h8, hc, hs, hk]
  rfl
theorem K_226 {y0 : Nat} {y1 : Nat} {y2 : Nat} {y3 : Int32} {y4 : Int32} {ix p q c2 s2 : Nat} (hk : kd h y0 = 7) (h8 : (st.map fun v => v.category).sum ≤ 8) (hc : cu ≤ c2) (hs : su ≤ s2) : exS sc pp rec mi pc ((.invokevirtual ix, n, [226, 5, p, q, 9, 0, 0, c2, s2, 7]) :: r) lv (.int y4 :: .int y3 :: .ref y2 :: .ref y1 :: .ref y0 :: st) cu su h = bindR (rec 226 0 [some (.ref y0), some (.ref y1), some (.ref y2), some (.int y3), some (.int y4), none, none, none, none] [] 0 0 h) (fun h' r' => exS sc pp rec mi (pc + n) r lv (r'.toList ++ st) (cu) (su) h') := by
  simp [exS, ex1, doCall, lvE, cat_i, cat_r, cat_l, h8, hc, hs, hk]
  rfl
theorem K_227 {y0 : Nat} {y1 : Int32} {y2 : Int32} {ix p q c2 s2 : Nat} (hk : kd h y0 = 11) (h8 : (st.map fun v => v.category).sum ≤ 8) (hc : cu ≤ c2) (hs : su ≤ s2) : exS sc pp rec mi pc ((.invokevirtual ix, n, [227, 3, p, q, 3, 0, 0, c2, s2, 11]) :: r) lv (.int y2 :: .int y1 :: .ref y0 :: st) cu su h = bindR (rec 227 0 [some (.ref y0), some (.int y1), some (.int y2)] [] 0 0 h) (fun h' r' => exS sc pp rec mi (pc + n) r lv (r'.toList ++ st) (cu) (su) h') := by
  simp [exS, ex1, doCall, lvE, cat_i, cat_r, cat_l, h8, hc, hs, hk]
  rfl
theorem K_228 {y0 : Nat} {y1 : Int32} {y2 : Int32} {ix p q c2 s2 : Nat} (hk : kd h y0 = 12) (h8 : (st.map fun v => v.category).sum ≤ 8) (hc : cu ≤ c2) (hs : su ≤ s2) : exS sc pp rec mi pc ((.invokevirtual ix, n, [228, 3, p, q, 3, 0, 0, c2, s2, 12]) :: r) lv (.int y2 :: .int y1 :: .ref y0 :: st) cu su h = bindR (rec 228 0 [some (.ref y0), some (.int y1), some (.int y2)] [] 0 0 h) (fun h' r' => exS sc pp rec mi (pc + n) r lv (r'.toList ++ st) (cu) (su) h') := by
  simp [exS, ex1, doCall, lvE, cat_i, cat_r, cat_l, h8, hc, hs, hk]
  rfl
theorem K_229 {y0 : Nat} {y1 : Int32} {ix p q c2 s2 : Nat} (hk : kd h y0 = 12) (h8 : (st.map fun v => v.category).sum ≤ 8) (hc : cu ≤ c2) (hs : su ≤ s2) : exS sc pp rec mi pc ((.invokevirtual ix, n, [229, 2, p, q, 2, 0, 0, c2, s2, 12]) :: r) lv (.int y1 :: .ref y0 :: st) cu su h = bindR (rec 229 0 [some (.ref y0), some (.int y1)] [] 0 0 h) (fun h' r' => exS sc pp rec mi (pc + n) r lv (r'.toList ++ st) (cu) (su) h') := by
  simp [exS, ex1, doCall, lvE, cat_i, cat_r, cat_l, h8, hc, hs, hk]
  rfl
theorem K_230 {y0 : Nat} {y1 : Int32} {y2 : Int32} {y3 : Int32} {ix p q c2 s2 : Nat} (hk : kd h y0 = 12) (h8 : (st.map fun v => v.category).sum ≤ 8) (hc : cu ≤ c2) (hs : su ≤ s2) : exS sc pp rec mi pc ((.invokevirtual ix, n, [230, 4, p, q, 9, 0, 0, c2, s2, 12]) :: r) lv (.int y3 :: .int y2 :: .int y1 :: .ref y0 :: st) cu su h = bindR (rec 230 0 [some (.ref y0), some (.int y1), some (.int y2), some (.int y3), none, none, none, none, none] [] 0 0 h) (fun h' r' => exS sc pp rec mi (pc + n) r lv (r'.toList ++ st) (cu) (su) h') := by
  simp [exS, ex1, doCall, lvE, cat_i, cat_r, cat_l, h8, hc, hs, hk]
  rfl
theorem K_231 {y0 : Nat} {y1 : Int32} {y2 : Int32} {ix p q c2 s2 : Nat} (hk : kd h y0 = 12) (h8 : (st.map fun v => v.category).sum ≤ 8) (hc : cu ≤ c2) (hs : su ≤ s2) : exS sc pp rec mi pc ((.invokevirtual ix, n, [231, 3, p, q, 3, 0, 0, c2, s2, 12]) :: r) lv (.int y2 :: .int y1 :: .ref y0 :: st) cu su h = bindR (rec 231 0 [some (.ref y0), some (.int y1), some (.int y2)] [] 0 0 h) (fun h' r' => exS sc pp rec mi (pc + n) r lv (r'.toList ++ st) (cu) (su) h') := by
  simp [exS, ex1, doCall, lvE, cat_i, cat_r, cat_l, h8, hc, hs, hk]
  rfl
theorem K_232 {y0 : Nat} {y1 : Int32} {y2 : Int32} {y3 : Int32} {ix p q c2 s2 : Nat} (hk : kd h y0 = 11) (h8 : (st.map fun v => v.category).sum ≤ 8) (hc : cu ≤ c2) (hs : su ≤ s2) : exS sc pp rec mi pc ((.invokevirtual ix, n, [232, 4, p, q, 4, 0, 0, c2, s2, 11]) :: r) lv (.int y3 :: .int y2 :: .int y1 :: .ref y0 :: st) cu su h = bindR (rec 232 0 [some (.ref y0), some (.int y1), some (.int y2), some (.int y3)] [] 0 0 h) (fun h' r' => exS sc pp rec mi (pc + n) r lv (r'.toList ++ st) (cu) (su) h') := by
  simp [exS, ex1, doCall, lvE, cat_i, cat_r, cat_l, h8, hc, hs, hk]
  rfl
theorem K_233 {y0 : Nat} {y1 : Int32} {y2 : Int32} {y3 : Int32} {ix p q c2 s2 : Nat} (hk : kd h y0 = 12) (h8 : (st.map fun v => v.category).sum ≤ 8) (hc : cu ≤ c2) (hs : su ≤ s2) : exS sc pp rec mi pc ((.invokevirtual ix, n, [233, 4, p, q, 4, 0, 0, c2, s2, 12]) :: r) lv (.int y3 :: .int y2 :: .int y1 :: .ref y0 :: st) cu su h = bindR (rec 233 0 [some (.ref y0), some (.int y1), some (.int y2), some (.int y3)] [] 0 0 h) (fun h' r' => exS sc pp rec mi (pc + n) r lv (r'.toList ++ st) (cu) (su) h') := by
  simp [exS, ex1, doCall, lvE, cat_i, cat_r, cat_l, h8, hc, hs, hk]
  rfl
theorem K_234 {y0 : Nat} {y1 : Nat} {y2 : Int32} {y3 : Int32} {ix p q c2 s2 : Nat} (hk : kd h y0 = 6) (h8 : (st.map fun v => v.category).sum ≤ 8) (hc : cu ≤ c2) (hs : su ≤ s2) : exS sc pp rec mi pc ((.invokevirtual ix, n, [234, 4, p, q, 8, 0, 0, c2, s2, 6]) :: r) lv (.int y3 :: .int y2 :: .ref y1 :: .ref y0 :: st) cu su h = bindR (rec 234 0 [some (.ref y0), some (.ref y1), some (.int y2), some (.int y3), none, none, none, none] [] 0 0 h) (fun h' r' => exS sc pp rec mi (pc + n) r lv (r'.toList ++ st) (cu) (su) h') := by
  simp [exS, ex1, doCall, lvE, cat_i, cat_r, cat_l, h8, hc, hs, hk]
  rfl
theorem K_235 {y0 : Nat} {y1 : Int32} {ix p q c2 s2 : Nat} (hk : kd h y0 = 11) (h8 : (st.map fun v => v.category).sum ≤ 8) (hc : cu ≤ c2) (hs : su ≤ s2) : exS sc pp rec mi pc ((.invokevirtual ix, n, [235, 2, p, q, 2, 0, 0, c2, s2, 11]) :: r) lv (.int y1 :: .ref y0 :: st) cu su h = bindR (rec 235 0 [some (.ref y0), some (.int y1)] [] 0 0 h) (fun h' r' => exS sc pp rec mi (pc + n) r lv (r'.toList ++ st) (cu) (su) h') := by
  simp [exS, ex1, doCall, lvE, cat_i, cat_r, cat_l, h8, hc, hs, hk]
  rfl
theorem K_236 {y0 : Nat} {ix p q c2 s2 : Nat} (hk : kd h y0 = 12) (h8 : (st.map fun v => v.category).sum ≤ 8) (hc : cu ≤ c2) (hs : su ≤ s2) : exS sc pp rec mi pc ((.invokevirtual ix, n, [236, 1, p, q, 1, 0, 0, c2, s2, 12]) :: r) lv (.ref y0 :: st) cu su h = bindR (rec 236 0 [some (.ref y0)] [] 0 0 h) (fun h' r' => exS sc pp rec mi (pc + n) r lv (r'.toList ++ st) (cu) (su) h') := by
  simp [exS, ex1, doCall, lvE, cat_i, cat_r, cat_l, h8, hc, hs, hk]
  rfl
theorem K_237 {y0 : Nat} {y1 : Int32} {ix p q c2 s2 : Nat} (hk : kd h y0 = 12) (h8 : (st.map fun v => v.category).sum ≤ 8) (hc : cu ≤ c2) (hs : su ≤ s2) : exS sc pp rec mi pc ((.invokevirtual ix, n, [237, 2, p, q, 3, 0, 0, c2, s2, 12]) :: r) lv (.int y1 :: .ref y0 :: st) cu su h = bindR (rec 237 0 [some (.ref y0), some (.int y1), none] [] 0 0 h) (fun h' r' => exS sc pp rec mi (pc + n) r lv (r'.toList ++ st) (cu) (su) h') := by
  simp [exS, ex1, doCall, lvE, cat_i, cat_r, cat_l, h8, hc, hs, hk]
  rfl
theorem K_238 {y0 : Nat} {y1 : Int32} {ix p q c2 s2 : Nat} (hk : kd h y0 = 12) (h8 : (st.map fun v => v.category).sum ≤ 8) (hc : cu ≤ c2) (hs : su ≤ s2) : exS sc pp rec mi pc ((.invokevirtual ix, n, [238, 2, p, q, 3, 0, 0, c2, s2, 12]) :: r) lv (.int y1 :: .ref y0 :: st) cu su h = bindR (rec 238 0 [some (.ref y0), some (.int y1), none] [] 0 0 h) (fun h' r' => exS sc pp rec mi (pc + n) r lv (r'.toList ++ st) (cu) (su) h') := by
  simp [exS, ex1, doCall, lvE, cat_i, cat_r, cat_l, h8, hc, hs, hk]
  rfl
theorem K_239 {y0 : Nat} {y1 : Int32} {y2 : Int32} {ix p q c2 s2 : Nat} (hk : kd h y0 = 11) (h8 : (st.map fun v => v.category).sum ≤ 8) (hc : cu ≤ c2) (hs : su ≤ s2) : exS sc pp rec mi pc ((.invokevirtual ix, n, [239, 3, p, q, 3, 0, 0, c2, s2, 11]) :: r) lv (.int y2 :: .int y1 :: .ref y0 :: st) cu su h = bindR (rec 239 0 [some (.ref y0), some (.int y1), some (.int y2)] [] 0 0 h) (fun h' r' => exS sc pp rec mi (pc + n) r lv (r'.toList ++ st) (cu) (su) h') := by
  simp [exS, ex1, doCall, lvE, cat_i, cat_r, cat_l, h8, hc, hs, hk]
  rfl
theorem K_240 {y0 : Nat} {y1 : Int32} {y2 : Int32} {ix p q c2 s2 : Nat} (hk : kd h y0 = 12) (h8 : (st.map fun v => v.category).sum ≤ 8) (hc : cu ≤ c2) (hs : su ≤ s2) : exS sc pp rec mi pc ((.invokevirtual ix, n, [240, 3, p, q, 4, 0, 0, c2, s2, 12]) :: r) lv (.int y2 :: .int y1 :: .ref y0 :: st) cu su h = bindR (rec 240 0 [some (.ref y0), some (.int y1), some (.int y2), none] [] 0 0 h) (fun h' r' => exS sc pp rec mi (pc + n) r lv (r'.toList ++ st) (cu) (su) h') := by
  simp [exS, ex1, doCall, lvE, cat_i, cat_r, cat_l, h8, hc, hs, hk]
  rfl
theorem K_241 {y0 : Nat} {ix p q c2 s2 : Nat} (hk : kd h y0 = 5) (h8 : (st.map fun v => v.category).sum ≤ 8) (hc : cu ≤ c2) (hs : su ≤ s2) : exS sc pp rec mi pc ((.invokevirtual ix, n, [241, 1, p, q, 1, 0, 0, c2, s2, 5]) :: r) lv (.ref y0 :: st) cu su h = bindR (rec 241 0 [some (.ref y0)] [] 0 0 h) (fun h' r' => exS sc pp rec mi (pc + n) r lv (r'.toList ++ st) (cu) (su) h') := by
  simp [exS, ex1, doCall, lvE, cat_i, cat_r, cat_l, h8, hc, hs, hk]
  rfl
theorem K_242 {y0 : Nat} {y1 : Int32} {y2 : Int32} {y3 : Int32} {y4 : Int32} {ix p q c2 s2 : Nat} (hk : kd h y0 = 5) (h8 : (st.map fun v => v.category).sum ≤ 8) (hc : cu ≤ c2) (hs : su ≤ s2) : exS sc pp rec mi pc ((.invokevirtual ix, n, [242, 5, p, q, 5, 0, 0, c2, s2, 5]) :: r) lv (.int y4 :: .int y3 :: .int y2 :: .int y1 :: .ref y0 :: st) cu su h = bindR (rec 242 0 [some (.ref y0), some (.int y1), some (.int y2), some (.int y3), some (.int y4)] [] 0 0 h) (fun h' r' => exS sc pp rec mi (pc + n) r lv (r'.toList ++ st) (cu) (su) h') := by
  simp [exS, ex1, doCall, lvE, cat_i, cat_r, cat_l, h8, hc, hs, hk]
  rfl
theorem K_243 {y0 : Nat} {y1 : Int32} {y2 : Int32} {y3 : Int32} {y4 : Int32} {ix p q c2 s2 : Nat} (hk : kd h y0 = 11) (h8 : (st.map fun v => v.category).sum ≤ 8) (hc : cu ≤ c2) (hs : su ≤ s2) : exS sc pp rec mi pc ((.invokevirtual ix, n, [243, 5, p, q, 5, 0, 0, c2, s2, 11]) :: r) lv (.int y4 :: .int y3 :: .int y2 :: .int y1 :: .ref y0 :: st) cu su h = bindR (rec 243 0 [some (.ref y0), some (.int y1), some (.int y2), some (.int y3), some (.int y4)] [] 0 0 h) (fun h' r' => exS sc pp rec mi (pc + n) r lv (r'.toList ++ st) (cu) (su) h') := by
  simp [exS, ex1, doCall, lvE, cat_i, cat_r, cat_l, h8, hc, hs, hk]
  rfl
theorem K_244 {y0 : Nat} {y1 : Int32} {y2 : Int32} {y3 : Int32} {y4 : Int32} {ix p q c2 s2 : Nat} (hk : kd h y0 = 12) (h8 : (st.map fun v => v.category).sum ≤ 8) (hc : cu ≤ c2) (hs : su ≤ s2) : exS sc pp rec mi pc ((.invokevirtual ix, n, [244, 5, p, q, 5, 0, 0, c2, s2, 12]) :: r) lv (.int y4 :: .int y3 :: .int y2 :: .int y1 :: .ref y0 :: st) cu su h = bindR (rec 244 0 [some (.ref y0), some (.int y1), some (.int y2), some (.int y3), some (.int y4)] [] 0 0 h) (fun h' r' => exS sc pp rec mi (pc + n) r lv (r'.toList ++ st) (cu) (su) h') := by
  simp [exS, ex1, doCall, lvE, cat_i, cat_r, cat_l, h8, hc, hs, hk]
  rfl
theorem K_245 {y0 : Nat} {y1 : Int32} {y2 : Int32} {y3 : Int32} {y4 : Int32} {ix p q c2 s2 : Nat} (hk : kd h y0 = 12) (h8 : (st.map fun v => v.category).sum ≤ 8) (hc : cu ≤ c2) (hs : su ≤ s2) : exS sc pp rec mi pc ((.invokevirtual ix, n, [245, 5, p, q, 5, 0, 0, c2, s2, 12]) :: r) lv (.int y4 :: .int y3 :: .int y2 :: .int y1 :: .ref y0 :: st) cu su h = bindR (rec 245 0 [some (.ref y0), some (.int y1), some (.int y2), some (.int y3), some (.int y4)] [] 0 0 h) (fun h' r' => exS sc pp rec mi (pc + n) r lv (r'.toList ++ st) (cu) (su) h') := by
  simp [exS, ex1, doCall, lvE, cat_i, cat_r, cat_l, h8, hc, hs, hk]
  rfl
theorem K_246 {y0 : Nat} {y1 : Int32} {ix p q c2 s2 : Nat} (hk : kd h y0 = 5) (h8 : (st.map fun v => v.category).sum ≤ 8) (hc : cu ≤ c2) (hs : su ≤ s2) : exS sc pp rec mi pc ((.invokevirtual ix, n, [246, 2, p, q, 2, 0, 0, c2, s2, 5]) :: r) lv (.int y1 :: .ref y0 :: st) cu su h = bindR (rec 246 0 [some (.ref y0), some (.int y1)] [] 0 0 h) (fun h' r' => exS sc pp rec mi (pc + n) r lv (r'.toList ++ st) (cu) (su) h') := by
  simp [exS, ex1, doCall, lvE, cat_i, cat_r, cat_l, h8, hc, hs, hk]
  rfl
theorem K_247 {y0 : Nat} {y1 : Int32} {ix p q c2 s2 : Nat} (hk : kd h y0 = 11) (h8 : (st.map fun v => v.category).sum ≤ 8) (hc : cu ≤ c2) (hs : su ≤ s2) : exS sc pp rec mi pc ((.invokevirtual ix, n, [247, 2, p, q, 2, 0, 0, c2, s2, 11]) :: r) lv (.int y1 :: .ref y0 :: st) cu su h = bindR (rec 247 0 [some (.ref y0), some (.int y1)] [] 0 0 h) (fun h' r' => exS sc pp rec mi (pc + n) r lv (r'.toList ++ st) (cu) (su) h') := by
  simp [exS, ex1, doCall, lvE, cat_i, cat_r, cat_l, h8, hc, hs, hk]
  rfl
theorem K_248 {y0 : Nat} {y1 : Int32} {ix p q c2 s2 : Nat} (hk : kd h y0 = 12) (h8 : (st.map fun v => v.category).sum ≤ 8) (hc : cu ≤ c2) (hs : su ≤ s2) : exS sc pp rec mi pc ((.invokevirtual ix, n, [248, 2, p, q, 2, 0, 0, c2, s2, 12]) :: r) lv (.int y1 :: .ref y0 :: st) cu su h = bindR (rec 248 0 [some (.ref y0), some (.int y1)] [] 0 0 h) (fun h' r' => exS sc pp rec mi (pc + n) r lv (r'.toList ++ st) (cu) (su) h') := by
  simp [exS, ex1, doCall, lvE, cat_i, cat_r, cat_l, h8, hc, hs, hk]
  rfl
theorem K_249 {y0 : Nat} {y1 : Int32} {ix p q c2 s2 : Nat} (hk : kd h y0 = 11) (h8 : (st.map fun v => v.category).sum ≤ 8) (hc : cu ≤ c2) (hs : su ≤ s2) : exS sc pp rec mi pc ((.invokevirtual ix, n, [249, 2, p, q, 2, 0, 0, c2, s2, 11]) :: r) lv (.int y1 :: .ref y0 :: st) cu su h = bindR (rec 249 0 [some (.ref y0), some (.int y1)] [] 0 0 h) (fun h' r' => exS sc pp rec mi (pc + n) r lv (r'.toList ++ st) (cu) (su) h') := by
  simp [exS, ex1, doCall, lvE, cat_i, cat_r, cat_l, h8, hc, hs, hk]
  rfl
theorem K_250 {y0 : Nat} {y1 : Int32} {ix p q c2 s2 : Nat} (hk : kd h y0 = 12) (h8 : (st.map fun v => v.category).sum ≤ 8) (hc : cu ≤ c2) (hs : su ≤ s2) : exS sc pp rec mi pc ((.invokevirtual ix, n, [250, 2, p, q, 2, 0, 0, c2, s2, 12]) :: r) lv (.int y1 :: .ref y0 :: st) cu su h = bindR (rec 250 0 [some (.ref y0), some (.int y1)] [] 0 0 h) (fun h' r' => exS sc pp rec mi (pc + n) r lv (r'.toList ++ st) (cu) (su) h') := by
  simp [exS, ex1, doCall, lvE, cat_i, cat_r, cat_l, h8, hc, hs, hk]
  rfl
theorem K_251 {y0 : Nat} {ix p q c2 s2 : Nat} (hk : kd h y0 = 5) (h8 : (st.map fun v => v.category).sum ≤ 8) (hc : cu ≤ c2) (hs : su ≤ s2) : exS sc pp rec mi pc ((.invokevirtual ix, n, [251, 1, p, q, 1, 0, 0, c2, s2, 5]) :: r) lv (.ref y0 :: st) cu su h = bindR (rec 251 0 [some (.ref y0)] [] 0 0 h) (fun h' r' => exS sc pp rec mi (pc + n) r lv (r'.toList ++ st) (cu) (su) h') := by
  simp [exS, ex1, doCall, lvE, cat_i, cat_r, cat_l, h8, hc, hs, hk]
  rfl
theorem K_252 {y0 : Nat} {ix p q c2 s2 : Nat} (hk : kd h y0 = 5) (h8 : (st.map fun v => v.category).sum ≤ 8) (hc : cu ≤ c2) (hs : su ≤ s2) : exS sc pp rec mi pc ((.invokevirtual ix, n, [252, 1, p, q, 2, 0, 0, c2, s2, 5]) :: r) lv (.ref y0 :: st) cu su h = bindR (rec 252 0 [some (.ref y0), none] [] 0 0 h) (fun h' r' => exS sc pp rec mi (pc + n) r lv (r'.toList ++ st) (cu) (su) h') := by
  simp [exS, ex1, doCall, lvE, cat_i, cat_r, cat_l, h8, hc, hs, hk]
  rfl
theorem K_253 {y0 : Nat} {y1 : Int32} {y2 : Nat} {ix p q c2 s2 : Nat} (hk : kd h y0 = 5) (h8 : (st.map fun v => v.category).sum ≤ 8) (hc : cu ≤ c2) (hs : su ≤ s2) : exS sc pp rec mi pc ((.invokevirtual ix, n, [253, 3, p, q, 4, 0, 0, c2, s2, 5]) :: r) lv (.ref y2 :: .int y1 :: .ref y0 :: st) cu su h = bindR (rec 253 0 [some (.ref y0), some (.int y1), some (.ref y2), none] [] 0 0 h) (fun h' r' => exS sc pp rec mi (pc + n) r lv (r'.toList ++ st) (cu) (su) h') := by
  simp [exS, ex1, doCall, lvE, cat_i, cat_r, cat_l, h8, hc, hs, hk]
  rfl
theorem K_254 {y0 : Nat} {y1 : Nat} {ix p q c2 s2 : Nat} (hk : kd h y0 = 11) (h8 : (st.map fun v => v.category).sum ≤ 8) (hc : cu ≤ c2) (hs : su ≤ s2) : exS sc pp rec mi pc ((.invokevirtual ix, n, [254, 2, p, q, 3, 0, 0, c2, s2, 11]) :: r) lv (.ref y1 :: .ref y0 :: st) cu su h = bindR (rec 254 0 [some (.ref y0), some (.ref y1), none] [] 0 0 h) (fun h' r' => exS sc pp rec mi (pc + n) r lv (r'.toList ++ st) (cu) (su) h') := by
  simp [exS, ex1, doCall, lvE, cat_i, cat_r, cat_l, h8, hc, hs, hk]
  rfl
theorem K_255 {y0 : Nat} {y1 : Int32} {ix p q c2 s2 : Nat} (hk : kd h y0 = 11) (h8 : (st.map fun v => v.category).sum ≤ 8) (hc : cu ≤ c2) (hs : su ≤ s2) : exS sc pp rec mi pc ((.invokevirtual ix, n, [255, 2, p, q, 4, 0, 0, c2, s2, 11]) :: r) lv (.int y1 :: .ref y0 :: st) cu su h = bindR (rec 255 0 [some (.ref y0), some (.int y1), none, none] [] 0 0 h) (fun h' r' => exS sc pp rec mi (pc + n) r lv (r'.toList ++ st) (cu) (su) h') := by
  simp [exS, ex1, doCall, lvE, cat_i, cat_r, cat_l, h8, hc, hs, hk]
  rfl
theorem K_256 {y0 : Nat} {ix p q c2 s2 : Nat} (hk : kd h y0 = 12) (h8 : (st.map fun v => v.category).sum ≤ 8) (hc : cu ≤ c2) (hs : su ≤ s2) : exS sc pp rec mi pc ((.invokevirtual ix, n, [256, 1, p, q, 1, 0, 0, c2, s2, 12]) :: r) lv (.ref y0 :: st) cu su h = bindR (rec 256 0 [some (.ref y0)] [] 0 0 h) (fun h' r' => exS sc pp rec mi (pc + n) r lv (r'.toList ++ st) (cu) (su) h') := by
  simp [exS, ex1, doCall, lvE, cat_i, cat_r, cat_l, h8, hc, hs, hk]
  rfl
theorem K_257 {y0 : Nat} {y1 : Int32} {ix p q c2 s2 : Nat} (hk : kd h y0 = 12) (h8 : (st.map fun v => v.category).sum ≤ 8) (hc : cu ≤ c2) (hs : su ≤ s2) : exS sc pp rec mi pc ((.invokevirtual ix, n, [257, 2, p, q, 3, 0, 0, c2, s2, 12]) :: r) lv (.int y1 :: .ref y0 :: st) cu su h = bindR (rec 257 0 [some (.ref y0), some (.int y1), none] [] 0 0 h) (fun h' r' => exS sc pp rec mi (pc + n) r lv (r'.toList ++ st) (cu) (su) h') := by
  simp [exS, ex1, doCall, lvE, cat_i, cat_r, cat_l, h8, hc, hs, hk]
  rfl
theorem K_258 {y0 : Nat} {y1 : Int32} {y2 : Int32} {ix p q c2 s2 : Nat} (hk : kd h y0 = 12) (h8 : (st.map fun v => v.category).sum ≤ 8) (hc : cu ≤ c2) (hs : su ≤ s2) : exS sc pp rec mi pc ((.invokevirtual ix, n, [258, 3, p, q, 5, 0, 0, c2, s2, 12]) :: r) lv (.int y2 :: .int y1 :: .ref y0 :: st) cu su h = bindR (rec 258 0 [some (.ref y0), some (.int y1), some (.int y2), none, none] [] 0 0 h) (fun h' r' => exS sc pp rec mi (pc + n) r lv (r'.toList ++ st) (cu) (su) h') := by
  simp [exS, ex1, doCall, lvE, cat_i, cat_r, cat_l, h8, hc, hs, hk]
  rfl
theorem K_259 {y0 : Nat} {y1 : Int32} {ix p q c2 s2 : Nat} (hk : kd h y0 = 12) (h8 : (st.map fun v => v.category).sum ≤ 8) (hc : cu ≤ c2) (hs : su ≤ s2) : exS sc pp rec mi pc ((.invokevirtual ix, n, [259, 2, p, q, 4, 0, 0, c2, s2, 12]) :: r) lv (.int y1 :: .ref y0 :: st) cu su h = bindR (rec 259 0 [some (.ref y0), some (.int y1), none, none] [] 0 0 h) (fun h' r' => exS sc pp rec mi (pc + n) r lv (r'.toList ++ st) (cu) (su) h') := by
  simp [exS, ex1, doCall, lvE, cat_i, cat_r, cat_l, h8, hc, hs, hk]
  rfl
theorem K_260 {y0 : Nat} {y1 : Int32} {y2 : Int32} {y3 : Int32} {ix p q c2 s2 : Nat} (hk : kd h y0 = 11) (h8 : (st.map fun v => v.category).sum ≤ 8) (hc : cu ≤ c2) (hs : su ≤ s2) : exS sc pp rec mi pc ((.invokevirtual ix, n, [260, 4, p, q, 7, 0, 0, c2, s2, 11]) :: r) lv (.int y3 :: .int y2 :: .int y1 :: .ref y0 :: st) cu su h = bindR (rec 260 0 [some (.ref y0), some (.int y1), some (.int y2), some (.int y3), none, none, none] [] 0 0 h) (fun h' r' => exS sc pp rec mi (pc + n) r lv (r'.toList ++ st) (cu) (su) h') := by
  simp [exS, ex1, doCall, lvE, cat_i, cat_r, cat_l, h8, hc, hs, hk]
  rfl
theorem K_261 {y0 : Nat} {y1 : Int32} {y2 : Int32} {y3 : Int32} {ix p q c2 s2 : Nat} (hk : kd h y0 = 12) (h8 : (st.map fun v => v.category).sum ≤ 8) (hc : cu ≤ c2) (hs : su ≤ s2) : exS sc pp rec mi pc ((.invokevirtual ix, n, [261, 4, p, q, 9, 0, 0, c2, s2, 12]) :: r) lv (.int y3 :: .int y2 :: .int y1 :: .ref y0 :: st) cu su h = bindR (rec 261 0 [some (.ref y0), some (.int y1), some (.int y2), some (.int y3), none, none, none, none, none] [] 0 0 h) (fun h' r' => exS sc pp rec mi (pc + n) r lv (r'.toList ++ st) (cu) (su) h') := by
  simp [exS, ex1, doCall, lvE, cat_i, cat_r, cat_l, h8, hc, hs, hk]
  rfl
theorem K_262 {y0 : Nat} {y1 : Int32} {y2 : Int32} {ix p q c2 s2 : Nat} (hk : kd h y0 = 11) (h8 : (st.map fun v => v.category).sum ≤ 8) (hc : cu ≤ c2) (hs : su ≤ s2) : exS sc pp rec mi pc ((.invokevirtual ix, n, [262, 3, p, q, 3, 0, 0, c2, s2, 11]) :: r) lv (.int y2 :: .int y1 :: .ref y0 :: st) cu su h = bindR (rec 262 0 [some (.ref y0), some (.int y1), some (.int y2)] [] 0 0 h) (fun h' r' => exS sc pp rec mi (pc + n) r lv (r'.toList ++ st) (cu) (su) h') := by
  simp [exS, ex1, doCall, lvE, cat_i, cat_r, cat_l, h8, hc, hs, hk]
  rfl
theorem K_263 {y0 : Nat} {ix p q c2 s2 : Nat} (hk : kd h y0 = 8) (h8 : (st.map fun v => v.category).sum ≤ 8) (hc : cu ≤ c2) (hs : su ≤ s2) : exS sc pp rec mi pc ((.invokevirtual ix, n, [263, 1, p, q, 2, 0, 0, c2, s2, 8]) :: r) lv (.ref y0 :: st) cu su h = bindR (rec 263 0 [some (.ref y0), none] [] 0 0 h) (fun h' r' => exS sc pp rec mi (pc + n) r lv (r'.toList ++ st) (cu) (su) h') := by
  simp [exS, ex1, doCall, lvE, cat_i, cat_r, cat_l, h8, hc, hs, hk]
  rfl
theorem K_264 {y0 : Nat} {y1 : Int32} {y2 : Int32} {ix p q c2 s2 : Nat} (hk : kd h y0 = 11) (h8 : (st.map fun v => v.category).sum ≤ 8) (hc : cu ≤ c2) (hs : su ≤ s2) : exS sc pp rec mi pc ((.invokevirtual ix, n, [264, 3, p, q, 4, 0, 0, c2, s2, 11]) :: r) lv (.int y2 :: .int y1 :: .ref y0 :: st) cu su h = bindR (rec 264 0 [some (.ref y0), some (.int y1), some (.int y2), none] [] 0 0 h) (fun h' r' => exS sc pp rec mi (pc + n) r lv (r'.toList ++ st) (cu) (su) h') := by
  simp [exS, ex1, doCall, lvE, cat_i, cat_r, cat_l, h8, hc, hs, hk]
  rfl
theorem K_265 {y0 : Nat} {y1 : Int32} {y2 : Int32} {ix p q c2 s2 : Nat} (hk : kd h y0 = 12) (h8 : (st.map fun v => v.category).sum ≤ 8) (hc : cu ≤ c2) (hs : su ≤ s2) : exS sc pp rec mi pc ((.invokevirtual ix, n, [265, 3, p, q, 4, 0, 0, c2, s2, 12]) :: r) lv (.int y2 :: .int y1 :: .ref y0 :: st) cu su h = bindR (rec 265 0 [some (.ref y0), some (.int y1), some (.int y2), none] [] 0 0 h) (fun h' r' => exS sc pp rec mi (pc + n) r lv (r'.toList ++ st) (cu) (su) h') := by
  simp [exS, ex1, doCall, lvE, cat_i, cat_r, cat_l, h8, hc, hs, hk]
  rfl
theorem K_266 {y0 : Nat} {y1 : Nat} {ix p q c2 s2 : Nat} (hk : kd h y0 = 1) (h8 : (st.map fun v => v.category).sum ≤ 8) (hc : cu ≤ c2) (hs : su ≤ s2) : exS sc pp rec mi pc ((.invokevirtual ix, n, [266, 2, p, q, 2, 0, 0, c2, s2, 1]) :: r) lv (.ref y1 :: .ref y0 :: st) cu su h = bindR (rec 266 0 [some (.ref y0), some (.ref y1)] [] 0 0 h) (fun h' r' => exS sc pp rec mi (pc + n) r lv (r'.toList ++ st) (cu) (su) h') := by
  simp [exS, ex1, doCall, lvE, cat_i, cat_r, cat_l, h8, hc, hs, hk]
  rfl
theorem K_267 {y0 : Nat} {ix p q c2 s2 : Nat} (hk : kd h y0 = 11) (h8 : (st.map fun v => v.category).sum ≤ 8) (hc : cu ≤ c2) (hs : su ≤ s2) : exS sc pp rec mi pc ((.invokevirtual ix, n, [267, 1, p, q, 1, 0, 0, c2, s2, 11]) :: r) lv (.ref y0 :: st) cu su h = bindR (rec 267 0 [some (.ref y0)] [] 0 0 h) (fun h' r' => exS sc pp rec mi (pc + n) r lv (r'.toList ++ st) (cu) (su) h') := by
  simp [exS, ex1, doCall, lvE, cat_i, cat_r, cat_l, h8, hc, hs, hk]
  rfl
theorem K_268 {y0 : Nat} {y1 : Nat} {y2 : Int32} {ix p q c2 s2 : Nat} (hk : kd h y0 = 12) (h8 : (st.map fun v => v.category).sum ≤ 8) (hc : cu ≤ c2) (hs : su ≤ s2) : exS sc pp rec mi pc ((.invokevirtual ix, n, [268, 3, p, q, 4, 0, 0, c2, s2, 12]) :: r) lv (.int y2 :: .ref y1 :: .ref y0 :: st) cu su h = bindR (rec 268 0 [some (.ref y0), some (.ref y1), some (.int y2), none] [] 0 0 h) (fun h' r' => exS sc pp rec mi (pc + n) r lv (r'.toList ++ st) (cu) (su) h') := by
  simp [exS, ex1, doCall, lvE, cat_i, cat_r, cat_l, h8, hc, hs, hk]
  rfl
theorem K_269 {y0 : Nat} {ix p q c2 s2 : Nat} (hk : kd h y0 = 12) (h8 : (st.map fun v => v.category).sum ≤ 8) (hc : cu ≤ c2) (hs : su ≤ s2) : exS sc pp rec mi pc ((.invokevirtual ix, n, [269, 1, p, q, 1, 0, 0, c2, s2, 12]) :: r) lv (.ref y0 :: st) cu su h = bindR (rec 269 0 [some (.ref y0)] [] 0 0 h) (fun h' r' => exS sc pp rec mi (pc + n) r lv (r'.toList ++ st) (cu) (su) h') := by
  simp [exS, ex1, doCall, lvE, cat_i, cat_r, cat_l, h8, hc, hs, hk]
  rfl
theorem K_270 {y0 : Nat} {ix p q c2 s2 : Nat} (hk : kd h y0 = 11) (h8 : (st.map fun v => v.category).sum ≤ 8) (hc : cu ≤ c2) (hs : su ≤ s2) : exS sc pp rec mi pc ((.invokevirtual ix, n, [270, 1, p, q, 1, 0, 0, c2, s2, 11]) :: r) lv (.ref y0 :: st) cu su h = bindR (rec 270 0 [some (.ref y0)] [] 0 0 h) (fun h' r' => exS sc pp rec mi (pc + n) r lv (r'.toList ++ st) (cu) (su) h') := by
  simp [exS, ex1, doCall, lvE, cat_i, cat_r, cat_l, h8, hc, hs, hk]
  rfl
theorem K_271 {y0 : Nat} {ix p q c2 s2 : Nat} (hk : kd h y0 = 12) (h8 : (st.map fun v => v.category).sum ≤ 8) (hc : cu ≤ c2) (hs : su ≤ s2) : exS sc pp rec mi pc ((.invokevirtual ix, n, [271, 1, p, q, 1, 0, 0, c2, s2, 12]) :: r) lv (.ref y0 :: st) cu su h = bindR (rec 271 0 [some (.ref y0)] [] 0 0 h) (fun h' r' => exS sc pp rec mi (pc + n) r lv (r'.toList ++ st) (cu) (su) h') := by
  simp [exS, ex1, doCall, lvE, cat_i, cat_r, cat_l, h8, hc, hs, hk]
  rfl
theorem K_272 {y0 : Nat} {ix p q c2 s2 : Nat} (hk : kd h y0 = 11) (h8 : (st.map fun v => v.category).sum ≤ 8) (hc : cu ≤ c2) (hs : su ≤ s2) : exS sc pp rec mi pc ((.invokevirtual ix, n, [272, 1, p, q, 1, 0, 0, c2, s2, 11]) :: r) lv (.ref y0 :: st) cu su h = bindR (rec 272 0 [some (.ref y0)] [] 0 0 h) (fun h' r' => exS sc pp rec mi (pc + n) r lv (r'.toList ++ st) (cu) (su) h') := by
  simp [exS, ex1, doCall, lvE, cat_i, cat_r, cat_l, h8, hc, hs, hk]
  rfl
theorem K_273 {y0 : Nat} {ix p q c2 s2 : Nat} (hk : kd h y0 = 12) (h8 : (st.map fun v => v.category).sum ≤ 8) (hc : cu ≤ c2) (hs : su ≤ s2) : exS sc pp rec mi pc ((.invokevirtual ix, n, [273, 1, p, q, 1, 0, 0, c2, s2, 12]) :: r) lv (.ref y0 :: st) cu su h = bindR (rec 273 0 [some (.ref y0)] [] 0 0 h) (fun h' r' => exS sc pp rec mi (pc + n) r lv (r'.toList ++ st) (cu) (su) h') := by
  simp [exS, ex1, doCall, lvE, cat_i, cat_r, cat_l, h8, hc, hs, hk]
  rfl
theorem K_274 {y0 : Nat} {ix p q c2 s2 : Nat} (hk : kd h y0 = 8) (h8 : (st.map fun v => v.category).sum ≤ 8) (hc : cu ≤ c2) (hs : su ≤ s2) : exS sc pp rec mi pc ((.invokevirtual ix, n, [274, 1, p, q, 3, 0, 0, c2, s2, 8]) :: r) lv (.ref y0 :: st) cu su h = bindR (rec 274 0 [some (.ref y0), none, none] [] 0 0 h) (fun h' r' => exS sc pp rec mi (pc + n) r lv (r'.toList ++ st) (cu) (su) h') := by
  simp [exS, ex1, doCall, lvE, cat_i, cat_r, cat_l, h8, hc, hs, hk]
  rfl
theorem K_275 {y0 : Nat} {y1 : Int32} {ix p q c2 s2 : Nat} (hk : kd h y0 = 11) (h8 : (st.map fun v => v.category).sum ≤ 8) (hc : cu ≤ c2) (hs : su ≤ s2) : exS sc pp rec mi pc ((.invokevirtual ix, n, [275, 2, p, q, 2, 0, 0, c2, s2, 11]) :: r) lv (.int y1 :: .ref y0 :: st) cu su h = bindR (rec 275 0 [some (.ref y0), some (.int y1)] [] 0 0 h) (fun h' r' => exS sc pp rec mi (pc + n) r lv (r'.toList ++ st) (cu) (su) h') := by
  simp [exS, ex1, doCall, lvE, cat_i, cat_r, cat_l, h8, hc, hs, hk]
  rfl
theorem K_276 {y0 : Nat} {y1 : Int32} {ix p q c2 s2 : Nat} (hk : kd h y0 = 12) (h8 : (st.map fun v => v.category).sum ≤ 8) (hc : cu ≤ c2) (hs : su ≤ s2) : exS sc pp rec mi pc ((.invokevirtual ix, n, [276, 2, p, q, 4, 0, 0, c2, s2, 12]) :: r) lv (.int y1 :: .ref y0 :: st) cu su h = bindR (rec 276 0 [some (.ref y0), some (.int y1), none, none] [] 0 0 h) (fun h' r' => exS sc pp rec mi (pc + n) r lv (r'.toList ++ st) (cu) (su) h') := by
  simp [exS, ex1, doCall, lvE, cat_i, cat_r, cat_l, h8, hc, hs, hk]
  rfl
end RunK
