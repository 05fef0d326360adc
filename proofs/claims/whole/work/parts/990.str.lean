-- the text constant: length and charAt, as the machine's own class does them
def SXa (base : Nat) (adK adV : Nat → Nat) (U : State) (H : Heap) : Prop := vk_S 1 [124] [wdB] adK adV (fun q => base ≤ q) U H ∧ va_Z "java/lang/String" "COMPACT_STRINGS" "Z" (.int 1) (fun q => base ≤ q) U H ∧ va_Zq "jdk/internal/util/Preconditions" "SIOOBE_FORMATTER" "Ljava/util/function/BiFunction;" (fun q => base ≤ q) U H
theorem SXa.same {base : Nat} {adK adV : Nat → Nat} {u U : State} {H : Heap} (hv : u.vm = U.vm) (x : SXa base adK adV u H) : SXa base adK adV U H := by
  have ha : u.vm.Alike U.vm := by rw [hv]; exact Vm.Alike.refl U.vm
  exact ⟨vk_S.moved ha x.1, va_Z.moved ha x.2.1, va_Zq.moved ha x.2.2⟩
theorem SXa.move {base : Nat} {adK adV : Nat → Nat} {s U : State} {H H1 : Heap} (hW : s.WarmedH U.vm) (hq : ∀ a : Nat, a < H.size → ¬ base ≤ a → H1[a]? = H[a]?) (x : SXa base adK adV s H) : SXa base adK adV U H1 := ⟨(vk_S.moved hW.alike x.1).kept hq, (va_Z.moved hW.alike x.2.1).kept hq, (va_Zq.moved hW.alike x.2.2).kept hq⟩
def PJ (base : Nat) (adK adV : Nat → Nat) (vs : List Value) : Array Value → State → Prop := va_Pc vs (fun U => SXa base adK adV U U.heap)
def QJ (r : Option Value) : Array Value → State → Outcome → State → Prop := fun _ st o t => o = .returned r ∧ t.heap = st.heap
theorem PJ_blind {base : Nat} {adK adV : Nat → Nat} {vs : List Value} : FrameBlind (PJ base adK adV vs) := fun a U g mk q => ⟨q.1, SXa.same (u := U) (U := U.calling g mk a) rfl q.2⟩
def jW (y : MethodName) (cc : ByteArray) (n : Nat) (ret : Option FieldType) : List Cond := .code y cc n ret :: TW
def rmJ (f k : Nat) : Room := { frames := f, cells := 0, slots := 0, locals := k }
def JM (l : Launch) (y : MethodName) (cc : ByteArray) (n : Nat) (ret : Option FieldType) (f k base : Nat) (adK adV : Nat → Nat) (vs : List Value) (r : Option Value) : Prop := Met l y (jW y cc n ret) (rmJ f k) (PJ base adK adV vs) (QJ r) 0 0 (fun _ => False)
def yLen : MethodName := ⟨"java/lang/String", "length", "()I"⟩
def yCod : MethodName := ⟨"java/lang/String", "coder", "()B"⟩
def yChr : MethodName := ⟨"java/lang/String", "charAt", "(I)C"⟩
def yLat : MethodName := ⟨"java/lang/String", "isLatin1", "()Z"⟩
def yChL : MethodName := ⟨"java/lang/StringLatin1", "charAt", "([BI)C"⟩
def yChk : MethodName := ⟨"java/lang/String", "checkIndex", "(II)V"⟩
def yPre : MethodName := ⟨"jdk/internal/util/Preconditions", "checkIndex", "(IILjava/util/function/BiFunction;)I"⟩
section Str
variable {p : Program} {l : Launch} {e : Env} {R : Room} {s : State} {m : MethodId} {args : Array Value} {below : List Frame} {meth : Method} {c : Code} {H : Heap} {locs : List Loc} {cells slots : Nat} {Q : State → Prop} {cc : ByteArray} {pc : Nat} {ls : Array Slot} {rest : List Value} {base : Nat} {adK adV : Nat → Nat}
/-- what a body of these has at hand -/
def JB (p : Program) (s : State) (m : MethodId) (args : Array Value) (c : Code) (cc : ByteArray) (nL : Nat) (own : String) : Prop := p.tables.exec = Jvm.exec ∧ c.code = cc ∧ c.maxLocals = nL ∧ s.vm.findClass own = some m.cls ∧ ∀ w ∈ TW, w.before args s = true
theorem JM.of {y : MethodName} {n f k : Nat} {ret : Option FieldType} {vs : List Value} {r : Option Value} (hy : plainName y.cls = true) (hn : (lg_sl vs).length ≤ n)
    (body : ∀ p e s m below meth c (ls : Array Slot), JB p s m vs.toArray c cc n y.cls → meth.sig.returnType = ret → meth.locks = false → SXa base adK adV s s.heap → lv_has ls n (lv_args 0 vs) → W p l e (rmJ f k) s m vs.toArray below meth c s.heap [] 0 0 (MQ below (QJ r) vs.toArray s 0 0 (fun _ => False)) (F0 m 0 ls [])) : JM l y cc n ret f k base adK adV vs r := by
  refine Met.ofW (cc := cc) (maxL := n) (ret := ret) hy rfl ?_
  intro p e s m args below meth c s₁ B hml hv
  obtain ⟨rfl, hX⟩ := hv
  have hts := atoms_spec (ws := jW y cc n ret) B.pre
  rw [lg_entry_eq]
  exact body p e s m below meth c _ ⟨B.exec, B.bytes, hml, findClass_of_methodNamed B.named, fun w hw => hts w (List.mem_cons_of_mem _ hw)⟩ B.returns B.notSynchronized hX (lv_entry vs hn)
/-- a pure call, behind it all is as ahead -/
theorem j_go {mc ms : Nat} {st0 : List Value} {a : Array Value} {r : Option Value} (hr : va_Run p l e R s m args below meth c H locs cells slots 0 0 (F0 m pc ls st0) rest (QJ r a) (fun _ => False)) (kk : W p l e R s m args below meth c H locs cells slots Q (F0 m (pc + 3) ls (r.toList ++ rest))) : W p l e R s m args below meth c H locs cells slots Q (F0 m pc ls st0) := by
  intro T hT X
  obtain ⟨v, st₀, t, T', L, h0, X', hL, e1, e2, ⟨hv, hp⟩, st⟩ := hr T hT X
  cases hv
  have hL0 : L = [] := by
    cases L with
    | nil => rfl
    | cons q L => exact (hL q List.mem_cons_self).elim
  subst hL0
  rw [List.append_nil] at X'
  obtain ⟨t2, a1, b1⟩ := kk T' (by rw [e1, hp, h0]) X'
  exact ⟨t2, st t2 a1, b1⟩
theorem j_callV {own : String} {nL : Nat} {y : MethodName} {cy : ByteArray} {ny f k idx : Nat} {ry : Option FieldType} {b : Nat} {As : List Value} {r : Option Value} (B : JB p s m args c cc nL own) (hX : SXa base adK adV s s.heap) (hS : va_S (fun q => base ≤ q) s.heap H locs) (hM : JM l y cy ny ry f k base adK adV (.ref b :: As) r) (hb : b = adK 0) (hy : y.cls = "java/lang/String") (w1 : Cond.methodLink own idx y ∈ TW) (w2 : Cond.instanceMethod y ∈ TW) (w3 : Cond.selects y.cls y y ∈ TW) (w4 : Cond.initialized y.cls ∈ TW) (w5 : Cond.code y cy ny ry ∈ TW) (hn : (parseMethodDescriptor y.desc).map (fun d => d.parameters.length) = some As.length) (hR : f + 1 ≤ R.frames ∧ 8 + (ny + 11) + k ≤ R.locals) (hcr : cells ≤ R.cells) (hsr : slots ≤ R.slots) (hsz : ls.size = nL) (h8 : (rest.map fun v => v.category).sum ≤ 8) (hd : decode cc pc = .ok (.invokevirtual idx, 3))
    (kk : W p l e R s m args below meth c H locs cells slots Q (F0 m (pc + 3) ls (r.toList ++ rest))) : W p l e R s m args below meth c H locs cells slots Q (F0 m pc ls (As.reverse ++ .ref b :: rest)) := by
  have hT : GoodIn TW (wsV own idx y.cls y (jW y cy ny ry)) := by
    intro w hw
    rcases List.mem_append.mp hw with hw | hw
    · simp only [List.mem_cons, List.mem_nil_iff, or_false] at hw
      rcases hw with rfl | rfl | rfl | rfl
      · exact tw_good w1
      · exact tw_good w2
      · exact tw_good w3
      · exact tw_good w4
    · rcases List.mem_cons.mp hw with rfl | hw
      · exact tw_good w5
      · exact tw_good hw
  have hrecv : ∃ cell : Cell, H[b]? = some cell ∧ cell.vm.isStatics = false ∧ s.vm.findClass y.cls = some cell.cls := by
    rw [hy, hb]
    exact vk_recv hX.1 (by omega) hS
  have hr := va_runV (As := As) (rest := rest) (b := b) (g := F0 m pc ls (As.reverse ++ .ref b :: rest)) (H := H) (locs := locs) (cells := cells) (slots := slots) (e := e) (below := below) (meth := meth) (R := R) (cc := cc) (nL := nL) (Ts := TW) (own := own) B hM (cwV As.length B.2.2.2.2 hT rfl rfl rfl ⟨rfl, by rw [hy]; decide, by rw [hy]; decide, hn⟩ hR) ⟨PJ_blind, hrecv, fun U hU hWm => ⟨rfl, SXa.move hWm (fun a h1 h2 => by rw [hU]; exact hS.2.1 a h1 h2) hX⟩⟩ rfl rfl hsz rfl (by show 2 * 0 + _ ≤ 8; omega) hd ⟨by omega, by omega⟩
  exact j_go (mc := 0) (ms := 0) hr kk
theorem j_callS {own : String} {nL : Nat} {y : MethodName} {cy : ByteArray} {ny f k idx : Nat} {ry : Option FieldType} {As : List Value} {r : Option Value} (B : JB p s m args c cc nL own) (hX : SXa base adK adV s s.heap) (hS : va_S (fun q => base ≤ q) s.heap H locs) (hM : JM l y cy ny ry f k base adK adV As r) (hy : y.cls ≠ "java/lang/invoke/MethodHandle" ∧ y.cls ≠ "java/lang/invoke/VarHandle") (w1 : Cond.methodLink own idx y ∈ TW) (w2 : Cond.static y ∈ TW) (w4 : Cond.initialized y.cls ∈ TW) (w5 : Cond.code y cy ny ry ∈ TW) (hn : (parseMethodDescriptor y.desc).map (fun d => d.parameters.length) = some As.length) (hR : f + 1 ≤ R.frames ∧ 8 + (ny + 11) + k ≤ R.locals) (hcr : cells ≤ R.cells) (hsr : slots ≤ R.slots) (hsz : ls.size = nL) (h8 : (rest.map fun v => v.category).sum ≤ 8) (hd : decode cc pc = .ok (.invokestatic idx, 3))
    (kk : W p l e R s m args below meth c H locs cells slots Q (F0 m (pc + 3) ls (r.toList ++ rest))) : W p l e R s m args below meth c H locs cells slots Q (F0 m pc ls (As.reverse ++ rest)) := by
  have hT : GoodIn TW (va_wsS own idx y (jW y cy ny ry)) := by
    intro w hw
    rcases List.mem_append.mp hw with hw | hw
    · simp only [List.mem_cons, List.mem_nil_iff, or_false] at hw
      rcases hw with rfl | rfl | rfl
      · exact tw_good w1
      · exact tw_good w2
      · exact tw_good w4
    · rcases List.mem_cons.mp hw with rfl | hw
      · exact tw_good w5
      · exact tw_good hw
  have hr := va_runS (As := As) (rest := rest) (g := F0 m pc ls (As.reverse ++ rest)) (H := H) (locs := locs) (cells := cells) (slots := slots) (e := e) (below := below) (meth := meth) (R := R) (cc := cc) (nL := nL) (Ts := TW) (own := own) B hM (va_cwS As.length B.2.2.2.2 hT rfl rfl rfl ⟨hy.1, hy.2, hn⟩ hR) ⟨PJ_blind, fun U hU hWm => ⟨rfl, SXa.move hWm (fun a h1 h2 => by rw [hU]; exact hS.2.1 a h1 h2) hX⟩⟩ rfl rfl hsz rfl (by show 2 * 0 + _ ≤ 8; omega) hd ⟨by omega, by omega⟩
  exact j_go (mc := 0) (ms := 0) hr kk
end Str
