-- what the machine's own classes hold, carried along
def ioN : String := "java/lang/IndexOutOfBoundsException"
def nsN : String := "java/util/NoSuchElementException"
def supN : List String := ["java/lang/RuntimeException", "java/lang/Exception"]
def decW : List Cond := [.declares ⟨"java/lang/RuntimeException", "<init>", "()V"⟩, .declares ⟨"java/lang/Exception", "<init>", "()V"⟩, .declares ⟨"java/lang/Throwable", "<init>", "()V"⟩]
/-- what a throw reads of the machine -/
def XS (base : Nat) (U : State) (H : Heap) : Prop := vx_Zq Bundle.tN "UNASSIGNED_STACK" Bundle.steD (fun q => base ≤ q) U H ∧ vx_Zq Bundle.tN "SUPPRESSED_SENTINEL" Bundle.listD (fun q => base ≤ q) U H ∧ (va_Nw (.castable ioN ioN) U ∧ va_Nw (.castable nsN nsN) U) ∧ (va_Nw (.declares ⟨"java/lang/RuntimeException", "<init>", "()V"⟩) U ∧ va_Nw (.declares ⟨"java/lang/Exception", "<init>", "()V"⟩) U ∧ va_Nw (.declares ⟨"java/lang/Throwable", "<init>", "()V"⟩) U) ∧ va_Nc nsN ioN U
theorem XS.same {base : Nat} {u U : State} {H : Heap} (hv : u.vm = U.vm) (x : XS base u H) : XS base U H := by
  have ha : u.vm.Alike U.vm := by rw [hv]; exact Vm.Alike.refl U.vm
  exact ⟨x.1.moved ha, x.2.1.moved ha, ⟨va_Nw.same rfl hv x.2.2.1.1, va_Nw.same rfl hv x.2.2.1.2⟩, ⟨va_Nw.same rfl hv x.2.2.2.1.1, va_Nw.same rfl hv x.2.2.2.1.2.1, va_Nw.same rfl hv x.2.2.2.1.2.2⟩, x.2.2.2.2.moved ha⟩
theorem XS.move {base : Nat} {s U : State} {H H1 : Heap} (hW : s.WarmedH U.vm) (hq : ∀ a : Nat, a < H.size → ¬ base ≤ a → H1[a]? = H[a]?) (x : XS base s H) : XS base U H1 := ⟨(x.1.moved hW.alike).kept hq, (x.2.1.moved hW.alike).kept hq, ⟨va_Nw.warmC hW x.2.2.1.1, va_Nw.warmC hW x.2.2.1.2⟩, ⟨va_Nw.warmD hW x.2.2.2.1.1, va_Nw.warmD hW x.2.2.2.1.2.1, va_Nw.warmD hW x.2.2.2.1.2.2⟩, x.2.2.2.2.moved hW.alike⟩
def txW : String := "fact person knows ask talk nine seed law plain double back idle none slip hear or and not lips wit lost heard room kind day "
def wdB : List Int32 := [102, 97, 99, 116, 32, 112, 101, 114, 115, 111, 110, 32, 107, 110, 111, 119, 115, 32, 97, 115, 107, 32, 116, 97, 108, 107, 32, 110, 105, 110, 101, 32, 115, 101, 101, 100, 32, 108, 97, 119, 32, 112, 108, 97, 105, 110, 32, 100, 111, 117, 98, 108, 101, 32, 98, 97, 99, 107, 32, 105, 100, 108, 101, 32, 110, 111, 110, 101, 32, 115, 108, 105, 112, 32, 104, 101, 97, 114, 32, 111, 114, 32, 97, 110, 100, 32, 110, 111, 116, 32, 108, 105, 112, 115, 32, 119, 105, 116, 32, 108, 111, 115, 116, 32, 104, 101, 97, 114, 100, 32, 114, 111, 111, 109, 32, 107, 105, 110, 100, 32, 100, 97, 121, 32]
/-- the text constant of the words -/
def SX (base : Nat) (U : State) (H : Heap) : Prop := (∃ adK adV : Nat → Nat, vk_S 1 [124] [wdB] adK adV (fun q => base ≤ q) U H ∧ vk_R "AskedCourt$Tokens" 16 txW (adK 0) U) ∧ va_Z "java/lang/String" "COMPACT_STRINGS" "Z" (.int 1) (fun q => base ≤ q) U H ∧ va_Zq "jdk/internal/util/Preconditions" "SIOOBE_FORMATTER" "Ljava/util/function/BiFunction;" (fun q => base ≤ q) U H
theorem SX.same {base : Nat} {u U : State} {H : Heap} (hv : u.vm = U.vm) (x : SX base u H) : SX base U H := by
  have ha : u.vm.Alike U.vm := by rw [hv]; exact Vm.Alike.refl U.vm
  obtain ⟨⟨adK, adV, h1, h2⟩, h3, h4⟩ := x
  exact ⟨⟨adK, adV, vk_S.moved ha h1, vk_R.same hv.symm h2⟩, va_Z.moved ha h3, va_Zq.moved ha h4⟩
theorem SX.move {base : Nat} {s U : State} {H H1 : Heap} (hW : s.WarmedH U.vm) (hq : ∀ a : Nat, a < H.size → ¬ base ≤ a → H1[a]? = H[a]?) (x : SX base s H) : SX base U H1 := by
  obtain ⟨⟨adK, adV, h1, h2⟩, h3, h4⟩ := x
  exact ⟨⟨adK, adV, (vk_S.moved hW.alike h1).kept hq, vk_R.warm hW h2⟩, (va_Z.moved hW.alike h3).kept hq, (va_Zq.moved hW.alike h4).kept hq⟩
def XX (base : Nat) (U : State) : Prop := XS base U U.heap ∧ SX base U U.heap
theorem XX.same {base : Nat} {u U : State} (hv : u.vm = U.vm) (hh : u.heap = U.heap) (x : XX base u) : XX base U := ⟨by rw [← hh]; exact XS.same hv x.1, by rw [← hh]; exact SX.same hv x.2⟩
theorem XX.warm {base : Nat} {s U : State} (hW : s.WarmedH U.vm) (hq : ∀ a : Nat, a < s.heap.size → ¬ base ≤ a → U.heap[a]? = s.heap[a]?) (x : XX base s) : XX base U := ⟨XS.move hW hq x.1, SX.move hW hq x.2⟩
def KSZ (base : Nat) (D : va_G) (cy : Nat → ClassId) (s : State) : Prop := va_K D vwCl (tysE cy) s ∧ (∀ w ∈ nestW, va_Nw w s) ∧ va_AO "AskedCourt$State" s ∧ XX base s
theorem KSZ.ks {base : Nat} {D : va_G} {cy : Nat → ClassId} {s : State} (k : KSZ base D cy s) : KS D cy s := ⟨k.1, k.2.1, k.2.2.1⟩
theorem KSZ.same {base : Nat} {D : va_G} {cy : Nat → ClassId} {u U : State} (hv : u.vm = U.vm) (hh : u.heap = U.heap) (k : KSZ base D cy u) : KSZ base D cy U := ⟨(KS.same hv k.ks).1, (KS.same hv k.ks).2.1, (KS.same hv k.ks).2.2, k.2.2.2.same hv hh⟩
theorem KSZ.warm {base : Nat} {D : va_G} {cy : Nat → ClassId} {s U : State} (hW : s.WarmedH U.vm) (hq : ∀ a : Nat, a < s.heap.size → ¬ base ≤ a → U.heap[a]? = s.heap[a]?) (k : KSZ base D cy s) : KSZ base D cy U := ⟨(KS.warm hW k.ks).1, (KS.warm hW k.ks).2.1, (KS.warm hW k.ks).2.2, k.2.2.2.warm hW hq⟩
