/-- where a static field lies, its class's statics cell in H -/
def vx_L (C n d : String) (A : Nat → Prop) (U : State) (H : Heap) : Prop := ∃ (c : ClassId) (k : Class) (i : Nat) (f : Field) (a : Nat) (cell : Cell), U.vm.findClass C = some c ∧ U.fieldFound? C n d = some (c, k, i, f) ∧ f.isStatic = true ∧ k.statics = some a ∧ H[a]? = some cell ∧ cell.vm.isStatics = true ∧ cell.cls = c ∧ f.slot < cell.slots.size ∧ k.staticTypes[f.slot]? = some f.type ∧ ¬ A a
theorem vx_L.moved {C n d : String} {A : Nat → Prop} {u U : State} {H : Heap} (hvm : u.vm.Alike U.vm) (h : vx_L C n d A u H) : vx_L C n d A U H := by
  obtain ⟨c, k, i, f, a, cell, h1, h2, h3, h4, h5, h6, h7, h8, h9, h10⟩ := h
  obtain ⟨k', hi', he⟩ := State.fieldFound?_setVm hvm h2
  exact ⟨c, k', i, f, a, cell, by rw [hvm.findClass]; exact h1, hi', h3, by rw [he]; exact h4, h5, h6, h7, h8, by rw [he]; exact h9, h10⟩
theorem vx_L.kept {C n d : String} {A : Nat → Prop} {U : State} {H H1 : Heap} (h : vx_L C n d A U H) (hq : ∀ a : Nat, a < H.size → ¬ A a → H1[a]? = H[a]?) : vx_L C n d A U H1 := by
  obtain ⟨c, k, i, f, a, cell, h1, h2, h3, h4, h5, h6, h7, h8, h9, h10⟩ := h
  exact ⟨c, k, i, f, a, cell, h1, h2, h3, h4, by rw [hq a (Array.getElem?_eq_some_iff.mp h5).1 h10]; exact h5, h6, h7, h8, h9, h10⟩
theorem vx_L.narrow {C n d : String} {A B : Nat → Prop} {U : State} {H : Heap} (h : vx_L C n d A U H) (hAB : ∀ q, B q → A q) : vx_L C n d B U H := by
  obtain ⟨c, k, i, f, a, cell, h1, h2, h3, h4, h5, h6, h7, h8, h9, h10⟩ := h
  exact ⟨c, k, i, f, a, cell, h1, h2, h3, h4, h5, h6, h7, h8, h9, fun z => h10 (hAB _ z)⟩
theorem vx_L.word {C n d : String} {A : Nat → Prop} {s : State} {args : Array Value} (h : vx_L C n d A s s.heap) : (Cond.laysStatic C n d).before args s = true := by
  obtain ⟨c, k, i, f, a, cell, h1, h2, h3, h4, h5, h6, h7, h8, h9, -⟩ := h
  show (Cond.laysStatic C n d).holds args s none s [] = true
  exact Cond.laysStatic_of h1 h2 h3 h4 h5 h6 h7 h8 h9
/-- .. and what it holds: null or some reference -/
def vx_Zq (C n d : String) (A : Nat → Prop) (U : State) (H : Heap) : Prop := va_Zq C n d A U H ∧ vx_L C n d A U H
theorem vx_Zq.moved {C n d : String} {A : Nat → Prop} {u U : State} {H : Heap} (hvm : u.vm.Alike U.vm) (h : vx_Zq C n d A u H) : vx_Zq C n d A U H := ⟨va_Zq.moved hvm h.1, vx_L.moved hvm h.2⟩
theorem vx_Zq.kept {C n d : String} {A : Nat → Prop} {U : State} {H H1 : Heap} (h : vx_Zq C n d A U H) (hq : ∀ a : Nat, a < H.size → ¬ A a → H1[a]? = H[a]?) : vx_Zq C n d A U H1 := ⟨va_Zq.kept h.1 hq, vx_L.kept h.2 hq⟩
theorem vx_Zq.narrow {C n d : String} {A B : Nat → Prop} {U : State} {H : Heap} (h : vx_Zq C n d A U H) (hAB : ∀ q, B q → A q) : vx_Zq C n d B U H := ⟨va_Zq.narrow h.1 hAB, vx_L.narrow h.2 hAB⟩
theorem vx_Zqof {args : Array Value} {s : State} {C n d : String} {A : Nat → Prop} (hl : (Cond.laysStatic C n d).before args s = true) (hini : (Cond.initialized C).before args s = true) (h : (Cond.isRef (.static C n d)).before args s = true) (hA : ∀ a : Nat, a < s.heap.size → ¬ A a) : vx_Zq C n d A s s.heap := by
  refine ⟨va_Zqof hl hini h hA, ?_⟩
  obtain ⟨c, k, i, f, a, cell, h1, h2, h3, h4, h5, h6, h7, h8, h9⟩ := Cond.laysStatic_spec hl
  exact ⟨c, k, i, f, a, cell, h1, h2, h3, h4, h5, h6, h7, h8, h9, hA a (Array.getElem?_eq_some_iff.mp h5).1⟩
theorem vx_isRef {C n d : String} {v : Value} {A : Nat → Prop} {s : State} {args : Array Value} (h : va_Z C n d v A s s.heap) (hv : v.isRef = true) : (Cond.isRef (.static C n d)).before args s = true := by
  obtain ⟨cf, kf, fi, f, a, cell, h1, h2, h3, h4, h5, h6, h7, -⟩ := h
  have he : (Term.static C n d).eval args s none [] s = some v := by
    simp [Term.eval, State.fieldNamed?, h1, h2, h4, h5, h6, h7]
  simp only [Cond.before, Cond.holds, Cond.value, he]
  cases v <;> simp_all [Value.isRef]
theorem vx_isRefq {C n d : String} {A : Nat → Prop} {s : State} {args : Array Value} (h : va_Zq C n d A s s.heap) : (Cond.isRef (.static C n d)).before args s = true := by
  rcases h with h | ⟨t, h⟩
  · exact vx_isRef h rfl
  · exact vx_isRef h rfl
/-- the texts of the class's throws: entry and text -/
def thrS : List (Nat × String) := [(83, "the text has a fault"), (127, "no such core"), (153, "1 to 200 rounds"), (180, "the schedule has a fault"), (202, "nothing such in the trace"), (211, "nothing such of a core"), (232, "no such copy"), (241, "nothing such in the home"), (251, "no such word"), (275, "no such message")]
def thrE : List String := ["java/lang/IllegalArgumentException", "java/lang/IndexOutOfBoundsException", "java/util/NoSuchElementException"]
def thrD : List MethodName := [⟨"java/lang/RuntimeException", "<init>", "(Ljava/lang/String;)V"⟩, ⟨"java/lang/Exception", "<init>", "(Ljava/lang/String;)V"⟩, ⟨"java/lang/Throwable", "<init>", "(Ljava/lang/String;)V"⟩]
/-- what a throw needs of the start -/
def SxT (X : Cx) (U : State) (H : Heap) : Prop := vx_Zq "java/lang/Throwable" "UNASSIGNED_STACK" "[Ljava/lang/StackTraceElement;" (fun q => xB X ≤ q) U H ∧ vx_Zq "java/lang/Throwable" "SUPPRESSED_SENTINEL" "Ljava/util/List;" (fun q => xB X ≤ q) U H ∧ (∀ E ∈ thrE, va_Nw (.castable E E) U) ∧ (∀ t ∈ thrS, ∃ a, vk_R "CoreHouse" t.1 t.2 a U) ∧ ∀ y ∈ thrD, va_Nw (.declares y) U
theorem SxT.same {X : Cx} {u U : State} {H : Heap} (hv : U.vm = u.vm) (h : SxT X u H) : SxT X U H := by
  have hvm : u.vm.Alike U.vm := by rw [hv]; exact Vm.Alike.refl _
  exact ⟨h.1.moved hvm, h.2.1.moved hvm, fun E hE => va_Nw.same rfl hv.symm (h.2.2.1 E hE), fun t ht => (h.2.2.2.1 t ht).elim fun a q => ⟨a, q.same hv⟩, fun y hy => va_Nw.same rfl hv.symm (h.2.2.2.2 y hy)⟩
theorem SxT.moved {X : Cx} {s U : State} {H H1 : Heap} (hW : s.WarmedH U.vm) (hq : ∀ a : Nat, a < H.size → ¬ xB X ≤ a → H1[a]? = H[a]?) (h : SxT X s H) : SxT X U H1 :=
  ⟨(h.1.moved hW.alike).kept hq, (h.2.1.moved hW.alike).kept hq, fun E hE => va_Nw.warmC hW (h.2.2.1 E hE), fun t ht => (h.2.2.2.1 t ht).elim fun a q => ⟨a, q.warm hW⟩, fun y hy => va_Nw.warmD hW (h.2.2.2.2 y hy)⟩
/-! The constants of the program: what the start says of them, and that it stays. -/
def nestF : List (String × Nat × String × String × String × String) := [("CoreHouse$Pool", 37, "CoreHouse", "CHANNELS", "[I", "CoreHouse"), ("CoreHouse$Assembler", 123, "CoreHouse", "MNEMONICS", "[LCoreHouse$Mnemonic;", "CoreHouse"), ("CoreHouse$Stores", 32, "CoreHouse", "BYTE_BITS", "[I", "CoreHouse"), ("CoreHouse$Core", 189, "CoreHouse", "BYTE_BITS", "[I", "CoreHouse")]
def nestM : List (String × Nat × MethodName × String) := [("CoreHouse", 11, ⟨"CoreHouse$Tape", "<init>", "()V"⟩, "CoreHouse"), ("CoreHouse", 27, ⟨"CoreHouse$Pool", "<init>", "()V"⟩, "CoreHouse"), ("CoreHouse$Core", 17, ⟨"CoreHouse$Stores", "<init>", "()V"⟩, "CoreHouse"), ("CoreHouse$Core", 24, ⟨"CoreHouse$Cache", "<init>", "()V"⟩, "CoreHouse"), ("CoreHouse$Core", 31, ⟨"CoreHouse$Trace", "<init>", "()V"⟩, "CoreHouse"), ("CoreHouse", 98, ⟨"CoreHouse$Home", "begin", "(II)V"⟩, "CoreHouse"), ("CoreHouse", 112, ⟨"CoreHouse$Core", "begin", "(IIII)V"⟩, "CoreHouse"), ("CoreHouse$Core", 220, ⟨"CoreHouse", "wordOf", "(II)I"⟩, "CoreHouse")]
def ldcN : List (Nat × String) := [(153, "add"), (155, "sub"), (157, "sll"), (159, "slt"), (161, "sltu"), (163, "xor"), (165, "srl"), (167, "sra"), (169, "or"), (171, "and"), (173, "addi"), (175, "slti"), (177, "sltiu"), (179, "xori"), (181, "ori"), (183, "andi"), (185, "slli"), (187, "srli"), (189, "srai"), (191, "lb"), (193, "lh"), (195, "lw"), (197, "lbu"), (199, "lhu"), (201, "sb"), (203, "sh"), (205, "sw"), (207, "beq"), (209, "bne"), (211, "blt"), (213, "bge"), (215, "bltu"), (217, "bgeu"), (219, "lui"), (221, "auipc"), (223, "jal"), (225, "jalr"), (227, "amoswap"), (229, "amoadd"), (231, "amoxor"), (233, "amoand"), (235, "amoor"), (237, "amomin"), (239, "amomax"), (241, "amominu"), (243, "amomaxu"), (245, "fence"), (247, "ecall"), (249, "ebreak"), (251, "nop"), (253, "mv"), (255, "not"), (257, "neg"), (259, "j"), (261, "ret"), (263, "beqz"), (265, "bnez"), (267, "li"), (269, "word"), (271, "org"), (273, "core")]
abbrev xAr (X : Cx) : Nat → Prop := fun q => xB X ≤ q
/-- a static that is only carried: null, or some reference -/
def rq (X : Cx) : Value := if xA X 3 = 0 then .null else .ref (xA X 4)
theorem rq_cat (X : Cx) : (rq X).category = 1 := by unfold rq; split <;> rfl
def SxE (X : Cx) (j : Nat) (U : State) (H : Heap) : Prop := va_OF "CoreHouse$Mnemonic" "key" "J" (.long (mKey.getD j 0)) (xA X (100 + j)) (xAr X) U H ∧ va_OF "CoreHouse$Mnemonic" "form" "I" (.int (mForm.getD j 0)) (xA X (100 + j)) (xAr X) U H ∧ va_OF "CoreHouse$Mnemonic" "base" "I" (.int (mBase.getD j 0)) (xA X (100 + j)) (xAr X) U H ∧ va_OF "CoreHouse$Mnemonic" "operands" "Ljava/lang/String;" (.ref (xA X (1000 + mOps.getD j 0))) (xA X (100 + j)) (xAr X) U H
def SxS (X : Cx) (i : Nat) (U : State) (H : Heap) : Prop := va_O "java/lang/String" (xA X (1000 + i)) (xAr X) U H ∧ va_OF "java/lang/String" "coder" "B" (.int 0) (xA X (1000 + i)) (xAr X) U H ∧ va_OF "java/lang/String" "value" "[B" (.ref (xA X (2000 + i))) (xA X (1000 + i)) (xAr X) U H ∧ va_T .byte (xA X (2000 + i)) (sLen.getD (i - 1) 0) (fun j => .int ((sByt.getD (i - 1) []).getD j 0)) (xAr X) U H
def SxZ (X : Cx) (U : State) (H : Heap) : Prop := (va_Z "CoreHouse" "CHANNELS" "[I" (.ref (xA X 0)) (xAr X) U H ∧ va_T .int (xA X 0) 11 (fun j => .int (tCH.getD j 0)) (xAr X) U H) ∧
  (va_Z "CoreHouse" "BYTE_BITS" "[I" (.ref (xA X 1)) (xAr X) U H ∧ va_T .int (xA X 1) 16 (fun j => .int (tBB.getD j 0)) (xAr X) U H) ∧
  (va_Z "CoreHouse" "MNEMONICS" "[LCoreHouse$Mnemonic;" (.ref (xA X 2)) (xAr X) U H ∧ va_T (.object "CoreHouse$Mnemonic") (xA X 2) 61 (fun j => .ref (xA X (100 + j))) (xAr X) U H) ∧
  va_Z "java/lang/String" "COMPACT_STRINGS" "Z" (.int 1) (xAr X) U H ∧ va_Z "jdk/internal/util/Preconditions" "SIOOBE_FORMATTER" "Ljava/util/function/BiFunction;" (rq X) (xAr X) U H
def SxN (U : State) : Prop := (∀ t ∈ nestF, va_Nw (.fieldLinkNest t.1 t.2.1 t.2.2.1 t.2.2.2.1 t.2.2.2.2.1 t.2.2.2.2.2) U) ∧ (∀ t ∈ nestM, va_Nw (.methodLinkNest t.1 t.2.1 t.2.2.1 t.2.2.2) U) ∧ va_AO "CoreHouse$Core" U ∧ va_AO "java/lang/String" U ∧ True
def SxR (X : Cx) (U : State) : Prop := ∀ (j : Nat) (t : Nat × String), ldcN[j]? = some t → vk_R "CoreHouseModel" t.1 t.2 (xA X (1001 + j)) U
/-- what the constants hold -/
def Sx (X : Cx) (U : State) (H : Heap) : Prop := SxZ X U H ∧ (∀ j, j < 61 → SxE X j U H) ∧ (∀ i, 0 < i → i ≤ sNum → SxS X i U H) ∧ SxN U ∧ SxR X U ∧ SxT X U H
theorem SxZ.go {X : Cx} {u U : State} {H H1 : Heap} (hvm : u.vm.Alike U.vm) (hq : ∀ a : Nat, a < H.size → ¬ xAr X a → H1[a]? = H[a]?) (h : SxZ X u H) : SxZ X U H1 :=
  ⟨⟨(h.1.1.moved hvm).kept hq, (h.1.2.moved hvm).kept hq⟩, ⟨(h.2.1.1.moved hvm).kept hq, (h.2.1.2.moved hvm).kept hq⟩, ⟨(h.2.2.1.1.moved hvm).kept hq, (h.2.2.1.2.moved hvm).kept hq⟩, (h.2.2.2.1.moved hvm).kept hq, (h.2.2.2.2.moved hvm).kept hq⟩
theorem SxE.go {X : Cx} {j : Nat} {u U : State} {H H1 : Heap} (hvm : u.vm.Alike U.vm) (hq : ∀ a : Nat, a < H.size → ¬ xAr X a → H1[a]? = H[a]?) (h : SxE X j u H) : SxE X j U H1 :=
  ⟨(h.1.moved hvm).kept hq, (h.2.1.moved hvm).kept hq, (h.2.2.1.moved hvm).kept hq, (h.2.2.2.moved hvm).kept hq⟩
theorem SxS.go {X : Cx} {j : Nat} {u U : State} {H H1 : Heap} (hvm : u.vm.Alike U.vm) (hq : ∀ a : Nat, a < H.size → ¬ xAr X a → H1[a]? = H[a]?) (h : SxS X j u H) : SxS X j U H1 :=
  ⟨(h.1.moved hvm).kept hq, (h.2.1.moved hvm).kept hq, (h.2.2.1.moved hvm).kept hq, (h.2.2.2.moved hvm).kept hq⟩
theorem Sx.same {X : Cx} {u U : State} {H : Heap} (hv : U.vm = u.vm) (h : Sx X u H) : Sx X U H := by
  have hvm : u.vm.Alike U.vm := by rw [hv]; exact Vm.Alike.refl _
  obtain ⟨h1, h2, h3, h4, h5, h6⟩ := h
  exact ⟨h1.go hvm (fun _ _ _ => rfl), fun j hj => (h2 j hj).go hvm (fun _ _ _ => rfl), fun i hi hj => (h3 i hi hj).go hvm (fun _ _ _ => rfl), ⟨fun t ht => va_Nw.same rfl hv.symm (h4.1 t ht), fun t ht => va_Nw.same rfl hv.symm (h4.2.1 t ht), h4.2.2.1.moved hvm, h4.2.2.2.1.moved hvm, trivial⟩, fun j t ht => (h5 j t ht).same hv, h6.same hv⟩
theorem Sx.moved {X : Cx} {s U : State} {locs : List Loc} (hW : s.WarmedH U.vm) (hS : va_S (fun q => xB X ≤ q) s.heap U.heap locs) (h : Sx X s s.heap) : Sx X U U.heap := by
  have hvm : s.vm.Alike U.vm := hW.alike
  obtain ⟨h1, h2, h3, h4, h5, h6⟩ := h
  exact ⟨h1.go hvm hS.2.1, fun j hj => (h2 j hj).go hvm hS.2.1, fun i hi hj => (h3 i hi hj).go hvm hS.2.1, ⟨fun t ht => va_Nw.warmF hW (h4.1 t ht), fun t ht => va_Nw.warmM hW (h4.2.1 t ht), h4.2.2.1.moved hvm, h4.2.2.2.1.moved hvm, trivial⟩, fun j t ht => (h5 j t ht).warm hW, h6.moved hW hS.2.1⟩
