/-! What a method is: its name, code, locals, answer, frames and locals' words that it needs. -/
abbrev Mt : Type := MethodName × ByteArray × Nat × Option FieldType × Nat × Nat
abbrev Rs : Type := (Option Value ⊕ String) × AH
def gw : List Cond := lw_tbl.filter goodWord
theorem mem_gw {w : Cond} (i : Nat) (h : lw_tbl[i]? = some w) (g : goodWord w = true) : w ∈ gw := List.mem_filter.mpr ⟨List.mem_of_getElem? h, g⟩
theorem good_gw : GoodIn gw gw := fun w hw => ⟨hw, good_of_word (List.mem_filter.mp hw).2⟩
/-- a state at a method's start: the heaps, the tables, the constants -/
def Wd (X : Cx) (h g : AH) (U : State) : Prop := Rl X h g U.heap ∧ va_K (xD X) vwCl (tysX X) U ∧ Sx X U U.heap
def Qr (X : Cx) (v : Option Value) (h g : AH) : Array Value → State → Outcome → State → Prop := fun _ st oc t => (oc = .returned v ∧ Rl X h g t.heap) ∧ va_F (xAr X) st t
/-- behind a throw: how many cells came isn't said -/
def Qx (X : Cx) (E : String) (h g : AH) : String → State → State → Prop := fun E' st t => E' = E ∧ (∃ n, Rl X (hB h n) g t.heap) ∧ va_F (xAr X) st t
def En (X : Cx) (r : Rs) (g : AH) (below : List Frame) (args : Array Value) (s : State) (R : Room) : State → Prop := match r.1 with
  | .inl v => MQ below (Qr X v r.2 g) args s R.cells R.slots (xAr X)
  | .inr E => vx_MQ below (fun _ _ _ _ => False) (Qx X E r.2 g) args s R.cells R.slots (xAr X)
def Fx (X : Cx) (k : Mt) (r : Rs) (p : Program) (R : Room) (s : State) (m : MethodId) (args : Array Value) (meth : Method) (c : Code) : Prop :=
  p.tables.exec = Jvm.exec ∧ c.code = k.2.1 ∧ c.maxLocals = k.2.2.1 ∧ meth.sig.returnType = k.2.2.2.1 ∧ meth.locks = false ∧ (∀ w ∈ gw, w.before args s = true) ∧ s.vm.findClass k.1.cls = some m.cls ∧ meth.name = k.1.name ∧
  k.2.2.2.2.1 ≤ R.frames ∧ k.2.2.2.2.2 ≤ R.locals ∧ va_K (xD X) vwCl (tysX X) s ∧ Sx X s s.heap ∧ xB X ≤ s.heap.size ∧ (match r.1 with
    | .inl _ => True
    | .inr _ => ∀ x ∈ c.exceptionTable.toList, False)
def Go (l : Launch) (X : Cx) (k : Mt) (pc : Nat) (L : List (Nat × Value)) (st : List Value) (h : AH) (r : Rs) : Prop := (hZ h ≤ hZ r.2 ∧ hV h ≤ hV r.2) ∧
  ∀ (g : AH) (p : Program) (e : Env) (R : Room) (s : State) (m : MethodId) (args : Array Value) (below : List Frame) (meth : Method) (c : Code), Fx X k r p R s m args meth c →
  ∀ (H : Heap) (locs : List Loc) (cells slots : Nat) (ls : Array Slot), va_S (xAr X) s.heap H locs → Rl X h g H → cells + hZ r.2 ≤ R.cells + hZ h → slots + hV r.2 ≤ R.slots + hV h → lv_has ls k.2.2.1 L →
  W p l e R s m args below meth c H locs cells slots (En X r g below args s R) (F0 m pc ls st)
section GO
variable {l : Launch} {X : Cx} {k : Mt} {pc : Nat} {L : List (Nat × Value)} {st : List Value} {h : AH} {r : Rs}
/-- an instruction that leaves the heap: by a row of the kit -/
theorem Go.of {pc' : Nat} {st' : List Value}
    (hw : ∀ (p : Program) (e : Env) (R : Room) (s : State) (m : MethodId) (args : Array Value) (below : List Frame) (meth : Method) (c : Code) (H : Heap) (locs : List Loc) (cells slots : Nat) (ls : Array Slot) (Q : State → Prop) (g : AH), Fx X k r p R s m args meth c → va_S (xAr X) s.heap H locs → Rl X h g H → lv_has ls k.2.2.1 L →
      W p l e R s m args below meth c H locs cells slots Q (F0 m pc' ls st') → W p l e R s m args below meth c H locs cells slots Q (F0 m pc ls st))
    (kk : Go l X k pc' L st' h r) : Go l X k pc L st h r :=
  ⟨kk.1, fun g p e R s m args below meth c F H locs cells slots ls hS hR hc hs hl => hw p e R s m args below meth c H locs cells slots ls _ g F hS hR hl (kk.2 g p e R s m args below meth c F H locs cells slots ls hS hR hc hs hl)⟩
/-- one that changes the locals -/
theorem Go.ofL {pc' : Nat} {st' : List Value} {L' : List (Nat × Value)}
    (hw : ∀ (p : Program) (e : Env) (R : Room) (s : State) (m : MethodId) (args : Array Value) (below : List Frame) (meth : Method) (c : Code) (H : Heap) (locs : List Loc) (cells slots : Nat) (ls : Array Slot) (Q : State → Prop), Fx X k r p R s m args meth c → lv_has ls k.2.2.1 L →
      (∀ ls' : Array Slot, lv_has ls' k.2.2.1 L' → W p l e R s m args below meth c H locs cells slots Q (F0 m pc' ls' st')) → W p l e R s m args below meth c H locs cells slots Q (F0 m pc ls st))
    (kk : Go l X k pc' L' st' h r) : Go l X k pc L st h r :=
  ⟨kk.1, fun g p e R s m args below meth c F H locs cells slots ls hS hR hc hs hl => hw p e R s m args below meth c H locs cells slots ls _ F hl (fun ls' hl' => kk.2 g p e R s m args below meth c F H locs cells slots ls' hS hR hc hs hl')⟩
theorem g_sub {L' : List (Nat × Value)} (ks : List Nat) (hl : lv_pick L ks = L') (kk : Go l X k pc L' st h r) : Go l X k pc L st h r :=
  ⟨kk.1, fun g p e R s m args below meth c F H locs cells slots ls hS hR hc hs hl' => kk.2 g p e R s m args below meth c F H locs cells slots ls hS hR hc hs (lv_sub hl' ks hl)⟩
theorem g_iconst {n : Int} {v : Int32} (hd : decode k.2.1 pc = .ok (.iconst n, 1)) (hv : Int32.ofInt n = v) (kk : Go l X k (pc + 1) L (.int v :: st) h r) : Go l X k pc L st h r := Go.of (fun _ _ _ _ _ _ _ _ _ _ _ _ _ _ _ _ F _ _ _ w => lv_iconst F.1 F.2.1 hd hv w) kk
theorem g_bipush {n : Int} {v : Int32} (hd : decode k.2.1 pc = .ok (.bipush n, 2)) (hv : (Int8.ofInt n).toInt32 = v) (kk : Go l X k (pc + 2) L (.int v :: st) h r) : Go l X k pc L st h r := Go.of (fun _ _ _ _ _ _ _ _ _ _ _ _ _ _ _ _ F _ _ _ w => lv_bipush F.1 F.2.1 hd hv w) kk
theorem g_sipush {n : Int} {v : Int32} (hd : decode k.2.1 pc = .ok (.sipush n, 3)) (hv : (Int16.ofInt n).toInt32 = v) (kk : Go l X k (pc + 3) L (.int v :: st) h r) : Go l X k pc L st h r := Go.of (fun _ _ _ _ _ _ _ _ _ _ _ _ _ _ _ _ F _ _ _ w => lv_sipush F.1 F.2.1 hd hv w) kk
theorem g_lconst {n : Fin 2} {v : Int64} (hd : decode k.2.1 pc = .ok (.lconst n, 1)) (hv : Int64.ofNat (n : Nat) = v) (kk : Go l X k (pc + 1) L (.long v :: st) h r) : Go l X k pc L st h r := Go.of (fun _ _ _ _ _ _ _ _ _ _ _ _ _ _ _ _ F _ _ _ w => lv_lconst F.1 F.2.1 hd hv w) kk
theorem g_null (hd : decode k.2.1 pc = .ok (.aconst_null, 1)) (kk : Go l X k (pc + 1) L (rf X 0 :: st) h r) : Go l X k pc L st h r := Go.of (fun _ _ _ _ _ _ _ _ _ _ _ _ _ _ _ _ F _ _ _ w => lv_null F.1 F.2.1 hd w) kk
theorem g_ldc {idx : Nat} {v : Int32} (hc : Cond.constant k.1.cls idx v ∈ gw) (hd : decode k.2.1 pc = .ok (.ldc idx, 2)) (kk : Go l X k (pc + 2) L (.int v :: st) h r) : Go l X k pc L st h r := Go.of (fun _ _ _ _ _ _ _ _ _ _ _ _ _ _ _ _ F _ _ _ w => lv_ldc F.1 F.2.1 F.2.2.2.2.2.2.1 (F.2.2.2.2.2.1 _ hc) hd w) kk
theorem g_ldcw {idx : Nat} {v : Int32} (hc : Cond.constant k.1.cls idx v ∈ gw) (hd : decode k.2.1 pc = .ok (.ldc_w idx, 3)) (kk : Go l X k (pc + 3) L (.int v :: st) h r) : Go l X k pc L st h r := Go.of (fun _ _ _ _ _ _ _ _ _ _ _ _ _ _ _ _ F _ _ _ w => lv_ldcw F.1 F.2.1 F.2.2.2.2.2.2.1 (F.2.2.2.2.2.1 _ hc) hd w) kk
theorem g_ldc2 {idx : Nat} {v : Int64} (hc : Cond.constantLong k.1.cls idx v ∈ gw) (hd : decode k.2.1 pc = .ok (.ldc2_w idx, 3)) (kk : Go l X k (pc + 3) L (.long v :: st) h r) : Go l X k pc L st h r := Go.of (fun _ _ _ _ _ _ _ _ _ _ _ _ _ _ _ _ F _ _ _ w => lv_ldc2 F.1 F.2.1 F.2.2.2.2.2.2.1 (F.2.2.2.2.2.1 _ hc) hd w) kk
theorem g_iload_n {n : Fin 4} {i : Nat} {x : Int32} (j : Nat) (hd : decode k.2.1 pc = .ok (.iload_n n, 1)) (hi : (n : Nat) = i) (hj : L[j]? = some (i, .int x)) (kk : Go l X k (pc + 1) L (.int x :: st) h r) : Go l X k pc L st h r := Go.of (fun _ _ _ _ _ _ _ _ _ _ _ _ _ _ _ _ F _ _ hl w => lv_iload_n F.1 F.2.1 hd hi (lv_at hl j hj) w) kk
theorem g_iload {i : Nat} {x : Int32} (j : Nat) (hd : decode k.2.1 pc = .ok (.iload i, 2)) (hj : L[j]? = some (i, .int x)) (kk : Go l X k (pc + 2) L (.int x :: st) h r) : Go l X k pc L st h r := Go.of (fun _ _ _ _ _ _ _ _ _ _ _ _ _ _ _ _ F _ _ hl w => lv_iload F.1 F.2.1 hd (lv_at hl j hj) w) kk
theorem g_lload_n {n : Fin 4} {i : Nat} {x : Int64} (j : Nat) (hd : decode k.2.1 pc = .ok (.lload_n n, 1)) (hi : (n : Nat) = i) (hj : L[j]? = some (i, .long x)) (kk : Go l X k (pc + 1) L (.long x :: st) h r) : Go l X k pc L st h r := Go.of (fun _ _ _ _ _ _ _ _ _ _ _ _ _ _ _ _ F _ _ hl w => lv_lload_n F.1 F.2.1 hd hi (lv_at hl j hj) w) kk
theorem g_lload {i : Nat} {x : Int64} (j : Nat) (hd : decode k.2.1 pc = .ok (.lload i, 2)) (hj : L[j]? = some (i, .long x)) (kk : Go l X k (pc + 2) L (.long x :: st) h r) : Go l X k pc L st h r := Go.of (fun _ _ _ _ _ _ _ _ _ _ _ _ _ _ _ _ F _ _ hl w => lv_lload F.1 F.2.1 hd (lv_at hl j hj) w) kk
theorem g_aload_n {n : Fin 4} {i : Nat} {o : Nat} (j : Nat) (hd : decode k.2.1 pc = .ok (.aload_n n, 1)) (hi : (n : Nat) = i) (hj : L[j]? = some (i, rf X o)) (kk : Go l X k (pc + 1) L (rf X o :: st) h r) : Go l X k pc L st h r := Go.of (fun _ _ _ _ _ _ _ _ _ _ _ _ _ _ _ _ F _ _ hl w => by
  have hq := lv_at hl j hj
  unfold rf at hq w
  by_cases h0 : o = 0
  · rw [if_pos h0] at hq w; exact lv_aload_nN F.1 F.2.1 hd hi hq w
  · rw [if_neg h0] at hq w; exact lv_aload_n F.1 F.2.1 hd hi hq w) kk
theorem g_aload {i : Nat} {o : Nat} (j : Nat) (hd : decode k.2.1 pc = .ok (.aload i, 2)) (hj : L[j]? = some (i, rf X o)) (kk : Go l X k (pc + 2) L (rf X o :: st) h r) : Go l X k pc L st h r := Go.of (fun _ _ _ _ _ _ _ _ _ _ _ _ _ _ _ _ F _ _ hl w => by
  have hq := lv_at hl j hj
  unfold rf at hq w
  by_cases h0 : o = 0
  · rw [if_pos h0] at hq w; exact lv_aloadN F.1 F.2.1 hd hq w
  · rw [if_neg h0] at hq w; exact lv_aload F.1 F.2.1 hd hq w) kk
/-- constants of the program, at addresses that don't change -/
theorem g_aload_nC {n : Fin 4} {i : Nat} {a : Nat} (j : Nat) (hd : decode k.2.1 pc = .ok (.aload_n n, 1)) (hi : (n : Nat) = i) (hj : L[j]? = some (i, .ref a)) (kk : Go l X k (pc + 1) L (.ref a :: st) h r) : Go l X k pc L st h r := Go.of (fun _ _ _ _ _ _ _ _ _ _ _ _ _ _ _ _ F _ _ hl w => lv_aload_n F.1 F.2.1 hd hi (lv_at hl j hj) w) kk
theorem g_istore_n {n : Fin 4} {i : Nat} {x y : Int32} {L' : List (Nat × Value)} (hd : decode k.2.1 pc = .ok (.istore_n n, 1)) (hi : (n : Nat) = i) (hn : i < k.2.2.1) (e : y = x) (hl : (i, Value.int y) :: L.filter (fun q => !(q.1 == i) && !(q.1 + 1 == i && q.2.category == 2)) = L') (kk : Go l X k (pc + 1) L' st h r) : Go l X k pc L (.int x :: st) h r := Go.ofL (fun _ _ _ _ _ _ _ _ _ _ _ _ _ _ _ F h0 w => lv_istore_n F.1 F.2.1 hd hi h0 hn (by rw [← e]; exact hl) w) kk
theorem g_istore {i : Nat} {x y : Int32} {L' : List (Nat × Value)} (hd : decode k.2.1 pc = .ok (.istore i, 2)) (hn : i < k.2.2.1) (e : y = x) (hl : (i, Value.int y) :: L.filter (fun q => !(q.1 == i) && !(q.1 + 1 == i && q.2.category == 2)) = L') (kk : Go l X k (pc + 2) L' st h r) : Go l X k pc L (.int x :: st) h r := Go.ofL (fun _ _ _ _ _ _ _ _ _ _ _ _ _ _ _ F h0 w => lv_istore F.1 F.2.1 hd h0 hn (by rw [← e]; exact hl) w) kk
theorem g_lstore_n {n : Fin 4} {i : Nat} {x y : Int64} {L' : List (Nat × Value)} (hd : decode k.2.1 pc = .ok (.lstore_n n, 1)) (hi : (n : Nat) = i) (hn : i + 1 < k.2.2.1) (e : y = x) (hl : (i, Value.long y) :: L.filter (fun q => !(q.1 == i) && (!(q.1 == i + 1) && !(q.1 + 1 == i && q.2.category == 2))) = L') (kk : Go l X k (pc + 1) L' st h r) : Go l X k pc L (.long x :: st) h r := Go.ofL (fun _ _ _ _ _ _ _ _ _ _ _ _ _ _ _ F h0 w => lv_lstore_n F.1 F.2.1 hd hi h0 hn (by rw [← e]; exact hl) w) kk
theorem g_lstore {i : Nat} {x y : Int64} {L' : List (Nat × Value)} (hd : decode k.2.1 pc = .ok (.lstore i, 2)) (hn : i + 1 < k.2.2.1) (e : y = x) (hl : (i, Value.long y) :: L.filter (fun q => !(q.1 == i) && (!(q.1 == i + 1) && !(q.1 + 1 == i && q.2.category == 2))) = L') (kk : Go l X k (pc + 2) L' st h r) : Go l X k pc L (.long x :: st) h r := Go.ofL (fun _ _ _ _ _ _ _ _ _ _ _ _ _ _ _ F h0 w => lv_lstore F.1 F.2.1 hd h0 hn (by rw [← e]; exact hl) w) kk
theorem rf_cat (X : Cx) (o : Nat) : (rf X o).category = 1 := by unfold rf; split <;> rfl
theorem g_astore_n {n : Fin 4} {i : Nat} {o : Nat} {L' : List (Nat × Value)} (hd : decode k.2.1 pc = .ok (.astore_n n, 1)) (hi : (n : Nat) = i) (hn : i < k.2.2.1) (hl : (i, rf X o) :: L.filter (fun q => !(q.1 == i) && !(q.1 + 1 == i && q.2.category == 2)) = L') (kk : Go l X k (pc + 1) L' st h r) : Go l X k pc L (rf X o :: st) h r := Go.ofL (fun _ _ _ _ _ _ _ _ _ _ _ _ _ _ _ F h0 w => by
  unfold rf at hl ⊢
  by_cases h9 : o = 0
  · rw [if_pos h9] at hl ⊢; exact lv_astore_nN F.1 F.2.1 hd hi h0 hn hl w
  · rw [if_neg h9] at hl ⊢; exact lv_astore_n F.1 F.2.1 hd hi h0 hn hl w) kk
theorem g_astore {i : Nat} {o : Nat} {L' : List (Nat × Value)} (hd : decode k.2.1 pc = .ok (.astore i, 2)) (hn : i < k.2.2.1) (hl : (i, rf X o) :: L.filter (fun q => !(q.1 == i) && !(q.1 + 1 == i && q.2.category == 2)) = L') (kk : Go l X k (pc + 2) L' st h r) : Go l X k pc L (rf X o :: st) h r := Go.ofL (fun _ _ _ _ _ _ _ _ _ _ _ _ _ _ _ F h0 w => by
  unfold rf at hl ⊢
  by_cases h9 : o = 0
  · rw [if_pos h9] at hl ⊢; exact lv_astoreN F.1 F.2.1 hd h0 hn hl w
  · rw [if_neg h9] at hl ⊢; exact lv_astore F.1 F.2.1 hd h0 hn hl w) kk
theorem g_astore_nC {n : Fin 4} {i : Nat} {a : Nat} {L' : List (Nat × Value)} (hd : decode k.2.1 pc = .ok (.astore_n n, 1)) (hi : (n : Nat) = i) (hn : i < k.2.2.1) (hl : (i, Value.ref a) :: L.filter (fun q => !(q.1 == i) && !(q.1 + 1 == i && q.2.category == 2)) = L') (kk : Go l X k (pc + 1) L' st h r) : Go l X k pc L (.ref a :: st) h r := Go.ofL (fun _ _ _ _ _ _ _ _ _ _ _ _ _ _ _ F h0 w => lv_astore_n F.1 F.2.1 hd hi h0 hn hl w) kk
theorem g_iinc {i : Nat} {n : Int} {x y : Int32} {L' : List (Nat × Value)} (j : Nat) (hd : decode k.2.1 pc = .ok (.iinc i n, 3)) (hj : L[j]? = some (i, .int x)) (hn : i < k.2.2.1) (e : y = x + Int32.ofInt n) (hl : (i, Value.int y) :: L.filter (fun q => !(q.1 == i) && !(q.1 + 1 == i && q.2.category == 2)) = L') (kk : Go l X k (pc + 3) L' st h r) : Go l X k pc L st h r := Go.ofL (fun _ _ _ _ _ _ _ _ _ _ _ _ _ _ _ F h0 w => lv_iinc F.1 F.2.1 hd h0 hj e.symm hn hl w) kk
theorem g_dup {v : Value} (hd : decode k.2.1 pc = .ok (.dup, 1)) (hc : v.category = 1) (kk : Go l X k (pc + 1) L (v :: v :: st) h r) : Go l X k pc L (v :: st) h r := Go.of (fun _ _ _ _ _ _ _ _ _ _ _ _ _ _ _ _ F _ _ _ w => lv_dup F.1 F.2.1 hd hc w) kk
theorem g_pop {v : Value} (hd : decode k.2.1 pc = .ok (.pop, 1)) (hc : v.category = 1) (kk : Go l X k (pc + 1) L st h r) : Go l X k pc L (v :: st) h r := Go.of (fun _ _ _ _ _ _ _ _ _ _ _ _ _ _ _ _ F _ _ _ w => lv_pop F.1 F.2.1 hd hc w) kk
theorem g_dup_x1 {v u : Value} (hd : decode k.2.1 pc = .ok (.dup_x1, 1)) (hc : v.category = 1) (hu : u.category = 1) (kk : Go l X k (pc + 1) L (v :: u :: v :: st) h r) : Go l X k pc L (v :: u :: st) h r := Go.of (fun _ _ _ _ _ _ _ _ _ _ _ _ _ _ _ _ F _ _ _ w => lv_dup_x1 F.1 F.2.1 hd hc hu w) kk
theorem g_dup2 {v u : Value} (hd : decode k.2.1 pc = .ok (.dup2, 1)) (hc : v.category = 1) (hu : u.category = 1) (kk : Go l X k (pc + 1) L (v :: u :: v :: u :: st) h r) : Go l X k pc L (v :: u :: st) h r := Go.of (fun _ _ _ _ _ _ _ _ _ _ _ _ _ _ _ _ F _ _ _ w => lv_dup2_11 F.1 F.2.1 hd hc hu w) kk
end GO
