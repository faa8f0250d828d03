/-! The law's twelve helpers: each calls the class, and catches. -/
def W3 (X : Cx) (h m ot : AH) (U : State) : Prop := R3 X h m ot U.heap ∧ va_K (xD X) vwCl (tysX X) U ∧ Sx X U U.heap
def QL0 (X : Cx) (v : Int32) (h1 m ot : AH) : Array Value → State → Outcome → State → Prop := fun _ st oc t => (oc = .returned (some (.int 0)) ∧ R3 X h1 m (sL (hB ot (hZ h1)) 277 0 v.toInt64) t.heap) ∧ va_F (xAr X) st t
def QL1 (X : Cx) (h1 m ot : AH) : Array Value → State → Outcome → State → Prop := fun _ st oc t => (oc = .returned (some (.int 1)) ∧ ∃ n, R3 X (hB h1 n) m ot t.heap) ∧ va_F (xAr X) st t
def wsw (k : Mt) (hh : List (Nat × Nat × Nat × Nat)) : List Cond := Cond.codeWith k.1 k.2.1 k.2.2.1 k.2.2.2.1 hh :: gw
section WRAP
variable {p : Program} {l : Launch} {e : Env} {R : Room} {s : State} {mm : MethodId} {args : Array Value} {below : List Frame} {meth : Method} {c : Code} {X : Cx} {k : Mt} {Q : State → Prop} {pc : Nat} {L : List (Nat × Value)} {st : List Value} {h m ot : AH} {cells slots : Nat}
theorem W3_blind {av : List Value} : FrameBlind (va_Pc av (W3 X h m ot)) := fun a U f mk q => ⟨q.1, q.2.1, va_K.moved (u := U) (U := U.calling f mk a) (Vm.Alike.refl U.vm) q.2.2.1, Sx.same (u := U) rfl q.2.2.2⟩
theorem W3_at {s U : State} {H : Heap} {locs : List Loc} (hK : va_K (xD X) vwCl (tysX X) s) (hSx : Sx X s s.heap) (hSS : va_S (xAr X) s.heap H locs) (hR : R3 X h m ot H) (hU : U.heap = H) (hW : s.WarmedH U.vm) : W3 X h m ot U := ⟨by rw [hU]; exact hR, va_K.moved hW.alike hK, Sx.moved hW (by rw [hU]; exact hSS) hSx⟩
theorem lr_astore_nC {n : Fin 4} {i : Nat} {a : Nat} {L' : List (Nat × Value)} (F : QF X k p s mm args c) (hd : decode k.2.1 pc = .ok (.astore_n n, 1)) (hi : (n : Nat) = i) (hn : i < k.2.2.1) (hl : (i, Value.ref a) :: L.filter (fun q => !(q.1 == i) && !(q.1 + 1 == i && q.2.category == 2)) = L') (kk : LW X k p l e R s mm args below meth c Q (pc + 1) L' st h m ot cells slots) : LW X k p l e R s mm args below meth c Q pc L (.ref a :: st) h m ot cells slots := LW.ofL (fun _ _ _ h0 w => lv_astore_n F.1 F.2.1 hd hi h0 hn hl w) kk
theorem lr_astoreC {i : Nat} {a : Nat} {L' : List (Nat × Value)} (F : QF X k p s mm args c) (hd : decode k.2.1 pc = .ok (.astore i, 2)) (hn : i < k.2.2.1) (hl : (i, Value.ref a) :: L.filter (fun q => !(q.1 == i) && !(q.1 + 1 == i && q.2.category == 2)) = L') (kk : LW X k p l e R s mm args below meth c Q (pc + 2) L' st h m ot cells slots) : LW X k p l e R s mm args below meth c Q pc L (.ref a :: st) h m ot cells slots := LW.ofL (fun _ _ _ h0 w => lv_astore F.1 F.2.1 hd h0 hn hl w) kk
theorem lr_iret {v : Int32} {Qc : Array Value → State → Outcome → State → Prop} {mc ms : Nat} (F : QF X k p s mm args c) (hr : meth.sig.returnType = some .int) (hlk : meth.locks = false) (hd : decode k.2.1 pc = .ok (.ireturn, 1)) (hc : cells ≤ mc) (hs : slots ≤ ms) (hq : ∀ t : State, R3 X h m ot t.heap → va_F (xAr X) s t → Qc args s (.returned (some (.int v))) t) : LW X k p l e R s mm args below meth c (MQ below Qc args s mc ms (xAr X)) pc L [.int v] h m ot cells slots :=
  fun _ _ _ hS hR _ => W.widen (k := mc) (n := ms) hc hs (W.iret F.1 F.2.1 hr (fun t ht _ => hq t (by rw [ht]; exact hR) (hS.F ht)) hS.2.2 hd hlk)
theorem lr_callX {k2 : Mt} {idx n ci o : Nat} {av st9 : List Value} {E : String} {h1 : AH} {cells' slots' : Nat} (x : ExceptionTableEntry) (F : QF X k p s mm args c) (hd : decode k.2.1 pc = .ok (.invokevirtual idx, 3)) (ck : CK k2 n) (hm : Cond.methodLink k.1.cls idx k2.1 ∈ gw) (hin : Cond.instanceMethod k2.1 ∈ gw) (hse : Cond.selects k2.1.cls k2.1 k2.1 ∈ gw)
    (hci : (vwCl[ci]?).map (fun q => q.1) = some k2.1.cls) (h20 : ci < 20) (hs : hS h o = ci + 1) (hfr : k2.2.2.2.2.1 + 1 ≤ R.frames) (hlo : 8 + (k2.2.2.1 + 11) + k2.2.2.2.2.2 ≤ R.locals) (hn : av.length = n) (hst : (st.map fun v => v.category).sum ≤ 8)
    (ct : Ct l X k2 (rf X o :: av) h (.inr E, h1)) (hst9 : st9 = av.reverse ++ rf X o :: st) (hc' : cells' = cells + (hZ h1 - hZ h)) (hs' : slots' = slots + (hV h1 - hV h)) (hc : cells' ≤ R.cells) (hs9 : slots' ≤ R.slots)
    (hsplit : c.exceptionTable.toList = [x]) (hx : covers x pc = true) (h0 : x.catchType ≠ 0) (hlink : Cond.classLink k.1.cls x.catchType E ∈ gw) (hE : E ∈ thrE)
    (kk : ∀ (n : Nat) (q : Addr), LW X k p l e R s mm args below meth c Q x.handlerPc L [.ref q] (hB h1 n) m ot cells' slots') : LW X k p l e R s mm args below meth c Q pc L st9 h m ot cells slots := by
  subst hst9 hc' hs'
  exact fun H locs ls hS hR hl => q_callX F hd ck hm hin hse hci h20 hs hfr hlo hn hst ct hS hR.tc hl.1 hc hs9 (fun H1 locs1 q ce hS1 ⟨n, hR1⟩ a1 a2 a3 => vx_catch (own := k.1.cls) (name := E) (E := E) F.2.2.2.1 [] x [] hsplit (fun z hz => absurd hz List.not_mem_nil) hx h0 (F.2.2.2.2.1 _ hlink) (va_Nw.use rfl (F.2.2.2.2.2.2.2.2.2.2.2.2.2.1 E hE)) a1 a2 a3
    (kk n q H1 locs1 ls hS1 (R3.ofc (fun o q => (hR.td.2 o q).2) hR1) hl))
/-- a static method with a table of its own, called -/
theorem run_l {mc ms : Nat} {ls : Array Slot} {H : Heap} {locs : List Loc} {st0 rest : List Value} {v : Value} {P : Heap → Prop}
    (hr : va_Run p l e R s mm args below meth c H locs cells slots mc ms (F0 mm pc ls st0) rest (fun st oc t => (oc = .returned (some v) ∧ P t.heap) ∧ va_F (xAr X) st t) (xAr X)) (hS : va_S (xAr X) s.heap H locs)
    (kk : ∀ (H1 : Heap) (locs1 : List Loc), va_S (xAr X) s.heap H1 locs1 → P H1 → W p l e R s mm args below meth c H1 locs1 (cells + mc) (slots + ms) Q (F0 mm (pc + 3) ls (v :: rest))) : W p l e R s mm args below meth c H locs cells slots Q (F0 mm pc ls st0) := by
  intro T hT X9
  obtain ⟨v9, st₀, t, T', L, h0, X', hL, e1, e2, ⟨⟨hv, hrl⟩, hz, hk⟩, st⟩ := hr T hT X9
  cases hv
  rw [h0] at hz hk
  obtain ⟨t2, a1, b1⟩ := kk T'.heap (locs ++ L) ⟨Nat.le_trans hS.1 (by rw [e1]; exact hz), fun q h1 h2 => by rw [e1, hk q (Nat.lt_of_lt_of_le h1 hS.1) h2]; exact hS.2.1 q h1 h2, fun q hq => by
      rcases List.mem_append.mp hq with h | h
      · exact hS.2.2 q h
      · exact hL q h⟩ (by rw [e1]; exact hrl) T' rfl X'
  exact ⟨t2, st t2 a1, b1⟩
/-- what is said of a helper -/
def CW (k : Mt) (hh : List (Nat × Nat × Nat × Nat)) (n : Nat) : Prop := Cond.codeWith k.1 k.2.1 k.2.2.1 k.2.2.2.1 hh ∈ gw ∧ Cond.initialized k.1.cls ∈ gw ∧ k.1.cls ≠ "java/lang/invoke/MethodHandle" ∧ k.1.cls ≠ "java/lang/invoke/VarHandle" ∧ (parseMethodDescriptor k.1.desc).map (fun d => d.parameters.length) = some n ∧ Cond.static k.1 ∈ gw
theorem csw_k {k2 : Mt} {hh : List (Nat × Nat × Nat × Nat)} {idx n : Nat} {h1 : AH} (hts : ∀ w ∈ gw, w.before args s = true) (ck : CW k2 hh n) (hm : Cond.methodLink k.1.cls idx k2.1 ∈ gw) (hfr : k2.2.2.2.2.1 + 1 ≤ R.frames) (hlo : 8 + (k2.2.2.1 + 11) + k2.2.2.2.2.2 ≤ R.locals) :
    vx_CSW R s args k.1.cls idx k2.1 k2.2.1 k2.2.2.1 k2.2.2.2.1 hh (wsw k2 hh) (rmk k2 h h1) (hZ h1 - hZ h) (hV h1 - hV h) n := by
  refine ⟨⟨rfl, rfl, hfr, hlo, pay_in hts (fun w hw => (List.mem_cons.mp hw).elim (fun e => by rw [e]; exact good_gw _ ck.1) (fun q => good_gw w q)), List.mem_cons_self⟩, hts _ ck.1, hts _ ck.2.1, ⟨ck.2.2.1, ck.2.2.2.1⟩, fun sig h => ?_, hts _ hm, hts _ ck.2.2.2.2.2⟩
  have h2 := ck.2.2.2.2.1
  rw [h] at h2
  exact (Option.some.inj h2).symm
theorem lr_callW {k2 : Mt} {hh : List (Nat × Nat × Nat × Nat)} {idx n : Nat} {av st9 : List Value} {v : Value} {h1 : AH} {P : Heap → Prop} {cells' slots' : Nat} (F : QF X k p s mm args c) (hd : decode k.2.1 pc = .ok (.invokestatic idx, 3)) (ck : CW k2 hh n) (hm : Cond.methodLink k.1.cls idx k2.1 ∈ gw) (hfr : k2.2.2.2.2.1 + 1 ≤ R.frames) (hlo : 8 + (k2.2.2.1 + 11) + k2.2.2.2.2.2 ≤ R.locals) (hn : av.length = n) (hst : (st.map fun v => v.category).sum ≤ 8)
    (hM : Met l k2.1 (wsw k2 hh) (rmk k2 h h1) (va_Pc av (W3 X h m ot)) (fun _ st oc t => (oc = .returned (some v) ∧ P t.heap) ∧ va_F (xAr X) st t) (hZ h1 - hZ h) (hV h1 - hV h) (xAr X)) (hst9 : st9 = av.reverse ++ st) (hc' : cells' = cells + (hZ h1 - hZ h)) (hs' : slots' = slots + (hV h1 - hV h)) (hc : cells' ≤ R.cells) (hs9 : slots' ≤ R.slots)
    (kk : ∀ (H : Heap) (locs : List Loc) (ls : Array Slot), va_S (xAr X) s.heap H locs → P H → lv_has ls k.2.2.1 L → W p l e R s mm args below meth c H locs cells' slots' Q (F0 mm (pc + 3) ls (v :: st))) : LW X k p l e R s mm args below meth c Q pc L st9 h m ot cells slots := by
  subst hst9 hc' hs'
  exact fun H locs ls hS hR hl => run_l (X := X) (v := v) (P := P) (vx_runSW (hh := hh) (As := av) (rest := st) ⟨F.1, F.2.1, F.2.2.1, F.2.2.2.1, F.2.2.2.2.1⟩ hM (csw_k (k := k) F.2.2.2.2.1 ck hm hfr hlo) ⟨W3_blind, fun U hU hW => ⟨rfl, W3_at F.2.2.2.2.2.1 F.2.2.2.2.2.2 hS hR hU hW⟩⟩ rfl hn hl.1 rfl (lv_room hst) hd ⟨hc, hs9⟩) hS
    (fun H1 locs1 hS1 hR1 => kk H1 locs1 ls hS1 hR1 hl)
end WRAP
