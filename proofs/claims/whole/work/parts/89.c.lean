/-! The law from its entry to its end. -/
theorem m_148 : (Jvm.Cond.classLink "CoreHouseLaw" (8 : Nat) "CoreHouse") ∈ gw := mem_tb (List.mem_append_left _ (List.mem_of_getElem? (l := tables_1_1) (i := 25) rfl)) rfl
theorem m_1305 : (Jvm.Cond.classLink "CoreHouseLaw" (56 : Nat) "CoreHouseModel") ∈ gw := mem_tb (List.mem_append_right _ (List.mem_append_right _ (List.mem_append_right _ (List.mem_append_right _ (List.mem_append_left _ (List.mem_of_getElem? (l := tables_1_5) (i := 222) rfl)))))) rfl
theorem m_149 : (Jvm.Cond.instantiable "CoreHouse" (11 : Nat)) ∈ gw := mem_tb (List.mem_append_left _ (List.mem_of_getElem? (l := tables_1_1) (i := 26) rfl)) rfl
theorem m_1306 : (Jvm.Cond.instantiable "CoreHouseModel" (81 : Nat)) ∈ gw := mem_tb (List.mem_append_right _ (List.mem_append_right _ (List.mem_append_right _ (List.mem_append_right _ (List.mem_append_left _ (List.mem_of_getElem? (l := tables_1_5) (i := 223) rfl)))))) rfl
theorem m_150 : (Jvm.Cond.methodLink "CoreHouseLaw" (55 : Nat) ({ cls := "CoreHouse", name := "<init>", desc := "()V" } : Jvm.MethodName)) ∈ gw := mem_tb (List.mem_append_left _ (List.mem_of_getElem? (l := tables_1_1) (i := 27) rfl)) rfl
theorem m_1307 : (Jvm.Cond.methodLink "CoreHouseLaw" (58 : Nat) ({ cls := "CoreHouseModel", name := "<init>", desc := "()V" } : Jvm.MethodName)) ∈ gw := mem_tb (List.mem_append_right _ (List.mem_append_right _ (List.mem_append_right _ (List.mem_append_right _ (List.mem_append_left _ (List.mem_of_getElem? (l := tables_1_5) (i := 224) rfl)))))) rfl
theorem m_151 : (Jvm.Cond.instanceMethod ({ cls := "CoreHouse", name := "<init>", desc := "()V" } : Jvm.MethodName)) ∈ gw := mem_tb (List.mem_append_left _ (List.mem_of_getElem? (l := tables_1_1) (i := 28) rfl)) rfl
theorem m_1308 : (Jvm.Cond.instanceMethod ({ cls := "CoreHouseModel", name := "<init>", desc := "()V" } : Jvm.MethodName)) ∈ gw := mem_tb (List.mem_append_right _ (List.mem_append_right _ (List.mem_append_right _ (List.mem_append_right _ (List.mem_append_left _ (List.mem_of_getElem? (l := tables_1_5) (i := 225) rfl)))))) rfl
section START2
variable {p : Program} {l : Launch} {e : Env} {R : Room} {s : State} {mm : MethodId} {args : Array Value} {below : List Frame} {meth : Method} {c : Code} {X : Cx} {k : Mt} {H : Heap} {locs : List Loc} {cells slots : Nat} {ls : Array Slot} {pc : Nat} {st : List Value} {h g m ot : AH} {Q : State → Prop} {L : List (Nat × Value)}
theorem q_new {idx ci N : Nat} (F : QF X k p s mm args c) (hC : NL k.1.cls idx ci N) (hd : decode k.2.1 pc = .ok (.new idx, 3)) (hc : cells + 1 ≤ R.cells) (hs : slots + N ≤ R.slots) (hSS : va_S (xAr X) s.heap H locs) (hR : Rl X h g H)
    (kk : ∀ H1 : Heap, va_S (xAr X) s.heap H1 locs → Rl X (hNew h (ci + 1) 0 N) g H1 → W p l e R s mm args below meth c H1 locs (cells + 1) (slots + N) Q (F0 mm (pc + 3) ls (rf X (hZ h + 1) :: st))) : W p l e R s mm args below meth c H locs cells slots Q (F0 mm pc ls st) := by
  obtain ⟨hx, hb, hml, hown, hts, hK, hSx⟩ := F
  obtain ⟨C, T, ty, ⟨hcl, h20, hin, hty, hnm, hlen⟩, hlk, hins, hini, hdef⟩ := hC
  have hKn := hK.1 ci _ hcl
  refine W.newcK hx hb hown (hts _ hlk) (hts _ hins) (hts _ hini) rfl hd hc hs hKn.2.1 rfl fun H1 kC hkC e1 z1 o1 => ?_
  have hz := hR.1
  rw [rf_new h (hZ h) X H hz]
  refine kk H1 (hSS.newc z1 o1) (hR.new z1 o1 (fun a ha => hS_new _ _ _ _ a ha) rfl (fun a ha => cellE_new a ha) (fun _ => ?_))
  rw [cellE_obj (hS_new' h (ci + 1) 0 N) h20, ← hz]
  refine ⟨_, hcl, (u_born ty hts hin hKn hkC e1 hty).to (fun j hj => ?_)⟩
  obtain ⟨t, ht, hdv⟩ := hdef j hj
  rw [hdv]
  unfold vp_V
  rw [List.getD_eq_getElem?_getD, flds_at ht]
  unfold fv
  rw [hI_new', hL_new', hR_new']
  rfl
theorem q_newJ {n : Int32} (F : QF X k p s mm args c) (harr : Cond.arrayClass .long ∈ gw) (hd : decode k.2.1 pc = .ok (.newarray .long, 2)) (hn : (decide (¬ n < 0) && decide (n.toNatClampNeg ≤ 10000000)) = true) (hc : cells + 1 ≤ R.cells) (hs : slots + n.toNatClampNeg ≤ R.slots) (hSS : va_S (xAr X) s.heap H locs) (hR : Rl X h g H)
    (kk : ∀ H1 : Heap, va_S (xAr X) s.heap H1 locs → Rl X (hNew h 22 n.toNatClampNeg n.toNatClampNeg) g H1 → W p l e R s mm args below meth c H1 locs (cells + 1) (slots + n.toNatClampNeg) Q (F0 mm (pc + 2) ls (rf X (hZ h + 1) :: st))) : W p l e R s mm args below meth c H locs cells slots Q (F0 mm pc ls (.int n :: st)) := by
  obtain ⟨hn1, hn2⟩ := Bool.and_eq_true_iff.mp hn
  have hn1 := of_decide_eq_true hn1
  have hn2 := of_decide_eq_true hn2
  obtain ⟨hx, hb, hml, hown, hts, hK, hSx⟩ := F
  refine va_newaK (atype := .long) hx hb (hts _ harr) rfl hd rfl hn1 rfl (by show n.toNatClampNeg * 8 ≤ _; omega) hc hs rfl fun H1 cA e1 z1 o1 hAr hNm => ?_
  have hcA : cA = xC X 22 := Option.some.inj (hNm.symm.trans (hK.2 1 _ rfl).2)
  subst hcA
  have hz := hR.1
  rw [rf_new h (hZ h) X H hz]
  refine kk H1 (hSS.newc z1 o1) (hR.new z1 o1 (fun a ha => hS_new _ _ _ _ a ha) rfl (fun a ha => cellE_new a ha) (fun _ => ?_))
  rw [cellE_arr (hS_new' h 22 _ _) (by omega), ← hz]
  show H1[H.size]? = some (arrV (xC X 22) (hN (hNew h 22 n.toNatClampNeg n.toNatClampNeg) (hZ h + 1)) (fun q => .long (hL (hNew h 22 n.toNatClampNeg n.toNatClampNeg) (hZ h + 1) q)))
  rw [hN_new', e1]
  congr 2
  funext q
  rw [hL_new']
  rfl
theorem lr_newC {idx ci N : Nat} (F : QF X k p s mm args c) (hC : NL k.1.cls idx ci N) (hd : decode k.2.1 pc = .ok (.new idx, 3)) (hc : cells + 1 ≤ R.cells) (hs : slots + N ≤ R.slots)
    (kk : LW X k p l e R s mm args below meth c Q (pc + 3) L (rf X (hZ h + 1) :: st) (hNew h (ci + 1) 0 N) m ot (cells + 1) (slots + N)) : LW X k p l e R s mm args below meth c Q pc L st h m ot cells slots :=
  fun H locs ls hS hR hl => q_new F hC hd hc hs hS hR.tc (fun H1 hS1 hR1 => kk H1 locs ls hS1 (R3.ofc (fun o q => (hR.td.2 o q).2) hR1) hl)
theorem lr_newM {idx ci N : Nat} (F : QF X k p s mm args c) (hC : NL k.1.cls idx ci N) (hd : decode k.2.1 pc = .ok (.new idx, 3)) (hc : cells + 1 ≤ R.cells) (hs : slots + N ≤ R.slots)
    (kk : LW X k p l e R s mm args below meth c Q (pc + 3) L (rf X (hZ h + 1) :: st) (hB h (hZ h + 1)) (hNew (hB m (hZ h)) (ci + 1) 0 N) ot (cells + 1) (slots + N)) : LW X k p l e R s mm args below meth c Q pc L st h m ot cells slots :=
  fun H locs ls hS hR hl => q_new (h := hB m (hZ h)) (g := jn h ot) F hC hd hc hs hS hR.tm (fun H1 hS1 hR1 => kk H1 locs ls hS1 (R3.ofm (h := h) (fun o q => (hR.td.2 o q).1) hR1) hl)
theorem lr_newO {n : Int32} (F : QF X k p s mm args c) (harr : Cond.arrayClass .long ∈ gw) (hd : decode k.2.1 pc = .ok (.newarray .long, 2)) (hn : (decide (¬ n < 0) && decide (n.toNatClampNeg ≤ 10000000)) = true) (hc : cells + 1 ≤ R.cells) (hs : slots + n.toNatClampNeg ≤ R.slots)
    (kk : LW X k p l e R s mm args below meth c Q (pc + 2) L (rf X (hZ h + 1) :: st) (hB h (hZ h + 1)) m (hNew (hB ot (hZ h)) 22 n.toNatClampNeg n.toNatClampNeg) (cells + 1) (slots + n.toNatClampNeg)) : LW X k p l e R s mm args below meth c Q pc L (.int n :: st) h m ot cells slots :=
  fun H locs ls hS hR hl => q_newJ (h := hB ot (hZ h)) (g := jn h m) F harr hd hn hc hs hS hR.to (fun H1 hS1 hR1 => kk H1 locs ls hS1 (R3.oo (h := h) hR.td.1 hR1) hl)
theorem lr_iniC {k2 : Mt} {idx o s9 : Nat} {h1 : AH} {cells' slots' : Nat} (F : QF X k p s mm args c) (hd : decode k.2.1 pc = .ok (.invokespecial idx, 3)) (ck : CK k2 0) (hnm : k2.1.name = "<init>") (hret : k2.2.2.2.1 = none) (hm : Cond.methodLink k.1.cls idx k2.1 ∈ gw) (hin : Cond.instanceMethod k2.1 ∈ gw)
    (hs : hS h o = s9) (hs0 : s9 ≠ 0) (hfr : k2.2.2.2.2.1 + 1 ≤ R.frames) (hlo : 8 + (k2.2.2.1 + 11) + k2.2.2.2.2.2 ≤ R.locals) (hst : (st.map fun v => v.category).sum ≤ 8)
    (ct : Ct l X k2 [rf X o] h (.inl none, h1)) (hc' : cells' = cells + (hZ h1 - hZ h)) (hs' : slots' = slots + (hV h1 - hV h)) (hc : cells' ≤ R.cells) (hs9 : slots' ≤ R.slots)
    (kk : LW X k p l e R s mm args below meth c Q (pc + 3) L st h1 m ot cells' slots') : LW X k p l e R s mm args below meth c Q pc L (rf X o :: st) h m ot cells slots := by
  subst hc' hs'
  exact fun H locs ls hS hR hl => q_callI (av := []) F hd ck hnm hret hm hin s9 hs hs0 hfr hlo rfl hst ct hS hR.tc hl.1 hc hs9 (fun H1 locs1 hS1 hR1 => kk H1 locs1 ls hS1 (R3.ofc (fun o q => (hR.td.2 o q).2) hR1) hl)
theorem lr_iniM {k2 : Mt} {idx o s9 : Nat} {m1 : AH} {cells' slots' : Nat} (F : QF X k p s mm args c) (hd : decode k.2.1 pc = .ok (.invokespecial idx, 3)) (ck : CK k2 0) (hnm : k2.1.name = "<init>") (hret : k2.2.2.2.1 = none) (hm : Cond.methodLink k.1.cls idx k2.1 ∈ gw) (hin : Cond.instanceMethod k2.1 ∈ gw)
    (hs : hS m o = s9) (hs0 : s9 ≠ 0) (hfr : k2.2.2.2.2.1 + 1 ≤ R.frames) (hlo : 8 + (k2.2.2.1 + 11) + k2.2.2.2.2.2 ≤ R.locals) (hst : (st.map fun v => v.category).sum ≤ 8)
    (hz : hZ m = hZ h) (ct : Ct l X k2 [rf X o] m (.inl none, m1)) (hc' : cells' = cells + (hZ m1 - hZ m)) (hs' : slots' = slots + (hV m1 - hV m)) (hc : cells' ≤ R.cells) (hs9 : slots' ≤ R.slots)
    (kk : LW X k p l e R s mm args below meth c Q (pc + 3) L st (hB h (hZ m1)) m1 ot cells' slots') : LW X k p l e R s mm args below meth c Q pc L (rf X o :: st) h m ot cells slots := by
  subst hc' hs'
  have em : hB m (hZ h) = m := by rw [← hz]; rfl
  exact fun H locs ls hS hR hl => q_callI (h := m) (g := jn h ot) (av := []) F hd ck hnm hret hm hin s9 hs hs0 hfr hlo rfl hst ct hS (by have := hR.tm; rw [em] at this; exact this) hl.1 hc hs9 (fun H1 locs1 hS1 hR1 => kk H1 locs1 ls hS1 (R3.ofm (h := h) (fun o q => (hR.td.2 o q).1) hR1) hl)
theorem lr_hc (kk : LW X k p l e R s mm args below meth c Q pc L st h m ot cells slots) {h' m' ot' : AH} (e1 : h' = h) (e2 : m' = m) (e3 : ot' = ot) : LW X k p l e R s mm args below meth c Q pc L st h' m' ot' cells slots := by subst e1 e2 e3; exact kk
theorem R3_0 (hz : H.size = xB X) : R3 X mE mE mE H := ⟨hz, fun o q => absurd rfl q, fun o q => absurd rfl q, fun o q => absurd rfl q⟩
end START2
theorem NL_10 : NL kLaw.1.cls 8 8 11 := ⟨RX10, TX10, tyX10, CL_X10, m_148, m_149, m_124, nw_X10⟩
theorem NL_11 : NL kLaw.1.cls 56 9 81 := ⟨RX11, TX11, tyX11, CL_X11, m_1305, m_1306, m_134, nw_X11⟩
def R_law : String := "CoreHouseLaw"
def lw_P (b : Addr) (xs : List Int32) (args : Array Value) (s : State) : Prop := args = #[.ref b] ∧ s.IntsAt b xs ∧ xs.length ≤ 3584 ∧ (Jvm.Cond.and given_1 narrow_1).before args s = true
def lw_Q (_ : Array Value) (s : State) (o : Outcome) (t : State) : Prop := o = .returned (some (.int 1)) ∧ Framed s o t [] 601024 7293034
def lw_Z (below : List Frame) (a : Array Value) (s : State) : State → Prop := fun t => ∃ o, t.status = .running ∧ Ended t below o ∧ lw_Q a s o t
/-- the law's own end, with 1 on the stack, nothing written that was there before, its room as the claim has it -/
theorem lw_ret {p : Program} {l : Launch} {e : Env} {s : State} {m : MethodId} {below : List Frame} {meth : Method} {c : Code} {b : Nat} (hx : p.tables.exec = Jvm.exec) (hb : c.code = code) (hr : meth.sig.returnType = ret) (hlocks : meth.locks = false) {pc : Nat} {H : Heap} {ls : Array Slot} (hdg : decode code pc = .ok (.ireturn, 1)) : W p l e room_1 s m #[Value.ref b] below meth c H [] 601024 7293034 (lw_Z below #[Value.ref b] s) (F0 m pc ls [.int 1]) := by
  intro T hT X
  obtain ⟨fs, hret, hrun, hended, hW, hframe⟩ := X.leave (v := some (.int 1)) (hlocks := hlocks) (fun h => by rw [hr] at h; cases h)
  have hmeth' : T.vm.method? m = some meth := X.method'
  refine ⟨T.setFrames fs, ?_, .returned (some (.int 1)), hrun, hended, rfl, ⟨_, rfl⟩, hW, hframe⟩
  jvm_step X.here [X.here.top, hx, hb, hdg, hmeth', hr, ret, narrow_b1]
  (try refine ⟨rfl, ?_⟩); (try refine ⟨rfl, ?_⟩)
  first | (intro acts; rw [hret _ acts rfl rfl rfl]) | rw [hret _ _ rfl rfl rfl]
  exact Steps.refl _
/-- what holds at the law's entry: the machine, the code, the tables' words (any of lw_tbl by 'hts w (by decide +kernel)'), the script of L ints xs at the cell b, what the Statement gives of the start (any of its parts by flat_of_before) -/
def lw_At (p : Program) (s : State) (m : MethodId) (meth : Method) (c : Code) (b L : Nat) (xs : Nat → Int32) : Prop :=
  p.tables.exec = Jvm.exec ∧ c.code = code ∧ meth.sig.returnType = ret ∧ c.maxLocals = 7 ∧ s.vm.findClass R_law = some m.cls ∧ (∀ w ∈ lw_tbl, w.before #[Value.ref b] s = true) ∧ va_X b L xs s s.heap ∧ b < s.heap.size ∧ meth.locks = false ∧ (Jvm.Cond.and given_1 narrow_1).before #[Value.ref b] s = true
theorem whole_start {p : Program} {e : Env} {s : State} {m : MethodId} {below : List Frame} {meth : Method} {c : Code} (l : Launch) (hst : l.stackTraces = false) {b L : Nat} {xs : Nat → Int32} (hL : L ≤ 3584) (C0 : lw_At p s m meth c b L xs) : W p l e room_1 s m #[Value.ref b] below meth c s.heap [] 0 0 (lw_Z below #[Value.ref b] s) (entryFrame m ([Value.ref b] : List Value).toArray 7) := by
  obtain ⟨hx, hb, hr, hml, hown, hts, hX, hbl, hlk, hgv⟩ := C0
  obtain ⟨X, xb, hK, hSx⟩ := start_X hts hgv
  have F : QF X kLaw p s m #[Value.ref b] c := ⟨hx, hb, hml, hown, fun w hw => hts w (List.mem_filter.mp hw).1, hK, hSx⟩
  have hbA : ¬ xAr X b := by show ¬ xB X ≤ b; omega
  have G : LG X p l s m b L xs c := ⟨F, hX, hbl, hbA, hL, hst⟩
  obtain ⟨hF, mF, f1, f2, z1, z2, v1, v2, pn, nr, RL9⟩ := start_alike
  have c1 := ct_X10_init l X f1
  have c2 := ct_X11_init l X f2
  have V1 : 11 ≤ hV hF := c1.1.2
  have V2 : 81 ≤ hV mF := c2.1.2
  have hin := lv_entry ([Value.ref b] : List Value) (n := 7) (by show 1 ≤ 7; decide)
  rw [lg_entry_eq]
  refine LW.use (X := X) (k := kLaw) (h := mE) (m := mE) (ot := mE) (L := [(0, .ref b)]) ?_ va_S.rf (R3_0 xb.symm) hin
  refine lr_newC (pc := 0) F NL_10 dL_law_0 (by decide) (by decide) ?_
  show LW X kLaw p l e room_1 s m _ below meth c _ 3 _ [rf X 1] gq1 mE mE 1 11
  refine lr_dup (pc := 3) F dL_law_3 (rf_cat X 1) ?_
  refine lr_iniC (pc := 4) (o := 1) (s9 := 9) (cells' := 225) (slots' := hV hF) (st := [rf X 1]) F dL_law_4 ck_X10_init rfl rfl m_150 m_151 (by decide +kernel) (by decide) (by decide) (by decide) (by show (rf X 1).category + 0 ≤ 8; rw [rf_cat]; decide) c1 ?_ ?_ (by decide) ?_ ?_
  · rw [z1]; rfl
  · show hV hF = 11 + (hV hF - 11); omega
  · show hV hF ≤ 7293034; omega
  refine lr_astore_n (pc := 7) (i := 1) (L' := [(1, rf X 1), (0, .ref b)]) F dL_law_7 rfl (by decide) rfl ?_
  refine lr_newM (pc := 8) F NL_11 dL_law_8 (by decide) (by show hV hF + 81 ≤ 7293034; omega) ?_
  rw [z1]
  show LW X kLaw p l e room_1 s m _ below meth c _ 11 _ [rf X 226] (hB hF 226) mq0 mE 226 (hV hF + 81)
  refine lr_dup (pc := 11) F dL_law_11 (rf_cat X 226) ?_
  refine lr_iniM (pc := 12) (o := 226) (s9 := 10) (cells' := 276) (slots' := hV hF + hV mF) (st := [rf X 226]) F dL_law_12 ck_X11_init rfl rfl m_1307 m_1308 (by decide +kernel) (by decide) (by decide) (by decide) (by show (rf X 226).category + 0 ≤ 8; rw [rf_cat]; decide) rfl c2 ?_ ?_ (by decide) ?_ ?_
  · rw [z2]; rfl
  · show hV hF + hV mF = hV hF + 81 + (hV mF - 81); omega
  · show hV hF + hV mF ≤ 7293034; omega
  rw [z2]
  refine lr_astore_n (pc := 15) (i := 2) (L' := [(2, rf X 226), (1, rf X 1), (0, .ref b)]) F dL_law_15 rfl (by decide) rfl ?_
  refine lr_iconst (pc := 16) (v := 1) F dL_law_16 rfl ?_
  refine lr_newO (pc := 17) F m_253 dL_law_17 (by decide) (by decide) (by show hV hF + hV mF + 1 ≤ 7293034; omega) ?_
  show LW X kLaw p l e room_1 s m _ below meth c _ 19 _ [rf X 277] (hB hF 277) mF (hNew (hB mE 276) 22 1 1) 277 (hV hF + hV mF + 1)
  refine lr_astore_n (pc := 19) (i := 3) (L' := [(3, rf X 277), (2, rf X 226), (1, rf X 1), (0, .ref b)]) F dL_law_19 rfl (by decide) rfl ?_
  refine lr_iconst (pc := 20) (v := 0) F dL_law_20 rfl ?_
  refine lr_istore (pc := 21) (i := 4) (L' := [(4, .int (nI (7 * 0))), (3, rf X 277), (2, rf X 226), (1, rf X 1), (0, .ref b)]) F dL_law_21 (by decide) rfl rfl ?_
  refine lr_sub [4, 3, 2, 1, 0] (L' := [(0, .ref b), (1, rf X 1), (2, rf X 226), (3, rf X 277), (4, .int (nI (7 * 0)))]) rfl ?_
  refine lr_hz 277 ?_
  have p0 : hR hF 16 0 ≤ 225 := by have := RL9.1.1.2.2.2.2.2.2.1.2.2.2.1; omega
  refine lw_loop G ?_ L 0 _ _ _ _ _ (by omega) (by omega) ⟨sI9 hF, eI9, 0, Rel_hz RL9 277 (hV hF) 277 (by omega) (by omega), rfl, Nat.le_refl _, nr, rfl, ⟨by decide +kernel, by decide +kernel⟩, ?_, ?_⟩
  · intro t h9 m9 ot9 cells slots I t5
    have bd := I.bd t5
    refine lr_iconst (pc := 1192) (v := 1) F dL_law_1192 rfl ?_
    exact fun H locs ls hS hR hl => va_forget (fun q hq => by have := hS.2.2 q hq; have : xB X ≤ q.base := this; omega) (W.widen (k := 601024) (n := 7293034) bd.1 bd.2 (lw_ret hx hb hr hlk dL_law_1193))
  · show 576 * 277 + 576 ≤ 576 * (277 + 0) + pN hF
    omega
  · show hV hF + hV mF + 1 + 1152 ≤ 300000 + 6 * 0 + 2 * pN hF
    omega
set_option maxHeartbeats 4000000 in
theorem lw_walk (l : Launch) (hst : l.stackTraces = false) (b : Addr) (xs : List Int32) : MetFree l x (headSpec (Jvm.Cond.code x code maxLocals ret :: tables_1) room_1) (lw_P b xs) (fun _ _ _ _ _ => True) lw_Q := by
  refine MetFree.of_bodyS (code := code) (maxLocals := maxLocals) (ret := ret) (by decide) ?_ ?_
  · intro args s m h hn
    obtain ⟨meth, c, h1, h2, h3, h4, h5, h6, -, -⟩ := Cond.code_spec hn (atoms_spec (ws := Jvm.Cond.code x code maxLocals ret :: tables_1) h _ List.mem_cons_self)
    exact ⟨meth, c, h1, h2, h3, h4, h5, h6⟩
  · intro p e s m args below meth c s₁ B hml0 hP _
    obtain ⟨rfl, hx, hbd, hgv⟩ := hP
    obtain ⟨scr, harrAt, hlist, hof, hsmall⟩ := hx
    obtain ⟨hcb, hkn, -, -⟩ := State.arrayAt?_spec harrAt
    have hown : s.vm.findClass R_law = some m.cls := findClass_of_methodNamed B.named
    have hts0 : ∀ c ∈ (Jvm.Cond.code x code maxLocals ret :: tables_1), c.before #[Value.ref b] s = true := atoms_spec (ws := Jvm.Cond.code x code maxLocals ret :: tables_1) B.pre
    have hts : ∀ w ∈ lw_tbl, w.before #[Value.ref b] s = true := k2_hts_sels lw_privs (fun w hw => hts0 w (List.mem_cons_of_mem _ hw)) lw_privs_ok
    have hml : c.maxLocals = 7 := B.maxLocals_eq (hts0 _ List.mem_cons_self)
    have X₀ : Stand p l e room_1 s m #[Value.ref b] below meth c s₁ [] 0 0 := Stand.of_body B
    have hh0 : s₁.heap = s.heap := by rw [B.state]; rfl
    have hsz : scr.slots.size = xs.length := by rw [← Array.length_toList, hlist, List.length_map]
    have hval : ∀ j : Nat, j < xs.length → scr.slots[j]? = some (.int (xs.getD j 0)) := fun j hj => by
      rw [← Array.getElem?_toList, hlist]
      simp [hj]
    have hbl : b < s.heap.size := (Array.getElem?_eq_some_iff.mp hcb).1
    have hX : va_X b xs.length (fun j => xs.getD j 0) s s.heap := ⟨scr, hcb, hof, hkn, hsz, hval⟩
    have K : W p l e room_1 s m #[Value.ref b] below meth c s₁.heap [] 0 0 (lw_Z below #[Value.ref b] s) (entryFrame m ([Value.ref b] : List Value).toArray 7) := by
      rw [hh0]
      exact whole_start l hst hbd ⟨B.exec, B.bytes, B.returns, hml, hown, hts, hX, hbl, B.notSynchronized, hgv⟩
    obtain ⟨t, a1, o, b1, b2, b3⟩ := K s₁ rfl X₀
    exact ⟨t, o, a1, b1, b2, b3⟩
theorem lw_pre_spec {args : Array Value} {s : State} (h : (Jvm.Cond.and given_1 narrow_1).before args s = true) (hr : rest_1_c.before args s = true) : ∃ (b : Addr) (xs : List Int32), lw_P b xs args s := by
  have hs := flat_of_before _ h
  have hq := flat_of_before _ hr
  have hc : (Cond.count 1).before args s = true := hs _ (by decide +kernel)
  have harr : (Cond.arrayOf (.arg 0) .int).before args s = true := hs _ (by decide +kernel)
  have hle : (Cond.le (.length (.arg 0)) (.int 3584)).before args s = true := hs _ (by decide +kernel)
  have hlen : (Cond.isInt (.length (.arg 0))).before args s = true := hq _ (by decide +kernel)
  have hall : (Cond.all (.arg 0) (.isInt (.elem (.arg 0) (.index 0)))).before args s = true := hq _ (by decide +kernel)
  obtain ⟨b, xs, hb, hx⟩ := State.ints_of_pre rfl harr hlen hall
  have hsm : xs.length < 2 ^ 31 := hx.choose_spec.2.2.2
  have hev : (Term.length (.arg 0)).eval args s none [] s = some (.int xs.length.toInt32) := hx.length_eval hb
  have hv := Cond.le_ints hev (show (Term.int 3584).eval args s none [] s = some (.int 3584) from rfl)
  have hd : xs.length.toInt32 ≤ 3584 := by
    simpa [Cond.before, Cond.holds, hv] using hle
  have hN : xs.length ≤ 3584 := (Int32.ofNat_le_ofNat hsm (by decide)).mp (show Int32.ofNat xs.length ≤ Int32.ofNat 3584 from hd)
  exact ⟨b, xs, Cond.one_arg hc (show args[0]? = some (.ref b) from hb), hx, hN, h⟩
theorem lw_comes (l : Launch) (hst : l.stackTraces = false) : Comes l x (Jvm.Cond.code x code maxLocals ret :: tables_1) room_1 (fun tb e args s => Calls_1 tb e args s ∧ rest_1 tb e args s ∧ Pre_1 tb e args s)
    (fun _ _ args s o t => lw_Q args s o t) := by
  intro p e ha hc hk s m args below hf hfit hheap happ hpre
  obtain ⟨b, xs, hP⟩ := lw_pre_spec hpre.2.2 hpre.2.1
  obtain ⟨k, o, h1, h2, h3, hQ⟩ := lw_walk l hst b xs p e ha hc hk s m args below hf ((Spec.applies_iff_loose hf).mp happ).1 hP trivial
  exact ⟨k, o, h1, h2, h3, hQ⟩
theorem lw_frame {s t : State} {o : Outcome} {args : Array Value} (h : Framed s o t [] 601024 7293034) :
    Framed s o t (fieldLocs frame_1_writes args s ++ arrayLocs frame_1_arrays args s ++ staticLocs frame_1_statics s) 601024 7293034 := h
theorem lw_limb (L : Cond) (hL : ∀ (args : Array Value) (s t : State), L.after args s (.returned (some (.int 1))) t = true) :
    ArmFor flags0 classFile x code maxLocals ret World_1 tables_1 room_1 Calls_1 rest_1 Pre_1
      (fun tb e a s o t => postC L tb e a s o t ∧ Framed s o t (fieldLocs frame_1_writes a s ++ arrayLocs frame_1_arrays a s ++ staticLocs frame_1_statics s) 601024 7293034) := by
  intro l hfl _ _ p e ha hc hk s m args below hf hfit hheap happ hpre
  have hst : l.stackTraces = false := by unfold Launch.stackTraces; rw [hfl]; decide +kernel
  obtain ⟨k, o, h1, h2, h3, rfl, hF⟩ := lw_comes l hst p e ha hc hk s m args below hf hfit hheap happ hpre
  exact ⟨k, _, h1, h2, h3, hL args s _, lw_frame hF⟩
theorem i_vc : Claimed_1_1 ∧ Claimed_1_2 := ⟨lw_limb limb_1_1 (fun args s t => by simp [limb_1_1, Cond.after, Cond.holds, Cond.value]), lw_limb limb_1_2 (fun args s t => Cond.after_iff.mpr (by
  first | (rw [show limb_1_2 = Cond.eq .result (.int 1) from rfl, Cond.eq_ints (x := 1) (y := 1) rfl rfl]; simp; done) | (simp [limb_1_2, Cond.value, Term.eval]; done)))⟩
