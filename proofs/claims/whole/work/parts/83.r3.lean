/-! Three heaps side by side: the class's, the reference's, the answers' row. -/
theorem cellE_ext {X : Cx} {h h' : AH} {o : Nat} (e1 : ∀ k, hI h' o k = hI h o k) (e2 : ∀ k, hL h' o k = hL h o k) (e3 : ∀ k, hR h' o k = hR h o k) (e4 : hS h' o = hS h o) (e5 : hN h' o = hN h o) : cellE X h' o = cellE X h o := by
  have f1 : hI h' o = hI h o := funext e1
  have f2 : hL h' o = hL h o := funext e2
  have f3 : hR h' o = hR h o := funext e3
  unfold cellE flds rowE fv
  rw [f1, f2, f3, e4, e5]
def jn (a b : AH) : AH := (fun o k => if hS a o = 0 then hI b o k else hI a o k, fun o k => if hS a o = 0 then hL b o k else hL a o k, fun o k => if hS a o = 0 then hR b o k else hR a o k, fun o => if hS a o = 0 then hS b o else hS a o, fun o => if hS a o = 0 then hN b o else hN a o, 0, 0)
theorem jn_S (a b : AH) (o : Nat) : hS (jn a b) o = if hS a o = 0 then hS b o else hS a o := rfl
theorem jn_l {X : Cx} {a b : AH} {o : Nat} (h : ¬ hS a o = 0) : cellE X (jn a b) o = cellE X a o := by
  refine cellE_ext (fun k => ?_) (fun k => ?_) (fun k => ?_) ?_ ?_
  · show (if hS a o = 0 then hI b o k else hI a o k) = _; rw [if_neg h]
  · show (if hS a o = 0 then hL b o k else hL a o k) = _; rw [if_neg h]
  · show (if hS a o = 0 then hR b o k else hR a o k) = _; rw [if_neg h]
  · show (if hS a o = 0 then hS b o else hS a o) = _; rw [if_neg h]
  · show (if hS a o = 0 then hN b o else hN a o) = _; rw [if_neg h]
theorem jn_r {X : Cx} {a b : AH} {o : Nat} (h : hS a o = 0) : cellE X (jn a b) o = cellE X b o := by
  refine cellE_ext (fun k => ?_) (fun k => ?_) (fun k => ?_) ?_ ?_
  · show (if hS a o = 0 then hI b o k else hI a o k) = _; rw [if_pos h]
  · show (if hS a o = 0 then hL b o k else hL a o k) = _; rw [if_pos h]
  · show (if hS a o = 0 then hR b o k else hR a o k) = _; rw [if_pos h]
  · show (if hS a o = 0 then hS b o else hS a o) = _; rw [if_pos h]
  · show (if hS a o = 0 then hN b o else hN a o) = _; rw [if_pos h]
def R3 (X : Cx) (h m ot : AH) (H : Heap) : Prop := H.size = xB X + hZ h ∧
  (∀ o, ¬ hS h o = 0 → 0 < o ∧ o ≤ hZ h ∧ va_at (xD X) vwCl (xB X + (o - 1), cellE X h o) H) ∧
  (∀ o, ¬ hS m o = 0 → 0 < o ∧ o ≤ hZ h ∧ hS h o = 0 ∧ va_at (xD X) vwCl (xB X + (o - 1), cellE X m o) H) ∧
  (∀ o, ¬ hS ot o = 0 → 0 < o ∧ o ≤ hZ h ∧ hS h o = 0 ∧ hS m o = 0 ∧ va_at (xD X) vwCl (xB X + (o - 1), cellE X ot o) H)
section R3S
variable {X : Cx} {h m ot : AH} {H : Heap}
theorem R3.tc (R : R3 X h m ot H) : Rl X h (jn m ot) H := by
  obtain ⟨r1, r2, r3, r4⟩ := R
  refine ⟨r1, fun o ho => r2 o ho, fun o ho => ?_⟩
  by_cases q : hS m o = 0
  · rw [jn_r q]
    rw [jn_S, if_pos q] at ho
    obtain ⟨a1, a2, a3, a4, a5⟩ := r4 o ho
    exact ⟨a1, a2, a3, a5⟩
  · rw [jn_l q]; exact r3 o q
theorem R3.tm (R : R3 X h m ot H) : Rl X (hB m (hZ h)) (jn h ot) H := by
  obtain ⟨r1, r2, r3, r4⟩ := R
  refine ⟨r1, fun o ho => ?_, fun o ho => ?_⟩
  · obtain ⟨a1, a2, a3, a4⟩ := r3 o ho
    exact ⟨a1, a2, a4⟩
  · by_cases q : hS h o = 0
    · rw [jn_r q]
      rw [jn_S, if_pos q] at ho
      obtain ⟨a1, a2, a3, a4, a5⟩ := r4 o ho
      exact ⟨a1, a2, a4, a5⟩
    · rw [jn_l q]
      obtain ⟨a1, a2, a3⟩ := r2 o q
      refine ⟨a1, a2, ?_, a3⟩
      by_cases w : hS m o = 0
      · exact w
      · exact absurd (r3 o w).2.2.1 q
theorem R3.to (R : R3 X h m ot H) : Rl X (hB ot (hZ h)) (jn h m) H := by
  obtain ⟨r1, r2, r3, r4⟩ := R
  refine ⟨r1, fun o ho => ?_, fun o ho => ?_⟩
  · obtain ⟨a1, a2, a3, a4, a5⟩ := r4 o ho
    exact ⟨a1, a2, a5⟩
  · have z : ∀ o, (¬ hS h o = 0 ∨ ¬ hS m o = 0) → hS ot o = 0 := fun o q => by
      by_cases w : hS ot o = 0
      · exact w
      · obtain ⟨a1, a2, a3, a4, a5⟩ := r4 o w
        rcases q with q | q
        · exact absurd a3 q
        · exact absurd a4 q
    by_cases q : hS h o = 0
    · rw [jn_r q]
      rw [jn_S, if_pos q] at ho
      obtain ⟨a1, a2, a3, a4⟩ := r3 o ho
      exact ⟨a1, a2, z o (Or.inr ho), a4⟩
    · rw [jn_l q]
      obtain ⟨a1, a2, a3⟩ := r2 o q
      exact ⟨a1, a2, z o (Or.inl q), a3⟩
/-- the three are apart -/
def D3 (h m ot : AH) : Prop := (∀ o, ¬ hS m o = 0 → hS h o = 0) ∧ (∀ o, ¬ hS ot o = 0 → hS h o = 0 ∧ hS m o = 0)
theorem R3.td (R : R3 X h m ot H) : D3 h m ot := ⟨fun o q => (R.2.2.1 o q).2.2.1, fun o q => ⟨(R.2.2.2 o q).2.2.1, (R.2.2.2 o q).2.2.2.1⟩⟩
theorem R3.ofc {h1 : AH} (D : ∀ o, ¬ hS ot o = 0 → hS m o = 0) (R : Rl X h1 (jn m ot) H) : R3 X h1 m ot H := by
  obtain ⟨r1, r2, r3⟩ := R
  refine ⟨r1, fun o q => r2 o q, fun o q => ?_, fun o q => ?_⟩
  · have := r3 o (by rw [jn_S, if_neg q]; exact q)
    rw [jn_l q] at this; exact this
  · have w := D o q
    obtain ⟨a1, a2, a3, a4⟩ := r3 o (by rw [jn_S, if_pos w]; exact q)
    rw [jn_r w] at a4; exact ⟨a1, a2, a3, w, a4⟩
theorem R3.ofm {m1 : AH} (D : ∀ o, ¬ hS ot o = 0 → hS h o = 0) (R : Rl X m1 (jn h ot) H) : R3 X (hB h (hZ m1)) m1 ot H := by
  obtain ⟨r1, r2, r3⟩ := R
  have hh : ∀ o, ¬ hS h o = 0 → 0 < o ∧ o ≤ hZ m1 ∧ hS m1 o = 0 ∧ va_at (xD X) vwCl (xB X + (o - 1), cellE X h o) H := fun o q => by
    have := r3 o (by rw [jn_S, if_neg q]; exact q)
    rw [jn_l q] at this; exact this
  refine ⟨r1, fun o q => ?_, fun o q => ?_, fun o q => ?_⟩
  · obtain ⟨a1, a2, a3, a4⟩ := hh o q
    exact ⟨a1, a2, a4⟩
  · obtain ⟨a1, a2, a3⟩ := r2 o q
    refine ⟨a1, a2, ?_, a3⟩
    show hS h o = 0
    by_cases w : hS h o = 0
    · exact w
    · exact absurd (hh o w).2.2.1 q
  · have w := D o q
    obtain ⟨a1, a2, a3, a4⟩ := r3 o (by rw [jn_S, if_pos w]; exact q)
    rw [jn_r w] at a4; exact ⟨a1, a2, w, a3, a4⟩
theorem R3.oo {o1 : AH} (D : ∀ o, ¬ hS m o = 0 → hS h o = 0) (R : Rl X o1 (jn h m) H) : R3 X (hB h (hZ o1)) m o1 H := by
  obtain ⟨r1, r2, r3⟩ := R
  have hh : ∀ o, ¬ hS h o = 0 → 0 < o ∧ o ≤ hZ o1 ∧ hS o1 o = 0 ∧ va_at (xD X) vwCl (xB X + (o - 1), cellE X h o) H := fun o q => by
    have := r3 o (by rw [jn_S, if_neg q]; exact q)
    rw [jn_l q] at this; exact this
  have hm : ∀ o, ¬ hS m o = 0 → 0 < o ∧ o ≤ hZ o1 ∧ hS o1 o = 0 ∧ va_at (xD X) vwCl (xB X + (o - 1), cellE X m o) H := fun o q => by
    have w := D o q
    have := r3 o (by rw [jn_S, if_pos w]; exact q)
    rw [jn_r w] at this; exact this
  refine ⟨r1, fun o q => ?_, fun o q => ?_, fun o q => ?_⟩
  · obtain ⟨a1, a2, a3, a4⟩ := hh o q
    exact ⟨a1, a2, a4⟩
  · obtain ⟨a1, a2, a3, a4⟩ := hm o q
    exact ⟨a1, a2, D o q, a4⟩
  · obtain ⟨a1, a2, a3⟩ := r2 o q
    refine ⟨a1, a2, ?_, ?_, a3⟩
    · show hS h o = 0
      by_cases w : hS h o = 0
      · exact w
      · exact absurd (hh o w).2.2.1 q
    · by_cases w : hS m o = 0
      · exact w
      · exact absurd (hm o w).2.2.1 q
theorem hB_id (h : AH) : hB h (hZ h) = h := rfl
theorem hB_B (h : AH) (a b : Nat) : hB (hB h a) b = hB h b := rfl
end R3S
/-! Calls out of a method that is walked by hand. -/
section QC
variable {p : Program} {l : Launch} {e : Env} {R : Room} {s : State} {mm : MethodId} {args : Array Value} {below : List Frame} {meth : Method} {c : Code} {X : Cx} {k : Mt} {H : Heap} {locs : List Loc} {cells slots : Nat} {ls : Array Slot} {pc : Nat} {st : List Value} {h g : AH} {Q : State → Prop}
/-- what a method that is walked by hand knows -/
def QF (X : Cx) (k : Mt) (p : Program) (s : State) (mm : MethodId) (args : Array Value) (c : Code) : Prop :=
  p.tables.exec = Jvm.exec ∧ c.code = k.2.1 ∧ c.maxLocals = k.2.2.1 ∧ s.vm.findClass k.1.cls = some mm.cls ∧ (∀ w ∈ gw, w.before args s = true) ∧ va_K (xD X) vwCl (tysX X) s ∧ Sx X s s.heap
theorem q_callV {k2 : Mt} {idx n ci o : Nat} {av : List Value} {v : Option Value} {h1 : AH} (F : QF X k p s mm args c) (hd : decode k.2.1 pc = .ok (.invokevirtual idx, 3)) (ck : CK k2 n) (hm : Cond.methodLink k.1.cls idx k2.1 ∈ gw) (hin : Cond.instanceMethod k2.1 ∈ gw) (hse : Cond.selects k2.1.cls k2.1 k2.1 ∈ gw)
    (hci : (vwCl[ci]?).map (fun q => q.1) = some k2.1.cls) (h20 : ci < 20) (hs : hS h o = ci + 1) (hfr : k2.2.2.2.2.1 + 1 ≤ R.frames) (hlo : 8 + (k2.2.2.1 + 11) + k2.2.2.2.2.2 ≤ R.locals) (hn : av.length = n) (hst : (st.map fun v => v.category).sum ≤ 8)
    (ct : Ct l X k2 (rf X o :: av) h (.inl v, h1)) (hSS : va_S (xAr X) s.heap H locs) (hR : Rl X h g H) (hsz : ls.size = k.2.2.1) (hc : cells + (hZ h1 - hZ h) ≤ R.cells) (hs9 : slots + (hV h1 - hV h) ≤ R.slots)
    (kk : ∀ (H1 : Heap) (locs1 : List Loc), va_S (xAr X) s.heap H1 locs1 → Rl X h1 g H1 → W p l e R s mm args below meth c H1 locs1 (cells + (hZ h1 - hZ h)) (slots + (hV h1 - hV h)) Q (F0 mm (pc + 3) ls (v.toList ++ st))) :
    W p l e R s mm args below meth c H locs cells slots Q (F0 mm pc ls (av.reverse ++ rf X o :: st)) := by
  obtain ⟨hx, hb, hml, hown, hts, hK, hSx⟩ := F
  have hP := hR.at hs (by omega)
  rw [cellE_obj hs h20] at hP
  have hM := ct.2 g
  dsimp only at hM
  rw [hR.rfe hs (by omega)] at hM ⊢
  cases hq : vwCl[ci]? with
  | none => rw [hq] at hci; cases hci
  | some q =>
    rw [hq] at hci
    have hC : q.1 = k2.1.cls := Option.some.inj hci
    have hrecv := va_recv hK hP hq (q0 := 0) rfl
    rw [hC] at hrecv
    exact run_go (rest := st) (va_runV (C := k2.1.cls) (As := av) (rest := st) ⟨hx, hb, hml, hown, hts⟩ hM ⟨callB_k (k := k) hts ck hm hfr hlo, hts _ hin, hts _ hse⟩ ⟨Wd_blind, hrecv, fun U hU hW => ⟨rfl, Wd_at hK hSx hSS hR hU hW⟩⟩ rfl hn hsz rfl (lv_room hst) hd ⟨hc, hs9⟩) hSS kk
theorem q_callI {k2 : Mt} {idx n o : Nat} {av : List Value} {h1 : AH} (F : QF X k p s mm args c) (hd : decode k.2.1 pc = .ok (.invokespecial idx, 3)) (ck : CK k2 n) (hnm : k2.1.name = "<init>") (hret : k2.2.2.2.1 = none) (hm : Cond.methodLink k.1.cls idx k2.1 ∈ gw) (hin : Cond.instanceMethod k2.1 ∈ gw)
    (s9 : Nat) (hs : hS h o = s9) (hs0 : s9 ≠ 0) (hfr : k2.2.2.2.2.1 + 1 ≤ R.frames) (hlo : 8 + (k2.2.2.1 + 11) + k2.2.2.2.2.2 ≤ R.locals) (hn : av.length = n) (hst : (st.map fun v => v.category).sum ≤ 8)
    (ct : Ct l X k2 (rf X o :: av) h (.inl none, h1)) (hSS : va_S (xAr X) s.heap H locs) (hR : Rl X h g H) (hsz : ls.size = k.2.2.1) (hc : cells + (hZ h1 - hZ h) ≤ R.cells) (hs9 : slots + (hV h1 - hV h) ≤ R.slots)
    (kk : ∀ (H1 : Heap) (locs1 : List Loc), va_S (xAr X) s.heap H1 locs1 → Rl X h1 g H1 → W p l e R s mm args below meth c H1 locs1 (cells + (hZ h1 - hZ h)) (slots + (hV h1 - hV h)) Q (F0 mm (pc + 3) ls st)) :
    W p l e R s mm args below meth c H locs cells slots Q (F0 mm pc ls (av.reverse ++ rf X o :: st)) := by
  obtain ⟨hx, hb, hml, hown, hts, hK, hSx⟩ := F
  have hM := ct.2 g
  dsimp only at hM
  rw [hR.rfe hs hs0] at hM ⊢
  have cb := callB_k (k := k) (h := h) (h1 := h1) hts ck hm hfr hlo
  rw [hret] at cb
  exact run_go (rest := st) (va_runI (As := av) (rest := st) ⟨hx, hb, hml, hown, hts⟩ hM ⟨cb, hnm, hts _ hin⟩ ⟨Wd_blind, fun U hU hW => ⟨rfl, Wd_at hK hSx hSS hR hU hW⟩⟩ rfl hn hsz rfl (lv_room hst) hd ⟨hc, hs9⟩) hSS kk
/-- a callee that throws E: on to the catching -/
theorem run_x {cells slots mc ms : Nat} {st0 rest : List Value} {E : String} {h1 : AH}
    (hr : vx_Run p l e R s mm args below meth c H locs cells slots mc ms (F0 mm pc ls st0) rest (fun _ _ _ => False) (Qx X E h1 g) (xAr X)) (hS : va_S (xAr X) s.heap H locs)
    (kk : ∀ (H1 : Heap) (locs1 : List Loc) (q : Addr) (ce : Cell), va_S (xAr X) s.heap H1 locs1 → (∃ n, Rl X (hB h1 n) g H1) → H1[q]? = some ce → ce.vm = .none → s.vm.findClass E = some ce.cls → vx_W p l e R s mm args below meth c H1 locs1 (cells + mc) (slots + ms) Q (F0 mm pc ls rest) q) : W p l e R s mm args below meth c H locs cells slots Q (F0 mm pc ls st0) := by
  intro T hT X9
  rcases hr T hT X9 with ⟨v, st₀, t, T', L, h0, X', hL, e1, e2, hf, st⟩ | ⟨q, st₀, t, T', L, E9, ce, h0, X', hL, e1, e2, ⟨hE, hrl, hF⟩, hce, hcv, hcl, st⟩
  · exact hf.elim
  · subst hE
    obtain ⟨k1, k2, k3⟩ := vx_keep h0 e1 hS (fun _ _ z => z) (fun _ z => z) hL hF
    obtain ⟨t2, a1, b1⟩ := kk T'.heap (locs ++ L) q ce k3 (by rw [e1]; exact hrl) (by rw [e1]; exact hce) hcv hcl T' rfl X'
    exact ⟨t2, st.trans a1, b1⟩
theorem q_callX {k2 : Mt} {idx n ci o : Nat} {av : List Value} {E : String} {h1 : AH} (F : QF X k p s mm args c) (hd : decode k.2.1 pc = .ok (.invokevirtual idx, 3)) (ck : CK k2 n) (hm : Cond.methodLink k.1.cls idx k2.1 ∈ gw) (hin : Cond.instanceMethod k2.1 ∈ gw) (hse : Cond.selects k2.1.cls k2.1 k2.1 ∈ gw)
    (hci : (vwCl[ci]?).map (fun q => q.1) = some k2.1.cls) (h20 : ci < 20) (hs : hS h o = ci + 1) (hfr : k2.2.2.2.2.1 + 1 ≤ R.frames) (hlo : 8 + (k2.2.2.1 + 11) + k2.2.2.2.2.2 ≤ R.locals) (hn : av.length = n) (hst : (st.map fun v => v.category).sum ≤ 8)
    (ct : Ct l X k2 (rf X o :: av) h (.inr E, h1)) (hSS : va_S (xAr X) s.heap H locs) (hR : Rl X h g H) (hsz : ls.size = k.2.2.1) (hc : cells + (hZ h1 - hZ h) ≤ R.cells) (hs9 : slots + (hV h1 - hV h) ≤ R.slots)
    (kk : ∀ (H1 : Heap) (locs1 : List Loc) (q : Addr) (ce : Cell), va_S (xAr X) s.heap H1 locs1 → (∃ n, Rl X (hB h1 n) g H1) → H1[q]? = some ce → ce.vm = .none → s.vm.findClass E = some ce.cls → vx_W p l e R s mm args below meth c H1 locs1 (cells + (hZ h1 - hZ h)) (slots + (hV h1 - hV h)) Q (F0 mm pc ls st) q) :
    W p l e R s mm args below meth c H locs cells slots Q (F0 mm pc ls (av.reverse ++ rf X o :: st)) := by
  obtain ⟨hx, hb, hml, hown, hts, hK, hSx⟩ := F
  have hP := hR.at hs (by omega)
  rw [cellE_obj hs h20] at hP
  have hM := ct.2 g
  dsimp only at hM
  rw [hR.rfe hs (by omega)] at hM ⊢
  cases hq : vwCl[ci]? with
  | none => rw [hq] at hci; cases hci
  | some q =>
    rw [hq] at hci
    have hC : q.1 = k2.1.cls := Option.some.inj hci
    have hrecv := va_recv hK hP hq (q0 := 0) rfl
    rw [hC] at hrecv
    exact run_x (rest := st) (vx_runV (C := k2.1.cls) (As := av) (rest := st) ⟨hx, hb, hml, hown, hts⟩ hM ⟨callB_k (k := k) hts ck hm hfr hlo, hts _ hin, hts _ hse⟩ ⟨Wd_blind, hrecv, fun U hU hW => ⟨rfl, Wd_at hK hSx hSS hR hU hW⟩⟩ rfl hn hsz rfl (lv_room hst) hd ⟨hc, hs9⟩) hSS kk
/-- the answers' row: read and written -/
theorem q_lald {o : Nat} {i : Int32} (F : QF X k p s mm args c) (hR : Rl X h g H) (hs : hS h o = 22) (hi : ib i (hN h o) = true) (hd : decode k.2.1 pc = .ok (.laload, 1)) (kk : W p l e R s mm args below meth c H locs cells slots Q (F0 mm (pc + 1) ls (.long (hL h o i.toNatClampNeg) :: st))) : W p l e R s mm args below meth c H locs cells slots Q (F0 mm pc ls (.int i :: rf X o :: st)) := by
  obtain ⟨hx, hb, hml, hown, hts, hK, hSx⟩ := F
  rw [hR.rfe hs (by omega)]
  exact va_lald hx hb hK (hR.arr hs (by omega)) 0 1 rfl rfl (ib_in hi) hd kk
theorem q_last {o : Nat} {i : Int32} {x : Int64} (F : QF X k p s mm args c) (hSS : va_S (xAr X) s.heap H locs) (hR : Rl X h g H) (hs : hS h o = 22) (hi : ib i (hN h o) = true) (hd : decode k.2.1 pc = .ok (.lastore, 1))
    (kk : ∀ (H1 : Heap) (locs1 : List Loc), va_S (xAr X) s.heap H1 locs1 → Rl X (sL h o i.toNatClampNeg x) g H1 → W p l e R s mm args below meth c H1 locs1 cells slots Q (F0 mm (pc + 1) ls st)) : W p l e R s mm args below meth c H locs cells slots Q (F0 mm pc ls (.long x :: .int i :: rf X o :: st)) := by
  obtain ⟨hx, hb, hml, hown, hts, hK, hSx⟩ := F
  rw [hR.rfe hs (by omega)]
  have hP := hR.arr hs (by omega) 0 _ rfl
  have hP : H[xB X + (o - 1)]? = some (arrV (xC X 22) (hN h o) (fun j => .long (hL h o j))) := hP
  refine W.last hx hb hP ((hK.2 1 _ rfl).1 _ _) (fun q => by cases q) (by rw [arrV_size]; exact ib_in hi) rfl rfl hd fun H1 e z oq => kk H1 _ (hSS.put z oq (Nat.le_add_right _ _)) (hR.put (by omega) z oq (fun _ => rfl) rfl (fun a ha => cellE_sL a ha) ?_)
  rw [cellE_arr (s := 22) (show hS (sL h o i.toNatClampNeg x) o = 22 from hs) (by omega)]
  show H1[xB X + (o - 1)]? = some (arrV (xC X 22) (hN h o) (fun q => .long (hL (sL h o i.toNatClampNeg x) o q)))
  rw [e, arrV_store]
  congr 2
  funext q
  by_cases hq : q = i.toNatClampNeg
  · subst hq; simp [updV, hL_sL]
  · simp [updV, hL_sL, hq]
end QC
