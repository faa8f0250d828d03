/-! Calls of nest mates' private methods. -/
section NEST
variable {l : Launch} {X : Cx} {k : Mt} {pc : Nat} {L : List (Nat × Value)} {st : List Value} {h : AH} {r : Rs}
theorem callN_k {k2 : Mt} {idx n : Nat} {R : Room} {s : State} {args : Array Value} {h1 : AH} (hts : ∀ w ∈ gw, w.before args s = true) (hN : SxN s) (ck : CK k2 n) (j : Nat) (hj : nestM[j]? = some (k.1.cls, idx, k2.1, "CoreHouse")) (hfr : k2.2.2.2.2.1 + 1 ≤ R.frames) (hlo : 8 + (k2.2.2.1 + 11) + k2.2.2.2.2.2 ≤ R.locals) :
    va_CN R s args k.1.cls idx k2.1 "CoreHouse" k2.2.1 k2.2.2.1 k2.2.2.2.1 (wsk k2) (rmk k2 h h1) (hZ h1 - hZ h) (hV h1 - hV h) n :=
  va_cnB n hts (fun w hw => (List.mem_cons.mp hw).elim (fun e => by rw [e]; exact good_gw _ ck.1) (fun q => good_gw w q)) rfl rfl rfl (nestM_at hN j hj) (hts _ ck.2.1) ⟨ck.2.2.1, ck.2.2.2.1, ck.2.2.2.2.1⟩ ⟨hfr, hlo⟩
theorem g_nVV {k2 : Mt} {idx n ci o : Nat} {av stk : List Value} {q : AH} (hstk : stk = av.reverse ++ rf X o :: st) (hd : decode k.2.1 pc = .ok (.invokevirtual idx, 3)) (ck : CK k2 n) (j : Nat) (hj : nestM[j]? = some (k.1.cls, idx, k2.1, "CoreHouse")) (hin : Cond.instanceMethod k2.1 ∈ gw) (hse : Cond.selects k2.1.cls k2.1 k2.1 ∈ gw)
    (hci : (vwCl[ci]?).map (fun q => q.1) = some k2.1.cls) (h20 : ci < 20) (hs : hS h o = ci + 1) (hfr : k2.2.2.2.2.1 + 1 ≤ k.2.2.2.2.1) (hlo : 8 + (k2.2.2.1 + 11) + k2.2.2.2.2.2 ≤ k.2.2.2.2.2) (hn : av.length = n) (hst : (st.map fun v => v.category).sum ≤ 8)
    (ct : Ct l X k2 (rf X o :: av) h (rV q)) (kk : Go l X k (pc + 3) L st q r) : Go l X k pc L stk h r := by
  subst hstk
  have e0 : hZ h ≤ hZ q ∧ hV h ≤ hV q := ct.1
  have e1 := kk.1
  refine ⟨⟨by omega, by omega⟩, fun g p e R s m args below meth c F H locs cells slots ls hSS hR hc hs9 hl => ?_⟩
  obtain ⟨hx, hb, hml, hr, hlk, hts, hown, hnam, hfr9, hlc, hK, hSx, hB⟩ := id F
  have hP := hR.at hs (by omega)
  rw [cellE_obj hs h20] at hP
  have hM : Met l k2.1 (wsk k2) (rmk k2 h q) (va_Pc (rf X o :: av) (Wd X h g)) (Qr X none q g) (hZ q - hZ h) (hV q - hV h) (xAr X) := ct.2 g
  rw [hR.rfe hs (by omega)] at hM ⊢
  cases hq : vwCl[ci]? with
  | none => rw [hq] at hci; cases hci
  | some q9 =>
    rw [hq] at hci
    have hC : q9.1 = k2.1.cls := Option.some.inj hci
    have hrecv := va_recv hK hP hq (q0 := 0) rfl
    rw [hC] at hrecv
    refine run_go (v := none) (rest := st) (va_runVN (C := k2.1.cls) (As := av) (rest := st) ⟨hx, hb, hml, hown, hts⟩ hM ⟨callN_k hts hSx.2.2.2.1 ck j hj (by omega) (by omega), hts _ hin, hts _ hse⟩ ⟨Wd_blind, hrecv, fun U hU hW => ⟨rfl, Wd_at hK hSx hSS hR hU hW⟩⟩ rfl hn hl.1 rfl (lv_room hst) hd ⟨by omega, by omega⟩) hSS (fun H1 locs1 hS1 hR1 => ?_)
    exact kk.2 g p e R s m args below meth c F H1 locs1 _ _ ls hS1 hR1 (by omega) (by omega) hl
theorem g_nSI {k2 : Mt} {idx n : Nat} {av stk : List Value} {q : Int32 × AH} (hstk : stk = av.reverse ++ st) (hd : decode k.2.1 pc = .ok (.invokestatic idx, 3)) (ck : CK k2 n) (j : Nat) (hj : nestM[j]? = some (k.1.cls, idx, k2.1, "CoreHouse")) (hsta : Cond.static k2.1 ∈ gw)
    (hfr : k2.2.2.2.2.1 + 1 ≤ k.2.2.2.2.1) (hlo : 8 + (k2.2.2.1 + 11) + k2.2.2.2.2.2 ≤ k.2.2.2.2.2) (hn : av.length = n) (hst : (st.map fun v => v.category).sum ≤ 8)
    (ct : Ct l X k2 av h (rI q)) (kk : Go l X k (pc + 3) L (.int q.1 :: st) q.2 r) : Go l X k pc L stk h r := by
  subst hstk
  have e0 : hZ h ≤ hZ q.2 ∧ hV h ≤ hV q.2 := ct.1
  have e1 := kk.1
  refine ⟨⟨by omega, by omega⟩, fun g p e R s m args below meth c F H locs cells slots ls hSS hR hc hs9 hl => ?_⟩
  obtain ⟨hx, hb, hml, hr, hlk, hts, hown, hnam, hfr9, hlc, hK, hSx, hB⟩ := id F
  have hM : Met l k2.1 (wsk k2) (rmk k2 h q.2) (va_Pc av (Wd X h g)) (Qr X (some (.int q.1)) q.2 g) (hZ q.2 - hZ h) (hV q.2 - hV h) (xAr X) := ct.2 g
  refine run_go (v := some (.int q.1)) (rest := st) (va_runSN (As := av) (rest := st) ⟨hx, hb, hml, hown, hts⟩ hM ⟨callN_k hts hSx.2.2.2.1 ck j hj (by omega) (by omega), hts _ hsta, trivial⟩ ⟨Wd_blind, fun U hU hW => ⟨rfl, Wd_at hK hSx hSS hR hU hW⟩⟩ rfl hn hl.1 rfl (lv_room hst) hd ⟨by omega, by omega⟩) hSS (fun H1 locs1 hS1 hR1 => ?_)
  exact kk.2 g p e R s m args below meth c F H1 locs1 _ _ ls hS1 hR1 (by omega) (by omega) hl
theorem g_nIV {k2 : Mt} {idx n o : Nat} {av stk : List Value} {q : AH} (hstk : stk = av.reverse ++ rf X o :: st) (hd : decode k.2.1 pc = .ok (.invokespecial idx, 3)) (ck : CK k2 n) (hnm : k2.1.name = "<init>") (hret : k2.2.2.2.1 = none) (j : Nat) (hj : nestM[j]? = some (k.1.cls, idx, k2.1, "CoreHouse")) (hin : Cond.instanceMethod k2.1 ∈ gw)
    (s9 : Nat) (hs : hS h o = s9) (hs0 : s9 ≠ 0) (hfr : k2.2.2.2.2.1 + 1 ≤ k.2.2.2.2.1) (hlo : 8 + (k2.2.2.1 + 11) + k2.2.2.2.2.2 ≤ k.2.2.2.2.2) (hn : av.length = n) (hst : (st.map fun v => v.category).sum ≤ 8)
    (ct : Ct l X k2 (rf X o :: av) h (rV q)) (kk : Go l X k (pc + 3) L st q r) : Go l X k pc L stk h r := by
  subst hstk
  have e0 : hZ h ≤ hZ q ∧ hV h ≤ hV q := ct.1
  have e1 := kk.1
  refine ⟨⟨by omega, by omega⟩, fun g p e R s m args below meth c F H locs cells slots ls hSS hR hc hs9 hl => ?_⟩
  obtain ⟨hx, hb, hml, hr, hlk, hts, hown, hnam, hfr9, hlc, hK, hSx, hB⟩ := id F
  have hM : Met l k2.1 (wsk k2) (rmk k2 h q) (va_Pc (rf X o :: av) (Wd X h g)) (Qr X none q g) (hZ q - hZ h) (hV q - hV h) (xAr X) := ct.2 g
  rw [hR.rfe hs hs0] at hM ⊢
  have cb := callN_k (h := h) (h1 := q) hts hSx.2.2.2.1 ck j hj (show k2.2.2.2.2.1 + 1 ≤ R.frames by omega) (by omega)
  rw [hret] at cb
  refine run_go (v := none) (rest := st) (va_runIN (As := av) (rest := st) ⟨hx, hb, hml, hown, hts⟩ hM ⟨cb, hnm, hts _ hin⟩ ⟨Wd_blind, fun U hU hW => ⟨rfl, Wd_at hK hSx hSS hR hU hW⟩⟩ rfl hn hl.1 rfl (lv_room hst) hd ⟨by omega, by omega⟩) hSS (fun H1 locs1 hS1 hR1 => ?_)
  exact kk.2 g p e R s m args below meth c F H1 locs1 _ _ ls hS1 hR1 (by omega) (by omega) hl
end NEST
