/-! Texts: calls on them, their values in locals, chars and bytes as answers. -/
section STR
variable {l : Launch} {X : Cx} {k : Mt} {pc : Nat} {L : List (Nat × Value)} {st : List Value} {h : AH} {r : Rs}
theorem g_aloadC {i : Nat} {a : Nat} (j : Nat) (hd : decode k.2.1 pc = .ok (.aload i, 2)) (hj : L[j]? = some (i, .ref a)) (kk : Go l X k (pc + 2) L (.ref a :: st) h r) : Go l X k pc L st h r := Go.of (fun _ _ _ _ _ _ _ _ _ _ _ _ _ _ _ _ F _ _ hl w => lv_aload F.1 F.2.1 hd (lv_at hl j hj) w) kk
theorem g_astoreC {i : Nat} {a : Nat} {L' : List (Nat × Value)} (hd : decode k.2.1 pc = .ok (.astore i, 2)) (hn : i < k.2.2.1) (hl : (i, Value.ref a) :: L.filter (fun q => !(q.1 == i) && !(q.1 + 1 == i && q.2.category == 2)) = L') (kk : Go l X k (pc + 2) L' st h r) : Go l X k pc L (.ref a :: st) h r := Go.ofL (fun _ _ _ _ _ _ _ _ _ _ _ _ _ _ _ F h0 w => lv_astore F.1 F.2.1 hd h0 hn hl w) kk
theorem g_sFM {idx : Nat} (hl : Cond.fieldLink k.1.cls idx "jdk/internal/util/Preconditions" "SIOOBE_FORMATTER" "Ljava/util/function/BiFunction;" ∈ gw) (hd : decode k.2.1 pc = .ok (.getstatic idx, 3)) (kk : Go l X k (pc + 3) L (rq X :: st) h r) : Go l X k pc L st h r := Go.of (fun p e R s m args below meth c H locs cells slots ls Q g F hSS hR hl9 w => by
  obtain ⟨hx, hb, hml, hr, hlk, hts, hown, hnam, hfr9, hlc, hK, hSx, hB⟩ := F
  exact va_gets hx hb hSx.1.2.2.2.2 hSS hown (hts _ hl) (fun _ q => q) hd w) kk
theorem g_cret {v : Int32} (hr : k.2.2.2.1 = some .char) (hv : cok v = true) (hd : decode k.2.1 pc = .ok (.ireturn, 1)) : Go l X k pc L [.int v] h (.inl (some (.int v)), h) := ⟨⟨Nat.le_refl _, Nat.le_refl _⟩, fun g p e R s m args below meth c F H locs cells slots ls hSS hR hc hs hl => by
  obtain ⟨hx, hb, hml, hr9, hlo, hts, hown, hnam, hfr, hlc, hK, hSx, hB⟩ := F
  refine W.widen (k := R.cells) (n := R.slots) (by simpa using hc) (by simpa using hs) ?_
  have hv' : narrow .char (.int v) = .int v := congrArg Value.int (beq_iff_eq.mp hv)
  exact W.zret hx hb (by rw [hr9]; exact hr) hv' (fun t ht hW => ⟨⟨rfl, by rw [ht]; exact hR⟩, hSS.F ht⟩) hSS.2.2 hd⟩
theorem g_bret {v : Int32} (hr : k.2.2.2.1 = some .byte) (hv : bok v = true) (hd : decode k.2.1 pc = .ok (.ireturn, 1)) : Go l X k pc L [.int v] h (.inl (some (.int v)), h) := ⟨⟨Nat.le_refl _, Nat.le_refl _⟩, fun g p e R s m args below meth c F H locs cells slots ls hSS hR hc hs hl => by
  obtain ⟨hx, hb, hml, hr9, hlo, hts, hown, hnam, hfr, hlc, hK, hSx, hB⟩ := F
  refine W.widen (k := R.cells) (n := R.slots) (by simpa using hc) (by simpa using hs) ?_
  have hv' : narrow .byte (.int v) = .int v := congrArg Value.int (beq_iff_eq.mp hv)
  exact W.zret hx hb (by rw [hr9]; exact hr) hv' (fun t ht hW => ⟨⟨rfl, by rw [ht]; exact hR⟩, hSS.F ht⟩) hSS.2.2 hd⟩
/-- a call on a text -/
theorem g_sVI {k2 : Mt} {idx n i : Nat} {av stk : List Value} {q : Int32 × AH} (hstk : stk = av.reverse ++ .ref (xA X (1000 + i)) :: st) (hd : decode k.2.1 pc = .ok (.invokevirtual idx, 3)) (ck : CK k2 n) (hm : Cond.methodLink k.1.cls idx k2.1 ∈ gw) (hin : Cond.instanceMethod k2.1 ∈ gw) (hse : Cond.selects k2.1.cls k2.1 k2.1 ∈ gw)
    (hcl : k2.1.cls = "java/lang/String") (hi : sok i = true) (hfr : k2.2.2.2.2.1 + 1 ≤ k.2.2.2.2.1) (hlo : 8 + (k2.2.2.1 + 11) + k2.2.2.2.2.2 ≤ k.2.2.2.2.2) (hn : av.length = n) (hst : (st.map fun v => v.category).sum ≤ 8)
    (ct : Ct l X k2 (.ref (xA X (1000 + i)) :: av) h (rI q)) (kk : Go l X k (pc + 3) L (.int q.1 :: st) q.2 r) : Go l X k pc L stk h r := by
  subst hstk
  have e0 : hZ h ≤ hZ q.2 ∧ hV h ≤ hV q.2 := ct.1
  have e1 := kk.1
  refine ⟨⟨by omega, by omega⟩, fun g p e R s m args below meth c F H locs cells slots ls hSS hR hc hs9 hl => ?_⟩
  obtain ⟨hx, hb, hml, hr, hlk, hts, hown, hnam, hfr9, hlc, hK, hSx, hB⟩ := id F
  have hM : Met l k2.1 (wsk k2) (rmk k2 h q.2) (va_Pc (.ref (xA X (1000 + i)) :: av) (Wd X h g)) (Qr X (some (.int q.1)) q.2 g) (hZ q.2 - hZ h) (hV q.2 - hV h) (xAr X) := ct.2 g
  obtain ⟨cellV, g1, g3, g2, gA⟩ := ((sok_at hSx hi).1).kept hSS.2.1
  refine run_go (v := some (.int q.1)) (rest := st) (va_runV (C := k2.1.cls) (As := av) (rest := st) ⟨hx, hb, hml, hown, hts⟩ hM ⟨callB_k hts ck hm (by omega) (by omega), hts _ hin, hts _ hse⟩ ⟨Wd_blind, ⟨cellV, g1, g3, by rw [hcl]; exact g2⟩, fun U hU hW => ⟨rfl, Wd_at hK hSx hSS hR hU hW⟩⟩ rfl hn hl.1 rfl (lv_room hst) hd ⟨by omega, by omega⟩) hSS (fun H1 locs1 hS1 hR1 => ?_)
  exact kk.2 g p e R s m args below meth c F H1 locs1 _ _ ls hS1 hR1 (by omega) (by omega) hl
end STR
