/-! Throws of the class's own: new, dup, ldc, <init>, athrow. -/
def xNm : List String := ["java/lang/RuntimeException", "java/lang/Exception"]
def TH (ik ic : Nat) (E : String) : Prop := Bundle.fit E = true ∧ Cond.classLink "CoreHouse" ik E ∈ gw ∧ Cond.initialized E ∈ gw ∧ (∀ w ∈ (vx_atS "CoreHouse" ic E xNm).filter goodWord, w ∈ gw) ∧ (∀ w ∈ (vx_atS "CoreHouse" ic E xNm).filter (fun w => !goodWord w), w ∈ Cond.castable E E :: thrD.map Cond.declares) ∧ (∀ w ∈ Cond.classLink "CoreHouse" ik E :: Cond.initialized E :: vx_atS "CoreHouse" ic E xNm, vx_ot w = true) ∧ E ∈ thrE
section THROW
variable {l : Launch} {X : Cx} {k : Mt} {pc : Nat} {L : List (Nat × Value)} {st : List Value} {h : AH} {r : Rs}
theorem Rl.later {X : Cx} {h g : AH} {H H1 : Heap} (hR : Rl X h g H) (hz : H.size ≤ H1.size) (hq : ∀ q : Nat, q < H.size → H1[q]? = H[q]?) : ∃ n, Rl X (hB (hT h) n) g H1 := by
  obtain ⟨h1, h2, h3⟩ := hR
  refine ⟨H1.size - xB X, ?_, fun o ho => ?_, fun o ho => ?_⟩
  · show H1.size = xB X + (H1.size - xB X)
    omega
  · obtain ⟨q1, q2, q3⟩ := h2 o ho
    refine ⟨q1, ?_, ?_⟩
    · show o ≤ H1.size - xB X
      omega
    · exact va_at.kept (show va_at (xD X) vwCl (xB X + (o - 1), cellE X h o) H from q3) (hq _ (by show xB X + (o - 1) < H.size; omega))
  · obtain ⟨q1, q2, q3, q4⟩ := h3 o ho
    refine ⟨q1, ?_, q3, ?_⟩
    · show o ≤ H1.size - xB X
      omega
    · exact q4.kept (hq _ (by show xB X + (o - 1) < H.size; omega))
theorem g_throw (hl : l.stackTraces = false) {ik is ic : Nat} {E text : String} (hcl : k.1.cls = "CoreHouse") (T : TH ik ic E) (hs : (is, text) ∈ thrS) (hfr : 6 ≤ k.2.2.2.2.1) (hlo : 90 ≤ k.2.2.2.2.2) (hst : (st.map fun v => v.category).sum ≤ 8)
    (d0 : decode k.2.1 pc = .ok (.new ik, 3)) (d3 : decode k.2.1 (pc + 3) = .ok (.dup, 1)) (d4 : decode k.2.1 (pc + 4) = .ok (.ldc is, 2)) (d6 : decode k.2.1 (pc + 6) = .ok (.invokespecial ic, 3)) (d9 : decode k.2.1 (pc + 9) = .ok (.athrow, 1)) : Go l X k pc L st h (.inr E, hT h) := by
  refine ⟨⟨Nat.le_succ _, Nat.le_add_right _ _⟩, fun g p e R s m args below meth c F H locs cells slots ls hSS hR hc hs9 hl9 => ?_⟩
  obtain ⟨hx, hb, hml, hr, hlk, hts, hown, hnam, hfr9, hlc, hK, hSx, hB, hE⟩ := F
  obtain ⟨t1, t2, t3, t4, t5, t6, t7⟩ := T
  rw [hcl] at hown
  have hc : cells + (hZ h + 1) ≤ R.cells + hZ h := hc
  have hs9 : slots + (hV h + 6) ≤ R.slots + hV h := hs9
  obtain ⟨sa, hvk⟩ := hSx.2.2.2.2.2.2.2.2.1 (is, text) hs
  have hcast : ∀ w ∈ Cond.castable E E :: thrD.map Cond.declares, w.before args s = true := fun w hw => by
    rcases List.mem_cons.mp hw with q | q
    · rw [q]
      exact va_Nw.use rfl (hSx.2.2.2.2.2.2.2.1 E t7)
    · obtain ⟨y, hy, rfl⟩ := List.mem_map.mp q
      exact va_Nw.use rfl (hSx.2.2.2.2.2.2.2.2.2 y hy)
  exact vx_throwS (names := xNm) (mc := R.cells) (ms := R.slots) hx hb hl hown t1 (by decide) (hts _ t2) (hts _ t3) hvk (vx_hat (fun w hw => hts w (t4 w hw)) t5 hcast) t6 hSx.2.2.2.2.2.1 hSx.2.2.2.2.2.2.1 hSS (by rw [hml]; exact hl9.1) d0 d3 d4 d6 d9 (fun x q => absurd (hE x q) id)
    (by show 2 + 3 < R.frames; omega) (by show _ + (13 * (2 + 1) + 43) ≤ R.locals; omega) (by omega) (by omega) hlk (fun t _ hz hq => ⟨rfl, hR.later hz hq, ⟨Nat.le_trans hSS.1 hz, fun q h1 h2 => (hq q (Nat.lt_of_lt_of_le h1 hSS.1)).trans (hSS.2.1 q h1 h2)⟩⟩) hSS.2.2 (by omega) (by omega)
theorem g_throwW (hl : l.stackTraces = false) {ik is ic : Nat} {E text : String} (hcl : k.1.cls = "CoreHouse") (T : TH ik ic E) (hs : (is, text) ∈ thrS) (hfr : 6 ≤ k.2.2.2.2.1) (hlo : 90 ≤ k.2.2.2.2.2) (hst : (st.map fun v => v.category).sum ≤ 8)
    (d0 : decode k.2.1 pc = .ok (.new ik, 3)) (d3 : decode k.2.1 (pc + 3) = .ok (.dup, 1)) (d4 : decode k.2.1 (pc + 4) = .ok (.ldc_w is, 3)) (d7 : decode k.2.1 (pc + 7) = .ok (.invokespecial ic, 3)) (d10 : decode k.2.1 (pc + 10) = .ok (.athrow, 1)) : Go l X k pc L st h (.inr E, hT h) := by
  refine ⟨⟨Nat.le_succ _, Nat.le_add_right _ _⟩, fun g p e R s m args below meth c F H locs cells slots ls hSS hR hc hs9 hl9 => ?_⟩
  obtain ⟨hx, hb, hml, hr, hlk, hts, hown, hnam, hfr9, hlc, hK, hSx, hB, hE⟩ := F
  obtain ⟨t1, t2, t3, t4, t5, t6, t7⟩ := T
  rw [hcl] at hown
  have hc : cells + (hZ h + 1) ≤ R.cells + hZ h := hc
  have hs9 : slots + (hV h + 6) ≤ R.slots + hV h := hs9
  obtain ⟨sa, hvk⟩ := hSx.2.2.2.2.2.2.2.2.1 (is, text) hs
  have hcast : ∀ w ∈ Cond.castable E E :: thrD.map Cond.declares, w.before args s = true := fun w hw => by
    rcases List.mem_cons.mp hw with q | q
    · rw [q]
      exact va_Nw.use rfl (hSx.2.2.2.2.2.2.2.1 E t7)
    · obtain ⟨y, hy, rfl⟩ := List.mem_map.mp q
      exact va_Nw.use rfl (hSx.2.2.2.2.2.2.2.2.2 y hy)
  exact vx_throwSW (names := xNm) (mc := R.cells) (ms := R.slots) hx hb hl hown t1 (by decide) (hts _ t2) (hts _ t3) hvk (vx_hat (fun w hw => hts w (t4 w hw)) t5 hcast) t6 hSx.2.2.2.2.2.1 hSx.2.2.2.2.2.2.1 hSS (by rw [hml]; exact hl9.1) d0 d3 d4 d7 d10 (fun x q => absurd (hE x q) id)
    (by show 2 + 3 < R.frames; omega) (by show _ + (13 * (2 + 1) + 43) ≤ R.locals; omega) (by omega) (by omega) hlk (fun t _ hz hq => ⟨rfl, hR.later hz hq, ⟨Nat.le_trans hSS.1 hz, fun q h1 h2 => (hq q (Nat.lt_of_lt_of_le h1 hSS.1)).trans (hSS.2.1 q h1 h2)⟩⟩) hSS.2.2 (by omega) (by omega)
/-- the contract of a method that throws here -/
theorem ct_ofX {l : Launch} {X : Cx} {k : Mt} {av : List Value} {L : List (Nat × Value)} {h : AH} {E : String} {h1 : AH} {n : Nat} (ck : CK k n) (hlen : (lg_sl av).length ≤ k.2.2.1) (hL : lv_args 0 av = L) (go : Go l X k 0 L [] h (.inr E, h1)) : Ct l X k av h (.inr E, h1) := ⟨go.1, fun g => by
  refine vx_ofW (cc := k.2.1) (maxL := k.2.2.1) (ret := k.2.2.2.1) ck.2.2.2.2.2 rfl ?_
  intro p e s m args below meth c s₁ B hml hex hv
  obtain ⟨rfl, hR, hK, hSx⟩ := hv
  have hts := atoms_spec (ws := wsk k) B.pre
  have hl := lv_entry av (n := k.2.2.1) hlen
  rw [hL] at hl
  rw [lg_entry_eq]
  have hzz := go.1
  have h9 := hR.1
  exact go.2 g p e (rmk k h h1) s m av.toArray below meth c ⟨B.exec, B.bytes, hml, B.returns, B.notSynchronized, fun w hw => hts w (List.mem_cons_of_mem _ hw), findClass_of_methodNamed B.named, (name_of_methodNamed B.named B.method).1, Nat.le_refl _, Nat.le_refl _, hK, hSx, by omega, hex⟩ s.heap [] 0 0 _ va_S.rf hR (by show 0 + hZ h1 ≤ (hZ h1 - hZ h) + hZ h; omega) (by show 0 + hV h1 ≤ (hV h1 - hV h) + hV h; omega) hl⟩
end THROW
