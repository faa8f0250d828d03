/-! Rows over the constants: static rows, enum constants, texts, nest mates, rows of references. -/
section CON
variable {l : Launch} {X : Cx} {k : Mt} {pc : Nat} {L : List (Nat × Value)} {st : List Value} {h : AH} {r : Rs}
theorem g_sCH {idx : Nat} (hl : Cond.fieldLink k.1.cls idx "CoreHouse" "CHANNELS" "[I" ∈ gw) (hd : decode k.2.1 pc = .ok (.getstatic idx, 3)) (kk : Go l X k (pc + 3) L (.ref (xA X 0) :: st) h r) : Go l X k pc L st h r := Go.of (fun p e R s m args below meth c H locs cells slots ls Q g F hSS hR hl9 w => by
  obtain ⟨hx, hb, hml, hr, hlk, hts, hown, hnam, hfr9, hlc, hK, hSx, hB⟩ := F
  exact va_gets hx hb hSx.1.1.1 hSS hown (hts _ hl) (fun _ q => q) hd w) kk
theorem nestF_at {U : State} (h : SxN U) (j : Nat) {t : String × Nat × String × String × String × String} (hj : nestF[j]? = some t) : va_Nw (.fieldLinkNest t.1 t.2.1 t.2.2.1 t.2.2.2.1 t.2.2.2.2.1 t.2.2.2.2.2) U := h.1 t (List.mem_of_getElem? hj)
theorem nestM_at {U : State} (h : SxN U) (j : Nat) {t : String × Nat × MethodName × String} (hj : nestM[j]? = some t) : va_Nw (.methodLinkNest t.1 t.2.1 t.2.2.1 t.2.2.2) U := h.2.1 t (List.mem_of_getElem? hj)
theorem g_sCHN {idx : Nat} (j : Nat) (hj : nestF[j]? = some (k.1.cls, idx, "CoreHouse", "CHANNELS", "[I", "CoreHouse")) (hd : decode k.2.1 pc = .ok (.getstatic idx, 3)) (kk : Go l X k (pc + 3) L (.ref (xA X 0) :: st) h r) : Go l X k pc L st h r := Go.of (fun p e R s m args below meth c H locs cells slots ls Q g F hSS hR hl9 w => by
  obtain ⟨hx, hb, hml, hr, hlk, hts, hown, hnam, hfr9, hlc, hK, hSx, hB⟩ := F
  exact va_getsN hx hb hSx.1.1.1 hSS hown (va_Nw.use rfl (nestF_at hSx.2.2.2.1 j hj)) (fun _ q => q) hd w) kk
theorem g_sBBN {idx : Nat} (j : Nat) (hj : nestF[j]? = some (k.1.cls, idx, "CoreHouse", "BYTE_BITS", "[I", "CoreHouse")) (hd : decode k.2.1 pc = .ok (.getstatic idx, 3)) (kk : Go l X k (pc + 3) L (.ref (xA X 1) :: st) h r) : Go l X k pc L st h r := Go.of (fun p e R s m args below meth c H locs cells slots ls Q g F hSS hR hl9 w => by
  obtain ⟨hx, hb, hml, hr, hlk, hts, hown, hnam, hfr9, hlc, hK, hSx, hB⟩ := F
  exact va_getsN hx hb hSx.1.2.1.1 hSS hown (va_Nw.use rfl (nestF_at hSx.2.2.2.1 j hj)) (fun _ q => q) hd w) kk
theorem g_sMNN {idx : Nat} (j : Nat) (hj : nestF[j]? = some (k.1.cls, idx, "CoreHouse", "MNEMONICS", "[LCoreHouse$Mnemonic;", "CoreHouse")) (hd : decode k.2.1 pc = .ok (.getstatic idx, 3)) (kk : Go l X k (pc + 3) L (.ref (xA X 2) :: st) h r) : Go l X k pc L st h r := Go.of (fun p e R s m args below meth c H locs cells slots ls Q g F hSS hR hl9 w => by
  obtain ⟨hx, hb, hml, hr, hlk, hts, hown, hnam, hfr9, hlc, hK, hSx, hB⟩ := F
  exact va_getsN hx hb hSx.1.2.2.1.1 hSS hown (va_Nw.use rfl (nestF_at hSx.2.2.2.1 j hj)) (fun _ q => q) hd w) kk
theorem g_sCS {idx : Nat} (hl : Cond.fieldLink k.1.cls idx "java/lang/String" "COMPACT_STRINGS" "Z" ∈ gw) (hd : decode k.2.1 pc = .ok (.getstatic idx, 3)) (kk : Go l X k (pc + 3) L (.int 1 :: st) h r) : Go l X k pc L st h r := Go.of (fun p e R s m args below meth c H locs cells slots ls Q g F hSS hR hl9 w => by
  obtain ⟨hx, hb, hml, hr, hlk, hts, hown, hnam, hfr9, hlc, hK, hSx, hB⟩ := F
  exact va_gets hx hb hSx.1.2.2.2.1 hSS hown (hts _ hl) (fun _ q => q) hd w) kk
theorem g_tCH {i : Int32} (hi : ib i 11 = true) (hd : decode k.2.1 pc = .ok (.iaload, 1)) (kk : Go l X k (pc + 1) L (.int (tCH.getD i.toNatClampNeg 0) :: st) h r) : Go l X k pc L (.int i :: .ref (xA X 0) :: st) h r := Go.of (fun p e R s m args below meth c H locs cells slots ls Q g F hSS hR hl9 w => va_ti F.1 F.2.1 F.2.2.2.2.2.2.2.2.2.2.2.1.1.1.2 hSS (ib_in hi) rfl hd w) kk
theorem g_tBB {i : Int32} (hi : ib i 16 = true) (hd : decode k.2.1 pc = .ok (.iaload, 1)) (kk : Go l X k (pc + 1) L (.int (tBB.getD i.toNatClampNeg 0) :: st) h r) : Go l X k pc L (.int i :: .ref (xA X 1) :: st) h r := Go.of (fun p e R s m args below meth c H locs cells slots ls Q g F hSS hR hl9 w => va_ti F.1 F.2.1 F.2.2.2.2.2.2.2.2.2.2.2.1.1.2.1.2 hSS (ib_in hi) rfl hd w) kk
theorem g_tMN {i : Int32} (hi : ib i 61 = true) (hd : decode k.2.1 pc = .ok (.aaload, 1)) (kk : Go l X k (pc + 1) L (.ref (xA X (100 + i.toNatClampNeg)) :: st) h r) : Go l X k pc L (.int i :: .ref (xA X 2) :: st) h r := Go.of (fun p e R s m args below meth c H locs cells slots ls Q g F hSS hR hl9 w => vb_tq F.1 F.2.1 F.2.2.2.2.2.2.2.2.2.2.2.1.1.2.2.1.2 hSS (ib_in hi) rfl hd w) kk
theorem g_lMN (hd : decode k.2.1 pc = .ok (.arraylength, 1)) (kk : Go l X k (pc + 1) L (.int 61 :: st) h r) : Go l X k pc L (.ref (xA X 2) :: st) h r := Go.of (fun p e R s m args below meth c H locs cells slots ls Q g F hSS hR hl9 w => va_tlen F.1 F.2.1 F.2.2.2.2.2.2.2.2.2.2.2.1.1.2.2.1.2 hSS rfl hd w) kk
theorem g_mKey {idx j : Nat} (hl : Cond.fieldLink k.1.cls idx "CoreHouse$Mnemonic" "key" "J" ∈ gw) (hj : decide (j < 61) = true) (hd : decode k.2.1 pc = .ok (.getfield idx, 3)) (kk : Go l X k (pc + 3) L (.long (mKey.getD j 0) :: st) h r) : Go l X k pc L (.ref (xA X (100 + j)) :: st) h r := Go.of (fun p e R s m args below meth c H locs cells slots ls Q g F hSS hR hl9 w => by
  obtain ⟨hx, hb, hml, hr, hlk, hts, hown, hnam, hfr9, hlc, hK, hSx, hB⟩ := F
  exact vk_getf hx hb (hSx.2.1 j (of_decide_eq_true hj)).1 hSS hown (hts _ hl) (fun _ q => q) hd w) kk
theorem g_mForm {idx j : Nat} (hl : Cond.fieldLink k.1.cls idx "CoreHouse$Mnemonic" "form" "I" ∈ gw) (hj : decide (j < 61) = true) (hd : decode k.2.1 pc = .ok (.getfield idx, 3)) (kk : Go l X k (pc + 3) L (.int (mForm.getD j 0) :: st) h r) : Go l X k pc L (.ref (xA X (100 + j)) :: st) h r := Go.of (fun p e R s m args below meth c H locs cells slots ls Q g F hSS hR hl9 w => by
  obtain ⟨hx, hb, hml, hr, hlk, hts, hown, hnam, hfr9, hlc, hK, hSx, hB⟩ := F
  exact vk_getf hx hb (hSx.2.1 j (of_decide_eq_true hj)).2.1 hSS hown (hts _ hl) (fun _ q => q) hd w) kk
theorem g_mBase {idx j : Nat} (hl : Cond.fieldLink k.1.cls idx "CoreHouse$Mnemonic" "base" "I" ∈ gw) (hj : decide (j < 61) = true) (hd : decode k.2.1 pc = .ok (.getfield idx, 3)) (kk : Go l X k (pc + 3) L (.int (mBase.getD j 0) :: st) h r) : Go l X k pc L (.ref (xA X (100 + j)) :: st) h r := Go.of (fun p e R s m args below meth c H locs cells slots ls Q g F hSS hR hl9 w => by
  obtain ⟨hx, hb, hml, hr, hlk, hts, hown, hnam, hfr9, hlc, hK, hSx, hB⟩ := F
  exact vk_getf hx hb (hSx.2.1 j (of_decide_eq_true hj)).2.2.1 hSS hown (hts _ hl) (fun _ q => q) hd w) kk
theorem g_mOps {idx j : Nat} (hl : Cond.fieldLink k.1.cls idx "CoreHouse$Mnemonic" "operands" "Ljava/lang/String;" ∈ gw) (hj : decide (j < 61) = true) (hd : decode k.2.1 pc = .ok (.getfield idx, 3)) (kk : Go l X k (pc + 3) L (.ref (xA X (1000 + mOps.getD j 0)) :: st) h r) : Go l X k pc L (.ref (xA X (100 + j)) :: st) h r := Go.of (fun p e R s m args below meth c H locs cells slots ls Q g F hSS hR hl9 w => by
  obtain ⟨hx, hb, hml, hr, hlk, hts, hown, hnam, hfr9, hlc, hK, hSx, hB⟩ := F
  exact vk_getf hx hb (hSx.2.1 j (of_decide_eq_true hj)).2.2.2 hSS hown (hts _ hl) (fun _ q => q) hd w) kk
theorem sok_at {X : Cx} {s : State} (hSx : Sx X s s.heap) {i : Nat} (hi : sok i = true) : SxS X i s s.heap := by
  unfold sok at hi
  simp only [Bool.and_eq_true, decide_eq_true_eq] at hi
  exact hSx.2.2.1 i hi.1 hi.2
theorem g_sVal {idx i : Nat} (hl : Cond.fieldLink k.1.cls idx "java/lang/String" "value" "[B" ∈ gw) (hi : sok i = true) (hd : decode k.2.1 pc = .ok (.getfield idx, 3)) (kk : Go l X k (pc + 3) L (.ref (xA X (2000 + i)) :: st) h r) : Go l X k pc L (.ref (xA X (1000 + i)) :: st) h r := Go.of (fun p e R s m args below meth c H locs cells slots ls Q g F hSS hR hl9 w => by
  obtain ⟨hx, hb, hml, hr, hlk, hts, hown, hnam, hfr9, hlc, hK, hSx, hB⟩ := F
  exact vk_getf hx hb (sok_at hSx hi).2.2.1 hSS hown (hts _ hl) (fun _ q => q) hd w) kk
theorem g_sCod {idx i : Nat} (hl : Cond.fieldLink k.1.cls idx "java/lang/String" "coder" "B" ∈ gw) (hi : sok i = true) (hd : decode k.2.1 pc = .ok (.getfield idx, 3)) (kk : Go l X k (pc + 3) L (.int 0 :: st) h r) : Go l X k pc L (.ref (xA X (1000 + i)) :: st) h r := Go.of (fun p e R s m args below meth c H locs cells slots ls Q g F hSS hR hl9 w => by
  obtain ⟨hx, hb, hml, hr, hlk, hts, hown, hnam, hfr9, hlc, hK, hSx, hB⟩ := F
  exact vk_getf hx hb (sok_at hSx hi).2.1 hSS hown (hts _ hl) (fun _ q => q) hd w) kk
theorem g_vLen {i : Nat} (hi : sok i = true) (hd : decode k.2.1 pc = .ok (.arraylength, 1)) (kk : Go l X k (pc + 1) L (.int (nI (sLen.getD (i - 1) 0)) :: st) h r) : Go l X k pc L (.ref (xA X (2000 + i)) :: st) h r := Go.of (fun p e R s m args below meth c H locs cells slots ls Q g F hSS hR hl9 w => va_tlen F.1 F.2.1 (sok_at F.2.2.2.2.2.2.2.2.2.2.2.1 hi).2.2.2 hSS rfl hd w) kk
theorem g_vAld {i : Nat} {j : Int32} (hi : sok i = true) (hj : ib j (sLen.getD (i - 1) 0) = true) (hd : decode k.2.1 pc = .ok (.baload, 1)) (kk : Go l X k (pc + 1) L (.int ((sByt.getD (i - 1) []).getD j.toNatClampNeg 0) :: st) h r) : Go l X k pc L (.int j :: .ref (xA X (2000 + i)) :: st) h r := Go.of (fun p e R s m args below meth c H locs cells slots ls Q g F hSS hR hl9 w => va_tb F.1 F.2.1 (sok_at F.2.2.2.2.2.2.2.2.2.2.2.1 hi).2.2.2 hSS (ib_in hj) rfl hd w) kk
theorem g_ldcS {idx : Nat} {tx : String} (j : Nat) (hk : k.1.cls = "CoreHouseModel") (hj : ldcN[j]? = some (idx, tx)) (hd : decode k.2.1 pc = .ok (.ldc idx, 2)) (kk : Go l X k (pc + 2) L (.ref (xA X (1000 + (j + 1))) :: st) h r) : Go l X k pc L st h r := Go.of (fun p e R s m args below meth c H locs cells slots ls Q g F hSS hR hl9 w => by
  obtain ⟨hx, hb, hml, hr, hlk, hts, hown, hnam, hfr9, hlc, hK, hSx, hB⟩ := F
  intro T hT Y
  obtain ⟨t, a1, b1⟩ := w T hT Y
  have hv := hSx.2.2.2.2.1 j _ hj
  have e : 1000 + (j + 1) = 1001 + j := by omega
  rw [e] at a1
  rw [hk] at hown
  exact ⟨t, Y.ldcString hx hown hv.1 hv.2 (g := F0 m pc ls st) rfl (by rw [hb]; exact hd) t a1, b1⟩) kk
theorem g_ldcSW {idx : Nat} {tx : String} (j : Nat) (hk : k.1.cls = "CoreHouseModel") (hj : ldcN[j]? = some (idx, tx)) (hd : decode k.2.1 pc = .ok (.ldc_w idx, 3)) (kk : Go l X k (pc + 3) L (.ref (xA X (1000 + (j + 1))) :: st) h r) : Go l X k pc L st h r := Go.of (fun p e R s m args below meth c H locs cells slots ls Q g F hSS hR hl9 w => by
  obtain ⟨hx, hb, hml, hr, hlk, hts, hown, hnam, hfr9, hlc, hK, hSx, hB⟩ := F
  intro T hT Y
  obtain ⟨t, a1, b1⟩ := w T hT Y
  have hv := hSx.2.2.2.2.1 j _ hj
  have e : 1000 + (j + 1) = 1001 + j := by omega
  rw [e] at a1
  rw [hk] at hown
  exact ⟨t, Y.ldcStringW hx hown hv.1 hv.2 (g := F0 m pc ls st) rfl (by rw [hb]; exact hd) t a1, b1⟩) kk
-- rows of references
theorem g_aldq {o : Nat} {i : Int32} (hs : hS h o = 25) (hi : ib i (hN h o) = true) (hd : decode k.2.1 pc = .ok (.aaload, 1)) (kk : Go l X k (pc + 1) L (rf X (hR h o i.toNatClampNeg) :: st) h r) : Go l X k pc L (.int i :: rf X o :: st) h r := Go.of (fun p e R s m args below meth c H locs cells slots ls Q g F hS' hR hl w => by
  obtain ⟨hx, hb, hml, hr, hlo, hts, hown, hnam, hfr, hlc, hK, hSx, hB⟩ := F
  rw [hR.rfe hs (by omega)]
  rw [← ro_rf] at w
  exact va_aldq hx hb hK (hR.arr hs (by omega)) 0 4 rfl rfl (ib_in hi) hd w) kk
theorem g_aldS {o : Nat} {i : Int32} (hs : hS h o = 26) (hi : ib i (hN h o) = true) (hn : sok (hR h o i.toNatClampNeg) = true) (hd : decode k.2.1 pc = .ok (.aaload, 1)) (kk : Go l X k (pc + 1) L (.ref (xA X (1000 + hR h o i.toNatClampNeg)) :: st) h r) : Go l X k pc L (.int i :: rf X o :: st) h r := Go.of (fun p e R s m args below meth c H locs cells slots ls Q g F hS' hR' hl w => by
  obtain ⟨hx, hb, hml, hr, hlo, hts, hown, hnam, hfr, hlc, hK, hSx, hB⟩ := F
  rw [hR'.rfe hs (by omega)]
  have e : va_rf (rs X (hR h o i.toNatClampNeg)) = .ref (xA X (1000 + hR h o i.toNatClampNeg)) := by
    unfold sok at hn
    simp only [Bool.and_eq_true, decide_eq_true_eq] at hn
    unfold rs
    rw [if_neg (by omega)]
    rfl
  rw [← e] at w
  exact va_aldq hx hb hK (hR'.arr hs (by omega)) 0 5 rfl rfl (ib_in hi) hd w) kk
theorem g_newQ {idx : Nat} {n : Int32} {h' : AH} (hl : Cond.classLink k.1.cls idx "CoreHouse$Core" ∈ gw) (hd : decode k.2.1 pc = .ok (.anewarray idx, 3)) (hn : (decide (¬ n < 0) && decide (n.toNatClampNeg ≤ 10000000)) = true) (e : h' = hNew h 25 n.toNatClampNeg n.toNatClampNeg) (kk : Go l X k (pc + 3) L (rf X (hZ h + 1) :: st) h' r) : Go l X k pc L (.int n :: st) h r := by
  subst e
  have h0 := kk.1
  rw [hZ_new, hV_new] at h0
  obtain ⟨hn1, hn2⟩ := Bool.and_eq_true_iff.mp hn
  have hn1 := of_decide_eq_true hn1
  have hn2 := of_decide_eq_true hn2
  refine ⟨⟨by omega, by omega⟩, fun g p e R s m args below meth c F H locs cells slots ls hSS hR9 hc hs hl9 => ?_⟩
  obtain ⟨hx, hb, hml, hr, hlo, hts, hown, hnam, hfr, hlc, hK, hSx, hB⟩ := id F
  refine W.anew hx hb hown (hts _ hl) (va_AO.use hSx.2.2.2.1.2.2.1) rfl hd rfl hn1 (by omega) (by omega) (by omega) fun cA kA comp f1 f2 f3 f4 => ?_
  obtain ⟨kA9, comp9, g1, g2, g3, g4⟩ := (hK.2 4 _ rfl).2
  have hcA : cA = xC X 25 := Option.some.inj (f1.symm.trans g4)
  subst hcA
  generalize hH1 : H.push ({ cls := xC X 25, slots := Array.replicate n.toNatClampNeg .null, vm := .none } : Cell) = H1
  have z1 : H1.size = H.size + 1 := by rw [← hH1, Array.size_push]
  have e1 : H1[H.size]? = some (arrV (xC X 25) n.toNatClampNeg (fun _ => .null)) := by rw [← hH1, Array.getElem?_push_size, ← arrV_new]
  have o1 : ∀ q : Nat, q < H.size → H1[q]? = H[q]? := fun q hq => by rw [← hH1, Array.getElem?_push, if_neg (Nat.ne_of_lt hq)]
  have hz := hR9.1
  rw [rf_new h (hZ h) X H hz]
  refine kk.2 g p e R s m args below meth c F H1 locs (cells + 1) (slots + n.toNatClampNeg) ls (hSS.newc z1 o1) (hR9.new z1 o1 (fun a ha => hS_new _ _ _ _ a ha) rfl (fun a ha => cellE_new a ha) (fun _ => ?_)) (by rw [hZ_new]; omega) (by rw [hV_new]; omega) hl9
  rw [cellE_arr (hS_new' h 25 _ _) (by omega), ← hz]
  show H1[H.size]? = some (arrV (xC X 25) (hN (hNew h 25 n.toNatClampNeg n.toNatClampNeg) (hZ h + 1)) (fun q => va_rf (ro X (hR (hNew h 25 n.toNatClampNeg n.toNatClampNeg) (hZ h + 1) q))))
  rw [hN_new', e1]
  congr 2
  funext q
  rw [hR_new']
  rfl
theorem g_newQS {idx : Nat} {n : Int32} {h' : AH} (hl : Cond.classLink k.1.cls idx "java/lang/String" ∈ gw) (hd : decode k.2.1 pc = .ok (.anewarray idx, 3)) (hn : (decide (¬ n < 0) && decide (n.toNatClampNeg ≤ 10000000)) = true) (e : h' = hNew h 26 n.toNatClampNeg n.toNatClampNeg) (kk : Go l X k (pc + 3) L (rf X (hZ h + 1) :: st) h' r) : Go l X k pc L (.int n :: st) h r := by
  subst e
  have h0 := kk.1
  rw [hZ_new, hV_new] at h0
  obtain ⟨hn1, hn2⟩ := Bool.and_eq_true_iff.mp hn
  have hn1 := of_decide_eq_true hn1
  have hn2 := of_decide_eq_true hn2
  refine ⟨⟨by omega, by omega⟩, fun g p e R s m args below meth c F H locs cells slots ls hSS hR9 hc hs hl9 => ?_⟩
  obtain ⟨hx, hb, hml, hr, hlo, hts, hown, hnam, hfr, hlc, hK, hSx, hB⟩ := id F
  refine W.anew hx hb hown (hts _ hl) (va_AO.use hSx.2.2.2.1.2.2.2.1) rfl hd rfl hn1 (by omega) (by omega) (by omega) fun cA kA comp f1 f2 f3 f4 => ?_
  obtain ⟨kA9, comp9, g1, g2, g3, g4⟩ := (hK.2 5 _ rfl).2
  have hcA : cA = xC X 26 := Option.some.inj (f1.symm.trans g4)
  subst hcA
  generalize hH1 : H.push ({ cls := xC X 26, slots := Array.replicate n.toNatClampNeg .null, vm := .none } : Cell) = H1
  have z1 : H1.size = H.size + 1 := by rw [← hH1, Array.size_push]
  have e1 : H1[H.size]? = some (arrV (xC X 26) n.toNatClampNeg (fun _ => .null)) := by rw [← hH1, Array.getElem?_push_size, ← arrV_new]
  have o1 : ∀ q : Nat, q < H.size → H1[q]? = H[q]? := fun q hq => by rw [← hH1, Array.getElem?_push, if_neg (Nat.ne_of_lt hq)]
  have hz := hR9.1
  rw [rf_new h (hZ h) X H hz]
  refine kk.2 g p e R s m args below meth c F H1 locs (cells + 1) (slots + n.toNatClampNeg) ls (hSS.newc z1 o1) (hR9.new z1 o1 (fun a ha => hS_new _ _ _ _ a ha) rfl (fun a ha => cellE_new a ha) (fun _ => ?_)) (by rw [hZ_new]; omega) (by rw [hV_new]; omega) hl9
  rw [cellE_arr (hS_new' h 26 _ _) (by omega), ← hz]
  show H1[H.size]? = some (arrV (xC X 26) (hN (hNew h 26 n.toNatClampNeg n.toNatClampNeg) (hZ h + 1)) (fun q => va_rf (rs X (hR (hNew h 26 n.toNatClampNeg n.toNatClampNeg) (hZ h + 1) q))))
  rw [hN_new', e1]
  congr 2
  funext q
  rw [hR_new']
  rfl
/-- a core into the row of cores -/
theorem g_astq {o x : Nat} {i : Int32} {h' : AH} (ci : Nat) (hci : (vwCl[ci]?).map (fun q => q.1) = some "CoreHouse$Core") (h20 : ci < 20) (hs : hS h o = 25) (hi : ib i (hN h o) = true) (hx9 : hS h x = ci + 1) (hd : decode k.2.1 pc = .ok (.aastore, 1)) (e : h' = sR h o i.toNatClampNeg x) (kk : Go l X k (pc + 1) L st h' r) : Go l X k pc L (rf X x :: .int i :: rf X o :: st) h r := ⟨by subst e; exact kk.1, fun g p e9 R s m args below meth c F H locs cells slots ls hSS hR9 hc9 hs9 hl => by
  subst e
  obtain ⟨hx, hb, hml, hr, hlo, hts, hown, hnam, hfr, hlc, hK, hSx, hB⟩ := id F
  rw [hR9.rfe hs (by omega), hR9.rfe hx9 (by omega)]
  have hP := hR9.arr hs (by omega) 0 _ rfl
  have hP : H[xB X + (o - 1)]? = some (arrV (xC X 25) (hN h o) (fun j => va_rf (ro X (hR h o j)))) := hP
  have hV := hR9.at hx9 (by omega)
  rw [cellE_obj hx9 h20] at hV
  obtain ⟨r', hr', cellV, g1, g2, g3, -⟩ := hV 0 _ rfl
  cases hq : vwCl[ci]? with
  | none => rw [hq] at hci; cases hci
  | some q9 =>
    rw [hq] at hci
    have hC : q9.1 = "CoreHouse$Core" := Option.some.inj hci
    have hcls := (hK.1 ci q9 hq).2
    obtain ⟨kA, comp, k1, k2, k3, -⟩ := (hK.2 4 _ rfl).2
    rw [hC] at hcls
    have hcomp : comp = (xD X).1 ci := Option.some.inj (k3.symm.trans hcls.1)
    subst hcomp
    obtain ⟨kC, hkC, -⟩ := hcls.2
    have hin := ib_in hi
    have hlt : i.toNatClampNeg < hN h o := Nat.not_le.mp fun q => hin (Or.inr q)
    have h0 : ¬ i < 0 := fun q => hin (Or.inl q)
    refine W.aast hx hb hP (fun q h => by cases h) (fun h => by cases h) k1 k2 rfl hkC ⟨h0, by rw [arrV_size]; exact hlt⟩ g1 (fun q h => by rw [g3] at h; cases h) (by rw [g2]; exact hkC) (by rw [g2]; exact va_assign hcls) rfl rfl hd fun H1 e z oq => ?_
    refine kk.2 g p e9 R s m args below meth c F H1 _ cells slots ls (hSS.put z oq (Nat.le_add_right _ _)) (hR9.put (by omega) z oq (fun _ => rfl) rfl (fun a ha => cellE_sR a ha) ?_) hc9 hs9 hl
    rw [cellE_arr (s := 25) (show hS (sR h o i.toNatClampNeg x) o = 25 from hs) (by omega)]
    show H1[xB X + (o - 1)]? = some (arrV (xC X 25) (hN h o) (fun q => va_rf (ro X (hR (sR h o i.toNatClampNeg x) o q))))
    rw [e, arrV_store]
    congr 2
    funext q
    by_cases hq : q = i.toNatClampNeg
    · subst hq
      simp only [updV, hR_sR_eq, if_true, ro_rf]
      exact (hR9.rfe hx9 (by omega)).symm
    · simp only [updV, hq, if_false, hR_sR_ne hq]⟩
/-- a text into the row of texts -/
theorem g_astS {o x : Nat} {i : Int32} {h' : AH} (hs : hS h o = 26) (hi : ib i (hN h o) = true) (hx9 : sok x = true) (hd : decode k.2.1 pc = .ok (.aastore, 1)) (e : h' = sR h o i.toNatClampNeg x) (kk : Go l X k (pc + 1) L st h' r) : Go l X k pc L (.ref (xA X (1000 + x)) :: .int i :: rf X o :: st) h r := ⟨by subst e; exact kk.1, fun g p e9 R s m args below meth c F H locs cells slots ls hSS hR9 hc9 hs9 hl => by
  subst e
  obtain ⟨hx, hb, hml, hr, hlo, hts, hown, hnam, hfr, hlc, hK, hSx, hB⟩ := id F
  rw [hR9.rfe hs (by omega)]
  have hP := hR9.arr hs (by omega) 0 _ rfl
  have hP : H[xB X + (o - 1)]? = some (arrV (xC X 26) (hN h o) (fun j => va_rf (rs X (hR h o j)))) := hP
  obtain ⟨cellV, g1, g3, g2, gA⟩ := ((sok_at hSx hx9).1).kept hSS.2.1
  obtain ⟨kA, comp, k1, k2, k3, -⟩ := (hK.2 5 _ rfl).2
  have hcomp : comp = cellV.cls := Option.some.inj (k3.symm.trans g2)
  subst hcomp
  obtain ⟨kC, hkC, -⟩ := Vm.findClass_spec g2
  have hka : s.vm.assignable cellV.cls cellV.cls = true := by show Vm.assignableAux s.vm (255 + 1) cellV.cls cellV.cls = true; rw [Vm.assignableAux, beq_self_eq_true, Bool.true_or]
  have hin := ib_in hi
  have hlt : i.toNatClampNeg < hN h o := Nat.not_le.mp fun q => hin (Or.inr q)
  have h0 : ¬ i < 0 := fun q => hin (Or.inl q)
  refine W.aast hx hb hP (fun q h => by cases h) (fun h => by cases h) k1 k2 rfl hkC ⟨h0, by rw [arrV_size]; exact hlt⟩ g1 (fun q h => by rw [h] at g3; cases g3) hkC hka rfl rfl hd fun H1 e z oq => ?_
  refine kk.2 g p e9 R s m args below meth c F H1 _ cells slots ls (hSS.put z oq (Nat.le_add_right _ _)) (hR9.put (by omega) z oq (fun _ => rfl) rfl (fun a ha => cellE_sR a ha) ?_) hc9 hs9 hl
  rw [cellE_arr (s := 26) (show hS (sR h o i.toNatClampNeg x) o = 26 from hs) (by omega)]
  show H1[xB X + (o - 1)]? = some (arrV (xC X 26) (hN h o) (fun q => va_rf (rs X (hR (sR h o i.toNatClampNeg x) o q))))
  rw [e, arrV_store]
  congr 2
  funext q
  by_cases hq : q = i.toNatClampNeg
  · subst hq
    unfold sok at hx9
    simp only [Bool.and_eq_true, decide_eq_true_eq] at hx9
    simp only [updV, hR_sR_eq, if_true]
    unfold rs
    rw [if_neg (by omega)]
    rfl
  · simp only [updV, hq, if_false, hR_sR_ne hq]⟩
end CON
