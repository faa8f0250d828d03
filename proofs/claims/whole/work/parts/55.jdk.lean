/-! System.arraycopy of ints, Math.min, Math.max, lcmp. -/
theorem hI_sA (h : AH) (o : Nat) (f : Nat → Int32) (a : Nat) : hI (sA h o f) a = if a = o then f else hI h a := by
  show up1 h.1 o f a = _
  unfold up1
  rfl
theorem cellE_sA {X : Cx} {h : AH} {o : Nat} {f : Nat → Int32} (a : Nat) (ha : a ≠ o) : cellE X (sA h o f) a = cellE X h a := by
  have e2 : hI (sA h o f) a = hI h a := by rw [hI_sA, if_neg ha]
  unfold cellE flds rowE fv
  rw [e2]
  rfl
def acy (own : String) (idx : Nat) : Prop := Cond.methodLink own idx arraycopyName ∈ gw ∧ Cond.native arraycopyName ∈ gw ∧ Cond.static arraycopyName ∈ gw ∧ Cond.initialized "java/lang/System" ∈ gw
def mmx (own : String) (idx : Nat) : Prop := Cond.methodLink own idx Lib.Math.max.name ∈ gw ∧ Cond.static Lib.Math.max.name ∈ gw ∧ Cond.initialized "java/lang/Math" ∈ gw ∧ Cond.code Lib.Math.max.name Lib.Math.max.code 2 (some .int) ∈ gw
def mmn (own : String) (idx : Nat) : Prop := Cond.methodLink own idx Lib.Math.min.name ∈ gw ∧ Cond.static Lib.Math.min.name ∈ gw ∧ Cond.initialized "java/lang/Math" ∈ gw ∧ Cond.code Lib.Math.min.name Lib.Math.min.code 2 (some .int) ∈ gw
section JDK
variable {l : Launch} {X : Cx} {k : Mt} {pc : Nat} {L : List (Nat × Value)} {st : List Value} {h : AH} {r : Rs}
theorem g_copy {idx o0 o1 : Nat} {sp dp n : Int32} {h' : AH} (ha : acy k.1.cls idx) (hs0 : hS h o0 = 21) (hs1 : hS h o1 = 21) (hok : cpok sp dp n (hN h o0) (hN h o1) = true) (hfr : 1 ≤ k.2.2.2.2.1) (hlo : 8 + (nativeFrameWords "java/lang/System" "arraycopy" 5 + 11) ≤ k.2.2.2.2.2) (hst : (st.map fun v => v.category).sum ≤ 8) (hd : decode k.2.1 pc = .ok (.invokestatic idx, 3))
    (e : h' = sA h o1 (va_cpy (hI h o0) (hI h o1) sp.toNatClampNeg dp.toNatClampNeg n.toNatClampNeg)) (kk : Go l X k (pc + 3) L st h' r) : Go l X k pc L (.int n :: .int dp :: rf X o1 :: .int sp :: rf X o0 :: st) h r := ⟨by subst e; exact kk.1, fun g p e9 R s m args below meth c F H locs cells slots ls hSS hR hc9 hs9 hl => by
  subst e
  obtain ⟨hx, hb, hml, hr, hlk, hts, hown, hnam, hfr9, hlc, hK, hSx, hB⟩ := id F
  obtain ⟨hlink, hnat, hstat, hini⟩ := ha
  rw [hR.rfe hs0 (by omega), hR.rfe hs1 (by omega)]
  unfold cpok at hok
  simp only [Bool.and_eq_true, decide_eq_true_eq] at hok
  obtain ⟨⟨⟨⟨h1, h2⟩, h3⟩, h4⟩, h5⟩ := hok
  have nn : ∀ z : Int32, ¬ z < 0 → z.toInt = (z.toNatClampNeg : Int) := by
    intro z hz
    have hz0 : (0 : Int) ≤ z.toInt := by
      have := Int32.not_lt.mp hz
      simpa using Int32.le_iff_toInt_le.mp this
    show z.toInt = ((z.toInt.toNat : Nat) : Int)
    omega
  intro T hT Y
  have hc0 : H[xB X + (o0 - 1)]? = some (vp_cell (xC X 21) (hN h o0, .inl (hI h o0))) := hR.arr hs0 (by omega) 0 _ rfl
  have hc1 : H[xB X + (o1 - 1)]? = some (vp_cell (xC X 21) (hN h o1, .inl (hI h o1))) := hR.arr hs1 (by omega) 0 _ rfl
  obtain ⟨-, k0, hk0, cm0, hkk0⟩ := (hK.2 0 _ rfl).1 (hN h o0) (fun j => .int (hI h o0 j))
  obtain ⟨-, k1, hk1, cm1, hkk1⟩ := (hK.2 0 _ rfl).1 (hN h o1) (fun j => .int (hI h o1 j))
  obtain ⟨vm', X', step⟩ := Y.arraycopy hx hown (hts _ hlink) (hts _ hnat) (hts _ hstat) (hts _ hini) (src := xB X + (o0 - 1)) (dst := xB X + (o1 - 1)) (cs := vp_cell (xC X 21) (hN h o0, .inl (hI h o0))) (cd := vp_cell (xC X 21) (hN h o1, .inl (hI h o1))) (srcPos := sp) (destPos := dp) (n := n) (by rw [hT]; exact hc0) (by rw [hT]; exact hc1)
    (fun _ h => by cases h) (fun _ h => by cases h) (fun h => by cases h) (fun h => by cases h) hk0 hk1 hkk0 hkk1 (by simp [refKind]) h1 h2 h3
    (by rw [nn sp h1, nn n h3]; show ¬ _ > ((arrV (xC X 21) (hN h o0) (fun j => .int (hI h o0 j))).slots.size : Int); rw [arrV_size]; omega)
    (by rw [nn dp h2, nn n h3]; show ¬ _ > ((arrV (xC X 21) (hN h o1) (fun j => .int (hI h o1 j))).slots.size : Int); rw [arrV_size]; omega)
    (fun vm₁ _ i hi => by
      have e : (vp_cell (xC X 21) (hN h o0, .inl (hI h o0))).slots.getD (sp.toNatClampNeg + i) .null = .int (hI h o0 (sp.toNatClampNeg + i)) := by
        show (arrV (xC X 21) (hN h o0) (fun j => .int (hI h o0 j))).slots.getD _ _ = _
        rw [Array.getD_eq_getD_getElem?, arrV_read _ _ (by omega)]
        rfl
      refine ⟨?_, ?_⟩
      · rw [e]
        rfl
      · rw [e]
        exact trivial)
    (g := F0 m pc ls (.int n :: .int dp :: .ref (xB X + (o1 - 1)) :: .int sp :: .ref (xB X + (o0 - 1)) :: st)) rfl (by show ls.size = c.maxLocals; rw [hml]; exact hl.1) (rest := st) rfl (by rw [hb]; exact hd) (by omega) (by show 2 * 0 + _ + _ ≤ _; omega)
  have e1 : copied (vp_cell (xC X 21) (hN h o0, .inl (hI h o0))) (vp_cell (xC X 21) (hN h o1, .inl (hI h o1))) sp dp n = vp_cell (xC X 21) (hN h o1, .inl (va_cpy (hI h o0) (hI h o1) sp.toNatClampNeg dp.toNatClampNeg n.toNatClampNeg)) := va_copied (fun z => .int z) _ _ _ _ h4
  rw [e1] at X' step
  have hl9 : xB X + (o1 - 1) < H.size := (Array.getElem?_eq_some_iff.mp hc1).1
  generalize hcell : vp_cell (xC X 21) (hN h o1, .inl (va_cpy (hI h o0) (hI h o1) sp.toNatClampNeg dp.toNatClampNeg n.toNatClampNeg)) = cell at X' step
  have hheap : ((T.setVm vm').setCell (xB X + (o1 - 1)) cell).heap = H.setIfInBounds (xB X + (o1 - 1)) cell := by rw [← hT]; rfl
  have oq : ∀ q : Nat, q ≠ xB X + (o1 - 1) → (H.setIfInBounds (xB X + (o1 - 1)) cell)[q]? = H[q]? := fun q hq => by simp [Array.getElem?_setIfInBounds, Ne.symm hq]
  have hA1 : xAr X (xB X + (o1 - 1)) := Nat.le_add_right _ _
  obtain ⟨t, a1, b1⟩ := kk.2 g p e9 R s m args below meth c F (H.setIfInBounds (xB X + (o1 - 1)) cell) _ cells slots ls ⟨by simp; exact hSS.1, fun q g1 g2 => by
      rw [oq q (fun e => g2 (by rw [e]; exact hA1))]
      exact hSS.2.1 q g1 g2, fun q hq => by
      rcases List.mem_append.mp hq with h | h
      · exact hSS.2.2 q h
      · obtain ⟨z, -, hz⟩ := List.mem_map.mp h
        rw [← hz]
        exact hA1⟩ (hR.put (by omega) (by simp) oq (fun _ => rfl) rfl (fun a ha => cellE_sA a ha) (by
      rw [cellE_arr (s := 21) (show hS (sA h o1 _) o1 = 21 from hs1) (by omega)]
      show (H.setIfInBounds (xB X + (o1 - 1)) cell)[xB X + (o1 - 1)]? = some (vp_cell (xC X 21) (hN h o1, .inl (hI (sA h o1 _) o1)))
      rw [hI_sA, if_pos rfl, hcell]
      simp [Array.getElem?_setIfInBounds, hl9])) hc9 hs9 hl _ hheap X'
  exact ⟨t, step t a1, b1⟩⟩
theorem g_max {idx : Nat} {x y : Int32} (ha : mmx k.1.cls idx) (hfr : 1 ≤ k.2.2.2.2.1) (hlo : 21 ≤ k.2.2.2.2.2) (hst : (st.map fun v => v.category).sum ≤ 8) (hd : decode k.2.1 pc = .ok (.invokestatic idx, 3)) (kk : Go l X k (pc + 3) L (.int (if x < y then y else x) :: st) h r) : Go l X k pc L (.int y :: .int x :: st) h r := ⟨kk.1, fun g p e9 R s m args below meth c F H locs cells slots ls hSS hR hc9 hs9 hl => by
  obtain ⟨hx, hb, hml, hr, hlk, hts, hown, hnam, hfr9, hlc, hK, hSx, hB⟩ := id F
  have h0 := kk.1
  exact va_mmax hx hb (by rw [hml]; exact hl.1.symm) hown (hts _ ha.1) (hts _ ha.2.1) (hts _ ha.2.2.1) (hts _ ha.2.2.2) (by omega) (by omega) (by omega) (by omega) hd (kk.2 g p e9 R s m args below meth c F H locs cells slots ls hSS hR hc9 hs9 hl)⟩
theorem g_min {idx : Nat} {x y : Int32} (ha : mmn k.1.cls idx) (hfr : 1 ≤ k.2.2.2.2.1) (hlo : 21 ≤ k.2.2.2.2.2) (hst : (st.map fun v => v.category).sum ≤ 8) (hd : decode k.2.1 pc = .ok (.invokestatic idx, 3)) (kk : Go l X k (pc + 3) L (.int (if y < x then y else x) :: st) h r) : Go l X k pc L (.int y :: .int x :: st) h r := ⟨kk.1, fun g p e9 R s m args below meth c F H locs cells slots ls hSS hR hc9 hs9 hl => by
  obtain ⟨hx, hb, hml, hr, hlk, hts, hown, hnam, hfr9, hlc, hK, hSx, hB⟩ := id F
  have h0 := kk.1
  exact va_mmin hx hb (by rw [hml]; exact hl.1.symm) hown (hts _ ha.1) (hts _ ha.2.1) (hts _ ha.2.2.1) (hts _ ha.2.2.2) (by omega) (by omega) (by omega) (by omega) hd (kk.2 g p e9 R s m args below meth c F H locs cells slots ls hSS hR hc9 hs9 hl)⟩
/-- Object.<init> -/
theorem g_objInit {idx o : Nat} (hm : Cond.methodLink k.1.cls idx Lib.objectInit ∈ gw) (hin : Cond.instanceMethod Lib.objectInit ∈ gw) (hcode : Cond.code Lib.objectInit ⟨#[0xb1]⟩ 1 none ∈ gw) {s9 : Nat} (hs : hS h o = s9) (h0 : s9 ≠ 0) (hfr : 1 ≤ k.2.2.2.2.1) (hlo : 20 ≤ k.2.2.2.2.2) (hst : (st.map fun v => v.category).sum ≤ 8) (hd : decode k.2.1 pc = .ok (.invokespecial idx, 3)) (kk : Go l X k (pc + 3) L st h r) : Go l X k pc L (rf X o :: st) h r := ⟨kk.1, fun g p e9 R s m args below meth c F H locs cells slots ls hSS hR hc9 hs9 hl => by
  obtain ⟨hx, hb, hml, hr, hlk, hts, hown, hnam, hfr9, hlc, hK, hSx, hB⟩ := id F
  rw [hR.rfe hs h0]
  refine W.objInit hx hb hown (hts _ hm) (hts _ hin) (hts _ hcode) rfl (by rw [hml]; exact hl.1) rfl hd (by omega) (by show 2 * 0 + _ + 12 ≤ _; omega) ?_
  exact kk.2 g p e9 R s m args below meth c F H locs cells slots ls hSS hR hc9 hs9 hl⟩
end JDK
