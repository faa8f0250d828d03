/-! New cells, answers, contracts, calls. -/
theorem hS_new (h : AH) (s n w a : Nat) (ha : a ≠ hZ h + 1) : hS (hNew h s n w) a = hS h a := by show up1 h.2.2.2.1 (hZ h + 1) s a = _; unfold up1; rw [if_neg ha]; rfl
theorem hS_new' (h : AH) (s n w : Nat) : hS (hNew h s n w) (hZ h + 1) = s := by show up1 h.2.2.2.1 (hZ h + 1) s (hZ h + 1) = _; unfold up1; rw [if_pos rfl]
theorem hN_new (h : AH) (s n w a : Nat) (ha : a ≠ hZ h + 1) : hN (hNew h s n w) a = hN h a := by show up1 h.2.2.2.2.1 (hZ h + 1) n a = _; unfold up1; rw [if_neg ha]; rfl
theorem hN_new' (h : AH) (s n w : Nat) : hN (hNew h s n w) (hZ h + 1) = n := by show up1 h.2.2.2.2.1 (hZ h + 1) n (hZ h + 1) = _; unfold up1; rw [if_pos rfl]
theorem hI_new (h : AH) (s n w a b : Nat) (ha : a ≠ hZ h + 1) : hI (hNew h s n w) a b = hI h a b := by show up1 h.1 (hZ h + 1) (fun _ => 0) a b = _; unfold up1; rw [if_neg ha]; rfl
theorem hI_new' (h : AH) (s n w b : Nat) : hI (hNew h s n w) (hZ h + 1) b = 0 := by show up1 h.1 (hZ h + 1) (fun _ => 0) (hZ h + 1) b = _; unfold up1; rw [if_pos rfl]
theorem hL_new (h : AH) (s n w a b : Nat) (ha : a ≠ hZ h + 1) : hL (hNew h s n w) a b = hL h a b := by show up1 h.2.1 (hZ h + 1) (fun _ => 0) a b = _; unfold up1; rw [if_neg ha]; rfl
theorem hL_new' (h : AH) (s n w b : Nat) : hL (hNew h s n w) (hZ h + 1) b = 0 := by show up1 h.2.1 (hZ h + 1) (fun _ => 0) (hZ h + 1) b = _; unfold up1; rw [if_pos rfl]
theorem hR_new (h : AH) (s n w a b : Nat) (ha : a ≠ hZ h + 1) : hR (hNew h s n w) a b = hR h a b := by show up1 h.2.2.1 (hZ h + 1) (fun _ => 0) a b = _; unfold up1; rw [if_neg ha]; rfl
theorem hR_new' (h : AH) (s n w b : Nat) : hR (hNew h s n w) (hZ h + 1) b = 0 := by show up1 h.2.2.1 (hZ h + 1) (fun _ => 0) (hZ h + 1) b = _; unfold up1; rw [if_pos rfl]
theorem hZ_new (h : AH) (s n w : Nat) : hZ (hNew h s n w) = hZ h + 1 := rfl
theorem hV_new (h : AH) (s n w : Nat) : hV (hNew h s n w) = hV h + w := rfl
theorem cellE_new {X : Cx} {h : AH} {s n w : Nat} (a : Nat) (ha : a ≠ hZ h + 1) : cellE X (hNew h s n w) a = cellE X h a := by
  have e1 : hI (hNew h s n w) a = hI h a := funext fun b => hI_new h s n w a b ha
  have e2 : hL (hNew h s n w) a = hL h a := funext fun b => hL_new h s n w a b ha
  have e3 : hR (hNew h s n w) a = hR h a := funext fun b => hR_new h s n w a b ha
  unfold cellE flds rowE fv
  rw [e1, e2, e3, hS_new h s n w a ha, hN_new h s n w a ha]
/-- a class that may be made by an entry of a pool -/
def NL (own : String) (idx ci N : Nat) : Prop := ∃ (C : String) (T : u_T) (ty : Nat → FieldType), CL ci C T N ty ∧ Cond.classLink own idx C ∈ gw ∧ Cond.instantiable C N ∈ gw ∧ Cond.initialized C ∈ gw ∧ ∀ j, j < N → ∃ t, (fk ci)[j]? = some t ∧ defaultValue (ty j) = if t = 0 then .int 0 else if t = 1 then .long 0 else .null
def wsk (k : Mt) : List Cond := Cond.code k.1 k.2.1 k.2.2.1 k.2.2.2.1 :: gw
/-- what is said of a method that is called -/
def CK (k : Mt) (n : Nat) : Prop := Cond.code k.1 k.2.1 k.2.2.1 k.2.2.2.1 ∈ gw ∧ Cond.initialized k.1.cls ∈ gw ∧ k.1.cls ≠ "java/lang/invoke/MethodHandle" ∧ k.1.cls ≠ "java/lang/invoke/VarHandle" ∧ (parseMethodDescriptor k.1.desc).map (fun d => d.parameters.length) = some n ∧ plainName k.1.cls = true
def rmk (k : Mt) (h h1 : AH) : Room := { frames := k.2.2.2.2.1, cells := hZ h1 - hZ h, slots := hV h1 - hV h, locals := k.2.2.2.2.2 }
def Ct (l : Launch) (X : Cx) (k : Mt) (av : List Value) (h : AH) (r : Rs) : Prop := (hZ h ≤ hZ r.2 ∧ hV h ≤ hV r.2) ∧ ∀ g, match r.1 with
  | .inl v => Met l k.1 (wsk k) (rmk k h r.2) (va_Pc av (Wd X h g)) (Qr X v r.2 g) (hZ r.2 - hZ h) (hV r.2 - hV h) (xAr X)
  | .inr E => vx_Met l k.1 (wsk k) (rmk k h r.2) (va_Pc av (Wd X h g)) (fun _ _ _ _ => False) (Qx X E r.2 g) (hZ r.2 - hZ h) (hV r.2 - hV h) (xAr X)
section CALLS
variable {l : Launch} {X : Cx} {k : Mt} {pc : Nat} {L : List (Nat × Value)} {st : List Value} {h : AH} {r : Rs}
theorem va_S.newc {A : Nat → Prop} {H0 H H1 : Heap} {locs : List Loc} (h : va_S A H0 H locs) (z : H1.size = H.size + 1) (o : ∀ q, q < H.size → H1[q]? = H[q]?) : va_S A H0 H1 locs :=
  ⟨by have := h.1; omega, fun x h1 h2 => (o x (Nat.lt_of_lt_of_le h1 h.1)).trans (h.2.1 x h1 h2), h.2.2⟩
theorem rf_new (hg : AH) (n : Nat) (X : Cx) (H : Heap) (e : H.size = xB X + n) : Value.ref H.size = rf X (n + 1) := by
  unfold rf
  rw [if_neg (by omega), e]
  rfl
theorem g_new {idx ci N : Nat} {h' : AH} (hC : NL k.1.cls idx ci N) (hd : decode k.2.1 pc = .ok (.new idx, 3)) (e : h' = hNew h (ci + 1) 0 N) (kk : Go l X k (pc + 3) L (rf X (hZ h + 1) :: st) h' r) : Go l X k pc L st h r := by
  subst e
  have h0 := kk.1
  rw [hZ_new, hV_new] at h0
  refine ⟨⟨by omega, by omega⟩, fun g p e R s m args below meth c F H locs cells slots ls hSS hR hc hs hl => ?_⟩
  obtain ⟨hx, hb, hml, hr, hlo, hts, hown, hnam, hfr, hlc, hK, hSx, hB⟩ := id F
  obtain ⟨C, T, ty, ⟨hcl, h20, hin, hty, hnm, hlen⟩, hlk, hins, hini, hdef⟩ := hC
  have hKn := hK.1 ci _ hcl
  refine W.newcK hx hb hown (hts _ hlk) (hts _ hins) (hts _ hini) rfl hd (by omega) (by omega) hKn.2.1 rfl fun H1 kC hkC e1 z1 o1 => ?_
  have hz := hR.1
  rw [rf_new h (hZ h) X H hz]
  refine kk.2 g p e R s m args below meth c F H1 locs (cells + 1) (slots + N) ls (hSS.newc z1 o1) (hR.new z1 o1 (fun a ha => hS_new _ _ _ _ a ha) rfl (fun a ha => cellE_new a ha) (fun _ => ?_)) (by rw [hZ_new]; omega) (by rw [hV_new]; omega) hl
  rw [cellE_obj (hS_new' h (ci + 1) 0 N) h20, ← hz]
  refine ⟨_, hcl, (u_born ty hts hin hKn hkC e1 hty).to (fun j hj => ?_)⟩
  obtain ⟨t, ht, hdv⟩ := hdef j hj
  rw [hdv]
  unfold vp_V
  rw [List.getD_eq_getElem?_getD, flds_at ht]
  unfold fv
  rw [hI_new', hL_new', hR_new']
  rfl
theorem g_newI {n : Int32} {h' : AH} (harr : Cond.arrayClass .int ∈ gw) (hd : decode k.2.1 pc = .ok (.newarray .int, 2)) (hn : (decide (¬ n < 0) && decide (n.toNatClampNeg ≤ 10000000)) = true) (e : h' = hNew h 21 n.toNatClampNeg n.toNatClampNeg) (kk : Go l X k (pc + 2) L (rf X (hZ h + 1) :: st) h' r) : Go l X k pc L (.int n :: st) h r := by
  subst e
  have h0 := kk.1
  rw [hZ_new, hV_new] at h0
  obtain ⟨hn1, hn2⟩ := Bool.and_eq_true_iff.mp hn
  have hn1 := of_decide_eq_true hn1
  have hn2 := of_decide_eq_true hn2
  refine ⟨⟨by omega, by omega⟩, fun g p e R s m args below meth c F H locs cells slots ls hSS hR hc hs hl => ?_⟩
  obtain ⟨hx, hb, hml, hr, hlo, hts, hown, hnam, hfr, hlc, hK, hSx, hB⟩ := id F
  refine va_newaK (atype := .int) hx hb (hts _ harr) rfl hd rfl hn1 rfl (by show n.toNatClampNeg * 4 ≤ _; omega) (by omega) (by omega) rfl fun H1 cA e1 z1 o1 hAr hNm => ?_
  have hcA : cA = xC X 21 := Option.some.inj (hNm.symm.trans (hK.2 0 _ rfl).2)
  subst hcA
  have hz := hR.1
  rw [rf_new h (hZ h) X H hz]
  refine kk.2 g p e R s m args below meth c F H1 locs (cells + 1) (slots + n.toNatClampNeg) ls (hSS.newc z1 o1) (hR.new z1 o1 (fun a ha => hS_new _ _ _ _ a ha) rfl (fun a ha => cellE_new a ha) (fun _ => ?_)) (by rw [hZ_new]; omega) (by rw [hV_new]; omega) hl
  rw [cellE_arr (hS_new' h 21 _ _) (by omega), ← hz]
  show H1[H.size]? = some (vp_cell (xC X 21) (rowE X _ (hZ h + 1) 21))
  rw [row_cell _ (by omega) (by omega) (by omega), hN_new', e1]
  congr 2
  funext q
  rw [hI_new']
  rfl
theorem g_newC {n : Int32} {h' : AH} (harr : Cond.arrayClass .char ∈ gw) (hd : decode k.2.1 pc = .ok (.newarray .char, 2)) (hn : (decide (¬ n < 0) && decide (n.toNatClampNeg ≤ 10000000)) = true) (e : h' = hNew h 23 n.toNatClampNeg n.toNatClampNeg) (kk : Go l X k (pc + 2) L (rf X (hZ h + 1) :: st) h' r) : Go l X k pc L (.int n :: st) h r := by
  subst e
  have h0 := kk.1
  rw [hZ_new, hV_new] at h0
  obtain ⟨hn1, hn2⟩ := Bool.and_eq_true_iff.mp hn
  have hn1 := of_decide_eq_true hn1
  have hn2 := of_decide_eq_true hn2
  refine ⟨⟨by omega, by omega⟩, fun g p e R s m args below meth c F H locs cells slots ls hSS hR hc hs hl => ?_⟩
  obtain ⟨hx, hb, hml, hr, hlo, hts, hown, hnam, hfr, hlc, hK, hSx, hB⟩ := id F
  refine va_newaK (atype := .char) hx hb (hts _ harr) rfl hd rfl hn1 rfl (by show n.toNatClampNeg * 2 ≤ _; omega) (by omega) (by omega) rfl fun H1 cA e1 z1 o1 hAr hNm => ?_
  have hcA : cA = xC X 23 := Option.some.inj (hNm.symm.trans (hK.2 2 _ rfl).2)
  subst hcA
  have hz := hR.1
  rw [rf_new h (hZ h) X H hz]
  refine kk.2 g p e R s m args below meth c F H1 locs (cells + 1) (slots + n.toNatClampNeg) ls (hSS.newc z1 o1) (hR.new z1 o1 (fun a ha => hS_new _ _ _ _ a ha) rfl (fun a ha => cellE_new a ha) (fun _ => ?_)) (by rw [hZ_new]; omega) (by rw [hV_new]; omega) hl
  rw [cellE_arr (hS_new' h 23 _ _) (by omega), ← hz]
  show H1[H.size]? = some (vp_cell (xC X 23) (rowE X _ (hZ h + 1) 23))
  rw [row_cell _ (by omega) (by omega) (by omega), hN_new', e1]
  congr 2
  funext q
  rw [hI_new']
  rfl
theorem g_newZ {n : Int32} {h' : AH} (harr : Cond.arrayClass .boolean ∈ gw) (hd : decode k.2.1 pc = .ok (.newarray .boolean, 2)) (hn : (decide (¬ n < 0) && decide (n.toNatClampNeg ≤ 10000000)) = true) (e : h' = hNew h 24 n.toNatClampNeg n.toNatClampNeg) (kk : Go l X k (pc + 2) L (rf X (hZ h + 1) :: st) h' r) : Go l X k pc L (.int n :: st) h r := by
  subst e
  have h0 := kk.1
  rw [hZ_new, hV_new] at h0
  obtain ⟨hn1, hn2⟩ := Bool.and_eq_true_iff.mp hn
  have hn1 := of_decide_eq_true hn1
  have hn2 := of_decide_eq_true hn2
  refine ⟨⟨by omega, by omega⟩, fun g p e R s m args below meth c F H locs cells slots ls hSS hR hc hs hl => ?_⟩
  obtain ⟨hx, hb, hml, hr, hlo, hts, hown, hnam, hfr, hlc, hK, hSx, hB⟩ := id F
  refine va_newaK (atype := .boolean) hx hb (hts _ harr) rfl hd rfl hn1 rfl (by show n.toNatClampNeg * 1 ≤ _; omega) (by omega) (by omega) rfl fun H1 cA e1 z1 o1 hAr hNm => ?_
  have hcA : cA = xC X 24 := Option.some.inj (hNm.symm.trans (hK.2 3 _ rfl).2)
  subst hcA
  have hz := hR.1
  rw [rf_new h (hZ h) X H hz]
  refine kk.2 g p e R s m args below meth c F H1 locs (cells + 1) (slots + n.toNatClampNeg) ls (hSS.newc z1 o1) (hR.new z1 o1 (fun a ha => hS_new _ _ _ _ a ha) rfl (fun a ha => cellE_new a ha) (fun _ => ?_)) (by rw [hZ_new]; omega) (by rw [hV_new]; omega) hl
  rw [cellE_arr (hS_new' h 24 _ _) (by omega), ← hz]
  show H1[H.size]? = some (vp_cell (xC X 24) (rowE X _ (hZ h + 1) 24))
  rw [row_cell _ (by omega) (by omega) (by omega), hN_new', e1]
  congr 2
  funext q
  rw [hI_new']
  rfl
theorem g_newJ {n : Int32} {h' : AH} (harr : Cond.arrayClass .long ∈ gw) (hd : decode k.2.1 pc = .ok (.newarray .long, 2)) (hn : (decide (¬ n < 0) && decide (n.toNatClampNeg ≤ 10000000)) = true) (e : h' = hNew h 22 n.toNatClampNeg n.toNatClampNeg) (kk : Go l X k (pc + 2) L (rf X (hZ h + 1) :: st) h' r) : Go l X k pc L (.int n :: st) h r := by
  subst e
  have h0 := kk.1
  rw [hZ_new, hV_new] at h0
  obtain ⟨hn1, hn2⟩ := Bool.and_eq_true_iff.mp hn
  have hn1 := of_decide_eq_true hn1
  have hn2 := of_decide_eq_true hn2
  refine ⟨⟨by omega, by omega⟩, fun g p e R s m args below meth c F H locs cells slots ls hSS hR hc hs hl => ?_⟩
  obtain ⟨hx, hb, hml, hr, hlo, hts, hown, hnam, hfr, hlc, hK, hSx, hB⟩ := id F
  refine va_newaK (atype := .long) hx hb (hts _ harr) rfl hd rfl hn1 rfl (by show n.toNatClampNeg * 8 ≤ _; omega) (by omega) (by omega) rfl fun H1 cA e1 z1 o1 hAr hNm => ?_
  have hcA : cA = xC X 22 := Option.some.inj (hNm.symm.trans (hK.2 1 _ rfl).2)
  subst hcA
  have hz := hR.1
  rw [rf_new h (hZ h) X H hz]
  refine kk.2 g p e R s m args below meth c F H1 locs (cells + 1) (slots + n.toNatClampNeg) ls (hSS.newc z1 o1) (hR.new z1 o1 (fun a ha => hS_new _ _ _ _ a ha) rfl (fun a ha => cellE_new a ha) (fun _ => ?_)) (by rw [hZ_new]; omega) (by rw [hV_new]; omega) hl
  rw [cellE_arr (hS_new' h 22 _ _) (by omega), ← hz]
  show H1[H.size]? = some (arrV (xC X 22) (hN (hNew h 22 n.toNatClampNeg n.toNatClampNeg) (hZ h + 1)) (fun q => .long (hL (hNew h 22 n.toNatClampNeg n.toNatClampNeg) (hZ h + 1) q)))
  rw [hN_new', e1]
  congr 2
  funext q
  rw [hL_new']
  rfl
-- answers
theorem g_iret {v : Int32} (hr : k.2.2.2.1 = some .int) (hd : decode k.2.1 pc = .ok (.ireturn, 1)) : Go l X k pc L [.int v] h (.inl (some (.int v)), h) := ⟨⟨Nat.le_refl _, Nat.le_refl _⟩, fun g p e R s m args below meth c F H locs cells slots ls hSS hR hc hs hl => by
  obtain ⟨hx, hb, hml, hr9, hlo, hts, hown, hnam, hfr, hlc, hK, hSx, hB⟩ := F
  refine W.widen (k := R.cells) (n := R.slots) (by simpa using hc) (by simpa using hs) ?_
  exact W.iret hx hb (by rw [hr9]; exact hr) (fun t ht hW => ⟨⟨rfl, by rw [ht]; exact hR⟩, hSS.F ht⟩) hSS.2.2 hd⟩
theorem g_zret {v : Int32} (hr : k.2.2.2.1 = some .boolean) (hv : (v == 0 || v == 1) = true) (hd : decode k.2.1 pc = .ok (.ireturn, 1)) : Go l X k pc L [.int v] h (.inl (some (.int v)), h) := ⟨⟨Nat.le_refl _, Nat.le_refl _⟩, fun g p e R s m args below meth c F H locs cells slots ls hSS hR hc hs hl => by
  obtain ⟨hx, hb, hml, hr9, hlo, hts, hown, hnam, hfr, hlc, hK, hSx, hB⟩ := F
  refine W.widen (k := R.cells) (n := R.slots) (by simpa using hc) (by simpa using hs) ?_
  have hv' : narrow .boolean (.int v) = .int v := by
    rcases Bool.or_eq_true_iff.mp hv with q | q <;> (rw [beq_iff_eq.mp q]; rfl)
  exact W.zret hx hb (by rw [hr9]; exact hr) hv' (fun t ht hW => ⟨⟨rfl, by rw [ht]; exact hR⟩, hSS.F ht⟩) hSS.2.2 hd⟩
theorem g_lret {v : Int64} (hr : k.2.2.2.1 = some .long) (hd : decode k.2.1 pc = .ok (.lreturn, 1)) : Go l X k pc L [.long v] h (.inl (some (.long v)), h) := ⟨⟨Nat.le_refl _, Nat.le_refl _⟩, fun g p e R s m args below meth c F H locs cells slots ls hSS hR hc hs hl => by
  obtain ⟨hx, hb, hml, hr9, hlo, hts, hown, hnam, hfr, hlc, hK, hSx, hB⟩ := F
  refine W.widen (k := R.cells) (n := R.slots) (by simpa using hc) (by simpa using hs) ?_
  exact W.lret hx hb (by rw [hr9]; exact hr) (fun t ht hW => ⟨⟨rfl, by rw [ht]; exact hR⟩, hSS.F ht⟩) hSS.2.2 hd⟩
theorem g_vret (hr : k.2.2.2.1 = none) (hd : decode k.2.1 pc = .ok (.return_, 1)) : Go l X k pc L [] h (.inl none, h) := ⟨⟨Nat.le_refl _, Nat.le_refl _⟩, fun g p e R s m args below meth c F H locs cells slots ls hSS hR hc hs hl => by
  obtain ⟨hx, hb, hml, hr9, hlo, hts, hown, hnam, hfr, hlc, hK, hSx, hB⟩ := F
  refine W.widen (k := R.cells) (n := R.slots) (by simpa using hc) (by simpa using hs) ?_
  exact W.vret hx hb (by rw [hr9]; exact hr) (fun t ht hW => ⟨⟨rfl, by rw [ht]; exact hR⟩, hSS.F ht⟩) hSS.2.2 hd⟩
theorem g_aret {o : Nat} {rt : FieldType} (hr : k.2.2.2.1 = some rt) (ht : (∃ n, rt = .object n) ∨ ∃ t, rt = .array t) (hd : decode k.2.1 pc = .ok (.areturn, 1)) : Go l X k pc L [rf X o] h (.inl (some (rf X o)), h) := ⟨⟨Nat.le_refl _, Nat.le_refl _⟩, fun g p e R s m args below meth c F H locs cells slots ls hSS hR hc hs hl => by
  obtain ⟨hx, hb, hml, hr9, hlo, hts, hown, hnam, hfr, hlc, hK, hSx, hB⟩ := F
  refine W.widen (k := R.cells) (n := R.slots) (by simpa using hc) (by simpa using hs) ?_
  exact W.aret hx hb (by rw [hr9]; exact hr) ht (by unfold rf; split; exact Or.inl rfl; exact Or.inr ⟨_, rfl⟩) (fun t ht hW => ⟨⟨rfl, by rw [ht]; exact hR⟩, hSS.F ht⟩) hSS.2.2 hd⟩
-- contracts
theorem Ct.of {av : List Value} {v : Option Value} {h1 : AH} (hy : plainName k.1.cls = true) (hlen : (lg_sl av).length ≤ k.2.2.1) (go : Go l X k 0 (lv_args 0 av) [] h (.inl v, h1)) : Ct l X k av h (.inl v, h1) := ⟨go.1, fun g => by
  refine Met.ofW (cc := k.2.1) (maxL := k.2.2.1) (ret := k.2.2.2.1) hy rfl ?_
  intro p e s m args below meth c s₁ B hml hv
  obtain ⟨rfl, hR, hK, hSx⟩ := hv
  have hts := atoms_spec (ws := wsk k) B.pre
  have hl := lv_entry av (n := k.2.2.1) hlen
  rw [lg_entry_eq]
  have hzz := go.1
  have h9 := hR.1
  exact go.2 g p e (rmk k h h1) s m av.toArray below meth c ⟨B.exec, B.bytes, hml, B.returns, B.notSynchronized, fun w hw => hts w (List.mem_cons_of_mem _ hw), findClass_of_methodNamed B.named, (name_of_methodNamed B.named B.method).1, Nat.le_refl _, Nat.le_refl _, hK, hSx, by omega, trivial⟩ s.heap [] 0 0 _ va_S.rf hR (by show 0 + hZ h1 ≤ (hZ h1 - hZ h) + hZ h; omega) (by show 0 + hV h1 ≤ (hV h1 - hV h) + hV h; omega) hl⟩
theorem Wd_blind {av : List Value} {h g : AH} : FrameBlind (va_Pc av (Wd X h g)) := fun a U f mk q => ⟨q.1, q.2.1, va_K.moved (u := U) (U := U.calling f mk a) (Vm.Alike.refl U.vm) q.2.2.1, Sx.same (u := U) rfl q.2.2.2⟩
theorem Wd_at {h g : AH} {s U : State} {H : Heap} {locs : List Loc} (hK : va_K (xD X) vwCl (tysX X) s) (hSx : Sx X s s.heap) (hSS : va_S (xAr X) s.heap H locs) (hR : Rl X h g H) (hU : U.heap = H) (hW : s.WarmedH U.vm) : Wd X h g U := ⟨by rw [hU]; exact hR, va_K.moved hW.alike hK, Sx.moved hW (by rw [hU]; exact hSS) hSx⟩
theorem run_go {p : Program} {e : Env} {R : Room} {s : State} {m : MethodId} {args : Array Value} {below : List Frame} {meth : Method} {c : Code} {H : Heap} {locs : List Loc} {cells slots mc ms : Nat} {ls : Array Slot} {st0 rest : List Value} {a : Array Value} {v : Option Value} {h1 g : AH} {Q : State → Prop}
    (hr : va_Run p l e R s m args below meth c H locs cells slots mc ms (F0 m pc ls st0) rest (Qr X v h1 g a) (xAr X)) (hS : va_S (xAr X) s.heap H locs)
    (kk : ∀ (H1 : Heap) (locs1 : List Loc), va_S (xAr X) s.heap H1 locs1 → Rl X h1 g H1 → W p l e R s m args below meth c H1 locs1 (cells + mc) (slots + ms) Q (F0 m (pc + 3) ls (v.toList ++ rest))) : W p l e R s m args below meth c H locs cells slots Q (F0 m pc ls st0) := by
  intro T hT X9
  obtain ⟨v9, st₀, t, T', L, h0, X', hL, e1, e2, ⟨⟨hv, hrl⟩, hz, hk⟩, st⟩ := hr T hT X9
  cases hv
  rw [h0] at hz hk
  obtain ⟨t2, a1, b1⟩ := kk T'.heap (locs ++ L) ⟨Nat.le_trans hS.1 (by rw [e1]; exact hz), fun q h1 h2 => by rw [e1, hk q (Nat.lt_of_lt_of_le h1 hS.1) h2]; exact hS.2.1 q h1 h2, fun q hq => by
      rcases List.mem_append.mp hq with h | h
      · exact hS.2.2 q h
      · exact hL q h⟩ (by rw [e1]; exact hrl) T' rfl X'
  exact ⟨t2, st t2 a1, b1⟩
theorem callB_k {k2 : Mt} {idx n : Nat} {R : Room} {s : State} {args : Array Value} {h1 : AH} (hts : ∀ w ∈ gw, w.before args s = true) (ck : CK k2 n) (hm : Cond.methodLink k.1.cls idx k2.1 ∈ gw) (hfr : k2.2.2.2.2.1 + 1 ≤ R.frames) (hlo : 8 + (k2.2.2.1 + 11) + k2.2.2.2.2.2 ≤ R.locals) :
    CallB R s args k.1.cls idx k2.1 k2.2.1 k2.2.2.1 k2.2.2.2.1 (wsk k2) (rmk k2 h h1) (hZ h1 - hZ h) (hV h1 - hV h) n :=
  callB_of n hts (fun w hw => (List.mem_cons.mp hw).elim (fun e => by rw [e]; exact good_gw _ ck.1) (fun q => good_gw w q)) rfl rfl rfl (hts _ ck.2.1) (hts _ hm) ⟨ck.2.2.1, ck.2.2.2.1, ck.2.2.2.2.1⟩ ⟨hfr, hlo⟩
theorem g_callV {k2 : Mt} {idx n ci o : Nat} {av : List Value} {v : Option Value} {h1 : AH} (hd : decode k.2.1 pc = .ok (.invokevirtual idx, 3)) (ck : CK k2 n) (hm : Cond.methodLink k.1.cls idx k2.1 ∈ gw) (hin : Cond.instanceMethod k2.1 ∈ gw) (hse : Cond.selects k2.1.cls k2.1 k2.1 ∈ gw)
    (hci : (vwCl[ci]?).map (fun q => q.1) = some k2.1.cls) (h20 : ci < 20) (hs : hS h o = ci + 1) (hfr : k2.2.2.2.2.1 + 1 ≤ k.2.2.2.2.1) (hlo : 8 + (k2.2.2.1 + 11) + k2.2.2.2.2.2 ≤ k.2.2.2.2.2) (hn : av.length = n) (hst : (st.map fun v => v.category).sum ≤ 8)
    (ct : Ct l X k2 (rf X o :: av) h (.inl v, h1)) (kk : Go l X k (pc + 3) L (v.toList ++ st) h1 r) : Go l X k pc L (av.reverse ++ rf X o :: st) h r := by
  have e0 := ct.1
  have e1 := kk.1
  dsimp only at e0 e1
  refine ⟨⟨by omega, by omega⟩, fun g p e R s m args below meth c F H locs cells slots ls hSS hR hc hs9 hl => ?_⟩
  obtain ⟨hx, hb, hml, hr, hlk, hts, hown, hnam, hfr9, hlc, hK, hSx, hB⟩ := id F
  have hP := hR.at hs (by omega)
  rw [cellE_obj hs h20] at hP
  have hM := ct.2 g
  dsimp only at hM
  rw [hR.rfe hs (by omega)] at hM ⊢
  cases hq : vwCl[ci]? with
  | none => rw [hq] at hci; cases hci
  | some q =>
    rw [hq] at hci
    have hC : q.1 = k2.1.cls := Option.some.inj hci
    have hrecv := va_recv hK hP hq (q0 := 0) rfl
    rw [hC] at hrecv
    refine run_go (rest := st) (va_runV (C := k2.1.cls) (As := av) (rest := st) ⟨hx, hb, hml, hown, hts⟩ hM ⟨callB_k hts ck hm (by omega) (by omega), hts _ hin, hts _ hse⟩ ⟨Wd_blind, hrecv, fun U hU hW => ⟨rfl, Wd_at hK hSx hSS hR hU hW⟩⟩ rfl hn hl.1 rfl (lv_room hst) hd ⟨by omega, by omega⟩) hSS (fun H1 locs1 hS1 hR1 => ?_)
    exact kk.2 g p e R s m args below meth c F H1 locs1 _ _ ls hS1 hR1 (by omega) (by omega) hl
theorem g_callS {k2 : Mt} {idx n : Nat} {av : List Value} {v : Option Value} {h1 : AH} (hd : decode k.2.1 pc = .ok (.invokestatic idx, 3)) (ck : CK k2 n) (hm : Cond.methodLink k.1.cls idx k2.1 ∈ gw) (hst9 : Cond.static k2.1 ∈ gw)
    (hfr : k2.2.2.2.2.1 + 1 ≤ k.2.2.2.2.1) (hlo : 8 + (k2.2.2.1 + 11) + k2.2.2.2.2.2 ≤ k.2.2.2.2.2) (hn : av.length = n) (hst : (st.map fun v => v.category).sum ≤ 8)
    (ct : Ct l X k2 av h (.inl v, h1)) (kk : Go l X k (pc + 3) L (v.toList ++ st) h1 r) : Go l X k pc L (av.reverse ++ st) h r := by
  have e0 := ct.1
  have e1 := kk.1
  dsimp only at e0 e1
  refine ⟨⟨by omega, by omega⟩, fun g p e R s m args below meth c F H locs cells slots ls hSS hR hc hs9 hl => ?_⟩
  obtain ⟨hx, hb, hml, hr, hlk, hts, hown, hnam, hfr9, hlc, hK, hSx, hB⟩ := id F
  have hM := ct.2 g
  dsimp only at hM
  refine run_go (rest := st) (va_runS (As := av) (rest := st) ⟨hx, hb, hml, hown, hts⟩ hM ⟨callB_k hts ck hm (by omega) (by omega), hts _ hst9⟩ ⟨Wd_blind, fun U hU hW => ⟨rfl, Wd_at hK hSx hSS hR hU hW⟩⟩ rfl hn hl.1 rfl (lv_room hst) hd ⟨by omega, by omega⟩) hSS (fun H1 locs1 hS1 hR1 => ?_)
  exact kk.2 g p e R s m args below meth c F H1 locs1 _ _ ls hS1 hR1 (by omega) (by omega) hl
theorem g_callI {k2 : Mt} {idx n o : Nat} {av : List Value} {h1 : AH} (hd : decode k.2.1 pc = .ok (.invokespecial idx, 3)) (ck : CK k2 n) (hnm : k2.1.name = "<init>") (hret : k2.2.2.2.1 = none) (hm : Cond.methodLink k.1.cls idx k2.1 ∈ gw) (hin : Cond.instanceMethod k2.1 ∈ gw)
    (s9 : Nat) (hs : hS h o = s9) (hs0 : s9 ≠ 0) (hfr : k2.2.2.2.2.1 + 1 ≤ k.2.2.2.2.1) (hlo : 8 + (k2.2.2.1 + 11) + k2.2.2.2.2.2 ≤ k.2.2.2.2.2) (hn : av.length = n) (hst : (st.map fun v => v.category).sum ≤ 8)
    (ct : Ct l X k2 (rf X o :: av) h (.inl none, h1)) (kk : Go l X k (pc + 3) L st h1 r) : Go l X k pc L (av.reverse ++ rf X o :: st) h r := by
  have e0 := ct.1
  have e1 := kk.1
  dsimp only at e0 e1
  refine ⟨⟨by omega, by omega⟩, fun g p e R s m args below meth c F H locs cells slots ls hSS hR hc hs9 hl => ?_⟩
  obtain ⟨hx, hb, hml, hr, hlk, hts, hown, hnam, hfr9, hlc, hK, hSx, hB⟩ := id F
  have hM := ct.2 g
  dsimp only at hM
  rw [hR.rfe hs hs0] at hM ⊢
  have cb := callB_k (h := h) (h1 := h1) hts ck hm (show k2.2.2.2.2.1 + 1 ≤ R.frames by omega) (by omega)
  rw [hret] at cb
  refine run_go (rest := st) (va_runI (As := av) (rest := st) ⟨hx, hb, hml, hown, hts⟩ hM ⟨cb, hnm, hts _ hin⟩ ⟨Wd_blind, fun U hU hW => ⟨rfl, Wd_at hK hSx hSS hR hU hW⟩⟩ rfl hn hl.1 rfl (lv_room hst) hd ⟨by omega, by omega⟩) hSS (fun H1 locs1 hS1 hR1 => ?_)
  exact kk.2 g p e R s m args below meth c F H1 locs1 _ _ ls hS1 hR1 (by omega) (by omega) hl
end CALLS
