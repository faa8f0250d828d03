theorem hS_sI (h : AH) (o k : Nat) (v : Int32) (a : Nat) : hS (sI h o k v) a = hS h a := rfl
theorem hS_sL (h : AH) (o k : Nat) (v : Int64) (a : Nat) : hS (sL h o k v) a = hS h a := rfl
theorem hS_sR (h : AH) (o k : Nat) (v : Nat) (a : Nat) : hS (sR h o k v) a = hS h a := rfl
theorem hI_sI (h : AH) (o k : Nat) (v : Int32) (a b : Nat) : hI (sI h o k v) a b = if a = o ∧ b = k then v else hI h a b := rfl
theorem hL_sL (h : AH) (o k : Nat) (v : Int64) (a b : Nat) : hL (sL h o k v) a b = if a = o ∧ b = k then v else hL h a b := rfl
theorem hR_sR (h : AH) (o k : Nat) (v : Nat) (a b : Nat) : hR (sR h o k v) a b = if a = o ∧ b = k then v else hR h a b := rfl
/-! The context: the first address, the classes' numbers and slots, the classes of arrays by shape, the addresses of constants. -/
abbrev Cx : Type := Nat × va_G × (Nat → ClassId) × (Nat → Nat)
def xB (X : Cx) : Nat := X.1
def xD (X : Cx) : va_G := X.2.1
def xC (X : Cx) : Nat → ClassId := X.2.2.1
def xA (X : Cx) : Nat → Nat := X.2.2.2
def tysX (X : Cx) : List (ClassId × FieldType) := [(xC X 21, .int), (xC X 22, .long), (xC X 23, .char), (xC X 24, .boolean), (xC X 25, .object "CoreHouse$Core"), (xC X 26, .object "java/lang/String")]
def rf (X : Cx) (o : Nat) : Value := if o = 0 then .null else .ref (xB X + (o - 1))
def ro (X : Cx) (o : Nat) : Option Nat := if o = 0 then none else some (xB X + (o - 1))
def rs (X : Cx) (j : Nat) : Option Nat := if j = 0 then none else some (xA X (1000 + j))
theorem ro_rf (X : Cx) (o : Nat) : va_rf (ro X o) = rf X o := by unfold ro rf; split <;> rfl
def fv (X : Cx) (h : AH) (o k t : Nat) : Value := if t = 0 then .int (hI h o k) else if t = 1 then .long (hL h o k) else rf X (hR h o k)
def flds (X : Cx) (h : AH) (o ci : Nat) : List Value := (fk ci).mapIdx fun k t => fv X h o k t
def rowE (X : Cx) (h : AH) (o s : Nat) : vp_A := (hN h o, if s = 22 then .inr (.inl (hL h o)) else if s = 25 then .inr (.inr (.inr (.inr (fun j => ro X (hR h o j))))) else if s = 26 then .inr (.inr (.inr (.inr (fun j => rs X (hR h o j))))) else .inl (hI h o))
def cellE (X : Cx) (h : AH) (o : Nat) : va_E := if hS h o ≤ 20 then .inr (hS h o - 1, flds X h o (hS h o - 1)) else .inl (xC X (hS h o), rowE X h o (hS h o))
def Rl (X : Cx) (h g : AH) (H : Heap) : Prop := H.size = xB X + hZ h ∧
  (∀ o, hS h o ≠ 0 → 0 < o ∧ o ≤ hZ h ∧ va_at (xD X) vwCl (xB X + (o - 1), cellE X h o) H) ∧
  (∀ o, hS g o ≠ 0 → 0 < o ∧ o ≤ hZ h ∧ hS h o = 0 ∧ va_at (xD X) vwCl (xB X + (o - 1), cellE X g o) H)
theorem one_P {D : va_G} {cl : List vw_C} {q : Nat × va_E} {H : Heap} (h : va_at D cl q H) : va_P D cl [q] H := by
  intro k x hx
  match k, hx with
  | 0, hx => cases hx; exact h
theorem Rl.at {X : Cx} {h g : AH} {H : Heap} (hr : Rl X h g H) {o s : Nat} (hs : hS h o = s) (h0 : s ≠ 0) : va_P (xD X) vwCl [(xB X + (o - 1), cellE X h o)] H := one_P (hr.2.1 o (by rw [hs]; exact h0)).2.2
theorem Rl.rfe {X : Cx} {h g : AH} {H : Heap} (hr : Rl X h g H) {o s : Nat} (hs : hS h o = s) (h0 : s ≠ 0) : rf X o = .ref (xB X + (o - 1)) := by
  have := (hr.2.1 o (by rw [hs]; exact h0)).1
  unfold rf
  rw [if_neg (by omega)]
/-- a cell's new content: the others, of both heaps, stay -/
theorem Rl.put {X : Cx} {h g h' : AH} {H H1 : Heap} (hr : Rl X h g H) {o : Nat} (ho : hS h o ≠ 0) (hz : H1.size = H.size) (oq : ∀ q : Nat, q ≠ xB X + (o - 1) → H1[q]? = H[q]?)
    (hs : ∀ a, hS h' a = hS h a) (hZ' : hZ h' = hZ h) (he : ∀ a, a ≠ o → cellE X h' a = cellE X h a) (hn : va_at (xD X) vwCl (xB X + (o - 1), cellE X h' o) H1) : Rl X h' g H1 := by
  obtain ⟨h1, h2, h3⟩ := hr
  have ho0 := (h2 o ho).1
  refine ⟨by rw [hz, h1, hZ'], fun a ha => ?_, fun a ha => ?_⟩
  · rw [hs] at ha
    obtain ⟨q1, q2, q3⟩ := h2 a ha
    refine ⟨q1, by rw [hZ']; exact q2, ?_⟩
    by_cases hao : a = o
    · subst hao; exact hn
    · rw [he a hao]
      exact q3.kept (oq _ (by show xB X + (a - 1) ≠ xB X + (o - 1); omega))
  · obtain ⟨q1, q2, q3, q4⟩ := h3 a ha
    refine ⟨q1, by rw [hZ']; exact q2, by rw [hs]; exact q3, q4.kept (oq _ ?_)⟩
    show xB X + (a - 1) ≠ xB X + (o - 1)
    have : a ≠ o := fun e => ho (by rw [← e]; exact q3)
    omega
/-- a new cell: the others stay -/
theorem Rl.new {X : Cx} {h g h' : AH} {H H1 : Heap} (hr : Rl X h g H) (hz : H1.size = H.size + 1) (oq : ∀ q : Nat, q < H.size → H1[q]? = H[q]?)
    (hs : ∀ a, a ≠ hZ h + 1 → hS h' a = hS h a) (hZ' : hZ h' = hZ h + 1) (he : ∀ a, a ≠ hZ h + 1 → cellE X h' a = cellE X h a) (hn : hS h' (hZ h + 1) ≠ 0 → va_at (xD X) vwCl (xB X + hZ h, cellE X h' (hZ h + 1)) H1) : Rl X h' g H1 := by
  obtain ⟨h1, h2, h3⟩ := hr
  refine ⟨by rw [hz, h1, hZ']; omega, fun a ha => ?_, fun a ha => ?_⟩
  · by_cases hao : a = hZ h + 1
    · subst hao
      exact ⟨by omega, by omega, hn ha⟩
    · rw [hs a hao] at ha
      obtain ⟨q1, q2, q3⟩ := h2 a ha
      refine ⟨q1, by omega, ?_⟩
      rw [he a hao]
      exact q3.kept (oq _ (by show xB X + (a - 1) < H.size; omega))
  · obtain ⟨q1, q2, q3, q4⟩ := h3 a ha
    have hao : a ≠ hZ h + 1 := by omega
    exact ⟨q1, by omega, by rw [hs a hao]; exact q3, q4.kept (oq _ (by show xB X + (a - 1) < H.size; omega))⟩
theorem cellE_obj {X : Cx} {h : AH} {o ci : Nat} (hs : hS h o = ci + 1) (hc : ci < 20) : cellE X h o = .inr (ci, flds X h o ci) := by
  unfold cellE
  rw [hs, if_pos (by omega)]
  rfl
theorem cellE_arr {X : Cx} {h : AH} {o s : Nat} (hs : hS h o = s) (hc : 20 < s) : cellE X h o = .inl (xC X s, rowE X h o s) := by
  unfold cellE
  rw [hs, if_neg (by omega)]
theorem flds_at {X : Cx} {h : AH} {o ci k t : Nat} (ht : (fk ci)[k]? = some t) : (flds X h o ci)[k]? = some (fv X h o k t) := by
  unfold flds
  rw [List.getElem?_mapIdx, ht]
  rfl
theorem flds_set {X : Cx} {h h' : AH} {o ci k t : Nat} {v : Value} (ht : (fk ci)[k]? = some t) (hv : fv X h' o k t = v) (ho : ∀ j u, j ≠ k → fv X h' o j u = fv X h o j u) : flds X h' o ci = (flds X h o ci).set k v := by
  apply List.ext_getElem?
  intro j
  rw [List.getElem?_set]
  by_cases hj : k = j
  · subst hj
    have hl : k < (flds X h o ci).length := by
      unfold flds
      rw [List.length_mapIdx]
      exact (List.getElem?_eq_some_iff.mp ht).1
    rw [if_pos rfl, if_pos hl]
    unfold flds
    rw [List.getElem?_mapIdx, ht]
    simp [hv]
  · rw [if_neg hj]
    unfold flds
    rw [List.getElem?_mapIdx, List.getElem?_mapIdx]
    cases (fk ci)[j]? with
    | none => rfl
    | some u => simp [ho j u (fun e => hj e.symm)]
