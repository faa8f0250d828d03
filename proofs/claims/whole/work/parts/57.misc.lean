/-! Rows that the printed proofs use. -/
theorem hS_tI {h h' : AH} {o k : Nat} {v : Int32} {a s : Nat} (e : h' = sI h o k v) (g : hS h a = s) : hS h' a = s := by subst e; exact g
theorem hS_tL {h h' : AH} {o k : Nat} {v : Int64} {a s : Nat} (e : h' = sL h o k v) (g : hS h a = s) : hS h' a = s := by subst e; exact g
theorem hS_tR {h h' : AH} {o k : Nat} {v : Nat} {a s : Nat} (e : h' = sR h o k v) (g : hS h a = s) : hS h' a = s := by subst e; exact g
theorem hS_tA {h h' : AH} {o : Nat} {f : Nat → Int32} {a s : Nat} (e : h' = sA h o f) (g : hS h a = s) : hS h' a = s := by subst e; exact g
theorem hS_nw {h h' : AH} {s n w : Nat} (e : h' = hNew h s n w) : hS h' (hZ h + 1) = s := by subst e; exact hS_new' h s n w
theorem cl_own {ci : Nat} {own : String} (h : (vwCl[ci]?).map (fun q => q.1) = some own) : ∀ C T N, vwCl[ci]? = some (C, T, N) → C = own := by
  intro C T N e
  rw [e] at h
  exact Option.some.inj h
theorem ct_of {l : Launch} {X : Cx} {k : Mt} {av : List Value} {L : List (Nat × Value)} {h : AH} {v : Option Value} {h1 : AH} {n : Nat} (ck : CK k n) (hlen : (lg_sl av).length ≤ k.2.2.1) (hL : lv_args 0 av = L) (go : Go l X k 0 L [] h (.inl v, h1)) : Ct l X k av h (.inl v, h1) := Ct.of ck.2.2.2.2.2 hlen (by rw [hL]; exact go)
def nwb (ci : Nat) (ty : Nat → FieldType) (N : Nat) : Bool := (List.range N).all fun j => match (fk ci)[j]? with
  | some t => decide (defaultValue (ty j) = if t = 0 then .int 0 else if t = 1 then .long 0 else .null)
  | none => false
theorem nw_of {ci : Nat} {ty : Nat → FieldType} {N : Nat} (h : nwb ci ty N = true) : ∀ j, j < N → ∃ t, (fk ci)[j]? = some t ∧ defaultValue (ty j) = if t = 0 then .int 0 else if t = 1 then .long 0 else .null := by
  intro j hj
  have h1 := List.all_eq_true.mp h j (List.mem_range.mpr hj)
  cases ht : (fk ci)[j]? with
  | none => rw [ht] at h1; cases h1
  | some t => rw [ht] at h1; exact ⟨t, rfl, of_decide_eq_true h1⟩
section NUL
variable {l : Launch} {X : Cx} {k : Mt} {pc : Nat} {L : List (Nat × Value)} {st : List Value} {h : AH} {r : Rs}
theorem g_ifnull_0 {o : Nat} {off : Int} {tgt : Nat} (hd : decode k.2.1 pc = .ok (.ifnull off, 3)) (ht : (pc : Int) + off = (tgt : Int)) (h0 : o = 0) (kk : Go l X k tgt L st h r) : Go l X k pc L (rf X o :: st) h r := by
  subst h0
  exact Go.of (fun _ _ _ _ _ _ _ _ _ _ _ _ _ _ _ _ F _ _ _ w => lv_ifnullN F.1 F.2.1 hd ht w) kk
theorem g_ifnull_1 {o : Nat} {off : Int} {tgt : Nat} (hd : decode k.2.1 pc = .ok (.ifnull off, 3)) (ht : (pc : Int) + off = (tgt : Int)) (h0 : ¬ o = 0) (kk : Go l X k (pc + 3) L st h r) : Go l X k pc L (rf X o :: st) h r := by
  have e : rf X o = .ref (xB X + (o - 1)) := by unfold rf; rw [if_neg h0]
  rw [e]
  exact Go.of (fun _ _ _ _ _ _ _ _ _ _ _ _ _ _ _ _ F _ _ _ w => lv_ifnull F.1 F.2.1 hd w) kk
theorem g_ifnonnull_0 {o : Nat} {off : Int} {tgt : Nat} (hd : decode k.2.1 pc = .ok (.ifnonnull off, 3)) (ht : (pc : Int) + off = (tgt : Int)) (h0 : o = 0) (kk : Go l X k (pc + 3) L st h r) : Go l X k pc L (rf X o :: st) h r := by
  subst h0
  exact Go.of (fun _ _ _ _ _ _ _ _ _ _ _ _ _ _ _ _ F _ _ _ w => lv_ifnonnullN F.1 F.2.1 hd w) kk
theorem g_ifnonnull_1 {o : Nat} {off : Int} {tgt : Nat} (hd : decode k.2.1 pc = .ok (.ifnonnull off, 3)) (ht : (pc : Int) + off = (tgt : Int)) (h0 : ¬ o = 0) (kk : Go l X k tgt L st h r) : Go l X k pc L (rf X o :: st) h r := by
  have e : rf X o = .ref (xB X + (o - 1)) := by unfold rf; rw [if_neg h0]
  rw [e]
  exact Go.of (fun _ _ _ _ _ _ _ _ _ _ _ _ _ _ _ _ F _ _ _ w => lv_ifnonnull F.1 F.2.1 hd ht w) kk
end NUL
theorem ca_i (x : Int32) : (Value.int x).category = 1 := rfl
theorem ca_l (x : Int64) : (Value.long x).category = 2 := rfl
theorem ca_r (a : Nat) : (Value.ref a).category = 1 := rfl
theorem mem_tb {w : Cond} (h : w ∈ tables_1) (g : goodWord w = true) : w ∈ gw := List.mem_filter.mpr ⟨List.mem_append_right _ h, g⟩
