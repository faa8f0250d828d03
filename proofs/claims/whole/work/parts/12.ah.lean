/-! What each update of the abstract heap leaves and changes: rows for simp. -/
theorem x_hI_sI (h : AH) (o k : Nat) (v : Int32) (p q : Nat) : hI (sI h o k v) p q = if p = o ∧ q = k then v else hI h p q := rfl
theorem x_hL_sI (h : AH) (o k : Nat) (v : Int32) (p q : Nat) : hL (sI h o k v) p q = hL h p q := rfl
theorem x_hR_sI (h : AH) (o k : Nat) (v : Int32) (p q : Nat) : hR (sI h o k v) p q = hR h p q := rfl
theorem x_hS_sI (h : AH) (o k : Nat) (v : Int32) (p : Nat) : hS (sI h o k v) p = hS h p := rfl
theorem x_hN_sI (h : AH) (o k : Nat) (v : Int32) (p : Nat) : hN (sI h o k v) p = hN h p := rfl
theorem x_hZ_sI (h : AH) (o k : Nat) (v : Int32) : hZ (sI h o k v) = hZ h := rfl
theorem x_hV_sI (h : AH) (o k : Nat) (v : Int32) : hV (sI h o k v) = hV h := rfl
theorem x_hI_sL (h : AH) (o k : Nat) (v : Int64) (p q : Nat) : hI (sL h o k v) p q = hI h p q := rfl
theorem x_hL_sL (h : AH) (o k : Nat) (v : Int64) (p q : Nat) : hL (sL h o k v) p q = if p = o ∧ q = k then v else hL h p q := rfl
theorem x_hR_sL (h : AH) (o k : Nat) (v : Int64) (p q : Nat) : hR (sL h o k v) p q = hR h p q := rfl
theorem x_hS_sL (h : AH) (o k : Nat) (v : Int64) (p : Nat) : hS (sL h o k v) p = hS h p := rfl
theorem x_hN_sL (h : AH) (o k : Nat) (v : Int64) (p : Nat) : hN (sL h o k v) p = hN h p := rfl
theorem x_hZ_sL (h : AH) (o k : Nat) (v : Int64) : hZ (sL h o k v) = hZ h := rfl
theorem x_hV_sL (h : AH) (o k : Nat) (v : Int64) : hV (sL h o k v) = hV h := rfl
theorem x_hI_sR (h : AH) (o k v : Nat) (p q : Nat) : hI (sR h o k v) p q = hI h p q := rfl
theorem x_hL_sR (h : AH) (o k v : Nat) (p q : Nat) : hL (sR h o k v) p q = hL h p q := rfl
theorem x_hR_sR (h : AH) (o k v : Nat) (p q : Nat) : hR (sR h o k v) p q = if p = o ∧ q = k then v else hR h p q := rfl
theorem x_hS_sR (h : AH) (o k v : Nat) (p : Nat) : hS (sR h o k v) p = hS h p := rfl
theorem x_hN_sR (h : AH) (o k v : Nat) (p : Nat) : hN (sR h o k v) p = hN h p := rfl
theorem x_hZ_sR (h : AH) (o k v : Nat) : hZ (sR h o k v) = hZ h := rfl
theorem x_hV_sR (h : AH) (o k v : Nat) : hV (sR h o k v) = hV h := rfl
theorem x_hI_sA (h : AH) (o : Nat) (f : Nat → Int32) (p q : Nat) : hI (sA h o f) p q = if p = o then f q else hI h p q := by show up1 h.1 o f p q = _; unfold up1; split <;> rfl
theorem x_hL_sA (h : AH) (o : Nat) (f : Nat → Int32) (p q : Nat) : hL (sA h o f) p q = hL h p q := rfl
theorem x_hR_sA (h : AH) (o : Nat) (f : Nat → Int32) (p q : Nat) : hR (sA h o f) p q = hR h p q := rfl
theorem x_hS_sA (h : AH) (o : Nat) (f : Nat → Int32) (p : Nat) : hS (sA h o f) p = hS h p := rfl
theorem x_hN_sA (h : AH) (o : Nat) (f : Nat → Int32) (p : Nat) : hN (sA h o f) p = hN h p := rfl
theorem x_hZ_sA (h : AH) (o : Nat) (f : Nat → Int32) : hZ (sA h o f) = hZ h := rfl
theorem x_hV_sA (h : AH) (o : Nat) (f : Nat → Int32) : hV (sA h o f) = hV h := rfl
theorem x_hI_hB (h : AH) (n : Nat) (p q : Nat) : hI (hB h n) p q = hI h p q := rfl
theorem x_hL_hB (h : AH) (n : Nat) (p q : Nat) : hL (hB h n) p q = hL h p q := rfl
theorem x_hR_hB (h : AH) (n : Nat) (p q : Nat) : hR (hB h n) p q = hR h p q := rfl
theorem x_hS_hB (h : AH) (n : Nat) (p : Nat) : hS (hB h n) p = hS h p := rfl
theorem x_hN_hB (h : AH) (n : Nat) (p : Nat) : hN (hB h n) p = hN h p := rfl
theorem x_hV_hB (h : AH) (n : Nat) : hV (hB h n) = hV h := rfl
theorem x_hZ_hB (h : AH) (n : Nat) : hZ (hB h n) = n := rfl
theorem x_hI_hT (h : AH) (p q : Nat) : hI (hT h) p q = hI h p q := rfl
theorem x_hL_hT (h : AH) (p q : Nat) : hL (hT h) p q = hL h p q := rfl
theorem x_hR_hT (h : AH) (p q : Nat) : hR (hT h) p q = hR h p q := rfl
theorem x_hS_hT (h : AH) (p : Nat) : hS (hT h) p = hS h p := rfl
theorem x_hN_hT (h : AH) (p : Nat) : hN (hT h) p = hN h p := rfl
theorem x_hI_hNew (h : AH) (s n w p q : Nat) : hI (hNew h s n w) p q = if p = hZ h + 1 then 0 else hI h p q := by show up1 _ (hZ h + 1) (fun _ => 0) p q = _; unfold up1; split <;> rfl
theorem x_hL_hNew (h : AH) (s n w p q : Nat) : hL (hNew h s n w) p q = if p = hZ h + 1 then 0 else hL h p q := by show up1 _ (hZ h + 1) (fun _ => 0) p q = _; unfold up1; split <;> rfl
theorem x_hR_hNew (h : AH) (s n w p q : Nat) : hR (hNew h s n w) p q = if p = hZ h + 1 then 0 else hR h p q := by show up1 _ (hZ h + 1) (fun _ => 0) p q = _; unfold up1; split <;> rfl
theorem x_hS_hNew (h : AH) (s n w p : Nat) : hS (hNew h s n w) p = if p = hZ h + 1 then s else hS h p := by show up1 _ (hZ h + 1) s p = _; unfold up1; split <;> rfl
theorem x_hN_hNew (h : AH) (s n w p : Nat) : hN (hNew h s n w) p = if p = hZ h + 1 then n else hN h p := by show up1 _ (hZ h + 1) n p = _; unfold up1; split <;> rfl
theorem x_hZ_hNew (h : AH) (s n w : Nat) : hZ (hNew h s n w) = hZ h + 1 := rfl
theorem x_hV_hNew (h : AH) (s n w : Nat) : hV (hNew h s n w) = hV h + w := rfl
-- the combinators, where the guard holds
theorem x_gs {α : Type} {h : AH} {o s : Nat} {k : Option α} (e : hS h o = s) : gs h o s k = k := by unfold gs; rw [if_pos e]
theorem x_gb {α : Type} {b : Bool} {k : Option α} (e : b = true) : gb b k = k := by unfold gb; rw [if_pos e]
theorem x_lt {α β : Type} (v : α) (k : α → Option β) : lt v k = k v := rfl
theorem x_bd {α β : Type} {x : Option α} {v : α} {k : α → Option β} (e : x = some v) : bd x k = k v := by rw [e]; rfl
theorem x_ib {n N : Nat} (h : n < N) (hN : N < 2 ^ 31) : ib (nI n) N = true := by
  unfold ib
  exact decide_eq_true (nI_in h hN)
theorem x_cl {n : Nat} (h : n < 2 ^ 31) : (nI n).toNatClampNeg = n := nI_clamp h
