/-! The words of a text without faults. -/
def w1 (h : AH) (g : Gh) (L k : Nat) : Int32 := if g 3 k = 0 then hI h 8 k else hI h 8 k ||| putV (hwI (g 0 k)) (nval h g L k).toInt32
def wu (h : AH) (g : Gh) (L k : Nat) : Int32 := ((55 : Int32) ||| (hI h 8 k &&& (3968 : Int32))) ||| putV 7 (nval h g L k).toInt32
def wl (h : AH) (g : Gh) (L k : Nat) : Int32 := (((19 : Int32) ||| (hI h 8 k &&& (3968 : Int32))) ||| ((hI h 8 k &&& (3968 : Int32)) <<< ((8 : Int32) &&& 31))) ||| putV 8 (nval h g L k).toInt32
def up8 (f : Nat → Int32) (a : Nat) (v : Int32) : Nat → Int32 := fun j => if j = a then v else f j
/-- the memory behind the first k items -/
def mw (h : AH) (g : Gh) (L : Nat) (f0 : Nat → Int32) : Nat → Nat → Int32
  | 0 => f0
  | k + 1 => if wds (g 0 k) (g 3 k) (hL h 11 k) = 1 then up8 (mw h g L f0 k) (g 2 k / 4) (w1 h g L k) else if wds (g 0 k) (g 3 k) (hL h 11 k) = 2 then up8 (up8 (mw h g L f0 k) (g 2 k / 4) (wu h g L k)) (g 2 k / 4 + 1) (wl h g L k) else mw h g L f0 k
theorem top1 (x : Int32) {k : Nat} (hk : k < 32) : (x >>> nI k) <<< nI 31 = ((x >>> nI k) &&& (1 : Int32)) <<< nI 31 := by
  refine bt_ext (fun i hi => ?_)
  rw [bt_shl _ (by omega) hi, bt_shl _ (by omega) hi, bt_and]
  by_cases e : i = 31
  · subst e
    have : bt (1 : Int32) (31 - 31) = true := by decide
    rw [this, Bool.and_true]
  · have : decide (31 ≤ i) = false := decide_eq_false (by omega)
    rw [this]; rfl
theorem low12 (x : Int32) : (x - ((x <<< nI 20) >>> nI 20)) &&& (-4096 : Int32) = x - ((x <<< nI 20) >>> nI 20) := by
  have hy : ∀ i, i < 12 → bt ((x <<< nI 20) >>> nI 20) i = bt x i := fun i hi => by rw [bt_ss x (by omega) (by omega), if_pos (by omega)]
  generalize (x <<< nI 20) >>> nI 20 = y at *
  have m12 : x.toBitVec.toNat % 2 ^ 12 = y.toBitVec.toNat % 2 ^ 12 := by
    apply Nat.eq_of_testBit_eq
    intro i
    rw [Nat.testBit_mod_two_pow, Nat.testBit_mod_two_pow]
    by_cases e : i < 12
    · have := hy i e
      unfold bt at this
      rw [decide_eq_true e, Bool.true_and, Bool.true_and]
      exact this.symm
    · rw [decide_eq_false e, Bool.false_and, Bool.false_and]
  have d0 : (x - y).toBitVec.toNat % 2 ^ 12 = 0 := by
    rw [Int32.toBitVec_sub, BitVec.toNat_sub]
    have := x.toBitVec.isLt
    have := y.toBitVec.isLt
    omega
  refine bt_ext (fun i hi => ?_)
  rw [bt_and]
  by_cases e : i < 12
  · have z : bt (x - y) i = false := by
      show (x - y).toBitVec.toNat.testBit i = false
      have t := Nat.testBit_mod_two_pow (x - y).toBitVec.toNat 12 i
      rw [d0, decide_eq_true e, Bool.true_and, Nat.zero_testBit] at t
      exact t.symm
    rw [z]; rfl
  · have t : ∀ i, i < 32 → ¬ i < 12 → bt (-4096 : Int32) i = true := by decide +kernel
    rw [t i hi e, Bool.and_true]
theorem i31 : ∀ k, k < 32 → nI k &&& (31 : Int32) = nI k := by decide +kernel
/-- what the class puts into a word -/
theorem c_encode {hE h : AH} {g : Gh} {L k : Nat} (Lc : LC hE) (k375 : k < 375) (op61 : g 0 k < 61) (h5 : hI hE 5 k = nI (g 0 k)) (h8 : hI hE 8 k = hI h 8 k) (h11 : hL hE 11 k = nval h g L k) (nk0 : g 3 k = 0 ↔ tForm.getD (g 0 k) 0 = 0) (w8 : tForm.getD (g 0 k) 0 = 8 → hI h 8 k = 0) (n9 : tForm.getD (g 0 k) 0 ≠ 9) (n10' : tForm.getD (g 0 k) 0 ≠ 10) : f_X1_encode hE 4 (nI k) = some (w1 h g L k) := by
  obtain ⟨fo, fl'⟩ := form_n (g 0 k) op61
  have ht : ∀ op, op < 61 → (tForm.getD op 0 = 1 → hwI op = 0) ∧ (tForm.getD op 0 = 2 → hwI op = 6) ∧ (tForm.getD op 0 = 3 → hwI op = 1) ∧ (tForm.getD op 0 = 4 → hwI op = 2) ∧ (tForm.getD op 0 = 5 → hwI op = 3) ∧ (tForm.getD op 0 = 6 → hwI op = 4) ∧ (tForm.getD op 0 = 7 → hwI op = 0) ∧ (tForm.getD op 0 = 8 → hwI op = 5) := by decide +kernel
  obtain ⟨t1, t2, t3, t4, t5, t6, t7, t8⟩ := ht _ op61
  unfold f_X1_encode
  rw [y_gs, if_pos (lc_S4 Lc), lc_R4_8 Lc, y_gs, if_pos (lc_S11 Lc), lc_N11 Lc, y_gb, if_pos (q_ib k375 (by omega)), q_cl (by omega), h11, y_lt, lc_R4_2 Lc, y_gs, if_pos (lc_S5 Lc), lc_N5 Lc, y_gb, if_pos (q_ib k375 (by omega)), h5, y_gb, if_pos (q_ib op61 (by omega)), q_cl (by omega), y_gb, if_pos (decide_eq_true op61), fo, lc_R4_5 Lc, lc_N8 Lc]
  simp only [y_gs, lc_S8 Lc, ↓reduceIte, y_gb, q_ib k375 (show 375 < 2 ^ 31 by omega), h8]
  unfold w1
  generalize (nval h g L k).toInt32 = x at *
  have f11 : tForm.getD (g 0 k) 0 = 0 ∨ tForm.getD (g 0 k) 0 = 1 ∨ tForm.getD (g 0 k) 0 = 2 ∨ tForm.getD (g 0 k) 0 = 3 ∨ tForm.getD (g 0 k) 0 = 4 ∨ tForm.getD (g 0 k) 0 = 5 ∨ tForm.getD (g 0 k) 0 = 6 ∨ tForm.getD (g 0 k) 0 = 7 ∨ tForm.getD (g 0 k) 0 = 8 := by omega
  rcases f11 with z | z | z | z | z | z | z | z | z
  · rw [if_pos (show g 3 k = 0 from nk0.mpr z), z]; rfl
  · rw [if_neg (show ¬ g 3 k = 0 from fun q => by have := nk0.mp q; omega), t1 z, z]; rfl
  · rw [if_neg (show ¬ g 3 k = 0 from fun q => by have := nk0.mp q; omega), t2 z, z]; rfl
  · rw [if_neg (show ¬ g 3 k = 0 from fun q => by have := nk0.mp q; omega), t3 z, z]
    show some ((hI h 8 k ||| _) ||| _) = some (hI h 8 k ||| (_ ||| _))
    rw [Int32.or_assoc]
  · rw [if_neg (show ¬ g 3 k = 0 from fun q => by have := nk0.mp q; omega), t4 z, z]
    show some ((((hI h 8 k ||| ((x >>> nI 12) <<< nI 31)) ||| _) ||| _) ||| _) = some (hI h 8 k ||| (((((((x >>> nI 12) &&& (1 : Int32)) <<< nI 31)) ||| _) ||| _) ||| _))
    rw [top1 x (k := 12) (by omega), ← Int32.or_assoc, ← Int32.or_assoc, ← Int32.or_assoc]
  · rw [if_neg (show ¬ g 3 k = 0 from fun q => by have := nk0.mp q; omega), t5 z, z]; rfl
  · rw [if_neg (show ¬ g 3 k = 0 from fun q => by have := nk0.mp q; omega), t6 z, z]
    show some ((((hI h 8 k ||| ((x >>> nI 20) <<< nI 31)) ||| _) ||| _) ||| (x &&& (1044480 : Int32))) = some (hI h 8 k ||| (((((((x >>> nI 20) &&& (1 : Int32)) <<< nI 31)) ||| _) ||| _) ||| _))
    rw [top1 x (k := 20) (by omega), j_mid, ← Int32.or_assoc, ← Int32.or_assoc, ← Int32.or_assoc]
  · rw [if_neg (show ¬ g 3 k = 0 from fun q => by have := nk0.mp q; omega), t7 z, z]; rfl
  · rw [if_neg (show ¬ g 3 k = 0 from fun q => by have := nk0.mp q; omega), t8 z, z, w8 z]
    show some x = some ((0 : Int32) ||| x)
    rw [Int32.zero_or]
theorem c_upper {hE h : AH} {g : Gh} {L k : Nat} (Lc : LC hE) (k375 : k < 375) (h8 : hI hE 8 k = hI h 8 k) (h11 : hL hE 11 k = nval h g L k) : f_X1_upperPart hE 4 (nI k) = some (wu h g L k) ∧ f_X1_lowerPart hE 4 (nI k) = some (wl h g L k) := by
  constructor
  · unfold f_X1_upperPart
    rw [y_gs, if_pos (lc_S4 Lc), lc_R4_8 Lc, y_gs, if_pos (lc_S11 Lc), lc_N11 Lc, y_gb, if_pos (q_ib k375 (by omega)), q_cl (by omega), h11, y_lt, y_lt, lc_R4_5 Lc, y_gs, if_pos (lc_S8 Lc), lc_N8 Lc, y_gb, if_pos (q_ib k375 (by omega)), h8, y_lt]
    unfold wu
    show some (_ ||| ((nval h g L k).toInt32 - (((nval h g L k).toInt32 <<< nI 20) >>> nI 20))) = some (_ ||| (((nval h g L k).toInt32 - (((nval h g L k).toInt32 <<< nI 20) >>> nI 20)) &&& (-4096 : Int32)))
    rw [low12]
  · unfold f_X1_lowerPart
    rw [y_gs, if_pos (lc_S4 Lc), lc_R4_5 Lc, y_gs, if_pos (lc_S8 Lc), lc_N8 Lc, y_gb, if_pos (q_ib k375 (by omega)), q_cl (by omega), h8, y_lt, lc_R4_8 Lc, y_gs, if_pos (lc_S11 Lc), lc_N11 Lc, y_gb, if_pos (q_ib k375 (by omega)), h11]
    rfl
/-- what the class's writing needs of its items -/
def EI (hE h : AH) (g : Gh) (L k : Nat) : Prop := g 0 k < 61 ∧ hI hE 5 k = nI (g 0 k) ∧ hI hE 7 k = nI (g 2 k) ∧ hI hE 8 k = hI h 8 k ∧ hI hE 9 k = nI (g 3 k) ∧ hL hE 11 k = nval h g L k ∧ g 3 k ≤ 2 ∧ (g 3 k = 0 ↔ tForm.getD (g 0 k) 0 = 0) ∧ (tForm.getD (g 0 k) 0 = 8 → hI h 8 k = 0) ∧ g 2 k % 4 = 0 ∧ (wds (g 0 k) (g 3 k) (hL h 11 k) ≠ 0 → g 2 k + 4 * wds (g 0 k) (g 3 k) (hL h 11 k) ≤ 8192) ∧ g 2 k ≤ 20000
def EM (hE hk h : AH) (g : Gh) (L k o : Nat) : Prop := hk.2 = hE.2 ∧ (∀ p j, p ≠ o → hI hk p j = hI hE p j) ∧ (∀ j, hI hk o j = mw h g L (hI hE o) k j)
theorem wds_nv (h : AH) (g : Gh) (L k : Nat) : wds (g 0 k) (g 3 k) (nval h g L k) = wds (g 0 k) (g 3 k) (hL h 11 k) := by
  unfold nval
  by_cases e : g 3 k = 2
  · rw [if_pos e, e]
    have : ∀ z : Int64, wds (g 0 k) 2 z = if tForm.getD (g 0 k) 0 = 9 ∨ tForm.getD (g 0 k) 0 = 10 then 0 else if tForm.getD (g 0 k) 0 = 7 then 2 else 1 := fun z => by
      unfold wds
      by_cases c : tForm.getD (g 0 k) 0 = 7
      · rw [if_pos (show tForm.getD (g 0 k) 0 = 7 ∧ ¬ (2 = 1 ∧ fitB 1 z = true) from ⟨c, fun q => absurd q.1 (by decide)⟩), if_pos c]
      · rw [if_neg (show ¬ (tForm.getD (g 0 k) 0 = 7 ∧ ¬ (2 = 1 ∧ fitB 1 z = true)) from fun q => c q.1), if_neg c]
    rw [this, this]
  · rw [if_neg e]
theorem c_emit {hE h : AH} {g : Gh} {L n : Nat} (Lc : LC hE) (n375 : n ≤ 375) (h1 : hI hE 4 1 = nI n) (items : ∀ k, k < n → EI hE h g L k) : ∀ r k f (hk : AH), k + r = n → r < f → EM hE hk h g L k 20 → ∃ h', f_X1_emit_L2 f hk 4 20 (nI k) = some h' ∧ EM hE h' h g L n 20 := by
  intro r
  induction r with
  | zero =>
    intro k f hk e hf M
    obtain ⟨f, rfl⟩ : ∃ q, f = q + 1 := ⟨f - 1, by omega⟩
    have Lk : LC hk := LC_2 Lc (by rw [M.1])
    have : k = n := by omega
    subst this
    refine ⟨hk, ?_, M⟩
    rw [f_X1_emit_L2, y_gs, if_pos (lc_S4 Lk), M.2.1 4 1 (by omega), h1, if_pos (Int32.le_refl _)]
  | succ r ih =>
    intro k f hk e hf M
    obtain ⟨f, rfl⟩ : ∃ q, f = q + 1 := ⟨f - 1, by omega⟩
    obtain ⟨i1, i2, i3, i4, i5, i6, i7, i8, i9, i10, i11, i12⟩ := items k (by omega)
    have Lk : LC hk := LC_2 Lc (by rw [M.1])
    have hL0 : hL hk 11 k = hL hE 11 k := by show hk.2.1 11 k = hE.2.1 11 k; rw [M.1]
    have hL' : hL hk 11 k = nval h g L k := hL0.trans i6
    have cw' := c_words Lk (k := k) (by omega) i1 (by rw [M.2.1 5 k (by omega)]; exact i2) (by rw [M.2.1 9 k (by omega)]; exact i5) i7
    rw [hL', wds_nv] at cw'
    have h7 : hI hk 7 k = nI (g 2 k) := by rw [M.2.1 7 k (by omega)]; exact i3
    have h8 : hI hk 8 k = hI h 8 k := by rw [M.2.1 8 k (by omega)]; exact i4
    have h5 : hI hk 5 k = nI (g 0 k) := by rw [M.2.1 5 k (by omega)]; exact i2
    have sh : nI (g 2 k) >>> ((2 : Int32) &&& 31) = nI (g 2 k / 4) := q_shr (k := 2) (by omega) (by omega)
    have W2 := wds_le (g 0 k) (g 3 k) (hL h 11 k)
    have step : mw h g L (hI hE 20) (k + 1) = if wds (g 0 k) (g 3 k) (hL h 11 k) = 1 then up8 (mw h g L (hI hE 20) k) (g 2 k / 4) (w1 h g L k) else if wds (g 0 k) (g 3 k) (hL h 11 k) = 2 then up8 (up8 (mw h g L (hI hE 20) k) (g 2 k / 4) (wu h g L k)) (g 2 k / 4 + 1) (wl h g L k) else mw h g L (hI hE 20) k := rfl
    have nf : wds (g 0 k) (g 3 k) (hL h 11 k) ≠ 0 → tForm.getD (g 0 k) 0 ≠ 9 ∧ tForm.getD (g 0 k) 0 ≠ 10 := fun w => ⟨fun z => w (by unfold wds; rw [if_pos (Or.inl z)]), fun z => w (by unfold wds; rw [if_pos (Or.inr z)])⟩
    rw [f_X1_emit_L2, y_gs, if_pos (lc_S4 Lk), M.2.1 4 1 (by omega), h1, if_neg (show ¬ nI n ≤ nI k from fun q => by have := (q_le (by omega) (by omega)).mp q; omega), cw', y_bds, lc_R4_4 Lk, y_gs, if_pos (lc_S7 Lk), lc_N7 Lk, y_gb, if_pos (q_ib (by omega) (by omega)), q_cl (by omega), h7, sh, y_lt]
    unfold f_X1_emit_L78 f_X1_emit_L61 f_X1_emit_L78
    generalize hW : wds (g 0 k) (g 3 k) (hL h 11 k) = W at *
    have W012 : W = 0 ∨ W = 1 ∨ W = 2 := by omega
    rcases W012 with w | w | w
    · rw [w, if_pos (show nI 0 ≤ 0 from by decide), y_lt, q_add1]
      refine ih (k + 1) f hk (by omega) (by omega) ⟨M.1, M.2.1, fun j => ?_⟩
      rw [step, w, if_neg (by decide), if_neg (by decide)]; exact M.2.2 j
    · have a8 := i11 (by omega)
      obtain ⟨n9, n10'⟩ := nf (by omega)
      have ec := c_encode Lk (k := k) (by omega) i1 h5 h8 hL' i8 i9 n9 n10'
      have s1 : nI (g 2 k / 4) + nI 1 = nI (g 2 k / 4 + 1) := q_add _ _
      rw [w, if_neg (show ¬ nI 1 ≤ 0 from by decide), s1, if_neg (show ¬ (2048 : Int32) < nI (g 2 k / 4 + 1) from fun q => by have := (q_lt (a := 2048) (by omega) (by omega)).mp q; omega), if_pos (show ¬ nI 1 = (2 : Int32) from by decide), ec, y_bds, y_gs, if_pos (lc_S20 Lk), lc_N20 Lk, y_gb, if_pos (q_ib (by omega) (by omega)), q_cl (by omega), y_lt, if_pos (show ¬ nI 1 = (2 : Int32) from by decide), y_lt, q_add1]
      refine ih (k + 1) f _ (by omega) (by omega) ⟨M.1, fun p j q => by rw [x_ne (by omega)]; exact M.2.1 p j q, fun j => ?_⟩
      rw [step, w, if_pos rfl, x_hI_sI]
      unfold up8
      by_cases c : j = g 2 k / 4
      · rw [if_pos ⟨rfl, c⟩, if_pos c]
      · rw [if_neg (fun q => c q.2), if_neg c]; exact M.2.2 j
    · have a8 := i11 (by omega)
      obtain ⟨n9, n10'⟩ := nf (by omega)
      obtain ⟨eu, _⟩ := c_upper (h := h) (g := g) (L := L) Lk (k := k) (by omega) h8 hL'
      have L3 : LC (sI hk 20 (g 2 k / 4) (wu h g L k)) := Lk
      obtain ⟨_, el⟩ := c_upper (h := h) (g := g) (L := L) L3 (k := k) (by omega) (by rw [x_ne (by omega)]; exact h8) (by rw [x_hL_sI]; exact hL')
      have s1 : nI (g 2 k / 4) + nI 2 = nI (g 2 k / 4 + 2) := q_add _ _
      have s2 : nI (g 2 k / 4) + (1 : Int32) = nI (g 2 k / 4 + 1) := q_add1 _
      rw [w, if_neg (show ¬ nI 2 ≤ 0 from by decide), s1, if_neg (show ¬ (2048 : Int32) < nI (g 2 k / 4 + 2) from fun q => by have := (q_lt (a := 2048) (by omega) (by omega)).mp q; omega), if_neg (show ¬ ¬ nI 2 = (2 : Int32) from fun q => q rfl), eu, y_bds, y_gs, if_pos (lc_S20 Lk), lc_N20 Lk, y_gb, if_pos (q_ib (by omega) (by omega)), q_cl (by omega), y_lt, if_neg (show ¬ ¬ nI 2 = (2 : Int32) from fun q => q rfl), y_gs, if_pos (lc_S4 L3), el, y_bds, y_gs, if_pos (lc_S20 L3), lc_N20 L3, s2, y_gb, if_pos (q_ib (by omega) (by omega)), q_cl (by omega), y_lt, y_lt, q_add1]
      refine ih (k + 1) f _ (by omega) (by omega) ⟨M.1, fun p j q => by rw [x_ne (by omega), x_ne (by omega)]; exact M.2.1 p j q, fun j => ?_⟩
      rw [step, w, if_neg (by decide), if_pos rfl, x_hI_sI, x_hI_sI]
      unfold up8
      by_cases c : j = g 2 k / 4 + 1
      · rw [if_pos ⟨rfl, c⟩, if_pos c]
      · rw [if_neg (fun q => c q.2), if_neg c]
        by_cases c' : j = g 2 k / 4
        · rw [if_pos ⟨rfl, c'⟩, if_pos c']
        · rw [if_neg (fun q => c' q.2), if_neg c']; exact M.2.2 j
/-- what the reference's writing needs of its parts -/
def EJ (mq h : AH) (g : Gh) (L k : Nat) : Prop := g 7 (k + 1) = g 7 k + wds (g 0 k) (g 3 k) (hL h 11 k) ∧ g 2 k % 4 = 0 ∧ (wds (g 0 k) (g 3 k) (hL h 11 k) ≠ 0 → g 2 k + 4 * wds (g 0 k) (g 3 k) (hL h 11 k) ≤ 8192) ∧
  (wds (g 0 k) (g 3 k) (hL h 11 k) = 1 → hI mq 233 (g 7 k) = nI (g 2 k) ∧ hI mq 234 (g 7 k) = w1 h g L k) ∧
  (wds (g 0 k) (g 3 k) (hL h 11 k) = 2 → hI mq 233 (g 7 k) = nI (g 2 k) ∧ hI mq 233 (g 7 k + 1) = nI (g 2 k + 4) ∧ hI mq 234 (g 7 k) = wu h g L k ∧ hI mq 234 (g 7 k + 1) = wl h g L k)
theorem s65 {mk : AH} (Lk : LM mk) {p P a f : Nat} {w : Int32} (hp : p < P) (hP : P ≤ 700) (ha : a < 8192) (h13 : hI mk 226 13 = nI P) (h233 : hI mk 233 p = nI a) (h234 : hI mk 234 p = w) : f_X11_assemble_L65 (f + 1) mk 226 (nI p) = f_X11_assemble_L65 f (sI mk 241 (a / 4) w) 226 (nI (p + 1)) := by
  have dv4 : nI a / (4 : Int32) = nI (a / 4) := q_div (d := 4) (by omega) (by omega)
  rw [f_X11_assemble_L65, y_gs, if_pos (lm_S226 Lk), h13, if_neg (show ¬ nI P ≤ nI p from fun q => by have := (q_le (by omega) (by omega)).mp q; omega), lm_R14 Lk, y_gs, if_pos (lm_S233 Lk), lm_N233 Lk, y_gb, if_pos (q_ib (by omega) (by omega)), lm_R15 Lk, y_gs, if_pos (lm_S234 Lk), lm_N234 Lk, y_gb, if_pos (q_ib (by omega) (by omega)), lm_R23 Lk, y_gs, if_pos (lm_S241 Lk), lm_N241 Lk, q_cl (by omega), h233, h234, dv4, y_gb, if_pos (q_ib (by omega) (by omega)), q_cl (by omega), y_lt, q_add1, y_lt]
theorem r_flat {mq h : AH} {g : Gh} {L n : Nat} (Lm : LM mq) (hP : g 7 n ≤ 375) (h13 : hI mq 226 13 = nI (g 7 n)) (mono : ∀ k, k ≤ n → g 7 k ≤ g 7 n) (parts : ∀ k, k < n → EJ mq h g L k) : ∀ r k f (mk : AH), k + r = n → g 7 n < f + g 7 k → EM mq mk h g L k 241 → ∃ m', f_X11_assemble_L65 f mk 226 (nI (g 7 k)) = f_X11_assemble_L100 FU m' 226 (0 : Int32) ∧ EM mq m' h g L n 241 := by
  intro r
  induction r with
  | zero =>
    intro k f mk e hf M
    have : k = n := by omega
    subst this
    obtain ⟨f, rfl⟩ : ∃ q, f = q + 1 := ⟨f - 1, by omega⟩
    have Lk : LM mk := LM_2 Lm M.1
    refine ⟨mk, ?_, M⟩
    rw [f_X11_assemble_L65, y_gs, if_pos (lm_S226 Lk), M.2.1 _ _ (by omega), h13, if_pos (Int32.le_refl _), y_lt]
  | succ r ih =>
    intro k f mk e hf M
    obtain ⟨j1, j2, j3, j4, j5⟩ := parts k (by omega)
    have Lk : LM mk := LM_2 Lm M.1
    have h13k : hI mk 226 13 = nI (g 7 n) := by rw [M.2.1 _ _ (by omega)]; exact h13
    have W2 := wds_le (g 0 k) (g 3 k) (hL h 11 k)
    have mo := mono (k + 1) (by omega)
    have step : mw h g L (hI mq 241) (k + 1) = if wds (g 0 k) (g 3 k) (hL h 11 k) = 1 then up8 (mw h g L (hI mq 241) k) (g 2 k / 4) (w1 h g L k) else if wds (g 0 k) (g 3 k) (hL h 11 k) = 2 then up8 (up8 (mw h g L (hI mq 241) k) (g 2 k / 4) (wu h g L k)) (g 2 k / 4 + 1) (wl h g L k) else mw h g L (hI mq 241) k := rfl
    generalize hW : wds (g 0 k) (g 3 k) (hL h 11 k) = W at *
    have W012 : W = 0 ∨ W = 1 ∨ W = 2 := by omega
    rcases W012 with w | w | w
    · have e7 : g 7 (k + 1) = g 7 k := by omega
      have := ih (k + 1) f mk (by omega) (by omega) ⟨M.1, M.2.1, fun j => by rw [step, w, if_neg (by decide), if_neg (by decide)]; exact M.2.2 j⟩
      rw [e7] at this; exact this
    · obtain ⟨f, rfl⟩ : ∃ q, f = q + 1 := ⟨f - 1, by omega⟩
      obtain ⟨u1, u2⟩ := j4 w
      have a8 := j3 (by omega)
      have e7 : g 7 (k + 1) = g 7 k + 1 := by omega
      have := ih (k + 1) f (sI mk 241 (g 2 k / 4) (w1 h g L k)) (by omega) (by omega) ⟨M.1, fun p j q => by rw [x_ne (by omega)]; exact M.2.1 p j q, fun j => by
        rw [step, w, if_pos rfl, x_hI_sI]
        unfold up8
        by_cases c : j = g 2 k / 4
        · rw [if_pos ⟨rfl, c⟩, if_pos c]
        · rw [if_neg (fun q => c q.2), if_neg c]; exact M.2.2 j⟩
      rw [e7] at this
      rw [s65 Lk (P := g 7 n) (a := g 2 k) (by omega) (by omega) (by omega) h13k ((M.2.1 _ _ (by omega)).trans u1) ((M.2.1 _ _ (by omega)).trans u2)]; exact this
    · obtain ⟨f, rfl⟩ : ∃ q, f = q + 1 + 1 := ⟨f - 2, by omega⟩
      obtain ⟨u1, u2, u3, u4⟩ := j5 w
      have a8 := j3 (by omega)
      have e7 : g 7 (k + 1) = g 7 k + 1 + 1 := by omega
      have e4 : (g 2 k + 4) / 4 = g 2 k / 4 + 1 := by omega
      have := ih (k + 1) f (sI (sI mk 241 (g 2 k / 4) (wu h g L k)) 241 (g 2 k / 4 + 1) (wl h g L k)) (by omega) (by omega) ⟨M.1, fun p j q => by rw [x_ne (by omega), x_ne (by omega)]; exact M.2.1 p j q, fun j => by
        rw [step, w, if_neg (by decide), if_pos rfl, x_hI_sI, x_hI_sI]
        unfold up8
        by_cases c : j = g 2 k / 4 + 1
        · rw [if_pos ⟨rfl, c⟩, if_pos c]
        · rw [if_neg (fun q => c q.2), if_neg c]
          by_cases c' : j = g 2 k / 4
          · rw [if_pos ⟨rfl, c'⟩, if_pos c']
          · rw [if_neg (fun q => c' q.2), if_neg c']; exact M.2.2 j⟩
      rw [e7] at this
      rw [s65 Lk (P := g 7 n) (a := g 2 k) (by omega) (by omega) (by omega) h13k ((M.2.1 _ _ (by omega)).trans u1) ((M.2.1 _ _ (by omega)).trans u3), s65 (show LM (sI mk 241 (g 2 k / 4) (wu h g L k)) from Lk) (P := g 7 n) (a := g 2 k + 4) (by omega) (by omega) (by omega) (by rw [x_ne (by omega)]; exact h13k) ((x_ne (by omega)).trans ((M.2.1 _ _ (by omega)).trans u2)) ((x_ne (by omega)).trans ((M.2.1 _ _ (by omega)).trans u4)), e4]; exact this
