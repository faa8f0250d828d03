/-! All labels resolved in the reference. -/
/-- an item's words at the end -/
def FP (h mk : AH) (g : Gh) (L j : Nat) : Prop :=
  (wds (g 0 j) (g 3 j) (hL h 11 j) = 1 → (g 3 j = 2 → lfi h (hL h 11 j) L ≠ none) → hI mk 234 (g 7 j) = if g 3 j = 0 then hI h 8 j else hI h 8 j ||| putV (hwI (g 0 j)) (nval h g L j).toInt32) ∧
  (wds (g 0 j) (g 3 j) (hL h 11 j) = 2 → (g 3 j = 2 → lfi h (hL h 11 j) L ≠ none) → hI mk 234 (g 7 j) = ((55 : Int32) ||| (hI h 8 j &&& (3968 : Int32))) ||| putV 7 (nval h g L j).toInt32 ∧ hI mk 234 (g 7 j + 1) = (((19 : Int32) ||| (hI h 8 j &&& (3968 : Int32))) ||| ((hI h 8 j &&& (3968 : Int32)) <<< ((8 : Int32) &&& 31))) ||| putV 8 (nval h g L j).toInt32)
def RK (h m mk : AH) (g : Gh) (L k : Nat) : Prop :=
  mk.2 = m.2 ∧ (∀ o j, ¬ (o = 226 ∧ (j = 3 ∨ j = 4)) → ¬ (o = 234 ∧ j < g 7 k) → hI mk o j = hI m o j) ∧ (∀ j, j < k → FP h mk g L j)
theorem s73_no {mk : AH} (Lk : LM mk) {p P f : Nat} (hp : p < P) (hP : P ≤ 700) (h13 : hI mk 226 13 = nI P) (h235 : hI mk 235 p = (-1 : Int32)) : f_X11_readAll_L73 (f + 1) mk 226 (1 : Int32) (nI p) = f_X11_readAll_L73 f mk 226 (1 : Int32) (nI (p + 1)) := by
  rw [f_X11_readAll_L73, y_gs, if_pos (lm_S226 Lk), h13, if_neg (show ¬ nI P ≤ nI p from fun q => by have := (q_le (by omega) (by omega)).mp q; omega), if_neg (show ¬ (1 : Int32) = 0 from by decide), lm_R16 Lk, y_gs, if_pos (lm_S235 Lk), lm_N235 Lk, y_gb, if_pos (q_ib (by omega) (by omega)), q_cl (by omega), h235, if_pos rfl]
  unfold f_X11_readAll_L100
  rw [q_add1, y_lt]
theorem s73_yes {mk m' : AH} (Lk : LM mk) {p P f hw : Nat} (hp : p < P) (hP : P ≤ 700) (h13 : hI mk 226 13 = nI P) (hh : hw ≤ 8) (h235 : hI mk 235 p = nI hw) (rs : f_X11_resolve mk 226 (nI p) = some m') : f_X11_readAll_L73 (f + 1) mk 226 (1 : Int32) (nI p) = f_X11_readAll_L73 f m' 226 (1 : Int32) (nI (p + 1)) := by
  rw [f_X11_readAll_L73, y_gs, if_pos (lm_S226 Lk), h13, if_neg (show ¬ nI P ≤ nI p from fun q => by have := (q_le (by omega) (by omega)).mp q; omega), if_neg (show ¬ (1 : Int32) = 0 from by decide), lm_R16 Lk, y_gs, if_pos (lm_S235 Lk), lm_N235 Lk, y_gb, if_pos (q_ib (by omega) (by omega)), q_cl (by omega), h235, if_neg (k_n1 (by omega)), rs, y_bds]
  unfold f_X11_readAll_L100
  rw [q_add1, y_lt]
theorem hw_t0 : ∀ op, op < 61 → (tForm.getD op 0 = 0 ∨ tForm.getD op 0 = 7 ∨ tForm.getD op 0 = 9 ∨ tForm.getD op 0 = 10) ∨ (hwI op ≤ 6 ∧ frm (hwI op) = tForm.getD op 0 ∧ (((hwI op = 2 ∨ hwI op = 4) ∧ (tForm.getD op 0 = 4 ∨ tForm.getD op 0 = 6)) ∨ (¬ (hwI op = 2 ∨ hwI op = 4) ∧ ¬ (tForm.getD op 0 = 4 ∨ tForm.getD op 0 = 6)))) := by decide +kernel
theorem hw_t (op : Nat) (h : op < 61) (h0 : tForm.getD op 0 ≠ 0) (h7 : tForm.getD op 0 ≠ 7) (h9 : tForm.getD op 0 ≠ 9) (h10 : tForm.getD op 0 ≠ 10) : hwI op ≤ 6 ∧ frm (hwI op) = tForm.getD op 0 ∧ ((hwI op = 2 ∨ hwI op = 4) ↔ (tForm.getD op 0 = 4 ∨ tForm.getD op 0 = 6)) := by
  rcases hw_t0 op h with q | ⟨q1, q2, q3⟩
  · omega
  · exact ⟨q1, q2, by omega⟩
theorem mn_min {f g : Nat → Nat} : ∀ n, mn (fun k => min (f k) (g k)) n = min (mn f n) (mn g n)
  | 0 => (Nat.min_self _).symm
  | n + 1 => by
    show min (mn (fun k => min (f k) (g k)) n) (min (f n) (g n)) = min (min (mn f n) (f n)) (min (mn g n) (g n))
    rw [mn_min n]; omega
theorem KB_no {h : AH} {g : Gh} {L k : Nat} (e : g 3 k ≠ 2) : KB h g L k = 100000 ∧ nval h g L k = hL h 11 k := by
  unfold KB nval; rw [if_neg e, if_neg e]; exact ⟨rfl, rfl⟩
theorem FP_fr {h a b : AH} {g : Gh} {L j : Nat} (F : FP h a g L j) (e0 : wds (g 0 j) (g 3 j) (hL h 11 j) = 1 ∨ wds (g 0 j) (g 3 j) (hL h 11 j) = 2 → hI b 234 (g 7 j) = hI a 234 (g 7 j)) (e1 : wds (g 0 j) (g 3 j) (hL h 11 j) = 2 → hI b 234 (g 7 j + 1) = hI a 234 (g 7 j + 1)) : FP h b g L j := by
  refine ⟨fun w q => ?_, fun w q => ?_⟩
  · rw [e0 (Or.inl w)]; exact F.1 w q
  · rw [e0 (Or.inr w), e1 w]; exact F.2 w q
/-- fit of a label's address for li -/
theorem fit7 {a : Nat} (ha : a ≤ 20000) : fitB 7 (nI a).toInt64 = true := by
  show rngB (-2147483648) 4294967295 (nI a).toInt64 = true
  unfold rngB
  rw [decide_eq_true_iff]
  have t : (nI a).toInt64.toInt = (a : Int) := by rw [Int32.toInt_toInt64]; exact q_toInt (by omega)
  constructor
  · intro q
    have := Int64.lt_iff_toInt_lt.mp q
    rw [t] at this
    have h0 : (-2147483648 : Int64).toInt = -2147483648 := by decide
    omega
  · intro q
    have := Int64.lt_iff_toInt_lt.mp q
    rw [t] at this
    have h0 : (4294967295 : Int64).toInt = 4294967295 := by decide
    omega
theorem r_item {h m mk : AH} {g : Gh} {n L a k x f : Nat} (A : AC h m n L a g) (L2 : LM m) (R : RK h m mk g L k) (hL' : L ≤ 750) (hk : k < n) (hP : g 7 n ≤ 700) (F : FK mk x) (hf : wds (g 0 k) (g 3 k) (hL h 11 k) < f) :
    ∃ m' f', f' + wds (g 0 k) (g 3 k) (hL h 11 k) = f ∧ f_X11_readAll_L73 f mk 226 (1 : Int32) (nI (g 7 k)) = f_X11_readAll_L73 f' m' 226 (1 : Int32) (nI (g 7 (k + 1))) ∧ RK h m m' g L (k + 1) ∧ FK m' (min x (KB h g L k)) := by
  obtain ⟨r1, r2, r3⟩ := R
  have Lk : LM mk := LM_2 L2 r1
  obtain ⟨⟨i1, i2⟩, i3, i4, ⟨i5, i6, i7, i8, i9, i10, i11⟩, i12, p1, p2⟩ := A.im k hk
  have lim := g7_le A (n - (k + 1)) (k + 1) (by omega)
  have h13 : hI mk 226 13 = nI (g 7 n) := by rw [r2 _ _ (by omega) (by omega)]; exact A.it.2.1
  have h10 : hI mk 226 10 = nI L := by rw [r2 _ _ (by omega) (by omega)]; exact A.lb.2
  have hLk : ∀ o j, hL mk o j = hL m o j := fun o j => by show mk.2.1 o j = m.2.1 o j; rw [r1]
  have la : ∀ j, j < L → hL mk 231 j = hL h 12 j ∧ hI mk 232 j = nI (g 6 j) := fun j hj => by
    obtain ⟨a1, a2, a3, a4, a5, a6⟩ := A.la j hj
    exact ⟨by rw [hLk, a1], by rw [r2 _ _ (by omega) (by omega)]; exact a4⟩
  have W2 := wds_le (g 0 k) (g 3 k) (hL h 11 k)
  have qf := (op_f1 (g 0 k) i1)
  have old : ∀ (m' : AH) (W : Nat), g 7 k + W = g 7 (k + 1) → (∀ o j, ¬ (o = 226 ∧ (j = 3 ∨ j = 4)) → ¬ (o = 234 ∧ g 7 k ≤ j ∧ j < g 7 k + W) → hI m' o j = hI mk o j) → m'.2 = mk.2 → FP h m' g L k → RK h m m' g L (k + 1) := fun m' W eW e1 e2 fp => by
    refine ⟨e2.trans r1, fun o j q1 q2 => ?_, fun j hj => ?_⟩
    · rw [e1 o j q1 (by omega)]; exact r2 o j q1 (by omega)
    · by_cases e : j = k
      · rw [e]; exact fp
      · obtain ⟨_, _, _, _, j12, _⟩ := A.im j (by omega)
        have jl := g7_le A (n - (j + 1)) (j + 1) (by omega)
        have jk : g 7 (j + 1) ≤ g 7 k := by
          have : ∀ d, j + 1 + d ≤ n → g 7 (j + 1) ≤ g 7 (j + 1 + d) := fun d => by
            induction d with
            | zero => intro _; exact Nat.le_refl _
            | succ d ih =>
              intro hd
              obtain ⟨_, _, _, _, d12, _⟩ := A.im (j + 1 + d) (by omega)
              have := ih (by omega)
              have e' : j + 1 + (d + 1) = j + 1 + d + 1 := by omega
              rw [e', d12]; omega
          have := this (k - (j + 1)) (by omega)
          rwa [show j + 1 + (k - (j + 1)) = k by omega] at this
        exact FP_fr (r3 j (by omega)) (fun w => e1 _ _ (by omega) (by omega)) (fun w => e1 _ _ (by omega) (by omega))
  have W012 : wds (g 0 k) (g 3 k) (hL h 11 k) = 0 ∨ wds (g 0 k) (g 3 k) (hL h 11 k) = 1 ∨ wds (g 0 k) (g 3 k) (hL h 11 k) = 2 := by omega
  rcases W012 with w | w | w
  · have f910 : tForm.getD (g 0 k) 0 = 9 ∨ tForm.getD (g 0 k) 0 = 10 := by
      by_cases z : tForm.getD (g 0 k) 0 = 9 ∨ tForm.getD (g 0 k) 0 = 10
      · exact z
      · unfold wds at w; rw [if_neg z] at w; split at w <;> omega
    have e2 : g 3 k ≠ 2 := by have := i10 f910; omega
    have e7 : g 7 (k + 1) = g 7 k := by omega
    refine ⟨mk, f, by omega, by rw [e7], old mk 0 (by omega) (fun _ _ _ _ => rfl) rfl ⟨fun q => absurd q (by omega), fun q => absurd q (by omega)⟩, ?_⟩
    rw [(KB_no e2).1, Nat.min_eq_left (FK_le F)]; exact F
  · obtain ⟨f', rfl⟩ : ∃ q, f = q + 1 := ⟨f - 1, by omega⟩
    obtain ⟨t1, t2, t3⟩ := p1 w
    have e7 : g 7 (k + 1) = g 7 k + 1 := by omega
    have n9 : tForm.getD (g 0 k) 0 ≠ 9 := fun z => by unfold wds at w; rw [if_pos (Or.inl z)] at w; omega
    have n10' : tForm.getD (g 0 k) 0 ≠ 10 := fun z => by unfold wds at w; rw [if_pos (Or.inr z)] at w; omega
    by_cases e2 : g 3 k = 2
    · obtain ⟨u1, u2, u3, u4⟩ := t2 e2
      have n0 : tForm.getD (g 0 k) 0 ≠ 0 := fun z => by have := i9.mpr (qf.2.2.2.mp z); omega
      have n7 : tForm.getD (g 0 k) 0 ≠ 7 := fun z => by
        unfold wds at w; rw [if_neg (fun q => by rcases q with q | q; exact n9 q; exact n10' q), if_pos ⟨z, fun q => by omega⟩] at w; omega
      obtain ⟨x1, x2, x3⟩ := hw_t _ i1 n0 n7 n9 n10'
      have s233 : hI mk 233 (g 7 k) = nI (g 2 k) := by rw [r2 _ _ (by omega) (by omega)]; exact t1
      have s234 : hI mk 234 (g 7 k) = hI h 8 k := by rw [r2 _ _ (by omega) (by omega)]; exact u4
      have s235 : hI mk 235 (g 7 k) = nI (hwI (g 0 k)) := by rw [r2 _ _ (by omega) (by omega)]; exact u1
      have s237 : hI mk 237 (g 7 k) = nI (g 4 k) := by rw [r2 _ _ (by omega) (by omega)]; exact u3
      obtain ⟨rs1, rs2⟩ := r_resolve (h := h) (g := g) Lk (p := g 7 k) (L := L) (by omega) hL' (by omega) h10 la s233 s234 s235 ((hLk _ _).trans u2) s237 i7 F
      cases hl : lfi h (hL h 11 k) L with
      | none =>
        obtain ⟨m', v1, v2, v3⟩ := rs1 hl
        have kb : KB h g L k = 4 * g 4 k + 2 := by unfold KB; rw [if_pos e2, hl]
        refine ⟨m', f', by omega, ?_, old m' 1 (by omega) (fun o j q1 _ => v3.2 o j q1) v3.1 ⟨fun _ q => absurd hl (q e2), fun q => absurd q (by omega)⟩, by rw [kb]; exact v2⟩
        rw [s73_yes Lk (P := g 7 n) (by omega) hP h13 (by omega) s235 v1, e7]
      | some l =>
        obtain ⟨m1, v1, v2, v3⟩ := rs2 l hl
        have ev : lv2 g l (hwI (g 0 k)) (g 2 k) = lva g l k := by
          unfold lv2 lva
          by_cases z : hwI (g 0 k) = 2 ∨ hwI (g 0 k) = 4
          · rw [if_pos z, if_pos (x3.mp z)]
          · rw [if_neg z, if_neg (fun q => z (x3.mpr q))]
        rw [ev] at v2 v3
        have kb : KB h g L k = if hwI (g 0 k) ≤ 6 ∧ fitB (frm (hwI (g 0 k))) (lva g l k).toInt64 = false then 4 * g 4 k + 3 else 100000 := by
          unfold KB; rw [if_pos e2, hl, x2]
          show (if fitB (tForm.getD (g 0 k) 0) (lva g l k).toInt64 = false then 4 * g 4 k + 3 else 100000) = _
          cases fitB (tForm.getD (g 0 k) 0) (lva g l k).toInt64
          · rw [if_pos rfl, if_pos ⟨x1, rfl⟩]
          · rw [if_neg (by decide), if_neg (fun q => absurd q.2 (by decide))]
        have nv' : (nval h g L k).toInt32 = lva g l k := by unfold nval; rw [if_pos e2, hl]; exact i3264 _
        refine ⟨_, f', by omega, ?_, old (sI m1 234 (g 7 k) (hI h 8 k ||| putV (hwI (g 0 k)) (lva g l k))) 1 (by omega) (fun o j q1 q2 => ?_) v1.1 ⟨fun _ _ => ?_, fun q => absurd q (by omega)⟩, ?_⟩
        · rw [s73_yes Lk (P := g 7 n) (by omega) hP h13 (by omega) s235 v3, e7]
        · rw [x_ne (by omega)]; exact v1.2 o j q1
        · rw [x_eq, if_neg (by omega), nv']
        · rw [kb]; exact FK_of v2 (fun j hj => x_ne (by omega))
    · obtain ⟨u1, u2⟩ := t3 e2
      have s235 : hI mk 235 (g 7 k) = (-1 : Int32) := by rw [r2 _ _ (by omega) (by omega)]; exact u1
      obtain ⟨kb, nv'⟩ := KB_no (h := h) (L := L) e2
      refine ⟨mk, f', by omega, ?_, old mk 1 (by omega) (fun _ _ _ _ => rfl) rfl ⟨fun _ _ => ?_, fun q => absurd q (by omega)⟩, ?_⟩
      · rw [s73_no Lk (P := g 7 n) (by omega) hP h13 s235, e7]
      · rw [r2 _ _ (by omega) (by omega), u2, nv']
        by_cases z : g 3 k = 0
        · rw [if_neg (fun q => by omega), if_pos z]
        · have n0 : tForm.getD (g 0 k) 0 ≠ 0 := fun t => z (i9.mpr (qf.2.2.2.mp t))
          rw [if_pos ⟨by omega, n0⟩, if_neg z]
      · rw [kb, Nat.min_eq_left (FK_le F)]; exact F
  · obtain ⟨f', rfl⟩ : ∃ q, f = q + 1 + 1 := ⟨f - 2, by omega⟩
    obtain ⟨t0, t1, t2, t3⟩ := p2 w
    have e7 : g 7 (k + 1) = g 7 k + 1 + 1 := by omega
    have f7 : tForm.getD (g 0 k) 0 = 7 := by
      by_cases t : tForm.getD (g 0 k) 0 = 7
      · exact t
      · exfalso; unfold wds at w; split at w
        · omega
        · rw [if_neg (fun q => t q.1)] at w; omega
    by_cases e2 : g 3 k = 2
    · obtain ⟨u1, u2, u3, u4, u5, u6, u7, u8⟩ := t2 e2
      have s233 : hI mk 233 (g 7 k) = nI (g 2 k) := by rw [r2 _ _ (by omega) (by omega)]; exact t0
      have s234 := (r2 234 (g 7 k) (by omega) (by omega)).trans u7
      have s235 : hI mk 235 (g 7 k) = nI 7 := by rw [r2 _ _ (by omega) (by omega)]; exact u1
      have s237 : hI mk 237 (g 7 k) = nI (g 4 k) := by rw [r2 _ _ (by omega) (by omega)]; exact u5
      have q233 : hI mk 233 (g 7 k + 1) = nI (g 2 k + 4) := by rw [r2 _ _ (by omega) (by omega)]; exact t1
      have q234 := (r2 234 (g 7 k + 1) (by omega) (by omega)).trans u8
      have q235 : hI mk 235 (g 7 k + 1) = nI 8 := by rw [r2 _ _ (by omega) (by omega)]; exact u2
      have q237 : hI mk 237 (g 7 k + 1) = nI (g 4 k) := by rw [r2 _ _ (by omega) (by omega)]; exact u6
      obtain ⟨rs1, rs2⟩ := r_resolve (h := h) (g := g) Lk (p := g 7 k) (L := L) (hw := 7) (by omega) hL' (by omega) h10 la s233 s234 s235 ((hLk _ _).trans u3) s237 i7 F
      cases hl : lfi h (hL h 11 k) L with
      | none =>
        obtain ⟨m1, v1, v2, v3⟩ := rs1 hl
        have L1' : LM m1 := LM_2 Lk v3.1
        have hL1 : ∀ o j, hL m1 o j = hL mk o j := FN_L v3
        obtain ⟨rt1, _⟩ := r_resolve (h := h) (g := g) L1' (p := g 7 k + 1) (L := L) (hw := 8) (by omega) hL' (by omega) (by rw [v3.2 _ _ (by omega)]; exact h10) (fun j hj => ⟨by rw [hL1]; exact (la j hj).1, by rw [v3.2 _ _ (by omega)]; exact (la j hj).2⟩) ((v3.2 _ _ (by omega)).trans q233) ((v3.2 _ _ (by omega)).trans q234) ((v3.2 _ _ (by omega)).trans q235) ((hL1 _ _).trans ((hLk _ _).trans u4)) ((v3.2 _ _ (by omega)).trans q237) i7 v2
        obtain ⟨m2, y1, y2, y3⟩ := rt1 hl
        have kb : KB h g L k = 4 * g 4 k + 2 := by unfold KB; rw [if_pos e2, hl]
        have F12 := FN_tr v3 y3
        refine ⟨m2, f', by omega, ?_, old m2 2 (by omega) (fun o j q1 _ => F12.2 o j q1) F12.1 ⟨fun q => absurd q (by omega), fun _ q => absurd hl (q e2)⟩, ?_⟩
        · rw [s73_yes Lk (P := g 7 n) (by omega) hP h13 (by omega) s235 v1, s73_yes L1' (P := g 7 n) (by omega) hP (by rw [v3.2 _ _ (by omega)]; exact h13) (hw := 8) (by omega) ((v3.2 _ _ (by omega)).trans q235) y1, e7]
        · rw [kb]
          rw [Nat.min_assoc, Nat.min_self] at y2; exact y2
      | some l =>
        obtain ⟨m1, v1, v2, v3⟩ := rs2 l hl
        have l1 := lfi_lt hl
        have ev : ∀ ad, lv2 g l 7 ad = nI (g 6 l) := fun ad => by unfold lv2; rw [if_neg (by omega)]; exact Int32.sub_zero _
        have ev8 : ∀ ad, lv2 g l 8 ad = nI (g 6 l) := fun ad => by unfold lv2; rw [if_neg (by omega)]; exact Int32.sub_zero _
        have eva : lva g l k = nI (g 6 l) := by unfold lva; rw [if_neg (by omega)]; exact Int32.sub_zero _
        rw [ev] at v3
        rw [if_neg (by omega), Nat.min_eq_left (FK_le F)] at v2
        have L1' : LM (sI m1 234 (g 7 k) (((55 : Int32) ||| (hI h 8 k &&& (3968 : Int32))) ||| putV 7 (nI (g 6 l)))) := LM_2 Lk v1.1
        have z1 : ∀ o j, ¬ (o = 226 ∧ (j = 3 ∨ j = 4)) → ¬ (o = 234 ∧ j = g 7 k) → hI (sI m1 234 (g 7 k) (((55 : Int32) ||| (hI h 8 k &&& (3968 : Int32))) ||| putV 7 (nI (g 6 l)))) o j = hI mk o j := fun o j q1 q2 => by rw [x_ne (by omega)]; exact v1.2 o j q1
        have z2 : ∀ o j, hL (sI m1 234 (g 7 k) (((55 : Int32) ||| (hI h 8 k &&& (3968 : Int32))) ||| putV 7 (nI (g 6 l)))) o j = hL mk o j := fun o j => by rw [x_hL_sI]; exact FN_L v1 o j
        have F1 : FK (sI m1 234 (g 7 k) (((55 : Int32) ||| (hI h 8 k &&& (3968 : Int32))) ||| putV 7 (nI (g 6 l)))) x := FK_of v2 (fun j hj => x_ne (by omega))
        generalize hm3 : sI m1 234 (g 7 k) (((55 : Int32) ||| (hI h 8 k &&& (3968 : Int32))) ||| putV 7 (nI (g 6 l))) = m3 at *
        have m3w : hI m3 234 (g 7 k) = ((55 : Int32) ||| (hI h 8 k &&& (3968 : Int32))) ||| putV 7 (nI (g 6 l)) := by rw [← hm3, x_eq]
        have m32 : m3.2 = mk.2 := by rw [← hm3]; exact v1.1
        obtain ⟨_, rt2⟩ := r_resolve (h := h) (g := g) L1' (p := g 7 k + 1) (L := L) (hw := 8) (by omega) hL' (by omega) (by rw [z1 _ _ (by omega) (by omega)]; exact h10) (fun j hj => ⟨by rw [z2]; exact (la j hj).1, by rw [z1 _ _ (by omega) (by omega)]; exact (la j hj).2⟩) ((z1 _ _ (by omega) (by omega)).trans q233) ((z1 _ _ (by omega) (by omega)).trans q234) ((z1 _ _ (by omega) (by omega)).trans q235) ((z2 _ _).trans ((hLk _ _).trans u4)) ((z1 _ _ (by omega) (by omega)).trans q237) i7 F1
        obtain ⟨m4, y1, y2, y3⟩ := rt2 l hl
        rw [ev8] at y3
        rw [if_neg (by omega), Nat.min_eq_left (FK_le F)] at y2
        have kb : KB h g L k = 100000 := by
          unfold KB; rw [if_pos e2, hl]
          show (if fitB (tForm.getD (g 0 k) 0) (lva g l k).toInt64 = false then 4 * g 4 k + 3 else 100000) = _
          rw [f7, eva, fit7 (A.la l l1).2.2.2.2.2, if_neg (by decide)]
        have nv' : (nval h g L k).toInt32 = nI (g 6 l) := by unfold nval; rw [if_pos e2, hl, ← eva]; exact i3264 _
        refine ⟨_, f', by omega, ?_, old (sI m4 234 (g 7 k + 1) ((((19 : Int32) ||| (hI h 8 k &&& (3968 : Int32))) ||| ((hI h 8 k &&& (3968 : Int32)) <<< ((8 : Int32) &&& 31))) ||| putV 8 (nI (g 6 l)))) 2 (by omega) (fun o j q1 q2 => ?_) (y1.1.trans m32) ⟨fun q => absurd q (by omega), fun _ _ => ⟨?_, ?_⟩⟩, ?_⟩
        · rw [s73_yes Lk (P := g 7 n) (by omega) hP h13 (by omega) s235 v3, s73_yes L1' (P := g 7 n) (by omega) hP (by rw [z1 _ _ (by omega) (by omega)]; exact h13) (hw := 8) (by omega) ((z1 _ _ (by omega) (by omega)).trans q235) y3, e7]
        · rw [x_ne (by omega), y1.2 o j q1]; exact z1 o j q1 (by omega)
        · rw [x_ne (by omega), y1.2 _ _ (by omega), m3w, nv']
        · rw [x_eq, nv']
        · rw [kb, Nat.min_eq_left (FK_le F)]; exact FK_of y2 (fun j hj => x_ne (by omega))
    · obtain ⟨u1, u2, u3, u4⟩ := t3 e2
      have s235 : hI mk 235 (g 7 k) = (-1 : Int32) := by rw [r2 _ _ (by omega) (by omega)]; exact u1
      have q235 : hI mk 235 (g 7 k + 1) = (-1 : Int32) := by rw [r2 _ _ (by omega) (by omega)]; exact u2
      obtain ⟨kb, nv'⟩ := KB_no (h := h) (L := L) e2
      refine ⟨mk, f', by omega, ?_, old mk 2 (by omega) (fun _ _ _ _ => rfl) rfl ⟨fun q => absurd q (by omega), fun _ _ => ⟨?_, ?_⟩⟩, ?_⟩
      · rw [s73_no Lk (P := g 7 n) (by omega) hP h13 s235, s73_no Lk (P := g 7 n) (by omega) hP h13 q235, e7]
      · rw [r2 _ _ (by omega) (by omega), u3, nv']
      · rw [r2 _ _ (by omega) (by omega), u4, nv']
      · rw [kb, Nat.min_eq_left (FK_le F)]; exact F
theorem r_items {h m : AH} {g : Gh} {n L a : Nat} (A : AC h m n L a g) (L2 : LM m) (hL' : L ≤ 750) (hP : g 7 n ≤ 700) : ∀ r k f x (mk : AH), k + r = n → g 7 n < f + g 7 k → RK h m mk g L k → FK mk x → ∃ m', f_X11_readAll_L73 f mk 226 (1 : Int32) (nI (g 7 k)) = some m' ∧ RK h m m' g L n ∧ FK m' (min x (mn (fun i => KB h g L (k + i)) r)) := by
  intro r
  induction r with
  | zero =>
    intro k f x mk e hf R F
    have : k = n := by omega
    subst this
    obtain ⟨f, rfl⟩ : ∃ q, f = q + 1 := ⟨f - 1, by omega⟩
    have Lk : LM mk := LM_2 L2 R.1
    refine ⟨mk, ?_, R, ?_⟩
    · rw [f_X11_readAll_L73, y_gs, if_pos (lm_S226 Lk), R.2.1 _ _ (by omega) (by omega), A.it.2.1, if_pos (Int32.le_refl _)]
    · show FK mk (min x 100000); rw [Nat.min_eq_left (FK_le F)]; exact F
  | succ r ih =>
    intro k f x mk e hf R F
    obtain ⟨_, _, _, _, i12, _⟩ := A.im k (by omega)
    have lim := g7_le A (n - (k + 1)) (k + 1) (by omega)
    obtain ⟨m', f', w1, w2, w3, w4⟩ := r_item A L2 R hL' (by omega) hP F (f := f) (by omega)
    obtain ⟨m2, y1, y2, y3⟩ := ih (k + 1) f' _ m' (by omega) (by omega) w3 w4
    refine ⟨m2, by rw [w2, y1], y2, ?_⟩
    have sh : ∀ r k, mn (fun i => KB h g L (k + i)) (r + 1) = min (KB h g L k) (mn (fun i => KB h g L (k + 1 + i)) r) := fun r => by
      induction r with
      | zero => intro k; show min 100000 (KB h g L (k + 0)) = min (KB h g L k) 100000; rw [Nat.min_comm]; rfl
      | succ r ih' =>
        intro k
        show min (mn (fun i => KB h g L (k + i)) (r + 1)) (KB h g L (k + (r + 1))) = min (KB h g L k) (min (mn (fun i => KB h g L (k + 1 + i)) r) (KB h g L (k + 1 + r)))
        rw [ih' k, show k + (r + 1) = k + 1 + r by omega, Nat.min_assoc]
    rw [sh r k, ← Nat.min_assoc]; exact y3
theorem r_L71 {h m : AH} {g : Gh} {n L a : Nat} (A : AC h m n L a g) (L2 : LM m) (hL' : L ≤ 750) (hP : g 7 n ≤ 375) (F : FK m (KX h g n L)) : ∃ m', f_X11_readAll_L71 m 226 (1 : Int32) = some m' ∧ RK h m m' g L n ∧ FK m' (min (mn (DL h g) L) (mn (KI h g L) n)) := by
  have g0 := A.g0
  obtain ⟨m', y1, y2, y3⟩ := r_items A L2 hL' (by omega) n 0 FU _ m (by omega) (by rw [g0]; exact FU_gt (by omega)) ⟨rfl, fun _ _ _ _ => rfl, fun j hj => absurd hj (by omega)⟩ F
  rw [g0] at y1
  refine ⟨m', ?_, y2, ?_⟩
  · unfold f_X11_readAll_L71; rw [y_lt]; exact y1
  · have e1 : mn (fun i => KB h g L (0 + i)) n = mn (KB h g L) n := mn_congr n (fun k _ => by rw [Nat.zero_add])
    have e2 : mn (KI h g L) n = min (mn (KA h g) n) (mn (KB h g L) n) := mn_min n
    rw [e1] at y3
    unfold KX at y3
    rw [e2, ← Nat.min_assoc]; exact y3
theorem r_L71_0 {m : AH} (L2 : LM m) : f_X11_readAll_L71 m 226 (0 : Int32) = some m := by
  unfold f_X11_readAll_L71
  obtain ⟨f, hf⟩ : ∃ f, FU = f + 1 := ⟨4294967295, rfl⟩
  rw [y_lt, hf, f_X11_readAll_L73, y_gs, if_pos (lm_S226 L2), if_pos rfl]
  split <;> rfl
