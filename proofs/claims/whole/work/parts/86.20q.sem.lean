/-! Stores. -/
def eP (e : Ex) (c n A B : Nat) : Ex := fun F i => if F = 2 ∧ i = c then n + 1 else if F = 3 ∧ i = 16 * c + n then A else if F = 4 ∧ i = 16 * c + n then B else e F i
theorem push_both {h m : AH} {s : St} {e : Ex} {b c A B : Nat} {D : Int32} (R : Rel h m s e b) (c16 : c < 16) (hn : e 2 c < N s 0 1) (hA : A < 2048) (hB : B < 16) (hD : D &&& (BB B ^^^ (-1 : Int32)) = 0) :
    ∃ h', f_X7_add h (36 + 12 * c) (nI (4 * A)) (nI B) D = some h' ∧ Rel h' (sI (sI (sI (sI m 249 (16 * c + e 2 c) (nI (4 * A))) 250 (16 * c + e 2 c) (nI B)) 251 (16 * c + e 2 c) D) 248 c (nI (e 2 c + 1))) s (eP e c (e 2 c) A B) b ∧ h'.2 = h.2 ∧ (∀ o k, o ≠ 36 + 12 * c → o ≠ 37 + 12 * c → hI h' o k = hI h o k) := by
  have lim := Rel_lim R
  have L := RC_L R.1.1
  have X := R.2.2.2.2
  obtain ⟨u1, ⟨u2, u3, u4⟩, ⟨u5, u6, u7⟩, ⟨u8, u9, u10, u11⟩, u12, ⟨u13, u14, u15⟩, u16, u17, u18⟩ := X.1 c c16
  generalize hnn : e 2 c = n at *
  have cls : f_X7_add h (36 + 12 * c) (nI (4 * A)) (nI B) D = some (sI (sI (sI (sI h (37 + 12 * c) (3 * n) (nI (4 * A))) (37 + 12 * c) (3 * n + 1) (nI B)) (37 + 12 * c) (3 * n + 2) D) (36 + 12 * c) 1 (nI (n + 1))) := by
    unfold f_X7_add
    have L1 : LC (sI h (37 + 12 * c) (3 * n) (nI (4 * A))) := L
    have L2 : LC (sI (sI h (37 + 12 * c) (3 * n) (nI (4 * A))) (37 + 12 * c) (3 * n + 1) (nI B)) := L
    have k0 : nI n * (3 : Int32) + (0 : Int32) = nI (3 * n) := by
      rw [show (3 : Int32) = nI 3 from rfl, show (0 : Int32) = nI 0 from rfl, q_mul, q_add]; congr 1; omega
    have k1 : nI n * (3 : Int32) + (1 : Int32) = nI (3 * n + 1) := by
      rw [show (3 : Int32) = nI 3 from rfl, show (1 : Int32) = nI 1 from rfl, q_mul, q_add]; congr 1; omega
    have k2 : nI n * (3 : Int32) + (2 : Int32) = nI (3 * n + 2) := by
      rw [show (3 : Int32) = nI 3 from rfl, show (2 : Int32) = nI 2 from rfl, q_mul, q_add]; congr 1; omega
    rw [y_gs, if_pos (lk_S36 L c16), lk_R36_0 L c16, y_gs, if_pos (lk_S37 L c16), u8, k0, lk_N37 L c16, y_gb, if_pos (q_ib (by omega) (by omega)), y_lt, q_cl (show 3 * n < 2 ^ 31 by omega), lk_R36_0 L1 c16, y_gs, if_pos (lk_S37 L1 c16), x_ne (by omega), u8, k1, lk_N37 L1 c16, y_gb, if_pos (q_ib (by omega) (by omega)), y_lt, q_cl (show 3 * n + 1 < 2 ^ 31 by omega), lk_R36_0 L2 c16, y_gs, if_pos (lk_S37 L2 c16), x_ne (by omega), x_ne (by omega), u8, k2, lk_N37 L2 c16, y_gb, if_pos (q_ib (by omega) (by omega)), y_lt, q_cl (show 3 * n + 2 < 2 ^ 31 by omega), y_lt, x_ne (by omega), x_ne (by omega), x_ne (by omega), u8, show (1 : Int32) = nI 1 from rfl, q_add]
  have ch : ∀ o k, o ≠ 36 + 12 * c → o ≠ 37 + 12 * c → hI (sI (sI (sI (sI h (37 + 12 * c) (3 * n) (nI (4 * A))) (37 + 12 * c) (3 * n + 1) (nI B)) (37 + 12 * c) (3 * n + 2) D) (36 + 12 * c) 1 (nI (n + 1))) o k = hI h o k := by
    intro o k g1 g2
    rw [x_ne (by omega), x_ne (by omega), x_ne (by omega), x_ne (by omega)]
  have cm : ∀ o k, o ≠ 248 → o ≠ 249 → o ≠ 250 → o ≠ 251 → hI (sI (sI (sI (sI m 249 (16 * c + n) (nI (4 * A))) 250 (16 * c + n) (nI B)) 251 (16 * c + n) D) 248 c (nI (n + 1))) o k = hI m o k := by
    intro o k g1 g2 g3 g4
    rw [x_ne (by omega), x_ne (by omega), x_ne (by omega), x_ne (by omega)]
  refine ⟨_, cls, ?_, rfl, ch⟩
  refine Rel_x R rfl (fun o k g => ch o k (fun w => g (by unfold xo; omega)) (fun w => g (by unfold xo; omega))) rfl (fun o k g => by have gf := irr_f g; exact cm o k (by omega) (by omega) (by omega) (by omega)) ?_ (Nat.le_refl _) R.2.2.1.1.2
  refine EX_core (c := c) X lim (fun o k => ?_) (fun o k => ?_) (fun F i hh => ?_) ?_
  · by_cases w : o = 36 + 12 * c ∨ o = 37 + 12 * c
    · exact Or.inl (by omega)
    · exact Or.inr (ch o k (by omega) (by omega))
  · by_cases w : (o = 248 ∧ k = c) ∨ ((o = 249 ∨ o = 250 ∨ o = 251) ∧ k = 16 * c + n)
    · exact Or.inl (by omega)
    · exact Or.inr (by rw [x_ne (by omega), x_ne (by omega), x_ne (by omega), x_ne (by omega)])
  · unfold eP; rw [if_neg (by omega), if_neg (by omega), if_neg (by omega)]
  · have eF : ∀ F i, F ≠ 2 → F ≠ 3 → F ≠ 4 → eP e c n A B F i = e F i := fun F i g1 g2 g3 => by unfold eP; rw [if_neg (by omega), if_neg (by omega), if_neg (by omega)]
    have e2c : eP e c n A B 2 c = n + 1 := by unfold eP; rw [if_pos ⟨rfl, rfl⟩]
    have e3n : eP e c n A B 3 (16 * c + n) = A := by unfold eP; rw [if_neg (by omega), if_pos ⟨rfl, rfl⟩]
    have e4n : eP e c n A B 4 (16 * c + n) = B := by unfold eP; rw [if_neg (by omega), if_neg (by omega), if_pos ⟨rfl, rfl⟩]
    have e3i : ∀ F i, F = 3 ∨ F = 4 → i ≠ n → eP e c n A B F (16 * c + i) = e F (16 * c + i) := fun F i hF hi => by unfold eP; rw [if_neg (by omega), if_neg (by omega), if_neg (by omega)]
    have e0 := eF 0 c (by omega) (by omega) (by omega)
    have e1 := eF 1 c (by omega) (by omega) (by omega)
    have e5 := eF 5 c (by omega) (by omega) (by omega)
    refine ⟨fun r hr => ?_, ⟨?_, ?_, ?_⟩, ⟨?_, ?_, ?_⟩, ⟨?_, ?_, ?_, ?_⟩, fun i hi => ?_, ⟨?_, ?_, ?_⟩, fun q hq hq2 => ?_, ?_, ?_⟩
    · rw [ch _ _ (by omega) (by omega), cm _ _ (by omega) (by omega) (by omega) (by omega)]; exact u1 r hr
    · rw [ch _ _ (by omega) (by omega), e0]; exact u2
    · rw [cm _ _ (by omega) (by omega) (by omega) (by omega), e0]; exact u3
    · rw [e0]; exact u4
    · rw [ch _ _ (by omega) (by omega), e1]; exact u5
    · rw [cm _ _ (by omega) (by omega) (by omega) (by omega), e1]; exact u6
    · rw [e1]; exact u7
    · rw [x_eq, e2c]
    · rw [x_eq, e2c]
    · rw [e2c]; omega
    · rw [x_ne (by omega), x_ne (by omega), x_ne (by omega), x_ne (by omega)]; exact u11
    · rw [e2c] at hi
      by_cases g : i = n
      · subst g
        rw [e3n, e4n]
        refine ⟨?_, ?_, hA, ?_, ?_, hB, ?_, ?_⟩
        · rw [x_ne (by omega), x_ne (by omega), x_ne (by omega), x_eq]
        · rw [x_ne (by omega), x_ne (by omega), x_ne (by omega), x_eq]
        · rw [x_ne (by omega), x_ne (by omega), x_eq]
        · rw [x_ne (by omega), x_ne (by omega), x_eq]
        · rw [x_ne (by omega), x_eq, x_ne (by omega), x_eq]
        · rw [x_ne (by omega), x_eq]; exact hD
      · have z := u12 i (by omega)
        have chi : ∀ j, j < 3 → hI (sI (sI (sI (sI h (37 + 12 * c) (3 * n) (nI (4 * A))) (37 + 12 * c) (3 * n + 1) (nI B)) (37 + 12 * c) (3 * n + 2) D) (36 + 12 * c) 1 (nI (n + 1))) (37 + 12 * c) (3 * i + j) = hI h (37 + 12 * c) (3 * i + j) := fun j hj => by
          rw [x_ne (by omega), x_ne (by omega), x_ne (by omega), x_ne (by omega)]
        have cmi : ∀ o, o = 249 ∨ o = 250 ∨ o = 251 → hI (sI (sI (sI (sI m 249 (16 * c + n) (nI (4 * A))) 250 (16 * c + n) (nI B)) 251 (16 * c + n) D) 248 c (nI (n + 1))) o (16 * c + i) = hI m o (16 * c + i) := fun o ho => by
          rw [x_ne (by omega), x_ne (by omega), x_ne (by omega), x_ne (by omega)]
        have c0 := chi 0 (by omega)
        rw [show 3 * i + 0 = 3 * i from rfl] at c0
        rw [c0, chi 1 (by omega), chi 2 (by omega), cmi 249 (by omega), cmi 250 (by omega), cmi 251 (by omega), e3i 3 i (by omega) g, e3i 4 i (by omega) g]
        exact z
    · rw [ch _ _ (by omega) (by omega), e5]; exact u13
    · rw [cm _ _ (by omega) (by omega) (by omega) (by omega), e5]; exact u14
    · rw [e5]; exact u15
    · rw [e5] at hq2 ⊢
      have z := u16 q hq hq2
      refine ⟨fun j hj => ?_, ?_⟩
      · rw [ch _ _ (by omega) (by omega), cm _ _ (by omega) (by omega) (by omega) (by omega)]; exact z.1 j hj
      · rw [ch _ _ (by omega) (by omega)]; exact z.2
    · rw [ch _ _ (by omega) (by omega), cm _ _ (by omega) (by omega) (by omega) (by omega)]; exact u17
    · rw [ch _ 14 (by omega) (by omega), ch _ 13 (by omega) (by omega), cm _ _ (by omega) (by omega) (by omega) (by omega)]; exact u18
theorem sz_s : ∀ f, f ≤ 2 → (1 : Int32) <<< (nI f &&& 31) = nI (2 ^ f) ∧ ((1 : Int32) <<< (nI (2 ^ f) &&& 31)) - (1 : Int32) = nI (2 ^ 2 ^ f - 1) ∧ 2 ^ 2 ^ f - 1 < 16 := by decide +kernel
theorem nd_s : ∀ j, j ≤ 2 → ∀ t, t < 4 → t % 2 ^ j = 0 → nI (2 ^ 2 ^ j - 1) <<< (nI t &&& 31) = nI ((2 ^ 2 ^ j - 1) * 2 ^ t) ∧ (2 ^ 2 ^ j - 1) * 2 ^ t < 16 := by decide +kernel
theorem s31 : ∀ t, t < 4 → ((8 : Int32) * nI t) &&& 31 = nI (8 * t) := by decide +kernel
theorem put_eq {j t : Nat} {v : Int32} (hj : j ≤ 2) (ht : t < 4) (hal : t % 2 ^ j = 0) : (v &&& BB (2 ^ 2 ^ j - 1)) <<< nI (8 * t) = (v <<< nI (8 * t)) &&& BB ((2 ^ 2 ^ j - 1) * 2 ^ t) := by
  have k : 8 * t < 32 := by omega
  have b1 := fun i (hi : i < 32) => bb_bits j hj t ht hal i hi
  have b0 := fun i (hi : i < 32) => bb_bits j hj 0 (by omega) (Nat.zero_mod _) i hi
  rw [show (2 ^ 2 ^ j - 1) * 2 ^ 0 = 2 ^ 2 ^ j - 1 from Nat.mul_one _] at b0
  generalize BB ((2 ^ 2 ^ j - 1) * 2 ^ t) = P at b1 ⊢
  generalize BB (2 ^ 2 ^ j - 1) = Q at b0 ⊢
  refine bt_ext (fun i hi => ?_)
  rw [bt_shl _ k hi, bt_and, bt_and, bt_shl _ k hi, b1 i hi]
  by_cases e : 8 * t ≤ i
  · rw [b0 (i - 8 * t) (by omega), decide_eq_true e, Bool.true_and, Bool.true_and]
    have : (8 * 0 ≤ i - 8 * t ∧ i - 8 * t < 8 * 0 + 8 * 2 ^ j) ↔ (8 * t ≤ i ∧ i < 8 * t + 8 * 2 ^ j) := by
      generalize 2 ^ j = c
      omega
    rw [decide_eq_decide.mpr this]
  · simp [e]
theorem and_not0 (x m : Int32) : (x &&& m) &&& (m ^^^ (-1 : Int32)) = 0 := by
  refine bt_ext (fun i hi => ?_)
  rw [bt_and, bt_and, bt_xor, bt_m1 hi, bt_0]
  cases bt x i <;> cases bt m i <;> rfl
