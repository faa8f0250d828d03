theorem w48 : ∀ n, n < 256 → (lg_cmp (Int64.ofNat n) (48 : Int64) < 0 ↔ n < 48) ∧ (0 < lg_cmp (Int64.ofNat n) (57 : Int64) ↔ 57 < n) ∧ (lg_cmp (Int64.ofNat n - (48 : Int64)) (0 : Int64) ≤ 0 ↔ n ≤ 48) ∧ (0 ≤ lg_cmp (Int64.ofNat n - (48 : Int64)) (4 : Int64) ↔ 52 ≤ n) := by decide +kernel
theorem w10 : ∀ b, b < 52 → 49 ≤ b → ∀ a, a < 58 → 48 ≤ a → ((((10 : Int64) * (Int64.ofNat b - (48 : Int64))) + Int64.ofNat a) - (48 : Int64)).toInt32 = nI (10 * (b - 48) + (a - 48)) := by decide +kernel
def r72 (v : Int64) (z : Int32) : Int32 := if v.toBitVec.toNat / 2 ^ 16 = 120 ∧ (49 ≤ chr v 1 ∧ chr v 1 ≤ 51) ∧ 48 ≤ chr v 0 ∧ chr v 0 ≤ 57 then nI (10 * (chr v 1 - 48) + (chr v 0 - 48)) else z
theorem r_72 {h m : AH} {c : Nat → Nat} {T Nn i : Nat} (Q : TQ h m c T Nn i) (sh z : Int32) (v : Int64) : f_X11_wantRegister_L72 m 226 sh v z = f_X11_wantRegister_L169 m 226 sh (if tKind c T (ts c T i) = 2 then r72 v z else z) := by
  obtain ⟨a1, a2, a3, a4, a5, a6⟩ := TQ_r Q
  have L := Q.2.1.1
  have r1 := (rk_i (k := tKind c T (ts c T i))).1
  have b0 := chr_lt v 0
  have b1 := chr_lt v 1
  obtain ⟨p1, p2, _, _⟩ := w48 _ b0
  obtain ⟨_, _, p3, p4⟩ := w48 _ b1
  unfold f_X11_wantRegister_L72
  rw [y_lt, y_gs, if_pos (lm_S226 L), lm_R6 L, y_gs, if_pos (lm_S228 L), lm_N228 L, a1, y_gb, if_pos a4, q_cl a5, a2, y_lt, a255_1, a255_0 v]
  simp only [lg_0, asr120, p1, p2, p3, p4, r1]
  by_cases k2 : tKind c T (ts c T i) = 2
  · rw [if_neg (fun q => q k2), if_pos k2]
    unfold r72
    by_cases g1 : v.toBitVec.toNat / 2 ^ 16 = 120
    · rw [if_neg (fun q => q g1)]
      by_cases g2 : chr v 1 ≤ 48
      · rw [if_pos g2, if_neg (by omega)]
      · rw [if_neg g2]
        by_cases g3 : 52 ≤ chr v 1
        · rw [if_pos g3, if_neg (by omega)]
        · rw [if_neg g3]
          by_cases g4 : chr v 0 < 48
          · rw [if_pos g4, if_neg (by omega)]
          · rw [if_neg g4]
            by_cases g5 : 57 < chr v 0
            · rw [if_pos g5, if_neg (by omega)]
            · rw [if_neg g5, if_pos ⟨g1, by omega, by omega⟩, w10 _ (by omega) (by omega) _ (by omega) (by omega)]
    · rw [if_pos g1, if_neg (fun q => g1 q.1)]
  · rw [if_pos k2, if_neg k2]
theorem r_wantReg {h m : AH} {c : Nat → Nat} {T Nn i : Nat} (Q : TQ h m c T Nn i) (sh : Int32) : f_X11_wantRegister m 226 sh = match (if tKind c T (ts c T i) = 2 then rgO (tVal c T (ts c T i)) else none) with
    | some r => some ((1 : Int32), sI (sI m 226 71 (hI m 226 71 ||| (nI r <<< (sh &&& 31)))) 226 9 (nI (i + 1)))
    | none => bd (f_X11_refuse m 226) fun q2 => gb (q2.1 == 0 || q2.1 == 1) <| some (q2.1, q2.2) := by
  obtain ⟨a1, a2, a3, a4, a5, a6⟩ := TQ_r Q
  have r1 := (rk_i (k := tKind c T (ts c T i))).1
  have l169 : ∀ z : Int32, f_X11_wantRegister_L169 m 226 sh z = if z < 0 then (bd (f_X11_refuse m 226) fun q2 => gb (q2.1 == 0 || q2.1 == 1) <| some (q2.1, q2.2)) else if z ≤ (31 : Int32) then some ((1 : Int32), sI (sI m 226 71 (hI m 226 71 ||| (z <<< (sh &&& 31)))) 226 9 (nI (i + 1))) else bd (f_X11_refuse m 226) fun q2 => gb (q2.1 == 0 || q2.1 == 1) <| some (q2.1, q2.2) := by
    intro z
    unfold f_X11_wantRegister_L169 f_X11_wantRegister_L181
    have L := Q.2.1.1
    rw [y_gs, if_pos (lm_S226 L), y_gs, if_pos (lm_S226 L), y_lt, x_ne (by omega), a1, show (1 : Int32) = nI 1 from rfl, q_add, y_lt]
  have lm1 : f_X11_wantRegister_L169 m 226 sh (-1 : Int32) = bd (f_X11_refuse m 226) fun q2 => gb (q2.1 == 0 || q2.1 == 1) <| some (q2.1, q2.2) := by rw [l169, if_pos (by decide)]
  have lok : ∀ r, r < 32 → f_X11_wantRegister_L169 m 226 sh (nI r) = some ((1 : Int32), sI (sI m 226 71 (hI m 226 71 ||| (nI r <<< (sh &&& 31)))) 226 9 (nI (i + 1))) := fun r hr => by rw [l169, if_neg (lt0 (by omega)), if_pos (show nI r ≤ (31 : Int32) from (q_le (b := 31) (by omega) (by omega)).mpr (by omega))]
  have lbig : ∀ r, 32 ≤ r → r < 1000 → f_X11_wantRegister_L169 m 226 sh (nI r) = bd (f_X11_refuse m 226) fun q2 => gb (q2.1 == 0 || q2.1 == 1) <| some (q2.1, q2.2) := fun r h1 h2 => by rw [l169, if_neg (lt0 (by omega)), if_neg (show ¬ nI r ≤ (31 : Int32) from fun q => by have := (q_le (b := 31) (by omega) (by omega)).mp q; omega)]
  unfold f_X11_wantRegister
  have L := Q.2.1.1
  rw [y_gs, if_pos (lm_S226 L), lm_R8 L, y_gs, if_pos (lm_S230 L), lm_N230 L, a1, y_gb, if_pos a4, q_cl a5, y_lt, y_lt, lm_R6 L, y_gs, if_pos (lm_S228 L), lm_N228 L, y_gb, if_pos a4, a2, r_72 Q, y_lt, r_72 Q]
  by_cases k2 : tKind c T (ts c T i) = 2
  · have vv : hL m 230 i = tVal c T (ts c T i) := (Q.2.1.2.1 i Q.2.2.1).2.2.1 (Or.inl k2)
    rw [vv, if_neg (fun q => q (r1.mpr k2)), if_pos k2, if_pos k2, if_pos k2]
    generalize tVal c T (ts c T i) = v
    have b0 := chr_lt v 0
    rw [a255_0, to32 _ b0]
    obtain ⟨p1, p2, _, _⟩ := w48 _ b0
    simp only [lg_0, asr120, p1, p2]
    have s0 : 48 ≤ chr v 0 → nI (chr v 0) - (48 : Int32) = nI (chr v 0 - 48) := fun q => by rw [show (48 : Int32) = nI 48 from rfl, q_sub (by omega)]
    unfold rgO r72
    have ex : ¬ (v.toBitVec.toNat / 2 ^ 8 = 120 ∧ v.toBitVec.toNat / 2 ^ 16 = 120) := by omega
    by_cases g1 : 48 ≤ chr v 0 ∧ chr v 0 ≤ 57
    · rw [if_pos g1, if_neg (show ¬ chr v 0 < 48 by omega), if_neg (show ¬ 57 < chr v 0 by omega)]
      by_cases g3 : v.toBitVec.toNat / 2 ^ 8 = 120
      · rw [if_neg (fun q => q g3), if_pos g3, if_neg (fun q => ex ⟨g3, q.1⟩), s0 g1.1, lok _ (by omega)]
      · rw [if_pos g3, if_neg g3]
        by_cases g4 : v.toBitVec.toNat / 2 ^ 16 = 120 ∧ (49 ≤ chr v 1 ∧ chr v 1 ≤ 51)
        · rw [if_pos ⟨g4.1, g4.2, g1⟩]
          by_cases g5 : 10 * (chr v 1 - 48) + (chr v 0 - 48) ≤ 31
          · rw [if_pos ⟨g4.1, g4.2.1, g4.2.2, g5⟩, lok _ (by omega)]
          · rw [if_neg (fun q => g5 q.2.2.2), lbig _ (by omega) (by omega)]
        · rw [if_neg (fun q => g4 ⟨q.1, q.2.1⟩), if_neg (fun q => g4 ⟨q.1, q.2.1, q.2.2.1⟩), lm1]
    · have ng : ¬ (v.toBitVec.toNat / 2 ^ 16 = 120 ∧ (49 ≤ chr v 1 ∧ chr v 1 ≤ 51) ∧ 48 ≤ chr v 0 ∧ chr v 0 ≤ 57) := fun q => g1 q.2.2
      rw [if_neg g1, if_neg ng, if_neg ng, lm1]
      split
      · rfl
      · split
        · rfl
        · split
          · rfl
          · omega
  · rw [if_pos (fun q => k2 (r1.mp q)), if_neg k2, if_neg k2, lm1]
