/-! total. -/
theorem sg_add (f : Nat → Nat) (n : Nat) : ∀ k, sg f (n + k) = sg f n + sg (fun i => f (n + i)) k
  | 0 => rfl
  | k + 1 => by
    show sg f (n + k) + f (n + k) = sg f n + (sg (fun i => f (n + i)) k + f (n + k))
    rw [sg_add f n k]; omega
def fz (s : St) (k : Nat) : Nat := if N s 4 k = 0 then 0 else 1
def fw (s : St) (w : Nat) : Nat := fz s (8 * (w / N s 0 5) + w % N s 0 5)
theorem sg_0b {f : Nat → Nat} {n k : Nat} (h : ∀ j, n ≤ j → j < k → f j = 0) (hk : n ≤ k) : sg f k = sg f n := by
  induction k with
  | zero => rw [show n = 0 by omega]
  | succ k ih =>
    by_cases g : n = k + 1
    · rw [g]
    · show sg f k + f k = _
      rw [h k (by omega) (by omega), ih (fun j h1 h2 => h j h1 (by omega)) (by omega)]; rfl
theorem fz_1 (s : St) (k : Nat) : fz s k ≤ 1 := by unfold fz; split <;> omega
theorem fz_le (s : St) : ∀ n, sg (fz s) n ≤ n
  | 0 => Nat.le_refl _
  | n + 1 => by have := fz_le s n; have := fz_1 s n; show sg (fz s) n + fz s n ≤ n + 1; omega
theorem fw_le (s : St) : ∀ n, sg (fw s) n ≤ n
  | 0 => Nat.le_refl _
  | n + 1 => by have := fw_le s n; have : fw s n ≤ 1 := fz_1 s _; show sg (fw s) n + fw s n ≤ n + 1; omega
theorem lines_eq {s : St} (B : Bz s) (W : Wl s) : sg (fw s) (N s 0 4 * N s 0 5) = sg (fz s) 512 := by
  obtain ⟨a, a6, ea⟩ := Bz_4 B
  have p64 : N s 0 4 ≤ 64 := by rw [ea]; exact Nat.pow_le_pow_right (n := 2) (j := 6) (by omega) a6
  have n5 := B.2.2.2.2.2.1
  have z : ∀ k, k < 512 → ¬ uw s k → fz s k = 0 := by
    intro k hk hu
    unfold fz
    by_cases g : N s 4 k = 0
    · rw [if_pos g]
    · exfalso
      have hh := W.1 k hk g
      exact hu (set_u B hh.2.1 hh.2.2).1
  have key : ∀ a, a ≤ N s 0 4 → sg (fw s) (N s 0 5 * a) = sg (fz s) (8 * a) := by
    intro a
    induction a with
    | zero => intro _; rfl
    | succ a ih =>
      intro ha
      rw [show N s 0 5 * (a + 1) = N s 0 5 * a + N s 0 5 from Nat.mul_succ _ _, show 8 * (a + 1) = 8 * a + 8 by omega, sg_add, sg_add, ih (by omega)]
      congr 1
      rw [sg_0b (f := fun i => fz s (8 * a + i)) (n := N s 0 5) (k := 8) ?_ n5.2]
      · refine sg_congr _ (fun b hb => ?_)
        show fz s (8 * ((N s 0 5 * a + b) / N s 0 5) + (N s 0 5 * a + b) % N s 0 5) = fz s (8 * a + b)
        rw [Nat.mul_add_div (by omega), Nat.div_eq_of_lt hb, Nat.mul_add_mod, Nat.mod_eq_of_lt hb]; rfl
      · intro j h1 h2
        refine z _ (by omega) (fun u => ?_)
        unfold uw at u; omega
  rw [Nat.mul_comm, key _ (Nat.le_refl _)]
  refine (sg_0b (fun j h1 h2 => z j h2 (fun u => ?_)) (by omega)).symm
  unfold uw at u; omega
def totR (h : AH) (a0 : Nat) (a1 a2 : Int32) : Option (Int32 × AH) :=
  if a1 = (0 : Int32) then
    gs h a0 10 <|
    gs h (hR h a0 21) 21 <|
    gb (ib (0 : Int32) (hN h (hR h a0 21))) <|
    some ((hI h (hR h a0 21) (0 : Int32).toNatClampNeg), h)
  else
    if a1 = (1 : Int32) then
      gs h a0 10 <|
      some ((hI h a0 59), h)
    else
      if a1 = (2 : Int32) then
        gs h a0 10 <|
        some ((hI h a0 62), h)
      else
        if a1 = (3 : Int32) then
          gs h a0 10 <|
          some ((hI h a0 63), h)
        else
          if a1 = (4 : Int32) then
            gs h a0 10 <|
            some ((hI h a0 64), h)
          else
            if a1 = (5 : Int32) then
              gs h a0 10 <|
              some ((hI h a0 65), h)
            else
              if a1 = (6 : Int32) then
                some (a2, h)
              else
                if a1 = (7 : Int32) then
                  gs h a0 10 <|
                  gs h (hR h a0 21) 21 <|
                  gb (ib (1 : Int32) (hN h (hR h a0 21))) <|
                  some ((hI h (hR h a0 21) (1 : Int32).toNatClampNeg), h)
                else
                  if a1 = (8 : Int32) then
                    gs h a0 10 <|
                    gs h (hR h a0 21) 21 <|
                    gb (ib (a1 - (6 : Int32)) (hN h (hR h a0 21))) <|
                    some ((hI h (hR h a0 21) (a1 - (6 : Int32)).toNatClampNeg), h)
                  else
                    if a1 = (9 : Int32) then
                      gs h a0 10 <|
                      gs h (hR h a0 21) 21 <|
                      gb (ib (a1 - (6 : Int32)) (hN h (hR h a0 21))) <|
                      some ((hI h (hR h a0 21) (a1 - (6 : Int32)).toNatClampNeg), h)
                    else
                      if a1 = (10 : Int32) then
                        gs h a0 10 <|
                        gs h (hR h a0 21) 21 <|
                        gb (ib (a1 - (6 : Int32)) (hN h (hR h a0 21))) <|
                        some ((hI h (hR h a0 21) (a1 - (6 : Int32)).toNatClampNeg), h)
                      else
                        if a1 = (11 : Int32) then
                          gs h a0 10 <|
                          gs h (hR h a0 21) 21 <|
                          gb (ib (a1 - (6 : Int32)) (hN h (hR h a0 21))) <|
                          some ((hI h (hR h a0 21) (a1 - (6 : Int32)).toNatClampNeg), h)
                        else
                          if a1 = (12 : Int32) then
                            gs h a0 10 <|
                            some ((hI h a0 66), h)
                          else
                            if a1 = (13 : Int32) then
                              gs h a0 10 <|
                              some ((hI h a0 67), h)
                            else
                              some ((-1 : Int32), h)

theorem pI_m {n : Nat} (h : n < 2 ^ 31) : pI n = (-1 : Int32) ↔ n = 0 := by
  unfold pI
  by_cases z : n = 0
  · rw [if_pos z]; exact ⟨fun _ => z, fun _ => rfl⟩
  · rw [if_neg z]; exact ⟨fun q => absurd q (k_n1 (by omega)), fun q => absurd q z⟩
theorem r_count {m : AH} {s : St} (R : RM m s) (G : Rg s) (x : Int32) : f_X11_total_L9 FU m 226 x (0 : Int32) (0 : Int32) = totR m 226 x (nI (sg (fz s) 512)) := by
  have L2 := rm_L R
  have key : ∀ r i f, i + r = 512 → r < f → f_X11_total_L9 f m 226 x (nI (sg (fz s) i)) (nI i) = totR m 226 x (nI (sg (fz s) 512)) := by
    intro r
    induction r with
    | zero =>
      intro i f hi hf
      obtain ⟨f', rfl⟩ : ∃ f', f = f' + 1 := ⟨f - 1, by omega⟩
      rw [show i = 512 by omega]
      unfold f_X11_total_L9
      rw [if_pos (by decide)]; rfl
    | succ r ih =>
      intro i f hi hf
      obtain ⟨f', rfl⟩ : ∃ f', f = f' + 1 := ⟨f - 1, by omega⟩
      have i5 : i < 512 := by omega
      have n4 : N s 4 i < 2 ^ 30 := G 4 i (by omega) i5
      rw [f_X11_total_L9]; unfold f_X11_total_L32
      rw [if_neg (show ¬ (512 : Int32) ≤ nI i from fun q => by have := (q_le (show 512 < 2 ^ 31 by omega) (by omega)).mp q; omega), y_gs, if_pos (lm_S226 L2), lm_R48 L2, y_gs, if_pos (lm_S261 L2), lm_N261 L2, y_gb, if_pos (q_ib i5 (by omega)), q_cl (by omega), rm_4 R i5]
      have add1 : nI i + (1 : Int32) = nI (i + 1) := by rw [show (1 : Int32) = nI 1 from rfl, q_add]
      have sN : sg (fz s) (i + 1) = sg (fz s) i + fz s i := rfl
      by_cases z : N s 4 i = 0
      · have f0 : fz s i = 0 := by unfold fz; rw [if_pos z]
        have a0 : nI (sg (fz s) i) + (0 : Int32) = nI (sg (fz s) (i + 1)) := by rw [show (0 : Int32) = nI 0 from rfl, q_add, sN, f0]
        rw [if_pos ((pI_m (by omega)).mpr z), y_lt, y_lt, add1, a0]
        exact ih (i + 1) f' (by omega) (by omega)
      · have f1 : fz s i = 1 := by unfold fz; rw [if_neg z]
        have a1 : nI (sg (fz s) i) + (1 : Int32) = nI (sg (fz s) (i + 1)) := by rw [show (1 : Int32) = nI 1 from rfl, q_add, sN, f1]
        rw [if_neg (fun q => z ((pI_m (by omega)).mp q)), y_lt, y_lt, add1, a1]
        exact ih (i + 1) f' (by omega) (by omega)
  exact key 512 0 FU (by omega) (FU_gt (by omega))
theorem c_count {h m : AH} {s : St} {e : Ex} {b : Nat} (R : Rel h m s e b) : f_X4_countLines h 19 = some (nI (sg (fz s) 512)) := by
  have L := RC_L R.1.1
  have B := IV_Bz R.2.2.1
  obtain ⟨a, a6, ea⟩ := Bz_4 B
  have p64 : N s 0 4 ≤ 64 := by rw [ea]; exact Nat.pow_le_pow_right (n := 2) (j := 6) (by omega) a6
  have n5 := B.2.2.2.2.2.1
  have s4 : hI h 19 13 = nI (N s 0 4) := R.1.1.2.1.2.1
  have s5 : hI h 19 14 = nI (N s 0 5) := R.1.1.2.1.2.2.1
  have pr : N s 0 4 * N s 0 5 ≤ 512 := by
    have := Nat.mul_le_mul p64 n5.2; omega
  rw [← lines_eq B R.2.2.1.2.1.2]
  unfold f_X4_countLines
  rw [y_lt, y_lt]
  have key : ∀ r i f, i + r = N s 0 4 * N s 0 5 → r < f → f_X4_countLines_L4 h f 19 (nI (sg (fw s) i)) (nI i) = some (nI (sg (fw s) (N s 0 4 * N s 0 5))) := by
    intro r
    induction r with
    | zero =>
      intro i f hi hf
      obtain ⟨f', rfl⟩ : ∃ f', f = f' + 1 := ⟨f - 1, by omega⟩
      unfold f_X4_countLines_L4
      rw [y_gs, if_pos (lc_S19 L), s4, s5, q_mul, if_pos ((q_le (by omega) (by omega)).mpr (by omega)), show i = N s 0 4 * N s 0 5 by omega]
    | succ r ih =>
      intro i f hi hf
      obtain ⟨f', rfl⟩ : ∃ f', f = f' + 1 := ⟨f - 1, by omega⟩
      have i5 : i < 512 := by omega
      have di : i / N s 0 5 < N s 0 4 := by
        rw [Nat.div_lt_iff_lt_mul (by omega)]; omega
      have mi : i % N s 0 5 < N s 0 5 := Nat.mod_lt _ (by omega)
      have w := (R.1.1.2.2.2.2.1 (i / N s 0 5) (i % N s 0 5) di mi).1
      rw [show i / N s 0 5 * N s 0 5 + i % N s 0 5 = i from by rw [Nat.mul_comm]; exact Nat.div_add_mod i (N s 0 5)] at w
      have n4 : N s 4 (8 * (i / N s 0 5) + i % N s 0 5) < 2 ^ 30 := IV_Rg R.2.2.1 4 _ (by omega) (show _ < 512 by omega)
      rw [f_X4_countLines_L4]; unfold f_X4_countLines_L30
      rw [y_gs, if_pos (lc_S19 L), s4, s5, q_mul, if_neg (fun q => by have := (q_le (by omega) (by omega)).mp q; omega), lc_R19_2 L, y_gs, if_pos (lc_S21 L), lc_N21 L, y_gb, if_pos (q_ib i5 (by omega)), q_cl (by omega), w]
      have add1 : nI i + (1 : Int32) = nI (i + 1) := by rw [show (1 : Int32) = nI 1 from rfl, q_add]
      have sN : sg (fw s) (i + 1) = sg (fw s) i + fz s (8 * (i / N s 0 5) + i % N s 0 5) := rfl
      by_cases z : N s 4 (8 * (i / N s 0 5) + i % N s 0 5) = 0
      · have f0 : fz s (8 * (i / N s 0 5) + i % N s 0 5) = 0 := by unfold fz; rw [if_pos z]
        have a0 : sg (fw s) i = sg (fw s) (i + 1) := by rw [sN, f0]; rfl
        rw [if_pos ((pI_m (by omega)).mpr z), y_lt, add1, a0]
        exact ih (i + 1) f' (by omega) (by omega)
      · have f1 : fz s (8 * (i / N s 0 5) + i % N s 0 5) = 1 := by unfold fz; rw [if_neg z]
        have a1 : nI (sg (fw s) i) + (1 : Int32) = nI (sg (fw s) (i + 1)) := by rw [show (1 : Int32) = nI 1 from rfl, q_add, sN, f1]
        rw [if_neg (fun q => z ((pI_m (by omega)).mp q)), y_lt, y_lt, add1, a1]
        exact ih (i + 1) f' (by omega) (by omega)
  exact key (N s 0 4 * N s 0 5) 0 FU (by omega) (FU_gt (by omega))
theorem call_total {h m : AH} {s : St} {e : Ex} {b : Nat} (x : Int32) (R : Rel h m s e b) (he : e 8 0 = e 8 1) : Cp h m e b (f_X10_total h 1 x) (f_X11_total m 226 x) := by
  have L := RC_L R.1.1
  have L2 := rm_L R.2.1
  have R0 : Rel h (sI m 226 0 (0 : Int32)) s (e2 e 8 2 0) b := Rel_thr R 0
  have Lt : LM (sI m 226 0 (0 : Int32)) := L2
  obtain ⟨k1, k2, k3⟩ := c_pres R.1.1
  have zr : ∀ i, i < 6 → hI (sI m 226 0 (0 : Int32)) 239 i = nI (N s 0 i) := fun i hi => rm_0 R0.2.1 hi
  have zc : ∀ i, i < 6 → hI h 32 i = nI (N s 0 i) := R.1.1.2.1.1
  obtain ⟨⟨y1, y2⟩, ⟨y3, y4⟩, _⟩ := R.2.2.2.2.2
  have Y : f_X11_total m 226 x = totR (sI m 226 0 (0 : Int32)) 226 x (nI (sg (fz s) 512)) := by
    unfold f_X11_total
    rw [y_gs, if_pos (lm_S226 L2), y_lt, y_lt, y_lt]
    exact r_count R0.2.1 (IV_Rg R.2.2.1) x
  rw [Y]
  unfold f_X10_total totR
  by_cases g : x = (0 : Int32)
  · rw [if_pos g, if_pos g, y_gs, if_pos (lc_S1 L), y_gs, if_pos k1, y_gb, if_pos k2, k3, y_gs, if_pos (lm_S226 Lt), lm_R21 Lt, y_gs, if_pos (lm_S239 Lt), lm_N239 Lt, y_gb, if_pos (show ib (0 : Int32) 6 = true from by decide), show (0 : Int32).toNatClampNeg = 0 from by decide, zr 0 (by omega)]
    exact Cp_ok R he rfl rfl
  rw [if_neg g, if_neg g]
  by_cases g : x = (1 : Int32)
  · rw [if_pos g, if_pos g, y_gs, if_pos (lc_S1 L), lc_R1_2 L, y_gs, if_pos (lc_S16 L), R.1.1.2.2.2.2.2.2.1.1, y_gs, if_pos (lm_S226 Lt), rm_p R0.2.1]
    exact Cp_ok R he rfl rfl
  rw [if_neg g, if_neg g]
  by_cases g : x = (2 : Int32)
  · rw [if_pos g, if_pos g, y_gs, if_pos (lc_S1 L), c_retired R, y_bds, y_gs, if_pos (lm_S226 Lt), x_ne (by omega), y1]
    exact Cp_ok R he rfl rfl
  rw [if_neg g, if_neg g]
  by_cases g : x = (3 : Int32)
  · rw [if_pos g, if_pos g, y_gs, if_pos (lc_S1 L), lc_R1_2 L, y_gs, if_pos (lc_S16 L), R.1.1.2.1.2.2.2.2.2, y_gs, if_pos (lm_S226 Lt), rm_18 R0.2.1]
    exact Cp_ok R he rfl rfl
  rw [if_neg g, if_neg g]
  by_cases g : x = (4 : Int32)
  · rw [if_pos g, if_pos g, y_gs, if_pos (lc_S1 L), c_changed R, y_bds, y_gs, if_pos (lm_S226 Lt), rm_19 R0.2.1]
    exact Cp_ok R he rfl rfl
  rw [if_neg g, if_neg g]
  by_cases g : x = (5 : Int32)
  · rw [if_pos g, if_pos g, y_gs, if_pos (lc_S1 L), lc_R1_3 L, y_gs, if_pos (lc_S19 L), R.1.1.2.1.2.2.2.2.1, y_gs, if_pos (lm_S226 Lt), rm_20 R0.2.1]
    exact Cp_ok R he rfl rfl
  rw [if_neg g, if_neg g]
  by_cases g : x = (6 : Int32)
  · rw [if_pos g, if_pos g, y_gs, if_pos (lc_S1 L), lc_R1_3 L, y_gs, if_pos (lc_S19 L), c_count R, y_bds]
    exact Cp_ok R he rfl rfl
  rw [if_neg g, if_neg g]
  by_cases g : x = (7 : Int32)
  · rw [if_pos g, if_pos g, y_gs, if_pos (lc_S1 L), lc_R1_5 L, y_gs, if_pos (lc_S32 L), lc_N32 L, show x - (6 : Int32) = nI 1 from by rw [g]; decide, y_gb, if_pos (show ib (nI 1) 6 = true from by decide), show (nI 1).toNatClampNeg = 1 from by decide, zc 1 (by omega), y_gs, if_pos (lm_S226 Lt), lm_R21 Lt, y_gs, if_pos (lm_S239 Lt), lm_N239 Lt, y_gb, if_pos (show ib (1 : Int32) 6 = true from by decide), show (1 : Int32).toNatClampNeg = 1 from by decide, zr 1 (by omega)]
    exact Cp_ok R he rfl rfl
  rw [if_neg g, if_neg g]
  by_cases g : x = (8 : Int32)
  · rw [if_pos g, if_pos g, y_gs, if_pos (lc_S1 L), lc_R1_5 L, y_gs, if_pos (lc_S32 L), lc_N32 L, show x - (6 : Int32) = nI 2 from by rw [g]; decide, y_gb, if_pos (show ib (nI 2) 6 = true from by decide), show (nI 2).toNatClampNeg = 2 from by decide, zc 2 (by omega), y_gs, if_pos (lm_S226 Lt), lm_R21 Lt, y_gs, if_pos (lm_S239 Lt), lm_N239 Lt, y_gb, if_pos (show ib (nI 2) 6 = true from by decide), zr 2 (by omega)]
    exact Cp_ok R he rfl rfl
  rw [if_neg g, if_neg g]
  by_cases g : x = (9 : Int32)
  · rw [if_pos g, if_pos g, y_gs, if_pos (lc_S1 L), lc_R1_5 L, y_gs, if_pos (lc_S32 L), lc_N32 L, show x - (6 : Int32) = nI 3 from by rw [g]; decide, y_gb, if_pos (show ib (nI 3) 6 = true from by decide), show (nI 3).toNatClampNeg = 3 from by decide, zc 3 (by omega), y_gs, if_pos (lm_S226 Lt), lm_R21 Lt, y_gs, if_pos (lm_S239 Lt), lm_N239 Lt, y_gb, if_pos (show ib (nI 3) 6 = true from by decide), zr 3 (by omega)]
    exact Cp_ok R he rfl rfl
  rw [if_neg g, if_neg g]
  by_cases g : x = (10 : Int32)
  · rw [if_pos g, if_pos g, y_gs, if_pos (lc_S1 L), lc_R1_5 L, y_gs, if_pos (lc_S32 L), lc_N32 L, show x - (6 : Int32) = nI 4 from by rw [g]; decide, y_gb, if_pos (show ib (nI 4) 6 = true from by decide), show (nI 4).toNatClampNeg = 4 from by decide, zc 4 (by omega), y_gs, if_pos (lm_S226 Lt), lm_R21 Lt, y_gs, if_pos (lm_S239 Lt), lm_N239 Lt, y_gb, if_pos (show ib (nI 4) 6 = true from by decide), zr 4 (by omega)]
    exact Cp_ok R he rfl rfl
  rw [if_neg g, if_neg g]
  by_cases g : x = (11 : Int32)
  · rw [if_pos g, if_pos g, y_gs, if_pos (lc_S1 L), lc_R1_5 L, y_gs, if_pos (lc_S32 L), lc_N32 L, show x - (6 : Int32) = nI 5 from by rw [g]; decide, y_gb, if_pos (show ib (nI 5) 6 = true from by decide), show (nI 5).toNatClampNeg = 5 from by decide, zc 5 (by omega), y_gs, if_pos (lm_S226 Lt), lm_R21 Lt, y_gs, if_pos (lm_S239 Lt), lm_N239 Lt, y_gb, if_pos (show ib (nI 5) 6 = true from by decide), zr 5 (by omega)]
    exact Cp_ok R he rfl rfl
  rw [if_neg g, if_neg g]
  by_cases g : x = (12 : Int32)
  · rw [if_pos g, if_pos g, y_gs, if_pos (lc_S1 L), y3, y_gs, if_pos (lm_S226 Lt), x_ne (by omega)]
    exact Cp_ok R he rfl rfl
  rw [if_neg g, if_neg g]
  by_cases g : x = (13 : Int32)
  · rw [if_pos g, if_pos g, y_gs, if_pos (lc_S1 L), y4, y_gs, if_pos (lm_S226 Lt), x_ne (by omega)]
    exact Cp_ok R he rfl rfl
  rw [if_neg g, if_neg g]
  exact Cp_ok R he rfl rfl
