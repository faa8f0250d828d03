/-! copy, home, waiting. -/
theorem wof (q : AH) {i A : Nat} (hA : A < 2048) : f_X10_wordOf q (nI i) (nI (4 * A)) = some (nI (4 * i + A % 4)) := by
  unfold f_X10_wordOf
  rw [show ((2 : Int32) &&& 31) = nI 2 from by decide, q_shr (by omega) (by omega), show (3 : Int32) = nI (2 ^ 2 - 1) from rfl, q_and (by omega) (by omega), show (4 : Int32) = nI 4 from rfl, q_mul, q_add, show 4 * A / 2 ^ 2 % 2 ^ 2 = A % 4 by omega, show i * 4 + A % 4 = 4 * i + A % 4 by omega]
theorem flat_w {m : AH} {s : St} (R : RM m s) {A : Nat} (hA : A < 2048) : hI m 241 A = w4 (Wda s 0 (A / 4)) (A % 4) := by
  have := R.2.2.1 0 (A / 4) (A % 4) (by omega) (by omega) (by omega)
  rw [show 4 * (A / 4) + A % 4 = A by omega] at this; exact this
theorem k_n1 {k : Nat} (h : k < 2 ^ 31) : ¬ nI k = (-1 : Int32) := fun q => lt0 h (q ▸ (by decide : (-1 : Int32) < 0))
theorem le0n {k : Nat} (h : k < 2 ^ 31) : (0 : Int32) ≤ nI k := (q_le (a := 0) (by omega) h).mpr (by omega)
theorem call_copy {h m : AH} {s : St} {e : Ex} {b : Nat} (x y : Int32) (R : Rel h m s e b) (he : e 8 0 = e 8 1) : Ch 0 h m e b (f_X10_copy h 1 x y) (f_X11_copy m 226 x y) := by
  have L := RC_L R.1.1
  have L2 := rm_L R.2.1
  have n16 := FR_b R
  have B := IV_Bz R.2.2.1
  have no : Ch 0 h m e b (f_X10_copy_L33 h 1 x y) (f_X11_copy_L32 m 226 y) := by
    refine Ch_no R he (v := 0) ?_ ?_
    · unfold f_X10_copy_L33 f_X10_copy_L34
      rw [if_neg (by decide)]
    · unfold f_X11_copy_L32 f_X11_copy_L33 f_X11_copy_L44
      rw [if_pos rfl, y_gs, if_pos (lm_S226 L2), y_lt, if_pos rfl]
  by_cases g : 0 ≤ x ∧ x < nI (N s 0 0)
  · obtain ⟨c, hc, rfl⟩ := core_n (by omega) g
    have c16 : c < 16 := by omega
    obtain ⟨k1, k2, k3⟩ := c_cores L c16
    have X0 : f_X10_copy h 1 (nI c) y = bd (f_X10_isWord h y) fun v4 => if v4 = 0 then f_X10_copy_L33 h 1 (nI c) y else bd (f_X2_find h (38 + 12 * c) (y >>> ((4 : Int32) &&& 31))) fun v10 => f_X10_copy_L34 h 1 (nI c) y v10 := by
      unfold f_X10_copy
      rw [y_gs, if_pos (lc_S1 L), c_isCoreN R.1.1 B, y_bds, if_pos g, if_neg (show ¬ nI 1 = 0 from by decide), y_gs, if_pos k1, y_gb, if_pos k2, k3, y_gs, if_pos (lk_S34 L c16), lk_R34_6 L c16, y_gs, if_pos (lk_S38 L c16)]
    have Y0 : f_X11_copy m 226 (nI c) y = bd (f_X11_isAddress m y) fun v4 => if v4 = 0 then f_X11_copy_L32 m 226 y else bd (f_X11_wayOf m 226 (nI c) (y / (16 : Int32))) fun v6 => if v6 = (-1 : Int32) then f_X11_copy_L32 m 226 y else f_X11_copy_L33 m 226 y (1 : Int32) := by
      unfold f_X11_copy
      rw [y_gs, if_pos (lm_S226 L2), r_isCore R.2.1 B, y_bds, if_pos g, if_neg (show ¬ nI 1 = 0 from by decide)]
    rcases isw h m y with ⟨A, hA, rfl, i1, i2⟩ | ⟨i1, i2⟩
    · obtain ⟨a1, a2, a3, a4⟩ := sh2 hA
      rw [X0, Y0, i1, i2, y_bds, y_bds, if_neg (by decide), if_neg (by decide), a3, a4, c_find R.1.1 B (IV_Rg R.2.2.1) c16 (by omega), r_wayOf R.2.1 B (IV_Rg R.2.2.1) c16 (by omega), y_bds, y_bds]
      cases ew : sWay s c (A / 4) with
      | none => rw [show Option.map (lo c) none = none from rfl, oI_n, if_pos (show nN = (-1 : Int32) from rfl)]; exact no
      | some k =>
        obtain ⟨q1, q2, q3, q4⟩ := (sWay_iff B R.2.2.1.2.1.1 c16).mp ew
        have kk : 32 * c + lo c k = k := by unfold lo; omega
        have l32 : lo c k < 32 := by unfold lo; omega
        have cw := (R.1.1.2.2.2.1 c (lo c k) c16 l32).2.2.2 (A % 4) (by omega)
        rw [kk, R.2.2.1.2.2.2.2.2.2.2.1.2.2.2.2.1 k q1 q3, q4] at cw
        have Lt : LM (sI m 226 0 (0 : Int32)) := L2
        rw [show Option.map (lo c) (some k) = some (lo c k) from rfl, oI_s, oI_s, if_neg (k_n1 (show k < 2 ^ 31 by omega))]
        refine Ch_ok R he (v := w4 (Wda s 0 (A / 4)) (A % 4)) ?_ ?_
        · unfold f_X10_copy_L34
          rw [if_pos (le0n (show lo c k < 2 ^ 31 by omega)), y_gs, if_pos (lc_S1 L), y_gs, if_pos k1, y_gb, if_pos k2, k3, y_gs, if_pos (lk_S34 L c16), lk_R34_6 L c16, y_gs, if_pos (lk_S38 L c16), wof h hA, y_bds, lk_R38_3 L c16, y_gs, if_pos (lk_S42 L c16), lk_N42 L c16, y_gb, if_pos (q_ib (by omega) (by omega)), q_cl (show 4 * lo c k + A % 4 < 2 ^ 31 by omega), cw]
        · unfold f_X11_copy_L33 f_X11_copy_L44
          rw [if_neg (by decide), y_gs, if_pos (lm_S226 L2), y_lt, if_neg (by decide), y_gs, if_pos (lm_S226 Lt), lm_R23 Lt, y_gs, if_pos (lm_S241 Lt), lm_N241 Lt, a2, y_gb, if_pos (q_ib hA (by omega)), q_cl (by omega), x_ne (by omega), flat_w R.2.1 hA]
    · rw [X0, Y0, i1, i2, y_bds, y_bds, if_pos rfl, if_pos rfl]; exact no
  · have X0 : f_X10_copy h 1 x y = f_X10_copy_L33 h 1 x y := by
      unfold f_X10_copy
      rw [y_gs, if_pos (lc_S1 L), c_isCoreN R.1.1 B, y_bds, if_neg g, if_pos (show nI 0 = 0 from rfl)]
    have Y0 : f_X11_copy m 226 x y = f_X11_copy_L32 m 226 y := by
      unfold f_X11_copy
      rw [y_gs, if_pos (lm_S226 L2), r_isCore R.2.1 B, y_bds, if_neg g, if_pos (show nI 0 = 0 from rfl)]
    rw [X0, Y0]; exact no
/-! waiting -/
def cnt (s : St) (set : Nat) : Nat → Nat
  | 0 => 0
  | n + 1 => cnt s set n + (if mLi ((Ql s).getD n x0) % N s 0 4 = set then 1 else 0)
theorem cnt_le (s : St) (set n : Nat) : cnt s set n ≤ n := by
  induction n with
  | zero => exact Nat.le_refl _
  | succ n ih => show cnt s set n + _ ≤ _; split <;> omega
theorem ql_wf {h m : AH} {s : St} {e : Ex} {b : Nat} (R : Rel h m s e b) {i : Nat} (hi : i < (Ql s).length) : wf (N s 0 0) ((Ql s).getD i x0) := by
  refine R.2.2.1.2.2.1.2.1 ((Ql s).getD i x0) ?_
  unfold Z
  apply List.mem_append_right
  rw [List.getD_eq_getElem?_getD, List.getElem?_eq_getElem hi]
  exact List.getElem_mem hi
theorem Bz_4 {s : St} (B : Bz s) : ∃ a, a ≤ 6 ∧ N s 0 4 = 2 ^ a := by
  obtain ⟨_, _, _, _, ⟨a, ha⟩, _⟩ := B
  exact ⟨a, ha.1, ha.2⟩
theorem call_waiting {h m : AH} {s : St} {e : Ex} {b : Nat} (x : Int32) (R : Rel h m s e b) (he : e 8 0 = e 8 1) : Cp h m e b (f_X10_waiting h 1 x) (f_X11_waiting m 226 x) := by
  have L := RC_L R.1.1
  have L2 := rm_L R.2.1
  have B := IV_Bz R.2.2.1
  have R0 := Rel_thr R 0
  have Lt : LM (sI m 226 0 (0 : Int32)) := L2
  have ql := (IV_len R.2.2.1).2
  have s4 : hI h 19 13 = nI (N s 0 4) := R.1.1.2.1.2.1
  have s4m : hI (sI m 226 0 (0 : Int32)) 239 4 = nI (N s 0 4) := rm_0 R0.2.1 (by omega)
  have qc : hI h 19 12 = nI (Ql s).length := R.1.1.2.2.2.2.2.2.2.1
  have qr : hI (sI m 226 0 (0 : Int32)) 226 57 = nI (Ql s).length := rm_q R0.2.1
  obtain ⟨a, a6, ea⟩ := Bz_4 B
  have p1 : 1 ≤ N s 0 4 := by rw [ea]; exact Nat.two_pow_pos a
  have p64 : N s 0 4 ≤ 64 := by rw [ea]; exact Nat.pow_le_pow_right (n := 2) (j := 6) (by omega) a6
  unfold f_X10_waiting f_X11_waiting
  by_cases xng : x < 0
  · rw [if_pos xng, y_gs, if_pos (lm_S226 L2), y_lt, if_pos xng]; exact Cp_ok R he rfl rfl
  obtain ⟨t, ht, rfl⟩ := nlt0 xng
  rw [if_neg xng, y_gs, if_pos (lc_S1 L), lc_R1_3 L, y_gs, if_pos (lc_S19 L), s4, y_gs, if_pos (lm_S226 L2), y_lt, if_neg xng, lm_R21 Lt, y_gs, if_pos (lm_S239 Lt), lm_N239 Lt, y_gb, if_pos (show ib (4 : Int32) 6 = true from by decide), show (4 : Int32).toNatClampNeg = 4 from by decide, s4m]
  by_cases g : t < N s 0 4
  · rw [if_neg (fun q => by have := (q_le (show N s 0 4 < 2 ^ 31 by omega) ht).mp q; omega), if_pos ((q_lt ht (by omega)).mpr g)]
    have key : ∀ r i f f2, i + r = (Ql s).length → r < f → r < f2 → f_X4_countAt_L4 h f 19 (nI t) (nI (cnt s t i)) (nI i) = some (nI (cnt s t (Ql s).length)) ∧ f_X11_waiting_L25 f2 (sI m 226 0 (0 : Int32)) 226 (nI t) (nI (cnt s t i)) (nI i) = some (nI (cnt s t (Ql s).length), sI m 226 0 (0 : Int32)) := by
      intro r
      induction r with
      | zero =>
        intro i f f2 hi hf hf2
        obtain ⟨f', rfl⟩ : ∃ f', f = f' + 1 := ⟨f - 1, by omega⟩
        obtain ⟨g', rfl⟩ : ∃ g', f2 = g' + 1 := ⟨f2 - 1, by omega⟩
        unfold f_X4_countAt_L4 f_X11_waiting_L25
        rw [y_gs, if_pos (lc_S19 L), qc, if_pos ((q_le (by omega) (by omega)).mpr (by omega)), y_gs, if_pos (lm_S226 Lt), qr, if_pos ((q_le (by omega) (by omega)).mpr (by omega)), show i = (Ql s).length by omega]
        exact ⟨rfl, rfl⟩
      | succ r ih =>
        intro i f f2 hi hf hf2
        obtain ⟨f', rfl⟩ : ∃ f', f = f' + 1 := ⟨f - 1, by omega⟩
        obtain ⟨g', rfl⟩ : ∃ g', f2 = g' + 1 := ⟨f2 - 1, by omega⟩
        have il : i < (Ql s).length := by omega
        have l512 : mLi ((Ql s).getD i x0) < 512 := (ql_wf R il).1
        have cl : hI h 30 (9 * i + 3) = nI (mLi ((Ql s).getD i x0)) := R.1.1.2.2.2.2.2.2.2.2 i 3 il (by omega)
        have rl : hI (sI m 226 0 (0 : Int32)) 270 (7 * i) = nI (mLi ((Ql s).getD i x0)) := rm_qi (j := 0) R0.2.1 il (by omega)
        have nle : ¬ nI (Ql s).length ≤ nI i := fun q => by have := (q_le (by omega) (by omega)).mp q; omega
        have mk : nI (mLi ((Ql s).getD i x0)) &&& (nI (N s 0 4) - (1 : Int32)) = nI (mLi ((Ql s).getD i x0) % N s 0 4) := by
          rw [ea, (show nI (2 ^ a) - (1 : Int32) = nI (2 ^ a - 1) from by rw [show (1 : Int32) = nI 1 from rfl, q_sub (Nat.two_pow_pos a)]), q_and (by omega) (by omega)]
        have md : nI (mLi ((Ql s).getD i x0)) - nI (mLi ((Ql s).getD i x0)) / nI (N s 0 4) * nI (N s 0 4) = nI (mLi ((Ql s).getD i x0) % N s 0 4) := q_rem (by omega) (by omega)
        have mlt : mLi ((Ql s).getD i x0) % N s 0 4 < N s 0 4 := Nat.mod_lt _ (by omega)
        have ne0 : ¬ nI (N s 0 4) = 0 := fun q => by have := (q_eq (b := 0) (show N s 0 4 < 2 ^ 31 by omega) (by omega)).mp q; omega
        have cN : cnt s t (i + 1) = cnt s t i + (if mLi ((Ql s).getD i x0) % N s 0 4 = t then 1 else 0) := rfl
        have c1 : f_X4_countAt_L4 h (f' + 1) 19 (nI t) (nI (cnt s t i)) (nI i) = f_X4_countAt_L4 h f' 19 (nI t) (nI (cnt s t (i + 1))) (nI (i + 1)) := by
          rw [f_X4_countAt_L4]; unfold f_X4_countAt_L37
          rw [y_gs, if_pos (lc_S19 L), qc, if_neg nle, lc_R19_11 L, y_gs, if_pos (lc_S30 L), lc_N30 L, show (9 : Int32) = nI 9 from rfl, show (3 : Int32) = nI 3 from rfl, q_mul, q_add, show i * 9 + 3 = 9 * i + 3 by omega, y_gb, if_pos (q_ib (by omega) (by omega)), q_cl (by omega), cl, s4, mk, y_lt, y_lt, y_lt, show (1 : Int32) = nI 1 from rfl, q_add, q_add, cN]
          by_cases w : mLi ((Ql s).getD i x0) % N s 0 4 = t
          · rw [if_neg (fun q => q (by rw [w])), if_pos w]
          · rw [if_pos (fun q => w ((q_eq (by omega) ht).mp q)), if_neg w]; rfl
        have c2 : f_X11_waiting_L25 (g' + 1) (sI m 226 0 (0 : Int32)) 226 (nI t) (nI (cnt s t i)) (nI i) = f_X11_waiting_L25 g' (sI m 226 0 (0 : Int32)) 226 (nI t) (nI (cnt s t (i + 1))) (nI (i + 1)) := by
          rw [f_X11_waiting_L25]; unfold f_X11_waiting_L59
          rw [y_gs, if_pos (lm_S226 Lt), qr, if_neg nle, lm_R58 Lt, y_gs, if_pos (lm_S270 Lt), lm_N270 Lt, show (7 : Int32) = nI 7 from rfl, q_mul, y_gb, if_pos (q_ib (by omega) (by omega)), q_cl (by omega), rl, lm_R21 Lt, y_gs, if_pos (lm_S239 Lt), lm_N239 Lt, y_gb, if_pos (show ib (4 : Int32) 6 = true from by decide), show (4 : Int32).toNatClampNeg = 4 from by decide, s4m, y_gb, if_pos (decide_eq_true ne0), md, y_lt, y_lt, y_lt, y_lt, show (1 : Int32) = nI 1 from rfl, q_add, q_add, cN]
          by_cases w : mLi ((Ql s).getD i x0) % N s 0 4 = t
          · rw [if_neg (fun q => q (by rw [w])), if_pos w]
          · rw [if_pos (fun q => w ((q_eq (by omega) ht).mp q)), if_neg w, show (0 : Int32) = nI 0 from rfl, q_add]
        rw [c1, c2]
        exact ih (i + 1) f' g' (by omega) (by omega) (by omega)
    obtain ⟨z1, z2⟩ := key (Ql s).length 0 FU FU (by omega) (FU_gt (by omega)) (FU_gt (by omega))
    have z1' : f_X4_countAt_L4 h FU 19 (nI t) (0 : Int32) (0 : Int32) = some (nI (cnt s t (Ql s).length)) := z1
    have z2' : f_X11_waiting_L25 FU (sI m 226 0 (0 : Int32)) 226 (nI t) (0 : Int32) (0 : Int32) = some (nI (cnt s t (Ql s).length), sI m 226 0 (0 : Int32)) := z2
    unfold f_X4_countAt
    rw [y_lt, y_lt, z1', y_bds, y_lt, y_lt, z2']
    exact Cp_ok R he rfl rfl
  · rw [if_pos ((q_le (show N s 0 4 < 2 ^ 31 by omega) ht).mpr (by omega)), if_neg (fun q => g ((q_lt ht (by omega)).mp q))]
    exact Cp_ok R he rfl rfl
