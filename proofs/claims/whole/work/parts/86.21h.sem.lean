/-! fault, memory, message, cached, copy. -/
theorem call_fault {h m : AH} {s : St} {e : Ex} {b : Nat} (x : Int32) (R : Rel h m s e b) (he : e 8 0 = e 8 1) : Cp h m e b (f_X10_fault h 1 x) (f_X11_fault m 226 x) := by
  have L := RC_L R.1.1
  have L2 := rm_L R.2.1
  obtain ⟨_, _, ⟨y5, y6⟩, _⟩ := R.2.2.2.2.2
  unfold f_X10_fault f_X11_fault
  rw [y_gs, if_pos (lc_S1 L), y_gs, if_pos (lc_S1 L), y_gs, if_pos (lm_S226 L2), y_lt, x_ne (by omega), x_ne (by omega), y5, y6]
  by_cases g0 : x = 0
  · rw [if_neg (fun w => w g0), if_neg (fun w => w g0)]; exact Cp_ok R he rfl rfl
  · rw [if_pos g0, if_pos g0]
    by_cases g1 : x = (1 : Int32)
    · rw [if_neg (fun w => w g1), if_neg (fun w => w g1)]; exact Cp_ok R he rfl rfl
    · rw [if_pos g1, if_pos g1]; exact Cp_ok R he rfl rfl
theorem isw (h m : AH) (x : Int32) : (∃ A, A < 2048 ∧ x = nI (4 * A) ∧ f_X10_isWord h x = some 1 ∧ f_X11_isAddress m x = some 1) ∨ (f_X10_isWord h x = some 0 ∧ f_X11_isAddress m x = some 0) := by
  unfold f_X10_isWord f_X11_isAddress
  by_cases g0 : x < 0
  · right; rw [if_pos g0, if_pos g0]; exact ⟨rfl, rfl⟩
  · rw [if_neg g0, if_neg g0]
    obtain ⟨a, ha, rfl⟩ := nlt0 g0
    by_cases g8 : a < 8192
    · have n8 : ¬ (8192 : Int32) ≤ nI a := fun q => by have := (q_le (show 8192 < 2 ^ 31 by omega) ha).mp q; omega
      have a3 : nI a &&& (3 : Int32) = nI (a % 4) := q_and (k := 2) (by omega) (by omega)
      have r4 : nI a - nI a / (4 : Int32) * (4 : Int32) = nI (a % 4) := q_rem (d := 4) (by omega) (by omega)
      rw [if_neg n8, if_neg n8, a3, r4]
      by_cases g4 : a % 4 = 0
      · left; rw [g4, if_neg (fun q => q rfl)]
        exact ⟨a / 4, by omega, by rw [show 4 * (a / 4) = a by omega], rfl, rfl⟩
      · have z : ¬ nI (a % 4) = 0 := fun q => g4 ((q_eq (by omega) (show 0 < 2 ^ 31 by omega)).mp q)
        right; rw [if_pos z]; exact ⟨rfl, rfl⟩
    · have n8 : (8192 : Int32) ≤ nI a := (q_le (show 8192 < 2 ^ 31 by omega) ha).mpr (by omega)
      right; rw [if_pos n8, if_pos n8]; exact ⟨rfl, rfl⟩
theorem sh2 {A : Nat} (hA : A < 2048) : nI (4 * A) >>> ((2 : Int32) &&& 31) = nI A ∧ nI (4 * A) / (4 : Int32) = nI A ∧ nI (4 * A) >>> ((4 : Int32) &&& 31) = nI (A / 4) ∧ nI (4 * A) / (16 : Int32) = nI (A / 4) := by
  refine ⟨?_, ?_, ?_, ?_⟩
  · rw [show ((2 : Int32) &&& 31) = nI 2 from by decide, q_shr (by omega) (by omega), show 4 * A / 2 ^ 2 = A by omega]
  · have := q_div (a := 4 * A) (d := 4) (by omega) (by omega)
    rw [show 4 * A / 4 = A by omega] at this; exact this
  · rw [show ((4 : Int32) &&& 31) = nI 4 from by decide, q_shr (by omega) (by omega), show 4 * A / 2 ^ 4 = A / 4 by omega]
  · have := q_div (a := 4 * A) (d := 16) (by omega) (by omega)
    rw [show 4 * A / 16 = A / 4 by omega] at this; exact this
theorem call_memory {h m : AH} {s : St} {e : Ex} {b : Nat} (x : Int32) (R : Rel h m s e b) (he : e 8 0 = e 8 1) : Ch 0 h m e b (f_X10_memory h 1 x) (f_X11_memory m 226 x) := by
  have L := RC_L R.1.1
  have L2 := rm_L R.2.1
  unfold f_X10_memory f_X11_memory f_X11_memory_L13
  rcases isw h m x with ⟨A, hA, rfl, i1, i2⟩ | ⟨i1, i2⟩
  · obtain ⟨a1, a2, a3, a4⟩ := sh2 hA
    have Lt : LM (sI m 226 0 (0 : Int32)) := L2
    have c : hI h 20 A = w4 (Wda s 1 (A / 4)) (A % 4) := by
      have := R.1.1.2.2.2.2.2.1 (A / 4) (A % 4) (by omega) (by omega)
      rw [show 4 * (A / 4) + A % 4 = A by omega] at this; exact this
    have r : hI m 242 A = w4 (Wda s 1 (A / 4)) (A % 4) := by
      have := R.2.1.2.2.1 1 (A / 4) (A % 4) (by omega) (by omega) (by omega)
      rw [show 4 * (A / 4) + A % 4 = A by omega] at this; exact this
    refine Ch_ok R he (v := hI h 20 A) ?_ ?_
    · rw [i1, y_bds, if_pos (by decide), y_gs, if_pos (lc_S1 L), lc_R1_3 L, y_gs, if_pos (lc_S19 L), lc_R19_1 L, y_gs, if_pos (lc_S20 L), lc_N20 L, a1, y_gb, if_pos (q_ib hA (by omega)), q_cl (by omega)]
    · rw [i2, y_bds, if_neg (by decide), y_gs, if_pos (lm_S226 L2), y_lt, y_gs, if_pos (lm_S226 Lt), x_eq, if_pos rfl, lm_R24 Lt, y_gs, if_pos (lm_S242 Lt), lm_N242 Lt, a2, y_gb, if_pos (q_ib hA (by omega)), q_cl (by omega), x_ne (by omega), r, c]
  · have Lt : LM (sI m 226 0 (1 : Int32)) := L2
    refine Ch_no R he (v := 0) ?_ ?_
    · rw [i1, y_bds, if_neg (fun q => q rfl)]
    · rw [i2, y_bds, if_pos rfl, y_gs, if_pos (lm_S226 L2), y_lt, y_gs, if_pos (lm_S226 Lt), x_eq, if_neg (by decide)]
theorem call_message {h m : AH} {s : St} {e : Ex} {b : Nat} (x y : Int32) (R : Rel h m s e b) (he : e 8 0 = e 8 1) : Ch 0 h m e b (f_X10_message h 1 x y) (f_X11_message m 226 x y) := by
  have L := RC_L R.1.1
  have L2 := rm_L R.2.1
  have ln := len_lt R
  have pl : hI h 16 1 = nI (Pl s).length := R.1.1.2.2.2.2.2.2.1.1
  have no : Ch 0 h m e b (f_X10_message_L25 h) (f_X11_message_L22 m 226) := by
    refine Ch_no R he (v := 0) rfl ?_
    unfold f_X11_message_L22
    rw [y_gs, if_pos (lm_S226 L2), r_raise L2, y_bds]
  unfold f_X10_message f_X11_message
  by_cases xng : x < 0
  · rw [if_pos xng, if_pos xng]; exact no
  rw [if_neg xng, if_neg xng, y_gs, if_pos (lc_S1 L), lc_R1_2 L, y_gs, if_pos (lc_S16 L), pl, y_gs, if_pos (lm_S226 L2), rm_p R.2.1]
  obtain ⟨i, hi, rfl⟩ := nlt0 xng
  by_cases g : i < (Pl s).length
  · have n1 : ¬ nI (Pl s).length ≤ nI i := fun q => by have := (q_le (by omega) hi).mp q; omega
    rw [if_neg n1, if_neg n1]
    by_cases y0 : y < 0
    · rw [if_pos y0, if_pos y0]; exact no
    rw [if_neg y0, if_neg y0]
    obtain ⟨j, hj, rfl⟩ := nlt0 y0
    have Lt : LM (sI m 226 0 (0 : Int32)) := L2
    have k11 := wf_k R g
    by_cases g9 : j ≤ 9
    · have l9 : nI j ≤ (9 : Int32) := (q_le hj (show 9 < 2 ^ 31 by omega)).mpr g9
      rw [if_pos l9, if_pos l9, y_lt]
      by_cases e9 : j = 9
      · subst e9
        have cg : f_X6_get h 16 (nI i) (0 : Int32) = some (nI (mKi ((Pl s).getD i x0))) := c_get (j := 0) R.1.1 g (by omega)
        have rg : hI m 271 (9 * i) = nI (mKi ((Pl s).getD i x0)) := rm_pi (j := 0) R.2.1 g (by omega)
        rw [if_neg (fun q => q rfl), if_neg (fun q => q rfl), cg, y_bds, y_gb, if_pos (q_ib k11 (by omega)), q_cl (show mKi ((Pl s).getD i x0) < 2 ^ 31 by omega), ch_c _ k11, lm_R60 Lt, y_gs, if_pos (lm_S271 Lt), lm_N271 Lt, show (9 : Int32) = nI 9 from rfl, q_mul, y_gb, if_pos (q_ib (by omega) (by omega)), q_cl (show 9 * i < 2 ^ 31 by omega), x_ne (by omega), rg, ch_r _ _ k11, y_bds]
        exact Ch_ok R he rfl rfl
      · have n9 : ¬ nI j = (9 : Int32) := fun q => e9 ((q_eq hj (show 9 < 2 ^ 31 by omega)).mp q)
        rw [if_pos n9, if_pos n9, c_get R.1.1 g (by omega), y_bds, lm_R60 Lt, y_gs, if_pos (lm_S271 Lt), lm_N271 Lt, show (9 : Int32) = nI 9 from rfl, q_mul, q_add, y_gb, if_pos (q_ib (by omega) (by omega)), q_cl (show 9 * i + j < 2 ^ 31 by omega), x_ne (by omega), rm_pi R.2.1 g (by omega)]
        exact Ch_ok R he rfl rfl
    · have l9 : ¬ nI j ≤ (9 : Int32) := fun q => g9 ((q_le hj (show 9 < 2 ^ 31 by omega)).mp q)
      rw [if_neg l9, if_neg l9]; exact no
  · have n1 : nI (Pl s).length ≤ nI i := (q_le (by omega) hi).mpr (by omega)
    rw [if_pos n1, if_pos n1]; exact no
theorem call_cached {h m : AH} {s : St} {e : Ex} {b : Nat} (x y : Int32) (R : Rel h m s e b) (he : e 8 0 = e 8 1) : Cp h m e b (f_X10_cached h 1 x y) (f_X11_cached m 226 x y) := by
  have L := RC_L R.1.1
  have L2 := rm_L R.2.1
  have n16 := FR_b R
  have B := IV_Bz R.2.2.1
  have R0 := Rel_thr R 0
  have Lt : LM (sI m 226 0 (0 : Int32)) := L2
  have rc0 : f_X11_isCore (sI m 226 0 (0 : Int32)) 226 x = _ := r_isCore R0.2.1 B x
  unfold f_X10_cached f_X11_cached
  rw [y_gs, if_pos (lc_S1 L), c_isCoreN R.1.1 B, y_bds]
  rw [show (gs m 226 10 <| lt (sI m 226 0 (0 : Int32)) fun h2 => bd (f_X11_isCore h2 226 x) fun v4 => if v4 = 0 then some ((-1 : Int32), h2) else if y < 0 then some ((-1 : Int32), h2) else if y < (512 : Int32) then (bd (f_X11_wayOf h2 226 x y) fun v8 => if ¬ v8 = (-1 : Int32) then gs h2 (hR h2 226 45) 21 <| gb (ib v8 (hN h2 (hR h2 226 45))) <| some ((hI h2 (hR h2 226 45) v8.toNatClampNeg), h2) else some ((0 : Int32), h2)) else some ((-1 : Int32), h2)) = if (if 0 ≤ x ∧ x < nI (N s 0 0) then nI 1 else nI 0) = 0 then some ((-1 : Int32), sI m 226 0 (0 : Int32)) else if y < 0 then some ((-1 : Int32), sI m 226 0 (0 : Int32)) else if y < (512 : Int32) then (bd (f_X11_wayOf (sI m 226 0 (0 : Int32)) 226 x y) fun v8 => if ¬ v8 = (-1 : Int32) then gs (sI m 226 0 (0 : Int32)) (hR (sI m 226 0 (0 : Int32)) 226 45) 21 <| gb (ib v8 (hN (sI m 226 0 (0 : Int32)) (hR (sI m 226 0 (0 : Int32)) 226 45))) <| some ((hI (sI m 226 0 (0 : Int32)) (hR (sI m 226 0 (0 : Int32)) 226 45) v8.toNatClampNeg), sI m 226 0 (0 : Int32)) else some ((0 : Int32), sI m 226 0 (0 : Int32))) else some ((-1 : Int32), sI m 226 0 (0 : Int32)) from by rw [y_gs, if_pos (lm_S226 L2), y_lt, rc0, y_bds]]
  by_cases g : 0 ≤ x ∧ x < nI (N s 0 0)
  · obtain ⟨c, hc, rfl⟩ := core_n (by omega) g
    have c16 : c < 16 := by omega
    obtain ⟨k1, k2, k3⟩ := c_cores L c16
    rw [if_pos g, if_neg (show ¬ nI 1 = 0 from by decide), if_neg (show ¬ nI 1 = 0 from by decide)]
    by_cases y0 : y < 0
    · rw [if_pos y0, if_pos y0]; exact Cp_ok R he rfl rfl
    rw [if_neg y0, if_neg y0]
    obtain ⟨l, hl, rfl⟩ := nlt0 y0
    by_cases g5 : l < 512
    · have l5 : nI l < (512 : Int32) := (q_lt hl (show 512 < 2 ^ 31 by omega)).mpr g5
      have wo : f_X11_wayOf (sI m 226 0 (0 : Int32)) 226 (nI c) (nI l) = some (oI (sWay s c l)) := r_wayOf R0.2.1 B (IV_Rg R.2.2.1) c16 g5
      rw [if_pos l5, if_pos l5, y_gs, if_pos k1, y_gb, if_pos k2, k3, y_gs, if_pos (lk_S34 L c16), lk_R34_6 L c16, y_gs, if_pos (lk_S38 L c16), c_find R.1.1 B (IV_Rg R.2.2.1) c16 g5, y_bds, wo, y_bds, lk_R38_1 L c16]
      cases ew : sWay s c l with
      | none =>
        rw [show Option.map (lo c) none = none from rfl, oI_n, if_neg (show ¬ (0 : Int32) ≤ nN from by decide), if_neg (fun q => q rfl)]
        exact Cp_ok R he rfl rfl
      | some k =>
        obtain ⟨q1, q2, q3, q4⟩ := (sWay_iff B R.2.2.1.2.1.1 c16).mp ew
        have kk : 32 * c + lo c k = k := by unfold lo; omega
        have l32 : lo c k < 32 := by unfold lo; omega
        have st : hI h (40 + 12 * c) (lo c k) = nI (N s 2 k) := by
          have := (R.1.1.2.2.2.1 c (lo c k) c16 l32).1
          rw [kk] at this; exact this
        rw [show Option.map (lo c) (some k) = some (lo c k) from rfl, oI_s, oI_s, if_pos (show (0 : Int32) ≤ nI (lo c k) from (q_le (a := 0) (by omega) (by omega)).mpr (by omega)), y_gb, if_pos k2, y_gs, if_pos (lk_S40 L c16), lk_N40 L c16, y_gb, if_pos (q_ib l32 (by omega)), q_cl (show lo c k < 2 ^ 31 by omega), st, if_pos (show ¬ nI k = (-1 : Int32) from fun q => lt0 (show k < 2 ^ 31 by omega) (q ▸ (by decide : (-1 : Int32) < 0))), lm_R45 Lt, y_gs, if_pos (lm_S259 Lt), lm_N259 Lt, y_gb, if_pos (q_ib q1 (by omega)), q_cl (show k < 2 ^ 31 by omega), x_ne (by omega), rm_2 R.2.1 q1]
        exact Cp_ok R he rfl rfl
    · have l5 : ¬ nI l < (512 : Int32) := fun q => g5 ((q_lt hl (show 512 < 2 ^ 31 by omega)).mp q)
      rw [if_neg l5, if_neg l5]; exact Cp_ok R he rfl rfl
  · rw [if_neg g, if_pos (show nI 0 = 0 from rfl), if_pos (show nI 0 = 0 from rfl)]
    exact Cp_ok R he rfl rfl
