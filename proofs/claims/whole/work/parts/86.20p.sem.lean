/-! Loads. -/
theorem msk_msk (x : Int32) {j : Nat} (hj : j ≤ 2) : (x &&& (8191 : Int32)) &&& nI (2 ^ j - 1) = x &&& nI (2 ^ j - 1) := by
  refine bt_ext (fun i hi => ?_)
  rw [show (8191 : Int32) = nI (2 ^ 13 - 1) from by decide, bt_and, bt_and, bt_and, bt_nI _ _ hi, bt_nI _ _ hi, Nat.testBit_two_pow_sub_one, Nat.testBit_two_pow_sub_one]
  by_cases e : i < j
  · simp [e, show i < 13 by omega]
  · simp [e]
/-- an address, and whether it stands well -/
theorem al_iff (x : Int32) {j a : Nat} (hj : j ≤ 2) (ha : a < 8192) (h : x &&& (8191 : Int32) = nI a) : (x - x / nI (2 ^ j) * nI (2 ^ j) = 0 ↔ a % 2 ^ j = 0) ∧ nI a &&& nI (2 ^ j - 1) = nI (a % 2 ^ j) := by
  have p2 : 2 ^ j ≤ 2 ^ 2 := Nat.pow_le_pow_right (by omega) hj
  have p0 : 0 < 2 ^ j := Nat.two_pow_pos j
  have m : nI a &&& nI (2 ^ j - 1) = nI (a % 2 ^ j) := q_and (by omega) (by omega)
  refine ⟨?_, m⟩
  rw [rem_and x hj, ← msk_msk x hj, h, m]
  have : a % 2 ^ j < 2 ^ j := Nat.mod_lt _ p0
  exact q_eq (by omega) (show 0 < 2 ^ 31 by omega)
theorem sz_c : ∀ f, f < 8 → f ≠ 3 → f ≤ 5 → (1 : Int32) <<< ((nI f &&& (3 : Int32)) &&& 31) = nI (2 ^ (f % 4)) ∧ f % 4 ≤ 2 ∧ nI f - nI f / (4 : Int32) * (4 : Int32) = nI (f % 4) := by decide +kernel
theorem nd_c : ∀ j, j ≤ 2 → ∀ t, t < 4 → t % 2 ^ j = 0 → ((((1 : Int32) <<< (nI (2 ^ j) &&& 31)) - (1 : Int32)) <<< (nI t &&& 31)) = nI ((2 ^ 2 ^ j - 1) * 2 ^ t) ∧ (2 ^ 2 ^ j - 1) * 2 ^ t < 16 := by decide +kernel
theorem sz_1 : ∀ j, j ≤ 2 → nI (2 ^ j) - (1 : Int32) = nI (2 ^ j - 1) ∧ ¬ nI (2 ^ j) = 0 := by decide +kernel
/-- the bits of a choice of bytes -/
theorem bb_bits : ∀ j, j ≤ 2 → ∀ t, t < 4 → t % 2 ^ j = 0 → ∀ i, i < 32 → bt (BB ((2 ^ 2 ^ j - 1) * 2 ^ t)) i = decide (8 * t ≤ i ∧ i < 8 * t + 8 * 2 ^ j) := by decide +kernel
theorem bt_8 (y : Int32) {i : Nat} (hi : i < 32) : bt (y.toInt8.toInt32) i = if i < 8 then bt y i else bt y 7 := by
  unfold bt
  have e : (y.toInt8.toInt32).toBitVec = (y.toBitVec.setWidth 8).signExtend 32 := by rw [Int8.toBitVec_toInt32, Int32.toBitVec_toInt8, BitVec.signExtend_eq_setWidth_of_le y.toBitVec (show 8 ≤ 32 by omega)]
  rw [e, BitVec.getLsbD_signExtend]
  simp only [hi, decide_true, Bool.true_and]
  by_cases g : i < 8
  · rw [if_pos g, if_pos g, BitVec.getLsbD_setWidth]; simp [g]
  · rw [if_neg g, if_neg g, BitVec.msb_eq_getLsbD_last, BitVec.getLsbD_setWidth]; simp
theorem bt_16 (y : Int32) {i : Nat} (hi : i < 32) : bt (y.toInt16.toInt32) i = if i < 16 then bt y i else bt y 15 := by
  unfold bt
  have e : (y.toInt16.toInt32).toBitVec = (y.toBitVec.setWidth 16).signExtend 32 := by rw [Int16.toBitVec_toInt32, Int32.toBitVec_toInt16, BitVec.signExtend_eq_setWidth_of_le y.toBitVec (show 16 ≤ 32 by omega)]
  rw [e, BitVec.getLsbD_signExtend]
  simp only [hi, decide_true, Bool.true_and]
  by_cases g : i < 16
  · rw [if_pos g, if_pos g, BitVec.getLsbD_setWidth]; simp [g]
  · rw [if_neg g, if_neg g, BitVec.msb_eq_getLsbD_last, BitVec.getLsbD_setWidth]; simp
theorem bt_ss (y : Int32) {k i : Nat} (hk : k < 32) (hi : i < 32) : bt ((y <<< nI k) >>> nI k) i = if k + i < 32 then bt y i else bt y (31 - k) := by
  rw [bt_sar _ hk hi]
  by_cases g : k + i < 32
  · rw [if_pos g, if_pos g, bt_shl _ hk g]
    simp [show k ≤ k + i by omega, show k + i - k = i by omega]
  · rw [if_neg g, if_neg g, BitVec.msb_eq_getLsbD_last]
    show bt (y <<< nI k) 31 = _
    rw [bt_shl _ hk (by omega)]
    simp [show k ≤ 31 by omega]
def ldv (f : Nat) (r : Int32) : Int32 := if f = 0 then r.toInt8.toInt32 else if f = 1 then r.toInt16.toInt32 else r
theorem ld_eq (h : AH) {f t : Nat} {g : Int32} (h8 : f < 8) (h3 : f ≠ 3) (h5 : f ≤ 5) (ht : t < 4) (hal : t % 2 ^ (f % 4) = 0) :
    f_X0_extend h (jushr g (nI (8 * t))) (nI f) = some (ldv f (jushr (g &&& BB ((2 ^ 2 ^ (f % 4) - 1) * 2 ^ t)) (nI (8 * t)))) := by
  unfold f_X0_extend ldv
  have k : 8 * t < 32 := by omega
  have bb := fun i (hi : i < 32) => bb_bits (f % 4) (by omega) t ht hal i hi
  have jb : ∀ i, i < 32 → bt (jushr (g &&& BB ((2 ^ 2 ^ (f % 4) - 1) * 2 ^ t)) (nI (8 * t))) i = (bt g (8 * t + i) && decide (i < 8 * 2 ^ (f % 4))) := by
    intro i hi
    rw [bt_jus _ k, bt_and]
    by_cases e : 8 * t + i < 32
    · rw [bb _ e]
      congr 1
      apply decide_eq_decide.mpr; omega
    · rw [bt_hi g (by omega)]; simp
  have jc : ∀ i, bt (jushr g (nI (8 * t))) i = bt g (8 * t + i) := fun i => bt_jus g k i
  generalize jushr (g &&& BB ((2 ^ 2 ^ (f % 4) - 1) * 2 ^ t)) (nI (8 * t)) = r at jb ⊢
  generalize jushr g (nI (8 * t)) = y at jc ⊢
  have : (f = 0 ∧ 8 * 2 ^ (f % 4) = 8) ∨ (f = 1 ∧ 8 * 2 ^ (f % 4) = 16) ∨ (f = 2 ∧ 8 * 2 ^ (f % 4) = 32) ∨ (f = 4 ∧ 8 * 2 ^ (f % 4) = 8) ∨ (f = 5 ∧ 8 * 2 ^ (f % 4) = 16) := by
    have : f = 0 ∨ f = 1 ∨ f = 2 ∨ f = 4 ∨ f = 5 := by omega
    rcases this with rfl | rfl | rfl | rfl | rfl <;> simp
  generalize 8 * 2 ^ (f % 4) = W at jb this
  clear bb hal
  rcases this with ⟨rfl, rfl⟩ | ⟨rfl, rfl⟩ | ⟨rfl, rfl⟩ | ⟨rfl, rfl⟩ | ⟨rfl, rfl⟩
  · rw [if_pos (by decide), if_pos rfl, show ((24 : Int32) &&& 31) = nI 24 from by decide]
    refine congrArg some (bt_ext (fun i hi => ?_))
    rw [bt_ss _ (by omega) hi, bt_8 _ hi]
    by_cases e : i < 8
    · rw [if_pos (by omega), if_pos e, jc, jb i hi]; simp [e]
    · rw [if_neg (by omega), if_neg e, jc, jb 7 (by omega)]; simp
  · rw [if_neg (by decide), if_pos (by decide), if_neg (by decide), if_pos rfl, show ((16 : Int32) &&& 31) = nI 16 from by decide]
    refine congrArg some (bt_ext (fun i hi => ?_))
    rw [bt_ss _ (by omega) hi, bt_16 _ hi]
    by_cases e : i < 16
    · rw [if_pos (by omega), if_pos e, jc, jb i hi]; simp [e]
    · rw [if_neg (by omega), if_neg e, jc, jb 15 (by omega)]; simp
  · rw [if_neg (by decide), if_neg (by decide), if_neg (by decide), if_neg (by decide), if_neg (by decide), if_neg (by decide)]
    refine congrArg some (bt_ext (fun i hi => ?_))
    rw [jc, jb i hi]; simp [hi]
  · rw [if_neg (by decide), if_neg (by decide), if_pos (by decide), if_neg (by decide), if_neg (by decide)]
    refine congrArg some (bt_ext (fun i hi => ?_))
    rw [bt_and, jc, jb i hi, show (255 : Int32) = nI (2 ^ 8 - 1) from by decide, bt_nI _ _ hi, Nat.testBit_two_pow_sub_one]
  · rw [if_neg (by decide), if_neg (by decide), if_neg (by decide), if_pos (by decide), if_neg (by decide), if_neg (by decide)]
    refine congrArg some (bt_ext (fun i hi => ?_))
    rw [bt_and, jc, jb i hi, show (65535 : Int32) = nI (2 ^ 16 - 1) from by decide, bt_nI _ _ hi, Nat.testBit_two_pow_sub_one]
theorem J_mono {h m : AH} {s : St} {e : Ex} {b b' : Nat} {X Y : Option (Int32 × AH)} (J : Jn h m s e b X Y) (h1 : b ≤ b') (h2 : b' ≤ 536870912) : Jn h m s e b' X Y := by
  obtain ⟨h', m', s', e', r, a1, a2, a3, a4, a5, a6, a7, a8⟩ := J
  exact ⟨h', m', s', e', r, a1, a2, a3, Rel_up a4 h1 h2, a5, a6, a7, a8⟩
theorem J_load {h m m2 : AH} {s : St} {e : Ex} {b c d f : Nat} {w x : Int32} (K : Ctx h m m2 s e b c d f w) : Jn h m s e (b + 2) (f_X3_loaded h (34 + 12 * c) w (x &&& (8191 : Int32))) (f_X11_load m2 226 (nI c) (nI f) (nI d) x) := by
  have c16 := Ctx_16 K
  have L := RC_L K.1.1.1
  have L2 := Ctx_L K
  obtain ⟨R, hc, Q, hd, f8', hd2, hf, hb⟩ := id K
  have J2 : Jn h m s e (b + 2) (f_X3_stopped h (34 + 12 * c) w (2 : Int32)) (f_X11_stops m2 226 (nI c) (2 : Int32)) := J_stop (why := 2) K (by omega)
  have J4 : Jn h m s e (b + 2) (f_X3_stopped h (34 + 12 * c) w (4 : Int32)) (f_X11_stops m2 226 (nI c) (4 : Int32)) := J_stop (why := 4) K (by omega)
  obtain ⟨a, ha, hxa⟩ := msk_n x (j := 13) (by omega)
  have hxa' : x &&& (8191 : Int32) = nI a := hxa
  have a8 : a < 8192 := ha
  have J10 : Jn h m s e (b + 2) (f_X3_loaded_L15 h (34 + 12 * c) w) (f_X11_load_L10 m2 226 (nI c)) := by
    unfold f_X3_loaded_L15 f_X11_load_L10
    rw [y_gs, if_pos (lk_S34 L c16), y_gs, if_pos (lm_S226 L2), bd_id, bd_id]; exact J2
  unfold f_X3_loaded f_X11_load
  rw [c_variant h hf, y_bds, hxa']
  by_cases g3 : f = 3
  · have e3 : nI f = (3 : Int32) := by rw [g3]; rfl
    rw [if_pos e3, if_pos e3]; exact J10
  · have e3 : ¬ nI f = (3 : Int32) := fun w => g3 ((nIf f8' (show 3 < 2 ^ 31 by omega)).mp w)
    rw [if_neg e3, if_neg e3]
    by_cases g5 : f ≤ 5
    · have e5 : nI f ≤ (5 : Int32) := (q_le (by omega) (show 5 < 2 ^ 31 by omega)).mpr g5
      obtain ⟨z1, z2, z3⟩ := sz_c f f8' g3 g5
      rw [if_pos e5, if_pos e5, y_lt, z1, z3, (sz_1 _ z2).1]
      obtain ⟨al1, al2⟩ := al_iff x z2 a8 hxa'
      have pm : a % 2 ^ (f % 4) < 2 ^ (f % 4) := Nat.mod_lt _ (Nat.two_pow_pos _)
      have p4 : 2 ^ (f % 4) ≤ 2 ^ 2 := Nat.pow_le_pow_right (by omega) z2
      rw [al2]
      -- the reference's choice of the size
      have l39 : (if ¬ nI (f % 4) = 0 then if ¬ nI (f % 4) = (1 : Int32) then f_X11_load_L39 m2 226 (nI c) (nI f) (nI d) x (4 : Int32) else f_X11_load_L39 m2 226 (nI c) (nI f) (nI d) x (2 : Int32) else f_X11_load_L39 m2 226 (nI c) (nI f) (nI d) x (1 : Int32)) = f_X11_load_L39 m2 226 (nI c) (nI f) (nI d) x (nI (2 ^ (f % 4))) := by
        have : f % 4 = 0 ∨ f % 4 = 1 ∨ f % 4 = 2 := by omega
        rcases this with q | q | q
        · rw [q, if_neg (fun w => w rfl)]; rfl
        · rw [q, if_pos (by decide), if_neg (fun w => w (by decide))]; rfl
        · rw [q, if_pos (by decide), if_pos (by decide)]; rfl
      rw [l39]
      unfold f_X11_load_L39
      rw [y_gb, if_pos (decide_eq_true (sz_1 _ z2).2)]
      by_cases ga : a % 2 ^ (f % 4) = 0
      · have ga0 : nI (a % 2 ^ (f % 4)) = 0 := by rw [ga]; rfl
        have t4 : a % 4 < 4 := Nat.mod_lt _ (by omega)
        have tal : (a % 4) % 2 ^ (f % 4) = 0 := by
          have : f % 4 = 0 ∨ f % 4 = 1 ∨ f % 4 = 2 := by omega
          rcases this with q | q | q <;> rw [q] at ga ⊢ <;> simp only [Nat.reducePow] at ga ⊢ <;> omega
        obtain ⟨n1, n2⟩ := nd_c _ z2 (a % 4) t4 tal
        have a3 : nI a &&& (3 : Int32) = nI (a % 4) := q_and (k := 2) (by omega) (by omega)
        have r4 : nI a - nI a / (4 : Int32) * (4 : Int32) = nI (a % 4) := q_rem (d := 4) (by omega) (by omega)
        rw [if_pos ga0, if_pos (al1.mpr ga), y_lt, y_lt, hxa', y_lt, a3, r4, n1, y_gs, if_pos (lk_S34 L c16), q_sub (show a % 4 ≤ a from Nat.mod_le _ _), show a - a % 4 = 4 * (a / 4) by omega, y_gs, if_pos (lm_S226 L2)]
        obtain ⟨h1, m1, s1, ⟨R1, B1, M1, N1, T1⟩, cs⟩ := reads_both (A := a / 4) (nd := (2 ^ 2 ^ (f % 4) - 1) * 2 ^ (a % 4)) (a := a) (Rel_Q R Q) hc (by omega) n2 a8 rfl (by omega)
        rcases cs with ⟨c1, c2⟩ | ⟨c1, c2, c3⟩
        · rw [c1, c2, y_bds, y_bds, if_neg (fun w => w rfl), if_neg (fun w => w rfl)]
          exact ⟨h1, m1, s1, e, 3, rfl, rfl, by omega, Rel_up R1 (by omega) hb, B1, M1.trans Q.1, N1, fun _ _ _ => rfl⟩
        · have L1 := RC_L R1.1.1
          have LM1 := rm_L R1.2.1
          rw [c1, c2, y_bds, y_bds, if_pos (show ¬ (nI 1, h1).1 = 0 from (by decide : ¬ nI 1 = 0)), if_pos (show ¬ (nI 1, m1).1 = 0 from (by decide : ¬ nI 1 = 0))]
          dsimp only
          rw [y_gs, if_pos (lk_S34 L1 c16), show (8 : Int32) = nI 8 from rfl, q_mul, ld_eq h1 f8' g3 g5 t4 tal, y_bds, y_gs, if_pos (lm_S226 LM1), y_lt, c3]
          generalize hv : ldv f (jushr (hI h1 (34 + 12 * c) 16 &&& BB ((2 ^ 2 ^ (f % 4) - 1) * 2 ^ (a % 4))) (nI (8 * (a % 4)))) = v
          have l122 : (if ¬ nI f = 0 then f_X11_load_L112 m1 226 (nI c) (nI f) (nI d) (nI a) (jushr (hI h1 (34 + 12 * c) 16 &&& BB ((2 ^ 2 ^ (f % 4) - 1) * 2 ^ (a % 4))) (nI (8 * (a % 4)))) else lt ((jushr (hI h1 (34 + 12 * c) 16 &&& BB ((2 ^ 2 ^ (f % 4) - 1) * 2 ^ (a % 4))) (nI (8 * (a % 4)))).toInt8.toInt32) fun x11 => f_X11_load_L112 m1 226 (nI c) (nI f) (nI d) (nI a) x11) = f_X11_load_L122 m1 226 (nI c) (nI d) (nI a) v := by
            rw [← hv]
            unfold f_X11_load_L112 ldv
            by_cases q0 : f = 0
            · rw [q0, if_neg (fun w => w rfl), y_lt, if_pos (by decide), if_pos rfl]
            · rw [if_pos (show ¬ nI f = 0 from fun w => q0 ((nIf f8' (show 0 < 2 ^ 31 by omega)).mp w)), if_neg q0]
              by_cases q1 : f = 1
              · rw [q1, if_neg (fun w => w rfl), y_lt, if_pos rfl]
              · rw [if_pos (show ¬ nI f = (1 : Int32) from fun w => q1 ((nIf f8' (show 1 < 2 ^ 31 by omega)).mp w)), if_neg q1]
          rw [l122]
          unfold f_X11_load_L122 f_X3_loaded_L112
          obtain ⟨_, ⟨u2, u3, u4⟩, _⟩ := R1.2.2.2.2.1 c c16
          have e4 : hI (sI (sI (if d = 0 then m1 else sI m1 243 (32 * c + d) v) 226 41 (nI a)) 226 42 v) 244 c = nI (e 0 c) := by
            rw [x_ne (by omega), x_ne (by omega)]
            split
            · exact u3
            · rw [x_ne (by omega)]; exact u3
          have LI := LM_if LM1 (d := d) (o := 243) (k := 32 * c + d) (v := v)
          have L5 : LM (sI (sI (if d = 0 then m1 else sI m1 243 (32 * c + d) v) 226 41 (nI a)) 226 42 v) := LI
          have M : M2 m1 (sI (sI (if d = 0 then m1 else sI m1 243 (32 * c + d) v) 226 41 (nI a)) 226 42 v) c d v w (nI a) v 0 := by
            have t := fun k hk => T1 k hk
            have f1 : ∀ o k, o = 226 → hI (if d = 0 then m1 else sI m1 243 (32 * c + d) v) o k = hI m1 o k := by
              intro o k ho; split
              · rfl
              · exact x_ne (by omega)
            refine ⟨by show (if d = 0 then m1 else sI m1 243 (32 * c + d) v).2 = m1.2; split <;> rfl, fun o k h1' h2' => ?_, fun h' => ?_, fun k q1 q2 q3 q4 q5 q6 => ?_, ?_, ?_, ?_, ?_, ?_⟩
            · rw [x_ne (by omega), x_ne (by omega)]
              split
              · rfl
              · exact x_ne (by omega)
            · rw [x_ne (by omega), x_ne (by omega), if_neg h', x_eq]
            · rw [x_ne (by omega), x_ne (by omega), f1 _ _ rfl]
            · rw [x_ne (by omega), x_ne (by omega), f1 _ _ rfl, t 78 (by omega)]; exact Q.2.2.2.1
            · rw [x_ne (by omega), x_ne (by omega), f1 _ _ rfl, t 40 (by omega)]; exact Q.2.2.2.2.1
            · rw [x_ne (by omega), x_eq]
            · rw [x_eq]
            · rw [x_ne (by omega), x_ne (by omega), f1 _ _ rfl, t 43 (by omega)]; exact Q.2.2.2.2.2.2.2
          obtain ⟨h', m', e', b1, b2, b3, b4, b5, b6⟩ := fin_both (np := nI (e 0 c) + (4 : Int32)) R1 (by rw [N1]; exact hc) hd M (by omega)
          rw [c_d hd2, u2, b1, y_bds, y_gs, if_pos (lm_S226 LM1), r_setReg LM1 c16 hd, y_bds, y_gs, if_pos (lm_S226 LI), y_lt, y_lt, lm_R26 L5, y_gs, if_pos (lm_S244 L5), lm_N244 L5, y_gb, if_pos (q_ib c16 (by omega)), q_cl (by omega), e4, b2, y_bds]
          exact ⟨h', m', s1, e', 1, rfl, rfl, by omega, b3, Bd_tr B1 b4, b5.trans (M1.trans Q.1), N1, b6⟩
      · have ga0 : ¬ nI (a % 2 ^ (f % 4)) = 0 := fun w => ga ((q_eq (by omega) (show 0 < 2 ^ 31 by omega)).mp w)
        rw [if_neg ga0, if_neg (fun w => ga (al1.mp w)), y_gs, if_pos (lk_S34 L c16), y_gs, if_pos (lm_S226 L2), bd_id, bd_id]
        exact J4
    · have e5 : ¬ nI f ≤ (5 : Int32) := fun w => g5 ((q_le (by omega) (show 5 < 2 ^ 31 by omega)).mp w)
      rw [if_neg e5, if_neg e5]; exact J10
