/-! type. -/
theorem k8 : ∀ k, k < 8 → ((8 : Int32) * nI k).toInt64.toUInt64 &&& Int64.toUInt64 63 = UInt64.ofNat (8 * k) ∧ ((8 : Int32) * nI k).toInt64 &&& 63 = Int64.ofNat (8 * k) := by decide +kernel
theorem k8b : ∀ k, k < 8 → ((UInt64.ofNat (8 * k)).toBitVec % 64).toNat = 8 * k ∧ ((Int64.ofNat (8 * k)).toBitVec.smod 64).toNat = 8 * k := by decide +kernel
theorem b255 : ∀ i, i < 32 → (255 : Int64).toBitVec.getLsbD i = decide (i < 8) := by decide +kernel
/-- the character k of a word -/
def chr (w : Int64) (k : Nat) : Nat := (w.toBitVec >>> (8 * k)).toNat % 2 ^ 8
theorem chr_lt (w : Int64) (k : Nat) : chr w k < 256 := Nat.mod_lt _ (by omega)
theorem chr_bt (w : Int64) {k i : Nat} (hi : i < 32) : bt (nI (chr w k)) i = (decide (i < 8) && w.toBitVec.getLsbD (8 * k + i)) := by
  rw [bt_nI _ _ hi]; unfold chr
  rw [Nat.testBit_mod_two_pow, BitVec.testBit_toNat, BitVec.getLsbD_ushiftRight]
theorem sx_lo (x : BitVec 64) {i : Nat} (hi : i < 32) : (BitVec.signExtend 32 x).getLsbD i = x.getLsbD i := by
  rw [BitVec.getLsbD_signExtend]; simp [hi, show i < 64 by omega]
theorem lus_bt (w : Int64) {k i : Nat} (hk : k < 8) : (jlushr w ((8 : Int32) * nI k)).toBitVec.getLsbD i = w.toBitVec.getLsbD (8 * k + i) := by
  unfold jlushr
  rw [(k8 k hk).1, UInt64.toBitVec_toInt64, UInt64.toBitVec_shiftRight, Int64.toBitVec_toUInt64, BitVec.ushiftRight_eq', BitVec.getLsbD_ushiftRight, (k8b k hk).1]
theorem ch1 (w : Int64) {k : Nat} (hk : k < 8) : (jlushr w ((8 : Int32) * nI k)).toInt32 &&& (255 : Int32) = nI (chr w k) := by
  refine bt_ext (fun i hi => ?_)
  rw [bt_and, show (255 : Int32) = nI (2 ^ 8 - 1) from by decide, bt_nI (2 ^ 8 - 1) _ hi, Nat.testBit_two_pow_sub_one, chr_bt w hi]
  unfold bt
  rw [Int64.toBitVec_toInt32, sx_lo _ hi, lus_bt w hk, Bool.and_comm]
theorem ch2 (w : Int64) {k : Nat} (hk : k < 8) : ((w >>> (((8 : Int32) * nI k).toInt64 &&& 63)) &&& (255 : Int64)).toInt32 = nI (chr w k) := by
  refine bt_ext (fun i hi => ?_)
  rw [chr_bt w hi]
  unfold bt
  rw [Int64.toBitVec_toInt32, sx_lo _ hi, Int64.toBitVec_and, BitVec.getLsbD_and, b255 i hi, (k8 k hk).2, Int64.toBitVec_shiftRight, BitVec.getLsbD_sshiftRight', (k8b k hk).2, Bool.and_comm]
  by_cases g : i < 8
  · simp [g, show ¬ 64 ≤ i by omega, show 8 * k + i < 64 by omega]
  · simp [g]
theorem ch3' (w : Int64) {k : Nat} (hk : k < 8) : ((jlushr w ((8 : Int32) * nI k)) &&& (255 : Int64)).toInt32 = nI (chr w k) := by
  refine bt_ext (fun i hi => ?_)
  rw [chr_bt w hi]
  unfold bt
  rw [Int64.toBitVec_toInt32, sx_lo _ hi, Int64.toBitVec_and, BitVec.getLsbD_and, b255 i hi, lus_bt w hk, Bool.and_comm]
theorem c16 : ∀ c, c < 256 → (ji2c (nI c)).toUInt32.toUInt16.toUInt32.toInt32 = nI c := by decide +kernel
theorem ch3 (w : Int64) {k : Nat} (hk : k < 8) : (ji2c (((jlushr w ((8 : Int32) * nI k)) &&& (255 : Int64)).toInt32)).toUInt32.toUInt16.toUInt32.toInt32 = nI (chr w k) := by
  rw [ch3' w hk]; exact c16 _ (chr_lt w k)
/-- one more on the tape -/
def e9 (e : Ex) (T c : Nat) : Ex := fun F i => if F = 9 ∧ i = T then c else if F = 8 ∧ i ≤ 1 then T + 1 else e F i
theorem mark_both {h m : AH} {s : St} {e : Ex} {b T c : Nat} (R : Rel h m s e b) (h0 : e 8 0 = T) (h1 : e 8 1 = T) (hT : T < 1500) (c1 : 32 ≤ c) (c2 : c ≤ 126) : Rel (sI (sI h 3 T (nI c)) 2 1 (nI (T + 1))) (sI (sI m 227 T (nI c)) 226 2 (nI (T + 1))) s (e9 e T c) b := by
  refine Rel_g R rfl (fun o k g => by rw [x_ne (by omega), x_ne (by omega)]) rfl (fun o k g => by rw [x_ne (by omega), x_ne (by omega)]) (fun F i hF => by unfold e9; rw [if_neg (by omega), if_neg (by omega)]) ?_
  obtain ⟨⟨y1, y2⟩, ⟨y3, y4⟩, ⟨y5, y6⟩, ⟨y7, y8, y9⟩, y10, y11, y12, y13, y14⟩ := R.2.2.2.2.2
  have q : ∀ F i, F ≠ 9 → F ≠ 8 → e9 e T c F i = e F i := fun F i g1 g2 => by unfold e9; rw [if_neg (by omega), if_neg (by omega)]
  have q5 : e9 e T c 5 = e 5 := funext (fun i => q 5 i (by omega) (by omega))
  have q10 : e9 e T c 10 = e 10 := funext (fun i => q 10 i (by omega) (by omega))
  have z0 : e9 e T c 8 0 = T + 1 := by unfold e9; rw [if_neg (by omega), if_pos (by omega)]
  have z1 : e9 e T c 8 1 = T + 1 := by unfold e9; rw [if_neg (by omega), if_pos (by omega)]
  have z2 : e9 e T c 8 2 = e 8 2 := by unfold e9; rw [if_neg (by omega), if_neg (by omega)]
  unfold EXg
  rw [q5, q10, z0, z1, z2]
  refine ⟨⟨?_, y2⟩, ⟨?_, ?_⟩, ⟨?_, ?_⟩, ⟨?_, ?_, by omega⟩, fun i hi => ?_, fun i hi => ?_, y12, ?_, cst_of y14 (fun o k q => by rw [x_ne (by omega), x_ne (by omega)])⟩
  · rw [x_ne (by omega), x_ne (by omega)]; exact y1
  · rw [x_ne (by omega), x_ne (by omega), x_ne (by omega), x_ne (by omega)]; exact y3
  · rw [x_ne (by omega), x_ne (by omega), x_ne (by omega), x_ne (by omega)]; exact y4
  · rw [x_ne (by omega), x_ne (by omega), x_ne (by omega), x_ne (by omega)]; exact y5
  · rw [x_ne (by omega), x_ne (by omega), x_ne (by omega), x_ne (by omega)]; exact y6
  · rw [x_eq]
  · rw [x_eq]
  · by_cases g : i = T
    · subst g
      have ei : e9 e i c 9 i = c := by unfold e9; rw [if_pos ⟨rfl, rfl⟩]
      rw [x_ne (by omega), x_eq, x_ne (by omega), x_eq, ei]; exact ⟨rfl, rfl, c1, c2⟩
    · have ei : e9 e T c 9 i = e 9 i := by unfold e9; rw [if_neg (by omega), if_neg (by omega)]
      rw [x_ne (by omega), x_ne (by omega), x_ne (by omega), x_ne (by omega), ei]; exact y10 i (by omega)
  · rw [x_ne (by omega), x_ne (by omega), x_ne (by omega), x_ne (by omega)]; exact y11 i hi
  · rw [x_ne (by omega), x_ne (by omega)]; exact y13
theorem m1_nI (k : Nat) : nI (k + 1) + (-1 : Int32) = nI k := by
  rw [show (-1 : Int32) = - nI 1 from by decide, ← Int32.sub_eq_add_neg, q_sub (by omega)]; rfl
/-- the marks from k - 1 down to 0 are put behind -/
theorem marks_both (w : Int64) : ∀ (k : Nat) {h m : AH} {s : St} {e : Ex} {b T : Nat}, Rel h m s e b → e 8 0 = T → e 8 1 = T → k ≤ 8 → T + k ≤ 1500 → (∀ j, j < k → 32 ≤ chr w j ∧ chr w j ≤ 126) → ∀ f g, k < f → k < g →
    ∃ h' m' e', f_X8_append_L75 f h 2 w (nI k + (-1 : Int32)) = some (1, h') ∧ f_X11_type_L80 g m 226 w (nI k + (-1 : Int32)) = some (1, m') ∧ Rel h' m' s e' b ∧ h'.2 = h.2 ∧ m'.2 = m.2 ∧ e' 8 0 = e' 8 1 := by
  intro k
  induction k with
  | zero =>
    intro h m s e b T R h0 h1 hk hT hc f g hf hg
    obtain ⟨f', rfl⟩ : ∃ f', f = f' + 1 := ⟨f - 1, by omega⟩
    obtain ⟨g', rfl⟩ : ∃ g', g = g' + 1 := ⟨g - 1, by omega⟩
    refine ⟨h, m, e, ?_, ?_, R, rfl, rfl, by omega⟩
    · unfold f_X8_append_L75; rw [if_pos (by decide)]
    · unfold f_X11_type_L80; rw [if_pos (by decide)]
  | succ k ih =>
    intro h m s e b T R h0 h1 hk hT hc f g hf hg
    obtain ⟨f', rfl⟩ : ∃ f', f = f' + 1 := ⟨f - 1, by omega⟩
    obtain ⟨g', rfl⟩ : ∃ g', g = g' + 1 := ⟨g - 1, by omega⟩
    have L := RC_L R.1.1
    have L2 := rm_L R.2.1
    obtain ⟨_, _, _, ⟨y7, y8, y9⟩, _⟩ := R.2.2.2.2.2
    rw [h0] at y7
    rw [h1] at y8
    have cc := hc k (by omega)
    have R1 := mark_both R h0 h1 (by omega) cc.1 cc.2
    obtain ⟨h', m', e', a1, a2, a3, a4, a5, a6⟩ := ih R1 (T := T + 1) (by unfold e9; rw [if_neg (by omega), if_pos (by omega)]) (by unfold e9; rw [if_neg (by omega), if_pos (by omega)]) (by omega) (by omega) (fun j hj => hc j (by omega)) f' g' (by omega) (by omega)
    refine ⟨h', m', e', ?_, ?_, a3, a4, a5, a6⟩
    · rw [f_X8_append_L75, m1_nI, if_neg (lt0 (by omega)), y_gs, if_pos (lc_S2 L), lc_R2_0 L, y_gs, if_pos (lc_S3 L), lc_N3 L, y7, y_gb, if_pos (q_ib (by omega) (by omega)), q_cl (by omega), ch3 w (by omega), y_lt, x_ne (by omega), y7, show (1 : Int32) = nI 1 from rfl, q_add, y_lt, y_lt]
      exact a1
    · rw [f_X11_type_L80, m1_nI, if_neg (lt0 (by omega)), y_gs, if_pos (lm_S226 L2), lm_R1 L2, y_gs, if_pos (lm_S227 L2), lm_N227 L2, y8, y_gb, if_pos (q_ib (by omega) (by omega)), q_cl (by omega), ch2 w (by omega), y_lt, x_ne (by omega), y8, show (1 : Int32) = nI 1 from rfl, q_add, y_lt, y_lt]
      exact a2
/-- are all marks good -/
theorem good_both (h m : AH) (w : Int64) {n : Nat} (hn : n ≤ 8) : ∀ (r k f g : Nat), k + r = n → r < f → r < g →
    ((∀ j, k ≤ j → j < n → 32 ≤ chr w j ∧ chr w j ≤ 126) ∧ f_X8_append_L28 f h 2 w (nI n) (nI k) = f_X8_append_L75 FU h 2 w (nI n + (-1 : Int32)) ∧ f_X11_type_L33 g m 226 w (nI n) (nI k) = f_X11_type_L80 FU m 226 w (nI n + (-1 : Int32))) ∨
    (f_X8_append_L28 f h 2 w (nI n) (nI k) = some (0, h) ∧ f_X11_type_L33 g m 226 w (nI n) (nI k) = some (0, m)) := by
  intro r
  induction r with
  | zero =>
    intro k f g hk hf hg
    obtain ⟨f', rfl⟩ : ∃ f', f = f' + 1 := ⟨f - 1, by omega⟩
    obtain ⟨g', rfl⟩ : ∃ g', g = g' + 1 := ⟨g - 1, by omega⟩
    have s1 : nI n - (1 : Int32) = nI n + (-1 : Int32) := by rw [Int32.sub_eq_add_neg]
    refine Or.inl ⟨fun j h1 h2 => (by omega), ?_, ?_⟩
    · unfold f_X8_append_L28
      rw [if_pos ((q_le (by omega) (by omega)).mpr (by omega)), s1, y_lt]
    · unfold f_X11_type_L33
      rw [if_pos ((q_le (by omega) (by omega)).mpr (by omega)), s1, y_lt]
  | succ r ih =>
    intro k f g hk hf hg
    obtain ⟨f', rfl⟩ : ∃ f', f = f' + 1 := ⟨f - 1, by omega⟩
    obtain ⟨g', rfl⟩ : ∃ g', g = g' + 1 := ⟨g - 1, by omega⟩
    have lt := chr_lt w k
    have nle : ¬ nI n ≤ nI k := fun q => by have := (q_le (by omega) (by omega)).mp q; omega
    have add1 : nI k + (1 : Int32) = nI (k + 1) := by rw [show (1 : Int32) = nI 1 from rfl, q_add]
    have X : f_X8_append_L28 (f' + 1) h 2 w (nI n) (nI k) = if nI (chr w k) < (32 : Int32) then some ((0 : Int32), h) else if nI (chr w k) ≤ (126 : Int32) then f_X8_append_L28 f' h 2 w (nI n) (nI (k + 1)) else some ((0 : Int32), h) := by
      rw [f_X8_append_L28, if_neg nle, ch1 w (by omega), y_lt, y_lt, add1]
    have Y : f_X11_type_L33 (g' + 1) m 226 w (nI n) (nI k) = if nI (chr w k) < (32 : Int32) then some ((0 : Int32), m) else if nI (chr w k) ≤ (126 : Int32) then f_X11_type_L33 g' m 226 w (nI n) (nI (k + 1)) else some ((0 : Int32), m) := by
      rw [f_X11_type_L33, if_neg nle, ch2 w (by omega), y_lt, y_lt, add1]
    rw [X, Y]
    by_cases g1 : chr w k < 32
    · have z : nI (chr w k) < (32 : Int32) := (q_lt (by omega) (show 32 < 2 ^ 31 by omega)).mpr g1
      rw [if_pos z, if_pos z]; exact Or.inr ⟨rfl, rfl⟩
    · have z : ¬ nI (chr w k) < (32 : Int32) := fun q => g1 ((q_lt (by omega) (show 32 < 2 ^ 31 by omega)).mp q)
      rw [if_neg z, if_neg z]
      by_cases g2 : chr w k ≤ 126
      · have z : nI (chr w k) ≤ (126 : Int32) := (q_le (by omega) (show 126 < 2 ^ 31 by omega)).mpr g2
        rw [if_pos z, if_pos z]
        rcases ih (k + 1) f' g' (by omega) (by omega) (by omega) with ⟨c, a, b⟩ | q
        · refine Or.inl ⟨fun j h1 h2 => ?_, a, b⟩
          by_cases e : j = k
          · subst e; omega
          · exact c j (by omega) h2
        · exact Or.inr q
      · have z : ¬ nI (chr w k) ≤ (126 : Int32) := fun q => g2 ((q_le (by omega) (show 126 < 2 ^ 31 by omega)).mp q)
        rw [if_neg z, if_neg z]; exact Or.inr ⟨rfl, rfl⟩
theorem call_type {h m : AH} {s : St} {e : Ex} {b : Nat} (w : Int64) (x : Int32) (R : Rel h m s e b) (he : e 8 0 = e 8 1) : Cl 0 h m e b (f_X10_type h 1 w x) (f_X11_type m 226 w x) := by
  have L := RC_L R.1.1
  have L2 := rm_L R.2.1
  have R0 : Rel h (sI m 226 0 (0 : Int32)) s (e2 e 8 2 0) b := Rel_thr R 0
  obtain ⟨q0, q1, q2⟩ := e2_8 e 0
  obtain ⟨_, _, _, ⟨y7, y8, y9⟩, _⟩ := R0.2.2.2.2.2
  rw [q0] at y7
  rw [q1] at y8 y9
  have no : Cl 0 h m e b (bd (some ((0 : Int32), h)) fun q3 => gb (q3.1 == 0 || q3.1 == 1) <| some (q3.1, q3.2)) (some (0, sI m 226 0 (0 : Int32))) := by
    rw [y_bds, y_gb, if_pos (show ((0 : Int32) == 0 || (0 : Int32) == 1) = true from by decide)]
    exact ⟨h, _, s, _, 0, rfl, rfl, R0, Bd_rfl h, rfl, by rw [q0, q1]; exact he⟩
  unfold f_X10_type f_X11_type f_X8_append
  rw [y_gs, if_pos (lc_S1 L), lc_R1_0 L, y_gs, if_pos (lc_S2 L), y_gs m, if_pos (lm_S226 L2), y_lt (sI m 226 0 (0 : Int32))]
  rcases in1 x (K := 8) (by omega) with ⟨n, n1, n8, rfl⟩ | g | g
  · have z1 : ¬ nI n < (1 : Int32) := fun q => by have := (q_lt (b := 1) (by omega) (by omega)).mp q; omega
    have z8 : ¬ (8 : Int32) < nI n := fun q => by have := (q_lt (a := 8) (by omega) (by omega)).mp q; omega
    rw [if_neg z1, if_neg z1, if_neg z8, if_neg z8, y_gs, if_pos (lc_S2 L), y7, y8, q_add, q_add, he]
    by_cases gT : e 8 1 + n ≤ 1500
    · have zT : nI (e 8 1 + n) ≤ (1500 : Int32) := (q_le (by omega) (show 1500 < 2 ^ 31 by omega)).mpr gT
      rw [if_pos zT, if_pos zT, y_lt, y_lt]
      rcases good_both h (sI m 226 0 (0 : Int32)) w n8 n 0 FU FU (by omega) (FU_gt (by omega)) (FU_gt (by omega)) with ⟨c, a, b'⟩ | ⟨a, b'⟩
      · obtain ⟨h', m', e', a1, a2, a3, a4, a5, a6⟩ := marks_both w n R0 (T := e 8 1) (by rw [q0, he]) q1 n8 gT (fun j hj => c j (by omega) hj) FU FU (FU_gt (by omega)) (FU_gt (by omega))
        have a' : f_X8_append_L28 FU h 2 w (nI n) (0 : Int32) = some (1, h') := a.trans a1
        have b'' : f_X11_type_L33 FU (sI m 226 0 (0 : Int32)) 226 w (nI n) (0 : Int32) = some (1, m') := b'.trans a2
        rw [a', b'', y_bds, y_gb, if_pos (show ((1 : Int32) == 0 || (1 : Int32) == 1) = true from by decide)]
        exact ⟨h', m', s, e', 1, rfl, rfl, a3, Bd_2 a4, by rw [a5]; rfl, a6⟩
      · have a' : f_X8_append_L28 FU h 2 w (nI n) (0 : Int32) = some (0, h) := a
        have b'' : f_X11_type_L33 FU (sI m 226 0 (0 : Int32)) 226 w (nI n) (0 : Int32) = some (0, sI m 226 0 (0 : Int32)) := b'
        rw [a', b'']; exact no
    · have zT : ¬ nI (e 8 1 + n) ≤ (1500 : Int32) := fun q => gT ((q_le (by omega) (show 1500 < 2 ^ 31 by omega)).mp q)
      rw [if_neg zT, if_neg zT]; exact no
  · rw [if_pos g.1, if_pos g.1]; exact no
  · rw [if_neg g.1, if_neg g.1, if_pos (show (8 : Int32) < x from g.2.2.1), if_pos (show (8 : Int32) < x from g.2.2.1)]; exact no
