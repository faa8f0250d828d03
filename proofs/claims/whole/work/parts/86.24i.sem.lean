/-! Texts: length and characters. -/
def tx (S j : Nat) : Int32 := (sByt.getD (S - 1) []).getD j 0
theorem t_all : ∀ S, S < 75 → 0 < S → sok S = true ∧ ∀ j, j < sLen.getD (S - 1) 0 → ji2c (tx S j &&& (255 : Int32)) = tx S j ∧ cok (tx S j) = true := by decide +kernel
theorem t_len : ∀ S, S < 75 → sLen.getD (S - 1) 0 < 20 := by decide +kernel
theorem c_len (h : AH) {S : Nat} (h1 : 0 < S) (h2 : S < 75) : f_J0_length_8abf5 h S = some (nI (sLen.getD (S - 1) 0)) := by
  have ok := (t_all S h2 h1).1
  have ln := t_len S h2
  unfold f_J0_length_8abf5 f_J0_coder_7d493
  rw [y_gb, if_pos ok, y_gb, if_pos ok, y_gb, if_pos ok, if_neg (show ¬ (1 : Int32) = 0 from by decide), y_gb, if_pos ok, y_gb, if_pos (by decide), y_bds]
  rw [show ((0 : Int32) &&& 31) = nI 0 from by decide, q_shr (by omega) (by omega)]; simp
theorem c_chr (h : AH) {S j : Nat} (h1 : 0 < S) (h2 : S < 75) (hj : j < sLen.getD (S - 1) 0) : f_J0_charAt_5068e h S (nI j) = some (tx S j, h) := by
  obtain ⟨ok, tj⟩ := t_all S h2 h1
  obtain ⟨t1, t2⟩ := tj j hj
  have ln := t_len S h2
  have ck : f_J0_checkIndex_df160 h (nI j) (nI (sLen.getD (S - 1) 0)) = some h := by
    unfold f_J0_checkIndex_df160 f_J3_checkIndex_8e157 f_J3_checkIndex_8e157_L9
    rw [if_neg (lt0 (by omega)), if_pos ((q_lt (by omega) (by omega)).mpr hj), y_bds]
  unfold f_J0_charAt_5068e f_J0_isLatin1_aae02 f_J1_charAt_3b067
  have tx' : (sByt.getD (S - 1) []).getD j 0 = tx S j := rfl
  rw [y_gb, if_pos ok, if_neg (show ¬ (1 : Int32) = 0 from by decide), y_gb, if_pos ok, if_neg (fun q => q rfl), y_bds, if_neg (show ¬ (1 : Int32) = 0 from by decide), y_gb, if_pos ok, y_gb, if_pos ok, ck, y_bds, y_gb, if_pos ok, y_gb, if_pos (q_ib hj (by omega)), q_cl (by omega), tx', t1, y_gb, if_pos t2, y_bds, y_gb, if_pos t2]

/-! The words. -/
def pk (S : Nat) : Nat → Int64
  | 0 => 0
  | j + 1 => (pk S j <<< ((8 : Int32).toInt64 &&& 63)) ||| (tx S j).toInt64
theorem pk_key : ∀ k, k < 61 → pk (k + 1) (sLen.getD k 0) = mKey.getD k 0 := by decide +kernel
def NR (m : AH) : Prop := ∀ k, k < 61 → hR m 273 k = k + 1
theorem r_named (m : AH) (v : Int64) {S : Nat} (h1 : 0 < S) (h2 : S < 75) : f_X11_isNamed m v S = some ((if v = pk S (sLen.getD (S - 1) 0) then 1 else 0), m) := by
  have ok := (t_all S h2 h1).1
  have ln := t_len S h2
  unfold f_X11_isNamed
  rw [y_lt, y_lt]
  have key : ∀ r j f, j + r = sLen.getD (S - 1) 0 → r < f → f_X11_isNamed_L5 f m v S (pk S j) (nI j) = some ((if v = pk S (sLen.getD (S - 1) 0) then 1 else 0), m) := by
    intro r
    induction r with
    | zero =>
      intro j f hj hf
      obtain ⟨f', rfl⟩ : ∃ f', f = f' + 1 := ⟨f - 1, by omega⟩
      unfold f_X11_isNamed_L5
      rw [y_gb, if_pos ok, c_len m h1 h2, y_bds, if_pos ((q_le (by omega) (by omega)).mpr (by omega)), show j = sLen.getD (S - 1) 0 by omega]
      by_cases g : v = pk S (sLen.getD (S - 1) 0)
      · rw [if_neg (fun q => q ((lg_0 _ _).mpr g)), if_pos g]
      · rw [if_pos (fun q => g ((lg_0 _ _).mp q)), if_neg g]
    | succ r ih =>
      intro j f hj hf
      obtain ⟨f', rfl⟩ : ∃ f', f = f' + 1 := ⟨f - 1, by omega⟩
      rw [f_X11_isNamed_L5, y_gb, if_pos ok, c_len m h1 h2, y_bds, if_neg (fun q => by have := (q_le (by omega) (by omega)).mp q; omega), y_gb, if_pos ok, c_chr m h1 h2 (by omega), y_bds, y_lt, show (1 : Int32) = nI 1 from rfl, q_add, y_lt]
      exact ih (j + 1) f' (by omega) (by omega)
  exact key (sLen.getD (S - 1) 0) 0 FU (by omega) (FU_gt (by omega))
/-- the first word with a name -/
def wfind (v : Int64) : Nat → Nat → Option Nat
  | 0, _ => none
  | n + 1, k => if mKey.getD k 0 = v then some k else wfind v n (k + 1)
theorem wfind_s {v : Int64} : ∀ n k {j}, wfind v n k = some j → j < k + n ∧ mKey.getD j 0 = v
  | 0, _, _ => fun h => by cases h
  | n + 1, k, j => fun h => by
    unfold wfind at h
    by_cases g : mKey.getD k 0 = v
    · rw [if_pos g] at h; cases h; exact ⟨by omega, g⟩
    · rw [if_neg g] at h
      have := wfind_s n (k + 1) h
      exact ⟨by omega, this.2⟩
theorem c_word (h : AH) (v : Int64) : f_X1_findWord h v = some (oI (wfind v 61 0)) := by
  unfold f_X1_findWord
  rw [y_lt]
  have key : ∀ r k f, k + r = 61 → r < f → f_X1_findWord_L2 h f v (nI k) = some (oI (wfind v r k)) := by
    intro r
    induction r with
    | zero =>
      intro k f hk hf
      obtain ⟨f', rfl⟩ : ∃ f', f = f' + 1 := ⟨f - 1, by omega⟩
      unfold f_X1_findWord_L2
      rw [if_pos (show (61 : Int32) ≤ nI k from (q_le (a := 61) (by omega) (by omega)).mpr (by omega))]; rfl
    | succ r ih =>
      intro k f hk hf
      obtain ⟨f', rfl⟩ : ∃ f', f = f' + 1 := ⟨f - 1, by omega⟩
      rw [f_X1_findWord_L2, if_neg (show ¬ (61 : Int32) ≤ nI k from fun q => by have := (q_le (a := 61) (by omega) (by omega)).mp q; omega), y_gb, if_pos (q_ib (by omega) (by omega)), q_cl (by omega), y_gb, if_pos (decide_eq_true (by omega))]
      unfold wfind
      by_cases g : mKey.getD k 0 = v
      · rw [if_neg (fun q => q ((lg_0 _ _).mpr g)), if_pos g]; rfl
      · rw [if_pos (fun q => g ((lg_0 _ _).mp q)), if_neg g, show (1 : Int32) = nI 1 from rfl, q_add, y_lt]
        exact ih (k + 1) f' (by omega) (by omega)
  exact key 61 0 FU (by omega) (FU_gt (by omega))
theorem r_word {m : AH} (L : LM m) (NM : NR m) (v : Int64) : f_X11_opOf m 226 v = some (oI (wfind v 61 0), m) := by
  unfold f_X11_opOf
  rw [y_lt]
  have key : ∀ r k f, k + r = 61 → r < f → f_X11_opOf_L2 f m 226 v (nI k) = some (oI (wfind v r k), m) := by
    intro r
    induction r with
    | zero =>
      intro k f hk hf
      obtain ⟨f', rfl⟩ : ∃ f', f = f' + 1 := ⟨f - 1, by omega⟩
      unfold f_X11_opOf_L2
      rw [if_pos (show (61 : Int32) ≤ nI k from (q_le (a := 61) (by omega) (by omega)).mpr (by omega))]; rfl
    | succ r ih =>
      intro k f hk hf
      obtain ⟨f', rfl⟩ : ∃ f', f = f' + 1 := ⟨f - 1, by omega⟩
      have ok := (t_all (k + 1) (by omega) (by omega)).1
      have pkk := pk_key k (by omega)
      rw [f_X11_opOf_L2, if_neg (show ¬ (61 : Int32) ≤ nI k from fun q => by have := (q_le (a := 61) (by omega) (by omega)).mp q; omega), y_gs, if_pos (lm_S226 L), lm_R68 L, y_gs, if_pos (lm_S273 L), lm_N273 L, y_gb, if_pos (q_ib (by omega) (by omega)), q_cl (by omega), NM k (by omega), y_gb, if_pos ok, r_named m v (by omega) (by omega), y_bds, show k + 1 - 1 = k from rfl, pkk]
      unfold wfind
      by_cases g : mKey.getD k 0 = v
      · rw [if_pos g.symm, if_neg (show ¬ (1 : Int32) = 0 from by decide), if_pos g]; rfl
      · rw [if_neg (show ¬ v = mKey.getD k 0 from fun q => g q.symm), if_pos (show (0 : Int32) = 0 from rfl), if_neg g, show (1 : Int32) = nI 1 from rfl, q_add, y_lt]
        exact ih (k + 1) f' (by omega) (by omega)
  exact key 61 0 FU (by omega) (FU_gt (by omega))
