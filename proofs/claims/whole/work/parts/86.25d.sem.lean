/-! The reference resolves its labels. -/
theorem FN_rfl (m : AH) : FN m m := ⟨rfl, fun _ _ _ => rfl⟩
theorem FN_tr {a b d : AH} (x : FN a b) (y : FN b d) : FN a d := ⟨y.1.trans x.1, fun o k h => (y.2 o k h).trans (x.2 o k h)⟩
theorem FK_le {h : AH} {x : Nat} (F : FK h x) : x ≤ 100000 := by rcases F with ⟨q, _⟩ | ⟨q, _⟩ <;> omega
theorem bt1_32 (a : Int32) : a &&& nI (2 ^ 1 - 1) = 0 ↔ bt a 0 = false := by
  constructor
  · intro h
    have := congrArg (fun y => bt y 0) h
    simp only [bt_and, bt_0] at this
    rw [bt_nI _ _ (by omega)] at this
    simpa using this
  · intro h
    refine bt_ext (fun i hi => ?_)
    rw [bt_and, bt_nI _ _ hi, bt_0]
    by_cases e : i = 0
    · subst e; rw [h]; rfl
    · have : Nat.testBit (2 ^ 1 - 1) i = false := by
        rw [Nat.testBit_two_pow_sub_one]; exact decide_eq_false (by omega)
      rw [this, Bool.and_false]
theorem bt1_64 (z : Int64) : z &&& Int64.ofNat (2 ^ 1 - 1) = 0 ↔ z.toBitVec.getLsbD 0 = false := by
  have b1 : ∀ i, i < 64 → (Int64.ofNat (2 ^ 1 - 1)).toBitVec.getLsbD i = decide (i = 0) := by decide +kernel
  constructor
  · intro h
    have := congrArg (fun y : Int64 => y.toBitVec.getLsbD 0) h
    simp only [Int64.toBitVec_and, BitVec.getLsbD_and] at this
    rw [b1 0 (by omega)] at this
    simpa using this
  · intro h
    apply Int64.toBitVec_inj.mp
    apply BitVec.eq_of_getLsbD_eq
    intro i hi
    rw [Int64.toBitVec_and, BitVec.getLsbD_and, b1 i hi]
    by_cases e : i = 0
    · subst e; rw [h]; rfl
    · rw [decide_eq_false e, Bool.and_false]
      have z0 : ∀ i, i < 64 → (0 : Int64).toBitVec.getLsbD i = false := by decide +kernel
      rw [z0 i hi]
theorem rem_3264 {j : Nat} (hj : j ≤ 1) (a : Int32) : (a - a / nI (2 ^ j) * nI (2 ^ j) = 0) ↔ (a.toInt64 - a.toInt64 / (nI (2 ^ j)).toInt64 * (nI (2 ^ j)).toInt64 = 0) := by
  have e : j = 0 ∨ j = 1 := by omega
  rcases e with rfl | rfl
  · have h1 : nI (2 ^ 0) = (1 : Int32) := rfl
    have r := (rem_and a (j := 0) (by omega))
    rw [h1] at r
    refine ⟨fun _ => mu1 _, fun _ => ?_⟩
    rw [h1]
    refine r.mpr ?_
    exact bt_ext (fun i hi => by rw [bt_and, bt_nI _ _ hi, bt_0]; simp)
  · have h2 : (nI (2 ^ 1)).toInt64 = Int64.ofNat (2 ^ 1) := by decide
    rw [rem_and a (j := 1) (by omega), h2, rem64 a.toInt64 (j := 1) (by omega), bt1_32, bt1_64]
    have : a.toInt64.toBitVec.getLsbD 0 = bt a 0 := by
      show (a.toBitVec.signExtend 64).getLsbD 0 = a.toBitVec.getLsbD 0
      rw [BitVec.getLsbD_signExtend]; rfl
    rw [this]
theorem mu_p : ∀ hw, hw ≤ 6 → ∃ j, j ≤ 1 ∧ muH hw = nI (2 ^ j) := by
  intro hw h
  by_cases e : hw = 2 ∨ hw = 4
  · exact ⟨1, by omega, by unfold muH; rw [if_pos e]; rfl⟩
  · exact ⟨0, by omega, by unfold muH; rw [if_neg e]; rfl⟩
theorem i3264 (x : Int32) : x.toInt64.toInt32 = x := by simp
/-- what a label brings -/
theorem r_155 {mk : AH} (Lk : LM mk) {p hw : Nat} {w v : Int32} (hp : p < 700) (hh : hw ≤ 8) (h234 : hI mk 234 p = w) : f_X11_resolve_L155 mk 226 (nI p) (nI hw) v = some (sI mk 234 p (w ||| putV hw v)) := by
  unfold f_X11_resolve_L155
  rw [y_gs, if_pos (lm_S226 Lk), lm_R15 Lk, y_gs, if_pos (lm_S234 Lk), lm_N234 Lk, y_gb, if_pos (q_ib hp (by omega)), r_put _ hh, y_bds, y_gb, if_pos (q_ib hp (by omega)), q_cl (by omega), h234, i3264, y_lt]
theorem r_105 {mk : AH} (Lk : LM mk) {p hw np x : Nat} {w v : Int32} (hp : p < 700) (hh : hw ≤ 6) (h234 : hI mk 234 p = w) (h237 : hI mk 237 p = nI np) (hnp : np ≤ 1500) (F : FK mk x) :
    ∃ m1, FN mk m1 ∧ FK m1 (min x (if fitB (frm hw) v.toInt64 = false then 4 * np + 3 else 100000)) ∧ f_X11_resolve_L105 mk 226 (nI p) (nI hw) v (0 : Int32) = some (sI m1 234 p (w ||| putV hw v)) := by
  obtain ⟨a1, a2, a3⟩ := r_lmm mk hw hh
  have rf := rf_hw hh v.toInt64
  obtain ⟨j, j1, j2⟩ := mu_p hw hh
  have rm := rem_3264 j1 v
  rw [← j2] at rm
  have mu0 : ¬ muH hw = 0 := by unfold muH; split <;> decide
  have ok : fitB (frm hw) v.toInt64 = true → ∃ m1, FN mk m1 ∧ FK m1 (min x (if fitB (frm hw) v.toInt64 = false then 4 * np + 3 else 100000)) ∧ f_X11_resolve_L155 mk 226 (nI p) (nI hw) v = some (sI m1 234 p (w ||| putV hw v)) := fun q => by
    refine ⟨mk, FN_rfl mk, ?_, r_155 Lk hp (by omega) h234⟩
    rw [q, if_neg (by decide), Nat.min_eq_left (FK_le F)]; exact F
  have no : fitB (frm hw) v.toInt64 = false → ∃ m1, FN mk m1 ∧ FK m1 (min x (if fitB (frm hw) v.toInt64 = false then 4 * np + 3 else 100000)) ∧ f_X11_resolve_L144 mk 226 (nI p) (nI hw) v = some (sI m1 234 p (w ||| putV hw v)) := fun q => by
    obtain ⟨m1, n1, n2, n3⟩ := r_note Lk F (k := 3) (w := np) (Or.inr rfl) (by omega)
    have n1' : f_X11_note mk 226 (3 : Int32) (nI np) = some m1 := n1
    refine ⟨m1, n3, ?_, ?_⟩
    · rw [q, if_pos rfl]; exact n2
    · unfold f_X11_resolve_L144
      rw [y_gs, if_pos (lm_S226 Lk), lm_R18 Lk, y_gs, if_pos (lm_S237 Lk), lm_N237 Lk, y_gb, if_pos (q_ib hp (by omega)), q_cl (by omega), h237, n1', y_bds]
      exact r_155 (LM_2 Lk n3.1) hp (by omega) (by rw [n3.2 _ _ (by omega)]; exact h234)
  unfold f_X11_resolve_L105
  rw [if_neg (show ¬ ¬ (0 : Int32) = 0 from fun q => q rfl), a1, a2, a3, y_bds, y_bds, y_bds, y_gb, if_pos (decide_eq_true mu0)]
  simp only [lg_lt]
  unfold rft at rf
  have fb : ∀ b : Bool, ¬ b = true → b = false := fun b q => by cases b; rfl; exact absurd rfl q
  by_cases c1 : v.toInt64 < loH hw
  · rw [if_pos c1]; exact no (fb _ (fun q => (rf.mpr q).1 c1))
  · rw [if_neg c1]
    by_cases c2 : hiH hw < v.toInt64
    · rw [if_pos c2]; exact no (fb _ (fun q => (rf.mpr q).2.1 c2))
    · rw [if_neg c2]
      by_cases c3 : v - v / muH hw * muH hw = 0
      · rw [if_pos c3]; exact ok (rf.mp ⟨c1, c2, rm.mp c3⟩)
      · rw [if_neg c3]; exact no (fb _ (fun q => c3 (rm.mpr (rf.mpr q).2.2)))
def lv2 (g : Gh) (l hw ad : Nat) : Int32 := nI (g 6 l) - (if hw = 2 ∨ hw = 4 then nI ad else 0)
theorem r_resolve {h mk : AH} {g : Gh} (Lk : LM mk) {p L hw ad np x : Nat} {w : Int32} {v : Int64} (hp : p < 700) (hL' : L ≤ 750) (hh : hw ≤ 8) (h10 : hI mk 226 10 = nI L) (la : ∀ j, j < L → hL mk 231 j = hL h 12 j ∧ hI mk 232 j = nI (g 6 j))
    (h233 : hI mk 233 p = nI ad) (h234 : hI mk 234 p = w) (h235 : hI mk 235 p = nI hw) (h236 : hL mk 236 p = v) (h237 : hI mk 237 p = nI np) (hnp : np ≤ 1500) (F : FK mk x) :
    (lfi h v L = none → ∃ m', f_X11_resolve mk 226 (nI p) = some m' ∧ FK m' (min x (4 * np + 2)) ∧ FN mk m') ∧
    (∀ l, lfi h v L = some l → ∃ m1, FN mk m1 ∧ FK m1 (min x (if hw ≤ 6 ∧ fitB (frm hw) (lv2 g l hw ad).toInt64 = false then 4 * np + 3 else 100000)) ∧ f_X11_resolve mk 226 (nI p) = some (sI m1 234 p (w ||| putV hw (lv2 g l hw ad)))) := by
  have search := lp_find2 (fun f y => f_X11_resolve_L2 f mk 226 (nI p) y) (fun j => decide (hL h 12 j = v)) (fun j => f_X11_resolve_L32 mk 226 (nI p) (nI j)) (f_X11_resolve_L32 mk 226 (nI p) (nI L)) 0 L (fun f j q1 q2 => by
    show f_X11_resolve_L2 (f + 1) mk 226 (nI p) (nI j) = _
    rw [f_X11_resolve_L2, y_gs, if_pos (lm_S226 Lk), h10, if_neg (show ¬ nI L ≤ nI j from fun q => by have := (q_le (by omega) (by omega)).mp q; omega), lm_R11 Lk, y_gs, if_pos (lm_S231 Lk), lm_N231 Lk, y_gb, if_pos (q_ib (by omega) (by omega)), lm_R17 Lk, y_gs, if_pos (lm_S236 Lk), lm_N236 Lk, y_gb, if_pos (q_ib hp (by omega)), q_cl (by omega), q_cl (by omega), (la j (by omega)).1, h236]
    by_cases e : hL h 12 j = v
    · rw [if_pos ((lg_0 _ _).mpr e), if_pos (decide_eq_true e)]
    · rw [if_neg (fun q => e ((lg_0 _ _).mp q)), if_neg (by rw [decide_eq_false e]; decide), y_lt, q_add1]) (fun f => by
    show f_X11_resolve_L2 (f + 1) mk 226 (nI p) (nI (0 + L)) = _
    rw [f_X11_resolve_L2, y_gs, if_pos (lm_S226 Lk), h10, Nat.zero_add, if_pos (Int32.le_refl _)]) FU (FU_gt (by omega))
  have rs : f_X11_resolve mk 226 (nI p) = (lfi h v L).elim (f_X11_resolve_L32 mk 226 (nI p) (nI L)) (fun j => f_X11_resolve_L32 mk 226 (nI p) (nI j)) := by
    unfold f_X11_resolve
    rw [y_lt]; exact search
  rw [rs]
  constructor
  · intro e
    obtain ⟨m', n1, n2, n3⟩ := r_note Lk F (k := 2) (w := np) (Or.inl rfl) (by omega)
    have n1' : f_X11_note mk 226 (2 : Int32) (nI np) = some m' := n1
    refine ⟨m', ?_, n2, n3⟩
    rw [e]
    show f_X11_resolve_L32 mk 226 (nI p) (nI L) = _
    unfold f_X11_resolve_L32
    rw [y_gs, if_pos (lm_S226 Lk), h10, if_neg (fun q => q rfl), lm_R18 Lk, y_gs, if_pos (lm_S237 Lk), lm_N237 Lk, y_gb, if_pos (q_ib hp (by omega)), q_cl (by omega), h237, n1', y_bds]
  · intro l e
    have l1 := lfi_lt e
    rw [e]
    have q2 : nI hw = (2 : Int32) ↔ hw = 2 := q_eq (b := 2) (by omega) (by omega)
    have q4 : nI hw = (4 : Int32) ↔ hw = 4 := q_eq (b := 4) (by omega) (by omega)
    have q7 : nI hw = (7 : Int32) ↔ hw = 7 := q_eq (b := 7) (by omega) (by omega)
    have q8 : nI hw = (8 : Int32) ↔ hw = 8 := q_eq (b := 8) (by omega) (by omega)
    have s85 : ∀ s1 : Int32, nI (g 6 l) - s1 = lv2 g l hw ad → ∃ m1, FN mk m1 ∧ FK m1 (min x (if hw ≤ 6 ∧ fitB (frm hw) (lv2 g l hw ad).toInt64 = false then 4 * np + 3 else 100000)) ∧ f_X11_resolve_L85 mk 226 (nI p) (nI hw) (nI (g 6 l)) s1 = some (sI m1 234 p (w ||| putV hw (lv2 g l hw ad))) := fun s1 es => by
      unfold f_X11_resolve_L85 f_X11_resolve_L100
      rw [y_lt, es]
      by_cases z : hw ≤ 6
      · rw [if_neg (show ¬ nI hw = (7 : Int32) from fun q => by have := q7.mp q; omega), if_pos (show ¬ nI hw = (8 : Int32) from fun q => by have := q8.mp q; omega)]
        have := r_105 (v := lv2 g l hw ad) Lk hp z h234 h237 hnp F
        have ei : (if hw ≤ 6 ∧ fitB (frm hw) (lv2 g l hw ad).toInt64 = false then 4 * np + 3 else 100000) = (if fitB (frm hw) (lv2 g l hw ad).toInt64 = false then 4 * np + 3 else 100000) := by
          cases fitB (frm hw) (lv2 g l hw ad).toInt64
          · rw [if_pos ⟨z, rfl⟩, if_pos rfl]
          · rw [if_neg (fun q => absurd q.2 (by decide)), if_neg (by decide)]
        rw [ei]; exact this
      · have h1 : f_X11_resolve_L105 mk 226 (nI p) (nI hw) (lv2 g l hw ad) (1 : Int32) = some (sI mk 234 p (w ||| putV hw (lv2 g l hw ad))) := by
          unfold f_X11_resolve_L105
          rw [if_pos (show ¬ (1 : Int32) = 0 from by decide)]
          exact r_155 Lk hp hh h234
        refine ⟨mk, FN_rfl mk, ?_, ?_⟩
        · rw [if_neg (fun q => z q.1), Nat.min_eq_left (FK_le F)]; exact F
        · rw [h1]
          by_cases z7 : hw = 7
          · rw [if_pos (q7.mpr z7)]
          · rw [if_neg (fun q => z7 (q7.mp q)), if_neg (fun q => q (q8.mpr (by omega)))]
    show ∃ m1, FN mk m1 ∧ FK m1 _ ∧ f_X11_resolve_L32 mk 226 (nI p) (nI l) = _
    have s75 : (hw = 2 ∨ hw = 4) → ∃ m1, FN mk m1 ∧ FK m1 (min x (if hw ≤ 6 ∧ fitB (frm hw) (lv2 g l hw ad).toInt64 = false then 4 * np + 3 else 100000)) ∧ f_X11_resolve_L75 mk 226 (nI p) (nI hw) (nI (g 6 l)) = some (sI m1 234 p (w ||| putV hw (lv2 g l hw ad))) := fun q => by
      unfold f_X11_resolve_L75
      rw [y_gs, if_pos (lm_S226 Lk), lm_R14 Lk, y_gs, if_pos (lm_S233 Lk), lm_N233 Lk, y_gb, if_pos (q_ib hp (by omega)), q_cl (by omega), h233]
      exact s85 (nI ad) (by unfold lv2; rw [if_pos q])
    unfold f_X11_resolve_L32
    rw [y_gs, if_pos (lm_S226 Lk), h10, if_pos (show ¬ nI l = nI L from fun q => by have := (q_eq (by omega) (by omega)).mp q; omega), lm_R16 Lk, y_gs, if_pos (lm_S235 Lk), lm_N235 Lk, y_gb, if_pos (q_ib hp (by omega)), q_cl (by omega), h235, y_lt, lm_R12 Lk, y_gs, if_pos (lm_S232 Lk), lm_N232 Lk, y_gb, if_pos (q_ib (by omega) (by omega)), q_cl (by omega), (la l l1).2]
    by_cases z2 : hw = 2
    · rw [if_pos (q2.mpr z2)]; exact s75 (Or.inl z2)
    · rw [if_neg (show ¬ nI hw = (2 : Int32) from fun q => z2 (q2.mp q))]
      by_cases z4 : hw = 4
      · rw [if_neg (show ¬ ¬ nI hw = (4 : Int32) from fun q => q (q4.mpr z4))]; exact s75 (Or.inr z4)
      · rw [if_pos (show ¬ nI hw = (4 : Int32) from fun q => z4 (q4.mp q))]
        exact s85 0 (by unfold lv2; rw [if_neg (fun q => by rcases q with q | q; exact z2 q; exact z4 q)])
