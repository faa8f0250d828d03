/-! The reference's assemble behind the text. -/
theorem mw_congr {h : AH} {g : Gh} {L M : Nat} {f f' : Nat → Int32} (e : ∀ j, j < M → f j = f' j) : ∀ k j, j < M → mw h g L f k j = mw h g L f' k j
  | 0, j, hj => e j hj
  | k + 1, j, hj => by
    have ih := mw_congr (h := h) (g := g) (L := L) e k
    show (if wds (g 0 k) (g 3 k) (hL h 11 k) = 1 then up8 (mw h g L f k) (g 2 k / 4) (w1 h g L k) else if wds (g 0 k) (g 3 k) (hL h 11 k) = 2 then up8 (up8 (mw h g L f k) (g 2 k / 4) (wu h g L k)) (g 2 k / 4 + 1) (wl h g L k) else mw h g L f k) j = (if wds (g 0 k) (g 3 k) (hL h 11 k) = 1 then up8 (mw h g L f' k) (g 2 k / 4) (w1 h g L k) else if wds (g 0 k) (g 3 k) (hL h 11 k) = 2 then up8 (up8 (mw h g L f' k) (g 2 k / 4) (wu h g L k)) (g 2 k / 4 + 1) (wl h g L k) else mw h g L f' k) j
    split
    · unfold up8
      by_cases c : j = g 2 k / 4
      · rw [if_pos c, if_pos c]
      · rw [if_neg c, if_neg c, ih j hj]
    · split
      · unfold up8
        by_cases c : j = g 2 k / 4 + 1
        · rw [if_pos c, if_pos c]
        · rw [if_neg c, if_neg c]
          by_cases c' : j = g 2 k / 4
          · rw [if_pos c', if_pos c']
          · rw [if_neg c', if_neg c', ih j hj]
      · exact ih j hj
theorem flR_st (m : AH) (o j : Nat) (v : Int32) : sI (flR m o j v) o j v = flR m o (j + 1) v := by
  refine AH_ext rfl (fun p k => ?_)
  rw [x_hI_sI, flR_hI, flR_hI]
  by_cases c1 : p = o ∧ k = j
  · rw [if_pos c1, if_pos ⟨c1.1, by omega⟩]
  · rw [if_neg c1]
    by_cases c2 : p = o ∧ k < j
    · rw [if_pos c2, if_pos ⟨c2.1, by omega⟩]
    · rw [if_neg c2, if_neg (fun q => by omega)]
theorem flR_0 (m : AH) (o : Nat) (v : Int32) : flR m o 0 v = m := AH_ext rfl (fun p k => flR_ne (by omega))
theorem asm43 {m : AH} (L : LM m) : f_X11_assemble_L43 FU m 226 (0 : Int32) = f_X11_assemble_L65 FU (flR m 241 2048 0) 226 (0 : Int32) := by
  have lp : ∀ r j f, j + r = 2048 → r < f → f_X11_assemble_L43 f (flR m 241 j 0) 226 (nI j) = f_X11_assemble_L65 FU (flR m 241 2048 0) 226 (0 : Int32) := by
    intro r
    induction r with
    | zero =>
      intro j f hj hf
      obtain ⟨f, rfl⟩ : ∃ q, f = q + 1 := ⟨f - 1, by omega⟩
      have : j = 2048 := by omega
      subst this
      rw [f_X11_assemble_L43, if_pos (show (2048 : Int32) ≤ nI 2048 from by decide), y_lt]
    | succ r ih =>
      intro j f hj hf
      obtain ⟨f, rfl⟩ : ∃ q, f = q + 1 := ⟨f - 1, by omega⟩
      have Lj : LM (flR m 241 j 0) := LM_2 L rfl
      rw [f_X11_assemble_L43, if_neg (show ¬ (2048 : Int32) ≤ nI j from fun q => by have := (q_le (a := 2048) (by omega) (by omega)).mp q; omega), y_gs, if_pos (lm_S226 Lj), lm_R23 Lj, y_gs, if_pos (lm_S241 Lj), lm_N241 Lj, y_gb, if_pos (q_ib (by omega) (by omega)), q_cl (by omega), y_lt, q_add1, y_lt, flR_st]
      exact ih (j + 1) f (by omega) (by omega)
  have := lp 2048 0 FU (by omega) (FU_gt (by omega))
  rw [flR_0] at this; exact this
/-- one row copied to another -/
def cpR (m : AH) (a d j : Nat) (F : Int32 → Int32) : AH := (fun o k => if o = d ∧ k < j then F (m.1 a k) else m.1 o k, m.2)
theorem cpR_hI (m : AH) (a d j : Nat) (F : Int32 → Int32) (o k : Nat) : hI (cpR m a d j F) o k = if o = d ∧ k < j then F (hI m a k) else hI m o k := rfl
theorem cpR_0 (m : AH) (a d : Nat) (F : Int32 → Int32) : cpR m a d 0 F = m := AH_ext rfl (fun p k => by rw [cpR_hI, if_neg (by omega)])
theorem cpR_st (m : AH) {a d : Nat} (j : Nat) (F : Int32 → Int32) (ne : a ≠ d) : sI (cpR m a d j F) d j (F (hI (cpR m a d j F) a j)) = cpR m a d (j + 1) F := by
  refine AH_ext rfl (fun p k => ?_)
  rw [x_hI_sI, cpR_hI, cpR_hI, cpR_hI, if_neg (show ¬ (a = d ∧ j < j) by omega)]
  by_cases c1 : p = d ∧ k = j
  · rw [if_pos c1, if_pos ⟨c1.1, by omega⟩, c1.2]
  · rw [if_neg c1]
    by_cases c2 : p = d ∧ k < j
    · rw [if_pos c2, if_pos ⟨c2.1, by omega⟩]
    · rw [if_neg c2, if_neg (fun q => by omega)]
theorem asm100 {m : AH} (L : LM m) : f_X11_assemble_L100 FU m 226 (0 : Int32) = f_X11_assemble_L127 FU (cpR m 241 242 2048 id) 226 (0 : Int32) := by
  have lp : ∀ r j f, j + r = 2048 → r < f → f_X11_assemble_L100 f (cpR m 241 242 j id) 226 (nI j) = f_X11_assemble_L127 FU (cpR m 241 242 2048 id) 226 (0 : Int32) := by
    intro r
    induction r with
    | zero =>
      intro j f hj hf
      obtain ⟨f, rfl⟩ : ∃ q, f = q + 1 := ⟨f - 1, by omega⟩
      have : j = 2048 := by omega
      subst this
      rw [f_X11_assemble_L100, if_pos (show (2048 : Int32) ≤ nI 2048 from by decide), y_lt]
    | succ r ih =>
      intro j f hj hf
      obtain ⟨f, rfl⟩ : ∃ q, f = q + 1 := ⟨f - 1, by omega⟩
      have Lj : LM (cpR m 241 242 j id) := LM_2 L rfl
      have st := cpR_st m (a := 241) (d := 242) j id (by omega)
      simp only [id] at st
      rw [f_X11_assemble_L100, if_neg (show ¬ (2048 : Int32) ≤ nI j from fun q => by have := (q_le (a := 2048) (by omega) (by omega)).mp q; omega), y_gs, if_pos (lm_S226 Lj), lm_R23 Lj, y_gs, if_pos (lm_S241 Lj), lm_N241 Lj, y_gb, if_pos (q_ib (by omega) (by omega)), lm_R24 Lj, y_gs, if_pos (lm_S242 Lj), lm_N242 Lj, y_gb, if_pos (q_ib (by omega) (by omega)), q_cl (by omega), y_lt, q_add1, y_lt]
      exact (congrArg (fun z => f_X11_assemble_L100 f z 226 (nI (j + 1))) (cpR_st m (a := 241) (d := 242) j id (by omega))).trans (ih (j + 1) f (by omega) (by omega))
  have := lp 2048 0 FU (by omega) (FU_gt (by omega))
  rw [cpR_0] at this; exact this
theorem asm127 {m : AH} (L : LM m) {P : Int32} (h13 : hI m 226 13 = P) : f_X11_assemble_L127 FU m 226 (0 : Int32) = some (P, cpR m 238 244 16 (fun x => x &&& (8191 : Int32))) := by
  have lp : ∀ r j f, j + r = 16 → r < f → f_X11_assemble_L127 f (cpR m 238 244 j (fun x => x &&& (8191 : Int32))) 226 (nI j) = some (P, cpR m 238 244 16 (fun x => x &&& (8191 : Int32))) := by
    intro r
    induction r with
    | zero =>
      intro j f hj hf
      obtain ⟨f, rfl⟩ : ∃ q, f = q + 1 := ⟨f - 1, by omega⟩
      have : j = 16 := by omega
      subst this
      have Lj : LM (cpR m 238 244 16 (fun x => x &&& (8191 : Int32))) := LM_2 L rfl
      rw [f_X11_assemble_L127, if_pos (show (16 : Int32) ≤ nI 16 from by decide), y_gs, if_pos (lm_S226 Lj), cpR_hI, if_neg (by omega), h13]
    | succ r ih =>
      intro j f hj hf
      obtain ⟨f, rfl⟩ : ∃ q, f = q + 1 := ⟨f - 1, by omega⟩
      have Lj : LM (cpR m 238 244 j (fun x => x &&& (8191 : Int32))) := LM_2 L rfl
      rw [f_X11_assemble_L127, if_neg (show ¬ (16 : Int32) ≤ nI j from fun q => by have := (q_le (a := 16) (by omega) (by omega)).mp q; omega), y_gs, if_pos (lm_S226 Lj), lm_R19 Lj, y_gs, if_pos (lm_S238 Lj), lm_N238 Lj, y_gb, if_pos (q_ib (by omega) (by omega)), lm_R26 Lj, y_gs, if_pos (lm_S244 Lj), lm_N244 Lj, y_gb, if_pos (q_ib (by omega) (by omega)), q_cl (by omega), y_lt, q_add1, y_lt]
      exact (congrArg (fun z => f_X11_assemble_L127 f z 226 (nI (j + 1))) (cpR_st m (a := 238) (d := 244) j (fun x => x &&& (8191 : Int32)) (by omega))).trans (ih (j + 1) f (by omega) (by omega))
  have := lp 16 0 FU (by omega) (FU_gt (by omega))
  rw [cpR_0] at this; exact this
/-- all of it behind a text without faults -/
theorem r_asm {mc h : AH} {g : Gh} {L n : Nat} (Lm : LM mc) (hP : g 7 n ≤ 375) (g0 : g 7 0 = 0) (h13 : hI mc 226 13 = nI (g 7 n)) (mono : ∀ k, k ≤ n → g 7 k ≤ g 7 n) (parts : ∀ k, k < n → EJ mc h g L k) (st : ∀ d, d < 16 → hI mc 238 d = nI (g 8 d) ∧ g 8 d ≤ 20000) :
    ∃ m', f_X11_assemble_L43 FU mc 226 (0 : Int32) = some (nI (g 7 n), m') ∧ m'.2 = mc.2 ∧ (∀ o k, o ≠ 241 → o ≠ 242 → o ≠ 244 → hI m' o k = hI mc o k) ∧ (∀ j, j < 2048 → hI m' 241 j = mw h g L (fun _ => 0) n j ∧ hI m' 242 j = mw h g L (fun _ => 0) n j) ∧ (∀ d, d < 16 → hI m' 244 d = nI (g 8 d % 8192)) := by
  have Lq : LM (flR mc 241 2048 0) := LM_2 Lm rfl
  obtain ⟨m2, f1, f2, f3, f4⟩ := r_flat (mq := flR mc 241 2048 0) (h := h) (g := g) (L := L) (n := n) Lq hP (by rw [flR_ne (by omega)]; exact h13) mono (fun k hk => by
    obtain ⟨e1, e2, e3, e4, e5⟩ := parts k hk
    refine ⟨e1, e2, e3, fun w => ?_, fun w => ?_⟩
    · rw [flR_ne (by omega), flR_ne (by omega)]; exact e4 w
    · rw [flR_ne (by omega), flR_ne (by omega), flR_ne (by omega), flR_ne (by omega)]; exact e5 w) n 0 FU (flR mc 241 2048 0) (by omega) (by rw [g0]; exact FU_gt (by omega)) ⟨rfl, fun _ _ _ => rfl, fun _ => rfl⟩
  rw [g0] at f1
  have f1' : f_X11_assemble_L65 FU (flR mc 241 2048 0) 226 (0 : Int32) = f_X11_assemble_L100 FU m2 226 (0 : Int32) := f1
  have L2 : LM m2 := LM_2 Lq f2
  have L3 : LM (cpR m2 241 242 2048 id) := LM_2 L2 rfl
  have h13' : hI (cpR m2 241 242 2048 id) 226 13 = nI (g 7 n) := by rw [cpR_hI, if_neg (by omega), f3 _ _ (by omega), flR_ne (by omega)]; exact h13
  refine ⟨cpR (cpR m2 241 242 2048 id) 238 244 16 (fun x => x &&& (8191 : Int32)), by rw [asm43 Lm, f1', asm100 L2, asm127 L3 h13'], f2, fun o k q1 q2 q3 => ?_, fun j hj => ?_, fun d hd => ?_⟩
  · rw [cpR_hI, if_neg (by omega), cpR_hI, if_neg (by omega), f3 o k q1, flR_ne (by omega)]
  · have b : hI m2 241 j = mw h g L (fun _ => 0) n j := by
      rw [f4]
      exact mw_congr (M := 2048) (fun j hj => flR_eq hj) n j hj
    constructor
    · rw [cpR_hI, if_neg (by omega), cpR_hI, if_neg (by omega), b]
    · rw [cpR_hI, if_neg (by omega), cpR_hI, if_pos ⟨rfl, hj⟩]; exact b
  · rw [cpR_hI, if_pos ⟨rfl, hd⟩, cpR_hI, if_neg (by omega), f3 _ _ (by omega), flR_ne (by omega), (st d hd).1]
    have := (st d hd).2
    exact q_and (k := 13) (by omega) (by omega)
