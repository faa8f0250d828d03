/-! deliver, deliverOn. -/
theorem len_lt {h m : AH} {s : St} {e : Ex} {b : Nat} (R : Rel h m s e b) : (Pl s).length ≤ 8224 := by have := (IV_len R.2.2.1).1; omega
/-- what carry and brings do at x -/
theorem brings_both {h m : AH} {s : St} {e : Ex} {b : Nat} (x : Int32) (R : Rel h m s e b) : ∃ h' m' s' r, f_X10_carry h 1 x = some (nI r, h') ∧ f_X11_brings m 226 x = some (nI r, m') ∧ r ≤ 1 ∧ Rel h' m' s' e b ∧ Bd h h' ∧ m'.2 = m.2 ∧ (∀ i, N s' 0 i = N s 0 i) := by
  have L := RC_L R.1.1
  have L2 := rm_L R.2.1
  have ln := len_lt R
  unfold f_X11_brings
  rcases i_cases x with g | ⟨n, n1, n2⟩
  · rw [c_carryN R.1.1 R.2.2.1 (Or.inl g), if_pos g]
    exact ⟨h, m, s, 0, rfl, rfl, by omega, R, Bd_rfl h, rfl, fun _ => rfl⟩
  · subst n2
    rw [if_neg (lt0 n1), y_gs, if_pos (lm_S226 L2), rm_p R.2.1]
    by_cases g : n < (Pl s).length
    · obtain ⟨h', m', a1, a2, a3, a4, a5, a6⟩ := bring_both R g
      rw [if_pos ((q_lt n1 (by omega)).mpr g), a1, a2, y_bds]
      exact ⟨h', m', _, 1, rfl, rfl, by omega, a3, a4, a5, a6⟩
    · rw [if_neg (fun w => g ((q_lt n1 (by omega)).mp w)), c_carryN R.1.1 R.2.2.1 (Or.inr ((q_le (by omega) n1).mpr (by omega)))]
      exact ⟨h, m, s, 0, rfl, rfl, by omega, R, Bd_rfl h, rfl, fun _ => rfl⟩
theorem b01 {r : Nat} (h : r ≤ 1) : (nI r == 0 || nI r == 1) = true := by
  have : r = 0 ∨ r = 1 := by omega
  rcases this with rfl | rfl <;> decide
theorem call_deliver {h m : AH} {s : St} {e : Ex} {b : Nat} (x : Int32) (R : Rel h m s e b) (he : e 8 0 = e 8 1) : Cl 0 h m e b (f_X10_deliver h 1 x) (f_X11_deliver m 226 x) := by
  have L := RC_L R.1.1
  have L2 := rm_L R.2.1
  have R0 := Rel_thr R 0
  obtain ⟨q0, q1, q2⟩ := e2_8 e 0
  obtain ⟨h', m', s', r, a1, a2, a3, a4, a5, a6, a7⟩ := brings_both x R0
  unfold f_X10_deliver f_X11_deliver
  rw [y_gs, if_pos (lc_S1 L), a1, y_bds, y_gb, if_pos (b01 a3), y_gs, if_pos (lm_S226 L2), y_lt, show (0 : Int32) = nI 0 from rfl, a2, y_bds, y_gb, show (nI r == nI 0 || nI r == 1) = true from b01 a3, if_pos rfl]
  exact ⟨h', m', s', _, nI r, rfl, rfl, a4, a5, by rw [a6]; rfl, by rw [q0, q1]; exact he⟩
/-! deliverOn -/
def chn (k : Nat) : Nat := if k ≤ 2 then 0 else if k = 3 ∨ k = 4 ∨ k = 9 then 1 else 2
theorem ch_c : ∀ k, k < 11 → tCH.getD k 0 = nI (chn k) := by decide +kernel
theorem ch_r (m : AH) : ∀ k, k < 11 → f_X11_channelOf m (nI k) = some (nI (chn k)) := by
  unfold f_X11_channelOf f_X11_channelOf_L25
  have : ∀ k, k < 11 → (if (2 : Int32) < nI k then if nI k = (3 : Int32) then some (1 : Int32) else if nI k = (4 : Int32) then some (1 : Int32) else if ¬ nI k = (9 : Int32) then some (2 : Int32) else some (1 : Int32) else some (0 : Int32)) = some (nI (chn k)) := by decide +kernel
  exact this
theorem wf_k {h m : AH} {s : St} {e : Ex} {b : Nat} (R : Rel h m s e b) {i : Nat} (hi : i < (Pl s).length) : mKi ((Pl s).getD i x0) < 11 := by
  have w := R.2.2.1.2.2.1.2.1 ((Pl s).getD i x0) (by
    unfold Z
    apply List.mem_append_left
    rw [List.getD_eq_getElem?_getD, List.getElem?_eq_getElem hi]
    exact List.getElem_mem hi)
  unfold wf at w
  omega
theorem c_get {h : AH} {s : St} (R : RC h s) {i j : Nat} (hi : i < (Pl s).length) (hj : j < 9) : f_X6_get h 16 (nI i) (nI j) = some (mp ((Pl s).getD i x0) j) := by
  have L := RC_L R
  obtain ⟨p1, p2, p3, p4, p5, p6, p7, p8⟩ := R.2.2.2.2.2.2.1
  unfold f_X6_get
  rw [y_gs, if_pos (lc_S16 L), y_gs, if_pos p2, show (9 : Int32) = nI 9 from rfl, q_mul, q_add, show i * 9 + j = 9 * i + j by omega, y_gb, if_pos (q_ib (by omega) (by omega)), q_cl (by omega), p8 i j hi hj]
theorem on_loop {h m : AH} {s : St} {e : Ex} {b : Nat} (R : Rel h m s e b) (ch a2 : Int32) (ha : ¬ a2 < 0) : ∀ (r i j f g : Nat), i + r = (Pl s).length → j < 2 ^ 31 → r < f → r < g →
    ∃ o : Option Nat, (∀ k, o = some k → k < (Pl s).length) ∧ f_X6_placeOn_L5 h f 16 ch (nI j) (nI i) = some (oI o) ∧ f_X11_bringsOn_L5 g m 226 ch a2 (nI j) (nI i) = (match o with | none => some ((0 : Int32), m) | some k => bd (f_X11_bring m 226 (nI k)) fun q => some ((1 : Int32), q)) := by
  have L := RC_L R.1.1
  have L2 := rm_L R.2.1
  have ln := len_lt R
  have pl : hI h 16 1 = nI (Pl s).length := R.1.1.2.2.2.2.2.2.1.1
  intro r
  induction r with
  | zero =>
    intro i j f g hi hj hf hg
    obtain ⟨f', rfl⟩ : ∃ f', f = f' + 1 := ⟨f - 1, by omega⟩
    obtain ⟨g', rfl⟩ : ∃ g', g = g' + 1 := ⟨g - 1, by omega⟩
    refine ⟨none, fun k hk => (by cases hk), ?_, ?_⟩
    · unfold f_X6_placeOn_L5
      rw [y_gs, if_pos (lc_S16 L), pl, if_pos ((q_le (by omega) (by omega)).mpr (by omega))]; rfl
    · unfold f_X11_bringsOn_L5
      rw [y_gs, if_pos (lm_S226 L2), rm_p R.2.1, if_pos ((q_le (by omega) (by omega)).mpr (by omega))]
  | succ r ih =>
    intro i j f g hi hj hf hg
    obtain ⟨f', rfl⟩ : ∃ f', f = f' + 1 := ⟨f - 1, by omega⟩
    obtain ⟨g', rfl⟩ : ∃ g', g = g' + 1 := ⟨g - 1, by omega⟩
    have il : i < (Pl s).length := by omega
    have k11 := wf_k R il
    have cg : f_X6_get h 16 (nI i) (0 : Int32) = some (nI (mKi ((Pl s).getD i x0))) := c_get (j := 0) R.1.1 il (by omega)
    have rg : hI m 271 (9 * i) = nI (mKi ((Pl s).getD i x0)) := rm_pi (j := 0) R.2.1 il (by omega)
    have hC : f_X6_placeOn_L5 h (f' + 1) 16 ch (nI j) (nI i) = (if ¬ nI (chn (mKi ((Pl s).getD i x0))) = ch then f_X6_placeOn_L5 h f' 16 ch (nI j) (nI (i + 1)) else if ¬ nI j = 0 then f_X6_placeOn_L5 h f' 16 ch (nI j + (-1 : Int32)) (nI (i + 1)) else some (nI i)) := by
      rw [f_X6_placeOn_L5]
      unfold f_X6_placeOn_L43
      rw [y_gs, if_pos (lc_S16 L), pl, if_neg (fun w => by have := (q_le (by omega) (by omega)).mp w; omega), if_neg (lt0 hj), cg, y_bds, y_gb, if_pos (q_ib k11 (by omega)), q_cl (by omega), ch_c _ k11, y_lt, y_lt, y_lt, show (1 : Int32) = nI 1 from rfl, q_add]
    have hM : f_X11_bringsOn_L5 (g' + 1) m 226 ch a2 (nI j) (nI i) = (if nI (chn (mKi ((Pl s).getD i x0))) = ch then (if ¬ nI j = 0 then f_X11_bringsOn_L5 g' m 226 ch a2 (nI j + (-1 : Int32)) (nI (i + 1)) else bd (f_X11_bring m 226 (nI i)) fun q => some ((1 : Int32), q)) else f_X11_bringsOn_L5 g' m 226 ch a2 (nI j) (nI (i + 1))) := by
      rw [f_X11_bringsOn_L5]
      unfold f_X11_bringsOn_L53
      rw [y_gs, if_pos (lm_S226 L2), rm_p R.2.1, if_neg (fun w => by have := (q_le (by omega) (by omega)).mp w; omega), if_neg ha, lm_R60 L2, y_gs, if_pos (lm_S271 L2), lm_N271 L2, show (9 : Int32) = nI 9 from rfl, q_mul, y_gb, if_pos (q_ib (by omega) (by omega)), q_cl (by omega), rg, ch_r m _ k11, y_bds, y_lt, y_lt, y_lt, show (1 : Int32) = nI 1 from rfl, q_add]
    rw [hC, hM]
    by_cases g1 : nI (chn (mKi ((Pl s).getD i x0))) = ch
    · rw [if_neg (fun w => w g1), if_pos g1]
      by_cases g2 : j = 0
      · have z : nI j = 0 := by rw [g2]; rfl
        rw [if_neg (fun w => w z), if_neg (fun w => w z)]
        exact ⟨some i, fun k hk => (by cases hk; exact il), rfl, rfl⟩
      · have z : ¬ nI j = 0 := fun w => g2 ((q_eq hj (show 0 < 2 ^ 31 by omega)).mp w)
        have d : nI j + (-1 : Int32) = nI (j - 1) := by
          rw [show (-1 : Int32) = - nI 1 from by decide, ← Int32.sub_eq_add_neg, q_sub (by omega)]
        rw [if_pos z, if_pos z, d]
        exact ih (i + 1) (j - 1) f' g' (by omega) (by omega) (by omega) (by omega)
    · rw [if_pos g1, if_neg g1]
      exact ih (i + 1) j f' g' (by omega) hj (by omega) (by omega)
/-- what carry at placeOn and bringsOn do -/
theorem on_both {h m : AH} {s : St} {e : Ex} {b : Nat} (ch x : Int32) (R : Rel h m s e b) : ∃ v h' m' s' r, f_X6_placeOn h 16 ch x = some v ∧ f_X10_carry h 1 v = some (nI r, h') ∧ f_X11_bringsOn m 226 ch x = some (nI r, m') ∧ r ≤ 1 ∧ Rel h' m' s' e b ∧ Bd h h' ∧ m'.2 = m.2 ∧ (∀ i, N s' 0 i = N s 0 i) := by
  have L := RC_L R.1.1
  have L2 := rm_L R.2.1
  have ln := len_lt R
  have pl : hI h 16 1 = nI (Pl s).length := R.1.1.2.2.2.2.2.2.1.1
  unfold f_X6_placeOn f_X11_bringsOn
  rw [y_lt, y_lt]
  rcases i_cases x with g | ⟨n, n1, n2⟩
  · obtain ⟨f, hf⟩ := FU_ex (n := 0) (by omega)
    have c1 : f_X6_placeOn_L5 h FU 16 ch x (0 : Int32) = some nN := by
      rw [hf]; unfold f_X6_placeOn_L5
      rw [y_gs, if_pos (lc_S16 L), if_pos g]
      split <;> rfl
    have c2 : f_X11_bringsOn_L5 FU m 226 ch x x (0 : Int32) = some (nI 0, m) := by
      rw [hf]; unfold f_X11_bringsOn_L5
      rw [y_gs, if_pos (lm_S226 L2), if_pos g]
      split <;> rfl
    exact ⟨nN, h, m, s, 0, c1, c_carryN R.1.1 R.2.2.1 (Or.inl (by decide)), c2, by omega, R, Bd_rfl h, rfl, fun _ => rfl⟩
  · subst n2
    obtain ⟨o, o1, o2, o3⟩ := on_loop R ch (nI n) (lt0 n1) (Pl s).length 0 n FU FU (by omega) n1 (FU_gt (by omega)) (FU_gt (by omega))
    have o2' : f_X6_placeOn_L5 h FU 16 ch (nI n) (0 : Int32) = some (oI o) := o2
    have o3' : f_X11_bringsOn_L5 FU m 226 ch (nI n) (nI n) (0 : Int32) = _ := o3
    rw [o2', o3']
    cases o with
    | none => exact ⟨nN, h, m, s, 0, rfl, c_carryN R.1.1 R.2.2.1 (Or.inl (by decide)), rfl, by omega, R, Bd_rfl h, rfl, fun _ => rfl⟩
    | some k =>
      obtain ⟨h', m', a1, a2, a3, a4, a5, a6⟩ := bring_both R (o1 k rfl)
      exact ⟨nI k, h', m', _, 1, rfl, a1, by show (bd (f_X11_bring m 226 (nI k)) fun q => some ((1 : Int32), q)) = _; rw [a2, y_bds]; rfl, by omega, a3, a4, a5, a6⟩
theorem call_deliverOn {h m : AH} {s : St} {e : Ex} {b : Nat} (ch x : Int32) (R : Rel h m s e b) (he : e 8 0 = e 8 1) : Cl 0 h m e b (f_X10_deliverOn h 1 ch x) (f_X11_deliverOn m 226 ch x) := by
  have L := RC_L R.1.1
  have L2 := rm_L R.2.1
  have R0 := Rel_thr R 0
  obtain ⟨q0, q1, q2⟩ := e2_8 e 0
  obtain ⟨v, h', m', s', r, a0, a1, a2, a3, a4, a5, a6, a7⟩ := on_both ch x R0
  unfold f_X10_deliverOn f_X11_deliverOn
  rw [y_gs, if_pos (lc_S1 L), lc_R1_2 L, y_gs, if_pos (lc_S16 L), a0, y_bds, a1, y_bds, y_gb, if_pos (b01 a3), y_gs, if_pos (lm_S226 L2), y_lt, show (0 : Int32) = nI 0 from rfl, a2, y_bds, y_gb, show (nI r == nI 0 || nI r == 1) = true from b01 a3, if_pos rfl]
  exact ⟨h', m', s', _, nI r, rfl, rfl, a4, a5, by rw [a6]; rfl, by rw [q0, q1]; exact he⟩
