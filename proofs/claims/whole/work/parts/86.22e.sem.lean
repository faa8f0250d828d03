/-! One entry in both. -/
def opC (K : KC) (q : AH) (a0 : Nat) (a2 a3 a4 v7 v10 v12 : Int32) : Option (Option Int32 × AH) :=
  gs q a0 9 <|
  gs q (hR q a0 0) 7 <|
  gs q (hR q (hR q a0 0) 0) 23 <|
  gb (ib a4 (hN q (hR q (hR q a0 0) 0))) <|
  if (hI q (hR q (hR q a0 0) 0) a4.toNatClampNeg) = (100 : Int32) then
    bd (f_X10_isCore q a0 v10) fun v19 =>
    if v19 = 0 then
      f_X10_play_L242 K q a0 a2 a3 a4 v7
    else
      gs q (hR q a0 4) 25 <|
      gb (ib v10 (hN q (hR q a0 4))) <|
      gs q (hR q (hR q a0 4) v10.toNatClampNeg) 3 <|
      bd (f_X3_settle q (hR q (hR q a0 4) v10.toNatClampNeg)) fun q24 =>
      if q24.1 = 0 then
        f_X10_play_L242 K q24.2 a0 a2 a3 a4 v7
      else
        f_X10_play_L243 K q24.2 a0 a2 a3 a4 v7 (1 : Int32)
  else
    if (hI q (hR q (hR q a0 0) 0) a4.toNatClampNeg) = (109 : Int32) then
      bd (f_X10_carry q a0 (((16 : Int32) * v10) + v12)) fun q27 =>
      lt (q27.1) fun x28 =>
      f_X10_play_L282 K q27.2 a0 a2 a3 a4 v7 x28
    else
      if (hI q (hR q (hR q a0 0) 0) a4.toNatClampNeg) = (115 : Int32) then
        bd (f_X10_isCore q a0 v10) fun v30 =>
        if v30 = 0 then
          f_X10_play_L210 K q a0 a2 a3 a4 v7
        else
          gs q (hR q a0 4) 25 <|
          gb (ib v10 (hN q (hR q a0 4))) <|
          gs q (hR q (hR q a0 4) v10.toNatClampNeg) 3 <|
          bd (f_X3_advance q (hR q (hR q a0 4) v10.toNatClampNeg)) fun q35 =>
          if q35.1 = 0 then
            f_X10_play_L210 K q35.2 a0 a2 a3 a4 v7
          else
            f_X10_play_L211 K q35.2 a0 a2 a3 a4 v7 (1 : Int32)
      else
        gs q (hR q a0 2) 5 <|
        bd (f_X6_placeOn q (hR q a0 2) v10 v12) fun v38 =>
        bd (f_X10_carry q a0 v38) fun q39 =>
        lt (q39.1) fun x40 =>
        f_X10_play_L282 K q39.2 a0 a2 a3 a4 v7 x40
theorem dg_s {e : Ex} {c k j : Nat} (h : ¬ bdg e c k j = true) : ∃ d, dgt (tat e j) = some d ∧ d < 16 := by
  unfold bdg at h
  cases ed : dgt (tat e j) with
  | none => rw [ed] at h; exact absurd rfl h
  | some d => exact ⟨d, rfl, dgt_lt ed⟩
theorem bad_d {e : Ex} {k : Nat} (h : bad e k = none) : (∃ d, dgt (tat e (k + 1)) = some d ∧ d < 16) ∧ (mny (tat e k) = 2 → ∃ d, dgt (tat e (k + 2)) = some d ∧ d < 16) := by
  unfold bad at h
  split at h
  · cases h
  · split at h
    · cases h
    · next g =>
      split at h
      · cases h
      · next g2 => exact ⟨dg_s g, fun q => dg_s (fun z => g2 ⟨q, z⟩)⟩
theorem r_pos {r : Nat} (h : r ≤ 6) : (nI r ≤ 0 ↔ r = 0) ∧ (nI r = 0 ↔ r = 0) := by
  refine ⟨⟨fun q => ?_, fun q => by subst q; decide⟩, ⟨fun q => (q_eq (b := 0) (by omega) (by omega)).mp q, fun q => by subst q; rfl⟩⟩
  have := (q_le (b := 0) (by omega) (by omega)).mp q; omega
theorem op_both {h m : AH} {s : St} {e : Ex} {b k : Nat} (R : Rel h m s e b) (hb3 : b + 3 ≤ 536870912) (kT : k < e 8 1) (hb : bad e k = none) (K : KC) (a2 a3 : Int32) :
    ∃ h' m' s' e' d, d ≤ 1 ∧ opC K h 1 a2 a3 (nI k) (nI (mny (tat e k))) (oI (dgt (tat e (k + 1)))) (oI (dgt (tat e (k + mny (tat e k))))) = f_X10_play_L282 K h' 1 a2 a3 (nI k) (nI (mny (tat e k))) (nI d) ∧ f_X11_isDone m 226 (nI k) = some (nI d, m') ∧ Rel h' m' s' e' (b + 3) ∧ Bd h h' ∧ m'.2 = m.2 ∧ (∀ i, N s' 0 i = N s 0 i) ∧ (∀ F i, 8 ≤ F → e' F i = e F i) := by
  have L := RC_L R.1.1
  have L2 := rm_L R.2.1
  have n16 := FR_b R
  have B := IV_Bz R.2.2.1
  obtain ⟨k1, k2, k3, k4⟩ := c_mark R kT
  have lt := tat_lt R k
  have m0 := bad_m hb
  obtain ⟨⟨a, ea, a16⟩, hd2⟩ := bad_d hb
  have add : ∀ i j, nI i + nI j = nI (i + j) := fun i j => q_add i j
  have head : opC K h 1 a2 a3 (nI k) (nI (mny (tat e k))) (oI (dgt (tat e (k + 1)))) (oI (dgt (tat e (k + mny (tat e k))))) = opC K h 1 a2 a3 (nI k) (nI (mny (tat e k))) (nI a) (oI (dgt (tat e (k + mny (tat e k))))) := by rw [ea]; rfl
  rw [head]
  have qc : ∀ j, j < 128 → (nI (tat e k) = nI j ↔ tat e k = j) := fun j hj => q_eq (by omega) (by omega)
  have rh : f_X11_isDone m 226 (nI k) = (if ¬ nI (tat e k) = (115 : Int32) then if ¬ nI (tat e k) = (100 : Int32) then if ¬ nI (tat e k) = (109 : Int32) then (bd (f_X11_bringsOn m 226 (nI a) (oI (dgt (tat e (k + 2))))) fun q8 => gb (q8.1 == 0 || q8.1 == 1) <| some (q8.1, q8.2)) else (bd (f_X11_brings m 226 (((16 : Int32) * nI a) + oI (dgt (tat e (k + 2))))) fun q10 => f_X11_isDone_L100 q10.2 q10.1) else if nI (N s 0 0) ≤ nI a then some ((0 : Int32), m) else (bd (f_X11_drainOf m 226 (nI a)) fun q14 => if q14.1 ≤ 0 then some ((0 : Int32), q14.2) else some ((1 : Int32), q14.2)) else if nI (N s 0 0) ≤ nI a then some ((0 : Int32), m) else (bd (f_X11_stepOf m 226 (nI a)) fun q19 => if q19.1 ≤ 0 then some ((0 : Int32), q19.2) else some ((1 : Int32), q19.2))) := by
    unfold f_X11_isDone
    have a2' : nI k + (2 : Int32) = nI (k + 2) := add k 2
    have a1' : nI k + (1 : Int32) = nI (k + 1) := add k 1
    rw [y_gs, if_pos (lm_S226 L2), r_see R (by omega), y_bds, a1', a2', r_digitAt R (by omega), y_bds, r_digitAt R (by omega), y_bds, ea, oI_s, lm_R21 L2, y_gs, if_pos (lm_S239 L2), lm_N239 L2, y_gb, if_pos (show ib (0 : Int32) 6 = true from by decide), show (0 : Int32).toNatClampNeg = 0 from by decide, rm_0 R.2.1 (by omega), y_gs, if_pos (lm_S239 L2), y_gb, if_pos (show ib (0 : Int32) 6 = true from by decide)]
  rw [rh]
  unfold opC
  rw [y_gs, if_pos (lc_S1 L), lc_R1_0 L, y_gs, if_pos (lc_S2 L), y_gs, if_pos k1, y_gb, if_pos k2, k3]
  unfold f_X10_play_L242 f_X10_play_L243 f_X10_play_L210 f_X10_play_L211
  have no : (N s 0 0 ≤ a → nI (N s 0 0) ≤ nI a) ∧ (a < N s 0 0 → ¬ nI (N s 0 0) ≤ nI a) := ⟨fun q => (q_le (by omega) (by omega)).mpr q, fun q z => by have := (q_le (by omega) (by omega)).mp z; omega⟩
  rcases mny_b m0 with c | c | c | c
  · -- a step
    have z1 : nI (tat e k) = (115 : Int32) := (qc 115 (by omega)).mpr c
    have z2 : ¬ nI (tat e k) = (100 : Int32) := fun q => by have := (qc 100 (by omega)).mp q; omega
    have z3 : ¬ nI (tat e k) = (109 : Int32) := fun q => by have := (qc 109 (by omega)).mp q; omega
    rw [if_neg z2, if_neg z3, if_pos z1, if_neg (fun q => q z1), c_isCore R.1.1 (by omega) B]
    by_cases g : a < N s 0 0
    · obtain ⟨d1, d2, d3⟩ := c_cores L (show a < 16 by omega)
      obtain ⟨h', m', s', e', r, p1, p2, p3, p4, p5, p6, p7, p8⟩ := advance_both R g hb3
      rw [if_pos g, y_bds, if_neg (show ¬ nI 1 = 0 from by decide), y_gs, if_pos d1, y_gb, if_pos d2, d3, y_gs, if_pos (lk_S34 L (by omega)), p1, y_bds, if_neg (no.2 g), p2, y_bds]
      by_cases rz : r = 0
      · refine ⟨h', m', s', e', 0, by omega, ?_, ?_, p4, p5, p6, p7, p8⟩
        · rw [if_pos ((r_pos p3).2.mpr rz)]; rfl
        · rw [if_pos ((r_pos p3).1.mpr rz)]; rfl
      · refine ⟨h', m', s', e', 1, by omega, ?_, ?_, p4, p5, p6, p7, p8⟩
        · rw [if_neg (fun q => rz ((r_pos p3).2.mp q))]; rfl
        · rw [if_neg (fun q => rz ((r_pos p3).1.mp q))]; rfl
    · rw [if_neg g, y_bds, if_pos (show nI 0 = 0 from rfl), if_pos (no.1 (by omega))]
      exact ⟨h, m, s, e, 0, by omega, rfl, rfl, Rel_up R (by omega) hb3, Bd_rfl h, rfl, fun _ => rfl, fun _ _ _ => rfl⟩
  · -- a drain
    have z1 : ¬ nI (tat e k) = (115 : Int32) := fun q => by have := (qc 115 (by omega)).mp q; omega
    have z2 : nI (tat e k) = (100 : Int32) := (qc 100 (by omega)).mpr c
    rw [if_pos z2, if_pos z1, if_neg (fun q => q z2), c_isCore R.1.1 (by omega) B]
    by_cases g : a < N s 0 0
    · obtain ⟨d1, d2, d3⟩ := c_cores L (show a < 16 by omega)
      obtain ⟨h', m', s', e', r, p1, p2, p3, p4, p5, p6, p7, p8⟩ := drain_both R g (by omega)
      rw [if_pos g, y_bds, if_neg (show ¬ nI 1 = 0 from by decide), y_gs, if_pos d1, y_gb, if_pos d2, d3, y_gs, if_pos (lk_S34 L (by omega)), p1, y_bds, if_neg (no.2 g), p2, y_bds]
      by_cases rz : r = 0
      · refine ⟨h', m', s', e', 0, by omega, ?_, ?_, Rel_up p4 (by omega) hb3, p5, p6, p7, p8⟩
        · rw [if_pos ((r_pos (by omega)).2.mpr rz)]; rfl
        · rw [if_pos ((r_pos (by omega)).1.mpr rz)]; rfl
      · refine ⟨h', m', s', e', 1, by omega, ?_, ?_, Rel_up p4 (by omega) hb3, p5, p6, p7, p8⟩
        · rw [if_neg (fun q => rz ((r_pos (by omega)).2.mp q))]; rfl
        · rw [if_neg (fun q => rz ((r_pos (by omega)).1.mp q))]; rfl
    · rw [if_neg g, y_bds, if_pos (show nI 0 = 0 from rfl), if_pos (no.1 (by omega))]
      exact ⟨h, m, s, e, 0, by omega, rfl, rfl, Rel_up R (by omega) hb3, Bd_rfl h, rfl, fun _ => rfl, fun _ _ _ => rfl⟩
  · -- a message
    have z1 : ¬ nI (tat e k) = (115 : Int32) := fun q => by have := (qc 115 (by omega)).mp q; omega
    have z2 : ¬ nI (tat e k) = (100 : Int32) := fun q => by have := (qc 100 (by omega)).mp q; omega
    have z3 : nI (tat e k) = (109 : Int32) := (qc 109 (by omega)).mpr c
    have m2 : mny (tat e k) = 2 := by rw [c]; rfl
    rw [if_neg z2, if_pos z3, if_pos z1, if_pos z2, if_neg (fun q => q z3), m2]
    obtain ⟨h', m', s', r, p1, p2, p3, p4, p5, p6, p7⟩ := brings_both (((16 : Int32) * nI a) + oI (dgt (tat e (k + 2)))) R
    unfold f_X11_isDone_L100
    rw [p1, y_bds, y_lt, p2, y_bds, y_gb, if_pos (b01 p3)]
    exact ⟨h', m', s', e, r, p3, rfl, rfl, Rel_up p4 (by omega) hb3, p5, p6, p7, fun _ _ _ => rfl⟩
  · -- a message of a channel
    have z1 : ¬ nI (tat e k) = (115 : Int32) := fun q => by have := (qc 115 (by omega)).mp q; omega
    have z2 : ¬ nI (tat e k) = (100 : Int32) := fun q => by have := (qc 100 (by omega)).mp q; omega
    have z3 : ¬ nI (tat e k) = (109 : Int32) := fun q => by have := (qc 109 (by omega)).mp q; omega
    have m2 : mny (tat e k) = 2 := by rw [c]; rfl
    rw [if_neg z2, if_neg z3, if_neg z1, if_pos z1, if_pos z2, if_pos z3, m2]
    obtain ⟨v, h', m', s', r, p0, p1, p2, p3, p4, p5, p6, p7⟩ := on_both (nI a) (oI (dgt (tat e (k + 2)))) R
    rw [lc_R1_2 L, y_gs, if_pos (lc_S16 L), p0, y_bds, p1, y_bds, y_lt, p2, y_bds, y_gb, if_pos (b01 p3)]
    exact ⟨h', m', s', e, r, p3, rfl, rfl, Rel_up p4 (by omega) hb3, p5, p6, p7, fun _ _ _ => rfl⟩
