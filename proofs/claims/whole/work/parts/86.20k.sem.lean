/-! A word is to be changed. -/
theorem sChange_N {s : St} {k F j : Nat} (h : F = 0 ∨ F = 1 ∨ F = 4 ∨ F = 8) : N (sChange s k) F j = N s F j := by
  unfold sChange; rw [N_ne (by omega), N_ne (by omega), N_ne (by omega), sUse_N (by omega)]
theorem RC_19 {h : AH} {s : St} (R : RC h s) (v : Nat) : RC h (uN s 19 0 v) := by
  obtain ⟨k1, k2, k3, k4, k5, k6, k7, k8, k9, k10⟩ := R.2.2.1 0 (by omega)
  refine RC_K (c := 0) R (by omega) (FrK_rfl h 0) (fun G j => ?_) (fun G j => Or.inl rfl) rfl rfl ⟨k3, k5, k6, k7, k8, k9, k10, rfl, rfl⟩ (fun i hi => R.2.2.2.1 0 i (by omega) hi)
  by_cases e : G = 19
  · exact Or.inr (Or.inr (Or.inr (Or.inr e)))
  · exact Or.inl (N_ne (by omega))
theorem change_both {h m : AH} {s : St} {e : Ex} {b c A : Nat} (R : Rel h m s e b) (hc : c < N s 0 0) (hA : A < 2048) (hb : b + 1 ≤ 536870912) :
    ∃ h' m' s', (Rel h' m' s' e (b + 1) ∧ Bd h h' ∧ m'.2 = m.2 ∧ (∀ i, N s' 0 i = N s 0 i) ∧ TF m m') ∧
      ((f_X3_wordToChange h (34 + 12 * c) (nI (4 * A)) = some (nN, h') ∧ f_X11_changes m 226 (nI c) (nI (4 * A)) = some (nI 0, m')) ∨
       (∃ k, k < 512 ∧ k / 32 = c ∧ 2 ≤ N s' 2 k ∧ N s' 1 k = A / 4 ∧ f_X3_wordToChange h (34 + 12 * c) (nI (4 * A)) = some (nI (4 * (k % 32) + A % 4), h') ∧ f_X11_changes m 226 (nI c) (nI (4 * A)) = some (nI 1, m'))) := by
  have R0 := R
  obtain ⟨⟨RC', D⟩, RM', I, C, X⟩ := R
  have b0 := I.1.1.1.2
  have lim := Rel_lim R0
  have len := IV_len I
  have c16 : c < 16 := by omega
  have L := RC_L RC'
  have l512 : A / 4 < 512 := by omega
  have al : 4 * A / 16 = A / 4 := by omega
  have sh4 : nI (4 * A) >>> ((4 : Int32) &&& 31) = nI (A / 4) := by
    rw [show ((4 : Int32) &&& 31) = nI 4 from by decide, q_shr (by omega) (by omega), show 4 * A / 2 ^ 4 = A / 4 by omega]
  obtain ⟨m', em, rm, fm⟩ := r_changes RM' (IV_Bz I) (IV_Rg I) (IV_1 I) c16 (show 4 * A < 8192 by omega) (by omega)
  rw [al] at em rm
  have miss : vS s (A / 4) c ≤ 1 → ∃ h', f_X3_wordToChange_L28 h (34 + 12 * c) (nI (4 * A)) = some (nN, h') ∧ RC h' (sMiss s c (A / 4) 1) ∧ FrD h h' := by
    intro _
    obtain ⟨h', e1, r1, f1⟩ := c_miss (kd := 1) RC' (IV_Bz I) (IV_Rg I) (IV_21 I) (IV_1 I) c16 l512 (by omega) (fun g => (IV_slot I c16 g).1) (fun g => (IV_slot I c16 g).2)
    refine ⟨h', ?_, r1, f1⟩
    unfold f_X3_wordToChange_L28
    have e1' : f_X3_miss h (34 + 12 * c) (nI (A / 4)) (1 : Int32) = some h' := e1
    rw [y_gs, if_pos (lk_S34 L c16), sh4, e1', y_bds]; rfl
  have missRel : ∀ h', RC h' (sMiss s c (A / 4) 1) → FrD h h' → RM m' (sMiss s c (A / 4) 1) → vS s (A / 4) c ≤ 1 → Rel h' m' (sMiss s c (A / 4) 1) e (b + 1) := by
    intro h' r1 f1 r2 hv
    exact ⟨⟨r1, DZ_D D f1.2 (fun _ => sMiss_N (by omega)) (fun _ => sMiss_N (by omega)) (fun _ => sMiss_N (by omega))⟩, r2, IV_miss I hc l512 (by omega) hv hb, CN_of C (sMiss_N (by omega)) (sMiss_N (by omega)) (fun _ => sMiss_N (by omega)), EX_fr X f1.1 fm (fun _ => sMiss_N (by omega)) (by omega) lim⟩
  have head : f_X3_wordToChange h (34 + 12 * c) (nI (4 * A)) = (if oI ((sWay s c (A / 4)).map (lo c)) < 0 then f_X3_wordToChange_L28 h (34 + 12 * c) (nI (4 * A)) else
      gb (ib (oI ((sWay s c (A / 4)).map (lo c))) 32) <| if (2 : Int32) ≤ hI h (40 + 12 * c) (oI ((sWay s c (A / 4)).map (lo c))).toNatClampNeg then
        bd (f_X2_use h (38 + 12 * c) (oI ((sWay s c (A / 4)).map (lo c)))) fun q8 => gs q8 (34 + 12 * c) 3 <| gs q8 (hR q8 (34 + 12 * c) 6) 2 <| gs q8 (hR q8 (hR q8 (34 + 12 * c) 6) 1) 21 <| gb (ib (oI ((sWay s c (A / 4)).map (lo c))) (hN q8 (hR q8 (hR q8 (34 + 12 * c) 6) 1))) <| lt (sI q8 (hR q8 (hR q8 (34 + 12 * c) 6) 1) (oI ((sWay s c (A / 4)).map (lo c))).toNatClampNeg (3 : Int32)) fun h13 => lt (sI h13 (34 + 12 * c) 15 ((hI h13 (34 + 12 * c) 15) + (1 : Int32))) fun h15 => bd (f_X10_wordOf h15 (oI ((sWay s c (A / 4)).map (lo c))) (nI (4 * A))) fun v16 => some (v16, h15)
      else f_X3_wordToChange_L28 h (34 + 12 * c) (nI (4 * A))) := by
    unfold f_X3_wordToChange
    rw [y_gs, if_pos (lk_S34 L c16), lk_R34_6 L c16, y_gs, if_pos (lk_S38 L c16), sh4, c_find RC' (IV_Bz I) (IV_Rg I) c16 l512, y_bds, lk_R38_1 L c16, y_gs, if_pos (lk_S40 L c16), lk_N40 L c16]
  rw [head]
  cases ew : sWay s c (A / 4) with
  | none =>
    rw [ew] at em rm
    have vs : vS s (A / 4) c ≤ 1 := by unfold vS; rw [if_pos c16, ew]; exact Nat.zero_le _
    obtain ⟨h', e1, r1, f1⟩ := miss vs
    rw [show Option.map (lo c) none = none from rfl, oI_n, if_pos (show nN < 0 from by decide)]
    exact ⟨h', m', _, ⟨missRel h' r1 f1 rm vs, Bd_C f1.1, fm.1, fun _ => sMiss_N (by omega), TF_Fr fm⟩, Or.inl ⟨e1, em⟩⟩
  | some k =>
    rw [ew] at em rm
    obtain ⟨k1, k2, k3, k4⟩ := (sWay_iff (IV_Bz I) I.2.1.1 c16).mp ew
    have lok : lo c k = k % 32 := by unfold lo; omega
    have l32 : lo c k < 32 := by omega
    have kk : 32 * c + lo c k = k := by omega
    have st : hI h (40 + 12 * c) (lo c k) = nI (N s 2 k) := by
      have := (RC'.2.2.2.1 c (lo c k) c16 l32).1
      rw [kk] at this; exact this
    have n3 := (IV_Cr I).1 k k1
    rw [show Option.map (lo c) (some k) = some (lo c k) from rfl, oI_s, if_neg (lt0 (show lo c k < 2 ^ 31 by omega)), y_gb, if_pos (q_ib l32 (by omega)), q_cl (show lo c k < 2 ^ 31 by omega), st, show (2 : Int32) = nI 2 from rfl]
    by_cases g : 2 ≤ N s 2 k
    · have em' : f_X11_changes m 226 (nI c) (nI (4 * A)) = some (nI 1, m') := by
        rw [em]; show some ((if 2 ≤ N s 2 k then nI 1 else nI 0), m') = _; rw [if_pos g]
      have rm' : RM m' (sChange s k) := by
        have rm2 : RM m' (if 2 ≤ N s 2 k then sChange s k else sMiss s c (A / 4) 1) := rm
        rw [if_pos g] at rm2; exact rm2
      rw [if_pos ((q_le (show 2 < 2 ^ 31 by omega) (by omega)).mpr g)]
      obtain ⟨h1, e1, r1, f1⟩ := c_use RC' c16 l32
      rw [kk] at r1
      have L1 := RC_L r1
      obtain ⟨r2, f2⟩ := c_state (v := 3) r1 c16 l32 (Or.inr (by rw [kk, sUse_N (by omega)]; exact k3))
      rw [kk] at r2
      have r3 := RC_19 r2 (N s 19 0 + 1)
      obtain ⟨r4, f4⟩ := c_field (f := 15) (F := 25) (v := N s 25 c + 1) (x := nI (N s 25 c + 1)) r3 c16 (Or.inr (Or.inr (Or.inr (Or.inr ⟨rfl, rfl, rfl⟩))))
      have c25 : hI (sI h1 (40 + 12 * c) (lo c k) (nI 3)) (34 + 12 * c) 15 = nI (N s 25 c) := by
        have := (r2.2.2.1 c c16).2.2.2.2.2.2.2.2.1
        rw [this, N_ne (by omega), sUse_N (by omega)]
      have L3 : LC (sI h1 (40 + 12 * c) (lo c k) (nI 3)) := L1
      have wof : ∀ q : AH, f_X10_wordOf q (nI (lo c k)) (nI (4 * A)) = some (nI (4 * (k % 32) + A % 4)) := by
        intro q
        unfold f_X10_wordOf
        rw [show ((2 : Int32) &&& 31) = nI 2 from by decide, q_shr (by omega) (by omega), show (3 : Int32) = nI (2 ^ 2 - 1) from rfl, q_and (by omega) (by omega), show (4 : Int32) = nI 4 from rfl, q_mul, q_add]
        congr 2; omega
      have tf := FrD_tr (FrD_tr (FrD_K f1) (FrD_K f2)) (FrD_K f4)
      have sc : sChange s k = uN (uN (uN (sUse s k) 2 k 3) 19 0 (N s 19 0 + 1)) 25 c (N s 25 c + 1) := by
        unfold sChange; rw [k2]
      rw [← sc] at r4
      refine ⟨_, m', sChange s k, ⟨⟨⟨r4, DZ_D D tf.2 (fun _ => sChange_N (by omega)) (fun _ => sChange_N (by omega)) (fun _ => sChange_N (by omega))⟩, rm', IV_change I k1 g hb, ?_, EX_fr X tf.1 fm (fun _ => sChange_N (by omega)) (by omega) lim⟩, Bd_C tf.1, fm.1, fun _ => sChange_N (by omega), TF_Fr fm⟩, Or.inr ⟨k, k1, k2, ?_, ?_, ?_, em'⟩⟩
      · refine ⟨?_, fun j hj => ?_⟩
        · have e1 : N (sChange s k) 19 0 = N s 19 0 + 1 := by rw [sc, N_ne (by omega), N_eq]
          rw [e1, C.1]
          refine (sg_up (c := c) 16 c16 ?_ (fun j hj => ?_)).symm
          · rw [sc, N_eq]
          · rw [sc, N_ne (by omega), N_ne (by omega), N_ne (by omega), sUse_N (by omega)]
        · rw [sChange_N (by omega)] at hj
          rw [sc, N_ne (by omega), N_ne (by omega), N_ne (by omega), sUse_N (by omega)]; exact C.2 j hj
      · rw [sc, N_ne (by omega), N_ne (by omega), N_eq]; omega
      · rw [sChange_N (by omega)]; exact k4
      · rw [e1, y_bds, y_gs, if_pos (lk_S34 L1 c16), lk_R34_6 L1 c16, y_gs, if_pos (lk_S38 L1 c16), lk_R38_1 L1 c16, y_gs, if_pos (lk_S40 L1 c16), lk_N40 L1 c16, y_gb, if_pos (q_ib l32 (by omega)), y_lt, y_lt, show (3 : Int32) = nI 3 from rfl, c25, wof, y_bds, show (1 : Int32) = nI 1 from rfl, q_add]
    · have em' : f_X11_changes m 226 (nI c) (nI (4 * A)) = some (nI 0, m') := by
        rw [em]; show some ((if 2 ≤ N s 2 k then nI 1 else nI 0), m') = _; rw [if_neg g]
      have rm' : RM m' (sMiss s c (A / 4) 1) := by
        have rm2 : RM m' (if 2 ≤ N s 2 k then sChange s k else sMiss s c (A / 4) 1) := rm
        rw [if_neg g] at rm2; exact rm2
      have vs : vS s (A / 4) c ≤ 1 := by unfold vS; rw [if_pos c16, ew]; show N s 2 k ≤ 1; omega
      obtain ⟨h', e1, r1, f1⟩ := miss vs
      rw [if_neg (fun w => g ((q_le (show 2 < 2 ^ 31 by omega) (by omega)).mp w))]
      exact ⟨h', m', _, ⟨missRel h' r1 f1 rm' vs, Bd_C f1.1, fm.1, fun _ => sMiss_N (by omega), TF_Fr fm⟩, Or.inl ⟨e1, em'⟩⟩
/-- a word is written in both -/
theorem write_both {h m : AH} {s : St} {e : Ex} {b c A k : Nat} {v : Int32} (R : Rel h m s e b) (hA : A < 2048) (k1 : k < 512) (k2 : k / 32 = c) (h2 : 2 ≤ N s 2 k) (h1 : N s 1 k = A / 4) :
    hI h (42 + 12 * c) (4 * (k % 32) + A % 4) = hI m 241 A ∧ Rel (sI h (42 + 12 * c) (4 * (k % 32) + A % 4) v) (sI m 241 A v) (sWrite s k A v) e b := by
  have R0 := R
  obtain ⟨⟨RC', D⟩, RM', I, C, X⟩ := R
  have lim := Rel_lim R0
  have c16 : c < 16 := by omega
  have l512 : A / 4 < 512 := by omega
  have kk : 32 * c + k % 32 = k := by omega
  have cw := (RC'.2.2.2.1 c (k % 32) c16 (by omega)).2.2.2 (A % 4) (by omega)
  rw [kk] at cw
  have d5 := I.2.2.2.2.2.2.2.1.2.2.2.2.1 k k1 (by omega)
  rw [h1] at d5
  have mw := RM'.2.2.1 0 (A / 4) (A % 4) (by omega) l512 (by omega)
  rw [show 4 * (A / 4) + A % 4 = A by omega] at mw
  have mw' : hI m 241 A = w4 (Wda s 0 (A / 4)) (A % 4) := mw
  refine ⟨by rw [cw, d5, mw'], ⟨?_, ?_⟩, ?_, IV_write I k1 h2 (by rw [h1]), ?_, ?_⟩
  · obtain ⟨q1, q2, q3, q4, q5, q6, q7, q8, q9, q10⟩ := RC'.2.2.1 c c16
    refine RC_K (c := c) RC' c16 (FrK_sI (FrK_rfl h c) _ (by omega)) (fun G j => Or.inl rfl) (fun G j => ?_) rfl rfl ⟨?_, ?_, ?_, ?_, ?_, ?_, ?_, ?_, ?_⟩ (fun i hi => ?_)
    · unfold sWrite
      by_cases g4 : G = 4 ∧ j = k
      · exact Or.inr (Or.inr (Or.inr ⟨g4.1, by omega⟩))
      · by_cases g0 : G = 0
        · exact Or.inr (Or.inl g0)
        · exact Or.inl (by rw [W_ne (by omega), W_ne (by omega)])
    · rw [x_ne (by omega)]; exact q3
    · rw [x_ne (by omega)]; exact q5
    · intro g; rw [x_ne (by omega)]; exact q6 g
    · rw [x_ne (by omega)]; exact q7
    · rw [x_ne (by omega)]; exact q8
    · rw [x_ne (by omega)]; exact q9
    · intro j hj; rw [x_ne (by omega)]; exact q10 j hj
    · rw [x_ne (by omega)]
    · rw [x_ne (by omega)]
    · obtain ⟨p1, p2, p3, p4⟩ := RC'.2.2.2.1 c i c16 hi
      refine ⟨?_, fun g => ?_, ?_, fun j hj => ?_⟩
      · rw [x_ne (by omega)]; exact p1
      · rw [x_ne (by omega)]; exact p2 g
      · rw [x_ne (by omega)]; exact p3
      · unfold sWrite
        by_cases gi : i = k % 32
        · subst gi
          rw [kk, uW_at, w4_w4s _ _ _ _ hj (by omega)]
          by_cases gj : j = A % 4
          · rw [if_pos gj, gj, x_eq]
          · rw [if_neg gj, x_ne (by omega)]
            have := p4 j hj
            rw [kk] at this; exact this
        · rw [x_ne (by omega), W_ne (by omega), W_ne (by omega)]; exact p4 j hj
  · intro j u g4 g8
    rw [x_ne (by omega)]; exact D j u g4 g8
  · have r := RM_gW (RM_W (F := 0) (i := A / 4) (j := A % 4) (v := v) RM' (by omega) l512 (by omega)) (F := 4) (i := k) (w := w4s (Wda s 4 k) (A % 4) v) (by omega)
    rw [show 4 * (A / 4) + A % 4 = A by omega] at r
    exact r
  · exact CN_of C rfl rfl (fun _ => rfl)
  · refine ⟨fun j hj => ?_, EXg_of X.2 (fun o q ho => x_ne (by omega)) (fun o q ho => x_ne (by omega))⟩
    exact EXc_of (X.1 j hj) hj (fun o q ho => x_ne (by omega)) (fun q => Or.inl (x_ne (by omega))) (fun o ho => x_ne (by omega)) (fun o q ho _ => x_ne (by omega)) (fun q _ i _ => x_ne (by omega)) (Nat.le_refl _) lim
