/-! word: wherever a line is, its words are those of the one memory. -/
theorem pl_wf {h m : AH} {s : St} {e : Ex} {b : Nat} (R : Rel h m s e b) {i : Nat} (hi : i < (Pl s).length) : (Pl s).getD i x0 ∈ Pl s ∧ (Pl s).getD i x0 ∈ Z s ∧ wf (N s 0 0) ((Pl s).getD i x0) := by
  have q : (Pl s).getD i x0 ∈ Pl s := by
    rw [List.getD_eq_getElem?_getD, List.getElem?_eq_getElem hi]
    exact List.getElem_mem hi
  have z : (Pl s).getD i x0 ∈ Z s := by unfold Z; exact List.mem_append_left _ q
  exact ⟨q, z, R.2.2.1.2.2.1.2.1 _ z⟩
def pw (s : St) (l i : Nat) : Prop := mKi ((Pl s).getD i x0) = 5 ∧ mLi ((Pl s).getD i x0) = l ∧ mFi ((Pl s).getD i x0) = 1
theorem c_pow {h m : AH} {s : St} {e : Ex} {b : Nat} (R : Rel h m s e b) {l : Nat} (hl : l < 512) : ∃ o : Option Nat, f_X6_placeOfWords h 16 (5 : Int32) (nI l) = some (oI o) ∧ (∀ k, o = some k → k < (Pl s).length ∧ pw s l k) ∧ (o = none → ∀ k, k < (Pl s).length → ¬ pw s l k) := by
  have L := RC_L R.1.1
  have ln := len_lt R
  have pl : hI h 16 1 = nI (Pl s).length := R.1.1.2.2.2.2.2.2.1.1
  have key : ∀ r i f, i + r = (Pl s).length → r < f → ∃ o : Option Nat, f_X6_placeOfWords_L2 h f 16 (5 : Int32) (nI l) (nI i) = some (oI o) ∧ (∀ k, o = some k → k < (Pl s).length ∧ pw s l k) ∧ (o = none → ∀ k, i ≤ k → k < (Pl s).length → ¬ pw s l k) := by
    intro r
    induction r with
    | zero =>
      intro i f hi hf
      obtain ⟨f', rfl⟩ : ∃ f', f = f' + 1 := ⟨f - 1, by omega⟩
      refine ⟨none, ?_, fun k hk => (by cases hk), fun _ k h1 h2 => (by omega)⟩
      unfold f_X6_placeOfWords_L2
      rw [y_gs, if_pos (lc_S16 L), pl, if_pos ((q_le (by omega) (by omega)).mpr (by omega))]; rfl
    | succ r ih =>
      intro i f hi hf
      obtain ⟨f', rfl⟩ : ∃ f', f = f' + 1 := ⟨f - 1, by omega⟩
      have il : i < (Pl s).length := by omega
      obtain ⟨_, _, w1, w2, w3⟩ := pl_wf R il
      have k11 := wf_k R il
      have g0 : f_X6_get h 16 (nI i) (0 : Int32) = some (nI (mKi ((Pl s).getD i x0))) := c_get (j := 0) R.1.1 il (by omega)
      have g3 : f_X6_get h 16 (nI i) (3 : Int32) = some (nI (mLi ((Pl s).getD i x0))) := c_get (j := 3) R.1.1 il (by omega)
      have g4 : f_X6_get h 16 (nI i) (4 : Int32) = some (nI (mFi ((Pl s).getD i x0))) := c_get (j := 4) R.1.1 il (by omega)
      have step : f_X6_placeOfWords_L2 h (f' + 1) 16 (5 : Int32) (nI l) (nI i) = if ¬ nI (mKi ((Pl s).getD i x0)) = (5 : Int32) then f_X6_placeOfWords_L2 h f' 16 (5 : Int32) (nI l) (nI (i + 1)) else if ¬ nI (mLi ((Pl s).getD i x0)) = nI l then f_X6_placeOfWords_L2 h f' 16 (5 : Int32) (nI l) (nI (i + 1)) else if ¬ nI (mFi ((Pl s).getD i x0)) = (1 : Int32) then f_X6_placeOfWords_L2 h f' 16 (5 : Int32) (nI l) (nI (i + 1)) else some (nI i) := by
        rw [f_X6_placeOfWords_L2]; unfold f_X6_placeOfWords_L42
        have add1 : nI i + (1 : Int32) = nI (i + 1) := by rw [show (1 : Int32) = nI 1 from rfl, q_add]
        rw [y_gs, if_pos (lc_S16 L), pl, if_neg (fun q => by have := (q_le (by omega) (by omega)).mp q; omega), g0, y_bds, y_lt, add1, g3, y_bds, g4, y_bds]
      obtain ⟨o, o1, o2, o3⟩ := ih (i + 1) f' (by omega) (by omega)
      by_cases p : pw s l i
      · obtain ⟨p1, p2, p3⟩ := id p
        refine ⟨some i, ?_, fun k hk => (by cases hk; exact ⟨il, p⟩), fun hk => (by cases hk)⟩
        rw [step, p1, p2, p3, if_neg (fun q => q rfl), if_neg (fun q => q rfl), if_neg (fun q => q rfl)]; rfl
      · refine ⟨o, ?_, o2, fun ho k h1 h2 => ?_⟩
        · rw [step, o1]
          by_cases q1 : mKi ((Pl s).getD i x0) = 5
          · by_cases q2 : mLi ((Pl s).getD i x0) = l
            · have q3 : ¬ mFi ((Pl s).getD i x0) = 1 := fun q3 => p ⟨q1, q2, q3⟩
              rw [q1, q2, if_neg (fun q => q rfl), if_neg (fun q => q rfl), if_pos (show ¬ nI (mFi ((Pl s).getD i x0)) = (1 : Int32) from fun q => q3 ((q_eq (by omega) (show 1 < 2 ^ 31 by omega)).mp q))]
            · rw [q1, if_neg (fun q => q rfl), if_pos (fun q => q2 ((q_eq (by omega) (by omega)).mp q))]
          · rw [if_pos (show ¬ nI (mKi ((Pl s).getD i x0)) = (5 : Int32) from fun q => q1 ((q_eq (by omega) (show 5 < 2 ^ 31 by omega)).mp q))]
        · by_cases hk : k = i
          · rw [hk]; exact p
          · exact o3 ho k (by omega) h2
  unfold f_X6_placeOfWords
  rw [y_lt]
  obtain ⟨o, o1, o2, o3⟩ := key (Pl s).length 0 FU (by omega) (FU_gt (by omega))
  exact ⟨o, o1, o2, fun ho k hk => o3 ho k (by omega) hk⟩
theorem hv_s {s : St} {l k : Nat} (e : hWay s l = some k) (F : Nat) : hv s l F = N s F k ∧ vX s l = 1 := by
  unfold hv vX; rw [e]; exact ⟨rfl, rfl⟩
theorem c_lent {h m : AH} {s : St} {e : Ex} {b : Nat} (R : Rel h m s e b) {A k c : Nat} (hA : A < 2048) (ek : hWay s (A / 4) = some k) (ho : N s 6 k = c + 1) (hc : c < 16) : f_X10_lent h 1 (34 + 12 * c) (nI (cw s k)) (nI (4 * A)) = some (w4 (Wda s 0 (A / 4)) (A % 4)) := by
  have L := RC_L R.1.1
  have B := IV_Bz R.2.2.1
  have I := R.2.2.1
  have l512 : A / 4 < 512 := by omega
  obtain ⟨a1, a2, a3, a4⟩ := sh2 hA
  have u := hWay_u B ek
  have wl := cw_lt B u
  obtain ⟨k5, k4⟩ := (hWay_iff B R.2.2.1.2.1.2).mp ek
  obtain ⟨w21, w24, w28, wr⟩ := RC_w R.1.1 u
  obtain ⟨w22, w23, w27, w29, w26⟩ := wr (by omega)
  have lis := I.2.2.2.1 (A / 4) l512
  unfold LIs at lis
  rw [(hv_s ek 6).1, (hv_s ek 0).2, ho] at lis
  obtain ⟨_, _, _, _, _, l6, l7, _, _, _, _, _, _, _, _, l16, _⟩ := lis
  have six := l6 rfl c rfl
  have da := I.2.2.2.2.2.2.2.1
  have j3 : (nI (4 * A) >>> ((2 : Int32) &&& 31)) &&& (3 : Int32) = nI (A % 4) := by
    rw [a1]; exact q_and (k := 2) (by omega) (by omega)
  have l77 : tk s (A / 4) c = 7 ∨ tk s (A / 4) c = 8 ∨ tk s (A / 4) c = 11 → f_X10_lent_L77 h 1 (nI (cw s k)) (nI (4 * A)) (nI (A / 4)) = some (w4 (Wda s 0 (A / 4)) (A % 4)) := by
    intro ht
    obtain ⟨o, o1, o2, o3⟩ := c_pow R l512
    unfold f_X10_lent_L77
    rw [y_gs, if_pos (lc_S1 L), lc_R1_2 L, y_gs, if_pos (lc_S16 L), o1, y_bds]
    cases o with
    | none =>
      have t78 : tk s (A / 4) c = 7 ∨ tk s (A / 4) c = 8 := by
        rcases ht with ht | ht | ht
        · exact Or.inl ht
        · exact Or.inr ht
        · exfalso
          obtain ⟨_, x, x1, x2, x3, x4, x5, _⟩ := tk_ne I.2.2.1 B (l := A / 4) (c := c) (by omega)
          obtain ⟨i, hi, he⟩ := List.getElem_of_mem x1
          have gd : (Pl s).getD i x0 = x := by rw [List.getD_eq_getElem?_getD, List.getElem?_eq_getElem hi, he]; rfl
          refine o3 rfl i hi ?_
          unfold pw; rw [gd]
          rw [ht] at x5
          unfold tcode at x5
          split at x5
          · next z => exact ⟨z.1, x3, z.2⟩
          · unfold isP at x2; omega
      have d7 := da.2.2.2.2.2.2 (A / 4) k c ek t78
      rw [oI_n, if_pos (by decide), lc_R1_3 L, y_gs, if_pos (lc_S19 L), wof h hA, y_bds, lc_R19_10 L, y_gs, if_pos (lc_S29 L), lc_N29 L, y_gb, if_pos (q_ib (by omega) (by omega)), q_cl (by omega), w29 (A % 4) (by omega), d7]
    | some i =>
      obtain ⟨i1, p1, p2, p3⟩ := o2 i rfl
      obtain ⟨_, z, _⟩ := pl_wf R i1
      have d4 := (da.2.2.2.1 _ z).2.1 p1 p3
      rw [p2] at d4
      have ln := len_lt R
      have m5 : (5 : Int32) + nI (A % 4) = nI (5 + A % 4) := by rw [show (5 : Int32) = nI 5 from rfl, q_add]
      rw [oI_s, if_neg (lt0 (by omega)), j3, m5, c_get R.1.1 i1 (by omega), y_bds, mp_w (by omega), d4]
  have l50 : vS s (A / 4) c ≤ 1 → f_X10_lent_L50 h 1 (34 + 12 * c) (nI (cw s k)) (nI (4 * A)) (nI (A / 4)) = some (w4 (Wda s 0 (A / 4)) (A % 4)) := by
    intro hs
    obtain ⟨_, _, _, _, z37, z9, _, _, _, sw⟩ := R.1.1.2.2.1 c hc
    have n13 : N s 13 c < 2 ^ 30 := IV_Rg I 13 c (by omega) hc
    have vf : vF s c = N s 13 c := by unfold vF; rw [if_pos hc]
    unfold f_X10_lent_L50
    rw [y_gs, if_pos (lk_S34 L hc), z37]
    by_cases q1 : N s 13 c = A / 4 + 1
    · have e1 : pI (N s 13 c) = nI (A / 4) := by rw [q1]; unfold pI; rw [if_neg (by omega)]; rfl
      rw [if_neg (fun q => q e1), z9 (by omega)]
      by_cases q2 : N s 14 c = 0
      · have nu : vU s c ≠ 2 := fun hu => (l16 c (by rw [vf]; exact q1) q2 hu).1 rfl
        have d6 := da.2.2.2.2.2.1 c (A / 4) hc q1 q2 nu
        rw [q2, if_neg (fun q => q rfl), lk_R34_10 L hc, y_gs, if_pos (lk_S45 L hc), lk_N45 L hc, j3, y_gb, if_pos (q_ib (by omega) (by omega)), q_cl (by omega), sw (A % 4) (by omega), d6]
      · have n14 : N s 14 c < 2 ^ 30 := IV_Rg I 14 c (by omega) hc
        rw [if_pos (show ¬ nI (N s 14 c) = 0 from fun q => q2 ((q_eq (b := 0) (by omega) (by omega)).mp q))]
        refine l77 ?_
        rcases six with w | w | w | w | w
        · omega
        · exact absurd w.2.1 q2
        · exact Or.inl w
        · exact Or.inr (Or.inl w)
        · exact Or.inr (Or.inr w)
    · have e1 : ¬ pI (N s 13 c) = nI (A / 4) := by
        unfold pI
        by_cases z : N s 13 c = 0
        · rw [if_pos z]; exact fun q => lt0 (show A / 4 < 2 ^ 31 by omega) (q ▸ (by decide : nN < 0))
        · rw [if_neg z]; exact fun q => by have := (q_eq (by omega) (by omega)).mp q; omega
      rw [if_pos e1]
      refine l77 ?_
      rcases six with w | w | w | w | w
      · omega
      · exact absurd (vf ▸ w.1) q1
      · exact Or.inl w
      · exact Or.inr (Or.inl w)
      · exact Or.inr (Or.inr w)
  unfold f_X10_lent
  rw [a3, y_lt, y_gs, if_pos (lk_S34 L hc), lk_R34_6 L hc, y_gs, if_pos (lk_S38 L hc), c_find R.1.1 B (IV_Rg I) hc l512, y_bds]
  cases ew : sWay s c (A / 4) with
  | none =>
    rw [show Option.map (lo c) none = none from rfl, oI_n, if_pos (by decide)]
    refine l50 ?_
    unfold vS; rw [if_pos hc, ew]; exact Nat.zero_le _
  | some q =>
    obtain ⟨q1, q2, q3, q4⟩ := (sWay_iff B R.2.2.1.2.1.1 hc).mp ew
    have kk : 32 * c + lo c q = q := by unfold lo; omega
    have l32 : lo c q < 32 := by unfold lo; omega
    obtain ⟨c1, _, _, c4⟩ := R.1.1.2.2.2.1 c (lo c q) hc l32
    rw [kk] at c1
    have cw' := c4 (A % 4) (by omega)
    rw [kk, da.2.2.2.2.1 q q1 q3, q4] at cw'
    have n3 := (IV_Cr I).1 q q1
    rw [show Option.map (lo c) (some q) = some (lo c q) from rfl, oI_s, if_neg (lt0 (show lo c q < 2 ^ 31 by omega)), lk_R38_1 L hc, y_gs, if_pos (lk_S40 L hc), lk_N40 L hc, y_gb, if_pos (q_ib l32 (by omega)), q_cl (show lo c q < 2 ^ 31 by omega), c1]
    by_cases g : N s 2 q < 2
    · rw [if_pos (show nI (N s 2 q) < (2 : Int32) from (q_lt (by omega) (show 2 < 2 ^ 31 by omega)).mpr g)]
      refine l50 ?_
      unfold vS; rw [if_pos hc, ew]; show N s 2 q ≤ 1; omega
    · rw [if_neg (show ¬ nI (N s 2 q) < (2 : Int32) from fun w => g ((q_lt (by omega) (show 2 < 2 ^ 31 by omega)).mp w)), wof h hA, y_bds, lk_R38_3 L hc, y_gs, if_pos (lk_S42 L hc), lk_N42 L hc, y_gb, if_pos (q_ib (by omega) (by omega)), q_cl (by omega), cw']
theorem call_word {h m : AH} {s : St} {e : Ex} {b : Nat} (x : Int32) (R : Rel h m s e b) (he : e 8 0 = e 8 1) : Ch 0 h m e b (f_X10_word h 1 x) (f_X11_word m 226 x) := by
  have L := RC_L R.1.1
  have L2 := rm_L R.2.1
  have B := IV_Bz R.2.2.1
  have n16 := FR_b R
  unfold f_X10_word f_X11_word f_X11_word_L13
  rcases isw h m x with ⟨A, hA, rfl, i1, i2⟩ | ⟨i1, i2⟩
  · obtain ⟨a1, a2, a3, a4⟩ := sh2 hA
    have Lt : LM (sI m 226 0 (0 : Int32)) := L2
    refine Ch_ok R he (v := w4 (Wda s 0 (A / 4)) (A % 4)) ?_ ?_
    · rw [i1, y_bds, if_pos (by decide), y_gs, if_pos (lc_S1 L), lc_R1_3 L, y_gs, if_pos (lc_S19 L), a3, c_hfind R.1.1 B (IV_Hr R.2.2.1) (by omega), y_bds]
      cases ew : hWay s (A / 4) with
      | none =>
        have c : hI h 20 A = w4 (Wda s 1 (A / 4)) (A % 4) := by
          have := R.1.1.2.2.2.2.2.1 (A / 4) (A % 4) (by omega) (by omega)
          rw [show 4 * (A / 4) + A % 4 = A by omega] at this; exact this
        rw [show Option.map (cw s) none = none from rfl, oI_n, if_neg (by decide), lc_R19_1 L, y_gs, if_pos (lc_S20 L), lc_N20 L, a1, y_gb, if_pos (q_ib hA (by omega)), q_cl (by omega), c, R.2.2.1.2.2.2.2.2.2.2.1.2.1 (A / 4) (by omega) ew]
      | some k =>
        obtain ⟨k5, k4⟩ := (hWay_iff B R.2.2.1.2.1.2).mp ew
        have u := hWay_u B ew
        have wl := cw_lt B u
        obtain ⟨w21, w24, w28, wr⟩ := RC_w R.1.1 u
        obtain ⟨w22, w23, w27, w29, w26⟩ := wr (by omega)
        have n6 := ((IV_CH R.2.2.1).2.1 k u (by omega)).1
        rw [show Option.map (cw s) (some k) = some (cw s k) from rfl, oI_s, if_pos (le0n (by omega)), lc_R19_3 L, y_gs, if_pos (lc_S22 L), lc_N22 L, y_gb, if_pos (q_ib wl (by omega)), q_cl (show cw s k < 2 ^ 31 by omega), w22, y_lt]
        by_cases z : N s 6 k = 0
        · rw [z, show pI 0 = nN from rfl, c_isCoreN R.1.1 B, if_neg (fun q => absurd q.1 (by decide)), y_bds, if_pos (show nI 0 = 0 from rfl), wof h hA, y_bds, lc_R19_10 L, y_gs, if_pos (lc_S29 L), lc_N29 L, y_gb, if_pos (q_ib (by omega) (by omega)), q_cl (by omega), w29 (A % 4) (by omega), R.2.2.1.2.2.2.2.2.2.2.1.1 (A / 4) k ew z]
        · obtain ⟨c, hc⟩ : ∃ c, N s 6 k = c + 1 := ⟨N s 6 k - 1, by omega⟩
          have pc' : pI (N s 6 k) = nI c := by rw [hc]; unfold pI; rw [if_neg (by omega)]; rfl
          have c16 : c < 16 := by omega
          obtain ⟨k1, k2, k3⟩ := c_cores L c16
          rw [pc', c_isCore R.1.1 (show c < 2 ^ 30 by omega) B, if_pos (by omega), y_bds, if_neg (by decide), y_gs, if_pos k1, y_gb, if_pos k2, k3, c_lent R hA ew hc c16, y_bds]
    · rw [i2, y_bds, if_neg (by decide), y_gs, if_pos (lm_S226 L2), y_lt, y_gs, if_pos (lm_S226 Lt), x_eq, if_pos rfl, lm_R23 Lt, y_gs, if_pos (lm_S241 Lt), lm_N241 Lt, a2, y_gb, if_pos (q_ib hA (by omega)), q_cl (by omega), x_ne (by omega), flat_w R.2.1 hA]
  · have Lt : LM (sI m 226 0 (1 : Int32)) := L2
    refine Ch_no R he (v := 0) ?_ ?_
    · rw [i1, y_bds, if_neg (fun q => q rfl)]
    · rw [i2, y_bds, if_pos rfl, y_gs, if_pos (lm_S226 L2), y_lt, y_gs, if_pos (lm_S226 Lt), x_eq, if_neg (by decide)]
