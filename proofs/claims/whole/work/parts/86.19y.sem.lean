/-! CoreHouse delivers. -/
theorem DZ_D {h h' : AH} {s t : St} (D : DZ h s) (F : ∀ k, hI h' 26 k = hI h 26 k) (e0 : ∀ i, N t 0 i = N s 0 i) (e4 : ∀ k, N t 4 k = N s 4 k) (e8 : ∀ k, N t 8 k = N s 8 k) : DZ h' t := by
  intro k u g4 g8
  rw [e4] at g4; rw [e8] at g8
  rw [cw_N (e0 5), F]
  exact D k (uw_N (fun i => (e0 i).symm) u) g4 g8
theorem c_isCore {h : AH} {s : St} (R : RC h s) {c : Nat} (hc : c < 2 ^ 30) (B : Bz s) : f_X10_isCore h 1 (nI c) = some (if c < N s 0 0 then nI 1 else nI 0) := by
  have L := RC_L R
  have p := R.2.1.1 0 (by omega)
  have b0 := B.1.2
  unfold f_X10_isCore
  rw [if_neg (lt0 (show c < 2 ^ 31 by omega)), y_gs, if_pos (lc_S1 L), lc_R1_5 L, y_gs, if_pos (lc_S32 L), lc_N32 L, y_gb, if_pos (show ib (0 : Int32) 6 = true from rfl), show (0 : Int32).toNatClampNeg = 0 from rfl, p]
  by_cases e : c < N s 0 0
  · rw [if_pos e, if_neg (fun g => by have := (q_le (by omega) (by omega)).mp g; omega)]; rfl
  · rw [if_neg e, if_pos ((q_le (by omega) (by omega)).mpr (by omega))]; rfl
theorem c_isCoreN {h : AH} {s : St} (R : RC h s) (B : Bz s) (x : Int32) : f_X10_isCore h 1 x = some (if 0 ≤ x ∧ x < nI (N s 0 0) then nI 1 else nI 0) := by
  have L := RC_L R
  have p := R.2.1.1 0 (by omega)
  unfold f_X10_isCore
  by_cases e : x < 0
  · rw [if_pos e, if_neg (fun g => by have := Int32.not_lt.mpr g.1; exact this e)]; rfl
  · rw [if_neg e, y_gs, if_pos (lc_S1 L), lc_R1_5 L, y_gs, if_pos (lc_S32 L), lc_N32 L, y_gb, if_pos (show ib (0 : Int32) 6 = true from rfl), show (0 : Int32).toNatClampNeg = 0 from rfl, p]
    have e' : 0 ≤ x := Int32.not_lt.mp e
    by_cases g : nI (N s 0 0) ≤ x
    · rw [if_pos g, if_neg (fun w => (Int32.not_lt.mpr g) w.2)]; rfl
    · rw [if_neg g, if_pos ⟨e', Int32.not_le.mp g⟩]; rfl
theorem sCore_f {s : St} {c : Nat} {x : Msg} {F : Nat} (h : F = 0 ∨ F = 4 ∨ F = 8) (j : Nat) : N (sCore s c x) F j = N s F j := by
  unfold sCore
  have st : ∀ t c l v, N (sState t c l v) F j = N t F j := by
    intro t c l v; unfold sState; split
    · rfl
    · rw [N_ne (by omega)]
  split
  · rw [st, sAnswer_N _ _ _ _ _ (by omega)]
  · split
    · rw [st, sAnswer_N _ _ _ _ _ (by omega)]
    · split
      · rw [N_ne (by omega), N_ne (by omega)]
      · unfold sFillC
        split
        · rfl
        · unfold sSend sUse
          rw [N_post, N_ne (by omega), N_ne (by omega), N_ne (by omega), N_ne (by omega), N_ne (by omega), N_uW, N_ne (by omega), N_ne (by omega)]
theorem c_carry {h : AH} {s : St} {b : Nat} (R : RC h s) (D : DZ h s) (I : IV s b) {i : Nat} (hi : i < (Pl s).length) :
    ∃ h', f_X10_carry h 1 (nI i) = some (nI 1, h') ∧ RC h' (sBring s i) ∧ DZ h' (sBring s i) ∧ FrC h h' := by
  have L := RC_L R
  have xm : (Pl s).getD i x0 ∈ Z s := List.mem_append_left _ (getD_mem hi)
  have xw := I.2.2.1.2.1 _ xm
  have b0 := I.1.1.1.2
  have len := IV_len I
  obtain ⟨oB, oH, oC⟩ := out_b I i
  have lo := len_out s i
  obtain ⟨w1, w2, w3⟩ := xw
  obtain ⟨a, ea, Ra, Da, Fa, Ta⟩ := c_takeOut R D hi (by omega)
  have La := RC_L Ra
  have t2 : hI a 18 2 = nI (mTo ((Pl s).getD i x0)) := Ta 2 (by omega)
  unfold f_X10_carry
  rw [y_gs, if_pos (lc_S1 L), lc_R1_2 L, y_gs, if_pos (lc_S16 L), ea, y_bds]
  rw [if_pos (show ¬ (nI 1, a).1 = 0 from (by decide : ¬ nI 1 = 0))]
  show ∃ h', (gs a 1 9 _) = _ ∧ _
  rw [y_gs, if_pos (lc_S1 La), lc_R1_2 La, y_gs, if_pos (lc_S16 La), lc_R16_3 La, y_gs, if_pos (lc_S18 La), lc_N18 La, y_gb, if_pos (show ib (2 : Int32) 9 = true from rfl), y_lt, show (2 : Int32).toNatClampNeg = 2 from rfl, t2]
  unfold sBring sGet
  by_cases ht : mTo ((Pl s).getD i x0) = 16
  · rw [if_pos ht, if_neg (by rw [ht]; decide), lc_R1_3 La, y_gs, if_pos (lc_S19 La)]
    obtain ⟨h', e', R', D', F'⟩ := c_home (fun s => IV s b) (fun _ J => IV_OkC J) (fun set => IV_HT b set) Ra Da oB oH Ta (by omega) w1 w2 (IV_home5 I hi ht).1 (by omega)
    rw [e', y_bds]
    exact ⟨h', rfl, R', D', FrC_tr Fa F'⟩
  · have tl : mTo ((Pl s).getD i x0) < N s 0 0 := by omega
    have n0 : N (sOut s i) 0 0 = N s 0 0 := N_out _ _ _ _ (by omega)
    rw [if_neg ht, if_pos (fun g => by have := (q_eq (by omega) (show 16 < 2 ^ 31 by omega)).mp g; omega), c_isCore Ra (by omega) oB, if_pos (by omega), y_bds, if_neg (by decide)]
    rw [lc_R1_4 La, y_gs, if_pos (lc_S31 La), lc_N31 La, y_gb, if_pos (q_ib (show mTo ((Pl s).getD i x0) < 16 by omega) (by omega)), q_cl (by omega), lk_R31 La (by omega), y_gs, if_pos (lk_S34 La (by omega))]
    have hw1 : mKi ((Pl s).getD i x0) = 3 ∨ mKi ((Pl s).getD i x0) = 4 → ∀ k, sWay (sOut s i) (mTo ((Pl s).getD i x0)) (mLi ((Pl s).getD i x0)) = some k → 1 < N (sOut s i) 2 k → Wda (sOut s i) 4 k = Wda (sOut s i) 0 (mLi ((Pl s).getD i x0)) := by
      intro hk k hw h2
      rw [sWay_out] at hw
      obtain ⟨k1, k2, k3, k4⟩ := (sWay_iff (IV_Bz I) I.2.1.1 (by omega)).mp hw
      have := I.2.2.2.2.2.2.2.1.2.2.2.2.1 k k1 k3
      rw [k4] at this; exact this
    have hw2 : mKi ((Pl s).getD i x0) = 3 ∨ mKi ((Pl s).getD i x0) = 4 → N (sOut s i) 13 (mTo ((Pl s).getD i x0)) = mLi ((Pl s).getD i x0) + 1 → N (sOut s i) 14 (mTo ((Pl s).getD i x0)) = 0 → Wda (sOut s i) 3 (mTo ((Pl s).getD i x0)) = Wda (sOut s i) 0 (mLi ((Pl s).getD i x0)) := by
      intro hk h13 h14
      rw [N_out _ _ _ _ (by omega)] at h13 h14
      have tp : isP ((Pl s).getD i x0) := by unfold isP; omega
      refine I.2.2.2.2.2.2.2.1.2.2.2.2.2.1 (mTo ((Pl s).getD i x0)) (mLi ((Pl s).getD i x0)) (by omega) h13 h14 (fun u2 => ?_)
      have tkx := tk_of I.2.2.1 (IV_Bz I) xm tp
      have pce : pc ((Pl s).getD i x0) = mTo ((Pl s).getD i x0) := by unfold pc; rw [if_neg (by omega)]
      have vf : vF s (mTo ((Pl s).getD i x0)) = mLi ((Pl s).getD i x0) + 1 := by unfold vF; rw [if_pos (by omega)]; exact h13
      have LIl := I.2.2.2.1 _ w1
      have p14 := LIl.2.2.2.2.2.2.2.2.2.2.2.2.2.2.2.1 _ vf h14 u2
      have p16 := LIl.2.2.2.2.2.2.2.2.2.2.2.2.2.2.2.2.2.1 (mTo ((Pl s).getD i x0))
      rw [pce] at tkx
      have tc : tcode ((Pl s).getD i x0) = mKi ((Pl s).getD i x0) := by unfold tcode; rw [if_neg (by omega)]
      rcases hk with k3 | k4
      · rcases p16 (by omega) with g | g
        · rw [p14.2] at g; cases g
        · exact p14.1 g
      · exact p14.1 (ph_4 LIl (c := mTo ((Pl s).getD i x0)) (by omega)).2.2.2.2.1
    obtain ⟨h', e', R', F'⟩ := c_receive Ra oB (Rg_of oB oH oC) (fun k hk => by rw [N_out _ _ _ _ (by omega)]; exact IV_21 I k hk) (c := mTo ((Pl s).getD i x0)) Ta (by omega) w1 (by omega) (fun hk hw => give_room I hi hk hw) (by omega) hw1 hw2
    rw [e', y_bds]
    exact ⟨h', rfl, R', DZ_D Da F'.2 (fun j => sCore_f (by omega) j) (fun j => sCore_f (by omega) j) (fun j => sCore_f (by omega) j), FrC_tr Fa F'.1⟩
theorem c_carryN {h : AH} {s : St} (R : RC h s) {b : Nat} (I : IV s b) {x : Int32} (hx : x < 0 ∨ nI (Pl s).length ≤ x) : f_X10_carry h 1 x = some (nI 0, h) := by
  have L := RC_L R
  have p := R.2.2.2.2.2.2.1.1
  have t : f_X6_takeOut h 16 x = some (nI 0, h) := by
    unfold f_X6_takeOut
    by_cases e : x < 0
    · rw [if_pos e]; rfl
    · rw [if_neg e, y_gs, if_pos (lc_S16 L), p, if_neg (Int32.not_lt.mpr (by rcases hx with g | g; exact absurd g e; exact g))]; rfl
  unfold f_X10_carry
  rw [y_gs, if_pos (lc_S1 L), lc_R1_2 L, y_gs, if_pos (lc_S16 L), t, y_bds, if_neg (show ¬ ¬ (nI 0, h).1 = 0 from fun g => g rfl)]; rfl
/-- every int is one below 0 or a natural -/
theorem i_cases (x : Int32) : x < 0 ∨ ∃ n, n < 2 ^ 31 ∧ x = nI n := by
  by_cases e : x < 0
  · exact Or.inl e
  · refine Or.inr ⟨x.toInt.toNat, ?_, ?_⟩
    · have := Int32.toInt_lt x
      omega
    · have h0 : 0 ≤ x.toInt := by
        rw [Int32.lt_iff_toInt_lt] at e
        have : (0 : Int32).toInt = 0 := rfl
        omega
      apply Int32.toInt_inj.mp
      have := Int32.toInt_lt x
      rw [q_toInt (by omega)]
      omega
