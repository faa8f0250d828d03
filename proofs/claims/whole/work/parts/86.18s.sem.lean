/-- what an ACK does, and whether what waits goes on -/
def sAckP (s : St) (k l : Nat) : Bool × St :=
  if 0 < N s 10 k then (false, s)
  else if N s 8 k = 17 then (true, sEnd s k)
  else if N s 9 k = 1 then (false, sLend s k)
  else (false, sGive (uN (uN s 7 k (2 ^ (N s 6 k - 1) ||| 2 ^ (N s 8 k - 1))) 6 k 0) 6 (N s 8 k - 1) l)
theorem sAckE_P (s : St) (k l : Nat) : sAckE s k l = if (sAckP s k l).1 = true then sGoOn (sAckP s k l).2 (l % N s 0 4) else (sAckP s k l).2 := by
  unfold sAckE sAckP
  split
  · rfl
  · split
    · rfl
    · split
      · rfl
      · rfl
theorem DZ_k {h h' : AH} {s t : St} {k : Nat} (D : DZ h s) (u : uw s k) (n0 : ∀ i, N t 0 i = N s 0 i) (n : ∀ j, j ≠ k → N t 4 j = N s 4 j ∧ N t 8 j = N s 8 j) (hk : N t 4 k = 0 ∨ N t 8 k ≠ 0) (F : DW h h' (cw s k)) : DZ h' t := by
  intro j uj g4 g8
  have hjk : j ≠ k := by
    rintro rfl
    rcases hk with hk | hk
    · exact g4 hk
    · exact hk g8
  have uj' : uw s j := uw_N (fun i => (n0 i).symm) uj
  rw [(n j hjk).1] at g4; rw [(n j hjk).2] at g8
  rw [cw_N (n0 5), F _ (fun e => hjk (cw_inj uj' u e))]
  exact D j uj' g4 g8
theorem c_ackE {h : AH} {s : St} (R : RC h s) (D : DZ h s) (B : Bz s) (H : Hr s) {k l : Nat} (u : uw s k) (hk : k < 512) (h4 : N s 4 k = l + 1) (hl : l < 512) (hd : 1 ≤ N s 10 k) (h8 : 1 ≤ N s 8 k)
    (h9 : N s 10 k = 1 → N s 8 k ≠ 17 → N s 9 k ≠ 1 → 1 ≤ N s 6 k ∧ N s 7 k = 0) (hw : N s 10 k = 1 → N s 8 k ≠ 17 → Wda s 2 k = Wda s 0 l) (hp : (Pl s).length + 17 < 8400) :
    ∃ h', f_X4_acknowledge_L50 h 19 (nI (cw s k)) = some (bI (sAckP (sAckD s k) k l).1, h') ∧ RC h' (sAckP (sAckD s k) k l).2 ∧ DZ h' (sAckP (sAckD s k) k l).2 ∧ FrC h h' := by
  obtain ⟨k4, k5, k6, k7, k8, k9, k10, k11⟩ := H k hk
  have L := RC_L R
  have wl := cw_lt B u
  have ibw : ib (nI (cw s k)) 512 = true := q_ib wl (by omega)
  obtain ⟨r1, r2, r3, r4⟩ := RC_w R u
  obtain ⟨b1, b2, b3, b4, b5⟩ := r4 (by omega)
  obtain ⟨b6, b7⟩ := b5 (by omega)
  obtain ⟨R1, F1⟩ := c_due1 R B (v := N s 10 k - 1) u
  have n10 : N (sAckD s k) 10 k = N s 10 k - 1 := by unfold sAckD; rw [N_eq]
  have nn : ∀ F, F ≠ 10 → ∀ i, N (sAckD s k) F i = N s F i := by intro F hF i; unfold sAckD; rw [N_ne (by omega)]
  have wn : ∀ F i, Wda (sAckD s k) F i = Wda s F i := fun _ _ => rfl
  have P1 : Pl (sAckD s k) = Pl s := rfl
  have R1' : RC (sI h 26 (cw s k) (nI (N s 10 k - 1))) (sAckD s k) := R1
  have L1 := RC_L R1'
  have B1 : Bz (sAckD s k) := B
  have u1 : uw (sAckD s k) k := u
  have c1 : cw (sAckD s k) k = cw s k := rfl
  have e26 : hI (sI h 26 (cw s k) (nI (N s 10 k - 1))) 26 (cw s k) = nI (N s 10 k - 1) := x_eq _ _ _ _
  have e24 : hI (sI h 26 (cw s k) (nI (N s 10 k - 1))) 24 (cw s k) = pI (N s 8 k) := by rw [x_ne (by omega)]; exact r2
  have e22 : hI (sI h 26 (cw s k) (nI (N s 10 k - 1))) 22 (cw s k) = pI (N s 6 k) := by rw [x_ne (by omega)]; exact b1
  have e23 : hI (sI h 26 (cw s k) (nI (N s 10 k - 1))) 23 (cw s k) = nI (N s 7 k) := by rw [x_ne (by omega)]; exact b2
  have e25 : N s 8 k ≠ 17 → hI (sI h 26 (cw s k) (nI (N s 10 k - 1))) 25 (cw s k) = nI (N s 9 k) := fun g => by rw [x_ne (by omega)]; exact b7 g
  unfold f_X4_acknowledge_L50
  rw [y_gs, if_pos (lc_S19 L), lc_R19_7 L, y_gs, if_pos (lc_S26 L), lc_N26 L, y_gb, if_pos ibw, y_gb, if_pos ibw, y_lt, q_cl (show cw s k < 2 ^ 31 by omega), b6, show (1 : Int32) = nI 1 from rfl, q_sub hd]
  generalize hm1 : sI h 26 (cw s k) (nI (N s 10 k - 1)) = m1 at *
  have dk : ∀ j, j ≠ k → N (sAckD s k) 4 j = N s 4 j ∧ N (sAckD s k) 8 j = N s 8 j := fun j _ => ⟨nn 4 (by omega) j, nn 8 (by omega) j⟩
  generalize hs1 : sAckD s k = s1 at *
  rw [lc_R19_7 L1, y_gs, if_pos (lc_S26 L1), lc_N26 L1, y_gb, if_pos ibw, e26]
  unfold sAckP
  rw [n10, nn 8 (by omega), nn 9 (by omega), nn 6 (by omega)]
  by_cases c : N s 10 k = 1
  · have c0 : N s 10 k - 1 ≤ 0 := by omega
    have c2 : ¬ 0 < N s 10 k - 1 := by omega
    rw [if_pos (show nI (N s 10 k - 1) ≤ 0 from (q_le (b := 0) (by omega) (by omega)).mpr c0), if_neg c2]
    rw [lc_R19_5 L1, y_gs, if_pos (lc_S24 L1), lc_N24 L1, y_gb, if_pos ibw, e24]
    by_cases c8 : N s 8 k = 17
    · rw [if_neg (show ¬ ¬ pI (N s 8 k) = (16 : Int32) from fun h => h ((pI_c16 k8).mpr c8)), if_pos c8]
      obtain ⟨a, ea, Ra, Fa⟩ := c_writeBack R1' B1 u1 ((nn 4 (by omega) k).trans h4) hl (by rw [nn 5 (by omega)]; exact k5)
      rw [c1] at ea Fa
      have La := RC_L Ra
      have Ba : Bz (sWm s1 k) := by unfold Bz; simp only [sWm_N]; exact B1
      have ua : uw (sWm s1 k) k := uw_N (fun i => sWm_N s1 k 0 i) u1
      have ca : cw (sWm s1 k) k = cw s k := (cw_N (sWm_N s1 k 0 5) k).trans c1
      obtain ⟨R2, F2⟩ := c_wayF Ra Ba (o := 21) (F := 4) (v := 0) (x := nN) ua (Or.inr (Or.inr (Or.inr (Or.inr (Or.inr (Or.inr (Or.inr ⟨rfl, rfl, rfl, rfl⟩)))))))
      have u2 : uw (uN (sWm s1 k) 4 k 0) k := ua
      obtain ⟨R3, F3⟩ := c_wayF R2 Ba (o := 24) (F := 8) (v := 0) (x := nN) u2 (Or.inr (Or.inr (Or.inr (Or.inr (Or.inr (Or.inr (Or.inl ⟨rfl, rfl, rfl, Or.inl rfl⟩)))))))
      have z4 : N (uN (uN (sWm s1 k) 4 k 0) 8 k 0) 4 k = 0 := by rw [N_ne (by omega), N_eq]
      have R4 := RC_free R3 Ba (k := k) (F := 5) (v := 0) ua z4 (Or.inl rfl)
      have R5 := RC_free R4 Ba (k := k) (F := 6) (v := 0) ua (by rw [N_ne (by omega)]; exact z4) (Or.inr (Or.inl rfl))
      have R6 := RC_free R5 Ba (k := k) (F := 7) (v := 0) ua (by rw [N_ne (by omega), N_ne (by omega)]; exact z4) (Or.inr (Or.inr (Or.inl rfl)))
      have eq : sEnd s1 k = uN (uN (uN (uN (uN (sWm s1 k) 4 k 0) 8 k 0) 5 k 0) 6 k 0) 7 k 0 := by
        unfold sEnd
        rw [sWb_m, uN_comm (sWm s1 k) (F := 5) (G := 4) (by omega), uN_comm (uN (sWm s1 k) 4 k 0) (F := 5) (G := 8) (by omega)]
      rw [eq]
      rw [ca] at R2 F2
      have c3 : cw (uN (sWm s1 k) 4 k 0) k = cw s k := ca
      rw [c3] at R6 F3
      rw [ca] at F3 R6
      rw [ea, y_bds]
      simp (disch := omega) only [↓y_gs, ↓y_gb, ↓y_lt, ↓y_bds, q_lit, q_cl, q_ib, q_add, q_mul, ↓reduceIte, decide_true, Nat.reduceAdd, Nat.reduceMul, x_hI_sI, x_hR_sI, x_hS_sI, x_hN_sI, lc_S19 La, lc_R19_2 La, lc_S21 La, lc_N21 La, lc_R19_5 La, lc_S24 La, lc_N24 La, q_nN]
      have Fx : FrE h (sI (sI a 21 (cw s k) nN) 24 (cw s k) nN) (cw s k) := FrE_tr (FrE_W F1) (FrE_tr (FrE_W Fa) (FrE_tr (FrE_W F2) (FrE_W F3)))
      refine ⟨_, rfl, R6, DZ_k D u ?_ ?_ (Or.inl ?_) Fx.2, Fx.1⟩
      · intro i; rw [N_ne (by omega), N_ne (by omega), N_ne (by omega), N_ne (by omega), N_ne (by omega), sWm_N]; exact nn 0 (by omega) i
      · intro j hj
        rw [N_ne (by omega), N_ne (by omega), N_ne (by omega), N_ne (by omega), N_ne (by omega), sWm_N, N_ne (by omega), N_ne (by omega), N_ne (by omega), N_ne (by omega), N_ne (by omega), sWm_N]; exact dk j hj
      · rw [N_ne (by omega), N_ne (by omega), N_ne (by omega)]; exact z4
    · rw [if_pos (show ¬ pI (N s 8 k) = (16 : Int32) from fun h => c8 ((pI_c16 k8).mp h)), if_neg c8]
      obtain ⟨a, ha⟩ : ∃ a, N s 8 k = a + 1 := ⟨N s 8 k - 1, by omega⟩
      rw [lc_R19_6 L1, y_gs, if_pos (lc_S25 L1), lc_N25 L1, y_gb, if_pos ibw, e25 c8]
      by_cases c9 : N s 9 k = 1
      · rw [if_pos (show ¬ nI (N s 9 k) = 0 from by rw [c9]; decide), if_pos c9, y_gb, if_pos ibw, ha, pI_s]
        obtain ⟨b, eb, Rb, Fb⟩ := c_giveAlone R1' B1 u1 ((nn 4 (by omega) k).trans h4) hl ((nn 8 (by omega) k).trans ha) (by rw [wn, wn]; exact hw c c8) (by rw [P1]; omega)
        rw [c1] at eb Fb
        rw [eb]
        have Fx : FrE h b (cw s k) := FrE_tr (FrE_W F1) Fb
        refine ⟨b, rfl, Rb, DZ_k D u ?_ ?_ (Or.inr ?_) Fx.2, Fx.1⟩
        · intro i; unfold sLend; rw [N_give, N_ne (by omega), N_ne (by omega)]; exact nn 0 (by omega) i
        · intro j hj; unfold sLend; rw [N_give, N_ne (by omega), N_ne (by omega), N_give, N_ne (by omega), N_ne (by omega)]; exact dk j hj
        · unfold sLend; rw [N_give, N_ne (by omega), N_ne (by omega), nn 8 (by omega)]; omega
      · rw [if_neg (show ¬ ¬ nI (N s 9 k) = 0 from fun h => h (by rw [show N s 9 k = 0 by omega]; rfl)), if_neg c9]
        obtain ⟨o, ho⟩ : ∃ o, N s 6 k = o + 1 := ⟨N s 6 k - 1, by have := h9 c c8 c9; omega⟩
        have z7 := (h9 c c8 c9).2
        have p1 : 2 ^ o < 2 ^ 16 := Nat.pow_lt_pow_right (by omega) (by omega)
        have p2 : 2 ^ a < 2 ^ 16 := Nat.pow_lt_pow_right (by omega) (by omega)
        obtain ⟨R2, F2⟩ := c_wayF R1' B1 (o := 23) (F := 7) (v := 2 ^ o) (x := nI (2 ^ o)) u1 (Or.inr (Or.inl ⟨rfl, rfl, rfl⟩))
        obtain ⟨R3, F3⟩ := c_wayF R2 B1 (k := k) (o := 22) (F := 6) (v := 0) (x := nN) u1 (Or.inl ⟨rfl, rfl, rfl⟩)
        have t7 : N (uN (uN s1 7 k (2 ^ o)) 6 k 0) 7 k = 2 ^ o := by rw [N_ne (by omega), N_eq]
        obtain ⟨b, eb, Rb, Fb⟩ := c_giveShared R3 B1 (k := k) (c := a) (l := l) u1 (by rw [N_ne (by omega), N_ne (by omega), nn 4 (by omega)]; exact h4) hl (by rw [t7]; omega) (by omega) ((wn 2 k).trans ((hw c c8).trans (wn 0 l).symm)) (by show (Pl s1).length < 8400; rw [P1]; omega)
        have e24' : hI (sI (sI m1 23 (cw s k) (nI (2 ^ o))) 22 (cw s k) nN) 24 (cw s k) = nI a := by rw [x_ne (by omega), x_ne (by omega), e24, ha, pI_s]
        have or0 : nI (N s 7 k) ||| nI 1 <<< (nI o &&& nI 31) = nI (2 ^ o) := by
          rw [q_shl1 (by omega), z7, q_or (by omega) (by omega), Nat.zero_or]
        simp (disch := omega) only [↓y_gs, ↓y_gb, ↓y_lt, x_hI_sI, x_hR_sI, x_hS_sI, x_hN_sI, lc_R19_4 L1, lc_S23 L1, lc_N23 L1, lc_R19_3 L1, lc_S22 L1, lc_N22 L1, ibw, ↓reduceIte, e22, e23, ho, pI_s, lc_R19_5 L1, lc_S24 L1, lc_N24 L1, q_lit, q_nN, Nat.reduceEqDiff, false_and, e24, ha]
        have cA : cw (uN s1 7 k (2 ^ o)) k = cw s k := c1
        have cB : cw (uN (uN s1 7 k (2 ^ o)) 6 k 0) k = cw s k := c1
        rw [cA, cB, c1] at eb
        rw [cB] at Fb
        rw [cA] at F3
        rw [c1] at F2 F3
        rw [or0, eb]
        have Fx : FrE h b (cw s k) := FrE_tr (FrE_W F1) (FrE_tr (FrE_W F2) (FrE_tr (FrE_W F3) (by rw [cA, c1] at Fb; exact Fb)))
        rw [t7] at Rb
        have eqS : uN (uN (uN s1 7 k (2 ^ o)) 6 k 0) 7 k (2 ^ o ||| 2 ^ a) = uN (uN s1 7 k (2 ^ o ||| 2 ^ a)) 6 k 0 := by
          rw [uN_comm (uN s1 7 k (2 ^ o)) (F := 6) (G := 7) (by omega), uN_uN]
        rw [eqS] at Rb
        refine ⟨b, rfl, Rb, DZ_k D u ?_ ?_ (Or.inr ?_) Fx.2, Fx.1⟩
        · intro i; show N (sGive _ _ _ _) _ _ = _; rw [N_give, N_ne (by omega), N_ne (by omega)]; exact nn 0 (by omega) i
        · intro j hj; show N (sGive _ _ _ _) _ _ = _ ∧ N (sGive _ _ _ _) _ _ = _; rw [N_give, N_ne (by omega), N_ne (by omega), N_give, N_ne (by omega), N_ne (by omega)]; exact dk j hj
        · show N (sGive _ _ _ _) _ _ ≠ _; rw [N_give, N_ne (by omega), N_ne (by omega), nn 8 (by omega)]; omega
  · have c0 : ¬ N s 10 k - 1 ≤ 0 := by omega
    have c2 : 0 < N s 10 k - 1 := by omega
    rw [if_neg (show ¬ nI (N s 10 k - 1) ≤ 0 from fun h => c0 ((q_le (b := 0) (by omega) (by omega)).mp h)), if_pos c2]
    refine ⟨m1, rfl, R1', DZ_k D u (fun i => nn 0 (by omega) i) dk (Or.inr ?_) (DW_W F1), FrC_W F1⟩
    show N s1 8 k ≠ 0
    rw [nn 8 (by omega)]; omega
