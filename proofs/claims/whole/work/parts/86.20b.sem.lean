theorem ph_out {s : St} {i : Nat} (hi : i < (Pl s).length) : ph (sOut s i) + wp ((Pl s).getD i x0) = ph s := by
  have := ps_erase wp (Pl s) i hi
  have e : sg (ww (sOut s i)) 512 = sg (ww s) 512 := sg_congr 512 (fun j _ => by unfold ww; rw [N_out _ _ _ _ (by omega), N_out _ _ _ _ (by omega), N_out _ _ _ _ (by omega)])
  show ps wp ((Pl s).eraseIdx i) + ps wq (Ql s) + sg (ww (sOut s i)) 512 + _ = _
  unfold ph; omega
theorem dl_ww {s t : St} {a : Nat} (d : dl s t 512 a) : ph t ≤ ph s + a := by
  have e : sg (ww t) 512 = sg (ww s) 512 := sg_congr 512 (fun j hj => by
    obtain ⟨x1, x2, x3⟩ := d.1 j (by omega)
    unfold ww; rw [x1, x2, x3])
  have := d.2.1
  unfold ph; rw [d.2.2]; omega
theorem ph_bring {s : St} {b i : Nat} (I : IV s b) (hi : i < (Pl s).length) : ph (sBring s i) < ph s := by
  have xm : (Pl s).getD i x0 ∈ Z s := List.mem_append_left _ (getD_mem hi)
  have xw := I.2.2.1.2.1 _ xm
  have b0 := I.1.1.1.2
  have po := ph_out hi
  unfold sBring sGet
  by_cases ht : mTo ((Pl s).getD i x0) = 16
  · rw [if_pos ht]
    obtain ⟨hC, _⟩ := IV_home5 I hi ht
    unfold sHome
    by_cases k5 : mKi ((Pl s).getD i x0) = 5
    · rw [if_pos k5]
      have w1 : wp ((Pl s).getD i x0) = 1 := by unfold wp; (repeat' split) <;> omega
      obtain ⟨hl, c16, ⟨k, ek, f10, f8, f8b, f8c, f8d, ffi, ffi0, fgs, f7⟩, tkx, xkey⟩ := ack_facts (k := 0) I hi ⟨k5, rfl, rfl⟩
      obtain ⟨k512, k4⟩ := (hWay_iff (IV_Bz I) I.2.1.2).mp ek
      unfold sAck
      rw [hWay_out, ek]
      show ph (sAckE _ _ _) < _
      generalize ht2 : sAckD (sAckW (sOut s i) k ((Pl s).getD i x0)) k = t
      have dt : dl (sOut s i) t k 0 := by
        rw [← ht2]; unfold sAckD sAckW; split
        · exact dl_N (dl_N (dl_W (dl_rfl _ k)) (Or.inl rfl)) (Or.inl rfl)
        · exact dl_N (dl_rfl _ k) (Or.inl rfl)
      have n10 : N t 10 k = N s 10 k - 1 := by
        rw [← ht2]; unfold sAckD; rw [N_eq, sAckW_N _ _ _ _ _ (by omega), N_out _ _ _ _ (by omega)]
      have n8 : N t 8 k = N s 8 k := by
        rw [← ht2]; unfold sAckD; rw [N_ne (by omega), sAckW_N _ _ _ _ _ (by omega), N_out _ _ _ _ (by omega)]
      have n4 : N t 4 k = N s 4 k := by
        rw [← ht2]; unfold sAckD; rw [N_ne (by omega), sAckW_N _ _ _ _ _ (by omega), N_out _ _ _ _ (by omega)]
      have o4 : N (sOut s i) 4 k = N s 4 k := N_out _ _ _ _ (by omega)
      have o8 : N (sOut s i) 8 k = N s 8 k := N_out _ _ _ _ (by omega)
      have o10 : N (sOut s i) 10 k = N s 10 k := N_out _ _ _ _ (by omega)
      unfold sAckE
      by_cases e1 : 0 < N t 10 k
      · rw [if_pos e1]
        have d := dl_ph dt k512
        have : ww t k = ww (sOut s i) k := by
          unfold ww; rw [n4, n8, o4, o8, o10]
          split
          · rfl
          · split
            · rfl
            · split
              · rfl
              · rw [if_neg (by omega), if_neg (by omega)]
        omega
      · rw [if_neg e1]
        by_cases e17 : N t 8 k = 17
        · rw [if_pos e17]
          have g6 := (IV_home5 I hi ht).1.1 k5
          obtain ⟨k', g1, _, _, _, _, g6⟩ := g6
          rw [hWay_out, ek] at g1
          obtain rfl := Option.some.inj g1
          have I2 := g6 (by omega) (by omega)
          rw [ht2] at I2
          have pg := ph_go (set := mLi ((Pl s).getD i x0) % N t 0 4) ((Ql (sEnd t k)).length + 1) _ I2
          have dE : dl (sOut s i) (sEnd t k) k 0 := by
            unfold sEnd
            exact dl_N (dl_N (dl_N (dl_N (dl_tr dt (dl_wb t k)) (Or.inl rfl)) (Or.inl rfl)) (Or.inl rfl)) (Or.inl rfl)
          have d := dl_ph dE k512
          have : ww (sEnd t k) k = 0 := by
            unfold ww
            rw [if_pos]
            unfold sEnd; rw [N_ne (by omega), N_ne (by omega), N_ne (by omega), N_eq]
          have eg : sGoOn (uN (uN (uN (uN (sWb t k) 4 k 0) 8 k 0) 6 k 0) 7 k 0) (mLi ((Pl s).getD i x0) % N t 0 4) = sGo (mLi ((Pl s).getD i x0) % N t 0 4) ((Ql (sEnd t k)).length + 1) (sEnd t k) := rfl
          rw [eg]
          omega
        · rw [if_neg e17]
          have wo : ww (sOut s i) k = 35 := by
            unfold ww; rw [o4, o8, o10, if_neg (by omega), if_neg (by omega), if_neg (by omega), if_neg (by omega)]
          have fin : ∀ u : St, dl (sOut s i) u k 2 → N u 4 k = N t 4 k → N u 8 k = N t 8 k → N u 10 k = N t 10 k → ph u < ph s := by
            intro u du u4 u8 u10
            have d := dl_ph du k512
            have wu : ww u k = 33 := by
              unfold ww; rw [u4, u8, u10, if_neg (by omega), if_neg (by omega), if_neg (by omega), if_pos (by omega)]
            omega
          by_cases e9 : N t 9 k = 1
          · rw [if_pos e9]
            refine fin _ ?_ ?_ ?_ ?_
            · unfold sLend
              exact dl_mono (dl_P (dl_N (dl_N dt (Or.inl rfl)) (Or.inl rfl))) (by show 0 + 2 ≤ 2; omega)
            · unfold sLend; rw [N_give, N_ne (by omega), N_ne (by omega)]
            · unfold sLend; rw [N_give, N_ne (by omega), N_ne (by omega)]
            · unfold sLend; rw [N_give, N_ne (by omega), N_ne (by omega)]
          · rw [if_neg e9]
            refine fin _ ?_ ?_ ?_ ?_
            · exact dl_mono (dl_P (dl_N (dl_N dt (Or.inl rfl)) (Or.inl rfl))) (by show 0 + 2 ≤ 2; omega)
            · rw [N_give, N_ne (by omega), N_ne (by omega)]
            · rw [N_give, N_ne (by omega), N_ne (by omega)]
            · rw [N_give, N_ne (by omega), N_ne (by omega)]
    · rw [if_neg k5]
      by_cases k10 : mKi ((Pl s).getD i x0) = 10
      · rw [if_pos k10]
        have w1 : wp ((Pl s).getD i x0) = 1 := by unfold wp; (repeat' split) <;> omega
        obtain ⟨k, g1, g2, g3, g4⟩ := hC.2.1 k10
        rw [g1]
        have pg := ph_go (set := mLi ((Pl s).getD i x0) % N (sOut s i) 0 4) ((Ql (uN (sOut s i) 8 k 0)).length + 1) _ g4
        have k5' := (hWay_iff (IV_Bz I) I.2.1.2).mp (by rw [← hWay_out s i]; exact g1)
        have d := dl_ph (dl_N (F := 8) (j := k) (v := 0) (dl_rfl (sOut s i) k) (Or.inl rfl)) k5'.1
        have o4 : N (sOut s i) 4 k = N s 4 k := N_out _ _ _ _ (by omega)
        have n17 : N (sOut s i) 8 k ≠ 17 := by
          intro h17
          have xp : isP ((Pl s).getD i x0) := by unfold isP; omega
          have tkx := tk_of I.2.2.1 (IV_Bz I) xm xp
          have t10 : tcode ((Pl s).getD i x0) = 10 := by unfold tcode; rw [if_neg (by omega)]; exact k10
          obtain ⟨hX, hc16, hA, hD, _⟩ := ph_g (I.2.2.2.1 _ xw.1) (c := pc ((Pl s).getD i x0)) (by omega)
          have e8 : hv s (mLi ((Pl s).getD i x0)) 8 = N s 8 k := by unfold hv; rw [← hWay_out s i, g1]
          rw [N_out _ _ _ _ (by omega)] at h17
          omega
        have wo : ww (sOut s i) k = 33 := by
          unfold ww; rw [if_neg (by omega), if_neg n17, if_neg g2, if_pos g3]
        have wu := ww_le (uN (sOut s i) 8 k 0) k
        have wu : ww (uN (sOut s i) 8 k 0) k = 33 := by
          unfold ww; rw [N_ne (by omega), if_neg (by omega), N_eq, if_neg (by omega), if_pos rfl]
        show ph (sGo _ _ _) < _
        omega
      · rw [if_neg k10]
        have pg := ph_go (set := mLi ((Pl s).getD i x0) % N (sOut s i) 0 4) ((Ql (uQ (sOut s i) (Ql (sOut s i) ++ [(Pl s).getD i x0]))).length + 1) _ (hC.2.2 k5 k10).2
        have e : ph (uQ (sOut s i) (Ql (sOut s i) ++ [(Pl s).getD i x0])) = ph (sOut s i) + wq ((Pl s).getD i x0) := by
          show ps wp (Pl (sOut s i)) + ps wq (Ql (sOut s i) ++ [(Pl s).getD i x0]) + sg (ww (sOut s i)) 512 = _
          rw [ps_app]
          show _ + (_ + (wq ((Pl s).getD i x0) + 0)) + _ = _
          unfold ph; omega
        have k2 : mKi ((Pl s).getD i x0) ≤ 2 := by obtain ⟨_, _, g⟩ := xw; omega
        have lt : wq ((Pl s).getD i x0) + 1 = wp ((Pl s).getD i x0) := by
          unfold wp wq
          by_cases g : mKi ((Pl s).getD i x0) ≤ 1
          · rw [if_pos g, if_pos g]
          · rw [if_neg g, if_neg g, if_pos (by omega)]
        show ph (sGo _ _ _) < _
        omega
  · rw [if_neg ht]
    have kk : mKi ((Pl s).getD i x0) = 3 ∨ mKi ((Pl s).getD i x0) = 4 ∨ mKi ((Pl s).getD i x0) = 6 ∨ mKi ((Pl s).getD i x0) = 7 ∨ mKi ((Pl s).getD i x0) = 8 ∨ mKi ((Pl s).getD i x0) = 9 := by
      obtain ⟨_, _, g⟩ := xw; omega
    have ans : ∀ v, dl (sOut s i) (sState (sAnswer (sOut s i) (mTo ((Pl s).getD i x0)) (mLi ((Pl s).getD i x0))) (mTo ((Pl s).getD i x0)) (mLi ((Pl s).getD i x0)) v) 512 1 := by
      intro v
      have a : dl (sOut s i) (sAnswer (sOut s i) (mTo ((Pl s).getD i x0)) (mLi ((Pl s).getD i x0))) 512 1 := by
        have b : dl (sOut s i) (sGone (sOut s i) (mTo ((Pl s).getD i x0)) (mLi ((Pl s).getD i x0))) 512 0 := by
          unfold sGone; split
          · exact dl_N (dl_rfl _ 512) (Or.inr (by omega))
          · exact dl_rfl _ 512
        unfold sAnswer
        split
        · exact dl_mono (dl_P b) (by show 0 + 1 ≤ 1; omega)
        · exact dl_mono (dl_P b) (by show 0 + 1 ≤ 1; omega)
      unfold sState
      split
      · exact a
      · exact dl_N a (Or.inr (by omega))
    unfold sCore
    by_cases k3 : mKi ((Pl s).getD i x0) = 3
    · rw [if_pos k3]
      have := dl_ww (ans 0)
      have w2 : wp ((Pl s).getD i x0) = 2 := by unfold wp; (repeat' split) <;> omega
      omega
    · rw [if_neg k3]
      by_cases k4 : mKi ((Pl s).getD i x0) = 4
      · rw [if_pos k4]
        have := dl_ww (ans 1)
        have w2 : wp ((Pl s).getD i x0) = 2 := by unfold wp; (repeat' split) <;> omega
        omega
      · rw [if_neg k4]
        by_cases k9 : mKi ((Pl s).getD i x0) = 9
        · rw [if_pos k9]
          have := dl_ww (dl_N (F := 14) (j := mTo ((Pl s).getD i x0)) (v := 0) (dl_N (F := 13) (j := mTo ((Pl s).getD i x0)) (v := 0) (dl_rfl (sOut s i) 512) (Or.inr (by omega))) (Or.inr (by omega)))
          have w2 : wp ((Pl s).getD i x0) = 1 := by unfold wp; (repeat' split) <;> omega
          omega
        · rw [if_neg k9]
          have w2 : wp ((Pl s).getD i x0) = 2 := by unfold wp; (repeat' split) <;> omega
          have us : ∀ q, dl (sOut s i) (sUse (uW (uN (uN (sOut s i) 1 q (mLi ((Pl s).getD i x0))) 2 q (mKi ((Pl s).getD i x0) - 5)) 4 q (mWo ((Pl s).getD i x0))) q) 512 0 := by
            intro q
            unfold sUse
            exact dl_N (dl_N (dl_N (dl_N (dl_W (dl_N (dl_N (dl_rfl _ 512) (Or.inr (by omega))) (Or.inr (by omega)))) (Or.inr (by omega))) (Or.inr (by omega))) (Or.inr (by omega))) (Or.inr (by omega))
          unfold sFillC
          cases sAt (sOut s i) (mTo ((Pl s).getD i x0)) (mLi ((Pl s).getD i x0)) with
          | none => show ph (sOut s i) < _; omega
          | some q =>
            have := dl_ww (dl_P (x := (10, mTo ((Pl s).getD i x0), 16, mLi ((Pl s).getD i x0), 0, w0)) (dl_N (F := 12) (j := mTo ((Pl s).getD i x0)) (v := 0) (us q) (Or.inr (by omega))))
            have w10 : wp (10, mTo ((Pl s).getD i x0), 16, mLi ((Pl s).getD i x0), 0, w0) = 1 := rfl
            rw [w10] at this
            refine Nat.lt_of_le_of_lt this ?_
            omega
