theorem out_b {s : St} {b : Nat} (I : IV s b) (i : Nat) : Bz (sOut s i) ∧ Hr (sOut s i) ∧ Cr (sOut s i) := by
  refine ⟨?_, ?_, ?_⟩
  · have := IV_Bz I
    unfold Bz at *
    simp only [N_out _ _ _ _ (show (0 : Nat) ≠ 18 by omega)]; exact this
  · intro k hk
    have := IV_Hr I k hk
    rw [N_out _ _ _ _ (by omega), N_out _ _ _ _ (by omega), N_out _ _ _ _ (by omega), N_out _ _ _ _ (by omega), N_out _ _ _ _ (by omega), N_out _ _ _ _ (by omega), N_out _ _ _ _ (by omega), N_out _ _ _ _ (by omega)]
    exact this
  · refine ⟨fun k hk => ?_, fun c hc => ?_⟩
    · rw [N_out _ _ _ _ (by omega), N_out _ _ _ _ (by omega), N_out _ _ _ _ (by omega)]; exact (IV_Cr I).1 k hk
    · rw [N_out _ _ _ _ (by omega), N_out _ _ _ _ (by omega), N_out _ _ _ _ (by omega)]; exact (IV_Cr I).2 c hc
theorem hWay_out (s : St) (i l : Nat) : hWay (sOut s i) l = hWay s l := hWay_c (fun j => N_out s i 0 j (by omega)) (fun j => N_out s i 4 j (by omega)) l
theorem len_out (s : St) (i : Nat) : (Pl (sOut s i)).length ≤ (Pl s).length := by
  show ((Pl s).eraseIdx i).length ≤ _
  rw [List.length_eraseIdx]; split <;> omega
/-- what comes to the home is as both homes need it -/
theorem IV_home5 {s : St} {b i : Nat} (I : IV s b) (hi : i < (Pl s).length) (ht : mTo ((Pl s).getD i x0) = 16) : HomeC (fun s => IV s b) (sOut s i) ((Pl s).getD i x0) ∧ HomeOk (fun s => IV s b) (sOut s i) ((Pl s).getD i x0) := by
  have xm : (Pl s).getD i x0 ∈ Z s := List.mem_append_left _ (getD_mem hi)
  have xw := I.2.2.1.2.1 _ xm
  have l32 := (IV_len I).2
  have f5 : mKi ((Pl s).getD i x0) = 5 → ∃ k, hWay (sOut s i) (mLi ((Pl s).getD i x0)) = some k ∧ 1 ≤ N (sOut s i) 10 k ∧ 1 ≤ N (sOut s i) 8 k ∧ (N (sOut s i) 10 k = 1 → N (sOut s i) 8 k ≠ 17 → N (sOut s i) 9 k ≠ 1 → 1 ≤ N (sOut s i) 6 k ∧ N (sOut s i) 7 k = 0) ∧ (N (sOut s i) 10 k = 1 → N (sOut s i) 8 k ≠ 17 → Wda (sAckW (sOut s i) k ((Pl s).getD i x0)) 2 k = Wda (sOut s i) 0 (mLi ((Pl s).getD i x0))) ∧ (N (sOut s i) 10 k = 1 → N (sOut s i) 8 k = 17 → IV (sEnd (sAckD (sAckW (sOut s i) k ((Pl s).getD i x0)) k) k) b) := by
    intro k5
    obtain ⟨hl, c16, ⟨k, ek, f10, f8, f8b, f8c, f8d, ffi, ffi0, fgs, f7⟩, tkx, xkey⟩ := ack_facts (k := 0) I hi ⟨k5, rfl, rfl⟩
    refine ⟨k, by rw [hWay_out]; exact ek, ?_⟩
    rw [N_out _ _ _ _ (by omega), N_out _ _ _ _ (by omega), N_out _ _ _ _ (by omega), N_out _ _ _ _ (by omega), N_out _ _ _ _ (by omega)]
    refine ⟨f10, f8, fun g1 g2 g3 => ?_, fun g1 g2 => ?_, fun g1 g2 => IV_ackR I hi ⟨k5, rfl, rfl⟩ ek g1 g2⟩
    · have k9 := (IV_Hr I k ((hWay_iff (IV_Bz I) I.2.1.2).mp ek).1).2.2.2.2.2.1
      have h1 := ffi (fgs g1 g2 (by omega))
      exact ⟨by omega, f7 (by omega)⟩
    · unfold sAckW
      by_cases g : mFi ((Pl s).getD i x0) = 1
      · rw [if_pos g, W_uN, uW_at]
        exact (I.2.2.2.2.2.2.2.1.2.2.2.1 _ xm).2.1 k5 g
      · rw [if_neg g]
        exact I.2.2.2.2.2.2.2.1.1 _ k ek (ffi0 g1 (by have := xw.2.1; omega))
  have f10 : mKi ((Pl s).getD i x0) = 10 → ∃ k, hWay (sOut s i) (mLi ((Pl s).getD i x0)) = some k ∧ N (sOut s i) 8 k ≠ 0 ∧ N (sOut s i) 10 k = 0 ∧ IV (uN (sOut s i) 8 k 0) b := by
    intro k10
    have xp : isP ((Pl s).getD i x0) := by unfold isP; omega
    have tkx := tk_of I.2.2.1 (IV_Bz I) xm xp
    have t10 : tcode ((Pl s).getD i x0) = 10 := by unfold tcode; rw [if_neg (by omega)]; exact k10
    obtain ⟨hX, _, hA, hD, _⟩ := ph_g (I.2.2.2.1 _ xw.1) (c := pc ((Pl s).getD i x0)) (by omega)
    obtain ⟨k, ek⟩ := vX_1 hX
    refine ⟨k, by rw [hWay_out]; exact ek, ?_⟩
    rw [N_out _ _ _ _ (by omega), N_out _ _ _ _ (by omega)]
    have e8 : hv s (mLi ((Pl s).getD i x0)) 8 = N s 8 k := by unfold hv; rw [ek]
    have e10 : hv s (mLi ((Pl s).getD i x0)) 10 = N s 10 k := by unfold hv; rw [ek]
    exact ⟨by omega, by omega, IV_done I hi k10 rfl rfl ek⟩
  have fq : mKi ((Pl s).getD i x0) ≠ 5 → mKi ((Pl s).getD i x0) ≠ 10 → IV (uQ (sOut s i) (Ql (sOut s i) ++ [(Pl s).getD i x0])) b := by
    intro h5 h10
    exact IV_push I hi (by obtain ⟨_, _, g⟩ := xw; have := I.1.1.1.2; omega)
  refine ⟨⟨f5, f10, fun h5 h10 => ⟨?_, fq h5 h10⟩⟩, ⟨fun h => ?_, fun h => ?_, fq⟩⟩
  · have := (IV_len (fq h5 h10)).2
    have e : Ql (uQ (sOut s i) (Ql (sOut s i) ++ [(Pl s).getD i x0])) = Ql (sOut s i) ++ [(Pl s).getD i x0] := rfl
    rw [e, List.length_append] at this
    have e1 : ([(Pl s).getD i x0] : List Msg).length = 1 := rfl
    omega
  · obtain ⟨k, g1, g2, g3, g4, g5, g6⟩ := f5 h
    exact ⟨k, g1, g2, g3, fun a b c => (g4 a b c).1, g6⟩
  · obtain ⟨k, g1, g2, g3, g4⟩ := f10 h
    exact ⟨k, g1, g4⟩
theorem IV_bring {s : St} {b i : Nat} (I : IV s b) (hi : i < (Pl s).length) : IV (sBring s i) b := by
  have xm : (Pl s).getD i x0 ∈ Z s := List.mem_append_left _ (getD_mem hi)
  have xw := I.2.2.1.2.1 _ xm
  have b0 := I.1.1.1.2
  unfold sBring sGet
  by_cases ht : mTo ((Pl s).getD i x0) = 16
  · rw [if_pos ht]
    obtain ⟨hC, _⟩ := IV_home5 I hi ht
    unfold sHome
    by_cases k5 : mKi ((Pl s).getD i x0) = 5
    · rw [if_pos k5]
      obtain ⟨k, g1, g2, g3, g4, g5, g6⟩ := hC.1 k5
      unfold sAck
      rw [g1]
      show IV (sAckE _ _ _) b
      rw [sAckE_P]
      rw [hWay_out] at g1
      have n10 : N (sAckD (sAckW (sOut s i) k ((Pl s).getD i x0)) k) 10 k = N s 10 k - 1 := by
        unfold sAckD; rw [N_eq, sAckW_N _ _ _ _ _ (by omega), N_out _ _ _ _ (by omega)]
      have n8 : N (sAckD (sAckW (sOut s i) k ((Pl s).getD i x0)) k) 8 k = N s 8 k := by
        unfold sAckD; rw [N_ne (by omega), sAckW_N _ _ _ _ _ (by omega), N_out _ _ _ _ (by omega)]
      rw [N_out _ _ _ _ (by omega)] at g2 g6
      by_cases e : N s 10 k = 1 ∧ N s 8 k = 17
      · have p : sAckP (sAckD (sAckW (sOut s i) k ((Pl s).getD i x0)) k) k (mLi ((Pl s).getD i x0)) = (true, sEnd (sAckD (sAckW (sOut s i) k ((Pl s).getD i x0)) k) k) := by
          unfold sAckP; rw [if_neg (by omega), if_pos (by omega)]
        rw [p, if_pos rfl]
        exact IV_goOn (g6 e.1 (by rw [N_out _ _ _ _ (by omega)]; exact e.2))
      · have p : (sAckP (sAckD (sAckW (sOut s i) k ((Pl s).getD i x0)) k) k (mLi ((Pl s).getD i x0))).1 = false := by
          unfold sAckP
          by_cases a1 : 0 < N (sAckD (sAckW (sOut s i) k ((Pl s).getD i x0)) k) 10 k
          · rw [if_pos a1]
          · rw [if_neg a1, if_neg (by omega)]
            split <;> rfl
        rw [if_neg (by rw [p]; decide)]
        exact IV_ack I hi ⟨k5, rfl, rfl⟩ g1 e
    · rw [if_neg k5]
      by_cases k10 : mKi ((Pl s).getD i x0) = 10
      · rw [if_pos k10]
        obtain ⟨k, g1, g2, g3, g4⟩ := hC.2.1 k10
        rw [g1]
        exact IV_goOn g4
      · rw [if_neg k10]
        exact IV_goOn (hC.2.2 k5 k10).2
  · rw [if_neg ht]
    have kk : mKi ((Pl s).getD i x0) = 3 ∨ mKi ((Pl s).getD i x0) = 4 ∨ mKi ((Pl s).getD i x0) = 6 ∨ mKi ((Pl s).getD i x0) = 7 ∨ mKi ((Pl s).getD i x0) = 8 ∨ mKi ((Pl s).getD i x0) = 9 := by
      obtain ⟨_, _, g⟩ := xw; omega
    unfold sCore
    by_cases k3 : mKi ((Pl s).getD i x0) = 3
    · rw [if_pos k3]
      exact IV_answer I hi (Or.inl k3) rfl (by unfold pc; rw [if_neg (by omega)]) (Or.inl ⟨rfl, k3⟩)
    · rw [if_neg k3]
      by_cases k4 : mKi ((Pl s).getD i x0) = 4
      · rw [if_pos k4]
        exact IV_answer I hi (Or.inr (Or.inl k4)) rfl (by unfold pc; rw [if_neg (by omega)]) (Or.inr ⟨rfl, k4⟩)
      · rw [if_neg k4]
        by_cases k9 : mKi ((Pl s).getD i x0) = 9
        · rw [if_pos k9]; exact IV_back I hi rfl k9
        · rw [if_neg k9]; exact (IV_give I hi rfl rfl (by omega)).2
theorem give_room {s : St} {b i : Nat} (I : IV s b) (hi : i < (Pl s).length) (hk : mKi ((Pl s).getD i x0) = 6 ∨ mKi ((Pl s).getD i x0) = 7 ∨ mKi ((Pl s).getD i x0) = 8) (hw : sWay (sOut s i) (mTo ((Pl s).getD i x0)) (mLi ((Pl s).getD i x0)) = none) : sFree (sOut s i) (mTo ((Pl s).getD i x0)) (mLi ((Pl s).getD i x0)) ≠ none := by
  obtain ⟨⟨k, ek⟩, _⟩ := IV_give I hi rfl rfl hk
  unfold sAt at ek
  rw [hw] at ek
  intro g
  rw [g] at ek
  cases ek
/-- the reference brings a message -/
theorem m_bring {m : AH} {s : St} {b : Nat} (R : RM m s) (I : IV s b) {i : Nat} (hi : i < (Pl s).length) : ∃ m', f_X11_bring m 226 (nI i) = some m' ∧ RM m' (sBring s i) ∧ Fr m m' := by
  have xm : (Pl s).getD i x0 ∈ Z s := List.mem_append_left _ (getD_mem hi)
  have xw := I.2.2.1.2.1 _ xm
  have b0 := I.1.1.1.2
  have len := IV_len I
  obtain ⟨oB, oH, oC⟩ := out_b I i
  have lo := len_out s i
  have lq : Ql (sOut s i) = Ql s := rfl
  obtain ⟨w1, w2, w3⟩ := xw
  refine r_bring R hi (by omega) (by omega) (fun ht a Ra Ca => ?_) (fun ht a Ra Ca => ?_)
  · exact r_atHome (fun s => IV s b) (fun _ J => IV_Ok J) (fun set => IV_HT b set) Ra oB oH Ca (by omega) w1 w2 (IV_home5 I hi ht).2 (by omega) (by rw [lq]; omega)
  · exact r_atCore Ra oB (Rg_of oB oH oC) Ca (by omega) w1 (by omega) (fun hk hw => give_room I hi hk hw) (by omega)
