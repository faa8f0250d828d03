/-! A message brought in both. -/
def n3 (F : Nat) : Prop := F = 0 ∨ F = 19 ∨ F = 25
theorem b_wb {s : St} {k F j : Nat} (h : n3 F) : N (sWb s k) F j = N s F j := by
  unfold n3 at h; unfold sWb; split
  · rfl
  · rw [N_ne (by omega), N_uW]
theorem b_fill {s : St} {k l F j : Nat} (h : n3 F) : N (sFill s k l) F j = N s F j := by
  unfold n3 at h; unfold sFill
  rw [N_uW, N_ne (by omega), N_ne (by omega), N_ne (by omega), N_ne (by omega), N_ne (by omega), N_ne (by omega)]
theorem b_about {s : St} {k c kd F j : Nat} (h : n3 F) : N (sAbout s k c kd) F j = N s F j := by
  unfold n3 at h; exact about_N s (by omega) (by omega) (by omega)
theorem b_lend {s : St} {k F j : Nat} (h : n3 F) : N (sLend s k) F j = N s F j := by
  unfold n3 at h; unfold sLend; rw [N_give, N_ne (by omega), N_ne (by omega)]
theorem b_shares {s : St} {k c l F j : Nat} (h : n3 F) : N (sShares s k c l) F j = N s F j := by
  unfold n3 at h; unfold sShares; split
  · rw [N_ne (by omega), N_send]
  · split
    · rw [N_give, N_ne (by omega)]
    · rw [N_give, N_ne (by omega)]
theorem b_call {s : St} {k l sp o n F j : Nat} (h : n3 F) : N (sCall s k l sp o n) F j = N s F j := by
  unfold n3 at h; exact sCall_N k l sp n s o F j (by omega)
theorem b_serve {s : St} {k c l kd F j : Nat} (h : n3 F) : N (sServe s k c l kd) F j = N s F j := by
  unfold sServe; split
  · rw [b_shares h, b_about h]
  · split
    · rw [b_lend h, b_call h, b_about h]
    · rw [b_call h, b_about h]
theorem b_find {s : St} {l F j : Nat} (h : n3 F) : N (sFind s l).2 F j = N s F j := by
  unfold sFind; split
  · exact b_fill h
  · split
    · rfl
    · split
      · show N (sFill (sWb s _) _ l) F j = _
        rw [b_fill h, b_wb h]
      · show N (sRecall s _) F j = _
        unfold sRecall
        unfold n3 at h
        rw [b_call h, N_ne (by omega), N_ne (by omega), N_ne (by omega)]
theorem b_take {s : St} {x : Msg} {F j : Nat} (h : n3 F) : N (sTake s x).2 F j = N s F j := by
  have hp : ∀ c l w, N (sPut s c l w) F j = N s F j := fun c l w => by unfold n3 at h; exact sPut_N s (by omega)
  unfold sTake; split
  · split
    · rfl
    · split
      · exact hp _ _ _
      · exact b_serve h
  · split
    · exact hp _ _ _
    · have f := b_find (s := s) (l := mLi x) (j := j) h
      split
      · next t e => rw [e] at f; show N (sServe t _ _ _ _) F j = _; rw [b_serve h]; exact f
      · next t e => rw [e] at f; exact f
theorem b_go {set F j : Nat} (h : n3 F) : ∀ (n : Nat) (s : St), N (sGo set n s) F j = N s F j
  | 0, _ => rfl
  | n + 1, s => by
    unfold sGo; split
    · rfl
    · split
      · rw [b_go h n, N_uQ, b_take h]
      · exact b_take h
theorem b_goOn {s : St} {set F j : Nat} (h : n3 F) : N (sGoOn s set) F j = N s F j := b_go h _ _
theorem b_ack {s : St} {x : Msg} {F j : Nat} (h : n3 F) : N (sAck s x) F j = N s F j := by
  unfold sAck; split
  · rfl
  · next k _ =>
    have e : N (sAckD (sAckW s k x) k) F j = N s F j := by
      unfold n3 at h; unfold sAckD; rw [N_ne (by omega), sAckW_N _ _ _ _ _ (by omega)]
    rw [← e]
    generalize sAckD (sAckW s k x) k = t
    unfold sAckE; split
    · rfl
    · split
      · rw [b_goOn h]
        unfold n3 at h
        rw [N_ne (by omega), N_ne (by omega), N_ne (by omega), N_ne (by omega), b_wb h]
      · split
        · exact b_lend h
        · unfold n3 at h
          rw [N_give, N_ne (by omega), N_ne (by omega)]
theorem b_home {s : St} {x : Msg} {F j : Nat} (h : n3 F) : N (sHome s x) F j = N s F j := by
  unfold sHome; split
  · exact b_ack h
  · split
    · split
      · rfl
      · rw [b_goOn h]; unfold n3 at h; rw [N_ne (by omega)]
    · rw [b_goOn h, N_uQ]
theorem b_core {s : St} {c : Nat} {x : Msg} {F j : Nat} (h : n3 F) : N (sCore s c x) F j = N s F j := by
  unfold n3 at h
  unfold sCore
  have st : ∀ t c l v, N (sState t c l v) F j = N t F j := by
    intro t c l v; unfold sState; split
    · rfl
    · rw [N_ne (by omega)]
  split
  · rw [st, sAnswer_N _ _ _ _ _ (by omega)]
  · split
    · rw [st, sAnswer_N _ _ _ _ _ (by omega)]
    · split
      · rw [N_ne (by omega), N_ne (by omega)]
      · unfold sFillC
        split
        · rfl
        · unfold sSend sUse
          rw [N_post, N_ne (by omega), N_ne (by omega), N_ne (by omega), N_ne (by omega), N_ne (by omega), N_uW, N_ne (by omega), N_ne (by omega)]
theorem sBring_N {s : St} {i F j : Nat} (h : n3 F) : N (sBring s i) F j = N s F j := by
  have o : N (sOut s i) F j = N s F j := by unfold n3 at h; exact N_out s i F j (by omega)
  unfold sBring sGet; split
  · rw [b_home h]; exact o
  · rw [b_core h]; exact o
theorem bring_both {h m : AH} {s : St} {e : Ex} {b i : Nat} (R : Rel h m s e b) (hi : i < (Pl s).length) :
    ∃ h' m', f_X10_carry h 1 (nI i) = some (nI 1, h') ∧ f_X11_bring m 226 (nI i) = some m' ∧ Rel h' m' (sBring s i) e b ∧ Bd h h' ∧ m'.2 = m.2 ∧ (∀ j, N (sBring s i) 0 j = N s 0 j) := by
  have lim := Rel_lim R
  obtain ⟨⟨RC', D⟩, RM', I, C, X⟩ := R
  obtain ⟨h', e1, r1, d1, f1⟩ := c_carry RC' D I hi
  obtain ⟨m', e2, r2, f2⟩ := m_bring RM' I hi
  exact ⟨h', m', e1, e2, ⟨⟨r1, d1⟩, r2, IV_bring I hi, CN_of C (sBring_N (Or.inl rfl)) (sBring_N (Or.inr (Or.inl rfl))) (fun _ => sBring_N (Or.inr (Or.inr rfl))), EX_fr X f1 f2 (fun _ => sBring_N (Or.inl rfl)) (Nat.le_refl _) lim⟩, Bd_C f1, f2.1, fun _ => sBring_N (Or.inl rfl)⟩
