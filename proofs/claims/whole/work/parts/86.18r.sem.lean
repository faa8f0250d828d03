def OkC (s : St) : Prop := Bz s ∧ Hr s ∧ CH s ∧ (Ql s).length ≤ 32 ∧ Qw s ∧ (∀ i, i < (Ql s).length → TkOk s ((Ql s).getD i x0)) ∧ (Pl s).length + 17 < 8400
theorem c_firstAt {h : AH} {s : St} (R : RC h s) (B : Bz s) (Q : Qw s) {set : Nat} (hs : set < 64) (hq : (Ql s).length ≤ 32) : f_X4_firstAt h 19 (nI set) = some (oI (qFirst s set)) := by
  have L := RC_L R
  obtain ⟨s1, s2, _, _⟩ := RC_s R
  obtain ⟨a, ha, e2⟩ := B.2.2.2.2.1
  have h6 := bz_hsets B
  obtain ⟨q1, q2⟩ := R.2.2.2.2.2.2.2
  unfold f_X4_firstAt
  rw [y_lt]
  refine lp_find (fun f i => f_X4_firstAt_L2 h f 19 (nI set) i) _ nI nN 0 (Ql s).length ?_ ?_ FU (FU_gt (by omega))
  · intro f j hj1 hj2
    have hj : j < (Ql s).length := by omega
    have hl := (Q j hj).2.2
    have q3 : hI h 30 (j * 9 + 3) = nI (mLi ((Ql s).getD j x0)) := by rw [show j * 9 + 3 = 9 * j + 3 by omega]; exact q2 j 3 hj (by omega)
    have c : ¬ (Ql s).length ≤ j := by omega
    have hm : mLi ((Ql s).getD j x0) % N s 0 4 < 512 := Nat.lt_of_le_of_lt (Nat.mod_le _ _) hl
    simp (disch := omega) only [f_X4_firstAt_L2, ↓y_gs, ↓y_gb, ↓y_lt, ↓y_bds, q_lit, q_cl, q_ib, q_add, q_mul, ↓reduceIte, decide_true, Nat.reduceAdd, Nat.reduceMul, lc_S19 L, q1, q_le, c, lc_R19_11 L, lc_S30 L, lc_N30 L, q3, s1]
    rw [q_msk e2 (by omega) (by omega)]
    by_cases c2 : mLi ((Ql s).getD j x0) % N s 0 4 = set
    · rw [c2]; simp
    · rw [if_pos (by rw [q_eq (by omega) (by omega)]; exact c2), if_neg (show ¬ decide (mLi ((Ql s).getD j x0) % N s 0 4 = set) = true from by rw [decide_eq_true_eq]; exact c2)]
  · intro f
    have c : (Ql s).length ≤ 0 + (Ql s).length := by omega
    simp (disch := omega) only [f_X4_firstAt_L2, ↓y_gs, ↓y_gb, ↓y_lt, ↓y_bds, q_lit, q_cl, q_ib, q_add, q_mul, ↓reduceIte, decide_true, Nat.reduceAdd, Nat.reduceMul, lc_S19 L, q1, q_le, c, q_nN]
theorem RC_Q {h h' : AH} {s : St} {q : List Msg} (R : RC h s) (e : h'.2 = h.2) (e2 : ∀ o k, o ≠ 30 → ¬ (o = 19 ∧ k = 12) → hI h' o k = hI h o k) (Rq : RCq h' (uQ s q)) : RC h' (uQ s q) := by
  obtain ⟨⟨L, z⟩, rs, rk, rc, rh, rm, rp, rq⟩ := R
  have eR : ∀ o k, hR h' o k = hR h o k := fun o k => by show h'.2.2.1 o k = h.2.2.1 o k; rw [e]
  have eS : ∀ o, hS h' o = hS h o := fun o => by show h'.2.2.2.1 o = h.2.2.2.1 o; rw [e]
  have eN : ∀ o, hN h' o = hN h o := fun o => by show h'.2.2.2.2.1 o = h.2.2.2.2.1 o; rw [e]
  have eZ : hZ h' = hZ h := by show h'.2.2.2.2.2.1 = h.2.2.2.2.2.1; rw [e]
  have b3 := rp.2.2.1
  refine ⟨⟨lc_of L (fun o k _ _ => eR o k) (fun o _ => ⟨eS o, eN o⟩), by omega⟩, ?_, ?_, ?_, ?_, ?_, ?_, Rq⟩
  · exact RCs_ag rs (fun i _ => e2 32 i (by omega) (by omega)) (fun k _ _ => e2 19 k (by omega) (by omega)) (e2 _ _ (by omega) (by omega)) (fun _ => rfl) rfl rfl rfl
  · exact RCk_ag rk (fun c k hc _ _ => e2 _ _ (by omega) (by omega)) (fun c k hc _ => e2 _ _ (by omega) (by omega)) (fun c k hc => e2 _ _ (by omega) (by omega)) (fun _ => rfl) (fun _ _ _ _ => rfl) (fun _ _ => rfl)
  · exact RCc_ag rc (fun c r k hc _ _ => e2 _ _ (by omega) (by omega)) (fun _ _ _ _ => rfl) (fun _ _ => rfl)
  · exact RCh_ag rh (fun o k _ _ => e2 _ _ (by omega) (by omega)) (fun _ => rfl) (fun _ _ _ => rfl) (fun _ => rfl)
  · exact RCm_ag rm (fun k => e2 _ _ (by omega) (by omega)) (fun _ _ => rfl)
  · exact RCp_ag rp (eR _ _) (e2 _ _ (by omega) (by omega)) (eS _) (eN _) (fun k => e2 _ _ (by omega) (by omega)) (by omega) rfl
theorem FrC_Q {h h' : AH} (e : h'.2 = h.2) (e2 : ∀ o k, o ≠ 30 → ¬ (o = 19 ∧ k = 12) → hI h' o k = hI h o k) : FrC h h' := by
  have eR : ∀ o k, hR h' o k = hR h o k := fun o k => by show h'.2.2.1 o k = h.2.2.1 o k; rw [e]
  have eS : ∀ o, hS h' o = hS h o := fun o => by show h'.2.2.2.1 o = h.2.2.2.1 o; rw [e]
  have eN : ∀ o, hN h' o = hN h o := fun o => by show h'.2.2.2.2.1 o = h.2.2.2.2.1 o; rw [e]
  have eL : ∀ o k, hL h' o k = hL h o k := fun o k => by show h'.2.1 o k = h.2.1 o k; rw [e]
  have eZ : hZ h' = hZ h := by show h'.2.2.2.2.2.1 = h.2.2.2.2.2.1; rw [e]
  have eV : hV h' = hV h := by show h'.2.2.2.2.2.2 = h.2.2.2.2.2.2; rw [e]
  refine ⟨fun o k g => ?_, fun o k _ => eL o k, fun o k _ _ => eR o k, fun o _ => ⟨eS o, eN o⟩, ?_, ?_⟩
  · have : ¬ (16 ≤ o ∧ o ≤ 30) := fun g2 => by rw [crr_h k g2] at g; cases g
    exact e2 o k (by omega) (by omega)
  · rw [eN, eR, eV]
  · rw [eN, eR, eZ]; exact Nat.le_refl _
theorem DZ_Q {h h' : AH} {s : St} {q : List Msg} (D : DZ h s) (e : ∀ k, hI h' 26 k = hI h 26 k) : DZ h' (uQ s q) := fun k u g4 g8 => by rw [e]; exact D k u g4 g8
theorem c_leaveQueue {h : AH} {s : St} (R : RC h s) (D : DZ h s) {i : Nat} (hi : i < (Ql s).length) (hq : (Ql s).length ≤ 32) :
    ∃ h', f_X4_leaveQueue h 19 (nI i) = some h' ∧ RC h' (uQ s ((Ql s).eraseIdx i)) ∧ DZ h' (uQ s ((Ql s).eraseIdx i)) ∧ FrC h h' := by
  have L := RC_L R
  obtain ⟨q1, q2⟩ := R.2.2.2.2.2.2.2
  unfold f_X4_leaveQueue
  have hcp : cpok (nI ((i + 1) * 9)) (nI (i * 9)) (nI (((Ql s).length - i - 1) * 9)) 288 288 = true := cpok_t (by omega) (by omega) (by omega) (by omega)
  rw [y_lt, y_gs, if_pos (lc_S19 L), lc_R19_11 L, y_gs, if_pos (lc_S30 L), lc_N30 L, q1, show (1 : Int32) = nI 1 from rfl, show (9 : Int32) = nI 9 from rfl, q_add, q_mul, q_mul, q_sub (show i ≤ (Ql s).length by omega), q_sub (show 1 ≤ (Ql s).length - i by omega), q_mul, y_gb, if_pos hcp, y_lt, y_lt, q_cl (show (i + 1) * 9 < 2 ^ 31 by omega), q_cl (show i * 9 < 2 ^ 31 by omega), q_cl (show ((Ql s).length - i - 1) * 9 < 2 ^ 31 by omega), x_neA (by omega), q1, q_sub (show 1 ≤ (Ql s).length by omega)]
  have ag : ∀ o k, o ≠ 30 → ¬ (o = 19 ∧ k = 12) → hI (sI (sA h 30 (va_cpy (hI h 30) (hI h 30) ((i + 1) * 9) (i * 9) (((Ql s).length - i - 1) * 9))) 19 12 (nI ((Ql s).length - 1))) o k = hI h o k := by
    intro o k h1 h2
    rw [x_ne h2, x_neA h1]
  refine ⟨_, rfl, RC_Q R rfl ag ⟨?_, ?_⟩, DZ_Q D (fun k => ag 26 k (by omega) (by omega)), FrC_Q rfl ag⟩
  · rw [x_eq, Q_uQ, List.length_eraseIdx_of_lt hi]
  · intro k j hk hj
    rw [Q_uQ, List.length_eraseIdx_of_lt hi] at hk
    rw [x_ne (by omega), x_eqA, Q_uQ, getD_erase]
    unfold va_cpy
    by_cases c : k < i
    · rw [if_neg (by omega), if_pos c]; exact q2 k j (by omega) hj
    · rw [if_pos (by omega), if_neg c, show (i + 1) * 9 + (9 * k + j - i * 9) = 9 * (k + 1) + j by omega]; exact q2 (k + 1) j (by omega) hj
theorem c_push {h : AH} {s : St} (R : RC h s) (D : DZ h s) {x : Msg} (T : TK h x) (hq : (Ql s).length < 32) :
    RC (sI (sA h 30 (va_cpy (hI h 18) (hI h 30) 0 ((Ql s).length * 9) 9)) 19 12 (nI ((Ql s).length + 1))) (uQ s (Ql s ++ [x])) ∧ DZ (sI (sA h 30 (va_cpy (hI h 18) (hI h 30) 0 ((Ql s).length * 9) 9)) 19 12 (nI ((Ql s).length + 1))) (uQ s (Ql s ++ [x])) ∧ FrC h (sI (sA h 30 (va_cpy (hI h 18) (hI h 30) 0 ((Ql s).length * 9) 9)) 19 12 (nI ((Ql s).length + 1))) := by
  obtain ⟨q1, q2⟩ := R.2.2.2.2.2.2.2
  have ag : ∀ o k, o ≠ 30 → ¬ (o = 19 ∧ k = 12) → hI (sI (sA h 30 (va_cpy (hI h 18) (hI h 30) 0 ((Ql s).length * 9) 9)) 19 12 (nI ((Ql s).length + 1))) o k = hI h o k := by
    intro o k h1 h2
    rw [x_ne h2, x_neA h1]
  refine ⟨RC_Q R rfl ag ⟨?_, ?_⟩, DZ_Q D (fun k => ag 26 k (by omega) (by omega)), FrC_Q rfl ag⟩
  · rw [x_eq, Q_uQ, List.length_append]; rfl
  · intro k j hk hj
    rw [Q_uQ] at hk ⊢
    have hk' : k < (Ql s).length + 1 := by rw [List.length_append] at hk; exact hk
    rw [x_ne (by omega), x_eqA]
    unfold va_cpy
    by_cases c : k = (Ql s).length
    · subst c
      rw [getD_append_r, if_pos (by omega), show 0 + (9 * (Ql s).length + j - (Ql s).length * 9) = j by omega]; exact T j hj
    · rw [getD_append_l (show k < (Ql s).length by omega), if_neg (by omega)]; exact q2 k j (by omega) hj
theorem sGo_done {set : Nat} {s : St} (h : qFirst s set = none) (n : Nat) : sGo set n s = s := by
  cases n with
  | zero => rfl
  | succ n => rw [sGo, h]
theorem c_goLoop (I : St → Prop) (hO : ∀ s, I s → OkC s) {l set H4 : Nat} (hl : l < 512) (hset : l % H4 = set) (hT : HT I set) (n : Nat) : ∀ (h : AH) (s : St) (f m : Nat), I s → RC h s → DZ h s → N s 0 4 = H4 → (∀ s i, I s → N (sTake s ((Ql s).getD i x0)).2 0 4 = N s 0 4) → (Ql s).length ≤ n → (Ql s).length < m → n ≤ 32 →
    ∃ h', f_X4_receive_L81 (f + (n + 2)) h 19 (nI l) (nI 1) (nI n) = some h' ∧ RC h' (sGo set m s) ∧ DZ h' (sGo set m s) ∧ FrC h h' := by
  induction n with
  | zero =>
    intro h s f m iI R D e4 ht hn hm h32
    have q0 : qFirst s set = none := by
      unfold qFirst
      rw [show (Ql s).length = 0 by omega]; rfl
    rw [← Nat.add_assoc, f_X4_receive_L81, if_neg (show ¬ nI 1 = 0 from by decide), if_pos (show nI 0 ≤ 0 from by decide), sGo_done q0]
    exact ⟨h, rfl, R, D, FrC_rfl h⟩
  | succ n ih =>
    intro h s f m iI R D e4 ht hn hm h32
    have L := RC_L R
    obtain ⟨B, H, C, q32, Q, T, hp⟩ := hO s iI
    obtain ⟨s1, s2, _, _⟩ := RC_s R
    obtain ⟨a, ha, e2⟩ := B.2.2.2.2.1
    have hb := bz_hsets B
    have hs64 : set < 64 := by rw [← hset, ← e4]; exact hset_lt B l
    have n1 : ¬ nI (n + 1) ≤ 0 := by rw [show (0 : Int32) = nI 0 from rfl, q_le (by omega) (by omega)]; omega
    have stop : ∀ (h1 : AH), f_X4_receive_L81 (f + (n + 2)) h1 19 (nI l) 0 (nI n) = some h1 := by
      intro h1
      rw [← Nat.add_assoc, f_X4_receive_L81, if_pos rfl]
    have m1 : nI (n + 1) + (-1 : Int32) = nI n := by
      rw [← q_add, show nI 1 = (1 : Int32) from rfl, Int32.add_assoc, show (1 : Int32) + (-1) = 0 from rfl, Int32.add_zero]
    rw [show f + (n + 1 + 2) = f + (n + 2) + 1 by omega, f_X4_receive_L81, if_neg (show ¬ nI 1 = 0 from by decide), if_neg n1, y_gs, if_pos (lc_S19 L), s1, show (1 : Int32) = nI 1 from rfl, q_msk e2 (by omega) (by omega), e4, hset, c_firstAt R B Q hs64 q32, y_bds]
    obtain ⟨m, rfl⟩ : ∃ m', m = m' + 1 := ⟨m - 1, by omega⟩
    rw [sGo]
    cases e : qFirst s set with
    | none =>
      rw [show oI none = nN from rfl, if_pos (show nN < 0 from by decide)]
      unfold f_X4_receive_L126 f_X4_receive_L127 f_X4_receive_L140
      rw [if_pos rfl, y_lt, m1, stop]
      exact ⟨h, rfl, R, D, FrC_rfl h⟩
    | some i =>
      obtain ⟨_, g2, _, _⟩ := fst_some e
      have hi : i < (Ql s).length := by omega
      obtain ⟨w1, w2, w3⟩ := Q i hi
      obtain ⟨b, eb, Rb, Db, Fb⟩ := c_take R D B H C hi q32 rfl w1 w2 w3 (T i hi) hp
      rw [oI_s, if_neg (lt0 (show i < 2 ^ 31 by omega)), show (9 : Int32) = nI 9 from rfl, q_mul, eb, y_bds]
      have hq := sTake_Q s ((Ql s).getD i x0)
      have tk := hT s i iI e
      have ht' := ht s i iI
      cases e1 : (sTake s ((Ql s).getD i x0)).1 with
      | false =>
        rw [if_pos (show bI false = 0 from rfl)]
        unfold f_X4_receive_L126 f_X4_receive_L127 f_X4_receive_L140
        rw [if_pos rfl, y_lt, m1, stop]
        simp only [e1, Bool.false_eq_true, ↓reduceIte]
        exact ⟨b, rfl, Rb, Db, Fb⟩
      | true =>
        rw [if_neg (show ¬ bI true = 0 from by decide)]
        unfold f_X4_receive_L127 f_X4_receive_L140
        have Lb := RC_L Rb
        rw [if_neg (show ¬ nI 1 = 0 from by decide), y_gs, if_pos (lc_S19 Lb)]
        obtain ⟨d, ed, Rd, Dd, Fd⟩ := c_leaveQueue Rb Db (i := i) (by rw [hq]; exact hi) (by rw [hq]; exact q32)
        rw [hq] at Rd Dd
        rw [ed, y_bds, y_lt, m1]
        simp only [e1, ↓reduceIte]
        obtain ⟨g, eg, Rg, Dg, Fg⟩ := ih d _ f m (tk e1) Rd Dd (by rw [N_uQ, ht', e4]) ht (by rw [Q_uQ, List.length_eraseIdx_of_lt hi]; omega) (by rw [Q_uQ, List.length_eraseIdx_of_lt hi]; omega) (by omega)
        exact ⟨g, eg, Rg, Dg, FrC_tr Fb (FrC_tr Fd Fg)⟩
theorem sTake_0 (s : St) (x : Msg) (i : Nat) : N (sTake s x).2 0 i = N s 0 i := by
  have hf : N (sFind s (mLi x)).2 0 i = N s 0 i := by
    unfold sFind
    split
    · unfold sFill; rw [N_uW, N_ne (by omega), N_ne (by omega), N_ne (by omega), N_ne (by omega), N_ne (by omega), N_ne (by omega)]
    · split
      · rfl
      · split
        · show N (sFill _ _ _) _ _ = _
          unfold sFill; rw [N_uW, N_ne (by omega), N_ne (by omega), N_ne (by omega), N_ne (by omega), N_ne (by omega), N_ne (by omega)]
          unfold sWb; split <;> rfl
        · show N (sRecall _ _) _ _ = _
          unfold sRecall; rw [sCall_N _ _ _ _ _ _ _ _ (by omega), N_ne (by omega), N_ne (by omega), N_ne (by omega)]
  unfold sTake
  split
  · split
    · rfl
    · split
      · exact sPut_N s (by omega)
      · exact sServe_N s (Or.inl rfl) (Or.inl rfl)
  · split
    · exact sPut_N s (by omega)
    · split
      · next e => rw [e] at hf; exact (sServe_N _ (Or.inl rfl) (Or.inl rfl)).trans hf
      · next e => rw [e] at hf; exact hf
theorem c_goOn (I : St → Prop) (hO : ∀ s, I s → OkC s) {l : Nat} (hl : l < 512) {h : AH} {s : St} (hT : HT I (l % N s 0 4)) (iI : I s) (R : RC h s) (D : DZ h s) :
    ∃ h', f_X4_receive_L77 h 19 (nI l) (nI 1) = some h' ∧ RC h' (sGoOn s (l % N s 0 4)) ∧ DZ h' (sGoOn s (l % N s 0 4)) ∧ FrC h h' := by
  obtain ⟨f, hf⟩ : ∃ f, FU = f + (32 + 2) := ⟨4294967262, rfl⟩
  have q32 := (hO s iI).2.2.2.1
  obtain ⟨a, ea, Ra, Da, Fa⟩ := c_goLoop I hO hl rfl hT 32 h s f ((Ql s).length + 1) iI R D rfl (fun s i _ => sTake_0 s _ 4) q32 (by omega) (by omega)
  refine ⟨a, ?_, Ra, Da, Fa⟩
  unfold f_X4_receive_L77
  rw [y_lt, hf, show (32 : Int32) = nI 32 from rfl, ea]
