theorem sWay_out (s : St) (i c l : Nat) : sWay (sOut s i) c l = sWay s c l := sWay_congr (fun j => N_out s i 0 j (by omega)) (fun j => N_out s i 1 j (by omega)) (fun j => N_out s i 2 j (by omega)) c l
theorem sHas_iff {s : St} {c l : Nat} (hc : c < 16) : sHas s c l = true ↔ 2 ≤ vS s l c ∨ (vF s c = l + 1 ∧ N s 14 c = 0) := by
  unfold sHas vS vF
  rw [if_pos hc, if_pos hc, Bool.or_eq_true, Bool.and_eq_true, decide_eq_true_eq, decide_eq_true_eq]
  cases sWay s c l with
  | none => simp
  | some k =>
    show (decide (1 < N s 2 k) = true ∨ _) ↔ (2 ≤ N s 2 k ∨ _)
    rw [decide_eq_true_eq]
    exact Iff.rfl
theorem IV_answer {s : St} {b i c l v : Nat} (I : IV s b) (hi : i < (Pl s).length) (hx : isP ((Pl s).getD i x0)) (hl' : mLi ((Pl s).getD i x0) = l) (hc' : pc ((Pl s).getD i x0) = c) (hk : (v = 0 ∧ mKi ((Pl s).getD i x0) = 3) ∨ (v = 1 ∧ mKi ((Pl s).getD i x0) = 4)) : IV (sState (sAnswer (sOut s i) c l) c l v) b := by
  obtain ⟨⟨B, hb⟩, ⟨L, W4'⟩, M, LL, Rg, Q, W, D, O1, O2, O3, O4, O5, O6, O7, O8⟩ := I
  obtain ⟨d1, d2, d3, d4, d5, d6, d7⟩ := D
  have xm : (Pl s).getD i x0 ∈ Z s := List.mem_append_left _ (getD_mem hi)
  have xw := M.2.1 _ xm
  have kx : key ((Pl s).getD i x0) = 32 + 16 * l + c := by rw [key_p hx, hl', hc']
  have tkx : tk s l c = mKi ((Pl s).getD i x0) := by
    have := tk_of M B xm hx
    rw [hl', hc'] at this
    rw [this]; unfold tcode; rw [if_neg (by omega)]
  have hc : c < N s 0 0 := by
    rw [← hc']; unfold pc; rw [if_neg (by omega)]
    obtain ⟨_, _, h3⟩ := xw; omega
  have c16 : c < 16 := by have := B.1.2; omega
  have hl : l < 512 := by rw [← hl']; exact xw.1
  generalize hxe : (Pl s).getD i x0 = x at *
  -- the answer
  have hasE : sHas (sOut s i) c l = true ↔ 2 ≤ vS s l c ∨ (vF s c = l + 1 ∧ N s 14 c = 0) := by
    rw [sHas_iff c16]
    have e1 : vS (sOut s i) l c = vS s l c := by unfold vS; rw [sWay_out]; rfl
    have e2 : vF (sOut s i) c = vF s c := rfl
    rw [e1, e2]; rfl
  let y : Msg := if sHas (sOut s i) c l = true then (5, c, 16, l, 1, Wda (sOut s i) 0 l) else (5, c, 16, l, 0, w0)
  have yk : mKi y = 5 := by show mKi (if _ then _ else _) = 5; split <;> rfl
  have yf : mFr y = c := by show mFr (if _ then _ else _) = c; split <;> rfl
  have yt : mTo y = 16 := by show mTo (if _ then _ else _) = 16; split <;> rfl
  have yl : mLi y = l := by show mLi (if _ then _ else _) = l; split <;> rfl
  have yfi : mFi y = if sHas (sOut s i) c l = true then 1 else 0 := by show mFi (if _ then _ else _) = _; split <;> rfl
  have yw : sHas (sOut s i) c l = true → mWo y = Wda s 0 l := by intro h; show mWo (if _ then _ else _) = _; rw [if_pos h]; rfl
  have yp : isP y := by unfold isP; omega
  have ypc : pc y = c := by unfold pc; rw [if_pos (Or.inl yk)]; exact yf
  have yky : key y = 32 + 16 * l + c := by rw [key_p yp, yl, ypc]
  have ytc : tcode y = if 2 ≤ vS s l c ∨ (vF s c = l + 1 ∧ N s 14 c = 0) then 11 else 5 := by
    unfold tcode
    rw [yfi]
    by_cases e : sHas (sOut s i) c l = true
    · rw [if_pos (⟨yk, by rw [if_pos e]⟩ : mKi y = 5 ∧ (if sHas (sOut s i) c l = true then 1 else 0) = 1), if_pos (hasE.mp e)]
    · rw [if_neg (fun g => by rw [if_neg e] at g; omega), if_neg (fun g => e (hasE.mpr g)), yk]
  obtain ⟨nk', mm', Z'⟩ := mm_swap (y := y) M.1 hi (by rw [yky, hxe, kx])
  -- the state after it
  generalize ht : sState (sAnswer (sOut s i) c l) c l v = t
  have tN : ∀ F j, F ≠ 2 → F ≠ 14 → F ≠ 18 → N t F j = N s F j := by
    intro F j h1 h2 h3
    rw [← ht]; unfold sState
    split
    · rw [sAnswer_N _ _ _ _ _ h2, N_out _ _ _ _ h3]
    · rw [N_ne (by omega), sAnswer_N _ _ _ _ _ h2, N_out _ _ _ _ h3]
  have t14 : ∀ d, N t 14 d = if d = c ∧ vF s c = l + 1 then 1 else N s 14 d := by
    intro d
    have vfc : vF s c = N s 13 c := by unfold vF; rw [if_pos c16]
    have base : N (sAnswer (sOut s i) c l) 14 d = if d = c ∧ vF s c = l + 1 then 1 else N s 14 d := by
      unfold sAnswer sGone
      rw [N_post, vfc]
      show N (if N (sOut s i) 13 c = l + 1 then uN (sOut s i) 14 c 1 else sOut s i) 14 d = _
      rw [N_out _ _ _ _ (by omega)]
      by_cases e : N s 13 c = l + 1
      · rw [if_pos e, N_uN]
        by_cases e2 : d = c
        · rw [if_pos ⟨rfl, e2⟩, if_pos ⟨e2, e⟩]
        · rw [if_neg (fun g => e2 g.2), if_neg (fun g => e2 g.1), N_out _ _ _ _ (by omega)]
      · rw [if_neg e, if_neg (fun g => e g.2), N_out _ _ _ _ (by omega)]
    rw [← ht]; unfold sState
    split
    · exact base
    · rw [N_ne (by omega)]; exact base
  have tP : Pl t = Pl (sPost (sOut s i) y) := by
    rw [← ht]; unfold sState
    have : Pl (sAnswer (sOut s i) c l) = Pl (sPost (sOut s i) y) := by
      unfold sAnswer sGone
      show Pl (if _ then _ else _) ++ [_] = Pl (sOut s i) ++ [_]
      congr 1
      split <;> rfl
    split
    · exact this
    · exact this
  have tQ : Ql t = Ql s := by
    rw [← ht]; unfold sState
    have : Ql (sAnswer (sOut s i) c l) = Ql s := by
      unfold sAnswer sGone
      show Ql (if _ then _ else _) = Ql s
      split <;> rfl
    split
    · exact this
    · exact this
  have tZ : Z t = Z (sPost (sOut s i) y) := by unfold Z; rw [tP, tQ]; rfl
  have tmm : ∀ κ, mm t κ = if κ = 32 + 16 * l + c then some y else mm s κ := by
    intro κ; unfold mm; rw [tZ]; rw [← yky]; exact mm' κ
  have tW : ∀ F j, Wda t F j = Wda s F j := by
    intro F j
    rw [← ht]; unfold sState
    have : Wda (sAnswer (sOut s i) c l) F j = Wda s F j := by
      unfold sAnswer sGone
      show Wda (if _ then _ else _) F j = Wda s F j
      split <;> rfl
    split
    · exact this
    · exact this
  have t0 : ∀ j, N t 0 j = N s 0 j := fun j => tN 0 j (by omega) (by omega) (by omega)
  have t1 : ∀ j, N t 1 j = N s 1 j := fun j => tN 1 j (by omega) (by omega) (by omega)
  have t4 : ∀ j, N t 4 j = N s 4 j := fun j => tN 4 j (by omega) (by omega) (by omega)
  have sw : sWay (sAnswer (sOut s i) c l) c l = sWay s c l := (sWay_congr (fun j => sAnswer_N _ c l 0 j (by omega)) (fun j => sAnswer_N _ c l 1 j (by omega)) (fun j => sAnswer_N _ c l 2 j (by omega)) c l).trans (sWay_out s i c l)
  -- the slots: as those of s with one state changed
  have t2 : ∀ j, N t 2 j = match sWay s c l with | none => N s 2 j | some k => N (uN s 2 k v) 2 j := by
    intro j
    rw [← ht]; unfold sState
    rw [sw]
    cases sWay s c l with
    | none => show N (sAnswer _ _ _) 2 j = N s 2 j; rw [sAnswer_N _ _ _ _ _ (by omega), N_out _ _ _ _ (by omega)]
    | some k =>
      show N (uN (sAnswer _ _ _) 2 k v) 2 j = N (uN s 2 k v) 2 j
      rw [N_uN, N_uN]
      split
      · rfl
      · rw [sAnswer_N _ _ _ _ _ (by omega), N_out _ _ _ _ (by omega)]
  have Bt' : Bz t := by unfold Bz; simp only [t0]; exact B
  have im : ∀ j, N t 2 j ≠ 0 → N s 2 j ≠ 0 := by
    intro j hj
    rw [t2] at hj
    cases e : sWay s c l with
    | none => rw [e] at hj; exact hj
    | some k =>
      rw [e] at hj
      have hj' : N (uN s 2 k v) 2 j ≠ 0 := hj
      rw [N_uN] at hj'
      split at hj'
      · next g => rw [g.2]; exact ((sWay_iff B L c16).mp e).2.2.1
      · exact hj'
  have sset : ∀ d l', sSet t d l' = sSet s d l' := by intro d l'; unfold sSet; rw [t0, t0]
  have L' : Sl t := by
    refine ⟨fun j hj h => ?_, fun j j' hj hj' h h' => ?_⟩
    · rw [t0, t1, t0, sset]; exact L.1 j hj (im j h)
    · rw [t1, t1]; exact L.2 j j' hj hj' (im j h) (im j' h')
  have hset : ∀ l', hSet t l' = hSet s l' := by intro l'; unfold hSet; rw [t0]
  have Wl' : Wl t := by
    refine ⟨fun j hj h => ?_, fun j j' hj hj' h h' => ?_⟩
    · rw [t4] at h; rw [t4, hset, t0]; exact W4'.1 j hj h
    · rw [t4] at h; rw [t4, t4] at h'; exact W4'.2 j j' hj hj' h h'
  have hw : ∀ l', hWay t l' = hWay s l' := by
    intro l'; unfold hWay; rw [hset, t0]
    exact fst_congr (fun j _ _ => by rw [t4])
  have thv : ∀ l' F, F ≠ 2 → F ≠ 14 → F ≠ 18 → hv t l' F = hv s l' F := by
    intro l' F h1 h2 h3; unfold hv; rw [hw]
    cases hWay s l' with
    | none => rfl
    | some k => exact tN F k h1 h2 h3
  have tvX : ∀ l', vX t l' = vX s l' := by intro l'; unfold vX; rw [hw]
  have tvB : ∀ l' d, vB t l' d = vB s l' d := by intro l' d; unfold vB; rw [thv l' 7 (by omega) (by omega) (by omega)]
  have tvR : ∀ d, vR t d = vR s d := by intro d; unfold vR; rw [tN 12 d (by omega) (by omega) (by omega)]
  have tvF : ∀ d, vF t d = vF s d := by intro d; unfold vF; rw [tN 13 d (by omega) (by omega) (by omega)]
  have tvU : ∀ d, vU t d = vU s d := by
    intro d
    by_cases g : d < 16
    · exact vU_mm (by rw [tmm, if_neg (by omega)])
    · unfold vU; rw [if_neg g, if_neg g]
  have ttk : ∀ l' d, tk t l' d = if l' = l ∧ d = c then (if 2 ≤ vS s l c ∨ (vF s c = l + 1 ∧ N s 14 c = 0) then 11 else 5) else tk s l' d := by
    intro l' d
    by_cases g : d < 16
    · by_cases e : l' = l ∧ d = c
      · rw [if_pos e]; unfold tk; rw [if_pos g, tmm, if_pos (by omega)]; exact ytc
      · rw [if_neg e]; exact tk_mm (by rw [tmm, if_neg (by omega)])
    · unfold tk; rw [if_neg g, if_neg g, if_neg (by omega)]
  have tvS : ∀ l' d, vS t l' d = if l' = l ∧ d = c then (if vS s l c = 0 then 0 else v) else vS s l' d := by
    intro l' d
    cases e : sWay s c l with
    | none =>
      have z : vS s l c = 0 := by unfold vS; rw [if_pos c16, e]
      have same : vS t l' d = vS s l' d := by
        have e2 : ∀ j, N t 2 j = N s 2 j := fun j => by rw [t2, e]
        unfold vS
        rw [sWay_congr t0 t1 e2 d l']
        cases sWay s d l' with
        | none => rfl
        | some k => show (if d < 16 then N t 2 k else 0) = (if d < 16 then N s 2 k else 0); rw [e2]
      rw [same]
      by_cases g : l' = l ∧ d = c
      · rw [if_pos g, if_pos z, g.1, g.2]; exact z
      · rw [if_neg g]
    | some k =>
      obtain ⟨k1, k2, k3, k4⟩ := (sWay_iff B L c16).mp e
      have nz : vS s l c = N s 2 k := by unfold vS; rw [if_pos c16, e]
      have e2 : ∀ j, N t 2 j = N (uN s 2 k v) 2 j := fun j => by rw [t2, e]
      have same : vS t l' d = vS (uN s 2 k v) l' d := by
        have sc := sWay_congr (s := uN s 2 k v) (t := t) (fun j => t0 j) (fun j => t1 j) e2 d l'
        unfold vS
        rw [sc]
        cases sWay (uN s 2 k v) d l' with
        | none => rfl
        | some q => show (if d < 16 then N t 2 q else 0) = (if d < 16 then N (uN s 2 k v) 2 q else 0); rw [e2]
      rw [same, vS_set B L k1 k3, k2, k4]
      by_cases g : l' = l ∧ d = c
      · rw [if_pos ⟨g.2, g.1⟩, if_pos g, if_neg (by rw [nz]; exact k3)]
      · rw [if_neg (fun w => g ⟨w.2, w.1⟩), if_neg g]
  refine ⟨⟨Bt', hb⟩, ⟨L', Wl'⟩, ⟨by rw [tZ]; exact nk', fun z hz => ?_, by rw [tQ]; exact M.2.2⟩, fun l' hl2 => ?_, ⟨fun j hj => ?_, fun d hd => ?_, fun j hj h => ?_, fun j hj h => ?_⟩, fun z hz => ?_, fun d l' hd h12 hwn => ?_, ⟨fun l' j hwj h6 => ?_, fun l' hl' hwn => ?_, fun l' j hwj h5 => ?_, fun z hz => ?_, fun j hj h => ?_, fun d l' hd h13 h14 hu => ?_, fun l' j d hwj htk => ?_⟩, ?_, ?_, ?_, ?_, ?_, ?_, ?_, ?_⟩
  · rw [tZ] at hz
    rw [t0]
    rcases (Z' z).mp hz with g | g
    · exact M.2.1 z g.1
    · subst g
      exact ⟨by rw [yl]; exact hl, by rw [yfi]; split <;> omega, Or.inl ⟨by omega, by rw [yf]; exact hc, yt⟩⟩
  · by_cases e : l' = l
    · subst e
      rcases hk with ⟨hv0, hk3⟩ | ⟨hv1, hk4⟩
      · refine LI_eq (LI_inv (c := c) (T' := fun d => if d = c then (if 2 ≤ vS s l' c ∨ (vF s c = l' + 1 ∧ N s 14 c = 0) then 11 else 5) else tk s l' d) (S' := fun d => if d = c then 0 else vS s l' d) (G' := fun d => if d = c ∧ vF s c = l' + 1 then 1 else N s 14 d) (LL _ hl2) (by rw [tkx]; exact hk3) (fun _ => rfl) (fun _ => rfl) (fun _ => rfl)) (fun d => ?_) (fun d => ?_) tvR tvF t14 tvU (fun d => tvB _ d) (tvX _) (thv _ 6 (by omega) (by omega) (by omega)) (thv _ 8 (by omega) (by omega) (by omega)) (thv _ 10 (by omega) (by omega) (by omega)) (thv _ 9 (by omega) (by omega) (by omega))
        · rw [ttk]
          by_cases g : d = c
          · rw [if_pos ⟨rfl, g⟩]; show _ = if d = c then _ else _; rw [if_pos g]
          · rw [if_neg (fun w => g w.2)]; show _ = if d = c then _ else _; rw [if_neg g]
        · rw [tvS]
          by_cases g : d = c
          · rw [if_pos ⟨rfl, g⟩, hv0]; show _ = if d = c then _ else _; rw [if_pos g]; split <;> rfl
          · rw [if_neg (fun w => g w.2)]; show _ = if d = c then _ else _; rw [if_neg g]
      · have hh : 2 ≤ vS s l' c ∨ (vF s c = l' + 1 ∧ N s 14 c = 0) := by
          have t4' : tk s l' c = 4 := by rw [tkx]; exact hk4
          obtain ⟨hX, _, _, _, hO, _, _⟩ := ph_4 (LL l' hl2) t4'
          have p4 := (LL l' hl2).2.2.2.2.2.1 hX c hO
          rcases p4 with w | w | w | w | w
          · exact Or.inl w
          · exact Or.inr ⟨w.1, w.2.1⟩
          · omega
          · omega
          · omega
        refine LI_eq (LI_down (c := c) (T' := fun d => if d = c then 11 else tk s l' d) (S' := fun d => if d = c then (if vS s l' c = 0 then 0 else 1) else vS s l' d) (G' := fun d => if d = c ∧ vF s c = l' + 1 then 1 else N s 14 d) (LL _ hl2) (by rw [tkx]; exact hk4) (fun _ => rfl) (fun _ => rfl) (fun _ => rfl)) (fun d => ?_) (fun d => ?_) tvR tvF t14 tvU (fun d => tvB _ d) (tvX _) (thv _ 6 (by omega) (by omega) (by omega)) (thv _ 8 (by omega) (by omega) (by omega)) (thv _ 10 (by omega) (by omega) (by omega)) (thv _ 9 (by omega) (by omega) (by omega))
        · rw [ttk]
          by_cases g : d = c
          · rw [if_pos ⟨rfl, g⟩, if_pos hh]; show _ = if d = c then _ else _; rw [if_pos g]
          · rw [if_neg (fun w => g w.2)]; show _ = if d = c then _ else _; rw [if_neg g]
        · rw [tvS]
          by_cases g : d = c
          · rw [if_pos ⟨rfl, g⟩, hv1]; show _ = if d = c then _ else _; rw [if_pos g]
          · rw [if_neg (fun w => g w.2)]; show _ = if d = c then _ else _; rw [if_neg g]
    · unfold LIs
      rw [tvX, thv _ 6 (by omega) (by omega) (by omega), thv _ 8 (by omega) (by omega) (by omega), thv _ 10 (by omega) (by omega) (by omega), thv _ 9 (by omega) (by omega) (by omega)]
      refine LI_frame (LL l' hl2) (fun d => by rw [ttk, if_neg (fun g => e g.1)]) (fun d => by rw [tvS, if_neg (fun g => e g.1)]) (fun d => tvB _ d) (fun d => by rw [tvF]) (fun d hd => ?_) (fun d hd => by rw [tvR] at hd; exact hd) (fun d _ _ _ _ hd => by rw [tvR]; exact hd)
      rw [t14, if_neg, tvU]
      · exact ⟨rfl, Iff.rfl⟩
      · rintro ⟨g1, g2⟩
        rw [g1] at hd; omega
  · obtain ⟨a1, a2, a3, a4, a5, a6, a7, a8, a9, a10, a11, a12, a13⟩ := Rg.1 j hj
    refine ⟨by rw [t1]; exact a1, ?_, by rw [tN 3 _ (by omega) (by omega) (by omega)]; exact a3, by rw [t4]; exact a4, by rw [tN 5 _ (by omega) (by omega) (by omega)]; exact a5, by rw [tN 6 _ (by omega) (by omega) (by omega)]; exact a6, by rw [tN 7 _ (by omega) (by omega) (by omega)]; exact a7, by rw [tN 8 _ (by omega) (by omega) (by omega)]; exact a8, by rw [tN 9 _ (by omega) (by omega) (by omega)]; exact a9, by rw [tN 10 _ (by omega) (by omega) (by omega)]; exact a10, by rw [tN 11 _ (by omega) (by omega) (by omega)]; exact a11, by rw [tN 21 _ (by omega) (by omega) (by omega)]; exact a12, by rw [tN 23 _ (by omega) (by omega) (by omega)]; exact a13⟩
    rw [t2]
    cases sWay s c l with
    | none => exact a2
    | some k =>
      show N (uN s 2 k v) 2 j ≤ 3
      rw [N_uN]; split
      · omega
      · exact a2
  · obtain ⟨a1, a2, a3, a4⟩ := Rg.2.1 d hd
    rw [tN 12 _ (by omega) (by omega) (by omega), tN 13 _ (by omega) (by omega) (by omega), t14, t0]
    refine ⟨a1, a2, ?_, a4⟩
    split <;> omega
  · rw [t4] at h
    rw [tN 6 _ (by omega) (by omega) (by omega), tN 7 _ (by omega) (by omega) (by omega), t0]
    exact Rg.2.2.1 j hj h
  · rw [t4] at h
    rw [tN 8 _ (by omega) (by omega) (by omega)]
    exact Rg.2.2.2 j hj h
  · rw [tZ] at hz
    rcases (Z' z).mp hz with g | g
    · obtain ⟨q1, q2, q3⟩ := Q z g.1
      rw [tN 12 _ (by omega) (by omega) (by omega), tN 13 _ (by omega) (by omega) (by omega), tN 13 _ (by omega) (by omega) (by omega)]
      refine ⟨fun h => ⟨(q1 h).1, fun l' hX hA => ?_⟩, q2, q3⟩
      rw [tvX] at hX
      rw [thv _ 8 (by omega) (by omega) (by omega)] at hA
      have := (q1 h).2 l' hX hA
      rw [ttk, if_neg]
      · exact this
      · rintro ⟨g1, g2⟩
        rw [g1, g2, tkx] at this; omega
    · subst g
      exact ⟨fun h => by omega, fun h => by omega, fun h => by omega⟩
  · rw [tN 12 _ (by omega) (by omega) (by omega)] at h12
    have sf : sFree s d l' ≠ none → sFree t d l' ≠ none := by
      intro h g
      apply h
      refine fst_none.mpr (fun j h1 h2 => ?_)
      have := fst_none.mp g j (by rw [sset]; exact h1) (by rw [sset, t0]; exact h2)
      simp only [decide_eq_false_iff_not] at this ⊢
      exact im j this
    by_cases e : sWay s d l' = none
    · exact sf (W d l' hd h12 e)
    · cases e2 : sWay s d l' with
      | none => exact absurd e2 e
      | some k =>
        obtain ⟨k1, k2, k3, k4⟩ := (sWay_iff B L hd).mp e2
        have kn := (sWay_no Bt' L' hd).mp hwn k k1 k2
        have z : N t 2 k = 0 := by
          by_cases z : N t 2 k = 0
          · exact z
          · exact absurd (by rw [t1]; exact k4) (kn z)
        obtain ⟨_, _, k5, k6⟩ := L.1 k k1 k3
        rw [k2, k4] at k5 k6
        exact sFree_ne (k := k) (by rw [sset]; exact k5) (by rw [sset, t0]; exact k6) z
  · rw [hw] at hwj
    rw [tN 6 _ (by omega) (by omega) (by omega)] at h6
    rw [tW, tW]; exact d1 l' j hwj h6
  · rw [hw] at hwn
    rw [tW, tW]; exact d2 l' hl' hwn
  · rw [hw] at hwj
    rw [tN 5 _ (by omega) (by omega) (by omega)] at h5
    rw [tW, tW]; exact d3 l' j hwj h5
  · rw [tZ] at hz
    rcases (Z' z).mp hz with g | g
    · obtain ⟨q1, q2, q3⟩ := d4 z g.1
      rw [tW]
      refine ⟨q1, q2, fun h h14 => ?_⟩
      rw [t14] at h14
      split at h14
      · omega
      · exact q3 h h14
    · subst g
      rw [tW, yl]
      refine ⟨fun h => by omega, fun _ hf => ?_, fun h => by omega⟩
      refine yw ?_
      rw [yfi] at hf
      split at hf
      · assumption
      · omega
  · rw [tW, tW, t1]; exact d5 j hj (im j h)
  · rw [tN 13 _ (by omega) (by omega) (by omega)] at h13
    rw [tvU] at hu
    rw [t14] at h14
    rw [tW, tW]
    split at h14
    · omega
    · exact d6 d l' hd h13 h14 hu
  · rw [hw] at hwj
    rw [tW, tW]
    rw [ttk] at htk
    split at htk
    · exfalso
      split at htk <;> omega
    · exact d7 l' j d hwj htk
  · intro j j' hj hj' g g' hd
    rw [tN 3 _ (by omega) (by omega) (by omega), tN 3 _ (by omega) (by omega) (by omega), tN 21 _ (by omega) (by omega) (by omega), tN 21 _ (by omega) (by omega) (by omega)]
    exact O1 j j' hj hj' (im j g) (im j' g') hd
  · intro j hj g
    rw [tN 3 _ (by omega) (by omega) (by omega), tN 16 _ (by omega) (by omega) (by omega), tN 21 _ (by omega) (by omega) (by omega), tN 22 _ (by omega) (by omega) (by omega)]
    exact O2 j hj (im j g)
  · intro j j' hj hj' he he' g g'
    rw [t4] at g g'
    rw [tN 11 _ (by omega) (by omega) (by omega), tN 11 _ (by omega) (by omega) (by omega), tN 23 _ (by omega) (by omega) (by omega), tN 23 _ (by omega) (by omega) (by omega)]
    exact O3 j j' hj hj' he he' g g'
  · intro j hj he g
    rw [t4] at g
    rw [tN 11 _ (by omega) (by omega) (by omega), tN 17 _ (by omega) (by omega) (by omega), tN 23 _ (by omega) (by omega) (by omega), tN 24 _ (by omega) (by omega) (by omega)]
    exact O4 j hj he g
  · have : cn (vR t) 16 = cn (vR s) 16 := cn_congr (fun d _ => by rw [tvR])
    rw [this, tN 16 _ (by omega) (by omega) (by omega)]; exact O5
  · have : cn (vQ t) 16 = cn (vQ s) 16 := cn_congr (fun d hd => by
      have e : mm t d = mm s d := by rw [tmm, if_neg (by omega)]
      unfold vQ; rw [e])
    rw [this, tN 17 _ (by omega) (by omega) (by omega)]; exact O6
  · intro d hd
    rw [tN 22 _ (by omega) (by omega) (by omega), tN 16 _ (by omega) (by omega) (by omega)]; exact O7 d hd
  · rw [tN 24 _ (by omega) (by omega) (by omega), tN 17 _ (by omega) (by omega) (by omega)]; exact O8
