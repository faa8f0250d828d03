/-- a line that comes to a core -/
theorem IV_give {s : St} {b i c l : Nat} (I : IV s b) (hi : i < (Pl s).length) (hl' : mLi ((Pl s).getD i x0) = l) (hc' : mTo ((Pl s).getD i x0) = c) (hkd : mKi ((Pl s).getD i x0) = 6 ∨ mKi ((Pl s).getD i x0) = 7 ∨ mKi ((Pl s).getD i x0) = 8) :
    (∃ k, sAt (sOut s i) c l = some k) ∧ IV (sFillC (sOut s i) c l (mKi ((Pl s).getD i x0) - 5) (mWo ((Pl s).getD i x0))) b := by
  obtain ⟨⟨B, hb⟩, ⟨L, W4'⟩, M, LL, Rg, Q, W, D, O1, O2, O3, O4, O5, O6, O7, O8⟩ := I
  obtain ⟨d1, d2, d3, d4, d5, d6, d7⟩ := D
  have xm : (Pl s).getD i x0 ∈ Z s := List.mem_append_left _ (getD_mem hi)
  have xw := M.2.1 _ xm
  have hx : isP ((Pl s).getD i x0) := by unfold isP; omega
  have hpc : pc ((Pl s).getD i x0) = c := by unfold pc; rw [if_neg (by omega)]; exact hc'
  have kx : key ((Pl s).getD i x0) = 32 + 16 * l + c := by rw [key_p hx, hl', hpc]
  have tkx : tk s l c = mKi ((Pl s).getD i x0) := by
    have := tk_of M B xm hx
    rw [hl', hpc] at this
    rw [this]; unfold tcode; rw [if_neg (by omega)]
  have hc : c < N s 0 0 := by
    rw [← hc']
    obtain ⟨_, _, h3⟩ := xw; omega
  have c16 : c < 16 := by have := B.1.2; omega
  have hl : l < 512 := by rw [← hl']; exact xw.1
  have hw0 : mWo ((Pl s).getD i x0) = Wda s 0 l := by
    have := (d4 _ xm).1 hkd
    rw [hl'] at this; exact this
  generalize hxe : (Pl s).getD i x0 = x at *
  obtain ⟨hX, _, hA, hD, hz, g6, g7⟩ := ph_g (LL l hl) (c := c) (by omega)
  have hR : N s 12 c = l + 1 := by
    have := (LL l hl).2.2.2.2.2.2.2.2.2.2.2.2.1 hX c hA c16 (by omega)
    unfold vR at this; rw [if_pos c16] at this; exact this
  have hse := sSet_le B c l
  have ssO : sSet (sOut s i) c l = sSet s c l := by unfold sSet; rw [N_out _ _ _ _ (by omega), N_out _ _ _ _ (by omega)]
  have sfO : sFree (sOut s i) c l = sFree s c l := by
    unfold sFree; rw [ssO, N_out _ _ _ _ (by omega)]
    exact fst_congr (fun j _ _ => by rw [N_out _ _ _ _ (by omega)])
  have atk : ∃ k, sAt (sOut s i) c l = some k ∧ sSet s c l ≤ k ∧ k < sSet s c l + N s 0 3 ∧ (N s 2 k ≠ 0 → N s 1 k = l) ∧ (N s 2 k = 0 → sWay s c l = none) ∧ (sWay s c l = none ∨ sWay s c l = some k) := by
    unfold sAt
    rw [sWay_out, sfO]
    cases e : sWay s c l with
    | some k =>
      obtain ⟨h1, h2, h3, h4, h5⟩ := sWay_lt B c16 e
      exact ⟨k, rfl, h4, h5, fun _ => h3, fun g => by omega, Or.inr rfl⟩
    | none =>
      have f := W c l c16 hR e
      cases e2 : sFree s c l with
      | none => exact absurd e2 f
      | some k =>
        obtain ⟨h1, h2, h3, h4⟩ := fst_some e2
        have z : N s 2 k = 0 := by simpa using h3
        exact ⟨k, rfl, h1, h2, fun g => absurd z g, fun _ => rfl, Or.inl rfl⟩
  obtain ⟨k, ek, k1, k2, k3, k4, k5⟩ := atk
  refine ⟨⟨k, ek⟩, ?_⟩
  have k512 : k < 512 := by omega
  have kc : k / 32 = c := by omega
  have same : ∀ j, j < 512 → j / 32 = c → N s 2 j ≠ 0 → N s 1 j = l → j = k := by
    intro j h1 h2 h3 h4
    have := (sWay_iff B L c16).mpr ⟨h1, h2, h3, h4⟩
    rcases k5 with g | g
    · rw [g] at this; cases this
    · rw [g] at this; exact (Option.some.inj this).symm
  generalize hv0 : mKi x - 5 = v
  have v3 : 1 ≤ v ∧ v ≤ 3 := by omega
  let y : Msg := (10, c, 16, l, 0, w0)
  have yp : isP y := Or.inr (Or.inr (Or.inr (Or.inr (Or.inr (Or.inr rfl)))))
  have yky : key y = 32 + 16 * l + c := key_p yp
  obtain ⟨nk', mm', Z'⟩ := mm_swap (y := y) M.1 hi (by rw [yky, hxe, kx])
  generalize ht : sFillC (sOut s i) c l v (mWo x) = t
  have te : t = sSend (uN (sUse (uW (uN (uN (sOut s i) 1 k l) 2 k v) 4 k (mWo x)) k) 12 c 0) 10 c 16 l := by
    rw [← ht]; unfold sFillC; rw [ek]
  have tN : ∀ F j, ¬ ((F = 1 ∨ F = 2 ∨ F = 3 ∨ F = 21) ∧ j = k) → F ≠ 12 → F ≠ 16 → F ≠ 18 → F ≠ 22 → N t F j = N s F j := by
    intro F j h1 h2 h3 h4 h5
    rw [te]; unfold sSend sUse
    rw [N_post, N_ne (by omega), N_ne (by omega), N_ne (by omega), N_ne (by omega), N_ne (by omega), N_uW, N_ne (by omega), N_ne (by omega), N_out _ _ _ _ h4]
  have u22 : ∀ j, N (uW (uN (uN (sOut s i) 1 k l) 2 k v) 4 k (mWo x)) 22 j = N s 22 j := by
    intro j; rw [N_uW, N_ne (by omega), N_ne (by omega), N_out _ _ _ _ (by omega)]
  have u16 : N (uW (uN (uN (sOut s i) 1 k l) 2 k v) 4 k (mWo x)) 16 0 = N s 16 0 := by
    rw [N_uW, N_ne (by omega), N_ne (by omega), N_out _ _ _ _ (by omega)]
  have t1k : N t 1 k = l := by
    rw [te]; unfold sSend sUse
    rw [N_post, N_ne (by omega), N_ne (by omega), N_ne (by omega), N_ne (by omega), N_ne (by omega), N_uW, N_ne (by omega), N_eq]
  have t2k : N t 2 k = v := by
    rw [te]; unfold sSend sUse
    rw [N_post, N_ne (by omega), N_ne (by omega), N_ne (by omega), N_ne (by omega), N_ne (by omega), N_uW, N_eq]
  have t3k : N t 3 k = N s 16 0 + 1 := by
    rw [te]; unfold sSend sUse
    rw [N_post, N_ne (by omega), N_ne (by omega), N_ne (by omega), N_eq, u16]
  have t21k : N t 21 k = N s 22 c + 1 := by
    rw [te]; unfold sSend sUse
    rw [N_post, N_ne (by omega), N_eq, u22, kc]
  have t12 : ∀ d, N t 12 d = if d = c then 0 else N s 12 d := by
    intro d
    rw [te]; unfold sSend
    rw [N_post, N_uN]
    by_cases e : d = c
    · rw [if_pos ⟨rfl, e⟩, if_pos e]
    · rw [if_neg (fun g => e g.2), if_neg e]; unfold sUse
      rw [N_ne (by omega), N_ne (by omega), N_ne (by omega), N_ne (by omega), N_uW, N_ne (by omega), N_ne (by omega), N_out _ _ _ _ (by omega)]
  have t16 : N t 16 0 = N s 16 0 + 1 := by
    rw [te]; unfold sSend sUse
    rw [N_post, N_ne (by omega), N_ne (by omega), N_ne (by omega), N_ne (by omega), N_eq, u16]
  have t22 : ∀ d, N t 22 d = if d = c then N s 22 c + 1 else N s 22 d := by
    intro d
    rw [te]; unfold sSend sUse
    rw [N_post, N_ne (by omega), N_ne (by omega), kc, N_uN]
    by_cases e : d = c
    · rw [if_pos ⟨rfl, e⟩, if_pos e, u22]
    · rw [if_neg (fun g => e g.2), if_neg e, N_ne (by omega), N_ne (by omega), u22]
  have tP : Pl t = Pl (sPost (sOut s i) y) := by rw [te]; rfl
  have tQ : Ql t = Ql s := by rw [te]; rfl
  have tZ : Z t = Z (sPost (sOut s i) y) := by unfold Z; rw [tP, tQ]; rfl
  have tmm : ∀ κ, mm t κ = if κ = 32 + 16 * l + c then some y else mm s κ := by
    intro κ; unfold mm; rw [tZ]; rw [← yky]; exact mm' κ
  have tW : ∀ F j, F ≠ 4 ∨ j ≠ k → Wda t F j = Wda s F j := by
    intro F j h
    rw [te]
    show Wda (uW _ 4 k _) F j = _
    rw [W_ne (by omega)]; rfl
  have tWk : Wda t 4 k = Wda s 0 l := by
    rw [te]
    show Wda (uW _ 4 k _) 4 k = _
    rw [uW_at]; exact hw0
  have t0 : ∀ j, N t 0 j = N s 0 j := fun j => tN 0 j (by omega) (by omega) (by omega) (by omega) (by omega)
  have t4 : ∀ j, N t 4 j = N s 4 j := fun j => tN 4 j (by omega) (by omega) (by omega) (by omega) (by omega)
  have t1 : ∀ j, j ≠ k → N t 1 j = N s 1 j := fun j hj => tN 1 j (by omega) (by omega) (by omega) (by omega) (by omega)
  have t2 : ∀ j, j ≠ k → N t 2 j = N s 2 j := fun j hj => tN 2 j (by omega) (by omega) (by omega) (by omega) (by omega)
  have Bt' : Bz t := by unfold Bz; simp only [t0]; exact B
  have sset : ∀ d l', sSet t d l' = sSet s d l' := by intro d l'; unfold sSet; rw [t0, t0]
  have L' : Sl t := by
    refine ⟨fun j hj h => ?_, fun j j' hj hj' h h' hd h1 => ?_⟩
    · by_cases e : j = k
      · rw [e, t1k, kc, t0, t0, sset]; exact ⟨hc, hl, k1, k2⟩
      · rw [t2 j e] at h
        rw [t0, t1 j e, t0, sset]; exact L.1 j hj h
    · by_cases e : j = k
      · by_cases e' : j' = k
        · omega
        · rw [e, t1k, t1 j' e'] at h1
          rw [t2 j' e'] at h'
          rw [e, kc] at hd
          rw [e]; exact (same j' hj' hd.symm h' h1.symm).symm
      · by_cases e' : j' = k
        · rw [e', t1k, t1 j e] at h1
          rw [t2 j e] at h
          rw [e', kc] at hd
          rw [e']; exact same j hj hd h h1
        · rw [t1 j e, t1 j' e'] at h1
          rw [t2 j e] at h; rw [t2 j' e'] at h'
          exact L.2 j j' hj hj' h h' hd h1
  have hset : ∀ l', hSet t l' = hSet s l' := by intro l'; unfold hSet; rw [t0]
  have Wl' : Wl t := Wl_c t0 t4 W4'
  have hw : ∀ l', hWay t l' = hWay s l' := hWay_c t0 t4
  have thv : ∀ l' F, 4 ≤ F → F ≤ 11 → hv t l' F = hv s l' F := fun l' F h1 h2 => hv_c hw (fun j => tN F j (by omega) (by omega) (by omega) (by omega) (by omega)) l'
  have tvX : ∀ l', vX t l' = vX s l' := vX_c hw
  have tvB : ∀ l' d, vB t l' d = vB s l' d := by intro l' d; unfold vB; rw [thv l' 7 (by omega) (by omega)]
  have tvR : ∀ d, vR t d = if d = c then 0 else vR s d := by
    intro d; unfold vR
    by_cases e : d = c
    · rw [if_pos e, t12, if_pos e]; split <;> rfl
    · rw [if_neg e, t12, if_neg e]
  have t13 : ∀ d, N t 13 d = N s 13 d := fun d => tN 13 d (by omega) (by omega) (by omega) (by omega) (by omega)
  have t14 : ∀ d, N t 14 d = N s 14 d := fun d => tN 14 d (by omega) (by omega) (by omega) (by omega) (by omega)
  have tvF : ∀ d, vF t d = vF s d := by intro d; unfold vF; rw [t13]
  have tvU : ∀ d, vU t d = vU s d := by
    intro d
    by_cases g : d < 16
    · exact vU_mm (by rw [tmm, if_neg (by omega)])
    · unfold vU; rw [if_neg g, if_neg g]
  have ttk : ∀ l' d, tk t l' d = if l' = l ∧ d = c then 10 else tk s l' d := by
    intro l' d
    by_cases g : d < 16
    · by_cases e : l' = l ∧ d = c
      · rw [if_pos e]; unfold tk; rw [if_pos g, tmm, if_pos (by omega)]; rfl
      · rw [if_neg e]; exact tk_mm (by rw [tmm, if_neg (by omega)])
    · unfold tk; rw [if_neg g, if_neg g, if_neg (by omega)]
  have tsw : ∀ d l', d < 16 → ¬ (l' = l ∧ d = c) → sWay t d l' = sWay s d l' := by
    intro d l' hd hn
    cases e : sWay s d l' with
    | none =>
      rw [sWay_no Bt' L' hd]
      intro j j1 j2 j3 j4
      by_cases g : j = k
      · rw [g, t1k] at j4; rw [g, kc] at j2; exact hn ⟨j4.symm, j2.symm⟩
      · rw [t2 j g] at j3; rw [t1 j g] at j4
        exact (sWay_no B L hd).mp e j j1 j2 j3 j4
    | some j =>
      obtain ⟨j1, j2, j3, j4⟩ := (sWay_iff B L hd).mp e
      have g : j ≠ k := by
        rintro rfl
        have := k3 j3
        exact hn ⟨by omega, by omega⟩
      exact (sWay_iff Bt' L' hd).mpr ⟨j1, j2, by rw [t2 j g]; exact j3, by rw [t1 j g]; exact j4⟩
  have tvS : ∀ l' d, vS t l' d = if l' = l ∧ d = c then v else vS s l' d := by
    intro l' d
    unfold vS
    by_cases g : d < 16
    · rw [if_pos g, if_pos g]
      by_cases e : l' = l ∧ d = c
      · rw [if_pos e, (sWay_iff Bt' L' g).mpr ⟨k512, by omega, by omega, by rw [t1k]; exact e.1.symm⟩]
        exact t2k
      · rw [if_neg e, tsw d l' g e]
        cases e2 : sWay s d l' with
        | none => rfl
        | some j =>
          obtain ⟨j1, j2, j3, j4⟩ := (sWay_iff B L g).mp e2
          refine t2 j ?_
          rintro rfl
          have := k3 j3
          exact e ⟨by omega, by omega⟩
    · rw [if_neg g, if_neg g, if_neg (by omega)]
  have noget : ∀ z, z ∈ Z s → mKi z ≤ 1 → mFr z ≠ c := by
    intro z hz h1 h2
    have := ((Q z hz).1 h1).2 l hX (by rw [h2]; exact hA)
    rw [h2, tkx] at this; omega
  have cnR : cn (vR s) 16 = cn (vR t) 16 + 1 := cn_del (c := c) c16 (by unfold vR; rw [if_pos c16]; omega) (by rw [tvR, if_pos rfl]) (fun d hd => by rw [tvR, if_neg hd])
  have o7c := O7 c c16
  refine ⟨⟨Bt', hb⟩, ⟨L', Wl'⟩, ⟨by rw [tZ]; exact nk', fun z hz => ?_, by rw [tQ]; exact M.2.2⟩, fun l' hl2 => ?_, ⟨fun j hj => ?_, fun d hd => ?_, fun j hj h => ?_, fun j hj h => ?_⟩, fun z hz => ?_, fun d l' hd h12 hwn => ?_, ⟨fun l' j hwj h6 => ?_, fun l' hl' hwn => ?_, fun l' j hwj h5 => ?_, fun z hz => ?_, fun j hj h => ?_, fun d l' hd h13 h14 hu => ?_, fun l' j d hwj htk => ?_⟩, ?_, ?_, ?_, ?_, ?_, ?_, ?_, ?_⟩
  · rw [tZ] at hz
    rw [t0]
    rcases (Z' z).mp hz with g | g
    · exact M.2.1 z g.1
    · subst g
      exact ⟨hl, Nat.zero_le _, Or.inl ⟨Or.inr (Or.inr (Or.inr (Or.inr rfl))), hc, rfl⟩⟩
  · by_cases e : l' = l
    · subst e
      refine LI_eq (LI_give (c := c) (T' := fun d => if d = c then 10 else tk s l' d) (S' := fun d => if d = c then tk s l' c - 5 else vS s l' d) (R' := fun d => if d = c then 0 else vR s d) (LL _ hl2) (by rw [tkx]; exact hkd) (fun _ => rfl) (fun _ => rfl) (fun _ => rfl)) (fun d => ?_) (fun d => ?_) tvR tvF t14 tvU (fun d => tvB _ d) (tvX _) (thv _ 6 (by omega) (by omega)) (thv _ 8 (by omega) (by omega)) (thv _ 10 (by omega) (by omega)) (thv _ 9 (by omega) (by omega))
      · rw [ttk]
        by_cases g : d = c
        · rw [if_pos ⟨rfl, g⟩]; show _ = if d = c then _ else _; rw [if_pos g]
        · rw [if_neg (fun w => g w.2)]; show _ = if d = c then _ else _; rw [if_neg g]
      · rw [tvS]
        by_cases g : d = c
        · rw [if_pos ⟨rfl, g⟩]; show _ = if d = c then _ else _; rw [if_pos g, tkx]; exact hv0.symm
        · rw [if_neg (fun w => g w.2)]; show _ = if d = c then _ else _; rw [if_neg g]
    · unfold LIs
      rw [tvX, thv _ 6 (by omega) (by omega), thv _ 8 (by omega) (by omega), thv _ 10 (by omega) (by omega), thv _ 9 (by omega) (by omega)]
      have vRc : vR s c = l + 1 := by unfold vR; rw [if_pos c16]; exact hR
      refine LI_frame (LL l' hl2) (fun d => by rw [ttk, if_neg (fun g => e g.1)]) (fun d => by rw [tvS, if_neg (fun g => e g.1)]) (fun d => tvB _ d) (fun d => by rw [tvF]) (fun d hd => by rw [t14, tvU]; exact ⟨rfl, Iff.rfl⟩) (fun d hd => ?_) (fun d _ _ _ _ hd => ?_)
      · rw [tvR] at hd
        split at hd
        · omega
        · exact hd
      · rw [tvR, if_neg]
        · exact hd
        · rintro rfl
          omega
  · obtain ⟨a1, a2, a3, a4, a5, a6, a7, a8, a9, a10, a11, a12, a13⟩ := Rg.1 j hj
    have f := fun F (h : 4 ≤ F ∧ F ≤ 11 ∨ F = 23) => tN F j (by omega) (by omega) (by omega) (by omega) (by omega)
    rw [f 4 (by omega), f 5 (by omega), f 6 (by omega), f 7 (by omega), f 8 (by omega), f 9 (by omega), f 10 (by omega), f 11 (by omega), f 23 (by omega)]
    by_cases e : j = k
    · rw [e, t1k, t2k, t3k, t21k]
      rw [e] at a4 a5 a6 a7 a8 a9 a10 a11 a13
      exact ⟨hl, by omega, by omega, a4, a5, a6, a7, a8, a9, a10, a11, by omega, a13⟩
    · rw [t1 j e, t2 j e, tN 3 j (by omega) (by omega) (by omega) (by omega) (by omega), tN 21 j (by omega) (by omega) (by omega) (by omega) (by omega)]
      exact ⟨a1, a2, a3, a4, a5, a6, a7, a8, a9, a10, a11, a12, a13⟩
  · obtain ⟨a1, a2, a3, a4⟩ := Rg.2.1 d hd
    rw [t12, t13, t14, t0]
    split
    · exact ⟨by omega, a2, a3, fun g => ⟨rfl, (a4 g).2⟩⟩
    · exact ⟨a1, a2, a3, a4⟩
  · rw [t4] at h
    rw [tN 6 _ (by omega) (by omega) (by omega) (by omega) (by omega), tN 7 _ (by omega) (by omega) (by omega) (by omega) (by omega), t0]
    exact Rg.2.2.1 j hj h
  · rw [t4] at h
    rw [tN 8 _ (by omega) (by omega) (by omega) (by omega) (by omega)]
    exact Rg.2.2.2 j hj h
  · rw [tZ] at hz
    rcases (Z' z).mp hz with g | g
    · obtain ⟨q1, q2, q3⟩ := Q z g.1
      rw [t13, t13]
      refine ⟨fun h => ?_, q2, q3⟩
      have nc := noget z g.1 h
      rw [t12, if_neg nc]
      refine ⟨(q1 h).1, fun l' hX hA => ?_⟩
      rw [tvX] at hX
      rw [thv _ 8 (by omega) (by omega)] at hA
      rw [ttk, if_neg (fun w => nc w.2)]
      exact (q1 h).2 l' hX hA
    · subst g
      exact ⟨fun h => absurd h (by show ¬ (10 ≤ 1); omega), fun h => absurd h (by show ¬ (10 = 2); omega), fun h => absurd h (by show ¬ (10 = 9); omega)⟩
  · rw [t12] at h12
    split at h12
    · omega
    · next dc =>
      rw [tsw d l' hd (fun g => dc g.2)] at hwn
      have f := W d l' hd h12 hwn
      intro g
      apply f
      refine fst_none.mpr (fun j h1 h2 => ?_)
      have hsd := sSet_le B d l'
      have := fst_none.mp g j (by rw [sset]; exact h1) (by rw [sset, t0]; exact h2)
      simp only [decide_eq_false_iff_not] at this ⊢
      rw [t2 j (by omega)] at this; exact this
  · rw [hw] at hwj
    rw [tN 6 _ (by omega) (by omega) (by omega) (by omega) (by omega)] at h6
    rw [tW _ _ (by omega), tW _ _ (by omega)]; exact d1 l' j hwj h6
  · rw [hw] at hwn
    rw [tW _ _ (by omega), tW _ _ (by omega)]; exact d2 l' hl' hwn
  · rw [hw] at hwj
    rw [tN 5 _ (by omega) (by omega) (by omega) (by omega) (by omega)] at h5
    rw [tW _ _ (by omega), tW _ _ (by omega)]; exact d3 l' j hwj h5
  · rw [tZ] at hz
    rcases (Z' z).mp hz with g | g
    · rw [tW _ _ (by omega), t14]
      exact d4 z g.1
    · subst g
      exact ⟨fun h => absurd h (by show ¬ (10 = 6 ∨ 10 = 7 ∨ 10 = 8); omega), fun h => absurd h (by show ¬ (10 = 5); omega), fun h => absurd h (by show ¬ (10 = 2); omega)⟩
  · by_cases e : j = k
    · rw [e, tWk, t1k, tW _ _ (by omega)]
    · rw [t2 j e] at h
      rw [tW _ _ (by omega), tW _ _ (by omega), t1 j e]; exact d5 j hj h
  · rw [t13] at h13
    rw [tvU] at hu
    rw [t14] at h14
    rw [tW _ _ (by omega), tW _ _ (by omega)]
    exact d6 d l' hd h13 h14 hu
  · rw [hw] at hwj
    rw [tW _ _ (by omega), tW _ _ (by omega)]
    rw [ttk] at htk
    split at htk
    · omega
    · exact d7 l' j d hwj htk
  · intro j j' hj hj' g g' hd
    by_cases e : j = k
    · by_cases e' : j' = k
      · rw [e, e']; omega
      · rw [e] at hd ⊢
        rw [t2 j' e'] at g'
        have x2 := O2 j' hj' g'
        rw [← hd, kc] at x2
        rw [t3k, t21k, tN 3 j' (by omega) (by omega) (by omega) (by omega) (by omega), tN 21 j' (by omega) (by omega) (by omega) (by omega) (by omega)]; omega
    · rw [t2 j e] at g
      by_cases e' : j' = k
      · rw [e'] at hd ⊢
        have x2 := O2 j hj g
        rw [hd, kc] at x2
        rw [t3k, t21k, tN 3 j (by omega) (by omega) (by omega) (by omega) (by omega), tN 21 j (by omega) (by omega) (by omega) (by omega) (by omega)]; omega
      · rw [t2 j' e'] at g'
        rw [tN 3 j (by omega) (by omega) (by omega) (by omega) (by omega), tN 3 j' (by omega) (by omega) (by omega) (by omega) (by omega), tN 21 j (by omega) (by omega) (by omega) (by omega) (by omega), tN 21 j' (by omega) (by omega) (by omega) (by omega) (by omega)]
        exact O1 j j' hj hj' g g' hd
  · intro j hj g
    rw [t16, t22]
    by_cases e : j = k
    · rw [e, t3k, t21k, kc, if_pos rfl]; omega
    · rw [t2 j e] at g
      have x := O2 j hj g
      rw [tN 3 j (by omega) (by omega) (by omega) (by omega) (by omega), tN 21 j (by omega) (by omega) (by omega) (by omega) (by omega)]
      split
      · next e2 => rw [e2] at x; omega
      · omega
  · intro j j' hj hj' he he' g g'
    rw [t4] at g g'
    have f := fun F j (h : F = 11 ∨ F = 23) => tN F j (by omega) (by omega) (by omega) (by omega) (by omega)
    rw [f 11 _ (by omega), f 11 _ (by omega), f 23 _ (by omega), f 23 _ (by omega)]
    exact O3 j j' hj hj' he he' g g'
  · intro j hj he g
    rw [t4] at g
    have f := fun F j (h : F = 11 ∨ F = 23 ∨ F = 17 ∨ F = 24) => tN F j (by omega) (by omega) (by omega) (by omega) (by omega)
    rw [f 11 _ (by omega), f 23 _ (by omega), f 17 _ (by omega), f 24 _ (by omega)]
    exact O4 j hj he g
  · rw [t16]; omega
  · have : cn (vQ t) 16 = cn (vQ s) 16 := cn_congr (fun d hd => by
      have e : mm t d = mm s d := by rw [tmm, if_neg (by omega)]
      unfold vQ; rw [e])
    rw [this, tN 17 _ (by omega) (by omega) (by omega) (by omega) (by omega)]; exact O6
  · intro d hd
    rw [t22, t16]
    have := O7 d hd
    split <;> omega
  · rw [tN 24 _ (by omega) (by omega) (by omega) (by omega) (by omega), tN 17 _ (by omega) (by omega) (by omega) (by omega) (by omega)]; exact O8
