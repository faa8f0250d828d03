theorem IV_miss {s : St} {b c l kd : Nat} (I : IV s b) (hc : c < N s 0 0) (hl : l < 512) (hkd : kd ≤ 1) (hs : vS s l c ≤ 1) (hb' : b + 1 ≤ 536870912) : IV (sMiss s c l kd) (b + 1) := by
  have I0 := I
  obtain ⟨⟨B, hb⟩, ⟨L, W4'⟩, M, LL, Rg, Q, W, D, O⟩ := I
  have c16 : c < 16 := by have := B.1.2; omega
  have hse := sSet_le B c l
  have hlr := sLru_lt B c l
  unfold sMiss
  by_cases e1 : N s 12 c ≠ 0 ∨ N s 13 c = l + 1
  · rw [if_pos e1]; exact IV_up I0 (by omega) hb'
  · rw [if_neg e1]
    have hr : N s 12 c = 0 := by omega
    have hf : N s 13 c ≠ l + 1 := by omega
    by_cases e2 : sWay s c l ≠ none ∨ sFree s c l ≠ none
    · rw [if_pos e2]
      refine IV_req I0 hc hl hkd hr hf hs (fun g => ?_) hb'
      rcases e2 with e2 | e2
      · exact absurd g e2
      · exact e2
    · rw [if_neg e2]
      have w0 : sWay s c l = none := Classical.byContradiction (fun g => e2 (Or.inl g))
      have f0 : sFree s c l = none := Classical.byContradiction (fun g => e2 (Or.inr g))
      have kc : sLru s c l / 32 = c := by omega
      have k512 : sLru s c l < 512 := by omega
      have n2 : N s 2 (sLru s c l) ≠ 0 := by
        have := fst_none.mp f0 (sLru s c l) hlr.1 hlr.2
        simpa using this
      have n1 : N s 1 (sLru s c l) ≠ l := (sWay_no B L c16).mp w0 _ k512 kc n2
      by_cases e3 : 1 < N s 2 (sLru s c l)
      · rw [if_pos e3]
        by_cases e4 : N s 13 c ≠ 0
        · rw [if_pos e4]; exact IV_up I0 (by omega) hb'
        · rw [if_neg e4]
          have I1 := IV_shelve I0 k512 e3 (by rw [kc]; exact hr) (by rw [kc]; omega)
          rw [kc] at I1
          refine IV_req I1 hc hl hkd ?_ ?_ ?_ (fun _ => ?_) hb'
          · exact hr
          · show N (uN (sShelve s c (sLru s c l)) 2 (sLru s c l) 0) 13 c ≠ l + 1
            rw [N_ne (by omega)]
            unfold sShelve
            rw [N_post, N_uW, N_ne (by omega), N_eq]; omega
          · have : vS (uN (sShelve s c (sLru s c l)) 2 (sLru s c l) 0) l c = _ := vS_set B L k512 n2 l c
            rw [this]; split
            · omega
            · exact hs
          · exact sFree_ne (k := sLru s c l) hlr.1 hlr.2 (by rw [N_eq])
      · rw [if_neg e3]
        have I1 := IV_evict I0 k512 (by omega) (by rw [kc]; exact hr)
        refine IV_req I1 hc hl hkd hr hf ?_ (fun _ => ?_) hb'
        · rw [vS_set B L k512 n2 l c]; split
          · omega
          · exact hs
        · exact sFree_ne (k := sLru s c l) hlr.1 hlr.2 (by rw [N_eq])
/-! What comes to a core. -/
/-- a message goes and another of the same key comes -/
theorem mm_swap {s : St} (n : nk (Z s)) {i : Nat} (hi : i < (Pl s).length) {y : Msg} (hy : key y = key ((Pl s).getD i x0)) :
    nk (Z (sPost (sOut s i) y)) ∧ (∀ κ, mm (sPost (sOut s i) y) κ = if κ = key y then some y else mm s κ) ∧ (∀ z, z ∈ Z (sPost (sOut s i) y) ↔ (z ∈ Z s ∧ key z ≠ key y) ∨ z = y) := by
  have h0 : mm (sOut s i) (key y) = none := by rw [mm_out n hi, if_pos hy]
  refine ⟨nk_post (nk_out n i) h0, fun κ => ?_, fun z => ?_⟩
  · rw [mm_post (nk_out n i) h0, mm_out n hi]
    by_cases e : κ = key y
    · rw [if_pos e, if_pos e]
    · rw [if_neg e, if_neg e, if_neg (by rw [← hy]; exact e)]
  · rw [Z_post, Z_out n hi, hy]
theorem N_out (s : St) (i F j : Nat) (h : F ≠ 18) : N (sOut s i) F j = N s F j := by
  unfold sOut; rw [N_ne (by omega)]; rfl
