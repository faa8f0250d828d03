set_option maxRecDepth 100000 in
set_option maxHeartbeats 4000000 in
theorem ok_X8_digitsBehind_L12 (l : Launch) (X : Cx) (h : AH)  (q : Int32) (hf : f_X8_digitsBehind_L12 h  = some q) : Go l X k_X8_digitsBehind 12 [] [] h (rI (q, h)) := by
  unfold f_X8_digitsBehind_L12 at hf
  refine g_iconst (pc := 12) (v := (1 : Int32)) dX8_digitsBehind_12 (by decide) ?_
  refine g_goto (pc := 13) (tgt := 33) dX8_digitsBehind_13 (by decide) ?_
  obtain rfl := Option.some.inj hf
  exact g_iret (pc := 33) rfl dX8_digitsBehind_33
set_option maxRecDepth 100000 in
set_option maxHeartbeats 4000000 in
theorem ok_X8_digitsBehind_L28 (l : Launch) (X : Cx) (h : AH)  (q : Int32) (hf : f_X8_digitsBehind_L28 h  = some q) : Go l X k_X8_digitsBehind 28 [] [] h (rI (q, h)) := by
  unfold f_X8_digitsBehind_L28 at hf
  refine g_iconst (pc := 28) (v := (2 : Int32)) dX8_digitsBehind_28 (by decide) ?_
  refine g_goto (pc := 29) (tgt := 33) dX8_digitsBehind_29 (by decide) ?_
  obtain rfl := Option.some.inj hf
  exact g_iret (pc := 33) rfl dX8_digitsBehind_33
set_option maxRecDepth 100000 in
set_option maxHeartbeats 4000000 in
theorem ok_X8_digitsBehind (l : Launch) (X : Cx) {h : AH} {a0 : Int32} {q : Int32} (hf : f_X8_digitsBehind h a0 = some q) : Go l X k_X8_digitsBehind 0 [(0, .int a0)] [] h (rI (q, h)) := by
  unfold f_X8_digitsBehind at hf
  refine g_iload_n (pc := 0) 0 dX8_digitsBehind_0 rfl rfl ?_
  refine g_bipush (pc := 1) (v := (115 : Int32)) dX8_digitsBehind_1 (by decide) ?_
  rcases it_some hf with ⟨c1, hf⟩ | ⟨c1, hf⟩
  · refine g_iceq_t (pc := 3) (tgt := 12) dX8_digitsBehind_3 (by decide) c1 ?_
    refine g_sub [] rfl ?_
    exact ok_X8_digitsBehind_L12 l X h  q hf
  · refine g_iceq_f (pc := 3) (tgt := 12) dX8_digitsBehind_3 (by decide) c1 ?_
    refine g_iload_n (pc := 6) 0 dX8_digitsBehind_6 rfl rfl ?_
    refine g_bipush (pc := 7) (v := (100 : Int32)) dX8_digitsBehind_7 (by decide) ?_
    rcases it_some hf with ⟨c2, hf⟩ | ⟨c2, hf⟩
    · refine g_icne_t (pc := 9) (tgt := 16) dX8_digitsBehind_9 (by decide) c2 ?_
      refine g_iload_n (pc := 16) 0 dX8_digitsBehind_16 rfl rfl ?_
      refine g_bipush (pc := 17) (v := (109 : Int32)) dX8_digitsBehind_17 (by decide) ?_
      rcases it_some hf with ⟨c3, hf⟩ | ⟨c3, hf⟩
      · refine g_iceq_t (pc := 19) (tgt := 28) dX8_digitsBehind_19 (by decide) c3 ?_
        refine g_sub [] rfl ?_
        exact ok_X8_digitsBehind_L28 l X h  q hf
      · refine g_iceq_f (pc := 19) (tgt := 28) dX8_digitsBehind_19 (by decide) c3 ?_
        refine g_iload_n (pc := 22) 0 dX8_digitsBehind_22 rfl rfl ?_
        refine g_bipush (pc := 23) (v := (114 : Int32)) dX8_digitsBehind_23 (by decide) ?_
        rcases it_some hf with ⟨c4, hf⟩ | ⟨c4, hf⟩
        · refine g_icne_t (pc := 25) (tgt := 32) dX8_digitsBehind_25 (by decide) c4 ?_
          refine g_iconst (pc := 32) (v := (0 : Int32)) dX8_digitsBehind_32 (by decide) ?_
          obtain rfl := Option.some.inj hf
          exact g_iret (pc := 33) rfl dX8_digitsBehind_33
        · refine g_icne_f (pc := 25) (tgt := 32) dX8_digitsBehind_25 (by decide) (Decidable.of_not_not c4) ?_
          refine g_sub [] rfl ?_
          exact ok_X8_digitsBehind_L28 l X h  q hf
    · refine g_icne_f (pc := 9) (tgt := 16) dX8_digitsBehind_9 (by decide) (Decidable.of_not_not c2) ?_
      refine g_sub [] rfl ?_
      exact ok_X8_digitsBehind_L12 l X h  q hf
theorem ct_X8_digitsBehind (l : Launch) (X : Cx) {h : AH} {a0 : Int32} {q : Int32} (hf : f_X8_digitsBehind h a0 = some q) : Ct l X k_X8_digitsBehind [.int a0] h (rI (q, h)) := ct_of ck_X8_digitsBehind (by simp [lg_sl, rf_cat, rq_cat, ca_i, ca_l, ca_r]) (by simp [lv_args, rf_cat, rq_cat, ca_i, ca_l, ca_r]) (ok_X8_digitsBehind l X hf)
set_option maxRecDepth 100000 in
set_option maxHeartbeats 4000000 in
theorem ok_X8_digit_L17 (l : Launch) (X : Cx) (h : AH) (a0 : Int32) (q : Int32) (hf : f_X8_digit_L17 h a0 = some q) : Go l X k_X8_digit 17 [(0, .int a0)] [] h (rI (q, h)) := by
  unfold f_X8_digit_L17 at hf
  refine g_iload_n (pc := 17) 0 dX8_digit_17 rfl rfl ?_
  refine g_bipush (pc := 18) (v := (97 : Int32)) dX8_digit_18 (by decide) ?_
  rcases it_some hf with ⟨c1, hf⟩ | ⟨c1, hf⟩
  · refine g_iclt_t (pc := 20) (tgt := 39) dX8_digit_20 (by decide) c1 ?_
    refine g_iconst (pc := 39) (v := (-1 : Int32)) dX8_digit_39 (by decide) ?_
    obtain rfl := Option.some.inj hf
    exact g_iret (pc := 40) rfl dX8_digit_40
  · refine g_iclt_f (pc := 20) (tgt := 39) dX8_digit_20 (by decide) c1 ?_
    refine g_iload_n (pc := 23) 0 dX8_digit_23 rfl rfl ?_
    refine g_bipush (pc := 24) (v := (102 : Int32)) dX8_digit_24 (by decide) ?_
    rcases it_some hf with ⟨c2, hf⟩ | ⟨c2, hf⟩
    · refine g_icgt_t (pc := 26) (tgt := 39) dX8_digit_26 (by decide) c2 ?_
      refine g_iconst (pc := 39) (v := (-1 : Int32)) dX8_digit_39 (by decide) ?_
      obtain rfl := Option.some.inj hf
      exact g_iret (pc := 40) rfl dX8_digit_40
    · refine g_icgt_f (pc := 26) (tgt := 39) dX8_digit_26 (by decide) c2 ?_
      refine g_iload_n (pc := 29) 0 dX8_digit_29 rfl rfl ?_
      refine g_bipush (pc := 30) (v := (97 : Int32)) dX8_digit_30 (by decide) ?_
      refine g_isub (pc := 32) dX8_digit_32 ?_
      refine g_bipush (pc := 33) (v := (10 : Int32)) dX8_digit_33 (by decide) ?_
      refine g_iadd (pc := 35) dX8_digit_35 ?_
      refine g_goto (pc := 36) (tgt := 40) dX8_digit_36 (by decide) ?_
      obtain rfl := Option.some.inj hf
      exact g_iret (pc := 40) rfl dX8_digit_40
set_option maxRecDepth 100000 in
set_option maxHeartbeats 4000000 in
theorem ok_X8_digit (l : Launch) (X : Cx) {h : AH} {a0 : Int32} {q : Int32} (hf : f_X8_digit h a0 = some q) : Go l X k_X8_digit 0 [(0, .int a0)] [] h (rI (q, h)) := by
  unfold f_X8_digit at hf
  refine g_iload_n (pc := 0) 0 dX8_digit_0 rfl rfl ?_
  refine g_bipush (pc := 1) (v := (48 : Int32)) dX8_digit_1 (by decide) ?_
  rcases it_some hf with ⟨c1, hf⟩ | ⟨c1, hf⟩
  · refine g_iclt_t (pc := 3) (tgt := 17) dX8_digit_3 (by decide) c1 ?_
    exact ok_X8_digit_L17 l X h a0 q hf
  · refine g_iclt_f (pc := 3) (tgt := 17) dX8_digit_3 (by decide) c1 ?_
    refine g_iload_n (pc := 6) 0 dX8_digit_6 rfl rfl ?_
    refine g_bipush (pc := 7) (v := (57 : Int32)) dX8_digit_7 (by decide) ?_
    rcases it_some hf with ⟨c2, hf⟩ | ⟨c2, hf⟩
    · refine g_icgt_t (pc := 9) (tgt := 17) dX8_digit_9 (by decide) c2 ?_
      exact ok_X8_digit_L17 l X h a0 q hf
    · refine g_icgt_f (pc := 9) (tgt := 17) dX8_digit_9 (by decide) c2 ?_
      refine g_iload_n (pc := 12) 0 dX8_digit_12 rfl rfl ?_
      refine g_bipush (pc := 13) (v := (48 : Int32)) dX8_digit_13 (by decide) ?_
      refine g_isub (pc := 15) dX8_digit_15 ?_
      obtain rfl := Option.some.inj hf
      exact g_iret (pc := 16) rfl dX8_digit_16
theorem ct_X8_digit (l : Launch) (X : Cx) {h : AH} {a0 : Int32} {q : Int32} (hf : f_X8_digit h a0 = some q) : Ct l X k_X8_digit [.int a0] h (rI (q, h)) := ct_of ck_X8_digit (by simp [lg_sl, rf_cat, rq_cat, ca_i, ca_l, ca_r]) (by simp [lv_args, rf_cat, rq_cat, ca_i, ca_l, ca_r]) (ok_X8_digit l X hf)
set_option maxRecDepth 100000 in
set_option maxHeartbeats 4000000 in
theorem ok_X8_scheduleFault_L120 (l : Launch) (X : Cx) (h : AH) (k2 : Nat → Int32 → Option (Int32)) (hk2 : ∀ (a0 : Nat) (a1 : Int32) (q : Int32), k2 a0 a1 = some q → Go l X k_X8_scheduleFault 2 [(0, rf X a0), (1, .int a1)] [] h (rI (q, h))) (a0 : Nat) (a1 : Int32) (q : Int32) (hf : f_X8_scheduleFault_L120 h k2 a0 a1 = some q) : Go l X k_X8_scheduleFault 120 [(0, rf X a0), (1, .int a1)] [] h (rI (q, h)) := by
  unfold f_X8_scheduleFault_L120 at hf
  obtain ⟨x1, ex1, hf⟩ := lt_some hf
  refine g_iinc (pc := 120) (y := x1) (L' := [(1, .int x1), (0, rf X a0)]) 1 dX8_scheduleFault_120 rfl (by decide) (ex1.trans rfl) (by simp [rf_cat, rq_cat]) ?_
  refine g_goto (pc := 123) (tgt := 2) dX8_scheduleFault_123 (by decide) ?_
  refine g_sub [1, 0] rfl ?_
  exact hk2 a0 x1 q hf
set_option maxRecDepth 100000 in
set_option maxHeartbeats 4000000 in
theorem ok_X8_scheduleFault_L108 (l : Launch) (X : Cx) (h : AH) (a3 : Int32) (q : Int32) (hf : f_X8_scheduleFault_L108 h a3 = some q) : Go l X k_X8_scheduleFault 108 [(3, .int a3)] [] h (rI (q, h)) := by
  unfold f_X8_scheduleFault_L108 at hf
  refine g_iload_n (pc := 108) 0 dX8_scheduleFault_108 rfl rfl ?_
  obtain rfl := Option.some.inj hf
  exact g_iret (pc := 109) rfl dX8_scheduleFault_109
set_option maxRecDepth 100000 in
set_option maxHeartbeats 4000000 in
theorem ok_X8_scheduleFault_L72 (l : Launch) (X : Cx) (h : AH) (k2 : Nat → Int32 → Option (Int32)) (hk2 : ∀ (a0 : Nat) (a1 : Int32) (q : Int32), k2 a0 a1 = some q → Go l X k_X8_scheduleFault 2 [(0, rf X a0), (1, .int a1)] [] h (rI (q, h))) (k41 : Nat → Int32 → Int32 → Int32 → Option (Int32)) (hk41 : ∀ (a0 : Nat) (a1 : Int32) (a2 : Int32) (a3 : Int32) (q : Int32), k41 a0 a1 a2 a3 = some q → Go l X k_X8_scheduleFault 41 [(0, rf X a0), (1, .int a1), (2, .int a2), (3, .int a3)] [] h (rI (q, h))) (a0 : Nat) (a1 : Int32) (a2 : Int32) (a3 : Int32) (s0 : Int32) (q : Int32) (hf : f_X8_scheduleFault_L72 h k2 k41 a0 a1 a2 a3 s0 = some q) : Go l X k_X8_scheduleFault 72 [(0, rf X a0), (1, .int a1), (2, .int a2), (3, .int a3)] [.int s0] h (rI (q, h)) := by
  unfold f_X8_scheduleFault_L72 at hf
  refine g_istore (pc := 72) (L' := [(4, .int s0), (0, rf X a0), (1, .int a1), (2, .int a2), (3, .int a3)]) dX8_scheduleFault_72 (by decide) rfl rfl ?_
  refine g_iload_n (pc := 74) 4 dX8_scheduleFault_74 rfl rfl ?_
  refine g_aload_n (pc := 75) 1 dX8_scheduleFault_75 rfl rfl ?_
  obtain ⟨g1, hf⟩ := gs_some hf
  refine g_getI (pc := 76) fl_X8_15 dX8_scheduleFault_76 g1 ?_
  rcases it_some hf with ⟨c2, hf⟩ | ⟨c2, hf⟩
  · refine g_icge_t (pc := 79) (tgt := 108) dX8_scheduleFault_79 (by decide) c2 ?_
    refine g_sub [4] rfl ?_
    exact ok_X8_scheduleFault_L108 l X h a3 q hf
  · refine g_icge_f (pc := 79) (tgt := 108) dX8_scheduleFault_79 (by decide) c2 ?_
    refine g_aload_n (pc := 82) 1 dX8_scheduleFault_82 rfl rfl ?_
    refine g_getR (pc := 83) fl_X8_9 dX8_scheduleFault_83 g1 ?_
    refine g_iload_n (pc := 86) 4 dX8_scheduleFault_86 rfl rfl ?_
    obtain ⟨g3, hf⟩ := gs_some hf
    obtain ⟨b4, hf⟩ := gb_some hf
    refine g_cald (pc := 87) g3 b4 dX8_scheduleFault_87 ?_
    obtain ⟨v5, hcv5, hf⟩ := bd_some hf
    refine g_cSI (pc := 88) (k2 := k_X8_digit) (av := [.int (hI h (hR h a0 0) a3.toNatClampNeg)]) (q := (v5, h)) rfl dX8_scheduleFault_88 ck_X8_digit m_1184 m_1185 (by decide) (by decide) rfl (by simp [rf_cat, rq_cat, ca_i, ca_l, ca_r]) (ct_X8_digit l X hcv5) ?_
    rcases it_some hf with ⟨c6, hf⟩ | ⟨c6, hf⟩
    · refine g_iflt_t (pc := 91) (tgt := 108) dX8_scheduleFault_91 (by decide) c6 ?_
      refine g_sub [4] rfl ?_
      exact ok_X8_scheduleFault_L108 l X h a3 q hf
    · refine g_iflt_f (pc := 91) (tgt := 108) dX8_scheduleFault_91 (by decide) c6 ?_
      refine g_aload_n (pc := 94) 1 dX8_scheduleFault_94 rfl rfl ?_
      refine g_getR (pc := 95) fl_X8_9 dX8_scheduleFault_95 g1 ?_
      refine g_iload_n (pc := 98) 4 dX8_scheduleFault_98 rfl rfl ?_
      obtain ⟨b7, hf⟩ := gb_some hf
      refine g_cald (pc := 99) g3 b7 dX8_scheduleFault_99 ?_
      obtain ⟨v8, hcv8, hf⟩ := bd_some hf
      refine g_cSI (pc := 100) (k2 := k_X8_digit) (av := [.int (hI h (hR h a0 0) a3.toNatClampNeg)]) (q := (v8, h)) rfl dX8_scheduleFault_100 ck_X8_digit m_1184 m_1185 (by decide) (by decide) rfl (by simp [rf_cat, rq_cat, ca_i, ca_l, ca_r]) (ct_X8_digit l X hcv8) ?_
      refine g_iload (pc := 103) 0 dX8_scheduleFault_103 rfl ?_
      rcases it_some hf with ⟨c9, hf⟩ | ⟨c9, hf⟩
      · refine g_icle_t (pc := 105) (tgt := 110) dX8_scheduleFault_105 (by decide) c9 ?_
        obtain ⟨x10, ex10, hf⟩ := lt_some hf
        refine g_iinc (pc := 110) (y := x10) (L' := [(3, .int x10), (4, .int s0), (0, rf X a0), (1, .int a1), (2, .int a2)]) 4 dX8_scheduleFault_110 rfl (by decide) (ex10.trans rfl) rfl ?_
        refine g_goto (pc := 113) (tgt := 41) dX8_scheduleFault_113 (by decide) ?_
        refine g_sub [2, 3, 4, 0] rfl ?_
        exact hk41 a0 a1 a2 x10 q hf
      · refine g_icle_f (pc := 105) (tgt := 110) dX8_scheduleFault_105 (by decide) c9 ?_
        refine g_sub [4] rfl ?_
        exact ok_X8_scheduleFault_L108 l X h a3 q hf
set_option maxRecDepth 100000 in
set_option maxHeartbeats 4000000 in
theorem ok_X8_scheduleFault_L70 (l : Launch) (X : Cx) (h : AH) (k2 : Nat → Int32 → Option (Int32)) (hk2 : ∀ (a0 : Nat) (a1 : Int32) (q : Int32), k2 a0 a1 = some q → Go l X k_X8_scheduleFault 2 [(0, rf X a0), (1, .int a1)] [] h (rI (q, h))) (k41 : Nat → Int32 → Int32 → Int32 → Option (Int32)) (hk41 : ∀ (a0 : Nat) (a1 : Int32) (a2 : Int32) (a3 : Int32) (q : Int32), k41 a0 a1 a2 a3 = some q → Go l X k_X8_scheduleFault 41 [(0, rf X a0), (1, .int a1), (2, .int a2), (3, .int a3)] [] h (rI (q, h))) (a0 : Nat) (a1 : Int32) (a2 : Int32) (a3 : Int32) (q : Int32) (hf : f_X8_scheduleFault_L70 h k2 k41 a0 a1 a2 a3 = some q) : Go l X k_X8_scheduleFault 70 [(0, rf X a0), (1, .int a1), (2, .int a2), (3, .int a3)] [] h (rI (q, h)) := by
  unfold f_X8_scheduleFault_L70 at hf
  refine g_bipush (pc := 70) (v := (15 : Int32)) dX8_scheduleFault_70 (by decide) ?_
  exact ok_X8_scheduleFault_L72 l X h k2 hk2 k41 hk41 a0 a1 a2 a3 (15 : Int32) q hf
set_option maxRecDepth 100000 in
set_option maxHeartbeats 4000000 in
theorem ok_X8_scheduleFault_L41 (l : Launch) (X : Cx) (h : AH) (k2 : Nat → Int32 → Option (Int32)) (hk2 : ∀ (a0 : Nat) (a1 : Int32) (q : Int32), k2 a0 a1 = some q → Go l X k_X8_scheduleFault 2 [(0, rf X a0), (1, .int a1)] [] h (rI (q, h))) : ∀ (n : Nat) (a0 : Nat) (a1 : Int32) (a2 : Int32) (a3 : Int32) (q : Int32), f_X8_scheduleFault_L41 h k2 n a0 a1 a2 a3 = some q → Go l X k_X8_scheduleFault 41 [(0, rf X a0), (1, .int a1), (2, .int a2), (3, .int a3)] [] h (rI (q, h)) := by
  intro n
  induction n with
  | zero =>
    intro a0 a1 a2 a3 q hf
    unfold f_X8_scheduleFault_L41 at hf
    cases hf
  | succ n ih =>
    intro a0 a1 a2 a3 q hf
    unfold f_X8_scheduleFault_L41 at hf
    refine g_iload_n (pc := 41) 3 dX8_scheduleFault_41 rfl rfl ?_
    refine g_iload_n (pc := 42) 1 dX8_scheduleFault_42 rfl rfl ?_
    refine g_iload_n (pc := 43) 2 dX8_scheduleFault_43 rfl rfl ?_
    refine g_iadd (pc := 44) dX8_scheduleFault_44 ?_
    rcases it_some hf with ⟨c1, hf⟩ | ⟨c1, hf⟩
    · refine g_icgt_t (pc := 45) (tgt := 116) dX8_scheduleFault_45 (by decide) c1 ?_
      refine g_iload_n (pc := 116) 1 dX8_scheduleFault_116 rfl rfl ?_
      refine g_iload_n (pc := 117) 2 dX8_scheduleFault_117 rfl rfl ?_
      refine g_iadd (pc := 118) dX8_scheduleFault_118 ?_
      obtain ⟨x2, ex2, hf⟩ := lt_some hf
      refine g_istore_n (pc := 119) (L' := [(1, .int x2), (0, rf X a0), (2, .int a2), (3, .int a3)]) dX8_scheduleFault_119 rfl (by decide) ex2 (by simp [rf_cat, rq_cat]) ?_
      refine g_sub [1, 0] rfl ?_
      exact ok_X8_scheduleFault_L120 l X h k2 hk2 a0 x2 q hf
    · refine g_icgt_f (pc := 45) (tgt := 116) dX8_scheduleFault_45 (by decide) c1 ?_
      refine g_aload_n (pc := 48) 0 dX8_scheduleFault_48 rfl rfl ?_
      obtain ⟨g3, hf⟩ := gs_some hf
      refine g_getR (pc := 49) fl_X8_9 dX8_scheduleFault_49 g3 ?_
      refine g_iload_n (pc := 52) 1 dX8_scheduleFault_52 rfl rfl ?_
      obtain ⟨g4, hf⟩ := gs_some hf
      obtain ⟨b5, hf⟩ := gb_some hf
      refine g_cald (pc := 53) g4 b5 dX8_scheduleFault_53 ?_
      refine g_bipush (pc := 54) (v := (114 : Int32)) dX8_scheduleFault_54 (by decide) ?_
      rcases it_some hf with ⟨c6, hf⟩ | ⟨c6, hf⟩
      · refine g_icne_t (pc := 56) (tgt := 70) dX8_scheduleFault_56 (by decide) c6 ?_
        exact ok_X8_scheduleFault_L70 l X h k2 hk2 (f_X8_scheduleFault_L41 h k2 n) ih a0 a1 a2 a3 q hf
      · refine g_icne_f (pc := 56) (tgt := 70) dX8_scheduleFault_56 (by decide) (Decidable.of_not_not c6) ?_
        refine g_iload_n (pc := 59) 3 dX8_scheduleFault_59 rfl rfl ?_
        refine g_iload_n (pc := 60) 1 dX8_scheduleFault_60 rfl rfl ?_
        refine g_iconst (pc := 61) (v := (1 : Int32)) dX8_scheduleFault_61 (by decide) ?_
        refine g_iadd (pc := 62) dX8_scheduleFault_62 ?_
        rcases it_some hf with ⟨c7, hf⟩ | ⟨c7, hf⟩
        · refine g_icne_t (pc := 63) (tgt := 70) dX8_scheduleFault_63 (by decide) c7 ?_
          exact ok_X8_scheduleFault_L70 l X h k2 hk2 (f_X8_scheduleFault_L41 h k2 n) ih a0 a1 a2 a3 q hf
        · refine g_icne_f (pc := 63) (tgt := 70) dX8_scheduleFault_63 (by decide) (Decidable.of_not_not c7) ?_
          refine g_iconst (pc := 66) (v := (2 : Int32)) dX8_scheduleFault_66 (by decide) ?_
          refine g_goto (pc := 67) (tgt := 72) dX8_scheduleFault_67 (by decide) ?_
          exact ok_X8_scheduleFault_L72 l X h k2 hk2 (f_X8_scheduleFault_L41 h k2 n) ih a0 a1 a2 a3 (2 : Int32) q hf
set_option maxRecDepth 100000 in
set_option maxHeartbeats 4000000 in
theorem ok_X8_scheduleFault_L2 (l : Launch) (X : Cx) (h : AH) : ∀ (n : Nat) (a0 : Nat) (a1 : Int32) (q : Int32), f_X8_scheduleFault_L2 h n a0 a1 = some q → Go l X k_X8_scheduleFault 2 [(0, rf X a0), (1, .int a1)] [] h (rI (q, h)) := by
  intro n
  induction n with
  | zero =>
    intro a0 a1 q hf
    unfold f_X8_scheduleFault_L2 at hf
    cases hf
  | succ n ih =>
    intro a0 a1 q hf
    unfold f_X8_scheduleFault_L2 at hf
    refine g_iload_n (pc := 2) 1 dX8_scheduleFault_2 rfl rfl ?_
    refine g_aload_n (pc := 3) 0 dX8_scheduleFault_3 rfl rfl ?_
    obtain ⟨g1, hf⟩ := gs_some hf
    refine g_getI (pc := 4) fl_X8_15 dX8_scheduleFault_4 g1 ?_
    rcases it_some hf with ⟨c2, hf⟩ | ⟨c2, hf⟩
    · refine g_icge_t (pc := 7) (tgt := 126) dX8_scheduleFault_7 (by decide) c2 ?_
      refine g_iconst (pc := 126) (v := (-1 : Int32)) dX8_scheduleFault_126 (by decide) ?_
      obtain rfl := Option.some.inj hf
      exact g_iret (pc := 127) rfl dX8_scheduleFault_127
    · refine g_icge_f (pc := 7) (tgt := 126) dX8_scheduleFault_7 (by decide) c2 ?_
      refine g_aload_n (pc := 10) 0 dX8_scheduleFault_10 rfl rfl ?_
      refine g_getR (pc := 11) fl_X8_9 dX8_scheduleFault_11 g1 ?_
      refine g_iload_n (pc := 14) 1 dX8_scheduleFault_14 rfl rfl ?_
      obtain ⟨g3, hf⟩ := gs_some hf
      obtain ⟨b4, hf⟩ := gb_some hf
      refine g_cald (pc := 15) g3 b4 dX8_scheduleFault_15 ?_
      refine g_bipush (pc := 16) (v := (32 : Int32)) dX8_scheduleFault_16 (by decide) ?_
      rcases it_some hf with ⟨c5, hf⟩ | ⟨c5, hf⟩
      · refine g_iceq_t (pc := 18) (tgt := 120) dX8_scheduleFault_18 (by decide) c5 ?_
        exact ok_X8_scheduleFault_L120 l X h (f_X8_scheduleFault_L2 h n) ih a0 a1 q hf
      · refine g_iceq_f (pc := 18) (tgt := 120) dX8_scheduleFault_18 (by decide) c5 ?_
        refine g_aload_n (pc := 21) 0 dX8_scheduleFault_21 rfl rfl ?_
        refine g_getR (pc := 22) fl_X8_9 dX8_scheduleFault_22 g1 ?_
        refine g_iload_n (pc := 25) 1 dX8_scheduleFault_25 rfl rfl ?_
        obtain ⟨b6, hf⟩ := gb_some hf
        refine g_cald (pc := 26) g3 b6 dX8_scheduleFault_26 ?_
        obtain ⟨v7, hcv7, hf⟩ := bd_some hf
        refine g_cSI (pc := 27) (k2 := k_X8_digitsBehind) (av := [.int (hI h (hR h a0 0) a1.toNatClampNeg)]) (q := (v7, h)) rfl dX8_scheduleFault_27 ck_X8_digitsBehind m_1181 m_1182 (by decide) (by decide) rfl (by simp [rf_cat, rq_cat, ca_i, ca_l, ca_r]) (ct_X8_digitsBehind l X hcv7) ?_
        refine g_istore_n (pc := 30) (L' := [(2, .int v7), (0, rf X a0), (1, .int a1)]) dX8_scheduleFault_30 rfl (by decide) rfl rfl ?_
        refine g_iload_n (pc := 31) 0 dX8_scheduleFault_31 rfl rfl ?_
        rcases it_some hf with ⟨c8, hf⟩ | ⟨c8, hf⟩
        · refine g_ifne_t (pc := 32) (tgt := 37) dX8_scheduleFault_32 (by decide) c8 ?_
          refine g_iload_n (pc := 37) 2 dX8_scheduleFault_37 rfl rfl ?_
          refine g_iconst (pc := 38) (v := (1 : Int32)) dX8_scheduleFault_38 (by decide) ?_
          refine g_iadd (pc := 39) dX8_scheduleFault_39 ?_
          obtain ⟨x9, ex9, hf⟩ := lt_some hf
          refine g_istore_n (pc := 40) (L' := [(3, .int x9), (2, .int v7), (0, rf X a0), (1, .int a1)]) dX8_scheduleFault_40 rfl (by decide) ex9 rfl ?_
          refine g_sub [2, 3, 1, 0] rfl ?_
          exact ok_X8_scheduleFault_L41 l X h (f_X8_scheduleFault_L2 h n) ih FU a0 a1 v7 x9 q hf
        · refine g_ifne_f (pc := 32) (tgt := 37) dX8_scheduleFault_32 (by decide) (Decidable.of_not_not c8) ?_
          refine g_iload_n (pc := 35) 2 dX8_scheduleFault_35 rfl rfl ?_
          obtain rfl := Option.some.inj hf
          exact g_iret (pc := 36) rfl dX8_scheduleFault_36
set_option maxRecDepth 100000 in
set_option maxHeartbeats 4000000 in
theorem ok_X8_scheduleFault (l : Launch) (X : Cx) {h : AH} {a0 : Nat} {q : Int32} (hf : f_X8_scheduleFault h a0 = some q) : Go l X k_X8_scheduleFault 0 [(0, rf X a0)] [] h (rI (q, h)) := by
  unfold f_X8_scheduleFault at hf
  refine g_iconst (pc := 0) (v := (0 : Int32)) dX8_scheduleFault_0 (by decide) ?_
  obtain ⟨x1, ex1, hf⟩ := lt_some hf
  refine g_istore_n (pc := 1) (L' := [(1, .int x1), (0, rf X a0)]) dX8_scheduleFault_1 rfl (by decide) ex1 (by simp [rf_cat, rq_cat]) ?_
  refine g_sub [1, 0] rfl ?_
  exact ok_X8_scheduleFault_L2 l X h FU a0 x1 q hf
theorem ct_X8_scheduleFault (l : Launch) (X : Cx) {h : AH} {a0 : Nat} {q : Int32} (hf : f_X8_scheduleFault h a0 = some q) : Ct l X k_X8_scheduleFault [rf X a0] h (rI (q, h)) := ct_of ck_X8_scheduleFault (by simp [lg_sl, rf_cat, rq_cat, ca_i, ca_l, ca_r]) (by simp [lv_args, rf_cat, rq_cat, ca_i, ca_l, ca_r]) (ok_X8_scheduleFault l X hf)
set_option maxRecDepth 100000 in
set_option maxHeartbeats 4000000 in
theorem ok_X9_has (l : Launch) (X : Cx) {h : AH} {a0 : Nat} {a1 : Int32} {q : Int32} (hf : f_X9_has h a0 a1 = some q) : Go l X k_X9_has 0 [(0, rf X a0), (1, .int a1)] [] h (rI (q, h)) := by
  unfold f_X9_has at hf
  refine g_iload_n (pc := 0) 1 dX9_has_0 rfl rfl ?_
  rcases it_some hf with ⟨c1, hf⟩ | ⟨c1, hf⟩
  · refine g_iflt_t (pc := 1) (tgt := 22) dX9_has_1 (by decide) c1 ?_
    refine g_iconst (pc := 22) (v := (0 : Int32)) dX9_has_22 (by decide) ?_
    obtain rfl := Option.some.inj hf
    exact g_zret (pc := 23) rfl rfl dX9_has_23
  · refine g_iflt_f (pc := 1) (tgt := 22) dX9_has_1 (by decide) c1 ?_
    refine g_iload_n (pc := 4) 1 dX9_has_4 rfl rfl ?_
    refine g_bipush (pc := 5) (v := (32 : Int32)) dX9_has_5 (by decide) ?_
    rcases it_some hf with ⟨c2, hf⟩ | ⟨c2, hf⟩
    · refine g_icge_t (pc := 7) (tgt := 22) dX9_has_7 (by decide) c2 ?_
      refine g_iconst (pc := 22) (v := (0 : Int32)) dX9_has_22 (by decide) ?_
      obtain rfl := Option.some.inj hf
      exact g_zret (pc := 23) rfl rfl dX9_has_23
    · refine g_icge_f (pc := 7) (tgt := 22) dX9_has_7 (by decide) c2 ?_
      refine g_iload_n (pc := 10) 1 dX9_has_10 rfl rfl ?_
      refine g_aload_n (pc := 11) 0 dX9_has_11 rfl rfl ?_
      obtain ⟨g3, hf⟩ := gs_some hf
      refine g_getI (pc := 12) fl_X9_13 dX9_has_12 g3 ?_
      rcases it_some hf with ⟨c4, hf⟩ | ⟨c4, hf⟩
      · refine g_icge_t (pc := 15) (tgt := 22) dX9_has_15 (by decide) c4 ?_
        refine g_iconst (pc := 22) (v := (0 : Int32)) dX9_has_22 (by decide) ?_
        obtain rfl := Option.some.inj hf
        exact g_zret (pc := 23) rfl rfl dX9_has_23
      · refine g_icge_f (pc := 15) (tgt := 22) dX9_has_15 (by decide) c4 ?_
        refine g_iconst (pc := 18) (v := (1 : Int32)) dX9_has_18 (by decide) ?_
        refine g_goto (pc := 19) (tgt := 23) dX9_has_19 (by decide) ?_
        obtain rfl := Option.some.inj hf
        exact g_zret (pc := 23) rfl rfl dX9_has_23
theorem ct_X9_has (l : Launch) (X : Cx) {h : AH} {a0 : Nat} {a1 : Int32} {q : Int32} (hf : f_X9_has h a0 a1 = some q) : Ct l X k_X9_has [rf X a0, .int a1] h (rI (q, h)) := ct_of ck_X9_has (by simp [lg_sl, rf_cat, rq_cat, ca_i, ca_l, ca_r]) (by simp [lv_args, rf_cat, rq_cat, ca_i, ca_l, ca_r]) (ok_X9_has l X hf)
set_option maxRecDepth 100000 in
set_option maxHeartbeats 4000000 in
theorem ok_X9_get (l : Launch) (X : Cx) {h : AH} {a0 : Nat} {a1 : Int32} {a2 : Int32} {q : Int32} (hf : f_X9_get h a0 a1 a2 = some q) : Go l X k_X9_get 0 [(0, rf X a0), (1, .int a1), (2, .int a2)] [] h (rI (q, h)) := by
  unfold f_X9_get at hf
  refine g_aload_n (pc := 0) 0 dX9_get_0 rfl rfl ?_
  obtain ⟨g1, hf⟩ := gs_some hf
  refine g_getR (pc := 1) fl_X9_9 dX9_get_1 g1 ?_
  refine g_aload_n (pc := 4) 0 dX9_get_4 rfl rfl ?_
  refine g_getI (pc := 5) fl_X9_13 dX9_get_5 g1 ?_
  refine g_iconst (pc := 8) (v := (1 : Int32)) dX9_get_8 (by decide) ?_
  refine g_isub (pc := 9) dX9_get_9 ?_
  refine g_iload_n (pc := 10) 1 dX9_get_10 rfl rfl ?_
  refine g_isub (pc := 11) dX9_get_11 ?_
  refine g_bipush (pc := 12) (v := (32 : Int32)) dX9_get_12 (by decide) ?_
  refine g_irem (pc := 14) (by decide) dX9_get_14 ?_
  refine g_bipush (pc := 15) (v := (8 : Int32)) dX9_get_15 (by decide) ?_
  refine g_imul (pc := 17) dX9_get_17 ?_
  refine g_iload_n (pc := 18) 2 dX9_get_18 rfl rfl ?_
  refine g_iadd (pc := 19) dX9_get_19 ?_
  obtain ⟨g2, hf⟩ := gs_some hf
  obtain ⟨b3, hf⟩ := gb_some hf
  refine g_iald (pc := 20) g2 b3 dX9_get_20 ?_
  obtain rfl := Option.some.inj hf
  exact g_iret (pc := 21) rfl dX9_get_21
theorem ct_X9_get (l : Launch) (X : Cx) {h : AH} {a0 : Nat} {a1 : Int32} {a2 : Int32} {q : Int32} (hf : f_X9_get h a0 a1 a2 = some q) : Ct l X k_X9_get [rf X a0, .int a1, .int a2] h (rI (q, h)) := ct_of ck_X9_get (by simp [lg_sl, rf_cat, rq_cat, ca_i, ca_l, ca_r]) (by simp [lv_args, rf_cat, rq_cat, ca_i, ca_l, ca_r]) (ok_X9_get l X hf)
set_option maxRecDepth 100000 in
set_option maxHeartbeats 4000000 in
theorem ok_X10_init_L131 (l : Launch) (X : Cx) : ∀ (n : Nat) (h : AH) (a0 : Nat) (a1 : Int32) (q : AH), f_X10_init_L131 n h a0 a1 = some q → Go l X k_X10_init 131 [(0, rf X a0), (1, .int a1)] [] h (rV q) := by
  intro n
  induction n with
  | zero =>
    intro h a0 a1 q hf
    unfold f_X10_init_L131 at hf
    cases hf
  | succ n ih =>
    intro h a0 a1 q hf
    unfold f_X10_init_L131 at hf
    refine g_iload_n (pc := 131) 1 dX10_init_131 rfl rfl ?_
    refine g_bipush (pc := 132) (v := (16 : Int32)) dX10_init_132 (by decide) ?_
    rcases it_some hf with ⟨c1, hf⟩ | ⟨c1, hf⟩
    · refine g_icge_t (pc := 134) (tgt := 161) dX10_init_134 (by decide) c1 ?_
      obtain rfl := Option.some.inj hf
      exact g_vret (pc := 161) rfl dX10_init_161
    · refine g_icge_f (pc := 134) (tgt := 161) dX10_init_134 (by decide) c1 ?_
      refine g_aload_n (pc := 137) 0 dX10_init_137 rfl rfl ?_
      obtain ⟨g2, hf⟩ := gs_some hf
      refine g_getR (pc := 138) fl_X10_43 dX10_init_138 g2 ?_
      refine g_iload_n (pc := 141) 1 dX10_init_141 rfl rfl ?_
      obtain ⟨h3, eh3, hf⟩ := lt_some hf
      refine g_new (pc := 142) nl_X10_41 dX10_init_142 eh3 ?_
      refine g_dup (pc := 145) dX10_init_145 (rf_cat X _) ?_
      refine g_iload_n (pc := 146) 1 dX10_init_146 rfl rfl ?_
      refine g_aload_n (pc := 147) 0 dX10_init_147 rfl rfl ?_
      obtain ⟨g4, hf⟩ := gs_some hf
      refine g_getR (pc := 148) fl_X10_28 dX10_init_148 g4 ?_
      have g5 : hS h3 (hZ h + 1) = 3 := (hS_nw eh3)
      obtain ⟨q6, hcq6, hf⟩ := bd_some hf
      refine g_cIV (pc := 151) (k2 := k_X3_init) (av := [.int a1, rf X (hR h3 a0 2)]) (q := q6) rfl dX10_init_151 ck_X3_init rfl rfl m_350 m_351 3 g5 (by decide) (by decide) (by decide) rfl (by simp [rf_cat, rq_cat, ca_i, ca_l, ca_r]) (ct_X3_init l X hcq6) ?_
      obtain ⟨g7, hf⟩ := gs_some hf
      obtain ⟨b8, hf⟩ := gb_some hf
      obtain ⟨g9, hf⟩ := gs_some hf
      obtain ⟨h10, eh10, hf⟩ := lt_some hf
      refine g_astq (pc := 154) 2 rfl (by decide) g7 b8 g9 dX10_init_154 eh10 ?_
      obtain ⟨x11, ex11, hf⟩ := lt_some hf
      refine g_iinc (pc := 155) (y := x11) (L' := [(1, .int x11), (0, rf X a0)]) 1 dX10_init_155 rfl (by decide) (ex11.trans rfl) (by simp [rf_cat, rq_cat]) ?_
      refine g_goto (pc := 158) (tgt := 131) dX10_init_158 (by decide) ?_
      refine g_sub [1, 0] rfl ?_
      exact ih h10 a0 x11 q hf
set_option maxRecDepth 100000 in
set_option maxHeartbeats 4000000 in
theorem ok_X10_init_L106 (l : Launch) (X : Cx) (h : AH) (a0 : Nat) (s0 : Nat) (s1 : Nat) (q : AH) (hf : f_X10_init_L106 h a0 s0 s1 = some q) : Go l X k_X10_init 106 [(0, rf X a0)] [rf X s1, rf X s0] h (rV q) := by
  unfold f_X10_init_L106 at hf
  refine g_dup (pc := 106) dX10_init_106 (rf_cat X _) ?_
  refine g_iconst (pc := 107) (v := (1 : Int32)) dX10_init_107 (by decide) ?_
  refine g_iconst (pc := 108) (v := (1 : Int32)) dX10_init_108 (by decide) ?_
  obtain ⟨g1, hf⟩ := gs_some hf
  obtain ⟨b2, hf⟩ := gb_some hf
  obtain ⟨h3, eh3, hf⟩ := lt_some hf
  refine g_iast (pc := 109) g1 b2 dX10_init_109 eh3 ?_
  refine g_dup (pc := 110) dX10_init_110 (rf_cat X _) ?_
  refine g_iconst (pc := 111) (v := (2 : Int32)) dX10_init_111 (by decide) ?_
  refine g_iconst (pc := 112) (v := (1 : Int32)) dX10_init_112 (by decide) ?_
  have g4 : hS h3 s1 = 21 := (hS_tI eh3 g1)
  obtain ⟨b5, hf⟩ := gb_some hf
  obtain ⟨h6, eh6, hf⟩ := lt_some hf
  refine g_iast (pc := 113) g4 b5 dX10_init_113 eh6 ?_
  refine g_dup (pc := 114) dX10_init_114 (rf_cat X _) ?_
  refine g_iconst (pc := 115) (v := (3 : Int32)) dX10_init_115 (by decide) ?_
  refine g_iconst (pc := 116) (v := (1 : Int32)) dX10_init_116 (by decide) ?_
  have g7 : hS h6 s1 = 21 := (hS_tI eh6 g4)
  obtain ⟨b8, hf⟩ := gb_some hf
  obtain ⟨h9, eh9, hf⟩ := lt_some hf
  refine g_iast (pc := 117) g7 b8 dX10_init_117 eh9 ?_
  refine g_dup (pc := 118) dX10_init_118 (rf_cat X _) ?_
  refine g_iconst (pc := 119) (v := (4 : Int32)) dX10_init_119 (by decide) ?_
  refine g_iconst (pc := 120) (v := (1 : Int32)) dX10_init_120 (by decide) ?_
  have g10 : hS h9 s1 = 21 := (hS_tI eh9 g7)
  obtain ⟨b11, hf⟩ := gb_some hf
  obtain ⟨h12, eh12, hf⟩ := lt_some hf
  refine g_iast (pc := 121) g10 b11 dX10_init_121 eh12 ?_
  refine g_dup (pc := 122) dX10_init_122 (rf_cat X _) ?_
  refine g_iconst (pc := 123) (v := (5 : Int32)) dX10_init_123 (by decide) ?_
  refine g_iconst (pc := 124) (v := (1 : Int32)) dX10_init_124 (by decide) ?_
  have g13 : hS h12 s1 = 21 := (hS_tI eh12 g10)
  obtain ⟨b14, hf⟩ := gb_some hf
  obtain ⟨h15, eh15, hf⟩ := lt_some hf
  refine g_iast (pc := 125) g13 b14 dX10_init_125 eh15 ?_
  obtain ⟨g16, hf⟩ := gs_some hf
  obtain ⟨h17, eh17, hf⟩ := lt_some hf
  refine g_putRF (pc := 126) fl_X10_51 rfl (cl_own rfl) (Or.inr ⟨_, rfl⟩) dX10_init_126 g16 eh17 ?_
  refine g_iconst (pc := 129) (v := (0 : Int32)) dX10_init_129 (by decide) ?_
  obtain ⟨x18, ex18, hf⟩ := lt_some hf
  refine g_istore_n (pc := 130) (L' := [(1, .int x18), (0, rf X a0)]) dX10_init_130 rfl (by decide) ex18 (by simp [rf_cat, rq_cat]) ?_
  refine g_sub [1, 0] rfl ?_
  exact ok_X10_init_L131 l X FU h17 a0 x18 q hf
set_option maxRecDepth 100000 in
set_option maxHeartbeats 4000000 in
theorem ok_X10_init (l : Launch) (X : Cx) {h : AH} {a0 : Nat} {q : AH} (hf : f_X10_init h a0 = some q) : Go l X k_X10_init 0 [(0, rf X a0)] [] h (rV q) := by
  unfold f_X10_init at hf
  refine g_aload_n (pc := 0) 0 dX10_init_0 rfl rfl ?_
  obtain ⟨g1, hf⟩ := gs_some hf
  refine g_objInit (pc := 1) m_153 m_154 m_155 g1 (by decide) (by decide) (by decide) (by simp [rf_cat, rq_cat, ca_i, ca_l, ca_r]) dX10_init_1 ?_
  refine g_aload_n (pc := 4) 0 dX10_init_4 rfl rfl ?_
  obtain ⟨h2, eh2, hf⟩ := lt_some hf
  refine g_new (pc := 5) nl_X10_9 dX10_init_5 eh2 ?_
  refine g_dup (pc := 8) dX10_init_8 (rf_cat X _) ?_
  have g3 : hS h2 (hZ h + 1) = 7 := (hS_nw eh2)
  obtain ⟨q4, hcq4, hf⟩ := bd_some hf
  refine g_nIV (pc := 9) (k2 := k_X8_init) (av := []) (q := q4) rfl dX10_init_9 ck_X8_init rfl rfl 0 rfl m_159 7 g3 (by decide) (by decide) (by decide) rfl (by simp [rf_cat, rq_cat, ca_i, ca_l, ca_r]) (ct_X8_init l X hcq4) ?_
  obtain ⟨g5, hf⟩ := gs_some hf
  obtain ⟨h6, eh6, hf⟩ := lt_some hf
  refine g_putRF (pc := 12) fl_X10_12 rfl (cl_own rfl) (Or.inl ⟨_, rfl⟩) dX10_init_12 g5 eh6 ?_
  refine g_aload_n (pc := 15) 0 dX10_init_15 rfl rfl ?_
  obtain ⟨h7, eh7, hf⟩ := lt_some hf
  refine g_new (pc := 16) nl_X10_16 dX10_init_16 eh7 ?_
  refine g_dup (pc := 19) dX10_init_19 (rf_cat X _) ?_
  refine g_aload_n (pc := 20) 0 dX10_init_20 rfl rfl ?_
  obtain ⟨g8, hf⟩ := gs_some hf
  refine g_getR (pc := 21) fl_X10_12 dX10_init_21 g8 ?_
  have g9 : hS h7 (hZ h6 + 1) = 1 := (hS_nw eh7)
  obtain ⟨q10, hcq10, hf⟩ := bd_some hf
  refine g_cIV (pc := 24) (k2 := k_X1_init) (av := [rf X (hR h7 a0 0)]) (q := q10) rfl dX10_init_24 ck_X1_init rfl rfl m_190 m_191 1 g9 (by decide) (by decide) (by decide) rfl (by simp [rf_cat, rq_cat, ca_i, ca_l, ca_r]) (ct_X1_init l X hcq10) ?_
  obtain ⟨g11, hf⟩ := gs_some hf
  obtain ⟨h12, eh12, hf⟩ := lt_some hf
  refine g_putRF (pc := 27) fl_X10_21 rfl (cl_own rfl) (Or.inl ⟨_, rfl⟩) dX10_init_27 g11 eh12 ?_
  refine g_aload_n (pc := 30) 0 dX10_init_30 rfl rfl ?_
  obtain ⟨h13, eh13, hf⟩ := lt_some hf
  refine g_new (pc := 31) nl_X10_25 dX10_init_31 eh13 ?_
  refine g_dup (pc := 34) dX10_init_34 (rf_cat X _) ?_
  have g14 : hS h13 (hZ h12 + 1) = 5 := (hS_nw eh13)
  obtain ⟨q15, hcq15, hf⟩ := bd_some hf
  refine g_nIV (pc := 35) (k2 := k_X6_init) (av := []) (q := q15) rfl dX10_init_35 ck_X6_init rfl rfl 1 rfl m_257 5 g14 (by decide) (by decide) (by decide) rfl (by simp [rf_cat, rq_cat, ca_i, ca_l, ca_r]) (ct_X6_init l X hcq15) ?_
  obtain ⟨g16, hf⟩ := gs_some hf
  obtain ⟨h17, eh17, hf⟩ := lt_some hf
  refine g_putRF (pc := 38) fl_X10_28 rfl (cl_own rfl) (Or.inl ⟨_, rfl⟩) dX10_init_38 g16 eh17 ?_
  refine g_aload_n (pc := 41) 0 dX10_init_41 rfl rfl ?_
  obtain ⟨h18, eh18, hf⟩ := lt_some hf
  refine g_new (pc := 42) nl_X10_32 dX10_init_42 eh18 ?_
  refine g_dup (pc := 45) dX10_init_45 (rf_cat X _) ?_
  refine g_aload_n (pc := 46) 0 dX10_init_46 rfl rfl ?_
  obtain ⟨g19, hf⟩ := gs_some hf
  refine g_getR (pc := 47) fl_X10_28 dX10_init_47 g19 ?_
  have g20 : hS h18 (hZ h17 + 1) = 4 := (hS_nw eh18)
  obtain ⟨q21, hcq21, hf⟩ := bd_some hf
  refine g_cIV (pc := 50) (k2 := k_X4_init) (av := [rf X (hR h18 a0 2)]) (q := q21) rfl dX10_init_50 ck_X4_init rfl rfl m_278 m_279 4 g20 (by decide) (by decide) (by decide) rfl (by simp [rf_cat, rq_cat, ca_i, ca_l, ca_r]) (ct_X4_init l X hcq21) ?_
  obtain ⟨g22, hf⟩ := gs_some hf
  obtain ⟨h23, eh23, hf⟩ := lt_some hf
  refine g_putRF (pc := 53) fl_X10_37 rfl (cl_own rfl) (Or.inl ⟨_, rfl⟩) dX10_init_53 g22 eh23 ?_
  refine g_aload_n (pc := 56) 0 dX10_init_56 rfl rfl ?_
  refine g_bipush (pc := 57) (v := (16 : Int32)) dX10_init_57 (by decide) ?_
  obtain ⟨h24, eh24, hf⟩ := lt_some hf
  refine g_newQ (pc := 59) m_347 dX10_init_59 (by decide) eh24 ?_
  obtain ⟨g25, hf⟩ := gs_some hf
  obtain ⟨h26, eh26, hf⟩ := lt_some hf
  refine g_putRF (pc := 62) fl_X10_43 rfl (cl_own rfl) (Or.inr ⟨_, rfl⟩) dX10_init_62 g25 eh26 ?_
  refine g_aload_n (pc := 65) 0 dX10_init_65 rfl rfl ?_
  refine g_bipush (pc := 66) (v := (6 : Int32)) dX10_init_66 (by decide) ?_
  obtain ⟨h27, eh27, hf⟩ := lt_some hf
  refine g_newI (pc := 68) m_252 dX10_init_68 (by decide) eh27 ?_
  refine g_dup (pc := 70) dX10_init_70 (rf_cat X _) ?_
  refine g_iconst (pc := 71) (v := (0 : Int32)) dX10_init_71 (by decide) ?_
  refine g_iconst (pc := 72) (v := (1 : Int32)) dX10_init_72 (by decide) ?_
  have g28 : hS h27 (hZ h26 + 1) = 21 := (hS_nw eh27)
  obtain ⟨b29, hf⟩ := gb_some hf
  obtain ⟨h30, eh30, hf⟩ := lt_some hf
  refine g_iast (pc := 73) g28 b29 dX10_init_73 eh30 ?_
  refine g_dup (pc := 74) dX10_init_74 (rf_cat X _) ?_
  refine g_iconst (pc := 75) (v := (1 : Int32)) dX10_init_75 (by decide) ?_
  refine g_iconst (pc := 76) (v := (1 : Int32)) dX10_init_76 (by decide) ?_
  have g31 : hS h30 (hZ h26 + 1) = 21 := (hS_tI eh30 g28)
  obtain ⟨b32, hf⟩ := gb_some hf
  obtain ⟨h33, eh33, hf⟩ := lt_some hf
  refine g_iast (pc := 77) g31 b32 dX10_init_77 eh33 ?_
  refine g_dup (pc := 78) dX10_init_78 (rf_cat X _) ?_
  refine g_iconst (pc := 79) (v := (2 : Int32)) dX10_init_79 (by decide) ?_
  refine g_iconst (pc := 80) (v := (1 : Int32)) dX10_init_80 (by decide) ?_
  have g34 : hS h33 (hZ h26 + 1) = 21 := (hS_tI eh33 g31)
  obtain ⟨b35, hf⟩ := gb_some hf
  obtain ⟨h36, eh36, hf⟩ := lt_some hf
  refine g_iast (pc := 81) g34 b35 dX10_init_81 eh36 ?_
  refine g_dup (pc := 82) dX10_init_82 (rf_cat X _) ?_
  refine g_iconst (pc := 83) (v := (3 : Int32)) dX10_init_83 (by decide) ?_
  refine g_iconst (pc := 84) (v := (1 : Int32)) dX10_init_84 (by decide) ?_
  have g37 : hS h36 (hZ h26 + 1) = 21 := (hS_tI eh36 g34)
  obtain ⟨b38, hf⟩ := gb_some hf
  obtain ⟨h39, eh39, hf⟩ := lt_some hf
  refine g_iast (pc := 85) g37 b38 dX10_init_85 eh39 ?_
  refine g_dup (pc := 86) dX10_init_86 (rf_cat X _) ?_
  refine g_iconst (pc := 87) (v := (4 : Int32)) dX10_init_87 (by decide) ?_
  refine g_iconst (pc := 88) (v := (1 : Int32)) dX10_init_88 (by decide) ?_
  have g40 : hS h39 (hZ h26 + 1) = 21 := (hS_tI eh39 g37)
  obtain ⟨b41, hf⟩ := gb_some hf
  obtain ⟨h42, eh42, hf⟩ := lt_some hf
  refine g_iast (pc := 89) g40 b41 dX10_init_89 eh42 ?_
  refine g_dup (pc := 90) dX10_init_90 (rf_cat X _) ?_
  refine g_iconst (pc := 91) (v := (5 : Int32)) dX10_init_91 (by decide) ?_
  refine g_iconst (pc := 92) (v := (1 : Int32)) dX10_init_92 (by decide) ?_
  have g43 : hS h42 (hZ h26 + 1) = 21 := (hS_tI eh42 g40)
  obtain ⟨b44, hf⟩ := gb_some hf
  obtain ⟨h45, eh45, hf⟩ := lt_some hf
  refine g_iast (pc := 93) g43 b44 dX10_init_93 eh45 ?_
  obtain ⟨g46, hf⟩ := gs_some hf
  obtain ⟨h47, eh47, hf⟩ := lt_some hf
  refine g_putRF (pc := 94) fl_X10_47 rfl (cl_own rfl) (Or.inr ⟨_, rfl⟩) dX10_init_94 g46 eh47 ?_
  refine g_aload_n (pc := 97) 0 dX10_init_97 rfl rfl ?_
  refine g_bipush (pc := 98) (v := (6 : Int32)) dX10_init_98 (by decide) ?_
  obtain ⟨h48, eh48, hf⟩ := lt_some hf
  refine g_newI (pc := 100) m_252 dX10_init_100 (by decide) eh48 ?_
  refine g_dup (pc := 102) dX10_init_102 (rf_cat X _) ?_
  refine g_iconst (pc := 103) (v := (0 : Int32)) dX10_init_103 (by decide) ?_
  refine g_iconst (pc := 104) (v := (1 : Int32)) dX10_init_104 (by decide) ?_
  have g49 : hS h48 (hZ h47 + 1) = 21 := (hS_nw eh48)
  obtain ⟨b50, hf⟩ := gb_some hf
  obtain ⟨h51, eh51, hf⟩ := lt_some hf
  refine g_iast (pc := 105) g49 b50 dX10_init_105 eh51 ?_
  exact ok_X10_init_L106 l X h51 a0 a0 (hZ h47 + 1) q hf
theorem ct_X10_init (l : Launch) (X : Cx) {h : AH} {a0 : Nat} {q : AH} (hf : f_X10_init h a0 = some q) : Ct l X k_X10_init [rf X a0] h (rV q) := ct_of ck_X10_init (by simp [lg_sl, rf_cat, rq_cat, ca_i, ca_l, ca_r]) (by simp [lv_args, rf_cat, rq_cat, ca_i, ca_l, ca_r]) (ok_X10_init l X hf)
set_option maxRecDepth 100000 in
set_option maxHeartbeats 4000000 in
theorem ok_X10_type (l : Launch) (X : Cx) {h : AH} {a0 : Nat} {a1 : Int64} {a3 : Int32} {q : Int32 × AH} (hf : f_X10_type h a0 a1 a3 = some q) : Go l X k_X10_type 0 [(0, rf X a0), (1, .long a1), (3, .int a3)] [] h (rI q) := by
  unfold f_X10_type at hf
  refine g_aload_n (pc := 0) 0 dX10_type_0 rfl rfl ?_
  obtain ⟨g1, hf⟩ := gs_some hf
  refine g_getR (pc := 1) fl_X10_12 dX10_type_1 g1 ?_
  refine g_lload_n (pc := 4) 1 dX10_type_4 rfl rfl ?_
  refine g_iload_n (pc := 5) 2 dX10_type_5 rfl rfl ?_
  obtain ⟨g2, hf⟩ := gs_some hf
  obtain ⟨q3, hcq3, hf⟩ := bd_some hf
  refine g_cVI (pc := 6) (k2 := k_X8_append) (av := [.long a1, .int a3]) (q := q3) rfl dX10_type_6 ck_X8_append m_529 m_530 m_531 (ci := 6) rfl (by decide) g2 (by decide) (by decide) rfl (by simp [rf_cat, rq_cat, ca_i, ca_l, ca_r]) (ct_X8_append l X hcq3) ?_
  obtain ⟨b4, hf⟩ := gb_some hf
  obtain rfl := Option.some.inj hf
  exact g_zret (pc := 9) rfl b4 dX10_type_9
theorem ct_X10_type (l : Launch) (X : Cx) {h : AH} {a0 : Nat} {a1 : Int64} {a3 : Int32} {q : Int32 × AH} (hf : f_X10_type h a0 a1 a3 = some q) : Ct l X k_X10_type [rf X a0, .long a1, .int a3] h (rI q) := ct_of ck_X10_type (by simp [lg_sl, rf_cat, rq_cat, ca_i, ca_l, ca_r]) (by simp [lv_args, rf_cat, rq_cat, ca_i, ca_l, ca_r]) (ok_X10_type l X hf)
set_option maxRecDepth 100000 in
set_option maxHeartbeats 4000000 in
theorem ok_X10_isPower (l : Launch) (X : Cx) {h : AH} {a0 : Int32} {a1 : Int32} {q : Int32} (hf : f_X10_isPower h a0 a1 = some q) : Go l X k_X10_isPower 0 [(0, .int a0), (1, .int a1)] [] h (rI (q, h)) := by
  unfold f_X10_isPower at hf
  refine g_iload_n (pc := 0) 0 dX10_isPower_0 rfl rfl ?_
  refine g_iconst (pc := 1) (v := (1 : Int32)) dX10_isPower_1 (by decide) ?_
  rcases it_some hf with ⟨c1, hf⟩ | ⟨c1, hf⟩
  · refine g_iclt_t (pc := 2) (tgt := 22) dX10_isPower_2 (by decide) c1 ?_
    refine g_iconst (pc := 22) (v := (0 : Int32)) dX10_isPower_22 (by decide) ?_
    obtain rfl := Option.some.inj hf
    exact g_zret (pc := 23) rfl rfl dX10_isPower_23
  · refine g_iclt_f (pc := 2) (tgt := 22) dX10_isPower_2 (by decide) c1 ?_
    refine g_iload_n (pc := 5) 0 dX10_isPower_5 rfl rfl ?_
    refine g_iload_n (pc := 6) 1 dX10_isPower_6 rfl rfl ?_
    rcases it_some hf with ⟨c2, hf⟩ | ⟨c2, hf⟩
    · refine g_icgt_t (pc := 7) (tgt := 22) dX10_isPower_7 (by decide) c2 ?_
      refine g_iconst (pc := 22) (v := (0 : Int32)) dX10_isPower_22 (by decide) ?_
      obtain rfl := Option.some.inj hf
      exact g_zret (pc := 23) rfl rfl dX10_isPower_23
    · refine g_icgt_f (pc := 7) (tgt := 22) dX10_isPower_7 (by decide) c2 ?_
      refine g_iload_n (pc := 10) 0 dX10_isPower_10 rfl rfl ?_
      refine g_iload_n (pc := 11) 0 dX10_isPower_11 rfl rfl ?_
      refine g_iconst (pc := 12) (v := (1 : Int32)) dX10_isPower_12 (by decide) ?_
      refine g_isub (pc := 13) dX10_isPower_13 ?_
      refine g_iand (pc := 14) dX10_isPower_14 ?_
      rcases it_some hf with ⟨c3, hf⟩ | ⟨c3, hf⟩
      · refine g_ifne_t (pc := 15) (tgt := 22) dX10_isPower_15 (by decide) c3 ?_
        refine g_iconst (pc := 22) (v := (0 : Int32)) dX10_isPower_22 (by decide) ?_
        obtain rfl := Option.some.inj hf
        exact g_zret (pc := 23) rfl rfl dX10_isPower_23
      · refine g_ifne_f (pc := 15) (tgt := 22) dX10_isPower_15 (by decide) (Decidable.of_not_not c3) ?_
        refine g_iconst (pc := 18) (v := (1 : Int32)) dX10_isPower_18 (by decide) ?_
        refine g_goto (pc := 19) (tgt := 23) dX10_isPower_19 (by decide) ?_
        obtain rfl := Option.some.inj hf
        exact g_zret (pc := 23) rfl rfl dX10_isPower_23
theorem ct_X10_isPower (l : Launch) (X : Cx) {h : AH} {a0 : Int32} {a1 : Int32} {q : Int32} (hf : f_X10_isPower h a0 a1 = some q) : Ct l X k_X10_isPower [.int a0, .int a1] h (rI (q, h)) := ct_of ck_X10_isPower (by simp [lg_sl, rf_cat, rq_cat, ca_i, ca_l, ca_r]) (by simp [lv_args, rf_cat, rq_cat, ca_i, ca_l, ca_r]) (ok_X10_isPower l X hf)
set_option maxRecDepth 100000 in
set_option maxHeartbeats 4000000 in
theorem ok_X10_sizes_L104 (l : Launch) (X : Cx) (h : AH) (a0 : Nat) (a4 : Int32) (a5 : Int32) (a6 : Int32) (q : Int32 × AH) (hf : f_X10_sizes_L104 h a0 a4 a5 a6 = some q) : Go l X k_X10_sizes 104 [(0, rf X a0), (4, .int a4), (5, .int a5), (6, .int a6)] [] h (rI q) := by
  unfold f_X10_sizes_L104 at hf
  refine g_aload_n (pc := 104) 0 dX10_sizes_104 rfl rfl ?_
  obtain ⟨g1, hf⟩ := gs_some hf
  refine g_getR (pc := 105) fl_X10_51 dX10_sizes_105 g1 ?_
  refine g_iconst (pc := 108) (v := (3 : Int32)) dX10_sizes_108 (by decide) ?_
  refine g_iload (pc := 109) 1 dX10_sizes_109 rfl ?_
  obtain ⟨g2, hf⟩ := gs_some hf
  obtain ⟨b3, hf⟩ := gb_some hf
  obtain ⟨h4, eh4, hf⟩ := lt_some hf
  refine g_iast (pc := 111) g2 b3 dX10_sizes_111 eh4 ?_
  refine g_aload_n (pc := 112) 0 dX10_sizes_112 rfl rfl ?_
  have g5 : hS h4 a0 = 9 := (hS_tI eh4 g1)
  refine g_getR (pc := 113) fl_X10_51 dX10_sizes_113 g5 ?_
  refine g_iconst (pc := 116) (v := (4 : Int32)) dX10_sizes_116 (by decide) ?_
  refine g_iload (pc := 117) 2 dX10_sizes_117 rfl ?_
  obtain ⟨g6, hf⟩ := gs_some hf
  obtain ⟨b7, hf⟩ := gb_some hf
  obtain ⟨h8, eh8, hf⟩ := lt_some hf
  refine g_iast (pc := 119) g6 b7 dX10_sizes_119 eh8 ?_
  refine g_aload_n (pc := 120) 0 dX10_sizes_120 rfl rfl ?_
  have g9 : hS h8 a0 = 9 := (hS_tI eh8 g5)
  refine g_getR (pc := 121) fl_X10_51 dX10_sizes_121 g9 ?_
  refine g_iconst (pc := 124) (v := (5 : Int32)) dX10_sizes_124 (by decide) ?_
  refine g_iload (pc := 125) 3 dX10_sizes_125 rfl ?_
  obtain ⟨g10, hf⟩ := gs_some hf
  obtain ⟨b11, hf⟩ := gb_some hf
  obtain ⟨h12, eh12, hf⟩ := lt_some hf
  refine g_iast (pc := 127) g10 b11 dX10_sizes_127 eh12 ?_
  refine g_iconst (pc := 128) (v := (1 : Int32)) dX10_sizes_128 (by decide) ?_
  obtain rfl := Option.some.inj hf
  exact g_zret (pc := 129) rfl rfl dX10_sizes_129
set_option maxRecDepth 100000 in
set_option maxHeartbeats 4000000 in
theorem ok_X10_sizes (l : Launch) (X : Cx) {h : AH} {a0 : Nat} {a1 : Int32} {a2 : Int32} {a3 : Int32} {a4 : Int32} {a5 : Int32} {a6 : Int32} {q : Int32 × AH} (hf : f_X10_sizes h a0 a1 a2 a3 a4 a5 a6 = some q) : Go l X k_X10_sizes 0 [(0, rf X a0), (1, .int a1), (2, .int a2), (3, .int a3), (4, .int a4), (5, .int a5), (6, .int a6)] [] h (rI q) := by
  unfold f_X10_sizes at hf
  refine g_iload_n (pc := 0) 1 dX10_sizes_0 rfl rfl ?_
  refine g_iconst (pc := 1) (v := (1 : Int32)) dX10_sizes_1 (by decide) ?_
  rcases it_some hf with ⟨c1, hf⟩ | ⟨c1, hf⟩
  · refine g_iclt_t (pc := 2) (tgt := 22) dX10_sizes_2 (by decide) c1 ?_
    refine g_iconst (pc := 22) (v := (0 : Int32)) dX10_sizes_22 (by decide) ?_
    obtain rfl := Option.some.inj hf
    exact g_zret (pc := 23) rfl rfl dX10_sizes_23
  · refine g_iclt_f (pc := 2) (tgt := 22) dX10_sizes_2 (by decide) c1 ?_
    refine g_iload_n (pc := 5) 1 dX10_sizes_5 rfl rfl ?_
    refine g_bipush (pc := 6) (v := (16 : Int32)) dX10_sizes_6 (by decide) ?_
    rcases it_some hf with ⟨c2, hf⟩ | ⟨c2, hf⟩
    · refine g_icgt_t (pc := 8) (tgt := 22) dX10_sizes_8 (by decide) c2 ?_
      refine g_iconst (pc := 22) (v := (0 : Int32)) dX10_sizes_22 (by decide) ?_
      obtain rfl := Option.some.inj hf
      exact g_zret (pc := 23) rfl rfl dX10_sizes_23
    · refine g_icgt_f (pc := 8) (tgt := 22) dX10_sizes_8 (by decide) c2 ?_
      refine g_iload_n (pc := 11) 2 dX10_sizes_11 rfl rfl ?_
      refine g_iconst (pc := 12) (v := (1 : Int32)) dX10_sizes_12 (by decide) ?_
      rcases it_some hf with ⟨c3, hf⟩ | ⟨c3, hf⟩
      · refine g_iclt_t (pc := 13) (tgt := 22) dX10_sizes_13 (by decide) c3 ?_
        refine g_iconst (pc := 22) (v := (0 : Int32)) dX10_sizes_22 (by decide) ?_
        obtain rfl := Option.some.inj hf
        exact g_zret (pc := 23) rfl rfl dX10_sizes_23
      · refine g_iclt_f (pc := 13) (tgt := 22) dX10_sizes_13 (by decide) c3 ?_
        refine g_iload_n (pc := 16) 2 dX10_sizes_16 rfl rfl ?_
        refine g_bipush (pc := 17) (v := (16 : Int32)) dX10_sizes_17 (by decide) ?_
        rcases it_some hf with ⟨c4, hf⟩ | ⟨c4, hf⟩
        · refine g_icle_t (pc := 19) (tgt := 24) dX10_sizes_19 (by decide) c4 ?_
          refine g_iload_n (pc := 24) 3 dX10_sizes_24 rfl rfl ?_
          refine g_bipush (pc := 25) (v := (8 : Int32)) dX10_sizes_25 (by decide) ?_
          obtain ⟨v5, hcv5, hf⟩ := bd_some hf
          refine g_cSI (pc := 27) (k2 := k_X10_isPower) (av := [.int a3, .int (8 : Int32)]) (q := (v5, h)) rfl dX10_sizes_27 ck_X10_isPower m_538 m_539 (by decide) (by decide) rfl (by simp [rf_cat, rq_cat, ca_i, ca_l, ca_r]) (ct_X10_isPower l X hcv5) ?_
          rcases it_some hf with ⟨c6, hf⟩ | ⟨c6, hf⟩
          · refine g_ifeq_t (pc := 30) (tgt := 65) dX10_sizes_30 (by decide) c6 ?_
            refine g_iconst (pc := 65) (v := (0 : Int32)) dX10_sizes_65 (by decide) ?_
            obtain rfl := Option.some.inj hf
            exact g_zret (pc := 66) rfl rfl dX10_sizes_66
          · refine g_ifeq_f (pc := 30) (tgt := 65) dX10_sizes_30 (by decide) c6 ?_
            refine g_iload (pc := 33) 4 dX10_sizes_33 rfl ?_
            refine g_iconst (pc := 35) (v := (4 : Int32)) dX10_sizes_35 (by decide) ?_
            obtain ⟨v7, hcv7, hf⟩ := bd_some hf
            refine g_cSI (pc := 36) (k2 := k_X10_isPower) (av := [.int a4, .int (4 : Int32)]) (q := (v7, h)) rfl dX10_sizes_36 ck_X10_isPower m_538 m_539 (by decide) (by decide) rfl (by simp [rf_cat, rq_cat, ca_i, ca_l, ca_r]) (ct_X10_isPower l X hcv7) ?_
            rcases it_some hf with ⟨c8, hf⟩ | ⟨c8, hf⟩
            · refine g_ifeq_t (pc := 39) (tgt := 65) dX10_sizes_39 (by decide) c8 ?_
              refine g_iconst (pc := 65) (v := (0 : Int32)) dX10_sizes_65 (by decide) ?_
              obtain rfl := Option.some.inj hf
              exact g_zret (pc := 66) rfl rfl dX10_sizes_66
            · refine g_ifeq_f (pc := 39) (tgt := 65) dX10_sizes_39 (by decide) c8 ?_
              refine g_iload (pc := 42) 5 dX10_sizes_42 rfl ?_
              refine g_bipush (pc := 44) (v := (64 : Int32)) dX10_sizes_44 (by decide) ?_
              obtain ⟨v9, hcv9, hf⟩ := bd_some hf
              refine g_cSI (pc := 46) (k2 := k_X10_isPower) (av := [.int a5, .int (64 : Int32)]) (q := (v9, h)) rfl dX10_sizes_46 ck_X10_isPower m_538 m_539 (by decide) (by decide) rfl (by simp [rf_cat, rq_cat, ca_i, ca_l, ca_r]) (ct_X10_isPower l X hcv9) ?_
              rcases it_some hf with ⟨c10, hf⟩ | ⟨c10, hf⟩
              · refine g_ifeq_t (pc := 49) (tgt := 65) dX10_sizes_49 (by decide) c10 ?_
                refine g_iconst (pc := 65) (v := (0 : Int32)) dX10_sizes_65 (by decide) ?_
                obtain rfl := Option.some.inj hf
                exact g_zret (pc := 66) rfl rfl dX10_sizes_66
              · refine g_ifeq_f (pc := 49) (tgt := 65) dX10_sizes_49 (by decide) c10 ?_
                refine g_iload (pc := 52) 6 dX10_sizes_52 rfl ?_
                refine g_iconst (pc := 54) (v := (1 : Int32)) dX10_sizes_54 (by decide) ?_
                rcases it_some hf with ⟨c11, hf⟩ | ⟨c11, hf⟩
                · refine g_iclt_t (pc := 55) (tgt := 65) dX10_sizes_55 (by decide) c11 ?_
                  refine g_iconst (pc := 65) (v := (0 : Int32)) dX10_sizes_65 (by decide) ?_
                  obtain rfl := Option.some.inj hf
                  exact g_zret (pc := 66) rfl rfl dX10_sizes_66
                · refine g_iclt_f (pc := 55) (tgt := 65) dX10_sizes_55 (by decide) c11 ?_
                  refine g_iload (pc := 58) 6 dX10_sizes_58 rfl ?_
                  refine g_bipush (pc := 60) (v := (8 : Int32)) dX10_sizes_60 (by decide) ?_
                  rcases it_some hf with ⟨c12, hf⟩ | ⟨c12, hf⟩
                  · refine g_icle_t (pc := 62) (tgt := 67) dX10_sizes_62 (by decide) c12 ?_
                    refine g_iload (pc := 67) 5 dX10_sizes_67 rfl ?_
                    refine g_iload (pc := 69) 6 dX10_sizes_69 rfl ?_
                    refine g_imul (pc := 71) dX10_sizes_71 ?_
                    refine g_iload_n (pc := 72) 1 dX10_sizes_72 rfl rfl ?_
                    refine g_iload_n (pc := 73) 3 dX10_sizes_73 rfl rfl ?_
                    refine g_imul (pc := 74) dX10_sizes_74 ?_
                    refine g_iload (pc := 75) 4 dX10_sizes_75 rfl ?_
                    refine g_imul (pc := 77) dX10_sizes_77 ?_
                    rcases it_some hf with ⟨c13, hf⟩ | ⟨c13, hf⟩
                    · refine g_icge_t (pc := 78) (tgt := 83) dX10_sizes_78 (by decide) c13 ?_
                      refine g_aload_n (pc := 83) 0 dX10_sizes_83 rfl rfl ?_
                      obtain ⟨g14, hf⟩ := gs_some hf
                      refine g_getR (pc := 84) fl_X10_51 dX10_sizes_84 g14 ?_
                      refine g_iconst (pc := 87) (v := (0 : Int32)) dX10_sizes_87 (by decide) ?_
                      refine g_iload_n (pc := 88) 1 dX10_sizes_88 rfl rfl ?_
                      obtain ⟨g15, hf⟩ := gs_some hf
                      obtain ⟨b16, hf⟩ := gb_some hf
                      obtain ⟨h17, eh17, hf⟩ := lt_some hf
                      refine g_iast (pc := 89) g15 b16 dX10_sizes_89 eh17 ?_
                      refine g_aload_n (pc := 90) 0 dX10_sizes_90 rfl rfl ?_
                      have g18 : hS h17 a0 = 9 := (hS_tI eh17 g14)
                      refine g_getR (pc := 91) fl_X10_51 dX10_sizes_91 g18 ?_
                      refine g_iconst (pc := 94) (v := (1 : Int32)) dX10_sizes_94 (by decide) ?_
                      refine g_iload_n (pc := 95) 2 dX10_sizes_95 rfl rfl ?_
                      obtain ⟨g19, hf⟩ := gs_some hf
                      obtain ⟨b20, hf⟩ := gb_some hf
                      obtain ⟨h21, eh21, hf⟩ := lt_some hf
                      refine g_iast (pc := 96) g19 b20 dX10_sizes_96 eh21 ?_
                      refine g_aload_n (pc := 97) 0 dX10_sizes_97 rfl rfl ?_
                      have g22 : hS h21 a0 = 9 := (hS_tI eh21 g18)
                      refine g_getR (pc := 98) fl_X10_51 dX10_sizes_98 g22 ?_
                      refine g_iconst (pc := 101) (v := (2 : Int32)) dX10_sizes_101 (by decide) ?_
                      refine g_iload_n (pc := 102) 3 dX10_sizes_102 rfl rfl ?_
                      obtain ⟨g23, hf⟩ := gs_some hf
                      obtain ⟨b24, hf⟩ := gb_some hf
                      obtain ⟨h25, eh25, hf⟩ := lt_some hf
                      refine g_iast (pc := 103) g23 b24 dX10_sizes_103 eh25 ?_
                      refine g_sub [0, 4, 5, 6] rfl ?_
                      exact ok_X10_sizes_L104 l X h25 a0 a4 a5 a6 q hf
                    · refine g_icge_f (pc := 78) (tgt := 83) dX10_sizes_78 (by decide) c13 ?_
                      refine g_iconst (pc := 81) (v := (0 : Int32)) dX10_sizes_81 (by decide) ?_
                      obtain rfl := Option.some.inj hf
                      exact g_zret (pc := 82) rfl rfl dX10_sizes_82
                  · refine g_icle_f (pc := 62) (tgt := 67) dX10_sizes_62 (by decide) c12 ?_
                    refine g_iconst (pc := 65) (v := (0 : Int32)) dX10_sizes_65 (by decide) ?_
                    obtain rfl := Option.some.inj hf
                    exact g_zret (pc := 66) rfl rfl dX10_sizes_66
        · refine g_icle_f (pc := 19) (tgt := 24) dX10_sizes_19 (by decide) c4 ?_
          refine g_iconst (pc := 22) (v := (0 : Int32)) dX10_sizes_22 (by decide) ?_
          obtain rfl := Option.some.inj hf
          exact g_zret (pc := 23) rfl rfl dX10_sizes_23
theorem ct_X10_sizes (l : Launch) (X : Cx) {h : AH} {a0 : Nat} {a1 : Int32} {a2 : Int32} {a3 : Int32} {a4 : Int32} {a5 : Int32} {a6 : Int32} {q : Int32 × AH} (hf : f_X10_sizes h a0 a1 a2 a3 a4 a5 a6 = some q) : Ct l X k_X10_sizes [rf X a0, .int a1, .int a2, .int a3, .int a4, .int a5, .int a6] h (rI q) := ct_of ck_X10_sizes (by simp [lg_sl, rf_cat, rq_cat, ca_i, ca_l, ca_r]) (by simp [lv_args, rf_cat, rq_cat, ca_i, ca_l, ca_r]) (ok_X10_sizes l X hf)
set_option maxRecDepth 100000 in
set_option maxHeartbeats 4000000 in
theorem ok_X10_beginAnew_L60 (l : Launch) (X : Cx) : ∀ (n : Nat) (h : AH) (a0 : Nat) (a1 : Int32) (q : AH), f_X10_beginAnew_L60 n h a0 a1 = some q → Go l X k_X10_beginAnew 60 [(0, rf X a0), (1, .int a1)] [] h (rV q) := by
  intro n
  induction n with
  | zero =>
    intro h a0 a1 q hf
    unfold f_X10_beginAnew_L60 at hf
    cases hf
  | succ n ih =>
    intro h a0 a1 q hf
    unfold f_X10_beginAnew_L60 at hf
    refine g_iload_n (pc := 60) 1 dX10_beginAnew_60 rfl rfl ?_
    refine g_bipush (pc := 61) (v := (16 : Int32)) dX10_beginAnew_61 (by decide) ?_
    rcases it_some hf with ⟨c1, hf⟩ | ⟨c1, hf⟩
    · refine g_icge_t (pc := 63) (tgt := 108) dX10_beginAnew_63 (by decide) c1 ?_
      refine g_aload_n (pc := 108) 0 dX10_beginAnew_108 rfl rfl ?_
      refine g_iconst (pc := 109) (v := (0 : Int32)) dX10_beginAnew_109 (by decide) ?_
      obtain ⟨g2, hf⟩ := gs_some hf
      obtain ⟨h3, eh3, hf⟩ := lt_some hf
      refine g_putI (pc := 110) fl_X10_115 dX10_beginAnew_110 g2 eh3 ?_
      refine g_aload_n (pc := 113) 0 dX10_beginAnew_113 rfl rfl ?_
      refine g_iconst (pc := 114) (v := (0 : Int32)) dX10_beginAnew_114 (by decide) ?_
      have g4 : hS h3 a0 = 9 := (hS_tI eh3 g2)
      obtain ⟨h5, eh5, hf⟩ := lt_some hf
      refine g_putI (pc := 115) fl_X10_118 dX10_beginAnew_115 g4 eh5 ?_
      obtain rfl := Option.some.inj hf
      exact g_vret (pc := 118) rfl dX10_beginAnew_118
    · refine g_icge_f (pc := 63) (tgt := 108) dX10_beginAnew_63 (by decide) c1 ?_
      refine g_aload_n (pc := 66) 0 dX10_beginAnew_66 rfl rfl ?_
      obtain ⟨g6, hf⟩ := gs_some hf
      refine g_getR (pc := 67) fl_X10_43 dX10_beginAnew_67 g6 ?_
      refine g_iload_n (pc := 70) 1 dX10_beginAnew_70 rfl rfl ?_
      obtain ⟨g7, hf⟩ := gs_some hf
      obtain ⟨b8, hf⟩ := gb_some hf
      refine g_aldq (pc := 71) g7 b8 dX10_beginAnew_71 ?_
      refine g_aload_n (pc := 72) 0 dX10_beginAnew_72 rfl rfl ?_
      refine g_getR (pc := 73) fl_X10_21 dX10_beginAnew_73 g6 ?_
      obtain ⟨g9, hf⟩ := gs_some hf
      refine g_getR (pc := 76) fl_X10_109 dX10_beginAnew_76 g9 ?_
      refine g_iload_n (pc := 79) 1 dX10_beginAnew_79 rfl rfl ?_
      obtain ⟨g10, hf⟩ := gs_some hf
      obtain ⟨b11, hf⟩ := gb_some hf
      refine g_iald (pc := 80) g10 b11 dX10_beginAnew_80 ?_
      refine g_aload_n (pc := 81) 0 dX10_beginAnew_81 rfl rfl ?_
      refine g_getR (pc := 82) fl_X10_47 dX10_beginAnew_82 g6 ?_
      refine g_iconst (pc := 85) (v := (1 : Int32)) dX10_beginAnew_85 (by decide) ?_
      obtain ⟨g12, hf⟩ := gs_some hf
      obtain ⟨b13, hf⟩ := gb_some hf
      refine g_iald (pc := 86) g12 b13 dX10_beginAnew_86 ?_
      refine g_aload_n (pc := 87) 0 dX10_beginAnew_87 rfl rfl ?_
      refine g_getR (pc := 88) fl_X10_47 dX10_beginAnew_88 g6 ?_
      refine g_iconst (pc := 91) (v := (2 : Int32)) dX10_beginAnew_91 (by decide) ?_
      obtain ⟨b14, hf⟩ := gb_some hf
      refine g_iald (pc := 92) g12 b14 dX10_beginAnew_92 ?_
      refine g_aload_n (pc := 93) 0 dX10_beginAnew_93 rfl rfl ?_
      refine g_getR (pc := 94) fl_X10_47 dX10_beginAnew_94 g6 ?_
      refine g_iconst (pc := 97) (v := (3 : Int32)) dX10_beginAnew_97 (by decide) ?_
      obtain ⟨b15, hf⟩ := gb_some hf
      refine g_iald (pc := 98) g12 b15 dX10_beginAnew_98 ?_
      obtain ⟨g16, hf⟩ := gs_some hf
      obtain ⟨q17, hcq17, hf⟩ := bd_some hf
      refine g_nVV (pc := 99) (k2 := k_X3_begin) (av := [.int (hI h (hR h (hR h a0 1) 15) a1.toNatClampNeg), .int (hI h (hR h a0 5) (1 : Int32).toNatClampNeg), .int (hI h (hR h a0 5) (2 : Int32).toNatClampNeg), .int (hI h (hR h a0 5) (3 : Int32).toNatClampNeg)]) (q := q17) rfl dX10_beginAnew_99 ck_X3_begin 6 rfl m_421 m_1 (ci := 2) rfl (by decide) g16 (by decide) (by decide) rfl (by simp [rf_cat, rq_cat, ca_i, ca_l, ca_r]) (ct_X3_begin l X hcq17) ?_
      obtain ⟨x18, ex18, hf⟩ := lt_some hf
      refine g_iinc (pc := 102) (y := x18) (L' := [(1, .int x18), (0, rf X a0)]) 1 dX10_beginAnew_102 rfl (by decide) (ex18.trans rfl) (by simp [rf_cat, rq_cat]) ?_
      refine g_goto (pc := 105) (tgt := 60) dX10_beginAnew_105 (by decide) ?_
      refine g_sub [1, 0] rfl ?_
      exact ih q17 a0 x18 q hf
set_option maxRecDepth 100000 in
set_option maxHeartbeats 4000000 in
theorem ok_X10_beginAnew (l : Launch) (X : Cx) {h : AH} {a0 : Nat} {q : AH} (hf : f_X10_beginAnew h a0 = some q) : Go l X k_X10_beginAnew 0 [(0, rf X a0)] [] h (rV q) := by
  unfold f_X10_beginAnew at hf
  refine g_aload_n (pc := 0) 0 dX10_beginAnew_0 rfl rfl ?_
  obtain ⟨g1, hf⟩ := gs_some hf
  refine g_getR (pc := 1) fl_X10_51 dX10_beginAnew_1 g1 ?_
  refine g_iconst (pc := 4) (v := (0 : Int32)) dX10_beginAnew_4 (by decide) ?_
  refine g_aload_n (pc := 5) 0 dX10_beginAnew_5 rfl rfl ?_
  refine g_getR (pc := 6) fl_X10_47 dX10_beginAnew_6 g1 ?_
  refine g_iconst (pc := 9) (v := (0 : Int32)) dX10_beginAnew_9 (by decide) ?_
  refine g_aload_n (pc := 10) 0 dX10_beginAnew_10 rfl rfl ?_
  refine g_getR (pc := 11) fl_X10_47 dX10_beginAnew_11 g1 ?_
  obtain ⟨g2, hf⟩ := gs_some hf
  refine g_alen (pc := 14) 0 rfl g2 (by decide) dX10_beginAnew_14 ?_
  obtain ⟨g3, hf⟩ := gs_some hf
  obtain ⟨b4, hf⟩ := gb_some hf
  obtain ⟨h5, eh5, hf⟩ := lt_some hf
  refine g_copy (pc := 15) acy_X10_91 g3 g2 b4 (by decide) (by decide) (by simp [rf_cat, rq_cat, ca_i, ca_l, ca_r]) dX10_beginAnew_15 eh5 ?_
  refine g_aload_n (pc := 18) 0 dX10_beginAnew_18 rfl rfl ?_
  have g6 : hS h5 a0 = 9 := (hS_tA eh5 g1)
  refine g_getR (pc := 19) fl_X10_28 dX10_beginAnew_19 g6 ?_
  obtain ⟨g7, hf⟩ := gs_some hf
  obtain ⟨q8, hcq8, hf⟩ := bd_some hf
  refine g_cVV (pc := 22) (k2 := k_X6_clear) (av := []) (q := q8) rfl dX10_beginAnew_22 ck_X6_clear m_960 m_961 m_962 (ci := 4) rfl (by decide) g7 (by decide) (by decide) rfl (by simp [rf_cat, rq_cat, ca_i, ca_l, ca_r]) (ct_X6_clear l X hcq8) ?_
  refine g_aload_n (pc := 25) 0 dX10_beginAnew_25 rfl rfl ?_
  obtain ⟨g9, hf⟩ := gs_some hf
  refine g_getR (pc := 26) fl_X10_37 dX10_beginAnew_26 g9 ?_
  refine g_aload_n (pc := 29) 0 dX10_beginAnew_29 rfl rfl ?_
  refine g_getR (pc := 30) fl_X10_47 dX10_beginAnew_30 g9 ?_
  refine g_iconst (pc := 33) (v := (4 : Int32)) dX10_beginAnew_33 (by decide) ?_
  obtain ⟨g10, hf⟩ := gs_some hf
  obtain ⟨b11, hf⟩ := gb_some hf
  refine g_iald (pc := 34) g10 b11 dX10_beginAnew_34 ?_
  refine g_aload_n (pc := 35) 0 dX10_beginAnew_35 rfl rfl ?_
  refine g_getR (pc := 36) fl_X10_47 dX10_beginAnew_36 g9 ?_
  refine g_iconst (pc := 39) (v := (5 : Int32)) dX10_beginAnew_39 (by decide) ?_
  obtain ⟨b12, hf⟩ := gb_some hf
  refine g_iald (pc := 40) g10 b12 dX10_beginAnew_40 ?_
  obtain ⟨g13, hf⟩ := gs_some hf
  obtain ⟨q14, hcq14, hf⟩ := bd_some hf
  refine g_nVV (pc := 41) (k2 := k_X4_begin) (av := [.int (hI q8 (hR q8 a0 5) (4 : Int32).toNatClampNeg), .int (hI q8 (hR q8 a0 5) (5 : Int32).toNatClampNeg)]) (q := q14) rfl dX10_beginAnew_41 ck_X4_begin 5 rfl m_284 m_0 (ci := 3) rfl (by decide) g13 (by decide) (by decide) rfl (by simp [rf_cat, rq_cat, ca_i, ca_l, ca_r]) (ct_X4_begin l X hcq14) ?_
  refine g_aload_n (pc := 44) 0 dX10_beginAnew_44 rfl rfl ?_
  obtain ⟨g15, hf⟩ := gs_some hf
  refine g_getR (pc := 45) fl_X10_21 dX10_beginAnew_45 g15 ?_
  refine g_aload_n (pc := 48) 0 dX10_beginAnew_48 rfl rfl ?_
  refine g_getR (pc := 49) fl_X10_37 dX10_beginAnew_49 g15 ?_
  obtain ⟨g16, hf⟩ := gs_some hf
  refine g_getR (pc := 52) fl_X10_102 dX10_beginAnew_52 g16 ?_
  obtain ⟨g17, hf⟩ := gs_some hf
  obtain ⟨q18, hcq18, hf⟩ := bd_some hf
  refine g_cVV (pc := 55) (k2 := k_X1_emit) (av := [rf X (hR q14 (hR q14 a0 3) 1)]) (q := q18) rfl dX10_beginAnew_55 ck_X1_emit m_965 m_966 m_967 (ci := 0) rfl (by decide) g17 (by decide) (by decide) rfl (by simp [rf_cat, rq_cat, ca_i, ca_l, ca_r]) (ct_X1_emit l X hcq18) ?_
  refine g_iconst (pc := 58) (v := (0 : Int32)) dX10_beginAnew_58 (by decide) ?_
  obtain ⟨x19, ex19, hf⟩ := lt_some hf
  refine g_istore_n (pc := 59) (L' := [(1, .int x19), (0, rf X a0)]) dX10_beginAnew_59 rfl (by decide) ex19 (by simp [rf_cat, rq_cat]) ?_
  refine g_sub [1, 0] rfl ?_
  exact ok_X10_beginAnew_L60 l X FU q18 a0 x19 q hf
theorem ct_X10_beginAnew (l : Launch) (X : Cx) {h : AH} {a0 : Nat} {q : AH} (hf : f_X10_beginAnew h a0 = some q) : Ct l X k_X10_beginAnew [rf X a0] h (rV q) := ct_of ck_X10_beginAnew (by simp [lg_sl, rf_cat, rq_cat, ca_i, ca_l, ca_r]) (by simp [lv_args, rf_cat, rq_cat, ca_i, ca_l, ca_r]) (ok_X10_beginAnew l X hf)
set_option maxRecDepth 100000 in
set_option maxHeartbeats 4000000 in
theorem ok_X10_fault (l : Launch) (X : Cx) {h : AH} {a0 : Nat} {a1 : Int32} {q : Int32} (hf : f_X10_fault h a0 a1 = some q) : Go l X k_X10_fault 0 [(0, rf X a0), (1, .int a1)] [] h (rI (q, h)) := by
  unfold f_X10_fault at hf
  refine g_iload_n (pc := 0) 1 dX10_fault_0 rfl rfl ?_
  rcases it_some hf with ⟨c1, hf⟩ | ⟨c1, hf⟩
  · refine g_ifne_t (pc := 1) (tgt := 11) dX10_fault_1 (by decide) c1 ?_
    refine g_iload_n (pc := 11) 1 dX10_fault_11 rfl rfl ?_
    refine g_iconst (pc := 12) (v := (1 : Int32)) dX10_fault_12 (by decide) ?_
    rcases it_some hf with ⟨c2, hf⟩ | ⟨c2, hf⟩
    · refine g_icne_t (pc := 13) (tgt := 23) dX10_fault_13 (by decide) c2 ?_
      refine g_iconst (pc := 23) (v := (-1 : Int32)) dX10_fault_23 (by decide) ?_
      obtain rfl := Option.some.inj hf
      exact g_iret (pc := 24) rfl dX10_fault_24
    · refine g_icne_f (pc := 13) (tgt := 23) dX10_fault_13 (by decide) (Decidable.of_not_not c2) ?_
      refine g_aload_n (pc := 16) 0 dX10_fault_16 rfl rfl ?_
      obtain ⟨g3, hf⟩ := gs_some hf
      refine g_getI (pc := 17) fl_X10_80 dX10_fault_17 g3 ?_
      refine g_goto (pc := 20) (tgt := 24) dX10_fault_20 (by decide) ?_
      obtain rfl := Option.some.inj hf
      exact g_iret (pc := 24) rfl dX10_fault_24
  · refine g_ifne_f (pc := 1) (tgt := 11) dX10_fault_1 (by decide) (Decidable.of_not_not c1) ?_
    refine g_aload_n (pc := 4) 0 dX10_fault_4 rfl rfl ?_
    obtain ⟨g4, hf⟩ := gs_some hf
    refine g_getI (pc := 5) fl_X10_76 dX10_fault_5 g4 ?_
    refine g_goto (pc := 8) (tgt := 24) dX10_fault_8 (by decide) ?_
    obtain rfl := Option.some.inj hf
    exact g_iret (pc := 24) rfl dX10_fault_24
theorem ct_X10_fault (l : Launch) (X : Cx) {h : AH} {a0 : Nat} {a1 : Int32} {q : Int32} (hf : f_X10_fault h a0 a1 = some q) : Ct l X k_X10_fault [rf X a0, .int a1] h (rI (q, h)) := ct_of ck_X10_fault (by simp [lg_sl, rf_cat, rq_cat, ca_i, ca_l, ca_r]) (by simp [lv_args, rf_cat, rq_cat, ca_i, ca_l, ca_r]) (ok_X10_fault l X hf)
set_option maxRecDepth 100000 in
set_option maxHeartbeats 4000000 in
theorem ok_X10_isCore (l : Launch) (X : Cx) {h : AH} {a0 : Nat} {a1 : Int32} {q : Int32} (hf : f_X10_isCore h a0 a1 = some q) : Go l X k_X10_isCore 0 [(0, rf X a0), (1, .int a1)] [] h (rI (q, h)) := by
  unfold f_X10_isCore at hf
  refine g_iload_n (pc := 0) 1 dX10_isCore_0 rfl rfl ?_
  rcases it_some hf with ⟨c1, hf⟩ | ⟨c1, hf⟩
  · refine g_iflt_t (pc := 1) (tgt := 18) dX10_isCore_1 (by decide) c1 ?_
    refine g_iconst (pc := 18) (v := (0 : Int32)) dX10_isCore_18 (by decide) ?_
    obtain rfl := Option.some.inj hf
    exact g_zret (pc := 19) rfl rfl dX10_isCore_19
  · refine g_iflt_f (pc := 1) (tgt := 18) dX10_isCore_1 (by decide) c1 ?_
    refine g_iload_n (pc := 4) 1 dX10_isCore_4 rfl rfl ?_
    refine g_aload_n (pc := 5) 0 dX10_isCore_5 rfl rfl ?_
    obtain ⟨g2, hf⟩ := gs_some hf
    refine g_getR (pc := 6) fl_X10_47 dX10_isCore_6 g2 ?_
    refine g_iconst (pc := 9) (v := (0 : Int32)) dX10_isCore_9 (by decide) ?_
    obtain ⟨g3, hf⟩ := gs_some hf
    obtain ⟨b4, hf⟩ := gb_some hf
    refine g_iald (pc := 10) g3 b4 dX10_isCore_10 ?_
    rcases it_some hf with ⟨c5, hf⟩ | ⟨c5, hf⟩
    · refine g_icge_t (pc := 11) (tgt := 18) dX10_isCore_11 (by decide) c5 ?_
      refine g_iconst (pc := 18) (v := (0 : Int32)) dX10_isCore_18 (by decide) ?_
      obtain rfl := Option.some.inj hf
      exact g_zret (pc := 19) rfl rfl dX10_isCore_19
    · refine g_icge_f (pc := 11) (tgt := 18) dX10_isCore_11 (by decide) c5 ?_
      refine g_iconst (pc := 14) (v := (1 : Int32)) dX10_isCore_14 (by decide) ?_
      refine g_goto (pc := 15) (tgt := 19) dX10_isCore_15 (by decide) ?_
      obtain rfl := Option.some.inj hf
      exact g_zret (pc := 19) rfl rfl dX10_isCore_19
theorem ct_X10_isCore (l : Launch) (X : Cx) {h : AH} {a0 : Nat} {a1 : Int32} {q : Int32} (hf : f_X10_isCore h a0 a1 = some q) : Ct l X k_X10_isCore [rf X a0, .int a1] h (rI (q, h)) := ct_of ck_X10_isCore (by simp [lg_sl, rf_cat, rq_cat, ca_i, ca_l, ca_r]) (by simp [lv_args, rf_cat, rq_cat, ca_i, ca_l, ca_r]) (ok_X10_isCore l X hf)
set_option maxRecDepth 100000 in
set_option maxHeartbeats 4000000 in
theorem ok_X10_carry (l : Launch) (X : Cx) {h : AH} {a0 : Nat} {a1 : Int32} {q : Int32 × AH} (hf : f_X10_carry h a0 a1 = some q) : Go l X k_X10_carry 0 [(0, rf X a0), (1, .int a1)] [] h (rI q) := by
  unfold f_X10_carry at hf
  refine g_aload_n (pc := 0) 0 dX10_carry_0 rfl rfl ?_
  obtain ⟨g1, hf⟩ := gs_some hf
  refine g_getR (pc := 1) fl_X10_28 dX10_carry_1 g1 ?_
  refine g_iload_n (pc := 4) 1 dX10_carry_4 rfl rfl ?_
  obtain ⟨g2, hf⟩ := gs_some hf
  obtain ⟨q3, hcq3, hf⟩ := bd_some hf
  refine g_cVI (pc := 5) (k2 := k_X6_takeOut) (av := [.int a1]) (q := q3) rfl dX10_carry_5 ck_X6_takeOut m_553 m_554 m_555 (ci := 4) rfl (by decide) g2 (by decide) (by decide) rfl (by simp [rf_cat, rq_cat, ca_i, ca_l, ca_r]) (ct_X6_takeOut l X hcq3) ?_
  rcases it_some hf with ⟨c4, hf⟩ | ⟨c4, hf⟩
  · refine g_ifne_t (pc := 8) (tgt := 13) dX10_carry_8 (by decide) c4 ?_
    refine g_aload_n (pc := 13) 0 dX10_carry_13 rfl rfl ?_
    obtain ⟨g5, hf⟩ := gs_some hf
    refine g_getR (pc := 14) fl_X10_28 dX10_carry_14 g5 ?_
    obtain ⟨g6, hf⟩ := gs_some hf
    refine g_getR (pc := 17) fl_X10_146 dX10_carry_17 g6 ?_
    refine g_iconst (pc := 20) (v := (2 : Int32)) dX10_carry_20 (by decide) ?_
    obtain ⟨g7, hf⟩ := gs_some hf
    obtain ⟨b8, hf⟩ := gb_some hf
    refine g_iald (pc := 21) g7 b8 dX10_carry_21 ?_
    obtain ⟨x9, ex9, hf⟩ := lt_some hf
    refine g_istore_n (pc := 22) (L' := [(2, .int x9), (0, rf X a0), (1, .int a1)]) dX10_carry_22 rfl (by decide) ex9 rfl ?_
    refine g_iload_n (pc := 23) 0 dX10_carry_23 rfl rfl ?_
    refine g_bipush (pc := 24) (v := (16 : Int32)) dX10_carry_24 (by decide) ?_
    rcases it_some hf with ⟨c10, hf⟩ | ⟨c10, hf⟩
    · refine g_icne_t (pc := 26) (tgt := 46) dX10_carry_26 (by decide) c10 ?_
      refine g_aload_n (pc := 46) 1 dX10_carry_46 rfl rfl ?_
      refine g_iload_n (pc := 47) 0 dX10_carry_47 rfl rfl ?_
      obtain ⟨v11, hcv11, hf⟩ := bd_some hf
      refine g_cVI (pc := 48) (k2 := k_X10_isCore) (av := [.int x9]) (q := (v11, q3.2)) rfl dX10_carry_48 ck_X10_isCore m_639 m_641 m_16 (ci := 8) rfl (by decide) g5 (by decide) (by decide) rfl (by simp [rf_cat, rq_cat, ca_i, ca_l, ca_r]) (ct_X10_isCore l X hcv11) ?_
      rcases it_some hf with ⟨c12, hf⟩ | ⟨c12, hf⟩
      · refine g_ifeq_t (pc := 51) (tgt := 70) dX10_carry_51 (by decide) c12 ?_
        refine g_iconst (pc := 70) (v := (1 : Int32)) dX10_carry_70 (by decide) ?_
        obtain rfl := Option.some.inj hf
        exact g_zret (pc := 71) rfl rfl dX10_carry_71
      · refine g_ifeq_f (pc := 51) (tgt := 70) dX10_carry_51 (by decide) c12 ?_
        refine g_aload_n (pc := 54) 1 dX10_carry_54 rfl rfl ?_
        refine g_getR (pc := 55) fl_X10_43 dX10_carry_55 g5 ?_
        refine g_iload_n (pc := 58) 0 dX10_carry_58 rfl rfl ?_
        obtain ⟨g13, hf⟩ := gs_some hf
        obtain ⟨b14, hf⟩ := gb_some hf
        refine g_aldq (pc := 59) g13 b14 dX10_carry_59 ?_
        refine g_aload_n (pc := 60) 1 dX10_carry_60 rfl rfl ?_
        refine g_getR (pc := 61) fl_X10_28 dX10_carry_61 g5 ?_
        refine g_getR (pc := 64) fl_X10_146 dX10_carry_64 g6 ?_
        obtain ⟨g15, hf⟩ := gs_some hf
        obtain ⟨q16, hcq16, hf⟩ := bd_some hf
        refine g_cVV (pc := 67) (k2 := k_X3_receive) (av := [rf X (hR q3.2 (hR q3.2 a0 2) 3)]) (q := q16) rfl dX10_carry_67 ck_X3_receive m_643 m_644 m_645 (ci := 2) rfl (by decide) g15 (by decide) (by decide) rfl (by simp [rf_cat, rq_cat, ca_i, ca_l, ca_r]) (ct_X3_receive l X hcq16) ?_
        refine g_iconst (pc := 70) (v := (1 : Int32)) dX10_carry_70 (by decide) ?_
        obtain rfl := Option.some.inj hf
        exact g_zret (pc := 71) rfl rfl dX10_carry_71
    · refine g_icne_f (pc := 26) (tgt := 46) dX10_carry_26 (by decide) (Decidable.of_not_not c10) ?_
      refine g_aload_n (pc := 29) 1 dX10_carry_29 rfl rfl ?_
      refine g_getR (pc := 30) fl_X10_37 dX10_carry_30 g5 ?_
      refine g_aload_n (pc := 33) 1 dX10_carry_33 rfl rfl ?_
      refine g_getR (pc := 34) fl_X10_28 dX10_carry_34 g5 ?_
      refine g_getR (pc := 37) fl_X10_146 dX10_carry_37 g6 ?_
      obtain ⟨g17, hf⟩ := gs_some hf
      obtain ⟨q18, hcq18, hf⟩ := bd_some hf
      refine g_cVV (pc := 40) (k2 := k_X4_receive) (av := [rf X (hR q3.2 (hR q3.2 a0 2) 3)]) (q := q18) rfl dX10_carry_40 ck_X4_receive m_560 m_561 m_562 (ci := 3) rfl (by decide) g17 (by decide) (by decide) rfl (by simp [rf_cat, rq_cat, ca_i, ca_l, ca_r]) (ct_X4_receive l X hcq18) ?_
      refine g_goto (pc := 43) (tgt := 70) dX10_carry_43 (by decide) ?_
      refine g_iconst (pc := 70) (v := (1 : Int32)) dX10_carry_70 (by decide) ?_
      obtain rfl := Option.some.inj hf
      exact g_zret (pc := 71) rfl rfl dX10_carry_71
  · refine g_ifne_f (pc := 8) (tgt := 13) dX10_carry_8 (by decide) (Decidable.of_not_not c4) ?_
    refine g_iconst (pc := 11) (v := (0 : Int32)) dX10_carry_11 (by decide) ?_
    obtain rfl := Option.some.inj hf
    exact g_zret (pc := 12) rfl rfl dX10_carry_12
theorem ct_X10_carry (l : Launch) (X : Cx) {h : AH} {a0 : Nat} {a1 : Int32} {q : Int32 × AH} (hf : f_X10_carry h a0 a1 = some q) : Ct l X k_X10_carry [rf X a0, .int a1] h (rI q) := ct_of ck_X10_carry (by simp [lg_sl, rf_cat, rq_cat, ca_i, ca_l, ca_r]) (by simp [lv_args, rf_cat, rq_cat, ca_i, ca_l, ca_r]) (ok_X10_carry l X hf)
set_option maxRecDepth 100000 in
set_option maxHeartbeats 4000000 in
theorem ok_X10_deliver (l : Launch) (X : Cx) {h : AH} {a0 : Nat} {a1 : Int32} {q : Int32 × AH} (hf : f_X10_deliver h a0 a1 = some q) : Go l X k_X10_deliver 0 [(0, rf X a0), (1, .int a1)] [] h (rI q) := by
  unfold f_X10_deliver at hf
  refine g_aload_n (pc := 0) 0 dX10_deliver_0 rfl rfl ?_
  refine g_iload_n (pc := 1) 1 dX10_deliver_1 rfl rfl ?_
  obtain ⟨g1, hf⟩ := gs_some hf
  obtain ⟨q2, hcq2, hf⟩ := bd_some hf
  refine g_cVI (pc := 2) (k2 := k_X10_carry) (av := [.int a1]) (q := q2) rfl dX10_deliver_2 ck_X10_carry m_549 m_551 m_2 (ci := 8) rfl (by decide) g1 (by decide) (by decide) rfl (by simp [rf_cat, rq_cat, ca_i, ca_l, ca_r]) (ct_X10_carry l X hcq2) ?_
  obtain ⟨b3, hf⟩ := gb_some hf
  obtain rfl := Option.some.inj hf
  exact g_zret (pc := 5) rfl b3 dX10_deliver_5
theorem ct_X10_deliver (l : Launch) (X : Cx) {h : AH} {a0 : Nat} {a1 : Int32} {q : Int32 × AH} (hf : f_X10_deliver h a0 a1 = some q) : Ct l X k_X10_deliver [rf X a0, .int a1] h (rI q) := ct_of ck_X10_deliver (by simp [lg_sl, rf_cat, rq_cat, ca_i, ca_l, ca_r]) (by simp [lv_args, rf_cat, rq_cat, ca_i, ca_l, ca_r]) (ok_X10_deliver l X hf)
set_option maxRecDepth 100000 in
set_option maxHeartbeats 4000000 in
theorem ok_X10_deliverOn (l : Launch) (X : Cx) {h : AH} {a0 : Nat} {a1 : Int32} {a2 : Int32} {q : Int32 × AH} (hf : f_X10_deliverOn h a0 a1 a2 = some q) : Go l X k_X10_deliverOn 0 [(0, rf X a0), (1, .int a1), (2, .int a2)] [] h (rI q) := by
  unfold f_X10_deliverOn at hf
  refine g_aload_n (pc := 0) 0 dX10_deliverOn_0 rfl rfl ?_
  refine g_aload_n (pc := 1) 0 dX10_deliverOn_1 rfl rfl ?_
  obtain ⟨g1, hf⟩ := gs_some hf
  refine g_getR (pc := 2) fl_X10_28 dX10_deliverOn_2 g1 ?_
  refine g_iload_n (pc := 5) 1 dX10_deliverOn_5 rfl rfl ?_
  refine g_iload_n (pc := 6) 2 dX10_deliverOn_6 rfl rfl ?_
  obtain ⟨g2, hf⟩ := gs_some hf
  obtain ⟨v3, hcv3, hf⟩ := bd_some hf
  refine g_cVI (pc := 7) (k2 := k_X6_placeOn) (av := [.int a1, .int a2]) (q := (v3, h)) rfl dX10_deliverOn_7 ck_X6_placeOn m_675 m_676 m_677 (ci := 4) rfl (by decide) g2 (by decide) (by decide) rfl (by simp [rf_cat, rq_cat, ca_i, ca_l, ca_r]) (ct_X6_placeOn l X hcv3) ?_
  obtain ⟨q4, hcq4, hf⟩ := bd_some hf
  refine g_cVI (pc := 10) (k2 := k_X10_carry) (av := [.int v3]) (q := q4) rfl dX10_deliverOn_10 ck_X10_carry m_549 m_551 m_2 (ci := 8) rfl (by decide) g1 (by decide) (by decide) rfl (by simp [rf_cat, rq_cat, ca_i, ca_l, ca_r]) (ct_X10_carry l X hcq4) ?_
  obtain ⟨b5, hf⟩ := gb_some hf
  obtain rfl := Option.some.inj hf
  exact g_zret (pc := 13) rfl b5 dX10_deliverOn_13
theorem ct_X10_deliverOn (l : Launch) (X : Cx) {h : AH} {a0 : Nat} {a1 : Int32} {a2 : Int32} {q : Int32 × AH} (hf : f_X10_deliverOn h a0 a1 a2 = some q) : Ct l X k_X10_deliverOn [rf X a0, .int a1, .int a2] h (rI q) := ct_of ck_X10_deliverOn (by simp [lg_sl, rf_cat, rq_cat, ca_i, ca_l, ca_r]) (by simp [lv_args, rf_cat, rq_cat, ca_i, ca_l, ca_r]) (ok_X10_deliverOn l X hf)
set_option maxRecDepth 100000 in
set_option maxHeartbeats 4000000 in
theorem ok_X10_retired_L4 (l : Launch) (X : Cx) (h : AH) : ∀ (n : Nat) (a0 : Nat) (a1 : Int32) (a2 : Int32) (q : Int32), f_X10_retired_L4 h n a0 a1 a2 = some q → Go l X k_X10_retired 4 [(0, rf X a0), (1, .int a1), (2, .int a2)] [] h (rI (q, h)) := by
  intro n
  induction n with
  | zero =>
    intro a0 a1 a2 q hf
    unfold f_X10_retired_L4 at hf
    cases hf
  | succ n ih =>
    intro a0 a1 a2 q hf
    unfold f_X10_retired_L4 at hf
    refine g_iload_n (pc := 4) 2 dX10_retired_4 rfl rfl ?_
    refine g_aload_n (pc := 5) 0 dX10_retired_5 rfl rfl ?_
    obtain ⟨g1, hf⟩ := gs_some hf
    refine g_getR (pc := 6) fl_X10_47 dX10_retired_6 g1 ?_
    refine g_iconst (pc := 9) (v := (0 : Int32)) dX10_retired_9 (by decide) ?_
    obtain ⟨g2, hf⟩ := gs_some hf
    obtain ⟨b3, hf⟩ := gb_some hf
    refine g_iald (pc := 10) g2 b3 dX10_retired_10 ?_
    rcases it_some hf with ⟨c4, hf⟩ | ⟨c4, hf⟩
    · refine g_icge_t (pc := 11) (tgt := 35) dX10_retired_11 (by decide) c4 ?_
      refine g_iload_n (pc := 35) 1 dX10_retired_35 rfl rfl ?_
      obtain rfl := Option.some.inj hf
      exact g_iret (pc := 36) rfl dX10_retired_36
    · refine g_icge_f (pc := 11) (tgt := 35) dX10_retired_11 (by decide) c4 ?_
      refine g_iload_n (pc := 14) 1 dX10_retired_14 rfl rfl ?_
      refine g_aload_n (pc := 15) 0 dX10_retired_15 rfl rfl ?_
      refine g_getR (pc := 16) fl_X10_43 dX10_retired_16 g1 ?_
      refine g_iload_n (pc := 19) 2 dX10_retired_19 rfl rfl ?_
      obtain ⟨g5, hf⟩ := gs_some hf
      obtain ⟨b6, hf⟩ := gb_some hf
      refine g_aldq (pc := 20) g5 b6 dX10_retired_20 ?_
      obtain ⟨g7, hf⟩ := gs_some hf
      refine g_getR (pc := 21) fl_X10_162 dX10_retired_21 g7 ?_
      obtain ⟨g8, hf⟩ := gs_some hf
      refine g_getI (pc := 24) fl_X10_166 dX10_retired_24 g8 ?_
      refine g_iadd (pc := 27) dX10_retired_27 ?_
      obtain ⟨x9, ex9, hf⟩ := lt_some hf
      refine g_istore_n (pc := 28) (L' := [(1, .int x9), (0, rf X a0), (2, .int a2)]) dX10_retired_28 rfl (by decide) ex9 (by simp [rf_cat, rq_cat]) ?_
      obtain ⟨x10, ex10, hf⟩ := lt_some hf
      refine g_iinc (pc := 29) (y := x10) (L' := [(2, .int x10), (1, .int x9), (0, rf X a0)]) 2 dX10_retired_29 rfl (by decide) (ex10.trans rfl) rfl ?_
      refine g_goto (pc := 32) (tgt := 4) dX10_retired_32 (by decide) ?_
      refine g_sub [2, 1, 0] rfl ?_
      exact ih a0 x9 x10 q hf
set_option maxRecDepth 100000 in
set_option maxHeartbeats 4000000 in
theorem ok_X10_retired (l : Launch) (X : Cx) {h : AH} {a0 : Nat} {q : Int32} (hf : f_X10_retired h a0 = some q) : Go l X k_X10_retired 0 [(0, rf X a0)] [] h (rI (q, h)) := by
  unfold f_X10_retired at hf
  refine g_iconst (pc := 0) (v := (0 : Int32)) dX10_retired_0 (by decide) ?_
  obtain ⟨x1, ex1, hf⟩ := lt_some hf
  refine g_istore_n (pc := 1) (L' := [(1, .int x1), (0, rf X a0)]) dX10_retired_1 rfl (by decide) ex1 (by simp [rf_cat, rq_cat]) ?_
  refine g_iconst (pc := 2) (v := (0 : Int32)) dX10_retired_2 (by decide) ?_
  obtain ⟨x2, ex2, hf⟩ := lt_some hf
  refine g_istore_n (pc := 3) (L' := [(2, .int x2), (1, .int x1), (0, rf X a0)]) dX10_retired_3 rfl (by decide) ex2 rfl ?_
  refine g_sub [2, 1, 0] rfl ?_
  exact ok_X10_retired_L4 l X h FU a0 x1 x2 q hf
theorem ct_X10_retired (l : Launch) (X : Cx) {h : AH} {a0 : Nat} {q : Int32} (hf : f_X10_retired h a0 = some q) : Ct l X k_X10_retired [rf X a0] h (rI (q, h)) := ct_of ck_X10_retired (by simp [lg_sl, rf_cat, rq_cat, ca_i, ca_l, ca_r]) (by simp [lv_args, rf_cat, rq_cat, ca_i, ca_l, ca_r]) (ok_X10_retired l X hf)
set_option maxRecDepth 100000 in
set_option maxHeartbeats 4000000 in
theorem ok_X10_changed_L4 (l : Launch) (X : Cx) (h : AH) : ∀ (n : Nat) (a0 : Nat) (a1 : Int32) (a2 : Int32) (q : Int32), f_X10_changed_L4 h n a0 a1 a2 = some q → Go l X k_X10_changed 4 [(0, rf X a0), (1, .int a1), (2, .int a2)] [] h (rI (q, h)) := by
  intro n
  induction n with
  | zero =>
    intro a0 a1 a2 q hf
    unfold f_X10_changed_L4 at hf
    cases hf
  | succ n ih =>
    intro a0 a1 a2 q hf
    unfold f_X10_changed_L4 at hf
    refine g_iload_n (pc := 4) 2 dX10_changed_4 rfl rfl ?_
    refine g_aload_n (pc := 5) 0 dX10_changed_5 rfl rfl ?_
    obtain ⟨g1, hf⟩ := gs_some hf
    refine g_getR (pc := 6) fl_X10_47 dX10_changed_6 g1 ?_
    refine g_iconst (pc := 9) (v := (0 : Int32)) dX10_changed_9 (by decide) ?_
    obtain ⟨g2, hf⟩ := gs_some hf
    obtain ⟨b3, hf⟩ := gb_some hf
    refine g_iald (pc := 10) g2 b3 dX10_changed_10 ?_
    rcases it_some hf with ⟨c4, hf⟩ | ⟨c4, hf⟩
    · refine g_icge_t (pc := 11) (tgt := 32) dX10_changed_11 (by decide) c4 ?_
      refine g_iload_n (pc := 32) 1 dX10_changed_32 rfl rfl ?_
      obtain rfl := Option.some.inj hf
      exact g_iret (pc := 33) rfl dX10_changed_33
    · refine g_icge_f (pc := 11) (tgt := 32) dX10_changed_11 (by decide) c4 ?_
      refine g_iload_n (pc := 14) 1 dX10_changed_14 rfl rfl ?_
      refine g_aload_n (pc := 15) 0 dX10_changed_15 rfl rfl ?_
      refine g_getR (pc := 16) fl_X10_43 dX10_changed_16 g1 ?_
      refine g_iload_n (pc := 19) 2 dX10_changed_19 rfl rfl ?_
      obtain ⟨g5, hf⟩ := gs_some hf
      obtain ⟨b6, hf⟩ := gb_some hf
      refine g_aldq (pc := 20) g5 b6 dX10_changed_20 ?_
      obtain ⟨g7, hf⟩ := gs_some hf
      refine g_getI (pc := 21) fl_X10_171 dX10_changed_21 g7 ?_
      refine g_iadd (pc := 24) dX10_changed_24 ?_
      obtain ⟨x8, ex8, hf⟩ := lt_some hf
      refine g_istore_n (pc := 25) (L' := [(1, .int x8), (0, rf X a0), (2, .int a2)]) dX10_changed_25 rfl (by decide) ex8 (by simp [rf_cat, rq_cat]) ?_
      obtain ⟨x9, ex9, hf⟩ := lt_some hf
      refine g_iinc (pc := 26) (y := x9) (L' := [(2, .int x9), (1, .int x8), (0, rf X a0)]) 2 dX10_changed_26 rfl (by decide) (ex9.trans rfl) rfl ?_
      refine g_goto (pc := 29) (tgt := 4) dX10_changed_29 (by decide) ?_
      refine g_sub [2, 1, 0] rfl ?_
      exact ih a0 x8 x9 q hf
set_option maxRecDepth 100000 in
set_option maxHeartbeats 4000000 in
theorem ok_X10_changed (l : Launch) (X : Cx) {h : AH} {a0 : Nat} {q : Int32} (hf : f_X10_changed h a0 = some q) : Go l X k_X10_changed 0 [(0, rf X a0)] [] h (rI (q, h)) := by
  unfold f_X10_changed at hf
  refine g_iconst (pc := 0) (v := (0 : Int32)) dX10_changed_0 (by decide) ?_
  obtain ⟨x1, ex1, hf⟩ := lt_some hf
  refine g_istore_n (pc := 1) (L' := [(1, .int x1), (0, rf X a0)]) dX10_changed_1 rfl (by decide) ex1 (by simp [rf_cat, rq_cat]) ?_
  refine g_iconst (pc := 2) (v := (0 : Int32)) dX10_changed_2 (by decide) ?_
  obtain ⟨x2, ex2, hf⟩ := lt_some hf
  refine g_istore_n (pc := 3) (L' := [(2, .int x2), (1, .int x1), (0, rf X a0)]) dX10_changed_3 rfl (by decide) ex2 rfl ?_
  refine g_sub [2, 1, 0] rfl ?_
  exact ok_X10_changed_L4 l X h FU a0 x1 x2 q hf
theorem ct_X10_changed (l : Launch) (X : Cx) {h : AH} {a0 : Nat} {q : Int32} (hf : f_X10_changed h a0 = some q) : Ct l X k_X10_changed [rf X a0] h (rI (q, h)) := ct_of ck_X10_changed (by simp [lg_sl, rf_cat, rq_cat, ca_i, ca_l, ca_r]) (by simp [lv_args, rf_cat, rq_cat, ca_i, ca_l, ca_r]) (ok_X10_changed l X hf)
set_option maxRecDepth 100000 in
set_option maxHeartbeats 4000000 in
theorem ok_X10_growWaits_L2 (l : Launch) (X : Cx) : ∀ (n : Nat) (h : AH) (a0 : Nat) (a1 : Int32) (q : AH), f_X10_growWaits_L2 n h a0 a1 = some q → Go l X k_X10_growWaits 2 [(0, rf X a0), (1, .int a1)] [] h (rV q) := by
  intro n
  induction n with
  | zero =>
    intro h a0 a1 q hf
    unfold f_X10_growWaits_L2 at hf
    cases hf
  | succ n ih =>
    intro h a0 a1 q hf
    unfold f_X10_growWaits_L2 at hf
    refine g_iload_n (pc := 2) 1 dX10_growWaits_2 rfl rfl ?_
    refine g_aload_n (pc := 3) 0 dX10_growWaits_3 rfl rfl ?_
    obtain ⟨g1, hf⟩ := gs_some hf
    refine g_getR (pc := 4) fl_X10_47 dX10_growWaits_4 g1 ?_
    refine g_iconst (pc := 7) (v := (0 : Int32)) dX10_growWaits_7 (by decide) ?_
    obtain ⟨g2, hf⟩ := gs_some hf
    obtain ⟨b3, hf⟩ := gb_some hf
    refine g_iald (pc := 8) g2 b3 dX10_growWaits_8 ?_
    rcases it_some hf with ⟨c4, hf⟩ | ⟨c4, hf⟩
    · refine g_icge_t (pc := 9) (tgt := 27) dX10_growWaits_9 (by decide) c4 ?_
      obtain rfl := Option.some.inj hf
      exact g_vret (pc := 27) rfl dX10_growWaits_27
    · refine g_icge_f (pc := 9) (tgt := 27) dX10_growWaits_9 (by decide) c4 ?_
      refine g_aload_n (pc := 12) 0 dX10_growWaits_12 rfl rfl ?_
      refine g_getR (pc := 13) fl_X10_43 dX10_growWaits_13 g1 ?_
      refine g_iload_n (pc := 16) 1 dX10_growWaits_16 rfl rfl ?_
      obtain ⟨g5, hf⟩ := gs_some hf
      obtain ⟨b6, hf⟩ := gb_some hf
      refine g_aldq (pc := 17) g5 b6 dX10_growWaits_17 ?_
      obtain ⟨g7, hf⟩ := gs_some hf
      obtain ⟨q8, hcq8, hf⟩ := bd_some hf
      refine g_cVV (pc := 18) (k2 := k_X3_growWaits) (av := []) (q := q8) rfl dX10_growWaits_18 ck_X3_growWaits m_1194 m_1195 m_1196 (ci := 2) rfl (by decide) g7 (by decide) (by decide) rfl (by simp [rf_cat, rq_cat, ca_i, ca_l, ca_r]) (ct_X3_growWaits l X hcq8) ?_
      obtain ⟨x9, ex9, hf⟩ := lt_some hf
      refine g_iinc (pc := 21) (y := x9) (L' := [(1, .int x9), (0, rf X a0)]) 1 dX10_growWaits_21 rfl (by decide) (ex9.trans rfl) (by simp [rf_cat, rq_cat]) ?_
      refine g_goto (pc := 24) (tgt := 2) dX10_growWaits_24 (by decide) ?_
      refine g_sub [1, 0] rfl ?_
      exact ih q8 a0 x9 q hf
set_option maxRecDepth 100000 in
set_option maxHeartbeats 4000000 in
theorem ok_X10_growWaits (l : Launch) (X : Cx) {h : AH} {a0 : Nat} {q : AH} (hf : f_X10_growWaits h a0 = some q) : Go l X k_X10_growWaits 0 [(0, rf X a0)] [] h (rV q) := by
  unfold f_X10_growWaits at hf
  refine g_iconst (pc := 0) (v := (0 : Int32)) dX10_growWaits_0 (by decide) ?_
  obtain ⟨x1, ex1, hf⟩ := lt_some hf
  refine g_istore_n (pc := 1) (L' := [(1, .int x1), (0, rf X a0)]) dX10_growWaits_1 rfl (by decide) ex1 (by simp [rf_cat, rq_cat]) ?_
  refine g_sub [1, 0] rfl ?_
  exact ok_X10_growWaits_L2 l X FU h a0 x1 q hf
theorem ct_X10_growWaits (l : Launch) (X : Cx) {h : AH} {a0 : Nat} {q : AH} (hf : f_X10_growWaits h a0 = some q) : Ct l X k_X10_growWaits [rf X a0] h (rV q) := ct_of ck_X10_growWaits (by simp [lg_sl, rf_cat, rq_cat, ca_i, ca_l, ca_r]) (by simp [lv_args, rf_cat, rq_cat, ca_i, ca_l, ca_r]) (ok_X10_growWaits l X hf)
set_option maxRecDepth 100000 in
set_option maxHeartbeats 4000000 in
theorem ok_X10_cached (l : Launch) (X : Cx) {h : AH} {a0 : Nat} {a1 : Int32} {a2 : Int32} {q : Int32} (hf : f_X10_cached h a0 a1 a2 = some q) : Go l X k_X10_cached 0 [(0, rf X a0), (1, .int a1), (2, .int a2)] [] h (rI (q, h)) := by
  unfold f_X10_cached at hf
  refine g_aload_n (pc := 0) 0 dX10_cached_0 rfl rfl ?_
  refine g_iload_n (pc := 1) 1 dX10_cached_1 rfl rfl ?_
  obtain ⟨g1, hf⟩ := gs_some hf
  obtain ⟨v2, hcv2, hf⟩ := bd_some hf
  refine g_cVI (pc := 2) (k2 := k_X10_isCore) (av := [.int a1]) (q := (v2, h)) rfl dX10_cached_2 ck_X10_isCore m_639 m_641 m_16 (ci := 8) rfl (by decide) g1 (by decide) (by decide) rfl (by simp [rf_cat, rq_cat, ca_i, ca_l, ca_r]) (ct_X10_isCore l X hcv2) ?_
  rcases it_some hf with ⟨c3, hf⟩ | ⟨c3, hf⟩
  · refine g_ifeq_t (pc := 5) (tgt := 19) dX10_cached_5 (by decide) c3 ?_
    refine g_iconst (pc := 19) (v := (-1 : Int32)) dX10_cached_19 (by decide) ?_
    obtain rfl := Option.some.inj hf
    exact g_iret (pc := 20) rfl dX10_cached_20
  · refine g_ifeq_f (pc := 5) (tgt := 19) dX10_cached_5 (by decide) c3 ?_
    refine g_iload_n (pc := 8) 2 dX10_cached_8 rfl rfl ?_
    rcases it_some hf with ⟨c4, hf⟩ | ⟨c4, hf⟩
    · refine g_iflt_t (pc := 9) (tgt := 19) dX10_cached_9 (by decide) c4 ?_
      refine g_iconst (pc := 19) (v := (-1 : Int32)) dX10_cached_19 (by decide) ?_
      obtain rfl := Option.some.inj hf
      exact g_iret (pc := 20) rfl dX10_cached_20
    · refine g_iflt_f (pc := 9) (tgt := 19) dX10_cached_9 (by decide) c4 ?_
      refine g_iload_n (pc := 12) 2 dX10_cached_12 rfl rfl ?_
      refine g_sipush (pc := 13) (v := (512 : Int32)) dX10_cached_13 (by decide) ?_
      rcases it_some hf with ⟨c5, hf⟩ | ⟨c5, hf⟩
      · refine g_iclt_t (pc := 16) (tgt := 21) dX10_cached_16 (by decide) c5 ?_
        refine g_aload_n (pc := 21) 0 dX10_cached_21 rfl rfl ?_
        refine g_getR (pc := 22) fl_X10_43 dX10_cached_22 g1 ?_
        refine g_iload_n (pc := 25) 1 dX10_cached_25 rfl rfl ?_
        obtain ⟨g6, hf⟩ := gs_some hf
        obtain ⟨b7, hf⟩ := gb_some hf
        refine g_aldq (pc := 26) g6 b7 dX10_cached_26 ?_
        obtain ⟨g8, hf⟩ := gs_some hf
        refine g_getR (pc := 27) fl_X10_217 dX10_cached_27 g8 ?_
        refine g_iload_n (pc := 30) 2 dX10_cached_30 rfl rfl ?_
        obtain ⟨g9, hf⟩ := gs_some hf
        obtain ⟨v10, hcv10, hf⟩ := bd_some hf
        refine g_cVI (pc := 31) (k2 := k_X2_find) (av := [.int a2]) (q := (v10, h)) rfl dX10_cached_31 ck_X2_find m_689 m_652 m_653 (ci := 1) rfl (by decide) g9 (by decide) (by decide) rfl (by simp [rf_cat, rq_cat, ca_i, ca_l, ca_r]) (ct_X2_find l X hcv10) ?_
        refine g_istore_n (pc := 34) (L' := [(3, .int v10), (0, rf X a0), (1, .int a1), (2, .int a2)]) dX10_cached_34 rfl (by decide) rfl rfl ?_
        refine g_iload_n (pc := 35) 0 dX10_cached_35 rfl rfl ?_
        rcases it_some hf with ⟨c11, hf⟩ | ⟨c11, hf⟩
        · refine g_ifge_t (pc := 36) (tgt := 43) dX10_cached_36 (by decide) c11 ?_
          refine g_aload_n (pc := 43) 1 dX10_cached_43 rfl rfl ?_
          refine g_getR (pc := 44) fl_X10_43 dX10_cached_44 g1 ?_
          refine g_iload_n (pc := 47) 2 dX10_cached_47 rfl rfl ?_
          obtain ⟨b12, hf⟩ := gb_some hf
          refine g_aldq (pc := 48) g6 b12 dX10_cached_48 ?_
          refine g_getR (pc := 49) fl_X10_217 dX10_cached_49 g8 ?_
          refine g_getR (pc := 52) fl_X10_226 dX10_cached_52 g9 ?_
          refine g_iload_n (pc := 55) 0 dX10_cached_55 rfl rfl ?_
          obtain ⟨g13, hf⟩ := gs_some hf
          obtain ⟨b14, hf⟩ := gb_some hf
          refine g_iald (pc := 56) g13 b14 dX10_cached_56 ?_
          obtain rfl := Option.some.inj hf
          exact g_iret (pc := 57) rfl dX10_cached_57
        · refine g_ifge_f (pc := 36) (tgt := 43) dX10_cached_36 (by decide) c11 ?_
          refine g_iconst (pc := 39) (v := (0 : Int32)) dX10_cached_39 (by decide) ?_
          refine g_goto (pc := 40) (tgt := 57) dX10_cached_40 (by decide) ?_
          obtain rfl := Option.some.inj hf
          exact g_iret (pc := 57) rfl dX10_cached_57
      · refine g_iclt_f (pc := 16) (tgt := 21) dX10_cached_16 (by decide) c5 ?_
        refine g_iconst (pc := 19) (v := (-1 : Int32)) dX10_cached_19 (by decide) ?_
        obtain rfl := Option.some.inj hf
        exact g_iret (pc := 20) rfl dX10_cached_20
theorem ct_X10_cached (l : Launch) (X : Cx) {h : AH} {a0 : Nat} {a1 : Int32} {a2 : Int32} {q : Int32} (hf : f_X10_cached h a0 a1 a2 = some q) : Ct l X k_X10_cached [rf X a0, .int a1, .int a2] h (rI (q, h)) := ct_of ck_X10_cached (by simp [lg_sl, rf_cat, rq_cat, ca_i, ca_l, ca_r]) (by simp [lv_args, rf_cat, rq_cat, ca_i, ca_l, ca_r]) (ok_X10_cached l X hf)
set_option maxRecDepth 100000 in
set_option maxHeartbeats 4000000 in
theorem ok_X10_isWord (l : Launch) (X : Cx) {h : AH} {a0 : Int32} {q : Int32} (hf : f_X10_isWord h a0 = some q) : Go l X k_X10_isWord 0 [(0, .int a0)] [] h (rI (q, h)) := by
  unfold f_X10_isWord at hf
  refine g_iload_n (pc := 0) 0 dX10_isWord_0 rfl rfl ?_
  rcases it_some hf with ⟨c1, hf⟩ | ⟨c1, hf⟩
  · refine g_iflt_t (pc := 1) (tgt := 21) dX10_isWord_1 (by decide) c1 ?_
    refine g_iconst (pc := 21) (v := (0 : Int32)) dX10_isWord_21 (by decide) ?_
    obtain rfl := Option.some.inj hf
    exact g_zret (pc := 22) rfl rfl dX10_isWord_22
  · refine g_iflt_f (pc := 1) (tgt := 21) dX10_isWord_1 (by decide) c1 ?_
    refine g_iload_n (pc := 4) 0 dX10_isWord_4 rfl rfl ?_
    refine g_sipush (pc := 5) (v := (8192 : Int32)) dX10_isWord_5 (by decide) ?_
    rcases it_some hf with ⟨c2, hf⟩ | ⟨c2, hf⟩
    · refine g_icge_t (pc := 8) (tgt := 21) dX10_isWord_8 (by decide) c2 ?_
      refine g_iconst (pc := 21) (v := (0 : Int32)) dX10_isWord_21 (by decide) ?_
      obtain rfl := Option.some.inj hf
      exact g_zret (pc := 22) rfl rfl dX10_isWord_22
    · refine g_icge_f (pc := 8) (tgt := 21) dX10_isWord_8 (by decide) c2 ?_
      refine g_iload_n (pc := 11) 0 dX10_isWord_11 rfl rfl ?_
      refine g_iconst (pc := 12) (v := (3 : Int32)) dX10_isWord_12 (by decide) ?_
      refine g_iand (pc := 13) dX10_isWord_13 ?_
      rcases it_some hf with ⟨c3, hf⟩ | ⟨c3, hf⟩
      · refine g_ifne_t (pc := 14) (tgt := 21) dX10_isWord_14 (by decide) c3 ?_
        refine g_iconst (pc := 21) (v := (0 : Int32)) dX10_isWord_21 (by decide) ?_
        obtain rfl := Option.some.inj hf
        exact g_zret (pc := 22) rfl rfl dX10_isWord_22
      · refine g_ifne_f (pc := 14) (tgt := 21) dX10_isWord_14 (by decide) (Decidable.of_not_not c3) ?_
        refine g_iconst (pc := 17) (v := (1 : Int32)) dX10_isWord_17 (by decide) ?_
        refine g_goto (pc := 18) (tgt := 22) dX10_isWord_18 (by decide) ?_
        obtain rfl := Option.some.inj hf
        exact g_zret (pc := 22) rfl rfl dX10_isWord_22
theorem ct_X10_isWord (l : Launch) (X : Cx) {h : AH} {a0 : Int32} {q : Int32} (hf : f_X10_isWord h a0 = some q) : Ct l X k_X10_isWord [.int a0] h (rI (q, h)) := ct_of ck_X10_isWord (by simp [lg_sl, rf_cat, rq_cat, ca_i, ca_l, ca_r]) (by simp [lv_args, rf_cat, rq_cat, ca_i, ca_l, ca_r]) (ok_X10_isWord l X hf)
set_option maxRecDepth 100000 in
set_option maxHeartbeats 4000000 in
theorem ok_X10_waiting (l : Launch) (X : Cx) {h : AH} {a0 : Nat} {a1 : Int32} {q : Int32} (hf : f_X10_waiting h a0 a1 = some q) : Go l X k_X10_waiting 0 [(0, rf X a0), (1, .int a1)] [] h (rI (q, h)) := by
  unfold f_X10_waiting at hf
  refine g_iload_n (pc := 0) 1 dX10_waiting_0 rfl rfl ?_
  rcases it_some hf with ⟨c1, hf⟩ | ⟨c1, hf⟩
  · refine g_iflt_t (pc := 1) (tgt := 26) dX10_waiting_1 (by decide) c1 ?_
    refine g_iconst (pc := 26) (v := (-1 : Int32)) dX10_waiting_26 (by decide) ?_
    obtain rfl := Option.some.inj hf
    exact g_iret (pc := 27) rfl dX10_waiting_27
  · refine g_iflt_f (pc := 1) (tgt := 26) dX10_waiting_1 (by decide) c1 ?_
    refine g_iload_n (pc := 4) 1 dX10_waiting_4 rfl rfl ?_
    refine g_aload_n (pc := 5) 0 dX10_waiting_5 rfl rfl ?_
    obtain ⟨g2, hf⟩ := gs_some hf
    refine g_getR (pc := 6) fl_X10_37 dX10_waiting_6 g2 ?_
    obtain ⟨g3, hf⟩ := gs_some hf
    refine g_getI (pc := 9) fl_X10_245 dX10_waiting_9 g3 ?_
    rcases it_some hf with ⟨c4, hf⟩ | ⟨c4, hf⟩
    · refine g_icge_t (pc := 12) (tgt := 26) dX10_waiting_12 (by decide) c4 ?_
      refine g_iconst (pc := 26) (v := (-1 : Int32)) dX10_waiting_26 (by decide) ?_
      obtain rfl := Option.some.inj hf
      exact g_iret (pc := 27) rfl dX10_waiting_27
    · refine g_icge_f (pc := 12) (tgt := 26) dX10_waiting_12 (by decide) c4 ?_
      refine g_aload_n (pc := 15) 0 dX10_waiting_15 rfl rfl ?_
      refine g_getR (pc := 16) fl_X10_37 dX10_waiting_16 g2 ?_
      refine g_iload_n (pc := 19) 1 dX10_waiting_19 rfl rfl ?_
      obtain ⟨v5, hcv5, hf⟩ := bd_some hf
      refine g_cVI (pc := 20) (k2 := k_X4_countAt) (av := [.int a1]) (q := (v5, h)) rfl dX10_waiting_20 ck_X4_countAt m_694 m_695 m_696 (ci := 3) rfl (by decide) g3 (by decide) (by decide) rfl (by simp [rf_cat, rq_cat, ca_i, ca_l, ca_r]) (ct_X4_countAt l X hcv5) ?_
      refine g_goto (pc := 23) (tgt := 27) dX10_waiting_23 (by decide) ?_
      obtain rfl := Option.some.inj hf
      exact g_iret (pc := 27) rfl dX10_waiting_27
theorem ct_X10_waiting (l : Launch) (X : Cx) {h : AH} {a0 : Nat} {a1 : Int32} {q : Int32} (hf : f_X10_waiting h a0 a1 = some q) : Ct l X k_X10_waiting [rf X a0, .int a1] h (rI (q, h)) := ct_of ck_X10_waiting (by simp [lg_sl, rf_cat, rq_cat, ca_i, ca_l, ca_r]) (by simp [lv_args, rf_cat, rq_cat, ca_i, ca_l, ca_r]) (ok_X10_waiting l X hf)
set_option maxRecDepth 100000 in
set_option maxHeartbeats 4000000 in
theorem ok_X10_lent_L77 (l : Launch) (X : Cx) (h : AH) (a0 : Nat) (a2 : Int32) (a3 : Int32) (a4 : Int32) (q : Int32) (hf : f_X10_lent_L77 h a0 a2 a3 a4 = some q) : Go l X k_X10_lent 77 [(0, rf X a0), (2, .int a2), (3, .int a3), (4, .int a4)] [] h (rI (q, h)) := by
  unfold f_X10_lent_L77 at hf
  refine g_aload_n (pc := 77) 0 dX10_lent_77 rfl rfl ?_
  obtain ⟨g1, hf⟩ := gs_some hf
  refine g_getR (pc := 78) fl_X10_28 dX10_lent_78 g1 ?_
  refine g_iconst (pc := 81) (v := (5 : Int32)) dX10_lent_81 (by decide) ?_
  refine g_iload (pc := 82) 3 dX10_lent_82 rfl ?_
  obtain ⟨g2, hf⟩ := gs_some hf
  obtain ⟨v3, hcv3, hf⟩ := bd_some hf
  refine g_cVI (pc := 84) (k2 := k_X6_placeOfWords) (av := [.int (5 : Int32), .int a4]) (q := (v3, h)) rfl dX10_lent_84 ck_X6_placeOfWords m_1291 m_1292 m_1293 (ci := 4) rfl (by decide) g2 (by decide) (by decide) rfl (by simp [rf_cat, rq_cat, ca_i, ca_l, ca_r]) (ct_X6_placeOfWords l X hcv3) ?_
  refine g_istore (pc := 87) (L' := [(6, .int v3), (0, rf X a0), (2, .int a2), (3, .int a3), (4, .int a4)]) dX10_lent_87 (by decide) rfl rfl ?_
  refine g_iload (pc := 89) 0 dX10_lent_89 rfl ?_
  rcases it_some hf with ⟨c4, hf⟩ | ⟨c4, hf⟩
  · refine g_iflt_t (pc := 91) (tgt := 113) dX10_lent_91 (by decide) c4 ?_
    refine g_aload_n (pc := 113) 1 dX10_lent_113 rfl rfl ?_
    refine g_getR (pc := 114) fl_X10_37 dX10_lent_114 g1 ?_
    obtain ⟨g5, hf⟩ := gs_some hf
    refine g_getR (pc := 117) fl_X10_260 dX10_lent_117 g5 ?_
    refine g_iload_n (pc := 120) 2 dX10_lent_120 rfl rfl ?_
    refine g_iload_n (pc := 121) 3 dX10_lent_121 rfl rfl ?_
    obtain ⟨v6, hcv6, hf⟩ := bd_some hf
    refine g_cSI (pc := 122) (k2 := k_X10_wordOf) (av := [.int a2, .int a3]) (q := (v6, h)) rfl dX10_lent_122 ck_X10_wordOf m_1258 m_1035 (by decide) (by decide) rfl (by simp [rf_cat, rq_cat, ca_i, ca_l, ca_r]) (ct_X10_wordOf l X hcv6) ?_
    obtain ⟨g7, hf⟩ := gs_some hf
    obtain ⟨b8, hf⟩ := gb_some hf
    refine g_iald (pc := 125) g7 b8 dX10_lent_125 ?_
    obtain rfl := Option.some.inj hf
    exact g_iret (pc := 126) rfl dX10_lent_126
  · refine g_iflt_f (pc := 91) (tgt := 113) dX10_lent_91 (by decide) c4 ?_
    refine g_aload_n (pc := 94) 1 dX10_lent_94 rfl rfl ?_
    refine g_getR (pc := 95) fl_X10_28 dX10_lent_95 g1 ?_
    refine g_iload (pc := 98) 0 dX10_lent_98 rfl ?_
    refine g_iconst (pc := 100) (v := (5 : Int32)) dX10_lent_100 (by decide) ?_
    refine g_iload_n (pc := 101) 3 dX10_lent_101 rfl rfl ?_
    refine g_iconst (pc := 102) (v := (2 : Int32)) dX10_lent_102 (by decide) ?_
    refine g_ishr (pc := 103) dX10_lent_103 ?_
    refine g_iconst (pc := 104) (v := (3 : Int32)) dX10_lent_104 (by decide) ?_
    refine g_iand (pc := 105) dX10_lent_105 ?_
    refine g_iadd (pc := 106) dX10_lent_106 ?_
    obtain ⟨v9, hcv9, hf⟩ := bd_some hf
    refine g_cVI (pc := 107) (k2 := k_X6_get) (av := [.int v3, .int ((5 : Int32) + ((a3 >>> ((2 : Int32) &&& 31)) &&& (3 : Int32)))]) (q := (v9, h)) rfl dX10_lent_107 ck_X6_get m_1295 m_682 m_683 (ci := 4) rfl (by decide) g2 (by decide) (by decide) rfl (by simp [rf_cat, rq_cat, ca_i, ca_l, ca_r]) (ct_X6_get l X hcv9) ?_
    refine g_goto (pc := 110) (tgt := 126) dX10_lent_110 (by decide) ?_
    obtain rfl := Option.some.inj hf
    exact g_iret (pc := 126) rfl dX10_lent_126
set_option maxRecDepth 100000 in
set_option maxHeartbeats 4000000 in
theorem ok_X10_lent_L50 (l : Launch) (X : Cx) (h : AH) (a0 : Nat) (a1 : Nat) (a2 : Int32) (a3 : Int32) (a4 : Int32) (q : Int32) (hf : f_X10_lent_L50 h a0 a1 a2 a3 a4 = some q) : Go l X k_X10_lent 50 [(0, rf X a0), (1, rf X a1), (2, .int a2), (3, .int a3), (4, .int a4)] [] h (rI (q, h)) := by
  unfold f_X10_lent_L50 at hf
  refine g_aload_n (pc := 50) 1 dX10_lent_50 rfl rfl ?_
  obtain ⟨g1, hf⟩ := gs_some hf
  refine g_getI (pc := 51) fl_X10_261 dX10_lent_51 g1 ?_
  refine g_iload (pc := 54) 4 dX10_lent_54 rfl ?_
  rcases it_some hf with ⟨c2, hf⟩ | ⟨c2, hf⟩
  · refine g_icne_t (pc := 56) (tgt := 77) dX10_lent_56 (by decide) c2 ?_
    refine g_sub [0, 2, 3, 4] rfl ?_
    exact ok_X10_lent_L77 l X h a0 a2 a3 a4 q hf
  · refine g_icne_f (pc := 56) (tgt := 77) dX10_lent_56 (by decide) (Decidable.of_not_not c2) ?_
    refine g_aload_n (pc := 59) 1 dX10_lent_59 rfl rfl ?_
    refine g_getI (pc := 60) fl_X10_264 dX10_lent_60 g1 ?_
    rcases it_some hf with ⟨c3, hf⟩ | ⟨c3, hf⟩
    · refine g_ifne_t (pc := 63) (tgt := 77) dX10_lent_63 (by decide) c3 ?_
      refine g_sub [0, 2, 3, 4] rfl ?_
      exact ok_X10_lent_L77 l X h a0 a2 a3 a4 q hf
    · refine g_ifne_f (pc := 63) (tgt := 77) dX10_lent_63 (by decide) (Decidable.of_not_not c3) ?_
      refine g_aload_n (pc := 66) 1 dX10_lent_66 rfl rfl ?_
      refine g_getR (pc := 67) fl_X10_268 dX10_lent_67 g1 ?_
      refine g_iload_n (pc := 70) 3 dX10_lent_70 rfl rfl ?_
      refine g_iconst (pc := 71) (v := (2 : Int32)) dX10_lent_71 (by decide) ?_
      refine g_ishr (pc := 72) dX10_lent_72 ?_
      refine g_iconst (pc := 73) (v := (3 : Int32)) dX10_lent_73 (by decide) ?_
      refine g_iand (pc := 74) dX10_lent_74 ?_
      obtain ⟨g4, hf⟩ := gs_some hf
      obtain ⟨b5, hf⟩ := gb_some hf
      refine g_iald (pc := 75) g4 b5 dX10_lent_75 ?_
      obtain rfl := Option.some.inj hf
      exact g_iret (pc := 76) rfl dX10_lent_76
set_option maxRecDepth 100000 in
set_option maxHeartbeats 4000000 in
theorem ok_X10_lent (l : Launch) (X : Cx) {h : AH} {a0 : Nat} {a1 : Nat} {a2 : Int32} {a3 : Int32} {q : Int32} (hf : f_X10_lent h a0 a1 a2 a3 = some q) : Go l X k_X10_lent 0 [(0, rf X a0), (1, rf X a1), (2, .int a2), (3, .int a3)] [] h (rI (q, h)) := by
  unfold f_X10_lent at hf
  refine g_iload_n (pc := 0) 3 dX10_lent_0 rfl rfl ?_
  refine g_iconst (pc := 1) (v := (4 : Int32)) dX10_lent_1 (by decide) ?_
  refine g_ishr (pc := 2) dX10_lent_2 ?_
  obtain ⟨x1, ex1, hf⟩ := lt_some hf
  refine g_istore (pc := 3) (L' := [(4, .int x1), (0, rf X a0), (1, rf X a1), (2, .int a2), (3, .int a3)]) dX10_lent_3 (by decide) ex1 rfl ?_
  refine g_aload_n (pc := 5) 2 dX10_lent_5 rfl rfl ?_
  obtain ⟨g2, hf⟩ := gs_some hf
  refine g_getR (pc := 6) fl_X10_217 dX10_lent_6 g2 ?_
  refine g_iload (pc := 9) 0 dX10_lent_9 rfl ?_
  obtain ⟨g3, hf⟩ := gs_some hf
  obtain ⟨v4, hcv4, hf⟩ := bd_some hf
  refine g_cVI (pc := 11) (k2 := k_X2_find) (av := [.int x1]) (q := (v4, h)) rfl dX10_lent_11 ck_X2_find m_689 m_652 m_653 (ci := 1) rfl (by decide) g3 (by decide) (by decide) rfl (by simp [rf_cat, rq_cat, ca_i, ca_l, ca_r]) (ct_X2_find l X hcv4) ?_
  refine g_istore (pc := 14) (L' := [(5, .int v4), (4, .int x1), (0, rf X a0), (1, rf X a1), (2, .int a2), (3, .int a3)]) dX10_lent_14 (by decide) rfl rfl ?_
  refine g_iload (pc := 16) 0 dX10_lent_16 rfl ?_
  rcases it_some hf with ⟨c5, hf⟩ | ⟨c5, hf⟩
  · refine g_iflt_t (pc := 18) (tgt := 50) dX10_lent_18 (by decide) c5 ?_
    refine g_sub [2, 3, 4, 5, 1] rfl ?_
    exact ok_X10_lent_L50 l X h a0 a1 a2 a3 x1 q hf
  · refine g_iflt_f (pc := 18) (tgt := 50) dX10_lent_18 (by decide) c5 ?_
    refine g_aload_n (pc := 21) 3 dX10_lent_21 rfl rfl ?_
    refine g_getR (pc := 22) fl_X10_217 dX10_lent_22 g2 ?_
    refine g_getR (pc := 25) fl_X10_226 dX10_lent_25 g3 ?_
    refine g_iload (pc := 28) 0 dX10_lent_28 rfl ?_
    obtain ⟨g6, hf⟩ := gs_some hf
    obtain ⟨b7, hf⟩ := gb_some hf
    refine g_iald (pc := 30) g6 b7 dX10_lent_30 ?_
    refine g_iconst (pc := 31) (v := (2 : Int32)) dX10_lent_31 (by decide) ?_
    rcases it_some hf with ⟨c8, hf⟩ | ⟨c8, hf⟩
    · refine g_iclt_t (pc := 32) (tgt := 50) dX10_lent_32 (by decide) c8 ?_
      refine g_sub [2, 3, 4, 5, 1] rfl ?_
      exact ok_X10_lent_L50 l X h a0 a1 a2 a3 x1 q hf
    · refine g_iclt_f (pc := 32) (tgt := 50) dX10_lent_32 (by decide) c8 ?_
      refine g_aload_n (pc := 35) 3 dX10_lent_35 rfl rfl ?_
      refine g_getR (pc := 36) fl_X10_217 dX10_lent_36 g2 ?_
      refine g_getR (pc := 39) fl_X10_234 dX10_lent_39 g3 ?_
      refine g_iload (pc := 42) 0 dX10_lent_42 rfl ?_
      refine g_iload_n (pc := 44) 5 dX10_lent_44 rfl rfl ?_
      obtain ⟨v9, hcv9, hf⟩ := bd_some hf
      refine g_cSI (pc := 45) (k2 := k_X10_wordOf) (av := [.int v4, .int a3]) (q := (v9, h)) rfl dX10_lent_45 ck_X10_wordOf m_1258 m_1035 (by decide) (by decide) rfl (by simp [rf_cat, rq_cat, ca_i, ca_l, ca_r]) (ct_X10_wordOf l X hcv9) ?_
      obtain ⟨g10, hf⟩ := gs_some hf
      obtain ⟨b11, hf⟩ := gb_some hf
      refine g_iald (pc := 48) g10 b11 dX10_lent_48 ?_
      obtain rfl := Option.some.inj hf
      exact g_iret (pc := 49) rfl dX10_lent_49
theorem ct_X10_lent (l : Launch) (X : Cx) {h : AH} {a0 : Nat} {a1 : Nat} {a2 : Int32} {a3 : Int32} {q : Int32} (hf : f_X10_lent h a0 a1 a2 a3 = some q) : Ct l X k_X10_lent [rf X a0, rf X a1, .int a2, .int a3] h (rI (q, h)) := ct_of ck_X10_lent (by simp [lg_sl, rf_cat, rq_cat, ca_i, ca_l, ca_r]) (by simp [lv_args, rf_cat, rq_cat, ca_i, ca_l, ca_r]) (ok_X10_lent l X hf)
set_option maxRecDepth 100000 in
set_option maxHeartbeats 4000000 in
theorem ok_X10_total (l : Launch) (X : Cx) {h : AH} {a0 : Nat} {a1 : Int32} {q : Int32} (hf : f_X10_total h a0 a1 = some q) : Go l X k_X10_total 0 [(0, rf X a0), (1, .int a1)] [] h (rI (q, h)) := by
  unfold f_X10_total at hf
  refine g_iload_n (pc := 0) 1 dX10_total_0 rfl rfl ?_
  rcases it_some hf with ⟨c1, hf⟩ | ⟨c1, hf⟩
  · refine g_tsw (pc := 1) (tgt := 72) (0 : Int32) dX10_total_1 c1 (by decide +kernel) (by decide +kernel) (off := 71) (by decide +kernel) (by decide) ?_
    refine g_aload_n (pc := 72) 0 dX10_total_72 rfl rfl ?_
    obtain ⟨g2, hf⟩ := gs_some hf
    refine g_getR (pc := 73) fl_X10_47 dX10_total_73 g2 ?_
    refine g_iconst (pc := 76) (v := (0 : Int32)) dX10_total_76 (by decide) ?_
    obtain ⟨g3, hf⟩ := gs_some hf
    obtain ⟨b4, hf⟩ := gb_some hf
    refine g_iald (pc := 77) g3 b4 dX10_total_77 ?_
    obtain rfl := Option.some.inj hf
    exact g_iret (pc := 78) rfl dX10_total_78
  ·
    rcases it_some hf with ⟨c5, hf⟩ | ⟨c5, hf⟩
    · refine g_tsw (pc := 1) (tgt := 79) (1 : Int32) dX10_total_1 c5 (by decide +kernel) (by decide +kernel) (off := 78) (by decide +kernel) (by decide) ?_
      refine g_aload_n (pc := 79) 0 dX10_total_79 rfl rfl ?_
      obtain ⟨g6, hf⟩ := gs_some hf
      refine g_getR (pc := 80) fl_X10_28 dX10_total_80 g6 ?_
      obtain ⟨g7, hf⟩ := gs_some hf
      refine g_getI (pc := 83) fl_X10_159 dX10_total_83 g7 ?_
      obtain rfl := Option.some.inj hf
      exact g_iret (pc := 86) rfl dX10_total_86
    ·
      rcases it_some hf with ⟨c8, hf⟩ | ⟨c8, hf⟩
      · refine g_tsw (pc := 1) (tgt := 87) (2 : Int32) dX10_total_1 c8 (by decide +kernel) (by decide +kernel) (off := 86) (by decide +kernel) (by decide) ?_
        refine g_aload_n (pc := 87) 0 dX10_total_87 rfl rfl ?_
        obtain ⟨g9, hf⟩ := gs_some hf
        obtain ⟨v10, hcv10, hf⟩ := bd_some hf
        refine g_cVI (pc := 88) (k2 := k_X10_retired) (av := []) (q := (v10, h)) rfl dX10_total_88 ck_X10_retired m_702 m_704 m_18 (ci := 8) rfl (by decide) g9 (by decide) (by decide) rfl (by simp [rf_cat, rq_cat, ca_i, ca_l, ca_r]) (ct_X10_retired l X hcv10) ?_
        obtain rfl := Option.some.inj hf
        exact g_iret (pc := 91) rfl dX10_total_91
      ·
        rcases it_some hf with ⟨c11, hf⟩ | ⟨c11, hf⟩
        · refine g_tsw (pc := 1) (tgt := 92) (3 : Int32) dX10_total_1 c11 (by decide +kernel) (by decide +kernel) (off := 91) (by decide +kernel) (by decide) ?_
          refine g_aload_n (pc := 92) 0 dX10_total_92 rfl rfl ?_
          obtain ⟨g12, hf⟩ := gs_some hf
          refine g_getR (pc := 93) fl_X10_28 dX10_total_93 g12 ?_
          obtain ⟨g13, hf⟩ := gs_some hf
          refine g_getI (pc := 96) fl_X10_280 dX10_total_96 g13 ?_
          obtain rfl := Option.some.inj hf
          exact g_iret (pc := 99) rfl dX10_total_99
        ·
          rcases it_some hf with ⟨c14, hf⟩ | ⟨c14, hf⟩
          · refine g_tsw (pc := 1) (tgt := 100) (4 : Int32) dX10_total_1 c14 (by decide +kernel) (by decide +kernel) (off := 99) (by decide +kernel) (by decide) ?_
            refine g_aload_n (pc := 100) 0 dX10_total_100 rfl rfl ?_
            obtain ⟨g15, hf⟩ := gs_some hf
            obtain ⟨v16, hcv16, hf⟩ := bd_some hf
            refine g_cVI (pc := 101) (k2 := k_X10_changed) (av := []) (q := (v16, h)) rfl dX10_total_101 ck_X10_changed m_706 m_708 m_19 (ci := 8) rfl (by decide) g15 (by decide) (by decide) rfl (by simp [rf_cat, rq_cat, ca_i, ca_l, ca_r]) (ct_X10_changed l X hcv16) ?_
            obtain rfl := Option.some.inj hf
            exact g_iret (pc := 104) rfl dX10_total_104
          ·
            rcases it_some hf with ⟨c17, hf⟩ | ⟨c17, hf⟩
            · refine g_tsw (pc := 1) (tgt := 105) (5 : Int32) dX10_total_1 c17 (by decide +kernel) (by decide +kernel) (off := 104) (by decide +kernel) (by decide) ?_
              refine g_aload_n (pc := 105) 0 dX10_total_105 rfl rfl ?_
              obtain ⟨g18, hf⟩ := gs_some hf
              refine g_getR (pc := 106) fl_X10_37 dX10_total_106 g18 ?_
              obtain ⟨g19, hf⟩ := gs_some hf
              refine g_getI (pc := 109) fl_X10_285 dX10_total_109 g19 ?_
              obtain rfl := Option.some.inj hf
              exact g_iret (pc := 112) rfl dX10_total_112
            ·
              rcases it_some hf with ⟨c20, hf⟩ | ⟨c20, hf⟩
              · refine g_tsw (pc := 1) (tgt := 113) (6 : Int32) dX10_total_1 c20 (by decide +kernel) (by decide +kernel) (off := 112) (by decide +kernel) (by decide) ?_
                refine g_aload_n (pc := 113) 0 dX10_total_113 rfl rfl ?_
                obtain ⟨g21, hf⟩ := gs_some hf
                refine g_getR (pc := 114) fl_X10_37 dX10_total_114 g21 ?_
                obtain ⟨g22, hf⟩ := gs_some hf
                obtain ⟨v23, hcv23, hf⟩ := bd_some hf
                refine g_cVI (pc := 117) (k2 := k_X4_countLines) (av := []) (q := (v23, h)) rfl dX10_total_117 ck_X4_countLines m_710 m_711 m_712 (ci := 3) rfl (by decide) g22 (by decide) (by decide) rfl (by simp [rf_cat, rq_cat, ca_i, ca_l, ca_r]) (ct_X4_countLines l X hcv23) ?_
                obtain rfl := Option.some.inj hf
                exact g_iret (pc := 120) rfl dX10_total_120
              ·
                rcases it_some hf with ⟨c24, hf⟩ | ⟨c24, hf⟩
                · refine g_tsw (pc := 1) (tgt := 121) (7 : Int32) dX10_total_1 c24 (by decide +kernel) (by decide +kernel) (off := 120) (by decide +kernel) (by decide) ?_
                  refine g_aload_n (pc := 121) 0 dX10_total_121 rfl rfl ?_
                  obtain ⟨g25, hf⟩ := gs_some hf
                  refine g_getR (pc := 122) fl_X10_47 dX10_total_122 g25 ?_
                  refine g_iload_n (pc := 125) 1 dX10_total_125 rfl rfl ?_
                  refine g_bipush (pc := 126) (v := (6 : Int32)) dX10_total_126 (by decide) ?_
                  refine g_isub (pc := 128) dX10_total_128 ?_
                  obtain ⟨g26, hf⟩ := gs_some hf
                  obtain ⟨b27, hf⟩ := gb_some hf
                  refine g_iald (pc := 129) g26 b27 dX10_total_129 ?_
                  obtain rfl := Option.some.inj hf
                  exact g_iret (pc := 130) rfl dX10_total_130
                ·
                  rcases it_some hf with ⟨c28, hf⟩ | ⟨c28, hf⟩
                  · refine g_tsw (pc := 1) (tgt := 121) (8 : Int32) dX10_total_1 c28 (by decide +kernel) (by decide +kernel) (off := 120) (by decide +kernel) (by decide) ?_
                    refine g_aload_n (pc := 121) 0 dX10_total_121 rfl rfl ?_
                    obtain ⟨g29, hf⟩ := gs_some hf
                    refine g_getR (pc := 122) fl_X10_47 dX10_total_122 g29 ?_
                    refine g_iload_n (pc := 125) 1 dX10_total_125 rfl rfl ?_
                    refine g_bipush (pc := 126) (v := (6 : Int32)) dX10_total_126 (by decide) ?_
                    refine g_isub (pc := 128) dX10_total_128 ?_
                    obtain ⟨g30, hf⟩ := gs_some hf
                    obtain ⟨b31, hf⟩ := gb_some hf
                    refine g_iald (pc := 129) g30 b31 dX10_total_129 ?_
                    obtain rfl := Option.some.inj hf
                    exact g_iret (pc := 130) rfl dX10_total_130
                  ·
                    rcases it_some hf with ⟨c32, hf⟩ | ⟨c32, hf⟩
                    · refine g_tsw (pc := 1) (tgt := 121) (9 : Int32) dX10_total_1 c32 (by decide +kernel) (by decide +kernel) (off := 120) (by decide +kernel) (by decide) ?_
                      refine g_aload_n (pc := 121) 0 dX10_total_121 rfl rfl ?_
                      obtain ⟨g33, hf⟩ := gs_some hf
                      refine g_getR (pc := 122) fl_X10_47 dX10_total_122 g33 ?_
                      refine g_iload_n (pc := 125) 1 dX10_total_125 rfl rfl ?_
                      refine g_bipush (pc := 126) (v := (6 : Int32)) dX10_total_126 (by decide) ?_
                      refine g_isub (pc := 128) dX10_total_128 ?_
                      obtain ⟨g34, hf⟩ := gs_some hf
                      obtain ⟨b35, hf⟩ := gb_some hf
                      refine g_iald (pc := 129) g34 b35 dX10_total_129 ?_
                      obtain rfl := Option.some.inj hf
                      exact g_iret (pc := 130) rfl dX10_total_130
                    ·
                      rcases it_some hf with ⟨c36, hf⟩ | ⟨c36, hf⟩
                      · refine g_tsw (pc := 1) (tgt := 121) (10 : Int32) dX10_total_1 c36 (by decide +kernel) (by decide +kernel) (off := 120) (by decide +kernel) (by decide) ?_
                        refine g_aload_n (pc := 121) 0 dX10_total_121 rfl rfl ?_
                        obtain ⟨g37, hf⟩ := gs_some hf
                        refine g_getR (pc := 122) fl_X10_47 dX10_total_122 g37 ?_
                        refine g_iload_n (pc := 125) 1 dX10_total_125 rfl rfl ?_
                        refine g_bipush (pc := 126) (v := (6 : Int32)) dX10_total_126 (by decide) ?_
                        refine g_isub (pc := 128) dX10_total_128 ?_
                        obtain ⟨g38, hf⟩ := gs_some hf
                        obtain ⟨b39, hf⟩ := gb_some hf
                        refine g_iald (pc := 129) g38 b39 dX10_total_129 ?_
                        obtain rfl := Option.some.inj hf
                        exact g_iret (pc := 130) rfl dX10_total_130
                      ·
                        rcases it_some hf with ⟨c40, hf⟩ | ⟨c40, hf⟩
                        · refine g_tsw (pc := 1) (tgt := 121) (11 : Int32) dX10_total_1 c40 (by decide +kernel) (by decide +kernel) (off := 120) (by decide +kernel) (by decide) ?_
                          refine g_aload_n (pc := 121) 0 dX10_total_121 rfl rfl ?_
                          obtain ⟨g41, hf⟩ := gs_some hf
                          refine g_getR (pc := 122) fl_X10_47 dX10_total_122 g41 ?_
                          refine g_iload_n (pc := 125) 1 dX10_total_125 rfl rfl ?_
                          refine g_bipush (pc := 126) (v := (6 : Int32)) dX10_total_126 (by decide) ?_
                          refine g_isub (pc := 128) dX10_total_128 ?_
                          obtain ⟨g42, hf⟩ := gs_some hf
                          obtain ⟨b43, hf⟩ := gb_some hf
                          refine g_iald (pc := 129) g42 b43 dX10_total_129 ?_
                          obtain rfl := Option.some.inj hf
                          exact g_iret (pc := 130) rfl dX10_total_130
                        ·
                          rcases it_some hf with ⟨c44, hf⟩ | ⟨c44, hf⟩
                          · refine g_tsw (pc := 1) (tgt := 131) (12 : Int32) dX10_total_1 c44 (by decide +kernel) (by decide +kernel) (off := 130) (by decide +kernel) (by decide) ?_
                            refine g_aload_n (pc := 131) 0 dX10_total_131 rfl rfl ?_
                            obtain ⟨g45, hf⟩ := gs_some hf
                            refine g_getI (pc := 132) fl_X10_115 dX10_total_132 g45 ?_
                            obtain rfl := Option.some.inj hf
                            exact g_iret (pc := 135) rfl dX10_total_135
                          ·
                            rcases it_some hf with ⟨c46, hf⟩ | ⟨c46, hf⟩
                            · refine g_tsw (pc := 1) (tgt := 136) (13 : Int32) dX10_total_1 c46 (by decide +kernel) (by decide +kernel) (off := 135) (by decide +kernel) (by decide) ?_
                              refine g_aload_n (pc := 136) 0 dX10_total_136 rfl rfl ?_
                              obtain ⟨g47, hf⟩ := gs_some hf
                              refine g_getI (pc := 137) fl_X10_118 dX10_total_137 g47 ?_
                              obtain rfl := Option.some.inj hf
                              exact g_iret (pc := 140) rfl dX10_total_140
                            ·
                              refine g_tswD (pc := 1) (tgt := 141) [(0 : Int32), (1 : Int32), (2 : Int32), (3 : Int32), (4 : Int32), (5 : Int32), (6 : Int32), (7 : Int32), (8 : Int32), (9 : Int32), (10 : Int32), (11 : Int32), (12 : Int32), (13 : Int32)] dX10_total_1 (cons_ne c1 (cons_ne c5 (cons_ne c8 (cons_ne c11 (cons_ne c14 (cons_ne c17 (cons_ne c20 (cons_ne c24 (cons_ne c28 (cons_ne c32 (cons_ne c36 (cons_ne c40 (cons_ne c44 (cons_ne c46 nil_ne)))))))))))))) (by decide +kernel) (by decide +kernel) (by decide) ?_
                              refine g_iconst (pc := 141) (v := (-1 : Int32)) dX10_total_141 (by decide) ?_
                              obtain rfl := Option.some.inj hf
                              exact g_iret (pc := 142) rfl dX10_total_142
theorem ct_X10_total (l : Launch) (X : Cx) {h : AH} {a0 : Nat} {a1 : Int32} {q : Int32} (hf : f_X10_total h a0 a1 = some q) : Ct l X k_X10_total [rf X a0, .int a1] h (rI (q, h)) := ct_of ck_X10_total (by simp [lg_sl, rf_cat, rq_cat, ca_i, ca_l, ca_r]) (by simp [lv_args, rf_cat, rq_cat, ca_i, ca_l, ca_r]) (ok_X10_total l X hf)
