set_option maxRecDepth 100000 in
set_option maxHeartbeats 4000000 in
theorem ok_X1_registerOf_L84 (l : Launch) (X : Cx) (h : AH) (a2 : Int32) (a3 : Int32) (s0 : Int32) (q : Int32) (hf : f_X1_registerOf_L84 h a2 a3 s0 = some q) : Go l X k_X1_registerOf 84 [(2, .int a2), (3, .int a3)] [.int s0] h (rI (q, h)) := by
  unfold f_X1_registerOf_L84 at hf
  refine g_istore (pc := 84) (L' := [(4, .int s0), (2, .int a2), (3, .int a3)]) dX1_registerOf_84 (by decide) rfl rfl ?_
  refine g_iload (pc := 86) 0 dX1_registerOf_86 rfl ?_
  rcases it_some hf with ⟨c1, hf⟩ | ⟨c1, hf⟩
  · refine g_ifeq_t (pc := 88) (tgt := 100) dX1_registerOf_88 (by decide) c1 ?_
    refine g_iconst (pc := 100) (v := (-1 : Int32)) dX1_registerOf_100 (by decide) ?_
    obtain rfl := Option.some.inj hf
    exact g_iret (pc := 101) rfl dX1_registerOf_101
  · refine g_ifeq_f (pc := 88) (tgt := 100) dX1_registerOf_88 (by decide) c1 ?_
    refine g_bipush (pc := 91) (v := (10 : Int32)) dX1_registerOf_91 (by decide) ?_
    refine g_iload_n (pc := 93) 2 dX1_registerOf_93 rfl rfl ?_
    refine g_imul (pc := 94) dX1_registerOf_94 ?_
    refine g_iload_n (pc := 95) 1 dX1_registerOf_95 rfl rfl ?_
    refine g_iadd (pc := 96) dX1_registerOf_96 ?_
    refine g_goto (pc := 97) (tgt := 101) dX1_registerOf_97 (by decide) ?_
    obtain rfl := Option.some.inj hf
    exact g_iret (pc := 101) rfl dX1_registerOf_101
set_option maxRecDepth 100000 in
set_option maxHeartbeats 4000000 in
theorem ok_X1_registerOf_L83 (l : Launch) (X : Cx) (h : AH) (a2 : Int32) (a3 : Int32) (q : Int32) (hf : f_X1_registerOf_L83 h a2 a3 = some q) : Go l X k_X1_registerOf 83 [(2, .int a2), (3, .int a3)] [] h (rI (q, h)) := by
  unfold f_X1_registerOf_L83 at hf
  refine g_iconst (pc := 83) (v := (0 : Int32)) dX1_registerOf_83 (by decide) ?_
  exact ok_X1_registerOf_L84 l X h a2 a3 (0 : Int32) q hf
set_option maxRecDepth 100000 in
set_option maxHeartbeats 4000000 in
theorem ok_X1_registerOf_L79 (l : Launch) (X : Cx) (h : AH) (a2 : Int32) (a3 : Int32) (q : Int32) (hf : f_X1_registerOf_L79 h a2 a3 = some q) : Go l X k_X1_registerOf 79 [(2, .int a2), (3, .int a3)] [] h (rI (q, h)) := by
  unfold f_X1_registerOf_L79 at hf
  refine g_iconst (pc := 79) (v := (1 : Int32)) dX1_registerOf_79 (by decide) ?_
  refine g_goto (pc := 80) (tgt := 84) dX1_registerOf_80 (by decide) ?_
  exact ok_X1_registerOf_L84 l X h a2 a3 (1 : Int32) q hf
set_option maxRecDepth 100000 in
set_option maxHeartbeats 4000000 in
theorem ok_X1_registerOf (l : Launch) (X : Cx) {h : AH} {a0 : Int64} {q : Int32} (hf : f_X1_registerOf h a0 = some q) : Go l X k_X1_registerOf 0 [(0, .long a0)] [] h (rI (q, h)) := by
  unfold f_X1_registerOf at hf
  refine g_lload_n (pc := 0) 0 dX1_registerOf_0 rfl rfl ?_
  refine g_ldc2 (pc := 1) (v := (255 : Int64)) m_833 dX1_registerOf_1 ?_
  refine g_land (pc := 4) dX1_registerOf_4 ?_
  refine g_l2i (pc := 5) dX1_registerOf_5 ?_
  refine g_bipush (pc := 6) (v := (48 : Int32)) dX1_registerOf_6 (by decide) ?_
  refine g_isub (pc := 8) dX1_registerOf_8 ?_
  obtain ⟨x1, ex1, hf⟩ := lt_some hf
  refine g_istore_n (pc := 9) (L' := [(2, .int x1), (0, .long a0)]) dX1_registerOf_9 rfl (by decide) ex1 rfl ?_
  refine g_lload_n (pc := 10) 1 dX1_registerOf_10 rfl rfl ?_
  refine g_bipush (pc := 11) (v := (8 : Int32)) dX1_registerOf_11 (by decide) ?_
  refine g_lushr (pc := 13) dX1_registerOf_13 ?_
  refine g_ldc2 (pc := 14) (v := (255 : Int64)) m_833 dX1_registerOf_14 ?_
  refine g_land (pc := 17) dX1_registerOf_17 ?_
  refine g_l2i (pc := 18) dX1_registerOf_18 ?_
  refine g_bipush (pc := 19) (v := (48 : Int32)) dX1_registerOf_19 (by decide) ?_
  refine g_isub (pc := 21) dX1_registerOf_21 ?_
  obtain ⟨x2, ex2, hf⟩ := lt_some hf
  refine g_istore_n (pc := 22) (L' := [(3, .int x2), (2, .int x1), (0, .long a0)]) dX1_registerOf_22 rfl (by decide) ex2 rfl ?_
  refine g_iload_n (pc := 23) 1 dX1_registerOf_23 rfl rfl ?_
  rcases it_some hf with ⟨c3, hf⟩ | ⟨c3, hf⟩
  · refine g_iflt_t (pc := 24) (tgt := 33) dX1_registerOf_24 (by decide) c3 ?_
    refine g_iconst (pc := 33) (v := (-1 : Int32)) dX1_registerOf_33 (by decide) ?_
    obtain rfl := Option.some.inj hf
    exact g_iret (pc := 34) rfl dX1_registerOf_34
  · refine g_iflt_f (pc := 24) (tgt := 33) dX1_registerOf_24 (by decide) c3 ?_
    refine g_iload_n (pc := 27) 1 dX1_registerOf_27 rfl rfl ?_
    refine g_bipush (pc := 28) (v := (9 : Int32)) dX1_registerOf_28 (by decide) ?_
    rcases it_some hf with ⟨c4, hf⟩ | ⟨c4, hf⟩
    · refine g_icle_t (pc := 30) (tgt := 35) dX1_registerOf_30 (by decide) c4 ?_
      refine g_lload_n (pc := 35) 2 dX1_registerOf_35 rfl rfl ?_
      refine g_bipush (pc := 36) (v := (8 : Int32)) dX1_registerOf_36 (by decide) ?_
      refine g_lushr (pc := 38) dX1_registerOf_38 ?_
      refine g_ldc2 (pc := 39) (v := (120 : Int64)) m_834 dX1_registerOf_39 ?_
      refine g_lcmp (pc := 42) dX1_registerOf_42 ?_
      rcases it_some hf with ⟨c5, hf⟩ | ⟨c5, hf⟩
      · refine g_ifne_t (pc := 43) (tgt := 48) dX1_registerOf_43 (by decide) c5 ?_
        refine g_lload_n (pc := 48) 2 dX1_registerOf_48 rfl rfl ?_
        refine g_bipush (pc := 49) (v := (16 : Int32)) dX1_registerOf_49 (by decide) ?_
        refine g_lushr (pc := 51) dX1_registerOf_51 ?_
        refine g_ldc2 (pc := 52) (v := (120 : Int64)) m_834 dX1_registerOf_52 ?_
        refine g_lcmp (pc := 55) dX1_registerOf_55 ?_
        rcases it_some hf with ⟨c6, hf⟩ | ⟨c6, hf⟩
        · refine g_ifne_t (pc := 56) (tgt := 83) dX1_registerOf_56 (by decide) c6 ?_
          refine g_sub [1, 0] rfl ?_
          exact ok_X1_registerOf_L83 l X h x1 x2 q hf
        · refine g_ifne_f (pc := 56) (tgt := 83) dX1_registerOf_56 (by decide) (Decidable.of_not_not c6) ?_
          refine g_iload_n (pc := 59) 0 dX1_registerOf_59 rfl rfl ?_
          refine g_iconst (pc := 60) (v := (1 : Int32)) dX1_registerOf_60 (by decide) ?_
          rcases it_some hf with ⟨c7, hf⟩ | ⟨c7, hf⟩
          · refine g_iceq_t (pc := 61) (tgt := 79) dX1_registerOf_61 (by decide) c7 ?_
            refine g_sub [1, 0] rfl ?_
            exact ok_X1_registerOf_L79 l X h x1 x2 q hf
          · refine g_iceq_f (pc := 61) (tgt := 79) dX1_registerOf_61 (by decide) c7 ?_
            refine g_iload_n (pc := 64) 0 dX1_registerOf_64 rfl rfl ?_
            refine g_iconst (pc := 65) (v := (2 : Int32)) dX1_registerOf_65 (by decide) ?_
            rcases it_some hf with ⟨c8, hf⟩ | ⟨c8, hf⟩
            · refine g_iceq_t (pc := 66) (tgt := 79) dX1_registerOf_66 (by decide) c8 ?_
              refine g_sub [1, 0] rfl ?_
              exact ok_X1_registerOf_L79 l X h x1 x2 q hf
            · refine g_iceq_f (pc := 66) (tgt := 79) dX1_registerOf_66 (by decide) c8 ?_
              refine g_iload_n (pc := 69) 0 dX1_registerOf_69 rfl rfl ?_
              refine g_iconst (pc := 70) (v := (3 : Int32)) dX1_registerOf_70 (by decide) ?_
              rcases it_some hf with ⟨c9, hf⟩ | ⟨c9, hf⟩
              · refine g_icne_t (pc := 71) (tgt := 83) dX1_registerOf_71 (by decide) c9 ?_
                refine g_sub [1, 0] rfl ?_
                exact ok_X1_registerOf_L83 l X h x1 x2 q hf
              · refine g_icne_f (pc := 71) (tgt := 83) dX1_registerOf_71 (by decide) (Decidable.of_not_not c9) ?_
                refine g_iload_n (pc := 74) 1 dX1_registerOf_74 rfl rfl ?_
                refine g_iconst (pc := 75) (v := (2 : Int32)) dX1_registerOf_75 (by decide) ?_
                rcases it_some hf with ⟨c10, hf⟩ | ⟨c10, hf⟩
                · refine g_icge_t (pc := 76) (tgt := 83) dX1_registerOf_76 (by decide) c10 ?_
                  refine g_sub [1, 0] rfl ?_
                  exact ok_X1_registerOf_L83 l X h x1 x2 q hf
                · refine g_icge_f (pc := 76) (tgt := 83) dX1_registerOf_76 (by decide) c10 ?_
                  refine g_sub [1, 0] rfl ?_
                  exact ok_X1_registerOf_L79 l X h x1 x2 q hf
      · refine g_ifne_f (pc := 43) (tgt := 48) dX1_registerOf_43 (by decide) (Decidable.of_not_not c5) ?_
        refine g_iload_n (pc := 46) 1 dX1_registerOf_46 rfl rfl ?_
        obtain rfl := Option.some.inj hf
        exact g_iret (pc := 47) rfl dX1_registerOf_47
    · refine g_icle_f (pc := 30) (tgt := 35) dX1_registerOf_30 (by decide) c4 ?_
      refine g_iconst (pc := 33) (v := (-1 : Int32)) dX1_registerOf_33 (by decide) ?_
      obtain rfl := Option.some.inj hf
      exact g_iret (pc := 34) rfl dX1_registerOf_34
theorem ct_X1_registerOf (l : Launch) (X : Cx) {h : AH} {a0 : Int64} {q : Int32} (hf : f_X1_registerOf h a0 = some q) : Ct l X k_X1_registerOf [.long a0] h (rI (q, h)) := ct_of ck_X1_registerOf (by simp [lg_sl, rf_cat, rq_cat, ca_i, ca_l, ca_r]) (by simp [lv_args, rf_cat, rq_cat, ca_i, ca_l, ca_r]) (ok_X1_registerOf l X hf)
set_option maxRecDepth 100000 in
set_option maxHeartbeats 4000000 in
theorem ok_X1_readRegister_L25 (l : Launch) (X : Cx) (h : AH) (a0 : Nat) (a1 : Int32) (s0 : Int32) (q : Int32 × AH) (hf : f_X1_readRegister_L25 h a0 a1 s0 = some q) : Go l X k_X1_readRegister 25 [(0, rf X a0), (1, .int a1)] [.int s0] h (rI q) := by
  unfold f_X1_readRegister_L25 at hf
  refine g_istore_n (pc := 25) (L' := [(2, .int s0), (0, rf X a0), (1, .int a1)]) dX1_readRegister_25 rfl (by decide) rfl rfl ?_
  refine g_iload_n (pc := 26) 0 dX1_readRegister_26 rfl rfl ?_
  rcases it_some hf with ⟨c1, hf⟩ | ⟨c1, hf⟩
  · refine g_ifge_t (pc := 27) (tgt := 32) dX1_readRegister_27 (by decide) c1 ?_
    refine g_aload_n (pc := 32) 1 dX1_readRegister_32 rfl rfl ?_
    obtain ⟨g2, hf⟩ := gs_some hf
    refine g_getR (pc := 33) fl_X1_21 dX1_readRegister_33 g2 ?_
    refine g_aload_n (pc := 36) 1 dX1_readRegister_36 rfl rfl ?_
    refine g_getI (pc := 37) fl_X1_50 dX1_readRegister_37 g2 ?_
    refine g_dup2 (pc := 40) dX1_readRegister_40 rfl (rf_cat X _) ?_
    obtain ⟨g3, hf⟩ := gs_some hf
    obtain ⟨b4, hf⟩ := gb_some hf
    refine g_iald (pc := 41) g3 b4 dX1_readRegister_41 ?_
    refine g_iload_n (pc := 42) 0 dX1_readRegister_42 rfl rfl ?_
    refine g_iload_n (pc := 43) 2 dX1_readRegister_43 rfl rfl ?_
    refine g_ishl (pc := 44) dX1_readRegister_44 ?_
    refine g_ior (pc := 45) dX1_readRegister_45 ?_
    obtain ⟨b5, hf⟩ := gb_some hf
    obtain ⟨h6, eh6, hf⟩ := lt_some hf
    refine g_iast (pc := 46) g3 b5 dX1_readRegister_46 eh6 ?_
    refine g_aload_n (pc := 47) 1 dX1_readRegister_47 rfl rfl ?_
    have g7 : hS h6 a0 = 1 := (hS_tI eh6 g2)
    refine g_getR (pc := 48) fl_X1_46 dX1_readRegister_48 g7 ?_
    obtain ⟨g8, hf⟩ := gs_some hf
    obtain ⟨q9, hcq9, hf⟩ := bd_some hf
    refine g_cVV (pc := 51) (k2 := k_X8_next) (av := []) (q := q9) rfl dX1_readRegister_51 ck_X8_next m_756 m_732 m_733 (ci := 6) rfl (by decide) g8 (by decide) (by decide) rfl (by simp [rf_cat, rq_cat, ca_i, ca_l, ca_r]) (ct_X8_next l X hcq9) ?_
    refine g_iconst (pc := 54) (v := (1 : Int32)) dX1_readRegister_54 (by decide) ?_
    obtain rfl := Option.some.inj hf
    exact g_zret (pc := 55) rfl rfl dX1_readRegister_55
  · refine g_ifge_f (pc := 27) (tgt := 32) dX1_readRegister_27 (by decide) c1 ?_
    refine g_iconst (pc := 30) (v := (0 : Int32)) dX1_readRegister_30 (by decide) ?_
    obtain rfl := Option.some.inj hf
    exact g_zret (pc := 31) rfl rfl dX1_readRegister_31
set_option maxRecDepth 100000 in
set_option maxHeartbeats 4000000 in
theorem ok_X1_readRegister (l : Launch) (X : Cx) {h : AH} {a0 : Nat} {a1 : Int32} {q : Int32 × AH} (hf : f_X1_readRegister h a0 a1 = some q) : Go l X k_X1_readRegister 0 [(0, rf X a0), (1, .int a1)] [] h (rI q) := by
  unfold f_X1_readRegister at hf
  refine g_aload_n (pc := 0) 0 dX1_readRegister_0 rfl rfl ?_
  obtain ⟨g1, hf⟩ := gs_some hf
  refine g_getR (pc := 1) fl_X1_46 dX1_readRegister_1 g1 ?_
  obtain ⟨g2, hf⟩ := gs_some hf
  refine g_getI (pc := 4) fl_X1_80 dX1_readRegister_4 g2 ?_
  refine g_iconst (pc := 7) (v := (2 : Int32)) dX1_readRegister_7 (by decide) ?_
  rcases it_some hf with ⟨c3, hf⟩ | ⟨c3, hf⟩
  · refine g_icne_t (pc := 8) (tgt := 24) dX1_readRegister_8 (by decide) c3 ?_
    refine g_iconst (pc := 24) (v := (-1 : Int32)) dX1_readRegister_24 (by decide) ?_
    exact ok_X1_readRegister_L25 l X h a0 a1 (-1 : Int32) q hf
  · refine g_icne_f (pc := 8) (tgt := 24) dX1_readRegister_8 (by decide) (Decidable.of_not_not c3) ?_
    refine g_aload_n (pc := 11) 0 dX1_readRegister_11 rfl rfl ?_
    refine g_getR (pc := 12) fl_X1_46 dX1_readRegister_12 g1 ?_
    refine g_getL (pc := 15) fl_X1_94 dX1_readRegister_15 g2 ?_
    obtain ⟨v4, hcv4, hf⟩ := bd_some hf
    refine g_cSI (pc := 18) (k2 := k_X1_registerOf) (av := [.long (hL h (hR h a0 0) 5)]) (q := (v4, h)) rfl dX1_readRegister_18 ck_X1_registerOf m_830 m_831 (by decide) (by decide) rfl (by simp [rf_cat, rq_cat, ca_i, ca_l, ca_r]) (ct_X1_registerOf l X hcv4) ?_
    refine g_goto (pc := 21) (tgt := 25) dX1_readRegister_21 (by decide) ?_
    exact ok_X1_readRegister_L25 l X h a0 a1 v4 q hf
theorem ct_X1_readRegister (l : Launch) (X : Cx) {h : AH} {a0 : Nat} {a1 : Int32} {q : Int32 × AH} (hf : f_X1_readRegister h a0 a1 = some q) : Ct l X k_X1_readRegister [rf X a0, .int a1] h (rI q) := ct_of ck_X1_readRegister (by simp [lg_sl, rf_cat, rq_cat, ca_i, ca_l, ca_r]) (by simp [lv_args, rf_cat, rq_cat, ca_i, ca_l, ca_r]) (ok_X1_readRegister l X hf)
set_option maxRecDepth 100000 in
set_option maxHeartbeats 4000000 in
theorem ok_X1_readNumber_L154 (l : Launch) (X : Cx) (h : AH) (a0 : Nat) (q : Int32 × AH) (hf : f_X1_readNumber_L154 h a0 = some q) : Go l X k_X1_readNumber 154 [(0, rf X a0)] [] h (rI q) := by
  unfold f_X1_readNumber_L154 at hf
  refine g_aload_n (pc := 154) 0 dX1_readNumber_154 rfl rfl ?_
  obtain ⟨g1, hf⟩ := gs_some hf
  refine g_getR (pc := 155) fl_X1_46 dX1_readNumber_155 g1 ?_
  obtain ⟨g2, hf⟩ := gs_some hf
  obtain ⟨q3, hcq3, hf⟩ := bd_some hf
  refine g_cVV (pc := 158) (k2 := k_X8_next) (av := []) (q := q3) rfl dX1_readNumber_158 ck_X8_next m_756 m_732 m_733 (ci := 6) rfl (by decide) g2 (by decide) (by decide) rfl (by simp [rf_cat, rq_cat, ca_i, ca_l, ca_r]) (ct_X8_next l X hcq3) ?_
  refine g_iconst (pc := 161) (v := (1 : Int32)) dX1_readNumber_161 (by decide) ?_
  obtain rfl := Option.some.inj hf
  exact g_zret (pc := 162) rfl rfl dX1_readNumber_162
set_option maxRecDepth 100000 in
set_option maxHeartbeats 4000000 in
theorem ok_X1_readNumber_L100 (l : Launch) (X : Cx) (h : AH) (a0 : Nat) (s0 : Nat) (s1 : Int32) (s2 : Int64) (q : Int32 × AH) (hf : f_X1_readNumber_L100 h a0 s0 s1 s2 = some q) : Go l X k_X1_readNumber 100 [(0, rf X a0)] [.long s2, .int s1, rf X s0] h (rI q) := by
  unfold f_X1_readNumber_L100 at hf
  obtain ⟨g1, hf⟩ := gs_some hf
  obtain ⟨b2, hf⟩ := gb_some hf
  obtain ⟨h3, eh3, hf⟩ := lt_some hf
  refine g_last (pc := 100) g1 b2 dX1_readNumber_100 eh3 ?_
  refine g_goto (pc := 101) (tgt := 154) dX1_readNumber_101 (by decide) ?_
  exact ok_X1_readNumber_L154 l X h3 a0 q hf
set_option maxRecDepth 100000 in
set_option maxHeartbeats 4000000 in
theorem ok_X1_readNumber_L49 (l : Launch) (X : Cx) (h : AH) (a0 : Nat) (a1 : Int32) (a2 : Int32) (q : Int32 × AH) (hf : f_X1_readNumber_L49 h a0 a1 a2 = some q) : Go l X k_X1_readNumber 49 [(0, rf X a0), (1, .int a1), (2, .int a2)] [] h (rI q) := by
  unfold f_X1_readNumber_L49 at hf
  refine g_aload_n (pc := 49) 0 dX1_readNumber_49 rfl rfl ?_
  obtain ⟨g1, hf⟩ := gs_some hf
  refine g_getR (pc := 50) fl_X1_46 dX1_readNumber_50 g1 ?_
  obtain ⟨g2, hf⟩ := gs_some hf
  refine g_getI (pc := 53) fl_X1_80 dX1_readNumber_53 g2 ?_
  refine g_iconst (pc := 56) (v := (3 : Int32)) dX1_readNumber_56 (by decide) ?_
  rcases it_some hf with ⟨c3, hf⟩ | ⟨c3, hf⟩
  · refine g_icne_t (pc := 57) (tgt := 104) dX1_readNumber_57 (by decide) c3 ?_
    refine g_aload_n (pc := 104) 0 dX1_readNumber_104 rfl rfl ?_
    refine g_getR (pc := 105) fl_X1_46 dX1_readNumber_105 g1 ?_
    refine g_getI (pc := 108) fl_X1_80 dX1_readNumber_108 g2 ?_
    refine g_iconst (pc := 111) (v := (2 : Int32)) dX1_readNumber_111 (by decide) ?_
    rcases it_some hf with ⟨c4, hf⟩ | ⟨c4, hf⟩
    · refine g_icne_t (pc := 112) (tgt := 152) dX1_readNumber_112 (by decide) c4 ?_
      refine g_iconst (pc := 152) (v := (0 : Int32)) dX1_readNumber_152 (by decide) ?_
      obtain rfl := Option.some.inj hf
      exact g_zret (pc := 153) rfl rfl dX1_readNumber_153
    · refine g_icne_f (pc := 112) (tgt := 152) dX1_readNumber_112 (by decide) (Decidable.of_not_not c4) ?_
      refine g_iload_n (pc := 115) 1 dX1_readNumber_115 rfl rfl ?_
      rcases it_some hf with ⟨c5, hf⟩ | ⟨c5, hf⟩
      · refine g_ifeq_t (pc := 116) (tgt := 152) dX1_readNumber_116 (by decide) c5 ?_
        refine g_iconst (pc := 152) (v := (0 : Int32)) dX1_readNumber_152 (by decide) ?_
        obtain rfl := Option.some.inj hf
        exact g_zret (pc := 153) rfl rfl dX1_readNumber_153
      · refine g_ifeq_f (pc := 116) (tgt := 152) dX1_readNumber_116 (by decide) c5 ?_
        refine g_iload_n (pc := 119) 2 dX1_readNumber_119 rfl rfl ?_
        rcases it_some hf with ⟨c6, hf⟩ | ⟨c6, hf⟩
        · refine g_ifne_t (pc := 120) (tgt := 152) dX1_readNumber_120 (by decide) c6 ?_
          refine g_iconst (pc := 152) (v := (0 : Int32)) dX1_readNumber_152 (by decide) ?_
          obtain rfl := Option.some.inj hf
          exact g_zret (pc := 153) rfl rfl dX1_readNumber_153
        · refine g_ifne_f (pc := 120) (tgt := 152) dX1_readNumber_120 (by decide) (Decidable.of_not_not c6) ?_
          refine g_aload_n (pc := 123) 0 dX1_readNumber_123 rfl rfl ?_
          refine g_getR (pc := 124) fl_X1_24 dX1_readNumber_124 g1 ?_
          refine g_aload_n (pc := 127) 0 dX1_readNumber_127 rfl rfl ?_
          refine g_getI (pc := 128) fl_X1_50 dX1_readNumber_128 g1 ?_
          refine g_iconst (pc := 131) (v := (2 : Int32)) dX1_readNumber_131 (by decide) ?_
          obtain ⟨g7, hf⟩ := gs_some hf
          obtain ⟨b8, hf⟩ := gb_some hf
          obtain ⟨h9, eh9, hf⟩ := lt_some hf
          refine g_iast (pc := 132) g7 b8 dX1_readNumber_132 eh9 ?_
          refine g_aload_n (pc := 133) 0 dX1_readNumber_133 rfl rfl ?_
          have g10 : hS h9 a0 = 1 := (hS_tI eh9 g1)
          refine g_getR (pc := 134) fl_X1_30 dX1_readNumber_134 g10 ?_
          refine g_aload_n (pc := 137) 0 dX1_readNumber_137 rfl rfl ?_
          refine g_getI (pc := 138) fl_X1_50 dX1_readNumber_138 g10 ?_
          refine g_aload_n (pc := 141) 0 dX1_readNumber_141 rfl rfl ?_
          refine g_getR (pc := 142) fl_X1_46 dX1_readNumber_142 g10 ?_
          obtain ⟨g11, hf⟩ := gs_some hf
          refine g_getL (pc := 145) fl_X1_94 dX1_readNumber_145 g11 ?_
          obtain ⟨g12, hf⟩ := gs_some hf
          obtain ⟨b13, hf⟩ := gb_some hf
          obtain ⟨h14, eh14, hf⟩ := lt_some hf
          refine g_last (pc := 148) g12 b13 dX1_readNumber_148 eh14 ?_
          refine g_goto (pc := 149) (tgt := 154) dX1_readNumber_149 (by decide) ?_
          refine g_sub [0] rfl ?_
          exact ok_X1_readNumber_L154 l X h14 a0 q hf
  · refine g_icne_f (pc := 57) (tgt := 104) dX1_readNumber_57 (by decide) (Decidable.of_not_not c3) ?_
    refine g_aload_n (pc := 60) 0 dX1_readNumber_60 rfl rfl ?_
    refine g_getR (pc := 61) fl_X1_24 dX1_readNumber_61 g1 ?_
    refine g_aload_n (pc := 64) 0 dX1_readNumber_64 rfl rfl ?_
    refine g_getI (pc := 65) fl_X1_50 dX1_readNumber_65 g1 ?_
    refine g_iconst (pc := 68) (v := (1 : Int32)) dX1_readNumber_68 (by decide) ?_
    obtain ⟨g15, hf⟩ := gs_some hf
    obtain ⟨b16, hf⟩ := gb_some hf
    obtain ⟨h17, eh17, hf⟩ := lt_some hf
    refine g_iast (pc := 69) g15 b16 dX1_readNumber_69 eh17 ?_
    refine g_aload_n (pc := 70) 0 dX1_readNumber_70 rfl rfl ?_
    have g18 : hS h17 a0 = 1 := (hS_tI eh17 g1)
    refine g_getR (pc := 71) fl_X1_30 dX1_readNumber_71 g18 ?_
    refine g_aload_n (pc := 74) 0 dX1_readNumber_74 rfl rfl ?_
    refine g_getI (pc := 75) fl_X1_50 dX1_readNumber_75 g18 ?_
    refine g_iload_n (pc := 78) 2 dX1_readNumber_78 rfl rfl ?_
    rcases it_some hf with ⟨c19, hf⟩ | ⟨c19, hf⟩
    · refine g_ifeq_t (pc := 79) (tgt := 93) dX1_readNumber_79 (by decide) c19 ?_
      refine g_aload_n (pc := 93) 0 dX1_readNumber_93 rfl rfl ?_
      refine g_getR (pc := 94) fl_X1_46 dX1_readNumber_94 g18 ?_
      obtain ⟨g20, hf⟩ := gs_some hf
      refine g_getL (pc := 97) fl_X1_94 dX1_readNumber_97 g20 ?_
      refine g_sub [0] rfl ?_
      exact ok_X1_readNumber_L100 l X h17 a0 (hR h17 a0 8) (hI h17 a0 1) (hL h17 (hR h17 a0 0) 5) q hf
    · refine g_ifeq_f (pc := 79) (tgt := 93) dX1_readNumber_79 (by decide) c19 ?_
      refine g_aload_n (pc := 82) 0 dX1_readNumber_82 rfl rfl ?_
      refine g_getR (pc := 83) fl_X1_46 dX1_readNumber_83 g18 ?_
      obtain ⟨g21, hf⟩ := gs_some hf
      refine g_getL (pc := 86) fl_X1_94 dX1_readNumber_86 g21 ?_
      refine g_lneg (pc := 89) dX1_readNumber_89 ?_
      refine g_goto (pc := 90) (tgt := 100) dX1_readNumber_90 (by decide) ?_
      refine g_sub [0] rfl ?_
      exact ok_X1_readNumber_L100 l X h17 a0 (hR h17 a0 8) (hI h17 a0 1) (-(hL h17 (hR h17 a0 0) 5)) q hf
set_option maxRecDepth 100000 in
set_option maxHeartbeats 4000000 in
theorem ok_X1_readNumber_L37 (l : Launch) (X : Cx) (h : AH) (a0 : Nat) (a1 : Int32) (s0 : Int32) (q : Int32 × AH) (hf : f_X1_readNumber_L37 h a0 a1 s0 = some q) : Go l X k_X1_readNumber 37 [(0, rf X a0), (1, .int a1)] [.int s0] h (rI q) := by
  unfold f_X1_readNumber_L37 at hf
  refine g_istore_n (pc := 37) (L' := [(2, .int s0), (0, rf X a0), (1, .int a1)]) dX1_readNumber_37 rfl (by decide) rfl rfl ?_
  refine g_iload_n (pc := 38) 0 dX1_readNumber_38 rfl rfl ?_
  rcases it_some hf with ⟨c1, hf⟩ | ⟨c1, hf⟩
  · refine g_ifeq_t (pc := 39) (tgt := 49) dX1_readNumber_39 (by decide) c1 ?_
    refine g_sub [1, 2, 0] rfl ?_
    exact ok_X1_readNumber_L49 l X h a0 a1 s0 q hf
  · refine g_ifeq_f (pc := 39) (tgt := 49) dX1_readNumber_39 (by decide) c1 ?_
    refine g_aload_n (pc := 42) 1 dX1_readNumber_42 rfl rfl ?_
    obtain ⟨g2, hf⟩ := gs_some hf
    refine g_getR (pc := 43) fl_X1_46 dX1_readNumber_43 g2 ?_
    obtain ⟨g3, hf⟩ := gs_some hf
    obtain ⟨q4, hcq4, hf⟩ := bd_some hf
    refine g_cVV (pc := 46) (k2 := k_X8_next) (av := []) (q := q4) rfl dX1_readNumber_46 ck_X8_next m_756 m_732 m_733 (ci := 6) rfl (by decide) g3 (by decide) (by decide) rfl (by simp [rf_cat, rq_cat, ca_i, ca_l, ca_r]) (ct_X8_next l X hcq4) ?_
    refine g_sub [1, 2, 0] rfl ?_
    exact ok_X1_readNumber_L49 l X q4 a0 a1 s0 q hf
set_option maxRecDepth 100000 in
set_option maxHeartbeats 4000000 in
theorem ok_X1_readNumber_L36 (l : Launch) (X : Cx) (h : AH) (a0 : Nat) (a1 : Int32) (q : Int32 × AH) (hf : f_X1_readNumber_L36 h a0 a1 = some q) : Go l X k_X1_readNumber 36 [(0, rf X a0), (1, .int a1)] [] h (rI q) := by
  unfold f_X1_readNumber_L36 at hf
  refine g_iconst (pc := 36) (v := (0 : Int32)) dX1_readNumber_36 (by decide) ?_
  exact ok_X1_readNumber_L37 l X h a0 a1 (0 : Int32) q hf
set_option maxRecDepth 100000 in
set_option maxHeartbeats 4000000 in
theorem ok_X1_readNumber (l : Launch) (X : Cx) {h : AH} {a0 : Nat} {a1 : Int32} {q : Int32 × AH} (hf : f_X1_readNumber h a0 a1 = some q) : Go l X k_X1_readNumber 0 [(0, rf X a0), (1, .int a1)] [] h (rI q) := by
  unfold f_X1_readNumber at hf
  refine g_aload_n (pc := 0) 0 dX1_readNumber_0 rfl rfl ?_
  obtain ⟨g1, hf⟩ := gs_some hf
  refine g_getR (pc := 1) fl_X1_27 dX1_readNumber_1 g1 ?_
  refine g_aload_n (pc := 4) 0 dX1_readNumber_4 rfl rfl ?_
  refine g_getI (pc := 5) fl_X1_50 dX1_readNumber_5 g1 ?_
  refine g_aload_n (pc := 8) 0 dX1_readNumber_8 rfl rfl ?_
  refine g_getR (pc := 9) fl_X1_46 dX1_readNumber_9 g1 ?_
  obtain ⟨g2, hf⟩ := gs_some hf
  refine g_getI (pc := 12) fl_X1_98 dX1_readNumber_12 g2 ?_
  obtain ⟨g3, hf⟩ := gs_some hf
  obtain ⟨b4, hf⟩ := gb_some hf
  obtain ⟨h5, eh5, hf⟩ := lt_some hf
  refine g_iast (pc := 15) g3 b4 dX1_readNumber_15 eh5 ?_
  refine g_iload_n (pc := 16) 1 dX1_readNumber_16 rfl rfl ?_
  rcases it_some hf with ⟨c6, hf⟩ | ⟨c6, hf⟩
  · refine g_ifeq_t (pc := 17) (tgt := 36) dX1_readNumber_17 (by decide) c6 ?_
    exact ok_X1_readNumber_L36 l X h5 a0 a1 q hf
  · refine g_ifeq_f (pc := 17) (tgt := 36) dX1_readNumber_17 (by decide) c6 ?_
    refine g_aload_n (pc := 20) 0 dX1_readNumber_20 rfl rfl ?_
    have g7 : hS h5 a0 = 1 := (hS_tI eh5 g1)
    refine g_getR (pc := 21) fl_X1_46 dX1_readNumber_21 g7 ?_
    obtain ⟨g8, hf⟩ := gs_some hf
    refine g_getI (pc := 24) fl_X1_80 dX1_readNumber_24 g8 ?_
    refine g_bipush (pc := 27) (v := (45 : Int32)) dX1_readNumber_27 (by decide) ?_
    rcases it_some hf with ⟨c9, hf⟩ | ⟨c9, hf⟩
    · refine g_icne_t (pc := 29) (tgt := 36) dX1_readNumber_29 (by decide) c9 ?_
      exact ok_X1_readNumber_L36 l X h5 a0 a1 q hf
    · refine g_icne_f (pc := 29) (tgt := 36) dX1_readNumber_29 (by decide) (Decidable.of_not_not c9) ?_
      refine g_iconst (pc := 32) (v := (1 : Int32)) dX1_readNumber_32 (by decide) ?_
      refine g_goto (pc := 33) (tgt := 37) dX1_readNumber_33 (by decide) ?_
      exact ok_X1_readNumber_L37 l X h5 a0 a1 (1 : Int32) q hf
theorem ct_X1_readNumber (l : Launch) (X : Cx) {h : AH} {a0 : Nat} {a1 : Int32} {q : Int32 × AH} (hf : f_X1_readNumber h a0 a1 = some q) : Ct l X k_X1_readNumber [rf X a0, .int a1] h (rI q) := ct_of ck_X1_readNumber (by simp [lg_sl, rf_cat, rq_cat, ca_i, ca_l, ca_r]) (by simp [lv_args, rf_cat, rq_cat, ca_i, ca_l, ca_r]) (ok_X1_readNumber l X hf)
set_option maxRecDepth 100000 in
set_option maxHeartbeats 4000000 in
theorem ok_X1_readOperand (l : Launch) (X : Cx) {h : AH} {a0 : Nat} {a1 : Int32} {q : Int32 × AH} (hf : f_X1_readOperand h a0 a1 = some q) : Go l X k_X1_readOperand 0 [(0, rf X a0), (1, .int a1)] [] h (rI q) := by
  unfold f_X1_readOperand at hf
  refine g_iload_n (pc := 0) 1 dX1_readOperand_0 rfl rfl ?_
  rcases it_some hf with ⟨c1, hf⟩ | ⟨c1, hf⟩
  · refine g_lsw (pc := 1) (tgt := 79) (78 : Int32) dX1_readOperand_1 (by decide +kernel) c1 (off := 78) (by decide +kernel) (by decide) ?_
    refine g_aload_n (pc := 79) 0 dX1_readOperand_79 rfl rfl ?_
    refine g_iconst (pc := 80) (v := (1 : Int32)) dX1_readOperand_80 (by decide) ?_
    obtain ⟨g2, hf⟩ := gs_some hf
    obtain ⟨q3, hcq3, hf⟩ := bd_some hf
    refine g_cVI (pc := 81) (k2 := k_X1_readNumber) (av := [.int (1 : Int32)]) (q := q3) rfl dX1_readOperand_81 ck_X1_readNumber m_835 m_837 m_28 (ci := 0) rfl (by decide) g2 (by decide) (by decide) rfl (by simp [rf_cat, rq_cat, ca_i, ca_l, ca_r]) (ct_X1_readNumber l X hcq3) ?_
    obtain ⟨b4, hf⟩ := gb_some hf
    obtain rfl := Option.some.inj hf
    exact g_zret (pc := 84) rfl b4 dX1_readOperand_84
  ·
    rcases it_some hf with ⟨c5, hf⟩ | ⟨c5, hf⟩
    · refine g_lsw (pc := 1) (tgt := 59) (97 : Int32) dX1_readOperand_1 (by decide +kernel) c5 (off := 58) (by decide +kernel) (by decide) ?_
      refine g_aload_n (pc := 59) 0 dX1_readOperand_59 rfl rfl ?_
      refine g_bipush (pc := 60) (v := (15 : Int32)) dX1_readOperand_60 (by decide) ?_
      obtain ⟨g6, hf⟩ := gs_some hf
      obtain ⟨q7, hcq7, hf⟩ := bd_some hf
      refine g_cVI (pc := 62) (k2 := k_X1_readRegister) (av := [.int (15 : Int32)]) (q := q7) rfl dX1_readOperand_62 ck_X1_readRegister m_826 m_828 m_27 (ci := 0) rfl (by decide) g6 (by decide) (by decide) rfl (by simp [rf_cat, rq_cat, ca_i, ca_l, ca_r]) (ct_X1_readRegister l X hcq7) ?_
      obtain ⟨b8, hf⟩ := gb_some hf
      obtain rfl := Option.some.inj hf
      exact g_zret (pc := 65) rfl b8 dX1_readOperand_65
    ·
      rcases it_some hf with ⟨c9, hf⟩ | ⟨c9, hf⟩
      · refine g_lsw (pc := 1) (tgt := 66) (98 : Int32) dX1_readOperand_1 (by decide +kernel) c9 (off := 65) (by decide +kernel) (by decide) ?_
        refine g_aload_n (pc := 66) 0 dX1_readOperand_66 rfl rfl ?_
        refine g_bipush (pc := 67) (v := (20 : Int32)) dX1_readOperand_67 (by decide) ?_
        obtain ⟨g10, hf⟩ := gs_some hf
        obtain ⟨q11, hcq11, hf⟩ := bd_some hf
        refine g_cVI (pc := 69) (k2 := k_X1_readRegister) (av := [.int (20 : Int32)]) (q := q11) rfl dX1_readOperand_69 ck_X1_readRegister m_826 m_828 m_27 (ci := 0) rfl (by decide) g10 (by decide) (by decide) rfl (by simp [rf_cat, rq_cat, ca_i, ca_l, ca_r]) (ct_X1_readRegister l X hcq11) ?_
        obtain ⟨b12, hf⟩ := gb_some hf
        obtain rfl := Option.some.inj hf
        exact g_zret (pc := 72) rfl b12 dX1_readOperand_72
      ·
        rcases it_some hf with ⟨c13, hf⟩ | ⟨c13, hf⟩
        · refine g_lsw (pc := 1) (tgt := 52) (100 : Int32) dX1_readOperand_1 (by decide +kernel) c13 (off := 51) (by decide +kernel) (by decide) ?_
          refine g_aload_n (pc := 52) 0 dX1_readOperand_52 rfl rfl ?_
          refine g_bipush (pc := 53) (v := (7 : Int32)) dX1_readOperand_53 (by decide) ?_
          obtain ⟨g14, hf⟩ := gs_some hf
          obtain ⟨q15, hcq15, hf⟩ := bd_some hf
          refine g_cVI (pc := 55) (k2 := k_X1_readRegister) (av := [.int (7 : Int32)]) (q := q15) rfl dX1_readOperand_55 ck_X1_readRegister m_826 m_828 m_27 (ci := 0) rfl (by decide) g14 (by decide) (by decide) rfl (by simp [rf_cat, rq_cat, ca_i, ca_l, ca_r]) (ct_X1_readRegister l X hcq15) ?_
          obtain ⟨b16, hf⟩ := gb_some hf
          obtain rfl := Option.some.inj hf
          exact g_zret (pc := 58) rfl b16 dX1_readOperand_58
        ·
          rcases it_some hf with ⟨c17, hf⟩ | ⟨c17, hf⟩
          · refine g_lsw (pc := 1) (tgt := 73) (110 : Int32) dX1_readOperand_1 (by decide +kernel) c17 (off := 72) (by decide +kernel) (by decide) ?_
            refine g_aload_n (pc := 73) 0 dX1_readOperand_73 rfl rfl ?_
            refine g_iconst (pc := 74) (v := (0 : Int32)) dX1_readOperand_74 (by decide) ?_
            obtain ⟨g18, hf⟩ := gs_some hf
            obtain ⟨q19, hcq19, hf⟩ := bd_some hf
            refine g_cVI (pc := 75) (k2 := k_X1_readNumber) (av := [.int (0 : Int32)]) (q := q19) rfl dX1_readOperand_75 ck_X1_readNumber m_835 m_837 m_28 (ci := 0) rfl (by decide) g18 (by decide) (by decide) rfl (by simp [rf_cat, rq_cat, ca_i, ca_l, ca_r]) (ct_X1_readNumber l X hcq19) ?_
            obtain ⟨b20, hf⟩ := gb_some hf
            obtain rfl := Option.some.inj hf
            exact g_zret (pc := 78) rfl b20 dX1_readOperand_78
          ·
            refine g_lswD (pc := 1) (tgt := 85) [(78 : Int32), (97 : Int32), (98 : Int32), (100 : Int32), (110 : Int32)] dX1_readOperand_1 (by decide +kernel) (by decide +kernel) (cons_ne c1 (cons_ne c5 (cons_ne c9 (cons_ne c13 (cons_ne c17 nil_ne))))) (by decide) ?_
            refine g_aload_n (pc := 85) 0 dX1_readOperand_85 rfl rfl ?_
            obtain ⟨g21, hf⟩ := gs_some hf
            refine g_getR (pc := 86) fl_X1_46 dX1_readOperand_86 g21 ?_
            obtain ⟨g22, hf⟩ := gs_some hf
            refine g_getI (pc := 89) fl_X1_80 dX1_readOperand_89 g22 ?_
            refine g_iload_n (pc := 92) 1 dX1_readOperand_92 rfl rfl ?_
            rcases it_some hf with ⟨c23, hf⟩ | ⟨c23, hf⟩
            · refine g_iceq_t (pc := 93) (tgt := 98) dX1_readOperand_93 (by decide) c23 ?_
              refine g_aload_n (pc := 98) 0 dX1_readOperand_98 rfl rfl ?_
              refine g_getR (pc := 99) fl_X1_46 dX1_readOperand_99 g21 ?_
              obtain ⟨q24, hcq24, hf⟩ := bd_some hf
              refine g_cVV (pc := 102) (k2 := k_X8_next) (av := []) (q := q24) rfl dX1_readOperand_102 ck_X8_next m_756 m_732 m_733 (ci := 6) rfl (by decide) g22 (by decide) (by decide) rfl (by simp [rf_cat, rq_cat, ca_i, ca_l, ca_r]) (ct_X8_next l X hcq24) ?_
              refine g_iconst (pc := 105) (v := (1 : Int32)) dX1_readOperand_105 (by decide) ?_
              obtain rfl := Option.some.inj hf
              exact g_zret (pc := 106) rfl rfl dX1_readOperand_106
            · refine g_iceq_f (pc := 93) (tgt := 98) dX1_readOperand_93 (by decide) c23 ?_
              refine g_iconst (pc := 96) (v := (0 : Int32)) dX1_readOperand_96 (by decide) ?_
              obtain rfl := Option.some.inj hf
              exact g_zret (pc := 97) rfl rfl dX1_readOperand_97
theorem ct_X1_readOperand (l : Launch) (X : Cx) {h : AH} {a0 : Nat} {a1 : Int32} {q : Int32 × AH} (hf : f_X1_readOperand h a0 a1 = some q) : Ct l X k_X1_readOperand [rf X a0, .int a1] h (rI q) := ct_of ck_X1_readOperand (by simp [lg_sl, rf_cat, rq_cat, ca_i, ca_l, ca_r]) (by simp [lv_args, rf_cat, rq_cat, ca_i, ca_l, ca_r]) (ok_X1_readOperand l X hf)
set_option maxRecDepth 100000 in
set_option maxHeartbeats 4000000 in
theorem ok_X1_fits (l : Launch) (X : Cx) {h : AH} {a0 : Int32} {a1 : Int64} {q : Int32} (hf : f_X1_fits h a0 a1 = some q) : Go l X k_X1_fits 0 [(0, .int a0), (1, .long a1)] [] h (rI (q, h)) := by
  unfold f_X1_fits at hf
  refine g_iload_n (pc := 0) 0 dX1_fits_0 rfl rfl ?_
  rcases it_some hf with ⟨c1, hf⟩ | ⟨c1, hf⟩
  · refine g_tsw (pc := 1) (tgt := 94) (2 : Int32) dX1_fits_1 c1 (by decide +kernel) (by decide +kernel) (off := 93) (by decide +kernel) (by decide) ?_
    refine g_lload_n (pc := 94) 1 dX1_fits_94 rfl rfl ?_
    refine g_lconst (pc := 95) (v := (0 : Int64)) dX1_fits_95 (by decide) ?_
    refine g_lcmp (pc := 96) dX1_fits_96 ?_
    rcases it_some hf with ⟨c2, hf⟩ | ⟨c2, hf⟩
    · refine g_iflt_t (pc := 97) (tgt := 112) dX1_fits_97 (by decide) c2 ?_
      refine g_iconst (pc := 112) (v := (0 : Int32)) dX1_fits_112 (by decide) ?_
      obtain rfl := Option.some.inj hf
      exact g_zret (pc := 113) rfl rfl dX1_fits_113
    · refine g_iflt_f (pc := 97) (tgt := 112) dX1_fits_97 (by decide) c2 ?_
      refine g_lload_n (pc := 100) 1 dX1_fits_100 rfl rfl ?_
      refine g_ldc2 (pc := 101) (v := (31 : Int64)) m_849 dX1_fits_101 ?_
      refine g_lcmp (pc := 104) dX1_fits_104 ?_
      rcases it_some hf with ⟨c3, hf⟩ | ⟨c3, hf⟩
      · refine g_ifgt_t (pc := 105) (tgt := 112) dX1_fits_105 (by decide) c3 ?_
        refine g_iconst (pc := 112) (v := (0 : Int32)) dX1_fits_112 (by decide) ?_
        obtain rfl := Option.some.inj hf
        exact g_zret (pc := 113) rfl rfl dX1_fits_113
      · refine g_ifgt_f (pc := 105) (tgt := 112) dX1_fits_105 (by decide) c3 ?_
        refine g_iconst (pc := 108) (v := (1 : Int32)) dX1_fits_108 (by decide) ?_
        refine g_goto (pc := 109) (tgt := 113) dX1_fits_109 (by decide) ?_
        obtain rfl := Option.some.inj hf
        exact g_zret (pc := 113) rfl rfl dX1_fits_113
  ·
    rcases it_some hf with ⟨c4, hf⟩ | ⟨c4, hf⟩
    · refine g_tsw (pc := 1) (tgt := 114) (4 : Int32) dX1_fits_1 c4 (by decide +kernel) (by decide +kernel) (off := 113) (by decide +kernel) (by decide) ?_
      refine g_lload_n (pc := 114) 1 dX1_fits_114 rfl rfl ?_
      refine g_ldc2 (pc := 115) (v := (-4096 : Int64)) m_850 dX1_fits_115 ?_
      refine g_lcmp (pc := 118) dX1_fits_118 ?_
      rcases it_some hf with ⟨c5, hf⟩ | ⟨c5, hf⟩
      · refine g_iflt_t (pc := 119) (tgt := 142) dX1_fits_119 (by decide) c5 ?_
        refine g_iconst (pc := 142) (v := (0 : Int32)) dX1_fits_142 (by decide) ?_
        obtain rfl := Option.some.inj hf
        exact g_zret (pc := 143) rfl rfl dX1_fits_143
      · refine g_iflt_f (pc := 119) (tgt := 142) dX1_fits_119 (by decide) c5 ?_
        refine g_lload_n (pc := 122) 1 dX1_fits_122 rfl rfl ?_
        refine g_ldc2 (pc := 123) (v := (4094 : Int64)) m_851 dX1_fits_123 ?_
        refine g_lcmp (pc := 126) dX1_fits_126 ?_
        rcases it_some hf with ⟨c6, hf⟩ | ⟨c6, hf⟩
        · refine g_ifgt_t (pc := 127) (tgt := 142) dX1_fits_127 (by decide) c6 ?_
          refine g_iconst (pc := 142) (v := (0 : Int32)) dX1_fits_142 (by decide) ?_
          obtain rfl := Option.some.inj hf
          exact g_zret (pc := 143) rfl rfl dX1_fits_143
        · refine g_ifgt_f (pc := 127) (tgt := 142) dX1_fits_127 (by decide) c6 ?_
          refine g_lload_n (pc := 130) 1 dX1_fits_130 rfl rfl ?_
          refine g_lconst (pc := 131) (v := (1 : Int64)) dX1_fits_131 (by decide) ?_
          refine g_land (pc := 132) dX1_fits_132 ?_
          refine g_lconst (pc := 133) (v := (0 : Int64)) dX1_fits_133 (by decide) ?_
          refine g_lcmp (pc := 134) dX1_fits_134 ?_
          rcases it_some hf with ⟨c7, hf⟩ | ⟨c7, hf⟩
          · refine g_ifne_t (pc := 135) (tgt := 142) dX1_fits_135 (by decide) c7 ?_
            refine g_iconst (pc := 142) (v := (0 : Int32)) dX1_fits_142 (by decide) ?_
            obtain rfl := Option.some.inj hf
            exact g_zret (pc := 143) rfl rfl dX1_fits_143
          · refine g_ifne_f (pc := 135) (tgt := 142) dX1_fits_135 (by decide) (Decidable.of_not_not c7) ?_
            refine g_iconst (pc := 138) (v := (1 : Int32)) dX1_fits_138 (by decide) ?_
            refine g_goto (pc := 139) (tgt := 143) dX1_fits_139 (by decide) ?_
            obtain rfl := Option.some.inj hf
            exact g_zret (pc := 143) rfl rfl dX1_fits_143
    ·
      rcases it_some hf with ⟨c8, hf⟩ | ⟨c8, hf⟩
      · refine g_tsw (pc := 1) (tgt := 74) (5 : Int32) dX1_fits_1 c8 (by decide +kernel) (by decide +kernel) (off := 73) (by decide +kernel) (by decide) ?_
        refine g_lload_n (pc := 74) 1 dX1_fits_74 rfl rfl ?_
        refine g_lconst (pc := 75) (v := (0 : Int64)) dX1_fits_75 (by decide) ?_
        refine g_lcmp (pc := 76) dX1_fits_76 ?_
        rcases it_some hf with ⟨c9, hf⟩ | ⟨c9, hf⟩
        · refine g_iflt_t (pc := 77) (tgt := 92) dX1_fits_77 (by decide) c9 ?_
          refine g_iconst (pc := 92) (v := (0 : Int32)) dX1_fits_92 (by decide) ?_
          obtain rfl := Option.some.inj hf
          exact g_zret (pc := 93) rfl rfl dX1_fits_93
        · refine g_iflt_f (pc := 77) (tgt := 92) dX1_fits_77 (by decide) c9 ?_
          refine g_lload_n (pc := 80) 1 dX1_fits_80 rfl rfl ?_
          refine g_ldc2 (pc := 81) (v := (1048575 : Int64)) m_848 dX1_fits_81 ?_
          refine g_lcmp (pc := 84) dX1_fits_84 ?_
          rcases it_some hf with ⟨c10, hf⟩ | ⟨c10, hf⟩
          · refine g_ifgt_t (pc := 85) (tgt := 92) dX1_fits_85 (by decide) c10 ?_
            refine g_iconst (pc := 92) (v := (0 : Int32)) dX1_fits_92 (by decide) ?_
            obtain rfl := Option.some.inj hf
            exact g_zret (pc := 93) rfl rfl dX1_fits_93
          · refine g_ifgt_f (pc := 85) (tgt := 92) dX1_fits_85 (by decide) c10 ?_
            refine g_iconst (pc := 88) (v := (1 : Int32)) dX1_fits_88 (by decide) ?_
            refine g_goto (pc := 89) (tgt := 93) dX1_fits_89 (by decide) ?_
            obtain rfl := Option.some.inj hf
            exact g_zret (pc := 93) rfl rfl dX1_fits_93
      ·
        rcases it_some hf with ⟨c11, hf⟩ | ⟨c11, hf⟩
        · refine g_tsw (pc := 1) (tgt := 144) (6 : Int32) dX1_fits_1 c11 (by decide +kernel) (by decide +kernel) (off := 143) (by decide +kernel) (by decide) ?_
          refine g_lload_n (pc := 144) 1 dX1_fits_144 rfl rfl ?_
          refine g_ldc2 (pc := 145) (v := (-1048576 : Int64)) m_852 dX1_fits_145 ?_
          refine g_lcmp (pc := 148) dX1_fits_148 ?_
          rcases it_some hf with ⟨c12, hf⟩ | ⟨c12, hf⟩
          · refine g_iflt_t (pc := 149) (tgt := 172) dX1_fits_149 (by decide) c12 ?_
            refine g_iconst (pc := 172) (v := (0 : Int32)) dX1_fits_172 (by decide) ?_
            obtain rfl := Option.some.inj hf
            exact g_zret (pc := 173) rfl rfl dX1_fits_173
          · refine g_iflt_f (pc := 149) (tgt := 172) dX1_fits_149 (by decide) c12 ?_
            refine g_lload_n (pc := 152) 1 dX1_fits_152 rfl rfl ?_
            refine g_ldc2 (pc := 153) (v := (1048574 : Int64)) m_853 dX1_fits_153 ?_
            refine g_lcmp (pc := 156) dX1_fits_156 ?_
            rcases it_some hf with ⟨c13, hf⟩ | ⟨c13, hf⟩
            · refine g_ifgt_t (pc := 157) (tgt := 172) dX1_fits_157 (by decide) c13 ?_
              refine g_iconst (pc := 172) (v := (0 : Int32)) dX1_fits_172 (by decide) ?_
              obtain rfl := Option.some.inj hf
              exact g_zret (pc := 173) rfl rfl dX1_fits_173
            · refine g_ifgt_f (pc := 157) (tgt := 172) dX1_fits_157 (by decide) c13 ?_
              refine g_lload_n (pc := 160) 1 dX1_fits_160 rfl rfl ?_
              refine g_lconst (pc := 161) (v := (1 : Int64)) dX1_fits_161 (by decide) ?_
              refine g_land (pc := 162) dX1_fits_162 ?_
              refine g_lconst (pc := 163) (v := (0 : Int64)) dX1_fits_163 (by decide) ?_
              refine g_lcmp (pc := 164) dX1_fits_164 ?_
              rcases it_some hf with ⟨c14, hf⟩ | ⟨c14, hf⟩
              · refine g_ifne_t (pc := 165) (tgt := 172) dX1_fits_165 (by decide) c14 ?_
                refine g_iconst (pc := 172) (v := (0 : Int32)) dX1_fits_172 (by decide) ?_
                obtain rfl := Option.some.inj hf
                exact g_zret (pc := 173) rfl rfl dX1_fits_173
              · refine g_ifne_f (pc := 165) (tgt := 172) dX1_fits_165 (by decide) (Decidable.of_not_not c14) ?_
                refine g_iconst (pc := 168) (v := (1 : Int32)) dX1_fits_168 (by decide) ?_
                refine g_goto (pc := 169) (tgt := 173) dX1_fits_169 (by decide) ?_
                obtain rfl := Option.some.inj hf
                exact g_zret (pc := 173) rfl rfl dX1_fits_173
        ·
          rcases it_some hf with ⟨c15, hf⟩ | ⟨c15, hf⟩
          · refine g_tsw (pc := 1) (tgt := 52) (7 : Int32) dX1_fits_1 c15 (by decide +kernel) (by decide +kernel) (off := 51) (by decide +kernel) (by decide) ?_
            refine g_lload_n (pc := 52) 1 dX1_fits_52 rfl rfl ?_
            refine g_ldc2 (pc := 53) (v := (-2147483648 : Int64)) m_846 dX1_fits_53 ?_
            refine g_lcmp (pc := 56) dX1_fits_56 ?_
            rcases it_some hf with ⟨c16, hf⟩ | ⟨c16, hf⟩
            · refine g_iflt_t (pc := 57) (tgt := 72) dX1_fits_57 (by decide) c16 ?_
              refine g_iconst (pc := 72) (v := (0 : Int32)) dX1_fits_72 (by decide) ?_
              obtain rfl := Option.some.inj hf
              exact g_zret (pc := 73) rfl rfl dX1_fits_73
            · refine g_iflt_f (pc := 57) (tgt := 72) dX1_fits_57 (by decide) c16 ?_
              refine g_lload_n (pc := 60) 1 dX1_fits_60 rfl rfl ?_
              refine g_ldc2 (pc := 61) (v := (4294967295 : Int64)) m_847 dX1_fits_61 ?_
              refine g_lcmp (pc := 64) dX1_fits_64 ?_
              rcases it_some hf with ⟨c17, hf⟩ | ⟨c17, hf⟩
              · refine g_ifgt_t (pc := 65) (tgt := 72) dX1_fits_65 (by decide) c17 ?_
                refine g_iconst (pc := 72) (v := (0 : Int32)) dX1_fits_72 (by decide) ?_
                obtain rfl := Option.some.inj hf
                exact g_zret (pc := 73) rfl rfl dX1_fits_73
              · refine g_ifgt_f (pc := 65) (tgt := 72) dX1_fits_65 (by decide) c17 ?_
                refine g_iconst (pc := 68) (v := (1 : Int32)) dX1_fits_68 (by decide) ?_
                refine g_goto (pc := 69) (tgt := 73) dX1_fits_69 (by decide) ?_
                obtain rfl := Option.some.inj hf
                exact g_zret (pc := 73) rfl rfl dX1_fits_73
          ·
            rcases it_some hf with ⟨c18, hf⟩ | ⟨c18, hf⟩
            · refine g_tsw (pc := 1) (tgt := 52) (8 : Int32) dX1_fits_1 c18 (by decide +kernel) (by decide +kernel) (off := 51) (by decide +kernel) (by decide) ?_
              refine g_lload_n (pc := 52) 1 dX1_fits_52 rfl rfl ?_
              refine g_ldc2 (pc := 53) (v := (-2147483648 : Int64)) m_846 dX1_fits_53 ?_
              refine g_lcmp (pc := 56) dX1_fits_56 ?_
              rcases it_some hf with ⟨c19, hf⟩ | ⟨c19, hf⟩
              · refine g_iflt_t (pc := 57) (tgt := 72) dX1_fits_57 (by decide) c19 ?_
                refine g_iconst (pc := 72) (v := (0 : Int32)) dX1_fits_72 (by decide) ?_
                obtain rfl := Option.some.inj hf
                exact g_zret (pc := 73) rfl rfl dX1_fits_73
              · refine g_iflt_f (pc := 57) (tgt := 72) dX1_fits_57 (by decide) c19 ?_
                refine g_lload_n (pc := 60) 1 dX1_fits_60 rfl rfl ?_
                refine g_ldc2 (pc := 61) (v := (4294967295 : Int64)) m_847 dX1_fits_61 ?_
                refine g_lcmp (pc := 64) dX1_fits_64 ?_
                rcases it_some hf with ⟨c20, hf⟩ | ⟨c20, hf⟩
                · refine g_ifgt_t (pc := 65) (tgt := 72) dX1_fits_65 (by decide) c20 ?_
                  refine g_iconst (pc := 72) (v := (0 : Int32)) dX1_fits_72 (by decide) ?_
                  obtain rfl := Option.some.inj hf
                  exact g_zret (pc := 73) rfl rfl dX1_fits_73
                · refine g_ifgt_f (pc := 65) (tgt := 72) dX1_fits_65 (by decide) c20 ?_
                  refine g_iconst (pc := 68) (v := (1 : Int32)) dX1_fits_68 (by decide) ?_
                  refine g_goto (pc := 69) (tgt := 73) dX1_fits_69 (by decide) ?_
                  obtain rfl := Option.some.inj hf
                  exact g_zret (pc := 73) rfl rfl dX1_fits_73
            ·
              rcases it_some hf with ⟨c21, hf⟩ | ⟨c21, hf⟩
              · refine g_tsw (pc := 1) (tgt := 174) (9 : Int32) dX1_fits_1 c21 (by decide +kernel) (by decide +kernel) (off := 173) (by decide +kernel) (by decide) ?_
                refine g_lload_n (pc := 174) 1 dX1_fits_174 rfl rfl ?_
                refine g_lconst (pc := 175) (v := (0 : Int64)) dX1_fits_175 (by decide) ?_
                refine g_lcmp (pc := 176) dX1_fits_176 ?_
                rcases it_some hf with ⟨c22, hf⟩ | ⟨c22, hf⟩
                · refine g_iflt_t (pc := 177) (tgt := 202) dX1_fits_177 (by decide) c22 ?_
                  refine g_iconst (pc := 202) (v := (0 : Int32)) dX1_fits_202 (by decide) ?_
                  obtain rfl := Option.some.inj hf
                  exact g_zret (pc := 203) rfl rfl dX1_fits_203
                · refine g_iflt_f (pc := 177) (tgt := 202) dX1_fits_177 (by decide) c22 ?_
                  refine g_lload_n (pc := 180) 1 dX1_fits_180 rfl rfl ?_
                  refine g_ldc2 (pc := 181) (v := (8188 : Int64)) m_854 dX1_fits_181 ?_
                  refine g_lcmp (pc := 184) dX1_fits_184 ?_
                  rcases it_some hf with ⟨c23, hf⟩ | ⟨c23, hf⟩
                  · refine g_ifgt_t (pc := 185) (tgt := 202) dX1_fits_185 (by decide) c23 ?_
                    refine g_iconst (pc := 202) (v := (0 : Int32)) dX1_fits_202 (by decide) ?_
                    obtain rfl := Option.some.inj hf
                    exact g_zret (pc := 203) rfl rfl dX1_fits_203
                  · refine g_ifgt_f (pc := 185) (tgt := 202) dX1_fits_185 (by decide) c23 ?_
                    refine g_lload_n (pc := 188) 1 dX1_fits_188 rfl rfl ?_
                    refine g_ldc2 (pc := 189) (v := (3 : Int64)) m_855 dX1_fits_189 ?_
                    refine g_land (pc := 192) dX1_fits_192 ?_
                    refine g_lconst (pc := 193) (v := (0 : Int64)) dX1_fits_193 (by decide) ?_
                    refine g_lcmp (pc := 194) dX1_fits_194 ?_
                    rcases it_some hf with ⟨c24, hf⟩ | ⟨c24, hf⟩
                    · refine g_ifne_t (pc := 195) (tgt := 202) dX1_fits_195 (by decide) c24 ?_
                      refine g_iconst (pc := 202) (v := (0 : Int32)) dX1_fits_202 (by decide) ?_
                      obtain rfl := Option.some.inj hf
                      exact g_zret (pc := 203) rfl rfl dX1_fits_203
                    · refine g_ifne_f (pc := 195) (tgt := 202) dX1_fits_195 (by decide) (Decidable.of_not_not c24) ?_
                      refine g_iconst (pc := 198) (v := (1 : Int32)) dX1_fits_198 (by decide) ?_
                      refine g_goto (pc := 199) (tgt := 203) dX1_fits_199 (by decide) ?_
                      obtain rfl := Option.some.inj hf
                      exact g_zret (pc := 203) rfl rfl dX1_fits_203
              ·
                rcases it_some hf with ⟨c25, hf⟩ | ⟨c25, hf⟩
                · refine g_tsw (pc := 1) (tgt := 204) (10 : Int32) dX1_fits_1 c25 (by decide +kernel) (by decide +kernel) (off := 203) (by decide +kernel) (by decide) ?_
                  refine g_lload_n (pc := 204) 1 dX1_fits_204 rfl rfl ?_
                  refine g_lconst (pc := 205) (v := (0 : Int64)) dX1_fits_205 (by decide) ?_
                  refine g_lcmp (pc := 206) dX1_fits_206 ?_
                  rcases it_some hf with ⟨c26, hf⟩ | ⟨c26, hf⟩
                  · refine g_iflt_t (pc := 207) (tgt := 222) dX1_fits_207 (by decide) c26 ?_
                    refine g_iconst (pc := 222) (v := (0 : Int32)) dX1_fits_222 (by decide) ?_
                    obtain rfl := Option.some.inj hf
                    exact g_zret (pc := 223) rfl rfl dX1_fits_223
                  · refine g_iflt_f (pc := 207) (tgt := 222) dX1_fits_207 (by decide) c26 ?_
                    refine g_lload_n (pc := 210) 1 dX1_fits_210 rfl rfl ?_
                    refine g_ldc2 (pc := 211) (v := (15 : Int64)) m_856 dX1_fits_211 ?_
                    refine g_lcmp (pc := 214) dX1_fits_214 ?_
                    rcases it_some hf with ⟨c27, hf⟩ | ⟨c27, hf⟩
                    · refine g_ifgt_t (pc := 215) (tgt := 222) dX1_fits_215 (by decide) c27 ?_
                      refine g_iconst (pc := 222) (v := (0 : Int32)) dX1_fits_222 (by decide) ?_
                      obtain rfl := Option.some.inj hf
                      exact g_zret (pc := 223) rfl rfl dX1_fits_223
                    · refine g_ifgt_f (pc := 215) (tgt := 222) dX1_fits_215 (by decide) c27 ?_
                      refine g_iconst (pc := 218) (v := (1 : Int32)) dX1_fits_218 (by decide) ?_
                      refine g_goto (pc := 219) (tgt := 223) dX1_fits_219 (by decide) ?_
                      obtain rfl := Option.some.inj hf
                      exact g_zret (pc := 223) rfl rfl dX1_fits_223
                ·
                  refine g_tswD (pc := 1) (tgt := 224) [(2 : Int32), (4 : Int32), (5 : Int32), (6 : Int32), (7 : Int32), (8 : Int32), (9 : Int32), (10 : Int32)] dX1_fits_1 (cons_ne c1 (cons_ne c4 (cons_ne c8 (cons_ne c11 (cons_ne c15 (cons_ne c18 (cons_ne c21 (cons_ne c25 nil_ne)))))))) (by decide +kernel) (by decide +kernel) (by decide) ?_
                  refine g_lload_n (pc := 224) 1 dX1_fits_224 rfl rfl ?_
                  refine g_ldc2 (pc := 225) (v := (-2048 : Int64)) m_857 dX1_fits_225 ?_
                  refine g_lcmp (pc := 228) dX1_fits_228 ?_
                  rcases it_some hf with ⟨c28, hf⟩ | ⟨c28, hf⟩
                  · refine g_iflt_t (pc := 229) (tgt := 244) dX1_fits_229 (by decide) c28 ?_
                    refine g_iconst (pc := 244) (v := (0 : Int32)) dX1_fits_244 (by decide) ?_
                    obtain rfl := Option.some.inj hf
                    exact g_zret (pc := 245) rfl rfl dX1_fits_245
                  · refine g_iflt_f (pc := 229) (tgt := 244) dX1_fits_229 (by decide) c28 ?_
                    refine g_lload_n (pc := 232) 1 dX1_fits_232 rfl rfl ?_
                    refine g_ldc2 (pc := 233) (v := (2047 : Int64)) m_858 dX1_fits_233 ?_
                    refine g_lcmp (pc := 236) dX1_fits_236 ?_
                    rcases it_some hf with ⟨c29, hf⟩ | ⟨c29, hf⟩
                    · refine g_ifgt_t (pc := 237) (tgt := 244) dX1_fits_237 (by decide) c29 ?_
                      refine g_iconst (pc := 244) (v := (0 : Int32)) dX1_fits_244 (by decide) ?_
                      obtain rfl := Option.some.inj hf
                      exact g_zret (pc := 245) rfl rfl dX1_fits_245
                    · refine g_ifgt_f (pc := 237) (tgt := 244) dX1_fits_237 (by decide) c29 ?_
                      refine g_iconst (pc := 240) (v := (1 : Int32)) dX1_fits_240 (by decide) ?_
                      refine g_goto (pc := 241) (tgt := 245) dX1_fits_241 (by decide) ?_
                      obtain rfl := Option.some.inj hf
                      exact g_zret (pc := 245) rfl rfl dX1_fits_245
theorem ct_X1_fits (l : Launch) (X : Cx) {h : AH} {a0 : Int32} {a1 : Int64} {q : Int32} (hf : f_X1_fits h a0 a1 = some q) : Ct l X k_X1_fits [.int a0, .long a1] h (rI (q, h)) := ct_of ck_X1_fits (by simp [lg_sl, rf_cat, rq_cat, ca_i, ca_l, ca_r]) (by simp [lv_args, rf_cat, rq_cat, ca_i, ca_l, ca_r]) (ok_X1_fits l X hf)
set_option maxRecDepth 100000 in
set_option maxHeartbeats 4000000 in
theorem ok_X1_wordsOf_L56 (l : Launch) (X : Cx) (h : AH) (a2 : Int32) (s0 : Int32) (q : Int32) (hf : f_X1_wordsOf_L56 h a2 s0 = some q) : Go l X k_X1_wordsOf 56 [(2, .int a2)] [.int s0] h (rI (q, h)) := by
  unfold f_X1_wordsOf_L56 at hf
  refine g_istore_n (pc := 56) (L' := [(3, .int s0), (2, .int a2)]) dX1_wordsOf_56 rfl (by decide) rfl rfl ?_
  refine g_iload_n (pc := 57) 1 dX1_wordsOf_57 rfl rfl ?_
  refine g_bipush (pc := 58) (v := (7 : Int32)) dX1_wordsOf_58 (by decide) ?_
  rcases it_some hf with ⟨c1, hf⟩ | ⟨c1, hf⟩
  · refine g_icne_t (pc := 60) (tgt := 71) dX1_wordsOf_60 (by decide) c1 ?_
    refine g_iconst (pc := 71) (v := (1 : Int32)) dX1_wordsOf_71 (by decide) ?_
    obtain rfl := Option.some.inj hf
    exact g_iret (pc := 72) rfl dX1_wordsOf_72
  · refine g_icne_f (pc := 60) (tgt := 71) dX1_wordsOf_60 (by decide) (Decidable.of_not_not c1) ?_
    refine g_iload_n (pc := 63) 0 dX1_wordsOf_63 rfl rfl ?_
    rcases it_some hf with ⟨c2, hf⟩ | ⟨c2, hf⟩
    · refine g_ifne_t (pc := 64) (tgt := 71) dX1_wordsOf_64 (by decide) c2 ?_
      refine g_iconst (pc := 71) (v := (1 : Int32)) dX1_wordsOf_71 (by decide) ?_
      obtain rfl := Option.some.inj hf
      exact g_iret (pc := 72) rfl dX1_wordsOf_72
    · refine g_ifne_f (pc := 64) (tgt := 71) dX1_wordsOf_64 (by decide) (Decidable.of_not_not c2) ?_
      refine g_iconst (pc := 67) (v := (2 : Int32)) dX1_wordsOf_67 (by decide) ?_
      refine g_goto (pc := 68) (tgt := 72) dX1_wordsOf_68 (by decide) ?_
      obtain rfl := Option.some.inj hf
      exact g_iret (pc := 72) rfl dX1_wordsOf_72
set_option maxRecDepth 100000 in
set_option maxHeartbeats 4000000 in
theorem ok_X1_wordsOf_L55 (l : Launch) (X : Cx) (h : AH) (a2 : Int32) (q : Int32) (hf : f_X1_wordsOf_L55 h a2 = some q) : Go l X k_X1_wordsOf 55 [(2, .int a2)] [] h (rI (q, h)) := by
  unfold f_X1_wordsOf_L55 at hf
  refine g_iconst (pc := 55) (v := (0 : Int32)) dX1_wordsOf_55 (by decide) ?_
  exact ok_X1_wordsOf_L56 l X h a2 (0 : Int32) q hf
set_option maxRecDepth 100000 in
set_option maxHeartbeats 4000000 in
theorem ok_X1_wordsOf (l : Launch) (X : Cx) {h : AH} {a0 : Nat} {a1 : Int32} {q : Int32} (hf : f_X1_wordsOf h a0 a1 = some q) : Go l X k_X1_wordsOf 0 [(0, rf X a0), (1, .int a1)] [] h (rI (q, h)) := by
  unfold f_X1_wordsOf at hf
  refine g_sMNN (pc := 0) 1 rfl dX1_wordsOf_0 ?_
  refine g_aload_n (pc := 3) 0 dX1_wordsOf_3 rfl rfl ?_
  obtain ⟨g1, hf⟩ := gs_some hf
  refine g_getR (pc := 4) fl_X1_9 dX1_wordsOf_4 g1 ?_
  refine g_iload_n (pc := 7) 1 dX1_wordsOf_7 rfl rfl ?_
  obtain ⟨g2, hf⟩ := gs_some hf
  obtain ⟨b3, hf⟩ := gb_some hf
  refine g_iald (pc := 8) g2 b3 dX1_wordsOf_8 ?_
  obtain ⟨b4, hf⟩ := gb_some hf
  refine g_tMN (pc := 9) b4 dX1_wordsOf_9 ?_
  obtain ⟨b5, hf⟩ := gb_some hf
  refine g_mForm (pc := 10) m_2052 b5 dX1_wordsOf_10 ?_
  obtain ⟨x6, ex6, hf⟩ := lt_some hf
  refine g_istore_n (pc := 13) (L' := [(2, .int x6), (0, rf X a0), (1, .int a1)]) dX1_wordsOf_13 rfl (by decide) ex6 rfl ?_
  refine g_iload_n (pc := 14) 0 dX1_wordsOf_14 rfl rfl ?_
  refine g_bipush (pc := 15) (v := (9 : Int32)) dX1_wordsOf_15 (by decide) ?_
  rcases it_some hf with ⟨c7, hf⟩ | ⟨c7, hf⟩
  · refine g_iceq_t (pc := 17) (tgt := 26) dX1_wordsOf_17 (by decide) c7 ?_
    refine g_iconst (pc := 26) (v := (0 : Int32)) dX1_wordsOf_26 (by decide) ?_
    obtain rfl := Option.some.inj hf
    exact g_iret (pc := 27) rfl dX1_wordsOf_27
  · refine g_iceq_f (pc := 17) (tgt := 26) dX1_wordsOf_17 (by decide) c7 ?_
    refine g_iload_n (pc := 20) 0 dX1_wordsOf_20 rfl rfl ?_
    refine g_bipush (pc := 21) (v := (10 : Int32)) dX1_wordsOf_21 (by decide) ?_
    rcases it_some hf with ⟨c8, hf⟩ | ⟨c8, hf⟩
    · refine g_icne_t (pc := 23) (tgt := 28) dX1_wordsOf_23 (by decide) c8 ?_
      refine g_aload_n (pc := 28) 1 dX1_wordsOf_28 rfl rfl ?_
      refine g_getR (pc := 29) fl_X1_24 dX1_wordsOf_29 g1 ?_
      refine g_iload_n (pc := 32) 2 dX1_wordsOf_32 rfl rfl ?_
      obtain ⟨g9, hf⟩ := gs_some hf
      obtain ⟨b10, hf⟩ := gb_some hf
      refine g_iald (pc := 33) g9 b10 dX1_wordsOf_33 ?_
      refine g_iconst (pc := 34) (v := (1 : Int32)) dX1_wordsOf_34 (by decide) ?_
      rcases it_some hf with ⟨c11, hf⟩ | ⟨c11, hf⟩
      · refine g_icne_t (pc := 35) (tgt := 55) dX1_wordsOf_35 (by decide) c11 ?_
        refine g_sub [0] rfl ?_
        exact ok_X1_wordsOf_L55 l X h x6 q hf
      · refine g_icne_f (pc := 35) (tgt := 55) dX1_wordsOf_35 (by decide) (Decidable.of_not_not c11) ?_
        refine g_iconst (pc := 38) (v := (1 : Int32)) dX1_wordsOf_38 (by decide) ?_
        refine g_aload_n (pc := 39) 1 dX1_wordsOf_39 rfl rfl ?_
        refine g_getR (pc := 40) fl_X1_30 dX1_wordsOf_40 g1 ?_
        refine g_iload_n (pc := 43) 2 dX1_wordsOf_43 rfl rfl ?_
        obtain ⟨g12, hf⟩ := gs_some hf
        obtain ⟨b13, hf⟩ := gb_some hf
        refine g_lald (pc := 44) g12 b13 dX1_wordsOf_44 ?_
        obtain ⟨v14, hcv14, hf⟩ := bd_some hf
        refine g_cSI (pc := 45) (k2 := k_X1_fits) (av := [.int (1 : Int32), .long (hL h (hR h a0 8) a1.toNatClampNeg)]) (q := (v14, h)) rfl dX1_wordsOf_45 ck_X1_fits m_843 m_844 (by decide) (by decide) rfl (by simp [rf_cat, rq_cat, ca_i, ca_l, ca_r]) (ct_X1_fits l X hcv14) ?_
        rcases it_some hf with ⟨c15, hf⟩ | ⟨c15, hf⟩
        · refine g_ifeq_t (pc := 48) (tgt := 55) dX1_wordsOf_48 (by decide) c15 ?_
          refine g_sub [0] rfl ?_
          exact ok_X1_wordsOf_L55 l X h x6 q hf
        · refine g_ifeq_f (pc := 48) (tgt := 55) dX1_wordsOf_48 (by decide) c15 ?_
          refine g_iconst (pc := 51) (v := (1 : Int32)) dX1_wordsOf_51 (by decide) ?_
          refine g_goto (pc := 52) (tgt := 56) dX1_wordsOf_52 (by decide) ?_
          refine g_sub [0] rfl ?_
          exact ok_X1_wordsOf_L56 l X h x6 (1 : Int32) q hf
    · refine g_icne_f (pc := 23) (tgt := 28) dX1_wordsOf_23 (by decide) (Decidable.of_not_not c8) ?_
      refine g_iconst (pc := 26) (v := (0 : Int32)) dX1_wordsOf_26 (by decide) ?_
      obtain rfl := Option.some.inj hf
      exact g_iret (pc := 27) rfl dX1_wordsOf_27
theorem ct_X1_wordsOf (l : Launch) (X : Cx) {h : AH} {a0 : Nat} {a1 : Int32} {q : Int32} (hf : f_X1_wordsOf h a0 a1 = some q) : Ct l X k_X1_wordsOf [rf X a0, .int a1] h (rI (q, h)) := ct_of ck_X1_wordsOf (by simp [lg_sl, rf_cat, rq_cat, ca_i, ca_l, ca_r]) (by simp [lv_args, rf_cat, rq_cat, ca_i, ca_l, ca_r]) (ok_X1_wordsOf l X hf)
set_option maxRecDepth 100000 in
set_option maxHeartbeats 4000000 in
theorem ok_X1_layOut_L122 (l : Launch) (X : Cx) (h : AH) (a0 : Nat) (q : AH) (hf : f_X1_layOut_L122 h a0 = some q) : Go l X k_X1_layOut 122 [(0, rf X a0)] [] h (rV q) := by
  unfold f_X1_layOut_L122 at hf
  refine g_aload_n (pc := 122) 0 dX1_layOut_122 rfl rfl ?_
  refine g_dup (pc := 123) dX1_layOut_123 (rf_cat X _) ?_
  obtain ⟨g1, hf⟩ := gs_some hf
  refine g_getI (pc := 124) fl_X1_50 dX1_layOut_124 g1 ?_
  refine g_iconst (pc := 127) (v := (1 : Int32)) dX1_layOut_127 (by decide) ?_
  refine g_iadd (pc := 128) dX1_layOut_128 ?_
  obtain ⟨h2, eh2, hf⟩ := lt_some hf
  refine g_putI (pc := 129) fl_X1_50 dX1_layOut_129 g1 eh2 ?_
  obtain rfl := Option.some.inj hf
  exact g_vret (pc := 132) rfl dX1_layOut_132
set_option maxRecDepth 100000 in
set_option maxHeartbeats 4000000 in
theorem ok_X1_layOut_L47 (l : Launch) (X : Cx) (h : AH) (a0 : Nat) (s0 : Nat) (s1 : Int32) (q : AH) (hf : f_X1_layOut_L47 h a0 s0 s1 = some q) : Go l X k_X1_layOut 47 [(0, rf X a0)] [.int s1, rf X s0] h (rV q) := by
  unfold f_X1_layOut_L47 at hf
  obtain ⟨g1, hf⟩ := gs_some hf
  obtain ⟨h2, eh2, hf⟩ := lt_some hf
  refine g_putI (pc := 47) fl_X1_57 dX1_layOut_47 g1 eh2 ?_
  refine g_goto (pc := 50) (tgt := 122) dX1_layOut_50 (by decide) ?_
  exact ok_X1_layOut_L122 l X h2 a0 q hf
set_option maxRecDepth 100000 in
set_option maxHeartbeats 4000000 in
theorem ok_X1_layOut (l : Launch) (X : Cx) {h : AH} {a0 : Nat} {a1 : Int32} {q : AH} (hf : f_X1_layOut h a0 a1 = some q) : Go l X k_X1_layOut 0 [(0, rf X a0), (1, .int a1)] [] h (rV q) := by
  unfold f_X1_layOut at hf
  refine g_aload_n (pc := 0) 0 dX1_layOut_0 rfl rfl ?_
  obtain ⟨g1, hf⟩ := gs_some hf
  refine g_getR (pc := 1) fl_X1_18 dX1_layOut_1 g1 ?_
  refine g_aload_n (pc := 4) 0 dX1_layOut_4 rfl rfl ?_
  refine g_getI (pc := 5) fl_X1_50 dX1_layOut_5 g1 ?_
  refine g_aload_n (pc := 8) 0 dX1_layOut_8 rfl rfl ?_
  refine g_getI (pc := 9) fl_X1_57 dX1_layOut_9 g1 ?_
  obtain ⟨g2, hf⟩ := gs_some hf
  obtain ⟨b3, hf⟩ := gb_some hf
  obtain ⟨h4, eh4, hf⟩ := lt_some hf
  refine g_iast (pc := 12) g2 b3 dX1_layOut_12 eh4 ?_
  refine g_aload_n (pc := 13) 0 dX1_layOut_13 rfl rfl ?_
  have g5 : hS h4 a0 = 1 := (hS_tI eh4 g1)
  refine g_getR (pc := 14) fl_X1_30 dX1_layOut_14 g5 ?_
  refine g_aload_n (pc := 17) 0 dX1_layOut_17 rfl rfl ?_
  refine g_getI (pc := 18) fl_X1_50 dX1_layOut_18 g5 ?_
  obtain ⟨g6, hf⟩ := gs_some hf
  obtain ⟨b7, hf⟩ := gb_some hf
  refine g_lald (pc := 21) g6 b7 dX1_layOut_21 ?_
  obtain ⟨x8, ex8, hf⟩ := lt_some hf
  refine g_lstore_n (pc := 22) (L' := [(2, .long x8), (0, rf X a0), (1, .int a1)]) dX1_layOut_22 rfl (by decide) ex8 rfl ?_
  refine g_iload_n (pc := 23) 2 dX1_layOut_23 rfl rfl ?_
  refine g_bipush (pc := 24) (v := (9 : Int32)) dX1_layOut_24 (by decide) ?_
  rcases it_some hf with ⟨c9, hf⟩ | ⟨c9, hf⟩
  · refine g_icne_t (pc := 26) (tgt := 53) dX1_layOut_26 (by decide) c9 ?_
    refine g_iload_n (pc := 53) 2 dX1_layOut_53 rfl rfl ?_
    refine g_bipush (pc := 54) (v := (10 : Int32)) dX1_layOut_54 (by decide) ?_
    rcases it_some hf with ⟨c10, hf⟩ | ⟨c10, hf⟩
    · refine g_icne_t (pc := 56) (tgt := 86) dX1_layOut_56 (by decide) c10 ?_
      refine g_aload_n (pc := 86) 1 dX1_layOut_86 rfl rfl ?_
      refine g_dup (pc := 87) dX1_layOut_87 (rf_cat X _) ?_
      refine g_getI (pc := 88) fl_X1_57 dX1_layOut_88 g5 ?_
      refine g_iconst (pc := 91) (v := (4 : Int32)) dX1_layOut_91 (by decide) ?_
      refine g_aload_n (pc := 92) 1 dX1_layOut_92 rfl rfl ?_
      refine g_aload_n (pc := 93) 1 dX1_layOut_93 rfl rfl ?_
      refine g_getI (pc := 94) fl_X1_50 dX1_layOut_94 g5 ?_
      obtain ⟨v11, hcv11, hf⟩ := bd_some hf
      refine g_cVI (pc := 97) (k2 := k_X1_wordsOf) (av := [.int (hI h4 a0 1)]) (q := (v11, h4)) rfl dX1_layOut_97 ck_X1_wordsOf m_859 m_861 m_30 (ci := 0) rfl (by decide) g5 (by decide) (by decide) rfl (by simp [rf_cat, rq_cat, ca_i, ca_l, ca_r]) (ct_X1_wordsOf l X hcv11) ?_
      refine g_imul (pc := 100) dX1_layOut_100 ?_
      refine g_iadd (pc := 101) dX1_layOut_101 ?_
      obtain ⟨h12, eh12, hf⟩ := lt_some hf
      refine g_putI (pc := 102) fl_X1_57 dX1_layOut_102 g5 eh12 ?_
      refine g_aload_n (pc := 105) 1 dX1_layOut_105 rfl rfl ?_
      refine g_dup (pc := 106) dX1_layOut_106 (rf_cat X _) ?_
      have g13 : hS h12 a0 = 1 := (hS_tI eh12 g5)
      refine g_getI (pc := 107) fl_X1_60 dX1_layOut_107 g13 ?_
      refine g_aload_n (pc := 110) 1 dX1_layOut_110 rfl rfl ?_
      refine g_aload_n (pc := 111) 1 dX1_layOut_111 rfl rfl ?_
      refine g_getI (pc := 112) fl_X1_50 dX1_layOut_112 g13 ?_
      obtain ⟨v14, hcv14, hf⟩ := bd_some hf
      refine g_cVI (pc := 115) (k2 := k_X1_wordsOf) (av := [.int (hI h12 a0 1)]) (q := (v14, h12)) rfl dX1_layOut_115 ck_X1_wordsOf m_859 m_861 m_30 (ci := 0) rfl (by decide) g13 (by decide) (by decide) rfl (by simp [rf_cat, rq_cat, ca_i, ca_l, ca_r]) (ct_X1_wordsOf l X hcv14) ?_
      refine g_iadd (pc := 118) dX1_layOut_118 ?_
      obtain ⟨h15, eh15, hf⟩ := lt_some hf
      refine g_putI (pc := 119) fl_X1_60 dX1_layOut_119 g13 eh15 ?_
      refine g_sub [1] rfl ?_
      exact ok_X1_layOut_L122 l X h15 a0 q hf
    · refine g_icne_f (pc := 56) (tgt := 86) dX1_layOut_56 (by decide) (Decidable.of_not_not c10) ?_
      refine g_bipush (pc := 59) (v := (10 : Int32)) dX1_layOut_59 (by decide) ?_
      refine g_lload_n (pc := 61) 0 dX1_layOut_61 rfl rfl ?_
      obtain ⟨v16, hcv16, hf⟩ := bd_some hf
      refine g_cSI (pc := 62) (k2 := k_X1_fits) (av := [.int (10 : Int32), .long x8]) (q := (v16, h4)) rfl dX1_layOut_62 ck_X1_fits m_843 m_844 (by decide) (by decide) rfl (by simp [rf_cat, rq_cat, ca_i, ca_l, ca_r]) (ct_X1_fits l X hcv16) ?_
      rcases it_some hf with ⟨c17, hf⟩ | ⟨c17, hf⟩
      · refine g_ifeq_t (pc := 65) (tgt := 122) dX1_layOut_65 (by decide) c17 ?_
        refine g_sub [1] rfl ?_
        exact ok_X1_layOut_L122 l X h4 a0 q hf
      · refine g_ifeq_f (pc := 65) (tgt := 122) dX1_layOut_65 (by decide) c17 ?_
        refine g_aload_n (pc := 68) 1 dX1_layOut_68 rfl rfl ?_
        refine g_getR (pc := 69) fl_X1_43 dX1_layOut_69 g5 ?_
        refine g_lload_n (pc := 72) 0 dX1_layOut_72 rfl rfl ?_
        refine g_l2i (pc := 73) dX1_layOut_73 ?_
        refine g_aload_n (pc := 74) 1 dX1_layOut_74 rfl rfl ?_
        refine g_getI (pc := 75) fl_X1_57 dX1_layOut_75 g5 ?_
        refine g_sipush (pc := 78) (v := (8191 : Int32)) dX1_layOut_78 (by decide) ?_
        refine g_iand (pc := 81) dX1_layOut_81 ?_
        obtain ⟨g18, hf⟩ := gs_some hf
        obtain ⟨b19, hf⟩ := gb_some hf
        obtain ⟨h20, eh20, hf⟩ := lt_some hf
        refine g_iast (pc := 82) g18 b19 dX1_layOut_82 eh20 ?_
        refine g_goto (pc := 83) (tgt := 122) dX1_layOut_83 (by decide) ?_
        refine g_sub [1] rfl ?_
        exact ok_X1_layOut_L122 l X h20 a0 q hf
  · refine g_icne_f (pc := 26) (tgt := 53) dX1_layOut_26 (by decide) (Decidable.of_not_not c9) ?_
    refine g_aload_n (pc := 29) 1 dX1_layOut_29 rfl rfl ?_
    refine g_bipush (pc := 30) (v := (9 : Int32)) dX1_layOut_30 (by decide) ?_
    refine g_lload_n (pc := 32) 0 dX1_layOut_32 rfl rfl ?_
    obtain ⟨v21, hcv21, hf⟩ := bd_some hf
    refine g_cSI (pc := 33) (k2 := k_X1_fits) (av := [.int (9 : Int32), .long x8]) (q := (v21, h4)) rfl dX1_layOut_33 ck_X1_fits m_843 m_844 (by decide) (by decide) rfl (by simp [rf_cat, rq_cat, ca_i, ca_l, ca_r]) (ct_X1_fits l X hcv21) ?_
    rcases it_some hf with ⟨c22, hf⟩ | ⟨c22, hf⟩
    · refine g_ifeq_t (pc := 36) (tgt := 44) dX1_layOut_36 (by decide) c22 ?_
      refine g_sipush (pc := 44) (v := (8192 : Int32)) dX1_layOut_44 (by decide) ?_
      refine g_sub [1] rfl ?_
      exact ok_X1_layOut_L47 l X h4 a0 a0 (8192 : Int32) q hf
    · refine g_ifeq_f (pc := 36) (tgt := 44) dX1_layOut_36 (by decide) c22 ?_
      refine g_lload_n (pc := 39) 0 dX1_layOut_39 rfl rfl ?_
      refine g_l2i (pc := 40) dX1_layOut_40 ?_
      refine g_goto (pc := 41) (tgt := 47) dX1_layOut_41 (by decide) ?_
      refine g_sub [1] rfl ?_
      exact ok_X1_layOut_L47 l X h4 a0 a0 (x8.toInt32) q hf
theorem ct_X1_layOut (l : Launch) (X : Cx) {h : AH} {a0 : Nat} {a1 : Int32} {q : AH} (hf : f_X1_layOut h a0 a1 = some q) : Ct l X k_X1_layOut [rf X a0, .int a1] h (rV q) := ct_of ck_X1_layOut (by simp [lg_sl, rf_cat, rq_cat, ca_i, ca_l, ca_r]) (by simp [lv_args, rf_cat, rq_cat, ca_i, ca_l, ca_r]) (ok_X1_layOut l X hf)
set_option maxRecDepth 100000 in
set_option maxHeartbeats 4000000 in
theorem ok_X1_readEnd (l : Launch) (X : Cx) {h : AH} {a0 : Nat} {q : Int32 × AH} (hf : f_X1_readEnd h a0 = some q) : Go l X k_X1_readEnd 0 [(0, rf X a0)] [] h (rI q) := by
  unfold f_X1_readEnd at hf
  refine g_aload_n (pc := 0) 0 dX1_readEnd_0 rfl rfl ?_
  obtain ⟨g1, hf⟩ := gs_some hf
  refine g_getR (pc := 1) fl_X1_46 dX1_readEnd_1 g1 ?_
  obtain ⟨g2, hf⟩ := gs_some hf
  refine g_getI (pc := 4) fl_X1_80 dX1_readEnd_4 g2 ?_
  refine g_bipush (pc := 7) (v := (59 : Int32)) dX1_readEnd_7 (by decide) ?_
  rcases it_some hf with ⟨c3, hf⟩ | ⟨c3, hf⟩
  · refine g_iceq_t (pc := 9) (tgt := 24) dX1_readEnd_9 (by decide) c3 ?_
    refine g_aload_n (pc := 24) 0 dX1_readEnd_24 rfl rfl ?_
    refine g_getR (pc := 25) fl_X1_46 dX1_readEnd_25 g1 ?_
    obtain ⟨q4, hcq4, hf⟩ := bd_some hf
    refine g_cVV (pc := 28) (k2 := k_X8_next) (av := []) (q := q4) rfl dX1_readEnd_28 ck_X8_next m_756 m_732 m_733 (ci := 6) rfl (by decide) g2 (by decide) (by decide) rfl (by simp [rf_cat, rq_cat, ca_i, ca_l, ca_r]) (ct_X8_next l X hcq4) ?_
    refine g_iconst (pc := 31) (v := (1 : Int32)) dX1_readEnd_31 (by decide) ?_
    obtain rfl := Option.some.inj hf
    exact g_zret (pc := 32) rfl rfl dX1_readEnd_32
  · refine g_iceq_f (pc := 9) (tgt := 24) dX1_readEnd_9 (by decide) c3 ?_
    refine g_aload_n (pc := 12) 0 dX1_readEnd_12 rfl rfl ?_
    refine g_aload_n (pc := 13) 0 dX1_readEnd_13 rfl rfl ?_
    refine g_getR (pc := 14) fl_X1_46 dX1_readEnd_14 g1 ?_
    refine g_getI (pc := 17) fl_X1_98 dX1_readEnd_17 g2 ?_
    obtain ⟨q5, hcq5, hf⟩ := bd_some hf
    refine g_cVI (pc := 20) (k2 := k_X1_refuse) (av := [.int (hI h (hR h a0 0) 4)]) (q := q5) rfl dX1_readEnd_20 ck_X1_refuse m_761 m_763 m_24 (ci := 0) rfl (by decide) g1 (by decide) (by decide) rfl (by simp [rf_cat, rq_cat, ca_i, ca_l, ca_r]) (ct_X1_refuse l X hcq5) ?_
    obtain ⟨b6, hf⟩ := gb_some hf
    obtain rfl := Option.some.inj hf
    exact g_zret (pc := 23) rfl b6 dX1_readEnd_23
theorem ct_X1_readEnd (l : Launch) (X : Cx) {h : AH} {a0 : Nat} {q : Int32 × AH} (hf : f_X1_readEnd h a0 = some q) : Ct l X k_X1_readEnd [rf X a0] h (rI q) := ct_of ck_X1_readEnd (by simp [lg_sl, rf_cat, rq_cat, ca_i, ca_l, ca_r]) (by simp [lv_args, rf_cat, rq_cat, ca_i, ca_l, ca_r]) (ok_X1_readEnd l X hf)
set_option maxRecDepth 100000 in
set_option maxHeartbeats 4000000 in
theorem ok_X1_readInstruction_L81 (l : Launch) (X : Cx) : ∀ (n : Nat) (h : AH) (a0 : Nat) (a1 : Int32) (a3 : Nat) (a4 : Int32) (q : Int32 × AH), f_X1_readInstruction_L81 n h a0 a1 a3 a4 = some q → Go l X k_X1_readInstruction 81 [(0, rf X a0), (1, .int a1), (3, .ref (xA X (1000 + a3))), (4, .int a4)] [] h (rI q) := by
  intro n
  induction n with
  | zero =>
    intro h a0 a1 a3 a4 q hf
    unfold f_X1_readInstruction_L81 at hf
    cases hf
  | succ n ih =>
    intro h a0 a1 a3 a4 q hf
    unfold f_X1_readInstruction_L81 at hf
    refine g_iload (pc := 81) 3 dX1_readInstruction_81 rfl ?_
    refine g_aload_nC (pc := 83) 2 dX1_readInstruction_83 rfl rfl ?_
    obtain ⟨b1, hf⟩ := gb_some hf
    obtain ⟨v2, hcv2, hf⟩ := bd_some hf
    refine g_sVI (pc := 84) (k2 := k_J0_length_8abf5) (av := []) (q := (v2, h)) rfl dX1_readInstruction_84 ck_J0_length_8abf5 m_774 m_775 m_776 rfl b1 (by decide) (by decide) rfl (by simp [rf_cat, rq_cat, ca_i, ca_l, ca_r]) (ct_J0_length_8abf5 l X hcv2) ?_
    rcases it_some hf with ⟨c3, hf⟩ | ⟨c3, hf⟩
    · refine g_icge_t (pc := 87) (tgt := 121) dX1_readInstruction_87 (by decide) c3 ?_
      refine g_aload_n (pc := 121) 0 dX1_readInstruction_121 rfl rfl ?_
      refine g_sMNN (pc := 122) 1 rfl dX1_readInstruction_122 ?_
      refine g_iload_n (pc := 125) 1 dX1_readInstruction_125 rfl rfl ?_
      obtain ⟨b4, hf⟩ := gb_some hf
      refine g_tMN (pc := 126) b4 dX1_readInstruction_126 ?_
      obtain ⟨b5, hf⟩ := gb_some hf
      refine g_mForm (pc := 127) m_2052 b5 dX1_readInstruction_127 ?_
      obtain ⟨g6, hf⟩ := gs_some hf
      obtain ⟨q7, hcq7, hf⟩ := bd_some hf
      refine g_cVV (pc := 130) (k2 := k_X1_layOut) (av := [.int (mForm.getD a1.toNatClampNeg 0)]) (q := q7) rfl dX1_readInstruction_130 ck_X1_layOut m_839 m_841 m_29 (ci := 0) rfl (by decide) g6 (by decide) (by decide) rfl (by simp [rf_cat, rq_cat, ca_i, ca_l, ca_r]) (ct_X1_layOut l X hcq7) ?_
      refine g_aload_n (pc := 133) 0 dX1_readInstruction_133 rfl rfl ?_
      obtain ⟨g8, hf⟩ := gs_some hf
      obtain ⟨q9, hcq9, hf⟩ := bd_some hf
      refine g_cVI (pc := 134) (k2 := k_X1_readEnd) (av := []) (q := q9) rfl dX1_readInstruction_134 ck_X1_readEnd m_863 m_865 m_31 (ci := 0) rfl (by decide) g8 (by decide) (by decide) rfl (by simp [rf_cat, rq_cat, ca_i, ca_l, ca_r]) (ct_X1_readEnd l X hcq9) ?_
      obtain ⟨b10, hf⟩ := gb_some hf
      obtain rfl := Option.some.inj hf
      exact g_zret (pc := 137) rfl b10 dX1_readInstruction_137
    · refine g_icge_f (pc := 87) (tgt := 121) dX1_readInstruction_87 (by decide) c3 ?_
      refine g_aload_n (pc := 90) 0 dX1_readInstruction_90 rfl rfl ?_
      refine g_aload_nC (pc := 91) 2 dX1_readInstruction_91 rfl rfl ?_
      refine g_iload (pc := 92) 3 dX1_readInstruction_92 rfl ?_
      obtain ⟨b11, hf⟩ := gb_some hf
      obtain ⟨q12, hcq12, hf⟩ := bd_some hf
      refine g_sVI (pc := 94) (k2 := k_J0_charAt_5068e) (av := [.int a4]) (q := q12) rfl dX1_readInstruction_94 ck_J0_charAt_5068e m_784 m_785 m_786 rfl b11 (by decide) (by decide) rfl (by simp [rf_cat, rq_cat, ca_i, ca_l, ca_r]) (ct_J0_charAt_5068e l X hcq12) ?_
      obtain ⟨g13, hf⟩ := gs_some hf
      obtain ⟨q14, hcq14, hf⟩ := bd_some hf
      refine g_cVI (pc := 97) (k2 := k_X1_readOperand) (av := [.int q12.1]) (q := q14) rfl dX1_readInstruction_97 ck_X1_readOperand m_822 m_824 m_26 (ci := 0) rfl (by decide) g13 (by decide) (by decide) rfl (by simp [rf_cat, rq_cat, ca_i, ca_l, ca_r]) (ct_X1_readOperand l X hcq14) ?_
      rcases it_some hf with ⟨c15, hf⟩ | ⟨c15, hf⟩
      · refine g_ifne_t (pc := 100) (tgt := 115) dX1_readInstruction_100 (by decide) c15 ?_
        obtain ⟨x16, ex16, hf⟩ := lt_some hf
        refine g_iinc (pc := 115) (y := x16) (L' := [(4, .int x16), (0, rf X a0), (1, .int a1), (3, .ref (xA X (1000 + a3)))]) 3 dX1_readInstruction_115 rfl (by decide) (ex16.trans rfl) rfl ?_
        refine g_goto (pc := 118) (tgt := 81) dX1_readInstruction_118 (by decide) ?_
        refine g_sub [1, 2, 3, 0] rfl ?_
        exact ih q14.2 a0 a1 a3 x16 q hf
      · refine g_ifne_f (pc := 100) (tgt := 115) dX1_readInstruction_100 (by decide) (Decidable.of_not_not c15) ?_
        refine g_aload_n (pc := 103) 0 dX1_readInstruction_103 rfl rfl ?_
        refine g_aload_n (pc := 104) 0 dX1_readInstruction_104 rfl rfl ?_
        obtain ⟨g17, hf⟩ := gs_some hf
        refine g_getR (pc := 105) fl_X1_46 dX1_readInstruction_105 g17 ?_
        obtain ⟨g18, hf⟩ := gs_some hf
        refine g_getI (pc := 108) fl_X1_98 dX1_readInstruction_108 g18 ?_
        obtain ⟨q19, hcq19, hf⟩ := bd_some hf
        refine g_cVI (pc := 111) (k2 := k_X1_refuse) (av := [.int (hI q14.2 (hR q14.2 a0 0) 4)]) (q := q19) rfl dX1_readInstruction_111 ck_X1_refuse m_761 m_763 m_24 (ci := 0) rfl (by decide) g17 (by decide) (by decide) rfl (by simp [rf_cat, rq_cat, ca_i, ca_l, ca_r]) (ct_X1_refuse l X hcq19) ?_
        obtain ⟨b20, hf⟩ := gb_some hf
        obtain rfl := Option.some.inj hf
        exact g_zret (pc := 114) rfl b20 dX1_readInstruction_114
set_option maxRecDepth 100000 in
set_option maxHeartbeats 4000000 in
theorem ok_X1_readInstruction (l : Launch) (X : Cx) {h : AH} {a0 : Nat} {a1 : Int32} {a2 : Int32} {q : Int32 × AH} (hf : f_X1_readInstruction h a0 a1 a2 = some q) : Go l X k_X1_readInstruction 0 [(0, rf X a0), (1, .int a1), (2, .int a2)] [] h (rI q) := by
  unfold f_X1_readInstruction at hf
  refine g_aload_n (pc := 0) 0 dX1_readInstruction_0 rfl rfl ?_
  obtain ⟨g1, hf⟩ := gs_some hf
  refine g_getI (pc := 1) fl_X1_50 dX1_readInstruction_1 g1 ?_
  refine g_sipush (pc := 4) (v := (375 : Int32)) dX1_readInstruction_4 (by decide) ?_
  rcases it_some hf with ⟨c2, hf⟩ | ⟨c2, hf⟩
  · refine g_iclt_t (pc := 7) (tgt := 22) dX1_readInstruction_7 (by decide) c2 ?_
    refine g_aload_n (pc := 22) 0 dX1_readInstruction_22 rfl rfl ?_
    refine g_getR (pc := 23) fl_X1_9 dX1_readInstruction_23 g1 ?_
    refine g_aload_n (pc := 26) 0 dX1_readInstruction_26 rfl rfl ?_
    refine g_getI (pc := 27) fl_X1_50 dX1_readInstruction_27 g1 ?_
    refine g_iload_n (pc := 30) 1 dX1_readInstruction_30 rfl rfl ?_
    obtain ⟨g3, hf⟩ := gs_some hf
    obtain ⟨b4, hf⟩ := gb_some hf
    obtain ⟨h5, eh5, hf⟩ := lt_some hf
    refine g_iast (pc := 31) g3 b4 dX1_readInstruction_31 eh5 ?_
    refine g_aload_n (pc := 32) 0 dX1_readInstruction_32 rfl rfl ?_
    have g6 : hS h5 a0 = 1 := (hS_tI eh5 g1)
    refine g_getR (pc := 33) fl_X1_15 dX1_readInstruction_33 g6 ?_
    refine g_aload_n (pc := 36) 0 dX1_readInstruction_36 rfl rfl ?_
    refine g_getI (pc := 37) fl_X1_50 dX1_readInstruction_37 g6 ?_
    refine g_iload_n (pc := 40) 2 dX1_readInstruction_40 rfl rfl ?_
    obtain ⟨g7, hf⟩ := gs_some hf
    obtain ⟨b8, hf⟩ := gb_some hf
    obtain ⟨h9, eh9, hf⟩ := lt_some hf
    refine g_iast (pc := 41) g7 b8 dX1_readInstruction_41 eh9 ?_
    refine g_aload_n (pc := 42) 0 dX1_readInstruction_42 rfl rfl ?_
    have g10 : hS h9 a0 = 1 := (hS_tI eh9 g6)
    refine g_getR (pc := 43) fl_X1_21 dX1_readInstruction_43 g10 ?_
    refine g_aload_n (pc := 46) 0 dX1_readInstruction_46 rfl rfl ?_
    refine g_getI (pc := 47) fl_X1_50 dX1_readInstruction_47 g10 ?_
    refine g_sMNN (pc := 50) 1 rfl dX1_readInstruction_50 ?_
    refine g_iload_n (pc := 53) 1 dX1_readInstruction_53 rfl rfl ?_
    obtain ⟨b11, hf⟩ := gb_some hf
    refine g_tMN (pc := 54) b11 dX1_readInstruction_54 ?_
    obtain ⟨b12, hf⟩ := gb_some hf
    refine g_mBase (pc := 55) m_2048 b12 dX1_readInstruction_55 ?_
    obtain ⟨g13, hf⟩ := gs_some hf
    obtain ⟨b14, hf⟩ := gb_some hf
    obtain ⟨h15, eh15, hf⟩ := lt_some hf
    refine g_iast (pc := 58) g13 b14 dX1_readInstruction_58 eh15 ?_
    refine g_aload_n (pc := 59) 0 dX1_readInstruction_59 rfl rfl ?_
    have g16 : hS h15 a0 = 1 := (hS_tI eh15 g10)
    refine g_getR (pc := 60) fl_X1_24 dX1_readInstruction_60 g16 ?_
    refine g_aload_n (pc := 63) 0 dX1_readInstruction_63 rfl rfl ?_
    refine g_getI (pc := 64) fl_X1_50 dX1_readInstruction_64 g16 ?_
    refine g_iconst (pc := 67) (v := (0 : Int32)) dX1_readInstruction_67 (by decide) ?_
    obtain ⟨g17, hf⟩ := gs_some hf
    obtain ⟨b18, hf⟩ := gb_some hf
    obtain ⟨h19, eh19, hf⟩ := lt_some hf
    refine g_iast (pc := 68) g17 b18 dX1_readInstruction_68 eh19 ?_
    refine g_sMNN (pc := 69) 1 rfl dX1_readInstruction_69 ?_
    refine g_iload_n (pc := 72) 1 dX1_readInstruction_72 rfl rfl ?_
    obtain ⟨b20, hf⟩ := gb_some hf
    refine g_tMN (pc := 73) b20 dX1_readInstruction_73 ?_
    obtain ⟨b21, hf⟩ := gb_some hf
    refine g_mOps (pc := 74) m_2049 b21 dX1_readInstruction_74 ?_
    refine g_astore_nC (pc := 77) (L' := [(3, .ref (xA X (1000 + (mOps.getD a1.toNatClampNeg 0)))), (0, rf X a0), (1, .int a1), (2, .int a2)]) dX1_readInstruction_77 rfl (by decide) rfl ?_
    refine g_iconst (pc := 78) (v := (0 : Int32)) dX1_readInstruction_78 (by decide) ?_
    obtain ⟨x22, ex22, hf⟩ := lt_some hf
    refine g_istore (pc := 79) (L' := [(4, .int x22), (3, .ref (xA X (1000 + (mOps.getD a1.toNatClampNeg 0)))), (0, rf X a0), (1, .int a1), (2, .int a2)]) dX1_readInstruction_79 (by decide) ex22 rfl ?_
    refine g_sub [2, 3, 1, 0] rfl ?_
    exact ok_X1_readInstruction_L81 l X FU h19 a0 a1 (mOps.getD a1.toNatClampNeg 0) x22 q hf
  · refine g_iclt_f (pc := 7) (tgt := 22) dX1_readInstruction_7 (by decide) c2 ?_
    refine g_aload_n (pc := 10) 0 dX1_readInstruction_10 rfl rfl ?_
    refine g_aload_n (pc := 11) 0 dX1_readInstruction_11 rfl rfl ?_
    refine g_getR (pc := 12) fl_X1_46 dX1_readInstruction_12 g1 ?_
    obtain ⟨g23, hf⟩ := gs_some hf
    refine g_getI (pc := 15) fl_X1_132 dX1_readInstruction_15 g23 ?_
    obtain ⟨q24, hcq24, hf⟩ := bd_some hf
    refine g_cVI (pc := 18) (k2 := k_X1_refuse) (av := [.int (hI h (hR h a0 0) 1)]) (q := q24) rfl dX1_readInstruction_18 ck_X1_refuse m_761 m_763 m_24 (ci := 0) rfl (by decide) g1 (by decide) (by decide) rfl (by simp [rf_cat, rq_cat, ca_i, ca_l, ca_r]) (ct_X1_refuse l X hcq24) ?_
    obtain ⟨b25, hf⟩ := gb_some hf
    obtain rfl := Option.some.inj hf
    exact g_zret (pc := 21) rfl b25 dX1_readInstruction_21
theorem ct_X1_readInstruction (l : Launch) (X : Cx) {h : AH} {a0 : Nat} {a1 : Int32} {a2 : Int32} {q : Int32 × AH} (hf : f_X1_readInstruction h a0 a1 a2 = some q) : Ct l X k_X1_readInstruction [rf X a0, .int a1, .int a2] h (rI q) := ct_of ck_X1_readInstruction (by simp [lg_sl, rf_cat, rq_cat, ca_i, ca_l, ca_r]) (by simp [lv_args, rf_cat, rq_cat, ca_i, ca_l, ca_r]) (ok_X1_readInstruction l X hf)
set_option maxRecDepth 100000 in
set_option maxHeartbeats 4000000 in
theorem ok_X1_readStatement_L129 (l : Launch) (X : Cx) (h : AH) (a0 : Nat) (q : Int32 × AH) (hf : f_X1_readStatement_L129 h a0 = some q) : Go l X k_X1_readStatement 129 [(0, rf X a0)] [] h (rI q) := by
  unfold f_X1_readStatement_L129 at hf
  refine g_aload_n (pc := 129) 0 dX1_readStatement_129 rfl rfl ?_
  obtain ⟨g1, hf⟩ := gs_some hf
  obtain ⟨q2, hcq2, hf⟩ := bd_some hf
  refine g_cVI (pc := 130) (k2 := k_X1_readEnd) (av := []) (q := q2) rfl dX1_readStatement_130 ck_X1_readEnd m_863 m_865 m_31 (ci := 0) rfl (by decide) g1 (by decide) (by decide) rfl (by simp [rf_cat, rq_cat, ca_i, ca_l, ca_r]) (ct_X1_readEnd l X hcq2) ?_
  obtain ⟨b3, hf⟩ := gb_some hf
  obtain rfl := Option.some.inj hf
  exact g_zret (pc := 133) rfl b3 dX1_readStatement_133
set_option maxRecDepth 100000 in
set_option maxHeartbeats 4000000 in
theorem ok_X1_readStatement_L4 (l : Launch) (X : Cx) : ∀ (n : Nat) (h : AH) (a0 : Nat) (a1 : Int32) (q : Int32 × AH), f_X1_readStatement_L4 n h a0 a1 = some q → Go l X k_X1_readStatement 4 [(0, rf X a0), (1, .int a1)] [] h (rI q) := by
  intro n
  induction n with
  | zero =>
    intro h a0 a1 q hf
    unfold f_X1_readStatement_L4 at hf
    cases hf
  | succ n ih =>
    intro h a0 a1 q hf
    unfold f_X1_readStatement_L4 at hf
    refine g_iload_n (pc := 4) 1 dX1_readStatement_4 rfl rfl ?_
    rcases it_some hf with ⟨c1, hf⟩ | ⟨c1, hf⟩
    · refine g_ifle_t (pc := 5) (tgt := 129) dX1_readStatement_5 (by decide) c1 ?_
      refine g_sub [0] rfl ?_
      exact ok_X1_readStatement_L129 l X h a0 q hf
    · refine g_ifle_f (pc := 5) (tgt := 129) dX1_readStatement_5 (by decide) c1 ?_
      refine g_aload_n (pc := 8) 0 dX1_readStatement_8 rfl rfl ?_
      obtain ⟨g2, hf⟩ := gs_some hf
      refine g_getR (pc := 9) fl_X1_46 dX1_readStatement_9 g2 ?_
      obtain ⟨g3, hf⟩ := gs_some hf
      refine g_getI (pc := 12) fl_X1_80 dX1_readStatement_12 g3 ?_
      refine g_iconst (pc := 15) (v := (2 : Int32)) dX1_readStatement_15 (by decide) ?_
      rcases it_some hf with ⟨c4, hf⟩ | ⟨c4, hf⟩
      · refine g_icne_t (pc := 16) (tgt := 129) dX1_readStatement_16 (by decide) c4 ?_
        refine g_sub [0] rfl ?_
        exact ok_X1_readStatement_L129 l X h a0 q hf
      · refine g_icne_f (pc := 16) (tgt := 129) dX1_readStatement_16 (by decide) (Decidable.of_not_not c4) ?_
        refine g_aload_n (pc := 19) 0 dX1_readStatement_19 rfl rfl ?_
        refine g_getR (pc := 20) fl_X1_46 dX1_readStatement_20 g2 ?_
        refine g_getL (pc := 23) fl_X1_94 dX1_readStatement_23 g3 ?_
        obtain ⟨x5, ex5, hf⟩ := lt_some hf
        refine g_lstore_n (pc := 26) (L' := [(2, .long x5), (0, rf X a0), (1, .int a1)]) dX1_readStatement_26 rfl (by decide) ex5 rfl ?_
        refine g_aload_n (pc := 27) 1 dX1_readStatement_27 rfl rfl ?_
        refine g_getR (pc := 28) fl_X1_46 dX1_readStatement_28 g2 ?_
        refine g_getI (pc := 31) fl_X1_98 dX1_readStatement_31 g3 ?_
        obtain ⟨x6, ex6, hf⟩ := lt_some hf
        refine g_istore (pc := 34) (L' := [(4, .int x6), (2, .long x5), (0, rf X a0), (1, .int a1)]) dX1_readStatement_34 (by decide) ex6 rfl ?_
        refine g_aload_n (pc := 36) 2 dX1_readStatement_36 rfl rfl ?_
        refine g_getR (pc := 37) fl_X1_46 dX1_readStatement_37 g2 ?_
        obtain ⟨q7, hcq7, hf⟩ := bd_some hf
        refine g_cVV (pc := 40) (k2 := k_X8_next) (av := []) (q := q7) rfl dX1_readStatement_40 ck_X8_next m_756 m_732 m_733 (ci := 6) rfl (by decide) g3 (by decide) (by decide) rfl (by simp [rf_cat, rq_cat, ca_i, ca_l, ca_r]) (ct_X8_next l X hcq7) ?_
        refine g_aload_n (pc := 43) 2 dX1_readStatement_43 rfl rfl ?_
        obtain ⟨g8, hf⟩ := gs_some hf
        refine g_getR (pc := 44) fl_X1_46 dX1_readStatement_44 g8 ?_
        obtain ⟨g9, hf⟩ := gs_some hf
        refine g_getI (pc := 47) fl_X1_80 dX1_readStatement_47 g9 ?_
        refine g_bipush (pc := 50) (v := (58 : Int32)) dX1_readStatement_50 (by decide) ?_
        rcases it_some hf with ⟨c10, hf⟩ | ⟨c10, hf⟩
        · refine g_icne_t (pc := 52) (tgt := 72) dX1_readStatement_52 (by decide) c10 ?_
          refine g_aload_n (pc := 72) 2 dX1_readStatement_72 rfl rfl ?_
          refine g_getR (pc := 73) fl_X1_46 dX1_readStatement_73 g8 ?_
          refine g_getI (pc := 76) fl_X1_80 dX1_readStatement_76 g9 ?_
          rcases it_some hf with ⟨c11, hf⟩ | ⟨c11, hf⟩
          · refine g_ifne_t (pc := 79) (tgt := 94) dX1_readStatement_79 (by decide) c11 ?_
            refine g_lload_n (pc := 94) 1 dX1_readStatement_94 rfl rfl ?_
            obtain ⟨v12, hcv12, hf⟩ := bd_some hf
            refine g_cSI (pc := 95) (k2 := k_X1_findWord) (av := [.long x5]) (q := (v12, q7)) rfl dX1_readStatement_95 ck_X1_findWord m_765 m_766 (by decide) (by decide) rfl (by simp [rf_cat, rq_cat, ca_i, ca_l, ca_r]) (ct_X1_findWord l X hcv12) ?_
            refine g_istore (pc := 98) (L' := [(5, .int v12), (4, .int x6), (2, .long x5), (0, rf X a0), (1, .int a1)]) dX1_readStatement_98 (by decide) rfl rfl ?_
            refine g_iload (pc := 100) 0 dX1_readStatement_100 rfl ?_
            rcases it_some hf with ⟨c13, hf⟩ | ⟨c13, hf⟩
            · refine g_ifge_t (pc := 102) (tgt := 114) dX1_readStatement_102 (by decide) c13 ?_
              refine g_aload_n (pc := 114) 3 dX1_readStatement_114 rfl rfl ?_
              refine g_iload (pc := 115) 0 dX1_readStatement_115 rfl ?_
              refine g_iload (pc := 117) 1 dX1_readStatement_117 rfl ?_
              obtain ⟨q14, hcq14, hf⟩ := bd_some hf
              refine g_cVI (pc := 119) (k2 := k_X1_readInstruction) (av := [.int v12, .int x6]) (q := q14) rfl dX1_readStatement_119 ck_X1_readInstruction m_770 m_772 m_25 (ci := 0) rfl (by decide) g8 (by decide) (by decide) rfl (by simp [rf_cat, rq_cat, ca_i, ca_l, ca_r]) (ct_X1_readInstruction l X hcq14) ?_
              obtain ⟨b15, hf⟩ := gb_some hf
              obtain rfl := Option.some.inj hf
              exact g_zret (pc := 122) rfl b15 dX1_readStatement_122
            · refine g_ifge_f (pc := 102) (tgt := 114) dX1_readStatement_102 (by decide) c13 ?_
              refine g_aload_n (pc := 105) 3 dX1_readStatement_105 rfl rfl ?_
              refine g_iload (pc := 106) 1 dX1_readStatement_106 rfl ?_
              obtain ⟨q16, hcq16, hf⟩ := bd_some hf
              refine g_cVI (pc := 108) (k2 := k_X1_refuse) (av := [.int x6]) (q := q16) rfl dX1_readStatement_108 ck_X1_refuse m_761 m_763 m_24 (ci := 0) rfl (by decide) g8 (by decide) (by decide) rfl (by simp [rf_cat, rq_cat, ca_i, ca_l, ca_r]) (ct_X1_refuse l X hcq16) ?_
              refine g_goto (pc := 111) (tgt := 122) dX1_readStatement_111 (by decide) ?_
              obtain ⟨b17, hf⟩ := gb_some hf
              obtain rfl := Option.some.inj hf
              exact g_zret (pc := 122) rfl b17 dX1_readStatement_122
          · refine g_ifne_f (pc := 79) (tgt := 94) dX1_readStatement_79 (by decide) (Decidable.of_not_not c11) ?_
            refine g_aload_n (pc := 82) 2 dX1_readStatement_82 rfl rfl ?_
            refine g_aload_n (pc := 83) 2 dX1_readStatement_83 rfl rfl ?_
            refine g_getR (pc := 84) fl_X1_46 dX1_readStatement_84 g8 ?_
            refine g_getI (pc := 87) fl_X1_98 dX1_readStatement_87 g9 ?_
            obtain ⟨q18, hcq18, hf⟩ := bd_some hf
            refine g_cVI (pc := 90) (k2 := k_X1_refuse) (av := [.int (hI q7 (hR q7 a0 0) 4)]) (q := q18) rfl dX1_readStatement_90 ck_X1_refuse m_761 m_763 m_24 (ci := 0) rfl (by decide) g8 (by decide) (by decide) rfl (by simp [rf_cat, rq_cat, ca_i, ca_l, ca_r]) (ct_X1_refuse l X hcq18) ?_
            obtain ⟨b19, hf⟩ := gb_some hf
            obtain rfl := Option.some.inj hf
            exact g_zret (pc := 93) rfl b19 dX1_readStatement_93
        · refine g_icne_f (pc := 52) (tgt := 72) dX1_readStatement_52 (by decide) (Decidable.of_not_not c10) ?_
          refine g_aload_n (pc := 55) 2 dX1_readStatement_55 rfl rfl ?_
          refine g_lload_n (pc := 56) 1 dX1_readStatement_56 rfl rfl ?_
          refine g_iload (pc := 57) 0 dX1_readStatement_57 rfl ?_
          obtain ⟨q20, hcq20, hf⟩ := bd_some hf
          refine g_cVV (pc := 59) (k2 := k_X1_addLabel) (av := [.long x5, .int x6]) (q := q20) rfl dX1_readStatement_59 ck_X1_addLabel m_757 m_759 m_23 (ci := 0) rfl (by decide) g8 (by decide) (by decide) rfl (by simp [rf_cat, rq_cat, ca_i, ca_l, ca_r]) (ct_X1_addLabel l X hcq20) ?_
          refine g_aload_n (pc := 62) 2 dX1_readStatement_62 rfl rfl ?_
          obtain ⟨g21, hf⟩ := gs_some hf
          refine g_getR (pc := 63) fl_X1_46 dX1_readStatement_63 g21 ?_
          obtain ⟨g22, hf⟩ := gs_some hf
          obtain ⟨q23, hcq23, hf⟩ := bd_some hf
          refine g_cVV (pc := 66) (k2 := k_X8_next) (av := []) (q := q23) rfl dX1_readStatement_66 ck_X8_next m_756 m_732 m_733 (ci := 6) rfl (by decide) g22 (by decide) (by decide) rfl (by simp [rf_cat, rq_cat, ca_i, ca_l, ca_r]) (ct_X8_next l X hcq23) ?_
          refine g_goto (pc := 69) (tgt := 123) dX1_readStatement_69 (by decide) ?_
          obtain ⟨x24, ex24, hf⟩ := lt_some hf
          refine g_iinc (pc := 123) (y := x24) (L' := [(1, .int x24), (4, .int x6), (2, .long x5), (0, rf X a0)]) 3 dX1_readStatement_123 rfl (by decide) (ex24.trans rfl) (by simp [rf_cat, rq_cat]) ?_
          refine g_goto (pc := 126) (tgt := 4) dX1_readStatement_126 (by decide) ?_
          refine g_sub [3, 0] rfl ?_
          exact ih q23 a0 x24 q hf
set_option maxRecDepth 100000 in
set_option maxHeartbeats 4000000 in
theorem ok_X1_readStatement (l : Launch) (X : Cx) {h : AH} {a0 : Nat} {q : Int32 × AH} (hf : f_X1_readStatement h a0 = some q) : Go l X k_X1_readStatement 0 [(0, rf X a0)] [] h (rI q) := by
  unfold f_X1_readStatement at hf
  refine g_sipush (pc := 0) (v := (1500 : Int32)) dX1_readStatement_0 (by decide) ?_
  obtain ⟨x1, ex1, hf⟩ := lt_some hf
  refine g_istore_n (pc := 3) (L' := [(1, .int x1), (0, rf X a0)]) dX1_readStatement_3 rfl (by decide) ex1 (by simp [rf_cat, rq_cat]) ?_
  refine g_sub [1, 0] rfl ?_
  exact ok_X1_readStatement_L4 l X FU h a0 x1 q hf
theorem ct_X1_readStatement (l : Launch) (X : Cx) {h : AH} {a0 : Nat} {q : Int32 × AH} (hf : f_X1_readStatement h a0 = some q) : Ct l X k_X1_readStatement [rf X a0] h (rI q) := ct_of ck_X1_readStatement (by simp [lg_sl, rf_cat, rq_cat, ca_i, ca_l, ca_r]) (by simp [lv_args, rf_cat, rq_cat, ca_i, ca_l, ca_r]) (ok_X1_readStatement l X hf)
set_option maxRecDepth 100000 in
set_option maxHeartbeats 4000000 in
theorem ok_X1_findLabel_L2 (l : Launch) (X : Cx) (h : AH) : ∀ (n : Nat) (a0 : Nat) (a1 : Int64) (a3 : Int32) (q : Int32), f_X1_findLabel_L2 h n a0 a1 a3 = some q → Go l X k_X1_findLabel 2 [(0, rf X a0), (1, .long a1), (3, .int a3)] [] h (rI (q, h)) := by
  intro n
  induction n with
  | zero =>
    intro a0 a1 a3 q hf
    unfold f_X1_findLabel_L2 at hf
    cases hf
  | succ n ih =>
    intro a0 a1 a3 q hf
    unfold f_X1_findLabel_L2 at hf
    refine g_iload_n (pc := 2) 2 dX1_findLabel_2 rfl rfl ?_
    refine g_aload_n (pc := 3) 0 dX1_findLabel_3 rfl rfl ?_
    obtain ⟨g1, hf⟩ := gs_some hf
    refine g_getI (pc := 4) fl_X1_54 dX1_findLabel_4 g1 ?_
    rcases it_some hf with ⟨c2, hf⟩ | ⟨c2, hf⟩
    · refine g_icge_t (pc := 7) (tgt := 29) dX1_findLabel_7 (by decide) c2 ?_
      refine g_iconst (pc := 29) (v := (-1 : Int32)) dX1_findLabel_29 (by decide) ?_
      obtain rfl := Option.some.inj hf
      exact g_iret (pc := 30) rfl dX1_findLabel_30
    · refine g_icge_f (pc := 7) (tgt := 29) dX1_findLabel_7 (by decide) c2 ?_
      refine g_aload_n (pc := 10) 0 dX1_findLabel_10 rfl rfl ?_
      refine g_getR (pc := 11) fl_X1_34 dX1_findLabel_11 g1 ?_
      refine g_iload_n (pc := 14) 2 dX1_findLabel_14 rfl rfl ?_
      obtain ⟨g3, hf⟩ := gs_some hf
      obtain ⟨b4, hf⟩ := gb_some hf
      refine g_lald (pc := 15) g3 b4 dX1_findLabel_15 ?_
      refine g_lload_n (pc := 16) 1 dX1_findLabel_16 rfl rfl ?_
      refine g_lcmp (pc := 17) dX1_findLabel_17 ?_
      rcases it_some hf with ⟨c5, hf⟩ | ⟨c5, hf⟩
      · refine g_ifne_t (pc := 18) (tgt := 23) dX1_findLabel_18 (by decide) c5 ?_
        obtain ⟨x6, ex6, hf⟩ := lt_some hf
        refine g_iinc (pc := 23) (y := x6) (L' := [(3, .int x6), (0, rf X a0), (1, .long a1)]) 2 dX1_findLabel_23 rfl (by decide) (ex6.trans rfl) rfl ?_
        refine g_goto (pc := 26) (tgt := 2) dX1_findLabel_26 (by decide) ?_
        refine g_sub [1, 2, 0] rfl ?_
        exact ih a0 a1 x6 q hf
      · refine g_ifne_f (pc := 18) (tgt := 23) dX1_findLabel_18 (by decide) (Decidable.of_not_not c5) ?_
        refine g_iload_n (pc := 21) 2 dX1_findLabel_21 rfl rfl ?_
        obtain rfl := Option.some.inj hf
        exact g_iret (pc := 22) rfl dX1_findLabel_22
set_option maxRecDepth 100000 in
set_option maxHeartbeats 4000000 in
theorem ok_X1_findLabel (l : Launch) (X : Cx) {h : AH} {a0 : Nat} {a1 : Int64} {q : Int32} (hf : f_X1_findLabel h a0 a1 = some q) : Go l X k_X1_findLabel 0 [(0, rf X a0), (1, .long a1)] [] h (rI (q, h)) := by
  unfold f_X1_findLabel at hf
  refine g_iconst (pc := 0) (v := (0 : Int32)) dX1_findLabel_0 (by decide) ?_
  obtain ⟨x1, ex1, hf⟩ := lt_some hf
  refine g_istore_n (pc := 1) (L' := [(3, .int x1), (0, rf X a0), (1, .long a1)]) dX1_findLabel_1 rfl (by decide) ex1 rfl ?_
  refine g_sub [1, 2, 0] rfl ?_
  exact ok_X1_findLabel_L2 l X h FU a0 a1 x1 q hf
theorem ct_X1_findLabel (l : Launch) (X : Cx) {h : AH} {a0 : Nat} {a1 : Int64} {q : Int32} (hf : f_X1_findLabel h a0 a1 = some q) : Ct l X k_X1_findLabel [rf X a0, .long a1] h (rI (q, h)) := ct_of ck_X1_findLabel (by simp [lg_sl, rf_cat, rq_cat, ca_i, ca_l, ca_r]) (by simp [lv_args, rf_cat, rq_cat, ca_i, ca_l, ca_r]) (ok_X1_findLabel l X hf)
set_option maxRecDepth 100000 in
set_option maxHeartbeats 4000000 in
theorem ok_X1_noteFault_L41 (l : Launch) (X : Cx) (h : AH) (a0 : Nat) (a1 : Int32) (a2 : Int32) (q : AH) (hf : f_X1_noteFault_L41 h a0 a1 a2 = some q) : Go l X k_X1_noteFault 41 [(0, rf X a0), (1, .int a1), (2, .int a2)] [] h (rV q) := by
  unfold f_X1_noteFault_L41 at hf
  refine g_aload_n (pc := 41) 0 dX1_noteFault_41 rfl rfl ?_
  refine g_iload_n (pc := 42) 1 dX1_noteFault_42 rfl rfl ?_
  obtain ⟨g1, hf⟩ := gs_some hf
  obtain ⟨h2, eh2, hf⟩ := lt_some hf
  refine g_putI (pc := 43) fl_X1_63 dX1_noteFault_43 g1 eh2 ?_
  refine g_aload_n (pc := 46) 0 dX1_noteFault_46 rfl rfl ?_
  refine g_iload_n (pc := 47) 2 dX1_noteFault_47 rfl rfl ?_
  have g3 : hS h2 a0 = 1 := (hS_tI eh2 g1)
  obtain ⟨h4, eh4, hf⟩ := lt_some hf
  refine g_putI (pc := 48) fl_X1_66 dX1_noteFault_48 g3 eh4 ?_
  obtain rfl := Option.some.inj hf
  exact g_vret (pc := 51) rfl dX1_noteFault_51
set_option maxRecDepth 100000 in
set_option maxHeartbeats 4000000 in
theorem ok_X1_noteFault_L29 (l : Launch) (X : Cx) (h : AH) (a0 : Nat) (a1 : Int32) (a2 : Int32) (s0 : Int32) (q : AH) (hf : f_X1_noteFault_L29 h a0 a1 a2 s0 = some q) : Go l X k_X1_noteFault 29 [(0, rf X a0), (1, .int a1), (2, .int a2)] [.int s0] h (rV q) := by
  unfold f_X1_noteFault_L29 at hf
  refine g_istore_n (pc := 29) (L' := [(3, .int s0), (0, rf X a0), (1, .int a1), (2, .int a2)]) dX1_noteFault_29 rfl (by decide) rfl rfl ?_
  refine g_aload_n (pc := 30) 1 dX1_noteFault_30 rfl rfl ?_
  obtain ⟨g1, hf⟩ := gs_some hf
  refine g_getI (pc := 31) fl_X1_63 dX1_noteFault_31 g1 ?_
  rcases it_some hf with ⟨c2, hf⟩ | ⟨c2, hf⟩
  · refine g_ifeq_t (pc := 34) (tgt := 41) dX1_noteFault_34 (by decide) c2 ?_
    refine g_sub [1, 2, 3] rfl ?_
    exact ok_X1_noteFault_L41 l X h a0 a1 a2 q hf
  · refine g_ifeq_f (pc := 34) (tgt := 41) dX1_noteFault_34 (by decide) c2 ?_
    refine g_iload_n (pc := 37) 0 dX1_noteFault_37 rfl rfl ?_
    rcases it_some hf with ⟨c3, hf⟩ | ⟨c3, hf⟩
    · refine g_ifeq_t (pc := 38) (tgt := 51) dX1_noteFault_38 (by decide) c3 ?_
      obtain rfl := Option.some.inj hf
      exact g_vret (pc := 51) rfl dX1_noteFault_51
    · refine g_ifeq_f (pc := 38) (tgt := 51) dX1_noteFault_38 (by decide) c3 ?_
      refine g_sub [1, 2, 3] rfl ?_
      exact ok_X1_noteFault_L41 l X h a0 a1 a2 q hf
set_option maxRecDepth 100000 in
set_option maxHeartbeats 4000000 in
theorem ok_X1_noteFault_L24 (l : Launch) (X : Cx) (h : AH) (a0 : Nat) (a1 : Int32) (a2 : Int32) (q : AH) (hf : f_X1_noteFault_L24 h a0 a1 a2 = some q) : Go l X k_X1_noteFault 24 [(0, rf X a0), (1, .int a1), (2, .int a2)] [] h (rV q) := by
  unfold f_X1_noteFault_L24 at hf
  refine g_iconst (pc := 24) (v := (1 : Int32)) dX1_noteFault_24 (by decide) ?_
  refine g_goto (pc := 25) (tgt := 29) dX1_noteFault_25 (by decide) ?_
  exact ok_X1_noteFault_L29 l X h a0 a1 a2 (1 : Int32) q hf
set_option maxRecDepth 100000 in
set_option maxHeartbeats 4000000 in
theorem ok_X1_noteFault_L28 (l : Launch) (X : Cx) (h : AH) (a0 : Nat) (a1 : Int32) (a2 : Int32) (q : AH) (hf : f_X1_noteFault_L28 h a0 a1 a2 = some q) : Go l X k_X1_noteFault 28 [(0, rf X a0), (1, .int a1), (2, .int a2)] [] h (rV q) := by
  unfold f_X1_noteFault_L28 at hf
  refine g_iconst (pc := 28) (v := (0 : Int32)) dX1_noteFault_28 (by decide) ?_
  exact ok_X1_noteFault_L29 l X h a0 a1 a2 (0 : Int32) q hf
set_option maxRecDepth 100000 in
set_option maxHeartbeats 4000000 in
theorem ok_X1_noteFault (l : Launch) (X : Cx) {h : AH} {a0 : Nat} {a1 : Int32} {a2 : Int32} {q : AH} (hf : f_X1_noteFault h a0 a1 a2 = some q) : Go l X k_X1_noteFault 0 [(0, rf X a0), (1, .int a1), (2, .int a2)] [] h (rV q) := by
  unfold f_X1_noteFault at hf
  refine g_iload_n (pc := 0) 2 dX1_noteFault_0 rfl rfl ?_
  refine g_aload_n (pc := 1) 0 dX1_noteFault_1 rfl rfl ?_
  obtain ⟨g1, hf⟩ := gs_some hf
  refine g_getI (pc := 2) fl_X1_66 dX1_noteFault_2 g1 ?_
  rcases it_some hf with ⟨c2, hf⟩ | ⟨c2, hf⟩
  · refine g_iclt_t (pc := 5) (tgt := 24) dX1_noteFault_5 (by decide) c2 ?_
    exact ok_X1_noteFault_L24 l X h a0 a1 a2 q hf
  · refine g_iclt_f (pc := 5) (tgt := 24) dX1_noteFault_5 (by decide) c2 ?_
    refine g_iload_n (pc := 8) 2 dX1_noteFault_8 rfl rfl ?_
    refine g_aload_n (pc := 9) 0 dX1_noteFault_9 rfl rfl ?_
    refine g_getI (pc := 10) fl_X1_66 dX1_noteFault_10 g1 ?_
    rcases it_some hf with ⟨c3, hf⟩ | ⟨c3, hf⟩
    · refine g_icne_t (pc := 13) (tgt := 28) dX1_noteFault_13 (by decide) c3 ?_
      exact ok_X1_noteFault_L28 l X h a0 a1 a2 q hf
    · refine g_icne_f (pc := 13) (tgt := 28) dX1_noteFault_13 (by decide) (Decidable.of_not_not c3) ?_
      refine g_iload_n (pc := 16) 1 dX1_noteFault_16 rfl rfl ?_
      refine g_aload_n (pc := 17) 0 dX1_noteFault_17 rfl rfl ?_
      refine g_getI (pc := 18) fl_X1_63 dX1_noteFault_18 g1 ?_
      rcases it_some hf with ⟨c4, hf⟩ | ⟨c4, hf⟩
      · refine g_icge_t (pc := 21) (tgt := 28) dX1_noteFault_21 (by decide) c4 ?_
        exact ok_X1_noteFault_L28 l X h a0 a1 a2 q hf
      · refine g_icge_f (pc := 21) (tgt := 28) dX1_noteFault_21 (by decide) c4 ?_
        exact ok_X1_noteFault_L24 l X h a0 a1 a2 q hf
theorem ct_X1_noteFault (l : Launch) (X : Cx) {h : AH} {a0 : Nat} {a1 : Int32} {a2 : Int32} {q : AH} (hf : f_X1_noteFault h a0 a1 a2 = some q) : Ct l X k_X1_noteFault [rf X a0, .int a1, .int a2] h (rV q) := ct_of ck_X1_noteFault (by simp [lg_sl, rf_cat, rq_cat, ca_i, ca_l, ca_r]) (by simp [lv_args, rf_cat, rq_cat, ca_i, ca_l, ca_r]) (ok_X1_noteFault l X hf)
set_option maxRecDepth 100000 in
set_option maxHeartbeats 4000000 in
theorem ok_X1_checkLabels_L35 (l : Launch) (X : Cx) (k2 : AH → Nat → Int32 → Option (AH)) (hk2 : ∀ (h : AH) (a0 : Nat) (a1 : Int32) (q : AH), k2 h a0 a1 = some q → Go l X k_X1_checkLabels 2 [(0, rf X a0), (1, .int a1)] [] h (rV q)) (h : AH) (a0 : Nat) (a1 : Int32) (q : AH) (hf : f_X1_checkLabels_L35 k2 h a0 a1 = some q) : Go l X k_X1_checkLabels 35 [(0, rf X a0), (1, .int a1)] [] h (rV q) := by
  unfold f_X1_checkLabels_L35 at hf
  obtain ⟨x1, ex1, hf⟩ := lt_some hf
  refine g_iinc (pc := 35) (y := x1) (L' := [(1, .int x1), (0, rf X a0)]) 1 dX1_checkLabels_35 rfl (by decide) (ex1.trans rfl) (by simp [rf_cat, rq_cat]) ?_
  refine g_goto (pc := 38) (tgt := 2) dX1_checkLabels_38 (by decide) ?_
  refine g_sub [1, 0] rfl ?_
  exact hk2 h a0 x1 q hf
set_option maxRecDepth 100000 in
set_option maxHeartbeats 4000000 in
theorem ok_X1_checkLabels_L2 (l : Launch) (X : Cx) : ∀ (n : Nat) (h : AH) (a0 : Nat) (a1 : Int32) (q : AH), f_X1_checkLabels_L2 n h a0 a1 = some q → Go l X k_X1_checkLabels 2 [(0, rf X a0), (1, .int a1)] [] h (rV q) := by
  intro n
  induction n with
  | zero =>
    intro h a0 a1 q hf
    unfold f_X1_checkLabels_L2 at hf
    cases hf
  | succ n ih =>
    intro h a0 a1 q hf
    unfold f_X1_checkLabels_L2 at hf
    refine g_iload_n (pc := 2) 1 dX1_checkLabels_2 rfl rfl ?_
    refine g_aload_n (pc := 3) 0 dX1_checkLabels_3 rfl rfl ?_
    obtain ⟨g1, hf⟩ := gs_some hf
    refine g_getI (pc := 4) fl_X1_54 dX1_checkLabels_4 g1 ?_
    rcases it_some hf with ⟨c2, hf⟩ | ⟨c2, hf⟩
    · refine g_icge_t (pc := 7) (tgt := 41) dX1_checkLabels_7 (by decide) c2 ?_
      obtain rfl := Option.some.inj hf
      exact g_vret (pc := 41) rfl dX1_checkLabels_41
    · refine g_icge_f (pc := 7) (tgt := 41) dX1_checkLabels_7 (by decide) c2 ?_
      refine g_aload_n (pc := 10) 0 dX1_checkLabels_10 rfl rfl ?_
      refine g_aload_n (pc := 11) 0 dX1_checkLabels_11 rfl rfl ?_
      refine g_getR (pc := 12) fl_X1_34 dX1_checkLabels_12 g1 ?_
      refine g_iload_n (pc := 15) 1 dX1_checkLabels_15 rfl rfl ?_
      obtain ⟨g3, hf⟩ := gs_some hf
      obtain ⟨b4, hf⟩ := gb_some hf
      refine g_lald (pc := 16) g3 b4 dX1_checkLabels_16 ?_
      obtain ⟨v5, hcv5, hf⟩ := bd_some hf
      refine g_cVI (pc := 17) (k2 := k_X1_findLabel) (av := [.long (hL h (hR h a0 10) a1.toNatClampNeg)]) (q := (v5, h)) rfl dX1_checkLabels_17 ck_X1_findLabel m_871 m_873 m_33 (ci := 0) rfl (by decide) g1 (by decide) (by decide) rfl (by simp [rf_cat, rq_cat, ca_i, ca_l, ca_r]) (ct_X1_findLabel l X hcv5) ?_
      refine g_iload_n (pc := 20) 1 dX1_checkLabels_20 rfl rfl ?_
      rcases it_some hf with ⟨c6, hf⟩ | ⟨c6, hf⟩
      · refine g_iceq_t (pc := 21) (tgt := 35) dX1_checkLabels_21 (by decide) c6 ?_
        exact ok_X1_checkLabels_L35 l X (f_X1_checkLabels_L2 n) ih h a0 a1 q hf
      · refine g_iceq_f (pc := 21) (tgt := 35) dX1_checkLabels_21 (by decide) c6 ?_
        refine g_aload_n (pc := 24) 0 dX1_checkLabels_24 rfl rfl ?_
        refine g_iconst (pc := 25) (v := (2 : Int32)) dX1_checkLabels_25 (by decide) ?_
        refine g_aload_n (pc := 26) 0 dX1_checkLabels_26 rfl rfl ?_
        refine g_getR (pc := 27) fl_X1_37 dX1_checkLabels_27 g1 ?_
        refine g_iload_n (pc := 30) 1 dX1_checkLabels_30 rfl rfl ?_
        obtain ⟨g7, hf⟩ := gs_some hf
        obtain ⟨b8, hf⟩ := gb_some hf
        refine g_iald (pc := 31) g7 b8 dX1_checkLabels_31 ?_
        obtain ⟨q9, hcq9, hf⟩ := bd_some hf
        refine g_cVV (pc := 32) (k2 := k_X1_noteFault) (av := [.int (2 : Int32), .int (hI h (hR h a0 11) a1.toNatClampNeg)]) (q := q9) rfl dX1_checkLabels_32 ck_X1_noteFault m_875 m_877 m_34 (ci := 0) rfl (by decide) g1 (by decide) (by decide) rfl (by simp [rf_cat, rq_cat, ca_i, ca_l, ca_r]) (ct_X1_noteFault l X hcq9) ?_
        exact ok_X1_checkLabels_L35 l X (f_X1_checkLabels_L2 n) ih q9 a0 a1 q hf
set_option maxRecDepth 100000 in
set_option maxHeartbeats 4000000 in
theorem ok_X1_checkLabels (l : Launch) (X : Cx) {h : AH} {a0 : Nat} {q : AH} (hf : f_X1_checkLabels h a0 = some q) : Go l X k_X1_checkLabels 0 [(0, rf X a0)] [] h (rV q) := by
  unfold f_X1_checkLabels at hf
  refine g_iconst (pc := 0) (v := (0 : Int32)) dX1_checkLabels_0 (by decide) ?_
  obtain ⟨x1, ex1, hf⟩ := lt_some hf
  refine g_istore_n (pc := 1) (L' := [(1, .int x1), (0, rf X a0)]) dX1_checkLabels_1 rfl (by decide) ex1 (by simp [rf_cat, rq_cat]) ?_
  refine g_sub [1, 0] rfl ?_
  exact ok_X1_checkLabels_L2 l X FU h a0 x1 q hf
theorem ct_X1_checkLabels (l : Launch) (X : Cx) {h : AH} {a0 : Nat} {q : AH} (hf : f_X1_checkLabels h a0 = some q) : Ct l X k_X1_checkLabels [rf X a0] h (rV q) := ct_of ck_X1_checkLabels (by simp [lg_sl, rf_cat, rq_cat, ca_i, ca_l, ca_r]) (by simp [lv_args, rf_cat, rq_cat, ca_i, ca_l, ca_r]) (ok_X1_checkLabels l X hf)
set_option maxRecDepth 100000 in
set_option maxHeartbeats 4000000 in
theorem ok_X1_checkItem_L148 (l : Launch) (X : Cx) (h : AH) (a0 : Nat) (a1 : Int32) (a2 : Int32) (q : AH) (hf : f_X1_checkItem_L148 h a0 a1 a2 = some q) : Go l X k_X1_checkItem 148 [(0, rf X a0), (1, .int a1), (2, .int a2)] [] h (rV q) := by
  unfold f_X1_checkItem_L148 at hf
  refine g_iload_n (pc := 148) 2 dX1_checkItem_148 rfl rfl ?_
  refine g_aload_n (pc := 149) 0 dX1_checkItem_149 rfl rfl ?_
  obtain ⟨g1, hf⟩ := gs_some hf
  refine g_getR (pc := 150) fl_X1_30 dX1_checkItem_150 g1 ?_
  refine g_iload_n (pc := 153) 1 dX1_checkItem_153 rfl rfl ?_
  obtain ⟨g2, hf⟩ := gs_some hf
  obtain ⟨b3, hf⟩ := gb_some hf
  refine g_lald (pc := 154) g2 b3 dX1_checkItem_154 ?_
  obtain ⟨v4, hcv4, hf⟩ := bd_some hf
  refine g_cSI (pc := 155) (k2 := k_X1_fits) (av := [.int a2, .long (hL h (hR h a0 8) a1.toNatClampNeg)]) (q := (v4, h)) rfl dX1_checkItem_155 ck_X1_fits m_843 m_844 (by decide) (by decide) rfl (by simp [rf_cat, rq_cat, ca_i, ca_l, ca_r]) (ct_X1_fits l X hcv4) ?_
  rcases it_some hf with ⟨c5, hf⟩ | ⟨c5, hf⟩
  · refine g_ifne_t (pc := 158) (tgt := 172) dX1_checkItem_158 (by decide) c5 ?_
    obtain rfl := Option.some.inj hf
    exact g_vret (pc := 172) rfl dX1_checkItem_172
  · refine g_ifne_f (pc := 158) (tgt := 172) dX1_checkItem_158 (by decide) (Decidable.of_not_not c5) ?_
    refine g_aload_n (pc := 161) 0 dX1_checkItem_161 rfl rfl ?_
    refine g_iconst (pc := 162) (v := (3 : Int32)) dX1_checkItem_162 (by decide) ?_
    refine g_aload_n (pc := 163) 0 dX1_checkItem_163 rfl rfl ?_
    refine g_getR (pc := 164) fl_X1_27 dX1_checkItem_164 g1 ?_
    refine g_iload_n (pc := 167) 1 dX1_checkItem_167 rfl rfl ?_
    obtain ⟨g6, hf⟩ := gs_some hf
    obtain ⟨b7, hf⟩ := gb_some hf
    refine g_iald (pc := 168) g6 b7 dX1_checkItem_168 ?_
    obtain ⟨q8, hcq8, hf⟩ := bd_some hf
    refine g_cVV (pc := 169) (k2 := k_X1_noteFault) (av := [.int (3 : Int32), .int (hI h (hR h a0 7) a1.toNatClampNeg)]) (q := q8) rfl dX1_checkItem_169 ck_X1_noteFault m_875 m_877 m_34 (ci := 0) rfl (by decide) g1 (by decide) (by decide) rfl (by simp [rf_cat, rq_cat, ca_i, ca_l, ca_r]) (ct_X1_noteFault l X hcq8) ?_
    obtain rfl := Option.some.inj hf
    exact g_vret (pc := 172) rfl dX1_checkItem_172
set_option maxRecDepth 100000 in
set_option maxHeartbeats 4000000 in
theorem ok_X1_checkItem_L145 (l : Launch) (X : Cx) (h : AH) (a0 : Nat) (a1 : Int32) (a2 : Int32) (s0 : Nat) (s1 : Int32) (s2 : Int32) (s3 : Int32) (q : AH) (hf : f_X1_checkItem_L145 h a0 a1 a2 s0 s1 s2 s3 = some q) : Go l X k_X1_checkItem 145 [(0, rf X a0), (1, .int a1), (2, .int a2)] [.int s3, .int s2, .int s1, rf X s0] h (rV q) := by
  unfold f_X1_checkItem_L145 at hf
  refine g_isub (pc := 145) dX1_checkItem_145 ?_
  refine g_i2l (pc := 146) dX1_checkItem_146 ?_
  obtain ⟨g1, hf⟩ := gs_some hf
  obtain ⟨b2, hf⟩ := gb_some hf
  obtain ⟨h3, eh3, hf⟩ := lt_some hf
  refine g_last (pc := 147) g1 b2 dX1_checkItem_147 eh3 ?_
  exact ok_X1_checkItem_L148 l X h3 a0 a1 a2 q hf
set_option maxRecDepth 100000 in
set_option maxHeartbeats 4000000 in
theorem ok_X1_checkItem_L116 (l : Launch) (X : Cx) (h : AH) (a0 : Nat) (a1 : Int32) (a2 : Int32) (a4 : Int32) (s0 : Int32) (q : AH) (hf : f_X1_checkItem_L116 h a0 a1 a2 a4 s0 = some q) : Go l X k_X1_checkItem 116 [(0, rf X a0), (1, .int a1), (2, .int a2), (4, .int a4)] [.int s0] h (rV q) := by
  unfold f_X1_checkItem_L116 at hf
  refine g_istore (pc := 116) (L' := [(5, .int s0), (0, rf X a0), (1, .int a1), (2, .int a2), (4, .int a4)]) dX1_checkItem_116 (by decide) rfl rfl ?_
  refine g_aload_n (pc := 118) 1 dX1_checkItem_118 rfl rfl ?_
  obtain ⟨g1, hf⟩ := gs_some hf
  refine g_getR (pc := 119) fl_X1_30 dX1_checkItem_119 g1 ?_
  refine g_iload_n (pc := 122) 2 dX1_checkItem_122 rfl rfl ?_
  refine g_aload_n (pc := 123) 1 dX1_checkItem_123 rfl rfl ?_
  refine g_getR (pc := 124) fl_X1_40 dX1_checkItem_124 g1 ?_
  refine g_iload (pc := 127) 4 dX1_checkItem_127 rfl ?_
  obtain ⟨g2, hf⟩ := gs_some hf
  obtain ⟨b3, hf⟩ := gb_some hf
  refine g_iald (pc := 129) g2 b3 dX1_checkItem_129 ?_
  refine g_iload (pc := 130) 0 dX1_checkItem_130 rfl ?_
  rcases it_some hf with ⟨c4, hf⟩ | ⟨c4, hf⟩
  · refine g_ifeq_t (pc := 132) (tgt := 144) dX1_checkItem_132 (by decide) c4 ?_
    refine g_iconst (pc := 144) (v := (0 : Int32)) dX1_checkItem_144 (by decide) ?_
    refine g_sub [1, 2, 3] rfl ?_
    exact ok_X1_checkItem_L145 l X h a0 a1 a2 (hR h a0 8) a1 (hI h (hR h a0 12) a4.toNatClampNeg) (0 : Int32) q hf
  · refine g_ifeq_f (pc := 132) (tgt := 144) dX1_checkItem_132 (by decide) c4 ?_
    refine g_aload_n (pc := 135) 1 dX1_checkItem_135 rfl rfl ?_
    refine g_getR (pc := 136) fl_X1_18 dX1_checkItem_136 g1 ?_
    refine g_iload_n (pc := 139) 2 dX1_checkItem_139 rfl rfl ?_
    obtain ⟨g5, hf⟩ := gs_some hf
    obtain ⟨b6, hf⟩ := gb_some hf
    refine g_iald (pc := 140) g5 b6 dX1_checkItem_140 ?_
    refine g_goto (pc := 141) (tgt := 145) dX1_checkItem_141 (by decide) ?_
    refine g_sub [1, 2, 3] rfl ?_
    exact ok_X1_checkItem_L145 l X h a0 a1 a2 (hR h a0 8) a1 (hI h (hR h a0 12) a4.toNatClampNeg) (hI h (hR h a0 4) a1.toNatClampNeg) q hf
set_option maxRecDepth 100000 in
set_option maxHeartbeats 4000000 in
theorem ok_X1_checkItem_L111 (l : Launch) (X : Cx) (h : AH) (a0 : Nat) (a1 : Int32) (a2 : Int32) (a4 : Int32) (q : AH) (hf : f_X1_checkItem_L111 h a0 a1 a2 a4 = some q) : Go l X k_X1_checkItem 111 [(0, rf X a0), (1, .int a1), (2, .int a2), (4, .int a4)] [] h (rV q) := by
  unfold f_X1_checkItem_L111 at hf
  refine g_iconst (pc := 111) (v := (1 : Int32)) dX1_checkItem_111 (by decide) ?_
  refine g_goto (pc := 112) (tgt := 116) dX1_checkItem_112 (by decide) ?_
  exact ok_X1_checkItem_L116 l X h a0 a1 a2 a4 (1 : Int32) q hf
set_option maxRecDepth 100000 in
set_option maxHeartbeats 4000000 in
theorem ok_X1_checkItem_L51 (l : Launch) (X : Cx) (h : AH) (a0 : Nat) (a1 : Int32) (a2 : Int32) (q : AH) (hf : f_X1_checkItem_L51 h a0 a1 a2 = some q) : Go l X k_X1_checkItem 51 [(0, rf X a0), (1, .int a1), (2, .int a2)] [] h (rV q) := by
  unfold f_X1_checkItem_L51 at hf
  refine g_aload_n (pc := 51) 0 dX1_checkItem_51 rfl rfl ?_
  obtain ⟨g1, hf⟩ := gs_some hf
  refine g_getR (pc := 52) fl_X1_24 dX1_checkItem_52 g1 ?_
  refine g_iload_n (pc := 55) 1 dX1_checkItem_55 rfl rfl ?_
  obtain ⟨g2, hf⟩ := gs_some hf
  obtain ⟨b3, hf⟩ := gb_some hf
  refine g_iald (pc := 56) g2 b3 dX1_checkItem_56 ?_
  rcases it_some hf with ⟨c4, hf⟩ | ⟨c4, hf⟩
  · refine g_ifne_t (pc := 57) (tgt := 61) dX1_checkItem_57 (by decide) c4 ?_
    refine g_aload_n (pc := 61) 0 dX1_checkItem_61 rfl rfl ?_
    refine g_getR (pc := 62) fl_X1_24 dX1_checkItem_62 g1 ?_
    refine g_iload_n (pc := 65) 1 dX1_checkItem_65 rfl rfl ?_
    obtain ⟨b5, hf⟩ := gb_some hf
    refine g_iald (pc := 66) g2 b5 dX1_checkItem_66 ?_
    refine g_iconst (pc := 67) (v := (2 : Int32)) dX1_checkItem_67 (by decide) ?_
    rcases it_some hf with ⟨c6, hf⟩ | ⟨c6, hf⟩
    · refine g_icne_t (pc := 68) (tgt := 148) dX1_checkItem_68 (by decide) c6 ?_
      exact ok_X1_checkItem_L148 l X h a0 a1 a2 q hf
    · refine g_icne_f (pc := 68) (tgt := 148) dX1_checkItem_68 (by decide) (Decidable.of_not_not c6) ?_
      refine g_aload_n (pc := 71) 0 dX1_checkItem_71 rfl rfl ?_
      refine g_aload_n (pc := 72) 0 dX1_checkItem_72 rfl rfl ?_
      refine g_getR (pc := 73) fl_X1_30 dX1_checkItem_73 g1 ?_
      refine g_iload_n (pc := 76) 1 dX1_checkItem_76 rfl rfl ?_
      obtain ⟨g7, hf⟩ := gs_some hf
      obtain ⟨b8, hf⟩ := gb_some hf
      refine g_lald (pc := 77) g7 b8 dX1_checkItem_77 ?_
      obtain ⟨v9, hcv9, hf⟩ := bd_some hf
      refine g_cVI (pc := 78) (k2 := k_X1_findLabel) (av := [.long (hL h (hR h a0 8) a1.toNatClampNeg)]) (q := (v9, h)) rfl dX1_checkItem_78 ck_X1_findLabel m_871 m_873 m_33 (ci := 0) rfl (by decide) g1 (by decide) (by decide) rfl (by simp [rf_cat, rq_cat, ca_i, ca_l, ca_r]) (ct_X1_findLabel l X hcv9) ?_
      refine g_istore (pc := 81) (L' := [(4, .int v9), (0, rf X a0), (1, .int a1), (2, .int a2)]) dX1_checkItem_81 (by decide) rfl rfl ?_
      refine g_iload (pc := 83) 0 dX1_checkItem_83 rfl ?_
      rcases it_some hf with ⟨c10, hf⟩ | ⟨c10, hf⟩
      · refine g_ifge_t (pc := 85) (tgt := 100) dX1_checkItem_85 (by decide) c10 ?_
        refine g_iload_n (pc := 100) 3 dX1_checkItem_100 rfl rfl ?_
        refine g_iconst (pc := 101) (v := (4 : Int32)) dX1_checkItem_101 (by decide) ?_
        rcases it_some hf with ⟨c11, hf⟩ | ⟨c11, hf⟩
        · refine g_iceq_t (pc := 102) (tgt := 111) dX1_checkItem_102 (by decide) c11 ?_
          refine g_sub [1, 2, 3, 0] rfl ?_
          exact ok_X1_checkItem_L111 l X h a0 a1 a2 v9 q hf
        · refine g_iceq_f (pc := 102) (tgt := 111) dX1_checkItem_102 (by decide) c11 ?_
          refine g_iload_n (pc := 105) 3 dX1_checkItem_105 rfl rfl ?_
          refine g_bipush (pc := 106) (v := (6 : Int32)) dX1_checkItem_106 (by decide) ?_
          rcases it_some hf with ⟨c12, hf⟩ | ⟨c12, hf⟩
          · refine g_icne_t (pc := 108) (tgt := 115) dX1_checkItem_108 (by decide) c12 ?_
            refine g_iconst (pc := 115) (v := (0 : Int32)) dX1_checkItem_115 (by decide) ?_
            refine g_sub [1, 2, 3, 0] rfl ?_
            exact ok_X1_checkItem_L116 l X h a0 a1 a2 v9 (0 : Int32) q hf
          · refine g_icne_f (pc := 108) (tgt := 115) dX1_checkItem_108 (by decide) (Decidable.of_not_not c12) ?_
            refine g_sub [1, 2, 3, 0] rfl ?_
            exact ok_X1_checkItem_L111 l X h a0 a1 a2 v9 q hf
      · refine g_ifge_f (pc := 85) (tgt := 100) dX1_checkItem_85 (by decide) c10 ?_
        refine g_aload_n (pc := 88) 1 dX1_checkItem_88 rfl rfl ?_
        refine g_iconst (pc := 89) (v := (2 : Int32)) dX1_checkItem_89 (by decide) ?_
        refine g_aload_n (pc := 90) 1 dX1_checkItem_90 rfl rfl ?_
        refine g_getR (pc := 91) fl_X1_27 dX1_checkItem_91 g1 ?_
        refine g_iload_n (pc := 94) 2 dX1_checkItem_94 rfl rfl ?_
        obtain ⟨g13, hf⟩ := gs_some hf
        obtain ⟨b14, hf⟩ := gb_some hf
        refine g_iald (pc := 95) g13 b14 dX1_checkItem_95 ?_
        obtain ⟨q15, hcq15, hf⟩ := bd_some hf
        refine g_cVV (pc := 96) (k2 := k_X1_noteFault) (av := [.int (2 : Int32), .int (hI h (hR h a0 7) a1.toNatClampNeg)]) (q := q15) rfl dX1_checkItem_96 ck_X1_noteFault m_875 m_877 m_34 (ci := 0) rfl (by decide) g1 (by decide) (by decide) rfl (by simp [rf_cat, rq_cat, ca_i, ca_l, ca_r]) (ct_X1_noteFault l X hcq15) ?_
        obtain rfl := Option.some.inj hf
        exact g_vret (pc := 99) rfl dX1_checkItem_99
  · refine g_ifne_f (pc := 57) (tgt := 61) dX1_checkItem_57 (by decide) (Decidable.of_not_not c4) ?_
    obtain rfl := Option.some.inj hf
    exact g_vret (pc := 60) rfl dX1_checkItem_60
set_option maxRecDepth 100000 in
set_option maxHeartbeats 4000000 in
theorem ok_X1_checkItem (l : Launch) (X : Cx) {h : AH} {a0 : Nat} {a1 : Int32} {q : AH} (hf : f_X1_checkItem h a0 a1 = some q) : Go l X k_X1_checkItem 0 [(0, rf X a0), (1, .int a1)] [] h (rV q) := by
  unfold f_X1_checkItem at hf
  refine g_sMNN (pc := 0) 1 rfl dX1_checkItem_0 ?_
  refine g_aload_n (pc := 3) 0 dX1_checkItem_3 rfl rfl ?_
  obtain ⟨g1, hf⟩ := gs_some hf
  refine g_getR (pc := 4) fl_X1_9 dX1_checkItem_4 g1 ?_
  refine g_iload_n (pc := 7) 1 dX1_checkItem_7 rfl rfl ?_
  obtain ⟨g2, hf⟩ := gs_some hf
  obtain ⟨b3, hf⟩ := gb_some hf
  refine g_iald (pc := 8) g2 b3 dX1_checkItem_8 ?_
  obtain ⟨b4, hf⟩ := gb_some hf
  refine g_tMN (pc := 9) b4 dX1_checkItem_9 ?_
  obtain ⟨b5, hf⟩ := gb_some hf
  refine g_mForm (pc := 10) m_2052 b5 dX1_checkItem_10 ?_
  obtain ⟨x6, ex6, hf⟩ := lt_some hf
  refine g_istore_n (pc := 13) (L' := [(2, .int x6), (0, rf X a0), (1, .int a1)]) dX1_checkItem_13 rfl (by decide) ex6 rfl ?_
  refine g_aload_n (pc := 14) 1 dX1_checkItem_14 rfl rfl ?_
  refine g_iload_n (pc := 15) 2 dX1_checkItem_15 rfl rfl ?_
  obtain ⟨v7, hcv7, hf⟩ := bd_some hf
  refine g_cVI (pc := 16) (k2 := k_X1_wordsOf) (av := [.int a1]) (q := (v7, h)) rfl dX1_checkItem_16 ck_X1_wordsOf m_859 m_861 m_30 (ci := 0) rfl (by decide) g1 (by decide) (by decide) rfl (by simp [rf_cat, rq_cat, ca_i, ca_l, ca_r]) (ct_X1_wordsOf l X hcv7) ?_
  refine g_istore_n (pc := 19) (L' := [(3, .int v7), (2, .int x6), (0, rf X a0), (1, .int a1)]) dX1_checkItem_19 rfl (by decide) rfl rfl ?_
  refine g_iload_n (pc := 20) 0 dX1_checkItem_20 rfl rfl ?_
  rcases it_some hf with ⟨c8, hf⟩ | ⟨c8, hf⟩
  · refine g_ifle_t (pc := 21) (tgt := 51) dX1_checkItem_21 (by decide) c8 ?_
    refine g_sub [2, 3, 1] rfl ?_
    exact ok_X1_checkItem_L51 l X h a0 a1 x6 q hf
  · refine g_ifle_f (pc := 21) (tgt := 51) dX1_checkItem_21 (by decide) c8 ?_
    refine g_aload_n (pc := 24) 2 dX1_checkItem_24 rfl rfl ?_
    refine g_getR (pc := 25) fl_X1_18 dX1_checkItem_25 g1 ?_
    refine g_iload_n (pc := 28) 3 dX1_checkItem_28 rfl rfl ?_
    obtain ⟨g9, hf⟩ := gs_some hf
    obtain ⟨b10, hf⟩ := gb_some hf
    refine g_iald (pc := 29) g9 b10 dX1_checkItem_29 ?_
    refine g_iconst (pc := 30) (v := (4 : Int32)) dX1_checkItem_30 (by decide) ?_
    refine g_iload_n (pc := 31) 0 dX1_checkItem_31 rfl rfl ?_
    refine g_imul (pc := 32) dX1_checkItem_32 ?_
    refine g_iadd (pc := 33) dX1_checkItem_33 ?_
    refine g_sipush (pc := 34) (v := (8192 : Int32)) dX1_checkItem_34 (by decide) ?_
    rcases it_some hf with ⟨c11, hf⟩ | ⟨c11, hf⟩
    · refine g_icle_t (pc := 37) (tgt := 51) dX1_checkItem_37 (by decide) c11 ?_
      refine g_sub [2, 3, 1] rfl ?_
      exact ok_X1_checkItem_L51 l X h a0 a1 x6 q hf
    · refine g_icle_f (pc := 37) (tgt := 51) dX1_checkItem_37 (by decide) c11 ?_
      refine g_aload_n (pc := 40) 2 dX1_checkItem_40 rfl rfl ?_
      refine g_iconst (pc := 41) (v := (3 : Int32)) dX1_checkItem_41 (by decide) ?_
      refine g_aload_n (pc := 42) 2 dX1_checkItem_42 rfl rfl ?_
      refine g_getR (pc := 43) fl_X1_15 dX1_checkItem_43 g1 ?_
      refine g_iload_n (pc := 46) 3 dX1_checkItem_46 rfl rfl ?_
      obtain ⟨g12, hf⟩ := gs_some hf
      obtain ⟨b13, hf⟩ := gb_some hf
      refine g_iald (pc := 47) g12 b13 dX1_checkItem_47 ?_
      obtain ⟨q14, hcq14, hf⟩ := bd_some hf
      refine g_cVV (pc := 48) (k2 := k_X1_noteFault) (av := [.int (3 : Int32), .int (hI h (hR h a0 3) a1.toNatClampNeg)]) (q := q14) rfl dX1_checkItem_48 ck_X1_noteFault m_875 m_877 m_34 (ci := 0) rfl (by decide) g1 (by decide) (by decide) rfl (by simp [rf_cat, rq_cat, ca_i, ca_l, ca_r]) (ct_X1_noteFault l X hcq14) ?_
      refine g_sub [2, 3, 1] rfl ?_
      exact ok_X1_checkItem_L51 l X q14 a0 a1 x6 q hf
theorem ct_X1_checkItem (l : Launch) (X : Cx) {h : AH} {a0 : Nat} {a1 : Int32} {q : AH} (hf : f_X1_checkItem h a0 a1 = some q) : Ct l X k_X1_checkItem [rf X a0, .int a1] h (rV q) := ct_of ck_X1_checkItem (by simp [lg_sl, rf_cat, rq_cat, ca_i, ca_l, ca_r]) (by simp [lv_args, rf_cat, rq_cat, ca_i, ca_l, ca_r]) (ok_X1_checkItem l X hf)
set_option maxRecDepth 100000 in
set_option maxHeartbeats 4000000 in
theorem ok_X1_translate_L85 (l : Launch) (X : Cx) : ∀ (n : Nat) (h : AH) (a0 : Nat) (a1 : Int32) (q : Int32 × AH), f_X1_translate_L85 n h a0 a1 = some q → Go l X k_X1_translate 85 [(0, rf X a0), (1, .int a1)] [] h (rI q) := by
  intro n
  induction n with
  | zero =>
    intro h a0 a1 q hf
    unfold f_X1_translate_L85 at hf
    cases hf
  | succ n ih =>
    intro h a0 a1 q hf
    unfold f_X1_translate_L85 at hf
    refine g_iload_n (pc := 85) 1 dX1_translate_85 rfl rfl ?_
    refine g_aload_n (pc := 86) 0 dX1_translate_86 rfl rfl ?_
    obtain ⟨g1, hf⟩ := gs_some hf
    refine g_getI (pc := 87) fl_X1_50 dX1_translate_87 g1 ?_
    rcases it_some hf with ⟨c2, hf⟩ | ⟨c2, hf⟩
    · refine g_icge_t (pc := 90) (tgt := 104) dX1_translate_90 (by decide) c2 ?_
      refine g_aload_n (pc := 104) 0 dX1_translate_104 rfl rfl ?_
      refine g_getI (pc := 105) fl_X1_60 dX1_translate_105 g1 ?_
      obtain rfl := Option.some.inj hf
      exact g_iret (pc := 108) rfl dX1_translate_108
    · refine g_icge_f (pc := 90) (tgt := 104) dX1_translate_90 (by decide) c2 ?_
      refine g_aload_n (pc := 93) 0 dX1_translate_93 rfl rfl ?_
      refine g_iload_n (pc := 94) 1 dX1_translate_94 rfl rfl ?_
      obtain ⟨q3, hcq3, hf⟩ := bd_some hf
      refine g_cVV (pc := 95) (k2 := k_X1_checkItem) (av := [.int a1]) (q := q3) rfl dX1_translate_95 ck_X1_checkItem m_879 m_881 m_35 (ci := 0) rfl (by decide) g1 (by decide) (by decide) rfl (by simp [rf_cat, rq_cat, ca_i, ca_l, ca_r]) (ct_X1_checkItem l X hcq3) ?_
      obtain ⟨x4, ex4, hf⟩ := lt_some hf
      refine g_iinc (pc := 98) (y := x4) (L' := [(1, .int x4), (0, rf X a0)]) 1 dX1_translate_98 rfl (by decide) (ex4.trans rfl) (by simp [rf_cat, rq_cat]) ?_
      refine g_goto (pc := 101) (tgt := 85) dX1_translate_101 (by decide) ?_
      refine g_sub [1, 0] rfl ?_
      exact ih q3 a0 x4 q hf
set_option maxRecDepth 100000 in
set_option maxHeartbeats 4000000 in
theorem ok_X1_translate_L79 (l : Launch) (X : Cx) (h : AH) (a0 : Nat) (q : Int32 × AH) (hf : f_X1_translate_L79 h a0 = some q) : Go l X k_X1_translate 79 [(0, rf X a0)] [] h (rI q) := by
  unfold f_X1_translate_L79 at hf
  refine g_aload_n (pc := 79) 0 dX1_translate_79 rfl rfl ?_
  obtain ⟨g1, hf⟩ := gs_some hf
  obtain ⟨q2, hcq2, hf⟩ := bd_some hf
  refine g_cVV (pc := 80) (k2 := k_X1_checkLabels) (av := []) (q := q2) rfl dX1_translate_80 ck_X1_checkLabels m_867 m_869 m_32 (ci := 0) rfl (by decide) g1 (by decide) (by decide) rfl (by simp [rf_cat, rq_cat, ca_i, ca_l, ca_r]) (ct_X1_checkLabels l X hcq2) ?_
  refine g_iconst (pc := 83) (v := (0 : Int32)) dX1_translate_83 (by decide) ?_
  obtain ⟨x3, ex3, hf⟩ := lt_some hf
  refine g_istore_n (pc := 84) (L' := [(1, .int x3), (0, rf X a0)]) dX1_translate_84 rfl (by decide) ex3 (by simp [rf_cat, rq_cat]) ?_
  refine g_sub [1, 0] rfl ?_
  exact ok_X1_translate_L85 l X FU q2 a0 x3 q hf
set_option maxRecDepth 100000 in
set_option maxHeartbeats 4000000 in
theorem ok_X1_translate_L49 (l : Launch) (X : Cx) : ∀ (n : Nat) (h : AH) (a0 : Nat) (a1 : Int32) (q : Int32 × AH), f_X1_translate_L49 n h a0 a1 = some q → Go l X k_X1_translate 49 [(0, rf X a0), (1, .int a1)] [] h (rI q) := by
  intro n
  induction n with
  | zero =>
    intro h a0 a1 q hf
    unfold f_X1_translate_L49 at hf
    cases hf
  | succ n ih =>
    intro h a0 a1 q hf
    unfold f_X1_translate_L49 at hf
    refine g_iload_n (pc := 49) 1 dX1_translate_49 rfl rfl ?_
    rcases it_some hf with ⟨c1, hf⟩ | ⟨c1, hf⟩
    · refine g_ifle_t (pc := 50) (tgt := 79) dX1_translate_50 (by decide) c1 ?_
      refine g_sub [0] rfl ?_
      exact ok_X1_translate_L79 l X h a0 q hf
    · refine g_ifle_f (pc := 50) (tgt := 79) dX1_translate_50 (by decide) c1 ?_
      refine g_aload_n (pc := 53) 0 dX1_translate_53 rfl rfl ?_
      obtain ⟨g2, hf⟩ := gs_some hf
      refine g_getR (pc := 54) fl_X1_46 dX1_translate_54 g2 ?_
      obtain ⟨g3, hf⟩ := gs_some hf
      refine g_getI (pc := 57) fl_X1_80 dX1_translate_57 g3 ?_
      refine g_iconst (pc := 60) (v := (1 : Int32)) dX1_translate_60 (by decide) ?_
      rcases it_some hf with ⟨c4, hf⟩ | ⟨c4, hf⟩
      · refine g_iceq_t (pc := 61) (tgt := 79) dX1_translate_61 (by decide) c4 ?_
        refine g_sub [0] rfl ?_
        exact ok_X1_translate_L79 l X h a0 q hf
      · refine g_iceq_f (pc := 61) (tgt := 79) dX1_translate_61 (by decide) c4 ?_
        refine g_aload_n (pc := 64) 0 dX1_translate_64 rfl rfl ?_
        obtain ⟨q5, hcq5, hf⟩ := bd_some hf
        refine g_cVI (pc := 65) (k2 := k_X1_readStatement) (av := []) (q := q5) rfl dX1_translate_65 ck_X1_readStatement m_752 m_754 m_22 (ci := 0) rfl (by decide) g2 (by decide) (by decide) rfl (by simp [rf_cat, rq_cat, ca_i, ca_l, ca_r]) (ct_X1_readStatement l X hcq5) ?_
        rcases it_some hf with ⟨c6, hf⟩ | ⟨c6, hf⟩
        · refine g_ifne_t (pc := 68) (tgt := 73) dX1_translate_68 (by decide) c6 ?_
          obtain ⟨x7, ex7, hf⟩ := lt_some hf
          refine g_iinc (pc := 73) (y := x7) (L' := [(1, .int x7), (0, rf X a0)]) 1 dX1_translate_73 rfl (by decide) (ex7.trans rfl) (by simp [rf_cat, rq_cat]) ?_
          refine g_goto (pc := 76) (tgt := 49) dX1_translate_76 (by decide) ?_
          refine g_sub [1, 0] rfl ?_
          exact ih q5.2 a0 x7 q hf
        · refine g_ifne_f (pc := 68) (tgt := 73) dX1_translate_68 (by decide) (Decidable.of_not_not c6) ?_
          refine g_iconst (pc := 71) (v := (-1 : Int32)) dX1_translate_71 (by decide) ?_
          obtain rfl := Option.some.inj hf
          exact g_iret (pc := 72) rfl dX1_translate_72
set_option maxRecDepth 100000 in
set_option maxHeartbeats 4000000 in
theorem ok_X1_translate (l : Launch) (X : Cx) {h : AH} {a0 : Nat} {q : Int32 × AH} (hf : f_X1_translate h a0 = some q) : Go l X k_X1_translate 0 [(0, rf X a0)] [] h (rI q) := by
  unfold f_X1_translate at hf
  refine g_aload_n (pc := 0) 0 dX1_translate_0 rfl rfl ?_
  refine g_iconst (pc := 1) (v := (0 : Int32)) dX1_translate_1 (by decide) ?_
  obtain ⟨g1, hf⟩ := gs_some hf
  obtain ⟨h2, eh2, hf⟩ := lt_some hf
  refine g_putI (pc := 2) fl_X1_50 dX1_translate_2 g1 eh2 ?_
  refine g_aload_n (pc := 5) 0 dX1_translate_5 rfl rfl ?_
  refine g_iconst (pc := 6) (v := (0 : Int32)) dX1_translate_6 (by decide) ?_
  have g3 : hS h2 a0 = 1 := (hS_tI eh2 g1)
  obtain ⟨h4, eh4, hf⟩ := lt_some hf
  refine g_putI (pc := 7) fl_X1_54 dX1_translate_7 g3 eh4 ?_
  refine g_aload_n (pc := 10) 0 dX1_translate_10 rfl rfl ?_
  refine g_iconst (pc := 11) (v := (0 : Int32)) dX1_translate_11 (by decide) ?_
  have g5 : hS h4 a0 = 1 := (hS_tI eh4 g3)
  obtain ⟨h6, eh6, hf⟩ := lt_some hf
  refine g_putI (pc := 12) fl_X1_57 dX1_translate_12 g5 eh6 ?_
  refine g_aload_n (pc := 15) 0 dX1_translate_15 rfl rfl ?_
  refine g_iconst (pc := 16) (v := (0 : Int32)) dX1_translate_16 (by decide) ?_
  have g7 : hS h6 a0 = 1 := (hS_tI eh6 g5)
  obtain ⟨h8, eh8, hf⟩ := lt_some hf
  refine g_putI (pc := 17) fl_X1_60 dX1_translate_17 g7 eh8 ?_
  refine g_aload_n (pc := 20) 0 dX1_translate_20 rfl rfl ?_
  refine g_iconst (pc := 21) (v := (0 : Int32)) dX1_translate_21 (by decide) ?_
  have g9 : hS h8 a0 = 1 := (hS_tI eh8 g7)
  obtain ⟨h10, eh10, hf⟩ := lt_some hf
  refine g_putI (pc := 22) fl_X1_63 dX1_translate_22 g9 eh10 ?_
  refine g_aload_n (pc := 25) 0 dX1_translate_25 rfl rfl ?_
  refine g_iconst (pc := 26) (v := (0 : Int32)) dX1_translate_26 (by decide) ?_
  have g11 : hS h10 a0 = 1 := (hS_tI eh10 g9)
  obtain ⟨h12, eh12, hf⟩ := lt_some hf
  refine g_putI (pc := 27) fl_X1_66 dX1_translate_27 g11 eh12 ?_
  refine g_aload_n (pc := 30) 0 dX1_translate_30 rfl rfl ?_
  have g13 : hS h12 a0 = 1 := (hS_tI eh12 g11)
  refine g_getR (pc := 31) fl_X1_43 dX1_translate_31 g13 ?_
  refine g_iconst (pc := 34) (v := (0 : Int32)) dX1_translate_34 (by decide) ?_
  obtain ⟨q14, hcq14, hf⟩ := bd_some hf
  refine g_cSV (pc := 35) (k2 := k_J7_fill_53178) (av := [rf X (hR h12 a0 15), .int (0 : Int32)]) (q := q14) rfl dX1_translate_35 ck_J7_fill_53178 m_726 m_287 (by decide) (by decide) rfl (by simp [rf_cat, rq_cat, ca_i, ca_l, ca_r]) (ct_J7_fill_53178 l X hcq14) ?_
  refine g_aload_n (pc := 38) 0 dX1_translate_38 rfl rfl ?_
  obtain ⟨g15, hf⟩ := gs_some hf
  refine g_getR (pc := 39) fl_X1_46 dX1_translate_39 g15 ?_
  obtain ⟨g16, hf⟩ := gs_some hf
  obtain ⟨q17, hcq17, hf⟩ := bd_some hf
  refine g_cVV (pc := 42) (k2 := k_X8_rewind) (av := []) (q := q17) rfl dX1_translate_42 ck_X8_rewind m_727 m_728 m_729 (ci := 6) rfl (by decide) g16 (by decide) (by decide) rfl (by simp [rf_cat, rq_cat, ca_i, ca_l, ca_r]) (ct_X8_rewind l X hcq17) ?_
  refine g_sipush (pc := 45) (v := (1500 : Int32)) dX1_translate_45 (by decide) ?_
  obtain ⟨x18, ex18, hf⟩ := lt_some hf
  refine g_istore_n (pc := 48) (L' := [(1, .int x18), (0, rf X a0)]) dX1_translate_48 rfl (by decide) ex18 (by simp [rf_cat, rq_cat]) ?_
  refine g_sub [1, 0] rfl ?_
  exact ok_X1_translate_L49 l X FU q17 a0 x18 q hf
theorem ct_X1_translate (l : Launch) (X : Cx) {h : AH} {a0 : Nat} {q : Int32 × AH} (hf : f_X1_translate h a0 = some q) : Ct l X k_X1_translate [rf X a0] h (rI q) := ct_of ck_X1_translate (by simp [lg_sl, rf_cat, rq_cat, ca_i, ca_l, ca_r]) (by simp [lv_args, rf_cat, rq_cat, ca_i, ca_l, ca_r]) (ok_X1_translate l X hf)
set_option maxRecDepth 100000 in
set_option maxHeartbeats 4000000 in
theorem ok_X1_upperPart (l : Launch) (X : Cx) {h : AH} {a0 : Nat} {a1 : Int32} {q : Int32} (hf : f_X1_upperPart h a0 a1 = some q) : Go l X k_X1_upperPart 0 [(0, rf X a0), (1, .int a1)] [] h (rI (q, h)) := by
  unfold f_X1_upperPart at hf
  refine g_aload_n (pc := 0) 0 dX1_upperPart_0 rfl rfl ?_
  obtain ⟨g1, hf⟩ := gs_some hf
  refine g_getR (pc := 1) fl_X1_30 dX1_upperPart_1 g1 ?_
  refine g_iload_n (pc := 4) 1 dX1_upperPart_4 rfl rfl ?_
  obtain ⟨g2, hf⟩ := gs_some hf
  obtain ⟨b3, hf⟩ := gb_some hf
  refine g_lald (pc := 5) g2 b3 dX1_upperPart_5 ?_
  refine g_l2i (pc := 6) dX1_upperPart_6 ?_
  obtain ⟨x4, ex4, hf⟩ := lt_some hf
  refine g_istore_n (pc := 7) (L' := [(2, .int x4), (0, rf X a0), (1, .int a1)]) dX1_upperPart_7 rfl (by decide) ex4 rfl ?_
  refine g_iload_n (pc := 8) 0 dX1_upperPart_8 rfl rfl ?_
  refine g_bipush (pc := 9) (v := (20 : Int32)) dX1_upperPart_9 (by decide) ?_
  refine g_ishl (pc := 11) dX1_upperPart_11 ?_
  refine g_bipush (pc := 12) (v := (20 : Int32)) dX1_upperPart_12 (by decide) ?_
  refine g_ishr (pc := 14) dX1_upperPart_14 ?_
  obtain ⟨x5, ex5, hf⟩ := lt_some hf
  refine g_istore_n (pc := 15) (L' := [(3, .int x5), (2, .int x4), (0, rf X a0), (1, .int a1)]) dX1_upperPart_15 rfl (by decide) ex5 rfl ?_
  refine g_aload_n (pc := 16) 2 dX1_upperPart_16 rfl rfl ?_
  refine g_getR (pc := 17) fl_X1_21 dX1_upperPart_17 g1 ?_
  refine g_iload_n (pc := 20) 3 dX1_upperPart_20 rfl rfl ?_
  obtain ⟨g6, hf⟩ := gs_some hf
  obtain ⟨b7, hf⟩ := gb_some hf
  refine g_iald (pc := 21) g6 b7 dX1_upperPart_21 ?_
  refine g_sipush (pc := 22) (v := (3968 : Int32)) dX1_upperPart_22 (by decide) ?_
  refine g_iand (pc := 25) dX1_upperPart_25 ?_
  obtain ⟨x8, ex8, hf⟩ := lt_some hf
  refine g_istore (pc := 26) (L' := [(4, .int x8), (3, .int x5), (2, .int x4), (0, rf X a0), (1, .int a1)]) dX1_upperPart_26 (by decide) ex8 rfl ?_
  refine g_bipush (pc := 28) (v := (55 : Int32)) dX1_upperPart_28 (by decide) ?_
  refine g_iload (pc := 30) 0 dX1_upperPart_30 rfl ?_
  refine g_ior (pc := 32) dX1_upperPart_32 ?_
  refine g_iload_n (pc := 33) 2 dX1_upperPart_33 rfl rfl ?_
  refine g_iload_n (pc := 34) 1 dX1_upperPart_34 rfl rfl ?_
  refine g_isub (pc := 35) dX1_upperPart_35 ?_
  refine g_ior (pc := 36) dX1_upperPart_36 ?_
  obtain rfl := Option.some.inj hf
  exact g_iret (pc := 37) rfl dX1_upperPart_37
theorem ct_X1_upperPart (l : Launch) (X : Cx) {h : AH} {a0 : Nat} {a1 : Int32} {q : Int32} (hf : f_X1_upperPart h a0 a1 = some q) : Ct l X k_X1_upperPart [rf X a0, .int a1] h (rI (q, h)) := ct_of ck_X1_upperPart (by simp [lg_sl, rf_cat, rq_cat, ca_i, ca_l, ca_r]) (by simp [lv_args, rf_cat, rq_cat, ca_i, ca_l, ca_r]) (ok_X1_upperPart l X hf)
