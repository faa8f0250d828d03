set_option maxRecDepth 100000 in
set_option maxHeartbeats 4000000 in
theorem ok_X4_writeBack (l : Launch) (X : Cx) {h : AH} {a0 : Nat} {a1 : Int32} {q : AH} (hf : f_X4_writeBack h a0 a1 = some q) : Go l X k_X4_writeBack 0 [(0, rf X a0), (1, .int a1)] [] h (rV q) := by
  unfold f_X4_writeBack at hf
  refine g_aload_n (pc := 0) 0 dX4_writeBack_0 rfl rfl ?_
  obtain ⟨g1, hf⟩ := gs_some hf
  refine g_getR (pc := 1) fl_X4_33 dX4_writeBack_1 g1 ?_
  refine g_iload_n (pc := 4) 1 dX4_writeBack_4 rfl rfl ?_
  obtain ⟨g2, hf⟩ := gs_some hf
  obtain ⟨b3, hf⟩ := gb_some hf
  refine g_zald (pc := 5) g2 b3 dX4_writeBack_5 ?_
  rcases it_some hf with ⟨c4, hf⟩ | ⟨c4, hf⟩
  · refine g_ifeq_t (pc := 6) (tgt := 32) dX4_writeBack_6 (by decide) c4 ?_
    obtain rfl := Option.some.inj hf
    exact g_vret (pc := 32) rfl dX4_writeBack_32
  · refine g_ifeq_f (pc := 6) (tgt := 32) dX4_writeBack_6 (by decide) c4 ?_
    refine g_aload_n (pc := 9) 0 dX4_writeBack_9 rfl rfl ?_
    refine g_getR (pc := 10) fl_X4_40 dX4_writeBack_10 g1 ?_
    refine g_iload_n (pc := 13) 1 dX4_writeBack_13 rfl rfl ?_
    refine g_iconst (pc := 14) (v := (4 : Int32)) dX4_writeBack_14 (by decide) ?_
    refine g_imul (pc := 15) dX4_writeBack_15 ?_
    refine g_aload_n (pc := 16) 0 dX4_writeBack_16 rfl rfl ?_
    refine g_getR (pc := 17) fl_X4_9 dX4_writeBack_17 g1 ?_
    refine g_aload_n (pc := 20) 0 dX4_writeBack_20 rfl rfl ?_
    refine g_getR (pc := 21) fl_X4_15 dX4_writeBack_21 g1 ?_
    refine g_iload_n (pc := 24) 1 dX4_writeBack_24 rfl rfl ?_
    obtain ⟨g5, hf⟩ := gs_some hf
    obtain ⟨b6, hf⟩ := gb_some hf
    refine g_iald (pc := 25) g5 b6 dX4_writeBack_25 ?_
    refine g_iconst (pc := 26) (v := (4 : Int32)) dX4_writeBack_26 (by decide) ?_
    refine g_imul (pc := 27) dX4_writeBack_27 ?_
    refine g_iconst (pc := 28) (v := (4 : Int32)) dX4_writeBack_28 (by decide) ?_
    obtain ⟨g7, hf⟩ := gs_some hf
    obtain ⟨g8, hf⟩ := gs_some hf
    obtain ⟨b9, hf⟩ := gb_some hf
    obtain ⟨h10, eh10, hf⟩ := lt_some hf
    refine g_copy (pc := 29) acy_X4_86 g7 g8 b9 (by decide) (by decide) (by simp [rf_cat, rq_cat, ca_i, ca_l, ca_r]) dX4_writeBack_29 eh10 ?_
    obtain rfl := Option.some.inj hf
    exact g_vret (pc := 32) rfl dX4_writeBack_32
theorem ct_X4_writeBack (l : Launch) (X : Cx) {h : AH} {a0 : Nat} {a1 : Int32} {q : AH} (hf : f_X4_writeBack h a0 a1 = some q) : Ct l X k_X4_writeBack [rf X a0, .int a1] h (rV q) := ct_of ck_X4_writeBack (by simp [lg_sl, rf_cat, rq_cat, ca_i, ca_l, ca_r]) (by simp [lv_args, rf_cat, rq_cat, ca_i, ca_l, ca_r]) (ok_X4_writeBack l X hf)
set_option maxRecDepth 100000 in
set_option maxHeartbeats 4000000 in
theorem ok_X4_giveShared (l : Launch) (X : Cx) {h : AH} {a0 : Nat} {a1 : Int32} {a2 : Int32} {q : AH} (hf : f_X4_giveShared h a0 a1 a2 = some q) : Go l X k_X4_giveShared 0 [(0, rf X a0), (1, .int a1), (2, .int a2)] [] h (rV q) := by
  unfold f_X4_giveShared at hf
  refine g_aload_n (pc := 0) 0 dX4_giveShared_0 rfl rfl ?_
  obtain ⟨g1, hf⟩ := gs_some hf
  refine g_getR (pc := 1) fl_X4_21 dX4_giveShared_1 g1 ?_
  refine g_iload_n (pc := 4) 1 dX4_giveShared_4 rfl rfl ?_
  refine g_dup2 (pc := 5) dX4_giveShared_5 rfl (rf_cat X _) ?_
  obtain ⟨g2, hf⟩ := gs_some hf
  obtain ⟨b3, hf⟩ := gb_some hf
  refine g_iald (pc := 6) g2 b3 dX4_giveShared_6 ?_
  refine g_iconst (pc := 7) (v := (1 : Int32)) dX4_giveShared_7 (by decide) ?_
  refine g_iload_n (pc := 8) 2 dX4_giveShared_8 rfl rfl ?_
  refine g_ishl (pc := 9) dX4_giveShared_9 ?_
  refine g_ior (pc := 10) dX4_giveShared_10 ?_
  obtain ⟨b4, hf⟩ := gb_some hf
  obtain ⟨h5, eh5, hf⟩ := lt_some hf
  refine g_iast (pc := 11) g2 b4 dX4_giveShared_11 eh5 ?_
  refine g_aload_n (pc := 12) 0 dX4_giveShared_12 rfl rfl ?_
  have g6 : hS h5 a0 = 4 := (hS_tI eh5 g1)
  refine g_getR (pc := 13) fl_X4_48 dX4_giveShared_13 g6 ?_
  refine g_bipush (pc := 16) (v := (6 : Int32)) dX4_giveShared_16 (by decide) ?_
  refine g_bipush (pc := 18) (v := (16 : Int32)) dX4_giveShared_18 (by decide) ?_
  refine g_iload_n (pc := 20) 2 dX4_giveShared_20 rfl rfl ?_
  refine g_aload_n (pc := 21) 0 dX4_giveShared_21 rfl rfl ?_
  refine g_getR (pc := 22) fl_X4_15 dX4_giveShared_22 g6 ?_
  refine g_iload_n (pc := 25) 1 dX4_giveShared_25 rfl rfl ?_
  obtain ⟨g7, hf⟩ := gs_some hf
  obtain ⟨b8, hf⟩ := gb_some hf
  refine g_iald (pc := 26) g7 b8 dX4_giveShared_26 ?_
  refine g_aload_n (pc := 27) 0 dX4_giveShared_27 rfl rfl ?_
  refine g_getR (pc := 28) fl_X4_40 dX4_giveShared_28 g6 ?_
  refine g_iload_n (pc := 31) 1 dX4_giveShared_31 rfl rfl ?_
  refine g_iconst (pc := 32) (v := (4 : Int32)) dX4_giveShared_32 (by decide) ?_
  refine g_imul (pc := 33) dX4_giveShared_33 ?_
  obtain ⟨g9, hf⟩ := gs_some hf
  obtain ⟨q10, hcq10, hf⟩ := bd_some hf
  refine g_cVV (pc := 34) (k2 := k_X6_send) (av := [.int (6 : Int32), .int (16 : Int32), .int a2, .int (hI h5 (hR h5 a0 2) a1.toNatClampNeg), rf X (hR h5 a0 10), .int (a1 * (4 : Int32))]) (q := q10) rfl dX4_giveShared_34 ck_X6_send m_581 m_582 m_583 (ci := 4) rfl (by decide) g9 (by decide) (by decide) rfl (by simp [rf_cat, rq_cat, ca_i, ca_l, ca_r]) (ct_X6_send l X hcq10) ?_
  obtain rfl := Option.some.inj hf
  exact g_vret (pc := 37) rfl dX4_giveShared_37
theorem ct_X4_giveShared (l : Launch) (X : Cx) {h : AH} {a0 : Nat} {a1 : Int32} {a2 : Int32} {q : AH} (hf : f_X4_giveShared h a0 a1 a2 = some q) : Ct l X k_X4_giveShared [rf X a0, .int a1, .int a2] h (rV q) := ct_of ck_X4_giveShared (by simp [lg_sl, rf_cat, rq_cat, ca_i, ca_l, ca_r]) (by simp [lv_args, rf_cat, rq_cat, ca_i, ca_l, ca_r]) (ok_X4_giveShared l X hf)
set_option maxRecDepth 100000 in
set_option maxHeartbeats 4000000 in
theorem ok_X4_giveAlone (l : Launch) (X : Cx) {h : AH} {a0 : Nat} {a1 : Int32} {a2 : Int32} {q : AH} (hf : f_X4_giveAlone h a0 a1 a2 = some q) : Go l X k_X4_giveAlone 0 [(0, rf X a0), (1, .int a1), (2, .int a2)] [] h (rV q) := by
  unfold f_X4_giveAlone at hf
  refine g_aload_n (pc := 0) 0 dX4_giveAlone_0 rfl rfl ?_
  obtain ⟨g1, hf⟩ := gs_some hf
  refine g_getR (pc := 1) fl_X4_18 dX4_giveAlone_1 g1 ?_
  refine g_iload_n (pc := 4) 1 dX4_giveAlone_4 rfl rfl ?_
  refine g_iload_n (pc := 5) 2 dX4_giveAlone_5 rfl rfl ?_
  obtain ⟨g2, hf⟩ := gs_some hf
  obtain ⟨b3, hf⟩ := gb_some hf
  obtain ⟨h4, eh4, hf⟩ := lt_some hf
  refine g_iast (pc := 6) g2 b3 dX4_giveAlone_6 eh4 ?_
  refine g_aload_n (pc := 7) 0 dX4_giveAlone_7 rfl rfl ?_
  have g5 : hS h4 a0 = 4 := (hS_tI eh4 g1)
  refine g_getR (pc := 8) fl_X4_21 dX4_giveAlone_8 g5 ?_
  refine g_iload_n (pc := 11) 1 dX4_giveAlone_11 rfl rfl ?_
  refine g_iconst (pc := 12) (v := (0 : Int32)) dX4_giveAlone_12 (by decide) ?_
  obtain ⟨g6, hf⟩ := gs_some hf
  obtain ⟨b7, hf⟩ := gb_some hf
  obtain ⟨h8, eh8, hf⟩ := lt_some hf
  refine g_iast (pc := 13) g6 b7 dX4_giveAlone_13 eh8 ?_
  refine g_aload_n (pc := 14) 0 dX4_giveAlone_14 rfl rfl ?_
  have g9 : hS h8 a0 = 4 := (hS_tI eh8 g5)
  refine g_getR (pc := 15) fl_X4_48 dX4_giveAlone_15 g9 ?_
  refine g_bipush (pc := 18) (v := (8 : Int32)) dX4_giveAlone_18 (by decide) ?_
  refine g_bipush (pc := 20) (v := (16 : Int32)) dX4_giveAlone_20 (by decide) ?_
  refine g_iload_n (pc := 22) 2 dX4_giveAlone_22 rfl rfl ?_
  refine g_aload_n (pc := 23) 0 dX4_giveAlone_23 rfl rfl ?_
  refine g_getR (pc := 24) fl_X4_15 dX4_giveAlone_24 g9 ?_
  refine g_iload_n (pc := 27) 1 dX4_giveAlone_27 rfl rfl ?_
  obtain ⟨g10, hf⟩ := gs_some hf
  obtain ⟨b11, hf⟩ := gb_some hf
  refine g_iald (pc := 28) g10 b11 dX4_giveAlone_28 ?_
  refine g_aload_n (pc := 29) 0 dX4_giveAlone_29 rfl rfl ?_
  refine g_getR (pc := 30) fl_X4_40 dX4_giveAlone_30 g9 ?_
  refine g_iload_n (pc := 33) 1 dX4_giveAlone_33 rfl rfl ?_
  refine g_iconst (pc := 34) (v := (4 : Int32)) dX4_giveAlone_34 (by decide) ?_
  refine g_imul (pc := 35) dX4_giveAlone_35 ?_
  obtain ⟨g12, hf⟩ := gs_some hf
  obtain ⟨q13, hcq13, hf⟩ := bd_some hf
  refine g_cVV (pc := 36) (k2 := k_X6_send) (av := [.int (8 : Int32), .int (16 : Int32), .int a2, .int (hI h8 (hR h8 a0 2) a1.toNatClampNeg), rf X (hR h8 a0 10), .int (a1 * (4 : Int32))]) (q := q13) rfl dX4_giveAlone_36 ck_X6_send m_581 m_582 m_583 (ci := 4) rfl (by decide) g12 (by decide) (by decide) rfl (by simp [rf_cat, rq_cat, ca_i, ca_l, ca_r]) (ct_X6_send l X hcq13) ?_
  obtain rfl := Option.some.inj hf
  exact g_vret (pc := 39) rfl dX4_giveAlone_39
theorem ct_X4_giveAlone (l : Launch) (X : Cx) {h : AH} {a0 : Nat} {a1 : Int32} {a2 : Int32} {q : AH} (hf : f_X4_giveAlone h a0 a1 a2 = some q) : Ct l X k_X4_giveAlone [rf X a0, .int a1, .int a2] h (rV q) := ct_of ck_X4_giveAlone (by simp [lg_sl, rf_cat, rq_cat, ca_i, ca_l, ca_r]) (by simp [lv_args, rf_cat, rq_cat, ca_i, ca_l, ca_r]) (ok_X4_giveAlone l X hf)
set_option maxRecDepth 100000 in
set_option maxHeartbeats 4000000 in
theorem ok_X4_acknowledge_L147 (l : Launch) (X : Cx) (h : AH) (q : Int32 × AH) (hf : f_X4_acknowledge_L147 h = some q) : Go l X k_X4_acknowledge 147 [] [] h (rI q) := by
  unfold f_X4_acknowledge_L147 at hf
  refine g_goto (pc := 147) (tgt := 161) dX4_acknowledge_147 (by decide) ?_
  refine g_iconst (pc := 161) (v := (0 : Int32)) dX4_acknowledge_161 (by decide) ?_
  obtain rfl := Option.some.inj hf
  exact g_zret (pc := 162) rfl rfl dX4_acknowledge_162
set_option maxRecDepth 100000 in
set_option maxHeartbeats 4000000 in
theorem ok_X4_acknowledge_L50 (l : Launch) (X : Cx) (h : AH) (a0 : Nat) (a2 : Int32) (q : Int32 × AH) (hf : f_X4_acknowledge_L50 h a0 a2 = some q) : Go l X k_X4_acknowledge 50 [(0, rf X a0), (2, .int a2)] [] h (rI q) := by
  unfold f_X4_acknowledge_L50 at hf
  refine g_aload_n (pc := 50) 0 dX4_acknowledge_50 rfl rfl ?_
  obtain ⟨g1, hf⟩ := gs_some hf
  refine g_getR (pc := 51) fl_X4_30 dX4_acknowledge_51 g1 ?_
  refine g_iload_n (pc := 54) 1 dX4_acknowledge_54 rfl rfl ?_
  refine g_dup2 (pc := 55) dX4_acknowledge_55 rfl (rf_cat X _) ?_
  obtain ⟨g2, hf⟩ := gs_some hf
  obtain ⟨b3, hf⟩ := gb_some hf
  refine g_iald (pc := 56) g2 b3 dX4_acknowledge_56 ?_
  refine g_iconst (pc := 57) (v := (1 : Int32)) dX4_acknowledge_57 (by decide) ?_
  refine g_isub (pc := 58) dX4_acknowledge_58 ?_
  obtain ⟨b4, hf⟩ := gb_some hf
  obtain ⟨h5, eh5, hf⟩ := lt_some hf
  refine g_iast (pc := 59) g2 b4 dX4_acknowledge_59 eh5 ?_
  refine g_aload_n (pc := 60) 0 dX4_acknowledge_60 rfl rfl ?_
  have g6 : hS h5 a0 = 4 := (hS_tI eh5 g1)
  refine g_getR (pc := 61) fl_X4_30 dX4_acknowledge_61 g6 ?_
  refine g_iload_n (pc := 64) 1 dX4_acknowledge_64 rfl rfl ?_
  obtain ⟨g7, hf⟩ := gs_some hf
  obtain ⟨b8, hf⟩ := gb_some hf
  refine g_iald (pc := 65) g7 b8 dX4_acknowledge_65 ?_
  rcases it_some hf with ⟨c9, hf⟩ | ⟨c9, hf⟩
  · refine g_ifle_t (pc := 66) (tgt := 71) dX4_acknowledge_66 (by decide) c9 ?_
    refine g_aload_n (pc := 71) 0 dX4_acknowledge_71 rfl rfl ?_
    refine g_getR (pc := 72) fl_X4_24 dX4_acknowledge_72 g6 ?_
    refine g_iload_n (pc := 75) 1 dX4_acknowledge_75 rfl rfl ?_
    obtain ⟨g10, hf⟩ := gs_some hf
    obtain ⟨b11, hf⟩ := gb_some hf
    refine g_iald (pc := 76) g10 b11 dX4_acknowledge_76 ?_
    refine g_bipush (pc := 77) (v := (16 : Int32)) dX4_acknowledge_77 (by decide) ?_
    rcases it_some hf with ⟨c12, hf⟩ | ⟨c12, hf⟩
    · refine g_icne_t (pc := 79) (tgt := 103) dX4_acknowledge_79 (by decide) c12 ?_
      refine g_aload_n (pc := 103) 0 dX4_acknowledge_103 rfl rfl ?_
      refine g_getR (pc := 104) fl_X4_27 dX4_acknowledge_104 g6 ?_
      refine g_iload_n (pc := 107) 1 dX4_acknowledge_107 rfl rfl ?_
      obtain ⟨g13, hf⟩ := gs_some hf
      obtain ⟨b14, hf⟩ := gb_some hf
      refine g_iald (pc := 108) g13 b14 dX4_acknowledge_108 ?_
      rcases it_some hf with ⟨c15, hf⟩ | ⟨c15, hf⟩
      · refine g_ifne_t (pc := 109) (tgt := 150) dX4_acknowledge_109 (by decide) c15 ?_
        refine g_aload_n (pc := 150) 0 dX4_acknowledge_150 rfl rfl ?_
        refine g_iload_n (pc := 151) 1 dX4_acknowledge_151 rfl rfl ?_
        refine g_aload_n (pc := 152) 0 dX4_acknowledge_152 rfl rfl ?_
        refine g_getR (pc := 153) fl_X4_24 dX4_acknowledge_153 g6 ?_
        refine g_iload_n (pc := 156) 1 dX4_acknowledge_156 rfl rfl ?_
        obtain ⟨b16, hf⟩ := gb_some hf
        refine g_iald (pc := 157) g10 b16 dX4_acknowledge_157 ?_
        obtain ⟨q17, hcq17, hf⟩ := bd_some hf
        refine g_cVV (pc := 158) (k2 := k_X4_giveAlone) (av := [.int a2, .int (hI h5 (hR h5 a0 5) a2.toNatClampNeg)]) (q := q17) rfl dX4_acknowledge_158 ck_X4_giveAlone m_599 m_601 m_6 (ci := 3) rfl (by decide) g6 (by decide) (by decide) rfl (by simp [rf_cat, rq_cat, ca_i, ca_l, ca_r]) (ct_X4_giveAlone l X hcq17) ?_
        refine g_iconst (pc := 161) (v := (0 : Int32)) dX4_acknowledge_161 (by decide) ?_
        obtain rfl := Option.some.inj hf
        exact g_zret (pc := 162) rfl rfl dX4_acknowledge_162
      · refine g_ifne_f (pc := 109) (tgt := 150) dX4_acknowledge_109 (by decide) (Decidable.of_not_not c15) ?_
        refine g_aload_n (pc := 112) 0 dX4_acknowledge_112 rfl rfl ?_
        refine g_getR (pc := 113) fl_X4_21 dX4_acknowledge_113 g6 ?_
        refine g_iload_n (pc := 116) 1 dX4_acknowledge_116 rfl rfl ?_
        refine g_dup2 (pc := 117) dX4_acknowledge_117 rfl (rf_cat X _) ?_
        obtain ⟨g18, hf⟩ := gs_some hf
        obtain ⟨b19, hf⟩ := gb_some hf
        refine g_iald (pc := 118) g18 b19 dX4_acknowledge_118 ?_
        refine g_iconst (pc := 119) (v := (1 : Int32)) dX4_acknowledge_119 (by decide) ?_
        refine g_aload_n (pc := 120) 0 dX4_acknowledge_120 rfl rfl ?_
        refine g_getR (pc := 121) fl_X4_18 dX4_acknowledge_121 g6 ?_
        refine g_iload_n (pc := 124) 1 dX4_acknowledge_124 rfl rfl ?_
        obtain ⟨g20, hf⟩ := gs_some hf
        obtain ⟨b21, hf⟩ := gb_some hf
        refine g_iald (pc := 125) g20 b21 dX4_acknowledge_125 ?_
        refine g_ishl (pc := 126) dX4_acknowledge_126 ?_
        refine g_ior (pc := 127) dX4_acknowledge_127 ?_
        obtain ⟨b22, hf⟩ := gb_some hf
        obtain ⟨h23, eh23, hf⟩ := lt_some hf
        refine g_iast (pc := 128) g18 b22 dX4_acknowledge_128 eh23 ?_
        refine g_aload_n (pc := 129) 0 dX4_acknowledge_129 rfl rfl ?_
        have g24 : hS h23 a0 = 4 := (hS_tI eh23 g6)
        refine g_getR (pc := 130) fl_X4_18 dX4_acknowledge_130 g24 ?_
        refine g_iload_n (pc := 133) 1 dX4_acknowledge_133 rfl rfl ?_
        refine g_iconst (pc := 134) (v := (-1 : Int32)) dX4_acknowledge_134 (by decide) ?_
        obtain ⟨g25, hf⟩ := gs_some hf
        obtain ⟨b26, hf⟩ := gb_some hf
        obtain ⟨h27, eh27, hf⟩ := lt_some hf
        refine g_iast (pc := 135) g25 b26 dX4_acknowledge_135 eh27 ?_
        refine g_aload_n (pc := 136) 0 dX4_acknowledge_136 rfl rfl ?_
        refine g_iload_n (pc := 137) 1 dX4_acknowledge_137 rfl rfl ?_
        refine g_aload_n (pc := 138) 0 dX4_acknowledge_138 rfl rfl ?_
        have g28 : hS h27 a0 = 4 := (hS_tI eh27 g24)
        refine g_getR (pc := 139) fl_X4_24 dX4_acknowledge_139 g28 ?_
        refine g_iload_n (pc := 142) 1 dX4_acknowledge_142 rfl rfl ?_
        obtain ⟨g29, hf⟩ := gs_some hf
        obtain ⟨b30, hf⟩ := gb_some hf
        refine g_iald (pc := 143) g29 b30 dX4_acknowledge_143 ?_
        obtain ⟨q31, hcq31, hf⟩ := bd_some hf
        refine g_cVV (pc := 144) (k2 := k_X4_giveShared) (av := [.int a2, .int (hI h27 (hR h27 a0 5) a2.toNatClampNeg)]) (q := q31) rfl dX4_acknowledge_144 ck_X4_giveShared m_577 m_579 m_5 (ci := 3) rfl (by decide) g28 (by decide) (by decide) rfl (by simp [rf_cat, rq_cat, ca_i, ca_l, ca_r]) (ct_X4_giveShared l X hcq31) ?_
        refine g_sub [] rfl ?_
        exact ok_X4_acknowledge_L147 l X q31 q hf
    · refine g_icne_f (pc := 79) (tgt := 103) dX4_acknowledge_79 (by decide) (Decidable.of_not_not c12) ?_
      refine g_aload_n (pc := 82) 0 dX4_acknowledge_82 rfl rfl ?_
      refine g_iload_n (pc := 83) 1 dX4_acknowledge_83 rfl rfl ?_
      obtain ⟨q32, hcq32, hf⟩ := bd_some hf
      refine g_cVV (pc := 84) (k2 := k_X4_writeBack) (av := [.int a2]) (q := q32) rfl dX4_acknowledge_84 ck_X4_writeBack m_573 m_575 m_4 (ci := 3) rfl (by decide) g6 (by decide) (by decide) rfl (by simp [rf_cat, rq_cat, ca_i, ca_l, ca_r]) (ct_X4_writeBack l X hcq32) ?_
      refine g_aload_n (pc := 87) 0 dX4_acknowledge_87 rfl rfl ?_
      obtain ⟨g33, hf⟩ := gs_some hf
      refine g_getR (pc := 88) fl_X4_15 dX4_acknowledge_88 g33 ?_
      refine g_iload_n (pc := 91) 1 dX4_acknowledge_91 rfl rfl ?_
      refine g_iconst (pc := 92) (v := (-1 : Int32)) dX4_acknowledge_92 (by decide) ?_
      obtain ⟨g34, hf⟩ := gs_some hf
      obtain ⟨b35, hf⟩ := gb_some hf
      obtain ⟨h36, eh36, hf⟩ := lt_some hf
      refine g_iast (pc := 93) g34 b35 dX4_acknowledge_93 eh36 ?_
      refine g_aload_n (pc := 94) 0 dX4_acknowledge_94 rfl rfl ?_
      have g37 : hS h36 a0 = 4 := (hS_tI eh36 g33)
      refine g_getR (pc := 95) fl_X4_24 dX4_acknowledge_95 g37 ?_
      refine g_iload_n (pc := 98) 1 dX4_acknowledge_98 rfl rfl ?_
      refine g_iconst (pc := 99) (v := (-1 : Int32)) dX4_acknowledge_99 (by decide) ?_
      obtain ⟨g38, hf⟩ := gs_some hf
      obtain ⟨b39, hf⟩ := gb_some hf
      obtain ⟨h40, eh40, hf⟩ := lt_some hf
      refine g_iast (pc := 100) g38 b39 dX4_acknowledge_100 eh40 ?_
      refine g_iconst (pc := 101) (v := (1 : Int32)) dX4_acknowledge_101 (by decide) ?_
      obtain rfl := Option.some.inj hf
      exact g_zret (pc := 102) rfl rfl dX4_acknowledge_102
  · refine g_ifle_f (pc := 66) (tgt := 71) dX4_acknowledge_66 (by decide) c9 ?_
    refine g_iconst (pc := 69) (v := (0 : Int32)) dX4_acknowledge_69 (by decide) ?_
    obtain rfl := Option.some.inj hf
    exact g_zret (pc := 70) rfl rfl dX4_acknowledge_70
set_option maxRecDepth 100000 in
set_option maxHeartbeats 4000000 in
theorem ok_X4_acknowledge (l : Launch) (X : Cx) {h : AH} {a0 : Nat} {a1 : Nat} {q : Int32 × AH} (hf : f_X4_acknowledge h a0 a1 = some q) : Go l X k_X4_acknowledge 0 [(0, rf X a0), (1, rf X a1)] [] h (rI q) := by
  unfold f_X4_acknowledge at hf
  refine g_aload_n (pc := 0) 0 dX4_acknowledge_0 rfl rfl ?_
  refine g_aload_n (pc := 1) 1 dX4_acknowledge_1 rfl rfl ?_
  refine g_iconst (pc := 2) (v := (3 : Int32)) dX4_acknowledge_2 (by decide) ?_
  obtain ⟨g1, hf⟩ := gs_some hf
  obtain ⟨b2, hf⟩ := gb_some hf
  refine g_iald (pc := 3) g1 b2 dX4_acknowledge_3 ?_
  obtain ⟨g3, hf⟩ := gs_some hf
  obtain ⟨v4, hcv4, hf⟩ := bd_some hf
  refine g_cVI (pc := 4) (k2 := k_X4_find) (av := [.int (hI h a1 (3 : Int32).toNatClampNeg)]) (q := (v4, h)) rfl dX4_acknowledge_4 ck_X4_find m_568 m_569 m_570 (ci := 3) rfl (by decide) g3 (by decide) (by decide) rfl (by simp [rf_cat, rq_cat, ca_i, ca_l, ca_r]) (ct_X4_find l X hcv4) ?_
  refine g_istore_n (pc := 7) (L' := [(2, .int v4), (0, rf X a0), (1, rf X a1)]) dX4_acknowledge_7 rfl (by decide) rfl (by simp [rf_cat, rq_cat]) ?_
  refine g_iload_n (pc := 8) 0 dX4_acknowledge_8 rfl rfl ?_
  rcases it_some hf with ⟨c5, hf⟩ | ⟨c5, hf⟩
  · refine g_iflt_t (pc := 9) (tgt := 21) dX4_acknowledge_9 (by decide) c5 ?_
    refine g_iconst (pc := 21) (v := (0 : Int32)) dX4_acknowledge_21 (by decide) ?_
    obtain rfl := Option.some.inj hf
    exact g_zret (pc := 22) rfl rfl dX4_acknowledge_22
  · refine g_iflt_f (pc := 9) (tgt := 21) dX4_acknowledge_9 (by decide) c5 ?_
    refine g_aload_n (pc := 12) 1 dX4_acknowledge_12 rfl rfl ?_
    refine g_getR (pc := 13) fl_X4_30 dX4_acknowledge_13 g3 ?_
    refine g_iload_n (pc := 16) 0 dX4_acknowledge_16 rfl rfl ?_
    obtain ⟨g6, hf⟩ := gs_some hf
    obtain ⟨b7, hf⟩ := gb_some hf
    refine g_iald (pc := 17) g6 b7 dX4_acknowledge_17 ?_
    rcases it_some hf with ⟨c8, hf⟩ | ⟨c8, hf⟩
    · refine g_ifne_t (pc := 18) (tgt := 23) dX4_acknowledge_18 (by decide) c8 ?_
      refine g_aload_n (pc := 23) 2 dX4_acknowledge_23 rfl rfl ?_
      refine g_iconst (pc := 24) (v := (4 : Int32)) dX4_acknowledge_24 (by decide) ?_
      obtain ⟨b9, hf⟩ := gb_some hf
      refine g_iald (pc := 25) g1 b9 dX4_acknowledge_25 ?_
      refine g_iconst (pc := 26) (v := (1 : Int32)) dX4_acknowledge_26 (by decide) ?_
      rcases it_some hf with ⟨c10, hf⟩ | ⟨c10, hf⟩
      · refine g_icne_t (pc := 27) (tgt := 50) dX4_acknowledge_27 (by decide) c10 ?_
        refine g_sub [1, 0] rfl ?_
        exact ok_X4_acknowledge_L50 l X h a0 v4 q hf
      · refine g_icne_f (pc := 27) (tgt := 50) dX4_acknowledge_27 (by decide) (Decidable.of_not_not c10) ?_
        refine g_aload_n (pc := 30) 2 dX4_acknowledge_30 rfl rfl ?_
        refine g_iconst (pc := 31) (v := (5 : Int32)) dX4_acknowledge_31 (by decide) ?_
        refine g_aload_n (pc := 32) 1 dX4_acknowledge_32 rfl rfl ?_
        refine g_getR (pc := 33) fl_X4_40 dX4_acknowledge_33 g3 ?_
        refine g_iload_n (pc := 36) 0 dX4_acknowledge_36 rfl rfl ?_
        refine g_iconst (pc := 37) (v := (4 : Int32)) dX4_acknowledge_37 (by decide) ?_
        refine g_imul (pc := 38) dX4_acknowledge_38 ?_
        refine g_iconst (pc := 39) (v := (4 : Int32)) dX4_acknowledge_39 (by decide) ?_
        obtain ⟨g11, hf⟩ := gs_some hf
        obtain ⟨b12, hf⟩ := gb_some hf
        obtain ⟨h13, eh13, hf⟩ := lt_some hf
        refine g_copy (pc := 40) acy_X4_86 g1 g11 b12 (by decide) (by decide) (by simp [rf_cat, rq_cat, ca_i, ca_l, ca_r]) dX4_acknowledge_40 eh13 ?_
        refine g_aload_n (pc := 43) 1 dX4_acknowledge_43 rfl rfl ?_
        have g14 : hS h13 a0 = 4 := (hS_tA eh13 g3)
        refine g_getR (pc := 44) fl_X4_33 dX4_acknowledge_44 g14 ?_
        refine g_iload_n (pc := 47) 0 dX4_acknowledge_47 rfl rfl ?_
        refine g_iconst (pc := 48) (v := (1 : Int32)) dX4_acknowledge_48 (by decide) ?_
        obtain ⟨g15, hf⟩ := gs_some hf
        obtain ⟨b16, hf⟩ := gb_some hf
        obtain ⟨h17, eh17, hf⟩ := lt_some hf
        refine g_zast (pc := 49) g15 b16 dX4_acknowledge_49 eh17 ?_
        refine g_sub [1, 0] rfl ?_
        exact ok_X4_acknowledge_L50 l X h17 a0 v4 q hf
    · refine g_ifne_f (pc := 18) (tgt := 23) dX4_acknowledge_18 (by decide) (Decidable.of_not_not c8) ?_
      refine g_iconst (pc := 21) (v := (0 : Int32)) dX4_acknowledge_21 (by decide) ?_
      obtain rfl := Option.some.inj hf
      exact g_zret (pc := 22) rfl rfl dX4_acknowledge_22
theorem ct_X4_acknowledge (l : Launch) (X : Cx) {h : AH} {a0 : Nat} {a1 : Nat} {q : Int32 × AH} (hf : f_X4_acknowledge h a0 a1 = some q) : Ct l X k_X4_acknowledge [rf X a0, rf X a1] h (rI q) := ct_of ck_X4_acknowledge (by simp [lg_sl, rf_cat, rq_cat, ca_i, ca_l, ca_r]) (by simp [lv_args, rf_cat, rq_cat, ca_i, ca_l, ca_r]) (ok_X4_acknowledge l X hf)
set_option maxRecDepth 100000 in
set_option maxHeartbeats 4000000 in
theorem ok_X4_endRequest (l : Launch) (X : Cx) {h : AH} {a0 : Nat} {a1 : Int32} {q : AH} (hf : f_X4_endRequest h a0 a1 = some q) : Go l X k_X4_endRequest 0 [(0, rf X a0), (1, .int a1)] [] h (rV q) := by
  unfold f_X4_endRequest at hf
  refine g_aload_n (pc := 0) 0 dX4_endRequest_0 rfl rfl ?_
  refine g_iload_n (pc := 1) 1 dX4_endRequest_1 rfl rfl ?_
  obtain ⟨g1, hf⟩ := gs_some hf
  obtain ⟨v2, hcv2, hf⟩ := bd_some hf
  refine g_cVI (pc := 2) (k2 := k_X4_find) (av := [.int a1]) (q := (v2, h)) rfl dX4_endRequest_2 ck_X4_find m_568 m_569 m_570 (ci := 3) rfl (by decide) g1 (by decide) (by decide) rfl (by simp [rf_cat, rq_cat, ca_i, ca_l, ca_r]) (ct_X4_find l X hcv2) ?_
  refine g_istore_n (pc := 5) (L' := [(2, .int v2), (0, rf X a0), (1, .int a1)]) dX4_endRequest_5 rfl (by decide) rfl rfl ?_
  refine g_iload_n (pc := 6) 0 dX4_endRequest_6 rfl rfl ?_
  rcases it_some hf with ⟨c3, hf⟩ | ⟨c3, hf⟩
  · refine g_iflt_t (pc := 7) (tgt := 17) dX4_endRequest_7 (by decide) c3 ?_
    obtain rfl := Option.some.inj hf
    exact g_vret (pc := 17) rfl dX4_endRequest_17
  · refine g_iflt_f (pc := 7) (tgt := 17) dX4_endRequest_7 (by decide) c3 ?_
    refine g_aload_n (pc := 10) 1 dX4_endRequest_10 rfl rfl ?_
    refine g_getR (pc := 11) fl_X4_24 dX4_endRequest_11 g1 ?_
    refine g_iload_n (pc := 14) 0 dX4_endRequest_14 rfl rfl ?_
    refine g_iconst (pc := 15) (v := (-1 : Int32)) dX4_endRequest_15 (by decide) ?_
    obtain ⟨g4, hf⟩ := gs_some hf
    obtain ⟨b5, hf⟩ := gb_some hf
    obtain ⟨h6, eh6, hf⟩ := lt_some hf
    refine g_iast (pc := 16) g4 b5 dX4_endRequest_16 eh6 ?_
    obtain rfl := Option.some.inj hf
    exact g_vret (pc := 17) rfl dX4_endRequest_17
theorem ct_X4_endRequest (l : Launch) (X : Cx) {h : AH} {a0 : Nat} {a1 : Int32} {q : AH} (hf : f_X4_endRequest h a0 a1 = some q) : Ct l X k_X4_endRequest [rf X a0, .int a1] h (rV q) := ct_of ck_X4_endRequest (by simp [lg_sl, rf_cat, rq_cat, ca_i, ca_l, ca_r]) (by simp [lv_args, rf_cat, rq_cat, ca_i, ca_l, ca_r]) (ok_X4_endRequest l X hf)
set_option maxRecDepth 100000 in
set_option maxHeartbeats 4000000 in
theorem ok_X4_firstAt_L2 (l : Launch) (X : Cx) (h : AH) : ∀ (n : Nat) (a0 : Nat) (a1 : Int32) (a2 : Int32) (q : Int32), f_X4_firstAt_L2 h n a0 a1 a2 = some q → Go l X k_X4_firstAt 2 [(0, rf X a0), (1, .int a1), (2, .int a2)] [] h (rI (q, h)) := by
  intro n
  induction n with
  | zero =>
    intro a0 a1 a2 q hf
    unfold f_X4_firstAt_L2 at hf
    cases hf
  | succ n ih =>
    intro a0 a1 a2 q hf
    unfold f_X4_firstAt_L2 at hf
    refine g_iload_n (pc := 2) 2 dX4_firstAt_2 rfl rfl ?_
    refine g_aload_n (pc := 3) 0 dX4_firstAt_3 rfl rfl ?_
    obtain ⟨g1, hf⟩ := gs_some hf
    refine g_getI (pc := 4) fl_X4_69 dX4_firstAt_4 g1 ?_
    rcases it_some hf with ⟨c2, hf⟩ | ⟨c2, hf⟩
    · refine g_icge_t (pc := 7) (tgt := 40) dX4_firstAt_7 (by decide) c2 ?_
      refine g_iconst (pc := 40) (v := (-1 : Int32)) dX4_firstAt_40 (by decide) ?_
      obtain rfl := Option.some.inj hf
      exact g_iret (pc := 41) rfl dX4_firstAt_41
    · refine g_icge_f (pc := 7) (tgt := 40) dX4_firstAt_7 (by decide) c2 ?_
      refine g_aload_n (pc := 10) 0 dX4_firstAt_10 rfl rfl ?_
      refine g_getR (pc := 11) fl_X4_45 dX4_firstAt_11 g1 ?_
      refine g_iload_n (pc := 14) 2 dX4_firstAt_14 rfl rfl ?_
      refine g_bipush (pc := 15) (v := (9 : Int32)) dX4_firstAt_15 (by decide) ?_
      refine g_imul (pc := 17) dX4_firstAt_17 ?_
      refine g_iconst (pc := 18) (v := (3 : Int32)) dX4_firstAt_18 (by decide) ?_
      refine g_iadd (pc := 19) dX4_firstAt_19 ?_
      obtain ⟨g3, hf⟩ := gs_some hf
      obtain ⟨b4, hf⟩ := gb_some hf
      refine g_iald (pc := 20) g3 b4 dX4_firstAt_20 ?_
      refine g_aload_n (pc := 21) 0 dX4_firstAt_21 rfl rfl ?_
      refine g_getI (pc := 22) fl_X4_56 dX4_firstAt_22 g1 ?_
      refine g_iconst (pc := 25) (v := (1 : Int32)) dX4_firstAt_25 (by decide) ?_
      refine g_isub (pc := 26) dX4_firstAt_26 ?_
      refine g_iand (pc := 27) dX4_firstAt_27 ?_
      refine g_iload_n (pc := 28) 1 dX4_firstAt_28 rfl rfl ?_
      rcases it_some hf with ⟨c5, hf⟩ | ⟨c5, hf⟩
      · refine g_icne_t (pc := 29) (tgt := 34) dX4_firstAt_29 (by decide) c5 ?_
        obtain ⟨x6, ex6, hf⟩ := lt_some hf
        refine g_iinc (pc := 34) (y := x6) (L' := [(2, .int x6), (0, rf X a0), (1, .int a1)]) 2 dX4_firstAt_34 rfl (by decide) (ex6.trans rfl) rfl ?_
        refine g_goto (pc := 37) (tgt := 2) dX4_firstAt_37 (by decide) ?_
        refine g_sub [1, 2, 0] rfl ?_
        exact ih a0 a1 x6 q hf
      · refine g_icne_f (pc := 29) (tgt := 34) dX4_firstAt_29 (by decide) (Decidable.of_not_not c5) ?_
        refine g_iload_n (pc := 32) 2 dX4_firstAt_32 rfl rfl ?_
        obtain rfl := Option.some.inj hf
        exact g_iret (pc := 33) rfl dX4_firstAt_33
set_option maxRecDepth 100000 in
set_option maxHeartbeats 4000000 in
theorem ok_X4_firstAt (l : Launch) (X : Cx) {h : AH} {a0 : Nat} {a1 : Int32} {q : Int32} (hf : f_X4_firstAt h a0 a1 = some q) : Go l X k_X4_firstAt 0 [(0, rf X a0), (1, .int a1)] [] h (rI (q, h)) := by
  unfold f_X4_firstAt at hf
  refine g_iconst (pc := 0) (v := (0 : Int32)) dX4_firstAt_0 (by decide) ?_
  obtain ⟨x1, ex1, hf⟩ := lt_some hf
  refine g_istore_n (pc := 1) (L' := [(2, .int x1), (0, rf X a0), (1, .int a1)]) dX4_firstAt_1 rfl (by decide) ex1 rfl ?_
  refine g_sub [1, 2, 0] rfl ?_
  exact ok_X4_firstAt_L2 l X h FU a0 a1 x1 q hf
theorem ct_X4_firstAt (l : Launch) (X : Cx) {h : AH} {a0 : Nat} {a1 : Int32} {q : Int32} (hf : f_X4_firstAt h a0 a1 = some q) : Ct l X k_X4_firstAt [rf X a0, .int a1] h (rI (q, h)) := ct_of ck_X4_firstAt (by simp [lg_sl, rf_cat, rq_cat, ca_i, ca_l, ca_r]) (by simp [lv_args, rf_cat, rq_cat, ca_i, ca_l, ca_r]) (ok_X4_firstAt l X hf)
set_option maxRecDepth 100000 in
set_option maxHeartbeats 4000000 in
theorem ok_X4_takeBack_L55 (l : Launch) (X : Cx) (h : AH) (a0 : Nat) (a2 : Int32) (a3 : Int32) (q : AH) (hf : f_X4_takeBack_L55 h a0 a2 a3 = some q) : Go l X k_X4_takeBack 55 [(0, rf X a0), (2, .int a2), (3, .int a3)] [] h (rV q) := by
  unfold f_X4_takeBack_L55 at hf
  refine g_aload_n (pc := 55) 0 dX4_takeBack_55 rfl rfl ?_
  obtain ⟨g1, hf⟩ := gs_some hf
  refine g_getR (pc := 56) fl_X4_48 dX4_takeBack_56 g1 ?_
  refine g_bipush (pc := 59) (v := (9 : Int32)) dX4_takeBack_59 (by decide) ?_
  refine g_bipush (pc := 61) (v := (16 : Int32)) dX4_takeBack_61 (by decide) ?_
  refine g_iload_n (pc := 63) 2 dX4_takeBack_63 rfl rfl ?_
  refine g_aload_n (pc := 64) 0 dX4_takeBack_64 rfl rfl ?_
  refine g_getR (pc := 65) fl_X4_45 dX4_takeBack_65 g1 ?_
  refine g_iload_n (pc := 68) 1 dX4_takeBack_68 rfl rfl ?_
  refine g_iconst (pc := 69) (v := (3 : Int32)) dX4_takeBack_69 (by decide) ?_
  refine g_iadd (pc := 70) dX4_takeBack_70 ?_
  obtain ⟨g2, hf⟩ := gs_some hf
  obtain ⟨b3, hf⟩ := gb_some hf
  refine g_iald (pc := 71) g2 b3 dX4_takeBack_71 ?_
  refine g_null (pc := 72) dX4_takeBack_72 ?_
  refine g_iconst (pc := 73) (v := (0 : Int32)) dX4_takeBack_73 (by decide) ?_
  obtain ⟨g4, hf⟩ := gs_some hf
  obtain ⟨q5, hcq5, hf⟩ := bd_some hf
  refine g_cVV (pc := 74) (k2 := k_X6_send) (av := [.int (9 : Int32), .int (16 : Int32), .int a3, .int (hI h (hR h a0 11) (a2 + (3 : Int32)).toNatClampNeg), rf X 0, .int (0 : Int32)]) (q := q5) rfl dX4_takeBack_74 ck_X6_send m_581 m_582 m_583 (ci := 4) rfl (by decide) g4 (by decide) (by decide) rfl (by simp [rf_cat, rq_cat, ca_i, ca_l, ca_r]) (ct_X6_send l X hcq5) ?_
  obtain rfl := Option.some.inj hf
  exact g_vret (pc := 77) rfl dX4_takeBack_77
set_option maxRecDepth 100000 in
set_option maxHeartbeats 4000000 in
theorem ok_X4_takeBack (l : Launch) (X : Cx) {h : AH} {a0 : Nat} {a1 : Int32} {a2 : Int32} {q : AH} (hf : f_X4_takeBack h a0 a1 a2 = some q) : Go l X k_X4_takeBack 0 [(0, rf X a0), (1, .int a1), (2, .int a2)] [] h (rV q) := by
  unfold f_X4_takeBack at hf
  refine g_aload_n (pc := 0) 0 dX4_takeBack_0 rfl rfl ?_
  obtain ⟨g1, hf⟩ := gs_some hf
  refine g_getR (pc := 1) fl_X4_45 dX4_takeBack_1 g1 ?_
  refine g_iload_n (pc := 4) 2 dX4_takeBack_4 rfl rfl ?_
  refine g_iconst (pc := 5) (v := (1 : Int32)) dX4_takeBack_5 (by decide) ?_
  refine g_iadd (pc := 6) dX4_takeBack_6 ?_
  obtain ⟨g2, hf⟩ := gs_some hf
  obtain ⟨b3, hf⟩ := gb_some hf
  refine g_iald (pc := 7) g2 b3 dX4_takeBack_7 ?_
  obtain ⟨x4, ex4, hf⟩ := lt_some hf
  refine g_istore_n (pc := 8) (L' := [(3, .int x4), (0, rf X a0), (1, .int a1), (2, .int a2)]) dX4_takeBack_8 rfl (by decide) ex4 rfl ?_
  refine g_iload_n (pc := 9) 2 dX4_takeBack_9 rfl rfl ?_
  rcases it_some hf with ⟨c5, hf⟩ | ⟨c5, hf⟩
  · refine g_iflt_t (pc := 10) (tgt := 55) dX4_takeBack_10 (by decide) c5 ?_
    refine g_sub [1, 3, 0] rfl ?_
    exact ok_X4_takeBack_L55 l X h a0 a2 x4 q hf
  · refine g_iflt_f (pc := 10) (tgt := 55) dX4_takeBack_10 (by decide) c5 ?_
    refine g_aload_n (pc := 13) 1 dX4_takeBack_13 rfl rfl ?_
    refine g_getR (pc := 14) fl_X4_18 dX4_takeBack_14 g1 ?_
    refine g_iload_n (pc := 17) 2 dX4_takeBack_17 rfl rfl ?_
    obtain ⟨g6, hf⟩ := gs_some hf
    obtain ⟨b7, hf⟩ := gb_some hf
    refine g_iald (pc := 18) g6 b7 dX4_takeBack_18 ?_
    refine g_iload_n (pc := 19) 0 dX4_takeBack_19 rfl rfl ?_
    rcases it_some hf with ⟨c8, hf⟩ | ⟨c8, hf⟩
    · refine g_icne_t (pc := 20) (tgt := 55) dX4_takeBack_20 (by decide) c8 ?_
      refine g_sub [1, 3, 0] rfl ?_
      exact ok_X4_takeBack_L55 l X h a0 a2 x4 q hf
    · refine g_icne_f (pc := 20) (tgt := 55) dX4_takeBack_20 (by decide) (Decidable.of_not_not c8) ?_
      refine g_aload_n (pc := 23) 1 dX4_takeBack_23 rfl rfl ?_
      refine g_getR (pc := 24) fl_X4_45 dX4_takeBack_24 g1 ?_
      refine g_iload_n (pc := 27) 3 dX4_takeBack_27 rfl rfl ?_
      refine g_iconst (pc := 28) (v := (5 : Int32)) dX4_takeBack_28 (by decide) ?_
      refine g_iadd (pc := 29) dX4_takeBack_29 ?_
      refine g_aload_n (pc := 30) 1 dX4_takeBack_30 rfl rfl ?_
      refine g_getR (pc := 31) fl_X4_40 dX4_takeBack_31 g1 ?_
      refine g_iload_n (pc := 34) 2 dX4_takeBack_34 rfl rfl ?_
      refine g_iconst (pc := 35) (v := (4 : Int32)) dX4_takeBack_35 (by decide) ?_
      refine g_imul (pc := 36) dX4_takeBack_36 ?_
      refine g_iconst (pc := 37) (v := (4 : Int32)) dX4_takeBack_37 (by decide) ?_
      obtain ⟨g9, hf⟩ := gs_some hf
      obtain ⟨b10, hf⟩ := gb_some hf
      obtain ⟨h11, eh11, hf⟩ := lt_some hf
      refine g_copy (pc := 38) acy_X4_86 g2 g9 b10 (by decide) (by decide) (by simp [rf_cat, rq_cat, ca_i, ca_l, ca_r]) dX4_takeBack_38 eh11 ?_
      refine g_aload_n (pc := 41) 1 dX4_takeBack_41 rfl rfl ?_
      have g12 : hS h11 a0 = 4 := (hS_tA eh11 g1)
      refine g_getR (pc := 42) fl_X4_33 dX4_takeBack_42 g12 ?_
      refine g_iload_n (pc := 45) 2 dX4_takeBack_45 rfl rfl ?_
      refine g_iconst (pc := 46) (v := (1 : Int32)) dX4_takeBack_46 (by decide) ?_
      obtain ⟨g13, hf⟩ := gs_some hf
      obtain ⟨b14, hf⟩ := gb_some hf
      obtain ⟨h15, eh15, hf⟩ := lt_some hf
      refine g_zast (pc := 47) g13 b14 dX4_takeBack_47 eh15 ?_
      refine g_aload_n (pc := 48) 1 dX4_takeBack_48 rfl rfl ?_
      have g16 : hS h15 a0 = 4 := (hS_tI eh15 g12)
      refine g_getR (pc := 49) fl_X4_18 dX4_takeBack_49 g16 ?_
      refine g_iload_n (pc := 52) 2 dX4_takeBack_52 rfl rfl ?_
      refine g_iconst (pc := 53) (v := (-1 : Int32)) dX4_takeBack_53 (by decide) ?_
      obtain ⟨g17, hf⟩ := gs_some hf
      obtain ⟨b18, hf⟩ := gb_some hf
      obtain ⟨h19, eh19, hf⟩ := lt_some hf
      refine g_iast (pc := 54) g17 b18 dX4_takeBack_54 eh19 ?_
      refine g_sub [1, 3, 0] rfl ?_
      exact ok_X4_takeBack_L55 l X h19 a0 a2 x4 q hf
theorem ct_X4_takeBack (l : Launch) (X : Cx) {h : AH} {a0 : Nat} {a1 : Int32} {a2 : Int32} {q : AH} (hf : f_X4_takeBack h a0 a1 a2 = some q) : Ct l X k_X4_takeBack [rf X a0, .int a1, .int a2] h (rV q) := ct_of ck_X4_takeBack (by simp [lg_sl, rf_cat, rq_cat, ca_i, ca_l, ca_r]) (by simp [lv_args, rf_cat, rq_cat, ca_i, ca_l, ca_r]) (ok_X4_takeBack l X hf)
set_option maxRecDepth 100000 in
set_option maxHeartbeats 4000000 in
theorem ok_X4_wayToFree_L78 (l : Launch) (X : Cx) (h : AH) (k19 : Nat → Int32 → Int32 → Int32 → Option (Int32)) (hk19 : ∀ (a0 : Nat) (a2 : Int32) (a3 : Int32) (a4 : Int32) (q : Int32), k19 a0 a2 a3 a4 = some q → Go l X k_X4_wayToFree 19 [(0, rf X a0), (2, .int a2), (3, .int a3), (4, .int a4)] [] h (rI (q, h))) (a0 : Nat) (a2 : Int32) (a3 : Int32) (a4 : Int32) (q : Int32) (hf : f_X4_wayToFree_L78 h k19 a0 a2 a3 a4 = some q) : Go l X k_X4_wayToFree 78 [(0, rf X a0), (2, .int a2), (3, .int a3), (4, .int a4)] [] h (rI (q, h)) := by
  unfold f_X4_wayToFree_L78 at hf
  obtain ⟨x1, ex1, hf⟩ := lt_some hf
  refine g_iinc (pc := 78) (y := x1) (L' := [(4, .int x1), (0, rf X a0), (2, .int a2), (3, .int a3)]) 3 dX4_wayToFree_78 rfl (by decide) (ex1.trans rfl) rfl ?_
  refine g_goto (pc := 81) (tgt := 19) dX4_wayToFree_81 (by decide) ?_
  refine g_sub [1, 2, 3, 0] rfl ?_
  exact hk19 a0 a2 a3 x1 q hf
set_option maxRecDepth 100000 in
set_option maxHeartbeats 4000000 in
theorem ok_X4_wayToFree_L75 (l : Launch) (X : Cx) (h : AH) (k19 : Nat → Int32 → Int32 → Int32 → Option (Int32)) (hk19 : ∀ (a0 : Nat) (a2 : Int32) (a3 : Int32) (a4 : Int32) (q : Int32), k19 a0 a2 a3 a4 = some q → Go l X k_X4_wayToFree 19 [(0, rf X a0), (2, .int a2), (3, .int a3), (4, .int a4)] [] h (rI (q, h))) (a0 : Nat) (a2 : Int32) (a4 : Int32) (q : Int32) (hf : f_X4_wayToFree_L75 h k19 a0 a2 a4 = some q) : Go l X k_X4_wayToFree 75 [(0, rf X a0), (2, .int a2), (4, .int a4)] [] h (rI (q, h)) := by
  unfold f_X4_wayToFree_L75 at hf
  refine g_iload (pc := 75) 2 dX4_wayToFree_75 rfl ?_
  refine g_istore_n (pc := 77) (L' := [(3, .int a4), (0, rf X a0), (2, .int a2), (4, .int a4)]) dX4_wayToFree_77 rfl (by decide) rfl rfl ?_
  refine g_sub [1, 2, 0, 3] rfl ?_
  exact ok_X4_wayToFree_L78 l X h k19 hk19 a0 a2 a4 a4 q hf
set_option maxRecDepth 100000 in
set_option maxHeartbeats 4000000 in
theorem ok_X4_wayToFree_L19 (l : Launch) (X : Cx) (h : AH) : ∀ (n : Nat) (a0 : Nat) (a2 : Int32) (a3 : Int32) (a4 : Int32) (q : Int32), f_X4_wayToFree_L19 h n a0 a2 a3 a4 = some q → Go l X k_X4_wayToFree 19 [(0, rf X a0), (2, .int a2), (3, .int a3), (4, .int a4)] [] h (rI (q, h)) := by
  intro n
  induction n with
  | zero =>
    intro a0 a2 a3 a4 q hf
    unfold f_X4_wayToFree_L19 at hf
    cases hf
  | succ n ih =>
    intro a0 a2 a3 a4 q hf
    unfold f_X4_wayToFree_L19 at hf
    refine g_iload (pc := 19) 3 dX4_wayToFree_19 rfl ?_
    refine g_iload_n (pc := 21) 1 dX4_wayToFree_21 rfl rfl ?_
    refine g_aload_n (pc := 22) 0 dX4_wayToFree_22 rfl rfl ?_
    obtain ⟨g1, hf⟩ := gs_some hf
    refine g_getI (pc := 23) fl_X4_60 dX4_wayToFree_23 g1 ?_
    refine g_iadd (pc := 26) dX4_wayToFree_26 ?_
    rcases it_some hf with ⟨c2, hf⟩ | ⟨c2, hf⟩
    · refine g_icge_t (pc := 27) (tgt := 84) dX4_wayToFree_27 (by decide) c2 ?_
      refine g_iload_n (pc := 84) 2 dX4_wayToFree_84 rfl rfl ?_
      obtain rfl := Option.some.inj hf
      exact g_iret (pc := 85) rfl dX4_wayToFree_85
    · refine g_icge_f (pc := 27) (tgt := 84) dX4_wayToFree_27 (by decide) c2 ?_
      refine g_aload_n (pc := 30) 0 dX4_wayToFree_30 rfl rfl ?_
      refine g_getR (pc := 31) fl_X4_15 dX4_wayToFree_31 g1 ?_
      refine g_iload (pc := 34) 3 dX4_wayToFree_34 rfl ?_
      obtain ⟨g3, hf⟩ := gs_some hf
      obtain ⟨b4, hf⟩ := gb_some hf
      refine g_iald (pc := 36) g3 b4 dX4_wayToFree_36 ?_
      refine g_iconst (pc := 37) (v := (-1 : Int32)) dX4_wayToFree_37 (by decide) ?_
      rcases it_some hf with ⟨c5, hf⟩ | ⟨c5, hf⟩
      · refine g_icne_t (pc := 38) (tgt := 44) dX4_wayToFree_38 (by decide) c5 ?_
        refine g_aload_n (pc := 44) 0 dX4_wayToFree_44 rfl rfl ?_
        refine g_getR (pc := 45) fl_X4_24 dX4_wayToFree_45 g1 ?_
        refine g_iload (pc := 48) 3 dX4_wayToFree_48 rfl ?_
        obtain ⟨g6, hf⟩ := gs_some hf
        obtain ⟨b7, hf⟩ := gb_some hf
        refine g_iald (pc := 50) g6 b7 dX4_wayToFree_50 ?_
        refine g_iconst (pc := 51) (v := (-1 : Int32)) dX4_wayToFree_51 (by decide) ?_
        rcases it_some hf with ⟨c8, hf⟩ | ⟨c8, hf⟩
        · refine g_icne_t (pc := 52) (tgt := 78) dX4_wayToFree_52 (by decide) c8 ?_
          exact ok_X4_wayToFree_L78 l X h (f_X4_wayToFree_L19 h n) ih a0 a2 a3 a4 q hf
        · refine g_icne_f (pc := 52) (tgt := 78) dX4_wayToFree_52 (by decide) (Decidable.of_not_not c8) ?_
          refine g_iload_n (pc := 55) 2 dX4_wayToFree_55 rfl rfl ?_
          rcases it_some hf with ⟨c9, hf⟩ | ⟨c9, hf⟩
          · refine g_iflt_t (pc := 56) (tgt := 75) dX4_wayToFree_56 (by decide) c9 ?_
            refine g_sub [0, 1, 3] rfl ?_
            exact ok_X4_wayToFree_L75 l X h (f_X4_wayToFree_L19 h n) ih a0 a2 a4 q hf
          · refine g_iflt_f (pc := 56) (tgt := 75) dX4_wayToFree_56 (by decide) c9 ?_
            refine g_aload_n (pc := 59) 0 dX4_wayToFree_59 rfl rfl ?_
            refine g_getR (pc := 60) fl_X4_37 dX4_wayToFree_60 g1 ?_
            refine g_iload (pc := 63) 3 dX4_wayToFree_63 rfl ?_
            obtain ⟨g10, hf⟩ := gs_some hf
            obtain ⟨b11, hf⟩ := gb_some hf
            refine g_iald (pc := 65) g10 b11 dX4_wayToFree_65 ?_
            refine g_aload_n (pc := 66) 0 dX4_wayToFree_66 rfl rfl ?_
            refine g_getR (pc := 67) fl_X4_37 dX4_wayToFree_67 g1 ?_
            refine g_iload_n (pc := 70) 2 dX4_wayToFree_70 rfl rfl ?_
            obtain ⟨b12, hf⟩ := gb_some hf
            refine g_iald (pc := 71) g10 b12 dX4_wayToFree_71 ?_
            rcases it_some hf with ⟨c13, hf⟩ | ⟨c13, hf⟩
            · refine g_icge_t (pc := 72) (tgt := 78) dX4_wayToFree_72 (by decide) c13 ?_
              exact ok_X4_wayToFree_L78 l X h (f_X4_wayToFree_L19 h n) ih a0 a2 a3 a4 q hf
            · refine g_icge_f (pc := 72) (tgt := 78) dX4_wayToFree_72 (by decide) c13 ?_
              refine g_sub [0, 1, 3] rfl ?_
              exact ok_X4_wayToFree_L75 l X h (f_X4_wayToFree_L19 h n) ih a0 a2 a4 q hf
      · refine g_icne_f (pc := 38) (tgt := 44) dX4_wayToFree_38 (by decide) (Decidable.of_not_not c5) ?_
        refine g_iload (pc := 41) 3 dX4_wayToFree_41 rfl ?_
        obtain rfl := Option.some.inj hf
        exact g_iret (pc := 43) rfl dX4_wayToFree_43
set_option maxRecDepth 100000 in
set_option maxHeartbeats 4000000 in
theorem ok_X4_wayToFree (l : Launch) (X : Cx) {h : AH} {a0 : Nat} {a1 : Int32} {q : Int32} (hf : f_X4_wayToFree h a0 a1 = some q) : Go l X k_X4_wayToFree 0 [(0, rf X a0), (1, .int a1)] [] h (rI (q, h)) := by
  unfold f_X4_wayToFree at hf
  refine g_iload_n (pc := 0) 1 dX4_wayToFree_0 rfl rfl ?_
  refine g_aload_n (pc := 1) 0 dX4_wayToFree_1 rfl rfl ?_
  obtain ⟨g1, hf⟩ := gs_some hf
  refine g_getI (pc := 2) fl_X4_56 dX4_wayToFree_2 g1 ?_
  refine g_iconst (pc := 5) (v := (1 : Int32)) dX4_wayToFree_5 (by decide) ?_
  refine g_isub (pc := 6) dX4_wayToFree_6 ?_
  refine g_iand (pc := 7) dX4_wayToFree_7 ?_
  refine g_aload_n (pc := 8) 0 dX4_wayToFree_8 rfl rfl ?_
  refine g_getI (pc := 9) fl_X4_60 dX4_wayToFree_9 g1 ?_
  refine g_imul (pc := 12) dX4_wayToFree_12 ?_
  obtain ⟨x2, ex2, hf⟩ := lt_some hf
  refine g_istore_n (pc := 13) (L' := [(2, .int x2), (0, rf X a0), (1, .int a1)]) dX4_wayToFree_13 rfl (by decide) ex2 rfl ?_
  refine g_iconst (pc := 14) (v := (-1 : Int32)) dX4_wayToFree_14 (by decide) ?_
  obtain ⟨x3, ex3, hf⟩ := lt_some hf
  refine g_istore_n (pc := 15) (L' := [(3, .int x3), (2, .int x2), (0, rf X a0), (1, .int a1)]) dX4_wayToFree_15 rfl (by decide) ex3 rfl ?_
  refine g_iload_n (pc := 16) 1 dX4_wayToFree_16 rfl rfl ?_
  refine g_istore (pc := 17) (L' := [(4, .int x2), (3, .int x3), (2, .int x2), (0, rf X a0), (1, .int a1)]) dX4_wayToFree_17 (by decide) rfl rfl ?_
  refine g_sub [3, 2, 1, 0] rfl ?_
  exact ok_X4_wayToFree_L19 l X h FU a0 x2 x3 x2 q hf
theorem ct_X4_wayToFree (l : Launch) (X : Cx) {h : AH} {a0 : Nat} {a1 : Int32} {q : Int32} (hf : f_X4_wayToFree h a0 a1 = some q) : Ct l X k_X4_wayToFree [rf X a0, .int a1] h (rI (q, h)) := ct_of ck_X4_wayToFree (by simp [lg_sl, rf_cat, rq_cat, ca_i, ca_l, ca_r]) (by simp [lv_args, rf_cat, rq_cat, ca_i, ca_l, ca_r]) (ok_X4_wayToFree l X hf)
set_option maxRecDepth 100000 in
set_option maxHeartbeats 4000000 in
theorem ok_X4_invite_L77 (l : Launch) (X : Cx) (k2 : AH → Nat → Int32 → Int32 → Int32 → Option (AH)) (hk2 : ∀ (h : AH) (a0 : Nat) (a1 : Int32) (a2 : Int32) (a3 : Int32) (q : AH), k2 h a0 a1 a2 a3 = some q → Go l X k_X4_invite 2 [(0, rf X a0), (1, .int a1), (2, .int a2), (3, .int a3)] [] h (rV q)) (h : AH) (a0 : Nat) (a1 : Int32) (a2 : Int32) (a3 : Int32) (q : AH) (hf : f_X4_invite_L77 k2 h a0 a1 a2 a3 = some q) : Go l X k_X4_invite 77 [(0, rf X a0), (1, .int a1), (2, .int a2), (3, .int a3)] [] h (rV q) := by
  unfold f_X4_invite_L77 at hf
  obtain ⟨x1, ex1, hf⟩ := lt_some hf
  refine g_iinc (pc := 77) (y := x1) (L' := [(3, .int x1), (0, rf X a0), (1, .int a1), (2, .int a2)]) 3 dX4_invite_77 rfl (by decide) (ex1.trans rfl) rfl ?_
  refine g_goto (pc := 80) (tgt := 2) dX4_invite_80 (by decide) ?_
  refine g_sub [1, 2, 3, 0] rfl ?_
  exact hk2 h a0 a1 a2 x1 q hf
set_option maxRecDepth 100000 in
set_option maxHeartbeats 4000000 in
theorem ok_X4_invite_L36 (l : Launch) (X : Cx) (k2 : AH → Nat → Int32 → Int32 → Int32 → Option (AH)) (hk2 : ∀ (h : AH) (a0 : Nat) (a1 : Int32) (a2 : Int32) (a3 : Int32) (q : AH), k2 h a0 a1 a2 a3 = some q → Go l X k_X4_invite 2 [(0, rf X a0), (1, .int a1), (2, .int a2), (3, .int a3)] [] h (rV q)) (h : AH) (a0 : Nat) (a1 : Int32) (a2 : Int32) (a3 : Int32) (s0 : Int32) (q : AH) (hf : f_X4_invite_L36 k2 h a0 a1 a2 a3 s0 = some q) : Go l X k_X4_invite 36 [(0, rf X a0), (1, .int a1), (2, .int a2), (3, .int a3)] [.int s0] h (rV q) := by
  unfold f_X4_invite_L36 at hf
  refine g_istore (pc := 36) (L' := [(4, .int s0), (0, rf X a0), (1, .int a1), (2, .int a2), (3, .int a3)]) dX4_invite_36 (by decide) rfl rfl ?_
  refine g_iload (pc := 38) 0 dX4_invite_38 rfl ?_
  rcases it_some hf with ⟨c1, hf⟩ | ⟨c1, hf⟩
  · refine g_ifeq_t (pc := 40) (tgt := 77) dX4_invite_40 (by decide) c1 ?_
    refine g_sub [1, 2, 3, 4] rfl ?_
    exact ok_X4_invite_L77 l X k2 hk2 h a0 a1 a2 a3 q hf
  · refine g_ifeq_f (pc := 40) (tgt := 77) dX4_invite_40 (by decide) c1 ?_
    refine g_iload_n (pc := 43) 4 dX4_invite_43 rfl rfl ?_
    refine g_iload_n (pc := 44) 3 dX4_invite_44 rfl rfl ?_
    rcases it_some hf with ⟨c2, hf⟩ | ⟨c2, hf⟩
    · refine g_iceq_t (pc := 45) (tgt := 77) dX4_invite_45 (by decide) c2 ?_
      refine g_sub [1, 2, 3, 4] rfl ?_
      exact ok_X4_invite_L77 l X k2 hk2 h a0 a1 a2 a3 q hf
    · refine g_iceq_f (pc := 45) (tgt := 77) dX4_invite_45 (by decide) c2 ?_
      refine g_aload_n (pc := 48) 1 dX4_invite_48 rfl rfl ?_
      obtain ⟨g3, hf⟩ := gs_some hf
      refine g_getR (pc := 49) fl_X4_48 dX4_invite_49 g3 ?_
      refine g_iconst (pc := 52) (v := (3 : Int32)) dX4_invite_52 (by decide) ?_
      refine g_bipush (pc := 53) (v := (16 : Int32)) dX4_invite_53 (by decide) ?_
      refine g_iload_n (pc := 55) 4 dX4_invite_55 rfl rfl ?_
      refine g_aload_n (pc := 56) 1 dX4_invite_56 rfl rfl ?_
      refine g_getR (pc := 57) fl_X4_15 dX4_invite_57 g3 ?_
      refine g_iload_n (pc := 60) 2 dX4_invite_60 rfl rfl ?_
      obtain ⟨g4, hf⟩ := gs_some hf
      obtain ⟨b5, hf⟩ := gb_some hf
      refine g_iald (pc := 61) g4 b5 dX4_invite_61 ?_
      refine g_null (pc := 62) dX4_invite_62 ?_
      refine g_iconst (pc := 63) (v := (0 : Int32)) dX4_invite_63 (by decide) ?_
      obtain ⟨g6, hf⟩ := gs_some hf
      obtain ⟨q7, hcq7, hf⟩ := bd_some hf
      refine g_cVV (pc := 64) (k2 := k_X6_send) (av := [.int (3 : Int32), .int (16 : Int32), .int a3, .int (hI h (hR h a0 2) a1.toNatClampNeg), rf X 0, .int (0 : Int32)]) (q := q7) rfl dX4_invite_64 ck_X6_send m_581 m_582 m_583 (ci := 4) rfl (by decide) g6 (by decide) (by decide) rfl (by simp [rf_cat, rq_cat, ca_i, ca_l, ca_r]) (ct_X6_send l X hcq7) ?_
      refine g_aload_n (pc := 67) 1 dX4_invite_67 rfl rfl ?_
      obtain ⟨g8, hf⟩ := gs_some hf
      refine g_getR (pc := 68) fl_X4_30 dX4_invite_68 g8 ?_
      refine g_iload_n (pc := 71) 2 dX4_invite_71 rfl rfl ?_
      refine g_dup2 (pc := 72) dX4_invite_72 rfl (rf_cat X _) ?_
      obtain ⟨g9, hf⟩ := gs_some hf
      obtain ⟨b10, hf⟩ := gb_some hf
      refine g_iald (pc := 73) g9 b10 dX4_invite_73 ?_
      refine g_iconst (pc := 74) (v := (1 : Int32)) dX4_invite_74 (by decide) ?_
      refine g_iadd (pc := 75) dX4_invite_75 ?_
      obtain ⟨b11, hf⟩ := gb_some hf
      obtain ⟨h12, eh12, hf⟩ := lt_some hf
      refine g_iast (pc := 76) g9 b11 dX4_invite_76 eh12 ?_
      refine g_sub [1, 2, 3, 4] rfl ?_
      exact ok_X4_invite_L77 l X k2 hk2 h12 a0 a1 a2 a3 q hf
set_option maxRecDepth 100000 in
set_option maxHeartbeats 4000000 in
theorem ok_X4_invite_L31 (l : Launch) (X : Cx) (k2 : AH → Nat → Int32 → Int32 → Int32 → Option (AH)) (hk2 : ∀ (h : AH) (a0 : Nat) (a1 : Int32) (a2 : Int32) (a3 : Int32) (q : AH), k2 h a0 a1 a2 a3 = some q → Go l X k_X4_invite 2 [(0, rf X a0), (1, .int a1), (2, .int a2), (3, .int a3)] [] h (rV q)) (h : AH) (a0 : Nat) (a1 : Int32) (a2 : Int32) (a3 : Int32) (q : AH) (hf : f_X4_invite_L31 k2 h a0 a1 a2 a3 = some q) : Go l X k_X4_invite 31 [(0, rf X a0), (1, .int a1), (2, .int a2), (3, .int a3)] [] h (rV q) := by
  unfold f_X4_invite_L31 at hf
  refine g_iconst (pc := 31) (v := (1 : Int32)) dX4_invite_31 (by decide) ?_
  refine g_goto (pc := 32) (tgt := 36) dX4_invite_32 (by decide) ?_
  exact ok_X4_invite_L36 l X k2 hk2 h a0 a1 a2 a3 (1 : Int32) q hf
set_option maxRecDepth 100000 in
set_option maxHeartbeats 4000000 in
theorem ok_X4_invite_L2 (l : Launch) (X : Cx) : ∀ (n : Nat) (h : AH) (a0 : Nat) (a1 : Int32) (a2 : Int32) (a3 : Int32) (q : AH), f_X4_invite_L2 n h a0 a1 a2 a3 = some q → Go l X k_X4_invite 2 [(0, rf X a0), (1, .int a1), (2, .int a2), (3, .int a3)] [] h (rV q) := by
  intro n
  induction n with
  | zero =>
    intro h a0 a1 a2 a3 q hf
    unfold f_X4_invite_L2 at hf
    cases hf
  | succ n ih =>
    intro h a0 a1 a2 a3 q hf
    unfold f_X4_invite_L2 at hf
    refine g_iload_n (pc := 2) 3 dX4_invite_2 rfl rfl ?_
    refine g_bipush (pc := 3) (v := (16 : Int32)) dX4_invite_3 (by decide) ?_
    rcases it_some hf with ⟨c1, hf⟩ | ⟨c1, hf⟩
    · refine g_icge_t (pc := 5) (tgt := 83) dX4_invite_5 (by decide) c1 ?_
      obtain rfl := Option.some.inj hf
      exact g_vret (pc := 83) rfl dX4_invite_83
    · refine g_icge_f (pc := 5) (tgt := 83) dX4_invite_5 (by decide) c1 ?_
      refine g_aload_n (pc := 8) 0 dX4_invite_8 rfl rfl ?_
      obtain ⟨g2, hf⟩ := gs_some hf
      refine g_getR (pc := 9) fl_X4_18 dX4_invite_9 g2 ?_
      refine g_iload_n (pc := 12) 1 dX4_invite_12 rfl rfl ?_
      obtain ⟨g3, hf⟩ := gs_some hf
      obtain ⟨b4, hf⟩ := gb_some hf
      refine g_iald (pc := 13) g3 b4 dX4_invite_13 ?_
      refine g_iload_n (pc := 14) 3 dX4_invite_14 rfl rfl ?_
      rcases it_some hf with ⟨c5, hf⟩ | ⟨c5, hf⟩
      · refine g_iceq_t (pc := 15) (tgt := 31) dX4_invite_15 (by decide) c5 ?_
        exact ok_X4_invite_L31 l X (f_X4_invite_L2 n) ih h a0 a1 a2 a3 q hf
      · refine g_iceq_f (pc := 15) (tgt := 31) dX4_invite_15 (by decide) c5 ?_
        refine g_aload_n (pc := 18) 0 dX4_invite_18 rfl rfl ?_
        refine g_getR (pc := 19) fl_X4_21 dX4_invite_19 g2 ?_
        refine g_iload_n (pc := 22) 1 dX4_invite_22 rfl rfl ?_
        obtain ⟨g6, hf⟩ := gs_some hf
        obtain ⟨b7, hf⟩ := gb_some hf
        refine g_iald (pc := 23) g6 b7 dX4_invite_23 ?_
        refine g_iload_n (pc := 24) 3 dX4_invite_24 rfl rfl ?_
        refine g_ishr (pc := 25) dX4_invite_25 ?_
        refine g_iconst (pc := 26) (v := (1 : Int32)) dX4_invite_26 (by decide) ?_
        refine g_iand (pc := 27) dX4_invite_27 ?_
        rcases it_some hf with ⟨c8, hf⟩ | ⟨c8, hf⟩
        · refine g_ifeq_t (pc := 28) (tgt := 35) dX4_invite_28 (by decide) c8 ?_
          refine g_iconst (pc := 35) (v := (0 : Int32)) dX4_invite_35 (by decide) ?_
          exact ok_X4_invite_L36 l X (f_X4_invite_L2 n) ih h a0 a1 a2 a3 (0 : Int32) q hf
        · refine g_ifeq_f (pc := 28) (tgt := 35) dX4_invite_28 (by decide) c8 ?_
          exact ok_X4_invite_L31 l X (f_X4_invite_L2 n) ih h a0 a1 a2 a3 q hf
set_option maxRecDepth 100000 in
set_option maxHeartbeats 4000000 in
theorem ok_X4_invite (l : Launch) (X : Cx) {h : AH} {a0 : Nat} {a1 : Int32} {a2 : Int32} {q : AH} (hf : f_X4_invite h a0 a1 a2 = some q) : Go l X k_X4_invite 0 [(0, rf X a0), (1, .int a1), (2, .int a2)] [] h (rV q) := by
  unfold f_X4_invite at hf
  refine g_iconst (pc := 0) (v := (0 : Int32)) dX4_invite_0 (by decide) ?_
  obtain ⟨x1, ex1, hf⟩ := lt_some hf
  refine g_istore_n (pc := 1) (L' := [(3, .int x1), (0, rf X a0), (1, .int a1), (2, .int a2)]) dX4_invite_1 rfl (by decide) ex1 rfl ?_
  refine g_sub [1, 2, 3, 0] rfl ?_
  exact ok_X4_invite_L2 l X FU h a0 a1 a2 x1 q hf
theorem ct_X4_invite (l : Launch) (X : Cx) {h : AH} {a0 : Nat} {a1 : Int32} {a2 : Int32} {q : AH} (hf : f_X4_invite h a0 a1 a2 = some q) : Ct l X k_X4_invite [rf X a0, .int a1, .int a2] h (rV q) := ct_of ck_X4_invite (by simp [lg_sl, rf_cat, rq_cat, ca_i, ca_l, ca_r]) (by simp [lv_args, rf_cat, rq_cat, ca_i, ca_l, ca_r]) (ok_X4_invite l X hf)
set_option maxRecDepth 100000 in
set_option maxHeartbeats 4000000 in
theorem ok_X4_makeRoom_L89 (l : Launch) (X : Cx) (h : AH) (a0 : Nat) (a1 : Int32) (a2 : Int32) (q : Int32 × AH) (hf : f_X4_makeRoom_L89 h a0 a1 a2 = some q) : Go l X k_X4_makeRoom 89 [(0, rf X a0), (1, .int a1), (2, .int a2)] [] h (rI q) := by
  unfold f_X4_makeRoom_L89 at hf
  refine g_aload_n (pc := 89) 0 dX4_makeRoom_89 rfl rfl ?_
  obtain ⟨g1, hf⟩ := gs_some hf
  refine g_getR (pc := 90) fl_X4_15 dX4_makeRoom_90 g1 ?_
  refine g_iload_n (pc := 93) 2 dX4_makeRoom_93 rfl rfl ?_
  refine g_iload_n (pc := 94) 1 dX4_makeRoom_94 rfl rfl ?_
  obtain ⟨g2, hf⟩ := gs_some hf
  obtain ⟨b3, hf⟩ := gb_some hf
  obtain ⟨h4, eh4, hf⟩ := lt_some hf
  refine g_iast (pc := 95) g2 b3 dX4_makeRoom_95 eh4 ?_
  refine g_aload_n (pc := 96) 0 dX4_makeRoom_96 rfl rfl ?_
  have g5 : hS h4 a0 = 4 := (hS_tI eh4 g1)
  refine g_getR (pc := 97) fl_X4_9 dX4_makeRoom_97 g5 ?_
  refine g_iload_n (pc := 100) 1 dX4_makeRoom_100 rfl rfl ?_
  refine g_iconst (pc := 101) (v := (4 : Int32)) dX4_makeRoom_101 (by decide) ?_
  refine g_imul (pc := 102) dX4_makeRoom_102 ?_
  refine g_aload_n (pc := 103) 0 dX4_makeRoom_103 rfl rfl ?_
  refine g_getR (pc := 104) fl_X4_40 dX4_makeRoom_104 g5 ?_
  refine g_iload_n (pc := 107) 2 dX4_makeRoom_107 rfl rfl ?_
  refine g_iconst (pc := 108) (v := (4 : Int32)) dX4_makeRoom_108 (by decide) ?_
  refine g_imul (pc := 109) dX4_makeRoom_109 ?_
  refine g_iconst (pc := 110) (v := (4 : Int32)) dX4_makeRoom_110 (by decide) ?_
  obtain ⟨g6, hf⟩ := gs_some hf
  obtain ⟨g7, hf⟩ := gs_some hf
  obtain ⟨b8, hf⟩ := gb_some hf
  obtain ⟨h9, eh9, hf⟩ := lt_some hf
  refine g_copy (pc := 111) acy_X4_86 g6 g7 b8 (by decide) (by decide) (by simp [rf_cat, rq_cat, ca_i, ca_l, ca_r]) dX4_makeRoom_111 eh9 ?_
  refine g_aload_n (pc := 114) 0 dX4_makeRoom_114 rfl rfl ?_
  have g10 : hS h9 a0 = 4 := (hS_tA eh9 g5)
  refine g_getR (pc := 115) fl_X4_33 dX4_makeRoom_115 g10 ?_
  refine g_iload_n (pc := 118) 2 dX4_makeRoom_118 rfl rfl ?_
  refine g_iconst (pc := 119) (v := (0 : Int32)) dX4_makeRoom_119 (by decide) ?_
  obtain ⟨g11, hf⟩ := gs_some hf
  obtain ⟨b12, hf⟩ := gb_some hf
  obtain ⟨h13, eh13, hf⟩ := lt_some hf
  refine g_zast (pc := 120) g11 b12 dX4_makeRoom_120 eh13 ?_
  refine g_aload_n (pc := 121) 0 dX4_makeRoom_121 rfl rfl ?_
  have g14 : hS h13 a0 = 4 := (hS_tI eh13 g10)
  refine g_getR (pc := 122) fl_X4_18 dX4_makeRoom_122 g14 ?_
  refine g_iload_n (pc := 125) 2 dX4_makeRoom_125 rfl rfl ?_
  refine g_iconst (pc := 126) (v := (-1 : Int32)) dX4_makeRoom_126 (by decide) ?_
  obtain ⟨g15, hf⟩ := gs_some hf
  obtain ⟨b16, hf⟩ := gb_some hf
  obtain ⟨h17, eh17, hf⟩ := lt_some hf
  refine g_iast (pc := 127) g15 b16 dX4_makeRoom_127 eh17 ?_
  refine g_aload_n (pc := 128) 0 dX4_makeRoom_128 rfl rfl ?_
  have g18 : hS h17 a0 = 4 := (hS_tI eh17 g14)
  refine g_getR (pc := 129) fl_X4_21 dX4_makeRoom_129 g18 ?_
  refine g_iload_n (pc := 132) 2 dX4_makeRoom_132 rfl rfl ?_
  refine g_iconst (pc := 133) (v := (0 : Int32)) dX4_makeRoom_133 (by decide) ?_
  obtain ⟨g19, hf⟩ := gs_some hf
  obtain ⟨b20, hf⟩ := gb_some hf
  obtain ⟨h21, eh21, hf⟩ := lt_some hf
  refine g_iast (pc := 134) g19 b20 dX4_makeRoom_134 eh21 ?_
  refine g_iload_n (pc := 135) 2 dX4_makeRoom_135 rfl rfl ?_
  obtain rfl := Option.some.inj hf
  exact g_iret (pc := 136) rfl dX4_makeRoom_136
set_option maxRecDepth 100000 in
set_option maxHeartbeats 4000000 in
theorem ok_X4_makeRoom_L74 (l : Launch) (X : Cx) (h : AH) (a0 : Nat) (a1 : Int32) (a2 : Int32) (q : Int32 × AH) (hf : f_X4_makeRoom_L74 h a0 a1 a2 = some q) : Go l X k_X4_makeRoom 74 [(0, rf X a0), (1, .int a1), (2, .int a2)] [] h (rI q) := by
  unfold f_X4_makeRoom_L74 at hf
  refine g_aload_n (pc := 74) 0 dX4_makeRoom_74 rfl rfl ?_
  obtain ⟨g1, hf⟩ := gs_some hf
  refine g_getR (pc := 75) fl_X4_15 dX4_makeRoom_75 g1 ?_
  refine g_iload_n (pc := 78) 2 dX4_makeRoom_78 rfl rfl ?_
  obtain ⟨g2, hf⟩ := gs_some hf
  obtain ⟨b3, hf⟩ := gb_some hf
  refine g_iald (pc := 79) g2 b3 dX4_makeRoom_79 ?_
  refine g_iconst (pc := 80) (v := (-1 : Int32)) dX4_makeRoom_80 (by decide) ?_
  rcases it_some hf with ⟨c4, hf⟩ | ⟨c4, hf⟩
  · refine g_iceq_t (pc := 81) (tgt := 89) dX4_makeRoom_81 (by decide) c4 ?_
    exact ok_X4_makeRoom_L89 l X h a0 a1 a2 q hf
  · refine g_iceq_f (pc := 81) (tgt := 89) dX4_makeRoom_81 (by decide) c4 ?_
    refine g_aload_n (pc := 84) 0 dX4_makeRoom_84 rfl rfl ?_
    refine g_iload_n (pc := 85) 2 dX4_makeRoom_85 rfl rfl ?_
    obtain ⟨q5, hcq5, hf⟩ := bd_some hf
    refine g_cVV (pc := 86) (k2 := k_X4_writeBack) (av := [.int a2]) (q := q5) rfl dX4_makeRoom_86 ck_X4_writeBack m_573 m_575 m_4 (ci := 3) rfl (by decide) g1 (by decide) (by decide) rfl (by simp [rf_cat, rq_cat, ca_i, ca_l, ca_r]) (ct_X4_writeBack l X hcq5) ?_
    exact ok_X4_makeRoom_L89 l X q5 a0 a1 a2 q hf
set_option maxRecDepth 100000 in
set_option maxHeartbeats 4000000 in
theorem ok_X4_makeRoom_L41 (l : Launch) (X : Cx) (h : AH) (a0 : Nat) (a2 : Int32) (q : Int32 × AH) (hf : f_X4_makeRoom_L41 h a0 a2 = some q) : Go l X k_X4_makeRoom 41 [(0, rf X a0), (2, .int a2)] [] h (rI q) := by
  unfold f_X4_makeRoom_L41 at hf
  refine g_aload_n (pc := 41) 0 dX4_makeRoom_41 rfl rfl ?_
  obtain ⟨g1, hf⟩ := gs_some hf
  refine g_getR (pc := 42) fl_X4_24 dX4_makeRoom_42 g1 ?_
  refine g_iload_n (pc := 45) 1 dX4_makeRoom_45 rfl rfl ?_
  refine g_bipush (pc := 46) (v := (16 : Int32)) dX4_makeRoom_46 (by decide) ?_
  obtain ⟨g2, hf⟩ := gs_some hf
  obtain ⟨b3, hf⟩ := gb_some hf
  obtain ⟨h4, eh4, hf⟩ := lt_some hf
  refine g_iast (pc := 48) g2 b3 dX4_makeRoom_48 eh4 ?_
  refine g_aload_n (pc := 49) 0 dX4_makeRoom_49 rfl rfl ?_
  have g5 : hS h4 a0 = 4 := (hS_tI eh4 g1)
  refine g_getR (pc := 50) fl_X4_30 dX4_makeRoom_50 g5 ?_
  refine g_iload_n (pc := 53) 1 dX4_makeRoom_53 rfl rfl ?_
  refine g_iconst (pc := 54) (v := (0 : Int32)) dX4_makeRoom_54 (by decide) ?_
  obtain ⟨g6, hf⟩ := gs_some hf
  obtain ⟨b7, hf⟩ := gb_some hf
  obtain ⟨h8, eh8, hf⟩ := lt_some hf
  refine g_iast (pc := 55) g6 b7 dX4_makeRoom_55 eh8 ?_
  refine g_aload_n (pc := 56) 0 dX4_makeRoom_56 rfl rfl ?_
  refine g_dup (pc := 57) dX4_makeRoom_57 (rf_cat X _) ?_
  have g9 : hS h8 a0 = 4 := (hS_tI eh8 g5)
  refine g_getI (pc := 58) fl_X4_75 dX4_makeRoom_58 g9 ?_
  refine g_iconst (pc := 61) (v := (1 : Int32)) dX4_makeRoom_61 (by decide) ?_
  refine g_iadd (pc := 62) dX4_makeRoom_62 ?_
  obtain ⟨h10, eh10, hf⟩ := lt_some hf
  refine g_putI (pc := 63) fl_X4_75 dX4_makeRoom_63 g9 eh10 ?_
  refine g_aload_n (pc := 66) 0 dX4_makeRoom_66 rfl rfl ?_
  refine g_iload_n (pc := 67) 1 dX4_makeRoom_67 rfl rfl ?_
  refine g_iconst (pc := 68) (v := (-1 : Int32)) dX4_makeRoom_68 (by decide) ?_
  have g11 : hS h10 a0 = 4 := (hS_tI eh10 g9)
  obtain ⟨q12, hcq12, hf⟩ := bd_some hf
  refine g_cVV (pc := 69) (k2 := k_X4_invite) (av := [.int a2, .int (-1 : Int32)]) (q := q12) rfl dX4_makeRoom_69 ck_X4_invite m_627 m_629 m_13 (ci := 3) rfl (by decide) g11 (by decide) (by decide) rfl (by simp [rf_cat, rq_cat, ca_i, ca_l, ca_r]) (ct_X4_invite l X hcq12) ?_
  refine g_iconst (pc := 72) (v := (-1 : Int32)) dX4_makeRoom_72 (by decide) ?_
  obtain rfl := Option.some.inj hf
  exact g_iret (pc := 73) rfl dX4_makeRoom_73
set_option maxRecDepth 100000 in
set_option maxHeartbeats 4000000 in
theorem ok_X4_makeRoom (l : Launch) (X : Cx) {h : AH} {a0 : Nat} {a1 : Int32} {q : Int32 × AH} (hf : f_X4_makeRoom h a0 a1 = some q) : Go l X k_X4_makeRoom 0 [(0, rf X a0), (1, .int a1)] [] h (rI q) := by
  unfold f_X4_makeRoom at hf
  refine g_aload_n (pc := 0) 0 dX4_makeRoom_0 rfl rfl ?_
  refine g_iload_n (pc := 1) 1 dX4_makeRoom_1 rfl rfl ?_
  obtain ⟨g1, hf⟩ := gs_some hf
  obtain ⟨v2, hcv2, hf⟩ := bd_some hf
  refine g_cVI (pc := 2) (k2 := k_X4_wayToFree) (av := [.int a1]) (q := (v2, h)) rfl dX4_makeRoom_2 ck_X4_wayToFree m_623 m_625 m_12 (ci := 3) rfl (by decide) g1 (by decide) (by decide) rfl (by simp [rf_cat, rq_cat, ca_i, ca_l, ca_r]) (ct_X4_wayToFree l X hcv2) ?_
  refine g_istore_n (pc := 5) (L' := [(2, .int v2), (0, rf X a0), (1, .int a1)]) dX4_makeRoom_5 rfl (by decide) rfl rfl ?_
  refine g_iload_n (pc := 6) 0 dX4_makeRoom_6 rfl rfl ?_
  rcases it_some hf with ⟨c3, hf⟩ | ⟨c3, hf⟩
  · refine g_ifge_t (pc := 7) (tgt := 12) dX4_makeRoom_7 (by decide) c3 ?_
    refine g_aload_n (pc := 12) 1 dX4_makeRoom_12 rfl rfl ?_
    refine g_getR (pc := 13) fl_X4_15 dX4_makeRoom_13 g1 ?_
    refine g_iload_n (pc := 16) 0 dX4_makeRoom_16 rfl rfl ?_
    obtain ⟨g4, hf⟩ := gs_some hf
    obtain ⟨b5, hf⟩ := gb_some hf
    refine g_iald (pc := 17) g4 b5 dX4_makeRoom_17 ?_
    refine g_iconst (pc := 18) (v := (-1 : Int32)) dX4_makeRoom_18 (by decide) ?_
    rcases it_some hf with ⟨c6, hf⟩ | ⟨c6, hf⟩
    · refine g_iceq_t (pc := 19) (tgt := 74) dX4_makeRoom_19 (by decide) c6 ?_
      refine g_sub [1, 2, 0] rfl ?_
      exact ok_X4_makeRoom_L74 l X h a0 a1 v2 q hf
    · refine g_iceq_f (pc := 19) (tgt := 74) dX4_makeRoom_19 (by decide) c6 ?_
      refine g_aload_n (pc := 22) 1 dX4_makeRoom_22 rfl rfl ?_
      refine g_getR (pc := 23) fl_X4_18 dX4_makeRoom_23 g1 ?_
      refine g_iload_n (pc := 26) 0 dX4_makeRoom_26 rfl rfl ?_
      obtain ⟨g7, hf⟩ := gs_some hf
      obtain ⟨b8, hf⟩ := gb_some hf
      refine g_iald (pc := 27) g7 b8 dX4_makeRoom_27 ?_
      refine g_iconst (pc := 28) (v := (-1 : Int32)) dX4_makeRoom_28 (by decide) ?_
      rcases it_some hf with ⟨c9, hf⟩ | ⟨c9, hf⟩
      · refine g_icne_t (pc := 29) (tgt := 41) dX4_makeRoom_29 (by decide) c9 ?_
        refine g_sub [1, 0] rfl ?_
        exact ok_X4_makeRoom_L41 l X h a0 v2 q hf
      · refine g_icne_f (pc := 29) (tgt := 41) dX4_makeRoom_29 (by decide) (Decidable.of_not_not c9) ?_
        refine g_aload_n (pc := 32) 1 dX4_makeRoom_32 rfl rfl ?_
        refine g_getR (pc := 33) fl_X4_21 dX4_makeRoom_33 g1 ?_
        refine g_iload_n (pc := 36) 0 dX4_makeRoom_36 rfl rfl ?_
        obtain ⟨g10, hf⟩ := gs_some hf
        obtain ⟨b11, hf⟩ := gb_some hf
        refine g_iald (pc := 37) g10 b11 dX4_makeRoom_37 ?_
        rcases it_some hf with ⟨c12, hf⟩ | ⟨c12, hf⟩
        · refine g_ifeq_t (pc := 38) (tgt := 74) dX4_makeRoom_38 (by decide) c12 ?_
          refine g_sub [1, 2, 0] rfl ?_
          exact ok_X4_makeRoom_L74 l X h a0 a1 v2 q hf
        · refine g_ifeq_f (pc := 38) (tgt := 74) dX4_makeRoom_38 (by decide) c12 ?_
          refine g_sub [1, 0] rfl ?_
          exact ok_X4_makeRoom_L41 l X h a0 v2 q hf
  · refine g_ifge_f (pc := 7) (tgt := 12) dX4_makeRoom_7 (by decide) c3 ?_
    refine g_iconst (pc := 10) (v := (-1 : Int32)) dX4_makeRoom_10 (by decide) ?_
    obtain rfl := Option.some.inj hf
    exact g_iret (pc := 11) rfl dX4_makeRoom_11
theorem ct_X4_makeRoom (l : Launch) (X : Cx) {h : AH} {a0 : Nat} {a1 : Int32} {q : Int32 × AH} (hf : f_X4_makeRoom h a0 a1 = some q) : Ct l X k_X4_makeRoom [rf X a0, .int a1] h (rI q) := ct_of ck_X4_makeRoom (by simp [lg_sl, rf_cat, rq_cat, ca_i, ca_l, ca_r]) (by simp [lv_args, rf_cat, rq_cat, ca_i, ca_l, ca_r]) (ok_X4_makeRoom l X hf)
set_option maxRecDepth 100000 in
set_option maxHeartbeats 4000000 in
theorem ok_X4_lend (l : Launch) (X : Cx) {h : AH} {a0 : Nat} {a1 : Int32} {a2 : Int32} {q : AH} (hf : f_X4_lend h a0 a1 a2 = some q) : Go l X k_X4_lend 0 [(0, rf X a0), (1, .int a1), (2, .int a2)] [] h (rV q) := by
  unfold f_X4_lend at hf
  refine g_aload_n (pc := 0) 0 dX4_lend_0 rfl rfl ?_
  obtain ⟨g1, hf⟩ := gs_some hf
  refine g_getR (pc := 1) fl_X4_18 dX4_lend_1 g1 ?_
  refine g_iload_n (pc := 4) 1 dX4_lend_4 rfl rfl ?_
  obtain ⟨g2, hf⟩ := gs_some hf
  obtain ⟨b3, hf⟩ := gb_some hf
  refine g_iald (pc := 5) g2 b3 dX4_lend_5 ?_
  refine g_iconst (pc := 6) (v := (-1 : Int32)) dX4_lend_6 (by decide) ?_
  rcases it_some hf with ⟨c4, hf⟩ | ⟨c4, hf⟩
  · refine g_iceq_t (pc := 7) (tgt := 44) dX4_lend_7 (by decide) c4 ?_
    refine g_aload_n (pc := 44) 0 dX4_lend_44 rfl rfl ?_
    refine g_getR (pc := 45) fl_X4_21 dX4_lend_45 g1 ?_
    refine g_iload_n (pc := 48) 1 dX4_lend_48 rfl rfl ?_
    obtain ⟨g5, hf⟩ := gs_some hf
    obtain ⟨b6, hf⟩ := gb_some hf
    refine g_iald (pc := 49) g5 b6 dX4_lend_49 ?_
    rcases it_some hf with ⟨c7, hf⟩ | ⟨c7, hf⟩
    · refine g_ifne_t (pc := 50) (tgt := 88) dX4_lend_50 (by decide) c7 ?_
      refine g_aload_n (pc := 88) 0 dX4_lend_88 rfl rfl ?_
      refine g_iload_n (pc := 89) 1 dX4_lend_89 rfl rfl ?_
      refine g_iload_n (pc := 90) 2 dX4_lend_90 rfl rfl ?_
      obtain ⟨q8, hcq8, hf⟩ := bd_some hf
      refine g_cVV (pc := 91) (k2 := k_X4_giveShared) (av := [.int a1, .int a2]) (q := q8) rfl dX4_lend_91 ck_X4_giveShared m_577 m_579 m_5 (ci := 3) rfl (by decide) g1 (by decide) (by decide) rfl (by simp [rf_cat, rq_cat, ca_i, ca_l, ca_r]) (ct_X4_giveShared l X hcq8) ?_
      obtain rfl := Option.some.inj hf
      exact g_vret (pc := 94) rfl dX4_lend_94
    · refine g_ifne_f (pc := 50) (tgt := 88) dX4_lend_50 (by decide) (Decidable.of_not_not c7) ?_
      refine g_aload_n (pc := 53) 0 dX4_lend_53 rfl rfl ?_
      refine g_getR (pc := 54) fl_X4_18 dX4_lend_54 g1 ?_
      refine g_iload_n (pc := 57) 1 dX4_lend_57 rfl rfl ?_
      refine g_iload_n (pc := 58) 2 dX4_lend_58 rfl rfl ?_
      obtain ⟨b9, hf⟩ := gb_some hf
      obtain ⟨h10, eh10, hf⟩ := lt_some hf
      refine g_iast (pc := 59) g2 b9 dX4_lend_59 eh10 ?_
      refine g_aload_n (pc := 60) 0 dX4_lend_60 rfl rfl ?_
      have g11 : hS h10 a0 = 4 := (hS_tI eh10 g1)
      refine g_getR (pc := 61) fl_X4_48 dX4_lend_61 g11 ?_
      refine g_bipush (pc := 64) (v := (7 : Int32)) dX4_lend_64 (by decide) ?_
      refine g_bipush (pc := 66) (v := (16 : Int32)) dX4_lend_66 (by decide) ?_
      refine g_iload_n (pc := 68) 2 dX4_lend_68 rfl rfl ?_
      refine g_aload_n (pc := 69) 0 dX4_lend_69 rfl rfl ?_
      refine g_getR (pc := 70) fl_X4_15 dX4_lend_70 g11 ?_
      refine g_iload_n (pc := 73) 1 dX4_lend_73 rfl rfl ?_
      obtain ⟨g12, hf⟩ := gs_some hf
      obtain ⟨b13, hf⟩ := gb_some hf
      refine g_iald (pc := 74) g12 b13 dX4_lend_74 ?_
      refine g_aload_n (pc := 75) 0 dX4_lend_75 rfl rfl ?_
      refine g_getR (pc := 76) fl_X4_40 dX4_lend_76 g11 ?_
      refine g_iload_n (pc := 79) 1 dX4_lend_79 rfl rfl ?_
      refine g_iconst (pc := 80) (v := (4 : Int32)) dX4_lend_80 (by decide) ?_
      refine g_imul (pc := 81) dX4_lend_81 ?_
      obtain ⟨g14, hf⟩ := gs_some hf
      obtain ⟨q15, hcq15, hf⟩ := bd_some hf
      refine g_cVV (pc := 82) (k2 := k_X6_send) (av := [.int (7 : Int32), .int (16 : Int32), .int a2, .int (hI h10 (hR h10 a0 2) a1.toNatClampNeg), rf X (hR h10 a0 10), .int (a1 * (4 : Int32))]) (q := q15) rfl dX4_lend_82 ck_X6_send m_581 m_582 m_583 (ci := 4) rfl (by decide) g14 (by decide) (by decide) rfl (by simp [rf_cat, rq_cat, ca_i, ca_l, ca_r]) (ct_X6_send l X hcq15) ?_
      refine g_goto (pc := 85) (tgt := 94) dX4_lend_85 (by decide) ?_
      obtain rfl := Option.some.inj hf
      exact g_vret (pc := 94) rfl dX4_lend_94
  · refine g_iceq_f (pc := 7) (tgt := 44) dX4_lend_7 (by decide) c4 ?_
    refine g_aload_n (pc := 10) 0 dX4_lend_10 rfl rfl ?_
    refine g_getR (pc := 11) fl_X4_48 dX4_lend_11 g1 ?_
    refine g_iconst (pc := 14) (v := (4 : Int32)) dX4_lend_14 (by decide) ?_
    refine g_bipush (pc := 15) (v := (16 : Int32)) dX4_lend_15 (by decide) ?_
    refine g_aload_n (pc := 17) 0 dX4_lend_17 rfl rfl ?_
    refine g_getR (pc := 18) fl_X4_18 dX4_lend_18 g1 ?_
    refine g_iload_n (pc := 21) 1 dX4_lend_21 rfl rfl ?_
    obtain ⟨b16, hf⟩ := gb_some hf
    refine g_iald (pc := 22) g2 b16 dX4_lend_22 ?_
    refine g_aload_n (pc := 23) 0 dX4_lend_23 rfl rfl ?_
    refine g_getR (pc := 24) fl_X4_15 dX4_lend_24 g1 ?_
    refine g_iload_n (pc := 27) 1 dX4_lend_27 rfl rfl ?_
    obtain ⟨g17, hf⟩ := gs_some hf
    obtain ⟨b18, hf⟩ := gb_some hf
    refine g_iald (pc := 28) g17 b18 dX4_lend_28 ?_
    refine g_null (pc := 29) dX4_lend_29 ?_
    refine g_iconst (pc := 30) (v := (0 : Int32)) dX4_lend_30 (by decide) ?_
    obtain ⟨g19, hf⟩ := gs_some hf
    obtain ⟨q20, hcq20, hf⟩ := bd_some hf
    refine g_cVV (pc := 31) (k2 := k_X6_send) (av := [.int (4 : Int32), .int (16 : Int32), .int (hI h (hR h a0 3) a1.toNatClampNeg), .int (hI h (hR h a0 2) a1.toNatClampNeg), rf X 0, .int (0 : Int32)]) (q := q20) rfl dX4_lend_31 ck_X6_send m_581 m_582 m_583 (ci := 4) rfl (by decide) g19 (by decide) (by decide) rfl (by simp [rf_cat, rq_cat, ca_i, ca_l, ca_r]) (ct_X6_send l X hcq20) ?_
    refine g_aload_n (pc := 34) 0 dX4_lend_34 rfl rfl ?_
    obtain ⟨g21, hf⟩ := gs_some hf
    refine g_getR (pc := 35) fl_X4_30 dX4_lend_35 g21 ?_
    refine g_iload_n (pc := 38) 1 dX4_lend_38 rfl rfl ?_
    refine g_iconst (pc := 39) (v := (1 : Int32)) dX4_lend_39 (by decide) ?_
    obtain ⟨g22, hf⟩ := gs_some hf
    obtain ⟨b23, hf⟩ := gb_some hf
    obtain ⟨h24, eh24, hf⟩ := lt_some hf
    refine g_iast (pc := 40) g22 b23 dX4_lend_40 eh24 ?_
    refine g_goto (pc := 41) (tgt := 94) dX4_lend_41 (by decide) ?_
    obtain rfl := Option.some.inj hf
    exact g_vret (pc := 94) rfl dX4_lend_94
theorem ct_X4_lend (l : Launch) (X : Cx) {h : AH} {a0 : Nat} {a1 : Int32} {a2 : Int32} {q : AH} (hf : f_X4_lend h a0 a1 a2 = some q) : Ct l X k_X4_lend [rf X a0, .int a1, .int a2] h (rV q) := ct_of ck_X4_lend (by simp [lg_sl, rf_cat, rq_cat, ca_i, ca_l, ca_r]) (by simp [lv_args, rf_cat, rq_cat, ca_i, ca_l, ca_r]) (ok_X4_lend l X hf)
set_option maxRecDepth 100000 in
set_option maxHeartbeats 4000000 in
theorem ok_X4_take_L76 (l : Launch) (X : Cx) (h : AH) (a0 : Nat) (a1 : Int32) (a3 : Int32) (a4 : Int32) (q : Int32 × AH) (hf : f_X4_take_L76 h a0 a1 a3 a4 = some q) : Go l X k_X4_take 76 [(0, rf X a0), (1, .int a1), (3, .int a3), (4, .int a4)] [] h (rI q) := by
  unfold f_X4_take_L76 at hf
  refine g_iload (pc := 76) 3 dX4_take_76 rfl ?_
  rcases it_some hf with ⟨c1, hf⟩ | ⟨c1, hf⟩
  · refine g_ifge_t (pc := 78) (tgt := 83) dX4_take_78 (by decide) c1 ?_
    refine g_aload_n (pc := 83) 0 dX4_take_83 rfl rfl ?_
    refine g_dup (pc := 84) dX4_take_84 (rf_cat X _) ?_
    obtain ⟨g2, hf⟩ := gs_some hf
    refine g_getI (pc := 85) fl_X4_72 dX4_take_85 g2 ?_
    refine g_iconst (pc := 88) (v := (1 : Int32)) dX4_take_88 (by decide) ?_
    refine g_iadd (pc := 89) dX4_take_89 ?_
    obtain ⟨h3, eh3, hf⟩ := lt_some hf
    refine g_putI (pc := 90) fl_X4_72 dX4_take_90 g2 eh3 ?_
    refine g_aload_n (pc := 93) 0 dX4_take_93 rfl rfl ?_
    have g4 : hS h3 a0 = 4 := (hS_tI eh3 g2)
    refine g_getR (pc := 94) fl_X4_37 dX4_take_94 g4 ?_
    refine g_iload (pc := 97) 3 dX4_take_97 rfl ?_
    refine g_aload_n (pc := 99) 0 dX4_take_99 rfl rfl ?_
    refine g_getI (pc := 100) fl_X4_72 dX4_take_100 g4 ?_
    obtain ⟨g5, hf⟩ := gs_some hf
    obtain ⟨b6, hf⟩ := gb_some hf
    obtain ⟨h7, eh7, hf⟩ := lt_some hf
    refine g_iast (pc := 103) g5 b6 dX4_take_103 eh7 ?_
    refine g_aload_n (pc := 104) 0 dX4_take_104 rfl rfl ?_
    have g8 : hS h7 a0 = 4 := (hS_tI eh7 g4)
    refine g_getR (pc := 105) fl_X4_24 dX4_take_105 g8 ?_
    refine g_iload (pc := 108) 3 dX4_take_108 rfl ?_
    refine g_iload_n (pc := 110) 2 dX4_take_110 rfl rfl ?_
    obtain ⟨g9, hf⟩ := gs_some hf
    obtain ⟨b10, hf⟩ := gb_some hf
    obtain ⟨h11, eh11, hf⟩ := lt_some hf
    refine g_iast (pc := 111) g9 b10 dX4_take_111 eh11 ?_
    refine g_aload_n (pc := 112) 0 dX4_take_112 rfl rfl ?_
    have g12 : hS h11 a0 = 4 := (hS_tI eh11 g8)
    refine g_getR (pc := 113) fl_X4_27 dX4_take_113 g12 ?_
    refine g_iload (pc := 116) 3 dX4_take_116 rfl ?_
    refine g_aload_n (pc := 118) 0 dX4_take_118 rfl rfl ?_
    refine g_getR (pc := 119) fl_X4_45 dX4_take_119 g12 ?_
    refine g_iload_n (pc := 122) 1 dX4_take_122 rfl rfl ?_
    refine g_iconst (pc := 123) (v := (0 : Int32)) dX4_take_123 (by decide) ?_
    refine g_iadd (pc := 124) dX4_take_124 ?_
    obtain ⟨g13, hf⟩ := gs_some hf
    obtain ⟨b14, hf⟩ := gb_some hf
    refine g_iald (pc := 125) g13 b14 dX4_take_125 ?_
    obtain ⟨g15, hf⟩ := gs_some hf
    obtain ⟨b16, hf⟩ := gb_some hf
    obtain ⟨h17, eh17, hf⟩ := lt_some hf
    refine g_iast (pc := 126) g15 b16 dX4_take_126 eh17 ?_
    refine g_aload_n (pc := 127) 0 dX4_take_127 rfl rfl ?_
    have g18 : hS h17 a0 = 4 := (hS_tI eh17 g12)
    refine g_getR (pc := 128) fl_X4_30 dX4_take_128 g18 ?_
    refine g_iload (pc := 131) 3 dX4_take_131 rfl ?_
    refine g_iconst (pc := 133) (v := (0 : Int32)) dX4_take_133 (by decide) ?_
    obtain ⟨g19, hf⟩ := gs_some hf
    obtain ⟨b20, hf⟩ := gb_some hf
    obtain ⟨h21, eh21, hf⟩ := lt_some hf
    refine g_iast (pc := 134) g19 b20 dX4_take_134 eh21 ?_
    refine g_aload_n (pc := 135) 0 dX4_take_135 rfl rfl ?_
    have g22 : hS h21 a0 = 4 := (hS_tI eh21 g18)
    refine g_getR (pc := 136) fl_X4_27 dX4_take_136 g22 ?_
    refine g_iload (pc := 139) 3 dX4_take_139 rfl ?_
    obtain ⟨g23, hf⟩ := gs_some hf
    obtain ⟨b24, hf⟩ := gb_some hf
    refine g_iald (pc := 141) g23 b24 dX4_take_141 ?_
    rcases it_some hf with ⟨c25, hf⟩ | ⟨c25, hf⟩
    · refine g_ifne_t (pc := 142) (tgt := 155) dX4_take_142 (by decide) c25 ?_
      refine g_aload_n (pc := 155) 0 dX4_take_155 rfl rfl ?_
      refine g_iload (pc := 156) 3 dX4_take_156 rfl ?_
      refine g_iload_n (pc := 158) 2 dX4_take_158 rfl rfl ?_
      obtain ⟨q26, hcq26, hf⟩ := bd_some hf
      refine g_cVV (pc := 159) (k2 := k_X4_invite) (av := [.int a4, .int a3]) (q := q26) rfl dX4_take_159 ck_X4_invite m_627 m_629 m_13 (ci := 3) rfl (by decide) g22 (by decide) (by decide) rfl (by simp [rf_cat, rq_cat, ca_i, ca_l, ca_r]) (ct_X4_invite l X hcq26) ?_
      refine g_aload_n (pc := 162) 0 dX4_take_162 rfl rfl ?_
      obtain ⟨g27, hf⟩ := gs_some hf
      refine g_getR (pc := 163) fl_X4_30 dX4_take_163 g27 ?_
      refine g_iload (pc := 166) 3 dX4_take_166 rfl ?_
      obtain ⟨g28, hf⟩ := gs_some hf
      obtain ⟨b29, hf⟩ := gb_some hf
      refine g_iald (pc := 168) g28 b29 dX4_take_168 ?_
      rcases it_some hf with ⟨c30, hf⟩ | ⟨c30, hf⟩
      · refine g_ifne_t (pc := 169) (tgt := 179) dX4_take_169 (by decide) c30 ?_
        refine g_iconst (pc := 179) (v := (1 : Int32)) dX4_take_179 (by decide) ?_
        obtain rfl := Option.some.inj hf
        exact g_zret (pc := 180) rfl rfl dX4_take_180
      · refine g_ifne_f (pc := 169) (tgt := 179) dX4_take_169 (by decide) (Decidable.of_not_not c30) ?_
        refine g_aload_n (pc := 172) 0 dX4_take_172 rfl rfl ?_
        refine g_iload (pc := 173) 3 dX4_take_173 rfl ?_
        refine g_iload_n (pc := 175) 2 dX4_take_175 rfl rfl ?_
        obtain ⟨q31, hcq31, hf⟩ := bd_some hf
        refine g_cVV (pc := 176) (k2 := k_X4_giveAlone) (av := [.int a4, .int a3]) (q := q31) rfl dX4_take_176 ck_X4_giveAlone m_599 m_601 m_6 (ci := 3) rfl (by decide) g27 (by decide) (by decide) rfl (by simp [rf_cat, rq_cat, ca_i, ca_l, ca_r]) (ct_X4_giveAlone l X hcq31) ?_
        refine g_iconst (pc := 179) (v := (1 : Int32)) dX4_take_179 (by decide) ?_
        obtain rfl := Option.some.inj hf
        exact g_zret (pc := 180) rfl rfl dX4_take_180
    · refine g_ifne_f (pc := 142) (tgt := 155) dX4_take_142 (by decide) (Decidable.of_not_not c25) ?_
      refine g_aload_n (pc := 145) 0 dX4_take_145 rfl rfl ?_
      refine g_iload (pc := 146) 3 dX4_take_146 rfl ?_
      refine g_iload_n (pc := 148) 2 dX4_take_148 rfl rfl ?_
      obtain ⟨q32, hcq32, hf⟩ := bd_some hf
      refine g_cVV (pc := 149) (k2 := k_X4_lend) (av := [.int a4, .int a3]) (q := q32) rfl dX4_take_149 ck_X4_lend m_631 m_633 m_14 (ci := 3) rfl (by decide) g22 (by decide) (by decide) rfl (by simp [rf_cat, rq_cat, ca_i, ca_l, ca_r]) (ct_X4_lend l X hcq32) ?_
      refine g_goto (pc := 152) (tgt := 179) dX4_take_152 (by decide) ?_
      refine g_iconst (pc := 179) (v := (1 : Int32)) dX4_take_179 (by decide) ?_
      obtain rfl := Option.some.inj hf
      exact g_zret (pc := 180) rfl rfl dX4_take_180
  · refine g_ifge_f (pc := 78) (tgt := 83) dX4_take_78 (by decide) c1 ?_
    refine g_iconst (pc := 81) (v := (0 : Int32)) dX4_take_81 (by decide) ?_
    obtain rfl := Option.some.inj hf
    exact g_zret (pc := 82) rfl rfl dX4_take_82
set_option maxRecDepth 100000 in
set_option maxHeartbeats 4000000 in
theorem ok_X4_take_L43 (l : Launch) (X : Cx) (h : AH) (a0 : Nat) (a1 : Int32) (a2 : Int32) (a3 : Int32) (a4 : Int32) (q : Int32 × AH) (hf : f_X4_take_L43 h a0 a1 a2 a3 a4 = some q) : Go l X k_X4_take 43 [(0, rf X a0), (1, .int a1), (2, .int a2), (3, .int a3), (4, .int a4)] [] h (rI q) := by
  unfold f_X4_take_L43 at hf
  refine g_aload_n (pc := 43) 0 dX4_take_43 rfl rfl ?_
  obtain ⟨g1, hf⟩ := gs_some hf
  refine g_getR (pc := 44) fl_X4_45 dX4_take_44 g1 ?_
  refine g_iload_n (pc := 47) 1 dX4_take_47 rfl rfl ?_
  refine g_iconst (pc := 48) (v := (0 : Int32)) dX4_take_48 (by decide) ?_
  refine g_iadd (pc := 49) dX4_take_49 ?_
  obtain ⟨g2, hf⟩ := gs_some hf
  obtain ⟨b3, hf⟩ := gb_some hf
  refine g_iald (pc := 50) g2 b3 dX4_take_50 ?_
  refine g_iconst (pc := 51) (v := (2 : Int32)) dX4_take_51 (by decide) ?_
  rcases it_some hf with ⟨c4, hf⟩ | ⟨c4, hf⟩
  · refine g_icne_t (pc := 52) (tgt := 64) dX4_take_52 (by decide) c4 ?_
    refine g_iload (pc := 64) 4 dX4_take_64 rfl ?_
    rcases it_some hf with ⟨c5, hf⟩ | ⟨c5, hf⟩
    · refine g_ifge_t (pc := 66) (tgt := 76) dX4_take_66 (by decide) c5 ?_
      refine g_sub [0, 1, 3, 4] rfl ?_
      exact ok_X4_take_L76 l X h a0 a1 a3 a4 q hf
    · refine g_ifge_f (pc := 66) (tgt := 76) dX4_take_66 (by decide) c5 ?_
      refine g_aload_n (pc := 69) 0 dX4_take_69 rfl rfl ?_
      refine g_iload_n (pc := 70) 2 dX4_take_70 rfl rfl ?_
      obtain ⟨q6, hcq6, hf⟩ := bd_some hf
      refine g_cVI (pc := 71) (k2 := k_X4_makeRoom) (av := [.int a2]) (q := q6) rfl dX4_take_71 ck_X4_makeRoom m_619 m_621 m_11 (ci := 3) rfl (by decide) g1 (by decide) (by decide) rfl (by simp [rf_cat, rq_cat, ca_i, ca_l, ca_r]) (ct_X4_makeRoom l X hcq6) ?_
      obtain ⟨x7, ex7, hf⟩ := lt_some hf
      refine g_istore (pc := 74) (L' := [(4, .int x7), (0, rf X a0), (1, .int a1), (2, .int a2), (3, .int a3)]) dX4_take_74 (by decide) ex7 rfl ?_
      refine g_sub [1, 2, 4, 0] rfl ?_
      exact ok_X4_take_L76 l X q6.2 a0 a1 a3 x7 q hf
  · refine g_icne_f (pc := 52) (tgt := 64) dX4_take_52 (by decide) (Decidable.of_not_not c4) ?_
    refine g_aload_n (pc := 55) 0 dX4_take_55 rfl rfl ?_
    refine g_iload (pc := 56) 4 dX4_take_56 rfl ?_
    refine g_iload_n (pc := 58) 1 dX4_take_58 rfl rfl ?_
    obtain ⟨q8, hcq8, hf⟩ := bd_some hf
    refine g_cVV (pc := 59) (k2 := k_X4_takeBack) (av := [.int a4, .int a1]) (q := q8) rfl dX4_take_59 ck_X4_takeBack m_615 m_617 m_10 (ci := 3) rfl (by decide) g1 (by decide) (by decide) rfl (by simp [rf_cat, rq_cat, ca_i, ca_l, ca_r]) (ct_X4_takeBack l X hcq8) ?_
    refine g_iconst (pc := 62) (v := (1 : Int32)) dX4_take_62 (by decide) ?_
    obtain rfl := Option.some.inj hf
    exact g_zret (pc := 63) rfl rfl dX4_take_63
set_option maxRecDepth 100000 in
set_option maxHeartbeats 4000000 in
theorem ok_X4_take (l : Launch) (X : Cx) {h : AH} {a0 : Nat} {a1 : Int32} {q : Int32 × AH} (hf : f_X4_take h a0 a1 = some q) : Go l X k_X4_take 0 [(0, rf X a0), (1, .int a1)] [] h (rI q) := by
  unfold f_X4_take at hf
  refine g_aload_n (pc := 0) 0 dX4_take_0 rfl rfl ?_
  obtain ⟨g1, hf⟩ := gs_some hf
  refine g_getR (pc := 1) fl_X4_45 dX4_take_1 g1 ?_
  refine g_iload_n (pc := 4) 1 dX4_take_4 rfl rfl ?_
  refine g_iconst (pc := 5) (v := (3 : Int32)) dX4_take_5 (by decide) ?_
  refine g_iadd (pc := 6) dX4_take_6 ?_
  obtain ⟨g2, hf⟩ := gs_some hf
  obtain ⟨b3, hf⟩ := gb_some hf
  refine g_iald (pc := 7) g2 b3 dX4_take_7 ?_
  obtain ⟨x4, ex4, hf⟩ := lt_some hf
  refine g_istore_n (pc := 8) (L' := [(2, .int x4), (0, rf X a0), (1, .int a1)]) dX4_take_8 rfl (by decide) ex4 rfl ?_
  refine g_aload_n (pc := 9) 1 dX4_take_9 rfl rfl ?_
  refine g_getR (pc := 10) fl_X4_45 dX4_take_10 g1 ?_
  refine g_iload_n (pc := 13) 2 dX4_take_13 rfl rfl ?_
  refine g_iconst (pc := 14) (v := (1 : Int32)) dX4_take_14 (by decide) ?_
  refine g_iadd (pc := 15) dX4_take_15 ?_
  obtain ⟨b5, hf⟩ := gb_some hf
  refine g_iald (pc := 16) g2 b5 dX4_take_16 ?_
  obtain ⟨x6, ex6, hf⟩ := lt_some hf
  refine g_istore_n (pc := 17) (L' := [(3, .int x6), (2, .int x4), (0, rf X a0), (1, .int a1)]) dX4_take_17 rfl (by decide) ex6 rfl ?_
  refine g_aload_n (pc := 18) 2 dX4_take_18 rfl rfl ?_
  refine g_iload_n (pc := 19) 1 dX4_take_19 rfl rfl ?_
  obtain ⟨v7, hcv7, hf⟩ := bd_some hf
  refine g_cVI (pc := 20) (k2 := k_X4_find) (av := [.int x4]) (q := (v7, h)) rfl dX4_take_20 ck_X4_find m_568 m_569 m_570 (ci := 3) rfl (by decide) g1 (by decide) (by decide) rfl (by simp [rf_cat, rq_cat, ca_i, ca_l, ca_r]) (ct_X4_find l X hcv7) ?_
  refine g_istore (pc := 23) (L' := [(4, .int v7), (3, .int x6), (2, .int x4), (0, rf X a0), (1, .int a1)]) dX4_take_23 (by decide) rfl rfl ?_
  refine g_iload (pc := 25) 0 dX4_take_25 rfl ?_
  rcases it_some hf with ⟨c8, hf⟩ | ⟨c8, hf⟩
  · refine g_iflt_t (pc := 27) (tgt := 43) dX4_take_27 (by decide) c8 ?_
    refine g_sub [3, 4, 2, 1, 0] rfl ?_
    exact ok_X4_take_L43 l X h a0 a1 x4 x6 v7 q hf
  · refine g_iflt_f (pc := 27) (tgt := 43) dX4_take_27 (by decide) c8 ?_
    refine g_aload_n (pc := 30) 3 dX4_take_30 rfl rfl ?_
    refine g_getR (pc := 31) fl_X4_24 dX4_take_31 g1 ?_
    refine g_iload (pc := 34) 0 dX4_take_34 rfl ?_
    obtain ⟨g9, hf⟩ := gs_some hf
    obtain ⟨b10, hf⟩ := gb_some hf
    refine g_iald (pc := 36) g9 b10 dX4_take_36 ?_
    refine g_iconst (pc := 37) (v := (-1 : Int32)) dX4_take_37 (by decide) ?_
    rcases it_some hf with ⟨c11, hf⟩ | ⟨c11, hf⟩
    · refine g_iceq_t (pc := 38) (tgt := 43) dX4_take_38 (by decide) c11 ?_
      refine g_sub [3, 4, 2, 1, 0] rfl ?_
      exact ok_X4_take_L43 l X h a0 a1 x4 x6 v7 q hf
    · refine g_iceq_f (pc := 38) (tgt := 43) dX4_take_38 (by decide) c11 ?_
      refine g_iconst (pc := 41) (v := (0 : Int32)) dX4_take_41 (by decide) ?_
      obtain rfl := Option.some.inj hf
      exact g_zret (pc := 42) rfl rfl dX4_take_42
theorem ct_X4_take (l : Launch) (X : Cx) {h : AH} {a0 : Nat} {a1 : Int32} {q : Int32 × AH} (hf : f_X4_take h a0 a1 = some q) : Ct l X k_X4_take [rf X a0, .int a1] h (rI q) := ct_of ck_X4_take (by simp [lg_sl, rf_cat, rq_cat, ca_i, ca_l, ca_r]) (by simp [lv_args, rf_cat, rq_cat, ca_i, ca_l, ca_r]) (ok_X4_take l X hf)
set_option maxRecDepth 100000 in
set_option maxHeartbeats 4000000 in
theorem ok_X4_leaveQueue (l : Launch) (X : Cx) {h : AH} {a0 : Nat} {a1 : Int32} {q : AH} (hf : f_X4_leaveQueue h a0 a1 = some q) : Go l X k_X4_leaveQueue 0 [(0, rf X a0), (1, .int a1)] [] h (rV q) := by
  unfold f_X4_leaveQueue at hf
  refine g_bipush (pc := 0) (v := (9 : Int32)) dX4_leaveQueue_0 (by decide) ?_
  obtain ⟨x1, ex1, hf⟩ := lt_some hf
  refine g_istore_n (pc := 2) (L' := [(2, .int x1), (0, rf X a0), (1, .int a1)]) dX4_leaveQueue_2 rfl (by decide) ex1 rfl ?_
  refine g_aload_n (pc := 3) 1 dX4_leaveQueue_3 rfl rfl ?_
  obtain ⟨g2, hf⟩ := gs_some hf
  refine g_getR (pc := 4) fl_X4_45 dX4_leaveQueue_4 g2 ?_
  refine g_iload_n (pc := 7) 2 dX4_leaveQueue_7 rfl rfl ?_
  refine g_iconst (pc := 8) (v := (1 : Int32)) dX4_leaveQueue_8 (by decide) ?_
  refine g_iadd (pc := 9) dX4_leaveQueue_9 ?_
  refine g_iload_n (pc := 10) 0 dX4_leaveQueue_10 rfl rfl ?_
  refine g_imul (pc := 11) dX4_leaveQueue_11 ?_
  refine g_aload_n (pc := 12) 1 dX4_leaveQueue_12 rfl rfl ?_
  refine g_getR (pc := 13) fl_X4_45 dX4_leaveQueue_13 g2 ?_
  refine g_iload_n (pc := 16) 2 dX4_leaveQueue_16 rfl rfl ?_
  refine g_iload_n (pc := 17) 0 dX4_leaveQueue_17 rfl rfl ?_
  refine g_imul (pc := 18) dX4_leaveQueue_18 ?_
  refine g_aload_n (pc := 19) 1 dX4_leaveQueue_19 rfl rfl ?_
  refine g_getI (pc := 20) fl_X4_69 dX4_leaveQueue_20 g2 ?_
  refine g_iload_n (pc := 23) 2 dX4_leaveQueue_23 rfl rfl ?_
  refine g_isub (pc := 24) dX4_leaveQueue_24 ?_
  refine g_iconst (pc := 25) (v := (1 : Int32)) dX4_leaveQueue_25 (by decide) ?_
  refine g_isub (pc := 26) dX4_leaveQueue_26 ?_
  refine g_iload_n (pc := 27) 0 dX4_leaveQueue_27 rfl rfl ?_
  refine g_imul (pc := 28) dX4_leaveQueue_28 ?_
  obtain ⟨g3, hf⟩ := gs_some hf
  obtain ⟨b4, hf⟩ := gb_some hf
  obtain ⟨h5, eh5, hf⟩ := lt_some hf
  refine g_copy (pc := 29) acy_X4_86 g3 g3 b4 (by decide) (by decide) (by simp [rf_cat, rq_cat, ca_i, ca_l, ca_r]) dX4_leaveQueue_29 eh5 ?_
  refine g_aload_n (pc := 32) 1 dX4_leaveQueue_32 rfl rfl ?_
  refine g_dup (pc := 33) dX4_leaveQueue_33 (rf_cat X _) ?_
  have g6 : hS h5 a0 = 4 := (hS_tA eh5 g2)
  refine g_getI (pc := 34) fl_X4_69 dX4_leaveQueue_34 g6 ?_
  refine g_iconst (pc := 37) (v := (1 : Int32)) dX4_leaveQueue_37 (by decide) ?_
  refine g_isub (pc := 38) dX4_leaveQueue_38 ?_
  obtain ⟨h7, eh7, hf⟩ := lt_some hf
  refine g_putI (pc := 39) fl_X4_69 dX4_leaveQueue_39 g6 eh7 ?_
  obtain rfl := Option.some.inj hf
  exact g_vret (pc := 42) rfl dX4_leaveQueue_42
theorem ct_X4_leaveQueue (l : Launch) (X : Cx) {h : AH} {a0 : Nat} {a1 : Int32} {q : AH} (hf : f_X4_leaveQueue h a0 a1 = some q) : Ct l X k_X4_leaveQueue [rf X a0, .int a1] h (rV q) := ct_of ck_X4_leaveQueue (by simp [lg_sl, rf_cat, rq_cat, ca_i, ca_l, ca_r]) (by simp [lv_args, rf_cat, rq_cat, ca_i, ca_l, ca_r]) (ok_X4_leaveQueue l X hf)
set_option maxRecDepth 100000 in
set_option maxHeartbeats 4000000 in
theorem ok_X4_receive_L140 (l : Launch) (X : Cx) (k81 : AH → Nat → Int32 → Int32 → Int32 → Option (AH)) (hk81 : ∀ (h : AH) (a0 : Nat) (a2 : Int32) (a4 : Int32) (a5 : Int32) (q : AH), k81 h a0 a2 a4 a5 = some q → Go l X k_X4_receive 81 [(0, rf X a0), (2, .int a2), (4, .int a4), (5, .int a5)] [] h (rV q)) (h : AH) (a0 : Nat) (a2 : Int32) (a4 : Int32) (a5 : Int32) (q : AH) (hf : f_X4_receive_L140 k81 h a0 a2 a4 a5 = some q) : Go l X k_X4_receive 140 [(0, rf X a0), (2, .int a2), (4, .int a4), (5, .int a5)] [] h (rV q) := by
  unfold f_X4_receive_L140 at hf
  obtain ⟨x1, ex1, hf⟩ := lt_some hf
  refine g_iinc (pc := 140) (y := x1) (L' := [(5, .int x1), (0, rf X a0), (2, .int a2), (4, .int a4)]) 3 dX4_receive_140 rfl (by decide) (ex1.trans rfl) rfl ?_
  refine g_goto (pc := 143) (tgt := 81) dX4_receive_143 (by decide) ?_
  refine g_sub [1, 2, 3, 0] rfl ?_
  exact hk81 h a0 a2 a4 x1 q hf
set_option maxRecDepth 100000 in
set_option maxHeartbeats 4000000 in
theorem ok_X4_receive_L127 (l : Launch) (X : Cx) (k81 : AH → Nat → Int32 → Int32 → Int32 → Option (AH)) (hk81 : ∀ (h : AH) (a0 : Nat) (a2 : Int32) (a4 : Int32) (a5 : Int32) (q : AH), k81 h a0 a2 a4 a5 = some q → Go l X k_X4_receive 81 [(0, rf X a0), (2, .int a2), (4, .int a4), (5, .int a5)] [] h (rV q)) (h : AH) (a0 : Nat) (a2 : Int32) (a5 : Int32) (a6 : Int32) (s0 : Int32) (q : AH) (hf : f_X4_receive_L127 k81 h a0 a2 a5 a6 s0 = some q) : Go l X k_X4_receive 127 [(0, rf X a0), (2, .int a2), (5, .int a5), (6, .int a6)] [.int s0] h (rV q) := by
  unfold f_X4_receive_L127 at hf
  refine g_istore (pc := 127) (L' := [(4, .int s0), (0, rf X a0), (2, .int a2), (5, .int a5), (6, .int a6)]) dX4_receive_127 (by decide) rfl rfl ?_
  refine g_iload (pc := 129) 0 dX4_receive_129 rfl ?_
  rcases it_some hf with ⟨c1, hf⟩ | ⟨c1, hf⟩
  · refine g_ifeq_t (pc := 131) (tgt := 140) dX4_receive_131 (by decide) c1 ?_
    refine g_sub [1, 2, 0, 3] rfl ?_
    exact ok_X4_receive_L140 l X k81 hk81 h a0 a2 s0 a5 q hf
  · refine g_ifeq_f (pc := 131) (tgt := 140) dX4_receive_131 (by decide) c1 ?_
    refine g_aload_n (pc := 134) 1 dX4_receive_134 rfl rfl ?_
    refine g_iload (pc := 135) 4 dX4_receive_135 rfl ?_
    obtain ⟨g2, hf⟩ := gs_some hf
    obtain ⟨q3, hcq3, hf⟩ := bd_some hf
    refine g_cVV (pc := 137) (k2 := k_X4_leaveQueue) (av := [.int a6]) (q := q3) rfl dX4_receive_137 ck_X4_leaveQueue m_635 m_637 m_15 (ci := 3) rfl (by decide) g2 (by decide) (by decide) rfl (by simp [rf_cat, rq_cat, ca_i, ca_l, ca_r]) (ct_X4_leaveQueue l X hcq3) ?_
    refine g_sub [1, 2, 0, 3] rfl ?_
    exact ok_X4_receive_L140 l X k81 hk81 q3 a0 a2 s0 a5 q hf
set_option maxRecDepth 100000 in
set_option maxHeartbeats 4000000 in
theorem ok_X4_receive_L126 (l : Launch) (X : Cx) (k81 : AH → Nat → Int32 → Int32 → Int32 → Option (AH)) (hk81 : ∀ (h : AH) (a0 : Nat) (a2 : Int32) (a4 : Int32) (a5 : Int32) (q : AH), k81 h a0 a2 a4 a5 = some q → Go l X k_X4_receive 81 [(0, rf X a0), (2, .int a2), (4, .int a4), (5, .int a5)] [] h (rV q)) (h : AH) (a0 : Nat) (a2 : Int32) (a5 : Int32) (a6 : Int32) (q : AH) (hf : f_X4_receive_L126 k81 h a0 a2 a5 a6 = some q) : Go l X k_X4_receive 126 [(0, rf X a0), (2, .int a2), (5, .int a5), (6, .int a6)] [] h (rV q) := by
  unfold f_X4_receive_L126 at hf
  refine g_iconst (pc := 126) (v := (0 : Int32)) dX4_receive_126 (by decide) ?_
  exact ok_X4_receive_L127 l X k81 hk81 h a0 a2 a5 a6 (0 : Int32) q hf
set_option maxRecDepth 100000 in
set_option maxHeartbeats 4000000 in
theorem ok_X4_receive_L81 (l : Launch) (X : Cx) : ∀ (n : Nat) (h : AH) (a0 : Nat) (a2 : Int32) (a4 : Int32) (a5 : Int32) (q : AH), f_X4_receive_L81 n h a0 a2 a4 a5 = some q → Go l X k_X4_receive 81 [(0, rf X a0), (2, .int a2), (4, .int a4), (5, .int a5)] [] h (rV q) := by
  intro n
  induction n with
  | zero =>
    intro h a0 a2 a4 a5 q hf
    unfold f_X4_receive_L81 at hf
    cases hf
  | succ n ih =>
    intro h a0 a2 a4 a5 q hf
    unfold f_X4_receive_L81 at hf
    refine g_iload (pc := 81) 2 dX4_receive_81 rfl ?_
    rcases it_some hf with ⟨c1, hf⟩ | ⟨c1, hf⟩
    · refine g_ifeq_t (pc := 83) (tgt := 146) dX4_receive_83 (by decide) c1 ?_
      obtain rfl := Option.some.inj hf
      exact g_vret (pc := 146) rfl dX4_receive_146
    · refine g_ifeq_f (pc := 83) (tgt := 146) dX4_receive_83 (by decide) c1 ?_
      refine g_iload (pc := 86) 3 dX4_receive_86 rfl ?_
      rcases it_some hf with ⟨c2, hf⟩ | ⟨c2, hf⟩
      · refine g_ifle_t (pc := 88) (tgt := 146) dX4_receive_88 (by decide) c2 ?_
        obtain rfl := Option.some.inj hf
        exact g_vret (pc := 146) rfl dX4_receive_146
      · refine g_ifle_f (pc := 88) (tgt := 146) dX4_receive_88 (by decide) c2 ?_
        refine g_aload_n (pc := 91) 0 dX4_receive_91 rfl rfl ?_
        refine g_iload_n (pc := 92) 1 dX4_receive_92 rfl rfl ?_
        refine g_aload_n (pc := 93) 0 dX4_receive_93 rfl rfl ?_
        obtain ⟨g3, hf⟩ := gs_some hf
        refine g_getI (pc := 94) fl_X4_56 dX4_receive_94 g3 ?_
        refine g_iconst (pc := 97) (v := (1 : Int32)) dX4_receive_97 (by decide) ?_
        refine g_isub (pc := 98) dX4_receive_98 ?_
        refine g_iand (pc := 99) dX4_receive_99 ?_
        obtain ⟨v4, hcv4, hf⟩ := bd_some hf
        refine g_cVI (pc := 100) (k2 := k_X4_firstAt) (av := [.int (a2 &&& ((hI h a0 13) - (1 : Int32)))]) (q := (v4, h)) rfl dX4_receive_100 ck_X4_firstAt m_607 m_609 m_8 (ci := 3) rfl (by decide) g3 (by decide) (by decide) rfl (by simp [rf_cat, rq_cat, ca_i, ca_l, ca_r]) (ct_X4_firstAt l X hcv4) ?_
        refine g_istore (pc := 103) (L' := [(6, .int v4), (0, rf X a0), (2, .int a2), (4, .int a4), (5, .int a5)]) dX4_receive_103 (by decide) rfl rfl ?_
        refine g_iload (pc := 105) 0 dX4_receive_105 rfl ?_
        rcases it_some hf with ⟨c5, hf⟩ | ⟨c5, hf⟩
        · refine g_iflt_t (pc := 107) (tgt := 126) dX4_receive_107 (by decide) c5 ?_
          refine g_sub [1, 2, 4, 0] rfl ?_
          exact ok_X4_receive_L126 l X (f_X4_receive_L81 n) ih h a0 a2 a5 v4 q hf
        · refine g_iflt_f (pc := 107) (tgt := 126) dX4_receive_107 (by decide) c5 ?_
          refine g_aload_n (pc := 110) 1 dX4_receive_110 rfl rfl ?_
          refine g_iload (pc := 111) 0 dX4_receive_111 rfl ?_
          refine g_bipush (pc := 113) (v := (9 : Int32)) dX4_receive_113 (by decide) ?_
          refine g_imul (pc := 115) dX4_receive_115 ?_
          obtain ⟨q6, hcq6, hf⟩ := bd_some hf
          refine g_cVI (pc := 116) (k2 := k_X4_take) (av := [.int (v4 * (9 : Int32))]) (q := q6) rfl dX4_receive_116 ck_X4_take m_611 m_613 m_9 (ci := 3) rfl (by decide) g3 (by decide) (by decide) rfl (by simp [rf_cat, rq_cat, ca_i, ca_l, ca_r]) (ct_X4_take l X hcq6) ?_
          rcases it_some hf with ⟨c7, hf⟩ | ⟨c7, hf⟩
          · refine g_ifeq_t (pc := 119) (tgt := 126) dX4_receive_119 (by decide) c7 ?_
            refine g_sub [1, 2, 4, 0] rfl ?_
            exact ok_X4_receive_L126 l X (f_X4_receive_L81 n) ih q6.2 a0 a2 a5 v4 q hf
          · refine g_ifeq_f (pc := 119) (tgt := 126) dX4_receive_119 (by decide) c7 ?_
            refine g_iconst (pc := 122) (v := (1 : Int32)) dX4_receive_122 (by decide) ?_
            refine g_goto (pc := 123) (tgt := 127) dX4_receive_123 (by decide) ?_
            refine g_sub [1, 2, 4, 0] rfl ?_
            exact ok_X4_receive_L127 l X (f_X4_receive_L81 n) ih q6.2 a0 a2 a5 v4 (1 : Int32) q hf
set_option maxRecDepth 100000 in
set_option maxHeartbeats 4000000 in
theorem ok_X4_receive_L77 (l : Launch) (X : Cx) (h : AH) (a0 : Nat) (a2 : Int32) (a4 : Int32) (q : AH) (hf : f_X4_receive_L77 h a0 a2 a4 = some q) : Go l X k_X4_receive 77 [(0, rf X a0), (2, .int a2), (4, .int a4)] [] h (rV q) := by
  unfold f_X4_receive_L77 at hf
  refine g_bipush (pc := 77) (v := (32 : Int32)) dX4_receive_77 (by decide) ?_
  obtain ⟨x1, ex1, hf⟩ := lt_some hf
  refine g_istore (pc := 79) (L' := [(5, .int x1), (0, rf X a0), (2, .int a2), (4, .int a4)]) dX4_receive_79 (by decide) ex1 rfl ?_
  refine g_sub [1, 2, 3, 0] rfl ?_
  exact ok_X4_receive_L81 l X FU h a0 a2 a4 x1 q hf
set_option maxRecDepth 100000 in
set_option maxHeartbeats 4000000 in
theorem ok_X4_receive (l : Launch) (X : Cx) {h : AH} {a0 : Nat} {a1 : Nat} {q : AH} (hf : f_X4_receive h a0 a1 = some q) : Go l X k_X4_receive 0 [(0, rf X a0), (1, rf X a1)] [] h (rV q) := by
  unfold f_X4_receive at hf
  refine g_aload_n (pc := 0) 1 dX4_receive_0 rfl rfl ?_
  refine g_iconst (pc := 1) (v := (3 : Int32)) dX4_receive_1 (by decide) ?_
  obtain ⟨g1, hf⟩ := gs_some hf
  obtain ⟨b2, hf⟩ := gb_some hf
  refine g_iald (pc := 2) g1 b2 dX4_receive_2 ?_
  obtain ⟨x3, ex3, hf⟩ := lt_some hf
  refine g_istore_n (pc := 3) (L' := [(2, .int x3), (0, rf X a0), (1, rf X a1)]) dX4_receive_3 rfl (by decide) ex3 (by simp [rf_cat, rq_cat]) ?_
  refine g_aload_n (pc := 4) 2 dX4_receive_4 rfl rfl ?_
  refine g_iconst (pc := 5) (v := (0 : Int32)) dX4_receive_5 (by decide) ?_
  obtain ⟨b4, hf⟩ := gb_some hf
  refine g_iald (pc := 6) g1 b4 dX4_receive_6 ?_
  obtain ⟨x5, ex5, hf⟩ := lt_some hf
  refine g_istore_n (pc := 7) (L' := [(3, .int x5), (2, .int x3), (0, rf X a0), (1, rf X a1)]) dX4_receive_7 rfl (by decide) ex5 rfl ?_
  refine g_iconst (pc := 8) (v := (1 : Int32)) dX4_receive_8 (by decide) ?_
  obtain ⟨x6, ex6, hf⟩ := lt_some hf
  refine g_istore (pc := 9) (L' := [(4, .int x6), (3, .int x5), (2, .int x3), (0, rf X a0), (1, rf X a1)]) dX4_receive_9 (by decide) ex6 rfl ?_
  refine g_iload_n (pc := 11) 1 dX4_receive_11 rfl rfl ?_
  refine g_iconst (pc := 12) (v := (5 : Int32)) dX4_receive_12 (by decide) ?_
  rcases it_some hf with ⟨c7, hf⟩ | ⟨c7, hf⟩
  · refine g_icne_t (pc := 13) (tgt := 26) dX4_receive_13 (by decide) c7 ?_
    refine g_iload_n (pc := 26) 1 dX4_receive_26 rfl rfl ?_
    refine g_bipush (pc := 27) (v := (10 : Int32)) dX4_receive_27 (by decide) ?_
    rcases it_some hf with ⟨c8, hf⟩ | ⟨c8, hf⟩
    · refine g_icne_t (pc := 29) (tgt := 40) dX4_receive_29 (by decide) c8 ?_
      refine g_aload_n (pc := 40) 3 dX4_receive_40 rfl rfl ?_
      obtain ⟨g9, hf⟩ := gs_some hf
      refine g_getI (pc := 41) fl_X4_69 dX4_receive_41 g9 ?_
      refine g_bipush (pc := 44) (v := (32 : Int32)) dX4_receive_44 (by decide) ?_
      rcases it_some hf with ⟨c10, hf⟩ | ⟨c10, hf⟩
      · refine g_icge_t (pc := 46) (tgt := 77) dX4_receive_46 (by decide) c10 ?_
        refine g_sub [3, 2, 0] rfl ?_
        exact ok_X4_receive_L77 l X h a0 x3 x6 q hf
      · refine g_icge_f (pc := 46) (tgt := 77) dX4_receive_46 (by decide) c10 ?_
        refine g_aload_n (pc := 49) 4 dX4_receive_49 rfl rfl ?_
        refine g_iconst (pc := 50) (v := (0 : Int32)) dX4_receive_50 (by decide) ?_
        refine g_aload_n (pc := 51) 3 dX4_receive_51 rfl rfl ?_
        refine g_getR (pc := 52) fl_X4_45 dX4_receive_52 g9 ?_
        refine g_aload_n (pc := 55) 3 dX4_receive_55 rfl rfl ?_
        refine g_getI (pc := 56) fl_X4_69 dX4_receive_56 g9 ?_
        refine g_bipush (pc := 59) (v := (9 : Int32)) dX4_receive_59 (by decide) ?_
        refine g_imul (pc := 61) dX4_receive_61 ?_
        refine g_bipush (pc := 62) (v := (9 : Int32)) dX4_receive_62 (by decide) ?_
        obtain ⟨g11, hf⟩ := gs_some hf
        obtain ⟨b12, hf⟩ := gb_some hf
        obtain ⟨h13, eh13, hf⟩ := lt_some hf
        refine g_copy (pc := 64) acy_X4_86 g1 g11 b12 (by decide) (by decide) (by simp [rf_cat, rq_cat, ca_i, ca_l, ca_r]) dX4_receive_64 eh13 ?_
        refine g_aload_n (pc := 67) 3 dX4_receive_67 rfl rfl ?_
        refine g_dup (pc := 68) dX4_receive_68 (rf_cat X _) ?_
        have g14 : hS h13 a0 = 4 := (hS_tA eh13 g9)
        refine g_getI (pc := 69) fl_X4_69 dX4_receive_69 g14 ?_
        refine g_iconst (pc := 72) (v := (1 : Int32)) dX4_receive_72 (by decide) ?_
        refine g_iadd (pc := 73) dX4_receive_73 ?_
        obtain ⟨h15, eh15, hf⟩ := lt_some hf
        refine g_putI (pc := 74) fl_X4_69 dX4_receive_74 g14 eh15 ?_
        refine g_sub [3, 2, 0] rfl ?_
        exact ok_X4_receive_L77 l X h15 a0 x3 x6 q hf
    · refine g_icne_f (pc := 29) (tgt := 40) dX4_receive_29 (by decide) (Decidable.of_not_not c8) ?_
      refine g_aload_n (pc := 32) 3 dX4_receive_32 rfl rfl ?_
      refine g_iload_n (pc := 33) 2 dX4_receive_33 rfl rfl ?_
      obtain ⟨g16, hf⟩ := gs_some hf
      obtain ⟨q17, hcq17, hf⟩ := bd_some hf
      refine g_cVV (pc := 34) (k2 := k_X4_endRequest) (av := [.int x3]) (q := q17) rfl dX4_receive_34 ck_X4_endRequest m_603 m_605 m_7 (ci := 3) rfl (by decide) g16 (by decide) (by decide) rfl (by simp [rf_cat, rq_cat, ca_i, ca_l, ca_r]) (ct_X4_endRequest l X hcq17) ?_
      refine g_goto (pc := 37) (tgt := 77) dX4_receive_37 (by decide) ?_
      refine g_sub [3, 2, 0] rfl ?_
      exact ok_X4_receive_L77 l X q17 a0 x3 x6 q hf
  · refine g_icne_f (pc := 13) (tgt := 26) dX4_receive_13 (by decide) (Decidable.of_not_not c7) ?_
    refine g_aload_n (pc := 16) 3 dX4_receive_16 rfl rfl ?_
    refine g_aload_n (pc := 17) 4 dX4_receive_17 rfl rfl ?_
    obtain ⟨g18, hf⟩ := gs_some hf
    obtain ⟨q19, hcq19, hf⟩ := bd_some hf
    refine g_cVI (pc := 18) (k2 := k_X4_acknowledge) (av := [rf X a1]) (q := q19) rfl dX4_receive_18 ck_X4_acknowledge m_564 m_566 m_3 (ci := 3) rfl (by decide) g18 (by decide) (by decide) rfl (by simp [rf_cat, rq_cat, ca_i, ca_l, ca_r]) (ct_X4_acknowledge l X hcq19) ?_
    obtain ⟨x20, ex20, hf⟩ := lt_some hf
    refine g_istore (pc := 21) (L' := [(4, .int x20), (3, .int x5), (2, .int x3), (0, rf X a0), (1, rf X a1)]) dX4_receive_21 (by decide) ex20 rfl ?_
    refine g_goto (pc := 23) (tgt := 77) dX4_receive_23 (by decide) ?_
    refine g_sub [3, 2, 0] rfl ?_
    exact ok_X4_receive_L77 l X q19.2 a0 x3 x20 q hf
theorem ct_X4_receive (l : Launch) (X : Cx) {h : AH} {a0 : Nat} {a1 : Nat} {q : AH} (hf : f_X4_receive h a0 a1 = some q) : Ct l X k_X4_receive [rf X a0, rf X a1] h (rV q) := ct_of ck_X4_receive (by simp [lg_sl, rf_cat, rq_cat, ca_i, ca_l, ca_r]) (by simp [lv_args, rf_cat, rq_cat, ca_i, ca_l, ca_r]) (ok_X4_receive l X hf)
set_option maxRecDepth 100000 in
set_option maxHeartbeats 4000000 in
theorem ok_X6_init (l : Launch) (X : Cx) {h : AH} {a0 : Nat} {q : AH} (hf : f_X6_init h a0 = some q) : Go l X k_X6_init 0 [(0, rf X a0)] [] h (rV q) := by
  unfold f_X6_init at hf
  refine g_aload_n (pc := 0) 0 dX6_init_0 rfl rfl ?_
  obtain ⟨g1, hf⟩ := gs_some hf
  refine g_objInit (pc := 1) m_259 m_154 m_155 g1 (by decide) (by decide) (by decide) (by simp [rf_cat, rq_cat, ca_i, ca_l, ca_r]) dX6_init_1 ?_
  refine g_aload_n (pc := 4) 0 dX6_init_4 rfl rfl ?_
  refine g_sipush (pc := 5) (v := (576 : Int32)) dX6_init_5 (by decide) ?_
  obtain ⟨h2, eh2, hf⟩ := lt_some hf
  refine g_newI (pc := 8) m_252 dX6_init_8 (by decide) eh2 ?_
  obtain ⟨g3, hf⟩ := gs_some hf
  obtain ⟨h4, eh4, hf⟩ := lt_some hf
  refine g_putR (pc := 10) fl_X6_11 (Or.inr ⟨_, rfl⟩) dX6_init_10 g3 eh4 ?_
  refine g_aload_n (pc := 13) 0 dX6_init_13 rfl rfl ?_
  refine g_bipush (pc := 14) (v := (9 : Int32)) dX6_init_14 (by decide) ?_
  obtain ⟨h5, eh5, hf⟩ := lt_some hf
  refine g_newI (pc := 16) m_252 dX6_init_16 (by decide) eh5 ?_
  obtain ⟨g6, hf⟩ := gs_some hf
  obtain ⟨h7, eh7, hf⟩ := lt_some hf
  refine g_putRF (pc := 18) fl_X6_15 rfl (cl_own rfl) (Or.inr ⟨_, rfl⟩) dX6_init_18 g6 eh7 ?_
  obtain rfl := Option.some.inj hf
  exact g_vret (pc := 21) rfl dX6_init_21
theorem ct_X6_init (l : Launch) (X : Cx) {h : AH} {a0 : Nat} {q : AH} (hf : f_X6_init h a0 = some q) : Ct l X k_X6_init [rf X a0] h (rV q) := ct_of ck_X6_init (by simp [lg_sl, rf_cat, rq_cat, ca_i, ca_l, ca_r]) (by simp [lv_args, rf_cat, rq_cat, ca_i, ca_l, ca_r]) (ok_X6_init l X hf)
set_option maxRecDepth 100000 in
set_option maxHeartbeats 4000000 in
theorem ok_X6_clear (l : Launch) (X : Cx) {h : AH} {a0 : Nat} {q : AH} (hf : f_X6_clear h a0 = some q) : Go l X k_X6_clear 0 [(0, rf X a0)] [] h (rV q) := by
  unfold f_X6_clear at hf
  refine g_aload_n (pc := 0) 0 dX6_clear_0 rfl rfl ?_
  refine g_iconst (pc := 1) (v := (0 : Int32)) dX6_clear_1 (by decide) ?_
  obtain ⟨g1, hf⟩ := gs_some hf
  obtain ⟨h2, eh2, hf⟩ := lt_some hf
  refine g_putI (pc := 2) fl_X6_18 dX6_clear_2 g1 eh2 ?_
  refine g_aload_n (pc := 5) 0 dX6_clear_5 rfl rfl ?_
  refine g_iconst (pc := 6) (v := (0 : Int32)) dX6_clear_6 (by decide) ?_
  have g3 : hS h2 a0 = 5 := (hS_tI eh2 g1)
  obtain ⟨h4, eh4, hf⟩ := lt_some hf
  refine g_putI (pc := 7) fl_X6_22 dX6_clear_7 g3 eh4 ?_
  obtain rfl := Option.some.inj hf
  exact g_vret (pc := 10) rfl dX6_clear_10
theorem ct_X6_clear (l : Launch) (X : Cx) {h : AH} {a0 : Nat} {q : AH} (hf : f_X6_clear h a0 = some q) : Ct l X k_X6_clear [rf X a0] h (rV q) := ct_of ck_X6_clear (by simp [lg_sl, rf_cat, rq_cat, ca_i, ca_l, ca_r]) (by simp [lv_args, rf_cat, rq_cat, ca_i, ca_l, ca_r]) (ok_X6_clear l X hf)
set_option maxRecDepth 100000 in
set_option maxHeartbeats 4000000 in
theorem ok_X6_takeOut (l : Launch) (X : Cx) {h : AH} {a0 : Nat} {a1 : Int32} {q : Int32 × AH} (hf : f_X6_takeOut h a0 a1 = some q) : Go l X k_X6_takeOut 0 [(0, rf X a0), (1, .int a1)] [] h (rI q) := by
  unfold f_X6_takeOut at hf
  refine g_iload_n (pc := 0) 1 dX6_takeOut_0 rfl rfl ?_
  rcases it_some hf with ⟨c1, hf⟩ | ⟨c1, hf⟩
  · refine g_iflt_t (pc := 1) (tgt := 12) dX6_takeOut_1 (by decide) c1 ?_
    refine g_iconst (pc := 12) (v := (0 : Int32)) dX6_takeOut_12 (by decide) ?_
    obtain rfl := Option.some.inj hf
    exact g_zret (pc := 13) rfl rfl dX6_takeOut_13
  · refine g_iflt_f (pc := 1) (tgt := 12) dX6_takeOut_1 (by decide) c1 ?_
    refine g_iload_n (pc := 4) 1 dX6_takeOut_4 rfl rfl ?_
    refine g_aload_n (pc := 5) 0 dX6_takeOut_5 rfl rfl ?_
    obtain ⟨g2, hf⟩ := gs_some hf
    refine g_getI (pc := 6) fl_X6_18 dX6_takeOut_6 g2 ?_
    rcases it_some hf with ⟨c3, hf⟩ | ⟨c3, hf⟩
    · refine g_iclt_t (pc := 9) (tgt := 14) dX6_takeOut_9 (by decide) c3 ?_
      refine g_aload_n (pc := 14) 0 dX6_takeOut_14 rfl rfl ?_
      refine g_getR (pc := 15) fl_X6_11 dX6_takeOut_15 g2 ?_
      refine g_iload_n (pc := 18) 1 dX6_takeOut_18 rfl rfl ?_
      refine g_bipush (pc := 19) (v := (9 : Int32)) dX6_takeOut_19 (by decide) ?_
      refine g_imul (pc := 21) dX6_takeOut_21 ?_
      refine g_aload_n (pc := 22) 0 dX6_takeOut_22 rfl rfl ?_
      refine g_getR (pc := 23) fl_X6_15 dX6_takeOut_23 g2 ?_
      refine g_iconst (pc := 26) (v := (0 : Int32)) dX6_takeOut_26 (by decide) ?_
      refine g_bipush (pc := 27) (v := (9 : Int32)) dX6_takeOut_27 (by decide) ?_
      obtain ⟨g4, hf⟩ := gs_some hf
      obtain ⟨g5, hf⟩ := gs_some hf
      obtain ⟨b6, hf⟩ := gb_some hf
      obtain ⟨h7, eh7, hf⟩ := lt_some hf
      refine g_copy (pc := 29) acy_X6_31 g4 g5 b6 (by decide) (by decide) (by simp [rf_cat, rq_cat, ca_i, ca_l, ca_r]) dX6_takeOut_29 eh7 ?_
      refine g_aload_n (pc := 32) 0 dX6_takeOut_32 rfl rfl ?_
      have g8 : hS h7 a0 = 5 := (hS_tA eh7 g2)
      refine g_getR (pc := 33) fl_X6_11 dX6_takeOut_33 g8 ?_
      refine g_iload_n (pc := 36) 1 dX6_takeOut_36 rfl rfl ?_
      refine g_iconst (pc := 37) (v := (1 : Int32)) dX6_takeOut_37 (by decide) ?_
      refine g_iadd (pc := 38) dX6_takeOut_38 ?_
      refine g_bipush (pc := 39) (v := (9 : Int32)) dX6_takeOut_39 (by decide) ?_
      refine g_imul (pc := 41) dX6_takeOut_41 ?_
      refine g_aload_n (pc := 42) 0 dX6_takeOut_42 rfl rfl ?_
      refine g_getR (pc := 43) fl_X6_11 dX6_takeOut_43 g8 ?_
      refine g_iload_n (pc := 46) 1 dX6_takeOut_46 rfl rfl ?_
      refine g_bipush (pc := 47) (v := (9 : Int32)) dX6_takeOut_47 (by decide) ?_
      refine g_imul (pc := 49) dX6_takeOut_49 ?_
      refine g_aload_n (pc := 50) 0 dX6_takeOut_50 rfl rfl ?_
      refine g_getI (pc := 51) fl_X6_18 dX6_takeOut_51 g8 ?_
      refine g_iload_n (pc := 54) 1 dX6_takeOut_54 rfl rfl ?_
      refine g_isub (pc := 55) dX6_takeOut_55 ?_
      refine g_iconst (pc := 56) (v := (1 : Int32)) dX6_takeOut_56 (by decide) ?_
      refine g_isub (pc := 57) dX6_takeOut_57 ?_
      refine g_bipush (pc := 58) (v := (9 : Int32)) dX6_takeOut_58 (by decide) ?_
      refine g_imul (pc := 60) dX6_takeOut_60 ?_
      obtain ⟨g9, hf⟩ := gs_some hf
      obtain ⟨b10, hf⟩ := gb_some hf
      obtain ⟨h11, eh11, hf⟩ := lt_some hf
      refine g_copy (pc := 61) acy_X6_31 g9 g9 b10 (by decide) (by decide) (by simp [rf_cat, rq_cat, ca_i, ca_l, ca_r]) dX6_takeOut_61 eh11 ?_
      refine g_aload_n (pc := 64) 0 dX6_takeOut_64 rfl rfl ?_
      refine g_dup (pc := 65) dX6_takeOut_65 (rf_cat X _) ?_
      have g12 : hS h11 a0 = 5 := (hS_tA eh11 g8)
      refine g_getI (pc := 66) fl_X6_18 dX6_takeOut_66 g12 ?_
      refine g_iconst (pc := 69) (v := (1 : Int32)) dX6_takeOut_69 (by decide) ?_
      refine g_isub (pc := 70) dX6_takeOut_70 ?_
      obtain ⟨h13, eh13, hf⟩ := lt_some hf
      refine g_putI (pc := 71) fl_X6_18 dX6_takeOut_71 g12 eh13 ?_
      refine g_aload_n (pc := 74) 0 dX6_takeOut_74 rfl rfl ?_
      refine g_dup (pc := 75) dX6_takeOut_75 (rf_cat X _) ?_
      have g14 : hS h13 a0 = 5 := (hS_tI eh13 g12)
      refine g_getI (pc := 76) fl_X6_22 dX6_takeOut_76 g14 ?_
      refine g_iconst (pc := 79) (v := (1 : Int32)) dX6_takeOut_79 (by decide) ?_
      refine g_iadd (pc := 80) dX6_takeOut_80 ?_
      obtain ⟨h15, eh15, hf⟩ := lt_some hf
      refine g_putI (pc := 81) fl_X6_22 dX6_takeOut_81 g14 eh15 ?_
      refine g_iconst (pc := 84) (v := (1 : Int32)) dX6_takeOut_84 (by decide) ?_
      obtain rfl := Option.some.inj hf
      exact g_zret (pc := 85) rfl rfl dX6_takeOut_85
    · refine g_iclt_f (pc := 9) (tgt := 14) dX6_takeOut_9 (by decide) c3 ?_
      refine g_iconst (pc := 12) (v := (0 : Int32)) dX6_takeOut_12 (by decide) ?_
      obtain rfl := Option.some.inj hf
      exact g_zret (pc := 13) rfl rfl dX6_takeOut_13
theorem ct_X6_takeOut (l : Launch) (X : Cx) {h : AH} {a0 : Nat} {a1 : Int32} {q : Int32 × AH} (hf : f_X6_takeOut h a0 a1 = some q) : Ct l X k_X6_takeOut [rf X a0, .int a1] h (rI q) := ct_of ck_X6_takeOut (by simp [lg_sl, rf_cat, rq_cat, ca_i, ca_l, ca_r]) (by simp [lv_args, rf_cat, rq_cat, ca_i, ca_l, ca_r]) (ok_X6_takeOut l X hf)
set_option maxRecDepth 100000 in
set_option maxHeartbeats 4000000 in
theorem ok_X6_get (l : Launch) (X : Cx) {h : AH} {a0 : Nat} {a1 : Int32} {a2 : Int32} {q : Int32} (hf : f_X6_get h a0 a1 a2 = some q) : Go l X k_X6_get 0 [(0, rf X a0), (1, .int a1), (2, .int a2)] [] h (rI (q, h)) := by
  unfold f_X6_get at hf
  refine g_aload_n (pc := 0) 0 dX6_get_0 rfl rfl ?_
  obtain ⟨g1, hf⟩ := gs_some hf
  refine g_getR (pc := 1) fl_X6_11 dX6_get_1 g1 ?_
  refine g_iload_n (pc := 4) 1 dX6_get_4 rfl rfl ?_
  refine g_bipush (pc := 5) (v := (9 : Int32)) dX6_get_5 (by decide) ?_
  refine g_imul (pc := 7) dX6_get_7 ?_
  refine g_iload_n (pc := 8) 2 dX6_get_8 rfl rfl ?_
  refine g_iadd (pc := 9) dX6_get_9 ?_
  obtain ⟨g2, hf⟩ := gs_some hf
  obtain ⟨b3, hf⟩ := gb_some hf
  refine g_iald (pc := 10) g2 b3 dX6_get_10 ?_
  obtain rfl := Option.some.inj hf
  exact g_iret (pc := 11) rfl dX6_get_11
theorem ct_X6_get (l : Launch) (X : Cx) {h : AH} {a0 : Nat} {a1 : Int32} {a2 : Int32} {q : Int32} (hf : f_X6_get h a0 a1 a2 = some q) : Ct l X k_X6_get [rf X a0, .int a1, .int a2] h (rI (q, h)) := ct_of ck_X6_get (by simp [lg_sl, rf_cat, rq_cat, ca_i, ca_l, ca_r]) (by simp [lv_args, rf_cat, rq_cat, ca_i, ca_l, ca_r]) (ok_X6_get l X hf)
set_option maxRecDepth 100000 in
set_option maxHeartbeats 4000000 in
theorem ok_X6_placeOn_L43 (l : Launch) (X : Cx) (h : AH) (k5 : Nat → Int32 → Int32 → Int32 → Option (Int32)) (hk5 : ∀ (a0 : Nat) (a1 : Int32) (a3 : Int32) (a4 : Int32) (q : Int32), k5 a0 a1 a3 a4 = some q → Go l X k_X6_placeOn 5 [(0, rf X a0), (1, .int a1), (3, .int a3), (4, .int a4)] [] h (rI (q, h))) (a0 : Nat) (a1 : Int32) (a3 : Int32) (a4 : Int32) (q : Int32) (hf : f_X6_placeOn_L43 h k5 a0 a1 a3 a4 = some q) : Go l X k_X6_placeOn 43 [(0, rf X a0), (1, .int a1), (3, .int a3), (4, .int a4)] [] h (rI (q, h)) := by
  unfold f_X6_placeOn_L43 at hf
  obtain ⟨x1, ex1, hf⟩ := lt_some hf
  refine g_iinc (pc := 43) (y := x1) (L' := [(4, .int x1), (0, rf X a0), (1, .int a1), (3, .int a3)]) 3 dX6_placeOn_43 rfl (by decide) (ex1.trans rfl) rfl ?_
  refine g_goto (pc := 46) (tgt := 5) dX6_placeOn_46 (by decide) ?_
  refine g_sub [1, 2, 3, 0] rfl ?_
  exact hk5 a0 a1 a3 x1 q hf
set_option maxRecDepth 100000 in
set_option maxHeartbeats 4000000 in
theorem ok_X6_placeOn_L5 (l : Launch) (X : Cx) (h : AH) : ∀ (n : Nat) (a0 : Nat) (a1 : Int32) (a3 : Int32) (a4 : Int32) (q : Int32), f_X6_placeOn_L5 h n a0 a1 a3 a4 = some q → Go l X k_X6_placeOn 5 [(0, rf X a0), (1, .int a1), (3, .int a3), (4, .int a4)] [] h (rI (q, h)) := by
  intro n
  induction n with
  | zero =>
    intro a0 a1 a3 a4 q hf
    unfold f_X6_placeOn_L5 at hf
    cases hf
  | succ n ih =>
    intro a0 a1 a3 a4 q hf
    unfold f_X6_placeOn_L5 at hf
    refine g_iload (pc := 5) 3 dX6_placeOn_5 rfl ?_
    refine g_aload_n (pc := 7) 0 dX6_placeOn_7 rfl rfl ?_
    obtain ⟨g1, hf⟩ := gs_some hf
    refine g_getI (pc := 8) fl_X6_18 dX6_placeOn_8 g1 ?_
    rcases it_some hf with ⟨c2, hf⟩ | ⟨c2, hf⟩
    · refine g_icge_t (pc := 11) (tgt := 49) dX6_placeOn_11 (by decide) c2 ?_
      refine g_iconst (pc := 49) (v := (-1 : Int32)) dX6_placeOn_49 (by decide) ?_
      obtain rfl := Option.some.inj hf
      exact g_iret (pc := 50) rfl dX6_placeOn_50
    · refine g_icge_f (pc := 11) (tgt := 49) dX6_placeOn_11 (by decide) c2 ?_
      refine g_iload_n (pc := 14) 2 dX6_placeOn_14 rfl rfl ?_
      rcases it_some hf with ⟨c3, hf⟩ | ⟨c3, hf⟩
      · refine g_iflt_t (pc := 15) (tgt := 49) dX6_placeOn_15 (by decide) c3 ?_
        refine g_iconst (pc := 49) (v := (-1 : Int32)) dX6_placeOn_49 (by decide) ?_
        obtain rfl := Option.some.inj hf
        exact g_iret (pc := 50) rfl dX6_placeOn_50
      · refine g_iflt_f (pc := 15) (tgt := 49) dX6_placeOn_15 (by decide) c3 ?_
        refine g_sCHN (pc := 18) 0 rfl dX6_placeOn_18 ?_
        refine g_aload_n (pc := 21) 0 dX6_placeOn_21 rfl rfl ?_
        refine g_iload (pc := 22) 3 dX6_placeOn_22 rfl ?_
        refine g_iconst (pc := 24) (v := (0 : Int32)) dX6_placeOn_24 (by decide) ?_
        obtain ⟨v4, hcv4, hf⟩ := bd_some hf
        refine g_cVI (pc := 25) (k2 := k_X6_get) (av := [.int a4, .int (0 : Int32)]) (q := (v4, h)) rfl dX6_placeOn_25 ck_X6_get m_681 m_682 m_683 (ci := 4) rfl (by decide) g1 (by decide) (by decide) rfl (by simp [rf_cat, rq_cat, ca_i, ca_l, ca_r]) (ct_X6_get l X hcv4) ?_
        obtain ⟨b5, hf⟩ := gb_some hf
        refine g_tCH (pc := 28) b5 dX6_placeOn_28 ?_
        refine g_iload_n (pc := 29) 1 dX6_placeOn_29 rfl rfl ?_
        rcases it_some hf with ⟨c6, hf⟩ | ⟨c6, hf⟩
        · refine g_icne_t (pc := 30) (tgt := 43) dX6_placeOn_30 (by decide) c6 ?_
          exact ok_X6_placeOn_L43 l X h (f_X6_placeOn_L5 h n) ih a0 a1 a3 a4 q hf
        · refine g_icne_f (pc := 30) (tgt := 43) dX6_placeOn_30 (by decide) (Decidable.of_not_not c6) ?_
          refine g_iload_n (pc := 33) 2 dX6_placeOn_33 rfl rfl ?_
          rcases it_some hf with ⟨c7, hf⟩ | ⟨c7, hf⟩
          · refine g_ifne_t (pc := 34) (tgt := 40) dX6_placeOn_34 (by decide) c7 ?_
            obtain ⟨x8, ex8, hf⟩ := lt_some hf
            refine g_iinc (pc := 40) (y := x8) (L' := [(3, .int x8), (0, rf X a0), (1, .int a1), (4, .int a4)]) 2 dX6_placeOn_40 rfl (by decide) (ex8.trans rfl) rfl ?_
            refine g_sub [1, 2, 0, 3] rfl ?_
            exact ok_X6_placeOn_L43 l X h (f_X6_placeOn_L5 h n) ih a0 a1 x8 a4 q hf
          · refine g_ifne_f (pc := 34) (tgt := 40) dX6_placeOn_34 (by decide) (Decidable.of_not_not c7) ?_
            refine g_iload (pc := 37) 3 dX6_placeOn_37 rfl ?_
            obtain rfl := Option.some.inj hf
            exact g_iret (pc := 39) rfl dX6_placeOn_39
set_option maxRecDepth 100000 in
set_option maxHeartbeats 4000000 in
theorem ok_X6_placeOn (l : Launch) (X : Cx) {h : AH} {a0 : Nat} {a1 : Int32} {a2 : Int32} {q : Int32} (hf : f_X6_placeOn h a0 a1 a2 = some q) : Go l X k_X6_placeOn 0 [(0, rf X a0), (1, .int a1), (2, .int a2)] [] h (rI (q, h)) := by
  unfold f_X6_placeOn at hf
  refine g_iload_n (pc := 0) 2 dX6_placeOn_0 rfl rfl ?_
  refine g_istore_n (pc := 1) (L' := [(3, .int a2), (0, rf X a0), (1, .int a1), (2, .int a2)]) dX6_placeOn_1 rfl (by decide) rfl rfl ?_
  refine g_iconst (pc := 2) (v := (0 : Int32)) dX6_placeOn_2 (by decide) ?_
  obtain ⟨x1, ex1, hf⟩ := lt_some hf
  refine g_istore (pc := 3) (L' := [(4, .int x1), (3, .int a2), (0, rf X a0), (1, .int a1), (2, .int a2)]) dX6_placeOn_3 (by decide) ex1 rfl ?_
  refine g_sub [2, 3, 1, 0] rfl ?_
  exact ok_X6_placeOn_L5 l X h FU a0 a1 a2 x1 q hf
theorem ct_X6_placeOn (l : Launch) (X : Cx) {h : AH} {a0 : Nat} {a1 : Int32} {a2 : Int32} {q : Int32} (hf : f_X6_placeOn h a0 a1 a2 = some q) : Ct l X k_X6_placeOn [rf X a0, .int a1, .int a2] h (rI (q, h)) := ct_of ck_X6_placeOn (by simp [lg_sl, rf_cat, rq_cat, ca_i, ca_l, ca_r]) (by simp [lv_args, rf_cat, rq_cat, ca_i, ca_l, ca_r]) (ok_X6_placeOn l X hf)
set_option maxRecDepth 100000 in
set_option maxHeartbeats 4000000 in
theorem ok_X6_placeOfWords_L42 (l : Launch) (X : Cx) (h : AH) (k2 : Nat → Int32 → Int32 → Int32 → Option (Int32)) (hk2 : ∀ (a0 : Nat) (a1 : Int32) (a2 : Int32) (a3 : Int32) (q : Int32), k2 a0 a1 a2 a3 = some q → Go l X k_X6_placeOfWords 2 [(0, rf X a0), (1, .int a1), (2, .int a2), (3, .int a3)] [] h (rI (q, h))) (a0 : Nat) (a1 : Int32) (a2 : Int32) (a3 : Int32) (q : Int32) (hf : f_X6_placeOfWords_L42 h k2 a0 a1 a2 a3 = some q) : Go l X k_X6_placeOfWords 42 [(0, rf X a0), (1, .int a1), (2, .int a2), (3, .int a3)] [] h (rI (q, h)) := by
  unfold f_X6_placeOfWords_L42 at hf
  obtain ⟨x1, ex1, hf⟩ := lt_some hf
  refine g_iinc (pc := 42) (y := x1) (L' := [(3, .int x1), (0, rf X a0), (1, .int a1), (2, .int a2)]) 3 dX6_placeOfWords_42 rfl (by decide) (ex1.trans rfl) rfl ?_
  refine g_goto (pc := 45) (tgt := 2) dX6_placeOfWords_45 (by decide) ?_
  refine g_sub [1, 2, 3, 0] rfl ?_
  exact hk2 a0 a1 a2 x1 q hf
set_option maxRecDepth 100000 in
set_option maxHeartbeats 4000000 in
theorem ok_X6_placeOfWords_L2 (l : Launch) (X : Cx) (h : AH) : ∀ (n : Nat) (a0 : Nat) (a1 : Int32) (a2 : Int32) (a3 : Int32) (q : Int32), f_X6_placeOfWords_L2 h n a0 a1 a2 a3 = some q → Go l X k_X6_placeOfWords 2 [(0, rf X a0), (1, .int a1), (2, .int a2), (3, .int a3)] [] h (rI (q, h)) := by
  intro n
  induction n with
  | zero =>
    intro a0 a1 a2 a3 q hf
    unfold f_X6_placeOfWords_L2 at hf
    cases hf
  | succ n ih =>
    intro a0 a1 a2 a3 q hf
    unfold f_X6_placeOfWords_L2 at hf
    refine g_iload_n (pc := 2) 3 dX6_placeOfWords_2 rfl rfl ?_
    refine g_aload_n (pc := 3) 0 dX6_placeOfWords_3 rfl rfl ?_
    obtain ⟨g1, hf⟩ := gs_some hf
    refine g_getI (pc := 4) fl_X6_18 dX6_placeOfWords_4 g1 ?_
    rcases it_some hf with ⟨c2, hf⟩ | ⟨c2, hf⟩
    · refine g_icge_t (pc := 7) (tgt := 48) dX6_placeOfWords_7 (by decide) c2 ?_
      refine g_iconst (pc := 48) (v := (-1 : Int32)) dX6_placeOfWords_48 (by decide) ?_
      obtain rfl := Option.some.inj hf
      exact g_iret (pc := 49) rfl dX6_placeOfWords_49
    · refine g_icge_f (pc := 7) (tgt := 48) dX6_placeOfWords_7 (by decide) c2 ?_
      refine g_aload_n (pc := 10) 0 dX6_placeOfWords_10 rfl rfl ?_
      refine g_iload_n (pc := 11) 3 dX6_placeOfWords_11 rfl rfl ?_
      refine g_iconst (pc := 12) (v := (0 : Int32)) dX6_placeOfWords_12 (by decide) ?_
      obtain ⟨v3, hcv3, hf⟩ := bd_some hf
      refine g_cVI (pc := 13) (k2 := k_X6_get) (av := [.int a3, .int (0 : Int32)]) (q := (v3, h)) rfl dX6_placeOfWords_13 ck_X6_get m_681 m_682 m_683 (ci := 4) rfl (by decide) g1 (by decide) (by decide) rfl (by simp [rf_cat, rq_cat, ca_i, ca_l, ca_r]) (ct_X6_get l X hcv3) ?_
      refine g_iload_n (pc := 16) 1 dX6_placeOfWords_16 rfl rfl ?_
      rcases it_some hf with ⟨c4, hf⟩ | ⟨c4, hf⟩
      · refine g_icne_t (pc := 17) (tgt := 42) dX6_placeOfWords_17 (by decide) c4 ?_
        exact ok_X6_placeOfWords_L42 l X h (f_X6_placeOfWords_L2 h n) ih a0 a1 a2 a3 q hf
      · refine g_icne_f (pc := 17) (tgt := 42) dX6_placeOfWords_17 (by decide) (Decidable.of_not_not c4) ?_
        refine g_aload_n (pc := 20) 0 dX6_placeOfWords_20 rfl rfl ?_
        refine g_iload_n (pc := 21) 3 dX6_placeOfWords_21 rfl rfl ?_
        refine g_iconst (pc := 22) (v := (3 : Int32)) dX6_placeOfWords_22 (by decide) ?_
        obtain ⟨v5, hcv5, hf⟩ := bd_some hf
        refine g_cVI (pc := 23) (k2 := k_X6_get) (av := [.int a3, .int (3 : Int32)]) (q := (v5, h)) rfl dX6_placeOfWords_23 ck_X6_get m_681 m_682 m_683 (ci := 4) rfl (by decide) g1 (by decide) (by decide) rfl (by simp [rf_cat, rq_cat, ca_i, ca_l, ca_r]) (ct_X6_get l X hcv5) ?_
        refine g_iload_n (pc := 26) 2 dX6_placeOfWords_26 rfl rfl ?_
        rcases it_some hf with ⟨c6, hf⟩ | ⟨c6, hf⟩
        · refine g_icne_t (pc := 27) (tgt := 42) dX6_placeOfWords_27 (by decide) c6 ?_
          exact ok_X6_placeOfWords_L42 l X h (f_X6_placeOfWords_L2 h n) ih a0 a1 a2 a3 q hf
        · refine g_icne_f (pc := 27) (tgt := 42) dX6_placeOfWords_27 (by decide) (Decidable.of_not_not c6) ?_
          refine g_aload_n (pc := 30) 0 dX6_placeOfWords_30 rfl rfl ?_
          refine g_iload_n (pc := 31) 3 dX6_placeOfWords_31 rfl rfl ?_
          refine g_iconst (pc := 32) (v := (4 : Int32)) dX6_placeOfWords_32 (by decide) ?_
          obtain ⟨v7, hcv7, hf⟩ := bd_some hf
          refine g_cVI (pc := 33) (k2 := k_X6_get) (av := [.int a3, .int (4 : Int32)]) (q := (v7, h)) rfl dX6_placeOfWords_33 ck_X6_get m_681 m_682 m_683 (ci := 4) rfl (by decide) g1 (by decide) (by decide) rfl (by simp [rf_cat, rq_cat, ca_i, ca_l, ca_r]) (ct_X6_get l X hcv7) ?_
          refine g_iconst (pc := 36) (v := (1 : Int32)) dX6_placeOfWords_36 (by decide) ?_
          rcases it_some hf with ⟨c8, hf⟩ | ⟨c8, hf⟩
          · refine g_icne_t (pc := 37) (tgt := 42) dX6_placeOfWords_37 (by decide) c8 ?_
            exact ok_X6_placeOfWords_L42 l X h (f_X6_placeOfWords_L2 h n) ih a0 a1 a2 a3 q hf
          · refine g_icne_f (pc := 37) (tgt := 42) dX6_placeOfWords_37 (by decide) (Decidable.of_not_not c8) ?_
            refine g_iload_n (pc := 40) 3 dX6_placeOfWords_40 rfl rfl ?_
            obtain rfl := Option.some.inj hf
            exact g_iret (pc := 41) rfl dX6_placeOfWords_41
set_option maxRecDepth 100000 in
set_option maxHeartbeats 4000000 in
theorem ok_X6_placeOfWords (l : Launch) (X : Cx) {h : AH} {a0 : Nat} {a1 : Int32} {a2 : Int32} {q : Int32} (hf : f_X6_placeOfWords h a0 a1 a2 = some q) : Go l X k_X6_placeOfWords 0 [(0, rf X a0), (1, .int a1), (2, .int a2)] [] h (rI (q, h)) := by
  unfold f_X6_placeOfWords at hf
  refine g_iconst (pc := 0) (v := (0 : Int32)) dX6_placeOfWords_0 (by decide) ?_
  obtain ⟨x1, ex1, hf⟩ := lt_some hf
  refine g_istore_n (pc := 1) (L' := [(3, .int x1), (0, rf X a0), (1, .int a1), (2, .int a2)]) dX6_placeOfWords_1 rfl (by decide) ex1 rfl ?_
  refine g_sub [1, 2, 3, 0] rfl ?_
  exact ok_X6_placeOfWords_L2 l X h FU a0 a1 a2 x1 q hf
theorem ct_X6_placeOfWords (l : Launch) (X : Cx) {h : AH} {a0 : Nat} {a1 : Int32} {a2 : Int32} {q : Int32} (hf : f_X6_placeOfWords h a0 a1 a2 = some q) : Ct l X k_X6_placeOfWords [rf X a0, .int a1, .int a2] h (rI (q, h)) := ct_of ck_X6_placeOfWords (by simp [lg_sl, rf_cat, rq_cat, ca_i, ca_l, ca_r]) (by simp [lv_args, rf_cat, rq_cat, ca_i, ca_l, ca_r]) (ok_X6_placeOfWords l X hf)
set_option maxRecDepth 100000 in
set_option maxHeartbeats 4000000 in
theorem ok_X8_init (l : Launch) (X : Cx) {h : AH} {a0 : Nat} {q : AH} (hf : f_X8_init h a0 = some q) : Go l X k_X8_init 0 [(0, rf X a0)] [] h (rV q) := by
  unfold f_X8_init at hf
  refine g_aload_n (pc := 0) 0 dX8_init_0 rfl rfl ?_
  obtain ⟨g1, hf⟩ := gs_some hf
  refine g_objInit (pc := 1) m_161 m_154 m_155 g1 (by decide) (by decide) (by decide) (by simp [rf_cat, rq_cat, ca_i, ca_l, ca_r]) dX8_init_1 ?_
  refine g_aload_n (pc := 4) 0 dX8_init_4 rfl rfl ?_
  refine g_sipush (pc := 5) (v := (1500 : Int32)) dX8_init_5 (by decide) ?_
  obtain ⟨h2, eh2, hf⟩ := lt_some hf
  refine g_newC (pc := 8) m_187 dX8_init_8 (by decide) eh2 ?_
  obtain ⟨g3, hf⟩ := gs_some hf
  obtain ⟨h4, eh4, hf⟩ := lt_some hf
  refine g_putRF (pc := 10) fl_X8_9 rfl (cl_own rfl) (Or.inr ⟨_, rfl⟩) dX8_init_10 g3 eh4 ?_
  obtain rfl := Option.some.inj hf
  exact g_vret (pc := 13) rfl dX8_init_13
theorem ct_X8_init (l : Launch) (X : Cx) {h : AH} {a0 : Nat} {q : AH} (hf : f_X8_init h a0 = some q) : Ct l X k_X8_init [rf X a0] h (rV q) := ct_of ck_X8_init (by simp [lg_sl, rf_cat, rq_cat, ca_i, ca_l, ca_r]) (by simp [lv_args, rf_cat, rq_cat, ca_i, ca_l, ca_r]) (ok_X8_init l X hf)
set_option maxRecDepth 100000 in
set_option maxHeartbeats 4000000 in
theorem ok_X8_append_L75 (l : Launch) (X : Cx) : ∀ (n : Nat) (h : AH) (a0 : Nat) (a1 : Int64) (a4 : Int32) (q : Int32 × AH), f_X8_append_L75 n h a0 a1 a4 = some q → Go l X k_X8_append 75 [(0, rf X a0), (1, .long a1), (4, .int a4)] [] h (rI q) := by
  intro n
  induction n with
  | zero =>
    intro h a0 a1 a4 q hf
    unfold f_X8_append_L75 at hf
    cases hf
  | succ n ih =>
    intro h a0 a1 a4 q hf
    unfold f_X8_append_L75 at hf
    refine g_iload (pc := 75) 2 dX8_append_75 rfl ?_
    rcases it_some hf with ⟨c1, hf⟩ | ⟨c1, hf⟩
    · refine g_iflt_t (pc := 77) (tgt := 118) dX8_append_77 (by decide) c1 ?_
      refine g_iconst (pc := 118) (v := (1 : Int32)) dX8_append_118 (by decide) ?_
      obtain rfl := Option.some.inj hf
      exact g_zret (pc := 119) rfl rfl dX8_append_119
    · refine g_iflt_f (pc := 77) (tgt := 118) dX8_append_77 (by decide) c1 ?_
      refine g_aload_n (pc := 80) 0 dX8_append_80 rfl rfl ?_
      obtain ⟨g2, hf⟩ := gs_some hf
      refine g_getR (pc := 81) fl_X8_9 dX8_append_81 g2 ?_
      refine g_aload_n (pc := 84) 0 dX8_append_84 rfl rfl ?_
      refine g_getI (pc := 85) fl_X8_15 dX8_append_85 g2 ?_
      refine g_lload_n (pc := 88) 1 dX8_append_88 rfl rfl ?_
      refine g_bipush (pc := 89) (v := (8 : Int32)) dX8_append_89 (by decide) ?_
      refine g_iload (pc := 91) 2 dX8_append_91 rfl ?_
      refine g_imul (pc := 93) dX8_append_93 ?_
      refine g_lushr (pc := 94) dX8_append_94 ?_
      refine g_ldc2 (pc := 95) (v := (255 : Int64)) m_533 dX8_append_95 ?_
      refine g_land (pc := 98) dX8_append_98 ?_
      refine g_l2i (pc := 99) dX8_append_99 ?_
      refine g_i2c (pc := 100) dX8_append_100 ?_
      obtain ⟨g3, hf⟩ := gs_some hf
      obtain ⟨b4, hf⟩ := gb_some hf
      obtain ⟨h5, eh5, hf⟩ := lt_some hf
      refine g_cast (pc := 101) g3 b4 dX8_append_101 eh5 ?_
      refine g_aload_n (pc := 102) 0 dX8_append_102 rfl rfl ?_
      refine g_dup (pc := 103) dX8_append_103 (rf_cat X _) ?_
      have g6 : hS h5 a0 = 7 := (hS_tI eh5 g2)
      refine g_getI (pc := 104) fl_X8_15 dX8_append_104 g6 ?_
      refine g_iconst (pc := 107) (v := (1 : Int32)) dX8_append_107 (by decide) ?_
      refine g_iadd (pc := 108) dX8_append_108 ?_
      obtain ⟨h7, eh7, hf⟩ := lt_some hf
      refine g_putI (pc := 109) fl_X8_15 dX8_append_109 g6 eh7 ?_
      obtain ⟨x8, ex8, hf⟩ := lt_some hf
      refine g_iinc (pc := 112) (y := x8) (L' := [(4, .int x8), (0, rf X a0), (1, .long a1)]) 2 dX8_append_112 rfl (by decide) (ex8.trans rfl) rfl ?_
      refine g_goto (pc := 115) (tgt := 75) dX8_append_115 (by decide) ?_
      refine g_sub [1, 2, 0] rfl ?_
      exact ih h7 a0 a1 x8 q hf
set_option maxRecDepth 100000 in
set_option maxHeartbeats 4000000 in
theorem ok_X8_append_L28 (l : Launch) (X : Cx) : ∀ (n : Nat) (h : AH) (a0 : Nat) (a1 : Int64) (a3 : Int32) (a4 : Int32) (q : Int32 × AH), f_X8_append_L28 n h a0 a1 a3 a4 = some q → Go l X k_X8_append 28 [(0, rf X a0), (1, .long a1), (3, .int a3), (4, .int a4)] [] h (rI q) := by
  intro n
  induction n with
  | zero =>
    intro h a0 a1 a3 a4 q hf
    unfold f_X8_append_L28 at hf
    cases hf
  | succ n ih =>
    intro h a0 a1 a3 a4 q hf
    unfold f_X8_append_L28 at hf
    refine g_iload (pc := 28) 3 dX8_append_28 rfl ?_
    refine g_iload_n (pc := 30) 2 dX8_append_30 rfl rfl ?_
    rcases it_some hf with ⟨c1, hf⟩ | ⟨c1, hf⟩
    · refine g_icge_t (pc := 31) (tgt := 70) dX8_append_31 (by decide) c1 ?_
      refine g_iload_n (pc := 70) 2 dX8_append_70 rfl rfl ?_
      refine g_iconst (pc := 71) (v := (1 : Int32)) dX8_append_71 (by decide) ?_
      refine g_isub (pc := 72) dX8_append_72 ?_
      obtain ⟨x2, ex2, hf⟩ := lt_some hf
      refine g_istore (pc := 73) (L' := [(4, .int x2), (0, rf X a0), (1, .long a1), (3, .int a3)]) dX8_append_73 (by decide) ex2 rfl ?_
      refine g_sub [1, 2, 0] rfl ?_
      exact ok_X8_append_L75 l X FU h a0 a1 x2 q hf
    · refine g_icge_f (pc := 31) (tgt := 70) dX8_append_31 (by decide) c1 ?_
      refine g_lload_n (pc := 34) 1 dX8_append_34 rfl rfl ?_
      refine g_bipush (pc := 35) (v := (8 : Int32)) dX8_append_35 (by decide) ?_
      refine g_iload (pc := 37) 3 dX8_append_37 rfl ?_
      refine g_imul (pc := 39) dX8_append_39 ?_
      refine g_lushr (pc := 40) dX8_append_40 ?_
      refine g_l2i (pc := 41) dX8_append_41 ?_
      refine g_sipush (pc := 42) (v := (255 : Int32)) dX8_append_42 (by decide) ?_
      refine g_iand (pc := 45) dX8_append_45 ?_
      obtain ⟨x3, ex3, hf⟩ := lt_some hf
      refine g_istore (pc := 46) (L' := [(5, .int x3), (0, rf X a0), (1, .long a1), (3, .int a3), (4, .int a4)]) dX8_append_46 (by decide) ex3 rfl ?_
      refine g_iload (pc := 48) 0 dX8_append_48 rfl ?_
      refine g_bipush (pc := 50) (v := (32 : Int32)) dX8_append_50 (by decide) ?_
      rcases it_some hf with ⟨c4, hf⟩ | ⟨c4, hf⟩
      · refine g_iclt_t (pc := 52) (tgt := 62) dX8_append_52 (by decide) c4 ?_
        refine g_iconst (pc := 62) (v := (0 : Int32)) dX8_append_62 (by decide) ?_
        obtain rfl := Option.some.inj hf
        exact g_zret (pc := 63) rfl rfl dX8_append_63
      · refine g_iclt_f (pc := 52) (tgt := 62) dX8_append_52 (by decide) c4 ?_
        refine g_iload (pc := 55) 0 dX8_append_55 rfl ?_
        refine g_bipush (pc := 57) (v := (126 : Int32)) dX8_append_57 (by decide) ?_
        rcases it_some hf with ⟨c5, hf⟩ | ⟨c5, hf⟩
        · refine g_icle_t (pc := 59) (tgt := 64) dX8_append_59 (by decide) c5 ?_
          obtain ⟨x6, ex6, hf⟩ := lt_some hf
          refine g_iinc (pc := 64) (y := x6) (L' := [(4, .int x6), (5, .int x3), (0, rf X a0), (1, .long a1), (3, .int a3)]) 4 dX8_append_64 rfl (by decide) (ex6.trans rfl) rfl ?_
          refine g_goto (pc := 67) (tgt := 28) dX8_append_67 (by decide) ?_
          refine g_sub [2, 3, 4, 0] rfl ?_
          exact ih h a0 a1 a3 x6 q hf
        · refine g_icle_f (pc := 59) (tgt := 64) dX8_append_59 (by decide) c5 ?_
          refine g_iconst (pc := 62) (v := (0 : Int32)) dX8_append_62 (by decide) ?_
          obtain rfl := Option.some.inj hf
          exact g_zret (pc := 63) rfl rfl dX8_append_63
set_option maxRecDepth 100000 in
set_option maxHeartbeats 4000000 in
theorem ok_X8_append (l : Launch) (X : Cx) {h : AH} {a0 : Nat} {a1 : Int64} {a3 : Int32} {q : Int32 × AH} (hf : f_X8_append h a0 a1 a3 = some q) : Go l X k_X8_append 0 [(0, rf X a0), (1, .long a1), (3, .int a3)] [] h (rI q) := by
  unfold f_X8_append at hf
  refine g_iload_n (pc := 0) 2 dX8_append_0 rfl rfl ?_
  refine g_iconst (pc := 1) (v := (1 : Int32)) dX8_append_1 (by decide) ?_
  rcases it_some hf with ⟨c1, hf⟩ | ⟨c1, hf⟩
  · refine g_iclt_t (pc := 2) (tgt := 23) dX8_append_2 (by decide) c1 ?_
    refine g_iconst (pc := 23) (v := (0 : Int32)) dX8_append_23 (by decide) ?_
    obtain rfl := Option.some.inj hf
    exact g_zret (pc := 24) rfl rfl dX8_append_24
  · refine g_iclt_f (pc := 2) (tgt := 23) dX8_append_2 (by decide) c1 ?_
    refine g_iload_n (pc := 5) 2 dX8_append_5 rfl rfl ?_
    refine g_bipush (pc := 6) (v := (8 : Int32)) dX8_append_6 (by decide) ?_
    rcases it_some hf with ⟨c2, hf⟩ | ⟨c2, hf⟩
    · refine g_icgt_t (pc := 8) (tgt := 23) dX8_append_8 (by decide) c2 ?_
      refine g_iconst (pc := 23) (v := (0 : Int32)) dX8_append_23 (by decide) ?_
      obtain rfl := Option.some.inj hf
      exact g_zret (pc := 24) rfl rfl dX8_append_24
    · refine g_icgt_f (pc := 8) (tgt := 23) dX8_append_8 (by decide) c2 ?_
      refine g_aload_n (pc := 11) 0 dX8_append_11 rfl rfl ?_
      obtain ⟨g3, hf⟩ := gs_some hf
      refine g_getI (pc := 12) fl_X8_15 dX8_append_12 g3 ?_
      refine g_iload_n (pc := 15) 2 dX8_append_15 rfl rfl ?_
      refine g_iadd (pc := 16) dX8_append_16 ?_
      refine g_sipush (pc := 17) (v := (1500 : Int32)) dX8_append_17 (by decide) ?_
      rcases it_some hf with ⟨c4, hf⟩ | ⟨c4, hf⟩
      · refine g_icle_t (pc := 20) (tgt := 25) dX8_append_20 (by decide) c4 ?_
        refine g_iconst (pc := 25) (v := (0 : Int32)) dX8_append_25 (by decide) ?_
        obtain ⟨x5, ex5, hf⟩ := lt_some hf
        refine g_istore (pc := 26) (L' := [(4, .int x5), (0, rf X a0), (1, .long a1), (3, .int a3)]) dX8_append_26 (by decide) ex5 rfl ?_
        refine g_sub [1, 2, 3, 0] rfl ?_
        exact ok_X8_append_L28 l X FU h a0 a1 a3 x5 q hf
      · refine g_icle_f (pc := 20) (tgt := 25) dX8_append_20 (by decide) c4 ?_
        refine g_iconst (pc := 23) (v := (0 : Int32)) dX8_append_23 (by decide) ?_
        obtain rfl := Option.some.inj hf
        exact g_zret (pc := 24) rfl rfl dX8_append_24
theorem ct_X8_append (l : Launch) (X : Cx) {h : AH} {a0 : Nat} {a1 : Int64} {a3 : Int32} {q : Int32 × AH} (hf : f_X8_append h a0 a1 a3 = some q) : Ct l X k_X8_append [rf X a0, .long a1, .int a3] h (rI q) := ct_of ck_X8_append (by simp [lg_sl, rf_cat, rq_cat, ca_i, ca_l, ca_r]) (by simp [lv_args, rf_cat, rq_cat, ca_i, ca_l, ca_r]) (ok_X8_append l X hf)
set_option maxRecDepth 100000 in
set_option maxHeartbeats 4000000 in
theorem ok_X8_clear (l : Launch) (X : Cx) {h : AH} {a0 : Nat} {q : AH} (hf : f_X8_clear h a0 = some q) : Go l X k_X8_clear 0 [(0, rf X a0)] [] h (rV q) := by
  unfold f_X8_clear at hf
  refine g_aload_n (pc := 0) 0 dX8_clear_0 rfl rfl ?_
  refine g_iconst (pc := 1) (v := (0 : Int32)) dX8_clear_1 (by decide) ?_
  obtain ⟨g1, hf⟩ := gs_some hf
  obtain ⟨h2, eh2, hf⟩ := lt_some hf
  refine g_putI (pc := 2) fl_X8_15 dX8_clear_2 g1 eh2 ?_
  obtain rfl := Option.some.inj hf
  exact g_vret (pc := 5) rfl dX8_clear_5
theorem ct_X8_clear (l : Launch) (X : Cx) {h : AH} {a0 : Nat} {q : AH} (hf : f_X8_clear h a0 = some q) : Ct l X k_X8_clear [rf X a0] h (rV q) := ct_of ck_X8_clear (by simp [lg_sl, rf_cat, rq_cat, ca_i, ca_l, ca_r]) (by simp [lv_args, rf_cat, rq_cat, ca_i, ca_l, ca_r]) (ok_X8_clear l X hf)
