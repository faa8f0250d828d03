set_option maxRecDepth 100000 in
set_option maxHeartbeats 4000000 in
theorem ok_X11_stops (l : Launch) (X : Cx) {h : AH} {a0 : Nat} {a1 : Int32} {a2 : Int32} {q : Int32 × AH} (hf : f_X11_stops h a0 a1 a2 = some q) : Go l X k_X11_stops 0 [(0, rf X a0), (1, .int a1), (2, .int a2)] [] h (rI q) := by
  unfold f_X11_stops at hf
  refine g_aload_n (pc := 0) 0 dX11_stops_0 rfl rfl ?_
  obtain ⟨g1, hf⟩ := gs_some hf
  refine g_getR (pc := 1) fl_X11_65 dX11_stops_1 g1 ?_
  refine g_iload_n (pc := 4) 1 dX11_stops_4 rfl rfl ?_
  refine g_iload_n (pc := 5) 2 dX11_stops_5 rfl rfl ?_
  obtain ⟨g2, hf⟩ := gs_some hf
  obtain ⟨b3, hf⟩ := gb_some hf
  obtain ⟨h4, eh4, hf⟩ := lt_some hf
  refine g_iast (pc := 6) g2 b3 dX11_stops_6 eh4 ?_
  refine g_aload_n (pc := 7) 0 dX11_stops_7 rfl rfl ?_
  refine g_iconst (pc := 8) (v := (0 : Int32)) dX11_stops_8 (by decide) ?_
  have g5 : hS h4 a0 = 10 := (hS_tI eh4 g1)
  obtain ⟨h6, eh6, hf⟩ := lt_some hf
  refine g_putI (pc := 9) fl_X11_570 dX11_stops_9 g5 eh6 ?_
  refine g_aload_n (pc := 12) 0 dX11_stops_12 rfl rfl ?_
  refine g_iconst (pc := 13) (v := (-1 : Int32)) dX11_stops_13 (by decide) ?_
  have g7 : hS h6 a0 = 10 := (hS_tI eh6 g5)
  obtain ⟨h8, eh8, hf⟩ := lt_some hf
  refine g_putI (pc := 14) fl_X11_576 dX11_stops_14 g7 eh8 ?_
  refine g_aload_n (pc := 17) 0 dX11_stops_17 rfl rfl ?_
  refine g_iload_n (pc := 18) 1 dX11_stops_18 rfl rfl ?_
  refine g_aload_n (pc := 19) 0 dX11_stops_19 rfl rfl ?_
  have g9 : hS h8 a0 = 10 := (hS_tI eh8 g7)
  refine g_getR (pc := 20) fl_X11_62 dX11_stops_20 g9 ?_
  refine g_iload_n (pc := 23) 1 dX11_stops_23 rfl rfl ?_
  obtain ⟨g10, hf⟩ := gs_some hf
  obtain ⟨b11, hf⟩ := gb_some hf
  refine g_iald (pc := 24) g10 b11 dX11_stops_24 ?_
  obtain ⟨q12, hcq12, hf⟩ := bd_some hf
  refine g_cVI (pc := 25) (k2 := k_X11_retire) (av := [.int a1, .int (hI h8 (hR h8 a0 26) a1.toNatClampNeg)]) (q := q12) rfl dX11_stops_25 ck_X11_retire m_1855 m_1857 m_93 (ci := 9) rfl (by decide) g9 (by decide) (by decide) rfl (by simp [rf_cat, rq_cat, ca_i, ca_l, ca_r]) (ct_X11_retire l X hcq12) ?_
  obtain rfl := Option.some.inj hf
  exact g_iret (pc := 28) rfl dX11_stops_28
theorem ct_X11_stops (l : Launch) (X : Cx) {h : AH} {a0 : Nat} {a1 : Int32} {a2 : Int32} {q : Int32 × AH} (hf : f_X11_stops h a0 a1 a2 = some q) : Ct l X k_X11_stops [rf X a0, .int a1, .int a2] h (rI q) := ct_of ck_X11_stops (by simp [lg_sl, rf_cat, rq_cat, ca_i, ca_l, ca_r]) (by simp [lv_args, rf_cat, rq_cat, ca_i, ca_l, ca_r]) (ok_X11_stops l X hf)
set_option maxRecDepth 100000 in
set_option maxHeartbeats 4000000 in
theorem ok_X11_isLessPlain (l : Launch) (X : Cx) {h : AH} {a0 : Int32} {a1 : Int32} {q : Int32} (hf : f_X11_isLessPlain h a0 a1 = some q) : Go l X k_X11_isLessPlain 0 [(0, .int a0), (1, .int a1)] [] h (rI (q, h)) := by
  unfold f_X11_isLessPlain at hf
  refine g_iload_n (pc := 0) 0 dX11_isLessPlain_0 rfl rfl ?_
  refine g_ldcw (pc := 1) (v := (-2147483648 : Int32)) m_1870 dX11_isLessPlain_1 ?_
  refine g_ixor (pc := 4) dX11_isLessPlain_4 ?_
  refine g_iload_n (pc := 5) 1 dX11_isLessPlain_5 rfl rfl ?_
  refine g_ldcw (pc := 6) (v := (-2147483648 : Int32)) m_1870 dX11_isLessPlain_6 ?_
  refine g_ixor (pc := 9) dX11_isLessPlain_9 ?_
  rcases it_some hf with ⟨c1, hf⟩ | ⟨c1, hf⟩
  · refine g_icge_t (pc := 10) (tgt := 17) dX11_isLessPlain_10 (by decide) c1 ?_
    refine g_iconst (pc := 17) (v := (0 : Int32)) dX11_isLessPlain_17 (by decide) ?_
    obtain rfl := Option.some.inj hf
    exact g_zret (pc := 18) rfl rfl dX11_isLessPlain_18
  · refine g_icge_f (pc := 10) (tgt := 17) dX11_isLessPlain_10 (by decide) c1 ?_
    refine g_iconst (pc := 13) (v := (1 : Int32)) dX11_isLessPlain_13 (by decide) ?_
    refine g_goto (pc := 14) (tgt := 18) dX11_isLessPlain_14 (by decide) ?_
    obtain rfl := Option.some.inj hf
    exact g_zret (pc := 18) rfl rfl dX11_isLessPlain_18
theorem ct_X11_isLessPlain (l : Launch) (X : Cx) {h : AH} {a0 : Int32} {a1 : Int32} {q : Int32} (hf : f_X11_isLessPlain h a0 a1 = some q) : Ct l X k_X11_isLessPlain [.int a0, .int a1] h (rI (q, h)) := ct_of ck_X11_isLessPlain (by simp [lg_sl, rf_cat, rq_cat, ca_i, ca_l, ca_r]) (by simp [lv_args, rf_cat, rq_cat, ca_i, ca_l, ca_r]) (ok_X11_isLessPlain l X hf)
set_option maxRecDepth 100000 in
set_option maxHeartbeats 4000000 in
theorem ok_X11_branch_L10 (l : Launch) (X : Cx) (h : AH) (a0 : Nat) (a1 : Int32) (q : Int32 × AH) (hf : f_X11_branch_L10 h a0 a1 = some q) : Go l X k_X11_branch 10 [(0, rf X a0), (1, .int a1)] [] h (rI q) := by
  unfold f_X11_branch_L10 at hf
  refine g_aload_n (pc := 10) 0 dX11_branch_10 rfl rfl ?_
  refine g_iload_n (pc := 11) 1 dX11_branch_11 rfl rfl ?_
  refine g_iconst (pc := 12) (v := (2 : Int32)) dX11_branch_12 (by decide) ?_
  obtain ⟨g1, hf⟩ := gs_some hf
  obtain ⟨q2, hcq2, hf⟩ := bd_some hf
  refine g_cVI (pc := 13) (k2 := k_X11_stops) (av := [.int a1, .int (2 : Int32)]) (q := q2) rfl dX11_branch_13 ck_X11_stops m_1859 m_1861 m_94 (ci := 9) rfl (by decide) g1 (by decide) (by decide) rfl (by simp [rf_cat, rq_cat, ca_i, ca_l, ca_r]) (ct_X11_stops l X hcq2) ?_
  obtain rfl := Option.some.inj hf
  exact g_iret (pc := 16) rfl dX11_branch_16
set_option maxRecDepth 100000 in
set_option maxHeartbeats 4000000 in
theorem ok_X11_branch_L149 (l : Launch) (X : Cx) (h : AH) (s0 : Nat) (s1 : Int32) (s2 : Int32) (s3 : Int32) (q : Int32 × AH) (hf : f_X11_branch_L149 h s0 s1 s2 s3 = some q) : Go l X k_X11_branch 149 [] [.int s3, .int s2, .int s1, rf X s0] h (rI q) := by
  unfold f_X11_branch_L149 at hf
  refine g_iadd (pc := 149) dX11_branch_149 ?_
  obtain ⟨g1, hf⟩ := gs_some hf
  obtain ⟨q2, hcq2, hf⟩ := bd_some hf
  refine g_cVI (pc := 150) (k2 := k_X11_retire) (av := [.int s1, .int (s2 + s3)]) (q := q2) rfl dX11_branch_150 ck_X11_retire m_1855 m_1857 m_93 (ci := 9) rfl (by decide) g1 (by decide) (by decide) rfl (by simp [rf_cat, rq_cat, ca_i, ca_l, ca_r]) (ct_X11_retire l X hcq2) ?_
  obtain rfl := Option.some.inj hf
  exact g_iret (pc := 153) rfl dX11_branch_153
set_option maxRecDepth 100000 in
set_option maxHeartbeats 4000000 in
theorem ok_X11_branch_L86 (l : Launch) (X : Cx) (h : AH) (a0 : Nat) (a1 : Int32) (a2 : Int32) (a6 : Int32) (q : Int32 × AH) (hf : f_X11_branch_L86 h a0 a1 a2 a6 = some q) : Go l X k_X11_branch 86 [(0, rf X a0), (1, .int a1), (2, .int a2), (6, .int a6)] [] h (rI q) := by
  unfold f_X11_branch_L86 at hf
  refine g_aload_n (pc := 86) 0 dX11_branch_86 rfl rfl ?_
  refine g_iconst (pc := 87) (v := (0 : Int32)) dX11_branch_87 (by decide) ?_
  obtain ⟨g1, hf⟩ := gs_some hf
  obtain ⟨h2, eh2, hf⟩ := lt_some hf
  refine g_putI (pc := 88) fl_X11_570 dX11_branch_88 g1 eh2 ?_
  refine g_iload_n (pc := 91) 2 dX11_branch_91 rfl rfl ?_
  refine g_bipush (pc := 92) (v := (31 : Int32)) dX11_branch_92 (by decide) ?_
  refine g_ishr (pc := 94) dX11_branch_94 ?_
  refine g_bipush (pc := 95) (v := (12 : Int32)) dX11_branch_95 (by decide) ?_
  refine g_ishl (pc := 97) dX11_branch_97 ?_
  refine g_iload_n (pc := 98) 2 dX11_branch_98 rfl rfl ?_
  refine g_bipush (pc := 99) (v := (7 : Int32)) dX11_branch_99 (by decide) ?_
  refine g_ishr (pc := 101) dX11_branch_101 ?_
  refine g_iconst (pc := 102) (v := (1 : Int32)) dX11_branch_102 (by decide) ?_
  refine g_iand (pc := 103) dX11_branch_103 ?_
  refine g_bipush (pc := 104) (v := (11 : Int32)) dX11_branch_104 (by decide) ?_
  refine g_ishl (pc := 106) dX11_branch_106 ?_
  refine g_ior (pc := 107) dX11_branch_107 ?_
  refine g_iload_n (pc := 108) 2 dX11_branch_108 rfl rfl ?_
  refine g_bipush (pc := 109) (v := (25 : Int32)) dX11_branch_109 (by decide) ?_
  refine g_ishr (pc := 111) dX11_branch_111 ?_
  refine g_bipush (pc := 112) (v := (63 : Int32)) dX11_branch_112 (by decide) ?_
  refine g_iand (pc := 114) dX11_branch_114 ?_
  refine g_iconst (pc := 115) (v := (5 : Int32)) dX11_branch_115 (by decide) ?_
  refine g_ishl (pc := 116) dX11_branch_116 ?_
  refine g_ior (pc := 117) dX11_branch_117 ?_
  refine g_iload_n (pc := 118) 2 dX11_branch_118 rfl rfl ?_
  refine g_bipush (pc := 119) (v := (8 : Int32)) dX11_branch_119 (by decide) ?_
  refine g_ishr (pc := 121) dX11_branch_121 ?_
  refine g_bipush (pc := 122) (v := (15 : Int32)) dX11_branch_122 (by decide) ?_
  refine g_iand (pc := 124) dX11_branch_124 ?_
  refine g_iconst (pc := 125) (v := (1 : Int32)) dX11_branch_125 (by decide) ?_
  refine g_ishl (pc := 126) dX11_branch_126 ?_
  refine g_ior (pc := 127) dX11_branch_127 ?_
  obtain ⟨x3, ex3, hf⟩ := lt_some hf
  refine g_istore (pc := 128) (L' := [(7, .int x3), (0, rf X a0), (1, .int a1), (2, .int a2), (6, .int a6)]) dX11_branch_128 (by decide) ex3 rfl ?_
  refine g_aload_n (pc := 130) 1 dX11_branch_130 rfl rfl ?_
  refine g_iload_n (pc := 131) 2 dX11_branch_131 rfl rfl ?_
  refine g_aload_n (pc := 132) 1 dX11_branch_132 rfl rfl ?_
  have g4 : hS h2 a0 = 10 := (hS_tI eh2 g1)
  refine g_getR (pc := 133) fl_X11_62 dX11_branch_133 g4 ?_
  refine g_iload_n (pc := 136) 2 dX11_branch_136 rfl rfl ?_
  obtain ⟨g5, hf⟩ := gs_some hf
  obtain ⟨b6, hf⟩ := gb_some hf
  refine g_iald (pc := 137) g5 b6 dX11_branch_137 ?_
  refine g_iload (pc := 138) 4 dX11_branch_138 rfl ?_
  rcases it_some hf with ⟨c7, hf⟩ | ⟨c7, hf⟩
  · refine g_ifeq_t (pc := 140) (tgt := 148) dX11_branch_140 (by decide) c7 ?_
    refine g_iconst (pc := 148) (v := (4 : Int32)) dX11_branch_148 (by decide) ?_
    refine g_sub [] rfl ?_
    exact ok_X11_branch_L149 l X h2 a0 a1 (hI h2 (hR h2 a0 26) a1.toNatClampNeg) (4 : Int32) q hf
  · refine g_ifeq_f (pc := 140) (tgt := 148) dX11_branch_140 (by decide) c7 ?_
    refine g_iload (pc := 143) 0 dX11_branch_143 rfl ?_
    refine g_goto (pc := 145) (tgt := 149) dX11_branch_145 (by decide) ?_
    refine g_sub [] rfl ?_
    exact ok_X11_branch_L149 l X h2 a0 a1 (hI h2 (hR h2 a0 26) a1.toNatClampNeg) x3 q hf
set_option maxRecDepth 100000 in
set_option maxHeartbeats 4000000 in
theorem ok_X11_branch_L84 (l : Launch) (X : Cx) (h : AH) (a0 : Nat) (a1 : Int32) (a2 : Int32) (s0 : Int32) (q : Int32 × AH) (hf : f_X11_branch_L84 h a0 a1 a2 s0 = some q) : Go l X k_X11_branch 84 [(0, rf X a0), (1, .int a1), (2, .int a2)] [.int s0] h (rI q) := by
  unfold f_X11_branch_L84 at hf
  refine g_istore (pc := 84) (L' := [(6, .int s0), (0, rf X a0), (1, .int a1), (2, .int a2)]) dX11_branch_84 (by decide) rfl rfl ?_
  refine g_sub [1, 2, 3, 0] rfl ?_
  exact ok_X11_branch_L86 l X h a0 a1 a2 s0 q hf
set_option maxRecDepth 100000 in
set_option maxHeartbeats 4000000 in
theorem ok_X11_branch_L65 (l : Launch) (X : Cx) (h : AH) (a0 : Nat) (a1 : Int32) (a2 : Int32) (a3 : Int32) (s0 : Int32) (q : Int32 × AH) (hf : f_X11_branch_L65 h a0 a1 a2 a3 s0 = some q) : Go l X k_X11_branch 65 [(0, rf X a0), (1, .int a1), (2, .int a2), (3, .int a3)] [.int s0] h (rI q) := by
  unfold f_X11_branch_L65 at hf
  refine g_istore (pc := 65) (L' := [(6, .int s0), (0, rf X a0), (1, .int a1), (2, .int a2), (3, .int a3)]) dX11_branch_65 (by decide) rfl rfl ?_
  refine g_iload_n (pc := 67) 4 dX11_branch_67 rfl rfl ?_
  refine g_iconst (pc := 68) (v := (2 : Int32)) dX11_branch_68 (by decide) ?_
  refine g_irem (pc := 69) (by decide) dX11_branch_69 ?_
  refine g_iconst (pc := 70) (v := (1 : Int32)) dX11_branch_70 (by decide) ?_
  rcases it_some hf with ⟨c1, hf⟩ | ⟨c1, hf⟩
  · refine g_icne_t (pc := 71) (tgt := 86) dX11_branch_71 (by decide) c1 ?_
    refine g_sub [1, 2, 3, 0] rfl ?_
    exact ok_X11_branch_L86 l X h a0 a1 a2 s0 q hf
  · refine g_icne_f (pc := 71) (tgt := 86) dX11_branch_71 (by decide) (Decidable.of_not_not c1) ?_
    refine g_iload (pc := 74) 0 dX11_branch_74 rfl ?_
    rcases it_some hf with ⟨c2, hf⟩ | ⟨c2, hf⟩
    · refine g_ifne_t (pc := 76) (tgt := 83) dX11_branch_76 (by decide) c2 ?_
      refine g_iconst (pc := 83) (v := (0 : Int32)) dX11_branch_83 (by decide) ?_
      refine g_sub [1, 2, 3] rfl ?_
      exact ok_X11_branch_L84 l X h a0 a1 a2 (0 : Int32) q hf
    · refine g_ifne_f (pc := 76) (tgt := 83) dX11_branch_76 (by decide) (Decidable.of_not_not c2) ?_
      refine g_iconst (pc := 79) (v := (1 : Int32)) dX11_branch_79 (by decide) ?_
      refine g_goto (pc := 80) (tgt := 84) dX11_branch_80 (by decide) ?_
      refine g_sub [1, 2, 3] rfl ?_
      exact ok_X11_branch_L84 l X h a0 a1 a2 (1 : Int32) q hf
set_option maxRecDepth 100000 in
set_option maxHeartbeats 4000000 in
theorem ok_X11_branch (l : Launch) (X : Cx) {h : AH} {a0 : Nat} {a1 : Int32} {a2 : Int32} {a3 : Int32} {a4 : Int32} {a5 : Int32} {q : Int32 × AH} (hf : f_X11_branch h a0 a1 a2 a3 a4 a5 = some q) : Go l X k_X11_branch 0 [(0, rf X a0), (1, .int a1), (2, .int a2), (3, .int a3), (4, .int a4), (5, .int a5)] [] h (rI q) := by
  unfold f_X11_branch at hf
  refine g_iload_n (pc := 0) 3 dX11_branch_0 rfl rfl ?_
  refine g_iconst (pc := 1) (v := (2 : Int32)) dX11_branch_1 (by decide) ?_
  rcases it_some hf with ⟨c1, hf⟩ | ⟨c1, hf⟩
  · refine g_iceq_t (pc := 2) (tgt := 10) dX11_branch_2 (by decide) c1 ?_
    refine g_sub [0, 1] rfl ?_
    exact ok_X11_branch_L10 l X h a0 a1 q hf
  · refine g_iceq_f (pc := 2) (tgt := 10) dX11_branch_2 (by decide) c1 ?_
    refine g_iload_n (pc := 5) 3 dX11_branch_5 rfl rfl ?_
    refine g_iconst (pc := 6) (v := (3 : Int32)) dX11_branch_6 (by decide) ?_
    rcases it_some hf with ⟨c2, hf⟩ | ⟨c2, hf⟩
    · refine g_icne_t (pc := 7) (tgt := 17) dX11_branch_7 (by decide) c2 ?_
      refine g_iload_n (pc := 17) 3 dX11_branch_17 rfl rfl ?_
      refine g_iconst (pc := 18) (v := (2 : Int32)) dX11_branch_18 (by decide) ?_
      rcases it_some hf with ⟨c3, hf⟩ | ⟨c3, hf⟩
      · refine g_icge_t (pc := 19) (tgt := 37) dX11_branch_19 (by decide) c3 ?_
        refine g_iload_n (pc := 37) 3 dX11_branch_37 rfl rfl ?_
        refine g_bipush (pc := 38) (v := (6 : Int32)) dX11_branch_38 (by decide) ?_
        rcases it_some hf with ⟨c4, hf⟩ | ⟨c4, hf⟩
        · refine g_icge_t (pc := 40) (tgt := 58) dX11_branch_40 (by decide) c4 ?_
          refine g_iload (pc := 58) 4 dX11_branch_58 rfl ?_
          refine g_iload (pc := 60) 5 dX11_branch_60 rfl ?_
          obtain ⟨v5, hcv5, hf⟩ := bd_some hf
          refine g_cSI (pc := 62) (k2 := k_X11_isLessPlain) (av := [.int a4, .int a5]) (q := (v5, h)) rfl dX11_branch_62 ck_X11_isLessPlain m_1867 m_1868 (by decide) (by decide) rfl (by simp [rf_cat, rq_cat, ca_i, ca_l, ca_r]) (ct_X11_isLessPlain l X hcv5) ?_
          refine g_sub [0, 1, 2, 3] rfl ?_
          exact ok_X11_branch_L65 l X h a0 a1 a2 a3 v5 q hf
        · refine g_icge_f (pc := 40) (tgt := 58) dX11_branch_40 (by decide) c4 ?_
          refine g_iload (pc := 43) 4 dX11_branch_43 rfl ?_
          refine g_iload (pc := 45) 5 dX11_branch_45 rfl ?_
          rcases it_some hf with ⟨c6, hf⟩ | ⟨c6, hf⟩
          · refine g_icge_t (pc := 47) (tgt := 54) dX11_branch_47 (by decide) c6 ?_
            refine g_iconst (pc := 54) (v := (0 : Int32)) dX11_branch_54 (by decide) ?_
            refine g_goto (pc := 55) (tgt := 65) dX11_branch_55 (by decide) ?_
            refine g_sub [0, 1, 2, 3] rfl ?_
            exact ok_X11_branch_L65 l X h a0 a1 a2 a3 (0 : Int32) q hf
          · refine g_icge_f (pc := 47) (tgt := 54) dX11_branch_47 (by decide) c6 ?_
            refine g_iconst (pc := 50) (v := (1 : Int32)) dX11_branch_50 (by decide) ?_
            refine g_goto (pc := 51) (tgt := 65) dX11_branch_51 (by decide) ?_
            refine g_sub [0, 1, 2, 3] rfl ?_
            exact ok_X11_branch_L65 l X h a0 a1 a2 a3 (1 : Int32) q hf
      · refine g_icge_f (pc := 19) (tgt := 37) dX11_branch_19 (by decide) c3 ?_
        refine g_iload (pc := 22) 4 dX11_branch_22 rfl ?_
        refine g_iload (pc := 24) 5 dX11_branch_24 rfl ?_
        rcases it_some hf with ⟨c7, hf⟩ | ⟨c7, hf⟩
        · refine g_icne_t (pc := 26) (tgt := 33) dX11_branch_26 (by decide) c7 ?_
          refine g_iconst (pc := 33) (v := (0 : Int32)) dX11_branch_33 (by decide) ?_
          refine g_goto (pc := 34) (tgt := 65) dX11_branch_34 (by decide) ?_
          refine g_sub [0, 1, 2, 3] rfl ?_
          exact ok_X11_branch_L65 l X h a0 a1 a2 a3 (0 : Int32) q hf
        · refine g_icne_f (pc := 26) (tgt := 33) dX11_branch_26 (by decide) (Decidable.of_not_not c7) ?_
          refine g_iconst (pc := 29) (v := (1 : Int32)) dX11_branch_29 (by decide) ?_
          refine g_goto (pc := 30) (tgt := 65) dX11_branch_30 (by decide) ?_
          refine g_sub [0, 1, 2, 3] rfl ?_
          exact ok_X11_branch_L65 l X h a0 a1 a2 a3 (1 : Int32) q hf
    · refine g_icne_f (pc := 7) (tgt := 17) dX11_branch_7 (by decide) (Decidable.of_not_not c2) ?_
      refine g_sub [0, 1] rfl ?_
      exact ok_X11_branch_L10 l X h a0 a1 q hf
theorem ct_X11_branch (l : Launch) (X : Cx) {h : AH} {a0 : Nat} {a1 : Int32} {a2 : Int32} {a3 : Int32} {a4 : Int32} {a5 : Int32} {q : Int32 × AH} (hf : f_X11_branch h a0 a1 a2 a3 a4 a5 = some q) : Ct l X k_X11_branch [rf X a0, .int a1, .int a2, .int a3, .int a4, .int a5] h (rI q) := ct_of ck_X11_branch (by simp [lg_sl, rf_cat, rq_cat, ca_i, ca_l, ca_r]) (by simp [lv_args, rf_cat, rq_cat, ca_i, ca_l, ca_r]) (ok_X11_branch l X hf)
set_option maxRecDepth 100000 in
set_option maxHeartbeats 4000000 in
theorem ok_X11_load_L10 (l : Launch) (X : Cx) (h : AH) (a0 : Nat) (a1 : Int32) (q : Int32 × AH) (hf : f_X11_load_L10 h a0 a1 = some q) : Go l X k_X11_load 10 [(0, rf X a0), (1, .int a1)] [] h (rI q) := by
  unfold f_X11_load_L10 at hf
  refine g_aload_n (pc := 10) 0 dX11_load_10 rfl rfl ?_
  refine g_iload_n (pc := 11) 1 dX11_load_11 rfl rfl ?_
  refine g_iconst (pc := 12) (v := (2 : Int32)) dX11_load_12 (by decide) ?_
  obtain ⟨g1, hf⟩ := gs_some hf
  obtain ⟨q2, hcq2, hf⟩ := bd_some hf
  refine g_cVI (pc := 13) (k2 := k_X11_stops) (av := [.int a1, .int (2 : Int32)]) (q := q2) rfl dX11_load_13 ck_X11_stops m_1859 m_1861 m_94 (ci := 9) rfl (by decide) g1 (by decide) (by decide) rfl (by simp [rf_cat, rq_cat, ca_i, ca_l, ca_r]) (ct_X11_stops l X hcq2) ?_
  obtain rfl := Option.some.inj hf
  exact g_iret (pc := 16) rfl dX11_load_16
set_option maxRecDepth 100000 in
set_option maxHeartbeats 4000000 in
theorem ok_X11_load_L122 (l : Launch) (X : Cx) (h : AH) (a0 : Nat) (a1 : Int32) (a3 : Int32) (a6 : Int32) (a8 : Int32) (q : Int32 × AH) (hf : f_X11_load_L122 h a0 a1 a3 a6 a8 = some q) : Go l X k_X11_load 122 [(0, rf X a0), (1, .int a1), (3, .int a3), (6, .int a6), (8, .int a8)] [] h (rI q) := by
  unfold f_X11_load_L122 at hf
  refine g_aload_n (pc := 122) 0 dX11_load_122 rfl rfl ?_
  refine g_iload_n (pc := 123) 1 dX11_load_123 rfl rfl ?_
  refine g_iload_n (pc := 124) 2 dX11_load_124 rfl rfl ?_
  refine g_iload (pc := 125) 4 dX11_load_125 rfl ?_
  obtain ⟨g1, hf⟩ := gs_some hf
  obtain ⟨q2, hcq2, hf⟩ := bd_some hf
  refine g_cVV (pc := 127) (k2 := k_X11_setReg) (av := [.int a1, .int a3, .int a8]) (q := q2) rfl dX11_load_127 ck_X11_setReg m_1851 m_1853 m_92 (ci := 9) rfl (by decide) g1 (by decide) (by decide) rfl (by simp [rf_cat, rq_cat, ca_i, ca_l, ca_r]) (ct_X11_setReg l X hcq2) ?_
  refine g_aload_n (pc := 130) 0 dX11_load_130 rfl rfl ?_
  refine g_iload (pc := 131) 3 dX11_load_131 rfl ?_
  obtain ⟨g3, hf⟩ := gs_some hf
  obtain ⟨h4, eh4, hf⟩ := lt_some hf
  refine g_putI (pc := 133) fl_X11_576 dX11_load_133 g3 eh4 ?_
  refine g_aload_n (pc := 136) 0 dX11_load_136 rfl rfl ?_
  refine g_iload (pc := 137) 4 dX11_load_137 rfl ?_
  have g5 : hS h4 a0 = 10 := (hS_tI eh4 g3)
  obtain ⟨h6, eh6, hf⟩ := lt_some hf
  refine g_putI (pc := 139) fl_X11_579 dX11_load_139 g5 eh6 ?_
  refine g_aload_n (pc := 142) 0 dX11_load_142 rfl rfl ?_
  refine g_iload_n (pc := 143) 1 dX11_load_143 rfl rfl ?_
  refine g_aload_n (pc := 144) 0 dX11_load_144 rfl rfl ?_
  have g7 : hS h6 a0 = 10 := (hS_tI eh6 g5)
  refine g_getR (pc := 145) fl_X11_62 dX11_load_145 g7 ?_
  refine g_iload_n (pc := 148) 1 dX11_load_148 rfl rfl ?_
  obtain ⟨g8, hf⟩ := gs_some hf
  obtain ⟨b9, hf⟩ := gb_some hf
  refine g_iald (pc := 149) g8 b9 dX11_load_149 ?_
  refine g_iconst (pc := 150) (v := (4 : Int32)) dX11_load_150 (by decide) ?_
  refine g_iadd (pc := 151) dX11_load_151 ?_
  obtain ⟨q10, hcq10, hf⟩ := bd_some hf
  refine g_cVI (pc := 152) (k2 := k_X11_retire) (av := [.int a1, .int ((hI h6 (hR h6 a0 26) a1.toNatClampNeg) + (4 : Int32))]) (q := q10) rfl dX11_load_152 ck_X11_retire m_1855 m_1857 m_93 (ci := 9) rfl (by decide) g7 (by decide) (by decide) rfl (by simp [rf_cat, rq_cat, ca_i, ca_l, ca_r]) (ct_X11_retire l X hcq10) ?_
  obtain rfl := Option.some.inj hf
  exact g_iret (pc := 155) rfl dX11_load_155
set_option maxRecDepth 100000 in
set_option maxHeartbeats 4000000 in
theorem ok_X11_load_L112 (l : Launch) (X : Cx) (h : AH) (a0 : Nat) (a1 : Int32) (a2 : Int32) (a3 : Int32) (a6 : Int32) (a8 : Int32) (q : Int32 × AH) (hf : f_X11_load_L112 h a0 a1 a2 a3 a6 a8 = some q) : Go l X k_X11_load 112 [(0, rf X a0), (1, .int a1), (2, .int a2), (3, .int a3), (6, .int a6), (8, .int a8)] [] h (rI q) := by
  unfold f_X11_load_L112 at hf
  refine g_iload_n (pc := 112) 2 dX11_load_112 rfl rfl ?_
  refine g_iconst (pc := 113) (v := (1 : Int32)) dX11_load_113 (by decide) ?_
  rcases it_some hf with ⟨c1, hf⟩ | ⟨c1, hf⟩
  · refine g_icne_t (pc := 114) (tgt := 122) dX11_load_114 (by decide) c1 ?_
    refine g_sub [0, 1, 3, 4, 5] rfl ?_
    exact ok_X11_load_L122 l X h a0 a1 a3 a6 a8 q hf
  · refine g_icne_f (pc := 114) (tgt := 122) dX11_load_114 (by decide) (Decidable.of_not_not c1) ?_
    refine g_iload (pc := 117) 5 dX11_load_117 rfl ?_
    refine g_i2s (pc := 119) dX11_load_119 ?_
    obtain ⟨x2, ex2, hf⟩ := lt_some hf
    refine g_istore (pc := 120) (L' := [(8, .int x2), (0, rf X a0), (1, .int a1), (2, .int a2), (3, .int a3), (6, .int a6)]) dX11_load_120 (by decide) ex2 rfl ?_
    refine g_sub [1, 2, 4, 5, 0] rfl ?_
    exact ok_X11_load_L122 l X h a0 a1 a3 a6 x2 q hf
set_option maxRecDepth 100000 in
set_option maxHeartbeats 4000000 in
theorem ok_X11_load_L39 (l : Launch) (X : Cx) (h : AH) (a0 : Nat) (a1 : Int32) (a2 : Int32) (a3 : Int32) (a4 : Int32) (s0 : Int32) (q : Int32 × AH) (hf : f_X11_load_L39 h a0 a1 a2 a3 a4 s0 = some q) : Go l X k_X11_load 39 [(0, rf X a0), (1, .int a1), (2, .int a2), (3, .int a3), (4, .int a4)] [.int s0] h (rI q) := by
  unfold f_X11_load_L39 at hf
  refine g_istore (pc := 39) (L' := [(5, .int s0), (0, rf X a0), (1, .int a1), (2, .int a2), (3, .int a3), (4, .int a4)]) dX11_load_39 (by decide) rfl rfl ?_
  refine g_iload (pc := 41) 5 dX11_load_41 rfl ?_
  refine g_iload (pc := 43) 0 dX11_load_43 rfl ?_
  obtain ⟨b1, hf⟩ := gb_some hf
  refine g_irem (pc := 45) (of_decide_eq_true b1) dX11_load_45 ?_
  rcases it_some hf with ⟨c2, hf⟩ | ⟨c2, hf⟩
  · refine g_ifeq_t (pc := 46) (tgt := 56) dX11_load_46 (by decide) c2 ?_
    refine g_iload (pc := 56) 5 dX11_load_56 rfl ?_
    refine g_sipush (pc := 58) (v := (8191 : Int32)) dX11_load_58 (by decide) ?_
    refine g_iand (pc := 61) dX11_load_61 ?_
    obtain ⟨x3, ex3, hf⟩ := lt_some hf
    refine g_istore (pc := 62) (L' := [(6, .int x3), (5, .int s0), (0, rf X a0), (1, .int a1), (2, .int a2), (3, .int a3), (4, .int a4)]) dX11_load_62 (by decide) ex3 rfl ?_
    refine g_iload (pc := 64) 0 dX11_load_64 rfl ?_
    refine g_iconst (pc := 66) (v := (4 : Int32)) dX11_load_66 (by decide) ?_
    refine g_irem (pc := 67) (by decide) dX11_load_67 ?_
    obtain ⟨x4, ex4, hf⟩ := lt_some hf
    refine g_istore (pc := 68) (L' := [(7, .int x4), (6, .int x3), (5, .int s0), (0, rf X a0), (1, .int a1), (2, .int a2), (3, .int a3), (4, .int a4)]) dX11_load_68 (by decide) ex4 rfl ?_
    refine g_aload_n (pc := 70) 3 dX11_load_70 rfl rfl ?_
    refine g_iload_n (pc := 71) 4 dX11_load_71 rfl rfl ?_
    refine g_iload (pc := 72) 1 dX11_load_72 rfl ?_
    refine g_iconst (pc := 74) (v := (1 : Int32)) dX11_load_74 (by decide) ?_
    refine g_iload (pc := 75) 2 dX11_load_75 rfl ?_
    refine g_ishl (pc := 77) dX11_load_77 ?_
    refine g_iconst (pc := 78) (v := (1 : Int32)) dX11_load_78 (by decide) ?_
    refine g_isub (pc := 79) dX11_load_79 ?_
    refine g_iload (pc := 80) 0 dX11_load_80 rfl ?_
    refine g_ishl (pc := 82) dX11_load_82 ?_
    obtain ⟨g5, hf⟩ := gs_some hf
    obtain ⟨q6, hcq6, hf⟩ := bd_some hf
    refine g_cVI (pc := 83) (k2 := k_X11_reads) (av := [.int a1, .int x3, .int ((((1 : Int32) <<< (s0 &&& 31)) - (1 : Int32)) <<< (x4 &&& 31))]) (q := q6) rfl dX11_load_83 ck_X11_reads m_1800 m_1802 m_80 (ci := 9) rfl (by decide) g5 (by decide) (by decide) rfl (by simp [rf_cat, rq_cat, ca_i, ca_l, ca_r]) (ct_X11_reads l X hcq6) ?_
    rcases it_some hf with ⟨c7, hf⟩ | ⟨c7, hf⟩
    · refine g_ifne_t (pc := 86) (tgt := 91) dX11_load_86 (by decide) c7 ?_
      refine g_aload_n (pc := 91) 3 dX11_load_91 rfl rfl ?_
      obtain ⟨g8, hf⟩ := gs_some hf
      refine g_getI (pc := 92) fl_X11_554 dX11_load_92 g8 ?_
      refine g_bipush (pc := 95) (v := (8 : Int32)) dX11_load_95 (by decide) ?_
      refine g_iload (pc := 97) 0 dX11_load_97 rfl ?_
      refine g_imul (pc := 99) dX11_load_99 ?_
      refine g_iushr (pc := 100) dX11_load_100 ?_
      obtain ⟨x9, ex9, hf⟩ := lt_some hf
      refine g_istore (pc := 101) (L' := [(8, .int x9), (7, .int x4), (6, .int x3), (5, .int s0), (0, rf X a0), (1, .int a1), (2, .int a2), (3, .int a3), (4, .int a4)]) dX11_load_101 (by decide) ex9 rfl ?_
      refine g_iload_n (pc := 103) 6 dX11_load_103 rfl rfl ?_
      rcases it_some hf with ⟨c10, hf⟩ | ⟨c10, hf⟩
      · refine g_ifne_t (pc := 104) (tgt := 112) dX11_load_104 (by decide) c10 ?_
        refine g_sub [4, 5, 6, 7, 2, 0] rfl ?_
        exact ok_X11_load_L112 l X q6.2 a0 a1 a2 a3 x3 x9 q hf
      · refine g_ifne_f (pc := 104) (tgt := 112) dX11_load_104 (by decide) (Decidable.of_not_not c10) ?_
        refine g_iload (pc := 107) 0 dX11_load_107 rfl ?_
        refine g_i2b (pc := 109) dX11_load_109 ?_
        obtain ⟨x11, ex11, hf⟩ := lt_some hf
        refine g_istore (pc := 110) (L' := [(8, .int x11), (7, .int x4), (6, .int x3), (5, .int s0), (0, rf X a0), (1, .int a1), (2, .int a2), (3, .int a3), (4, .int a4)]) dX11_load_110 (by decide) ex11 rfl ?_
        refine g_sub [4, 5, 6, 7, 2, 0] rfl ?_
        exact ok_X11_load_L112 l X q6.2 a0 a1 a2 a3 x3 x11 q hf
    · refine g_ifne_f (pc := 86) (tgt := 91) dX11_load_86 (by decide) (Decidable.of_not_not c7) ?_
      refine g_iconst (pc := 89) (v := (3 : Int32)) dX11_load_89 (by decide) ?_
      obtain rfl := Option.some.inj hf
      exact g_iret (pc := 90) rfl dX11_load_90
  · refine g_ifeq_f (pc := 46) (tgt := 56) dX11_load_46 (by decide) c2 ?_
    refine g_aload_n (pc := 49) 1 dX11_load_49 rfl rfl ?_
    refine g_iload_n (pc := 50) 2 dX11_load_50 rfl rfl ?_
    refine g_iconst (pc := 51) (v := (4 : Int32)) dX11_load_51 (by decide) ?_
    obtain ⟨g12, hf⟩ := gs_some hf
    obtain ⟨q13, hcq13, hf⟩ := bd_some hf
    refine g_cVI (pc := 52) (k2 := k_X11_stops) (av := [.int a1, .int (4 : Int32)]) (q := q13) rfl dX11_load_52 ck_X11_stops m_1859 m_1861 m_94 (ci := 9) rfl (by decide) g12 (by decide) (by decide) rfl (by simp [rf_cat, rq_cat, ca_i, ca_l, ca_r]) (ct_X11_stops l X hcq13) ?_
    obtain rfl := Option.some.inj hf
    exact g_iret (pc := 55) rfl dX11_load_55
set_option maxRecDepth 100000 in
set_option maxHeartbeats 4000000 in
theorem ok_X11_load (l : Launch) (X : Cx) {h : AH} {a0 : Nat} {a1 : Int32} {a2 : Int32} {a3 : Int32} {a4 : Int32} {q : Int32 × AH} (hf : f_X11_load h a0 a1 a2 a3 a4 = some q) : Go l X k_X11_load 0 [(0, rf X a0), (1, .int a1), (2, .int a2), (3, .int a3), (4, .int a4)] [] h (rI q) := by
  unfold f_X11_load at hf
  refine g_iload_n (pc := 0) 2 dX11_load_0 rfl rfl ?_
  refine g_iconst (pc := 1) (v := (3 : Int32)) dX11_load_1 (by decide) ?_
  rcases it_some hf with ⟨c1, hf⟩ | ⟨c1, hf⟩
  · refine g_iceq_t (pc := 2) (tgt := 10) dX11_load_2 (by decide) c1 ?_
    refine g_sub [0, 1] rfl ?_
    exact ok_X11_load_L10 l X h a0 a1 q hf
  · refine g_iceq_f (pc := 2) (tgt := 10) dX11_load_2 (by decide) c1 ?_
    refine g_iload_n (pc := 5) 2 dX11_load_5 rfl rfl ?_
    refine g_iconst (pc := 6) (v := (5 : Int32)) dX11_load_6 (by decide) ?_
    rcases it_some hf with ⟨c2, hf⟩ | ⟨c2, hf⟩
    · refine g_icle_t (pc := 7) (tgt := 17) dX11_load_7 (by decide) c2 ?_
      refine g_iload_n (pc := 17) 2 dX11_load_17 rfl rfl ?_
      refine g_iconst (pc := 18) (v := (4 : Int32)) dX11_load_18 (by decide) ?_
      refine g_irem (pc := 19) (by decide) dX11_load_19 ?_
      rcases it_some hf with ⟨c3, hf⟩ | ⟨c3, hf⟩
      · refine g_ifne_t (pc := 20) (tgt := 27) dX11_load_20 (by decide) c3 ?_
        refine g_iload_n (pc := 27) 2 dX11_load_27 rfl rfl ?_
        refine g_iconst (pc := 28) (v := (4 : Int32)) dX11_load_28 (by decide) ?_
        refine g_irem (pc := 29) (by decide) dX11_load_29 ?_
        refine g_iconst (pc := 30) (v := (1 : Int32)) dX11_load_30 (by decide) ?_
        rcases it_some hf with ⟨c4, hf⟩ | ⟨c4, hf⟩
        · refine g_icne_t (pc := 31) (tgt := 38) dX11_load_31 (by decide) c4 ?_
          refine g_iconst (pc := 38) (v := (4 : Int32)) dX11_load_38 (by decide) ?_
          exact ok_X11_load_L39 l X h a0 a1 a2 a3 a4 (4 : Int32) q hf
        · refine g_icne_f (pc := 31) (tgt := 38) dX11_load_31 (by decide) (Decidable.of_not_not c4) ?_
          refine g_iconst (pc := 34) (v := (2 : Int32)) dX11_load_34 (by decide) ?_
          refine g_goto (pc := 35) (tgt := 39) dX11_load_35 (by decide) ?_
          exact ok_X11_load_L39 l X h a0 a1 a2 a3 a4 (2 : Int32) q hf
      · refine g_ifne_f (pc := 20) (tgt := 27) dX11_load_20 (by decide) (Decidable.of_not_not c3) ?_
        refine g_iconst (pc := 23) (v := (1 : Int32)) dX11_load_23 (by decide) ?_
        refine g_goto (pc := 24) (tgt := 39) dX11_load_24 (by decide) ?_
        exact ok_X11_load_L39 l X h a0 a1 a2 a3 a4 (1 : Int32) q hf
    · refine g_icle_f (pc := 7) (tgt := 17) dX11_load_7 (by decide) c2 ?_
      refine g_sub [0, 1] rfl ?_
      exact ok_X11_load_L10 l X h a0 a1 q hf
theorem ct_X11_load (l : Launch) (X : Cx) {h : AH} {a0 : Nat} {a1 : Int32} {a2 : Int32} {a3 : Int32} {a4 : Int32} {q : Int32 × AH} (hf : f_X11_load h a0 a1 a2 a3 a4 = some q) : Ct l X k_X11_load [rf X a0, .int a1, .int a2, .int a3, .int a4] h (rI q) := ct_of ck_X11_load (by simp [lg_sl, rf_cat, rq_cat, ca_i, ca_l, ca_r]) (by simp [lv_args, rf_cat, rq_cat, ca_i, ca_l, ca_r]) (ok_X11_load l X hf)
set_option maxRecDepth 100000 in
set_option maxHeartbeats 4000000 in
theorem ok_X11_store_L98 (l : Launch) (X : Cx) (h : AH) (a0 : Nat) (a1 : Int32) (a4 : Int32) (a5 : Int32) (a6 : Int32) (a7 : Int32) (q : Int32 × AH) (hf : f_X11_store_L98 h a0 a1 a4 a5 a6 a7 = some q) : Go l X k_X11_store 98 [(0, rf X a0), (1, .int a1), (4, .int a4), (5, .int a5), (6, .int a6), (7, .int a7)] [] h (rI q) := by
  unfold f_X11_store_L98 at hf
  refine g_aload_n (pc := 98) 0 dX11_store_98 rfl rfl ?_
  obtain ⟨g1, hf⟩ := gs_some hf
  refine g_getR (pc := 99) fl_X11_83 dX11_store_99 g1 ?_
  refine g_iload (pc := 102) 5 dX11_store_102 rfl ?_
  refine g_iload (pc := 104) 2 dX11_store_104 rfl ?_
  refine g_bipush (pc := 106) (v := (8 : Int32)) dX11_store_106 (by decide) ?_
  refine g_iload (pc := 108) 4 dX11_store_108 rfl ?_
  refine g_iconst (pc := 110) (v := (4 : Int32)) dX11_store_110 (by decide) ?_
  refine g_irem (pc := 111) (by decide) dX11_store_111 ?_
  refine g_imul (pc := 112) dX11_store_112 ?_
  refine g_ishl (pc := 113) dX11_store_113 ?_
  refine g_aload_n (pc := 114) 0 dX11_store_114 rfl rfl ?_
  refine g_getR (pc := 115) fl_X11_80 dX11_store_115 g1 ?_
  refine g_iload (pc := 118) 5 dX11_store_118 rfl ?_
  obtain ⟨g2, hf⟩ := gs_some hf
  obtain ⟨b3, hf⟩ := gb_some hf
  refine g_iald (pc := 120) g2 b3 dX11_store_120 ?_
  obtain ⟨v4, hcv4, hf⟩ := bd_some hf
  refine g_cSI (pc := 121) (k2 := k_X11_maskOf) (av := [.int (hI h (hR h a0 32) a7.toNatClampNeg)]) (q := (v4, h)) rfl dX11_store_121 ck_X11_maskOf m_1804 m_1805 (by decide) (by decide) rfl (by simp [rf_cat, rq_cat, ca_i, ca_l, ca_r]) (ct_X11_maskOf l X hcv4) ?_
  refine g_iand (pc := 124) dX11_store_124 ?_
  obtain ⟨g5, hf⟩ := gs_some hf
  obtain ⟨b6, hf⟩ := gb_some hf
  obtain ⟨h7, eh7, hf⟩ := lt_some hf
  refine g_iast (pc := 125) g5 b6 dX11_store_125 eh7 ?_
  refine g_aload_n (pc := 126) 0 dX11_store_126 rfl rfl ?_
  have g8 : hS h7 a0 = 10 := (hS_tI eh7 g1)
  refine g_getR (pc := 127) fl_X11_74 dX11_store_127 g8 ?_
  refine g_iload_n (pc := 130) 1 dX11_store_130 rfl rfl ?_
  refine g_dup2 (pc := 131) dX11_store_131 rfl (rf_cat X _) ?_
  obtain ⟨g9, hf⟩ := gs_some hf
  obtain ⟨b10, hf⟩ := gb_some hf
  refine g_iald (pc := 132) g9 b10 dX11_store_132 ?_
  refine g_iconst (pc := 133) (v := (1 : Int32)) dX11_store_133 (by decide) ?_
  refine g_iadd (pc := 134) dX11_store_134 ?_
  obtain ⟨b11, hf⟩ := gb_some hf
  obtain ⟨h12, eh12, hf⟩ := lt_some hf
  refine g_iast (pc := 135) g9 b11 dX11_store_135 eh12 ?_
  refine g_aload_n (pc := 136) 0 dX11_store_136 rfl rfl ?_
  refine g_iconst (pc := 137) (v := (0 : Int32)) dX11_store_137 (by decide) ?_
  have g13 : hS h12 a0 = 10 := (hS_tI eh12 g8)
  obtain ⟨h14, eh14, hf⟩ := lt_some hf
  refine g_putI (pc := 138) fl_X11_570 dX11_store_138 g13 eh14 ?_
  refine g_aload_n (pc := 141) 0 dX11_store_141 rfl rfl ?_
  refine g_iload (pc := 142) 4 dX11_store_142 rfl ?_
  have g15 : hS h14 a0 = 10 := (hS_tI eh14 g13)
  obtain ⟨h16, eh16, hf⟩ := lt_some hf
  refine g_putI (pc := 144) fl_X11_576 dX11_store_144 g15 eh16 ?_
  refine g_aload_n (pc := 147) 0 dX11_store_147 rfl rfl ?_
  refine g_iload (pc := 148) 2 dX11_store_148 rfl ?_
  refine g_iconst (pc := 150) (v := (1 : Int32)) dX11_store_150 (by decide) ?_
  refine g_iload (pc := 151) 3 dX11_store_151 rfl ?_
  refine g_ishl (pc := 153) dX11_store_153 ?_
  refine g_iconst (pc := 154) (v := (1 : Int32)) dX11_store_154 (by decide) ?_
  refine g_isub (pc := 155) dX11_store_155 ?_
  obtain ⟨v17, hcv17, hf⟩ := bd_some hf
  refine g_cSI (pc := 156) (k2 := k_X11_maskOf) (av := [.int (((1 : Int32) <<< (a5 &&& 31)) - (1 : Int32))]) (q := (v17, h16)) rfl dX11_store_156 ck_X11_maskOf m_1804 m_1805 (by decide) (by decide) rfl (by simp [rf_cat, rq_cat, ca_i, ca_l, ca_r]) (ct_X11_maskOf l X hcv17) ?_
  refine g_iand (pc := 159) dX11_store_159 ?_
  have g18 : hS h16 a0 = 10 := (hS_tI eh16 g15)
  obtain ⟨h19, eh19, hf⟩ := lt_some hf
  refine g_putI (pc := 160) fl_X11_582 dX11_store_160 g18 eh19 ?_
  refine g_aload_n (pc := 163) 0 dX11_store_163 rfl rfl ?_
  refine g_iload_n (pc := 164) 1 dX11_store_164 rfl rfl ?_
  refine g_aload_n (pc := 165) 0 dX11_store_165 rfl rfl ?_
  have g20 : hS h19 a0 = 10 := (hS_tI eh19 g18)
  refine g_getR (pc := 166) fl_X11_62 dX11_store_166 g20 ?_
  refine g_iload_n (pc := 169) 1 dX11_store_169 rfl rfl ?_
  obtain ⟨g21, hf⟩ := gs_some hf
  obtain ⟨b22, hf⟩ := gb_some hf
  refine g_iald (pc := 170) g21 b22 dX11_store_170 ?_
  refine g_iconst (pc := 171) (v := (4 : Int32)) dX11_store_171 (by decide) ?_
  refine g_iadd (pc := 172) dX11_store_172 ?_
  obtain ⟨q23, hcq23, hf⟩ := bd_some hf
  refine g_cVI (pc := 173) (k2 := k_X11_retire) (av := [.int a1, .int ((hI h19 (hR h19 a0 26) a1.toNatClampNeg) + (4 : Int32))]) (q := q23) rfl dX11_store_173 ck_X11_retire m_1855 m_1857 m_93 (ci := 9) rfl (by decide) g20 (by decide) (by decide) rfl (by simp [rf_cat, rq_cat, ca_i, ca_l, ca_r]) (ct_X11_retire l X hcq23) ?_
  obtain rfl := Option.some.inj hf
  exact g_iret (pc := 176) rfl dX11_store_176
set_option maxRecDepth 100000 in
set_option maxHeartbeats 4000000 in
theorem ok_X11_store (l : Launch) (X : Cx) {h : AH} {a0 : Nat} {a1 : Int32} {a2 : Int32} {a3 : Int32} {a4 : Int32} {q : Int32 × AH} (hf : f_X11_store h a0 a1 a2 a3 a4 = some q) : Go l X k_X11_store 0 [(0, rf X a0), (1, .int a1), (2, .int a2), (3, .int a3), (4, .int a4)] [] h (rI q) := by
  unfold f_X11_store at hf
  refine g_iload_n (pc := 0) 2 dX11_store_0 rfl rfl ?_
  refine g_iconst (pc := 1) (v := (2 : Int32)) dX11_store_1 (by decide) ?_
  rcases it_some hf with ⟨c1, hf⟩ | ⟨c1, hf⟩
  · refine g_icle_t (pc := 2) (tgt := 12) dX11_store_2 (by decide) c1 ?_
    refine g_iconst (pc := 12) (v := (1 : Int32)) dX11_store_12 (by decide) ?_
    refine g_iload_n (pc := 13) 2 dX11_store_13 rfl rfl ?_
    refine g_ishl (pc := 14) dX11_store_14 ?_
    obtain ⟨x2, ex2, hf⟩ := lt_some hf
    refine g_istore (pc := 15) (L' := [(5, .int x2), (0, rf X a0), (1, .int a1), (2, .int a2), (3, .int a3), (4, .int a4)]) dX11_store_15 (by decide) ex2 rfl ?_
    refine g_iload_n (pc := 17) 4 dX11_store_17 rfl rfl ?_
    refine g_iload (pc := 18) 0 dX11_store_18 rfl ?_
    obtain ⟨b3, hf⟩ := gb_some hf
    refine g_irem (pc := 20) (of_decide_eq_true b3) dX11_store_20 ?_
    rcases it_some hf with ⟨c4, hf⟩ | ⟨c4, hf⟩
    · refine g_ifeq_t (pc := 21) (tgt := 31) dX11_store_21 (by decide) c4 ?_
      refine g_aload_n (pc := 31) 1 dX11_store_31 rfl rfl ?_
      obtain ⟨g5, hf⟩ := gs_some hf
      refine g_getR (pc := 32) fl_X11_74 dX11_store_32 g5 ?_
      refine g_iload_n (pc := 35) 2 dX11_store_35 rfl rfl ?_
      obtain ⟨g6, hf⟩ := gs_some hf
      obtain ⟨b7, hf⟩ := gb_some hf
      refine g_iald (pc := 36) g6 b7 dX11_store_36 ?_
      refine g_aload_n (pc := 37) 1 dX11_store_37 rfl rfl ?_
      refine g_getR (pc := 38) fl_X11_47 dX11_store_38 g5 ?_
      refine g_iconst (pc := 41) (v := (1 : Int32)) dX11_store_41 (by decide) ?_
      obtain ⟨g8, hf⟩ := gs_some hf
      obtain ⟨b9, hf⟩ := gb_some hf
      refine g_iald (pc := 42) g8 b9 dX11_store_42 ?_
      rcases it_some hf with ⟨c10, hf⟩ | ⟨c10, hf⟩
      · refine g_icne_t (pc := 43) (tgt := 48) dX11_store_43 (by decide) c10 ?_
        refine g_iload_n (pc := 48) 4 dX11_store_48 rfl rfl ?_
        refine g_sipush (pc := 49) (v := (8191 : Int32)) dX11_store_49 (by decide) ?_
        refine g_iand (pc := 52) dX11_store_52 ?_
        obtain ⟨x11, ex11, hf⟩ := lt_some hf
        refine g_istore (pc := 53) (L' := [(6, .int x11), (5, .int x2), (0, rf X a0), (1, .int a1), (2, .int a2), (3, .int a3), (4, .int a4)]) dX11_store_53 (by decide) ex11 rfl ?_
        refine g_bipush (pc := 55) (v := (16 : Int32)) dX11_store_55 (by decide) ?_
        refine g_iload_n (pc := 57) 3 dX11_store_57 rfl rfl ?_
        refine g_imul (pc := 58) dX11_store_58 ?_
        refine g_aload_n (pc := 59) 2 dX11_store_59 rfl rfl ?_
        refine g_getR (pc := 60) fl_X11_74 dX11_store_60 g5 ?_
        refine g_iload_n (pc := 63) 3 dX11_store_63 rfl rfl ?_
        obtain ⟨b12, hf⟩ := gb_some hf
        refine g_iald (pc := 64) g6 b12 dX11_store_64 ?_
        refine g_iadd (pc := 65) dX11_store_65 ?_
        obtain ⟨x13, ex13, hf⟩ := lt_some hf
        refine g_istore (pc := 66) (L' := [(7, .int x13), (6, .int x11), (5, .int x2), (0, rf X a0), (1, .int a1), (2, .int a2), (3, .int a3), (4, .int a4)]) dX11_store_66 (by decide) ex13 rfl ?_
        refine g_aload_n (pc := 68) 3 dX11_store_68 rfl rfl ?_
        refine g_getR (pc := 69) fl_X11_77 dX11_store_69 g5 ?_
        refine g_iload (pc := 72) 0 dX11_store_72 rfl ?_
        refine g_iload (pc := 74) 1 dX11_store_74 rfl ?_
        refine g_bipush (pc := 76) (v := (-4 : Int32)) dX11_store_76 (by decide) ?_
        refine g_iand (pc := 78) dX11_store_78 ?_
        obtain ⟨g14, hf⟩ := gs_some hf
        obtain ⟨b15, hf⟩ := gb_some hf
        obtain ⟨h16, eh16, hf⟩ := lt_some hf
        refine g_iast (pc := 79) g14 b15 dX11_store_79 eh16 ?_
        refine g_aload_n (pc := 80) 3 dX11_store_80 rfl rfl ?_
        have g17 : hS h16 a0 = 10 := (hS_tI eh16 g5)
        refine g_getR (pc := 81) fl_X11_80 dX11_store_81 g17 ?_
        refine g_iload (pc := 84) 0 dX11_store_84 rfl ?_
        refine g_iconst (pc := 86) (v := (1 : Int32)) dX11_store_86 (by decide) ?_
        refine g_iload (pc := 87) 2 dX11_store_87 rfl ?_
        refine g_ishl (pc := 89) dX11_store_89 ?_
        refine g_iconst (pc := 90) (v := (1 : Int32)) dX11_store_90 (by decide) ?_
        refine g_isub (pc := 91) dX11_store_91 ?_
        refine g_iload (pc := 92) 1 dX11_store_92 rfl ?_
        refine g_iconst (pc := 94) (v := (4 : Int32)) dX11_store_94 (by decide) ?_
        refine g_irem (pc := 95) (by decide) dX11_store_95 ?_
        refine g_ishl (pc := 96) dX11_store_96 ?_
        obtain ⟨g18, hf⟩ := gs_some hf
        obtain ⟨b19, hf⟩ := gb_some hf
        obtain ⟨h20, eh20, hf⟩ := lt_some hf
        refine g_iast (pc := 97) g18 b19 dX11_store_97 eh20 ?_
        refine g_sub [3, 4, 7, 2, 1, 0] rfl ?_
        exact ok_X11_store_L98 l X h20 a0 a1 a4 x2 x11 x13 q hf
      · refine g_icne_f (pc := 43) (tgt := 48) dX11_store_43 (by decide) (Decidable.of_not_not c10) ?_
        refine g_iconst (pc := 46) (v := (4 : Int32)) dX11_store_46 (by decide) ?_
        obtain rfl := Option.some.inj hf
        exact g_iret (pc := 47) rfl dX11_store_47
    · refine g_ifeq_f (pc := 21) (tgt := 31) dX11_store_21 (by decide) c4 ?_
      refine g_aload_n (pc := 24) 1 dX11_store_24 rfl rfl ?_
      refine g_iload_n (pc := 25) 2 dX11_store_25 rfl rfl ?_
      refine g_iconst (pc := 26) (v := (4 : Int32)) dX11_store_26 (by decide) ?_
      obtain ⟨g21, hf⟩ := gs_some hf
      obtain ⟨q22, hcq22, hf⟩ := bd_some hf
      refine g_cVI (pc := 27) (k2 := k_X11_stops) (av := [.int a1, .int (4 : Int32)]) (q := q22) rfl dX11_store_27 ck_X11_stops m_1859 m_1861 m_94 (ci := 9) rfl (by decide) g21 (by decide) (by decide) rfl (by simp [rf_cat, rq_cat, ca_i, ca_l, ca_r]) (ct_X11_stops l X hcq22) ?_
      obtain rfl := Option.some.inj hf
      exact g_iret (pc := 30) rfl dX11_store_30
  · refine g_icle_f (pc := 2) (tgt := 12) dX11_store_2 (by decide) c1 ?_
    refine g_aload_n (pc := 5) 0 dX11_store_5 rfl rfl ?_
    refine g_iload_n (pc := 6) 1 dX11_store_6 rfl rfl ?_
    refine g_iconst (pc := 7) (v := (2 : Int32)) dX11_store_7 (by decide) ?_
    obtain ⟨g23, hf⟩ := gs_some hf
    obtain ⟨q24, hcq24, hf⟩ := bd_some hf
    refine g_cVI (pc := 8) (k2 := k_X11_stops) (av := [.int a1, .int (2 : Int32)]) (q := q24) rfl dX11_store_8 ck_X11_stops m_1859 m_1861 m_94 (ci := 9) rfl (by decide) g23 (by decide) (by decide) rfl (by simp [rf_cat, rq_cat, ca_i, ca_l, ca_r]) (ct_X11_stops l X hcq24) ?_
    obtain rfl := Option.some.inj hf
    exact g_iret (pc := 11) rfl dX11_store_11
theorem ct_X11_store (l : Launch) (X : Cx) {h : AH} {a0 : Nat} {a1 : Int32} {a2 : Int32} {a3 : Int32} {a4 : Int32} {q : Int32 × AH} (hf : f_X11_store h a0 a1 a2 a3 a4 = some q) : Ct l X k_X11_store [rf X a0, .int a1, .int a2, .int a3, .int a4] h (rI q) := ct_of ck_X11_store (by simp [lg_sl, rf_cat, rq_cat, ca_i, ca_l, ca_r]) (by simp [lv_args, rf_cat, rq_cat, ca_i, ca_l, ca_r]) (ok_X11_store l X hf)
set_option maxRecDepth 100000 in
set_option maxHeartbeats 4000000 in
theorem ok_X11_reckon_L305 (l : Launch) (X : Cx) (h : AH) (a0 : Nat) (a1 : Int32) (a4 : Int32) (a13 : Int32) (q : Int32 × AH) (hf : f_X11_reckon_L305 h a0 a1 a4 a13 = some q) : Go l X k_X11_reckon 305 [(0, rf X a0), (1, .int a1), (4, .int a4), (13, .int a13)] [] h (rI q) := by
  unfold f_X11_reckon_L305 at hf
  refine g_aload_n (pc := 305) 0 dX11_reckon_305 rfl rfl ?_
  refine g_iload_n (pc := 306) 1 dX11_reckon_306 rfl rfl ?_
  refine g_iload (pc := 307) 2 dX11_reckon_307 rfl ?_
  refine g_iload (pc := 309) 3 dX11_reckon_309 rfl ?_
  obtain ⟨g1, hf⟩ := gs_some hf
  obtain ⟨q2, hcq2, hf⟩ := bd_some hf
  refine g_cVV (pc := 311) (k2 := k_X11_setReg) (av := [.int a1, .int a4, .int a13]) (q := q2) rfl dX11_reckon_311 ck_X11_setReg m_1851 m_1853 m_92 (ci := 9) rfl (by decide) g1 (by decide) (by decide) rfl (by simp [rf_cat, rq_cat, ca_i, ca_l, ca_r]) (ct_X11_setReg l X hcq2) ?_
  refine g_aload_n (pc := 314) 0 dX11_reckon_314 rfl rfl ?_
  refine g_iload_n (pc := 315) 1 dX11_reckon_315 rfl rfl ?_
  refine g_aload_n (pc := 316) 0 dX11_reckon_316 rfl rfl ?_
  obtain ⟨g3, hf⟩ := gs_some hf
  refine g_getR (pc := 317) fl_X11_62 dX11_reckon_317 g3 ?_
  refine g_iload_n (pc := 320) 1 dX11_reckon_320 rfl rfl ?_
  obtain ⟨g4, hf⟩ := gs_some hf
  obtain ⟨b5, hf⟩ := gb_some hf
  refine g_iald (pc := 321) g4 b5 dX11_reckon_321 ?_
  refine g_iconst (pc := 322) (v := (4 : Int32)) dX11_reckon_322 (by decide) ?_
  refine g_iadd (pc := 323) dX11_reckon_323 ?_
  obtain ⟨q6, hcq6, hf⟩ := bd_some hf
  refine g_cVI (pc := 324) (k2 := k_X11_retire) (av := [.int a1, .int ((hI q2 (hR q2 a0 26) a1.toNatClampNeg) + (4 : Int32))]) (q := q6) rfl dX11_reckon_324 ck_X11_retire m_1855 m_1857 m_93 (ci := 9) rfl (by decide) g3 (by decide) (by decide) rfl (by simp [rf_cat, rq_cat, ca_i, ca_l, ca_r]) (ct_X11_retire l X hcq6) ?_
  obtain rfl := Option.some.inj hf
  exact g_iret (pc := 327) rfl dX11_reckon_327
set_option maxRecDepth 100000 in
set_option maxHeartbeats 4000000 in
theorem ok_X11_reckon_L203 (l : Launch) (X : Cx) (h : AH) (a0 : Nat) (a1 : Int32) (a4 : Int32) (s0 : Int32) (q : Int32 × AH) (hf : f_X11_reckon_L203 h a0 a1 a4 s0 = some q) : Go l X k_X11_reckon 203 [(0, rf X a0), (1, .int a1), (4, .int a4)] [.int s0] h (rI q) := by
  unfold f_X11_reckon_L203 at hf
  refine g_istore (pc := 203) (L' := [(13, .int s0), (0, rf X a0), (1, .int a1), (4, .int a4)]) dX11_reckon_203 (by decide) rfl rfl ?_
  refine g_goto (pc := 205) (tgt := 305) dX11_reckon_205 (by decide) ?_
  refine g_sub [1, 2, 3, 0] rfl ?_
  exact ok_X11_reckon_L305 l X h a0 a1 a4 s0 q hf
set_option maxRecDepth 100000 in
set_option maxHeartbeats 4000000 in
theorem ok_X11_reckon_L198 (l : Launch) (X : Cx) (h : AH) (a0 : Nat) (a1 : Int32) (a4 : Int32) (a5 : Int32) (a11 : Int32) (q : Int32 × AH) (hf : f_X11_reckon_L198 h a0 a1 a4 a5 a11 = some q) : Go l X k_X11_reckon 198 [(0, rf X a0), (1, .int a1), (4, .int a4), (5, .int a5), (11, .int a11)] [] h (rI q) := by
  unfold f_X11_reckon_L198 at hf
  refine g_iload (pc := 198) 3 dX11_reckon_198 rfl ?_
  refine g_iload (pc := 200) 4 dX11_reckon_200 rfl ?_
  refine g_iadd (pc := 202) dX11_reckon_202 ?_
  refine g_sub [0, 1, 2] rfl ?_
  exact ok_X11_reckon_L203 l X h a0 a1 a4 (a5 + a11) q hf
set_option maxRecDepth 100000 in
set_option maxHeartbeats 4000000 in
theorem ok_X11_reckon_L230 (l : Launch) (X : Cx) (h : AH) (a0 : Nat) (a1 : Int32) (a4 : Int32) (s0 : Int32) (q : Int32 × AH) (hf : f_X11_reckon_L230 h a0 a1 a4 s0 = some q) : Go l X k_X11_reckon 230 [(0, rf X a0), (1, .int a1), (4, .int a4)] [.int s0] h (rI q) := by
  unfold f_X11_reckon_L230 at hf
  refine g_istore (pc := 230) (L' := [(13, .int s0), (0, rf X a0), (1, .int a1), (4, .int a4)]) dX11_reckon_230 (by decide) rfl rfl ?_
  refine g_goto (pc := 232) (tgt := 305) dX11_reckon_232 (by decide) ?_
  refine g_sub [1, 2, 3, 0] rfl ?_
  exact ok_X11_reckon_L305 l X h a0 a1 a4 s0 q hf
set_option maxRecDepth 100000 in
set_option maxHeartbeats 4000000 in
theorem ok_X11_reckon_L250 (l : Launch) (X : Cx) (h : AH) (a0 : Nat) (a1 : Int32) (a4 : Int32) (s0 : Int32) (q : Int32 × AH) (hf : f_X11_reckon_L250 h a0 a1 a4 s0 = some q) : Go l X k_X11_reckon 250 [(0, rf X a0), (1, .int a1), (4, .int a4)] [.int s0] h (rI q) := by
  unfold f_X11_reckon_L250 at hf
  refine g_istore (pc := 250) (L' := [(13, .int s0), (0, rf X a0), (1, .int a1), (4, .int a4)]) dX11_reckon_250 (by decide) rfl rfl ?_
  refine g_goto (pc := 252) (tgt := 305) dX11_reckon_252 (by decide) ?_
  refine g_sub [1, 2, 3, 0] rfl ?_
  exact ok_X11_reckon_L305 l X h a0 a1 a4 s0 q hf
set_option maxRecDepth 100000 in
set_option maxHeartbeats 4000000 in
theorem ok_X11_reckon_L283 (l : Launch) (X : Cx) (h : AH) (a0 : Nat) (a1 : Int32) (a4 : Int32) (s0 : Int32) (q : Int32 × AH) (hf : f_X11_reckon_L283 h a0 a1 a4 s0 = some q) : Go l X k_X11_reckon 283 [(0, rf X a0), (1, .int a1), (4, .int a4)] [.int s0] h (rI q) := by
  unfold f_X11_reckon_L283 at hf
  refine g_istore (pc := 283) (L' := [(13, .int s0), (0, rf X a0), (1, .int a1), (4, .int a4)]) dX11_reckon_283 (by decide) rfl rfl ?_
  refine g_goto (pc := 285) (tgt := 305) dX11_reckon_285 (by decide) ?_
  refine g_sub [1, 2, 3, 0] rfl ?_
  exact ok_X11_reckon_L305 l X h a0 a1 a4 s0 q hf
set_option maxRecDepth 100000 in
set_option maxHeartbeats 4000000 in
theorem ok_X11_reckon_L129 (l : Launch) (X : Cx) (h : AH) (a0 : Nat) (a1 : Int32) (a3 : Int32) (a4 : Int32) (a5 : Int32) (a7 : Int32) (a9 : Int32) (s0 : Int32) (q : Int32 × AH) (hf : f_X11_reckon_L129 h a0 a1 a3 a4 a5 a7 a9 s0 = some q) : Go l X k_X11_reckon 129 [(0, rf X a0), (1, .int a1), (3, .int a3), (4, .int a4), (5, .int a5), (7, .int a7), (9, .int a9)] [.int s0] h (rI q) := by
  unfold f_X11_reckon_L129 at hf
  refine g_istore (pc := 129) (L' := [(11, .int s0), (0, rf X a0), (1, .int a1), (3, .int a3), (4, .int a4), (5, .int a5), (7, .int a7), (9, .int a9)]) dX11_reckon_129 (by decide) rfl rfl ?_
  refine g_iload (pc := 131) 0 dX11_reckon_131 rfl ?_
  refine g_bipush (pc := 133) (v := (31 : Int32)) dX11_reckon_133 (by decide) ?_
  refine g_iand (pc := 135) dX11_reckon_135 ?_
  obtain ⟨x1, ex1, hf⟩ := lt_some hf
  refine g_istore (pc := 136) (L' := [(12, .int x1), (11, .int s0), (0, rf X a0), (1, .int a1), (3, .int a3), (4, .int a4), (5, .int a5), (7, .int a7), (9, .int a9)]) dX11_reckon_136 (by decide) ex1 rfl ?_
  refine g_iload_n (pc := 138) 4 dX11_reckon_138 rfl rfl ?_
  rcases it_some hf with ⟨c2, hf⟩ | ⟨c2, hf⟩
  · refine g_tsw (pc := 139) (tgt := 180) (0 : Int32) dX11_reckon_139 c2 (by decide +kernel) (by decide +kernel) (off := 41) (by decide +kernel) (by decide) ?_
    refine g_iload (pc := 180) 7 dX11_reckon_180 rfl ?_
    rcases it_some hf with ⟨c3, hf⟩ | ⟨c3, hf⟩
    · refine g_ifeq_t (pc := 182) (tgt := 198) dX11_reckon_182 (by decide) c3 ?_
      refine g_sub [2, 3, 5, 6, 1] rfl ?_
      exact ok_X11_reckon_L198 l X h a0 a1 a4 a5 s0 q hf
    · refine g_ifeq_f (pc := 182) (tgt := 198) dX11_reckon_182 (by decide) c3 ?_
      refine g_iload (pc := 185) 8 dX11_reckon_185 rfl ?_
      rcases it_some hf with ⟨c4, hf⟩ | ⟨c4, hf⟩
      · refine g_ifeq_t (pc := 187) (tgt := 198) dX11_reckon_187 (by decide) c4 ?_
        refine g_sub [2, 3, 5, 6, 1] rfl ?_
        exact ok_X11_reckon_L198 l X h a0 a1 a4 a5 s0 q hf
      · refine g_ifeq_f (pc := 187) (tgt := 198) dX11_reckon_187 (by decide) c4 ?_
        refine g_iload (pc := 190) 6 dX11_reckon_190 rfl ?_
        refine g_iload (pc := 192) 1 dX11_reckon_192 rfl ?_
        refine g_isub (pc := 194) dX11_reckon_194 ?_
        refine g_goto (pc := 195) (tgt := 203) dX11_reckon_195 (by decide) ?_
        refine g_sub [2, 3, 5] rfl ?_
        exact ok_X11_reckon_L203 l X h a0 a1 a4 (a5 - s0) q hf
  ·
    rcases it_some hf with ⟨c5, hf⟩ | ⟨c5, hf⟩
    · refine g_tsw (pc := 139) (tgt := 208) (1 : Int32) dX11_reckon_139 c5 (by decide +kernel) (by decide +kernel) (off := 69) (by decide +kernel) (by decide) ?_
      refine g_iload (pc := 208) 6 dX11_reckon_208 rfl ?_
      refine g_iload (pc := 210) 0 dX11_reckon_210 rfl ?_
      refine g_ishl (pc := 212) dX11_reckon_212 ?_
      obtain ⟨x6, ex6, hf⟩ := lt_some hf
      refine g_istore (pc := 213) (L' := [(13, .int x6), (12, .int x1), (11, .int s0), (0, rf X a0), (1, .int a1), (3, .int a3), (4, .int a4), (5, .int a5), (7, .int a7), (9, .int a9)]) dX11_reckon_213 (by decide) ex6 rfl ?_
      refine g_goto (pc := 215) (tgt := 305) dX11_reckon_215 (by decide) ?_
      refine g_sub [3, 4, 6, 0] rfl ?_
      exact ok_X11_reckon_L305 l X h a0 a1 a4 x6 q hf
    ·
      rcases it_some hf with ⟨c7, hf⟩ | ⟨c7, hf⟩
      · refine g_tsw (pc := 139) (tgt := 218) (2 : Int32) dX11_reckon_139 c7 (by decide +kernel) (by decide +kernel) (off := 79) (by decide +kernel) (by decide) ?_
        refine g_iload (pc := 218) 6 dX11_reckon_218 rfl ?_
        refine g_iload (pc := 220) 1 dX11_reckon_220 rfl ?_
        rcases it_some hf with ⟨c8, hf⟩ | ⟨c8, hf⟩
        · refine g_icge_t (pc := 222) (tgt := 229) dX11_reckon_222 (by decide) c8 ?_
          refine g_iconst (pc := 229) (v := (0 : Int32)) dX11_reckon_229 (by decide) ?_
          refine g_sub [2, 3, 5] rfl ?_
          exact ok_X11_reckon_L230 l X h a0 a1 a4 (0 : Int32) q hf
        · refine g_icge_f (pc := 222) (tgt := 229) dX11_reckon_222 (by decide) c8 ?_
          refine g_iconst (pc := 225) (v := (1 : Int32)) dX11_reckon_225 (by decide) ?_
          refine g_goto (pc := 226) (tgt := 230) dX11_reckon_226 (by decide) ?_
          refine g_sub [2, 3, 5] rfl ?_
          exact ok_X11_reckon_L230 l X h a0 a1 a4 (1 : Int32) q hf
      ·
        rcases it_some hf with ⟨c9, hf⟩ | ⟨c9, hf⟩
        · refine g_tsw (pc := 139) (tgt := 235) (3 : Int32) dX11_reckon_139 c9 (by decide +kernel) (by decide +kernel) (off := 96) (by decide +kernel) (by decide) ?_
          refine g_iload (pc := 235) 6 dX11_reckon_235 rfl ?_
          refine g_iload (pc := 237) 1 dX11_reckon_237 rfl ?_
          obtain ⟨v10, hcv10, hf⟩ := bd_some hf
          refine g_cSI (pc := 239) (k2 := k_X11_isLessPlain) (av := [.int a5, .int s0]) (q := (v10, h)) rfl dX11_reckon_239 ck_X11_isLessPlain m_1867 m_1868 (by decide) (by decide) rfl (by simp [rf_cat, rq_cat, ca_i, ca_l, ca_r]) (ct_X11_isLessPlain l X hcv10) ?_
          rcases it_some hf with ⟨c11, hf⟩ | ⟨c11, hf⟩
          · refine g_ifeq_t (pc := 242) (tgt := 249) dX11_reckon_242 (by decide) c11 ?_
            refine g_iconst (pc := 249) (v := (0 : Int32)) dX11_reckon_249 (by decide) ?_
            refine g_sub [2, 3, 5] rfl ?_
            exact ok_X11_reckon_L250 l X h a0 a1 a4 (0 : Int32) q hf
          · refine g_ifeq_f (pc := 242) (tgt := 249) dX11_reckon_242 (by decide) c11 ?_
            refine g_iconst (pc := 245) (v := (1 : Int32)) dX11_reckon_245 (by decide) ?_
            refine g_goto (pc := 246) (tgt := 250) dX11_reckon_246 (by decide) ?_
            refine g_sub [2, 3, 5] rfl ?_
            exact ok_X11_reckon_L250 l X h a0 a1 a4 (1 : Int32) q hf
        ·
          rcases it_some hf with ⟨c12, hf⟩ | ⟨c12, hf⟩
          · refine g_tsw (pc := 139) (tgt := 255) (4 : Int32) dX11_reckon_139 c12 (by decide +kernel) (by decide +kernel) (off := 116) (by decide +kernel) (by decide) ?_
            refine g_iload (pc := 255) 6 dX11_reckon_255 rfl ?_
            refine g_iload (pc := 257) 1 dX11_reckon_257 rfl ?_
            refine g_ixor (pc := 259) dX11_reckon_259 ?_
            obtain ⟨x13, ex13, hf⟩ := lt_some hf
            refine g_istore (pc := 260) (L' := [(13, .int x13), (12, .int x1), (11, .int s0), (0, rf X a0), (1, .int a1), (3, .int a3), (4, .int a4), (5, .int a5), (7, .int a7), (9, .int a9)]) dX11_reckon_260 (by decide) ex13 rfl ?_
            refine g_goto (pc := 262) (tgt := 305) dX11_reckon_262 (by decide) ?_
            refine g_sub [3, 4, 6, 0] rfl ?_
            exact ok_X11_reckon_L305 l X h a0 a1 a4 x13 q hf
          ·
            rcases it_some hf with ⟨c14, hf⟩ | ⟨c14, hf⟩
            · refine g_tsw (pc := 139) (tgt := 265) (5 : Int32) dX11_reckon_139 c14 (by decide +kernel) (by decide +kernel) (off := 126) (by decide +kernel) (by decide) ?_
              refine g_iload (pc := 265) 8 dX11_reckon_265 rfl ?_
              rcases it_some hf with ⟨c15, hf⟩ | ⟨c15, hf⟩
              · refine g_ifeq_t (pc := 267) (tgt := 278) dX11_reckon_267 (by decide) c15 ?_
                refine g_iload (pc := 278) 6 dX11_reckon_278 rfl ?_
                refine g_iload (pc := 280) 0 dX11_reckon_280 rfl ?_
                refine g_iushr (pc := 282) dX11_reckon_282 ?_
                refine g_sub [2, 3, 5] rfl ?_
                exact ok_X11_reckon_L283 l X h a0 a1 a4 (jushr a5 x1) q hf
              · refine g_ifeq_f (pc := 267) (tgt := 278) dX11_reckon_267 (by decide) c15 ?_
                refine g_iload (pc := 270) 6 dX11_reckon_270 rfl ?_
                refine g_iload (pc := 272) 0 dX11_reckon_272 rfl ?_
                refine g_ishr (pc := 274) dX11_reckon_274 ?_
                refine g_goto (pc := 275) (tgt := 283) dX11_reckon_275 (by decide) ?_
                refine g_sub [2, 3, 5] rfl ?_
                exact ok_X11_reckon_L283 l X h a0 a1 a4 (a5 >>> (x1 &&& 31)) q hf
            ·
              rcases it_some hf with ⟨c16, hf⟩ | ⟨c16, hf⟩
              · refine g_tsw (pc := 139) (tgt := 288) (6 : Int32) dX11_reckon_139 c16 (by decide +kernel) (by decide +kernel) (off := 149) (by decide +kernel) (by decide) ?_
                refine g_iload (pc := 288) 6 dX11_reckon_288 rfl ?_
                refine g_iload (pc := 290) 1 dX11_reckon_290 rfl ?_
                refine g_ior (pc := 292) dX11_reckon_292 ?_
                obtain ⟨x17, ex17, hf⟩ := lt_some hf
                refine g_istore (pc := 293) (L' := [(13, .int x17), (12, .int x1), (11, .int s0), (0, rf X a0), (1, .int a1), (3, .int a3), (4, .int a4), (5, .int a5), (7, .int a7), (9, .int a9)]) dX11_reckon_293 (by decide) ex17 rfl ?_
                refine g_goto (pc := 295) (tgt := 305) dX11_reckon_295 (by decide) ?_
                refine g_sub [3, 4, 6, 0] rfl ?_
                exact ok_X11_reckon_L305 l X h a0 a1 a4 x17 q hf
              ·
                refine g_tswD (pc := 139) (tgt := 298) [(0 : Int32), (1 : Int32), (2 : Int32), (3 : Int32), (4 : Int32), (5 : Int32), (6 : Int32)] dX11_reckon_139 (cons_ne c2 (cons_ne c5 (cons_ne c7 (cons_ne c9 (cons_ne c12 (cons_ne c14 (cons_ne c16 nil_ne))))))) (by decide +kernel) (by decide +kernel) (by decide) ?_
                refine g_iload (pc := 298) 6 dX11_reckon_298 rfl ?_
                refine g_iload (pc := 300) 1 dX11_reckon_300 rfl ?_
                refine g_iand (pc := 302) dX11_reckon_302 ?_
                obtain ⟨x18, ex18, hf⟩ := lt_some hf
                refine g_istore (pc := 303) (L' := [(13, .int x18), (12, .int x1), (11, .int s0), (0, rf X a0), (1, .int a1), (3, .int a3), (4, .int a4), (5, .int a5), (7, .int a7), (9, .int a9)]) dX11_reckon_303 (by decide) ex18 rfl ?_
                refine g_sub [3, 4, 6, 0] rfl ?_
                exact ok_X11_reckon_L305 l X h a0 a1 a4 x18 q hf
set_option maxRecDepth 100000 in
set_option maxHeartbeats 4000000 in
theorem ok_X11_reckon_L101 (l : Launch) (X : Cx) (h : AH) (a0 : Nat) (a1 : Int32) (a2 : Int32) (a3 : Int32) (a4 : Int32) (a5 : Int32) (a6 : Int32) (a7 : Int32) (a9 : Int32) (s0 : Int32) (q : Int32 × AH) (hf : f_X11_reckon_L101 h a0 a1 a2 a3 a4 a5 a6 a7 a9 s0 = some q) : Go l X k_X11_reckon 101 [(0, rf X a0), (1, .int a1), (2, .int a2), (3, .int a3), (4, .int a4), (5, .int a5), (6, .int a6), (7, .int a7), (9, .int a9)] [.int s0] h (rI q) := by
  unfold f_X11_reckon_L101 at hf
  refine g_istore (pc := 101) (L' := [(10, .int s0), (0, rf X a0), (1, .int a1), (2, .int a2), (3, .int a3), (4, .int a4), (5, .int a5), (6, .int a6), (7, .int a7), (9, .int a9)]) dX11_reckon_101 (by decide) rfl rfl ?_
  refine g_iload (pc := 103) 0 dX11_reckon_103 rfl ?_
  rcases it_some hf with ⟨c1, hf⟩ | ⟨c1, hf⟩
  · refine g_ifne_t (pc := 105) (tgt := 115) dX11_reckon_105 (by decide) c1 ?_
    refine g_iload (pc := 115) 8 dX11_reckon_115 rfl ?_
    rcases it_some hf with ⟨c2, hf⟩ | ⟨c2, hf⟩
    · refine g_ifeq_t (pc := 117) (tgt := 125) dX11_reckon_117 (by decide) c2 ?_
      refine g_iload_n (pc := 125) 3 dX11_reckon_125 rfl rfl ?_
      refine g_bipush (pc := 126) (v := (20 : Int32)) dX11_reckon_126 (by decide) ?_
      refine g_ishr (pc := 128) dX11_reckon_128 ?_
      refine g_sub [1, 2, 4, 5, 6, 8, 9] rfl ?_
      exact ok_X11_reckon_L129 l X h a0 a1 a3 a4 a5 a7 a9 (a2 >>> ((20 : Int32) &&& 31)) q hf
    · refine g_ifeq_f (pc := 117) (tgt := 125) dX11_reckon_117 (by decide) c2 ?_
      refine g_iload (pc := 120) 7 dX11_reckon_120 rfl ?_
      refine g_goto (pc := 122) (tgt := 129) dX11_reckon_122 (by decide) ?_
      refine g_sub [1, 2, 4, 5, 6, 8, 9] rfl ?_
      exact ok_X11_reckon_L129 l X h a0 a1 a3 a4 a5 a7 a9 a6 q hf
  · refine g_ifne_f (pc := 105) (tgt := 115) dX11_reckon_105 (by decide) (Decidable.of_not_not c1) ?_
    refine g_aload_n (pc := 108) 1 dX11_reckon_108 rfl rfl ?_
    refine g_iload_n (pc := 109) 2 dX11_reckon_109 rfl rfl ?_
    refine g_iconst (pc := 110) (v := (2 : Int32)) dX11_reckon_110 (by decide) ?_
    obtain ⟨g3, hf⟩ := gs_some hf
    obtain ⟨q4, hcq4, hf⟩ := bd_some hf
    refine g_cVI (pc := 111) (k2 := k_X11_stops) (av := [.int a1, .int (2 : Int32)]) (q := q4) rfl dX11_reckon_111 ck_X11_stops m_1859 m_1861 m_94 (ci := 9) rfl (by decide) g3 (by decide) (by decide) rfl (by simp [rf_cat, rq_cat, ca_i, ca_l, ca_r]) (ct_X11_stops l X hcq4) ?_
    obtain rfl := Option.some.inj hf
    exact g_iret (pc := 114) rfl dX11_reckon_114
set_option maxRecDepth 100000 in
set_option maxHeartbeats 4000000 in
theorem ok_X11_reckon_L96 (l : Launch) (X : Cx) (h : AH) (a0 : Nat) (a1 : Int32) (a2 : Int32) (a3 : Int32) (a4 : Int32) (a5 : Int32) (a6 : Int32) (a7 : Int32) (a9 : Int32) (q : Int32 × AH) (hf : f_X11_reckon_L96 h a0 a1 a2 a3 a4 a5 a6 a7 a9 = some q) : Go l X k_X11_reckon 96 [(0, rf X a0), (1, .int a1), (2, .int a2), (3, .int a3), (4, .int a4), (5, .int a5), (6, .int a6), (7, .int a7), (9, .int a9)] [] h (rI q) := by
  unfold f_X11_reckon_L96 at hf
  refine g_iconst (pc := 96) (v := (1 : Int32)) dX11_reckon_96 (by decide) ?_
  refine g_goto (pc := 97) (tgt := 101) dX11_reckon_97 (by decide) ?_
  exact ok_X11_reckon_L101 l X h a0 a1 a2 a3 a4 a5 a6 a7 a9 (1 : Int32) q hf
set_option maxRecDepth 100000 in
set_option maxHeartbeats 4000000 in
theorem ok_X11_reckon_L86 (l : Launch) (X : Cx) (h : AH) (a0 : Nat) (a1 : Int32) (a2 : Int32) (a3 : Int32) (a4 : Int32) (a5 : Int32) (a6 : Int32) (a7 : Int32) (a8 : Int32) (a9 : Int32) (q : Int32 × AH) (hf : f_X11_reckon_L86 h a0 a1 a2 a3 a4 a5 a6 a7 a8 a9 = some q) : Go l X k_X11_reckon 86 [(0, rf X a0), (1, .int a1), (2, .int a2), (3, .int a3), (4, .int a4), (5, .int a5), (6, .int a6), (7, .int a7), (8, .int a8), (9, .int a9)] [] h (rI q) := by
  unfold f_X11_reckon_L86 at hf
  refine g_iload (pc := 86) 8 dX11_reckon_86 rfl ?_
  rcases it_some hf with ⟨c1, hf⟩ | ⟨c1, hf⟩
  · refine g_ifeq_t (pc := 88) (tgt := 96) dX11_reckon_88 (by decide) c1 ?_
    refine g_sub [0, 1, 2, 3, 4, 5, 6, 7, 9] rfl ?_
    exact ok_X11_reckon_L96 l X h a0 a1 a2 a3 a4 a5 a6 a7 a9 q hf
  · refine g_ifeq_f (pc := 88) (tgt := 96) dX11_reckon_88 (by decide) c1 ?_
    refine g_iload (pc := 91) 9 dX11_reckon_91 rfl ?_
    rcases it_some hf with ⟨c2, hf⟩ | ⟨c2, hf⟩
    · refine g_ifeq_t (pc := 93) (tgt := 100) dX11_reckon_93 (by decide) c2 ?_
      refine g_iconst (pc := 100) (v := (0 : Int32)) dX11_reckon_100 (by decide) ?_
      refine g_sub [0, 1, 2, 3, 4, 5, 6, 7, 9] rfl ?_
      exact ok_X11_reckon_L101 l X h a0 a1 a2 a3 a4 a5 a6 a7 a9 (0 : Int32) q hf
    · refine g_ifeq_f (pc := 93) (tgt := 100) dX11_reckon_93 (by decide) c2 ?_
      refine g_sub [0, 1, 2, 3, 4, 5, 6, 7, 9] rfl ?_
      exact ok_X11_reckon_L96 l X h a0 a1 a2 a3 a4 a5 a6 a7 a9 q hf
set_option maxRecDepth 100000 in
set_option maxHeartbeats 4000000 in
theorem ok_X11_reckon_L68 (l : Launch) (X : Cx) (h : AH) (a0 : Nat) (a1 : Int32) (a2 : Int32) (a3 : Int32) (a4 : Int32) (a5 : Int32) (a6 : Int32) (a7 : Int32) (a9 : Int32) (q : Int32 × AH) (hf : f_X11_reckon_L68 h a0 a1 a2 a3 a4 a5 a6 a7 a9 = some q) : Go l X k_X11_reckon 68 [(0, rf X a0), (1, .int a1), (2, .int a2), (3, .int a3), (4, .int a4), (5, .int a5), (6, .int a6), (7, .int a7), (9, .int a9)] [] h (rI q) := by
  unfold f_X11_reckon_L68 at hf
  refine g_iconst (pc := 68) (v := (1 : Int32)) dX11_reckon_68 (by decide) ?_
  refine g_goto (pc := 69) (tgt := 101) dX11_reckon_69 (by decide) ?_
  exact ok_X11_reckon_L101 l X h a0 a1 a2 a3 a4 a5 a6 a7 a9 (1 : Int32) q hf
set_option maxRecDepth 100000 in
set_option maxHeartbeats 4000000 in
theorem ok_X11_reckon_L51 (l : Launch) (X : Cx) (h : AH) (a0 : Nat) (a1 : Int32) (a2 : Int32) (a3 : Int32) (a4 : Int32) (a5 : Int32) (a6 : Int32) (a7 : Int32) (a8 : Int32) (s0 : Int32) (q : Int32 × AH) (hf : f_X11_reckon_L51 h a0 a1 a2 a3 a4 a5 a6 a7 a8 s0 = some q) : Go l X k_X11_reckon 51 [(0, rf X a0), (1, .int a1), (2, .int a2), (3, .int a3), (4, .int a4), (5, .int a5), (6, .int a6), (7, .int a7), (8, .int a8)] [.int s0] h (rI q) := by
  unfold f_X11_reckon_L51 at hf
  refine g_istore (pc := 51) (L' := [(9, .int s0), (0, rf X a0), (1, .int a1), (2, .int a2), (3, .int a3), (4, .int a4), (5, .int a5), (6, .int a6), (7, .int a7), (8, .int a8)]) dX11_reckon_51 (by decide) rfl rfl ?_
  refine g_iload (pc := 53) 8 dX11_reckon_53 rfl ?_
  rcases it_some hf with ⟨c1, hf⟩ | ⟨c1, hf⟩
  · refine g_ifeq_t (pc := 55) (tgt := 76) dX11_reckon_55 (by decide) c1 ?_
    refine g_iload_n (pc := 76) 4 dX11_reckon_76 rfl rfl ?_
    refine g_iconst (pc := 77) (v := (1 : Int32)) dX11_reckon_77 (by decide) ?_
    rcases it_some hf with ⟨c2, hf⟩ | ⟨c2, hf⟩
    · refine g_iceq_t (pc := 78) (tgt := 86) dX11_reckon_78 (by decide) c2 ?_
      refine g_sub [1, 2, 3, 4, 5, 6, 7, 8, 9, 0] rfl ?_
      exact ok_X11_reckon_L86 l X h a0 a1 a2 a3 a4 a5 a6 a7 a8 s0 q hf
    · refine g_iceq_f (pc := 78) (tgt := 86) dX11_reckon_78 (by decide) c2 ?_
      refine g_iload_n (pc := 81) 4 dX11_reckon_81 rfl rfl ?_
      refine g_iconst (pc := 82) (v := (5 : Int32)) dX11_reckon_82 (by decide) ?_
      rcases it_some hf with ⟨c3, hf⟩ | ⟨c3, hf⟩
      · refine g_icne_t (pc := 83) (tgt := 96) dX11_reckon_83 (by decide) c3 ?_
        refine g_sub [1, 2, 3, 4, 5, 6, 7, 8, 0] rfl ?_
        exact ok_X11_reckon_L96 l X h a0 a1 a2 a3 a4 a5 a6 a7 s0 q hf
      · refine g_icne_f (pc := 83) (tgt := 96) dX11_reckon_83 (by decide) (Decidable.of_not_not c3) ?_
        refine g_sub [1, 2, 3, 4, 5, 6, 7, 8, 9, 0] rfl ?_
        exact ok_X11_reckon_L86 l X h a0 a1 a2 a3 a4 a5 a6 a7 a8 s0 q hf
  · refine g_ifeq_f (pc := 55) (tgt := 76) dX11_reckon_55 (by decide) c1 ?_
    refine g_iload (pc := 58) 9 dX11_reckon_58 rfl ?_
    rcases it_some hf with ⟨c4, hf⟩ | ⟨c4, hf⟩
    · refine g_ifeq_t (pc := 60) (tgt := 68) dX11_reckon_60 (by decide) c4 ?_
      refine g_sub [1, 2, 3, 4, 5, 6, 7, 8, 0] rfl ?_
      exact ok_X11_reckon_L68 l X h a0 a1 a2 a3 a4 a5 a6 a7 s0 q hf
    · refine g_ifeq_f (pc := 60) (tgt := 68) dX11_reckon_60 (by decide) c4 ?_
      refine g_iload (pc := 63) 0 dX11_reckon_63 rfl ?_
      rcases it_some hf with ⟨c5, hf⟩ | ⟨c5, hf⟩
      · refine g_ifeq_t (pc := 65) (tgt := 72) dX11_reckon_65 (by decide) c5 ?_
        refine g_iconst (pc := 72) (v := (0 : Int32)) dX11_reckon_72 (by decide) ?_
        refine g_goto (pc := 73) (tgt := 101) dX11_reckon_73 (by decide) ?_
        refine g_sub [1, 2, 3, 4, 5, 6, 7, 8, 0] rfl ?_
        exact ok_X11_reckon_L101 l X h a0 a1 a2 a3 a4 a5 a6 a7 s0 (0 : Int32) q hf
      · refine g_ifeq_f (pc := 65) (tgt := 72) dX11_reckon_65 (by decide) c5 ?_
        refine g_sub [1, 2, 3, 4, 5, 6, 7, 8, 0] rfl ?_
        exact ok_X11_reckon_L68 l X h a0 a1 a2 a3 a4 a5 a6 a7 s0 q hf
set_option maxRecDepth 100000 in
set_option maxHeartbeats 4000000 in
theorem ok_X11_reckon_L50 (l : Launch) (X : Cx) (h : AH) (a0 : Nat) (a1 : Int32) (a2 : Int32) (a3 : Int32) (a4 : Int32) (a5 : Int32) (a6 : Int32) (a7 : Int32) (a8 : Int32) (q : Int32 × AH) (hf : f_X11_reckon_L50 h a0 a1 a2 a3 a4 a5 a6 a7 a8 = some q) : Go l X k_X11_reckon 50 [(0, rf X a0), (1, .int a1), (2, .int a2), (3, .int a3), (4, .int a4), (5, .int a5), (6, .int a6), (7, .int a7), (8, .int a8)] [] h (rI q) := by
  unfold f_X11_reckon_L50 at hf
  refine g_iconst (pc := 50) (v := (0 : Int32)) dX11_reckon_50 (by decide) ?_
  exact ok_X11_reckon_L51 l X h a0 a1 a2 a3 a4 a5 a6 a7 a8 (0 : Int32) q hf
set_option maxRecDepth 100000 in
set_option maxHeartbeats 4000000 in
theorem ok_X11_reckon_L46 (l : Launch) (X : Cx) (h : AH) (a0 : Nat) (a1 : Int32) (a2 : Int32) (a3 : Int32) (a4 : Int32) (a5 : Int32) (a6 : Int32) (a7 : Int32) (a8 : Int32) (q : Int32 × AH) (hf : f_X11_reckon_L46 h a0 a1 a2 a3 a4 a5 a6 a7 a8 = some q) : Go l X k_X11_reckon 46 [(0, rf X a0), (1, .int a1), (2, .int a2), (3, .int a3), (4, .int a4), (5, .int a5), (6, .int a6), (7, .int a7), (8, .int a8)] [] h (rI q) := by
  unfold f_X11_reckon_L46 at hf
  refine g_iconst (pc := 46) (v := (1 : Int32)) dX11_reckon_46 (by decide) ?_
  refine g_goto (pc := 47) (tgt := 51) dX11_reckon_47 (by decide) ?_
  exact ok_X11_reckon_L51 l X h a0 a1 a2 a3 a4 a5 a6 a7 a8 (1 : Int32) q hf
set_option maxRecDepth 100000 in
set_option maxHeartbeats 4000000 in
theorem ok_X11_reckon_L14 (l : Launch) (X : Cx) (h : AH) (a0 : Nat) (a1 : Int32) (a2 : Int32) (a3 : Int32) (a4 : Int32) (a5 : Int32) (a6 : Int32) (s0 : Int32) (q : Int32 × AH) (hf : f_X11_reckon_L14 h a0 a1 a2 a3 a4 a5 a6 s0 = some q) : Go l X k_X11_reckon 14 [(0, rf X a0), (1, .int a1), (2, .int a2), (3, .int a3), (4, .int a4), (5, .int a5), (6, .int a6)] [.int s0] h (rI q) := by
  unfold f_X11_reckon_L14 at hf
  refine g_istore (pc := 14) (L' := [(7, .int s0), (0, rf X a0), (1, .int a1), (2, .int a2), (3, .int a3), (4, .int a4), (5, .int a5), (6, .int a6)]) dX11_reckon_14 (by decide) rfl rfl ?_
  refine g_iload_n (pc := 16) 3 dX11_reckon_16 rfl rfl ?_
  refine g_bipush (pc := 17) (v := (25 : Int32)) dX11_reckon_17 (by decide) ?_
  refine g_ishr (pc := 19) dX11_reckon_19 ?_
  refine g_bipush (pc := 20) (v := (127 : Int32)) dX11_reckon_20 (by decide) ?_
  refine g_iand (pc := 22) dX11_reckon_22 ?_
  obtain ⟨x1, ex1, hf⟩ := lt_some hf
  refine g_istore (pc := 23) (L' := [(8, .int x1), (7, .int s0), (0, rf X a0), (1, .int a1), (2, .int a2), (3, .int a3), (4, .int a4), (5, .int a5), (6, .int a6)]) dX11_reckon_23 (by decide) ex1 rfl ?_
  refine g_iload (pc := 25) 0 dX11_reckon_25 rfl ?_
  refine g_bipush (pc := 27) (v := (32 : Int32)) dX11_reckon_27 (by decide) ?_
  rcases it_some hf with ⟨c2, hf⟩ | ⟨c2, hf⟩
  · refine g_icne_t (pc := 29) (tgt := 50) dX11_reckon_29 (by decide) c2 ?_
    refine g_sub [2, 3, 4, 5, 6, 7, 8, 1, 0] rfl ?_
    exact ok_X11_reckon_L50 l X h a0 a1 a2 a3 a4 a5 a6 s0 x1 q hf
  · refine g_icne_f (pc := 29) (tgt := 50) dX11_reckon_29 (by decide) (Decidable.of_not_not c2) ?_
    refine g_iload_n (pc := 32) 5 dX11_reckon_32 rfl rfl ?_
    refine g_iconst (pc := 33) (v := (5 : Int32)) dX11_reckon_33 (by decide) ?_
    rcases it_some hf with ⟨c3, hf⟩ | ⟨c3, hf⟩
    · refine g_iceq_t (pc := 34) (tgt := 46) dX11_reckon_34 (by decide) c3 ?_
      refine g_sub [2, 3, 4, 5, 6, 7, 8, 1, 0] rfl ?_
      exact ok_X11_reckon_L46 l X h a0 a1 a2 a3 a4 a5 a6 s0 x1 q hf
    · refine g_iceq_f (pc := 34) (tgt := 46) dX11_reckon_34 (by decide) c3 ?_
      refine g_iload (pc := 37) 1 dX11_reckon_37 rfl ?_
      rcases it_some hf with ⟨c4, hf⟩ | ⟨c4, hf⟩
      · refine g_ifeq_t (pc := 39) (tgt := 50) dX11_reckon_39 (by decide) c4 ?_
        refine g_sub [2, 3, 4, 5, 6, 7, 8, 1, 0] rfl ?_
        exact ok_X11_reckon_L50 l X h a0 a1 a2 a3 a4 a5 a6 s0 x1 q hf
      · refine g_ifeq_f (pc := 39) (tgt := 50) dX11_reckon_39 (by decide) c4 ?_
        refine g_iload_n (pc := 42) 5 dX11_reckon_42 rfl rfl ?_
        rcases it_some hf with ⟨c5, hf⟩ | ⟨c5, hf⟩
        · refine g_ifne_t (pc := 43) (tgt := 50) dX11_reckon_43 (by decide) c5 ?_
          refine g_sub [2, 3, 4, 5, 6, 7, 8, 1, 0] rfl ?_
          exact ok_X11_reckon_L50 l X h a0 a1 a2 a3 a4 a5 a6 s0 x1 q hf
        · refine g_ifne_f (pc := 43) (tgt := 50) dX11_reckon_43 (by decide) (Decidable.of_not_not c5) ?_
          refine g_sub [2, 3, 4, 5, 6, 7, 8, 1, 0] rfl ?_
          exact ok_X11_reckon_L46 l X h a0 a1 a2 a3 a4 a5 a6 s0 x1 q hf
set_option maxRecDepth 100000 in
set_option maxHeartbeats 4000000 in
theorem ok_X11_reckon (l : Launch) (X : Cx) {h : AH} {a0 : Nat} {a1 : Int32} {a2 : Int32} {a3 : Int32} {a4 : Int32} {a5 : Int32} {a6 : Int32} {q : Int32 × AH} (hf : f_X11_reckon h a0 a1 a2 a3 a4 a5 a6 = some q) : Go l X k_X11_reckon 0 [(0, rf X a0), (1, .int a1), (2, .int a2), (3, .int a3), (4, .int a4), (5, .int a5), (6, .int a6)] [] h (rI q) := by
  unfold f_X11_reckon at hf
  refine g_iload_n (pc := 0) 2 dX11_reckon_0 rfl rfl ?_
  refine g_bipush (pc := 1) (v := (127 : Int32)) dX11_reckon_1 (by decide) ?_
  refine g_iand (pc := 3) dX11_reckon_3 ?_
  refine g_bipush (pc := 4) (v := (51 : Int32)) dX11_reckon_4 (by decide) ?_
  rcases it_some hf with ⟨c1, hf⟩ | ⟨c1, hf⟩
  · refine g_icne_t (pc := 6) (tgt := 13) dX11_reckon_6 (by decide) c1 ?_
    refine g_iconst (pc := 13) (v := (0 : Int32)) dX11_reckon_13 (by decide) ?_
    exact ok_X11_reckon_L14 l X h a0 a1 a2 a3 a4 a5 a6 (0 : Int32) q hf
  · refine g_icne_f (pc := 6) (tgt := 13) dX11_reckon_6 (by decide) (Decidable.of_not_not c1) ?_
    refine g_iconst (pc := 9) (v := (1 : Int32)) dX11_reckon_9 (by decide) ?_
    refine g_goto (pc := 10) (tgt := 14) dX11_reckon_10 (by decide) ?_
    exact ok_X11_reckon_L14 l X h a0 a1 a2 a3 a4 a5 a6 (1 : Int32) q hf
theorem ct_X11_reckon (l : Launch) (X : Cx) {h : AH} {a0 : Nat} {a1 : Int32} {a2 : Int32} {a3 : Int32} {a4 : Int32} {a5 : Int32} {a6 : Int32} {q : Int32 × AH} (hf : f_X11_reckon h a0 a1 a2 a3 a4 a5 a6 = some q) : Ct l X k_X11_reckon [rf X a0, .int a1, .int a2, .int a3, .int a4, .int a5, .int a6] h (rI q) := ct_of ck_X11_reckon (by simp [lg_sl, rf_cat, rq_cat, ca_i, ca_l, ca_r]) (by simp [lv_args, rf_cat, rq_cat, ca_i, ca_l, ca_r]) (ok_X11_reckon l X hf)
set_option maxRecDepth 100000 in
set_option maxHeartbeats 4000000 in
theorem ok_X11_atomic_L24 (l : Launch) (X : Cx) (h : AH) (a0 : Nat) (a1 : Int32) (q : Int32 × AH) (hf : f_X11_atomic_L24 h a0 a1 = some q) : Go l X k_X11_atomic 24 [(0, rf X a0), (1, .int a1)] [] h (rI q) := by
  unfold f_X11_atomic_L24 at hf
  refine g_aload_n (pc := 24) 0 dX11_atomic_24 rfl rfl ?_
  refine g_iload_n (pc := 25) 1 dX11_atomic_25 rfl rfl ?_
  refine g_iconst (pc := 26) (v := (2 : Int32)) dX11_atomic_26 (by decide) ?_
  obtain ⟨g1, hf⟩ := gs_some hf
  obtain ⟨q2, hcq2, hf⟩ := bd_some hf
  refine g_cVI (pc := 27) (k2 := k_X11_stops) (av := [.int a1, .int (2 : Int32)]) (q := q2) rfl dX11_atomic_27 ck_X11_stops m_1859 m_1861 m_94 (ci := 9) rfl (by decide) g1 (by decide) (by decide) rfl (by simp [rf_cat, rq_cat, ca_i, ca_l, ca_r]) (ct_X11_stops l X hcq2) ?_
  obtain rfl := Option.some.inj hf
  exact g_iret (pc := 30) rfl dX11_atomic_30
set_option maxRecDepth 100000 in
set_option maxHeartbeats 4000000 in
theorem ok_X11_atomic_L330 (l : Launch) (X : Cx) (h : AH) (a0 : Nat) (a1 : Int32) (a4 : Int32) (a8 : Int32) (a9 : Int32) (a10 : Int32) (q : Int32 × AH) (hf : f_X11_atomic_L330 h a0 a1 a4 a8 a9 a10 = some q) : Go l X k_X11_atomic 330 [(0, rf X a0), (1, .int a1), (4, .int a4), (8, .int a8), (9, .int a9), (10, .int a10)] [] h (rI q) := by
  unfold f_X11_atomic_L330 at hf
  refine g_aload_n (pc := 330) 0 dX11_atomic_330 rfl rfl ?_
  obtain ⟨g1, hf⟩ := gs_some hf
  refine g_getR (pc := 331) fl_X11_53 dX11_atomic_331 g1 ?_
  refine g_iload (pc := 334) 3 dX11_atomic_334 rfl ?_
  refine g_iconst (pc := 336) (v := (4 : Int32)) dX11_atomic_336 (by decide) ?_
  refine g_idiv (pc := 337) (by decide) dX11_atomic_337 ?_
  refine g_iload (pc := 338) 5 dX11_atomic_338 rfl ?_
  obtain ⟨g2, hf⟩ := gs_some hf
  obtain ⟨b3, hf⟩ := gb_some hf
  obtain ⟨h4, eh4, hf⟩ := lt_some hf
  refine g_iast (pc := 340) g2 b3 dX11_atomic_340 eh4 ?_
  refine g_aload_n (pc := 341) 0 dX11_atomic_341 rfl rfl ?_
  refine g_iload_n (pc := 342) 1 dX11_atomic_342 rfl rfl ?_
  refine g_iload (pc := 343) 2 dX11_atomic_343 rfl ?_
  refine g_iload (pc := 345) 4 dX11_atomic_345 rfl ?_
  have g5 : hS h4 a0 = 10 := (hS_tI eh4 g1)
  obtain ⟨q6, hcq6, hf⟩ := bd_some hf
  refine g_cVV (pc := 347) (k2 := k_X11_setReg) (av := [.int a1, .int a4, .int a9]) (q := q6) rfl dX11_atomic_347 ck_X11_setReg m_1851 m_1853 m_92 (ci := 9) rfl (by decide) g5 (by decide) (by decide) rfl (by simp [rf_cat, rq_cat, ca_i, ca_l, ca_r]) (ct_X11_setReg l X hcq6) ?_
  refine g_aload_n (pc := 350) 0 dX11_atomic_350 rfl rfl ?_
  refine g_iload (pc := 351) 3 dX11_atomic_351 rfl ?_
  obtain ⟨g7, hf⟩ := gs_some hf
  obtain ⟨h8, eh8, hf⟩ := lt_some hf
  refine g_putI (pc := 353) fl_X11_576 dX11_atomic_353 g7 eh8 ?_
  refine g_aload_n (pc := 356) 0 dX11_atomic_356 rfl rfl ?_
  refine g_iload (pc := 357) 4 dX11_atomic_357 rfl ?_
  have g9 : hS h8 a0 = 10 := (hS_tI eh8 g7)
  obtain ⟨h10, eh10, hf⟩ := lt_some hf
  refine g_putI (pc := 359) fl_X11_579 dX11_atomic_359 g9 eh10 ?_
  refine g_aload_n (pc := 362) 0 dX11_atomic_362 rfl rfl ?_
  refine g_iload (pc := 363) 5 dX11_atomic_363 rfl ?_
  have g11 : hS h10 a0 = 10 := (hS_tI eh10 g9)
  obtain ⟨h12, eh12, hf⟩ := lt_some hf
  refine g_putI (pc := 365) fl_X11_582 dX11_atomic_365 g11 eh12 ?_
  refine g_aload_n (pc := 368) 0 dX11_atomic_368 rfl rfl ?_
  refine g_iload_n (pc := 369) 1 dX11_atomic_369 rfl rfl ?_
  refine g_aload_n (pc := 370) 0 dX11_atomic_370 rfl rfl ?_
  have g13 : hS h12 a0 = 10 := (hS_tI eh12 g11)
  refine g_getR (pc := 371) fl_X11_62 dX11_atomic_371 g13 ?_
  refine g_iload_n (pc := 374) 1 dX11_atomic_374 rfl rfl ?_
  obtain ⟨g14, hf⟩ := gs_some hf
  obtain ⟨b15, hf⟩ := gb_some hf
  refine g_iald (pc := 375) g14 b15 dX11_atomic_375 ?_
  refine g_iconst (pc := 376) (v := (4 : Int32)) dX11_atomic_376 (by decide) ?_
  refine g_iadd (pc := 377) dX11_atomic_377 ?_
  obtain ⟨q16, hcq16, hf⟩ := bd_some hf
  refine g_cVI (pc := 378) (k2 := k_X11_retire) (av := [.int a1, .int ((hI h12 (hR h12 a0 26) a1.toNatClampNeg) + (4 : Int32))]) (q := q16) rfl dX11_atomic_378 ck_X11_retire m_1855 m_1857 m_93 (ci := 9) rfl (by decide) g13 (by decide) (by decide) rfl (by simp [rf_cat, rq_cat, ca_i, ca_l, ca_r]) (ct_X11_retire l X hcq16) ?_
  obtain rfl := Option.some.inj hf
  exact g_iret (pc := 381) rfl dX11_atomic_381
set_option maxRecDepth 100000 in
set_option maxHeartbeats 4000000 in
theorem ok_X11_atomic_L265 (l : Launch) (X : Cx) (h : AH) (a0 : Nat) (a1 : Int32) (a4 : Int32) (a8 : Int32) (a9 : Int32) (s0 : Int32) (q : Int32 × AH) (hf : f_X11_atomic_L265 h a0 a1 a4 a8 a9 s0 = some q) : Go l X k_X11_atomic 265 [(0, rf X a0), (1, .int a1), (4, .int a4), (8, .int a8), (9, .int a9)] [.int s0] h (rI q) := by
  unfold f_X11_atomic_L265 at hf
  refine g_istore (pc := 265) (L' := [(10, .int s0), (0, rf X a0), (1, .int a1), (4, .int a4), (8, .int a8), (9, .int a9)]) dX11_atomic_265 (by decide) rfl rfl ?_
  refine g_goto (pc := 267) (tgt := 330) dX11_atomic_267 (by decide) ?_
  refine g_sub [1, 2, 3, 4, 5, 0] rfl ?_
  exact ok_X11_atomic_L330 l X h a0 a1 a4 a8 a9 s0 q hf
set_option maxRecDepth 100000 in
set_option maxHeartbeats 4000000 in
theorem ok_X11_atomic_L284 (l : Launch) (X : Cx) (h : AH) (a0 : Nat) (a1 : Int32) (a4 : Int32) (a8 : Int32) (a9 : Int32) (s0 : Int32) (q : Int32 × AH) (hf : f_X11_atomic_L284 h a0 a1 a4 a8 a9 s0 = some q) : Go l X k_X11_atomic 284 [(0, rf X a0), (1, .int a1), (4, .int a4), (8, .int a8), (9, .int a9)] [.int s0] h (rI q) := by
  unfold f_X11_atomic_L284 at hf
  refine g_istore (pc := 284) (L' := [(10, .int s0), (0, rf X a0), (1, .int a1), (4, .int a4), (8, .int a8), (9, .int a9)]) dX11_atomic_284 (by decide) rfl rfl ?_
  refine g_goto (pc := 286) (tgt := 330) dX11_atomic_286 (by decide) ?_
  refine g_sub [1, 2, 3, 4, 5, 0] rfl ?_
  exact ok_X11_atomic_L330 l X h a0 a1 a4 a8 a9 s0 q hf
set_option maxRecDepth 100000 in
set_option maxHeartbeats 4000000 in
theorem ok_X11_atomic_L306 (l : Launch) (X : Cx) (h : AH) (a0 : Nat) (a1 : Int32) (a4 : Int32) (a8 : Int32) (a9 : Int32) (s0 : Int32) (q : Int32 × AH) (hf : f_X11_atomic_L306 h a0 a1 a4 a8 a9 s0 = some q) : Go l X k_X11_atomic 306 [(0, rf X a0), (1, .int a1), (4, .int a4), (8, .int a8), (9, .int a9)] [.int s0] h (rI q) := by
  unfold f_X11_atomic_L306 at hf
  refine g_istore (pc := 306) (L' := [(10, .int s0), (0, rf X a0), (1, .int a1), (4, .int a4), (8, .int a8), (9, .int a9)]) dX11_atomic_306 (by decide) rfl rfl ?_
  refine g_goto (pc := 308) (tgt := 330) dX11_atomic_308 (by decide) ?_
  refine g_sub [1, 2, 3, 4, 5, 0] rfl ?_
  exact ok_X11_atomic_L330 l X h a0 a1 a4 a8 a9 s0 q hf
set_option maxRecDepth 100000 in
set_option maxHeartbeats 4000000 in
theorem ok_X11_atomic_L328 (l : Launch) (X : Cx) (h : AH) (a0 : Nat) (a1 : Int32) (a4 : Int32) (a8 : Int32) (a9 : Int32) (s0 : Int32) (q : Int32 × AH) (hf : f_X11_atomic_L328 h a0 a1 a4 a8 a9 s0 = some q) : Go l X k_X11_atomic 328 [(0, rf X a0), (1, .int a1), (4, .int a4), (8, .int a8), (9, .int a9)] [.int s0] h (rI q) := by
  unfold f_X11_atomic_L328 at hf
  refine g_istore (pc := 328) (L' := [(10, .int s0), (0, rf X a0), (1, .int a1), (4, .int a4), (8, .int a8), (9, .int a9)]) dX11_atomic_328 (by decide) rfl rfl ?_
  refine g_sub [1, 2, 3, 4, 5, 0] rfl ?_
  exact ok_X11_atomic_L330 l X h a0 a1 a4 a8 a9 s0 q hf
set_option maxRecDepth 100000 in
set_option maxHeartbeats 4000000 in
theorem ok_X11_atomic_L31 (l : Launch) (X : Cx) (h : AH) (a0 : Nat) (a1 : Int32) (a4 : Int32) (a5 : Int32) (a6 : Int32) (a7 : Int32) (q : Int32 × AH) (hf : f_X11_atomic_L31 h a0 a1 a4 a5 a6 a7 = some q) : Go l X k_X11_atomic 31 [(0, rf X a0), (1, .int a1), (4, .int a4), (5, .int a5), (6, .int a6), (7, .int a7)] [] h (rI q) := by
  unfold f_X11_atomic_L31 at hf
  refine g_iload (pc := 31) 3 dX11_atomic_31 rfl ?_
  refine g_iconst (pc := 33) (v := (4 : Int32)) dX11_atomic_33 (by decide) ?_
  refine g_irem (pc := 34) (by decide) dX11_atomic_34 ?_
  rcases it_some hf with ⟨c1, hf⟩ | ⟨c1, hf⟩
  · refine g_ifeq_t (pc := 35) (tgt := 45) dX11_atomic_35 (by decide) c1 ?_
    refine g_aload_n (pc := 45) 0 dX11_atomic_45 rfl rfl ?_
    obtain ⟨g2, hf⟩ := gs_some hf
    refine g_getR (pc := 46) fl_X11_74 dX11_atomic_46 g2 ?_
    refine g_iload_n (pc := 49) 1 dX11_atomic_49 rfl rfl ?_
    obtain ⟨g3, hf⟩ := gs_some hf
    obtain ⟨b4, hf⟩ := gb_some hf
    refine g_iald (pc := 50) g3 b4 dX11_atomic_50 ?_
    rcases it_some hf with ⟨c5, hf⟩ | ⟨c5, hf⟩
    · refine g_ifle_t (pc := 51) (tgt := 56) dX11_atomic_51 (by decide) c5 ?_
      refine g_iload (pc := 56) 3 dX11_atomic_56 rfl ?_
      refine g_sipush (pc := 58) (v := (8191 : Int32)) dX11_atomic_58 (by decide) ?_
      refine g_iand (pc := 61) dX11_atomic_61 ?_
      obtain ⟨x6, ex6, hf⟩ := lt_some hf
      refine g_istore (pc := 62) (L' := [(8, .int x6), (0, rf X a0), (1, .int a1), (4, .int a4), (5, .int a5), (6, .int a6), (7, .int a7)]) dX11_atomic_62 (by decide) ex6 rfl ?_
      refine g_aload_n (pc := 64) 1 dX11_atomic_64 rfl rfl ?_
      refine g_iload_n (pc := 65) 2 dX11_atomic_65 rfl rfl ?_
      refine g_iload (pc := 66) 0 dX11_atomic_66 rfl ?_
      obtain ⟨q7, hcq7, hf⟩ := bd_some hf
      refine g_cVI (pc := 68) (k2 := k_X11_changes) (av := [.int a1, .int x6]) (q := q7) rfl dX11_atomic_68 ck_X11_changes m_1887 m_1889 m_100 (ci := 9) rfl (by decide) g2 (by decide) (by decide) rfl (by simp [rf_cat, rq_cat, ca_i, ca_l, ca_r]) (ct_X11_changes l X hcq7) ?_
      rcases it_some hf with ⟨c8, hf⟩ | ⟨c8, hf⟩
      · refine g_ifne_t (pc := 71) (tgt := 77) dX11_atomic_71 (by decide) c8 ?_
        refine g_aload_n (pc := 77) 1 dX11_atomic_77 rfl rfl ?_
        obtain ⟨g9, hf⟩ := gs_some hf
        refine g_getR (pc := 78) fl_X11_53 dX11_atomic_78 g9 ?_
        refine g_iload (pc := 81) 0 dX11_atomic_81 rfl ?_
        refine g_iconst (pc := 83) (v := (4 : Int32)) dX11_atomic_83 (by decide) ?_
        refine g_idiv (pc := 84) (by decide) dX11_atomic_84 ?_
        obtain ⟨g10, hf⟩ := gs_some hf
        obtain ⟨b11, hf⟩ := gb_some hf
        refine g_iald (pc := 85) g10 b11 dX11_atomic_85 ?_
        obtain ⟨x12, ex12, hf⟩ := lt_some hf
        refine g_istore (pc := 86) (L' := [(9, .int x12), (8, .int x6), (0, rf X a0), (1, .int a1), (4, .int a4), (5, .int a5), (6, .int a6), (7, .int a7)]) dX11_atomic_86 (by decide) ex12 rfl ?_
        refine g_iload (pc := 88) 7 dX11_atomic_88 rfl ?_
        rcases it_some hf with ⟨c13, hf⟩ | ⟨c13, hf⟩
        · refine g_tsw (pc := 90) (tgt := 204) (0 : Int32) dX11_atomic_90 c13 (by decide +kernel) (by decide +kernel) (off := 114) (by decide +kernel) (by decide) ?_
          refine g_iload (pc := 204) 0 dX11_atomic_204 rfl ?_
          refine g_iload (pc := 206) 6 dX11_atomic_206 rfl ?_
          refine g_iadd (pc := 208) dX11_atomic_208 ?_
          obtain ⟨x14, ex14, hf⟩ := lt_some hf
          refine g_istore (pc := 209) (L' := [(10, .int x14), (9, .int x12), (8, .int x6), (0, rf X a0), (1, .int a1), (4, .int a4), (5, .int a5), (6, .int a6), (7, .int a7)]) dX11_atomic_209 (by decide) ex14 rfl ?_
          refine g_goto (pc := 211) (tgt := 330) dX11_atomic_211 (by decide) ?_
          refine g_sub [3, 4, 5, 2, 1, 0] rfl ?_
          exact ok_X11_atomic_L330 l X q7.2 a0 a1 a4 x6 x12 x14 q hf
        ·
          rcases it_some hf with ⟨c15, hf⟩ | ⟨c15, hf⟩
          · refine g_tsw (pc := 90) (tgt := 214) (1 : Int32) dX11_atomic_90 c15 (by decide +kernel) (by decide +kernel) (off := 124) (by decide +kernel) (by decide) ?_
            refine g_iload (pc := 214) 6 dX11_atomic_214 rfl ?_
            refine g_istore (pc := 216) (L' := [(10, .int a6), (9, .int x12), (8, .int x6), (0, rf X a0), (1, .int a1), (4, .int a4), (5, .int a5), (6, .int a6), (7, .int a7)]) dX11_atomic_216 (by decide) rfl rfl ?_
            refine g_goto (pc := 218) (tgt := 330) dX11_atomic_218 (by decide) ?_
            refine g_sub [3, 4, 5, 2, 1, 0] rfl ?_
            exact ok_X11_atomic_L330 l X q7.2 a0 a1 a4 x6 x12 a6 q hf
          ·
            rcases it_some hf with ⟨c16, hf⟩ | ⟨c16, hf⟩
            · refine g_tsw (pc := 90) (tgt := 221) (4 : Int32) dX11_atomic_90 c16 (by decide +kernel) (by decide +kernel) (off := 131) (by decide +kernel) (by decide) ?_
              refine g_iload (pc := 221) 0 dX11_atomic_221 rfl ?_
              refine g_iload (pc := 223) 6 dX11_atomic_223 rfl ?_
              refine g_ixor (pc := 225) dX11_atomic_225 ?_
              obtain ⟨x17, ex17, hf⟩ := lt_some hf
              refine g_istore (pc := 226) (L' := [(10, .int x17), (9, .int x12), (8, .int x6), (0, rf X a0), (1, .int a1), (4, .int a4), (5, .int a5), (6, .int a6), (7, .int a7)]) dX11_atomic_226 (by decide) ex17 rfl ?_
              refine g_goto (pc := 228) (tgt := 330) dX11_atomic_228 (by decide) ?_
              refine g_sub [3, 4, 5, 2, 1, 0] rfl ?_
              exact ok_X11_atomic_L330 l X q7.2 a0 a1 a4 x6 x12 x17 q hf
            ·
              rcases it_some hf with ⟨c18, hf⟩ | ⟨c18, hf⟩
              · refine g_tsw (pc := 90) (tgt := 231) (8 : Int32) dX11_atomic_90 c18 (by decide +kernel) (by decide +kernel) (off := 141) (by decide +kernel) (by decide) ?_
                refine g_iload (pc := 231) 0 dX11_atomic_231 rfl ?_
                refine g_iload (pc := 233) 6 dX11_atomic_233 rfl ?_
                refine g_ior (pc := 235) dX11_atomic_235 ?_
                obtain ⟨x19, ex19, hf⟩ := lt_some hf
                refine g_istore (pc := 236) (L' := [(10, .int x19), (9, .int x12), (8, .int x6), (0, rf X a0), (1, .int a1), (4, .int a4), (5, .int a5), (6, .int a6), (7, .int a7)]) dX11_atomic_236 (by decide) ex19 rfl ?_
                refine g_goto (pc := 238) (tgt := 330) dX11_atomic_238 (by decide) ?_
                refine g_sub [3, 4, 5, 2, 1, 0] rfl ?_
                exact ok_X11_atomic_L330 l X q7.2 a0 a1 a4 x6 x12 x19 q hf
              ·
                rcases it_some hf with ⟨c20, hf⟩ | ⟨c20, hf⟩
                · refine g_tsw (pc := 90) (tgt := 241) (12 : Int32) dX11_atomic_90 c20 (by decide +kernel) (by decide +kernel) (off := 151) (by decide +kernel) (by decide) ?_
                  refine g_iload (pc := 241) 0 dX11_atomic_241 rfl ?_
                  refine g_iload (pc := 243) 6 dX11_atomic_243 rfl ?_
                  refine g_iand (pc := 245) dX11_atomic_245 ?_
                  obtain ⟨x21, ex21, hf⟩ := lt_some hf
                  refine g_istore (pc := 246) (L' := [(10, .int x21), (9, .int x12), (8, .int x6), (0, rf X a0), (1, .int a1), (4, .int a4), (5, .int a5), (6, .int a6), (7, .int a7)]) dX11_atomic_246 (by decide) ex21 rfl ?_
                  refine g_goto (pc := 248) (tgt := 330) dX11_atomic_248 (by decide) ?_
                  refine g_sub [3, 4, 5, 2, 1, 0] rfl ?_
                  exact ok_X11_atomic_L330 l X q7.2 a0 a1 a4 x6 x12 x21 q hf
                ·
                  rcases it_some hf with ⟨c22, hf⟩ | ⟨c22, hf⟩
                  · refine g_tsw (pc := 90) (tgt := 251) (16 : Int32) dX11_atomic_90 c22 (by decide +kernel) (by decide +kernel) (off := 161) (by decide +kernel) (by decide) ?_
                    refine g_iload (pc := 251) 0 dX11_atomic_251 rfl ?_
                    refine g_iload (pc := 253) 6 dX11_atomic_253 rfl ?_
                    rcases it_some hf with ⟨c23, hf⟩ | ⟨c23, hf⟩
                    · refine g_icge_t (pc := 255) (tgt := 263) dX11_atomic_255 (by decide) c23 ?_
                      refine g_iload (pc := 263) 6 dX11_atomic_263 rfl ?_
                      refine g_sub [2, 3, 4, 1, 0] rfl ?_
                      exact ok_X11_atomic_L265 l X q7.2 a0 a1 a4 x6 x12 a6 q hf
                    · refine g_icge_f (pc := 255) (tgt := 263) dX11_atomic_255 (by decide) c23 ?_
                      refine g_iload (pc := 258) 0 dX11_atomic_258 rfl ?_
                      refine g_goto (pc := 260) (tgt := 265) dX11_atomic_260 (by decide) ?_
                      refine g_sub [2, 3, 4, 1, 0] rfl ?_
                      exact ok_X11_atomic_L265 l X q7.2 a0 a1 a4 x6 x12 x12 q hf
                  ·
                    rcases it_some hf with ⟨c24, hf⟩ | ⟨c24, hf⟩
                    · refine g_tsw (pc := 90) (tgt := 270) (20 : Int32) dX11_atomic_90 c24 (by decide +kernel) (by decide +kernel) (off := 180) (by decide +kernel) (by decide) ?_
                      refine g_iload (pc := 270) 0 dX11_atomic_270 rfl ?_
                      refine g_iload (pc := 272) 6 dX11_atomic_272 rfl ?_
                      rcases it_some hf with ⟨c25, hf⟩ | ⟨c25, hf⟩
                      · refine g_icle_t (pc := 274) (tgt := 282) dX11_atomic_274 (by decide) c25 ?_
                        refine g_iload (pc := 282) 6 dX11_atomic_282 rfl ?_
                        refine g_sub [2, 3, 4, 1, 0] rfl ?_
                        exact ok_X11_atomic_L284 l X q7.2 a0 a1 a4 x6 x12 a6 q hf
                      · refine g_icle_f (pc := 274) (tgt := 282) dX11_atomic_274 (by decide) c25 ?_
                        refine g_iload (pc := 277) 0 dX11_atomic_277 rfl ?_
                        refine g_goto (pc := 279) (tgt := 284) dX11_atomic_279 (by decide) ?_
                        refine g_sub [2, 3, 4, 1, 0] rfl ?_
                        exact ok_X11_atomic_L284 l X q7.2 a0 a1 a4 x6 x12 x12 q hf
                    ·
                      rcases it_some hf with ⟨c26, hf⟩ | ⟨c26, hf⟩
                      · refine g_tsw (pc := 90) (tgt := 289) (24 : Int32) dX11_atomic_90 c26 (by decide +kernel) (by decide +kernel) (off := 199) (by decide +kernel) (by decide) ?_
                        refine g_iload (pc := 289) 0 dX11_atomic_289 rfl ?_
                        refine g_iload (pc := 291) 6 dX11_atomic_291 rfl ?_
                        obtain ⟨v27, hcv27, hf⟩ := bd_some hf
                        refine g_cSI (pc := 293) (k2 := k_X11_isLessPlain) (av := [.int x12, .int a6]) (q := (v27, q7.2)) rfl dX11_atomic_293 ck_X11_isLessPlain m_1867 m_1868 (by decide) (by decide) rfl (by simp [rf_cat, rq_cat, ca_i, ca_l, ca_r]) (ct_X11_isLessPlain l X hcv27) ?_
                        rcases it_some hf with ⟨c28, hf⟩ | ⟨c28, hf⟩
                        · refine g_ifeq_t (pc := 296) (tgt := 304) dX11_atomic_296 (by decide) c28 ?_
                          refine g_iload (pc := 304) 6 dX11_atomic_304 rfl ?_
                          refine g_sub [2, 3, 4, 1, 0] rfl ?_
                          exact ok_X11_atomic_L306 l X q7.2 a0 a1 a4 x6 x12 a6 q hf
                        · refine g_ifeq_f (pc := 296) (tgt := 304) dX11_atomic_296 (by decide) c28 ?_
                          refine g_iload (pc := 299) 0 dX11_atomic_299 rfl ?_
                          refine g_goto (pc := 301) (tgt := 306) dX11_atomic_301 (by decide) ?_
                          refine g_sub [2, 3, 4, 1, 0] rfl ?_
                          exact ok_X11_atomic_L306 l X q7.2 a0 a1 a4 x6 x12 x12 q hf
                      ·
                        refine g_tswD (pc := 90) (tgt := 311) [(0 : Int32), (1 : Int32), (4 : Int32), (8 : Int32), (12 : Int32), (16 : Int32), (20 : Int32), (24 : Int32)] dX11_atomic_90 (cons_ne c13 (cons_ne c15 (cons_ne c16 (cons_ne c18 (cons_ne c20 (cons_ne c22 (cons_ne c24 (cons_ne c26 nil_ne)))))))) (by decide +kernel) (by decide +kernel) (by decide) ?_
                        refine g_iload (pc := 311) 0 dX11_atomic_311 rfl ?_
                        refine g_iload (pc := 313) 6 dX11_atomic_313 rfl ?_
                        obtain ⟨v29, hcv29, hf⟩ := bd_some hf
                        refine g_cSI (pc := 315) (k2 := k_X11_isLessPlain) (av := [.int x12, .int a6]) (q := (v29, q7.2)) rfl dX11_atomic_315 ck_X11_isLessPlain m_1867 m_1868 (by decide) (by decide) rfl (by simp [rf_cat, rq_cat, ca_i, ca_l, ca_r]) (ct_X11_isLessPlain l X hcv29) ?_
                        rcases it_some hf with ⟨c30, hf⟩ | ⟨c30, hf⟩
                        · refine g_ifeq_t (pc := 318) (tgt := 326) dX11_atomic_318 (by decide) c30 ?_
                          refine g_iload (pc := 326) 0 dX11_atomic_326 rfl ?_
                          refine g_sub [2, 3, 4, 1, 0] rfl ?_
                          exact ok_X11_atomic_L328 l X q7.2 a0 a1 a4 x6 x12 x12 q hf
                        · refine g_ifeq_f (pc := 318) (tgt := 326) dX11_atomic_318 (by decide) c30 ?_
                          refine g_iload (pc := 321) 6 dX11_atomic_321 rfl ?_
                          refine g_goto (pc := 323) (tgt := 328) dX11_atomic_323 (by decide) ?_
                          refine g_sub [2, 3, 4, 1, 0] rfl ?_
                          exact ok_X11_atomic_L328 l X q7.2 a0 a1 a4 x6 x12 a6 q hf
      · refine g_ifne_f (pc := 71) (tgt := 77) dX11_atomic_71 (by decide) (Decidable.of_not_not c8) ?_
        refine g_bipush (pc := 74) (v := (6 : Int32)) dX11_atomic_74 (by decide) ?_
        obtain rfl := Option.some.inj hf
        exact g_iret (pc := 76) rfl dX11_atomic_76
    · refine g_ifle_f (pc := 51) (tgt := 56) dX11_atomic_51 (by decide) c5 ?_
      refine g_iconst (pc := 54) (v := (5 : Int32)) dX11_atomic_54 (by decide) ?_
      obtain rfl := Option.some.inj hf
      exact g_iret (pc := 55) rfl dX11_atomic_55
  · refine g_ifeq_f (pc := 35) (tgt := 45) dX11_atomic_35 (by decide) c1 ?_
    refine g_aload_n (pc := 38) 0 dX11_atomic_38 rfl rfl ?_
    refine g_iload_n (pc := 39) 1 dX11_atomic_39 rfl rfl ?_
    refine g_iconst (pc := 40) (v := (4 : Int32)) dX11_atomic_40 (by decide) ?_
    obtain ⟨g31, hf⟩ := gs_some hf
    obtain ⟨q32, hcq32, hf⟩ := bd_some hf
    refine g_cVI (pc := 41) (k2 := k_X11_stops) (av := [.int a1, .int (4 : Int32)]) (q := q32) rfl dX11_atomic_41 ck_X11_stops m_1859 m_1861 m_94 (ci := 9) rfl (by decide) g31 (by decide) (by decide) rfl (by simp [rf_cat, rq_cat, ca_i, ca_l, ca_r]) (ct_X11_stops l X hcq32) ?_
    obtain rfl := Option.some.inj hf
    exact g_iret (pc := 44) rfl dX11_atomic_44
set_option maxRecDepth 100000 in
set_option maxHeartbeats 4000000 in
theorem ok_X11_atomic (l : Launch) (X : Cx) {h : AH} {a0 : Nat} {a1 : Int32} {a2 : Int32} {a3 : Int32} {a4 : Int32} {a5 : Int32} {a6 : Int32} {q : Int32 × AH} (hf : f_X11_atomic h a0 a1 a2 a3 a4 a5 a6 = some q) : Go l X k_X11_atomic 0 [(0, rf X a0), (1, .int a1), (2, .int a2), (3, .int a3), (4, .int a4), (5, .int a5), (6, .int a6)] [] h (rI q) := by
  unfold f_X11_atomic at hf
  refine g_iload_n (pc := 0) 2 dX11_atomic_0 rfl rfl ?_
  refine g_bipush (pc := 1) (v := (27 : Int32)) dX11_atomic_1 (by decide) ?_
  refine g_iushr (pc := 3) dX11_atomic_3 ?_
  obtain ⟨x1, ex1, hf⟩ := lt_some hf
  refine g_istore (pc := 4) (L' := [(7, .int x1), (0, rf X a0), (1, .int a1), (2, .int a2), (3, .int a3), (4, .int a4), (5, .int a5), (6, .int a6)]) dX11_atomic_4 (by decide) ex1 rfl ?_
  refine g_iload_n (pc := 6) 4 dX11_atomic_6 rfl rfl ?_
  refine g_iconst (pc := 7) (v := (2 : Int32)) dX11_atomic_7 (by decide) ?_
  rcases it_some hf with ⟨c2, hf⟩ | ⟨c2, hf⟩
  · refine g_icne_t (pc := 8) (tgt := 24) dX11_atomic_8 (by decide) c2 ?_
    refine g_sub [1, 2] rfl ?_
    exact ok_X11_atomic_L24 l X h a0 a1 q hf
  · refine g_icne_f (pc := 8) (tgt := 24) dX11_atomic_8 (by decide) (Decidable.of_not_not c2) ?_
    refine g_iload (pc := 11) 0 dX11_atomic_11 rfl ?_
    refine g_iconst (pc := 13) (v := (4 : Int32)) dX11_atomic_13 (by decide) ?_
    refine g_irem (pc := 14) (by decide) dX11_atomic_14 ?_
    rcases it_some hf with ⟨c3, hf⟩ | ⟨c3, hf⟩
    · refine g_ifeq_t (pc := 15) (tgt := 31) dX11_atomic_15 (by decide) c3 ?_
      refine g_sub [1, 2, 5, 6, 7, 0] rfl ?_
      exact ok_X11_atomic_L31 l X h a0 a1 a4 a5 a6 x1 q hf
    · refine g_ifeq_f (pc := 15) (tgt := 31) dX11_atomic_15 (by decide) c3 ?_
      refine g_iload (pc := 18) 0 dX11_atomic_18 rfl ?_
      refine g_iconst (pc := 20) (v := (1 : Int32)) dX11_atomic_20 (by decide) ?_
      rcases it_some hf with ⟨c4, hf⟩ | ⟨c4, hf⟩
      · refine g_iceq_t (pc := 21) (tgt := 31) dX11_atomic_21 (by decide) c4 ?_
        refine g_sub [1, 2, 5, 6, 7, 0] rfl ?_
        exact ok_X11_atomic_L31 l X h a0 a1 a4 a5 a6 x1 q hf
      · refine g_iceq_f (pc := 21) (tgt := 31) dX11_atomic_21 (by decide) c4 ?_
        refine g_sub [1, 2] rfl ?_
        exact ok_X11_atomic_L24 l X h a0 a1 q hf
theorem ct_X11_atomic (l : Launch) (X : Cx) {h : AH} {a0 : Nat} {a1 : Int32} {a2 : Int32} {a3 : Int32} {a4 : Int32} {a5 : Int32} {a6 : Int32} {q : Int32 × AH} (hf : f_X11_atomic h a0 a1 a2 a3 a4 a5 a6 = some q) : Ct l X k_X11_atomic [rf X a0, .int a1, .int a2, .int a3, .int a4, .int a5, .int a6] h (rI q) := ct_of ck_X11_atomic (by simp [lg_sl, rf_cat, rq_cat, ca_i, ca_l, ca_r]) (by simp [lv_args, rf_cat, rq_cat, ca_i, ca_l, ca_r]) (ok_X11_atomic l X hf)
set_option maxRecDepth 100000 in
set_option maxHeartbeats 4000000 in
theorem ok_X11_stepOf_L518 (l : Launch) (X : Cx) (h : AH) (a0 : Nat) (a1 : Int32) (a7 : Int32) (q : Int32 × AH) (hf : f_X11_stepOf_L518 h a0 a1 a7 = some q) : Go l X k_X11_stepOf 518 [(0, rf X a0), (1, .int a1), (7, .int a7)] [] h (rI q) := by
  unfold f_X11_stepOf_L518 at hf
  refine g_aload_n (pc := 518) 0 dX11_stepOf_518 rfl rfl ?_
  refine g_iload_n (pc := 519) 1 dX11_stepOf_519 rfl rfl ?_
  refine g_iload (pc := 520) 2 dX11_stepOf_520 rfl ?_
  refine g_iconst (pc := 522) (v := (4 : Int32)) dX11_stepOf_522 (by decide) ?_
  refine g_iadd (pc := 523) dX11_stepOf_523 ?_
  obtain ⟨g1, hf⟩ := gs_some hf
  obtain ⟨q2, hcq2, hf⟩ := bd_some hf
  refine g_cVI (pc := 524) (k2 := k_X11_retire) (av := [.int a1, .int (a7 + (4 : Int32))]) (q := q2) rfl dX11_stepOf_524 ck_X11_retire m_1855 m_1857 m_93 (ci := 9) rfl (by decide) g1 (by decide) (by decide) rfl (by simp [rf_cat, rq_cat, ca_i, ca_l, ca_r]) (ct_X11_retire l X hcq2) ?_
  obtain rfl := Option.some.inj hf
  exact g_iret (pc := 527) rfl dX11_stepOf_527
set_option maxRecDepth 100000 in
set_option maxHeartbeats 4000000 in
theorem ok_X11_stepOf_L428 (l : Launch) (X : Cx) (h : AH) (s0 : Int32) (q : Int32 × AH) (hf : f_X11_stepOf_L428 h s0 = some q) : Go l X k_X11_stepOf 428 [] [.int s0] h (rI q) := by
  unfold f_X11_stepOf_L428 at hf
  obtain rfl := Option.some.inj hf
  exact g_iret (pc := 428) rfl dX11_stepOf_428
set_option maxRecDepth 100000 in
set_option maxHeartbeats 4000000 in
theorem ok_X11_stepOf_L336 (l : Launch) (X : Cx) (h : AH) (s0 : Int32) (q : Int32 × AH) (hf : f_X11_stepOf_L336 h s0 = some q) : Go l X k_X11_stepOf 336 [] [.int s0] h (rI q) := by
  unfold f_X11_stepOf_L336 at hf
  obtain rfl := Option.some.inj hf
  exact g_iret (pc := 336) rfl dX11_stepOf_336
set_option maxRecDepth 100000 in
set_option maxHeartbeats 4000000 in
theorem ok_X11_stepOf_L507 (l : Launch) (X : Cx) (h : AH) (s0 : Nat) (s1 : Int32) (s2 : Int32) (q : Int32 × AH) (hf : f_X11_stepOf_L507 h s0 s1 s2 = some q) : Go l X k_X11_stepOf 507 [] [.int s2, .int s1, rf X s0] h (rI q) := by
  unfold f_X11_stepOf_L507 at hf
  obtain ⟨g1, hf⟩ := gs_some hf
  obtain ⟨q2, hcq2, hf⟩ := bd_some hf
  refine g_cVI (pc := 507) (k2 := k_X11_stops) (av := [.int s1, .int s2]) (q := q2) rfl dX11_stepOf_507 ck_X11_stops m_1859 m_1861 m_94 (ci := 9) rfl (by decide) g1 (by decide) (by decide) rfl (by simp [rf_cat, rq_cat, ca_i, ca_l, ca_r]) (ct_X11_stops l X hcq2) ?_
  obtain rfl := Option.some.inj hf
  exact g_iret (pc := 510) rfl dX11_stepOf_510
set_option maxRecDepth 100000 in
set_option maxHeartbeats 4000000 in
theorem ok_X11_stepOf_L502 (l : Launch) (X : Cx) (h : AH) (s0 : Nat) (s1 : Int32) (q : Int32 × AH) (hf : f_X11_stepOf_L502 h s0 s1 = some q) : Go l X k_X11_stepOf 502 [] [.int s1, rf X s0] h (rI q) := by
  unfold f_X11_stepOf_L502 at hf
  refine g_iconst (pc := 502) (v := (1 : Int32)) dX11_stepOf_502 (by decide) ?_
  refine g_goto (pc := 503) (tgt := 507) dX11_stepOf_503 (by decide) ?_
  exact ok_X11_stepOf_L507 l X h s0 s1 (1 : Int32) q hf
set_option maxRecDepth 100000 in
set_option maxHeartbeats 4000000 in
theorem ok_X11_stepOf_L97 (l : Launch) (X : Cx) (h : AH) (a0 : Nat) (a1 : Int32) (a2 : Int32) (a3 : Int32) (a4 : Int32) (q : Int32 × AH) (hf : f_X11_stepOf_L97 h a0 a1 a2 a3 a4 = some q) : Go l X k_X11_stepOf 97 [(0, rf X a0), (1, .int a1), (2, .int a2), (3, .int a3), (4, .int a4)] [] h (rI q) := by
  unfold f_X11_stepOf_L97 at hf
  refine g_aload_n (pc := 97) 0 dX11_stepOf_97 rfl rfl ?_
  refine g_iload_n (pc := 98) 1 dX11_stepOf_98 rfl rfl ?_
  refine g_iload_n (pc := 99) 2 dX11_stepOf_99 rfl rfl ?_
  refine g_bipush (pc := 100) (v := (15 : Int32)) dX11_stepOf_100 (by decide) ?_
  refine g_ishr (pc := 102) dX11_stepOf_102 ?_
  refine g_bipush (pc := 103) (v := (31 : Int32)) dX11_stepOf_103 (by decide) ?_
  refine g_iand (pc := 105) dX11_stepOf_105 ?_
  obtain ⟨g1, hf⟩ := gs_some hf
  obtain ⟨v2, hcv2, hf⟩ := bd_some hf
  refine g_cVI (pc := 106) (k2 := k_X11_reg) (av := [.int a1, .int ((a2 >>> ((15 : Int32) &&& 31)) &&& (31 : Int32))]) (q := (v2, h)) rfl dX11_stepOf_106 ck_X11_reg m_1847 m_1849 m_91 (ci := 9) rfl (by decide) g1 (by decide) (by decide) rfl (by simp [rf_cat, rq_cat, ca_i, ca_l, ca_r]) (ct_X11_reg l X hcv2) ?_
  refine g_istore (pc := 109) (L' := [(5, .int v2), (0, rf X a0), (1, .int a1), (2, .int a2), (3, .int a3), (4, .int a4)]) dX11_stepOf_109 (by decide) rfl rfl ?_
  refine g_aload_n (pc := 111) 1 dX11_stepOf_111 rfl rfl ?_
  refine g_iload_n (pc := 112) 2 dX11_stepOf_112 rfl rfl ?_
  refine g_iload_n (pc := 113) 3 dX11_stepOf_113 rfl rfl ?_
  refine g_bipush (pc := 114) (v := (20 : Int32)) dX11_stepOf_114 (by decide) ?_
  refine g_ishr (pc := 116) dX11_stepOf_116 ?_
  refine g_bipush (pc := 117) (v := (31 : Int32)) dX11_stepOf_117 (by decide) ?_
  refine g_iand (pc := 119) dX11_stepOf_119 ?_
  obtain ⟨v3, hcv3, hf⟩ := bd_some hf
  refine g_cVI (pc := 120) (k2 := k_X11_reg) (av := [.int a1, .int ((a2 >>> ((20 : Int32) &&& 31)) &&& (31 : Int32))]) (q := (v3, h)) rfl dX11_stepOf_120 ck_X11_reg m_1847 m_1849 m_91 (ci := 9) rfl (by decide) g1 (by decide) (by decide) rfl (by simp [rf_cat, rq_cat, ca_i, ca_l, ca_r]) (ct_X11_reg l X hcv3) ?_
  refine g_istore (pc := 123) (L' := [(6, .int v3), (5, .int v2), (0, rf X a0), (1, .int a1), (2, .int a2), (3, .int a3), (4, .int a4)]) dX11_stepOf_123 (by decide) rfl rfl ?_
  refine g_aload_n (pc := 125) 2 dX11_stepOf_125 rfl rfl ?_
  refine g_getR (pc := 126) fl_X11_62 dX11_stepOf_126 g1 ?_
  refine g_iload_n (pc := 129) 3 dX11_stepOf_129 rfl rfl ?_
  obtain ⟨g4, hf⟩ := gs_some hf
  obtain ⟨b5, hf⟩ := gb_some hf
  refine g_iald (pc := 130) g4 b5 dX11_stepOf_130 ?_
  obtain ⟨x6, ex6, hf⟩ := lt_some hf
  refine g_istore (pc := 131) (L' := [(7, .int x6), (6, .int v3), (5, .int v2), (0, rf X a0), (1, .int a1), (2, .int a2), (3, .int a3), (4, .int a4)]) dX11_stepOf_131 (by decide) ex6 rfl ?_
  refine g_iload_n (pc := 133) 5 dX11_stepOf_133 rfl rfl ?_
  refine g_bipush (pc := 134) (v := (127 : Int32)) dX11_stepOf_134 (by decide) ?_
  refine g_iand (pc := 136) dX11_stepOf_136 ?_
  rcases it_some hf with ⟨c7, hf⟩ | ⟨c7, hf⟩
  · refine g_lsw (pc := 137) (tgt := 387) (3 : Int32) dX11_stepOf_137 (by decide +kernel) c7 (off := 250) (by decide +kernel) (by decide) ?_
    refine g_aload_n (pc := 387) 3 dX11_stepOf_387 rfl rfl ?_
    refine g_iload_n (pc := 388) 4 dX11_stepOf_388 rfl rfl ?_
    refine g_iload_n (pc := 389) 6 dX11_stepOf_389 rfl rfl ?_
    refine g_iload (pc := 390) 7 dX11_stepOf_390 rfl ?_
    refine g_iload (pc := 392) 2 dX11_stepOf_392 rfl ?_
    refine g_iload_n (pc := 394) 5 dX11_stepOf_394 rfl rfl ?_
    refine g_bipush (pc := 395) (v := (20 : Int32)) dX11_stepOf_395 (by decide) ?_
    refine g_ishr (pc := 397) dX11_stepOf_397 ?_
    refine g_iadd (pc := 398) dX11_stepOf_398 ?_
    obtain ⟨q8, hcq8, hf⟩ := bd_some hf
    refine g_cVI (pc := 399) (k2 := k_X11_load) (av := [.int a1, .int a3, .int a4, .int (v2 + (a2 >>> ((20 : Int32) &&& 31)))]) (q := q8) rfl dX11_stepOf_399 ck_X11_load m_1871 m_1873 m_96 (ci := 9) rfl (by decide) g1 (by decide) (by decide) rfl (by simp [rf_cat, rq_cat, ca_i, ca_l, ca_r]) (ct_X11_load l X hcq8) ?_
    obtain rfl := Option.some.inj hf
    exact g_iret (pc := 402) rfl dX11_stepOf_402
  ·
    rcases it_some hf with ⟨c9, hf⟩ | ⟨c9, hf⟩
    · refine g_lsw (pc := 137) (tgt := 457) (15 : Int32) dX11_stepOf_137 (by decide +kernel) c9 (off := 320) (by decide +kernel) (by decide) ?_
      refine g_iload_n (pc := 457) 6 dX11_stepOf_457 rfl rfl ?_
      rcases it_some hf with ⟨c10, hf⟩ | ⟨c10, hf⟩
      · refine g_ifeq_t (pc := 458) (tgt := 468) dX11_stepOf_458 (by decide) c10 ?_
        refine g_aload_n (pc := 468) 3 dX11_stepOf_468 rfl rfl ?_
        refine g_getR (pc := 469) fl_X11_74 dX11_stepOf_469 g1 ?_
        refine g_iload_n (pc := 472) 4 dX11_stepOf_472 rfl rfl ?_
        obtain ⟨g11, hf⟩ := gs_some hf
        obtain ⟨b12, hf⟩ := gb_some hf
        refine g_iald (pc := 473) g11 b12 dX11_stepOf_473 ?_
        rcases it_some hf with ⟨c13, hf⟩ | ⟨c13, hf⟩
        · refine g_ifle_t (pc := 474) (tgt := 479) dX11_stepOf_474 (by decide) c13 ?_
          refine g_aload_n (pc := 479) 3 dX11_stepOf_479 rfl rfl ?_
          refine g_iconst (pc := 480) (v := (0 : Int32)) dX11_stepOf_480 (by decide) ?_
          obtain ⟨h14, eh14, hf⟩ := lt_some hf
          refine g_putI (pc := 481) fl_X11_570 dX11_stepOf_481 g1 eh14 ?_
          refine g_goto (pc := 484) (tgt := 518) dX11_stepOf_484 (by decide) ?_
          refine g_sub [3, 4, 0] rfl ?_
          exact ok_X11_stepOf_L518 l X h14 a0 a1 x6 q hf
        · refine g_ifle_f (pc := 474) (tgt := 479) dX11_stepOf_474 (by decide) c13 ?_
          refine g_iconst (pc := 477) (v := (5 : Int32)) dX11_stepOf_477 (by decide) ?_
          obtain rfl := Option.some.inj hf
          exact g_iret (pc := 478) rfl dX11_stepOf_478
      · refine g_ifeq_f (pc := 458) (tgt := 468) dX11_stepOf_458 (by decide) c10 ?_
        refine g_aload_n (pc := 461) 3 dX11_stepOf_461 rfl rfl ?_
        refine g_iload_n (pc := 462) 4 dX11_stepOf_462 rfl rfl ?_
        refine g_iconst (pc := 463) (v := (2 : Int32)) dX11_stepOf_463 (by decide) ?_
        obtain ⟨q15, hcq15, hf⟩ := bd_some hf
        refine g_cVI (pc := 464) (k2 := k_X11_stops) (av := [.int a1, .int (2 : Int32)]) (q := q15) rfl dX11_stepOf_464 ck_X11_stops m_1859 m_1861 m_94 (ci := 9) rfl (by decide) g1 (by decide) (by decide) rfl (by simp [rf_cat, rq_cat, ca_i, ca_l, ca_r]) (ct_X11_stops l X hcq15) ?_
        obtain rfl := Option.some.inj hf
        exact g_iret (pc := 467) rfl dX11_stepOf_467
    ·
      rcases it_some hf with ⟨c16, hf⟩ | ⟨c16, hf⟩
      · refine g_lsw (pc := 137) (tgt := 429) (19 : Int32) dX11_stepOf_137 (by decide +kernel) c16 (off := 292) (by decide +kernel) (by decide) ?_
        refine g_aload_n (pc := 429) 3 dX11_stepOf_429 rfl rfl ?_
        refine g_iload_n (pc := 430) 4 dX11_stepOf_430 rfl rfl ?_
        refine g_iload_n (pc := 431) 5 dX11_stepOf_431 rfl rfl ?_
        refine g_iload_n (pc := 432) 6 dX11_stepOf_432 rfl rfl ?_
        refine g_iload (pc := 433) 7 dX11_stepOf_433 rfl ?_
        refine g_iload (pc := 435) 2 dX11_stepOf_435 rfl ?_
        refine g_iload (pc := 437) 1 dX11_stepOf_437 rfl ?_
        obtain ⟨q17, hcq17, hf⟩ := bd_some hf
        refine g_cVI (pc := 439) (k2 := k_X11_reckon) (av := [.int a1, .int a2, .int a3, .int a4, .int v2, .int v3]) (q := q17) rfl dX11_stepOf_439 ck_X11_reckon m_1879 m_1881 m_98 (ci := 9) rfl (by decide) g1 (by decide) (by decide) rfl (by simp [rf_cat, rq_cat, ca_i, ca_l, ca_r]) (ct_X11_reckon l X hcq17) ?_
        obtain rfl := Option.some.inj hf
        exact g_iret (pc := 442) rfl dX11_stepOf_442
      ·
        rcases it_some hf with ⟨c18, hf⟩ | ⟨c18, hf⟩
        · refine g_lsw (pc := 137) (tgt := 259) (23 : Int32) dX11_stepOf_137 (by decide +kernel) c18 (off := 122) (by decide +kernel) (by decide) ?_
          refine g_aload_n (pc := 259) 3 dX11_stepOf_259 rfl rfl ?_
          refine g_iload_n (pc := 260) 4 dX11_stepOf_260 rfl rfl ?_
          refine g_iload (pc := 261) 7 dX11_stepOf_261 rfl ?_
          refine g_iload (pc := 263) 0 dX11_stepOf_263 rfl ?_
          refine g_iload_n (pc := 265) 5 dX11_stepOf_265 rfl rfl ?_
          refine g_sipush (pc := 266) (v := (-4096 : Int32)) dX11_stepOf_266 (by decide) ?_
          refine g_iand (pc := 269) dX11_stepOf_269 ?_
          refine g_iadd (pc := 270) dX11_stepOf_270 ?_
          obtain ⟨q19, hcq19, hf⟩ := bd_some hf
          refine g_cVV (pc := 271) (k2 := k_X11_setReg) (av := [.int a1, .int a4, .int (x6 + (a2 &&& (-4096 : Int32)))]) (q := q19) rfl dX11_stepOf_271 ck_X11_setReg m_1851 m_1853 m_92 (ci := 9) rfl (by decide) g1 (by decide) (by decide) rfl (by simp [rf_cat, rq_cat, ca_i, ca_l, ca_r]) (ct_X11_setReg l X hcq19) ?_
          refine g_goto (pc := 274) (tgt := 518) dX11_stepOf_274 (by decide) ?_
          refine g_sub [3, 4, 0] rfl ?_
          exact ok_X11_stepOf_L518 l X q19 a0 a1 x6 q hf
        ·
          rcases it_some hf with ⟨c20, hf⟩ | ⟨c20, hf⟩
          · refine g_lsw (pc := 137) (tgt := 403) (35 : Int32) dX11_stepOf_137 (by decide +kernel) c20 (off := 266) (by decide +kernel) (by decide) ?_
            refine g_aload_n (pc := 403) 3 dX11_stepOf_403 rfl rfl ?_
            refine g_iload_n (pc := 404) 4 dX11_stepOf_404 rfl rfl ?_
            refine g_iload_n (pc := 405) 6 dX11_stepOf_405 rfl rfl ?_
            refine g_iload (pc := 406) 2 dX11_stepOf_406 rfl ?_
            refine g_iload_n (pc := 408) 5 dX11_stepOf_408 rfl rfl ?_
            refine g_bipush (pc := 409) (v := (25 : Int32)) dX11_stepOf_409 (by decide) ?_
            refine g_ishr (pc := 411) dX11_stepOf_411 ?_
            refine g_iconst (pc := 412) (v := (5 : Int32)) dX11_stepOf_412 (by decide) ?_
            refine g_ishl (pc := 413) dX11_stepOf_413 ?_
            refine g_iload_n (pc := 414) 5 dX11_stepOf_414 rfl rfl ?_
            refine g_bipush (pc := 415) (v := (7 : Int32)) dX11_stepOf_415 (by decide) ?_
            refine g_ishr (pc := 417) dX11_stepOf_417 ?_
            refine g_bipush (pc := 418) (v := (31 : Int32)) dX11_stepOf_418 (by decide) ?_
            refine g_iand (pc := 420) dX11_stepOf_420 ?_
            refine g_ior (pc := 421) dX11_stepOf_421 ?_
            refine g_iadd (pc := 422) dX11_stepOf_422 ?_
            refine g_iload (pc := 423) 1 dX11_stepOf_423 rfl ?_
            obtain ⟨q21, hcq21, hf⟩ := bd_some hf
            refine g_cVI (pc := 425) (k2 := k_X11_store) (av := [.int a1, .int a3, .int (v2 + (((a2 >>> ((25 : Int32) &&& 31)) <<< ((5 : Int32) &&& 31)) ||| ((a2 >>> ((7 : Int32) &&& 31)) &&& (31 : Int32)))), .int v3]) (q := q21) rfl dX11_stepOf_425 ck_X11_store m_1875 m_1877 m_97 (ci := 9) rfl (by decide) g1 (by decide) (by decide) rfl (by simp [rf_cat, rq_cat, ca_i, ca_l, ca_r]) (ct_X11_store l X hcq21) ?_
            refine g_sub [] rfl ?_
            exact ok_X11_stepOf_L428 l X q21.2 q21.1 q hf
          ·
            rcases it_some hf with ⟨c22, hf⟩ | ⟨c22, hf⟩
            · refine g_lsw (pc := 137) (tgt := 443) (47 : Int32) dX11_stepOf_137 (by decide +kernel) c22 (off := 306) (by decide +kernel) (by decide) ?_
              refine g_aload_n (pc := 443) 3 dX11_stepOf_443 rfl rfl ?_
              refine g_iload_n (pc := 444) 4 dX11_stepOf_444 rfl rfl ?_
              refine g_iload_n (pc := 445) 5 dX11_stepOf_445 rfl rfl ?_
              refine g_iload_n (pc := 446) 6 dX11_stepOf_446 rfl rfl ?_
              refine g_iload (pc := 447) 7 dX11_stepOf_447 rfl ?_
              refine g_iload (pc := 449) 2 dX11_stepOf_449 rfl ?_
              refine g_iload (pc := 451) 1 dX11_stepOf_451 rfl ?_
              obtain ⟨q23, hcq23, hf⟩ := bd_some hf
              refine g_cVI (pc := 453) (k2 := k_X11_atomic) (av := [.int a1, .int a2, .int a3, .int a4, .int v2, .int v3]) (q := q23) rfl dX11_stepOf_453 ck_X11_atomic m_1883 m_1885 m_99 (ci := 9) rfl (by decide) g1 (by decide) (by decide) rfl (by simp [rf_cat, rq_cat, ca_i, ca_l, ca_r]) (ct_X11_atomic l X hcq23) ?_
              obtain rfl := Option.some.inj hf
              exact g_iret (pc := 456) rfl dX11_stepOf_456
            ·
              rcases it_some hf with ⟨c24, hf⟩ | ⟨c24, hf⟩
              · refine g_lsw (pc := 137) (tgt := 429) (51 : Int32) dX11_stepOf_137 (by decide +kernel) c24 (off := 292) (by decide +kernel) (by decide) ?_
                refine g_aload_n (pc := 429) 3 dX11_stepOf_429 rfl rfl ?_
                refine g_iload_n (pc := 430) 4 dX11_stepOf_430 rfl rfl ?_
                refine g_iload_n (pc := 431) 5 dX11_stepOf_431 rfl rfl ?_
                refine g_iload_n (pc := 432) 6 dX11_stepOf_432 rfl rfl ?_
                refine g_iload (pc := 433) 7 dX11_stepOf_433 rfl ?_
                refine g_iload (pc := 435) 2 dX11_stepOf_435 rfl ?_
                refine g_iload (pc := 437) 1 dX11_stepOf_437 rfl ?_
                obtain ⟨q25, hcq25, hf⟩ := bd_some hf
                refine g_cVI (pc := 439) (k2 := k_X11_reckon) (av := [.int a1, .int a2, .int a3, .int a4, .int v2, .int v3]) (q := q25) rfl dX11_stepOf_439 ck_X11_reckon m_1879 m_1881 m_98 (ci := 9) rfl (by decide) g1 (by decide) (by decide) rfl (by simp [rf_cat, rq_cat, ca_i, ca_l, ca_r]) (ct_X11_reckon l X hcq25) ?_
                obtain rfl := Option.some.inj hf
                exact g_iret (pc := 442) rfl dX11_stepOf_442
              ·
                rcases it_some hf with ⟨c26, hf⟩ | ⟨c26, hf⟩
                · refine g_lsw (pc := 137) (tgt := 244) (55 : Int32) dX11_stepOf_137 (by decide +kernel) c26 (off := 107) (by decide +kernel) (by decide) ?_
                  refine g_aload_n (pc := 244) 3 dX11_stepOf_244 rfl rfl ?_
                  refine g_iload_n (pc := 245) 4 dX11_stepOf_245 rfl rfl ?_
                  refine g_iload (pc := 246) 7 dX11_stepOf_246 rfl ?_
                  refine g_iload_n (pc := 248) 5 dX11_stepOf_248 rfl rfl ?_
                  refine g_sipush (pc := 249) (v := (-4096 : Int32)) dX11_stepOf_249 (by decide) ?_
                  refine g_iand (pc := 252) dX11_stepOf_252 ?_
                  obtain ⟨q27, hcq27, hf⟩ := bd_some hf
                  refine g_cVV (pc := 253) (k2 := k_X11_setReg) (av := [.int a1, .int a4, .int (a2 &&& (-4096 : Int32))]) (q := q27) rfl dX11_stepOf_253 ck_X11_setReg m_1851 m_1853 m_92 (ci := 9) rfl (by decide) g1 (by decide) (by decide) rfl (by simp [rf_cat, rq_cat, ca_i, ca_l, ca_r]) (ct_X11_setReg l X hcq27) ?_
                  refine g_goto (pc := 256) (tgt := 518) dX11_stepOf_256 (by decide) ?_
                  refine g_sub [3, 4, 0] rfl ?_
                  exact ok_X11_stepOf_L518 l X q27 a0 a1 x6 q hf
                ·
                  rcases it_some hf with ⟨c28, hf⟩ | ⟨c28, hf⟩
                  · refine g_lsw (pc := 137) (tgt := 375) (99 : Int32) dX11_stepOf_137 (by decide +kernel) c28 (off := 238) (by decide +kernel) (by decide) ?_
                    refine g_aload_n (pc := 375) 3 dX11_stepOf_375 rfl rfl ?_
                    refine g_iload_n (pc := 376) 4 dX11_stepOf_376 rfl rfl ?_
                    refine g_iload_n (pc := 377) 5 dX11_stepOf_377 rfl rfl ?_
                    refine g_iload_n (pc := 378) 6 dX11_stepOf_378 rfl rfl ?_
                    refine g_iload (pc := 379) 2 dX11_stepOf_379 rfl ?_
                    refine g_iload (pc := 381) 1 dX11_stepOf_381 rfl ?_
                    obtain ⟨q29, hcq29, hf⟩ := bd_some hf
                    refine g_cVI (pc := 383) (k2 := k_X11_branch) (av := [.int a1, .int a2, .int a3, .int v2, .int v3]) (q := q29) rfl dX11_stepOf_383 ck_X11_branch m_1863 m_1865 m_95 (ci := 9) rfl (by decide) g1 (by decide) (by decide) rfl (by simp [rf_cat, rq_cat, ca_i, ca_l, ca_r]) (ct_X11_branch l X hcq29) ?_
                    obtain rfl := Option.some.inj hf
                    exact g_iret (pc := 386) rfl dX11_stepOf_386
                  ·
                    rcases it_some hf with ⟨c30, hf⟩ | ⟨c30, hf⟩
                    · refine g_lsw (pc := 137) (tgt := 337) (103 : Int32) dX11_stepOf_137 (by decide +kernel) c30 (off := 200) (by decide +kernel) (by decide) ?_
                      refine g_iload_n (pc := 337) 6 dX11_stepOf_337 rfl rfl ?_
                      rcases it_some hf with ⟨c31, hf⟩ | ⟨c31, hf⟩
                      · refine g_ifeq_t (pc := 338) (tgt := 348) dX11_stepOf_338 (by decide) c31 ?_
                        refine g_aload_n (pc := 348) 3 dX11_stepOf_348 rfl rfl ?_
                        refine g_iload_n (pc := 349) 4 dX11_stepOf_349 rfl rfl ?_
                        refine g_iload (pc := 350) 7 dX11_stepOf_350 rfl ?_
                        refine g_iload (pc := 352) 0 dX11_stepOf_352 rfl ?_
                        refine g_iconst (pc := 354) (v := (4 : Int32)) dX11_stepOf_354 (by decide) ?_
                        refine g_iadd (pc := 355) dX11_stepOf_355 ?_
                        obtain ⟨q32, hcq32, hf⟩ := bd_some hf
                        refine g_cVV (pc := 356) (k2 := k_X11_setReg) (av := [.int a1, .int a4, .int (x6 + (4 : Int32))]) (q := q32) rfl dX11_stepOf_356 ck_X11_setReg m_1851 m_1853 m_92 (ci := 9) rfl (by decide) g1 (by decide) (by decide) rfl (by simp [rf_cat, rq_cat, ca_i, ca_l, ca_r]) (ct_X11_setReg l X hcq32) ?_
                        refine g_aload_n (pc := 359) 3 dX11_stepOf_359 rfl rfl ?_
                        refine g_iload_n (pc := 360) 4 dX11_stepOf_360 rfl rfl ?_
                        refine g_iload (pc := 361) 2 dX11_stepOf_361 rfl ?_
                        refine g_iload_n (pc := 363) 5 dX11_stepOf_363 rfl rfl ?_
                        refine g_bipush (pc := 364) (v := (20 : Int32)) dX11_stepOf_364 (by decide) ?_
                        refine g_ishr (pc := 366) dX11_stepOf_366 ?_
                        refine g_iadd (pc := 367) dX11_stepOf_367 ?_
                        refine g_bipush (pc := 368) (v := (-2 : Int32)) dX11_stepOf_368 (by decide) ?_
                        refine g_iand (pc := 370) dX11_stepOf_370 ?_
                        obtain ⟨g33, hf⟩ := gs_some hf
                        obtain ⟨q34, hcq34, hf⟩ := bd_some hf
                        refine g_cVI (pc := 371) (k2 := k_X11_retire) (av := [.int a1, .int ((v2 + (a2 >>> ((20 : Int32) &&& 31))) &&& (-2 : Int32))]) (q := q34) rfl dX11_stepOf_371 ck_X11_retire m_1855 m_1857 m_93 (ci := 9) rfl (by decide) g33 (by decide) (by decide) rfl (by simp [rf_cat, rq_cat, ca_i, ca_l, ca_r]) (ct_X11_retire l X hcq34) ?_
                        obtain rfl := Option.some.inj hf
                        exact g_iret (pc := 374) rfl dX11_stepOf_374
                      · refine g_ifeq_f (pc := 338) (tgt := 348) dX11_stepOf_338 (by decide) c31 ?_
                        refine g_aload_n (pc := 341) 3 dX11_stepOf_341 rfl rfl ?_
                        refine g_iload_n (pc := 342) 4 dX11_stepOf_342 rfl rfl ?_
                        refine g_iconst (pc := 343) (v := (2 : Int32)) dX11_stepOf_343 (by decide) ?_
                        obtain ⟨q35, hcq35, hf⟩ := bd_some hf
                        refine g_cVI (pc := 344) (k2 := k_X11_stops) (av := [.int a1, .int (2 : Int32)]) (q := q35) rfl dX11_stepOf_344 ck_X11_stops m_1859 m_1861 m_94 (ci := 9) rfl (by decide) g1 (by decide) (by decide) rfl (by simp [rf_cat, rq_cat, ca_i, ca_l, ca_r]) (ct_X11_stops l X hcq35) ?_
                        obtain rfl := Option.some.inj hf
                        exact g_iret (pc := 347) rfl dX11_stepOf_347
                    ·
                      rcases it_some hf with ⟨c36, hf⟩ | ⟨c36, hf⟩
                      · refine g_lsw (pc := 137) (tgt := 277) (111 : Int32) dX11_stepOf_137 (by decide +kernel) c36 (off := 140) (by decide +kernel) (by decide) ?_
                        refine g_aload_n (pc := 277) 3 dX11_stepOf_277 rfl rfl ?_
                        refine g_iload_n (pc := 278) 4 dX11_stepOf_278 rfl rfl ?_
                        refine g_iload (pc := 279) 7 dX11_stepOf_279 rfl ?_
                        refine g_iload (pc := 281) 0 dX11_stepOf_281 rfl ?_
                        refine g_iconst (pc := 283) (v := (4 : Int32)) dX11_stepOf_283 (by decide) ?_
                        refine g_iadd (pc := 284) dX11_stepOf_284 ?_
                        obtain ⟨q37, hcq37, hf⟩ := bd_some hf
                        refine g_cVV (pc := 285) (k2 := k_X11_setReg) (av := [.int a1, .int a4, .int (x6 + (4 : Int32))]) (q := q37) rfl dX11_stepOf_285 ck_X11_setReg m_1851 m_1853 m_92 (ci := 9) rfl (by decide) g1 (by decide) (by decide) rfl (by simp [rf_cat, rq_cat, ca_i, ca_l, ca_r]) (ct_X11_setReg l X hcq37) ?_
                        refine g_aload_n (pc := 288) 3 dX11_stepOf_288 rfl rfl ?_
                        refine g_iload_n (pc := 289) 4 dX11_stepOf_289 rfl rfl ?_
                        refine g_iload (pc := 290) 0 dX11_stepOf_290 rfl ?_
                        refine g_iload_n (pc := 292) 5 dX11_stepOf_292 rfl rfl ?_
                        refine g_bipush (pc := 293) (v := (31 : Int32)) dX11_stepOf_293 (by decide) ?_
                        refine g_ishr (pc := 295) dX11_stepOf_295 ?_
                        refine g_bipush (pc := 296) (v := (20 : Int32)) dX11_stepOf_296 (by decide) ?_
                        refine g_ishl (pc := 298) dX11_stepOf_298 ?_
                        refine g_iload_n (pc := 299) 5 dX11_stepOf_299 rfl rfl ?_
                        refine g_bipush (pc := 300) (v := (12 : Int32)) dX11_stepOf_300 (by decide) ?_
                        refine g_ishr (pc := 302) dX11_stepOf_302 ?_
                        refine g_sipush (pc := 303) (v := (255 : Int32)) dX11_stepOf_303 (by decide) ?_
                        refine g_iand (pc := 306) dX11_stepOf_306 ?_
                        refine g_bipush (pc := 307) (v := (12 : Int32)) dX11_stepOf_307 (by decide) ?_
                        refine g_ishl (pc := 309) dX11_stepOf_309 ?_
                        refine g_ior (pc := 310) dX11_stepOf_310 ?_
                        refine g_iload_n (pc := 311) 5 dX11_stepOf_311 rfl rfl ?_
                        refine g_bipush (pc := 312) (v := (20 : Int32)) dX11_stepOf_312 (by decide) ?_
                        refine g_ishr (pc := 314) dX11_stepOf_314 ?_
                        refine g_iconst (pc := 315) (v := (1 : Int32)) dX11_stepOf_315 (by decide) ?_
                        refine g_iand (pc := 316) dX11_stepOf_316 ?_
                        refine g_bipush (pc := 317) (v := (11 : Int32)) dX11_stepOf_317 (by decide) ?_
                        refine g_ishl (pc := 319) dX11_stepOf_319 ?_
                        refine g_ior (pc := 320) dX11_stepOf_320 ?_
                        refine g_iload_n (pc := 321) 5 dX11_stepOf_321 rfl rfl ?_
                        refine g_bipush (pc := 322) (v := (21 : Int32)) dX11_stepOf_322 (by decide) ?_
                        refine g_ishr (pc := 324) dX11_stepOf_324 ?_
                        refine g_sipush (pc := 325) (v := (1023 : Int32)) dX11_stepOf_325 (by decide) ?_
                        refine g_iand (pc := 328) dX11_stepOf_328 ?_
                        refine g_iconst (pc := 329) (v := (1 : Int32)) dX11_stepOf_329 (by decide) ?_
                        refine g_ishl (pc := 330) dX11_stepOf_330 ?_
                        refine g_ior (pc := 331) dX11_stepOf_331 ?_
                        refine g_iadd (pc := 332) dX11_stepOf_332 ?_
                        obtain ⟨g38, hf⟩ := gs_some hf
                        obtain ⟨q39, hcq39, hf⟩ := bd_some hf
                        refine g_cVI (pc := 333) (k2 := k_X11_retire) (av := [.int a1, .int (x6 + (((((a2 >>> ((31 : Int32) &&& 31)) <<< ((20 : Int32) &&& 31)) ||| (((a2 >>> ((12 : Int32) &&& 31)) &&& (255 : Int32)) <<< ((12 : Int32) &&& 31))) ||| (((a2 >>> ((20 : Int32) &&& 31)) &&& (1 : Int32)) <<< ((11 : Int32) &&& 31))) ||| (((a2 >>> ((21 : Int32) &&& 31)) &&& (1023 : Int32)) <<< ((1 : Int32) &&& 31))))]) (q := q39) rfl dX11_stepOf_333 ck_X11_retire m_1855 m_1857 m_93 (ci := 9) rfl (by decide) g38 (by decide) (by decide) rfl (by simp [rf_cat, rq_cat, ca_i, ca_l, ca_r]) (ct_X11_retire l X hcq39) ?_
                        refine g_sub [] rfl ?_
                        exact ok_X11_stepOf_L336 l X q39.2 q39.1 q hf
                      ·
                        rcases it_some hf with ⟨c40, hf⟩ | ⟨c40, hf⟩
                        · refine g_lsw (pc := 137) (tgt := 487) (115 : Int32) dX11_stepOf_137 (by decide +kernel) c40 (off := 350) (by decide +kernel) (by decide) ?_
                          refine g_aload_n (pc := 487) 3 dX11_stepOf_487 rfl rfl ?_
                          refine g_iload_n (pc := 488) 4 dX11_stepOf_488 rfl rfl ?_
                          refine g_iload_n (pc := 489) 5 dX11_stepOf_489 rfl rfl ?_
                          refine g_bipush (pc := 490) (v := (115 : Int32)) dX11_stepOf_490 (by decide) ?_
                          rcases it_some hf with ⟨c41, hf⟩ | ⟨c41, hf⟩
                          · refine g_iceq_t (pc := 492) (tgt := 502) dX11_stepOf_492 (by decide) c41 ?_
                            refine g_sub [] rfl ?_
                            exact ok_X11_stepOf_L502 l X h a0 a1 q hf
                          · refine g_iceq_f (pc := 492) (tgt := 502) dX11_stepOf_492 (by decide) c41 ?_
                            refine g_iload_n (pc := 495) 5 dX11_stepOf_495 rfl rfl ?_
                            refine g_ldcw (pc := 496) (v := (1048691 : Int32)) m_1387 dX11_stepOf_496 ?_
                            rcases it_some hf with ⟨c42, hf⟩ | ⟨c42, hf⟩
                            · refine g_icne_t (pc := 499) (tgt := 506) dX11_stepOf_499 (by decide) c42 ?_
                              refine g_iconst (pc := 506) (v := (2 : Int32)) dX11_stepOf_506 (by decide) ?_
                              refine g_sub [] rfl ?_
                              exact ok_X11_stepOf_L507 l X h a0 a1 (2 : Int32) q hf
                            · refine g_icne_f (pc := 499) (tgt := 506) dX11_stepOf_499 (by decide) (Decidable.of_not_not c42) ?_
                              refine g_sub [] rfl ?_
                              exact ok_X11_stepOf_L502 l X h a0 a1 q hf
                        ·
                          refine g_lswD (pc := 137) (tgt := 511) [(3 : Int32), (15 : Int32), (19 : Int32), (23 : Int32), (35 : Int32), (47 : Int32), (51 : Int32), (55 : Int32), (99 : Int32), (103 : Int32), (111 : Int32), (115 : Int32)] dX11_stepOf_137 (by decide +kernel) (by decide +kernel) (cons_ne c7 (cons_ne c9 (cons_ne c16 (cons_ne c18 (cons_ne c20 (cons_ne c22 (cons_ne c24 (cons_ne c26 (cons_ne c28 (cons_ne c30 (cons_ne c36 (cons_ne c40 nil_ne)))))))))))) (by decide) ?_
                          refine g_aload_n (pc := 511) 3 dX11_stepOf_511 rfl rfl ?_
                          refine g_iload_n (pc := 512) 4 dX11_stepOf_512 rfl rfl ?_
                          refine g_iconst (pc := 513) (v := (2 : Int32)) dX11_stepOf_513 (by decide) ?_
                          obtain ⟨q43, hcq43, hf⟩ := bd_some hf
                          refine g_cVI (pc := 514) (k2 := k_X11_stops) (av := [.int a1, .int (2 : Int32)]) (q := q43) rfl dX11_stepOf_514 ck_X11_stops m_1859 m_1861 m_94 (ci := 9) rfl (by decide) g1 (by decide) (by decide) rfl (by simp [rf_cat, rq_cat, ca_i, ca_l, ca_r]) (ct_X11_stops l X hcq43) ?_
                          obtain rfl := Option.some.inj hf
                          exact g_iret (pc := 517) rfl dX11_stepOf_517
set_option maxRecDepth 100000 in
set_option maxHeartbeats 4000000 in
theorem ok_X11_stepOf (l : Launch) (X : Cx) {h : AH} {a0 : Nat} {a1 : Int32} {q : Int32 × AH} (hf : f_X11_stepOf h a0 a1 = some q) : Go l X k_X11_stepOf 0 [(0, rf X a0), (1, .int a1)] [] h (rI q) := by
  unfold f_X11_stepOf at hf
  refine g_aload_n (pc := 0) 0 dX11_stepOf_0 rfl rfl ?_
  obtain ⟨g1, hf⟩ := gs_some hf
  refine g_getR (pc := 1) fl_X11_65 dX11_stepOf_1 g1 ?_
  refine g_iload_n (pc := 4) 1 dX11_stepOf_4 rfl rfl ?_
  obtain ⟨g2, hf⟩ := gs_some hf
  obtain ⟨b3, hf⟩ := gb_some hf
  refine g_iald (pc := 5) g2 b3 dX11_stepOf_5 ?_
  rcases it_some hf with ⟨c4, hf⟩ | ⟨c4, hf⟩
  · refine g_ifle_t (pc := 6) (tgt := 11) dX11_stepOf_6 (by decide) c4 ?_
    refine g_aload_n (pc := 11) 0 dX11_stepOf_11 rfl rfl ?_
    refine g_getR (pc := 12) fl_X11_62 dX11_stepOf_12 g1 ?_
    refine g_iload_n (pc := 15) 1 dX11_stepOf_15 rfl rfl ?_
    obtain ⟨g5, hf⟩ := gs_some hf
    obtain ⟨b6, hf⟩ := gb_some hf
    refine g_iald (pc := 16) g5 b6 dX11_stepOf_16 ?_
    refine g_iconst (pc := 17) (v := (4 : Int32)) dX11_stepOf_17 (by decide) ?_
    refine g_irem (pc := 18) (by decide) dX11_stepOf_18 ?_
    rcases it_some hf with ⟨c7, hf⟩ | ⟨c7, hf⟩
    · refine g_ifeq_t (pc := 19) (tgt := 31) dX11_stepOf_19 (by decide) c7 ?_
      refine g_aload_n (pc := 31) 0 dX11_stepOf_31 rfl rfl ?_
      refine g_iload_n (pc := 32) 1 dX11_stepOf_32 rfl rfl ?_
      refine g_aload_n (pc := 33) 0 dX11_stepOf_33 rfl rfl ?_
      refine g_getR (pc := 34) fl_X11_62 dX11_stepOf_34 g1 ?_
      refine g_iload_n (pc := 37) 1 dX11_stepOf_37 rfl rfl ?_
      obtain ⟨b8, hf⟩ := gb_some hf
      refine g_iald (pc := 38) g5 b8 dX11_stepOf_38 ?_
      refine g_bipush (pc := 39) (v := (15 : Int32)) dX11_stepOf_39 (by decide) ?_
      obtain ⟨q9, hcq9, hf⟩ := bd_some hf
      refine g_cVI (pc := 41) (k2 := k_X11_reads) (av := [.int a1, .int (hI h (hR h a0 26) a1.toNatClampNeg), .int (15 : Int32)]) (q := q9) rfl dX11_stepOf_41 ck_X11_reads m_1800 m_1802 m_80 (ci := 9) rfl (by decide) g1 (by decide) (by decide) rfl (by simp [rf_cat, rq_cat, ca_i, ca_l, ca_r]) (ct_X11_reads l X hcq9) ?_
      rcases it_some hf with ⟨c10, hf⟩ | ⟨c10, hf⟩
      · refine g_ifne_t (pc := 44) (tgt := 49) dX11_stepOf_44 (by decide) c10 ?_
        refine g_aload_n (pc := 49) 0 dX11_stepOf_49 rfl rfl ?_
        obtain ⟨g11, hf⟩ := gs_some hf
        refine g_getI (pc := 50) fl_X11_554 dX11_stepOf_50 g11 ?_
        obtain ⟨x12, ex12, hf⟩ := lt_some hf
        refine g_istore_n (pc := 53) (L' := [(2, .int x12), (0, rf X a0), (1, .int a1)]) dX11_stepOf_53 rfl (by decide) ex12 rfl ?_
        refine g_iload_n (pc := 54) 0 dX11_stepOf_54 rfl rfl ?_
        refine g_bipush (pc := 55) (v := (12 : Int32)) dX11_stepOf_55 (by decide) ?_
        refine g_ishr (pc := 57) dX11_stepOf_57 ?_
        refine g_bipush (pc := 58) (v := (7 : Int32)) dX11_stepOf_58 (by decide) ?_
        refine g_iand (pc := 60) dX11_stepOf_60 ?_
        obtain ⟨x13, ex13, hf⟩ := lt_some hf
        refine g_istore_n (pc := 61) (L' := [(3, .int x13), (2, .int x12), (0, rf X a0), (1, .int a1)]) dX11_stepOf_61 rfl (by decide) ex13 rfl ?_
        refine g_iload_n (pc := 62) 1 dX11_stepOf_62 rfl rfl ?_
        refine g_bipush (pc := 63) (v := (7 : Int32)) dX11_stepOf_63 (by decide) ?_
        refine g_ishr (pc := 65) dX11_stepOf_65 ?_
        refine g_bipush (pc := 66) (v := (31 : Int32)) dX11_stepOf_66 (by decide) ?_
        refine g_iand (pc := 68) dX11_stepOf_68 ?_
        obtain ⟨x14, ex14, hf⟩ := lt_some hf
        refine g_istore (pc := 69) (L' := [(4, .int x14), (3, .int x13), (2, .int x12), (0, rf X a0), (1, .int a1)]) dX11_stepOf_69 (by decide) ex14 rfl ?_
        refine g_aload_n (pc := 71) 3 dX11_stepOf_71 rfl rfl ?_
        refine g_iload_n (pc := 72) 2 dX11_stepOf_72 rfl rfl ?_
        obtain ⟨h15, eh15, hf⟩ := lt_some hf
        refine g_putI (pc := 73) fl_X11_567 dX11_stepOf_73 g11 eh15 ?_
        refine g_aload_n (pc := 76) 3 dX11_stepOf_76 rfl rfl ?_
        refine g_iload (pc := 77) 0 dX11_stepOf_77 rfl ?_
        have g16 : hS h15 a0 = 10 := (hS_tI eh15 g11)
        obtain ⟨h17, eh17, hf⟩ := lt_some hf
        refine g_putI (pc := 79) fl_X11_570 dX11_stepOf_79 g16 eh17 ?_
        refine g_aload_n (pc := 82) 3 dX11_stepOf_82 rfl rfl ?_
        refine g_iconst (pc := 83) (v := (-1 : Int32)) dX11_stepOf_83 (by decide) ?_
        have g18 : hS h17 a0 = 10 := (hS_tI eh17 g16)
        obtain ⟨h19, eh19, hf⟩ := lt_some hf
        refine g_putI (pc := 84) fl_X11_576 dX11_stepOf_84 g18 eh19 ?_
        refine g_aload_n (pc := 87) 3 dX11_stepOf_87 rfl rfl ?_
        refine g_iconst (pc := 88) (v := (0 : Int32)) dX11_stepOf_88 (by decide) ?_
        have g20 : hS h19 a0 = 10 := (hS_tI eh19 g18)
        obtain ⟨h21, eh21, hf⟩ := lt_some hf
        refine g_putI (pc := 89) fl_X11_579 dX11_stepOf_89 g20 eh21 ?_
        refine g_aload_n (pc := 92) 3 dX11_stepOf_92 rfl rfl ?_
        refine g_iconst (pc := 93) (v := (0 : Int32)) dX11_stepOf_93 (by decide) ?_
        have g22 : hS h21 a0 = 10 := (hS_tI eh21 g20)
        obtain ⟨h23, eh23, hf⟩ := lt_some hf
        refine g_putI (pc := 94) fl_X11_582 dX11_stepOf_94 g22 eh23 ?_
        refine g_sub [3, 4, 2, 1, 0] rfl ?_
        exact ok_X11_stepOf_L97 l X h23 a0 a1 x12 x13 x14 q hf
      · refine g_ifne_f (pc := 44) (tgt := 49) dX11_stepOf_44 (by decide) (Decidable.of_not_not c10) ?_
        refine g_iconst (pc := 47) (v := (2 : Int32)) dX11_stepOf_47 (by decide) ?_
        obtain rfl := Option.some.inj hf
        exact g_iret (pc := 48) rfl dX11_stepOf_48
    · refine g_ifeq_f (pc := 19) (tgt := 31) dX11_stepOf_19 (by decide) c7 ?_
      refine g_aload_n (pc := 22) 0 dX11_stepOf_22 rfl rfl ?_
      refine g_getR (pc := 23) fl_X11_65 dX11_stepOf_23 g1 ?_
      refine g_iload_n (pc := 26) 1 dX11_stepOf_26 rfl rfl ?_
      refine g_iconst (pc := 27) (v := (3 : Int32)) dX11_stepOf_27 (by decide) ?_
      obtain ⟨b24, hf⟩ := gb_some hf
      obtain ⟨h25, eh25, hf⟩ := lt_some hf
      refine g_iast (pc := 28) g2 b24 dX11_stepOf_28 eh25 ?_
      refine g_iconst (pc := 29) (v := (1 : Int32)) dX11_stepOf_29 (by decide) ?_
      obtain rfl := Option.some.inj hf
      exact g_iret (pc := 30) rfl dX11_stepOf_30
  · refine g_ifle_f (pc := 6) (tgt := 11) dX11_stepOf_6 (by decide) c4 ?_
    refine g_iconst (pc := 9) (v := (0 : Int32)) dX11_stepOf_9 (by decide) ?_
    obtain rfl := Option.some.inj hf
    exact g_iret (pc := 10) rfl dX11_stepOf_10
theorem ct_X11_stepOf (l : Launch) (X : Cx) {h : AH} {a0 : Nat} {a1 : Int32} {q : Int32 × AH} (hf : f_X11_stepOf h a0 a1 = some q) : Ct l X k_X11_stepOf [rf X a0, .int a1] h (rI q) := ct_of ck_X11_stepOf (by simp [lg_sl, rf_cat, rq_cat, ca_i, ca_l, ca_r]) (by simp [lv_args, rf_cat, rq_cat, ca_i, ca_l, ca_r]) (ok_X11_stepOf l X hf)
set_option maxRecDepth 100000 in
set_option maxHeartbeats 4000000 in
theorem ok_X11_drainOf_L91 (l : Launch) (X : Cx) : ∀ (n : Nat) (h : AH) (a0 : Nat) (a1 : Int32) (a4 : Int32) (q : Int32 × AH), f_X11_drainOf_L91 n h a0 a1 a4 = some q → Go l X k_X11_drainOf 91 [(0, rf X a0), (1, .int a1), (4, .int a4)] [] h (rI q) := by
  intro n
  induction n with
  | zero =>
    intro h a0 a1 a4 q hf
    unfold f_X11_drainOf_L91 at hf
    cases hf
  | succ n ih =>
    intro h a0 a1 a4 q hf
    unfold f_X11_drainOf_L91 at hf
    refine g_iload (pc := 91) 2 dX11_drainOf_91 rfl ?_
    refine g_bipush (pc := 93) (v := (16 : Int32)) dX11_drainOf_93 (by decide) ?_
    refine g_iload_n (pc := 95) 1 dX11_drainOf_95 rfl rfl ?_
    refine g_imul (pc := 96) dX11_drainOf_96 ?_
    refine g_aload_n (pc := 97) 0 dX11_drainOf_97 rfl rfl ?_
    obtain ⟨g1, hf⟩ := gs_some hf
    refine g_getR (pc := 98) fl_X11_74 dX11_drainOf_98 g1 ?_
    refine g_iload_n (pc := 101) 1 dX11_drainOf_101 rfl rfl ?_
    obtain ⟨g2, hf⟩ := gs_some hf
    obtain ⟨b3, hf⟩ := gb_some hf
    refine g_iald (pc := 102) g2 b3 dX11_drainOf_102 ?_
    refine g_iadd (pc := 103) dX11_drainOf_103 ?_
    rcases it_some hf with ⟨c4, hf⟩ | ⟨c4, hf⟩
    · refine g_icge_t (pc := 104) (tgt := 161) dX11_drainOf_104 (by decide) c4 ?_
      refine g_iconst (pc := 161) (v := (1 : Int32)) dX11_drainOf_161 (by decide) ?_
      obtain rfl := Option.some.inj hf
      exact g_iret (pc := 162) rfl dX11_drainOf_162
    · refine g_icge_f (pc := 104) (tgt := 161) dX11_drainOf_104 (by decide) c4 ?_
      refine g_aload_n (pc := 107) 0 dX11_drainOf_107 rfl rfl ?_
      refine g_getR (pc := 108) fl_X11_77 dX11_drainOf_108 g1 ?_
      refine g_iload (pc := 111) 2 dX11_drainOf_111 rfl ?_
      refine g_aload_n (pc := 113) 0 dX11_drainOf_113 rfl rfl ?_
      refine g_getR (pc := 114) fl_X11_77 dX11_drainOf_114 g1 ?_
      refine g_iload (pc := 117) 2 dX11_drainOf_117 rfl ?_
      refine g_iconst (pc := 119) (v := (1 : Int32)) dX11_drainOf_119 (by decide) ?_
      refine g_iadd (pc := 120) dX11_drainOf_120 ?_
      obtain ⟨g5, hf⟩ := gs_some hf
      obtain ⟨b6, hf⟩ := gb_some hf
      refine g_iald (pc := 121) g5 b6 dX11_drainOf_121 ?_
      obtain ⟨b7, hf⟩ := gb_some hf
      obtain ⟨h8, eh8, hf⟩ := lt_some hf
      refine g_iast (pc := 122) g5 b7 dX11_drainOf_122 eh8 ?_
      refine g_aload_n (pc := 123) 0 dX11_drainOf_123 rfl rfl ?_
      have g9 : hS h8 a0 = 10 := (hS_tI eh8 g1)
      refine g_getR (pc := 124) fl_X11_80 dX11_drainOf_124 g9 ?_
      refine g_iload (pc := 127) 2 dX11_drainOf_127 rfl ?_
      refine g_aload_n (pc := 129) 0 dX11_drainOf_129 rfl rfl ?_
      refine g_getR (pc := 130) fl_X11_80 dX11_drainOf_130 g9 ?_
      refine g_iload (pc := 133) 2 dX11_drainOf_133 rfl ?_
      refine g_iconst (pc := 135) (v := (1 : Int32)) dX11_drainOf_135 (by decide) ?_
      refine g_iadd (pc := 136) dX11_drainOf_136 ?_
      obtain ⟨g10, hf⟩ := gs_some hf
      obtain ⟨b11, hf⟩ := gb_some hf
      refine g_iald (pc := 137) g10 b11 dX11_drainOf_137 ?_
      obtain ⟨b12, hf⟩ := gb_some hf
      obtain ⟨h13, eh13, hf⟩ := lt_some hf
      refine g_iast (pc := 138) g10 b12 dX11_drainOf_138 eh13 ?_
      refine g_aload_n (pc := 139) 0 dX11_drainOf_139 rfl rfl ?_
      have g14 : hS h13 a0 = 10 := (hS_tI eh13 g9)
      refine g_getR (pc := 140) fl_X11_83 dX11_drainOf_140 g14 ?_
      refine g_iload (pc := 143) 2 dX11_drainOf_143 rfl ?_
      refine g_aload_n (pc := 145) 0 dX11_drainOf_145 rfl rfl ?_
      refine g_getR (pc := 146) fl_X11_83 dX11_drainOf_146 g14 ?_
      refine g_iload (pc := 149) 2 dX11_drainOf_149 rfl ?_
      refine g_iconst (pc := 151) (v := (1 : Int32)) dX11_drainOf_151 (by decide) ?_
      refine g_iadd (pc := 152) dX11_drainOf_152 ?_
      obtain ⟨g15, hf⟩ := gs_some hf
      obtain ⟨b16, hf⟩ := gb_some hf
      refine g_iald (pc := 153) g15 b16 dX11_drainOf_153 ?_
      obtain ⟨b17, hf⟩ := gb_some hf
      obtain ⟨h18, eh18, hf⟩ := lt_some hf
      refine g_iast (pc := 154) g15 b17 dX11_drainOf_154 eh18 ?_
      obtain ⟨x19, ex19, hf⟩ := lt_some hf
      refine g_iinc (pc := 155) (y := x19) (L' := [(4, .int x19), (0, rf X a0), (1, .int a1)]) 2 dX11_drainOf_155 rfl (by decide) (ex19.trans rfl) rfl ?_
      refine g_goto (pc := 158) (tgt := 91) dX11_drainOf_158 (by decide) ?_
      refine g_sub [1, 2, 0] rfl ?_
      exact ih h18 a0 a1 x19 q hf
set_option maxRecDepth 100000 in
set_option maxHeartbeats 4000000 in
theorem ok_X11_drainOf_L85 (l : Launch) (X : Cx) (h : AH) (a0 : Nat) (a1 : Int32) (q : Int32 × AH) (hf : f_X11_drainOf_L85 h a0 a1 = some q) : Go l X k_X11_drainOf 85 [(0, rf X a0), (1, .int a1)] [] h (rI q) := by
  unfold f_X11_drainOf_L85 at hf
  refine g_bipush (pc := 85) (v := (16 : Int32)) dX11_drainOf_85 (by decide) ?_
  refine g_iload_n (pc := 87) 1 dX11_drainOf_87 rfl rfl ?_
  refine g_imul (pc := 88) dX11_drainOf_88 ?_
  obtain ⟨x1, ex1, hf⟩ := lt_some hf
  refine g_istore (pc := 89) (L' := [(4, .int x1), (0, rf X a0), (1, .int a1)]) dX11_drainOf_89 (by decide) ex1 rfl ?_
  refine g_sub [1, 2, 0] rfl ?_
  exact ok_X11_drainOf_L91 l X FU h a0 a1 x1 q hf
set_option maxRecDepth 100000 in
set_option maxHeartbeats 4000000 in
theorem ok_X11_drainOf (l : Launch) (X : Cx) {h : AH} {a0 : Nat} {a1 : Int32} {q : Int32 × AH} (hf : f_X11_drainOf h a0 a1 = some q) : Go l X k_X11_drainOf 0 [(0, rf X a0), (1, .int a1)] [] h (rI q) := by
  unfold f_X11_drainOf at hf
  refine g_aload_n (pc := 0) 0 dX11_drainOf_0 rfl rfl ?_
  obtain ⟨g1, hf⟩ := gs_some hf
  refine g_getR (pc := 1) fl_X11_74 dX11_drainOf_1 g1 ?_
  refine g_iload_n (pc := 4) 1 dX11_drainOf_4 rfl rfl ?_
  obtain ⟨g2, hf⟩ := gs_some hf
  obtain ⟨b3, hf⟩ := gb_some hf
  refine g_iald (pc := 5) g2 b3 dX11_drainOf_5 ?_
  rcases it_some hf with ⟨c4, hf⟩ | ⟨c4, hf⟩
  · refine g_ifne_t (pc := 6) (tgt := 11) dX11_drainOf_6 (by decide) c4 ?_
    refine g_aload_n (pc := 11) 0 dX11_drainOf_11 rfl rfl ?_
    refine g_getR (pc := 12) fl_X11_77 dX11_drainOf_12 g1 ?_
    refine g_bipush (pc := 15) (v := (16 : Int32)) dX11_drainOf_15 (by decide) ?_
    refine g_iload_n (pc := 17) 1 dX11_drainOf_17 rfl rfl ?_
    refine g_imul (pc := 18) dX11_drainOf_18 ?_
    obtain ⟨g5, hf⟩ := gs_some hf
    obtain ⟨b6, hf⟩ := gb_some hf
    refine g_iald (pc := 19) g5 b6 dX11_drainOf_19 ?_
    obtain ⟨x7, ex7, hf⟩ := lt_some hf
    refine g_istore_n (pc := 20) (L' := [(2, .int x7), (0, rf X a0), (1, .int a1)]) dX11_drainOf_20 rfl (by decide) ex7 rfl ?_
    refine g_aload_n (pc := 21) 1 dX11_drainOf_21 rfl rfl ?_
    refine g_iload_n (pc := 22) 2 dX11_drainOf_22 rfl rfl ?_
    refine g_iload_n (pc := 23) 0 dX11_drainOf_23 rfl rfl ?_
    obtain ⟨q8, hcq8, hf⟩ := bd_some hf
    refine g_cVI (pc := 24) (k2 := k_X11_changes) (av := [.int a1, .int x7]) (q := q8) rfl dX11_drainOf_24 ck_X11_changes m_1887 m_1889 m_100 (ci := 9) rfl (by decide) g1 (by decide) (by decide) rfl (by simp [rf_cat, rq_cat, ca_i, ca_l, ca_r]) (ct_X11_changes l X hcq8) ?_
    rcases it_some hf with ⟨c9, hf⟩ | ⟨c9, hf⟩
    · refine g_ifne_t (pc := 27) (tgt := 32) dX11_drainOf_27 (by decide) c9 ?_
      refine g_aload_n (pc := 32) 1 dX11_drainOf_32 rfl rfl ?_
      obtain ⟨g10, hf⟩ := gs_some hf
      refine g_getR (pc := 33) fl_X11_80 dX11_drainOf_33 g10 ?_
      refine g_bipush (pc := 36) (v := (16 : Int32)) dX11_drainOf_36 (by decide) ?_
      refine g_iload_n (pc := 38) 2 dX11_drainOf_38 rfl rfl ?_
      refine g_imul (pc := 39) dX11_drainOf_39 ?_
      obtain ⟨g11, hf⟩ := gs_some hf
      obtain ⟨b12, hf⟩ := gb_some hf
      refine g_iald (pc := 40) g11 b12 dX11_drainOf_40 ?_
      obtain ⟨v13, hcv13, hf⟩ := bd_some hf
      refine g_cSI (pc := 41) (k2 := k_X11_maskOf) (av := [.int (hI q8.2 (hR q8.2 a0 32) ((16 : Int32) * a1).toNatClampNeg)]) (q := (v13, q8.2)) rfl dX11_drainOf_41 ck_X11_maskOf m_1804 m_1805 (by decide) (by decide) rfl (by simp [rf_cat, rq_cat, ca_i, ca_l, ca_r]) (ct_X11_maskOf l X hcv13) ?_
      refine g_istore_n (pc := 44) (L' := [(3, .int v13), (2, .int x7), (0, rf X a0), (1, .int a1)]) dX11_drainOf_44 rfl (by decide) rfl rfl ?_
      refine g_aload_n (pc := 45) 2 dX11_drainOf_45 rfl rfl ?_
      refine g_getR (pc := 46) fl_X11_53 dX11_drainOf_46 g10 ?_
      refine g_iload_n (pc := 49) 1 dX11_drainOf_49 rfl rfl ?_
      refine g_iconst (pc := 50) (v := (4 : Int32)) dX11_drainOf_50 (by decide) ?_
      refine g_idiv (pc := 51) (by decide) dX11_drainOf_51 ?_
      refine g_aload_n (pc := 52) 2 dX11_drainOf_52 rfl rfl ?_
      refine g_getR (pc := 53) fl_X11_53 dX11_drainOf_53 g10 ?_
      refine g_iload_n (pc := 56) 1 dX11_drainOf_56 rfl rfl ?_
      refine g_iconst (pc := 57) (v := (4 : Int32)) dX11_drainOf_57 (by decide) ?_
      refine g_idiv (pc := 58) (by decide) dX11_drainOf_58 ?_
      obtain ⟨g14, hf⟩ := gs_some hf
      obtain ⟨b15, hf⟩ := gb_some hf
      refine g_iald (pc := 59) g14 b15 dX11_drainOf_59 ?_
      refine g_iload_n (pc := 60) 0 dX11_drainOf_60 rfl rfl ?_
      refine g_iconst (pc := 61) (v := (-1 : Int32)) dX11_drainOf_61 (by decide) ?_
      refine g_ixor (pc := 62) dX11_drainOf_62 ?_
      refine g_iand (pc := 63) dX11_drainOf_63 ?_
      refine g_aload_n (pc := 64) 2 dX11_drainOf_64 rfl rfl ?_
      refine g_getR (pc := 65) fl_X11_83 dX11_drainOf_65 g10 ?_
      refine g_bipush (pc := 68) (v := (16 : Int32)) dX11_drainOf_68 (by decide) ?_
      refine g_iload_n (pc := 70) 3 dX11_drainOf_70 rfl rfl ?_
      refine g_imul (pc := 71) dX11_drainOf_71 ?_
      obtain ⟨g16, hf⟩ := gs_some hf
      obtain ⟨b17, hf⟩ := gb_some hf
      refine g_iald (pc := 72) g16 b17 dX11_drainOf_72 ?_
      refine g_ior (pc := 73) dX11_drainOf_73 ?_
      obtain ⟨b18, hf⟩ := gb_some hf
      obtain ⟨h19, eh19, hf⟩ := lt_some hf
      refine g_iast (pc := 74) g14 b18 dX11_drainOf_74 eh19 ?_
      refine g_aload_n (pc := 75) 2 dX11_drainOf_75 rfl rfl ?_
      have g20 : hS h19 a0 = 10 := (hS_tI eh19 g10)
      refine g_getR (pc := 76) fl_X11_74 dX11_drainOf_76 g20 ?_
      refine g_iload_n (pc := 79) 3 dX11_drainOf_79 rfl rfl ?_
      refine g_dup2 (pc := 80) dX11_drainOf_80 rfl (rf_cat X _) ?_
      obtain ⟨g21, hf⟩ := gs_some hf
      obtain ⟨b22, hf⟩ := gb_some hf
      refine g_iald (pc := 81) g21 b22 dX11_drainOf_81 ?_
      refine g_iconst (pc := 82) (v := (1 : Int32)) dX11_drainOf_82 (by decide) ?_
      refine g_isub (pc := 83) dX11_drainOf_83 ?_
      obtain ⟨b23, hf⟩ := gb_some hf
      obtain ⟨h24, eh24, hf⟩ := lt_some hf
      refine g_iast (pc := 84) g21 b23 dX11_drainOf_84 eh24 ?_
      refine g_sub [2, 3] rfl ?_
      exact ok_X11_drainOf_L85 l X h24 a0 a1 q hf
    · refine g_ifne_f (pc := 27) (tgt := 32) dX11_drainOf_27 (by decide) (Decidable.of_not_not c9) ?_
      refine g_iconst (pc := 30) (v := (2 : Int32)) dX11_drainOf_30 (by decide) ?_
      obtain rfl := Option.some.inj hf
      exact g_iret (pc := 31) rfl dX11_drainOf_31
  · refine g_ifne_f (pc := 6) (tgt := 11) dX11_drainOf_6 (by decide) (Decidable.of_not_not c4) ?_
    refine g_iconst (pc := 9) (v := (0 : Int32)) dX11_drainOf_9 (by decide) ?_
    obtain rfl := Option.some.inj hf
    exact g_iret (pc := 10) rfl dX11_drainOf_10
theorem ct_X11_drainOf (l : Launch) (X : Cx) {h : AH} {a0 : Nat} {a1 : Int32} {q : Int32 × AH} (hf : f_X11_drainOf h a0 a1 = some q) : Ct l X k_X11_drainOf [rf X a0, .int a1] h (rI q) := ct_of ck_X11_drainOf (by simp [lg_sl, rf_cat, rq_cat, ca_i, ca_l, ca_r]) (by simp [lv_args, rf_cat, rq_cat, ca_i, ca_l, ca_r]) (ok_X11_drainOf l X hf)
