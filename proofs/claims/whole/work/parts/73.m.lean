set_option maxRecDepth 100000 in
set_option maxHeartbeats 4000000 in
theorem ok_X11_atCore_L72 (l : Launch) (X : Cx) (h : AH) (a0 : Nat) (a1 : Int32) (a2 : Int32) (a3 : Int32) (q : AH) (hf : f_X11_atCore_L72 h a0 a1 a2 a3 = some q) : Go l X k_X11_atCore 72 [(0, rf X a0), (1, .int a1), (2, .int a2), (3, .int a3)] [] h (rV q) := by
  unfold f_X11_atCore_L72 at hf
  refine g_aload_n (pc := 72) 0 dX11_atCore_72 rfl rfl ?_
  obtain ⟨g1, hf⟩ := gs_some hf
  refine g_getR (pc := 73) fl_X11_105 dX11_atCore_73 g1 ?_
  refine g_iload_n (pc := 76) 3 dX11_atCore_76 rfl rfl ?_
  refine g_iload_n (pc := 77) 2 dX11_atCore_77 rfl rfl ?_
  obtain ⟨g2, hf⟩ := gs_some hf
  obtain ⟨b3, hf⟩ := gb_some hf
  obtain ⟨h4, eh4, hf⟩ := lt_some hf
  refine g_iast (pc := 78) g2 b3 dX11_atCore_78 eh4 ?_
  refine g_aload_n (pc := 79) 0 dX11_atCore_79 rfl rfl ?_
  have g5 : hS h4 a0 = 10 := (hS_tI eh4 g1)
  refine g_getR (pc := 80) fl_X11_108 dX11_atCore_80 g5 ?_
  refine g_iload_n (pc := 83) 3 dX11_atCore_83 rfl rfl ?_
  refine g_aload_n (pc := 84) 0 dX11_atCore_84 rfl rfl ?_
  refine g_getR (pc := 85) fl_X11_300 dX11_atCore_85 g5 ?_
  refine g_iconst (pc := 88) (v := (0 : Int32)) dX11_atCore_88 (by decide) ?_
  obtain ⟨g6, hf⟩ := gs_some hf
  obtain ⟨b7, hf⟩ := gb_some hf
  refine g_iald (pc := 89) g6 b7 dX11_atCore_89 ?_
  refine g_bipush (pc := 90) (v := (6 : Int32)) dX11_atCore_90 (by decide) ?_
  refine g_isub (pc := 92) dX11_atCore_92 ?_
  refine g_iconst (pc := 93) (v := (1 : Int32)) dX11_atCore_93 (by decide) ?_
  refine g_iadd (pc := 94) dX11_atCore_94 ?_
  obtain ⟨g8, hf⟩ := gs_some hf
  obtain ⟨b9, hf⟩ := gb_some hf
  obtain ⟨h10, eh10, hf⟩ := lt_some hf
  refine g_iast (pc := 95) g8 b9 dX11_atCore_95 eh10 ?_
  refine g_aload_n (pc := 96) 0 dX11_atCore_96 rfl rfl ?_
  refine g_iload_n (pc := 97) 3 dX11_atCore_97 rfl rfl ?_
  have g11 : hS h10 a0 = 10 := (hS_tI eh10 g5)
  obtain ⟨q12, hcq12, hf⟩ := bd_some hf
  refine g_cVV (pc := 98) (k2 := k_X11_use) (av := [.int a3]) (q := q12) rfl dX11_atCore_98 ck_X11_use m_1843 m_1845 m_90 (ci := 9) rfl (by decide) g11 (by decide) (by decide) rfl (by simp [rf_cat, rq_cat, ca_i, ca_l, ca_r]) (ct_X11_use l X hcq12) ?_
  refine g_aload_n (pc := 101) 0 dX11_atCore_101 rfl rfl ?_
  obtain ⟨g13, hf⟩ := gs_some hf
  refine g_getR (pc := 102) fl_X11_86 dX11_atCore_102 g13 ?_
  refine g_iload_n (pc := 105) 1 dX11_atCore_105 rfl rfl ?_
  refine g_iconst (pc := 106) (v := (-1 : Int32)) dX11_atCore_106 (by decide) ?_
  obtain ⟨g14, hf⟩ := gs_some hf
  obtain ⟨b15, hf⟩ := gb_some hf
  obtain ⟨h16, eh16, hf⟩ := lt_some hf
  refine g_iast (pc := 107) g14 b15 dX11_atCore_107 eh16 ?_
  refine g_aload_n (pc := 108) 0 dX11_atCore_108 rfl rfl ?_
  refine g_bipush (pc := 109) (v := (10 : Int32)) dX11_atCore_109 (by decide) ?_
  refine g_iload_n (pc := 111) 1 dX11_atCore_111 rfl rfl ?_
  refine g_bipush (pc := 112) (v := (16 : Int32)) dX11_atCore_112 (by decide) ?_
  refine g_iload_n (pc := 114) 2 dX11_atCore_114 rfl rfl ?_
  have g17 : hS h16 a0 = 10 := (hS_tI eh16 g13)
  obtain ⟨q18, hcq18, hf⟩ := bd_some hf
  refine g_cVV (pc := 115) (k2 := k_X11_send) (av := [.int (10 : Int32), .int a1, .int (16 : Int32), .int a2]) (q := q18) rfl dX11_atCore_115 ck_X11_send m_1839 m_1841 m_89 (ci := 9) rfl (by decide) g17 (by decide) (by decide) rfl (by simp [rf_cat, rq_cat, ca_i, ca_l, ca_r]) (ct_X11_send l X hcq18) ?_
  refine g_goto (pc := 118) (tgt := 177) dX11_atCore_118 (by decide) ?_
  obtain rfl := Option.some.inj hf
  exact g_vret (pc := 177) rfl dX11_atCore_177
set_option maxRecDepth 100000 in
set_option maxHeartbeats 4000000 in
theorem ok_X11_atCore_L170 (l : Launch) (X : Cx) (h : AH) (a0 : Nat) (a1 : Int32) (q : AH) (hf : f_X11_atCore_L170 h a0 a1 = some q) : Go l X k_X11_atCore 170 [(0, rf X a0), (1, .int a1)] [] h (rV q) := by
  unfold f_X11_atCore_L170 at hf
  refine g_aload_n (pc := 170) 0 dX11_atCore_170 rfl rfl ?_
  obtain ⟨g1, hf⟩ := gs_some hf
  refine g_getR (pc := 171) fl_X11_92 dX11_atCore_171 g1 ?_
  refine g_iload_n (pc := 174) 1 dX11_atCore_174 rfl rfl ?_
  refine g_iconst (pc := 175) (v := (0 : Int32)) dX11_atCore_175 (by decide) ?_
  obtain ⟨g2, hf⟩ := gs_some hf
  obtain ⟨b3, hf⟩ := gb_some hf
  obtain ⟨h4, eh4, hf⟩ := lt_some hf
  refine g_zast (pc := 176) g2 b3 dX11_atCore_176 eh4 ?_
  obtain rfl := Option.some.inj hf
  exact g_vret (pc := 177) rfl dX11_atCore_177
set_option maxRecDepth 100000 in
set_option maxHeartbeats 4000000 in
theorem ok_X11_atCore (l : Launch) (X : Cx) {h : AH} {a0 : Nat} {a1 : Int32} {q : AH} (hf : f_X11_atCore h a0 a1 = some q) : Go l X k_X11_atCore 0 [(0, rf X a0), (1, .int a1)] [] h (rV q) := by
  unfold f_X11_atCore at hf
  refine g_aload_n (pc := 0) 0 dX11_atCore_0 rfl rfl ?_
  obtain ⟨g1, hf⟩ := gs_some hf
  refine g_getR (pc := 1) fl_X11_300 dX11_atCore_1 g1 ?_
  refine g_iconst (pc := 4) (v := (3 : Int32)) dX11_atCore_4 (by decide) ?_
  obtain ⟨g2, hf⟩ := gs_some hf
  obtain ⟨b3, hf⟩ := gb_some hf
  refine g_iald (pc := 5) g2 b3 dX11_atCore_5 ?_
  obtain ⟨x4, ex4, hf⟩ := lt_some hf
  refine g_istore_n (pc := 6) (L' := [(2, .int x4), (0, rf X a0), (1, .int a1)]) dX11_atCore_6 rfl (by decide) ex4 rfl ?_
  refine g_aload_n (pc := 7) 1 dX11_atCore_7 rfl rfl ?_
  refine g_iload_n (pc := 8) 2 dX11_atCore_8 rfl rfl ?_
  refine g_iload_n (pc := 9) 0 dX11_atCore_9 rfl rfl ?_
  obtain ⟨v5, hcv5, hf⟩ := bd_some hf
  refine g_cVI (pc := 10) (k2 := k_X11_wayOf) (av := [.int a1, .int x4]) (q := (v5, h)) rfl dX11_atCore_10 ck_X11_wayOf m_1807 m_1809 m_81 (ci := 9) rfl (by decide) g1 (by decide) (by decide) rfl (by simp [rf_cat, rq_cat, ca_i, ca_l, ca_r]) (ct_X11_wayOf l X hcv5) ?_
  refine g_istore_n (pc := 13) (L' := [(3, .int v5), (2, .int x4), (0, rf X a0), (1, .int a1)]) dX11_atCore_13 rfl (by decide) rfl rfl ?_
  refine g_aload_n (pc := 14) 2 dX11_atCore_14 rfl rfl ?_
  refine g_getR (pc := 15) fl_X11_300 dX11_atCore_15 g1 ?_
  refine g_iconst (pc := 18) (v := (0 : Int32)) dX11_atCore_18 (by decide) ?_
  obtain ⟨b6, hf⟩ := gb_some hf
  refine g_iald (pc := 19) g2 b6 dX11_atCore_19 ?_
  rcases it_some hf with ⟨c7, hf⟩ | ⟨c7, hf⟩
  · refine g_tsw (pc := 20) (tgt := 121) (3 : Int32) dX11_atCore_20 c7 (by decide +kernel) (by decide +kernel) (off := 101) (by decide +kernel) (by decide) ?_
    refine g_aload_n (pc := 121) 2 dX11_atCore_121 rfl rfl ?_
    refine g_iload_n (pc := 122) 3 dX11_atCore_122 rfl rfl ?_
    refine g_iload_n (pc := 123) 1 dX11_atCore_123 rfl rfl ?_
    obtain ⟨q8, hcq8, hf⟩ := bd_some hf
    refine g_cVV (pc := 124) (k2 := k_X11_answer) (av := [.int a1, .int x4]) (q := q8) rfl dX11_atCore_124 ck_X11_answer m_1963 m_1965 m_117 (ci := 9) rfl (by decide) g1 (by decide) (by decide) rfl (by simp [rf_cat, rq_cat, ca_i, ca_l, ca_r]) (ct_X11_answer l X hcq8) ?_
    refine g_iload_n (pc := 127) 0 dX11_atCore_127 rfl rfl ?_
    refine g_iconst (pc := 128) (v := (-1 : Int32)) dX11_atCore_128 (by decide) ?_
    rcases it_some hf with ⟨c9, hf⟩ | ⟨c9, hf⟩
    · refine g_iceq_t (pc := 129) (tgt := 177) dX11_atCore_129 (by decide) c9 ?_
      obtain rfl := Option.some.inj hf
      exact g_vret (pc := 177) rfl dX11_atCore_177
    · refine g_iceq_f (pc := 129) (tgt := 177) dX11_atCore_129 (by decide) c9 ?_
      refine g_aload_n (pc := 132) 2 dX11_atCore_132 rfl rfl ?_
      obtain ⟨g10, hf⟩ := gs_some hf
      refine g_getR (pc := 133) fl_X11_108 dX11_atCore_133 g10 ?_
      refine g_iload_n (pc := 136) 0 dX11_atCore_136 rfl rfl ?_
      refine g_iconst (pc := 137) (v := (0 : Int32)) dX11_atCore_137 (by decide) ?_
      obtain ⟨g11, hf⟩ := gs_some hf
      obtain ⟨b12, hf⟩ := gb_some hf
      obtain ⟨h13, eh13, hf⟩ := lt_some hf
      refine g_iast (pc := 138) g11 b12 dX11_atCore_138 eh13 ?_
      refine g_goto (pc := 139) (tgt := 177) dX11_atCore_139 (by decide) ?_
      obtain rfl := Option.some.inj hf
      exact g_vret (pc := 177) rfl dX11_atCore_177
  ·
    rcases it_some hf with ⟨c14, hf⟩ | ⟨c14, hf⟩
    · refine g_tsw (pc := 20) (tgt := 142) (4 : Int32) dX11_atCore_20 c14 (by decide +kernel) (by decide +kernel) (off := 122) (by decide +kernel) (by decide) ?_
      refine g_aload_n (pc := 142) 2 dX11_atCore_142 rfl rfl ?_
      refine g_iload_n (pc := 143) 3 dX11_atCore_143 rfl rfl ?_
      refine g_iload_n (pc := 144) 1 dX11_atCore_144 rfl rfl ?_
      obtain ⟨q15, hcq15, hf⟩ := bd_some hf
      refine g_cVV (pc := 145) (k2 := k_X11_answer) (av := [.int a1, .int x4]) (q := q15) rfl dX11_atCore_145 ck_X11_answer m_1963 m_1965 m_117 (ci := 9) rfl (by decide) g1 (by decide) (by decide) rfl (by simp [rf_cat, rq_cat, ca_i, ca_l, ca_r]) (ct_X11_answer l X hcq15) ?_
      refine g_iload_n (pc := 148) 0 dX11_atCore_148 rfl rfl ?_
      refine g_iconst (pc := 149) (v := (-1 : Int32)) dX11_atCore_149 (by decide) ?_
      rcases it_some hf with ⟨c16, hf⟩ | ⟨c16, hf⟩
      · refine g_iceq_t (pc := 150) (tgt := 177) dX11_atCore_150 (by decide) c16 ?_
        obtain rfl := Option.some.inj hf
        exact g_vret (pc := 177) rfl dX11_atCore_177
      · refine g_iceq_f (pc := 150) (tgt := 177) dX11_atCore_150 (by decide) c16 ?_
        refine g_aload_n (pc := 153) 2 dX11_atCore_153 rfl rfl ?_
        obtain ⟨g17, hf⟩ := gs_some hf
        refine g_getR (pc := 154) fl_X11_108 dX11_atCore_154 g17 ?_
        refine g_iload_n (pc := 157) 0 dX11_atCore_157 rfl rfl ?_
        refine g_iconst (pc := 158) (v := (1 : Int32)) dX11_atCore_158 (by decide) ?_
        obtain ⟨g18, hf⟩ := gs_some hf
        obtain ⟨b19, hf⟩ := gb_some hf
        obtain ⟨h20, eh20, hf⟩ := lt_some hf
        refine g_iast (pc := 159) g18 b19 dX11_atCore_159 eh20 ?_
        refine g_goto (pc := 160) (tgt := 177) dX11_atCore_160 (by decide) ?_
        obtain rfl := Option.some.inj hf
        exact g_vret (pc := 177) rfl dX11_atCore_177
    ·
      rcases it_some hf with ⟨c21, hf⟩ | ⟨c21, hf⟩
      · refine g_tsw (pc := 20) (tgt := 60) (6 : Int32) dX11_atCore_20 c21 (by decide +kernel) (by decide +kernel) (off := 40) (by decide +kernel) (by decide) ?_
        refine g_iload_n (pc := 60) 0 dX11_atCore_60 rfl rfl ?_
        refine g_iconst (pc := 61) (v := (-1 : Int32)) dX11_atCore_61 (by decide) ?_
        rcases it_some hf with ⟨c22, hf⟩ | ⟨c22, hf⟩
        · refine g_icne_t (pc := 62) (tgt := 72) dX11_atCore_62 (by decide) c22 ?_
          refine g_sub [2, 3, 1, 0] rfl ?_
          exact ok_X11_atCore_L72 l X h a0 a1 x4 v5 q hf
        · refine g_icne_f (pc := 62) (tgt := 72) dX11_atCore_62 (by decide) (Decidable.of_not_not c22) ?_
          refine g_aload_n (pc := 65) 2 dX11_atCore_65 rfl rfl ?_
          refine g_iload_n (pc := 66) 3 dX11_atCore_66 rfl rfl ?_
          refine g_iload_n (pc := 67) 1 dX11_atCore_67 rfl rfl ?_
          obtain ⟨v23, hcv23, hf⟩ := bd_some hf
          refine g_cVI (pc := 68) (k2 := k_X11_freeWay) (av := [.int a1, .int x4]) (q := (v23, h)) rfl dX11_atCore_68 ck_X11_freeWay m_1819 m_1821 m_84 (ci := 9) rfl (by decide) g1 (by decide) (by decide) rfl (by simp [rf_cat, rq_cat, ca_i, ca_l, ca_r]) (ct_X11_freeWay l X hcv23) ?_
          refine g_istore_n (pc := 71) (L' := [(3, .int v23), (2, .int x4), (0, rf X a0), (1, .int a1)]) dX11_atCore_71 rfl (by decide) rfl rfl ?_
          refine g_sub [2, 3, 1, 0] rfl ?_
          exact ok_X11_atCore_L72 l X h a0 a1 x4 v23 q hf
      ·
        rcases it_some hf with ⟨c24, hf⟩ | ⟨c24, hf⟩
        · refine g_tsw (pc := 20) (tgt := 60) (7 : Int32) dX11_atCore_20 c24 (by decide +kernel) (by decide +kernel) (off := 40) (by decide +kernel) (by decide) ?_
          refine g_iload_n (pc := 60) 0 dX11_atCore_60 rfl rfl ?_
          refine g_iconst (pc := 61) (v := (-1 : Int32)) dX11_atCore_61 (by decide) ?_
          rcases it_some hf with ⟨c25, hf⟩ | ⟨c25, hf⟩
          · refine g_icne_t (pc := 62) (tgt := 72) dX11_atCore_62 (by decide) c25 ?_
            refine g_sub [2, 3, 1, 0] rfl ?_
            exact ok_X11_atCore_L72 l X h a0 a1 x4 v5 q hf
          · refine g_icne_f (pc := 62) (tgt := 72) dX11_atCore_62 (by decide) (Decidable.of_not_not c25) ?_
            refine g_aload_n (pc := 65) 2 dX11_atCore_65 rfl rfl ?_
            refine g_iload_n (pc := 66) 3 dX11_atCore_66 rfl rfl ?_
            refine g_iload_n (pc := 67) 1 dX11_atCore_67 rfl rfl ?_
            obtain ⟨v26, hcv26, hf⟩ := bd_some hf
            refine g_cVI (pc := 68) (k2 := k_X11_freeWay) (av := [.int a1, .int x4]) (q := (v26, h)) rfl dX11_atCore_68 ck_X11_freeWay m_1819 m_1821 m_84 (ci := 9) rfl (by decide) g1 (by decide) (by decide) rfl (by simp [rf_cat, rq_cat, ca_i, ca_l, ca_r]) (ct_X11_freeWay l X hcv26) ?_
            refine g_istore_n (pc := 71) (L' := [(3, .int v26), (2, .int x4), (0, rf X a0), (1, .int a1)]) dX11_atCore_71 rfl (by decide) rfl rfl ?_
            refine g_sub [2, 3, 1, 0] rfl ?_
            exact ok_X11_atCore_L72 l X h a0 a1 x4 v26 q hf
        ·
          rcases it_some hf with ⟨c27, hf⟩ | ⟨c27, hf⟩
          · refine g_tsw (pc := 20) (tgt := 60) (8 : Int32) dX11_atCore_20 c27 (by decide +kernel) (by decide +kernel) (off := 40) (by decide +kernel) (by decide) ?_
            refine g_iload_n (pc := 60) 0 dX11_atCore_60 rfl rfl ?_
            refine g_iconst (pc := 61) (v := (-1 : Int32)) dX11_atCore_61 (by decide) ?_
            rcases it_some hf with ⟨c28, hf⟩ | ⟨c28, hf⟩
            · refine g_icne_t (pc := 62) (tgt := 72) dX11_atCore_62 (by decide) c28 ?_
              refine g_sub [2, 3, 1, 0] rfl ?_
              exact ok_X11_atCore_L72 l X h a0 a1 x4 v5 q hf
            · refine g_icne_f (pc := 62) (tgt := 72) dX11_atCore_62 (by decide) (Decidable.of_not_not c28) ?_
              refine g_aload_n (pc := 65) 2 dX11_atCore_65 rfl rfl ?_
              refine g_iload_n (pc := 66) 3 dX11_atCore_66 rfl rfl ?_
              refine g_iload_n (pc := 67) 1 dX11_atCore_67 rfl rfl ?_
              obtain ⟨v29, hcv29, hf⟩ := bd_some hf
              refine g_cVI (pc := 68) (k2 := k_X11_freeWay) (av := [.int a1, .int x4]) (q := (v29, h)) rfl dX11_atCore_68 ck_X11_freeWay m_1819 m_1821 m_84 (ci := 9) rfl (by decide) g1 (by decide) (by decide) rfl (by simp [rf_cat, rq_cat, ca_i, ca_l, ca_r]) (ct_X11_freeWay l X hcv29) ?_
              refine g_istore_n (pc := 71) (L' := [(3, .int v29), (2, .int x4), (0, rf X a0), (1, .int a1)]) dX11_atCore_71 rfl (by decide) rfl rfl ?_
              refine g_sub [2, 3, 1, 0] rfl ?_
              exact ok_X11_atCore_L72 l X h a0 a1 x4 v29 q hf
          ·
            refine g_tswD (pc := 20) (tgt := 163) [(3 : Int32), (4 : Int32), (6 : Int32), (7 : Int32), (8 : Int32)] dX11_atCore_20 (cons_ne c7 (cons_ne c14 (cons_ne c21 (cons_ne c24 (cons_ne c27 nil_ne))))) (by decide +kernel) (by decide +kernel) (by decide) ?_
            refine g_aload_n (pc := 163) 2 dX11_atCore_163 rfl rfl ?_
            refine g_getR (pc := 164) fl_X11_89 dX11_atCore_164 g1 ?_
            refine g_iload_n (pc := 167) 3 dX11_atCore_167 rfl rfl ?_
            refine g_iconst (pc := 168) (v := (-1 : Int32)) dX11_atCore_168 (by decide) ?_
            obtain ⟨g30, hf⟩ := gs_some hf
            obtain ⟨b31, hf⟩ := gb_some hf
            obtain ⟨h32, eh32, hf⟩ := lt_some hf
            refine g_iast (pc := 169) g30 b31 dX11_atCore_169 eh32 ?_
            refine g_sub [2, 3] rfl ?_
            exact ok_X11_atCore_L170 l X h32 a0 a1 q hf
theorem ct_X11_atCore (l : Launch) (X : Cx) {h : AH} {a0 : Nat} {a1 : Int32} {q : AH} (hf : f_X11_atCore h a0 a1 = some q) : Ct l X k_X11_atCore [rf X a0, .int a1] h (rV q) := ct_of ck_X11_atCore (by simp [lg_sl, rf_cat, rq_cat, ca_i, ca_l, ca_r]) (by simp [lv_args, rf_cat, rq_cat, ca_i, ca_l, ca_r]) (ok_X11_atCore l X hf)
set_option maxRecDepth 100000 in
set_option maxHeartbeats 4000000 in
theorem ok_X11_bring_L46 (l : Launch) (X : Cx) : ∀ (n : Nat) (h : AH) (a0 : Nat) (a2 : Int32) (q : AH), f_X11_bring_L46 n h a0 a2 = some q → Go l X k_X11_bring 46 [(0, rf X a0), (2, .int a2)] [] h (rV q) := by
  intro n
  induction n with
  | zero =>
    intro h a0 a2 q hf
    unfold f_X11_bring_L46 at hf
    cases hf
  | succ n ih =>
    intro h a0 a2 q hf
    unfold f_X11_bring_L46 at hf
    refine g_iload_n (pc := 46) 1 dX11_bring_46 rfl rfl ?_
    refine g_bipush (pc := 47) (v := (9 : Int32)) dX11_bring_47 (by decide) ?_
    refine g_aload_n (pc := 49) 0 dX11_bring_49 rfl rfl ?_
    obtain ⟨g1, hf⟩ := gs_some hf
    refine g_getI (pc := 50) fl_X11_316 dX11_bring_50 g1 ?_
    refine g_imul (pc := 53) dX11_bring_53 ?_
    rcases it_some hf with ⟨c2, hf⟩ | ⟨c2, hf⟩
    · refine g_icge_t (pc := 54) (tgt := 78) dX11_bring_54 (by decide) c2 ?_
      refine g_aload_n (pc := 78) 0 dX11_bring_78 rfl rfl ?_
      refine g_dup (pc := 79) dX11_bring_79 (rf_cat X _) ?_
      refine g_getI (pc := 80) fl_X11_322 dX11_bring_80 g1 ?_
      refine g_iconst (pc := 83) (v := (1 : Int32)) dX11_bring_83 (by decide) ?_
      refine g_iadd (pc := 84) dX11_bring_84 ?_
      obtain ⟨h3, eh3, hf⟩ := lt_some hf
      refine g_putI (pc := 85) fl_X11_322 dX11_bring_85 g1 eh3 ?_
      refine g_aload_n (pc := 88) 0 dX11_bring_88 rfl rfl ?_
      have g4 : hS h3 a0 = 10 := (hS_tI eh3 g1)
      refine g_getR (pc := 89) fl_X11_300 dX11_bring_89 g4 ?_
      refine g_iconst (pc := 92) (v := (2 : Int32)) dX11_bring_92 (by decide) ?_
      obtain ⟨g5, hf⟩ := gs_some hf
      obtain ⟨b6, hf⟩ := gb_some hf
      refine g_iald (pc := 93) g5 b6 dX11_bring_93 ?_
      refine g_bipush (pc := 94) (v := (16 : Int32)) dX11_bring_94 (by decide) ?_
      rcases it_some hf with ⟨c7, hf⟩ | ⟨c7, hf⟩
      · refine g_icne_t (pc := 96) (tgt := 106) dX11_bring_96 (by decide) c7 ?_
        refine g_aload_n (pc := 106) 0 dX11_bring_106 rfl rfl ?_
        refine g_aload_n (pc := 107) 0 dX11_bring_107 rfl rfl ?_
        refine g_getR (pc := 108) fl_X11_300 dX11_bring_108 g4 ?_
        refine g_iconst (pc := 111) (v := (2 : Int32)) dX11_bring_111 (by decide) ?_
        obtain ⟨b8, hf⟩ := gb_some hf
        refine g_iald (pc := 112) g5 b8 dX11_bring_112 ?_
        obtain ⟨q9, hcq9, hf⟩ := bd_some hf
        refine g_cVV (pc := 113) (k2 := k_X11_atCore) (av := [.int (hI h3 (hR h3 a0 80) (2 : Int32).toNatClampNeg)]) (q := q9) rfl dX11_bring_113 ck_X11_atCore m_1959 m_1961 m_116 (ci := 9) rfl (by decide) g4 (by decide) (by decide) rfl (by simp [rf_cat, rq_cat, ca_i, ca_l, ca_r]) (ct_X11_atCore l X hcq9) ?_
        obtain rfl := Option.some.inj hf
        exact g_vret (pc := 116) rfl dX11_bring_116
      · refine g_icne_f (pc := 96) (tgt := 106) dX11_bring_96 (by decide) (Decidable.of_not_not c7) ?_
        refine g_aload_n (pc := 99) 0 dX11_bring_99 rfl rfl ?_
        obtain ⟨q10, hcq10, hf⟩ := bd_some hf
        refine g_cVV (pc := 100) (k2 := k_X11_atHome) (av := []) (q := q10) rfl dX11_bring_100 ck_X11_atHome m_1911 m_1913 m_104 (ci := 9) rfl (by decide) g4 (by decide) (by decide) rfl (by simp [rf_cat, rq_cat, ca_i, ca_l, ca_r]) (ct_X11_atHome l X hcq10) ?_
        refine g_goto (pc := 103) (tgt := 116) dX11_bring_103 (by decide) ?_
        obtain rfl := Option.some.inj hf
        exact g_vret (pc := 116) rfl dX11_bring_116
    · refine g_icge_f (pc := 54) (tgt := 78) dX11_bring_54 (by decide) c2 ?_
      refine g_aload_n (pc := 57) 0 dX11_bring_57 rfl rfl ?_
      refine g_getR (pc := 58) fl_X11_145 dX11_bring_58 g1 ?_
      refine g_iload_n (pc := 61) 1 dX11_bring_61 rfl rfl ?_
      refine g_aload_n (pc := 62) 0 dX11_bring_62 rfl rfl ?_
      refine g_getR (pc := 63) fl_X11_145 dX11_bring_63 g1 ?_
      refine g_iload_n (pc := 66) 1 dX11_bring_66 rfl rfl ?_
      refine g_bipush (pc := 67) (v := (9 : Int32)) dX11_bring_67 (by decide) ?_
      refine g_iadd (pc := 69) dX11_bring_69 ?_
      obtain ⟨g11, hf⟩ := gs_some hf
      obtain ⟨b12, hf⟩ := gb_some hf
      refine g_iald (pc := 70) g11 b12 dX11_bring_70 ?_
      obtain ⟨b13, hf⟩ := gb_some hf
      obtain ⟨h14, eh14, hf⟩ := lt_some hf
      refine g_iast (pc := 71) g11 b13 dX11_bring_71 eh14 ?_
      obtain ⟨x15, ex15, hf⟩ := lt_some hf
      refine g_iinc (pc := 72) (y := x15) (L' := [(2, .int x15), (0, rf X a0)]) 1 dX11_bring_72 rfl (by decide) (ex15.trans rfl) rfl ?_
      refine g_goto (pc := 75) (tgt := 46) dX11_bring_75 (by decide) ?_
      refine g_sub [1, 0] rfl ?_
      exact ih h14 a0 x15 q hf
set_option maxRecDepth 100000 in
set_option maxHeartbeats 4000000 in
theorem ok_X11_bring_L2 (l : Launch) (X : Cx) : ∀ (n : Nat) (h : AH) (a0 : Nat) (a1 : Int32) (a2 : Int32) (q : AH), f_X11_bring_L2 n h a0 a1 a2 = some q → Go l X k_X11_bring 2 [(0, rf X a0), (1, .int a1), (2, .int a2)] [] h (rV q) := by
  intro n
  induction n with
  | zero =>
    intro h a0 a1 a2 q hf
    unfold f_X11_bring_L2 at hf
    cases hf
  | succ n ih =>
    intro h a0 a1 a2 q hf
    unfold f_X11_bring_L2 at hf
    refine g_iload_n (pc := 2) 2 dX11_bring_2 rfl rfl ?_
    refine g_bipush (pc := 3) (v := (9 : Int32)) dX11_bring_3 (by decide) ?_
    rcases it_some hf with ⟨c1, hf⟩ | ⟨c1, hf⟩
    · refine g_icge_t (pc := 5) (tgt := 31) dX11_bring_5 (by decide) c1 ?_
      refine g_aload_n (pc := 31) 0 dX11_bring_31 rfl rfl ?_
      refine g_dup (pc := 32) dX11_bring_32 (rf_cat X _) ?_
      obtain ⟨g2, hf⟩ := gs_some hf
      refine g_getI (pc := 33) fl_X11_316 dX11_bring_33 g2 ?_
      refine g_iconst (pc := 36) (v := (1 : Int32)) dX11_bring_36 (by decide) ?_
      refine g_isub (pc := 37) dX11_bring_37 ?_
      obtain ⟨h3, eh3, hf⟩ := lt_some hf
      refine g_putI (pc := 38) fl_X11_316 dX11_bring_38 g2 eh3 ?_
      refine g_bipush (pc := 41) (v := (9 : Int32)) dX11_bring_41 (by decide) ?_
      refine g_iload_n (pc := 43) 1 dX11_bring_43 rfl rfl ?_
      refine g_imul (pc := 44) dX11_bring_44 ?_
      obtain ⟨x4, ex4, hf⟩ := lt_some hf
      refine g_istore_n (pc := 45) (L' := [(2, .int x4), (0, rf X a0), (1, .int a1)]) dX11_bring_45 rfl (by decide) ex4 rfl ?_
      refine g_sub [1, 0] rfl ?_
      exact ok_X11_bring_L46 l X FU h3 a0 x4 q hf
    · refine g_icge_f (pc := 5) (tgt := 31) dX11_bring_5 (by decide) c1 ?_
      refine g_aload_n (pc := 8) 0 dX11_bring_8 rfl rfl ?_
      obtain ⟨g5, hf⟩ := gs_some hf
      refine g_getR (pc := 9) fl_X11_300 dX11_bring_9 g5 ?_
      refine g_iload_n (pc := 12) 2 dX11_bring_12 rfl rfl ?_
      refine g_aload_n (pc := 13) 0 dX11_bring_13 rfl rfl ?_
      refine g_getR (pc := 14) fl_X11_145 dX11_bring_14 g5 ?_
      refine g_bipush (pc := 17) (v := (9 : Int32)) dX11_bring_17 (by decide) ?_
      refine g_iload_n (pc := 19) 1 dX11_bring_19 rfl rfl ?_
      refine g_imul (pc := 20) dX11_bring_20 ?_
      refine g_iload_n (pc := 21) 2 dX11_bring_21 rfl rfl ?_
      refine g_iadd (pc := 22) dX11_bring_22 ?_
      obtain ⟨g6, hf⟩ := gs_some hf
      obtain ⟨b7, hf⟩ := gb_some hf
      refine g_iald (pc := 23) g6 b7 dX11_bring_23 ?_
      obtain ⟨g8, hf⟩ := gs_some hf
      obtain ⟨b9, hf⟩ := gb_some hf
      obtain ⟨h10, eh10, hf⟩ := lt_some hf
      refine g_iast (pc := 24) g8 b9 dX11_bring_24 eh10 ?_
      obtain ⟨x11, ex11, hf⟩ := lt_some hf
      refine g_iinc (pc := 25) (y := x11) (L' := [(2, .int x11), (0, rf X a0), (1, .int a1)]) 2 dX11_bring_25 rfl (by decide) (ex11.trans rfl) rfl ?_
      refine g_goto (pc := 28) (tgt := 2) dX11_bring_28 (by decide) ?_
      refine g_sub [1, 2, 0] rfl ?_
      exact ih h10 a0 a1 x11 q hf
set_option maxRecDepth 100000 in
set_option maxHeartbeats 4000000 in
theorem ok_X11_bring (l : Launch) (X : Cx) {h : AH} {a0 : Nat} {a1 : Int32} {q : AH} (hf : f_X11_bring h a0 a1 = some q) : Go l X k_X11_bring 0 [(0, rf X a0), (1, .int a1)] [] h (rV q) := by
  unfold f_X11_bring at hf
  refine g_iconst (pc := 0) (v := (0 : Int32)) dX11_bring_0 (by decide) ?_
  obtain ⟨x1, ex1, hf⟩ := lt_some hf
  refine g_istore_n (pc := 1) (L' := [(2, .int x1), (0, rf X a0), (1, .int a1)]) dX11_bring_1 rfl (by decide) ex1 rfl ?_
  refine g_sub [1, 2, 0] rfl ?_
  exact ok_X11_bring_L2 l X FU h a0 a1 x1 q hf
theorem ct_X11_bring (l : Launch) (X : Cx) {h : AH} {a0 : Nat} {a1 : Int32} {q : AH} (hf : f_X11_bring h a0 a1 = some q) : Ct l X k_X11_bring [rf X a0, .int a1] h (rV q) := ct_of ck_X11_bring (by simp [lg_sl, rf_cat, rq_cat, ca_i, ca_l, ca_r]) (by simp [lv_args, rf_cat, rq_cat, ca_i, ca_l, ca_r]) (ok_X11_bring l X hf)
set_option maxRecDepth 100000 in
set_option maxHeartbeats 4000000 in
theorem ok_X11_channelOf_L25 (l : Launch) (X : Cx) (h : AH)  (q : Int32) (hf : f_X11_channelOf_L25 h  = some q) : Go l X k_X11_channelOf 25 [] [] h (rI (q, h)) := by
  unfold f_X11_channelOf_L25 at hf
  refine g_iconst (pc := 25) (v := (1 : Int32)) dX11_channelOf_25 (by decide) ?_
  refine g_goto (pc := 26) (tgt := 30) dX11_channelOf_26 (by decide) ?_
  obtain rfl := Option.some.inj hf
  exact g_iret (pc := 30) rfl dX11_channelOf_30
set_option maxRecDepth 100000 in
set_option maxHeartbeats 4000000 in
theorem ok_X11_channelOf (l : Launch) (X : Cx) {h : AH} {a0 : Int32} {q : Int32} (hf : f_X11_channelOf h a0 = some q) : Go l X k_X11_channelOf 0 [(0, .int a0)] [] h (rI (q, h)) := by
  unfold f_X11_channelOf at hf
  refine g_iload_n (pc := 0) 0 dX11_channelOf_0 rfl rfl ?_
  refine g_iconst (pc := 1) (v := (2 : Int32)) dX11_channelOf_1 (by decide) ?_
  rcases it_some hf with ⟨c1, hf⟩ | ⟨c1, hf⟩
  · refine g_icgt_t (pc := 2) (tgt := 9) dX11_channelOf_2 (by decide) c1 ?_
    refine g_iload_n (pc := 9) 0 dX11_channelOf_9 rfl rfl ?_
    refine g_iconst (pc := 10) (v := (3 : Int32)) dX11_channelOf_10 (by decide) ?_
    rcases it_some hf with ⟨c2, hf⟩ | ⟨c2, hf⟩
    · refine g_iceq_t (pc := 11) (tgt := 25) dX11_channelOf_11 (by decide) c2 ?_
      refine g_sub [] rfl ?_
      exact ok_X11_channelOf_L25 l X h  q hf
    · refine g_iceq_f (pc := 11) (tgt := 25) dX11_channelOf_11 (by decide) c2 ?_
      refine g_iload_n (pc := 14) 0 dX11_channelOf_14 rfl rfl ?_
      refine g_iconst (pc := 15) (v := (4 : Int32)) dX11_channelOf_15 (by decide) ?_
      rcases it_some hf with ⟨c3, hf⟩ | ⟨c3, hf⟩
      · refine g_iceq_t (pc := 16) (tgt := 25) dX11_channelOf_16 (by decide) c3 ?_
        refine g_sub [] rfl ?_
        exact ok_X11_channelOf_L25 l X h  q hf
      · refine g_iceq_f (pc := 16) (tgt := 25) dX11_channelOf_16 (by decide) c3 ?_
        refine g_iload_n (pc := 19) 0 dX11_channelOf_19 rfl rfl ?_
        refine g_bipush (pc := 20) (v := (9 : Int32)) dX11_channelOf_20 (by decide) ?_
        rcases it_some hf with ⟨c4, hf⟩ | ⟨c4, hf⟩
        · refine g_icne_t (pc := 22) (tgt := 29) dX11_channelOf_22 (by decide) c4 ?_
          refine g_iconst (pc := 29) (v := (2 : Int32)) dX11_channelOf_29 (by decide) ?_
          obtain rfl := Option.some.inj hf
          exact g_iret (pc := 30) rfl dX11_channelOf_30
        · refine g_icne_f (pc := 22) (tgt := 29) dX11_channelOf_22 (by decide) (Decidable.of_not_not c4) ?_
          refine g_sub [] rfl ?_
          exact ok_X11_channelOf_L25 l X h  q hf
  · refine g_icgt_f (pc := 2) (tgt := 9) dX11_channelOf_2 (by decide) c1 ?_
    refine g_iconst (pc := 5) (v := (0 : Int32)) dX11_channelOf_5 (by decide) ?_
    refine g_goto (pc := 6) (tgt := 30) dX11_channelOf_6 (by decide) ?_
    obtain rfl := Option.some.inj hf
    exact g_iret (pc := 30) rfl dX11_channelOf_30
theorem ct_X11_channelOf (l : Launch) (X : Cx) {h : AH} {a0 : Int32} {q : Int32} (hf : f_X11_channelOf h a0 = some q) : Ct l X k_X11_channelOf [.int a0] h (rI (q, h)) := ct_of ck_X11_channelOf (by simp [lg_sl, rf_cat, rq_cat, ca_i, ca_l, ca_r]) (by simp [lv_args, rf_cat, rq_cat, ca_i, ca_l, ca_r]) (ok_X11_channelOf l X hf)
set_option maxRecDepth 100000 in
set_option maxHeartbeats 4000000 in
theorem ok_X11_isCore (l : Launch) (X : Cx) {h : AH} {a0 : Nat} {a1 : Int32} {q : Int32} (hf : f_X11_isCore h a0 a1 = some q) : Go l X k_X11_isCore 0 [(0, rf X a0), (1, .int a1)] [] h (rI (q, h)) := by
  unfold f_X11_isCore at hf
  refine g_iload_n (pc := 0) 1 dX11_isCore_0 rfl rfl ?_
  rcases it_some hf with ⟨c1, hf⟩ | ⟨c1, hf⟩
  · refine g_iflt_t (pc := 1) (tgt := 18) dX11_isCore_1 (by decide) c1 ?_
    refine g_iconst (pc := 18) (v := (0 : Int32)) dX11_isCore_18 (by decide) ?_
    obtain rfl := Option.some.inj hf
    exact g_zret (pc := 19) rfl rfl dX11_isCore_19
  · refine g_iflt_f (pc := 1) (tgt := 18) dX11_isCore_1 (by decide) c1 ?_
    refine g_iload_n (pc := 4) 1 dX11_isCore_4 rfl rfl ?_
    refine g_aload_n (pc := 5) 0 dX11_isCore_5 rfl rfl ?_
    obtain ⟨g2, hf⟩ := gs_some hf
    refine g_getR (pc := 6) fl_X11_47 dX11_isCore_6 g2 ?_
    refine g_iconst (pc := 9) (v := (0 : Int32)) dX11_isCore_9 (by decide) ?_
    obtain ⟨g3, hf⟩ := gs_some hf
    obtain ⟨b4, hf⟩ := gb_some hf
    refine g_iald (pc := 10) g3 b4 dX11_isCore_10 ?_
    rcases it_some hf with ⟨c5, hf⟩ | ⟨c5, hf⟩
    · refine g_icge_t (pc := 11) (tgt := 18) dX11_isCore_11 (by decide) c5 ?_
      refine g_iconst (pc := 18) (v := (0 : Int32)) dX11_isCore_18 (by decide) ?_
      obtain rfl := Option.some.inj hf
      exact g_zret (pc := 19) rfl rfl dX11_isCore_19
    · refine g_icge_f (pc := 11) (tgt := 18) dX11_isCore_11 (by decide) c5 ?_
      refine g_iconst (pc := 14) (v := (1 : Int32)) dX11_isCore_14 (by decide) ?_
      refine g_goto (pc := 15) (tgt := 19) dX11_isCore_15 (by decide) ?_
      obtain rfl := Option.some.inj hf
      exact g_zret (pc := 19) rfl rfl dX11_isCore_19
theorem ct_X11_isCore (l : Launch) (X : Cx) {h : AH} {a0 : Nat} {a1 : Int32} {q : Int32} (hf : f_X11_isCore h a0 a1 = some q) : Ct l X k_X11_isCore [rf X a0, .int a1] h (rI (q, h)) := ct_of ck_X11_isCore (by simp [lg_sl, rf_cat, rq_cat, ca_i, ca_l, ca_r]) (by simp [lv_args, rf_cat, rq_cat, ca_i, ca_l, ca_r]) (ok_X11_isCore l X hf)
set_option maxRecDepth 100000 in
set_option maxHeartbeats 4000000 in
theorem ok_X11_step_L14 (l : Launch) (X : Cx) (h : AH) (a0 : Nat) (a1 : Int32) (s0 : Nat) (s1 : Int32) (q : Int32 × AH) (hf : f_X11_step_L14 h a0 a1 s0 s1 = some q) : Go l X k_X11_step 14 [(0, rf X a0), (1, .int a1)] [.int s1, rf X s0] h (rI q) := by
  unfold f_X11_step_L14 at hf
  obtain ⟨g1, hf⟩ := gs_some hf
  obtain ⟨h2, eh2, hf⟩ := lt_some hf
  refine g_putI (pc := 14) fl_X11_306 dX11_step_14 g1 eh2 ?_
  refine g_aload_n (pc := 17) 0 dX11_step_17 rfl rfl ?_
  obtain ⟨g3, hf⟩ := gs_some hf
  refine g_getI (pc := 18) fl_X11_306 dX11_step_18 g3 ?_
  rcases it_some hf with ⟨c4, hf⟩ | ⟨c4, hf⟩
  · refine g_ifeq_t (pc := 21) (tgt := 28) dX11_step_21 (by decide) c4 ?_
    refine g_aload_n (pc := 28) 0 dX11_step_28 rfl rfl ?_
    refine g_iload_n (pc := 29) 1 dX11_step_29 rfl rfl ?_
    obtain ⟨q5, hcq5, hf⟩ := bd_some hf
    refine g_cVI (pc := 30) (k2 := k_X11_stepOf) (av := [.int a1]) (q := q5) rfl dX11_step_30 ck_X11_stepOf m_1796 m_1798 m_79 (ci := 9) rfl (by decide) g3 (by decide) (by decide) rfl (by simp [rf_cat, rq_cat, ca_i, ca_l, ca_r]) (ct_X11_stepOf l X hcq5) ?_
    obtain rfl := Option.some.inj hf
    exact g_iret (pc := 33) rfl dX11_step_33
  · refine g_ifeq_f (pc := 21) (tgt := 28) dX11_step_21 (by decide) c4 ?_
    refine g_iconst (pc := 24) (v := (0 : Int32)) dX11_step_24 (by decide) ?_
    refine g_goto (pc := 25) (tgt := 33) dX11_step_25 (by decide) ?_
    obtain rfl := Option.some.inj hf
    exact g_iret (pc := 33) rfl dX11_step_33
set_option maxRecDepth 100000 in
set_option maxHeartbeats 4000000 in
theorem ok_X11_step (l : Launch) (X : Cx) {h : AH} {a0 : Nat} {a1 : Int32} {q : Int32 × AH} (hf : f_X11_step h a0 a1 = some q) : Go l X k_X11_step 0 [(0, rf X a0), (1, .int a1)] [] h (rI q) := by
  unfold f_X11_step at hf
  refine g_aload_n (pc := 0) 0 dX11_step_0 rfl rfl ?_
  refine g_aload_n (pc := 1) 0 dX11_step_1 rfl rfl ?_
  refine g_iload_n (pc := 2) 1 dX11_step_2 rfl rfl ?_
  obtain ⟨g1, hf⟩ := gs_some hf
  obtain ⟨v2, hcv2, hf⟩ := bd_some hf
  refine g_cVI (pc := 3) (k2 := k_X11_isCore) (av := [.int a1]) (q := (v2, h)) rfl dX11_step_3 ck_X11_isCore m_1792 m_1794 m_78 (ci := 9) rfl (by decide) g1 (by decide) (by decide) rfl (by simp [rf_cat, rq_cat, ca_i, ca_l, ca_r]) (ct_X11_isCore l X hcv2) ?_
  rcases it_some hf with ⟨c3, hf⟩ | ⟨c3, hf⟩
  · refine g_ifeq_t (pc := 6) (tgt := 13) dX11_step_6 (by decide) c3 ?_
    refine g_iconst (pc := 13) (v := (1 : Int32)) dX11_step_13 (by decide) ?_
    exact ok_X11_step_L14 l X h a0 a1 a0 (1 : Int32) q hf
  · refine g_ifeq_f (pc := 6) (tgt := 13) dX11_step_6 (by decide) c3 ?_
    refine g_iconst (pc := 9) (v := (0 : Int32)) dX11_step_9 (by decide) ?_
    refine g_goto (pc := 10) (tgt := 14) dX11_step_10 (by decide) ?_
    exact ok_X11_step_L14 l X h a0 a1 a0 (0 : Int32) q hf
theorem ct_X11_step (l : Launch) (X : Cx) {h : AH} {a0 : Nat} {a1 : Int32} {q : Int32 × AH} (hf : f_X11_step h a0 a1 = some q) : Ct l X k_X11_step [rf X a0, .int a1] h (rI q) := ct_of ck_X11_step (by simp [lg_sl, rf_cat, rq_cat, ca_i, ca_l, ca_r]) (by simp [lv_args, rf_cat, rq_cat, ca_i, ca_l, ca_r]) (ok_X11_step l X hf)
set_option maxRecDepth 100000 in
set_option maxHeartbeats 4000000 in
theorem ok_X11_drain_L14 (l : Launch) (X : Cx) (h : AH) (a0 : Nat) (a1 : Int32) (s0 : Nat) (s1 : Int32) (q : Int32 × AH) (hf : f_X11_drain_L14 h a0 a1 s0 s1 = some q) : Go l X k_X11_drain 14 [(0, rf X a0), (1, .int a1)] [.int s1, rf X s0] h (rI q) := by
  unfold f_X11_drain_L14 at hf
  obtain ⟨g1, hf⟩ := gs_some hf
  obtain ⟨h2, eh2, hf⟩ := lt_some hf
  refine g_putI (pc := 14) fl_X11_306 dX11_drain_14 g1 eh2 ?_
  refine g_aload_n (pc := 17) 0 dX11_drain_17 rfl rfl ?_
  obtain ⟨g3, hf⟩ := gs_some hf
  refine g_getI (pc := 18) fl_X11_306 dX11_drain_18 g3 ?_
  rcases it_some hf with ⟨c4, hf⟩ | ⟨c4, hf⟩
  · refine g_ifeq_t (pc := 21) (tgt := 28) dX11_drain_21 (by decide) c4 ?_
    refine g_aload_n (pc := 28) 0 dX11_drain_28 rfl rfl ?_
    refine g_iload_n (pc := 29) 1 dX11_drain_29 rfl rfl ?_
    obtain ⟨q5, hcq5, hf⟩ := bd_some hf
    refine g_cVI (pc := 30) (k2 := k_X11_drainOf) (av := [.int a1]) (q := q5) rfl dX11_drain_30 ck_X11_drainOf m_1895 m_1897 m_101 (ci := 9) rfl (by decide) g3 (by decide) (by decide) rfl (by simp [rf_cat, rq_cat, ca_i, ca_l, ca_r]) (ct_X11_drainOf l X hcq5) ?_
    obtain rfl := Option.some.inj hf
    exact g_iret (pc := 33) rfl dX11_drain_33
  · refine g_ifeq_f (pc := 21) (tgt := 28) dX11_drain_21 (by decide) c4 ?_
    refine g_iconst (pc := 24) (v := (0 : Int32)) dX11_drain_24 (by decide) ?_
    refine g_goto (pc := 25) (tgt := 33) dX11_drain_25 (by decide) ?_
    obtain rfl := Option.some.inj hf
    exact g_iret (pc := 33) rfl dX11_drain_33
set_option maxRecDepth 100000 in
set_option maxHeartbeats 4000000 in
theorem ok_X11_drain (l : Launch) (X : Cx) {h : AH} {a0 : Nat} {a1 : Int32} {q : Int32 × AH} (hf : f_X11_drain h a0 a1 = some q) : Go l X k_X11_drain 0 [(0, rf X a0), (1, .int a1)] [] h (rI q) := by
  unfold f_X11_drain at hf
  refine g_aload_n (pc := 0) 0 dX11_drain_0 rfl rfl ?_
  refine g_aload_n (pc := 1) 0 dX11_drain_1 rfl rfl ?_
  refine g_iload_n (pc := 2) 1 dX11_drain_2 rfl rfl ?_
  obtain ⟨g1, hf⟩ := gs_some hf
  obtain ⟨v2, hcv2, hf⟩ := bd_some hf
  refine g_cVI (pc := 3) (k2 := k_X11_isCore) (av := [.int a1]) (q := (v2, h)) rfl dX11_drain_3 ck_X11_isCore m_1792 m_1794 m_78 (ci := 9) rfl (by decide) g1 (by decide) (by decide) rfl (by simp [rf_cat, rq_cat, ca_i, ca_l, ca_r]) (ct_X11_isCore l X hcv2) ?_
  rcases it_some hf with ⟨c3, hf⟩ | ⟨c3, hf⟩
  · refine g_ifeq_t (pc := 6) (tgt := 13) dX11_drain_6 (by decide) c3 ?_
    refine g_iconst (pc := 13) (v := (1 : Int32)) dX11_drain_13 (by decide) ?_
    exact ok_X11_drain_L14 l X h a0 a1 a0 (1 : Int32) q hf
  · refine g_ifeq_f (pc := 6) (tgt := 13) dX11_drain_6 (by decide) c3 ?_
    refine g_iconst (pc := 9) (v := (0 : Int32)) dX11_drain_9 (by decide) ?_
    refine g_goto (pc := 10) (tgt := 14) dX11_drain_10 (by decide) ?_
    exact ok_X11_drain_L14 l X h a0 a1 a0 (0 : Int32) q hf
theorem ct_X11_drain (l : Launch) (X : Cx) {h : AH} {a0 : Nat} {a1 : Int32} {q : Int32 × AH} (hf : f_X11_drain h a0 a1 = some q) : Ct l X k_X11_drain [rf X a0, .int a1] h (rI q) := ct_of ck_X11_drain (by simp [lg_sl, rf_cat, rq_cat, ca_i, ca_l, ca_r]) (by simp [lv_args, rf_cat, rq_cat, ca_i, ca_l, ca_r]) (ok_X11_drain l X hf)
set_option maxRecDepth 100000 in
set_option maxHeartbeats 4000000 in
theorem ok_X11_brings (l : Launch) (X : Cx) {h : AH} {a0 : Nat} {a1 : Int32} {q : Int32 × AH} (hf : f_X11_brings h a0 a1 = some q) : Go l X k_X11_brings 0 [(0, rf X a0), (1, .int a1)] [] h (rI q) := by
  unfold f_X11_brings at hf
  refine g_iload_n (pc := 0) 1 dX11_brings_0 rfl rfl ?_
  rcases it_some hf with ⟨c1, hf⟩ | ⟨c1, hf⟩
  · refine g_iflt_t (pc := 1) (tgt := 12) dX11_brings_1 (by decide) c1 ?_
    refine g_iconst (pc := 12) (v := (0 : Int32)) dX11_brings_12 (by decide) ?_
    obtain rfl := Option.some.inj hf
    exact g_zret (pc := 13) rfl rfl dX11_brings_13
  · refine g_iflt_f (pc := 1) (tgt := 12) dX11_brings_1 (by decide) c1 ?_
    refine g_iload_n (pc := 4) 1 dX11_brings_4 rfl rfl ?_
    refine g_aload_n (pc := 5) 0 dX11_brings_5 rfl rfl ?_
    obtain ⟨g2, hf⟩ := gs_some hf
    refine g_getI (pc := 6) fl_X11_316 dX11_brings_6 g2 ?_
    rcases it_some hf with ⟨c3, hf⟩ | ⟨c3, hf⟩
    · refine g_iclt_t (pc := 9) (tgt := 14) dX11_brings_9 (by decide) c3 ?_
      refine g_aload_n (pc := 14) 0 dX11_brings_14 rfl rfl ?_
      refine g_iload_n (pc := 15) 1 dX11_brings_15 rfl rfl ?_
      obtain ⟨q4, hcq4, hf⟩ := bd_some hf
      refine g_cVV (pc := 16) (k2 := k_X11_bring) (av := [.int a1]) (q := q4) rfl dX11_brings_16 ck_X11_bring m_1907 m_1909 m_103 (ci := 9) rfl (by decide) g2 (by decide) (by decide) rfl (by simp [rf_cat, rq_cat, ca_i, ca_l, ca_r]) (ct_X11_bring l X hcq4) ?_
      refine g_iconst (pc := 19) (v := (1 : Int32)) dX11_brings_19 (by decide) ?_
      obtain rfl := Option.some.inj hf
      exact g_zret (pc := 20) rfl rfl dX11_brings_20
    · refine g_iclt_f (pc := 9) (tgt := 14) dX11_brings_9 (by decide) c3 ?_
      refine g_iconst (pc := 12) (v := (0 : Int32)) dX11_brings_12 (by decide) ?_
      obtain rfl := Option.some.inj hf
      exact g_zret (pc := 13) rfl rfl dX11_brings_13
theorem ct_X11_brings (l : Launch) (X : Cx) {h : AH} {a0 : Nat} {a1 : Int32} {q : Int32 × AH} (hf : f_X11_brings h a0 a1 = some q) : Ct l X k_X11_brings [rf X a0, .int a1] h (rI q) := ct_of ck_X11_brings (by simp [lg_sl, rf_cat, rq_cat, ca_i, ca_l, ca_r]) (by simp [lv_args, rf_cat, rq_cat, ca_i, ca_l, ca_r]) (ok_X11_brings l X hf)
set_option maxRecDepth 100000 in
set_option maxHeartbeats 4000000 in
theorem ok_X11_deliver (l : Launch) (X : Cx) {h : AH} {a0 : Nat} {a1 : Int32} {q : Int32 × AH} (hf : f_X11_deliver h a0 a1 = some q) : Go l X k_X11_deliver 0 [(0, rf X a0), (1, .int a1)] [] h (rI q) := by
  unfold f_X11_deliver at hf
  refine g_aload_n (pc := 0) 0 dX11_deliver_0 rfl rfl ?_
  refine g_iconst (pc := 1) (v := (0 : Int32)) dX11_deliver_1 (by decide) ?_
  obtain ⟨g1, hf⟩ := gs_some hf
  obtain ⟨h2, eh2, hf⟩ := lt_some hf
  refine g_putI (pc := 2) fl_X11_306 dX11_deliver_2 g1 eh2 ?_
  refine g_aload_n (pc := 5) 0 dX11_deliver_5 rfl rfl ?_
  refine g_iload_n (pc := 6) 1 dX11_deliver_6 rfl rfl ?_
  have g3 : hS h2 a0 = 10 := (hS_tI eh2 g1)
  obtain ⟨q4, hcq4, hf⟩ := bd_some hf
  refine g_cVI (pc := 7) (k2 := k_X11_brings) (av := [.int a1]) (q := q4) rfl dX11_deliver_7 ck_X11_brings m_1903 m_1905 m_102 (ci := 9) rfl (by decide) g3 (by decide) (by decide) rfl (by simp [rf_cat, rq_cat, ca_i, ca_l, ca_r]) (ct_X11_brings l X hcq4) ?_
  obtain ⟨b5, hf⟩ := gb_some hf
  obtain rfl := Option.some.inj hf
  exact g_zret (pc := 10) rfl b5 dX11_deliver_10
theorem ct_X11_deliver (l : Launch) (X : Cx) {h : AH} {a0 : Nat} {a1 : Int32} {q : Int32 × AH} (hf : f_X11_deliver h a0 a1 = some q) : Ct l X k_X11_deliver [rf X a0, .int a1] h (rI q) := ct_of ck_X11_deliver (by simp [lg_sl, rf_cat, rq_cat, ca_i, ca_l, ca_r]) (by simp [lv_args, rf_cat, rq_cat, ca_i, ca_l, ca_r]) (ok_X11_deliver l X hf)
set_option maxRecDepth 100000 in
set_option maxHeartbeats 4000000 in
theorem ok_X11_bringsOn_L53 (l : Launch) (X : Cx) (k5 : AH → Nat → Int32 → Int32 → Int32 → Int32 → Option (Int32 × AH)) (hk5 : ∀ (h : AH) (a0 : Nat) (a1 : Int32) (a2 : Int32) (a3 : Int32) (a4 : Int32) (q : Int32 × AH), k5 h a0 a1 a2 a3 a4 = some q → Go l X k_X11_bringsOn 5 [(0, rf X a0), (1, .int a1), (2, .int a2), (3, .int a3), (4, .int a4)] [] h (rI q)) (h : AH) (a0 : Nat) (a1 : Int32) (a2 : Int32) (a3 : Int32) (a4 : Int32) (q : Int32 × AH) (hf : f_X11_bringsOn_L53 k5 h a0 a1 a2 a3 a4 = some q) : Go l X k_X11_bringsOn 53 [(0, rf X a0), (1, .int a1), (2, .int a2), (3, .int a3), (4, .int a4)] [] h (rI q) := by
  unfold f_X11_bringsOn_L53 at hf
  obtain ⟨x1, ex1, hf⟩ := lt_some hf
  refine g_iinc (pc := 53) (y := x1) (L' := [(4, .int x1), (0, rf X a0), (1, .int a1), (2, .int a2), (3, .int a3)]) 4 dX11_bringsOn_53 rfl (by decide) (ex1.trans rfl) rfl ?_
  refine g_goto (pc := 56) (tgt := 5) dX11_bringsOn_56 (by decide) ?_
  refine g_sub [1, 2, 3, 4, 0] rfl ?_
  exact hk5 h a0 a1 a2 a3 x1 q hf
set_option maxRecDepth 100000 in
set_option maxHeartbeats 4000000 in
theorem ok_X11_bringsOn_L5 (l : Launch) (X : Cx) : ∀ (n : Nat) (h : AH) (a0 : Nat) (a1 : Int32) (a2 : Int32) (a3 : Int32) (a4 : Int32) (q : Int32 × AH), f_X11_bringsOn_L5 n h a0 a1 a2 a3 a4 = some q → Go l X k_X11_bringsOn 5 [(0, rf X a0), (1, .int a1), (2, .int a2), (3, .int a3), (4, .int a4)] [] h (rI q) := by
  intro n
  induction n with
  | zero =>
    intro h a0 a1 a2 a3 a4 q hf
    unfold f_X11_bringsOn_L5 at hf
    cases hf
  | succ n ih =>
    intro h a0 a1 a2 a3 a4 q hf
    unfold f_X11_bringsOn_L5 at hf
    refine g_iload (pc := 5) 4 dX11_bringsOn_5 rfl ?_
    refine g_aload_n (pc := 7) 0 dX11_bringsOn_7 rfl rfl ?_
    obtain ⟨g1, hf⟩ := gs_some hf
    refine g_getI (pc := 8) fl_X11_316 dX11_bringsOn_8 g1 ?_
    rcases it_some hf with ⟨c2, hf⟩ | ⟨c2, hf⟩
    · refine g_icge_t (pc := 11) (tgt := 59) dX11_bringsOn_11 (by decide) c2 ?_
      refine g_iconst (pc := 59) (v := (0 : Int32)) dX11_bringsOn_59 (by decide) ?_
      obtain rfl := Option.some.inj hf
      exact g_zret (pc := 60) rfl rfl dX11_bringsOn_60
    · refine g_icge_f (pc := 11) (tgt := 59) dX11_bringsOn_11 (by decide) c2 ?_
      refine g_iload_n (pc := 14) 2 dX11_bringsOn_14 rfl rfl ?_
      rcases it_some hf with ⟨c3, hf⟩ | ⟨c3, hf⟩
      · refine g_iflt_t (pc := 15) (tgt := 59) dX11_bringsOn_15 (by decide) c3 ?_
        refine g_iconst (pc := 59) (v := (0 : Int32)) dX11_bringsOn_59 (by decide) ?_
        obtain rfl := Option.some.inj hf
        exact g_zret (pc := 60) rfl rfl dX11_bringsOn_60
      · refine g_iflt_f (pc := 15) (tgt := 59) dX11_bringsOn_15 (by decide) c3 ?_
        refine g_aload_n (pc := 18) 0 dX11_bringsOn_18 rfl rfl ?_
        refine g_getR (pc := 19) fl_X11_145 dX11_bringsOn_19 g1 ?_
        refine g_bipush (pc := 22) (v := (9 : Int32)) dX11_bringsOn_22 (by decide) ?_
        refine g_iload (pc := 24) 4 dX11_bringsOn_24 rfl ?_
        refine g_imul (pc := 26) dX11_bringsOn_26 ?_
        obtain ⟨g4, hf⟩ := gs_some hf
        obtain ⟨b5, hf⟩ := gb_some hf
        refine g_iald (pc := 27) g4 b5 dX11_bringsOn_27 ?_
        obtain ⟨v6, hcv6, hf⟩ := bd_some hf
        refine g_cSI (pc := 28) (k2 := k_X11_channelOf) (av := [.int (hI h (hR h a0 60) ((9 : Int32) * a4).toNatClampNeg)]) (q := (v6, h)) rfl dX11_bringsOn_28 ck_X11_channelOf m_1975 m_1976 (by decide) (by decide) rfl (by simp [rf_cat, rq_cat, ca_i, ca_l, ca_r]) (ct_X11_channelOf l X hcv6) ?_
        refine g_iload_n (pc := 31) 1 dX11_bringsOn_31 rfl rfl ?_
        rcases it_some hf with ⟨c7, hf⟩ | ⟨c7, hf⟩
        · refine g_iceq_t (pc := 32) (tgt := 38) dX11_bringsOn_32 (by decide) c7 ?_
          refine g_iload_n (pc := 38) 3 dX11_bringsOn_38 rfl rfl ?_
          rcases it_some hf with ⟨c8, hf⟩ | ⟨c8, hf⟩
          · refine g_ifne_t (pc := 39) (tgt := 50) dX11_bringsOn_39 (by decide) c8 ?_
            obtain ⟨x9, ex9, hf⟩ := lt_some hf
            refine g_iinc (pc := 50) (y := x9) (L' := [(3, .int x9), (0, rf X a0), (1, .int a1), (2, .int a2), (4, .int a4)]) 3 dX11_bringsOn_50 rfl (by decide) (ex9.trans rfl) rfl ?_
            refine g_sub [1, 2, 3, 0, 4] rfl ?_
            exact ok_X11_bringsOn_L53 l X (f_X11_bringsOn_L5 n) ih h a0 a1 a2 x9 a4 q hf
          · refine g_ifne_f (pc := 39) (tgt := 50) dX11_bringsOn_39 (by decide) (Decidable.of_not_not c8) ?_
            refine g_aload_n (pc := 42) 0 dX11_bringsOn_42 rfl rfl ?_
            refine g_iload (pc := 43) 4 dX11_bringsOn_43 rfl ?_
            obtain ⟨q10, hcq10, hf⟩ := bd_some hf
            refine g_cVV (pc := 45) (k2 := k_X11_bring) (av := [.int a4]) (q := q10) rfl dX11_bringsOn_45 ck_X11_bring m_1907 m_1909 m_103 (ci := 9) rfl (by decide) g1 (by decide) (by decide) rfl (by simp [rf_cat, rq_cat, ca_i, ca_l, ca_r]) (ct_X11_bring l X hcq10) ?_
            refine g_iconst (pc := 48) (v := (1 : Int32)) dX11_bringsOn_48 (by decide) ?_
            obtain rfl := Option.some.inj hf
            exact g_zret (pc := 49) rfl rfl dX11_bringsOn_49
        · refine g_iceq_f (pc := 32) (tgt := 38) dX11_bringsOn_32 (by decide) c7 ?_
          refine g_goto (pc := 35) (tgt := 53) dX11_bringsOn_35 (by decide) ?_
          exact ok_X11_bringsOn_L53 l X (f_X11_bringsOn_L5 n) ih h a0 a1 a2 a3 a4 q hf
set_option maxRecDepth 100000 in
set_option maxHeartbeats 4000000 in
theorem ok_X11_bringsOn (l : Launch) (X : Cx) {h : AH} {a0 : Nat} {a1 : Int32} {a2 : Int32} {q : Int32 × AH} (hf : f_X11_bringsOn h a0 a1 a2 = some q) : Go l X k_X11_bringsOn 0 [(0, rf X a0), (1, .int a1), (2, .int a2)] [] h (rI q) := by
  unfold f_X11_bringsOn at hf
  refine g_iload_n (pc := 0) 2 dX11_bringsOn_0 rfl rfl ?_
  refine g_istore_n (pc := 1) (L' := [(3, .int a2), (0, rf X a0), (1, .int a1), (2, .int a2)]) dX11_bringsOn_1 rfl (by decide) rfl rfl ?_
  refine g_iconst (pc := 2) (v := (0 : Int32)) dX11_bringsOn_2 (by decide) ?_
  obtain ⟨x1, ex1, hf⟩ := lt_some hf
  refine g_istore (pc := 3) (L' := [(4, .int x1), (3, .int a2), (0, rf X a0), (1, .int a1), (2, .int a2)]) dX11_bringsOn_3 (by decide) ex1 rfl ?_
  refine g_sub [2, 3, 4, 1, 0] rfl ?_
  exact ok_X11_bringsOn_L5 l X FU h a0 a1 a2 a2 x1 q hf
theorem ct_X11_bringsOn (l : Launch) (X : Cx) {h : AH} {a0 : Nat} {a1 : Int32} {a2 : Int32} {q : Int32 × AH} (hf : f_X11_bringsOn h a0 a1 a2 = some q) : Ct l X k_X11_bringsOn [rf X a0, .int a1, .int a2] h (rI q) := ct_of ck_X11_bringsOn (by simp [lg_sl, rf_cat, rq_cat, ca_i, ca_l, ca_r]) (by simp [lv_args, rf_cat, rq_cat, ca_i, ca_l, ca_r]) (ok_X11_bringsOn l X hf)
set_option maxRecDepth 100000 in
set_option maxHeartbeats 4000000 in
theorem ok_X11_deliverOn (l : Launch) (X : Cx) {h : AH} {a0 : Nat} {a1 : Int32} {a2 : Int32} {q : Int32 × AH} (hf : f_X11_deliverOn h a0 a1 a2 = some q) : Go l X k_X11_deliverOn 0 [(0, rf X a0), (1, .int a1), (2, .int a2)] [] h (rI q) := by
  unfold f_X11_deliverOn at hf
  refine g_aload_n (pc := 0) 0 dX11_deliverOn_0 rfl rfl ?_
  refine g_iconst (pc := 1) (v := (0 : Int32)) dX11_deliverOn_1 (by decide) ?_
  obtain ⟨g1, hf⟩ := gs_some hf
  obtain ⟨h2, eh2, hf⟩ := lt_some hf
  refine g_putI (pc := 2) fl_X11_306 dX11_deliverOn_2 g1 eh2 ?_
  refine g_aload_n (pc := 5) 0 dX11_deliverOn_5 rfl rfl ?_
  refine g_iload_n (pc := 6) 1 dX11_deliverOn_6 rfl rfl ?_
  refine g_iload_n (pc := 7) 2 dX11_deliverOn_7 rfl rfl ?_
  have g3 : hS h2 a0 = 10 := (hS_tI eh2 g1)
  obtain ⟨q4, hcq4, hf⟩ := bd_some hf
  refine g_cVI (pc := 8) (k2 := k_X11_bringsOn) (av := [.int a1, .int a2]) (q := q4) rfl dX11_deliverOn_8 ck_X11_bringsOn m_1971 m_1973 m_118 (ci := 9) rfl (by decide) g3 (by decide) (by decide) rfl (by simp [rf_cat, rq_cat, ca_i, ca_l, ca_r]) (ct_X11_bringsOn l X hcq4) ?_
  obtain ⟨b5, hf⟩ := gb_some hf
  obtain rfl := Option.some.inj hf
  exact g_zret (pc := 11) rfl b5 dX11_deliverOn_11
theorem ct_X11_deliverOn (l : Launch) (X : Cx) {h : AH} {a0 : Nat} {a1 : Int32} {a2 : Int32} {q : Int32 × AH} (hf : f_X11_deliverOn h a0 a1 a2 = some q) : Ct l X k_X11_deliverOn [rf X a0, .int a1, .int a2] h (rI q) := ct_of ck_X11_deliverOn (by simp [lg_sl, rf_cat, rq_cat, ca_i, ca_l, ca_r]) (by simp [lv_args, rf_cat, rq_cat, ca_i, ca_l, ca_r]) (ok_X11_deliverOn l X hf)
set_option maxRecDepth 100000 in
set_option maxHeartbeats 4000000 in
theorem ok_X11_run_L12 (l : Launch) (X : Cx) (h : AH) (a0 : Nat) (q : Int32 × AH) (hf : f_X11_run_L12 h a0 = some q) : Go l X k_X11_run 12 [(0, rf X a0)] [] h (rI q) := by
  unfold f_X11_run_L12 at hf
  refine g_aload_n (pc := 12) 0 dX11_run_12 rfl rfl ?_
  refine g_iconst (pc := 13) (v := (1 : Int32)) dX11_run_13 (by decide) ?_
  obtain ⟨g1, hf⟩ := gs_some hf
  obtain ⟨q2, hcq2, hf⟩ := bd_some hf
  refine g_cVI (pc := 14) (k2 := k_X11_raise) (av := [.int (1 : Int32)]) (q := q2) rfl dX11_run_14 ck_X11_raise m_1780 m_1782 m_77 (ci := 9) rfl (by decide) g1 (by decide) (by decide) rfl (by simp [rf_cat, rq_cat, ca_i, ca_l, ca_r]) (ct_X11_raise l X hcq2) ?_
  obtain rfl := Option.some.inj hf
  exact g_iret (pc := 17) rfl dX11_run_17
set_option maxRecDepth 100000 in
set_option maxHeartbeats 4000000 in
theorem ok_X11_run_L69 (l : Launch) (X : Cx) (k30 : AH → Nat → Int32 → Int32 → Int32 → Option (Int32 × AH)) (hk30 : ∀ (h : AH) (a0 : Nat) (a1 : Int32) (a2 : Int32) (a3 : Int32) (q : Int32 × AH), k30 h a0 a1 a2 a3 = some q → Go l X k_X11_run 30 [(0, rf X a0), (1, .int a1), (2, .int a2), (3, .int a3)] [] h (rI q)) : ∀ (n : Nat) (h : AH) (a0 : Nat) (a1 : Int32) (a2 : Int32) (a3 : Int32) (q : Int32 × AH), f_X11_run_L69 k30 n h a0 a1 a2 a3 = some q → Go l X k_X11_run 69 [(0, rf X a0), (1, .int a1), (2, .int a2), (3, .int a3)] [] h (rI q) := by
  intro n
  induction n with
  | zero =>
    intro h a0 a1 a2 a3 q hf
    unfold f_X11_run_L69 at hf
    cases hf
  | succ n ih =>
    intro h a0 a1 a2 a3 q hf
    unfold f_X11_run_L69 at hf
    refine g_aload_n (pc := 69) 0 dX11_run_69 rfl rfl ?_
    obtain ⟨g1, hf⟩ := gs_some hf
    refine g_getI (pc := 70) fl_X11_316 dX11_run_70 g1 ?_
    rcases it_some hf with ⟨c2, hf⟩ | ⟨c2, hf⟩
    · refine g_ifle_t (pc := 73) (tgt := 84) dX11_run_73 (by decide) c2 ?_
      obtain ⟨x3, ex3, hf⟩ := lt_some hf
      refine g_iinc (pc := 84) (y := x3) (L' := [(3, .int x3), (0, rf X a0), (1, .int a1), (2, .int a2)]) 3 dX11_run_84 rfl (by decide) (ex3.trans rfl) rfl ?_
      refine g_goto (pc := 87) (tgt := 30) dX11_run_87 (by decide) ?_
      refine g_sub [1, 2, 3, 0] rfl ?_
      exact hk30 h a0 a1 a2 x3 q hf
    · refine g_ifle_f (pc := 73) (tgt := 84) dX11_run_73 (by decide) c2 ?_
      refine g_aload_n (pc := 76) 0 dX11_run_76 rfl rfl ?_
      refine g_iconst (pc := 77) (v := (0 : Int32)) dX11_run_77 (by decide) ?_
      obtain ⟨q4, hcq4, hf⟩ := bd_some hf
      refine g_cVV (pc := 78) (k2 := k_X11_bring) (av := [.int (0 : Int32)]) (q := q4) rfl dX11_run_78 ck_X11_bring m_1907 m_1909 m_103 (ci := 9) rfl (by decide) g1 (by decide) (by decide) rfl (by simp [rf_cat, rq_cat, ca_i, ca_l, ca_r]) (ct_X11_bring l X hcq4) ?_
      refine g_goto (pc := 81) (tgt := 69) dX11_run_81 (by decide) ?_
      exact ih q4 a0 a1 a2 a3 q hf
set_option maxRecDepth 100000 in
set_option maxHeartbeats 4000000 in
theorem ok_X11_run_L38 (l : Launch) (X : Cx) (k30 : AH → Nat → Int32 → Int32 → Int32 → Option (Int32 × AH)) (hk30 : ∀ (h : AH) (a0 : Nat) (a1 : Int32) (a2 : Int32) (a3 : Int32) (q : Int32 × AH), k30 h a0 a1 a2 a3 = some q → Go l X k_X11_run 30 [(0, rf X a0), (1, .int a1), (2, .int a2), (3, .int a3)] [] h (rI q)) : ∀ (n : Nat) (h : AH) (a0 : Nat) (a1 : Int32) (a2 : Int32) (a3 : Int32) (a4 : Int32) (q : Int32 × AH), f_X11_run_L38 k30 n h a0 a1 a2 a3 a4 = some q → Go l X k_X11_run 38 [(0, rf X a0), (1, .int a1), (2, .int a2), (3, .int a3), (4, .int a4)] [] h (rI q) := by
  intro n
  induction n with
  | zero =>
    intro h a0 a1 a2 a3 a4 q hf
    unfold f_X11_run_L38 at hf
    cases hf
  | succ n ih =>
    intro h a0 a1 a2 a3 a4 q hf
    unfold f_X11_run_L38 at hf
    refine g_iload (pc := 38) 4 dX11_run_38 rfl ?_
    refine g_aload_n (pc := 40) 0 dX11_run_40 rfl rfl ?_
    obtain ⟨g1, hf⟩ := gs_some hf
    refine g_getR (pc := 41) fl_X11_47 dX11_run_41 g1 ?_
    refine g_iconst (pc := 44) (v := (0 : Int32)) dX11_run_44 (by decide) ?_
    obtain ⟨g2, hf⟩ := gs_some hf
    obtain ⟨b3, hf⟩ := gb_some hf
    refine g_iald (pc := 45) g2 b3 dX11_run_45 ?_
    rcases it_some hf with ⟨c4, hf⟩ | ⟨c4, hf⟩
    · refine g_icge_t (pc := 46) (tgt := 69) dX11_run_46 (by decide) c4 ?_
      refine g_sub [0, 1, 2, 3] rfl ?_
      exact ok_X11_run_L69 l X k30 hk30 FU h a0 a1 a2 a3 q hf
    · refine g_icge_f (pc := 46) (tgt := 69) dX11_run_46 (by decide) c4 ?_
      refine g_aload_n (pc := 49) 0 dX11_run_49 rfl rfl ?_
      refine g_iload (pc := 50) 4 dX11_run_50 rfl ?_
      obtain ⟨q5, hcq5, hf⟩ := bd_some hf
      refine g_cVI (pc := 52) (k2 := k_X11_stepOf) (av := [.int a4]) (q := q5) rfl dX11_run_52 ck_X11_stepOf m_1796 m_1798 m_79 (ci := 9) rfl (by decide) g1 (by decide) (by decide) rfl (by simp [rf_cat, rq_cat, ca_i, ca_l, ca_r]) (ct_X11_stepOf l X hcq5) ?_
      refine g_pop (pc := 55) dX11_run_55 rfl ?_
      refine g_aload_n (pc := 56) 0 dX11_run_56 rfl rfl ?_
      refine g_iload (pc := 57) 4 dX11_run_57 rfl ?_
      obtain ⟨g6, hf⟩ := gs_some hf
      obtain ⟨q7, hcq7, hf⟩ := bd_some hf
      refine g_cVI (pc := 59) (k2 := k_X11_drainOf) (av := [.int a4]) (q := q7) rfl dX11_run_59 ck_X11_drainOf m_1895 m_1897 m_101 (ci := 9) rfl (by decide) g6 (by decide) (by decide) rfl (by simp [rf_cat, rq_cat, ca_i, ca_l, ca_r]) (ct_X11_drainOf l X hcq7) ?_
      refine g_pop (pc := 62) dX11_run_62 rfl ?_
      obtain ⟨x8, ex8, hf⟩ := lt_some hf
      refine g_iinc (pc := 63) (y := x8) (L' := [(4, .int x8), (0, rf X a0), (1, .int a1), (2, .int a2), (3, .int a3)]) 4 dX11_run_63 rfl (by decide) (ex8.trans rfl) rfl ?_
      refine g_goto (pc := 66) (tgt := 38) dX11_run_66 (by decide) ?_
      refine g_sub [1, 2, 3, 4, 0] rfl ?_
      exact ih q7.2 a0 a1 a2 a3 x8 q hf
set_option maxRecDepth 100000 in
set_option maxHeartbeats 4000000 in
theorem ok_X11_run_L30 (l : Launch) (X : Cx) : ∀ (n : Nat) (h : AH) (a0 : Nat) (a1 : Int32) (a2 : Int32) (a3 : Int32) (q : Int32 × AH), f_X11_run_L30 n h a0 a1 a2 a3 = some q → Go l X k_X11_run 30 [(0, rf X a0), (1, .int a1), (2, .int a2), (3, .int a3)] [] h (rI q) := by
  intro n
  induction n with
  | zero =>
    intro h a0 a1 a2 a3 q hf
    unfold f_X11_run_L30 at hf
    cases hf
  | succ n ih =>
    intro h a0 a1 a2 a3 q hf
    unfold f_X11_run_L30 at hf
    refine g_iload_n (pc := 30) 3 dX11_run_30 rfl rfl ?_
    refine g_iload_n (pc := 31) 1 dX11_run_31 rfl rfl ?_
    rcases it_some hf with ⟨c1, hf⟩ | ⟨c1, hf⟩
    · refine g_icge_t (pc := 32) (tgt := 90) dX11_run_32 (by decide) c1 ?_
      refine g_aload_n (pc := 90) 0 dX11_run_90 rfl rfl ?_
      obtain ⟨g2, hf⟩ := gs_some hf
      refine g_getI (pc := 91) fl_X11_319 dX11_run_91 g2 ?_
      refine g_iload_n (pc := 94) 2 dX11_run_94 rfl rfl ?_
      refine g_isub (pc := 95) dX11_run_95 ?_
      obtain rfl := Option.some.inj hf
      exact g_iret (pc := 96) rfl dX11_run_96
    · refine g_icge_f (pc := 32) (tgt := 90) dX11_run_32 (by decide) c1 ?_
      refine g_iconst (pc := 35) (v := (0 : Int32)) dX11_run_35 (by decide) ?_
      obtain ⟨x3, ex3, hf⟩ := lt_some hf
      refine g_istore (pc := 36) (L' := [(4, .int x3), (0, rf X a0), (1, .int a1), (2, .int a2), (3, .int a3)]) dX11_run_36 (by decide) ex3 rfl ?_
      refine g_sub [1, 2, 3, 4, 0] rfl ?_
      exact ok_X11_run_L38 l X (f_X11_run_L30 n) ih FU h a0 a1 a2 a3 x3 q hf
set_option maxRecDepth 100000 in
set_option maxHeartbeats 4000000 in
theorem ok_X11_run (l : Launch) (X : Cx) {h : AH} {a0 : Nat} {a1 : Int32} {q : Int32 × AH} (hf : f_X11_run h a0 a1 = some q) : Go l X k_X11_run 0 [(0, rf X a0), (1, .int a1)] [] h (rI q) := by
  unfold f_X11_run at hf
  refine g_iload_n (pc := 0) 1 dX11_run_0 rfl rfl ?_
  refine g_iconst (pc := 1) (v := (1 : Int32)) dX11_run_1 (by decide) ?_
  rcases it_some hf with ⟨c1, hf⟩ | ⟨c1, hf⟩
  · refine g_iclt_t (pc := 2) (tgt := 12) dX11_run_2 (by decide) c1 ?_
    refine g_sub [0] rfl ?_
    exact ok_X11_run_L12 l X h a0 q hf
  · refine g_iclt_f (pc := 2) (tgt := 12) dX11_run_2 (by decide) c1 ?_
    refine g_iload_n (pc := 5) 1 dX11_run_5 rfl rfl ?_
    refine g_sipush (pc := 6) (v := (200 : Int32)) dX11_run_6 (by decide) ?_
    rcases it_some hf with ⟨c2, hf⟩ | ⟨c2, hf⟩
    · refine g_icle_t (pc := 9) (tgt := 18) dX11_run_9 (by decide) c2 ?_
      refine g_aload_n (pc := 18) 0 dX11_run_18 rfl rfl ?_
      refine g_iconst (pc := 19) (v := (0 : Int32)) dX11_run_19 (by decide) ?_
      obtain ⟨g3, hf⟩ := gs_some hf
      obtain ⟨h4, eh4, hf⟩ := lt_some hf
      refine g_putI (pc := 20) fl_X11_306 dX11_run_20 g3 eh4 ?_
      refine g_aload_n (pc := 23) 0 dX11_run_23 rfl rfl ?_
      have g5 : hS h4 a0 = 10 := (hS_tI eh4 g3)
      refine g_getI (pc := 24) fl_X11_319 dX11_run_24 g5 ?_
      obtain ⟨x6, ex6, hf⟩ := lt_some hf
      refine g_istore_n (pc := 27) (L' := [(2, .int x6), (0, rf X a0), (1, .int a1)]) dX11_run_27 rfl (by decide) ex6 rfl ?_
      refine g_iconst (pc := 28) (v := (0 : Int32)) dX11_run_28 (by decide) ?_
      obtain ⟨x7, ex7, hf⟩ := lt_some hf
      refine g_istore_n (pc := 29) (L' := [(3, .int x7), (2, .int x6), (0, rf X a0), (1, .int a1)]) dX11_run_29 rfl (by decide) ex7 rfl ?_
      refine g_sub [2, 3, 1, 0] rfl ?_
      exact ok_X11_run_L30 l X FU h4 a0 a1 x6 x7 q hf
    · refine g_icle_f (pc := 9) (tgt := 18) dX11_run_9 (by decide) c2 ?_
      refine g_sub [0] rfl ?_
      exact ok_X11_run_L12 l X h a0 q hf
theorem ct_X11_run (l : Launch) (X : Cx) {h : AH} {a0 : Nat} {a1 : Int32} {q : Int32 × AH} (hf : f_X11_run h a0 a1 = some q) : Ct l X k_X11_run [rf X a0, .int a1] h (rI q) := ct_of ck_X11_run (by simp [lg_sl, rf_cat, rq_cat, ca_i, ca_l, ca_r]) (by simp [lv_args, rf_cat, rq_cat, ca_i, ca_l, ca_r]) (ok_X11_run l X hf)
set_option maxRecDepth 100000 in
set_option maxHeartbeats 4000000 in
theorem ok_X11_digitAt (l : Launch) (X : Cx) {h : AH} {a0 : Nat} {a1 : Int32} {q : Int32} (hf : f_X11_digitAt h a0 a1 = some q) : Go l X k_X11_digitAt 0 [(0, rf X a0), (1, .int a1)] [] h (rI (q, h)) := by
  unfold f_X11_digitAt at hf
  refine g_aload_n (pc := 0) 0 dX11_digitAt_0 rfl rfl ?_
  refine g_iload_n (pc := 1) 1 dX11_digitAt_1 rfl rfl ?_
  obtain ⟨g1, hf⟩ := gs_some hf
  obtain ⟨v2, hcv2, hf⟩ := bd_some hf
  refine g_cVI (pc := 2) (k2 := k_X11_see) (av := [.int a1]) (q := (v2, h)) rfl dX11_digitAt_2 ck_X11_see m_1667 m_1669 m_60 (ci := 9) rfl (by decide) g1 (by decide) (by decide) rfl (by simp [rf_cat, rq_cat, ca_i, ca_l, ca_r]) (ct_X11_see l X hcv2) ?_
  obtain ⟨v3, hcv3, hf⟩ := bd_some hf
  refine g_cSI (pc := 5) (k2 := k_X11_isHex) (av := [.int v2]) (q := (v3, h)) rfl dX11_digitAt_5 ck_X11_isHex m_1671 m_1672 (by decide) (by decide) rfl (by simp [rf_cat, rq_cat, ca_i, ca_l, ca_r]) (ct_X11_isHex l X hcv3) ?_
  rcases it_some hf with ⟨c4, hf⟩ | ⟨c4, hf⟩
  · refine g_ifeq_t (pc := 8) (tgt := 47) dX11_digitAt_8 (by decide) c4 ?_
    refine g_iconst (pc := 47) (v := (-1 : Int32)) dX11_digitAt_47 (by decide) ?_
    obtain rfl := Option.some.inj hf
    exact g_iret (pc := 48) rfl dX11_digitAt_48
  · refine g_ifeq_f (pc := 8) (tgt := 47) dX11_digitAt_8 (by decide) c4 ?_
    refine g_aload_n (pc := 11) 0 dX11_digitAt_11 rfl rfl ?_
    refine g_iload_n (pc := 12) 1 dX11_digitAt_12 rfl rfl ?_
    obtain ⟨v5, hcv5, hf⟩ := bd_some hf
    refine g_cVI (pc := 13) (k2 := k_X11_see) (av := [.int a1]) (q := (v5, h)) rfl dX11_digitAt_13 ck_X11_see m_1667 m_1669 m_60 (ci := 9) rfl (by decide) g1 (by decide) (by decide) rfl (by simp [rf_cat, rq_cat, ca_i, ca_l, ca_r]) (ct_X11_see l X hcv5) ?_
    obtain ⟨v6, hcv6, hf⟩ := bd_some hf
    refine g_cSI (pc := 16) (k2 := k_X11_isDigit) (av := [.int v5]) (q := (v6, h)) rfl dX11_digitAt_16 ck_X11_isDigit m_1674 m_1675 (by decide) (by decide) rfl (by simp [rf_cat, rq_cat, ca_i, ca_l, ca_r]) (ct_X11_isDigit l X hcv6) ?_
    rcases it_some hf with ⟨c7, hf⟩ | ⟨c7, hf⟩
    · refine g_ifeq_t (pc := 19) (tgt := 33) dX11_digitAt_19 (by decide) c7 ?_
      refine g_aload_n (pc := 33) 0 dX11_digitAt_33 rfl rfl ?_
      refine g_iload_n (pc := 34) 1 dX11_digitAt_34 rfl rfl ?_
      obtain ⟨v8, hcv8, hf⟩ := bd_some hf
      refine g_cVI (pc := 35) (k2 := k_X11_see) (av := [.int a1]) (q := (v8, h)) rfl dX11_digitAt_35 ck_X11_see m_1667 m_1669 m_60 (ci := 9) rfl (by decide) g1 (by decide) (by decide) rfl (by simp [rf_cat, rq_cat, ca_i, ca_l, ca_r]) (ct_X11_see l X hcv8) ?_
      refine g_bipush (pc := 38) (v := (97 : Int32)) dX11_digitAt_38 (by decide) ?_
      refine g_isub (pc := 40) dX11_digitAt_40 ?_
      refine g_bipush (pc := 41) (v := (10 : Int32)) dX11_digitAt_41 (by decide) ?_
      refine g_iadd (pc := 43) dX11_digitAt_43 ?_
      refine g_goto (pc := 44) (tgt := 48) dX11_digitAt_44 (by decide) ?_
      obtain rfl := Option.some.inj hf
      exact g_iret (pc := 48) rfl dX11_digitAt_48
    · refine g_ifeq_f (pc := 19) (tgt := 33) dX11_digitAt_19 (by decide) c7 ?_
      refine g_aload_n (pc := 22) 0 dX11_digitAt_22 rfl rfl ?_
      refine g_iload_n (pc := 23) 1 dX11_digitAt_23 rfl rfl ?_
      obtain ⟨v9, hcv9, hf⟩ := bd_some hf
      refine g_cVI (pc := 24) (k2 := k_X11_see) (av := [.int a1]) (q := (v9, h)) rfl dX11_digitAt_24 ck_X11_see m_1667 m_1669 m_60 (ci := 9) rfl (by decide) g1 (by decide) (by decide) rfl (by simp [rf_cat, rq_cat, ca_i, ca_l, ca_r]) (ct_X11_see l X hcv9) ?_
      refine g_bipush (pc := 27) (v := (48 : Int32)) dX11_digitAt_27 (by decide) ?_
      refine g_isub (pc := 29) dX11_digitAt_29 ?_
      refine g_goto (pc := 30) (tgt := 48) dX11_digitAt_30 (by decide) ?_
      obtain rfl := Option.some.inj hf
      exact g_iret (pc := 48) rfl dX11_digitAt_48
theorem ct_X11_digitAt (l : Launch) (X : Cx) {h : AH} {a0 : Nat} {a1 : Int32} {q : Int32} (hf : f_X11_digitAt h a0 a1 = some q) : Ct l X k_X11_digitAt [rf X a0, .int a1] h (rI (q, h)) := ct_of ck_X11_digitAt (by simp [lg_sl, rf_cat, rq_cat, ca_i, ca_l, ca_r]) (by simp [lv_args, rf_cat, rq_cat, ca_i, ca_l, ca_r]) (ok_X11_digitAt l X hf)
set_option maxRecDepth 100000 in
set_option maxHeartbeats 4000000 in
theorem ok_X11_endOf_L95 (l : Launch) (X : Cx) (h : AH) (a4 : Int32) (q : Int32) (hf : f_X11_endOf_L95 h a4 = some q) : Go l X k_X11_endOf 95 [(4, .int a4)] [] h (rI (q, h)) := by
  unfold f_X11_endOf_L95 at hf
  refine g_iconst (pc := 95) (v := (-1 : Int32)) dX11_endOf_95 (by decide) ?_
  refine g_iload (pc := 96) 0 dX11_endOf_96 rfl ?_
  refine g_isub (pc := 98) dX11_endOf_98 ?_
  obtain rfl := Option.some.inj hf
  exact g_iret (pc := 99) rfl dX11_endOf_99
set_option maxRecDepth 100000 in
set_option maxHeartbeats 4000000 in
theorem ok_X11_endOf_L100 (l : Launch) (X : Cx) (h : AH) (k53 : Nat → Int32 → Int32 → Int32 → Int32 → Option (Int32)) (hk53 : ∀ (a0 : Nat) (a1 : Int32) (a2 : Int32) (a3 : Int32) (a4 : Int32) (q : Int32), k53 a0 a1 a2 a3 a4 = some q → Go l X k_X11_endOf 53 [(0, rf X a0), (1, .int a1), (2, .int a2), (3, .int a3), (4, .int a4)] [] h (rI (q, h))) (a0 : Nat) (a1 : Int32) (a2 : Int32) (a3 : Int32) (a4 : Int32) (q : Int32) (hf : f_X11_endOf_L100 h k53 a0 a1 a2 a3 a4 = some q) : Go l X k_X11_endOf 100 [(0, rf X a0), (1, .int a1), (2, .int a2), (3, .int a3), (4, .int a4)] [] h (rI (q, h)) := by
  unfold f_X11_endOf_L100 at hf
  obtain ⟨x1, ex1, hf⟩ := lt_some hf
  refine g_iinc (pc := 100) (y := x1) (L' := [(4, .int x1), (0, rf X a0), (1, .int a1), (2, .int a2), (3, .int a3)]) 4 dX11_endOf_100 rfl (by decide) (ex1.trans rfl) rfl ?_
  refine g_goto (pc := 103) (tgt := 53) dX11_endOf_103 (by decide) ?_
  refine g_sub [1, 2, 3, 4, 0] rfl ?_
  exact hk53 a0 a1 a2 a3 x1 q hf
set_option maxRecDepth 100000 in
set_option maxHeartbeats 4000000 in
theorem ok_X11_endOf_L53 (l : Launch) (X : Cx) (h : AH) : ∀ (n : Nat) (a0 : Nat) (a1 : Int32) (a2 : Int32) (a3 : Int32) (a4 : Int32) (q : Int32), f_X11_endOf_L53 h n a0 a1 a2 a3 a4 = some q → Go l X k_X11_endOf 53 [(0, rf X a0), (1, .int a1), (2, .int a2), (3, .int a3), (4, .int a4)] [] h (rI (q, h)) := by
  intro n
  induction n with
  | zero =>
    intro a0 a1 a2 a3 a4 q hf
    unfold f_X11_endOf_L53 at hf
    cases hf
  | succ n ih =>
    intro a0 a1 a2 a3 a4 q hf
    unfold f_X11_endOf_L53 at hf
    refine g_iload (pc := 53) 4 dX11_endOf_53 rfl ?_
    refine g_iload_n (pc := 55) 1 dX11_endOf_55 rfl rfl ?_
    refine g_iload_n (pc := 56) 3 dX11_endOf_56 rfl rfl ?_
    refine g_iadd (pc := 57) dX11_endOf_57 ?_
    rcases it_some hf with ⟨c1, hf⟩ | ⟨c1, hf⟩
    · refine g_icgt_t (pc := 58) (tgt := 106) dX11_endOf_58 (by decide) c1 ?_
      refine g_iload_n (pc := 106) 1 dX11_endOf_106 rfl rfl ?_
      refine g_iconst (pc := 107) (v := (1 : Int32)) dX11_endOf_107 (by decide) ?_
      refine g_iadd (pc := 108) dX11_endOf_108 ?_
      refine g_iload_n (pc := 109) 3 dX11_endOf_109 rfl rfl ?_
      refine g_iadd (pc := 110) dX11_endOf_110 ?_
      obtain rfl := Option.some.inj hf
      exact g_iret (pc := 111) rfl dX11_endOf_111
    · refine g_icgt_f (pc := 58) (tgt := 106) dX11_endOf_58 (by decide) c1 ?_
      refine g_aload_n (pc := 61) 0 dX11_endOf_61 rfl rfl ?_
      refine g_iload (pc := 62) 4 dX11_endOf_62 rfl ?_
      obtain ⟨g2, hf⟩ := gs_some hf
      obtain ⟨v3, hcv3, hf⟩ := bd_some hf
      refine g_cVI (pc := 64) (k2 := k_X11_digitAt) (av := [.int a4]) (q := (v3, h)) rfl dX11_endOf_64 ck_X11_digitAt m_1990 m_1992 m_120 (ci := 9) rfl (by decide) g2 (by decide) (by decide) rfl (by simp [rf_cat, rq_cat, ca_i, ca_l, ca_r]) (ct_X11_digitAt l X hcv3) ?_
      refine g_iconst (pc := 67) (v := (-1 : Int32)) dX11_endOf_67 (by decide) ?_
      rcases it_some hf with ⟨c4, hf⟩ | ⟨c4, hf⟩
      · refine g_iceq_t (pc := 68) (tgt := 95) dX11_endOf_68 (by decide) c4 ?_
        refine g_sub [4] rfl ?_
        exact ok_X11_endOf_L95 l X h a4 q hf
      · refine g_iceq_f (pc := 68) (tgt := 95) dX11_endOf_68 (by decide) c4 ?_
        refine g_iload_n (pc := 71) 2 dX11_endOf_71 rfl rfl ?_
        refine g_bipush (pc := 72) (v := (114 : Int32)) dX11_endOf_72 (by decide) ?_
        rcases it_some hf with ⟨c5, hf⟩ | ⟨c5, hf⟩
        · refine g_icne_t (pc := 74) (tgt := 100) dX11_endOf_74 (by decide) c5 ?_
          exact ok_X11_endOf_L100 l X h (f_X11_endOf_L53 h n) ih a0 a1 a2 a3 a4 q hf
        · refine g_icne_f (pc := 74) (tgt := 100) dX11_endOf_74 (by decide) (Decidable.of_not_not c5) ?_
          refine g_iload (pc := 77) 4 dX11_endOf_77 rfl ?_
          refine g_iload_n (pc := 79) 1 dX11_endOf_79 rfl rfl ?_
          refine g_iconst (pc := 80) (v := (1 : Int32)) dX11_endOf_80 (by decide) ?_
          refine g_iadd (pc := 81) dX11_endOf_81 ?_
          rcases it_some hf with ⟨c6, hf⟩ | ⟨c6, hf⟩
          · refine g_icne_t (pc := 82) (tgt := 100) dX11_endOf_82 (by decide) c6 ?_
            exact ok_X11_endOf_L100 l X h (f_X11_endOf_L53 h n) ih a0 a1 a2 a3 a4 q hf
          · refine g_icne_f (pc := 82) (tgt := 100) dX11_endOf_82 (by decide) (Decidable.of_not_not c6) ?_
            refine g_aload_n (pc := 85) 0 dX11_endOf_85 rfl rfl ?_
            refine g_iload (pc := 86) 4 dX11_endOf_86 rfl ?_
            obtain ⟨v7, hcv7, hf⟩ := bd_some hf
            refine g_cVI (pc := 88) (k2 := k_X11_digitAt) (av := [.int a4]) (q := (v7, h)) rfl dX11_endOf_88 ck_X11_digitAt m_1990 m_1992 m_120 (ci := 9) rfl (by decide) g2 (by decide) (by decide) rfl (by simp [rf_cat, rq_cat, ca_i, ca_l, ca_r]) (ct_X11_digitAt l X hcv7) ?_
            refine g_iconst (pc := 91) (v := (2 : Int32)) dX11_endOf_91 (by decide) ?_
            rcases it_some hf with ⟨c8, hf⟩ | ⟨c8, hf⟩
            · refine g_icle_t (pc := 92) (tgt := 100) dX11_endOf_92 (by decide) c8 ?_
              exact ok_X11_endOf_L100 l X h (f_X11_endOf_L53 h n) ih a0 a1 a2 a3 a4 q hf
            · refine g_icle_f (pc := 92) (tgt := 100) dX11_endOf_92 (by decide) c8 ?_
              refine g_sub [4] rfl ?_
              exact ok_X11_endOf_L95 l X h a4 q hf
set_option maxRecDepth 100000 in
set_option maxHeartbeats 4000000 in
theorem ok_X11_endOf_L39 (l : Launch) (X : Cx) (h : AH) (a0 : Nat) (a1 : Int32) (a2 : Int32) (s0 : Int32) (q : Int32) (hf : f_X11_endOf_L39 h a0 a1 a2 s0 = some q) : Go l X k_X11_endOf 39 [(0, rf X a0), (1, .int a1), (2, .int a2)] [.int s0] h (rI (q, h)) := by
  unfold f_X11_endOf_L39 at hf
  refine g_istore_n (pc := 39) (L' := [(3, .int s0), (0, rf X a0), (1, .int a1), (2, .int a2)]) dX11_endOf_39 rfl (by decide) rfl rfl ?_
  refine g_iload_n (pc := 40) 0 dX11_endOf_40 rfl rfl ?_
  rcases it_some hf with ⟨c1, hf⟩ | ⟨c1, hf⟩
  · refine g_ifne_t (pc := 41) (tgt := 48) dX11_endOf_41 (by decide) c1 ?_
    refine g_iload_n (pc := 48) 2 dX11_endOf_48 rfl rfl ?_
    refine g_iconst (pc := 49) (v := (1 : Int32)) dX11_endOf_49 (by decide) ?_
    refine g_iadd (pc := 50) dX11_endOf_50 ?_
    obtain ⟨x2, ex2, hf⟩ := lt_some hf
    refine g_istore (pc := 51) (L' := [(4, .int x2), (3, .int s0), (0, rf X a0), (1, .int a1), (2, .int a2)]) dX11_endOf_51 (by decide) ex2 rfl ?_
    refine g_sub [2, 3, 4, 1, 0] rfl ?_
    exact ok_X11_endOf_L53 l X h FU a0 a1 a2 s0 x2 q hf
  · refine g_ifne_f (pc := 41) (tgt := 48) dX11_endOf_41 (by decide) (Decidable.of_not_not c1) ?_
    refine g_iconst (pc := 44) (v := (-1 : Int32)) dX11_endOf_44 (by decide) ?_
    refine g_iload_n (pc := 45) 2 dX11_endOf_45 rfl rfl ?_
    refine g_isub (pc := 46) dX11_endOf_46 ?_
    obtain rfl := Option.some.inj hf
    exact g_iret (pc := 47) rfl dX11_endOf_47
set_option maxRecDepth 100000 in
set_option maxHeartbeats 4000000 in
theorem ok_X11_endOf_L18 (l : Launch) (X : Cx) (h : AH) (a0 : Nat) (a1 : Int32) (a2 : Int32) (q : Int32) (hf : f_X11_endOf_L18 h a0 a1 a2 = some q) : Go l X k_X11_endOf 18 [(0, rf X a0), (1, .int a1), (2, .int a2)] [] h (rI (q, h)) := by
  unfold f_X11_endOf_L18 at hf
  refine g_iconst (pc := 18) (v := (1 : Int32)) dX11_endOf_18 (by decide) ?_
  refine g_goto (pc := 19) (tgt := 39) dX11_endOf_19 (by decide) ?_
  exact ok_X11_endOf_L39 l X h a0 a1 a2 (1 : Int32) q hf
set_option maxRecDepth 100000 in
set_option maxHeartbeats 4000000 in
theorem ok_X11_endOf_L34 (l : Launch) (X : Cx) (h : AH) (a0 : Nat) (a1 : Int32) (a2 : Int32) (q : Int32) (hf : f_X11_endOf_L34 h a0 a1 a2 = some q) : Go l X k_X11_endOf 34 [(0, rf X a0), (1, .int a1), (2, .int a2)] [] h (rI (q, h)) := by
  unfold f_X11_endOf_L34 at hf
  refine g_iconst (pc := 34) (v := (2 : Int32)) dX11_endOf_34 (by decide) ?_
  refine g_goto (pc := 35) (tgt := 39) dX11_endOf_35 (by decide) ?_
  exact ok_X11_endOf_L39 l X h a0 a1 a2 (2 : Int32) q hf
set_option maxRecDepth 100000 in
set_option maxHeartbeats 4000000 in
theorem ok_X11_endOf (l : Launch) (X : Cx) {h : AH} {a0 : Nat} {a1 : Int32} {q : Int32} (hf : f_X11_endOf h a0 a1 = some q) : Go l X k_X11_endOf 0 [(0, rf X a0), (1, .int a1)] [] h (rI (q, h)) := by
  unfold f_X11_endOf at hf
  refine g_aload_n (pc := 0) 0 dX11_endOf_0 rfl rfl ?_
  refine g_iload_n (pc := 1) 1 dX11_endOf_1 rfl rfl ?_
  obtain ⟨g1, hf⟩ := gs_some hf
  obtain ⟨v2, hcv2, hf⟩ := bd_some hf
  refine g_cVI (pc := 2) (k2 := k_X11_see) (av := [.int a1]) (q := (v2, h)) rfl dX11_endOf_2 ck_X11_see m_1667 m_1669 m_60 (ci := 9) rfl (by decide) g1 (by decide) (by decide) rfl (by simp [rf_cat, rq_cat, ca_i, ca_l, ca_r]) (ct_X11_see l X hcv2) ?_
  refine g_istore_n (pc := 5) (L' := [(2, .int v2), (0, rf X a0), (1, .int a1)]) dX11_endOf_5 rfl (by decide) rfl rfl ?_
  refine g_iload_n (pc := 6) 0 dX11_endOf_6 rfl rfl ?_
  refine g_bipush (pc := 7) (v := (115 : Int32)) dX11_endOf_7 (by decide) ?_
  rcases it_some hf with ⟨c3, hf⟩ | ⟨c3, hf⟩
  · refine g_iceq_t (pc := 9) (tgt := 18) dX11_endOf_9 (by decide) c3 ?_
    refine g_sub [1, 2, 0] rfl ?_
    exact ok_X11_endOf_L18 l X h a0 a1 v2 q hf
  · refine g_iceq_f (pc := 9) (tgt := 18) dX11_endOf_9 (by decide) c3 ?_
    refine g_iload_n (pc := 12) 0 dX11_endOf_12 rfl rfl ?_
    refine g_bipush (pc := 13) (v := (100 : Int32)) dX11_endOf_13 (by decide) ?_
    rcases it_some hf with ⟨c4, hf⟩ | ⟨c4, hf⟩
    · refine g_icne_t (pc := 15) (tgt := 22) dX11_endOf_15 (by decide) c4 ?_
      refine g_iload_n (pc := 22) 0 dX11_endOf_22 rfl rfl ?_
      refine g_bipush (pc := 23) (v := (109 : Int32)) dX11_endOf_23 (by decide) ?_
      rcases it_some hf with ⟨c5, hf⟩ | ⟨c5, hf⟩
      · refine g_iceq_t (pc := 25) (tgt := 34) dX11_endOf_25 (by decide) c5 ?_
        refine g_sub [1, 2, 0] rfl ?_
        exact ok_X11_endOf_L34 l X h a0 a1 v2 q hf
      · refine g_iceq_f (pc := 25) (tgt := 34) dX11_endOf_25 (by decide) c5 ?_
        refine g_iload_n (pc := 28) 0 dX11_endOf_28 rfl rfl ?_
        refine g_bipush (pc := 29) (v := (114 : Int32)) dX11_endOf_29 (by decide) ?_
        rcases it_some hf with ⟨c6, hf⟩ | ⟨c6, hf⟩
        · refine g_icne_t (pc := 31) (tgt := 38) dX11_endOf_31 (by decide) c6 ?_
          refine g_iconst (pc := 38) (v := (0 : Int32)) dX11_endOf_38 (by decide) ?_
          refine g_sub [1, 2, 0] rfl ?_
          exact ok_X11_endOf_L39 l X h a0 a1 v2 (0 : Int32) q hf
        · refine g_icne_f (pc := 31) (tgt := 38) dX11_endOf_31 (by decide) (Decidable.of_not_not c6) ?_
          refine g_sub [1, 2, 0] rfl ?_
          exact ok_X11_endOf_L34 l X h a0 a1 v2 q hf
    · refine g_icne_f (pc := 15) (tgt := 22) dX11_endOf_15 (by decide) (Decidable.of_not_not c4) ?_
      refine g_sub [1, 2, 0] rfl ?_
      exact ok_X11_endOf_L18 l X h a0 a1 v2 q hf
theorem ct_X11_endOf (l : Launch) (X : Cx) {h : AH} {a0 : Nat} {a1 : Int32} {q : Int32} (hf : f_X11_endOf h a0 a1 = some q) : Ct l X k_X11_endOf [rf X a0, .int a1] h (rI (q, h)) := ct_of ck_X11_endOf (by simp [lg_sl, rf_cat, rq_cat, ca_i, ca_l, ca_r]) (by simp [lv_args, rf_cat, rq_cat, ca_i, ca_l, ca_r]) (ok_X11_endOf l X hf)
set_option maxRecDepth 100000 in
set_option maxHeartbeats 4000000 in
theorem ok_X11_isDone_L100 (l : Launch) (X : Cx) (h : AH) (s0 : Int32) (q : Int32 × AH) (hf : f_X11_isDone_L100 h s0 = some q) : Go l X k_X11_isDone 100 [] [.int s0] h (rI q) := by
  unfold f_X11_isDone_L100 at hf
  refine g_goto (pc := 100) (tgt := 110) dX11_isDone_100 (by decide) ?_
  obtain ⟨b1, hf⟩ := gb_some hf
  obtain rfl := Option.some.inj hf
  exact g_zret (pc := 110) rfl b1 dX11_isDone_110
set_option maxRecDepth 100000 in
set_option maxHeartbeats 4000000 in
theorem ok_X11_isDone (l : Launch) (X : Cx) {h : AH} {a0 : Nat} {a1 : Int32} {q : Int32 × AH} (hf : f_X11_isDone h a0 a1 = some q) : Go l X k_X11_isDone 0 [(0, rf X a0), (1, .int a1)] [] h (rI q) := by
  unfold f_X11_isDone at hf
  refine g_aload_n (pc := 0) 0 dX11_isDone_0 rfl rfl ?_
  refine g_iload_n (pc := 1) 1 dX11_isDone_1 rfl rfl ?_
  obtain ⟨g1, hf⟩ := gs_some hf
  obtain ⟨v2, hcv2, hf⟩ := bd_some hf
  refine g_cVI (pc := 2) (k2 := k_X11_see) (av := [.int a1]) (q := (v2, h)) rfl dX11_isDone_2 ck_X11_see m_1667 m_1669 m_60 (ci := 9) rfl (by decide) g1 (by decide) (by decide) rfl (by simp [rf_cat, rq_cat, ca_i, ca_l, ca_r]) (ct_X11_see l X hcv2) ?_
  refine g_istore_n (pc := 5) (L' := [(2, .int v2), (0, rf X a0), (1, .int a1)]) dX11_isDone_5 rfl (by decide) rfl rfl ?_
  refine g_aload_n (pc := 6) 1 dX11_isDone_6 rfl rfl ?_
  refine g_iload_n (pc := 7) 2 dX11_isDone_7 rfl rfl ?_
  refine g_iconst (pc := 8) (v := (1 : Int32)) dX11_isDone_8 (by decide) ?_
  refine g_iadd (pc := 9) dX11_isDone_9 ?_
  obtain ⟨v3, hcv3, hf⟩ := bd_some hf
  refine g_cVI (pc := 10) (k2 := k_X11_digitAt) (av := [.int (a1 + (1 : Int32))]) (q := (v3, h)) rfl dX11_isDone_10 ck_X11_digitAt m_1990 m_1992 m_120 (ci := 9) rfl (by decide) g1 (by decide) (by decide) rfl (by simp [rf_cat, rq_cat, ca_i, ca_l, ca_r]) (ct_X11_digitAt l X hcv3) ?_
  refine g_istore_n (pc := 13) (L' := [(3, .int v3), (2, .int v2), (0, rf X a0), (1, .int a1)]) dX11_isDone_13 rfl (by decide) rfl rfl ?_
  refine g_aload_n (pc := 14) 2 dX11_isDone_14 rfl rfl ?_
  refine g_iload_n (pc := 15) 3 dX11_isDone_15 rfl rfl ?_
  refine g_iconst (pc := 16) (v := (2 : Int32)) dX11_isDone_16 (by decide) ?_
  refine g_iadd (pc := 17) dX11_isDone_17 ?_
  obtain ⟨v4, hcv4, hf⟩ := bd_some hf
  refine g_cVI (pc := 18) (k2 := k_X11_digitAt) (av := [.int (a1 + (2 : Int32))]) (q := (v4, h)) rfl dX11_isDone_18 ck_X11_digitAt m_1990 m_1992 m_120 (ci := 9) rfl (by decide) g1 (by decide) (by decide) rfl (by simp [rf_cat, rq_cat, ca_i, ca_l, ca_r]) (ct_X11_digitAt l X hcv4) ?_
  refine g_istore (pc := 21) (L' := [(4, .int v4), (3, .int v3), (2, .int v2), (0, rf X a0), (1, .int a1)]) dX11_isDone_21 (by decide) rfl rfl ?_
  refine g_iload_n (pc := 23) 2 dX11_isDone_23 rfl rfl ?_
  refine g_bipush (pc := 24) (v := (115 : Int32)) dX11_isDone_24 (by decide) ?_
  rcases it_some hf with ⟨c5, hf⟩ | ⟨c5, hf⟩
  · refine g_icne_t (pc := 26) (tgt := 53) dX11_isDone_26 (by decide) c5 ?_
    refine g_iload_n (pc := 53) 2 dX11_isDone_53 rfl rfl ?_
    refine g_bipush (pc := 54) (v := (100 : Int32)) dX11_isDone_54 (by decide) ?_
    rcases it_some hf with ⟨c6, hf⟩ | ⟨c6, hf⟩
    · refine g_icne_t (pc := 56) (tgt := 83) dX11_isDone_56 (by decide) c6 ?_
      refine g_iload_n (pc := 83) 2 dX11_isDone_83 rfl rfl ?_
      refine g_bipush (pc := 84) (v := (109 : Int32)) dX11_isDone_84 (by decide) ?_
      rcases it_some hf with ⟨c7, hf⟩ | ⟨c7, hf⟩
      · refine g_icne_t (pc := 86) (tgt := 103) dX11_isDone_86 (by decide) c7 ?_
        refine g_aload_n (pc := 103) 3 dX11_isDone_103 rfl rfl ?_
        refine g_iload_n (pc := 104) 1 dX11_isDone_104 rfl rfl ?_
        refine g_iload (pc := 105) 0 dX11_isDone_105 rfl ?_
        obtain ⟨q8, hcq8, hf⟩ := bd_some hf
        refine g_cVI (pc := 107) (k2 := k_X11_bringsOn) (av := [.int v3, .int v4]) (q := q8) rfl dX11_isDone_107 ck_X11_bringsOn m_1971 m_1973 m_118 (ci := 9) rfl (by decide) g1 (by decide) (by decide) rfl (by simp [rf_cat, rq_cat, ca_i, ca_l, ca_r]) (ct_X11_bringsOn l X hcq8) ?_
        obtain ⟨b9, hf⟩ := gb_some hf
        obtain rfl := Option.some.inj hf
        exact g_zret (pc := 110) rfl b9 dX11_isDone_110
      · refine g_icne_f (pc := 86) (tgt := 103) dX11_isDone_86 (by decide) (Decidable.of_not_not c7) ?_
        refine g_aload_n (pc := 89) 3 dX11_isDone_89 rfl rfl ?_
        refine g_bipush (pc := 90) (v := (16 : Int32)) dX11_isDone_90 (by decide) ?_
        refine g_iload_n (pc := 92) 1 dX11_isDone_92 rfl rfl ?_
        refine g_imul (pc := 93) dX11_isDone_93 ?_
        refine g_iload (pc := 94) 0 dX11_isDone_94 rfl ?_
        refine g_iadd (pc := 96) dX11_isDone_96 ?_
        obtain ⟨q10, hcq10, hf⟩ := bd_some hf
        refine g_cVI (pc := 97) (k2 := k_X11_brings) (av := [.int (((16 : Int32) * v3) + v4)]) (q := q10) rfl dX11_isDone_97 ck_X11_brings m_1903 m_1905 m_102 (ci := 9) rfl (by decide) g1 (by decide) (by decide) rfl (by simp [rf_cat, rq_cat, ca_i, ca_l, ca_r]) (ct_X11_brings l X hcq10) ?_
        refine g_sub [] rfl ?_
        exact ok_X11_isDone_L100 l X q10.2 q10.1 q hf
    · refine g_icne_f (pc := 56) (tgt := 83) dX11_isDone_56 (by decide) (Decidable.of_not_not c6) ?_
      refine g_iload_n (pc := 59) 1 dX11_isDone_59 rfl rfl ?_
      refine g_aload_n (pc := 60) 3 dX11_isDone_60 rfl rfl ?_
      refine g_getR (pc := 61) fl_X11_47 dX11_isDone_61 g1 ?_
      refine g_iconst (pc := 64) (v := (0 : Int32)) dX11_isDone_64 (by decide) ?_
      obtain ⟨g11, hf⟩ := gs_some hf
      obtain ⟨b12, hf⟩ := gb_some hf
      refine g_iald (pc := 65) g11 b12 dX11_isDone_65 ?_
      rcases it_some hf with ⟨c13, hf⟩ | ⟨c13, hf⟩
      · refine g_icge_t (pc := 66) (tgt := 81) dX11_isDone_66 (by decide) c13 ?_
        refine g_iconst (pc := 81) (v := (0 : Int32)) dX11_isDone_81 (by decide) ?_
        obtain rfl := Option.some.inj hf
        exact g_zret (pc := 82) rfl rfl dX11_isDone_82
      · refine g_icge_f (pc := 66) (tgt := 81) dX11_isDone_66 (by decide) c13 ?_
        refine g_aload_n (pc := 69) 3 dX11_isDone_69 rfl rfl ?_
        refine g_iload_n (pc := 70) 1 dX11_isDone_70 rfl rfl ?_
        obtain ⟨q14, hcq14, hf⟩ := bd_some hf
        refine g_cVI (pc := 71) (k2 := k_X11_drainOf) (av := [.int v3]) (q := q14) rfl dX11_isDone_71 ck_X11_drainOf m_1895 m_1897 m_101 (ci := 9) rfl (by decide) g1 (by decide) (by decide) rfl (by simp [rf_cat, rq_cat, ca_i, ca_l, ca_r]) (ct_X11_drainOf l X hcq14) ?_
        rcases it_some hf with ⟨c15, hf⟩ | ⟨c15, hf⟩
        · refine g_ifle_t (pc := 74) (tgt := 81) dX11_isDone_74 (by decide) c15 ?_
          refine g_iconst (pc := 81) (v := (0 : Int32)) dX11_isDone_81 (by decide) ?_
          obtain rfl := Option.some.inj hf
          exact g_zret (pc := 82) rfl rfl dX11_isDone_82
        · refine g_ifle_f (pc := 74) (tgt := 81) dX11_isDone_74 (by decide) c15 ?_
          refine g_iconst (pc := 77) (v := (1 : Int32)) dX11_isDone_77 (by decide) ?_
          refine g_goto (pc := 78) (tgt := 82) dX11_isDone_78 (by decide) ?_
          obtain rfl := Option.some.inj hf
          exact g_zret (pc := 82) rfl rfl dX11_isDone_82
  · refine g_icne_f (pc := 26) (tgt := 53) dX11_isDone_26 (by decide) (Decidable.of_not_not c5) ?_
    refine g_iload_n (pc := 29) 1 dX11_isDone_29 rfl rfl ?_
    refine g_aload_n (pc := 30) 3 dX11_isDone_30 rfl rfl ?_
    refine g_getR (pc := 31) fl_X11_47 dX11_isDone_31 g1 ?_
    refine g_iconst (pc := 34) (v := (0 : Int32)) dX11_isDone_34 (by decide) ?_
    obtain ⟨g16, hf⟩ := gs_some hf
    obtain ⟨b17, hf⟩ := gb_some hf
    refine g_iald (pc := 35) g16 b17 dX11_isDone_35 ?_
    rcases it_some hf with ⟨c18, hf⟩ | ⟨c18, hf⟩
    · refine g_icge_t (pc := 36) (tgt := 51) dX11_isDone_36 (by decide) c18 ?_
      refine g_iconst (pc := 51) (v := (0 : Int32)) dX11_isDone_51 (by decide) ?_
      obtain rfl := Option.some.inj hf
      exact g_zret (pc := 52) rfl rfl dX11_isDone_52
    · refine g_icge_f (pc := 36) (tgt := 51) dX11_isDone_36 (by decide) c18 ?_
      refine g_aload_n (pc := 39) 3 dX11_isDone_39 rfl rfl ?_
      refine g_iload_n (pc := 40) 1 dX11_isDone_40 rfl rfl ?_
      obtain ⟨q19, hcq19, hf⟩ := bd_some hf
      refine g_cVI (pc := 41) (k2 := k_X11_stepOf) (av := [.int v3]) (q := q19) rfl dX11_isDone_41 ck_X11_stepOf m_1796 m_1798 m_79 (ci := 9) rfl (by decide) g1 (by decide) (by decide) rfl (by simp [rf_cat, rq_cat, ca_i, ca_l, ca_r]) (ct_X11_stepOf l X hcq19) ?_
      rcases it_some hf with ⟨c20, hf⟩ | ⟨c20, hf⟩
      · refine g_ifle_t (pc := 44) (tgt := 51) dX11_isDone_44 (by decide) c20 ?_
        refine g_iconst (pc := 51) (v := (0 : Int32)) dX11_isDone_51 (by decide) ?_
        obtain rfl := Option.some.inj hf
        exact g_zret (pc := 52) rfl rfl dX11_isDone_52
      · refine g_ifle_f (pc := 44) (tgt := 51) dX11_isDone_44 (by decide) c20 ?_
        refine g_iconst (pc := 47) (v := (1 : Int32)) dX11_isDone_47 (by decide) ?_
        refine g_goto (pc := 48) (tgt := 52) dX11_isDone_48 (by decide) ?_
        obtain rfl := Option.some.inj hf
        exact g_zret (pc := 52) rfl rfl dX11_isDone_52
theorem ct_X11_isDone (l : Launch) (X : Cx) {h : AH} {a0 : Nat} {a1 : Int32} {q : Int32 × AH} (hf : f_X11_isDone h a0 a1 = some q) : Ct l X k_X11_isDone [rf X a0, .int a1] h (rI q) := ct_of ck_X11_isDone (by simp [lg_sl, rf_cat, rq_cat, ca_i, ca_l, ca_r]) (by simp [lv_args, rf_cat, rq_cat, ca_i, ca_l, ca_r]) (ok_X11_isDone l X hf)
set_option maxRecDepth 100000 in
set_option maxHeartbeats 4000000 in
theorem ok_X11_entry_L107 (l : Launch) (X : Cx) (h : AH) (s0 : Nat) (s1 : Int32) (s2 : Int32) (q : AH) (hf : f_X11_entry_L107 h s0 s1 s2 = some q) : Go l X k_X11_entry 107 [] [.int s2, .int s1, rf X s0] h (rV q) := by
  unfold f_X11_entry_L107 at hf
  refine g_iadd (pc := 107) dX11_entry_107 ?_
  obtain ⟨g1, hf⟩ := gs_some hf
  obtain ⟨h2, eh2, hf⟩ := lt_some hf
  refine g_putI (pc := 108) fl_X11_334 dX11_entry_108 g1 eh2 ?_
  obtain rfl := Option.some.inj hf
  exact g_vret (pc := 111) rfl dX11_entry_111
set_option maxRecDepth 100000 in
set_option maxHeartbeats 4000000 in
theorem ok_X11_entry_L70 (l : Launch) (X : Cx) (k2 : AH → Nat → Int32 → Int32 → Option (AH)) (hk2 : ∀ (h : AH) (a0 : Nat) (a1 : Int32) (a2 : Int32) (q : AH), k2 h a0 a1 a2 = some q → Go l X k_X11_entry 2 [(0, rf X a0), (1, .int a1), (2, .int a2)] [] h (rV q)) (h : AH) (a0 : Nat) (a1 : Int32) (a2 : Int32) (s0 : Nat) (s1 : Int32) (s2 : Int32) (q : AH) (hf : f_X11_entry_L70 k2 h a0 a1 a2 s0 s1 s2 = some q) : Go l X k_X11_entry 70 [(0, rf X a0), (1, .int a1), (2, .int a2)] [.int s2, .int s1, rf X s0] h (rV q) := by
  unfold f_X11_entry_L70 at hf
  obtain ⟨g1, hf⟩ := gs_some hf
  obtain ⟨b2, hf⟩ := gb_some hf
  obtain ⟨h3, eh3, hf⟩ := lt_some hf
  refine g_iast (pc := 70) g1 b2 dX11_entry_70 eh3 ?_
  obtain ⟨x4, ex4, hf⟩ := lt_some hf
  refine g_iinc (pc := 71) (y := x4) (L' := [(2, .int x4), (0, rf X a0), (1, .int a1)]) 2 dX11_entry_71 rfl (by decide) (ex4.trans rfl) rfl ?_
  refine g_goto (pc := 74) (tgt := 2) dX11_entry_74 (by decide) ?_
  refine g_sub [1, 2, 0] rfl ?_
  exact hk2 h3 a0 a1 x4 q hf
set_option maxRecDepth 100000 in
set_option maxHeartbeats 4000000 in
theorem ok_X11_entry_L33 (l : Launch) (X : Cx) (k2 : AH → Nat → Int32 → Int32 → Option (AH)) (hk2 : ∀ (h : AH) (a0 : Nat) (a1 : Int32) (a2 : Int32) (q : AH), k2 h a0 a1 a2 = some q → Go l X k_X11_entry 2 [(0, rf X a0), (1, .int a1), (2, .int a2)] [] h (rV q)) (h : AH) (a0 : Nat) (a1 : Int32) (a2 : Int32) (s0 : Nat) (s1 : Int32) (s2 : Int32) (s3 : Int32) (q : AH) (hf : f_X11_entry_L33 k2 h a0 a1 a2 s0 s1 s2 s3 = some q) : Go l X k_X11_entry 33 [(0, rf X a0), (1, .int a1), (2, .int a2)] [.int s3, .int s2, .int s1, rf X s0] h (rV q) := by
  unfold f_X11_entry_L33 at hf
  refine g_iadd (pc := 33) dX11_entry_33 ?_
  obtain ⟨g1, hf⟩ := gs_some hf
  obtain ⟨b2, hf⟩ := gb_some hf
  obtain ⟨h3, eh3, hf⟩ := lt_some hf
  refine g_iast (pc := 34) g1 b2 dX11_entry_34 eh3 ?_
  refine g_aload_n (pc := 35) 0 dX11_entry_35 rfl rfl ?_
  obtain ⟨g4, hf⟩ := gs_some hf
  refine g_getR (pc := 36) fl_X11_99 dX11_entry_36 g4 ?_
  refine g_iload_n (pc := 39) 2 dX11_entry_39 rfl rfl ?_
  refine g_aload_n (pc := 40) 0 dX11_entry_40 rfl rfl ?_
  refine g_getR (pc := 41) fl_X11_96 dX11_entry_41 g4 ?_
  refine g_iload_n (pc := 44) 2 dX11_entry_44 rfl rfl ?_
  obtain ⟨g5, hf⟩ := gs_some hf
  obtain ⟨b6, hf⟩ := gb_some hf
  refine g_iald (pc := 45) g5 b6 dX11_entry_45 ?_
  refine g_aload_n (pc := 46) 0 dX11_entry_46 rfl rfl ?_
  refine g_getR (pc := 47) fl_X11_99 dX11_entry_47 g4 ?_
  refine g_iload_n (pc := 50) 2 dX11_entry_50 rfl rfl ?_
  obtain ⟨g7, hf⟩ := gs_some hf
  obtain ⟨b8, hf⟩ := gb_some hf
  refine g_iald (pc := 51) g7 b8 dX11_entry_51 ?_
  rcases it_some hf with ⟨c9, hf⟩ | ⟨c9, hf⟩
  · refine g_icle_t (pc := 52) (tgt := 64) dX11_entry_52 (by decide) c9 ?_
    refine g_aload_n (pc := 64) 0 dX11_entry_64 rfl rfl ?_
    refine g_getR (pc := 65) fl_X11_99 dX11_entry_65 g4 ?_
    refine g_iload_n (pc := 68) 2 dX11_entry_68 rfl rfl ?_
    obtain ⟨b10, hf⟩ := gb_some hf
    refine g_iald (pc := 69) g7 b10 dX11_entry_69 ?_
    exact ok_X11_entry_L70 l X k2 hk2 h3 a0 a1 a2 (hR h3 a0 38) a2 (hI h3 (hR h3 a0 38) a2.toNatClampNeg) q hf
  · refine g_icle_f (pc := 52) (tgt := 64) dX11_entry_52 (by decide) c9 ?_
    refine g_aload_n (pc := 55) 0 dX11_entry_55 rfl rfl ?_
    refine g_getR (pc := 56) fl_X11_96 dX11_entry_56 g4 ?_
    refine g_iload_n (pc := 59) 2 dX11_entry_59 rfl rfl ?_
    obtain ⟨b11, hf⟩ := gb_some hf
    refine g_iald (pc := 60) g5 b11 dX11_entry_60 ?_
    refine g_goto (pc := 61) (tgt := 70) dX11_entry_61 (by decide) ?_
    exact ok_X11_entry_L70 l X k2 hk2 h3 a0 a1 a2 (hR h3 a0 38) a2 (hI h3 (hR h3 a0 37) a2.toNatClampNeg) q hf
set_option maxRecDepth 100000 in
set_option maxHeartbeats 4000000 in
theorem ok_X11_entry_L2 (l : Launch) (X : Cx) : ∀ (n : Nat) (h : AH) (a0 : Nat) (a1 : Int32) (a2 : Int32) (q : AH), f_X11_entry_L2 n h a0 a1 a2 = some q → Go l X k_X11_entry 2 [(0, rf X a0), (1, .int a1), (2, .int a2)] [] h (rV q) := by
  intro n
  induction n with
  | zero =>
    intro h a0 a1 a2 q hf
    unfold f_X11_entry_L2 at hf
    cases hf
  | succ n ih =>
    intro h a0 a1 a2 q hf
    unfold f_X11_entry_L2 at hf
    refine g_iload_n (pc := 2) 2 dX11_entry_2 rfl rfl ?_
    refine g_aload_n (pc := 3) 0 dX11_entry_3 rfl rfl ?_
    obtain ⟨g1, hf⟩ := gs_some hf
    refine g_getR (pc := 4) fl_X11_47 dX11_entry_4 g1 ?_
    refine g_iconst (pc := 7) (v := (0 : Int32)) dX11_entry_7 (by decide) ?_
    obtain ⟨g2, hf⟩ := gs_some hf
    obtain ⟨b3, hf⟩ := gb_some hf
    refine g_iald (pc := 8) g2 b3 dX11_entry_8 ?_
    rcases it_some hf with ⟨c4, hf⟩ | ⟨c4, hf⟩
    · refine g_icge_t (pc := 9) (tgt := 77) dX11_entry_9 (by decide) c4 ?_
      refine g_aload_n (pc := 77) 0 dX11_entry_77 rfl rfl ?_
      refine g_iload_n (pc := 78) 1 dX11_entry_78 rfl rfl ?_
      obtain ⟨q5, hcq5, hf⟩ := bd_some hf
      refine g_cVI (pc := 79) (k2 := k_X11_isDone) (av := [.int a1]) (q := q5) rfl dX11_entry_79 ck_X11_isDone m_1998 m_2000 m_122 (ci := 9) rfl (by decide) g1 (by decide) (by decide) rfl (by simp [rf_cat, rq_cat, ca_i, ca_l, ca_r]) (ct_X11_isDone l X hcq5) ?_
      obtain ⟨x6, ex6, hf⟩ := lt_some hf
      refine g_istore_n (pc := 82) (L' := [(2, .int x6), (0, rf X a0), (1, .int a1)]) dX11_entry_82 rfl (by decide) ex6 rfl ?_
      refine g_aload_n (pc := 83) 1 dX11_entry_83 rfl rfl ?_
      refine g_dup (pc := 84) dX11_entry_84 (rf_cat X _) ?_
      obtain ⟨g7, hf⟩ := gs_some hf
      refine g_getI (pc := 85) fl_X11_331 dX11_entry_85 g7 ?_
      refine g_iconst (pc := 88) (v := (1 : Int32)) dX11_entry_88 (by decide) ?_
      refine g_iadd (pc := 89) dX11_entry_89 ?_
      obtain ⟨h8, eh8, hf⟩ := lt_some hf
      refine g_putI (pc := 90) fl_X11_331 dX11_entry_90 g7 eh8 ?_
      refine g_aload_n (pc := 93) 1 dX11_entry_93 rfl rfl ?_
      refine g_dup (pc := 94) dX11_entry_94 (rf_cat X _) ?_
      have g9 : hS h8 a0 = 10 := (hS_tI eh8 g7)
      refine g_getI (pc := 95) fl_X11_334 dX11_entry_95 g9 ?_
      refine g_iload_n (pc := 98) 0 dX11_entry_98 rfl rfl ?_
      rcases it_some hf with ⟨c10, hf⟩ | ⟨c10, hf⟩
      · refine g_ifeq_t (pc := 99) (tgt := 106) dX11_entry_99 (by decide) c10 ?_
        refine g_iconst (pc := 106) (v := (1 : Int32)) dX11_entry_106 (by decide) ?_
        refine g_sub [] rfl ?_
        exact ok_X11_entry_L107 l X h8 a0 (hI h8 a0 67) (1 : Int32) q hf
      · refine g_ifeq_f (pc := 99) (tgt := 106) dX11_entry_99 (by decide) c10 ?_
        refine g_iconst (pc := 102) (v := (0 : Int32)) dX11_entry_102 (by decide) ?_
        refine g_goto (pc := 103) (tgt := 107) dX11_entry_103 (by decide) ?_
        refine g_sub [] rfl ?_
        exact ok_X11_entry_L107 l X h8 a0 (hI h8 a0 67) (0 : Int32) q hf
    · refine g_icge_f (pc := 9) (tgt := 77) dX11_entry_9 (by decide) c4 ?_
      refine g_aload_n (pc := 12) 0 dX11_entry_12 rfl rfl ?_
      refine g_getR (pc := 13) fl_X11_96 dX11_entry_13 g1 ?_
      refine g_iload_n (pc := 16) 2 dX11_entry_16 rfl rfl ?_
      refine g_dup2 (pc := 17) dX11_entry_17 rfl (rf_cat X _) ?_
      obtain ⟨g11, hf⟩ := gs_some hf
      obtain ⟨b12, hf⟩ := gb_some hf
      refine g_iald (pc := 18) g11 b12 dX11_entry_18 ?_
      refine g_aload_n (pc := 19) 0 dX11_entry_19 rfl rfl ?_
      refine g_getR (pc := 20) fl_X11_65 dX11_entry_20 g1 ?_
      refine g_iload_n (pc := 23) 2 dX11_entry_23 rfl rfl ?_
      obtain ⟨g13, hf⟩ := gs_some hf
      obtain ⟨b14, hf⟩ := gb_some hf
      refine g_iald (pc := 24) g13 b14 dX11_entry_24 ?_
      rcases it_some hf with ⟨c15, hf⟩ | ⟨c15, hf⟩
      · refine g_ifne_t (pc := 25) (tgt := 32) dX11_entry_25 (by decide) c15 ?_
        refine g_iconst (pc := 32) (v := (0 : Int32)) dX11_entry_32 (by decide) ?_
        exact ok_X11_entry_L33 l X (f_X11_entry_L2 n) ih h a0 a1 a2 (hR h a0 37) a2 (hI h (hR h a0 37) a2.toNatClampNeg) (0 : Int32) q hf
      · refine g_ifne_f (pc := 25) (tgt := 32) dX11_entry_25 (by decide) (Decidable.of_not_not c15) ?_
        refine g_iconst (pc := 28) (v := (1 : Int32)) dX11_entry_28 (by decide) ?_
        refine g_goto (pc := 29) (tgt := 33) dX11_entry_29 (by decide) ?_
        exact ok_X11_entry_L33 l X (f_X11_entry_L2 n) ih h a0 a1 a2 (hR h a0 37) a2 (hI h (hR h a0 37) a2.toNatClampNeg) (1 : Int32) q hf
set_option maxRecDepth 100000 in
set_option maxHeartbeats 4000000 in
theorem ok_X11_entry (l : Launch) (X : Cx) {h : AH} {a0 : Nat} {a1 : Int32} {q : AH} (hf : f_X11_entry h a0 a1 = some q) : Go l X k_X11_entry 0 [(0, rf X a0), (1, .int a1)] [] h (rV q) := by
  unfold f_X11_entry at hf
  refine g_iconst (pc := 0) (v := (0 : Int32)) dX11_entry_0 (by decide) ?_
  obtain ⟨x1, ex1, hf⟩ := lt_some hf
  refine g_istore_n (pc := 1) (L' := [(2, .int x1), (0, rf X a0), (1, .int a1)]) dX11_entry_1 rfl (by decide) ex1 rfl ?_
  refine g_sub [1, 2, 0] rfl ?_
  exact ok_X11_entry_L2 l X FU h a0 a1 x1 q hf
theorem ct_X11_entry (l : Launch) (X : Cx) {h : AH} {a0 : Nat} {a1 : Int32} {q : AH} (hf : f_X11_entry h a0 a1 = some q) : Ct l X k_X11_entry [rf X a0, .int a1] h (rV q) := ct_of ck_X11_entry (by simp [lg_sl, rf_cat, rq_cat, ca_i, ca_l, ca_r]) (by simp [lv_args, rf_cat, rq_cat, ca_i, ca_l, ca_r]) (ok_X11_entry l X hf)
set_option maxRecDepth 100000 in
set_option maxHeartbeats 4000000 in
theorem ok_X11_play_L132 (l : Launch) (X : Cx) (k88 : AH → Nat → Int32 → Int32 → Option (Int32 × AH)) (hk88 : ∀ (h : AH) (a0 : Nat) (a1 : Int32) (a2 : Int32) (q : Int32 × AH), k88 h a0 a1 a2 = some q → Go l X k_X11_play 88 [(0, rf X a0), (1, .int a1), (2, .int a2)] [] h (rI q)) (h : AH) (a0 : Nat) (a2 : Int32) (s0 : Int32) (q : Int32 × AH) (hf : f_X11_play_L132 k88 h a0 a2 s0 = some q) : Go l X k_X11_play 132 [(0, rf X a0), (2, .int a2)] [.int s0] h (rI q) := by
  unfold f_X11_play_L132 at hf
  refine g_istore_n (pc := 132) (L' := [(1, .int s0), (0, rf X a0), (2, .int a2)]) dX11_play_132 rfl (by decide) rfl (by simp [rf_cat, rq_cat]) ?_
  refine g_goto (pc := 133) (tgt := 88) dX11_play_133 (by decide) ?_
  refine g_sub [1, 0, 2] rfl ?_
  exact hk88 h a0 s0 a2 q hf
set_option maxRecDepth 100000 in
set_option maxHeartbeats 4000000 in
theorem ok_X11_play_L111 (l : Launch) (X : Cx) (k88 : AH → Nat → Int32 → Int32 → Option (Int32 × AH)) (hk88 : ∀ (h : AH) (a0 : Nat) (a1 : Int32) (a2 : Int32) (q : Int32 × AH), k88 h a0 a1 a2 = some q → Go l X k_X11_play 88 [(0, rf X a0), (1, .int a1), (2, .int a2)] [] h (rI q)) (h : AH) (a0 : Nat) (a1 : Int32) (a2 : Int32) (q : Int32 × AH) (hf : f_X11_play_L111 k88 h a0 a1 a2 = some q) : Go l X k_X11_play 111 [(0, rf X a0), (1, .int a1), (2, .int a2)] [] h (rI q) := by
  unfold f_X11_play_L111 at hf
  refine g_aload_n (pc := 111) 0 dX11_play_111 rfl rfl ?_
  refine g_iload_n (pc := 112) 1 dX11_play_112 rfl rfl ?_
  obtain ⟨g1, hf⟩ := gs_some hf
  obtain ⟨v2, hcv2, hf⟩ := bd_some hf
  refine g_cVI (pc := 113) (k2 := k_X11_see) (av := [.int a1]) (q := (v2, h)) rfl dX11_play_113 ck_X11_see m_1667 m_1669 m_60 (ci := 9) rfl (by decide) g1 (by decide) (by decide) rfl (by simp [rf_cat, rq_cat, ca_i, ca_l, ca_r]) (ct_X11_see l X hcv2) ?_
  refine g_bipush (pc := 116) (v := (32 : Int32)) dX11_play_116 (by decide) ?_
  rcases it_some hf with ⟨c3, hf⟩ | ⟨c3, hf⟩
  · refine g_icne_t (pc := 118) (tgt := 127) dX11_play_118 (by decide) c3 ?_
    refine g_aload_n (pc := 127) 0 dX11_play_127 rfl rfl ?_
    refine g_iload_n (pc := 128) 1 dX11_play_128 rfl rfl ?_
    obtain ⟨v4, hcv4, hf⟩ := bd_some hf
    refine g_cVI (pc := 129) (k2 := k_X11_endOf) (av := [.int a1]) (q := (v4, h)) rfl dX11_play_129 ck_X11_endOf m_1986 m_1988 m_119 (ci := 9) rfl (by decide) g1 (by decide) (by decide) rfl (by simp [rf_cat, rq_cat, ca_i, ca_l, ca_r]) (ct_X11_endOf l X hcv4) ?_
    refine g_sub [0, 2] rfl ?_
    exact ok_X11_play_L132 l X k88 hk88 h a0 a2 v4 q hf
  · refine g_icne_f (pc := 118) (tgt := 127) dX11_play_118 (by decide) (Decidable.of_not_not c3) ?_
    refine g_iload_n (pc := 121) 1 dX11_play_121 rfl rfl ?_
    refine g_iconst (pc := 122) (v := (1 : Int32)) dX11_play_122 (by decide) ?_
    refine g_iadd (pc := 123) dX11_play_123 ?_
    refine g_goto (pc := 124) (tgt := 132) dX11_play_124 (by decide) ?_
    refine g_sub [0, 2] rfl ?_
    exact ok_X11_play_L132 l X k88 hk88 h a0 a2 (a1 + (1 : Int32)) q hf
set_option maxRecDepth 100000 in
set_option maxHeartbeats 4000000 in
theorem ok_X11_play_L88 (l : Launch) (X : Cx) : ∀ (n : Nat) (h : AH) (a0 : Nat) (a1 : Int32) (a2 : Int32) (q : Int32 × AH), f_X11_play_L88 n h a0 a1 a2 = some q → Go l X k_X11_play 88 [(0, rf X a0), (1, .int a1), (2, .int a2)] [] h (rI q) := by
  intro n
  induction n with
  | zero =>
    intro h a0 a1 a2 q hf
    unfold f_X11_play_L88 at hf
    cases hf
  | succ n ih =>
    intro h a0 a1 a2 q hf
    unfold f_X11_play_L88 at hf
    refine g_iload_n (pc := 88) 1 dX11_play_88 rfl rfl ?_
    refine g_aload_n (pc := 89) 0 dX11_play_89 rfl rfl ?_
    obtain ⟨g1, hf⟩ := gs_some hf
    refine g_getI (pc := 90) fl_X11_337 dX11_play_90 g1 ?_
    rcases it_some hf with ⟨c2, hf⟩ | ⟨c2, hf⟩
    · refine g_icge_t (pc := 93) (tgt := 136) dX11_play_93 (by decide) c2 ?_
      refine g_aload_n (pc := 136) 0 dX11_play_136 rfl rfl ?_
      refine g_iconst (pc := 137) (v := (0 : Int32)) dX11_play_137 (by decide) ?_
      obtain ⟨h3, eh3, hf⟩ := lt_some hf
      refine g_putI (pc := 138) fl_X11_337 dX11_play_138 g1 eh3 ?_
      refine g_aload_n (pc := 141) 0 dX11_play_141 rfl rfl ?_
      have g4 : hS h3 a0 = 10 := (hS_tI eh3 g1)
      refine g_getI (pc := 142) fl_X11_334 dX11_play_142 g4 ?_
      refine g_iload_n (pc := 145) 2 dX11_play_145 rfl rfl ?_
      refine g_isub (pc := 146) dX11_play_146 ?_
      obtain rfl := Option.some.inj hf
      exact g_iret (pc := 147) rfl dX11_play_147
    · refine g_icge_f (pc := 93) (tgt := 136) dX11_play_93 (by decide) c2 ?_
      refine g_aload_n (pc := 96) 0 dX11_play_96 rfl rfl ?_
      refine g_iload_n (pc := 97) 1 dX11_play_97 rfl rfl ?_
      obtain ⟨v5, hcv5, hf⟩ := bd_some hf
      refine g_cVI (pc := 98) (k2 := k_X11_see) (av := [.int a1]) (q := (v5, h)) rfl dX11_play_98 ck_X11_see m_1667 m_1669 m_60 (ci := 9) rfl (by decide) g1 (by decide) (by decide) rfl (by simp [rf_cat, rq_cat, ca_i, ca_l, ca_r]) (ct_X11_see l X hcv5) ?_
      refine g_bipush (pc := 101) (v := (32 : Int32)) dX11_play_101 (by decide) ?_
      rcases it_some hf with ⟨c6, hf⟩ | ⟨c6, hf⟩
      · refine g_iceq_t (pc := 103) (tgt := 111) dX11_play_103 (by decide) c6 ?_
        exact ok_X11_play_L111 l X (f_X11_play_L88 n) ih h a0 a1 a2 q hf
      · refine g_iceq_f (pc := 103) (tgt := 111) dX11_play_103 (by decide) c6 ?_
        refine g_aload_n (pc := 106) 0 dX11_play_106 rfl rfl ?_
        refine g_iload_n (pc := 107) 1 dX11_play_107 rfl rfl ?_
        obtain ⟨q7, hcq7, hf⟩ := bd_some hf
        refine g_cVV (pc := 108) (k2 := k_X11_entry) (av := [.int a1]) (q := q7) rfl dX11_play_108 ck_X11_entry m_1994 m_1996 m_121 (ci := 9) rfl (by decide) g1 (by decide) (by decide) rfl (by simp [rf_cat, rq_cat, ca_i, ca_l, ca_r]) (ct_X11_entry l X hcq7) ?_
        exact ok_X11_play_L111 l X (f_X11_play_L88 n) ih q7 a0 a1 a2 q hf
set_option maxRecDepth 100000 in
set_option maxHeartbeats 4000000 in
theorem ok_X11_play_L49 (l : Launch) (X : Cx) (h : AH) (a0 : Nat) (a1 : Int32) (q : Int32 × AH) (hf : f_X11_play_L49 h a0 a1 = some q) : Go l X k_X11_play 49 [(0, rf X a0), (1, .int a1)] [] h (rI q) := by
  unfold f_X11_play_L49 at hf
  refine g_iload_n (pc := 49) 1 dX11_play_49 rfl rfl ?_
  rcases it_some hf with ⟨c1, hf⟩ | ⟨c1, hf⟩
  · refine g_ifge_t (pc := 50) (tgt := 76) dX11_play_50 (by decide) c1 ?_
    refine g_aload_n (pc := 76) 0 dX11_play_76 rfl rfl ?_
    refine g_iconst (pc := 77) (v := (0 : Int32)) dX11_play_77 (by decide) ?_
    obtain ⟨g2, hf⟩ := gs_some hf
    obtain ⟨h3, eh3, hf⟩ := lt_some hf
    refine g_putI (pc := 78) fl_X11_306 dX11_play_78 g2 eh3 ?_
    refine g_aload_n (pc := 81) 0 dX11_play_81 rfl rfl ?_
    have g4 : hS h3 a0 = 10 := (hS_tI eh3 g2)
    refine g_getI (pc := 82) fl_X11_334 dX11_play_82 g4 ?_
    obtain ⟨x5, ex5, hf⟩ := lt_some hf
    refine g_istore_n (pc := 85) (L' := [(2, .int x5), (0, rf X a0), (1, .int a1)]) dX11_play_85 rfl (by decide) ex5 rfl ?_
    refine g_iconst (pc := 86) (v := (0 : Int32)) dX11_play_86 (by decide) ?_
    obtain ⟨x6, ex6, hf⟩ := lt_some hf
    refine g_istore_n (pc := 87) (L' := [(1, .int x6), (2, .int x5), (0, rf X a0)]) dX11_play_87 rfl (by decide) ex6 (by simp [rf_cat, rq_cat]) ?_
    refine g_sub [2, 0, 1] rfl ?_
    exact ok_X11_play_L88 l X FU h3 a0 x6 x5 q hf
  · refine g_ifge_f (pc := 50) (tgt := 76) dX11_play_50 (by decide) c1 ?_
    refine g_aload_n (pc := 53) 0 dX11_play_53 rfl rfl ?_
    refine g_iconst (pc := 54) (v := (4 : Int32)) dX11_play_54 (by decide) ?_
    obtain ⟨g7, hf⟩ := gs_some hf
    obtain ⟨h8, eh8, hf⟩ := lt_some hf
    refine g_putI (pc := 55) fl_X11_372 dX11_play_55 g7 eh8 ?_
    refine g_aload_n (pc := 58) 0 dX11_play_58 rfl rfl ?_
    refine g_iconst (pc := 59) (v := (-1 : Int32)) dX11_play_59 (by decide) ?_
    refine g_iload_n (pc := 60) 1 dX11_play_60 rfl rfl ?_
    refine g_isub (pc := 61) dX11_play_61 ?_
    have g9 : hS h8 a0 = 10 := (hS_tI eh8 g7)
    obtain ⟨h10, eh10, hf⟩ := lt_some hf
    refine g_putI (pc := 62) fl_X11_375 dX11_play_62 g9 eh10 ?_
    refine g_aload_n (pc := 65) 0 dX11_play_65 rfl rfl ?_
    refine g_iconst (pc := 66) (v := (0 : Int32)) dX11_play_66 (by decide) ?_
    have g11 : hS h10 a0 = 10 := (hS_tI eh10 g9)
    obtain ⟨h12, eh12, hf⟩ := lt_some hf
    refine g_putI (pc := 67) fl_X11_337 dX11_play_67 g11 eh12 ?_
    refine g_aload_n (pc := 70) 0 dX11_play_70 rfl rfl ?_
    refine g_iconst (pc := 71) (v := (1 : Int32)) dX11_play_71 (by decide) ?_
    have g13 : hS h12 a0 = 10 := (hS_tI eh12 g11)
    obtain ⟨q14, hcq14, hf⟩ := bd_some hf
    refine g_cVI (pc := 72) (k2 := k_X11_raise) (av := [.int (1 : Int32)]) (q := q14) rfl dX11_play_72 ck_X11_raise m_1780 m_1782 m_77 (ci := 9) rfl (by decide) g13 (by decide) (by decide) rfl (by simp [rf_cat, rq_cat, ca_i, ca_l, ca_r]) (ct_X11_raise l X hcq14) ?_
    obtain rfl := Option.some.inj hf
    exact g_iret (pc := 75) rfl dX11_play_75
set_option maxRecDepth 100000 in
set_option maxHeartbeats 4000000 in
theorem ok_X11_play_L45 (l : Launch) (X : Cx) (k12 : AH → Nat → Int32 → Option (Int32 × AH)) (hk12 : ∀ (h : AH) (a0 : Nat) (a1 : Int32) (q : Int32 × AH), k12 h a0 a1 = some q → Go l X k_X11_play 12 [(0, rf X a0), (1, .int a1)] [] h (rI q)) (h : AH) (a0 : Nat) (s0 : Int32) (q : Int32 × AH) (hf : f_X11_play_L45 k12 h a0 s0 = some q) : Go l X k_X11_play 45 [(0, rf X a0)] [.int s0] h (rI q) := by
  unfold f_X11_play_L45 at hf
  refine g_istore_n (pc := 45) (L' := [(1, .int s0), (0, rf X a0)]) dX11_play_45 rfl (by decide) rfl (by simp [rf_cat, rq_cat]) ?_
  refine g_goto (pc := 46) (tgt := 12) dX11_play_46 (by decide) ?_
  refine g_sub [1, 0] rfl ?_
  exact hk12 h a0 s0 q hf
set_option maxRecDepth 100000 in
set_option maxHeartbeats 4000000 in
theorem ok_X11_play_L12 (l : Launch) (X : Cx) : ∀ (n : Nat) (h : AH) (a0 : Nat) (a1 : Int32) (q : Int32 × AH), f_X11_play_L12 n h a0 a1 = some q → Go l X k_X11_play 12 [(0, rf X a0), (1, .int a1)] [] h (rI q) := by
  intro n
  induction n with
  | zero =>
    intro h a0 a1 q hf
    unfold f_X11_play_L12 at hf
    cases hf
  | succ n ih =>
    intro h a0 a1 q hf
    unfold f_X11_play_L12 at hf
    refine g_iload_n (pc := 12) 1 dX11_play_12 rfl rfl ?_
    rcases it_some hf with ⟨c1, hf⟩ | ⟨c1, hf⟩
    · refine g_iflt_t (pc := 13) (tgt := 49) dX11_play_13 (by decide) c1 ?_
      exact ok_X11_play_L49 l X h a0 a1 q hf
    · refine g_iflt_f (pc := 13) (tgt := 49) dX11_play_13 (by decide) c1 ?_
      refine g_iload_n (pc := 16) 1 dX11_play_16 rfl rfl ?_
      refine g_aload_n (pc := 17) 0 dX11_play_17 rfl rfl ?_
      obtain ⟨g2, hf⟩ := gs_some hf
      refine g_getI (pc := 18) fl_X11_337 dX11_play_18 g2 ?_
      rcases it_some hf with ⟨c3, hf⟩ | ⟨c3, hf⟩
      · refine g_icge_t (pc := 21) (tgt := 49) dX11_play_21 (by decide) c3 ?_
        exact ok_X11_play_L49 l X h a0 a1 q hf
      · refine g_icge_f (pc := 21) (tgt := 49) dX11_play_21 (by decide) c3 ?_
        refine g_aload_n (pc := 24) 0 dX11_play_24 rfl rfl ?_
        refine g_iload_n (pc := 25) 1 dX11_play_25 rfl rfl ?_
        obtain ⟨v4, hcv4, hf⟩ := bd_some hf
        refine g_cVI (pc := 26) (k2 := k_X11_see) (av := [.int a1]) (q := (v4, h)) rfl dX11_play_26 ck_X11_see m_1667 m_1669 m_60 (ci := 9) rfl (by decide) g2 (by decide) (by decide) rfl (by simp [rf_cat, rq_cat, ca_i, ca_l, ca_r]) (ct_X11_see l X hcv4) ?_
        refine g_bipush (pc := 29) (v := (32 : Int32)) dX11_play_29 (by decide) ?_
        rcases it_some hf with ⟨c5, hf⟩ | ⟨c5, hf⟩
        · refine g_icne_t (pc := 31) (tgt := 40) dX11_play_31 (by decide) c5 ?_
          refine g_aload_n (pc := 40) 0 dX11_play_40 rfl rfl ?_
          refine g_iload_n (pc := 41) 1 dX11_play_41 rfl rfl ?_
          obtain ⟨v6, hcv6, hf⟩ := bd_some hf
          refine g_cVI (pc := 42) (k2 := k_X11_endOf) (av := [.int a1]) (q := (v6, h)) rfl dX11_play_42 ck_X11_endOf m_1986 m_1988 m_119 (ci := 9) rfl (by decide) g2 (by decide) (by decide) rfl (by simp [rf_cat, rq_cat, ca_i, ca_l, ca_r]) (ct_X11_endOf l X hcv6) ?_
          refine g_sub [0] rfl ?_
          exact ok_X11_play_L45 l X (f_X11_play_L12 n) ih h a0 v6 q hf
        · refine g_icne_f (pc := 31) (tgt := 40) dX11_play_31 (by decide) (Decidable.of_not_not c5) ?_
          refine g_iload_n (pc := 34) 1 dX11_play_34 rfl rfl ?_
          refine g_iconst (pc := 35) (v := (1 : Int32)) dX11_play_35 (by decide) ?_
          refine g_iadd (pc := 36) dX11_play_36 ?_
          refine g_goto (pc := 37) (tgt := 45) dX11_play_37 (by decide) ?_
          refine g_sub [0] rfl ?_
          exact ok_X11_play_L45 l X (f_X11_play_L12 n) ih h a0 (a1 + (1 : Int32)) q hf
set_option maxRecDepth 100000 in
set_option maxHeartbeats 4000000 in
theorem ok_X11_play (l : Launch) (X : Cx) {h : AH} {a0 : Nat} {q : Int32 × AH} (hf : f_X11_play h a0 = some q) : Go l X k_X11_play 0 [(0, rf X a0)] [] h (rI q) := by
  unfold f_X11_play at hf
  refine g_aload_n (pc := 0) 0 dX11_play_0 rfl rfl ?_
  refine g_iconst (pc := 1) (v := (0 : Int32)) dX11_play_1 (by decide) ?_
  obtain ⟨g1, hf⟩ := gs_some hf
  obtain ⟨h2, eh2, hf⟩ := lt_some hf
  refine g_putI (pc := 2) fl_X11_372 dX11_play_2 g1 eh2 ?_
  refine g_aload_n (pc := 5) 0 dX11_play_5 rfl rfl ?_
  refine g_iconst (pc := 6) (v := (0 : Int32)) dX11_play_6 (by decide) ?_
  have g3 : hS h2 a0 = 10 := (hS_tI eh2 g1)
  obtain ⟨h4, eh4, hf⟩ := lt_some hf
  refine g_putI (pc := 7) fl_X11_375 dX11_play_7 g3 eh4 ?_
  refine g_iconst (pc := 10) (v := (0 : Int32)) dX11_play_10 (by decide) ?_
  obtain ⟨x5, ex5, hf⟩ := lt_some hf
  refine g_istore_n (pc := 11) (L' := [(1, .int x5), (0, rf X a0)]) dX11_play_11 rfl (by decide) ex5 (by simp [rf_cat, rq_cat]) ?_
  refine g_sub [1, 0] rfl ?_
  exact ok_X11_play_L12 l X FU h4 a0 x5 q hf
theorem ct_X11_play (l : Launch) (X : Cx) {h : AH} {a0 : Nat} {q : Int32 × AH} (hf : f_X11_play h a0 = some q) : Ct l X k_X11_play [rf X a0] h (rI q) := ct_of ck_X11_play (by simp [lg_sl, rf_cat, rq_cat, ca_i, ca_l, ca_r]) (by simp [lv_args, rf_cat, rq_cat, ca_i, ca_l, ca_r]) (ok_X11_play l X hf)
set_option maxRecDepth 100000 in
set_option maxHeartbeats 4000000 in
theorem ok_X11_trace_L57 (l : Launch) (X : Cx) (h : AH) (a0 : Nat) (a1 : Int32) (a2 : Int32) (a3 : Int32) (s0 : Int32) (q : Int32 × AH) (hf : f_X11_trace_L57 h a0 a1 a2 a3 s0 = some q) : Go l X k_X11_trace 57 [(0, rf X a0), (1, .int a1), (2, .int a2), (3, .int a3)] [.int s0] h (rI q) := by
  unfold f_X11_trace_L57 at hf
  refine g_istore (pc := 57) (L' := [(4, .int s0), (0, rf X a0), (1, .int a1), (2, .int a2), (3, .int a3)]) dX11_trace_57 (by decide) rfl rfl ?_
  refine g_iload (pc := 59) 0 dX11_trace_59 rfl ?_
  rcases it_some hf with ⟨c1, hf⟩ | ⟨c1, hf⟩
  · refine g_ifne_t (pc := 61) (tgt := 70) dX11_trace_61 (by decide) c1 ?_
    refine g_aload_n (pc := 70) 1 dX11_trace_70 rfl rfl ?_
    refine g_iconst (pc := 71) (v := (0 : Int32)) dX11_trace_71 (by decide) ?_
    obtain ⟨g2, hf⟩ := gs_some hf
    obtain ⟨h3, eh3, hf⟩ := lt_some hf
    refine g_putI (pc := 72) fl_X11_306 dX11_trace_72 g2 eh3 ?_
    refine g_aload_n (pc := 75) 1 dX11_trace_75 rfl rfl ?_
    have g4 : hS h3 a0 = 10 := (hS_tI eh3 g2)
    refine g_getR (pc := 76) fl_X11_68 dX11_trace_76 g4 ?_
    refine g_iload_n (pc := 79) 2 dX11_trace_79 rfl rfl ?_
    obtain ⟨g5, hf⟩ := gs_some hf
    obtain ⟨b6, hf⟩ := gb_some hf
    refine g_iald (pc := 80) g5 b6 dX11_trace_80 ?_
    refine g_iconst (pc := 81) (v := (1 : Int32)) dX11_trace_81 (by decide) ?_
    refine g_isub (pc := 82) dX11_trace_82 ?_
    refine g_iload_n (pc := 83) 3 dX11_trace_83 rfl rfl ?_
    refine g_isub (pc := 84) dX11_trace_84 ?_
    obtain ⟨x7, ex7, hf⟩ := lt_some hf
    refine g_istore (pc := 85) (L' := [(5, .int x7), (4, .int s0), (0, rf X a0), (1, .int a1), (2, .int a2), (3, .int a3)]) dX11_trace_85 (by decide) ex7 rfl ?_
    refine g_iload_n (pc := 87) 5 dX11_trace_87 rfl rfl ?_
    refine g_bipush (pc := 88) (v := (7 : Int32)) dX11_trace_88 (by decide) ?_
    rcases it_some hf with ⟨c8, hf⟩ | ⟨c8, hf⟩
    · refine g_icne_t (pc := 90) (tgt := 98) dX11_trace_90 (by decide) c8 ?_
      refine g_aload_n (pc := 98) 2 dX11_trace_98 rfl rfl ?_
      refine g_getR (pc := 99) fl_X11_102 dX11_trace_99 g4 ?_
      refine g_bipush (pc := 102) (v := (7 : Int32)) dX11_trace_102 (by decide) ?_
      refine g_bipush (pc := 104) (v := (32 : Int32)) dX11_trace_104 (by decide) ?_
      refine g_iload_n (pc := 106) 3 dX11_trace_106 rfl rfl ?_
      refine g_imul (pc := 107) dX11_trace_107 ?_
      refine g_iload (pc := 108) 0 dX11_trace_108 rfl ?_
      refine g_bipush (pc := 110) (v := (32 : Int32)) dX11_trace_110 (by decide) ?_
      refine g_irem (pc := 112) (by decide) dX11_trace_112 ?_
      refine g_iadd (pc := 113) dX11_trace_113 ?_
      refine g_imul (pc := 114) dX11_trace_114 ?_
      refine g_iload_n (pc := 115) 5 dX11_trace_115 rfl rfl ?_
      refine g_iadd (pc := 116) dX11_trace_116 ?_
      obtain ⟨g9, hf⟩ := gs_some hf
      obtain ⟨b10, hf⟩ := gb_some hf
      refine g_iald (pc := 117) g9 b10 dX11_trace_117 ?_
      obtain rfl := Option.some.inj hf
      exact g_iret (pc := 118) rfl dX11_trace_118
    · refine g_icne_f (pc := 90) (tgt := 98) dX11_trace_90 (by decide) (Decidable.of_not_not c8) ?_
      refine g_iload (pc := 93) 0 dX11_trace_93 rfl ?_
      refine g_goto (pc := 95) (tgt := 118) dX11_trace_95 (by decide) ?_
      obtain rfl := Option.some.inj hf
      exact g_iret (pc := 118) rfl dX11_trace_118
  · refine g_ifne_f (pc := 61) (tgt := 70) dX11_trace_61 (by decide) (Decidable.of_not_not c1) ?_
    refine g_aload_n (pc := 64) 1 dX11_trace_64 rfl rfl ?_
    refine g_iconst (pc := 65) (v := (1 : Int32)) dX11_trace_65 (by decide) ?_
    obtain ⟨g11, hf⟩ := gs_some hf
    obtain ⟨q12, hcq12, hf⟩ := bd_some hf
    refine g_cVI (pc := 66) (k2 := k_X11_raise) (av := [.int (1 : Int32)]) (q := q12) rfl dX11_trace_66 ck_X11_raise m_1780 m_1782 m_77 (ci := 9) rfl (by decide) g11 (by decide) (by decide) rfl (by simp [rf_cat, rq_cat, ca_i, ca_l, ca_r]) (ct_X11_raise l X hcq12) ?_
    obtain rfl := Option.some.inj hf
    exact g_iret (pc := 69) rfl dX11_trace_69
set_option maxRecDepth 100000 in
set_option maxHeartbeats 4000000 in
theorem ok_X11_trace_L56 (l : Launch) (X : Cx) (h : AH) (a0 : Nat) (a1 : Int32) (a2 : Int32) (a3 : Int32) (q : Int32 × AH) (hf : f_X11_trace_L56 h a0 a1 a2 a3 = some q) : Go l X k_X11_trace 56 [(0, rf X a0), (1, .int a1), (2, .int a2), (3, .int a3)] [] h (rI q) := by
  unfold f_X11_trace_L56 at hf
  refine g_iconst (pc := 56) (v := (0 : Int32)) dX11_trace_56 (by decide) ?_
  exact ok_X11_trace_L57 l X h a0 a1 a2 a3 (0 : Int32) q hf
set_option maxRecDepth 100000 in
set_option maxHeartbeats 4000000 in
theorem ok_X11_trace_L38 (l : Launch) (X : Cx) (h : AH) (a0 : Nat) (a1 : Int32) (a2 : Int32) (a3 : Int32) (s0 : Int32) (s1 : Nat) (s2 : Int32) (q : Int32 × AH) (hf : f_X11_trace_L38 h a0 a1 a2 a3 s0 s1 s2 = some q) : Go l X k_X11_trace 38 [(0, rf X a0), (1, .int a1), (2, .int a2), (3, .int a3)] [.int s2, rf X s1, .int s0] h (rI q) := by
  unfold f_X11_trace_L38 at hf
  obtain ⟨g1, hf⟩ := gs_some hf
  obtain ⟨b2, hf⟩ := gb_some hf
  refine g_iald (pc := 38) g1 b2 dX11_trace_38 ?_
  rcases it_some hf with ⟨c3, hf⟩ | ⟨c3, hf⟩
  · refine g_icge_t (pc := 39) (tgt := 56) dX11_trace_39 (by decide) c3 ?_
    exact ok_X11_trace_L56 l X h a0 a1 a2 a3 q hf
  · refine g_icge_f (pc := 39) (tgt := 56) dX11_trace_39 (by decide) c3 ?_
    refine g_iload_n (pc := 42) 3 dX11_trace_42 rfl rfl ?_
    rcases it_some hf with ⟨c4, hf⟩ | ⟨c4, hf⟩
    · refine g_iflt_t (pc := 43) (tgt := 56) dX11_trace_43 (by decide) c4 ?_
      exact ok_X11_trace_L56 l X h a0 a1 a2 a3 q hf
    · refine g_iflt_f (pc := 43) (tgt := 56) dX11_trace_43 (by decide) c4 ?_
      refine g_iload_n (pc := 46) 3 dX11_trace_46 rfl rfl ?_
      refine g_bipush (pc := 47) (v := (8 : Int32)) dX11_trace_47 (by decide) ?_
      rcases it_some hf with ⟨c5, hf⟩ | ⟨c5, hf⟩
      · refine g_icge_t (pc := 49) (tgt := 56) dX11_trace_49 (by decide) c5 ?_
        exact ok_X11_trace_L56 l X h a0 a1 a2 a3 q hf
      · refine g_icge_f (pc := 49) (tgt := 56) dX11_trace_49 (by decide) c5 ?_
        refine g_iconst (pc := 52) (v := (1 : Int32)) dX11_trace_52 (by decide) ?_
        refine g_goto (pc := 53) (tgt := 57) dX11_trace_53 (by decide) ?_
        exact ok_X11_trace_L57 l X h a0 a1 a2 a3 (1 : Int32) q hf
set_option maxRecDepth 100000 in
set_option maxHeartbeats 4000000 in
theorem ok_X11_trace_L33 (l : Launch) (X : Cx) (h : AH) (a0 : Nat) (a1 : Int32) (a2 : Int32) (a3 : Int32) (s0 : Int32) (s1 : Nat) (q : Int32 × AH) (hf : f_X11_trace_L33 h a0 a1 a2 a3 s0 s1 = some q) : Go l X k_X11_trace 33 [(0, rf X a0), (1, .int a1), (2, .int a2), (3, .int a3)] [rf X s1, .int s0] h (rI q) := by
  unfold f_X11_trace_L33 at hf
  refine g_iconst (pc := 33) (v := (0 : Int32)) dX11_trace_33 (by decide) ?_
  refine g_goto (pc := 34) (tgt := 38) dX11_trace_34 (by decide) ?_
  exact ok_X11_trace_L38 l X h a0 a1 a2 a3 s0 s1 (0 : Int32) q hf
set_option maxRecDepth 100000 in
set_option maxHeartbeats 4000000 in
theorem ok_X11_trace (l : Launch) (X : Cx) {h : AH} {a0 : Nat} {a1 : Int32} {a2 : Int32} {a3 : Int32} {q : Int32 × AH} (hf : f_X11_trace h a0 a1 a2 a3 = some q) : Go l X k_X11_trace 0 [(0, rf X a0), (1, .int a1), (2, .int a2), (3, .int a3)] [] h (rI q) := by
  unfold f_X11_trace at hf
  refine g_aload_n (pc := 0) 0 dX11_trace_0 rfl rfl ?_
  refine g_iload_n (pc := 1) 1 dX11_trace_1 rfl rfl ?_
  obtain ⟨g1, hf⟩ := gs_some hf
  obtain ⟨v2, hcv2, hf⟩ := bd_some hf
  refine g_cVI (pc := 2) (k2 := k_X11_isCore) (av := [.int a1]) (q := (v2, h)) rfl dX11_trace_2 ck_X11_isCore m_1792 m_1794 m_78 (ci := 9) rfl (by decide) g1 (by decide) (by decide) rfl (by simp [rf_cat, rq_cat, ca_i, ca_l, ca_r]) (ct_X11_isCore l X hcv2) ?_
  rcases it_some hf with ⟨c3, hf⟩ | ⟨c3, hf⟩
  · refine g_ifeq_t (pc := 5) (tgt := 56) dX11_trace_5 (by decide) c3 ?_
    exact ok_X11_trace_L56 l X h a0 a1 a2 a3 q hf
  · refine g_ifeq_f (pc := 5) (tgt := 56) dX11_trace_5 (by decide) c3 ?_
    refine g_iload_n (pc := 8) 2 dX11_trace_8 rfl rfl ?_
    rcases it_some hf with ⟨c4, hf⟩ | ⟨c4, hf⟩
    · refine g_iflt_t (pc := 9) (tgt := 56) dX11_trace_9 (by decide) c4 ?_
      exact ok_X11_trace_L56 l X h a0 a1 a2 a3 q hf
    · refine g_iflt_f (pc := 9) (tgt := 56) dX11_trace_9 (by decide) c4 ?_
      refine g_iload_n (pc := 12) 2 dX11_trace_12 rfl rfl ?_
      refine g_bipush (pc := 13) (v := (32 : Int32)) dX11_trace_13 (by decide) ?_
      rcases it_some hf with ⟨c5, hf⟩ | ⟨c5, hf⟩
      · refine g_icge_t (pc := 15) (tgt := 56) dX11_trace_15 (by decide) c5 ?_
        exact ok_X11_trace_L56 l X h a0 a1 a2 a3 q hf
      · refine g_icge_f (pc := 15) (tgt := 56) dX11_trace_15 (by decide) c5 ?_
        refine g_iload_n (pc := 18) 2 dX11_trace_18 rfl rfl ?_
        refine g_aload_n (pc := 19) 0 dX11_trace_19 rfl rfl ?_
        refine g_getR (pc := 20) fl_X11_68 dX11_trace_20 g1 ?_
        refine g_iload_n (pc := 23) 1 dX11_trace_23 rfl rfl ?_
        rcases it_some hf with ⟨c6, hf⟩ | ⟨c6, hf⟩
        · refine g_iflt_t (pc := 24) (tgt := 33) dX11_trace_24 (by decide) c6 ?_
          exact ok_X11_trace_L33 l X h a0 a1 a2 a3 a2 (hR h a0 28) q hf
        · refine g_iflt_f (pc := 24) (tgt := 33) dX11_trace_24 (by decide) c6 ?_
          refine g_iload_n (pc := 27) 1 dX11_trace_27 rfl rfl ?_
          refine g_bipush (pc := 28) (v := (16 : Int32)) dX11_trace_28 (by decide) ?_
          rcases it_some hf with ⟨c7, hf⟩ | ⟨c7, hf⟩
          · refine g_iclt_t (pc := 30) (tgt := 37) dX11_trace_30 (by decide) c7 ?_
            refine g_iload_n (pc := 37) 1 dX11_trace_37 rfl rfl ?_
            exact ok_X11_trace_L38 l X h a0 a1 a2 a3 a2 (hR h a0 28) a1 q hf
          · refine g_iclt_f (pc := 30) (tgt := 37) dX11_trace_30 (by decide) c7 ?_
            exact ok_X11_trace_L33 l X h a0 a1 a2 a3 a2 (hR h a0 28) q hf
theorem ct_X11_trace (l : Launch) (X : Cx) {h : AH} {a0 : Nat} {a1 : Int32} {a2 : Int32} {a3 : Int32} {q : Int32 × AH} (hf : f_X11_trace h a0 a1 a2 a3 = some q) : Ct l X k_X11_trace [rf X a0, .int a1, .int a2, .int a3] h (rI q) := ct_of ck_X11_trace (by simp [lg_sl, rf_cat, rq_cat, ca_i, ca_l, ca_r]) (by simp [lv_args, rf_cat, rq_cat, ca_i, ca_l, ca_r]) (ok_X11_trace l X hf)
set_option maxRecDepth 100000 in
set_option maxHeartbeats 4000000 in
theorem ok_X11_core_L108 (l : Launch) (X : Cx) (h : AH) (a0 : Nat) (a1 : Int32) (a2 : Int32) (q : Int32 × AH) (hf : f_X11_core_L108 h a0 a1 a2 = some q) : Go l X k_X11_core 108 [(0, rf X a0), (1, .int a1), (2, .int a2)] [] h (rI q) := by
  unfold f_X11_core_L108 at hf
  refine g_iload_n (pc := 108) 2 dX11_core_108 rfl rfl ?_
  rcases it_some hf with ⟨c1, hf⟩ | ⟨c1, hf⟩
  · refine g_tsw (pc := 109) (tgt := 160) (32 : Int32) dX11_core_109 c1 (by decide +kernel) (by decide +kernel) (off := 51) (by decide +kernel) (by decide) ?_
    refine g_aload_n (pc := 160) 0 dX11_core_160 rfl rfl ?_
    obtain ⟨g2, hf⟩ := gs_some hf
    refine g_getR (pc := 161) fl_X11_62 dX11_core_161 g2 ?_
    refine g_iload_n (pc := 164) 1 dX11_core_164 rfl rfl ?_
    obtain ⟨g3, hf⟩ := gs_some hf
    obtain ⟨b4, hf⟩ := gb_some hf
    refine g_iald (pc := 165) g3 b4 dX11_core_165 ?_
    obtain rfl := Option.some.inj hf
    exact g_iret (pc := 166) rfl dX11_core_166
  ·
    rcases it_some hf with ⟨c5, hf⟩ | ⟨c5, hf⟩
    · refine g_tsw (pc := 109) (tgt := 167) (33 : Int32) dX11_core_109 c5 (by decide +kernel) (by decide +kernel) (off := 58) (by decide +kernel) (by decide) ?_
      refine g_aload_n (pc := 167) 0 dX11_core_167 rfl rfl ?_
      obtain ⟨g6, hf⟩ := gs_some hf
      refine g_getR (pc := 168) fl_X11_65 dX11_core_168 g6 ?_
      refine g_iload_n (pc := 171) 1 dX11_core_171 rfl rfl ?_
      obtain ⟨g7, hf⟩ := gs_some hf
      obtain ⟨b8, hf⟩ := gb_some hf
      refine g_iald (pc := 172) g7 b8 dX11_core_172 ?_
      obtain rfl := Option.some.inj hf
      exact g_iret (pc := 173) rfl dX11_core_173
    ·
      rcases it_some hf with ⟨c9, hf⟩ | ⟨c9, hf⟩
      · refine g_tsw (pc := 109) (tgt := 174) (34 : Int32) dX11_core_109 c9 (by decide +kernel) (by decide +kernel) (off := 65) (by decide +kernel) (by decide) ?_
        refine g_aload_n (pc := 174) 0 dX11_core_174 rfl rfl ?_
        obtain ⟨g10, hf⟩ := gs_some hf
        refine g_getR (pc := 175) fl_X11_74 dX11_core_175 g10 ?_
        refine g_iload_n (pc := 178) 1 dX11_core_178 rfl rfl ?_
        obtain ⟨g11, hf⟩ := gs_some hf
        obtain ⟨b12, hf⟩ := gb_some hf
        refine g_iald (pc := 179) g11 b12 dX11_core_179 ?_
        obtain rfl := Option.some.inj hf
        exact g_iret (pc := 180) rfl dX11_core_180
      ·
        rcases it_some hf with ⟨c13, hf⟩ | ⟨c13, hf⟩
        · refine g_tsw (pc := 109) (tgt := 181) (35 : Int32) dX11_core_109 c13 (by decide +kernel) (by decide +kernel) (off := 72) (by decide +kernel) (by decide) ?_
          refine g_aload_n (pc := 181) 0 dX11_core_181 rfl rfl ?_
          obtain ⟨g14, hf⟩ := gs_some hf
          refine g_getR (pc := 182) fl_X11_68 dX11_core_182 g14 ?_
          refine g_iload_n (pc := 185) 1 dX11_core_185 rfl rfl ?_
          obtain ⟨g15, hf⟩ := gs_some hf
          obtain ⟨b16, hf⟩ := gb_some hf
          refine g_iald (pc := 186) g15 b16 dX11_core_186 ?_
          obtain rfl := Option.some.inj hf
          exact g_iret (pc := 187) rfl dX11_core_187
        ·
          rcases it_some hf with ⟨c17, hf⟩ | ⟨c17, hf⟩
          · refine g_tsw (pc := 109) (tgt := 188) (36 : Int32) dX11_core_109 c17 (by decide +kernel) (by decide +kernel) (off := 79) (by decide +kernel) (by decide) ?_
            refine g_aload_n (pc := 188) 0 dX11_core_188 rfl rfl ?_
            obtain ⟨g18, hf⟩ := gs_some hf
            refine g_getR (pc := 189) fl_X11_86 dX11_core_189 g18 ?_
            refine g_iload_n (pc := 192) 1 dX11_core_192 rfl rfl ?_
            obtain ⟨g19, hf⟩ := gs_some hf
            obtain ⟨b20, hf⟩ := gb_some hf
            refine g_iald (pc := 193) g19 b20 dX11_core_193 ?_
            obtain rfl := Option.some.inj hf
            exact g_iret (pc := 194) rfl dX11_core_194
          ·
            rcases it_some hf with ⟨c21, hf⟩ | ⟨c21, hf⟩
            · refine g_tsw (pc := 109) (tgt := 195) (37 : Int32) dX11_core_109 c21 (by decide +kernel) (by decide +kernel) (off := 86) (by decide +kernel) (by decide) ?_
              refine g_aload_n (pc := 195) 0 dX11_core_195 rfl rfl ?_
              obtain ⟨g22, hf⟩ := gs_some hf
              refine g_getR (pc := 196) fl_X11_89 dX11_core_196 g22 ?_
              refine g_iload_n (pc := 199) 1 dX11_core_199 rfl rfl ?_
              obtain ⟨g23, hf⟩ := gs_some hf
              obtain ⟨b24, hf⟩ := gb_some hf
              refine g_iald (pc := 200) g23 b24 dX11_core_200 ?_
              obtain rfl := Option.some.inj hf
              exact g_iret (pc := 201) rfl dX11_core_201
            ·
              rcases it_some hf with ⟨c25, hf⟩ | ⟨c25, hf⟩
              · refine g_tsw (pc := 109) (tgt := 202) (38 : Int32) dX11_core_109 c25 (by decide +kernel) (by decide +kernel) (off := 93) (by decide +kernel) (by decide) ?_
                refine g_aload_n (pc := 202) 0 dX11_core_202 rfl rfl ?_
                obtain ⟨g26, hf⟩ := gs_some hf
                refine g_getR (pc := 203) fl_X11_71 dX11_core_203 g26 ?_
                refine g_iload_n (pc := 206) 1 dX11_core_206 rfl rfl ?_
                obtain ⟨g27, hf⟩ := gs_some hf
                obtain ⟨b28, hf⟩ := gb_some hf
                refine g_iald (pc := 207) g27 b28 dX11_core_207 ?_
                obtain rfl := Option.some.inj hf
                exact g_iret (pc := 208) rfl dX11_core_208
              ·
                rcases it_some hf with ⟨c29, hf⟩ | ⟨c29, hf⟩
                · refine g_tsw (pc := 109) (tgt := 209) (39 : Int32) dX11_core_109 c29 (by decide +kernel) (by decide +kernel) (off := 100) (by decide +kernel) (by decide) ?_
                  refine g_aload_n (pc := 209) 0 dX11_core_209 rfl rfl ?_
                  obtain ⟨g30, hf⟩ := gs_some hf
                  refine g_getR (pc := 210) fl_X11_96 dX11_core_210 g30 ?_
                  refine g_iload_n (pc := 213) 1 dX11_core_213 rfl rfl ?_
                  obtain ⟨g31, hf⟩ := gs_some hf
                  obtain ⟨b32, hf⟩ := gb_some hf
                  refine g_iald (pc := 214) g31 b32 dX11_core_214 ?_
                  obtain rfl := Option.some.inj hf
                  exact g_iret (pc := 215) rfl dX11_core_215
                ·
                  rcases it_some hf with ⟨c33, hf⟩ | ⟨c33, hf⟩
                  · refine g_tsw (pc := 109) (tgt := 216) (40 : Int32) dX11_core_109 c33 (by decide +kernel) (by decide +kernel) (off := 107) (by decide +kernel) (by decide) ?_
                    refine g_aload_n (pc := 216) 0 dX11_core_216 rfl rfl ?_
                    obtain ⟨g34, hf⟩ := gs_some hf
                    refine g_getR (pc := 217) fl_X11_99 dX11_core_217 g34 ?_
                    refine g_iload_n (pc := 220) 1 dX11_core_220 rfl rfl ?_
                    obtain ⟨g35, hf⟩ := gs_some hf
                    obtain ⟨b36, hf⟩ := gb_some hf
                    refine g_iald (pc := 221) g35 b36 dX11_core_221 ?_
                    obtain rfl := Option.some.inj hf
                    exact g_iret (pc := 222) rfl dX11_core_222
                  ·
                    refine g_tswD (pc := 109) (tgt := 223) [(32 : Int32), (33 : Int32), (34 : Int32), (35 : Int32), (36 : Int32), (37 : Int32), (38 : Int32), (39 : Int32), (40 : Int32)] dX11_core_109 (cons_ne c1 (cons_ne c5 (cons_ne c9 (cons_ne c13 (cons_ne c17 (cons_ne c21 (cons_ne c25 (cons_ne c29 (cons_ne c33 nil_ne))))))))) (by decide +kernel) (by decide +kernel) (by decide) ?_
                    refine g_aload_n (pc := 223) 0 dX11_core_223 rfl rfl ?_
                    refine g_iconst (pc := 224) (v := (1 : Int32)) dX11_core_224 (by decide) ?_
                    obtain ⟨g37, hf⟩ := gs_some hf
                    obtain ⟨q38, hcq38, hf⟩ := bd_some hf
                    refine g_cVI (pc := 225) (k2 := k_X11_raise) (av := [.int (1 : Int32)]) (q := q38) rfl dX11_core_225 ck_X11_raise m_1780 m_1782 m_77 (ci := 9) rfl (by decide) g37 (by decide) (by decide) rfl (by simp [rf_cat, rq_cat, ca_i, ca_l, ca_r]) (ct_X11_raise l X hcq38) ?_
                    obtain rfl := Option.some.inj hf
                    exact g_iret (pc := 228) rfl dX11_core_228
set_option maxRecDepth 100000 in
set_option maxHeartbeats 4000000 in
theorem ok_X11_core_L91 (l : Launch) (X : Cx) (h : AH) (a0 : Nat) (a1 : Int32) (a2 : Int32) (q : Int32 × AH) (hf : f_X11_core_L91 h a0 a1 a2 = some q) : Go l X k_X11_core 91 [(0, rf X a0), (1, .int a1), (2, .int a2)] [] h (rI q) := by
  unfold f_X11_core_L91 at hf
  refine g_iload_n (pc := 91) 2 dX11_core_91 rfl rfl ?_
  rcases it_some hf with ⟨c1, hf⟩ | ⟨c1, hf⟩
  · refine g_iflt_t (pc := 92) (tgt := 108) dX11_core_92 (by decide) c1 ?_
    exact ok_X11_core_L108 l X h a0 a1 a2 q hf
  · refine g_iflt_f (pc := 92) (tgt := 108) dX11_core_92 (by decide) c1 ?_
    refine g_iload_n (pc := 95) 2 dX11_core_95 rfl rfl ?_
    refine g_bipush (pc := 96) (v := (32 : Int32)) dX11_core_96 (by decide) ?_
    rcases it_some hf with ⟨c2, hf⟩ | ⟨c2, hf⟩
    · refine g_icge_t (pc := 98) (tgt := 108) dX11_core_98 (by decide) c2 ?_
      exact ok_X11_core_L108 l X h a0 a1 a2 q hf
    · refine g_icge_f (pc := 98) (tgt := 108) dX11_core_98 (by decide) c2 ?_
      refine g_aload_n (pc := 101) 0 dX11_core_101 rfl rfl ?_
      refine g_iload_n (pc := 102) 1 dX11_core_102 rfl rfl ?_
      refine g_iload_n (pc := 103) 2 dX11_core_103 rfl rfl ?_
      obtain ⟨g3, hf⟩ := gs_some hf
      obtain ⟨v4, hcv4, hf⟩ := bd_some hf
      refine g_cVI (pc := 104) (k2 := k_X11_reg) (av := [.int a1, .int a2]) (q := (v4, h)) rfl dX11_core_104 ck_X11_reg m_1847 m_1849 m_91 (ci := 9) rfl (by decide) g3 (by decide) (by decide) rfl (by simp [rf_cat, rq_cat, ca_i, ca_l, ca_r]) (ct_X11_reg l X hcv4) ?_
      obtain rfl := Option.some.inj hf
      exact g_iret (pc := 107) rfl dX11_core_107
set_option maxRecDepth 100000 in
set_option maxHeartbeats 4000000 in
theorem ok_X11_core (l : Launch) (X : Cx) {h : AH} {a0 : Nat} {a1 : Int32} {a2 : Int32} {q : Int32 × AH} (hf : f_X11_core h a0 a1 a2 = some q) : Go l X k_X11_core 0 [(0, rf X a0), (1, .int a1), (2, .int a2)] [] h (rI q) := by
  unfold f_X11_core at hf
  refine g_aload_n (pc := 0) 0 dX11_core_0 rfl rfl ?_
  refine g_iconst (pc := 1) (v := (0 : Int32)) dX11_core_1 (by decide) ?_
  obtain ⟨g1, hf⟩ := gs_some hf
  obtain ⟨h2, eh2, hf⟩ := lt_some hf
  refine g_putI (pc := 2) fl_X11_306 dX11_core_2 g1 eh2 ?_
  refine g_aload_n (pc := 5) 0 dX11_core_5 rfl rfl ?_
  refine g_iload_n (pc := 6) 1 dX11_core_6 rfl rfl ?_
  have g3 : hS h2 a0 = 10 := (hS_tI eh2 g1)
  obtain ⟨v4, hcv4, hf⟩ := bd_some hf
  refine g_cVI (pc := 7) (k2 := k_X11_isCore) (av := [.int a1]) (q := (v4, h2)) rfl dX11_core_7 ck_X11_isCore m_1792 m_1794 m_78 (ci := 9) rfl (by decide) g3 (by decide) (by decide) rfl (by simp [rf_cat, rq_cat, ca_i, ca_l, ca_r]) (ct_X11_isCore l X hcv4) ?_
  rcases it_some hf with ⟨c5, hf⟩ | ⟨c5, hf⟩
  · refine g_ifne_t (pc := 10) (tgt := 19) dX11_core_10 (by decide) c5 ?_
    refine g_iload_n (pc := 19) 2 dX11_core_19 rfl rfl ?_
    refine g_bipush (pc := 20) (v := (100 : Int32)) dX11_core_20 (by decide) ?_
    rcases it_some hf with ⟨c6, hf⟩ | ⟨c6, hf⟩
    · refine g_iclt_t (pc := 22) (tgt := 91) dX11_core_22 (by decide) c6 ?_
      exact ok_X11_core_L91 l X h2 a0 a1 a2 q hf
    · refine g_iclt_f (pc := 22) (tgt := 91) dX11_core_22 (by decide) c6 ?_
      refine g_iload_n (pc := 25) 2 dX11_core_25 rfl rfl ?_
      refine g_bipush (pc := 26) (v := (100 : Int32)) dX11_core_26 (by decide) ?_
      refine g_iconst (pc := 28) (v := (3 : Int32)) dX11_core_28 (by decide) ?_
      refine g_aload_n (pc := 29) 0 dX11_core_29 rfl rfl ?_
      refine g_getR (pc := 30) fl_X11_74 dX11_core_30 g3 ?_
      refine g_iload_n (pc := 33) 1 dX11_core_33 rfl rfl ?_
      obtain ⟨g7, hf⟩ := gs_some hf
      obtain ⟨b8, hf⟩ := gb_some hf
      refine g_iald (pc := 34) g7 b8 dX11_core_34 ?_
      refine g_imul (pc := 35) dX11_core_35 ?_
      refine g_iadd (pc := 36) dX11_core_36 ?_
      rcases it_some hf with ⟨c9, hf⟩ | ⟨c9, hf⟩
      · refine g_icge_t (pc := 37) (tgt := 91) dX11_core_37 (by decide) c9 ?_
        exact ok_X11_core_L91 l X h2 a0 a1 a2 q hf
      · refine g_icge_f (pc := 37) (tgt := 91) dX11_core_37 (by decide) c9 ?_
        refine g_bipush (pc := 40) (v := (16 : Int32)) dX11_core_40 (by decide) ?_
        refine g_iload_n (pc := 42) 1 dX11_core_42 rfl rfl ?_
        refine g_imul (pc := 43) dX11_core_43 ?_
        refine g_iload_n (pc := 44) 2 dX11_core_44 rfl rfl ?_
        refine g_bipush (pc := 45) (v := (100 : Int32)) dX11_core_45 (by decide) ?_
        refine g_isub (pc := 47) dX11_core_47 ?_
        refine g_iconst (pc := 48) (v := (3 : Int32)) dX11_core_48 (by decide) ?_
        refine g_idiv (pc := 49) (by decide) dX11_core_49 ?_
        refine g_iadd (pc := 50) dX11_core_50 ?_
        obtain ⟨x10, ex10, hf⟩ := lt_some hf
        refine g_istore_n (pc := 51) (L' := [(3, .int x10), (0, rf X a0), (1, .int a1), (2, .int a2)]) dX11_core_51 rfl (by decide) ex10 rfl ?_
        refine g_iload_n (pc := 52) 3 dX11_core_52 rfl rfl ?_
        refine g_iconst (pc := 53) (v := (3 : Int32)) dX11_core_53 (by decide) ?_
        refine g_irem (pc := 54) (by decide) dX11_core_54 ?_
        refine g_iconst (pc := 55) (v := (1 : Int32)) dX11_core_55 (by decide) ?_
        rcases it_some hf with ⟨c11, hf⟩ | ⟨c11, hf⟩
        · refine g_icne_t (pc := 56) (tgt := 68) dX11_core_56 (by decide) c11 ?_
          refine g_iload_n (pc := 68) 3 dX11_core_68 rfl rfl ?_
          refine g_iconst (pc := 69) (v := (3 : Int32)) dX11_core_69 (by decide) ?_
          refine g_irem (pc := 70) (by decide) dX11_core_70 ?_
          refine g_iconst (pc := 71) (v := (2 : Int32)) dX11_core_71 (by decide) ?_
          rcases it_some hf with ⟨c12, hf⟩ | ⟨c12, hf⟩
          · refine g_icne_t (pc := 72) (tgt := 84) dX11_core_72 (by decide) c12 ?_
            refine g_aload_n (pc := 84) 1 dX11_core_84 rfl rfl ?_
            refine g_getR (pc := 85) fl_X11_83 dX11_core_85 g3 ?_
            refine g_iload_n (pc := 88) 0 dX11_core_88 rfl rfl ?_
            obtain ⟨g13, hf⟩ := gs_some hf
            obtain ⟨b14, hf⟩ := gb_some hf
            refine g_iald (pc := 89) g13 b14 dX11_core_89 ?_
            obtain rfl := Option.some.inj hf
            exact g_iret (pc := 90) rfl dX11_core_90
          · refine g_icne_f (pc := 72) (tgt := 84) dX11_core_72 (by decide) (Decidable.of_not_not c12) ?_
            refine g_aload_n (pc := 75) 1 dX11_core_75 rfl rfl ?_
            refine g_getR (pc := 76) fl_X11_80 dX11_core_76 g3 ?_
            refine g_iload_n (pc := 79) 0 dX11_core_79 rfl rfl ?_
            obtain ⟨g15, hf⟩ := gs_some hf
            obtain ⟨b16, hf⟩ := gb_some hf
            refine g_iald (pc := 80) g15 b16 dX11_core_80 ?_
            refine g_goto (pc := 81) (tgt := 90) dX11_core_81 (by decide) ?_
            obtain rfl := Option.some.inj hf
            exact g_iret (pc := 90) rfl dX11_core_90
        · refine g_icne_f (pc := 56) (tgt := 68) dX11_core_56 (by decide) (Decidable.of_not_not c11) ?_
          refine g_aload_n (pc := 59) 1 dX11_core_59 rfl rfl ?_
          refine g_getR (pc := 60) fl_X11_77 dX11_core_60 g3 ?_
          refine g_iload_n (pc := 63) 0 dX11_core_63 rfl rfl ?_
          obtain ⟨g17, hf⟩ := gs_some hf
          obtain ⟨b18, hf⟩ := gb_some hf
          refine g_iald (pc := 64) g17 b18 dX11_core_64 ?_
          refine g_goto (pc := 65) (tgt := 90) dX11_core_65 (by decide) ?_
          obtain rfl := Option.some.inj hf
          exact g_iret (pc := 90) rfl dX11_core_90
  · refine g_ifne_f (pc := 10) (tgt := 19) dX11_core_10 (by decide) (Decidable.of_not_not c5) ?_
    refine g_aload_n (pc := 13) 0 dX11_core_13 rfl rfl ?_
    refine g_iconst (pc := 14) (v := (1 : Int32)) dX11_core_14 (by decide) ?_
    obtain ⟨q19, hcq19, hf⟩ := bd_some hf
    refine g_cVI (pc := 15) (k2 := k_X11_raise) (av := [.int (1 : Int32)]) (q := q19) rfl dX11_core_15 ck_X11_raise m_1780 m_1782 m_77 (ci := 9) rfl (by decide) g3 (by decide) (by decide) rfl (by simp [rf_cat, rq_cat, ca_i, ca_l, ca_r]) (ct_X11_raise l X hcq19) ?_
    obtain rfl := Option.some.inj hf
    exact g_iret (pc := 18) rfl dX11_core_18
theorem ct_X11_core (l : Launch) (X : Cx) {h : AH} {a0 : Nat} {a1 : Int32} {a2 : Int32} {q : Int32 × AH} (hf : f_X11_core h a0 a1 a2 = some q) : Ct l X k_X11_core [rf X a0, .int a1, .int a2] h (rI q) := ct_of ck_X11_core (by simp [lg_sl, rf_cat, rq_cat, ca_i, ca_l, ca_r]) (by simp [lv_args, rf_cat, rq_cat, ca_i, ca_l, ca_r]) (ok_X11_core l X hf)
