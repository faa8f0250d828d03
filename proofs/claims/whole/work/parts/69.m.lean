set_option maxRecDepth 100000 in
set_option maxHeartbeats 4000000 in
theorem ok_X11_leastOf_L33 (l : Launch) (X : Cx) (h : AH)  (q : Int64) (hf : f_X11_leastOf_L33 h  = some q) : Go l X k_X11_leastOf 33 [] [] h (rJ (q, h)) := by
  unfold f_X11_leastOf_L33 at hf
  refine g_lconst (pc := 33) (v := (0 : Int64)) dX11_leastOf_33 (by decide) ?_
  refine g_goto (pc := 34) (tgt := 51) dX11_leastOf_34 (by decide) ?_
  obtain rfl := Option.some.inj hf
  exact g_lret (pc := 51) rfl dX11_leastOf_51
set_option maxRecDepth 100000 in
set_option maxHeartbeats 4000000 in
theorem ok_X11_leastOf (l : Launch) (X : Cx) {h : AH} {a0 : Int32} {q : Int64} (hf : f_X11_leastOf h a0 = some q) : Go l X k_X11_leastOf 0 [(0, .int a0)] [] h (rJ (q, h)) := by
  unfold f_X11_leastOf at hf
  refine g_iload_n (pc := 0) 0 dX11_leastOf_0 rfl rfl ?_
  refine g_iconst (pc := 1) (v := (2 : Int32)) dX11_leastOf_1 (by decide) ?_
  rcases it_some hf with ⟨c1, hf⟩ | ⟨c1, hf⟩
  · refine g_icne_t (pc := 2) (tgt := 11) dX11_leastOf_2 (by decide) c1 ?_
    refine g_iload_n (pc := 11) 0 dX11_leastOf_11 rfl rfl ?_
    refine g_iconst (pc := 12) (v := (4 : Int32)) dX11_leastOf_12 (by decide) ?_
    rcases it_some hf with ⟨c2, hf⟩ | ⟨c2, hf⟩
    · refine g_icne_t (pc := 13) (tgt := 22) dX11_leastOf_13 (by decide) c2 ?_
      refine g_iload_n (pc := 22) 0 dX11_leastOf_22 rfl rfl ?_
      refine g_iconst (pc := 23) (v := (3 : Int32)) dX11_leastOf_23 (by decide) ?_
      rcases it_some hf with ⟨c3, hf⟩ | ⟨c3, hf⟩
      · refine g_iceq_t (pc := 24) (tgt := 33) dX11_leastOf_24 (by decide) c3 ?_
        refine g_sub [] rfl ?_
        exact ok_X11_leastOf_L33 l X h  q hf
      · refine g_iceq_f (pc := 24) (tgt := 33) dX11_leastOf_24 (by decide) c3 ?_
        refine g_iload_n (pc := 27) 0 dX11_leastOf_27 rfl rfl ?_
        refine g_bipush (pc := 28) (v := (6 : Int32)) dX11_leastOf_28 (by decide) ?_
        rcases it_some hf with ⟨c4, hf⟩ | ⟨c4, hf⟩
        · refine g_icne_t (pc := 30) (tgt := 37) dX11_leastOf_30 (by decide) c4 ?_
          refine g_iload_n (pc := 37) 0 dX11_leastOf_37 rfl rfl ?_
          refine g_iconst (pc := 38) (v := (5 : Int32)) dX11_leastOf_38 (by decide) ?_
          rcases it_some hf with ⟨c5, hf⟩ | ⟨c5, hf⟩
          · refine g_icne_t (pc := 39) (tgt := 48) dX11_leastOf_39 (by decide) c5 ?_
            refine g_ldc2 (pc := 48) (v := (-2048 : Int64)) m_1742 dX11_leastOf_48 ?_
            obtain rfl := Option.some.inj hf
            exact g_lret (pc := 51) rfl dX11_leastOf_51
          · refine g_icne_f (pc := 39) (tgt := 48) dX11_leastOf_39 (by decide) (Decidable.of_not_not c5) ?_
            refine g_ldc2 (pc := 42) (v := (-2147483648 : Int64)) m_1741 dX11_leastOf_42 ?_
            refine g_goto (pc := 45) (tgt := 51) dX11_leastOf_45 (by decide) ?_
            obtain rfl := Option.some.inj hf
            exact g_lret (pc := 51) rfl dX11_leastOf_51
        · refine g_icne_f (pc := 30) (tgt := 37) dX11_leastOf_30 (by decide) (Decidable.of_not_not c4) ?_
          refine g_sub [] rfl ?_
          exact ok_X11_leastOf_L33 l X h  q hf
    · refine g_icne_f (pc := 13) (tgt := 22) dX11_leastOf_13 (by decide) (Decidable.of_not_not c2) ?_
      refine g_ldc2 (pc := 16) (v := (-1048576 : Int64)) m_1740 dX11_leastOf_16 ?_
      refine g_goto (pc := 19) (tgt := 51) dX11_leastOf_19 (by decide) ?_
      obtain rfl := Option.some.inj hf
      exact g_lret (pc := 51) rfl dX11_leastOf_51
  · refine g_icne_f (pc := 2) (tgt := 11) dX11_leastOf_2 (by decide) (Decidable.of_not_not c1) ?_
    refine g_ldc2 (pc := 5) (v := (-4096 : Int64)) m_1739 dX11_leastOf_5 ?_
    refine g_goto (pc := 8) (tgt := 51) dX11_leastOf_8 (by decide) ?_
    obtain rfl := Option.some.inj hf
    exact g_lret (pc := 51) rfl dX11_leastOf_51
theorem ct_X11_leastOf (l : Launch) (X : Cx) {h : AH} {a0 : Int32} {q : Int64} (hf : f_X11_leastOf h a0 = some q) : Ct l X k_X11_leastOf [.int a0] h (rJ (q, h)) := ct_of ck_X11_leastOf (by simp [lg_sl, rf_cat, rq_cat, ca_i, ca_l, ca_r]) (by simp [lv_args, rf_cat, rq_cat, ca_i, ca_l, ca_r]) (ok_X11_leastOf l X hf)
set_option maxRecDepth 100000 in
set_option maxHeartbeats 4000000 in
theorem ok_X11_mostOf (l : Launch) (X : Cx) {h : AH} {a0 : Int32} {q : Int64} (hf : f_X11_mostOf h a0 = some q) : Go l X k_X11_mostOf 0 [(0, .int a0)] [] h (rJ (q, h)) := by
  unfold f_X11_mostOf at hf
  refine g_iload_n (pc := 0) 0 dX11_mostOf_0 rfl rfl ?_
  refine g_iconst (pc := 1) (v := (2 : Int32)) dX11_mostOf_1 (by decide) ?_
  rcases it_some hf with ⟨c1, hf⟩ | ⟨c1, hf⟩
  · refine g_icne_t (pc := 2) (tgt := 11) dX11_mostOf_2 (by decide) c1 ?_
    refine g_iload_n (pc := 11) 0 dX11_mostOf_11 rfl rfl ?_
    refine g_iconst (pc := 12) (v := (4 : Int32)) dX11_mostOf_12 (by decide) ?_
    rcases it_some hf with ⟨c2, hf⟩ | ⟨c2, hf⟩
    · refine g_icne_t (pc := 13) (tgt := 22) dX11_mostOf_13 (by decide) c2 ?_
      refine g_iload_n (pc := 22) 0 dX11_mostOf_22 rfl rfl ?_
      refine g_iconst (pc := 23) (v := (3 : Int32)) dX11_mostOf_23 (by decide) ?_
      rcases it_some hf with ⟨c3, hf⟩ | ⟨c3, hf⟩
      · refine g_icne_t (pc := 24) (tgt := 33) dX11_mostOf_24 (by decide) c3 ?_
        refine g_iload_n (pc := 33) 0 dX11_mostOf_33 rfl rfl ?_
        refine g_bipush (pc := 34) (v := (6 : Int32)) dX11_mostOf_34 (by decide) ?_
        rcases it_some hf with ⟨c4, hf⟩ | ⟨c4, hf⟩
        · refine g_icne_t (pc := 36) (tgt := 45) dX11_mostOf_36 (by decide) c4 ?_
          refine g_iload_n (pc := 45) 0 dX11_mostOf_45 rfl rfl ?_
          refine g_iconst (pc := 46) (v := (5 : Int32)) dX11_mostOf_46 (by decide) ?_
          rcases it_some hf with ⟨c5, hf⟩ | ⟨c5, hf⟩
          · refine g_icne_t (pc := 47) (tgt := 56) dX11_mostOf_47 (by decide) c5 ?_
            refine g_ldc2 (pc := 56) (v := (2047 : Int64)) m_1751 dX11_mostOf_56 ?_
            obtain rfl := Option.some.inj hf
            exact g_lret (pc := 59) rfl dX11_mostOf_59
          · refine g_icne_f (pc := 47) (tgt := 56) dX11_mostOf_47 (by decide) (Decidable.of_not_not c5) ?_
            refine g_ldc2 (pc := 50) (v := (4294967295 : Int64)) m_1750 dX11_mostOf_50 ?_
            refine g_goto (pc := 53) (tgt := 59) dX11_mostOf_53 (by decide) ?_
            obtain rfl := Option.some.inj hf
            exact g_lret (pc := 59) rfl dX11_mostOf_59
        · refine g_icne_f (pc := 36) (tgt := 45) dX11_mostOf_36 (by decide) (Decidable.of_not_not c4) ?_
          refine g_ldc2 (pc := 39) (v := (31 : Int64)) m_1749 dX11_mostOf_39 ?_
          refine g_goto (pc := 42) (tgt := 59) dX11_mostOf_42 (by decide) ?_
          obtain rfl := Option.some.inj hf
          exact g_lret (pc := 59) rfl dX11_mostOf_59
      · refine g_icne_f (pc := 24) (tgt := 33) dX11_mostOf_24 (by decide) (Decidable.of_not_not c3) ?_
        refine g_ldc2 (pc := 27) (v := (1048575 : Int64)) m_1748 dX11_mostOf_27 ?_
        refine g_goto (pc := 30) (tgt := 59) dX11_mostOf_30 (by decide) ?_
        obtain rfl := Option.some.inj hf
        exact g_lret (pc := 59) rfl dX11_mostOf_59
    · refine g_icne_f (pc := 13) (tgt := 22) dX11_mostOf_13 (by decide) (Decidable.of_not_not c2) ?_
      refine g_ldc2 (pc := 16) (v := (1048574 : Int64)) m_1747 dX11_mostOf_16 ?_
      refine g_goto (pc := 19) (tgt := 59) dX11_mostOf_19 (by decide) ?_
      obtain rfl := Option.some.inj hf
      exact g_lret (pc := 59) rfl dX11_mostOf_59
  · refine g_icne_f (pc := 2) (tgt := 11) dX11_mostOf_2 (by decide) (Decidable.of_not_not c1) ?_
    refine g_ldc2 (pc := 5) (v := (4094 : Int64)) m_1746 dX11_mostOf_5 ?_
    refine g_goto (pc := 8) (tgt := 59) dX11_mostOf_8 (by decide) ?_
    obtain rfl := Option.some.inj hf
    exact g_lret (pc := 59) rfl dX11_mostOf_59
theorem ct_X11_mostOf (l : Launch) (X : Cx) {h : AH} {a0 : Int32} {q : Int64} (hf : f_X11_mostOf h a0 = some q) : Ct l X k_X11_mostOf [.int a0] h (rJ (q, h)) := ct_of ck_X11_mostOf (by simp [lg_sl, rf_cat, rq_cat, ca_i, ca_l, ca_r]) (by simp [lv_args, rf_cat, rq_cat, ca_i, ca_l, ca_r]) (ok_X11_mostOf l X hf)
set_option maxRecDepth 100000 in
set_option maxHeartbeats 4000000 in
theorem ok_X11_multipleOf_L10 (l : Launch) (X : Cx) (h : AH)  (q : Int32) (hf : f_X11_multipleOf_L10 h  = some q) : Go l X k_X11_multipleOf 10 [] [] h (rI (q, h)) := by
  unfold f_X11_multipleOf_L10 at hf
  refine g_iconst (pc := 10) (v := (2 : Int32)) dX11_multipleOf_10 (by decide) ?_
  refine g_goto (pc := 11) (tgt := 15) dX11_multipleOf_11 (by decide) ?_
  obtain rfl := Option.some.inj hf
  exact g_iret (pc := 15) rfl dX11_multipleOf_15
set_option maxRecDepth 100000 in
set_option maxHeartbeats 4000000 in
theorem ok_X11_multipleOf (l : Launch) (X : Cx) {h : AH} {a0 : Int32} {q : Int32} (hf : f_X11_multipleOf h a0 = some q) : Go l X k_X11_multipleOf 0 [(0, .int a0)] [] h (rI (q, h)) := by
  unfold f_X11_multipleOf at hf
  refine g_iload_n (pc := 0) 0 dX11_multipleOf_0 rfl rfl ?_
  refine g_iconst (pc := 1) (v := (2 : Int32)) dX11_multipleOf_1 (by decide) ?_
  rcases it_some hf with ⟨c1, hf⟩ | ⟨c1, hf⟩
  · refine g_iceq_t (pc := 2) (tgt := 10) dX11_multipleOf_2 (by decide) c1 ?_
    refine g_sub [] rfl ?_
    exact ok_X11_multipleOf_L10 l X h  q hf
  · refine g_iceq_f (pc := 2) (tgt := 10) dX11_multipleOf_2 (by decide) c1 ?_
    refine g_iload_n (pc := 5) 0 dX11_multipleOf_5 rfl rfl ?_
    refine g_iconst (pc := 6) (v := (4 : Int32)) dX11_multipleOf_6 (by decide) ?_
    rcases it_some hf with ⟨c2, hf⟩ | ⟨c2, hf⟩
    · refine g_icne_t (pc := 7) (tgt := 14) dX11_multipleOf_7 (by decide) c2 ?_
      refine g_iconst (pc := 14) (v := (1 : Int32)) dX11_multipleOf_14 (by decide) ?_
      obtain rfl := Option.some.inj hf
      exact g_iret (pc := 15) rfl dX11_multipleOf_15
    · refine g_icne_f (pc := 7) (tgt := 14) dX11_multipleOf_7 (by decide) (Decidable.of_not_not c2) ?_
      refine g_sub [] rfl ?_
      exact ok_X11_multipleOf_L10 l X h  q hf
theorem ct_X11_multipleOf (l : Launch) (X : Cx) {h : AH} {a0 : Int32} {q : Int32} (hf : f_X11_multipleOf h a0 = some q) : Ct l X k_X11_multipleOf [.int a0] h (rI (q, h)) := ct_of ck_X11_multipleOf (by simp [lg_sl, rf_cat, rq_cat, ca_i, ca_l, ca_r]) (by simp [lv_args, rf_cat, rq_cat, ca_i, ca_l, ca_r]) (ok_X11_multipleOf l X hf)
set_option maxRecDepth 100000 in
set_option maxHeartbeats 4000000 in
theorem ok_X11_put (l : Launch) (X : Cx) {h : AH} {a0 : Int32} {a1 : Int64} {q : Int32} (hf : f_X11_put h a0 a1 = some q) : Go l X k_X11_put 0 [(0, .int a0), (1, .long a1)] [] h (rI (q, h)) := by
  unfold f_X11_put at hf
  refine g_lload_n (pc := 0) 1 dX11_put_0 rfl rfl ?_
  refine g_l2i (pc := 1) dX11_put_1 ?_
  obtain ⟨x1, ex1, hf⟩ := lt_some hf
  refine g_istore_n (pc := 2) (L' := [(3, .int x1), (0, .int a0), (1, .long a1)]) dX11_put_2 rfl (by decide) ex1 rfl ?_
  refine g_iload_n (pc := 3) 1 dX11_put_3 rfl rfl ?_
  rcases it_some hf with ⟨c2, hf⟩ | ⟨c2, hf⟩
  · refine g_tsw (pc := 4) (tgt := 56) (0 : Int32) dX11_put_4 c2 (by decide +kernel) (by decide +kernel) (off := 52) (by decide +kernel) (by decide) ?_
    refine g_iload_n (pc := 56) 0 dX11_put_56 rfl rfl ?_
    refine g_bipush (pc := 57) (v := (20 : Int32)) dX11_put_57 (by decide) ?_
    refine g_ishl (pc := 59) dX11_put_59 ?_
    obtain rfl := Option.some.inj hf
    exact g_iret (pc := 60) rfl dX11_put_60
  ·
    rcases it_some hf with ⟨c3, hf⟩ | ⟨c3, hf⟩
    · refine g_tsw (pc := 4) (tgt := 61) (1 : Int32) dX11_put_4 c3 (by decide +kernel) (by decide +kernel) (off := 57) (by decide +kernel) (by decide) ?_
      refine g_iload_n (pc := 61) 0 dX11_put_61 rfl rfl ?_
      refine g_iconst (pc := 62) (v := (5 : Int32)) dX11_put_62 (by decide) ?_
      refine g_ishr (pc := 63) dX11_put_63 ?_
      refine g_bipush (pc := 64) (v := (25 : Int32)) dX11_put_64 (by decide) ?_
      refine g_ishl (pc := 66) dX11_put_66 ?_
      refine g_iload_n (pc := 67) 0 dX11_put_67 rfl rfl ?_
      refine g_bipush (pc := 68) (v := (31 : Int32)) dX11_put_68 (by decide) ?_
      refine g_iand (pc := 70) dX11_put_70 ?_
      refine g_bipush (pc := 71) (v := (7 : Int32)) dX11_put_71 (by decide) ?_
      refine g_ishl (pc := 73) dX11_put_73 ?_
      refine g_ior (pc := 74) dX11_put_74 ?_
      obtain rfl := Option.some.inj hf
      exact g_iret (pc := 75) rfl dX11_put_75
    ·
      rcases it_some hf with ⟨c4, hf⟩ | ⟨c4, hf⟩
      · refine g_tsw (pc := 4) (tgt := 76) (2 : Int32) dX11_put_4 c4 (by decide +kernel) (by decide +kernel) (off := 72) (by decide +kernel) (by decide) ?_
        refine g_iload_n (pc := 76) 0 dX11_put_76 rfl rfl ?_
        refine g_bipush (pc := 77) (v := (12 : Int32)) dX11_put_77 (by decide) ?_
        refine g_ishr (pc := 79) dX11_put_79 ?_
        refine g_iconst (pc := 80) (v := (1 : Int32)) dX11_put_80 (by decide) ?_
        refine g_iand (pc := 81) dX11_put_81 ?_
        refine g_bipush (pc := 82) (v := (31 : Int32)) dX11_put_82 (by decide) ?_
        refine g_ishl (pc := 84) dX11_put_84 ?_
        refine g_iload_n (pc := 85) 0 dX11_put_85 rfl rfl ?_
        refine g_iconst (pc := 86) (v := (5 : Int32)) dX11_put_86 (by decide) ?_
        refine g_ishr (pc := 87) dX11_put_87 ?_
        refine g_bipush (pc := 88) (v := (63 : Int32)) dX11_put_88 (by decide) ?_
        refine g_iand (pc := 90) dX11_put_90 ?_
        refine g_bipush (pc := 91) (v := (25 : Int32)) dX11_put_91 (by decide) ?_
        refine g_ishl (pc := 93) dX11_put_93 ?_
        refine g_ior (pc := 94) dX11_put_94 ?_
        refine g_iload_n (pc := 95) 0 dX11_put_95 rfl rfl ?_
        refine g_iconst (pc := 96) (v := (1 : Int32)) dX11_put_96 (by decide) ?_
        refine g_ishr (pc := 97) dX11_put_97 ?_
        refine g_bipush (pc := 98) (v := (15 : Int32)) dX11_put_98 (by decide) ?_
        refine g_iand (pc := 100) dX11_put_100 ?_
        refine g_bipush (pc := 101) (v := (8 : Int32)) dX11_put_101 (by decide) ?_
        refine g_ishl (pc := 103) dX11_put_103 ?_
        refine g_ior (pc := 104) dX11_put_104 ?_
        refine g_iload_n (pc := 105) 0 dX11_put_105 rfl rfl ?_
        refine g_bipush (pc := 106) (v := (11 : Int32)) dX11_put_106 (by decide) ?_
        refine g_ishr (pc := 108) dX11_put_108 ?_
        refine g_iconst (pc := 109) (v := (1 : Int32)) dX11_put_109 (by decide) ?_
        refine g_iand (pc := 110) dX11_put_110 ?_
        refine g_bipush (pc := 111) (v := (7 : Int32)) dX11_put_111 (by decide) ?_
        refine g_ishl (pc := 113) dX11_put_113 ?_
        refine g_ior (pc := 114) dX11_put_114 ?_
        obtain rfl := Option.some.inj hf
        exact g_iret (pc := 115) rfl dX11_put_115
      ·
        rcases it_some hf with ⟨c5, hf⟩ | ⟨c5, hf⟩
        · refine g_tsw (pc := 4) (tgt := 116) (3 : Int32) dX11_put_4 c5 (by decide +kernel) (by decide +kernel) (off := 112) (by decide +kernel) (by decide) ?_
          refine g_iload_n (pc := 116) 0 dX11_put_116 rfl rfl ?_
          refine g_bipush (pc := 117) (v := (12 : Int32)) dX11_put_117 (by decide) ?_
          refine g_ishl (pc := 119) dX11_put_119 ?_
          obtain rfl := Option.some.inj hf
          exact g_iret (pc := 120) rfl dX11_put_120
        ·
          rcases it_some hf with ⟨c6, hf⟩ | ⟨c6, hf⟩
          · refine g_tsw (pc := 4) (tgt := 121) (4 : Int32) dX11_put_4 c6 (by decide +kernel) (by decide +kernel) (off := 117) (by decide +kernel) (by decide) ?_
            refine g_iload_n (pc := 121) 0 dX11_put_121 rfl rfl ?_
            refine g_bipush (pc := 122) (v := (20 : Int32)) dX11_put_122 (by decide) ?_
            refine g_ishr (pc := 124) dX11_put_124 ?_
            refine g_iconst (pc := 125) (v := (1 : Int32)) dX11_put_125 (by decide) ?_
            refine g_iand (pc := 126) dX11_put_126 ?_
            refine g_bipush (pc := 127) (v := (31 : Int32)) dX11_put_127 (by decide) ?_
            refine g_ishl (pc := 129) dX11_put_129 ?_
            refine g_iload_n (pc := 130) 0 dX11_put_130 rfl rfl ?_
            refine g_iconst (pc := 131) (v := (1 : Int32)) dX11_put_131 (by decide) ?_
            refine g_ishr (pc := 132) dX11_put_132 ?_
            refine g_sipush (pc := 133) (v := (1023 : Int32)) dX11_put_133 (by decide) ?_
            refine g_iand (pc := 136) dX11_put_136 ?_
            refine g_bipush (pc := 137) (v := (21 : Int32)) dX11_put_137 (by decide) ?_
            refine g_ishl (pc := 139) dX11_put_139 ?_
            refine g_ior (pc := 140) dX11_put_140 ?_
            refine g_iload_n (pc := 141) 0 dX11_put_141 rfl rfl ?_
            refine g_bipush (pc := 142) (v := (11 : Int32)) dX11_put_142 (by decide) ?_
            refine g_ishr (pc := 144) dX11_put_144 ?_
            refine g_iconst (pc := 145) (v := (1 : Int32)) dX11_put_145 (by decide) ?_
            refine g_iand (pc := 146) dX11_put_146 ?_
            refine g_bipush (pc := 147) (v := (20 : Int32)) dX11_put_147 (by decide) ?_
            refine g_ishl (pc := 149) dX11_put_149 ?_
            refine g_ior (pc := 150) dX11_put_150 ?_
            refine g_iload_n (pc := 151) 0 dX11_put_151 rfl rfl ?_
            refine g_bipush (pc := 152) (v := (12 : Int32)) dX11_put_152 (by decide) ?_
            refine g_ishr (pc := 154) dX11_put_154 ?_
            refine g_sipush (pc := 155) (v := (255 : Int32)) dX11_put_155 (by decide) ?_
            refine g_iand (pc := 158) dX11_put_158 ?_
            refine g_bipush (pc := 159) (v := (12 : Int32)) dX11_put_159 (by decide) ?_
            refine g_ishl (pc := 161) dX11_put_161 ?_
            refine g_ior (pc := 162) dX11_put_162 ?_
            obtain rfl := Option.some.inj hf
            exact g_iret (pc := 163) rfl dX11_put_163
          ·
            rcases it_some hf with ⟨c7, hf⟩ | ⟨c7, hf⟩
            · refine g_tsw (pc := 4) (tgt := 56) (6 : Int32) dX11_put_4 c7 (by decide +kernel) (by decide +kernel) (off := 52) (by decide +kernel) (by decide) ?_
              refine g_iload_n (pc := 56) 0 dX11_put_56 rfl rfl ?_
              refine g_bipush (pc := 57) (v := (20 : Int32)) dX11_put_57 (by decide) ?_
              refine g_ishl (pc := 59) dX11_put_59 ?_
              obtain rfl := Option.some.inj hf
              exact g_iret (pc := 60) rfl dX11_put_60
            ·
              rcases it_some hf with ⟨c8, hf⟩ | ⟨c8, hf⟩
              · refine g_tsw (pc := 4) (tgt := 164) (7 : Int32) dX11_put_4 c8 (by decide +kernel) (by decide +kernel) (off := 160) (by decide +kernel) (by decide) ?_
                refine g_iload_n (pc := 164) 0 dX11_put_164 rfl rfl ?_
                refine g_iload_n (pc := 165) 0 dX11_put_165 rfl rfl ?_
                refine g_bipush (pc := 166) (v := (20 : Int32)) dX11_put_166 (by decide) ?_
                refine g_ishl (pc := 168) dX11_put_168 ?_
                refine g_bipush (pc := 169) (v := (20 : Int32)) dX11_put_169 (by decide) ?_
                refine g_ishr (pc := 171) dX11_put_171 ?_
                refine g_isub (pc := 172) dX11_put_172 ?_
                refine g_sipush (pc := 173) (v := (-4096 : Int32)) dX11_put_173 (by decide) ?_
                refine g_iand (pc := 176) dX11_put_176 ?_
                obtain rfl := Option.some.inj hf
                exact g_iret (pc := 177) rfl dX11_put_177
              ·
                rcases it_some hf with ⟨c9, hf⟩ | ⟨c9, hf⟩
                · refine g_tsw (pc := 4) (tgt := 178) (8 : Int32) dX11_put_4 c9 (by decide +kernel) (by decide +kernel) (off := 174) (by decide +kernel) (by decide) ?_
                  refine g_iload_n (pc := 178) 0 dX11_put_178 rfl rfl ?_
                  refine g_bipush (pc := 179) (v := (20 : Int32)) dX11_put_179 (by decide) ?_
                  refine g_ishl (pc := 181) dX11_put_181 ?_
                  obtain rfl := Option.some.inj hf
                  exact g_iret (pc := 182) rfl dX11_put_182
                ·
                  refine g_tswD (pc := 4) (tgt := 183) [(0 : Int32), (1 : Int32), (2 : Int32), (3 : Int32), (4 : Int32), (6 : Int32), (7 : Int32), (8 : Int32)] dX11_put_4 (cons_ne c2 (cons_ne c3 (cons_ne c4 (cons_ne c5 (cons_ne c6 (cons_ne c7 (cons_ne c8 (cons_ne c9 nil_ne)))))))) (by decide +kernel) (by decide +kernel) (by decide) ?_
                  refine g_iload_n (pc := 183) 0 dX11_put_183 rfl rfl ?_
                  obtain rfl := Option.some.inj hf
                  exact g_iret (pc := 184) rfl dX11_put_184
theorem ct_X11_put (l : Launch) (X : Cx) {h : AH} {a0 : Int32} {a1 : Int64} {q : Int32} (hf : f_X11_put h a0 a1 = some q) : Ct l X k_X11_put [.int a0, .long a1] h (rI (q, h)) := ct_of ck_X11_put (by simp [lg_sl, rf_cat, rq_cat, ca_i, ca_l, ca_r]) (by simp [lv_args, rf_cat, rq_cat, ca_i, ca_l, ca_r]) (ok_X11_put l X hf)
set_option maxRecDepth 100000 in
set_option maxHeartbeats 4000000 in
theorem ok_X11_wantN (l : Launch) (X : Cx) {h : AH} {a0 : Nat} {a1 : Int32} {q : Int32 × AH} (hf : f_X11_wantN h a0 a1 = some q) : Go l X k_X11_wantN 0 [(0, rf X a0), (1, .int a1)] [] h (rI q) := by
  unfold f_X11_wantN at hf
  refine g_aload_n (pc := 0) 0 dX11_wantN_0 rfl rfl ?_
  refine g_iconst (pc := 1) (v := (0 : Int32)) dX11_wantN_1 (by decide) ?_
  refine g_iload_n (pc := 2) 1 dX11_wantN_2 rfl rfl ?_
  obtain ⟨v1, hcv1, hf⟩ := bd_some hf
  refine g_cSJ (pc := 3) (k2 := k_X11_leastOf) (av := [.int a1]) (q := (v1, h)) rfl dX11_wantN_3 ck_X11_leastOf m_1736 m_1737 (by decide) (by decide) rfl (by simp [rf_cat, rq_cat, ca_i, ca_l, ca_r]) (ct_X11_leastOf l X hcv1) ?_
  refine g_iload_n (pc := 6) 1 dX11_wantN_6 rfl rfl ?_
  obtain ⟨v2, hcv2, hf⟩ := bd_some hf
  refine g_cSJ (pc := 7) (k2 := k_X11_mostOf) (av := [.int a1]) (q := (v2, h)) rfl dX11_wantN_7 ck_X11_mostOf m_1743 m_1744 (by decide) (by decide) rfl (by simp [rf_cat, rq_cat, ca_i, ca_l, ca_r]) (ct_X11_mostOf l X hcv2) ?_
  refine g_iload_n (pc := 10) 1 dX11_wantN_10 rfl rfl ?_
  obtain ⟨v3, hcv3, hf⟩ := bd_some hf
  refine g_cSI (pc := 11) (k2 := k_X11_multipleOf) (av := [.int a1]) (q := (v3, h)) rfl dX11_wantN_11 ck_X11_multipleOf m_1752 m_1753 (by decide) (by decide) rfl (by simp [rf_cat, rq_cat, ca_i, ca_l, ca_r]) (ct_X11_multipleOf l X hcv3) ?_
  obtain ⟨g4, hf⟩ := gs_some hf
  obtain ⟨q5, hcq5, hf⟩ := bd_some hf
  refine g_cVI (pc := 14) (k2 := k_X11_wantNumber) (av := [.int (0 : Int32), .long v1, .long v2, .int v3]) (q := q5) rfl dX11_wantN_14 ck_X11_wantNumber m_1755 m_1757 m_72 (ci := 9) rfl (by decide) g4 (by decide) (by decide) rfl (by simp [rf_cat, rq_cat, ca_i, ca_l, ca_r]) (ct_X11_wantNumber l X hcq5) ?_
  rcases it_some hf with ⟨c6, hf⟩ | ⟨c6, hf⟩
  · refine g_ifne_t (pc := 17) (tgt := 22) dX11_wantN_17 (by decide) c6 ?_
    refine g_aload_n (pc := 22) 0 dX11_wantN_22 rfl rfl ?_
    refine g_iload_n (pc := 23) 1 dX11_wantN_23 rfl rfl ?_
    obtain ⟨g7, hf⟩ := gs_some hf
    obtain ⟨h8, eh8, hf⟩ := lt_some hf
    refine g_putI (pc := 24) fl_X11_461 dX11_wantN_24 g7 eh8 ?_
    refine g_iconst (pc := 27) (v := (1 : Int32)) dX11_wantN_27 (by decide) ?_
    obtain rfl := Option.some.inj hf
    exact g_zret (pc := 28) rfl rfl dX11_wantN_28
  · refine g_ifne_f (pc := 17) (tgt := 22) dX11_wantN_17 (by decide) (Decidable.of_not_not c6) ?_
    refine g_iconst (pc := 20) (v := (0 : Int32)) dX11_wantN_20 (by decide) ?_
    obtain rfl := Option.some.inj hf
    exact g_zret (pc := 21) rfl rfl dX11_wantN_21
theorem ct_X11_wantN (l : Launch) (X : Cx) {h : AH} {a0 : Nat} {a1 : Int32} {q : Int32 × AH} (hf : f_X11_wantN h a0 a1 = some q) : Ct l X k_X11_wantN [rf X a0, .int a1] h (rI q) := ct_of ck_X11_wantN (by simp [lg_sl, rf_cat, rq_cat, ca_i, ca_l, ca_r]) (by simp [lv_args, rf_cat, rq_cat, ca_i, ca_l, ca_r]) (ok_X11_wantN l X hf)
set_option maxRecDepth 100000 in
set_option maxHeartbeats 4000000 in
theorem ok_X11_wantComma (l : Launch) (X : Cx) {h : AH} {a0 : Nat} {q : Int32 × AH} (hf : f_X11_wantComma h a0 = some q) : Go l X k_X11_wantComma 0 [(0, rf X a0)] [] h (rI q) := by
  unfold f_X11_wantComma at hf
  refine g_aload_n (pc := 0) 0 dX11_wantComma_0 rfl rfl ?_
  refine g_bipush (pc := 1) (v := (44 : Int32)) dX11_wantComma_1 (by decide) ?_
  obtain ⟨g1, hf⟩ := gs_some hf
  obtain ⟨q2, hcq2, hf⟩ := bd_some hf
  refine g_cVI (pc := 3) (k2 := k_X11_wantSign) (av := [.int (44 : Int32)]) (q := q2) rfl dX11_wantComma_3 ck_X11_wantSign m_1724 m_1726 m_69 (ci := 9) rfl (by decide) g1 (by decide) (by decide) rfl (by simp [rf_cat, rq_cat, ca_i, ca_l, ca_r]) (ct_X11_wantSign l X hcq2) ?_
  obtain ⟨b3, hf⟩ := gb_some hf
  obtain rfl := Option.some.inj hf
  exact g_zret (pc := 6) rfl b3 dX11_wantComma_6
theorem ct_X11_wantComma (l : Launch) (X : Cx) {h : AH} {a0 : Nat} {q : Int32 × AH} (hf : f_X11_wantComma h a0 = some q) : Ct l X k_X11_wantComma [rf X a0] h (rI q) := ct_of ck_X11_wantComma (by simp [lg_sl, rf_cat, rq_cat, ca_i, ca_l, ca_r]) (by simp [lv_args, rf_cat, rq_cat, ca_i, ca_l, ca_r]) (ok_X11_wantComma l X hf)
set_option maxRecDepth 100000 in
set_option maxHeartbeats 4000000 in
theorem ok_X11_wantBase (l : Launch) (X : Cx) {h : AH} {a0 : Nat} {q : Int32 × AH} (hf : f_X11_wantBase h a0 = some q) : Go l X k_X11_wantBase 0 [(0, rf X a0)] [] h (rI q) := by
  unfold f_X11_wantBase at hf
  refine g_aload_n (pc := 0) 0 dX11_wantBase_0 rfl rfl ?_
  refine g_bipush (pc := 1) (v := (40 : Int32)) dX11_wantBase_1 (by decide) ?_
  obtain ⟨g1, hf⟩ := gs_some hf
  obtain ⟨q2, hcq2, hf⟩ := bd_some hf
  refine g_cVI (pc := 3) (k2 := k_X11_wantSign) (av := [.int (40 : Int32)]) (q := q2) rfl dX11_wantBase_3 ck_X11_wantSign m_1724 m_1726 m_69 (ci := 9) rfl (by decide) g1 (by decide) (by decide) rfl (by simp [rf_cat, rq_cat, ca_i, ca_l, ca_r]) (ct_X11_wantSign l X hcq2) ?_
  rcases it_some hf with ⟨c3, hf⟩ | ⟨c3, hf⟩
  · refine g_ifeq_t (pc := 6) (tgt := 31) dX11_wantBase_6 (by decide) c3 ?_
    refine g_iconst (pc := 31) (v := (0 : Int32)) dX11_wantBase_31 (by decide) ?_
    obtain rfl := Option.some.inj hf
    exact g_zret (pc := 32) rfl rfl dX11_wantBase_32
  · refine g_ifeq_f (pc := 6) (tgt := 31) dX11_wantBase_6 (by decide) c3 ?_
    refine g_aload_n (pc := 9) 0 dX11_wantBase_9 rfl rfl ?_
    refine g_bipush (pc := 10) (v := (15 : Int32)) dX11_wantBase_10 (by decide) ?_
    obtain ⟨g4, hf⟩ := gs_some hf
    obtain ⟨q5, hcq5, hf⟩ := bd_some hf
    refine g_cVI (pc := 12) (k2 := k_X11_wantRegister) (av := [.int (15 : Int32)]) (q := q5) rfl dX11_wantBase_12 ck_X11_wantRegister m_1713 m_1715 m_67 (ci := 9) rfl (by decide) g4 (by decide) (by decide) rfl (by simp [rf_cat, rq_cat, ca_i, ca_l, ca_r]) (ct_X11_wantRegister l X hcq5) ?_
    rcases it_some hf with ⟨c6, hf⟩ | ⟨c6, hf⟩
    · refine g_ifeq_t (pc := 15) (tgt := 31) dX11_wantBase_15 (by decide) c6 ?_
      refine g_iconst (pc := 31) (v := (0 : Int32)) dX11_wantBase_31 (by decide) ?_
      obtain rfl := Option.some.inj hf
      exact g_zret (pc := 32) rfl rfl dX11_wantBase_32
    · refine g_ifeq_f (pc := 15) (tgt := 31) dX11_wantBase_15 (by decide) c6 ?_
      refine g_aload_n (pc := 18) 0 dX11_wantBase_18 rfl rfl ?_
      refine g_bipush (pc := 19) (v := (41 : Int32)) dX11_wantBase_19 (by decide) ?_
      obtain ⟨g7, hf⟩ := gs_some hf
      obtain ⟨q8, hcq8, hf⟩ := bd_some hf
      refine g_cVI (pc := 21) (k2 := k_X11_wantSign) (av := [.int (41 : Int32)]) (q := q8) rfl dX11_wantBase_21 ck_X11_wantSign m_1724 m_1726 m_69 (ci := 9) rfl (by decide) g7 (by decide) (by decide) rfl (by simp [rf_cat, rq_cat, ca_i, ca_l, ca_r]) (ct_X11_wantSign l X hcq8) ?_
      rcases it_some hf with ⟨c9, hf⟩ | ⟨c9, hf⟩
      · refine g_ifeq_t (pc := 24) (tgt := 31) dX11_wantBase_24 (by decide) c9 ?_
        refine g_iconst (pc := 31) (v := (0 : Int32)) dX11_wantBase_31 (by decide) ?_
        obtain rfl := Option.some.inj hf
        exact g_zret (pc := 32) rfl rfl dX11_wantBase_32
      · refine g_ifeq_f (pc := 24) (tgt := 31) dX11_wantBase_24 (by decide) c9 ?_
        refine g_iconst (pc := 27) (v := (1 : Int32)) dX11_wantBase_27 (by decide) ?_
        refine g_goto (pc := 28) (tgt := 32) dX11_wantBase_28 (by decide) ?_
        obtain rfl := Option.some.inj hf
        exact g_zret (pc := 32) rfl rfl dX11_wantBase_32
theorem ct_X11_wantBase (l : Launch) (X : Cx) {h : AH} {a0 : Nat} {q : Int32 × AH} (hf : f_X11_wantBase h a0 = some q) : Ct l X k_X11_wantBase [rf X a0] h (rI q) := ct_of ck_X11_wantBase (by simp [lg_sl, rf_cat, rq_cat, ca_i, ca_l, ca_r]) (by simp [lv_args, rf_cat, rq_cat, ca_i, ca_l, ca_r]) (ok_X11_wantBase l X hf)
set_option maxRecDepth 100000 in
set_option maxHeartbeats 4000000 in
theorem ok_X11_wantParts_L225 (l : Launch) (X : Cx) (h : AH) (s0 : Int32) (q : Int32 × AH) (hf : f_X11_wantParts_L225 h s0 = some q) : Go l X k_X11_wantParts 225 [] [.int s0] h (rI q) := by
  unfold f_X11_wantParts_L225 at hf
  rcases it_some hf with ⟨c1, hf⟩ | ⟨c1, hf⟩
  · refine g_ifeq_t (pc := 225) (tgt := 232) dX11_wantParts_225 (by decide) c1 ?_
    refine g_iconst (pc := 232) (v := (0 : Int32)) dX11_wantParts_232 (by decide) ?_
    obtain rfl := Option.some.inj hf
    exact g_zret (pc := 233) rfl rfl dX11_wantParts_233
  · refine g_ifeq_f (pc := 225) (tgt := 232) dX11_wantParts_225 (by decide) c1 ?_
    refine g_iconst (pc := 228) (v := (1 : Int32)) dX11_wantParts_228 (by decide) ?_
    refine g_goto (pc := 229) (tgt := 233) dX11_wantParts_229 (by decide) ?_
    obtain rfl := Option.some.inj hf
    exact g_zret (pc := 233) rfl rfl dX11_wantParts_233
set_option maxRecDepth 100000 in
set_option maxHeartbeats 4000000 in
theorem ok_X11_wantParts_L353 (l : Launch) (X : Cx) (h : AH) (a0 : Nat) (s0 : Int32) (q : Int32 × AH) (hf : f_X11_wantParts_L353 h a0 s0 = some q) : Go l X k_X11_wantParts 353 [(0, rf X a0)] [.int s0] h (rI q) := by
  unfold f_X11_wantParts_L353 at hf
  rcases it_some hf with ⟨c1, hf⟩ | ⟨c1, hf⟩
  · refine g_ifeq_t (pc := 353) (tgt := 375) dX11_wantParts_353 (by decide) c1 ?_
    refine g_iconst (pc := 375) (v := (0 : Int32)) dX11_wantParts_375 (by decide) ?_
    obtain rfl := Option.some.inj hf
    exact g_zret (pc := 376) rfl rfl dX11_wantParts_376
  · refine g_ifeq_f (pc := 353) (tgt := 375) dX11_wantParts_353 (by decide) c1 ?_
    refine g_aload_n (pc := 356) 0 dX11_wantParts_356 rfl rfl ?_
    obtain ⟨g2, hf⟩ := gs_some hf
    obtain ⟨q3, hcq3, hf⟩ := bd_some hf
    refine g_cVI (pc := 357) (k2 := k_X11_wantComma) (av := []) (q := q3) rfl dX11_wantParts_357 ck_X11_wantComma m_1720 m_1722 m_68 (ci := 9) rfl (by decide) g2 (by decide) (by decide) rfl (by simp [rf_cat, rq_cat, ca_i, ca_l, ca_r]) (ct_X11_wantComma l X hcq3) ?_
    rcases it_some hf with ⟨c4, hf⟩ | ⟨c4, hf⟩
    · refine g_ifeq_t (pc := 360) (tgt := 375) dX11_wantParts_360 (by decide) c4 ?_
      refine g_iconst (pc := 375) (v := (0 : Int32)) dX11_wantParts_375 (by decide) ?_
      obtain rfl := Option.some.inj hf
      exact g_zret (pc := 376) rfl rfl dX11_wantParts_376
    · refine g_ifeq_f (pc := 360) (tgt := 375) dX11_wantParts_360 (by decide) c4 ?_
      refine g_aload_n (pc := 363) 0 dX11_wantParts_363 rfl rfl ?_
      refine g_iconst (pc := 364) (v := (4 : Int32)) dX11_wantParts_364 (by decide) ?_
      obtain ⟨g5, hf⟩ := gs_some hf
      obtain ⟨q6, hcq6, hf⟩ := bd_some hf
      refine g_cVI (pc := 365) (k2 := k_X11_wantN) (av := [.int (4 : Int32)]) (q := q6) rfl dX11_wantParts_365 ck_X11_wantN m_1732 m_1734 m_71 (ci := 9) rfl (by decide) g5 (by decide) (by decide) rfl (by simp [rf_cat, rq_cat, ca_i, ca_l, ca_r]) (ct_X11_wantN l X hcq6) ?_
      rcases it_some hf with ⟨c7, hf⟩ | ⟨c7, hf⟩
      · refine g_ifeq_t (pc := 368) (tgt := 375) dX11_wantParts_368 (by decide) c7 ?_
        refine g_iconst (pc := 375) (v := (0 : Int32)) dX11_wantParts_375 (by decide) ?_
        obtain rfl := Option.some.inj hf
        exact g_zret (pc := 376) rfl rfl dX11_wantParts_376
      · refine g_ifeq_f (pc := 368) (tgt := 375) dX11_wantParts_368 (by decide) c7 ?_
        refine g_iconst (pc := 371) (v := (1 : Int32)) dX11_wantParts_371 (by decide) ?_
        refine g_goto (pc := 372) (tgt := 376) dX11_wantParts_372 (by decide) ?_
        obtain rfl := Option.some.inj hf
        exact g_zret (pc := 376) rfl rfl dX11_wantParts_376
set_option maxRecDepth 100000 in
set_option maxHeartbeats 4000000 in
theorem ok_X11_wantParts_L489 (l : Launch) (X : Cx) (h : AH) (s0 : Int32) (q : Int32 × AH) (hf : f_X11_wantParts_L489 h s0 = some q) : Go l X k_X11_wantParts 489 [] [.int s0] h (rI q) := by
  unfold f_X11_wantParts_L489 at hf
  obtain ⟨b1, hf⟩ := gb_some hf
  obtain rfl := Option.some.inj hf
  exact g_zret (pc := 489) rfl b1 dX11_wantParts_489
set_option maxRecDepth 100000 in
set_option maxHeartbeats 4000000 in
theorem ok_X11_wantParts_L18 (l : Launch) (X : Cx) (h : AH) (a0 : Nat) (a1 : Int32) (s0 : Int32) (q : Int32 × AH) (hf : f_X11_wantParts_L18 h a0 a1 s0 = some q) : Go l X k_X11_wantParts 18 [(0, rf X a0), (1, .int a1)] [.int s0] h (rI q) := by
  unfold f_X11_wantParts_L18 at hf
  refine g_istore_n (pc := 18) (L' := [(3, .int s0), (0, rf X a0), (1, .int a1)]) dX11_wantParts_18 rfl (by decide) rfl rfl ?_
  refine g_iload_n (pc := 19) 2 dX11_wantParts_19 rfl rfl ?_
  rcases it_some hf with ⟨c1, hf⟩ | ⟨c1, hf⟩
  · refine g_tsw (pc := 20) (tgt := 104) (0 : Int32) dX11_wantParts_20 c1 (by decide +kernel) (by decide +kernel) (off := 84) (by decide +kernel) (by decide) ?_
    refine g_aload_n (pc := 104) 1 dX11_wantParts_104 rfl rfl ?_
    refine g_bipush (pc := 105) (v := (7 : Int32)) dX11_wantParts_105 (by decide) ?_
    obtain ⟨g2, hf⟩ := gs_some hf
    obtain ⟨q3, hcq3, hf⟩ := bd_some hf
    refine g_cVI (pc := 107) (k2 := k_X11_wantRegister) (av := [.int (7 : Int32)]) (q := q3) rfl dX11_wantParts_107 ck_X11_wantRegister m_1713 m_1715 m_67 (ci := 9) rfl (by decide) g2 (by decide) (by decide) rfl (by simp [rf_cat, rq_cat, ca_i, ca_l, ca_r]) (ct_X11_wantRegister l X hcq3) ?_
    rcases it_some hf with ⟨c4, hf⟩ | ⟨c4, hf⟩
    · refine g_ifeq_t (pc := 110) (tgt := 149) dX11_wantParts_110 (by decide) c4 ?_
      refine g_iconst (pc := 149) (v := (0 : Int32)) dX11_wantParts_149 (by decide) ?_
      obtain rfl := Option.some.inj hf
      exact g_zret (pc := 150) rfl rfl dX11_wantParts_150
    · refine g_ifeq_f (pc := 110) (tgt := 149) dX11_wantParts_110 (by decide) c4 ?_
      refine g_aload_n (pc := 113) 1 dX11_wantParts_113 rfl rfl ?_
      obtain ⟨g5, hf⟩ := gs_some hf
      obtain ⟨q6, hcq6, hf⟩ := bd_some hf
      refine g_cVI (pc := 114) (k2 := k_X11_wantComma) (av := []) (q := q6) rfl dX11_wantParts_114 ck_X11_wantComma m_1720 m_1722 m_68 (ci := 9) rfl (by decide) g5 (by decide) (by decide) rfl (by simp [rf_cat, rq_cat, ca_i, ca_l, ca_r]) (ct_X11_wantComma l X hcq6) ?_
      rcases it_some hf with ⟨c7, hf⟩ | ⟨c7, hf⟩
      · refine g_ifeq_t (pc := 117) (tgt := 149) dX11_wantParts_117 (by decide) c7 ?_
        refine g_iconst (pc := 149) (v := (0 : Int32)) dX11_wantParts_149 (by decide) ?_
        obtain rfl := Option.some.inj hf
        exact g_zret (pc := 150) rfl rfl dX11_wantParts_150
      · refine g_ifeq_f (pc := 117) (tgt := 149) dX11_wantParts_117 (by decide) c7 ?_
        refine g_aload_n (pc := 120) 1 dX11_wantParts_120 rfl rfl ?_
        refine g_bipush (pc := 121) (v := (15 : Int32)) dX11_wantParts_121 (by decide) ?_
        obtain ⟨g8, hf⟩ := gs_some hf
        obtain ⟨q9, hcq9, hf⟩ := bd_some hf
        refine g_cVI (pc := 123) (k2 := k_X11_wantRegister) (av := [.int (15 : Int32)]) (q := q9) rfl dX11_wantParts_123 ck_X11_wantRegister m_1713 m_1715 m_67 (ci := 9) rfl (by decide) g8 (by decide) (by decide) rfl (by simp [rf_cat, rq_cat, ca_i, ca_l, ca_r]) (ct_X11_wantRegister l X hcq9) ?_
        rcases it_some hf with ⟨c10, hf⟩ | ⟨c10, hf⟩
        · refine g_ifeq_t (pc := 126) (tgt := 149) dX11_wantParts_126 (by decide) c10 ?_
          refine g_iconst (pc := 149) (v := (0 : Int32)) dX11_wantParts_149 (by decide) ?_
          obtain rfl := Option.some.inj hf
          exact g_zret (pc := 150) rfl rfl dX11_wantParts_150
        · refine g_ifeq_f (pc := 126) (tgt := 149) dX11_wantParts_126 (by decide) c10 ?_
          refine g_aload_n (pc := 129) 1 dX11_wantParts_129 rfl rfl ?_
          obtain ⟨g11, hf⟩ := gs_some hf
          obtain ⟨q12, hcq12, hf⟩ := bd_some hf
          refine g_cVI (pc := 130) (k2 := k_X11_wantComma) (av := []) (q := q12) rfl dX11_wantParts_130 ck_X11_wantComma m_1720 m_1722 m_68 (ci := 9) rfl (by decide) g11 (by decide) (by decide) rfl (by simp [rf_cat, rq_cat, ca_i, ca_l, ca_r]) (ct_X11_wantComma l X hcq12) ?_
          rcases it_some hf with ⟨c13, hf⟩ | ⟨c13, hf⟩
          · refine g_ifeq_t (pc := 133) (tgt := 149) dX11_wantParts_133 (by decide) c13 ?_
            refine g_iconst (pc := 149) (v := (0 : Int32)) dX11_wantParts_149 (by decide) ?_
            obtain rfl := Option.some.inj hf
            exact g_zret (pc := 150) rfl rfl dX11_wantParts_150
          · refine g_ifeq_f (pc := 133) (tgt := 149) dX11_wantParts_133 (by decide) c13 ?_
            refine g_aload_n (pc := 136) 1 dX11_wantParts_136 rfl rfl ?_
            refine g_bipush (pc := 137) (v := (20 : Int32)) dX11_wantParts_137 (by decide) ?_
            obtain ⟨g14, hf⟩ := gs_some hf
            obtain ⟨q15, hcq15, hf⟩ := bd_some hf
            refine g_cVI (pc := 139) (k2 := k_X11_wantRegister) (av := [.int (20 : Int32)]) (q := q15) rfl dX11_wantParts_139 ck_X11_wantRegister m_1713 m_1715 m_67 (ci := 9) rfl (by decide) g14 (by decide) (by decide) rfl (by simp [rf_cat, rq_cat, ca_i, ca_l, ca_r]) (ct_X11_wantRegister l X hcq15) ?_
            rcases it_some hf with ⟨c16, hf⟩ | ⟨c16, hf⟩
            · refine g_ifeq_t (pc := 142) (tgt := 149) dX11_wantParts_142 (by decide) c16 ?_
              refine g_iconst (pc := 149) (v := (0 : Int32)) dX11_wantParts_149 (by decide) ?_
              obtain rfl := Option.some.inj hf
              exact g_zret (pc := 150) rfl rfl dX11_wantParts_150
            · refine g_ifeq_f (pc := 142) (tgt := 149) dX11_wantParts_142 (by decide) c16 ?_
              refine g_iconst (pc := 145) (v := (1 : Int32)) dX11_wantParts_145 (by decide) ?_
              refine g_goto (pc := 146) (tgt := 150) dX11_wantParts_146 (by decide) ?_
              obtain rfl := Option.some.inj hf
              exact g_zret (pc := 150) rfl rfl dX11_wantParts_150
  ·
    rcases it_some hf with ⟨c17, hf⟩ | ⟨c17, hf⟩
    · refine g_tsw (pc := 20) (tgt := 151) (1 : Int32) dX11_wantParts_20 c17 (by decide +kernel) (by decide +kernel) (off := 131) (by decide +kernel) (by decide) ?_
      refine g_aload_n (pc := 151) 1 dX11_wantParts_151 rfl rfl ?_
      refine g_bipush (pc := 152) (v := (7 : Int32)) dX11_wantParts_152 (by decide) ?_
      obtain ⟨g18, hf⟩ := gs_some hf
      obtain ⟨q19, hcq19, hf⟩ := bd_some hf
      refine g_cVI (pc := 154) (k2 := k_X11_wantRegister) (av := [.int (7 : Int32)]) (q := q19) rfl dX11_wantParts_154 ck_X11_wantRegister m_1713 m_1715 m_67 (ci := 9) rfl (by decide) g18 (by decide) (by decide) rfl (by simp [rf_cat, rq_cat, ca_i, ca_l, ca_r]) (ct_X11_wantRegister l X hcq19) ?_
      rcases it_some hf with ⟨c20, hf⟩ | ⟨c20, hf⟩
      · refine g_ifeq_t (pc := 157) (tgt := 195) dX11_wantParts_157 (by decide) c20 ?_
        refine g_iconst (pc := 195) (v := (0 : Int32)) dX11_wantParts_195 (by decide) ?_
        obtain rfl := Option.some.inj hf
        exact g_zret (pc := 196) rfl rfl dX11_wantParts_196
      · refine g_ifeq_f (pc := 157) (tgt := 195) dX11_wantParts_157 (by decide) c20 ?_
        refine g_aload_n (pc := 160) 1 dX11_wantParts_160 rfl rfl ?_
        obtain ⟨g21, hf⟩ := gs_some hf
        obtain ⟨q22, hcq22, hf⟩ := bd_some hf
        refine g_cVI (pc := 161) (k2 := k_X11_wantComma) (av := []) (q := q22) rfl dX11_wantParts_161 ck_X11_wantComma m_1720 m_1722 m_68 (ci := 9) rfl (by decide) g21 (by decide) (by decide) rfl (by simp [rf_cat, rq_cat, ca_i, ca_l, ca_r]) (ct_X11_wantComma l X hcq22) ?_
        rcases it_some hf with ⟨c23, hf⟩ | ⟨c23, hf⟩
        · refine g_ifeq_t (pc := 164) (tgt := 195) dX11_wantParts_164 (by decide) c23 ?_
          refine g_iconst (pc := 195) (v := (0 : Int32)) dX11_wantParts_195 (by decide) ?_
          obtain rfl := Option.some.inj hf
          exact g_zret (pc := 196) rfl rfl dX11_wantParts_196
        · refine g_ifeq_f (pc := 164) (tgt := 195) dX11_wantParts_164 (by decide) c23 ?_
          refine g_aload_n (pc := 167) 1 dX11_wantParts_167 rfl rfl ?_
          refine g_bipush (pc := 168) (v := (15 : Int32)) dX11_wantParts_168 (by decide) ?_
          obtain ⟨g24, hf⟩ := gs_some hf
          obtain ⟨q25, hcq25, hf⟩ := bd_some hf
          refine g_cVI (pc := 170) (k2 := k_X11_wantRegister) (av := [.int (15 : Int32)]) (q := q25) rfl dX11_wantParts_170 ck_X11_wantRegister m_1713 m_1715 m_67 (ci := 9) rfl (by decide) g24 (by decide) (by decide) rfl (by simp [rf_cat, rq_cat, ca_i, ca_l, ca_r]) (ct_X11_wantRegister l X hcq25) ?_
          rcases it_some hf with ⟨c26, hf⟩ | ⟨c26, hf⟩
          · refine g_ifeq_t (pc := 173) (tgt := 195) dX11_wantParts_173 (by decide) c26 ?_
            refine g_iconst (pc := 195) (v := (0 : Int32)) dX11_wantParts_195 (by decide) ?_
            obtain rfl := Option.some.inj hf
            exact g_zret (pc := 196) rfl rfl dX11_wantParts_196
          · refine g_ifeq_f (pc := 173) (tgt := 195) dX11_wantParts_173 (by decide) c26 ?_
            refine g_aload_n (pc := 176) 1 dX11_wantParts_176 rfl rfl ?_
            obtain ⟨g27, hf⟩ := gs_some hf
            obtain ⟨q28, hcq28, hf⟩ := bd_some hf
            refine g_cVI (pc := 177) (k2 := k_X11_wantComma) (av := []) (q := q28) rfl dX11_wantParts_177 ck_X11_wantComma m_1720 m_1722 m_68 (ci := 9) rfl (by decide) g27 (by decide) (by decide) rfl (by simp [rf_cat, rq_cat, ca_i, ca_l, ca_r]) (ct_X11_wantComma l X hcq28) ?_
            rcases it_some hf with ⟨c29, hf⟩ | ⟨c29, hf⟩
            · refine g_ifeq_t (pc := 180) (tgt := 195) dX11_wantParts_180 (by decide) c29 ?_
              refine g_iconst (pc := 195) (v := (0 : Int32)) dX11_wantParts_195 (by decide) ?_
              obtain rfl := Option.some.inj hf
              exact g_zret (pc := 196) rfl rfl dX11_wantParts_196
            · refine g_ifeq_f (pc := 180) (tgt := 195) dX11_wantParts_180 (by decide) c29 ?_
              refine g_aload_n (pc := 183) 1 dX11_wantParts_183 rfl rfl ?_
              refine g_iload_n (pc := 184) 0 dX11_wantParts_184 rfl rfl ?_
              obtain ⟨g30, hf⟩ := gs_some hf
              obtain ⟨q31, hcq31, hf⟩ := bd_some hf
              refine g_cVI (pc := 185) (k2 := k_X11_wantN) (av := [.int s0]) (q := q31) rfl dX11_wantParts_185 ck_X11_wantN m_1732 m_1734 m_71 (ci := 9) rfl (by decide) g30 (by decide) (by decide) rfl (by simp [rf_cat, rq_cat, ca_i, ca_l, ca_r]) (ct_X11_wantN l X hcq31) ?_
              rcases it_some hf with ⟨c32, hf⟩ | ⟨c32, hf⟩
              · refine g_ifeq_t (pc := 188) (tgt := 195) dX11_wantParts_188 (by decide) c32 ?_
                refine g_iconst (pc := 195) (v := (0 : Int32)) dX11_wantParts_195 (by decide) ?_
                obtain rfl := Option.some.inj hf
                exact g_zret (pc := 196) rfl rfl dX11_wantParts_196
              · refine g_ifeq_f (pc := 188) (tgt := 195) dX11_wantParts_188 (by decide) c32 ?_
                refine g_iconst (pc := 191) (v := (1 : Int32)) dX11_wantParts_191 (by decide) ?_
                refine g_goto (pc := 192) (tgt := 196) dX11_wantParts_192 (by decide) ?_
                obtain rfl := Option.some.inj hf
                exact g_zret (pc := 196) rfl rfl dX11_wantParts_196
    ·
      rcases it_some hf with ⟨c33, hf⟩ | ⟨c33, hf⟩
      · refine g_tsw (pc := 20) (tgt := 197) (2 : Int32) dX11_wantParts_20 c33 (by decide +kernel) (by decide +kernel) (off := 177) (by decide +kernel) (by decide) ?_
        refine g_aload_n (pc := 197) 1 dX11_wantParts_197 rfl rfl ?_
        refine g_bipush (pc := 198) (v := (7 : Int32)) dX11_wantParts_198 (by decide) ?_
        obtain ⟨g34, hf⟩ := gs_some hf
        obtain ⟨q35, hcq35, hf⟩ := bd_some hf
        refine g_cVI (pc := 200) (k2 := k_X11_wantRegister) (av := [.int (7 : Int32)]) (q := q35) rfl dX11_wantParts_200 ck_X11_wantRegister m_1713 m_1715 m_67 (ci := 9) rfl (by decide) g34 (by decide) (by decide) rfl (by simp [rf_cat, rq_cat, ca_i, ca_l, ca_r]) (ct_X11_wantRegister l X hcq35) ?_
        rcases it_some hf with ⟨c36, hf⟩ | ⟨c36, hf⟩
        · refine g_ifeq_t (pc := 203) (tgt := 232) dX11_wantParts_203 (by decide) c36 ?_
          refine g_iconst (pc := 232) (v := (0 : Int32)) dX11_wantParts_232 (by decide) ?_
          obtain rfl := Option.some.inj hf
          exact g_zret (pc := 233) rfl rfl dX11_wantParts_233
        · refine g_ifeq_f (pc := 203) (tgt := 232) dX11_wantParts_203 (by decide) c36 ?_
          refine g_aload_n (pc := 206) 1 dX11_wantParts_206 rfl rfl ?_
          obtain ⟨g37, hf⟩ := gs_some hf
          obtain ⟨q38, hcq38, hf⟩ := bd_some hf
          refine g_cVI (pc := 207) (k2 := k_X11_wantComma) (av := []) (q := q38) rfl dX11_wantParts_207 ck_X11_wantComma m_1720 m_1722 m_68 (ci := 9) rfl (by decide) g37 (by decide) (by decide) rfl (by simp [rf_cat, rq_cat, ca_i, ca_l, ca_r]) (ct_X11_wantComma l X hcq38) ?_
          rcases it_some hf with ⟨c39, hf⟩ | ⟨c39, hf⟩
          · refine g_ifeq_t (pc := 210) (tgt := 232) dX11_wantParts_210 (by decide) c39 ?_
            refine g_iconst (pc := 232) (v := (0 : Int32)) dX11_wantParts_232 (by decide) ?_
            obtain rfl := Option.some.inj hf
            exact g_zret (pc := 233) rfl rfl dX11_wantParts_233
          · refine g_ifeq_f (pc := 210) (tgt := 232) dX11_wantParts_210 (by decide) c39 ?_
            refine g_aload_n (pc := 213) 1 dX11_wantParts_213 rfl rfl ?_
            refine g_iconst (pc := 214) (v := (0 : Int32)) dX11_wantParts_214 (by decide) ?_
            obtain ⟨g40, hf⟩ := gs_some hf
            obtain ⟨q41, hcq41, hf⟩ := bd_some hf
            refine g_cVI (pc := 215) (k2 := k_X11_wantN) (av := [.int (0 : Int32)]) (q := q41) rfl dX11_wantParts_215 ck_X11_wantN m_1732 m_1734 m_71 (ci := 9) rfl (by decide) g40 (by decide) (by decide) rfl (by simp [rf_cat, rq_cat, ca_i, ca_l, ca_r]) (ct_X11_wantN l X hcq41) ?_
            rcases it_some hf with ⟨c42, hf⟩ | ⟨c42, hf⟩
            · refine g_ifeq_t (pc := 218) (tgt := 232) dX11_wantParts_218 (by decide) c42 ?_
              refine g_iconst (pc := 232) (v := (0 : Int32)) dX11_wantParts_232 (by decide) ?_
              obtain rfl := Option.some.inj hf
              exact g_zret (pc := 233) rfl rfl dX11_wantParts_233
            · refine g_ifeq_f (pc := 218) (tgt := 232) dX11_wantParts_218 (by decide) c42 ?_
              refine g_aload_n (pc := 221) 1 dX11_wantParts_221 rfl rfl ?_
              obtain ⟨g43, hf⟩ := gs_some hf
              obtain ⟨q44, hcq44, hf⟩ := bd_some hf
              refine g_cVI (pc := 222) (k2 := k_X11_wantBase) (av := []) (q := q44) rfl dX11_wantParts_222 ck_X11_wantBase m_1759 m_1761 m_73 (ci := 9) rfl (by decide) g43 (by decide) (by decide) rfl (by simp [rf_cat, rq_cat, ca_i, ca_l, ca_r]) (ct_X11_wantBase l X hcq44) ?_
              refine g_sub [] rfl ?_
              exact ok_X11_wantParts_L225 l X q44.2 q44.1 q hf
      ·
        rcases it_some hf with ⟨c45, hf⟩ | ⟨c45, hf⟩
        · refine g_tsw (pc := 20) (tgt := 234) (3 : Int32) dX11_wantParts_20 c45 (by decide +kernel) (by decide +kernel) (off := 214) (by decide +kernel) (by decide) ?_
          refine g_aload_n (pc := 234) 1 dX11_wantParts_234 rfl rfl ?_
          refine g_bipush (pc := 235) (v := (20 : Int32)) dX11_wantParts_235 (by decide) ?_
          obtain ⟨g46, hf⟩ := gs_some hf
          obtain ⟨q47, hcq47, hf⟩ := bd_some hf
          refine g_cVI (pc := 237) (k2 := k_X11_wantRegister) (av := [.int (20 : Int32)]) (q := q47) rfl dX11_wantParts_237 ck_X11_wantRegister m_1713 m_1715 m_67 (ci := 9) rfl (by decide) g46 (by decide) (by decide) rfl (by simp [rf_cat, rq_cat, ca_i, ca_l, ca_r]) (ct_X11_wantRegister l X hcq47) ?_
          rcases it_some hf with ⟨c48, hf⟩ | ⟨c48, hf⟩
          · refine g_ifeq_t (pc := 240) (tgt := 269) dX11_wantParts_240 (by decide) c48 ?_
            refine g_iconst (pc := 269) (v := (0 : Int32)) dX11_wantParts_269 (by decide) ?_
            obtain rfl := Option.some.inj hf
            exact g_zret (pc := 270) rfl rfl dX11_wantParts_270
          · refine g_ifeq_f (pc := 240) (tgt := 269) dX11_wantParts_240 (by decide) c48 ?_
            refine g_aload_n (pc := 243) 1 dX11_wantParts_243 rfl rfl ?_
            obtain ⟨g49, hf⟩ := gs_some hf
            obtain ⟨q50, hcq50, hf⟩ := bd_some hf
            refine g_cVI (pc := 244) (k2 := k_X11_wantComma) (av := []) (q := q50) rfl dX11_wantParts_244 ck_X11_wantComma m_1720 m_1722 m_68 (ci := 9) rfl (by decide) g49 (by decide) (by decide) rfl (by simp [rf_cat, rq_cat, ca_i, ca_l, ca_r]) (ct_X11_wantComma l X hcq50) ?_
            rcases it_some hf with ⟨c51, hf⟩ | ⟨c51, hf⟩
            · refine g_ifeq_t (pc := 247) (tgt := 269) dX11_wantParts_247 (by decide) c51 ?_
              refine g_iconst (pc := 269) (v := (0 : Int32)) dX11_wantParts_269 (by decide) ?_
              obtain rfl := Option.some.inj hf
              exact g_zret (pc := 270) rfl rfl dX11_wantParts_270
            · refine g_ifeq_f (pc := 247) (tgt := 269) dX11_wantParts_247 (by decide) c51 ?_
              refine g_aload_n (pc := 250) 1 dX11_wantParts_250 rfl rfl ?_
              refine g_iconst (pc := 251) (v := (1 : Int32)) dX11_wantParts_251 (by decide) ?_
              obtain ⟨g52, hf⟩ := gs_some hf
              obtain ⟨q53, hcq53, hf⟩ := bd_some hf
              refine g_cVI (pc := 252) (k2 := k_X11_wantN) (av := [.int (1 : Int32)]) (q := q53) rfl dX11_wantParts_252 ck_X11_wantN m_1732 m_1734 m_71 (ci := 9) rfl (by decide) g52 (by decide) (by decide) rfl (by simp [rf_cat, rq_cat, ca_i, ca_l, ca_r]) (ct_X11_wantN l X hcq53) ?_
              rcases it_some hf with ⟨c54, hf⟩ | ⟨c54, hf⟩
              · refine g_ifeq_t (pc := 255) (tgt := 269) dX11_wantParts_255 (by decide) c54 ?_
                refine g_iconst (pc := 269) (v := (0 : Int32)) dX11_wantParts_269 (by decide) ?_
                obtain rfl := Option.some.inj hf
                exact g_zret (pc := 270) rfl rfl dX11_wantParts_270
              · refine g_ifeq_f (pc := 255) (tgt := 269) dX11_wantParts_255 (by decide) c54 ?_
                refine g_aload_n (pc := 258) 1 dX11_wantParts_258 rfl rfl ?_
                obtain ⟨g55, hf⟩ := gs_some hf
                obtain ⟨q56, hcq56, hf⟩ := bd_some hf
                refine g_cVI (pc := 259) (k2 := k_X11_wantBase) (av := []) (q := q56) rfl dX11_wantParts_259 ck_X11_wantBase m_1759 m_1761 m_73 (ci := 9) rfl (by decide) g55 (by decide) (by decide) rfl (by simp [rf_cat, rq_cat, ca_i, ca_l, ca_r]) (ct_X11_wantBase l X hcq56) ?_
                rcases it_some hf with ⟨c57, hf⟩ | ⟨c57, hf⟩
                · refine g_ifeq_t (pc := 262) (tgt := 269) dX11_wantParts_262 (by decide) c57 ?_
                  refine g_iconst (pc := 269) (v := (0 : Int32)) dX11_wantParts_269 (by decide) ?_
                  obtain rfl := Option.some.inj hf
                  exact g_zret (pc := 270) rfl rfl dX11_wantParts_270
                · refine g_ifeq_f (pc := 262) (tgt := 269) dX11_wantParts_262 (by decide) c57 ?_
                  refine g_iconst (pc := 265) (v := (1 : Int32)) dX11_wantParts_265 (by decide) ?_
                  refine g_goto (pc := 266) (tgt := 270) dX11_wantParts_266 (by decide) ?_
                  obtain rfl := Option.some.inj hf
                  exact g_zret (pc := 270) rfl rfl dX11_wantParts_270
        ·
          rcases it_some hf with ⟨c58, hf⟩ | ⟨c58, hf⟩
          · refine g_tsw (pc := 20) (tgt := 271) (4 : Int32) dX11_wantParts_20 c58 (by decide +kernel) (by decide +kernel) (off := 251) (by decide +kernel) (by decide) ?_
            refine g_aload_n (pc := 271) 1 dX11_wantParts_271 rfl rfl ?_
            refine g_bipush (pc := 272) (v := (15 : Int32)) dX11_wantParts_272 (by decide) ?_
            obtain ⟨g59, hf⟩ := gs_some hf
            obtain ⟨q60, hcq60, hf⟩ := bd_some hf
            refine g_cVI (pc := 274) (k2 := k_X11_wantRegister) (av := [.int (15 : Int32)]) (q := q60) rfl dX11_wantParts_274 ck_X11_wantRegister m_1713 m_1715 m_67 (ci := 9) rfl (by decide) g59 (by decide) (by decide) rfl (by simp [rf_cat, rq_cat, ca_i, ca_l, ca_r]) (ct_X11_wantRegister l X hcq60) ?_
            rcases it_some hf with ⟨c61, hf⟩ | ⟨c61, hf⟩
            · refine g_ifeq_t (pc := 277) (tgt := 315) dX11_wantParts_277 (by decide) c61 ?_
              refine g_iconst (pc := 315) (v := (0 : Int32)) dX11_wantParts_315 (by decide) ?_
              obtain rfl := Option.some.inj hf
              exact g_zret (pc := 316) rfl rfl dX11_wantParts_316
            · refine g_ifeq_f (pc := 277) (tgt := 315) dX11_wantParts_277 (by decide) c61 ?_
              refine g_aload_n (pc := 280) 1 dX11_wantParts_280 rfl rfl ?_
              obtain ⟨g62, hf⟩ := gs_some hf
              obtain ⟨q63, hcq63, hf⟩ := bd_some hf
              refine g_cVI (pc := 281) (k2 := k_X11_wantComma) (av := []) (q := q63) rfl dX11_wantParts_281 ck_X11_wantComma m_1720 m_1722 m_68 (ci := 9) rfl (by decide) g62 (by decide) (by decide) rfl (by simp [rf_cat, rq_cat, ca_i, ca_l, ca_r]) (ct_X11_wantComma l X hcq63) ?_
              rcases it_some hf with ⟨c64, hf⟩ | ⟨c64, hf⟩
              · refine g_ifeq_t (pc := 284) (tgt := 315) dX11_wantParts_284 (by decide) c64 ?_
                refine g_iconst (pc := 315) (v := (0 : Int32)) dX11_wantParts_315 (by decide) ?_
                obtain rfl := Option.some.inj hf
                exact g_zret (pc := 316) rfl rfl dX11_wantParts_316
              · refine g_ifeq_f (pc := 284) (tgt := 315) dX11_wantParts_284 (by decide) c64 ?_
                refine g_aload_n (pc := 287) 1 dX11_wantParts_287 rfl rfl ?_
                refine g_bipush (pc := 288) (v := (20 : Int32)) dX11_wantParts_288 (by decide) ?_
                obtain ⟨g65, hf⟩ := gs_some hf
                obtain ⟨q66, hcq66, hf⟩ := bd_some hf
                refine g_cVI (pc := 290) (k2 := k_X11_wantRegister) (av := [.int (20 : Int32)]) (q := q66) rfl dX11_wantParts_290 ck_X11_wantRegister m_1713 m_1715 m_67 (ci := 9) rfl (by decide) g65 (by decide) (by decide) rfl (by simp [rf_cat, rq_cat, ca_i, ca_l, ca_r]) (ct_X11_wantRegister l X hcq66) ?_
                rcases it_some hf with ⟨c67, hf⟩ | ⟨c67, hf⟩
                · refine g_ifeq_t (pc := 293) (tgt := 315) dX11_wantParts_293 (by decide) c67 ?_
                  refine g_iconst (pc := 315) (v := (0 : Int32)) dX11_wantParts_315 (by decide) ?_
                  obtain rfl := Option.some.inj hf
                  exact g_zret (pc := 316) rfl rfl dX11_wantParts_316
                · refine g_ifeq_f (pc := 293) (tgt := 315) dX11_wantParts_293 (by decide) c67 ?_
                  refine g_aload_n (pc := 296) 1 dX11_wantParts_296 rfl rfl ?_
                  obtain ⟨g68, hf⟩ := gs_some hf
                  obtain ⟨q69, hcq69, hf⟩ := bd_some hf
                  refine g_cVI (pc := 297) (k2 := k_X11_wantComma) (av := []) (q := q69) rfl dX11_wantParts_297 ck_X11_wantComma m_1720 m_1722 m_68 (ci := 9) rfl (by decide) g68 (by decide) (by decide) rfl (by simp [rf_cat, rq_cat, ca_i, ca_l, ca_r]) (ct_X11_wantComma l X hcq69) ?_
                  rcases it_some hf with ⟨c70, hf⟩ | ⟨c70, hf⟩
                  · refine g_ifeq_t (pc := 300) (tgt := 315) dX11_wantParts_300 (by decide) c70 ?_
                    refine g_iconst (pc := 315) (v := (0 : Int32)) dX11_wantParts_315 (by decide) ?_
                    obtain rfl := Option.some.inj hf
                    exact g_zret (pc := 316) rfl rfl dX11_wantParts_316
                  · refine g_ifeq_f (pc := 300) (tgt := 315) dX11_wantParts_300 (by decide) c70 ?_
                    refine g_aload_n (pc := 303) 1 dX11_wantParts_303 rfl rfl ?_
                    refine g_iconst (pc := 304) (v := (2 : Int32)) dX11_wantParts_304 (by decide) ?_
                    obtain ⟨g71, hf⟩ := gs_some hf
                    obtain ⟨q72, hcq72, hf⟩ := bd_some hf
                    refine g_cVI (pc := 305) (k2 := k_X11_wantN) (av := [.int (2 : Int32)]) (q := q72) rfl dX11_wantParts_305 ck_X11_wantN m_1732 m_1734 m_71 (ci := 9) rfl (by decide) g71 (by decide) (by decide) rfl (by simp [rf_cat, rq_cat, ca_i, ca_l, ca_r]) (ct_X11_wantN l X hcq72) ?_
                    rcases it_some hf with ⟨c73, hf⟩ | ⟨c73, hf⟩
                    · refine g_ifeq_t (pc := 308) (tgt := 315) dX11_wantParts_308 (by decide) c73 ?_
                      refine g_iconst (pc := 315) (v := (0 : Int32)) dX11_wantParts_315 (by decide) ?_
                      obtain rfl := Option.some.inj hf
                      exact g_zret (pc := 316) rfl rfl dX11_wantParts_316
                    · refine g_ifeq_f (pc := 308) (tgt := 315) dX11_wantParts_308 (by decide) c73 ?_
                      refine g_iconst (pc := 311) (v := (1 : Int32)) dX11_wantParts_311 (by decide) ?_
                      refine g_goto (pc := 312) (tgt := 316) dX11_wantParts_312 (by decide) ?_
                      obtain rfl := Option.some.inj hf
                      exact g_zret (pc := 316) rfl rfl dX11_wantParts_316
          ·
            rcases it_some hf with ⟨c74, hf⟩ | ⟨c74, hf⟩
            · refine g_tsw (pc := 20) (tgt := 317) (5 : Int32) dX11_wantParts_20 c74 (by decide +kernel) (by decide +kernel) (off := 297) (by decide +kernel) (by decide) ?_
              refine g_aload_n (pc := 317) 1 dX11_wantParts_317 rfl rfl ?_
              refine g_bipush (pc := 318) (v := (7 : Int32)) dX11_wantParts_318 (by decide) ?_
              obtain ⟨g75, hf⟩ := gs_some hf
              obtain ⟨q76, hcq76, hf⟩ := bd_some hf
              refine g_cVI (pc := 320) (k2 := k_X11_wantRegister) (av := [.int (7 : Int32)]) (q := q76) rfl dX11_wantParts_320 ck_X11_wantRegister m_1713 m_1715 m_67 (ci := 9) rfl (by decide) g75 (by decide) (by decide) rfl (by simp [rf_cat, rq_cat, ca_i, ca_l, ca_r]) (ct_X11_wantRegister l X hcq76) ?_
              rcases it_some hf with ⟨c77, hf⟩ | ⟨c77, hf⟩
              · refine g_ifeq_t (pc := 323) (tgt := 345) dX11_wantParts_323 (by decide) c77 ?_
                refine g_iconst (pc := 345) (v := (0 : Int32)) dX11_wantParts_345 (by decide) ?_
                obtain rfl := Option.some.inj hf
                exact g_zret (pc := 346) rfl rfl dX11_wantParts_346
              · refine g_ifeq_f (pc := 323) (tgt := 345) dX11_wantParts_323 (by decide) c77 ?_
                refine g_aload_n (pc := 326) 1 dX11_wantParts_326 rfl rfl ?_
                obtain ⟨g78, hf⟩ := gs_some hf
                obtain ⟨q79, hcq79, hf⟩ := bd_some hf
                refine g_cVI (pc := 327) (k2 := k_X11_wantComma) (av := []) (q := q79) rfl dX11_wantParts_327 ck_X11_wantComma m_1720 m_1722 m_68 (ci := 9) rfl (by decide) g78 (by decide) (by decide) rfl (by simp [rf_cat, rq_cat, ca_i, ca_l, ca_r]) (ct_X11_wantComma l X hcq79) ?_
                rcases it_some hf with ⟨c80, hf⟩ | ⟨c80, hf⟩
                · refine g_ifeq_t (pc := 330) (tgt := 345) dX11_wantParts_330 (by decide) c80 ?_
                  refine g_iconst (pc := 345) (v := (0 : Int32)) dX11_wantParts_345 (by decide) ?_
                  obtain rfl := Option.some.inj hf
                  exact g_zret (pc := 346) rfl rfl dX11_wantParts_346
                · refine g_ifeq_f (pc := 330) (tgt := 345) dX11_wantParts_330 (by decide) c80 ?_
                  refine g_aload_n (pc := 333) 1 dX11_wantParts_333 rfl rfl ?_
                  refine g_iconst (pc := 334) (v := (3 : Int32)) dX11_wantParts_334 (by decide) ?_
                  obtain ⟨g81, hf⟩ := gs_some hf
                  obtain ⟨q82, hcq82, hf⟩ := bd_some hf
                  refine g_cVI (pc := 335) (k2 := k_X11_wantN) (av := [.int (3 : Int32)]) (q := q82) rfl dX11_wantParts_335 ck_X11_wantN m_1732 m_1734 m_71 (ci := 9) rfl (by decide) g81 (by decide) (by decide) rfl (by simp [rf_cat, rq_cat, ca_i, ca_l, ca_r]) (ct_X11_wantN l X hcq82) ?_
                  rcases it_some hf with ⟨c83, hf⟩ | ⟨c83, hf⟩
                  · refine g_ifeq_t (pc := 338) (tgt := 345) dX11_wantParts_338 (by decide) c83 ?_
                    refine g_iconst (pc := 345) (v := (0 : Int32)) dX11_wantParts_345 (by decide) ?_
                    obtain rfl := Option.some.inj hf
                    exact g_zret (pc := 346) rfl rfl dX11_wantParts_346
                  · refine g_ifeq_f (pc := 338) (tgt := 345) dX11_wantParts_338 (by decide) c83 ?_
                    refine g_iconst (pc := 341) (v := (1 : Int32)) dX11_wantParts_341 (by decide) ?_
                    refine g_goto (pc := 342) (tgt := 346) dX11_wantParts_342 (by decide) ?_
                    obtain rfl := Option.some.inj hf
                    exact g_zret (pc := 346) rfl rfl dX11_wantParts_346
            ·
              rcases it_some hf with ⟨c84, hf⟩ | ⟨c84, hf⟩
              · refine g_tsw (pc := 20) (tgt := 347) (6 : Int32) dX11_wantParts_20 c84 (by decide +kernel) (by decide +kernel) (off := 327) (by decide +kernel) (by decide) ?_
                refine g_aload_n (pc := 347) 1 dX11_wantParts_347 rfl rfl ?_
                refine g_bipush (pc := 348) (v := (7 : Int32)) dX11_wantParts_348 (by decide) ?_
                obtain ⟨g85, hf⟩ := gs_some hf
                obtain ⟨q86, hcq86, hf⟩ := bd_some hf
                refine g_cVI (pc := 350) (k2 := k_X11_wantRegister) (av := [.int (7 : Int32)]) (q := q86) rfl dX11_wantParts_350 ck_X11_wantRegister m_1713 m_1715 m_67 (ci := 9) rfl (by decide) g85 (by decide) (by decide) rfl (by simp [rf_cat, rq_cat, ca_i, ca_l, ca_r]) (ct_X11_wantRegister l X hcq86) ?_
                refine g_sub [1] rfl ?_
                exact ok_X11_wantParts_L353 l X q86.2 a0 q86.1 q hf
              ·
                rcases it_some hf with ⟨c87, hf⟩ | ⟨c87, hf⟩
                · refine g_tsw (pc := 20) (tgt := 377) (7 : Int32) dX11_wantParts_20 c87 (by decide +kernel) (by decide +kernel) (off := 357) (by decide +kernel) (by decide) ?_
                  refine g_aload_n (pc := 377) 1 dX11_wantParts_377 rfl rfl ?_
                  refine g_bipush (pc := 378) (v := (7 : Int32)) dX11_wantParts_378 (by decide) ?_
                  obtain ⟨g88, hf⟩ := gs_some hf
                  obtain ⟨q89, hcq89, hf⟩ := bd_some hf
                  refine g_cVI (pc := 380) (k2 := k_X11_wantRegister) (av := [.int (7 : Int32)]) (q := q89) rfl dX11_wantParts_380 ck_X11_wantRegister m_1713 m_1715 m_67 (ci := 9) rfl (by decide) g88 (by decide) (by decide) rfl (by simp [rf_cat, rq_cat, ca_i, ca_l, ca_r]) (ct_X11_wantRegister l X hcq89) ?_
                  rcases it_some hf with ⟨c90, hf⟩ | ⟨c90, hf⟩
                  · refine g_ifeq_t (pc := 383) (tgt := 420) dX11_wantParts_383 (by decide) c90 ?_
                    refine g_iconst (pc := 420) (v := (0 : Int32)) dX11_wantParts_420 (by decide) ?_
                    obtain rfl := Option.some.inj hf
                    exact g_zret (pc := 421) rfl rfl dX11_wantParts_421
                  · refine g_ifeq_f (pc := 383) (tgt := 420) dX11_wantParts_383 (by decide) c90 ?_
                    refine g_aload_n (pc := 386) 1 dX11_wantParts_386 rfl rfl ?_
                    obtain ⟨g91, hf⟩ := gs_some hf
                    obtain ⟨q92, hcq92, hf⟩ := bd_some hf
                    refine g_cVI (pc := 387) (k2 := k_X11_wantComma) (av := []) (q := q92) rfl dX11_wantParts_387 ck_X11_wantComma m_1720 m_1722 m_68 (ci := 9) rfl (by decide) g91 (by decide) (by decide) rfl (by simp [rf_cat, rq_cat, ca_i, ca_l, ca_r]) (ct_X11_wantComma l X hcq92) ?_
                    rcases it_some hf with ⟨c93, hf⟩ | ⟨c93, hf⟩
                    · refine g_ifeq_t (pc := 390) (tgt := 420) dX11_wantParts_390 (by decide) c93 ?_
                      refine g_iconst (pc := 420) (v := (0 : Int32)) dX11_wantParts_420 (by decide) ?_
                      obtain rfl := Option.some.inj hf
                      exact g_zret (pc := 421) rfl rfl dX11_wantParts_421
                    · refine g_ifeq_f (pc := 390) (tgt := 420) dX11_wantParts_390 (by decide) c93 ?_
                      refine g_aload_n (pc := 393) 1 dX11_wantParts_393 rfl rfl ?_
                      refine g_bipush (pc := 394) (v := (20 : Int32)) dX11_wantParts_394 (by decide) ?_
                      obtain ⟨g94, hf⟩ := gs_some hf
                      obtain ⟨q95, hcq95, hf⟩ := bd_some hf
                      refine g_cVI (pc := 396) (k2 := k_X11_wantRegister) (av := [.int (20 : Int32)]) (q := q95) rfl dX11_wantParts_396 ck_X11_wantRegister m_1713 m_1715 m_67 (ci := 9) rfl (by decide) g94 (by decide) (by decide) rfl (by simp [rf_cat, rq_cat, ca_i, ca_l, ca_r]) (ct_X11_wantRegister l X hcq95) ?_
                      rcases it_some hf with ⟨c96, hf⟩ | ⟨c96, hf⟩
                      · refine g_ifeq_t (pc := 399) (tgt := 420) dX11_wantParts_399 (by decide) c96 ?_
                        refine g_iconst (pc := 420) (v := (0 : Int32)) dX11_wantParts_420 (by decide) ?_
                        obtain rfl := Option.some.inj hf
                        exact g_zret (pc := 421) rfl rfl dX11_wantParts_421
                      · refine g_ifeq_f (pc := 399) (tgt := 420) dX11_wantParts_399 (by decide) c96 ?_
                        refine g_aload_n (pc := 402) 1 dX11_wantParts_402 rfl rfl ?_
                        obtain ⟨g97, hf⟩ := gs_some hf
                        obtain ⟨q98, hcq98, hf⟩ := bd_some hf
                        refine g_cVI (pc := 403) (k2 := k_X11_wantComma) (av := []) (q := q98) rfl dX11_wantParts_403 ck_X11_wantComma m_1720 m_1722 m_68 (ci := 9) rfl (by decide) g97 (by decide) (by decide) rfl (by simp [rf_cat, rq_cat, ca_i, ca_l, ca_r]) (ct_X11_wantComma l X hcq98) ?_
                        rcases it_some hf with ⟨c99, hf⟩ | ⟨c99, hf⟩
                        · refine g_ifeq_t (pc := 406) (tgt := 420) dX11_wantParts_406 (by decide) c99 ?_
                          refine g_iconst (pc := 420) (v := (0 : Int32)) dX11_wantParts_420 (by decide) ?_
                          obtain rfl := Option.some.inj hf
                          exact g_zret (pc := 421) rfl rfl dX11_wantParts_421
                        · refine g_ifeq_f (pc := 406) (tgt := 420) dX11_wantParts_406 (by decide) c99 ?_
                          refine g_aload_n (pc := 409) 1 dX11_wantParts_409 rfl rfl ?_
                          obtain ⟨g100, hf⟩ := gs_some hf
                          obtain ⟨q101, hcq101, hf⟩ := bd_some hf
                          refine g_cVI (pc := 410) (k2 := k_X11_wantBase) (av := []) (q := q101) rfl dX11_wantParts_410 ck_X11_wantBase m_1759 m_1761 m_73 (ci := 9) rfl (by decide) g100 (by decide) (by decide) rfl (by simp [rf_cat, rq_cat, ca_i, ca_l, ca_r]) (ct_X11_wantBase l X hcq101) ?_
                          rcases it_some hf with ⟨c102, hf⟩ | ⟨c102, hf⟩
                          · refine g_ifeq_t (pc := 413) (tgt := 420) dX11_wantParts_413 (by decide) c102 ?_
                            refine g_iconst (pc := 420) (v := (0 : Int32)) dX11_wantParts_420 (by decide) ?_
                            obtain rfl := Option.some.inj hf
                            exact g_zret (pc := 421) rfl rfl dX11_wantParts_421
                          · refine g_ifeq_f (pc := 413) (tgt := 420) dX11_wantParts_413 (by decide) c102 ?_
                            refine g_iconst (pc := 416) (v := (1 : Int32)) dX11_wantParts_416 (by decide) ?_
                            refine g_goto (pc := 417) (tgt := 421) dX11_wantParts_417 (by decide) ?_
                            obtain rfl := Option.some.inj hf
                            exact g_zret (pc := 421) rfl rfl dX11_wantParts_421
                ·
                  rcases it_some hf with ⟨c103, hf⟩ | ⟨c103, hf⟩
                  · refine g_tsw (pc := 20) (tgt := 422) (9 : Int32) dX11_wantParts_20 c103 (by decide +kernel) (by decide +kernel) (off := 402) (by decide +kernel) (by decide) ?_
                    refine g_aload_n (pc := 422) 1 dX11_wantParts_422 rfl rfl ?_
                    refine g_bipush (pc := 423) (v := (7 : Int32)) dX11_wantParts_423 (by decide) ?_
                    obtain ⟨g104, hf⟩ := gs_some hf
                    obtain ⟨q105, hcq105, hf⟩ := bd_some hf
                    refine g_cVI (pc := 425) (k2 := k_X11_wantRegister) (av := [.int (7 : Int32)]) (q := q105) rfl dX11_wantParts_425 ck_X11_wantRegister m_1713 m_1715 m_67 (ci := 9) rfl (by decide) g104 (by decide) (by decide) rfl (by simp [rf_cat, rq_cat, ca_i, ca_l, ca_r]) (ct_X11_wantRegister l X hcq105) ?_
                    rcases it_some hf with ⟨c106, hf⟩ | ⟨c106, hf⟩
                    · refine g_ifeq_t (pc := 428) (tgt := 451) dX11_wantParts_428 (by decide) c106 ?_
                      refine g_iconst (pc := 451) (v := (0 : Int32)) dX11_wantParts_451 (by decide) ?_
                      obtain rfl := Option.some.inj hf
                      exact g_zret (pc := 452) rfl rfl dX11_wantParts_452
                    · refine g_ifeq_f (pc := 428) (tgt := 451) dX11_wantParts_428 (by decide) c106 ?_
                      refine g_aload_n (pc := 431) 1 dX11_wantParts_431 rfl rfl ?_
                      obtain ⟨g107, hf⟩ := gs_some hf
                      obtain ⟨q108, hcq108, hf⟩ := bd_some hf
                      refine g_cVI (pc := 432) (k2 := k_X11_wantComma) (av := []) (q := q108) rfl dX11_wantParts_432 ck_X11_wantComma m_1720 m_1722 m_68 (ci := 9) rfl (by decide) g107 (by decide) (by decide) rfl (by simp [rf_cat, rq_cat, ca_i, ca_l, ca_r]) (ct_X11_wantComma l X hcq108) ?_
                      rcases it_some hf with ⟨c109, hf⟩ | ⟨c109, hf⟩
                      · refine g_ifeq_t (pc := 435) (tgt := 451) dX11_wantParts_435 (by decide) c109 ?_
                        refine g_iconst (pc := 451) (v := (0 : Int32)) dX11_wantParts_451 (by decide) ?_
                        obtain rfl := Option.some.inj hf
                        exact g_zret (pc := 452) rfl rfl dX11_wantParts_452
                      · refine g_ifeq_f (pc := 435) (tgt := 451) dX11_wantParts_435 (by decide) c109 ?_
                        refine g_aload_n (pc := 438) 1 dX11_wantParts_438 rfl rfl ?_
                        refine g_bipush (pc := 439) (v := (15 : Int32)) dX11_wantParts_439 (by decide) ?_
                        obtain ⟨g110, hf⟩ := gs_some hf
                        obtain ⟨q111, hcq111, hf⟩ := bd_some hf
                        refine g_cVI (pc := 441) (k2 := k_X11_wantRegister) (av := [.int (15 : Int32)]) (q := q111) rfl dX11_wantParts_441 ck_X11_wantRegister m_1713 m_1715 m_67 (ci := 9) rfl (by decide) g110 (by decide) (by decide) rfl (by simp [rf_cat, rq_cat, ca_i, ca_l, ca_r]) (ct_X11_wantRegister l X hcq111) ?_
                        rcases it_some hf with ⟨c112, hf⟩ | ⟨c112, hf⟩
                        · refine g_ifeq_t (pc := 444) (tgt := 451) dX11_wantParts_444 (by decide) c112 ?_
                          refine g_iconst (pc := 451) (v := (0 : Int32)) dX11_wantParts_451 (by decide) ?_
                          obtain rfl := Option.some.inj hf
                          exact g_zret (pc := 452) rfl rfl dX11_wantParts_452
                        · refine g_ifeq_f (pc := 444) (tgt := 451) dX11_wantParts_444 (by decide) c112 ?_
                          refine g_iconst (pc := 447) (v := (1 : Int32)) dX11_wantParts_447 (by decide) ?_
                          refine g_goto (pc := 448) (tgt := 452) dX11_wantParts_448 (by decide) ?_
                          obtain rfl := Option.some.inj hf
                          exact g_zret (pc := 452) rfl rfl dX11_wantParts_452
                  ·
                    rcases it_some hf with ⟨c113, hf⟩ | ⟨c113, hf⟩
                    · refine g_tsw (pc := 20) (tgt := 453) (10 : Int32) dX11_wantParts_20 c113 (by decide +kernel) (by decide +kernel) (off := 433) (by decide +kernel) (by decide) ?_
                      refine g_aload_n (pc := 453) 1 dX11_wantParts_453 rfl rfl ?_
                      refine g_bipush (pc := 454) (v := (7 : Int32)) dX11_wantParts_454 (by decide) ?_
                      obtain ⟨g114, hf⟩ := gs_some hf
                      obtain ⟨q115, hcq115, hf⟩ := bd_some hf
                      refine g_cVI (pc := 456) (k2 := k_X11_wantRegister) (av := [.int (7 : Int32)]) (q := q115) rfl dX11_wantParts_456 ck_X11_wantRegister m_1713 m_1715 m_67 (ci := 9) rfl (by decide) g114 (by decide) (by decide) rfl (by simp [rf_cat, rq_cat, ca_i, ca_l, ca_r]) (ct_X11_wantRegister l X hcq115) ?_
                      rcases it_some hf with ⟨c116, hf⟩ | ⟨c116, hf⟩
                      · refine g_ifeq_t (pc := 459) (tgt := 482) dX11_wantParts_459 (by decide) c116 ?_
                        refine g_iconst (pc := 482) (v := (0 : Int32)) dX11_wantParts_482 (by decide) ?_
                        obtain rfl := Option.some.inj hf
                        exact g_zret (pc := 483) rfl rfl dX11_wantParts_483
                      · refine g_ifeq_f (pc := 459) (tgt := 482) dX11_wantParts_459 (by decide) c116 ?_
                        refine g_aload_n (pc := 462) 1 dX11_wantParts_462 rfl rfl ?_
                        obtain ⟨g117, hf⟩ := gs_some hf
                        obtain ⟨q118, hcq118, hf⟩ := bd_some hf
                        refine g_cVI (pc := 463) (k2 := k_X11_wantComma) (av := []) (q := q118) rfl dX11_wantParts_463 ck_X11_wantComma m_1720 m_1722 m_68 (ci := 9) rfl (by decide) g117 (by decide) (by decide) rfl (by simp [rf_cat, rq_cat, ca_i, ca_l, ca_r]) (ct_X11_wantComma l X hcq118) ?_
                        rcases it_some hf with ⟨c119, hf⟩ | ⟨c119, hf⟩
                        · refine g_ifeq_t (pc := 466) (tgt := 482) dX11_wantParts_466 (by decide) c119 ?_
                          refine g_iconst (pc := 482) (v := (0 : Int32)) dX11_wantParts_482 (by decide) ?_
                          obtain rfl := Option.some.inj hf
                          exact g_zret (pc := 483) rfl rfl dX11_wantParts_483
                        · refine g_ifeq_f (pc := 466) (tgt := 482) dX11_wantParts_466 (by decide) c119 ?_
                          refine g_aload_n (pc := 469) 1 dX11_wantParts_469 rfl rfl ?_
                          refine g_bipush (pc := 470) (v := (20 : Int32)) dX11_wantParts_470 (by decide) ?_
                          obtain ⟨g120, hf⟩ := gs_some hf
                          obtain ⟨q121, hcq121, hf⟩ := bd_some hf
                          refine g_cVI (pc := 472) (k2 := k_X11_wantRegister) (av := [.int (20 : Int32)]) (q := q121) rfl dX11_wantParts_472 ck_X11_wantRegister m_1713 m_1715 m_67 (ci := 9) rfl (by decide) g120 (by decide) (by decide) rfl (by simp [rf_cat, rq_cat, ca_i, ca_l, ca_r]) (ct_X11_wantRegister l X hcq121) ?_
                          rcases it_some hf with ⟨c122, hf⟩ | ⟨c122, hf⟩
                          · refine g_ifeq_t (pc := 475) (tgt := 482) dX11_wantParts_475 (by decide) c122 ?_
                            refine g_iconst (pc := 482) (v := (0 : Int32)) dX11_wantParts_482 (by decide) ?_
                            obtain rfl := Option.some.inj hf
                            exact g_zret (pc := 483) rfl rfl dX11_wantParts_483
                          · refine g_ifeq_f (pc := 475) (tgt := 482) dX11_wantParts_475 (by decide) c122 ?_
                            refine g_iconst (pc := 478) (v := (1 : Int32)) dX11_wantParts_478 (by decide) ?_
                            refine g_goto (pc := 479) (tgt := 483) dX11_wantParts_479 (by decide) ?_
                            obtain rfl := Option.some.inj hf
                            exact g_zret (pc := 483) rfl rfl dX11_wantParts_483
                    ·
                      rcases it_some hf with ⟨c123, hf⟩ | ⟨c123, hf⟩
                      · refine g_tsw (pc := 20) (tgt := 484) (11 : Int32) dX11_wantParts_20 c123 (by decide +kernel) (by decide +kernel) (off := 464) (by decide +kernel) (by decide) ?_
                        refine g_aload_n (pc := 484) 1 dX11_wantParts_484 rfl rfl ?_
                        refine g_iconst (pc := 485) (v := (4 : Int32)) dX11_wantParts_485 (by decide) ?_
                        obtain ⟨g124, hf⟩ := gs_some hf
                        obtain ⟨q125, hcq125, hf⟩ := bd_some hf
                        refine g_cVI (pc := 486) (k2 := k_X11_wantN) (av := [.int (4 : Int32)]) (q := q125) rfl dX11_wantParts_486 ck_X11_wantN m_1732 m_1734 m_71 (ci := 9) rfl (by decide) g124 (by decide) (by decide) rfl (by simp [rf_cat, rq_cat, ca_i, ca_l, ca_r]) (ct_X11_wantN l X hcq125) ?_
                        refine g_sub [] rfl ?_
                        exact ok_X11_wantParts_L489 l X q125.2 q125.1 q hf
                      ·
                        rcases it_some hf with ⟨c126, hf⟩ | ⟨c126, hf⟩
                        · refine g_tsw (pc := 20) (tgt := 490) (12 : Int32) dX11_wantParts_20 c126 (by decide +kernel) (by decide +kernel) (off := 470) (by decide +kernel) (by decide) ?_
                          refine g_aload_n (pc := 490) 1 dX11_wantParts_490 rfl rfl ?_
                          refine g_bipush (pc := 491) (v := (15 : Int32)) dX11_wantParts_491 (by decide) ?_
                          obtain ⟨g127, hf⟩ := gs_some hf
                          obtain ⟨q128, hcq128, hf⟩ := bd_some hf
                          refine g_cVI (pc := 493) (k2 := k_X11_wantRegister) (av := [.int (15 : Int32)]) (q := q128) rfl dX11_wantParts_493 ck_X11_wantRegister m_1713 m_1715 m_67 (ci := 9) rfl (by decide) g127 (by decide) (by decide) rfl (by simp [rf_cat, rq_cat, ca_i, ca_l, ca_r]) (ct_X11_wantRegister l X hcq128) ?_
                          rcases it_some hf with ⟨c129, hf⟩ | ⟨c129, hf⟩
                          · refine g_ifeq_t (pc := 496) (tgt := 518) dX11_wantParts_496 (by decide) c129 ?_
                            refine g_iconst (pc := 518) (v := (0 : Int32)) dX11_wantParts_518 (by decide) ?_
                            obtain rfl := Option.some.inj hf
                            exact g_zret (pc := 519) rfl rfl dX11_wantParts_519
                          · refine g_ifeq_f (pc := 496) (tgt := 518) dX11_wantParts_496 (by decide) c129 ?_
                            refine g_aload_n (pc := 499) 1 dX11_wantParts_499 rfl rfl ?_
                            obtain ⟨g130, hf⟩ := gs_some hf
                            obtain ⟨q131, hcq131, hf⟩ := bd_some hf
                            refine g_cVI (pc := 500) (k2 := k_X11_wantComma) (av := []) (q := q131) rfl dX11_wantParts_500 ck_X11_wantComma m_1720 m_1722 m_68 (ci := 9) rfl (by decide) g130 (by decide) (by decide) rfl (by simp [rf_cat, rq_cat, ca_i, ca_l, ca_r]) (ct_X11_wantComma l X hcq131) ?_
                            rcases it_some hf with ⟨c132, hf⟩ | ⟨c132, hf⟩
                            · refine g_ifeq_t (pc := 503) (tgt := 518) dX11_wantParts_503 (by decide) c132 ?_
                              refine g_iconst (pc := 518) (v := (0 : Int32)) dX11_wantParts_518 (by decide) ?_
                              obtain rfl := Option.some.inj hf
                              exact g_zret (pc := 519) rfl rfl dX11_wantParts_519
                            · refine g_ifeq_f (pc := 503) (tgt := 518) dX11_wantParts_503 (by decide) c132 ?_
                              refine g_aload_n (pc := 506) 1 dX11_wantParts_506 rfl rfl ?_
                              refine g_iconst (pc := 507) (v := (2 : Int32)) dX11_wantParts_507 (by decide) ?_
                              obtain ⟨g133, hf⟩ := gs_some hf
                              obtain ⟨q134, hcq134, hf⟩ := bd_some hf
                              refine g_cVI (pc := 508) (k2 := k_X11_wantN) (av := [.int (2 : Int32)]) (q := q134) rfl dX11_wantParts_508 ck_X11_wantN m_1732 m_1734 m_71 (ci := 9) rfl (by decide) g133 (by decide) (by decide) rfl (by simp [rf_cat, rq_cat, ca_i, ca_l, ca_r]) (ct_X11_wantN l X hcq134) ?_
                              rcases it_some hf with ⟨c135, hf⟩ | ⟨c135, hf⟩
                              · refine g_ifeq_t (pc := 511) (tgt := 518) dX11_wantParts_511 (by decide) c135 ?_
                                refine g_iconst (pc := 518) (v := (0 : Int32)) dX11_wantParts_518 (by decide) ?_
                                obtain rfl := Option.some.inj hf
                                exact g_zret (pc := 519) rfl rfl dX11_wantParts_519
                              · refine g_ifeq_f (pc := 511) (tgt := 518) dX11_wantParts_511 (by decide) c135 ?_
                                refine g_iconst (pc := 514) (v := (1 : Int32)) dX11_wantParts_514 (by decide) ?_
                                refine g_goto (pc := 515) (tgt := 519) dX11_wantParts_515 (by decide) ?_
                                obtain rfl := Option.some.inj hf
                                exact g_zret (pc := 519) rfl rfl dX11_wantParts_519
                        ·
                          rcases it_some hf with ⟨c136, hf⟩ | ⟨c136, hf⟩
                          · refine g_tsw (pc := 20) (tgt := 520) (13 : Int32) dX11_wantParts_20 c136 (by decide +kernel) (by decide +kernel) (off := 500) (by decide +kernel) (by decide) ?_
                            refine g_aload_n (pc := 520) 1 dX11_wantParts_520 rfl rfl ?_
                            refine g_bipush (pc := 521) (v := (7 : Int32)) dX11_wantParts_521 (by decide) ?_
                            obtain ⟨g137, hf⟩ := gs_some hf
                            obtain ⟨q138, hcq138, hf⟩ := bd_some hf
                            refine g_cVI (pc := 523) (k2 := k_X11_wantRegister) (av := [.int (7 : Int32)]) (q := q138) rfl dX11_wantParts_523 ck_X11_wantRegister m_1713 m_1715 m_67 (ci := 9) rfl (by decide) g137 (by decide) (by decide) rfl (by simp [rf_cat, rq_cat, ca_i, ca_l, ca_r]) (ct_X11_wantRegister l X hcq138) ?_
                            rcases it_some hf with ⟨c139, hf⟩ | ⟨c139, hf⟩
                            · refine g_ifeq_t (pc := 526) (tgt := 548) dX11_wantParts_526 (by decide) c139 ?_
                              refine g_iconst (pc := 548) (v := (0 : Int32)) dX11_wantParts_548 (by decide) ?_
                              obtain rfl := Option.some.inj hf
                              exact g_zret (pc := 549) rfl rfl dX11_wantParts_549
                            · refine g_ifeq_f (pc := 526) (tgt := 548) dX11_wantParts_526 (by decide) c139 ?_
                              refine g_aload_n (pc := 529) 1 dX11_wantParts_529 rfl rfl ?_
                              obtain ⟨g140, hf⟩ := gs_some hf
                              obtain ⟨q141, hcq141, hf⟩ := bd_some hf
                              refine g_cVI (pc := 530) (k2 := k_X11_wantComma) (av := []) (q := q141) rfl dX11_wantParts_530 ck_X11_wantComma m_1720 m_1722 m_68 (ci := 9) rfl (by decide) g140 (by decide) (by decide) rfl (by simp [rf_cat, rq_cat, ca_i, ca_l, ca_r]) (ct_X11_wantComma l X hcq141) ?_
                              rcases it_some hf with ⟨c142, hf⟩ | ⟨c142, hf⟩
                              · refine g_ifeq_t (pc := 533) (tgt := 548) dX11_wantParts_533 (by decide) c142 ?_
                                refine g_iconst (pc := 548) (v := (0 : Int32)) dX11_wantParts_548 (by decide) ?_
                                obtain rfl := Option.some.inj hf
                                exact g_zret (pc := 549) rfl rfl dX11_wantParts_549
                              · refine g_ifeq_f (pc := 533) (tgt := 548) dX11_wantParts_533 (by decide) c142 ?_
                                refine g_aload_n (pc := 536) 1 dX11_wantParts_536 rfl rfl ?_
                                refine g_iconst (pc := 537) (v := (5 : Int32)) dX11_wantParts_537 (by decide) ?_
                                obtain ⟨g143, hf⟩ := gs_some hf
                                obtain ⟨q144, hcq144, hf⟩ := bd_some hf
                                refine g_cVI (pc := 538) (k2 := k_X11_wantN) (av := [.int (5 : Int32)]) (q := q144) rfl dX11_wantParts_538 ck_X11_wantN m_1732 m_1734 m_71 (ci := 9) rfl (by decide) g143 (by decide) (by decide) rfl (by simp [rf_cat, rq_cat, ca_i, ca_l, ca_r]) (ct_X11_wantN l X hcq144) ?_
                                rcases it_some hf with ⟨c145, hf⟩ | ⟨c145, hf⟩
                                · refine g_ifeq_t (pc := 541) (tgt := 548) dX11_wantParts_541 (by decide) c145 ?_
                                  refine g_iconst (pc := 548) (v := (0 : Int32)) dX11_wantParts_548 (by decide) ?_
                                  obtain rfl := Option.some.inj hf
                                  exact g_zret (pc := 549) rfl rfl dX11_wantParts_549
                                · refine g_ifeq_f (pc := 541) (tgt := 548) dX11_wantParts_541 (by decide) c145 ?_
                                  refine g_iconst (pc := 544) (v := (1 : Int32)) dX11_wantParts_544 (by decide) ?_
                                  refine g_goto (pc := 545) (tgt := 549) dX11_wantParts_545 (by decide) ?_
                                  obtain rfl := Option.some.inj hf
                                  exact g_zret (pc := 549) rfl rfl dX11_wantParts_549
                          ·
                            rcases it_some hf with ⟨c146, hf⟩ | ⟨c146, hf⟩
                            · refine g_tsw (pc := 20) (tgt := 550) (14 : Int32) dX11_wantParts_20 c146 (by decide +kernel) (by decide +kernel) (off := 530) (by decide +kernel) (by decide) ?_
                              refine g_aload_n (pc := 550) 1 dX11_wantParts_550 rfl rfl ?_
                              refine g_iconst (pc := 551) (v := (5 : Int32)) dX11_wantParts_551 (by decide) ?_
                              obtain ⟨g147, hf⟩ := gs_some hf
                              obtain ⟨q148, hcq148, hf⟩ := bd_some hf
                              refine g_cVI (pc := 552) (k2 := k_X11_wantN) (av := [.int (5 : Int32)]) (q := q148) rfl dX11_wantParts_552 ck_X11_wantN m_1732 m_1734 m_71 (ci := 9) rfl (by decide) g147 (by decide) (by decide) rfl (by simp [rf_cat, rq_cat, ca_i, ca_l, ca_r]) (ct_X11_wantN l X hcq148) ?_
                              obtain ⟨b149, hf⟩ := gb_some hf
                              obtain rfl := Option.some.inj hf
                              exact g_zret (pc := 555) rfl b149 dX11_wantParts_555
                            ·
                              rcases it_some hf with ⟨c150, hf⟩ | ⟨c150, hf⟩
                              · refine g_tsw (pc := 20) (tgt := 556) (15 : Int32) dX11_wantParts_20 c150 (by decide +kernel) (by decide +kernel) (off := 536) (by decide +kernel) (by decide) ?_
                                refine g_aload_n (pc := 556) 1 dX11_wantParts_556 rfl rfl ?_
                                refine g_iconst (pc := 557) (v := (1 : Int32)) dX11_wantParts_557 (by decide) ?_
                                refine g_lconst (pc := 558) (v := (0 : Int64)) dX11_wantParts_558 (by decide) ?_
                                refine g_ldc2 (pc := 559) (v := (8188 : Int64)) m_1763 dX11_wantParts_559 ?_
                                refine g_iconst (pc := 562) (v := (4 : Int32)) dX11_wantParts_562 (by decide) ?_
                                obtain ⟨g151, hf⟩ := gs_some hf
                                obtain ⟨q152, hcq152, hf⟩ := bd_some hf
                                refine g_cVI (pc := 563) (k2 := k_X11_wantNumber) (av := [.int (1 : Int32), .long (0 : Int64), .long (8188 : Int64), .int (4 : Int32)]) (q := q152) rfl dX11_wantParts_563 ck_X11_wantNumber m_1755 m_1757 m_72 (ci := 9) rfl (by decide) g151 (by decide) (by decide) rfl (by simp [rf_cat, rq_cat, ca_i, ca_l, ca_r]) (ct_X11_wantNumber l X hcq152) ?_
                                obtain ⟨b153, hf⟩ := gb_some hf
                                obtain rfl := Option.some.inj hf
                                exact g_zret (pc := 566) rfl b153 dX11_wantParts_566
                              ·
                                rcases it_some hf with ⟨c154, hf⟩ | ⟨c154, hf⟩
                                · refine g_tsw (pc := 20) (tgt := 567) (16 : Int32) dX11_wantParts_20 c154 (by decide +kernel) (by decide +kernel) (off := 547) (by decide +kernel) (by decide) ?_
                                  refine g_aload_n (pc := 567) 1 dX11_wantParts_567 rfl rfl ?_
                                  refine g_iconst (pc := 568) (v := (1 : Int32)) dX11_wantParts_568 (by decide) ?_
                                  refine g_lconst (pc := 569) (v := (0 : Int64)) dX11_wantParts_569 (by decide) ?_
                                  refine g_ldc2 (pc := 570) (v := (15 : Int64)) m_1764 dX11_wantParts_570 ?_
                                  refine g_iconst (pc := 573) (v := (1 : Int32)) dX11_wantParts_573 (by decide) ?_
                                  obtain ⟨g155, hf⟩ := gs_some hf
                                  obtain ⟨q156, hcq156, hf⟩ := bd_some hf
                                  refine g_cVI (pc := 574) (k2 := k_X11_wantNumber) (av := [.int (1 : Int32), .long (0 : Int64), .long (15 : Int64), .int (1 : Int32)]) (q := q156) rfl dX11_wantParts_574 ck_X11_wantNumber m_1755 m_1757 m_72 (ci := 9) rfl (by decide) g155 (by decide) (by decide) rfl (by simp [rf_cat, rq_cat, ca_i, ca_l, ca_r]) (ct_X11_wantNumber l X hcq156) ?_
                                  obtain ⟨b157, hf⟩ := gb_some hf
                                  obtain rfl := Option.some.inj hf
                                  exact g_zret (pc := 577) rfl b157 dX11_wantParts_577
                                ·
                                  refine g_tswD (pc := 20) (tgt := 578) [(0 : Int32), (1 : Int32), (2 : Int32), (3 : Int32), (4 : Int32), (5 : Int32), (6 : Int32), (7 : Int32), (9 : Int32), (10 : Int32), (11 : Int32), (12 : Int32), (13 : Int32), (14 : Int32), (15 : Int32), (16 : Int32)] dX11_wantParts_20 (cons_ne c1 (cons_ne c17 (cons_ne c33 (cons_ne c45 (cons_ne c58 (cons_ne c74 (cons_ne c84 (cons_ne c87 (cons_ne c103 (cons_ne c113 (cons_ne c123 (cons_ne c126 (cons_ne c136 (cons_ne c146 (cons_ne c150 (cons_ne c154 nil_ne)))))))))))))))) (by decide +kernel) (by decide +kernel) (by decide) ?_
                                  refine g_iconst (pc := 578) (v := (1 : Int32)) dX11_wantParts_578 (by decide) ?_
                                  obtain rfl := Option.some.inj hf
                                  exact g_zret (pc := 579) rfl rfl dX11_wantParts_579
set_option maxRecDepth 100000 in
set_option maxHeartbeats 4000000 in
theorem ok_X11_wantParts_L17 (l : Launch) (X : Cx) (h : AH) (a0 : Nat) (a1 : Int32) (q : Int32 × AH) (hf : f_X11_wantParts_L17 h a0 a1 = some q) : Go l X k_X11_wantParts 17 [(0, rf X a0), (1, .int a1)] [] h (rI q) := by
  unfold f_X11_wantParts_L17 at hf
  refine g_iconst (pc := 17) (v := (0 : Int32)) dX11_wantParts_17 (by decide) ?_
  exact ok_X11_wantParts_L18 l X h a0 a1 (0 : Int32) q hf
set_option maxRecDepth 100000 in
set_option maxHeartbeats 4000000 in
theorem ok_X11_wantParts (l : Launch) (X : Cx) {h : AH} {a0 : Nat} {a1 : Int32} {a2 : Int32} {q : Int32 × AH} (hf : f_X11_wantParts h a0 a1 a2 = some q) : Go l X k_X11_wantParts 0 [(0, rf X a0), (1, .int a1), (2, .int a2)] [] h (rI q) := by
  unfold f_X11_wantParts at hf
  refine g_iload_n (pc := 0) 2 dX11_wantParts_0 rfl rfl ?_
  refine g_bipush (pc := 1) (v := (15 : Int32)) dX11_wantParts_1 (by decide) ?_
  rcases it_some hf with ⟨c1, hf⟩ | ⟨c1, hf⟩
  · refine g_icle_t (pc := 3) (tgt := 17) dX11_wantParts_3 (by decide) c1 ?_
    refine g_sub [0, 1] rfl ?_
    exact ok_X11_wantParts_L17 l X h a0 a1 q hf
  · refine g_icle_f (pc := 3) (tgt := 17) dX11_wantParts_3 (by decide) c1 ?_
    refine g_iload_n (pc := 6) 2 dX11_wantParts_6 rfl rfl ?_
    refine g_bipush (pc := 7) (v := (19 : Int32)) dX11_wantParts_7 (by decide) ?_
    rcases it_some hf with ⟨c2, hf⟩ | ⟨c2, hf⟩
    · refine g_icge_t (pc := 9) (tgt := 17) dX11_wantParts_9 (by decide) c2 ?_
      refine g_sub [0, 1] rfl ?_
      exact ok_X11_wantParts_L17 l X h a0 a1 q hf
    · refine g_icge_f (pc := 9) (tgt := 17) dX11_wantParts_9 (by decide) c2 ?_
      refine g_bipush (pc := 12) (v := (6 : Int32)) dX11_wantParts_12 (by decide) ?_
      refine g_goto (pc := 14) (tgt := 18) dX11_wantParts_14 (by decide) ?_
      refine g_sub [0, 1] rfl ?_
      exact ok_X11_wantParts_L18 l X h a0 a1 (6 : Int32) q hf
theorem ct_X11_wantParts (l : Launch) (X : Cx) {h : AH} {a0 : Nat} {a1 : Int32} {a2 : Int32} {q : Int32 × AH} (hf : f_X11_wantParts h a0 a1 a2 = some q) : Ct l X k_X11_wantParts [rf X a0, .int a1, .int a2] h (rI q) := ct_of ck_X11_wantParts (by simp [lg_sl, rf_cat, rq_cat, ca_i, ca_l, ca_r]) (by simp [lv_args, rf_cat, rq_cat, ca_i, ca_l, ca_r]) (ok_X11_wantParts l X hf)
set_option maxRecDepth 100000 in
set_option maxHeartbeats 4000000 in
theorem ok_X11_lay_L92 (l : Launch) (X : Cx) (h : AH) (a0 : Nat) (s0 : Nat) (s1 : Int32) (s2 : Int32) (q : AH) (hf : f_X11_lay_L92 h a0 s0 s1 s2 = some q) : Go l X k_X11_lay 92 [(0, rf X a0)] [.int s2, .int s1, rf X s0] h (rV q) := by
  unfold f_X11_lay_L92 at hf
  obtain ⟨g1, hf⟩ := gs_some hf
  obtain ⟨b2, hf⟩ := gb_some hf
  obtain ⟨h3, eh3, hf⟩ := lt_some hf
  refine g_iast (pc := 92) g1 b2 dX11_lay_92 eh3 ?_
  refine g_aload_n (pc := 93) 0 dX11_lay_93 rfl rfl ?_
  obtain ⟨g4, hf⟩ := gs_some hf
  refine g_getR (pc := 94) fl_X11_38 dX11_lay_94 g4 ?_
  refine g_aload_n (pc := 97) 0 dX11_lay_97 rfl rfl ?_
  refine g_getI (pc := 98) fl_X11_506 dX11_lay_98 g4 ?_
  refine g_aload_n (pc := 101) 0 dX11_lay_101 rfl rfl ?_
  refine g_getL (pc := 102) fl_X11_417 dX11_lay_102 g4 ?_
  obtain ⟨g5, hf⟩ := gs_some hf
  obtain ⟨b6, hf⟩ := gb_some hf
  obtain ⟨h7, eh7, hf⟩ := lt_some hf
  refine g_last (pc := 105) g5 b6 dX11_lay_105 eh7 ?_
  refine g_aload_n (pc := 106) 0 dX11_lay_106 rfl rfl ?_
  have g8 : hS h7 a0 = 10 := (hS_tL eh7 g4)
  refine g_getR (pc := 107) fl_X11_41 dX11_lay_107 g8 ?_
  refine g_aload_n (pc := 110) 0 dX11_lay_110 rfl rfl ?_
  refine g_getI (pc := 111) fl_X11_506 dX11_lay_111 g8 ?_
  refine g_aload_n (pc := 114) 0 dX11_lay_114 rfl rfl ?_
  refine g_getI (pc := 115) fl_X11_421 dX11_lay_115 g8 ?_
  obtain ⟨g9, hf⟩ := gs_some hf
  obtain ⟨b10, hf⟩ := gb_some hf
  obtain ⟨h11, eh11, hf⟩ := lt_some hf
  refine g_iast (pc := 118) g9 b10 dX11_lay_118 eh11 ?_
  refine g_aload_n (pc := 119) 0 dX11_lay_119 rfl rfl ?_
  refine g_dup (pc := 120) dX11_lay_120 (rf_cat X _) ?_
  have g12 : hS h11 a0 = 10 := (hS_tI eh11 g8)
  refine g_getI (pc := 121) fl_X11_506 dX11_lay_121 g12 ?_
  refine g_iconst (pc := 124) (v := (1 : Int32)) dX11_lay_124 (by decide) ?_
  refine g_iadd (pc := 125) dX11_lay_125 ?_
  obtain ⟨h13, eh13, hf⟩ := lt_some hf
  refine g_putI (pc := 126) fl_X11_506 dX11_lay_126 g12 eh13 ?_
  refine g_aload_n (pc := 129) 0 dX11_lay_129 rfl rfl ?_
  refine g_dup (pc := 130) dX11_lay_130 (rf_cat X _) ?_
  have g14 : hS h13 a0 = 10 := (hS_tI eh13 g12)
  refine g_getI (pc := 131) fl_X11_488 dX11_lay_131 g14 ?_
  refine g_iconst (pc := 134) (v := (4 : Int32)) dX11_lay_134 (by decide) ?_
  refine g_iadd (pc := 135) dX11_lay_135 ?_
  obtain ⟨h15, eh15, hf⟩ := lt_some hf
  refine g_putI (pc := 136) fl_X11_488 dX11_lay_136 g14 eh15 ?_
  obtain rfl := Option.some.inj hf
  exact g_vret (pc := 139) rfl dX11_lay_139
set_option maxRecDepth 100000 in
set_option maxHeartbeats 4000000 in
theorem ok_X11_lay_L70 (l : Launch) (X : Cx) (h : AH) (a0 : Nat) (a2 : Int32) (s0 : Nat) (s1 : Int32) (s2 : Int32) (s3 : Int32) (q : AH) (hf : f_X11_lay_L70 h a0 a2 s0 s1 s2 s3 = some q) : Go l X k_X11_lay 70 [(0, rf X a0), (2, .int a2)] [.int s3, .int s2, .int s1, rf X s0] h (rV q) := by
  unfold f_X11_lay_L70 at hf
  refine g_ior (pc := 70) dX11_lay_70 ?_
  obtain ⟨g1, hf⟩ := gs_some hf
  obtain ⟨b2, hf⟩ := gb_some hf
  obtain ⟨h3, eh3, hf⟩ := lt_some hf
  refine g_iast (pc := 71) g1 b2 dX11_lay_71 eh3 ?_
  refine g_aload_n (pc := 72) 0 dX11_lay_72 rfl rfl ?_
  obtain ⟨g4, hf⟩ := gs_some hf
  refine g_getR (pc := 73) fl_X11_35 dX11_lay_73 g4 ?_
  refine g_aload_n (pc := 76) 0 dX11_lay_76 rfl rfl ?_
  refine g_getI (pc := 77) fl_X11_506 dX11_lay_77 g4 ?_
  refine g_aload_n (pc := 80) 0 dX11_lay_80 rfl rfl ?_
  refine g_getI (pc := 81) fl_X11_413 dX11_lay_81 g4 ?_
  rcases it_some hf with ⟨c5, hf⟩ | ⟨c5, hf⟩
  · refine g_ifeq_t (pc := 84) (tgt := 91) dX11_lay_84 (by decide) c5 ?_
    refine g_iconst (pc := 91) (v := (-1 : Int32)) dX11_lay_91 (by decide) ?_
    refine g_sub [0] rfl ?_
    exact ok_X11_lay_L92 l X h3 a0 (hR h3 a0 16) (hI h3 a0 13) (-1 : Int32) q hf
  · refine g_ifeq_f (pc := 84) (tgt := 91) dX11_lay_84 (by decide) c5 ?_
    refine g_iload_n (pc := 87) 1 dX11_lay_87 rfl rfl ?_
    refine g_goto (pc := 88) (tgt := 92) dX11_lay_88 (by decide) ?_
    refine g_sub [0] rfl ?_
    exact ok_X11_lay_L92 l X h3 a0 (hR h3 a0 16) (hI h3 a0 13) a2 q hf
set_option maxRecDepth 100000 in
set_option maxHeartbeats 4000000 in
theorem ok_X11_lay_L58 (l : Launch) (X : Cx) (h : AH) (a0 : Nat) (a2 : Int32) (s0 : Nat) (s1 : Int32) (s2 : Int32) (q : AH) (hf : f_X11_lay_L58 h a0 a2 s0 s1 s2 = some q) : Go l X k_X11_lay 58 [(0, rf X a0), (2, .int a2)] [.int s2, .int s1, rf X s0] h (rV q) := by
  unfold f_X11_lay_L58 at hf
  refine g_iconst (pc := 58) (v := (0 : Int32)) dX11_lay_58 (by decide) ?_
  refine g_goto (pc := 59) (tgt := 70) dX11_lay_59 (by decide) ?_
  exact ok_X11_lay_L70 l X h a0 a2 s0 s1 s2 (0 : Int32) q hf
set_option maxRecDepth 100000 in
set_option maxHeartbeats 4000000 in
theorem ok_X11_lay_L21 (l : Launch) (X : Cx) (h : AH) (a0 : Nat) (a2 : Int32) (q : AH) (hf : f_X11_lay_L21 h a0 a2 = some q) : Go l X k_X11_lay 21 [(0, rf X a0), (2, .int a2)] [] h (rV q) := by
  unfold f_X11_lay_L21 at hf
  refine g_aload_n (pc := 21) 0 dX11_lay_21 rfl rfl ?_
  obtain ⟨g1, hf⟩ := gs_some hf
  refine g_getR (pc := 22) fl_X11_29 dX11_lay_22 g1 ?_
  refine g_aload_n (pc := 25) 0 dX11_lay_25 rfl rfl ?_
  refine g_getI (pc := 26) fl_X11_506 dX11_lay_26 g1 ?_
  refine g_aload_n (pc := 29) 0 dX11_lay_29 rfl rfl ?_
  refine g_getI (pc := 30) fl_X11_488 dX11_lay_30 g1 ?_
  obtain ⟨g2, hf⟩ := gs_some hf
  obtain ⟨b3, hf⟩ := gb_some hf
  obtain ⟨h4, eh4, hf⟩ := lt_some hf
  refine g_iast (pc := 33) g2 b3 dX11_lay_33 eh4 ?_
  refine g_aload_n (pc := 34) 0 dX11_lay_34 rfl rfl ?_
  have g5 : hS h4 a0 = 10 := (hS_tI eh4 g1)
  refine g_getR (pc := 35) fl_X11_32 dX11_lay_35 g5 ?_
  refine g_aload_n (pc := 38) 0 dX11_lay_38 rfl rfl ?_
  refine g_getI (pc := 39) fl_X11_506 dX11_lay_39 g5 ?_
  refine g_aload_n (pc := 42) 0 dX11_lay_42 rfl rfl ?_
  refine g_getI (pc := 43) fl_X11_410 dX11_lay_43 g5 ?_
  refine g_iload_n (pc := 46) 1 dX11_lay_46 rfl rfl ?_
  refine g_iconst (pc := 47) (v := (-1 : Int32)) dX11_lay_47 (by decide) ?_
  rcases it_some hf with ⟨c6, hf⟩ | ⟨c6, hf⟩
  · refine g_iceq_t (pc := 48) (tgt := 58) dX11_lay_48 (by decide) c6 ?_
    exact ok_X11_lay_L58 l X h4 a0 a2 (hR h4 a0 15) (hI h4 a0 13) (hI h4 a0 71) q hf
  · refine g_iceq_f (pc := 48) (tgt := 58) dX11_lay_48 (by decide) c6 ?_
    refine g_aload_n (pc := 51) 0 dX11_lay_51 rfl rfl ?_
    refine g_getI (pc := 52) fl_X11_413 dX11_lay_52 g5 ?_
    rcases it_some hf with ⟨c7, hf⟩ | ⟨c7, hf⟩
    · refine g_ifeq_t (pc := 55) (tgt := 62) dX11_lay_55 (by decide) c7 ?_
      refine g_iload_n (pc := 62) 1 dX11_lay_62 rfl rfl ?_
      refine g_aload_n (pc := 63) 0 dX11_lay_63 rfl rfl ?_
      refine g_getL (pc := 64) fl_X11_424 dX11_lay_64 g5 ?_
      obtain ⟨v8, hcv8, hf⟩ := bd_some hf
      refine g_cSI (pc := 67) (k2 := k_X11_put) (av := [.int a2, .long (hL h4 a0 72)]) (q := (v8, h4)) rfl dX11_lay_67 ck_X11_put m_1773 m_1774 (by decide) (by decide) rfl (by simp [rf_cat, rq_cat, ca_i, ca_l, ca_r]) (ct_X11_put l X hcv8) ?_
      exact ok_X11_lay_L70 l X h4 a0 a2 (hR h4 a0 15) (hI h4 a0 13) (hI h4 a0 71) v8 q hf
    · refine g_ifeq_f (pc := 55) (tgt := 62) dX11_lay_55 (by decide) c7 ?_
      exact ok_X11_lay_L58 l X h4 a0 a2 (hR h4 a0 15) (hI h4 a0 13) (hI h4 a0 71) q hf
set_option maxRecDepth 100000 in
set_option maxHeartbeats 4000000 in
theorem ok_X11_lay (l : Launch) (X : Cx) {h : AH} {a0 : Nat} {a1 : Int32} {a2 : Int32} {q : AH} (hf : f_X11_lay h a0 a1 a2 = some q) : Go l X k_X11_lay 0 [(0, rf X a0), (1, .int a1), (2, .int a2)] [] h (rV q) := by
  unfold f_X11_lay at hf
  refine g_aload_n (pc := 0) 0 dX11_lay_0 rfl rfl ?_
  obtain ⟨g1, hf⟩ := gs_some hf
  refine g_getI (pc := 1) fl_X11_488 dX11_lay_1 g1 ?_
  refine g_sipush (pc := 4) (v := (8191 : Int32)) dX11_lay_4 (by decide) ?_
  rcases it_some hf with ⟨c2, hf⟩ | ⟨c2, hf⟩
  · refine g_icle_t (pc := 7) (tgt := 21) dX11_lay_7 (by decide) c2 ?_
    refine g_sub [0, 2] rfl ?_
    exact ok_X11_lay_L21 l X h a0 a2 q hf
  · refine g_icle_f (pc := 7) (tgt := 21) dX11_lay_7 (by decide) c2 ?_
    refine g_aload_n (pc := 10) 0 dX11_lay_10 rfl rfl ?_
    refine g_iconst (pc := 11) (v := (3 : Int32)) dX11_lay_11 (by decide) ?_
    refine g_aload_n (pc := 12) 0 dX11_lay_12 rfl rfl ?_
    refine g_getR (pc := 13) fl_X11_16 dX11_lay_13 g1 ?_
    refine g_iload_n (pc := 16) 1 dX11_lay_16 rfl rfl ?_
    obtain ⟨g3, hf⟩ := gs_some hf
    obtain ⟨b4, hf⟩ := gb_some hf
    refine g_iald (pc := 17) g3 b4 dX11_lay_17 ?_
    obtain ⟨q5, hcq5, hf⟩ := bd_some hf
    refine g_cVV (pc := 18) (k2 := k_X11_note) (av := [.int (3 : Int32), .int (hI h (hR h a0 7) a1.toNatClampNeg)]) (q := q5) rfl dX11_lay_18 ck_X11_note m_1692 m_1694 m_63 (ci := 9) rfl (by decide) g1 (by decide) (by decide) rfl (by simp [rf_cat, rq_cat, ca_i, ca_l, ca_r]) (ct_X11_note l X hcq5) ?_
    refine g_sub [0, 2] rfl ?_
    exact ok_X11_lay_L21 l X q5 a0 a2 q hf
theorem ct_X11_lay (l : Launch) (X : Cx) {h : AH} {a0 : Nat} {a1 : Int32} {a2 : Int32} {q : AH} (hf : f_X11_lay h a0 a1 a2 = some q) : Ct l X k_X11_lay [rf X a0, .int a1, .int a2] h (rV q) := ct_of ck_X11_lay (by simp [lg_sl, rf_cat, rq_cat, ca_i, ca_l, ca_r]) (by simp [lv_args, rf_cat, rq_cat, ca_i, ca_l, ca_r]) (ok_X11_lay l X hf)
set_option maxRecDepth 100000 in
set_option maxHeartbeats 4000000 in
theorem ok_X11_layLi_L49 (l : Launch) (X : Cx) (h : AH) (a0 : Nat) (a1 : Int32) (a2 : Int32) (q : AH) (hf : f_X11_layLi_L49 h a0 a1 a2 = some q) : Go l X k_X11_layLi 49 [(0, rf X a0), (1, .int a1), (2, .int a2)] [] h (rV q) := by
  unfold f_X11_layLi_L49 at hf
  refine g_aload_n (pc := 49) 0 dX11_layLi_49 rfl rfl ?_
  refine g_bipush (pc := 50) (v := (55 : Int32)) dX11_layLi_50 (by decide) ?_
  refine g_iload_n (pc := 52) 2 dX11_layLi_52 rfl rfl ?_
  refine g_ior (pc := 53) dX11_layLi_53 ?_
  obtain ⟨g1, hf⟩ := gs_some hf
  obtain ⟨h2, eh2, hf⟩ := lt_some hf
  refine g_putI (pc := 54) fl_X11_410 dX11_layLi_54 g1 eh2 ?_
  refine g_aload_n (pc := 57) 0 dX11_layLi_57 rfl rfl ?_
  refine g_iload_n (pc := 58) 1 dX11_layLi_58 rfl rfl ?_
  refine g_bipush (pc := 59) (v := (7 : Int32)) dX11_layLi_59 (by decide) ?_
  have g3 : hS h2 a0 = 10 := (hS_tI eh2 g1)
  obtain ⟨q4, hcq4, hf⟩ := bd_some hf
  refine g_cVV (pc := 61) (k2 := k_X11_lay) (av := [.int a1, .int (7 : Int32)]) (q := q4) rfl dX11_layLi_61 ck_X11_lay m_1769 m_1771 m_75 (ci := 9) rfl (by decide) g3 (by decide) (by decide) rfl (by simp [rf_cat, rq_cat, ca_i, ca_l, ca_r]) (ct_X11_lay l X hcq4) ?_
  refine g_aload_n (pc := 64) 0 dX11_layLi_64 rfl rfl ?_
  refine g_bipush (pc := 65) (v := (19 : Int32)) dX11_layLi_65 (by decide) ?_
  refine g_iload_n (pc := 67) 2 dX11_layLi_67 rfl rfl ?_
  refine g_ior (pc := 68) dX11_layLi_68 ?_
  refine g_iload_n (pc := 69) 2 dX11_layLi_69 rfl rfl ?_
  refine g_bipush (pc := 70) (v := (8 : Int32)) dX11_layLi_70 (by decide) ?_
  refine g_ishl (pc := 72) dX11_layLi_72 ?_
  refine g_ior (pc := 73) dX11_layLi_73 ?_
  obtain ⟨g5, hf⟩ := gs_some hf
  obtain ⟨h6, eh6, hf⟩ := lt_some hf
  refine g_putI (pc := 74) fl_X11_410 dX11_layLi_74 g5 eh6 ?_
  refine g_aload_n (pc := 77) 0 dX11_layLi_77 rfl rfl ?_
  refine g_iload_n (pc := 78) 1 dX11_layLi_78 rfl rfl ?_
  refine g_bipush (pc := 79) (v := (8 : Int32)) dX11_layLi_79 (by decide) ?_
  have g7 : hS h6 a0 = 10 := (hS_tI eh6 g5)
  obtain ⟨q8, hcq8, hf⟩ := bd_some hf
  refine g_cVV (pc := 81) (k2 := k_X11_lay) (av := [.int a1, .int (8 : Int32)]) (q := q8) rfl dX11_layLi_81 ck_X11_lay m_1769 m_1771 m_75 (ci := 9) rfl (by decide) g7 (by decide) (by decide) rfl (by simp [rf_cat, rq_cat, ca_i, ca_l, ca_r]) (ct_X11_lay l X hcq8) ?_
  obtain rfl := Option.some.inj hf
  exact g_vret (pc := 84) rfl dX11_layLi_84
set_option maxRecDepth 100000 in
set_option maxHeartbeats 4000000 in
theorem ok_X11_layLi (l : Launch) (X : Cx) {h : AH} {a0 : Nat} {a1 : Int32} {q : AH} (hf : f_X11_layLi h a0 a1 = some q) : Go l X k_X11_layLi 0 [(0, rf X a0), (1, .int a1)] [] h (rV q) := by
  unfold f_X11_layLi at hf
  refine g_aload_n (pc := 0) 0 dX11_layLi_0 rfl rfl ?_
  obtain ⟨g1, hf⟩ := gs_some hf
  refine g_getI (pc := 1) fl_X11_410 dX11_layLi_1 g1 ?_
  obtain ⟨x2, ex2, hf⟩ := lt_some hf
  refine g_istore_n (pc := 4) (L' := [(2, .int x2), (0, rf X a0), (1, .int a1)]) dX11_layLi_4 rfl (by decide) ex2 rfl ?_
  refine g_aload_n (pc := 5) 1 dX11_layLi_5 rfl rfl ?_
  refine g_getI (pc := 6) fl_X11_413 dX11_layLi_6 g1 ?_
  rcases it_some hf with ⟨c3, hf⟩ | ⟨c3, hf⟩
  · refine g_ifne_t (pc := 9) (tgt := 49) dX11_layLi_9 (by decide) c3 ?_
    refine g_sub [1, 2, 0] rfl ?_
    exact ok_X11_layLi_L49 l X h a0 a1 x2 q hf
  · refine g_ifne_f (pc := 9) (tgt := 49) dX11_layLi_9 (by decide) (Decidable.of_not_not c3) ?_
    refine g_aload_n (pc := 12) 1 dX11_layLi_12 rfl rfl ?_
    refine g_getL (pc := 13) fl_X11_424 dX11_layLi_13 g1 ?_
    refine g_ldc2 (pc := 16) (v := (-2048 : Int64)) m_1742 dX11_layLi_16 ?_
    refine g_lcmp (pc := 19) dX11_layLi_19 ?_
    rcases it_some hf with ⟨c4, hf⟩ | ⟨c4, hf⟩
    · refine g_iflt_t (pc := 20) (tgt := 49) dX11_layLi_20 (by decide) c4 ?_
      refine g_sub [1, 2, 0] rfl ?_
      exact ok_X11_layLi_L49 l X h a0 a1 x2 q hf
    · refine g_iflt_f (pc := 20) (tgt := 49) dX11_layLi_20 (by decide) c4 ?_
      refine g_aload_n (pc := 23) 1 dX11_layLi_23 rfl rfl ?_
      refine g_getL (pc := 24) fl_X11_424 dX11_layLi_24 g1 ?_
      refine g_ldc2 (pc := 27) (v := (2047 : Int64)) m_1751 dX11_layLi_27 ?_
      refine g_lcmp (pc := 30) dX11_layLi_30 ?_
      rcases it_some hf with ⟨c5, hf⟩ | ⟨c5, hf⟩
      · refine g_ifgt_t (pc := 31) (tgt := 49) dX11_layLi_31 (by decide) c5 ?_
        refine g_sub [1, 2, 0] rfl ?_
        exact ok_X11_layLi_L49 l X h a0 a1 x2 q hf
      · refine g_ifgt_f (pc := 31) (tgt := 49) dX11_layLi_31 (by decide) c5 ?_
        refine g_aload_n (pc := 34) 1 dX11_layLi_34 rfl rfl ?_
        refine g_bipush (pc := 35) (v := (19 : Int32)) dX11_layLi_35 (by decide) ?_
        refine g_iload_n (pc := 37) 0 dX11_layLi_37 rfl rfl ?_
        refine g_ior (pc := 38) dX11_layLi_38 ?_
        obtain ⟨h6, eh6, hf⟩ := lt_some hf
        refine g_putI (pc := 39) fl_X11_410 dX11_layLi_39 g1 eh6 ?_
        refine g_aload_n (pc := 42) 1 dX11_layLi_42 rfl rfl ?_
        refine g_iload_n (pc := 43) 2 dX11_layLi_43 rfl rfl ?_
        refine g_iconst (pc := 44) (v := (0 : Int32)) dX11_layLi_44 (by decide) ?_
        have g7 : hS h6 a0 = 10 := (hS_tI eh6 g1)
        obtain ⟨q8, hcq8, hf⟩ := bd_some hf
        refine g_cVV (pc := 45) (k2 := k_X11_lay) (av := [.int a1, .int (0 : Int32)]) (q := q8) rfl dX11_layLi_45 ck_X11_lay m_1769 m_1771 m_75 (ci := 9) rfl (by decide) g7 (by decide) (by decide) rfl (by simp [rf_cat, rq_cat, ca_i, ca_l, ca_r]) (ct_X11_lay l X hcq8) ?_
        obtain rfl := Option.some.inj hf
        exact g_vret (pc := 48) rfl dX11_layLi_48
theorem ct_X11_layLi (l : Launch) (X : Cx) {h : AH} {a0 : Nat} {a1 : Int32} {q : AH} (hf : f_X11_layLi h a0 a1 = some q) : Ct l X k_X11_layLi [rf X a0, .int a1] h (rV q) := ct_of ck_X11_layLi (by simp [lg_sl, rf_cat, rq_cat, ca_i, ca_l, ca_r]) (by simp [lv_args, rf_cat, rq_cat, ca_i, ca_l, ca_r]) (ok_X11_layLi l X hf)
set_option maxRecDepth 100000 in
set_option maxHeartbeats 4000000 in
theorem ok_X11_readStatement_L402 (l : Launch) (X : Cx) (h : AH) (a0 : Nat) (q : Int32 × AH) (hf : f_X11_readStatement_L402 h a0 = some q) : Go l X k_X11_readStatement 402 [(0, rf X a0)] [] h (rI q) := by
  unfold f_X11_readStatement_L402 at hf
  refine g_aload_n (pc := 402) 0 dX11_readStatement_402 rfl rfl ?_
  refine g_bipush (pc := 403) (v := (59 : Int32)) dX11_readStatement_403 (by decide) ?_
  obtain ⟨g1, hf⟩ := gs_some hf
  obtain ⟨q2, hcq2, hf⟩ := bd_some hf
  refine g_cVI (pc := 405) (k2 := k_X11_wantSign) (av := [.int (59 : Int32)]) (q := q2) rfl dX11_readStatement_405 ck_X11_wantSign m_1724 m_1726 m_69 (ci := 9) rfl (by decide) g1 (by decide) (by decide) rfl (by simp [rf_cat, rq_cat, ca_i, ca_l, ca_r]) (ct_X11_wantSign l X hcq2) ?_
  obtain ⟨b3, hf⟩ := gb_some hf
  obtain rfl := Option.some.inj hf
  exact g_zret (pc := 408) rfl b3 dX11_readStatement_408
set_option maxRecDepth 100000 in
set_option maxHeartbeats 4000000 in
theorem ok_X11_readStatement_L363 (l : Launch) (X : Cx) (h : AH) (a0 : Nat) (a1 : Int32) (a2 : Int32) (q : Int32 × AH) (hf : f_X11_readStatement_L363 h a0 a1 a2 = some q) : Go l X k_X11_readStatement 363 [(0, rf X a0), (1, .int a1), (2, .int a2)] [] h (rI q) := by
  unfold f_X11_readStatement_L363 at hf
  refine g_aload_n (pc := 363) 0 dX11_readStatement_363 rfl rfl ?_
  obtain ⟨g1, hf⟩ := gs_some hf
  refine g_getR (pc := 364) fl_X11_279 dX11_readStatement_364 g1 ?_
  refine g_iload_n (pc := 367) 2 dX11_readStatement_367 rfl rfl ?_
  obtain ⟨g2, hf⟩ := gs_some hf
  obtain ⟨b3, hf⟩ := gb_some hf
  refine g_iald (pc := 368) g2 b3 dX11_readStatement_368 ?_
  refine g_bipush (pc := 369) (v := (13 : Int32)) dX11_readStatement_369 (by decide) ?_
  rcases it_some hf with ⟨c4, hf⟩ | ⟨c4, hf⟩
  · refine g_icne_t (pc := 371) (tgt := 382) dX11_readStatement_371 (by decide) c4 ?_
    refine g_aload_n (pc := 382) 0 dX11_readStatement_382 rfl rfl ?_
    refine g_getR (pc := 383) fl_X11_279 dX11_readStatement_383 g1 ?_
    refine g_iload_n (pc := 386) 2 dX11_readStatement_386 rfl rfl ?_
    obtain ⟨b5, hf⟩ := gb_some hf
    refine g_iald (pc := 387) g2 b5 dX11_readStatement_387 ?_
    refine g_bipush (pc := 388) (v := (16 : Int32)) dX11_readStatement_388 (by decide) ?_
    rcases it_some hf with ⟨c6, hf⟩ | ⟨c6, hf⟩
    · refine g_iceq_t (pc := 390) (tgt := 402) dX11_readStatement_390 (by decide) c6 ?_
      refine g_sub [0] rfl ?_
      exact ok_X11_readStatement_L402 l X h a0 q hf
    · refine g_iceq_f (pc := 390) (tgt := 402) dX11_readStatement_390 (by decide) c6 ?_
      refine g_aload_n (pc := 393) 0 dX11_readStatement_393 rfl rfl ?_
      refine g_iload_n (pc := 394) 1 dX11_readStatement_394 rfl rfl ?_
      refine g_aload_n (pc := 395) 0 dX11_readStatement_395 rfl rfl ?_
      refine g_getI (pc := 396) fl_X11_461 dX11_readStatement_396 g1 ?_
      obtain ⟨q7, hcq7, hf⟩ := bd_some hf
      refine g_cVV (pc := 399) (k2 := k_X11_lay) (av := [.int a1, .int (hI h a0 76)]) (q := q7) rfl dX11_readStatement_399 ck_X11_lay m_1769 m_1771 m_75 (ci := 9) rfl (by decide) g1 (by decide) (by decide) rfl (by simp [rf_cat, rq_cat, ca_i, ca_l, ca_r]) (ct_X11_lay l X hcq7) ?_
      refine g_sub [0] rfl ?_
      exact ok_X11_readStatement_L402 l X q7 a0 q hf
  · refine g_icne_f (pc := 371) (tgt := 382) dX11_readStatement_371 (by decide) (Decidable.of_not_not c4) ?_
    refine g_aload_n (pc := 374) 0 dX11_readStatement_374 rfl rfl ?_
    refine g_iload_n (pc := 375) 1 dX11_readStatement_375 rfl rfl ?_
    obtain ⟨q8, hcq8, hf⟩ := bd_some hf
    refine g_cVV (pc := 376) (k2 := k_X11_layLi) (av := [.int a1]) (q := q8) rfl dX11_readStatement_376 ck_X11_layLi m_1765 m_1767 m_74 (ci := 9) rfl (by decide) g1 (by decide) (by decide) rfl (by simp [rf_cat, rq_cat, ca_i, ca_l, ca_r]) (ct_X11_layLi l X hcq8) ?_
    refine g_goto (pc := 379) (tgt := 402) dX11_readStatement_379 (by decide) ?_
    refine g_sub [0] rfl ?_
    exact ok_X11_readStatement_L402 l X q8 a0 q hf
set_option maxRecDepth 100000 in
set_option maxHeartbeats 4000000 in
theorem ok_X11_readStatement_L318 (l : Launch) (X : Cx) (h : AH) (a0 : Nat) (s0 : Nat) (s1 : Int32) (q : Int32 × AH) (hf : f_X11_readStatement_L318 h a0 s0 s1 = some q) : Go l X k_X11_readStatement 318 [(0, rf X a0)] [.int s1, rf X s0] h (rI q) := by
  unfold f_X11_readStatement_L318 at hf
  obtain ⟨g1, hf⟩ := gs_some hf
  obtain ⟨h2, eh2, hf⟩ := lt_some hf
  refine g_putI (pc := 318) fl_X11_488 dX11_readStatement_318 g1 eh2 ?_
  refine g_goto (pc := 321) (tgt := 402) dX11_readStatement_321 (by decide) ?_
  exact ok_X11_readStatement_L402 l X h2 a0 q hf
set_option maxRecDepth 100000 in
set_option maxHeartbeats 4000000 in
theorem ok_X11_readStatement_L315 (l : Launch) (X : Cx) (h : AH) (a0 : Nat) (s0 : Nat) (q : Int32 × AH) (hf : f_X11_readStatement_L315 h a0 s0 = some q) : Go l X k_X11_readStatement 315 [(0, rf X a0)] [rf X s0] h (rI q) := by
  unfold f_X11_readStatement_L315 at hf
  refine g_sipush (pc := 315) (v := (8192 : Int32)) dX11_readStatement_315 (by decide) ?_
  exact ok_X11_readStatement_L318 l X h a0 s0 (8192 : Int32) q hf
set_option maxRecDepth 100000 in
set_option maxHeartbeats 4000000 in
theorem ok_X11_readStatement_L211 (l : Launch) (X : Cx) (h : AH) (a0 : Nat) (q : Int32 × AH) (hf : f_X11_readStatement_L211 h a0 = some q) : Go l X k_X11_readStatement 211 [(0, rf X a0)] [] h (rI q) := by
  unfold f_X11_readStatement_L211 at hf
  refine g_aload_n (pc := 211) 0 dX11_readStatement_211 rfl rfl ?_
  obtain ⟨g1, hf⟩ := gs_some hf
  obtain ⟨q2, hcq2, hf⟩ := bd_some hf
  refine g_cVI (pc := 212) (k2 := k_X11_refuse) (av := []) (q := q2) rfl dX11_readStatement_212 ck_X11_refuse m_1705 m_1707 m_65 (ci := 9) rfl (by decide) g1 (by decide) (by decide) rfl (by simp [rf_cat, rq_cat, ca_i, ca_l, ca_r]) (ct_X11_refuse l X hcq2) ?_
  obtain ⟨b3, hf⟩ := gb_some hf
  obtain rfl := Option.some.inj hf
  exact g_zret (pc := 215) rfl b3 dX11_readStatement_215
set_option maxRecDepth 100000 in
set_option maxHeartbeats 4000000 in
theorem ok_X11_readStatement_L149 (l : Launch) (X : Cx) (h : AH) (a0 : Nat) (q : Int32 × AH) (hf : f_X11_readStatement_L149 h a0 = some q) : Go l X k_X11_readStatement 149 [(0, rf X a0)] [] h (rI q) := by
  unfold f_X11_readStatement_L149 at hf
  refine g_aload_n (pc := 149) 0 dX11_readStatement_149 rfl rfl ?_
  obtain ⟨g1, hf⟩ := gs_some hf
  refine g_getR (pc := 150) fl_X11_13 dX11_readStatement_150 g1 ?_
  refine g_aload_n (pc := 153) 0 dX11_readStatement_153 rfl rfl ?_
  refine g_getI (pc := 154) fl_X11_378 dX11_readStatement_154 g1 ?_
  obtain ⟨g2, hf⟩ := gs_some hf
  obtain ⟨b3, hf⟩ := gb_some hf
  refine g_iald (pc := 157) g2 b3 dX11_readStatement_157 ?_
  refine g_iconst (pc := 158) (v := (1 : Int32)) dX11_readStatement_158 (by decide) ?_
  rcases it_some hf with ⟨c4, hf⟩ | ⟨c4, hf⟩
  · refine g_icne_t (pc := 159) (tgt := 402) dX11_readStatement_159 (by decide) c4 ?_
    exact ok_X11_readStatement_L402 l X h a0 q hf
  · refine g_icne_f (pc := 159) (tgt := 402) dX11_readStatement_159 (by decide) (Decidable.of_not_not c4) ?_
    refine g_aload_n (pc := 162) 0 dX11_readStatement_162 rfl rfl ?_
    refine g_getI (pc := 163) fl_X11_378 dX11_readStatement_163 g1 ?_
    obtain ⟨x5, ex5, hf⟩ := lt_some hf
    refine g_istore_n (pc := 166) (L' := [(1, .int x5), (0, rf X a0)]) dX11_readStatement_166 rfl (by decide) ex5 (by simp [rf_cat, rq_cat]) ?_
    refine g_aload_n (pc := 167) 1 dX11_readStatement_167 rfl rfl ?_
    refine g_aload_n (pc := 168) 1 dX11_readStatement_168 rfl rfl ?_
    refine g_getR (pc := 169) fl_X11_19 dX11_readStatement_169 g1 ?_
    refine g_aload_n (pc := 172) 1 dX11_readStatement_172 rfl rfl ?_
    refine g_getI (pc := 173) fl_X11_378 dX11_readStatement_173 g1 ?_
    obtain ⟨g6, hf⟩ := gs_some hf
    obtain ⟨b7, hf⟩ := gb_some hf
    refine g_lald (pc := 176) g6 b7 dX11_readStatement_176 ?_
    obtain ⟨q8, hcq8, hf⟩ := bd_some hf
    refine g_cVI (pc := 177) (k2 := k_X11_opOf) (av := [.long (hL h (hR h a0 8) (hI h a0 9).toNatClampNeg)]) (q := q8) rfl dX11_readStatement_177 ck_X11_opOf m_1696 m_1698 m_64 (ci := 9) rfl (by decide) g1 (by decide) (by decide) rfl (by simp [rf_cat, rq_cat, ca_i, ca_l, ca_r]) (ct_X11_opOf l X hcq8) ?_
    obtain ⟨x9, ex9, hf⟩ := lt_some hf
    refine g_istore_n (pc := 180) (L' := [(2, .int x9), (1, .int x5), (0, rf X a0)]) dX11_readStatement_180 rfl (by decide) ex9 rfl ?_
    refine g_iload_n (pc := 181) 0 dX11_readStatement_181 rfl rfl ?_
    refine g_iconst (pc := 182) (v := (-1 : Int32)) dX11_readStatement_182 (by decide) ?_
    rcases it_some hf with ⟨c10, hf⟩ | ⟨c10, hf⟩
    · refine g_icne_t (pc := 183) (tgt := 216) dX11_readStatement_183 (by decide) c10 ?_
      refine g_aload_n (pc := 216) 2 dX11_readStatement_216 rfl rfl ?_
      refine g_dup (pc := 217) dX11_readStatement_217 (rf_cat X _) ?_
      obtain ⟨g11, hf⟩ := gs_some hf
      refine g_getI (pc := 218) fl_X11_378 dX11_readStatement_218 g11 ?_
      refine g_iconst (pc := 221) (v := (1 : Int32)) dX11_readStatement_221 (by decide) ?_
      refine g_iadd (pc := 222) dX11_readStatement_222 ?_
      obtain ⟨h12, eh12, hf⟩ := lt_some hf
      refine g_putI (pc := 223) fl_X11_378 dX11_readStatement_223 g11 eh12 ?_
      refine g_aload_n (pc := 226) 2 dX11_readStatement_226 rfl rfl ?_
      refine g_aload_n (pc := 227) 2 dX11_readStatement_227 rfl rfl ?_
      have g13 : hS h12 a0 = 10 := (hS_tI eh12 g11)
      refine g_getR (pc := 228) fl_X11_297 dX11_readStatement_228 g13 ?_
      refine g_iload_n (pc := 231) 0 dX11_readStatement_231 rfl rfl ?_
      obtain ⟨g14, hf⟩ := gs_some hf
      obtain ⟨b15, hf⟩ := gb_some hf
      refine g_iald (pc := 232) g14 b15 dX11_readStatement_232 ?_
      obtain ⟨h16, eh16, hf⟩ := lt_some hf
      refine g_putI (pc := 233) fl_X11_410 dX11_readStatement_233 g13 eh16 ?_
      refine g_aload_n (pc := 236) 2 dX11_readStatement_236 rfl rfl ?_
      refine g_iconst (pc := 237) (v := (-1 : Int32)) dX11_readStatement_237 (by decide) ?_
      have g17 : hS h16 a0 = 10 := (hS_tI eh16 g13)
      obtain ⟨h18, eh18, hf⟩ := lt_some hf
      refine g_putI (pc := 238) fl_X11_461 dX11_readStatement_238 g17 eh18 ?_
      refine g_aload_n (pc := 241) 2 dX11_readStatement_241 rfl rfl ?_
      refine g_iconst (pc := 242) (v := (0 : Int32)) dX11_readStatement_242 (by decide) ?_
      have g19 : hS h18 a0 = 10 := (hS_tI eh18 g17)
      obtain ⟨h20, eh20, hf⟩ := lt_some hf
      refine g_putZ (pc := 243) fl_X11_413 dX11_readStatement_243 g19 rfl eh20 ?_
      refine g_aload_n (pc := 246) 2 dX11_readStatement_246 rfl rfl ?_
      refine g_aload_n (pc := 247) 2 dX11_readStatement_247 rfl rfl ?_
      have g21 : hS h20 a0 = 10 := (hS_tI eh20 g19)
      refine g_getR (pc := 248) fl_X11_279 dX11_readStatement_248 g21 ?_
      refine g_iload_n (pc := 251) 0 dX11_readStatement_251 rfl rfl ?_
      obtain ⟨g22, hf⟩ := gs_some hf
      obtain ⟨b23, hf⟩ := gb_some hf
      refine g_iald (pc := 252) g22 b23 dX11_readStatement_252 ?_
      refine g_iload_n (pc := 253) 0 dX11_readStatement_253 rfl rfl ?_
      obtain ⟨q24, hcq24, hf⟩ := bd_some hf
      refine g_cVI (pc := 254) (k2 := k_X11_wantParts) (av := [.int (hI h20 (hR h20 a0 69) x9.toNatClampNeg), .int x9]) (q := q24) rfl dX11_readStatement_254 ck_X11_wantParts m_1709 m_1711 m_66 (ci := 9) rfl (by decide) g21 (by decide) (by decide) rfl (by simp [rf_cat, rq_cat, ca_i, ca_l, ca_r]) (ct_X11_wantParts l X hcq24) ?_
      rcases it_some hf with ⟨c25, hf⟩ | ⟨c25, hf⟩
      · refine g_ifne_t (pc := 257) (tgt := 262) dX11_readStatement_257 (by decide) c25 ?_
        refine g_aload_n (pc := 262) 2 dX11_readStatement_262 rfl rfl ?_
        obtain ⟨g26, hf⟩ := gs_some hf
        refine g_getR (pc := 263) fl_X11_279 dX11_readStatement_263 g26 ?_
        refine g_iload_n (pc := 266) 0 dX11_readStatement_266 rfl rfl ?_
        obtain ⟨g27, hf⟩ := gs_some hf
        obtain ⟨b28, hf⟩ := gb_some hf
        refine g_iald (pc := 267) g27 b28 dX11_readStatement_267 ?_
        refine g_bipush (pc := 268) (v := (15 : Int32)) dX11_readStatement_268 (by decide) ?_
        rcases it_some hf with ⟨c29, hf⟩ | ⟨c29, hf⟩
        · refine g_icne_t (pc := 270) (tgt := 324) dX11_readStatement_270 (by decide) c29 ?_
          refine g_aload_n (pc := 324) 2 dX11_readStatement_324 rfl rfl ?_
          refine g_getR (pc := 325) fl_X11_279 dX11_readStatement_325 g26 ?_
          refine g_iload_n (pc := 328) 0 dX11_readStatement_328 rfl rfl ?_
          obtain ⟨b30, hf⟩ := gb_some hf
          refine g_iald (pc := 329) g27 b30 dX11_readStatement_329 ?_
          refine g_bipush (pc := 330) (v := (16 : Int32)) dX11_readStatement_330 (by decide) ?_
          rcases it_some hf with ⟨c31, hf⟩ | ⟨c31, hf⟩
          · refine g_icne_t (pc := 332) (tgt := 363) dX11_readStatement_332 (by decide) c31 ?_
            refine g_sub [2, 1, 0] rfl ?_
            exact ok_X11_readStatement_L363 l X q24.2 a0 x5 x9 q hf
          · refine g_icne_f (pc := 332) (tgt := 363) dX11_readStatement_332 (by decide) (Decidable.of_not_not c31) ?_
            refine g_aload_n (pc := 335) 2 dX11_readStatement_335 rfl rfl ?_
            refine g_getL (pc := 336) fl_X11_424 dX11_readStatement_336 g26 ?_
            refine g_ldc2 (pc := 339) (v := (16 : Int64)) m_1677 dX11_readStatement_339 ?_
            refine g_lcmp (pc := 342) dX11_readStatement_342 ?_
            rcases it_some hf with ⟨c32, hf⟩ | ⟨c32, hf⟩
            · refine g_ifge_t (pc := 343) (tgt := 363) dX11_readStatement_343 (by decide) c32 ?_
              refine g_sub [2, 1, 0] rfl ?_
              exact ok_X11_readStatement_L363 l X q24.2 a0 x5 x9 q hf
            · refine g_ifge_f (pc := 343) (tgt := 363) dX11_readStatement_343 (by decide) c32 ?_
              refine g_aload_n (pc := 346) 2 dX11_readStatement_346 rfl rfl ?_
              refine g_getR (pc := 347) fl_X11_44 dX11_readStatement_347 g26 ?_
              refine g_aload_n (pc := 350) 2 dX11_readStatement_350 rfl rfl ?_
              refine g_getL (pc := 351) fl_X11_424 dX11_readStatement_351 g26 ?_
              refine g_l2i (pc := 354) dX11_readStatement_354 ?_
              refine g_aload_n (pc := 355) 2 dX11_readStatement_355 rfl rfl ?_
              refine g_getI (pc := 356) fl_X11_488 dX11_readStatement_356 g26 ?_
              obtain ⟨g33, hf⟩ := gs_some hf
              obtain ⟨b34, hf⟩ := gb_some hf
              obtain ⟨h35, eh35, hf⟩ := lt_some hf
              refine g_iast (pc := 359) g33 b34 dX11_readStatement_359 eh35 ?_
              refine g_goto (pc := 360) (tgt := 402) dX11_readStatement_360 (by decide) ?_
              refine g_sub [2] rfl ?_
              exact ok_X11_readStatement_L402 l X h35 a0 q hf
        · refine g_icne_f (pc := 270) (tgt := 324) dX11_readStatement_270 (by decide) (Decidable.of_not_not c29) ?_
          refine g_aload_n (pc := 273) 2 dX11_readStatement_273 rfl rfl ?_
          refine g_aload_n (pc := 274) 2 dX11_readStatement_274 rfl rfl ?_
          refine g_getL (pc := 275) fl_X11_424 dX11_readStatement_275 g26 ?_
          refine g_lconst (pc := 278) (v := (0 : Int64)) dX11_readStatement_278 (by decide) ?_
          refine g_lcmp (pc := 279) dX11_readStatement_279 ?_
          rcases it_some hf with ⟨c36, hf⟩ | ⟨c36, hf⟩
          · refine g_iflt_t (pc := 280) (tgt := 315) dX11_readStatement_280 (by decide) c36 ?_
            refine g_sub [2] rfl ?_
            exact ok_X11_readStatement_L315 l X q24.2 a0 a0 q hf
          · refine g_iflt_f (pc := 280) (tgt := 315) dX11_readStatement_280 (by decide) c36 ?_
            refine g_aload_n (pc := 283) 2 dX11_readStatement_283 rfl rfl ?_
            refine g_getL (pc := 284) fl_X11_424 dX11_readStatement_284 g26 ?_
            refine g_ldc2 (pc := 287) (v := (8188 : Int64)) m_1763 dX11_readStatement_287 ?_
            refine g_lcmp (pc := 290) dX11_readStatement_290 ?_
            rcases it_some hf with ⟨c37, hf⟩ | ⟨c37, hf⟩
            · refine g_ifgt_t (pc := 291) (tgt := 315) dX11_readStatement_291 (by decide) c37 ?_
              refine g_sub [2] rfl ?_
              exact ok_X11_readStatement_L315 l X q24.2 a0 a0 q hf
            · refine g_ifgt_f (pc := 291) (tgt := 315) dX11_readStatement_291 (by decide) c37 ?_
              refine g_aload_n (pc := 294) 2 dX11_readStatement_294 rfl rfl ?_
              refine g_getL (pc := 295) fl_X11_424 dX11_readStatement_295 g26 ?_
              refine g_ldc2 (pc := 298) (v := (4 : Int64)) m_1719 dX11_readStatement_298 ?_
              refine g_lrem (pc := 301) (by decide) dX11_readStatement_301 ?_
              refine g_lconst (pc := 302) (v := (0 : Int64)) dX11_readStatement_302 (by decide) ?_
              refine g_lcmp (pc := 303) dX11_readStatement_303 ?_
              rcases it_some hf with ⟨c38, hf⟩ | ⟨c38, hf⟩
              · refine g_ifne_t (pc := 304) (tgt := 315) dX11_readStatement_304 (by decide) c38 ?_
                refine g_sub [2] rfl ?_
                exact ok_X11_readStatement_L315 l X q24.2 a0 a0 q hf
              · refine g_ifne_f (pc := 304) (tgt := 315) dX11_readStatement_304 (by decide) (Decidable.of_not_not c38) ?_
                refine g_aload_n (pc := 307) 2 dX11_readStatement_307 rfl rfl ?_
                refine g_getL (pc := 308) fl_X11_424 dX11_readStatement_308 g26 ?_
                refine g_l2i (pc := 311) dX11_readStatement_311 ?_
                refine g_goto (pc := 312) (tgt := 318) dX11_readStatement_312 (by decide) ?_
                refine g_sub [2] rfl ?_
                exact ok_X11_readStatement_L318 l X q24.2 a0 a0 (hL q24.2 a0 72).toInt32 q hf
      · refine g_ifne_f (pc := 257) (tgt := 262) dX11_readStatement_257 (by decide) (Decidable.of_not_not c25) ?_
        refine g_iconst (pc := 260) (v := (0 : Int32)) dX11_readStatement_260 (by decide) ?_
        obtain rfl := Option.some.inj hf
        exact g_zret (pc := 261) rfl rfl dX11_readStatement_261
    · refine g_icne_f (pc := 183) (tgt := 216) dX11_readStatement_183 (by decide) (Decidable.of_not_not c10) ?_
      refine g_aload_n (pc := 186) 2 dX11_readStatement_186 rfl rfl ?_
      obtain ⟨g39, hf⟩ := gs_some hf
      refine g_getR (pc := 187) fl_X11_13 dX11_readStatement_187 g39 ?_
      refine g_aload_n (pc := 190) 2 dX11_readStatement_190 rfl rfl ?_
      refine g_getI (pc := 191) fl_X11_378 dX11_readStatement_191 g39 ?_
      refine g_iconst (pc := 194) (v := (1 : Int32)) dX11_readStatement_194 (by decide) ?_
      refine g_iadd (pc := 195) dX11_readStatement_195 ?_
      obtain ⟨g40, hf⟩ := gs_some hf
      obtain ⟨b41, hf⟩ := gb_some hf
      refine g_iald (pc := 196) g40 b41 dX11_readStatement_196 ?_
      refine g_iconst (pc := 197) (v := (4 : Int32)) dX11_readStatement_197 (by decide) ?_
      rcases it_some hf with ⟨c42, hf⟩ | ⟨c42, hf⟩
      · refine g_icne_t (pc := 198) (tgt := 211) dX11_readStatement_198 (by decide) c42 ?_
        refine g_sub [2] rfl ?_
        exact ok_X11_readStatement_L211 l X q8.2 a0 q hf
      · refine g_icne_f (pc := 198) (tgt := 211) dX11_readStatement_198 (by decide) (Decidable.of_not_not c42) ?_
        refine g_aload_n (pc := 201) 2 dX11_readStatement_201 rfl rfl ?_
        refine g_dup (pc := 202) dX11_readStatement_202 (rf_cat X _) ?_
        refine g_getI (pc := 203) fl_X11_378 dX11_readStatement_203 g39 ?_
        refine g_iconst (pc := 206) (v := (1 : Int32)) dX11_readStatement_206 (by decide) ?_
        refine g_iadd (pc := 207) dX11_readStatement_207 ?_
        obtain ⟨h43, eh43, hf⟩ := lt_some hf
        refine g_putI (pc := 208) fl_X11_378 dX11_readStatement_208 g39 eh43 ?_
        refine g_sub [2] rfl ?_
        exact ok_X11_readStatement_L211 l X h43 a0 q hf
set_option maxRecDepth 100000 in
set_option maxHeartbeats 4000000 in
theorem ok_X11_readStatement_L89 (l : Launch) (X : Cx) (k0 : AH → Nat → Option (Int32 × AH)) (hk0 : ∀ (h : AH) (a0 : Nat) (q : Int32 × AH), k0 h a0 = some q → Go l X k_X11_readStatement 0 [(0, rf X a0)] [] h (rI q)) (k48 : AH → Nat → Int32 → Option (Int32 × AH)) (hk48 : ∀ (h : AH) (a0 : Nat) (a1 : Int32) (q : Int32 × AH), k48 h a0 a1 = some q → Go l X k_X11_readStatement 48 [(0, rf X a0), (1, .int a1)] [] h (rI q)) (h : AH) (a0 : Nat) (a1 : Int32) (q : Int32 × AH) (hf : f_X11_readStatement_L89 k0 k48 h a0 a1 = some q) : Go l X k_X11_readStatement 89 [(0, rf X a0), (1, .int a1)] [] h (rI q) := by
  unfold f_X11_readStatement_L89 at hf
  obtain ⟨x1, ex1, hf⟩ := lt_some hf
  refine g_iinc (pc := 89) (y := x1) (L' := [(1, .int x1), (0, rf X a0)]) 1 dX11_readStatement_89 rfl (by decide) (ex1.trans rfl) (by simp [rf_cat, rq_cat]) ?_
  refine g_goto (pc := 92) (tgt := 48) dX11_readStatement_92 (by decide) ?_
  refine g_sub [1, 0] rfl ?_
  exact hk48 h a0 x1 q hf
set_option maxRecDepth 100000 in
set_option maxHeartbeats 4000000 in
theorem ok_X11_readStatement_L48 (l : Launch) (X : Cx) (k0 : AH → Nat → Option (Int32 × AH)) (hk0 : ∀ (h : AH) (a0 : Nat) (q : Int32 × AH), k0 h a0 = some q → Go l X k_X11_readStatement 0 [(0, rf X a0)] [] h (rI q)) : ∀ (n : Nat) (h : AH) (a0 : Nat) (a1 : Int32) (q : Int32 × AH), f_X11_readStatement_L48 k0 n h a0 a1 = some q → Go l X k_X11_readStatement 48 [(0, rf X a0), (1, .int a1)] [] h (rI q) := by
  intro n
  induction n with
  | zero =>
    intro h a0 a1 q hf
    unfold f_X11_readStatement_L48 at hf
    cases hf
  | succ n ih =>
    intro h a0 a1 q hf
    unfold f_X11_readStatement_L48 at hf
    refine g_iload_n (pc := 48) 1 dX11_readStatement_48 rfl rfl ?_
    refine g_aload_n (pc := 49) 0 dX11_readStatement_49 rfl rfl ?_
    obtain ⟨g1, hf⟩ := gs_some hf
    refine g_getI (pc := 50) fl_X11_485 dX11_readStatement_50 g1 ?_
    rcases it_some hf with ⟨c2, hf⟩ | ⟨c2, hf⟩
    · refine g_icge_t (pc := 53) (tgt := 95) dX11_readStatement_53 (by decide) c2 ?_
      refine g_aload_n (pc := 95) 0 dX11_readStatement_95 rfl rfl ?_
      refine g_getR (pc := 96) fl_X11_23 dX11_readStatement_96 g1 ?_
      refine g_aload_n (pc := 99) 0 dX11_readStatement_99 rfl rfl ?_
      refine g_getI (pc := 100) fl_X11_485 dX11_readStatement_100 g1 ?_
      refine g_aload_n (pc := 103) 0 dX11_readStatement_103 rfl rfl ?_
      refine g_getR (pc := 104) fl_X11_19 dX11_readStatement_104 g1 ?_
      refine g_aload_n (pc := 107) 0 dX11_readStatement_107 rfl rfl ?_
      refine g_getI (pc := 108) fl_X11_378 dX11_readStatement_108 g1 ?_
      obtain ⟨g3, hf⟩ := gs_some hf
      obtain ⟨b4, hf⟩ := gb_some hf
      refine g_lald (pc := 111) g3 b4 dX11_readStatement_111 ?_
      obtain ⟨g5, hf⟩ := gs_some hf
      obtain ⟨b6, hf⟩ := gb_some hf
      obtain ⟨h7, eh7, hf⟩ := lt_some hf
      refine g_last (pc := 112) g5 b6 dX11_readStatement_112 eh7 ?_
      refine g_aload_n (pc := 113) 0 dX11_readStatement_113 rfl rfl ?_
      have g8 : hS h7 a0 = 10 := (hS_tL eh7 g1)
      refine g_getR (pc := 114) fl_X11_26 dX11_readStatement_114 g8 ?_
      refine g_aload_n (pc := 117) 0 dX11_readStatement_117 rfl rfl ?_
      refine g_getI (pc := 118) fl_X11_485 dX11_readStatement_118 g8 ?_
      refine g_aload_n (pc := 121) 0 dX11_readStatement_121 rfl rfl ?_
      refine g_getI (pc := 122) fl_X11_488 dX11_readStatement_122 g8 ?_
      obtain ⟨g9, hf⟩ := gs_some hf
      obtain ⟨b10, hf⟩ := gb_some hf
      obtain ⟨h11, eh11, hf⟩ := lt_some hf
      refine g_iast (pc := 125) g9 b10 dX11_readStatement_125 eh11 ?_
      refine g_aload_n (pc := 126) 0 dX11_readStatement_126 rfl rfl ?_
      refine g_dup (pc := 127) dX11_readStatement_127 (rf_cat X _) ?_
      have g12 : hS h11 a0 = 10 := (hS_tI eh11 g8)
      refine g_getI (pc := 128) fl_X11_485 dX11_readStatement_128 g12 ?_
      refine g_iconst (pc := 131) (v := (1 : Int32)) dX11_readStatement_131 (by decide) ?_
      refine g_iadd (pc := 132) dX11_readStatement_132 ?_
      obtain ⟨h13, eh13, hf⟩ := lt_some hf
      refine g_putI (pc := 133) fl_X11_485 dX11_readStatement_133 g12 eh13 ?_
      refine g_aload_n (pc := 136) 0 dX11_readStatement_136 rfl rfl ?_
      refine g_dup (pc := 137) dX11_readStatement_137 (rf_cat X _) ?_
      have g14 : hS h13 a0 = 10 := (hS_tI eh13 g12)
      refine g_getI (pc := 138) fl_X11_378 dX11_readStatement_138 g14 ?_
      refine g_iconst (pc := 141) (v := (2 : Int32)) dX11_readStatement_141 (by decide) ?_
      refine g_iadd (pc := 142) dX11_readStatement_142 ?_
      obtain ⟨h15, eh15, hf⟩ := lt_some hf
      refine g_putI (pc := 143) fl_X11_378 dX11_readStatement_143 g14 eh15 ?_
      refine g_goto (pc := 146) (tgt := 0) dX11_readStatement_146 (by decide) ?_
      refine g_sub [0] rfl ?_
      exact hk0 h15 a0 q hf
    · refine g_icge_f (pc := 53) (tgt := 95) dX11_readStatement_53 (by decide) c2 ?_
      refine g_aload_n (pc := 56) 0 dX11_readStatement_56 rfl rfl ?_
      refine g_getR (pc := 57) fl_X11_23 dX11_readStatement_57 g1 ?_
      refine g_iload_n (pc := 60) 1 dX11_readStatement_60 rfl rfl ?_
      obtain ⟨g16, hf⟩ := gs_some hf
      obtain ⟨b17, hf⟩ := gb_some hf
      refine g_lald (pc := 61) g16 b17 dX11_readStatement_61 ?_
      refine g_aload_n (pc := 62) 0 dX11_readStatement_62 rfl rfl ?_
      refine g_getR (pc := 63) fl_X11_19 dX11_readStatement_63 g1 ?_
      refine g_aload_n (pc := 66) 0 dX11_readStatement_66 rfl rfl ?_
      refine g_getI (pc := 67) fl_X11_378 dX11_readStatement_67 g1 ?_
      obtain ⟨g18, hf⟩ := gs_some hf
      obtain ⟨b19, hf⟩ := gb_some hf
      refine g_lald (pc := 70) g18 b19 dX11_readStatement_70 ?_
      refine g_lcmp (pc := 71) dX11_readStatement_71 ?_
      rcases it_some hf with ⟨c20, hf⟩ | ⟨c20, hf⟩
      · refine g_ifne_t (pc := 72) (tgt := 89) dX11_readStatement_72 (by decide) c20 ?_
        exact ok_X11_readStatement_L89 l X k0 hk0 (f_X11_readStatement_L48 k0 n) ih h a0 a1 q hf
      · refine g_ifne_f (pc := 72) (tgt := 89) dX11_readStatement_72 (by decide) (Decidable.of_not_not c20) ?_
        refine g_aload_n (pc := 75) 0 dX11_readStatement_75 rfl rfl ?_
        refine g_iconst (pc := 76) (v := (2 : Int32)) dX11_readStatement_76 (by decide) ?_
        refine g_aload_n (pc := 77) 0 dX11_readStatement_77 rfl rfl ?_
        refine g_getR (pc := 78) fl_X11_16 dX11_readStatement_78 g1 ?_
        refine g_aload_n (pc := 81) 0 dX11_readStatement_81 rfl rfl ?_
        refine g_getI (pc := 82) fl_X11_378 dX11_readStatement_82 g1 ?_
        obtain ⟨g21, hf⟩ := gs_some hf
        obtain ⟨b22, hf⟩ := gb_some hf
        refine g_iald (pc := 85) g21 b22 dX11_readStatement_85 ?_
        obtain ⟨q23, hcq23, hf⟩ := bd_some hf
        refine g_cVV (pc := 86) (k2 := k_X11_note) (av := [.int (2 : Int32), .int (hI h (hR h a0 7) (hI h a0 9).toNatClampNeg)]) (q := q23) rfl dX11_readStatement_86 ck_X11_note m_1692 m_1694 m_63 (ci := 9) rfl (by decide) g1 (by decide) (by decide) rfl (by simp [rf_cat, rq_cat, ca_i, ca_l, ca_r]) (ct_X11_note l X hcq23) ?_
        exact ok_X11_readStatement_L89 l X k0 hk0 (f_X11_readStatement_L48 k0 n) ih q23 a0 a1 q hf
set_option maxRecDepth 100000 in
set_option maxHeartbeats 4000000 in
theorem ok_X11_readStatement_L0 (l : Launch) (X : Cx) : ∀ (n : Nat) (h : AH) (a0 : Nat) (q : Int32 × AH), f_X11_readStatement_L0 n h a0 = some q → Go l X k_X11_readStatement 0 [(0, rf X a0)] [] h (rI q) := by
  intro n
  induction n with
  | zero =>
    intro h a0 q hf
    unfold f_X11_readStatement_L0 at hf
    cases hf
  | succ n ih =>
    intro h a0 q hf
    unfold f_X11_readStatement_L0 at hf
    refine g_aload_n (pc := 0) 0 dX11_readStatement_0 rfl rfl ?_
    obtain ⟨g1, hf⟩ := gs_some hf
    refine g_getR (pc := 1) fl_X11_13 dX11_readStatement_1 g1 ?_
    refine g_aload_n (pc := 4) 0 dX11_readStatement_4 rfl rfl ?_
    refine g_getI (pc := 5) fl_X11_378 dX11_readStatement_5 g1 ?_
    obtain ⟨g2, hf⟩ := gs_some hf
    obtain ⟨b3, hf⟩ := gb_some hf
    refine g_iald (pc := 8) g2 b3 dX11_readStatement_8 ?_
    refine g_iconst (pc := 9) (v := (1 : Int32)) dX11_readStatement_9 (by decide) ?_
    rcases it_some hf with ⟨c4, hf⟩ | ⟨c4, hf⟩
    · refine g_icne_t (pc := 10) (tgt := 149) dX11_readStatement_10 (by decide) c4 ?_
      exact ok_X11_readStatement_L149 l X h a0 q hf
    · refine g_icne_f (pc := 10) (tgt := 149) dX11_readStatement_10 (by decide) (Decidable.of_not_not c4) ?_
      refine g_aload_n (pc := 13) 0 dX11_readStatement_13 rfl rfl ?_
      refine g_getR (pc := 14) fl_X11_13 dX11_readStatement_14 g1 ?_
      refine g_aload_n (pc := 17) 0 dX11_readStatement_17 rfl rfl ?_
      refine g_getI (pc := 18) fl_X11_378 dX11_readStatement_18 g1 ?_
      refine g_iconst (pc := 21) (v := (1 : Int32)) dX11_readStatement_21 (by decide) ?_
      refine g_iadd (pc := 22) dX11_readStatement_22 ?_
      obtain ⟨b5, hf⟩ := gb_some hf
      refine g_iald (pc := 23) g2 b5 dX11_readStatement_23 ?_
      refine g_iconst (pc := 24) (v := (3 : Int32)) dX11_readStatement_24 (by decide) ?_
      rcases it_some hf with ⟨c6, hf⟩ | ⟨c6, hf⟩
      · refine g_icne_t (pc := 25) (tgt := 149) dX11_readStatement_25 (by decide) c6 ?_
        exact ok_X11_readStatement_L149 l X h a0 q hf
      · refine g_icne_f (pc := 25) (tgt := 149) dX11_readStatement_25 (by decide) (Decidable.of_not_not c6) ?_
        refine g_aload_n (pc := 28) 0 dX11_readStatement_28 rfl rfl ?_
        refine g_getR (pc := 29) fl_X11_19 dX11_readStatement_29 g1 ?_
        refine g_aload_n (pc := 32) 0 dX11_readStatement_32 rfl rfl ?_
        refine g_getI (pc := 33) fl_X11_378 dX11_readStatement_33 g1 ?_
        refine g_iconst (pc := 36) (v := (1 : Int32)) dX11_readStatement_36 (by decide) ?_
        refine g_iadd (pc := 37) dX11_readStatement_37 ?_
        obtain ⟨g7, hf⟩ := gs_some hf
        obtain ⟨b8, hf⟩ := gb_some hf
        refine g_lald (pc := 38) g7 b8 dX11_readStatement_38 ?_
        refine g_ldc2 (pc := 39) (v := (58 : Int64)) m_1691 dX11_readStatement_39 ?_
        refine g_lcmp (pc := 42) dX11_readStatement_42 ?_
        rcases it_some hf with ⟨c9, hf⟩ | ⟨c9, hf⟩
        · refine g_ifne_t (pc := 43) (tgt := 149) dX11_readStatement_43 (by decide) c9 ?_
          exact ok_X11_readStatement_L149 l X h a0 q hf
        · refine g_ifne_f (pc := 43) (tgt := 149) dX11_readStatement_43 (by decide) (Decidable.of_not_not c9) ?_
          refine g_iconst (pc := 46) (v := (0 : Int32)) dX11_readStatement_46 (by decide) ?_
          obtain ⟨x10, ex10, hf⟩ := lt_some hf
          refine g_istore_n (pc := 47) (L' := [(1, .int x10), (0, rf X a0)]) dX11_readStatement_47 rfl (by decide) ex10 (by simp [rf_cat, rq_cat]) ?_
          refine g_sub [1, 0] rfl ?_
          exact ok_X11_readStatement_L48 l X (f_X11_readStatement_L0 n) ih FU h a0 x10 q hf
set_option maxRecDepth 100000 in
set_option maxHeartbeats 4000000 in
theorem ok_X11_readStatement (l : Launch) (X : Cx) {h : AH} {a0 : Nat} {q : Int32 × AH} (hf : f_X11_readStatement h a0 = some q) : Go l X k_X11_readStatement 0 [(0, rf X a0)] [] h (rI q) := by
  unfold f_X11_readStatement at hf
  exact ok_X11_readStatement_L0 l X FU h a0 q hf
theorem ct_X11_readStatement (l : Launch) (X : Cx) {h : AH} {a0 : Nat} {q : Int32 × AH} (hf : f_X11_readStatement h a0 = some q) : Ct l X k_X11_readStatement [rf X a0] h (rI q) := ct_of ck_X11_readStatement (by simp [lg_sl, rf_cat, rq_cat, ca_i, ca_l, ca_r]) (by simp [lv_args, rf_cat, rq_cat, ca_i, ca_l, ca_r]) (ok_X11_readStatement l X hf)
