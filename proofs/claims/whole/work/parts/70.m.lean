set_option maxRecDepth 100000 in
set_option maxHeartbeats 4000000 in
theorem ok_X11_resolve_L155 (l : Launch) (X : Cx) (h : AH) (a0 : Nat) (a1 : Int32) (a3 : Int32) (a4 : Int32) (q : AH) (hf : f_X11_resolve_L155 h a0 a1 a3 a4 = some q) : Go l X k_X11_resolve 155 [(0, rf X a0), (1, .int a1), (3, .int a3), (4, .int a4)] [] h (rV q) := by
  unfold f_X11_resolve_L155 at hf
  refine g_aload_n (pc := 155) 0 dX11_resolve_155 rfl rfl ?_
  obtain ⟨g1, hf⟩ := gs_some hf
  refine g_getR (pc := 156) fl_X11_32 dX11_resolve_156 g1 ?_
  refine g_iload_n (pc := 159) 1 dX11_resolve_159 rfl rfl ?_
  refine g_dup2 (pc := 160) dX11_resolve_160 rfl (rf_cat X _) ?_
  obtain ⟨g2, hf⟩ := gs_some hf
  obtain ⟨b3, hf⟩ := gb_some hf
  refine g_iald (pc := 161) g2 b3 dX11_resolve_161 ?_
  refine g_iload_n (pc := 162) 2 dX11_resolve_162 rfl rfl ?_
  refine g_iload (pc := 163) 3 dX11_resolve_163 rfl ?_
  refine g_i2l (pc := 165) dX11_resolve_165 ?_
  obtain ⟨v4, hcv4, hf⟩ := bd_some hf
  refine g_cSI (pc := 166) (k2 := k_X11_put) (av := [.int a3, .long (a4.toInt64)]) (q := (v4, h)) rfl dX11_resolve_166 ck_X11_put m_1773 m_1774 (by decide) (by decide) rfl (by simp [rf_cat, rq_cat, ca_i, ca_l, ca_r]) (ct_X11_put l X hcv4) ?_
  refine g_ior (pc := 169) dX11_resolve_169 ?_
  obtain ⟨b5, hf⟩ := gb_some hf
  obtain ⟨h6, eh6, hf⟩ := lt_some hf
  refine g_iast (pc := 170) g2 b5 dX11_resolve_170 eh6 ?_
  obtain rfl := Option.some.inj hf
  exact g_vret (pc := 171) rfl dX11_resolve_171
set_option maxRecDepth 100000 in
set_option maxHeartbeats 4000000 in
theorem ok_X11_resolve_L144 (l : Launch) (X : Cx) (h : AH) (a0 : Nat) (a1 : Int32) (a3 : Int32) (a4 : Int32) (q : AH) (hf : f_X11_resolve_L144 h a0 a1 a3 a4 = some q) : Go l X k_X11_resolve 144 [(0, rf X a0), (1, .int a1), (3, .int a3), (4, .int a4)] [] h (rV q) := by
  unfold f_X11_resolve_L144 at hf
  refine g_aload_n (pc := 144) 0 dX11_resolve_144 rfl rfl ?_
  refine g_iconst (pc := 145) (v := (3 : Int32)) dX11_resolve_145 (by decide) ?_
  refine g_aload_n (pc := 146) 0 dX11_resolve_146 rfl rfl ?_
  obtain ⟨g1, hf⟩ := gs_some hf
  refine g_getR (pc := 147) fl_X11_41 dX11_resolve_147 g1 ?_
  refine g_iload_n (pc := 150) 1 dX11_resolve_150 rfl rfl ?_
  obtain ⟨g2, hf⟩ := gs_some hf
  obtain ⟨b3, hf⟩ := gb_some hf
  refine g_iald (pc := 151) g2 b3 dX11_resolve_151 ?_
  obtain ⟨q4, hcq4, hf⟩ := bd_some hf
  refine g_cVV (pc := 152) (k2 := k_X11_note) (av := [.int (3 : Int32), .int (hI h (hR h a0 18) a1.toNatClampNeg)]) (q := q4) rfl dX11_resolve_152 ck_X11_note m_1692 m_1694 m_63 (ci := 9) rfl (by decide) g1 (by decide) (by decide) rfl (by simp [rf_cat, rq_cat, ca_i, ca_l, ca_r]) (ct_X11_note l X hcq4) ?_
  exact ok_X11_resolve_L155 l X q4 a0 a1 a3 a4 q hf
set_option maxRecDepth 100000 in
set_option maxHeartbeats 4000000 in
theorem ok_X11_resolve_L105 (l : Launch) (X : Cx) (h : AH) (a0 : Nat) (a1 : Int32) (a3 : Int32) (a4 : Int32) (s0 : Int32) (q : AH) (hf : f_X11_resolve_L105 h a0 a1 a3 a4 s0 = some q) : Go l X k_X11_resolve 105 [(0, rf X a0), (1, .int a1), (3, .int a3), (4, .int a4)] [.int s0] h (rV q) := by
  unfold f_X11_resolve_L105 at hf
  refine g_istore (pc := 105) (L' := [(5, .int s0), (0, rf X a0), (1, .int a1), (3, .int a3), (4, .int a4)]) dX11_resolve_105 (by decide) rfl rfl ?_
  refine g_iload (pc := 107) 0 dX11_resolve_107 rfl ?_
  rcases it_some hf with ⟨c1, hf⟩ | ⟨c1, hf⟩
  · refine g_ifne_t (pc := 109) (tgt := 155) dX11_resolve_109 (by decide) c1 ?_
    refine g_sub [1, 2, 3, 4] rfl ?_
    exact ok_X11_resolve_L155 l X h a0 a1 a3 a4 q hf
  · refine g_ifne_f (pc := 109) (tgt := 155) dX11_resolve_109 (by decide) (Decidable.of_not_not c1) ?_
    refine g_iload (pc := 112) 4 dX11_resolve_112 rfl ?_
    refine g_i2l (pc := 114) dX11_resolve_114 ?_
    refine g_iload_n (pc := 115) 3 dX11_resolve_115 rfl rfl ?_
    obtain ⟨v2, hcv2, hf⟩ := bd_some hf
    refine g_cSJ (pc := 116) (k2 := k_X11_leastOf) (av := [.int a3]) (q := (v2, h)) rfl dX11_resolve_116 ck_X11_leastOf m_1736 m_1737 (by decide) (by decide) rfl (by simp [rf_cat, rq_cat, ca_i, ca_l, ca_r]) (ct_X11_leastOf l X hcv2) ?_
    refine g_lcmp (pc := 119) dX11_resolve_119 ?_
    rcases it_some hf with ⟨c3, hf⟩ | ⟨c3, hf⟩
    · refine g_iflt_t (pc := 120) (tgt := 144) dX11_resolve_120 (by decide) c3 ?_
      refine g_sub [1, 2, 3, 4] rfl ?_
      exact ok_X11_resolve_L144 l X h a0 a1 a3 a4 q hf
    · refine g_iflt_f (pc := 120) (tgt := 144) dX11_resolve_120 (by decide) c3 ?_
      refine g_iload (pc := 123) 4 dX11_resolve_123 rfl ?_
      refine g_i2l (pc := 125) dX11_resolve_125 ?_
      refine g_iload_n (pc := 126) 3 dX11_resolve_126 rfl rfl ?_
      obtain ⟨v4, hcv4, hf⟩ := bd_some hf
      refine g_cSJ (pc := 127) (k2 := k_X11_mostOf) (av := [.int a3]) (q := (v4, h)) rfl dX11_resolve_127 ck_X11_mostOf m_1743 m_1744 (by decide) (by decide) rfl (by simp [rf_cat, rq_cat, ca_i, ca_l, ca_r]) (ct_X11_mostOf l X hcv4) ?_
      refine g_lcmp (pc := 130) dX11_resolve_130 ?_
      rcases it_some hf with ⟨c5, hf⟩ | ⟨c5, hf⟩
      · refine g_ifgt_t (pc := 131) (tgt := 144) dX11_resolve_131 (by decide) c5 ?_
        refine g_sub [1, 2, 3, 4] rfl ?_
        exact ok_X11_resolve_L144 l X h a0 a1 a3 a4 q hf
      · refine g_ifgt_f (pc := 131) (tgt := 144) dX11_resolve_131 (by decide) c5 ?_
        refine g_iload (pc := 134) 4 dX11_resolve_134 rfl ?_
        refine g_iload_n (pc := 136) 3 dX11_resolve_136 rfl rfl ?_
        obtain ⟨v6, hcv6, hf⟩ := bd_some hf
        refine g_cSI (pc := 137) (k2 := k_X11_multipleOf) (av := [.int a3]) (q := (v6, h)) rfl dX11_resolve_137 ck_X11_multipleOf m_1752 m_1753 (by decide) (by decide) rfl (by simp [rf_cat, rq_cat, ca_i, ca_l, ca_r]) (ct_X11_multipleOf l X hcv6) ?_
        obtain ⟨b7, hf⟩ := gb_some hf
        refine g_irem (pc := 140) (of_decide_eq_true b7) dX11_resolve_140 ?_
        rcases it_some hf with ⟨c8, hf⟩ | ⟨c8, hf⟩
        · refine g_ifeq_t (pc := 141) (tgt := 155) dX11_resolve_141 (by decide) c8 ?_
          refine g_sub [1, 2, 3, 4] rfl ?_
          exact ok_X11_resolve_L155 l X h a0 a1 a3 a4 q hf
        · refine g_ifeq_f (pc := 141) (tgt := 155) dX11_resolve_141 (by decide) c8 ?_
          refine g_sub [1, 2, 3, 4] rfl ?_
          exact ok_X11_resolve_L144 l X h a0 a1 a3 a4 q hf
set_option maxRecDepth 100000 in
set_option maxHeartbeats 4000000 in
theorem ok_X11_resolve_L100 (l : Launch) (X : Cx) (h : AH) (a0 : Nat) (a1 : Int32) (a3 : Int32) (a4 : Int32) (q : AH) (hf : f_X11_resolve_L100 h a0 a1 a3 a4 = some q) : Go l X k_X11_resolve 100 [(0, rf X a0), (1, .int a1), (3, .int a3), (4, .int a4)] [] h (rV q) := by
  unfold f_X11_resolve_L100 at hf
  refine g_iconst (pc := 100) (v := (1 : Int32)) dX11_resolve_100 (by decide) ?_
  refine g_goto (pc := 101) (tgt := 105) dX11_resolve_101 (by decide) ?_
  exact ok_X11_resolve_L105 l X h a0 a1 a3 a4 (1 : Int32) q hf
set_option maxRecDepth 100000 in
set_option maxHeartbeats 4000000 in
theorem ok_X11_resolve_L85 (l : Launch) (X : Cx) (h : AH) (a0 : Nat) (a1 : Int32) (a3 : Int32) (s0 : Int32) (s1 : Int32) (q : AH) (hf : f_X11_resolve_L85 h a0 a1 a3 s0 s1 = some q) : Go l X k_X11_resolve 85 [(0, rf X a0), (1, .int a1), (3, .int a3)] [.int s1, .int s0] h (rV q) := by
  unfold f_X11_resolve_L85 at hf
  refine g_isub (pc := 85) dX11_resolve_85 ?_
  obtain ⟨x1, ex1, hf⟩ := lt_some hf
  refine g_istore (pc := 86) (L' := [(4, .int x1), (0, rf X a0), (1, .int a1), (3, .int a3)]) dX11_resolve_86 (by decide) ex1 rfl ?_
  refine g_iload_n (pc := 88) 3 dX11_resolve_88 rfl rfl ?_
  refine g_bipush (pc := 89) (v := (7 : Int32)) dX11_resolve_89 (by decide) ?_
  rcases it_some hf with ⟨c2, hf⟩ | ⟨c2, hf⟩
  · refine g_iceq_t (pc := 91) (tgt := 100) dX11_resolve_91 (by decide) c2 ?_
    refine g_sub [1, 2, 3, 0] rfl ?_
    exact ok_X11_resolve_L100 l X h a0 a1 a3 x1 q hf
  · refine g_iceq_f (pc := 91) (tgt := 100) dX11_resolve_91 (by decide) c2 ?_
    refine g_iload_n (pc := 94) 3 dX11_resolve_94 rfl rfl ?_
    refine g_bipush (pc := 95) (v := (8 : Int32)) dX11_resolve_95 (by decide) ?_
    rcases it_some hf with ⟨c3, hf⟩ | ⟨c3, hf⟩
    · refine g_icne_t (pc := 97) (tgt := 104) dX11_resolve_97 (by decide) c3 ?_
      refine g_iconst (pc := 104) (v := (0 : Int32)) dX11_resolve_104 (by decide) ?_
      refine g_sub [1, 2, 3, 0] rfl ?_
      exact ok_X11_resolve_L105 l X h a0 a1 a3 x1 (0 : Int32) q hf
    · refine g_icne_f (pc := 97) (tgt := 104) dX11_resolve_97 (by decide) (Decidable.of_not_not c3) ?_
      refine g_sub [1, 2, 3, 0] rfl ?_
      exact ok_X11_resolve_L100 l X h a0 a1 a3 x1 q hf
set_option maxRecDepth 100000 in
set_option maxHeartbeats 4000000 in
theorem ok_X11_resolve_L75 (l : Launch) (X : Cx) (h : AH) (a0 : Nat) (a1 : Int32) (a3 : Int32) (s0 : Int32) (q : AH) (hf : f_X11_resolve_L75 h a0 a1 a3 s0 = some q) : Go l X k_X11_resolve 75 [(0, rf X a0), (1, .int a1), (3, .int a3)] [.int s0] h (rV q) := by
  unfold f_X11_resolve_L75 at hf
  refine g_aload_n (pc := 75) 0 dX11_resolve_75 rfl rfl ?_
  obtain ⟨g1, hf⟩ := gs_some hf
  refine g_getR (pc := 76) fl_X11_29 dX11_resolve_76 g1 ?_
  refine g_iload_n (pc := 79) 1 dX11_resolve_79 rfl rfl ?_
  obtain ⟨g2, hf⟩ := gs_some hf
  obtain ⟨b3, hf⟩ := gb_some hf
  refine g_iald (pc := 80) g2 b3 dX11_resolve_80 ?_
  refine g_goto (pc := 81) (tgt := 85) dX11_resolve_81 (by decide) ?_
  exact ok_X11_resolve_L85 l X h a0 a1 a3 s0 (hI h (hR h a0 14) a1.toNatClampNeg) q hf
set_option maxRecDepth 100000 in
set_option maxHeartbeats 4000000 in
theorem ok_X11_resolve_L32 (l : Launch) (X : Cx) (h : AH) (a0 : Nat) (a1 : Int32) (a2 : Int32) (q : AH) (hf : f_X11_resolve_L32 h a0 a1 a2 = some q) : Go l X k_X11_resolve 32 [(0, rf X a0), (1, .int a1), (2, .int a2)] [] h (rV q) := by
  unfold f_X11_resolve_L32 at hf
  refine g_iload_n (pc := 32) 2 dX11_resolve_32 rfl rfl ?_
  refine g_aload_n (pc := 33) 0 dX11_resolve_33 rfl rfl ?_
  obtain ⟨g1, hf⟩ := gs_some hf
  refine g_getI (pc := 34) fl_X11_485 dX11_resolve_34 g1 ?_
  rcases it_some hf with ⟨c2, hf⟩ | ⟨c2, hf⟩
  · refine g_icne_t (pc := 37) (tgt := 52) dX11_resolve_37 (by decide) c2 ?_
    refine g_aload_n (pc := 52) 0 dX11_resolve_52 rfl rfl ?_
    refine g_getR (pc := 53) fl_X11_35 dX11_resolve_53 g1 ?_
    refine g_iload_n (pc := 56) 1 dX11_resolve_56 rfl rfl ?_
    obtain ⟨g3, hf⟩ := gs_some hf
    obtain ⟨b4, hf⟩ := gb_some hf
    refine g_iald (pc := 57) g3 b4 dX11_resolve_57 ?_
    obtain ⟨x5, ex5, hf⟩ := lt_some hf
    refine g_istore_n (pc := 58) (L' := [(3, .int x5), (0, rf X a0), (1, .int a1), (2, .int a2)]) dX11_resolve_58 rfl (by decide) ex5 rfl ?_
    refine g_aload_n (pc := 59) 1 dX11_resolve_59 rfl rfl ?_
    refine g_getR (pc := 60) fl_X11_26 dX11_resolve_60 g1 ?_
    refine g_iload_n (pc := 63) 3 dX11_resolve_63 rfl rfl ?_
    obtain ⟨g6, hf⟩ := gs_some hf
    obtain ⟨b7, hf⟩ := gb_some hf
    refine g_iald (pc := 64) g6 b7 dX11_resolve_64 ?_
    refine g_iload_n (pc := 65) 0 dX11_resolve_65 rfl rfl ?_
    refine g_iconst (pc := 66) (v := (2 : Int32)) dX11_resolve_66 (by decide) ?_
    rcases it_some hf with ⟨c8, hf⟩ | ⟨c8, hf⟩
    · refine g_iceq_t (pc := 67) (tgt := 75) dX11_resolve_67 (by decide) c8 ?_
      refine g_sub [1, 2, 0] rfl ?_
      exact ok_X11_resolve_L75 l X h a0 a1 x5 (hI h (hR h a0 12) a2.toNatClampNeg) q hf
    · refine g_iceq_f (pc := 67) (tgt := 75) dX11_resolve_67 (by decide) c8 ?_
      refine g_iload_n (pc := 70) 0 dX11_resolve_70 rfl rfl ?_
      refine g_iconst (pc := 71) (v := (4 : Int32)) dX11_resolve_71 (by decide) ?_
      rcases it_some hf with ⟨c9, hf⟩ | ⟨c9, hf⟩
      · refine g_icne_t (pc := 72) (tgt := 84) dX11_resolve_72 (by decide) c9 ?_
        refine g_iconst (pc := 84) (v := (0 : Int32)) dX11_resolve_84 (by decide) ?_
        refine g_sub [1, 2, 0] rfl ?_
        exact ok_X11_resolve_L85 l X h a0 a1 x5 (hI h (hR h a0 12) a2.toNatClampNeg) (0 : Int32) q hf
      · refine g_icne_f (pc := 72) (tgt := 84) dX11_resolve_72 (by decide) (Decidable.of_not_not c9) ?_
        refine g_sub [1, 2, 0] rfl ?_
        exact ok_X11_resolve_L75 l X h a0 a1 x5 (hI h (hR h a0 12) a2.toNatClampNeg) q hf
  · refine g_icne_f (pc := 37) (tgt := 52) dX11_resolve_37 (by decide) (Decidable.of_not_not c2) ?_
    refine g_aload_n (pc := 40) 0 dX11_resolve_40 rfl rfl ?_
    refine g_iconst (pc := 41) (v := (2 : Int32)) dX11_resolve_41 (by decide) ?_
    refine g_aload_n (pc := 42) 0 dX11_resolve_42 rfl rfl ?_
    refine g_getR (pc := 43) fl_X11_41 dX11_resolve_43 g1 ?_
    refine g_iload_n (pc := 46) 1 dX11_resolve_46 rfl rfl ?_
    obtain ⟨g10, hf⟩ := gs_some hf
    obtain ⟨b11, hf⟩ := gb_some hf
    refine g_iald (pc := 47) g10 b11 dX11_resolve_47 ?_
    obtain ⟨q12, hcq12, hf⟩ := bd_some hf
    refine g_cVV (pc := 48) (k2 := k_X11_note) (av := [.int (2 : Int32), .int (hI h (hR h a0 18) a1.toNatClampNeg)]) (q := q12) rfl dX11_resolve_48 ck_X11_note m_1692 m_1694 m_63 (ci := 9) rfl (by decide) g1 (by decide) (by decide) rfl (by simp [rf_cat, rq_cat, ca_i, ca_l, ca_r]) (ct_X11_note l X hcq12) ?_
    obtain rfl := Option.some.inj hf
    exact g_vret (pc := 51) rfl dX11_resolve_51
set_option maxRecDepth 100000 in
set_option maxHeartbeats 4000000 in
theorem ok_X11_resolve_L2 (l : Launch) (X : Cx) : ∀ (n : Nat) (h : AH) (a0 : Nat) (a1 : Int32) (a2 : Int32) (q : AH), f_X11_resolve_L2 n h a0 a1 a2 = some q → Go l X k_X11_resolve 2 [(0, rf X a0), (1, .int a1), (2, .int a2)] [] h (rV q) := by
  intro n
  induction n with
  | zero =>
    intro h a0 a1 a2 q hf
    unfold f_X11_resolve_L2 at hf
    cases hf
  | succ n ih =>
    intro h a0 a1 a2 q hf
    unfold f_X11_resolve_L2 at hf
    refine g_iload_n (pc := 2) 2 dX11_resolve_2 rfl rfl ?_
    refine g_aload_n (pc := 3) 0 dX11_resolve_3 rfl rfl ?_
    obtain ⟨g1, hf⟩ := gs_some hf
    refine g_getI (pc := 4) fl_X11_485 dX11_resolve_4 g1 ?_
    rcases it_some hf with ⟨c2, hf⟩ | ⟨c2, hf⟩
    · refine g_icge_t (pc := 7) (tgt := 32) dX11_resolve_7 (by decide) c2 ?_
      exact ok_X11_resolve_L32 l X h a0 a1 a2 q hf
    · refine g_icge_f (pc := 7) (tgt := 32) dX11_resolve_7 (by decide) c2 ?_
      refine g_aload_n (pc := 10) 0 dX11_resolve_10 rfl rfl ?_
      refine g_getR (pc := 11) fl_X11_23 dX11_resolve_11 g1 ?_
      refine g_iload_n (pc := 14) 2 dX11_resolve_14 rfl rfl ?_
      obtain ⟨g3, hf⟩ := gs_some hf
      obtain ⟨b4, hf⟩ := gb_some hf
      refine g_lald (pc := 15) g3 b4 dX11_resolve_15 ?_
      refine g_aload_n (pc := 16) 0 dX11_resolve_16 rfl rfl ?_
      refine g_getR (pc := 17) fl_X11_38 dX11_resolve_17 g1 ?_
      refine g_iload_n (pc := 20) 1 dX11_resolve_20 rfl rfl ?_
      obtain ⟨g5, hf⟩ := gs_some hf
      obtain ⟨b6, hf⟩ := gb_some hf
      refine g_lald (pc := 21) g5 b6 dX11_resolve_21 ?_
      refine g_lcmp (pc := 22) dX11_resolve_22 ?_
      rcases it_some hf with ⟨c7, hf⟩ | ⟨c7, hf⟩
      · refine g_ifeq_t (pc := 23) (tgt := 32) dX11_resolve_23 (by decide) c7 ?_
        exact ok_X11_resolve_L32 l X h a0 a1 a2 q hf
      · refine g_ifeq_f (pc := 23) (tgt := 32) dX11_resolve_23 (by decide) c7 ?_
        obtain ⟨x8, ex8, hf⟩ := lt_some hf
        refine g_iinc (pc := 26) (y := x8) (L' := [(2, .int x8), (0, rf X a0), (1, .int a1)]) 2 dX11_resolve_26 rfl (by decide) (ex8.trans rfl) rfl ?_
        refine g_goto (pc := 29) (tgt := 2) dX11_resolve_29 (by decide) ?_
        refine g_sub [1, 2, 0] rfl ?_
        exact ih h a0 a1 x8 q hf
set_option maxRecDepth 100000 in
set_option maxHeartbeats 4000000 in
theorem ok_X11_resolve (l : Launch) (X : Cx) {h : AH} {a0 : Nat} {a1 : Int32} {q : AH} (hf : f_X11_resolve h a0 a1 = some q) : Go l X k_X11_resolve 0 [(0, rf X a0), (1, .int a1)] [] h (rV q) := by
  unfold f_X11_resolve at hf
  refine g_iconst (pc := 0) (v := (0 : Int32)) dX11_resolve_0 (by decide) ?_
  obtain ⟨x1, ex1, hf⟩ := lt_some hf
  refine g_istore_n (pc := 1) (L' := [(2, .int x1), (0, rf X a0), (1, .int a1)]) dX11_resolve_1 rfl (by decide) ex1 rfl ?_
  refine g_sub [1, 2, 0] rfl ?_
  exact ok_X11_resolve_L2 l X FU h a0 a1 x1 q hf
theorem ct_X11_resolve (l : Launch) (X : Cx) {h : AH} {a0 : Nat} {a1 : Int32} {q : AH} (hf : f_X11_resolve h a0 a1 = some q) : Ct l X k_X11_resolve [rf X a0, .int a1] h (rV q) := ct_of ck_X11_resolve (by simp [lg_sl, rf_cat, rq_cat, ca_i, ca_l, ca_r]) (by simp [lv_args, rf_cat, rq_cat, ca_i, ca_l, ca_r]) (ok_X11_resolve l X hf)
set_option maxRecDepth 100000 in
set_option maxHeartbeats 4000000 in
theorem ok_X11_readAll_L100 (l : Launch) (X : Cx) (k73 : AH → Nat → Int32 → Int32 → Option (AH)) (hk73 : ∀ (h : AH) (a0 : Nat) (a1 : Int32) (a2 : Int32) (q : AH), k73 h a0 a1 a2 = some q → Go l X k_X11_readAll 73 [(0, rf X a0), (1, .int a1), (2, .int a2)] [] h (rV q)) (h : AH) (a0 : Nat) (a1 : Int32) (a2 : Int32) (q : AH) (hf : f_X11_readAll_L100 k73 h a0 a1 a2 = some q) : Go l X k_X11_readAll 100 [(0, rf X a0), (1, .int a1), (2, .int a2)] [] h (rV q) := by
  unfold f_X11_readAll_L100 at hf
  obtain ⟨x1, ex1, hf⟩ := lt_some hf
  refine g_iinc (pc := 100) (y := x1) (L' := [(2, .int x1), (0, rf X a0), (1, .int a1)]) 2 dX11_readAll_100 rfl (by decide) (ex1.trans rfl) rfl ?_
  refine g_goto (pc := 103) (tgt := 73) dX11_readAll_103 (by decide) ?_
  refine g_sub [1, 2, 0] rfl ?_
  exact hk73 h a0 a1 x1 q hf
set_option maxRecDepth 100000 in
set_option maxHeartbeats 4000000 in
theorem ok_X11_readAll_L73 (l : Launch) (X : Cx) : ∀ (n : Nat) (h : AH) (a0 : Nat) (a1 : Int32) (a2 : Int32) (q : AH), f_X11_readAll_L73 n h a0 a1 a2 = some q → Go l X k_X11_readAll 73 [(0, rf X a0), (1, .int a1), (2, .int a2)] [] h (rV q) := by
  intro n
  induction n with
  | zero =>
    intro h a0 a1 a2 q hf
    unfold f_X11_readAll_L73 at hf
    cases hf
  | succ n ih =>
    intro h a0 a1 a2 q hf
    unfold f_X11_readAll_L73 at hf
    refine g_iload_n (pc := 73) 2 dX11_readAll_73 rfl rfl ?_
    refine g_aload_n (pc := 74) 0 dX11_readAll_74 rfl rfl ?_
    obtain ⟨g1, hf⟩ := gs_some hf
    refine g_getI (pc := 75) fl_X11_506 dX11_readAll_75 g1 ?_
    rcases it_some hf with ⟨c2, hf⟩ | ⟨c2, hf⟩
    · refine g_icge_t (pc := 78) (tgt := 106) dX11_readAll_78 (by decide) c2 ?_
      obtain rfl := Option.some.inj hf
      exact g_vret (pc := 106) rfl dX11_readAll_106
    · refine g_icge_f (pc := 78) (tgt := 106) dX11_readAll_78 (by decide) c2 ?_
      refine g_iload_n (pc := 81) 1 dX11_readAll_81 rfl rfl ?_
      rcases it_some hf with ⟨c3, hf⟩ | ⟨c3, hf⟩
      · refine g_ifeq_t (pc := 82) (tgt := 106) dX11_readAll_82 (by decide) c3 ?_
        obtain rfl := Option.some.inj hf
        exact g_vret (pc := 106) rfl dX11_readAll_106
      · refine g_ifeq_f (pc := 82) (tgt := 106) dX11_readAll_82 (by decide) c3 ?_
        refine g_aload_n (pc := 85) 0 dX11_readAll_85 rfl rfl ?_
        refine g_getR (pc := 86) fl_X11_35 dX11_readAll_86 g1 ?_
        refine g_iload_n (pc := 89) 2 dX11_readAll_89 rfl rfl ?_
        obtain ⟨g4, hf⟩ := gs_some hf
        obtain ⟨b5, hf⟩ := gb_some hf
        refine g_iald (pc := 90) g4 b5 dX11_readAll_90 ?_
        refine g_iconst (pc := 91) (v := (-1 : Int32)) dX11_readAll_91 (by decide) ?_
        rcases it_some hf with ⟨c6, hf⟩ | ⟨c6, hf⟩
        · refine g_iceq_t (pc := 92) (tgt := 100) dX11_readAll_92 (by decide) c6 ?_
          exact ok_X11_readAll_L100 l X (f_X11_readAll_L73 n) ih h a0 a1 a2 q hf
        · refine g_iceq_f (pc := 92) (tgt := 100) dX11_readAll_92 (by decide) c6 ?_
          refine g_aload_n (pc := 95) 0 dX11_readAll_95 rfl rfl ?_
          refine g_iload_n (pc := 96) 2 dX11_readAll_96 rfl rfl ?_
          obtain ⟨q7, hcq7, hf⟩ := bd_some hf
          refine g_cVV (pc := 97) (k2 := k_X11_resolve) (av := [.int a2]) (q := q7) rfl dX11_readAll_97 ck_X11_resolve m_1776 m_1778 m_76 (ci := 9) rfl (by decide) g1 (by decide) (by decide) rfl (by simp [rf_cat, rq_cat, ca_i, ca_l, ca_r]) (ct_X11_resolve l X hcq7) ?_
          exact ok_X11_readAll_L100 l X (f_X11_readAll_L73 n) ih q7 a0 a1 a2 q hf
set_option maxRecDepth 100000 in
set_option maxHeartbeats 4000000 in
theorem ok_X11_readAll_L71 (l : Launch) (X : Cx) (h : AH) (a0 : Nat) (a1 : Int32) (q : AH) (hf : f_X11_readAll_L71 h a0 a1 = some q) : Go l X k_X11_readAll 71 [(0, rf X a0), (1, .int a1)] [] h (rV q) := by
  unfold f_X11_readAll_L71 at hf
  refine g_iconst (pc := 71) (v := (0 : Int32)) dX11_readAll_71 (by decide) ?_
  obtain ⟨x1, ex1, hf⟩ := lt_some hf
  refine g_istore_n (pc := 72) (L' := [(2, .int x1), (0, rf X a0), (1, .int a1)]) dX11_readAll_72 rfl (by decide) ex1 rfl ?_
  refine g_sub [1, 2, 0] rfl ?_
  exact ok_X11_readAll_L73 l X FU h a0 a1 x1 q hf
set_option maxRecDepth 100000 in
set_option maxHeartbeats 4000000 in
theorem ok_X11_readAll_L47 (l : Launch) (X : Cx) : ∀ (n : Nat) (h : AH) (a0 : Nat) (a1 : Int32) (q : AH), f_X11_readAll_L47 n h a0 a1 = some q → Go l X k_X11_readAll 47 [(0, rf X a0), (1, .int a1)] [] h (rV q) := by
  intro n
  induction n with
  | zero =>
    intro h a0 a1 q hf
    unfold f_X11_readAll_L47 at hf
    cases hf
  | succ n ih =>
    intro h a0 a1 q hf
    unfold f_X11_readAll_L47 at hf
    refine g_iload_n (pc := 47) 1 dX11_readAll_47 rfl rfl ?_
    rcases it_some hf with ⟨c1, hf⟩ | ⟨c1, hf⟩
    · refine g_ifeq_t (pc := 48) (tgt := 71) dX11_readAll_48 (by decide) c1 ?_
      exact ok_X11_readAll_L71 l X h a0 a1 q hf
    · refine g_ifeq_f (pc := 48) (tgt := 71) dX11_readAll_48 (by decide) c1 ?_
      refine g_aload_n (pc := 51) 0 dX11_readAll_51 rfl rfl ?_
      obtain ⟨g2, hf⟩ := gs_some hf
      refine g_getR (pc := 52) fl_X11_13 dX11_readAll_52 g2 ?_
      refine g_aload_n (pc := 55) 0 dX11_readAll_55 rfl rfl ?_
      refine g_getI (pc := 56) fl_X11_378 dX11_readAll_56 g2 ?_
      obtain ⟨g3, hf⟩ := gs_some hf
      obtain ⟨b4, hf⟩ := gb_some hf
      refine g_iald (pc := 59) g3 b4 dX11_readAll_59 ?_
      rcases it_some hf with ⟨c5, hf⟩ | ⟨c5, hf⟩
      · refine g_ifeq_t (pc := 60) (tgt := 71) dX11_readAll_60 (by decide) c5 ?_
        exact ok_X11_readAll_L71 l X h a0 a1 q hf
      · refine g_ifeq_f (pc := 60) (tgt := 71) dX11_readAll_60 (by decide) c5 ?_
        refine g_aload_n (pc := 63) 0 dX11_readAll_63 rfl rfl ?_
        obtain ⟨q6, hcq6, hf⟩ := bd_some hf
        refine g_cVI (pc := 64) (k2 := k_X11_readStatement) (av := []) (q := q6) rfl dX11_readAll_64 ck_X11_readStatement m_1687 m_1689 m_62 (ci := 9) rfl (by decide) g2 (by decide) (by decide) rfl (by simp [rf_cat, rq_cat, ca_i, ca_l, ca_r]) (ct_X11_readStatement l X hcq6) ?_
        obtain ⟨x7, ex7, hf⟩ := lt_some hf
        refine g_istore_n (pc := 67) (L' := [(1, .int x7), (0, rf X a0)]) dX11_readAll_67 rfl (by decide) ex7 (by simp [rf_cat, rq_cat]) ?_
        refine g_goto (pc := 68) (tgt := 47) dX11_readAll_68 (by decide) ?_
        refine g_sub [1, 0] rfl ?_
        exact ih q6.2 a0 x7 q hf
set_option maxRecDepth 100000 in
set_option maxHeartbeats 4000000 in
theorem ok_X11_readAll_L26 (l : Launch) (X : Cx) : ∀ (n : Nat) (h : AH) (a0 : Nat) (a1 : Int32) (q : AH), f_X11_readAll_L26 n h a0 a1 = some q → Go l X k_X11_readAll 26 [(0, rf X a0), (1, .int a1)] [] h (rV q) := by
  intro n
  induction n with
  | zero =>
    intro h a0 a1 q hf
    unfold f_X11_readAll_L26 at hf
    cases hf
  | succ n ih =>
    intro h a0 a1 q hf
    unfold f_X11_readAll_L26 at hf
    refine g_iload_n (pc := 26) 1 dX11_readAll_26 rfl rfl ?_
    refine g_bipush (pc := 27) (v := (16 : Int32)) dX11_readAll_27 (by decide) ?_
    rcases it_some hf with ⟨c1, hf⟩ | ⟨c1, hf⟩
    · refine g_icge_t (pc := 29) (tgt := 45) dX11_readAll_29 (by decide) c1 ?_
      refine g_iconst (pc := 45) (v := (1 : Int32)) dX11_readAll_45 (by decide) ?_
      obtain ⟨x2, ex2, hf⟩ := lt_some hf
      refine g_istore_n (pc := 46) (L' := [(1, .int x2), (0, rf X a0)]) dX11_readAll_46 rfl (by decide) ex2 (by simp [rf_cat, rq_cat]) ?_
      refine g_sub [1, 0] rfl ?_
      exact ok_X11_readAll_L47 l X FU h a0 x2 q hf
    · refine g_icge_f (pc := 29) (tgt := 45) dX11_readAll_29 (by decide) c1 ?_
      refine g_aload_n (pc := 32) 0 dX11_readAll_32 rfl rfl ?_
      obtain ⟨g3, hf⟩ := gs_some hf
      refine g_getR (pc := 33) fl_X11_44 dX11_readAll_33 g3 ?_
      refine g_iload_n (pc := 36) 1 dX11_readAll_36 rfl rfl ?_
      refine g_iconst (pc := 37) (v := (0 : Int32)) dX11_readAll_37 (by decide) ?_
      obtain ⟨g4, hf⟩ := gs_some hf
      obtain ⟨b5, hf⟩ := gb_some hf
      obtain ⟨h6, eh6, hf⟩ := lt_some hf
      refine g_iast (pc := 38) g4 b5 dX11_readAll_38 eh6 ?_
      obtain ⟨x7, ex7, hf⟩ := lt_some hf
      refine g_iinc (pc := 39) (y := x7) (L' := [(1, .int x7), (0, rf X a0)]) 1 dX11_readAll_39 rfl (by decide) (ex7.trans rfl) (by simp [rf_cat, rq_cat]) ?_
      refine g_goto (pc := 42) (tgt := 26) dX11_readAll_42 (by decide) ?_
      refine g_sub [1, 0] rfl ?_
      exact ih h6 a0 x7 q hf
set_option maxRecDepth 100000 in
set_option maxHeartbeats 4000000 in
theorem ok_X11_readAll (l : Launch) (X : Cx) {h : AH} {a0 : Nat} {q : AH} (hf : f_X11_readAll h a0 = some q) : Go l X k_X11_readAll 0 [(0, rf X a0)] [] h (rV q) := by
  unfold f_X11_readAll at hf
  refine g_aload_n (pc := 0) 0 dX11_readAll_0 rfl rfl ?_
  obtain ⟨g1, hf⟩ := gs_some hf
  obtain ⟨q2, hcq2, hf⟩ := bd_some hf
  refine g_cVV (pc := 1) (k2 := k_X11_tokenize) (av := []) (q := q2) rfl dX11_readAll_1 ck_X11_tokenize m_1659 m_1661 m_58 (ci := 9) rfl (by decide) g1 (by decide) (by decide) rfl (by simp [rf_cat, rq_cat, ca_i, ca_l, ca_r]) (ct_X11_tokenize l X hcq2) ?_
  refine g_aload_n (pc := 4) 0 dX11_readAll_4 rfl rfl ?_
  refine g_iconst (pc := 5) (v := (0 : Int32)) dX11_readAll_5 (by decide) ?_
  obtain ⟨g3, hf⟩ := gs_some hf
  obtain ⟨h4, eh4, hf⟩ := lt_some hf
  refine g_putI (pc := 6) fl_X11_378 dX11_readAll_6 g3 eh4 ?_
  refine g_aload_n (pc := 9) 0 dX11_readAll_9 rfl rfl ?_
  refine g_iconst (pc := 10) (v := (0 : Int32)) dX11_readAll_10 (by decide) ?_
  have g5 : hS h4 a0 = 10 := (hS_tI eh4 g3)
  obtain ⟨h6, eh6, hf⟩ := lt_some hf
  refine g_putI (pc := 11) fl_X11_485 dX11_readAll_11 g5 eh6 ?_
  refine g_aload_n (pc := 14) 0 dX11_readAll_14 rfl rfl ?_
  refine g_iconst (pc := 15) (v := (0 : Int32)) dX11_readAll_15 (by decide) ?_
  have g7 : hS h6 a0 = 10 := (hS_tI eh6 g5)
  obtain ⟨h8, eh8, hf⟩ := lt_some hf
  refine g_putI (pc := 16) fl_X11_506 dX11_readAll_16 g7 eh8 ?_
  refine g_aload_n (pc := 19) 0 dX11_readAll_19 rfl rfl ?_
  refine g_iconst (pc := 20) (v := (0 : Int32)) dX11_readAll_20 (by decide) ?_
  have g9 : hS h8 a0 = 10 := (hS_tI eh8 g7)
  obtain ⟨h10, eh10, hf⟩ := lt_some hf
  refine g_putI (pc := 21) fl_X11_488 dX11_readAll_21 g9 eh10 ?_
  refine g_iconst (pc := 24) (v := (0 : Int32)) dX11_readAll_24 (by decide) ?_
  obtain ⟨x11, ex11, hf⟩ := lt_some hf
  refine g_istore_n (pc := 25) (L' := [(1, .int x11), (0, rf X a0)]) dX11_readAll_25 rfl (by decide) ex11 (by simp [rf_cat, rq_cat]) ?_
  refine g_sub [1, 0] rfl ?_
  exact ok_X11_readAll_L26 l X FU h10 a0 x11 q hf
theorem ct_X11_readAll (l : Launch) (X : Cx) {h : AH} {a0 : Nat} {q : AH} (hf : f_X11_readAll h a0 = some q) : Ct l X k_X11_readAll [rf X a0] h (rV q) := ct_of ck_X11_readAll (by simp [lg_sl, rf_cat, rq_cat, ca_i, ca_l, ca_r]) (by simp [lv_args, rf_cat, rq_cat, ca_i, ca_l, ca_r]) (ok_X11_readAll l X hf)
set_option maxRecDepth 100000 in
set_option maxHeartbeats 4000000 in
theorem ok_X11_assemble_L127 (l : Launch) (X : Cx) : ∀ (n : Nat) (h : AH) (a0 : Nat) (a1 : Int32) (q : Int32 × AH), f_X11_assemble_L127 n h a0 a1 = some q → Go l X k_X11_assemble 127 [(0, rf X a0), (1, .int a1)] [] h (rI q) := by
  intro n
  induction n with
  | zero =>
    intro h a0 a1 q hf
    unfold f_X11_assemble_L127 at hf
    cases hf
  | succ n ih =>
    intro h a0 a1 q hf
    unfold f_X11_assemble_L127 at hf
    refine g_iload_n (pc := 127) 1 dX11_assemble_127 rfl rfl ?_
    refine g_bipush (pc := 128) (v := (16 : Int32)) dX11_assemble_128 (by decide) ?_
    rcases it_some hf with ⟨c1, hf⟩ | ⟨c1, hf⟩
    · refine g_icge_t (pc := 130) (tgt := 155) dX11_assemble_130 (by decide) c1 ?_
      refine g_aload_n (pc := 155) 0 dX11_assemble_155 rfl rfl ?_
      obtain ⟨g2, hf⟩ := gs_some hf
      refine g_getI (pc := 156) fl_X11_506 dX11_assemble_156 g2 ?_
      obtain rfl := Option.some.inj hf
      exact g_iret (pc := 159) rfl dX11_assemble_159
    · refine g_icge_f (pc := 130) (tgt := 155) dX11_assemble_130 (by decide) c1 ?_
      refine g_aload_n (pc := 133) 0 dX11_assemble_133 rfl rfl ?_
      obtain ⟨g3, hf⟩ := gs_some hf
      refine g_getR (pc := 134) fl_X11_62 dX11_assemble_134 g3 ?_
      refine g_iload_n (pc := 137) 1 dX11_assemble_137 rfl rfl ?_
      refine g_aload_n (pc := 138) 0 dX11_assemble_138 rfl rfl ?_
      refine g_getR (pc := 139) fl_X11_44 dX11_assemble_139 g3 ?_
      refine g_iload_n (pc := 142) 1 dX11_assemble_142 rfl rfl ?_
      obtain ⟨g4, hf⟩ := gs_some hf
      obtain ⟨b5, hf⟩ := gb_some hf
      refine g_iald (pc := 143) g4 b5 dX11_assemble_143 ?_
      refine g_sipush (pc := 144) (v := (8191 : Int32)) dX11_assemble_144 (by decide) ?_
      refine g_iand (pc := 147) dX11_assemble_147 ?_
      obtain ⟨g6, hf⟩ := gs_some hf
      obtain ⟨b7, hf⟩ := gb_some hf
      obtain ⟨h8, eh8, hf⟩ := lt_some hf
      refine g_iast (pc := 148) g6 b7 dX11_assemble_148 eh8 ?_
      obtain ⟨x9, ex9, hf⟩ := lt_some hf
      refine g_iinc (pc := 149) (y := x9) (L' := [(1, .int x9), (0, rf X a0)]) 1 dX11_assemble_149 rfl (by decide) (ex9.trans rfl) (by simp [rf_cat, rq_cat]) ?_
      refine g_goto (pc := 152) (tgt := 127) dX11_assemble_152 (by decide) ?_
      refine g_sub [1, 0] rfl ?_
      exact ih h8 a0 x9 q hf
set_option maxRecDepth 100000 in
set_option maxHeartbeats 4000000 in
theorem ok_X11_assemble_L100 (l : Launch) (X : Cx) : ∀ (n : Nat) (h : AH) (a0 : Nat) (a1 : Int32) (q : Int32 × AH), f_X11_assemble_L100 n h a0 a1 = some q → Go l X k_X11_assemble 100 [(0, rf X a0), (1, .int a1)] [] h (rI q) := by
  intro n
  induction n with
  | zero =>
    intro h a0 a1 q hf
    unfold f_X11_assemble_L100 at hf
    cases hf
  | succ n ih =>
    intro h a0 a1 q hf
    unfold f_X11_assemble_L100 at hf
    refine g_iload_n (pc := 100) 1 dX11_assemble_100 rfl rfl ?_
    refine g_sipush (pc := 101) (v := (2048 : Int32)) dX11_assemble_101 (by decide) ?_
    rcases it_some hf with ⟨c1, hf⟩ | ⟨c1, hf⟩
    · refine g_icge_t (pc := 104) (tgt := 125) dX11_assemble_104 (by decide) c1 ?_
      refine g_iconst (pc := 125) (v := (0 : Int32)) dX11_assemble_125 (by decide) ?_
      obtain ⟨x2, ex2, hf⟩ := lt_some hf
      refine g_istore_n (pc := 126) (L' := [(1, .int x2), (0, rf X a0)]) dX11_assemble_126 rfl (by decide) ex2 (by simp [rf_cat, rq_cat]) ?_
      refine g_sub [1, 0] rfl ?_
      exact ok_X11_assemble_L127 l X FU h a0 x2 q hf
    · refine g_icge_f (pc := 104) (tgt := 125) dX11_assemble_104 (by decide) c1 ?_
      refine g_aload_n (pc := 107) 0 dX11_assemble_107 rfl rfl ?_
      obtain ⟨g3, hf⟩ := gs_some hf
      refine g_getR (pc := 108) fl_X11_56 dX11_assemble_108 g3 ?_
      refine g_iload_n (pc := 111) 1 dX11_assemble_111 rfl rfl ?_
      refine g_aload_n (pc := 112) 0 dX11_assemble_112 rfl rfl ?_
      refine g_getR (pc := 113) fl_X11_53 dX11_assemble_113 g3 ?_
      refine g_iload_n (pc := 116) 1 dX11_assemble_116 rfl rfl ?_
      obtain ⟨g4, hf⟩ := gs_some hf
      obtain ⟨b5, hf⟩ := gb_some hf
      refine g_iald (pc := 117) g4 b5 dX11_assemble_117 ?_
      obtain ⟨g6, hf⟩ := gs_some hf
      obtain ⟨b7, hf⟩ := gb_some hf
      obtain ⟨h8, eh8, hf⟩ := lt_some hf
      refine g_iast (pc := 118) g6 b7 dX11_assemble_118 eh8 ?_
      obtain ⟨x9, ex9, hf⟩ := lt_some hf
      refine g_iinc (pc := 119) (y := x9) (L' := [(1, .int x9), (0, rf X a0)]) 1 dX11_assemble_119 rfl (by decide) (ex9.trans rfl) (by simp [rf_cat, rq_cat]) ?_
      refine g_goto (pc := 122) (tgt := 100) dX11_assemble_122 (by decide) ?_
      refine g_sub [1, 0] rfl ?_
      exact ih h8 a0 x9 q hf
set_option maxRecDepth 100000 in
set_option maxHeartbeats 4000000 in
theorem ok_X11_assemble_L65 (l : Launch) (X : Cx) : ∀ (n : Nat) (h : AH) (a0 : Nat) (a1 : Int32) (q : Int32 × AH), f_X11_assemble_L65 n h a0 a1 = some q → Go l X k_X11_assemble 65 [(0, rf X a0), (1, .int a1)] [] h (rI q) := by
  intro n
  induction n with
  | zero =>
    intro h a0 a1 q hf
    unfold f_X11_assemble_L65 at hf
    cases hf
  | succ n ih =>
    intro h a0 a1 q hf
    unfold f_X11_assemble_L65 at hf
    refine g_iload_n (pc := 65) 1 dX11_assemble_65 rfl rfl ?_
    refine g_aload_n (pc := 66) 0 dX11_assemble_66 rfl rfl ?_
    obtain ⟨g1, hf⟩ := gs_some hf
    refine g_getI (pc := 67) fl_X11_506 dX11_assemble_67 g1 ?_
    rcases it_some hf with ⟨c2, hf⟩ | ⟨c2, hf⟩
    · refine g_icge_t (pc := 70) (tgt := 98) dX11_assemble_70 (by decide) c2 ?_
      refine g_iconst (pc := 98) (v := (0 : Int32)) dX11_assemble_98 (by decide) ?_
      obtain ⟨x3, ex3, hf⟩ := lt_some hf
      refine g_istore_n (pc := 99) (L' := [(1, .int x3), (0, rf X a0)]) dX11_assemble_99 rfl (by decide) ex3 (by simp [rf_cat, rq_cat]) ?_
      refine g_sub [1, 0] rfl ?_
      exact ok_X11_assemble_L100 l X FU h a0 x3 q hf
    · refine g_icge_f (pc := 70) (tgt := 98) dX11_assemble_70 (by decide) c2 ?_
      refine g_aload_n (pc := 73) 0 dX11_assemble_73 rfl rfl ?_
      refine g_getR (pc := 74) fl_X11_53 dX11_assemble_74 g1 ?_
      refine g_aload_n (pc := 77) 0 dX11_assemble_77 rfl rfl ?_
      refine g_getR (pc := 78) fl_X11_29 dX11_assemble_78 g1 ?_
      refine g_iload_n (pc := 81) 1 dX11_assemble_81 rfl rfl ?_
      obtain ⟨g4, hf⟩ := gs_some hf
      obtain ⟨b5, hf⟩ := gb_some hf
      refine g_iald (pc := 82) g4 b5 dX11_assemble_82 ?_
      refine g_iconst (pc := 83) (v := (4 : Int32)) dX11_assemble_83 (by decide) ?_
      refine g_idiv (pc := 84) (by decide) dX11_assemble_84 ?_
      refine g_aload_n (pc := 85) 0 dX11_assemble_85 rfl rfl ?_
      refine g_getR (pc := 86) fl_X11_32 dX11_assemble_86 g1 ?_
      refine g_iload_n (pc := 89) 1 dX11_assemble_89 rfl rfl ?_
      obtain ⟨g6, hf⟩ := gs_some hf
      obtain ⟨b7, hf⟩ := gb_some hf
      refine g_iald (pc := 90) g6 b7 dX11_assemble_90 ?_
      obtain ⟨g8, hf⟩ := gs_some hf
      obtain ⟨b9, hf⟩ := gb_some hf
      obtain ⟨h10, eh10, hf⟩ := lt_some hf
      refine g_iast (pc := 91) g8 b9 dX11_assemble_91 eh10 ?_
      obtain ⟨x11, ex11, hf⟩ := lt_some hf
      refine g_iinc (pc := 92) (y := x11) (L' := [(1, .int x11), (0, rf X a0)]) 1 dX11_assemble_92 rfl (by decide) (ex11.trans rfl) (by simp [rf_cat, rq_cat]) ?_
      refine g_goto (pc := 95) (tgt := 65) dX11_assemble_95 (by decide) ?_
      refine g_sub [1, 0] rfl ?_
      exact ih h10 a0 x11 q hf
set_option maxRecDepth 100000 in
set_option maxHeartbeats 4000000 in
theorem ok_X11_assemble_L43 (l : Launch) (X : Cx) : ∀ (n : Nat) (h : AH) (a0 : Nat) (a1 : Int32) (q : Int32 × AH), f_X11_assemble_L43 n h a0 a1 = some q → Go l X k_X11_assemble 43 [(0, rf X a0), (1, .int a1)] [] h (rI q) := by
  intro n
  induction n with
  | zero =>
    intro h a0 a1 q hf
    unfold f_X11_assemble_L43 at hf
    cases hf
  | succ n ih =>
    intro h a0 a1 q hf
    unfold f_X11_assemble_L43 at hf
    refine g_iload_n (pc := 43) 1 dX11_assemble_43 rfl rfl ?_
    refine g_sipush (pc := 44) (v := (2048 : Int32)) dX11_assemble_44 (by decide) ?_
    rcases it_some hf with ⟨c1, hf⟩ | ⟨c1, hf⟩
    · refine g_icge_t (pc := 47) (tgt := 63) dX11_assemble_47 (by decide) c1 ?_
      refine g_iconst (pc := 63) (v := (0 : Int32)) dX11_assemble_63 (by decide) ?_
      obtain ⟨x2, ex2, hf⟩ := lt_some hf
      refine g_istore_n (pc := 64) (L' := [(1, .int x2), (0, rf X a0)]) dX11_assemble_64 rfl (by decide) ex2 (by simp [rf_cat, rq_cat]) ?_
      refine g_sub [1, 0] rfl ?_
      exact ok_X11_assemble_L65 l X FU h a0 x2 q hf
    · refine g_icge_f (pc := 47) (tgt := 63) dX11_assemble_47 (by decide) c1 ?_
      refine g_aload_n (pc := 50) 0 dX11_assemble_50 rfl rfl ?_
      obtain ⟨g3, hf⟩ := gs_some hf
      refine g_getR (pc := 51) fl_X11_53 dX11_assemble_51 g3 ?_
      refine g_iload_n (pc := 54) 1 dX11_assemble_54 rfl rfl ?_
      refine g_iconst (pc := 55) (v := (0 : Int32)) dX11_assemble_55 (by decide) ?_
      obtain ⟨g4, hf⟩ := gs_some hf
      obtain ⟨b5, hf⟩ := gb_some hf
      obtain ⟨h6, eh6, hf⟩ := lt_some hf
      refine g_iast (pc := 56) g4 b5 dX11_assemble_56 eh6 ?_
      obtain ⟨x7, ex7, hf⟩ := lt_some hf
      refine g_iinc (pc := 57) (y := x7) (L' := [(1, .int x7), (0, rf X a0)]) 1 dX11_assemble_57 rfl (by decide) (ex7.trans rfl) (by simp [rf_cat, rq_cat]) ?_
      refine g_goto (pc := 60) (tgt := 43) dX11_assemble_60 (by decide) ?_
      refine g_sub [1, 0] rfl ?_
      exact ih h6 a0 x7 q hf
set_option maxRecDepth 100000 in
set_option maxHeartbeats 4000000 in
theorem ok_X11_assemble (l : Launch) (X : Cx) {h : AH} {a0 : Nat} {q : Int32 × AH} (hf : f_X11_assemble h a0 = some q) : Go l X k_X11_assemble 0 [(0, rf X a0)] [] h (rI q) := by
  unfold f_X11_assemble at hf
  refine g_aload_n (pc := 0) 0 dX11_assemble_0 rfl rfl ?_
  refine g_iconst (pc := 1) (v := (0 : Int32)) dX11_assemble_1 (by decide) ?_
  obtain ⟨g1, hf⟩ := gs_some hf
  obtain ⟨h2, eh2, hf⟩ := lt_some hf
  refine g_putI (pc := 2) fl_X11_372 dX11_assemble_2 g1 eh2 ?_
  refine g_aload_n (pc := 5) 0 dX11_assemble_5 rfl rfl ?_
  refine g_iconst (pc := 6) (v := (0 : Int32)) dX11_assemble_6 (by decide) ?_
  have g3 : hS h2 a0 = 10 := (hS_tI eh2 g1)
  obtain ⟨h4, eh4, hf⟩ := lt_some hf
  refine g_putI (pc := 7) fl_X11_375 dX11_assemble_7 g3 eh4 ?_
  refine g_aload_n (pc := 10) 0 dX11_assemble_10 rfl rfl ?_
  have g5 : hS h4 a0 = 10 := (hS_tI eh4 g3)
  obtain ⟨q6, hcq6, hf⟩ := bd_some hf
  refine g_cVV (pc := 11) (k2 := k_X11_readAll) (av := []) (q := q6) rfl dX11_assemble_11 ck_X11_readAll m_1655 m_1657 m_57 (ci := 9) rfl (by decide) g5 (by decide) (by decide) rfl (by simp [rf_cat, rq_cat, ca_i, ca_l, ca_r]) (ct_X11_readAll l X hcq6) ?_
  refine g_aload_n (pc := 14) 0 dX11_assemble_14 rfl rfl ?_
  refine g_iconst (pc := 15) (v := (0 : Int32)) dX11_assemble_15 (by decide) ?_
  obtain ⟨g7, hf⟩ := gs_some hf
  obtain ⟨h8, eh8, hf⟩ := lt_some hf
  refine g_putI (pc := 16) fl_X11_337 dX11_assemble_16 g7 eh8 ?_
  refine g_aload_n (pc := 19) 0 dX11_assemble_19 rfl rfl ?_
  have g9 : hS h8 a0 = 10 := (hS_tI eh8 g7)
  refine g_getI (pc := 20) fl_X11_372 dX11_assemble_20 g9 ?_
  rcases it_some hf with ⟨c10, hf⟩ | ⟨c10, hf⟩
  · refine g_ifeq_t (pc := 23) (tgt := 32) dX11_assemble_23 (by decide) c10 ?_
    refine g_aload_n (pc := 32) 0 dX11_assemble_32 rfl rfl ?_
    refine g_iconst (pc := 33) (v := (0 : Int32)) dX11_assemble_33 (by decide) ?_
    obtain ⟨h11, eh11, hf⟩ := lt_some hf
    refine g_putI (pc := 34) fl_X11_306 dX11_assemble_34 g9 eh11 ?_
    refine g_aload_n (pc := 37) 0 dX11_assemble_37 rfl rfl ?_
    have g12 : hS h11 a0 = 10 := (hS_tI eh11 g9)
    obtain ⟨q13, hcq13, hf⟩ := bd_some hf
    refine g_cVV (pc := 38) (k2 := k_X11_clear) (av := []) (q := q13) rfl dX11_assemble_38 ck_X11_clear m_1390 m_1392 m_56 (ci := 9) rfl (by decide) g12 (by decide) (by decide) rfl (by simp [rf_cat, rq_cat, ca_i, ca_l, ca_r]) (ct_X11_clear l X hcq13) ?_
    refine g_iconst (pc := 41) (v := (0 : Int32)) dX11_assemble_41 (by decide) ?_
    obtain ⟨x14, ex14, hf⟩ := lt_some hf
    refine g_istore_n (pc := 42) (L' := [(1, .int x14), (0, rf X a0)]) dX11_assemble_42 rfl (by decide) ex14 (by simp [rf_cat, rq_cat]) ?_
    refine g_sub [1, 0] rfl ?_
    exact ok_X11_assemble_L43 l X FU q13 a0 x14 q hf
  · refine g_ifeq_f (pc := 23) (tgt := 32) dX11_assemble_23 (by decide) c10 ?_
    refine g_aload_n (pc := 26) 0 dX11_assemble_26 rfl rfl ?_
    refine g_iconst (pc := 27) (v := (1 : Int32)) dX11_assemble_27 (by decide) ?_
    obtain ⟨q15, hcq15, hf⟩ := bd_some hf
    refine g_cVI (pc := 28) (k2 := k_X11_raise) (av := [.int (1 : Int32)]) (q := q15) rfl dX11_assemble_28 ck_X11_raise m_1780 m_1782 m_77 (ci := 9) rfl (by decide) g9 (by decide) (by decide) rfl (by simp [rf_cat, rq_cat, ca_i, ca_l, ca_r]) (ct_X11_raise l X hcq15) ?_
    obtain rfl := Option.some.inj hf
    exact g_iret (pc := 31) rfl dX11_assemble_31
theorem ct_X11_assemble (l : Launch) (X : Cx) {h : AH} {a0 : Nat} {q : Int32 × AH} (hf : f_X11_assemble h a0 = some q) : Ct l X k_X11_assemble [rf X a0] h (rI q) := ct_of ck_X11_assemble (by simp [lg_sl, rf_cat, rq_cat, ca_i, ca_l, ca_r]) (by simp [lv_args, rf_cat, rq_cat, ca_i, ca_l, ca_r]) (ok_X11_assemble l X hf)
set_option maxRecDepth 100000 in
set_option maxHeartbeats 4000000 in
theorem ok_X11_fault (l : Launch) (X : Cx) {h : AH} {a0 : Nat} {a1 : Int32} {q : Int32 × AH} (hf : f_X11_fault h a0 a1 = some q) : Go l X k_X11_fault 0 [(0, rf X a0), (1, .int a1)] [] h (rI q) := by
  unfold f_X11_fault at hf
  refine g_aload_n (pc := 0) 0 dX11_fault_0 rfl rfl ?_
  refine g_iconst (pc := 1) (v := (0 : Int32)) dX11_fault_1 (by decide) ?_
  obtain ⟨g1, hf⟩ := gs_some hf
  obtain ⟨h2, eh2, hf⟩ := lt_some hf
  refine g_putI (pc := 2) fl_X11_306 dX11_fault_2 g1 eh2 ?_
  refine g_iload_n (pc := 5) 1 dX11_fault_5 rfl rfl ?_
  rcases it_some hf with ⟨c3, hf⟩ | ⟨c3, hf⟩
  · refine g_ifne_t (pc := 6) (tgt := 16) dX11_fault_6 (by decide) c3 ?_
    refine g_iload_n (pc := 16) 1 dX11_fault_16 rfl rfl ?_
    refine g_iconst (pc := 17) (v := (1 : Int32)) dX11_fault_17 (by decide) ?_
    rcases it_some hf with ⟨c4, hf⟩ | ⟨c4, hf⟩
    · refine g_icne_t (pc := 18) (tgt := 28) dX11_fault_18 (by decide) c4 ?_
      refine g_iconst (pc := 28) (v := (-1 : Int32)) dX11_fault_28 (by decide) ?_
      obtain rfl := Option.some.inj hf
      exact g_iret (pc := 29) rfl dX11_fault_29
    · refine g_icne_f (pc := 18) (tgt := 28) dX11_fault_18 (by decide) (Decidable.of_not_not c4) ?_
      refine g_aload_n (pc := 21) 0 dX11_fault_21 rfl rfl ?_
      have g5 : hS h2 a0 = 10 := (hS_tI eh2 g1)
      refine g_getI (pc := 22) fl_X11_375 dX11_fault_22 g5 ?_
      refine g_goto (pc := 25) (tgt := 29) dX11_fault_25 (by decide) ?_
      obtain rfl := Option.some.inj hf
      exact g_iret (pc := 29) rfl dX11_fault_29
  · refine g_ifne_f (pc := 6) (tgt := 16) dX11_fault_6 (by decide) (Decidable.of_not_not c3) ?_
    refine g_aload_n (pc := 9) 0 dX11_fault_9 rfl rfl ?_
    have g6 : hS h2 a0 = 10 := (hS_tI eh2 g1)
    refine g_getI (pc := 10) fl_X11_372 dX11_fault_10 g6 ?_
    refine g_goto (pc := 13) (tgt := 29) dX11_fault_13 (by decide) ?_
    obtain rfl := Option.some.inj hf
    exact g_iret (pc := 29) rfl dX11_fault_29
theorem ct_X11_fault (l : Launch) (X : Cx) {h : AH} {a0 : Nat} {a1 : Int32} {q : Int32 × AH} (hf : f_X11_fault h a0 a1 = some q) : Ct l X k_X11_fault [rf X a0, .int a1] h (rI q) := ct_of ck_X11_fault (by simp [lg_sl, rf_cat, rq_cat, ca_i, ca_l, ca_r]) (by simp [lv_args, rf_cat, rq_cat, ca_i, ca_l, ca_r]) (ok_X11_fault l X hf)
set_option maxRecDepth 100000 in
set_option maxHeartbeats 4000000 in
theorem ok_X11_setOf (l : Launch) (X : Cx) {h : AH} {a0 : Nat} {a1 : Int32} {a2 : Int32} {q : Int32} (hf : f_X11_setOf h a0 a1 a2 = some q) : Go l X k_X11_setOf 0 [(0, rf X a0), (1, .int a1), (2, .int a2)] [] h (rI (q, h)) := by
  unfold f_X11_setOf at hf
  refine g_bipush (pc := 0) (v := (32 : Int32)) dX11_setOf_0 (by decide) ?_
  refine g_iload_n (pc := 2) 1 dX11_setOf_2 rfl rfl ?_
  refine g_imul (pc := 3) dX11_setOf_3 ?_
  refine g_aload_n (pc := 4) 0 dX11_setOf_4 rfl rfl ?_
  obtain ⟨g1, hf⟩ := gs_some hf
  refine g_getR (pc := 5) fl_X11_47 dX11_setOf_5 g1 ?_
  refine g_iconst (pc := 8) (v := (3 : Int32)) dX11_setOf_8 (by decide) ?_
  obtain ⟨g2, hf⟩ := gs_some hf
  obtain ⟨b3, hf⟩ := gb_some hf
  refine g_iald (pc := 9) g2 b3 dX11_setOf_9 ?_
  refine g_iload_n (pc := 10) 2 dX11_setOf_10 rfl rfl ?_
  refine g_aload_n (pc := 11) 0 dX11_setOf_11 rfl rfl ?_
  refine g_getR (pc := 12) fl_X11_47 dX11_setOf_12 g1 ?_
  refine g_iconst (pc := 15) (v := (2 : Int32)) dX11_setOf_15 (by decide) ?_
  obtain ⟨b4, hf⟩ := gb_some hf
  refine g_iald (pc := 16) g2 b4 dX11_setOf_16 ?_
  obtain ⟨b5, hf⟩ := gb_some hf
  refine g_irem (pc := 17) (of_decide_eq_true b5) dX11_setOf_17 ?_
  refine g_imul (pc := 18) dX11_setOf_18 ?_
  refine g_iadd (pc := 19) dX11_setOf_19 ?_
  obtain rfl := Option.some.inj hf
  exact g_iret (pc := 20) rfl dX11_setOf_20
theorem ct_X11_setOf (l : Launch) (X : Cx) {h : AH} {a0 : Nat} {a1 : Int32} {a2 : Int32} {q : Int32} (hf : f_X11_setOf h a0 a1 a2 = some q) : Ct l X k_X11_setOf [rf X a0, .int a1, .int a2] h (rI (q, h)) := ct_of ck_X11_setOf (by simp [lg_sl, rf_cat, rq_cat, ca_i, ca_l, ca_r]) (by simp [lv_args, rf_cat, rq_cat, ca_i, ca_l, ca_r]) (ok_X11_setOf l X hf)
set_option maxRecDepth 100000 in
set_option maxHeartbeats 4000000 in
theorem ok_X11_wayOf_L45 (l : Launch) (X : Cx) (h : AH) (k7 : Nat → Int32 → Int32 → Int32 → Option (Int32)) (hk7 : ∀ (a0 : Nat) (a1 : Int32) (a2 : Int32) (a3 : Int32) (q : Int32), k7 a0 a1 a2 a3 = some q → Go l X k_X11_wayOf 7 [(0, rf X a0), (1, .int a1), (2, .int a2), (3, .int a3)] [] h (rI (q, h))) (a0 : Nat) (a1 : Int32) (a2 : Int32) (a3 : Int32) (q : Int32) (hf : f_X11_wayOf_L45 h k7 a0 a1 a2 a3 = some q) : Go l X k_X11_wayOf 45 [(0, rf X a0), (1, .int a1), (2, .int a2), (3, .int a3)] [] h (rI (q, h)) := by
  unfold f_X11_wayOf_L45 at hf
  obtain ⟨x1, ex1, hf⟩ := lt_some hf
  refine g_iinc (pc := 45) (y := x1) (L' := [(3, .int x1), (0, rf X a0), (1, .int a1), (2, .int a2)]) 3 dX11_wayOf_45 rfl (by decide) (ex1.trans rfl) rfl ?_
  refine g_goto (pc := 48) (tgt := 7) dX11_wayOf_48 (by decide) ?_
  refine g_sub [1, 2, 3, 0] rfl ?_
  exact hk7 a0 a1 a2 x1 q hf
set_option maxRecDepth 100000 in
set_option maxHeartbeats 4000000 in
theorem ok_X11_wayOf_L7 (l : Launch) (X : Cx) (h : AH) : ∀ (n : Nat) (a0 : Nat) (a1 : Int32) (a2 : Int32) (a3 : Int32) (q : Int32), f_X11_wayOf_L7 h n a0 a1 a2 a3 = some q → Go l X k_X11_wayOf 7 [(0, rf X a0), (1, .int a1), (2, .int a2), (3, .int a3)] [] h (rI (q, h)) := by
  intro n
  induction n with
  | zero =>
    intro a0 a1 a2 a3 q hf
    unfold f_X11_wayOf_L7 at hf
    cases hf
  | succ n ih =>
    intro a0 a1 a2 a3 q hf
    unfold f_X11_wayOf_L7 at hf
    refine g_iload_n (pc := 7) 3 dX11_wayOf_7 rfl rfl ?_
    refine g_aload_n (pc := 8) 0 dX11_wayOf_8 rfl rfl ?_
    refine g_iload_n (pc := 9) 1 dX11_wayOf_9 rfl rfl ?_
    refine g_iload_n (pc := 10) 2 dX11_wayOf_10 rfl rfl ?_
    obtain ⟨g1, hf⟩ := gs_some hf
    obtain ⟨v2, hcv2, hf⟩ := bd_some hf
    refine g_cVI (pc := 11) (k2 := k_X11_setOf) (av := [.int a1, .int a2]) (q := (v2, h)) rfl dX11_wayOf_11 ck_X11_setOf m_1811 m_1813 m_82 (ci := 9) rfl (by decide) g1 (by decide) (by decide) rfl (by simp [rf_cat, rq_cat, ca_i, ca_l, ca_r]) (ct_X11_setOf l X hcv2) ?_
    refine g_aload_n (pc := 14) 0 dX11_wayOf_14 rfl rfl ?_
    refine g_getR (pc := 15) fl_X11_47 dX11_wayOf_15 g1 ?_
    refine g_iconst (pc := 18) (v := (3 : Int32)) dX11_wayOf_18 (by decide) ?_
    obtain ⟨g3, hf⟩ := gs_some hf
    obtain ⟨b4, hf⟩ := gb_some hf
    refine g_iald (pc := 19) g3 b4 dX11_wayOf_19 ?_
    refine g_iadd (pc := 20) dX11_wayOf_20 ?_
    rcases it_some hf with ⟨c5, hf⟩ | ⟨c5, hf⟩
    · refine g_icge_t (pc := 21) (tgt := 51) dX11_wayOf_21 (by decide) c5 ?_
      refine g_iconst (pc := 51) (v := (-1 : Int32)) dX11_wayOf_51 (by decide) ?_
      obtain rfl := Option.some.inj hf
      exact g_iret (pc := 52) rfl dX11_wayOf_52
    · refine g_icge_f (pc := 21) (tgt := 51) dX11_wayOf_21 (by decide) c5 ?_
      refine g_aload_n (pc := 24) 0 dX11_wayOf_24 rfl rfl ?_
      refine g_getR (pc := 25) fl_X11_108 dX11_wayOf_25 g1 ?_
      refine g_iload_n (pc := 28) 3 dX11_wayOf_28 rfl rfl ?_
      obtain ⟨g6, hf⟩ := gs_some hf
      obtain ⟨b7, hf⟩ := gb_some hf
      refine g_iald (pc := 29) g6 b7 dX11_wayOf_29 ?_
      rcases it_some hf with ⟨c8, hf⟩ | ⟨c8, hf⟩
      · refine g_ifle_t (pc := 30) (tgt := 45) dX11_wayOf_30 (by decide) c8 ?_
        exact ok_X11_wayOf_L45 l X h (f_X11_wayOf_L7 h n) ih a0 a1 a2 a3 q hf
      · refine g_ifle_f (pc := 30) (tgt := 45) dX11_wayOf_30 (by decide) c8 ?_
        refine g_aload_n (pc := 33) 0 dX11_wayOf_33 rfl rfl ?_
        refine g_getR (pc := 34) fl_X11_105 dX11_wayOf_34 g1 ?_
        refine g_iload_n (pc := 37) 3 dX11_wayOf_37 rfl rfl ?_
        obtain ⟨g9, hf⟩ := gs_some hf
        obtain ⟨b10, hf⟩ := gb_some hf
        refine g_iald (pc := 38) g9 b10 dX11_wayOf_38 ?_
        refine g_iload_n (pc := 39) 2 dX11_wayOf_39 rfl rfl ?_
        rcases it_some hf with ⟨c11, hf⟩ | ⟨c11, hf⟩
        · refine g_icne_t (pc := 40) (tgt := 45) dX11_wayOf_40 (by decide) c11 ?_
          exact ok_X11_wayOf_L45 l X h (f_X11_wayOf_L7 h n) ih a0 a1 a2 a3 q hf
        · refine g_icne_f (pc := 40) (tgt := 45) dX11_wayOf_40 (by decide) (Decidable.of_not_not c11) ?_
          refine g_iload_n (pc := 43) 3 dX11_wayOf_43 rfl rfl ?_
          obtain rfl := Option.some.inj hf
          exact g_iret (pc := 44) rfl dX11_wayOf_44
set_option maxRecDepth 100000 in
set_option maxHeartbeats 4000000 in
theorem ok_X11_wayOf (l : Launch) (X : Cx) {h : AH} {a0 : Nat} {a1 : Int32} {a2 : Int32} {q : Int32} (hf : f_X11_wayOf h a0 a1 a2 = some q) : Go l X k_X11_wayOf 0 [(0, rf X a0), (1, .int a1), (2, .int a2)] [] h (rI (q, h)) := by
  unfold f_X11_wayOf at hf
  refine g_aload_n (pc := 0) 0 dX11_wayOf_0 rfl rfl ?_
  refine g_iload_n (pc := 1) 1 dX11_wayOf_1 rfl rfl ?_
  refine g_iload_n (pc := 2) 2 dX11_wayOf_2 rfl rfl ?_
  obtain ⟨g1, hf⟩ := gs_some hf
  obtain ⟨v2, hcv2, hf⟩ := bd_some hf
  refine g_cVI (pc := 3) (k2 := k_X11_setOf) (av := [.int a1, .int a2]) (q := (v2, h)) rfl dX11_wayOf_3 ck_X11_setOf m_1811 m_1813 m_82 (ci := 9) rfl (by decide) g1 (by decide) (by decide) rfl (by simp [rf_cat, rq_cat, ca_i, ca_l, ca_r]) (ct_X11_setOf l X hcv2) ?_
  refine g_istore_n (pc := 6) (L' := [(3, .int v2), (0, rf X a0), (1, .int a1), (2, .int a2)]) dX11_wayOf_6 rfl (by decide) rfl rfl ?_
  refine g_sub [1, 2, 3, 0] rfl ?_
  exact ok_X11_wayOf_L7 l X h FU a0 a1 a2 v2 q hf
theorem ct_X11_wayOf (l : Launch) (X : Cx) {h : AH} {a0 : Nat} {a1 : Int32} {a2 : Int32} {q : Int32} (hf : f_X11_wayOf h a0 a1 a2 = some q) : Ct l X k_X11_wayOf [rf X a0, .int a1, .int a2] h (rI (q, h)) := ct_of ck_X11_wayOf (by simp [lg_sl, rf_cat, rq_cat, ca_i, ca_l, ca_r]) (by simp [lv_args, rf_cat, rq_cat, ca_i, ca_l, ca_r]) (ok_X11_wayOf l X hf)
set_option maxRecDepth 100000 in
set_option maxHeartbeats 4000000 in
theorem ok_X11_use (l : Launch) (X : Cx) {h : AH} {a0 : Nat} {a1 : Int32} {q : AH} (hf : f_X11_use h a0 a1 = some q) : Go l X k_X11_use 0 [(0, rf X a0), (1, .int a1)] [] h (rV q) := by
  unfold f_X11_use at hf
  refine g_aload_n (pc := 0) 0 dX11_use_0 rfl rfl ?_
  refine g_dup (pc := 1) dX11_use_1 (rf_cat X _) ?_
  obtain ⟨g1, hf⟩ := gs_some hf
  refine g_getI (pc := 2) fl_X11_310 dX11_use_2 g1 ?_
  refine g_iconst (pc := 5) (v := (1 : Int32)) dX11_use_5 (by decide) ?_
  refine g_iadd (pc := 6) dX11_use_6 ?_
  obtain ⟨h2, eh2, hf⟩ := lt_some hf
  refine g_putI (pc := 7) fl_X11_310 dX11_use_7 g1 eh2 ?_
  refine g_aload_n (pc := 10) 0 dX11_use_10 rfl rfl ?_
  have g3 : hS h2 a0 = 10 := (hS_tI eh2 g1)
  refine g_getR (pc := 11) fl_X11_111 dX11_use_11 g3 ?_
  refine g_iload_n (pc := 14) 1 dX11_use_14 rfl rfl ?_
  refine g_aload_n (pc := 15) 0 dX11_use_15 rfl rfl ?_
  refine g_getI (pc := 16) fl_X11_310 dX11_use_16 g3 ?_
  obtain ⟨g4, hf⟩ := gs_some hf
  obtain ⟨b5, hf⟩ := gb_some hf
  obtain ⟨h6, eh6, hf⟩ := lt_some hf
  refine g_iast (pc := 19) g4 b5 dX11_use_19 eh6 ?_
  obtain rfl := Option.some.inj hf
  exact g_vret (pc := 20) rfl dX11_use_20
theorem ct_X11_use (l : Launch) (X : Cx) {h : AH} {a0 : Nat} {a1 : Int32} {q : AH} (hf : f_X11_use h a0 a1 = some q) : Ct l X k_X11_use [rf X a0, .int a1] h (rV q) := ct_of ck_X11_use (by simp [lg_sl, rf_cat, rq_cat, ca_i, ca_l, ca_r]) (by simp [lv_args, rf_cat, rq_cat, ca_i, ca_l, ca_r]) (ok_X11_use l X hf)
set_option maxRecDepth 100000 in
set_option maxHeartbeats 4000000 in
theorem ok_X11_freeWay_L7 (l : Launch) (X : Cx) (h : AH) : ∀ (n : Nat) (a0 : Nat) (a1 : Int32) (a2 : Int32) (a3 : Int32) (q : Int32), f_X11_freeWay_L7 h n a0 a1 a2 a3 = some q → Go l X k_X11_freeWay 7 [(0, rf X a0), (1, .int a1), (2, .int a2), (3, .int a3)] [] h (rI (q, h)) := by
  intro n
  induction n with
  | zero =>
    intro a0 a1 a2 a3 q hf
    unfold f_X11_freeWay_L7 at hf
    cases hf
  | succ n ih =>
    intro a0 a1 a2 a3 q hf
    unfold f_X11_freeWay_L7 at hf
    refine g_iload_n (pc := 7) 3 dX11_freeWay_7 rfl rfl ?_
    refine g_aload_n (pc := 8) 0 dX11_freeWay_8 rfl rfl ?_
    refine g_iload_n (pc := 9) 1 dX11_freeWay_9 rfl rfl ?_
    refine g_iload_n (pc := 10) 2 dX11_freeWay_10 rfl rfl ?_
    obtain ⟨g1, hf⟩ := gs_some hf
    obtain ⟨v2, hcv2, hf⟩ := bd_some hf
    refine g_cVI (pc := 11) (k2 := k_X11_setOf) (av := [.int a1, .int a2]) (q := (v2, h)) rfl dX11_freeWay_11 ck_X11_setOf m_1811 m_1813 m_82 (ci := 9) rfl (by decide) g1 (by decide) (by decide) rfl (by simp [rf_cat, rq_cat, ca_i, ca_l, ca_r]) (ct_X11_setOf l X hcv2) ?_
    refine g_aload_n (pc := 14) 0 dX11_freeWay_14 rfl rfl ?_
    refine g_getR (pc := 15) fl_X11_47 dX11_freeWay_15 g1 ?_
    refine g_iconst (pc := 18) (v := (3 : Int32)) dX11_freeWay_18 (by decide) ?_
    obtain ⟨g3, hf⟩ := gs_some hf
    obtain ⟨b4, hf⟩ := gb_some hf
    refine g_iald (pc := 19) g3 b4 dX11_freeWay_19 ?_
    refine g_iadd (pc := 20) dX11_freeWay_20 ?_
    rcases it_some hf with ⟨c5, hf⟩ | ⟨c5, hf⟩
    · refine g_icge_t (pc := 21) (tgt := 41) dX11_freeWay_21 (by decide) c5 ?_
      refine g_iconst (pc := 41) (v := (-1 : Int32)) dX11_freeWay_41 (by decide) ?_
      obtain rfl := Option.some.inj hf
      exact g_iret (pc := 42) rfl dX11_freeWay_42
    · refine g_icge_f (pc := 21) (tgt := 41) dX11_freeWay_21 (by decide) c5 ?_
      refine g_aload_n (pc := 24) 0 dX11_freeWay_24 rfl rfl ?_
      refine g_getR (pc := 25) fl_X11_108 dX11_freeWay_25 g1 ?_
      refine g_iload_n (pc := 28) 3 dX11_freeWay_28 rfl rfl ?_
      obtain ⟨g6, hf⟩ := gs_some hf
      obtain ⟨b7, hf⟩ := gb_some hf
      refine g_iald (pc := 29) g6 b7 dX11_freeWay_29 ?_
      rcases it_some hf with ⟨c8, hf⟩ | ⟨c8, hf⟩
      · refine g_ifne_t (pc := 30) (tgt := 35) dX11_freeWay_30 (by decide) c8 ?_
        obtain ⟨x9, ex9, hf⟩ := lt_some hf
        refine g_iinc (pc := 35) (y := x9) (L' := [(3, .int x9), (0, rf X a0), (1, .int a1), (2, .int a2)]) 3 dX11_freeWay_35 rfl (by decide) (ex9.trans rfl) rfl ?_
        refine g_goto (pc := 38) (tgt := 7) dX11_freeWay_38 (by decide) ?_
        refine g_sub [1, 2, 3, 0] rfl ?_
        exact ih a0 a1 a2 x9 q hf
      · refine g_ifne_f (pc := 30) (tgt := 35) dX11_freeWay_30 (by decide) (Decidable.of_not_not c8) ?_
        refine g_iload_n (pc := 33) 3 dX11_freeWay_33 rfl rfl ?_
        obtain rfl := Option.some.inj hf
        exact g_iret (pc := 34) rfl dX11_freeWay_34
set_option maxRecDepth 100000 in
set_option maxHeartbeats 4000000 in
theorem ok_X11_freeWay (l : Launch) (X : Cx) {h : AH} {a0 : Nat} {a1 : Int32} {a2 : Int32} {q : Int32} (hf : f_X11_freeWay h a0 a1 a2 = some q) : Go l X k_X11_freeWay 0 [(0, rf X a0), (1, .int a1), (2, .int a2)] [] h (rI (q, h)) := by
  unfold f_X11_freeWay at hf
  refine g_aload_n (pc := 0) 0 dX11_freeWay_0 rfl rfl ?_
  refine g_iload_n (pc := 1) 1 dX11_freeWay_1 rfl rfl ?_
  refine g_iload_n (pc := 2) 2 dX11_freeWay_2 rfl rfl ?_
  obtain ⟨g1, hf⟩ := gs_some hf
  obtain ⟨v2, hcv2, hf⟩ := bd_some hf
  refine g_cVI (pc := 3) (k2 := k_X11_setOf) (av := [.int a1, .int a2]) (q := (v2, h)) rfl dX11_freeWay_3 ck_X11_setOf m_1811 m_1813 m_82 (ci := 9) rfl (by decide) g1 (by decide) (by decide) rfl (by simp [rf_cat, rq_cat, ca_i, ca_l, ca_r]) (ct_X11_setOf l X hcv2) ?_
  refine g_istore_n (pc := 6) (L' := [(3, .int v2), (0, rf X a0), (1, .int a1), (2, .int a2)]) dX11_freeWay_6 rfl (by decide) rfl rfl ?_
  refine g_sub [1, 2, 3, 0] rfl ?_
  exact ok_X11_freeWay_L7 l X h FU a0 a1 a2 v2 q hf
theorem ct_X11_freeWay (l : Launch) (X : Cx) {h : AH} {a0 : Nat} {a1 : Int32} {a2 : Int32} {q : Int32} (hf : f_X11_freeWay h a0 a1 a2 = some q) : Ct l X k_X11_freeWay [rf X a0, .int a1, .int a2] h (rI (q, h)) := ct_of ck_X11_freeWay (by simp [lg_sl, rf_cat, rq_cat, ca_i, ca_l, ca_r]) (by simp [lv_args, rf_cat, rq_cat, ca_i, ca_l, ca_r]) (ok_X11_freeWay l X hf)
set_option maxRecDepth 100000 in
set_option maxHeartbeats 4000000 in
theorem ok_X11_blank_L32 (l : Launch) (X : Cx) : ∀ (n : Nat) (h : AH) (a0 : Nat) (a5 : Int32) (q : AH), f_X11_blank_L32 n h a0 a5 = some q → Go l X k_X11_blank 32 [(0, rf X a0), (5, .int a5)] [] h (rV q) := by
  intro n
  induction n with
  | zero =>
    intro h a0 a5 q hf
    unfold f_X11_blank_L32 at hf
    cases hf
  | succ n ih =>
    intro h a0 a5 q hf
    unfold f_X11_blank_L32 at hf
    refine g_iload (pc := 32) 1 dX11_blank_32 rfl ?_
    refine g_bipush (pc := 34) (v := (9 : Int32)) dX11_blank_34 (by decide) ?_
    rcases it_some hf with ⟨c1, hf⟩ | ⟨c1, hf⟩
    · refine g_icge_t (pc := 36) (tgt := 53) dX11_blank_36 (by decide) c1 ?_
      obtain rfl := Option.some.inj hf
      exact g_vret (pc := 53) rfl dX11_blank_53
    · refine g_icge_f (pc := 36) (tgt := 53) dX11_blank_36 (by decide) c1 ?_
      refine g_aload_n (pc := 39) 0 dX11_blank_39 rfl rfl ?_
      obtain ⟨g2, hf⟩ := gs_some hf
      refine g_getR (pc := 40) fl_X11_148 dX11_blank_40 g2 ?_
      refine g_iload (pc := 43) 1 dX11_blank_43 rfl ?_
      refine g_iconst (pc := 45) (v := (0 : Int32)) dX11_blank_45 (by decide) ?_
      obtain ⟨g3, hf⟩ := gs_some hf
      obtain ⟨b4, hf⟩ := gb_some hf
      obtain ⟨h5, eh5, hf⟩ := lt_some hf
      refine g_iast (pc := 46) g3 b4 dX11_blank_46 eh5 ?_
      obtain ⟨x6, ex6, hf⟩ := lt_some hf
      refine g_iinc (pc := 47) (y := x6) (L' := [(5, .int x6), (0, rf X a0)]) 1 dX11_blank_47 rfl (by decide) (ex6.trans rfl) rfl ?_
      refine g_goto (pc := 50) (tgt := 32) dX11_blank_50 (by decide) ?_
      refine g_sub [1, 0] rfl ?_
      exact ih h5 a0 x6 q hf
set_option maxRecDepth 100000 in
set_option maxHeartbeats 4000000 in
theorem ok_X11_blank (l : Launch) (X : Cx) {h : AH} {a0 : Nat} {a1 : Int32} {a2 : Int32} {a3 : Int32} {a4 : Int32} {q : AH} (hf : f_X11_blank h a0 a1 a2 a3 a4 = some q) : Go l X k_X11_blank 0 [(0, rf X a0), (1, .int a1), (2, .int a2), (3, .int a3), (4, .int a4)] [] h (rV q) := by
  unfold f_X11_blank at hf
  refine g_aload_n (pc := 0) 0 dX11_blank_0 rfl rfl ?_
  obtain ⟨g1, hf⟩ := gs_some hf
  refine g_getR (pc := 1) fl_X11_148 dX11_blank_1 g1 ?_
  refine g_iconst (pc := 4) (v := (0 : Int32)) dX11_blank_4 (by decide) ?_
  refine g_iload_n (pc := 5) 1 dX11_blank_5 rfl rfl ?_
  obtain ⟨g2, hf⟩ := gs_some hf
  obtain ⟨b3, hf⟩ := gb_some hf
  obtain ⟨h4, eh4, hf⟩ := lt_some hf
  refine g_iast (pc := 6) g2 b3 dX11_blank_6 eh4 ?_
  refine g_aload_n (pc := 7) 0 dX11_blank_7 rfl rfl ?_
  have g5 : hS h4 a0 = 10 := (hS_tI eh4 g1)
  refine g_getR (pc := 8) fl_X11_148 dX11_blank_8 g5 ?_
  refine g_iconst (pc := 11) (v := (1 : Int32)) dX11_blank_11 (by decide) ?_
  refine g_iload_n (pc := 12) 2 dX11_blank_12 rfl rfl ?_
  obtain ⟨g6, hf⟩ := gs_some hf
  obtain ⟨b7, hf⟩ := gb_some hf
  obtain ⟨h8, eh8, hf⟩ := lt_some hf
  refine g_iast (pc := 13) g6 b7 dX11_blank_13 eh8 ?_
  refine g_aload_n (pc := 14) 0 dX11_blank_14 rfl rfl ?_
  have g9 : hS h8 a0 = 10 := (hS_tI eh8 g5)
  refine g_getR (pc := 15) fl_X11_148 dX11_blank_15 g9 ?_
  refine g_iconst (pc := 18) (v := (2 : Int32)) dX11_blank_18 (by decide) ?_
  refine g_iload_n (pc := 19) 3 dX11_blank_19 rfl rfl ?_
  obtain ⟨g10, hf⟩ := gs_some hf
  obtain ⟨b11, hf⟩ := gb_some hf
  obtain ⟨h12, eh12, hf⟩ := lt_some hf
  refine g_iast (pc := 20) g10 b11 dX11_blank_20 eh12 ?_
  refine g_aload_n (pc := 21) 0 dX11_blank_21 rfl rfl ?_
  have g13 : hS h12 a0 = 10 := (hS_tI eh12 g9)
  refine g_getR (pc := 22) fl_X11_148 dX11_blank_22 g13 ?_
  refine g_iconst (pc := 25) (v := (3 : Int32)) dX11_blank_25 (by decide) ?_
  refine g_iload (pc := 26) 4 dX11_blank_26 rfl ?_
  obtain ⟨g14, hf⟩ := gs_some hf
  obtain ⟨b15, hf⟩ := gb_some hf
  obtain ⟨h16, eh16, hf⟩ := lt_some hf
  refine g_iast (pc := 28) g14 b15 dX11_blank_28 eh16 ?_
  refine g_iconst (pc := 29) (v := (4 : Int32)) dX11_blank_29 (by decide) ?_
  obtain ⟨x17, ex17, hf⟩ := lt_some hf
  refine g_istore (pc := 30) (L' := [(5, .int x17), (0, rf X a0), (1, .int a1), (2, .int a2), (3, .int a3), (4, .int a4)]) dX11_blank_30 (by decide) ex17 rfl ?_
  refine g_sub [1, 0] rfl ?_
  exact ok_X11_blank_L32 l X FU h16 a0 x17 q hf
theorem ct_X11_blank (l : Launch) (X : Cx) {h : AH} {a0 : Nat} {a1 : Int32} {a2 : Int32} {a3 : Int32} {a4 : Int32} {q : AH} (hf : f_X11_blank h a0 a1 a2 a3 a4 = some q) : Ct l X k_X11_blank [rf X a0, .int a1, .int a2, .int a3, .int a4] h (rV q) := ct_of ck_X11_blank (by simp [lg_sl, rf_cat, rq_cat, ca_i, ca_l, ca_r]) (by simp [lv_args, rf_cat, rq_cat, ca_i, ca_l, ca_r]) (ok_X11_blank l X hf)
set_option maxRecDepth 100000 in
set_option maxHeartbeats 4000000 in
theorem ok_X11_withWords_L9 (l : Launch) (X : Cx) : ∀ (n : Nat) (h : AH) (a0 : Nat) (a1 : Int32) (a2 : Int32) (q : AH), f_X11_withWords_L9 n h a0 a1 a2 = some q → Go l X k_X11_withWords 9 [(0, rf X a0), (1, .int a1), (2, .int a2)] [] h (rV q) := by
  intro n
  induction n with
  | zero =>
    intro h a0 a1 a2 q hf
    unfold f_X11_withWords_L9 at hf
    cases hf
  | succ n ih =>
    intro h a0 a1 a2 q hf
    unfold f_X11_withWords_L9 at hf
    refine g_iload_n (pc := 9) 2 dX11_withWords_9 rfl rfl ?_
    refine g_iconst (pc := 10) (v := (4 : Int32)) dX11_withWords_10 (by decide) ?_
    rcases it_some hf with ⟨c1, hf⟩ | ⟨c1, hf⟩
    · refine g_icge_t (pc := 11) (tgt := 38) dX11_withWords_11 (by decide) c1 ?_
      obtain rfl := Option.some.inj hf
      exact g_vret (pc := 38) rfl dX11_withWords_38
    · refine g_icge_f (pc := 11) (tgt := 38) dX11_withWords_11 (by decide) c1 ?_
      refine g_aload_n (pc := 14) 0 dX11_withWords_14 rfl rfl ?_
      obtain ⟨g2, hf⟩ := gs_some hf
      refine g_getR (pc := 15) fl_X11_148 dX11_withWords_15 g2 ?_
      refine g_iconst (pc := 18) (v := (5 : Int32)) dX11_withWords_18 (by decide) ?_
      refine g_iload_n (pc := 19) 2 dX11_withWords_19 rfl rfl ?_
      refine g_iadd (pc := 20) dX11_withWords_20 ?_
      refine g_aload_n (pc := 21) 0 dX11_withWords_21 rfl rfl ?_
      refine g_getR (pc := 22) fl_X11_53 dX11_withWords_22 g2 ?_
      refine g_iconst (pc := 25) (v := (4 : Int32)) dX11_withWords_25 (by decide) ?_
      refine g_iload_n (pc := 26) 1 dX11_withWords_26 rfl rfl ?_
      refine g_imul (pc := 27) dX11_withWords_27 ?_
      refine g_iload_n (pc := 28) 2 dX11_withWords_28 rfl rfl ?_
      refine g_iadd (pc := 29) dX11_withWords_29 ?_
      obtain ⟨g3, hf⟩ := gs_some hf
      obtain ⟨b4, hf⟩ := gb_some hf
      refine g_iald (pc := 30) g3 b4 dX11_withWords_30 ?_
      obtain ⟨g5, hf⟩ := gs_some hf
      obtain ⟨b6, hf⟩ := gb_some hf
      obtain ⟨h7, eh7, hf⟩ := lt_some hf
      refine g_iast (pc := 31) g5 b6 dX11_withWords_31 eh7 ?_
      obtain ⟨x8, ex8, hf⟩ := lt_some hf
      refine g_iinc (pc := 32) (y := x8) (L' := [(2, .int x8), (0, rf X a0), (1, .int a1)]) 2 dX11_withWords_32 rfl (by decide) (ex8.trans rfl) rfl ?_
      refine g_goto (pc := 35) (tgt := 9) dX11_withWords_35 (by decide) ?_
      refine g_sub [1, 2, 0] rfl ?_
      exact ih h7 a0 a1 x8 q hf
set_option maxRecDepth 100000 in
set_option maxHeartbeats 4000000 in
theorem ok_X11_withWords (l : Launch) (X : Cx) {h : AH} {a0 : Nat} {a1 : Int32} {q : AH} (hf : f_X11_withWords h a0 a1 = some q) : Go l X k_X11_withWords 0 [(0, rf X a0), (1, .int a1)] [] h (rV q) := by
  unfold f_X11_withWords at hf
  refine g_aload_n (pc := 0) 0 dX11_withWords_0 rfl rfl ?_
  obtain ⟨g1, hf⟩ := gs_some hf
  refine g_getR (pc := 1) fl_X11_148 dX11_withWords_1 g1 ?_
  refine g_iconst (pc := 4) (v := (4 : Int32)) dX11_withWords_4 (by decide) ?_
  refine g_iconst (pc := 5) (v := (1 : Int32)) dX11_withWords_5 (by decide) ?_
  obtain ⟨g2, hf⟩ := gs_some hf
  obtain ⟨b3, hf⟩ := gb_some hf
  obtain ⟨h4, eh4, hf⟩ := lt_some hf
  refine g_iast (pc := 6) g2 b3 dX11_withWords_6 eh4 ?_
  refine g_iconst (pc := 7) (v := (0 : Int32)) dX11_withWords_7 (by decide) ?_
  obtain ⟨x5, ex5, hf⟩ := lt_some hf
  refine g_istore_n (pc := 8) (L' := [(2, .int x5), (0, rf X a0), (1, .int a1)]) dX11_withWords_8 rfl (by decide) ex5 rfl ?_
  refine g_sub [1, 2, 0] rfl ?_
  exact ok_X11_withWords_L9 l X FU h4 a0 a1 x5 q hf
theorem ct_X11_withWords (l : Launch) (X : Cx) {h : AH} {a0 : Nat} {a1 : Int32} {q : AH} (hf : f_X11_withWords h a0 a1 = some q) : Ct l X k_X11_withWords [rf X a0, .int a1] h (rV q) := ct_of ck_X11_withWords (by simp [lg_sl, rf_cat, rq_cat, ca_i, ca_l, ca_r]) (by simp [lv_args, rf_cat, rq_cat, ca_i, ca_l, ca_r]) (ok_X11_withWords l X hf)
set_option maxRecDepth 100000 in
set_option maxHeartbeats 4000000 in
theorem ok_X11_post_L2 (l : Launch) (X : Cx) : ∀ (n : Nat) (h : AH) (a0 : Nat) (a1 : Int32) (q : AH), f_X11_post_L2 n h a0 a1 = some q → Go l X k_X11_post 2 [(0, rf X a0), (1, .int a1)] [] h (rV q) := by
  intro n
  induction n with
  | zero =>
    intro h a0 a1 q hf
    unfold f_X11_post_L2 at hf
    cases hf
  | succ n ih =>
    intro h a0 a1 q hf
    unfold f_X11_post_L2 at hf
    refine g_iload_n (pc := 2) 1 dX11_post_2 rfl rfl ?_
    refine g_bipush (pc := 3) (v := (9 : Int32)) dX11_post_3 (by decide) ?_
    rcases it_some hf with ⟨c1, hf⟩ | ⟨c1, hf⟩
    · refine g_icge_t (pc := 5) (tgt := 34) dX11_post_5 (by decide) c1 ?_
      refine g_aload_n (pc := 34) 0 dX11_post_34 rfl rfl ?_
      refine g_dup (pc := 35) dX11_post_35 (rf_cat X _) ?_
      obtain ⟨g2, hf⟩ := gs_some hf
      refine g_getI (pc := 36) fl_X11_316 dX11_post_36 g2 ?_
      refine g_iconst (pc := 39) (v := (1 : Int32)) dX11_post_39 (by decide) ?_
      refine g_iadd (pc := 40) dX11_post_40 ?_
      obtain ⟨h3, eh3, hf⟩ := lt_some hf
      refine g_putI (pc := 41) fl_X11_316 dX11_post_41 g2 eh3 ?_
      obtain rfl := Option.some.inj hf
      exact g_vret (pc := 44) rfl dX11_post_44
    · refine g_icge_f (pc := 5) (tgt := 34) dX11_post_5 (by decide) c1 ?_
      refine g_aload_n (pc := 8) 0 dX11_post_8 rfl rfl ?_
      obtain ⟨g4, hf⟩ := gs_some hf
      refine g_getR (pc := 9) fl_X11_145 dX11_post_9 g4 ?_
      refine g_bipush (pc := 12) (v := (9 : Int32)) dX11_post_12 (by decide) ?_
      refine g_aload_n (pc := 14) 0 dX11_post_14 rfl rfl ?_
      refine g_getI (pc := 15) fl_X11_316 dX11_post_15 g4 ?_
      refine g_imul (pc := 18) dX11_post_18 ?_
      refine g_iload_n (pc := 19) 1 dX11_post_19 rfl rfl ?_
      refine g_iadd (pc := 20) dX11_post_20 ?_
      refine g_aload_n (pc := 21) 0 dX11_post_21 rfl rfl ?_
      refine g_getR (pc := 22) fl_X11_148 dX11_post_22 g4 ?_
      refine g_iload_n (pc := 25) 1 dX11_post_25 rfl rfl ?_
      obtain ⟨g5, hf⟩ := gs_some hf
      obtain ⟨b6, hf⟩ := gb_some hf
      refine g_iald (pc := 26) g5 b6 dX11_post_26 ?_
      obtain ⟨g7, hf⟩ := gs_some hf
      obtain ⟨b8, hf⟩ := gb_some hf
      obtain ⟨h9, eh9, hf⟩ := lt_some hf
      refine g_iast (pc := 27) g7 b8 dX11_post_27 eh9 ?_
      obtain ⟨x10, ex10, hf⟩ := lt_some hf
      refine g_iinc (pc := 28) (y := x10) (L' := [(1, .int x10), (0, rf X a0)]) 1 dX11_post_28 rfl (by decide) (ex10.trans rfl) (by simp [rf_cat, rq_cat]) ?_
      refine g_goto (pc := 31) (tgt := 2) dX11_post_31 (by decide) ?_
      refine g_sub [1, 0] rfl ?_
      exact ih h9 a0 x10 q hf
set_option maxRecDepth 100000 in
set_option maxHeartbeats 4000000 in
theorem ok_X11_post (l : Launch) (X : Cx) {h : AH} {a0 : Nat} {q : AH} (hf : f_X11_post h a0 = some q) : Go l X k_X11_post 0 [(0, rf X a0)] [] h (rV q) := by
  unfold f_X11_post at hf
  refine g_iconst (pc := 0) (v := (0 : Int32)) dX11_post_0 (by decide) ?_
  obtain ⟨x1, ex1, hf⟩ := lt_some hf
  refine g_istore_n (pc := 1) (L' := [(1, .int x1), (0, rf X a0)]) dX11_post_1 rfl (by decide) ex1 (by simp [rf_cat, rq_cat]) ?_
  refine g_sub [1, 0] rfl ?_
  exact ok_X11_post_L2 l X FU h a0 x1 q hf
theorem ct_X11_post (l : Launch) (X : Cx) {h : AH} {a0 : Nat} {q : AH} (hf : f_X11_post h a0 = some q) : Ct l X k_X11_post [rf X a0] h (rV q) := ct_of ck_X11_post (by simp [lg_sl, rf_cat, rq_cat, ca_i, ca_l, ca_r]) (by simp [lv_args, rf_cat, rq_cat, ca_i, ca_l, ca_r]) (ok_X11_post l X hf)
set_option maxRecDepth 100000 in
set_option maxHeartbeats 4000000 in
theorem ok_X11_send (l : Launch) (X : Cx) {h : AH} {a0 : Nat} {a1 : Int32} {a2 : Int32} {a3 : Int32} {a4 : Int32} {q : AH} (hf : f_X11_send h a0 a1 a2 a3 a4 = some q) : Go l X k_X11_send 0 [(0, rf X a0), (1, .int a1), (2, .int a2), (3, .int a3), (4, .int a4)] [] h (rV q) := by
  unfold f_X11_send at hf
  refine g_aload_n (pc := 0) 0 dX11_send_0 rfl rfl ?_
  refine g_iload_n (pc := 1) 1 dX11_send_1 rfl rfl ?_
  refine g_iload_n (pc := 2) 2 dX11_send_2 rfl rfl ?_
  refine g_iload_n (pc := 3) 3 dX11_send_3 rfl rfl ?_
  refine g_iload (pc := 4) 4 dX11_send_4 rfl ?_
  obtain ⟨g1, hf⟩ := gs_some hf
  obtain ⟨q2, hcq2, hf⟩ := bd_some hf
  refine g_cVV (pc := 6) (k2 := k_X11_blank) (av := [.int a1, .int a2, .int a3, .int a4]) (q := q2) rfl dX11_send_6 ck_X11_blank m_1827 m_1829 m_86 (ci := 9) rfl (by decide) g1 (by decide) (by decide) rfl (by simp [rf_cat, rq_cat, ca_i, ca_l, ca_r]) (ct_X11_blank l X hcq2) ?_
  refine g_aload_n (pc := 9) 0 dX11_send_9 rfl rfl ?_
  obtain ⟨g3, hf⟩ := gs_some hf
  obtain ⟨q4, hcq4, hf⟩ := bd_some hf
  refine g_cVV (pc := 10) (k2 := k_X11_post) (av := []) (q := q4) rfl dX11_send_10 ck_X11_post m_1835 m_1837 m_88 (ci := 9) rfl (by decide) g3 (by decide) (by decide) rfl (by simp [rf_cat, rq_cat, ca_i, ca_l, ca_r]) (ct_X11_post l X hcq4) ?_
  obtain rfl := Option.some.inj hf
  exact g_vret (pc := 13) rfl dX11_send_13
theorem ct_X11_send (l : Launch) (X : Cx) {h : AH} {a0 : Nat} {a1 : Int32} {a2 : Int32} {a3 : Int32} {a4 : Int32} {q : AH} (hf : f_X11_send h a0 a1 a2 a3 a4 = some q) : Ct l X k_X11_send [rf X a0, .int a1, .int a2, .int a3, .int a4] h (rV q) := ct_of ck_X11_send (by simp [lg_sl, rf_cat, rq_cat, ca_i, ca_l, ca_r]) (by simp [lv_args, rf_cat, rq_cat, ca_i, ca_l, ca_r]) (ok_X11_send l X hf)
set_option maxRecDepth 100000 in
set_option maxHeartbeats 4000000 in
theorem ok_X11_leave_L128 (l : Launch) (X : Cx) (h : AH) (a0 : Nat) (a3 : Int32) (q : Int32 × AH) (hf : f_X11_leave_L128 h a0 a3 = some q) : Go l X k_X11_leave 128 [(0, rf X a0), (3, .int a3)] [] h (rI q) := by
  unfold f_X11_leave_L128 at hf
  refine g_aload_n (pc := 128) 0 dX11_leave_128 rfl rfl ?_
  obtain ⟨g1, hf⟩ := gs_some hf
  refine g_getR (pc := 129) fl_X11_108 dX11_leave_129 g1 ?_
  refine g_iload_n (pc := 132) 1 dX11_leave_132 rfl rfl ?_
  refine g_iconst (pc := 133) (v := (0 : Int32)) dX11_leave_133 (by decide) ?_
  obtain ⟨g2, hf⟩ := gs_some hf
  obtain ⟨b3, hf⟩ := gb_some hf
  obtain ⟨h4, eh4, hf⟩ := lt_some hf
  refine g_iast (pc := 134) g2 b3 dX11_leave_134 eh4 ?_
  refine g_iconst (pc := 135) (v := (1 : Int32)) dX11_leave_135 (by decide) ?_
  obtain rfl := Option.some.inj hf
  exact g_zret (pc := 136) rfl rfl dX11_leave_136
set_option maxRecDepth 100000 in
set_option maxHeartbeats 4000000 in
theorem ok_X11_leave_L52 (l : Launch) (X : Cx) (k12 : AH → Nat → Int32 → Int32 → Int32 → Int32 → Option (Int32 × AH)) (hk12 : ∀ (h : AH) (a0 : Nat) (a1 : Int32) (a2 : Int32) (a3 : Int32) (a4 : Int32) (q : Int32 × AH), k12 h a0 a1 a2 a3 a4 = some q → Go l X k_X11_leave 12 [(0, rf X a0), (1, .int a1), (2, .int a2), (3, .int a3), (4, .int a4)] [] h (rI q)) (h : AH) (a0 : Nat) (a1 : Int32) (a2 : Int32) (a4 : Int32) (s0 : Int32) (q : Int32 × AH) (hf : f_X11_leave_L52 k12 h a0 a1 a2 a4 s0 = some q) : Go l X k_X11_leave 52 [(0, rf X a0), (1, .int a1), (2, .int a2), (4, .int a4)] [.int s0] h (rI q) := by
  unfold f_X11_leave_L52 at hf
  refine g_istore_n (pc := 52) (L' := [(3, .int s0), (0, rf X a0), (1, .int a1), (2, .int a2), (4, .int a4)]) dX11_leave_52 rfl (by decide) rfl rfl ?_
  obtain ⟨x1, ex1, hf⟩ := lt_some hf
  refine g_iinc (pc := 53) (y := x1) (L' := [(4, .int x1), (3, .int s0), (0, rf X a0), (1, .int a1), (2, .int a2)]) 4 dX11_leave_53 rfl (by decide) (ex1.trans rfl) rfl ?_
  refine g_goto (pc := 56) (tgt := 12) dX11_leave_56 (by decide) ?_
  refine g_sub [2, 3, 4, 1, 0] rfl ?_
  exact hk12 h a0 a1 a2 s0 x1 q hf
set_option maxRecDepth 100000 in
set_option maxHeartbeats 4000000 in
theorem ok_X11_leave_L12 (l : Launch) (X : Cx) : ∀ (n : Nat) (h : AH) (a0 : Nat) (a1 : Int32) (a2 : Int32) (a3 : Int32) (a4 : Int32) (q : Int32 × AH), f_X11_leave_L12 n h a0 a1 a2 a3 a4 = some q → Go l X k_X11_leave 12 [(0, rf X a0), (1, .int a1), (2, .int a2), (3, .int a3), (4, .int a4)] [] h (rI q) := by
  intro n
  induction n with
  | zero =>
    intro h a0 a1 a2 a3 a4 q hf
    unfold f_X11_leave_L12 at hf
    cases hf
  | succ n ih =>
    intro h a0 a1 a2 a3 a4 q hf
    unfold f_X11_leave_L12 at hf
    refine g_iload (pc := 12) 4 dX11_leave_12 rfl ?_
    refine g_aload_n (pc := 14) 0 dX11_leave_14 rfl rfl ?_
    refine g_iload_n (pc := 15) 1 dX11_leave_15 rfl rfl ?_
    refine g_iload_n (pc := 16) 2 dX11_leave_16 rfl rfl ?_
    obtain ⟨g1, hf⟩ := gs_some hf
    obtain ⟨v2, hcv2, hf⟩ := bd_some hf
    refine g_cVI (pc := 17) (k2 := k_X11_setOf) (av := [.int a1, .int a2]) (q := (v2, h)) rfl dX11_leave_17 ck_X11_setOf m_1811 m_1813 m_82 (ci := 9) rfl (by decide) g1 (by decide) (by decide) rfl (by simp [rf_cat, rq_cat, ca_i, ca_l, ca_r]) (ct_X11_setOf l X hcv2) ?_
    refine g_aload_n (pc := 20) 0 dX11_leave_20 rfl rfl ?_
    refine g_getR (pc := 21) fl_X11_47 dX11_leave_21 g1 ?_
    refine g_iconst (pc := 24) (v := (3 : Int32)) dX11_leave_24 (by decide) ?_
    obtain ⟨g3, hf⟩ := gs_some hf
    obtain ⟨b4, hf⟩ := gb_some hf
    refine g_iald (pc := 25) g3 b4 dX11_leave_25 ?_
    refine g_iadd (pc := 26) dX11_leave_26 ?_
    rcases it_some hf with ⟨c5, hf⟩ | ⟨c5, hf⟩
    · refine g_icge_t (pc := 27) (tgt := 59) dX11_leave_27 (by decide) c5 ?_
      refine g_aload_n (pc := 59) 0 dX11_leave_59 rfl rfl ?_
      refine g_getR (pc := 60) fl_X11_108 dX11_leave_60 g1 ?_
      refine g_iload_n (pc := 63) 3 dX11_leave_63 rfl rfl ?_
      obtain ⟨g6, hf⟩ := gs_some hf
      obtain ⟨b7, hf⟩ := gb_some hf
      refine g_iald (pc := 64) g6 b7 dX11_leave_64 ?_
      refine g_iconst (pc := 65) (v := (1 : Int32)) dX11_leave_65 (by decide) ?_
      rcases it_some hf with ⟨c8, hf⟩ | ⟨c8, hf⟩
      · refine g_icle_t (pc := 66) (tgt := 128) dX11_leave_66 (by decide) c8 ?_
        refine g_sub [0, 3] rfl ?_
        exact ok_X11_leave_L128 l X h a0 a3 q hf
      · refine g_icle_f (pc := 66) (tgt := 128) dX11_leave_66 (by decide) c8 ?_
        refine g_aload_n (pc := 69) 0 dX11_leave_69 rfl rfl ?_
        refine g_getR (pc := 70) fl_X11_89 dX11_leave_70 g1 ?_
        refine g_iload_n (pc := 73) 1 dX11_leave_73 rfl rfl ?_
        obtain ⟨g9, hf⟩ := gs_some hf
        obtain ⟨b10, hf⟩ := gb_some hf
        refine g_iald (pc := 74) g9 b10 dX11_leave_74 ?_
        refine g_iconst (pc := 75) (v := (-1 : Int32)) dX11_leave_75 (by decide) ?_
        rcases it_some hf with ⟨c11, hf⟩ | ⟨c11, hf⟩
        · refine g_iceq_t (pc := 76) (tgt := 81) dX11_leave_76 (by decide) c11 ?_
          refine g_aload_n (pc := 81) 0 dX11_leave_81 rfl rfl ?_
          refine g_getR (pc := 82) fl_X11_89 dX11_leave_82 g1 ?_
          refine g_iload_n (pc := 85) 1 dX11_leave_85 rfl rfl ?_
          refine g_aload_n (pc := 86) 0 dX11_leave_86 rfl rfl ?_
          refine g_getR (pc := 87) fl_X11_105 dX11_leave_87 g1 ?_
          refine g_iload_n (pc := 90) 3 dX11_leave_90 rfl rfl ?_
          obtain ⟨g12, hf⟩ := gs_some hf
          obtain ⟨b13, hf⟩ := gb_some hf
          refine g_iald (pc := 91) g12 b13 dX11_leave_91 ?_
          obtain ⟨b14, hf⟩ := gb_some hf
          obtain ⟨h15, eh15, hf⟩ := lt_some hf
          refine g_iast (pc := 92) g9 b14 dX11_leave_92 eh15 ?_
          refine g_aload_n (pc := 93) 0 dX11_leave_93 rfl rfl ?_
          have g16 : hS h15 a0 = 10 := (hS_tI eh15 g1)
          refine g_getR (pc := 94) fl_X11_92 dX11_leave_94 g16 ?_
          refine g_iload_n (pc := 97) 1 dX11_leave_97 rfl rfl ?_
          refine g_iconst (pc := 98) (v := (0 : Int32)) dX11_leave_98 (by decide) ?_
          obtain ⟨g17, hf⟩ := gs_some hf
          obtain ⟨b18, hf⟩ := gb_some hf
          obtain ⟨h19, eh19, hf⟩ := lt_some hf
          refine g_zast (pc := 99) g17 b18 dX11_leave_99 eh19 ?_
          refine g_aload_n (pc := 100) 0 dX11_leave_100 rfl rfl ?_
          refine g_iconst (pc := 101) (v := (2 : Int32)) dX11_leave_101 (by decide) ?_
          refine g_iload_n (pc := 102) 1 dX11_leave_102 rfl rfl ?_
          refine g_bipush (pc := 103) (v := (16 : Int32)) dX11_leave_103 (by decide) ?_
          refine g_aload_n (pc := 105) 0 dX11_leave_105 rfl rfl ?_
          have g20 : hS h19 a0 = 10 := (hS_tI eh19 g16)
          refine g_getR (pc := 106) fl_X11_105 dX11_leave_106 g20 ?_
          refine g_iload_n (pc := 109) 3 dX11_leave_109 rfl rfl ?_
          obtain ⟨g21, hf⟩ := gs_some hf
          obtain ⟨b22, hf⟩ := gb_some hf
          refine g_iald (pc := 110) g21 b22 dX11_leave_110 ?_
          obtain ⟨q23, hcq23, hf⟩ := bd_some hf
          refine g_cVV (pc := 111) (k2 := k_X11_blank) (av := [.int (2 : Int32), .int a1, .int (16 : Int32), .int (hI h19 (hR h19 a0 44) a3.toNatClampNeg)]) (q := q23) rfl dX11_leave_111 ck_X11_blank m_1827 m_1829 m_86 (ci := 9) rfl (by decide) g20 (by decide) (by decide) rfl (by simp [rf_cat, rq_cat, ca_i, ca_l, ca_r]) (ct_X11_blank l X hcq23) ?_
          refine g_aload_n (pc := 114) 0 dX11_leave_114 rfl rfl ?_
          refine g_aload_n (pc := 115) 0 dX11_leave_115 rfl rfl ?_
          obtain ⟨g24, hf⟩ := gs_some hf
          refine g_getR (pc := 116) fl_X11_105 dX11_leave_116 g24 ?_
          refine g_iload_n (pc := 119) 3 dX11_leave_119 rfl rfl ?_
          obtain ⟨g25, hf⟩ := gs_some hf
          obtain ⟨b26, hf⟩ := gb_some hf
          refine g_iald (pc := 120) g25 b26 dX11_leave_120 ?_
          obtain ⟨q27, hcq27, hf⟩ := bd_some hf
          refine g_cVV (pc := 121) (k2 := k_X11_withWords) (av := [.int (hI q23 (hR q23 a0 44) a3.toNatClampNeg)]) (q := q27) rfl dX11_leave_121 ck_X11_withWords m_1831 m_1833 m_87 (ci := 9) rfl (by decide) g24 (by decide) (by decide) rfl (by simp [rf_cat, rq_cat, ca_i, ca_l, ca_r]) (ct_X11_withWords l X hcq27) ?_
          refine g_aload_n (pc := 124) 0 dX11_leave_124 rfl rfl ?_
          obtain ⟨g28, hf⟩ := gs_some hf
          obtain ⟨q29, hcq29, hf⟩ := bd_some hf
          refine g_cVV (pc := 125) (k2 := k_X11_post) (av := []) (q := q29) rfl dX11_leave_125 ck_X11_post m_1835 m_1837 m_88 (ci := 9) rfl (by decide) g28 (by decide) (by decide) rfl (by simp [rf_cat, rq_cat, ca_i, ca_l, ca_r]) (ct_X11_post l X hcq29) ?_
          refine g_sub [0, 3] rfl ?_
          exact ok_X11_leave_L128 l X q29 a0 a3 q hf
        · refine g_iceq_f (pc := 76) (tgt := 81) dX11_leave_76 (by decide) c11 ?_
          refine g_iconst (pc := 79) (v := (0 : Int32)) dX11_leave_79 (by decide) ?_
          obtain rfl := Option.some.inj hf
          exact g_zret (pc := 80) rfl rfl dX11_leave_80
    · refine g_icge_f (pc := 27) (tgt := 59) dX11_leave_27 (by decide) c5 ?_
      refine g_aload_n (pc := 30) 0 dX11_leave_30 rfl rfl ?_
      refine g_getR (pc := 31) fl_X11_111 dX11_leave_31 g1 ?_
      refine g_iload (pc := 34) 4 dX11_leave_34 rfl ?_
      obtain ⟨g30, hf⟩ := gs_some hf
      obtain ⟨b31, hf⟩ := gb_some hf
      refine g_iald (pc := 36) g30 b31 dX11_leave_36 ?_
      refine g_aload_n (pc := 37) 0 dX11_leave_37 rfl rfl ?_
      refine g_getR (pc := 38) fl_X11_111 dX11_leave_38 g1 ?_
      refine g_iload_n (pc := 41) 3 dX11_leave_41 rfl rfl ?_
      obtain ⟨b32, hf⟩ := gb_some hf
      refine g_iald (pc := 42) g30 b32 dX11_leave_42 ?_
      rcases it_some hf with ⟨c33, hf⟩ | ⟨c33, hf⟩
      · refine g_icge_t (pc := 43) (tgt := 51) dX11_leave_43 (by decide) c33 ?_
        refine g_iload_n (pc := 51) 3 dX11_leave_51 rfl rfl ?_
        refine g_sub [0, 1, 2, 4] rfl ?_
        exact ok_X11_leave_L52 l X (f_X11_leave_L12 n) ih h a0 a1 a2 a4 a3 q hf
      · refine g_icge_f (pc := 43) (tgt := 51) dX11_leave_43 (by decide) c33 ?_
        refine g_iload (pc := 46) 4 dX11_leave_46 rfl ?_
        refine g_goto (pc := 48) (tgt := 52) dX11_leave_48 (by decide) ?_
        refine g_sub [0, 1, 2, 4] rfl ?_
        exact ok_X11_leave_L52 l X (f_X11_leave_L12 n) ih h a0 a1 a2 a4 a4 q hf
set_option maxRecDepth 100000 in
set_option maxHeartbeats 4000000 in
theorem ok_X11_leave (l : Launch) (X : Cx) {h : AH} {a0 : Nat} {a1 : Int32} {a2 : Int32} {q : Int32 × AH} (hf : f_X11_leave h a0 a1 a2 = some q) : Go l X k_X11_leave 0 [(0, rf X a0), (1, .int a1), (2, .int a2)] [] h (rI q) := by
  unfold f_X11_leave at hf
  refine g_aload_n (pc := 0) 0 dX11_leave_0 rfl rfl ?_
  refine g_iload_n (pc := 1) 1 dX11_leave_1 rfl rfl ?_
  refine g_iload_n (pc := 2) 2 dX11_leave_2 rfl rfl ?_
  obtain ⟨g1, hf⟩ := gs_some hf
  obtain ⟨v2, hcv2, hf⟩ := bd_some hf
  refine g_cVI (pc := 3) (k2 := k_X11_setOf) (av := [.int a1, .int a2]) (q := (v2, h)) rfl dX11_leave_3 ck_X11_setOf m_1811 m_1813 m_82 (ci := 9) rfl (by decide) g1 (by decide) (by decide) rfl (by simp [rf_cat, rq_cat, ca_i, ca_l, ca_r]) (ct_X11_setOf l X hcv2) ?_
  refine g_istore_n (pc := 6) (L' := [(3, .int v2), (0, rf X a0), (1, .int a1), (2, .int a2)]) dX11_leave_6 rfl (by decide) rfl rfl ?_
  refine g_iload_n (pc := 7) 0 dX11_leave_7 rfl rfl ?_
  refine g_iconst (pc := 8) (v := (1 : Int32)) dX11_leave_8 (by decide) ?_
  refine g_iadd (pc := 9) dX11_leave_9 ?_
  obtain ⟨x3, ex3, hf⟩ := lt_some hf
  refine g_istore (pc := 10) (L' := [(4, .int x3), (3, .int v2), (0, rf X a0), (1, .int a1), (2, .int a2)]) dX11_leave_10 (by decide) ex3 rfl ?_
  refine g_sub [2, 3, 4, 1, 0] rfl ?_
  exact ok_X11_leave_L12 l X FU h a0 a1 a2 v2 x3 q hf
theorem ct_X11_leave (l : Launch) (X : Cx) {h : AH} {a0 : Nat} {a1 : Int32} {a2 : Int32} {q : Int32 × AH} (hf : f_X11_leave h a0 a1 a2 = some q) : Ct l X k_X11_leave [rf X a0, .int a1, .int a2] h (rI q) := ct_of ck_X11_leave (by simp [lg_sl, rf_cat, rq_cat, ca_i, ca_l, ca_r]) (by simp [lv_args, rf_cat, rq_cat, ca_i, ca_l, ca_r]) (ok_X11_leave l X hf)
set_option maxRecDepth 100000 in
set_option maxHeartbeats 4000000 in
theorem ok_X11_miss_L62 (l : Launch) (X : Cx) (h : AH) (a0 : Nat) (a1 : Int32) (a2 : Int32) (s0 : Nat) (s1 : Int32) (q : AH) (hf : f_X11_miss_L62 h a0 a1 a2 s0 s1 = some q) : Go l X k_X11_miss 62 [(0, rf X a0), (1, .int a1), (2, .int a2)] [.int s1, rf X s0] h (rV q) := by
  unfold f_X11_miss_L62 at hf
  refine g_iload_n (pc := 62) 1 dX11_miss_62 rfl rfl ?_
  refine g_bipush (pc := 63) (v := (16 : Int32)) dX11_miss_63 (by decide) ?_
  refine g_iload_n (pc := 65) 2 dX11_miss_65 rfl rfl ?_
  obtain ⟨g1, hf⟩ := gs_some hf
  obtain ⟨q2, hcq2, hf⟩ := bd_some hf
  refine g_cVV (pc := 66) (k2 := k_X11_send) (av := [.int s1, .int a1, .int (16 : Int32), .int a2]) (q := q2) rfl dX11_miss_66 ck_X11_send m_1839 m_1841 m_89 (ci := 9) rfl (by decide) g1 (by decide) (by decide) rfl (by simp [rf_cat, rq_cat, ca_i, ca_l, ca_r]) (ct_X11_send l X hcq2) ?_
  refine g_aload_n (pc := 69) 0 dX11_miss_69 rfl rfl ?_
  obtain ⟨g3, hf⟩ := gs_some hf
  refine g_getR (pc := 70) fl_X11_86 dX11_miss_70 g3 ?_
  refine g_iload_n (pc := 73) 1 dX11_miss_73 rfl rfl ?_
  refine g_iload_n (pc := 74) 2 dX11_miss_74 rfl rfl ?_
  obtain ⟨g4, hf⟩ := gs_some hf
  obtain ⟨b5, hf⟩ := gb_some hf
  obtain ⟨h6, eh6, hf⟩ := lt_some hf
  refine g_iast (pc := 75) g4 b5 dX11_miss_75 eh6 ?_
  refine g_aload_n (pc := 76) 0 dX11_miss_76 rfl rfl ?_
  have g7 : hS h6 a0 = 10 := (hS_tI eh6 g3)
  refine g_getR (pc := 77) fl_X11_71 dX11_miss_77 g7 ?_
  refine g_iload_n (pc := 80) 1 dX11_miss_80 rfl rfl ?_
  refine g_dup2 (pc := 81) dX11_miss_81 rfl (rf_cat X _) ?_
  obtain ⟨g8, hf⟩ := gs_some hf
  obtain ⟨b9, hf⟩ := gb_some hf
  refine g_iald (pc := 82) g8 b9 dX11_miss_82 ?_
  refine g_iconst (pc := 83) (v := (1 : Int32)) dX11_miss_83 (by decide) ?_
  refine g_iadd (pc := 84) dX11_miss_84 ?_
  obtain ⟨b10, hf⟩ := gb_some hf
  obtain ⟨h11, eh11, hf⟩ := lt_some hf
  refine g_iast (pc := 85) g8 b10 dX11_miss_85 eh11 ?_
  obtain rfl := Option.some.inj hf
  exact g_vret (pc := 86) rfl dX11_miss_86
set_option maxRecDepth 100000 in
set_option maxHeartbeats 4000000 in
theorem ok_X11_miss_L51 (l : Launch) (X : Cx) (h : AH) (a0 : Nat) (a1 : Int32) (a2 : Int32) (a3 : Int32) (q : AH) (hf : f_X11_miss_L51 h a0 a1 a2 a3 = some q) : Go l X k_X11_miss 51 [(0, rf X a0), (1, .int a1), (2, .int a2), (3, .int a3)] [] h (rV q) := by
  unfold f_X11_miss_L51 at hf
  refine g_aload_n (pc := 51) 0 dX11_miss_51 rfl rfl ?_
  refine g_iload_n (pc := 52) 3 dX11_miss_52 rfl rfl ?_
  refine g_iconst (pc := 53) (v := (1 : Int32)) dX11_miss_53 (by decide) ?_
  rcases it_some hf with ⟨c1, hf⟩ | ⟨c1, hf⟩
  · refine g_icne_t (pc := 54) (tgt := 61) dX11_miss_54 (by decide) c1 ?_
    refine g_iconst (pc := 61) (v := (1 : Int32)) dX11_miss_61 (by decide) ?_
    refine g_sub [0, 1, 2] rfl ?_
    exact ok_X11_miss_L62 l X h a0 a1 a2 a0 (1 : Int32) q hf
  · refine g_icne_f (pc := 54) (tgt := 61) dX11_miss_54 (by decide) (Decidable.of_not_not c1) ?_
    refine g_iconst (pc := 57) (v := (0 : Int32)) dX11_miss_57 (by decide) ?_
    refine g_goto (pc := 58) (tgt := 62) dX11_miss_58 (by decide) ?_
    refine g_sub [0, 1, 2] rfl ?_
    exact ok_X11_miss_L62 l X h a0 a1 a2 a0 (0 : Int32) q hf
set_option maxRecDepth 100000 in
set_option maxHeartbeats 4000000 in
theorem ok_X11_miss (l : Launch) (X : Cx) {h : AH} {a0 : Nat} {a1 : Int32} {a2 : Int32} {a3 : Int32} {q : AH} (hf : f_X11_miss h a0 a1 a2 a3 = some q) : Go l X k_X11_miss 0 [(0, rf X a0), (1, .int a1), (2, .int a2), (3, .int a3)] [] h (rV q) := by
  unfold f_X11_miss at hf
  refine g_aload_n (pc := 0) 0 dX11_miss_0 rfl rfl ?_
  obtain ⟨g1, hf⟩ := gs_some hf
  refine g_getR (pc := 1) fl_X11_86 dX11_miss_1 g1 ?_
  refine g_iload_n (pc := 4) 1 dX11_miss_4 rfl rfl ?_
  obtain ⟨g2, hf⟩ := gs_some hf
  obtain ⟨b3, hf⟩ := gb_some hf
  refine g_iald (pc := 5) g2 b3 dX11_miss_5 ?_
  refine g_iconst (pc := 6) (v := (-1 : Int32)) dX11_miss_6 (by decide) ?_
  rcases it_some hf with ⟨c4, hf⟩ | ⟨c4, hf⟩
  · refine g_icne_t (pc := 7) (tgt := 20) dX11_miss_7 (by decide) c4 ?_
    obtain rfl := Option.some.inj hf
    exact g_vret (pc := 20) rfl dX11_miss_20
  · refine g_icne_f (pc := 7) (tgt := 20) dX11_miss_7 (by decide) (Decidable.of_not_not c4) ?_
    refine g_aload_n (pc := 10) 0 dX11_miss_10 rfl rfl ?_
    refine g_getR (pc := 11) fl_X11_89 dX11_miss_11 g1 ?_
    refine g_iload_n (pc := 14) 1 dX11_miss_14 rfl rfl ?_
    obtain ⟨g5, hf⟩ := gs_some hf
    obtain ⟨b6, hf⟩ := gb_some hf
    refine g_iald (pc := 15) g5 b6 dX11_miss_15 ?_
    refine g_iload_n (pc := 16) 2 dX11_miss_16 rfl rfl ?_
    rcases it_some hf with ⟨c7, hf⟩ | ⟨c7, hf⟩
    · refine g_icne_t (pc := 17) (tgt := 21) dX11_miss_17 (by decide) c7 ?_
      refine g_aload_n (pc := 21) 0 dX11_miss_21 rfl rfl ?_
      refine g_iload_n (pc := 22) 1 dX11_miss_22 rfl rfl ?_
      refine g_iload_n (pc := 23) 2 dX11_miss_23 rfl rfl ?_
      obtain ⟨v8, hcv8, hf⟩ := bd_some hf
      refine g_cVI (pc := 24) (k2 := k_X11_wayOf) (av := [.int a1, .int a2]) (q := (v8, h)) rfl dX11_miss_24 ck_X11_wayOf m_1807 m_1809 m_81 (ci := 9) rfl (by decide) g1 (by decide) (by decide) rfl (by simp [rf_cat, rq_cat, ca_i, ca_l, ca_r]) (ct_X11_wayOf l X hcv8) ?_
      refine g_iconst (pc := 27) (v := (-1 : Int32)) dX11_miss_27 (by decide) ?_
      rcases it_some hf with ⟨c9, hf⟩ | ⟨c9, hf⟩
      · refine g_icne_t (pc := 28) (tgt := 51) dX11_miss_28 (by decide) c9 ?_
        exact ok_X11_miss_L51 l X h a0 a1 a2 a3 q hf
      · refine g_icne_f (pc := 28) (tgt := 51) dX11_miss_28 (by decide) (Decidable.of_not_not c9) ?_
        refine g_aload_n (pc := 31) 0 dX11_miss_31 rfl rfl ?_
        refine g_iload_n (pc := 32) 1 dX11_miss_32 rfl rfl ?_
        refine g_iload_n (pc := 33) 2 dX11_miss_33 rfl rfl ?_
        obtain ⟨v10, hcv10, hf⟩ := bd_some hf
        refine g_cVI (pc := 34) (k2 := k_X11_freeWay) (av := [.int a1, .int a2]) (q := (v10, h)) rfl dX11_miss_34 ck_X11_freeWay m_1819 m_1821 m_84 (ci := 9) rfl (by decide) g1 (by decide) (by decide) rfl (by simp [rf_cat, rq_cat, ca_i, ca_l, ca_r]) (ct_X11_freeWay l X hcv10) ?_
        refine g_iconst (pc := 37) (v := (-1 : Int32)) dX11_miss_37 (by decide) ?_
        rcases it_some hf with ⟨c11, hf⟩ | ⟨c11, hf⟩
        · refine g_icne_t (pc := 38) (tgt := 51) dX11_miss_38 (by decide) c11 ?_
          exact ok_X11_miss_L51 l X h a0 a1 a2 a3 q hf
        · refine g_icne_f (pc := 38) (tgt := 51) dX11_miss_38 (by decide) (Decidable.of_not_not c11) ?_
          refine g_aload_n (pc := 41) 0 dX11_miss_41 rfl rfl ?_
          refine g_iload_n (pc := 42) 1 dX11_miss_42 rfl rfl ?_
          refine g_iload_n (pc := 43) 2 dX11_miss_43 rfl rfl ?_
          obtain ⟨q12, hcq12, hf⟩ := bd_some hf
          refine g_cVI (pc := 44) (k2 := k_X11_leave) (av := [.int a1, .int a2]) (q := q12) rfl dX11_miss_44 ck_X11_leave m_1823 m_1825 m_85 (ci := 9) rfl (by decide) g1 (by decide) (by decide) rfl (by simp [rf_cat, rq_cat, ca_i, ca_l, ca_r]) (ct_X11_leave l X hcq12) ?_
          rcases it_some hf with ⟨c13, hf⟩ | ⟨c13, hf⟩
          · refine g_ifne_t (pc := 47) (tgt := 51) dX11_miss_47 (by decide) c13 ?_
            exact ok_X11_miss_L51 l X q12.2 a0 a1 a2 a3 q hf
          · refine g_ifne_f (pc := 47) (tgt := 51) dX11_miss_47 (by decide) (Decidable.of_not_not c13) ?_
            obtain rfl := Option.some.inj hf
            exact g_vret (pc := 50) rfl dX11_miss_50
    · refine g_icne_f (pc := 17) (tgt := 21) dX11_miss_17 (by decide) (Decidable.of_not_not c7) ?_
      obtain rfl := Option.some.inj hf
      exact g_vret (pc := 20) rfl dX11_miss_20
theorem ct_X11_miss (l : Launch) (X : Cx) {h : AH} {a0 : Nat} {a1 : Int32} {a2 : Int32} {a3 : Int32} {q : AH} (hf : f_X11_miss h a0 a1 a2 a3 = some q) : Ct l X k_X11_miss [rf X a0, .int a1, .int a2, .int a3] h (rV q) := ct_of ck_X11_miss (by simp [lg_sl, rf_cat, rq_cat, ca_i, ca_l, ca_r]) (by simp [lv_args, rf_cat, rq_cat, ca_i, ca_l, ca_r]) (ok_X11_miss l X hf)
set_option maxRecDepth 100000 in
set_option maxHeartbeats 4000000 in
theorem ok_X11_maskOf_L31 (l : Launch) (X : Cx) (h : AH) (k4 : Int32 → Int32 → Int32 → Option (Int32)) (hk4 : ∀ (a0 : Int32) (a1 : Int32) (a2 : Int32) (q : Int32), k4 a0 a1 a2 = some q → Go l X k_X11_maskOf 4 [(0, .int a0), (1, .int a1), (2, .int a2)] [] h (rI (q, h))) (a0 : Int32) (a2 : Int32) (s0 : Int32) (s1 : Int32) (q : Int32) (hf : f_X11_maskOf_L31 h k4 a0 a2 s0 s1 = some q) : Go l X k_X11_maskOf 31 [(0, .int a0), (2, .int a2)] [.int s1, .int s0] h (rI (q, h)) := by
  unfold f_X11_maskOf_L31 at hf
  refine g_ior (pc := 31) dX11_maskOf_31 ?_
  obtain ⟨x1, ex1, hf⟩ := lt_some hf
  refine g_istore_n (pc := 32) (L' := [(1, .int x1), (0, .int a0), (2, .int a2)]) dX11_maskOf_32 rfl (by decide) ex1 rfl ?_
  obtain ⟨x2, ex2, hf⟩ := lt_some hf
  refine g_iinc (pc := 33) (y := x2) (L' := [(2, .int x2), (1, .int x1), (0, .int a0)]) 2 dX11_maskOf_33 rfl (by decide) (ex2.trans rfl) rfl ?_
  refine g_goto (pc := 36) (tgt := 4) dX11_maskOf_36 (by decide) ?_
  refine g_sub [2, 1, 0] rfl ?_
  exact hk4 a0 x1 x2 q hf
set_option maxRecDepth 100000 in
set_option maxHeartbeats 4000000 in
theorem ok_X11_maskOf_L4 (l : Launch) (X : Cx) (h : AH) : ∀ (n : Nat) (a0 : Int32) (a1 : Int32) (a2 : Int32) (q : Int32), f_X11_maskOf_L4 h n a0 a1 a2 = some q → Go l X k_X11_maskOf 4 [(0, .int a0), (1, .int a1), (2, .int a2)] [] h (rI (q, h)) := by
  intro n
  induction n with
  | zero =>
    intro a0 a1 a2 q hf
    unfold f_X11_maskOf_L4 at hf
    cases hf
  | succ n ih =>
    intro a0 a1 a2 q hf
    unfold f_X11_maskOf_L4 at hf
    refine g_iload_n (pc := 4) 2 dX11_maskOf_4 rfl rfl ?_
    refine g_iconst (pc := 5) (v := (4 : Int32)) dX11_maskOf_5 (by decide) ?_
    rcases it_some hf with ⟨c1, hf⟩ | ⟨c1, hf⟩
    · refine g_icge_t (pc := 6) (tgt := 39) dX11_maskOf_6 (by decide) c1 ?_
      refine g_iload_n (pc := 39) 1 dX11_maskOf_39 rfl rfl ?_
      obtain rfl := Option.some.inj hf
      exact g_iret (pc := 40) rfl dX11_maskOf_40
    · refine g_icge_f (pc := 6) (tgt := 39) dX11_maskOf_6 (by decide) c1 ?_
      refine g_iload_n (pc := 9) 1 dX11_maskOf_9 rfl rfl ?_
      refine g_iload_n (pc := 10) 0 dX11_maskOf_10 rfl rfl ?_
      refine g_iload_n (pc := 11) 2 dX11_maskOf_11 rfl rfl ?_
      refine g_ishr (pc := 12) dX11_maskOf_12 ?_
      refine g_iconst (pc := 13) (v := (1 : Int32)) dX11_maskOf_13 (by decide) ?_
      refine g_iand (pc := 14) dX11_maskOf_14 ?_
      refine g_iconst (pc := 15) (v := (1 : Int32)) dX11_maskOf_15 (by decide) ?_
      rcases it_some hf with ⟨c2, hf⟩ | ⟨c2, hf⟩
      · refine g_icne_t (pc := 16) (tgt := 30) dX11_maskOf_16 (by decide) c2 ?_
        refine g_iconst (pc := 30) (v := (0 : Int32)) dX11_maskOf_30 (by decide) ?_
        refine g_sub [0, 2] rfl ?_
        exact ok_X11_maskOf_L31 l X h (f_X11_maskOf_L4 h n) ih a0 a2 a1 (0 : Int32) q hf
      · refine g_icne_f (pc := 16) (tgt := 30) dX11_maskOf_16 (by decide) (Decidable.of_not_not c2) ?_
        refine g_sipush (pc := 19) (v := (255 : Int32)) dX11_maskOf_19 (by decide) ?_
        refine g_bipush (pc := 22) (v := (8 : Int32)) dX11_maskOf_22 (by decide) ?_
        refine g_iload_n (pc := 24) 2 dX11_maskOf_24 rfl rfl ?_
        refine g_imul (pc := 25) dX11_maskOf_25 ?_
        refine g_ishl (pc := 26) dX11_maskOf_26 ?_
        refine g_goto (pc := 27) (tgt := 31) dX11_maskOf_27 (by decide) ?_
        refine g_sub [0, 2] rfl ?_
        exact ok_X11_maskOf_L31 l X h (f_X11_maskOf_L4 h n) ih a0 a2 a1 ((255 : Int32) <<< (((8 : Int32) * a2) &&& 31)) q hf
set_option maxRecDepth 100000 in
set_option maxHeartbeats 4000000 in
theorem ok_X11_maskOf (l : Launch) (X : Cx) {h : AH} {a0 : Int32} {q : Int32} (hf : f_X11_maskOf h a0 = some q) : Go l X k_X11_maskOf 0 [(0, .int a0)] [] h (rI (q, h)) := by
  unfold f_X11_maskOf at hf
  refine g_iconst (pc := 0) (v := (0 : Int32)) dX11_maskOf_0 (by decide) ?_
  obtain ⟨x1, ex1, hf⟩ := lt_some hf
  refine g_istore_n (pc := 1) (L' := [(1, .int x1), (0, .int a0)]) dX11_maskOf_1 rfl (by decide) ex1 rfl ?_
  refine g_iconst (pc := 2) (v := (0 : Int32)) dX11_maskOf_2 (by decide) ?_
  obtain ⟨x2, ex2, hf⟩ := lt_some hf
  refine g_istore_n (pc := 3) (L' := [(2, .int x2), (1, .int x1), (0, .int a0)]) dX11_maskOf_3 rfl (by decide) ex2 rfl ?_
  refine g_sub [2, 1, 0] rfl ?_
  exact ok_X11_maskOf_L4 l X h FU a0 x1 x2 q hf
theorem ct_X11_maskOf (l : Launch) (X : Cx) {h : AH} {a0 : Int32} {q : Int32} (hf : f_X11_maskOf h a0 = some q) : Ct l X k_X11_maskOf [.int a0] h (rI (q, h)) := ct_of ck_X11_maskOf (by simp [lg_sl, rf_cat, rq_cat, ca_i, ca_l, ca_r]) (by simp [lv_args, rf_cat, rq_cat, ca_i, ca_l, ca_r]) (ok_X11_maskOf l X hf)
set_option maxRecDepth 100000 in
set_option maxHeartbeats 4000000 in
theorem ok_X11_reads_L96 (l : Launch) (X : Cx) (k24 : AH → Nat → Int32 → Int32 → Int32 → Int32 → Option (Int32 × AH)) (hk24 : ∀ (h : AH) (a0 : Nat) (a1 : Int32) (a4 : Int32) (a5 : Int32) (a6 : Int32) (q : Int32 × AH), k24 h a0 a1 a4 a5 a6 = some q → Go l X k_X11_reads 24 [(0, rf X a0), (1, .int a1), (4, .int a4), (5, .int a5), (6, .int a6)] [] h (rI q)) (h : AH) (a0 : Nat) (a1 : Int32) (a4 : Int32) (a5 : Int32) (a6 : Int32) (q : Int32 × AH) (hf : f_X11_reads_L96 k24 h a0 a1 a4 a5 a6 = some q) : Go l X k_X11_reads 96 [(0, rf X a0), (1, .int a1), (4, .int a4), (5, .int a5), (6, .int a6)] [] h (rI q) := by
  unfold f_X11_reads_L96 at hf
  obtain ⟨x1, ex1, hf⟩ := lt_some hf
  refine g_iinc (pc := 96) (y := x1) (L' := [(6, .int x1), (0, rf X a0), (1, .int a1), (4, .int a4), (5, .int a5)]) 4 dX11_reads_96 rfl (by decide) (ex1.trans rfl) rfl ?_
  refine g_goto (pc := 99) (tgt := 24) dX11_reads_99 (by decide) ?_
  refine g_sub [1, 2, 3, 4, 0] rfl ?_
  exact hk24 h a0 a1 a4 a5 x1 q hf
set_option maxRecDepth 100000 in
set_option maxHeartbeats 4000000 in
theorem ok_X11_reads_L24 (l : Launch) (X : Cx) : ∀ (n : Nat) (h : AH) (a0 : Nat) (a1 : Int32) (a4 : Int32) (a5 : Int32) (a6 : Int32) (q : Int32 × AH), f_X11_reads_L24 n h a0 a1 a4 a5 a6 = some q → Go l X k_X11_reads 24 [(0, rf X a0), (1, .int a1), (4, .int a4), (5, .int a5), (6, .int a6)] [] h (rI q) := by
  intro n
  induction n with
  | zero =>
    intro h a0 a1 a4 a5 a6 q hf
    unfold f_X11_reads_L24 at hf
    cases hf
  | succ n ih =>
    intro h a0 a1 a4 a5 a6 q hf
    unfold f_X11_reads_L24 at hf
    refine g_iload (pc := 24) 4 dX11_reads_24 rfl ?_
    rcases it_some hf with ⟨c1, hf⟩ | ⟨c1, hf⟩
    · refine g_iflt_t (pc := 26) (tgt := 102) dX11_reads_26 (by decide) c1 ?_
      refine g_iload (pc := 102) 3 dX11_reads_102 rfl ?_
      rcases it_some hf with ⟨c2, hf⟩ | ⟨c2, hf⟩
      · refine g_ifne_t (pc := 104) (tgt := 109) dX11_reads_104 (by decide) c2 ?_
        refine g_aload_n (pc := 109) 0 dX11_reads_109 rfl rfl ?_
        refine g_iload_n (pc := 110) 1 dX11_reads_110 rfl rfl ?_
        refine g_iload (pc := 111) 2 dX11_reads_111 rfl ?_
        refine g_bipush (pc := 113) (v := (16 : Int32)) dX11_reads_113 (by decide) ?_
        refine g_idiv (pc := 115) (by decide) dX11_reads_115 ?_
        obtain ⟨g3, hf⟩ := gs_some hf
        obtain ⟨v4, hcv4, hf⟩ := bd_some hf
        refine g_cVI (pc := 116) (k2 := k_X11_wayOf) (av := [.int a1, .int (a4 / (16 : Int32))]) (q := (v4, h)) rfl dX11_reads_116 ck_X11_wayOf m_1807 m_1809 m_81 (ci := 9) rfl (by decide) g3 (by decide) (by decide) rfl (by simp [rf_cat, rq_cat, ca_i, ca_l, ca_r]) (ct_X11_wayOf l X hcv4) ?_
        refine g_istore (pc := 119) (L' := [(6, .int v4), (0, rf X a0), (1, .int a1), (4, .int a4), (5, .int a5)]) dX11_reads_119 (by decide) rfl rfl ?_
        refine g_iload (pc := 121) 0 dX11_reads_121 rfl ?_
        refine g_iconst (pc := 123) (v := (-1 : Int32)) dX11_reads_123 (by decide) ?_
        rcases it_some hf with ⟨c5, hf⟩ | ⟨c5, hf⟩
        · refine g_icne_t (pc := 124) (tgt := 140) dX11_reads_124 (by decide) c5 ?_
          refine g_aload_n (pc := 140) 1 dX11_reads_140 rfl rfl ?_
          refine g_iload (pc := 141) 0 dX11_reads_141 rfl ?_
          obtain ⟨q6, hcq6, hf⟩ := bd_some hf
          refine g_cVV (pc := 143) (k2 := k_X11_use) (av := [.int v4]) (q := q6) rfl dX11_reads_143 ck_X11_use m_1843 m_1845 m_90 (ci := 9) rfl (by decide) g3 (by decide) (by decide) rfl (by simp [rf_cat, rq_cat, ca_i, ca_l, ca_r]) (ct_X11_use l X hcq6) ?_
          refine g_aload_n (pc := 146) 1 dX11_reads_146 rfl rfl ?_
          refine g_dup (pc := 147) dX11_reads_147 (rf_cat X _) ?_
          obtain ⟨g7, hf⟩ := gs_some hf
          refine g_getI (pc := 148) fl_X11_554 dX11_reads_148 g7 ?_
          refine g_aload_n (pc := 151) 1 dX11_reads_151 rfl rfl ?_
          refine g_getR (pc := 152) fl_X11_53 dX11_reads_152 g7 ?_
          refine g_iload (pc := 155) 3 dX11_reads_155 rfl ?_
          refine g_iconst (pc := 157) (v := (4 : Int32)) dX11_reads_157 (by decide) ?_
          refine g_idiv (pc := 158) (by decide) dX11_reads_158 ?_
          obtain ⟨g8, hf⟩ := gs_some hf
          obtain ⟨b9, hf⟩ := gb_some hf
          refine g_iald (pc := 159) g8 b9 dX11_reads_159 ?_
          refine g_iload (pc := 160) 4 dX11_reads_160 rfl ?_
          obtain ⟨v10, hcv10, hf⟩ := bd_some hf
          refine g_cSI (pc := 162) (k2 := k_X11_maskOf) (av := [.int a5]) (q := (v10, q6)) rfl dX11_reads_162 ck_X11_maskOf m_1804 m_1805 (by decide) (by decide) rfl (by simp [rf_cat, rq_cat, ca_i, ca_l, ca_r]) (ct_X11_maskOf l X hcv10) ?_
          refine g_iand (pc := 165) dX11_reads_165 ?_
          refine g_ior (pc := 166) dX11_reads_166 ?_
          obtain ⟨h11, eh11, hf⟩ := lt_some hf
          refine g_putI (pc := 167) fl_X11_554 dX11_reads_167 g7 eh11 ?_
          refine g_iconst (pc := 170) (v := (1 : Int32)) dX11_reads_170 (by decide) ?_
          obtain rfl := Option.some.inj hf
          exact g_zret (pc := 171) rfl rfl dX11_reads_171
        · refine g_icne_f (pc := 124) (tgt := 140) dX11_reads_124 (by decide) (Decidable.of_not_not c5) ?_
          refine g_aload_n (pc := 127) 1 dX11_reads_127 rfl rfl ?_
          refine g_iload_n (pc := 128) 2 dX11_reads_128 rfl rfl ?_
          refine g_iload (pc := 129) 3 dX11_reads_129 rfl ?_
          refine g_bipush (pc := 131) (v := (16 : Int32)) dX11_reads_131 (by decide) ?_
          refine g_idiv (pc := 133) (by decide) dX11_reads_133 ?_
          refine g_iconst (pc := 134) (v := (1 : Int32)) dX11_reads_134 (by decide) ?_
          obtain ⟨q12, hcq12, hf⟩ := bd_some hf
          refine g_cVV (pc := 135) (k2 := k_X11_miss) (av := [.int a1, .int (a4 / (16 : Int32)), .int (1 : Int32)]) (q := q12) rfl dX11_reads_135 ck_X11_miss m_1815 m_1817 m_83 (ci := 9) rfl (by decide) g3 (by decide) (by decide) rfl (by simp [rf_cat, rq_cat, ca_i, ca_l, ca_r]) (ct_X11_miss l X hcq12) ?_
          refine g_iconst (pc := 138) (v := (0 : Int32)) dX11_reads_138 (by decide) ?_
          obtain rfl := Option.some.inj hf
          exact g_zret (pc := 139) rfl rfl dX11_reads_139
      · refine g_ifne_f (pc := 104) (tgt := 109) dX11_reads_104 (by decide) (Decidable.of_not_not c2) ?_
        refine g_iconst (pc := 107) (v := (1 : Int32)) dX11_reads_107 (by decide) ?_
        obtain rfl := Option.some.inj hf
        exact g_zret (pc := 108) rfl rfl dX11_reads_108
    · refine g_iflt_f (pc := 26) (tgt := 102) dX11_reads_26 (by decide) c1 ?_
      refine g_bipush (pc := 29) (v := (16 : Int32)) dX11_reads_29 (by decide) ?_
      refine g_iload_n (pc := 31) 1 dX11_reads_31 rfl rfl ?_
      refine g_imul (pc := 32) dX11_reads_32 ?_
      refine g_iload (pc := 33) 4 dX11_reads_33 rfl ?_
      refine g_iadd (pc := 35) dX11_reads_35 ?_
      obtain ⟨x13, ex13, hf⟩ := lt_some hf
      refine g_istore (pc := 36) (L' := [(7, .int x13), (0, rf X a0), (1, .int a1), (4, .int a4), (5, .int a5), (6, .int a6)]) dX11_reads_36 (by decide) ex13 rfl ?_
      refine g_aload_n (pc := 38) 1 dX11_reads_38 rfl rfl ?_
      obtain ⟨g14, hf⟩ := gs_some hf
      refine g_getR (pc := 39) fl_X11_77 dX11_reads_39 g14 ?_
      refine g_iload (pc := 42) 0 dX11_reads_42 rfl ?_
      obtain ⟨g15, hf⟩ := gs_some hf
      obtain ⟨b16, hf⟩ := gb_some hf
      refine g_iald (pc := 44) g15 b16 dX11_reads_44 ?_
      refine g_iload (pc := 45) 3 dX11_reads_45 rfl ?_
      rcases it_some hf with ⟨c17, hf⟩ | ⟨c17, hf⟩
      · refine g_iceq_t (pc := 47) (tgt := 53) dX11_reads_47 (by decide) c17 ?_
        refine g_iload (pc := 53) 4 dX11_reads_53 rfl ?_
        refine g_aload_n (pc := 55) 1 dX11_reads_55 rfl rfl ?_
        refine g_getR (pc := 56) fl_X11_80 dX11_reads_56 g14 ?_
        refine g_iload (pc := 59) 0 dX11_reads_59 rfl ?_
        obtain ⟨g18, hf⟩ := gs_some hf
        obtain ⟨b19, hf⟩ := gb_some hf
        refine g_iald (pc := 61) g18 b19 dX11_reads_61 ?_
        refine g_iand (pc := 62) dX11_reads_62 ?_
        obtain ⟨x20, ex20, hf⟩ := lt_some hf
        refine g_istore (pc := 63) (L' := [(8, .int x20), (7, .int x13), (0, rf X a0), (1, .int a1), (4, .int a4), (5, .int a5), (6, .int a6)]) dX11_reads_63 (by decide) ex20 rfl ?_
        refine g_aload_n (pc := 65) 2 dX11_reads_65 rfl rfl ?_
        refine g_dup (pc := 66) dX11_reads_66 (rf_cat X _) ?_
        refine g_getI (pc := 67) fl_X11_554 dX11_reads_67 g14 ?_
        refine g_aload_n (pc := 70) 2 dX11_reads_70 rfl rfl ?_
        refine g_getR (pc := 71) fl_X11_83 dX11_reads_71 g14 ?_
        refine g_iload (pc := 74) 1 dX11_reads_74 rfl ?_
        obtain ⟨g21, hf⟩ := gs_some hf
        obtain ⟨b22, hf⟩ := gb_some hf
        refine g_iald (pc := 76) g21 b22 dX11_reads_76 ?_
        refine g_iload (pc := 77) 0 dX11_reads_77 rfl ?_
        obtain ⟨v23, hcv23, hf⟩ := bd_some hf
        refine g_cSI (pc := 79) (k2 := k_X11_maskOf) (av := [.int x20]) (q := (v23, h)) rfl dX11_reads_79 ck_X11_maskOf m_1804 m_1805 (by decide) (by decide) rfl (by simp [rf_cat, rq_cat, ca_i, ca_l, ca_r]) (ct_X11_maskOf l X hcv23) ?_
        refine g_iand (pc := 82) dX11_reads_82 ?_
        refine g_ior (pc := 83) dX11_reads_83 ?_
        obtain ⟨h24, eh24, hf⟩ := lt_some hf
        refine g_putI (pc := 84) fl_X11_554 dX11_reads_84 g14 eh24 ?_
        refine g_iload (pc := 87) 5 dX11_reads_87 rfl ?_
        refine g_iload (pc := 89) 0 dX11_reads_89 rfl ?_
        refine g_iconst (pc := 91) (v := (-1 : Int32)) dX11_reads_91 (by decide) ?_
        refine g_ixor (pc := 92) dX11_reads_92 ?_
        refine g_iand (pc := 93) dX11_reads_93 ?_
        obtain ⟨x25, ex25, hf⟩ := lt_some hf
        refine g_istore (pc := 94) (L' := [(5, .int x25), (8, .int x20), (7, .int x13), (0, rf X a0), (1, .int a1), (4, .int a4), (6, .int a6)]) dX11_reads_94 (by decide) ex25 rfl ?_
        refine g_sub [3, 4, 5, 0, 6] rfl ?_
        exact ok_X11_reads_L96 l X (f_X11_reads_L24 n) ih h24 a0 a1 a4 x25 a6 q hf
      · refine g_iceq_f (pc := 47) (tgt := 53) dX11_reads_47 (by decide) c17 ?_
        refine g_goto (pc := 50) (tgt := 96) dX11_reads_50 (by decide) ?_
        refine g_sub [1, 2, 3, 4, 5] rfl ?_
        exact ok_X11_reads_L96 l X (f_X11_reads_L24 n) ih h a0 a1 a4 a5 a6 q hf
set_option maxRecDepth 100000 in
set_option maxHeartbeats 4000000 in
theorem ok_X11_reads (l : Launch) (X : Cx) {h : AH} {a0 : Nat} {a1 : Int32} {a2 : Int32} {a3 : Int32} {q : Int32 × AH} (hf : f_X11_reads h a0 a1 a2 a3 = some q) : Go l X k_X11_reads 0 [(0, rf X a0), (1, .int a1), (2, .int a2), (3, .int a3)] [] h (rI q) := by
  unfold f_X11_reads at hf
  refine g_iload_n (pc := 0) 2 dX11_reads_0 rfl rfl ?_
  refine g_bipush (pc := 1) (v := (-4 : Int32)) dX11_reads_1 (by decide) ?_
  refine g_iand (pc := 3) dX11_reads_3 ?_
  obtain ⟨x1, ex1, hf⟩ := lt_some hf
  refine g_istore (pc := 4) (L' := [(4, .int x1), (0, rf X a0), (1, .int a1), (2, .int a2), (3, .int a3)]) dX11_reads_4 (by decide) ex1 rfl ?_
  refine g_iload_n (pc := 6) 4 dX11_reads_6 rfl rfl ?_
  refine g_istore (pc := 7) (L' := [(5, .int a3), (4, .int x1), (0, rf X a0), (1, .int a1), (2, .int a2), (3, .int a3)]) dX11_reads_7 (by decide) rfl rfl ?_
  refine g_aload_n (pc := 9) 2 dX11_reads_9 rfl rfl ?_
  refine g_iconst (pc := 10) (v := (0 : Int32)) dX11_reads_10 (by decide) ?_
  obtain ⟨g2, hf⟩ := gs_some hf
  obtain ⟨h3, eh3, hf⟩ := lt_some hf
  refine g_putI (pc := 11) fl_X11_554 dX11_reads_11 g2 eh3 ?_
  refine g_aload_n (pc := 14) 2 dX11_reads_14 rfl rfl ?_
  have g4 : hS h3 a0 = 10 := (hS_tI eh3 g2)
  refine g_getR (pc := 15) fl_X11_74 dX11_reads_15 g4 ?_
  refine g_iload_n (pc := 18) 3 dX11_reads_18 rfl rfl ?_
  obtain ⟨g5, hf⟩ := gs_some hf
  obtain ⟨b6, hf⟩ := gb_some hf
  refine g_iald (pc := 19) g5 b6 dX11_reads_19 ?_
  refine g_iconst (pc := 20) (v := (1 : Int32)) dX11_reads_20 (by decide) ?_
  refine g_isub (pc := 21) dX11_reads_21 ?_
  obtain ⟨x7, ex7, hf⟩ := lt_some hf
  refine g_istore (pc := 22) (L' := [(6, .int x7), (5, .int a3), (4, .int x1), (0, rf X a0), (1, .int a1), (2, .int a2), (3, .int a3)]) dX11_reads_22 (by decide) ex7 rfl ?_
  refine g_sub [3, 4, 2, 1, 0] rfl ?_
  exact ok_X11_reads_L24 l X FU h3 a0 a1 x1 a3 x7 q hf
theorem ct_X11_reads (l : Launch) (X : Cx) {h : AH} {a0 : Nat} {a1 : Int32} {a2 : Int32} {a3 : Int32} {q : Int32 × AH} (hf : f_X11_reads h a0 a1 a2 a3 = some q) : Ct l X k_X11_reads [rf X a0, .int a1, .int a2, .int a3] h (rI q) := ct_of ck_X11_reads (by simp [lg_sl, rf_cat, rq_cat, ca_i, ca_l, ca_r]) (by simp [lv_args, rf_cat, rq_cat, ca_i, ca_l, ca_r]) (ok_X11_reads l X hf)
set_option maxRecDepth 100000 in
set_option maxHeartbeats 4000000 in
theorem ok_X11_changes_L25 (l : Launch) (X : Cx) (h : AH) (a0 : Nat) (a1 : Int32) (a2 : Int32) (q : Int32 × AH) (hf : f_X11_changes_L25 h a0 a1 a2 = some q) : Go l X k_X11_changes 25 [(0, rf X a0), (1, .int a1), (2, .int a2)] [] h (rI q) := by
  unfold f_X11_changes_L25 at hf
  refine g_aload_n (pc := 25) 0 dX11_changes_25 rfl rfl ?_
  refine g_iload_n (pc := 26) 1 dX11_changes_26 rfl rfl ?_
  refine g_iload_n (pc := 27) 2 dX11_changes_27 rfl rfl ?_
  refine g_bipush (pc := 28) (v := (16 : Int32)) dX11_changes_28 (by decide) ?_
  refine g_idiv (pc := 30) (by decide) dX11_changes_30 ?_
  refine g_iconst (pc := 31) (v := (3 : Int32)) dX11_changes_31 (by decide) ?_
  obtain ⟨g1, hf⟩ := gs_some hf
  obtain ⟨q2, hcq2, hf⟩ := bd_some hf
  refine g_cVV (pc := 32) (k2 := k_X11_miss) (av := [.int a1, .int (a2 / (16 : Int32)), .int (3 : Int32)]) (q := q2) rfl dX11_changes_32 ck_X11_miss m_1815 m_1817 m_83 (ci := 9) rfl (by decide) g1 (by decide) (by decide) rfl (by simp [rf_cat, rq_cat, ca_i, ca_l, ca_r]) (ct_X11_miss l X hcq2) ?_
  refine g_iconst (pc := 35) (v := (0 : Int32)) dX11_changes_35 (by decide) ?_
  obtain rfl := Option.some.inj hf
  exact g_zret (pc := 36) rfl rfl dX11_changes_36
set_option maxRecDepth 100000 in
set_option maxHeartbeats 4000000 in
theorem ok_X11_changes (l : Launch) (X : Cx) {h : AH} {a0 : Nat} {a1 : Int32} {a2 : Int32} {q : Int32 × AH} (hf : f_X11_changes h a0 a1 a2 = some q) : Go l X k_X11_changes 0 [(0, rf X a0), (1, .int a1), (2, .int a2)] [] h (rI q) := by
  unfold f_X11_changes at hf
  refine g_aload_n (pc := 0) 0 dX11_changes_0 rfl rfl ?_
  refine g_iload_n (pc := 1) 1 dX11_changes_1 rfl rfl ?_
  refine g_iload_n (pc := 2) 2 dX11_changes_2 rfl rfl ?_
  refine g_bipush (pc := 3) (v := (16 : Int32)) dX11_changes_3 (by decide) ?_
  refine g_idiv (pc := 5) (by decide) dX11_changes_5 ?_
  obtain ⟨g1, hf⟩ := gs_some hf
  obtain ⟨v2, hcv2, hf⟩ := bd_some hf
  refine g_cVI (pc := 6) (k2 := k_X11_wayOf) (av := [.int a1, .int (a2 / (16 : Int32))]) (q := (v2, h)) rfl dX11_changes_6 ck_X11_wayOf m_1807 m_1809 m_81 (ci := 9) rfl (by decide) g1 (by decide) (by decide) rfl (by simp [rf_cat, rq_cat, ca_i, ca_l, ca_r]) (ct_X11_wayOf l X hcv2) ?_
  refine g_istore_n (pc := 9) (L' := [(3, .int v2), (0, rf X a0), (1, .int a1), (2, .int a2)]) dX11_changes_9 rfl (by decide) rfl rfl ?_
  refine g_iload_n (pc := 10) 0 dX11_changes_10 rfl rfl ?_
  refine g_iconst (pc := 11) (v := (-1 : Int32)) dX11_changes_11 (by decide) ?_
  rcases it_some hf with ⟨c3, hf⟩ | ⟨c3, hf⟩
  · refine g_iceq_t (pc := 12) (tgt := 25) dX11_changes_12 (by decide) c3 ?_
    refine g_sub [1, 2, 3] rfl ?_
    exact ok_X11_changes_L25 l X h a0 a1 a2 q hf
  · refine g_iceq_f (pc := 12) (tgt := 25) dX11_changes_12 (by decide) c3 ?_
    refine g_aload_n (pc := 15) 1 dX11_changes_15 rfl rfl ?_
    refine g_getR (pc := 16) fl_X11_108 dX11_changes_16 g1 ?_
    refine g_iload_n (pc := 19) 0 dX11_changes_19 rfl rfl ?_
    obtain ⟨g4, hf⟩ := gs_some hf
    obtain ⟨b5, hf⟩ := gb_some hf
    refine g_iald (pc := 20) g4 b5 dX11_changes_20 ?_
    refine g_iconst (pc := 21) (v := (2 : Int32)) dX11_changes_21 (by decide) ?_
    rcases it_some hf with ⟨c6, hf⟩ | ⟨c6, hf⟩
    · refine g_icge_t (pc := 22) (tgt := 37) dX11_changes_22 (by decide) c6 ?_
      refine g_aload_n (pc := 37) 1 dX11_changes_37 rfl rfl ?_
      refine g_iload_n (pc := 38) 0 dX11_changes_38 rfl rfl ?_
      obtain ⟨q7, hcq7, hf⟩ := bd_some hf
      refine g_cVV (pc := 39) (k2 := k_X11_use) (av := [.int v2]) (q := q7) rfl dX11_changes_39 ck_X11_use m_1843 m_1845 m_90 (ci := 9) rfl (by decide) g1 (by decide) (by decide) rfl (by simp [rf_cat, rq_cat, ca_i, ca_l, ca_r]) (ct_X11_use l X hcq7) ?_
      refine g_aload_n (pc := 42) 1 dX11_changes_42 rfl rfl ?_
      obtain ⟨g8, hf⟩ := gs_some hf
      refine g_getR (pc := 43) fl_X11_108 dX11_changes_43 g8 ?_
      refine g_iload_n (pc := 46) 0 dX11_changes_46 rfl rfl ?_
      refine g_iconst (pc := 47) (v := (3 : Int32)) dX11_changes_47 (by decide) ?_
      obtain ⟨g9, hf⟩ := gs_some hf
      obtain ⟨b10, hf⟩ := gb_some hf
      obtain ⟨h11, eh11, hf⟩ := lt_some hf
      refine g_iast (pc := 48) g9 b10 dX11_changes_48 eh11 ?_
      refine g_aload_n (pc := 49) 1 dX11_changes_49 rfl rfl ?_
      refine g_dup (pc := 50) dX11_changes_50 (rf_cat X _) ?_
      have g12 : hS h11 a0 = 10 := (hS_tI eh11 g8)
      refine g_getI (pc := 51) fl_X11_325 dX11_changes_51 g12 ?_
      refine g_iconst (pc := 54) (v := (1 : Int32)) dX11_changes_54 (by decide) ?_
      refine g_iadd (pc := 55) dX11_changes_55 ?_
      obtain ⟨h13, eh13, hf⟩ := lt_some hf
      refine g_putI (pc := 56) fl_X11_325 dX11_changes_56 g12 eh13 ?_
      refine g_iconst (pc := 59) (v := (1 : Int32)) dX11_changes_59 (by decide) ?_
      obtain rfl := Option.some.inj hf
      exact g_zret (pc := 60) rfl rfl dX11_changes_60
    · refine g_icge_f (pc := 22) (tgt := 37) dX11_changes_22 (by decide) c6 ?_
      refine g_sub [1, 2, 3] rfl ?_
      exact ok_X11_changes_L25 l X h a0 a1 a2 q hf
theorem ct_X11_changes (l : Launch) (X : Cx) {h : AH} {a0 : Nat} {a1 : Int32} {a2 : Int32} {q : Int32 × AH} (hf : f_X11_changes h a0 a1 a2 = some q) : Ct l X k_X11_changes [rf X a0, .int a1, .int a2] h (rI q) := ct_of ck_X11_changes (by simp [lg_sl, rf_cat, rq_cat, ca_i, ca_l, ca_r]) (by simp [lv_args, rf_cat, rq_cat, ca_i, ca_l, ca_r]) (ok_X11_changes l X hf)
set_option maxRecDepth 100000 in
set_option maxHeartbeats 4000000 in
theorem ok_X11_reg (l : Launch) (X : Cx) {h : AH} {a0 : Nat} {a1 : Int32} {a2 : Int32} {q : Int32} (hf : f_X11_reg h a0 a1 a2 = some q) : Go l X k_X11_reg 0 [(0, rf X a0), (1, .int a1), (2, .int a2)] [] h (rI (q, h)) := by
  unfold f_X11_reg at hf
  refine g_aload_n (pc := 0) 0 dX11_reg_0 rfl rfl ?_
  obtain ⟨g1, hf⟩ := gs_some hf
  refine g_getR (pc := 1) fl_X11_59 dX11_reg_1 g1 ?_
  refine g_bipush (pc := 4) (v := (32 : Int32)) dX11_reg_4 (by decide) ?_
  refine g_iload_n (pc := 6) 1 dX11_reg_6 rfl rfl ?_
  refine g_imul (pc := 7) dX11_reg_7 ?_
  refine g_iload_n (pc := 8) 2 dX11_reg_8 rfl rfl ?_
  refine g_iadd (pc := 9) dX11_reg_9 ?_
  obtain ⟨g2, hf⟩ := gs_some hf
  obtain ⟨b3, hf⟩ := gb_some hf
  refine g_iald (pc := 10) g2 b3 dX11_reg_10 ?_
  obtain rfl := Option.some.inj hf
  exact g_iret (pc := 11) rfl dX11_reg_11
theorem ct_X11_reg (l : Launch) (X : Cx) {h : AH} {a0 : Nat} {a1 : Int32} {a2 : Int32} {q : Int32} (hf : f_X11_reg h a0 a1 a2 = some q) : Ct l X k_X11_reg [rf X a0, .int a1, .int a2] h (rI (q, h)) := ct_of ck_X11_reg (by simp [lg_sl, rf_cat, rq_cat, ca_i, ca_l, ca_r]) (by simp [lv_args, rf_cat, rq_cat, ca_i, ca_l, ca_r]) (ok_X11_reg l X hf)
set_option maxRecDepth 100000 in
set_option maxHeartbeats 4000000 in
theorem ok_X11_setReg (l : Launch) (X : Cx) {h : AH} {a0 : Nat} {a1 : Int32} {a2 : Int32} {a3 : Int32} {q : AH} (hf : f_X11_setReg h a0 a1 a2 a3 = some q) : Go l X k_X11_setReg 0 [(0, rf X a0), (1, .int a1), (2, .int a2), (3, .int a3)] [] h (rV q) := by
  unfold f_X11_setReg at hf
  refine g_iload_n (pc := 0) 2 dX11_setReg_0 rfl rfl ?_
  rcases it_some hf with ⟨c1, hf⟩ | ⟨c1, hf⟩
  · refine g_ifle_t (pc := 1) (tgt := 16) dX11_setReg_1 (by decide) c1 ?_
    obtain rfl := Option.some.inj hf
    exact g_vret (pc := 16) rfl dX11_setReg_16
  · refine g_ifle_f (pc := 1) (tgt := 16) dX11_setReg_1 (by decide) c1 ?_
    refine g_aload_n (pc := 4) 0 dX11_setReg_4 rfl rfl ?_
    obtain ⟨g2, hf⟩ := gs_some hf
    refine g_getR (pc := 5) fl_X11_59 dX11_setReg_5 g2 ?_
    refine g_bipush (pc := 8) (v := (32 : Int32)) dX11_setReg_8 (by decide) ?_
    refine g_iload_n (pc := 10) 1 dX11_setReg_10 rfl rfl ?_
    refine g_imul (pc := 11) dX11_setReg_11 ?_
    refine g_iload_n (pc := 12) 2 dX11_setReg_12 rfl rfl ?_
    refine g_iadd (pc := 13) dX11_setReg_13 ?_
    refine g_iload_n (pc := 14) 3 dX11_setReg_14 rfl rfl ?_
    obtain ⟨g3, hf⟩ := gs_some hf
    obtain ⟨b4, hf⟩ := gb_some hf
    obtain ⟨h5, eh5, hf⟩ := lt_some hf
    refine g_iast (pc := 15) g3 b4 dX11_setReg_15 eh5 ?_
    obtain rfl := Option.some.inj hf
    exact g_vret (pc := 16) rfl dX11_setReg_16
theorem ct_X11_setReg (l : Launch) (X : Cx) {h : AH} {a0 : Nat} {a1 : Int32} {a2 : Int32} {a3 : Int32} {q : AH} (hf : f_X11_setReg h a0 a1 a2 a3 = some q) : Ct l X k_X11_setReg [rf X a0, .int a1, .int a2, .int a3] h (rV q) := ct_of ck_X11_setReg (by simp [lg_sl, rf_cat, rq_cat, ca_i, ca_l, ca_r]) (by simp [lv_args, rf_cat, rq_cat, ca_i, ca_l, ca_r]) (ok_X11_setReg l X hf)
set_option maxRecDepth 100000 in
set_option maxHeartbeats 4000000 in
theorem ok_X11_retire_L95 (l : Launch) (X : Cx) (h : AH) (a0 : Nat) (a1 : Int32) (a2 : Int32) (a3 : Int32) (q : Int32 × AH) (hf : f_X11_retire_L95 h a0 a1 a2 a3 = some q) : Go l X k_X11_retire 95 [(0, rf X a0), (1, .int a1), (2, .int a2), (3, .int a3)] [] h (rI q) := by
  unfold f_X11_retire_L95 at hf
  refine g_aload_n (pc := 95) 0 dX11_retire_95 rfl rfl ?_
  obtain ⟨g1, hf⟩ := gs_some hf
  refine g_getR (pc := 96) fl_X11_102 dX11_retire_96 g1 ?_
  refine g_iload_n (pc := 99) 3 dX11_retire_99 rfl rfl ?_
  refine g_bipush (pc := 100) (v := (6 : Int32)) dX11_retire_100 (by decide) ?_
  refine g_iadd (pc := 102) dX11_retire_102 ?_
  refine g_aload_n (pc := 103) 0 dX11_retire_103 rfl rfl ?_
  refine g_getI (pc := 104) fl_X11_582 dX11_retire_104 g1 ?_
  obtain ⟨g2, hf⟩ := gs_some hf
  obtain ⟨b3, hf⟩ := gb_some hf
  obtain ⟨h4, eh4, hf⟩ := lt_some hf
  refine g_iast (pc := 107) g2 b3 dX11_retire_107 eh4 ?_
  refine g_aload_n (pc := 108) 0 dX11_retire_108 rfl rfl ?_
  have g5 : hS h4 a0 = 10 := (hS_tI eh4 g1)
  refine g_getR (pc := 109) fl_X11_62 dX11_retire_109 g5 ?_
  refine g_iload_n (pc := 112) 1 dX11_retire_112 rfl rfl ?_
  refine g_iload_n (pc := 113) 2 dX11_retire_113 rfl rfl ?_
  refine g_sipush (pc := 114) (v := (8191 : Int32)) dX11_retire_114 (by decide) ?_
  refine g_iand (pc := 117) dX11_retire_117 ?_
  obtain ⟨g6, hf⟩ := gs_some hf
  obtain ⟨b7, hf⟩ := gb_some hf
  obtain ⟨h8, eh8, hf⟩ := lt_some hf
  refine g_iast (pc := 118) g6 b7 dX11_retire_118 eh8 ?_
  refine g_aload_n (pc := 119) 0 dX11_retire_119 rfl rfl ?_
  have g9 : hS h8 a0 = 10 := (hS_tI eh8 g5)
  refine g_getR (pc := 120) fl_X11_68 dX11_retire_120 g9 ?_
  refine g_iload_n (pc := 123) 1 dX11_retire_123 rfl rfl ?_
  refine g_dup2 (pc := 124) dX11_retire_124 rfl (rf_cat X _) ?_
  obtain ⟨g10, hf⟩ := gs_some hf
  obtain ⟨b11, hf⟩ := gb_some hf
  refine g_iald (pc := 125) g10 b11 dX11_retire_125 ?_
  refine g_iconst (pc := 126) (v := (1 : Int32)) dX11_retire_126 (by decide) ?_
  refine g_iadd (pc := 127) dX11_retire_127 ?_
  obtain ⟨b12, hf⟩ := gb_some hf
  obtain ⟨h13, eh13, hf⟩ := lt_some hf
  refine g_iast (pc := 128) g10 b12 dX11_retire_128 eh13 ?_
  refine g_aload_n (pc := 129) 0 dX11_retire_129 rfl rfl ?_
  have g14 : hS h13 a0 = 10 := (hS_tI eh13 g9)
  refine g_getR (pc := 130) fl_X11_96 dX11_retire_130 g14 ?_
  refine g_iload_n (pc := 133) 1 dX11_retire_133 rfl rfl ?_
  refine g_iconst (pc := 134) (v := (0 : Int32)) dX11_retire_134 (by decide) ?_
  obtain ⟨g15, hf⟩ := gs_some hf
  obtain ⟨b16, hf⟩ := gb_some hf
  obtain ⟨h17, eh17, hf⟩ := lt_some hf
  refine g_iast (pc := 135) g15 b16 dX11_retire_135 eh17 ?_
  refine g_aload_n (pc := 136) 0 dX11_retire_136 rfl rfl ?_
  refine g_dup (pc := 137) dX11_retire_137 (rf_cat X _) ?_
  have g18 : hS h17 a0 = 10 := (hS_tI eh17 g14)
  refine g_getI (pc := 138) fl_X11_319 dX11_retire_138 g18 ?_
  refine g_iconst (pc := 141) (v := (1 : Int32)) dX11_retire_141 (by decide) ?_
  refine g_iadd (pc := 142) dX11_retire_142 ?_
  obtain ⟨h19, eh19, hf⟩ := lt_some hf
  refine g_putI (pc := 143) fl_X11_319 dX11_retire_143 g18 eh19 ?_
  refine g_iconst (pc := 146) (v := (1 : Int32)) dX11_retire_146 (by decide) ?_
  obtain rfl := Option.some.inj hf
  exact g_iret (pc := 147) rfl dX11_retire_147
set_option maxRecDepth 100000 in
set_option maxHeartbeats 4000000 in
theorem ok_X11_retire (l : Launch) (X : Cx) {h : AH} {a0 : Nat} {a1 : Int32} {a2 : Int32} {q : Int32 × AH} (hf : f_X11_retire h a0 a1 a2 = some q) : Go l X k_X11_retire 0 [(0, rf X a0), (1, .int a1), (2, .int a2)] [] h (rI q) := by
  unfold f_X11_retire at hf
  refine g_bipush (pc := 0) (v := (7 : Int32)) dX11_retire_0 (by decide) ?_
  refine g_bipush (pc := 2) (v := (32 : Int32)) dX11_retire_2 (by decide) ?_
  refine g_iload_n (pc := 4) 1 dX11_retire_4 rfl rfl ?_
  refine g_imul (pc := 5) dX11_retire_5 ?_
  refine g_aload_n (pc := 6) 0 dX11_retire_6 rfl rfl ?_
  obtain ⟨g1, hf⟩ := gs_some hf
  refine g_getR (pc := 7) fl_X11_68 dX11_retire_7 g1 ?_
  refine g_iload_n (pc := 10) 1 dX11_retire_10 rfl rfl ?_
  obtain ⟨g2, hf⟩ := gs_some hf
  obtain ⟨b3, hf⟩ := gb_some hf
  refine g_iald (pc := 11) g2 b3 dX11_retire_11 ?_
  refine g_bipush (pc := 12) (v := (32 : Int32)) dX11_retire_12 (by decide) ?_
  refine g_irem (pc := 14) (by decide) dX11_retire_14 ?_
  refine g_iadd (pc := 15) dX11_retire_15 ?_
  refine g_imul (pc := 16) dX11_retire_16 ?_
  obtain ⟨x4, ex4, hf⟩ := lt_some hf
  refine g_istore_n (pc := 17) (L' := [(3, .int x4), (0, rf X a0), (1, .int a1), (2, .int a2)]) dX11_retire_17 rfl (by decide) ex4 rfl ?_
  refine g_aload_n (pc := 18) 1 dX11_retire_18 rfl rfl ?_
  refine g_getR (pc := 19) fl_X11_102 dX11_retire_19 g1 ?_
  refine g_iload_n (pc := 22) 0 dX11_retire_22 rfl rfl ?_
  refine g_aload_n (pc := 23) 1 dX11_retire_23 rfl rfl ?_
  refine g_getR (pc := 24) fl_X11_62 dX11_retire_24 g1 ?_
  refine g_iload_n (pc := 27) 2 dX11_retire_27 rfl rfl ?_
  obtain ⟨g5, hf⟩ := gs_some hf
  obtain ⟨b6, hf⟩ := gb_some hf
  refine g_iald (pc := 28) g5 b6 dX11_retire_28 ?_
  obtain ⟨g7, hf⟩ := gs_some hf
  obtain ⟨b8, hf⟩ := gb_some hf
  obtain ⟨h9, eh9, hf⟩ := lt_some hf
  refine g_iast (pc := 29) g7 b8 dX11_retire_29 eh9 ?_
  refine g_aload_n (pc := 30) 1 dX11_retire_30 rfl rfl ?_
  have g10 : hS h9 a0 = 10 := (hS_tI eh9 g1)
  refine g_getR (pc := 31) fl_X11_102 dX11_retire_31 g10 ?_
  refine g_iload_n (pc := 34) 0 dX11_retire_34 rfl rfl ?_
  refine g_iconst (pc := 35) (v := (1 : Int32)) dX11_retire_35 (by decide) ?_
  refine g_iadd (pc := 36) dX11_retire_36 ?_
  refine g_aload_n (pc := 37) 1 dX11_retire_37 rfl rfl ?_
  refine g_getI (pc := 38) fl_X11_567 dX11_retire_38 g10 ?_
  obtain ⟨g11, hf⟩ := gs_some hf
  obtain ⟨b12, hf⟩ := gb_some hf
  obtain ⟨h13, eh13, hf⟩ := lt_some hf
  refine g_iast (pc := 41) g11 b12 dX11_retire_41 eh13 ?_
  refine g_aload_n (pc := 42) 1 dX11_retire_42 rfl rfl ?_
  have g14 : hS h13 a0 = 10 := (hS_tI eh13 g10)
  refine g_getR (pc := 43) fl_X11_102 dX11_retire_43 g14 ?_
  refine g_iload_n (pc := 46) 0 dX11_retire_46 rfl rfl ?_
  refine g_iconst (pc := 47) (v := (2 : Int32)) dX11_retire_47 (by decide) ?_
  refine g_iadd (pc := 48) dX11_retire_48 ?_
  refine g_aload_n (pc := 49) 1 dX11_retire_49 rfl rfl ?_
  refine g_getI (pc := 50) fl_X11_570 dX11_retire_50 g14 ?_
  obtain ⟨g15, hf⟩ := gs_some hf
  obtain ⟨b16, hf⟩ := gb_some hf
  obtain ⟨h17, eh17, hf⟩ := lt_some hf
  refine g_iast (pc := 53) g15 b16 dX11_retire_53 eh17 ?_
  refine g_aload_n (pc := 54) 1 dX11_retire_54 rfl rfl ?_
  have g18 : hS h17 a0 = 10 := (hS_tI eh17 g14)
  refine g_getR (pc := 55) fl_X11_102 dX11_retire_55 g18 ?_
  refine g_iload_n (pc := 58) 0 dX11_retire_58 rfl rfl ?_
  refine g_iconst (pc := 59) (v := (3 : Int32)) dX11_retire_59 (by decide) ?_
  refine g_iadd (pc := 60) dX11_retire_60 ?_
  refine g_aload_n (pc := 61) 1 dX11_retire_61 rfl rfl ?_
  refine g_iload_n (pc := 62) 2 dX11_retire_62 rfl rfl ?_
  refine g_aload_n (pc := 63) 1 dX11_retire_63 rfl rfl ?_
  refine g_getI (pc := 64) fl_X11_570 dX11_retire_64 g18 ?_
  obtain ⟨v19, hcv19, hf⟩ := bd_some hf
  refine g_cVI (pc := 67) (k2 := k_X11_reg) (av := [.int a1, .int (hI h17 a0 40)]) (q := (v19, h17)) rfl dX11_retire_67 ck_X11_reg m_1847 m_1849 m_91 (ci := 9) rfl (by decide) g18 (by decide) (by decide) rfl (by simp [rf_cat, rq_cat, ca_i, ca_l, ca_r]) (ct_X11_reg l X hcv19) ?_
  obtain ⟨g20, hf⟩ := gs_some hf
  obtain ⟨b21, hf⟩ := gb_some hf
  obtain ⟨h22, eh22, hf⟩ := lt_some hf
  refine g_iast (pc := 70) g20 b21 dX11_retire_70 eh22 ?_
  refine g_aload_n (pc := 71) 1 dX11_retire_71 rfl rfl ?_
  have g23 : hS h22 a0 = 10 := (hS_tI eh22 g18)
  refine g_getR (pc := 72) fl_X11_102 dX11_retire_72 g23 ?_
  refine g_iload_n (pc := 75) 0 dX11_retire_75 rfl rfl ?_
  refine g_iconst (pc := 76) (v := (4 : Int32)) dX11_retire_76 (by decide) ?_
  refine g_iadd (pc := 77) dX11_retire_77 ?_
  refine g_aload_n (pc := 78) 1 dX11_retire_78 rfl rfl ?_
  refine g_getI (pc := 79) fl_X11_576 dX11_retire_79 g23 ?_
  obtain ⟨g24, hf⟩ := gs_some hf
  obtain ⟨b25, hf⟩ := gb_some hf
  obtain ⟨h26, eh26, hf⟩ := lt_some hf
  refine g_iast (pc := 82) g24 b25 dX11_retire_82 eh26 ?_
  refine g_aload_n (pc := 83) 1 dX11_retire_83 rfl rfl ?_
  have g27 : hS h26 a0 = 10 := (hS_tI eh26 g23)
  refine g_getR (pc := 84) fl_X11_102 dX11_retire_84 g27 ?_
  refine g_iload_n (pc := 87) 0 dX11_retire_87 rfl rfl ?_
  refine g_iconst (pc := 88) (v := (5 : Int32)) dX11_retire_88 (by decide) ?_
  refine g_iadd (pc := 89) dX11_retire_89 ?_
  refine g_aload_n (pc := 90) 1 dX11_retire_90 rfl rfl ?_
  refine g_getI (pc := 91) fl_X11_579 dX11_retire_91 g27 ?_
  obtain ⟨g28, hf⟩ := gs_some hf
  obtain ⟨b29, hf⟩ := gb_some hf
  obtain ⟨h30, eh30, hf⟩ := lt_some hf
  refine g_iast (pc := 94) g28 b29 dX11_retire_94 eh30 ?_
  refine g_sub [1, 2, 3, 0] rfl ?_
  exact ok_X11_retire_L95 l X h30 a0 a1 a2 x4 q hf
theorem ct_X11_retire (l : Launch) (X : Cx) {h : AH} {a0 : Nat} {a1 : Int32} {a2 : Int32} {q : Int32 × AH} (hf : f_X11_retire h a0 a1 a2 = some q) : Ct l X k_X11_retire [rf X a0, .int a1, .int a2] h (rI q) := ct_of ck_X11_retire (by simp [lg_sl, rf_cat, rq_cat, ca_i, ca_l, ca_r]) (by simp [lv_args, rf_cat, rq_cat, ca_i, ca_l, ca_r]) (ok_X11_retire l X hf)
