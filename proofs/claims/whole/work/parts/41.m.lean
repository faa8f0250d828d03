def f_X11_lay_L92 (h : AH) (a0 : Nat) (s0 : Nat) (s1 : Int32) (s2 : Int32) : Option (AH) :=
  gs h s0 21 <|
  gb (ib s1 (hN h s0)) <|
  lt (sI h s0 s1.toNatClampNeg s2) fun h3 =>
  gs h3 a0 10 <|
  gs h3 (hR h3 a0 17) 22 <|
  gb (ib (hI h3 a0 13) (hN h3 (hR h3 a0 17))) <|
  lt (sL h3 (hR h3 a0 17) (hI h3 a0 13).toNatClampNeg (hL h3 a0 74)) fun h7 =>
  gs h7 (hR h7 a0 18) 21 <|
  gb (ib (hI h7 a0 13) (hN h7 (hR h7 a0 18))) <|
  lt (sI h7 (hR h7 a0 18) (hI h7 a0 13).toNatClampNeg (hI h7 a0 75)) fun h11 =>
  lt (sI h11 a0 13 ((hI h11 a0 13) + (1 : Int32))) fun h13 =>
  lt (sI h13 a0 20 ((hI h13 a0 20) + (4 : Int32))) fun h15 =>
  some h15
set_option maxRecDepth 100000 in
set_option maxHeartbeats 4000000 in
theorem ok_X11_lay_L92 (l : Launch) (X : Cx) (h : AH) (a0 : Nat) (s0 : Nat) (s1 : Int32) (s2 : Int32) (q : AH) (hf : f_X11_lay_L92 h a0 s0 s1 s2 = some q) : Go l X k_X11_lay 92 [(0, rf X a0)] [.int s2, .int s1, rf X s0] h (rV q) := by
  unfold f_X11_lay_L92 at hf
  obtain ⟨g1, hf⟩ := gs_some hf
  obtain ⟨b2, hf⟩ := gb_some hf
  obtain ⟨h3, eh3, hf⟩ := lt_some hf
  refine g_iast (pc := 92) g1 b2 dX11_lay_92 eh3 ?_
  refine g_aload_n (pc := 93) 0 dX11_lay_93 rfl rfl ?_
  obtain ⟨g4, hf⟩ := gs_some hf
  refine g_getR (pc := 94) fl_X11_38 dX11_lay_94 g4 ?_
  refine g_aload_n (pc := 97) 0 dX11_lay_97 rfl rfl ?_
  refine g_getI (pc := 98) fl_X11_506 dX11_lay_98 g4 ?_
  refine g_aload_n (pc := 101) 0 dX11_lay_101 rfl rfl ?_
  refine g_getL (pc := 102) fl_X11_417 dX11_lay_102 g4 ?_
  obtain ⟨g5, hf⟩ := gs_some hf
  obtain ⟨b6, hf⟩ := gb_some hf
  obtain ⟨h7, eh7, hf⟩ := lt_some hf
  refine g_last (pc := 105) g5 b6 dX11_lay_105 eh7 ?_
  refine g_aload_n (pc := 106) 0 dX11_lay_106 rfl rfl ?_
  have g8 : hS h7 a0 = 10 := (hS_tL eh7 g4)
  refine g_getR (pc := 107) fl_X11_41 dX11_lay_107 g8 ?_
  refine g_aload_n (pc := 110) 0 dX11_lay_110 rfl rfl ?_
  refine g_getI (pc := 111) fl_X11_506 dX11_lay_111 g8 ?_
  refine g_aload_n (pc := 114) 0 dX11_lay_114 rfl rfl ?_
  refine g_getI (pc := 115) fl_X11_421 dX11_lay_115 g8 ?_
  obtain ⟨g9, hf⟩ := gs_some hf
  obtain ⟨b10, hf⟩ := gb_some hf
  obtain ⟨h11, eh11, hf⟩ := lt_some hf
  refine g_iast (pc := 118) g9 b10 dX11_lay_118 eh11 ?_
  refine g_aload_n (pc := 119) 0 dX11_lay_119 rfl rfl ?_
  refine g_dup (pc := 120) dX11_lay_120 (rf_cat X _) ?_
  have g12 : hS h11 a0 = 10 := (hS_tI eh11 g8)
  refine g_getI (pc := 121) fl_X11_506 dX11_lay_121 g12 ?_
  refine g_iconst (pc := 124) (v := (1 : Int32)) dX11_lay_124 (by decide) ?_
  refine g_iadd (pc := 125) dX11_lay_125 ?_
  obtain ⟨h13, eh13, hf⟩ := lt_some hf
  refine g_putI (pc := 126) fl_X11_506 dX11_lay_126 g12 eh13 ?_
  refine g_aload_n (pc := 129) 0 dX11_lay_129 rfl rfl ?_
  refine g_dup (pc := 130) dX11_lay_130 (rf_cat X _) ?_
  have g14 : hS h13 a0 = 10 := (hS_tI eh13 g12)
  refine g_getI (pc := 131) fl_X11_488 dX11_lay_131 g14 ?_
  refine g_iconst (pc := 134) (v := (4 : Int32)) dX11_lay_134 (by decide) ?_
  refine g_iadd (pc := 135) dX11_lay_135 ?_
  obtain ⟨h15, eh15, hf⟩ := lt_some hf
  refine g_putI (pc := 136) fl_X11_488 dX11_lay_136 g14 eh15 ?_
  obtain rfl := Option.some.inj hf
  exact g_vret (pc := 139) rfl dX11_lay_139
def f_X11_lay_L70 (h : AH) (a0 : Nat) (a2 : Int32) (s0 : Nat) (s1 : Int32) (s2 : Int32) (s3 : Int32) : Option (AH) :=
  gs h s0 21 <|
  gb (ib s1 (hN h s0)) <|
  lt (sI h s0 s1.toNatClampNeg (s2 ||| s3)) fun h3 =>
  gs h3 a0 10 <|
  if (hI h3 a0 73) = 0 then
    f_X11_lay_L92 h3 a0 (hR h3 a0 16) (hI h3 a0 13) (-1 : Int32)
  else
    f_X11_lay_L92 h3 a0 (hR h3 a0 16) (hI h3 a0 13) a2
set_option maxRecDepth 100000 in
set_option maxHeartbeats 4000000 in
theorem ok_X11_lay_L70 (l : Launch) (X : Cx) (h : AH) (a0 : Nat) (a2 : Int32) (s0 : Nat) (s1 : Int32) (s2 : Int32) (s3 : Int32) (q : AH) (hf : f_X11_lay_L70 h a0 a2 s0 s1 s2 s3 = some q) : Go l X k_X11_lay 70 [(0, rf X a0), (2, .int a2)] [.int s3, .int s2, .int s1, rf X s0] h (rV q) := by
  unfold f_X11_lay_L70 at hf
  refine g_ior (pc := 70) dX11_lay_70 ?_
  obtain ⟨g1, hf⟩ := gs_some hf
  obtain ⟨b2, hf⟩ := gb_some hf
  obtain ⟨h3, eh3, hf⟩ := lt_some hf
  refine g_iast (pc := 71) g1 b2 dX11_lay_71 eh3 ?_
  refine g_aload_n (pc := 72) 0 dX11_lay_72 rfl rfl ?_
  obtain ⟨g4, hf⟩ := gs_some hf
  refine g_getR (pc := 73) fl_X11_35 dX11_lay_73 g4 ?_
  refine g_aload_n (pc := 76) 0 dX11_lay_76 rfl rfl ?_
  refine g_getI (pc := 77) fl_X11_506 dX11_lay_77 g4 ?_
  refine g_aload_n (pc := 80) 0 dX11_lay_80 rfl rfl ?_
  refine g_getI (pc := 81) fl_X11_413 dX11_lay_81 g4 ?_
  rcases it_some hf with ⟨c5, hf⟩ | ⟨c5, hf⟩
  · refine g_ifeq_t (pc := 84) (tgt := 91) dX11_lay_84 (by decide) c5 ?_
    refine g_iconst (pc := 91) (v := (-1 : Int32)) dX11_lay_91 (by decide) ?_
    refine g_sub [0] rfl ?_
    exact ok_X11_lay_L92 l X h3 a0 (hR h3 a0 16) (hI h3 a0 13) (-1 : Int32) q hf
  · refine g_ifeq_f (pc := 84) (tgt := 91) dX11_lay_84 (by decide) c5 ?_
    refine g_iload_n (pc := 87) 1 dX11_lay_87 rfl rfl ?_
    refine g_goto (pc := 88) (tgt := 92) dX11_lay_88 (by decide) ?_
    refine g_sub [0] rfl ?_
    exact ok_X11_lay_L92 l X h3 a0 (hR h3 a0 16) (hI h3 a0 13) a2 q hf
def f_X11_lay_L58 (h : AH) (a0 : Nat) (a2 : Int32) (s0 : Nat) (s1 : Int32) (s2 : Int32) : Option (AH) :=
  f_X11_lay_L70 h a0 a2 s0 s1 s2 (0 : Int32)
set_option maxRecDepth 100000 in
set_option maxHeartbeats 4000000 in
theorem ok_X11_lay_L58 (l : Launch) (X : Cx) (h : AH) (a0 : Nat) (a2 : Int32) (s0 : Nat) (s1 : Int32) (s2 : Int32) (q : AH) (hf : f_X11_lay_L58 h a0 a2 s0 s1 s2 = some q) : Go l X k_X11_lay 58 [(0, rf X a0), (2, .int a2)] [.int s2, .int s1, rf X s0] h (rV q) := by
  unfold f_X11_lay_L58 at hf
  refine g_iconst (pc := 58) (v := (0 : Int32)) dX11_lay_58 (by decide) ?_
  refine g_goto (pc := 59) (tgt := 70) dX11_lay_59 (by decide) ?_
  exact ok_X11_lay_L70 l X h a0 a2 s0 s1 s2 (0 : Int32) q hf
def f_X11_lay_L21 (h : AH) (a0 : Nat) (a2 : Int32) : Option (AH) :=
  gs h a0 10 <|
  gs h (hR h a0 14) 21 <|
  gb (ib (hI h a0 13) (hN h (hR h a0 14))) <|
  lt (sI h (hR h a0 14) (hI h a0 13).toNatClampNeg (hI h a0 20)) fun h4 =>
  if a2 = (-1 : Int32) then
    f_X11_lay_L58 h4 a0 a2 (hR h4 a0 15) (hI h4 a0 13) (hI h4 a0 71)
  else
    if (hI h4 a0 73) = 0 then
      bd (f_X11_put h4 a2 (hL h4 a0 72)) fun v8 =>
      f_X11_lay_L70 h4 a0 a2 (hR h4 a0 15) (hI h4 a0 13) (hI h4 a0 71) v8
    else
      f_X11_lay_L58 h4 a0 a2 (hR h4 a0 15) (hI h4 a0 13) (hI h4 a0 71)
set_option maxRecDepth 100000 in
set_option maxHeartbeats 4000000 in
theorem ok_X11_lay_L21 (l : Launch) (X : Cx) (h : AH) (a0 : Nat) (a2 : Int32) (q : AH) (hf : f_X11_lay_L21 h a0 a2 = some q) : Go l X k_X11_lay 21 [(0, rf X a0), (2, .int a2)] [] h (rV q) := by
  unfold f_X11_lay_L21 at hf
  refine g_aload_n (pc := 21) 0 dX11_lay_21 rfl rfl ?_
  obtain ⟨g1, hf⟩ := gs_some hf
  refine g_getR (pc := 22) fl_X11_29 dX11_lay_22 g1 ?_
  refine g_aload_n (pc := 25) 0 dX11_lay_25 rfl rfl ?_
  refine g_getI (pc := 26) fl_X11_506 dX11_lay_26 g1 ?_
  refine g_aload_n (pc := 29) 0 dX11_lay_29 rfl rfl ?_
  refine g_getI (pc := 30) fl_X11_488 dX11_lay_30 g1 ?_
  obtain ⟨g2, hf⟩ := gs_some hf
  obtain ⟨b3, hf⟩ := gb_some hf
  obtain ⟨h4, eh4, hf⟩ := lt_some hf
  refine g_iast (pc := 33) g2 b3 dX11_lay_33 eh4 ?_
  refine g_aload_n (pc := 34) 0 dX11_lay_34 rfl rfl ?_
  have g5 : hS h4 a0 = 10 := (hS_tI eh4 g1)
  refine g_getR (pc := 35) fl_X11_32 dX11_lay_35 g5 ?_
  refine g_aload_n (pc := 38) 0 dX11_lay_38 rfl rfl ?_
  refine g_getI (pc := 39) fl_X11_506 dX11_lay_39 g5 ?_
  refine g_aload_n (pc := 42) 0 dX11_lay_42 rfl rfl ?_
  refine g_getI (pc := 43) fl_X11_410 dX11_lay_43 g5 ?_
  refine g_iload_n (pc := 46) 1 dX11_lay_46 rfl rfl ?_
  refine g_iconst (pc := 47) (v := (-1 : Int32)) dX11_lay_47 (by decide) ?_
  rcases it_some hf with ⟨c6, hf⟩ | ⟨c6, hf⟩
  · refine g_iceq_t (pc := 48) (tgt := 58) dX11_lay_48 (by decide) c6 ?_
    exact ok_X11_lay_L58 l X h4 a0 a2 (hR h4 a0 15) (hI h4 a0 13) (hI h4 a0 71) q hf
  · refine g_iceq_f (pc := 48) (tgt := 58) dX11_lay_48 (by decide) c6 ?_
    refine g_aload_n (pc := 51) 0 dX11_lay_51 rfl rfl ?_
    refine g_getI (pc := 52) fl_X11_413 dX11_lay_52 g5 ?_
    rcases it_some hf with ⟨c7, hf⟩ | ⟨c7, hf⟩
    · refine g_ifeq_t (pc := 55) (tgt := 62) dX11_lay_55 (by decide) c7 ?_
      refine g_iload_n (pc := 62) 1 dX11_lay_62 rfl rfl ?_
      refine g_aload_n (pc := 63) 0 dX11_lay_63 rfl rfl ?_
      refine g_getL (pc := 64) fl_X11_424 dX11_lay_64 g5 ?_
      obtain ⟨v8, hcv8, hf⟩ := bd_some hf
      refine g_cSI (pc := 67) (k2 := k_X11_put) (av := [.int a2, .long (hL h4 a0 72)]) (q := (v8, h4)) rfl dX11_lay_67 ck_X11_put m_1773 m_1774 (by decide) (by decide) rfl (by simp [rf_cat, rq_cat, ca_i, ca_l, ca_r]) (ct_X11_put l X hcv8) ?_
      exact ok_X11_lay_L70 l X h4 a0 a2 (hR h4 a0 15) (hI h4 a0 13) (hI h4 a0 71) v8 q hf
    · refine g_ifeq_f (pc := 55) (tgt := 62) dX11_lay_55 (by decide) c7 ?_
      exact ok_X11_lay_L58 l X h4 a0 a2 (hR h4 a0 15) (hI h4 a0 13) (hI h4 a0 71) q hf
def f_X11_lay (h : AH) (a0 : Nat) (a1 : Int32) (a2 : Int32) : Option (AH) :=
  gs h a0 10 <|
  if (hI h a0 20) ≤ (8191 : Int32) then
    f_X11_lay_L21 h a0 a2
  else
    gs h (hR h a0 7) 21 <|
    gb (ib a1 (hN h (hR h a0 7))) <|
    bd (f_X11_note h a0 (3 : Int32) (hI h (hR h a0 7) a1.toNatClampNeg)) fun q5 =>
    f_X11_lay_L21 q5 a0 a2
set_option maxRecDepth 100000 in
set_option maxHeartbeats 4000000 in
theorem ok_X11_lay (l : Launch) (X : Cx) {h : AH} {a0 : Nat} {a1 : Int32} {a2 : Int32} {q : AH} (hf : f_X11_lay h a0 a1 a2 = some q) : Go l X k_X11_lay 0 [(0, rf X a0), (1, .int a1), (2, .int a2)] [] h (rV q) := by
  unfold f_X11_lay at hf
  refine g_aload_n (pc := 0) 0 dX11_lay_0 rfl rfl ?_
  obtain ⟨g1, hf⟩ := gs_some hf
  refine g_getI (pc := 1) fl_X11_488 dX11_lay_1 g1 ?_
  refine g_sipush (pc := 4) (v := (8191 : Int32)) dX11_lay_4 (by decide) ?_
  rcases it_some hf with ⟨c2, hf⟩ | ⟨c2, hf⟩
  · refine g_icle_t (pc := 7) (tgt := 21) dX11_lay_7 (by decide) c2 ?_
    refine g_sub [0, 2] rfl ?_
    exact ok_X11_lay_L21 l X h a0 a2 q hf
  · refine g_icle_f (pc := 7) (tgt := 21) dX11_lay_7 (by decide) c2 ?_
    refine g_aload_n (pc := 10) 0 dX11_lay_10 rfl rfl ?_
    refine g_iconst (pc := 11) (v := (3 : Int32)) dX11_lay_11 (by decide) ?_
    refine g_aload_n (pc := 12) 0 dX11_lay_12 rfl rfl ?_
    refine g_getR (pc := 13) fl_X11_16 dX11_lay_13 g1 ?_
    refine g_iload_n (pc := 16) 1 dX11_lay_16 rfl rfl ?_
    obtain ⟨g3, hf⟩ := gs_some hf
    obtain ⟨b4, hf⟩ := gb_some hf
    refine g_iald (pc := 17) g3 b4 dX11_lay_17 ?_
    obtain ⟨q5, hcq5, hf⟩ := bd_some hf
    refine g_cVV (pc := 18) (k2 := k_X11_note) (av := [.int (3 : Int32), .int (hI h (hR h a0 7) a1.toNatClampNeg)]) (q := q5) rfl dX11_lay_18 ck_X11_note m_1692 m_1694 m_63 (ci := 9) rfl (by decide) g1 (by decide) (by decide) rfl (by simp [rf_cat, rq_cat, ca_i, ca_l, ca_r]) (ct_X11_note l X hcq5) ?_
    refine g_sub [0, 2] rfl ?_
    exact ok_X11_lay_L21 l X q5 a0 a2 q hf
theorem ct_X11_lay (l : Launch) (X : Cx) {h : AH} {a0 : Nat} {a1 : Int32} {a2 : Int32} {q : AH} (hf : f_X11_lay h a0 a1 a2 = some q) : Ct l X k_X11_lay [rf X a0, .int a1, .int a2] h (rV q) := ct_of ck_X11_lay (by simp [lg_sl, rf_cat, rq_cat, ca_i, ca_l, ca_r]) (by simp [lv_args, rf_cat, rq_cat, ca_i, ca_l, ca_r]) (ok_X11_lay l X hf)
def f_X11_layLi_L49 (h : AH) (a0 : Nat) (a1 : Int32) (a2 : Int32) : Option (AH) :=
  gs h a0 10 <|
  lt (sI h a0 71 ((55 : Int32) ||| a2)) fun h2 =>
  bd (f_X11_lay h2 a0 a1 (7 : Int32)) fun q4 =>
  gs q4 a0 10 <|
  lt (sI q4 a0 71 (((19 : Int32) ||| a2) ||| (a2 <<< ((8 : Int32) &&& 31)))) fun h6 =>
  bd (f_X11_lay h6 a0 a1 (8 : Int32)) fun q8 =>
  some q8
set_option maxRecDepth 100000 in
set_option maxHeartbeats 4000000 in
theorem ok_X11_layLi_L49 (l : Launch) (X : Cx) (h : AH) (a0 : Nat) (a1 : Int32) (a2 : Int32) (q : AH) (hf : f_X11_layLi_L49 h a0 a1 a2 = some q) : Go l X k_X11_layLi 49 [(0, rf X a0), (1, .int a1), (2, .int a2)] [] h (rV q) := by
  unfold f_X11_layLi_L49 at hf
  refine g_aload_n (pc := 49) 0 dX11_layLi_49 rfl rfl ?_
  refine g_bipush (pc := 50) (v := (55 : Int32)) dX11_layLi_50 (by decide) ?_
  refine g_iload_n (pc := 52) 2 dX11_layLi_52 rfl rfl ?_
  refine g_ior (pc := 53) dX11_layLi_53 ?_
  obtain ⟨g1, hf⟩ := gs_some hf
  obtain ⟨h2, eh2, hf⟩ := lt_some hf
  refine g_putI (pc := 54) fl_X11_410 dX11_layLi_54 g1 eh2 ?_
  refine g_aload_n (pc := 57) 0 dX11_layLi_57 rfl rfl ?_
  refine g_iload_n (pc := 58) 1 dX11_layLi_58 rfl rfl ?_
  refine g_bipush (pc := 59) (v := (7 : Int32)) dX11_layLi_59 (by decide) ?_
  have g3 : hS h2 a0 = 10 := (hS_tI eh2 g1)
  obtain ⟨q4, hcq4, hf⟩ := bd_some hf
  refine g_cVV (pc := 61) (k2 := k_X11_lay) (av := [.int a1, .int (7 : Int32)]) (q := q4) rfl dX11_layLi_61 ck_X11_lay m_1769 m_1771 m_75 (ci := 9) rfl (by decide) g3 (by decide) (by decide) rfl (by simp [rf_cat, rq_cat, ca_i, ca_l, ca_r]) (ct_X11_lay l X hcq4) ?_
  refine g_aload_n (pc := 64) 0 dX11_layLi_64 rfl rfl ?_
  refine g_bipush (pc := 65) (v := (19 : Int32)) dX11_layLi_65 (by decide) ?_
  refine g_iload_n (pc := 67) 2 dX11_layLi_67 rfl rfl ?_
  refine g_ior (pc := 68) dX11_layLi_68 ?_
  refine g_iload_n (pc := 69) 2 dX11_layLi_69 rfl rfl ?_
  refine g_bipush (pc := 70) (v := (8 : Int32)) dX11_layLi_70 (by decide) ?_
  refine g_ishl (pc := 72) dX11_layLi_72 ?_
  refine g_ior (pc := 73) dX11_layLi_73 ?_
  obtain ⟨g5, hf⟩ := gs_some hf
  obtain ⟨h6, eh6, hf⟩ := lt_some hf
  refine g_putI (pc := 74) fl_X11_410 dX11_layLi_74 g5 eh6 ?_
  refine g_aload_n (pc := 77) 0 dX11_layLi_77 rfl rfl ?_
  refine g_iload_n (pc := 78) 1 dX11_layLi_78 rfl rfl ?_
  refine g_bipush (pc := 79) (v := (8 : Int32)) dX11_layLi_79 (by decide) ?_
  have g7 : hS h6 a0 = 10 := (hS_tI eh6 g5)
  obtain ⟨q8, hcq8, hf⟩ := bd_some hf
  refine g_cVV (pc := 81) (k2 := k_X11_lay) (av := [.int a1, .int (8 : Int32)]) (q := q8) rfl dX11_layLi_81 ck_X11_lay m_1769 m_1771 m_75 (ci := 9) rfl (by decide) g7 (by decide) (by decide) rfl (by simp [rf_cat, rq_cat, ca_i, ca_l, ca_r]) (ct_X11_lay l X hcq8) ?_
  obtain rfl := Option.some.inj hf
  exact g_vret (pc := 84) rfl dX11_layLi_84
def f_X11_layLi (h : AH) (a0 : Nat) (a1 : Int32) : Option (AH) :=
  gs h a0 10 <|
  lt ((hI h a0 71)) fun x2 =>
  if ¬ (hI h a0 73) = 0 then
    f_X11_layLi_L49 h a0 a1 x2
  else
    if (lg_cmp (hL h a0 72) (-2048 : Int64)) < 0 then
      f_X11_layLi_L49 h a0 a1 x2
    else
      if 0 < (lg_cmp (hL h a0 72) (2047 : Int64)) then
        f_X11_layLi_L49 h a0 a1 x2
      else
        lt (sI h a0 71 ((19 : Int32) ||| x2)) fun h6 =>
        bd (f_X11_lay h6 a0 a1 (0 : Int32)) fun q8 =>
        some q8
set_option maxRecDepth 100000 in
set_option maxHeartbeats 4000000 in
theorem ok_X11_layLi (l : Launch) (X : Cx) {h : AH} {a0 : Nat} {a1 : Int32} {q : AH} (hf : f_X11_layLi h a0 a1 = some q) : Go l X k_X11_layLi 0 [(0, rf X a0), (1, .int a1)] [] h (rV q) := by
  unfold f_X11_layLi at hf
  refine g_aload_n (pc := 0) 0 dX11_layLi_0 rfl rfl ?_
  obtain ⟨g1, hf⟩ := gs_some hf
  refine g_getI (pc := 1) fl_X11_410 dX11_layLi_1 g1 ?_
  obtain ⟨x2, ex2, hf⟩ := lt_some hf
  refine g_istore_n (pc := 4) (L' := [(2, .int x2), (0, rf X a0), (1, .int a1)]) dX11_layLi_4 rfl (by decide) ex2 rfl ?_
  refine g_aload_n (pc := 5) 1 dX11_layLi_5 rfl rfl ?_
  refine g_getI (pc := 6) fl_X11_413 dX11_layLi_6 g1 ?_
  rcases it_some hf with ⟨c3, hf⟩ | ⟨c3, hf⟩
  · refine g_ifne_t (pc := 9) (tgt := 49) dX11_layLi_9 (by decide) c3 ?_
    refine g_sub [1, 2, 0] rfl ?_
    exact ok_X11_layLi_L49 l X h a0 a1 x2 q hf
  · refine g_ifne_f (pc := 9) (tgt := 49) dX11_layLi_9 (by decide) (Decidable.of_not_not c3) ?_
    refine g_aload_n (pc := 12) 1 dX11_layLi_12 rfl rfl ?_
    refine g_getL (pc := 13) fl_X11_424 dX11_layLi_13 g1 ?_
    refine g_ldc2 (pc := 16) (v := (-2048 : Int64)) m_1742 dX11_layLi_16 ?_
    refine g_lcmp (pc := 19) dX11_layLi_19 ?_
    rcases it_some hf with ⟨c4, hf⟩ | ⟨c4, hf⟩
    · refine g_iflt_t (pc := 20) (tgt := 49) dX11_layLi_20 (by decide) c4 ?_
      refine g_sub [1, 2, 0] rfl ?_
      exact ok_X11_layLi_L49 l X h a0 a1 x2 q hf
    · refine g_iflt_f (pc := 20) (tgt := 49) dX11_layLi_20 (by decide) c4 ?_
      refine g_aload_n (pc := 23) 1 dX11_layLi_23 rfl rfl ?_
      refine g_getL (pc := 24) fl_X11_424 dX11_layLi_24 g1 ?_
      refine g_ldc2 (pc := 27) (v := (2047 : Int64)) m_1751 dX11_layLi_27 ?_
      refine g_lcmp (pc := 30) dX11_layLi_30 ?_
      rcases it_some hf with ⟨c5, hf⟩ | ⟨c5, hf⟩
      · refine g_ifgt_t (pc := 31) (tgt := 49) dX11_layLi_31 (by decide) c5 ?_
        refine g_sub [1, 2, 0] rfl ?_
        exact ok_X11_layLi_L49 l X h a0 a1 x2 q hf
      · refine g_ifgt_f (pc := 31) (tgt := 49) dX11_layLi_31 (by decide) c5 ?_
        refine g_aload_n (pc := 34) 1 dX11_layLi_34 rfl rfl ?_
        refine g_bipush (pc := 35) (v := (19 : Int32)) dX11_layLi_35 (by decide) ?_
        refine g_iload_n (pc := 37) 0 dX11_layLi_37 rfl rfl ?_
        refine g_ior (pc := 38) dX11_layLi_38 ?_
        obtain ⟨h6, eh6, hf⟩ := lt_some hf
        refine g_putI (pc := 39) fl_X11_410 dX11_layLi_39 g1 eh6 ?_
        refine g_aload_n (pc := 42) 1 dX11_layLi_42 rfl rfl ?_
        refine g_iload_n (pc := 43) 2 dX11_layLi_43 rfl rfl ?_
        refine g_iconst (pc := 44) (v := (0 : Int32)) dX11_layLi_44 (by decide) ?_
        have g7 : hS h6 a0 = 10 := (hS_tI eh6 g1)
        obtain ⟨q8, hcq8, hf⟩ := bd_some hf
        refine g_cVV (pc := 45) (k2 := k_X11_lay) (av := [.int a1, .int (0 : Int32)]) (q := q8) rfl dX11_layLi_45 ck_X11_lay m_1769 m_1771 m_75 (ci := 9) rfl (by decide) g7 (by decide) (by decide) rfl (by simp [rf_cat, rq_cat, ca_i, ca_l, ca_r]) (ct_X11_lay l X hcq8) ?_
        obtain rfl := Option.some.inj hf
        exact g_vret (pc := 48) rfl dX11_layLi_48
theorem ct_X11_layLi (l : Launch) (X : Cx) {h : AH} {a0 : Nat} {a1 : Int32} {q : AH} (hf : f_X11_layLi h a0 a1 = some q) : Ct l X k_X11_layLi [rf X a0, .int a1] h (rV q) := ct_of ck_X11_layLi (by simp [lg_sl, rf_cat, rq_cat, ca_i, ca_l, ca_r]) (by simp [lv_args, rf_cat, rq_cat, ca_i, ca_l, ca_r]) (ok_X11_layLi l X hf)
def f_X11_readStatement_L402 (h : AH) (a0 : Nat) : Option (Int32 × AH) :=
  gs h a0 10 <|
  bd (f_X11_wantSign h a0 (59 : Int32)) fun q2 =>
  gb (q2.1 == 0 || q2.1 == 1) <|
  some (q2.1, q2.2)
set_option maxRecDepth 100000 in
set_option maxHeartbeats 4000000 in
theorem ok_X11_readStatement_L402 (l : Launch) (X : Cx) (h : AH) (a0 : Nat) (q : Int32 × AH) (hf : f_X11_readStatement_L402 h a0 = some q) : Go l X k_X11_readStatement 402 [(0, rf X a0)] [] h (rI q) := by
  unfold f_X11_readStatement_L402 at hf
  refine g_aload_n (pc := 402) 0 dX11_readStatement_402 rfl rfl ?_
  refine g_bipush (pc := 403) (v := (59 : Int32)) dX11_readStatement_403 (by decide) ?_
  obtain ⟨g1, hf⟩ := gs_some hf
  obtain ⟨q2, hcq2, hf⟩ := bd_some hf
  refine g_cVI (pc := 405) (k2 := k_X11_wantSign) (av := [.int (59 : Int32)]) (q := q2) rfl dX11_readStatement_405 ck_X11_wantSign m_1724 m_1726 m_69 (ci := 9) rfl (by decide) g1 (by decide) (by decide) rfl (by simp [rf_cat, rq_cat, ca_i, ca_l, ca_r]) (ct_X11_wantSign l X hcq2) ?_
  obtain ⟨b3, hf⟩ := gb_some hf
  obtain rfl := Option.some.inj hf
  exact g_zret (pc := 408) rfl b3 dX11_readStatement_408
def f_X11_readStatement_L363 (h : AH) (a0 : Nat) (a1 : Int32) (a2 : Int32) : Option (Int32 × AH) :=
  gs h a0 10 <|
  gs h (hR h a0 69) 21 <|
  gb (ib a2 (hN h (hR h a0 69))) <|
  if ¬ (hI h (hR h a0 69) a2.toNatClampNeg) = (13 : Int32) then
    gb (ib a2 (hN h (hR h a0 69))) <|
    if (hI h (hR h a0 69) a2.toNatClampNeg) = (16 : Int32) then
      f_X11_readStatement_L402 h a0
    else
      bd (f_X11_lay h a0 a1 (hI h a0 76)) fun q7 =>
      f_X11_readStatement_L402 q7 a0
  else
    bd (f_X11_layLi h a0 a1) fun q8 =>
    f_X11_readStatement_L402 q8 a0
set_option maxRecDepth 100000 in
set_option maxHeartbeats 4000000 in
theorem ok_X11_readStatement_L363 (l : Launch) (X : Cx) (h : AH) (a0 : Nat) (a1 : Int32) (a2 : Int32) (q : Int32 × AH) (hf : f_X11_readStatement_L363 h a0 a1 a2 = some q) : Go l X k_X11_readStatement 363 [(0, rf X a0), (1, .int a1), (2, .int a2)] [] h (rI q) := by
  unfold f_X11_readStatement_L363 at hf
  refine g_aload_n (pc := 363) 0 dX11_readStatement_363 rfl rfl ?_
  obtain ⟨g1, hf⟩ := gs_some hf
  refine g_getR (pc := 364) fl_X11_279 dX11_readStatement_364 g1 ?_
  refine g_iload_n (pc := 367) 2 dX11_readStatement_367 rfl rfl ?_
  obtain ⟨g2, hf⟩ := gs_some hf
  obtain ⟨b3, hf⟩ := gb_some hf
  refine g_iald (pc := 368) g2 b3 dX11_readStatement_368 ?_
  refine g_bipush (pc := 369) (v := (13 : Int32)) dX11_readStatement_369 (by decide) ?_
  rcases it_some hf with ⟨c4, hf⟩ | ⟨c4, hf⟩
  · refine g_icne_t (pc := 371) (tgt := 382) dX11_readStatement_371 (by decide) c4 ?_
    refine g_aload_n (pc := 382) 0 dX11_readStatement_382 rfl rfl ?_
    refine g_getR (pc := 383) fl_X11_279 dX11_readStatement_383 g1 ?_
    refine g_iload_n (pc := 386) 2 dX11_readStatement_386 rfl rfl ?_
    obtain ⟨b5, hf⟩ := gb_some hf
    refine g_iald (pc := 387) g2 b5 dX11_readStatement_387 ?_
    refine g_bipush (pc := 388) (v := (16 : Int32)) dX11_readStatement_388 (by decide) ?_
    rcases it_some hf with ⟨c6, hf⟩ | ⟨c6, hf⟩
    · refine g_iceq_t (pc := 390) (tgt := 402) dX11_readStatement_390 (by decide) c6 ?_
      refine g_sub [0] rfl ?_
      exact ok_X11_readStatement_L402 l X h a0 q hf
    · refine g_iceq_f (pc := 390) (tgt := 402) dX11_readStatement_390 (by decide) c6 ?_
      refine g_aload_n (pc := 393) 0 dX11_readStatement_393 rfl rfl ?_
      refine g_iload_n (pc := 394) 1 dX11_readStatement_394 rfl rfl ?_
      refine g_aload_n (pc := 395) 0 dX11_readStatement_395 rfl rfl ?_
      refine g_getI (pc := 396) fl_X11_461 dX11_readStatement_396 g1 ?_
      obtain ⟨q7, hcq7, hf⟩ := bd_some hf
      refine g_cVV (pc := 399) (k2 := k_X11_lay) (av := [.int a1, .int (hI h a0 76)]) (q := q7) rfl dX11_readStatement_399 ck_X11_lay m_1769 m_1771 m_75 (ci := 9) rfl (by decide) g1 (by decide) (by decide) rfl (by simp [rf_cat, rq_cat, ca_i, ca_l, ca_r]) (ct_X11_lay l X hcq7) ?_
      refine g_sub [0] rfl ?_
      exact ok_X11_readStatement_L402 l X q7 a0 q hf
  · refine g_icne_f (pc := 371) (tgt := 382) dX11_readStatement_371 (by decide) (Decidable.of_not_not c4) ?_
    refine g_aload_n (pc := 374) 0 dX11_readStatement_374 rfl rfl ?_
    refine g_iload_n (pc := 375) 1 dX11_readStatement_375 rfl rfl ?_
    obtain ⟨q8, hcq8, hf⟩ := bd_some hf
    refine g_cVV (pc := 376) (k2 := k_X11_layLi) (av := [.int a1]) (q := q8) rfl dX11_readStatement_376 ck_X11_layLi m_1765 m_1767 m_74 (ci := 9) rfl (by decide) g1 (by decide) (by decide) rfl (by simp [rf_cat, rq_cat, ca_i, ca_l, ca_r]) (ct_X11_layLi l X hcq8) ?_
    refine g_goto (pc := 379) (tgt := 402) dX11_readStatement_379 (by decide) ?_
    refine g_sub [0] rfl ?_
    exact ok_X11_readStatement_L402 l X q8 a0 q hf
def f_X11_readStatement_L318 (h : AH) (a0 : Nat) (s0 : Nat) (s1 : Int32) : Option (Int32 × AH) :=
  gs h s0 10 <|
  lt (sI h s0 20 s1) fun h2 =>
  f_X11_readStatement_L402 h2 a0
set_option maxRecDepth 100000 in
set_option maxHeartbeats 4000000 in
theorem ok_X11_readStatement_L318 (l : Launch) (X : Cx) (h : AH) (a0 : Nat) (s0 : Nat) (s1 : Int32) (q : Int32 × AH) (hf : f_X11_readStatement_L318 h a0 s0 s1 = some q) : Go l X k_X11_readStatement 318 [(0, rf X a0)] [.int s1, rf X s0] h (rI q) := by
  unfold f_X11_readStatement_L318 at hf
  obtain ⟨g1, hf⟩ := gs_some hf
  obtain ⟨h2, eh2, hf⟩ := lt_some hf
  refine g_putI (pc := 318) fl_X11_488 dX11_readStatement_318 g1 eh2 ?_
  refine g_goto (pc := 321) (tgt := 402) dX11_readStatement_321 (by decide) ?_
  exact ok_X11_readStatement_L402 l X h2 a0 q hf
def f_X11_readStatement_L315 (h : AH) (a0 : Nat) (s0 : Nat) : Option (Int32 × AH) :=
  f_X11_readStatement_L318 h a0 s0 (8192 : Int32)
set_option maxRecDepth 100000 in
set_option maxHeartbeats 4000000 in
theorem ok_X11_readStatement_L315 (l : Launch) (X : Cx) (h : AH) (a0 : Nat) (s0 : Nat) (q : Int32 × AH) (hf : f_X11_readStatement_L315 h a0 s0 = some q) : Go l X k_X11_readStatement 315 [(0, rf X a0)] [rf X s0] h (rI q) := by
  unfold f_X11_readStatement_L315 at hf
  refine g_sipush (pc := 315) (v := (8192 : Int32)) dX11_readStatement_315 (by decide) ?_
  exact ok_X11_readStatement_L318 l X h a0 s0 (8192 : Int32) q hf
def f_X11_readStatement_L211 (h : AH) (a0 : Nat) : Option (Int32 × AH) :=
  gs h a0 10 <|
  bd (f_X11_refuse h a0) fun q2 =>
  gb (q2.1 == 0 || q2.1 == 1) <|
  some (q2.1, q2.2)
set_option maxRecDepth 100000 in
set_option maxHeartbeats 4000000 in
theorem ok_X11_readStatement_L211 (l : Launch) (X : Cx) (h : AH) (a0 : Nat) (q : Int32 × AH) (hf : f_X11_readStatement_L211 h a0 = some q) : Go l X k_X11_readStatement 211 [(0, rf X a0)] [] h (rI q) := by
  unfold f_X11_readStatement_L211 at hf
  refine g_aload_n (pc := 211) 0 dX11_readStatement_211 rfl rfl ?_
  obtain ⟨g1, hf⟩ := gs_some hf
  obtain ⟨q2, hcq2, hf⟩ := bd_some hf
  refine g_cVI (pc := 212) (k2 := k_X11_refuse) (av := []) (q := q2) rfl dX11_readStatement_212 ck_X11_refuse m_1705 m_1707 m_65 (ci := 9) rfl (by decide) g1 (by decide) (by decide) rfl (by simp [rf_cat, rq_cat, ca_i, ca_l, ca_r]) (ct_X11_refuse l X hcq2) ?_
  obtain ⟨b3, hf⟩ := gb_some hf
  obtain rfl := Option.some.inj hf
  exact g_zret (pc := 215) rfl b3 dX11_readStatement_215
def f_X11_readStatement_L149 (h : AH) (a0 : Nat) : Option (Int32 × AH) :=
  gs h a0 10 <|
  gs h (hR h a0 6) 21 <|
  gb (ib (hI h a0 9) (hN h (hR h a0 6))) <|
  if ¬ (hI h (hR h a0 6) (hI h a0 9).toNatClampNeg) = (1 : Int32) then
    f_X11_readStatement_L402 h a0
  else
    lt ((hI h a0 9)) fun x5 =>
    gs h (hR h a0 8) 22 <|
    gb (ib (hI h a0 9) (hN h (hR h a0 8))) <|
    bd (f_X11_opOf h a0 (hL h (hR h a0 8) (hI h a0 9).toNatClampNeg)) fun q8 =>
    lt (q8.1) fun x9 =>
    if ¬ x9 = (-1 : Int32) then
      gs q8.2 a0 10 <|
      lt (sI q8.2 a0 9 ((hI q8.2 a0 9) + (1 : Int32))) fun h12 =>
      gs h12 (hR h12 a0 70) 21 <|
      gb (ib x9 (hN h12 (hR h12 a0 70))) <|
      lt (sI h12 a0 71 (hI h12 (hR h12 a0 70) x9.toNatClampNeg)) fun h16 =>
      lt (sI h16 a0 76 (-1 : Int32)) fun h18 =>
      lt (sI h18 a0 73 (0 : Int32)) fun h20 =>
      gs h20 (hR h20 a0 69) 21 <|
      gb (ib x9 (hN h20 (hR h20 a0 69))) <|
      bd (f_X11_wantParts h20 a0 (hI h20 (hR h20 a0 69) x9.toNatClampNeg) x9) fun q24 =>
      if ¬ q24.1 = 0 then
        gs q24.2 a0 10 <|
        gs q24.2 (hR q24.2 a0 69) 21 <|
        gb (ib x9 (hN q24.2 (hR q24.2 a0 69))) <|
        if ¬ (hI q24.2 (hR q24.2 a0 69) x9.toNatClampNeg) = (15 : Int32) then
          gb (ib x9 (hN q24.2 (hR q24.2 a0 69))) <|
          if ¬ (hI q24.2 (hR q24.2 a0 69) x9.toNatClampNeg) = (16 : Int32) then
            f_X11_readStatement_L363 q24.2 a0 x5 x9
          else
            if 0 ≤ (lg_cmp (hL q24.2 a0 72) (16 : Int64)) then
              f_X11_readStatement_L363 q24.2 a0 x5 x9
            else
              gs q24.2 (hR q24.2 a0 19) 21 <|
              gb (ib ((hL q24.2 a0 72).toInt32) (hN q24.2 (hR q24.2 a0 19))) <|
              lt (sI q24.2 (hR q24.2 a0 19) ((hL q24.2 a0 72).toInt32).toNatClampNeg (hI q24.2 a0 20)) fun h35 =>
              f_X11_readStatement_L402 h35 a0
        else
          if (lg_cmp (hL q24.2 a0 72) (0 : Int64)) < 0 then
            f_X11_readStatement_L315 q24.2 a0 a0
          else
            if 0 < (lg_cmp (hL q24.2 a0 72) (8188 : Int64)) then
              f_X11_readStatement_L315 q24.2 a0 a0
            else
              if ¬ (lg_cmp ((hL q24.2 a0 72) - (hL q24.2 a0 72) / (4 : Int64) * (4 : Int64)) (0 : Int64)) = 0 then
                f_X11_readStatement_L315 q24.2 a0 a0
              else
                f_X11_readStatement_L318 q24.2 a0 a0 (hL q24.2 a0 72).toInt32
      else
        some ((0 : Int32), q24.2)
    else
      gs q8.2 a0 10 <|
      gs q8.2 (hR q8.2 a0 6) 21 <|
      gb (ib ((hI q8.2 a0 9) + (1 : Int32)) (hN q8.2 (hR q8.2 a0 6))) <|
      if ¬ (hI q8.2 (hR q8.2 a0 6) ((hI q8.2 a0 9) + (1 : Int32)).toNatClampNeg) = (4 : Int32) then
        f_X11_readStatement_L211 q8.2 a0
      else
        lt (sI q8.2 a0 9 ((hI q8.2 a0 9) + (1 : Int32))) fun h43 =>
        f_X11_readStatement_L211 h43 a0
set_option maxRecDepth 100000 in
set_option maxHeartbeats 4000000 in
theorem ok_X11_readStatement_L149 (l : Launch) (X : Cx) (h : AH) (a0 : Nat) (q : Int32 × AH) (hf : f_X11_readStatement_L149 h a0 = some q) : Go l X k_X11_readStatement 149 [(0, rf X a0)] [] h (rI q) := by
  unfold f_X11_readStatement_L149 at hf
  refine g_aload_n (pc := 149) 0 dX11_readStatement_149 rfl rfl ?_
  obtain ⟨g1, hf⟩ := gs_some hf
  refine g_getR (pc := 150) fl_X11_13 dX11_readStatement_150 g1 ?_
  refine g_aload_n (pc := 153) 0 dX11_readStatement_153 rfl rfl ?_
  refine g_getI (pc := 154) fl_X11_378 dX11_readStatement_154 g1 ?_
  obtain ⟨g2, hf⟩ := gs_some hf
  obtain ⟨b3, hf⟩ := gb_some hf
  refine g_iald (pc := 157) g2 b3 dX11_readStatement_157 ?_
  refine g_iconst (pc := 158) (v := (1 : Int32)) dX11_readStatement_158 (by decide) ?_
  rcases it_some hf with ⟨c4, hf⟩ | ⟨c4, hf⟩
  · refine g_icne_t (pc := 159) (tgt := 402) dX11_readStatement_159 (by decide) c4 ?_
    exact ok_X11_readStatement_L402 l X h a0 q hf
  · refine g_icne_f (pc := 159) (tgt := 402) dX11_readStatement_159 (by decide) (Decidable.of_not_not c4) ?_
    refine g_aload_n (pc := 162) 0 dX11_readStatement_162 rfl rfl ?_
    refine g_getI (pc := 163) fl_X11_378 dX11_readStatement_163 g1 ?_
    obtain ⟨x5, ex5, hf⟩ := lt_some hf
    refine g_istore_n (pc := 166) (L' := [(1, .int x5), (0, rf X a0)]) dX11_readStatement_166 rfl (by decide) ex5 (by simp [rf_cat, rq_cat]) ?_
    refine g_aload_n (pc := 167) 1 dX11_readStatement_167 rfl rfl ?_
    refine g_aload_n (pc := 168) 1 dX11_readStatement_168 rfl rfl ?_
    refine g_getR (pc := 169) fl_X11_19 dX11_readStatement_169 g1 ?_
    refine g_aload_n (pc := 172) 1 dX11_readStatement_172 rfl rfl ?_
    refine g_getI (pc := 173) fl_X11_378 dX11_readStatement_173 g1 ?_
    obtain ⟨g6, hf⟩ := gs_some hf
    obtain ⟨b7, hf⟩ := gb_some hf
    refine g_lald (pc := 176) g6 b7 dX11_readStatement_176 ?_
    obtain ⟨q8, hcq8, hf⟩ := bd_some hf
    refine g_cVI (pc := 177) (k2 := k_X11_opOf) (av := [.long (hL h (hR h a0 8) (hI h a0 9).toNatClampNeg)]) (q := q8) rfl dX11_readStatement_177 ck_X11_opOf m_1696 m_1698 m_64 (ci := 9) rfl (by decide) g1 (by decide) (by decide) rfl (by simp [rf_cat, rq_cat, ca_i, ca_l, ca_r]) (ct_X11_opOf l X hcq8) ?_
    obtain ⟨x9, ex9, hf⟩ := lt_some hf
    refine g_istore_n (pc := 180) (L' := [(2, .int x9), (1, .int x5), (0, rf X a0)]) dX11_readStatement_180 rfl (by decide) ex9 rfl ?_
    refine g_iload_n (pc := 181) 0 dX11_readStatement_181 rfl rfl ?_
    refine g_iconst (pc := 182) (v := (-1 : Int32)) dX11_readStatement_182 (by decide) ?_
    rcases it_some hf with ⟨c10, hf⟩ | ⟨c10, hf⟩
    · refine g_icne_t (pc := 183) (tgt := 216) dX11_readStatement_183 (by decide) c10 ?_
      refine g_aload_n (pc := 216) 2 dX11_readStatement_216 rfl rfl ?_
      refine g_dup (pc := 217) dX11_readStatement_217 (rf_cat X _) ?_
      obtain ⟨g11, hf⟩ := gs_some hf
      refine g_getI (pc := 218) fl_X11_378 dX11_readStatement_218 g11 ?_
      refine g_iconst (pc := 221) (v := (1 : Int32)) dX11_readStatement_221 (by decide) ?_
      refine g_iadd (pc := 222) dX11_readStatement_222 ?_
      obtain ⟨h12, eh12, hf⟩ := lt_some hf
      refine g_putI (pc := 223) fl_X11_378 dX11_readStatement_223 g11 eh12 ?_
      refine g_aload_n (pc := 226) 2 dX11_readStatement_226 rfl rfl ?_
      refine g_aload_n (pc := 227) 2 dX11_readStatement_227 rfl rfl ?_
      have g13 : hS h12 a0 = 10 := (hS_tI eh12 g11)
      refine g_getR (pc := 228) fl_X11_297 dX11_readStatement_228 g13 ?_
      refine g_iload_n (pc := 231) 0 dX11_readStatement_231 rfl rfl ?_
      obtain ⟨g14, hf⟩ := gs_some hf
      obtain ⟨b15, hf⟩ := gb_some hf
      refine g_iald (pc := 232) g14 b15 dX11_readStatement_232 ?_
      obtain ⟨h16, eh16, hf⟩ := lt_some hf
      refine g_putI (pc := 233) fl_X11_410 dX11_readStatement_233 g13 eh16 ?_
      refine g_aload_n (pc := 236) 2 dX11_readStatement_236 rfl rfl ?_
      refine g_iconst (pc := 237) (v := (-1 : Int32)) dX11_readStatement_237 (by decide) ?_
      have g17 : hS h16 a0 = 10 := (hS_tI eh16 g13)
      obtain ⟨h18, eh18, hf⟩ := lt_some hf
      refine g_putI (pc := 238) fl_X11_461 dX11_readStatement_238 g17 eh18 ?_
      refine g_aload_n (pc := 241) 2 dX11_readStatement_241 rfl rfl ?_
      refine g_iconst (pc := 242) (v := (0 : Int32)) dX11_readStatement_242 (by decide) ?_
      have g19 : hS h18 a0 = 10 := (hS_tI eh18 g17)
      obtain ⟨h20, eh20, hf⟩ := lt_some hf
      refine g_putZ (pc := 243) fl_X11_413 dX11_readStatement_243 g19 rfl eh20 ?_
      refine g_aload_n (pc := 246) 2 dX11_readStatement_246 rfl rfl ?_
      refine g_aload_n (pc := 247) 2 dX11_readStatement_247 rfl rfl ?_
      have g21 : hS h20 a0 = 10 := (hS_tI eh20 g19)
      refine g_getR (pc := 248) fl_X11_279 dX11_readStatement_248 g21 ?_
      refine g_iload_n (pc := 251) 0 dX11_readStatement_251 rfl rfl ?_
      obtain ⟨g22, hf⟩ := gs_some hf
      obtain ⟨b23, hf⟩ := gb_some hf
      refine g_iald (pc := 252) g22 b23 dX11_readStatement_252 ?_
      refine g_iload_n (pc := 253) 0 dX11_readStatement_253 rfl rfl ?_
      obtain ⟨q24, hcq24, hf⟩ := bd_some hf
      refine g_cVI (pc := 254) (k2 := k_X11_wantParts) (av := [.int (hI h20 (hR h20 a0 69) x9.toNatClampNeg), .int x9]) (q := q24) rfl dX11_readStatement_254 ck_X11_wantParts m_1709 m_1711 m_66 (ci := 9) rfl (by decide) g21 (by decide) (by decide) rfl (by simp [rf_cat, rq_cat, ca_i, ca_l, ca_r]) (ct_X11_wantParts l X hcq24) ?_
      rcases it_some hf with ⟨c25, hf⟩ | ⟨c25, hf⟩
      · refine g_ifne_t (pc := 257) (tgt := 262) dX11_readStatement_257 (by decide) c25 ?_
        refine g_aload_n (pc := 262) 2 dX11_readStatement_262 rfl rfl ?_
        obtain ⟨g26, hf⟩ := gs_some hf
        refine g_getR (pc := 263) fl_X11_279 dX11_readStatement_263 g26 ?_
        refine g_iload_n (pc := 266) 0 dX11_readStatement_266 rfl rfl ?_
        obtain ⟨g27, hf⟩ := gs_some hf
        obtain ⟨b28, hf⟩ := gb_some hf
        refine g_iald (pc := 267) g27 b28 dX11_readStatement_267 ?_
        refine g_bipush (pc := 268) (v := (15 : Int32)) dX11_readStatement_268 (by decide) ?_
        rcases it_some hf with ⟨c29, hf⟩ | ⟨c29, hf⟩
        · refine g_icne_t (pc := 270) (tgt := 324) dX11_readStatement_270 (by decide) c29 ?_
          refine g_aload_n (pc := 324) 2 dX11_readStatement_324 rfl rfl ?_
          refine g_getR (pc := 325) fl_X11_279 dX11_readStatement_325 g26 ?_
          refine g_iload_n (pc := 328) 0 dX11_readStatement_328 rfl rfl ?_
          obtain ⟨b30, hf⟩ := gb_some hf
          refine g_iald (pc := 329) g27 b30 dX11_readStatement_329 ?_
          refine g_bipush (pc := 330) (v := (16 : Int32)) dX11_readStatement_330 (by decide) ?_
          rcases it_some hf with ⟨c31, hf⟩ | ⟨c31, hf⟩
          · refine g_icne_t (pc := 332) (tgt := 363) dX11_readStatement_332 (by decide) c31 ?_
            refine g_sub [2, 1, 0] rfl ?_
            exact ok_X11_readStatement_L363 l X q24.2 a0 x5 x9 q hf
          · refine g_icne_f (pc := 332) (tgt := 363) dX11_readStatement_332 (by decide) (Decidable.of_not_not c31) ?_
            refine g_aload_n (pc := 335) 2 dX11_readStatement_335 rfl rfl ?_
            refine g_getL (pc := 336) fl_X11_424 dX11_readStatement_336 g26 ?_
            refine g_ldc2 (pc := 339) (v := (16 : Int64)) m_1677 dX11_readStatement_339 ?_
            refine g_lcmp (pc := 342) dX11_readStatement_342 ?_
            rcases it_some hf with ⟨c32, hf⟩ | ⟨c32, hf⟩
            · refine g_ifge_t (pc := 343) (tgt := 363) dX11_readStatement_343 (by decide) c32 ?_
              refine g_sub [2, 1, 0] rfl ?_
              exact ok_X11_readStatement_L363 l X q24.2 a0 x5 x9 q hf
            · refine g_ifge_f (pc := 343) (tgt := 363) dX11_readStatement_343 (by decide) c32 ?_
              refine g_aload_n (pc := 346) 2 dX11_readStatement_346 rfl rfl ?_
              refine g_getR (pc := 347) fl_X11_44 dX11_readStatement_347 g26 ?_
              refine g_aload_n (pc := 350) 2 dX11_readStatement_350 rfl rfl ?_
              refine g_getL (pc := 351) fl_X11_424 dX11_readStatement_351 g26 ?_
              refine g_l2i (pc := 354) dX11_readStatement_354 ?_
              refine g_aload_n (pc := 355) 2 dX11_readStatement_355 rfl rfl ?_
              refine g_getI (pc := 356) fl_X11_488 dX11_readStatement_356 g26 ?_
              obtain ⟨g33, hf⟩ := gs_some hf
              obtain ⟨b34, hf⟩ := gb_some hf
              obtain ⟨h35, eh35, hf⟩ := lt_some hf
              refine g_iast (pc := 359) g33 b34 dX11_readStatement_359 eh35 ?_
              refine g_goto (pc := 360) (tgt := 402) dX11_readStatement_360 (by decide) ?_
              refine g_sub [2] rfl ?_
              exact ok_X11_readStatement_L402 l X h35 a0 q hf
        · refine g_icne_f (pc := 270) (tgt := 324) dX11_readStatement_270 (by decide) (Decidable.of_not_not c29) ?_
          refine g_aload_n (pc := 273) 2 dX11_readStatement_273 rfl rfl ?_
          refine g_aload_n (pc := 274) 2 dX11_readStatement_274 rfl rfl ?_
          refine g_getL (pc := 275) fl_X11_424 dX11_readStatement_275 g26 ?_
          refine g_lconst (pc := 278) (v := (0 : Int64)) dX11_readStatement_278 (by decide) ?_
          refine g_lcmp (pc := 279) dX11_readStatement_279 ?_
          rcases it_some hf with ⟨c36, hf⟩ | ⟨c36, hf⟩
          · refine g_iflt_t (pc := 280) (tgt := 315) dX11_readStatement_280 (by decide) c36 ?_
            refine g_sub [2] rfl ?_
            exact ok_X11_readStatement_L315 l X q24.2 a0 a0 q hf
          · refine g_iflt_f (pc := 280) (tgt := 315) dX11_readStatement_280 (by decide) c36 ?_
            refine g_aload_n (pc := 283) 2 dX11_readStatement_283 rfl rfl ?_
            refine g_getL (pc := 284) fl_X11_424 dX11_readStatement_284 g26 ?_
            refine g_ldc2 (pc := 287) (v := (8188 : Int64)) m_1763 dX11_readStatement_287 ?_
            refine g_lcmp (pc := 290) dX11_readStatement_290 ?_
            rcases it_some hf with ⟨c37, hf⟩ | ⟨c37, hf⟩
            · refine g_ifgt_t (pc := 291) (tgt := 315) dX11_readStatement_291 (by decide) c37 ?_
              refine g_sub [2] rfl ?_
              exact ok_X11_readStatement_L315 l X q24.2 a0 a0 q hf
            · refine g_ifgt_f (pc := 291) (tgt := 315) dX11_readStatement_291 (by decide) c37 ?_
              refine g_aload_n (pc := 294) 2 dX11_readStatement_294 rfl rfl ?_
              refine g_getL (pc := 295) fl_X11_424 dX11_readStatement_295 g26 ?_
              refine g_ldc2 (pc := 298) (v := (4 : Int64)) m_1719 dX11_readStatement_298 ?_
              refine g_lrem (pc := 301) (by decide) dX11_readStatement_301 ?_
              refine g_lconst (pc := 302) (v := (0 : Int64)) dX11_readStatement_302 (by decide) ?_
              refine g_lcmp (pc := 303) dX11_readStatement_303 ?_
              rcases it_some hf with ⟨c38, hf⟩ | ⟨c38, hf⟩
              · refine g_ifne_t (pc := 304) (tgt := 315) dX11_readStatement_304 (by decide) c38 ?_
                refine g_sub [2] rfl ?_
                exact ok_X11_readStatement_L315 l X q24.2 a0 a0 q hf
              · refine g_ifne_f (pc := 304) (tgt := 315) dX11_readStatement_304 (by decide) (Decidable.of_not_not c38) ?_
                refine g_aload_n (pc := 307) 2 dX11_readStatement_307 rfl rfl ?_
                refine g_getL (pc := 308) fl_X11_424 dX11_readStatement_308 g26 ?_
                refine g_l2i (pc := 311) dX11_readStatement_311 ?_
                refine g_goto (pc := 312) (tgt := 318) dX11_readStatement_312 (by decide) ?_
                refine g_sub [2] rfl ?_
                exact ok_X11_readStatement_L318 l X q24.2 a0 a0 (hL q24.2 a0 72).toInt32 q hf
      · refine g_ifne_f (pc := 257) (tgt := 262) dX11_readStatement_257 (by decide) (Decidable.of_not_not c25) ?_
        refine g_iconst (pc := 260) (v := (0 : Int32)) dX11_readStatement_260 (by decide) ?_
        obtain rfl := Option.some.inj hf
        exact g_zret (pc := 261) rfl rfl dX11_readStatement_261
    · refine g_icne_f (pc := 183) (tgt := 216) dX11_readStatement_183 (by decide) (Decidable.of_not_not c10) ?_
      refine g_aload_n (pc := 186) 2 dX11_readStatement_186 rfl rfl ?_
      obtain ⟨g39, hf⟩ := gs_some hf
      refine g_getR (pc := 187) fl_X11_13 dX11_readStatement_187 g39 ?_
      refine g_aload_n (pc := 190) 2 dX11_readStatement_190 rfl rfl ?_
      refine g_getI (pc := 191) fl_X11_378 dX11_readStatement_191 g39 ?_
      refine g_iconst (pc := 194) (v := (1 : Int32)) dX11_readStatement_194 (by decide) ?_
      refine g_iadd (pc := 195) dX11_readStatement_195 ?_
      obtain ⟨g40, hf⟩ := gs_some hf
      obtain ⟨b41, hf⟩ := gb_some hf
      refine g_iald (pc := 196) g40 b41 dX11_readStatement_196 ?_
      refine g_iconst (pc := 197) (v := (4 : Int32)) dX11_readStatement_197 (by decide) ?_
      rcases it_some hf with ⟨c42, hf⟩ | ⟨c42, hf⟩
      · refine g_icne_t (pc := 198) (tgt := 211) dX11_readStatement_198 (by decide) c42 ?_
        refine g_sub [2] rfl ?_
        exact ok_X11_readStatement_L211 l X q8.2 a0 q hf
      · refine g_icne_f (pc := 198) (tgt := 211) dX11_readStatement_198 (by decide) (Decidable.of_not_not c42) ?_
        refine g_aload_n (pc := 201) 2 dX11_readStatement_201 rfl rfl ?_
        refine g_dup (pc := 202) dX11_readStatement_202 (rf_cat X _) ?_
        refine g_getI (pc := 203) fl_X11_378 dX11_readStatement_203 g39 ?_
        refine g_iconst (pc := 206) (v := (1 : Int32)) dX11_readStatement_206 (by decide) ?_
        refine g_iadd (pc := 207) dX11_readStatement_207 ?_
        obtain ⟨h43, eh43, hf⟩ := lt_some hf
        refine g_putI (pc := 208) fl_X11_378 dX11_readStatement_208 g39 eh43 ?_
        refine g_sub [2] rfl ?_
        exact ok_X11_readStatement_L211 l X h43 a0 q hf
def f_X11_readStatement_L89 (k0 : AH → Nat → Option (Int32 × AH)) (k48 : AH → Nat → Int32 → Option (Int32 × AH)) (h : AH) (a0 : Nat) (a1 : Int32) : Option (Int32 × AH) :=
  lt (a1 + (1 : Int32)) fun x1 =>
  k48 h a0 x1
set_option maxRecDepth 100000 in
set_option maxHeartbeats 4000000 in
theorem ok_X11_readStatement_L89 (l : Launch) (X : Cx) (k0 : AH → Nat → Option (Int32 × AH)) (hk0 : ∀ (h : AH) (a0 : Nat) (q : Int32 × AH), k0 h a0 = some q → Go l X k_X11_readStatement 0 [(0, rf X a0)] [] h (rI q)) (k48 : AH → Nat → Int32 → Option (Int32 × AH)) (hk48 : ∀ (h : AH) (a0 : Nat) (a1 : Int32) (q : Int32 × AH), k48 h a0 a1 = some q → Go l X k_X11_readStatement 48 [(0, rf X a0), (1, .int a1)] [] h (rI q)) (h : AH) (a0 : Nat) (a1 : Int32) (q : Int32 × AH) (hf : f_X11_readStatement_L89 k0 k48 h a0 a1 = some q) : Go l X k_X11_readStatement 89 [(0, rf X a0), (1, .int a1)] [] h (rI q) := by
  unfold f_X11_readStatement_L89 at hf
  obtain ⟨x1, ex1, hf⟩ := lt_some hf
  refine g_iinc (pc := 89) (y := x1) (L' := [(1, .int x1), (0, rf X a0)]) 1 dX11_readStatement_89 rfl (by decide) (ex1.trans rfl) (by simp [rf_cat, rq_cat]) ?_
  refine g_goto (pc := 92) (tgt := 48) dX11_readStatement_92 (by decide) ?_
  refine g_sub [1, 0] rfl ?_
  exact hk48 h a0 x1 q hf
def f_X11_readStatement_L48 (k0 : AH → Nat → Option (Int32 × AH)) : Nat → AH → Nat → Int32 → Option (Int32 × AH)
  | 0, _, _, _ => none
  | n + 1, h, a0, a1 =>
    gs h a0 10 <|
    if (hI h a0 10) ≤ a1 then
      gs h (hR h a0 8) 22 <|
      gb (ib (hI h a0 9) (hN h (hR h a0 8))) <|
      gs h (hR h a0 11) 22 <|
      gb (ib (hI h a0 10) (hN h (hR h a0 11))) <|
      lt (sL h (hR h a0 11) (hI h a0 10).toNatClampNeg (hL h (hR h a0 8) (hI h a0 9).toNatClampNeg)) fun h7 =>
      gs h7 (hR h7 a0 12) 21 <|
      gb (ib (hI h7 a0 10) (hN h7 (hR h7 a0 12))) <|
      lt (sI h7 (hR h7 a0 12) (hI h7 a0 10).toNatClampNeg (hI h7 a0 20)) fun h11 =>
      lt (sI h11 a0 10 ((hI h11 a0 10) + (1 : Int32))) fun h13 =>
      lt (sI h13 a0 9 ((hI h13 a0 9) + (2 : Int32))) fun h15 =>
      k0 h15 a0
    else
      gs h (hR h a0 11) 22 <|
      gb (ib a1 (hN h (hR h a0 11))) <|
      gs h (hR h a0 8) 22 <|
      gb (ib (hI h a0 9) (hN h (hR h a0 8))) <|
      if ¬ (lg_cmp (hL h (hR h a0 11) a1.toNatClampNeg) (hL h (hR h a0 8) (hI h a0 9).toNatClampNeg)) = 0 then
        f_X11_readStatement_L89 k0 (f_X11_readStatement_L48 k0 n) h a0 a1
      else
        gs h (hR h a0 7) 21 <|
        gb (ib (hI h a0 9) (hN h (hR h a0 7))) <|
        bd (f_X11_note h a0 (2 : Int32) (hI h (hR h a0 7) (hI h a0 9).toNatClampNeg)) fun q23 =>
        f_X11_readStatement_L89 k0 (f_X11_readStatement_L48 k0 n) q23 a0 a1
set_option maxRecDepth 100000 in
set_option maxHeartbeats 4000000 in
theorem ok_X11_readStatement_L48 (l : Launch) (X : Cx) (k0 : AH → Nat → Option (Int32 × AH)) (hk0 : ∀ (h : AH) (a0 : Nat) (q : Int32 × AH), k0 h a0 = some q → Go l X k_X11_readStatement 0 [(0, rf X a0)] [] h (rI q)) : ∀ (n : Nat) (h : AH) (a0 : Nat) (a1 : Int32) (q : Int32 × AH), f_X11_readStatement_L48 k0 n h a0 a1 = some q → Go l X k_X11_readStatement 48 [(0, rf X a0), (1, .int a1)] [] h (rI q) := by
  intro n
  induction n with
  | zero =>
    intro h a0 a1 q hf
    unfold f_X11_readStatement_L48 at hf
    cases hf
  | succ n ih =>
    intro h a0 a1 q hf
    unfold f_X11_readStatement_L48 at hf
    refine g_iload_n (pc := 48) 1 dX11_readStatement_48 rfl rfl ?_
    refine g_aload_n (pc := 49) 0 dX11_readStatement_49 rfl rfl ?_
    obtain ⟨g1, hf⟩ := gs_some hf
    refine g_getI (pc := 50) fl_X11_485 dX11_readStatement_50 g1 ?_
    rcases it_some hf with ⟨c2, hf⟩ | ⟨c2, hf⟩
    · refine g_icge_t (pc := 53) (tgt := 95) dX11_readStatement_53 (by decide) c2 ?_
      refine g_aload_n (pc := 95) 0 dX11_readStatement_95 rfl rfl ?_
      refine g_getR (pc := 96) fl_X11_23 dX11_readStatement_96 g1 ?_
      refine g_aload_n (pc := 99) 0 dX11_readStatement_99 rfl rfl ?_
      refine g_getI (pc := 100) fl_X11_485 dX11_readStatement_100 g1 ?_
      refine g_aload_n (pc := 103) 0 dX11_readStatement_103 rfl rfl ?_
      refine g_getR (pc := 104) fl_X11_19 dX11_readStatement_104 g1 ?_
      refine g_aload_n (pc := 107) 0 dX11_readStatement_107 rfl rfl ?_
      refine g_getI (pc := 108) fl_X11_378 dX11_readStatement_108 g1 ?_
      obtain ⟨g3, hf⟩ := gs_some hf
      obtain ⟨b4, hf⟩ := gb_some hf
      refine g_lald (pc := 111) g3 b4 dX11_readStatement_111 ?_
      obtain ⟨g5, hf⟩ := gs_some hf
      obtain ⟨b6, hf⟩ := gb_some hf
      obtain ⟨h7, eh7, hf⟩ := lt_some hf
      refine g_last (pc := 112) g5 b6 dX11_readStatement_112 eh7 ?_
      refine g_aload_n (pc := 113) 0 dX11_readStatement_113 rfl rfl ?_
      have g8 : hS h7 a0 = 10 := (hS_tL eh7 g1)
      refine g_getR (pc := 114) fl_X11_26 dX11_readStatement_114 g8 ?_
      refine g_aload_n (pc := 117) 0 dX11_readStatement_117 rfl rfl ?_
      refine g_getI (pc := 118) fl_X11_485 dX11_readStatement_118 g8 ?_
      refine g_aload_n (pc := 121) 0 dX11_readStatement_121 rfl rfl ?_
      refine g_getI (pc := 122) fl_X11_488 dX11_readStatement_122 g8 ?_
      obtain ⟨g9, hf⟩ := gs_some hf
      obtain ⟨b10, hf⟩ := gb_some hf
      obtain ⟨h11, eh11, hf⟩ := lt_some hf
      refine g_iast (pc := 125) g9 b10 dX11_readStatement_125 eh11 ?_
      refine g_aload_n (pc := 126) 0 dX11_readStatement_126 rfl rfl ?_
      refine g_dup (pc := 127) dX11_readStatement_127 (rf_cat X _) ?_
      have g12 : hS h11 a0 = 10 := (hS_tI eh11 g8)
      refine g_getI (pc := 128) fl_X11_485 dX11_readStatement_128 g12 ?_
      refine g_iconst (pc := 131) (v := (1 : Int32)) dX11_readStatement_131 (by decide) ?_
      refine g_iadd (pc := 132) dX11_readStatement_132 ?_
      obtain ⟨h13, eh13, hf⟩ := lt_some hf
      refine g_putI (pc := 133) fl_X11_485 dX11_readStatement_133 g12 eh13 ?_
      refine g_aload_n (pc := 136) 0 dX11_readStatement_136 rfl rfl ?_
      refine g_dup (pc := 137) dX11_readStatement_137 (rf_cat X _) ?_
      have g14 : hS h13 a0 = 10 := (hS_tI eh13 g12)
      refine g_getI (pc := 138) fl_X11_378 dX11_readStatement_138 g14 ?_
      refine g_iconst (pc := 141) (v := (2 : Int32)) dX11_readStatement_141 (by decide) ?_
      refine g_iadd (pc := 142) dX11_readStatement_142 ?_
      obtain ⟨h15, eh15, hf⟩ := lt_some hf
      refine g_putI (pc := 143) fl_X11_378 dX11_readStatement_143 g14 eh15 ?_
      refine g_goto (pc := 146) (tgt := 0) dX11_readStatement_146 (by decide) ?_
      refine g_sub [0] rfl ?_
      exact hk0 h15 a0 q hf
    · refine g_icge_f (pc := 53) (tgt := 95) dX11_readStatement_53 (by decide) c2 ?_
      refine g_aload_n (pc := 56) 0 dX11_readStatement_56 rfl rfl ?_
      refine g_getR (pc := 57) fl_X11_23 dX11_readStatement_57 g1 ?_
      refine g_iload_n (pc := 60) 1 dX11_readStatement_60 rfl rfl ?_
      obtain ⟨g16, hf⟩ := gs_some hf
      obtain ⟨b17, hf⟩ := gb_some hf
      refine g_lald (pc := 61) g16 b17 dX11_readStatement_61 ?_
      refine g_aload_n (pc := 62) 0 dX11_readStatement_62 rfl rfl ?_
      refine g_getR (pc := 63) fl_X11_19 dX11_readStatement_63 g1 ?_
      refine g_aload_n (pc := 66) 0 dX11_readStatement_66 rfl rfl ?_
      refine g_getI (pc := 67) fl_X11_378 dX11_readStatement_67 g1 ?_
      obtain ⟨g18, hf⟩ := gs_some hf
      obtain ⟨b19, hf⟩ := gb_some hf
      refine g_lald (pc := 70) g18 b19 dX11_readStatement_70 ?_
      refine g_lcmp (pc := 71) dX11_readStatement_71 ?_
      rcases it_some hf with ⟨c20, hf⟩ | ⟨c20, hf⟩
      · refine g_ifne_t (pc := 72) (tgt := 89) dX11_readStatement_72 (by decide) c20 ?_
        exact ok_X11_readStatement_L89 l X k0 hk0 (f_X11_readStatement_L48 k0 n) ih h a0 a1 q hf
      · refine g_ifne_f (pc := 72) (tgt := 89) dX11_readStatement_72 (by decide) (Decidable.of_not_not c20) ?_
        refine g_aload_n (pc := 75) 0 dX11_readStatement_75 rfl rfl ?_
        refine g_iconst (pc := 76) (v := (2 : Int32)) dX11_readStatement_76 (by decide) ?_
        refine g_aload_n (pc := 77) 0 dX11_readStatement_77 rfl rfl ?_
        refine g_getR (pc := 78) fl_X11_16 dX11_readStatement_78 g1 ?_
        refine g_aload_n (pc := 81) 0 dX11_readStatement_81 rfl rfl ?_
        refine g_getI (pc := 82) fl_X11_378 dX11_readStatement_82 g1 ?_
        obtain ⟨g21, hf⟩ := gs_some hf
        obtain ⟨b22, hf⟩ := gb_some hf
        refine g_iald (pc := 85) g21 b22 dX11_readStatement_85 ?_
        obtain ⟨q23, hcq23, hf⟩ := bd_some hf
        refine g_cVV (pc := 86) (k2 := k_X11_note) (av := [.int (2 : Int32), .int (hI h (hR h a0 7) (hI h a0 9).toNatClampNeg)]) (q := q23) rfl dX11_readStatement_86 ck_X11_note m_1692 m_1694 m_63 (ci := 9) rfl (by decide) g1 (by decide) (by decide) rfl (by simp [rf_cat, rq_cat, ca_i, ca_l, ca_r]) (ct_X11_note l X hcq23) ?_
        exact ok_X11_readStatement_L89 l X k0 hk0 (f_X11_readStatement_L48 k0 n) ih q23 a0 a1 q hf
def f_X11_readStatement_L0 : Nat → AH → Nat → Option (Int32 × AH)
  | 0, _, _ => none
  | n + 1, h, a0 =>
    gs h a0 10 <|
    gs h (hR h a0 6) 21 <|
    gb (ib (hI h a0 9) (hN h (hR h a0 6))) <|
    if ¬ (hI h (hR h a0 6) (hI h a0 9).toNatClampNeg) = (1 : Int32) then
      f_X11_readStatement_L149 h a0
    else
      gb (ib ((hI h a0 9) + (1 : Int32)) (hN h (hR h a0 6))) <|
      if ¬ (hI h (hR h a0 6) ((hI h a0 9) + (1 : Int32)).toNatClampNeg) = (3 : Int32) then
        f_X11_readStatement_L149 h a0
      else
        gs h (hR h a0 8) 22 <|
        gb (ib ((hI h a0 9) + (1 : Int32)) (hN h (hR h a0 8))) <|
        if ¬ (lg_cmp (hL h (hR h a0 8) ((hI h a0 9) + (1 : Int32)).toNatClampNeg) (58 : Int64)) = 0 then
          f_X11_readStatement_L149 h a0
        else
          lt ((0 : Int32)) fun x10 =>
          f_X11_readStatement_L48 (f_X11_readStatement_L0 n) FU h a0 x10
set_option maxRecDepth 100000 in
set_option maxHeartbeats 4000000 in
theorem ok_X11_readStatement_L0 (l : Launch) (X : Cx) : ∀ (n : Nat) (h : AH) (a0 : Nat) (q : Int32 × AH), f_X11_readStatement_L0 n h a0 = some q → Go l X k_X11_readStatement 0 [(0, rf X a0)] [] h (rI q) := by
  intro n
  induction n with
  | zero =>
    intro h a0 q hf
    unfold f_X11_readStatement_L0 at hf
    cases hf
  | succ n ih =>
    intro h a0 q hf
    unfold f_X11_readStatement_L0 at hf
    refine g_aload_n (pc := 0) 0 dX11_readStatement_0 rfl rfl ?_
    obtain ⟨g1, hf⟩ := gs_some hf
    refine g_getR (pc := 1) fl_X11_13 dX11_readStatement_1 g1 ?_
    refine g_aload_n (pc := 4) 0 dX11_readStatement_4 rfl rfl ?_
    refine g_getI (pc := 5) fl_X11_378 dX11_readStatement_5 g1 ?_
    obtain ⟨g2, hf⟩ := gs_some hf
    obtain ⟨b3, hf⟩ := gb_some hf
    refine g_iald (pc := 8) g2 b3 dX11_readStatement_8 ?_
    refine g_iconst (pc := 9) (v := (1 : Int32)) dX11_readStatement_9 (by decide) ?_
    rcases it_some hf with ⟨c4, hf⟩ | ⟨c4, hf⟩
    · refine g_icne_t (pc := 10) (tgt := 149) dX11_readStatement_10 (by decide) c4 ?_
      exact ok_X11_readStatement_L149 l X h a0 q hf
    · refine g_icne_f (pc := 10) (tgt := 149) dX11_readStatement_10 (by decide) (Decidable.of_not_not c4) ?_
      refine g_aload_n (pc := 13) 0 dX11_readStatement_13 rfl rfl ?_
      refine g_getR (pc := 14) fl_X11_13 dX11_readStatement_14 g1 ?_
      refine g_aload_n (pc := 17) 0 dX11_readStatement_17 rfl rfl ?_
      refine g_getI (pc := 18) fl_X11_378 dX11_readStatement_18 g1 ?_
      refine g_iconst (pc := 21) (v := (1 : Int32)) dX11_readStatement_21 (by decide) ?_
      refine g_iadd (pc := 22) dX11_readStatement_22 ?_
      obtain ⟨b5, hf⟩ := gb_some hf
      refine g_iald (pc := 23) g2 b5 dX11_readStatement_23 ?_
      refine g_iconst (pc := 24) (v := (3 : Int32)) dX11_readStatement_24 (by decide) ?_
      rcases it_some hf with ⟨c6, hf⟩ | ⟨c6, hf⟩
      · refine g_icne_t (pc := 25) (tgt := 149) dX11_readStatement_25 (by decide) c6 ?_
        exact ok_X11_readStatement_L149 l X h a0 q hf
      · refine g_icne_f (pc := 25) (tgt := 149) dX11_readStatement_25 (by decide) (Decidable.of_not_not c6) ?_
        refine g_aload_n (pc := 28) 0 dX11_readStatement_28 rfl rfl ?_
        refine g_getR (pc := 29) fl_X11_19 dX11_readStatement_29 g1 ?_
        refine g_aload_n (pc := 32) 0 dX11_readStatement_32 rfl rfl ?_
        refine g_getI (pc := 33) fl_X11_378 dX11_readStatement_33 g1 ?_
        refine g_iconst (pc := 36) (v := (1 : Int32)) dX11_readStatement_36 (by decide) ?_
        refine g_iadd (pc := 37) dX11_readStatement_37 ?_
        obtain ⟨g7, hf⟩ := gs_some hf
        obtain ⟨b8, hf⟩ := gb_some hf
        refine g_lald (pc := 38) g7 b8 dX11_readStatement_38 ?_
        refine g_ldc2 (pc := 39) (v := (58 : Int64)) m_1691 dX11_readStatement_39 ?_
        refine g_lcmp (pc := 42) dX11_readStatement_42 ?_
        rcases it_some hf with ⟨c9, hf⟩ | ⟨c9, hf⟩
        · refine g_ifne_t (pc := 43) (tgt := 149) dX11_readStatement_43 (by decide) c9 ?_
          exact ok_X11_readStatement_L149 l X h a0 q hf
        · refine g_ifne_f (pc := 43) (tgt := 149) dX11_readStatement_43 (by decide) (Decidable.of_not_not c9) ?_
          refine g_iconst (pc := 46) (v := (0 : Int32)) dX11_readStatement_46 (by decide) ?_
          obtain ⟨x10, ex10, hf⟩ := lt_some hf
          refine g_istore_n (pc := 47) (L' := [(1, .int x10), (0, rf X a0)]) dX11_readStatement_47 rfl (by decide) ex10 (by simp [rf_cat, rq_cat]) ?_
          refine g_sub [1, 0] rfl ?_
          exact ok_X11_readStatement_L48 l X (f_X11_readStatement_L0 n) ih FU h a0 x10 q hf
def f_X11_readStatement (h : AH) (a0 : Nat) : Option (Int32 × AH) :=
  f_X11_readStatement_L0 FU h a0
set_option maxRecDepth 100000 in
set_option maxHeartbeats 4000000 in
theorem ok_X11_readStatement (l : Launch) (X : Cx) {h : AH} {a0 : Nat} {q : Int32 × AH} (hf : f_X11_readStatement h a0 = some q) : Go l X k_X11_readStatement 0 [(0, rf X a0)] [] h (rI q) := by
  unfold f_X11_readStatement at hf
  exact ok_X11_readStatement_L0 l X FU h a0 q hf
theorem ct_X11_readStatement (l : Launch) (X : Cx) {h : AH} {a0 : Nat} {q : Int32 × AH} (hf : f_X11_readStatement h a0 = some q) : Ct l X k_X11_readStatement [rf X a0] h (rI q) := ct_of ck_X11_readStatement (by simp [lg_sl, rf_cat, rq_cat, ca_i, ca_l, ca_r]) (by simp [lv_args, rf_cat, rq_cat, ca_i, ca_l, ca_r]) (ok_X11_readStatement l X hf)
def f_X11_resolve_L155 (h : AH) (a0 : Nat) (a1 : Int32) (a3 : Int32) (a4 : Int32) : Option (AH) :=
  gs h a0 10 <|
  gs h (hR h a0 15) 21 <|
  gb (ib a1 (hN h (hR h a0 15))) <|
  bd (f_X11_put h a3 (a4.toInt64)) fun v4 =>
  gb (ib a1 (hN h (hR h a0 15))) <|
  lt (sI h (hR h a0 15) a1.toNatClampNeg ((hI h (hR h a0 15) a1.toNatClampNeg) ||| v4)) fun h6 =>
  some h6
set_option maxRecDepth 100000 in
set_option maxHeartbeats 4000000 in
theorem ok_X11_resolve_L155 (l : Launch) (X : Cx) (h : AH) (a0 : Nat) (a1 : Int32) (a3 : Int32) (a4 : Int32) (q : AH) (hf : f_X11_resolve_L155 h a0 a1 a3 a4 = some q) : Go l X k_X11_resolve 155 [(0, rf X a0), (1, .int a1), (3, .int a3), (4, .int a4)] [] h (rV q) := by
  unfold f_X11_resolve_L155 at hf
  refine g_aload_n (pc := 155) 0 dX11_resolve_155 rfl rfl ?_
  obtain ⟨g1, hf⟩ := gs_some hf
  refine g_getR (pc := 156) fl_X11_32 dX11_resolve_156 g1 ?_
  refine g_iload_n (pc := 159) 1 dX11_resolve_159 rfl rfl ?_
  refine g_dup2 (pc := 160) dX11_resolve_160 rfl (rf_cat X _) ?_
  obtain ⟨g2, hf⟩ := gs_some hf
  obtain ⟨b3, hf⟩ := gb_some hf
  refine g_iald (pc := 161) g2 b3 dX11_resolve_161 ?_
  refine g_iload_n (pc := 162) 2 dX11_resolve_162 rfl rfl ?_
  refine g_iload (pc := 163) 3 dX11_resolve_163 rfl ?_
  refine g_i2l (pc := 165) dX11_resolve_165 ?_
  obtain ⟨v4, hcv4, hf⟩ := bd_some hf
  refine g_cSI (pc := 166) (k2 := k_X11_put) (av := [.int a3, .long (a4.toInt64)]) (q := (v4, h)) rfl dX11_resolve_166 ck_X11_put m_1773 m_1774 (by decide) (by decide) rfl (by simp [rf_cat, rq_cat, ca_i, ca_l, ca_r]) (ct_X11_put l X hcv4) ?_
  refine g_ior (pc := 169) dX11_resolve_169 ?_
  obtain ⟨b5, hf⟩ := gb_some hf
  obtain ⟨h6, eh6, hf⟩ := lt_some hf
  refine g_iast (pc := 170) g2 b5 dX11_resolve_170 eh6 ?_
  obtain rfl := Option.some.inj hf
  exact g_vret (pc := 171) rfl dX11_resolve_171
def f_X11_resolve_L144 (h : AH) (a0 : Nat) (a1 : Int32) (a3 : Int32) (a4 : Int32) : Option (AH) :=
  gs h a0 10 <|
  gs h (hR h a0 18) 21 <|
  gb (ib a1 (hN h (hR h a0 18))) <|
  bd (f_X11_note h a0 (3 : Int32) (hI h (hR h a0 18) a1.toNatClampNeg)) fun q4 =>
  f_X11_resolve_L155 q4 a0 a1 a3 a4
set_option maxRecDepth 100000 in
set_option maxHeartbeats 4000000 in
theorem ok_X11_resolve_L144 (l : Launch) (X : Cx) (h : AH) (a0 : Nat) (a1 : Int32) (a3 : Int32) (a4 : Int32) (q : AH) (hf : f_X11_resolve_L144 h a0 a1 a3 a4 = some q) : Go l X k_X11_resolve 144 [(0, rf X a0), (1, .int a1), (3, .int a3), (4, .int a4)] [] h (rV q) := by
  unfold f_X11_resolve_L144 at hf
  refine g_aload_n (pc := 144) 0 dX11_resolve_144 rfl rfl ?_
  refine g_iconst (pc := 145) (v := (3 : Int32)) dX11_resolve_145 (by decide) ?_
  refine g_aload_n (pc := 146) 0 dX11_resolve_146 rfl rfl ?_
  obtain ⟨g1, hf⟩ := gs_some hf
  refine g_getR (pc := 147) fl_X11_41 dX11_resolve_147 g1 ?_
  refine g_iload_n (pc := 150) 1 dX11_resolve_150 rfl rfl ?_
  obtain ⟨g2, hf⟩ := gs_some hf
  obtain ⟨b3, hf⟩ := gb_some hf
  refine g_iald (pc := 151) g2 b3 dX11_resolve_151 ?_
  obtain ⟨q4, hcq4, hf⟩ := bd_some hf
  refine g_cVV (pc := 152) (k2 := k_X11_note) (av := [.int (3 : Int32), .int (hI h (hR h a0 18) a1.toNatClampNeg)]) (q := q4) rfl dX11_resolve_152 ck_X11_note m_1692 m_1694 m_63 (ci := 9) rfl (by decide) g1 (by decide) (by decide) rfl (by simp [rf_cat, rq_cat, ca_i, ca_l, ca_r]) (ct_X11_note l X hcq4) ?_
  exact ok_X11_resolve_L155 l X q4 a0 a1 a3 a4 q hf
def f_X11_resolve_L105 (h : AH) (a0 : Nat) (a1 : Int32) (a3 : Int32) (a4 : Int32) (s0 : Int32) : Option (AH) :=
  if ¬ s0 = 0 then
    f_X11_resolve_L155 h a0 a1 a3 a4
  else
    bd (f_X11_leastOf h a3) fun v2 =>
    if (lg_cmp (a4.toInt64) v2) < 0 then
      f_X11_resolve_L144 h a0 a1 a3 a4
    else
      bd (f_X11_mostOf h a3) fun v4 =>
      if 0 < (lg_cmp (a4.toInt64) v4) then
        f_X11_resolve_L144 h a0 a1 a3 a4
      else
        bd (f_X11_multipleOf h a3) fun v6 =>
        gb (decide (¬ v6 = 0)) <|
        if (a4 - a4 / v6 * v6) = 0 then
          f_X11_resolve_L155 h a0 a1 a3 a4
        else
          f_X11_resolve_L144 h a0 a1 a3 a4
set_option maxRecDepth 100000 in
set_option maxHeartbeats 4000000 in
theorem ok_X11_resolve_L105 (l : Launch) (X : Cx) (h : AH) (a0 : Nat) (a1 : Int32) (a3 : Int32) (a4 : Int32) (s0 : Int32) (q : AH) (hf : f_X11_resolve_L105 h a0 a1 a3 a4 s0 = some q) : Go l X k_X11_resolve 105 [(0, rf X a0), (1, .int a1), (3, .int a3), (4, .int a4)] [.int s0] h (rV q) := by
  unfold f_X11_resolve_L105 at hf
  refine g_istore (pc := 105) (L' := [(5, .int s0), (0, rf X a0), (1, .int a1), (3, .int a3), (4, .int a4)]) dX11_resolve_105 (by decide) rfl rfl ?_
  refine g_iload (pc := 107) 0 dX11_resolve_107 rfl ?_
  rcases it_some hf with ⟨c1, hf⟩ | ⟨c1, hf⟩
  · refine g_ifne_t (pc := 109) (tgt := 155) dX11_resolve_109 (by decide) c1 ?_
    refine g_sub [1, 2, 3, 4] rfl ?_
    exact ok_X11_resolve_L155 l X h a0 a1 a3 a4 q hf
  · refine g_ifne_f (pc := 109) (tgt := 155) dX11_resolve_109 (by decide) (Decidable.of_not_not c1) ?_
    refine g_iload (pc := 112) 4 dX11_resolve_112 rfl ?_
    refine g_i2l (pc := 114) dX11_resolve_114 ?_
    refine g_iload_n (pc := 115) 3 dX11_resolve_115 rfl rfl ?_
    obtain ⟨v2, hcv2, hf⟩ := bd_some hf
    refine g_cSJ (pc := 116) (k2 := k_X11_leastOf) (av := [.int a3]) (q := (v2, h)) rfl dX11_resolve_116 ck_X11_leastOf m_1736 m_1737 (by decide) (by decide) rfl (by simp [rf_cat, rq_cat, ca_i, ca_l, ca_r]) (ct_X11_leastOf l X hcv2) ?_
    refine g_lcmp (pc := 119) dX11_resolve_119 ?_
    rcases it_some hf with ⟨c3, hf⟩ | ⟨c3, hf⟩
    · refine g_iflt_t (pc := 120) (tgt := 144) dX11_resolve_120 (by decide) c3 ?_
      refine g_sub [1, 2, 3, 4] rfl ?_
      exact ok_X11_resolve_L144 l X h a0 a1 a3 a4 q hf
    · refine g_iflt_f (pc := 120) (tgt := 144) dX11_resolve_120 (by decide) c3 ?_
      refine g_iload (pc := 123) 4 dX11_resolve_123 rfl ?_
      refine g_i2l (pc := 125) dX11_resolve_125 ?_
      refine g_iload_n (pc := 126) 3 dX11_resolve_126 rfl rfl ?_
      obtain ⟨v4, hcv4, hf⟩ := bd_some hf
      refine g_cSJ (pc := 127) (k2 := k_X11_mostOf) (av := [.int a3]) (q := (v4, h)) rfl dX11_resolve_127 ck_X11_mostOf m_1743 m_1744 (by decide) (by decide) rfl (by simp [rf_cat, rq_cat, ca_i, ca_l, ca_r]) (ct_X11_mostOf l X hcv4) ?_
      refine g_lcmp (pc := 130) dX11_resolve_130 ?_
      rcases it_some hf with ⟨c5, hf⟩ | ⟨c5, hf⟩
      · refine g_ifgt_t (pc := 131) (tgt := 144) dX11_resolve_131 (by decide) c5 ?_
        refine g_sub [1, 2, 3, 4] rfl ?_
        exact ok_X11_resolve_L144 l X h a0 a1 a3 a4 q hf
      · refine g_ifgt_f (pc := 131) (tgt := 144) dX11_resolve_131 (by decide) c5 ?_
        refine g_iload (pc := 134) 4 dX11_resolve_134 rfl ?_
        refine g_iload_n (pc := 136) 3 dX11_resolve_136 rfl rfl ?_
        obtain ⟨v6, hcv6, hf⟩ := bd_some hf
        refine g_cSI (pc := 137) (k2 := k_X11_multipleOf) (av := [.int a3]) (q := (v6, h)) rfl dX11_resolve_137 ck_X11_multipleOf m_1752 m_1753 (by decide) (by decide) rfl (by simp [rf_cat, rq_cat, ca_i, ca_l, ca_r]) (ct_X11_multipleOf l X hcv6) ?_
        obtain ⟨b7, hf⟩ := gb_some hf
        refine g_irem (pc := 140) (of_decide_eq_true b7) dX11_resolve_140 ?_
        rcases it_some hf with ⟨c8, hf⟩ | ⟨c8, hf⟩
        · refine g_ifeq_t (pc := 141) (tgt := 155) dX11_resolve_141 (by decide) c8 ?_
          refine g_sub [1, 2, 3, 4] rfl ?_
          exact ok_X11_resolve_L155 l X h a0 a1 a3 a4 q hf
        · refine g_ifeq_f (pc := 141) (tgt := 155) dX11_resolve_141 (by decide) c8 ?_
          refine g_sub [1, 2, 3, 4] rfl ?_
          exact ok_X11_resolve_L144 l X h a0 a1 a3 a4 q hf
def f_X11_resolve_L100 (h : AH) (a0 : Nat) (a1 : Int32) (a3 : Int32) (a4 : Int32) : Option (AH) :=
  f_X11_resolve_L105 h a0 a1 a3 a4 (1 : Int32)
set_option maxRecDepth 100000 in
set_option maxHeartbeats 4000000 in
theorem ok_X11_resolve_L100 (l : Launch) (X : Cx) (h : AH) (a0 : Nat) (a1 : Int32) (a3 : Int32) (a4 : Int32) (q : AH) (hf : f_X11_resolve_L100 h a0 a1 a3 a4 = some q) : Go l X k_X11_resolve 100 [(0, rf X a0), (1, .int a1), (3, .int a3), (4, .int a4)] [] h (rV q) := by
  unfold f_X11_resolve_L100 at hf
  refine g_iconst (pc := 100) (v := (1 : Int32)) dX11_resolve_100 (by decide) ?_
  refine g_goto (pc := 101) (tgt := 105) dX11_resolve_101 (by decide) ?_
  exact ok_X11_resolve_L105 l X h a0 a1 a3 a4 (1 : Int32) q hf
def f_X11_resolve_L85 (h : AH) (a0 : Nat) (a1 : Int32) (a3 : Int32) (s0 : Int32) (s1 : Int32) : Option (AH) :=
  lt ((s0 - s1)) fun x1 =>
  if a3 = (7 : Int32) then
    f_X11_resolve_L100 h a0 a1 a3 x1
  else
    if ¬ a3 = (8 : Int32) then
      f_X11_resolve_L105 h a0 a1 a3 x1 (0 : Int32)
    else
      f_X11_resolve_L100 h a0 a1 a3 x1
set_option maxRecDepth 100000 in
set_option maxHeartbeats 4000000 in
theorem ok_X11_resolve_L85 (l : Launch) (X : Cx) (h : AH) (a0 : Nat) (a1 : Int32) (a3 : Int32) (s0 : Int32) (s1 : Int32) (q : AH) (hf : f_X11_resolve_L85 h a0 a1 a3 s0 s1 = some q) : Go l X k_X11_resolve 85 [(0, rf X a0), (1, .int a1), (3, .int a3)] [.int s1, .int s0] h (rV q) := by
  unfold f_X11_resolve_L85 at hf
  refine g_isub (pc := 85) dX11_resolve_85 ?_
  obtain ⟨x1, ex1, hf⟩ := lt_some hf
  refine g_istore (pc := 86) (L' := [(4, .int x1), (0, rf X a0), (1, .int a1), (3, .int a3)]) dX11_resolve_86 (by decide) ex1 rfl ?_
  refine g_iload_n (pc := 88) 3 dX11_resolve_88 rfl rfl ?_
  refine g_bipush (pc := 89) (v := (7 : Int32)) dX11_resolve_89 (by decide) ?_
  rcases it_some hf with ⟨c2, hf⟩ | ⟨c2, hf⟩
  · refine g_iceq_t (pc := 91) (tgt := 100) dX11_resolve_91 (by decide) c2 ?_
    refine g_sub [1, 2, 3, 0] rfl ?_
    exact ok_X11_resolve_L100 l X h a0 a1 a3 x1 q hf
  · refine g_iceq_f (pc := 91) (tgt := 100) dX11_resolve_91 (by decide) c2 ?_
    refine g_iload_n (pc := 94) 3 dX11_resolve_94 rfl rfl ?_
    refine g_bipush (pc := 95) (v := (8 : Int32)) dX11_resolve_95 (by decide) ?_
    rcases it_some hf with ⟨c3, hf⟩ | ⟨c3, hf⟩
    · refine g_icne_t (pc := 97) (tgt := 104) dX11_resolve_97 (by decide) c3 ?_
      refine g_iconst (pc := 104) (v := (0 : Int32)) dX11_resolve_104 (by decide) ?_
      refine g_sub [1, 2, 3, 0] rfl ?_
      exact ok_X11_resolve_L105 l X h a0 a1 a3 x1 (0 : Int32) q hf
    · refine g_icne_f (pc := 97) (tgt := 104) dX11_resolve_97 (by decide) (Decidable.of_not_not c3) ?_
      refine g_sub [1, 2, 3, 0] rfl ?_
      exact ok_X11_resolve_L100 l X h a0 a1 a3 x1 q hf
def f_X11_resolve_L75 (h : AH) (a0 : Nat) (a1 : Int32) (a3 : Int32) (s0 : Int32) : Option (AH) :=
  gs h a0 10 <|
  gs h (hR h a0 14) 21 <|
  gb (ib a1 (hN h (hR h a0 14))) <|
  f_X11_resolve_L85 h a0 a1 a3 s0 (hI h (hR h a0 14) a1.toNatClampNeg)
set_option maxRecDepth 100000 in
set_option maxHeartbeats 4000000 in
theorem ok_X11_resolve_L75 (l : Launch) (X : Cx) (h : AH) (a0 : Nat) (a1 : Int32) (a3 : Int32) (s0 : Int32) (q : AH) (hf : f_X11_resolve_L75 h a0 a1 a3 s0 = some q) : Go l X k_X11_resolve 75 [(0, rf X a0), (1, .int a1), (3, .int a3)] [.int s0] h (rV q) := by
  unfold f_X11_resolve_L75 at hf
  refine g_aload_n (pc := 75) 0 dX11_resolve_75 rfl rfl ?_
  obtain ⟨g1, hf⟩ := gs_some hf
  refine g_getR (pc := 76) fl_X11_29 dX11_resolve_76 g1 ?_
  refine g_iload_n (pc := 79) 1 dX11_resolve_79 rfl rfl ?_
  obtain ⟨g2, hf⟩ := gs_some hf
  obtain ⟨b3, hf⟩ := gb_some hf
  refine g_iald (pc := 80) g2 b3 dX11_resolve_80 ?_
  refine g_goto (pc := 81) (tgt := 85) dX11_resolve_81 (by decide) ?_
  exact ok_X11_resolve_L85 l X h a0 a1 a3 s0 (hI h (hR h a0 14) a1.toNatClampNeg) q hf
def f_X11_resolve_L32 (h : AH) (a0 : Nat) (a1 : Int32) (a2 : Int32) : Option (AH) :=
  gs h a0 10 <|
  if ¬ a2 = (hI h a0 10) then
    gs h (hR h a0 16) 21 <|
    gb (ib a1 (hN h (hR h a0 16))) <|
    lt ((hI h (hR h a0 16) a1.toNatClampNeg)) fun x5 =>
    gs h (hR h a0 12) 21 <|
    gb (ib a2 (hN h (hR h a0 12))) <|
    if x5 = (2 : Int32) then
      f_X11_resolve_L75 h a0 a1 x5 (hI h (hR h a0 12) a2.toNatClampNeg)
    else
      if ¬ x5 = (4 : Int32) then
        f_X11_resolve_L85 h a0 a1 x5 (hI h (hR h a0 12) a2.toNatClampNeg) (0 : Int32)
      else
        f_X11_resolve_L75 h a0 a1 x5 (hI h (hR h a0 12) a2.toNatClampNeg)
  else
    gs h (hR h a0 18) 21 <|
    gb (ib a1 (hN h (hR h a0 18))) <|
    bd (f_X11_note h a0 (2 : Int32) (hI h (hR h a0 18) a1.toNatClampNeg)) fun q12 =>
    some q12
set_option maxRecDepth 100000 in
set_option maxHeartbeats 4000000 in
theorem ok_X11_resolve_L32 (l : Launch) (X : Cx) (h : AH) (a0 : Nat) (a1 : Int32) (a2 : Int32) (q : AH) (hf : f_X11_resolve_L32 h a0 a1 a2 = some q) : Go l X k_X11_resolve 32 [(0, rf X a0), (1, .int a1), (2, .int a2)] [] h (rV q) := by
  unfold f_X11_resolve_L32 at hf
  refine g_iload_n (pc := 32) 2 dX11_resolve_32 rfl rfl ?_
  refine g_aload_n (pc := 33) 0 dX11_resolve_33 rfl rfl ?_
  obtain ⟨g1, hf⟩ := gs_some hf
  refine g_getI (pc := 34) fl_X11_485 dX11_resolve_34 g1 ?_
  rcases it_some hf with ⟨c2, hf⟩ | ⟨c2, hf⟩
  · refine g_icne_t (pc := 37) (tgt := 52) dX11_resolve_37 (by decide) c2 ?_
    refine g_aload_n (pc := 52) 0 dX11_resolve_52 rfl rfl ?_
    refine g_getR (pc := 53) fl_X11_35 dX11_resolve_53 g1 ?_
    refine g_iload_n (pc := 56) 1 dX11_resolve_56 rfl rfl ?_
    obtain ⟨g3, hf⟩ := gs_some hf
    obtain ⟨b4, hf⟩ := gb_some hf
    refine g_iald (pc := 57) g3 b4 dX11_resolve_57 ?_
    obtain ⟨x5, ex5, hf⟩ := lt_some hf
    refine g_istore_n (pc := 58) (L' := [(3, .int x5), (0, rf X a0), (1, .int a1), (2, .int a2)]) dX11_resolve_58 rfl (by decide) ex5 rfl ?_
    refine g_aload_n (pc := 59) 1 dX11_resolve_59 rfl rfl ?_
    refine g_getR (pc := 60) fl_X11_26 dX11_resolve_60 g1 ?_
    refine g_iload_n (pc := 63) 3 dX11_resolve_63 rfl rfl ?_
    obtain ⟨g6, hf⟩ := gs_some hf
    obtain ⟨b7, hf⟩ := gb_some hf
    refine g_iald (pc := 64) g6 b7 dX11_resolve_64 ?_
    refine g_iload_n (pc := 65) 0 dX11_resolve_65 rfl rfl ?_
    refine g_iconst (pc := 66) (v := (2 : Int32)) dX11_resolve_66 (by decide) ?_
    rcases it_some hf with ⟨c8, hf⟩ | ⟨c8, hf⟩
    · refine g_iceq_t (pc := 67) (tgt := 75) dX11_resolve_67 (by decide) c8 ?_
      refine g_sub [1, 2, 0] rfl ?_
      exact ok_X11_resolve_L75 l X h a0 a1 x5 (hI h (hR h a0 12) a2.toNatClampNeg) q hf
    · refine g_iceq_f (pc := 67) (tgt := 75) dX11_resolve_67 (by decide) c8 ?_
      refine g_iload_n (pc := 70) 0 dX11_resolve_70 rfl rfl ?_
      refine g_iconst (pc := 71) (v := (4 : Int32)) dX11_resolve_71 (by decide) ?_
      rcases it_some hf with ⟨c9, hf⟩ | ⟨c9, hf⟩
      · refine g_icne_t (pc := 72) (tgt := 84) dX11_resolve_72 (by decide) c9 ?_
        refine g_iconst (pc := 84) (v := (0 : Int32)) dX11_resolve_84 (by decide) ?_
        refine g_sub [1, 2, 0] rfl ?_
        exact ok_X11_resolve_L85 l X h a0 a1 x5 (hI h (hR h a0 12) a2.toNatClampNeg) (0 : Int32) q hf
      · refine g_icne_f (pc := 72) (tgt := 84) dX11_resolve_72 (by decide) (Decidable.of_not_not c9) ?_
        refine g_sub [1, 2, 0] rfl ?_
        exact ok_X11_resolve_L75 l X h a0 a1 x5 (hI h (hR h a0 12) a2.toNatClampNeg) q hf
  · refine g_icne_f (pc := 37) (tgt := 52) dX11_resolve_37 (by decide) (Decidable.of_not_not c2) ?_
    refine g_aload_n (pc := 40) 0 dX11_resolve_40 rfl rfl ?_
    refine g_iconst (pc := 41) (v := (2 : Int32)) dX11_resolve_41 (by decide) ?_
    refine g_aload_n (pc := 42) 0 dX11_resolve_42 rfl rfl ?_
    refine g_getR (pc := 43) fl_X11_41 dX11_resolve_43 g1 ?_
    refine g_iload_n (pc := 46) 1 dX11_resolve_46 rfl rfl ?_
    obtain ⟨g10, hf⟩ := gs_some hf
    obtain ⟨b11, hf⟩ := gb_some hf
    refine g_iald (pc := 47) g10 b11 dX11_resolve_47 ?_
    obtain ⟨q12, hcq12, hf⟩ := bd_some hf
    refine g_cVV (pc := 48) (k2 := k_X11_note) (av := [.int (2 : Int32), .int (hI h (hR h a0 18) a1.toNatClampNeg)]) (q := q12) rfl dX11_resolve_48 ck_X11_note m_1692 m_1694 m_63 (ci := 9) rfl (by decide) g1 (by decide) (by decide) rfl (by simp [rf_cat, rq_cat, ca_i, ca_l, ca_r]) (ct_X11_note l X hcq12) ?_
    obtain rfl := Option.some.inj hf
    exact g_vret (pc := 51) rfl dX11_resolve_51
def f_X11_resolve_L2 : Nat → AH → Nat → Int32 → Int32 → Option (AH)
  | 0, _, _, _, _ => none
  | n + 1, h, a0, a1, a2 =>
    gs h a0 10 <|
    if (hI h a0 10) ≤ a2 then
      f_X11_resolve_L32 h a0 a1 a2
    else
      gs h (hR h a0 11) 22 <|
      gb (ib a2 (hN h (hR h a0 11))) <|
      gs h (hR h a0 17) 22 <|
      gb (ib a1 (hN h (hR h a0 17))) <|
      if (lg_cmp (hL h (hR h a0 11) a2.toNatClampNeg) (hL h (hR h a0 17) a1.toNatClampNeg)) = 0 then
        f_X11_resolve_L32 h a0 a1 a2
      else
        lt (a2 + (1 : Int32)) fun x8 =>
        f_X11_resolve_L2 n h a0 a1 x8
set_option maxRecDepth 100000 in
set_option maxHeartbeats 4000000 in
theorem ok_X11_resolve_L2 (l : Launch) (X : Cx) : ∀ (n : Nat) (h : AH) (a0 : Nat) (a1 : Int32) (a2 : Int32) (q : AH), f_X11_resolve_L2 n h a0 a1 a2 = some q → Go l X k_X11_resolve 2 [(0, rf X a0), (1, .int a1), (2, .int a2)] [] h (rV q) := by
  intro n
  induction n with
  | zero =>
    intro h a0 a1 a2 q hf
    unfold f_X11_resolve_L2 at hf
    cases hf
  | succ n ih =>
    intro h a0 a1 a2 q hf
    unfold f_X11_resolve_L2 at hf
    refine g_iload_n (pc := 2) 2 dX11_resolve_2 rfl rfl ?_
    refine g_aload_n (pc := 3) 0 dX11_resolve_3 rfl rfl ?_
    obtain ⟨g1, hf⟩ := gs_some hf
    refine g_getI (pc := 4) fl_X11_485 dX11_resolve_4 g1 ?_
    rcases it_some hf with ⟨c2, hf⟩ | ⟨c2, hf⟩
    · refine g_icge_t (pc := 7) (tgt := 32) dX11_resolve_7 (by decide) c2 ?_
      exact ok_X11_resolve_L32 l X h a0 a1 a2 q hf
    · refine g_icge_f (pc := 7) (tgt := 32) dX11_resolve_7 (by decide) c2 ?_
      refine g_aload_n (pc := 10) 0 dX11_resolve_10 rfl rfl ?_
      refine g_getR (pc := 11) fl_X11_23 dX11_resolve_11 g1 ?_
      refine g_iload_n (pc := 14) 2 dX11_resolve_14 rfl rfl ?_
      obtain ⟨g3, hf⟩ := gs_some hf
      obtain ⟨b4, hf⟩ := gb_some hf
      refine g_lald (pc := 15) g3 b4 dX11_resolve_15 ?_
      refine g_aload_n (pc := 16) 0 dX11_resolve_16 rfl rfl ?_
      refine g_getR (pc := 17) fl_X11_38 dX11_resolve_17 g1 ?_
      refine g_iload_n (pc := 20) 1 dX11_resolve_20 rfl rfl ?_
      obtain ⟨g5, hf⟩ := gs_some hf
      obtain ⟨b6, hf⟩ := gb_some hf
      refine g_lald (pc := 21) g5 b6 dX11_resolve_21 ?_
      refine g_lcmp (pc := 22) dX11_resolve_22 ?_
      rcases it_some hf with ⟨c7, hf⟩ | ⟨c7, hf⟩
      · refine g_ifeq_t (pc := 23) (tgt := 32) dX11_resolve_23 (by decide) c7 ?_
        exact ok_X11_resolve_L32 l X h a0 a1 a2 q hf
      · refine g_ifeq_f (pc := 23) (tgt := 32) dX11_resolve_23 (by decide) c7 ?_
        obtain ⟨x8, ex8, hf⟩ := lt_some hf
        refine g_iinc (pc := 26) (y := x8) (L' := [(2, .int x8), (0, rf X a0), (1, .int a1)]) 2 dX11_resolve_26 rfl (by decide) (ex8.trans rfl) rfl ?_
        refine g_goto (pc := 29) (tgt := 2) dX11_resolve_29 (by decide) ?_
        refine g_sub [1, 2, 0] rfl ?_
        exact ih h a0 a1 x8 q hf
def f_X11_resolve (h : AH) (a0 : Nat) (a1 : Int32) : Option (AH) :=
  lt ((0 : Int32)) fun x1 =>
  f_X11_resolve_L2 FU h a0 a1 x1
set_option maxRecDepth 100000 in
set_option maxHeartbeats 4000000 in
theorem ok_X11_resolve (l : Launch) (X : Cx) {h : AH} {a0 : Nat} {a1 : Int32} {q : AH} (hf : f_X11_resolve h a0 a1 = some q) : Go l X k_X11_resolve 0 [(0, rf X a0), (1, .int a1)] [] h (rV q) := by
  unfold f_X11_resolve at hf
  refine g_iconst (pc := 0) (v := (0 : Int32)) dX11_resolve_0 (by decide) ?_
  obtain ⟨x1, ex1, hf⟩ := lt_some hf
  refine g_istore_n (pc := 1) (L' := [(2, .int x1), (0, rf X a0), (1, .int a1)]) dX11_resolve_1 rfl (by decide) ex1 rfl ?_
  refine g_sub [1, 2, 0] rfl ?_
  exact ok_X11_resolve_L2 l X FU h a0 a1 x1 q hf
theorem ct_X11_resolve (l : Launch) (X : Cx) {h : AH} {a0 : Nat} {a1 : Int32} {q : AH} (hf : f_X11_resolve h a0 a1 = some q) : Ct l X k_X11_resolve [rf X a0, .int a1] h (rV q) := ct_of ck_X11_resolve (by simp [lg_sl, rf_cat, rq_cat, ca_i, ca_l, ca_r]) (by simp [lv_args, rf_cat, rq_cat, ca_i, ca_l, ca_r]) (ok_X11_resolve l X hf)
def f_X11_readAll_L100 (k73 : AH → Nat → Int32 → Int32 → Option (AH)) (h : AH) (a0 : Nat) (a1 : Int32) (a2 : Int32) : Option (AH) :=
  lt (a2 + (1 : Int32)) fun x1 =>
  k73 h a0 a1 x1
set_option maxRecDepth 100000 in
set_option maxHeartbeats 4000000 in
theorem ok_X11_readAll_L100 (l : Launch) (X : Cx) (k73 : AH → Nat → Int32 → Int32 → Option (AH)) (hk73 : ∀ (h : AH) (a0 : Nat) (a1 : Int32) (a2 : Int32) (q : AH), k73 h a0 a1 a2 = some q → Go l X k_X11_readAll 73 [(0, rf X a0), (1, .int a1), (2, .int a2)] [] h (rV q)) (h : AH) (a0 : Nat) (a1 : Int32) (a2 : Int32) (q : AH) (hf : f_X11_readAll_L100 k73 h a0 a1 a2 = some q) : Go l X k_X11_readAll 100 [(0, rf X a0), (1, .int a1), (2, .int a2)] [] h (rV q) := by
  unfold f_X11_readAll_L100 at hf
  obtain ⟨x1, ex1, hf⟩ := lt_some hf
  refine g_iinc (pc := 100) (y := x1) (L' := [(2, .int x1), (0, rf X a0), (1, .int a1)]) 2 dX11_readAll_100 rfl (by decide) (ex1.trans rfl) rfl ?_
  refine g_goto (pc := 103) (tgt := 73) dX11_readAll_103 (by decide) ?_
  refine g_sub [1, 2, 0] rfl ?_
  exact hk73 h a0 a1 x1 q hf
def f_X11_readAll_L73 : Nat → AH → Nat → Int32 → Int32 → Option (AH)
  | 0, _, _, _, _ => none
  | n + 1, h, a0, a1, a2 =>
    gs h a0 10 <|
    if (hI h a0 13) ≤ a2 then
      some h
    else
      if a1 = 0 then
        some h
      else
        gs h (hR h a0 16) 21 <|
        gb (ib a2 (hN h (hR h a0 16))) <|
        if (hI h (hR h a0 16) a2.toNatClampNeg) = (-1 : Int32) then
          f_X11_readAll_L100 (f_X11_readAll_L73 n) h a0 a1 a2
        else
          bd (f_X11_resolve h a0 a2) fun q7 =>
          f_X11_readAll_L100 (f_X11_readAll_L73 n) q7 a0 a1 a2
set_option maxRecDepth 100000 in
set_option maxHeartbeats 4000000 in
theorem ok_X11_readAll_L73 (l : Launch) (X : Cx) : ∀ (n : Nat) (h : AH) (a0 : Nat) (a1 : Int32) (a2 : Int32) (q : AH), f_X11_readAll_L73 n h a0 a1 a2 = some q → Go l X k_X11_readAll 73 [(0, rf X a0), (1, .int a1), (2, .int a2)] [] h (rV q) := by
  intro n
  induction n with
  | zero =>
    intro h a0 a1 a2 q hf
    unfold f_X11_readAll_L73 at hf
    cases hf
  | succ n ih =>
    intro h a0 a1 a2 q hf
    unfold f_X11_readAll_L73 at hf
    refine g_iload_n (pc := 73) 2 dX11_readAll_73 rfl rfl ?_
    refine g_aload_n (pc := 74) 0 dX11_readAll_74 rfl rfl ?_
    obtain ⟨g1, hf⟩ := gs_some hf
    refine g_getI (pc := 75) fl_X11_506 dX11_readAll_75 g1 ?_
    rcases it_some hf with ⟨c2, hf⟩ | ⟨c2, hf⟩
    · refine g_icge_t (pc := 78) (tgt := 106) dX11_readAll_78 (by decide) c2 ?_
      obtain rfl := Option.some.inj hf
      exact g_vret (pc := 106) rfl dX11_readAll_106
    · refine g_icge_f (pc := 78) (tgt := 106) dX11_readAll_78 (by decide) c2 ?_
      refine g_iload_n (pc := 81) 1 dX11_readAll_81 rfl rfl ?_
      rcases it_some hf with ⟨c3, hf⟩ | ⟨c3, hf⟩
      · refine g_ifeq_t (pc := 82) (tgt := 106) dX11_readAll_82 (by decide) c3 ?_
        obtain rfl := Option.some.inj hf
        exact g_vret (pc := 106) rfl dX11_readAll_106
      · refine g_ifeq_f (pc := 82) (tgt := 106) dX11_readAll_82 (by decide) c3 ?_
        refine g_aload_n (pc := 85) 0 dX11_readAll_85 rfl rfl ?_
        refine g_getR (pc := 86) fl_X11_35 dX11_readAll_86 g1 ?_
        refine g_iload_n (pc := 89) 2 dX11_readAll_89 rfl rfl ?_
        obtain ⟨g4, hf⟩ := gs_some hf
        obtain ⟨b5, hf⟩ := gb_some hf
        refine g_iald (pc := 90) g4 b5 dX11_readAll_90 ?_
        refine g_iconst (pc := 91) (v := (-1 : Int32)) dX11_readAll_91 (by decide) ?_
        rcases it_some hf with ⟨c6, hf⟩ | ⟨c6, hf⟩
        · refine g_iceq_t (pc := 92) (tgt := 100) dX11_readAll_92 (by decide) c6 ?_
          exact ok_X11_readAll_L100 l X (f_X11_readAll_L73 n) ih h a0 a1 a2 q hf
        · refine g_iceq_f (pc := 92) (tgt := 100) dX11_readAll_92 (by decide) c6 ?_
          refine g_aload_n (pc := 95) 0 dX11_readAll_95 rfl rfl ?_
          refine g_iload_n (pc := 96) 2 dX11_readAll_96 rfl rfl ?_
          obtain ⟨q7, hcq7, hf⟩ := bd_some hf
          refine g_cVV (pc := 97) (k2 := k_X11_resolve) (av := [.int a2]) (q := q7) rfl dX11_readAll_97 ck_X11_resolve m_1776 m_1778 m_76 (ci := 9) rfl (by decide) g1 (by decide) (by decide) rfl (by simp [rf_cat, rq_cat, ca_i, ca_l, ca_r]) (ct_X11_resolve l X hcq7) ?_
          exact ok_X11_readAll_L100 l X (f_X11_readAll_L73 n) ih q7 a0 a1 a2 q hf
def f_X11_readAll_L71 (h : AH) (a0 : Nat) (a1 : Int32) : Option (AH) :=
  lt ((0 : Int32)) fun x1 =>
  f_X11_readAll_L73 FU h a0 a1 x1
set_option maxRecDepth 100000 in
set_option maxHeartbeats 4000000 in
theorem ok_X11_readAll_L71 (l : Launch) (X : Cx) (h : AH) (a0 : Nat) (a1 : Int32) (q : AH) (hf : f_X11_readAll_L71 h a0 a1 = some q) : Go l X k_X11_readAll 71 [(0, rf X a0), (1, .int a1)] [] h (rV q) := by
  unfold f_X11_readAll_L71 at hf
  refine g_iconst (pc := 71) (v := (0 : Int32)) dX11_readAll_71 (by decide) ?_
  obtain ⟨x1, ex1, hf⟩ := lt_some hf
  refine g_istore_n (pc := 72) (L' := [(2, .int x1), (0, rf X a0), (1, .int a1)]) dX11_readAll_72 rfl (by decide) ex1 rfl ?_
  refine g_sub [1, 2, 0] rfl ?_
  exact ok_X11_readAll_L73 l X FU h a0 a1 x1 q hf
def f_X11_readAll_L47 : Nat → AH → Nat → Int32 → Option (AH)
  | 0, _, _, _ => none
  | n + 1, h, a0, a1 =>
    if a1 = 0 then
      f_X11_readAll_L71 h a0 a1
    else
      gs h a0 10 <|
      gs h (hR h a0 6) 21 <|
      gb (ib (hI h a0 9) (hN h (hR h a0 6))) <|
      if (hI h (hR h a0 6) (hI h a0 9).toNatClampNeg) = 0 then
        f_X11_readAll_L71 h a0 a1
      else
        bd (f_X11_readStatement h a0) fun q6 =>
        lt (q6.1) fun x7 =>
        f_X11_readAll_L47 n q6.2 a0 x7
set_option maxRecDepth 100000 in
set_option maxHeartbeats 4000000 in
theorem ok_X11_readAll_L47 (l : Launch) (X : Cx) : ∀ (n : Nat) (h : AH) (a0 : Nat) (a1 : Int32) (q : AH), f_X11_readAll_L47 n h a0 a1 = some q → Go l X k_X11_readAll 47 [(0, rf X a0), (1, .int a1)] [] h (rV q) := by
  intro n
  induction n with
  | zero =>
    intro h a0 a1 q hf
    unfold f_X11_readAll_L47 at hf
    cases hf
  | succ n ih =>
    intro h a0 a1 q hf
    unfold f_X11_readAll_L47 at hf
    refine g_iload_n (pc := 47) 1 dX11_readAll_47 rfl rfl ?_
    rcases it_some hf with ⟨c1, hf⟩ | ⟨c1, hf⟩
    · refine g_ifeq_t (pc := 48) (tgt := 71) dX11_readAll_48 (by decide) c1 ?_
      exact ok_X11_readAll_L71 l X h a0 a1 q hf
    · refine g_ifeq_f (pc := 48) (tgt := 71) dX11_readAll_48 (by decide) c1 ?_
      refine g_aload_n (pc := 51) 0 dX11_readAll_51 rfl rfl ?_
      obtain ⟨g2, hf⟩ := gs_some hf
      refine g_getR (pc := 52) fl_X11_13 dX11_readAll_52 g2 ?_
      refine g_aload_n (pc := 55) 0 dX11_readAll_55 rfl rfl ?_
      refine g_getI (pc := 56) fl_X11_378 dX11_readAll_56 g2 ?_
      obtain ⟨g3, hf⟩ := gs_some hf
      obtain ⟨b4, hf⟩ := gb_some hf
      refine g_iald (pc := 59) g3 b4 dX11_readAll_59 ?_
      rcases it_some hf with ⟨c5, hf⟩ | ⟨c5, hf⟩
      · refine g_ifeq_t (pc := 60) (tgt := 71) dX11_readAll_60 (by decide) c5 ?_
        exact ok_X11_readAll_L71 l X h a0 a1 q hf
      · refine g_ifeq_f (pc := 60) (tgt := 71) dX11_readAll_60 (by decide) c5 ?_
        refine g_aload_n (pc := 63) 0 dX11_readAll_63 rfl rfl ?_
        obtain ⟨q6, hcq6, hf⟩ := bd_some hf
        refine g_cVI (pc := 64) (k2 := k_X11_readStatement) (av := []) (q := q6) rfl dX11_readAll_64 ck_X11_readStatement m_1687 m_1689 m_62 (ci := 9) rfl (by decide) g2 (by decide) (by decide) rfl (by simp [rf_cat, rq_cat, ca_i, ca_l, ca_r]) (ct_X11_readStatement l X hcq6) ?_
        obtain ⟨x7, ex7, hf⟩ := lt_some hf
        refine g_istore_n (pc := 67) (L' := [(1, .int x7), (0, rf X a0)]) dX11_readAll_67 rfl (by decide) ex7 (by simp [rf_cat, rq_cat]) ?_
        refine g_goto (pc := 68) (tgt := 47) dX11_readAll_68 (by decide) ?_
        refine g_sub [1, 0] rfl ?_
        exact ih q6.2 a0 x7 q hf
def f_X11_readAll_L26 : Nat → AH → Nat → Int32 → Option (AH)
  | 0, _, _, _ => none
  | n + 1, h, a0, a1 =>
    if (16 : Int32) ≤ a1 then
      lt ((1 : Int32)) fun x2 =>
      f_X11_readAll_L47 FU h a0 x2
    else
      gs h a0 10 <|
      gs h (hR h a0 19) 21 <|
      gb (ib a1 (hN h (hR h a0 19))) <|
      lt (sI h (hR h a0 19) a1.toNatClampNeg (0 : Int32)) fun h6 =>
      lt (a1 + (1 : Int32)) fun x7 =>
      f_X11_readAll_L26 n h6 a0 x7
set_option maxRecDepth 100000 in
set_option maxHeartbeats 4000000 in
theorem ok_X11_readAll_L26 (l : Launch) (X : Cx) : ∀ (n : Nat) (h : AH) (a0 : Nat) (a1 : Int32) (q : AH), f_X11_readAll_L26 n h a0 a1 = some q → Go l X k_X11_readAll 26 [(0, rf X a0), (1, .int a1)] [] h (rV q) := by
  intro n
  induction n with
  | zero =>
    intro h a0 a1 q hf
    unfold f_X11_readAll_L26 at hf
    cases hf
  | succ n ih =>
    intro h a0 a1 q hf
    unfold f_X11_readAll_L26 at hf
    refine g_iload_n (pc := 26) 1 dX11_readAll_26 rfl rfl ?_
    refine g_bipush (pc := 27) (v := (16 : Int32)) dX11_readAll_27 (by decide) ?_
    rcases it_some hf with ⟨c1, hf⟩ | ⟨c1, hf⟩
    · refine g_icge_t (pc := 29) (tgt := 45) dX11_readAll_29 (by decide) c1 ?_
      refine g_iconst (pc := 45) (v := (1 : Int32)) dX11_readAll_45 (by decide) ?_
      obtain ⟨x2, ex2, hf⟩ := lt_some hf
      refine g_istore_n (pc := 46) (L' := [(1, .int x2), (0, rf X a0)]) dX11_readAll_46 rfl (by decide) ex2 (by simp [rf_cat, rq_cat]) ?_
      refine g_sub [1, 0] rfl ?_
      exact ok_X11_readAll_L47 l X FU h a0 x2 q hf
    · refine g_icge_f (pc := 29) (tgt := 45) dX11_readAll_29 (by decide) c1 ?_
      refine g_aload_n (pc := 32) 0 dX11_readAll_32 rfl rfl ?_
      obtain ⟨g3, hf⟩ := gs_some hf
      refine g_getR (pc := 33) fl_X11_44 dX11_readAll_33 g3 ?_
      refine g_iload_n (pc := 36) 1 dX11_readAll_36 rfl rfl ?_
      refine g_iconst (pc := 37) (v := (0 : Int32)) dX11_readAll_37 (by decide) ?_
      obtain ⟨g4, hf⟩ := gs_some hf
      obtain ⟨b5, hf⟩ := gb_some hf
      obtain ⟨h6, eh6, hf⟩ := lt_some hf
      refine g_iast (pc := 38) g4 b5 dX11_readAll_38 eh6 ?_
      obtain ⟨x7, ex7, hf⟩ := lt_some hf
      refine g_iinc (pc := 39) (y := x7) (L' := [(1, .int x7), (0, rf X a0)]) 1 dX11_readAll_39 rfl (by decide) (ex7.trans rfl) (by simp [rf_cat, rq_cat]) ?_
      refine g_goto (pc := 42) (tgt := 26) dX11_readAll_42 (by decide) ?_
      refine g_sub [1, 0] rfl ?_
      exact ih h6 a0 x7 q hf
def f_X11_readAll (h : AH) (a0 : Nat) : Option (AH) :=
  gs h a0 10 <|
  bd (f_X11_tokenize h a0) fun q2 =>
  gs q2 a0 10 <|
  lt (sI q2 a0 9 (0 : Int32)) fun h4 =>
  lt (sI h4 a0 10 (0 : Int32)) fun h6 =>
  lt (sI h6 a0 13 (0 : Int32)) fun h8 =>
  lt (sI h8 a0 20 (0 : Int32)) fun h10 =>
  lt ((0 : Int32)) fun x11 =>
  f_X11_readAll_L26 FU h10 a0 x11
set_option maxRecDepth 100000 in
set_option maxHeartbeats 4000000 in
theorem ok_X11_readAll (l : Launch) (X : Cx) {h : AH} {a0 : Nat} {q : AH} (hf : f_X11_readAll h a0 = some q) : Go l X k_X11_readAll 0 [(0, rf X a0)] [] h (rV q) := by
  unfold f_X11_readAll at hf
  refine g_aload_n (pc := 0) 0 dX11_readAll_0 rfl rfl ?_
  obtain ⟨g1, hf⟩ := gs_some hf
  obtain ⟨q2, hcq2, hf⟩ := bd_some hf
  refine g_cVV (pc := 1) (k2 := k_X11_tokenize) (av := []) (q := q2) rfl dX11_readAll_1 ck_X11_tokenize m_1659 m_1661 m_58 (ci := 9) rfl (by decide) g1 (by decide) (by decide) rfl (by simp [rf_cat, rq_cat, ca_i, ca_l, ca_r]) (ct_X11_tokenize l X hcq2) ?_
  refine g_aload_n (pc := 4) 0 dX11_readAll_4 rfl rfl ?_
  refine g_iconst (pc := 5) (v := (0 : Int32)) dX11_readAll_5 (by decide) ?_
  obtain ⟨g3, hf⟩ := gs_some hf
  obtain ⟨h4, eh4, hf⟩ := lt_some hf
  refine g_putI (pc := 6) fl_X11_378 dX11_readAll_6 g3 eh4 ?_
  refine g_aload_n (pc := 9) 0 dX11_readAll_9 rfl rfl ?_
  refine g_iconst (pc := 10) (v := (0 : Int32)) dX11_readAll_10 (by decide) ?_
  have g5 : hS h4 a0 = 10 := (hS_tI eh4 g3)
  obtain ⟨h6, eh6, hf⟩ := lt_some hf
  refine g_putI (pc := 11) fl_X11_485 dX11_readAll_11 g5 eh6 ?_
  refine g_aload_n (pc := 14) 0 dX11_readAll_14 rfl rfl ?_
  refine g_iconst (pc := 15) (v := (0 : Int32)) dX11_readAll_15 (by decide) ?_
  have g7 : hS h6 a0 = 10 := (hS_tI eh6 g5)
  obtain ⟨h8, eh8, hf⟩ := lt_some hf
  refine g_putI (pc := 16) fl_X11_506 dX11_readAll_16 g7 eh8 ?_
  refine g_aload_n (pc := 19) 0 dX11_readAll_19 rfl rfl ?_
  refine g_iconst (pc := 20) (v := (0 : Int32)) dX11_readAll_20 (by decide) ?_
  have g9 : hS h8 a0 = 10 := (hS_tI eh8 g7)
  obtain ⟨h10, eh10, hf⟩ := lt_some hf
  refine g_putI (pc := 21) fl_X11_488 dX11_readAll_21 g9 eh10 ?_
  refine g_iconst (pc := 24) (v := (0 : Int32)) dX11_readAll_24 (by decide) ?_
  obtain ⟨x11, ex11, hf⟩ := lt_some hf
  refine g_istore_n (pc := 25) (L' := [(1, .int x11), (0, rf X a0)]) dX11_readAll_25 rfl (by decide) ex11 (by simp [rf_cat, rq_cat]) ?_
  refine g_sub [1, 0] rfl ?_
  exact ok_X11_readAll_L26 l X FU h10 a0 x11 q hf
theorem ct_X11_readAll (l : Launch) (X : Cx) {h : AH} {a0 : Nat} {q : AH} (hf : f_X11_readAll h a0 = some q) : Ct l X k_X11_readAll [rf X a0] h (rV q) := ct_of ck_X11_readAll (by simp [lg_sl, rf_cat, rq_cat, ca_i, ca_l, ca_r]) (by simp [lv_args, rf_cat, rq_cat, ca_i, ca_l, ca_r]) (ok_X11_readAll l X hf)
def f_X11_assemble_L127 : Nat → AH → Nat → Int32 → Option (Int32 × AH)
  | 0, _, _, _ => none
  | n + 1, h, a0, a1 =>
    if (16 : Int32) ≤ a1 then
      gs h a0 10 <|
      some ((hI h a0 13), h)
    else
      gs h a0 10 <|
      gs h (hR h a0 19) 21 <|
      gb (ib a1 (hN h (hR h a0 19))) <|
      gs h (hR h a0 26) 21 <|
      gb (ib a1 (hN h (hR h a0 26))) <|
      lt (sI h (hR h a0 26) a1.toNatClampNeg ((hI h (hR h a0 19) a1.toNatClampNeg) &&& (8191 : Int32))) fun h8 =>
      lt (a1 + (1 : Int32)) fun x9 =>
      f_X11_assemble_L127 n h8 a0 x9
set_option maxRecDepth 100000 in
set_option maxHeartbeats 4000000 in
theorem ok_X11_assemble_L127 (l : Launch) (X : Cx) : ∀ (n : Nat) (h : AH) (a0 : Nat) (a1 : Int32) (q : Int32 × AH), f_X11_assemble_L127 n h a0 a1 = some q → Go l X k_X11_assemble 127 [(0, rf X a0), (1, .int a1)] [] h (rI q) := by
  intro n
  induction n with
  | zero =>
    intro h a0 a1 q hf
    unfold f_X11_assemble_L127 at hf
    cases hf
  | succ n ih =>
    intro h a0 a1 q hf
    unfold f_X11_assemble_L127 at hf
    refine g_iload_n (pc := 127) 1 dX11_assemble_127 rfl rfl ?_
    refine g_bipush (pc := 128) (v := (16 : Int32)) dX11_assemble_128 (by decide) ?_
    rcases it_some hf with ⟨c1, hf⟩ | ⟨c1, hf⟩
    · refine g_icge_t (pc := 130) (tgt := 155) dX11_assemble_130 (by decide) c1 ?_
      refine g_aload_n (pc := 155) 0 dX11_assemble_155 rfl rfl ?_
      obtain ⟨g2, hf⟩ := gs_some hf
      refine g_getI (pc := 156) fl_X11_506 dX11_assemble_156 g2 ?_
      obtain rfl := Option.some.inj hf
      exact g_iret (pc := 159) rfl dX11_assemble_159
    · refine g_icge_f (pc := 130) (tgt := 155) dX11_assemble_130 (by decide) c1 ?_
      refine g_aload_n (pc := 133) 0 dX11_assemble_133 rfl rfl ?_
      obtain ⟨g3, hf⟩ := gs_some hf
      refine g_getR (pc := 134) fl_X11_62 dX11_assemble_134 g3 ?_
      refine g_iload_n (pc := 137) 1 dX11_assemble_137 rfl rfl ?_
      refine g_aload_n (pc := 138) 0 dX11_assemble_138 rfl rfl ?_
      refine g_getR (pc := 139) fl_X11_44 dX11_assemble_139 g3 ?_
      refine g_iload_n (pc := 142) 1 dX11_assemble_142 rfl rfl ?_
      obtain ⟨g4, hf⟩ := gs_some hf
      obtain ⟨b5, hf⟩ := gb_some hf
      refine g_iald (pc := 143) g4 b5 dX11_assemble_143 ?_
      refine g_sipush (pc := 144) (v := (8191 : Int32)) dX11_assemble_144 (by decide) ?_
      refine g_iand (pc := 147) dX11_assemble_147 ?_
      obtain ⟨g6, hf⟩ := gs_some hf
      obtain ⟨b7, hf⟩ := gb_some hf
      obtain ⟨h8, eh8, hf⟩ := lt_some hf
      refine g_iast (pc := 148) g6 b7 dX11_assemble_148 eh8 ?_
      obtain ⟨x9, ex9, hf⟩ := lt_some hf
      refine g_iinc (pc := 149) (y := x9) (L' := [(1, .int x9), (0, rf X a0)]) 1 dX11_assemble_149 rfl (by decide) (ex9.trans rfl) (by simp [rf_cat, rq_cat]) ?_
      refine g_goto (pc := 152) (tgt := 127) dX11_assemble_152 (by decide) ?_
      refine g_sub [1, 0] rfl ?_
      exact ih h8 a0 x9 q hf
def f_X11_assemble_L100 : Nat → AH → Nat → Int32 → Option (Int32 × AH)
  | 0, _, _, _ => none
  | n + 1, h, a0, a1 =>
    if (2048 : Int32) ≤ a1 then
      lt ((0 : Int32)) fun x2 =>
      f_X11_assemble_L127 FU h a0 x2
    else
      gs h a0 10 <|
      gs h (hR h a0 23) 21 <|
      gb (ib a1 (hN h (hR h a0 23))) <|
      gs h (hR h a0 24) 21 <|
      gb (ib a1 (hN h (hR h a0 24))) <|
      lt (sI h (hR h a0 24) a1.toNatClampNeg (hI h (hR h a0 23) a1.toNatClampNeg)) fun h8 =>
      lt (a1 + (1 : Int32)) fun x9 =>
      f_X11_assemble_L100 n h8 a0 x9
set_option maxRecDepth 100000 in
set_option maxHeartbeats 4000000 in
theorem ok_X11_assemble_L100 (l : Launch) (X : Cx) : ∀ (n : Nat) (h : AH) (a0 : Nat) (a1 : Int32) (q : Int32 × AH), f_X11_assemble_L100 n h a0 a1 = some q → Go l X k_X11_assemble 100 [(0, rf X a0), (1, .int a1)] [] h (rI q) := by
  intro n
  induction n with
  | zero =>
    intro h a0 a1 q hf
    unfold f_X11_assemble_L100 at hf
    cases hf
  | succ n ih =>
    intro h a0 a1 q hf
    unfold f_X11_assemble_L100 at hf
    refine g_iload_n (pc := 100) 1 dX11_assemble_100 rfl rfl ?_
    refine g_sipush (pc := 101) (v := (2048 : Int32)) dX11_assemble_101 (by decide) ?_
    rcases it_some hf with ⟨c1, hf⟩ | ⟨c1, hf⟩
    · refine g_icge_t (pc := 104) (tgt := 125) dX11_assemble_104 (by decide) c1 ?_
      refine g_iconst (pc := 125) (v := (0 : Int32)) dX11_assemble_125 (by decide) ?_
      obtain ⟨x2, ex2, hf⟩ := lt_some hf
      refine g_istore_n (pc := 126) (L' := [(1, .int x2), (0, rf X a0)]) dX11_assemble_126 rfl (by decide) ex2 (by simp [rf_cat, rq_cat]) ?_
      refine g_sub [1, 0] rfl ?_
      exact ok_X11_assemble_L127 l X FU h a0 x2 q hf
    · refine g_icge_f (pc := 104) (tgt := 125) dX11_assemble_104 (by decide) c1 ?_
      refine g_aload_n (pc := 107) 0 dX11_assemble_107 rfl rfl ?_
      obtain ⟨g3, hf⟩ := gs_some hf
      refine g_getR (pc := 108) fl_X11_56 dX11_assemble_108 g3 ?_
      refine g_iload_n (pc := 111) 1 dX11_assemble_111 rfl rfl ?_
      refine g_aload_n (pc := 112) 0 dX11_assemble_112 rfl rfl ?_
      refine g_getR (pc := 113) fl_X11_53 dX11_assemble_113 g3 ?_
      refine g_iload_n (pc := 116) 1 dX11_assemble_116 rfl rfl ?_
      obtain ⟨g4, hf⟩ := gs_some hf
      obtain ⟨b5, hf⟩ := gb_some hf
      refine g_iald (pc := 117) g4 b5 dX11_assemble_117 ?_
      obtain ⟨g6, hf⟩ := gs_some hf
      obtain ⟨b7, hf⟩ := gb_some hf
      obtain ⟨h8, eh8, hf⟩ := lt_some hf
      refine g_iast (pc := 118) g6 b7 dX11_assemble_118 eh8 ?_
      obtain ⟨x9, ex9, hf⟩ := lt_some hf
      refine g_iinc (pc := 119) (y := x9) (L' := [(1, .int x9), (0, rf X a0)]) 1 dX11_assemble_119 rfl (by decide) (ex9.trans rfl) (by simp [rf_cat, rq_cat]) ?_
      refine g_goto (pc := 122) (tgt := 100) dX11_assemble_122 (by decide) ?_
      refine g_sub [1, 0] rfl ?_
      exact ih h8 a0 x9 q hf
def f_X11_assemble_L65 : Nat → AH → Nat → Int32 → Option (Int32 × AH)
  | 0, _, _, _ => none
  | n + 1, h, a0, a1 =>
    gs h a0 10 <|
    if (hI h a0 13) ≤ a1 then
      lt ((0 : Int32)) fun x3 =>
      f_X11_assemble_L100 FU h a0 x3
    else
      gs h (hR h a0 14) 21 <|
      gb (ib a1 (hN h (hR h a0 14))) <|
      gs h (hR h a0 15) 21 <|
      gb (ib a1 (hN h (hR h a0 15))) <|
      gs h (hR h a0 23) 21 <|
      gb (ib ((hI h (hR h a0 14) a1.toNatClampNeg) / (4 : Int32)) (hN h (hR h a0 23))) <|
      lt (sI h (hR h a0 23) ((hI h (hR h a0 14) a1.toNatClampNeg) / (4 : Int32)).toNatClampNeg (hI h (hR h a0 15) a1.toNatClampNeg)) fun h10 =>
      lt (a1 + (1 : Int32)) fun x11 =>
      f_X11_assemble_L65 n h10 a0 x11
set_option maxRecDepth 100000 in
set_option maxHeartbeats 4000000 in
theorem ok_X11_assemble_L65 (l : Launch) (X : Cx) : ∀ (n : Nat) (h : AH) (a0 : Nat) (a1 : Int32) (q : Int32 × AH), f_X11_assemble_L65 n h a0 a1 = some q → Go l X k_X11_assemble 65 [(0, rf X a0), (1, .int a1)] [] h (rI q) := by
  intro n
  induction n with
  | zero =>
    intro h a0 a1 q hf
    unfold f_X11_assemble_L65 at hf
    cases hf
  | succ n ih =>
    intro h a0 a1 q hf
    unfold f_X11_assemble_L65 at hf
    refine g_iload_n (pc := 65) 1 dX11_assemble_65 rfl rfl ?_
    refine g_aload_n (pc := 66) 0 dX11_assemble_66 rfl rfl ?_
    obtain ⟨g1, hf⟩ := gs_some hf
    refine g_getI (pc := 67) fl_X11_506 dX11_assemble_67 g1 ?_
    rcases it_some hf with ⟨c2, hf⟩ | ⟨c2, hf⟩
    · refine g_icge_t (pc := 70) (tgt := 98) dX11_assemble_70 (by decide) c2 ?_
      refine g_iconst (pc := 98) (v := (0 : Int32)) dX11_assemble_98 (by decide) ?_
      obtain ⟨x3, ex3, hf⟩ := lt_some hf
      refine g_istore_n (pc := 99) (L' := [(1, .int x3), (0, rf X a0)]) dX11_assemble_99 rfl (by decide) ex3 (by simp [rf_cat, rq_cat]) ?_
      refine g_sub [1, 0] rfl ?_
      exact ok_X11_assemble_L100 l X FU h a0 x3 q hf
    · refine g_icge_f (pc := 70) (tgt := 98) dX11_assemble_70 (by decide) c2 ?_
      refine g_aload_n (pc := 73) 0 dX11_assemble_73 rfl rfl ?_
      refine g_getR (pc := 74) fl_X11_53 dX11_assemble_74 g1 ?_
      refine g_aload_n (pc := 77) 0 dX11_assemble_77 rfl rfl ?_
      refine g_getR (pc := 78) fl_X11_29 dX11_assemble_78 g1 ?_
      refine g_iload_n (pc := 81) 1 dX11_assemble_81 rfl rfl ?_
      obtain ⟨g4, hf⟩ := gs_some hf
      obtain ⟨b5, hf⟩ := gb_some hf
      refine g_iald (pc := 82) g4 b5 dX11_assemble_82 ?_
      refine g_iconst (pc := 83) (v := (4 : Int32)) dX11_assemble_83 (by decide) ?_
      refine g_idiv (pc := 84) (by decide) dX11_assemble_84 ?_
      refine g_aload_n (pc := 85) 0 dX11_assemble_85 rfl rfl ?_
      refine g_getR (pc := 86) fl_X11_32 dX11_assemble_86 g1 ?_
      refine g_iload_n (pc := 89) 1 dX11_assemble_89 rfl rfl ?_
      obtain ⟨g6, hf⟩ := gs_some hf
      obtain ⟨b7, hf⟩ := gb_some hf
      refine g_iald (pc := 90) g6 b7 dX11_assemble_90 ?_
      obtain ⟨g8, hf⟩ := gs_some hf
      obtain ⟨b9, hf⟩ := gb_some hf
      obtain ⟨h10, eh10, hf⟩ := lt_some hf
      refine g_iast (pc := 91) g8 b9 dX11_assemble_91 eh10 ?_
      obtain ⟨x11, ex11, hf⟩ := lt_some hf
      refine g_iinc (pc := 92) (y := x11) (L' := [(1, .int x11), (0, rf X a0)]) 1 dX11_assemble_92 rfl (by decide) (ex11.trans rfl) (by simp [rf_cat, rq_cat]) ?_
      refine g_goto (pc := 95) (tgt := 65) dX11_assemble_95 (by decide) ?_
      refine g_sub [1, 0] rfl ?_
      exact ih h10 a0 x11 q hf
def f_X11_assemble_L43 : Nat → AH → Nat → Int32 → Option (Int32 × AH)
  | 0, _, _, _ => none
  | n + 1, h, a0, a1 =>
    if (2048 : Int32) ≤ a1 then
      lt ((0 : Int32)) fun x2 =>
      f_X11_assemble_L65 FU h a0 x2
    else
      gs h a0 10 <|
      gs h (hR h a0 23) 21 <|
      gb (ib a1 (hN h (hR h a0 23))) <|
      lt (sI h (hR h a0 23) a1.toNatClampNeg (0 : Int32)) fun h6 =>
      lt (a1 + (1 : Int32)) fun x7 =>
      f_X11_assemble_L43 n h6 a0 x7
set_option maxRecDepth 100000 in
set_option maxHeartbeats 4000000 in
theorem ok_X11_assemble_L43 (l : Launch) (X : Cx) : ∀ (n : Nat) (h : AH) (a0 : Nat) (a1 : Int32) (q : Int32 × AH), f_X11_assemble_L43 n h a0 a1 = some q → Go l X k_X11_assemble 43 [(0, rf X a0), (1, .int a1)] [] h (rI q) := by
  intro n
  induction n with
  | zero =>
    intro h a0 a1 q hf
    unfold f_X11_assemble_L43 at hf
    cases hf
  | succ n ih =>
    intro h a0 a1 q hf
    unfold f_X11_assemble_L43 at hf
    refine g_iload_n (pc := 43) 1 dX11_assemble_43 rfl rfl ?_
    refine g_sipush (pc := 44) (v := (2048 : Int32)) dX11_assemble_44 (by decide) ?_
    rcases it_some hf with ⟨c1, hf⟩ | ⟨c1, hf⟩
    · refine g_icge_t (pc := 47) (tgt := 63) dX11_assemble_47 (by decide) c1 ?_
      refine g_iconst (pc := 63) (v := (0 : Int32)) dX11_assemble_63 (by decide) ?_
      obtain ⟨x2, ex2, hf⟩ := lt_some hf
      refine g_istore_n (pc := 64) (L' := [(1, .int x2), (0, rf X a0)]) dX11_assemble_64 rfl (by decide) ex2 (by simp [rf_cat, rq_cat]) ?_
      refine g_sub [1, 0] rfl ?_
      exact ok_X11_assemble_L65 l X FU h a0 x2 q hf
    · refine g_icge_f (pc := 47) (tgt := 63) dX11_assemble_47 (by decide) c1 ?_
      refine g_aload_n (pc := 50) 0 dX11_assemble_50 rfl rfl ?_
      obtain ⟨g3, hf⟩ := gs_some hf
      refine g_getR (pc := 51) fl_X11_53 dX11_assemble_51 g3 ?_
      refine g_iload_n (pc := 54) 1 dX11_assemble_54 rfl rfl ?_
      refine g_iconst (pc := 55) (v := (0 : Int32)) dX11_assemble_55 (by decide) ?_
      obtain ⟨g4, hf⟩ := gs_some hf
      obtain ⟨b5, hf⟩ := gb_some hf
      obtain ⟨h6, eh6, hf⟩ := lt_some hf
      refine g_iast (pc := 56) g4 b5 dX11_assemble_56 eh6 ?_
      obtain ⟨x7, ex7, hf⟩ := lt_some hf
      refine g_iinc (pc := 57) (y := x7) (L' := [(1, .int x7), (0, rf X a0)]) 1 dX11_assemble_57 rfl (by decide) (ex7.trans rfl) (by simp [rf_cat, rq_cat]) ?_
      refine g_goto (pc := 60) (tgt := 43) dX11_assemble_60 (by decide) ?_
      refine g_sub [1, 0] rfl ?_
      exact ih h6 a0 x7 q hf
def f_X11_assemble (h : AH) (a0 : Nat) : Option (Int32 × AH) :=
  gs h a0 10 <|
  lt (sI h a0 3 (0 : Int32)) fun h2 =>
  lt (sI h2 a0 4 (0 : Int32)) fun h4 =>
  bd (f_X11_readAll h4 a0) fun q6 =>
  gs q6 a0 10 <|
  lt (sI q6 a0 2 (0 : Int32)) fun h8 =>
  if (hI h8 a0 3) = 0 then
    lt (sI h8 a0 0 (0 : Int32)) fun h11 =>
    bd (f_X11_clear h11 a0) fun q13 =>
    lt ((0 : Int32)) fun x14 =>
    f_X11_assemble_L43 FU q13 a0 x14
  else
    bd (f_X11_raise h8 a0 (1 : Int32)) fun q15 =>
    some (q15.1, q15.2)
set_option maxRecDepth 100000 in
set_option maxHeartbeats 4000000 in
theorem ok_X11_assemble (l : Launch) (X : Cx) {h : AH} {a0 : Nat} {q : Int32 × AH} (hf : f_X11_assemble h a0 = some q) : Go l X k_X11_assemble 0 [(0, rf X a0)] [] h (rI q) := by
  unfold f_X11_assemble at hf
  refine g_aload_n (pc := 0) 0 dX11_assemble_0 rfl rfl ?_
  refine g_iconst (pc := 1) (v := (0 : Int32)) dX11_assemble_1 (by decide) ?_
  obtain ⟨g1, hf⟩ := gs_some hf
  obtain ⟨h2, eh2, hf⟩ := lt_some hf
  refine g_putI (pc := 2) fl_X11_372 dX11_assemble_2 g1 eh2 ?_
  refine g_aload_n (pc := 5) 0 dX11_assemble_5 rfl rfl ?_
  refine g_iconst (pc := 6) (v := (0 : Int32)) dX11_assemble_6 (by decide) ?_
  have g3 : hS h2 a0 = 10 := (hS_tI eh2 g1)
  obtain ⟨h4, eh4, hf⟩ := lt_some hf
  refine g_putI (pc := 7) fl_X11_375 dX11_assemble_7 g3 eh4 ?_
  refine g_aload_n (pc := 10) 0 dX11_assemble_10 rfl rfl ?_
  have g5 : hS h4 a0 = 10 := (hS_tI eh4 g3)
  obtain ⟨q6, hcq6, hf⟩ := bd_some hf
  refine g_cVV (pc := 11) (k2 := k_X11_readAll) (av := []) (q := q6) rfl dX11_assemble_11 ck_X11_readAll m_1655 m_1657 m_57 (ci := 9) rfl (by decide) g5 (by decide) (by decide) rfl (by simp [rf_cat, rq_cat, ca_i, ca_l, ca_r]) (ct_X11_readAll l X hcq6) ?_
  refine g_aload_n (pc := 14) 0 dX11_assemble_14 rfl rfl ?_
  refine g_iconst (pc := 15) (v := (0 : Int32)) dX11_assemble_15 (by decide) ?_
  obtain ⟨g7, hf⟩ := gs_some hf
  obtain ⟨h8, eh8, hf⟩ := lt_some hf
  refine g_putI (pc := 16) fl_X11_337 dX11_assemble_16 g7 eh8 ?_
  refine g_aload_n (pc := 19) 0 dX11_assemble_19 rfl rfl ?_
  have g9 : hS h8 a0 = 10 := (hS_tI eh8 g7)
  refine g_getI (pc := 20) fl_X11_372 dX11_assemble_20 g9 ?_
  rcases it_some hf with ⟨c10, hf⟩ | ⟨c10, hf⟩
  · refine g_ifeq_t (pc := 23) (tgt := 32) dX11_assemble_23 (by decide) c10 ?_
    refine g_aload_n (pc := 32) 0 dX11_assemble_32 rfl rfl ?_
    refine g_iconst (pc := 33) (v := (0 : Int32)) dX11_assemble_33 (by decide) ?_
    obtain ⟨h11, eh11, hf⟩ := lt_some hf
    refine g_putI (pc := 34) fl_X11_306 dX11_assemble_34 g9 eh11 ?_
    refine g_aload_n (pc := 37) 0 dX11_assemble_37 rfl rfl ?_
    have g12 : hS h11 a0 = 10 := (hS_tI eh11 g9)
    obtain ⟨q13, hcq13, hf⟩ := bd_some hf
    refine g_cVV (pc := 38) (k2 := k_X11_clear) (av := []) (q := q13) rfl dX11_assemble_38 ck_X11_clear m_1390 m_1392 m_56 (ci := 9) rfl (by decide) g12 (by decide) (by decide) rfl (by simp [rf_cat, rq_cat, ca_i, ca_l, ca_r]) (ct_X11_clear l X hcq13) ?_
    refine g_iconst (pc := 41) (v := (0 : Int32)) dX11_assemble_41 (by decide) ?_
    obtain ⟨x14, ex14, hf⟩ := lt_some hf
    refine g_istore_n (pc := 42) (L' := [(1, .int x14), (0, rf X a0)]) dX11_assemble_42 rfl (by decide) ex14 (by simp [rf_cat, rq_cat]) ?_
    refine g_sub [1, 0] rfl ?_
    exact ok_X11_assemble_L43 l X FU q13 a0 x14 q hf
  · refine g_ifeq_f (pc := 23) (tgt := 32) dX11_assemble_23 (by decide) c10 ?_
    refine g_aload_n (pc := 26) 0 dX11_assemble_26 rfl rfl ?_
    refine g_iconst (pc := 27) (v := (1 : Int32)) dX11_assemble_27 (by decide) ?_
    obtain ⟨q15, hcq15, hf⟩ := bd_some hf
    refine g_cVI (pc := 28) (k2 := k_X11_raise) (av := [.int (1 : Int32)]) (q := q15) rfl dX11_assemble_28 ck_X11_raise m_1780 m_1782 m_77 (ci := 9) rfl (by decide) g9 (by decide) (by decide) rfl (by simp [rf_cat, rq_cat, ca_i, ca_l, ca_r]) (ct_X11_raise l X hcq15) ?_
    obtain rfl := Option.some.inj hf
    exact g_iret (pc := 31) rfl dX11_assemble_31
theorem ct_X11_assemble (l : Launch) (X : Cx) {h : AH} {a0 : Nat} {q : Int32 × AH} (hf : f_X11_assemble h a0 = some q) : Ct l X k_X11_assemble [rf X a0] h (rI q) := ct_of ck_X11_assemble (by simp [lg_sl, rf_cat, rq_cat, ca_i, ca_l, ca_r]) (by simp [lv_args, rf_cat, rq_cat, ca_i, ca_l, ca_r]) (ok_X11_assemble l X hf)
def f_X11_fault (h : AH) (a0 : Nat) (a1 : Int32) : Option (Int32 × AH) :=
  gs h a0 10 <|
  lt (sI h a0 0 (0 : Int32)) fun h2 =>
  if ¬ a1 = 0 then
    if ¬ a1 = (1 : Int32) then
      some ((-1 : Int32), h2)
    else
      some ((hI h2 a0 4), h2)
  else
    some ((hI h2 a0 3), h2)
set_option maxRecDepth 100000 in
set_option maxHeartbeats 4000000 in
theorem ok_X11_fault (l : Launch) (X : Cx) {h : AH} {a0 : Nat} {a1 : Int32} {q : Int32 × AH} (hf : f_X11_fault h a0 a1 = some q) : Go l X k_X11_fault 0 [(0, rf X a0), (1, .int a1)] [] h (rI q) := by
  unfold f_X11_fault at hf
  refine g_aload_n (pc := 0) 0 dX11_fault_0 rfl rfl ?_
  refine g_iconst (pc := 1) (v := (0 : Int32)) dX11_fault_1 (by decide) ?_
  obtain ⟨g1, hf⟩ := gs_some hf
  obtain ⟨h2, eh2, hf⟩ := lt_some hf
  refine g_putI (pc := 2) fl_X11_306 dX11_fault_2 g1 eh2 ?_
  refine g_iload_n (pc := 5) 1 dX11_fault_5 rfl rfl ?_
  rcases it_some hf with ⟨c3, hf⟩ | ⟨c3, hf⟩
  · refine g_ifne_t (pc := 6) (tgt := 16) dX11_fault_6 (by decide) c3 ?_
    refine g_iload_n (pc := 16) 1 dX11_fault_16 rfl rfl ?_
    refine g_iconst (pc := 17) (v := (1 : Int32)) dX11_fault_17 (by decide) ?_
    rcases it_some hf with ⟨c4, hf⟩ | ⟨c4, hf⟩
    · refine g_icne_t (pc := 18) (tgt := 28) dX11_fault_18 (by decide) c4 ?_
      refine g_iconst (pc := 28) (v := (-1 : Int32)) dX11_fault_28 (by decide) ?_
      obtain rfl := Option.some.inj hf
      exact g_iret (pc := 29) rfl dX11_fault_29
    · refine g_icne_f (pc := 18) (tgt := 28) dX11_fault_18 (by decide) (Decidable.of_not_not c4) ?_
      refine g_aload_n (pc := 21) 0 dX11_fault_21 rfl rfl ?_
      have g5 : hS h2 a0 = 10 := (hS_tI eh2 g1)
      refine g_getI (pc := 22) fl_X11_375 dX11_fault_22 g5 ?_
      refine g_goto (pc := 25) (tgt := 29) dX11_fault_25 (by decide) ?_
      obtain rfl := Option.some.inj hf
      exact g_iret (pc := 29) rfl dX11_fault_29
  · refine g_ifne_f (pc := 6) (tgt := 16) dX11_fault_6 (by decide) (Decidable.of_not_not c3) ?_
    refine g_aload_n (pc := 9) 0 dX11_fault_9 rfl rfl ?_
    have g6 : hS h2 a0 = 10 := (hS_tI eh2 g1)
    refine g_getI (pc := 10) fl_X11_372 dX11_fault_10 g6 ?_
    refine g_goto (pc := 13) (tgt := 29) dX11_fault_13 (by decide) ?_
    obtain rfl := Option.some.inj hf
    exact g_iret (pc := 29) rfl dX11_fault_29
theorem ct_X11_fault (l : Launch) (X : Cx) {h : AH} {a0 : Nat} {a1 : Int32} {q : Int32 × AH} (hf : f_X11_fault h a0 a1 = some q) : Ct l X k_X11_fault [rf X a0, .int a1] h (rI q) := ct_of ck_X11_fault (by simp [lg_sl, rf_cat, rq_cat, ca_i, ca_l, ca_r]) (by simp [lv_args, rf_cat, rq_cat, ca_i, ca_l, ca_r]) (ok_X11_fault l X hf)
def f_X11_setOf (h : AH) (a0 : Nat) (a1 : Int32) (a2 : Int32) : Option (Int32) :=
  gs h a0 10 <|
  gs h (hR h a0 21) 21 <|
  gb (ib (3 : Int32) (hN h (hR h a0 21))) <|
  gb (ib (2 : Int32) (hN h (hR h a0 21))) <|
  gb (decide (¬ (hI h (hR h a0 21) (2 : Int32).toNatClampNeg) = 0)) <|
  some (((32 : Int32) * a1) + ((hI h (hR h a0 21) (3 : Int32).toNatClampNeg) * (a2 - a2 / (hI h (hR h a0 21) (2 : Int32).toNatClampNeg) * (hI h (hR h a0 21) (2 : Int32).toNatClampNeg))))
set_option maxRecDepth 100000 in
set_option maxHeartbeats 4000000 in
theorem ok_X11_setOf (l : Launch) (X : Cx) {h : AH} {a0 : Nat} {a1 : Int32} {a2 : Int32} {q : Int32} (hf : f_X11_setOf h a0 a1 a2 = some q) : Go l X k_X11_setOf 0 [(0, rf X a0), (1, .int a1), (2, .int a2)] [] h (rI (q, h)) := by
  unfold f_X11_setOf at hf
  refine g_bipush (pc := 0) (v := (32 : Int32)) dX11_setOf_0 (by decide) ?_
  refine g_iload_n (pc := 2) 1 dX11_setOf_2 rfl rfl ?_
  refine g_imul (pc := 3) dX11_setOf_3 ?_
  refine g_aload_n (pc := 4) 0 dX11_setOf_4 rfl rfl ?_
  obtain ⟨g1, hf⟩ := gs_some hf
  refine g_getR (pc := 5) fl_X11_47 dX11_setOf_5 g1 ?_
  refine g_iconst (pc := 8) (v := (3 : Int32)) dX11_setOf_8 (by decide) ?_
  obtain ⟨g2, hf⟩ := gs_some hf
  obtain ⟨b3, hf⟩ := gb_some hf
  refine g_iald (pc := 9) g2 b3 dX11_setOf_9 ?_
  refine g_iload_n (pc := 10) 2 dX11_setOf_10 rfl rfl ?_
  refine g_aload_n (pc := 11) 0 dX11_setOf_11 rfl rfl ?_
  refine g_getR (pc := 12) fl_X11_47 dX11_setOf_12 g1 ?_
  refine g_iconst (pc := 15) (v := (2 : Int32)) dX11_setOf_15 (by decide) ?_
  obtain ⟨b4, hf⟩ := gb_some hf
  refine g_iald (pc := 16) g2 b4 dX11_setOf_16 ?_
  obtain ⟨b5, hf⟩ := gb_some hf
  refine g_irem (pc := 17) (of_decide_eq_true b5) dX11_setOf_17 ?_
  refine g_imul (pc := 18) dX11_setOf_18 ?_
  refine g_iadd (pc := 19) dX11_setOf_19 ?_
  obtain rfl := Option.some.inj hf
  exact g_iret (pc := 20) rfl dX11_setOf_20
theorem ct_X11_setOf (l : Launch) (X : Cx) {h : AH} {a0 : Nat} {a1 : Int32} {a2 : Int32} {q : Int32} (hf : f_X11_setOf h a0 a1 a2 = some q) : Ct l X k_X11_setOf [rf X a0, .int a1, .int a2] h (rI (q, h)) := ct_of ck_X11_setOf (by simp [lg_sl, rf_cat, rq_cat, ca_i, ca_l, ca_r]) (by simp [lv_args, rf_cat, rq_cat, ca_i, ca_l, ca_r]) (ok_X11_setOf l X hf)
def f_X11_wayOf_L45 (h : AH) (k7 : Nat → Int32 → Int32 → Int32 → Option (Int32)) (a0 : Nat) (a1 : Int32) (a2 : Int32) (a3 : Int32) : Option (Int32) :=
  lt (a3 + (1 : Int32)) fun x1 =>
  k7 a0 a1 a2 x1
set_option maxRecDepth 100000 in
set_option maxHeartbeats 4000000 in
theorem ok_X11_wayOf_L45 (l : Launch) (X : Cx) (h : AH) (k7 : Nat → Int32 → Int32 → Int32 → Option (Int32)) (hk7 : ∀ (a0 : Nat) (a1 : Int32) (a2 : Int32) (a3 : Int32) (q : Int32), k7 a0 a1 a2 a3 = some q → Go l X k_X11_wayOf 7 [(0, rf X a0), (1, .int a1), (2, .int a2), (3, .int a3)] [] h (rI (q, h))) (a0 : Nat) (a1 : Int32) (a2 : Int32) (a3 : Int32) (q : Int32) (hf : f_X11_wayOf_L45 h k7 a0 a1 a2 a3 = some q) : Go l X k_X11_wayOf 45 [(0, rf X a0), (1, .int a1), (2, .int a2), (3, .int a3)] [] h (rI (q, h)) := by
  unfold f_X11_wayOf_L45 at hf
  obtain ⟨x1, ex1, hf⟩ := lt_some hf
  refine g_iinc (pc := 45) (y := x1) (L' := [(3, .int x1), (0, rf X a0), (1, .int a1), (2, .int a2)]) 3 dX11_wayOf_45 rfl (by decide) (ex1.trans rfl) rfl ?_
  refine g_goto (pc := 48) (tgt := 7) dX11_wayOf_48 (by decide) ?_
  refine g_sub [1, 2, 3, 0] rfl ?_
  exact hk7 a0 a1 a2 x1 q hf
def f_X11_wayOf_L7 (h : AH) : Nat → Nat → Int32 → Int32 → Int32 → Option (Int32)
  | 0, _, _, _, _ => none
  | n + 1, a0, a1, a2, a3 =>
    gs h a0 10 <|
    bd (f_X11_setOf h a0 a1 a2) fun v2 =>
    gs h (hR h a0 21) 21 <|
    gb (ib (3 : Int32) (hN h (hR h a0 21))) <|
    if (v2 + (hI h (hR h a0 21) (3 : Int32).toNatClampNeg)) ≤ a3 then
      some (-1 : Int32)
    else
      gs h (hR h a0 45) 21 <|
      gb (ib a3 (hN h (hR h a0 45))) <|
      if (hI h (hR h a0 45) a3.toNatClampNeg) ≤ 0 then
        f_X11_wayOf_L45 h (f_X11_wayOf_L7 h n) a0 a1 a2 a3
      else
        gs h (hR h a0 44) 21 <|
        gb (ib a3 (hN h (hR h a0 44))) <|
        if ¬ (hI h (hR h a0 44) a3.toNatClampNeg) = a2 then
          f_X11_wayOf_L45 h (f_X11_wayOf_L7 h n) a0 a1 a2 a3
        else
          some a3
set_option maxRecDepth 100000 in
set_option maxHeartbeats 4000000 in
theorem ok_X11_wayOf_L7 (l : Launch) (X : Cx) (h : AH) : ∀ (n : Nat) (a0 : Nat) (a1 : Int32) (a2 : Int32) (a3 : Int32) (q : Int32), f_X11_wayOf_L7 h n a0 a1 a2 a3 = some q → Go l X k_X11_wayOf 7 [(0, rf X a0), (1, .int a1), (2, .int a2), (3, .int a3)] [] h (rI (q, h)) := by
  intro n
  induction n with
  | zero =>
    intro a0 a1 a2 a3 q hf
    unfold f_X11_wayOf_L7 at hf
    cases hf
  | succ n ih =>
    intro a0 a1 a2 a3 q hf
    unfold f_X11_wayOf_L7 at hf
    refine g_iload_n (pc := 7) 3 dX11_wayOf_7 rfl rfl ?_
    refine g_aload_n (pc := 8) 0 dX11_wayOf_8 rfl rfl ?_
    refine g_iload_n (pc := 9) 1 dX11_wayOf_9 rfl rfl ?_
    refine g_iload_n (pc := 10) 2 dX11_wayOf_10 rfl rfl ?_
    obtain ⟨g1, hf⟩ := gs_some hf
    obtain ⟨v2, hcv2, hf⟩ := bd_some hf
    refine g_cVI (pc := 11) (k2 := k_X11_setOf) (av := [.int a1, .int a2]) (q := (v2, h)) rfl dX11_wayOf_11 ck_X11_setOf m_1811 m_1813 m_82 (ci := 9) rfl (by decide) g1 (by decide) (by decide) rfl (by simp [rf_cat, rq_cat, ca_i, ca_l, ca_r]) (ct_X11_setOf l X hcv2) ?_
    refine g_aload_n (pc := 14) 0 dX11_wayOf_14 rfl rfl ?_
    refine g_getR (pc := 15) fl_X11_47 dX11_wayOf_15 g1 ?_
    refine g_iconst (pc := 18) (v := (3 : Int32)) dX11_wayOf_18 (by decide) ?_
    obtain ⟨g3, hf⟩ := gs_some hf
    obtain ⟨b4, hf⟩ := gb_some hf
    refine g_iald (pc := 19) g3 b4 dX11_wayOf_19 ?_
    refine g_iadd (pc := 20) dX11_wayOf_20 ?_
    rcases it_some hf with ⟨c5, hf⟩ | ⟨c5, hf⟩
    · refine g_icge_t (pc := 21) (tgt := 51) dX11_wayOf_21 (by decide) c5 ?_
      refine g_iconst (pc := 51) (v := (-1 : Int32)) dX11_wayOf_51 (by decide) ?_
      obtain rfl := Option.some.inj hf
      exact g_iret (pc := 52) rfl dX11_wayOf_52
    · refine g_icge_f (pc := 21) (tgt := 51) dX11_wayOf_21 (by decide) c5 ?_
      refine g_aload_n (pc := 24) 0 dX11_wayOf_24 rfl rfl ?_
      refine g_getR (pc := 25) fl_X11_108 dX11_wayOf_25 g1 ?_
      refine g_iload_n (pc := 28) 3 dX11_wayOf_28 rfl rfl ?_
      obtain ⟨g6, hf⟩ := gs_some hf
      obtain ⟨b7, hf⟩ := gb_some hf
      refine g_iald (pc := 29) g6 b7 dX11_wayOf_29 ?_
      rcases it_some hf with ⟨c8, hf⟩ | ⟨c8, hf⟩
      · refine g_ifle_t (pc := 30) (tgt := 45) dX11_wayOf_30 (by decide) c8 ?_
        exact ok_X11_wayOf_L45 l X h (f_X11_wayOf_L7 h n) ih a0 a1 a2 a3 q hf
      · refine g_ifle_f (pc := 30) (tgt := 45) dX11_wayOf_30 (by decide) c8 ?_
        refine g_aload_n (pc := 33) 0 dX11_wayOf_33 rfl rfl ?_
        refine g_getR (pc := 34) fl_X11_105 dX11_wayOf_34 g1 ?_
        refine g_iload_n (pc := 37) 3 dX11_wayOf_37 rfl rfl ?_
        obtain ⟨g9, hf⟩ := gs_some hf
        obtain ⟨b10, hf⟩ := gb_some hf
        refine g_iald (pc := 38) g9 b10 dX11_wayOf_38 ?_
        refine g_iload_n (pc := 39) 2 dX11_wayOf_39 rfl rfl ?_
        rcases it_some hf with ⟨c11, hf⟩ | ⟨c11, hf⟩
        · refine g_icne_t (pc := 40) (tgt := 45) dX11_wayOf_40 (by decide) c11 ?_
          exact ok_X11_wayOf_L45 l X h (f_X11_wayOf_L7 h n) ih a0 a1 a2 a3 q hf
        · refine g_icne_f (pc := 40) (tgt := 45) dX11_wayOf_40 (by decide) (Decidable.of_not_not c11) ?_
          refine g_iload_n (pc := 43) 3 dX11_wayOf_43 rfl rfl ?_
          obtain rfl := Option.some.inj hf
          exact g_iret (pc := 44) rfl dX11_wayOf_44
def f_X11_wayOf (h : AH) (a0 : Nat) (a1 : Int32) (a2 : Int32) : Option (Int32) :=
  gs h a0 10 <|
  bd (f_X11_setOf h a0 a1 a2) fun v2 =>
  f_X11_wayOf_L7 h FU a0 a1 a2 v2
set_option maxRecDepth 100000 in
set_option maxHeartbeats 4000000 in
theorem ok_X11_wayOf (l : Launch) (X : Cx) {h : AH} {a0 : Nat} {a1 : Int32} {a2 : Int32} {q : Int32} (hf : f_X11_wayOf h a0 a1 a2 = some q) : Go l X k_X11_wayOf 0 [(0, rf X a0), (1, .int a1), (2, .int a2)] [] h (rI (q, h)) := by
  unfold f_X11_wayOf at hf
  refine g_aload_n (pc := 0) 0 dX11_wayOf_0 rfl rfl ?_
  refine g_iload_n (pc := 1) 1 dX11_wayOf_1 rfl rfl ?_
  refine g_iload_n (pc := 2) 2 dX11_wayOf_2 rfl rfl ?_
  obtain ⟨g1, hf⟩ := gs_some hf
  obtain ⟨v2, hcv2, hf⟩ := bd_some hf
  refine g_cVI (pc := 3) (k2 := k_X11_setOf) (av := [.int a1, .int a2]) (q := (v2, h)) rfl dX11_wayOf_3 ck_X11_setOf m_1811 m_1813 m_82 (ci := 9) rfl (by decide) g1 (by decide) (by decide) rfl (by simp [rf_cat, rq_cat, ca_i, ca_l, ca_r]) (ct_X11_setOf l X hcv2) ?_
  refine g_istore_n (pc := 6) (L' := [(3, .int v2), (0, rf X a0), (1, .int a1), (2, .int a2)]) dX11_wayOf_6 rfl (by decide) rfl rfl ?_
  refine g_sub [1, 2, 3, 0] rfl ?_
  exact ok_X11_wayOf_L7 l X h FU a0 a1 a2 v2 q hf
theorem ct_X11_wayOf (l : Launch) (X : Cx) {h : AH} {a0 : Nat} {a1 : Int32} {a2 : Int32} {q : Int32} (hf : f_X11_wayOf h a0 a1 a2 = some q) : Ct l X k_X11_wayOf [rf X a0, .int a1, .int a2] h (rI (q, h)) := ct_of ck_X11_wayOf (by simp [lg_sl, rf_cat, rq_cat, ca_i, ca_l, ca_r]) (by simp [lv_args, rf_cat, rq_cat, ca_i, ca_l, ca_r]) (ok_X11_wayOf l X hf)
def f_X11_use (h : AH) (a0 : Nat) (a1 : Int32) : Option (AH) :=
  gs h a0 10 <|
  lt (sI h a0 47 ((hI h a0 47) + (1 : Int32))) fun h2 =>
  gs h2 (hR h2 a0 46) 21 <|
  gb (ib a1 (hN h2 (hR h2 a0 46))) <|
  lt (sI h2 (hR h2 a0 46) a1.toNatClampNeg (hI h2 a0 47)) fun h6 =>
  some h6
set_option maxRecDepth 100000 in
set_option maxHeartbeats 4000000 in
theorem ok_X11_use (l : Launch) (X : Cx) {h : AH} {a0 : Nat} {a1 : Int32} {q : AH} (hf : f_X11_use h a0 a1 = some q) : Go l X k_X11_use 0 [(0, rf X a0), (1, .int a1)] [] h (rV q) := by
  unfold f_X11_use at hf
  refine g_aload_n (pc := 0) 0 dX11_use_0 rfl rfl ?_
  refine g_dup (pc := 1) dX11_use_1 (rf_cat X _) ?_
  obtain ⟨g1, hf⟩ := gs_some hf
  refine g_getI (pc := 2) fl_X11_310 dX11_use_2 g1 ?_
  refine g_iconst (pc := 5) (v := (1 : Int32)) dX11_use_5 (by decide) ?_
  refine g_iadd (pc := 6) dX11_use_6 ?_
  obtain ⟨h2, eh2, hf⟩ := lt_some hf
  refine g_putI (pc := 7) fl_X11_310 dX11_use_7 g1 eh2 ?_
  refine g_aload_n (pc := 10) 0 dX11_use_10 rfl rfl ?_
  have g3 : hS h2 a0 = 10 := (hS_tI eh2 g1)
  refine g_getR (pc := 11) fl_X11_111 dX11_use_11 g3 ?_
  refine g_iload_n (pc := 14) 1 dX11_use_14 rfl rfl ?_
  refine g_aload_n (pc := 15) 0 dX11_use_15 rfl rfl ?_
  refine g_getI (pc := 16) fl_X11_310 dX11_use_16 g3 ?_
  obtain ⟨g4, hf⟩ := gs_some hf
  obtain ⟨b5, hf⟩ := gb_some hf
  obtain ⟨h6, eh6, hf⟩ := lt_some hf
  refine g_iast (pc := 19) g4 b5 dX11_use_19 eh6 ?_
  obtain rfl := Option.some.inj hf
  exact g_vret (pc := 20) rfl dX11_use_20
theorem ct_X11_use (l : Launch) (X : Cx) {h : AH} {a0 : Nat} {a1 : Int32} {q : AH} (hf : f_X11_use h a0 a1 = some q) : Ct l X k_X11_use [rf X a0, .int a1] h (rV q) := ct_of ck_X11_use (by simp [lg_sl, rf_cat, rq_cat, ca_i, ca_l, ca_r]) (by simp [lv_args, rf_cat, rq_cat, ca_i, ca_l, ca_r]) (ok_X11_use l X hf)
def f_X11_freeWay_L7 (h : AH) : Nat → Nat → Int32 → Int32 → Int32 → Option (Int32)
  | 0, _, _, _, _ => none
  | n + 1, a0, a1, a2, a3 =>
    gs h a0 10 <|
    bd (f_X11_setOf h a0 a1 a2) fun v2 =>
    gs h (hR h a0 21) 21 <|
    gb (ib (3 : Int32) (hN h (hR h a0 21))) <|
    if (v2 + (hI h (hR h a0 21) (3 : Int32).toNatClampNeg)) ≤ a3 then
      some (-1 : Int32)
    else
      gs h (hR h a0 45) 21 <|
      gb (ib a3 (hN h (hR h a0 45))) <|
      if ¬ (hI h (hR h a0 45) a3.toNatClampNeg) = 0 then
        lt (a3 + (1 : Int32)) fun x9 =>
        f_X11_freeWay_L7 h n a0 a1 a2 x9
      else
        some a3
set_option maxRecDepth 100000 in
set_option maxHeartbeats 4000000 in
theorem ok_X11_freeWay_L7 (l : Launch) (X : Cx) (h : AH) : ∀ (n : Nat) (a0 : Nat) (a1 : Int32) (a2 : Int32) (a3 : Int32) (q : Int32), f_X11_freeWay_L7 h n a0 a1 a2 a3 = some q → Go l X k_X11_freeWay 7 [(0, rf X a0), (1, .int a1), (2, .int a2), (3, .int a3)] [] h (rI (q, h)) := by
  intro n
  induction n with
  | zero =>
    intro a0 a1 a2 a3 q hf
    unfold f_X11_freeWay_L7 at hf
    cases hf
  | succ n ih =>
    intro a0 a1 a2 a3 q hf
    unfold f_X11_freeWay_L7 at hf
    refine g_iload_n (pc := 7) 3 dX11_freeWay_7 rfl rfl ?_
    refine g_aload_n (pc := 8) 0 dX11_freeWay_8 rfl rfl ?_
    refine g_iload_n (pc := 9) 1 dX11_freeWay_9 rfl rfl ?_
    refine g_iload_n (pc := 10) 2 dX11_freeWay_10 rfl rfl ?_
    obtain ⟨g1, hf⟩ := gs_some hf
    obtain ⟨v2, hcv2, hf⟩ := bd_some hf
    refine g_cVI (pc := 11) (k2 := k_X11_setOf) (av := [.int a1, .int a2]) (q := (v2, h)) rfl dX11_freeWay_11 ck_X11_setOf m_1811 m_1813 m_82 (ci := 9) rfl (by decide) g1 (by decide) (by decide) rfl (by simp [rf_cat, rq_cat, ca_i, ca_l, ca_r]) (ct_X11_setOf l X hcv2) ?_
    refine g_aload_n (pc := 14) 0 dX11_freeWay_14 rfl rfl ?_
    refine g_getR (pc := 15) fl_X11_47 dX11_freeWay_15 g1 ?_
    refine g_iconst (pc := 18) (v := (3 : Int32)) dX11_freeWay_18 (by decide) ?_
    obtain ⟨g3, hf⟩ := gs_some hf
    obtain ⟨b4, hf⟩ := gb_some hf
    refine g_iald (pc := 19) g3 b4 dX11_freeWay_19 ?_
    refine g_iadd (pc := 20) dX11_freeWay_20 ?_
    rcases it_some hf with ⟨c5, hf⟩ | ⟨c5, hf⟩
    · refine g_icge_t (pc := 21) (tgt := 41) dX11_freeWay_21 (by decide) c5 ?_
      refine g_iconst (pc := 41) (v := (-1 : Int32)) dX11_freeWay_41 (by decide) ?_
      obtain rfl := Option.some.inj hf
      exact g_iret (pc := 42) rfl dX11_freeWay_42
    · refine g_icge_f (pc := 21) (tgt := 41) dX11_freeWay_21 (by decide) c5 ?_
      refine g_aload_n (pc := 24) 0 dX11_freeWay_24 rfl rfl ?_
      refine g_getR (pc := 25) fl_X11_108 dX11_freeWay_25 g1 ?_
      refine g_iload_n (pc := 28) 3 dX11_freeWay_28 rfl rfl ?_
      obtain ⟨g6, hf⟩ := gs_some hf
      obtain ⟨b7, hf⟩ := gb_some hf
      refine g_iald (pc := 29) g6 b7 dX11_freeWay_29 ?_
      rcases it_some hf with ⟨c8, hf⟩ | ⟨c8, hf⟩
      · refine g_ifne_t (pc := 30) (tgt := 35) dX11_freeWay_30 (by decide) c8 ?_
        obtain ⟨x9, ex9, hf⟩ := lt_some hf
        refine g_iinc (pc := 35) (y := x9) (L' := [(3, .int x9), (0, rf X a0), (1, .int a1), (2, .int a2)]) 3 dX11_freeWay_35 rfl (by decide) (ex9.trans rfl) rfl ?_
        refine g_goto (pc := 38) (tgt := 7) dX11_freeWay_38 (by decide) ?_
        refine g_sub [1, 2, 3, 0] rfl ?_
        exact ih a0 a1 a2 x9 q hf
      · refine g_ifne_f (pc := 30) (tgt := 35) dX11_freeWay_30 (by decide) (Decidable.of_not_not c8) ?_
        refine g_iload_n (pc := 33) 3 dX11_freeWay_33 rfl rfl ?_
        obtain rfl := Option.some.inj hf
        exact g_iret (pc := 34) rfl dX11_freeWay_34
def f_X11_freeWay (h : AH) (a0 : Nat) (a1 : Int32) (a2 : Int32) : Option (Int32) :=
  gs h a0 10 <|
  bd (f_X11_setOf h a0 a1 a2) fun v2 =>
  f_X11_freeWay_L7 h FU a0 a1 a2 v2
set_option maxRecDepth 100000 in
set_option maxHeartbeats 4000000 in
theorem ok_X11_freeWay (l : Launch) (X : Cx) {h : AH} {a0 : Nat} {a1 : Int32} {a2 : Int32} {q : Int32} (hf : f_X11_freeWay h a0 a1 a2 = some q) : Go l X k_X11_freeWay 0 [(0, rf X a0), (1, .int a1), (2, .int a2)] [] h (rI (q, h)) := by
  unfold f_X11_freeWay at hf
  refine g_aload_n (pc := 0) 0 dX11_freeWay_0 rfl rfl ?_
  refine g_iload_n (pc := 1) 1 dX11_freeWay_1 rfl rfl ?_
  refine g_iload_n (pc := 2) 2 dX11_freeWay_2 rfl rfl ?_
  obtain ⟨g1, hf⟩ := gs_some hf
  obtain ⟨v2, hcv2, hf⟩ := bd_some hf
  refine g_cVI (pc := 3) (k2 := k_X11_setOf) (av := [.int a1, .int a2]) (q := (v2, h)) rfl dX11_freeWay_3 ck_X11_setOf m_1811 m_1813 m_82 (ci := 9) rfl (by decide) g1 (by decide) (by decide) rfl (by simp [rf_cat, rq_cat, ca_i, ca_l, ca_r]) (ct_X11_setOf l X hcv2) ?_
  refine g_istore_n (pc := 6) (L' := [(3, .int v2), (0, rf X a0), (1, .int a1), (2, .int a2)]) dX11_freeWay_6 rfl (by decide) rfl rfl ?_
  refine g_sub [1, 2, 3, 0] rfl ?_
  exact ok_X11_freeWay_L7 l X h FU a0 a1 a2 v2 q hf
theorem ct_X11_freeWay (l : Launch) (X : Cx) {h : AH} {a0 : Nat} {a1 : Int32} {a2 : Int32} {q : Int32} (hf : f_X11_freeWay h a0 a1 a2 = some q) : Ct l X k_X11_freeWay [rf X a0, .int a1, .int a2] h (rI (q, h)) := ct_of ck_X11_freeWay (by simp [lg_sl, rf_cat, rq_cat, ca_i, ca_l, ca_r]) (by simp [lv_args, rf_cat, rq_cat, ca_i, ca_l, ca_r]) (ok_X11_freeWay l X hf)
def f_X11_blank_L32 : Nat → AH → Nat → Int32 → Option (AH)
  | 0, _, _, _ => none
  | n + 1, h, a0, a5 =>
    if (9 : Int32) ≤ a5 then
      some h
    else
      gs h a0 10 <|
      gs h (hR h a0 61) 21 <|
      gb (ib a5 (hN h (hR h a0 61))) <|
      lt (sI h (hR h a0 61) a5.toNatClampNeg (0 : Int32)) fun h5 =>
      lt (a5 + (1 : Int32)) fun x6 =>
      f_X11_blank_L32 n h5 a0 x6
set_option maxRecDepth 100000 in
set_option maxHeartbeats 4000000 in
theorem ok_X11_blank_L32 (l : Launch) (X : Cx) : ∀ (n : Nat) (h : AH) (a0 : Nat) (a5 : Int32) (q : AH), f_X11_blank_L32 n h a0 a5 = some q → Go l X k_X11_blank 32 [(0, rf X a0), (5, .int a5)] [] h (rV q) := by
  intro n
  induction n with
  | zero =>
    intro h a0 a5 q hf
    unfold f_X11_blank_L32 at hf
    cases hf
  | succ n ih =>
    intro h a0 a5 q hf
    unfold f_X11_blank_L32 at hf
    refine g_iload (pc := 32) 1 dX11_blank_32 rfl ?_
    refine g_bipush (pc := 34) (v := (9 : Int32)) dX11_blank_34 (by decide) ?_
    rcases it_some hf with ⟨c1, hf⟩ | ⟨c1, hf⟩
    · refine g_icge_t (pc := 36) (tgt := 53) dX11_blank_36 (by decide) c1 ?_
      obtain rfl := Option.some.inj hf
      exact g_vret (pc := 53) rfl dX11_blank_53
    · refine g_icge_f (pc := 36) (tgt := 53) dX11_blank_36 (by decide) c1 ?_
      refine g_aload_n (pc := 39) 0 dX11_blank_39 rfl rfl ?_
      obtain ⟨g2, hf⟩ := gs_some hf
      refine g_getR (pc := 40) fl_X11_148 dX11_blank_40 g2 ?_
      refine g_iload (pc := 43) 1 dX11_blank_43 rfl ?_
      refine g_iconst (pc := 45) (v := (0 : Int32)) dX11_blank_45 (by decide) ?_
      obtain ⟨g3, hf⟩ := gs_some hf
      obtain ⟨b4, hf⟩ := gb_some hf
      obtain ⟨h5, eh5, hf⟩ := lt_some hf
      refine g_iast (pc := 46) g3 b4 dX11_blank_46 eh5 ?_
      obtain ⟨x6, ex6, hf⟩ := lt_some hf
      refine g_iinc (pc := 47) (y := x6) (L' := [(5, .int x6), (0, rf X a0)]) 1 dX11_blank_47 rfl (by decide) (ex6.trans rfl) rfl ?_
      refine g_goto (pc := 50) (tgt := 32) dX11_blank_50 (by decide) ?_
      refine g_sub [1, 0] rfl ?_
      exact ih h5 a0 x6 q hf
def f_X11_blank (h : AH) (a0 : Nat) (a1 : Int32) (a2 : Int32) (a3 : Int32) (a4 : Int32) : Option (AH) :=
  gs h a0 10 <|
  gs h (hR h a0 61) 21 <|
  gb (ib (0 : Int32) (hN h (hR h a0 61))) <|
  lt (sI h (hR h a0 61) (0 : Int32).toNatClampNeg a1) fun h4 =>
  gs h4 (hR h4 a0 61) 21 <|
  gb (ib (1 : Int32) (hN h4 (hR h4 a0 61))) <|
  lt (sI h4 (hR h4 a0 61) (1 : Int32).toNatClampNeg a2) fun h8 =>
  gs h8 (hR h8 a0 61) 21 <|
  gb (ib (2 : Int32) (hN h8 (hR h8 a0 61))) <|
  lt (sI h8 (hR h8 a0 61) (2 : Int32).toNatClampNeg a3) fun h12 =>
  gs h12 (hR h12 a0 61) 21 <|
  gb (ib (3 : Int32) (hN h12 (hR h12 a0 61))) <|
  lt (sI h12 (hR h12 a0 61) (3 : Int32).toNatClampNeg a4) fun h16 =>
  lt ((4 : Int32)) fun x17 =>
  f_X11_blank_L32 FU h16 a0 x17
set_option maxRecDepth 100000 in
set_option maxHeartbeats 4000000 in
theorem ok_X11_blank (l : Launch) (X : Cx) {h : AH} {a0 : Nat} {a1 : Int32} {a2 : Int32} {a3 : Int32} {a4 : Int32} {q : AH} (hf : f_X11_blank h a0 a1 a2 a3 a4 = some q) : Go l X k_X11_blank 0 [(0, rf X a0), (1, .int a1), (2, .int a2), (3, .int a3), (4, .int a4)] [] h (rV q) := by
  unfold f_X11_blank at hf
  refine g_aload_n (pc := 0) 0 dX11_blank_0 rfl rfl ?_
  obtain ⟨g1, hf⟩ := gs_some hf
  refine g_getR (pc := 1) fl_X11_148 dX11_blank_1 g1 ?_
  refine g_iconst (pc := 4) (v := (0 : Int32)) dX11_blank_4 (by decide) ?_
  refine g_iload_n (pc := 5) 1 dX11_blank_5 rfl rfl ?_
  obtain ⟨g2, hf⟩ := gs_some hf
  obtain ⟨b3, hf⟩ := gb_some hf
  obtain ⟨h4, eh4, hf⟩ := lt_some hf
  refine g_iast (pc := 6) g2 b3 dX11_blank_6 eh4 ?_
  refine g_aload_n (pc := 7) 0 dX11_blank_7 rfl rfl ?_
  have g5 : hS h4 a0 = 10 := (hS_tI eh4 g1)
  refine g_getR (pc := 8) fl_X11_148 dX11_blank_8 g5 ?_
  refine g_iconst (pc := 11) (v := (1 : Int32)) dX11_blank_11 (by decide) ?_
  refine g_iload_n (pc := 12) 2 dX11_blank_12 rfl rfl ?_
  obtain ⟨g6, hf⟩ := gs_some hf
  obtain ⟨b7, hf⟩ := gb_some hf
  obtain ⟨h8, eh8, hf⟩ := lt_some hf
  refine g_iast (pc := 13) g6 b7 dX11_blank_13 eh8 ?_
  refine g_aload_n (pc := 14) 0 dX11_blank_14 rfl rfl ?_
  have g9 : hS h8 a0 = 10 := (hS_tI eh8 g5)
  refine g_getR (pc := 15) fl_X11_148 dX11_blank_15 g9 ?_
  refine g_iconst (pc := 18) (v := (2 : Int32)) dX11_blank_18 (by decide) ?_
  refine g_iload_n (pc := 19) 3 dX11_blank_19 rfl rfl ?_
  obtain ⟨g10, hf⟩ := gs_some hf
  obtain ⟨b11, hf⟩ := gb_some hf
  obtain ⟨h12, eh12, hf⟩ := lt_some hf
  refine g_iast (pc := 20) g10 b11 dX11_blank_20 eh12 ?_
  refine g_aload_n (pc := 21) 0 dX11_blank_21 rfl rfl ?_
  have g13 : hS h12 a0 = 10 := (hS_tI eh12 g9)
  refine g_getR (pc := 22) fl_X11_148 dX11_blank_22 g13 ?_
  refine g_iconst (pc := 25) (v := (3 : Int32)) dX11_blank_25 (by decide) ?_
  refine g_iload (pc := 26) 4 dX11_blank_26 rfl ?_
  obtain ⟨g14, hf⟩ := gs_some hf
  obtain ⟨b15, hf⟩ := gb_some hf
  obtain ⟨h16, eh16, hf⟩ := lt_some hf
  refine g_iast (pc := 28) g14 b15 dX11_blank_28 eh16 ?_
  refine g_iconst (pc := 29) (v := (4 : Int32)) dX11_blank_29 (by decide) ?_
  obtain ⟨x17, ex17, hf⟩ := lt_some hf
  refine g_istore (pc := 30) (L' := [(5, .int x17), (0, rf X a0), (1, .int a1), (2, .int a2), (3, .int a3), (4, .int a4)]) dX11_blank_30 (by decide) ex17 rfl ?_
  refine g_sub [1, 0] rfl ?_
  exact ok_X11_blank_L32 l X FU h16 a0 x17 q hf
theorem ct_X11_blank (l : Launch) (X : Cx) {h : AH} {a0 : Nat} {a1 : Int32} {a2 : Int32} {a3 : Int32} {a4 : Int32} {q : AH} (hf : f_X11_blank h a0 a1 a2 a3 a4 = some q) : Ct l X k_X11_blank [rf X a0, .int a1, .int a2, .int a3, .int a4] h (rV q) := ct_of ck_X11_blank (by simp [lg_sl, rf_cat, rq_cat, ca_i, ca_l, ca_r]) (by simp [lv_args, rf_cat, rq_cat, ca_i, ca_l, ca_r]) (ok_X11_blank l X hf)
