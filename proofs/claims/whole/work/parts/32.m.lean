def f_X1_checkItem_L148 (h : AH) (a0 : Nat) (a1 : Int32) (a2 : Int32) : Option (AH) :=
  gs h a0 1 <|
  gs h (hR h a0 8) 22 <|
  gb (ib a1 (hN h (hR h a0 8))) <|
  bd (f_X1_fits h a2 (hL h (hR h a0 8) a1.toNatClampNeg)) fun v4 =>
  if ¬ v4 = 0 then
    some h
  else
    gs h (hR h a0 7) 21 <|
    gb (ib a1 (hN h (hR h a0 7))) <|
    bd (f_X1_noteFault h a0 (3 : Int32) (hI h (hR h a0 7) a1.toNatClampNeg)) fun q8 =>
    some q8
set_option maxRecDepth 100000 in
set_option maxHeartbeats 4000000 in
theorem ok_X1_checkItem_L148 (l : Launch) (X : Cx) (h : AH) (a0 : Nat) (a1 : Int32) (a2 : Int32) (q : AH) (hf : f_X1_checkItem_L148 h a0 a1 a2 = some q) : Go l X k_X1_checkItem 148 [(0, rf X a0), (1, .int a1), (2, .int a2)] [] h (rV q) := by
  unfold f_X1_checkItem_L148 at hf
  refine g_iload_n (pc := 148) 2 dX1_checkItem_148 rfl rfl ?_
  refine g_aload_n (pc := 149) 0 dX1_checkItem_149 rfl rfl ?_
  obtain ⟨g1, hf⟩ := gs_some hf
  refine g_getR (pc := 150) fl_X1_30 dX1_checkItem_150 g1 ?_
  refine g_iload_n (pc := 153) 1 dX1_checkItem_153 rfl rfl ?_
  obtain ⟨g2, hf⟩ := gs_some hf
  obtain ⟨b3, hf⟩ := gb_some hf
  refine g_lald (pc := 154) g2 b3 dX1_checkItem_154 ?_
  obtain ⟨v4, hcv4, hf⟩ := bd_some hf
  refine g_cSI (pc := 155) (k2 := k_X1_fits) (av := [.int a2, .long (hL h (hR h a0 8) a1.toNatClampNeg)]) (q := (v4, h)) rfl dX1_checkItem_155 ck_X1_fits m_843 m_844 (by decide) (by decide) rfl (by simp [rf_cat, rq_cat, ca_i, ca_l, ca_r]) (ct_X1_fits l X hcv4) ?_
  rcases it_some hf with ⟨c5, hf⟩ | ⟨c5, hf⟩
  · refine g_ifne_t (pc := 158) (tgt := 172) dX1_checkItem_158 (by decide) c5 ?_
    obtain rfl := Option.some.inj hf
    exact g_vret (pc := 172) rfl dX1_checkItem_172
  · refine g_ifne_f (pc := 158) (tgt := 172) dX1_checkItem_158 (by decide) (Decidable.of_not_not c5) ?_
    refine g_aload_n (pc := 161) 0 dX1_checkItem_161 rfl rfl ?_
    refine g_iconst (pc := 162) (v := (3 : Int32)) dX1_checkItem_162 (by decide) ?_
    refine g_aload_n (pc := 163) 0 dX1_checkItem_163 rfl rfl ?_
    refine g_getR (pc := 164) fl_X1_27 dX1_checkItem_164 g1 ?_
    refine g_iload_n (pc := 167) 1 dX1_checkItem_167 rfl rfl ?_
    obtain ⟨g6, hf⟩ := gs_some hf
    obtain ⟨b7, hf⟩ := gb_some hf
    refine g_iald (pc := 168) g6 b7 dX1_checkItem_168 ?_
    obtain ⟨q8, hcq8, hf⟩ := bd_some hf
    refine g_cVV (pc := 169) (k2 := k_X1_noteFault) (av := [.int (3 : Int32), .int (hI h (hR h a0 7) a1.toNatClampNeg)]) (q := q8) rfl dX1_checkItem_169 ck_X1_noteFault m_875 m_877 m_34 (ci := 0) rfl (by decide) g1 (by decide) (by decide) rfl (by simp [rf_cat, rq_cat, ca_i, ca_l, ca_r]) (ct_X1_noteFault l X hcq8) ?_
    obtain rfl := Option.some.inj hf
    exact g_vret (pc := 172) rfl dX1_checkItem_172
def f_X1_checkItem_L145 (h : AH) (a0 : Nat) (a1 : Int32) (a2 : Int32) (s0 : Nat) (s1 : Int32) (s2 : Int32) (s3 : Int32) : Option (AH) :=
  gs h s0 22 <|
  gb (ib s1 (hN h s0)) <|
  lt (sL h s0 s1.toNatClampNeg ((s2 - s3).toInt64)) fun h3 =>
  f_X1_checkItem_L148 h3 a0 a1 a2
set_option maxRecDepth 100000 in
set_option maxHeartbeats 4000000 in
theorem ok_X1_checkItem_L145 (l : Launch) (X : Cx) (h : AH) (a0 : Nat) (a1 : Int32) (a2 : Int32) (s0 : Nat) (s1 : Int32) (s2 : Int32) (s3 : Int32) (q : AH) (hf : f_X1_checkItem_L145 h a0 a1 a2 s0 s1 s2 s3 = some q) : Go l X k_X1_checkItem 145 [(0, rf X a0), (1, .int a1), (2, .int a2)] [.int s3, .int s2, .int s1, rf X s0] h (rV q) := by
  unfold f_X1_checkItem_L145 at hf
  refine g_isub (pc := 145) dX1_checkItem_145 ?_
  refine g_i2l (pc := 146) dX1_checkItem_146 ?_
  obtain ⟨g1, hf⟩ := gs_some hf
  obtain ⟨b2, hf⟩ := gb_some hf
  obtain ⟨h3, eh3, hf⟩ := lt_some hf
  refine g_last (pc := 147) g1 b2 dX1_checkItem_147 eh3 ?_
  exact ok_X1_checkItem_L148 l X h3 a0 a1 a2 q hf
def f_X1_checkItem_L116 (h : AH) (a0 : Nat) (a1 : Int32) (a2 : Int32) (a4 : Int32) (s0 : Int32) : Option (AH) :=
  gs h a0 1 <|
  gs h (hR h a0 12) 21 <|
  gb (ib a4 (hN h (hR h a0 12))) <|
  if s0 = 0 then
    f_X1_checkItem_L145 h a0 a1 a2 (hR h a0 8) a1 (hI h (hR h a0 12) a4.toNatClampNeg) (0 : Int32)
  else
    gs h (hR h a0 4) 21 <|
    gb (ib a1 (hN h (hR h a0 4))) <|
    f_X1_checkItem_L145 h a0 a1 a2 (hR h a0 8) a1 (hI h (hR h a0 12) a4.toNatClampNeg) (hI h (hR h a0 4) a1.toNatClampNeg)
set_option maxRecDepth 100000 in
set_option maxHeartbeats 4000000 in
theorem ok_X1_checkItem_L116 (l : Launch) (X : Cx) (h : AH) (a0 : Nat) (a1 : Int32) (a2 : Int32) (a4 : Int32) (s0 : Int32) (q : AH) (hf : f_X1_checkItem_L116 h a0 a1 a2 a4 s0 = some q) : Go l X k_X1_checkItem 116 [(0, rf X a0), (1, .int a1), (2, .int a2), (4, .int a4)] [.int s0] h (rV q) := by
  unfold f_X1_checkItem_L116 at hf
  refine g_istore (pc := 116) (L' := [(5, .int s0), (0, rf X a0), (1, .int a1), (2, .int a2), (4, .int a4)]) dX1_checkItem_116 (by decide) rfl rfl ?_
  refine g_aload_n (pc := 118) 1 dX1_checkItem_118 rfl rfl ?_
  obtain ⟨g1, hf⟩ := gs_some hf
  refine g_getR (pc := 119) fl_X1_30 dX1_checkItem_119 g1 ?_
  refine g_iload_n (pc := 122) 2 dX1_checkItem_122 rfl rfl ?_
  refine g_aload_n (pc := 123) 1 dX1_checkItem_123 rfl rfl ?_
  refine g_getR (pc := 124) fl_X1_40 dX1_checkItem_124 g1 ?_
  refine g_iload (pc := 127) 4 dX1_checkItem_127 rfl ?_
  obtain ⟨g2, hf⟩ := gs_some hf
  obtain ⟨b3, hf⟩ := gb_some hf
  refine g_iald (pc := 129) g2 b3 dX1_checkItem_129 ?_
  refine g_iload (pc := 130) 0 dX1_checkItem_130 rfl ?_
  rcases it_some hf with ⟨c4, hf⟩ | ⟨c4, hf⟩
  · refine g_ifeq_t (pc := 132) (tgt := 144) dX1_checkItem_132 (by decide) c4 ?_
    refine g_iconst (pc := 144) (v := (0 : Int32)) dX1_checkItem_144 (by decide) ?_
    refine g_sub [1, 2, 3] rfl ?_
    exact ok_X1_checkItem_L145 l X h a0 a1 a2 (hR h a0 8) a1 (hI h (hR h a0 12) a4.toNatClampNeg) (0 : Int32) q hf
  · refine g_ifeq_f (pc := 132) (tgt := 144) dX1_checkItem_132 (by decide) c4 ?_
    refine g_aload_n (pc := 135) 1 dX1_checkItem_135 rfl rfl ?_
    refine g_getR (pc := 136) fl_X1_18 dX1_checkItem_136 g1 ?_
    refine g_iload_n (pc := 139) 2 dX1_checkItem_139 rfl rfl ?_
    obtain ⟨g5, hf⟩ := gs_some hf
    obtain ⟨b6, hf⟩ := gb_some hf
    refine g_iald (pc := 140) g5 b6 dX1_checkItem_140 ?_
    refine g_goto (pc := 141) (tgt := 145) dX1_checkItem_141 (by decide) ?_
    refine g_sub [1, 2, 3] rfl ?_
    exact ok_X1_checkItem_L145 l X h a0 a1 a2 (hR h a0 8) a1 (hI h (hR h a0 12) a4.toNatClampNeg) (hI h (hR h a0 4) a1.toNatClampNeg) q hf
def f_X1_checkItem_L111 (h : AH) (a0 : Nat) (a1 : Int32) (a2 : Int32) (a4 : Int32) : Option (AH) :=
  f_X1_checkItem_L116 h a0 a1 a2 a4 (1 : Int32)
set_option maxRecDepth 100000 in
set_option maxHeartbeats 4000000 in
theorem ok_X1_checkItem_L111 (l : Launch) (X : Cx) (h : AH) (a0 : Nat) (a1 : Int32) (a2 : Int32) (a4 : Int32) (q : AH) (hf : f_X1_checkItem_L111 h a0 a1 a2 a4 = some q) : Go l X k_X1_checkItem 111 [(0, rf X a0), (1, .int a1), (2, .int a2), (4, .int a4)] [] h (rV q) := by
  unfold f_X1_checkItem_L111 at hf
  refine g_iconst (pc := 111) (v := (1 : Int32)) dX1_checkItem_111 (by decide) ?_
  refine g_goto (pc := 112) (tgt := 116) dX1_checkItem_112 (by decide) ?_
  exact ok_X1_checkItem_L116 l X h a0 a1 a2 a4 (1 : Int32) q hf
def f_X1_checkItem_L51 (h : AH) (a0 : Nat) (a1 : Int32) (a2 : Int32) : Option (AH) :=
  gs h a0 1 <|
  gs h (hR h a0 6) 21 <|
  gb (ib a1 (hN h (hR h a0 6))) <|
  if ¬ (hI h (hR h a0 6) a1.toNatClampNeg) = 0 then
    gb (ib a1 (hN h (hR h a0 6))) <|
    if ¬ (hI h (hR h a0 6) a1.toNatClampNeg) = (2 : Int32) then
      f_X1_checkItem_L148 h a0 a1 a2
    else
      gs h (hR h a0 8) 22 <|
      gb (ib a1 (hN h (hR h a0 8))) <|
      bd (f_X1_findLabel h a0 (hL h (hR h a0 8) a1.toNatClampNeg)) fun v9 =>
      if 0 ≤ v9 then
        if a2 = (4 : Int32) then
          f_X1_checkItem_L111 h a0 a1 a2 v9
        else
          if ¬ a2 = (6 : Int32) then
            f_X1_checkItem_L116 h a0 a1 a2 v9 (0 : Int32)
          else
            f_X1_checkItem_L111 h a0 a1 a2 v9
      else
        gs h (hR h a0 7) 21 <|
        gb (ib a1 (hN h (hR h a0 7))) <|
        bd (f_X1_noteFault h a0 (2 : Int32) (hI h (hR h a0 7) a1.toNatClampNeg)) fun q15 =>
        some q15
  else
    some h
set_option maxRecDepth 100000 in
set_option maxHeartbeats 4000000 in
theorem ok_X1_checkItem_L51 (l : Launch) (X : Cx) (h : AH) (a0 : Nat) (a1 : Int32) (a2 : Int32) (q : AH) (hf : f_X1_checkItem_L51 h a0 a1 a2 = some q) : Go l X k_X1_checkItem 51 [(0, rf X a0), (1, .int a1), (2, .int a2)] [] h (rV q) := by
  unfold f_X1_checkItem_L51 at hf
  refine g_aload_n (pc := 51) 0 dX1_checkItem_51 rfl rfl ?_
  obtain ⟨g1, hf⟩ := gs_some hf
  refine g_getR (pc := 52) fl_X1_24 dX1_checkItem_52 g1 ?_
  refine g_iload_n (pc := 55) 1 dX1_checkItem_55 rfl rfl ?_
  obtain ⟨g2, hf⟩ := gs_some hf
  obtain ⟨b3, hf⟩ := gb_some hf
  refine g_iald (pc := 56) g2 b3 dX1_checkItem_56 ?_
  rcases it_some hf with ⟨c4, hf⟩ | ⟨c4, hf⟩
  · refine g_ifne_t (pc := 57) (tgt := 61) dX1_checkItem_57 (by decide) c4 ?_
    refine g_aload_n (pc := 61) 0 dX1_checkItem_61 rfl rfl ?_
    refine g_getR (pc := 62) fl_X1_24 dX1_checkItem_62 g1 ?_
    refine g_iload_n (pc := 65) 1 dX1_checkItem_65 rfl rfl ?_
    obtain ⟨b5, hf⟩ := gb_some hf
    refine g_iald (pc := 66) g2 b5 dX1_checkItem_66 ?_
    refine g_iconst (pc := 67) (v := (2 : Int32)) dX1_checkItem_67 (by decide) ?_
    rcases it_some hf with ⟨c6, hf⟩ | ⟨c6, hf⟩
    · refine g_icne_t (pc := 68) (tgt := 148) dX1_checkItem_68 (by decide) c6 ?_
      exact ok_X1_checkItem_L148 l X h a0 a1 a2 q hf
    · refine g_icne_f (pc := 68) (tgt := 148) dX1_checkItem_68 (by decide) (Decidable.of_not_not c6) ?_
      refine g_aload_n (pc := 71) 0 dX1_checkItem_71 rfl rfl ?_
      refine g_aload_n (pc := 72) 0 dX1_checkItem_72 rfl rfl ?_
      refine g_getR (pc := 73) fl_X1_30 dX1_checkItem_73 g1 ?_
      refine g_iload_n (pc := 76) 1 dX1_checkItem_76 rfl rfl ?_
      obtain ⟨g7, hf⟩ := gs_some hf
      obtain ⟨b8, hf⟩ := gb_some hf
      refine g_lald (pc := 77) g7 b8 dX1_checkItem_77 ?_
      obtain ⟨v9, hcv9, hf⟩ := bd_some hf
      refine g_cVI (pc := 78) (k2 := k_X1_findLabel) (av := [.long (hL h (hR h a0 8) a1.toNatClampNeg)]) (q := (v9, h)) rfl dX1_checkItem_78 ck_X1_findLabel m_871 m_873 m_33 (ci := 0) rfl (by decide) g1 (by decide) (by decide) rfl (by simp [rf_cat, rq_cat, ca_i, ca_l, ca_r]) (ct_X1_findLabel l X hcv9) ?_
      refine g_istore (pc := 81) (L' := [(4, .int v9), (0, rf X a0), (1, .int a1), (2, .int a2)]) dX1_checkItem_81 (by decide) rfl rfl ?_
      refine g_iload (pc := 83) 0 dX1_checkItem_83 rfl ?_
      rcases it_some hf with ⟨c10, hf⟩ | ⟨c10, hf⟩
      · refine g_ifge_t (pc := 85) (tgt := 100) dX1_checkItem_85 (by decide) c10 ?_
        refine g_iload_n (pc := 100) 3 dX1_checkItem_100 rfl rfl ?_
        refine g_iconst (pc := 101) (v := (4 : Int32)) dX1_checkItem_101 (by decide) ?_
        rcases it_some hf with ⟨c11, hf⟩ | ⟨c11, hf⟩
        · refine g_iceq_t (pc := 102) (tgt := 111) dX1_checkItem_102 (by decide) c11 ?_
          refine g_sub [1, 2, 3, 0] rfl ?_
          exact ok_X1_checkItem_L111 l X h a0 a1 a2 v9 q hf
        · refine g_iceq_f (pc := 102) (tgt := 111) dX1_checkItem_102 (by decide) c11 ?_
          refine g_iload_n (pc := 105) 3 dX1_checkItem_105 rfl rfl ?_
          refine g_bipush (pc := 106) (v := (6 : Int32)) dX1_checkItem_106 (by decide) ?_
          rcases it_some hf with ⟨c12, hf⟩ | ⟨c12, hf⟩
          · refine g_icne_t (pc := 108) (tgt := 115) dX1_checkItem_108 (by decide) c12 ?_
            refine g_iconst (pc := 115) (v := (0 : Int32)) dX1_checkItem_115 (by decide) ?_
            refine g_sub [1, 2, 3, 0] rfl ?_
            exact ok_X1_checkItem_L116 l X h a0 a1 a2 v9 (0 : Int32) q hf
          · refine g_icne_f (pc := 108) (tgt := 115) dX1_checkItem_108 (by decide) (Decidable.of_not_not c12) ?_
            refine g_sub [1, 2, 3, 0] rfl ?_
            exact ok_X1_checkItem_L111 l X h a0 a1 a2 v9 q hf
      · refine g_ifge_f (pc := 85) (tgt := 100) dX1_checkItem_85 (by decide) c10 ?_
        refine g_aload_n (pc := 88) 1 dX1_checkItem_88 rfl rfl ?_
        refine g_iconst (pc := 89) (v := (2 : Int32)) dX1_checkItem_89 (by decide) ?_
        refine g_aload_n (pc := 90) 1 dX1_checkItem_90 rfl rfl ?_
        refine g_getR (pc := 91) fl_X1_27 dX1_checkItem_91 g1 ?_
        refine g_iload_n (pc := 94) 2 dX1_checkItem_94 rfl rfl ?_
        obtain ⟨g13, hf⟩ := gs_some hf
        obtain ⟨b14, hf⟩ := gb_some hf
        refine g_iald (pc := 95) g13 b14 dX1_checkItem_95 ?_
        obtain ⟨q15, hcq15, hf⟩ := bd_some hf
        refine g_cVV (pc := 96) (k2 := k_X1_noteFault) (av := [.int (2 : Int32), .int (hI h (hR h a0 7) a1.toNatClampNeg)]) (q := q15) rfl dX1_checkItem_96 ck_X1_noteFault m_875 m_877 m_34 (ci := 0) rfl (by decide) g1 (by decide) (by decide) rfl (by simp [rf_cat, rq_cat, ca_i, ca_l, ca_r]) (ct_X1_noteFault l X hcq15) ?_
        obtain rfl := Option.some.inj hf
        exact g_vret (pc := 99) rfl dX1_checkItem_99
  · refine g_ifne_f (pc := 57) (tgt := 61) dX1_checkItem_57 (by decide) (Decidable.of_not_not c4) ?_
    obtain rfl := Option.some.inj hf
    exact g_vret (pc := 60) rfl dX1_checkItem_60
def f_X1_checkItem (h : AH) (a0 : Nat) (a1 : Int32) : Option (AH) :=
  gs h a0 1 <|
  gs h (hR h a0 2) 21 <|
  gb (ib a1 (hN h (hR h a0 2))) <|
  gb (ib (hI h (hR h a0 2) a1.toNatClampNeg) 61) <|
  gb (decide (((hI h (hR h a0 2) a1.toNatClampNeg).toNatClampNeg) < 61)) <|
  lt ((mForm.getD ((hI h (hR h a0 2) a1.toNatClampNeg).toNatClampNeg) 0)) fun x6 =>
  bd (f_X1_wordsOf h a0 a1) fun v7 =>
  if v7 ≤ 0 then
    f_X1_checkItem_L51 h a0 a1 x6
  else
    gs h (hR h a0 4) 21 <|
    gb (ib a1 (hN h (hR h a0 4))) <|
    if ((hI h (hR h a0 4) a1.toNatClampNeg) + ((4 : Int32) * v7)) ≤ (8192 : Int32) then
      f_X1_checkItem_L51 h a0 a1 x6
    else
      gs h (hR h a0 3) 21 <|
      gb (ib a1 (hN h (hR h a0 3))) <|
      bd (f_X1_noteFault h a0 (3 : Int32) (hI h (hR h a0 3) a1.toNatClampNeg)) fun q14 =>
      f_X1_checkItem_L51 q14 a0 a1 x6
set_option maxRecDepth 100000 in
set_option maxHeartbeats 4000000 in
theorem ok_X1_checkItem (l : Launch) (X : Cx) {h : AH} {a0 : Nat} {a1 : Int32} {q : AH} (hf : f_X1_checkItem h a0 a1 = some q) : Go l X k_X1_checkItem 0 [(0, rf X a0), (1, .int a1)] [] h (rV q) := by
  unfold f_X1_checkItem at hf
  refine g_sMNN (pc := 0) 1 rfl dX1_checkItem_0 ?_
  refine g_aload_n (pc := 3) 0 dX1_checkItem_3 rfl rfl ?_
  obtain ⟨g1, hf⟩ := gs_some hf
  refine g_getR (pc := 4) fl_X1_9 dX1_checkItem_4 g1 ?_
  refine g_iload_n (pc := 7) 1 dX1_checkItem_7 rfl rfl ?_
  obtain ⟨g2, hf⟩ := gs_some hf
  obtain ⟨b3, hf⟩ := gb_some hf
  refine g_iald (pc := 8) g2 b3 dX1_checkItem_8 ?_
  obtain ⟨b4, hf⟩ := gb_some hf
  refine g_tMN (pc := 9) b4 dX1_checkItem_9 ?_
  obtain ⟨b5, hf⟩ := gb_some hf
  refine g_mForm (pc := 10) m_2052 b5 dX1_checkItem_10 ?_
  obtain ⟨x6, ex6, hf⟩ := lt_some hf
  refine g_istore_n (pc := 13) (L' := [(2, .int x6), (0, rf X a0), (1, .int a1)]) dX1_checkItem_13 rfl (by decide) ex6 rfl ?_
  refine g_aload_n (pc := 14) 1 dX1_checkItem_14 rfl rfl ?_
  refine g_iload_n (pc := 15) 2 dX1_checkItem_15 rfl rfl ?_
  obtain ⟨v7, hcv7, hf⟩ := bd_some hf
  refine g_cVI (pc := 16) (k2 := k_X1_wordsOf) (av := [.int a1]) (q := (v7, h)) rfl dX1_checkItem_16 ck_X1_wordsOf m_859 m_861 m_30 (ci := 0) rfl (by decide) g1 (by decide) (by decide) rfl (by simp [rf_cat, rq_cat, ca_i, ca_l, ca_r]) (ct_X1_wordsOf l X hcv7) ?_
  refine g_istore_n (pc := 19) (L' := [(3, .int v7), (2, .int x6), (0, rf X a0), (1, .int a1)]) dX1_checkItem_19 rfl (by decide) rfl rfl ?_
  refine g_iload_n (pc := 20) 0 dX1_checkItem_20 rfl rfl ?_
  rcases it_some hf with ⟨c8, hf⟩ | ⟨c8, hf⟩
  · refine g_ifle_t (pc := 21) (tgt := 51) dX1_checkItem_21 (by decide) c8 ?_
    refine g_sub [2, 3, 1] rfl ?_
    exact ok_X1_checkItem_L51 l X h a0 a1 x6 q hf
  · refine g_ifle_f (pc := 21) (tgt := 51) dX1_checkItem_21 (by decide) c8 ?_
    refine g_aload_n (pc := 24) 2 dX1_checkItem_24 rfl rfl ?_
    refine g_getR (pc := 25) fl_X1_18 dX1_checkItem_25 g1 ?_
    refine g_iload_n (pc := 28) 3 dX1_checkItem_28 rfl rfl ?_
    obtain ⟨g9, hf⟩ := gs_some hf
    obtain ⟨b10, hf⟩ := gb_some hf
    refine g_iald (pc := 29) g9 b10 dX1_checkItem_29 ?_
    refine g_iconst (pc := 30) (v := (4 : Int32)) dX1_checkItem_30 (by decide) ?_
    refine g_iload_n (pc := 31) 0 dX1_checkItem_31 rfl rfl ?_
    refine g_imul (pc := 32) dX1_checkItem_32 ?_
    refine g_iadd (pc := 33) dX1_checkItem_33 ?_
    refine g_sipush (pc := 34) (v := (8192 : Int32)) dX1_checkItem_34 (by decide) ?_
    rcases it_some hf with ⟨c11, hf⟩ | ⟨c11, hf⟩
    · refine g_icle_t (pc := 37) (tgt := 51) dX1_checkItem_37 (by decide) c11 ?_
      refine g_sub [2, 3, 1] rfl ?_
      exact ok_X1_checkItem_L51 l X h a0 a1 x6 q hf
    · refine g_icle_f (pc := 37) (tgt := 51) dX1_checkItem_37 (by decide) c11 ?_
      refine g_aload_n (pc := 40) 2 dX1_checkItem_40 rfl rfl ?_
      refine g_iconst (pc := 41) (v := (3 : Int32)) dX1_checkItem_41 (by decide) ?_
      refine g_aload_n (pc := 42) 2 dX1_checkItem_42 rfl rfl ?_
      refine g_getR (pc := 43) fl_X1_15 dX1_checkItem_43 g1 ?_
      refine g_iload_n (pc := 46) 3 dX1_checkItem_46 rfl rfl ?_
      obtain ⟨g12, hf⟩ := gs_some hf
      obtain ⟨b13, hf⟩ := gb_some hf
      refine g_iald (pc := 47) g12 b13 dX1_checkItem_47 ?_
      obtain ⟨q14, hcq14, hf⟩ := bd_some hf
      refine g_cVV (pc := 48) (k2 := k_X1_noteFault) (av := [.int (3 : Int32), .int (hI h (hR h a0 3) a1.toNatClampNeg)]) (q := q14) rfl dX1_checkItem_48 ck_X1_noteFault m_875 m_877 m_34 (ci := 0) rfl (by decide) g1 (by decide) (by decide) rfl (by simp [rf_cat, rq_cat, ca_i, ca_l, ca_r]) (ct_X1_noteFault l X hcq14) ?_
      refine g_sub [2, 3, 1] rfl ?_
      exact ok_X1_checkItem_L51 l X q14 a0 a1 x6 q hf
theorem ct_X1_checkItem (l : Launch) (X : Cx) {h : AH} {a0 : Nat} {a1 : Int32} {q : AH} (hf : f_X1_checkItem h a0 a1 = some q) : Ct l X k_X1_checkItem [rf X a0, .int a1] h (rV q) := ct_of ck_X1_checkItem (by simp [lg_sl, rf_cat, rq_cat, ca_i, ca_l, ca_r]) (by simp [lv_args, rf_cat, rq_cat, ca_i, ca_l, ca_r]) (ok_X1_checkItem l X hf)
def f_X1_translate_L85 : Nat → AH → Nat → Int32 → Option (Int32 × AH)
  | 0, _, _, _ => none
  | n + 1, h, a0, a1 =>
    gs h a0 1 <|
    if (hI h a0 1) ≤ a1 then
      some ((hI h a0 14), h)
    else
      bd (f_X1_checkItem h a0 a1) fun q3 =>
      lt (a1 + (1 : Int32)) fun x4 =>
      f_X1_translate_L85 n q3 a0 x4
set_option maxRecDepth 100000 in
set_option maxHeartbeats 4000000 in
theorem ok_X1_translate_L85 (l : Launch) (X : Cx) : ∀ (n : Nat) (h : AH) (a0 : Nat) (a1 : Int32) (q : Int32 × AH), f_X1_translate_L85 n h a0 a1 = some q → Go l X k_X1_translate 85 [(0, rf X a0), (1, .int a1)] [] h (rI q) := by
  intro n
  induction n with
  | zero =>
    intro h a0 a1 q hf
    unfold f_X1_translate_L85 at hf
    cases hf
  | succ n ih =>
    intro h a0 a1 q hf
    unfold f_X1_translate_L85 at hf
    refine g_iload_n (pc := 85) 1 dX1_translate_85 rfl rfl ?_
    refine g_aload_n (pc := 86) 0 dX1_translate_86 rfl rfl ?_
    obtain ⟨g1, hf⟩ := gs_some hf
    refine g_getI (pc := 87) fl_X1_50 dX1_translate_87 g1 ?_
    rcases it_some hf with ⟨c2, hf⟩ | ⟨c2, hf⟩
    · refine g_icge_t (pc := 90) (tgt := 104) dX1_translate_90 (by decide) c2 ?_
      refine g_aload_n (pc := 104) 0 dX1_translate_104 rfl rfl ?_
      refine g_getI (pc := 105) fl_X1_60 dX1_translate_105 g1 ?_
      obtain rfl := Option.some.inj hf
      exact g_iret (pc := 108) rfl dX1_translate_108
    · refine g_icge_f (pc := 90) (tgt := 104) dX1_translate_90 (by decide) c2 ?_
      refine g_aload_n (pc := 93) 0 dX1_translate_93 rfl rfl ?_
      refine g_iload_n (pc := 94) 1 dX1_translate_94 rfl rfl ?_
      obtain ⟨q3, hcq3, hf⟩ := bd_some hf
      refine g_cVV (pc := 95) (k2 := k_X1_checkItem) (av := [.int a1]) (q := q3) rfl dX1_translate_95 ck_X1_checkItem m_879 m_881 m_35 (ci := 0) rfl (by decide) g1 (by decide) (by decide) rfl (by simp [rf_cat, rq_cat, ca_i, ca_l, ca_r]) (ct_X1_checkItem l X hcq3) ?_
      obtain ⟨x4, ex4, hf⟩ := lt_some hf
      refine g_iinc (pc := 98) (y := x4) (L' := [(1, .int x4), (0, rf X a0)]) 1 dX1_translate_98 rfl (by decide) (ex4.trans rfl) (by simp [rf_cat, rq_cat]) ?_
      refine g_goto (pc := 101) (tgt := 85) dX1_translate_101 (by decide) ?_
      refine g_sub [1, 0] rfl ?_
      exact ih q3 a0 x4 q hf
def f_X1_translate_L79 (h : AH) (a0 : Nat) : Option (Int32 × AH) :=
  gs h a0 1 <|
  bd (f_X1_checkLabels h a0) fun q2 =>
  lt ((0 : Int32)) fun x3 =>
  f_X1_translate_L85 FU q2 a0 x3
set_option maxRecDepth 100000 in
set_option maxHeartbeats 4000000 in
theorem ok_X1_translate_L79 (l : Launch) (X : Cx) (h : AH) (a0 : Nat) (q : Int32 × AH) (hf : f_X1_translate_L79 h a0 = some q) : Go l X k_X1_translate 79 [(0, rf X a0)] [] h (rI q) := by
  unfold f_X1_translate_L79 at hf
  refine g_aload_n (pc := 79) 0 dX1_translate_79 rfl rfl ?_
  obtain ⟨g1, hf⟩ := gs_some hf
  obtain ⟨q2, hcq2, hf⟩ := bd_some hf
  refine g_cVV (pc := 80) (k2 := k_X1_checkLabels) (av := []) (q := q2) rfl dX1_translate_80 ck_X1_checkLabels m_867 m_869 m_32 (ci := 0) rfl (by decide) g1 (by decide) (by decide) rfl (by simp [rf_cat, rq_cat, ca_i, ca_l, ca_r]) (ct_X1_checkLabels l X hcq2) ?_
  refine g_iconst (pc := 83) (v := (0 : Int32)) dX1_translate_83 (by decide) ?_
  obtain ⟨x3, ex3, hf⟩ := lt_some hf
  refine g_istore_n (pc := 84) (L' := [(1, .int x3), (0, rf X a0)]) dX1_translate_84 rfl (by decide) ex3 (by simp [rf_cat, rq_cat]) ?_
  refine g_sub [1, 0] rfl ?_
  exact ok_X1_translate_L85 l X FU q2 a0 x3 q hf
def f_X1_translate_L49 : Nat → AH → Nat → Int32 → Option (Int32 × AH)
  | 0, _, _, _ => none
  | n + 1, h, a0, a1 =>
    if a1 ≤ 0 then
      f_X1_translate_L79 h a0
    else
      gs h a0 1 <|
      gs h (hR h a0 0) 7 <|
      if (hI h (hR h a0 0) 3) = (1 : Int32) then
        f_X1_translate_L79 h a0
      else
        bd (f_X1_readStatement h a0) fun q5 =>
        if ¬ q5.1 = 0 then
          lt (a1 + (-1 : Int32)) fun x7 =>
          f_X1_translate_L49 n q5.2 a0 x7
        else
          some ((-1 : Int32), q5.2)
set_option maxRecDepth 100000 in
set_option maxHeartbeats 4000000 in
theorem ok_X1_translate_L49 (l : Launch) (X : Cx) : ∀ (n : Nat) (h : AH) (a0 : Nat) (a1 : Int32) (q : Int32 × AH), f_X1_translate_L49 n h a0 a1 = some q → Go l X k_X1_translate 49 [(0, rf X a0), (1, .int a1)] [] h (rI q) := by
  intro n
  induction n with
  | zero =>
    intro h a0 a1 q hf
    unfold f_X1_translate_L49 at hf
    cases hf
  | succ n ih =>
    intro h a0 a1 q hf
    unfold f_X1_translate_L49 at hf
    refine g_iload_n (pc := 49) 1 dX1_translate_49 rfl rfl ?_
    rcases it_some hf with ⟨c1, hf⟩ | ⟨c1, hf⟩
    · refine g_ifle_t (pc := 50) (tgt := 79) dX1_translate_50 (by decide) c1 ?_
      refine g_sub [0] rfl ?_
      exact ok_X1_translate_L79 l X h a0 q hf
    · refine g_ifle_f (pc := 50) (tgt := 79) dX1_translate_50 (by decide) c1 ?_
      refine g_aload_n (pc := 53) 0 dX1_translate_53 rfl rfl ?_
      obtain ⟨g2, hf⟩ := gs_some hf
      refine g_getR (pc := 54) fl_X1_46 dX1_translate_54 g2 ?_
      obtain ⟨g3, hf⟩ := gs_some hf
      refine g_getI (pc := 57) fl_X1_80 dX1_translate_57 g3 ?_
      refine g_iconst (pc := 60) (v := (1 : Int32)) dX1_translate_60 (by decide) ?_
      rcases it_some hf with ⟨c4, hf⟩ | ⟨c4, hf⟩
      · refine g_iceq_t (pc := 61) (tgt := 79) dX1_translate_61 (by decide) c4 ?_
        refine g_sub [0] rfl ?_
        exact ok_X1_translate_L79 l X h a0 q hf
      · refine g_iceq_f (pc := 61) (tgt := 79) dX1_translate_61 (by decide) c4 ?_
        refine g_aload_n (pc := 64) 0 dX1_translate_64 rfl rfl ?_
        obtain ⟨q5, hcq5, hf⟩ := bd_some hf
        refine g_cVI (pc := 65) (k2 := k_X1_readStatement) (av := []) (q := q5) rfl dX1_translate_65 ck_X1_readStatement m_752 m_754 m_22 (ci := 0) rfl (by decide) g2 (by decide) (by decide) rfl (by simp [rf_cat, rq_cat, ca_i, ca_l, ca_r]) (ct_X1_readStatement l X hcq5) ?_
        rcases it_some hf with ⟨c6, hf⟩ | ⟨c6, hf⟩
        · refine g_ifne_t (pc := 68) (tgt := 73) dX1_translate_68 (by decide) c6 ?_
          obtain ⟨x7, ex7, hf⟩ := lt_some hf
          refine g_iinc (pc := 73) (y := x7) (L' := [(1, .int x7), (0, rf X a0)]) 1 dX1_translate_73 rfl (by decide) (ex7.trans rfl) (by simp [rf_cat, rq_cat]) ?_
          refine g_goto (pc := 76) (tgt := 49) dX1_translate_76 (by decide) ?_
          refine g_sub [1, 0] rfl ?_
          exact ih q5.2 a0 x7 q hf
        · refine g_ifne_f (pc := 68) (tgt := 73) dX1_translate_68 (by decide) (Decidable.of_not_not c6) ?_
          refine g_iconst (pc := 71) (v := (-1 : Int32)) dX1_translate_71 (by decide) ?_
          obtain rfl := Option.some.inj hf
          exact g_iret (pc := 72) rfl dX1_translate_72
def f_X1_translate (h : AH) (a0 : Nat) : Option (Int32 × AH) :=
  gs h a0 1 <|
  lt (sI h a0 1 (0 : Int32)) fun h2 =>
  lt (sI h2 a0 9 (0 : Int32)) fun h4 =>
  lt (sI h4 a0 13 (0 : Int32)) fun h6 =>
  lt (sI h6 a0 14 (0 : Int32)) fun h8 =>
  lt (sI h8 a0 16 (0 : Int32)) fun h10 =>
  lt (sI h10 a0 17 (0 : Int32)) fun h12 =>
  bd (f_J7_fill_53178 h12 (hR h12 a0 15) (0 : Int32)) fun q14 =>
  gs q14 a0 1 <|
  gs q14 (hR q14 a0 0) 7 <|
  bd (f_X8_rewind q14 (hR q14 a0 0)) fun q17 =>
  lt ((1500 : Int32)) fun x18 =>
  f_X1_translate_L49 FU q17 a0 x18
set_option maxRecDepth 100000 in
set_option maxHeartbeats 4000000 in
theorem ok_X1_translate (l : Launch) (X : Cx) {h : AH} {a0 : Nat} {q : Int32 × AH} (hf : f_X1_translate h a0 = some q) : Go l X k_X1_translate 0 [(0, rf X a0)] [] h (rI q) := by
  unfold f_X1_translate at hf
  refine g_aload_n (pc := 0) 0 dX1_translate_0 rfl rfl ?_
  refine g_iconst (pc := 1) (v := (0 : Int32)) dX1_translate_1 (by decide) ?_
  obtain ⟨g1, hf⟩ := gs_some hf
  obtain ⟨h2, eh2, hf⟩ := lt_some hf
  refine g_putI (pc := 2) fl_X1_50 dX1_translate_2 g1 eh2 ?_
  refine g_aload_n (pc := 5) 0 dX1_translate_5 rfl rfl ?_
  refine g_iconst (pc := 6) (v := (0 : Int32)) dX1_translate_6 (by decide) ?_
  have g3 : hS h2 a0 = 1 := (hS_tI eh2 g1)
  obtain ⟨h4, eh4, hf⟩ := lt_some hf
  refine g_putI (pc := 7) fl_X1_54 dX1_translate_7 g3 eh4 ?_
  refine g_aload_n (pc := 10) 0 dX1_translate_10 rfl rfl ?_
  refine g_iconst (pc := 11) (v := (0 : Int32)) dX1_translate_11 (by decide) ?_
  have g5 : hS h4 a0 = 1 := (hS_tI eh4 g3)
  obtain ⟨h6, eh6, hf⟩ := lt_some hf
  refine g_putI (pc := 12) fl_X1_57 dX1_translate_12 g5 eh6 ?_
  refine g_aload_n (pc := 15) 0 dX1_translate_15 rfl rfl ?_
  refine g_iconst (pc := 16) (v := (0 : Int32)) dX1_translate_16 (by decide) ?_
  have g7 : hS h6 a0 = 1 := (hS_tI eh6 g5)
  obtain ⟨h8, eh8, hf⟩ := lt_some hf
  refine g_putI (pc := 17) fl_X1_60 dX1_translate_17 g7 eh8 ?_
  refine g_aload_n (pc := 20) 0 dX1_translate_20 rfl rfl ?_
  refine g_iconst (pc := 21) (v := (0 : Int32)) dX1_translate_21 (by decide) ?_
  have g9 : hS h8 a0 = 1 := (hS_tI eh8 g7)
  obtain ⟨h10, eh10, hf⟩ := lt_some hf
  refine g_putI (pc := 22) fl_X1_63 dX1_translate_22 g9 eh10 ?_
  refine g_aload_n (pc := 25) 0 dX1_translate_25 rfl rfl ?_
  refine g_iconst (pc := 26) (v := (0 : Int32)) dX1_translate_26 (by decide) ?_
  have g11 : hS h10 a0 = 1 := (hS_tI eh10 g9)
  obtain ⟨h12, eh12, hf⟩ := lt_some hf
  refine g_putI (pc := 27) fl_X1_66 dX1_translate_27 g11 eh12 ?_
  refine g_aload_n (pc := 30) 0 dX1_translate_30 rfl rfl ?_
  have g13 : hS h12 a0 = 1 := (hS_tI eh12 g11)
  refine g_getR (pc := 31) fl_X1_43 dX1_translate_31 g13 ?_
  refine g_iconst (pc := 34) (v := (0 : Int32)) dX1_translate_34 (by decide) ?_
  obtain ⟨q14, hcq14, hf⟩ := bd_some hf
  refine g_cSV (pc := 35) (k2 := k_J7_fill_53178) (av := [rf X (hR h12 a0 15), .int (0 : Int32)]) (q := q14) rfl dX1_translate_35 ck_J7_fill_53178 m_726 m_287 (by decide) (by decide) rfl (by simp [rf_cat, rq_cat, ca_i, ca_l, ca_r]) (ct_J7_fill_53178 l X hcq14) ?_
  refine g_aload_n (pc := 38) 0 dX1_translate_38 rfl rfl ?_
  obtain ⟨g15, hf⟩ := gs_some hf
  refine g_getR (pc := 39) fl_X1_46 dX1_translate_39 g15 ?_
  obtain ⟨g16, hf⟩ := gs_some hf
  obtain ⟨q17, hcq17, hf⟩ := bd_some hf
  refine g_cVV (pc := 42) (k2 := k_X8_rewind) (av := []) (q := q17) rfl dX1_translate_42 ck_X8_rewind m_727 m_728 m_729 (ci := 6) rfl (by decide) g16 (by decide) (by decide) rfl (by simp [rf_cat, rq_cat, ca_i, ca_l, ca_r]) (ct_X8_rewind l X hcq17) ?_
  refine g_sipush (pc := 45) (v := (1500 : Int32)) dX1_translate_45 (by decide) ?_
  obtain ⟨x18, ex18, hf⟩ := lt_some hf
  refine g_istore_n (pc := 48) (L' := [(1, .int x18), (0, rf X a0)]) dX1_translate_48 rfl (by decide) ex18 (by simp [rf_cat, rq_cat]) ?_
  refine g_sub [1, 0] rfl ?_
  exact ok_X1_translate_L49 l X FU q17 a0 x18 q hf
theorem ct_X1_translate (l : Launch) (X : Cx) {h : AH} {a0 : Nat} {q : Int32 × AH} (hf : f_X1_translate h a0 = some q) : Ct l X k_X1_translate [rf X a0] h (rI q) := ct_of ck_X1_translate (by simp [lg_sl, rf_cat, rq_cat, ca_i, ca_l, ca_r]) (by simp [lv_args, rf_cat, rq_cat, ca_i, ca_l, ca_r]) (ok_X1_translate l X hf)
def f_X1_upperPart (h : AH) (a0 : Nat) (a1 : Int32) : Option (Int32) :=
  gs h a0 1 <|
  gs h (hR h a0 8) 22 <|
  gb (ib a1 (hN h (hR h a0 8))) <|
  lt ((hL h (hR h a0 8) a1.toNatClampNeg).toInt32) fun x4 =>
  lt (((x4 <<< ((20 : Int32) &&& 31)) >>> ((20 : Int32) &&& 31))) fun x5 =>
  gs h (hR h a0 5) 21 <|
  gb (ib a1 (hN h (hR h a0 5))) <|
  lt (((hI h (hR h a0 5) a1.toNatClampNeg) &&& (3968 : Int32))) fun x8 =>
  some (((55 : Int32) ||| x8) ||| (x4 - x5))
set_option maxRecDepth 100000 in
set_option maxHeartbeats 4000000 in
theorem ok_X1_upperPart (l : Launch) (X : Cx) {h : AH} {a0 : Nat} {a1 : Int32} {q : Int32} (hf : f_X1_upperPart h a0 a1 = some q) : Go l X k_X1_upperPart 0 [(0, rf X a0), (1, .int a1)] [] h (rI (q, h)) := by
  unfold f_X1_upperPart at hf
  refine g_aload_n (pc := 0) 0 dX1_upperPart_0 rfl rfl ?_
  obtain ⟨g1, hf⟩ := gs_some hf
  refine g_getR (pc := 1) fl_X1_30 dX1_upperPart_1 g1 ?_
  refine g_iload_n (pc := 4) 1 dX1_upperPart_4 rfl rfl ?_
  obtain ⟨g2, hf⟩ := gs_some hf
  obtain ⟨b3, hf⟩ := gb_some hf
  refine g_lald (pc := 5) g2 b3 dX1_upperPart_5 ?_
  refine g_l2i (pc := 6) dX1_upperPart_6 ?_
  obtain ⟨x4, ex4, hf⟩ := lt_some hf
  refine g_istore_n (pc := 7) (L' := [(2, .int x4), (0, rf X a0), (1, .int a1)]) dX1_upperPart_7 rfl (by decide) ex4 rfl ?_
  refine g_iload_n (pc := 8) 0 dX1_upperPart_8 rfl rfl ?_
  refine g_bipush (pc := 9) (v := (20 : Int32)) dX1_upperPart_9 (by decide) ?_
  refine g_ishl (pc := 11) dX1_upperPart_11 ?_
  refine g_bipush (pc := 12) (v := (20 : Int32)) dX1_upperPart_12 (by decide) ?_
  refine g_ishr (pc := 14) dX1_upperPart_14 ?_
  obtain ⟨x5, ex5, hf⟩ := lt_some hf
  refine g_istore_n (pc := 15) (L' := [(3, .int x5), (2, .int x4), (0, rf X a0), (1, .int a1)]) dX1_upperPart_15 rfl (by decide) ex5 rfl ?_
  refine g_aload_n (pc := 16) 2 dX1_upperPart_16 rfl rfl ?_
  refine g_getR (pc := 17) fl_X1_21 dX1_upperPart_17 g1 ?_
  refine g_iload_n (pc := 20) 3 dX1_upperPart_20 rfl rfl ?_
  obtain ⟨g6, hf⟩ := gs_some hf
  obtain ⟨b7, hf⟩ := gb_some hf
  refine g_iald (pc := 21) g6 b7 dX1_upperPart_21 ?_
  refine g_sipush (pc := 22) (v := (3968 : Int32)) dX1_upperPart_22 (by decide) ?_
  refine g_iand (pc := 25) dX1_upperPart_25 ?_
  obtain ⟨x8, ex8, hf⟩ := lt_some hf
  refine g_istore (pc := 26) (L' := [(4, .int x8), (3, .int x5), (2, .int x4), (0, rf X a0), (1, .int a1)]) dX1_upperPart_26 (by decide) ex8 rfl ?_
  refine g_bipush (pc := 28) (v := (55 : Int32)) dX1_upperPart_28 (by decide) ?_
  refine g_iload (pc := 30) 0 dX1_upperPart_30 rfl ?_
  refine g_ior (pc := 32) dX1_upperPart_32 ?_
  refine g_iload_n (pc := 33) 2 dX1_upperPart_33 rfl rfl ?_
  refine g_iload_n (pc := 34) 1 dX1_upperPart_34 rfl rfl ?_
  refine g_isub (pc := 35) dX1_upperPart_35 ?_
  refine g_ior (pc := 36) dX1_upperPart_36 ?_
  obtain rfl := Option.some.inj hf
  exact g_iret (pc := 37) rfl dX1_upperPart_37
theorem ct_X1_upperPart (l : Launch) (X : Cx) {h : AH} {a0 : Nat} {a1 : Int32} {q : Int32} (hf : f_X1_upperPart h a0 a1 = some q) : Ct l X k_X1_upperPart [rf X a0, .int a1] h (rI (q, h)) := ct_of ck_X1_upperPart (by simp [lg_sl, rf_cat, rq_cat, ca_i, ca_l, ca_r]) (by simp [lv_args, rf_cat, rq_cat, ca_i, ca_l, ca_r]) (ok_X1_upperPart l X hf)
def f_X1_encode (h : AH) (a0 : Nat) (a1 : Int32) : Option (Int32) :=
  gs h a0 1 <|
  gs h (hR h a0 8) 22 <|
  gb (ib a1 (hN h (hR h a0 8))) <|
  lt ((hL h (hR h a0 8) a1.toNatClampNeg).toInt32) fun x4 =>
  gs h (hR h a0 2) 21 <|
  gb (ib a1 (hN h (hR h a0 2))) <|
  gb (ib (hI h (hR h a0 2) a1.toNatClampNeg) 61) <|
  gb (decide (((hI h (hR h a0 2) a1.toNatClampNeg).toNatClampNeg) < 61)) <|
  if (mForm.getD ((hI h (hR h a0 2) a1.toNatClampNeg).toNatClampNeg) 0) = (1 : Int32) then
    gs h (hR h a0 5) 21 <|
    gb (ib a1 (hN h (hR h a0 5))) <|
    some ((hI h (hR h a0 5) a1.toNatClampNeg) ||| (x4 <<< ((20 : Int32) &&& 31)))
  else
    if (mForm.getD ((hI h (hR h a0 2) a1.toNatClampNeg).toNatClampNeg) 0) = (2 : Int32) then
      gs h (hR h a0 5) 21 <|
      gb (ib a1 (hN h (hR h a0 5))) <|
      some ((hI h (hR h a0 5) a1.toNatClampNeg) ||| (x4 <<< ((20 : Int32) &&& 31)))
    else
      if (mForm.getD ((hI h (hR h a0 2) a1.toNatClampNeg).toNatClampNeg) 0) = (3 : Int32) then
        gs h (hR h a0 5) 21 <|
        gb (ib a1 (hN h (hR h a0 5))) <|
        some (((hI h (hR h a0 5) a1.toNatClampNeg) ||| ((x4 >>> ((5 : Int32) &&& 31)) <<< ((25 : Int32) &&& 31))) ||| ((x4 &&& (31 : Int32)) <<< ((7 : Int32) &&& 31)))
      else
        if (mForm.getD ((hI h (hR h a0 2) a1.toNatClampNeg).toNatClampNeg) 0) = (4 : Int32) then
          gs h (hR h a0 5) 21 <|
          gb (ib a1 (hN h (hR h a0 5))) <|
          some (((((hI h (hR h a0 5) a1.toNatClampNeg) ||| ((x4 >>> ((12 : Int32) &&& 31)) <<< ((31 : Int32) &&& 31))) ||| (((x4 >>> ((5 : Int32) &&& 31)) &&& (63 : Int32)) <<< ((25 : Int32) &&& 31))) ||| (((x4 >>> ((1 : Int32) &&& 31)) &&& (15 : Int32)) <<< ((8 : Int32) &&& 31))) ||| (((x4 >>> ((11 : Int32) &&& 31)) &&& (1 : Int32)) <<< ((7 : Int32) &&& 31)))
        else
          if (mForm.getD ((hI h (hR h a0 2) a1.toNatClampNeg).toNatClampNeg) 0) = (5 : Int32) then
            gs h (hR h a0 5) 21 <|
            gb (ib a1 (hN h (hR h a0 5))) <|
            some ((hI h (hR h a0 5) a1.toNatClampNeg) ||| (x4 <<< ((12 : Int32) &&& 31)))
          else
            if (mForm.getD ((hI h (hR h a0 2) a1.toNatClampNeg).toNatClampNeg) 0) = (6 : Int32) then
              gs h (hR h a0 5) 21 <|
              gb (ib a1 (hN h (hR h a0 5))) <|
              some (((((hI h (hR h a0 5) a1.toNatClampNeg) ||| ((x4 >>> ((20 : Int32) &&& 31)) <<< ((31 : Int32) &&& 31))) ||| (((x4 >>> ((1 : Int32) &&& 31)) &&& (1023 : Int32)) <<< ((21 : Int32) &&& 31))) ||| (((x4 >>> ((11 : Int32) &&& 31)) &&& (1 : Int32)) <<< ((20 : Int32) &&& 31))) ||| (x4 &&& (1044480 : Int32)))
            else
              if (mForm.getD ((hI h (hR h a0 2) a1.toNatClampNeg).toNatClampNeg) 0) = (7 : Int32) then
                gs h (hR h a0 5) 21 <|
                gb (ib a1 (hN h (hR h a0 5))) <|
                some ((hI h (hR h a0 5) a1.toNatClampNeg) ||| (x4 <<< ((20 : Int32) &&& 31)))
              else
                if (mForm.getD ((hI h (hR h a0 2) a1.toNatClampNeg).toNatClampNeg) 0) = (8 : Int32) then
                  some x4
                else
                  gs h (hR h a0 5) 21 <|
                  gb (ib a1 (hN h (hR h a0 5))) <|
                  some (hI h (hR h a0 5) a1.toNatClampNeg)
set_option maxRecDepth 100000 in
set_option maxHeartbeats 4000000 in
theorem ok_X1_encode (l : Launch) (X : Cx) {h : AH} {a0 : Nat} {a1 : Int32} {q : Int32} (hf : f_X1_encode h a0 a1 = some q) : Go l X k_X1_encode 0 [(0, rf X a0), (1, .int a1)] [] h (rI (q, h)) := by
  unfold f_X1_encode at hf
  refine g_aload_n (pc := 0) 0 dX1_encode_0 rfl rfl ?_
  obtain ⟨g1, hf⟩ := gs_some hf
  refine g_getR (pc := 1) fl_X1_30 dX1_encode_1 g1 ?_
  refine g_iload_n (pc := 4) 1 dX1_encode_4 rfl rfl ?_
  obtain ⟨g2, hf⟩ := gs_some hf
  obtain ⟨b3, hf⟩ := gb_some hf
  refine g_lald (pc := 5) g2 b3 dX1_encode_5 ?_
  refine g_l2i (pc := 6) dX1_encode_6 ?_
  obtain ⟨x4, ex4, hf⟩ := lt_some hf
  refine g_istore_n (pc := 7) (L' := [(2, .int x4), (0, rf X a0), (1, .int a1)]) dX1_encode_7 rfl (by decide) ex4 rfl ?_
  refine g_sMNN (pc := 8) 1 rfl dX1_encode_8 ?_
  refine g_aload_n (pc := 11) 1 dX1_encode_11 rfl rfl ?_
  refine g_getR (pc := 12) fl_X1_9 dX1_encode_12 g1 ?_
  refine g_iload_n (pc := 15) 2 dX1_encode_15 rfl rfl ?_
  obtain ⟨g5, hf⟩ := gs_some hf
  obtain ⟨b6, hf⟩ := gb_some hf
  refine g_iald (pc := 16) g5 b6 dX1_encode_16 ?_
  obtain ⟨b7, hf⟩ := gb_some hf
  refine g_tMN (pc := 17) b7 dX1_encode_17 ?_
  obtain ⟨b8, hf⟩ := gb_some hf
  refine g_mForm (pc := 18) m_2052 b8 dX1_encode_18 ?_
  rcases it_some hf with ⟨c9, hf⟩ | ⟨c9, hf⟩
  · refine g_tsw (pc := 21) (tgt := 68) (1 : Int32) dX1_encode_21 c9 (by decide +kernel) (by decide +kernel) (off := 47) (by decide +kernel) (by decide) ?_
    refine g_aload_n (pc := 68) 1 dX1_encode_68 rfl rfl ?_
    refine g_getR (pc := 69) fl_X1_21 dX1_encode_69 g1 ?_
    refine g_iload_n (pc := 72) 2 dX1_encode_72 rfl rfl ?_
    obtain ⟨g10, hf⟩ := gs_some hf
    obtain ⟨b11, hf⟩ := gb_some hf
    refine g_iald (pc := 73) g10 b11 dX1_encode_73 ?_
    refine g_iload_n (pc := 74) 0 dX1_encode_74 rfl rfl ?_
    refine g_bipush (pc := 75) (v := (20 : Int32)) dX1_encode_75 (by decide) ?_
    refine g_ishl (pc := 77) dX1_encode_77 ?_
    refine g_ior (pc := 78) dX1_encode_78 ?_
    obtain rfl := Option.some.inj hf
    exact g_iret (pc := 79) rfl dX1_encode_79
  ·
    rcases it_some hf with ⟨c12, hf⟩ | ⟨c12, hf⟩
    · refine g_tsw (pc := 21) (tgt := 68) (2 : Int32) dX1_encode_21 c12 (by decide +kernel) (by decide +kernel) (off := 47) (by decide +kernel) (by decide) ?_
      refine g_aload_n (pc := 68) 1 dX1_encode_68 rfl rfl ?_
      refine g_getR (pc := 69) fl_X1_21 dX1_encode_69 g1 ?_
      refine g_iload_n (pc := 72) 2 dX1_encode_72 rfl rfl ?_
      obtain ⟨g13, hf⟩ := gs_some hf
      obtain ⟨b14, hf⟩ := gb_some hf
      refine g_iald (pc := 73) g13 b14 dX1_encode_73 ?_
      refine g_iload_n (pc := 74) 0 dX1_encode_74 rfl rfl ?_
      refine g_bipush (pc := 75) (v := (20 : Int32)) dX1_encode_75 (by decide) ?_
      refine g_ishl (pc := 77) dX1_encode_77 ?_
      refine g_ior (pc := 78) dX1_encode_78 ?_
      obtain rfl := Option.some.inj hf
      exact g_iret (pc := 79) rfl dX1_encode_79
    ·
      rcases it_some hf with ⟨c15, hf⟩ | ⟨c15, hf⟩
      · refine g_tsw (pc := 21) (tgt := 80) (3 : Int32) dX1_encode_21 c15 (by decide +kernel) (by decide +kernel) (off := 59) (by decide +kernel) (by decide) ?_
        refine g_aload_n (pc := 80) 1 dX1_encode_80 rfl rfl ?_
        refine g_getR (pc := 81) fl_X1_21 dX1_encode_81 g1 ?_
        refine g_iload_n (pc := 84) 2 dX1_encode_84 rfl rfl ?_
        obtain ⟨g16, hf⟩ := gs_some hf
        obtain ⟨b17, hf⟩ := gb_some hf
        refine g_iald (pc := 85) g16 b17 dX1_encode_85 ?_
        refine g_iload_n (pc := 86) 0 dX1_encode_86 rfl rfl ?_
        refine g_iconst (pc := 87) (v := (5 : Int32)) dX1_encode_87 (by decide) ?_
        refine g_ishr (pc := 88) dX1_encode_88 ?_
        refine g_bipush (pc := 89) (v := (25 : Int32)) dX1_encode_89 (by decide) ?_
        refine g_ishl (pc := 91) dX1_encode_91 ?_
        refine g_ior (pc := 92) dX1_encode_92 ?_
        refine g_iload_n (pc := 93) 0 dX1_encode_93 rfl rfl ?_
        refine g_bipush (pc := 94) (v := (31 : Int32)) dX1_encode_94 (by decide) ?_
        refine g_iand (pc := 96) dX1_encode_96 ?_
        refine g_bipush (pc := 97) (v := (7 : Int32)) dX1_encode_97 (by decide) ?_
        refine g_ishl (pc := 99) dX1_encode_99 ?_
        refine g_ior (pc := 100) dX1_encode_100 ?_
        obtain rfl := Option.some.inj hf
        exact g_iret (pc := 101) rfl dX1_encode_101
      ·
        rcases it_some hf with ⟨c18, hf⟩ | ⟨c18, hf⟩
        · refine g_tsw (pc := 21) (tgt := 102) (4 : Int32) dX1_encode_21 c18 (by decide +kernel) (by decide +kernel) (off := 81) (by decide +kernel) (by decide) ?_
          refine g_aload_n (pc := 102) 1 dX1_encode_102 rfl rfl ?_
          refine g_getR (pc := 103) fl_X1_21 dX1_encode_103 g1 ?_
          refine g_iload_n (pc := 106) 2 dX1_encode_106 rfl rfl ?_
          obtain ⟨g19, hf⟩ := gs_some hf
          obtain ⟨b20, hf⟩ := gb_some hf
          refine g_iald (pc := 107) g19 b20 dX1_encode_107 ?_
          refine g_iload_n (pc := 108) 0 dX1_encode_108 rfl rfl ?_
          refine g_bipush (pc := 109) (v := (12 : Int32)) dX1_encode_109 (by decide) ?_
          refine g_ishr (pc := 111) dX1_encode_111 ?_
          refine g_bipush (pc := 112) (v := (31 : Int32)) dX1_encode_112 (by decide) ?_
          refine g_ishl (pc := 114) dX1_encode_114 ?_
          refine g_ior (pc := 115) dX1_encode_115 ?_
          refine g_iload_n (pc := 116) 0 dX1_encode_116 rfl rfl ?_
          refine g_iconst (pc := 117) (v := (5 : Int32)) dX1_encode_117 (by decide) ?_
          refine g_ishr (pc := 118) dX1_encode_118 ?_
          refine g_bipush (pc := 119) (v := (63 : Int32)) dX1_encode_119 (by decide) ?_
          refine g_iand (pc := 121) dX1_encode_121 ?_
          refine g_bipush (pc := 122) (v := (25 : Int32)) dX1_encode_122 (by decide) ?_
          refine g_ishl (pc := 124) dX1_encode_124 ?_
          refine g_ior (pc := 125) dX1_encode_125 ?_
          refine g_iload_n (pc := 126) 0 dX1_encode_126 rfl rfl ?_
          refine g_iconst (pc := 127) (v := (1 : Int32)) dX1_encode_127 (by decide) ?_
          refine g_ishr (pc := 128) dX1_encode_128 ?_
          refine g_bipush (pc := 129) (v := (15 : Int32)) dX1_encode_129 (by decide) ?_
          refine g_iand (pc := 131) dX1_encode_131 ?_
          refine g_bipush (pc := 132) (v := (8 : Int32)) dX1_encode_132 (by decide) ?_
          refine g_ishl (pc := 134) dX1_encode_134 ?_
          refine g_ior (pc := 135) dX1_encode_135 ?_
          refine g_iload_n (pc := 136) 0 dX1_encode_136 rfl rfl ?_
          refine g_bipush (pc := 137) (v := (11 : Int32)) dX1_encode_137 (by decide) ?_
          refine g_ishr (pc := 139) dX1_encode_139 ?_
          refine g_iconst (pc := 140) (v := (1 : Int32)) dX1_encode_140 (by decide) ?_
          refine g_iand (pc := 141) dX1_encode_141 ?_
          refine g_bipush (pc := 142) (v := (7 : Int32)) dX1_encode_142 (by decide) ?_
          refine g_ishl (pc := 144) dX1_encode_144 ?_
          refine g_ior (pc := 145) dX1_encode_145 ?_
          obtain rfl := Option.some.inj hf
          exact g_iret (pc := 146) rfl dX1_encode_146
        ·
          rcases it_some hf with ⟨c21, hf⟩ | ⟨c21, hf⟩
          · refine g_tsw (pc := 21) (tgt := 147) (5 : Int32) dX1_encode_21 c21 (by decide +kernel) (by decide +kernel) (off := 126) (by decide +kernel) (by decide) ?_
            refine g_aload_n (pc := 147) 1 dX1_encode_147 rfl rfl ?_
            refine g_getR (pc := 148) fl_X1_21 dX1_encode_148 g1 ?_
            refine g_iload_n (pc := 151) 2 dX1_encode_151 rfl rfl ?_
            obtain ⟨g22, hf⟩ := gs_some hf
            obtain ⟨b23, hf⟩ := gb_some hf
            refine g_iald (pc := 152) g22 b23 dX1_encode_152 ?_
            refine g_iload_n (pc := 153) 0 dX1_encode_153 rfl rfl ?_
            refine g_bipush (pc := 154) (v := (12 : Int32)) dX1_encode_154 (by decide) ?_
            refine g_ishl (pc := 156) dX1_encode_156 ?_
            refine g_ior (pc := 157) dX1_encode_157 ?_
            obtain rfl := Option.some.inj hf
            exact g_iret (pc := 158) rfl dX1_encode_158
          ·
            rcases it_some hf with ⟨c24, hf⟩ | ⟨c24, hf⟩
            · refine g_tsw (pc := 21) (tgt := 159) (6 : Int32) dX1_encode_21 c24 (by decide +kernel) (by decide +kernel) (off := 138) (by decide +kernel) (by decide) ?_
              refine g_aload_n (pc := 159) 1 dX1_encode_159 rfl rfl ?_
              refine g_getR (pc := 160) fl_X1_21 dX1_encode_160 g1 ?_
              refine g_iload_n (pc := 163) 2 dX1_encode_163 rfl rfl ?_
              obtain ⟨g25, hf⟩ := gs_some hf
              obtain ⟨b26, hf⟩ := gb_some hf
              refine g_iald (pc := 164) g25 b26 dX1_encode_164 ?_
              refine g_iload_n (pc := 165) 0 dX1_encode_165 rfl rfl ?_
              refine g_bipush (pc := 166) (v := (20 : Int32)) dX1_encode_166 (by decide) ?_
              refine g_ishr (pc := 168) dX1_encode_168 ?_
              refine g_bipush (pc := 169) (v := (31 : Int32)) dX1_encode_169 (by decide) ?_
              refine g_ishl (pc := 171) dX1_encode_171 ?_
              refine g_ior (pc := 172) dX1_encode_172 ?_
              refine g_iload_n (pc := 173) 0 dX1_encode_173 rfl rfl ?_
              refine g_iconst (pc := 174) (v := (1 : Int32)) dX1_encode_174 (by decide) ?_
              refine g_ishr (pc := 175) dX1_encode_175 ?_
              refine g_sipush (pc := 176) (v := (1023 : Int32)) dX1_encode_176 (by decide) ?_
              refine g_iand (pc := 179) dX1_encode_179 ?_
              refine g_bipush (pc := 180) (v := (21 : Int32)) dX1_encode_180 (by decide) ?_
              refine g_ishl (pc := 182) dX1_encode_182 ?_
              refine g_ior (pc := 183) dX1_encode_183 ?_
              refine g_iload_n (pc := 184) 0 dX1_encode_184 rfl rfl ?_
              refine g_bipush (pc := 185) (v := (11 : Int32)) dX1_encode_185 (by decide) ?_
              refine g_ishr (pc := 187) dX1_encode_187 ?_
              refine g_iconst (pc := 188) (v := (1 : Int32)) dX1_encode_188 (by decide) ?_
              refine g_iand (pc := 189) dX1_encode_189 ?_
              refine g_bipush (pc := 190) (v := (20 : Int32)) dX1_encode_190 (by decide) ?_
              refine g_ishl (pc := 192) dX1_encode_192 ?_
              refine g_ior (pc := 193) dX1_encode_193 ?_
              refine g_iload_n (pc := 194) 0 dX1_encode_194 rfl rfl ?_
              refine g_ldc (pc := 195) (v := (1044480 : Int32)) m_977 dX1_encode_195 ?_
              refine g_iand (pc := 197) dX1_encode_197 ?_
              refine g_ior (pc := 198) dX1_encode_198 ?_
              obtain rfl := Option.some.inj hf
              exact g_iret (pc := 199) rfl dX1_encode_199
            ·
              rcases it_some hf with ⟨c27, hf⟩ | ⟨c27, hf⟩
              · refine g_tsw (pc := 21) (tgt := 68) (7 : Int32) dX1_encode_21 c27 (by decide +kernel) (by decide +kernel) (off := 47) (by decide +kernel) (by decide) ?_
                refine g_aload_n (pc := 68) 1 dX1_encode_68 rfl rfl ?_
                refine g_getR (pc := 69) fl_X1_21 dX1_encode_69 g1 ?_
                refine g_iload_n (pc := 72) 2 dX1_encode_72 rfl rfl ?_
                obtain ⟨g28, hf⟩ := gs_some hf
                obtain ⟨b29, hf⟩ := gb_some hf
                refine g_iald (pc := 73) g28 b29 dX1_encode_73 ?_
                refine g_iload_n (pc := 74) 0 dX1_encode_74 rfl rfl ?_
                refine g_bipush (pc := 75) (v := (20 : Int32)) dX1_encode_75 (by decide) ?_
                refine g_ishl (pc := 77) dX1_encode_77 ?_
                refine g_ior (pc := 78) dX1_encode_78 ?_
                obtain rfl := Option.some.inj hf
                exact g_iret (pc := 79) rfl dX1_encode_79
              ·
                rcases it_some hf with ⟨c30, hf⟩ | ⟨c30, hf⟩
                · refine g_tsw (pc := 21) (tgt := 200) (8 : Int32) dX1_encode_21 c30 (by decide +kernel) (by decide +kernel) (off := 179) (by decide +kernel) (by decide) ?_
                  refine g_iload_n (pc := 200) 0 dX1_encode_200 rfl rfl ?_
                  obtain rfl := Option.some.inj hf
                  exact g_iret (pc := 201) rfl dX1_encode_201
                ·
                  refine g_tswD (pc := 21) (tgt := 202) [(1 : Int32), (2 : Int32), (3 : Int32), (4 : Int32), (5 : Int32), (6 : Int32), (7 : Int32), (8 : Int32)] dX1_encode_21 (cons_ne c9 (cons_ne c12 (cons_ne c15 (cons_ne c18 (cons_ne c21 (cons_ne c24 (cons_ne c27 (cons_ne c30 nil_ne)))))))) (by decide +kernel) (by decide +kernel) (by decide) ?_
                  refine g_aload_n (pc := 202) 1 dX1_encode_202 rfl rfl ?_
                  refine g_getR (pc := 203) fl_X1_21 dX1_encode_203 g1 ?_
                  refine g_iload_n (pc := 206) 2 dX1_encode_206 rfl rfl ?_
                  obtain ⟨g31, hf⟩ := gs_some hf
                  obtain ⟨b32, hf⟩ := gb_some hf
                  refine g_iald (pc := 207) g31 b32 dX1_encode_207 ?_
                  obtain rfl := Option.some.inj hf
                  exact g_iret (pc := 208) rfl dX1_encode_208
theorem ct_X1_encode (l : Launch) (X : Cx) {h : AH} {a0 : Nat} {a1 : Int32} {q : Int32} (hf : f_X1_encode h a0 a1 = some q) : Ct l X k_X1_encode [rf X a0, .int a1] h (rI (q, h)) := ct_of ck_X1_encode (by simp [lg_sl, rf_cat, rq_cat, ca_i, ca_l, ca_r]) (by simp [lv_args, rf_cat, rq_cat, ca_i, ca_l, ca_r]) (ok_X1_encode l X hf)
def f_X1_lowerPart (h : AH) (a0 : Nat) (a1 : Int32) : Option (Int32) :=
  gs h a0 1 <|
  gs h (hR h a0 5) 21 <|
  gb (ib a1 (hN h (hR h a0 5))) <|
  lt (((hI h (hR h a0 5) a1.toNatClampNeg) &&& (3968 : Int32))) fun x4 =>
  gs h (hR h a0 8) 22 <|
  gb (ib a1 (hN h (hR h a0 8))) <|
  some ((((19 : Int32) ||| x4) ||| (x4 <<< ((8 : Int32) &&& 31))) ||| (((hL h (hR h a0 8) a1.toNatClampNeg).toInt32) <<< ((20 : Int32) &&& 31)))
set_option maxRecDepth 100000 in
set_option maxHeartbeats 4000000 in
theorem ok_X1_lowerPart (l : Launch) (X : Cx) {h : AH} {a0 : Nat} {a1 : Int32} {q : Int32} (hf : f_X1_lowerPart h a0 a1 = some q) : Go l X k_X1_lowerPart 0 [(0, rf X a0), (1, .int a1)] [] h (rI (q, h)) := by
  unfold f_X1_lowerPart at hf
  refine g_aload_n (pc := 0) 0 dX1_lowerPart_0 rfl rfl ?_
  obtain ⟨g1, hf⟩ := gs_some hf
  refine g_getR (pc := 1) fl_X1_21 dX1_lowerPart_1 g1 ?_
  refine g_iload_n (pc := 4) 1 dX1_lowerPart_4 rfl rfl ?_
  obtain ⟨g2, hf⟩ := gs_some hf
  obtain ⟨b3, hf⟩ := gb_some hf
  refine g_iald (pc := 5) g2 b3 dX1_lowerPart_5 ?_
  refine g_sipush (pc := 6) (v := (3968 : Int32)) dX1_lowerPart_6 (by decide) ?_
  refine g_iand (pc := 9) dX1_lowerPart_9 ?_
  obtain ⟨x4, ex4, hf⟩ := lt_some hf
  refine g_istore_n (pc := 10) (L' := [(2, .int x4), (0, rf X a0), (1, .int a1)]) dX1_lowerPart_10 rfl (by decide) ex4 rfl ?_
  refine g_bipush (pc := 11) (v := (19 : Int32)) dX1_lowerPart_11 (by decide) ?_
  refine g_iload_n (pc := 13) 0 dX1_lowerPart_13 rfl rfl ?_
  refine g_ior (pc := 14) dX1_lowerPart_14 ?_
  refine g_iload_n (pc := 15) 0 dX1_lowerPart_15 rfl rfl ?_
  refine g_bipush (pc := 16) (v := (8 : Int32)) dX1_lowerPart_16 (by decide) ?_
  refine g_ishl (pc := 18) dX1_lowerPart_18 ?_
  refine g_ior (pc := 19) dX1_lowerPart_19 ?_
  refine g_aload_n (pc := 20) 1 dX1_lowerPart_20 rfl rfl ?_
  refine g_getR (pc := 21) fl_X1_30 dX1_lowerPart_21 g1 ?_
  refine g_iload_n (pc := 24) 2 dX1_lowerPart_24 rfl rfl ?_
  obtain ⟨g5, hf⟩ := gs_some hf
  obtain ⟨b6, hf⟩ := gb_some hf
  refine g_lald (pc := 25) g5 b6 dX1_lowerPart_25 ?_
  refine g_l2i (pc := 26) dX1_lowerPart_26 ?_
  refine g_bipush (pc := 27) (v := (20 : Int32)) dX1_lowerPart_27 (by decide) ?_
  refine g_ishl (pc := 29) dX1_lowerPart_29 ?_
  refine g_ior (pc := 30) dX1_lowerPart_30 ?_
  obtain rfl := Option.some.inj hf
  exact g_iret (pc := 31) rfl dX1_lowerPart_31
theorem ct_X1_lowerPart (l : Launch) (X : Cx) {h : AH} {a0 : Nat} {a1 : Int32} {q : Int32} (hf : f_X1_lowerPart h a0 a1 = some q) : Ct l X k_X1_lowerPart [rf X a0, .int a1] h (rI (q, h)) := ct_of ck_X1_lowerPart (by simp [lg_sl, rf_cat, rq_cat, ca_i, ca_l, ca_r]) (by simp [lv_args, rf_cat, rq_cat, ca_i, ca_l, ca_r]) (ok_X1_lowerPart l X hf)
def f_X1_emit_L78 (k2 : AH → Nat → Nat → Int32 → Option (AH)) (h : AH) (a0 : Nat) (a1 : Nat) (a2 : Int32) : Option (AH) :=
  lt (a2 + (1 : Int32)) fun x1 =>
  k2 h a0 a1 x1
set_option maxRecDepth 100000 in
set_option maxHeartbeats 4000000 in
theorem ok_X1_emit_L78 (l : Launch) (X : Cx) (k2 : AH → Nat → Nat → Int32 → Option (AH)) (hk2 : ∀ (h : AH) (a0 : Nat) (a1 : Nat) (a2 : Int32) (q : AH), k2 h a0 a1 a2 = some q → Go l X k_X1_emit 2 [(0, rf X a0), (1, rf X a1), (2, .int a2)] [] h (rV q)) (h : AH) (a0 : Nat) (a1 : Nat) (a2 : Int32) (q : AH) (hf : f_X1_emit_L78 k2 h a0 a1 a2 = some q) : Go l X k_X1_emit 78 [(0, rf X a0), (1, rf X a1), (2, .int a2)] [] h (rV q) := by
  unfold f_X1_emit_L78 at hf
  obtain ⟨x1, ex1, hf⟩ := lt_some hf
  refine g_iinc (pc := 78) (y := x1) (L' := [(2, .int x1), (0, rf X a0), (1, rf X a1)]) 2 dX1_emit_78 rfl (by decide) (ex1.trans rfl) (by simp [rf_cat, rq_cat]) ?_
  refine g_goto (pc := 81) (tgt := 2) dX1_emit_81 (by decide) ?_
  refine g_sub [1, 2, 0] rfl ?_
  exact hk2 h a0 a1 x1 q hf
def f_X1_emit_L61 (k2 : AH → Nat → Nat → Int32 → Option (AH)) (h : AH) (a0 : Nat) (a1 : Nat) (a2 : Int32) (a3 : Int32) (a4 : Int32) (s0 : Nat) (s1 : Int32) (s2 : Int32) : Option (AH) :=
  gs h s0 21 <|
  gb (ib s1 (hN h s0)) <|
  lt (sI h s0 s1.toNatClampNeg s2) fun h3 =>
  if ¬ a3 = (2 : Int32) then
    f_X1_emit_L78 k2 h3 a0 a1 a2
  else
    gs h3 a0 1 <|
    bd (f_X1_lowerPart h3 a0 a2) fun v6 =>
    gs h3 a1 21 <|
    gb (ib (a4 + (1 : Int32)) (hN h3 a1)) <|
    lt (sI h3 a1 (a4 + (1 : Int32)).toNatClampNeg v6) fun h9 =>
    f_X1_emit_L78 k2 h9 a0 a1 a2
set_option maxRecDepth 100000 in
set_option maxHeartbeats 4000000 in
theorem ok_X1_emit_L61 (l : Launch) (X : Cx) (k2 : AH → Nat → Nat → Int32 → Option (AH)) (hk2 : ∀ (h : AH) (a0 : Nat) (a1 : Nat) (a2 : Int32) (q : AH), k2 h a0 a1 a2 = some q → Go l X k_X1_emit 2 [(0, rf X a0), (1, rf X a1), (2, .int a2)] [] h (rV q)) (h : AH) (a0 : Nat) (a1 : Nat) (a2 : Int32) (a3 : Int32) (a4 : Int32) (s0 : Nat) (s1 : Int32) (s2 : Int32) (q : AH) (hf : f_X1_emit_L61 k2 h a0 a1 a2 a3 a4 s0 s1 s2 = some q) : Go l X k_X1_emit 61 [(0, rf X a0), (1, rf X a1), (2, .int a2), (3, .int a3), (4, .int a4)] [.int s2, .int s1, rf X s0] h (rV q) := by
  unfold f_X1_emit_L61 at hf
  obtain ⟨g1, hf⟩ := gs_some hf
  obtain ⟨b2, hf⟩ := gb_some hf
  obtain ⟨h3, eh3, hf⟩ := lt_some hf
  refine g_iast (pc := 61) g1 b2 dX1_emit_61 eh3 ?_
  refine g_iload_n (pc := 62) 3 dX1_emit_62 rfl rfl ?_
  refine g_iconst (pc := 63) (v := (2 : Int32)) dX1_emit_63 (by decide) ?_
  rcases it_some hf with ⟨c4, hf⟩ | ⟨c4, hf⟩
  · refine g_icne_t (pc := 64) (tgt := 78) dX1_emit_64 (by decide) c4 ?_
    refine g_sub [0, 1, 2] rfl ?_
    exact ok_X1_emit_L78 l X k2 hk2 h3 a0 a1 a2 q hf
  · refine g_icne_f (pc := 64) (tgt := 78) dX1_emit_64 (by decide) (Decidable.of_not_not c4) ?_
    refine g_aload_n (pc := 67) 1 dX1_emit_67 rfl rfl ?_
    refine g_iload (pc := 68) 4 dX1_emit_68 rfl ?_
    refine g_iconst (pc := 70) (v := (1 : Int32)) dX1_emit_70 (by decide) ?_
    refine g_iadd (pc := 71) dX1_emit_71 ?_
    refine g_aload_n (pc := 72) 0 dX1_emit_72 rfl rfl ?_
    refine g_iload_n (pc := 73) 2 dX1_emit_73 rfl rfl ?_
    obtain ⟨g5, hf⟩ := gs_some hf
    obtain ⟨v6, hcv6, hf⟩ := bd_some hf
    refine g_cVI (pc := 74) (k2 := k_X1_lowerPart) (av := [.int a2]) (q := (v6, h3)) rfl dX1_emit_74 ck_X1_lowerPart m_978 m_980 m_40 (ci := 0) rfl (by decide) g5 (by decide) (by decide) rfl (by simp [rf_cat, rq_cat, ca_i, ca_l, ca_r]) (ct_X1_lowerPart l X hcv6) ?_
    obtain ⟨g7, hf⟩ := gs_some hf
    obtain ⟨b8, hf⟩ := gb_some hf
    obtain ⟨h9, eh9, hf⟩ := lt_some hf
    refine g_iast (pc := 77) g7 b8 dX1_emit_77 eh9 ?_
    refine g_sub [0, 1, 2] rfl ?_
    exact ok_X1_emit_L78 l X k2 hk2 h9 a0 a1 a2 q hf
def f_X1_emit_L2 : Nat → AH → Nat → Nat → Int32 → Option (AH)
  | 0, _, _, _, _ => none
  | n + 1, h, a0, a1, a2 =>
    gs h a0 1 <|
    if (hI h a0 1) ≤ a2 then
      some h
    else
      bd (f_X1_wordsOf h a0 a2) fun v3 =>
      gs h (hR h a0 4) 21 <|
      gb (ib a2 (hN h (hR h a0 4))) <|
      lt (((hI h (hR h a0 4) a2.toNatClampNeg) >>> ((2 : Int32) &&& 31))) fun x6 =>
      if v3 ≤ 0 then
        f_X1_emit_L78 (f_X1_emit_L2 n) h a0 a1 a2
      else
        if (2048 : Int32) < (x6 + v3) then
          f_X1_emit_L78 (f_X1_emit_L2 n) h a0 a1 a2
        else
          if ¬ v3 = (2 : Int32) then
            bd (f_X1_encode h a0 a2) fun v10 =>
            f_X1_emit_L61 (f_X1_emit_L2 n) h a0 a1 a2 v3 x6 a1 x6 v10
          else
            bd (f_X1_upperPart h a0 a2) fun v11 =>
            f_X1_emit_L61 (f_X1_emit_L2 n) h a0 a1 a2 v3 x6 a1 x6 v11
set_option maxRecDepth 100000 in
set_option maxHeartbeats 4000000 in
theorem ok_X1_emit_L2 (l : Launch) (X : Cx) : ∀ (n : Nat) (h : AH) (a0 : Nat) (a1 : Nat) (a2 : Int32) (q : AH), f_X1_emit_L2 n h a0 a1 a2 = some q → Go l X k_X1_emit 2 [(0, rf X a0), (1, rf X a1), (2, .int a2)] [] h (rV q) := by
  intro n
  induction n with
  | zero =>
    intro h a0 a1 a2 q hf
    unfold f_X1_emit_L2 at hf
    cases hf
  | succ n ih =>
    intro h a0 a1 a2 q hf
    unfold f_X1_emit_L2 at hf
    refine g_iload_n (pc := 2) 2 dX1_emit_2 rfl rfl ?_
    refine g_aload_n (pc := 3) 0 dX1_emit_3 rfl rfl ?_
    obtain ⟨g1, hf⟩ := gs_some hf
    refine g_getI (pc := 4) fl_X1_50 dX1_emit_4 g1 ?_
    rcases it_some hf with ⟨c2, hf⟩ | ⟨c2, hf⟩
    · refine g_icge_t (pc := 7) (tgt := 84) dX1_emit_7 (by decide) c2 ?_
      obtain rfl := Option.some.inj hf
      exact g_vret (pc := 84) rfl dX1_emit_84
    · refine g_icge_f (pc := 7) (tgt := 84) dX1_emit_7 (by decide) c2 ?_
      refine g_aload_n (pc := 10) 0 dX1_emit_10 rfl rfl ?_
      refine g_iload_n (pc := 11) 2 dX1_emit_11 rfl rfl ?_
      obtain ⟨v3, hcv3, hf⟩ := bd_some hf
      refine g_cVI (pc := 12) (k2 := k_X1_wordsOf) (av := [.int a2]) (q := (v3, h)) rfl dX1_emit_12 ck_X1_wordsOf m_859 m_861 m_30 (ci := 0) rfl (by decide) g1 (by decide) (by decide) rfl (by simp [rf_cat, rq_cat, ca_i, ca_l, ca_r]) (ct_X1_wordsOf l X hcv3) ?_
      refine g_istore_n (pc := 15) (L' := [(3, .int v3), (0, rf X a0), (1, rf X a1), (2, .int a2)]) dX1_emit_15 rfl (by decide) rfl rfl ?_
      refine g_aload_n (pc := 16) 1 dX1_emit_16 rfl rfl ?_
      refine g_getR (pc := 17) fl_X1_18 dX1_emit_17 g1 ?_
      refine g_iload_n (pc := 20) 3 dX1_emit_20 rfl rfl ?_
      obtain ⟨g4, hf⟩ := gs_some hf
      obtain ⟨b5, hf⟩ := gb_some hf
      refine g_iald (pc := 21) g4 b5 dX1_emit_21 ?_
      refine g_iconst (pc := 22) (v := (2 : Int32)) dX1_emit_22 (by decide) ?_
      refine g_ishr (pc := 23) dX1_emit_23 ?_
      obtain ⟨x6, ex6, hf⟩ := lt_some hf
      refine g_istore (pc := 24) (L' := [(4, .int x6), (3, .int v3), (0, rf X a0), (1, rf X a1), (2, .int a2)]) dX1_emit_24 (by decide) ex6 rfl ?_
      refine g_iload_n (pc := 26) 1 dX1_emit_26 rfl rfl ?_
      rcases it_some hf with ⟨c7, hf⟩ | ⟨c7, hf⟩
      · refine g_ifle_t (pc := 27) (tgt := 78) dX1_emit_27 (by decide) c7 ?_
        refine g_sub [2, 3, 4] rfl ?_
        exact ok_X1_emit_L78 l X (f_X1_emit_L2 n) ih h a0 a1 a2 q hf
      · refine g_ifle_f (pc := 27) (tgt := 78) dX1_emit_27 (by decide) c7 ?_
        refine g_iload (pc := 30) 0 dX1_emit_30 rfl ?_
        refine g_iload_n (pc := 32) 1 dX1_emit_32 rfl rfl ?_
        refine g_iadd (pc := 33) dX1_emit_33 ?_
        refine g_sipush (pc := 34) (v := (2048 : Int32)) dX1_emit_34 (by decide) ?_
        rcases it_some hf with ⟨c8, hf⟩ | ⟨c8, hf⟩
        · refine g_icgt_t (pc := 37) (tgt := 78) dX1_emit_37 (by decide) c8 ?_
          refine g_sub [2, 3, 4] rfl ?_
          exact ok_X1_emit_L78 l X (f_X1_emit_L2 n) ih h a0 a1 a2 q hf
        · refine g_icgt_f (pc := 37) (tgt := 78) dX1_emit_37 (by decide) c8 ?_
          refine g_aload_n (pc := 40) 3 dX1_emit_40 rfl rfl ?_
          refine g_iload (pc := 41) 0 dX1_emit_41 rfl ?_
          refine g_iload_n (pc := 43) 1 dX1_emit_43 rfl rfl ?_
          refine g_iconst (pc := 44) (v := (2 : Int32)) dX1_emit_44 (by decide) ?_
          rcases it_some hf with ⟨c9, hf⟩ | ⟨c9, hf⟩
          · refine g_icne_t (pc := 45) (tgt := 56) dX1_emit_45 (by decide) c9 ?_
            refine g_aload_n (pc := 56) 2 dX1_emit_56 rfl rfl ?_
            refine g_iload_n (pc := 57) 4 dX1_emit_57 rfl rfl ?_
            obtain ⟨v10, hcv10, hf⟩ := bd_some hf
            refine g_cVI (pc := 58) (k2 := k_X1_encode) (av := [.int a2]) (q := (v10, h)) rfl dX1_emit_58 ck_X1_encode m_973 m_975 m_39 (ci := 0) rfl (by decide) g1 (by decide) (by decide) rfl (by simp [rf_cat, rq_cat, ca_i, ca_l, ca_r]) (ct_X1_encode l X hcv10) ?_
            refine g_sub [2, 3, 4, 1, 0] rfl ?_
            exact ok_X1_emit_L61 l X (f_X1_emit_L2 n) ih h a0 a1 a2 v3 x6 a1 x6 v10 q hf
          · refine g_icne_f (pc := 45) (tgt := 56) dX1_emit_45 (by decide) (Decidable.of_not_not c9) ?_
            refine g_aload_n (pc := 48) 2 dX1_emit_48 rfl rfl ?_
            refine g_iload_n (pc := 49) 4 dX1_emit_49 rfl rfl ?_
            obtain ⟨v11, hcv11, hf⟩ := bd_some hf
            refine g_cVI (pc := 50) (k2 := k_X1_upperPart) (av := [.int a2]) (q := (v11, h)) rfl dX1_emit_50 ck_X1_upperPart m_969 m_971 m_38 (ci := 0) rfl (by decide) g1 (by decide) (by decide) rfl (by simp [rf_cat, rq_cat, ca_i, ca_l, ca_r]) (ct_X1_upperPart l X hcv11) ?_
            refine g_goto (pc := 53) (tgt := 61) dX1_emit_53 (by decide) ?_
            refine g_sub [2, 3, 4, 1, 0] rfl ?_
            exact ok_X1_emit_L61 l X (f_X1_emit_L2 n) ih h a0 a1 a2 v3 x6 a1 x6 v11 q hf
def f_X1_emit (h : AH) (a0 : Nat) (a1 : Nat) : Option (AH) :=
  lt ((0 : Int32)) fun x1 =>
  f_X1_emit_L2 FU h a0 a1 x1
set_option maxRecDepth 100000 in
set_option maxHeartbeats 4000000 in
theorem ok_X1_emit (l : Launch) (X : Cx) {h : AH} {a0 : Nat} {a1 : Nat} {q : AH} (hf : f_X1_emit h a0 a1 = some q) : Go l X k_X1_emit 0 [(0, rf X a0), (1, rf X a1)] [] h (rV q) := by
  unfold f_X1_emit at hf
  refine g_iconst (pc := 0) (v := (0 : Int32)) dX1_emit_0 (by decide) ?_
  obtain ⟨x1, ex1, hf⟩ := lt_some hf
  refine g_istore_n (pc := 1) (L' := [(2, .int x1), (0, rf X a0), (1, rf X a1)]) dX1_emit_1 rfl (by decide) ex1 (by simp [rf_cat, rq_cat]) ?_
  refine g_sub [1, 2, 0] rfl ?_
  exact ok_X1_emit_L2 l X FU h a0 a1 x1 q hf
theorem ct_X1_emit (l : Launch) (X : Cx) {h : AH} {a0 : Nat} {a1 : Nat} {q : AH} (hf : f_X1_emit h a0 a1 = some q) : Ct l X k_X1_emit [rf X a0, rf X a1] h (rV q) := ct_of ck_X1_emit (by simp [lg_sl, rf_cat, rq_cat, ca_i, ca_l, ca_r]) (by simp [lv_args, rf_cat, rq_cat, ca_i, ca_l, ca_r]) (ok_X1_emit l X hf)
def f_X2_init (h : AH) (a0 : Nat) : Option (AH) :=
  gs h a0 2 <|
  lt (hNew h 21 (32 : Int32).toNatClampNeg (32 : Int32).toNatClampNeg) fun h2 =>
  gs h2 a0 2 <|
  lt (sR h2 a0 0 (hZ h + 1)) fun h4 =>
  lt (hNew h4 21 (32 : Int32).toNatClampNeg (32 : Int32).toNatClampNeg) fun h5 =>
  gs h5 a0 2 <|
  lt (sR h5 a0 1 (hZ h4 + 1)) fun h7 =>
  lt (hNew h7 21 (32 : Int32).toNatClampNeg (32 : Int32).toNatClampNeg) fun h8 =>
  gs h8 a0 2 <|
  lt (sR h8 a0 2 (hZ h7 + 1)) fun h10 =>
  lt (hNew h10 21 (128 : Int32).toNatClampNeg (128 : Int32).toNatClampNeg) fun h11 =>
  gs h11 a0 2 <|
  lt (sR h11 a0 3 (hZ h10 + 1)) fun h13 =>
  some h13
set_option maxRecDepth 100000 in
set_option maxHeartbeats 4000000 in
theorem ok_X2_init (l : Launch) (X : Cx) {h : AH} {a0 : Nat} {q : AH} (hf : f_X2_init h a0 = some q) : Go l X k_X2_init 0 [(0, rf X a0)] [] h (rV q) := by
  unfold f_X2_init at hf
  refine g_aload_n (pc := 0) 0 dX2_init_0 rfl rfl ?_
  obtain ⟨g1, hf⟩ := gs_some hf
  refine g_objInit (pc := 1) m_376 m_154 m_155 g1 (by decide) (by decide) (by decide) (by simp [rf_cat, rq_cat, ca_i, ca_l, ca_r]) dX2_init_1 ?_
  refine g_aload_n (pc := 4) 0 dX2_init_4 rfl rfl ?_
  refine g_bipush (pc := 5) (v := (32 : Int32)) dX2_init_5 (by decide) ?_
  obtain ⟨h2, eh2, hf⟩ := lt_some hf
  refine g_newI (pc := 7) m_252 dX2_init_7 (by decide) eh2 ?_
  obtain ⟨g3, hf⟩ := gs_some hf
  obtain ⟨h4, eh4, hf⟩ := lt_some hf
  refine g_putRF (pc := 9) fl_X2_9 rfl (cl_own rfl) (Or.inr ⟨_, rfl⟩) dX2_init_9 g3 eh4 ?_
  refine g_aload_n (pc := 12) 0 dX2_init_12 rfl rfl ?_
  refine g_bipush (pc := 13) (v := (32 : Int32)) dX2_init_13 (by decide) ?_
  obtain ⟨h5, eh5, hf⟩ := lt_some hf
  refine g_newI (pc := 15) m_252 dX2_init_15 (by decide) eh5 ?_
  obtain ⟨g6, hf⟩ := gs_some hf
  obtain ⟨h7, eh7, hf⟩ := lt_some hf
  refine g_putRF (pc := 17) fl_X2_15 rfl (cl_own rfl) (Or.inr ⟨_, rfl⟩) dX2_init_17 g6 eh7 ?_
  refine g_aload_n (pc := 20) 0 dX2_init_20 rfl rfl ?_
  refine g_bipush (pc := 21) (v := (32 : Int32)) dX2_init_21 (by decide) ?_
  obtain ⟨h8, eh8, hf⟩ := lt_some hf
  refine g_newI (pc := 23) m_252 dX2_init_23 (by decide) eh8 ?_
  obtain ⟨g9, hf⟩ := gs_some hf
  obtain ⟨h10, eh10, hf⟩ := lt_some hf
  refine g_putRF (pc := 25) fl_X2_18 rfl (cl_own rfl) (Or.inr ⟨_, rfl⟩) dX2_init_25 g9 eh10 ?_
  refine g_aload_n (pc := 28) 0 dX2_init_28 rfl rfl ?_
  refine g_sipush (pc := 29) (v := (128 : Int32)) dX2_init_29 (by decide) ?_
  obtain ⟨h11, eh11, hf⟩ := lt_some hf
  refine g_newI (pc := 32) m_252 dX2_init_32 (by decide) eh11 ?_
  obtain ⟨g12, hf⟩ := gs_some hf
  obtain ⟨h13, eh13, hf⟩ := lt_some hf
  refine g_putRF (pc := 34) fl_X2_21 rfl (cl_own rfl) (Or.inr ⟨_, rfl⟩) dX2_init_34 g12 eh13 ?_
  obtain rfl := Option.some.inj hf
  exact g_vret (pc := 37) rfl dX2_init_37
theorem ct_X2_init (l : Launch) (X : Cx) {h : AH} {a0 : Nat} {q : AH} (hf : f_X2_init h a0 = some q) : Ct l X k_X2_init [rf X a0] h (rV q) := ct_of ck_X2_init (by simp [lg_sl, rf_cat, rq_cat, ca_i, ca_l, ca_r]) (by simp [lv_args, rf_cat, rq_cat, ca_i, ca_l, ca_r]) (ok_X2_init l X hf)
def f_X2_begin (h : AH) (a0 : Nat) (a1 : Int32) (a2 : Int32) : Option (AH) :=
  gs h a0 2 <|
  lt (sI h a0 4 a1) fun h2 =>
  lt (sI h2 a0 5 a2) fun h4 =>
  lt (sI h4 a0 6 (0 : Int32)) fun h6 =>
  bd (f_J7_fill_53178 h6 (hR h6 a0 1) (0 : Int32)) fun q8 =>
  some q8
set_option maxRecDepth 100000 in
set_option maxHeartbeats 4000000 in
theorem ok_X2_begin (l : Launch) (X : Cx) {h : AH} {a0 : Nat} {a1 : Int32} {a2 : Int32} {q : AH} (hf : f_X2_begin h a0 a1 a2 = some q) : Go l X k_X2_begin 0 [(0, rf X a0), (1, .int a1), (2, .int a2)] [] h (rV q) := by
  unfold f_X2_begin at hf
  refine g_aload_n (pc := 0) 0 dX2_begin_0 rfl rfl ?_
  refine g_iload_n (pc := 1) 1 dX2_begin_1 rfl rfl ?_
  obtain ⟨g1, hf⟩ := gs_some hf
  obtain ⟨h2, eh2, hf⟩ := lt_some hf
  refine g_putI (pc := 2) fl_X2_24 dX2_begin_2 g1 eh2 ?_
  refine g_aload_n (pc := 5) 0 dX2_begin_5 rfl rfl ?_
  refine g_iload_n (pc := 6) 2 dX2_begin_6 rfl rfl ?_
  have g3 : hS h2 a0 = 2 := (hS_tI eh2 g1)
  obtain ⟨h4, eh4, hf⟩ := lt_some hf
  refine g_putI (pc := 7) fl_X2_28 dX2_begin_7 g3 eh4 ?_
  refine g_aload_n (pc := 10) 0 dX2_begin_10 rfl rfl ?_
  refine g_iconst (pc := 11) (v := (0 : Int32)) dX2_begin_11 (by decide) ?_
  have g5 : hS h4 a0 = 2 := (hS_tI eh4 g3)
  obtain ⟨h6, eh6, hf⟩ := lt_some hf
  refine g_putI (pc := 12) fl_X2_31 dX2_begin_12 g5 eh6 ?_
  refine g_aload_n (pc := 15) 0 dX2_begin_15 rfl rfl ?_
  have g7 : hS h6 a0 = 2 := (hS_tI eh6 g5)
  refine g_getR (pc := 16) fl_X2_15 dX2_begin_16 g7 ?_
  refine g_iconst (pc := 19) (v := (0 : Int32)) dX2_begin_19 (by decide) ?_
  obtain ⟨q8, hcq8, hf⟩ := bd_some hf
  refine g_cSV (pc := 20) (k2 := k_J7_fill_53178) (av := [rf X (hR h6 a0 1), .int (0 : Int32)]) (q := q8) rfl dX2_begin_20 ck_J7_fill_53178 m_432 m_287 (by decide) (by decide) rfl (by simp [rf_cat, rq_cat, ca_i, ca_l, ca_r]) (ct_J7_fill_53178 l X hcq8) ?_
  obtain rfl := Option.some.inj hf
  exact g_vret (pc := 23) rfl dX2_begin_23
theorem ct_X2_begin (l : Launch) (X : Cx) {h : AH} {a0 : Nat} {a1 : Int32} {a2 : Int32} {q : AH} (hf : f_X2_begin h a0 a1 a2 = some q) : Ct l X k_X2_begin [rf X a0, .int a1, .int a2] h (rV q) := ct_of ck_X2_begin (by simp [lg_sl, rf_cat, rq_cat, ca_i, ca_l, ca_r]) (by simp [lv_args, rf_cat, rq_cat, ca_i, ca_l, ca_r]) (ok_X2_begin l X hf)
def f_X2_find_L47 (h : AH) (k16 : Nat → Int32 → Int32 → Int32 → Option (Int32)) (a0 : Nat) (a1 : Int32) (a2 : Int32) (a3 : Int32) : Option (Int32) :=
  lt (a3 + (1 : Int32)) fun x1 =>
  k16 a0 a1 a2 x1
set_option maxRecDepth 100000 in
set_option maxHeartbeats 4000000 in
theorem ok_X2_find_L47 (l : Launch) (X : Cx) (h : AH) (k16 : Nat → Int32 → Int32 → Int32 → Option (Int32)) (hk16 : ∀ (a0 : Nat) (a1 : Int32) (a2 : Int32) (a3 : Int32) (q : Int32), k16 a0 a1 a2 a3 = some q → Go l X k_X2_find 16 [(0, rf X a0), (1, .int a1), (2, .int a2), (3, .int a3)] [] h (rI (q, h))) (a0 : Nat) (a1 : Int32) (a2 : Int32) (a3 : Int32) (q : Int32) (hf : f_X2_find_L47 h k16 a0 a1 a2 a3 = some q) : Go l X k_X2_find 47 [(0, rf X a0), (1, .int a1), (2, .int a2), (3, .int a3)] [] h (rI (q, h)) := by
  unfold f_X2_find_L47 at hf
  obtain ⟨x1, ex1, hf⟩ := lt_some hf
  refine g_iinc (pc := 47) (y := x1) (L' := [(3, .int x1), (0, rf X a0), (1, .int a1), (2, .int a2)]) 3 dX2_find_47 rfl (by decide) (ex1.trans rfl) rfl ?_
  refine g_goto (pc := 50) (tgt := 16) dX2_find_50 (by decide) ?_
  refine g_sub [1, 2, 3, 0] rfl ?_
  exact hk16 a0 a1 a2 x1 q hf
def f_X2_find_L16 (h : AH) : Nat → Nat → Int32 → Int32 → Int32 → Option (Int32)
  | 0, _, _, _, _ => none
  | n + 1, a0, a1, a2, a3 =>
    gs h a0 2 <|
    if (a2 + (hI h a0 5)) ≤ a3 then
      some (-1 : Int32)
    else
      gs h (hR h a0 1) 21 <|
      gb (ib a3 (hN h (hR h a0 1))) <|
      if (hI h (hR h a0 1) a3.toNatClampNeg) = 0 then
        f_X2_find_L47 h (f_X2_find_L16 h n) a0 a1 a2 a3
      else
        gs h (hR h a0 0) 21 <|
        gb (ib a3 (hN h (hR h a0 0))) <|
        if ¬ (hI h (hR h a0 0) a3.toNatClampNeg) = a1 then
          f_X2_find_L47 h (f_X2_find_L16 h n) a0 a1 a2 a3
        else
          some a3
set_option maxRecDepth 100000 in
set_option maxHeartbeats 4000000 in
theorem ok_X2_find_L16 (l : Launch) (X : Cx) (h : AH) : ∀ (n : Nat) (a0 : Nat) (a1 : Int32) (a2 : Int32) (a3 : Int32) (q : Int32), f_X2_find_L16 h n a0 a1 a2 a3 = some q → Go l X k_X2_find 16 [(0, rf X a0), (1, .int a1), (2, .int a2), (3, .int a3)] [] h (rI (q, h)) := by
  intro n
  induction n with
  | zero =>
    intro a0 a1 a2 a3 q hf
    unfold f_X2_find_L16 at hf
    cases hf
  | succ n ih =>
    intro a0 a1 a2 a3 q hf
    unfold f_X2_find_L16 at hf
    refine g_iload_n (pc := 16) 3 dX2_find_16 rfl rfl ?_
    refine g_iload_n (pc := 17) 2 dX2_find_17 rfl rfl ?_
    refine g_aload_n (pc := 18) 0 dX2_find_18 rfl rfl ?_
    obtain ⟨g1, hf⟩ := gs_some hf
    refine g_getI (pc := 19) fl_X2_28 dX2_find_19 g1 ?_
    refine g_iadd (pc := 22) dX2_find_22 ?_
    rcases it_some hf with ⟨c2, hf⟩ | ⟨c2, hf⟩
    · refine g_icge_t (pc := 23) (tgt := 53) dX2_find_23 (by decide) c2 ?_
      refine g_iconst (pc := 53) (v := (-1 : Int32)) dX2_find_53 (by decide) ?_
      obtain rfl := Option.some.inj hf
      exact g_iret (pc := 54) rfl dX2_find_54
    · refine g_icge_f (pc := 23) (tgt := 53) dX2_find_23 (by decide) c2 ?_
      refine g_aload_n (pc := 26) 0 dX2_find_26 rfl rfl ?_
      refine g_getR (pc := 27) fl_X2_15 dX2_find_27 g1 ?_
      refine g_iload_n (pc := 30) 3 dX2_find_30 rfl rfl ?_
      obtain ⟨g3, hf⟩ := gs_some hf
      obtain ⟨b4, hf⟩ := gb_some hf
      refine g_iald (pc := 31) g3 b4 dX2_find_31 ?_
      rcases it_some hf with ⟨c5, hf⟩ | ⟨c5, hf⟩
      · refine g_ifeq_t (pc := 32) (tgt := 47) dX2_find_32 (by decide) c5 ?_
        exact ok_X2_find_L47 l X h (f_X2_find_L16 h n) ih a0 a1 a2 a3 q hf
      · refine g_ifeq_f (pc := 32) (tgt := 47) dX2_find_32 (by decide) c5 ?_
        refine g_aload_n (pc := 35) 0 dX2_find_35 rfl rfl ?_
        refine g_getR (pc := 36) fl_X2_9 dX2_find_36 g1 ?_
        refine g_iload_n (pc := 39) 3 dX2_find_39 rfl rfl ?_
        obtain ⟨g6, hf⟩ := gs_some hf
        obtain ⟨b7, hf⟩ := gb_some hf
        refine g_iald (pc := 40) g6 b7 dX2_find_40 ?_
        refine g_iload_n (pc := 41) 1 dX2_find_41 rfl rfl ?_
        rcases it_some hf with ⟨c8, hf⟩ | ⟨c8, hf⟩
        · refine g_icne_t (pc := 42) (tgt := 47) dX2_find_42 (by decide) c8 ?_
          exact ok_X2_find_L47 l X h (f_X2_find_L16 h n) ih a0 a1 a2 a3 q hf
        · refine g_icne_f (pc := 42) (tgt := 47) dX2_find_42 (by decide) (Decidable.of_not_not c8) ?_
          refine g_iload_n (pc := 45) 3 dX2_find_45 rfl rfl ?_
          obtain rfl := Option.some.inj hf
          exact g_iret (pc := 46) rfl dX2_find_46
def f_X2_find (h : AH) (a0 : Nat) (a1 : Int32) : Option (Int32) :=
  gs h a0 2 <|
  lt (((a1 &&& ((hI h a0 4) - (1 : Int32))) * (hI h a0 5))) fun x2 =>
  f_X2_find_L16 h FU a0 a1 x2 x2
set_option maxRecDepth 100000 in
set_option maxHeartbeats 4000000 in
theorem ok_X2_find (l : Launch) (X : Cx) {h : AH} {a0 : Nat} {a1 : Int32} {q : Int32} (hf : f_X2_find h a0 a1 = some q) : Go l X k_X2_find 0 [(0, rf X a0), (1, .int a1)] [] h (rI (q, h)) := by
  unfold f_X2_find at hf
  refine g_iload_n (pc := 0) 1 dX2_find_0 rfl rfl ?_
  refine g_aload_n (pc := 1) 0 dX2_find_1 rfl rfl ?_
  obtain ⟨g1, hf⟩ := gs_some hf
  refine g_getI (pc := 2) fl_X2_24 dX2_find_2 g1 ?_
  refine g_iconst (pc := 5) (v := (1 : Int32)) dX2_find_5 (by decide) ?_
  refine g_isub (pc := 6) dX2_find_6 ?_
  refine g_iand (pc := 7) dX2_find_7 ?_
  refine g_aload_n (pc := 8) 0 dX2_find_8 rfl rfl ?_
  refine g_getI (pc := 9) fl_X2_28 dX2_find_9 g1 ?_
  refine g_imul (pc := 12) dX2_find_12 ?_
  obtain ⟨x2, ex2, hf⟩ := lt_some hf
  refine g_istore_n (pc := 13) (L' := [(2, .int x2), (0, rf X a0), (1, .int a1)]) dX2_find_13 rfl (by decide) ex2 rfl ?_
  refine g_iload_n (pc := 14) 0 dX2_find_14 rfl rfl ?_
  refine g_istore_n (pc := 15) (L' := [(3, .int x2), (2, .int x2), (0, rf X a0), (1, .int a1)]) dX2_find_15 rfl (by decide) rfl rfl ?_
  refine g_sub [2, 3, 1, 0] rfl ?_
  exact ok_X2_find_L16 l X h FU a0 a1 x2 x2 q hf
theorem ct_X2_find (l : Launch) (X : Cx) {h : AH} {a0 : Nat} {a1 : Int32} {q : Int32} (hf : f_X2_find h a0 a1 = some q) : Ct l X k_X2_find [rf X a0, .int a1] h (rI (q, h)) := ct_of ck_X2_find (by simp [lg_sl, rf_cat, rq_cat, ca_i, ca_l, ca_r]) (by simp [lv_args, rf_cat, rq_cat, ca_i, ca_l, ca_r]) (ok_X2_find l X hf)
def f_X2_slotFor_L62 (h : AH) (k19 : Nat → Int32 → Int32 → Int32 → Option (Int32)) (a0 : Nat) (a2 : Int32) (a3 : Int32) (a4 : Int32) : Option (Int32) :=
  lt (a4 + (1 : Int32)) fun x1 =>
  k19 a0 a2 a3 x1
set_option maxRecDepth 100000 in
set_option maxHeartbeats 4000000 in
theorem ok_X2_slotFor_L62 (l : Launch) (X : Cx) (h : AH) (k19 : Nat → Int32 → Int32 → Int32 → Option (Int32)) (hk19 : ∀ (a0 : Nat) (a2 : Int32) (a3 : Int32) (a4 : Int32) (q : Int32), k19 a0 a2 a3 a4 = some q → Go l X k_X2_slotFor 19 [(0, rf X a0), (2, .int a2), (3, .int a3), (4, .int a4)] [] h (rI (q, h))) (a0 : Nat) (a2 : Int32) (a3 : Int32) (a4 : Int32) (q : Int32) (hf : f_X2_slotFor_L62 h k19 a0 a2 a3 a4 = some q) : Go l X k_X2_slotFor 62 [(0, rf X a0), (2, .int a2), (3, .int a3), (4, .int a4)] [] h (rI (q, h)) := by
  unfold f_X2_slotFor_L62 at hf
  obtain ⟨x1, ex1, hf⟩ := lt_some hf
  refine g_iinc (pc := 62) (y := x1) (L' := [(4, .int x1), (0, rf X a0), (2, .int a2), (3, .int a3)]) 3 dX2_slotFor_62 rfl (by decide) (ex1.trans rfl) rfl ?_
  refine g_goto (pc := 65) (tgt := 19) dX2_slotFor_65 (by decide) ?_
  refine g_sub [1, 2, 3, 0] rfl ?_
  exact hk19 a0 a2 a3 x1 q hf
def f_X2_slotFor_L19 (h : AH) : Nat → Nat → Int32 → Int32 → Int32 → Option (Int32)
  | 0, _, _, _, _ => none
  | n + 1, a0, a2, a3, a4 =>
    gs h a0 2 <|
    if (a2 + (hI h a0 5)) ≤ a4 then
      some a3
    else
      gs h (hR h a0 1) 21 <|
      gb (ib a4 (hN h (hR h a0 1))) <|
      if ¬ (hI h (hR h a0 1) a4.toNatClampNeg) = 0 then
        gs h (hR h a0 2) 21 <|
        gb (ib a4 (hN h (hR h a0 2))) <|
        gb (ib a3 (hN h (hR h a0 2))) <|
        if (hI h (hR h a0 2) a3.toNatClampNeg) ≤ (hI h (hR h a0 2) a4.toNatClampNeg) then
          f_X2_slotFor_L62 h (f_X2_slotFor_L19 h n) a0 a2 a3 a4
        else
          f_X2_slotFor_L62 h (f_X2_slotFor_L19 h n) a0 a2 a4 a4
      else
        some a4
set_option maxRecDepth 100000 in
set_option maxHeartbeats 4000000 in
theorem ok_X2_slotFor_L19 (l : Launch) (X : Cx) (h : AH) : ∀ (n : Nat) (a0 : Nat) (a2 : Int32) (a3 : Int32) (a4 : Int32) (q : Int32), f_X2_slotFor_L19 h n a0 a2 a3 a4 = some q → Go l X k_X2_slotFor 19 [(0, rf X a0), (2, .int a2), (3, .int a3), (4, .int a4)] [] h (rI (q, h)) := by
  intro n
  induction n with
  | zero =>
    intro a0 a2 a3 a4 q hf
    unfold f_X2_slotFor_L19 at hf
    cases hf
  | succ n ih =>
    intro a0 a2 a3 a4 q hf
    unfold f_X2_slotFor_L19 at hf
    refine g_iload (pc := 19) 3 dX2_slotFor_19 rfl ?_
    refine g_iload_n (pc := 21) 1 dX2_slotFor_21 rfl rfl ?_
    refine g_aload_n (pc := 22) 0 dX2_slotFor_22 rfl rfl ?_
    obtain ⟨g1, hf⟩ := gs_some hf
    refine g_getI (pc := 23) fl_X2_28 dX2_slotFor_23 g1 ?_
    refine g_iadd (pc := 26) dX2_slotFor_26 ?_
    rcases it_some hf with ⟨c2, hf⟩ | ⟨c2, hf⟩
    · refine g_icge_t (pc := 27) (tgt := 68) dX2_slotFor_27 (by decide) c2 ?_
      refine g_iload_n (pc := 68) 2 dX2_slotFor_68 rfl rfl ?_
      obtain rfl := Option.some.inj hf
      exact g_iret (pc := 69) rfl dX2_slotFor_69
    · refine g_icge_f (pc := 27) (tgt := 68) dX2_slotFor_27 (by decide) c2 ?_
      refine g_aload_n (pc := 30) 0 dX2_slotFor_30 rfl rfl ?_
      refine g_getR (pc := 31) fl_X2_15 dX2_slotFor_31 g1 ?_
      refine g_iload (pc := 34) 3 dX2_slotFor_34 rfl ?_
      obtain ⟨g3, hf⟩ := gs_some hf
      obtain ⟨b4, hf⟩ := gb_some hf
      refine g_iald (pc := 36) g3 b4 dX2_slotFor_36 ?_
      rcases it_some hf with ⟨c5, hf⟩ | ⟨c5, hf⟩
      · refine g_ifne_t (pc := 37) (tgt := 43) dX2_slotFor_37 (by decide) c5 ?_
        refine g_aload_n (pc := 43) 0 dX2_slotFor_43 rfl rfl ?_
        refine g_getR (pc := 44) fl_X2_18 dX2_slotFor_44 g1 ?_
        refine g_iload (pc := 47) 3 dX2_slotFor_47 rfl ?_
        obtain ⟨g6, hf⟩ := gs_some hf
        obtain ⟨b7, hf⟩ := gb_some hf
        refine g_iald (pc := 49) g6 b7 dX2_slotFor_49 ?_
        refine g_aload_n (pc := 50) 0 dX2_slotFor_50 rfl rfl ?_
        refine g_getR (pc := 51) fl_X2_18 dX2_slotFor_51 g1 ?_
        refine g_iload_n (pc := 54) 2 dX2_slotFor_54 rfl rfl ?_
        obtain ⟨b8, hf⟩ := gb_some hf
        refine g_iald (pc := 55) g6 b8 dX2_slotFor_55 ?_
        rcases it_some hf with ⟨c9, hf⟩ | ⟨c9, hf⟩
        · refine g_icge_t (pc := 56) (tgt := 62) dX2_slotFor_56 (by decide) c9 ?_
          exact ok_X2_slotFor_L62 l X h (f_X2_slotFor_L19 h n) ih a0 a2 a3 a4 q hf
        · refine g_icge_f (pc := 56) (tgt := 62) dX2_slotFor_56 (by decide) c9 ?_
          refine g_iload (pc := 59) 3 dX2_slotFor_59 rfl ?_
          refine g_istore_n (pc := 61) (L' := [(3, .int a4), (0, rf X a0), (2, .int a2), (4, .int a4)]) dX2_slotFor_61 rfl (by decide) rfl rfl ?_
          refine g_sub [1, 2, 0, 3] rfl ?_
          exact ok_X2_slotFor_L62 l X h (f_X2_slotFor_L19 h n) ih a0 a2 a4 a4 q hf
      · refine g_ifne_f (pc := 37) (tgt := 43) dX2_slotFor_37 (by decide) (Decidable.of_not_not c5) ?_
        refine g_iload (pc := 40) 3 dX2_slotFor_40 rfl ?_
        obtain rfl := Option.some.inj hf
        exact g_iret (pc := 42) rfl dX2_slotFor_42
def f_X2_slotFor (h : AH) (a0 : Nat) (a1 : Int32) : Option (Int32) :=
  gs h a0 2 <|
  lt (((a1 &&& ((hI h a0 4) - (1 : Int32))) * (hI h a0 5))) fun x2 =>
  f_X2_slotFor_L19 h FU a0 x2 x2 x2
set_option maxRecDepth 100000 in
set_option maxHeartbeats 4000000 in
theorem ok_X2_slotFor (l : Launch) (X : Cx) {h : AH} {a0 : Nat} {a1 : Int32} {q : Int32} (hf : f_X2_slotFor h a0 a1 = some q) : Go l X k_X2_slotFor 0 [(0, rf X a0), (1, .int a1)] [] h (rI (q, h)) := by
  unfold f_X2_slotFor at hf
  refine g_iload_n (pc := 0) 1 dX2_slotFor_0 rfl rfl ?_
  refine g_aload_n (pc := 1) 0 dX2_slotFor_1 rfl rfl ?_
  obtain ⟨g1, hf⟩ := gs_some hf
  refine g_getI (pc := 2) fl_X2_24 dX2_slotFor_2 g1 ?_
  refine g_iconst (pc := 5) (v := (1 : Int32)) dX2_slotFor_5 (by decide) ?_
  refine g_isub (pc := 6) dX2_slotFor_6 ?_
  refine g_iand (pc := 7) dX2_slotFor_7 ?_
  refine g_aload_n (pc := 8) 0 dX2_slotFor_8 rfl rfl ?_
  refine g_getI (pc := 9) fl_X2_28 dX2_slotFor_9 g1 ?_
  refine g_imul (pc := 12) dX2_slotFor_12 ?_
  obtain ⟨x2, ex2, hf⟩ := lt_some hf
  refine g_istore_n (pc := 13) (L' := [(2, .int x2), (0, rf X a0), (1, .int a1)]) dX2_slotFor_13 rfl (by decide) ex2 rfl ?_
  refine g_iload_n (pc := 14) 0 dX2_slotFor_14 rfl rfl ?_
  refine g_istore_n (pc := 15) (L' := [(3, .int x2), (2, .int x2), (0, rf X a0), (1, .int a1)]) dX2_slotFor_15 rfl (by decide) rfl rfl ?_
  refine g_iload_n (pc := 16) 1 dX2_slotFor_16 rfl rfl ?_
  refine g_istore (pc := 17) (L' := [(4, .int x2), (3, .int x2), (2, .int x2), (0, rf X a0), (1, .int a1)]) dX2_slotFor_17 (by decide) rfl rfl ?_
  refine g_sub [3, 2, 1, 0] rfl ?_
  exact ok_X2_slotFor_L19 l X h FU a0 x2 x2 x2 q hf
theorem ct_X2_slotFor (l : Launch) (X : Cx) {h : AH} {a0 : Nat} {a1 : Int32} {q : Int32} (hf : f_X2_slotFor h a0 a1 = some q) : Ct l X k_X2_slotFor [rf X a0, .int a1] h (rI (q, h)) := ct_of ck_X2_slotFor (by simp [lg_sl, rf_cat, rq_cat, ca_i, ca_l, ca_r]) (by simp [lv_args, rf_cat, rq_cat, ca_i, ca_l, ca_r]) (ok_X2_slotFor l X hf)
def f_X2_use (h : AH) (a0 : Nat) (a1 : Int32) : Option (AH) :=
  gs h a0 2 <|
  lt (sI h a0 6 ((hI h a0 6) + (1 : Int32))) fun h2 =>
  gs h2 (hR h2 a0 2) 21 <|
  gb (ib a1 (hN h2 (hR h2 a0 2))) <|
  lt (sI h2 (hR h2 a0 2) a1.toNatClampNeg (hI h2 a0 6)) fun h6 =>
  some h6
set_option maxRecDepth 100000 in
set_option maxHeartbeats 4000000 in
theorem ok_X2_use (l : Launch) (X : Cx) {h : AH} {a0 : Nat} {a1 : Int32} {q : AH} (hf : f_X2_use h a0 a1 = some q) : Go l X k_X2_use 0 [(0, rf X a0), (1, .int a1)] [] h (rV q) := by
  unfold f_X2_use at hf
  refine g_aload_n (pc := 0) 0 dX2_use_0 rfl rfl ?_
  refine g_dup (pc := 1) dX2_use_1 (rf_cat X _) ?_
  obtain ⟨g1, hf⟩ := gs_some hf
  refine g_getI (pc := 2) fl_X2_31 dX2_use_2 g1 ?_
  refine g_iconst (pc := 5) (v := (1 : Int32)) dX2_use_5 (by decide) ?_
  refine g_iadd (pc := 6) dX2_use_6 ?_
  obtain ⟨h2, eh2, hf⟩ := lt_some hf
  refine g_putI (pc := 7) fl_X2_31 dX2_use_7 g1 eh2 ?_
  refine g_aload_n (pc := 10) 0 dX2_use_10 rfl rfl ?_
  have g3 : hS h2 a0 = 2 := (hS_tI eh2 g1)
  refine g_getR (pc := 11) fl_X2_18 dX2_use_11 g3 ?_
  refine g_iload_n (pc := 14) 1 dX2_use_14 rfl rfl ?_
  refine g_aload_n (pc := 15) 0 dX2_use_15 rfl rfl ?_
  refine g_getI (pc := 16) fl_X2_31 dX2_use_16 g3 ?_
  obtain ⟨g4, hf⟩ := gs_some hf
  obtain ⟨b5, hf⟩ := gb_some hf
  obtain ⟨h6, eh6, hf⟩ := lt_some hf
  refine g_iast (pc := 19) g4 b5 dX2_use_19 eh6 ?_
  obtain rfl := Option.some.inj hf
  exact g_vret (pc := 20) rfl dX2_use_20
theorem ct_X2_use (l : Launch) (X : Cx) {h : AH} {a0 : Nat} {a1 : Int32} {q : AH} (hf : f_X2_use h a0 a1 = some q) : Ct l X k_X2_use [rf X a0, .int a1] h (rV q) := ct_of ck_X2_use (by simp [lg_sl, rf_cat, rq_cat, ca_i, ca_l, ca_r]) (by simp [lv_args, rf_cat, rq_cat, ca_i, ca_l, ca_r]) (ok_X2_use l X hf)
def f_X2_put_L22 (h : AH) (a0 : Nat) (a1 : Int32) (a2 : Int32) (a3 : Nat) (a4 : Int32) (s0 : Int32) : Option (AH) :=
  gs h a0 2 <|
  gs h (hR h a0 0) 21 <|
  gb (ib s0 (hN h (hR h a0 0))) <|
  lt (sI h (hR h a0 0) s0.toNatClampNeg a1) fun h4 =>
  gs h4 (hR h4 a0 1) 21 <|
  gb (ib s0 (hN h4 (hR h4 a0 1))) <|
  lt (sI h4 (hR h4 a0 1) s0.toNatClampNeg a2) fun h8 =>
  gs h8 a3 21 <|
  gs h8 (hR h8 a0 3) 21 <|
  gb (cpok a4 (s0 * (4 : Int32)) (4 : Int32) (hN h8 a3) (hN h8 (hR h8 a0 3))) <|
  lt (sA h8 (hR h8 a0 3) (va_cpy (hI h8 a3) (hI h8 (hR h8 a0 3)) a4.toNatClampNeg (s0 * (4 : Int32)).toNatClampNeg (4 : Int32).toNatClampNeg)) fun h13 =>
  bd (f_X2_use h13 a0 s0) fun q15 =>
  some q15
set_option maxRecDepth 100000 in
set_option maxHeartbeats 4000000 in
theorem ok_X2_put_L22 (l : Launch) (X : Cx) (h : AH) (a0 : Nat) (a1 : Int32) (a2 : Int32) (a3 : Nat) (a4 : Int32) (s0 : Int32) (q : AH) (hf : f_X2_put_L22 h a0 a1 a2 a3 a4 s0 = some q) : Go l X k_X2_put 22 [(0, rf X a0), (1, .int a1), (2, .int a2), (3, rf X a3), (4, .int a4)] [.int s0] h (rV q) := by
  unfold f_X2_put_L22 at hf
  refine g_istore (pc := 22) (L' := [(6, .int s0), (0, rf X a0), (1, .int a1), (2, .int a2), (3, rf X a3), (4, .int a4)]) dX2_put_22 (by decide) rfl rfl ?_
  refine g_aload_n (pc := 24) 1 dX2_put_24 rfl rfl ?_
  obtain ⟨g1, hf⟩ := gs_some hf
  refine g_getR (pc := 25) fl_X2_9 dX2_put_25 g1 ?_
  refine g_iload (pc := 28) 0 dX2_put_28 rfl ?_
  refine g_iload_n (pc := 30) 2 dX2_put_30 rfl rfl ?_
  obtain ⟨g2, hf⟩ := gs_some hf
  obtain ⟨b3, hf⟩ := gb_some hf
  obtain ⟨h4, eh4, hf⟩ := lt_some hf
  refine g_iast (pc := 31) g2 b3 dX2_put_31 eh4 ?_
  refine g_aload_n (pc := 32) 1 dX2_put_32 rfl rfl ?_
  have g5 : hS h4 a0 = 2 := (hS_tI eh4 g1)
  refine g_getR (pc := 33) fl_X2_15 dX2_put_33 g5 ?_
  refine g_iload (pc := 36) 0 dX2_put_36 rfl ?_
  refine g_iload_n (pc := 38) 3 dX2_put_38 rfl rfl ?_
  obtain ⟨g6, hf⟩ := gs_some hf
  obtain ⟨b7, hf⟩ := gb_some hf
  obtain ⟨h8, eh8, hf⟩ := lt_some hf
  refine g_iast (pc := 39) g6 b7 dX2_put_39 eh8 ?_
  refine g_aload_n (pc := 40) 4 dX2_put_40 rfl rfl ?_
  refine g_iload (pc := 41) 5 dX2_put_41 rfl ?_
  refine g_aload_n (pc := 43) 1 dX2_put_43 rfl rfl ?_
  have g9 : hS h8 a0 = 2 := (hS_tI eh8 g5)
  refine g_getR (pc := 44) fl_X2_21 dX2_put_44 g9 ?_
  refine g_iload (pc := 47) 0 dX2_put_47 rfl ?_
  refine g_iconst (pc := 49) (v := (4 : Int32)) dX2_put_49 (by decide) ?_
  refine g_imul (pc := 50) dX2_put_50 ?_
  refine g_iconst (pc := 51) (v := (4 : Int32)) dX2_put_51 (by decide) ?_
  obtain ⟨g10, hf⟩ := gs_some hf
  obtain ⟨g11, hf⟩ := gs_some hf
  obtain ⟨b12, hf⟩ := gb_some hf
  obtain ⟨h13, eh13, hf⟩ := lt_some hf
  refine g_copy (pc := 52) acy_X2_47 g10 g11 b12 (by decide) (by decide) (by simp [rf_cat, rq_cat, ca_i, ca_l, ca_r]) dX2_put_52 eh13 ?_
  refine g_aload_n (pc := 55) 1 dX2_put_55 rfl rfl ?_
  refine g_iload (pc := 56) 0 dX2_put_56 rfl ?_
  have g14 : hS h13 a0 = 2 := (hS_tA eh13 g9)
  obtain ⟨q15, hcq15, hf⟩ := bd_some hf
  refine g_cVV (pc := 58) (k2 := k_X2_use) (av := [.int s0]) (q := q15) rfl dX2_put_58 ck_X2_use m_667 m_668 m_669 (ci := 1) rfl (by decide) g14 (by decide) (by decide) rfl (by simp [rf_cat, rq_cat, ca_i, ca_l, ca_r]) (ct_X2_use l X hcq15) ?_
  obtain rfl := Option.some.inj hf
  exact g_vret (pc := 61) rfl dX2_put_61
def f_X2_put (h : AH) (a0 : Nat) (a1 : Int32) (a2 : Int32) (a3 : Nat) (a4 : Int32) : Option (AH) :=
  gs h a0 2 <|
  bd (f_X2_find h a0 a1) fun v2 =>
  if v2 < 0 then
    bd (f_X2_slotFor h a0 a1) fun v4 =>
    f_X2_put_L22 h a0 a1 a2 a3 a4 v4
  else
    f_X2_put_L22 h a0 a1 a2 a3 a4 v2
set_option maxRecDepth 100000 in
set_option maxHeartbeats 4000000 in
theorem ok_X2_put (l : Launch) (X : Cx) {h : AH} {a0 : Nat} {a1 : Int32} {a2 : Int32} {a3 : Nat} {a4 : Int32} {q : AH} (hf : f_X2_put h a0 a1 a2 a3 a4 = some q) : Go l X k_X2_put 0 [(0, rf X a0), (1, .int a1), (2, .int a2), (3, rf X a3), (4, .int a4)] [] h (rV q) := by
  unfold f_X2_put at hf
  refine g_aload_n (pc := 0) 0 dX2_put_0 rfl rfl ?_
  refine g_iload_n (pc := 1) 1 dX2_put_1 rfl rfl ?_
  obtain ⟨g1, hf⟩ := gs_some hf
  obtain ⟨v2, hcv2, hf⟩ := bd_some hf
  refine g_cVI (pc := 2) (k2 := k_X2_find) (av := [.int a1]) (q := (v2, h)) rfl dX2_put_2 ck_X2_find m_661 m_652 m_653 (ci := 1) rfl (by decide) g1 (by decide) (by decide) rfl (by simp [rf_cat, rq_cat, ca_i, ca_l, ca_r]) (ct_X2_find l X hcv2) ?_
  refine g_istore (pc := 5) (L' := [(5, .int v2), (0, rf X a0), (1, .int a1), (2, .int a2), (3, rf X a3), (4, .int a4)]) dX2_put_5 (by decide) rfl rfl ?_
  refine g_iload (pc := 7) 0 dX2_put_7 rfl ?_
  rcases it_some hf with ⟨c3, hf⟩ | ⟨c3, hf⟩
  · refine g_iflt_t (pc := 9) (tgt := 17) dX2_put_9 (by decide) c3 ?_
    refine g_aload_n (pc := 17) 1 dX2_put_17 rfl rfl ?_
    refine g_iload_n (pc := 18) 2 dX2_put_18 rfl rfl ?_
    obtain ⟨v4, hcv4, hf⟩ := bd_some hf
    refine g_cVI (pc := 19) (k2 := k_X2_slotFor) (av := [.int a1]) (q := (v4, h)) rfl dX2_put_19 ck_X2_slotFor m_662 m_663 m_664 (ci := 1) rfl (by decide) g1 (by decide) (by decide) rfl (by simp [rf_cat, rq_cat, ca_i, ca_l, ca_r]) (ct_X2_slotFor l X hcv4) ?_
    refine g_sub [1, 2, 3, 4, 5] rfl ?_
    exact ok_X2_put_L22 l X h a0 a1 a2 a3 a4 v4 q hf
  · refine g_iflt_f (pc := 9) (tgt := 17) dX2_put_9 (by decide) c3 ?_
    refine g_iload (pc := 12) 0 dX2_put_12 rfl ?_
    refine g_goto (pc := 14) (tgt := 22) dX2_put_14 (by decide) ?_
    refine g_sub [1, 2, 3, 4, 5] rfl ?_
    exact ok_X2_put_L22 l X h a0 a1 a2 a3 a4 v2 q hf
theorem ct_X2_put (l : Launch) (X : Cx) {h : AH} {a0 : Nat} {a1 : Int32} {a2 : Int32} {a3 : Nat} {a4 : Int32} {q : AH} (hf : f_X2_put h a0 a1 a2 a3 a4 = some q) : Ct l X k_X2_put [rf X a0, .int a1, .int a2, rf X a3, .int a4] h (rV q) := ct_of ck_X2_put (by simp [lg_sl, rf_cat, rq_cat, ca_i, ca_l, ca_r]) (by simp [lv_args, rf_cat, rq_cat, ca_i, ca_l, ca_r]) (ok_X2_put l X hf)
def f_X7_init (h : AH) (a0 : Nat) : Option (AH) :=
  gs h a0 6 <|
  lt (hNew h 21 (48 : Int32).toNatClampNeg (48 : Int32).toNatClampNeg) fun h2 =>
  gs h2 a0 6 <|
  lt (sR h2 a0 0 (hZ h + 1)) fun h4 =>
  some h4
set_option maxRecDepth 100000 in
set_option maxHeartbeats 4000000 in
theorem ok_X7_init (l : Launch) (X : Cx) {h : AH} {a0 : Nat} {q : AH} (hf : f_X7_init h a0 = some q) : Go l X k_X7_init 0 [(0, rf X a0)] [] h (rV q) := by
  unfold f_X7_init at hf
  refine g_aload_n (pc := 0) 0 dX7_init_0 rfl rfl ?_
  obtain ⟨g1, hf⟩ := gs_some hf
  refine g_objInit (pc := 1) m_359 m_154 m_155 g1 (by decide) (by decide) (by decide) (by simp [rf_cat, rq_cat, ca_i, ca_l, ca_r]) dX7_init_1 ?_
  refine g_aload_n (pc := 4) 0 dX7_init_4 rfl rfl ?_
  refine g_bipush (pc := 5) (v := (48 : Int32)) dX7_init_5 (by decide) ?_
  obtain ⟨h2, eh2, hf⟩ := lt_some hf
  refine g_newI (pc := 7) m_252 dX7_init_7 (by decide) eh2 ?_
  obtain ⟨g3, hf⟩ := gs_some hf
  obtain ⟨h4, eh4, hf⟩ := lt_some hf
  refine g_putRF (pc := 9) fl_X7_11 rfl (cl_own rfl) (Or.inr ⟨_, rfl⟩) dX7_init_9 g3 eh4 ?_
  obtain rfl := Option.some.inj hf
  exact g_vret (pc := 12) rfl dX7_init_12
theorem ct_X7_init (l : Launch) (X : Cx) {h : AH} {a0 : Nat} {q : AH} (hf : f_X7_init h a0 = some q) : Ct l X k_X7_init [rf X a0] h (rV q) := ct_of ck_X7_init (by simp [lg_sl, rf_cat, rq_cat, ca_i, ca_l, ca_r]) (by simp [lv_args, rf_cat, rq_cat, ca_i, ca_l, ca_r]) (ok_X7_init l X hf)
def f_X9_init (h : AH) (a0 : Nat) : Option (AH) :=
  gs h a0 8 <|
  lt (hNew h 21 (256 : Int32).toNatClampNeg (256 : Int32).toNatClampNeg) fun h2 =>
  gs h2 a0 8 <|
  lt (sR h2 a0 0 (hZ h + 1)) fun h4 =>
  some h4
set_option maxRecDepth 100000 in
set_option maxHeartbeats 4000000 in
theorem ok_X9_init (l : Launch) (X : Cx) {h : AH} {a0 : Nat} {q : AH} (hf : f_X9_init h a0 = some q) : Go l X k_X9_init 0 [(0, rf X a0)] [] h (rV q) := by
  unfold f_X9_init at hf
  refine g_aload_n (pc := 0) 0 dX9_init_0 rfl rfl ?_
  obtain ⟨g1, hf⟩ := gs_some hf
  refine g_objInit (pc := 1) m_409 m_154 m_155 g1 (by decide) (by decide) (by decide) (by simp [rf_cat, rq_cat, ca_i, ca_l, ca_r]) dX9_init_1 ?_
  refine g_aload_n (pc := 4) 0 dX9_init_4 rfl rfl ?_
  refine g_sipush (pc := 5) (v := (256 : Int32)) dX9_init_5 (by decide) ?_
  obtain ⟨h2, eh2, hf⟩ := lt_some hf
  refine g_newI (pc := 8) m_252 dX9_init_8 (by decide) eh2 ?_
  obtain ⟨g3, hf⟩ := gs_some hf
  obtain ⟨h4, eh4, hf⟩ := lt_some hf
  refine g_putRF (pc := 10) fl_X9_9 rfl (cl_own rfl) (Or.inr ⟨_, rfl⟩) dX9_init_10 g3 eh4 ?_
  obtain rfl := Option.some.inj hf
  exact g_vret (pc := 13) rfl dX9_init_13
theorem ct_X9_init (l : Launch) (X : Cx) {h : AH} {a0 : Nat} {q : AH} (hf : f_X9_init h a0 = some q) : Ct l X k_X9_init [rf X a0] h (rV q) := ct_of ck_X9_init (by simp [lg_sl, rf_cat, rq_cat, ca_i, ca_l, ca_r]) (by simp [lv_args, rf_cat, rq_cat, ca_i, ca_l, ca_r]) (ok_X9_init l X hf)
def f_X7_begin (h : AH) (a0 : Nat) (a1 : Int32) : Option (AH) :=
  gs h a0 6 <|
  lt (sI h a0 2 a1) fun h2 =>
  lt (sI h2 a0 1 (0 : Int32)) fun h4 =>
  some h4
set_option maxRecDepth 100000 in
set_option maxHeartbeats 4000000 in
theorem ok_X7_begin (l : Launch) (X : Cx) {h : AH} {a0 : Nat} {a1 : Int32} {q : AH} (hf : f_X7_begin h a0 a1 = some q) : Go l X k_X7_begin 0 [(0, rf X a0), (1, .int a1)] [] h (rV q) := by
  unfold f_X7_begin at hf
  refine g_aload_n (pc := 0) 0 dX7_begin_0 rfl rfl ?_
  refine g_iload_n (pc := 1) 1 dX7_begin_1 rfl rfl ?_
  obtain ⟨g1, hf⟩ := gs_some hf
  obtain ⟨h2, eh2, hf⟩ := lt_some hf
  refine g_putI (pc := 2) fl_X7_15 dX7_begin_2 g1 eh2 ?_
  refine g_aload_n (pc := 5) 0 dX7_begin_5 rfl rfl ?_
  refine g_iconst (pc := 6) (v := (0 : Int32)) dX7_begin_6 (by decide) ?_
  have g3 : hS h2 a0 = 6 := (hS_tI eh2 g1)
  obtain ⟨h4, eh4, hf⟩ := lt_some hf
  refine g_putI (pc := 7) fl_X7_19 dX7_begin_7 g3 eh4 ?_
  obtain rfl := Option.some.inj hf
  exact g_vret (pc := 10) rfl dX7_begin_10
theorem ct_X7_begin (l : Launch) (X : Cx) {h : AH} {a0 : Nat} {a1 : Int32} {q : AH} (hf : f_X7_begin h a0 a1 = some q) : Ct l X k_X7_begin [rf X a0, .int a1] h (rV q) := ct_of ck_X7_begin (by simp [lg_sl, rf_cat, rq_cat, ca_i, ca_l, ca_r]) (by simp [lv_args, rf_cat, rq_cat, ca_i, ca_l, ca_r]) (ok_X7_begin l X hf)
def f_X3_begin (h : AH) (a0 : Nat) (a1 : Int32) (a2 : Int32) (a3 : Int32) (a4 : Int32) : Option (AH) :=
  gs h a0 3 <|
  bd (f_J7_fill_53178 h (hR h a0 2) (0 : Int32)) fun q2 =>
  gs q2 a0 3 <|
  lt (sI q2 a0 3 a1) fun h4 =>
  lt (sI h4 a0 4 (0 : Int32)) fun h6 =>
  gs h6 (hR h6 a0 5) 6 <|
  bd (f_X7_begin h6 (hR h6 a0 5) a2) fun q9 =>
  gs q9 a0 3 <|
  gs q9 (hR q9 a0 6) 2 <|
  bd (f_X2_begin q9 (hR q9 a0 6) a3 a4) fun q12 =>
  gs q12 a0 3 <|
  gs q12 (hR q12 a0 7) 8 <|
  lt (sI q12 (hR q12 a0 7) 1 (0 : Int32)) fun h15 =>
  lt (sI h15 a0 8 (-1 : Int32)) fun h17 =>
  lt (sI h17 a0 9 (0 : Int32)) fun h19 =>
  lt (sI h19 a0 11 (-1 : Int32)) fun h21 =>
  lt (sI h21 a0 12 (0 : Int32)) fun h23 =>
  lt (sI h23 a0 13 (0 : Int32)) fun h25 =>
  lt (sI h25 a0 14 (0 : Int32)) fun h27 =>
  lt (sI h27 a0 15 (0 : Int32)) fun h29 =>
  some h29
set_option maxRecDepth 100000 in
set_option maxHeartbeats 4000000 in
theorem ok_X3_begin (l : Launch) (X : Cx) {h : AH} {a0 : Nat} {a1 : Int32} {a2 : Int32} {a3 : Int32} {a4 : Int32} {q : AH} (hf : f_X3_begin h a0 a1 a2 a3 a4 = some q) : Go l X k_X3_begin 0 [(0, rf X a0), (1, .int a1), (2, .int a2), (3, .int a3), (4, .int a4)] [] h (rV q) := by
  unfold f_X3_begin at hf
  refine g_aload_n (pc := 0) 0 dX3_begin_0 rfl rfl ?_
  obtain ⟨g1, hf⟩ := gs_some hf
  refine g_getR (pc := 1) fl_X3_9 dX3_begin_1 g1 ?_
  refine g_iconst (pc := 4) (v := (0 : Int32)) dX3_begin_4 (by decide) ?_
  obtain ⟨q2, hcq2, hf⟩ := bd_some hf
  refine g_cSV (pc := 5) (k2 := k_J7_fill_53178) (av := [rf X (hR h a0 2), .int (0 : Int32)]) (q := q2) rfl dX3_begin_5 ck_J7_fill_53178 m_423 m_287 (by decide) (by decide) rfl (by simp [rf_cat, rq_cat, ca_i, ca_l, ca_r]) (ct_J7_fill_53178 l X hcq2) ?_
  refine g_aload_n (pc := 8) 0 dX3_begin_8 rfl rfl ?_
  refine g_iload_n (pc := 9) 1 dX3_begin_9 rfl rfl ?_
  obtain ⟨g3, hf⟩ := gs_some hf
  obtain ⟨h4, eh4, hf⟩ := lt_some hf
  refine g_putI (pc := 10) fl_X3_57 dX3_begin_10 g3 eh4 ?_
  refine g_aload_n (pc := 13) 0 dX3_begin_13 rfl rfl ?_
  refine g_iconst (pc := 14) (v := (0 : Int32)) dX3_begin_14 (by decide) ?_
  have g5 : hS h4 a0 = 3 := (hS_tI eh4 g3)
  obtain ⟨h6, eh6, hf⟩ := lt_some hf
  refine g_putI (pc := 15) fl_X3_60 dX3_begin_15 g5 eh6 ?_
  refine g_aload_n (pc := 18) 0 dX3_begin_18 rfl rfl ?_
  have g7 : hS h6 a0 = 3 := (hS_tI eh6 g5)
  refine g_getR (pc := 19) fl_X3_18 dX3_begin_19 g7 ?_
  refine g_iload_n (pc := 22) 2 dX3_begin_22 rfl rfl ?_
  obtain ⟨g8, hf⟩ := gs_some hf
  obtain ⟨q9, hcq9, hf⟩ := bd_some hf
  refine g_cVV (pc := 23) (k2 := k_X7_begin) (av := [.int a2]) (q := q9) rfl dX3_begin_23 ck_X7_begin m_424 m_425 m_426 (ci := 5) rfl (by decide) g8 (by decide) (by decide) rfl (by simp [rf_cat, rq_cat, ca_i, ca_l, ca_r]) (ct_X7_begin l X hcq9) ?_
  refine g_aload_n (pc := 26) 0 dX3_begin_26 rfl rfl ?_
  obtain ⟨g10, hf⟩ := gs_some hf
  refine g_getR (pc := 27) fl_X3_25 dX3_begin_27 g10 ?_
  refine g_iload_n (pc := 30) 3 dX3_begin_30 rfl rfl ?_
  refine g_iload (pc := 31) 4 dX3_begin_31 rfl ?_
  obtain ⟨g11, hf⟩ := gs_some hf
  obtain ⟨q12, hcq12, hf⟩ := bd_some hf
  refine g_cVV (pc := 33) (k2 := k_X2_begin) (av := [.int a3, .int a4]) (q := q12) rfl dX3_begin_33 ck_X2_begin m_428 m_429 m_430 (ci := 1) rfl (by decide) g11 (by decide) (by decide) rfl (by simp [rf_cat, rq_cat, ca_i, ca_l, ca_r]) (ct_X2_begin l X hcq12) ?_
  refine g_aload_n (pc := 36) 0 dX3_begin_36 rfl rfl ?_
  obtain ⟨g13, hf⟩ := gs_some hf
  refine g_getR (pc := 37) fl_X3_32 dX3_begin_37 g13 ?_
  refine g_iconst (pc := 40) (v := (0 : Int32)) dX3_begin_40 (by decide) ?_
  obtain ⟨g14, hf⟩ := gs_some hf
  obtain ⟨h15, eh15, hf⟩ := lt_some hf
  refine g_putI (pc := 41) fl_X3_69 dX3_begin_41 g14 eh15 ?_
  refine g_aload_n (pc := 44) 0 dX3_begin_44 rfl rfl ?_
  refine g_iconst (pc := 45) (v := (-1 : Int32)) dX3_begin_45 (by decide) ?_
  have g16 : hS h15 a0 = 3 := (hS_tI eh15 g13)
  obtain ⟨h17, eh17, hf⟩ := lt_some hf
  refine g_putI (pc := 46) fl_X3_72 dX3_begin_46 g16 eh17 ?_
  refine g_aload_n (pc := 49) 0 dX3_begin_49 rfl rfl ?_
  refine g_iconst (pc := 50) (v := (0 : Int32)) dX3_begin_50 (by decide) ?_
  have g18 : hS h17 a0 = 3 := (hS_tI eh17 g16)
  obtain ⟨h19, eh19, hf⟩ := lt_some hf
  refine g_putZ (pc := 51) fl_X3_75 dX3_begin_51 g18 rfl eh19 ?_
  refine g_aload_n (pc := 54) 0 dX3_begin_54 rfl rfl ?_
  refine g_iconst (pc := 55) (v := (-1 : Int32)) dX3_begin_55 (by decide) ?_
  have g20 : hS h19 a0 = 3 := (hS_tI eh19 g18)
  obtain ⟨h21, eh21, hf⟩ := lt_some hf
  refine g_putI (pc := 56) fl_X3_79 dX3_begin_56 g20 eh21 ?_
  refine g_aload_n (pc := 59) 0 dX3_begin_59 rfl rfl ?_
  refine g_iconst (pc := 60) (v := (0 : Int32)) dX3_begin_60 (by decide) ?_
  have g22 : hS h21 a0 = 3 := (hS_tI eh21 g20)
  obtain ⟨h23, eh23, hf⟩ := lt_some hf
  refine g_putI (pc := 61) fl_X3_82 dX3_begin_61 g22 eh23 ?_
  refine g_aload_n (pc := 64) 0 dX3_begin_64 rfl rfl ?_
  refine g_iconst (pc := 65) (v := (0 : Int32)) dX3_begin_65 (by decide) ?_
  have g24 : hS h23 a0 = 3 := (hS_tI eh23 g22)
  obtain ⟨h25, eh25, hf⟩ := lt_some hf
  refine g_putI (pc := 66) fl_X3_85 dX3_begin_66 g24 eh25 ?_
  refine g_aload_n (pc := 69) 0 dX3_begin_69 rfl rfl ?_
  refine g_iconst (pc := 70) (v := (0 : Int32)) dX3_begin_70 (by decide) ?_
  have g26 : hS h25 a0 = 3 := (hS_tI eh25 g24)
  obtain ⟨h27, eh27, hf⟩ := lt_some hf
  refine g_putI (pc := 71) fl_X3_88 dX3_begin_71 g26 eh27 ?_
  refine g_aload_n (pc := 74) 0 dX3_begin_74 rfl rfl ?_
  refine g_iconst (pc := 75) (v := (0 : Int32)) dX3_begin_75 (by decide) ?_
  have g28 : hS h27 a0 = 3 := (hS_tI eh27 g26)
  obtain ⟨h29, eh29, hf⟩ := lt_some hf
  refine g_putI (pc := 76) fl_X3_91 dX3_begin_76 g28 eh29 ?_
  obtain rfl := Option.some.inj hf
  exact g_vret (pc := 79) rfl dX3_begin_79
theorem ct_X3_begin (l : Launch) (X : Cx) {h : AH} {a0 : Nat} {a1 : Int32} {a2 : Int32} {a3 : Int32} {a4 : Int32} {q : AH} (hf : f_X3_begin h a0 a1 a2 a3 a4 = some q) : Ct l X k_X3_begin [rf X a0, .int a1, .int a2, .int a3, .int a4] h (rV q) := ct_of ck_X3_begin (by simp [lg_sl, rf_cat, rq_cat, ca_i, ca_l, ca_r]) (by simp [lv_args, rf_cat, rq_cat, ca_i, ca_l, ca_r]) (ok_X3_begin l X hf)
def f_X3_init (h : AH) (a0 : Nat) (a1 : Int32) (a2 : Nat) : Option (AH) :=
  gs h a0 3 <|
  lt (hNew h 21 (32 : Int32).toNatClampNeg (32 : Int32).toNatClampNeg) fun h2 =>
  gs h2 a0 3 <|
  lt (sR h2 a0 2 (hZ h + 1)) fun h4 =>
  lt (hNew h4 6 0 3) fun h5 =>
  bd (f_X7_init h5 (hZ h4 + 1)) fun q7 =>
  gs q7 a0 3 <|
  lt (sR q7 a0 5 (hZ h4 + 1)) fun h9 =>
  lt (hNew h9 2 0 7) fun h10 =>
  bd (f_X2_init h10 (hZ h9 + 1)) fun q12 =>
  gs q12 a0 3 <|
  lt (sR q12 a0 6 (hZ h9 + 1)) fun h14 =>
  lt (hNew h14 8 0 2) fun h15 =>
  bd (f_X9_init h15 (hZ h14 + 1)) fun q17 =>
  gs q17 a0 3 <|
  lt (sR q17 a0 7 (hZ h14 + 1)) fun h19 =>
  lt (hNew h19 21 (4 : Int32).toNatClampNeg (4 : Int32).toNatClampNeg) fun h20 =>
  gs h20 a0 3 <|
  lt (sR h20 a0 10 (hZ h19 + 1)) fun h22 =>
  lt (sI h22 a0 0 a1) fun h24 =>
  lt (sR h24 a0 1 a2) fun h26 =>
  bd (f_X3_begin h26 a0 (0 : Int32) (1 : Int32) (1 : Int32) (1 : Int32)) fun q28 =>
  some q28
set_option maxRecDepth 100000 in
set_option maxHeartbeats 4000000 in
theorem ok_X3_init (l : Launch) (X : Cx) {h : AH} {a0 : Nat} {a1 : Int32} {a2 : Nat} {q : AH} (hf : f_X3_init h a0 a1 a2 = some q) : Go l X k_X3_init 0 [(0, rf X a0), (1, .int a1), (2, rf X a2)] [] h (rV q) := by
  unfold f_X3_init at hf
  refine g_aload_n (pc := 0) 0 dX3_init_0 rfl rfl ?_
  obtain ⟨g1, hf⟩ := gs_some hf
  refine g_objInit (pc := 1) m_353 m_154 m_155 g1 (by decide) (by decide) (by decide) (by simp [rf_cat, rq_cat, ca_i, ca_l, ca_r]) dX3_init_1 ?_
  refine g_aload_n (pc := 4) 0 dX3_init_4 rfl rfl ?_
  refine g_bipush (pc := 5) (v := (32 : Int32)) dX3_init_5 (by decide) ?_
  obtain ⟨h2, eh2, hf⟩ := lt_some hf
  refine g_newI (pc := 7) m_252 dX3_init_7 (by decide) eh2 ?_
  obtain ⟨g3, hf⟩ := gs_some hf
  obtain ⟨h4, eh4, hf⟩ := lt_some hf
  refine g_putRF (pc := 9) fl_X3_9 rfl (cl_own rfl) (Or.inr ⟨_, rfl⟩) dX3_init_9 g3 eh4 ?_
  refine g_aload_n (pc := 12) 0 dX3_init_12 rfl rfl ?_
  obtain ⟨h5, eh5, hf⟩ := lt_some hf
  refine g_new (pc := 13) nl_X3_15 dX3_init_13 eh5 ?_
  refine g_dup (pc := 16) dX3_init_16 (rf_cat X _) ?_
  have g6 : hS h5 (hZ h4 + 1) = 6 := (hS_nw eh5)
  obtain ⟨q7, hcq7, hf⟩ := bd_some hf
  refine g_nIV (pc := 17) (k2 := k_X7_init) (av := []) (q := q7) rfl dX3_init_17 ck_X7_init rfl rfl 2 rfl m_357 6 g6 (by decide) (by decide) (by decide) rfl (by simp [rf_cat, rq_cat, ca_i, ca_l, ca_r]) (ct_X7_init l X hcq7) ?_
  obtain ⟨g8, hf⟩ := gs_some hf
  obtain ⟨h9, eh9, hf⟩ := lt_some hf
  refine g_putRF (pc := 20) fl_X3_18 rfl (cl_own rfl) (Or.inl ⟨_, rfl⟩) dX3_init_20 g8 eh9 ?_
  refine g_aload_n (pc := 23) 0 dX3_init_23 rfl rfl ?_
  obtain ⟨h10, eh10, hf⟩ := lt_some hf
  refine g_new (pc := 24) nl_X3_22 dX3_init_24 eh10 ?_
  refine g_dup (pc := 27) dX3_init_27 (rf_cat X _) ?_
  have g11 : hS h10 (hZ h9 + 1) = 2 := (hS_nw eh10)
  obtain ⟨q12, hcq12, hf⟩ := bd_some hf
  refine g_nIV (pc := 28) (k2 := k_X2_init) (av := []) (q := q12) rfl dX3_init_28 ck_X2_init rfl rfl 3 rfl m_374 2 g11 (by decide) (by decide) (by decide) rfl (by simp [rf_cat, rq_cat, ca_i, ca_l, ca_r]) (ct_X2_init l X hcq12) ?_
  obtain ⟨g13, hf⟩ := gs_some hf
  obtain ⟨h14, eh14, hf⟩ := lt_some hf
  refine g_putRF (pc := 31) fl_X3_25 rfl (cl_own rfl) (Or.inl ⟨_, rfl⟩) dX3_init_31 g13 eh14 ?_
  refine g_aload_n (pc := 34) 0 dX3_init_34 rfl rfl ?_
  obtain ⟨h15, eh15, hf⟩ := lt_some hf
  refine g_new (pc := 35) nl_X3_29 dX3_init_35 eh15 ?_
  refine g_dup (pc := 38) dX3_init_38 (rf_cat X _) ?_
  have g16 : hS h15 (hZ h14 + 1) = 8 := (hS_nw eh15)
  obtain ⟨q17, hcq17, hf⟩ := bd_some hf
  refine g_nIV (pc := 39) (k2 := k_X9_init) (av := []) (q := q17) rfl dX3_init_39 ck_X9_init rfl rfl 4 rfl m_407 8 g16 (by decide) (by decide) (by decide) rfl (by simp [rf_cat, rq_cat, ca_i, ca_l, ca_r]) (ct_X9_init l X hcq17) ?_
  obtain ⟨g18, hf⟩ := gs_some hf
  obtain ⟨h19, eh19, hf⟩ := lt_some hf
  refine g_putRF (pc := 42) fl_X3_32 rfl (cl_own rfl) (Or.inl ⟨_, rfl⟩) dX3_init_42 g18 eh19 ?_
  refine g_aload_n (pc := 45) 0 dX3_init_45 rfl rfl ?_
  refine g_iconst (pc := 46) (v := (4 : Int32)) dX3_init_46 (by decide) ?_
  obtain ⟨h20, eh20, hf⟩ := lt_some hf
  refine g_newI (pc := 47) m_252 dX3_init_47 (by decide) eh20 ?_
  obtain ⟨g21, hf⟩ := gs_some hf
  obtain ⟨h22, eh22, hf⟩ := lt_some hf
  refine g_putRF (pc := 49) fl_X3_36 rfl (cl_own rfl) (Or.inr ⟨_, rfl⟩) dX3_init_49 g21 eh22 ?_
  refine g_aload_n (pc := 52) 0 dX3_init_52 rfl rfl ?_
  refine g_iload_n (pc := 53) 1 dX3_init_53 rfl rfl ?_
  have g23 : hS h22 a0 = 3 := (hS_tR eh22 g21)
  obtain ⟨h24, eh24, hf⟩ := lt_some hf
  refine g_putIF (pc := 54) fl_X3_39 rfl (cl_own rfl) dX3_init_54 g23 eh24 ?_
  refine g_aload_n (pc := 57) 0 dX3_init_57 rfl rfl ?_
  refine g_aload_n (pc := 58) 2 dX3_init_58 rfl rfl ?_
  have g25 : hS h24 a0 = 3 := (hS_tI eh24 g23)
  obtain ⟨h26, eh26, hf⟩ := lt_some hf
  refine g_putRF (pc := 59) fl_X3_43 rfl (cl_own rfl) (Or.inl ⟨_, rfl⟩) dX3_init_59 g25 eh26 ?_
  refine g_aload_n (pc := 62) 0 dX3_init_62 rfl rfl ?_
  refine g_iconst (pc := 63) (v := (0 : Int32)) dX3_init_63 (by decide) ?_
  refine g_iconst (pc := 64) (v := (1 : Int32)) dX3_init_64 (by decide) ?_
  refine g_iconst (pc := 65) (v := (1 : Int32)) dX3_init_65 (by decide) ?_
  refine g_iconst (pc := 66) (v := (1 : Int32)) dX3_init_66 (by decide) ?_
  have g27 : hS h26 a0 = 3 := (hS_tR eh26 g25)
  obtain ⟨q28, hcq28, hf⟩ := bd_some hf
  refine g_cVV (pc := 67) (k2 := k_X3_begin) (av := [.int (0 : Int32), .int (1 : Int32), .int (1 : Int32), .int (1 : Int32)]) (q := q28) rfl dX3_init_67 ck_X3_begin m_419 m_421 m_1 (ci := 2) rfl (by decide) g27 (by decide) (by decide) rfl (by simp [rf_cat, rq_cat, ca_i, ca_l, ca_r]) (ct_X3_begin l X hcq28) ?_
  obtain rfl := Option.some.inj hf
  exact g_vret (pc := 70) rfl dX3_init_70
theorem ct_X3_init (l : Launch) (X : Cx) {h : AH} {a0 : Nat} {a1 : Int32} {a2 : Nat} {q : AH} (hf : f_X3_init h a0 a1 a2 = some q) : Ct l X k_X3_init [rf X a0, .int a1, rf X a2] h (rV q) := ct_of ck_X3_init (by simp [lg_sl, rf_cat, rq_cat, ca_i, ca_l, ca_r]) (by simp [lv_args, rf_cat, rq_cat, ca_i, ca_l, ca_r]) (ok_X3_init l X hf)
def f_X3_growWaits (h : AH) (a0 : Nat) : Option (AH) :=
  gs h a0 3 <|
  if ¬ (hI h a0 4) = 0 then
    some h
  else
    lt (sI h a0 13 ((hI h a0 13) + (1 : Int32))) fun h3 =>
    lt (sI h3 a0 14 (if (hI h3 a0 14) < (hI h3 a0 13) then (hI h3 a0 13) else (hI h3 a0 14))) fun h5 =>
    some h5
set_option maxRecDepth 100000 in
set_option maxHeartbeats 4000000 in
theorem ok_X3_growWaits (l : Launch) (X : Cx) {h : AH} {a0 : Nat} {q : AH} (hf : f_X3_growWaits h a0 = some q) : Go l X k_X3_growWaits 0 [(0, rf X a0)] [] h (rV q) := by
  unfold f_X3_growWaits at hf
  refine g_aload_n (pc := 0) 0 dX3_growWaits_0 rfl rfl ?_
  obtain ⟨g1, hf⟩ := gs_some hf
  refine g_getI (pc := 1) fl_X3_60 dX3_growWaits_1 g1 ?_
  rcases it_some hf with ⟨c2, hf⟩ | ⟨c2, hf⟩
  · refine g_ifne_t (pc := 4) (tgt := 32) dX3_growWaits_4 (by decide) c2 ?_
    obtain rfl := Option.some.inj hf
    exact g_vret (pc := 32) rfl dX3_growWaits_32
  · refine g_ifne_f (pc := 4) (tgt := 32) dX3_growWaits_4 (by decide) (Decidable.of_not_not c2) ?_
    refine g_aload_n (pc := 7) 0 dX3_growWaits_7 rfl rfl ?_
    refine g_dup (pc := 8) dX3_growWaits_8 (rf_cat X _) ?_
    refine g_getI (pc := 9) fl_X3_85 dX3_growWaits_9 g1 ?_
    refine g_iconst (pc := 12) (v := (1 : Int32)) dX3_growWaits_12 (by decide) ?_
    refine g_iadd (pc := 13) dX3_growWaits_13 ?_
    obtain ⟨h3, eh3, hf⟩ := lt_some hf
    refine g_putI (pc := 14) fl_X3_85 dX3_growWaits_14 g1 eh3 ?_
    refine g_aload_n (pc := 17) 0 dX3_growWaits_17 rfl rfl ?_
    refine g_aload_n (pc := 18) 0 dX3_growWaits_18 rfl rfl ?_
    have g4 : hS h3 a0 = 3 := (hS_tI eh3 g1)
    refine g_getI (pc := 19) fl_X3_88 dX3_growWaits_19 g4 ?_
    refine g_aload_n (pc := 22) 0 dX3_growWaits_22 rfl rfl ?_
    refine g_getI (pc := 23) fl_X3_85 dX3_growWaits_23 g4 ?_
    refine g_max (pc := 26) mmmax_X3_94 (by decide) (by decide) (by simp [rf_cat, rq_cat, ca_i, ca_l, ca_r]) dX3_growWaits_26 ?_
    obtain ⟨h5, eh5, hf⟩ := lt_some hf
    refine g_putI (pc := 29) fl_X3_88 dX3_growWaits_29 g4 eh5 ?_
    obtain rfl := Option.some.inj hf
    exact g_vret (pc := 32) rfl dX3_growWaits_32
theorem ct_X3_growWaits (l : Launch) (X : Cx) {h : AH} {a0 : Nat} {q : AH} (hf : f_X3_growWaits h a0 = some q) : Ct l X k_X3_growWaits [rf X a0] h (rV q) := ct_of ck_X3_growWaits (by simp [lg_sl, rf_cat, rq_cat, ca_i, ca_l, ca_r]) (by simp [lv_args, rf_cat, rq_cat, ca_i, ca_l, ca_r]) (ok_X3_growWaits l X hf)
def f_X3_tells_L32 (h : AH)  : Option (Int32) :=
  some (1 : Int32)
set_option maxRecDepth 100000 in
set_option maxHeartbeats 4000000 in
theorem ok_X3_tells_L32 (l : Launch) (X : Cx) (h : AH)  (q : Int32) (hf : f_X3_tells_L32 h  = some q) : Go l X k_X3_tells 32 [] [] h (rI (q, h)) := by
  unfold f_X3_tells_L32 at hf
  refine g_iconst (pc := 32) (v := (1 : Int32)) dX3_tells_32 (by decide) ?_
  refine g_goto (pc := 33) (tgt := 37) dX3_tells_33 (by decide) ?_
  obtain rfl := Option.some.inj hf
  exact g_zret (pc := 37) rfl rfl dX3_tells_37
def f_X3_tells_L10 (h : AH) (a0 : Nat) (a1 : Int32) : Option (Int32) :=
  if a1 < (100 : Int32) then
    some (0 : Int32)
  else
    gs h a0 3 <|
    gs h (hR h a0 5) 6 <|
    if ((100 : Int32) + ((3 : Int32) * (hI h (hR h a0 5) 1))) ≤ a1 then
      some (0 : Int32)
    else
      f_X3_tells_L32 h 
set_option maxRecDepth 100000 in
set_option maxHeartbeats 4000000 in
theorem ok_X3_tells_L10 (l : Launch) (X : Cx) (h : AH) (a0 : Nat) (a1 : Int32) (q : Int32) (hf : f_X3_tells_L10 h a0 a1 = some q) : Go l X k_X3_tells 10 [(0, rf X a0), (1, .int a1)] [] h (rI (q, h)) := by
  unfold f_X3_tells_L10 at hf
  refine g_iload_n (pc := 10) 1 dX3_tells_10 rfl rfl ?_
  refine g_bipush (pc := 11) (v := (100 : Int32)) dX3_tells_11 (by decide) ?_
  rcases it_some hf with ⟨c1, hf⟩ | ⟨c1, hf⟩
  · refine g_iclt_t (pc := 13) (tgt := 36) dX3_tells_13 (by decide) c1 ?_
    refine g_iconst (pc := 36) (v := (0 : Int32)) dX3_tells_36 (by decide) ?_
    obtain rfl := Option.some.inj hf
    exact g_zret (pc := 37) rfl rfl dX3_tells_37
  · refine g_iclt_f (pc := 13) (tgt := 36) dX3_tells_13 (by decide) c1 ?_
    refine g_iload_n (pc := 16) 1 dX3_tells_16 rfl rfl ?_
    refine g_bipush (pc := 17) (v := (100 : Int32)) dX3_tells_17 (by decide) ?_
    refine g_iconst (pc := 19) (v := (3 : Int32)) dX3_tells_19 (by decide) ?_
    refine g_aload_n (pc := 20) 0 dX3_tells_20 rfl rfl ?_
    obtain ⟨g2, hf⟩ := gs_some hf
    refine g_getR (pc := 21) fl_X3_18 dX3_tells_21 g2 ?_
    obtain ⟨g3, hf⟩ := gs_some hf
    refine g_getI (pc := 24) fl_X3_100 dX3_tells_24 g3 ?_
    refine g_imul (pc := 27) dX3_tells_27 ?_
    refine g_iadd (pc := 28) dX3_tells_28 ?_
    rcases it_some hf with ⟨c4, hf⟩ | ⟨c4, hf⟩
    · refine g_icge_t (pc := 29) (tgt := 36) dX3_tells_29 (by decide) c4 ?_
      refine g_iconst (pc := 36) (v := (0 : Int32)) dX3_tells_36 (by decide) ?_
      obtain rfl := Option.some.inj hf
      exact g_zret (pc := 37) rfl rfl dX3_tells_37
    · refine g_icge_f (pc := 29) (tgt := 36) dX3_tells_29 (by decide) c4 ?_
      refine g_sub [] rfl ?_
      exact ok_X3_tells_L32 l X h  q hf
def f_X3_tells (h : AH) (a0 : Nat) (a1 : Int32) : Option (Int32) :=
  if a1 < 0 then
    f_X3_tells_L10 h a0 a1
  else
    if a1 ≤ (40 : Int32) then
      f_X3_tells_L32 h 
    else
      f_X3_tells_L10 h a0 a1
set_option maxRecDepth 100000 in
set_option maxHeartbeats 4000000 in
theorem ok_X3_tells (l : Launch) (X : Cx) {h : AH} {a0 : Nat} {a1 : Int32} {q : Int32} (hf : f_X3_tells h a0 a1 = some q) : Go l X k_X3_tells 0 [(0, rf X a0), (1, .int a1)] [] h (rI (q, h)) := by
  unfold f_X3_tells at hf
  refine g_iload_n (pc := 0) 1 dX3_tells_0 rfl rfl ?_
  rcases it_some hf with ⟨c1, hf⟩ | ⟨c1, hf⟩
  · refine g_iflt_t (pc := 1) (tgt := 10) dX3_tells_1 (by decide) c1 ?_
    exact ok_X3_tells_L10 l X h a0 a1 q hf
  · refine g_iflt_f (pc := 1) (tgt := 10) dX3_tells_1 (by decide) c1 ?_
    refine g_iload_n (pc := 4) 1 dX3_tells_4 rfl rfl ?_
    refine g_bipush (pc := 5) (v := (40 : Int32)) dX3_tells_5 (by decide) ?_
    rcases it_some hf with ⟨c2, hf⟩ | ⟨c2, hf⟩
    · refine g_icle_t (pc := 7) (tgt := 32) dX3_tells_7 (by decide) c2 ?_
      refine g_sub [] rfl ?_
      exact ok_X3_tells_L32 l X h  q hf
    · refine g_icle_f (pc := 7) (tgt := 32) dX3_tells_7 (by decide) c2 ?_
      exact ok_X3_tells_L10 l X h a0 a1 q hf
theorem ct_X3_tells (l : Launch) (X : Cx) {h : AH} {a0 : Nat} {a1 : Int32} {q : Int32} (hf : f_X3_tells h a0 a1 = some q) : Ct l X k_X3_tells [rf X a0, .int a1] h (rI (q, h)) := ct_of ck_X3_tells (by simp [lg_sl, rf_cat, rq_cat, ca_i, ca_l, ca_r]) (by simp [lv_args, rf_cat, rq_cat, ca_i, ca_l, ca_r]) (ok_X3_tells l X hf)
def f_X7_get (h : AH) (a0 : Nat) (a1 : Int32) (a2 : Int32) : Option (Int32) :=
  gs h a0 6 <|
  gs h (hR h a0 0) 21 <|
  gb (ib ((a1 * (3 : Int32)) + a2) (hN h (hR h a0 0))) <|
  some (hI h (hR h a0 0) ((a1 * (3 : Int32)) + a2).toNatClampNeg)
set_option maxRecDepth 100000 in
set_option maxHeartbeats 4000000 in
theorem ok_X7_get (l : Launch) (X : Cx) {h : AH} {a0 : Nat} {a1 : Int32} {a2 : Int32} {q : Int32} (hf : f_X7_get h a0 a1 a2 = some q) : Go l X k_X7_get 0 [(0, rf X a0), (1, .int a1), (2, .int a2)] [] h (rI (q, h)) := by
  unfold f_X7_get at hf
  refine g_aload_n (pc := 0) 0 dX7_get_0 rfl rfl ?_
  obtain ⟨g1, hf⟩ := gs_some hf
  refine g_getR (pc := 1) fl_X7_11 dX7_get_1 g1 ?_
  refine g_iload_n (pc := 4) 1 dX7_get_4 rfl rfl ?_
  refine g_iconst (pc := 5) (v := (3 : Int32)) dX7_get_5 (by decide) ?_
  refine g_imul (pc := 6) dX7_get_6 ?_
  refine g_iload_n (pc := 7) 2 dX7_get_7 rfl rfl ?_
  refine g_iadd (pc := 8) dX7_get_8 ?_
  obtain ⟨g2, hf⟩ := gs_some hf
  obtain ⟨b3, hf⟩ := gb_some hf
  refine g_iald (pc := 9) g2 b3 dX7_get_9 ?_
  obtain rfl := Option.some.inj hf
  exact g_iret (pc := 10) rfl dX7_get_10
theorem ct_X7_get (l : Launch) (X : Cx) {h : AH} {a0 : Nat} {a1 : Int32} {a2 : Int32} {q : Int32} (hf : f_X7_get h a0 a1 a2 = some q) : Ct l X k_X7_get [rf X a0, .int a1, .int a2] h (rI (q, h)) := ct_of ck_X7_get (by simp [lg_sl, rf_cat, rq_cat, ca_i, ca_l, ca_r]) (by simp [lv_args, rf_cat, rq_cat, ca_i, ca_l, ca_r]) (ok_X7_get l X hf)
def f_X3_tell (h : AH) (a0 : Nat) (a1 : Int32) : Option (Int32) :=
  if a1 < (100 : Int32) then
    if a1 = (32 : Int32) then
      gs h a0 3 <|
      some (hI h a0 3)
    else
      if a1 = (33 : Int32) then
        gs h a0 3 <|
        some (hI h a0 4)
      else
        if a1 = (34 : Int32) then
          gs h a0 3 <|
          gs h (hR h a0 5) 6 <|
          some (hI h (hR h a0 5) 1)
        else
          if a1 = (35 : Int32) then
            gs h a0 3 <|
            gs h (hR h a0 7) 8 <|
            some (hI h (hR h a0 7) 1)
          else
            if a1 = (36 : Int32) then
              gs h a0 3 <|
              some (hI h a0 11)
            else
              if a1 = (37 : Int32) then
                gs h a0 3 <|
                some (hI h a0 8)
              else
                if a1 = (38 : Int32) then
                  gs h a0 3 <|
                  some (hI h a0 12)
                else
                  if a1 = (39 : Int32) then
                    gs h a0 3 <|
                    some (hI h a0 13)
                  else
                    if a1 = (40 : Int32) then
                      gs h a0 3 <|
                      some (hI h a0 14)
                    else
                      gs h a0 3 <|
                      gs h (hR h a0 2) 21 <|
                      gb (ib (a1 &&& (31 : Int32)) (hN h (hR h a0 2))) <|
                      some (hI h (hR h a0 2) (a1 &&& (31 : Int32)).toNatClampNeg)
  else
    gs h a0 3 <|
    gs h (hR h a0 5) 6 <|
    bd (f_X7_get h (hR h a0 5) ((a1 - (100 : Int32)) / (3 : Int32)) ((a1 - (100 : Int32)) - (a1 - (100 : Int32)) / (3 : Int32) * (3 : Int32))) fun v27 =>
    some v27
set_option maxRecDepth 100000 in
set_option maxHeartbeats 4000000 in
theorem ok_X3_tell (l : Launch) (X : Cx) {h : AH} {a0 : Nat} {a1 : Int32} {q : Int32} (hf : f_X3_tell h a0 a1 = some q) : Go l X k_X3_tell 0 [(0, rf X a0), (1, .int a1)] [] h (rI (q, h)) := by
  unfold f_X3_tell at hf
  refine g_iload_n (pc := 0) 1 dX3_tell_0 rfl rfl ?_
  refine g_bipush (pc := 1) (v := (100 : Int32)) dX3_tell_1 (by decide) ?_
  rcases it_some hf with ⟨c1, hf⟩ | ⟨c1, hf⟩
  · refine g_iclt_t (pc := 3) (tgt := 26) dX3_tell_3 (by decide) c1 ?_
    refine g_iload_n (pc := 26) 1 dX3_tell_26 rfl rfl ?_
    rcases it_some hf with ⟨c2, hf⟩ | ⟨c2, hf⟩
    · refine g_tsw (pc := 27) (tgt := 76) (32 : Int32) dX3_tell_27 c2 (by decide +kernel) (by decide +kernel) (off := 49) (by decide +kernel) (by decide) ?_
      refine g_aload_n (pc := 76) 0 dX3_tell_76 rfl rfl ?_
      obtain ⟨g3, hf⟩ := gs_some hf
      refine g_getI (pc := 77) fl_X3_57 dX3_tell_77 g3 ?_
      obtain rfl := Option.some.inj hf
      exact g_iret (pc := 80) rfl dX3_tell_80
    ·
      rcases it_some hf with ⟨c4, hf⟩ | ⟨c4, hf⟩
      · refine g_tsw (pc := 27) (tgt := 81) (33 : Int32) dX3_tell_27 c4 (by decide +kernel) (by decide +kernel) (off := 54) (by decide +kernel) (by decide) ?_
        refine g_aload_n (pc := 81) 0 dX3_tell_81 rfl rfl ?_
        obtain ⟨g5, hf⟩ := gs_some hf
        refine g_getI (pc := 82) fl_X3_60 dX3_tell_82 g5 ?_
        obtain rfl := Option.some.inj hf
        exact g_iret (pc := 85) rfl dX3_tell_85
      ·
        rcases it_some hf with ⟨c6, hf⟩ | ⟨c6, hf⟩
        · refine g_tsw (pc := 27) (tgt := 86) (34 : Int32) dX3_tell_27 c6 (by decide +kernel) (by decide +kernel) (off := 59) (by decide +kernel) (by decide) ?_
          refine g_aload_n (pc := 86) 0 dX3_tell_86 rfl rfl ?_
          obtain ⟨g7, hf⟩ := gs_some hf
          refine g_getR (pc := 87) fl_X3_18 dX3_tell_87 g7 ?_
          obtain ⟨g8, hf⟩ := gs_some hf
          refine g_getI (pc := 90) fl_X3_100 dX3_tell_90 g8 ?_
          obtain rfl := Option.some.inj hf
          exact g_iret (pc := 93) rfl dX3_tell_93
        ·
          rcases it_some hf with ⟨c9, hf⟩ | ⟨c9, hf⟩
          · refine g_tsw (pc := 27) (tgt := 94) (35 : Int32) dX3_tell_27 c9 (by decide +kernel) (by decide +kernel) (off := 67) (by decide +kernel) (by decide) ?_
            refine g_aload_n (pc := 94) 0 dX3_tell_94 rfl rfl ?_
            obtain ⟨g10, hf⟩ := gs_some hf
            refine g_getR (pc := 95) fl_X3_32 dX3_tell_95 g10 ?_
            obtain ⟨g11, hf⟩ := gs_some hf
            refine g_getI (pc := 98) fl_X3_69 dX3_tell_98 g11 ?_
            obtain rfl := Option.some.inj hf
            exact g_iret (pc := 101) rfl dX3_tell_101
          ·
            rcases it_some hf with ⟨c12, hf⟩ | ⟨c12, hf⟩
            · refine g_tsw (pc := 27) (tgt := 102) (36 : Int32) dX3_tell_27 c12 (by decide +kernel) (by decide +kernel) (off := 75) (by decide +kernel) (by decide) ?_
              refine g_aload_n (pc := 102) 0 dX3_tell_102 rfl rfl ?_
              obtain ⟨g13, hf⟩ := gs_some hf
              refine g_getI (pc := 103) fl_X3_79 dX3_tell_103 g13 ?_
              obtain rfl := Option.some.inj hf
              exact g_iret (pc := 106) rfl dX3_tell_106
            ·
              rcases it_some hf with ⟨c14, hf⟩ | ⟨c14, hf⟩
              · refine g_tsw (pc := 27) (tgt := 107) (37 : Int32) dX3_tell_27 c14 (by decide +kernel) (by decide +kernel) (off := 80) (by decide +kernel) (by decide) ?_
                refine g_aload_n (pc := 107) 0 dX3_tell_107 rfl rfl ?_
                obtain ⟨g15, hf⟩ := gs_some hf
                refine g_getI (pc := 108) fl_X3_72 dX3_tell_108 g15 ?_
                obtain rfl := Option.some.inj hf
                exact g_iret (pc := 111) rfl dX3_tell_111
              ·
                rcases it_some hf with ⟨c16, hf⟩ | ⟨c16, hf⟩
                · refine g_tsw (pc := 27) (tgt := 112) (38 : Int32) dX3_tell_27 c16 (by decide +kernel) (by decide +kernel) (off := 85) (by decide +kernel) (by decide) ?_
                  refine g_aload_n (pc := 112) 0 dX3_tell_112 rfl rfl ?_
                  obtain ⟨g17, hf⟩ := gs_some hf
                  refine g_getI (pc := 113) fl_X3_82 dX3_tell_113 g17 ?_
                  obtain rfl := Option.some.inj hf
                  exact g_iret (pc := 116) rfl dX3_tell_116
                ·
                  rcases it_some hf with ⟨c18, hf⟩ | ⟨c18, hf⟩
                  · refine g_tsw (pc := 27) (tgt := 117) (39 : Int32) dX3_tell_27 c18 (by decide +kernel) (by decide +kernel) (off := 90) (by decide +kernel) (by decide) ?_
                    refine g_aload_n (pc := 117) 0 dX3_tell_117 rfl rfl ?_
                    obtain ⟨g19, hf⟩ := gs_some hf
                    refine g_getI (pc := 118) fl_X3_85 dX3_tell_118 g19 ?_
                    obtain rfl := Option.some.inj hf
                    exact g_iret (pc := 121) rfl dX3_tell_121
                  ·
                    rcases it_some hf with ⟨c20, hf⟩ | ⟨c20, hf⟩
                    · refine g_tsw (pc := 27) (tgt := 122) (40 : Int32) dX3_tell_27 c20 (by decide +kernel) (by decide +kernel) (off := 95) (by decide +kernel) (by decide) ?_
                      refine g_aload_n (pc := 122) 0 dX3_tell_122 rfl rfl ?_
                      obtain ⟨g21, hf⟩ := gs_some hf
                      refine g_getI (pc := 123) fl_X3_88 dX3_tell_123 g21 ?_
                      obtain rfl := Option.some.inj hf
                      exact g_iret (pc := 126) rfl dX3_tell_126
                    ·
                      refine g_tswD (pc := 27) (tgt := 127) [(32 : Int32), (33 : Int32), (34 : Int32), (35 : Int32), (36 : Int32), (37 : Int32), (38 : Int32), (39 : Int32), (40 : Int32)] dX3_tell_27 (cons_ne c2 (cons_ne c4 (cons_ne c6 (cons_ne c9 (cons_ne c12 (cons_ne c14 (cons_ne c16 (cons_ne c18 (cons_ne c20 nil_ne))))))))) (by decide +kernel) (by decide +kernel) (by decide) ?_
                      refine g_aload_n (pc := 127) 0 dX3_tell_127 rfl rfl ?_
                      obtain ⟨g22, hf⟩ := gs_some hf
                      refine g_getR (pc := 128) fl_X3_9 dX3_tell_128 g22 ?_
                      refine g_iload_n (pc := 131) 1 dX3_tell_131 rfl rfl ?_
                      refine g_bipush (pc := 132) (v := (31 : Int32)) dX3_tell_132 (by decide) ?_
                      refine g_iand (pc := 134) dX3_tell_134 ?_
                      obtain ⟨g23, hf⟩ := gs_some hf
                      obtain ⟨b24, hf⟩ := gb_some hf
                      refine g_iald (pc := 135) g23 b24 dX3_tell_135 ?_
                      obtain rfl := Option.some.inj hf
                      exact g_iret (pc := 136) rfl dX3_tell_136
  · refine g_iclt_f (pc := 3) (tgt := 26) dX3_tell_3 (by decide) c1 ?_
    refine g_aload_n (pc := 6) 0 dX3_tell_6 rfl rfl ?_
    obtain ⟨g25, hf⟩ := gs_some hf
    refine g_getR (pc := 7) fl_X3_18 dX3_tell_7 g25 ?_
    refine g_iload_n (pc := 10) 1 dX3_tell_10 rfl rfl ?_
    refine g_bipush (pc := 11) (v := (100 : Int32)) dX3_tell_11 (by decide) ?_
    refine g_isub (pc := 13) dX3_tell_13 ?_
    refine g_iconst (pc := 14) (v := (3 : Int32)) dX3_tell_14 (by decide) ?_
    refine g_idiv (pc := 15) (by decide) dX3_tell_15 ?_
    refine g_iload_n (pc := 16) 1 dX3_tell_16 rfl rfl ?_
    refine g_bipush (pc := 17) (v := (100 : Int32)) dX3_tell_17 (by decide) ?_
    refine g_isub (pc := 19) dX3_tell_19 ?_
    refine g_iconst (pc := 20) (v := (3 : Int32)) dX3_tell_20 (by decide) ?_
    refine g_irem (pc := 21) (by decide) dX3_tell_21 ?_
    obtain ⟨g26, hf⟩ := gs_some hf
    obtain ⟨v27, hcv27, hf⟩ := bd_some hf
    refine g_cVI (pc := 22) (k2 := k_X7_get) (av := [.int ((a1 - (100 : Int32)) / (3 : Int32)), .int ((a1 - (100 : Int32)) - (a1 - (100 : Int32)) / (3 : Int32) * (3 : Int32))]) (q := (v27, h)) rfl dX3_tell_22 ck_X7_get m_1155 m_1020 m_1021 (ci := 5) rfl (by decide) g26 (by decide) (by decide) rfl (by simp [rf_cat, rq_cat, ca_i, ca_l, ca_r]) (ct_X7_get l X hcv27) ?_
    obtain rfl := Option.some.inj hf
    exact g_iret (pc := 25) rfl dX3_tell_25
theorem ct_X3_tell (l : Launch) (X : Cx) {h : AH} {a0 : Nat} {a1 : Int32} {q : Int32} (hf : f_X3_tell h a0 a1 = some q) : Ct l X k_X3_tell [rf X a0, .int a1] h (rI (q, h)) := ct_of ck_X3_tell (by simp [lg_sl, rf_cat, rq_cat, ca_i, ca_l, ca_r]) (by simp [lv_args, rf_cat, rq_cat, ca_i, ca_l, ca_r]) (ok_X3_tell l X hf)
def f_X7_bytesAt_L31 (h : AH) (k4 : Nat → Int32 → Int32 → Int32 → Option (Int32)) (a0 : Nat) (a1 : Int32) (a2 : Int32) (a3 : Int32) : Option (Int32) :=
  lt (a3 + (1 : Int32)) fun x1 =>
  k4 a0 a1 a2 x1
set_option maxRecDepth 100000 in
set_option maxHeartbeats 4000000 in
theorem ok_X7_bytesAt_L31 (l : Launch) (X : Cx) (h : AH) (k4 : Nat → Int32 → Int32 → Int32 → Option (Int32)) (hk4 : ∀ (a0 : Nat) (a1 : Int32) (a2 : Int32) (a3 : Int32) (q : Int32), k4 a0 a1 a2 a3 = some q → Go l X k_X7_bytesAt 4 [(0, rf X a0), (1, .int a1), (2, .int a2), (3, .int a3)] [] h (rI (q, h))) (a0 : Nat) (a1 : Int32) (a2 : Int32) (a3 : Int32) (q : Int32) (hf : f_X7_bytesAt_L31 h k4 a0 a1 a2 a3 = some q) : Go l X k_X7_bytesAt 31 [(0, rf X a0), (1, .int a1), (2, .int a2), (3, .int a3)] [] h (rI (q, h)) := by
  unfold f_X7_bytesAt_L31 at hf
  obtain ⟨x1, ex1, hf⟩ := lt_some hf
  refine g_iinc (pc := 31) (y := x1) (L' := [(3, .int x1), (0, rf X a0), (1, .int a1), (2, .int a2)]) 3 dX7_bytesAt_31 rfl (by decide) (ex1.trans rfl) rfl ?_
  refine g_goto (pc := 34) (tgt := 4) dX7_bytesAt_34 (by decide) ?_
  refine g_sub [1, 2, 3, 0] rfl ?_
  exact hk4 a0 a1 a2 x1 q hf
def f_X7_bytesAt_L4 (h : AH) : Nat → Nat → Int32 → Int32 → Int32 → Option (Int32)
  | 0, _, _, _, _ => none
  | n + 1, a0, a1, a2, a3 =>
    gs h a0 6 <|
    if (hI h a0 1) ≤ a3 then
      some a2
    else
      bd (f_X7_get h a0 a3 (0 : Int32)) fun v3 =>
      if ¬ v3 = a1 then
        f_X7_bytesAt_L31 h (f_X7_bytesAt_L4 h n) a0 a1 a2 a3
      else
        bd (f_X7_get h a0 a3 (1 : Int32)) fun v5 =>
        lt ((a2 ||| v5)) fun x6 =>
        f_X7_bytesAt_L31 h (f_X7_bytesAt_L4 h n) a0 a1 x6 a3
set_option maxRecDepth 100000 in
set_option maxHeartbeats 4000000 in
theorem ok_X7_bytesAt_L4 (l : Launch) (X : Cx) (h : AH) : ∀ (n : Nat) (a0 : Nat) (a1 : Int32) (a2 : Int32) (a3 : Int32) (q : Int32), f_X7_bytesAt_L4 h n a0 a1 a2 a3 = some q → Go l X k_X7_bytesAt 4 [(0, rf X a0), (1, .int a1), (2, .int a2), (3, .int a3)] [] h (rI (q, h)) := by
  intro n
  induction n with
  | zero =>
    intro a0 a1 a2 a3 q hf
    unfold f_X7_bytesAt_L4 at hf
    cases hf
  | succ n ih =>
    intro a0 a1 a2 a3 q hf
    unfold f_X7_bytesAt_L4 at hf
    refine g_iload_n (pc := 4) 3 dX7_bytesAt_4 rfl rfl ?_
    refine g_aload_n (pc := 5) 0 dX7_bytesAt_5 rfl rfl ?_
    obtain ⟨g1, hf⟩ := gs_some hf
    refine g_getI (pc := 6) fl_X7_19 dX7_bytesAt_6 g1 ?_
    rcases it_some hf with ⟨c2, hf⟩ | ⟨c2, hf⟩
    · refine g_icge_t (pc := 9) (tgt := 37) dX7_bytesAt_9 (by decide) c2 ?_
      refine g_iload_n (pc := 37) 2 dX7_bytesAt_37 rfl rfl ?_
      obtain rfl := Option.some.inj hf
      exact g_iret (pc := 38) rfl dX7_bytesAt_38
    · refine g_icge_f (pc := 9) (tgt := 37) dX7_bytesAt_9 (by decide) c2 ?_
      refine g_aload_n (pc := 12) 0 dX7_bytesAt_12 rfl rfl ?_
      refine g_iload_n (pc := 13) 3 dX7_bytesAt_13 rfl rfl ?_
      refine g_iconst (pc := 14) (v := (0 : Int32)) dX7_bytesAt_14 (by decide) ?_
      obtain ⟨v3, hcv3, hf⟩ := bd_some hf
      refine g_cVI (pc := 15) (k2 := k_X7_get) (av := [.int a3, .int (0 : Int32)]) (q := (v3, h)) rfl dX7_bytesAt_15 ck_X7_get m_1019 m_1020 m_1021 (ci := 5) rfl (by decide) g1 (by decide) (by decide) rfl (by simp [rf_cat, rq_cat, ca_i, ca_l, ca_r]) (ct_X7_get l X hcv3) ?_
      refine g_iload_n (pc := 18) 1 dX7_bytesAt_18 rfl rfl ?_
      rcases it_some hf with ⟨c4, hf⟩ | ⟨c4, hf⟩
      · refine g_icne_t (pc := 19) (tgt := 31) dX7_bytesAt_19 (by decide) c4 ?_
        exact ok_X7_bytesAt_L31 l X h (f_X7_bytesAt_L4 h n) ih a0 a1 a2 a3 q hf
      · refine g_icne_f (pc := 19) (tgt := 31) dX7_bytesAt_19 (by decide) (Decidable.of_not_not c4) ?_
        refine g_iload_n (pc := 22) 2 dX7_bytesAt_22 rfl rfl ?_
        refine g_aload_n (pc := 23) 0 dX7_bytesAt_23 rfl rfl ?_
        refine g_iload_n (pc := 24) 3 dX7_bytesAt_24 rfl rfl ?_
        refine g_iconst (pc := 25) (v := (1 : Int32)) dX7_bytesAt_25 (by decide) ?_
        obtain ⟨v5, hcv5, hf⟩ := bd_some hf
        refine g_cVI (pc := 26) (k2 := k_X7_get) (av := [.int a3, .int (1 : Int32)]) (q := (v5, h)) rfl dX7_bytesAt_26 ck_X7_get m_1019 m_1020 m_1021 (ci := 5) rfl (by decide) g1 (by decide) (by decide) rfl (by simp [rf_cat, rq_cat, ca_i, ca_l, ca_r]) (ct_X7_get l X hcv5) ?_
        refine g_ior (pc := 29) dX7_bytesAt_29 ?_
        obtain ⟨x6, ex6, hf⟩ := lt_some hf
        refine g_istore_n (pc := 30) (L' := [(2, .int x6), (0, rf X a0), (1, .int a1), (3, .int a3)]) dX7_bytesAt_30 rfl (by decide) ex6 rfl ?_
        refine g_sub [1, 2, 0, 3] rfl ?_
        exact ok_X7_bytesAt_L31 l X h (f_X7_bytesAt_L4 h n) ih a0 a1 x6 a3 q hf
def f_X7_bytesAt (h : AH) (a0 : Nat) (a1 : Int32) : Option (Int32) :=
  lt ((0 : Int32)) fun x1 =>
  lt ((0 : Int32)) fun x2 =>
  f_X7_bytesAt_L4 h FU a0 a1 x1 x2
set_option maxRecDepth 100000 in
set_option maxHeartbeats 4000000 in
theorem ok_X7_bytesAt (l : Launch) (X : Cx) {h : AH} {a0 : Nat} {a1 : Int32} {q : Int32} (hf : f_X7_bytesAt h a0 a1 = some q) : Go l X k_X7_bytesAt 0 [(0, rf X a0), (1, .int a1)] [] h (rI (q, h)) := by
  unfold f_X7_bytesAt at hf
  refine g_iconst (pc := 0) (v := (0 : Int32)) dX7_bytesAt_0 (by decide) ?_
  obtain ⟨x1, ex1, hf⟩ := lt_some hf
  refine g_istore_n (pc := 1) (L' := [(2, .int x1), (0, rf X a0), (1, .int a1)]) dX7_bytesAt_1 rfl (by decide) ex1 rfl ?_
  refine g_iconst (pc := 2) (v := (0 : Int32)) dX7_bytesAt_2 (by decide) ?_
  obtain ⟨x2, ex2, hf⟩ := lt_some hf
  refine g_istore_n (pc := 3) (L' := [(3, .int x2), (2, .int x1), (0, rf X a0), (1, .int a1)]) dX7_bytesAt_3 rfl (by decide) ex2 rfl ?_
  refine g_sub [2, 3, 1, 0] rfl ?_
  exact ok_X7_bytesAt_L4 l X h FU a0 a1 x1 x2 q hf
theorem ct_X7_bytesAt (l : Launch) (X : Cx) {h : AH} {a0 : Nat} {a1 : Int32} {q : Int32} (hf : f_X7_bytesAt h a0 a1 = some q) : Ct l X k_X7_bytesAt [rf X a0, .int a1] h (rI (q, h)) := ct_of ck_X7_bytesAt (by simp [lg_sl, rf_cat, rq_cat, ca_i, ca_l, ca_r]) (by simp [lv_args, rf_cat, rq_cat, ca_i, ca_l, ca_r]) (ok_X7_bytesAt l X hf)
def f_J7_copyOf_59c91 (h : AH) (a0 : Nat) (a1 : Int32) : Option (Nat × AH) :=
  gs h a0 21 <|
  if ¬ a1 = (nI (hN h a0)) then
    gb (decide (¬ a1 < 0) && decide (a1.toNatClampNeg ≤ 10000000)) <|
    lt (hNew h 21 a1.toNatClampNeg a1.toNatClampNeg) fun h4 =>
    gs h4 a0 21 <|
    gb (cpok (0 : Int32) (0 : Int32) (if a1 < (nI (hN h4 a0)) then a1 else (nI (hN h4 a0))) (hN h4 a0) (hN h4 (hZ h + 1))) <|
    lt (sA h4 (hZ h + 1) (va_cpy (hI h4 a0) (hI h4 (hZ h + 1)) (0 : Int32).toNatClampNeg (0 : Int32).toNatClampNeg (if a1 < (nI (hN h4 a0)) then a1 else (nI (hN h4 a0))).toNatClampNeg)) fun h8 =>
    some ((hZ h + 1), h8)
  else
    none
set_option maxRecDepth 100000 in
set_option maxHeartbeats 4000000 in
theorem ok_J7_copyOf_59c91 (l : Launch) (X : Cx) {h : AH} {a0 : Nat} {a1 : Int32} {q : Nat × AH} (hf : f_J7_copyOf_59c91 h a0 a1 = some q) : Go l X k_J7_copyOf_59c91 0 [(0, rf X a0), (1, .int a1)] [] h (rR X q) := by
  unfold f_J7_copyOf_59c91 at hf
  refine g_iload_n (pc := 0) 1 dJ7_copyOf_59c91_0 rfl rfl ?_
  refine g_aload_n (pc := 1) 0 dJ7_copyOf_59c91_1 rfl rfl ?_
  obtain ⟨g1, hf⟩ := gs_some hf
  refine g_alen (pc := 2) 0 rfl g1 (by decide) dJ7_copyOf_59c91_2 ?_
  rcases it_some hf with ⟨c2, hf⟩ | ⟨c2, hf⟩
  · refine g_icne_t (pc := 3) (tgt := 14) dJ7_copyOf_59c91_3 (by decide) c2 ?_
    refine g_iload_n (pc := 14) 1 dJ7_copyOf_59c91_14 rfl rfl ?_
    obtain ⟨b3, hf⟩ := gb_some hf
    obtain ⟨h4, eh4, hf⟩ := lt_some hf
    refine g_newI (pc := 15) m_252 dJ7_copyOf_59c91_15 b3 eh4 ?_
    refine g_astore_n (pc := 17) (L' := [(2, rf X (hZ h + 1)), (0, rf X a0), (1, .int a1)]) dJ7_copyOf_59c91_17 rfl (by decide) rfl ?_
    refine g_aload_n (pc := 18) 1 dJ7_copyOf_59c91_18 rfl rfl ?_
    refine g_iconst (pc := 19) (v := (0 : Int32)) dJ7_copyOf_59c91_19 (by decide) ?_
    refine g_aload_n (pc := 20) 0 dJ7_copyOf_59c91_20 rfl rfl ?_
    refine g_iconst (pc := 21) (v := (0 : Int32)) dJ7_copyOf_59c91_21 (by decide) ?_
    refine g_aload_n (pc := 22) 1 dJ7_copyOf_59c91_22 rfl rfl ?_
    obtain ⟨g5, hf⟩ := gs_some hf
    refine g_alen (pc := 23) 0 rfl g5 (by decide) dJ7_copyOf_59c91_23 ?_
    refine g_iload_n (pc := 24) 2 dJ7_copyOf_59c91_24 rfl rfl ?_
    refine g_min (pc := 25) mmmin_J7_304 (by decide) (by decide) (by simp [rf_cat, rq_cat, ca_i, ca_l, ca_r]) dJ7_copyOf_59c91_25 ?_
    have g6 : hS h4 (hZ h + 1) = 21 := (hS_nw eh4)
    obtain ⟨b7, hf⟩ := gb_some hf
    obtain ⟨h8, eh8, hf⟩ := lt_some hf
    refine g_copy (pc := 28) acy_J7_150 g5 g6 b7 (by decide) (by decide) (by simp [rf_cat, rq_cat, ca_i, ca_l, ca_r]) dJ7_copyOf_59c91_28 eh8 ?_
    refine g_aload_n (pc := 31) 0 dJ7_copyOf_59c91_31 rfl rfl ?_
    obtain rfl := Option.some.inj hf
    exact g_aret (pc := 32) rfl (Or.inr ⟨_, rfl⟩) dJ7_copyOf_59c91_32
  · refine g_icne_f (pc := 3) (tgt := 14) dJ7_copyOf_59c91_3 (by decide) (Decidable.of_not_not c2) ?_
    refine g_aload_n (pc := 6) 0 dJ7_copyOf_59c91_6 rfl rfl ?_
    cases hf
theorem ct_J7_copyOf_59c91 (l : Launch) (X : Cx) {h : AH} {a0 : Nat} {a1 : Int32} {q : Nat × AH} (hf : f_J7_copyOf_59c91 h a0 a1 = some q) : Ct l X k_J7_copyOf_59c91 [rf X a0, .int a1] h (rR X q) := ct_of ck_J7_copyOf_59c91 (by simp [lg_sl, rf_cat, rq_cat, ca_i, ca_l, ca_r]) (by simp [lv_args, rf_cat, rq_cat, ca_i, ca_l, ca_r]) (ok_J7_copyOf_59c91 l X hf)
