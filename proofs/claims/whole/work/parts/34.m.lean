def f_X7_removeOldest (h : AH) (a0 : Nat) : Option (AH) :=
  gs h a0 6 <|
  lt (sI h a0 1 ((hI h a0 1) - (1 : Int32))) fun h2 =>
  gs h2 (hR h2 a0 0) 21 <|
  gb (cpok (3 : Int32) (0 : Int32) ((hI h2 a0 1) * (3 : Int32)) (hN h2 (hR h2 a0 0)) (hN h2 (hR h2 a0 0))) <|
  lt (sA h2 (hR h2 a0 0) (va_cpy (hI h2 (hR h2 a0 0)) (hI h2 (hR h2 a0 0)) (3 : Int32).toNatClampNeg (0 : Int32).toNatClampNeg ((hI h2 a0 1) * (3 : Int32)).toNatClampNeg)) fun h6 =>
  some h6
set_option maxRecDepth 100000 in
set_option maxHeartbeats 4000000 in
theorem ok_X7_removeOldest (l : Launch) (X : Cx) {h : AH} {a0 : Nat} {q : AH} (hf : f_X7_removeOldest h a0 = some q) : Go l X k_X7_removeOldest 0 [(0, rf X a0)] [] h (rV q) := by
  unfold f_X7_removeOldest at hf
  refine g_aload_n (pc := 0) 0 dX7_removeOldest_0 rfl rfl ?_
  refine g_dup (pc := 1) dX7_removeOldest_1 (rf_cat X _) ?_
  obtain ⟨g1, hf⟩ := gs_some hf
  refine g_getI (pc := 2) fl_X7_19 dX7_removeOldest_2 g1 ?_
  refine g_iconst (pc := 5) (v := (1 : Int32)) dX7_removeOldest_5 (by decide) ?_
  refine g_isub (pc := 6) dX7_removeOldest_6 ?_
  obtain ⟨h2, eh2, hf⟩ := lt_some hf
  refine g_putI (pc := 7) fl_X7_19 dX7_removeOldest_7 g1 eh2 ?_
  refine g_aload_n (pc := 10) 0 dX7_removeOldest_10 rfl rfl ?_
  have g3 : hS h2 a0 = 6 := (hS_tI eh2 g1)
  refine g_getR (pc := 11) fl_X7_11 dX7_removeOldest_11 g3 ?_
  refine g_iconst (pc := 14) (v := (3 : Int32)) dX7_removeOldest_14 (by decide) ?_
  refine g_aload_n (pc := 15) 0 dX7_removeOldest_15 rfl rfl ?_
  refine g_getR (pc := 16) fl_X7_11 dX7_removeOldest_16 g3 ?_
  refine g_iconst (pc := 19) (v := (0 : Int32)) dX7_removeOldest_19 (by decide) ?_
  refine g_aload_n (pc := 20) 0 dX7_removeOldest_20 rfl rfl ?_
  refine g_getI (pc := 21) fl_X7_19 dX7_removeOldest_21 g3 ?_
  refine g_iconst (pc := 24) (v := (3 : Int32)) dX7_removeOldest_24 (by decide) ?_
  refine g_imul (pc := 25) dX7_removeOldest_25 ?_
  obtain ⟨g4, hf⟩ := gs_some hf
  obtain ⟨b5, hf⟩ := gb_some hf
  obtain ⟨h6, eh6, hf⟩ := lt_some hf
  refine g_copy (pc := 26) acy_X7_22 g4 g4 b5 (by decide) (by decide) (by simp [rf_cat, rq_cat, ca_i, ca_l, ca_r]) dX7_removeOldest_26 eh6 ?_
  obtain rfl := Option.some.inj hf
  exact g_vret (pc := 29) rfl dX7_removeOldest_29
theorem ct_X7_removeOldest (l : Launch) (X : Cx) {h : AH} {a0 : Nat} {q : AH} (hf : f_X7_removeOldest h a0 = some q) : Ct l X k_X7_removeOldest [rf X a0] h (rV q) := ct_of ck_X7_removeOldest (by simp [lg_sl, rf_cat, rq_cat, ca_i, ca_l, ca_r]) (by simp [lv_args, rf_cat, rq_cat, ca_i, ca_l, ca_r]) (ok_X7_removeOldest l X hf)
def f_X3_settle (h : AH) (a0 : Nat) : Option (Int32 × AH) :=
  gs h a0 3 <|
  gs h (hR h a0 5) 6 <|
  if ¬ (hI h (hR h a0 5) 1) = 0 then
    bd (f_X7_get h (hR h a0 5) (0 : Int32) (0 : Int32)) fun v4 =>
    bd (f_X3_wordToChange h a0 v4) fun q5 =>
    lt (q5.1) fun x6 =>
    if 0 ≤ x6 then
      gs q5.2 a0 3 <|
      gs q5.2 (hR q5.2 a0 5) 6 <|
      bd (f_X7_get q5.2 (hR q5.2 a0 5) (0 : Int32) (1 : Int32)) fun v10 =>
      gb (ib (v10 &&& (15 : Int32)) 16) <|
      lt ((tBB.getD (v10 &&& (15 : Int32)).toNatClampNeg 0)) fun x12 =>
      gs q5.2 (hR q5.2 a0 6) 2 <|
      gs q5.2 (hR q5.2 (hR q5.2 a0 6) 3) 21 <|
      gb (ib x6 (hN q5.2 (hR q5.2 (hR q5.2 a0 6) 3))) <|
      bd (f_X7_get q5.2 (hR q5.2 a0 5) (0 : Int32) (2 : Int32)) fun v16 =>
      gb (ib x6 (hN q5.2 (hR q5.2 (hR q5.2 a0 6) 3))) <|
      lt (sI q5.2 (hR q5.2 (hR q5.2 a0 6) 3) x6.toNatClampNeg (((hI q5.2 (hR q5.2 (hR q5.2 a0 6) 3) x6.toNatClampNeg) &&& (x12 ^^^ (-1 : Int32))) ||| v16)) fun h18 =>
      gs h18 (hR h18 a0 5) 6 <|
      bd (f_X7_removeOldest h18 (hR h18 a0 5)) fun q21 =>
      some ((1 : Int32), q21)
    else
      some ((2 : Int32), q5.2)
  else
    some ((0 : Int32), h)
set_option maxRecDepth 100000 in
set_option maxHeartbeats 4000000 in
theorem ok_X3_settle (l : Launch) (X : Cx) {h : AH} {a0 : Nat} {q : Int32 × AH} (hf : f_X3_settle h a0 = some q) : Go l X k_X3_settle 0 [(0, rf X a0)] [] h (rI q) := by
  unfold f_X3_settle at hf
  refine g_aload_n (pc := 0) 0 dX3_settle_0 rfl rfl ?_
  obtain ⟨g1, hf⟩ := gs_some hf
  refine g_getR (pc := 1) fl_X3_18 dX3_settle_1 g1 ?_
  obtain ⟨g2, hf⟩ := gs_some hf
  refine g_getI (pc := 4) fl_X3_100 dX3_settle_4 g2 ?_
  rcases it_some hf with ⟨c3, hf⟩ | ⟨c3, hf⟩
  · refine g_ifne_t (pc := 7) (tgt := 12) dX3_settle_7 (by decide) c3 ?_
    refine g_aload_n (pc := 12) 0 dX3_settle_12 rfl rfl ?_
    refine g_aload_n (pc := 13) 0 dX3_settle_13 rfl rfl ?_
    refine g_getR (pc := 14) fl_X3_18 dX3_settle_14 g1 ?_
    refine g_iconst (pc := 17) (v := (0 : Int32)) dX3_settle_17 (by decide) ?_
    refine g_iconst (pc := 18) (v := (0 : Int32)) dX3_settle_18 (by decide) ?_
    obtain ⟨v4, hcv4, hf⟩ := bd_some hf
    refine g_cVI (pc := 19) (k2 := k_X7_get) (av := [.int (0 : Int32), .int (0 : Int32)]) (q := (v4, h)) rfl dX3_settle_19 ck_X7_get m_1155 m_1020 m_1021 (ci := 5) rfl (by decide) g2 (by decide) (by decide) rfl (by simp [rf_cat, rq_cat, ca_i, ca_l, ca_r]) (ct_X7_get l X hcv4) ?_
    obtain ⟨q5, hcq5, hf⟩ := bd_some hf
    refine g_cVI (pc := 22) (k2 := k_X3_wordToChange) (av := [.int v4]) (q := q5) rfl dX3_settle_22 ck_X3_wordToChange m_1128 m_1130 m_52 (ci := 2) rfl (by decide) g1 (by decide) (by decide) rfl (by simp [rf_cat, rq_cat, ca_i, ca_l, ca_r]) (ct_X3_wordToChange l X hcq5) ?_
    obtain ⟨x6, ex6, hf⟩ := lt_some hf
    refine g_istore_n (pc := 25) (L' := [(1, .int x6), (0, rf X a0)]) dX3_settle_25 rfl (by decide) ex6 (by simp [rf_cat, rq_cat]) ?_
    refine g_iload_n (pc := 26) 0 dX3_settle_26 rfl rfl ?_
    rcases it_some hf with ⟨c7, hf⟩ | ⟨c7, hf⟩
    · refine g_ifge_t (pc := 27) (tgt := 32) dX3_settle_27 (by decide) c7 ?_
      refine g_sBBN (pc := 32) 3 rfl dX3_settle_32 ?_
      refine g_aload_n (pc := 35) 1 dX3_settle_35 rfl rfl ?_
      obtain ⟨g8, hf⟩ := gs_some hf
      refine g_getR (pc := 36) fl_X3_18 dX3_settle_36 g8 ?_
      refine g_iconst (pc := 39) (v := (0 : Int32)) dX3_settle_39 (by decide) ?_
      refine g_iconst (pc := 40) (v := (1 : Int32)) dX3_settle_40 (by decide) ?_
      obtain ⟨g9, hf⟩ := gs_some hf
      obtain ⟨v10, hcv10, hf⟩ := bd_some hf
      refine g_cVI (pc := 41) (k2 := k_X7_get) (av := [.int (0 : Int32), .int (1 : Int32)]) (q := (v10, q5.2)) rfl dX3_settle_41 ck_X7_get m_1155 m_1020 m_1021 (ci := 5) rfl (by decide) g9 (by decide) (by decide) rfl (by simp [rf_cat, rq_cat, ca_i, ca_l, ca_r]) (ct_X7_get l X hcv10) ?_
      refine g_bipush (pc := 44) (v := (15 : Int32)) dX3_settle_44 (by decide) ?_
      refine g_iand (pc := 46) dX3_settle_46 ?_
      obtain ⟨b11, hf⟩ := gb_some hf
      refine g_tBB (pc := 47) b11 dX3_settle_47 ?_
      obtain ⟨x12, ex12, hf⟩ := lt_some hf
      refine g_istore_n (pc := 48) (L' := [(2, .int x12), (1, .int x6), (0, rf X a0)]) dX3_settle_48 rfl (by decide) ex12 rfl ?_
      refine g_aload_n (pc := 49) 2 dX3_settle_49 rfl rfl ?_
      refine g_getR (pc := 50) fl_X3_25 dX3_settle_50 g8 ?_
      obtain ⟨g13, hf⟩ := gs_some hf
      refine g_getR (pc := 53) fl_X3_199 dX3_settle_53 g13 ?_
      refine g_iload_n (pc := 56) 1 dX3_settle_56 rfl rfl ?_
      refine g_aload_n (pc := 57) 2 dX3_settle_57 rfl rfl ?_
      refine g_getR (pc := 58) fl_X3_25 dX3_settle_58 g8 ?_
      refine g_getR (pc := 61) fl_X3_199 dX3_settle_61 g13 ?_
      refine g_iload_n (pc := 64) 1 dX3_settle_64 rfl rfl ?_
      obtain ⟨g14, hf⟩ := gs_some hf
      obtain ⟨b15, hf⟩ := gb_some hf
      refine g_iald (pc := 65) g14 b15 dX3_settle_65 ?_
      refine g_iload_n (pc := 66) 0 dX3_settle_66 rfl rfl ?_
      refine g_iconst (pc := 67) (v := (-1 : Int32)) dX3_settle_67 (by decide) ?_
      refine g_ixor (pc := 68) dX3_settle_68 ?_
      refine g_iand (pc := 69) dX3_settle_69 ?_
      refine g_aload_n (pc := 70) 2 dX3_settle_70 rfl rfl ?_
      refine g_getR (pc := 71) fl_X3_18 dX3_settle_71 g8 ?_
      refine g_iconst (pc := 74) (v := (0 : Int32)) dX3_settle_74 (by decide) ?_
      refine g_iconst (pc := 75) (v := (2 : Int32)) dX3_settle_75 (by decide) ?_
      obtain ⟨v16, hcv16, hf⟩ := bd_some hf
      refine g_cVI (pc := 76) (k2 := k_X7_get) (av := [.int (0 : Int32), .int (2 : Int32)]) (q := (v16, q5.2)) rfl dX3_settle_76 ck_X7_get m_1155 m_1020 m_1021 (ci := 5) rfl (by decide) g9 (by decide) (by decide) rfl (by simp [rf_cat, rq_cat, ca_i, ca_l, ca_r]) (ct_X7_get l X hcv16) ?_
      refine g_ior (pc := 79) dX3_settle_79 ?_
      obtain ⟨b17, hf⟩ := gb_some hf
      obtain ⟨h18, eh18, hf⟩ := lt_some hf
      refine g_iast (pc := 80) g14 b17 dX3_settle_80 eh18 ?_
      refine g_aload_n (pc := 81) 2 dX3_settle_81 rfl rfl ?_
      have g19 : hS h18 a0 = 3 := (hS_tI eh18 g8)
      refine g_getR (pc := 82) fl_X3_18 dX3_settle_82 g19 ?_
      obtain ⟨g20, hf⟩ := gs_some hf
      obtain ⟨q21, hcq21, hf⟩ := bd_some hf
      refine g_cVV (pc := 85) (k2 := k_X7_removeOldest) (av := []) (q := q21) rfl dX3_settle_85 ck_X7_removeOldest m_1156 m_1157 m_1158 (ci := 5) rfl (by decide) g20 (by decide) (by decide) rfl (by simp [rf_cat, rq_cat, ca_i, ca_l, ca_r]) (ct_X7_removeOldest l X hcq21) ?_
      refine g_iconst (pc := 88) (v := (1 : Int32)) dX3_settle_88 (by decide) ?_
      obtain rfl := Option.some.inj hf
      exact g_iret (pc := 89) rfl dX3_settle_89
    · refine g_ifge_f (pc := 27) (tgt := 32) dX3_settle_27 (by decide) c7 ?_
      refine g_iconst (pc := 30) (v := (2 : Int32)) dX3_settle_30 (by decide) ?_
      obtain rfl := Option.some.inj hf
      exact g_iret (pc := 31) rfl dX3_settle_31
  · refine g_ifne_f (pc := 7) (tgt := 12) dX3_settle_7 (by decide) (Decidable.of_not_not c3) ?_
    refine g_iconst (pc := 10) (v := (0 : Int32)) dX3_settle_10 (by decide) ?_
    obtain rfl := Option.some.inj hf
    exact g_iret (pc := 11) rfl dX3_settle_11
theorem ct_X3_settle (l : Launch) (X : Cx) {h : AH} {a0 : Nat} {q : Int32 × AH} (hf : f_X3_settle h a0 = some q) : Ct l X k_X3_settle [rf X a0] h (rI q) := ct_of ck_X3_settle (by simp [lg_sl, rf_cat, rq_cat, ca_i, ca_l, ca_r]) (by simp [lv_args, rf_cat, rq_cat, ca_i, ca_l, ca_r]) (ok_X3_settle l X hf)
def f_X3_answer_L131 (h : AH) (a0 : Nat) (a4 : Int32) : Option (AH) :=
  if a4 = 0 then
    some h
  else
    gs h a0 3 <|
    lt (sI h a0 9 (1 : Int32)) fun h3 =>
    some h3
set_option maxRecDepth 100000 in
set_option maxHeartbeats 4000000 in
theorem ok_X3_answer_L131 (l : Launch) (X : Cx) (h : AH) (a0 : Nat) (a4 : Int32) (q : AH) (hf : f_X3_answer_L131 h a0 a4 = some q) : Go l X k_X3_answer 131 [(0, rf X a0), (4, .int a4)] [] h (rV q) := by
  unfold f_X3_answer_L131 at hf
  refine g_iload (pc := 131) 1 dX3_answer_131 rfl ?_
  rcases it_some hf with ⟨c1, hf⟩ | ⟨c1, hf⟩
  · refine g_ifeq_t (pc := 133) (tgt := 141) dX3_answer_133 (by decide) c1 ?_
    obtain rfl := Option.some.inj hf
    exact g_vret (pc := 141) rfl dX3_answer_141
  · refine g_ifeq_f (pc := 133) (tgt := 141) dX3_answer_133 (by decide) c1 ?_
    refine g_aload_n (pc := 136) 0 dX3_answer_136 rfl rfl ?_
    refine g_iconst (pc := 137) (v := (1 : Int32)) dX3_answer_137 (by decide) ?_
    obtain ⟨g2, hf⟩ := gs_some hf
    obtain ⟨h3, eh3, hf⟩ := lt_some hf
    refine g_putZ (pc := 138) fl_X3_75 dX3_answer_138 g2 rfl eh3 ?_
    obtain rfl := Option.some.inj hf
    exact g_vret (pc := 141) rfl dX3_answer_141
def f_X3_answer_L105 (h : AH) (a0 : Nat) (a2 : Int32) (a3 : Int32) (a4 : Int32) : Option (AH) :=
  if a3 < 0 then
    f_X3_answer_L131 h a0 a4
  else
    gs h a0 3 <|
    gs h (hR h a0 6) 2 <|
    gs h (hR h (hR h a0 6) 1) 21 <|
    gb (ib a3 (hN h (hR h (hR h a0 6) 1))) <|
    gb (ib a3 (hN h (hR h (hR h a0 6) 1))) <|
    lt (sI h (hR h (hR h a0 6) 1) a3.toNatClampNeg (if a2 < (hI h (hR h (hR h a0 6) 1) a3.toNatClampNeg) then a2 else (hI h (hR h (hR h a0 6) 1) a3.toNatClampNeg))) fun h7 =>
    f_X3_answer_L131 h7 a0 a4
set_option maxRecDepth 100000 in
set_option maxHeartbeats 4000000 in
theorem ok_X3_answer_L105 (l : Launch) (X : Cx) (h : AH) (a0 : Nat) (a2 : Int32) (a3 : Int32) (a4 : Int32) (q : AH) (hf : f_X3_answer_L105 h a0 a2 a3 a4 = some q) : Go l X k_X3_answer 105 [(0, rf X a0), (2, .int a2), (3, .int a3), (4, .int a4)] [] h (rV q) := by
  unfold f_X3_answer_L105 at hf
  refine g_iload_n (pc := 105) 2 dX3_answer_105 rfl rfl ?_
  rcases it_some hf with ⟨c1, hf⟩ | ⟨c1, hf⟩
  · refine g_iflt_t (pc := 106) (tgt := 131) dX3_answer_106 (by decide) c1 ?_
    refine g_sub [0, 3] rfl ?_
    exact ok_X3_answer_L131 l X h a0 a4 q hf
  · refine g_iflt_f (pc := 106) (tgt := 131) dX3_answer_106 (by decide) c1 ?_
    refine g_aload_n (pc := 109) 0 dX3_answer_109 rfl rfl ?_
    obtain ⟨g2, hf⟩ := gs_some hf
    refine g_getR (pc := 110) fl_X3_25 dX3_answer_110 g2 ?_
    obtain ⟨g3, hf⟩ := gs_some hf
    refine g_getR (pc := 113) fl_X3_226 dX3_answer_113 g3 ?_
    refine g_iload_n (pc := 116) 2 dX3_answer_116 rfl rfl ?_
    refine g_aload_n (pc := 117) 0 dX3_answer_117 rfl rfl ?_
    refine g_getR (pc := 118) fl_X3_25 dX3_answer_118 g2 ?_
    refine g_getR (pc := 121) fl_X3_226 dX3_answer_121 g3 ?_
    refine g_iload_n (pc := 124) 2 dX3_answer_124 rfl rfl ?_
    obtain ⟨g4, hf⟩ := gs_some hf
    obtain ⟨b5, hf⟩ := gb_some hf
    refine g_iald (pc := 125) g4 b5 dX3_answer_125 ?_
    refine g_iload_n (pc := 126) 1 dX3_answer_126 rfl rfl ?_
    refine g_min (pc := 127) mmmin_X3_257 (by decide) (by decide) (by simp [rf_cat, rq_cat, ca_i, ca_l, ca_r]) dX3_answer_127 ?_
    obtain ⟨b6, hf⟩ := gb_some hf
    obtain ⟨h7, eh7, hf⟩ := lt_some hf
    refine g_iast (pc := 130) g4 b6 dX3_answer_130 eh7 ?_
    refine g_sub [0, 3] rfl ?_
    exact ok_X3_answer_L131 l X h7 a0 a4 q hf
def f_X3_answer_L101 (h : AH) (a0 : Nat) (a2 : Int32) (a3 : Int32) (a4 : Int32) (s0 : Nat) (s1 : Int32) (s2 : Int32) (s3 : Int32) (s4 : Int32) (s5 : Nat) : Option (AH) :=
  gs h s0 5 <|
  bd (f_X6_send h s0 s1 s2 s3 s4 s5 (0 : Int32)) fun q2 =>
  f_X3_answer_L105 q2 a0 a2 a3 a4
set_option maxRecDepth 100000 in
set_option maxHeartbeats 4000000 in
theorem ok_X3_answer_L101 (l : Launch) (X : Cx) (h : AH) (a0 : Nat) (a2 : Int32) (a3 : Int32) (a4 : Int32) (s0 : Nat) (s1 : Int32) (s2 : Int32) (s3 : Int32) (s4 : Int32) (s5 : Nat) (q : AH) (hf : f_X3_answer_L101 h a0 a2 a3 a4 s0 s1 s2 s3 s4 s5 = some q) : Go l X k_X3_answer 101 [(0, rf X a0), (2, .int a2), (3, .int a3), (4, .int a4)] [rf X s5, .int s4, .int s3, .int s2, .int s1, rf X s0] h (rV q) := by
  unfold f_X3_answer_L101 at hf
  refine g_iconst (pc := 101) (v := (0 : Int32)) dX3_answer_101 (by decide) ?_
  obtain ⟨g1, hf⟩ := gs_some hf
  obtain ⟨q2, hcq2, hf⟩ := bd_some hf
  refine g_cVV (pc := 102) (k2 := k_X6_send) (av := [.int s1, .int s2, .int s3, .int s4, rf X s5, .int (0 : Int32)]) (q := q2) rfl dX3_answer_102 ck_X6_send m_655 m_582 m_583 (ci := 4) rfl (by decide) g1 (by decide) (by decide) rfl (by simp [rf_cat, rq_cat, ca_i, ca_l, ca_r]) (ct_X6_send l X hcq2) ?_
  exact ok_X3_answer_L105 l X q2 a0 a2 a3 a4 q hf
def f_X3_answer_L100 (h : AH) (a0 : Nat) (a2 : Int32) (a3 : Int32) (a4 : Int32) (s0 : Nat) (s1 : Int32) (s2 : Int32) (s3 : Int32) (s4 : Int32) : Option (AH) :=
  f_X3_answer_L101 h a0 a2 a3 a4 s0 s1 s2 s3 s4 0
set_option maxRecDepth 100000 in
set_option maxHeartbeats 4000000 in
theorem ok_X3_answer_L100 (l : Launch) (X : Cx) (h : AH) (a0 : Nat) (a2 : Int32) (a3 : Int32) (a4 : Int32) (s0 : Nat) (s1 : Int32) (s2 : Int32) (s3 : Int32) (s4 : Int32) (q : AH) (hf : f_X3_answer_L100 h a0 a2 a3 a4 s0 s1 s2 s3 s4 = some q) : Go l X k_X3_answer 100 [(0, rf X a0), (2, .int a2), (3, .int a3), (4, .int a4)] [.int s4, .int s3, .int s2, .int s1, rf X s0] h (rV q) := by
  unfold f_X3_answer_L100 at hf
  refine g_null (pc := 100) dX3_answer_100 ?_
  exact ok_X3_answer_L101 l X h a0 a2 a3 a4 s0 s1 s2 s3 s4 0 q hf
def f_X3_answer_L69 (h : AH) (a0 : Nat) (a1 : Int32) (a2 : Int32) (a3 : Int32) (a4 : Int32) : Option (AH) :=
  gs h a0 3 <|
  if a4 = 0 then
    f_X3_answer_L100 h a0 a2 a3 a4 (hR h a0 1) (5 : Int32) (hI h a0 0) (16 : Int32) a1
  else
    if ¬ (hI h a0 9) = 0 then
      f_X3_answer_L100 h a0 a2 a3 a4 (hR h a0 1) (5 : Int32) (hI h a0 0) (16 : Int32) a1
    else
      f_X3_answer_L101 h a0 a2 a3 a4 (hR h a0 1) (5 : Int32) (hI h a0 0) (16 : Int32) a1 (hR h a0 10)
set_option maxRecDepth 100000 in
set_option maxHeartbeats 4000000 in
theorem ok_X3_answer_L69 (l : Launch) (X : Cx) (h : AH) (a0 : Nat) (a1 : Int32) (a2 : Int32) (a3 : Int32) (a4 : Int32) (q : AH) (hf : f_X3_answer_L69 h a0 a1 a2 a3 a4 = some q) : Go l X k_X3_answer 69 [(0, rf X a0), (1, .int a1), (2, .int a2), (3, .int a3), (4, .int a4)] [] h (rV q) := by
  unfold f_X3_answer_L69 at hf
  refine g_aload_n (pc := 69) 0 dX3_answer_69 rfl rfl ?_
  obtain ⟨g1, hf⟩ := gs_some hf
  refine g_getR (pc := 70) fl_X3_43 dX3_answer_70 g1 ?_
  refine g_iconst (pc := 73) (v := (5 : Int32)) dX3_answer_73 (by decide) ?_
  refine g_aload_n (pc := 74) 0 dX3_answer_74 rfl rfl ?_
  refine g_getI (pc := 75) fl_X3_39 dX3_answer_75 g1 ?_
  refine g_bipush (pc := 78) (v := (16 : Int32)) dX3_answer_78 (by decide) ?_
  refine g_iload_n (pc := 80) 1 dX3_answer_80 rfl rfl ?_
  refine g_iload (pc := 81) 4 dX3_answer_81 rfl ?_
  rcases it_some hf with ⟨c2, hf⟩ | ⟨c2, hf⟩
  · refine g_ifeq_t (pc := 83) (tgt := 100) dX3_answer_83 (by decide) c2 ?_
    refine g_sub [0, 2, 3, 4] rfl ?_
    exact ok_X3_answer_L100 l X h a0 a2 a3 a4 (hR h a0 1) (5 : Int32) (hI h a0 0) (16 : Int32) a1 q hf
  · refine g_ifeq_f (pc := 83) (tgt := 100) dX3_answer_83 (by decide) c2 ?_
    refine g_aload_n (pc := 86) 0 dX3_answer_86 rfl rfl ?_
    refine g_getI (pc := 87) fl_X3_75 dX3_answer_87 g1 ?_
    rcases it_some hf with ⟨c3, hf⟩ | ⟨c3, hf⟩
    · refine g_ifne_t (pc := 90) (tgt := 100) dX3_answer_90 (by decide) c3 ?_
      refine g_sub [0, 2, 3, 4] rfl ?_
      exact ok_X3_answer_L100 l X h a0 a2 a3 a4 (hR h a0 1) (5 : Int32) (hI h a0 0) (16 : Int32) a1 q hf
    · refine g_ifne_f (pc := 90) (tgt := 100) dX3_answer_90 (by decide) (Decidable.of_not_not c3) ?_
      refine g_aload_n (pc := 93) 0 dX3_answer_93 rfl rfl ?_
      refine g_getR (pc := 94) fl_X3_36 dX3_answer_94 g1 ?_
      refine g_goto (pc := 97) (tgt := 101) dX3_answer_97 (by decide) ?_
      refine g_sub [0, 2, 3, 4] rfl ?_
      exact ok_X3_answer_L101 l X h a0 a2 a3 a4 (hR h a0 1) (5 : Int32) (hI h a0 0) (16 : Int32) a1 (hR h a0 10) q hf
def f_X3_answer_L22 (h : AH) (a0 : Nat) (a1 : Int32) (a2 : Int32) (a3 : Int32) (s0 : Int32) : Option (AH) :=
  if a3 < 0 then
    f_X3_answer_L69 h a0 a1 a2 a3 s0
  else
    gs h a0 3 <|
    gs h (hR h a0 6) 2 <|
    gs h (hR h (hR h a0 6) 1) 21 <|
    gb (ib a3 (hN h (hR h (hR h a0 6) 1))) <|
    if (hI h (hR h (hR h a0 6) 1) a3.toNatClampNeg) < (2 : Int32) then
      f_X3_answer_L69 h a0 a1 a2 a3 s0
    else
      gs h (hR h a0 1) 5 <|
      bd (f_X6_send h (hR h a0 1) (5 : Int32) (hI h a0 0) (16 : Int32) a1 (hR h (hR h a0 6) 3) (a3 * (4 : Int32))) fun q8 =>
      f_X3_answer_L105 q8 a0 a2 a3 s0
set_option maxRecDepth 100000 in
set_option maxHeartbeats 4000000 in
theorem ok_X3_answer_L22 (l : Launch) (X : Cx) (h : AH) (a0 : Nat) (a1 : Int32) (a2 : Int32) (a3 : Int32) (s0 : Int32) (q : AH) (hf : f_X3_answer_L22 h a0 a1 a2 a3 s0 = some q) : Go l X k_X3_answer 22 [(0, rf X a0), (1, .int a1), (2, .int a2), (3, .int a3)] [.int s0] h (rV q) := by
  unfold f_X3_answer_L22 at hf
  refine g_istore (pc := 22) (L' := [(4, .int s0), (0, rf X a0), (1, .int a1), (2, .int a2), (3, .int a3)]) dX3_answer_22 (by decide) rfl rfl ?_
  refine g_iload_n (pc := 24) 4 dX3_answer_24 rfl rfl ?_
  rcases it_some hf with ⟨c1, hf⟩ | ⟨c1, hf⟩
  · refine g_iflt_t (pc := 25) (tgt := 69) dX3_answer_25 (by decide) c1 ?_
    refine g_sub [1, 2, 3, 4, 0] rfl ?_
    exact ok_X3_answer_L69 l X h a0 a1 a2 a3 s0 q hf
  · refine g_iflt_f (pc := 25) (tgt := 69) dX3_answer_25 (by decide) c1 ?_
    refine g_aload_n (pc := 28) 1 dX3_answer_28 rfl rfl ?_
    obtain ⟨g2, hf⟩ := gs_some hf
    refine g_getR (pc := 29) fl_X3_25 dX3_answer_29 g2 ?_
    obtain ⟨g3, hf⟩ := gs_some hf
    refine g_getR (pc := 32) fl_X3_226 dX3_answer_32 g3 ?_
    refine g_iload_n (pc := 35) 4 dX3_answer_35 rfl rfl ?_
    obtain ⟨g4, hf⟩ := gs_some hf
    obtain ⟨b5, hf⟩ := gb_some hf
    refine g_iald (pc := 36) g4 b5 dX3_answer_36 ?_
    refine g_iconst (pc := 37) (v := (2 : Int32)) dX3_answer_37 (by decide) ?_
    rcases it_some hf with ⟨c6, hf⟩ | ⟨c6, hf⟩
    · refine g_iclt_t (pc := 38) (tgt := 69) dX3_answer_38 (by decide) c6 ?_
      refine g_sub [1, 2, 3, 4, 0] rfl ?_
      exact ok_X3_answer_L69 l X h a0 a1 a2 a3 s0 q hf
    · refine g_iclt_f (pc := 38) (tgt := 69) dX3_answer_38 (by decide) c6 ?_
      refine g_aload_n (pc := 41) 1 dX3_answer_41 rfl rfl ?_
      refine g_getR (pc := 42) fl_X3_43 dX3_answer_42 g2 ?_
      refine g_iconst (pc := 45) (v := (5 : Int32)) dX3_answer_45 (by decide) ?_
      refine g_aload_n (pc := 46) 1 dX3_answer_46 rfl rfl ?_
      refine g_getI (pc := 47) fl_X3_39 dX3_answer_47 g2 ?_
      refine g_bipush (pc := 50) (v := (16 : Int32)) dX3_answer_50 (by decide) ?_
      refine g_iload_n (pc := 52) 2 dX3_answer_52 rfl rfl ?_
      refine g_aload_n (pc := 53) 1 dX3_answer_53 rfl rfl ?_
      refine g_getR (pc := 54) fl_X3_25 dX3_answer_54 g2 ?_
      refine g_getR (pc := 57) fl_X3_199 dX3_answer_57 g3 ?_
      refine g_iload_n (pc := 60) 4 dX3_answer_60 rfl rfl ?_
      refine g_iconst (pc := 61) (v := (4 : Int32)) dX3_answer_61 (by decide) ?_
      refine g_imul (pc := 62) dX3_answer_62 ?_
      obtain ⟨g7, hf⟩ := gs_some hf
      obtain ⟨q8, hcq8, hf⟩ := bd_some hf
      refine g_cVV (pc := 63) (k2 := k_X6_send) (av := [.int (5 : Int32), .int (hI h a0 0), .int (16 : Int32), .int a1, rf X (hR h (hR h a0 6) 3), .int (a3 * (4 : Int32))]) (q := q8) rfl dX3_answer_63 ck_X6_send m_655 m_582 m_583 (ci := 4) rfl (by decide) g7 (by decide) (by decide) rfl (by simp [rf_cat, rq_cat, ca_i, ca_l, ca_r]) (ct_X6_send l X hcq8) ?_
      refine g_goto (pc := 66) (tgt := 105) dX3_answer_66 (by decide) ?_
      refine g_sub [1, 3, 4, 0] rfl ?_
      exact ok_X3_answer_L105 l X q8 a0 a2 a3 s0 q hf
def f_X3_answer (h : AH) (a0 : Nat) (a1 : Int32) (a2 : Int32) : Option (AH) :=
  gs h a0 3 <|
  gs h (hR h a0 6) 2 <|
  bd (f_X2_find h (hR h a0 6) a1) fun v3 =>
  if ¬ (hI h a0 8) = a1 then
    f_X3_answer_L22 h a0 a1 a2 v3 (0 : Int32)
  else
    f_X3_answer_L22 h a0 a1 a2 v3 (1 : Int32)
set_option maxRecDepth 100000 in
set_option maxHeartbeats 4000000 in
theorem ok_X3_answer (l : Launch) (X : Cx) {h : AH} {a0 : Nat} {a1 : Int32} {a2 : Int32} {q : AH} (hf : f_X3_answer h a0 a1 a2 = some q) : Go l X k_X3_answer 0 [(0, rf X a0), (1, .int a1), (2, .int a2)] [] h (rV q) := by
  unfold f_X3_answer at hf
  refine g_aload_n (pc := 0) 0 dX3_answer_0 rfl rfl ?_
  obtain ⟨g1, hf⟩ := gs_some hf
  refine g_getR (pc := 1) fl_X3_25 dX3_answer_1 g1 ?_
  refine g_iload_n (pc := 4) 1 dX3_answer_4 rfl rfl ?_
  obtain ⟨g2, hf⟩ := gs_some hf
  obtain ⟨v3, hcv3, hf⟩ := bd_some hf
  refine g_cVI (pc := 5) (k2 := k_X2_find) (av := [.int a1]) (q := (v3, h)) rfl dX3_answer_5 ck_X2_find m_651 m_652 m_653 (ci := 1) rfl (by decide) g2 (by decide) (by decide) rfl (by simp [rf_cat, rq_cat, ca_i, ca_l, ca_r]) (ct_X2_find l X hcv3) ?_
  refine g_istore_n (pc := 8) (L' := [(3, .int v3), (0, rf X a0), (1, .int a1), (2, .int a2)]) dX3_answer_8 rfl (by decide) rfl rfl ?_
  refine g_aload_n (pc := 9) 1 dX3_answer_9 rfl rfl ?_
  refine g_getI (pc := 10) fl_X3_72 dX3_answer_10 g1 ?_
  refine g_iload_n (pc := 13) 2 dX3_answer_13 rfl rfl ?_
  rcases it_some hf with ⟨c4, hf⟩ | ⟨c4, hf⟩
  · refine g_icne_t (pc := 14) (tgt := 21) dX3_answer_14 (by decide) c4 ?_
    refine g_iconst (pc := 21) (v := (0 : Int32)) dX3_answer_21 (by decide) ?_
    refine g_sub [1, 2, 3, 0] rfl ?_
    exact ok_X3_answer_L22 l X h a0 a1 a2 v3 (0 : Int32) q hf
  · refine g_icne_f (pc := 14) (tgt := 21) dX3_answer_14 (by decide) (Decidable.of_not_not c4) ?_
    refine g_iconst (pc := 17) (v := (1 : Int32)) dX3_answer_17 (by decide) ?_
    refine g_goto (pc := 18) (tgt := 22) dX3_answer_18 (by decide) ?_
    refine g_sub [1, 2, 3, 0] rfl ?_
    exact ok_X3_answer_L22 l X h a0 a1 a2 v3 (1 : Int32) q hf
theorem ct_X3_answer (l : Launch) (X : Cx) {h : AH} {a0 : Nat} {a1 : Int32} {a2 : Int32} {q : AH} (hf : f_X3_answer h a0 a1 a2 = some q) : Ct l X k_X3_answer [rf X a0, .int a1, .int a2] h (rV q) := ct_of ck_X3_answer (by simp [lg_sl, rf_cat, rq_cat, ca_i, ca_l, ca_r]) (by simp [lv_args, rf_cat, rq_cat, ca_i, ca_l, ca_r]) (ok_X3_answer l X hf)
def f_X3_receive (h : AH) (a0 : Nat) (a1 : Nat) : Option (AH) :=
  gs h a1 21 <|
  gb (ib (3 : Int32) (hN h a1)) <|
  lt ((hI h a1 (3 : Int32).toNatClampNeg)) fun x3 =>
  gb (ib (0 : Int32) (hN h a1)) <|
  if (hI h a1 (0 : Int32).toNatClampNeg) = (3 : Int32) then
    gs h a0 3 <|
    bd (f_X3_answer h a0 x3 (0 : Int32)) fun q7 =>
    some q7
  else
    if (hI h a1 (0 : Int32).toNatClampNeg) = (4 : Int32) then
      gs h a0 3 <|
      bd (f_X3_answer h a0 x3 (1 : Int32)) fun q10 =>
      some q10
    else
      if (hI h a1 (0 : Int32).toNatClampNeg) = (9 : Int32) then
        gs h a0 3 <|
        lt (sI h a0 8 (-1 : Int32)) fun h13 =>
        some h13
      else
        gs h a0 3 <|
        gb (ib (0 : Int32) (hN h a1)) <|
        gs h (hR h a0 6) 2 <|
        bd (f_X2_put h (hR h a0 6) x3 (((hI h a1 (0 : Int32).toNatClampNeg) - (6 : Int32)) + (1 : Int32)) a1 (5 : Int32)) fun q17 =>
        gs q17 a0 3 <|
        lt (sI q17 a0 11 (-1 : Int32)) fun h19 =>
        gs h19 (hR h19 a0 1) 5 <|
        bd (f_X6_send h19 (hR h19 a0 1) (10 : Int32) (hI h19 a0 0) (16 : Int32) x3 0 (0 : Int32)) fun q22 =>
        some q22
set_option maxRecDepth 100000 in
set_option maxHeartbeats 4000000 in
theorem ok_X3_receive (l : Launch) (X : Cx) {h : AH} {a0 : Nat} {a1 : Nat} {q : AH} (hf : f_X3_receive h a0 a1 = some q) : Go l X k_X3_receive 0 [(0, rf X a0), (1, rf X a1)] [] h (rV q) := by
  unfold f_X3_receive at hf
  refine g_aload_n (pc := 0) 1 dX3_receive_0 rfl rfl ?_
  refine g_iconst (pc := 1) (v := (3 : Int32)) dX3_receive_1 (by decide) ?_
  obtain ⟨g1, hf⟩ := gs_some hf
  obtain ⟨b2, hf⟩ := gb_some hf
  refine g_iald (pc := 2) g1 b2 dX3_receive_2 ?_
  obtain ⟨x3, ex3, hf⟩ := lt_some hf
  refine g_istore_n (pc := 3) (L' := [(2, .int x3), (0, rf X a0), (1, rf X a1)]) dX3_receive_3 rfl (by decide) ex3 (by simp [rf_cat, rq_cat]) ?_
  refine g_aload_n (pc := 4) 2 dX3_receive_4 rfl rfl ?_
  refine g_iconst (pc := 5) (v := (0 : Int32)) dX3_receive_5 (by decide) ?_
  obtain ⟨b4, hf⟩ := gb_some hf
  refine g_iald (pc := 6) g1 b4 dX3_receive_6 ?_
  rcases it_some hf with ⟨c5, hf⟩ | ⟨c5, hf⟩
  · refine g_lsw (pc := 7) (tgt := 40) (3 : Int32) dX3_receive_7 (by decide +kernel) c5 (off := 33) (by decide +kernel) (by decide) ?_
    refine g_aload_n (pc := 40) 1 dX3_receive_40 rfl rfl ?_
    refine g_iload_n (pc := 41) 0 dX3_receive_41 rfl rfl ?_
    refine g_iconst (pc := 42) (v := (0 : Int32)) dX3_receive_42 (by decide) ?_
    obtain ⟨g6, hf⟩ := gs_some hf
    obtain ⟨q7, hcq7, hf⟩ := bd_some hf
    refine g_cVV (pc := 43) (k2 := k_X3_answer) (av := [.int x3, .int (0 : Int32)]) (q := q7) rfl dX3_receive_43 ck_X3_answer m_647 m_649 m_17 (ci := 2) rfl (by decide) g6 (by decide) (by decide) rfl (by simp [rf_cat, rq_cat, ca_i, ca_l, ca_r]) (ct_X3_answer l X hcq7) ?_
    refine g_goto (pc := 46) (tgt := 107) dX3_receive_46 (by decide) ?_
    obtain rfl := Option.some.inj hf
    exact g_vret (pc := 107) rfl dX3_receive_107
  ·
    rcases it_some hf with ⟨c8, hf⟩ | ⟨c8, hf⟩
    · refine g_lsw (pc := 7) (tgt := 49) (4 : Int32) dX3_receive_7 (by decide +kernel) c8 (off := 42) (by decide +kernel) (by decide) ?_
      refine g_aload_n (pc := 49) 1 dX3_receive_49 rfl rfl ?_
      refine g_iload_n (pc := 50) 0 dX3_receive_50 rfl rfl ?_
      refine g_iconst (pc := 51) (v := (1 : Int32)) dX3_receive_51 (by decide) ?_
      obtain ⟨g9, hf⟩ := gs_some hf
      obtain ⟨q10, hcq10, hf⟩ := bd_some hf
      refine g_cVV (pc := 52) (k2 := k_X3_answer) (av := [.int x3, .int (1 : Int32)]) (q := q10) rfl dX3_receive_52 ck_X3_answer m_647 m_649 m_17 (ci := 2) rfl (by decide) g9 (by decide) (by decide) rfl (by simp [rf_cat, rq_cat, ca_i, ca_l, ca_r]) (ct_X3_answer l X hcq10) ?_
      refine g_goto (pc := 55) (tgt := 107) dX3_receive_55 (by decide) ?_
      obtain rfl := Option.some.inj hf
      exact g_vret (pc := 107) rfl dX3_receive_107
    ·
      rcases it_some hf with ⟨c11, hf⟩ | ⟨c11, hf⟩
      · refine g_lsw (pc := 7) (tgt := 58) (9 : Int32) dX3_receive_7 (by decide +kernel) c11 (off := 51) (by decide +kernel) (by decide) ?_
        refine g_aload_n (pc := 58) 1 dX3_receive_58 rfl rfl ?_
        refine g_iconst (pc := 59) (v := (-1 : Int32)) dX3_receive_59 (by decide) ?_
        obtain ⟨g12, hf⟩ := gs_some hf
        obtain ⟨h13, eh13, hf⟩ := lt_some hf
        refine g_putI (pc := 60) fl_X3_72 dX3_receive_60 g12 eh13 ?_
        refine g_goto (pc := 63) (tgt := 107) dX3_receive_63 (by decide) ?_
        obtain rfl := Option.some.inj hf
        exact g_vret (pc := 107) rfl dX3_receive_107
      ·
        refine g_lswD (pc := 7) (tgt := 66) [(3 : Int32), (4 : Int32), (9 : Int32)] dX3_receive_7 (by decide +kernel) (by decide +kernel) (cons_ne c5 (cons_ne c8 (cons_ne c11 nil_ne))) (by decide) ?_
        refine g_aload_n (pc := 66) 1 dX3_receive_66 rfl rfl ?_
        obtain ⟨g14, hf⟩ := gs_some hf
        refine g_getR (pc := 67) fl_X3_25 dX3_receive_67 g14 ?_
        refine g_iload_n (pc := 70) 0 dX3_receive_70 rfl rfl ?_
        refine g_aload_n (pc := 71) 2 dX3_receive_71 rfl rfl ?_
        refine g_iconst (pc := 72) (v := (0 : Int32)) dX3_receive_72 (by decide) ?_
        obtain ⟨b15, hf⟩ := gb_some hf
        refine g_iald (pc := 73) g1 b15 dX3_receive_73 ?_
        refine g_bipush (pc := 74) (v := (6 : Int32)) dX3_receive_74 (by decide) ?_
        refine g_isub (pc := 76) dX3_receive_76 ?_
        refine g_iconst (pc := 77) (v := (1 : Int32)) dX3_receive_77 (by decide) ?_
        refine g_iadd (pc := 78) dX3_receive_78 ?_
        refine g_aload_n (pc := 79) 2 dX3_receive_79 rfl rfl ?_
        refine g_iconst (pc := 80) (v := (5 : Int32)) dX3_receive_80 (by decide) ?_
        obtain ⟨g16, hf⟩ := gs_some hf
        obtain ⟨q17, hcq17, hf⟩ := bd_some hf
        refine g_cVV (pc := 81) (k2 := k_X2_put) (av := [.int x3, .int (((hI h a1 (0 : Int32).toNatClampNeg) - (6 : Int32)) + (1 : Int32)), rf X a1, .int (5 : Int32)]) (q := q17) rfl dX3_receive_81 ck_X2_put m_657 m_658 m_659 (ci := 1) rfl (by decide) g16 (by decide) (by decide) rfl (by simp [rf_cat, rq_cat, ca_i, ca_l, ca_r]) (ct_X2_put l X hcq17) ?_
        refine g_aload_n (pc := 84) 1 dX3_receive_84 rfl rfl ?_
        refine g_iconst (pc := 85) (v := (-1 : Int32)) dX3_receive_85 (by decide) ?_
        obtain ⟨g18, hf⟩ := gs_some hf
        obtain ⟨h19, eh19, hf⟩ := lt_some hf
        refine g_putI (pc := 86) fl_X3_79 dX3_receive_86 g18 eh19 ?_
        refine g_aload_n (pc := 89) 1 dX3_receive_89 rfl rfl ?_
        have g20 : hS h19 a0 = 3 := (hS_tI eh19 g18)
        refine g_getR (pc := 90) fl_X3_43 dX3_receive_90 g20 ?_
        refine g_bipush (pc := 93) (v := (10 : Int32)) dX3_receive_93 (by decide) ?_
        refine g_aload_n (pc := 95) 1 dX3_receive_95 rfl rfl ?_
        refine g_getI (pc := 96) fl_X3_39 dX3_receive_96 g20 ?_
        refine g_bipush (pc := 99) (v := (16 : Int32)) dX3_receive_99 (by decide) ?_
        refine g_iload_n (pc := 101) 0 dX3_receive_101 rfl rfl ?_
        refine g_null (pc := 102) dX3_receive_102 ?_
        refine g_iconst (pc := 103) (v := (0 : Int32)) dX3_receive_103 (by decide) ?_
        obtain ⟨g21, hf⟩ := gs_some hf
        obtain ⟨q22, hcq22, hf⟩ := bd_some hf
        refine g_cVV (pc := 104) (k2 := k_X6_send) (av := [.int (10 : Int32), .int (hI h19 a0 0), .int (16 : Int32), .int x3, rf X 0, .int (0 : Int32)]) (q := q22) rfl dX3_receive_104 ck_X6_send m_655 m_582 m_583 (ci := 4) rfl (by decide) g21 (by decide) (by decide) rfl (by simp [rf_cat, rq_cat, ca_i, ca_l, ca_r]) (ct_X6_send l X hcq22) ?_
        obtain rfl := Option.some.inj hf
        exact g_vret (pc := 107) rfl dX3_receive_107
theorem ct_X3_receive (l : Launch) (X : Cx) {h : AH} {a0 : Nat} {a1 : Nat} {q : AH} (hf : f_X3_receive h a0 a1 = some q) : Ct l X k_X3_receive [rf X a0, rf X a1] h (rV q) := ct_of ck_X3_receive (by simp [lg_sl, rf_cat, rq_cat, ca_i, ca_l, ca_r]) (by simp [lv_args, rf_cat, rq_cat, ca_i, ca_l, ca_r]) (ok_X3_receive l X hf)
def f_X4_begin (h : AH) (a0 : Nat) (a1 : Int32) (a2 : Int32) : Option (AH) :=
  gs h a0 4 <|
  lt (sI h a0 13 a1) fun h2 =>
  lt (sI h2 a0 14 a2) fun h4 =>
  bd (f_J7_fill_53178 h4 (hR h4 a0 1) (0 : Int32)) fun q6 =>
  gs q6 a0 4 <|
  bd (f_J7_fill_53178 q6 (hR q6 a0 2) (-1 : Int32)) fun q8 =>
  gs q8 a0 4 <|
  bd (f_J7_fill_53178 q8 (hR q8 a0 5) (-1 : Int32)) fun q10 =>
  gs q10 a0 4 <|
  lt (sI q10 a0 12 (0 : Int32)) fun h12 =>
  lt (sI h12 a0 15 (0 : Int32)) fun h14 =>
  lt (sI h14 a0 16 (0 : Int32)) fun h16 =>
  some h16
set_option maxRecDepth 100000 in
set_option maxHeartbeats 4000000 in
theorem ok_X4_begin (l : Launch) (X : Cx) {h : AH} {a0 : Nat} {a1 : Int32} {a2 : Int32} {q : AH} (hf : f_X4_begin h a0 a1 a2 = some q) : Go l X k_X4_begin 0 [(0, rf X a0), (1, .int a1), (2, .int a2)] [] h (rV q) := by
  unfold f_X4_begin at hf
  refine g_aload_n (pc := 0) 0 dX4_begin_0 rfl rfl ?_
  refine g_iload_n (pc := 1) 1 dX4_begin_1 rfl rfl ?_
  obtain ⟨g1, hf⟩ := gs_some hf
  obtain ⟨h2, eh2, hf⟩ := lt_some hf
  refine g_putI (pc := 2) fl_X4_56 dX4_begin_2 g1 eh2 ?_
  refine g_aload_n (pc := 5) 0 dX4_begin_5 rfl rfl ?_
  refine g_iload_n (pc := 6) 2 dX4_begin_6 rfl rfl ?_
  have g3 : hS h2 a0 = 4 := (hS_tI eh2 g1)
  obtain ⟨h4, eh4, hf⟩ := lt_some hf
  refine g_putI (pc := 7) fl_X4_60 dX4_begin_7 g3 eh4 ?_
  refine g_aload_n (pc := 10) 0 dX4_begin_10 rfl rfl ?_
  have g5 : hS h4 a0 = 4 := (hS_tI eh4 g3)
  refine g_getR (pc := 11) fl_X4_9 dX4_begin_11 g5 ?_
  refine g_iconst (pc := 14) (v := (0 : Int32)) dX4_begin_14 (by decide) ?_
  obtain ⟨q6, hcq6, hf⟩ := bd_some hf
  refine g_cSV (pc := 15) (k2 := k_J7_fill_53178) (av := [rf X (hR h4 a0 1), .int (0 : Int32)]) (q := q6) rfl dX4_begin_15 ck_J7_fill_53178 m_286 m_287 (by decide) (by decide) rfl (by simp [rf_cat, rq_cat, ca_i, ca_l, ca_r]) (ct_J7_fill_53178 l X hcq6) ?_
  refine g_aload_n (pc := 18) 0 dX4_begin_18 rfl rfl ?_
  obtain ⟨g7, hf⟩ := gs_some hf
  refine g_getR (pc := 19) fl_X4_15 dX4_begin_19 g7 ?_
  refine g_iconst (pc := 22) (v := (-1 : Int32)) dX4_begin_22 (by decide) ?_
  obtain ⟨q8, hcq8, hf⟩ := bd_some hf
  refine g_cSV (pc := 23) (k2 := k_J7_fill_53178) (av := [rf X (hR q6 a0 2), .int (-1 : Int32)]) (q := q8) rfl dX4_begin_23 ck_J7_fill_53178 m_286 m_287 (by decide) (by decide) rfl (by simp [rf_cat, rq_cat, ca_i, ca_l, ca_r]) (ct_J7_fill_53178 l X hcq8) ?_
  refine g_aload_n (pc := 26) 0 dX4_begin_26 rfl rfl ?_
  obtain ⟨g9, hf⟩ := gs_some hf
  refine g_getR (pc := 27) fl_X4_24 dX4_begin_27 g9 ?_
  refine g_iconst (pc := 30) (v := (-1 : Int32)) dX4_begin_30 (by decide) ?_
  obtain ⟨q10, hcq10, hf⟩ := bd_some hf
  refine g_cSV (pc := 31) (k2 := k_J7_fill_53178) (av := [rf X (hR q8 a0 5), .int (-1 : Int32)]) (q := q10) rfl dX4_begin_31 ck_J7_fill_53178 m_286 m_287 (by decide) (by decide) rfl (by simp [rf_cat, rq_cat, ca_i, ca_l, ca_r]) (ct_J7_fill_53178 l X hcq10) ?_
  refine g_aload_n (pc := 34) 0 dX4_begin_34 rfl rfl ?_
  refine g_iconst (pc := 35) (v := (0 : Int32)) dX4_begin_35 (by decide) ?_
  obtain ⟨g11, hf⟩ := gs_some hf
  obtain ⟨h12, eh12, hf⟩ := lt_some hf
  refine g_putI (pc := 36) fl_X4_69 dX4_begin_36 g11 eh12 ?_
  refine g_aload_n (pc := 39) 0 dX4_begin_39 rfl rfl ?_
  refine g_iconst (pc := 40) (v := (0 : Int32)) dX4_begin_40 (by decide) ?_
  have g13 : hS h12 a0 = 4 := (hS_tI eh12 g11)
  obtain ⟨h14, eh14, hf⟩ := lt_some hf
  refine g_putI (pc := 41) fl_X4_72 dX4_begin_41 g13 eh14 ?_
  refine g_aload_n (pc := 44) 0 dX4_begin_44 rfl rfl ?_
  refine g_iconst (pc := 45) (v := (0 : Int32)) dX4_begin_45 (by decide) ?_
  have g15 : hS h14 a0 = 4 := (hS_tI eh14 g13)
  obtain ⟨h16, eh16, hf⟩ := lt_some hf
  refine g_putI (pc := 46) fl_X4_75 dX4_begin_46 g15 eh16 ?_
  obtain rfl := Option.some.inj hf
  exact g_vret (pc := 49) rfl dX4_begin_49
theorem ct_X4_begin (l : Launch) (X : Cx) {h : AH} {a0 : Nat} {a1 : Int32} {a2 : Int32} {q : AH} (hf : f_X4_begin h a0 a1 a2 = some q) : Ct l X k_X4_begin [rf X a0, .int a1, .int a2] h (rV q) := ct_of ck_X4_begin (by simp [lg_sl, rf_cat, rq_cat, ca_i, ca_l, ca_r]) (by simp [lv_args, rf_cat, rq_cat, ca_i, ca_l, ca_r]) (ok_X4_begin l X hf)
def f_X4_init (h : AH) (a0 : Nat) (a1 : Nat) : Option (AH) :=
  gs h a0 4 <|
  lt (hNew h 21 (2048 : Int32).toNatClampNeg (2048 : Int32).toNatClampNeg) fun h2 =>
  gs h2 a0 4 <|
  lt (sR h2 a0 1 (hZ h + 1)) fun h4 =>
  lt (hNew h4 21 (512 : Int32).toNatClampNeg (512 : Int32).toNatClampNeg) fun h5 =>
  gs h5 a0 4 <|
  lt (sR h5 a0 2 (hZ h4 + 1)) fun h7 =>
  lt (hNew h7 21 (512 : Int32).toNatClampNeg (512 : Int32).toNatClampNeg) fun h8 =>
  gs h8 a0 4 <|
  lt (sR h8 a0 3 (hZ h7 + 1)) fun h10 =>
  lt (hNew h10 21 (512 : Int32).toNatClampNeg (512 : Int32).toNatClampNeg) fun h11 =>
  gs h11 a0 4 <|
  lt (sR h11 a0 4 (hZ h10 + 1)) fun h13 =>
  lt (hNew h13 21 (512 : Int32).toNatClampNeg (512 : Int32).toNatClampNeg) fun h14 =>
  gs h14 a0 4 <|
  lt (sR h14 a0 5 (hZ h13 + 1)) fun h16 =>
  lt (hNew h16 21 (512 : Int32).toNatClampNeg (512 : Int32).toNatClampNeg) fun h17 =>
  gs h17 a0 4 <|
  lt (sR h17 a0 6 (hZ h16 + 1)) fun h19 =>
  lt (hNew h19 21 (512 : Int32).toNatClampNeg (512 : Int32).toNatClampNeg) fun h20 =>
  gs h20 a0 4 <|
  lt (sR h20 a0 7 (hZ h19 + 1)) fun h22 =>
  lt (hNew h22 24 (512 : Int32).toNatClampNeg (512 : Int32).toNatClampNeg) fun h23 =>
  gs h23 a0 4 <|
  lt (sR h23 a0 8 (hZ h22 + 1)) fun h25 =>
  lt (hNew h25 21 (512 : Int32).toNatClampNeg (512 : Int32).toNatClampNeg) fun h26 =>
  gs h26 a0 4 <|
  lt (sR h26 a0 9 (hZ h25 + 1)) fun h28 =>
  lt (hNew h28 21 (2048 : Int32).toNatClampNeg (2048 : Int32).toNatClampNeg) fun h29 =>
  gs h29 a0 4 <|
  lt (sR h29 a0 10 (hZ h28 + 1)) fun h31 =>
  lt (hNew h31 21 (288 : Int32).toNatClampNeg (288 : Int32).toNatClampNeg) fun h32 =>
  gs h32 a0 4 <|
  lt (sR h32 a0 11 (hZ h31 + 1)) fun h34 =>
  lt (sR h34 a0 0 a1) fun h36 =>
  bd (f_X4_begin h36 a0 (1 : Int32) (1 : Int32)) fun q38 =>
  some q38
set_option maxRecDepth 100000 in
set_option maxHeartbeats 4000000 in
theorem ok_X4_init (l : Launch) (X : Cx) {h : AH} {a0 : Nat} {a1 : Nat} {q : AH} (hf : f_X4_init h a0 a1 = some q) : Go l X k_X4_init 0 [(0, rf X a0), (1, rf X a1)] [] h (rV q) := by
  unfold f_X4_init at hf
  refine g_aload_n (pc := 0) 0 dX4_init_0 rfl rfl ?_
  obtain ⟨g1, hf⟩ := gs_some hf
  refine g_objInit (pc := 1) m_281 m_154 m_155 g1 (by decide) (by decide) (by decide) (by simp [rf_cat, rq_cat, ca_i, ca_l, ca_r]) dX4_init_1 ?_
  refine g_aload_n (pc := 4) 0 dX4_init_4 rfl rfl ?_
  refine g_sipush (pc := 5) (v := (2048 : Int32)) dX4_init_5 (by decide) ?_
  obtain ⟨h2, eh2, hf⟩ := lt_some hf
  refine g_newI (pc := 8) m_252 dX4_init_8 (by decide) eh2 ?_
  obtain ⟨g3, hf⟩ := gs_some hf
  obtain ⟨h4, eh4, hf⟩ := lt_some hf
  refine g_putRF (pc := 10) fl_X4_9 rfl (cl_own rfl) (Or.inr ⟨_, rfl⟩) dX4_init_10 g3 eh4 ?_
  refine g_aload_n (pc := 13) 0 dX4_init_13 rfl rfl ?_
  refine g_sipush (pc := 14) (v := (512 : Int32)) dX4_init_14 (by decide) ?_
  obtain ⟨h5, eh5, hf⟩ := lt_some hf
  refine g_newI (pc := 17) m_252 dX4_init_17 (by decide) eh5 ?_
  obtain ⟨g6, hf⟩ := gs_some hf
  obtain ⟨h7, eh7, hf⟩ := lt_some hf
  refine g_putRF (pc := 19) fl_X4_15 rfl (cl_own rfl) (Or.inr ⟨_, rfl⟩) dX4_init_19 g6 eh7 ?_
  refine g_aload_n (pc := 22) 0 dX4_init_22 rfl rfl ?_
  refine g_sipush (pc := 23) (v := (512 : Int32)) dX4_init_23 (by decide) ?_
  obtain ⟨h8, eh8, hf⟩ := lt_some hf
  refine g_newI (pc := 26) m_252 dX4_init_26 (by decide) eh8 ?_
  obtain ⟨g9, hf⟩ := gs_some hf
  obtain ⟨h10, eh10, hf⟩ := lt_some hf
  refine g_putRF (pc := 28) fl_X4_18 rfl (cl_own rfl) (Or.inr ⟨_, rfl⟩) dX4_init_28 g9 eh10 ?_
  refine g_aload_n (pc := 31) 0 dX4_init_31 rfl rfl ?_
  refine g_sipush (pc := 32) (v := (512 : Int32)) dX4_init_32 (by decide) ?_
  obtain ⟨h11, eh11, hf⟩ := lt_some hf
  refine g_newI (pc := 35) m_252 dX4_init_35 (by decide) eh11 ?_
  obtain ⟨g12, hf⟩ := gs_some hf
  obtain ⟨h13, eh13, hf⟩ := lt_some hf
  refine g_putRF (pc := 37) fl_X4_21 rfl (cl_own rfl) (Or.inr ⟨_, rfl⟩) dX4_init_37 g12 eh13 ?_
  refine g_aload_n (pc := 40) 0 dX4_init_40 rfl rfl ?_
  refine g_sipush (pc := 41) (v := (512 : Int32)) dX4_init_41 (by decide) ?_
  obtain ⟨h14, eh14, hf⟩ := lt_some hf
  refine g_newI (pc := 44) m_252 dX4_init_44 (by decide) eh14 ?_
  obtain ⟨g15, hf⟩ := gs_some hf
  obtain ⟨h16, eh16, hf⟩ := lt_some hf
  refine g_putRF (pc := 46) fl_X4_24 rfl (cl_own rfl) (Or.inr ⟨_, rfl⟩) dX4_init_46 g15 eh16 ?_
  refine g_aload_n (pc := 49) 0 dX4_init_49 rfl rfl ?_
  refine g_sipush (pc := 50) (v := (512 : Int32)) dX4_init_50 (by decide) ?_
  obtain ⟨h17, eh17, hf⟩ := lt_some hf
  refine g_newI (pc := 53) m_252 dX4_init_53 (by decide) eh17 ?_
  obtain ⟨g18, hf⟩ := gs_some hf
  obtain ⟨h19, eh19, hf⟩ := lt_some hf
  refine g_putRF (pc := 55) fl_X4_27 rfl (cl_own rfl) (Or.inr ⟨_, rfl⟩) dX4_init_55 g18 eh19 ?_
  refine g_aload_n (pc := 58) 0 dX4_init_58 rfl rfl ?_
  refine g_sipush (pc := 59) (v := (512 : Int32)) dX4_init_59 (by decide) ?_
  obtain ⟨h20, eh20, hf⟩ := lt_some hf
  refine g_newI (pc := 62) m_252 dX4_init_62 (by decide) eh20 ?_
  obtain ⟨g21, hf⟩ := gs_some hf
  obtain ⟨h22, eh22, hf⟩ := lt_some hf
  refine g_putRF (pc := 64) fl_X4_30 rfl (cl_own rfl) (Or.inr ⟨_, rfl⟩) dX4_init_64 g21 eh22 ?_
  refine g_aload_n (pc := 67) 0 dX4_init_67 rfl rfl ?_
  refine g_sipush (pc := 68) (v := (512 : Int32)) dX4_init_68 (by decide) ?_
  obtain ⟨h23, eh23, hf⟩ := lt_some hf
  refine g_newZ (pc := 71) m_346 dX4_init_71 (by decide) eh23 ?_
  obtain ⟨g24, hf⟩ := gs_some hf
  obtain ⟨h25, eh25, hf⟩ := lt_some hf
  refine g_putRF (pc := 73) fl_X4_33 rfl (cl_own rfl) (Or.inr ⟨_, rfl⟩) dX4_init_73 g24 eh25 ?_
  refine g_aload_n (pc := 76) 0 dX4_init_76 rfl rfl ?_
  refine g_sipush (pc := 77) (v := (512 : Int32)) dX4_init_77 (by decide) ?_
  obtain ⟨h26, eh26, hf⟩ := lt_some hf
  refine g_newI (pc := 80) m_252 dX4_init_80 (by decide) eh26 ?_
  obtain ⟨g27, hf⟩ := gs_some hf
  obtain ⟨h28, eh28, hf⟩ := lt_some hf
  refine g_putRF (pc := 82) fl_X4_37 rfl (cl_own rfl) (Or.inr ⟨_, rfl⟩) dX4_init_82 g27 eh28 ?_
  refine g_aload_n (pc := 85) 0 dX4_init_85 rfl rfl ?_
  refine g_sipush (pc := 86) (v := (2048 : Int32)) dX4_init_86 (by decide) ?_
  obtain ⟨h29, eh29, hf⟩ := lt_some hf
  refine g_newI (pc := 89) m_252 dX4_init_89 (by decide) eh29 ?_
  obtain ⟨g30, hf⟩ := gs_some hf
  obtain ⟨h31, eh31, hf⟩ := lt_some hf
  refine g_putRF (pc := 91) fl_X4_40 rfl (cl_own rfl) (Or.inr ⟨_, rfl⟩) dX4_init_91 g30 eh31 ?_
  refine g_aload_n (pc := 94) 0 dX4_init_94 rfl rfl ?_
  refine g_sipush (pc := 95) (v := (288 : Int32)) dX4_init_95 (by decide) ?_
  obtain ⟨h32, eh32, hf⟩ := lt_some hf
  refine g_newI (pc := 98) m_252 dX4_init_98 (by decide) eh32 ?_
  obtain ⟨g33, hf⟩ := gs_some hf
  obtain ⟨h34, eh34, hf⟩ := lt_some hf
  refine g_putRF (pc := 100) fl_X4_45 rfl (cl_own rfl) (Or.inr ⟨_, rfl⟩) dX4_init_100 g33 eh34 ?_
  refine g_aload_n (pc := 103) 0 dX4_init_103 rfl rfl ?_
  refine g_aload_n (pc := 104) 1 dX4_init_104 rfl rfl ?_
  have g35 : hS h34 a0 = 4 := (hS_tR eh34 g33)
  obtain ⟨h36, eh36, hf⟩ := lt_some hf
  refine g_putRF (pc := 105) fl_X4_48 rfl (cl_own rfl) (Or.inl ⟨_, rfl⟩) dX4_init_105 g35 eh36 ?_
  refine g_aload_n (pc := 108) 0 dX4_init_108 rfl rfl ?_
  refine g_iconst (pc := 109) (v := (1 : Int32)) dX4_init_109 (by decide) ?_
  refine g_iconst (pc := 110) (v := (1 : Int32)) dX4_init_110 (by decide) ?_
  have g37 : hS h36 a0 = 4 := (hS_tR eh36 g35)
  obtain ⟨q38, hcq38, hf⟩ := bd_some hf
  refine g_cVV (pc := 111) (k2 := k_X4_begin) (av := [.int (1 : Int32), .int (1 : Int32)]) (q := q38) rfl dX4_init_111 ck_X4_begin m_282 m_284 m_0 (ci := 3) rfl (by decide) g37 (by decide) (by decide) rfl (by simp [rf_cat, rq_cat, ca_i, ca_l, ca_r]) (ct_X4_begin l X hcq38) ?_
  obtain rfl := Option.some.inj hf
  exact g_vret (pc := 114) rfl dX4_init_114
theorem ct_X4_init (l : Launch) (X : Cx) {h : AH} {a0 : Nat} {a1 : Nat} {q : AH} (hf : f_X4_init h a0 a1 = some q) : Ct l X k_X4_init [rf X a0, rf X a1] h (rV q) := ct_of ck_X4_init (by simp [lg_sl, rf_cat, rq_cat, ca_i, ca_l, ca_r]) (by simp [lv_args, rf_cat, rq_cat, ca_i, ca_l, ca_r]) (ok_X4_init l X hf)
def f_X4_find_L16 (h : AH) : Nat → Nat → Int32 → Int32 → Int32 → Option (Int32)
  | 0, _, _, _, _ => none
  | n + 1, a0, a1, a2, a3 =>
    gs h a0 4 <|
    if (a2 + (hI h a0 14)) ≤ a3 then
      some (-1 : Int32)
    else
      gs h (hR h a0 2) 21 <|
      gb (ib a3 (hN h (hR h a0 2))) <|
      if ¬ (hI h (hR h a0 2) a3.toNatClampNeg) = a1 then
        lt (a3 + (1 : Int32)) fun x6 =>
        f_X4_find_L16 h n a0 a1 a2 x6
      else
        some a3
set_option maxRecDepth 100000 in
set_option maxHeartbeats 4000000 in
theorem ok_X4_find_L16 (l : Launch) (X : Cx) (h : AH) : ∀ (n : Nat) (a0 : Nat) (a1 : Int32) (a2 : Int32) (a3 : Int32) (q : Int32), f_X4_find_L16 h n a0 a1 a2 a3 = some q → Go l X k_X4_find 16 [(0, rf X a0), (1, .int a1), (2, .int a2), (3, .int a3)] [] h (rI (q, h)) := by
  intro n
  induction n with
  | zero =>
    intro a0 a1 a2 a3 q hf
    unfold f_X4_find_L16 at hf
    cases hf
  | succ n ih =>
    intro a0 a1 a2 a3 q hf
    unfold f_X4_find_L16 at hf
    refine g_iload_n (pc := 16) 3 dX4_find_16 rfl rfl ?_
    refine g_iload_n (pc := 17) 2 dX4_find_17 rfl rfl ?_
    refine g_aload_n (pc := 18) 0 dX4_find_18 rfl rfl ?_
    obtain ⟨g1, hf⟩ := gs_some hf
    refine g_getI (pc := 19) fl_X4_60 dX4_find_19 g1 ?_
    refine g_iadd (pc := 22) dX4_find_22 ?_
    rcases it_some hf with ⟨c2, hf⟩ | ⟨c2, hf⟩
    · refine g_icge_t (pc := 23) (tgt := 44) dX4_find_23 (by decide) c2 ?_
      refine g_iconst (pc := 44) (v := (-1 : Int32)) dX4_find_44 (by decide) ?_
      obtain rfl := Option.some.inj hf
      exact g_iret (pc := 45) rfl dX4_find_45
    · refine g_icge_f (pc := 23) (tgt := 44) dX4_find_23 (by decide) c2 ?_
      refine g_aload_n (pc := 26) 0 dX4_find_26 rfl rfl ?_
      refine g_getR (pc := 27) fl_X4_15 dX4_find_27 g1 ?_
      refine g_iload_n (pc := 30) 3 dX4_find_30 rfl rfl ?_
      obtain ⟨g3, hf⟩ := gs_some hf
      obtain ⟨b4, hf⟩ := gb_some hf
      refine g_iald (pc := 31) g3 b4 dX4_find_31 ?_
      refine g_iload_n (pc := 32) 1 dX4_find_32 rfl rfl ?_
      rcases it_some hf with ⟨c5, hf⟩ | ⟨c5, hf⟩
      · refine g_icne_t (pc := 33) (tgt := 38) dX4_find_33 (by decide) c5 ?_
        obtain ⟨x6, ex6, hf⟩ := lt_some hf
        refine g_iinc (pc := 38) (y := x6) (L' := [(3, .int x6), (0, rf X a0), (1, .int a1), (2, .int a2)]) 3 dX4_find_38 rfl (by decide) (ex6.trans rfl) rfl ?_
        refine g_goto (pc := 41) (tgt := 16) dX4_find_41 (by decide) ?_
        refine g_sub [1, 2, 3, 0] rfl ?_
        exact ih a0 a1 a2 x6 q hf
      · refine g_icne_f (pc := 33) (tgt := 38) dX4_find_33 (by decide) (Decidable.of_not_not c5) ?_
        refine g_iload_n (pc := 36) 3 dX4_find_36 rfl rfl ?_
        obtain rfl := Option.some.inj hf
        exact g_iret (pc := 37) rfl dX4_find_37
def f_X4_find (h : AH) (a0 : Nat) (a1 : Int32) : Option (Int32) :=
  gs h a0 4 <|
  lt (((a1 &&& ((hI h a0 13) - (1 : Int32))) * (hI h a0 14))) fun x2 =>
  f_X4_find_L16 h FU a0 a1 x2 x2
set_option maxRecDepth 100000 in
set_option maxHeartbeats 4000000 in
theorem ok_X4_find (l : Launch) (X : Cx) {h : AH} {a0 : Nat} {a1 : Int32} {q : Int32} (hf : f_X4_find h a0 a1 = some q) : Go l X k_X4_find 0 [(0, rf X a0), (1, .int a1)] [] h (rI (q, h)) := by
  unfold f_X4_find at hf
  refine g_iload_n (pc := 0) 1 dX4_find_0 rfl rfl ?_
  refine g_aload_n (pc := 1) 0 dX4_find_1 rfl rfl ?_
  obtain ⟨g1, hf⟩ := gs_some hf
  refine g_getI (pc := 2) fl_X4_56 dX4_find_2 g1 ?_
  refine g_iconst (pc := 5) (v := (1 : Int32)) dX4_find_5 (by decide) ?_
  refine g_isub (pc := 6) dX4_find_6 ?_
  refine g_iand (pc := 7) dX4_find_7 ?_
  refine g_aload_n (pc := 8) 0 dX4_find_8 rfl rfl ?_
  refine g_getI (pc := 9) fl_X4_60 dX4_find_9 g1 ?_
  refine g_imul (pc := 12) dX4_find_12 ?_
  obtain ⟨x2, ex2, hf⟩ := lt_some hf
  refine g_istore_n (pc := 13) (L' := [(2, .int x2), (0, rf X a0), (1, .int a1)]) dX4_find_13 rfl (by decide) ex2 rfl ?_
  refine g_iload_n (pc := 14) 0 dX4_find_14 rfl rfl ?_
  refine g_istore_n (pc := 15) (L' := [(3, .int x2), (2, .int x2), (0, rf X a0), (1, .int a1)]) dX4_find_15 rfl (by decide) rfl rfl ?_
  refine g_sub [2, 3, 1, 0] rfl ?_
  exact ok_X4_find_L16 l X h FU a0 a1 x2 x2 q hf
theorem ct_X4_find (l : Launch) (X : Cx) {h : AH} {a0 : Nat} {a1 : Int32} {q : Int32} (hf : f_X4_find h a0 a1 = some q) : Ct l X k_X4_find [rf X a0, .int a1] h (rI (q, h)) := ct_of ck_X4_find (by simp [lg_sl, rf_cat, rq_cat, ca_i, ca_l, ca_r]) (by simp [lv_args, rf_cat, rq_cat, ca_i, ca_l, ca_r]) (ok_X4_find l X hf)
def f_X4_tell (h : AH) (a0 : Nat) (a1 : Int32) (a2 : Int32) : Option (Int32) :=
  if a2 = (0 : Int32) then
    gs h a0 4 <|
    gs h (hR h a0 3) 21 <|
    gb (ib a1 (hN h (hR h a0 3))) <|
    some (hI h (hR h a0 3) a1.toNatClampNeg)
  else
    if a2 = (1 : Int32) then
      gs h a0 4 <|
      gs h (hR h a0 4) 21 <|
      gb (ib a1 (hN h (hR h a0 4))) <|
      some (hI h (hR h a0 4) a1.toNatClampNeg)
    else
      if a2 = (2 : Int32) then
        gs h a0 4 <|
        gs h (hR h a0 5) 21 <|
        gb (ib a1 (hN h (hR h a0 5))) <|
        some (hI h (hR h a0 5) a1.toNatClampNeg)
      else
        if a2 = (3 : Int32) then
          gs h a0 4 <|
          gs h (hR h a0 7) 21 <|
          gb (ib a1 (hN h (hR h a0 7))) <|
          some (hI h (hR h a0 7) a1.toNatClampNeg)
        else
          if a2 = (4 : Int32) then
            gs h a0 4 <|
            gs h (hR h a0 8) 24 <|
            gb (ib a1 (hN h (hR h a0 8))) <|
            if (hI h (hR h a0 8) a1.toNatClampNeg) = 0 then
              some (0 : Int32)
            else
              some (1 : Int32)
          else
            if a2 = (9 : Int32) then
              gs h a0 4 <|
              gs h (hR h a0 2) 21 <|
              gb (ib a1 (hN h (hR h a0 2))) <|
              some (a1 - (((hI h (hR h a0 2) a1.toNatClampNeg) &&& ((hI h a0 13) - (1 : Int32))) * (hI h a0 14)))
            else
              gs h a0 4 <|
              gs h (hR h a0 10) 21 <|
              gb (ib ((a1 * (4 : Int32)) + ((a2 - (5 : Int32)) &&& (3 : Int32))) (hN h (hR h a0 10))) <|
              some (hI h (hR h a0 10) ((a1 * (4 : Int32)) + ((a2 - (5 : Int32)) &&& (3 : Int32))).toNatClampNeg)
set_option maxRecDepth 100000 in
set_option maxHeartbeats 4000000 in
theorem ok_X4_tell (l : Launch) (X : Cx) {h : AH} {a0 : Nat} {a1 : Int32} {a2 : Int32} {q : Int32} (hf : f_X4_tell h a0 a1 a2 = some q) : Go l X k_X4_tell 0 [(0, rf X a0), (1, .int a1), (2, .int a2)] [] h (rI (q, h)) := by
  unfold f_X4_tell at hf
  refine g_iload_n (pc := 0) 2 dX4_tell_0 rfl rfl ?_
  rcases it_some hf with ⟨c1, hf⟩ | ⟨c1, hf⟩
  · refine g_tsw (pc := 1) (tgt := 56) (0 : Int32) dX4_tell_1 c1 (by decide +kernel) (by decide +kernel) (off := 55) (by decide +kernel) (by decide) ?_
    refine g_aload_n (pc := 56) 0 dX4_tell_56 rfl rfl ?_
    obtain ⟨g2, hf⟩ := gs_some hf
    refine g_getR (pc := 57) fl_X4_18 dX4_tell_57 g2 ?_
    refine g_iload_n (pc := 60) 1 dX4_tell_60 rfl rfl ?_
    obtain ⟨g3, hf⟩ := gs_some hf
    obtain ⟨b4, hf⟩ := gb_some hf
    refine g_iald (pc := 61) g3 b4 dX4_tell_61 ?_
    obtain rfl := Option.some.inj hf
    exact g_iret (pc := 62) rfl dX4_tell_62
  ·
    rcases it_some hf with ⟨c5, hf⟩ | ⟨c5, hf⟩
    · refine g_tsw (pc := 1) (tgt := 63) (1 : Int32) dX4_tell_1 c5 (by decide +kernel) (by decide +kernel) (off := 62) (by decide +kernel) (by decide) ?_
      refine g_aload_n (pc := 63) 0 dX4_tell_63 rfl rfl ?_
      obtain ⟨g6, hf⟩ := gs_some hf
      refine g_getR (pc := 64) fl_X4_21 dX4_tell_64 g6 ?_
      refine g_iload_n (pc := 67) 1 dX4_tell_67 rfl rfl ?_
      obtain ⟨g7, hf⟩ := gs_some hf
      obtain ⟨b8, hf⟩ := gb_some hf
      refine g_iald (pc := 68) g7 b8 dX4_tell_68 ?_
      obtain rfl := Option.some.inj hf
      exact g_iret (pc := 69) rfl dX4_tell_69
    ·
      rcases it_some hf with ⟨c9, hf⟩ | ⟨c9, hf⟩
      · refine g_tsw (pc := 1) (tgt := 70) (2 : Int32) dX4_tell_1 c9 (by decide +kernel) (by decide +kernel) (off := 69) (by decide +kernel) (by decide) ?_
        refine g_aload_n (pc := 70) 0 dX4_tell_70 rfl rfl ?_
        obtain ⟨g10, hf⟩ := gs_some hf
        refine g_getR (pc := 71) fl_X4_24 dX4_tell_71 g10 ?_
        refine g_iload_n (pc := 74) 1 dX4_tell_74 rfl rfl ?_
        obtain ⟨g11, hf⟩ := gs_some hf
        obtain ⟨b12, hf⟩ := gb_some hf
        refine g_iald (pc := 75) g11 b12 dX4_tell_75 ?_
        obtain rfl := Option.some.inj hf
        exact g_iret (pc := 76) rfl dX4_tell_76
      ·
        rcases it_some hf with ⟨c13, hf⟩ | ⟨c13, hf⟩
        · refine g_tsw (pc := 1) (tgt := 77) (3 : Int32) dX4_tell_1 c13 (by decide +kernel) (by decide +kernel) (off := 76) (by decide +kernel) (by decide) ?_
          refine g_aload_n (pc := 77) 0 dX4_tell_77 rfl rfl ?_
          obtain ⟨g14, hf⟩ := gs_some hf
          refine g_getR (pc := 78) fl_X4_30 dX4_tell_78 g14 ?_
          refine g_iload_n (pc := 81) 1 dX4_tell_81 rfl rfl ?_
          obtain ⟨g15, hf⟩ := gs_some hf
          obtain ⟨b16, hf⟩ := gb_some hf
          refine g_iald (pc := 82) g15 b16 dX4_tell_82 ?_
          obtain rfl := Option.some.inj hf
          exact g_iret (pc := 83) rfl dX4_tell_83
        ·
          rcases it_some hf with ⟨c17, hf⟩ | ⟨c17, hf⟩
          · refine g_tsw (pc := 1) (tgt := 84) (4 : Int32) dX4_tell_1 c17 (by decide +kernel) (by decide +kernel) (off := 83) (by decide +kernel) (by decide) ?_
            refine g_aload_n (pc := 84) 0 dX4_tell_84 rfl rfl ?_
            obtain ⟨g18, hf⟩ := gs_some hf
            refine g_getR (pc := 85) fl_X4_33 dX4_tell_85 g18 ?_
            refine g_iload_n (pc := 88) 1 dX4_tell_88 rfl rfl ?_
            obtain ⟨g19, hf⟩ := gs_some hf
            obtain ⟨b20, hf⟩ := gb_some hf
            refine g_zald (pc := 89) g19 b20 dX4_tell_89 ?_
            rcases it_some hf with ⟨c21, hf⟩ | ⟨c21, hf⟩
            · refine g_ifeq_t (pc := 90) (tgt := 97) dX4_tell_90 (by decide) c21 ?_
              refine g_iconst (pc := 97) (v := (0 : Int32)) dX4_tell_97 (by decide) ?_
              obtain rfl := Option.some.inj hf
              exact g_iret (pc := 98) rfl dX4_tell_98
            · refine g_ifeq_f (pc := 90) (tgt := 97) dX4_tell_90 (by decide) c21 ?_
              refine g_iconst (pc := 93) (v := (1 : Int32)) dX4_tell_93 (by decide) ?_
              refine g_goto (pc := 94) (tgt := 98) dX4_tell_94 (by decide) ?_
              obtain rfl := Option.some.inj hf
              exact g_iret (pc := 98) rfl dX4_tell_98
          ·
            rcases it_some hf with ⟨c22, hf⟩ | ⟨c22, hf⟩
            · refine g_tsw (pc := 1) (tgt := 99) (9 : Int32) dX4_tell_1 c22 (by decide +kernel) (by decide +kernel) (off := 98) (by decide +kernel) (by decide) ?_
              refine g_iload_n (pc := 99) 1 dX4_tell_99 rfl rfl ?_
              refine g_aload_n (pc := 100) 0 dX4_tell_100 rfl rfl ?_
              obtain ⟨g23, hf⟩ := gs_some hf
              refine g_getR (pc := 101) fl_X4_15 dX4_tell_101 g23 ?_
              refine g_iload_n (pc := 104) 1 dX4_tell_104 rfl rfl ?_
              obtain ⟨g24, hf⟩ := gs_some hf
              obtain ⟨b25, hf⟩ := gb_some hf
              refine g_iald (pc := 105) g24 b25 dX4_tell_105 ?_
              refine g_aload_n (pc := 106) 0 dX4_tell_106 rfl rfl ?_
              refine g_getI (pc := 107) fl_X4_56 dX4_tell_107 g23 ?_
              refine g_iconst (pc := 110) (v := (1 : Int32)) dX4_tell_110 (by decide) ?_
              refine g_isub (pc := 111) dX4_tell_111 ?_
              refine g_iand (pc := 112) dX4_tell_112 ?_
              refine g_aload_n (pc := 113) 0 dX4_tell_113 rfl rfl ?_
              refine g_getI (pc := 114) fl_X4_60 dX4_tell_114 g23 ?_
              refine g_imul (pc := 117) dX4_tell_117 ?_
              refine g_isub (pc := 118) dX4_tell_118 ?_
              obtain rfl := Option.some.inj hf
              exact g_iret (pc := 119) rfl dX4_tell_119
            ·
              refine g_tswD (pc := 1) (tgt := 120) [(0 : Int32), (1 : Int32), (2 : Int32), (3 : Int32), (4 : Int32), (9 : Int32)] dX4_tell_1 (cons_ne c1 (cons_ne c5 (cons_ne c9 (cons_ne c13 (cons_ne c17 (cons_ne c22 nil_ne)))))) (by decide +kernel) (by decide +kernel) (by decide) ?_
              refine g_aload_n (pc := 120) 0 dX4_tell_120 rfl rfl ?_
              obtain ⟨g26, hf⟩ := gs_some hf
              refine g_getR (pc := 121) fl_X4_40 dX4_tell_121 g26 ?_
              refine g_iload_n (pc := 124) 1 dX4_tell_124 rfl rfl ?_
              refine g_iconst (pc := 125) (v := (4 : Int32)) dX4_tell_125 (by decide) ?_
              refine g_imul (pc := 126) dX4_tell_126 ?_
              refine g_iload_n (pc := 127) 2 dX4_tell_127 rfl rfl ?_
              refine g_iconst (pc := 128) (v := (5 : Int32)) dX4_tell_128 (by decide) ?_
              refine g_isub (pc := 129) dX4_tell_129 ?_
              refine g_iconst (pc := 130) (v := (3 : Int32)) dX4_tell_130 (by decide) ?_
              refine g_iand (pc := 131) dX4_tell_131 ?_
              refine g_iadd (pc := 132) dX4_tell_132 ?_
              obtain ⟨g27, hf⟩ := gs_some hf
              obtain ⟨b28, hf⟩ := gb_some hf
              refine g_iald (pc := 133) g27 b28 dX4_tell_133 ?_
              obtain rfl := Option.some.inj hf
              exact g_iret (pc := 134) rfl dX4_tell_134
theorem ct_X4_tell (l : Launch) (X : Cx) {h : AH} {a0 : Nat} {a1 : Int32} {a2 : Int32} {q : Int32} (hf : f_X4_tell h a0 a1 a2 = some q) : Ct l X k_X4_tell [rf X a0, .int a1, .int a2] h (rI (q, h)) := ct_of ck_X4_tell (by simp [lg_sl, rf_cat, rq_cat, ca_i, ca_l, ca_r]) (by simp [lv_args, rf_cat, rq_cat, ca_i, ca_l, ca_r]) (ok_X4_tell l X hf)
def f_X4_countAt_L37 (h : AH) (k4 : Nat → Int32 → Int32 → Int32 → Option (Int32)) (a0 : Nat) (a1 : Int32) (a2 : Int32) (a3 : Int32) : Option (Int32) :=
  lt (a3 + (1 : Int32)) fun x1 =>
  k4 a0 a1 a2 x1
set_option maxRecDepth 100000 in
set_option maxHeartbeats 4000000 in
theorem ok_X4_countAt_L37 (l : Launch) (X : Cx) (h : AH) (k4 : Nat → Int32 → Int32 → Int32 → Option (Int32)) (hk4 : ∀ (a0 : Nat) (a1 : Int32) (a2 : Int32) (a3 : Int32) (q : Int32), k4 a0 a1 a2 a3 = some q → Go l X k_X4_countAt 4 [(0, rf X a0), (1, .int a1), (2, .int a2), (3, .int a3)] [] h (rI (q, h))) (a0 : Nat) (a1 : Int32) (a2 : Int32) (a3 : Int32) (q : Int32) (hf : f_X4_countAt_L37 h k4 a0 a1 a2 a3 = some q) : Go l X k_X4_countAt 37 [(0, rf X a0), (1, .int a1), (2, .int a2), (3, .int a3)] [] h (rI (q, h)) := by
  unfold f_X4_countAt_L37 at hf
  obtain ⟨x1, ex1, hf⟩ := lt_some hf
  refine g_iinc (pc := 37) (y := x1) (L' := [(3, .int x1), (0, rf X a0), (1, .int a1), (2, .int a2)]) 3 dX4_countAt_37 rfl (by decide) (ex1.trans rfl) rfl ?_
  refine g_goto (pc := 40) (tgt := 4) dX4_countAt_40 (by decide) ?_
  refine g_sub [1, 2, 3, 0] rfl ?_
  exact hk4 a0 a1 a2 x1 q hf
def f_X4_countAt_L4 (h : AH) : Nat → Nat → Int32 → Int32 → Int32 → Option (Int32)
  | 0, _, _, _, _ => none
  | n + 1, a0, a1, a2, a3 =>
    gs h a0 4 <|
    if (hI h a0 12) ≤ a3 then
      some a2
    else
      gs h (hR h a0 11) 21 <|
      gb (ib ((a3 * (9 : Int32)) + (3 : Int32)) (hN h (hR h a0 11))) <|
      if ¬ ((hI h (hR h a0 11) ((a3 * (9 : Int32)) + (3 : Int32)).toNatClampNeg) &&& ((hI h a0 13) - (1 : Int32))) = a1 then
        f_X4_countAt_L37 h (f_X4_countAt_L4 h n) a0 a1 a2 a3
      else
        lt (a2 + (1 : Int32)) fun x6 =>
        f_X4_countAt_L37 h (f_X4_countAt_L4 h n) a0 a1 x6 a3
set_option maxRecDepth 100000 in
set_option maxHeartbeats 4000000 in
theorem ok_X4_countAt_L4 (l : Launch) (X : Cx) (h : AH) : ∀ (n : Nat) (a0 : Nat) (a1 : Int32) (a2 : Int32) (a3 : Int32) (q : Int32), f_X4_countAt_L4 h n a0 a1 a2 a3 = some q → Go l X k_X4_countAt 4 [(0, rf X a0), (1, .int a1), (2, .int a2), (3, .int a3)] [] h (rI (q, h)) := by
  intro n
  induction n with
  | zero =>
    intro a0 a1 a2 a3 q hf
    unfold f_X4_countAt_L4 at hf
    cases hf
  | succ n ih =>
    intro a0 a1 a2 a3 q hf
    unfold f_X4_countAt_L4 at hf
    refine g_iload_n (pc := 4) 3 dX4_countAt_4 rfl rfl ?_
    refine g_aload_n (pc := 5) 0 dX4_countAt_5 rfl rfl ?_
    obtain ⟨g1, hf⟩ := gs_some hf
    refine g_getI (pc := 6) fl_X4_69 dX4_countAt_6 g1 ?_
    rcases it_some hf with ⟨c2, hf⟩ | ⟨c2, hf⟩
    · refine g_icge_t (pc := 9) (tgt := 43) dX4_countAt_9 (by decide) c2 ?_
      refine g_iload_n (pc := 43) 2 dX4_countAt_43 rfl rfl ?_
      obtain rfl := Option.some.inj hf
      exact g_iret (pc := 44) rfl dX4_countAt_44
    · refine g_icge_f (pc := 9) (tgt := 43) dX4_countAt_9 (by decide) c2 ?_
      refine g_aload_n (pc := 12) 0 dX4_countAt_12 rfl rfl ?_
      refine g_getR (pc := 13) fl_X4_45 dX4_countAt_13 g1 ?_
      refine g_iload_n (pc := 16) 3 dX4_countAt_16 rfl rfl ?_
      refine g_bipush (pc := 17) (v := (9 : Int32)) dX4_countAt_17 (by decide) ?_
      refine g_imul (pc := 19) dX4_countAt_19 ?_
      refine g_iconst (pc := 20) (v := (3 : Int32)) dX4_countAt_20 (by decide) ?_
      refine g_iadd (pc := 21) dX4_countAt_21 ?_
      obtain ⟨g3, hf⟩ := gs_some hf
      obtain ⟨b4, hf⟩ := gb_some hf
      refine g_iald (pc := 22) g3 b4 dX4_countAt_22 ?_
      refine g_aload_n (pc := 23) 0 dX4_countAt_23 rfl rfl ?_
      refine g_getI (pc := 24) fl_X4_56 dX4_countAt_24 g1 ?_
      refine g_iconst (pc := 27) (v := (1 : Int32)) dX4_countAt_27 (by decide) ?_
      refine g_isub (pc := 28) dX4_countAt_28 ?_
      refine g_iand (pc := 29) dX4_countAt_29 ?_
      refine g_iload_n (pc := 30) 1 dX4_countAt_30 rfl rfl ?_
      rcases it_some hf with ⟨c5, hf⟩ | ⟨c5, hf⟩
      · refine g_icne_t (pc := 31) (tgt := 37) dX4_countAt_31 (by decide) c5 ?_
        exact ok_X4_countAt_L37 l X h (f_X4_countAt_L4 h n) ih a0 a1 a2 a3 q hf
      · refine g_icne_f (pc := 31) (tgt := 37) dX4_countAt_31 (by decide) (Decidable.of_not_not c5) ?_
        obtain ⟨x6, ex6, hf⟩ := lt_some hf
        refine g_iinc (pc := 34) (y := x6) (L' := [(2, .int x6), (0, rf X a0), (1, .int a1), (3, .int a3)]) 2 dX4_countAt_34 rfl (by decide) (ex6.trans rfl) rfl ?_
        refine g_sub [1, 2, 0, 3] rfl ?_
        exact ok_X4_countAt_L37 l X h (f_X4_countAt_L4 h n) ih a0 a1 x6 a3 q hf
def f_X4_countAt (h : AH) (a0 : Nat) (a1 : Int32) : Option (Int32) :=
  lt ((0 : Int32)) fun x1 =>
  lt ((0 : Int32)) fun x2 =>
  f_X4_countAt_L4 h FU a0 a1 x1 x2
set_option maxRecDepth 100000 in
set_option maxHeartbeats 4000000 in
theorem ok_X4_countAt (l : Launch) (X : Cx) {h : AH} {a0 : Nat} {a1 : Int32} {q : Int32} (hf : f_X4_countAt h a0 a1 = some q) : Go l X k_X4_countAt 0 [(0, rf X a0), (1, .int a1)] [] h (rI (q, h)) := by
  unfold f_X4_countAt at hf
  refine g_iconst (pc := 0) (v := (0 : Int32)) dX4_countAt_0 (by decide) ?_
  obtain ⟨x1, ex1, hf⟩ := lt_some hf
  refine g_istore_n (pc := 1) (L' := [(2, .int x1), (0, rf X a0), (1, .int a1)]) dX4_countAt_1 rfl (by decide) ex1 rfl ?_
  refine g_iconst (pc := 2) (v := (0 : Int32)) dX4_countAt_2 (by decide) ?_
  obtain ⟨x2, ex2, hf⟩ := lt_some hf
  refine g_istore_n (pc := 3) (L' := [(3, .int x2), (2, .int x1), (0, rf X a0), (1, .int a1)]) dX4_countAt_3 rfl (by decide) ex2 rfl ?_
  refine g_sub [2, 3, 1, 0] rfl ?_
  exact ok_X4_countAt_L4 l X h FU a0 a1 x1 x2 q hf
theorem ct_X4_countAt (l : Launch) (X : Cx) {h : AH} {a0 : Nat} {a1 : Int32} {q : Int32} (hf : f_X4_countAt h a0 a1 = some q) : Ct l X k_X4_countAt [rf X a0, .int a1] h (rI (q, h)) := ct_of ck_X4_countAt (by simp [lg_sl, rf_cat, rq_cat, ca_i, ca_l, ca_r]) (by simp [lv_args, rf_cat, rq_cat, ca_i, ca_l, ca_r]) (ok_X4_countAt l X hf)
def f_X4_countLines_L30 (h : AH) (k4 : Nat → Int32 → Int32 → Option (Int32)) (a0 : Nat) (a1 : Int32) (a2 : Int32) : Option (Int32) :=
  lt (a2 + (1 : Int32)) fun x1 =>
  k4 a0 a1 x1
set_option maxRecDepth 100000 in
set_option maxHeartbeats 4000000 in
theorem ok_X4_countLines_L30 (l : Launch) (X : Cx) (h : AH) (k4 : Nat → Int32 → Int32 → Option (Int32)) (hk4 : ∀ (a0 : Nat) (a1 : Int32) (a2 : Int32) (q : Int32), k4 a0 a1 a2 = some q → Go l X k_X4_countLines 4 [(0, rf X a0), (1, .int a1), (2, .int a2)] [] h (rI (q, h))) (a0 : Nat) (a1 : Int32) (a2 : Int32) (q : Int32) (hf : f_X4_countLines_L30 h k4 a0 a1 a2 = some q) : Go l X k_X4_countLines 30 [(0, rf X a0), (1, .int a1), (2, .int a2)] [] h (rI (q, h)) := by
  unfold f_X4_countLines_L30 at hf
  obtain ⟨x1, ex1, hf⟩ := lt_some hf
  refine g_iinc (pc := 30) (y := x1) (L' := [(2, .int x1), (0, rf X a0), (1, .int a1)]) 2 dX4_countLines_30 rfl (by decide) (ex1.trans rfl) rfl ?_
  refine g_goto (pc := 33) (tgt := 4) dX4_countLines_33 (by decide) ?_
  refine g_sub [1, 2, 0] rfl ?_
  exact hk4 a0 a1 x1 q hf
def f_X4_countLines_L4 (h : AH) : Nat → Nat → Int32 → Int32 → Option (Int32)
  | 0, _, _, _ => none
  | n + 1, a0, a1, a2 =>
    gs h a0 4 <|
    if ((hI h a0 13) * (hI h a0 14)) ≤ a2 then
      some a1
    else
      gs h (hR h a0 2) 21 <|
      gb (ib a2 (hN h (hR h a0 2))) <|
      if (hI h (hR h a0 2) a2.toNatClampNeg) = (-1 : Int32) then
        f_X4_countLines_L30 h (f_X4_countLines_L4 h n) a0 a1 a2
      else
        lt (a1 + (1 : Int32)) fun x6 =>
        f_X4_countLines_L30 h (f_X4_countLines_L4 h n) a0 x6 a2
set_option maxRecDepth 100000 in
set_option maxHeartbeats 4000000 in
theorem ok_X4_countLines_L4 (l : Launch) (X : Cx) (h : AH) : ∀ (n : Nat) (a0 : Nat) (a1 : Int32) (a2 : Int32) (q : Int32), f_X4_countLines_L4 h n a0 a1 a2 = some q → Go l X k_X4_countLines 4 [(0, rf X a0), (1, .int a1), (2, .int a2)] [] h (rI (q, h)) := by
  intro n
  induction n with
  | zero =>
    intro a0 a1 a2 q hf
    unfold f_X4_countLines_L4 at hf
    cases hf
  | succ n ih =>
    intro a0 a1 a2 q hf
    unfold f_X4_countLines_L4 at hf
    refine g_iload_n (pc := 4) 2 dX4_countLines_4 rfl rfl ?_
    refine g_aload_n (pc := 5) 0 dX4_countLines_5 rfl rfl ?_
    obtain ⟨g1, hf⟩ := gs_some hf
    refine g_getI (pc := 6) fl_X4_56 dX4_countLines_6 g1 ?_
    refine g_aload_n (pc := 9) 0 dX4_countLines_9 rfl rfl ?_
    refine g_getI (pc := 10) fl_X4_60 dX4_countLines_10 g1 ?_
    refine g_imul (pc := 13) dX4_countLines_13 ?_
    rcases it_some hf with ⟨c2, hf⟩ | ⟨c2, hf⟩
    · refine g_icge_t (pc := 14) (tgt := 36) dX4_countLines_14 (by decide) c2 ?_
      refine g_iload_n (pc := 36) 1 dX4_countLines_36 rfl rfl ?_
      obtain rfl := Option.some.inj hf
      exact g_iret (pc := 37) rfl dX4_countLines_37
    · refine g_icge_f (pc := 14) (tgt := 36) dX4_countLines_14 (by decide) c2 ?_
      refine g_aload_n (pc := 17) 0 dX4_countLines_17 rfl rfl ?_
      refine g_getR (pc := 18) fl_X4_15 dX4_countLines_18 g1 ?_
      refine g_iload_n (pc := 21) 2 dX4_countLines_21 rfl rfl ?_
      obtain ⟨g3, hf⟩ := gs_some hf
      obtain ⟨b4, hf⟩ := gb_some hf
      refine g_iald (pc := 22) g3 b4 dX4_countLines_22 ?_
      refine g_iconst (pc := 23) (v := (-1 : Int32)) dX4_countLines_23 (by decide) ?_
      rcases it_some hf with ⟨c5, hf⟩ | ⟨c5, hf⟩
      · refine g_iceq_t (pc := 24) (tgt := 30) dX4_countLines_24 (by decide) c5 ?_
        exact ok_X4_countLines_L30 l X h (f_X4_countLines_L4 h n) ih a0 a1 a2 q hf
      · refine g_iceq_f (pc := 24) (tgt := 30) dX4_countLines_24 (by decide) c5 ?_
        obtain ⟨x6, ex6, hf⟩ := lt_some hf
        refine g_iinc (pc := 27) (y := x6) (L' := [(1, .int x6), (0, rf X a0), (2, .int a2)]) 1 dX4_countLines_27 rfl (by decide) (ex6.trans rfl) (by simp [rf_cat, rq_cat]) ?_
        refine g_sub [1, 0, 2] rfl ?_
        exact ok_X4_countLines_L30 l X h (f_X4_countLines_L4 h n) ih a0 x6 a2 q hf
def f_X4_countLines (h : AH) (a0 : Nat) : Option (Int32) :=
  lt ((0 : Int32)) fun x1 =>
  lt ((0 : Int32)) fun x2 =>
  f_X4_countLines_L4 h FU a0 x1 x2
set_option maxRecDepth 100000 in
set_option maxHeartbeats 4000000 in
theorem ok_X4_countLines (l : Launch) (X : Cx) {h : AH} {a0 : Nat} {q : Int32} (hf : f_X4_countLines h a0 = some q) : Go l X k_X4_countLines 0 [(0, rf X a0)] [] h (rI (q, h)) := by
  unfold f_X4_countLines at hf
  refine g_iconst (pc := 0) (v := (0 : Int32)) dX4_countLines_0 (by decide) ?_
  obtain ⟨x1, ex1, hf⟩ := lt_some hf
  refine g_istore_n (pc := 1) (L' := [(1, .int x1), (0, rf X a0)]) dX4_countLines_1 rfl (by decide) ex1 (by simp [rf_cat, rq_cat]) ?_
  refine g_iconst (pc := 2) (v := (0 : Int32)) dX4_countLines_2 (by decide) ?_
  obtain ⟨x2, ex2, hf⟩ := lt_some hf
  refine g_istore_n (pc := 3) (L' := [(2, .int x2), (1, .int x1), (0, rf X a0)]) dX4_countLines_3 rfl (by decide) ex2 rfl ?_
  refine g_sub [2, 1, 0] rfl ?_
  exact ok_X4_countLines_L4 l X h FU a0 x1 x2 q hf
theorem ct_X4_countLines (l : Launch) (X : Cx) {h : AH} {a0 : Nat} {q : Int32} (hf : f_X4_countLines h a0 = some q) : Ct l X k_X4_countLines [rf X a0] h (rI (q, h)) := ct_of ck_X4_countLines (by simp [lg_sl, rf_cat, rq_cat, ca_i, ca_l, ca_r]) (by simp [lv_args, rf_cat, rq_cat, ca_i, ca_l, ca_r]) (ok_X4_countLines l X hf)
def f_X4_writeBack (h : AH) (a0 : Nat) (a1 : Int32) : Option (AH) :=
  gs h a0 4 <|
  gs h (hR h a0 8) 24 <|
  gb (ib a1 (hN h (hR h a0 8))) <|
  if (hI h (hR h a0 8) a1.toNatClampNeg) = 0 then
    some h
  else
    gs h (hR h a0 2) 21 <|
    gb (ib a1 (hN h (hR h a0 2))) <|
    gs h (hR h a0 10) 21 <|
    gs h (hR h a0 1) 21 <|
    gb (cpok (a1 * (4 : Int32)) ((hI h (hR h a0 2) a1.toNatClampNeg) * (4 : Int32)) (4 : Int32) (hN h (hR h a0 10)) (hN h (hR h a0 1))) <|
    lt (sA h (hR h a0 1) (va_cpy (hI h (hR h a0 10)) (hI h (hR h a0 1)) (a1 * (4 : Int32)).toNatClampNeg ((hI h (hR h a0 2) a1.toNatClampNeg) * (4 : Int32)).toNatClampNeg (4 : Int32).toNatClampNeg)) fun h10 =>
    some h10
set_option maxRecDepth 100000 in
set_option maxHeartbeats 4000000 in
theorem ok_X4_writeBack (l : Launch) (X : Cx) {h : AH} {a0 : Nat} {a1 : Int32} {q : AH} (hf : f_X4_writeBack h a0 a1 = some q) : Go l X k_X4_writeBack 0 [(0, rf X a0), (1, .int a1)] [] h (rV q) := by
  unfold f_X4_writeBack at hf
  refine g_aload_n (pc := 0) 0 dX4_writeBack_0 rfl rfl ?_
  obtain ⟨g1, hf⟩ := gs_some hf
  refine g_getR (pc := 1) fl_X4_33 dX4_writeBack_1 g1 ?_
  refine g_iload_n (pc := 4) 1 dX4_writeBack_4 rfl rfl ?_
  obtain ⟨g2, hf⟩ := gs_some hf
  obtain ⟨b3, hf⟩ := gb_some hf
  refine g_zald (pc := 5) g2 b3 dX4_writeBack_5 ?_
  rcases it_some hf with ⟨c4, hf⟩ | ⟨c4, hf⟩
  · refine g_ifeq_t (pc := 6) (tgt := 32) dX4_writeBack_6 (by decide) c4 ?_
    obtain rfl := Option.some.inj hf
    exact g_vret (pc := 32) rfl dX4_writeBack_32
  · refine g_ifeq_f (pc := 6) (tgt := 32) dX4_writeBack_6 (by decide) c4 ?_
    refine g_aload_n (pc := 9) 0 dX4_writeBack_9 rfl rfl ?_
    refine g_getR (pc := 10) fl_X4_40 dX4_writeBack_10 g1 ?_
    refine g_iload_n (pc := 13) 1 dX4_writeBack_13 rfl rfl ?_
    refine g_iconst (pc := 14) (v := (4 : Int32)) dX4_writeBack_14 (by decide) ?_
    refine g_imul (pc := 15) dX4_writeBack_15 ?_
    refine g_aload_n (pc := 16) 0 dX4_writeBack_16 rfl rfl ?_
    refine g_getR (pc := 17) fl_X4_9 dX4_writeBack_17 g1 ?_
    refine g_aload_n (pc := 20) 0 dX4_writeBack_20 rfl rfl ?_
    refine g_getR (pc := 21) fl_X4_15 dX4_writeBack_21 g1 ?_
    refine g_iload_n (pc := 24) 1 dX4_writeBack_24 rfl rfl ?_
    obtain ⟨g5, hf⟩ := gs_some hf
    obtain ⟨b6, hf⟩ := gb_some hf
    refine g_iald (pc := 25) g5 b6 dX4_writeBack_25 ?_
    refine g_iconst (pc := 26) (v := (4 : Int32)) dX4_writeBack_26 (by decide) ?_
    refine g_imul (pc := 27) dX4_writeBack_27 ?_
    refine g_iconst (pc := 28) (v := (4 : Int32)) dX4_writeBack_28 (by decide) ?_
    obtain ⟨g7, hf⟩ := gs_some hf
    obtain ⟨g8, hf⟩ := gs_some hf
    obtain ⟨b9, hf⟩ := gb_some hf
    obtain ⟨h10, eh10, hf⟩ := lt_some hf
    refine g_copy (pc := 29) acy_X4_86 g7 g8 b9 (by decide) (by decide) (by simp [rf_cat, rq_cat, ca_i, ca_l, ca_r]) dX4_writeBack_29 eh10 ?_
    obtain rfl := Option.some.inj hf
    exact g_vret (pc := 32) rfl dX4_writeBack_32
theorem ct_X4_writeBack (l : Launch) (X : Cx) {h : AH} {a0 : Nat} {a1 : Int32} {q : AH} (hf : f_X4_writeBack h a0 a1 = some q) : Ct l X k_X4_writeBack [rf X a0, .int a1] h (rV q) := ct_of ck_X4_writeBack (by simp [lg_sl, rf_cat, rq_cat, ca_i, ca_l, ca_r]) (by simp [lv_args, rf_cat, rq_cat, ca_i, ca_l, ca_r]) (ok_X4_writeBack l X hf)
def f_X4_giveShared (h : AH) (a0 : Nat) (a1 : Int32) (a2 : Int32) : Option (AH) :=
  gs h a0 4 <|
  gs h (hR h a0 4) 21 <|
  gb (ib a1 (hN h (hR h a0 4))) <|
  gb (ib a1 (hN h (hR h a0 4))) <|
  lt (sI h (hR h a0 4) a1.toNatClampNeg ((hI h (hR h a0 4) a1.toNatClampNeg) ||| ((1 : Int32) <<< (a2 &&& 31)))) fun h5 =>
  gs h5 (hR h5 a0 2) 21 <|
  gb (ib a1 (hN h5 (hR h5 a0 2))) <|
  gs h5 (hR h5 a0 0) 5 <|
  bd (f_X6_send h5 (hR h5 a0 0) (6 : Int32) (16 : Int32) a2 (hI h5 (hR h5 a0 2) a1.toNatClampNeg) (hR h5 a0 10) (a1 * (4 : Int32))) fun q10 =>
  some q10
set_option maxRecDepth 100000 in
set_option maxHeartbeats 4000000 in
theorem ok_X4_giveShared (l : Launch) (X : Cx) {h : AH} {a0 : Nat} {a1 : Int32} {a2 : Int32} {q : AH} (hf : f_X4_giveShared h a0 a1 a2 = some q) : Go l X k_X4_giveShared 0 [(0, rf X a0), (1, .int a1), (2, .int a2)] [] h (rV q) := by
  unfold f_X4_giveShared at hf
  refine g_aload_n (pc := 0) 0 dX4_giveShared_0 rfl rfl ?_
  obtain ⟨g1, hf⟩ := gs_some hf
  refine g_getR (pc := 1) fl_X4_21 dX4_giveShared_1 g1 ?_
  refine g_iload_n (pc := 4) 1 dX4_giveShared_4 rfl rfl ?_
  refine g_dup2 (pc := 5) dX4_giveShared_5 rfl (rf_cat X _) ?_
  obtain ⟨g2, hf⟩ := gs_some hf
  obtain ⟨b3, hf⟩ := gb_some hf
  refine g_iald (pc := 6) g2 b3 dX4_giveShared_6 ?_
  refine g_iconst (pc := 7) (v := (1 : Int32)) dX4_giveShared_7 (by decide) ?_
  refine g_iload_n (pc := 8) 2 dX4_giveShared_8 rfl rfl ?_
  refine g_ishl (pc := 9) dX4_giveShared_9 ?_
  refine g_ior (pc := 10) dX4_giveShared_10 ?_
  obtain ⟨b4, hf⟩ := gb_some hf
  obtain ⟨h5, eh5, hf⟩ := lt_some hf
  refine g_iast (pc := 11) g2 b4 dX4_giveShared_11 eh5 ?_
  refine g_aload_n (pc := 12) 0 dX4_giveShared_12 rfl rfl ?_
  have g6 : hS h5 a0 = 4 := (hS_tI eh5 g1)
  refine g_getR (pc := 13) fl_X4_48 dX4_giveShared_13 g6 ?_
  refine g_bipush (pc := 16) (v := (6 : Int32)) dX4_giveShared_16 (by decide) ?_
  refine g_bipush (pc := 18) (v := (16 : Int32)) dX4_giveShared_18 (by decide) ?_
  refine g_iload_n (pc := 20) 2 dX4_giveShared_20 rfl rfl ?_
  refine g_aload_n (pc := 21) 0 dX4_giveShared_21 rfl rfl ?_
  refine g_getR (pc := 22) fl_X4_15 dX4_giveShared_22 g6 ?_
  refine g_iload_n (pc := 25) 1 dX4_giveShared_25 rfl rfl ?_
  obtain ⟨g7, hf⟩ := gs_some hf
  obtain ⟨b8, hf⟩ := gb_some hf
  refine g_iald (pc := 26) g7 b8 dX4_giveShared_26 ?_
  refine g_aload_n (pc := 27) 0 dX4_giveShared_27 rfl rfl ?_
  refine g_getR (pc := 28) fl_X4_40 dX4_giveShared_28 g6 ?_
  refine g_iload_n (pc := 31) 1 dX4_giveShared_31 rfl rfl ?_
  refine g_iconst (pc := 32) (v := (4 : Int32)) dX4_giveShared_32 (by decide) ?_
  refine g_imul (pc := 33) dX4_giveShared_33 ?_
  obtain ⟨g9, hf⟩ := gs_some hf
  obtain ⟨q10, hcq10, hf⟩ := bd_some hf
  refine g_cVV (pc := 34) (k2 := k_X6_send) (av := [.int (6 : Int32), .int (16 : Int32), .int a2, .int (hI h5 (hR h5 a0 2) a1.toNatClampNeg), rf X (hR h5 a0 10), .int (a1 * (4 : Int32))]) (q := q10) rfl dX4_giveShared_34 ck_X6_send m_581 m_582 m_583 (ci := 4) rfl (by decide) g9 (by decide) (by decide) rfl (by simp [rf_cat, rq_cat, ca_i, ca_l, ca_r]) (ct_X6_send l X hcq10) ?_
  obtain rfl := Option.some.inj hf
  exact g_vret (pc := 37) rfl dX4_giveShared_37
theorem ct_X4_giveShared (l : Launch) (X : Cx) {h : AH} {a0 : Nat} {a1 : Int32} {a2 : Int32} {q : AH} (hf : f_X4_giveShared h a0 a1 a2 = some q) : Ct l X k_X4_giveShared [rf X a0, .int a1, .int a2] h (rV q) := ct_of ck_X4_giveShared (by simp [lg_sl, rf_cat, rq_cat, ca_i, ca_l, ca_r]) (by simp [lv_args, rf_cat, rq_cat, ca_i, ca_l, ca_r]) (ok_X4_giveShared l X hf)
def f_X4_giveAlone (h : AH) (a0 : Nat) (a1 : Int32) (a2 : Int32) : Option (AH) :=
  gs h a0 4 <|
  gs h (hR h a0 3) 21 <|
  gb (ib a1 (hN h (hR h a0 3))) <|
  lt (sI h (hR h a0 3) a1.toNatClampNeg a2) fun h4 =>
  gs h4 (hR h4 a0 4) 21 <|
  gb (ib a1 (hN h4 (hR h4 a0 4))) <|
  lt (sI h4 (hR h4 a0 4) a1.toNatClampNeg (0 : Int32)) fun h8 =>
  gs h8 (hR h8 a0 2) 21 <|
  gb (ib a1 (hN h8 (hR h8 a0 2))) <|
  gs h8 (hR h8 a0 0) 5 <|
  bd (f_X6_send h8 (hR h8 a0 0) (8 : Int32) (16 : Int32) a2 (hI h8 (hR h8 a0 2) a1.toNatClampNeg) (hR h8 a0 10) (a1 * (4 : Int32))) fun q13 =>
  some q13
set_option maxRecDepth 100000 in
set_option maxHeartbeats 4000000 in
theorem ok_X4_giveAlone (l : Launch) (X : Cx) {h : AH} {a0 : Nat} {a1 : Int32} {a2 : Int32} {q : AH} (hf : f_X4_giveAlone h a0 a1 a2 = some q) : Go l X k_X4_giveAlone 0 [(0, rf X a0), (1, .int a1), (2, .int a2)] [] h (rV q) := by
  unfold f_X4_giveAlone at hf
  refine g_aload_n (pc := 0) 0 dX4_giveAlone_0 rfl rfl ?_
  obtain ⟨g1, hf⟩ := gs_some hf
  refine g_getR (pc := 1) fl_X4_18 dX4_giveAlone_1 g1 ?_
  refine g_iload_n (pc := 4) 1 dX4_giveAlone_4 rfl rfl ?_
  refine g_iload_n (pc := 5) 2 dX4_giveAlone_5 rfl rfl ?_
  obtain ⟨g2, hf⟩ := gs_some hf
  obtain ⟨b3, hf⟩ := gb_some hf
  obtain ⟨h4, eh4, hf⟩ := lt_some hf
  refine g_iast (pc := 6) g2 b3 dX4_giveAlone_6 eh4 ?_
  refine g_aload_n (pc := 7) 0 dX4_giveAlone_7 rfl rfl ?_
  have g5 : hS h4 a0 = 4 := (hS_tI eh4 g1)
  refine g_getR (pc := 8) fl_X4_21 dX4_giveAlone_8 g5 ?_
  refine g_iload_n (pc := 11) 1 dX4_giveAlone_11 rfl rfl ?_
  refine g_iconst (pc := 12) (v := (0 : Int32)) dX4_giveAlone_12 (by decide) ?_
  obtain ⟨g6, hf⟩ := gs_some hf
  obtain ⟨b7, hf⟩ := gb_some hf
  obtain ⟨h8, eh8, hf⟩ := lt_some hf
  refine g_iast (pc := 13) g6 b7 dX4_giveAlone_13 eh8 ?_
  refine g_aload_n (pc := 14) 0 dX4_giveAlone_14 rfl rfl ?_
  have g9 : hS h8 a0 = 4 := (hS_tI eh8 g5)
  refine g_getR (pc := 15) fl_X4_48 dX4_giveAlone_15 g9 ?_
  refine g_bipush (pc := 18) (v := (8 : Int32)) dX4_giveAlone_18 (by decide) ?_
  refine g_bipush (pc := 20) (v := (16 : Int32)) dX4_giveAlone_20 (by decide) ?_
  refine g_iload_n (pc := 22) 2 dX4_giveAlone_22 rfl rfl ?_
  refine g_aload_n (pc := 23) 0 dX4_giveAlone_23 rfl rfl ?_
  refine g_getR (pc := 24) fl_X4_15 dX4_giveAlone_24 g9 ?_
  refine g_iload_n (pc := 27) 1 dX4_giveAlone_27 rfl rfl ?_
  obtain ⟨g10, hf⟩ := gs_some hf
  obtain ⟨b11, hf⟩ := gb_some hf
  refine g_iald (pc := 28) g10 b11 dX4_giveAlone_28 ?_
  refine g_aload_n (pc := 29) 0 dX4_giveAlone_29 rfl rfl ?_
  refine g_getR (pc := 30) fl_X4_40 dX4_giveAlone_30 g9 ?_
  refine g_iload_n (pc := 33) 1 dX4_giveAlone_33 rfl rfl ?_
  refine g_iconst (pc := 34) (v := (4 : Int32)) dX4_giveAlone_34 (by decide) ?_
  refine g_imul (pc := 35) dX4_giveAlone_35 ?_
  obtain ⟨g12, hf⟩ := gs_some hf
  obtain ⟨q13, hcq13, hf⟩ := bd_some hf
  refine g_cVV (pc := 36) (k2 := k_X6_send) (av := [.int (8 : Int32), .int (16 : Int32), .int a2, .int (hI h8 (hR h8 a0 2) a1.toNatClampNeg), rf X (hR h8 a0 10), .int (a1 * (4 : Int32))]) (q := q13) rfl dX4_giveAlone_36 ck_X6_send m_581 m_582 m_583 (ci := 4) rfl (by decide) g12 (by decide) (by decide) rfl (by simp [rf_cat, rq_cat, ca_i, ca_l, ca_r]) (ct_X6_send l X hcq13) ?_
  obtain rfl := Option.some.inj hf
  exact g_vret (pc := 39) rfl dX4_giveAlone_39
theorem ct_X4_giveAlone (l : Launch) (X : Cx) {h : AH} {a0 : Nat} {a1 : Int32} {a2 : Int32} {q : AH} (hf : f_X4_giveAlone h a0 a1 a2 = some q) : Ct l X k_X4_giveAlone [rf X a0, .int a1, .int a2] h (rV q) := ct_of ck_X4_giveAlone (by simp [lg_sl, rf_cat, rq_cat, ca_i, ca_l, ca_r]) (by simp [lv_args, rf_cat, rq_cat, ca_i, ca_l, ca_r]) (ok_X4_giveAlone l X hf)
def f_X4_acknowledge_L147 (h : AH) : Option (Int32 × AH) :=
  some ((0 : Int32), h)
set_option maxRecDepth 100000 in
set_option maxHeartbeats 4000000 in
theorem ok_X4_acknowledge_L147 (l : Launch) (X : Cx) (h : AH) (q : Int32 × AH) (hf : f_X4_acknowledge_L147 h = some q) : Go l X k_X4_acknowledge 147 [] [] h (rI q) := by
  unfold f_X4_acknowledge_L147 at hf
  refine g_goto (pc := 147) (tgt := 161) dX4_acknowledge_147 (by decide) ?_
  refine g_iconst (pc := 161) (v := (0 : Int32)) dX4_acknowledge_161 (by decide) ?_
  obtain rfl := Option.some.inj hf
  exact g_zret (pc := 162) rfl rfl dX4_acknowledge_162
def f_X4_acknowledge_L50 (h : AH) (a0 : Nat) (a2 : Int32) : Option (Int32 × AH) :=
  gs h a0 4 <|
  gs h (hR h a0 7) 21 <|
  gb (ib a2 (hN h (hR h a0 7))) <|
  gb (ib a2 (hN h (hR h a0 7))) <|
  lt (sI h (hR h a0 7) a2.toNatClampNeg ((hI h (hR h a0 7) a2.toNatClampNeg) - (1 : Int32))) fun h5 =>
  gs h5 (hR h5 a0 7) 21 <|
  gb (ib a2 (hN h5 (hR h5 a0 7))) <|
  if (hI h5 (hR h5 a0 7) a2.toNatClampNeg) ≤ 0 then
    gs h5 (hR h5 a0 5) 21 <|
    gb (ib a2 (hN h5 (hR h5 a0 5))) <|
    if ¬ (hI h5 (hR h5 a0 5) a2.toNatClampNeg) = (16 : Int32) then
      gs h5 (hR h5 a0 6) 21 <|
      gb (ib a2 (hN h5 (hR h5 a0 6))) <|
      if ¬ (hI h5 (hR h5 a0 6) a2.toNatClampNeg) = 0 then
        gb (ib a2 (hN h5 (hR h5 a0 5))) <|
        bd (f_X4_giveAlone h5 a0 a2 (hI h5 (hR h5 a0 5) a2.toNatClampNeg)) fun q17 =>
        some ((0 : Int32), q17)
      else
        gs h5 (hR h5 a0 4) 21 <|
        gb (ib a2 (hN h5 (hR h5 a0 4))) <|
        gs h5 (hR h5 a0 3) 21 <|
        gb (ib a2 (hN h5 (hR h5 a0 3))) <|
        gb (ib a2 (hN h5 (hR h5 a0 4))) <|
        lt (sI h5 (hR h5 a0 4) a2.toNatClampNeg ((hI h5 (hR h5 a0 4) a2.toNatClampNeg) ||| ((1 : Int32) <<< ((hI h5 (hR h5 a0 3) a2.toNatClampNeg) &&& 31)))) fun h23 =>
        gs h23 (hR h23 a0 3) 21 <|
        gb (ib a2 (hN h23 (hR h23 a0 3))) <|
        lt (sI h23 (hR h23 a0 3) a2.toNatClampNeg (-1 : Int32)) fun h27 =>
        gs h27 (hR h27 a0 5) 21 <|
        gb (ib a2 (hN h27 (hR h27 a0 5))) <|
        bd (f_X4_giveShared h27 a0 a2 (hI h27 (hR h27 a0 5) a2.toNatClampNeg)) fun q31 =>
        f_X4_acknowledge_L147 q31
    else
      bd (f_X4_writeBack h5 a0 a2) fun q32 =>
      gs q32 a0 4 <|
      gs q32 (hR q32 a0 2) 21 <|
      gb (ib a2 (hN q32 (hR q32 a0 2))) <|
      lt (sI q32 (hR q32 a0 2) a2.toNatClampNeg (-1 : Int32)) fun h36 =>
      gs h36 (hR h36 a0 5) 21 <|
      gb (ib a2 (hN h36 (hR h36 a0 5))) <|
      lt (sI h36 (hR h36 a0 5) a2.toNatClampNeg (-1 : Int32)) fun h40 =>
      some ((1 : Int32), h40)
  else
    some ((0 : Int32), h5)
set_option maxRecDepth 100000 in
set_option maxHeartbeats 4000000 in
theorem ok_X4_acknowledge_L50 (l : Launch) (X : Cx) (h : AH) (a0 : Nat) (a2 : Int32) (q : Int32 × AH) (hf : f_X4_acknowledge_L50 h a0 a2 = some q) : Go l X k_X4_acknowledge 50 [(0, rf X a0), (2, .int a2)] [] h (rI q) := by
  unfold f_X4_acknowledge_L50 at hf
  refine g_aload_n (pc := 50) 0 dX4_acknowledge_50 rfl rfl ?_
  obtain ⟨g1, hf⟩ := gs_some hf
  refine g_getR (pc := 51) fl_X4_30 dX4_acknowledge_51 g1 ?_
  refine g_iload_n (pc := 54) 1 dX4_acknowledge_54 rfl rfl ?_
  refine g_dup2 (pc := 55) dX4_acknowledge_55 rfl (rf_cat X _) ?_
  obtain ⟨g2, hf⟩ := gs_some hf
  obtain ⟨b3, hf⟩ := gb_some hf
  refine g_iald (pc := 56) g2 b3 dX4_acknowledge_56 ?_
  refine g_iconst (pc := 57) (v := (1 : Int32)) dX4_acknowledge_57 (by decide) ?_
  refine g_isub (pc := 58) dX4_acknowledge_58 ?_
  obtain ⟨b4, hf⟩ := gb_some hf
  obtain ⟨h5, eh5, hf⟩ := lt_some hf
  refine g_iast (pc := 59) g2 b4 dX4_acknowledge_59 eh5 ?_
  refine g_aload_n (pc := 60) 0 dX4_acknowledge_60 rfl rfl ?_
  have g6 : hS h5 a0 = 4 := (hS_tI eh5 g1)
  refine g_getR (pc := 61) fl_X4_30 dX4_acknowledge_61 g6 ?_
  refine g_iload_n (pc := 64) 1 dX4_acknowledge_64 rfl rfl ?_
  obtain ⟨g7, hf⟩ := gs_some hf
  obtain ⟨b8, hf⟩ := gb_some hf
  refine g_iald (pc := 65) g7 b8 dX4_acknowledge_65 ?_
  rcases it_some hf with ⟨c9, hf⟩ | ⟨c9, hf⟩
  · refine g_ifle_t (pc := 66) (tgt := 71) dX4_acknowledge_66 (by decide) c9 ?_
    refine g_aload_n (pc := 71) 0 dX4_acknowledge_71 rfl rfl ?_
    refine g_getR (pc := 72) fl_X4_24 dX4_acknowledge_72 g6 ?_
    refine g_iload_n (pc := 75) 1 dX4_acknowledge_75 rfl rfl ?_
    obtain ⟨g10, hf⟩ := gs_some hf
    obtain ⟨b11, hf⟩ := gb_some hf
    refine g_iald (pc := 76) g10 b11 dX4_acknowledge_76 ?_
    refine g_bipush (pc := 77) (v := (16 : Int32)) dX4_acknowledge_77 (by decide) ?_
    rcases it_some hf with ⟨c12, hf⟩ | ⟨c12, hf⟩
    · refine g_icne_t (pc := 79) (tgt := 103) dX4_acknowledge_79 (by decide) c12 ?_
      refine g_aload_n (pc := 103) 0 dX4_acknowledge_103 rfl rfl ?_
      refine g_getR (pc := 104) fl_X4_27 dX4_acknowledge_104 g6 ?_
      refine g_iload_n (pc := 107) 1 dX4_acknowledge_107 rfl rfl ?_
      obtain ⟨g13, hf⟩ := gs_some hf
      obtain ⟨b14, hf⟩ := gb_some hf
      refine g_iald (pc := 108) g13 b14 dX4_acknowledge_108 ?_
      rcases it_some hf with ⟨c15, hf⟩ | ⟨c15, hf⟩
      · refine g_ifne_t (pc := 109) (tgt := 150) dX4_acknowledge_109 (by decide) c15 ?_
        refine g_aload_n (pc := 150) 0 dX4_acknowledge_150 rfl rfl ?_
        refine g_iload_n (pc := 151) 1 dX4_acknowledge_151 rfl rfl ?_
        refine g_aload_n (pc := 152) 0 dX4_acknowledge_152 rfl rfl ?_
        refine g_getR (pc := 153) fl_X4_24 dX4_acknowledge_153 g6 ?_
        refine g_iload_n (pc := 156) 1 dX4_acknowledge_156 rfl rfl ?_
        obtain ⟨b16, hf⟩ := gb_some hf
        refine g_iald (pc := 157) g10 b16 dX4_acknowledge_157 ?_
        obtain ⟨q17, hcq17, hf⟩ := bd_some hf
        refine g_cVV (pc := 158) (k2 := k_X4_giveAlone) (av := [.int a2, .int (hI h5 (hR h5 a0 5) a2.toNatClampNeg)]) (q := q17) rfl dX4_acknowledge_158 ck_X4_giveAlone m_599 m_601 m_6 (ci := 3) rfl (by decide) g6 (by decide) (by decide) rfl (by simp [rf_cat, rq_cat, ca_i, ca_l, ca_r]) (ct_X4_giveAlone l X hcq17) ?_
        refine g_iconst (pc := 161) (v := (0 : Int32)) dX4_acknowledge_161 (by decide) ?_
        obtain rfl := Option.some.inj hf
        exact g_zret (pc := 162) rfl rfl dX4_acknowledge_162
      · refine g_ifne_f (pc := 109) (tgt := 150) dX4_acknowledge_109 (by decide) (Decidable.of_not_not c15) ?_
        refine g_aload_n (pc := 112) 0 dX4_acknowledge_112 rfl rfl ?_
        refine g_getR (pc := 113) fl_X4_21 dX4_acknowledge_113 g6 ?_
        refine g_iload_n (pc := 116) 1 dX4_acknowledge_116 rfl rfl ?_
        refine g_dup2 (pc := 117) dX4_acknowledge_117 rfl (rf_cat X _) ?_
        obtain ⟨g18, hf⟩ := gs_some hf
        obtain ⟨b19, hf⟩ := gb_some hf
        refine g_iald (pc := 118) g18 b19 dX4_acknowledge_118 ?_
        refine g_iconst (pc := 119) (v := (1 : Int32)) dX4_acknowledge_119 (by decide) ?_
        refine g_aload_n (pc := 120) 0 dX4_acknowledge_120 rfl rfl ?_
        refine g_getR (pc := 121) fl_X4_18 dX4_acknowledge_121 g6 ?_
        refine g_iload_n (pc := 124) 1 dX4_acknowledge_124 rfl rfl ?_
        obtain ⟨g20, hf⟩ := gs_some hf
        obtain ⟨b21, hf⟩ := gb_some hf
        refine g_iald (pc := 125) g20 b21 dX4_acknowledge_125 ?_
        refine g_ishl (pc := 126) dX4_acknowledge_126 ?_
        refine g_ior (pc := 127) dX4_acknowledge_127 ?_
        obtain ⟨b22, hf⟩ := gb_some hf
        obtain ⟨h23, eh23, hf⟩ := lt_some hf
        refine g_iast (pc := 128) g18 b22 dX4_acknowledge_128 eh23 ?_
        refine g_aload_n (pc := 129) 0 dX4_acknowledge_129 rfl rfl ?_
        have g24 : hS h23 a0 = 4 := (hS_tI eh23 g6)
        refine g_getR (pc := 130) fl_X4_18 dX4_acknowledge_130 g24 ?_
        refine g_iload_n (pc := 133) 1 dX4_acknowledge_133 rfl rfl ?_
        refine g_iconst (pc := 134) (v := (-1 : Int32)) dX4_acknowledge_134 (by decide) ?_
        obtain ⟨g25, hf⟩ := gs_some hf
        obtain ⟨b26, hf⟩ := gb_some hf
        obtain ⟨h27, eh27, hf⟩ := lt_some hf
        refine g_iast (pc := 135) g25 b26 dX4_acknowledge_135 eh27 ?_
        refine g_aload_n (pc := 136) 0 dX4_acknowledge_136 rfl rfl ?_
        refine g_iload_n (pc := 137) 1 dX4_acknowledge_137 rfl rfl ?_
        refine g_aload_n (pc := 138) 0 dX4_acknowledge_138 rfl rfl ?_
        have g28 : hS h27 a0 = 4 := (hS_tI eh27 g24)
        refine g_getR (pc := 139) fl_X4_24 dX4_acknowledge_139 g28 ?_
        refine g_iload_n (pc := 142) 1 dX4_acknowledge_142 rfl rfl ?_
        obtain ⟨g29, hf⟩ := gs_some hf
        obtain ⟨b30, hf⟩ := gb_some hf
        refine g_iald (pc := 143) g29 b30 dX4_acknowledge_143 ?_
        obtain ⟨q31, hcq31, hf⟩ := bd_some hf
        refine g_cVV (pc := 144) (k2 := k_X4_giveShared) (av := [.int a2, .int (hI h27 (hR h27 a0 5) a2.toNatClampNeg)]) (q := q31) rfl dX4_acknowledge_144 ck_X4_giveShared m_577 m_579 m_5 (ci := 3) rfl (by decide) g28 (by decide) (by decide) rfl (by simp [rf_cat, rq_cat, ca_i, ca_l, ca_r]) (ct_X4_giveShared l X hcq31) ?_
        refine g_sub [] rfl ?_
        exact ok_X4_acknowledge_L147 l X q31 q hf
    · refine g_icne_f (pc := 79) (tgt := 103) dX4_acknowledge_79 (by decide) (Decidable.of_not_not c12) ?_
      refine g_aload_n (pc := 82) 0 dX4_acknowledge_82 rfl rfl ?_
      refine g_iload_n (pc := 83) 1 dX4_acknowledge_83 rfl rfl ?_
      obtain ⟨q32, hcq32, hf⟩ := bd_some hf
      refine g_cVV (pc := 84) (k2 := k_X4_writeBack) (av := [.int a2]) (q := q32) rfl dX4_acknowledge_84 ck_X4_writeBack m_573 m_575 m_4 (ci := 3) rfl (by decide) g6 (by decide) (by decide) rfl (by simp [rf_cat, rq_cat, ca_i, ca_l, ca_r]) (ct_X4_writeBack l X hcq32) ?_
      refine g_aload_n (pc := 87) 0 dX4_acknowledge_87 rfl rfl ?_
      obtain ⟨g33, hf⟩ := gs_some hf
      refine g_getR (pc := 88) fl_X4_15 dX4_acknowledge_88 g33 ?_
      refine g_iload_n (pc := 91) 1 dX4_acknowledge_91 rfl rfl ?_
      refine g_iconst (pc := 92) (v := (-1 : Int32)) dX4_acknowledge_92 (by decide) ?_
      obtain ⟨g34, hf⟩ := gs_some hf
      obtain ⟨b35, hf⟩ := gb_some hf
      obtain ⟨h36, eh36, hf⟩ := lt_some hf
      refine g_iast (pc := 93) g34 b35 dX4_acknowledge_93 eh36 ?_
      refine g_aload_n (pc := 94) 0 dX4_acknowledge_94 rfl rfl ?_
      have g37 : hS h36 a0 = 4 := (hS_tI eh36 g33)
      refine g_getR (pc := 95) fl_X4_24 dX4_acknowledge_95 g37 ?_
      refine g_iload_n (pc := 98) 1 dX4_acknowledge_98 rfl rfl ?_
      refine g_iconst (pc := 99) (v := (-1 : Int32)) dX4_acknowledge_99 (by decide) ?_
      obtain ⟨g38, hf⟩ := gs_some hf
      obtain ⟨b39, hf⟩ := gb_some hf
      obtain ⟨h40, eh40, hf⟩ := lt_some hf
      refine g_iast (pc := 100) g38 b39 dX4_acknowledge_100 eh40 ?_
      refine g_iconst (pc := 101) (v := (1 : Int32)) dX4_acknowledge_101 (by decide) ?_
      obtain rfl := Option.some.inj hf
      exact g_zret (pc := 102) rfl rfl dX4_acknowledge_102
  · refine g_ifle_f (pc := 66) (tgt := 71) dX4_acknowledge_66 (by decide) c9 ?_
    refine g_iconst (pc := 69) (v := (0 : Int32)) dX4_acknowledge_69 (by decide) ?_
    obtain rfl := Option.some.inj hf
    exact g_zret (pc := 70) rfl rfl dX4_acknowledge_70
def f_X4_acknowledge (h : AH) (a0 : Nat) (a1 : Nat) : Option (Int32 × AH) :=
  gs h a1 21 <|
  gb (ib (3 : Int32) (hN h a1)) <|
  gs h a0 4 <|
  bd (f_X4_find h a0 (hI h a1 (3 : Int32).toNatClampNeg)) fun v4 =>
  if v4 < 0 then
    some ((0 : Int32), h)
  else
    gs h (hR h a0 7) 21 <|
    gb (ib v4 (hN h (hR h a0 7))) <|
    if ¬ (hI h (hR h a0 7) v4.toNatClampNeg) = 0 then
      gb (ib (4 : Int32) (hN h a1)) <|
      if ¬ (hI h a1 (4 : Int32).toNatClampNeg) = (1 : Int32) then
        f_X4_acknowledge_L50 h a0 v4
      else
        gs h (hR h a0 10) 21 <|
        gb (cpok (5 : Int32) (v4 * (4 : Int32)) (4 : Int32) (hN h a1) (hN h (hR h a0 10))) <|
        lt (sA h (hR h a0 10) (va_cpy (hI h a1) (hI h (hR h a0 10)) (5 : Int32).toNatClampNeg (v4 * (4 : Int32)).toNatClampNeg (4 : Int32).toNatClampNeg)) fun h13 =>
        gs h13 (hR h13 a0 8) 24 <|
        gb (ib v4 (hN h13 (hR h13 a0 8))) <|
        lt (sI h13 (hR h13 a0 8) v4.toNatClampNeg ((1 : Int32) &&& 1)) fun h17 =>
        f_X4_acknowledge_L50 h17 a0 v4
    else
      some ((0 : Int32), h)
set_option maxRecDepth 100000 in
set_option maxHeartbeats 4000000 in
theorem ok_X4_acknowledge (l : Launch) (X : Cx) {h : AH} {a0 : Nat} {a1 : Nat} {q : Int32 × AH} (hf : f_X4_acknowledge h a0 a1 = some q) : Go l X k_X4_acknowledge 0 [(0, rf X a0), (1, rf X a1)] [] h (rI q) := by
  unfold f_X4_acknowledge at hf
  refine g_aload_n (pc := 0) 0 dX4_acknowledge_0 rfl rfl ?_
  refine g_aload_n (pc := 1) 1 dX4_acknowledge_1 rfl rfl ?_
  refine g_iconst (pc := 2) (v := (3 : Int32)) dX4_acknowledge_2 (by decide) ?_
  obtain ⟨g1, hf⟩ := gs_some hf
  obtain ⟨b2, hf⟩ := gb_some hf
  refine g_iald (pc := 3) g1 b2 dX4_acknowledge_3 ?_
  obtain ⟨g3, hf⟩ := gs_some hf
  obtain ⟨v4, hcv4, hf⟩ := bd_some hf
  refine g_cVI (pc := 4) (k2 := k_X4_find) (av := [.int (hI h a1 (3 : Int32).toNatClampNeg)]) (q := (v4, h)) rfl dX4_acknowledge_4 ck_X4_find m_568 m_569 m_570 (ci := 3) rfl (by decide) g3 (by decide) (by decide) rfl (by simp [rf_cat, rq_cat, ca_i, ca_l, ca_r]) (ct_X4_find l X hcv4) ?_
  refine g_istore_n (pc := 7) (L' := [(2, .int v4), (0, rf X a0), (1, rf X a1)]) dX4_acknowledge_7 rfl (by decide) rfl (by simp [rf_cat, rq_cat]) ?_
  refine g_iload_n (pc := 8) 0 dX4_acknowledge_8 rfl rfl ?_
  rcases it_some hf with ⟨c5, hf⟩ | ⟨c5, hf⟩
  · refine g_iflt_t (pc := 9) (tgt := 21) dX4_acknowledge_9 (by decide) c5 ?_
    refine g_iconst (pc := 21) (v := (0 : Int32)) dX4_acknowledge_21 (by decide) ?_
    obtain rfl := Option.some.inj hf
    exact g_zret (pc := 22) rfl rfl dX4_acknowledge_22
  · refine g_iflt_f (pc := 9) (tgt := 21) dX4_acknowledge_9 (by decide) c5 ?_
    refine g_aload_n (pc := 12) 1 dX4_acknowledge_12 rfl rfl ?_
    refine g_getR (pc := 13) fl_X4_30 dX4_acknowledge_13 g3 ?_
    refine g_iload_n (pc := 16) 0 dX4_acknowledge_16 rfl rfl ?_
    obtain ⟨g6, hf⟩ := gs_some hf
    obtain ⟨b7, hf⟩ := gb_some hf
    refine g_iald (pc := 17) g6 b7 dX4_acknowledge_17 ?_
    rcases it_some hf with ⟨c8, hf⟩ | ⟨c8, hf⟩
    · refine g_ifne_t (pc := 18) (tgt := 23) dX4_acknowledge_18 (by decide) c8 ?_
      refine g_aload_n (pc := 23) 2 dX4_acknowledge_23 rfl rfl ?_
      refine g_iconst (pc := 24) (v := (4 : Int32)) dX4_acknowledge_24 (by decide) ?_
      obtain ⟨b9, hf⟩ := gb_some hf
      refine g_iald (pc := 25) g1 b9 dX4_acknowledge_25 ?_
      refine g_iconst (pc := 26) (v := (1 : Int32)) dX4_acknowledge_26 (by decide) ?_
      rcases it_some hf with ⟨c10, hf⟩ | ⟨c10, hf⟩
      · refine g_icne_t (pc := 27) (tgt := 50) dX4_acknowledge_27 (by decide) c10 ?_
        refine g_sub [1, 0] rfl ?_
        exact ok_X4_acknowledge_L50 l X h a0 v4 q hf
      · refine g_icne_f (pc := 27) (tgt := 50) dX4_acknowledge_27 (by decide) (Decidable.of_not_not c10) ?_
        refine g_aload_n (pc := 30) 2 dX4_acknowledge_30 rfl rfl ?_
        refine g_iconst (pc := 31) (v := (5 : Int32)) dX4_acknowledge_31 (by decide) ?_
        refine g_aload_n (pc := 32) 1 dX4_acknowledge_32 rfl rfl ?_
        refine g_getR (pc := 33) fl_X4_40 dX4_acknowledge_33 g3 ?_
        refine g_iload_n (pc := 36) 0 dX4_acknowledge_36 rfl rfl ?_
        refine g_iconst (pc := 37) (v := (4 : Int32)) dX4_acknowledge_37 (by decide) ?_
        refine g_imul (pc := 38) dX4_acknowledge_38 ?_
        refine g_iconst (pc := 39) (v := (4 : Int32)) dX4_acknowledge_39 (by decide) ?_
        obtain ⟨g11, hf⟩ := gs_some hf
        obtain ⟨b12, hf⟩ := gb_some hf
        obtain ⟨h13, eh13, hf⟩ := lt_some hf
        refine g_copy (pc := 40) acy_X4_86 g1 g11 b12 (by decide) (by decide) (by simp [rf_cat, rq_cat, ca_i, ca_l, ca_r]) dX4_acknowledge_40 eh13 ?_
        refine g_aload_n (pc := 43) 1 dX4_acknowledge_43 rfl rfl ?_
        have g14 : hS h13 a0 = 4 := (hS_tA eh13 g3)
        refine g_getR (pc := 44) fl_X4_33 dX4_acknowledge_44 g14 ?_
        refine g_iload_n (pc := 47) 0 dX4_acknowledge_47 rfl rfl ?_
        refine g_iconst (pc := 48) (v := (1 : Int32)) dX4_acknowledge_48 (by decide) ?_
        obtain ⟨g15, hf⟩ := gs_some hf
        obtain ⟨b16, hf⟩ := gb_some hf
        obtain ⟨h17, eh17, hf⟩ := lt_some hf
        refine g_zast (pc := 49) g15 b16 dX4_acknowledge_49 eh17 ?_
        refine g_sub [1, 0] rfl ?_
        exact ok_X4_acknowledge_L50 l X h17 a0 v4 q hf
    · refine g_ifne_f (pc := 18) (tgt := 23) dX4_acknowledge_18 (by decide) (Decidable.of_not_not c8) ?_
      refine g_iconst (pc := 21) (v := (0 : Int32)) dX4_acknowledge_21 (by decide) ?_
      obtain rfl := Option.some.inj hf
      exact g_zret (pc := 22) rfl rfl dX4_acknowledge_22
theorem ct_X4_acknowledge (l : Launch) (X : Cx) {h : AH} {a0 : Nat} {a1 : Nat} {q : Int32 × AH} (hf : f_X4_acknowledge h a0 a1 = some q) : Ct l X k_X4_acknowledge [rf X a0, rf X a1] h (rI q) := ct_of ck_X4_acknowledge (by simp [lg_sl, rf_cat, rq_cat, ca_i, ca_l, ca_r]) (by simp [lv_args, rf_cat, rq_cat, ca_i, ca_l, ca_r]) (ok_X4_acknowledge l X hf)
def f_X4_endRequest (h : AH) (a0 : Nat) (a1 : Int32) : Option (AH) :=
  gs h a0 4 <|
  bd (f_X4_find h a0 a1) fun v2 =>
  if v2 < 0 then
    some h
  else
    gs h (hR h a0 5) 21 <|
    gb (ib v2 (hN h (hR h a0 5))) <|
    lt (sI h (hR h a0 5) v2.toNatClampNeg (-1 : Int32)) fun h6 =>
    some h6
set_option maxRecDepth 100000 in
set_option maxHeartbeats 4000000 in
theorem ok_X4_endRequest (l : Launch) (X : Cx) {h : AH} {a0 : Nat} {a1 : Int32} {q : AH} (hf : f_X4_endRequest h a0 a1 = some q) : Go l X k_X4_endRequest 0 [(0, rf X a0), (1, .int a1)] [] h (rV q) := by
  unfold f_X4_endRequest at hf
  refine g_aload_n (pc := 0) 0 dX4_endRequest_0 rfl rfl ?_
  refine g_iload_n (pc := 1) 1 dX4_endRequest_1 rfl rfl ?_
  obtain ⟨g1, hf⟩ := gs_some hf
  obtain ⟨v2, hcv2, hf⟩ := bd_some hf
  refine g_cVI (pc := 2) (k2 := k_X4_find) (av := [.int a1]) (q := (v2, h)) rfl dX4_endRequest_2 ck_X4_find m_568 m_569 m_570 (ci := 3) rfl (by decide) g1 (by decide) (by decide) rfl (by simp [rf_cat, rq_cat, ca_i, ca_l, ca_r]) (ct_X4_find l X hcv2) ?_
  refine g_istore_n (pc := 5) (L' := [(2, .int v2), (0, rf X a0), (1, .int a1)]) dX4_endRequest_5 rfl (by decide) rfl rfl ?_
  refine g_iload_n (pc := 6) 0 dX4_endRequest_6 rfl rfl ?_
  rcases it_some hf with ⟨c3, hf⟩ | ⟨c3, hf⟩
  · refine g_iflt_t (pc := 7) (tgt := 17) dX4_endRequest_7 (by decide) c3 ?_
    obtain rfl := Option.some.inj hf
    exact g_vret (pc := 17) rfl dX4_endRequest_17
  · refine g_iflt_f (pc := 7) (tgt := 17) dX4_endRequest_7 (by decide) c3 ?_
    refine g_aload_n (pc := 10) 1 dX4_endRequest_10 rfl rfl ?_
    refine g_getR (pc := 11) fl_X4_24 dX4_endRequest_11 g1 ?_
    refine g_iload_n (pc := 14) 0 dX4_endRequest_14 rfl rfl ?_
    refine g_iconst (pc := 15) (v := (-1 : Int32)) dX4_endRequest_15 (by decide) ?_
    obtain ⟨g4, hf⟩ := gs_some hf
    obtain ⟨b5, hf⟩ := gb_some hf
    obtain ⟨h6, eh6, hf⟩ := lt_some hf
    refine g_iast (pc := 16) g4 b5 dX4_endRequest_16 eh6 ?_
    obtain rfl := Option.some.inj hf
    exact g_vret (pc := 17) rfl dX4_endRequest_17
theorem ct_X4_endRequest (l : Launch) (X : Cx) {h : AH} {a0 : Nat} {a1 : Int32} {q : AH} (hf : f_X4_endRequest h a0 a1 = some q) : Ct l X k_X4_endRequest [rf X a0, .int a1] h (rV q) := ct_of ck_X4_endRequest (by simp [lg_sl, rf_cat, rq_cat, ca_i, ca_l, ca_r]) (by simp [lv_args, rf_cat, rq_cat, ca_i, ca_l, ca_r]) (ok_X4_endRequest l X hf)
def f_X4_firstAt_L2 (h : AH) : Nat → Nat → Int32 → Int32 → Option (Int32)
  | 0, _, _, _ => none
  | n + 1, a0, a1, a2 =>
    gs h a0 4 <|
    if (hI h a0 12) ≤ a2 then
      some (-1 : Int32)
    else
      gs h (hR h a0 11) 21 <|
      gb (ib ((a2 * (9 : Int32)) + (3 : Int32)) (hN h (hR h a0 11))) <|
      if ¬ ((hI h (hR h a0 11) ((a2 * (9 : Int32)) + (3 : Int32)).toNatClampNeg) &&& ((hI h a0 13) - (1 : Int32))) = a1 then
        lt (a2 + (1 : Int32)) fun x6 =>
        f_X4_firstAt_L2 h n a0 a1 x6
      else
        some a2
set_option maxRecDepth 100000 in
set_option maxHeartbeats 4000000 in
theorem ok_X4_firstAt_L2 (l : Launch) (X : Cx) (h : AH) : ∀ (n : Nat) (a0 : Nat) (a1 : Int32) (a2 : Int32) (q : Int32), f_X4_firstAt_L2 h n a0 a1 a2 = some q → Go l X k_X4_firstAt 2 [(0, rf X a0), (1, .int a1), (2, .int a2)] [] h (rI (q, h)) := by
  intro n
  induction n with
  | zero =>
    intro a0 a1 a2 q hf
    unfold f_X4_firstAt_L2 at hf
    cases hf
  | succ n ih =>
    intro a0 a1 a2 q hf
    unfold f_X4_firstAt_L2 at hf
    refine g_iload_n (pc := 2) 2 dX4_firstAt_2 rfl rfl ?_
    refine g_aload_n (pc := 3) 0 dX4_firstAt_3 rfl rfl ?_
    obtain ⟨g1, hf⟩ := gs_some hf
    refine g_getI (pc := 4) fl_X4_69 dX4_firstAt_4 g1 ?_
    rcases it_some hf with ⟨c2, hf⟩ | ⟨c2, hf⟩
    · refine g_icge_t (pc := 7) (tgt := 40) dX4_firstAt_7 (by decide) c2 ?_
      refine g_iconst (pc := 40) (v := (-1 : Int32)) dX4_firstAt_40 (by decide) ?_
      obtain rfl := Option.some.inj hf
      exact g_iret (pc := 41) rfl dX4_firstAt_41
    · refine g_icge_f (pc := 7) (tgt := 40) dX4_firstAt_7 (by decide) c2 ?_
      refine g_aload_n (pc := 10) 0 dX4_firstAt_10 rfl rfl ?_
      refine g_getR (pc := 11) fl_X4_45 dX4_firstAt_11 g1 ?_
      refine g_iload_n (pc := 14) 2 dX4_firstAt_14 rfl rfl ?_
      refine g_bipush (pc := 15) (v := (9 : Int32)) dX4_firstAt_15 (by decide) ?_
      refine g_imul (pc := 17) dX4_firstAt_17 ?_
      refine g_iconst (pc := 18) (v := (3 : Int32)) dX4_firstAt_18 (by decide) ?_
      refine g_iadd (pc := 19) dX4_firstAt_19 ?_
      obtain ⟨g3, hf⟩ := gs_some hf
      obtain ⟨b4, hf⟩ := gb_some hf
      refine g_iald (pc := 20) g3 b4 dX4_firstAt_20 ?_
      refine g_aload_n (pc := 21) 0 dX4_firstAt_21 rfl rfl ?_
      refine g_getI (pc := 22) fl_X4_56 dX4_firstAt_22 g1 ?_
      refine g_iconst (pc := 25) (v := (1 : Int32)) dX4_firstAt_25 (by decide) ?_
      refine g_isub (pc := 26) dX4_firstAt_26 ?_
      refine g_iand (pc := 27) dX4_firstAt_27 ?_
      refine g_iload_n (pc := 28) 1 dX4_firstAt_28 rfl rfl ?_
      rcases it_some hf with ⟨c5, hf⟩ | ⟨c5, hf⟩
      · refine g_icne_t (pc := 29) (tgt := 34) dX4_firstAt_29 (by decide) c5 ?_
        obtain ⟨x6, ex6, hf⟩ := lt_some hf
        refine g_iinc (pc := 34) (y := x6) (L' := [(2, .int x6), (0, rf X a0), (1, .int a1)]) 2 dX4_firstAt_34 rfl (by decide) (ex6.trans rfl) rfl ?_
        refine g_goto (pc := 37) (tgt := 2) dX4_firstAt_37 (by decide) ?_
        refine g_sub [1, 2, 0] rfl ?_
        exact ih a0 a1 x6 q hf
      · refine g_icne_f (pc := 29) (tgt := 34) dX4_firstAt_29 (by decide) (Decidable.of_not_not c5) ?_
        refine g_iload_n (pc := 32) 2 dX4_firstAt_32 rfl rfl ?_
        obtain rfl := Option.some.inj hf
        exact g_iret (pc := 33) rfl dX4_firstAt_33
def f_X4_firstAt (h : AH) (a0 : Nat) (a1 : Int32) : Option (Int32) :=
  lt ((0 : Int32)) fun x1 =>
  f_X4_firstAt_L2 h FU a0 a1 x1
set_option maxRecDepth 100000 in
set_option maxHeartbeats 4000000 in
theorem ok_X4_firstAt (l : Launch) (X : Cx) {h : AH} {a0 : Nat} {a1 : Int32} {q : Int32} (hf : f_X4_firstAt h a0 a1 = some q) : Go l X k_X4_firstAt 0 [(0, rf X a0), (1, .int a1)] [] h (rI (q, h)) := by
  unfold f_X4_firstAt at hf
  refine g_iconst (pc := 0) (v := (0 : Int32)) dX4_firstAt_0 (by decide) ?_
  obtain ⟨x1, ex1, hf⟩ := lt_some hf
  refine g_istore_n (pc := 1) (L' := [(2, .int x1), (0, rf X a0), (1, .int a1)]) dX4_firstAt_1 rfl (by decide) ex1 rfl ?_
  refine g_sub [1, 2, 0] rfl ?_
  exact ok_X4_firstAt_L2 l X h FU a0 a1 x1 q hf
theorem ct_X4_firstAt (l : Launch) (X : Cx) {h : AH} {a0 : Nat} {a1 : Int32} {q : Int32} (hf : f_X4_firstAt h a0 a1 = some q) : Ct l X k_X4_firstAt [rf X a0, .int a1] h (rI (q, h)) := ct_of ck_X4_firstAt (by simp [lg_sl, rf_cat, rq_cat, ca_i, ca_l, ca_r]) (by simp [lv_args, rf_cat, rq_cat, ca_i, ca_l, ca_r]) (ok_X4_firstAt l X hf)
def f_X4_takeBack_L55 (h : AH) (a0 : Nat) (a2 : Int32) (a3 : Int32) : Option (AH) :=
  gs h a0 4 <|
  gs h (hR h a0 11) 21 <|
  gb (ib (a2 + (3 : Int32)) (hN h (hR h a0 11))) <|
  gs h (hR h a0 0) 5 <|
  bd (f_X6_send h (hR h a0 0) (9 : Int32) (16 : Int32) a3 (hI h (hR h a0 11) (a2 + (3 : Int32)).toNatClampNeg) 0 (0 : Int32)) fun q5 =>
  some q5
set_option maxRecDepth 100000 in
set_option maxHeartbeats 4000000 in
theorem ok_X4_takeBack_L55 (l : Launch) (X : Cx) (h : AH) (a0 : Nat) (a2 : Int32) (a3 : Int32) (q : AH) (hf : f_X4_takeBack_L55 h a0 a2 a3 = some q) : Go l X k_X4_takeBack 55 [(0, rf X a0), (2, .int a2), (3, .int a3)] [] h (rV q) := by
  unfold f_X4_takeBack_L55 at hf
  refine g_aload_n (pc := 55) 0 dX4_takeBack_55 rfl rfl ?_
  obtain ⟨g1, hf⟩ := gs_some hf
  refine g_getR (pc := 56) fl_X4_48 dX4_takeBack_56 g1 ?_
  refine g_bipush (pc := 59) (v := (9 : Int32)) dX4_takeBack_59 (by decide) ?_
  refine g_bipush (pc := 61) (v := (16 : Int32)) dX4_takeBack_61 (by decide) ?_
  refine g_iload_n (pc := 63) 2 dX4_takeBack_63 rfl rfl ?_
  refine g_aload_n (pc := 64) 0 dX4_takeBack_64 rfl rfl ?_
  refine g_getR (pc := 65) fl_X4_45 dX4_takeBack_65 g1 ?_
  refine g_iload_n (pc := 68) 1 dX4_takeBack_68 rfl rfl ?_
  refine g_iconst (pc := 69) (v := (3 : Int32)) dX4_takeBack_69 (by decide) ?_
  refine g_iadd (pc := 70) dX4_takeBack_70 ?_
  obtain ⟨g2, hf⟩ := gs_some hf
  obtain ⟨b3, hf⟩ := gb_some hf
  refine g_iald (pc := 71) g2 b3 dX4_takeBack_71 ?_
  refine g_null (pc := 72) dX4_takeBack_72 ?_
  refine g_iconst (pc := 73) (v := (0 : Int32)) dX4_takeBack_73 (by decide) ?_
  obtain ⟨g4, hf⟩ := gs_some hf
  obtain ⟨q5, hcq5, hf⟩ := bd_some hf
  refine g_cVV (pc := 74) (k2 := k_X6_send) (av := [.int (9 : Int32), .int (16 : Int32), .int a3, .int (hI h (hR h a0 11) (a2 + (3 : Int32)).toNatClampNeg), rf X 0, .int (0 : Int32)]) (q := q5) rfl dX4_takeBack_74 ck_X6_send m_581 m_582 m_583 (ci := 4) rfl (by decide) g4 (by decide) (by decide) rfl (by simp [rf_cat, rq_cat, ca_i, ca_l, ca_r]) (ct_X6_send l X hcq5) ?_
  obtain rfl := Option.some.inj hf
  exact g_vret (pc := 77) rfl dX4_takeBack_77
def f_X4_takeBack (h : AH) (a0 : Nat) (a1 : Int32) (a2 : Int32) : Option (AH) :=
  gs h a0 4 <|
  gs h (hR h a0 11) 21 <|
  gb (ib (a2 + (1 : Int32)) (hN h (hR h a0 11))) <|
  lt ((hI h (hR h a0 11) (a2 + (1 : Int32)).toNatClampNeg)) fun x4 =>
  if a1 < 0 then
    f_X4_takeBack_L55 h a0 a2 x4
  else
    gs h (hR h a0 3) 21 <|
    gb (ib a1 (hN h (hR h a0 3))) <|
    if ¬ (hI h (hR h a0 3) a1.toNatClampNeg) = x4 then
      f_X4_takeBack_L55 h a0 a2 x4
    else
      gs h (hR h a0 10) 21 <|
      gb (cpok (a2 + (5 : Int32)) (a1 * (4 : Int32)) (4 : Int32) (hN h (hR h a0 11)) (hN h (hR h a0 10))) <|
      lt (sA h (hR h a0 10) (va_cpy (hI h (hR h a0 11)) (hI h (hR h a0 10)) (a2 + (5 : Int32)).toNatClampNeg (a1 * (4 : Int32)).toNatClampNeg (4 : Int32).toNatClampNeg)) fun h11 =>
      gs h11 (hR h11 a0 8) 24 <|
      gb (ib a1 (hN h11 (hR h11 a0 8))) <|
      lt (sI h11 (hR h11 a0 8) a1.toNatClampNeg ((1 : Int32) &&& 1)) fun h15 =>
      gs h15 (hR h15 a0 3) 21 <|
      gb (ib a1 (hN h15 (hR h15 a0 3))) <|
      lt (sI h15 (hR h15 a0 3) a1.toNatClampNeg (-1 : Int32)) fun h19 =>
      f_X4_takeBack_L55 h19 a0 a2 x4
set_option maxRecDepth 100000 in
set_option maxHeartbeats 4000000 in
theorem ok_X4_takeBack (l : Launch) (X : Cx) {h : AH} {a0 : Nat} {a1 : Int32} {a2 : Int32} {q : AH} (hf : f_X4_takeBack h a0 a1 a2 = some q) : Go l X k_X4_takeBack 0 [(0, rf X a0), (1, .int a1), (2, .int a2)] [] h (rV q) := by
  unfold f_X4_takeBack at hf
  refine g_aload_n (pc := 0) 0 dX4_takeBack_0 rfl rfl ?_
  obtain ⟨g1, hf⟩ := gs_some hf
  refine g_getR (pc := 1) fl_X4_45 dX4_takeBack_1 g1 ?_
  refine g_iload_n (pc := 4) 2 dX4_takeBack_4 rfl rfl ?_
  refine g_iconst (pc := 5) (v := (1 : Int32)) dX4_takeBack_5 (by decide) ?_
  refine g_iadd (pc := 6) dX4_takeBack_6 ?_
  obtain ⟨g2, hf⟩ := gs_some hf
  obtain ⟨b3, hf⟩ := gb_some hf
  refine g_iald (pc := 7) g2 b3 dX4_takeBack_7 ?_
  obtain ⟨x4, ex4, hf⟩ := lt_some hf
  refine g_istore_n (pc := 8) (L' := [(3, .int x4), (0, rf X a0), (1, .int a1), (2, .int a2)]) dX4_takeBack_8 rfl (by decide) ex4 rfl ?_
  refine g_iload_n (pc := 9) 2 dX4_takeBack_9 rfl rfl ?_
  rcases it_some hf with ⟨c5, hf⟩ | ⟨c5, hf⟩
  · refine g_iflt_t (pc := 10) (tgt := 55) dX4_takeBack_10 (by decide) c5 ?_
    refine g_sub [1, 3, 0] rfl ?_
    exact ok_X4_takeBack_L55 l X h a0 a2 x4 q hf
  · refine g_iflt_f (pc := 10) (tgt := 55) dX4_takeBack_10 (by decide) c5 ?_
    refine g_aload_n (pc := 13) 1 dX4_takeBack_13 rfl rfl ?_
    refine g_getR (pc := 14) fl_X4_18 dX4_takeBack_14 g1 ?_
    refine g_iload_n (pc := 17) 2 dX4_takeBack_17 rfl rfl ?_
    obtain ⟨g6, hf⟩ := gs_some hf
    obtain ⟨b7, hf⟩ := gb_some hf
    refine g_iald (pc := 18) g6 b7 dX4_takeBack_18 ?_
    refine g_iload_n (pc := 19) 0 dX4_takeBack_19 rfl rfl ?_
    rcases it_some hf with ⟨c8, hf⟩ | ⟨c8, hf⟩
    · refine g_icne_t (pc := 20) (tgt := 55) dX4_takeBack_20 (by decide) c8 ?_
      refine g_sub [1, 3, 0] rfl ?_
      exact ok_X4_takeBack_L55 l X h a0 a2 x4 q hf
    · refine g_icne_f (pc := 20) (tgt := 55) dX4_takeBack_20 (by decide) (Decidable.of_not_not c8) ?_
      refine g_aload_n (pc := 23) 1 dX4_takeBack_23 rfl rfl ?_
      refine g_getR (pc := 24) fl_X4_45 dX4_takeBack_24 g1 ?_
      refine g_iload_n (pc := 27) 3 dX4_takeBack_27 rfl rfl ?_
      refine g_iconst (pc := 28) (v := (5 : Int32)) dX4_takeBack_28 (by decide) ?_
      refine g_iadd (pc := 29) dX4_takeBack_29 ?_
      refine g_aload_n (pc := 30) 1 dX4_takeBack_30 rfl rfl ?_
      refine g_getR (pc := 31) fl_X4_40 dX4_takeBack_31 g1 ?_
      refine g_iload_n (pc := 34) 2 dX4_takeBack_34 rfl rfl ?_
      refine g_iconst (pc := 35) (v := (4 : Int32)) dX4_takeBack_35 (by decide) ?_
      refine g_imul (pc := 36) dX4_takeBack_36 ?_
      refine g_iconst (pc := 37) (v := (4 : Int32)) dX4_takeBack_37 (by decide) ?_
      obtain ⟨g9, hf⟩ := gs_some hf
      obtain ⟨b10, hf⟩ := gb_some hf
      obtain ⟨h11, eh11, hf⟩ := lt_some hf
      refine g_copy (pc := 38) acy_X4_86 g2 g9 b10 (by decide) (by decide) (by simp [rf_cat, rq_cat, ca_i, ca_l, ca_r]) dX4_takeBack_38 eh11 ?_
      refine g_aload_n (pc := 41) 1 dX4_takeBack_41 rfl rfl ?_
      have g12 : hS h11 a0 = 4 := (hS_tA eh11 g1)
      refine g_getR (pc := 42) fl_X4_33 dX4_takeBack_42 g12 ?_
      refine g_iload_n (pc := 45) 2 dX4_takeBack_45 rfl rfl ?_
      refine g_iconst (pc := 46) (v := (1 : Int32)) dX4_takeBack_46 (by decide) ?_
      obtain ⟨g13, hf⟩ := gs_some hf
      obtain ⟨b14, hf⟩ := gb_some hf
      obtain ⟨h15, eh15, hf⟩ := lt_some hf
      refine g_zast (pc := 47) g13 b14 dX4_takeBack_47 eh15 ?_
      refine g_aload_n (pc := 48) 1 dX4_takeBack_48 rfl rfl ?_
      have g16 : hS h15 a0 = 4 := (hS_tI eh15 g12)
      refine g_getR (pc := 49) fl_X4_18 dX4_takeBack_49 g16 ?_
      refine g_iload_n (pc := 52) 2 dX4_takeBack_52 rfl rfl ?_
      refine g_iconst (pc := 53) (v := (-1 : Int32)) dX4_takeBack_53 (by decide) ?_
      obtain ⟨g17, hf⟩ := gs_some hf
      obtain ⟨b18, hf⟩ := gb_some hf
      obtain ⟨h19, eh19, hf⟩ := lt_some hf
      refine g_iast (pc := 54) g17 b18 dX4_takeBack_54 eh19 ?_
      refine g_sub [1, 3, 0] rfl ?_
      exact ok_X4_takeBack_L55 l X h19 a0 a2 x4 q hf
theorem ct_X4_takeBack (l : Launch) (X : Cx) {h : AH} {a0 : Nat} {a1 : Int32} {a2 : Int32} {q : AH} (hf : f_X4_takeBack h a0 a1 a2 = some q) : Ct l X k_X4_takeBack [rf X a0, .int a1, .int a2] h (rV q) := ct_of ck_X4_takeBack (by simp [lg_sl, rf_cat, rq_cat, ca_i, ca_l, ca_r]) (by simp [lv_args, rf_cat, rq_cat, ca_i, ca_l, ca_r]) (ok_X4_takeBack l X hf)
def f_X4_wayToFree_L78 (h : AH) (k19 : Nat → Int32 → Int32 → Int32 → Option (Int32)) (a0 : Nat) (a2 : Int32) (a3 : Int32) (a4 : Int32) : Option (Int32) :=
  lt (a4 + (1 : Int32)) fun x1 =>
  k19 a0 a2 a3 x1
set_option maxRecDepth 100000 in
set_option maxHeartbeats 4000000 in
theorem ok_X4_wayToFree_L78 (l : Launch) (X : Cx) (h : AH) (k19 : Nat → Int32 → Int32 → Int32 → Option (Int32)) (hk19 : ∀ (a0 : Nat) (a2 : Int32) (a3 : Int32) (a4 : Int32) (q : Int32), k19 a0 a2 a3 a4 = some q → Go l X k_X4_wayToFree 19 [(0, rf X a0), (2, .int a2), (3, .int a3), (4, .int a4)] [] h (rI (q, h))) (a0 : Nat) (a2 : Int32) (a3 : Int32) (a4 : Int32) (q : Int32) (hf : f_X4_wayToFree_L78 h k19 a0 a2 a3 a4 = some q) : Go l X k_X4_wayToFree 78 [(0, rf X a0), (2, .int a2), (3, .int a3), (4, .int a4)] [] h (rI (q, h)) := by
  unfold f_X4_wayToFree_L78 at hf
  obtain ⟨x1, ex1, hf⟩ := lt_some hf
  refine g_iinc (pc := 78) (y := x1) (L' := [(4, .int x1), (0, rf X a0), (2, .int a2), (3, .int a3)]) 3 dX4_wayToFree_78 rfl (by decide) (ex1.trans rfl) rfl ?_
  refine g_goto (pc := 81) (tgt := 19) dX4_wayToFree_81 (by decide) ?_
  refine g_sub [1, 2, 3, 0] rfl ?_
  exact hk19 a0 a2 a3 x1 q hf
def f_X4_wayToFree_L75 (h : AH) (k19 : Nat → Int32 → Int32 → Int32 → Option (Int32)) (a0 : Nat) (a2 : Int32) (a4 : Int32) : Option (Int32) :=
  f_X4_wayToFree_L78 h k19 a0 a2 a4 a4
set_option maxRecDepth 100000 in
set_option maxHeartbeats 4000000 in
theorem ok_X4_wayToFree_L75 (l : Launch) (X : Cx) (h : AH) (k19 : Nat → Int32 → Int32 → Int32 → Option (Int32)) (hk19 : ∀ (a0 : Nat) (a2 : Int32) (a3 : Int32) (a4 : Int32) (q : Int32), k19 a0 a2 a3 a4 = some q → Go l X k_X4_wayToFree 19 [(0, rf X a0), (2, .int a2), (3, .int a3), (4, .int a4)] [] h (rI (q, h))) (a0 : Nat) (a2 : Int32) (a4 : Int32) (q : Int32) (hf : f_X4_wayToFree_L75 h k19 a0 a2 a4 = some q) : Go l X k_X4_wayToFree 75 [(0, rf X a0), (2, .int a2), (4, .int a4)] [] h (rI (q, h)) := by
  unfold f_X4_wayToFree_L75 at hf
  refine g_iload (pc := 75) 2 dX4_wayToFree_75 rfl ?_
  refine g_istore_n (pc := 77) (L' := [(3, .int a4), (0, rf X a0), (2, .int a2), (4, .int a4)]) dX4_wayToFree_77 rfl (by decide) rfl rfl ?_
  refine g_sub [1, 2, 0, 3] rfl ?_
  exact ok_X4_wayToFree_L78 l X h k19 hk19 a0 a2 a4 a4 q hf
def f_X4_wayToFree_L19 (h : AH) : Nat → Nat → Int32 → Int32 → Int32 → Option (Int32)
  | 0, _, _, _, _ => none
  | n + 1, a0, a2, a3, a4 =>
    gs h a0 4 <|
    if (a2 + (hI h a0 14)) ≤ a4 then
      some a3
    else
      gs h (hR h a0 2) 21 <|
      gb (ib a4 (hN h (hR h a0 2))) <|
      if ¬ (hI h (hR h a0 2) a4.toNatClampNeg) = (-1 : Int32) then
        gs h (hR h a0 5) 21 <|
        gb (ib a4 (hN h (hR h a0 5))) <|
        if ¬ (hI h (hR h a0 5) a4.toNatClampNeg) = (-1 : Int32) then
          f_X4_wayToFree_L78 h (f_X4_wayToFree_L19 h n) a0 a2 a3 a4
        else
          if a3 < 0 then
            f_X4_wayToFree_L75 h (f_X4_wayToFree_L19 h n) a0 a2 a4
          else
            gs h (hR h a0 9) 21 <|
            gb (ib a4 (hN h (hR h a0 9))) <|
            gb (ib a3 (hN h (hR h a0 9))) <|
            if (hI h (hR h a0 9) a3.toNatClampNeg) ≤ (hI h (hR h a0 9) a4.toNatClampNeg) then
              f_X4_wayToFree_L78 h (f_X4_wayToFree_L19 h n) a0 a2 a3 a4
            else
              f_X4_wayToFree_L75 h (f_X4_wayToFree_L19 h n) a0 a2 a4
      else
        some a4
set_option maxRecDepth 100000 in
set_option maxHeartbeats 4000000 in
theorem ok_X4_wayToFree_L19 (l : Launch) (X : Cx) (h : AH) : ∀ (n : Nat) (a0 : Nat) (a2 : Int32) (a3 : Int32) (a4 : Int32) (q : Int32), f_X4_wayToFree_L19 h n a0 a2 a3 a4 = some q → Go l X k_X4_wayToFree 19 [(0, rf X a0), (2, .int a2), (3, .int a3), (4, .int a4)] [] h (rI (q, h)) := by
  intro n
  induction n with
  | zero =>
    intro a0 a2 a3 a4 q hf
    unfold f_X4_wayToFree_L19 at hf
    cases hf
  | succ n ih =>
    intro a0 a2 a3 a4 q hf
    unfold f_X4_wayToFree_L19 at hf
    refine g_iload (pc := 19) 3 dX4_wayToFree_19 rfl ?_
    refine g_iload_n (pc := 21) 1 dX4_wayToFree_21 rfl rfl ?_
    refine g_aload_n (pc := 22) 0 dX4_wayToFree_22 rfl rfl ?_
    obtain ⟨g1, hf⟩ := gs_some hf
    refine g_getI (pc := 23) fl_X4_60 dX4_wayToFree_23 g1 ?_
    refine g_iadd (pc := 26) dX4_wayToFree_26 ?_
    rcases it_some hf with ⟨c2, hf⟩ | ⟨c2, hf⟩
    · refine g_icge_t (pc := 27) (tgt := 84) dX4_wayToFree_27 (by decide) c2 ?_
      refine g_iload_n (pc := 84) 2 dX4_wayToFree_84 rfl rfl ?_
      obtain rfl := Option.some.inj hf
      exact g_iret (pc := 85) rfl dX4_wayToFree_85
    · refine g_icge_f (pc := 27) (tgt := 84) dX4_wayToFree_27 (by decide) c2 ?_
      refine g_aload_n (pc := 30) 0 dX4_wayToFree_30 rfl rfl ?_
      refine g_getR (pc := 31) fl_X4_15 dX4_wayToFree_31 g1 ?_
      refine g_iload (pc := 34) 3 dX4_wayToFree_34 rfl ?_
      obtain ⟨g3, hf⟩ := gs_some hf
      obtain ⟨b4, hf⟩ := gb_some hf
      refine g_iald (pc := 36) g3 b4 dX4_wayToFree_36 ?_
      refine g_iconst (pc := 37) (v := (-1 : Int32)) dX4_wayToFree_37 (by decide) ?_
      rcases it_some hf with ⟨c5, hf⟩ | ⟨c5, hf⟩
      · refine g_icne_t (pc := 38) (tgt := 44) dX4_wayToFree_38 (by decide) c5 ?_
        refine g_aload_n (pc := 44) 0 dX4_wayToFree_44 rfl rfl ?_
        refine g_getR (pc := 45) fl_X4_24 dX4_wayToFree_45 g1 ?_
        refine g_iload (pc := 48) 3 dX4_wayToFree_48 rfl ?_
        obtain ⟨g6, hf⟩ := gs_some hf
        obtain ⟨b7, hf⟩ := gb_some hf
        refine g_iald (pc := 50) g6 b7 dX4_wayToFree_50 ?_
        refine g_iconst (pc := 51) (v := (-1 : Int32)) dX4_wayToFree_51 (by decide) ?_
        rcases it_some hf with ⟨c8, hf⟩ | ⟨c8, hf⟩
        · refine g_icne_t (pc := 52) (tgt := 78) dX4_wayToFree_52 (by decide) c8 ?_
          exact ok_X4_wayToFree_L78 l X h (f_X4_wayToFree_L19 h n) ih a0 a2 a3 a4 q hf
        · refine g_icne_f (pc := 52) (tgt := 78) dX4_wayToFree_52 (by decide) (Decidable.of_not_not c8) ?_
          refine g_iload_n (pc := 55) 2 dX4_wayToFree_55 rfl rfl ?_
          rcases it_some hf with ⟨c9, hf⟩ | ⟨c9, hf⟩
          · refine g_iflt_t (pc := 56) (tgt := 75) dX4_wayToFree_56 (by decide) c9 ?_
            refine g_sub [0, 1, 3] rfl ?_
            exact ok_X4_wayToFree_L75 l X h (f_X4_wayToFree_L19 h n) ih a0 a2 a4 q hf
          · refine g_iflt_f (pc := 56) (tgt := 75) dX4_wayToFree_56 (by decide) c9 ?_
            refine g_aload_n (pc := 59) 0 dX4_wayToFree_59 rfl rfl ?_
            refine g_getR (pc := 60) fl_X4_37 dX4_wayToFree_60 g1 ?_
            refine g_iload (pc := 63) 3 dX4_wayToFree_63 rfl ?_
            obtain ⟨g10, hf⟩ := gs_some hf
            obtain ⟨b11, hf⟩ := gb_some hf
            refine g_iald (pc := 65) g10 b11 dX4_wayToFree_65 ?_
            refine g_aload_n (pc := 66) 0 dX4_wayToFree_66 rfl rfl ?_
            refine g_getR (pc := 67) fl_X4_37 dX4_wayToFree_67 g1 ?_
            refine g_iload_n (pc := 70) 2 dX4_wayToFree_70 rfl rfl ?_
            obtain ⟨b12, hf⟩ := gb_some hf
            refine g_iald (pc := 71) g10 b12 dX4_wayToFree_71 ?_
            rcases it_some hf with ⟨c13, hf⟩ | ⟨c13, hf⟩
            · refine g_icge_t (pc := 72) (tgt := 78) dX4_wayToFree_72 (by decide) c13 ?_
              exact ok_X4_wayToFree_L78 l X h (f_X4_wayToFree_L19 h n) ih a0 a2 a3 a4 q hf
            · refine g_icge_f (pc := 72) (tgt := 78) dX4_wayToFree_72 (by decide) c13 ?_
              refine g_sub [0, 1, 3] rfl ?_
              exact ok_X4_wayToFree_L75 l X h (f_X4_wayToFree_L19 h n) ih a0 a2 a4 q hf
      · refine g_icne_f (pc := 38) (tgt := 44) dX4_wayToFree_38 (by decide) (Decidable.of_not_not c5) ?_
        refine g_iload (pc := 41) 3 dX4_wayToFree_41 rfl ?_
        obtain rfl := Option.some.inj hf
        exact g_iret (pc := 43) rfl dX4_wayToFree_43
def f_X4_wayToFree (h : AH) (a0 : Nat) (a1 : Int32) : Option (Int32) :=
  gs h a0 4 <|
  lt (((a1 &&& ((hI h a0 13) - (1 : Int32))) * (hI h a0 14))) fun x2 =>
  lt ((-1 : Int32)) fun x3 =>
  f_X4_wayToFree_L19 h FU a0 x2 x3 x2
set_option maxRecDepth 100000 in
set_option maxHeartbeats 4000000 in
theorem ok_X4_wayToFree (l : Launch) (X : Cx) {h : AH} {a0 : Nat} {a1 : Int32} {q : Int32} (hf : f_X4_wayToFree h a0 a1 = some q) : Go l X k_X4_wayToFree 0 [(0, rf X a0), (1, .int a1)] [] h (rI (q, h)) := by
  unfold f_X4_wayToFree at hf
  refine g_iload_n (pc := 0) 1 dX4_wayToFree_0 rfl rfl ?_
  refine g_aload_n (pc := 1) 0 dX4_wayToFree_1 rfl rfl ?_
  obtain ⟨g1, hf⟩ := gs_some hf
  refine g_getI (pc := 2) fl_X4_56 dX4_wayToFree_2 g1 ?_
  refine g_iconst (pc := 5) (v := (1 : Int32)) dX4_wayToFree_5 (by decide) ?_
  refine g_isub (pc := 6) dX4_wayToFree_6 ?_
  refine g_iand (pc := 7) dX4_wayToFree_7 ?_
  refine g_aload_n (pc := 8) 0 dX4_wayToFree_8 rfl rfl ?_
  refine g_getI (pc := 9) fl_X4_60 dX4_wayToFree_9 g1 ?_
  refine g_imul (pc := 12) dX4_wayToFree_12 ?_
  obtain ⟨x2, ex2, hf⟩ := lt_some hf
  refine g_istore_n (pc := 13) (L' := [(2, .int x2), (0, rf X a0), (1, .int a1)]) dX4_wayToFree_13 rfl (by decide) ex2 rfl ?_
  refine g_iconst (pc := 14) (v := (-1 : Int32)) dX4_wayToFree_14 (by decide) ?_
  obtain ⟨x3, ex3, hf⟩ := lt_some hf
  refine g_istore_n (pc := 15) (L' := [(3, .int x3), (2, .int x2), (0, rf X a0), (1, .int a1)]) dX4_wayToFree_15 rfl (by decide) ex3 rfl ?_
  refine g_iload_n (pc := 16) 1 dX4_wayToFree_16 rfl rfl ?_
  refine g_istore (pc := 17) (L' := [(4, .int x2), (3, .int x3), (2, .int x2), (0, rf X a0), (1, .int a1)]) dX4_wayToFree_17 (by decide) rfl rfl ?_
  refine g_sub [3, 2, 1, 0] rfl ?_
  exact ok_X4_wayToFree_L19 l X h FU a0 x2 x3 x2 q hf
theorem ct_X4_wayToFree (l : Launch) (X : Cx) {h : AH} {a0 : Nat} {a1 : Int32} {q : Int32} (hf : f_X4_wayToFree h a0 a1 = some q) : Ct l X k_X4_wayToFree [rf X a0, .int a1] h (rI (q, h)) := ct_of ck_X4_wayToFree (by simp [lg_sl, rf_cat, rq_cat, ca_i, ca_l, ca_r]) (by simp [lv_args, rf_cat, rq_cat, ca_i, ca_l, ca_r]) (ok_X4_wayToFree l X hf)
def f_X4_invite_L77 (k2 : AH → Nat → Int32 → Int32 → Int32 → Option (AH)) (h : AH) (a0 : Nat) (a1 : Int32) (a2 : Int32) (a3 : Int32) : Option (AH) :=
  lt (a3 + (1 : Int32)) fun x1 =>
  k2 h a0 a1 a2 x1
set_option maxRecDepth 100000 in
set_option maxHeartbeats 4000000 in
theorem ok_X4_invite_L77 (l : Launch) (X : Cx) (k2 : AH → Nat → Int32 → Int32 → Int32 → Option (AH)) (hk2 : ∀ (h : AH) (a0 : Nat) (a1 : Int32) (a2 : Int32) (a3 : Int32) (q : AH), k2 h a0 a1 a2 a3 = some q → Go l X k_X4_invite 2 [(0, rf X a0), (1, .int a1), (2, .int a2), (3, .int a3)] [] h (rV q)) (h : AH) (a0 : Nat) (a1 : Int32) (a2 : Int32) (a3 : Int32) (q : AH) (hf : f_X4_invite_L77 k2 h a0 a1 a2 a3 = some q) : Go l X k_X4_invite 77 [(0, rf X a0), (1, .int a1), (2, .int a2), (3, .int a3)] [] h (rV q) := by
  unfold f_X4_invite_L77 at hf
  obtain ⟨x1, ex1, hf⟩ := lt_some hf
  refine g_iinc (pc := 77) (y := x1) (L' := [(3, .int x1), (0, rf X a0), (1, .int a1), (2, .int a2)]) 3 dX4_invite_77 rfl (by decide) (ex1.trans rfl) rfl ?_
  refine g_goto (pc := 80) (tgt := 2) dX4_invite_80 (by decide) ?_
  refine g_sub [1, 2, 3, 0] rfl ?_
  exact hk2 h a0 a1 a2 x1 q hf
def f_X4_invite_L36 (k2 : AH → Nat → Int32 → Int32 → Int32 → Option (AH)) (h : AH) (a0 : Nat) (a1 : Int32) (a2 : Int32) (a3 : Int32) (s0 : Int32) : Option (AH) :=
  if s0 = 0 then
    f_X4_invite_L77 k2 h a0 a1 a2 a3
  else
    if a3 = a2 then
      f_X4_invite_L77 k2 h a0 a1 a2 a3
    else
      gs h a0 4 <|
      gs h (hR h a0 2) 21 <|
      gb (ib a1 (hN h (hR h a0 2))) <|
      gs h (hR h a0 0) 5 <|
      bd (f_X6_send h (hR h a0 0) (3 : Int32) (16 : Int32) a3 (hI h (hR h a0 2) a1.toNatClampNeg) 0 (0 : Int32)) fun q7 =>
      gs q7 a0 4 <|
      gs q7 (hR q7 a0 7) 21 <|
      gb (ib a1 (hN q7 (hR q7 a0 7))) <|
      gb (ib a1 (hN q7 (hR q7 a0 7))) <|
      lt (sI q7 (hR q7 a0 7) a1.toNatClampNeg ((hI q7 (hR q7 a0 7) a1.toNatClampNeg) + (1 : Int32))) fun h12 =>
      f_X4_invite_L77 k2 h12 a0 a1 a2 a3
set_option maxRecDepth 100000 in
set_option maxHeartbeats 4000000 in
theorem ok_X4_invite_L36 (l : Launch) (X : Cx) (k2 : AH → Nat → Int32 → Int32 → Int32 → Option (AH)) (hk2 : ∀ (h : AH) (a0 : Nat) (a1 : Int32) (a2 : Int32) (a3 : Int32) (q : AH), k2 h a0 a1 a2 a3 = some q → Go l X k_X4_invite 2 [(0, rf X a0), (1, .int a1), (2, .int a2), (3, .int a3)] [] h (rV q)) (h : AH) (a0 : Nat) (a1 : Int32) (a2 : Int32) (a3 : Int32) (s0 : Int32) (q : AH) (hf : f_X4_invite_L36 k2 h a0 a1 a2 a3 s0 = some q) : Go l X k_X4_invite 36 [(0, rf X a0), (1, .int a1), (2, .int a2), (3, .int a3)] [.int s0] h (rV q) := by
  unfold f_X4_invite_L36 at hf
  refine g_istore (pc := 36) (L' := [(4, .int s0), (0, rf X a0), (1, .int a1), (2, .int a2), (3, .int a3)]) dX4_invite_36 (by decide) rfl rfl ?_
  refine g_iload (pc := 38) 0 dX4_invite_38 rfl ?_
  rcases it_some hf with ⟨c1, hf⟩ | ⟨c1, hf⟩
  · refine g_ifeq_t (pc := 40) (tgt := 77) dX4_invite_40 (by decide) c1 ?_
    refine g_sub [1, 2, 3, 4] rfl ?_
    exact ok_X4_invite_L77 l X k2 hk2 h a0 a1 a2 a3 q hf
  · refine g_ifeq_f (pc := 40) (tgt := 77) dX4_invite_40 (by decide) c1 ?_
    refine g_iload_n (pc := 43) 4 dX4_invite_43 rfl rfl ?_
    refine g_iload_n (pc := 44) 3 dX4_invite_44 rfl rfl ?_
    rcases it_some hf with ⟨c2, hf⟩ | ⟨c2, hf⟩
    · refine g_iceq_t (pc := 45) (tgt := 77) dX4_invite_45 (by decide) c2 ?_
      refine g_sub [1, 2, 3, 4] rfl ?_
      exact ok_X4_invite_L77 l X k2 hk2 h a0 a1 a2 a3 q hf
    · refine g_iceq_f (pc := 45) (tgt := 77) dX4_invite_45 (by decide) c2 ?_
      refine g_aload_n (pc := 48) 1 dX4_invite_48 rfl rfl ?_
      obtain ⟨g3, hf⟩ := gs_some hf
      refine g_getR (pc := 49) fl_X4_48 dX4_invite_49 g3 ?_
      refine g_iconst (pc := 52) (v := (3 : Int32)) dX4_invite_52 (by decide) ?_
      refine g_bipush (pc := 53) (v := (16 : Int32)) dX4_invite_53 (by decide) ?_
      refine g_iload_n (pc := 55) 4 dX4_invite_55 rfl rfl ?_
      refine g_aload_n (pc := 56) 1 dX4_invite_56 rfl rfl ?_
      refine g_getR (pc := 57) fl_X4_15 dX4_invite_57 g3 ?_
      refine g_iload_n (pc := 60) 2 dX4_invite_60 rfl rfl ?_
      obtain ⟨g4, hf⟩ := gs_some hf
      obtain ⟨b5, hf⟩ := gb_some hf
      refine g_iald (pc := 61) g4 b5 dX4_invite_61 ?_
      refine g_null (pc := 62) dX4_invite_62 ?_
      refine g_iconst (pc := 63) (v := (0 : Int32)) dX4_invite_63 (by decide) ?_
      obtain ⟨g6, hf⟩ := gs_some hf
      obtain ⟨q7, hcq7, hf⟩ := bd_some hf
      refine g_cVV (pc := 64) (k2 := k_X6_send) (av := [.int (3 : Int32), .int (16 : Int32), .int a3, .int (hI h (hR h a0 2) a1.toNatClampNeg), rf X 0, .int (0 : Int32)]) (q := q7) rfl dX4_invite_64 ck_X6_send m_581 m_582 m_583 (ci := 4) rfl (by decide) g6 (by decide) (by decide) rfl (by simp [rf_cat, rq_cat, ca_i, ca_l, ca_r]) (ct_X6_send l X hcq7) ?_
      refine g_aload_n (pc := 67) 1 dX4_invite_67 rfl rfl ?_
      obtain ⟨g8, hf⟩ := gs_some hf
      refine g_getR (pc := 68) fl_X4_30 dX4_invite_68 g8 ?_
      refine g_iload_n (pc := 71) 2 dX4_invite_71 rfl rfl ?_
      refine g_dup2 (pc := 72) dX4_invite_72 rfl (rf_cat X _) ?_
      obtain ⟨g9, hf⟩ := gs_some hf
      obtain ⟨b10, hf⟩ := gb_some hf
      refine g_iald (pc := 73) g9 b10 dX4_invite_73 ?_
      refine g_iconst (pc := 74) (v := (1 : Int32)) dX4_invite_74 (by decide) ?_
      refine g_iadd (pc := 75) dX4_invite_75 ?_
      obtain ⟨b11, hf⟩ := gb_some hf
      obtain ⟨h12, eh12, hf⟩ := lt_some hf
      refine g_iast (pc := 76) g9 b11 dX4_invite_76 eh12 ?_
      refine g_sub [1, 2, 3, 4] rfl ?_
      exact ok_X4_invite_L77 l X k2 hk2 h12 a0 a1 a2 a3 q hf
def f_X4_invite_L31 (k2 : AH → Nat → Int32 → Int32 → Int32 → Option (AH)) (h : AH) (a0 : Nat) (a1 : Int32) (a2 : Int32) (a3 : Int32) : Option (AH) :=
  f_X4_invite_L36 k2 h a0 a1 a2 a3 (1 : Int32)
set_option maxRecDepth 100000 in
set_option maxHeartbeats 4000000 in
theorem ok_X4_invite_L31 (l : Launch) (X : Cx) (k2 : AH → Nat → Int32 → Int32 → Int32 → Option (AH)) (hk2 : ∀ (h : AH) (a0 : Nat) (a1 : Int32) (a2 : Int32) (a3 : Int32) (q : AH), k2 h a0 a1 a2 a3 = some q → Go l X k_X4_invite 2 [(0, rf X a0), (1, .int a1), (2, .int a2), (3, .int a3)] [] h (rV q)) (h : AH) (a0 : Nat) (a1 : Int32) (a2 : Int32) (a3 : Int32) (q : AH) (hf : f_X4_invite_L31 k2 h a0 a1 a2 a3 = some q) : Go l X k_X4_invite 31 [(0, rf X a0), (1, .int a1), (2, .int a2), (3, .int a3)] [] h (rV q) := by
  unfold f_X4_invite_L31 at hf
  refine g_iconst (pc := 31) (v := (1 : Int32)) dX4_invite_31 (by decide) ?_
  refine g_goto (pc := 32) (tgt := 36) dX4_invite_32 (by decide) ?_
  exact ok_X4_invite_L36 l X k2 hk2 h a0 a1 a2 a3 (1 : Int32) q hf
def f_X4_invite_L2 : Nat → AH → Nat → Int32 → Int32 → Int32 → Option (AH)
  | 0, _, _, _, _, _ => none
  | n + 1, h, a0, a1, a2, a3 =>
    if (16 : Int32) ≤ a3 then
      some h
    else
      gs h a0 4 <|
      gs h (hR h a0 3) 21 <|
      gb (ib a1 (hN h (hR h a0 3))) <|
      if (hI h (hR h a0 3) a1.toNatClampNeg) = a3 then
        f_X4_invite_L31 (f_X4_invite_L2 n) h a0 a1 a2 a3
      else
        gs h (hR h a0 4) 21 <|
        gb (ib a1 (hN h (hR h a0 4))) <|
        if (((hI h (hR h a0 4) a1.toNatClampNeg) >>> (a3 &&& 31)) &&& (1 : Int32)) = 0 then
          f_X4_invite_L36 (f_X4_invite_L2 n) h a0 a1 a2 a3 (0 : Int32)
        else
          f_X4_invite_L31 (f_X4_invite_L2 n) h a0 a1 a2 a3
set_option maxRecDepth 100000 in
set_option maxHeartbeats 4000000 in
theorem ok_X4_invite_L2 (l : Launch) (X : Cx) : ∀ (n : Nat) (h : AH) (a0 : Nat) (a1 : Int32) (a2 : Int32) (a3 : Int32) (q : AH), f_X4_invite_L2 n h a0 a1 a2 a3 = some q → Go l X k_X4_invite 2 [(0, rf X a0), (1, .int a1), (2, .int a2), (3, .int a3)] [] h (rV q) := by
  intro n
  induction n with
  | zero =>
    intro h a0 a1 a2 a3 q hf
    unfold f_X4_invite_L2 at hf
    cases hf
  | succ n ih =>
    intro h a0 a1 a2 a3 q hf
    unfold f_X4_invite_L2 at hf
    refine g_iload_n (pc := 2) 3 dX4_invite_2 rfl rfl ?_
    refine g_bipush (pc := 3) (v := (16 : Int32)) dX4_invite_3 (by decide) ?_
    rcases it_some hf with ⟨c1, hf⟩ | ⟨c1, hf⟩
    · refine g_icge_t (pc := 5) (tgt := 83) dX4_invite_5 (by decide) c1 ?_
      obtain rfl := Option.some.inj hf
      exact g_vret (pc := 83) rfl dX4_invite_83
    · refine g_icge_f (pc := 5) (tgt := 83) dX4_invite_5 (by decide) c1 ?_
      refine g_aload_n (pc := 8) 0 dX4_invite_8 rfl rfl ?_
      obtain ⟨g2, hf⟩ := gs_some hf
      refine g_getR (pc := 9) fl_X4_18 dX4_invite_9 g2 ?_
      refine g_iload_n (pc := 12) 1 dX4_invite_12 rfl rfl ?_
      obtain ⟨g3, hf⟩ := gs_some hf
      obtain ⟨b4, hf⟩ := gb_some hf
      refine g_iald (pc := 13) g3 b4 dX4_invite_13 ?_
      refine g_iload_n (pc := 14) 3 dX4_invite_14 rfl rfl ?_
      rcases it_some hf with ⟨c5, hf⟩ | ⟨c5, hf⟩
      · refine g_iceq_t (pc := 15) (tgt := 31) dX4_invite_15 (by decide) c5 ?_
        exact ok_X4_invite_L31 l X (f_X4_invite_L2 n) ih h a0 a1 a2 a3 q hf
      · refine g_iceq_f (pc := 15) (tgt := 31) dX4_invite_15 (by decide) c5 ?_
        refine g_aload_n (pc := 18) 0 dX4_invite_18 rfl rfl ?_
        refine g_getR (pc := 19) fl_X4_21 dX4_invite_19 g2 ?_
        refine g_iload_n (pc := 22) 1 dX4_invite_22 rfl rfl ?_
        obtain ⟨g6, hf⟩ := gs_some hf
        obtain ⟨b7, hf⟩ := gb_some hf
        refine g_iald (pc := 23) g6 b7 dX4_invite_23 ?_
        refine g_iload_n (pc := 24) 3 dX4_invite_24 rfl rfl ?_
        refine g_ishr (pc := 25) dX4_invite_25 ?_
        refine g_iconst (pc := 26) (v := (1 : Int32)) dX4_invite_26 (by decide) ?_
        refine g_iand (pc := 27) dX4_invite_27 ?_
        rcases it_some hf with ⟨c8, hf⟩ | ⟨c8, hf⟩
        · refine g_ifeq_t (pc := 28) (tgt := 35) dX4_invite_28 (by decide) c8 ?_
          refine g_iconst (pc := 35) (v := (0 : Int32)) dX4_invite_35 (by decide) ?_
          exact ok_X4_invite_L36 l X (f_X4_invite_L2 n) ih h a0 a1 a2 a3 (0 : Int32) q hf
        · refine g_ifeq_f (pc := 28) (tgt := 35) dX4_invite_28 (by decide) c8 ?_
          exact ok_X4_invite_L31 l X (f_X4_invite_L2 n) ih h a0 a1 a2 a3 q hf
def f_X4_invite (h : AH) (a0 : Nat) (a1 : Int32) (a2 : Int32) : Option (AH) :=
  lt ((0 : Int32)) fun x1 =>
  f_X4_invite_L2 FU h a0 a1 a2 x1
set_option maxRecDepth 100000 in
set_option maxHeartbeats 4000000 in
theorem ok_X4_invite (l : Launch) (X : Cx) {h : AH} {a0 : Nat} {a1 : Int32} {a2 : Int32} {q : AH} (hf : f_X4_invite h a0 a1 a2 = some q) : Go l X k_X4_invite 0 [(0, rf X a0), (1, .int a1), (2, .int a2)] [] h (rV q) := by
  unfold f_X4_invite at hf
  refine g_iconst (pc := 0) (v := (0 : Int32)) dX4_invite_0 (by decide) ?_
  obtain ⟨x1, ex1, hf⟩ := lt_some hf
  refine g_istore_n (pc := 1) (L' := [(3, .int x1), (0, rf X a0), (1, .int a1), (2, .int a2)]) dX4_invite_1 rfl (by decide) ex1 rfl ?_
  refine g_sub [1, 2, 3, 0] rfl ?_
  exact ok_X4_invite_L2 l X FU h a0 a1 a2 x1 q hf
theorem ct_X4_invite (l : Launch) (X : Cx) {h : AH} {a0 : Nat} {a1 : Int32} {a2 : Int32} {q : AH} (hf : f_X4_invite h a0 a1 a2 = some q) : Ct l X k_X4_invite [rf X a0, .int a1, .int a2] h (rV q) := ct_of ck_X4_invite (by simp [lg_sl, rf_cat, rq_cat, ca_i, ca_l, ca_r]) (by simp [lv_args, rf_cat, rq_cat, ca_i, ca_l, ca_r]) (ok_X4_invite l X hf)
