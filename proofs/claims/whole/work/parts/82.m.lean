set_option maxRecDepth 100000 in
set_option maxHeartbeats 4000000 in
theorem ok_X10_assemble (l : Launch) (X : Cx) (hl : l.stackTraces = false) {h : AH} {a0 : Nat} {q : Option Int32 × AH} (hf : f_X10_assemble h a0 = some q) : Go l X k_X10_assemble 0 [(0, rf X a0)] [] h (rX "java/lang/IllegalArgumentException" q) := by
  unfold f_X10_assemble at hf
  refine g_aload_n (pc := 0) 0 dX10_assemble_0 rfl rfl ?_
  obtain ⟨g1, hf⟩ := gs_some hf
  refine g_getR (pc := 1) fl_X10_21 dX10_assemble_1 g1 ?_
  obtain ⟨g2, hf⟩ := gs_some hf
  obtain ⟨q3, hcq3, hf⟩ := bd_some hf
  refine g_cVI (pc := 4) (k2 := k_X1_translate) (av := []) (q := q3) rfl dX10_assemble_4 ck_X1_translate m_722 m_723 m_724 (ci := 0) rfl (by decide) g2 (by decide) (by decide) rfl (by simp [rf_cat, rq_cat, ca_i, ca_l, ca_r]) (ct_X1_translate l X hcq3) ?_
  obtain ⟨x4, ex4, hf⟩ := lt_some hf
  refine g_istore_n (pc := 7) (L' := [(1, .int x4), (0, rf X a0)]) dX10_assemble_7 rfl (by decide) ex4 (by simp [rf_cat, rq_cat]) ?_
  refine g_aload_n (pc := 8) 1 dX10_assemble_8 rfl rfl ?_
  obtain ⟨g5, hf⟩ := gs_some hf
  refine g_getR (pc := 9) fl_X10_12 dX10_assemble_9 g5 ?_
  obtain ⟨g6, hf⟩ := gs_some hf
  obtain ⟨q7, hcq7, hf⟩ := bd_some hf
  refine g_cVV (pc := 12) (k2 := k_X8_clear) (av := []) (q := q7) rfl dX10_assemble_12 ck_X8_clear m_883 m_884 m_885 (ci := 6) rfl (by decide) g6 (by decide) (by decide) rfl (by simp [rf_cat, rq_cat, ca_i, ca_l, ca_r]) (ct_X8_clear l X hcq7) ?_
  refine g_aload_n (pc := 15) 1 dX10_assemble_15 rfl rfl ?_
  refine g_aload_n (pc := 16) 1 dX10_assemble_16 rfl rfl ?_
  obtain ⟨g8, hf⟩ := gs_some hf
  refine g_getR (pc := 17) fl_X10_21 dX10_assemble_17 g8 ?_
  obtain ⟨g9, hf⟩ := gs_some hf
  refine g_getI (pc := 20) fl_X10_72 dX10_assemble_20 g9 ?_
  obtain ⟨h10, eh10, hf⟩ := lt_some hf
  refine g_putI (pc := 23) fl_X10_76 dX10_assemble_23 g8 eh10 ?_
  refine g_aload_n (pc := 26) 1 dX10_assemble_26 rfl rfl ?_
  refine g_aload_n (pc := 27) 1 dX10_assemble_27 rfl rfl ?_
  have g11 : hS h10 a0 = 9 := (hS_tI eh10 g8)
  refine g_getR (pc := 28) fl_X10_21 dX10_assemble_28 g11 ?_
  obtain ⟨g12, hf⟩ := gs_some hf
  refine g_getI (pc := 31) fl_X10_77 dX10_assemble_31 g12 ?_
  obtain ⟨h13, eh13, hf⟩ := lt_some hf
  refine g_putI (pc := 34) fl_X10_80 dX10_assemble_34 g11 eh13 ?_
  refine g_aload_n (pc := 37) 1 dX10_assemble_37 rfl rfl ?_
  have g14 : hS h13 a0 = 9 := (hS_tI eh13 g11)
  refine g_getI (pc := 38) fl_X10_76 dX10_assemble_38 g14 ?_
  rcases it_some hf with ⟨c15, hf⟩ | ⟨c15, hf⟩
  · refine g_ifeq_t (pc := 41) (tgt := 54) dX10_assemble_41 (by decide) c15 ?_
    refine g_aload_n (pc := 54) 1 dX10_assemble_54 rfl rfl ?_
    obtain ⟨q16, hcq16, hf⟩ := bd_some hf
    refine g_cVV (pc := 55) (k2 := k_X10_beginAnew) (av := []) (q := q16) rfl dX10_assemble_55 ck_X10_beginAnew m_955 m_957 m_37 (ci := 8) rfl (by decide) g14 (by decide) (by decide) rfl (by simp [rf_cat, rq_cat, ca_i, ca_l, ca_r]) (ct_X10_beginAnew l X hcq16) ?_
    refine g_iload_n (pc := 58) 0 dX10_assemble_58 rfl rfl ?_
    obtain rfl := Option.some.inj hf
    exact g_iret (pc := 59) rfl dX10_assemble_59
  · refine g_ifeq_f (pc := 41) (tgt := 54) dX10_assemble_41 (by decide) c15 ?_
    obtain rfl := Option.some.inj hf
    exact g_throw (pc := 44) hl (text := "the text has a fault") rfl th_81_85 (by decide) (by decide) (by decide) (by simp [rf_cat, rq_cat, ca_i, ca_l, ca_r]) dX10_assemble_44 dX10_assemble_47 dX10_assemble_48 dX10_assemble_50 dX10_assemble_53
theorem ctr_X10_assemble (l : Launch) (X : Cx) (hl : l.stackTraces = false) {h : AH} {a0 : Nat} {v : Int32} {h1 : AH} (hf : f_X10_assemble h a0 = some (some v, h1)) : Ct l X k_X10_assemble [rf X a0] h (rI (v, h1)) := ct_of ck_X10_assemble (by simp [lg_sl, rf_cat, rq_cat, ca_i, ca_l, ca_r]) (by simp [lv_args, rf_cat, rq_cat, ca_i, ca_l, ca_r]) (ok_X10_assemble l X hl hf)
theorem ctx_X10_assemble (l : Launch) (X : Cx) (hl : l.stackTraces = false) {h : AH} {a0 : Nat} {h1 : AH} (hf : f_X10_assemble h a0 = some (none, h1)) : Ct l X k_X10_assemble [rf X a0] h (.inr "java/lang/IllegalArgumentException", h1) := ct_ofX ck_X10_assemble (by simp [lg_sl, rf_cat, rq_cat, ca_i, ca_l, ca_r]) (by simp [lv_args, rf_cat, rq_cat, ca_i, ca_l, ca_r]) (ok_X10_assemble l X hl hf)
set_option maxRecDepth 100000 in
set_option maxHeartbeats 4000000 in
theorem ok_X10_step (l : Launch) (X : Cx) (hl : l.stackTraces = false) {h : AH} {a0 : Nat} {a1 : Int32} {q : Option Int32 × AH} (hf : f_X10_step h a0 a1 = some q) : Go l X k_X10_step 0 [(0, rf X a0), (1, .int a1)] [] h (rX "java/lang/IndexOutOfBoundsException" q) := by
  unfold f_X10_step at hf
  refine g_aload_n (pc := 0) 0 dX10_step_0 rfl rfl ?_
  refine g_iload_n (pc := 1) 1 dX10_step_1 rfl rfl ?_
  obtain ⟨g1, hf⟩ := gs_some hf
  obtain ⟨v2, hcv2, hf⟩ := bd_some hf
  refine g_cVI (pc := 2) (k2 := k_X10_isCore) (av := [.int a1]) (q := (v2, h)) rfl dX10_step_2 ck_X10_isCore m_639 m_641 m_16 (ci := 8) rfl (by decide) g1 (by decide) (by decide) rfl (by simp [rf_cat, rq_cat, ca_i, ca_l, ca_r]) (ct_X10_isCore l X hcv2) ?_
  rcases it_some hf with ⟨c3, hf⟩ | ⟨c3, hf⟩
  · refine g_ifne_t (pc := 5) (tgt := 18) dX10_step_5 (by decide) c3 ?_
    refine g_aload_n (pc := 18) 0 dX10_step_18 rfl rfl ?_
    refine g_getR (pc := 19) fl_X10_43 dX10_step_19 g1 ?_
    refine g_iload_n (pc := 22) 1 dX10_step_22 rfl rfl ?_
    obtain ⟨g4, hf⟩ := gs_some hf
    obtain ⟨b5, hf⟩ := gb_some hf
    refine g_aldq (pc := 23) g4 b5 dX10_step_23 ?_
    obtain ⟨g6, hf⟩ := gs_some hf
    obtain ⟨q7, hcq7, hf⟩ := bd_some hf
    refine g_cVI (pc := 24) (k2 := k_X3_advance) (av := []) (q := q7) rfl dX10_step_24 ck_X3_advance m_1007 m_1008 m_1009 (ci := 2) rfl (by decide) g6 (by decide) (by decide) rfl (by simp [rf_cat, rq_cat, ca_i, ca_l, ca_r]) (ct_X3_advance l X hcq7) ?_
    obtain rfl := Option.some.inj hf
    exact g_iret (pc := 27) rfl dX10_step_27
  · refine g_ifne_f (pc := 5) (tgt := 18) dX10_step_5 (by decide) (Decidable.of_not_not c3) ?_
    obtain rfl := Option.some.inj hf
    exact g_throw (pc := 8) hl (text := "no such core") rfl th_125_129 (by decide) (by decide) (by decide) (by simp [rf_cat, rq_cat, ca_i, ca_l, ca_r]) dX10_step_8 dX10_step_11 dX10_step_12 dX10_step_14 dX10_step_17
theorem ctr_X10_step (l : Launch) (X : Cx) (hl : l.stackTraces = false) {h : AH} {a0 : Nat} {a1 : Int32} {v : Int32} {h1 : AH} (hf : f_X10_step h a0 a1 = some (some v, h1)) : Ct l X k_X10_step [rf X a0, .int a1] h (rI (v, h1)) := ct_of ck_X10_step (by simp [lg_sl, rf_cat, rq_cat, ca_i, ca_l, ca_r]) (by simp [lv_args, rf_cat, rq_cat, ca_i, ca_l, ca_r]) (ok_X10_step l X hl hf)
theorem ctx_X10_step (l : Launch) (X : Cx) (hl : l.stackTraces = false) {h : AH} {a0 : Nat} {a1 : Int32} {h1 : AH} (hf : f_X10_step h a0 a1 = some (none, h1)) : Ct l X k_X10_step [rf X a0, .int a1] h (.inr "java/lang/IndexOutOfBoundsException", h1) := ct_ofX ck_X10_step (by simp [lg_sl, rf_cat, rq_cat, ca_i, ca_l, ca_r]) (by simp [lv_args, rf_cat, rq_cat, ca_i, ca_l, ca_r]) (ok_X10_step l X hl hf)
set_option maxRecDepth 100000 in
set_option maxHeartbeats 4000000 in
theorem ok_X10_drain (l : Launch) (X : Cx) (hl : l.stackTraces = false) {h : AH} {a0 : Nat} {a1 : Int32} {q : Option Int32 × AH} (hf : f_X10_drain h a0 a1 = some q) : Go l X k_X10_drain 0 [(0, rf X a0), (1, .int a1)] [] h (rX "java/lang/IndexOutOfBoundsException" q) := by
  unfold f_X10_drain at hf
  refine g_aload_n (pc := 0) 0 dX10_drain_0 rfl rfl ?_
  refine g_iload_n (pc := 1) 1 dX10_drain_1 rfl rfl ?_
  obtain ⟨g1, hf⟩ := gs_some hf
  obtain ⟨v2, hcv2, hf⟩ := bd_some hf
  refine g_cVI (pc := 2) (k2 := k_X10_isCore) (av := [.int a1]) (q := (v2, h)) rfl dX10_drain_2 ck_X10_isCore m_639 m_641 m_16 (ci := 8) rfl (by decide) g1 (by decide) (by decide) rfl (by simp [rf_cat, rq_cat, ca_i, ca_l, ca_r]) (ct_X10_isCore l X hcv2) ?_
  rcases it_some hf with ⟨c3, hf⟩ | ⟨c3, hf⟩
  · refine g_ifne_t (pc := 5) (tgt := 18) dX10_drain_5 (by decide) c3 ?_
    refine g_aload_n (pc := 18) 0 dX10_drain_18 rfl rfl ?_
    refine g_getR (pc := 19) fl_X10_43 dX10_drain_19 g1 ?_
    refine g_iload_n (pc := 22) 1 dX10_drain_22 rfl rfl ?_
    obtain ⟨g4, hf⟩ := gs_some hf
    obtain ⟨b5, hf⟩ := gb_some hf
    refine g_aldq (pc := 23) g4 b5 dX10_drain_23 ?_
    obtain ⟨g6, hf⟩ := gs_some hf
    obtain ⟨q7, hcq7, hf⟩ := bd_some hf
    refine g_cVI (pc := 24) (k2 := k_X3_settle) (av := []) (q := q7) rfl dX10_drain_24 ck_X3_settle m_1151 m_1152 m_1153 (ci := 2) rfl (by decide) g6 (by decide) (by decide) rfl (by simp [rf_cat, rq_cat, ca_i, ca_l, ca_r]) (ct_X3_settle l X hcq7) ?_
    obtain rfl := Option.some.inj hf
    exact g_iret (pc := 27) rfl dX10_drain_27
  · refine g_ifne_f (pc := 5) (tgt := 18) dX10_drain_5 (by decide) (Decidable.of_not_not c3) ?_
    obtain rfl := Option.some.inj hf
    exact g_throw (pc := 8) hl (text := "no such core") rfl th_125_129 (by decide) (by decide) (by decide) (by simp [rf_cat, rq_cat, ca_i, ca_l, ca_r]) dX10_drain_8 dX10_drain_11 dX10_drain_12 dX10_drain_14 dX10_drain_17
theorem ctr_X10_drain (l : Launch) (X : Cx) (hl : l.stackTraces = false) {h : AH} {a0 : Nat} {a1 : Int32} {v : Int32} {h1 : AH} (hf : f_X10_drain h a0 a1 = some (some v, h1)) : Ct l X k_X10_drain [rf X a0, .int a1] h (rI (v, h1)) := ct_of ck_X10_drain (by simp [lg_sl, rf_cat, rq_cat, ca_i, ca_l, ca_r]) (by simp [lv_args, rf_cat, rq_cat, ca_i, ca_l, ca_r]) (ok_X10_drain l X hl hf)
theorem ctx_X10_drain (l : Launch) (X : Cx) (hl : l.stackTraces = false) {h : AH} {a0 : Nat} {a1 : Int32} {h1 : AH} (hf : f_X10_drain h a0 a1 = some (none, h1)) : Ct l X k_X10_drain [rf X a0, .int a1] h (.inr "java/lang/IndexOutOfBoundsException", h1) := ct_ofX ck_X10_drain (by simp [lg_sl, rf_cat, rq_cat, ca_i, ca_l, ca_r]) (by simp [lv_args, rf_cat, rq_cat, ca_i, ca_l, ca_r]) (ok_X10_drain l X hl hf)
set_option maxRecDepth 100000 in
set_option maxHeartbeats 4000000 in
theorem ok_X10_run_L12 (l : Launch) (X : Cx) (hl : l.stackTraces = false) (h : AH) (q : Option Int32 × AH) (hf : f_X10_run_L12 h = some q) : Go l X k_X10_run 12 [] [] h (rX "java/lang/IllegalArgumentException" q) := by
  unfold f_X10_run_L12 at hf
  obtain rfl := Option.some.inj hf
  exact g_throw (pc := 12) hl (text := "1 to 200 rounds") rfl th_81_85 (by decide) (by decide) (by decide) (by simp [rf_cat, rq_cat, ca_i, ca_l, ca_r]) dX10_run_12 dX10_run_15 dX10_run_16 dX10_run_18 dX10_run_21
set_option maxRecDepth 100000 in
set_option maxHeartbeats 4000000 in
theorem ok_X10_run_L107 (l : Launch) (X : Cx) (hl : l.stackTraces = false) (k29 : AH → Nat → Int32 → Int32 → Int32 → Option (Option Int32 × AH)) (hk29 : ∀ (h : AH) (a0 : Nat) (a1 : Int32) (a2 : Int32) (a3 : Int32) (q : Option Int32 × AH), k29 h a0 a1 a2 a3 = some q → Go l X k_X10_run 29 [(0, rf X a0), (1, .int a1), (2, .int a2), (3, .int a3)] [] h (rX "java/lang/IllegalArgumentException" q)) (h : AH) (a0 : Nat) (a1 : Int32) (a2 : Int32) (a3 : Int32) (q : Option Int32 × AH) (hf : f_X10_run_L107 k29 h a0 a1 a2 a3 = some q) : Go l X k_X10_run 107 [(0, rf X a0), (1, .int a1), (2, .int a2), (3, .int a3)] [] h (rX "java/lang/IllegalArgumentException" q) := by
  unfold f_X10_run_L107 at hf
  obtain ⟨x1, ex1, hf⟩ := lt_some hf
  refine g_iinc (pc := 107) (y := x1) (L' := [(3, .int x1), (0, rf X a0), (1, .int a1), (2, .int a2)]) 3 dX10_run_107 rfl (by decide) (ex1.trans rfl) rfl ?_
  refine g_goto (pc := 110) (tgt := 29) dX10_run_110 (by decide) ?_
  refine g_sub [1, 2, 3, 0] rfl ?_
  exact hk29 h a0 a1 a2 x1 q hf
set_option maxRecDepth 100000 in
set_option maxHeartbeats 4000000 in
theorem ok_X10_run_L80 (l : Launch) (X : Cx) (hl : l.stackTraces = false) (k29 : AH → Nat → Int32 → Int32 → Int32 → Option (Option Int32 × AH)) (hk29 : ∀ (h : AH) (a0 : Nat) (a1 : Int32) (a2 : Int32) (a3 : Int32) (q : Option Int32 × AH), k29 h a0 a1 a2 a3 = some q → Go l X k_X10_run 29 [(0, rf X a0), (1, .int a1), (2, .int a2), (3, .int a3)] [] h (rX "java/lang/IllegalArgumentException" q)) : ∀ (n : Nat) (h : AH) (a0 : Nat) (a1 : Int32) (a2 : Int32) (a3 : Int32) (a4 : Int32) (q : Option Int32 × AH), f_X10_run_L80 k29 n h a0 a1 a2 a3 a4 = some q → Go l X k_X10_run 80 [(0, rf X a0), (1, .int a1), (2, .int a2), (3, .int a3), (4, .int a4)] [] h (rX "java/lang/IllegalArgumentException" q) := by
  intro n
  induction n with
  | zero =>
    intro h a0 a1 a2 a3 a4 q hf
    unfold f_X10_run_L80 at hf
    cases hf
  | succ n ih =>
    intro h a0 a1 a2 a3 a4 q hf
    unfold f_X10_run_L80 at hf
    refine g_iload (pc := 80) 4 dX10_run_80 rfl ?_
    rcases it_some hf with ⟨c1, hf⟩ | ⟨c1, hf⟩
    · refine g_ifle_t (pc := 82) (tgt := 107) dX10_run_82 (by decide) c1 ?_
      refine g_sub [0, 1, 2, 3] rfl ?_
      exact ok_X10_run_L107 l X hl k29 hk29 h a0 a1 a2 a3 q hf
    · refine g_ifle_f (pc := 82) (tgt := 107) dX10_run_82 (by decide) c1 ?_
      refine g_aload_n (pc := 85) 0 dX10_run_85 rfl rfl ?_
      obtain ⟨g2, hf⟩ := gs_some hf
      refine g_getR (pc := 86) fl_X10_28 dX10_run_86 g2 ?_
      obtain ⟨g3, hf⟩ := gs_some hf
      refine g_getI (pc := 89) fl_X10_159 dX10_run_89 g3 ?_
      rcases it_some hf with ⟨c4, hf⟩ | ⟨c4, hf⟩
      · refine g_ifle_t (pc := 92) (tgt := 107) dX10_run_92 (by decide) c4 ?_
        refine g_sub [0, 1, 2, 3] rfl ?_
        exact ok_X10_run_L107 l X hl k29 hk29 h a0 a1 a2 a3 q hf
      · refine g_ifle_f (pc := 92) (tgt := 107) dX10_run_92 (by decide) c4 ?_
        refine g_aload_n (pc := 95) 0 dX10_run_95 rfl rfl ?_
        refine g_iconst (pc := 96) (v := (0 : Int32)) dX10_run_96 (by decide) ?_
        obtain ⟨q5, hcq5, hf⟩ := bd_some hf
        refine g_cVI (pc := 97) (k2 := k_X10_carry) (av := [.int (0 : Int32)]) (q := q5) rfl dX10_run_97 ck_X10_carry m_549 m_551 m_2 (ci := 8) rfl (by decide) g2 (by decide) (by decide) rfl (by simp [rf_cat, rq_cat, ca_i, ca_l, ca_r]) (ct_X10_carry l X hcq5) ?_
        refine g_pop (pc := 100) dX10_run_100 rfl ?_
        obtain ⟨x6, ex6, hf⟩ := lt_some hf
        refine g_iinc (pc := 101) (y := x6) (L' := [(4, .int x6), (0, rf X a0), (1, .int a1), (2, .int a2), (3, .int a3)]) 4 dX10_run_101 rfl (by decide) (ex6.trans rfl) rfl ?_
        refine g_goto (pc := 104) (tgt := 80) dX10_run_104 (by decide) ?_
        refine g_sub [1, 2, 3, 4, 0] rfl ?_
        exact ih q5.2 a0 a1 a2 a3 x6 q hf
set_option maxRecDepth 100000 in
set_option maxHeartbeats 4000000 in
theorem ok_X10_run_L37 (l : Launch) (X : Cx) (hl : l.stackTraces = false) (k29 : AH → Nat → Int32 → Int32 → Int32 → Option (Option Int32 × AH)) (hk29 : ∀ (h : AH) (a0 : Nat) (a1 : Int32) (a2 : Int32) (a3 : Int32) (q : Option Int32 × AH), k29 h a0 a1 a2 a3 = some q → Go l X k_X10_run 29 [(0, rf X a0), (1, .int a1), (2, .int a2), (3, .int a3)] [] h (rX "java/lang/IllegalArgumentException" q)) : ∀ (n : Nat) (h : AH) (a0 : Nat) (a1 : Int32) (a2 : Int32) (a3 : Int32) (a4 : Int32) (q : Option Int32 × AH), f_X10_run_L37 k29 n h a0 a1 a2 a3 a4 = some q → Go l X k_X10_run 37 [(0, rf X a0), (1, .int a1), (2, .int a2), (3, .int a3), (4, .int a4)] [] h (rX "java/lang/IllegalArgumentException" q) := by
  intro n
  induction n with
  | zero =>
    intro h a0 a1 a2 a3 a4 q hf
    unfold f_X10_run_L37 at hf
    cases hf
  | succ n ih =>
    intro h a0 a1 a2 a3 a4 q hf
    unfold f_X10_run_L37 at hf
    refine g_iload (pc := 37) 4 dX10_run_37 rfl ?_
    refine g_aload_n (pc := 39) 0 dX10_run_39 rfl rfl ?_
    obtain ⟨g1, hf⟩ := gs_some hf
    refine g_getR (pc := 40) fl_X10_47 dX10_run_40 g1 ?_
    refine g_iconst (pc := 43) (v := (0 : Int32)) dX10_run_43 (by decide) ?_
    obtain ⟨g2, hf⟩ := gs_some hf
    obtain ⟨b3, hf⟩ := gb_some hf
    refine g_iald (pc := 44) g2 b3 dX10_run_44 ?_
    rcases it_some hf with ⟨c4, hf⟩ | ⟨c4, hf⟩
    · refine g_icge_t (pc := 45) (tgt := 76) dX10_run_45 (by decide) c4 ?_
      refine g_ldc (pc := 76) (v := (1000000 : Int32)) m_1169 dX10_run_76 ?_
      obtain ⟨x5, ex5, hf⟩ := lt_some hf
      refine g_istore (pc := 78) (L' := [(4, .int x5), (0, rf X a0), (1, .int a1), (2, .int a2), (3, .int a3)]) dX10_run_78 (by decide) ex5 rfl ?_
      refine g_sub [1, 2, 3, 4, 0] rfl ?_
      exact ok_X10_run_L80 l X hl k29 hk29 FU h a0 a1 a2 a3 x5 q hf
    · refine g_icge_f (pc := 45) (tgt := 76) dX10_run_45 (by decide) c4 ?_
      refine g_aload_n (pc := 48) 0 dX10_run_48 rfl rfl ?_
      refine g_getR (pc := 49) fl_X10_43 dX10_run_49 g1 ?_
      refine g_iload (pc := 52) 4 dX10_run_52 rfl ?_
      obtain ⟨g6, hf⟩ := gs_some hf
      obtain ⟨b7, hf⟩ := gb_some hf
      refine g_aldq (pc := 54) g6 b7 dX10_run_54 ?_
      obtain ⟨g8, hf⟩ := gs_some hf
      obtain ⟨q9, hcq9, hf⟩ := bd_some hf
      refine g_cVI (pc := 55) (k2 := k_X3_advance) (av := []) (q := q9) rfl dX10_run_55 ck_X3_advance m_1007 m_1008 m_1009 (ci := 2) rfl (by decide) g8 (by decide) (by decide) rfl (by simp [rf_cat, rq_cat, ca_i, ca_l, ca_r]) (ct_X3_advance l X hcq9) ?_
      refine g_pop (pc := 58) dX10_run_58 rfl ?_
      refine g_aload_n (pc := 59) 0 dX10_run_59 rfl rfl ?_
      obtain ⟨g10, hf⟩ := gs_some hf
      refine g_getR (pc := 60) fl_X10_43 dX10_run_60 g10 ?_
      refine g_iload (pc := 63) 4 dX10_run_63 rfl ?_
      obtain ⟨g11, hf⟩ := gs_some hf
      obtain ⟨b12, hf⟩ := gb_some hf
      refine g_aldq (pc := 65) g11 b12 dX10_run_65 ?_
      obtain ⟨g13, hf⟩ := gs_some hf
      obtain ⟨q14, hcq14, hf⟩ := bd_some hf
      refine g_cVI (pc := 66) (k2 := k_X3_settle) (av := []) (q := q14) rfl dX10_run_66 ck_X3_settle m_1151 m_1152 m_1153 (ci := 2) rfl (by decide) g13 (by decide) (by decide) rfl (by simp [rf_cat, rq_cat, ca_i, ca_l, ca_r]) (ct_X3_settle l X hcq14) ?_
      refine g_pop (pc := 69) dX10_run_69 rfl ?_
      obtain ⟨x15, ex15, hf⟩ := lt_some hf
      refine g_iinc (pc := 70) (y := x15) (L' := [(4, .int x15), (0, rf X a0), (1, .int a1), (2, .int a2), (3, .int a3)]) 4 dX10_run_70 rfl (by decide) (ex15.trans rfl) rfl ?_
      refine g_goto (pc := 73) (tgt := 37) dX10_run_73 (by decide) ?_
      refine g_sub [1, 2, 3, 4, 0] rfl ?_
      exact ih q14.2 a0 a1 a2 a3 x15 q hf
set_option maxRecDepth 100000 in
set_option maxHeartbeats 4000000 in
theorem ok_X10_run_L29 (l : Launch) (X : Cx) (hl : l.stackTraces = false) : ∀ (n : Nat) (h : AH) (a0 : Nat) (a1 : Int32) (a2 : Int32) (a3 : Int32) (q : Option Int32 × AH), f_X10_run_L29 n h a0 a1 a2 a3 = some q → Go l X k_X10_run 29 [(0, rf X a0), (1, .int a1), (2, .int a2), (3, .int a3)] [] h (rX "java/lang/IllegalArgumentException" q) := by
  intro n
  induction n with
  | zero =>
    intro h a0 a1 a2 a3 q hf
    unfold f_X10_run_L29 at hf
    cases hf
  | succ n ih =>
    intro h a0 a1 a2 a3 q hf
    unfold f_X10_run_L29 at hf
    refine g_iload_n (pc := 29) 3 dX10_run_29 rfl rfl ?_
    refine g_iload_n (pc := 30) 1 dX10_run_30 rfl rfl ?_
    rcases it_some hf with ⟨c1, hf⟩ | ⟨c1, hf⟩
    · refine g_icge_t (pc := 31) (tgt := 113) dX10_run_31 (by decide) c1 ?_
      refine g_aload_n (pc := 113) 0 dX10_run_113 rfl rfl ?_
      obtain ⟨g2, hf⟩ := gs_some hf
      obtain ⟨v3, hcv3, hf⟩ := bd_some hf
      refine g_cVI (pc := 114) (k2 := k_X10_retired) (av := []) (q := (v3, h)) rfl dX10_run_114 ck_X10_retired m_702 m_704 m_18 (ci := 8) rfl (by decide) g2 (by decide) (by decide) rfl (by simp [rf_cat, rq_cat, ca_i, ca_l, ca_r]) (ct_X10_retired l X hcv3) ?_
      refine g_iload_n (pc := 117) 2 dX10_run_117 rfl rfl ?_
      refine g_isub (pc := 118) dX10_run_118 ?_
      obtain rfl := Option.some.inj hf
      exact g_iret (pc := 119) rfl dX10_run_119
    · refine g_icge_f (pc := 31) (tgt := 113) dX10_run_31 (by decide) c1 ?_
      refine g_iconst (pc := 34) (v := (0 : Int32)) dX10_run_34 (by decide) ?_
      obtain ⟨x4, ex4, hf⟩ := lt_some hf
      refine g_istore (pc := 35) (L' := [(4, .int x4), (0, rf X a0), (1, .int a1), (2, .int a2), (3, .int a3)]) dX10_run_35 (by decide) ex4 rfl ?_
      refine g_sub [1, 2, 3, 4, 0] rfl ?_
      exact ok_X10_run_L37 l X hl (f_X10_run_L29 n) ih FU h a0 a1 a2 a3 x4 q hf
set_option maxRecDepth 100000 in
set_option maxHeartbeats 4000000 in
theorem ok_X10_run (l : Launch) (X : Cx) (hl : l.stackTraces = false) {h : AH} {a0 : Nat} {a1 : Int32} {q : Option Int32 × AH} (hf : f_X10_run h a0 a1 = some q) : Go l X k_X10_run 0 [(0, rf X a0), (1, .int a1)] [] h (rX "java/lang/IllegalArgumentException" q) := by
  unfold f_X10_run at hf
  refine g_iload_n (pc := 0) 1 dX10_run_0 rfl rfl ?_
  refine g_iconst (pc := 1) (v := (1 : Int32)) dX10_run_1 (by decide) ?_
  rcases it_some hf with ⟨c1, hf⟩ | ⟨c1, hf⟩
  · refine g_iclt_t (pc := 2) (tgt := 12) dX10_run_2 (by decide) c1 ?_
    refine g_sub [] rfl ?_
    exact ok_X10_run_L12 l X hl h q hf
  · refine g_iclt_f (pc := 2) (tgt := 12) dX10_run_2 (by decide) c1 ?_
    refine g_iload_n (pc := 5) 1 dX10_run_5 rfl rfl ?_
    refine g_sipush (pc := 6) (v := (200 : Int32)) dX10_run_6 (by decide) ?_
    rcases it_some hf with ⟨c2, hf⟩ | ⟨c2, hf⟩
    · refine g_icle_t (pc := 9) (tgt := 22) dX10_run_9 (by decide) c2 ?_
      refine g_aload_n (pc := 22) 0 dX10_run_22 rfl rfl ?_
      obtain ⟨g3, hf⟩ := gs_some hf
      obtain ⟨v4, hcv4, hf⟩ := bd_some hf
      refine g_cVI (pc := 23) (k2 := k_X10_retired) (av := []) (q := (v4, h)) rfl dX10_run_23 ck_X10_retired m_702 m_704 m_18 (ci := 8) rfl (by decide) g3 (by decide) (by decide) rfl (by simp [rf_cat, rq_cat, ca_i, ca_l, ca_r]) (ct_X10_retired l X hcv4) ?_
      refine g_istore_n (pc := 26) (L' := [(2, .int v4), (0, rf X a0), (1, .int a1)]) dX10_run_26 rfl (by decide) rfl rfl ?_
      refine g_iconst (pc := 27) (v := (0 : Int32)) dX10_run_27 (by decide) ?_
      obtain ⟨x5, ex5, hf⟩ := lt_some hf
      refine g_istore_n (pc := 28) (L' := [(3, .int x5), (2, .int v4), (0, rf X a0), (1, .int a1)]) dX10_run_28 rfl (by decide) ex5 rfl ?_
      refine g_sub [2, 3, 1, 0] rfl ?_
      exact ok_X10_run_L29 l X hl FU h a0 a1 v4 x5 q hf
    · refine g_icle_f (pc := 9) (tgt := 22) dX10_run_9 (by decide) c2 ?_
      refine g_sub [] rfl ?_
      exact ok_X10_run_L12 l X hl h q hf
theorem ctr_X10_run (l : Launch) (X : Cx) (hl : l.stackTraces = false) {h : AH} {a0 : Nat} {a1 : Int32} {v : Int32} {h1 : AH} (hf : f_X10_run h a0 a1 = some (some v, h1)) : Ct l X k_X10_run [rf X a0, .int a1] h (rI (v, h1)) := ct_of ck_X10_run (by simp [lg_sl, rf_cat, rq_cat, ca_i, ca_l, ca_r]) (by simp [lv_args, rf_cat, rq_cat, ca_i, ca_l, ca_r]) (ok_X10_run l X hl hf)
theorem ctx_X10_run (l : Launch) (X : Cx) (hl : l.stackTraces = false) {h : AH} {a0 : Nat} {a1 : Int32} {h1 : AH} (hf : f_X10_run h a0 a1 = some (none, h1)) : Ct l X k_X10_run [rf X a0, .int a1] h (.inr "java/lang/IllegalArgumentException", h1) := ct_ofX ck_X10_run (by simp [lg_sl, rf_cat, rq_cat, ca_i, ca_l, ca_r]) (by simp [lv_args, rf_cat, rq_cat, ca_i, ca_l, ca_r]) (ok_X10_run l X hl hf)
set_option maxRecDepth 100000 in
set_option maxHeartbeats 4000000 in
theorem ok_X10_play_L318 (l : Launch) (X : Cx) (hl : l.stackTraces = false) (k76 : AH → Nat → Int32 → Int32 → Int32 → Option (Option Int32 × AH)) (hk76 : ∀ (h : AH) (a0 : Nat) (a2 : Int32) (a3 : Int32) (a4 : Int32) (q : Option Int32 × AH), k76 h a0 a2 a3 a4 = some q → Go l X k_X10_play 76 [(0, rf X a0), (2, .int a2), (3, .int a3), (4, .int a4)] [] h (rX "java/lang/IllegalArgumentException" q)) (h : AH) (a0 : Nat) (a2 : Int32) (a3 : Int32) (a4 : Int32) (q : Option Int32 × AH) (hf : f_X10_play_L318 k76 h a0 a2 a3 a4 = some q) : Go l X k_X10_play 318 [(0, rf X a0), (2, .int a2), (3, .int a3), (4, .int a4)] [] h (rX "java/lang/IllegalArgumentException" q) := by
  unfold f_X10_play_L318 at hf
  obtain ⟨x1, ex1, hf⟩ := lt_some hf
  refine g_iinc (pc := 318) (y := x1) (L' := [(4, .int x1), (0, rf X a0), (2, .int a2), (3, .int a3)]) 3 dX10_play_318 rfl (by decide) (ex1.trans rfl) rfl ?_
  refine g_goto (pc := 321) (tgt := 76) dX10_play_321 (by decide) ?_
  refine g_sub [1, 2, 3, 0] rfl ?_
  exact hk76 h a0 a2 a3 x1 q hf
set_option maxRecDepth 100000 in
set_option maxHeartbeats 4000000 in
theorem ok_X10_play_L307 (l : Launch) (X : Cx) (hl : l.stackTraces = false) (k76 : AH → Nat → Int32 → Int32 → Int32 → Option (Option Int32 × AH)) (hk76 : ∀ (h : AH) (a0 : Nat) (a2 : Int32) (a3 : Int32) (a4 : Int32) (q : Option Int32 × AH), k76 h a0 a2 a3 a4 = some q → Go l X k_X10_play 76 [(0, rf X a0), (2, .int a2), (3, .int a3), (4, .int a4)] [] h (rX "java/lang/IllegalArgumentException" q)) (h : AH) (a0 : Nat) (a2 : Int32) (a3 : Int32) (a4 : Int32) (a5 : Int32) (s0 : Nat) (s1 : Int32) (s2 : Int32) (q : Option Int32 × AH) (hf : f_X10_play_L307 k76 h a0 a2 a3 a4 a5 s0 s1 s2 = some q) : Go l X k_X10_play 307 [(0, rf X a0), (2, .int a2), (3, .int a3), (4, .int a4), (5, .int a5)] [.int s2, .int s1, rf X s0] h (rX "java/lang/IllegalArgumentException" q) := by
  unfold f_X10_play_L307 at hf
  refine g_iadd (pc := 307) dX10_play_307 ?_
  obtain ⟨g1, hf⟩ := gs_some hf
  obtain ⟨h2, eh2, hf⟩ := lt_some hf
  refine g_putI (pc := 308) fl_X10_118 dX10_play_308 g1 eh2 ?_
  refine g_iload (pc := 311) 3 dX10_play_311 rfl ?_
  refine g_iload (pc := 313) 4 dX10_play_313 rfl ?_
  refine g_iadd (pc := 315) dX10_play_315 ?_
  obtain ⟨x3, ex3, hf⟩ := lt_some hf
  refine g_istore (pc := 316) (L' := [(4, .int x3), (0, rf X a0), (2, .int a2), (3, .int a3), (5, .int a5)]) dX10_play_316 (by decide) ex3 rfl ?_
  refine g_sub [1, 2, 3, 0] rfl ?_
  exact ok_X10_play_L318 l X hl k76 hk76 h2 a0 a2 a3 x3 q hf
set_option maxRecDepth 100000 in
set_option maxHeartbeats 4000000 in
theorem ok_X10_play_L282 (l : Launch) (X : Cx) (hl : l.stackTraces = false) (k76 : AH → Nat → Int32 → Int32 → Int32 → Option (Option Int32 × AH)) (hk76 : ∀ (h : AH) (a0 : Nat) (a2 : Int32) (a3 : Int32) (a4 : Int32) (q : Option Int32 × AH), k76 h a0 a2 a3 a4 = some q → Go l X k_X10_play 76 [(0, rf X a0), (2, .int a2), (3, .int a3), (4, .int a4)] [] h (rX "java/lang/IllegalArgumentException" q)) (h : AH) (a0 : Nat) (a2 : Int32) (a3 : Int32) (a4 : Int32) (a5 : Int32) (a8 : Int32) (q : Option Int32 × AH) (hf : f_X10_play_L282 k76 h a0 a2 a3 a4 a5 a8 = some q) : Go l X k_X10_play 282 [(0, rf X a0), (2, .int a2), (3, .int a3), (4, .int a4), (5, .int a5), (8, .int a8)] [] h (rX "java/lang/IllegalArgumentException" q) := by
  unfold f_X10_play_L282 at hf
  refine g_aload_n (pc := 282) 0 dX10_play_282 rfl rfl ?_
  refine g_dup (pc := 283) dX10_play_283 (rf_cat X _) ?_
  obtain ⟨g1, hf⟩ := gs_some hf
  refine g_getI (pc := 284) fl_X10_115 dX10_play_284 g1 ?_
  refine g_iconst (pc := 287) (v := (1 : Int32)) dX10_play_287 (by decide) ?_
  refine g_iadd (pc := 288) dX10_play_288 ?_
  obtain ⟨h2, eh2, hf⟩ := lt_some hf
  refine g_putI (pc := 289) fl_X10_115 dX10_play_289 g1 eh2 ?_
  refine g_aload_n (pc := 292) 0 dX10_play_292 rfl rfl ?_
  refine g_dup (pc := 293) dX10_play_293 (rf_cat X _) ?_
  have g3 : hS h2 a0 = 9 := (hS_tI eh2 g1)
  refine g_getI (pc := 294) fl_X10_118 dX10_play_294 g3 ?_
  refine g_iload (pc := 297) 5 dX10_play_297 rfl ?_
  rcases it_some hf with ⟨c4, hf⟩ | ⟨c4, hf⟩
  · refine g_ifeq_t (pc := 299) (tgt := 306) dX10_play_299 (by decide) c4 ?_
    refine g_iconst (pc := 306) (v := (1 : Int32)) dX10_play_306 (by decide) ?_
    refine g_sub [0, 1, 2, 3, 4] rfl ?_
    exact ok_X10_play_L307 l X hl k76 hk76 h2 a0 a2 a3 a4 a5 a0 (hI h2 a0 10) (1 : Int32) q hf
  · refine g_ifeq_f (pc := 299) (tgt := 306) dX10_play_299 (by decide) c4 ?_
    refine g_iconst (pc := 302) (v := (0 : Int32)) dX10_play_302 (by decide) ?_
    refine g_goto (pc := 303) (tgt := 307) dX10_play_303 (by decide) ?_
    refine g_sub [0, 1, 2, 3, 4] rfl ?_
    exact ok_X10_play_L307 l X hl k76 hk76 h2 a0 a2 a3 a4 a5 a0 (hI h2 a0 10) (0 : Int32) q hf
set_option maxRecDepth 100000 in
set_option maxHeartbeats 4000000 in
theorem ok_X10_play_L243 (l : Launch) (X : Cx) (hl : l.stackTraces = false) (k76 : AH → Nat → Int32 → Int32 → Int32 → Option (Option Int32 × AH)) (hk76 : ∀ (h : AH) (a0 : Nat) (a2 : Int32) (a3 : Int32) (a4 : Int32) (q : Option Int32 × AH), k76 h a0 a2 a3 a4 = some q → Go l X k_X10_play 76 [(0, rf X a0), (2, .int a2), (3, .int a3), (4, .int a4)] [] h (rX "java/lang/IllegalArgumentException" q)) (h : AH) (a0 : Nat) (a2 : Int32) (a3 : Int32) (a4 : Int32) (a5 : Int32) (s0 : Int32) (q : Option Int32 × AH) (hf : f_X10_play_L243 k76 h a0 a2 a3 a4 a5 s0 = some q) : Go l X k_X10_play 243 [(0, rf X a0), (2, .int a2), (3, .int a3), (4, .int a4), (5, .int a5)] [.int s0] h (rX "java/lang/IllegalArgumentException" q) := by
  unfold f_X10_play_L243 at hf
  refine g_istore (pc := 243) (L' := [(8, .int s0), (0, rf X a0), (2, .int a2), (3, .int a3), (4, .int a4), (5, .int a5)]) dX10_play_243 (by decide) rfl rfl ?_
  refine g_goto (pc := 245) (tgt := 282) dX10_play_245 (by decide) ?_
  refine g_sub [1, 2, 3, 4, 5, 0] rfl ?_
  exact ok_X10_play_L282 l X hl k76 hk76 h a0 a2 a3 a4 a5 s0 q hf
set_option maxRecDepth 100000 in
set_option maxHeartbeats 4000000 in
theorem ok_X10_play_L242 (l : Launch) (X : Cx) (hl : l.stackTraces = false) (k76 : AH → Nat → Int32 → Int32 → Int32 → Option (Option Int32 × AH)) (hk76 : ∀ (h : AH) (a0 : Nat) (a2 : Int32) (a3 : Int32) (a4 : Int32) (q : Option Int32 × AH), k76 h a0 a2 a3 a4 = some q → Go l X k_X10_play 76 [(0, rf X a0), (2, .int a2), (3, .int a3), (4, .int a4)] [] h (rX "java/lang/IllegalArgumentException" q)) (h : AH) (a0 : Nat) (a2 : Int32) (a3 : Int32) (a4 : Int32) (a5 : Int32) (q : Option Int32 × AH) (hf : f_X10_play_L242 k76 h a0 a2 a3 a4 a5 = some q) : Go l X k_X10_play 242 [(0, rf X a0), (2, .int a2), (3, .int a3), (4, .int a4), (5, .int a5)] [] h (rX "java/lang/IllegalArgumentException" q) := by
  unfold f_X10_play_L242 at hf
  refine g_iconst (pc := 242) (v := (0 : Int32)) dX10_play_242 (by decide) ?_
  exact ok_X10_play_L243 l X hl k76 hk76 h a0 a2 a3 a4 a5 (0 : Int32) q hf
set_option maxRecDepth 100000 in
set_option maxHeartbeats 4000000 in
theorem ok_X10_play_L211 (l : Launch) (X : Cx) (hl : l.stackTraces = false) (k76 : AH → Nat → Int32 → Int32 → Int32 → Option (Option Int32 × AH)) (hk76 : ∀ (h : AH) (a0 : Nat) (a2 : Int32) (a3 : Int32) (a4 : Int32) (q : Option Int32 × AH), k76 h a0 a2 a3 a4 = some q → Go l X k_X10_play 76 [(0, rf X a0), (2, .int a2), (3, .int a3), (4, .int a4)] [] h (rX "java/lang/IllegalArgumentException" q)) (h : AH) (a0 : Nat) (a2 : Int32) (a3 : Int32) (a4 : Int32) (a5 : Int32) (s0 : Int32) (q : Option Int32 × AH) (hf : f_X10_play_L211 k76 h a0 a2 a3 a4 a5 s0 = some q) : Go l X k_X10_play 211 [(0, rf X a0), (2, .int a2), (3, .int a3), (4, .int a4), (5, .int a5)] [.int s0] h (rX "java/lang/IllegalArgumentException" q) := by
  unfold f_X10_play_L211 at hf
  refine g_istore (pc := 211) (L' := [(8, .int s0), (0, rf X a0), (2, .int a2), (3, .int a3), (4, .int a4), (5, .int a5)]) dX10_play_211 (by decide) rfl rfl ?_
  refine g_goto (pc := 213) (tgt := 282) dX10_play_213 (by decide) ?_
  refine g_sub [1, 2, 3, 4, 5, 0] rfl ?_
  exact ok_X10_play_L282 l X hl k76 hk76 h a0 a2 a3 a4 a5 s0 q hf
set_option maxRecDepth 100000 in
set_option maxHeartbeats 4000000 in
theorem ok_X10_play_L210 (l : Launch) (X : Cx) (hl : l.stackTraces = false) (k76 : AH → Nat → Int32 → Int32 → Int32 → Option (Option Int32 × AH)) (hk76 : ∀ (h : AH) (a0 : Nat) (a2 : Int32) (a3 : Int32) (a4 : Int32) (q : Option Int32 × AH), k76 h a0 a2 a3 a4 = some q → Go l X k_X10_play 76 [(0, rf X a0), (2, .int a2), (3, .int a3), (4, .int a4)] [] h (rX "java/lang/IllegalArgumentException" q)) (h : AH) (a0 : Nat) (a2 : Int32) (a3 : Int32) (a4 : Int32) (a5 : Int32) (q : Option Int32 × AH) (hf : f_X10_play_L210 k76 h a0 a2 a3 a4 a5 = some q) : Go l X k_X10_play 210 [(0, rf X a0), (2, .int a2), (3, .int a3), (4, .int a4), (5, .int a5)] [] h (rX "java/lang/IllegalArgumentException" q) := by
  unfold f_X10_play_L210 at hf
  refine g_iconst (pc := 210) (v := (0 : Int32)) dX10_play_210 (by decide) ?_
  exact ok_X10_play_L211 l X hl k76 hk76 h a0 a2 a3 a4 a5 (0 : Int32) q hf
set_option maxRecDepth 100000 in
set_option maxHeartbeats 4000000 in
theorem ok_X10_play_L76 (l : Launch) (X : Cx) (hl : l.stackTraces = false) : ∀ (n : Nat) (h : AH) (a0 : Nat) (a2 : Int32) (a3 : Int32) (a4 : Int32) (q : Option Int32 × AH), f_X10_play_L76 n h a0 a2 a3 a4 = some q → Go l X k_X10_play 76 [(0, rf X a0), (2, .int a2), (3, .int a3), (4, .int a4)] [] h (rX "java/lang/IllegalArgumentException" q) := by
  intro n
  induction n with
  | zero =>
    intro h a0 a2 a3 a4 q hf
    unfold f_X10_play_L76 at hf
    cases hf
  | succ n ih =>
    intro h a0 a2 a3 a4 q hf
    unfold f_X10_play_L76 at hf
    refine g_iload (pc := 76) 3 dX10_play_76 rfl ?_
    refine g_iload_n (pc := 78) 1 dX10_play_78 rfl rfl ?_
    rcases it_some hf with ⟨c1, hf⟩ | ⟨c1, hf⟩
    · refine g_icge_t (pc := 79) (tgt := 324) dX10_play_79 (by decide) c1 ?_
      refine g_aload_n (pc := 324) 0 dX10_play_324 rfl rfl ?_
      obtain ⟨g2, hf⟩ := gs_some hf
      refine g_getI (pc := 325) fl_X10_118 dX10_play_325 g2 ?_
      refine g_iload_n (pc := 328) 2 dX10_play_328 rfl rfl ?_
      refine g_isub (pc := 329) dX10_play_329 ?_
      obtain rfl := Option.some.inj hf
      exact g_iret (pc := 330) rfl dX10_play_330
    · refine g_icge_f (pc := 79) (tgt := 324) dX10_play_79 (by decide) c1 ?_
      refine g_aload_n (pc := 82) 0 dX10_play_82 rfl rfl ?_
      obtain ⟨g3, hf⟩ := gs_some hf
      refine g_getR (pc := 83) fl_X10_12 dX10_play_83 g3 ?_
      obtain ⟨g4, hf⟩ := gs_some hf
      refine g_getR (pc := 86) fl_X10_182 dX10_play_86 g4 ?_
      refine g_iload (pc := 89) 3 dX10_play_89 rfl ?_
      obtain ⟨g5, hf⟩ := gs_some hf
      obtain ⟨b6, hf⟩ := gb_some hf
      refine g_cald (pc := 91) g5 b6 dX10_play_91 ?_
      obtain ⟨v7, hcv7, hf⟩ := bd_some hf
      refine g_cSI (pc := 92) (k2 := k_X8_digitsBehind) (av := [.int (hI h (hR h (hR h a0 0) 0) a4.toNatClampNeg)]) (q := (v7, h)) rfl dX10_play_92 ck_X8_digitsBehind m_1188 m_1182 (by decide) (by decide) rfl (by simp [rf_cat, rq_cat, ca_i, ca_l, ca_r]) (ct_X8_digitsBehind l X hcv7) ?_
      refine g_istore (pc := 95) (L' := [(5, .int v7), (0, rf X a0), (2, .int a2), (3, .int a3), (4, .int a4)]) dX10_play_95 (by decide) rfl rfl ?_
      refine g_iload (pc := 97) 0 dX10_play_97 rfl ?_
      rcases it_some hf with ⟨c8, hf⟩ | ⟨c8, hf⟩
      · refine g_ifle_t (pc := 99) (tgt := 318) dX10_play_99 (by decide) c8 ?_
        refine g_sub [1, 2, 3, 4] rfl ?_
        exact ok_X10_play_L318 l X hl (f_X10_play_L76 n) ih h a0 a2 a3 a4 q hf
      · refine g_ifle_f (pc := 99) (tgt := 318) dX10_play_99 (by decide) c8 ?_
        refine g_aload_n (pc := 102) 1 dX10_play_102 rfl rfl ?_
        refine g_getR (pc := 103) fl_X10_12 dX10_play_103 g3 ?_
        refine g_getR (pc := 106) fl_X10_182 dX10_play_106 g4 ?_
        refine g_iload (pc := 109) 4 dX10_play_109 rfl ?_
        refine g_iconst (pc := 111) (v := (1 : Int32)) dX10_play_111 (by decide) ?_
        refine g_iadd (pc := 112) dX10_play_112 ?_
        obtain ⟨b9, hf⟩ := gb_some hf
        refine g_cald (pc := 113) g5 b9 dX10_play_113 ?_
        obtain ⟨v10, hcv10, hf⟩ := bd_some hf
        refine g_cSI (pc := 114) (k2 := k_X8_digit) (av := [.int (hI h (hR h (hR h a0 0) 0) (a4 + (1 : Int32)).toNatClampNeg)]) (q := (v10, h)) rfl dX10_play_114 ck_X8_digit m_1189 m_1185 (by decide) (by decide) rfl (by simp [rf_cat, rq_cat, ca_i, ca_l, ca_r]) (ct_X8_digit l X hcv10) ?_
        refine g_istore (pc := 117) (L' := [(6, .int v10), (5, .int v7), (0, rf X a0), (2, .int a2), (3, .int a3), (4, .int a4)]) dX10_play_117 (by decide) rfl rfl ?_
        refine g_aload_n (pc := 119) 2 dX10_play_119 rfl rfl ?_
        refine g_getR (pc := 120) fl_X10_12 dX10_play_120 g3 ?_
        refine g_getR (pc := 123) fl_X10_182 dX10_play_123 g4 ?_
        refine g_iload (pc := 126) 5 dX10_play_126 rfl ?_
        refine g_iload (pc := 128) 1 dX10_play_128 rfl ?_
        refine g_iadd (pc := 130) dX10_play_130 ?_
        obtain ⟨b11, hf⟩ := gb_some hf
        refine g_cald (pc := 131) g5 b11 dX10_play_131 ?_
        obtain ⟨v12, hcv12, hf⟩ := bd_some hf
        refine g_cSI (pc := 132) (k2 := k_X8_digit) (av := [.int (hI h (hR h (hR h a0 0) 0) (a4 + v7).toNatClampNeg)]) (q := (v12, h)) rfl dX10_play_132 ck_X8_digit m_1189 m_1185 (by decide) (by decide) rfl (by simp [rf_cat, rq_cat, ca_i, ca_l, ca_r]) (ct_X8_digit l X hcv12) ?_
        refine g_istore (pc := 135) (L' := [(7, .int v12), (6, .int v10), (5, .int v7), (0, rf X a0), (2, .int a2), (3, .int a3), (4, .int a4)]) dX10_play_135 (by decide) rfl rfl ?_
        refine g_aload_n (pc := 137) 3 dX10_play_137 rfl rfl ?_
        obtain ⟨q13, hcq13, hf⟩ := bd_some hf
        refine g_cVV (pc := 138) (k2 := k_X10_growWaits) (av := []) (q := q13) rfl dX10_play_138 ck_X10_growWaits m_1190 m_1192 m_54 (ci := 8) rfl (by decide) g3 (by decide) (by decide) rfl (by simp [rf_cat, rq_cat, ca_i, ca_l, ca_r]) (ct_X10_growWaits l X hcq13) ?_
        refine g_aload_n (pc := 141) 3 dX10_play_141 rfl rfl ?_
        obtain ⟨g14, hf⟩ := gs_some hf
        refine g_getR (pc := 142) fl_X10_12 dX10_play_142 g14 ?_
        obtain ⟨g15, hf⟩ := gs_some hf
        refine g_getR (pc := 145) fl_X10_182 dX10_play_145 g15 ?_
        refine g_iload (pc := 148) 6 dX10_play_148 rfl ?_
        obtain ⟨g16, hf⟩ := gs_some hf
        obtain ⟨b17, hf⟩ := gb_some hf
        refine g_cald (pc := 150) g16 b17 dX10_play_150 ?_
        rcases it_some hf with ⟨c18, hf⟩ | ⟨c18, hf⟩
        · refine g_lsw (pc := 151) (tgt := 216) (100 : Int32) dX10_play_151 (by decide +kernel) c18 (off := 65) (by decide +kernel) (by decide) ?_
          refine g_aload_n (pc := 216) 3 dX10_play_216 rfl rfl ?_
          refine g_iload (pc := 217) 1 dX10_play_217 rfl ?_
          obtain ⟨v19, hcv19, hf⟩ := bd_some hf
          refine g_cVI (pc := 219) (k2 := k_X10_isCore) (av := [.int v10]) (q := (v19, q13)) rfl dX10_play_219 ck_X10_isCore m_639 m_641 m_16 (ci := 8) rfl (by decide) g14 (by decide) (by decide) rfl (by simp [rf_cat, rq_cat, ca_i, ca_l, ca_r]) (ct_X10_isCore l X hcv19) ?_
          rcases it_some hf with ⟨c20, hf⟩ | ⟨c20, hf⟩
          · refine g_ifeq_t (pc := 222) (tgt := 242) dX10_play_222 (by decide) c20 ?_
            refine g_sub [3, 4, 5, 6, 2] rfl ?_
            exact ok_X10_play_L242 l X hl (f_X10_play_L76 n) ih q13 a0 a2 a3 a4 v7 q hf
          · refine g_ifeq_f (pc := 222) (tgt := 242) dX10_play_222 (by decide) c20 ?_
            refine g_aload_n (pc := 225) 3 dX10_play_225 rfl rfl ?_
            refine g_getR (pc := 226) fl_X10_43 dX10_play_226 g14 ?_
            refine g_iload (pc := 229) 1 dX10_play_229 rfl ?_
            obtain ⟨g21, hf⟩ := gs_some hf
            obtain ⟨b22, hf⟩ := gb_some hf
            refine g_aldq (pc := 231) g21 b22 dX10_play_231 ?_
            obtain ⟨g23, hf⟩ := gs_some hf
            obtain ⟨q24, hcq24, hf⟩ := bd_some hf
            refine g_cVI (pc := 232) (k2 := k_X3_settle) (av := []) (q := q24) rfl dX10_play_232 ck_X3_settle m_1151 m_1152 m_1153 (ci := 2) rfl (by decide) g23 (by decide) (by decide) rfl (by simp [rf_cat, rq_cat, ca_i, ca_l, ca_r]) (ct_X3_settle l X hcq24) ?_
            rcases it_some hf with ⟨c25, hf⟩ | ⟨c25, hf⟩
            · refine g_ifeq_t (pc := 235) (tgt := 242) dX10_play_235 (by decide) c25 ?_
              refine g_sub [3, 4, 5, 6, 2] rfl ?_
              exact ok_X10_play_L242 l X hl (f_X10_play_L76 n) ih q24.2 a0 a2 a3 a4 v7 q hf
            · refine g_ifeq_f (pc := 235) (tgt := 242) dX10_play_235 (by decide) c25 ?_
              refine g_iconst (pc := 238) (v := (1 : Int32)) dX10_play_238 (by decide) ?_
              refine g_goto (pc := 239) (tgt := 243) dX10_play_239 (by decide) ?_
              refine g_sub [3, 4, 5, 6, 2] rfl ?_
              exact ok_X10_play_L243 l X hl (f_X10_play_L76 n) ih q24.2 a0 a2 a3 a4 v7 (1 : Int32) q hf
        ·
          rcases it_some hf with ⟨c26, hf⟩ | ⟨c26, hf⟩
          · refine g_lsw (pc := 151) (tgt := 248) (109 : Int32) dX10_play_151 (by decide +kernel) c26 (off := 97) (by decide +kernel) (by decide) ?_
            refine g_aload_n (pc := 248) 3 dX10_play_248 rfl rfl ?_
            refine g_bipush (pc := 249) (v := (16 : Int32)) dX10_play_249 (by decide) ?_
            refine g_iload (pc := 251) 1 dX10_play_251 rfl ?_
            refine g_imul (pc := 253) dX10_play_253 ?_
            refine g_iload (pc := 254) 0 dX10_play_254 rfl ?_
            refine g_iadd (pc := 256) dX10_play_256 ?_
            obtain ⟨q27, hcq27, hf⟩ := bd_some hf
            refine g_cVI (pc := 257) (k2 := k_X10_carry) (av := [.int (((16 : Int32) * v10) + v12)]) (q := q27) rfl dX10_play_257 ck_X10_carry m_549 m_551 m_2 (ci := 8) rfl (by decide) g14 (by decide) (by decide) rfl (by simp [rf_cat, rq_cat, ca_i, ca_l, ca_r]) (ct_X10_carry l X hcq27) ?_
            obtain ⟨x28, ex28, hf⟩ := lt_some hf
            refine g_istore (pc := 260) (L' := [(8, .int x28), (7, .int v12), (6, .int v10), (5, .int v7), (0, rf X a0), (2, .int a2), (3, .int a3), (4, .int a4)]) dX10_play_260 (by decide) ex28 rfl ?_
            refine g_goto (pc := 262) (tgt := 282) dX10_play_262 (by decide) ?_
            refine g_sub [4, 5, 6, 7, 3, 0] rfl ?_
            exact ok_X10_play_L282 l X hl (f_X10_play_L76 n) ih q27.2 a0 a2 a3 a4 v7 x28 q hf
          ·
            rcases it_some hf with ⟨c29, hf⟩ | ⟨c29, hf⟩
            · refine g_lsw (pc := 151) (tgt := 184) (115 : Int32) dX10_play_151 (by decide +kernel) c29 (off := 33) (by decide +kernel) (by decide) ?_
              refine g_aload_n (pc := 184) 3 dX10_play_184 rfl rfl ?_
              refine g_iload (pc := 185) 1 dX10_play_185 rfl ?_
              obtain ⟨v30, hcv30, hf⟩ := bd_some hf
              refine g_cVI (pc := 187) (k2 := k_X10_isCore) (av := [.int v10]) (q := (v30, q13)) rfl dX10_play_187 ck_X10_isCore m_639 m_641 m_16 (ci := 8) rfl (by decide) g14 (by decide) (by decide) rfl (by simp [rf_cat, rq_cat, ca_i, ca_l, ca_r]) (ct_X10_isCore l X hcv30) ?_
              rcases it_some hf with ⟨c31, hf⟩ | ⟨c31, hf⟩
              · refine g_ifeq_t (pc := 190) (tgt := 210) dX10_play_190 (by decide) c31 ?_
                refine g_sub [3, 4, 5, 6, 2] rfl ?_
                exact ok_X10_play_L210 l X hl (f_X10_play_L76 n) ih q13 a0 a2 a3 a4 v7 q hf
              · refine g_ifeq_f (pc := 190) (tgt := 210) dX10_play_190 (by decide) c31 ?_
                refine g_aload_n (pc := 193) 3 dX10_play_193 rfl rfl ?_
                refine g_getR (pc := 194) fl_X10_43 dX10_play_194 g14 ?_
                refine g_iload (pc := 197) 1 dX10_play_197 rfl ?_
                obtain ⟨g32, hf⟩ := gs_some hf
                obtain ⟨b33, hf⟩ := gb_some hf
                refine g_aldq (pc := 199) g32 b33 dX10_play_199 ?_
                obtain ⟨g34, hf⟩ := gs_some hf
                obtain ⟨q35, hcq35, hf⟩ := bd_some hf
                refine g_cVI (pc := 200) (k2 := k_X3_advance) (av := []) (q := q35) rfl dX10_play_200 ck_X3_advance m_1007 m_1008 m_1009 (ci := 2) rfl (by decide) g34 (by decide) (by decide) rfl (by simp [rf_cat, rq_cat, ca_i, ca_l, ca_r]) (ct_X3_advance l X hcq35) ?_
                rcases it_some hf with ⟨c36, hf⟩ | ⟨c36, hf⟩
                · refine g_ifeq_t (pc := 203) (tgt := 210) dX10_play_203 (by decide) c36 ?_
                  refine g_sub [3, 4, 5, 6, 2] rfl ?_
                  exact ok_X10_play_L210 l X hl (f_X10_play_L76 n) ih q35.2 a0 a2 a3 a4 v7 q hf
                · refine g_ifeq_f (pc := 203) (tgt := 210) dX10_play_203 (by decide) c36 ?_
                  refine g_iconst (pc := 206) (v := (1 : Int32)) dX10_play_206 (by decide) ?_
                  refine g_goto (pc := 207) (tgt := 211) dX10_play_207 (by decide) ?_
                  refine g_sub [3, 4, 5, 6, 2] rfl ?_
                  exact ok_X10_play_L211 l X hl (f_X10_play_L76 n) ih q35.2 a0 a2 a3 a4 v7 (1 : Int32) q hf
            ·
              refine g_lswD (pc := 151) (tgt := 265) [(100 : Int32), (109 : Int32), (115 : Int32)] dX10_play_151 (by decide +kernel) (by decide +kernel) (cons_ne c18 (cons_ne c26 (cons_ne c29 nil_ne))) (by decide) ?_
              refine g_aload_n (pc := 265) 3 dX10_play_265 rfl rfl ?_
              refine g_aload_n (pc := 266) 3 dX10_play_266 rfl rfl ?_
              refine g_getR (pc := 267) fl_X10_28 dX10_play_267 g14 ?_
              refine g_iload (pc := 270) 1 dX10_play_270 rfl ?_
              refine g_iload (pc := 272) 0 dX10_play_272 rfl ?_
              obtain ⟨g37, hf⟩ := gs_some hf
              obtain ⟨v38, hcv38, hf⟩ := bd_some hf
              refine g_cVI (pc := 274) (k2 := k_X6_placeOn) (av := [.int v10, .int v12]) (q := (v38, q13)) rfl dX10_play_274 ck_X6_placeOn m_675 m_676 m_677 (ci := 4) rfl (by decide) g37 (by decide) (by decide) rfl (by simp [rf_cat, rq_cat, ca_i, ca_l, ca_r]) (ct_X6_placeOn l X hcv38) ?_
              obtain ⟨q39, hcq39, hf⟩ := bd_some hf
              refine g_cVI (pc := 277) (k2 := k_X10_carry) (av := [.int v38]) (q := q39) rfl dX10_play_277 ck_X10_carry m_549 m_551 m_2 (ci := 8) rfl (by decide) g14 (by decide) (by decide) rfl (by simp [rf_cat, rq_cat, ca_i, ca_l, ca_r]) (ct_X10_carry l X hcq39) ?_
              obtain ⟨x40, ex40, hf⟩ := lt_some hf
              refine g_istore (pc := 280) (L' := [(8, .int x40), (7, .int v12), (6, .int v10), (5, .int v7), (0, rf X a0), (2, .int a2), (3, .int a3), (4, .int a4)]) dX10_play_280 (by decide) ex40 rfl ?_
              refine g_sub [4, 5, 6, 7, 3, 0] rfl ?_
              exact ok_X10_play_L282 l X hl (f_X10_play_L76 n) ih q39.2 a0 a2 a3 a4 v7 x40 q hf
set_option maxRecDepth 100000 in
set_option maxHeartbeats 4000000 in
theorem ok_X10_play_L33 (l : Launch) (X : Cx) (hl : l.stackTraces = false) (h : AH) (a0 : Nat) (s0 : Nat) (s1 : Int32) (q : Option Int32 × AH) (hf : f_X10_play_L33 h a0 s0 s1 = some q) : Go l X k_X10_play 33 [(0, rf X a0)] [.int s1, rf X s0] h (rX "java/lang/IllegalArgumentException" q) := by
  unfold f_X10_play_L33 at hf
  obtain ⟨g1, hf⟩ := gs_some hf
  obtain ⟨h2, eh2, hf⟩ := lt_some hf
  refine g_putI (pc := 33) fl_X10_80 dX10_play_33 g1 eh2 ?_
  refine g_aload_n (pc := 36) 0 dX10_play_36 rfl rfl ?_
  obtain ⟨g3, hf⟩ := gs_some hf
  refine g_getR (pc := 37) fl_X10_12 dX10_play_37 g3 ?_
  obtain ⟨g4, hf⟩ := gs_some hf
  refine g_getI (pc := 40) fl_X10_177 dX10_play_40 g4 ?_
  obtain ⟨x5, ex5, hf⟩ := lt_some hf
  refine g_istore_n (pc := 43) (L' := [(2, .int x5), (0, rf X a0)]) dX10_play_43 rfl (by decide) ex5 rfl ?_
  refine g_aload_n (pc := 44) 1 dX10_play_44 rfl rfl ?_
  refine g_getR (pc := 45) fl_X10_12 dX10_play_45 g3 ?_
  obtain ⟨q6, hcq6, hf⟩ := bd_some hf
  refine g_cVV (pc := 48) (k2 := k_X8_clear) (av := []) (q := q6) rfl dX10_play_48 ck_X8_clear m_883 m_884 m_885 (ci := 6) rfl (by decide) g4 (by decide) (by decide) rfl (by simp [rf_cat, rq_cat, ca_i, ca_l, ca_r]) (ct_X8_clear l X hcq6) ?_
  refine g_aload_n (pc := 51) 1 dX10_play_51 rfl rfl ?_
  obtain ⟨g7, hf⟩ := gs_some hf
  refine g_getI (pc := 52) fl_X10_76 dX10_play_52 g7 ?_
  rcases it_some hf with ⟨c8, hf⟩ | ⟨c8, hf⟩
  · refine g_ifeq_t (pc := 55) (tgt := 68) dX10_play_55 (by decide) c8 ?_
    refine g_aload_n (pc := 68) 1 dX10_play_68 rfl rfl ?_
    refine g_getI (pc := 69) fl_X10_118 dX10_play_69 g7 ?_
    obtain ⟨x9, ex9, hf⟩ := lt_some hf
    refine g_istore_n (pc := 72) (L' := [(3, .int x9), (2, .int x5), (0, rf X a0)]) dX10_play_72 rfl (by decide) ex9 rfl ?_
    refine g_iconst (pc := 73) (v := (0 : Int32)) dX10_play_73 (by decide) ?_
    obtain ⟨x10, ex10, hf⟩ := lt_some hf
    refine g_istore (pc := 74) (L' := [(4, .int x10), (3, .int x9), (2, .int x5), (0, rf X a0)]) dX10_play_74 (by decide) ex10 rfl ?_
    refine g_sub [3, 2, 1, 0] rfl ?_
    exact ok_X10_play_L76 l X hl FU q6 a0 x5 x9 x10 q hf
  · refine g_ifeq_f (pc := 55) (tgt := 68) dX10_play_55 (by decide) c8 ?_
    obtain rfl := Option.some.inj hf
    exact g_throw (pc := 58) hl (text := "the schedule has a fault") rfl th_81_85 (by decide) (by decide) (by decide) (by simp [rf_cat, rq_cat, ca_i, ca_l, ca_r]) dX10_play_58 dX10_play_61 dX10_play_62 dX10_play_64 dX10_play_67
set_option maxRecDepth 100000 in
set_option maxHeartbeats 4000000 in
theorem ok_X10_play_L19 (l : Launch) (X : Cx) (hl : l.stackTraces = false) (h : AH) (a0 : Nat) (a1 : Int32) (s0 : Nat) (s1 : Int32) (q : Option Int32 × AH) (hf : f_X10_play_L19 h a0 a1 s0 s1 = some q) : Go l X k_X10_play 19 [(0, rf X a0), (1, .int a1)] [.int s1, rf X s0] h (rX "java/lang/IllegalArgumentException" q) := by
  unfold f_X10_play_L19 at hf
  obtain ⟨g1, hf⟩ := gs_some hf
  obtain ⟨h2, eh2, hf⟩ := lt_some hf
  refine g_putI (pc := 19) fl_X10_76 dX10_play_19 g1 eh2 ?_
  refine g_aload_n (pc := 22) 0 dX10_play_22 rfl rfl ?_
  refine g_iload_n (pc := 23) 1 dX10_play_23 rfl rfl ?_
  refine g_iconst (pc := 24) (v := (-1 : Int32)) dX10_play_24 (by decide) ?_
  rcases it_some hf with ⟨c3, hf⟩ | ⟨c3, hf⟩
  · refine g_icne_t (pc := 25) (tgt := 32) dX10_play_25 (by decide) c3 ?_
    refine g_iload_n (pc := 32) 1 dX10_play_32 rfl rfl ?_
    refine g_sub [0] rfl ?_
    exact ok_X10_play_L33 l X hl h2 a0 a0 a1 q hf
  · refine g_icne_f (pc := 25) (tgt := 32) dX10_play_25 (by decide) (Decidable.of_not_not c3) ?_
    refine g_iconst (pc := 28) (v := (0 : Int32)) dX10_play_28 (by decide) ?_
    refine g_goto (pc := 29) (tgt := 33) dX10_play_29 (by decide) ?_
    refine g_sub [0] rfl ?_
    exact ok_X10_play_L33 l X hl h2 a0 a0 (0 : Int32) q hf
set_option maxRecDepth 100000 in
set_option maxHeartbeats 4000000 in
theorem ok_X10_play (l : Launch) (X : Cx) (hl : l.stackTraces = false) {h : AH} {a0 : Nat} {q : Option Int32 × AH} (hf : f_X10_play h a0 = some q) : Go l X k_X10_play 0 [(0, rf X a0)] [] h (rX "java/lang/IllegalArgumentException" q) := by
  unfold f_X10_play at hf
  refine g_aload_n (pc := 0) 0 dX10_play_0 rfl rfl ?_
  obtain ⟨g1, hf⟩ := gs_some hf
  refine g_getR (pc := 1) fl_X10_12 dX10_play_1 g1 ?_
  obtain ⟨g2, hf⟩ := gs_some hf
  obtain ⟨v3, hcv3, hf⟩ := bd_some hf
  refine g_cVI (pc := 4) (k2 := k_X8_scheduleFault) (av := []) (q := (v3, h)) rfl dX10_play_4 ck_X8_scheduleFault m_1177 m_1178 m_1179 (ci := 6) rfl (by decide) g2 (by decide) (by decide) rfl (by simp [rf_cat, rq_cat, ca_i, ca_l, ca_r]) (ct_X8_scheduleFault l X hcv3) ?_
  refine g_istore_n (pc := 7) (L' := [(1, .int v3), (0, rf X a0)]) dX10_play_7 rfl (by decide) rfl (by simp [rf_cat, rq_cat]) ?_
  refine g_aload_n (pc := 8) 1 dX10_play_8 rfl rfl ?_
  refine g_iload_n (pc := 9) 0 dX10_play_9 rfl rfl ?_
  refine g_iconst (pc := 10) (v := (-1 : Int32)) dX10_play_10 (by decide) ?_
  rcases it_some hf with ⟨c4, hf⟩ | ⟨c4, hf⟩
  · refine g_icne_t (pc := 11) (tgt := 18) dX10_play_11 (by decide) c4 ?_
    refine g_iconst (pc := 18) (v := (4 : Int32)) dX10_play_18 (by decide) ?_
    refine g_sub [1, 0] rfl ?_
    exact ok_X10_play_L19 l X hl h a0 v3 a0 (4 : Int32) q hf
  · refine g_icne_f (pc := 11) (tgt := 18) dX10_play_11 (by decide) (Decidable.of_not_not c4) ?_
    refine g_iconst (pc := 14) (v := (0 : Int32)) dX10_play_14 (by decide) ?_
    refine g_goto (pc := 15) (tgt := 19) dX10_play_15 (by decide) ?_
    refine g_sub [1, 0] rfl ?_
    exact ok_X10_play_L19 l X hl h a0 v3 a0 (0 : Int32) q hf
theorem ctr_X10_play (l : Launch) (X : Cx) (hl : l.stackTraces = false) {h : AH} {a0 : Nat} {v : Int32} {h1 : AH} (hf : f_X10_play h a0 = some (some v, h1)) : Ct l X k_X10_play [rf X a0] h (rI (v, h1)) := ct_of ck_X10_play (by simp [lg_sl, rf_cat, rq_cat, ca_i, ca_l, ca_r]) (by simp [lv_args, rf_cat, rq_cat, ca_i, ca_l, ca_r]) (ok_X10_play l X hl hf)
theorem ctx_X10_play (l : Launch) (X : Cx) (hl : l.stackTraces = false) {h : AH} {a0 : Nat} {h1 : AH} (hf : f_X10_play h a0 = some (none, h1)) : Ct l X k_X10_play [rf X a0] h (.inr "java/lang/IllegalArgumentException", h1) := ct_ofX ck_X10_play (by simp [lg_sl, rf_cat, rq_cat, ca_i, ca_l, ca_r]) (by simp [lv_args, rf_cat, rq_cat, ca_i, ca_l, ca_r]) (ok_X10_play l X hl hf)
set_option maxRecDepth 100000 in
set_option maxHeartbeats 4000000 in
theorem ok_X10_trace_L34 (l : Launch) (X : Cx) (hl : l.stackTraces = false) (h : AH) (q : Option Int32 × AH) (hf : f_X10_trace_L34 h = some q) : Go l X k_X10_trace 34 [] [] h (rX "java/util/NoSuchElementException" q) := by
  unfold f_X10_trace_L34 at hf
  obtain rfl := Option.some.inj hf
  exact g_throwN (pc := 34) hl (text := "nothing such in the trace") rfl th_200_204 (by decide) (by decide) (by decide) (by simp [rf_cat, rq_cat, ca_i, ca_l, ca_r]) dX10_trace_34 dX10_trace_37 dX10_trace_38 dX10_trace_40 dX10_trace_43
set_option maxRecDepth 100000 in
set_option maxHeartbeats 4000000 in
theorem ok_X10_trace (l : Launch) (X : Cx) (hl : l.stackTraces = false) {h : AH} {a0 : Nat} {a1 : Int32} {a2 : Int32} {a3 : Int32} {q : Option Int32 × AH} (hf : f_X10_trace h a0 a1 a2 a3 = some q) : Go l X k_X10_trace 0 [(0, rf X a0), (1, .int a1), (2, .int a2), (3, .int a3)] [] h (rX "java/util/NoSuchElementException" q) := by
  unfold f_X10_trace at hf
  refine g_aload_n (pc := 0) 0 dX10_trace_0 rfl rfl ?_
  refine g_iload_n (pc := 1) 1 dX10_trace_1 rfl rfl ?_
  obtain ⟨g1, hf⟩ := gs_some hf
  obtain ⟨v2, hcv2, hf⟩ := bd_some hf
  refine g_cVI (pc := 2) (k2 := k_X10_isCore) (av := [.int a1]) (q := (v2, h)) rfl dX10_trace_2 ck_X10_isCore m_639 m_641 m_16 (ci := 8) rfl (by decide) g1 (by decide) (by decide) rfl (by simp [rf_cat, rq_cat, ca_i, ca_l, ca_r]) (ct_X10_isCore l X hcv2) ?_
  rcases it_some hf with ⟨c3, hf⟩ | ⟨c3, hf⟩
  · refine g_ifeq_t (pc := 5) (tgt := 34) dX10_trace_5 (by decide) c3 ?_
    refine g_sub [] rfl ?_
    exact ok_X10_trace_L34 l X hl h q hf
  · refine g_ifeq_f (pc := 5) (tgt := 34) dX10_trace_5 (by decide) c3 ?_
    refine g_aload_n (pc := 8) 0 dX10_trace_8 rfl rfl ?_
    refine g_getR (pc := 9) fl_X10_43 dX10_trace_9 g1 ?_
    refine g_iload_n (pc := 12) 1 dX10_trace_12 rfl rfl ?_
    obtain ⟨g4, hf⟩ := gs_some hf
    obtain ⟨b5, hf⟩ := gb_some hf
    refine g_aldq (pc := 13) g4 b5 dX10_trace_13 ?_
    obtain ⟨g6, hf⟩ := gs_some hf
    refine g_getR (pc := 14) fl_X10_162 dX10_trace_14 g6 ?_
    refine g_iload_n (pc := 17) 2 dX10_trace_17 rfl rfl ?_
    obtain ⟨g7, hf⟩ := gs_some hf
    obtain ⟨v8, hcv8, hf⟩ := bd_some hf
    refine g_cVI (pc := 18) (k2 := k_X9_has) (av := [.int a2]) (q := (v8, h)) rfl dX10_trace_18 ck_X9_has m_1207 m_1208 m_1209 (ci := 7) rfl (by decide) g7 (by decide) (by decide) rfl (by simp [rf_cat, rq_cat, ca_i, ca_l, ca_r]) (ct_X9_has l X hcv8) ?_
    rcases it_some hf with ⟨c9, hf⟩ | ⟨c9, hf⟩
    · refine g_ifeq_t (pc := 21) (tgt := 34) dX10_trace_21 (by decide) c9 ?_
      refine g_sub [] rfl ?_
      exact ok_X10_trace_L34 l X hl h q hf
    · refine g_ifeq_f (pc := 21) (tgt := 34) dX10_trace_21 (by decide) c9 ?_
      refine g_iload_n (pc := 24) 3 dX10_trace_24 rfl rfl ?_
      rcases it_some hf with ⟨c10, hf⟩ | ⟨c10, hf⟩
      · refine g_iflt_t (pc := 25) (tgt := 34) dX10_trace_25 (by decide) c10 ?_
        refine g_sub [] rfl ?_
        exact ok_X10_trace_L34 l X hl h q hf
      · refine g_iflt_f (pc := 25) (tgt := 34) dX10_trace_25 (by decide) c10 ?_
        refine g_iload_n (pc := 28) 3 dX10_trace_28 rfl rfl ?_
        refine g_bipush (pc := 29) (v := (8 : Int32)) dX10_trace_29 (by decide) ?_
        rcases it_some hf with ⟨c11, hf⟩ | ⟨c11, hf⟩
        · refine g_iclt_t (pc := 31) (tgt := 44) dX10_trace_31 (by decide) c11 ?_
          refine g_aload_n (pc := 44) 0 dX10_trace_44 rfl rfl ?_
          refine g_getR (pc := 45) fl_X10_43 dX10_trace_45 g1 ?_
          refine g_iload_n (pc := 48) 1 dX10_trace_48 rfl rfl ?_
          obtain ⟨b12, hf⟩ := gb_some hf
          refine g_aldq (pc := 49) g4 b12 dX10_trace_49 ?_
          refine g_getR (pc := 50) fl_X10_162 dX10_trace_50 g6 ?_
          refine g_iload_n (pc := 53) 2 dX10_trace_53 rfl rfl ?_
          refine g_iload_n (pc := 54) 3 dX10_trace_54 rfl rfl ?_
          obtain ⟨v13, hcv13, hf⟩ := bd_some hf
          refine g_cVI (pc := 55) (k2 := k_X9_get) (av := [.int a2, .int a3]) (q := (v13, h)) rfl dX10_trace_55 ck_X9_get m_1227 m_1228 m_1229 (ci := 7) rfl (by decide) g7 (by decide) (by decide) rfl (by simp [rf_cat, rq_cat, ca_i, ca_l, ca_r]) (ct_X9_get l X hcv13) ?_
          obtain rfl := Option.some.inj hf
          exact g_iret (pc := 58) rfl dX10_trace_58
        · refine g_iclt_f (pc := 31) (tgt := 44) dX10_trace_31 (by decide) c11 ?_
          refine g_sub [] rfl ?_
          exact ok_X10_trace_L34 l X hl h q hf
theorem ctr_X10_trace (l : Launch) (X : Cx) (hl : l.stackTraces = false) {h : AH} {a0 : Nat} {a1 : Int32} {a2 : Int32} {a3 : Int32} {v : Int32} {h1 : AH} (hf : f_X10_trace h a0 a1 a2 a3 = some (some v, h1)) : Ct l X k_X10_trace [rf X a0, .int a1, .int a2, .int a3] h (rI (v, h1)) := ct_of ck_X10_trace (by simp [lg_sl, rf_cat, rq_cat, ca_i, ca_l, ca_r]) (by simp [lv_args, rf_cat, rq_cat, ca_i, ca_l, ca_r]) (ok_X10_trace l X hl hf)
theorem ctx_X10_trace (l : Launch) (X : Cx) (hl : l.stackTraces = false) {h : AH} {a0 : Nat} {a1 : Int32} {a2 : Int32} {a3 : Int32} {h1 : AH} (hf : f_X10_trace h a0 a1 a2 a3 = some (none, h1)) : Ct l X k_X10_trace [rf X a0, .int a1, .int a2, .int a3] h (.inr "java/util/NoSuchElementException", h1) := ct_ofX ck_X10_trace (by simp [lg_sl, rf_cat, rq_cat, ca_i, ca_l, ca_r]) (by simp [lv_args, rf_cat, rq_cat, ca_i, ca_l, ca_r]) (ok_X10_trace l X hl hf)
set_option maxRecDepth 100000 in
set_option maxHeartbeats 4000000 in
theorem ok_X10_core_L21 (l : Launch) (X : Cx) (hl : l.stackTraces = false) (h : AH) (q : Option Int32 × AH) (hf : f_X10_core_L21 h = some q) : Go l X k_X10_core 21 [] [] h (rX "java/util/NoSuchElementException" q) := by
  unfold f_X10_core_L21 at hf
  obtain rfl := Option.some.inj hf
  exact g_throwN (pc := 21) hl (text := "nothing such of a core") rfl th_200_204 (by decide) (by decide) (by decide) (by simp [rf_cat, rq_cat, ca_i, ca_l, ca_r]) dX10_core_21 dX10_core_24 dX10_core_25 dX10_core_27 dX10_core_30
set_option maxRecDepth 100000 in
set_option maxHeartbeats 4000000 in
theorem ok_X10_core (l : Launch) (X : Cx) (hl : l.stackTraces = false) {h : AH} {a0 : Nat} {a1 : Int32} {a2 : Int32} {q : Option Int32 × AH} (hf : f_X10_core h a0 a1 a2 = some q) : Go l X k_X10_core 0 [(0, rf X a0), (1, .int a1), (2, .int a2)] [] h (rX "java/util/NoSuchElementException" q) := by
  unfold f_X10_core at hf
  refine g_aload_n (pc := 0) 0 dX10_core_0 rfl rfl ?_
  refine g_iload_n (pc := 1) 1 dX10_core_1 rfl rfl ?_
  obtain ⟨g1, hf⟩ := gs_some hf
  obtain ⟨v2, hcv2, hf⟩ := bd_some hf
  refine g_cVI (pc := 2) (k2 := k_X10_isCore) (av := [.int a1]) (q := (v2, h)) rfl dX10_core_2 ck_X10_isCore m_639 m_641 m_16 (ci := 8) rfl (by decide) g1 (by decide) (by decide) rfl (by simp [rf_cat, rq_cat, ca_i, ca_l, ca_r]) (ct_X10_isCore l X hcv2) ?_
  rcases it_some hf with ⟨c3, hf⟩ | ⟨c3, hf⟩
  · refine g_ifeq_t (pc := 5) (tgt := 21) dX10_core_5 (by decide) c3 ?_
    refine g_sub [] rfl ?_
    exact ok_X10_core_L21 l X hl h q hf
  · refine g_ifeq_f (pc := 5) (tgt := 21) dX10_core_5 (by decide) c3 ?_
    refine g_aload_n (pc := 8) 0 dX10_core_8 rfl rfl ?_
    refine g_getR (pc := 9) fl_X10_43 dX10_core_9 g1 ?_
    refine g_iload_n (pc := 12) 1 dX10_core_12 rfl rfl ?_
    obtain ⟨g4, hf⟩ := gs_some hf
    obtain ⟨b5, hf⟩ := gb_some hf
    refine g_aldq (pc := 13) g4 b5 dX10_core_13 ?_
    refine g_iload_n (pc := 14) 2 dX10_core_14 rfl rfl ?_
    obtain ⟨g6, hf⟩ := gs_some hf
    obtain ⟨v7, hcv7, hf⟩ := bd_some hf
    refine g_cVI (pc := 15) (k2 := k_X3_tells) (av := [.int a2]) (q := (v7, h)) rfl dX10_core_15 ck_X3_tells m_1238 m_1239 m_1240 (ci := 2) rfl (by decide) g6 (by decide) (by decide) rfl (by simp [rf_cat, rq_cat, ca_i, ca_l, ca_r]) (ct_X3_tells l X hcv7) ?_
    rcases it_some hf with ⟨c8, hf⟩ | ⟨c8, hf⟩
    · refine g_ifne_t (pc := 18) (tgt := 31) dX10_core_18 (by decide) c8 ?_
      refine g_aload_n (pc := 31) 0 dX10_core_31 rfl rfl ?_
      refine g_getR (pc := 32) fl_X10_43 dX10_core_32 g1 ?_
      refine g_iload_n (pc := 35) 1 dX10_core_35 rfl rfl ?_
      obtain ⟨b9, hf⟩ := gb_some hf
      refine g_aldq (pc := 36) g4 b9 dX10_core_36 ?_
      refine g_iload_n (pc := 37) 2 dX10_core_37 rfl rfl ?_
      obtain ⟨v10, hcv10, hf⟩ := bd_some hf
      refine g_cVI (pc := 38) (k2 := k_X3_tell) (av := [.int a2]) (q := (v10, h)) rfl dX10_core_38 ck_X3_tell m_1243 m_1244 m_1245 (ci := 2) rfl (by decide) g6 (by decide) (by decide) rfl (by simp [rf_cat, rq_cat, ca_i, ca_l, ca_r]) (ct_X3_tell l X hcv10) ?_
      obtain rfl := Option.some.inj hf
      exact g_iret (pc := 41) rfl dX10_core_41
    · refine g_ifne_f (pc := 18) (tgt := 31) dX10_core_18 (by decide) (Decidable.of_not_not c8) ?_
      refine g_sub [] rfl ?_
      exact ok_X10_core_L21 l X hl h q hf
theorem ctr_X10_core (l : Launch) (X : Cx) (hl : l.stackTraces = false) {h : AH} {a0 : Nat} {a1 : Int32} {a2 : Int32} {v : Int32} {h1 : AH} (hf : f_X10_core h a0 a1 a2 = some (some v, h1)) : Ct l X k_X10_core [rf X a0, .int a1, .int a2] h (rI (v, h1)) := ct_of ck_X10_core (by simp [lg_sl, rf_cat, rq_cat, ca_i, ca_l, ca_r]) (by simp [lv_args, rf_cat, rq_cat, ca_i, ca_l, ca_r]) (ok_X10_core l X hl hf)
theorem ctx_X10_core (l : Launch) (X : Cx) (hl : l.stackTraces = false) {h : AH} {a0 : Nat} {a1 : Int32} {a2 : Int32} {h1 : AH} (hf : f_X10_core h a0 a1 a2 = some (none, h1)) : Ct l X k_X10_core [rf X a0, .int a1, .int a2] h (.inr "java/util/NoSuchElementException", h1) := ct_ofX ck_X10_core (by simp [lg_sl, rf_cat, rq_cat, ca_i, ca_l, ca_r]) (by simp [lv_args, rf_cat, rq_cat, ca_i, ca_l, ca_r]) (ok_X10_core l X hl hf)
set_option maxRecDepth 100000 in
set_option maxHeartbeats 4000000 in
theorem ok_X10_copy_L34 (l : Launch) (X : Cx) (hl : l.stackTraces = false) (h : AH) (a0 : Nat) (a1 : Int32) (a2 : Int32) (s0 : Int32) (q : Option Int32 × AH) (hf : f_X10_copy_L34 h a0 a1 a2 s0 = some q) : Go l X k_X10_copy 34 [(0, rf X a0), (1, .int a1), (2, .int a2)] [.int s0] h (rX "java/util/NoSuchElementException" q) := by
  unfold f_X10_copy_L34 at hf
  refine g_istore_n (pc := 34) (L' := [(3, .int s0), (0, rf X a0), (1, .int a1), (2, .int a2)]) dX10_copy_34 rfl (by decide) rfl rfl ?_
  refine g_iload_n (pc := 35) 0 dX10_copy_35 rfl rfl ?_
  rcases it_some hf with ⟨c1, hf⟩ | ⟨c1, hf⟩
  · refine g_ifge_t (pc := 36) (tgt := 49) dX10_copy_36 (by decide) c1 ?_
    refine g_aload_n (pc := 49) 1 dX10_copy_49 rfl rfl ?_
    obtain ⟨g2, hf⟩ := gs_some hf
    refine g_getR (pc := 50) fl_X10_43 dX10_copy_50 g2 ?_
    refine g_iload_n (pc := 53) 2 dX10_copy_53 rfl rfl ?_
    obtain ⟨g3, hf⟩ := gs_some hf
    obtain ⟨b4, hf⟩ := gb_some hf
    refine g_aldq (pc := 54) g3 b4 dX10_copy_54 ?_
    obtain ⟨g5, hf⟩ := gs_some hf
    refine g_getR (pc := 55) fl_X10_217 dX10_copy_55 g5 ?_
    obtain ⟨g6, hf⟩ := gs_some hf
    refine g_getR (pc := 58) fl_X10_234 dX10_copy_58 g6 ?_
    refine g_iload_n (pc := 61) 0 dX10_copy_61 rfl rfl ?_
    refine g_iload_n (pc := 62) 3 dX10_copy_62 rfl rfl ?_
    obtain ⟨v7, hcv7, hf⟩ := bd_some hf
    refine g_cSI (pc := 63) (k2 := k_X10_wordOf) (av := [.int s0, .int a2]) (q := (v7, h)) rfl dX10_copy_63 ck_X10_wordOf m_1258 m_1035 (by decide) (by decide) rfl (by simp [rf_cat, rq_cat, ca_i, ca_l, ca_r]) (ct_X10_wordOf l X hcv7) ?_
    obtain ⟨g8, hf⟩ := gs_some hf
    obtain ⟨b9, hf⟩ := gb_some hf
    refine g_iald (pc := 66) g8 b9 dX10_copy_66 ?_
    obtain rfl := Option.some.inj hf
    exact g_iret (pc := 67) rfl dX10_copy_67
  · refine g_ifge_f (pc := 36) (tgt := 49) dX10_copy_36 (by decide) c1 ?_
    obtain rfl := Option.some.inj hf
    exact g_throwN (pc := 39) hl (text := "no such copy") rfl th_200_204 (by decide) (by decide) (by decide) (by simp [rf_cat, rq_cat, ca_i, ca_l, ca_r]) dX10_copy_39 dX10_copy_42 dX10_copy_43 dX10_copy_45 dX10_copy_48
set_option maxRecDepth 100000 in
set_option maxHeartbeats 4000000 in
theorem ok_X10_copy_L33 (l : Launch) (X : Cx) (hl : l.stackTraces = false) (h : AH) (a0 : Nat) (a1 : Int32) (a2 : Int32) (q : Option Int32 × AH) (hf : f_X10_copy_L33 h a0 a1 a2 = some q) : Go l X k_X10_copy 33 [(0, rf X a0), (1, .int a1), (2, .int a2)] [] h (rX "java/util/NoSuchElementException" q) := by
  unfold f_X10_copy_L33 at hf
  refine g_iconst (pc := 33) (v := (-1 : Int32)) dX10_copy_33 (by decide) ?_
  exact ok_X10_copy_L34 l X hl h a0 a1 a2 (-1 : Int32) q hf
set_option maxRecDepth 100000 in
set_option maxHeartbeats 4000000 in
theorem ok_X10_copy (l : Launch) (X : Cx) (hl : l.stackTraces = false) {h : AH} {a0 : Nat} {a1 : Int32} {a2 : Int32} {q : Option Int32 × AH} (hf : f_X10_copy h a0 a1 a2 = some q) : Go l X k_X10_copy 0 [(0, rf X a0), (1, .int a1), (2, .int a2)] [] h (rX "java/util/NoSuchElementException" q) := by
  unfold f_X10_copy at hf
  refine g_aload_n (pc := 0) 0 dX10_copy_0 rfl rfl ?_
  refine g_iload_n (pc := 1) 1 dX10_copy_1 rfl rfl ?_
  obtain ⟨g1, hf⟩ := gs_some hf
  obtain ⟨v2, hcv2, hf⟩ := bd_some hf
  refine g_cVI (pc := 2) (k2 := k_X10_isCore) (av := [.int a1]) (q := (v2, h)) rfl dX10_copy_2 ck_X10_isCore m_639 m_641 m_16 (ci := 8) rfl (by decide) g1 (by decide) (by decide) rfl (by simp [rf_cat, rq_cat, ca_i, ca_l, ca_r]) (ct_X10_isCore l X hcv2) ?_
  rcases it_some hf with ⟨c3, hf⟩ | ⟨c3, hf⟩
  · refine g_ifeq_t (pc := 5) (tgt := 33) dX10_copy_5 (by decide) c3 ?_
    exact ok_X10_copy_L33 l X hl h a0 a1 a2 q hf
  · refine g_ifeq_f (pc := 5) (tgt := 33) dX10_copy_5 (by decide) c3 ?_
    refine g_iload_n (pc := 8) 2 dX10_copy_8 rfl rfl ?_
    obtain ⟨v4, hcv4, hf⟩ := bd_some hf
    refine g_cSI (pc := 9) (k2 := k_X10_isWord) (av := [.int a2]) (q := (v4, h)) rfl dX10_copy_9 ck_X10_isWord m_1254 m_1255 (by decide) (by decide) rfl (by simp [rf_cat, rq_cat, ca_i, ca_l, ca_r]) (ct_X10_isWord l X hcv4) ?_
    rcases it_some hf with ⟨c5, hf⟩ | ⟨c5, hf⟩
    · refine g_ifeq_t (pc := 12) (tgt := 33) dX10_copy_12 (by decide) c5 ?_
      exact ok_X10_copy_L33 l X hl h a0 a1 a2 q hf
    · refine g_ifeq_f (pc := 12) (tgt := 33) dX10_copy_12 (by decide) c5 ?_
      refine g_aload_n (pc := 15) 0 dX10_copy_15 rfl rfl ?_
      refine g_getR (pc := 16) fl_X10_43 dX10_copy_16 g1 ?_
      refine g_iload_n (pc := 19) 1 dX10_copy_19 rfl rfl ?_
      obtain ⟨g6, hf⟩ := gs_some hf
      obtain ⟨b7, hf⟩ := gb_some hf
      refine g_aldq (pc := 20) g6 b7 dX10_copy_20 ?_
      obtain ⟨g8, hf⟩ := gs_some hf
      refine g_getR (pc := 21) fl_X10_217 dX10_copy_21 g8 ?_
      refine g_iload_n (pc := 24) 2 dX10_copy_24 rfl rfl ?_
      refine g_iconst (pc := 25) (v := (4 : Int32)) dX10_copy_25 (by decide) ?_
      refine g_ishr (pc := 26) dX10_copy_26 ?_
      obtain ⟨g9, hf⟩ := gs_some hf
      obtain ⟨v10, hcv10, hf⟩ := bd_some hf
      refine g_cVI (pc := 27) (k2 := k_X2_find) (av := [.int (a2 >>> ((4 : Int32) &&& 31))]) (q := (v10, h)) rfl dX10_copy_27 ck_X2_find m_689 m_652 m_653 (ci := 1) rfl (by decide) g9 (by decide) (by decide) rfl (by simp [rf_cat, rq_cat, ca_i, ca_l, ca_r]) (ct_X2_find l X hcv10) ?_
      refine g_goto (pc := 30) (tgt := 34) dX10_copy_30 (by decide) ?_
      exact ok_X10_copy_L34 l X hl h a0 a1 a2 v10 q hf
theorem ctr_X10_copy (l : Launch) (X : Cx) (hl : l.stackTraces = false) {h : AH} {a0 : Nat} {a1 : Int32} {a2 : Int32} {v : Int32} {h1 : AH} (hf : f_X10_copy h a0 a1 a2 = some (some v, h1)) : Ct l X k_X10_copy [rf X a0, .int a1, .int a2] h (rI (v, h1)) := ct_of ck_X10_copy (by simp [lg_sl, rf_cat, rq_cat, ca_i, ca_l, ca_r]) (by simp [lv_args, rf_cat, rq_cat, ca_i, ca_l, ca_r]) (ok_X10_copy l X hl hf)
theorem ctx_X10_copy (l : Launch) (X : Cx) (hl : l.stackTraces = false) {h : AH} {a0 : Nat} {a1 : Int32} {a2 : Int32} {h1 : AH} (hf : f_X10_copy h a0 a1 a2 = some (none, h1)) : Ct l X k_X10_copy [rf X a0, .int a1, .int a2] h (.inr "java/util/NoSuchElementException", h1) := ct_ofX ck_X10_copy (by simp [lg_sl, rf_cat, rq_cat, ca_i, ca_l, ca_r]) (by simp [lv_args, rf_cat, rq_cat, ca_i, ca_l, ca_r]) (ok_X10_copy l X hl hf)
set_option maxRecDepth 100000 in
set_option maxHeartbeats 4000000 in
theorem ok_X10_home_L38 (l : Launch) (X : Cx) (hl : l.stackTraces = false) (h : AH) (q : Option Int32 × AH) (hf : f_X10_home_L38 h = some q) : Go l X k_X10_home 38 [] [] h (rX "java/util/NoSuchElementException" q) := by
  unfold f_X10_home_L38 at hf
  obtain rfl := Option.some.inj hf
  exact g_throwN (pc := 38) hl (text := "nothing such in the home") rfl th_200_204 (by decide) (by decide) (by decide) (by simp [rf_cat, rq_cat, ca_i, ca_l, ca_r]) dX10_home_38 dX10_home_41 dX10_home_42 dX10_home_44 dX10_home_47
set_option maxRecDepth 100000 in
set_option maxHeartbeats 4000000 in
theorem ok_X10_home_L23 (l : Launch) (X : Cx) (hl : l.stackTraces = false) (h : AH) (a0 : Nat) (a2 : Int32) (s0 : Int32) (q : Option Int32 × AH) (hf : f_X10_home_L23 h a0 a2 s0 = some q) : Go l X k_X10_home 23 [(0, rf X a0), (2, .int a2)] [.int s0] h (rX "java/util/NoSuchElementException" q) := by
  unfold f_X10_home_L23 at hf
  refine g_istore_n (pc := 23) (L' := [(3, .int s0), (0, rf X a0), (2, .int a2)]) dX10_home_23 rfl (by decide) rfl rfl ?_
  refine g_iload_n (pc := 24) 0 dX10_home_24 rfl rfl ?_
  rcases it_some hf with ⟨c1, hf⟩ | ⟨c1, hf⟩
  · refine g_iflt_t (pc := 25) (tgt := 38) dX10_home_25 (by decide) c1 ?_
    refine g_sub [] rfl ?_
    exact ok_X10_home_L38 l X hl h q hf
  · refine g_iflt_f (pc := 25) (tgt := 38) dX10_home_25 (by decide) c1 ?_
    refine g_iload_n (pc := 28) 2 dX10_home_28 rfl rfl ?_
    rcases it_some hf with ⟨c2, hf⟩ | ⟨c2, hf⟩
    · refine g_iflt_t (pc := 29) (tgt := 38) dX10_home_29 (by decide) c2 ?_
      refine g_sub [] rfl ?_
      exact ok_X10_home_L38 l X hl h q hf
    · refine g_iflt_f (pc := 29) (tgt := 38) dX10_home_29 (by decide) c2 ?_
      refine g_iload_n (pc := 32) 2 dX10_home_32 rfl rfl ?_
      refine g_bipush (pc := 33) (v := (9 : Int32)) dX10_home_33 (by decide) ?_
      rcases it_some hf with ⟨c3, hf⟩ | ⟨c3, hf⟩
      · refine g_icle_t (pc := 35) (tgt := 48) dX10_home_35 (by decide) c3 ?_
        refine g_aload_n (pc := 48) 1 dX10_home_48 rfl rfl ?_
        obtain ⟨g4, hf⟩ := gs_some hf
        refine g_getR (pc := 49) fl_X10_37 dX10_home_49 g4 ?_
        refine g_iload_n (pc := 52) 0 dX10_home_52 rfl rfl ?_
        refine g_iload_n (pc := 53) 2 dX10_home_53 rfl rfl ?_
        obtain ⟨g5, hf⟩ := gs_some hf
        obtain ⟨v6, hcv6, hf⟩ := bd_some hf
        refine g_cVI (pc := 54) (k2 := k_X4_tell) (av := [.int s0, .int a2]) (q := (v6, h)) rfl dX10_home_54 ck_X4_tell m_1268 m_1269 m_1270 (ci := 3) rfl (by decide) g5 (by decide) (by decide) rfl (by simp [rf_cat, rq_cat, ca_i, ca_l, ca_r]) (ct_X4_tell l X hcv6) ?_
        obtain rfl := Option.some.inj hf
        exact g_iret (pc := 57) rfl dX10_home_57
      · refine g_icle_f (pc := 35) (tgt := 48) dX10_home_35 (by decide) c3 ?_
        refine g_sub [] rfl ?_
        exact ok_X10_home_L38 l X hl h q hf
set_option maxRecDepth 100000 in
set_option maxHeartbeats 4000000 in
theorem ok_X10_home_L22 (l : Launch) (X : Cx) (hl : l.stackTraces = false) (h : AH) (a0 : Nat) (a2 : Int32) (q : Option Int32 × AH) (hf : f_X10_home_L22 h a0 a2 = some q) : Go l X k_X10_home 22 [(0, rf X a0), (2, .int a2)] [] h (rX "java/util/NoSuchElementException" q) := by
  unfold f_X10_home_L22 at hf
  refine g_iconst (pc := 22) (v := (-1 : Int32)) dX10_home_22 (by decide) ?_
  exact ok_X10_home_L23 l X hl h a0 a2 (-1 : Int32) q hf
set_option maxRecDepth 100000 in
set_option maxHeartbeats 4000000 in
theorem ok_X10_home (l : Launch) (X : Cx) (hl : l.stackTraces = false) {h : AH} {a0 : Nat} {a1 : Int32} {a2 : Int32} {q : Option Int32 × AH} (hf : f_X10_home h a0 a1 a2 = some q) : Go l X k_X10_home 0 [(0, rf X a0), (1, .int a1), (2, .int a2)] [] h (rX "java/util/NoSuchElementException" q) := by
  unfold f_X10_home at hf
  refine g_iload_n (pc := 0) 1 dX10_home_0 rfl rfl ?_
  rcases it_some hf with ⟨c1, hf⟩ | ⟨c1, hf⟩
  · refine g_iflt_t (pc := 1) (tgt := 22) dX10_home_1 (by decide) c1 ?_
    refine g_sub [0, 2] rfl ?_
    exact ok_X10_home_L22 l X hl h a0 a2 q hf
  · refine g_iflt_f (pc := 1) (tgt := 22) dX10_home_1 (by decide) c1 ?_
    refine g_iload_n (pc := 4) 1 dX10_home_4 rfl rfl ?_
    refine g_sipush (pc := 5) (v := (512 : Int32)) dX10_home_5 (by decide) ?_
    rcases it_some hf with ⟨c2, hf⟩ | ⟨c2, hf⟩
    · refine g_icge_t (pc := 8) (tgt := 22) dX10_home_8 (by decide) c2 ?_
      refine g_sub [0, 2] rfl ?_
      exact ok_X10_home_L22 l X hl h a0 a2 q hf
    · refine g_icge_f (pc := 8) (tgt := 22) dX10_home_8 (by decide) c2 ?_
      refine g_aload_n (pc := 11) 0 dX10_home_11 rfl rfl ?_
      obtain ⟨g3, hf⟩ := gs_some hf
      refine g_getR (pc := 12) fl_X10_37 dX10_home_12 g3 ?_
      refine g_iload_n (pc := 15) 1 dX10_home_15 rfl rfl ?_
      obtain ⟨g4, hf⟩ := gs_some hf
      obtain ⟨v5, hcv5, hf⟩ := bd_some hf
      refine g_cVI (pc := 16) (k2 := k_X4_find) (av := [.int a1]) (q := (v5, h)) rfl dX10_home_16 ck_X4_find m_1266 m_569 m_570 (ci := 3) rfl (by decide) g4 (by decide) (by decide) rfl (by simp [rf_cat, rq_cat, ca_i, ca_l, ca_r]) (ct_X4_find l X hcv5) ?_
      refine g_goto (pc := 19) (tgt := 23) dX10_home_19 (by decide) ?_
      refine g_sub [0, 2] rfl ?_
      exact ok_X10_home_L23 l X hl h a0 a2 v5 q hf
theorem ctr_X10_home (l : Launch) (X : Cx) (hl : l.stackTraces = false) {h : AH} {a0 : Nat} {a1 : Int32} {a2 : Int32} {v : Int32} {h1 : AH} (hf : f_X10_home h a0 a1 a2 = some (some v, h1)) : Ct l X k_X10_home [rf X a0, .int a1, .int a2] h (rI (v, h1)) := ct_of ck_X10_home (by simp [lg_sl, rf_cat, rq_cat, ca_i, ca_l, ca_r]) (by simp [lv_args, rf_cat, rq_cat, ca_i, ca_l, ca_r]) (ok_X10_home l X hl hf)
theorem ctx_X10_home (l : Launch) (X : Cx) (hl : l.stackTraces = false) {h : AH} {a0 : Nat} {a1 : Int32} {a2 : Int32} {h1 : AH} (hf : f_X10_home h a0 a1 a2 = some (none, h1)) : Ct l X k_X10_home [rf X a0, .int a1, .int a2] h (.inr "java/util/NoSuchElementException", h1) := ct_ofX ck_X10_home (by simp [lg_sl, rf_cat, rq_cat, ca_i, ca_l, ca_r]) (by simp [lv_args, rf_cat, rq_cat, ca_i, ca_l, ca_r]) (ok_X10_home l X hl hf)
set_option maxRecDepth 100000 in
set_option maxHeartbeats 4000000 in
theorem ok_X10_memory (l : Launch) (X : Cx) (hl : l.stackTraces = false) {h : AH} {a0 : Nat} {a1 : Int32} {q : Option Int32 × AH} (hf : f_X10_memory h a0 a1 = some q) : Go l X k_X10_memory 0 [(0, rf X a0), (1, .int a1)] [] h (rX "java/lang/IndexOutOfBoundsException" q) := by
  unfold f_X10_memory at hf
  refine g_iload_n (pc := 0) 1 dX10_memory_0 rfl rfl ?_
  obtain ⟨v1, hcv1, hf⟩ := bd_some hf
  refine g_cSI (pc := 1) (k2 := k_X10_isWord) (av := [.int a1]) (q := (v1, h)) rfl dX10_memory_1 ck_X10_isWord m_1254 m_1255 (by decide) (by decide) rfl (by simp [rf_cat, rq_cat, ca_i, ca_l, ca_r]) (ct_X10_isWord l X hcv1) ?_
  rcases it_some hf with ⟨c2, hf⟩ | ⟨c2, hf⟩
  · refine g_ifne_t (pc := 4) (tgt := 17) dX10_memory_4 (by decide) c2 ?_
    refine g_aload_n (pc := 17) 0 dX10_memory_17 rfl rfl ?_
    obtain ⟨g3, hf⟩ := gs_some hf
    refine g_getR (pc := 18) fl_X10_37 dX10_memory_18 g3 ?_
    obtain ⟨g4, hf⟩ := gs_some hf
    refine g_getR (pc := 21) fl_X10_102 dX10_memory_21 g4 ?_
    refine g_iload_n (pc := 24) 1 dX10_memory_24 rfl rfl ?_
    refine g_iconst (pc := 25) (v := (2 : Int32)) dX10_memory_25 (by decide) ?_
    refine g_ishr (pc := 26) dX10_memory_26 ?_
    obtain ⟨g5, hf⟩ := gs_some hf
    obtain ⟨b6, hf⟩ := gb_some hf
    refine g_iald (pc := 27) g5 b6 dX10_memory_27 ?_
    obtain rfl := Option.some.inj hf
    exact g_iret (pc := 28) rfl dX10_memory_28
  · refine g_ifne_f (pc := 4) (tgt := 17) dX10_memory_4 (by decide) (Decidable.of_not_not c2) ?_
    obtain rfl := Option.some.inj hf
    exact g_throw (pc := 7) hl (text := "no such word") rfl th_125_129 (by decide) (by decide) (by decide) (by simp [rf_cat, rq_cat, ca_i, ca_l, ca_r]) dX10_memory_7 dX10_memory_10 dX10_memory_11 dX10_memory_13 dX10_memory_16
theorem ctr_X10_memory (l : Launch) (X : Cx) (hl : l.stackTraces = false) {h : AH} {a0 : Nat} {a1 : Int32} {v : Int32} {h1 : AH} (hf : f_X10_memory h a0 a1 = some (some v, h1)) : Ct l X k_X10_memory [rf X a0, .int a1] h (rI (v, h1)) := ct_of ck_X10_memory (by simp [lg_sl, rf_cat, rq_cat, ca_i, ca_l, ca_r]) (by simp [lv_args, rf_cat, rq_cat, ca_i, ca_l, ca_r]) (ok_X10_memory l X hl hf)
theorem ctx_X10_memory (l : Launch) (X : Cx) (hl : l.stackTraces = false) {h : AH} {a0 : Nat} {a1 : Int32} {h1 : AH} (hf : f_X10_memory h a0 a1 = some (none, h1)) : Ct l X k_X10_memory [rf X a0, .int a1] h (.inr "java/lang/IndexOutOfBoundsException", h1) := ct_ofX ck_X10_memory (by simp [lg_sl, rf_cat, rq_cat, ca_i, ca_l, ca_r]) (by simp [lv_args, rf_cat, rq_cat, ca_i, ca_l, ca_r]) (ok_X10_memory l X hl hf)
set_option maxRecDepth 100000 in
set_option maxHeartbeats 4000000 in
theorem ok_X10_word (l : Launch) (X : Cx) (hl : l.stackTraces = false) {h : AH} {a0 : Nat} {a1 : Int32} {q : Option Int32 × AH} (hf : f_X10_word h a0 a1 = some q) : Go l X k_X10_word 0 [(0, rf X a0), (1, .int a1)] [] h (rX "java/lang/IndexOutOfBoundsException" q) := by
  unfold f_X10_word at hf
  refine g_iload_n (pc := 0) 1 dX10_word_0 rfl rfl ?_
  obtain ⟨v1, hcv1, hf⟩ := bd_some hf
  refine g_cSI (pc := 1) (k2 := k_X10_isWord) (av := [.int a1]) (q := (v1, h)) rfl dX10_word_1 ck_X10_isWord m_1254 m_1255 (by decide) (by decide) rfl (by simp [rf_cat, rq_cat, ca_i, ca_l, ca_r]) (ct_X10_isWord l X hcv1) ?_
  rcases it_some hf with ⟨c2, hf⟩ | ⟨c2, hf⟩
  · refine g_ifne_t (pc := 4) (tgt := 17) dX10_word_4 (by decide) c2 ?_
    refine g_aload_n (pc := 17) 0 dX10_word_17 rfl rfl ?_
    obtain ⟨g3, hf⟩ := gs_some hf
    refine g_getR (pc := 18) fl_X10_37 dX10_word_18 g3 ?_
    refine g_iload_n (pc := 21) 1 dX10_word_21 rfl rfl ?_
    refine g_iconst (pc := 22) (v := (4 : Int32)) dX10_word_22 (by decide) ?_
    refine g_ishr (pc := 23) dX10_word_23 ?_
    obtain ⟨g4, hf⟩ := gs_some hf
    obtain ⟨v5, hcv5, hf⟩ := bd_some hf
    refine g_cVI (pc := 24) (k2 := k_X4_find) (av := [.int (a1 >>> ((4 : Int32) &&& 31))]) (q := (v5, h)) rfl dX10_word_24 ck_X4_find m_1266 m_569 m_570 (ci := 3) rfl (by decide) g4 (by decide) (by decide) rfl (by simp [rf_cat, rq_cat, ca_i, ca_l, ca_r]) (ct_X4_find l X hcv5) ?_
    refine g_istore_n (pc := 27) (L' := [(2, .int v5), (0, rf X a0), (1, .int a1)]) dX10_word_27 rfl (by decide) rfl rfl ?_
    refine g_iload_n (pc := 28) 0 dX10_word_28 rfl rfl ?_
    rcases it_some hf with ⟨c6, hf⟩ | ⟨c6, hf⟩
    · refine g_ifge_t (pc := 29) (tgt := 44) dX10_word_29 (by decide) c6 ?_
      refine g_aload_n (pc := 44) 1 dX10_word_44 rfl rfl ?_
      refine g_getR (pc := 45) fl_X10_37 dX10_word_45 g3 ?_
      refine g_getR (pc := 48) fl_X10_253 dX10_word_48 g4 ?_
      refine g_iload_n (pc := 51) 0 dX10_word_51 rfl rfl ?_
      obtain ⟨g7, hf⟩ := gs_some hf
      obtain ⟨b8, hf⟩ := gb_some hf
      refine g_iald (pc := 52) g7 b8 dX10_word_52 ?_
      obtain ⟨x9, ex9, hf⟩ := lt_some hf
      refine g_istore_n (pc := 53) (L' := [(3, .int x9), (2, .int v5), (0, rf X a0), (1, .int a1)]) dX10_word_53 rfl (by decide) ex9 rfl ?_
      refine g_aload_n (pc := 54) 2 dX10_word_54 rfl rfl ?_
      refine g_iload_n (pc := 55) 0 dX10_word_55 rfl rfl ?_
      obtain ⟨v10, hcv10, hf⟩ := bd_some hf
      refine g_cVI (pc := 56) (k2 := k_X10_isCore) (av := [.int x9]) (q := (v10, h)) rfl dX10_word_56 ck_X10_isCore m_639 m_641 m_16 (ci := 8) rfl (by decide) g3 (by decide) (by decide) rfl (by simp [rf_cat, rq_cat, ca_i, ca_l, ca_r]) (ct_X10_isCore l X hcv10) ?_
      rcases it_some hf with ⟨c11, hf⟩ | ⟨c11, hf⟩
      · refine g_ifeq_t (pc := 59) (tgt := 77) dX10_word_59 (by decide) c11 ?_
        refine g_aload_n (pc := 77) 2 dX10_word_77 rfl rfl ?_
        refine g_getR (pc := 78) fl_X10_37 dX10_word_78 g3 ?_
        refine g_getR (pc := 81) fl_X10_260 dX10_word_81 g4 ?_
        refine g_iload_n (pc := 84) 1 dX10_word_84 rfl rfl ?_
        refine g_iload_n (pc := 85) 3 dX10_word_85 rfl rfl ?_
        obtain ⟨v12, hcv12, hf⟩ := bd_some hf
        refine g_cSI (pc := 86) (k2 := k_X10_wordOf) (av := [.int v5, .int a1]) (q := (v12, h)) rfl dX10_word_86 ck_X10_wordOf m_1258 m_1035 (by decide) (by decide) rfl (by simp [rf_cat, rq_cat, ca_i, ca_l, ca_r]) (ct_X10_wordOf l X hcv12) ?_
        obtain ⟨g13, hf⟩ := gs_some hf
        obtain ⟨b14, hf⟩ := gb_some hf
        refine g_iald (pc := 89) g13 b14 dX10_word_89 ?_
        obtain rfl := Option.some.inj hf
        exact g_iret (pc := 90) rfl dX10_word_90
      · refine g_ifeq_f (pc := 59) (tgt := 77) dX10_word_59 (by decide) c11 ?_
        refine g_aload_n (pc := 62) 2 dX10_word_62 rfl rfl ?_
        refine g_aload_n (pc := 63) 2 dX10_word_63 rfl rfl ?_
        refine g_getR (pc := 64) fl_X10_43 dX10_word_64 g3 ?_
        refine g_iload_n (pc := 67) 0 dX10_word_67 rfl rfl ?_
        obtain ⟨g15, hf⟩ := gs_some hf
        obtain ⟨b16, hf⟩ := gb_some hf
        refine g_aldq (pc := 68) g15 b16 dX10_word_68 ?_
        refine g_iload_n (pc := 69) 1 dX10_word_69 rfl rfl ?_
        refine g_iload_n (pc := 70) 3 dX10_word_70 rfl rfl ?_
        obtain ⟨v17, hcv17, hf⟩ := bd_some hf
        refine g_cVI (pc := 71) (k2 := k_X10_lent) (av := [rf X (hR h (hR h a0 4) x9.toNatClampNeg), .int v5, .int a1]) (q := (v17, h)) rfl dX10_word_71 ck_X10_lent m_1287 m_1289 m_55 (ci := 8) rfl (by decide) g3 (by decide) (by decide) rfl (by simp [rf_cat, rq_cat, ca_i, ca_l, ca_r]) (ct_X10_lent l X hcv17) ?_
        refine g_goto (pc := 74) (tgt := 90) dX10_word_74 (by decide) ?_
        obtain rfl := Option.some.inj hf
        exact g_iret (pc := 90) rfl dX10_word_90
    · refine g_ifge_f (pc := 29) (tgt := 44) dX10_word_29 (by decide) c6 ?_
      refine g_aload_n (pc := 32) 1 dX10_word_32 rfl rfl ?_
      refine g_getR (pc := 33) fl_X10_37 dX10_word_33 g3 ?_
      refine g_getR (pc := 36) fl_X10_102 dX10_word_36 g4 ?_
      refine g_iload_n (pc := 39) 2 dX10_word_39 rfl rfl ?_
      refine g_iconst (pc := 40) (v := (2 : Int32)) dX10_word_40 (by decide) ?_
      refine g_ishr (pc := 41) dX10_word_41 ?_
      obtain ⟨g18, hf⟩ := gs_some hf
      obtain ⟨b19, hf⟩ := gb_some hf
      refine g_iald (pc := 42) g18 b19 dX10_word_42 ?_
      obtain rfl := Option.some.inj hf
      exact g_iret (pc := 43) rfl dX10_word_43
  · refine g_ifne_f (pc := 4) (tgt := 17) dX10_word_4 (by decide) (Decidable.of_not_not c2) ?_
    obtain rfl := Option.some.inj hf
    exact g_throw (pc := 7) hl (text := "no such word") rfl th_125_129 (by decide) (by decide) (by decide) (by simp [rf_cat, rq_cat, ca_i, ca_l, ca_r]) dX10_word_7 dX10_word_10 dX10_word_11 dX10_word_13 dX10_word_16
theorem ctr_X10_word (l : Launch) (X : Cx) (hl : l.stackTraces = false) {h : AH} {a0 : Nat} {a1 : Int32} {v : Int32} {h1 : AH} (hf : f_X10_word h a0 a1 = some (some v, h1)) : Ct l X k_X10_word [rf X a0, .int a1] h (rI (v, h1)) := ct_of ck_X10_word (by simp [lg_sl, rf_cat, rq_cat, ca_i, ca_l, ca_r]) (by simp [lv_args, rf_cat, rq_cat, ca_i, ca_l, ca_r]) (ok_X10_word l X hl hf)
theorem ctx_X10_word (l : Launch) (X : Cx) (hl : l.stackTraces = false) {h : AH} {a0 : Nat} {a1 : Int32} {h1 : AH} (hf : f_X10_word h a0 a1 = some (none, h1)) : Ct l X k_X10_word [rf X a0, .int a1] h (.inr "java/lang/IndexOutOfBoundsException", h1) := ct_ofX ck_X10_word (by simp [lg_sl, rf_cat, rq_cat, ca_i, ca_l, ca_r]) (by simp [lv_args, rf_cat, rq_cat, ca_i, ca_l, ca_r]) (ok_X10_word l X hl hf)
set_option maxRecDepth 100000 in
set_option maxHeartbeats 4000000 in
theorem ok_X10_message_L25 (l : Launch) (X : Cx) (hl : l.stackTraces = false) (h : AH) (q : Option Int32 × AH) (hf : f_X10_message_L25 h = some q) : Go l X k_X10_message 25 [] [] h (rX "java/util/NoSuchElementException" q) := by
  unfold f_X10_message_L25 at hf
  obtain rfl := Option.some.inj hf
  exact g_throwNW (pc := 25) hl (text := "no such message") rfl th_200_204 (by decide) (by decide) (by decide) (by simp [rf_cat, rq_cat, ca_i, ca_l, ca_r]) dX10_message_25 dX10_message_28 dX10_message_29 dX10_message_32 dX10_message_35
set_option maxRecDepth 100000 in
set_option maxHeartbeats 4000000 in
theorem ok_X10_message (l : Launch) (X : Cx) (hl : l.stackTraces = false) {h : AH} {a0 : Nat} {a1 : Int32} {a2 : Int32} {q : Option Int32 × AH} (hf : f_X10_message h a0 a1 a2 = some q) : Go l X k_X10_message 0 [(0, rf X a0), (1, .int a1), (2, .int a2)] [] h (rX "java/util/NoSuchElementException" q) := by
  unfold f_X10_message at hf
  refine g_iload_n (pc := 0) 1 dX10_message_0 rfl rfl ?_
  rcases it_some hf with ⟨c1, hf⟩ | ⟨c1, hf⟩
  · refine g_iflt_t (pc := 1) (tgt := 25) dX10_message_1 (by decide) c1 ?_
    refine g_sub [] rfl ?_
    exact ok_X10_message_L25 l X hl h q hf
  · refine g_iflt_f (pc := 1) (tgt := 25) dX10_message_1 (by decide) c1 ?_
    refine g_iload_n (pc := 4) 1 dX10_message_4 rfl rfl ?_
    refine g_aload_n (pc := 5) 0 dX10_message_5 rfl rfl ?_
    obtain ⟨g2, hf⟩ := gs_some hf
    refine g_getR (pc := 6) fl_X10_28 dX10_message_6 g2 ?_
    obtain ⟨g3, hf⟩ := gs_some hf
    refine g_getI (pc := 9) fl_X10_159 dX10_message_9 g3 ?_
    rcases it_some hf with ⟨c4, hf⟩ | ⟨c4, hf⟩
    · refine g_icge_t (pc := 12) (tgt := 25) dX10_message_12 (by decide) c4 ?_
      refine g_sub [] rfl ?_
      exact ok_X10_message_L25 l X hl h q hf
    · refine g_icge_f (pc := 12) (tgt := 25) dX10_message_12 (by decide) c4 ?_
      refine g_iload_n (pc := 15) 2 dX10_message_15 rfl rfl ?_
      rcases it_some hf with ⟨c5, hf⟩ | ⟨c5, hf⟩
      · refine g_iflt_t (pc := 16) (tgt := 25) dX10_message_16 (by decide) c5 ?_
        refine g_sub [] rfl ?_
        exact ok_X10_message_L25 l X hl h q hf
      · refine g_iflt_f (pc := 16) (tgt := 25) dX10_message_16 (by decide) c5 ?_
        refine g_iload_n (pc := 19) 2 dX10_message_19 rfl rfl ?_
        refine g_bipush (pc := 20) (v := (9 : Int32)) dX10_message_20 (by decide) ?_
        rcases it_some hf with ⟨c6, hf⟩ | ⟨c6, hf⟩
        · refine g_icle_t (pc := 22) (tgt := 36) dX10_message_22 (by decide) c6 ?_
          refine g_iload_n (pc := 36) 2 dX10_message_36 rfl rfl ?_
          refine g_bipush (pc := 37) (v := (9 : Int32)) dX10_message_37 (by decide) ?_
          rcases it_some hf with ⟨c7, hf⟩ | ⟨c7, hf⟩
          · refine g_icne_t (pc := 39) (tgt := 58) dX10_message_39 (by decide) c7 ?_
            refine g_aload_n (pc := 58) 0 dX10_message_58 rfl rfl ?_
            refine g_getR (pc := 59) fl_X10_28 dX10_message_59 g2 ?_
            refine g_iload_n (pc := 62) 1 dX10_message_62 rfl rfl ?_
            refine g_iload_n (pc := 63) 2 dX10_message_63 rfl rfl ?_
            obtain ⟨v8, hcv8, hf⟩ := bd_some hf
            refine g_cVI (pc := 64) (k2 := k_X6_get) (av := [.int a1, .int a2]) (q := (v8, h)) rfl dX10_message_64 ck_X6_get m_1295 m_682 m_683 (ci := 4) rfl (by decide) g3 (by decide) (by decide) rfl (by simp [rf_cat, rq_cat, ca_i, ca_l, ca_r]) (ct_X6_get l X hcv8) ?_
            obtain rfl := Option.some.inj hf
            exact g_iret (pc := 67) rfl dX10_message_67
          · refine g_icne_f (pc := 39) (tgt := 58) dX10_message_39 (by decide) (Decidable.of_not_not c7) ?_
            refine g_sCH (pc := 42) m_1304 dX10_message_42 ?_
            refine g_aload_n (pc := 45) 0 dX10_message_45 rfl rfl ?_
            refine g_getR (pc := 46) fl_X10_28 dX10_message_46 g2 ?_
            refine g_iload_n (pc := 49) 1 dX10_message_49 rfl rfl ?_
            refine g_iconst (pc := 50) (v := (0 : Int32)) dX10_message_50 (by decide) ?_
            obtain ⟨v9, hcv9, hf⟩ := bd_some hf
            refine g_cVI (pc := 51) (k2 := k_X6_get) (av := [.int a1, .int (0 : Int32)]) (q := (v9, h)) rfl dX10_message_51 ck_X6_get m_1295 m_682 m_683 (ci := 4) rfl (by decide) g3 (by decide) (by decide) rfl (by simp [rf_cat, rq_cat, ca_i, ca_l, ca_r]) (ct_X6_get l X hcv9) ?_
            obtain ⟨b10, hf⟩ := gb_some hf
            refine g_tCH (pc := 54) b10 dX10_message_54 ?_
            refine g_goto (pc := 55) (tgt := 67) dX10_message_55 (by decide) ?_
            obtain rfl := Option.some.inj hf
            exact g_iret (pc := 67) rfl dX10_message_67
        · refine g_icle_f (pc := 22) (tgt := 36) dX10_message_22 (by decide) c6 ?_
          refine g_sub [] rfl ?_
          exact ok_X10_message_L25 l X hl h q hf
theorem ctr_X10_message (l : Launch) (X : Cx) (hl : l.stackTraces = false) {h : AH} {a0 : Nat} {a1 : Int32} {a2 : Int32} {v : Int32} {h1 : AH} (hf : f_X10_message h a0 a1 a2 = some (some v, h1)) : Ct l X k_X10_message [rf X a0, .int a1, .int a2] h (rI (v, h1)) := ct_of ck_X10_message (by simp [lg_sl, rf_cat, rq_cat, ca_i, ca_l, ca_r]) (by simp [lv_args, rf_cat, rq_cat, ca_i, ca_l, ca_r]) (ok_X10_message l X hl hf)
theorem ctx_X10_message (l : Launch) (X : Cx) (hl : l.stackTraces = false) {h : AH} {a0 : Nat} {a1 : Int32} {a2 : Int32} {h1 : AH} (hf : f_X10_message h a0 a1 a2 = some (none, h1)) : Ct l X k_X10_message [rf X a0, .int a1, .int a2] h (.inr "java/util/NoSuchElementException", h1) := ct_ofX ck_X10_message (by simp [lg_sl, rf_cat, rq_cat, ca_i, ca_l, ca_r]) (by simp [lv_args, rf_cat, rq_cat, ca_i, ca_l, ca_r]) (ok_X10_message l X hl hf)
