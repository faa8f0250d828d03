set_option maxRecDepth 100000 in
set_option maxHeartbeats 4000000 in
theorem ok_X11_cached (l : Launch) (X : Cx) {h : AH} {a0 : Nat} {a1 : Int32} {a2 : Int32} {q : Int32 × AH} (hf : f_X11_cached h a0 a1 a2 = some q) : Go l X k_X11_cached 0 [(0, rf X a0), (1, .int a1), (2, .int a2)] [] h (rI q) := by
  unfold f_X11_cached at hf
  refine g_aload_n (pc := 0) 0 dX11_cached_0 rfl rfl ?_
  refine g_iconst (pc := 1) (v := (0 : Int32)) dX11_cached_1 (by decide) ?_
  obtain ⟨g1, hf⟩ := gs_some hf
  obtain ⟨h2, eh2, hf⟩ := lt_some hf
  refine g_putI (pc := 2) fl_X11_306 dX11_cached_2 g1 eh2 ?_
  refine g_aload_n (pc := 5) 0 dX11_cached_5 rfl rfl ?_
  refine g_iload_n (pc := 6) 1 dX11_cached_6 rfl rfl ?_
  have g3 : hS h2 a0 = 10 := (hS_tI eh2 g1)
  obtain ⟨v4, hcv4, hf⟩ := bd_some hf
  refine g_cVI (pc := 7) (k2 := k_X11_isCore) (av := [.int a1]) (q := (v4, h2)) rfl dX11_cached_7 ck_X11_isCore m_1792 m_1794 m_78 (ci := 9) rfl (by decide) g3 (by decide) (by decide) rfl (by simp [rf_cat, rq_cat, ca_i, ca_l, ca_r]) (ct_X11_isCore l X hcv4) ?_
  rcases it_some hf with ⟨c5, hf⟩ | ⟨c5, hf⟩
  · refine g_ifeq_t (pc := 10) (tgt := 24) dX11_cached_10 (by decide) c5 ?_
    refine g_iconst (pc := 24) (v := (-1 : Int32)) dX11_cached_24 (by decide) ?_
    obtain rfl := Option.some.inj hf
    exact g_iret (pc := 25) rfl dX11_cached_25
  · refine g_ifeq_f (pc := 10) (tgt := 24) dX11_cached_10 (by decide) c5 ?_
    refine g_iload_n (pc := 13) 2 dX11_cached_13 rfl rfl ?_
    rcases it_some hf with ⟨c6, hf⟩ | ⟨c6, hf⟩
    · refine g_iflt_t (pc := 14) (tgt := 24) dX11_cached_14 (by decide) c6 ?_
      refine g_iconst (pc := 24) (v := (-1 : Int32)) dX11_cached_24 (by decide) ?_
      obtain rfl := Option.some.inj hf
      exact g_iret (pc := 25) rfl dX11_cached_25
    · refine g_iflt_f (pc := 14) (tgt := 24) dX11_cached_14 (by decide) c6 ?_
      refine g_iload_n (pc := 17) 2 dX11_cached_17 rfl rfl ?_
      refine g_sipush (pc := 18) (v := (512 : Int32)) dX11_cached_18 (by decide) ?_
      rcases it_some hf with ⟨c7, hf⟩ | ⟨c7, hf⟩
      · refine g_iclt_t (pc := 21) (tgt := 26) dX11_cached_21 (by decide) c7 ?_
        refine g_aload_n (pc := 26) 0 dX11_cached_26 rfl rfl ?_
        refine g_iload_n (pc := 27) 1 dX11_cached_27 rfl rfl ?_
        refine g_iload_n (pc := 28) 2 dX11_cached_28 rfl rfl ?_
        obtain ⟨v8, hcv8, hf⟩ := bd_some hf
        refine g_cVI (pc := 29) (k2 := k_X11_wayOf) (av := [.int a1, .int a2]) (q := (v8, h2)) rfl dX11_cached_29 ck_X11_wayOf m_1807 m_1809 m_81 (ci := 9) rfl (by decide) g3 (by decide) (by decide) rfl (by simp [rf_cat, rq_cat, ca_i, ca_l, ca_r]) (ct_X11_wayOf l X hcv8) ?_
        refine g_istore_n (pc := 32) (L' := [(3, .int v8), (0, rf X a0), (1, .int a1), (2, .int a2)]) dX11_cached_32 rfl (by decide) rfl rfl ?_
        refine g_iload_n (pc := 33) 0 dX11_cached_33 rfl rfl ?_
        refine g_iconst (pc := 34) (v := (-1 : Int32)) dX11_cached_34 (by decide) ?_
        rcases it_some hf with ⟨c9, hf⟩ | ⟨c9, hf⟩
        · refine g_icne_t (pc := 35) (tgt := 42) dX11_cached_35 (by decide) c9 ?_
          refine g_aload_n (pc := 42) 1 dX11_cached_42 rfl rfl ?_
          refine g_getR (pc := 43) fl_X11_108 dX11_cached_43 g3 ?_
          refine g_iload_n (pc := 46) 0 dX11_cached_46 rfl rfl ?_
          obtain ⟨g10, hf⟩ := gs_some hf
          obtain ⟨b11, hf⟩ := gb_some hf
          refine g_iald (pc := 47) g10 b11 dX11_cached_47 ?_
          obtain rfl := Option.some.inj hf
          exact g_iret (pc := 48) rfl dX11_cached_48
        · refine g_icne_f (pc := 35) (tgt := 42) dX11_cached_35 (by decide) (Decidable.of_not_not c9) ?_
          refine g_iconst (pc := 38) (v := (0 : Int32)) dX11_cached_38 (by decide) ?_
          refine g_goto (pc := 39) (tgt := 48) dX11_cached_39 (by decide) ?_
          obtain rfl := Option.some.inj hf
          exact g_iret (pc := 48) rfl dX11_cached_48
      · refine g_iclt_f (pc := 21) (tgt := 26) dX11_cached_21 (by decide) c7 ?_
        refine g_iconst (pc := 24) (v := (-1 : Int32)) dX11_cached_24 (by decide) ?_
        obtain rfl := Option.some.inj hf
        exact g_iret (pc := 25) rfl dX11_cached_25
theorem ct_X11_cached (l : Launch) (X : Cx) {h : AH} {a0 : Nat} {a1 : Int32} {a2 : Int32} {q : Int32 × AH} (hf : f_X11_cached h a0 a1 a2 = some q) : Ct l X k_X11_cached [rf X a0, .int a1, .int a2] h (rI q) := ct_of ck_X11_cached (by simp [lg_sl, rf_cat, rq_cat, ca_i, ca_l, ca_r]) (by simp [lv_args, rf_cat, rq_cat, ca_i, ca_l, ca_r]) (ok_X11_cached l X hf)
set_option maxRecDepth 100000 in
set_option maxHeartbeats 4000000 in
theorem ok_X11_isAddress (l : Launch) (X : Cx) {h : AH} {a0 : Int32} {q : Int32} (hf : f_X11_isAddress h a0 = some q) : Go l X k_X11_isAddress 0 [(0, .int a0)] [] h (rI (q, h)) := by
  unfold f_X11_isAddress at hf
  refine g_iload_n (pc := 0) 0 dX11_isAddress_0 rfl rfl ?_
  rcases it_some hf with ⟨c1, hf⟩ | ⟨c1, hf⟩
  · refine g_iflt_t (pc := 1) (tgt := 21) dX11_isAddress_1 (by decide) c1 ?_
    refine g_iconst (pc := 21) (v := (0 : Int32)) dX11_isAddress_21 (by decide) ?_
    obtain rfl := Option.some.inj hf
    exact g_zret (pc := 22) rfl rfl dX11_isAddress_22
  · refine g_iflt_f (pc := 1) (tgt := 21) dX11_isAddress_1 (by decide) c1 ?_
    refine g_iload_n (pc := 4) 0 dX11_isAddress_4 rfl rfl ?_
    refine g_sipush (pc := 5) (v := (8192 : Int32)) dX11_isAddress_5 (by decide) ?_
    rcases it_some hf with ⟨c2, hf⟩ | ⟨c2, hf⟩
    · refine g_icge_t (pc := 8) (tgt := 21) dX11_isAddress_8 (by decide) c2 ?_
      refine g_iconst (pc := 21) (v := (0 : Int32)) dX11_isAddress_21 (by decide) ?_
      obtain rfl := Option.some.inj hf
      exact g_zret (pc := 22) rfl rfl dX11_isAddress_22
    · refine g_icge_f (pc := 8) (tgt := 21) dX11_isAddress_8 (by decide) c2 ?_
      refine g_iload_n (pc := 11) 0 dX11_isAddress_11 rfl rfl ?_
      refine g_iconst (pc := 12) (v := (4 : Int32)) dX11_isAddress_12 (by decide) ?_
      refine g_irem (pc := 13) (by decide) dX11_isAddress_13 ?_
      rcases it_some hf with ⟨c3, hf⟩ | ⟨c3, hf⟩
      · refine g_ifne_t (pc := 14) (tgt := 21) dX11_isAddress_14 (by decide) c3 ?_
        refine g_iconst (pc := 21) (v := (0 : Int32)) dX11_isAddress_21 (by decide) ?_
        obtain rfl := Option.some.inj hf
        exact g_zret (pc := 22) rfl rfl dX11_isAddress_22
      · refine g_ifne_f (pc := 14) (tgt := 21) dX11_isAddress_14 (by decide) (Decidable.of_not_not c3) ?_
        refine g_iconst (pc := 17) (v := (1 : Int32)) dX11_isAddress_17 (by decide) ?_
        refine g_goto (pc := 18) (tgt := 22) dX11_isAddress_18 (by decide) ?_
        obtain rfl := Option.some.inj hf
        exact g_zret (pc := 22) rfl rfl dX11_isAddress_22
theorem ct_X11_isAddress (l : Launch) (X : Cx) {h : AH} {a0 : Int32} {q : Int32} (hf : f_X11_isAddress h a0 = some q) : Ct l X k_X11_isAddress [.int a0] h (rI (q, h)) := ct_of ck_X11_isAddress (by simp [lg_sl, rf_cat, rq_cat, ca_i, ca_l, ca_r]) (by simp [lv_args, rf_cat, rq_cat, ca_i, ca_l, ca_r]) (ok_X11_isAddress l X hf)
set_option maxRecDepth 100000 in
set_option maxHeartbeats 4000000 in
theorem ok_X11_copy_L44 (l : Launch) (X : Cx) (h : AH) (a0 : Nat) (a2 : Int32) (a3 : Int32) (s0 : Nat) (s1 : Int32) (q : Int32 × AH) (hf : f_X11_copy_L44 h a0 a2 a3 s0 s1 = some q) : Go l X k_X11_copy 44 [(0, rf X a0), (2, .int a2), (3, .int a3)] [.int s1, rf X s0] h (rI q) := by
  unfold f_X11_copy_L44 at hf
  obtain ⟨g1, hf⟩ := gs_some hf
  obtain ⟨h2, eh2, hf⟩ := lt_some hf
  refine g_putI (pc := 44) fl_X11_306 dX11_copy_44 g1 eh2 ?_
  refine g_iload_n (pc := 47) 2 dX11_copy_47 rfl rfl ?_
  rcases it_some hf with ⟨c3, hf⟩ | ⟨c3, hf⟩
  · refine g_ifeq_t (pc := 48) (tgt := 62) dX11_copy_48 (by decide) c3 ?_
    refine g_iconst (pc := 62) (v := (0 : Int32)) dX11_copy_62 (by decide) ?_
    obtain rfl := Option.some.inj hf
    exact g_iret (pc := 63) rfl dX11_copy_63
  · refine g_ifeq_f (pc := 48) (tgt := 62) dX11_copy_48 (by decide) c3 ?_
    refine g_aload_n (pc := 51) 0 dX11_copy_51 rfl rfl ?_
    obtain ⟨g4, hf⟩ := gs_some hf
    refine g_getR (pc := 52) fl_X11_53 dX11_copy_52 g4 ?_
    refine g_iload_n (pc := 55) 1 dX11_copy_55 rfl rfl ?_
    refine g_iconst (pc := 56) (v := (4 : Int32)) dX11_copy_56 (by decide) ?_
    refine g_idiv (pc := 57) (by decide) dX11_copy_57 ?_
    obtain ⟨g5, hf⟩ := gs_some hf
    obtain ⟨b6, hf⟩ := gb_some hf
    refine g_iald (pc := 58) g5 b6 dX11_copy_58 ?_
    refine g_goto (pc := 59) (tgt := 63) dX11_copy_59 (by decide) ?_
    obtain rfl := Option.some.inj hf
    exact g_iret (pc := 63) rfl dX11_copy_63
set_option maxRecDepth 100000 in
set_option maxHeartbeats 4000000 in
theorem ok_X11_copy_L33 (l : Launch) (X : Cx) (h : AH) (a0 : Nat) (a2 : Int32) (s0 : Int32) (q : Int32 × AH) (hf : f_X11_copy_L33 h a0 a2 s0 = some q) : Go l X k_X11_copy 33 [(0, rf X a0), (2, .int a2)] [.int s0] h (rI q) := by
  unfold f_X11_copy_L33 at hf
  refine g_istore_n (pc := 33) (L' := [(3, .int s0), (0, rf X a0), (2, .int a2)]) dX11_copy_33 rfl (by decide) rfl rfl ?_
  refine g_aload_n (pc := 34) 1 dX11_copy_34 rfl rfl ?_
  refine g_iload_n (pc := 35) 0 dX11_copy_35 rfl rfl ?_
  rcases it_some hf with ⟨c1, hf⟩ | ⟨c1, hf⟩
  · refine g_ifeq_t (pc := 36) (tgt := 43) dX11_copy_36 (by decide) c1 ?_
    refine g_iconst (pc := 43) (v := (1 : Int32)) dX11_copy_43 (by decide) ?_
    refine g_sub [1, 2, 0] rfl ?_
    exact ok_X11_copy_L44 l X h a0 a2 s0 a0 (1 : Int32) q hf
  · refine g_ifeq_f (pc := 36) (tgt := 43) dX11_copy_36 (by decide) c1 ?_
    refine g_iconst (pc := 39) (v := (0 : Int32)) dX11_copy_39 (by decide) ?_
    refine g_goto (pc := 40) (tgt := 44) dX11_copy_40 (by decide) ?_
    refine g_sub [1, 2, 0] rfl ?_
    exact ok_X11_copy_L44 l X h a0 a2 s0 a0 (0 : Int32) q hf
set_option maxRecDepth 100000 in
set_option maxHeartbeats 4000000 in
theorem ok_X11_copy_L32 (l : Launch) (X : Cx) (h : AH) (a0 : Nat) (a2 : Int32) (q : Int32 × AH) (hf : f_X11_copy_L32 h a0 a2 = some q) : Go l X k_X11_copy 32 [(0, rf X a0), (2, .int a2)] [] h (rI q) := by
  unfold f_X11_copy_L32 at hf
  refine g_iconst (pc := 32) (v := (0 : Int32)) dX11_copy_32 (by decide) ?_
  exact ok_X11_copy_L33 l X h a0 a2 (0 : Int32) q hf
set_option maxRecDepth 100000 in
set_option maxHeartbeats 4000000 in
theorem ok_X11_copy (l : Launch) (X : Cx) {h : AH} {a0 : Nat} {a1 : Int32} {a2 : Int32} {q : Int32 × AH} (hf : f_X11_copy h a0 a1 a2 = some q) : Go l X k_X11_copy 0 [(0, rf X a0), (1, .int a1), (2, .int a2)] [] h (rI q) := by
  unfold f_X11_copy at hf
  refine g_aload_n (pc := 0) 0 dX11_copy_0 rfl rfl ?_
  refine g_iload_n (pc := 1) 1 dX11_copy_1 rfl rfl ?_
  obtain ⟨g1, hf⟩ := gs_some hf
  obtain ⟨v2, hcv2, hf⟩ := bd_some hf
  refine g_cVI (pc := 2) (k2 := k_X11_isCore) (av := [.int a1]) (q := (v2, h)) rfl dX11_copy_2 ck_X11_isCore m_1792 m_1794 m_78 (ci := 9) rfl (by decide) g1 (by decide) (by decide) rfl (by simp [rf_cat, rq_cat, ca_i, ca_l, ca_r]) (ct_X11_isCore l X hcv2) ?_
  rcases it_some hf with ⟨c3, hf⟩ | ⟨c3, hf⟩
  · refine g_ifeq_t (pc := 5) (tgt := 32) dX11_copy_5 (by decide) c3 ?_
    refine g_sub [0, 2] rfl ?_
    exact ok_X11_copy_L32 l X h a0 a2 q hf
  · refine g_ifeq_f (pc := 5) (tgt := 32) dX11_copy_5 (by decide) c3 ?_
    refine g_iload_n (pc := 8) 2 dX11_copy_8 rfl rfl ?_
    obtain ⟨v4, hcv4, hf⟩ := bd_some hf
    refine g_cSI (pc := 9) (k2 := k_X11_isAddress) (av := [.int a2]) (q := (v4, h)) rfl dX11_copy_9 ck_X11_isAddress m_2018 m_2019 (by decide) (by decide) rfl (by simp [rf_cat, rq_cat, ca_i, ca_l, ca_r]) (ct_X11_isAddress l X hcv4) ?_
    rcases it_some hf with ⟨c5, hf⟩ | ⟨c5, hf⟩
    · refine g_ifeq_t (pc := 12) (tgt := 32) dX11_copy_12 (by decide) c5 ?_
      refine g_sub [0, 2] rfl ?_
      exact ok_X11_copy_L32 l X h a0 a2 q hf
    · refine g_ifeq_f (pc := 12) (tgt := 32) dX11_copy_12 (by decide) c5 ?_
      refine g_aload_n (pc := 15) 0 dX11_copy_15 rfl rfl ?_
      refine g_iload_n (pc := 16) 1 dX11_copy_16 rfl rfl ?_
      refine g_iload_n (pc := 17) 2 dX11_copy_17 rfl rfl ?_
      refine g_bipush (pc := 18) (v := (16 : Int32)) dX11_copy_18 (by decide) ?_
      refine g_idiv (pc := 20) (by decide) dX11_copy_20 ?_
      obtain ⟨v6, hcv6, hf⟩ := bd_some hf
      refine g_cVI (pc := 21) (k2 := k_X11_wayOf) (av := [.int a1, .int (a2 / (16 : Int32))]) (q := (v6, h)) rfl dX11_copy_21 ck_X11_wayOf m_1807 m_1809 m_81 (ci := 9) rfl (by decide) g1 (by decide) (by decide) rfl (by simp [rf_cat, rq_cat, ca_i, ca_l, ca_r]) (ct_X11_wayOf l X hcv6) ?_
      refine g_iconst (pc := 24) (v := (-1 : Int32)) dX11_copy_24 (by decide) ?_
      rcases it_some hf with ⟨c7, hf⟩ | ⟨c7, hf⟩
      · refine g_iceq_t (pc := 25) (tgt := 32) dX11_copy_25 (by decide) c7 ?_
        refine g_sub [0, 2] rfl ?_
        exact ok_X11_copy_L32 l X h a0 a2 q hf
      · refine g_iceq_f (pc := 25) (tgt := 32) dX11_copy_25 (by decide) c7 ?_
        refine g_iconst (pc := 28) (v := (1 : Int32)) dX11_copy_28 (by decide) ?_
        refine g_goto (pc := 29) (tgt := 33) dX11_copy_29 (by decide) ?_
        refine g_sub [0, 2] rfl ?_
        exact ok_X11_copy_L33 l X h a0 a2 (1 : Int32) q hf
theorem ct_X11_copy (l : Launch) (X : Cx) {h : AH} {a0 : Nat} {a1 : Int32} {a2 : Int32} {q : Int32 × AH} (hf : f_X11_copy h a0 a1 a2 = some q) : Ct l X k_X11_copy [rf X a0, .int a1, .int a2] h (rI q) := ct_of ck_X11_copy (by simp [lg_sl, rf_cat, rq_cat, ca_i, ca_l, ca_r]) (by simp [lv_args, rf_cat, rq_cat, ca_i, ca_l, ca_r]) (ok_X11_copy l X hf)
set_option maxRecDepth 100000 in
set_option maxHeartbeats 4000000 in
theorem ok_X11_home_L36 (l : Launch) (X : Cx) (h : AH) (a0 : Nat) (q : Int32 × AH) (hf : f_X11_home_L36 h a0 = some q) : Go l X k_X11_home 36 [(0, rf X a0)] [] h (rI q) := by
  unfold f_X11_home_L36 at hf
  refine g_aload_n (pc := 36) 0 dX11_home_36 rfl rfl ?_
  refine g_iconst (pc := 37) (v := (1 : Int32)) dX11_home_37 (by decide) ?_
  obtain ⟨g1, hf⟩ := gs_some hf
  obtain ⟨q2, hcq2, hf⟩ := bd_some hf
  refine g_cVI (pc := 38) (k2 := k_X11_raise) (av := [.int (1 : Int32)]) (q := q2) rfl dX11_home_38 ck_X11_raise m_1780 m_1782 m_77 (ci := 9) rfl (by decide) g1 (by decide) (by decide) rfl (by simp [rf_cat, rq_cat, ca_i, ca_l, ca_r]) (ct_X11_raise l X hcq2) ?_
  obtain rfl := Option.some.inj hf
  exact g_iret (pc := 41) rfl dX11_home_41
set_option maxRecDepth 100000 in
set_option maxHeartbeats 4000000 in
theorem ok_X11_home_L20 (l : Launch) (X : Cx) (h : AH) (a0 : Nat) (a2 : Int32) (s0 : Int32) (q : Int32 × AH) (hf : f_X11_home_L20 h a0 a2 s0 = some q) : Go l X k_X11_home 20 [(0, rf X a0), (2, .int a2)] [.int s0] h (rI q) := by
  unfold f_X11_home_L20 at hf
  refine g_istore_n (pc := 20) (L' := [(3, .int s0), (0, rf X a0), (2, .int a2)]) dX11_home_20 rfl (by decide) rfl rfl ?_
  refine g_iload_n (pc := 21) 0 dX11_home_21 rfl rfl ?_
  refine g_iconst (pc := 22) (v := (-1 : Int32)) dX11_home_22 (by decide) ?_
  rcases it_some hf with ⟨c1, hf⟩ | ⟨c1, hf⟩
  · refine g_iceq_t (pc := 23) (tgt := 36) dX11_home_23 (by decide) c1 ?_
    refine g_sub [1] rfl ?_
    exact ok_X11_home_L36 l X h a0 q hf
  · refine g_iceq_f (pc := 23) (tgt := 36) dX11_home_23 (by decide) c1 ?_
    refine g_iload_n (pc := 26) 2 dX11_home_26 rfl rfl ?_
    rcases it_some hf with ⟨c2, hf⟩ | ⟨c2, hf⟩
    · refine g_iflt_t (pc := 27) (tgt := 36) dX11_home_27 (by decide) c2 ?_
      refine g_sub [1] rfl ?_
      exact ok_X11_home_L36 l X h a0 q hf
    · refine g_iflt_f (pc := 27) (tgt := 36) dX11_home_27 (by decide) c2 ?_
      refine g_iload_n (pc := 30) 2 dX11_home_30 rfl rfl ?_
      refine g_bipush (pc := 31) (v := (9 : Int32)) dX11_home_31 (by decide) ?_
      rcases it_some hf with ⟨c3, hf⟩ | ⟨c3, hf⟩
      · refine g_icle_t (pc := 33) (tgt := 42) dX11_home_33 (by decide) c3 ?_
        refine g_aload_n (pc := 42) 1 dX11_home_42 rfl rfl ?_
        refine g_iconst (pc := 43) (v := (0 : Int32)) dX11_home_43 (by decide) ?_
        obtain ⟨g4, hf⟩ := gs_some hf
        obtain ⟨h5, eh5, hf⟩ := lt_some hf
        refine g_putI (pc := 44) fl_X11_306 dX11_home_44 g4 eh5 ?_
        refine g_iload_n (pc := 47) 2 dX11_home_47 rfl rfl ?_
        rcases it_some hf with ⟨c6, hf⟩ | ⟨c6, hf⟩
        · refine g_tsw (pc := 48) (tgt := 104) (0 : Int32) dX11_home_48 c6 (by decide +kernel) (by decide +kernel) (off := 56) (by decide +kernel) (by decide) ?_
          refine g_aload_n (pc := 104) 1 dX11_home_104 rfl rfl ?_
          have g7 : hS h5 a0 = 10 := (hS_tI eh5 g4)
          refine g_getR (pc := 105) fl_X11_123 dX11_home_105 g7 ?_
          refine g_iload_n (pc := 108) 0 dX11_home_108 rfl rfl ?_
          obtain ⟨g8, hf⟩ := gs_some hf
          obtain ⟨b9, hf⟩ := gb_some hf
          refine g_iald (pc := 109) g8 b9 dX11_home_109 ?_
          obtain rfl := Option.some.inj hf
          exact g_iret (pc := 110) rfl dX11_home_110
        ·
          rcases it_some hf with ⟨c10, hf⟩ | ⟨c10, hf⟩
          · refine g_tsw (pc := 48) (tgt := 111) (1 : Int32) dX11_home_48 c10 (by decide +kernel) (by decide +kernel) (off := 63) (by decide +kernel) (by decide) ?_
            refine g_aload_n (pc := 111) 1 dX11_home_111 rfl rfl ?_
            have g11 : hS h5 a0 = 10 := (hS_tI eh5 g4)
            refine g_getR (pc := 112) fl_X11_126 dX11_home_112 g11 ?_
            refine g_iload_n (pc := 115) 0 dX11_home_115 rfl rfl ?_
            obtain ⟨g12, hf⟩ := gs_some hf
            obtain ⟨b13, hf⟩ := gb_some hf
            refine g_iald (pc := 116) g12 b13 dX11_home_116 ?_
            obtain rfl := Option.some.inj hf
            exact g_iret (pc := 117) rfl dX11_home_117
          ·
            rcases it_some hf with ⟨c14, hf⟩ | ⟨c14, hf⟩
            · refine g_tsw (pc := 48) (tgt := 118) (2 : Int32) dX11_home_48 c14 (by decide +kernel) (by decide +kernel) (off := 70) (by decide +kernel) (by decide) ?_
              refine g_aload_n (pc := 118) 1 dX11_home_118 rfl rfl ?_
              have g15 : hS h5 a0 = 10 := (hS_tI eh5 g4)
              refine g_getR (pc := 119) fl_X11_129 dX11_home_119 g15 ?_
              refine g_iload_n (pc := 122) 0 dX11_home_122 rfl rfl ?_
              obtain ⟨g16, hf⟩ := gs_some hf
              obtain ⟨b17, hf⟩ := gb_some hf
              refine g_iald (pc := 123) g16 b17 dX11_home_123 ?_
              obtain rfl := Option.some.inj hf
              exact g_iret (pc := 124) rfl dX11_home_124
            ·
              rcases it_some hf with ⟨c18, hf⟩ | ⟨c18, hf⟩
              · refine g_tsw (pc := 48) (tgt := 125) (3 : Int32) dX11_home_48 c18 (by decide +kernel) (by decide +kernel) (off := 77) (by decide +kernel) (by decide) ?_
                refine g_aload_n (pc := 125) 1 dX11_home_125 rfl rfl ?_
                have g19 : hS h5 a0 = 10 := (hS_tI eh5 g4)
                refine g_getR (pc := 126) fl_X11_129 dX11_home_126 g19 ?_
                refine g_iload_n (pc := 129) 0 dX11_home_129 rfl rfl ?_
                obtain ⟨g20, hf⟩ := gs_some hf
                obtain ⟨b21, hf⟩ := gb_some hf
                refine g_iald (pc := 130) g20 b21 dX11_home_130 ?_
                refine g_iconst (pc := 131) (v := (-1 : Int32)) dX11_home_131 (by decide) ?_
                rcases it_some hf with ⟨c22, hf⟩ | ⟨c22, hf⟩
                · refine g_icne_t (pc := 132) (tgt := 139) dX11_home_132 (by decide) c22 ?_
                  refine g_aload_n (pc := 139) 1 dX11_home_139 rfl rfl ?_
                  refine g_getR (pc := 140) fl_X11_135 dX11_home_140 g19 ?_
                  refine g_iload_n (pc := 143) 0 dX11_home_143 rfl rfl ?_
                  obtain ⟨g23, hf⟩ := gs_some hf
                  obtain ⟨b24, hf⟩ := gb_some hf
                  refine g_iald (pc := 144) g23 b24 dX11_home_144 ?_
                  obtain rfl := Option.some.inj hf
                  exact g_iret (pc := 145) rfl dX11_home_145
                · refine g_icne_f (pc := 132) (tgt := 139) dX11_home_132 (by decide) (Decidable.of_not_not c22) ?_
                  refine g_iconst (pc := 135) (v := (0 : Int32)) dX11_home_135 (by decide) ?_
                  refine g_goto (pc := 136) (tgt := 145) dX11_home_136 (by decide) ?_
                  obtain rfl := Option.some.inj hf
                  exact g_iret (pc := 145) rfl dX11_home_145
              ·
                rcases it_some hf with ⟨c25, hf⟩ | ⟨c25, hf⟩
                · refine g_tsw (pc := 48) (tgt := 146) (4 : Int32) dX11_home_48 c25 (by decide +kernel) (by decide +kernel) (off := 98) (by decide +kernel) (by decide) ?_
                  refine g_aload_n (pc := 146) 1 dX11_home_146 rfl rfl ?_
                  have g26 : hS h5 a0 = 10 := (hS_tI eh5 g4)
                  refine g_getR (pc := 147) fl_X11_120 dX11_home_147 g26 ?_
                  refine g_iload_n (pc := 150) 0 dX11_home_150 rfl rfl ?_
                  obtain ⟨g27, hf⟩ := gs_some hf
                  obtain ⟨b28, hf⟩ := gb_some hf
                  refine g_zald (pc := 151) g27 b28 dX11_home_151 ?_
                  rcases it_some hf with ⟨c29, hf⟩ | ⟨c29, hf⟩
                  · refine g_ifeq_t (pc := 152) (tgt := 159) dX11_home_152 (by decide) c29 ?_
                    refine g_iconst (pc := 159) (v := (0 : Int32)) dX11_home_159 (by decide) ?_
                    obtain rfl := Option.some.inj hf
                    exact g_iret (pc := 160) rfl dX11_home_160
                  · refine g_ifeq_f (pc := 152) (tgt := 159) dX11_home_152 (by decide) c29 ?_
                    refine g_iconst (pc := 155) (v := (1 : Int32)) dX11_home_155 (by decide) ?_
                    refine g_goto (pc := 156) (tgt := 160) dX11_home_156 (by decide) ?_
                    obtain rfl := Option.some.inj hf
                    exact g_iret (pc := 160) rfl dX11_home_160
                ·
                  rcases it_some hf with ⟨c30, hf⟩ | ⟨c30, hf⟩
                  · refine g_tsw (pc := 48) (tgt := 161) (9 : Int32) dX11_home_48 c30 (by decide +kernel) (by decide +kernel) (off := 113) (by decide +kernel) (by decide) ?_
                    refine g_iload_n (pc := 161) 0 dX11_home_161 rfl rfl ?_
                    refine g_bipush (pc := 162) (v := (8 : Int32)) dX11_home_162 (by decide) ?_
                    refine g_irem (pc := 164) (by decide) dX11_home_164 ?_
                    obtain rfl := Option.some.inj hf
                    exact g_iret (pc := 165) rfl dX11_home_165
                  ·
                    refine g_tswD (pc := 48) (tgt := 166) [(0 : Int32), (1 : Int32), (2 : Int32), (3 : Int32), (4 : Int32), (9 : Int32)] dX11_home_48 (cons_ne c6 (cons_ne c10 (cons_ne c14 (cons_ne c18 (cons_ne c25 (cons_ne c30 nil_ne)))))) (by decide +kernel) (by decide +kernel) (by decide) ?_
                    refine g_aload_n (pc := 166) 1 dX11_home_166 rfl rfl ?_
                    have g31 : hS h5 a0 = 10 := (hS_tI eh5 g4)
                    refine g_getR (pc := 167) fl_X11_117 dX11_home_167 g31 ?_
                    refine g_iconst (pc := 170) (v := (4 : Int32)) dX11_home_170 (by decide) ?_
                    refine g_iload_n (pc := 171) 0 dX11_home_171 rfl rfl ?_
                    refine g_imul (pc := 172) dX11_home_172 ?_
                    refine g_iload_n (pc := 173) 2 dX11_home_173 rfl rfl ?_
                    refine g_iadd (pc := 174) dX11_home_174 ?_
                    refine g_iconst (pc := 175) (v := (5 : Int32)) dX11_home_175 (by decide) ?_
                    refine g_isub (pc := 176) dX11_home_176 ?_
                    obtain ⟨g32, hf⟩ := gs_some hf
                    obtain ⟨b33, hf⟩ := gb_some hf
                    refine g_iald (pc := 177) g32 b33 dX11_home_177 ?_
                    obtain rfl := Option.some.inj hf
                    exact g_iret (pc := 178) rfl dX11_home_178
      · refine g_icle_f (pc := 33) (tgt := 42) dX11_home_33 (by decide) c3 ?_
        refine g_sub [1] rfl ?_
        exact ok_X11_home_L36 l X h a0 q hf
set_option maxRecDepth 100000 in
set_option maxHeartbeats 4000000 in
theorem ok_X11_home_L11 (l : Launch) (X : Cx) (h : AH) (a0 : Nat) (a2 : Int32) (q : Int32 × AH) (hf : f_X11_home_L11 h a0 a2 = some q) : Go l X k_X11_home 11 [(0, rf X a0), (2, .int a2)] [] h (rI q) := by
  unfold f_X11_home_L11 at hf
  refine g_iconst (pc := 11) (v := (-1 : Int32)) dX11_home_11 (by decide) ?_
  refine g_goto (pc := 12) (tgt := 20) dX11_home_12 (by decide) ?_
  exact ok_X11_home_L20 l X h a0 a2 (-1 : Int32) q hf
set_option maxRecDepth 100000 in
set_option maxHeartbeats 4000000 in
theorem ok_X11_home (l : Launch) (X : Cx) {h : AH} {a0 : Nat} {a1 : Int32} {a2 : Int32} {q : Int32 × AH} (hf : f_X11_home h a0 a1 a2 = some q) : Go l X k_X11_home 0 [(0, rf X a0), (1, .int a1), (2, .int a2)] [] h (rI q) := by
  unfold f_X11_home at hf
  refine g_iload_n (pc := 0) 1 dX11_home_0 rfl rfl ?_
  rcases it_some hf with ⟨c1, hf⟩ | ⟨c1, hf⟩
  · refine g_iflt_t (pc := 1) (tgt := 11) dX11_home_1 (by decide) c1 ?_
    refine g_sub [0, 2] rfl ?_
    exact ok_X11_home_L11 l X h a0 a2 q hf
  · refine g_iflt_f (pc := 1) (tgt := 11) dX11_home_1 (by decide) c1 ?_
    refine g_iload_n (pc := 4) 1 dX11_home_4 rfl rfl ?_
    refine g_sipush (pc := 5) (v := (512 : Int32)) dX11_home_5 (by decide) ?_
    rcases it_some hf with ⟨c2, hf⟩ | ⟨c2, hf⟩
    · refine g_iclt_t (pc := 8) (tgt := 15) dX11_home_8 (by decide) c2 ?_
      refine g_aload_n (pc := 15) 0 dX11_home_15 rfl rfl ?_
      refine g_iload_n (pc := 16) 1 dX11_home_16 rfl rfl ?_
      obtain ⟨g3, hf⟩ := gs_some hf
      obtain ⟨v4, hcv4, hf⟩ := bd_some hf
      refine g_cVI (pc := 17) (k2 := k_X11_homeWay) (av := [.int a1]) (q := (v4, h)) rfl dX11_home_17 ck_X11_homeWay m_1919 m_1921 m_106 (ci := 9) rfl (by decide) g3 (by decide) (by decide) rfl (by simp [rf_cat, rq_cat, ca_i, ca_l, ca_r]) (ct_X11_homeWay l X hcv4) ?_
      refine g_sub [0, 2] rfl ?_
      exact ok_X11_home_L20 l X h a0 a2 v4 q hf
    · refine g_iclt_f (pc := 8) (tgt := 15) dX11_home_8 (by decide) c2 ?_
      refine g_sub [0, 2] rfl ?_
      exact ok_X11_home_L11 l X h a0 a2 q hf
theorem ct_X11_home (l : Launch) (X : Cx) {h : AH} {a0 : Nat} {a1 : Int32} {a2 : Int32} {q : Int32 × AH} (hf : f_X11_home h a0 a1 a2 = some q) : Ct l X k_X11_home [rf X a0, .int a1, .int a2] h (rI q) := ct_of ck_X11_home (by simp [lg_sl, rf_cat, rq_cat, ca_i, ca_l, ca_r]) (by simp [lv_args, rf_cat, rq_cat, ca_i, ca_l, ca_r]) (ok_X11_home l X hf)
set_option maxRecDepth 100000 in
set_option maxHeartbeats 4000000 in
theorem ok_X11_waiting_L59 (l : Launch) (X : Cx) (k25 : AH → Nat → Int32 → Int32 → Int32 → Option (Int32 × AH)) (hk25 : ∀ (h : AH) (a0 : Nat) (a1 : Int32) (a2 : Int32) (a3 : Int32) (q : Int32 × AH), k25 h a0 a1 a2 a3 = some q → Go l X k_X11_waiting 25 [(0, rf X a0), (1, .int a1), (2, .int a2), (3, .int a3)] [] h (rI q)) (h : AH) (a0 : Nat) (a1 : Int32) (a3 : Int32) (s0 : Int32) (s1 : Int32) (q : Int32 × AH) (hf : f_X11_waiting_L59 k25 h a0 a1 a3 s0 s1 = some q) : Go l X k_X11_waiting 59 [(0, rf X a0), (1, .int a1), (3, .int a3)] [.int s1, .int s0] h (rI q) := by
  unfold f_X11_waiting_L59 at hf
  refine g_iadd (pc := 59) dX11_waiting_59 ?_
  obtain ⟨x1, ex1, hf⟩ := lt_some hf
  refine g_istore_n (pc := 60) (L' := [(2, .int x1), (0, rf X a0), (1, .int a1), (3, .int a3)]) dX11_waiting_60 rfl (by decide) ex1 rfl ?_
  obtain ⟨x2, ex2, hf⟩ := lt_some hf
  refine g_iinc (pc := 61) (y := x2) (L' := [(3, .int x2), (2, .int x1), (0, rf X a0), (1, .int a1)]) 3 dX11_waiting_61 rfl (by decide) (ex2.trans rfl) rfl ?_
  refine g_goto (pc := 64) (tgt := 25) dX11_waiting_64 (by decide) ?_
  refine g_sub [2, 3, 1, 0] rfl ?_
  exact hk25 h a0 a1 x1 x2 q hf
set_option maxRecDepth 100000 in
set_option maxHeartbeats 4000000 in
theorem ok_X11_waiting_L25 (l : Launch) (X : Cx) : ∀ (n : Nat) (h : AH) (a0 : Nat) (a1 : Int32) (a2 : Int32) (a3 : Int32) (q : Int32 × AH), f_X11_waiting_L25 n h a0 a1 a2 a3 = some q → Go l X k_X11_waiting 25 [(0, rf X a0), (1, .int a1), (2, .int a2), (3, .int a3)] [] h (rI q) := by
  intro n
  induction n with
  | zero =>
    intro h a0 a1 a2 a3 q hf
    unfold f_X11_waiting_L25 at hf
    cases hf
  | succ n ih =>
    intro h a0 a1 a2 a3 q hf
    unfold f_X11_waiting_L25 at hf
    refine g_iload_n (pc := 25) 3 dX11_waiting_25 rfl rfl ?_
    refine g_aload_n (pc := 26) 0 dX11_waiting_26 rfl rfl ?_
    obtain ⟨g1, hf⟩ := gs_some hf
    refine g_getI (pc := 27) fl_X11_313 dX11_waiting_27 g1 ?_
    rcases it_some hf with ⟨c2, hf⟩ | ⟨c2, hf⟩
    · refine g_icge_t (pc := 30) (tgt := 67) dX11_waiting_30 (by decide) c2 ?_
      refine g_iload_n (pc := 67) 2 dX11_waiting_67 rfl rfl ?_
      obtain rfl := Option.some.inj hf
      exact g_iret (pc := 68) rfl dX11_waiting_68
    · refine g_icge_f (pc := 30) (tgt := 67) dX11_waiting_30 (by decide) c2 ?_
      refine g_iload_n (pc := 33) 2 dX11_waiting_33 rfl rfl ?_
      refine g_aload_n (pc := 34) 0 dX11_waiting_34 rfl rfl ?_
      refine g_getR (pc := 35) fl_X11_141 dX11_waiting_35 g1 ?_
      refine g_bipush (pc := 38) (v := (7 : Int32)) dX11_waiting_38 (by decide) ?_
      refine g_iload_n (pc := 40) 3 dX11_waiting_40 rfl rfl ?_
      refine g_imul (pc := 41) dX11_waiting_41 ?_
      obtain ⟨g3, hf⟩ := gs_some hf
      obtain ⟨b4, hf⟩ := gb_some hf
      refine g_iald (pc := 42) g3 b4 dX11_waiting_42 ?_
      refine g_aload_n (pc := 43) 0 dX11_waiting_43 rfl rfl ?_
      refine g_getR (pc := 44) fl_X11_47 dX11_waiting_44 g1 ?_
      refine g_iconst (pc := 47) (v := (4 : Int32)) dX11_waiting_47 (by decide) ?_
      obtain ⟨g5, hf⟩ := gs_some hf
      obtain ⟨b6, hf⟩ := gb_some hf
      refine g_iald (pc := 48) g5 b6 dX11_waiting_48 ?_
      obtain ⟨b7, hf⟩ := gb_some hf
      refine g_irem (pc := 49) (of_decide_eq_true b7) dX11_waiting_49 ?_
      refine g_iload_n (pc := 50) 1 dX11_waiting_50 rfl rfl ?_
      rcases it_some hf with ⟨c8, hf⟩ | ⟨c8, hf⟩
      · refine g_icne_t (pc := 51) (tgt := 58) dX11_waiting_51 (by decide) c8 ?_
        refine g_iconst (pc := 58) (v := (0 : Int32)) dX11_waiting_58 (by decide) ?_
        refine g_sub [0, 1, 3] rfl ?_
        exact ok_X11_waiting_L59 l X (f_X11_waiting_L25 n) ih h a0 a1 a3 a2 (0 : Int32) q hf
      · refine g_icne_f (pc := 51) (tgt := 58) dX11_waiting_51 (by decide) (Decidable.of_not_not c8) ?_
        refine g_iconst (pc := 54) (v := (1 : Int32)) dX11_waiting_54 (by decide) ?_
        refine g_goto (pc := 55) (tgt := 59) dX11_waiting_55 (by decide) ?_
        refine g_sub [0, 1, 3] rfl ?_
        exact ok_X11_waiting_L59 l X (f_X11_waiting_L25 n) ih h a0 a1 a3 a2 (1 : Int32) q hf
set_option maxRecDepth 100000 in
set_option maxHeartbeats 4000000 in
theorem ok_X11_waiting (l : Launch) (X : Cx) {h : AH} {a0 : Nat} {a1 : Int32} {q : Int32 × AH} (hf : f_X11_waiting h a0 a1 = some q) : Go l X k_X11_waiting 0 [(0, rf X a0), (1, .int a1)] [] h (rI q) := by
  unfold f_X11_waiting at hf
  refine g_aload_n (pc := 0) 0 dX11_waiting_0 rfl rfl ?_
  refine g_iconst (pc := 1) (v := (0 : Int32)) dX11_waiting_1 (by decide) ?_
  obtain ⟨g1, hf⟩ := gs_some hf
  obtain ⟨h2, eh2, hf⟩ := lt_some hf
  refine g_putI (pc := 2) fl_X11_306 dX11_waiting_2 g1 eh2 ?_
  refine g_iload_n (pc := 5) 1 dX11_waiting_5 rfl rfl ?_
  rcases it_some hf with ⟨c3, hf⟩ | ⟨c3, hf⟩
  · refine g_iflt_t (pc := 6) (tgt := 19) dX11_waiting_6 (by decide) c3 ?_
    refine g_iconst (pc := 19) (v := (-1 : Int32)) dX11_waiting_19 (by decide) ?_
    obtain rfl := Option.some.inj hf
    exact g_iret (pc := 20) rfl dX11_waiting_20
  · refine g_iflt_f (pc := 6) (tgt := 19) dX11_waiting_6 (by decide) c3 ?_
    refine g_iload_n (pc := 9) 1 dX11_waiting_9 rfl rfl ?_
    refine g_aload_n (pc := 10) 0 dX11_waiting_10 rfl rfl ?_
    have g4 : hS h2 a0 = 10 := (hS_tI eh2 g1)
    refine g_getR (pc := 11) fl_X11_47 dX11_waiting_11 g4 ?_
    refine g_iconst (pc := 14) (v := (4 : Int32)) dX11_waiting_14 (by decide) ?_
    obtain ⟨g5, hf⟩ := gs_some hf
    obtain ⟨b6, hf⟩ := gb_some hf
    refine g_iald (pc := 15) g5 b6 dX11_waiting_15 ?_
    rcases it_some hf with ⟨c7, hf⟩ | ⟨c7, hf⟩
    · refine g_iclt_t (pc := 16) (tgt := 21) dX11_waiting_16 (by decide) c7 ?_
      refine g_iconst (pc := 21) (v := (0 : Int32)) dX11_waiting_21 (by decide) ?_
      obtain ⟨x8, ex8, hf⟩ := lt_some hf
      refine g_istore_n (pc := 22) (L' := [(2, .int x8), (0, rf X a0), (1, .int a1)]) dX11_waiting_22 rfl (by decide) ex8 rfl ?_
      refine g_iconst (pc := 23) (v := (0 : Int32)) dX11_waiting_23 (by decide) ?_
      obtain ⟨x9, ex9, hf⟩ := lt_some hf
      refine g_istore_n (pc := 24) (L' := [(3, .int x9), (2, .int x8), (0, rf X a0), (1, .int a1)]) dX11_waiting_24 rfl (by decide) ex9 rfl ?_
      refine g_sub [2, 3, 1, 0] rfl ?_
      exact ok_X11_waiting_L25 l X FU h2 a0 a1 x8 x9 q hf
    · refine g_iclt_f (pc := 16) (tgt := 21) dX11_waiting_16 (by decide) c7 ?_
      refine g_iconst (pc := 19) (v := (-1 : Int32)) dX11_waiting_19 (by decide) ?_
      obtain rfl := Option.some.inj hf
      exact g_iret (pc := 20) rfl dX11_waiting_20
theorem ct_X11_waiting (l : Launch) (X : Cx) {h : AH} {a0 : Nat} {a1 : Int32} {q : Int32 × AH} (hf : f_X11_waiting h a0 a1 = some q) : Ct l X k_X11_waiting [rf X a0, .int a1] h (rI q) := ct_of ck_X11_waiting (by simp [lg_sl, rf_cat, rq_cat, ca_i, ca_l, ca_r]) (by simp [lv_args, rf_cat, rq_cat, ca_i, ca_l, ca_r]) (ok_X11_waiting l X hf)
set_option maxRecDepth 100000 in
set_option maxHeartbeats 4000000 in
theorem ok_X11_memory_L13 (l : Launch) (X : Cx) (h : AH) (a0 : Nat) (a1 : Int32) (s0 : Nat) (s1 : Int32) (q : Int32 × AH) (hf : f_X11_memory_L13 h a0 a1 s0 s1 = some q) : Go l X k_X11_memory 13 [(0, rf X a0), (1, .int a1)] [.int s1, rf X s0] h (rI q) := by
  unfold f_X11_memory_L13 at hf
  obtain ⟨g1, hf⟩ := gs_some hf
  obtain ⟨h2, eh2, hf⟩ := lt_some hf
  refine g_putI (pc := 13) fl_X11_306 dX11_memory_13 g1 eh2 ?_
  refine g_aload_n (pc := 16) 0 dX11_memory_16 rfl rfl ?_
  obtain ⟨g3, hf⟩ := gs_some hf
  refine g_getI (pc := 17) fl_X11_306 dX11_memory_17 g3 ?_
  rcases it_some hf with ⟨c4, hf⟩ | ⟨c4, hf⟩
  · refine g_ifeq_t (pc := 20) (tgt := 27) dX11_memory_20 (by decide) c4 ?_
    refine g_aload_n (pc := 27) 0 dX11_memory_27 rfl rfl ?_
    refine g_getR (pc := 28) fl_X11_56 dX11_memory_28 g3 ?_
    refine g_iload_n (pc := 31) 1 dX11_memory_31 rfl rfl ?_
    refine g_iconst (pc := 32) (v := (4 : Int32)) dX11_memory_32 (by decide) ?_
    refine g_idiv (pc := 33) (by decide) dX11_memory_33 ?_
    obtain ⟨g5, hf⟩ := gs_some hf
    obtain ⟨b6, hf⟩ := gb_some hf
    refine g_iald (pc := 34) g5 b6 dX11_memory_34 ?_
    obtain rfl := Option.some.inj hf
    exact g_iret (pc := 35) rfl dX11_memory_35
  · refine g_ifeq_f (pc := 20) (tgt := 27) dX11_memory_20 (by decide) c4 ?_
    refine g_iconst (pc := 23) (v := (0 : Int32)) dX11_memory_23 (by decide) ?_
    refine g_goto (pc := 24) (tgt := 35) dX11_memory_24 (by decide) ?_
    obtain rfl := Option.some.inj hf
    exact g_iret (pc := 35) rfl dX11_memory_35
set_option maxRecDepth 100000 in
set_option maxHeartbeats 4000000 in
theorem ok_X11_memory (l : Launch) (X : Cx) {h : AH} {a0 : Nat} {a1 : Int32} {q : Int32 × AH} (hf : f_X11_memory h a0 a1 = some q) : Go l X k_X11_memory 0 [(0, rf X a0), (1, .int a1)] [] h (rI q) := by
  unfold f_X11_memory at hf
  refine g_aload_n (pc := 0) 0 dX11_memory_0 rfl rfl ?_
  refine g_iload_n (pc := 1) 1 dX11_memory_1 rfl rfl ?_
  obtain ⟨v1, hcv1, hf⟩ := bd_some hf
  refine g_cSI (pc := 2) (k2 := k_X11_isAddress) (av := [.int a1]) (q := (v1, h)) rfl dX11_memory_2 ck_X11_isAddress m_2018 m_2019 (by decide) (by decide) rfl (by simp [rf_cat, rq_cat, ca_i, ca_l, ca_r]) (ct_X11_isAddress l X hcv1) ?_
  rcases it_some hf with ⟨c2, hf⟩ | ⟨c2, hf⟩
  · refine g_ifeq_t (pc := 5) (tgt := 12) dX11_memory_5 (by decide) c2 ?_
    refine g_iconst (pc := 12) (v := (1 : Int32)) dX11_memory_12 (by decide) ?_
    exact ok_X11_memory_L13 l X h a0 a1 a0 (1 : Int32) q hf
  · refine g_ifeq_f (pc := 5) (tgt := 12) dX11_memory_5 (by decide) c2 ?_
    refine g_iconst (pc := 8) (v := (0 : Int32)) dX11_memory_8 (by decide) ?_
    refine g_goto (pc := 9) (tgt := 13) dX11_memory_9 (by decide) ?_
    exact ok_X11_memory_L13 l X h a0 a1 a0 (0 : Int32) q hf
theorem ct_X11_memory (l : Launch) (X : Cx) {h : AH} {a0 : Nat} {a1 : Int32} {q : Int32 × AH} (hf : f_X11_memory h a0 a1 = some q) : Ct l X k_X11_memory [rf X a0, .int a1] h (rI q) := ct_of ck_X11_memory (by simp [lg_sl, rf_cat, rq_cat, ca_i, ca_l, ca_r]) (by simp [lv_args, rf_cat, rq_cat, ca_i, ca_l, ca_r]) (ok_X11_memory l X hf)
set_option maxRecDepth 100000 in
set_option maxHeartbeats 4000000 in
theorem ok_X11_word_L13 (l : Launch) (X : Cx) (h : AH) (a0 : Nat) (a1 : Int32) (s0 : Nat) (s1 : Int32) (q : Int32 × AH) (hf : f_X11_word_L13 h a0 a1 s0 s1 = some q) : Go l X k_X11_word 13 [(0, rf X a0), (1, .int a1)] [.int s1, rf X s0] h (rI q) := by
  unfold f_X11_word_L13 at hf
  obtain ⟨g1, hf⟩ := gs_some hf
  obtain ⟨h2, eh2, hf⟩ := lt_some hf
  refine g_putI (pc := 13) fl_X11_306 dX11_word_13 g1 eh2 ?_
  refine g_aload_n (pc := 16) 0 dX11_word_16 rfl rfl ?_
  obtain ⟨g3, hf⟩ := gs_some hf
  refine g_getI (pc := 17) fl_X11_306 dX11_word_17 g3 ?_
  rcases it_some hf with ⟨c4, hf⟩ | ⟨c4, hf⟩
  · refine g_ifeq_t (pc := 20) (tgt := 27) dX11_word_20 (by decide) c4 ?_
    refine g_aload_n (pc := 27) 0 dX11_word_27 rfl rfl ?_
    refine g_getR (pc := 28) fl_X11_53 dX11_word_28 g3 ?_
    refine g_iload_n (pc := 31) 1 dX11_word_31 rfl rfl ?_
    refine g_iconst (pc := 32) (v := (4 : Int32)) dX11_word_32 (by decide) ?_
    refine g_idiv (pc := 33) (by decide) dX11_word_33 ?_
    obtain ⟨g5, hf⟩ := gs_some hf
    obtain ⟨b6, hf⟩ := gb_some hf
    refine g_iald (pc := 34) g5 b6 dX11_word_34 ?_
    obtain rfl := Option.some.inj hf
    exact g_iret (pc := 35) rfl dX11_word_35
  · refine g_ifeq_f (pc := 20) (tgt := 27) dX11_word_20 (by decide) c4 ?_
    refine g_iconst (pc := 23) (v := (0 : Int32)) dX11_word_23 (by decide) ?_
    refine g_goto (pc := 24) (tgt := 35) dX11_word_24 (by decide) ?_
    obtain rfl := Option.some.inj hf
    exact g_iret (pc := 35) rfl dX11_word_35
set_option maxRecDepth 100000 in
set_option maxHeartbeats 4000000 in
theorem ok_X11_word (l : Launch) (X : Cx) {h : AH} {a0 : Nat} {a1 : Int32} {q : Int32 × AH} (hf : f_X11_word h a0 a1 = some q) : Go l X k_X11_word 0 [(0, rf X a0), (1, .int a1)] [] h (rI q) := by
  unfold f_X11_word at hf
  refine g_aload_n (pc := 0) 0 dX11_word_0 rfl rfl ?_
  refine g_iload_n (pc := 1) 1 dX11_word_1 rfl rfl ?_
  obtain ⟨v1, hcv1, hf⟩ := bd_some hf
  refine g_cSI (pc := 2) (k2 := k_X11_isAddress) (av := [.int a1]) (q := (v1, h)) rfl dX11_word_2 ck_X11_isAddress m_2018 m_2019 (by decide) (by decide) rfl (by simp [rf_cat, rq_cat, ca_i, ca_l, ca_r]) (ct_X11_isAddress l X hcv1) ?_
  rcases it_some hf with ⟨c2, hf⟩ | ⟨c2, hf⟩
  · refine g_ifeq_t (pc := 5) (tgt := 12) dX11_word_5 (by decide) c2 ?_
    refine g_iconst (pc := 12) (v := (1 : Int32)) dX11_word_12 (by decide) ?_
    exact ok_X11_word_L13 l X h a0 a1 a0 (1 : Int32) q hf
  · refine g_ifeq_f (pc := 5) (tgt := 12) dX11_word_5 (by decide) c2 ?_
    refine g_iconst (pc := 8) (v := (0 : Int32)) dX11_word_8 (by decide) ?_
    refine g_goto (pc := 9) (tgt := 13) dX11_word_9 (by decide) ?_
    exact ok_X11_word_L13 l X h a0 a1 a0 (0 : Int32) q hf
theorem ct_X11_word (l : Launch) (X : Cx) {h : AH} {a0 : Nat} {a1 : Int32} {q : Int32 × AH} (hf : f_X11_word h a0 a1 = some q) : Ct l X k_X11_word [rf X a0, .int a1] h (rI q) := ct_of ck_X11_word (by simp [lg_sl, rf_cat, rq_cat, ca_i, ca_l, ca_r]) (by simp [lv_args, rf_cat, rq_cat, ca_i, ca_l, ca_r]) (ok_X11_word l X hf)
set_option maxRecDepth 100000 in
set_option maxHeartbeats 4000000 in
theorem ok_X11_message_L22 (l : Launch) (X : Cx) (h : AH) (a0 : Nat) (q : Int32 × AH) (hf : f_X11_message_L22 h a0 = some q) : Go l X k_X11_message 22 [(0, rf X a0)] [] h (rI q) := by
  unfold f_X11_message_L22 at hf
  refine g_aload_n (pc := 22) 0 dX11_message_22 rfl rfl ?_
  refine g_iconst (pc := 23) (v := (1 : Int32)) dX11_message_23 (by decide) ?_
  obtain ⟨g1, hf⟩ := gs_some hf
  obtain ⟨q2, hcq2, hf⟩ := bd_some hf
  refine g_cVI (pc := 24) (k2 := k_X11_raise) (av := [.int (1 : Int32)]) (q := q2) rfl dX11_message_24 ck_X11_raise m_1780 m_1782 m_77 (ci := 9) rfl (by decide) g1 (by decide) (by decide) rfl (by simp [rf_cat, rq_cat, ca_i, ca_l, ca_r]) (ct_X11_raise l X hcq2) ?_
  obtain rfl := Option.some.inj hf
  exact g_iret (pc := 27) rfl dX11_message_27
set_option maxRecDepth 100000 in
set_option maxHeartbeats 4000000 in
theorem ok_X11_message (l : Launch) (X : Cx) {h : AH} {a0 : Nat} {a1 : Int32} {a2 : Int32} {q : Int32 × AH} (hf : f_X11_message h a0 a1 a2 = some q) : Go l X k_X11_message 0 [(0, rf X a0), (1, .int a1), (2, .int a2)] [] h (rI q) := by
  unfold f_X11_message at hf
  refine g_iload_n (pc := 0) 1 dX11_message_0 rfl rfl ?_
  rcases it_some hf with ⟨c1, hf⟩ | ⟨c1, hf⟩
  · refine g_iflt_t (pc := 1) (tgt := 22) dX11_message_1 (by decide) c1 ?_
    refine g_sub [0] rfl ?_
    exact ok_X11_message_L22 l X h a0 q hf
  · refine g_iflt_f (pc := 1) (tgt := 22) dX11_message_1 (by decide) c1 ?_
    refine g_iload_n (pc := 4) 1 dX11_message_4 rfl rfl ?_
    refine g_aload_n (pc := 5) 0 dX11_message_5 rfl rfl ?_
    obtain ⟨g2, hf⟩ := gs_some hf
    refine g_getI (pc := 6) fl_X11_316 dX11_message_6 g2 ?_
    rcases it_some hf with ⟨c3, hf⟩ | ⟨c3, hf⟩
    · refine g_icge_t (pc := 9) (tgt := 22) dX11_message_9 (by decide) c3 ?_
      refine g_sub [0] rfl ?_
      exact ok_X11_message_L22 l X h a0 q hf
    · refine g_icge_f (pc := 9) (tgt := 22) dX11_message_9 (by decide) c3 ?_
      refine g_iload_n (pc := 12) 2 dX11_message_12 rfl rfl ?_
      rcases it_some hf with ⟨c4, hf⟩ | ⟨c4, hf⟩
      · refine g_iflt_t (pc := 13) (tgt := 22) dX11_message_13 (by decide) c4 ?_
        refine g_sub [0] rfl ?_
        exact ok_X11_message_L22 l X h a0 q hf
      · refine g_iflt_f (pc := 13) (tgt := 22) dX11_message_13 (by decide) c4 ?_
        refine g_iload_n (pc := 16) 2 dX11_message_16 rfl rfl ?_
        refine g_bipush (pc := 17) (v := (9 : Int32)) dX11_message_17 (by decide) ?_
        rcases it_some hf with ⟨c5, hf⟩ | ⟨c5, hf⟩
        · refine g_icle_t (pc := 19) (tgt := 28) dX11_message_19 (by decide) c5 ?_
          refine g_aload_n (pc := 28) 0 dX11_message_28 rfl rfl ?_
          refine g_iconst (pc := 29) (v := (0 : Int32)) dX11_message_29 (by decide) ?_
          obtain ⟨h6, eh6, hf⟩ := lt_some hf
          refine g_putI (pc := 30) fl_X11_306 dX11_message_30 g2 eh6 ?_
          refine g_iload_n (pc := 33) 2 dX11_message_33 rfl rfl ?_
          refine g_bipush (pc := 34) (v := (9 : Int32)) dX11_message_34 (by decide) ?_
          rcases it_some hf with ⟨c7, hf⟩ | ⟨c7, hf⟩
          · refine g_icne_t (pc := 36) (tgt := 54) dX11_message_36 (by decide) c7 ?_
            refine g_aload_n (pc := 54) 0 dX11_message_54 rfl rfl ?_
            have g8 : hS h6 a0 = 10 := (hS_tI eh6 g2)
            refine g_getR (pc := 55) fl_X11_145 dX11_message_55 g8 ?_
            refine g_bipush (pc := 58) (v := (9 : Int32)) dX11_message_58 (by decide) ?_
            refine g_iload_n (pc := 60) 1 dX11_message_60 rfl rfl ?_
            refine g_imul (pc := 61) dX11_message_61 ?_
            refine g_iload_n (pc := 62) 2 dX11_message_62 rfl rfl ?_
            refine g_iadd (pc := 63) dX11_message_63 ?_
            obtain ⟨g9, hf⟩ := gs_some hf
            obtain ⟨b10, hf⟩ := gb_some hf
            refine g_iald (pc := 64) g9 b10 dX11_message_64 ?_
            obtain rfl := Option.some.inj hf
            exact g_iret (pc := 65) rfl dX11_message_65
          · refine g_icne_f (pc := 36) (tgt := 54) dX11_message_36 (by decide) (Decidable.of_not_not c7) ?_
            refine g_aload_n (pc := 39) 0 dX11_message_39 rfl rfl ?_
            have g11 : hS h6 a0 = 10 := (hS_tI eh6 g2)
            refine g_getR (pc := 40) fl_X11_145 dX11_message_40 g11 ?_
            refine g_bipush (pc := 43) (v := (9 : Int32)) dX11_message_43 (by decide) ?_
            refine g_iload_n (pc := 45) 1 dX11_message_45 rfl rfl ?_
            refine g_imul (pc := 46) dX11_message_46 ?_
            obtain ⟨g12, hf⟩ := gs_some hf
            obtain ⟨b13, hf⟩ := gb_some hf
            refine g_iald (pc := 47) g12 b13 dX11_message_47 ?_
            obtain ⟨v14, hcv14, hf⟩ := bd_some hf
            refine g_cSI (pc := 48) (k2 := k_X11_channelOf) (av := [.int (hI h6 (hR h6 a0 60) ((9 : Int32) * a1).toNatClampNeg)]) (q := (v14, h6)) rfl dX11_message_48 ck_X11_channelOf m_1975 m_1976 (by decide) (by decide) rfl (by simp [rf_cat, rq_cat, ca_i, ca_l, ca_r]) (ct_X11_channelOf l X hcv14) ?_
            refine g_goto (pc := 51) (tgt := 65) dX11_message_51 (by decide) ?_
            obtain rfl := Option.some.inj hf
            exact g_iret (pc := 65) rfl dX11_message_65
        · refine g_icle_f (pc := 19) (tgt := 28) dX11_message_19 (by decide) c5 ?_
          refine g_sub [0] rfl ?_
          exact ok_X11_message_L22 l X h a0 q hf
theorem ct_X11_message (l : Launch) (X : Cx) {h : AH} {a0 : Nat} {a1 : Int32} {a2 : Int32} {q : Int32 × AH} (hf : f_X11_message h a0 a1 a2 = some q) : Ct l X k_X11_message [rf X a0, .int a1, .int a2] h (rI q) := ct_of ck_X11_message (by simp [lg_sl, rf_cat, rq_cat, ca_i, ca_l, ca_r]) (by simp [lv_args, rf_cat, rq_cat, ca_i, ca_l, ca_r]) (ok_X11_message l X hf)
set_option maxRecDepth 100000 in
set_option maxHeartbeats 4000000 in
theorem ok_X11_total_L32 (l : Launch) (X : Cx) (k9 : AH → Nat → Int32 → Int32 → Int32 → Option (Int32 × AH)) (hk9 : ∀ (h : AH) (a0 : Nat) (a1 : Int32) (a2 : Int32) (a3 : Int32) (q : Int32 × AH), k9 h a0 a1 a2 a3 = some q → Go l X k_X11_total 9 [(0, rf X a0), (1, .int a1), (2, .int a2), (3, .int a3)] [] h (rI q)) (h : AH) (a0 : Nat) (a1 : Int32) (a3 : Int32) (s0 : Int32) (s1 : Int32) (q : Int32 × AH) (hf : f_X11_total_L32 k9 h a0 a1 a3 s0 s1 = some q) : Go l X k_X11_total 32 [(0, rf X a0), (1, .int a1), (3, .int a3)] [.int s1, .int s0] h (rI q) := by
  unfold f_X11_total_L32 at hf
  refine g_iadd (pc := 32) dX11_total_32 ?_
  obtain ⟨x1, ex1, hf⟩ := lt_some hf
  refine g_istore_n (pc := 33) (L' := [(2, .int x1), (0, rf X a0), (1, .int a1), (3, .int a3)]) dX11_total_33 rfl (by decide) ex1 rfl ?_
  obtain ⟨x2, ex2, hf⟩ := lt_some hf
  refine g_iinc (pc := 34) (y := x2) (L' := [(3, .int x2), (2, .int x1), (0, rf X a0), (1, .int a1)]) 3 dX11_total_34 rfl (by decide) (ex2.trans rfl) rfl ?_
  refine g_goto (pc := 37) (tgt := 9) dX11_total_37 (by decide) ?_
  refine g_sub [2, 3, 1, 0] rfl ?_
  exact hk9 h a0 a1 x1 x2 q hf
set_option maxRecDepth 100000 in
set_option maxHeartbeats 4000000 in
theorem ok_X11_total_L9 (l : Launch) (X : Cx) : ∀ (n : Nat) (h : AH) (a0 : Nat) (a1 : Int32) (a2 : Int32) (a3 : Int32) (q : Int32 × AH), f_X11_total_L9 n h a0 a1 a2 a3 = some q → Go l X k_X11_total 9 [(0, rf X a0), (1, .int a1), (2, .int a2), (3, .int a3)] [] h (rI q) := by
  intro n
  induction n with
  | zero =>
    intro h a0 a1 a2 a3 q hf
    unfold f_X11_total_L9 at hf
    cases hf
  | succ n ih =>
    intro h a0 a1 a2 a3 q hf
    unfold f_X11_total_L9 at hf
    refine g_iload_n (pc := 9) 3 dX11_total_9 rfl rfl ?_
    refine g_sipush (pc := 10) (v := (512 : Int32)) dX11_total_10 (by decide) ?_
    rcases it_some hf with ⟨c1, hf⟩ | ⟨c1, hf⟩
    · refine g_icge_t (pc := 13) (tgt := 40) dX11_total_13 (by decide) c1 ?_
      refine g_iload_n (pc := 40) 1 dX11_total_40 rfl rfl ?_
      rcases it_some hf with ⟨c2, hf⟩ | ⟨c2, hf⟩
      · refine g_tsw (pc := 41) (tgt := 112) (0 : Int32) dX11_total_41 c2 (by decide +kernel) (by decide +kernel) (off := 71) (by decide +kernel) (by decide) ?_
        refine g_aload_n (pc := 112) 0 dX11_total_112 rfl rfl ?_
        obtain ⟨g3, hf⟩ := gs_some hf
        refine g_getR (pc := 113) fl_X11_47 dX11_total_113 g3 ?_
        refine g_iconst (pc := 116) (v := (0 : Int32)) dX11_total_116 (by decide) ?_
        obtain ⟨g4, hf⟩ := gs_some hf
        obtain ⟨b5, hf⟩ := gb_some hf
        refine g_iald (pc := 117) g4 b5 dX11_total_117 ?_
        obtain rfl := Option.some.inj hf
        exact g_iret (pc := 118) rfl dX11_total_118
      ·
        rcases it_some hf with ⟨c6, hf⟩ | ⟨c6, hf⟩
        · refine g_tsw (pc := 41) (tgt := 119) (1 : Int32) dX11_total_41 c6 (by decide +kernel) (by decide +kernel) (off := 78) (by decide +kernel) (by decide) ?_
          refine g_aload_n (pc := 119) 0 dX11_total_119 rfl rfl ?_
          obtain ⟨g7, hf⟩ := gs_some hf
          refine g_getI (pc := 120) fl_X11_316 dX11_total_120 g7 ?_
          obtain rfl := Option.some.inj hf
          exact g_iret (pc := 123) rfl dX11_total_123
        ·
          rcases it_some hf with ⟨c8, hf⟩ | ⟨c8, hf⟩
          · refine g_tsw (pc := 41) (tgt := 124) (2 : Int32) dX11_total_41 c8 (by decide +kernel) (by decide +kernel) (off := 83) (by decide +kernel) (by decide) ?_
            refine g_aload_n (pc := 124) 0 dX11_total_124 rfl rfl ?_
            obtain ⟨g9, hf⟩ := gs_some hf
            refine g_getI (pc := 125) fl_X11_319 dX11_total_125 g9 ?_
            obtain rfl := Option.some.inj hf
            exact g_iret (pc := 128) rfl dX11_total_128
          ·
            rcases it_some hf with ⟨c10, hf⟩ | ⟨c10, hf⟩
            · refine g_tsw (pc := 41) (tgt := 129) (3 : Int32) dX11_total_41 c10 (by decide +kernel) (by decide +kernel) (off := 88) (by decide +kernel) (by decide) ?_
              refine g_aload_n (pc := 129) 0 dX11_total_129 rfl rfl ?_
              obtain ⟨g11, hf⟩ := gs_some hf
              refine g_getI (pc := 130) fl_X11_322 dX11_total_130 g11 ?_
              obtain rfl := Option.some.inj hf
              exact g_iret (pc := 133) rfl dX11_total_133
            ·
              rcases it_some hf with ⟨c12, hf⟩ | ⟨c12, hf⟩
              · refine g_tsw (pc := 41) (tgt := 134) (4 : Int32) dX11_total_41 c12 (by decide +kernel) (by decide +kernel) (off := 93) (by decide +kernel) (by decide) ?_
                refine g_aload_n (pc := 134) 0 dX11_total_134 rfl rfl ?_
                obtain ⟨g13, hf⟩ := gs_some hf
                refine g_getI (pc := 135) fl_X11_325 dX11_total_135 g13 ?_
                obtain rfl := Option.some.inj hf
                exact g_iret (pc := 138) rfl dX11_total_138
              ·
                rcases it_some hf with ⟨c14, hf⟩ | ⟨c14, hf⟩
                · refine g_tsw (pc := 41) (tgt := 139) (5 : Int32) dX11_total_41 c14 (by decide +kernel) (by decide +kernel) (off := 98) (by decide +kernel) (by decide) ?_
                  refine g_aload_n (pc := 139) 0 dX11_total_139 rfl rfl ?_
                  obtain ⟨g15, hf⟩ := gs_some hf
                  refine g_getI (pc := 140) fl_X11_328 dX11_total_140 g15 ?_
                  obtain rfl := Option.some.inj hf
                  exact g_iret (pc := 143) rfl dX11_total_143
                ·
                  rcases it_some hf with ⟨c16, hf⟩ | ⟨c16, hf⟩
                  · refine g_tsw (pc := 41) (tgt := 144) (6 : Int32) dX11_total_41 c16 (by decide +kernel) (by decide +kernel) (off := 103) (by decide +kernel) (by decide) ?_
                    refine g_iload_n (pc := 144) 2 dX11_total_144 rfl rfl ?_
                    obtain rfl := Option.some.inj hf
                    exact g_iret (pc := 145) rfl dX11_total_145
                  ·
                    rcases it_some hf with ⟨c17, hf⟩ | ⟨c17, hf⟩
                    · refine g_tsw (pc := 41) (tgt := 146) (7 : Int32) dX11_total_41 c17 (by decide +kernel) (by decide +kernel) (off := 105) (by decide +kernel) (by decide) ?_
                      refine g_aload_n (pc := 146) 0 dX11_total_146 rfl rfl ?_
                      obtain ⟨g18, hf⟩ := gs_some hf
                      refine g_getR (pc := 147) fl_X11_47 dX11_total_147 g18 ?_
                      refine g_iconst (pc := 150) (v := (1 : Int32)) dX11_total_150 (by decide) ?_
                      obtain ⟨g19, hf⟩ := gs_some hf
                      obtain ⟨b20, hf⟩ := gb_some hf
                      refine g_iald (pc := 151) g19 b20 dX11_total_151 ?_
                      obtain rfl := Option.some.inj hf
                      exact g_iret (pc := 152) rfl dX11_total_152
                    ·
                      rcases it_some hf with ⟨c21, hf⟩ | ⟨c21, hf⟩
                      · refine g_tsw (pc := 41) (tgt := 153) (8 : Int32) dX11_total_41 c21 (by decide +kernel) (by decide +kernel) (off := 112) (by decide +kernel) (by decide) ?_
                        refine g_aload_n (pc := 153) 0 dX11_total_153 rfl rfl ?_
                        obtain ⟨g22, hf⟩ := gs_some hf
                        refine g_getR (pc := 154) fl_X11_47 dX11_total_154 g22 ?_
                        refine g_iload_n (pc := 157) 1 dX11_total_157 rfl rfl ?_
                        refine g_bipush (pc := 158) (v := (6 : Int32)) dX11_total_158 (by decide) ?_
                        refine g_isub (pc := 160) dX11_total_160 ?_
                        obtain ⟨g23, hf⟩ := gs_some hf
                        obtain ⟨b24, hf⟩ := gb_some hf
                        refine g_iald (pc := 161) g23 b24 dX11_total_161 ?_
                        obtain rfl := Option.some.inj hf
                        exact g_iret (pc := 162) rfl dX11_total_162
                      ·
                        rcases it_some hf with ⟨c25, hf⟩ | ⟨c25, hf⟩
                        · refine g_tsw (pc := 41) (tgt := 153) (9 : Int32) dX11_total_41 c25 (by decide +kernel) (by decide +kernel) (off := 112) (by decide +kernel) (by decide) ?_
                          refine g_aload_n (pc := 153) 0 dX11_total_153 rfl rfl ?_
                          obtain ⟨g26, hf⟩ := gs_some hf
                          refine g_getR (pc := 154) fl_X11_47 dX11_total_154 g26 ?_
                          refine g_iload_n (pc := 157) 1 dX11_total_157 rfl rfl ?_
                          refine g_bipush (pc := 158) (v := (6 : Int32)) dX11_total_158 (by decide) ?_
                          refine g_isub (pc := 160) dX11_total_160 ?_
                          obtain ⟨g27, hf⟩ := gs_some hf
                          obtain ⟨b28, hf⟩ := gb_some hf
                          refine g_iald (pc := 161) g27 b28 dX11_total_161 ?_
                          obtain rfl := Option.some.inj hf
                          exact g_iret (pc := 162) rfl dX11_total_162
                        ·
                          rcases it_some hf with ⟨c29, hf⟩ | ⟨c29, hf⟩
                          · refine g_tsw (pc := 41) (tgt := 153) (10 : Int32) dX11_total_41 c29 (by decide +kernel) (by decide +kernel) (off := 112) (by decide +kernel) (by decide) ?_
                            refine g_aload_n (pc := 153) 0 dX11_total_153 rfl rfl ?_
                            obtain ⟨g30, hf⟩ := gs_some hf
                            refine g_getR (pc := 154) fl_X11_47 dX11_total_154 g30 ?_
                            refine g_iload_n (pc := 157) 1 dX11_total_157 rfl rfl ?_
                            refine g_bipush (pc := 158) (v := (6 : Int32)) dX11_total_158 (by decide) ?_
                            refine g_isub (pc := 160) dX11_total_160 ?_
                            obtain ⟨g31, hf⟩ := gs_some hf
                            obtain ⟨b32, hf⟩ := gb_some hf
                            refine g_iald (pc := 161) g31 b32 dX11_total_161 ?_
                            obtain rfl := Option.some.inj hf
                            exact g_iret (pc := 162) rfl dX11_total_162
                          ·
                            rcases it_some hf with ⟨c33, hf⟩ | ⟨c33, hf⟩
                            · refine g_tsw (pc := 41) (tgt := 153) (11 : Int32) dX11_total_41 c33 (by decide +kernel) (by decide +kernel) (off := 112) (by decide +kernel) (by decide) ?_
                              refine g_aload_n (pc := 153) 0 dX11_total_153 rfl rfl ?_
                              obtain ⟨g34, hf⟩ := gs_some hf
                              refine g_getR (pc := 154) fl_X11_47 dX11_total_154 g34 ?_
                              refine g_iload_n (pc := 157) 1 dX11_total_157 rfl rfl ?_
                              refine g_bipush (pc := 158) (v := (6 : Int32)) dX11_total_158 (by decide) ?_
                              refine g_isub (pc := 160) dX11_total_160 ?_
                              obtain ⟨g35, hf⟩ := gs_some hf
                              obtain ⟨b36, hf⟩ := gb_some hf
                              refine g_iald (pc := 161) g35 b36 dX11_total_161 ?_
                              obtain rfl := Option.some.inj hf
                              exact g_iret (pc := 162) rfl dX11_total_162
                            ·
                              rcases it_some hf with ⟨c37, hf⟩ | ⟨c37, hf⟩
                              · refine g_tsw (pc := 41) (tgt := 163) (12 : Int32) dX11_total_41 c37 (by decide +kernel) (by decide +kernel) (off := 122) (by decide +kernel) (by decide) ?_
                                refine g_aload_n (pc := 163) 0 dX11_total_163 rfl rfl ?_
                                obtain ⟨g38, hf⟩ := gs_some hf
                                refine g_getI (pc := 164) fl_X11_331 dX11_total_164 g38 ?_
                                obtain rfl := Option.some.inj hf
                                exact g_iret (pc := 167) rfl dX11_total_167
                              ·
                                rcases it_some hf with ⟨c39, hf⟩ | ⟨c39, hf⟩
                                · refine g_tsw (pc := 41) (tgt := 168) (13 : Int32) dX11_total_41 c39 (by decide +kernel) (by decide +kernel) (off := 127) (by decide +kernel) (by decide) ?_
                                  refine g_aload_n (pc := 168) 0 dX11_total_168 rfl rfl ?_
                                  obtain ⟨g40, hf⟩ := gs_some hf
                                  refine g_getI (pc := 169) fl_X11_334 dX11_total_169 g40 ?_
                                  obtain rfl := Option.some.inj hf
                                  exact g_iret (pc := 172) rfl dX11_total_172
                                ·
                                  refine g_tswD (pc := 41) (tgt := 173) [(0 : Int32), (1 : Int32), (2 : Int32), (3 : Int32), (4 : Int32), (5 : Int32), (6 : Int32), (7 : Int32), (8 : Int32), (9 : Int32), (10 : Int32), (11 : Int32), (12 : Int32), (13 : Int32)] dX11_total_41 (cons_ne c2 (cons_ne c6 (cons_ne c8 (cons_ne c10 (cons_ne c12 (cons_ne c14 (cons_ne c16 (cons_ne c17 (cons_ne c21 (cons_ne c25 (cons_ne c29 (cons_ne c33 (cons_ne c37 (cons_ne c39 nil_ne)))))))))))))) (by decide +kernel) (by decide +kernel) (by decide) ?_
                                  refine g_iconst (pc := 173) (v := (-1 : Int32)) dX11_total_173 (by decide) ?_
                                  obtain rfl := Option.some.inj hf
                                  exact g_iret (pc := 174) rfl dX11_total_174
    · refine g_icge_f (pc := 13) (tgt := 40) dX11_total_13 (by decide) c1 ?_
      refine g_iload_n (pc := 16) 2 dX11_total_16 rfl rfl ?_
      refine g_aload_n (pc := 17) 0 dX11_total_17 rfl rfl ?_
      obtain ⟨g41, hf⟩ := gs_some hf
      refine g_getR (pc := 18) fl_X11_114 dX11_total_18 g41 ?_
      refine g_iload_n (pc := 21) 3 dX11_total_21 rfl rfl ?_
      obtain ⟨g42, hf⟩ := gs_some hf
      obtain ⟨b43, hf⟩ := gb_some hf
      refine g_iald (pc := 22) g42 b43 dX11_total_22 ?_
      refine g_iconst (pc := 23) (v := (-1 : Int32)) dX11_total_23 (by decide) ?_
      rcases it_some hf with ⟨c44, hf⟩ | ⟨c44, hf⟩
      · refine g_iceq_t (pc := 24) (tgt := 31) dX11_total_24 (by decide) c44 ?_
        refine g_iconst (pc := 31) (v := (0 : Int32)) dX11_total_31 (by decide) ?_
        refine g_sub [0, 1, 3] rfl ?_
        exact ok_X11_total_L32 l X (f_X11_total_L9 n) ih h a0 a1 a3 a2 (0 : Int32) q hf
      · refine g_iceq_f (pc := 24) (tgt := 31) dX11_total_24 (by decide) c44 ?_
        refine g_iconst (pc := 27) (v := (1 : Int32)) dX11_total_27 (by decide) ?_
        refine g_goto (pc := 28) (tgt := 32) dX11_total_28 (by decide) ?_
        refine g_sub [0, 1, 3] rfl ?_
        exact ok_X11_total_L32 l X (f_X11_total_L9 n) ih h a0 a1 a3 a2 (1 : Int32) q hf
set_option maxRecDepth 100000 in
set_option maxHeartbeats 4000000 in
theorem ok_X11_total (l : Launch) (X : Cx) {h : AH} {a0 : Nat} {a1 : Int32} {q : Int32 × AH} (hf : f_X11_total h a0 a1 = some q) : Go l X k_X11_total 0 [(0, rf X a0), (1, .int a1)] [] h (rI q) := by
  unfold f_X11_total at hf
  refine g_aload_n (pc := 0) 0 dX11_total_0 rfl rfl ?_
  refine g_iconst (pc := 1) (v := (0 : Int32)) dX11_total_1 (by decide) ?_
  obtain ⟨g1, hf⟩ := gs_some hf
  obtain ⟨h2, eh2, hf⟩ := lt_some hf
  refine g_putI (pc := 2) fl_X11_306 dX11_total_2 g1 eh2 ?_
  refine g_iconst (pc := 5) (v := (0 : Int32)) dX11_total_5 (by decide) ?_
  obtain ⟨x3, ex3, hf⟩ := lt_some hf
  refine g_istore_n (pc := 6) (L' := [(2, .int x3), (0, rf X a0), (1, .int a1)]) dX11_total_6 rfl (by decide) ex3 rfl ?_
  refine g_iconst (pc := 7) (v := (0 : Int32)) dX11_total_7 (by decide) ?_
  obtain ⟨x4, ex4, hf⟩ := lt_some hf
  refine g_istore_n (pc := 8) (L' := [(3, .int x4), (2, .int x3), (0, rf X a0), (1, .int a1)]) dX11_total_8 rfl (by decide) ex4 rfl ?_
  refine g_sub [2, 3, 1, 0] rfl ?_
  exact ok_X11_total_L9 l X FU h2 a0 a1 x3 x4 q hf
theorem ct_X11_total (l : Launch) (X : Cx) {h : AH} {a0 : Nat} {a1 : Int32} {q : Int32 × AH} (hf : f_X11_total h a0 a1 = some q) : Ct l X k_X11_total [rf X a0, .int a1] h (rI q) := ct_of ck_X11_total (by simp [lg_sl, rf_cat, rq_cat, ca_i, ca_l, ca_r]) (by simp [lv_args, rf_cat, rq_cat, ca_i, ca_l, ca_r]) (ok_X11_total l X hf)
