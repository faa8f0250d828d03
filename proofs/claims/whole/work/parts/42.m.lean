def f_X11_withWords_L9 : Nat → AH → Nat → Int32 → Int32 → Option (AH)
  | 0, _, _, _, _ => none
  | n + 1, h, a0, a1, a2 =>
    if (4 : Int32) ≤ a2 then
      some h
    else
      gs h a0 10 <|
      gs h (hR h a0 23) 21 <|
      gb (ib (((4 : Int32) * a1) + a2) (hN h (hR h a0 23))) <|
      gs h (hR h a0 61) 21 <|
      gb (ib ((5 : Int32) + a2) (hN h (hR h a0 61))) <|
      lt (sI h (hR h a0 61) ((5 : Int32) + a2).toNatClampNeg (hI h (hR h a0 23) (((4 : Int32) * a1) + a2).toNatClampNeg)) fun h7 =>
      lt (a2 + (1 : Int32)) fun x8 =>
      f_X11_withWords_L9 n h7 a0 a1 x8
set_option maxRecDepth 100000 in
set_option maxHeartbeats 4000000 in
theorem ok_X11_withWords_L9 (l : Launch) (X : Cx) : ∀ (n : Nat) (h : AH) (a0 : Nat) (a1 : Int32) (a2 : Int32) (q : AH), f_X11_withWords_L9 n h a0 a1 a2 = some q → Go l X k_X11_withWords 9 [(0, rf X a0), (1, .int a1), (2, .int a2)] [] h (rV q) := by
  intro n
  induction n with
  | zero =>
    intro h a0 a1 a2 q hf
    unfold f_X11_withWords_L9 at hf
    cases hf
  | succ n ih =>
    intro h a0 a1 a2 q hf
    unfold f_X11_withWords_L9 at hf
    refine g_iload_n (pc := 9) 2 dX11_withWords_9 rfl rfl ?_
    refine g_iconst (pc := 10) (v := (4 : Int32)) dX11_withWords_10 (by decide) ?_
    rcases it_some hf with ⟨c1, hf⟩ | ⟨c1, hf⟩
    · refine g_icge_t (pc := 11) (tgt := 38) dX11_withWords_11 (by decide) c1 ?_
      obtain rfl := Option.some.inj hf
      exact g_vret (pc := 38) rfl dX11_withWords_38
    · refine g_icge_f (pc := 11) (tgt := 38) dX11_withWords_11 (by decide) c1 ?_
      refine g_aload_n (pc := 14) 0 dX11_withWords_14 rfl rfl ?_
      obtain ⟨g2, hf⟩ := gs_some hf
      refine g_getR (pc := 15) fl_X11_148 dX11_withWords_15 g2 ?_
      refine g_iconst (pc := 18) (v := (5 : Int32)) dX11_withWords_18 (by decide) ?_
      refine g_iload_n (pc := 19) 2 dX11_withWords_19 rfl rfl ?_
      refine g_iadd (pc := 20) dX11_withWords_20 ?_
      refine g_aload_n (pc := 21) 0 dX11_withWords_21 rfl rfl ?_
      refine g_getR (pc := 22) fl_X11_53 dX11_withWords_22 g2 ?_
      refine g_iconst (pc := 25) (v := (4 : Int32)) dX11_withWords_25 (by decide) ?_
      refine g_iload_n (pc := 26) 1 dX11_withWords_26 rfl rfl ?_
      refine g_imul (pc := 27) dX11_withWords_27 ?_
      refine g_iload_n (pc := 28) 2 dX11_withWords_28 rfl rfl ?_
      refine g_iadd (pc := 29) dX11_withWords_29 ?_
      obtain ⟨g3, hf⟩ := gs_some hf
      obtain ⟨b4, hf⟩ := gb_some hf
      refine g_iald (pc := 30) g3 b4 dX11_withWords_30 ?_
      obtain ⟨g5, hf⟩ := gs_some hf
      obtain ⟨b6, hf⟩ := gb_some hf
      obtain ⟨h7, eh7, hf⟩ := lt_some hf
      refine g_iast (pc := 31) g5 b6 dX11_withWords_31 eh7 ?_
      obtain ⟨x8, ex8, hf⟩ := lt_some hf
      refine g_iinc (pc := 32) (y := x8) (L' := [(2, .int x8), (0, rf X a0), (1, .int a1)]) 2 dX11_withWords_32 rfl (by decide) (ex8.trans rfl) rfl ?_
      refine g_goto (pc := 35) (tgt := 9) dX11_withWords_35 (by decide) ?_
      refine g_sub [1, 2, 0] rfl ?_
      exact ih h7 a0 a1 x8 q hf
def f_X11_withWords (h : AH) (a0 : Nat) (a1 : Int32) : Option (AH) :=
  gs h a0 10 <|
  gs h (hR h a0 61) 21 <|
  gb (ib (4 : Int32) (hN h (hR h a0 61))) <|
  lt (sI h (hR h a0 61) (4 : Int32).toNatClampNeg (1 : Int32)) fun h4 =>
  lt ((0 : Int32)) fun x5 =>
  f_X11_withWords_L9 FU h4 a0 a1 x5
set_option maxRecDepth 100000 in
set_option maxHeartbeats 4000000 in
theorem ok_X11_withWords (l : Launch) (X : Cx) {h : AH} {a0 : Nat} {a1 : Int32} {q : AH} (hf : f_X11_withWords h a0 a1 = some q) : Go l X k_X11_withWords 0 [(0, rf X a0), (1, .int a1)] [] h (rV q) := by
  unfold f_X11_withWords at hf
  refine g_aload_n (pc := 0) 0 dX11_withWords_0 rfl rfl ?_
  obtain ⟨g1, hf⟩ := gs_some hf
  refine g_getR (pc := 1) fl_X11_148 dX11_withWords_1 g1 ?_
  refine g_iconst (pc := 4) (v := (4 : Int32)) dX11_withWords_4 (by decide) ?_
  refine g_iconst (pc := 5) (v := (1 : Int32)) dX11_withWords_5 (by decide) ?_
  obtain ⟨g2, hf⟩ := gs_some hf
  obtain ⟨b3, hf⟩ := gb_some hf
  obtain ⟨h4, eh4, hf⟩ := lt_some hf
  refine g_iast (pc := 6) g2 b3 dX11_withWords_6 eh4 ?_
  refine g_iconst (pc := 7) (v := (0 : Int32)) dX11_withWords_7 (by decide) ?_
  obtain ⟨x5, ex5, hf⟩ := lt_some hf
  refine g_istore_n (pc := 8) (L' := [(2, .int x5), (0, rf X a0), (1, .int a1)]) dX11_withWords_8 rfl (by decide) ex5 rfl ?_
  refine g_sub [1, 2, 0] rfl ?_
  exact ok_X11_withWords_L9 l X FU h4 a0 a1 x5 q hf
theorem ct_X11_withWords (l : Launch) (X : Cx) {h : AH} {a0 : Nat} {a1 : Int32} {q : AH} (hf : f_X11_withWords h a0 a1 = some q) : Ct l X k_X11_withWords [rf X a0, .int a1] h (rV q) := ct_of ck_X11_withWords (by simp [lg_sl, rf_cat, rq_cat, ca_i, ca_l, ca_r]) (by simp [lv_args, rf_cat, rq_cat, ca_i, ca_l, ca_r]) (ok_X11_withWords l X hf)
def f_X11_post_L2 : Nat → AH → Nat → Int32 → Option (AH)
  | 0, _, _, _ => none
  | n + 1, h, a0, a1 =>
    if (9 : Int32) ≤ a1 then
      gs h a0 10 <|
      lt (sI h a0 59 ((hI h a0 59) + (1 : Int32))) fun h3 =>
      some h3
    else
      gs h a0 10 <|
      gs h (hR h a0 61) 21 <|
      gb (ib a1 (hN h (hR h a0 61))) <|
      gs h (hR h a0 60) 21 <|
      gb (ib (((9 : Int32) * (hI h a0 59)) + a1) (hN h (hR h a0 60))) <|
      lt (sI h (hR h a0 60) (((9 : Int32) * (hI h a0 59)) + a1).toNatClampNeg (hI h (hR h a0 61) a1.toNatClampNeg)) fun h9 =>
      lt (a1 + (1 : Int32)) fun x10 =>
      f_X11_post_L2 n h9 a0 x10
set_option maxRecDepth 100000 in
set_option maxHeartbeats 4000000 in
theorem ok_X11_post_L2 (l : Launch) (X : Cx) : ∀ (n : Nat) (h : AH) (a0 : Nat) (a1 : Int32) (q : AH), f_X11_post_L2 n h a0 a1 = some q → Go l X k_X11_post 2 [(0, rf X a0), (1, .int a1)] [] h (rV q) := by
  intro n
  induction n with
  | zero =>
    intro h a0 a1 q hf
    unfold f_X11_post_L2 at hf
    cases hf
  | succ n ih =>
    intro h a0 a1 q hf
    unfold f_X11_post_L2 at hf
    refine g_iload_n (pc := 2) 1 dX11_post_2 rfl rfl ?_
    refine g_bipush (pc := 3) (v := (9 : Int32)) dX11_post_3 (by decide) ?_
    rcases it_some hf with ⟨c1, hf⟩ | ⟨c1, hf⟩
    · refine g_icge_t (pc := 5) (tgt := 34) dX11_post_5 (by decide) c1 ?_
      refine g_aload_n (pc := 34) 0 dX11_post_34 rfl rfl ?_
      refine g_dup (pc := 35) dX11_post_35 (rf_cat X _) ?_
      obtain ⟨g2, hf⟩ := gs_some hf
      refine g_getI (pc := 36) fl_X11_316 dX11_post_36 g2 ?_
      refine g_iconst (pc := 39) (v := (1 : Int32)) dX11_post_39 (by decide) ?_
      refine g_iadd (pc := 40) dX11_post_40 ?_
      obtain ⟨h3, eh3, hf⟩ := lt_some hf
      refine g_putI (pc := 41) fl_X11_316 dX11_post_41 g2 eh3 ?_
      obtain rfl := Option.some.inj hf
      exact g_vret (pc := 44) rfl dX11_post_44
    · refine g_icge_f (pc := 5) (tgt := 34) dX11_post_5 (by decide) c1 ?_
      refine g_aload_n (pc := 8) 0 dX11_post_8 rfl rfl ?_
      obtain ⟨g4, hf⟩ := gs_some hf
      refine g_getR (pc := 9) fl_X11_145 dX11_post_9 g4 ?_
      refine g_bipush (pc := 12) (v := (9 : Int32)) dX11_post_12 (by decide) ?_
      refine g_aload_n (pc := 14) 0 dX11_post_14 rfl rfl ?_
      refine g_getI (pc := 15) fl_X11_316 dX11_post_15 g4 ?_
      refine g_imul (pc := 18) dX11_post_18 ?_
      refine g_iload_n (pc := 19) 1 dX11_post_19 rfl rfl ?_
      refine g_iadd (pc := 20) dX11_post_20 ?_
      refine g_aload_n (pc := 21) 0 dX11_post_21 rfl rfl ?_
      refine g_getR (pc := 22) fl_X11_148 dX11_post_22 g4 ?_
      refine g_iload_n (pc := 25) 1 dX11_post_25 rfl rfl ?_
      obtain ⟨g5, hf⟩ := gs_some hf
      obtain ⟨b6, hf⟩ := gb_some hf
      refine g_iald (pc := 26) g5 b6 dX11_post_26 ?_
      obtain ⟨g7, hf⟩ := gs_some hf
      obtain ⟨b8, hf⟩ := gb_some hf
      obtain ⟨h9, eh9, hf⟩ := lt_some hf
      refine g_iast (pc := 27) g7 b8 dX11_post_27 eh9 ?_
      obtain ⟨x10, ex10, hf⟩ := lt_some hf
      refine g_iinc (pc := 28) (y := x10) (L' := [(1, .int x10), (0, rf X a0)]) 1 dX11_post_28 rfl (by decide) (ex10.trans rfl) (by simp [rf_cat, rq_cat]) ?_
      refine g_goto (pc := 31) (tgt := 2) dX11_post_31 (by decide) ?_
      refine g_sub [1, 0] rfl ?_
      exact ih h9 a0 x10 q hf
def f_X11_post (h : AH) (a0 : Nat) : Option (AH) :=
  lt ((0 : Int32)) fun x1 =>
  f_X11_post_L2 FU h a0 x1
set_option maxRecDepth 100000 in
set_option maxHeartbeats 4000000 in
theorem ok_X11_post (l : Launch) (X : Cx) {h : AH} {a0 : Nat} {q : AH} (hf : f_X11_post h a0 = some q) : Go l X k_X11_post 0 [(0, rf X a0)] [] h (rV q) := by
  unfold f_X11_post at hf
  refine g_iconst (pc := 0) (v := (0 : Int32)) dX11_post_0 (by decide) ?_
  obtain ⟨x1, ex1, hf⟩ := lt_some hf
  refine g_istore_n (pc := 1) (L' := [(1, .int x1), (0, rf X a0)]) dX11_post_1 rfl (by decide) ex1 (by simp [rf_cat, rq_cat]) ?_
  refine g_sub [1, 0] rfl ?_
  exact ok_X11_post_L2 l X FU h a0 x1 q hf
theorem ct_X11_post (l : Launch) (X : Cx) {h : AH} {a0 : Nat} {q : AH} (hf : f_X11_post h a0 = some q) : Ct l X k_X11_post [rf X a0] h (rV q) := ct_of ck_X11_post (by simp [lg_sl, rf_cat, rq_cat, ca_i, ca_l, ca_r]) (by simp [lv_args, rf_cat, rq_cat, ca_i, ca_l, ca_r]) (ok_X11_post l X hf)
def f_X11_send (h : AH) (a0 : Nat) (a1 : Int32) (a2 : Int32) (a3 : Int32) (a4 : Int32) : Option (AH) :=
  gs h a0 10 <|
  bd (f_X11_blank h a0 a1 a2 a3 a4) fun q2 =>
  gs q2 a0 10 <|
  bd (f_X11_post q2 a0) fun q4 =>
  some q4
set_option maxRecDepth 100000 in
set_option maxHeartbeats 4000000 in
theorem ok_X11_send (l : Launch) (X : Cx) {h : AH} {a0 : Nat} {a1 : Int32} {a2 : Int32} {a3 : Int32} {a4 : Int32} {q : AH} (hf : f_X11_send h a0 a1 a2 a3 a4 = some q) : Go l X k_X11_send 0 [(0, rf X a0), (1, .int a1), (2, .int a2), (3, .int a3), (4, .int a4)] [] h (rV q) := by
  unfold f_X11_send at hf
  refine g_aload_n (pc := 0) 0 dX11_send_0 rfl rfl ?_
  refine g_iload_n (pc := 1) 1 dX11_send_1 rfl rfl ?_
  refine g_iload_n (pc := 2) 2 dX11_send_2 rfl rfl ?_
  refine g_iload_n (pc := 3) 3 dX11_send_3 rfl rfl ?_
  refine g_iload (pc := 4) 4 dX11_send_4 rfl ?_
  obtain ⟨g1, hf⟩ := gs_some hf
  obtain ⟨q2, hcq2, hf⟩ := bd_some hf
  refine g_cVV (pc := 6) (k2 := k_X11_blank) (av := [.int a1, .int a2, .int a3, .int a4]) (q := q2) rfl dX11_send_6 ck_X11_blank m_1827 m_1829 m_86 (ci := 9) rfl (by decide) g1 (by decide) (by decide) rfl (by simp [rf_cat, rq_cat, ca_i, ca_l, ca_r]) (ct_X11_blank l X hcq2) ?_
  refine g_aload_n (pc := 9) 0 dX11_send_9 rfl rfl ?_
  obtain ⟨g3, hf⟩ := gs_some hf
  obtain ⟨q4, hcq4, hf⟩ := bd_some hf
  refine g_cVV (pc := 10) (k2 := k_X11_post) (av := []) (q := q4) rfl dX11_send_10 ck_X11_post m_1835 m_1837 m_88 (ci := 9) rfl (by decide) g3 (by decide) (by decide) rfl (by simp [rf_cat, rq_cat, ca_i, ca_l, ca_r]) (ct_X11_post l X hcq4) ?_
  obtain rfl := Option.some.inj hf
  exact g_vret (pc := 13) rfl dX11_send_13
theorem ct_X11_send (l : Launch) (X : Cx) {h : AH} {a0 : Nat} {a1 : Int32} {a2 : Int32} {a3 : Int32} {a4 : Int32} {q : AH} (hf : f_X11_send h a0 a1 a2 a3 a4 = some q) : Ct l X k_X11_send [rf X a0, .int a1, .int a2, .int a3, .int a4] h (rV q) := ct_of ck_X11_send (by simp [lg_sl, rf_cat, rq_cat, ca_i, ca_l, ca_r]) (by simp [lv_args, rf_cat, rq_cat, ca_i, ca_l, ca_r]) (ok_X11_send l X hf)
def f_X11_leave_L128 (h : AH) (a0 : Nat) (a3 : Int32) : Option (Int32 × AH) :=
  gs h a0 10 <|
  gs h (hR h a0 45) 21 <|
  gb (ib a3 (hN h (hR h a0 45))) <|
  lt (sI h (hR h a0 45) a3.toNatClampNeg (0 : Int32)) fun h4 =>
  some ((1 : Int32), h4)
set_option maxRecDepth 100000 in
set_option maxHeartbeats 4000000 in
theorem ok_X11_leave_L128 (l : Launch) (X : Cx) (h : AH) (a0 : Nat) (a3 : Int32) (q : Int32 × AH) (hf : f_X11_leave_L128 h a0 a3 = some q) : Go l X k_X11_leave 128 [(0, rf X a0), (3, .int a3)] [] h (rI q) := by
  unfold f_X11_leave_L128 at hf
  refine g_aload_n (pc := 128) 0 dX11_leave_128 rfl rfl ?_
  obtain ⟨g1, hf⟩ := gs_some hf
  refine g_getR (pc := 129) fl_X11_108 dX11_leave_129 g1 ?_
  refine g_iload_n (pc := 132) 1 dX11_leave_132 rfl rfl ?_
  refine g_iconst (pc := 133) (v := (0 : Int32)) dX11_leave_133 (by decide) ?_
  obtain ⟨g2, hf⟩ := gs_some hf
  obtain ⟨b3, hf⟩ := gb_some hf
  obtain ⟨h4, eh4, hf⟩ := lt_some hf
  refine g_iast (pc := 134) g2 b3 dX11_leave_134 eh4 ?_
  refine g_iconst (pc := 135) (v := (1 : Int32)) dX11_leave_135 (by decide) ?_
  obtain rfl := Option.some.inj hf
  exact g_zret (pc := 136) rfl rfl dX11_leave_136
def f_X11_leave_L52 (k12 : AH → Nat → Int32 → Int32 → Int32 → Int32 → Option (Int32 × AH)) (h : AH) (a0 : Nat) (a1 : Int32) (a2 : Int32) (a4 : Int32) (s0 : Int32) : Option (Int32 × AH) :=
  lt (a4 + (1 : Int32)) fun x1 =>
  k12 h a0 a1 a2 s0 x1
set_option maxRecDepth 100000 in
set_option maxHeartbeats 4000000 in
theorem ok_X11_leave_L52 (l : Launch) (X : Cx) (k12 : AH → Nat → Int32 → Int32 → Int32 → Int32 → Option (Int32 × AH)) (hk12 : ∀ (h : AH) (a0 : Nat) (a1 : Int32) (a2 : Int32) (a3 : Int32) (a4 : Int32) (q : Int32 × AH), k12 h a0 a1 a2 a3 a4 = some q → Go l X k_X11_leave 12 [(0, rf X a0), (1, .int a1), (2, .int a2), (3, .int a3), (4, .int a4)] [] h (rI q)) (h : AH) (a0 : Nat) (a1 : Int32) (a2 : Int32) (a4 : Int32) (s0 : Int32) (q : Int32 × AH) (hf : f_X11_leave_L52 k12 h a0 a1 a2 a4 s0 = some q) : Go l X k_X11_leave 52 [(0, rf X a0), (1, .int a1), (2, .int a2), (4, .int a4)] [.int s0] h (rI q) := by
  unfold f_X11_leave_L52 at hf
  refine g_istore_n (pc := 52) (L' := [(3, .int s0), (0, rf X a0), (1, .int a1), (2, .int a2), (4, .int a4)]) dX11_leave_52 rfl (by decide) rfl rfl ?_
  obtain ⟨x1, ex1, hf⟩ := lt_some hf
  refine g_iinc (pc := 53) (y := x1) (L' := [(4, .int x1), (3, .int s0), (0, rf X a0), (1, .int a1), (2, .int a2)]) 4 dX11_leave_53 rfl (by decide) (ex1.trans rfl) rfl ?_
  refine g_goto (pc := 56) (tgt := 12) dX11_leave_56 (by decide) ?_
  refine g_sub [2, 3, 4, 1, 0] rfl ?_
  exact hk12 h a0 a1 a2 s0 x1 q hf
def f_X11_leave_L12 : Nat → AH → Nat → Int32 → Int32 → Int32 → Int32 → Option (Int32 × AH)
  | 0, _, _, _, _, _, _ => none
  | n + 1, h, a0, a1, a2, a3, a4 =>
    gs h a0 10 <|
    bd (f_X11_setOf h a0 a1 a2) fun v2 =>
    gs h (hR h a0 21) 21 <|
    gb (ib (3 : Int32) (hN h (hR h a0 21))) <|
    if (v2 + (hI h (hR h a0 21) (3 : Int32).toNatClampNeg)) ≤ a4 then
      gs h (hR h a0 45) 21 <|
      gb (ib a3 (hN h (hR h a0 45))) <|
      if (hI h (hR h a0 45) a3.toNatClampNeg) ≤ (1 : Int32) then
        f_X11_leave_L128 h a0 a3
      else
        gs h (hR h a0 35) 21 <|
        gb (ib a1 (hN h (hR h a0 35))) <|
        if (hI h (hR h a0 35) a1.toNatClampNeg) = (-1 : Int32) then
          gs h (hR h a0 44) 21 <|
          gb (ib a3 (hN h (hR h a0 44))) <|
          gb (ib a1 (hN h (hR h a0 35))) <|
          lt (sI h (hR h a0 35) a1.toNatClampNeg (hI h (hR h a0 44) a3.toNatClampNeg)) fun h15 =>
          gs h15 (hR h15 a0 36) 24 <|
          gb (ib a1 (hN h15 (hR h15 a0 36))) <|
          lt (sI h15 (hR h15 a0 36) a1.toNatClampNeg ((0 : Int32) &&& 1)) fun h19 =>
          gs h19 (hR h19 a0 44) 21 <|
          gb (ib a3 (hN h19 (hR h19 a0 44))) <|
          bd (f_X11_blank h19 a0 (2 : Int32) a1 (16 : Int32) (hI h19 (hR h19 a0 44) a3.toNatClampNeg)) fun q23 =>
          gs q23 a0 10 <|
          gs q23 (hR q23 a0 44) 21 <|
          gb (ib a3 (hN q23 (hR q23 a0 44))) <|
          bd (f_X11_withWords q23 a0 (hI q23 (hR q23 a0 44) a3.toNatClampNeg)) fun q27 =>
          gs q27 a0 10 <|
          bd (f_X11_post q27 a0) fun q29 =>
          f_X11_leave_L128 q29 a0 a3
        else
          some ((0 : Int32), h)
    else
      gs h (hR h a0 46) 21 <|
      gb (ib a4 (hN h (hR h a0 46))) <|
      gb (ib a3 (hN h (hR h a0 46))) <|
      if (hI h (hR h a0 46) a3.toNatClampNeg) ≤ (hI h (hR h a0 46) a4.toNatClampNeg) then
        f_X11_leave_L52 (f_X11_leave_L12 n) h a0 a1 a2 a4 a3
      else
        f_X11_leave_L52 (f_X11_leave_L12 n) h a0 a1 a2 a4 a4
set_option maxRecDepth 100000 in
set_option maxHeartbeats 4000000 in
theorem ok_X11_leave_L12 (l : Launch) (X : Cx) : ∀ (n : Nat) (h : AH) (a0 : Nat) (a1 : Int32) (a2 : Int32) (a3 : Int32) (a4 : Int32) (q : Int32 × AH), f_X11_leave_L12 n h a0 a1 a2 a3 a4 = some q → Go l X k_X11_leave 12 [(0, rf X a0), (1, .int a1), (2, .int a2), (3, .int a3), (4, .int a4)] [] h (rI q) := by
  intro n
  induction n with
  | zero =>
    intro h a0 a1 a2 a3 a4 q hf
    unfold f_X11_leave_L12 at hf
    cases hf
  | succ n ih =>
    intro h a0 a1 a2 a3 a4 q hf
    unfold f_X11_leave_L12 at hf
    refine g_iload (pc := 12) 4 dX11_leave_12 rfl ?_
    refine g_aload_n (pc := 14) 0 dX11_leave_14 rfl rfl ?_
    refine g_iload_n (pc := 15) 1 dX11_leave_15 rfl rfl ?_
    refine g_iload_n (pc := 16) 2 dX11_leave_16 rfl rfl ?_
    obtain ⟨g1, hf⟩ := gs_some hf
    obtain ⟨v2, hcv2, hf⟩ := bd_some hf
    refine g_cVI (pc := 17) (k2 := k_X11_setOf) (av := [.int a1, .int a2]) (q := (v2, h)) rfl dX11_leave_17 ck_X11_setOf m_1811 m_1813 m_82 (ci := 9) rfl (by decide) g1 (by decide) (by decide) rfl (by simp [rf_cat, rq_cat, ca_i, ca_l, ca_r]) (ct_X11_setOf l X hcv2) ?_
    refine g_aload_n (pc := 20) 0 dX11_leave_20 rfl rfl ?_
    refine g_getR (pc := 21) fl_X11_47 dX11_leave_21 g1 ?_
    refine g_iconst (pc := 24) (v := (3 : Int32)) dX11_leave_24 (by decide) ?_
    obtain ⟨g3, hf⟩ := gs_some hf
    obtain ⟨b4, hf⟩ := gb_some hf
    refine g_iald (pc := 25) g3 b4 dX11_leave_25 ?_
    refine g_iadd (pc := 26) dX11_leave_26 ?_
    rcases it_some hf with ⟨c5, hf⟩ | ⟨c5, hf⟩
    · refine g_icge_t (pc := 27) (tgt := 59) dX11_leave_27 (by decide) c5 ?_
      refine g_aload_n (pc := 59) 0 dX11_leave_59 rfl rfl ?_
      refine g_getR (pc := 60) fl_X11_108 dX11_leave_60 g1 ?_
      refine g_iload_n (pc := 63) 3 dX11_leave_63 rfl rfl ?_
      obtain ⟨g6, hf⟩ := gs_some hf
      obtain ⟨b7, hf⟩ := gb_some hf
      refine g_iald (pc := 64) g6 b7 dX11_leave_64 ?_
      refine g_iconst (pc := 65) (v := (1 : Int32)) dX11_leave_65 (by decide) ?_
      rcases it_some hf with ⟨c8, hf⟩ | ⟨c8, hf⟩
      · refine g_icle_t (pc := 66) (tgt := 128) dX11_leave_66 (by decide) c8 ?_
        refine g_sub [0, 3] rfl ?_
        exact ok_X11_leave_L128 l X h a0 a3 q hf
      · refine g_icle_f (pc := 66) (tgt := 128) dX11_leave_66 (by decide) c8 ?_
        refine g_aload_n (pc := 69) 0 dX11_leave_69 rfl rfl ?_
        refine g_getR (pc := 70) fl_X11_89 dX11_leave_70 g1 ?_
        refine g_iload_n (pc := 73) 1 dX11_leave_73 rfl rfl ?_
        obtain ⟨g9, hf⟩ := gs_some hf
        obtain ⟨b10, hf⟩ := gb_some hf
        refine g_iald (pc := 74) g9 b10 dX11_leave_74 ?_
        refine g_iconst (pc := 75) (v := (-1 : Int32)) dX11_leave_75 (by decide) ?_
        rcases it_some hf with ⟨c11, hf⟩ | ⟨c11, hf⟩
        · refine g_iceq_t (pc := 76) (tgt := 81) dX11_leave_76 (by decide) c11 ?_
          refine g_aload_n (pc := 81) 0 dX11_leave_81 rfl rfl ?_
          refine g_getR (pc := 82) fl_X11_89 dX11_leave_82 g1 ?_
          refine g_iload_n (pc := 85) 1 dX11_leave_85 rfl rfl ?_
          refine g_aload_n (pc := 86) 0 dX11_leave_86 rfl rfl ?_
          refine g_getR (pc := 87) fl_X11_105 dX11_leave_87 g1 ?_
          refine g_iload_n (pc := 90) 3 dX11_leave_90 rfl rfl ?_
          obtain ⟨g12, hf⟩ := gs_some hf
          obtain ⟨b13, hf⟩ := gb_some hf
          refine g_iald (pc := 91) g12 b13 dX11_leave_91 ?_
          obtain ⟨b14, hf⟩ := gb_some hf
          obtain ⟨h15, eh15, hf⟩ := lt_some hf
          refine g_iast (pc := 92) g9 b14 dX11_leave_92 eh15 ?_
          refine g_aload_n (pc := 93) 0 dX11_leave_93 rfl rfl ?_
          have g16 : hS h15 a0 = 10 := (hS_tI eh15 g1)
          refine g_getR (pc := 94) fl_X11_92 dX11_leave_94 g16 ?_
          refine g_iload_n (pc := 97) 1 dX11_leave_97 rfl rfl ?_
          refine g_iconst (pc := 98) (v := (0 : Int32)) dX11_leave_98 (by decide) ?_
          obtain ⟨g17, hf⟩ := gs_some hf
          obtain ⟨b18, hf⟩ := gb_some hf
          obtain ⟨h19, eh19, hf⟩ := lt_some hf
          refine g_zast (pc := 99) g17 b18 dX11_leave_99 eh19 ?_
          refine g_aload_n (pc := 100) 0 dX11_leave_100 rfl rfl ?_
          refine g_iconst (pc := 101) (v := (2 : Int32)) dX11_leave_101 (by decide) ?_
          refine g_iload_n (pc := 102) 1 dX11_leave_102 rfl rfl ?_
          refine g_bipush (pc := 103) (v := (16 : Int32)) dX11_leave_103 (by decide) ?_
          refine g_aload_n (pc := 105) 0 dX11_leave_105 rfl rfl ?_
          have g20 : hS h19 a0 = 10 := (hS_tI eh19 g16)
          refine g_getR (pc := 106) fl_X11_105 dX11_leave_106 g20 ?_
          refine g_iload_n (pc := 109) 3 dX11_leave_109 rfl rfl ?_
          obtain ⟨g21, hf⟩ := gs_some hf
          obtain ⟨b22, hf⟩ := gb_some hf
          refine g_iald (pc := 110) g21 b22 dX11_leave_110 ?_
          obtain ⟨q23, hcq23, hf⟩ := bd_some hf
          refine g_cVV (pc := 111) (k2 := k_X11_blank) (av := [.int (2 : Int32), .int a1, .int (16 : Int32), .int (hI h19 (hR h19 a0 44) a3.toNatClampNeg)]) (q := q23) rfl dX11_leave_111 ck_X11_blank m_1827 m_1829 m_86 (ci := 9) rfl (by decide) g20 (by decide) (by decide) rfl (by simp [rf_cat, rq_cat, ca_i, ca_l, ca_r]) (ct_X11_blank l X hcq23) ?_
          refine g_aload_n (pc := 114) 0 dX11_leave_114 rfl rfl ?_
          refine g_aload_n (pc := 115) 0 dX11_leave_115 rfl rfl ?_
          obtain ⟨g24, hf⟩ := gs_some hf
          refine g_getR (pc := 116) fl_X11_105 dX11_leave_116 g24 ?_
          refine g_iload_n (pc := 119) 3 dX11_leave_119 rfl rfl ?_
          obtain ⟨g25, hf⟩ := gs_some hf
          obtain ⟨b26, hf⟩ := gb_some hf
          refine g_iald (pc := 120) g25 b26 dX11_leave_120 ?_
          obtain ⟨q27, hcq27, hf⟩ := bd_some hf
          refine g_cVV (pc := 121) (k2 := k_X11_withWords) (av := [.int (hI q23 (hR q23 a0 44) a3.toNatClampNeg)]) (q := q27) rfl dX11_leave_121 ck_X11_withWords m_1831 m_1833 m_87 (ci := 9) rfl (by decide) g24 (by decide) (by decide) rfl (by simp [rf_cat, rq_cat, ca_i, ca_l, ca_r]) (ct_X11_withWords l X hcq27) ?_
          refine g_aload_n (pc := 124) 0 dX11_leave_124 rfl rfl ?_
          obtain ⟨g28, hf⟩ := gs_some hf
          obtain ⟨q29, hcq29, hf⟩ := bd_some hf
          refine g_cVV (pc := 125) (k2 := k_X11_post) (av := []) (q := q29) rfl dX11_leave_125 ck_X11_post m_1835 m_1837 m_88 (ci := 9) rfl (by decide) g28 (by decide) (by decide) rfl (by simp [rf_cat, rq_cat, ca_i, ca_l, ca_r]) (ct_X11_post l X hcq29) ?_
          refine g_sub [0, 3] rfl ?_
          exact ok_X11_leave_L128 l X q29 a0 a3 q hf
        · refine g_iceq_f (pc := 76) (tgt := 81) dX11_leave_76 (by decide) c11 ?_
          refine g_iconst (pc := 79) (v := (0 : Int32)) dX11_leave_79 (by decide) ?_
          obtain rfl := Option.some.inj hf
          exact g_zret (pc := 80) rfl rfl dX11_leave_80
    · refine g_icge_f (pc := 27) (tgt := 59) dX11_leave_27 (by decide) c5 ?_
      refine g_aload_n (pc := 30) 0 dX11_leave_30 rfl rfl ?_
      refine g_getR (pc := 31) fl_X11_111 dX11_leave_31 g1 ?_
      refine g_iload (pc := 34) 4 dX11_leave_34 rfl ?_
      obtain ⟨g30, hf⟩ := gs_some hf
      obtain ⟨b31, hf⟩ := gb_some hf
      refine g_iald (pc := 36) g30 b31 dX11_leave_36 ?_
      refine g_aload_n (pc := 37) 0 dX11_leave_37 rfl rfl ?_
      refine g_getR (pc := 38) fl_X11_111 dX11_leave_38 g1 ?_
      refine g_iload_n (pc := 41) 3 dX11_leave_41 rfl rfl ?_
      obtain ⟨b32, hf⟩ := gb_some hf
      refine g_iald (pc := 42) g30 b32 dX11_leave_42 ?_
      rcases it_some hf with ⟨c33, hf⟩ | ⟨c33, hf⟩
      · refine g_icge_t (pc := 43) (tgt := 51) dX11_leave_43 (by decide) c33 ?_
        refine g_iload_n (pc := 51) 3 dX11_leave_51 rfl rfl ?_
        refine g_sub [0, 1, 2, 4] rfl ?_
        exact ok_X11_leave_L52 l X (f_X11_leave_L12 n) ih h a0 a1 a2 a4 a3 q hf
      · refine g_icge_f (pc := 43) (tgt := 51) dX11_leave_43 (by decide) c33 ?_
        refine g_iload (pc := 46) 4 dX11_leave_46 rfl ?_
        refine g_goto (pc := 48) (tgt := 52) dX11_leave_48 (by decide) ?_
        refine g_sub [0, 1, 2, 4] rfl ?_
        exact ok_X11_leave_L52 l X (f_X11_leave_L12 n) ih h a0 a1 a2 a4 a4 q hf
def f_X11_leave (h : AH) (a0 : Nat) (a1 : Int32) (a2 : Int32) : Option (Int32 × AH) :=
  gs h a0 10 <|
  bd (f_X11_setOf h a0 a1 a2) fun v2 =>
  lt ((v2 + (1 : Int32))) fun x3 =>
  f_X11_leave_L12 FU h a0 a1 a2 v2 x3
set_option maxRecDepth 100000 in
set_option maxHeartbeats 4000000 in
theorem ok_X11_leave (l : Launch) (X : Cx) {h : AH} {a0 : Nat} {a1 : Int32} {a2 : Int32} {q : Int32 × AH} (hf : f_X11_leave h a0 a1 a2 = some q) : Go l X k_X11_leave 0 [(0, rf X a0), (1, .int a1), (2, .int a2)] [] h (rI q) := by
  unfold f_X11_leave at hf
  refine g_aload_n (pc := 0) 0 dX11_leave_0 rfl rfl ?_
  refine g_iload_n (pc := 1) 1 dX11_leave_1 rfl rfl ?_
  refine g_iload_n (pc := 2) 2 dX11_leave_2 rfl rfl ?_
  obtain ⟨g1, hf⟩ := gs_some hf
  obtain ⟨v2, hcv2, hf⟩ := bd_some hf
  refine g_cVI (pc := 3) (k2 := k_X11_setOf) (av := [.int a1, .int a2]) (q := (v2, h)) rfl dX11_leave_3 ck_X11_setOf m_1811 m_1813 m_82 (ci := 9) rfl (by decide) g1 (by decide) (by decide) rfl (by simp [rf_cat, rq_cat, ca_i, ca_l, ca_r]) (ct_X11_setOf l X hcv2) ?_
  refine g_istore_n (pc := 6) (L' := [(3, .int v2), (0, rf X a0), (1, .int a1), (2, .int a2)]) dX11_leave_6 rfl (by decide) rfl rfl ?_
  refine g_iload_n (pc := 7) 0 dX11_leave_7 rfl rfl ?_
  refine g_iconst (pc := 8) (v := (1 : Int32)) dX11_leave_8 (by decide) ?_
  refine g_iadd (pc := 9) dX11_leave_9 ?_
  obtain ⟨x3, ex3, hf⟩ := lt_some hf
  refine g_istore (pc := 10) (L' := [(4, .int x3), (3, .int v2), (0, rf X a0), (1, .int a1), (2, .int a2)]) dX11_leave_10 (by decide) ex3 rfl ?_
  refine g_sub [2, 3, 4, 1, 0] rfl ?_
  exact ok_X11_leave_L12 l X FU h a0 a1 a2 v2 x3 q hf
theorem ct_X11_leave (l : Launch) (X : Cx) {h : AH} {a0 : Nat} {a1 : Int32} {a2 : Int32} {q : Int32 × AH} (hf : f_X11_leave h a0 a1 a2 = some q) : Ct l X k_X11_leave [rf X a0, .int a1, .int a2] h (rI q) := ct_of ck_X11_leave (by simp [lg_sl, rf_cat, rq_cat, ca_i, ca_l, ca_r]) (by simp [lv_args, rf_cat, rq_cat, ca_i, ca_l, ca_r]) (ok_X11_leave l X hf)
def f_X11_miss_L62 (h : AH) (a0 : Nat) (a1 : Int32) (a2 : Int32) (s0 : Nat) (s1 : Int32) : Option (AH) :=
  gs h s0 10 <|
  bd (f_X11_send h s0 s1 a1 (16 : Int32) a2) fun q2 =>
  gs q2 a0 10 <|
  gs q2 (hR q2 a0 34) 21 <|
  gb (ib a1 (hN q2 (hR q2 a0 34))) <|
  lt (sI q2 (hR q2 a0 34) a1.toNatClampNeg a2) fun h6 =>
  gs h6 (hR h6 a0 29) 21 <|
  gb (ib a1 (hN h6 (hR h6 a0 29))) <|
  gb (ib a1 (hN h6 (hR h6 a0 29))) <|
  lt (sI h6 (hR h6 a0 29) a1.toNatClampNeg ((hI h6 (hR h6 a0 29) a1.toNatClampNeg) + (1 : Int32))) fun h11 =>
  some h11
set_option maxRecDepth 100000 in
set_option maxHeartbeats 4000000 in
theorem ok_X11_miss_L62 (l : Launch) (X : Cx) (h : AH) (a0 : Nat) (a1 : Int32) (a2 : Int32) (s0 : Nat) (s1 : Int32) (q : AH) (hf : f_X11_miss_L62 h a0 a1 a2 s0 s1 = some q) : Go l X k_X11_miss 62 [(0, rf X a0), (1, .int a1), (2, .int a2)] [.int s1, rf X s0] h (rV q) := by
  unfold f_X11_miss_L62 at hf
  refine g_iload_n (pc := 62) 1 dX11_miss_62 rfl rfl ?_
  refine g_bipush (pc := 63) (v := (16 : Int32)) dX11_miss_63 (by decide) ?_
  refine g_iload_n (pc := 65) 2 dX11_miss_65 rfl rfl ?_
  obtain ⟨g1, hf⟩ := gs_some hf
  obtain ⟨q2, hcq2, hf⟩ := bd_some hf
  refine g_cVV (pc := 66) (k2 := k_X11_send) (av := [.int s1, .int a1, .int (16 : Int32), .int a2]) (q := q2) rfl dX11_miss_66 ck_X11_send m_1839 m_1841 m_89 (ci := 9) rfl (by decide) g1 (by decide) (by decide) rfl (by simp [rf_cat, rq_cat, ca_i, ca_l, ca_r]) (ct_X11_send l X hcq2) ?_
  refine g_aload_n (pc := 69) 0 dX11_miss_69 rfl rfl ?_
  obtain ⟨g3, hf⟩ := gs_some hf
  refine g_getR (pc := 70) fl_X11_86 dX11_miss_70 g3 ?_
  refine g_iload_n (pc := 73) 1 dX11_miss_73 rfl rfl ?_
  refine g_iload_n (pc := 74) 2 dX11_miss_74 rfl rfl ?_
  obtain ⟨g4, hf⟩ := gs_some hf
  obtain ⟨b5, hf⟩ := gb_some hf
  obtain ⟨h6, eh6, hf⟩ := lt_some hf
  refine g_iast (pc := 75) g4 b5 dX11_miss_75 eh6 ?_
  refine g_aload_n (pc := 76) 0 dX11_miss_76 rfl rfl ?_
  have g7 : hS h6 a0 = 10 := (hS_tI eh6 g3)
  refine g_getR (pc := 77) fl_X11_71 dX11_miss_77 g7 ?_
  refine g_iload_n (pc := 80) 1 dX11_miss_80 rfl rfl ?_
  refine g_dup2 (pc := 81) dX11_miss_81 rfl (rf_cat X _) ?_
  obtain ⟨g8, hf⟩ := gs_some hf
  obtain ⟨b9, hf⟩ := gb_some hf
  refine g_iald (pc := 82) g8 b9 dX11_miss_82 ?_
  refine g_iconst (pc := 83) (v := (1 : Int32)) dX11_miss_83 (by decide) ?_
  refine g_iadd (pc := 84) dX11_miss_84 ?_
  obtain ⟨b10, hf⟩ := gb_some hf
  obtain ⟨h11, eh11, hf⟩ := lt_some hf
  refine g_iast (pc := 85) g8 b10 dX11_miss_85 eh11 ?_
  obtain rfl := Option.some.inj hf
  exact g_vret (pc := 86) rfl dX11_miss_86
def f_X11_miss_L51 (h : AH) (a0 : Nat) (a1 : Int32) (a2 : Int32) (a3 : Int32) : Option (AH) :=
  if ¬ a3 = (1 : Int32) then
    f_X11_miss_L62 h a0 a1 a2 a0 (1 : Int32)
  else
    f_X11_miss_L62 h a0 a1 a2 a0 (0 : Int32)
set_option maxRecDepth 100000 in
set_option maxHeartbeats 4000000 in
theorem ok_X11_miss_L51 (l : Launch) (X : Cx) (h : AH) (a0 : Nat) (a1 : Int32) (a2 : Int32) (a3 : Int32) (q : AH) (hf : f_X11_miss_L51 h a0 a1 a2 a3 = some q) : Go l X k_X11_miss 51 [(0, rf X a0), (1, .int a1), (2, .int a2), (3, .int a3)] [] h (rV q) := by
  unfold f_X11_miss_L51 at hf
  refine g_aload_n (pc := 51) 0 dX11_miss_51 rfl rfl ?_
  refine g_iload_n (pc := 52) 3 dX11_miss_52 rfl rfl ?_
  refine g_iconst (pc := 53) (v := (1 : Int32)) dX11_miss_53 (by decide) ?_
  rcases it_some hf with ⟨c1, hf⟩ | ⟨c1, hf⟩
  · refine g_icne_t (pc := 54) (tgt := 61) dX11_miss_54 (by decide) c1 ?_
    refine g_iconst (pc := 61) (v := (1 : Int32)) dX11_miss_61 (by decide) ?_
    refine g_sub [0, 1, 2] rfl ?_
    exact ok_X11_miss_L62 l X h a0 a1 a2 a0 (1 : Int32) q hf
  · refine g_icne_f (pc := 54) (tgt := 61) dX11_miss_54 (by decide) (Decidable.of_not_not c1) ?_
    refine g_iconst (pc := 57) (v := (0 : Int32)) dX11_miss_57 (by decide) ?_
    refine g_goto (pc := 58) (tgt := 62) dX11_miss_58 (by decide) ?_
    refine g_sub [0, 1, 2] rfl ?_
    exact ok_X11_miss_L62 l X h a0 a1 a2 a0 (0 : Int32) q hf
def f_X11_miss (h : AH) (a0 : Nat) (a1 : Int32) (a2 : Int32) (a3 : Int32) : Option (AH) :=
  gs h a0 10 <|
  gs h (hR h a0 34) 21 <|
  gb (ib a1 (hN h (hR h a0 34))) <|
  if ¬ (hI h (hR h a0 34) a1.toNatClampNeg) = (-1 : Int32) then
    some h
  else
    gs h (hR h a0 35) 21 <|
    gb (ib a1 (hN h (hR h a0 35))) <|
    if ¬ (hI h (hR h a0 35) a1.toNatClampNeg) = a2 then
      bd (f_X11_wayOf h a0 a1 a2) fun v8 =>
      if ¬ v8 = (-1 : Int32) then
        f_X11_miss_L51 h a0 a1 a2 a3
      else
        bd (f_X11_freeWay h a0 a1 a2) fun v10 =>
        if ¬ v10 = (-1 : Int32) then
          f_X11_miss_L51 h a0 a1 a2 a3
        else
          bd (f_X11_leave h a0 a1 a2) fun q12 =>
          if ¬ q12.1 = 0 then
            f_X11_miss_L51 q12.2 a0 a1 a2 a3
          else
            some q12.2
    else
      some h
set_option maxRecDepth 100000 in
set_option maxHeartbeats 4000000 in
theorem ok_X11_miss (l : Launch) (X : Cx) {h : AH} {a0 : Nat} {a1 : Int32} {a2 : Int32} {a3 : Int32} {q : AH} (hf : f_X11_miss h a0 a1 a2 a3 = some q) : Go l X k_X11_miss 0 [(0, rf X a0), (1, .int a1), (2, .int a2), (3, .int a3)] [] h (rV q) := by
  unfold f_X11_miss at hf
  refine g_aload_n (pc := 0) 0 dX11_miss_0 rfl rfl ?_
  obtain ⟨g1, hf⟩ := gs_some hf
  refine g_getR (pc := 1) fl_X11_86 dX11_miss_1 g1 ?_
  refine g_iload_n (pc := 4) 1 dX11_miss_4 rfl rfl ?_
  obtain ⟨g2, hf⟩ := gs_some hf
  obtain ⟨b3, hf⟩ := gb_some hf
  refine g_iald (pc := 5) g2 b3 dX11_miss_5 ?_
  refine g_iconst (pc := 6) (v := (-1 : Int32)) dX11_miss_6 (by decide) ?_
  rcases it_some hf with ⟨c4, hf⟩ | ⟨c4, hf⟩
  · refine g_icne_t (pc := 7) (tgt := 20) dX11_miss_7 (by decide) c4 ?_
    obtain rfl := Option.some.inj hf
    exact g_vret (pc := 20) rfl dX11_miss_20
  · refine g_icne_f (pc := 7) (tgt := 20) dX11_miss_7 (by decide) (Decidable.of_not_not c4) ?_
    refine g_aload_n (pc := 10) 0 dX11_miss_10 rfl rfl ?_
    refine g_getR (pc := 11) fl_X11_89 dX11_miss_11 g1 ?_
    refine g_iload_n (pc := 14) 1 dX11_miss_14 rfl rfl ?_
    obtain ⟨g5, hf⟩ := gs_some hf
    obtain ⟨b6, hf⟩ := gb_some hf
    refine g_iald (pc := 15) g5 b6 dX11_miss_15 ?_
    refine g_iload_n (pc := 16) 2 dX11_miss_16 rfl rfl ?_
    rcases it_some hf with ⟨c7, hf⟩ | ⟨c7, hf⟩
    · refine g_icne_t (pc := 17) (tgt := 21) dX11_miss_17 (by decide) c7 ?_
      refine g_aload_n (pc := 21) 0 dX11_miss_21 rfl rfl ?_
      refine g_iload_n (pc := 22) 1 dX11_miss_22 rfl rfl ?_
      refine g_iload_n (pc := 23) 2 dX11_miss_23 rfl rfl ?_
      obtain ⟨v8, hcv8, hf⟩ := bd_some hf
      refine g_cVI (pc := 24) (k2 := k_X11_wayOf) (av := [.int a1, .int a2]) (q := (v8, h)) rfl dX11_miss_24 ck_X11_wayOf m_1807 m_1809 m_81 (ci := 9) rfl (by decide) g1 (by decide) (by decide) rfl (by simp [rf_cat, rq_cat, ca_i, ca_l, ca_r]) (ct_X11_wayOf l X hcv8) ?_
      refine g_iconst (pc := 27) (v := (-1 : Int32)) dX11_miss_27 (by decide) ?_
      rcases it_some hf with ⟨c9, hf⟩ | ⟨c9, hf⟩
      · refine g_icne_t (pc := 28) (tgt := 51) dX11_miss_28 (by decide) c9 ?_
        exact ok_X11_miss_L51 l X h a0 a1 a2 a3 q hf
      · refine g_icne_f (pc := 28) (tgt := 51) dX11_miss_28 (by decide) (Decidable.of_not_not c9) ?_
        refine g_aload_n (pc := 31) 0 dX11_miss_31 rfl rfl ?_
        refine g_iload_n (pc := 32) 1 dX11_miss_32 rfl rfl ?_
        refine g_iload_n (pc := 33) 2 dX11_miss_33 rfl rfl ?_
        obtain ⟨v10, hcv10, hf⟩ := bd_some hf
        refine g_cVI (pc := 34) (k2 := k_X11_freeWay) (av := [.int a1, .int a2]) (q := (v10, h)) rfl dX11_miss_34 ck_X11_freeWay m_1819 m_1821 m_84 (ci := 9) rfl (by decide) g1 (by decide) (by decide) rfl (by simp [rf_cat, rq_cat, ca_i, ca_l, ca_r]) (ct_X11_freeWay l X hcv10) ?_
        refine g_iconst (pc := 37) (v := (-1 : Int32)) dX11_miss_37 (by decide) ?_
        rcases it_some hf with ⟨c11, hf⟩ | ⟨c11, hf⟩
        · refine g_icne_t (pc := 38) (tgt := 51) dX11_miss_38 (by decide) c11 ?_
          exact ok_X11_miss_L51 l X h a0 a1 a2 a3 q hf
        · refine g_icne_f (pc := 38) (tgt := 51) dX11_miss_38 (by decide) (Decidable.of_not_not c11) ?_
          refine g_aload_n (pc := 41) 0 dX11_miss_41 rfl rfl ?_
          refine g_iload_n (pc := 42) 1 dX11_miss_42 rfl rfl ?_
          refine g_iload_n (pc := 43) 2 dX11_miss_43 rfl rfl ?_
          obtain ⟨q12, hcq12, hf⟩ := bd_some hf
          refine g_cVI (pc := 44) (k2 := k_X11_leave) (av := [.int a1, .int a2]) (q := q12) rfl dX11_miss_44 ck_X11_leave m_1823 m_1825 m_85 (ci := 9) rfl (by decide) g1 (by decide) (by decide) rfl (by simp [rf_cat, rq_cat, ca_i, ca_l, ca_r]) (ct_X11_leave l X hcq12) ?_
          rcases it_some hf with ⟨c13, hf⟩ | ⟨c13, hf⟩
          · refine g_ifne_t (pc := 47) (tgt := 51) dX11_miss_47 (by decide) c13 ?_
            exact ok_X11_miss_L51 l X q12.2 a0 a1 a2 a3 q hf
          · refine g_ifne_f (pc := 47) (tgt := 51) dX11_miss_47 (by decide) (Decidable.of_not_not c13) ?_
            obtain rfl := Option.some.inj hf
            exact g_vret (pc := 50) rfl dX11_miss_50
    · refine g_icne_f (pc := 17) (tgt := 21) dX11_miss_17 (by decide) (Decidable.of_not_not c7) ?_
      obtain rfl := Option.some.inj hf
      exact g_vret (pc := 20) rfl dX11_miss_20
theorem ct_X11_miss (l : Launch) (X : Cx) {h : AH} {a0 : Nat} {a1 : Int32} {a2 : Int32} {a3 : Int32} {q : AH} (hf : f_X11_miss h a0 a1 a2 a3 = some q) : Ct l X k_X11_miss [rf X a0, .int a1, .int a2, .int a3] h (rV q) := ct_of ck_X11_miss (by simp [lg_sl, rf_cat, rq_cat, ca_i, ca_l, ca_r]) (by simp [lv_args, rf_cat, rq_cat, ca_i, ca_l, ca_r]) (ok_X11_miss l X hf)
def f_X11_maskOf_L31 (h : AH) (k4 : Int32 → Int32 → Int32 → Option (Int32)) (a0 : Int32) (a2 : Int32) (s0 : Int32) (s1 : Int32) : Option (Int32) :=
  lt ((s0 ||| s1)) fun x1 =>
  lt (a2 + (1 : Int32)) fun x2 =>
  k4 a0 x1 x2
set_option maxRecDepth 100000 in
set_option maxHeartbeats 4000000 in
theorem ok_X11_maskOf_L31 (l : Launch) (X : Cx) (h : AH) (k4 : Int32 → Int32 → Int32 → Option (Int32)) (hk4 : ∀ (a0 : Int32) (a1 : Int32) (a2 : Int32) (q : Int32), k4 a0 a1 a2 = some q → Go l X k_X11_maskOf 4 [(0, .int a0), (1, .int a1), (2, .int a2)] [] h (rI (q, h))) (a0 : Int32) (a2 : Int32) (s0 : Int32) (s1 : Int32) (q : Int32) (hf : f_X11_maskOf_L31 h k4 a0 a2 s0 s1 = some q) : Go l X k_X11_maskOf 31 [(0, .int a0), (2, .int a2)] [.int s1, .int s0] h (rI (q, h)) := by
  unfold f_X11_maskOf_L31 at hf
  refine g_ior (pc := 31) dX11_maskOf_31 ?_
  obtain ⟨x1, ex1, hf⟩ := lt_some hf
  refine g_istore_n (pc := 32) (L' := [(1, .int x1), (0, .int a0), (2, .int a2)]) dX11_maskOf_32 rfl (by decide) ex1 rfl ?_
  obtain ⟨x2, ex2, hf⟩ := lt_some hf
  refine g_iinc (pc := 33) (y := x2) (L' := [(2, .int x2), (1, .int x1), (0, .int a0)]) 2 dX11_maskOf_33 rfl (by decide) (ex2.trans rfl) rfl ?_
  refine g_goto (pc := 36) (tgt := 4) dX11_maskOf_36 (by decide) ?_
  refine g_sub [2, 1, 0] rfl ?_
  exact hk4 a0 x1 x2 q hf
def f_X11_maskOf_L4 (h : AH) : Nat → Int32 → Int32 → Int32 → Option (Int32)
  | 0, _, _, _ => none
  | n + 1, a0, a1, a2 =>
    if (4 : Int32) ≤ a2 then
      some a1
    else
      if ¬ ((a0 >>> (a2 &&& 31)) &&& (1 : Int32)) = (1 : Int32) then
        f_X11_maskOf_L31 h (f_X11_maskOf_L4 h n) a0 a2 a1 (0 : Int32)
      else
        f_X11_maskOf_L31 h (f_X11_maskOf_L4 h n) a0 a2 a1 ((255 : Int32) <<< (((8 : Int32) * a2) &&& 31))
set_option maxRecDepth 100000 in
set_option maxHeartbeats 4000000 in
theorem ok_X11_maskOf_L4 (l : Launch) (X : Cx) (h : AH) : ∀ (n : Nat) (a0 : Int32) (a1 : Int32) (a2 : Int32) (q : Int32), f_X11_maskOf_L4 h n a0 a1 a2 = some q → Go l X k_X11_maskOf 4 [(0, .int a0), (1, .int a1), (2, .int a2)] [] h (rI (q, h)) := by
  intro n
  induction n with
  | zero =>
    intro a0 a1 a2 q hf
    unfold f_X11_maskOf_L4 at hf
    cases hf
  | succ n ih =>
    intro a0 a1 a2 q hf
    unfold f_X11_maskOf_L4 at hf
    refine g_iload_n (pc := 4) 2 dX11_maskOf_4 rfl rfl ?_
    refine g_iconst (pc := 5) (v := (4 : Int32)) dX11_maskOf_5 (by decide) ?_
    rcases it_some hf with ⟨c1, hf⟩ | ⟨c1, hf⟩
    · refine g_icge_t (pc := 6) (tgt := 39) dX11_maskOf_6 (by decide) c1 ?_
      refine g_iload_n (pc := 39) 1 dX11_maskOf_39 rfl rfl ?_
      obtain rfl := Option.some.inj hf
      exact g_iret (pc := 40) rfl dX11_maskOf_40
    · refine g_icge_f (pc := 6) (tgt := 39) dX11_maskOf_6 (by decide) c1 ?_
      refine g_iload_n (pc := 9) 1 dX11_maskOf_9 rfl rfl ?_
      refine g_iload_n (pc := 10) 0 dX11_maskOf_10 rfl rfl ?_
      refine g_iload_n (pc := 11) 2 dX11_maskOf_11 rfl rfl ?_
      refine g_ishr (pc := 12) dX11_maskOf_12 ?_
      refine g_iconst (pc := 13) (v := (1 : Int32)) dX11_maskOf_13 (by decide) ?_
      refine g_iand (pc := 14) dX11_maskOf_14 ?_
      refine g_iconst (pc := 15) (v := (1 : Int32)) dX11_maskOf_15 (by decide) ?_
      rcases it_some hf with ⟨c2, hf⟩ | ⟨c2, hf⟩
      · refine g_icne_t (pc := 16) (tgt := 30) dX11_maskOf_16 (by decide) c2 ?_
        refine g_iconst (pc := 30) (v := (0 : Int32)) dX11_maskOf_30 (by decide) ?_
        refine g_sub [0, 2] rfl ?_
        exact ok_X11_maskOf_L31 l X h (f_X11_maskOf_L4 h n) ih a0 a2 a1 (0 : Int32) q hf
      · refine g_icne_f (pc := 16) (tgt := 30) dX11_maskOf_16 (by decide) (Decidable.of_not_not c2) ?_
        refine g_sipush (pc := 19) (v := (255 : Int32)) dX11_maskOf_19 (by decide) ?_
        refine g_bipush (pc := 22) (v := (8 : Int32)) dX11_maskOf_22 (by decide) ?_
        refine g_iload_n (pc := 24) 2 dX11_maskOf_24 rfl rfl ?_
        refine g_imul (pc := 25) dX11_maskOf_25 ?_
        refine g_ishl (pc := 26) dX11_maskOf_26 ?_
        refine g_goto (pc := 27) (tgt := 31) dX11_maskOf_27 (by decide) ?_
        refine g_sub [0, 2] rfl ?_
        exact ok_X11_maskOf_L31 l X h (f_X11_maskOf_L4 h n) ih a0 a2 a1 ((255 : Int32) <<< (((8 : Int32) * a2) &&& 31)) q hf
def f_X11_maskOf (h : AH) (a0 : Int32) : Option (Int32) :=
  lt ((0 : Int32)) fun x1 =>
  lt ((0 : Int32)) fun x2 =>
  f_X11_maskOf_L4 h FU a0 x1 x2
set_option maxRecDepth 100000 in
set_option maxHeartbeats 4000000 in
theorem ok_X11_maskOf (l : Launch) (X : Cx) {h : AH} {a0 : Int32} {q : Int32} (hf : f_X11_maskOf h a0 = some q) : Go l X k_X11_maskOf 0 [(0, .int a0)] [] h (rI (q, h)) := by
  unfold f_X11_maskOf at hf
  refine g_iconst (pc := 0) (v := (0 : Int32)) dX11_maskOf_0 (by decide) ?_
  obtain ⟨x1, ex1, hf⟩ := lt_some hf
  refine g_istore_n (pc := 1) (L' := [(1, .int x1), (0, .int a0)]) dX11_maskOf_1 rfl (by decide) ex1 rfl ?_
  refine g_iconst (pc := 2) (v := (0 : Int32)) dX11_maskOf_2 (by decide) ?_
  obtain ⟨x2, ex2, hf⟩ := lt_some hf
  refine g_istore_n (pc := 3) (L' := [(2, .int x2), (1, .int x1), (0, .int a0)]) dX11_maskOf_3 rfl (by decide) ex2 rfl ?_
  refine g_sub [2, 1, 0] rfl ?_
  exact ok_X11_maskOf_L4 l X h FU a0 x1 x2 q hf
theorem ct_X11_maskOf (l : Launch) (X : Cx) {h : AH} {a0 : Int32} {q : Int32} (hf : f_X11_maskOf h a0 = some q) : Ct l X k_X11_maskOf [.int a0] h (rI (q, h)) := ct_of ck_X11_maskOf (by simp [lg_sl, rf_cat, rq_cat, ca_i, ca_l, ca_r]) (by simp [lv_args, rf_cat, rq_cat, ca_i, ca_l, ca_r]) (ok_X11_maskOf l X hf)
def f_X11_reads_L96 (k24 : AH → Nat → Int32 → Int32 → Int32 → Int32 → Option (Int32 × AH)) (h : AH) (a0 : Nat) (a1 : Int32) (a4 : Int32) (a5 : Int32) (a6 : Int32) : Option (Int32 × AH) :=
  lt (a6 + (-1 : Int32)) fun x1 =>
  k24 h a0 a1 a4 a5 x1
set_option maxRecDepth 100000 in
set_option maxHeartbeats 4000000 in
theorem ok_X11_reads_L96 (l : Launch) (X : Cx) (k24 : AH → Nat → Int32 → Int32 → Int32 → Int32 → Option (Int32 × AH)) (hk24 : ∀ (h : AH) (a0 : Nat) (a1 : Int32) (a4 : Int32) (a5 : Int32) (a6 : Int32) (q : Int32 × AH), k24 h a0 a1 a4 a5 a6 = some q → Go l X k_X11_reads 24 [(0, rf X a0), (1, .int a1), (4, .int a4), (5, .int a5), (6, .int a6)] [] h (rI q)) (h : AH) (a0 : Nat) (a1 : Int32) (a4 : Int32) (a5 : Int32) (a6 : Int32) (q : Int32 × AH) (hf : f_X11_reads_L96 k24 h a0 a1 a4 a5 a6 = some q) : Go l X k_X11_reads 96 [(0, rf X a0), (1, .int a1), (4, .int a4), (5, .int a5), (6, .int a6)] [] h (rI q) := by
  unfold f_X11_reads_L96 at hf
  obtain ⟨x1, ex1, hf⟩ := lt_some hf
  refine g_iinc (pc := 96) (y := x1) (L' := [(6, .int x1), (0, rf X a0), (1, .int a1), (4, .int a4), (5, .int a5)]) 4 dX11_reads_96 rfl (by decide) (ex1.trans rfl) rfl ?_
  refine g_goto (pc := 99) (tgt := 24) dX11_reads_99 (by decide) ?_
  refine g_sub [1, 2, 3, 4, 0] rfl ?_
  exact hk24 h a0 a1 a4 a5 x1 q hf
def f_X11_reads_L24 : Nat → AH → Nat → Int32 → Int32 → Int32 → Int32 → Option (Int32 × AH)
  | 0, _, _, _, _, _, _ => none
  | n + 1, h, a0, a1, a4, a5, a6 =>
    if a6 < 0 then
      if ¬ a5 = 0 then
        gs h a0 10 <|
        bd (f_X11_wayOf h a0 a1 (a4 / (16 : Int32))) fun v4 =>
        if ¬ v4 = (-1 : Int32) then
          bd (f_X11_use h a0 v4) fun q6 =>
          gs q6 a0 10 <|
          gs q6 (hR q6 a0 23) 21 <|
          gb (ib (a4 / (4 : Int32)) (hN q6 (hR q6 a0 23))) <|
          bd (f_X11_maskOf q6 a5) fun v10 =>
          lt (sI q6 a0 77 ((hI q6 a0 77) ||| ((hI q6 (hR q6 a0 23) (a4 / (4 : Int32)).toNatClampNeg) &&& v10))) fun h11 =>
          some ((1 : Int32), h11)
        else
          bd (f_X11_miss h a0 a1 (a4 / (16 : Int32)) (1 : Int32)) fun q12 =>
          some ((0 : Int32), q12)
      else
        some ((1 : Int32), h)
    else
      lt ((((16 : Int32) * a1) + a6)) fun x13 =>
      gs h a0 10 <|
      gs h (hR h a0 31) 21 <|
      gb (ib x13 (hN h (hR h a0 31))) <|
      if (hI h (hR h a0 31) x13.toNatClampNeg) = a4 then
        gs h (hR h a0 32) 21 <|
        gb (ib x13 (hN h (hR h a0 32))) <|
        lt ((a5 &&& (hI h (hR h a0 32) x13.toNatClampNeg))) fun x20 =>
        gs h (hR h a0 33) 21 <|
        gb (ib x13 (hN h (hR h a0 33))) <|
        bd (f_X11_maskOf h x20) fun v23 =>
        lt (sI h a0 77 ((hI h a0 77) ||| ((hI h (hR h a0 33) x13.toNatClampNeg) &&& v23))) fun h24 =>
        lt ((a5 &&& (x20 ^^^ (-1 : Int32)))) fun x25 =>
        f_X11_reads_L96 (f_X11_reads_L24 n) h24 a0 a1 a4 x25 a6
      else
        f_X11_reads_L96 (f_X11_reads_L24 n) h a0 a1 a4 a5 a6
set_option maxRecDepth 100000 in
set_option maxHeartbeats 4000000 in
theorem ok_X11_reads_L24 (l : Launch) (X : Cx) : ∀ (n : Nat) (h : AH) (a0 : Nat) (a1 : Int32) (a4 : Int32) (a5 : Int32) (a6 : Int32) (q : Int32 × AH), f_X11_reads_L24 n h a0 a1 a4 a5 a6 = some q → Go l X k_X11_reads 24 [(0, rf X a0), (1, .int a1), (4, .int a4), (5, .int a5), (6, .int a6)] [] h (rI q) := by
  intro n
  induction n with
  | zero =>
    intro h a0 a1 a4 a5 a6 q hf
    unfold f_X11_reads_L24 at hf
    cases hf
  | succ n ih =>
    intro h a0 a1 a4 a5 a6 q hf
    unfold f_X11_reads_L24 at hf
    refine g_iload (pc := 24) 4 dX11_reads_24 rfl ?_
    rcases it_some hf with ⟨c1, hf⟩ | ⟨c1, hf⟩
    · refine g_iflt_t (pc := 26) (tgt := 102) dX11_reads_26 (by decide) c1 ?_
      refine g_iload (pc := 102) 3 dX11_reads_102 rfl ?_
      rcases it_some hf with ⟨c2, hf⟩ | ⟨c2, hf⟩
      · refine g_ifne_t (pc := 104) (tgt := 109) dX11_reads_104 (by decide) c2 ?_
        refine g_aload_n (pc := 109) 0 dX11_reads_109 rfl rfl ?_
        refine g_iload_n (pc := 110) 1 dX11_reads_110 rfl rfl ?_
        refine g_iload (pc := 111) 2 dX11_reads_111 rfl ?_
        refine g_bipush (pc := 113) (v := (16 : Int32)) dX11_reads_113 (by decide) ?_
        refine g_idiv (pc := 115) (by decide) dX11_reads_115 ?_
        obtain ⟨g3, hf⟩ := gs_some hf
        obtain ⟨v4, hcv4, hf⟩ := bd_some hf
        refine g_cVI (pc := 116) (k2 := k_X11_wayOf) (av := [.int a1, .int (a4 / (16 : Int32))]) (q := (v4, h)) rfl dX11_reads_116 ck_X11_wayOf m_1807 m_1809 m_81 (ci := 9) rfl (by decide) g3 (by decide) (by decide) rfl (by simp [rf_cat, rq_cat, ca_i, ca_l, ca_r]) (ct_X11_wayOf l X hcv4) ?_
        refine g_istore (pc := 119) (L' := [(6, .int v4), (0, rf X a0), (1, .int a1), (4, .int a4), (5, .int a5)]) dX11_reads_119 (by decide) rfl rfl ?_
        refine g_iload (pc := 121) 0 dX11_reads_121 rfl ?_
        refine g_iconst (pc := 123) (v := (-1 : Int32)) dX11_reads_123 (by decide) ?_
        rcases it_some hf with ⟨c5, hf⟩ | ⟨c5, hf⟩
        · refine g_icne_t (pc := 124) (tgt := 140) dX11_reads_124 (by decide) c5 ?_
          refine g_aload_n (pc := 140) 1 dX11_reads_140 rfl rfl ?_
          refine g_iload (pc := 141) 0 dX11_reads_141 rfl ?_
          obtain ⟨q6, hcq6, hf⟩ := bd_some hf
          refine g_cVV (pc := 143) (k2 := k_X11_use) (av := [.int v4]) (q := q6) rfl dX11_reads_143 ck_X11_use m_1843 m_1845 m_90 (ci := 9) rfl (by decide) g3 (by decide) (by decide) rfl (by simp [rf_cat, rq_cat, ca_i, ca_l, ca_r]) (ct_X11_use l X hcq6) ?_
          refine g_aload_n (pc := 146) 1 dX11_reads_146 rfl rfl ?_
          refine g_dup (pc := 147) dX11_reads_147 (rf_cat X _) ?_
          obtain ⟨g7, hf⟩ := gs_some hf
          refine g_getI (pc := 148) fl_X11_554 dX11_reads_148 g7 ?_
          refine g_aload_n (pc := 151) 1 dX11_reads_151 rfl rfl ?_
          refine g_getR (pc := 152) fl_X11_53 dX11_reads_152 g7 ?_
          refine g_iload (pc := 155) 3 dX11_reads_155 rfl ?_
          refine g_iconst (pc := 157) (v := (4 : Int32)) dX11_reads_157 (by decide) ?_
          refine g_idiv (pc := 158) (by decide) dX11_reads_158 ?_
          obtain ⟨g8, hf⟩ := gs_some hf
          obtain ⟨b9, hf⟩ := gb_some hf
          refine g_iald (pc := 159) g8 b9 dX11_reads_159 ?_
          refine g_iload (pc := 160) 4 dX11_reads_160 rfl ?_
          obtain ⟨v10, hcv10, hf⟩ := bd_some hf
          refine g_cSI (pc := 162) (k2 := k_X11_maskOf) (av := [.int a5]) (q := (v10, q6)) rfl dX11_reads_162 ck_X11_maskOf m_1804 m_1805 (by decide) (by decide) rfl (by simp [rf_cat, rq_cat, ca_i, ca_l, ca_r]) (ct_X11_maskOf l X hcv10) ?_
          refine g_iand (pc := 165) dX11_reads_165 ?_
          refine g_ior (pc := 166) dX11_reads_166 ?_
          obtain ⟨h11, eh11, hf⟩ := lt_some hf
          refine g_putI (pc := 167) fl_X11_554 dX11_reads_167 g7 eh11 ?_
          refine g_iconst (pc := 170) (v := (1 : Int32)) dX11_reads_170 (by decide) ?_
          obtain rfl := Option.some.inj hf
          exact g_zret (pc := 171) rfl rfl dX11_reads_171
        · refine g_icne_f (pc := 124) (tgt := 140) dX11_reads_124 (by decide) (Decidable.of_not_not c5) ?_
          refine g_aload_n (pc := 127) 1 dX11_reads_127 rfl rfl ?_
          refine g_iload_n (pc := 128) 2 dX11_reads_128 rfl rfl ?_
          refine g_iload (pc := 129) 3 dX11_reads_129 rfl ?_
          refine g_bipush (pc := 131) (v := (16 : Int32)) dX11_reads_131 (by decide) ?_
          refine g_idiv (pc := 133) (by decide) dX11_reads_133 ?_
          refine g_iconst (pc := 134) (v := (1 : Int32)) dX11_reads_134 (by decide) ?_
          obtain ⟨q12, hcq12, hf⟩ := bd_some hf
          refine g_cVV (pc := 135) (k2 := k_X11_miss) (av := [.int a1, .int (a4 / (16 : Int32)), .int (1 : Int32)]) (q := q12) rfl dX11_reads_135 ck_X11_miss m_1815 m_1817 m_83 (ci := 9) rfl (by decide) g3 (by decide) (by decide) rfl (by simp [rf_cat, rq_cat, ca_i, ca_l, ca_r]) (ct_X11_miss l X hcq12) ?_
          refine g_iconst (pc := 138) (v := (0 : Int32)) dX11_reads_138 (by decide) ?_
          obtain rfl := Option.some.inj hf
          exact g_zret (pc := 139) rfl rfl dX11_reads_139
      · refine g_ifne_f (pc := 104) (tgt := 109) dX11_reads_104 (by decide) (Decidable.of_not_not c2) ?_
        refine g_iconst (pc := 107) (v := (1 : Int32)) dX11_reads_107 (by decide) ?_
        obtain rfl := Option.some.inj hf
        exact g_zret (pc := 108) rfl rfl dX11_reads_108
    · refine g_iflt_f (pc := 26) (tgt := 102) dX11_reads_26 (by decide) c1 ?_
      refine g_bipush (pc := 29) (v := (16 : Int32)) dX11_reads_29 (by decide) ?_
      refine g_iload_n (pc := 31) 1 dX11_reads_31 rfl rfl ?_
      refine g_imul (pc := 32) dX11_reads_32 ?_
      refine g_iload (pc := 33) 4 dX11_reads_33 rfl ?_
      refine g_iadd (pc := 35) dX11_reads_35 ?_
      obtain ⟨x13, ex13, hf⟩ := lt_some hf
      refine g_istore (pc := 36) (L' := [(7, .int x13), (0, rf X a0), (1, .int a1), (4, .int a4), (5, .int a5), (6, .int a6)]) dX11_reads_36 (by decide) ex13 rfl ?_
      refine g_aload_n (pc := 38) 1 dX11_reads_38 rfl rfl ?_
      obtain ⟨g14, hf⟩ := gs_some hf
      refine g_getR (pc := 39) fl_X11_77 dX11_reads_39 g14 ?_
      refine g_iload (pc := 42) 0 dX11_reads_42 rfl ?_
      obtain ⟨g15, hf⟩ := gs_some hf
      obtain ⟨b16, hf⟩ := gb_some hf
      refine g_iald (pc := 44) g15 b16 dX11_reads_44 ?_
      refine g_iload (pc := 45) 3 dX11_reads_45 rfl ?_
      rcases it_some hf with ⟨c17, hf⟩ | ⟨c17, hf⟩
      · refine g_iceq_t (pc := 47) (tgt := 53) dX11_reads_47 (by decide) c17 ?_
        refine g_iload (pc := 53) 4 dX11_reads_53 rfl ?_
        refine g_aload_n (pc := 55) 1 dX11_reads_55 rfl rfl ?_
        refine g_getR (pc := 56) fl_X11_80 dX11_reads_56 g14 ?_
        refine g_iload (pc := 59) 0 dX11_reads_59 rfl ?_
        obtain ⟨g18, hf⟩ := gs_some hf
        obtain ⟨b19, hf⟩ := gb_some hf
        refine g_iald (pc := 61) g18 b19 dX11_reads_61 ?_
        refine g_iand (pc := 62) dX11_reads_62 ?_
        obtain ⟨x20, ex20, hf⟩ := lt_some hf
        refine g_istore (pc := 63) (L' := [(8, .int x20), (7, .int x13), (0, rf X a0), (1, .int a1), (4, .int a4), (5, .int a5), (6, .int a6)]) dX11_reads_63 (by decide) ex20 rfl ?_
        refine g_aload_n (pc := 65) 2 dX11_reads_65 rfl rfl ?_
        refine g_dup (pc := 66) dX11_reads_66 (rf_cat X _) ?_
        refine g_getI (pc := 67) fl_X11_554 dX11_reads_67 g14 ?_
        refine g_aload_n (pc := 70) 2 dX11_reads_70 rfl rfl ?_
        refine g_getR (pc := 71) fl_X11_83 dX11_reads_71 g14 ?_
        refine g_iload (pc := 74) 1 dX11_reads_74 rfl ?_
        obtain ⟨g21, hf⟩ := gs_some hf
        obtain ⟨b22, hf⟩ := gb_some hf
        refine g_iald (pc := 76) g21 b22 dX11_reads_76 ?_
        refine g_iload (pc := 77) 0 dX11_reads_77 rfl ?_
        obtain ⟨v23, hcv23, hf⟩ := bd_some hf
        refine g_cSI (pc := 79) (k2 := k_X11_maskOf) (av := [.int x20]) (q := (v23, h)) rfl dX11_reads_79 ck_X11_maskOf m_1804 m_1805 (by decide) (by decide) rfl (by simp [rf_cat, rq_cat, ca_i, ca_l, ca_r]) (ct_X11_maskOf l X hcv23) ?_
        refine g_iand (pc := 82) dX11_reads_82 ?_
        refine g_ior (pc := 83) dX11_reads_83 ?_
        obtain ⟨h24, eh24, hf⟩ := lt_some hf
        refine g_putI (pc := 84) fl_X11_554 dX11_reads_84 g14 eh24 ?_
        refine g_iload (pc := 87) 5 dX11_reads_87 rfl ?_
        refine g_iload (pc := 89) 0 dX11_reads_89 rfl ?_
        refine g_iconst (pc := 91) (v := (-1 : Int32)) dX11_reads_91 (by decide) ?_
        refine g_ixor (pc := 92) dX11_reads_92 ?_
        refine g_iand (pc := 93) dX11_reads_93 ?_
        obtain ⟨x25, ex25, hf⟩ := lt_some hf
        refine g_istore (pc := 94) (L' := [(5, .int x25), (8, .int x20), (7, .int x13), (0, rf X a0), (1, .int a1), (4, .int a4), (6, .int a6)]) dX11_reads_94 (by decide) ex25 rfl ?_
        refine g_sub [3, 4, 5, 0, 6] rfl ?_
        exact ok_X11_reads_L96 l X (f_X11_reads_L24 n) ih h24 a0 a1 a4 x25 a6 q hf
      · refine g_iceq_f (pc := 47) (tgt := 53) dX11_reads_47 (by decide) c17 ?_
        refine g_goto (pc := 50) (tgt := 96) dX11_reads_50 (by decide) ?_
        refine g_sub [1, 2, 3, 4, 5] rfl ?_
        exact ok_X11_reads_L96 l X (f_X11_reads_L24 n) ih h a0 a1 a4 a5 a6 q hf
def f_X11_reads (h : AH) (a0 : Nat) (a1 : Int32) (a2 : Int32) (a3 : Int32) : Option (Int32 × AH) :=
  lt ((a2 &&& (-4 : Int32))) fun x1 =>
  gs h a0 10 <|
  lt (sI h a0 77 (0 : Int32)) fun h3 =>
  gs h3 (hR h3 a0 30) 21 <|
  gb (ib a1 (hN h3 (hR h3 a0 30))) <|
  lt (((hI h3 (hR h3 a0 30) a1.toNatClampNeg) - (1 : Int32))) fun x7 =>
  f_X11_reads_L24 FU h3 a0 a1 x1 a3 x7
set_option maxRecDepth 100000 in
set_option maxHeartbeats 4000000 in
theorem ok_X11_reads (l : Launch) (X : Cx) {h : AH} {a0 : Nat} {a1 : Int32} {a2 : Int32} {a3 : Int32} {q : Int32 × AH} (hf : f_X11_reads h a0 a1 a2 a3 = some q) : Go l X k_X11_reads 0 [(0, rf X a0), (1, .int a1), (2, .int a2), (3, .int a3)] [] h (rI q) := by
  unfold f_X11_reads at hf
  refine g_iload_n (pc := 0) 2 dX11_reads_0 rfl rfl ?_
  refine g_bipush (pc := 1) (v := (-4 : Int32)) dX11_reads_1 (by decide) ?_
  refine g_iand (pc := 3) dX11_reads_3 ?_
  obtain ⟨x1, ex1, hf⟩ := lt_some hf
  refine g_istore (pc := 4) (L' := [(4, .int x1), (0, rf X a0), (1, .int a1), (2, .int a2), (3, .int a3)]) dX11_reads_4 (by decide) ex1 rfl ?_
  refine g_iload_n (pc := 6) 4 dX11_reads_6 rfl rfl ?_
  refine g_istore (pc := 7) (L' := [(5, .int a3), (4, .int x1), (0, rf X a0), (1, .int a1), (2, .int a2), (3, .int a3)]) dX11_reads_7 (by decide) rfl rfl ?_
  refine g_aload_n (pc := 9) 2 dX11_reads_9 rfl rfl ?_
  refine g_iconst (pc := 10) (v := (0 : Int32)) dX11_reads_10 (by decide) ?_
  obtain ⟨g2, hf⟩ := gs_some hf
  obtain ⟨h3, eh3, hf⟩ := lt_some hf
  refine g_putI (pc := 11) fl_X11_554 dX11_reads_11 g2 eh3 ?_
  refine g_aload_n (pc := 14) 2 dX11_reads_14 rfl rfl ?_
  have g4 : hS h3 a0 = 10 := (hS_tI eh3 g2)
  refine g_getR (pc := 15) fl_X11_74 dX11_reads_15 g4 ?_
  refine g_iload_n (pc := 18) 3 dX11_reads_18 rfl rfl ?_
  obtain ⟨g5, hf⟩ := gs_some hf
  obtain ⟨b6, hf⟩ := gb_some hf
  refine g_iald (pc := 19) g5 b6 dX11_reads_19 ?_
  refine g_iconst (pc := 20) (v := (1 : Int32)) dX11_reads_20 (by decide) ?_
  refine g_isub (pc := 21) dX11_reads_21 ?_
  obtain ⟨x7, ex7, hf⟩ := lt_some hf
  refine g_istore (pc := 22) (L' := [(6, .int x7), (5, .int a3), (4, .int x1), (0, rf X a0), (1, .int a1), (2, .int a2), (3, .int a3)]) dX11_reads_22 (by decide) ex7 rfl ?_
  refine g_sub [3, 4, 2, 1, 0] rfl ?_
  exact ok_X11_reads_L24 l X FU h3 a0 a1 x1 a3 x7 q hf
theorem ct_X11_reads (l : Launch) (X : Cx) {h : AH} {a0 : Nat} {a1 : Int32} {a2 : Int32} {a3 : Int32} {q : Int32 × AH} (hf : f_X11_reads h a0 a1 a2 a3 = some q) : Ct l X k_X11_reads [rf X a0, .int a1, .int a2, .int a3] h (rI q) := ct_of ck_X11_reads (by simp [lg_sl, rf_cat, rq_cat, ca_i, ca_l, ca_r]) (by simp [lv_args, rf_cat, rq_cat, ca_i, ca_l, ca_r]) (ok_X11_reads l X hf)
def f_X11_changes_L25 (h : AH) (a0 : Nat) (a1 : Int32) (a2 : Int32) : Option (Int32 × AH) :=
  gs h a0 10 <|
  bd (f_X11_miss h a0 a1 (a2 / (16 : Int32)) (3 : Int32)) fun q2 =>
  some ((0 : Int32), q2)
set_option maxRecDepth 100000 in
set_option maxHeartbeats 4000000 in
theorem ok_X11_changes_L25 (l : Launch) (X : Cx) (h : AH) (a0 : Nat) (a1 : Int32) (a2 : Int32) (q : Int32 × AH) (hf : f_X11_changes_L25 h a0 a1 a2 = some q) : Go l X k_X11_changes 25 [(0, rf X a0), (1, .int a1), (2, .int a2)] [] h (rI q) := by
  unfold f_X11_changes_L25 at hf
  refine g_aload_n (pc := 25) 0 dX11_changes_25 rfl rfl ?_
  refine g_iload_n (pc := 26) 1 dX11_changes_26 rfl rfl ?_
  refine g_iload_n (pc := 27) 2 dX11_changes_27 rfl rfl ?_
  refine g_bipush (pc := 28) (v := (16 : Int32)) dX11_changes_28 (by decide) ?_
  refine g_idiv (pc := 30) (by decide) dX11_changes_30 ?_
  refine g_iconst (pc := 31) (v := (3 : Int32)) dX11_changes_31 (by decide) ?_
  obtain ⟨g1, hf⟩ := gs_some hf
  obtain ⟨q2, hcq2, hf⟩ := bd_some hf
  refine g_cVV (pc := 32) (k2 := k_X11_miss) (av := [.int a1, .int (a2 / (16 : Int32)), .int (3 : Int32)]) (q := q2) rfl dX11_changes_32 ck_X11_miss m_1815 m_1817 m_83 (ci := 9) rfl (by decide) g1 (by decide) (by decide) rfl (by simp [rf_cat, rq_cat, ca_i, ca_l, ca_r]) (ct_X11_miss l X hcq2) ?_
  refine g_iconst (pc := 35) (v := (0 : Int32)) dX11_changes_35 (by decide) ?_
  obtain rfl := Option.some.inj hf
  exact g_zret (pc := 36) rfl rfl dX11_changes_36
def f_X11_changes (h : AH) (a0 : Nat) (a1 : Int32) (a2 : Int32) : Option (Int32 × AH) :=
  gs h a0 10 <|
  bd (f_X11_wayOf h a0 a1 (a2 / (16 : Int32))) fun v2 =>
  if v2 = (-1 : Int32) then
    f_X11_changes_L25 h a0 a1 a2
  else
    gs h (hR h a0 45) 21 <|
    gb (ib v2 (hN h (hR h a0 45))) <|
    if (2 : Int32) ≤ (hI h (hR h a0 45) v2.toNatClampNeg) then
      bd (f_X11_use h a0 v2) fun q7 =>
      gs q7 a0 10 <|
      gs q7 (hR q7 a0 45) 21 <|
      gb (ib v2 (hN q7 (hR q7 a0 45))) <|
      lt (sI q7 (hR q7 a0 45) v2.toNatClampNeg (3 : Int32)) fun h11 =>
      lt (sI h11 a0 64 ((hI h11 a0 64) + (1 : Int32))) fun h13 =>
      some ((1 : Int32), h13)
    else
      f_X11_changes_L25 h a0 a1 a2
set_option maxRecDepth 100000 in
set_option maxHeartbeats 4000000 in
theorem ok_X11_changes (l : Launch) (X : Cx) {h : AH} {a0 : Nat} {a1 : Int32} {a2 : Int32} {q : Int32 × AH} (hf : f_X11_changes h a0 a1 a2 = some q) : Go l X k_X11_changes 0 [(0, rf X a0), (1, .int a1), (2, .int a2)] [] h (rI q) := by
  unfold f_X11_changes at hf
  refine g_aload_n (pc := 0) 0 dX11_changes_0 rfl rfl ?_
  refine g_iload_n (pc := 1) 1 dX11_changes_1 rfl rfl ?_
  refine g_iload_n (pc := 2) 2 dX11_changes_2 rfl rfl ?_
  refine g_bipush (pc := 3) (v := (16 : Int32)) dX11_changes_3 (by decide) ?_
  refine g_idiv (pc := 5) (by decide) dX11_changes_5 ?_
  obtain ⟨g1, hf⟩ := gs_some hf
  obtain ⟨v2, hcv2, hf⟩ := bd_some hf
  refine g_cVI (pc := 6) (k2 := k_X11_wayOf) (av := [.int a1, .int (a2 / (16 : Int32))]) (q := (v2, h)) rfl dX11_changes_6 ck_X11_wayOf m_1807 m_1809 m_81 (ci := 9) rfl (by decide) g1 (by decide) (by decide) rfl (by simp [rf_cat, rq_cat, ca_i, ca_l, ca_r]) (ct_X11_wayOf l X hcv2) ?_
  refine g_istore_n (pc := 9) (L' := [(3, .int v2), (0, rf X a0), (1, .int a1), (2, .int a2)]) dX11_changes_9 rfl (by decide) rfl rfl ?_
  refine g_iload_n (pc := 10) 0 dX11_changes_10 rfl rfl ?_
  refine g_iconst (pc := 11) (v := (-1 : Int32)) dX11_changes_11 (by decide) ?_
  rcases it_some hf with ⟨c3, hf⟩ | ⟨c3, hf⟩
  · refine g_iceq_t (pc := 12) (tgt := 25) dX11_changes_12 (by decide) c3 ?_
    refine g_sub [1, 2, 3] rfl ?_
    exact ok_X11_changes_L25 l X h a0 a1 a2 q hf
  · refine g_iceq_f (pc := 12) (tgt := 25) dX11_changes_12 (by decide) c3 ?_
    refine g_aload_n (pc := 15) 1 dX11_changes_15 rfl rfl ?_
    refine g_getR (pc := 16) fl_X11_108 dX11_changes_16 g1 ?_
    refine g_iload_n (pc := 19) 0 dX11_changes_19 rfl rfl ?_
    obtain ⟨g4, hf⟩ := gs_some hf
    obtain ⟨b5, hf⟩ := gb_some hf
    refine g_iald (pc := 20) g4 b5 dX11_changes_20 ?_
    refine g_iconst (pc := 21) (v := (2 : Int32)) dX11_changes_21 (by decide) ?_
    rcases it_some hf with ⟨c6, hf⟩ | ⟨c6, hf⟩
    · refine g_icge_t (pc := 22) (tgt := 37) dX11_changes_22 (by decide) c6 ?_
      refine g_aload_n (pc := 37) 1 dX11_changes_37 rfl rfl ?_
      refine g_iload_n (pc := 38) 0 dX11_changes_38 rfl rfl ?_
      obtain ⟨q7, hcq7, hf⟩ := bd_some hf
      refine g_cVV (pc := 39) (k2 := k_X11_use) (av := [.int v2]) (q := q7) rfl dX11_changes_39 ck_X11_use m_1843 m_1845 m_90 (ci := 9) rfl (by decide) g1 (by decide) (by decide) rfl (by simp [rf_cat, rq_cat, ca_i, ca_l, ca_r]) (ct_X11_use l X hcq7) ?_
      refine g_aload_n (pc := 42) 1 dX11_changes_42 rfl rfl ?_
      obtain ⟨g8, hf⟩ := gs_some hf
      refine g_getR (pc := 43) fl_X11_108 dX11_changes_43 g8 ?_
      refine g_iload_n (pc := 46) 0 dX11_changes_46 rfl rfl ?_
      refine g_iconst (pc := 47) (v := (3 : Int32)) dX11_changes_47 (by decide) ?_
      obtain ⟨g9, hf⟩ := gs_some hf
      obtain ⟨b10, hf⟩ := gb_some hf
      obtain ⟨h11, eh11, hf⟩ := lt_some hf
      refine g_iast (pc := 48) g9 b10 dX11_changes_48 eh11 ?_
      refine g_aload_n (pc := 49) 1 dX11_changes_49 rfl rfl ?_
      refine g_dup (pc := 50) dX11_changes_50 (rf_cat X _) ?_
      have g12 : hS h11 a0 = 10 := (hS_tI eh11 g8)
      refine g_getI (pc := 51) fl_X11_325 dX11_changes_51 g12 ?_
      refine g_iconst (pc := 54) (v := (1 : Int32)) dX11_changes_54 (by decide) ?_
      refine g_iadd (pc := 55) dX11_changes_55 ?_
      obtain ⟨h13, eh13, hf⟩ := lt_some hf
      refine g_putI (pc := 56) fl_X11_325 dX11_changes_56 g12 eh13 ?_
      refine g_iconst (pc := 59) (v := (1 : Int32)) dX11_changes_59 (by decide) ?_
      obtain rfl := Option.some.inj hf
      exact g_zret (pc := 60) rfl rfl dX11_changes_60
    · refine g_icge_f (pc := 22) (tgt := 37) dX11_changes_22 (by decide) c6 ?_
      refine g_sub [1, 2, 3] rfl ?_
      exact ok_X11_changes_L25 l X h a0 a1 a2 q hf
theorem ct_X11_changes (l : Launch) (X : Cx) {h : AH} {a0 : Nat} {a1 : Int32} {a2 : Int32} {q : Int32 × AH} (hf : f_X11_changes h a0 a1 a2 = some q) : Ct l X k_X11_changes [rf X a0, .int a1, .int a2] h (rI q) := ct_of ck_X11_changes (by simp [lg_sl, rf_cat, rq_cat, ca_i, ca_l, ca_r]) (by simp [lv_args, rf_cat, rq_cat, ca_i, ca_l, ca_r]) (ok_X11_changes l X hf)
def f_X11_reg (h : AH) (a0 : Nat) (a1 : Int32) (a2 : Int32) : Option (Int32) :=
  gs h a0 10 <|
  gs h (hR h a0 25) 21 <|
  gb (ib (((32 : Int32) * a1) + a2) (hN h (hR h a0 25))) <|
  some (hI h (hR h a0 25) (((32 : Int32) * a1) + a2).toNatClampNeg)
set_option maxRecDepth 100000 in
set_option maxHeartbeats 4000000 in
theorem ok_X11_reg (l : Launch) (X : Cx) {h : AH} {a0 : Nat} {a1 : Int32} {a2 : Int32} {q : Int32} (hf : f_X11_reg h a0 a1 a2 = some q) : Go l X k_X11_reg 0 [(0, rf X a0), (1, .int a1), (2, .int a2)] [] h (rI (q, h)) := by
  unfold f_X11_reg at hf
  refine g_aload_n (pc := 0) 0 dX11_reg_0 rfl rfl ?_
  obtain ⟨g1, hf⟩ := gs_some hf
  refine g_getR (pc := 1) fl_X11_59 dX11_reg_1 g1 ?_
  refine g_bipush (pc := 4) (v := (32 : Int32)) dX11_reg_4 (by decide) ?_
  refine g_iload_n (pc := 6) 1 dX11_reg_6 rfl rfl ?_
  refine g_imul (pc := 7) dX11_reg_7 ?_
  refine g_iload_n (pc := 8) 2 dX11_reg_8 rfl rfl ?_
  refine g_iadd (pc := 9) dX11_reg_9 ?_
  obtain ⟨g2, hf⟩ := gs_some hf
  obtain ⟨b3, hf⟩ := gb_some hf
  refine g_iald (pc := 10) g2 b3 dX11_reg_10 ?_
  obtain rfl := Option.some.inj hf
  exact g_iret (pc := 11) rfl dX11_reg_11
theorem ct_X11_reg (l : Launch) (X : Cx) {h : AH} {a0 : Nat} {a1 : Int32} {a2 : Int32} {q : Int32} (hf : f_X11_reg h a0 a1 a2 = some q) : Ct l X k_X11_reg [rf X a0, .int a1, .int a2] h (rI (q, h)) := ct_of ck_X11_reg (by simp [lg_sl, rf_cat, rq_cat, ca_i, ca_l, ca_r]) (by simp [lv_args, rf_cat, rq_cat, ca_i, ca_l, ca_r]) (ok_X11_reg l X hf)
def f_X11_setReg (h : AH) (a0 : Nat) (a1 : Int32) (a2 : Int32) (a3 : Int32) : Option (AH) :=
  if a2 ≤ 0 then
    some h
  else
    gs h a0 10 <|
    gs h (hR h a0 25) 21 <|
    gb (ib (((32 : Int32) * a1) + a2) (hN h (hR h a0 25))) <|
    lt (sI h (hR h a0 25) (((32 : Int32) * a1) + a2).toNatClampNeg a3) fun h5 =>
    some h5
set_option maxRecDepth 100000 in
set_option maxHeartbeats 4000000 in
theorem ok_X11_setReg (l : Launch) (X : Cx) {h : AH} {a0 : Nat} {a1 : Int32} {a2 : Int32} {a3 : Int32} {q : AH} (hf : f_X11_setReg h a0 a1 a2 a3 = some q) : Go l X k_X11_setReg 0 [(0, rf X a0), (1, .int a1), (2, .int a2), (3, .int a3)] [] h (rV q) := by
  unfold f_X11_setReg at hf
  refine g_iload_n (pc := 0) 2 dX11_setReg_0 rfl rfl ?_
  rcases it_some hf with ⟨c1, hf⟩ | ⟨c1, hf⟩
  · refine g_ifle_t (pc := 1) (tgt := 16) dX11_setReg_1 (by decide) c1 ?_
    obtain rfl := Option.some.inj hf
    exact g_vret (pc := 16) rfl dX11_setReg_16
  · refine g_ifle_f (pc := 1) (tgt := 16) dX11_setReg_1 (by decide) c1 ?_
    refine g_aload_n (pc := 4) 0 dX11_setReg_4 rfl rfl ?_
    obtain ⟨g2, hf⟩ := gs_some hf
    refine g_getR (pc := 5) fl_X11_59 dX11_setReg_5 g2 ?_
    refine g_bipush (pc := 8) (v := (32 : Int32)) dX11_setReg_8 (by decide) ?_
    refine g_iload_n (pc := 10) 1 dX11_setReg_10 rfl rfl ?_
    refine g_imul (pc := 11) dX11_setReg_11 ?_
    refine g_iload_n (pc := 12) 2 dX11_setReg_12 rfl rfl ?_
    refine g_iadd (pc := 13) dX11_setReg_13 ?_
    refine g_iload_n (pc := 14) 3 dX11_setReg_14 rfl rfl ?_
    obtain ⟨g3, hf⟩ := gs_some hf
    obtain ⟨b4, hf⟩ := gb_some hf
    obtain ⟨h5, eh5, hf⟩ := lt_some hf
    refine g_iast (pc := 15) g3 b4 dX11_setReg_15 eh5 ?_
    obtain rfl := Option.some.inj hf
    exact g_vret (pc := 16) rfl dX11_setReg_16
theorem ct_X11_setReg (l : Launch) (X : Cx) {h : AH} {a0 : Nat} {a1 : Int32} {a2 : Int32} {a3 : Int32} {q : AH} (hf : f_X11_setReg h a0 a1 a2 a3 = some q) : Ct l X k_X11_setReg [rf X a0, .int a1, .int a2, .int a3] h (rV q) := ct_of ck_X11_setReg (by simp [lg_sl, rf_cat, rq_cat, ca_i, ca_l, ca_r]) (by simp [lv_args, rf_cat, rq_cat, ca_i, ca_l, ca_r]) (ok_X11_setReg l X hf)
def f_X11_retire_L95 (h : AH) (a0 : Nat) (a1 : Int32) (a2 : Int32) (a3 : Int32) : Option (Int32 × AH) :=
  gs h a0 10 <|
  gs h (hR h a0 39) 21 <|
  gb (ib (a3 + (6 : Int32)) (hN h (hR h a0 39))) <|
  lt (sI h (hR h a0 39) (a3 + (6 : Int32)).toNatClampNeg (hI h a0 43)) fun h4 =>
  gs h4 (hR h4 a0 26) 21 <|
  gb (ib a1 (hN h4 (hR h4 a0 26))) <|
  lt (sI h4 (hR h4 a0 26) a1.toNatClampNeg (a2 &&& (8191 : Int32))) fun h8 =>
  gs h8 (hR h8 a0 28) 21 <|
  gb (ib a1 (hN h8 (hR h8 a0 28))) <|
  gb (ib a1 (hN h8 (hR h8 a0 28))) <|
  lt (sI h8 (hR h8 a0 28) a1.toNatClampNeg ((hI h8 (hR h8 a0 28) a1.toNatClampNeg) + (1 : Int32))) fun h13 =>
  gs h13 (hR h13 a0 37) 21 <|
  gb (ib a1 (hN h13 (hR h13 a0 37))) <|
  lt (sI h13 (hR h13 a0 37) a1.toNatClampNeg (0 : Int32)) fun h17 =>
  lt (sI h17 a0 62 ((hI h17 a0 62) + (1 : Int32))) fun h19 =>
  some ((1 : Int32), h19)
set_option maxRecDepth 100000 in
set_option maxHeartbeats 4000000 in
theorem ok_X11_retire_L95 (l : Launch) (X : Cx) (h : AH) (a0 : Nat) (a1 : Int32) (a2 : Int32) (a3 : Int32) (q : Int32 × AH) (hf : f_X11_retire_L95 h a0 a1 a2 a3 = some q) : Go l X k_X11_retire 95 [(0, rf X a0), (1, .int a1), (2, .int a2), (3, .int a3)] [] h (rI q) := by
  unfold f_X11_retire_L95 at hf
  refine g_aload_n (pc := 95) 0 dX11_retire_95 rfl rfl ?_
  obtain ⟨g1, hf⟩ := gs_some hf
  refine g_getR (pc := 96) fl_X11_102 dX11_retire_96 g1 ?_
  refine g_iload_n (pc := 99) 3 dX11_retire_99 rfl rfl ?_
  refine g_bipush (pc := 100) (v := (6 : Int32)) dX11_retire_100 (by decide) ?_
  refine g_iadd (pc := 102) dX11_retire_102 ?_
  refine g_aload_n (pc := 103) 0 dX11_retire_103 rfl rfl ?_
  refine g_getI (pc := 104) fl_X11_582 dX11_retire_104 g1 ?_
  obtain ⟨g2, hf⟩ := gs_some hf
  obtain ⟨b3, hf⟩ := gb_some hf
  obtain ⟨h4, eh4, hf⟩ := lt_some hf
  refine g_iast (pc := 107) g2 b3 dX11_retire_107 eh4 ?_
  refine g_aload_n (pc := 108) 0 dX11_retire_108 rfl rfl ?_
  have g5 : hS h4 a0 = 10 := (hS_tI eh4 g1)
  refine g_getR (pc := 109) fl_X11_62 dX11_retire_109 g5 ?_
  refine g_iload_n (pc := 112) 1 dX11_retire_112 rfl rfl ?_
  refine g_iload_n (pc := 113) 2 dX11_retire_113 rfl rfl ?_
  refine g_sipush (pc := 114) (v := (8191 : Int32)) dX11_retire_114 (by decide) ?_
  refine g_iand (pc := 117) dX11_retire_117 ?_
  obtain ⟨g6, hf⟩ := gs_some hf
  obtain ⟨b7, hf⟩ := gb_some hf
  obtain ⟨h8, eh8, hf⟩ := lt_some hf
  refine g_iast (pc := 118) g6 b7 dX11_retire_118 eh8 ?_
  refine g_aload_n (pc := 119) 0 dX11_retire_119 rfl rfl ?_
  have g9 : hS h8 a0 = 10 := (hS_tI eh8 g5)
  refine g_getR (pc := 120) fl_X11_68 dX11_retire_120 g9 ?_
  refine g_iload_n (pc := 123) 1 dX11_retire_123 rfl rfl ?_
  refine g_dup2 (pc := 124) dX11_retire_124 rfl (rf_cat X _) ?_
  obtain ⟨g10, hf⟩ := gs_some hf
  obtain ⟨b11, hf⟩ := gb_some hf
  refine g_iald (pc := 125) g10 b11 dX11_retire_125 ?_
  refine g_iconst (pc := 126) (v := (1 : Int32)) dX11_retire_126 (by decide) ?_
  refine g_iadd (pc := 127) dX11_retire_127 ?_
  obtain ⟨b12, hf⟩ := gb_some hf
  obtain ⟨h13, eh13, hf⟩ := lt_some hf
  refine g_iast (pc := 128) g10 b12 dX11_retire_128 eh13 ?_
  refine g_aload_n (pc := 129) 0 dX11_retire_129 rfl rfl ?_
  have g14 : hS h13 a0 = 10 := (hS_tI eh13 g9)
  refine g_getR (pc := 130) fl_X11_96 dX11_retire_130 g14 ?_
  refine g_iload_n (pc := 133) 1 dX11_retire_133 rfl rfl ?_
  refine g_iconst (pc := 134) (v := (0 : Int32)) dX11_retire_134 (by decide) ?_
  obtain ⟨g15, hf⟩ := gs_some hf
  obtain ⟨b16, hf⟩ := gb_some hf
  obtain ⟨h17, eh17, hf⟩ := lt_some hf
  refine g_iast (pc := 135) g15 b16 dX11_retire_135 eh17 ?_
  refine g_aload_n (pc := 136) 0 dX11_retire_136 rfl rfl ?_
  refine g_dup (pc := 137) dX11_retire_137 (rf_cat X _) ?_
  have g18 : hS h17 a0 = 10 := (hS_tI eh17 g14)
  refine g_getI (pc := 138) fl_X11_319 dX11_retire_138 g18 ?_
  refine g_iconst (pc := 141) (v := (1 : Int32)) dX11_retire_141 (by decide) ?_
  refine g_iadd (pc := 142) dX11_retire_142 ?_
  obtain ⟨h19, eh19, hf⟩ := lt_some hf
  refine g_putI (pc := 143) fl_X11_319 dX11_retire_143 g18 eh19 ?_
  refine g_iconst (pc := 146) (v := (1 : Int32)) dX11_retire_146 (by decide) ?_
  obtain rfl := Option.some.inj hf
  exact g_iret (pc := 147) rfl dX11_retire_147
def f_X11_retire (h : AH) (a0 : Nat) (a1 : Int32) (a2 : Int32) : Option (Int32 × AH) :=
  gs h a0 10 <|
  gs h (hR h a0 28) 21 <|
  gb (ib a1 (hN h (hR h a0 28))) <|
  lt (((7 : Int32) * (((32 : Int32) * a1) + ((hI h (hR h a0 28) a1.toNatClampNeg) - (hI h (hR h a0 28) a1.toNatClampNeg) / (32 : Int32) * (32 : Int32))))) fun x4 =>
  gs h (hR h a0 26) 21 <|
  gb (ib a1 (hN h (hR h a0 26))) <|
  gs h (hR h a0 39) 21 <|
  gb (ib x4 (hN h (hR h a0 39))) <|
  lt (sI h (hR h a0 39) x4.toNatClampNeg (hI h (hR h a0 26) a1.toNatClampNeg)) fun h9 =>
  gs h9 (hR h9 a0 39) 21 <|
  gb (ib (x4 + (1 : Int32)) (hN h9 (hR h9 a0 39))) <|
  lt (sI h9 (hR h9 a0 39) (x4 + (1 : Int32)).toNatClampNeg (hI h9 a0 78)) fun h13 =>
  gs h13 (hR h13 a0 39) 21 <|
  gb (ib (x4 + (2 : Int32)) (hN h13 (hR h13 a0 39))) <|
  lt (sI h13 (hR h13 a0 39) (x4 + (2 : Int32)).toNatClampNeg (hI h13 a0 40)) fun h17 =>
  bd (f_X11_reg h17 a0 a1 (hI h17 a0 40)) fun v19 =>
  gs h17 (hR h17 a0 39) 21 <|
  gb (ib (x4 + (3 : Int32)) (hN h17 (hR h17 a0 39))) <|
  lt (sI h17 (hR h17 a0 39) (x4 + (3 : Int32)).toNatClampNeg v19) fun h22 =>
  gs h22 (hR h22 a0 39) 21 <|
  gb (ib (x4 + (4 : Int32)) (hN h22 (hR h22 a0 39))) <|
  lt (sI h22 (hR h22 a0 39) (x4 + (4 : Int32)).toNatClampNeg (hI h22 a0 41)) fun h26 =>
  gs h26 (hR h26 a0 39) 21 <|
  gb (ib (x4 + (5 : Int32)) (hN h26 (hR h26 a0 39))) <|
  lt (sI h26 (hR h26 a0 39) (x4 + (5 : Int32)).toNatClampNeg (hI h26 a0 42)) fun h30 =>
  f_X11_retire_L95 h30 a0 a1 a2 x4
set_option maxRecDepth 100000 in
set_option maxHeartbeats 4000000 in
theorem ok_X11_retire (l : Launch) (X : Cx) {h : AH} {a0 : Nat} {a1 : Int32} {a2 : Int32} {q : Int32 × AH} (hf : f_X11_retire h a0 a1 a2 = some q) : Go l X k_X11_retire 0 [(0, rf X a0), (1, .int a1), (2, .int a2)] [] h (rI q) := by
  unfold f_X11_retire at hf
  refine g_bipush (pc := 0) (v := (7 : Int32)) dX11_retire_0 (by decide) ?_
  refine g_bipush (pc := 2) (v := (32 : Int32)) dX11_retire_2 (by decide) ?_
  refine g_iload_n (pc := 4) 1 dX11_retire_4 rfl rfl ?_
  refine g_imul (pc := 5) dX11_retire_5 ?_
  refine g_aload_n (pc := 6) 0 dX11_retire_6 rfl rfl ?_
  obtain ⟨g1, hf⟩ := gs_some hf
  refine g_getR (pc := 7) fl_X11_68 dX11_retire_7 g1 ?_
  refine g_iload_n (pc := 10) 1 dX11_retire_10 rfl rfl ?_
  obtain ⟨g2, hf⟩ := gs_some hf
  obtain ⟨b3, hf⟩ := gb_some hf
  refine g_iald (pc := 11) g2 b3 dX11_retire_11 ?_
  refine g_bipush (pc := 12) (v := (32 : Int32)) dX11_retire_12 (by decide) ?_
  refine g_irem (pc := 14) (by decide) dX11_retire_14 ?_
  refine g_iadd (pc := 15) dX11_retire_15 ?_
  refine g_imul (pc := 16) dX11_retire_16 ?_
  obtain ⟨x4, ex4, hf⟩ := lt_some hf
  refine g_istore_n (pc := 17) (L' := [(3, .int x4), (0, rf X a0), (1, .int a1), (2, .int a2)]) dX11_retire_17 rfl (by decide) ex4 rfl ?_
  refine g_aload_n (pc := 18) 1 dX11_retire_18 rfl rfl ?_
  refine g_getR (pc := 19) fl_X11_102 dX11_retire_19 g1 ?_
  refine g_iload_n (pc := 22) 0 dX11_retire_22 rfl rfl ?_
  refine g_aload_n (pc := 23) 1 dX11_retire_23 rfl rfl ?_
  refine g_getR (pc := 24) fl_X11_62 dX11_retire_24 g1 ?_
  refine g_iload_n (pc := 27) 2 dX11_retire_27 rfl rfl ?_
  obtain ⟨g5, hf⟩ := gs_some hf
  obtain ⟨b6, hf⟩ := gb_some hf
  refine g_iald (pc := 28) g5 b6 dX11_retire_28 ?_
  obtain ⟨g7, hf⟩ := gs_some hf
  obtain ⟨b8, hf⟩ := gb_some hf
  obtain ⟨h9, eh9, hf⟩ := lt_some hf
  refine g_iast (pc := 29) g7 b8 dX11_retire_29 eh9 ?_
  refine g_aload_n (pc := 30) 1 dX11_retire_30 rfl rfl ?_
  have g10 : hS h9 a0 = 10 := (hS_tI eh9 g1)
  refine g_getR (pc := 31) fl_X11_102 dX11_retire_31 g10 ?_
  refine g_iload_n (pc := 34) 0 dX11_retire_34 rfl rfl ?_
  refine g_iconst (pc := 35) (v := (1 : Int32)) dX11_retire_35 (by decide) ?_
  refine g_iadd (pc := 36) dX11_retire_36 ?_
  refine g_aload_n (pc := 37) 1 dX11_retire_37 rfl rfl ?_
  refine g_getI (pc := 38) fl_X11_567 dX11_retire_38 g10 ?_
  obtain ⟨g11, hf⟩ := gs_some hf
  obtain ⟨b12, hf⟩ := gb_some hf
  obtain ⟨h13, eh13, hf⟩ := lt_some hf
  refine g_iast (pc := 41) g11 b12 dX11_retire_41 eh13 ?_
  refine g_aload_n (pc := 42) 1 dX11_retire_42 rfl rfl ?_
  have g14 : hS h13 a0 = 10 := (hS_tI eh13 g10)
  refine g_getR (pc := 43) fl_X11_102 dX11_retire_43 g14 ?_
  refine g_iload_n (pc := 46) 0 dX11_retire_46 rfl rfl ?_
  refine g_iconst (pc := 47) (v := (2 : Int32)) dX11_retire_47 (by decide) ?_
  refine g_iadd (pc := 48) dX11_retire_48 ?_
  refine g_aload_n (pc := 49) 1 dX11_retire_49 rfl rfl ?_
  refine g_getI (pc := 50) fl_X11_570 dX11_retire_50 g14 ?_
  obtain ⟨g15, hf⟩ := gs_some hf
  obtain ⟨b16, hf⟩ := gb_some hf
  obtain ⟨h17, eh17, hf⟩ := lt_some hf
  refine g_iast (pc := 53) g15 b16 dX11_retire_53 eh17 ?_
  refine g_aload_n (pc := 54) 1 dX11_retire_54 rfl rfl ?_
  have g18 : hS h17 a0 = 10 := (hS_tI eh17 g14)
  refine g_getR (pc := 55) fl_X11_102 dX11_retire_55 g18 ?_
  refine g_iload_n (pc := 58) 0 dX11_retire_58 rfl rfl ?_
  refine g_iconst (pc := 59) (v := (3 : Int32)) dX11_retire_59 (by decide) ?_
  refine g_iadd (pc := 60) dX11_retire_60 ?_
  refine g_aload_n (pc := 61) 1 dX11_retire_61 rfl rfl ?_
  refine g_iload_n (pc := 62) 2 dX11_retire_62 rfl rfl ?_
  refine g_aload_n (pc := 63) 1 dX11_retire_63 rfl rfl ?_
  refine g_getI (pc := 64) fl_X11_570 dX11_retire_64 g18 ?_
  obtain ⟨v19, hcv19, hf⟩ := bd_some hf
  refine g_cVI (pc := 67) (k2 := k_X11_reg) (av := [.int a1, .int (hI h17 a0 40)]) (q := (v19, h17)) rfl dX11_retire_67 ck_X11_reg m_1847 m_1849 m_91 (ci := 9) rfl (by decide) g18 (by decide) (by decide) rfl (by simp [rf_cat, rq_cat, ca_i, ca_l, ca_r]) (ct_X11_reg l X hcv19) ?_
  obtain ⟨g20, hf⟩ := gs_some hf
  obtain ⟨b21, hf⟩ := gb_some hf
  obtain ⟨h22, eh22, hf⟩ := lt_some hf
  refine g_iast (pc := 70) g20 b21 dX11_retire_70 eh22 ?_
  refine g_aload_n (pc := 71) 1 dX11_retire_71 rfl rfl ?_
  have g23 : hS h22 a0 = 10 := (hS_tI eh22 g18)
  refine g_getR (pc := 72) fl_X11_102 dX11_retire_72 g23 ?_
  refine g_iload_n (pc := 75) 0 dX11_retire_75 rfl rfl ?_
  refine g_iconst (pc := 76) (v := (4 : Int32)) dX11_retire_76 (by decide) ?_
  refine g_iadd (pc := 77) dX11_retire_77 ?_
  refine g_aload_n (pc := 78) 1 dX11_retire_78 rfl rfl ?_
  refine g_getI (pc := 79) fl_X11_576 dX11_retire_79 g23 ?_
  obtain ⟨g24, hf⟩ := gs_some hf
  obtain ⟨b25, hf⟩ := gb_some hf
  obtain ⟨h26, eh26, hf⟩ := lt_some hf
  refine g_iast (pc := 82) g24 b25 dX11_retire_82 eh26 ?_
  refine g_aload_n (pc := 83) 1 dX11_retire_83 rfl rfl ?_
  have g27 : hS h26 a0 = 10 := (hS_tI eh26 g23)
  refine g_getR (pc := 84) fl_X11_102 dX11_retire_84 g27 ?_
  refine g_iload_n (pc := 87) 0 dX11_retire_87 rfl rfl ?_
  refine g_iconst (pc := 88) (v := (5 : Int32)) dX11_retire_88 (by decide) ?_
  refine g_iadd (pc := 89) dX11_retire_89 ?_
  refine g_aload_n (pc := 90) 1 dX11_retire_90 rfl rfl ?_
  refine g_getI (pc := 91) fl_X11_579 dX11_retire_91 g27 ?_
  obtain ⟨g28, hf⟩ := gs_some hf
  obtain ⟨b29, hf⟩ := gb_some hf
  obtain ⟨h30, eh30, hf⟩ := lt_some hf
  refine g_iast (pc := 94) g28 b29 dX11_retire_94 eh30 ?_
  refine g_sub [1, 2, 3, 0] rfl ?_
  exact ok_X11_retire_L95 l X h30 a0 a1 a2 x4 q hf
theorem ct_X11_retire (l : Launch) (X : Cx) {h : AH} {a0 : Nat} {a1 : Int32} {a2 : Int32} {q : Int32 × AH} (hf : f_X11_retire h a0 a1 a2 = some q) : Ct l X k_X11_retire [rf X a0, .int a1, .int a2] h (rI q) := ct_of ck_X11_retire (by simp [lg_sl, rf_cat, rq_cat, ca_i, ca_l, ca_r]) (by simp [lv_args, rf_cat, rq_cat, ca_i, ca_l, ca_r]) (ok_X11_retire l X hf)
def f_X11_stops (h : AH) (a0 : Nat) (a1 : Int32) (a2 : Int32) : Option (Int32 × AH) :=
  gs h a0 10 <|
  gs h (hR h a0 27) 21 <|
  gb (ib a1 (hN h (hR h a0 27))) <|
  lt (sI h (hR h a0 27) a1.toNatClampNeg a2) fun h4 =>
  lt (sI h4 a0 40 (0 : Int32)) fun h6 =>
  lt (sI h6 a0 41 (-1 : Int32)) fun h8 =>
  gs h8 (hR h8 a0 26) 21 <|
  gb (ib a1 (hN h8 (hR h8 a0 26))) <|
  bd (f_X11_retire h8 a0 a1 (hI h8 (hR h8 a0 26) a1.toNatClampNeg)) fun q12 =>
  some (q12.1, q12.2)
set_option maxRecDepth 100000 in
set_option maxHeartbeats 4000000 in
theorem ok_X11_stops (l : Launch) (X : Cx) {h : AH} {a0 : Nat} {a1 : Int32} {a2 : Int32} {q : Int32 × AH} (hf : f_X11_stops h a0 a1 a2 = some q) : Go l X k_X11_stops 0 [(0, rf X a0), (1, .int a1), (2, .int a2)] [] h (rI q) := by
  unfold f_X11_stops at hf
  refine g_aload_n (pc := 0) 0 dX11_stops_0 rfl rfl ?_
  obtain ⟨g1, hf⟩ := gs_some hf
  refine g_getR (pc := 1) fl_X11_65 dX11_stops_1 g1 ?_
  refine g_iload_n (pc := 4) 1 dX11_stops_4 rfl rfl ?_
  refine g_iload_n (pc := 5) 2 dX11_stops_5 rfl rfl ?_
  obtain ⟨g2, hf⟩ := gs_some hf
  obtain ⟨b3, hf⟩ := gb_some hf
  obtain ⟨h4, eh4, hf⟩ := lt_some hf
  refine g_iast (pc := 6) g2 b3 dX11_stops_6 eh4 ?_
  refine g_aload_n (pc := 7) 0 dX11_stops_7 rfl rfl ?_
  refine g_iconst (pc := 8) (v := (0 : Int32)) dX11_stops_8 (by decide) ?_
  have g5 : hS h4 a0 = 10 := (hS_tI eh4 g1)
  obtain ⟨h6, eh6, hf⟩ := lt_some hf
  refine g_putI (pc := 9) fl_X11_570 dX11_stops_9 g5 eh6 ?_
  refine g_aload_n (pc := 12) 0 dX11_stops_12 rfl rfl ?_
  refine g_iconst (pc := 13) (v := (-1 : Int32)) dX11_stops_13 (by decide) ?_
  have g7 : hS h6 a0 = 10 := (hS_tI eh6 g5)
  obtain ⟨h8, eh8, hf⟩ := lt_some hf
  refine g_putI (pc := 14) fl_X11_576 dX11_stops_14 g7 eh8 ?_
  refine g_aload_n (pc := 17) 0 dX11_stops_17 rfl rfl ?_
  refine g_iload_n (pc := 18) 1 dX11_stops_18 rfl rfl ?_
  refine g_aload_n (pc := 19) 0 dX11_stops_19 rfl rfl ?_
  have g9 : hS h8 a0 = 10 := (hS_tI eh8 g7)
  refine g_getR (pc := 20) fl_X11_62 dX11_stops_20 g9 ?_
  refine g_iload_n (pc := 23) 1 dX11_stops_23 rfl rfl ?_
  obtain ⟨g10, hf⟩ := gs_some hf
  obtain ⟨b11, hf⟩ := gb_some hf
  refine g_iald (pc := 24) g10 b11 dX11_stops_24 ?_
  obtain ⟨q12, hcq12, hf⟩ := bd_some hf
  refine g_cVI (pc := 25) (k2 := k_X11_retire) (av := [.int a1, .int (hI h8 (hR h8 a0 26) a1.toNatClampNeg)]) (q := q12) rfl dX11_stops_25 ck_X11_retire m_1855 m_1857 m_93 (ci := 9) rfl (by decide) g9 (by decide) (by decide) rfl (by simp [rf_cat, rq_cat, ca_i, ca_l, ca_r]) (ct_X11_retire l X hcq12) ?_
  obtain rfl := Option.some.inj hf
  exact g_iret (pc := 28) rfl dX11_stops_28
theorem ct_X11_stops (l : Launch) (X : Cx) {h : AH} {a0 : Nat} {a1 : Int32} {a2 : Int32} {q : Int32 × AH} (hf : f_X11_stops h a0 a1 a2 = some q) : Ct l X k_X11_stops [rf X a0, .int a1, .int a2] h (rI q) := ct_of ck_X11_stops (by simp [lg_sl, rf_cat, rq_cat, ca_i, ca_l, ca_r]) (by simp [lv_args, rf_cat, rq_cat, ca_i, ca_l, ca_r]) (ok_X11_stops l X hf)
def f_X11_isLessPlain (h : AH) (a0 : Int32) (a1 : Int32) : Option (Int32) :=
  if (a1 ^^^ (-2147483648 : Int32)) ≤ (a0 ^^^ (-2147483648 : Int32)) then
    some (0 : Int32)
  else
    some (1 : Int32)
set_option maxRecDepth 100000 in
set_option maxHeartbeats 4000000 in
theorem ok_X11_isLessPlain (l : Launch) (X : Cx) {h : AH} {a0 : Int32} {a1 : Int32} {q : Int32} (hf : f_X11_isLessPlain h a0 a1 = some q) : Go l X k_X11_isLessPlain 0 [(0, .int a0), (1, .int a1)] [] h (rI (q, h)) := by
  unfold f_X11_isLessPlain at hf
  refine g_iload_n (pc := 0) 0 dX11_isLessPlain_0 rfl rfl ?_
  refine g_ldcw (pc := 1) (v := (-2147483648 : Int32)) m_1870 dX11_isLessPlain_1 ?_
  refine g_ixor (pc := 4) dX11_isLessPlain_4 ?_
  refine g_iload_n (pc := 5) 1 dX11_isLessPlain_5 rfl rfl ?_
  refine g_ldcw (pc := 6) (v := (-2147483648 : Int32)) m_1870 dX11_isLessPlain_6 ?_
  refine g_ixor (pc := 9) dX11_isLessPlain_9 ?_
  rcases it_some hf with ⟨c1, hf⟩ | ⟨c1, hf⟩
  · refine g_icge_t (pc := 10) (tgt := 17) dX11_isLessPlain_10 (by decide) c1 ?_
    refine g_iconst (pc := 17) (v := (0 : Int32)) dX11_isLessPlain_17 (by decide) ?_
    obtain rfl := Option.some.inj hf
    exact g_zret (pc := 18) rfl rfl dX11_isLessPlain_18
  · refine g_icge_f (pc := 10) (tgt := 17) dX11_isLessPlain_10 (by decide) c1 ?_
    refine g_iconst (pc := 13) (v := (1 : Int32)) dX11_isLessPlain_13 (by decide) ?_
    refine g_goto (pc := 14) (tgt := 18) dX11_isLessPlain_14 (by decide) ?_
    obtain rfl := Option.some.inj hf
    exact g_zret (pc := 18) rfl rfl dX11_isLessPlain_18
theorem ct_X11_isLessPlain (l : Launch) (X : Cx) {h : AH} {a0 : Int32} {a1 : Int32} {q : Int32} (hf : f_X11_isLessPlain h a0 a1 = some q) : Ct l X k_X11_isLessPlain [.int a0, .int a1] h (rI (q, h)) := ct_of ck_X11_isLessPlain (by simp [lg_sl, rf_cat, rq_cat, ca_i, ca_l, ca_r]) (by simp [lv_args, rf_cat, rq_cat, ca_i, ca_l, ca_r]) (ok_X11_isLessPlain l X hf)
def f_X11_branch_L10 (h : AH) (a0 : Nat) (a1 : Int32) : Option (Int32 × AH) :=
  gs h a0 10 <|
  bd (f_X11_stops h a0 a1 (2 : Int32)) fun q2 =>
  some (q2.1, q2.2)
set_option maxRecDepth 100000 in
set_option maxHeartbeats 4000000 in
theorem ok_X11_branch_L10 (l : Launch) (X : Cx) (h : AH) (a0 : Nat) (a1 : Int32) (q : Int32 × AH) (hf : f_X11_branch_L10 h a0 a1 = some q) : Go l X k_X11_branch 10 [(0, rf X a0), (1, .int a1)] [] h (rI q) := by
  unfold f_X11_branch_L10 at hf
  refine g_aload_n (pc := 10) 0 dX11_branch_10 rfl rfl ?_
  refine g_iload_n (pc := 11) 1 dX11_branch_11 rfl rfl ?_
  refine g_iconst (pc := 12) (v := (2 : Int32)) dX11_branch_12 (by decide) ?_
  obtain ⟨g1, hf⟩ := gs_some hf
  obtain ⟨q2, hcq2, hf⟩ := bd_some hf
  refine g_cVI (pc := 13) (k2 := k_X11_stops) (av := [.int a1, .int (2 : Int32)]) (q := q2) rfl dX11_branch_13 ck_X11_stops m_1859 m_1861 m_94 (ci := 9) rfl (by decide) g1 (by decide) (by decide) rfl (by simp [rf_cat, rq_cat, ca_i, ca_l, ca_r]) (ct_X11_stops l X hcq2) ?_
  obtain rfl := Option.some.inj hf
  exact g_iret (pc := 16) rfl dX11_branch_16
def f_X11_branch_L149 (h : AH) (s0 : Nat) (s1 : Int32) (s2 : Int32) (s3 : Int32) : Option (Int32 × AH) :=
  gs h s0 10 <|
  bd (f_X11_retire h s0 s1 (s2 + s3)) fun q2 =>
  some (q2.1, q2.2)
set_option maxRecDepth 100000 in
set_option maxHeartbeats 4000000 in
theorem ok_X11_branch_L149 (l : Launch) (X : Cx) (h : AH) (s0 : Nat) (s1 : Int32) (s2 : Int32) (s3 : Int32) (q : Int32 × AH) (hf : f_X11_branch_L149 h s0 s1 s2 s3 = some q) : Go l X k_X11_branch 149 [] [.int s3, .int s2, .int s1, rf X s0] h (rI q) := by
  unfold f_X11_branch_L149 at hf
  refine g_iadd (pc := 149) dX11_branch_149 ?_
  obtain ⟨g1, hf⟩ := gs_some hf
  obtain ⟨q2, hcq2, hf⟩ := bd_some hf
  refine g_cVI (pc := 150) (k2 := k_X11_retire) (av := [.int s1, .int (s2 + s3)]) (q := q2) rfl dX11_branch_150 ck_X11_retire m_1855 m_1857 m_93 (ci := 9) rfl (by decide) g1 (by decide) (by decide) rfl (by simp [rf_cat, rq_cat, ca_i, ca_l, ca_r]) (ct_X11_retire l X hcq2) ?_
  obtain rfl := Option.some.inj hf
  exact g_iret (pc := 153) rfl dX11_branch_153
def f_X11_branch_L86 (h : AH) (a0 : Nat) (a1 : Int32) (a2 : Int32) (a6 : Int32) : Option (Int32 × AH) :=
  gs h a0 10 <|
  lt (sI h a0 40 (0 : Int32)) fun h2 =>
  lt ((((((a2 >>> ((31 : Int32) &&& 31)) <<< ((12 : Int32) &&& 31)) ||| (((a2 >>> ((7 : Int32) &&& 31)) &&& (1 : Int32)) <<< ((11 : Int32) &&& 31))) ||| (((a2 >>> ((25 : Int32) &&& 31)) &&& (63 : Int32)) <<< ((5 : Int32) &&& 31))) ||| (((a2 >>> ((8 : Int32) &&& 31)) &&& (15 : Int32)) <<< ((1 : Int32) &&& 31)))) fun x3 =>
  gs h2 (hR h2 a0 26) 21 <|
  gb (ib a1 (hN h2 (hR h2 a0 26))) <|
  if a6 = 0 then
    f_X11_branch_L149 h2 a0 a1 (hI h2 (hR h2 a0 26) a1.toNatClampNeg) (4 : Int32)
  else
    f_X11_branch_L149 h2 a0 a1 (hI h2 (hR h2 a0 26) a1.toNatClampNeg) x3
set_option maxRecDepth 100000 in
set_option maxHeartbeats 4000000 in
theorem ok_X11_branch_L86 (l : Launch) (X : Cx) (h : AH) (a0 : Nat) (a1 : Int32) (a2 : Int32) (a6 : Int32) (q : Int32 × AH) (hf : f_X11_branch_L86 h a0 a1 a2 a6 = some q) : Go l X k_X11_branch 86 [(0, rf X a0), (1, .int a1), (2, .int a2), (6, .int a6)] [] h (rI q) := by
  unfold f_X11_branch_L86 at hf
  refine g_aload_n (pc := 86) 0 dX11_branch_86 rfl rfl ?_
  refine g_iconst (pc := 87) (v := (0 : Int32)) dX11_branch_87 (by decide) ?_
  obtain ⟨g1, hf⟩ := gs_some hf
  obtain ⟨h2, eh2, hf⟩ := lt_some hf
  refine g_putI (pc := 88) fl_X11_570 dX11_branch_88 g1 eh2 ?_
  refine g_iload_n (pc := 91) 2 dX11_branch_91 rfl rfl ?_
  refine g_bipush (pc := 92) (v := (31 : Int32)) dX11_branch_92 (by decide) ?_
  refine g_ishr (pc := 94) dX11_branch_94 ?_
  refine g_bipush (pc := 95) (v := (12 : Int32)) dX11_branch_95 (by decide) ?_
  refine g_ishl (pc := 97) dX11_branch_97 ?_
  refine g_iload_n (pc := 98) 2 dX11_branch_98 rfl rfl ?_
  refine g_bipush (pc := 99) (v := (7 : Int32)) dX11_branch_99 (by decide) ?_
  refine g_ishr (pc := 101) dX11_branch_101 ?_
  refine g_iconst (pc := 102) (v := (1 : Int32)) dX11_branch_102 (by decide) ?_
  refine g_iand (pc := 103) dX11_branch_103 ?_
  refine g_bipush (pc := 104) (v := (11 : Int32)) dX11_branch_104 (by decide) ?_
  refine g_ishl (pc := 106) dX11_branch_106 ?_
  refine g_ior (pc := 107) dX11_branch_107 ?_
  refine g_iload_n (pc := 108) 2 dX11_branch_108 rfl rfl ?_
  refine g_bipush (pc := 109) (v := (25 : Int32)) dX11_branch_109 (by decide) ?_
  refine g_ishr (pc := 111) dX11_branch_111 ?_
  refine g_bipush (pc := 112) (v := (63 : Int32)) dX11_branch_112 (by decide) ?_
  refine g_iand (pc := 114) dX11_branch_114 ?_
  refine g_iconst (pc := 115) (v := (5 : Int32)) dX11_branch_115 (by decide) ?_
  refine g_ishl (pc := 116) dX11_branch_116 ?_
  refine g_ior (pc := 117) dX11_branch_117 ?_
  refine g_iload_n (pc := 118) 2 dX11_branch_118 rfl rfl ?_
  refine g_bipush (pc := 119) (v := (8 : Int32)) dX11_branch_119 (by decide) ?_
  refine g_ishr (pc := 121) dX11_branch_121 ?_
  refine g_bipush (pc := 122) (v := (15 : Int32)) dX11_branch_122 (by decide) ?_
  refine g_iand (pc := 124) dX11_branch_124 ?_
  refine g_iconst (pc := 125) (v := (1 : Int32)) dX11_branch_125 (by decide) ?_
  refine g_ishl (pc := 126) dX11_branch_126 ?_
  refine g_ior (pc := 127) dX11_branch_127 ?_
  obtain ⟨x3, ex3, hf⟩ := lt_some hf
  refine g_istore (pc := 128) (L' := [(7, .int x3), (0, rf X a0), (1, .int a1), (2, .int a2), (6, .int a6)]) dX11_branch_128 (by decide) ex3 rfl ?_
  refine g_aload_n (pc := 130) 1 dX11_branch_130 rfl rfl ?_
  refine g_iload_n (pc := 131) 2 dX11_branch_131 rfl rfl ?_
  refine g_aload_n (pc := 132) 1 dX11_branch_132 rfl rfl ?_
  have g4 : hS h2 a0 = 10 := (hS_tI eh2 g1)
  refine g_getR (pc := 133) fl_X11_62 dX11_branch_133 g4 ?_
  refine g_iload_n (pc := 136) 2 dX11_branch_136 rfl rfl ?_
  obtain ⟨g5, hf⟩ := gs_some hf
  obtain ⟨b6, hf⟩ := gb_some hf
  refine g_iald (pc := 137) g5 b6 dX11_branch_137 ?_
  refine g_iload (pc := 138) 4 dX11_branch_138 rfl ?_
  rcases it_some hf with ⟨c7, hf⟩ | ⟨c7, hf⟩
  · refine g_ifeq_t (pc := 140) (tgt := 148) dX11_branch_140 (by decide) c7 ?_
    refine g_iconst (pc := 148) (v := (4 : Int32)) dX11_branch_148 (by decide) ?_
    refine g_sub [] rfl ?_
    exact ok_X11_branch_L149 l X h2 a0 a1 (hI h2 (hR h2 a0 26) a1.toNatClampNeg) (4 : Int32) q hf
  · refine g_ifeq_f (pc := 140) (tgt := 148) dX11_branch_140 (by decide) c7 ?_
    refine g_iload (pc := 143) 0 dX11_branch_143 rfl ?_
    refine g_goto (pc := 145) (tgt := 149) dX11_branch_145 (by decide) ?_
    refine g_sub [] rfl ?_
    exact ok_X11_branch_L149 l X h2 a0 a1 (hI h2 (hR h2 a0 26) a1.toNatClampNeg) x3 q hf
def f_X11_branch_L84 (h : AH) (a0 : Nat) (a1 : Int32) (a2 : Int32) (s0 : Int32) : Option (Int32 × AH) :=
  f_X11_branch_L86 h a0 a1 a2 s0
set_option maxRecDepth 100000 in
set_option maxHeartbeats 4000000 in
theorem ok_X11_branch_L84 (l : Launch) (X : Cx) (h : AH) (a0 : Nat) (a1 : Int32) (a2 : Int32) (s0 : Int32) (q : Int32 × AH) (hf : f_X11_branch_L84 h a0 a1 a2 s0 = some q) : Go l X k_X11_branch 84 [(0, rf X a0), (1, .int a1), (2, .int a2)] [.int s0] h (rI q) := by
  unfold f_X11_branch_L84 at hf
  refine g_istore (pc := 84) (L' := [(6, .int s0), (0, rf X a0), (1, .int a1), (2, .int a2)]) dX11_branch_84 (by decide) rfl rfl ?_
  refine g_sub [1, 2, 3, 0] rfl ?_
  exact ok_X11_branch_L86 l X h a0 a1 a2 s0 q hf
def f_X11_branch_L65 (h : AH) (a0 : Nat) (a1 : Int32) (a2 : Int32) (a3 : Int32) (s0 : Int32) : Option (Int32 × AH) :=
  if ¬ (a3 - a3 / (2 : Int32) * (2 : Int32)) = (1 : Int32) then
    f_X11_branch_L86 h a0 a1 a2 s0
  else
    if ¬ s0 = 0 then
      f_X11_branch_L84 h a0 a1 a2 (0 : Int32)
    else
      f_X11_branch_L84 h a0 a1 a2 (1 : Int32)
set_option maxRecDepth 100000 in
set_option maxHeartbeats 4000000 in
theorem ok_X11_branch_L65 (l : Launch) (X : Cx) (h : AH) (a0 : Nat) (a1 : Int32) (a2 : Int32) (a3 : Int32) (s0 : Int32) (q : Int32 × AH) (hf : f_X11_branch_L65 h a0 a1 a2 a3 s0 = some q) : Go l X k_X11_branch 65 [(0, rf X a0), (1, .int a1), (2, .int a2), (3, .int a3)] [.int s0] h (rI q) := by
  unfold f_X11_branch_L65 at hf
  refine g_istore (pc := 65) (L' := [(6, .int s0), (0, rf X a0), (1, .int a1), (2, .int a2), (3, .int a3)]) dX11_branch_65 (by decide) rfl rfl ?_
  refine g_iload_n (pc := 67) 4 dX11_branch_67 rfl rfl ?_
  refine g_iconst (pc := 68) (v := (2 : Int32)) dX11_branch_68 (by decide) ?_
  refine g_irem (pc := 69) (by decide) dX11_branch_69 ?_
  refine g_iconst (pc := 70) (v := (1 : Int32)) dX11_branch_70 (by decide) ?_
  rcases it_some hf with ⟨c1, hf⟩ | ⟨c1, hf⟩
  · refine g_icne_t (pc := 71) (tgt := 86) dX11_branch_71 (by decide) c1 ?_
    refine g_sub [1, 2, 3, 0] rfl ?_
    exact ok_X11_branch_L86 l X h a0 a1 a2 s0 q hf
  · refine g_icne_f (pc := 71) (tgt := 86) dX11_branch_71 (by decide) (Decidable.of_not_not c1) ?_
    refine g_iload (pc := 74) 0 dX11_branch_74 rfl ?_
    rcases it_some hf with ⟨c2, hf⟩ | ⟨c2, hf⟩
    · refine g_ifne_t (pc := 76) (tgt := 83) dX11_branch_76 (by decide) c2 ?_
      refine g_iconst (pc := 83) (v := (0 : Int32)) dX11_branch_83 (by decide) ?_
      refine g_sub [1, 2, 3] rfl ?_
      exact ok_X11_branch_L84 l X h a0 a1 a2 (0 : Int32) q hf
    · refine g_ifne_f (pc := 76) (tgt := 83) dX11_branch_76 (by decide) (Decidable.of_not_not c2) ?_
      refine g_iconst (pc := 79) (v := (1 : Int32)) dX11_branch_79 (by decide) ?_
      refine g_goto (pc := 80) (tgt := 84) dX11_branch_80 (by decide) ?_
      refine g_sub [1, 2, 3] rfl ?_
      exact ok_X11_branch_L84 l X h a0 a1 a2 (1 : Int32) q hf
def f_X11_branch (h : AH) (a0 : Nat) (a1 : Int32) (a2 : Int32) (a3 : Int32) (a4 : Int32) (a5 : Int32) : Option (Int32 × AH) :=
  if a3 = (2 : Int32) then
    f_X11_branch_L10 h a0 a1
  else
    if ¬ a3 = (3 : Int32) then
      if (2 : Int32) ≤ a3 then
        if (6 : Int32) ≤ a3 then
          bd (f_X11_isLessPlain h a4 a5) fun v5 =>
          f_X11_branch_L65 h a0 a1 a2 a3 v5
        else
          if a5 ≤ a4 then
            f_X11_branch_L65 h a0 a1 a2 a3 (0 : Int32)
          else
            f_X11_branch_L65 h a0 a1 a2 a3 (1 : Int32)
      else
        if ¬ a4 = a5 then
          f_X11_branch_L65 h a0 a1 a2 a3 (0 : Int32)
        else
          f_X11_branch_L65 h a0 a1 a2 a3 (1 : Int32)
    else
      f_X11_branch_L10 h a0 a1
set_option maxRecDepth 100000 in
set_option maxHeartbeats 4000000 in
theorem ok_X11_branch (l : Launch) (X : Cx) {h : AH} {a0 : Nat} {a1 : Int32} {a2 : Int32} {a3 : Int32} {a4 : Int32} {a5 : Int32} {q : Int32 × AH} (hf : f_X11_branch h a0 a1 a2 a3 a4 a5 = some q) : Go l X k_X11_branch 0 [(0, rf X a0), (1, .int a1), (2, .int a2), (3, .int a3), (4, .int a4), (5, .int a5)] [] h (rI q) := by
  unfold f_X11_branch at hf
  refine g_iload_n (pc := 0) 3 dX11_branch_0 rfl rfl ?_
  refine g_iconst (pc := 1) (v := (2 : Int32)) dX11_branch_1 (by decide) ?_
  rcases it_some hf with ⟨c1, hf⟩ | ⟨c1, hf⟩
  · refine g_iceq_t (pc := 2) (tgt := 10) dX11_branch_2 (by decide) c1 ?_
    refine g_sub [0, 1] rfl ?_
    exact ok_X11_branch_L10 l X h a0 a1 q hf
  · refine g_iceq_f (pc := 2) (tgt := 10) dX11_branch_2 (by decide) c1 ?_
    refine g_iload_n (pc := 5) 3 dX11_branch_5 rfl rfl ?_
    refine g_iconst (pc := 6) (v := (3 : Int32)) dX11_branch_6 (by decide) ?_
    rcases it_some hf with ⟨c2, hf⟩ | ⟨c2, hf⟩
    · refine g_icne_t (pc := 7) (tgt := 17) dX11_branch_7 (by decide) c2 ?_
      refine g_iload_n (pc := 17) 3 dX11_branch_17 rfl rfl ?_
      refine g_iconst (pc := 18) (v := (2 : Int32)) dX11_branch_18 (by decide) ?_
      rcases it_some hf with ⟨c3, hf⟩ | ⟨c3, hf⟩
      · refine g_icge_t (pc := 19) (tgt := 37) dX11_branch_19 (by decide) c3 ?_
        refine g_iload_n (pc := 37) 3 dX11_branch_37 rfl rfl ?_
        refine g_bipush (pc := 38) (v := (6 : Int32)) dX11_branch_38 (by decide) ?_
        rcases it_some hf with ⟨c4, hf⟩ | ⟨c4, hf⟩
        · refine g_icge_t (pc := 40) (tgt := 58) dX11_branch_40 (by decide) c4 ?_
          refine g_iload (pc := 58) 4 dX11_branch_58 rfl ?_
          refine g_iload (pc := 60) 5 dX11_branch_60 rfl ?_
          obtain ⟨v5, hcv5, hf⟩ := bd_some hf
          refine g_cSI (pc := 62) (k2 := k_X11_isLessPlain) (av := [.int a4, .int a5]) (q := (v5, h)) rfl dX11_branch_62 ck_X11_isLessPlain m_1867 m_1868 (by decide) (by decide) rfl (by simp [rf_cat, rq_cat, ca_i, ca_l, ca_r]) (ct_X11_isLessPlain l X hcv5) ?_
          refine g_sub [0, 1, 2, 3] rfl ?_
          exact ok_X11_branch_L65 l X h a0 a1 a2 a3 v5 q hf
        · refine g_icge_f (pc := 40) (tgt := 58) dX11_branch_40 (by decide) c4 ?_
          refine g_iload (pc := 43) 4 dX11_branch_43 rfl ?_
          refine g_iload (pc := 45) 5 dX11_branch_45 rfl ?_
          rcases it_some hf with ⟨c6, hf⟩ | ⟨c6, hf⟩
          · refine g_icge_t (pc := 47) (tgt := 54) dX11_branch_47 (by decide) c6 ?_
            refine g_iconst (pc := 54) (v := (0 : Int32)) dX11_branch_54 (by decide) ?_
            refine g_goto (pc := 55) (tgt := 65) dX11_branch_55 (by decide) ?_
            refine g_sub [0, 1, 2, 3] rfl ?_
            exact ok_X11_branch_L65 l X h a0 a1 a2 a3 (0 : Int32) q hf
          · refine g_icge_f (pc := 47) (tgt := 54) dX11_branch_47 (by decide) c6 ?_
            refine g_iconst (pc := 50) (v := (1 : Int32)) dX11_branch_50 (by decide) ?_
            refine g_goto (pc := 51) (tgt := 65) dX11_branch_51 (by decide) ?_
            refine g_sub [0, 1, 2, 3] rfl ?_
            exact ok_X11_branch_L65 l X h a0 a1 a2 a3 (1 : Int32) q hf
      · refine g_icge_f (pc := 19) (tgt := 37) dX11_branch_19 (by decide) c3 ?_
        refine g_iload (pc := 22) 4 dX11_branch_22 rfl ?_
        refine g_iload (pc := 24) 5 dX11_branch_24 rfl ?_
        rcases it_some hf with ⟨c7, hf⟩ | ⟨c7, hf⟩
        · refine g_icne_t (pc := 26) (tgt := 33) dX11_branch_26 (by decide) c7 ?_
          refine g_iconst (pc := 33) (v := (0 : Int32)) dX11_branch_33 (by decide) ?_
          refine g_goto (pc := 34) (tgt := 65) dX11_branch_34 (by decide) ?_
          refine g_sub [0, 1, 2, 3] rfl ?_
          exact ok_X11_branch_L65 l X h a0 a1 a2 a3 (0 : Int32) q hf
        · refine g_icne_f (pc := 26) (tgt := 33) dX11_branch_26 (by decide) (Decidable.of_not_not c7) ?_
          refine g_iconst (pc := 29) (v := (1 : Int32)) dX11_branch_29 (by decide) ?_
          refine g_goto (pc := 30) (tgt := 65) dX11_branch_30 (by decide) ?_
          refine g_sub [0, 1, 2, 3] rfl ?_
          exact ok_X11_branch_L65 l X h a0 a1 a2 a3 (1 : Int32) q hf
    · refine g_icne_f (pc := 7) (tgt := 17) dX11_branch_7 (by decide) (Decidable.of_not_not c2) ?_
      refine g_sub [0, 1] rfl ?_
      exact ok_X11_branch_L10 l X h a0 a1 q hf
theorem ct_X11_branch (l : Launch) (X : Cx) {h : AH} {a0 : Nat} {a1 : Int32} {a2 : Int32} {a3 : Int32} {a4 : Int32} {a5 : Int32} {q : Int32 × AH} (hf : f_X11_branch h a0 a1 a2 a3 a4 a5 = some q) : Ct l X k_X11_branch [rf X a0, .int a1, .int a2, .int a3, .int a4, .int a5] h (rI q) := ct_of ck_X11_branch (by simp [lg_sl, rf_cat, rq_cat, ca_i, ca_l, ca_r]) (by simp [lv_args, rf_cat, rq_cat, ca_i, ca_l, ca_r]) (ok_X11_branch l X hf)
def f_X11_load_L10 (h : AH) (a0 : Nat) (a1 : Int32) : Option (Int32 × AH) :=
  gs h a0 10 <|
  bd (f_X11_stops h a0 a1 (2 : Int32)) fun q2 =>
  some (q2.1, q2.2)
set_option maxRecDepth 100000 in
set_option maxHeartbeats 4000000 in
theorem ok_X11_load_L10 (l : Launch) (X : Cx) (h : AH) (a0 : Nat) (a1 : Int32) (q : Int32 × AH) (hf : f_X11_load_L10 h a0 a1 = some q) : Go l X k_X11_load 10 [(0, rf X a0), (1, .int a1)] [] h (rI q) := by
  unfold f_X11_load_L10 at hf
  refine g_aload_n (pc := 10) 0 dX11_load_10 rfl rfl ?_
  refine g_iload_n (pc := 11) 1 dX11_load_11 rfl rfl ?_
  refine g_iconst (pc := 12) (v := (2 : Int32)) dX11_load_12 (by decide) ?_
  obtain ⟨g1, hf⟩ := gs_some hf
  obtain ⟨q2, hcq2, hf⟩ := bd_some hf
  refine g_cVI (pc := 13) (k2 := k_X11_stops) (av := [.int a1, .int (2 : Int32)]) (q := q2) rfl dX11_load_13 ck_X11_stops m_1859 m_1861 m_94 (ci := 9) rfl (by decide) g1 (by decide) (by decide) rfl (by simp [rf_cat, rq_cat, ca_i, ca_l, ca_r]) (ct_X11_stops l X hcq2) ?_
  obtain rfl := Option.some.inj hf
  exact g_iret (pc := 16) rfl dX11_load_16
def f_X11_load_L122 (h : AH) (a0 : Nat) (a1 : Int32) (a3 : Int32) (a6 : Int32) (a8 : Int32) : Option (Int32 × AH) :=
  gs h a0 10 <|
  bd (f_X11_setReg h a0 a1 a3 a8) fun q2 =>
  gs q2 a0 10 <|
  lt (sI q2 a0 41 a6) fun h4 =>
  lt (sI h4 a0 42 a8) fun h6 =>
  gs h6 (hR h6 a0 26) 21 <|
  gb (ib a1 (hN h6 (hR h6 a0 26))) <|
  bd (f_X11_retire h6 a0 a1 ((hI h6 (hR h6 a0 26) a1.toNatClampNeg) + (4 : Int32))) fun q10 =>
  some (q10.1, q10.2)
set_option maxRecDepth 100000 in
set_option maxHeartbeats 4000000 in
theorem ok_X11_load_L122 (l : Launch) (X : Cx) (h : AH) (a0 : Nat) (a1 : Int32) (a3 : Int32) (a6 : Int32) (a8 : Int32) (q : Int32 × AH) (hf : f_X11_load_L122 h a0 a1 a3 a6 a8 = some q) : Go l X k_X11_load 122 [(0, rf X a0), (1, .int a1), (3, .int a3), (6, .int a6), (8, .int a8)] [] h (rI q) := by
  unfold f_X11_load_L122 at hf
  refine g_aload_n (pc := 122) 0 dX11_load_122 rfl rfl ?_
  refine g_iload_n (pc := 123) 1 dX11_load_123 rfl rfl ?_
  refine g_iload_n (pc := 124) 2 dX11_load_124 rfl rfl ?_
  refine g_iload (pc := 125) 4 dX11_load_125 rfl ?_
  obtain ⟨g1, hf⟩ := gs_some hf
  obtain ⟨q2, hcq2, hf⟩ := bd_some hf
  refine g_cVV (pc := 127) (k2 := k_X11_setReg) (av := [.int a1, .int a3, .int a8]) (q := q2) rfl dX11_load_127 ck_X11_setReg m_1851 m_1853 m_92 (ci := 9) rfl (by decide) g1 (by decide) (by decide) rfl (by simp [rf_cat, rq_cat, ca_i, ca_l, ca_r]) (ct_X11_setReg l X hcq2) ?_
  refine g_aload_n (pc := 130) 0 dX11_load_130 rfl rfl ?_
  refine g_iload (pc := 131) 3 dX11_load_131 rfl ?_
  obtain ⟨g3, hf⟩ := gs_some hf
  obtain ⟨h4, eh4, hf⟩ := lt_some hf
  refine g_putI (pc := 133) fl_X11_576 dX11_load_133 g3 eh4 ?_
  refine g_aload_n (pc := 136) 0 dX11_load_136 rfl rfl ?_
  refine g_iload (pc := 137) 4 dX11_load_137 rfl ?_
  have g5 : hS h4 a0 = 10 := (hS_tI eh4 g3)
  obtain ⟨h6, eh6, hf⟩ := lt_some hf
  refine g_putI (pc := 139) fl_X11_579 dX11_load_139 g5 eh6 ?_
  refine g_aload_n (pc := 142) 0 dX11_load_142 rfl rfl ?_
  refine g_iload_n (pc := 143) 1 dX11_load_143 rfl rfl ?_
  refine g_aload_n (pc := 144) 0 dX11_load_144 rfl rfl ?_
  have g7 : hS h6 a0 = 10 := (hS_tI eh6 g5)
  refine g_getR (pc := 145) fl_X11_62 dX11_load_145 g7 ?_
  refine g_iload_n (pc := 148) 1 dX11_load_148 rfl rfl ?_
  obtain ⟨g8, hf⟩ := gs_some hf
  obtain ⟨b9, hf⟩ := gb_some hf
  refine g_iald (pc := 149) g8 b9 dX11_load_149 ?_
  refine g_iconst (pc := 150) (v := (4 : Int32)) dX11_load_150 (by decide) ?_
  refine g_iadd (pc := 151) dX11_load_151 ?_
  obtain ⟨q10, hcq10, hf⟩ := bd_some hf
  refine g_cVI (pc := 152) (k2 := k_X11_retire) (av := [.int a1, .int ((hI h6 (hR h6 a0 26) a1.toNatClampNeg) + (4 : Int32))]) (q := q10) rfl dX11_load_152 ck_X11_retire m_1855 m_1857 m_93 (ci := 9) rfl (by decide) g7 (by decide) (by decide) rfl (by simp [rf_cat, rq_cat, ca_i, ca_l, ca_r]) (ct_X11_retire l X hcq10) ?_
  obtain rfl := Option.some.inj hf
  exact g_iret (pc := 155) rfl dX11_load_155
def f_X11_load_L112 (h : AH) (a0 : Nat) (a1 : Int32) (a2 : Int32) (a3 : Int32) (a6 : Int32) (a8 : Int32) : Option (Int32 × AH) :=
  if ¬ a2 = (1 : Int32) then
    f_X11_load_L122 h a0 a1 a3 a6 a8
  else
    lt ((a8.toInt16.toInt32)) fun x2 =>
    f_X11_load_L122 h a0 a1 a3 a6 x2
set_option maxRecDepth 100000 in
set_option maxHeartbeats 4000000 in
theorem ok_X11_load_L112 (l : Launch) (X : Cx) (h : AH) (a0 : Nat) (a1 : Int32) (a2 : Int32) (a3 : Int32) (a6 : Int32) (a8 : Int32) (q : Int32 × AH) (hf : f_X11_load_L112 h a0 a1 a2 a3 a6 a8 = some q) : Go l X k_X11_load 112 [(0, rf X a0), (1, .int a1), (2, .int a2), (3, .int a3), (6, .int a6), (8, .int a8)] [] h (rI q) := by
  unfold f_X11_load_L112 at hf
  refine g_iload_n (pc := 112) 2 dX11_load_112 rfl rfl ?_
  refine g_iconst (pc := 113) (v := (1 : Int32)) dX11_load_113 (by decide) ?_
  rcases it_some hf with ⟨c1, hf⟩ | ⟨c1, hf⟩
  · refine g_icne_t (pc := 114) (tgt := 122) dX11_load_114 (by decide) c1 ?_
    refine g_sub [0, 1, 3, 4, 5] rfl ?_
    exact ok_X11_load_L122 l X h a0 a1 a3 a6 a8 q hf
  · refine g_icne_f (pc := 114) (tgt := 122) dX11_load_114 (by decide) (Decidable.of_not_not c1) ?_
    refine g_iload (pc := 117) 5 dX11_load_117 rfl ?_
    refine g_i2s (pc := 119) dX11_load_119 ?_
    obtain ⟨x2, ex2, hf⟩ := lt_some hf
    refine g_istore (pc := 120) (L' := [(8, .int x2), (0, rf X a0), (1, .int a1), (2, .int a2), (3, .int a3), (6, .int a6)]) dX11_load_120 (by decide) ex2 rfl ?_
    refine g_sub [1, 2, 4, 5, 0] rfl ?_
    exact ok_X11_load_L122 l X h a0 a1 a3 a6 x2 q hf
def f_X11_load_L39 (h : AH) (a0 : Nat) (a1 : Int32) (a2 : Int32) (a3 : Int32) (a4 : Int32) (s0 : Int32) : Option (Int32 × AH) :=
  gb (decide (¬ s0 = 0)) <|
  if (a4 - a4 / s0 * s0) = 0 then
    lt ((a4 &&& (8191 : Int32))) fun x3 =>
    lt ((x3 - x3 / (4 : Int32) * (4 : Int32))) fun x4 =>
    gs h a0 10 <|
    bd (f_X11_reads h a0 a1 x3 ((((1 : Int32) <<< (s0 &&& 31)) - (1 : Int32)) <<< (x4 &&& 31))) fun q6 =>
    if ¬ q6.1 = 0 then
      gs q6.2 a0 10 <|
      lt ((jushr (hI q6.2 a0 77) ((8 : Int32) * x4))) fun x9 =>
      if ¬ a2 = 0 then
        f_X11_load_L112 q6.2 a0 a1 a2 a3 x3 x9
      else
        lt ((x9.toInt8.toInt32)) fun x11 =>
        f_X11_load_L112 q6.2 a0 a1 a2 a3 x3 x11
    else
      some ((3 : Int32), q6.2)
  else
    gs h a0 10 <|
    bd (f_X11_stops h a0 a1 (4 : Int32)) fun q13 =>
    some (q13.1, q13.2)
set_option maxRecDepth 100000 in
set_option maxHeartbeats 4000000 in
theorem ok_X11_load_L39 (l : Launch) (X : Cx) (h : AH) (a0 : Nat) (a1 : Int32) (a2 : Int32) (a3 : Int32) (a4 : Int32) (s0 : Int32) (q : Int32 × AH) (hf : f_X11_load_L39 h a0 a1 a2 a3 a4 s0 = some q) : Go l X k_X11_load 39 [(0, rf X a0), (1, .int a1), (2, .int a2), (3, .int a3), (4, .int a4)] [.int s0] h (rI q) := by
  unfold f_X11_load_L39 at hf
  refine g_istore (pc := 39) (L' := [(5, .int s0), (0, rf X a0), (1, .int a1), (2, .int a2), (3, .int a3), (4, .int a4)]) dX11_load_39 (by decide) rfl rfl ?_
  refine g_iload (pc := 41) 5 dX11_load_41 rfl ?_
  refine g_iload (pc := 43) 0 dX11_load_43 rfl ?_
  obtain ⟨b1, hf⟩ := gb_some hf
  refine g_irem (pc := 45) (of_decide_eq_true b1) dX11_load_45 ?_
  rcases it_some hf with ⟨c2, hf⟩ | ⟨c2, hf⟩
  · refine g_ifeq_t (pc := 46) (tgt := 56) dX11_load_46 (by decide) c2 ?_
    refine g_iload (pc := 56) 5 dX11_load_56 rfl ?_
    refine g_sipush (pc := 58) (v := (8191 : Int32)) dX11_load_58 (by decide) ?_
    refine g_iand (pc := 61) dX11_load_61 ?_
    obtain ⟨x3, ex3, hf⟩ := lt_some hf
    refine g_istore (pc := 62) (L' := [(6, .int x3), (5, .int s0), (0, rf X a0), (1, .int a1), (2, .int a2), (3, .int a3), (4, .int a4)]) dX11_load_62 (by decide) ex3 rfl ?_
    refine g_iload (pc := 64) 0 dX11_load_64 rfl ?_
    refine g_iconst (pc := 66) (v := (4 : Int32)) dX11_load_66 (by decide) ?_
    refine g_irem (pc := 67) (by decide) dX11_load_67 ?_
    obtain ⟨x4, ex4, hf⟩ := lt_some hf
    refine g_istore (pc := 68) (L' := [(7, .int x4), (6, .int x3), (5, .int s0), (0, rf X a0), (1, .int a1), (2, .int a2), (3, .int a3), (4, .int a4)]) dX11_load_68 (by decide) ex4 rfl ?_
    refine g_aload_n (pc := 70) 3 dX11_load_70 rfl rfl ?_
    refine g_iload_n (pc := 71) 4 dX11_load_71 rfl rfl ?_
    refine g_iload (pc := 72) 1 dX11_load_72 rfl ?_
    refine g_iconst (pc := 74) (v := (1 : Int32)) dX11_load_74 (by decide) ?_
    refine g_iload (pc := 75) 2 dX11_load_75 rfl ?_
    refine g_ishl (pc := 77) dX11_load_77 ?_
    refine g_iconst (pc := 78) (v := (1 : Int32)) dX11_load_78 (by decide) ?_
    refine g_isub (pc := 79) dX11_load_79 ?_
    refine g_iload (pc := 80) 0 dX11_load_80 rfl ?_
    refine g_ishl (pc := 82) dX11_load_82 ?_
    obtain ⟨g5, hf⟩ := gs_some hf
    obtain ⟨q6, hcq6, hf⟩ := bd_some hf
    refine g_cVI (pc := 83) (k2 := k_X11_reads) (av := [.int a1, .int x3, .int ((((1 : Int32) <<< (s0 &&& 31)) - (1 : Int32)) <<< (x4 &&& 31))]) (q := q6) rfl dX11_load_83 ck_X11_reads m_1800 m_1802 m_80 (ci := 9) rfl (by decide) g5 (by decide) (by decide) rfl (by simp [rf_cat, rq_cat, ca_i, ca_l, ca_r]) (ct_X11_reads l X hcq6) ?_
    rcases it_some hf with ⟨c7, hf⟩ | ⟨c7, hf⟩
    · refine g_ifne_t (pc := 86) (tgt := 91) dX11_load_86 (by decide) c7 ?_
      refine g_aload_n (pc := 91) 3 dX11_load_91 rfl rfl ?_
      obtain ⟨g8, hf⟩ := gs_some hf
      refine g_getI (pc := 92) fl_X11_554 dX11_load_92 g8 ?_
      refine g_bipush (pc := 95) (v := (8 : Int32)) dX11_load_95 (by decide) ?_
      refine g_iload (pc := 97) 0 dX11_load_97 rfl ?_
      refine g_imul (pc := 99) dX11_load_99 ?_
      refine g_iushr (pc := 100) dX11_load_100 ?_
      obtain ⟨x9, ex9, hf⟩ := lt_some hf
      refine g_istore (pc := 101) (L' := [(8, .int x9), (7, .int x4), (6, .int x3), (5, .int s0), (0, rf X a0), (1, .int a1), (2, .int a2), (3, .int a3), (4, .int a4)]) dX11_load_101 (by decide) ex9 rfl ?_
      refine g_iload_n (pc := 103) 6 dX11_load_103 rfl rfl ?_
      rcases it_some hf with ⟨c10, hf⟩ | ⟨c10, hf⟩
      · refine g_ifne_t (pc := 104) (tgt := 112) dX11_load_104 (by decide) c10 ?_
        refine g_sub [4, 5, 6, 7, 2, 0] rfl ?_
        exact ok_X11_load_L112 l X q6.2 a0 a1 a2 a3 x3 x9 q hf
      · refine g_ifne_f (pc := 104) (tgt := 112) dX11_load_104 (by decide) (Decidable.of_not_not c10) ?_
        refine g_iload (pc := 107) 0 dX11_load_107 rfl ?_
        refine g_i2b (pc := 109) dX11_load_109 ?_
        obtain ⟨x11, ex11, hf⟩ := lt_some hf
        refine g_istore (pc := 110) (L' := [(8, .int x11), (7, .int x4), (6, .int x3), (5, .int s0), (0, rf X a0), (1, .int a1), (2, .int a2), (3, .int a3), (4, .int a4)]) dX11_load_110 (by decide) ex11 rfl ?_
        refine g_sub [4, 5, 6, 7, 2, 0] rfl ?_
        exact ok_X11_load_L112 l X q6.2 a0 a1 a2 a3 x3 x11 q hf
    · refine g_ifne_f (pc := 86) (tgt := 91) dX11_load_86 (by decide) (Decidable.of_not_not c7) ?_
      refine g_iconst (pc := 89) (v := (3 : Int32)) dX11_load_89 (by decide) ?_
      obtain rfl := Option.some.inj hf
      exact g_iret (pc := 90) rfl dX11_load_90
  · refine g_ifeq_f (pc := 46) (tgt := 56) dX11_load_46 (by decide) c2 ?_
    refine g_aload_n (pc := 49) 1 dX11_load_49 rfl rfl ?_
    refine g_iload_n (pc := 50) 2 dX11_load_50 rfl rfl ?_
    refine g_iconst (pc := 51) (v := (4 : Int32)) dX11_load_51 (by decide) ?_
    obtain ⟨g12, hf⟩ := gs_some hf
    obtain ⟨q13, hcq13, hf⟩ := bd_some hf
    refine g_cVI (pc := 52) (k2 := k_X11_stops) (av := [.int a1, .int (4 : Int32)]) (q := q13) rfl dX11_load_52 ck_X11_stops m_1859 m_1861 m_94 (ci := 9) rfl (by decide) g12 (by decide) (by decide) rfl (by simp [rf_cat, rq_cat, ca_i, ca_l, ca_r]) (ct_X11_stops l X hcq13) ?_
    obtain rfl := Option.some.inj hf
    exact g_iret (pc := 55) rfl dX11_load_55
def f_X11_load (h : AH) (a0 : Nat) (a1 : Int32) (a2 : Int32) (a3 : Int32) (a4 : Int32) : Option (Int32 × AH) :=
  if a2 = (3 : Int32) then
    f_X11_load_L10 h a0 a1
  else
    if a2 ≤ (5 : Int32) then
      if ¬ (a2 - a2 / (4 : Int32) * (4 : Int32)) = 0 then
        if ¬ (a2 - a2 / (4 : Int32) * (4 : Int32)) = (1 : Int32) then
          f_X11_load_L39 h a0 a1 a2 a3 a4 (4 : Int32)
        else
          f_X11_load_L39 h a0 a1 a2 a3 a4 (2 : Int32)
      else
        f_X11_load_L39 h a0 a1 a2 a3 a4 (1 : Int32)
    else
      f_X11_load_L10 h a0 a1
set_option maxRecDepth 100000 in
set_option maxHeartbeats 4000000 in
theorem ok_X11_load (l : Launch) (X : Cx) {h : AH} {a0 : Nat} {a1 : Int32} {a2 : Int32} {a3 : Int32} {a4 : Int32} {q : Int32 × AH} (hf : f_X11_load h a0 a1 a2 a3 a4 = some q) : Go l X k_X11_load 0 [(0, rf X a0), (1, .int a1), (2, .int a2), (3, .int a3), (4, .int a4)] [] h (rI q) := by
  unfold f_X11_load at hf
  refine g_iload_n (pc := 0) 2 dX11_load_0 rfl rfl ?_
  refine g_iconst (pc := 1) (v := (3 : Int32)) dX11_load_1 (by decide) ?_
  rcases it_some hf with ⟨c1, hf⟩ | ⟨c1, hf⟩
  · refine g_iceq_t (pc := 2) (tgt := 10) dX11_load_2 (by decide) c1 ?_
    refine g_sub [0, 1] rfl ?_
    exact ok_X11_load_L10 l X h a0 a1 q hf
  · refine g_iceq_f (pc := 2) (tgt := 10) dX11_load_2 (by decide) c1 ?_
    refine g_iload_n (pc := 5) 2 dX11_load_5 rfl rfl ?_
    refine g_iconst (pc := 6) (v := (5 : Int32)) dX11_load_6 (by decide) ?_
    rcases it_some hf with ⟨c2, hf⟩ | ⟨c2, hf⟩
    · refine g_icle_t (pc := 7) (tgt := 17) dX11_load_7 (by decide) c2 ?_
      refine g_iload_n (pc := 17) 2 dX11_load_17 rfl rfl ?_
      refine g_iconst (pc := 18) (v := (4 : Int32)) dX11_load_18 (by decide) ?_
      refine g_irem (pc := 19) (by decide) dX11_load_19 ?_
      rcases it_some hf with ⟨c3, hf⟩ | ⟨c3, hf⟩
      · refine g_ifne_t (pc := 20) (tgt := 27) dX11_load_20 (by decide) c3 ?_
        refine g_iload_n (pc := 27) 2 dX11_load_27 rfl rfl ?_
        refine g_iconst (pc := 28) (v := (4 : Int32)) dX11_load_28 (by decide) ?_
        refine g_irem (pc := 29) (by decide) dX11_load_29 ?_
        refine g_iconst (pc := 30) (v := (1 : Int32)) dX11_load_30 (by decide) ?_
        rcases it_some hf with ⟨c4, hf⟩ | ⟨c4, hf⟩
        · refine g_icne_t (pc := 31) (tgt := 38) dX11_load_31 (by decide) c4 ?_
          refine g_iconst (pc := 38) (v := (4 : Int32)) dX11_load_38 (by decide) ?_
          exact ok_X11_load_L39 l X h a0 a1 a2 a3 a4 (4 : Int32) q hf
        · refine g_icne_f (pc := 31) (tgt := 38) dX11_load_31 (by decide) (Decidable.of_not_not c4) ?_
          refine g_iconst (pc := 34) (v := (2 : Int32)) dX11_load_34 (by decide) ?_
          refine g_goto (pc := 35) (tgt := 39) dX11_load_35 (by decide) ?_
          exact ok_X11_load_L39 l X h a0 a1 a2 a3 a4 (2 : Int32) q hf
      · refine g_ifne_f (pc := 20) (tgt := 27) dX11_load_20 (by decide) (Decidable.of_not_not c3) ?_
        refine g_iconst (pc := 23) (v := (1 : Int32)) dX11_load_23 (by decide) ?_
        refine g_goto (pc := 24) (tgt := 39) dX11_load_24 (by decide) ?_
        exact ok_X11_load_L39 l X h a0 a1 a2 a3 a4 (1 : Int32) q hf
    · refine g_icle_f (pc := 7) (tgt := 17) dX11_load_7 (by decide) c2 ?_
      refine g_sub [0, 1] rfl ?_
      exact ok_X11_load_L10 l X h a0 a1 q hf
theorem ct_X11_load (l : Launch) (X : Cx) {h : AH} {a0 : Nat} {a1 : Int32} {a2 : Int32} {a3 : Int32} {a4 : Int32} {q : Int32 × AH} (hf : f_X11_load h a0 a1 a2 a3 a4 = some q) : Ct l X k_X11_load [rf X a0, .int a1, .int a2, .int a3, .int a4] h (rI q) := ct_of ck_X11_load (by simp [lg_sl, rf_cat, rq_cat, ca_i, ca_l, ca_r]) (by simp [lv_args, rf_cat, rq_cat, ca_i, ca_l, ca_r]) (ok_X11_load l X hf)
def f_X11_store_L98 (h : AH) (a0 : Nat) (a1 : Int32) (a4 : Int32) (a5 : Int32) (a6 : Int32) (a7 : Int32) : Option (Int32 × AH) :=
  gs h a0 10 <|
  gs h (hR h a0 32) 21 <|
  gb (ib a7 (hN h (hR h a0 32))) <|
  bd (f_X11_maskOf h (hI h (hR h a0 32) a7.toNatClampNeg)) fun v4 =>
  gs h (hR h a0 33) 21 <|
  gb (ib a7 (hN h (hR h a0 33))) <|
  lt (sI h (hR h a0 33) a7.toNatClampNeg ((a4 <<< (((8 : Int32) * (a6 - a6 / (4 : Int32) * (4 : Int32))) &&& 31)) &&& v4)) fun h7 =>
  gs h7 (hR h7 a0 30) 21 <|
  gb (ib a1 (hN h7 (hR h7 a0 30))) <|
  gb (ib a1 (hN h7 (hR h7 a0 30))) <|
  lt (sI h7 (hR h7 a0 30) a1.toNatClampNeg ((hI h7 (hR h7 a0 30) a1.toNatClampNeg) + (1 : Int32))) fun h12 =>
  lt (sI h12 a0 40 (0 : Int32)) fun h14 =>
  lt (sI h14 a0 41 a6) fun h16 =>
  bd (f_X11_maskOf h16 (((1 : Int32) <<< (a5 &&& 31)) - (1 : Int32))) fun v17 =>
  lt (sI h16 a0 43 (a4 &&& v17)) fun h19 =>
  gs h19 (hR h19 a0 26) 21 <|
  gb (ib a1 (hN h19 (hR h19 a0 26))) <|
  bd (f_X11_retire h19 a0 a1 ((hI h19 (hR h19 a0 26) a1.toNatClampNeg) + (4 : Int32))) fun q23 =>
  some (q23.1, q23.2)
set_option maxRecDepth 100000 in
set_option maxHeartbeats 4000000 in
theorem ok_X11_store_L98 (l : Launch) (X : Cx) (h : AH) (a0 : Nat) (a1 : Int32) (a4 : Int32) (a5 : Int32) (a6 : Int32) (a7 : Int32) (q : Int32 × AH) (hf : f_X11_store_L98 h a0 a1 a4 a5 a6 a7 = some q) : Go l X k_X11_store 98 [(0, rf X a0), (1, .int a1), (4, .int a4), (5, .int a5), (6, .int a6), (7, .int a7)] [] h (rI q) := by
  unfold f_X11_store_L98 at hf
  refine g_aload_n (pc := 98) 0 dX11_store_98 rfl rfl ?_
  obtain ⟨g1, hf⟩ := gs_some hf
  refine g_getR (pc := 99) fl_X11_83 dX11_store_99 g1 ?_
  refine g_iload (pc := 102) 5 dX11_store_102 rfl ?_
  refine g_iload (pc := 104) 2 dX11_store_104 rfl ?_
  refine g_bipush (pc := 106) (v := (8 : Int32)) dX11_store_106 (by decide) ?_
  refine g_iload (pc := 108) 4 dX11_store_108 rfl ?_
  refine g_iconst (pc := 110) (v := (4 : Int32)) dX11_store_110 (by decide) ?_
  refine g_irem (pc := 111) (by decide) dX11_store_111 ?_
  refine g_imul (pc := 112) dX11_store_112 ?_
  refine g_ishl (pc := 113) dX11_store_113 ?_
  refine g_aload_n (pc := 114) 0 dX11_store_114 rfl rfl ?_
  refine g_getR (pc := 115) fl_X11_80 dX11_store_115 g1 ?_
  refine g_iload (pc := 118) 5 dX11_store_118 rfl ?_
  obtain ⟨g2, hf⟩ := gs_some hf
  obtain ⟨b3, hf⟩ := gb_some hf
  refine g_iald (pc := 120) g2 b3 dX11_store_120 ?_
  obtain ⟨v4, hcv4, hf⟩ := bd_some hf
  refine g_cSI (pc := 121) (k2 := k_X11_maskOf) (av := [.int (hI h (hR h a0 32) a7.toNatClampNeg)]) (q := (v4, h)) rfl dX11_store_121 ck_X11_maskOf m_1804 m_1805 (by decide) (by decide) rfl (by simp [rf_cat, rq_cat, ca_i, ca_l, ca_r]) (ct_X11_maskOf l X hcv4) ?_
  refine g_iand (pc := 124) dX11_store_124 ?_
  obtain ⟨g5, hf⟩ := gs_some hf
  obtain ⟨b6, hf⟩ := gb_some hf
  obtain ⟨h7, eh7, hf⟩ := lt_some hf
  refine g_iast (pc := 125) g5 b6 dX11_store_125 eh7 ?_
  refine g_aload_n (pc := 126) 0 dX11_store_126 rfl rfl ?_
  have g8 : hS h7 a0 = 10 := (hS_tI eh7 g1)
  refine g_getR (pc := 127) fl_X11_74 dX11_store_127 g8 ?_
  refine g_iload_n (pc := 130) 1 dX11_store_130 rfl rfl ?_
  refine g_dup2 (pc := 131) dX11_store_131 rfl (rf_cat X _) ?_
  obtain ⟨g9, hf⟩ := gs_some hf
  obtain ⟨b10, hf⟩ := gb_some hf
  refine g_iald (pc := 132) g9 b10 dX11_store_132 ?_
  refine g_iconst (pc := 133) (v := (1 : Int32)) dX11_store_133 (by decide) ?_
  refine g_iadd (pc := 134) dX11_store_134 ?_
  obtain ⟨b11, hf⟩ := gb_some hf
  obtain ⟨h12, eh12, hf⟩ := lt_some hf
  refine g_iast (pc := 135) g9 b11 dX11_store_135 eh12 ?_
  refine g_aload_n (pc := 136) 0 dX11_store_136 rfl rfl ?_
  refine g_iconst (pc := 137) (v := (0 : Int32)) dX11_store_137 (by decide) ?_
  have g13 : hS h12 a0 = 10 := (hS_tI eh12 g8)
  obtain ⟨h14, eh14, hf⟩ := lt_some hf
  refine g_putI (pc := 138) fl_X11_570 dX11_store_138 g13 eh14 ?_
  refine g_aload_n (pc := 141) 0 dX11_store_141 rfl rfl ?_
  refine g_iload (pc := 142) 4 dX11_store_142 rfl ?_
  have g15 : hS h14 a0 = 10 := (hS_tI eh14 g13)
  obtain ⟨h16, eh16, hf⟩ := lt_some hf
  refine g_putI (pc := 144) fl_X11_576 dX11_store_144 g15 eh16 ?_
  refine g_aload_n (pc := 147) 0 dX11_store_147 rfl rfl ?_
  refine g_iload (pc := 148) 2 dX11_store_148 rfl ?_
  refine g_iconst (pc := 150) (v := (1 : Int32)) dX11_store_150 (by decide) ?_
  refine g_iload (pc := 151) 3 dX11_store_151 rfl ?_
  refine g_ishl (pc := 153) dX11_store_153 ?_
  refine g_iconst (pc := 154) (v := (1 : Int32)) dX11_store_154 (by decide) ?_
  refine g_isub (pc := 155) dX11_store_155 ?_
  obtain ⟨v17, hcv17, hf⟩ := bd_some hf
  refine g_cSI (pc := 156) (k2 := k_X11_maskOf) (av := [.int (((1 : Int32) <<< (a5 &&& 31)) - (1 : Int32))]) (q := (v17, h16)) rfl dX11_store_156 ck_X11_maskOf m_1804 m_1805 (by decide) (by decide) rfl (by simp [rf_cat, rq_cat, ca_i, ca_l, ca_r]) (ct_X11_maskOf l X hcv17) ?_
  refine g_iand (pc := 159) dX11_store_159 ?_
  have g18 : hS h16 a0 = 10 := (hS_tI eh16 g15)
  obtain ⟨h19, eh19, hf⟩ := lt_some hf
  refine g_putI (pc := 160) fl_X11_582 dX11_store_160 g18 eh19 ?_
  refine g_aload_n (pc := 163) 0 dX11_store_163 rfl rfl ?_
  refine g_iload_n (pc := 164) 1 dX11_store_164 rfl rfl ?_
  refine g_aload_n (pc := 165) 0 dX11_store_165 rfl rfl ?_
  have g20 : hS h19 a0 = 10 := (hS_tI eh19 g18)
  refine g_getR (pc := 166) fl_X11_62 dX11_store_166 g20 ?_
  refine g_iload_n (pc := 169) 1 dX11_store_169 rfl rfl ?_
  obtain ⟨g21, hf⟩ := gs_some hf
  obtain ⟨b22, hf⟩ := gb_some hf
  refine g_iald (pc := 170) g21 b22 dX11_store_170 ?_
  refine g_iconst (pc := 171) (v := (4 : Int32)) dX11_store_171 (by decide) ?_
  refine g_iadd (pc := 172) dX11_store_172 ?_
  obtain ⟨q23, hcq23, hf⟩ := bd_some hf
  refine g_cVI (pc := 173) (k2 := k_X11_retire) (av := [.int a1, .int ((hI h19 (hR h19 a0 26) a1.toNatClampNeg) + (4 : Int32))]) (q := q23) rfl dX11_store_173 ck_X11_retire m_1855 m_1857 m_93 (ci := 9) rfl (by decide) g20 (by decide) (by decide) rfl (by simp [rf_cat, rq_cat, ca_i, ca_l, ca_r]) (ct_X11_retire l X hcq23) ?_
  obtain rfl := Option.some.inj hf
  exact g_iret (pc := 176) rfl dX11_store_176
def f_X11_store (h : AH) (a0 : Nat) (a1 : Int32) (a2 : Int32) (a3 : Int32) (a4 : Int32) : Option (Int32 × AH) :=
  if a2 ≤ (2 : Int32) then
    lt (((1 : Int32) <<< (a2 &&& 31))) fun x2 =>
    gb (decide (¬ x2 = 0)) <|
    if (a3 - a3 / x2 * x2) = 0 then
      gs h a0 10 <|
      gs h (hR h a0 30) 21 <|
      gb (ib a1 (hN h (hR h a0 30))) <|
      gs h (hR h a0 21) 21 <|
      gb (ib (1 : Int32) (hN h (hR h a0 21))) <|
      if ¬ (hI h (hR h a0 30) a1.toNatClampNeg) = (hI h (hR h a0 21) (1 : Int32).toNatClampNeg) then
        lt ((a3 &&& (8191 : Int32))) fun x11 =>
        gb (ib a1 (hN h (hR h a0 30))) <|
        lt ((((16 : Int32) * a1) + (hI h (hR h a0 30) a1.toNatClampNeg))) fun x13 =>
        gs h (hR h a0 31) 21 <|
        gb (ib x13 (hN h (hR h a0 31))) <|
        lt (sI h (hR h a0 31) x13.toNatClampNeg (x11 &&& (-4 : Int32))) fun h16 =>
        gs h16 (hR h16 a0 32) 21 <|
        gb (ib x13 (hN h16 (hR h16 a0 32))) <|
        lt (sI h16 (hR h16 a0 32) x13.toNatClampNeg ((((1 : Int32) <<< (x2 &&& 31)) - (1 : Int32)) <<< ((x11 - x11 / (4 : Int32) * (4 : Int32)) &&& 31))) fun h20 =>
        f_X11_store_L98 h20 a0 a1 a4 x2 x11 x13
      else
        some ((4 : Int32), h)
    else
      gs h a0 10 <|
      bd (f_X11_stops h a0 a1 (4 : Int32)) fun q22 =>
      some (q22.1, q22.2)
  else
    gs h a0 10 <|
    bd (f_X11_stops h a0 a1 (2 : Int32)) fun q24 =>
    some (q24.1, q24.2)
set_option maxRecDepth 100000 in
set_option maxHeartbeats 4000000 in
theorem ok_X11_store (l : Launch) (X : Cx) {h : AH} {a0 : Nat} {a1 : Int32} {a2 : Int32} {a3 : Int32} {a4 : Int32} {q : Int32 × AH} (hf : f_X11_store h a0 a1 a2 a3 a4 = some q) : Go l X k_X11_store 0 [(0, rf X a0), (1, .int a1), (2, .int a2), (3, .int a3), (4, .int a4)] [] h (rI q) := by
  unfold f_X11_store at hf
  refine g_iload_n (pc := 0) 2 dX11_store_0 rfl rfl ?_
  refine g_iconst (pc := 1) (v := (2 : Int32)) dX11_store_1 (by decide) ?_
  rcases it_some hf with ⟨c1, hf⟩ | ⟨c1, hf⟩
  · refine g_icle_t (pc := 2) (tgt := 12) dX11_store_2 (by decide) c1 ?_
    refine g_iconst (pc := 12) (v := (1 : Int32)) dX11_store_12 (by decide) ?_
    refine g_iload_n (pc := 13) 2 dX11_store_13 rfl rfl ?_
    refine g_ishl (pc := 14) dX11_store_14 ?_
    obtain ⟨x2, ex2, hf⟩ := lt_some hf
    refine g_istore (pc := 15) (L' := [(5, .int x2), (0, rf X a0), (1, .int a1), (2, .int a2), (3, .int a3), (4, .int a4)]) dX11_store_15 (by decide) ex2 rfl ?_
    refine g_iload_n (pc := 17) 4 dX11_store_17 rfl rfl ?_
    refine g_iload (pc := 18) 0 dX11_store_18 rfl ?_
    obtain ⟨b3, hf⟩ := gb_some hf
    refine g_irem (pc := 20) (of_decide_eq_true b3) dX11_store_20 ?_
    rcases it_some hf with ⟨c4, hf⟩ | ⟨c4, hf⟩
    · refine g_ifeq_t (pc := 21) (tgt := 31) dX11_store_21 (by decide) c4 ?_
      refine g_aload_n (pc := 31) 1 dX11_store_31 rfl rfl ?_
      obtain ⟨g5, hf⟩ := gs_some hf
      refine g_getR (pc := 32) fl_X11_74 dX11_store_32 g5 ?_
      refine g_iload_n (pc := 35) 2 dX11_store_35 rfl rfl ?_
      obtain ⟨g6, hf⟩ := gs_some hf
      obtain ⟨b7, hf⟩ := gb_some hf
      refine g_iald (pc := 36) g6 b7 dX11_store_36 ?_
      refine g_aload_n (pc := 37) 1 dX11_store_37 rfl rfl ?_
      refine g_getR (pc := 38) fl_X11_47 dX11_store_38 g5 ?_
      refine g_iconst (pc := 41) (v := (1 : Int32)) dX11_store_41 (by decide) ?_
      obtain ⟨g8, hf⟩ := gs_some hf
      obtain ⟨b9, hf⟩ := gb_some hf
      refine g_iald (pc := 42) g8 b9 dX11_store_42 ?_
      rcases it_some hf with ⟨c10, hf⟩ | ⟨c10, hf⟩
      · refine g_icne_t (pc := 43) (tgt := 48) dX11_store_43 (by decide) c10 ?_
        refine g_iload_n (pc := 48) 4 dX11_store_48 rfl rfl ?_
        refine g_sipush (pc := 49) (v := (8191 : Int32)) dX11_store_49 (by decide) ?_
        refine g_iand (pc := 52) dX11_store_52 ?_
        obtain ⟨x11, ex11, hf⟩ := lt_some hf
        refine g_istore (pc := 53) (L' := [(6, .int x11), (5, .int x2), (0, rf X a0), (1, .int a1), (2, .int a2), (3, .int a3), (4, .int a4)]) dX11_store_53 (by decide) ex11 rfl ?_
        refine g_bipush (pc := 55) (v := (16 : Int32)) dX11_store_55 (by decide) ?_
        refine g_iload_n (pc := 57) 3 dX11_store_57 rfl rfl ?_
        refine g_imul (pc := 58) dX11_store_58 ?_
        refine g_aload_n (pc := 59) 2 dX11_store_59 rfl rfl ?_
        refine g_getR (pc := 60) fl_X11_74 dX11_store_60 g5 ?_
        refine g_iload_n (pc := 63) 3 dX11_store_63 rfl rfl ?_
        obtain ⟨b12, hf⟩ := gb_some hf
        refine g_iald (pc := 64) g6 b12 dX11_store_64 ?_
        refine g_iadd (pc := 65) dX11_store_65 ?_
        obtain ⟨x13, ex13, hf⟩ := lt_some hf
        refine g_istore (pc := 66) (L' := [(7, .int x13), (6, .int x11), (5, .int x2), (0, rf X a0), (1, .int a1), (2, .int a2), (3, .int a3), (4, .int a4)]) dX11_store_66 (by decide) ex13 rfl ?_
        refine g_aload_n (pc := 68) 3 dX11_store_68 rfl rfl ?_
        refine g_getR (pc := 69) fl_X11_77 dX11_store_69 g5 ?_
        refine g_iload (pc := 72) 0 dX11_store_72 rfl ?_
        refine g_iload (pc := 74) 1 dX11_store_74 rfl ?_
        refine g_bipush (pc := 76) (v := (-4 : Int32)) dX11_store_76 (by decide) ?_
        refine g_iand (pc := 78) dX11_store_78 ?_
        obtain ⟨g14, hf⟩ := gs_some hf
        obtain ⟨b15, hf⟩ := gb_some hf
        obtain ⟨h16, eh16, hf⟩ := lt_some hf
        refine g_iast (pc := 79) g14 b15 dX11_store_79 eh16 ?_
        refine g_aload_n (pc := 80) 3 dX11_store_80 rfl rfl ?_
        have g17 : hS h16 a0 = 10 := (hS_tI eh16 g5)
        refine g_getR (pc := 81) fl_X11_80 dX11_store_81 g17 ?_
        refine g_iload (pc := 84) 0 dX11_store_84 rfl ?_
        refine g_iconst (pc := 86) (v := (1 : Int32)) dX11_store_86 (by decide) ?_
        refine g_iload (pc := 87) 2 dX11_store_87 rfl ?_
        refine g_ishl (pc := 89) dX11_store_89 ?_
        refine g_iconst (pc := 90) (v := (1 : Int32)) dX11_store_90 (by decide) ?_
        refine g_isub (pc := 91) dX11_store_91 ?_
        refine g_iload (pc := 92) 1 dX11_store_92 rfl ?_
        refine g_iconst (pc := 94) (v := (4 : Int32)) dX11_store_94 (by decide) ?_
        refine g_irem (pc := 95) (by decide) dX11_store_95 ?_
        refine g_ishl (pc := 96) dX11_store_96 ?_
        obtain ⟨g18, hf⟩ := gs_some hf
        obtain ⟨b19, hf⟩ := gb_some hf
        obtain ⟨h20, eh20, hf⟩ := lt_some hf
        refine g_iast (pc := 97) g18 b19 dX11_store_97 eh20 ?_
        refine g_sub [3, 4, 7, 2, 1, 0] rfl ?_
        exact ok_X11_store_L98 l X h20 a0 a1 a4 x2 x11 x13 q hf
      · refine g_icne_f (pc := 43) (tgt := 48) dX11_store_43 (by decide) (Decidable.of_not_not c10) ?_
        refine g_iconst (pc := 46) (v := (4 : Int32)) dX11_store_46 (by decide) ?_
        obtain rfl := Option.some.inj hf
        exact g_iret (pc := 47) rfl dX11_store_47
    · refine g_ifeq_f (pc := 21) (tgt := 31) dX11_store_21 (by decide) c4 ?_
      refine g_aload_n (pc := 24) 1 dX11_store_24 rfl rfl ?_
      refine g_iload_n (pc := 25) 2 dX11_store_25 rfl rfl ?_
      refine g_iconst (pc := 26) (v := (4 : Int32)) dX11_store_26 (by decide) ?_
      obtain ⟨g21, hf⟩ := gs_some hf
      obtain ⟨q22, hcq22, hf⟩ := bd_some hf
      refine g_cVI (pc := 27) (k2 := k_X11_stops) (av := [.int a1, .int (4 : Int32)]) (q := q22) rfl dX11_store_27 ck_X11_stops m_1859 m_1861 m_94 (ci := 9) rfl (by decide) g21 (by decide) (by decide) rfl (by simp [rf_cat, rq_cat, ca_i, ca_l, ca_r]) (ct_X11_stops l X hcq22) ?_
      obtain rfl := Option.some.inj hf
      exact g_iret (pc := 30) rfl dX11_store_30
  · refine g_icle_f (pc := 2) (tgt := 12) dX11_store_2 (by decide) c1 ?_
    refine g_aload_n (pc := 5) 0 dX11_store_5 rfl rfl ?_
    refine g_iload_n (pc := 6) 1 dX11_store_6 rfl rfl ?_
    refine g_iconst (pc := 7) (v := (2 : Int32)) dX11_store_7 (by decide) ?_
    obtain ⟨g23, hf⟩ := gs_some hf
    obtain ⟨q24, hcq24, hf⟩ := bd_some hf
    refine g_cVI (pc := 8) (k2 := k_X11_stops) (av := [.int a1, .int (2 : Int32)]) (q := q24) rfl dX11_store_8 ck_X11_stops m_1859 m_1861 m_94 (ci := 9) rfl (by decide) g23 (by decide) (by decide) rfl (by simp [rf_cat, rq_cat, ca_i, ca_l, ca_r]) (ct_X11_stops l X hcq24) ?_
    obtain rfl := Option.some.inj hf
    exact g_iret (pc := 11) rfl dX11_store_11
theorem ct_X11_store (l : Launch) (X : Cx) {h : AH} {a0 : Nat} {a1 : Int32} {a2 : Int32} {a3 : Int32} {a4 : Int32} {q : Int32 × AH} (hf : f_X11_store h a0 a1 a2 a3 a4 = some q) : Ct l X k_X11_store [rf X a0, .int a1, .int a2, .int a3, .int a4] h (rI q) := ct_of ck_X11_store (by simp [lg_sl, rf_cat, rq_cat, ca_i, ca_l, ca_r]) (by simp [lv_args, rf_cat, rq_cat, ca_i, ca_l, ca_r]) (ok_X11_store l X hf)
