def f_X10_assemble (h : AH) (a0 : Nat) : Option (Option Int32 × AH) :=
  gs h a0 9 <|
  gs h (hR h a0 1) 1 <|
  bd (f_X1_translate h (hR h a0 1)) fun q3 =>
  lt (q3.1) fun x4 =>
  gs q3.2 a0 9 <|
  gs q3.2 (hR q3.2 a0 0) 7 <|
  bd (f_X8_clear q3.2 (hR q3.2 a0 0)) fun q7 =>
  gs q7 a0 9 <|
  gs q7 (hR q7 a0 1) 1 <|
  lt (sI q7 a0 7 (hI q7 (hR q7 a0 1) 16)) fun h10 =>
  gs h10 (hR h10 a0 1) 1 <|
  lt (sI h10 a0 8 (hI h10 (hR h10 a0 1) 17)) fun h13 =>
  if (hI h13 a0 7) = 0 then
    bd (f_X10_beginAnew h13 a0) fun q16 =>
    some (some x4, q16)
  else
    some (none, hT h13)
def f_X10_step (h : AH) (a0 : Nat) (a1 : Int32) : Option (Option Int32 × AH) :=
  gs h a0 9 <|
  bd (f_X10_isCore h a0 a1) fun v2 =>
  if ¬ v2 = 0 then
    gs h (hR h a0 4) 25 <|
    gb (ib a1 (hN h (hR h a0 4))) <|
    gs h (hR h (hR h a0 4) a1.toNatClampNeg) 3 <|
    bd (f_X3_advance h (hR h (hR h a0 4) a1.toNatClampNeg)) fun q7 =>
    some (some q7.1, q7.2)
  else
    some (none, hT h)
def f_X10_drain (h : AH) (a0 : Nat) (a1 : Int32) : Option (Option Int32 × AH) :=
  gs h a0 9 <|
  bd (f_X10_isCore h a0 a1) fun v2 =>
  if ¬ v2 = 0 then
    gs h (hR h a0 4) 25 <|
    gb (ib a1 (hN h (hR h a0 4))) <|
    gs h (hR h (hR h a0 4) a1.toNatClampNeg) 3 <|
    bd (f_X3_settle h (hR h (hR h a0 4) a1.toNatClampNeg)) fun q7 =>
    some (some q7.1, q7.2)
  else
    some (none, hT h)
def f_X10_run_L12 (h : AH) : Option (Option Int32 × AH) :=
  some (none, hT h)
def f_X10_run_L107 (k29 : AH → Nat → Int32 → Int32 → Int32 → Option (Option Int32 × AH)) (h : AH) (a0 : Nat) (a1 : Int32) (a2 : Int32) (a3 : Int32) : Option (Option Int32 × AH) :=
  lt (a3 + (1 : Int32)) fun x1 =>
  k29 h a0 a1 a2 x1
def f_X10_run_L80 (k29 : AH → Nat → Int32 → Int32 → Int32 → Option (Option Int32 × AH)) : Nat → AH → Nat → Int32 → Int32 → Int32 → Int32 → Option (Option Int32 × AH)
  | 0, _, _, _, _, _, _ => none
  | n + 1, h, a0, a1, a2, a3, a4 =>
    if a4 ≤ 0 then
      f_X10_run_L107 k29 h a0 a1 a2 a3
    else
      gs h a0 9 <|
      gs h (hR h a0 2) 5 <|
      if (hI h (hR h a0 2) 1) ≤ 0 then
        f_X10_run_L107 k29 h a0 a1 a2 a3
      else
        bd (f_X10_carry h a0 (0 : Int32)) fun q5 =>
        lt (a4 + (-1 : Int32)) fun x6 =>
        f_X10_run_L80 k29 n q5.2 a0 a1 a2 a3 x6
def f_X10_run_L37 (k29 : AH → Nat → Int32 → Int32 → Int32 → Option (Option Int32 × AH)) : Nat → AH → Nat → Int32 → Int32 → Int32 → Int32 → Option (Option Int32 × AH)
  | 0, _, _, _, _, _, _ => none
  | n + 1, h, a0, a1, a2, a3, a4 =>
    gs h a0 9 <|
    gs h (hR h a0 5) 21 <|
    gb (ib (0 : Int32) (hN h (hR h a0 5))) <|
    if (hI h (hR h a0 5) (0 : Int32).toNatClampNeg) ≤ a4 then
      lt ((1000000 : Int32)) fun x5 =>
      f_X10_run_L80 k29 FU h a0 a1 a2 a3 x5
    else
      gs h (hR h a0 4) 25 <|
      gb (ib a4 (hN h (hR h a0 4))) <|
      gs h (hR h (hR h a0 4) a4.toNatClampNeg) 3 <|
      bd (f_X3_advance h (hR h (hR h a0 4) a4.toNatClampNeg)) fun q9 =>
      gs q9.2 a0 9 <|
      gs q9.2 (hR q9.2 a0 4) 25 <|
      gb (ib a4 (hN q9.2 (hR q9.2 a0 4))) <|
      gs q9.2 (hR q9.2 (hR q9.2 a0 4) a4.toNatClampNeg) 3 <|
      bd (f_X3_settle q9.2 (hR q9.2 (hR q9.2 a0 4) a4.toNatClampNeg)) fun q14 =>
      lt (a4 + (1 : Int32)) fun x15 =>
      f_X10_run_L37 k29 n q14.2 a0 a1 a2 a3 x15
def f_X10_run_L29 : Nat → AH → Nat → Int32 → Int32 → Int32 → Option (Option Int32 × AH)
  | 0, _, _, _, _, _ => none
  | n + 1, h, a0, a1, a2, a3 =>
    if a1 ≤ a3 then
      gs h a0 9 <|
      bd (f_X10_retired h a0) fun v3 =>
      some (some (v3 - a2), h)
    else
      lt ((0 : Int32)) fun x4 =>
      f_X10_run_L37 (f_X10_run_L29 n) FU h a0 a1 a2 a3 x4
def f_X10_run (h : AH) (a0 : Nat) (a1 : Int32) : Option (Option Int32 × AH) :=
  if a1 < (1 : Int32) then
    f_X10_run_L12 h
  else
    if a1 ≤ (200 : Int32) then
      gs h a0 9 <|
      bd (f_X10_retired h a0) fun v4 =>
      lt ((0 : Int32)) fun x5 =>
      f_X10_run_L29 FU h a0 a1 v4 x5
    else
      f_X10_run_L12 h
def f_X10_play_L318 (k76 : AH → Nat → Int32 → Int32 → Int32 → Option (Option Int32 × AH)) (h : AH) (a0 : Nat) (a2 : Int32) (a3 : Int32) (a4 : Int32) : Option (Option Int32 × AH) :=
  lt (a4 + (1 : Int32)) fun x1 =>
  k76 h a0 a2 a3 x1
def f_X10_play_L307 (k76 : AH → Nat → Int32 → Int32 → Int32 → Option (Option Int32 × AH)) (h : AH) (a0 : Nat) (a2 : Int32) (a3 : Int32) (a4 : Int32) (a5 : Int32) (s0 : Nat) (s1 : Int32) (s2 : Int32) : Option (Option Int32 × AH) :=
  gs h s0 9 <|
  lt (sI h s0 10 (s1 + s2)) fun h2 =>
  lt ((a4 + a5)) fun x3 =>
  f_X10_play_L318 k76 h2 a0 a2 a3 x3
def f_X10_play_L282 (k76 : AH → Nat → Int32 → Int32 → Int32 → Option (Option Int32 × AH)) (h : AH) (a0 : Nat) (a2 : Int32) (a3 : Int32) (a4 : Int32) (a5 : Int32) (a8 : Int32) : Option (Option Int32 × AH) :=
  gs h a0 9 <|
  lt (sI h a0 9 ((hI h a0 9) + (1 : Int32))) fun h2 =>
  if a8 = 0 then
    f_X10_play_L307 k76 h2 a0 a2 a3 a4 a5 a0 (hI h2 a0 10) (1 : Int32)
  else
    f_X10_play_L307 k76 h2 a0 a2 a3 a4 a5 a0 (hI h2 a0 10) (0 : Int32)
def f_X10_play_L243 (k76 : AH → Nat → Int32 → Int32 → Int32 → Option (Option Int32 × AH)) (h : AH) (a0 : Nat) (a2 : Int32) (a3 : Int32) (a4 : Int32) (a5 : Int32) (s0 : Int32) : Option (Option Int32 × AH) :=
  f_X10_play_L282 k76 h a0 a2 a3 a4 a5 s0
def f_X10_play_L242 (k76 : AH → Nat → Int32 → Int32 → Int32 → Option (Option Int32 × AH)) (h : AH) (a0 : Nat) (a2 : Int32) (a3 : Int32) (a4 : Int32) (a5 : Int32) : Option (Option Int32 × AH) :=
  f_X10_play_L243 k76 h a0 a2 a3 a4 a5 (0 : Int32)
def f_X10_play_L211 (k76 : AH → Nat → Int32 → Int32 → Int32 → Option (Option Int32 × AH)) (h : AH) (a0 : Nat) (a2 : Int32) (a3 : Int32) (a4 : Int32) (a5 : Int32) (s0 : Int32) : Option (Option Int32 × AH) :=
  f_X10_play_L282 k76 h a0 a2 a3 a4 a5 s0
def f_X10_play_L210 (k76 : AH → Nat → Int32 → Int32 → Int32 → Option (Option Int32 × AH)) (h : AH) (a0 : Nat) (a2 : Int32) (a3 : Int32) (a4 : Int32) (a5 : Int32) : Option (Option Int32 × AH) :=
  f_X10_play_L211 k76 h a0 a2 a3 a4 a5 (0 : Int32)
def f_X10_play_L76 : Nat → AH → Nat → Int32 → Int32 → Int32 → Option (Option Int32 × AH)
  | 0, _, _, _, _, _ => none
  | n + 1, h, a0, a2, a3, a4 =>
    if a2 ≤ a4 then
      gs h a0 9 <|
      some (some ((hI h a0 10) - a3), h)
    else
      gs h a0 9 <|
      gs h (hR h a0 0) 7 <|
      gs h (hR h (hR h a0 0) 0) 23 <|
      gb (ib a4 (hN h (hR h (hR h a0 0) 0))) <|
      bd (f_X8_digitsBehind h (hI h (hR h (hR h a0 0) 0) a4.toNatClampNeg)) fun v7 =>
      if v7 ≤ 0 then
        f_X10_play_L318 (f_X10_play_L76 n) h a0 a2 a3 a4
      else
        gb (ib (a4 + (1 : Int32)) (hN h (hR h (hR h a0 0) 0))) <|
        bd (f_X8_digit h (hI h (hR h (hR h a0 0) 0) (a4 + (1 : Int32)).toNatClampNeg)) fun v10 =>
        gb (ib (a4 + v7) (hN h (hR h (hR h a0 0) 0))) <|
        bd (f_X8_digit h (hI h (hR h (hR h a0 0) 0) (a4 + v7).toNatClampNeg)) fun v12 =>
        bd (f_X10_growWaits h a0) fun q13 =>
        gs q13 a0 9 <|
        gs q13 (hR q13 a0 0) 7 <|
        gs q13 (hR q13 (hR q13 a0 0) 0) 23 <|
        gb (ib a4 (hN q13 (hR q13 (hR q13 a0 0) 0))) <|
        if (hI q13 (hR q13 (hR q13 a0 0) 0) a4.toNatClampNeg) = (100 : Int32) then
          bd (f_X10_isCore q13 a0 v10) fun v19 =>
          if v19 = 0 then
            f_X10_play_L242 (f_X10_play_L76 n) q13 a0 a2 a3 a4 v7
          else
            gs q13 (hR q13 a0 4) 25 <|
            gb (ib v10 (hN q13 (hR q13 a0 4))) <|
            gs q13 (hR q13 (hR q13 a0 4) v10.toNatClampNeg) 3 <|
            bd (f_X3_settle q13 (hR q13 (hR q13 a0 4) v10.toNatClampNeg)) fun q24 =>
            if q24.1 = 0 then
              f_X10_play_L242 (f_X10_play_L76 n) q24.2 a0 a2 a3 a4 v7
            else
              f_X10_play_L243 (f_X10_play_L76 n) q24.2 a0 a2 a3 a4 v7 (1 : Int32)
        else
          if (hI q13 (hR q13 (hR q13 a0 0) 0) a4.toNatClampNeg) = (109 : Int32) then
            bd (f_X10_carry q13 a0 (((16 : Int32) * v10) + v12)) fun q27 =>
            lt (q27.1) fun x28 =>
            f_X10_play_L282 (f_X10_play_L76 n) q27.2 a0 a2 a3 a4 v7 x28
          else
            if (hI q13 (hR q13 (hR q13 a0 0) 0) a4.toNatClampNeg) = (115 : Int32) then
              bd (f_X10_isCore q13 a0 v10) fun v30 =>
              if v30 = 0 then
                f_X10_play_L210 (f_X10_play_L76 n) q13 a0 a2 a3 a4 v7
              else
                gs q13 (hR q13 a0 4) 25 <|
                gb (ib v10 (hN q13 (hR q13 a0 4))) <|
                gs q13 (hR q13 (hR q13 a0 4) v10.toNatClampNeg) 3 <|
                bd (f_X3_advance q13 (hR q13 (hR q13 a0 4) v10.toNatClampNeg)) fun q35 =>
                if q35.1 = 0 then
                  f_X10_play_L210 (f_X10_play_L76 n) q35.2 a0 a2 a3 a4 v7
                else
                  f_X10_play_L211 (f_X10_play_L76 n) q35.2 a0 a2 a3 a4 v7 (1 : Int32)
            else
              gs q13 (hR q13 a0 2) 5 <|
              bd (f_X6_placeOn q13 (hR q13 a0 2) v10 v12) fun v38 =>
              bd (f_X10_carry q13 a0 v38) fun q39 =>
              lt (q39.1) fun x40 =>
              f_X10_play_L282 (f_X10_play_L76 n) q39.2 a0 a2 a3 a4 v7 x40
def f_X10_play_L33 (h : AH) (a0 : Nat) (s0 : Nat) (s1 : Int32) : Option (Option Int32 × AH) :=
  gs h s0 9 <|
  lt (sI h s0 8 s1) fun h2 =>
  gs h2 a0 9 <|
  gs h2 (hR h2 a0 0) 7 <|
  lt ((hI h2 (hR h2 a0 0) 1)) fun x5 =>
  bd (f_X8_clear h2 (hR h2 a0 0)) fun q6 =>
  gs q6 a0 9 <|
  if (hI q6 a0 7) = 0 then
    lt ((hI q6 a0 10)) fun x9 =>
    lt ((0 : Int32)) fun x10 =>
    f_X10_play_L76 FU q6 a0 x5 x9 x10
  else
    some (none, hT q6)
def f_X10_play_L19 (h : AH) (a0 : Nat) (a1 : Int32) (s0 : Nat) (s1 : Int32) : Option (Option Int32 × AH) :=
  gs h s0 9 <|
  lt (sI h s0 7 s1) fun h2 =>
  if ¬ a1 = (-1 : Int32) then
    f_X10_play_L33 h2 a0 a0 a1
  else
    f_X10_play_L33 h2 a0 a0 (0 : Int32)
def f_X10_play (h : AH) (a0 : Nat) : Option (Option Int32 × AH) :=
  gs h a0 9 <|
  gs h (hR h a0 0) 7 <|
  bd (f_X8_scheduleFault h (hR h a0 0)) fun v3 =>
  if ¬ v3 = (-1 : Int32) then
    f_X10_play_L19 h a0 v3 a0 (4 : Int32)
  else
    f_X10_play_L19 h a0 v3 a0 (0 : Int32)
def f_X10_trace_L34 (h : AH) : Option (Option Int32 × AH) :=
  some (none, hT h)
def f_X10_trace (h : AH) (a0 : Nat) (a1 : Int32) (a2 : Int32) (a3 : Int32) : Option (Option Int32 × AH) :=
  gs h a0 9 <|
  bd (f_X10_isCore h a0 a1) fun v2 =>
  if v2 = 0 then
    f_X10_trace_L34 h
  else
    gs h (hR h a0 4) 25 <|
    gb (ib a1 (hN h (hR h a0 4))) <|
    gs h (hR h (hR h a0 4) a1.toNatClampNeg) 3 <|
    gs h (hR h (hR h (hR h a0 4) a1.toNatClampNeg) 7) 8 <|
    bd (f_X9_has h (hR h (hR h (hR h a0 4) a1.toNatClampNeg) 7) a2) fun v8 =>
    if v8 = 0 then
      f_X10_trace_L34 h
    else
      if a3 < 0 then
        f_X10_trace_L34 h
      else
        if a3 < (8 : Int32) then
          gb (ib a1 (hN h (hR h a0 4))) <|
          bd (f_X9_get h (hR h (hR h (hR h a0 4) a1.toNatClampNeg) 7) a2 a3) fun v13 =>
          some (some v13, h)
        else
          f_X10_trace_L34 h
def f_X10_core_L21 (h : AH) : Option (Option Int32 × AH) :=
  some (none, hT h)
def f_X10_core (h : AH) (a0 : Nat) (a1 : Int32) (a2 : Int32) : Option (Option Int32 × AH) :=
  gs h a0 9 <|
  bd (f_X10_isCore h a0 a1) fun v2 =>
  if v2 = 0 then
    f_X10_core_L21 h
  else
    gs h (hR h a0 4) 25 <|
    gb (ib a1 (hN h (hR h a0 4))) <|
    gs h (hR h (hR h a0 4) a1.toNatClampNeg) 3 <|
    bd (f_X3_tells h (hR h (hR h a0 4) a1.toNatClampNeg) a2) fun v7 =>
    if ¬ v7 = 0 then
      gb (ib a1 (hN h (hR h a0 4))) <|
      bd (f_X3_tell h (hR h (hR h a0 4) a1.toNatClampNeg) a2) fun v10 =>
      some (some v10, h)
    else
      f_X10_core_L21 h
def f_X10_copy_L34 (h : AH) (a0 : Nat) (a1 : Int32) (a2 : Int32) (s0 : Int32) : Option (Option Int32 × AH) :=
  if 0 ≤ s0 then
    gs h a0 9 <|
    gs h (hR h a0 4) 25 <|
    gb (ib a1 (hN h (hR h a0 4))) <|
    gs h (hR h (hR h a0 4) a1.toNatClampNeg) 3 <|
    gs h (hR h (hR h (hR h a0 4) a1.toNatClampNeg) 6) 2 <|
    bd (f_X10_wordOf h s0 a2) fun v7 =>
    gs h (hR h (hR h (hR h (hR h a0 4) a1.toNatClampNeg) 6) 3) 21 <|
    gb (ib v7 (hN h (hR h (hR h (hR h (hR h a0 4) a1.toNatClampNeg) 6) 3))) <|
    some (some (hI h (hR h (hR h (hR h (hR h a0 4) a1.toNatClampNeg) 6) 3) v7.toNatClampNeg), h)
  else
    some (none, hT h)
def f_X10_copy_L33 (h : AH) (a0 : Nat) (a1 : Int32) (a2 : Int32) : Option (Option Int32 × AH) :=
  f_X10_copy_L34 h a0 a1 a2 (-1 : Int32)
def f_X10_copy (h : AH) (a0 : Nat) (a1 : Int32) (a2 : Int32) : Option (Option Int32 × AH) :=
  gs h a0 9 <|
  bd (f_X10_isCore h a0 a1) fun v2 =>
  if v2 = 0 then
    f_X10_copy_L33 h a0 a1 a2
  else
    bd (f_X10_isWord h a2) fun v4 =>
    if v4 = 0 then
      f_X10_copy_L33 h a0 a1 a2
    else
      gs h (hR h a0 4) 25 <|
      gb (ib a1 (hN h (hR h a0 4))) <|
      gs h (hR h (hR h a0 4) a1.toNatClampNeg) 3 <|
      gs h (hR h (hR h (hR h a0 4) a1.toNatClampNeg) 6) 2 <|
      bd (f_X2_find h (hR h (hR h (hR h a0 4) a1.toNatClampNeg) 6) (a2 >>> ((4 : Int32) &&& 31))) fun v10 =>
      f_X10_copy_L34 h a0 a1 a2 v10
def f_X10_home_L38 (h : AH) : Option (Option Int32 × AH) :=
  some (none, hT h)
def f_X10_home_L23 (h : AH) (a0 : Nat) (a2 : Int32) (s0 : Int32) : Option (Option Int32 × AH) :=
  if s0 < 0 then
    f_X10_home_L38 h
  else
    if a2 < 0 then
      f_X10_home_L38 h
    else
      if a2 ≤ (9 : Int32) then
        gs h a0 9 <|
        gs h (hR h a0 3) 4 <|
        bd (f_X4_tell h (hR h a0 3) s0 a2) fun v6 =>
        some (some v6, h)
      else
        f_X10_home_L38 h
def f_X10_home_L22 (h : AH) (a0 : Nat) (a2 : Int32) : Option (Option Int32 × AH) :=
  f_X10_home_L23 h a0 a2 (-1 : Int32)
def f_X10_home (h : AH) (a0 : Nat) (a1 : Int32) (a2 : Int32) : Option (Option Int32 × AH) :=
  if a1 < 0 then
    f_X10_home_L22 h a0 a2
  else
    if (512 : Int32) ≤ a1 then
      f_X10_home_L22 h a0 a2
    else
      gs h a0 9 <|
      gs h (hR h a0 3) 4 <|
      bd (f_X4_find h (hR h a0 3) a1) fun v5 =>
      f_X10_home_L23 h a0 a2 v5
def f_X10_memory (h : AH) (a0 : Nat) (a1 : Int32) : Option (Option Int32 × AH) :=
  bd (f_X10_isWord h a1) fun v1 =>
  if ¬ v1 = 0 then
    gs h a0 9 <|
    gs h (hR h a0 3) 4 <|
    gs h (hR h (hR h a0 3) 1) 21 <|
    gb (ib (a1 >>> ((2 : Int32) &&& 31)) (hN h (hR h (hR h a0 3) 1))) <|
    some (some (hI h (hR h (hR h a0 3) 1) (a1 >>> ((2 : Int32) &&& 31)).toNatClampNeg), h)
  else
    some (none, hT h)
def f_X10_word (h : AH) (a0 : Nat) (a1 : Int32) : Option (Option Int32 × AH) :=
  bd (f_X10_isWord h a1) fun v1 =>
  if ¬ v1 = 0 then
    gs h a0 9 <|
    gs h (hR h a0 3) 4 <|
    bd (f_X4_find h (hR h a0 3) (a1 >>> ((4 : Int32) &&& 31))) fun v5 =>
    if 0 ≤ v5 then
      gs h (hR h (hR h a0 3) 3) 21 <|
      gb (ib v5 (hN h (hR h (hR h a0 3) 3))) <|
      lt ((hI h (hR h (hR h a0 3) 3) v5.toNatClampNeg)) fun x9 =>
      bd (f_X10_isCore h a0 x9) fun v10 =>
      if v10 = 0 then
        bd (f_X10_wordOf h v5 a1) fun v12 =>
        gs h (hR h (hR h a0 3) 10) 21 <|
        gb (ib v12 (hN h (hR h (hR h a0 3) 10))) <|
        some (some (hI h (hR h (hR h a0 3) 10) v12.toNatClampNeg), h)
      else
        gs h (hR h a0 4) 25 <|
        gb (ib x9 (hN h (hR h a0 4))) <|
        bd (f_X10_lent h a0 (hR h (hR h a0 4) x9.toNatClampNeg) v5 a1) fun v17 =>
        some (some v17, h)
    else
      gs h (hR h (hR h a0 3) 1) 21 <|
      gb (ib (a1 >>> ((2 : Int32) &&& 31)) (hN h (hR h (hR h a0 3) 1))) <|
      some (some (hI h (hR h (hR h a0 3) 1) (a1 >>> ((2 : Int32) &&& 31)).toNatClampNeg), h)
  else
    some (none, hT h)
def f_X10_message_L25 (h : AH) : Option (Option Int32 × AH) :=
  some (none, hT h)
def f_X10_message (h : AH) (a0 : Nat) (a1 : Int32) (a2 : Int32) : Option (Option Int32 × AH) :=
  if a1 < 0 then
    f_X10_message_L25 h
  else
    gs h a0 9 <|
    gs h (hR h a0 2) 5 <|
    if (hI h (hR h a0 2) 1) ≤ a1 then
      f_X10_message_L25 h
    else
      if a2 < 0 then
        f_X10_message_L25 h
      else
        if a2 ≤ (9 : Int32) then
          if ¬ a2 = (9 : Int32) then
            bd (f_X6_get h (hR h a0 2) a1 a2) fun v8 =>
            some (some v8, h)
          else
            bd (f_X6_get h (hR h a0 2) a1 (0 : Int32)) fun v9 =>
            gb (ib v9 11) <|
            some (some (tCH.getD v9.toNatClampNeg 0), h)
        else
          f_X10_message_L25 h
