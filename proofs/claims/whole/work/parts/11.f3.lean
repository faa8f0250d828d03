def f_X11_bring_L46 : Nat → AH → Nat → Int32 → Option (AH)
  | 0, _, _, _ => none
  | n + 1, h, a0, a2 =>
    gs h a0 10 <|
    if ((9 : Int32) * (hI h a0 59)) ≤ a2 then
      lt (sI h a0 63 ((hI h a0 63) + (1 : Int32))) fun h3 =>
      gs h3 (hR h3 a0 80) 21 <|
      gb (ib (2 : Int32) (hN h3 (hR h3 a0 80))) <|
      if ¬ (hI h3 (hR h3 a0 80) (2 : Int32).toNatClampNeg) = (16 : Int32) then
        gb (ib (2 : Int32) (hN h3 (hR h3 a0 80))) <|
        bd (f_X11_atCore h3 a0 (hI h3 (hR h3 a0 80) (2 : Int32).toNatClampNeg)) fun q9 =>
        some q9
      else
        bd (f_X11_atHome h3 a0) fun q10 =>
        some q10
    else
      gs h (hR h a0 60) 21 <|
      gb (ib (a2 + (9 : Int32)) (hN h (hR h a0 60))) <|
      gb (ib a2 (hN h (hR h a0 60))) <|
      lt (sI h (hR h a0 60) a2.toNatClampNeg (hI h (hR h a0 60) (a2 + (9 : Int32)).toNatClampNeg)) fun h14 =>
      lt (a2 + (1 : Int32)) fun x15 =>
      f_X11_bring_L46 n h14 a0 x15
def f_X11_bring_L2 : Nat → AH → Nat → Int32 → Int32 → Option (AH)
  | 0, _, _, _, _ => none
  | n + 1, h, a0, a1, a2 =>
    if (9 : Int32) ≤ a2 then
      gs h a0 10 <|
      lt (sI h a0 59 ((hI h a0 59) - (1 : Int32))) fun h3 =>
      lt (((9 : Int32) * a1)) fun x4 =>
      f_X11_bring_L46 FU h3 a0 x4
    else
      gs h a0 10 <|
      gs h (hR h a0 60) 21 <|
      gb (ib (((9 : Int32) * a1) + a2) (hN h (hR h a0 60))) <|
      gs h (hR h a0 80) 21 <|
      gb (ib a2 (hN h (hR h a0 80))) <|
      lt (sI h (hR h a0 80) a2.toNatClampNeg (hI h (hR h a0 60) (((9 : Int32) * a1) + a2).toNatClampNeg)) fun h10 =>
      lt (a2 + (1 : Int32)) fun x11 =>
      f_X11_bring_L2 n h10 a0 a1 x11
def f_X11_bring (h : AH) (a0 : Nat) (a1 : Int32) : Option (AH) :=
  lt ((0 : Int32)) fun x1 =>
  f_X11_bring_L2 FU h a0 a1 x1
def f_X11_channelOf_L25 (h : AH)  : Option (Int32) :=
  some (1 : Int32)
def f_X11_channelOf (h : AH) (a0 : Int32) : Option (Int32) :=
  if (2 : Int32) < a0 then
    if a0 = (3 : Int32) then
      f_X11_channelOf_L25 h 
    else
      if a0 = (4 : Int32) then
        f_X11_channelOf_L25 h 
      else
        if ¬ a0 = (9 : Int32) then
          some (2 : Int32)
        else
          f_X11_channelOf_L25 h 
  else
    some (0 : Int32)
def f_X11_isCore (h : AH) (a0 : Nat) (a1 : Int32) : Option (Int32) :=
  if a1 < 0 then
    some (0 : Int32)
  else
    gs h a0 10 <|
    gs h (hR h a0 21) 21 <|
    gb (ib (0 : Int32) (hN h (hR h a0 21))) <|
    if (hI h (hR h a0 21) (0 : Int32).toNatClampNeg) ≤ a1 then
      some (0 : Int32)
    else
      some (1 : Int32)
def f_X11_step_L14 (h : AH) (a0 : Nat) (a1 : Int32) (s0 : Nat) (s1 : Int32) : Option (Int32 × AH) :=
  gs h s0 10 <|
  lt (sI h s0 0 s1) fun h2 =>
  gs h2 a0 10 <|
  if (hI h2 a0 0) = 0 then
    bd (f_X11_stepOf h2 a0 a1) fun q5 =>
    some (q5.1, q5.2)
  else
    some ((0 : Int32), h2)
def f_X11_step (h : AH) (a0 : Nat) (a1 : Int32) : Option (Int32 × AH) :=
  gs h a0 10 <|
  bd (f_X11_isCore h a0 a1) fun v2 =>
  if v2 = 0 then
    f_X11_step_L14 h a0 a1 a0 (1 : Int32)
  else
    f_X11_step_L14 h a0 a1 a0 (0 : Int32)
def f_X11_drain_L14 (h : AH) (a0 : Nat) (a1 : Int32) (s0 : Nat) (s1 : Int32) : Option (Int32 × AH) :=
  gs h s0 10 <|
  lt (sI h s0 0 s1) fun h2 =>
  gs h2 a0 10 <|
  if (hI h2 a0 0) = 0 then
    bd (f_X11_drainOf h2 a0 a1) fun q5 =>
    some (q5.1, q5.2)
  else
    some ((0 : Int32), h2)
def f_X11_drain (h : AH) (a0 : Nat) (a1 : Int32) : Option (Int32 × AH) :=
  gs h a0 10 <|
  bd (f_X11_isCore h a0 a1) fun v2 =>
  if v2 = 0 then
    f_X11_drain_L14 h a0 a1 a0 (1 : Int32)
  else
    f_X11_drain_L14 h a0 a1 a0 (0 : Int32)
def f_X11_brings (h : AH) (a0 : Nat) (a1 : Int32) : Option (Int32 × AH) :=
  if a1 < 0 then
    some ((0 : Int32), h)
  else
    gs h a0 10 <|
    if a1 < (hI h a0 59) then
      bd (f_X11_bring h a0 a1) fun q4 =>
      some ((1 : Int32), q4)
    else
      some ((0 : Int32), h)
def f_X11_deliver (h : AH) (a0 : Nat) (a1 : Int32) : Option (Int32 × AH) :=
  gs h a0 10 <|
  lt (sI h a0 0 (0 : Int32)) fun h2 =>
  bd (f_X11_brings h2 a0 a1) fun q4 =>
  gb (q4.1 == 0 || q4.1 == 1) <|
  some (q4.1, q4.2)
def f_X11_bringsOn_L53 (k5 : AH → Nat → Int32 → Int32 → Int32 → Int32 → Option (Int32 × AH)) (h : AH) (a0 : Nat) (a1 : Int32) (a2 : Int32) (a3 : Int32) (a4 : Int32) : Option (Int32 × AH) :=
  lt (a4 + (1 : Int32)) fun x1 =>
  k5 h a0 a1 a2 a3 x1
def f_X11_bringsOn_L5 : Nat → AH → Nat → Int32 → Int32 → Int32 → Int32 → Option (Int32 × AH)
  | 0, _, _, _, _, _, _ => none
  | n + 1, h, a0, a1, a2, a3, a4 =>
    gs h a0 10 <|
    if (hI h a0 59) ≤ a4 then
      some ((0 : Int32), h)
    else
      if a2 < 0 then
        some ((0 : Int32), h)
      else
        gs h (hR h a0 60) 21 <|
        gb (ib ((9 : Int32) * a4) (hN h (hR h a0 60))) <|
        bd (f_X11_channelOf h (hI h (hR h a0 60) ((9 : Int32) * a4).toNatClampNeg)) fun v6 =>
        if v6 = a1 then
          if ¬ a3 = 0 then
            lt (a3 + (-1 : Int32)) fun x9 =>
            f_X11_bringsOn_L53 (f_X11_bringsOn_L5 n) h a0 a1 a2 x9 a4
          else
            bd (f_X11_bring h a0 a4) fun q10 =>
            some ((1 : Int32), q10)
        else
          f_X11_bringsOn_L53 (f_X11_bringsOn_L5 n) h a0 a1 a2 a3 a4
def f_X11_bringsOn (h : AH) (a0 : Nat) (a1 : Int32) (a2 : Int32) : Option (Int32 × AH) :=
  lt ((0 : Int32)) fun x1 =>
  f_X11_bringsOn_L5 FU h a0 a1 a2 a2 x1
def f_X11_deliverOn (h : AH) (a0 : Nat) (a1 : Int32) (a2 : Int32) : Option (Int32 × AH) :=
  gs h a0 10 <|
  lt (sI h a0 0 (0 : Int32)) fun h2 =>
  bd (f_X11_bringsOn h2 a0 a1 a2) fun q4 =>
  gb (q4.1 == 0 || q4.1 == 1) <|
  some (q4.1, q4.2)
def f_X11_run_L12 (h : AH) (a0 : Nat) : Option (Int32 × AH) :=
  gs h a0 10 <|
  bd (f_X11_raise h a0 (1 : Int32)) fun q2 =>
  some (q2.1, q2.2)
def f_X11_run_L69 (k30 : AH → Nat → Int32 → Int32 → Int32 → Option (Int32 × AH)) : Nat → AH → Nat → Int32 → Int32 → Int32 → Option (Int32 × AH)
  | 0, _, _, _, _, _ => none
  | n + 1, h, a0, a1, a2, a3 =>
    gs h a0 10 <|
    if (hI h a0 59) ≤ 0 then
      lt (a3 + (1 : Int32)) fun x3 =>
      k30 h a0 a1 a2 x3
    else
      bd (f_X11_bring h a0 (0 : Int32)) fun q4 =>
      f_X11_run_L69 k30 n q4 a0 a1 a2 a3
def f_X11_run_L38 (k30 : AH → Nat → Int32 → Int32 → Int32 → Option (Int32 × AH)) : Nat → AH → Nat → Int32 → Int32 → Int32 → Int32 → Option (Int32 × AH)
  | 0, _, _, _, _, _, _ => none
  | n + 1, h, a0, a1, a2, a3, a4 =>
    gs h a0 10 <|
    gs h (hR h a0 21) 21 <|
    gb (ib (0 : Int32) (hN h (hR h a0 21))) <|
    if (hI h (hR h a0 21) (0 : Int32).toNatClampNeg) ≤ a4 then
      f_X11_run_L69 k30 FU h a0 a1 a2 a3
    else
      bd (f_X11_stepOf h a0 a4) fun q5 =>
      gs q5.2 a0 10 <|
      bd (f_X11_drainOf q5.2 a0 a4) fun q7 =>
      lt (a4 + (1 : Int32)) fun x8 =>
      f_X11_run_L38 k30 n q7.2 a0 a1 a2 a3 x8
def f_X11_run_L30 : Nat → AH → Nat → Int32 → Int32 → Int32 → Option (Int32 × AH)
  | 0, _, _, _, _, _ => none
  | n + 1, h, a0, a1, a2, a3 =>
    if a1 ≤ a3 then
      gs h a0 10 <|
      some (((hI h a0 62) - a2), h)
    else
      lt ((0 : Int32)) fun x3 =>
      f_X11_run_L38 (f_X11_run_L30 n) FU h a0 a1 a2 a3 x3
def f_X11_run (h : AH) (a0 : Nat) (a1 : Int32) : Option (Int32 × AH) :=
  if a1 < (1 : Int32) then
    f_X11_run_L12 h a0
  else
    if a1 ≤ (200 : Int32) then
      gs h a0 10 <|
      lt (sI h a0 0 (0 : Int32)) fun h4 =>
      lt ((hI h4 a0 62)) fun x6 =>
      lt ((0 : Int32)) fun x7 =>
      f_X11_run_L30 FU h4 a0 a1 x6 x7
    else
      f_X11_run_L12 h a0
def f_X11_digitAt (h : AH) (a0 : Nat) (a1 : Int32) : Option (Int32) :=
  gs h a0 10 <|
  bd (f_X11_see h a0 a1) fun v2 =>
  bd (f_X11_isHex h v2) fun v3 =>
  if v3 = 0 then
    some (-1 : Int32)
  else
    bd (f_X11_see h a0 a1) fun v5 =>
    bd (f_X11_isDigit h v5) fun v6 =>
    if v6 = 0 then
      bd (f_X11_see h a0 a1) fun v8 =>
      some ((v8 - (97 : Int32)) + (10 : Int32))
    else
      bd (f_X11_see h a0 a1) fun v9 =>
      some (v9 - (48 : Int32))
def f_X11_endOf_L95 (h : AH) (a4 : Int32) : Option (Int32) :=
  some ((-1 : Int32) - a4)
def f_X11_endOf_L100 (h : AH) (k53 : Nat → Int32 → Int32 → Int32 → Int32 → Option (Int32)) (a0 : Nat) (a1 : Int32) (a2 : Int32) (a3 : Int32) (a4 : Int32) : Option (Int32) :=
  lt (a4 + (1 : Int32)) fun x1 =>
  k53 a0 a1 a2 a3 x1
def f_X11_endOf_L53 (h : AH) : Nat → Nat → Int32 → Int32 → Int32 → Int32 → Option (Int32)
  | 0, _, _, _, _, _ => none
  | n + 1, a0, a1, a2, a3, a4 =>
    if (a1 + a3) < a4 then
      some ((a1 + (1 : Int32)) + a3)
    else
      gs h a0 10 <|
      bd (f_X11_digitAt h a0 a4) fun v3 =>
      if v3 = (-1 : Int32) then
        f_X11_endOf_L95 h a4
      else
        if ¬ a2 = (114 : Int32) then
          f_X11_endOf_L100 h (f_X11_endOf_L53 h n) a0 a1 a2 a3 a4
        else
          if ¬ a4 = (a1 + (1 : Int32)) then
            f_X11_endOf_L100 h (f_X11_endOf_L53 h n) a0 a1 a2 a3 a4
          else
            bd (f_X11_digitAt h a0 a4) fun v7 =>
            if v7 ≤ (2 : Int32) then
              f_X11_endOf_L100 h (f_X11_endOf_L53 h n) a0 a1 a2 a3 a4
            else
              f_X11_endOf_L95 h a4
def f_X11_endOf_L39 (h : AH) (a0 : Nat) (a1 : Int32) (a2 : Int32) (s0 : Int32) : Option (Int32) :=
  if ¬ s0 = 0 then
    lt ((a1 + (1 : Int32))) fun x2 =>
    f_X11_endOf_L53 h FU a0 a1 a2 s0 x2
  else
    some ((-1 : Int32) - a1)
def f_X11_endOf_L18 (h : AH) (a0 : Nat) (a1 : Int32) (a2 : Int32) : Option (Int32) :=
  f_X11_endOf_L39 h a0 a1 a2 (1 : Int32)
def f_X11_endOf_L34 (h : AH) (a0 : Nat) (a1 : Int32) (a2 : Int32) : Option (Int32) :=
  f_X11_endOf_L39 h a0 a1 a2 (2 : Int32)
def f_X11_endOf (h : AH) (a0 : Nat) (a1 : Int32) : Option (Int32) :=
  gs h a0 10 <|
  bd (f_X11_see h a0 a1) fun v2 =>
  if v2 = (115 : Int32) then
    f_X11_endOf_L18 h a0 a1 v2
  else
    if ¬ v2 = (100 : Int32) then
      if v2 = (109 : Int32) then
        f_X11_endOf_L34 h a0 a1 v2
      else
        if ¬ v2 = (114 : Int32) then
          f_X11_endOf_L39 h a0 a1 v2 (0 : Int32)
        else
          f_X11_endOf_L34 h a0 a1 v2
    else
      f_X11_endOf_L18 h a0 a1 v2
def f_X11_isDone_L100 (h : AH) (s0 : Int32) : Option (Int32 × AH) :=
  gb (s0 == 0 || s0 == 1) <|
  some (s0, h)
def f_X11_isDone (h : AH) (a0 : Nat) (a1 : Int32) : Option (Int32 × AH) :=
  gs h a0 10 <|
  bd (f_X11_see h a0 a1) fun v2 =>
  bd (f_X11_digitAt h a0 (a1 + (1 : Int32))) fun v3 =>
  bd (f_X11_digitAt h a0 (a1 + (2 : Int32))) fun v4 =>
  if ¬ v2 = (115 : Int32) then
    if ¬ v2 = (100 : Int32) then
      if ¬ v2 = (109 : Int32) then
        bd (f_X11_bringsOn h a0 v3 v4) fun q8 =>
        gb (q8.1 == 0 || q8.1 == 1) <|
        some (q8.1, q8.2)
      else
        bd (f_X11_brings h a0 (((16 : Int32) * v3) + v4)) fun q10 =>
        f_X11_isDone_L100 q10.2 q10.1
    else
      gs h (hR h a0 21) 21 <|
      gb (ib (0 : Int32) (hN h (hR h a0 21))) <|
      if (hI h (hR h a0 21) (0 : Int32).toNatClampNeg) ≤ v3 then
        some ((0 : Int32), h)
      else
        bd (f_X11_drainOf h a0 v3) fun q14 =>
        if q14.1 ≤ 0 then
          some ((0 : Int32), q14.2)
        else
          some ((1 : Int32), q14.2)
  else
    gs h (hR h a0 21) 21 <|
    gb (ib (0 : Int32) (hN h (hR h a0 21))) <|
    if (hI h (hR h a0 21) (0 : Int32).toNatClampNeg) ≤ v3 then
      some ((0 : Int32), h)
    else
      bd (f_X11_stepOf h a0 v3) fun q19 =>
      if q19.1 ≤ 0 then
        some ((0 : Int32), q19.2)
      else
        some ((1 : Int32), q19.2)
def f_X11_entry_L107 (h : AH) (s0 : Nat) (s1 : Int32) (s2 : Int32) : Option (AH) :=
  gs h s0 10 <|
  lt (sI h s0 67 (s1 + s2)) fun h2 =>
  some h2
def f_X11_entry_L70 (k2 : AH → Nat → Int32 → Int32 → Option (AH)) (h : AH) (a0 : Nat) (a1 : Int32) (a2 : Int32) (s0 : Nat) (s1 : Int32) (s2 : Int32) : Option (AH) :=
  gs h s0 21 <|
  gb (ib s1 (hN h s0)) <|
  lt (sI h s0 s1.toNatClampNeg s2) fun h3 =>
  lt (a2 + (1 : Int32)) fun x4 =>
  k2 h3 a0 a1 x4
def f_X11_entry_L33 (k2 : AH → Nat → Int32 → Int32 → Option (AH)) (h : AH) (a0 : Nat) (a1 : Int32) (a2 : Int32) (s0 : Nat) (s1 : Int32) (s2 : Int32) (s3 : Int32) : Option (AH) :=
  gs h s0 21 <|
  gb (ib s1 (hN h s0)) <|
  lt (sI h s0 s1.toNatClampNeg (s2 + s3)) fun h3 =>
  gs h3 a0 10 <|
  gs h3 (hR h3 a0 37) 21 <|
  gb (ib a2 (hN h3 (hR h3 a0 37))) <|
  gs h3 (hR h3 a0 38) 21 <|
  gb (ib a2 (hN h3 (hR h3 a0 38))) <|
  if (hI h3 (hR h3 a0 37) a2.toNatClampNeg) ≤ (hI h3 (hR h3 a0 38) a2.toNatClampNeg) then
    gb (ib a2 (hN h3 (hR h3 a0 38))) <|
    f_X11_entry_L70 k2 h3 a0 a1 a2 (hR h3 a0 38) a2 (hI h3 (hR h3 a0 38) a2.toNatClampNeg)
  else
    gb (ib a2 (hN h3 (hR h3 a0 37))) <|
    f_X11_entry_L70 k2 h3 a0 a1 a2 (hR h3 a0 38) a2 (hI h3 (hR h3 a0 37) a2.toNatClampNeg)
def f_X11_entry_L2 : Nat → AH → Nat → Int32 → Int32 → Option (AH)
  | 0, _, _, _, _ => none
  | n + 1, h, a0, a1, a2 =>
    gs h a0 10 <|
    gs h (hR h a0 21) 21 <|
    gb (ib (0 : Int32) (hN h (hR h a0 21))) <|
    if (hI h (hR h a0 21) (0 : Int32).toNatClampNeg) ≤ a2 then
      bd (f_X11_isDone h a0 a1) fun q5 =>
      lt (q5.1) fun x6 =>
      gs q5.2 a0 10 <|
      lt (sI q5.2 a0 66 ((hI q5.2 a0 66) + (1 : Int32))) fun h8 =>
      if x6 = 0 then
        f_X11_entry_L107 h8 a0 (hI h8 a0 67) (1 : Int32)
      else
        f_X11_entry_L107 h8 a0 (hI h8 a0 67) (0 : Int32)
    else
      gs h (hR h a0 37) 21 <|
      gb (ib a2 (hN h (hR h a0 37))) <|
      gs h (hR h a0 27) 21 <|
      gb (ib a2 (hN h (hR h a0 27))) <|
      if ¬ (hI h (hR h a0 27) a2.toNatClampNeg) = 0 then
        f_X11_entry_L33 (f_X11_entry_L2 n) h a0 a1 a2 (hR h a0 37) a2 (hI h (hR h a0 37) a2.toNatClampNeg) (0 : Int32)
      else
        f_X11_entry_L33 (f_X11_entry_L2 n) h a0 a1 a2 (hR h a0 37) a2 (hI h (hR h a0 37) a2.toNatClampNeg) (1 : Int32)
def f_X11_entry (h : AH) (a0 : Nat) (a1 : Int32) : Option (AH) :=
  lt ((0 : Int32)) fun x1 =>
  f_X11_entry_L2 FU h a0 a1 x1
def f_X11_play_L132 (k88 : AH → Nat → Int32 → Int32 → Option (Int32 × AH)) (h : AH) (a0 : Nat) (a2 : Int32) (s0 : Int32) : Option (Int32 × AH) :=
  k88 h a0 s0 a2
def f_X11_play_L111 (k88 : AH → Nat → Int32 → Int32 → Option (Int32 × AH)) (h : AH) (a0 : Nat) (a1 : Int32) (a2 : Int32) : Option (Int32 × AH) :=
  gs h a0 10 <|
  bd (f_X11_see h a0 a1) fun v2 =>
  if ¬ v2 = (32 : Int32) then
    bd (f_X11_endOf h a0 a1) fun v4 =>
    f_X11_play_L132 k88 h a0 a2 v4
  else
    f_X11_play_L132 k88 h a0 a2 (a1 + (1 : Int32))
def f_X11_play_L88 : Nat → AH → Nat → Int32 → Int32 → Option (Int32 × AH)
  | 0, _, _, _, _ => none
  | n + 1, h, a0, a1, a2 =>
    gs h a0 10 <|
    if (hI h a0 2) ≤ a1 then
      lt (sI h a0 2 (0 : Int32)) fun h3 =>
      some (((hI h3 a0 67) - a2), h3)
    else
      bd (f_X11_see h a0 a1) fun v5 =>
      if v5 = (32 : Int32) then
        f_X11_play_L111 (f_X11_play_L88 n) h a0 a1 a2
      else
        bd (f_X11_entry h a0 a1) fun q7 =>
        f_X11_play_L111 (f_X11_play_L88 n) q7 a0 a1 a2
def f_X11_play_L49 (h : AH) (a0 : Nat) (a1 : Int32) : Option (Int32 × AH) :=
  if 0 ≤ a1 then
    gs h a0 10 <|
    lt (sI h a0 0 (0 : Int32)) fun h3 =>
    lt ((hI h3 a0 67)) fun x5 =>
    lt ((0 : Int32)) fun x6 =>
    f_X11_play_L88 FU h3 a0 x6 x5
  else
    gs h a0 10 <|
    lt (sI h a0 3 (4 : Int32)) fun h8 =>
    lt (sI h8 a0 4 ((-1 : Int32) - a1)) fun h10 =>
    lt (sI h10 a0 2 (0 : Int32)) fun h12 =>
    bd (f_X11_raise h12 a0 (1 : Int32)) fun q14 =>
    some (q14.1, q14.2)
def f_X11_play_L45 (k12 : AH → Nat → Int32 → Option (Int32 × AH)) (h : AH) (a0 : Nat) (s0 : Int32) : Option (Int32 × AH) :=
  k12 h a0 s0
def f_X11_play_L12 : Nat → AH → Nat → Int32 → Option (Int32 × AH)
  | 0, _, _, _ => none
  | n + 1, h, a0, a1 =>
    if a1 < 0 then
      f_X11_play_L49 h a0 a1
    else
      gs h a0 10 <|
      if (hI h a0 2) ≤ a1 then
        f_X11_play_L49 h a0 a1
      else
        bd (f_X11_see h a0 a1) fun v4 =>
        if ¬ v4 = (32 : Int32) then
          bd (f_X11_endOf h a0 a1) fun v6 =>
          f_X11_play_L45 (f_X11_play_L12 n) h a0 v6
        else
          f_X11_play_L45 (f_X11_play_L12 n) h a0 (a1 + (1 : Int32))
def f_X11_play (h : AH) (a0 : Nat) : Option (Int32 × AH) :=
  gs h a0 10 <|
  lt (sI h a0 3 (0 : Int32)) fun h2 =>
  lt (sI h2 a0 4 (0 : Int32)) fun h4 =>
  lt ((0 : Int32)) fun x5 =>
  f_X11_play_L12 FU h4 a0 x5
def f_X11_trace_L57 (h : AH) (a0 : Nat) (a1 : Int32) (a2 : Int32) (a3 : Int32) (s0 : Int32) : Option (Int32 × AH) :=
  if ¬ s0 = 0 then
    gs h a0 10 <|
    lt (sI h a0 0 (0 : Int32)) fun h3 =>
    gs h3 (hR h3 a0 28) 21 <|
    gb (ib a1 (hN h3 (hR h3 a0 28))) <|
    lt ((((hI h3 (hR h3 a0 28) a1.toNatClampNeg) - (1 : Int32)) - a2)) fun x7 =>
    if ¬ a3 = (7 : Int32) then
      gs h3 (hR h3 a0 39) 21 <|
      gb (ib (((7 : Int32) * (((32 : Int32) * a1) + (x7 - x7 / (32 : Int32) * (32 : Int32)))) + a3) (hN h3 (hR h3 a0 39))) <|
      some ((hI h3 (hR h3 a0 39) (((7 : Int32) * (((32 : Int32) * a1) + (x7 - x7 / (32 : Int32) * (32 : Int32)))) + a3).toNatClampNeg), h3)
    else
      some (x7, h3)
  else
    gs h a0 10 <|
    bd (f_X11_raise h a0 (1 : Int32)) fun q12 =>
    some (q12.1, q12.2)
def f_X11_trace_L56 (h : AH) (a0 : Nat) (a1 : Int32) (a2 : Int32) (a3 : Int32) : Option (Int32 × AH) :=
  f_X11_trace_L57 h a0 a1 a2 a3 (0 : Int32)
def f_X11_trace_L38 (h : AH) (a0 : Nat) (a1 : Int32) (a2 : Int32) (a3 : Int32) (s0 : Int32) (s1 : Nat) (s2 : Int32) : Option (Int32 × AH) :=
  gs h s1 21 <|
  gb (ib s2 (hN h s1)) <|
  if (hI h s1 s2.toNatClampNeg) ≤ s0 then
    f_X11_trace_L56 h a0 a1 a2 a3
  else
    if a3 < 0 then
      f_X11_trace_L56 h a0 a1 a2 a3
    else
      if (8 : Int32) ≤ a3 then
        f_X11_trace_L56 h a0 a1 a2 a3
      else
        f_X11_trace_L57 h a0 a1 a2 a3 (1 : Int32)
def f_X11_trace_L33 (h : AH) (a0 : Nat) (a1 : Int32) (a2 : Int32) (a3 : Int32) (s0 : Int32) (s1 : Nat) : Option (Int32 × AH) :=
  f_X11_trace_L38 h a0 a1 a2 a3 s0 s1 (0 : Int32)
def f_X11_trace (h : AH) (a0 : Nat) (a1 : Int32) (a2 : Int32) (a3 : Int32) : Option (Int32 × AH) :=
  gs h a0 10 <|
  bd (f_X11_isCore h a0 a1) fun v2 =>
  if v2 = 0 then
    f_X11_trace_L56 h a0 a1 a2 a3
  else
    if a2 < 0 then
      f_X11_trace_L56 h a0 a1 a2 a3
    else
      if (32 : Int32) ≤ a2 then
        f_X11_trace_L56 h a0 a1 a2 a3
      else
        if a1 < 0 then
          f_X11_trace_L33 h a0 a1 a2 a3 a2 (hR h a0 28)
        else
          if a1 < (16 : Int32) then
            f_X11_trace_L38 h a0 a1 a2 a3 a2 (hR h a0 28) a1
          else
            f_X11_trace_L33 h a0 a1 a2 a3 a2 (hR h a0 28)
def f_X11_core_L108 (h : AH) (a0 : Nat) (a1 : Int32) (a2 : Int32) : Option (Int32 × AH) :=
  if a2 = (32 : Int32) then
    gs h a0 10 <|
    gs h (hR h a0 26) 21 <|
    gb (ib a1 (hN h (hR h a0 26))) <|
    some ((hI h (hR h a0 26) a1.toNatClampNeg), h)
  else
    if a2 = (33 : Int32) then
      gs h a0 10 <|
      gs h (hR h a0 27) 21 <|
      gb (ib a1 (hN h (hR h a0 27))) <|
      some ((hI h (hR h a0 27) a1.toNatClampNeg), h)
    else
      if a2 = (34 : Int32) then
        gs h a0 10 <|
        gs h (hR h a0 30) 21 <|
        gb (ib a1 (hN h (hR h a0 30))) <|
        some ((hI h (hR h a0 30) a1.toNatClampNeg), h)
      else
        if a2 = (35 : Int32) then
          gs h a0 10 <|
          gs h (hR h a0 28) 21 <|
          gb (ib a1 (hN h (hR h a0 28))) <|
          some ((hI h (hR h a0 28) a1.toNatClampNeg), h)
        else
          if a2 = (36 : Int32) then
            gs h a0 10 <|
            gs h (hR h a0 34) 21 <|
            gb (ib a1 (hN h (hR h a0 34))) <|
            some ((hI h (hR h a0 34) a1.toNatClampNeg), h)
          else
            if a2 = (37 : Int32) then
              gs h a0 10 <|
              gs h (hR h a0 35) 21 <|
              gb (ib a1 (hN h (hR h a0 35))) <|
              some ((hI h (hR h a0 35) a1.toNatClampNeg), h)
            else
              if a2 = (38 : Int32) then
                gs h a0 10 <|
                gs h (hR h a0 29) 21 <|
                gb (ib a1 (hN h (hR h a0 29))) <|
                some ((hI h (hR h a0 29) a1.toNatClampNeg), h)
              else
                if a2 = (39 : Int32) then
                  gs h a0 10 <|
                  gs h (hR h a0 37) 21 <|
                  gb (ib a1 (hN h (hR h a0 37))) <|
                  some ((hI h (hR h a0 37) a1.toNatClampNeg), h)
                else
                  if a2 = (40 : Int32) then
                    gs h a0 10 <|
                    gs h (hR h a0 38) 21 <|
                    gb (ib a1 (hN h (hR h a0 38))) <|
                    some ((hI h (hR h a0 38) a1.toNatClampNeg), h)
                  else
                    gs h a0 10 <|
                    bd (f_X11_raise h a0 (1 : Int32)) fun q38 =>
                    some (q38.1, q38.2)
def f_X11_core_L91 (h : AH) (a0 : Nat) (a1 : Int32) (a2 : Int32) : Option (Int32 × AH) :=
  if a2 < 0 then
    f_X11_core_L108 h a0 a1 a2
  else
    if (32 : Int32) ≤ a2 then
      f_X11_core_L108 h a0 a1 a2
    else
      gs h a0 10 <|
      bd (f_X11_reg h a0 a1 a2) fun v4 =>
      some (v4, h)
def f_X11_core (h : AH) (a0 : Nat) (a1 : Int32) (a2 : Int32) : Option (Int32 × AH) :=
  gs h a0 10 <|
  lt (sI h a0 0 (0 : Int32)) fun h2 =>
  bd (f_X11_isCore h2 a0 a1) fun v4 =>
  if ¬ v4 = 0 then
    if a2 < (100 : Int32) then
      f_X11_core_L91 h2 a0 a1 a2
    else
      gs h2 (hR h2 a0 30) 21 <|
      gb (ib a1 (hN h2 (hR h2 a0 30))) <|
      if ((100 : Int32) + ((3 : Int32) * (hI h2 (hR h2 a0 30) a1.toNatClampNeg))) ≤ a2 then
        f_X11_core_L91 h2 a0 a1 a2
      else
        lt ((((16 : Int32) * a1) + ((a2 - (100 : Int32)) / (3 : Int32)))) fun x10 =>
        if ¬ (a2 - a2 / (3 : Int32) * (3 : Int32)) = (1 : Int32) then
          if ¬ (a2 - a2 / (3 : Int32) * (3 : Int32)) = (2 : Int32) then
            gs h2 (hR h2 a0 33) 21 <|
            gb (ib x10 (hN h2 (hR h2 a0 33))) <|
            some ((hI h2 (hR h2 a0 33) x10.toNatClampNeg), h2)
          else
            gs h2 (hR h2 a0 32) 21 <|
            gb (ib x10 (hN h2 (hR h2 a0 32))) <|
            some ((hI h2 (hR h2 a0 32) x10.toNatClampNeg), h2)
        else
          gs h2 (hR h2 a0 31) 21 <|
          gb (ib x10 (hN h2 (hR h2 a0 31))) <|
          some ((hI h2 (hR h2 a0 31) x10.toNatClampNeg), h2)
  else
    bd (f_X11_raise h2 a0 (1 : Int32)) fun q19 =>
    some (q19.1, q19.2)
def f_X11_cached (h : AH) (a0 : Nat) (a1 : Int32) (a2 : Int32) : Option (Int32 × AH) :=
  gs h a0 10 <|
  lt (sI h a0 0 (0 : Int32)) fun h2 =>
  bd (f_X11_isCore h2 a0 a1) fun v4 =>
  if v4 = 0 then
    some ((-1 : Int32), h2)
  else
    if a2 < 0 then
      some ((-1 : Int32), h2)
    else
      if a2 < (512 : Int32) then
        bd (f_X11_wayOf h2 a0 a1 a2) fun v8 =>
        if ¬ v8 = (-1 : Int32) then
          gs h2 (hR h2 a0 45) 21 <|
          gb (ib v8 (hN h2 (hR h2 a0 45))) <|
          some ((hI h2 (hR h2 a0 45) v8.toNatClampNeg), h2)
        else
          some ((0 : Int32), h2)
      else
        some ((-1 : Int32), h2)
def f_X11_isAddress (h : AH) (a0 : Int32) : Option (Int32) :=
  if a0 < 0 then
    some (0 : Int32)
  else
    if (8192 : Int32) ≤ a0 then
      some (0 : Int32)
    else
      if ¬ (a0 - a0 / (4 : Int32) * (4 : Int32)) = 0 then
        some (0 : Int32)
      else
        some (1 : Int32)
def f_X11_copy_L44 (h : AH) (a0 : Nat) (a2 : Int32) (a3 : Int32) (s0 : Nat) (s1 : Int32) : Option (Int32 × AH) :=
  gs h s0 10 <|
  lt (sI h s0 0 s1) fun h2 =>
  if a3 = 0 then
    some ((0 : Int32), h2)
  else
    gs h2 a0 10 <|
    gs h2 (hR h2 a0 23) 21 <|
    gb (ib (a2 / (4 : Int32)) (hN h2 (hR h2 a0 23))) <|
    some ((hI h2 (hR h2 a0 23) (a2 / (4 : Int32)).toNatClampNeg), h2)
def f_X11_copy_L33 (h : AH) (a0 : Nat) (a2 : Int32) (s0 : Int32) : Option (Int32 × AH) :=
  if s0 = 0 then
    f_X11_copy_L44 h a0 a2 s0 a0 (1 : Int32)
  else
    f_X11_copy_L44 h a0 a2 s0 a0 (0 : Int32)
def f_X11_copy_L32 (h : AH) (a0 : Nat) (a2 : Int32) : Option (Int32 × AH) :=
  f_X11_copy_L33 h a0 a2 (0 : Int32)
def f_X11_copy (h : AH) (a0 : Nat) (a1 : Int32) (a2 : Int32) : Option (Int32 × AH) :=
  gs h a0 10 <|
  bd (f_X11_isCore h a0 a1) fun v2 =>
  if v2 = 0 then
    f_X11_copy_L32 h a0 a2
  else
    bd (f_X11_isAddress h a2) fun v4 =>
    if v4 = 0 then
      f_X11_copy_L32 h a0 a2
    else
      bd (f_X11_wayOf h a0 a1 (a2 / (16 : Int32))) fun v6 =>
      if v6 = (-1 : Int32) then
        f_X11_copy_L32 h a0 a2
      else
        f_X11_copy_L33 h a0 a2 (1 : Int32)
def f_X11_home_L36 (h : AH) (a0 : Nat) : Option (Int32 × AH) :=
  gs h a0 10 <|
  bd (f_X11_raise h a0 (1 : Int32)) fun q2 =>
  some (q2.1, q2.2)
def f_X11_home_L20 (h : AH) (a0 : Nat) (a2 : Int32) (s0 : Int32) : Option (Int32 × AH) :=
  if s0 = (-1 : Int32) then
    f_X11_home_L36 h a0
  else
    if a2 < 0 then
      f_X11_home_L36 h a0
    else
      if a2 ≤ (9 : Int32) then
        gs h a0 10 <|
        lt (sI h a0 0 (0 : Int32)) fun h5 =>
        if a2 = (0 : Int32) then
          gs h5 (hR h5 a0 51) 21 <|
          gb (ib s0 (hN h5 (hR h5 a0 51))) <|
          some ((hI h5 (hR h5 a0 51) s0.toNatClampNeg), h5)
        else
          if a2 = (1 : Int32) then
            gs h5 (hR h5 a0 52) 21 <|
            gb (ib s0 (hN h5 (hR h5 a0 52))) <|
            some ((hI h5 (hR h5 a0 52) s0.toNatClampNeg), h5)
          else
            if a2 = (2 : Int32) then
              gs h5 (hR h5 a0 53) 21 <|
              gb (ib s0 (hN h5 (hR h5 a0 53))) <|
              some ((hI h5 (hR h5 a0 53) s0.toNatClampNeg), h5)
            else
              if a2 = (3 : Int32) then
                gs h5 (hR h5 a0 53) 21 <|
                gb (ib s0 (hN h5 (hR h5 a0 53))) <|
                if ¬ (hI h5 (hR h5 a0 53) s0.toNatClampNeg) = (-1 : Int32) then
                  gs h5 (hR h5 a0 55) 21 <|
                  gb (ib s0 (hN h5 (hR h5 a0 55))) <|
                  some ((hI h5 (hR h5 a0 55) s0.toNatClampNeg), h5)
                else
                  some ((0 : Int32), h5)
              else
                if a2 = (4 : Int32) then
                  gs h5 (hR h5 a0 50) 24 <|
                  gb (ib s0 (hN h5 (hR h5 a0 50))) <|
                  if (hI h5 (hR h5 a0 50) s0.toNatClampNeg) = 0 then
                    some ((0 : Int32), h5)
                  else
                    some ((1 : Int32), h5)
                else
                  if a2 = (9 : Int32) then
                    some ((s0 - s0 / (8 : Int32) * (8 : Int32)), h5)
                  else
                    gs h5 (hR h5 a0 49) 21 <|
                    gb (ib ((((4 : Int32) * s0) + a2) - (5 : Int32)) (hN h5 (hR h5 a0 49))) <|
                    some ((hI h5 (hR h5 a0 49) ((((4 : Int32) * s0) + a2) - (5 : Int32)).toNatClampNeg), h5)
      else
        f_X11_home_L36 h a0
def f_X11_home_L11 (h : AH) (a0 : Nat) (a2 : Int32) : Option (Int32 × AH) :=
  f_X11_home_L20 h a0 a2 (-1 : Int32)
def f_X11_home (h : AH) (a0 : Nat) (a1 : Int32) (a2 : Int32) : Option (Int32 × AH) :=
  if a1 < 0 then
    f_X11_home_L11 h a0 a2
  else
    if a1 < (512 : Int32) then
      gs h a0 10 <|
      bd (f_X11_homeWay h a0 a1) fun v4 =>
      f_X11_home_L20 h a0 a2 v4
    else
      f_X11_home_L11 h a0 a2
def f_X11_waiting_L59 (k25 : AH → Nat → Int32 → Int32 → Int32 → Option (Int32 × AH)) (h : AH) (a0 : Nat) (a1 : Int32) (a3 : Int32) (s0 : Int32) (s1 : Int32) : Option (Int32 × AH) :=
  lt ((s0 + s1)) fun x1 =>
  lt (a3 + (1 : Int32)) fun x2 =>
  k25 h a0 a1 x1 x2
def f_X11_waiting_L25 : Nat → AH → Nat → Int32 → Int32 → Int32 → Option (Int32 × AH)
  | 0, _, _, _, _, _ => none
  | n + 1, h, a0, a1, a2, a3 =>
    gs h a0 10 <|
    if (hI h a0 57) ≤ a3 then
      some (a2, h)
    else
      gs h (hR h a0 58) 21 <|
      gb (ib ((7 : Int32) * a3) (hN h (hR h a0 58))) <|
      gs h (hR h a0 21) 21 <|
      gb (ib (4 : Int32) (hN h (hR h a0 21))) <|
      gb (decide (¬ (hI h (hR h a0 21) (4 : Int32).toNatClampNeg) = 0)) <|
      if ¬ ((hI h (hR h a0 58) ((7 : Int32) * a3).toNatClampNeg) - (hI h (hR h a0 58) ((7 : Int32) * a3).toNatClampNeg) / (hI h (hR h a0 21) (4 : Int32).toNatClampNeg) * (hI h (hR h a0 21) (4 : Int32).toNatClampNeg)) = a1 then
        f_X11_waiting_L59 (f_X11_waiting_L25 n) h a0 a1 a3 a2 (0 : Int32)
      else
        f_X11_waiting_L59 (f_X11_waiting_L25 n) h a0 a1 a3 a2 (1 : Int32)
def f_X11_waiting (h : AH) (a0 : Nat) (a1 : Int32) : Option (Int32 × AH) :=
  gs h a0 10 <|
  lt (sI h a0 0 (0 : Int32)) fun h2 =>
  if a1 < 0 then
    some ((-1 : Int32), h2)
  else
    gs h2 (hR h2 a0 21) 21 <|
    gb (ib (4 : Int32) (hN h2 (hR h2 a0 21))) <|
    if a1 < (hI h2 (hR h2 a0 21) (4 : Int32).toNatClampNeg) then
      lt ((0 : Int32)) fun x8 =>
      lt ((0 : Int32)) fun x9 =>
      f_X11_waiting_L25 FU h2 a0 a1 x8 x9
    else
      some ((-1 : Int32), h2)
def f_X11_memory_L13 (h : AH) (a0 : Nat) (a1 : Int32) (s0 : Nat) (s1 : Int32) : Option (Int32 × AH) :=
  gs h s0 10 <|
  lt (sI h s0 0 s1) fun h2 =>
  gs h2 a0 10 <|
  if (hI h2 a0 0) = 0 then
    gs h2 (hR h2 a0 24) 21 <|
    gb (ib (a1 / (4 : Int32)) (hN h2 (hR h2 a0 24))) <|
    some ((hI h2 (hR h2 a0 24) (a1 / (4 : Int32)).toNatClampNeg), h2)
  else
    some ((0 : Int32), h2)
def f_X11_memory (h : AH) (a0 : Nat) (a1 : Int32) : Option (Int32 × AH) :=
  bd (f_X11_isAddress h a1) fun v1 =>
  if v1 = 0 then
    f_X11_memory_L13 h a0 a1 a0 (1 : Int32)
  else
    f_X11_memory_L13 h a0 a1 a0 (0 : Int32)
def f_X11_word_L13 (h : AH) (a0 : Nat) (a1 : Int32) (s0 : Nat) (s1 : Int32) : Option (Int32 × AH) :=
  gs h s0 10 <|
  lt (sI h s0 0 s1) fun h2 =>
  gs h2 a0 10 <|
  if (hI h2 a0 0) = 0 then
    gs h2 (hR h2 a0 23) 21 <|
    gb (ib (a1 / (4 : Int32)) (hN h2 (hR h2 a0 23))) <|
    some ((hI h2 (hR h2 a0 23) (a1 / (4 : Int32)).toNatClampNeg), h2)
  else
    some ((0 : Int32), h2)
def f_X11_word (h : AH) (a0 : Nat) (a1 : Int32) : Option (Int32 × AH) :=
  bd (f_X11_isAddress h a1) fun v1 =>
  if v1 = 0 then
    f_X11_word_L13 h a0 a1 a0 (1 : Int32)
  else
    f_X11_word_L13 h a0 a1 a0 (0 : Int32)
def f_X11_message_L22 (h : AH) (a0 : Nat) : Option (Int32 × AH) :=
  gs h a0 10 <|
  bd (f_X11_raise h a0 (1 : Int32)) fun q2 =>
  some (q2.1, q2.2)
def f_X11_message (h : AH) (a0 : Nat) (a1 : Int32) (a2 : Int32) : Option (Int32 × AH) :=
  if a1 < 0 then
    f_X11_message_L22 h a0
  else
    gs h a0 10 <|
    if (hI h a0 59) ≤ a1 then
      f_X11_message_L22 h a0
    else
      if a2 < 0 then
        f_X11_message_L22 h a0
      else
        if a2 ≤ (9 : Int32) then
          lt (sI h a0 0 (0 : Int32)) fun h6 =>
          if ¬ a2 = (9 : Int32) then
            gs h6 (hR h6 a0 60) 21 <|
            gb (ib (((9 : Int32) * a1) + a2) (hN h6 (hR h6 a0 60))) <|
            some ((hI h6 (hR h6 a0 60) (((9 : Int32) * a1) + a2).toNatClampNeg), h6)
          else
            gs h6 (hR h6 a0 60) 21 <|
            gb (ib ((9 : Int32) * a1) (hN h6 (hR h6 a0 60))) <|
            bd (f_X11_channelOf h6 (hI h6 (hR h6 a0 60) ((9 : Int32) * a1).toNatClampNeg)) fun v14 =>
            some (v14, h6)
        else
          f_X11_message_L22 h a0
def f_X11_total_L32 (k9 : AH → Nat → Int32 → Int32 → Int32 → Option (Int32 × AH)) (h : AH) (a0 : Nat) (a1 : Int32) (a3 : Int32) (s0 : Int32) (s1 : Int32) : Option (Int32 × AH) :=
  lt ((s0 + s1)) fun x1 =>
  lt (a3 + (1 : Int32)) fun x2 =>
  k9 h a0 a1 x1 x2
def f_X11_total_L9 : Nat → AH → Nat → Int32 → Int32 → Int32 → Option (Int32 × AH)
  | 0, _, _, _, _, _ => none
  | n + 1, h, a0, a1, a2, a3 =>
    if (512 : Int32) ≤ a3 then
      if a1 = (0 : Int32) then
        gs h a0 10 <|
        gs h (hR h a0 21) 21 <|
        gb (ib (0 : Int32) (hN h (hR h a0 21))) <|
        some ((hI h (hR h a0 21) (0 : Int32).toNatClampNeg), h)
      else
        if a1 = (1 : Int32) then
          gs h a0 10 <|
          some ((hI h a0 59), h)
        else
          if a1 = (2 : Int32) then
            gs h a0 10 <|
            some ((hI h a0 62), h)
          else
            if a1 = (3 : Int32) then
              gs h a0 10 <|
              some ((hI h a0 63), h)
            else
              if a1 = (4 : Int32) then
                gs h a0 10 <|
                some ((hI h a0 64), h)
              else
                if a1 = (5 : Int32) then
                  gs h a0 10 <|
                  some ((hI h a0 65), h)
                else
                  if a1 = (6 : Int32) then
                    some (a2, h)
                  else
                    if a1 = (7 : Int32) then
                      gs h a0 10 <|
                      gs h (hR h a0 21) 21 <|
                      gb (ib (1 : Int32) (hN h (hR h a0 21))) <|
                      some ((hI h (hR h a0 21) (1 : Int32).toNatClampNeg), h)
                    else
                      if a1 = (8 : Int32) then
                        gs h a0 10 <|
                        gs h (hR h a0 21) 21 <|
                        gb (ib (a1 - (6 : Int32)) (hN h (hR h a0 21))) <|
                        some ((hI h (hR h a0 21) (a1 - (6 : Int32)).toNatClampNeg), h)
                      else
                        if a1 = (9 : Int32) then
                          gs h a0 10 <|
                          gs h (hR h a0 21) 21 <|
                          gb (ib (a1 - (6 : Int32)) (hN h (hR h a0 21))) <|
                          some ((hI h (hR h a0 21) (a1 - (6 : Int32)).toNatClampNeg), h)
                        else
                          if a1 = (10 : Int32) then
                            gs h a0 10 <|
                            gs h (hR h a0 21) 21 <|
                            gb (ib (a1 - (6 : Int32)) (hN h (hR h a0 21))) <|
                            some ((hI h (hR h a0 21) (a1 - (6 : Int32)).toNatClampNeg), h)
                          else
                            if a1 = (11 : Int32) then
                              gs h a0 10 <|
                              gs h (hR h a0 21) 21 <|
                              gb (ib (a1 - (6 : Int32)) (hN h (hR h a0 21))) <|
                              some ((hI h (hR h a0 21) (a1 - (6 : Int32)).toNatClampNeg), h)
                            else
                              if a1 = (12 : Int32) then
                                gs h a0 10 <|
                                some ((hI h a0 66), h)
                              else
                                if a1 = (13 : Int32) then
                                  gs h a0 10 <|
                                  some ((hI h a0 67), h)
                                else
                                  some ((-1 : Int32), h)
    else
      gs h a0 10 <|
      gs h (hR h a0 48) 21 <|
      gb (ib a3 (hN h (hR h a0 48))) <|
      if (hI h (hR h a0 48) a3.toNatClampNeg) = (-1 : Int32) then
        f_X11_total_L32 (f_X11_total_L9 n) h a0 a1 a3 a2 (0 : Int32)
      else
        f_X11_total_L32 (f_X11_total_L9 n) h a0 a1 a3 a2 (1 : Int32)
def f_X11_total (h : AH) (a0 : Nat) (a1 : Int32) : Option (Int32 × AH) :=
  gs h a0 10 <|
  lt (sI h a0 0 (0 : Int32)) fun h2 =>
  lt ((0 : Int32)) fun x3 =>
  lt ((0 : Int32)) fun x4 =>
  f_X11_total_L9 FU h2 a0 a1 x3 x4
