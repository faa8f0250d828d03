def f_X0_variant (h : AH) (a0 : Int32) : Option (Int32) :=
  some ((jushr a0 (12 : Int32)) &&& (7 : Int32))
def f_X0_jumpDistance (h : AH) (a0 : Int32) : Option (Int32) :=
  some (((((a0 >>> ((31 : Int32) &&& 31)) <<< ((20 : Int32) &&& 31)) ||| (a0 &&& (1044480 : Int32))) ||| (((jushr a0 (20 : Int32)) &&& (1 : Int32)) <<< ((11 : Int32) &&& 31))) ||| (((jushr a0 (21 : Int32)) &&& (1023 : Int32)) <<< ((1 : Int32) &&& 31)))
def f_X0_branchDistance (h : AH) (a0 : Int32) : Option (Int32) :=
  some (((((a0 >>> ((31 : Int32) &&& 31)) <<< ((12 : Int32) &&& 31)) ||| (((jushr a0 (7 : Int32)) &&& (1 : Int32)) <<< ((11 : Int32) &&& 31))) ||| (((jushr a0 (25 : Int32)) &&& (63 : Int32)) <<< ((5 : Int32) &&& 31))) ||| (((jushr a0 (8 : Int32)) &&& (15 : Int32)) <<< ((1 : Int32) &&& 31)))
def f_X0_storeDistance (h : AH) (a0 : Int32) : Option (Int32) :=
  some (((a0 >>> ((25 : Int32) &&& 31)) <<< ((5 : Int32) &&& 31)) ||| ((jushr a0 (7 : Int32)) &&& (31 : Int32)))
def f_X0_knows_L29 (h : AH)  : Option (Int32) :=
  some (1 : Int32)
def f_X0_knows (h : AH) (a0 : Int32) : Option (Int32) :=
  lt ((jushr a0 (25 : Int32))) fun x1 =>
  bd (f_X0_variant h a0) fun v2 =>
  if x1 = 0 then
    f_X0_knows_L29 h 
  else
    if ¬ x1 = (32 : Int32) then
      some (0 : Int32)
    else
      if v2 = 0 then
        f_X0_knows_L29 h 
      else
        if ¬ v2 = (5 : Int32) then
          some (0 : Int32)
        else
          f_X0_knows_L29 h 
def f_X0_knowsShift_L40 (h : AH)  : Option (Int32) :=
  some (1 : Int32)
def f_X0_knowsShift (h : AH) (a0 : Int32) : Option (Int32) :=
  lt ((jushr a0 (25 : Int32))) fun x1 =>
  bd (f_X0_variant h a0) fun v2 =>
  if ¬ v2 = (1 : Int32) then
    if ¬ v2 = (5 : Int32) then
      f_X0_knowsShift_L40 h 
    else
      if x1 = 0 then
        f_X0_knowsShift_L40 h 
      else
        if ¬ x1 = (32 : Int32) then
          some (0 : Int32)
        else
          f_X0_knowsShift_L40 h 
  else
    if ¬ x1 = 0 then
      some (0 : Int32)
    else
      some (1 : Int32)
def f_X0_knowsBranch (h : AH) (a0 : Int32) : Option (Int32) :=
  bd (f_X0_variant h a0) fun v1 =>
  if v1 = (2 : Int32) then
    some (0 : Int32)
  else
    if v1 = (3 : Int32) then
      some (0 : Int32)
    else
      some (1 : Int32)
def f_X0_knowsAtomic_L26 (h : AH)  : Option (Int32) :=
  some (1 : Int32)
def f_X0_knowsAtomic (h : AH) (a0 : Int32) : Option (Int32) :=
  bd (f_X0_variant h a0) fun v1 =>
  if v1 = (2 : Int32) then
    lt ((jushr a0 (27 : Int32))) fun x3 =>
    if x3 = (1 : Int32) then
      f_X0_knowsAtomic_L26 h 
    else
      if ¬ (x3 &&& (3 : Int32)) = 0 then
        some (0 : Int32)
      else
        f_X0_knowsAtomic_L26 h 
  else
    some (0 : Int32)
def f_X0_isBelow (h : AH) (a0 : Int32) (a1 : Int32) : Option (Int32) :=
  if (a1 ^^^ (-2147483648 : Int32)) ≤ (a0 ^^^ (-2147483648 : Int32)) then
    some (0 : Int32)
  else
    some (1 : Int32)
def f_X0_reckon_L79 (h : AH) (a1 : Int32) (a2 : Int32) : Option (Int32) :=
  some (a1 + a2)
def f_X0_reckon_L14 (h : AH) (a0 : Int32) (a1 : Int32) (a2 : Int32) (s0 : Int32) : Option (Int32) :=
  bd (f_X0_variant h a0) fun v1 =>
  if v1 = (0 : Int32) then
    if s0 = 0 then
      f_X0_reckon_L79 h a1 a2
    else
      if ¬ (a0 &&& (127 : Int32)) = (51 : Int32) then
        f_X0_reckon_L79 h a1 a2
      else
        some (a1 - a2)
  else
    if v1 = (1 : Int32) then
      some (a1 <<< ((a2 &&& (31 : Int32)) &&& 31))
    else
      if v1 = (2 : Int32) then
        if a2 ≤ a1 then
          some (0 : Int32)
        else
          some (1 : Int32)
      else
        if v1 = (3 : Int32) then
          bd (f_X0_isBelow h a1 a2) fun v9 =>
          if v9 = 0 then
            some (0 : Int32)
          else
            some (1 : Int32)
        else
          if v1 = (4 : Int32) then
            some (a1 ^^^ a2)
          else
            if v1 = (5 : Int32) then
              if s0 = 0 then
                some (jushr a1 (a2 &&& (31 : Int32)))
              else
                some (a1 >>> ((a2 &&& (31 : Int32)) &&& 31))
            else
              if v1 = (6 : Int32) then
                some (a1 ||| a2)
              else
                some (a1 &&& a2)
def f_X0_reckon (h : AH) (a0 : Int32) (a1 : Int32) (a2 : Int32) : Option (Int32) :=
  if ¬ (jushr a0 (25 : Int32)) = (32 : Int32) then
    f_X0_reckon_L14 h a0 a1 a2 (0 : Int32)
  else
    f_X0_reckon_L14 h a0 a1 a2 (1 : Int32)
def f_X0_branches (h : AH) (a0 : Int32) (a1 : Int32) (a2 : Int32) : Option (Int32) :=
  bd (f_X0_variant h a0) fun v1 =>
  if v1 = (0 : Int32) then
    if ¬ a1 = a2 then
      some (0 : Int32)
    else
      some (1 : Int32)
  else
    if v1 = (1 : Int32) then
      if a1 = a2 then
        some (0 : Int32)
      else
        some (1 : Int32)
    else
      if v1 = (4 : Int32) then
        if a2 ≤ a1 then
          some (0 : Int32)
        else
          some (1 : Int32)
      else
        if v1 = (5 : Int32) then
          if a1 < a2 then
            some (0 : Int32)
          else
            some (1 : Int32)
        else
          if v1 = (6 : Int32) then
            bd (f_X0_isBelow h a1 a2) fun v11 =>
            gb (v11 == 0 || v11 == 1) <|
            some v11
          else
            bd (f_X0_isBelow h a1 a2) fun v13 =>
            if ¬ v13 = 0 then
              some (0 : Int32)
            else
              some (1 : Int32)
def f_X0_extend (h : AH) (a0 : Int32) (a1 : Int32) : Option (Int32) :=
  if a1 = (0 : Int32) then
    some ((a0 <<< ((24 : Int32) &&& 31)) >>> ((24 : Int32) &&& 31))
  else
    if a1 = (1 : Int32) then
      some ((a0 <<< ((16 : Int32) &&& 31)) >>> ((16 : Int32) &&& 31))
    else
      if a1 = (4 : Int32) then
        some (a0 &&& (255 : Int32))
      else
        if a1 = (5 : Int32) then
          some (a0 &&& (65535 : Int32))
        else
          some a0
def f_X0_atomic (h : AH) (a0 : Int32) (a1 : Int32) (a2 : Int32) : Option (Int32) :=
  if (jushr a0 (27 : Int32)) = (0 : Int32) then
    some (a1 + a2)
  else
    if (jushr a0 (27 : Int32)) = (1 : Int32) then
      some a2
    else
      if (jushr a0 (27 : Int32)) = (4 : Int32) then
        some (a1 ^^^ a2)
      else
        if (jushr a0 (27 : Int32)) = (8 : Int32) then
          some (a1 ||| a2)
        else
          if (jushr a0 (27 : Int32)) = (12 : Int32) then
            some (a1 &&& a2)
          else
            if (jushr a0 (27 : Int32)) = (16 : Int32) then
              some (if a2 < a1 then a2 else a1)
            else
              if (jushr a0 (27 : Int32)) = (20 : Int32) then
                some (if a1 < a2 then a2 else a1)
              else
                if (jushr a0 (27 : Int32)) = (24 : Int32) then
                  bd (f_X0_isBelow h a1 a2) fun v9 =>
                  if v9 = 0 then
                    some a2
                  else
                    some a1
                else
                  bd (f_X0_isBelow h a1 a2) fun v11 =>
                  if v11 = 0 then
                    some a1
                  else
                    some a2
def f_X1_init (h : AH) (a0 : Nat) (a1 : Nat) : Option (AH) :=
  gs h a0 1 <|
  lt (hNew h 21 (375 : Int32).toNatClampNeg (375 : Int32).toNatClampNeg) fun h2 =>
  gs h2 a0 1 <|
  lt (sR h2 a0 2 (hZ h + 1)) fun h4 =>
  lt (hNew h4 21 (375 : Int32).toNatClampNeg (375 : Int32).toNatClampNeg) fun h5 =>
  gs h5 a0 1 <|
  lt (sR h5 a0 3 (hZ h4 + 1)) fun h7 =>
  lt (hNew h7 21 (375 : Int32).toNatClampNeg (375 : Int32).toNatClampNeg) fun h8 =>
  gs h8 a0 1 <|
  lt (sR h8 a0 4 (hZ h7 + 1)) fun h10 =>
  lt (hNew h10 21 (375 : Int32).toNatClampNeg (375 : Int32).toNatClampNeg) fun h11 =>
  gs h11 a0 1 <|
  lt (sR h11 a0 5 (hZ h10 + 1)) fun h13 =>
  lt (hNew h13 21 (375 : Int32).toNatClampNeg (375 : Int32).toNatClampNeg) fun h14 =>
  gs h14 a0 1 <|
  lt (sR h14 a0 6 (hZ h13 + 1)) fun h16 =>
  lt (hNew h16 21 (375 : Int32).toNatClampNeg (375 : Int32).toNatClampNeg) fun h17 =>
  gs h17 a0 1 <|
  lt (sR h17 a0 7 (hZ h16 + 1)) fun h19 =>
  lt (hNew h19 22 (375 : Int32).toNatClampNeg (375 : Int32).toNatClampNeg) fun h20 =>
  gs h20 a0 1 <|
  lt (sR h20 a0 8 (hZ h19 + 1)) fun h22 =>
  lt (hNew h22 22 (750 : Int32).toNatClampNeg (750 : Int32).toNatClampNeg) fun h23 =>
  gs h23 a0 1 <|
  lt (sR h23 a0 10 (hZ h22 + 1)) fun h25 =>
  lt (hNew h25 21 (750 : Int32).toNatClampNeg (750 : Int32).toNatClampNeg) fun h26 =>
  gs h26 a0 1 <|
  lt (sR h26 a0 11 (hZ h25 + 1)) fun h28 =>
  lt (hNew h28 21 (750 : Int32).toNatClampNeg (750 : Int32).toNatClampNeg) fun h29 =>
  gs h29 a0 1 <|
  lt (sR h29 a0 12 (hZ h28 + 1)) fun h31 =>
  lt (hNew h31 21 (16 : Int32).toNatClampNeg (16 : Int32).toNatClampNeg) fun h32 =>
  gs h32 a0 1 <|
  lt (sR h32 a0 15 (hZ h31 + 1)) fun h34 =>
  lt (sR h34 a0 0 a1) fun h36 =>
  some h36
def f_J7_fill_53178_L5 : Nat → AH → Nat → Int32 → Int32 → Int32 → Option (AH)
  | 0, _, _, _, _, _ => none
  | n + 1, h, a0, a1, a2, a3 =>
    if a3 ≤ a2 then
      some h
    else
      gs h a0 21 <|
      gb (ib a2 (hN h a0)) <|
      lt (sI h a0 a2.toNatClampNeg a1) fun h4 =>
      lt (a2 + (1 : Int32)) fun x5 =>
      f_J7_fill_53178_L5 n h4 a0 a1 x5 a3
def f_J7_fill_53178 (h : AH) (a0 : Nat) (a1 : Int32) : Option (AH) :=
  lt ((0 : Int32)) fun x1 =>
  gs h a0 21 <|
  lt ((nI (hN h a0))) fun x3 =>
  f_J7_fill_53178_L5 FU h a0 a1 x1 x3
def f_X8_isLetter (h : AH) (a0 : Int32) : Option (Int32) :=
  if a0 < (97 : Int32) then
    some (0 : Int32)
  else
    if (122 : Int32) < a0 then
      some (0 : Int32)
    else
      some (1 : Int32)
def f_X8_scanName_L122 (h : AH) (s0 : Nat) (s1 : Int32) : Option (AH) :=
  gs h s0 7 <|
  lt (sI h s0 3 s1) fun h2 =>
  some h2
def f_X8_scanName_L102 (h : AH) (a0 : Nat) : Option (AH) :=
  gs h a0 7 <|
  if (8 : Int32) < ((hI h a0 2) - (hI h a0 4)) then
    f_X8_scanName_L122 h a0 (0 : Int32)
  else
    f_X8_scanName_L122 h a0 (2 : Int32)
def f_X8_scanName_L67 (k0 : AH → Nat → Option (AH)) (h : AH) (a0 : Nat) : Option (AH) :=
  gs h a0 7 <|
  gs h (hR h a0 0) 23 <|
  gb (ib (hI h a0 2) (hN h (hR h a0 0))) <|
  lt (sL h a0 5 (((hL h a0 5) <<< ((8 : Int32).toInt64 &&& 63)) ||| ((hI h (hR h a0 0) (hI h a0 2).toNatClampNeg).toInt64))) fun h4 =>
  lt (sI h4 a0 2 ((hI h4 a0 2) + (1 : Int32))) fun h6 =>
  k0 h6 a0
def f_X8_scanName_L39 (k0 : AH → Nat → Option (AH)) (h : AH) (a0 : Nat) : Option (AH) :=
  gs h a0 7 <|
  gs h (hR h a0 0) 23 <|
  gb (ib (hI h a0 2) (hN h (hR h a0 0))) <|
  if (hI h (hR h a0 0) (hI h a0 2).toNatClampNeg) < (48 : Int32) then
    f_X8_scanName_L102 h a0
  else
    gb (ib (hI h a0 2) (hN h (hR h a0 0))) <|
    if (57 : Int32) < (hI h (hR h a0 0) (hI h a0 2).toNatClampNeg) then
      f_X8_scanName_L102 h a0
    else
      f_X8_scanName_L67 k0 h a0
def f_X8_scanName_L0 : Nat → AH → Nat → Option (AH)
  | 0, _, _ => none
  | n + 1, h, a0 =>
    gs h a0 7 <|
    if (hI h a0 1) ≤ (hI h a0 2) then
      f_X8_scanName_L102 h a0
    else
      gs h (hR h a0 0) 23 <|
      gb (ib (hI h a0 2) (hN h (hR h a0 0))) <|
      if (hI h (hR h a0 0) (hI h a0 2).toNatClampNeg) < (97 : Int32) then
        f_X8_scanName_L39 (f_X8_scanName_L0 n) h a0
      else
        gb (ib (hI h a0 2) (hN h (hR h a0 0))) <|
        if (hI h (hR h a0 0) (hI h a0 2).toNatClampNeg) ≤ (122 : Int32) then
          f_X8_scanName_L67 (f_X8_scanName_L0 n) h a0
        else
          f_X8_scanName_L39 (f_X8_scanName_L0 n) h a0
def f_X8_scanName (h : AH) (a0 : Nat) : Option (AH) :=
  f_X8_scanName_L0 FU h a0
def f_X8_isDigit (h : AH) (a0 : Int32) : Option (Int32) :=
  if a0 < (48 : Int32) then
    some (0 : Int32)
  else
    if (57 : Int32) < a0 then
      some (0 : Int32)
    else
      some (1 : Int32)
def f_X8_scanNumber_L279 (h : AH) (s0 : Nat) (s1 : Int32) : Option (AH) :=
  gs h s0 7 <|
  lt (sI h s0 3 s1) fun h2 =>
  some h2
def f_X8_scanNumber_L278 (h : AH) (s0 : Nat) : Option (AH) :=
  f_X8_scanNumber_L279 h s0 (0 : Int32)
def f_X8_scanNumber_L271 (h : AH) (s0 : Nat) (s1 : Int32) (s2 : Int32) : Option (AH) :=
  if s2 < s1 then
    f_X8_scanNumber_L278 h s0
  else
    f_X8_scanNumber_L279 h s0 (3 : Int32)
def f_X8_scanNumber_L243 (h : AH) (a0 : Nat) (a1 : Int32) (a3 : Int32) : Option (AH) :=
  gs h a0 7 <|
  lt (((hI h a0 2) - a3)) fun x2 =>
  if x2 < (1 : Int32) then
    f_X8_scanNumber_L278 h a0
  else
    if a1 = 0 then
      f_X8_scanNumber_L271 h a0 x2 (10 : Int32)
    else
      f_X8_scanNumber_L271 h a0 x2 (8 : Int32)
def f_X8_scanNumber_L225 (k84 : AH → Nat → Int32 → Int32 → Int32 → Option (AH)) (h : AH) (a0 : Nat) (a1 : Int32) (a2 : Int32) (a3 : Int32) (s0 : Nat) (s1 : Int64) (s2 : Int32) : Option (AH) :=
  gs h s0 7 <|
  lt (sL h s0 5 (s1 + (s2.toInt64))) fun h2 =>
  gs h2 a0 7 <|
  lt (sI h2 a0 2 ((hI h2 a0 2) + (1 : Int32))) fun h4 =>
  k84 h4 a0 a1 a2 a3
def f_X8_scanNumber_L182 (k84 : AH → Nat → Int32 → Int32 → Int32 → Option (AH)) (h : AH) (a0 : Nat) (a1 : Int32) (a2 : Int32) (a3 : Int32) (a4 : Int32) : Option (AH) :=
  gs h a0 7 <|
  if a4 = 0 then
    gs h (hR h a0 0) 23 <|
    gb (ib (hI h a0 2) (hN h (hR h a0 0))) <|
    f_X8_scanNumber_L225 k84 h a0 a1 a2 a3 a0 ((hL h a0 5) * (a2.toInt64)) (((hI h (hR h a0 0) (hI h a0 2).toNatClampNeg) - (97 : Int32)) + (10 : Int32))
  else
    gs h (hR h a0 0) 23 <|
    gb (ib (hI h a0 2) (hN h (hR h a0 0))) <|
    f_X8_scanNumber_L225 k84 h a0 a1 a2 a3 a0 ((hL h a0 5) * (a2.toInt64)) ((hI h (hR h a0 0) (hI h a0 2).toNatClampNeg) - (48 : Int32))
def f_X8_scanNumber_L167 (k84 : AH → Nat → Int32 → Int32 → Int32 → Option (AH)) (h : AH) (a0 : Nat) (a1 : Int32) (a2 : Int32) (a3 : Int32) (a4 : Int32) (s0 : Int32) : Option (AH) :=
  if ¬ a4 = 0 then
    f_X8_scanNumber_L182 k84 h a0 a1 a2 a3 a4
  else
    if ¬ s0 = 0 then
      f_X8_scanNumber_L182 k84 h a0 a1 a2 a3 a4
    else
      f_X8_scanNumber_L243 h a0 a1 a3
def f_X8_scanNumber_L166 (k84 : AH → Nat → Int32 → Int32 → Int32 → Option (AH)) (h : AH) (a0 : Nat) (a1 : Int32) (a2 : Int32) (a3 : Int32) (a4 : Int32) : Option (AH) :=
  f_X8_scanNumber_L167 k84 h a0 a1 a2 a3 a4 (0 : Int32)
def f_X8_scanNumber_L128 (k84 : AH → Nat → Int32 → Int32 → Int32 → Option (AH)) (h : AH) (a0 : Nat) (a1 : Int32) (a2 : Int32) (a3 : Int32) (s0 : Int32) : Option (AH) :=
  if a1 = 0 then
    f_X8_scanNumber_L166 k84 h a0 a1 a2 a3 s0
  else
    gs h a0 7 <|
    gs h (hR h a0 0) 23 <|
    gb (ib (hI h a0 2) (hN h (hR h a0 0))) <|
    if (hI h (hR h a0 0) (hI h a0 2).toNatClampNeg) < (97 : Int32) then
      f_X8_scanNumber_L166 k84 h a0 a1 a2 a3 s0
    else
      gb (ib (hI h a0 2) (hN h (hR h a0 0))) <|
      if (102 : Int32) < (hI h (hR h a0 0) (hI h a0 2).toNatClampNeg) then
        f_X8_scanNumber_L166 k84 h a0 a1 a2 a3 s0
      else
        f_X8_scanNumber_L167 k84 h a0 a1 a2 a3 s0 (1 : Int32)
def f_X8_scanNumber_L127 (k84 : AH → Nat → Int32 → Int32 → Int32 → Option (AH)) (h : AH) (a0 : Nat) (a1 : Int32) (a2 : Int32) (a3 : Int32) : Option (AH) :=
  f_X8_scanNumber_L128 k84 h a0 a1 a2 a3 (0 : Int32)
def f_X8_scanNumber_L84 : Nat → AH → Nat → Int32 → Int32 → Int32 → Option (AH)
  | 0, _, _, _, _, _ => none
  | n + 1, h, a0, a1, a2, a3 =>
    gs h a0 7 <|
    if (hI h a0 1) ≤ (hI h a0 2) then
      f_X8_scanNumber_L243 h a0 a1 a3
    else
      gs h (hR h a0 0) 23 <|
      gb (ib (hI h a0 2) (hN h (hR h a0 0))) <|
      if (hI h (hR h a0 0) (hI h a0 2).toNatClampNeg) < (48 : Int32) then
        f_X8_scanNumber_L127 (f_X8_scanNumber_L84 n) h a0 a1 a2 a3
      else
        gb (ib (hI h a0 2) (hN h (hR h a0 0))) <|
        if (57 : Int32) < (hI h (hR h a0 0) (hI h a0 2).toNatClampNeg) then
          f_X8_scanNumber_L127 (f_X8_scanNumber_L84 n) h a0 a1 a2 a3
        else
          f_X8_scanNumber_L128 (f_X8_scanNumber_L84 n) h a0 a1 a2 a3 (1 : Int32)
def f_X8_scanNumber_L78 (h : AH) (a0 : Nat) (a1 : Int32) (a2 : Int32) (s0 : Int32) : Option (AH) :=
  gs h a0 7 <|
  lt (sI h a0 2 s0) fun h2 =>
  f_X8_scanNumber_L84 FU h2 a0 a1 a2 s0
def f_X8_scanNumber_L60 (h : AH) (a0 : Nat) (a1 : Int32) (s0 : Int32) : Option (AH) :=
  if a1 = 0 then
    gs h a0 7 <|
    f_X8_scanNumber_L78 h a0 a1 s0 (hI h a0 2)
  else
    gs h a0 7 <|
    f_X8_scanNumber_L78 h a0 a1 s0 ((hI h a0 2) + (2 : Int32))
def f_X8_scanNumber_L48 (h : AH) (a0 : Nat) (s0 : Int32) : Option (AH) :=
  if s0 = 0 then
    f_X8_scanNumber_L60 h a0 s0 (10 : Int32)
  else
    f_X8_scanNumber_L60 h a0 s0 (16 : Int32)
def f_X8_scanNumber_L47 (h : AH) (a0 : Nat) : Option (AH) :=
  f_X8_scanNumber_L48 h a0 (0 : Int32)
def f_X8_scanNumber (h : AH) (a0 : Nat) : Option (AH) :=
  gs h a0 7 <|
  gs h (hR h a0 0) 23 <|
  gb (ib (hI h a0 2) (hN h (hR h a0 0))) <|
  if ¬ (hI h (hR h a0 0) (hI h a0 2).toNatClampNeg) = (48 : Int32) then
    f_X8_scanNumber_L47 h a0
  else
    if (hI h a0 1) ≤ ((hI h a0 2) + (1 : Int32)) then
      f_X8_scanNumber_L47 h a0
    else
      gb (ib ((hI h a0 2) + (1 : Int32)) (hN h (hR h a0 0))) <|
      if ¬ (hI h (hR h a0 0) ((hI h a0 2) + (1 : Int32)).toNatClampNeg) = (120 : Int32) then
        f_X8_scanNumber_L47 h a0
      else
        f_X8_scanNumber_L48 h a0 (1 : Int32)
def f_X8_isSign_L36 (h : AH)  : Option (Int32) :=
  some (1 : Int32)
def f_X8_isSign (h : AH) (a0 : Int32) : Option (Int32) :=
  if a0 = (58 : Int32) then
    f_X8_isSign_L36 h 
  else
    if a0 = (59 : Int32) then
      f_X8_isSign_L36 h 
    else
      if a0 = (44 : Int32) then
        f_X8_isSign_L36 h 
      else
        if a0 = (40 : Int32) then
          f_X8_isSign_L36 h 
        else
          if a0 = (41 : Int32) then
            f_X8_isSign_L36 h 
          else
            if ¬ a0 = (45 : Int32) then
              some (0 : Int32)
            else
              f_X8_isSign_L36 h 
def f_X8_next_L143 (h : AH) (a0 : Nat) (s0 : Nat) (s1 : Int32) : Option (AH) :=
  gs h s0 7 <|
  lt (sI h s0 3 s1) fun h2 =>
  gs h2 a0 7 <|
  lt (sI h2 a0 2 ((hI h2 a0 2) + (1 : Int32))) fun h4 =>
  some h4
def f_X8_next_L38 (h : AH) (a0 : Nat) : Option (AH) :=
  gs h a0 7 <|
  lt (sI h a0 4 (hI h a0 2)) fun h2 =>
  lt (sL h2 a0 5 (0 : Int64)) fun h4 =>
  if (hI h4 a0 2) < (hI h4 a0 1) then
    gs h4 (hR h4 a0 0) 23 <|
    gb (ib (hI h4 a0 2) (hN h4 (hR h4 a0 0))) <|
    bd (f_X8_isLetter h4 (hI h4 (hR h4 a0 0) (hI h4 a0 2).toNatClampNeg)) fun v9 =>
    if v9 = 0 then
      gb (ib (hI h4 a0 2) (hN h4 (hR h4 a0 0))) <|
      bd (f_X8_isDigit h4 (hI h4 (hR h4 a0 0) (hI h4 a0 2).toNatClampNeg)) fun v12 =>
      if v12 = 0 then
        gb (ib (hI h4 a0 2) (hN h4 (hR h4 a0 0))) <|
        bd (f_X8_isSign h4 (hI h4 (hR h4 a0 0) (hI h4 a0 2).toNatClampNeg)) fun v15 =>
        if v15 = 0 then
          f_X8_next_L143 h4 a0 a0 (0 : Int32)
        else
          gb (ib (hI h4 a0 2) (hN h4 (hR h4 a0 0))) <|
          f_X8_next_L143 h4 a0 a0 (hI h4 (hR h4 a0 0) (hI h4 a0 2).toNatClampNeg)
      else
        bd (f_X8_scanNumber h4 a0) fun q18 =>
        some q18
    else
      bd (f_X8_scanName h4 a0) fun q19 =>
      some q19
  else
    lt (sI h4 a0 3 (1 : Int32)) fun h20 =>
    some h20
def f_X8_next_L0 : Nat → AH → Nat → Option (AH)
  | 0, _, _ => none
  | n + 1, h, a0 =>
    gs h a0 7 <|
    if (hI h a0 1) ≤ (hI h a0 2) then
      f_X8_next_L38 h a0
    else
      gs h (hR h a0 0) 23 <|
      gb (ib (hI h a0 2) (hN h (hR h a0 0))) <|
      if ¬ (hI h (hR h a0 0) (hI h a0 2).toNatClampNeg) = (32 : Int32) then
        f_X8_next_L38 h a0
      else
        lt (sI h a0 2 ((hI h a0 2) + (1 : Int32))) fun h6 =>
        f_X8_next_L0 n h6 a0
def f_X8_next (h : AH) (a0 : Nat) : Option (AH) :=
  f_X8_next_L0 FU h a0
def f_X8_rewind (h : AH) (a0 : Nat) : Option (AH) :=
  gs h a0 7 <|
  lt (sI h a0 2 (0 : Int32)) fun h2 =>
  bd (f_X8_next h2 a0) fun q4 =>
  some q4
def f_X1_addLabel (h : AH) (a0 : Nat) (a1 : Int64) (a3 : Int32) : Option (AH) :=
  gs h a0 1 <|
  if (750 : Int32) ≤ (hI h a0 9) then
    some h
  else
    gs h (hR h a0 10) 22 <|
    gb (ib (hI h a0 9) (hN h (hR h a0 10))) <|
    lt (sL h (hR h a0 10) (hI h a0 9).toNatClampNeg a1) fun h5 =>
    gs h5 (hR h5 a0 11) 21 <|
    gb (ib (hI h5 a0 9) (hN h5 (hR h5 a0 11))) <|
    lt (sI h5 (hR h5 a0 11) (hI h5 a0 9).toNatClampNeg a3) fun h9 =>
    gs h9 (hR h9 a0 12) 21 <|
    gb (ib (hI h9 a0 9) (hN h9 (hR h9 a0 12))) <|
    lt (sI h9 (hR h9 a0 12) (hI h9 a0 9).toNatClampNeg (hI h9 a0 13)) fun h13 =>
    lt (sI h13 a0 9 ((hI h13 a0 9) + (1 : Int32))) fun h15 =>
    some h15
def f_X1_refuse (h : AH) (a0 : Nat) (a1 : Int32) : Option (Int32 × AH) :=
  gs h a0 1 <|
  lt (sI h a0 16 (1 : Int32)) fun h2 =>
  lt (sI h2 a0 17 a1) fun h4 =>
  some ((0 : Int32), h4)
def f_X1_findWord_L2 (h : AH) : Nat → Int64 → Int32 → Option (Int32)
  | 0, _, _ => none
  | n + 1, a0, a2 =>
    if (61 : Int32) ≤ a2 then
      some (-1 : Int32)
    else
      gb (ib a2 61) <|
      gb (decide (a2.toNatClampNeg < 61)) <|
      if ¬ (lg_cmp (mKey.getD a2.toNatClampNeg 0) a0) = 0 then
        lt (a2 + (1 : Int32)) fun x5 =>
        f_X1_findWord_L2 h n a0 x5
      else
        some a2
def f_X1_findWord (h : AH) (a0 : Int64) : Option (Int32) :=
  lt ((0 : Int32)) fun x1 =>
  f_X1_findWord_L2 h FU a0 x1
def f_J0_coder_7d493 (h : AH) (a0 : Nat) : Option (Int32) :=
  if (1 : Int32) = 0 then
    gb (bok (1 : Int32)) <|
    some (1 : Int32)
  else
    gb (sok a0) <|
    gb (bok (0 : Int32)) <|
    some (0 : Int32)
def f_J0_length_8abf5 (h : AH) (a0 : Nat) : Option (Int32) :=
  gb (sok a0) <|
  gb (sok a0) <|
  gb (sok a0) <|
  bd (f_J0_coder_7d493 h a0) fun v4 =>
  some ((nI (sLen.getD (a0 - 1) 0)) >>> (v4 &&& 31))
def f_J0_isLatin1_aae02 (h : AH) (a0 : Nat) : Option (Int32) :=
  if (1 : Int32) = 0 then
    some (0 : Int32)
  else
    gb (sok a0) <|
    if ¬ (0 : Int32) = 0 then
      some (0 : Int32)
    else
      some (1 : Int32)
def f_J3_checkIndex_8e157_L9 (h : AH) (a0 : Int32) (a1 : Int32) : Option (Int32) :=
  none
def f_J3_checkIndex_8e157 (h : AH) (a0 : Int32) (a1 : Int32) : Option (Int32) :=
  if a0 < 0 then
    f_J3_checkIndex_8e157_L9 h a0 a1
  else
    if a0 < a1 then
      some a0
    else
      f_J3_checkIndex_8e157_L9 h a0 a1
def f_J0_checkIndex_df160 (h : AH) (a0 : Int32) (a1 : Int32) : Option (AH) :=
  bd (f_J3_checkIndex_8e157 h a0 a1) fun v1 =>
  some h
def f_J1_charAt_3b067 (h : AH) (a0 : Nat) (a1 : Int32) : Option (Int32 × AH) :=
  gb (sok a0) <|
  bd (f_J0_checkIndex_df160 h a1 (nI (sLen.getD (a0 - 1) 0))) fun q2 =>
  gb (sok a0) <|
  gb (ib a1 (sLen.getD (a0 - 1) 0)) <|
  gb (cok (ji2c (((sByt.getD (a0 - 1) []).getD a1.toNatClampNeg 0) &&& (255 : Int32)))) <|
  some ((ji2c (((sByt.getD (a0 - 1) []).getD a1.toNatClampNeg 0) &&& (255 : Int32))), q2)
def f_J0_charAt_5068e (h : AH) (a0 : Nat) (a1 : Int32) : Option (Int32 × AH) :=
  gb (sok a0) <|
  bd (f_J0_isLatin1_aae02 h a0) fun v2 =>
  if v2 = 0 then
    gb (sok a0) <|
    none
  else
    gb (sok a0) <|
    bd (f_J1_charAt_3b067 h a0 a1) fun q6 =>
    gb (cok q6.1) <|
    some (q6.1, q6.2)
def f_X1_registerOf_L84 (h : AH) (a2 : Int32) (a3 : Int32) (s0 : Int32) : Option (Int32) :=
  if s0 = 0 then
    some (-1 : Int32)
  else
    some (((10 : Int32) * a3) + a2)
def f_X1_registerOf_L83 (h : AH) (a2 : Int32) (a3 : Int32) : Option (Int32) :=
  f_X1_registerOf_L84 h a2 a3 (0 : Int32)
def f_X1_registerOf_L79 (h : AH) (a2 : Int32) (a3 : Int32) : Option (Int32) :=
  f_X1_registerOf_L84 h a2 a3 (1 : Int32)
def f_X1_registerOf (h : AH) (a0 : Int64) : Option (Int32) :=
  lt ((((a0 &&& (255 : Int64)).toInt32) - (48 : Int32))) fun x1 =>
  lt (((((jlushr a0 (8 : Int32)) &&& (255 : Int64)).toInt32) - (48 : Int32))) fun x2 =>
  if x1 < 0 then
    some (-1 : Int32)
  else
    if x1 ≤ (9 : Int32) then
      if ¬ (lg_cmp (jlushr a0 (8 : Int32)) (120 : Int64)) = 0 then
        if ¬ (lg_cmp (jlushr a0 (16 : Int32)) (120 : Int64)) = 0 then
          f_X1_registerOf_L83 h x1 x2
        else
          if x2 = (1 : Int32) then
            f_X1_registerOf_L79 h x1 x2
          else
            if x2 = (2 : Int32) then
              f_X1_registerOf_L79 h x1 x2
            else
              if ¬ x2 = (3 : Int32) then
                f_X1_registerOf_L83 h x1 x2
              else
                if (2 : Int32) ≤ x1 then
                  f_X1_registerOf_L83 h x1 x2
                else
                  f_X1_registerOf_L79 h x1 x2
      else
        some x1
    else
      some (-1 : Int32)
def f_X1_readRegister_L25 (h : AH) (a0 : Nat) (a1 : Int32) (s0 : Int32) : Option (Int32 × AH) :=
  if 0 ≤ s0 then
    gs h a0 1 <|
    gs h (hR h a0 5) 21 <|
    gb (ib (hI h a0 1) (hN h (hR h a0 5))) <|
    gb (ib (hI h a0 1) (hN h (hR h a0 5))) <|
    lt (sI h (hR h a0 5) (hI h a0 1).toNatClampNeg ((hI h (hR h a0 5) (hI h a0 1).toNatClampNeg) ||| (s0 <<< (a1 &&& 31)))) fun h6 =>
    gs h6 (hR h6 a0 0) 7 <|
    bd (f_X8_next h6 (hR h6 a0 0)) fun q9 =>
    some ((1 : Int32), q9)
  else
    some ((0 : Int32), h)
def f_X1_readRegister (h : AH) (a0 : Nat) (a1 : Int32) : Option (Int32 × AH) :=
  gs h a0 1 <|
  gs h (hR h a0 0) 7 <|
  if ¬ (hI h (hR h a0 0) 3) = (2 : Int32) then
    f_X1_readRegister_L25 h a0 a1 (-1 : Int32)
  else
    bd (f_X1_registerOf h (hL h (hR h a0 0) 5)) fun v4 =>
    f_X1_readRegister_L25 h a0 a1 v4
def f_X1_readNumber_L154 (h : AH) (a0 : Nat) : Option (Int32 × AH) :=
  gs h a0 1 <|
  gs h (hR h a0 0) 7 <|
  bd (f_X8_next h (hR h a0 0)) fun q3 =>
  some ((1 : Int32), q3)
def f_X1_readNumber_L100 (h : AH) (a0 : Nat) (s0 : Nat) (s1 : Int32) (s2 : Int64) : Option (Int32 × AH) :=
  gs h s0 22 <|
  gb (ib s1 (hN h s0)) <|
  lt (sL h s0 s1.toNatClampNeg s2) fun h3 =>
  f_X1_readNumber_L154 h3 a0
def f_X1_readNumber_L49 (h : AH) (a0 : Nat) (a1 : Int32) (a2 : Int32) : Option (Int32 × AH) :=
  gs h a0 1 <|
  gs h (hR h a0 0) 7 <|
  if ¬ (hI h (hR h a0 0) 3) = (3 : Int32) then
    if ¬ (hI h (hR h a0 0) 3) = (2 : Int32) then
      some ((0 : Int32), h)
    else
      if a1 = 0 then
        some ((0 : Int32), h)
      else
        if ¬ a2 = 0 then
          some ((0 : Int32), h)
        else
          gs h (hR h a0 6) 21 <|
          gb (ib (hI h a0 1) (hN h (hR h a0 6))) <|
          lt (sI h (hR h a0 6) (hI h a0 1).toNatClampNeg (2 : Int32)) fun h9 =>
          gs h9 (hR h9 a0 0) 7 <|
          gs h9 (hR h9 a0 8) 22 <|
          gb (ib (hI h9 a0 1) (hN h9 (hR h9 a0 8))) <|
          lt (sL h9 (hR h9 a0 8) (hI h9 a0 1).toNatClampNeg (hL h9 (hR h9 a0 0) 5)) fun h14 =>
          f_X1_readNumber_L154 h14 a0
  else
    gs h (hR h a0 6) 21 <|
    gb (ib (hI h a0 1) (hN h (hR h a0 6))) <|
    lt (sI h (hR h a0 6) (hI h a0 1).toNatClampNeg (1 : Int32)) fun h17 =>
    if a2 = 0 then
      gs h17 (hR h17 a0 0) 7 <|
      f_X1_readNumber_L100 h17 a0 (hR h17 a0 8) (hI h17 a0 1) (hL h17 (hR h17 a0 0) 5)
    else
      gs h17 (hR h17 a0 0) 7 <|
      f_X1_readNumber_L100 h17 a0 (hR h17 a0 8) (hI h17 a0 1) (-(hL h17 (hR h17 a0 0) 5))
def f_X1_readNumber_L37 (h : AH) (a0 : Nat) (a1 : Int32) (s0 : Int32) : Option (Int32 × AH) :=
  if s0 = 0 then
    f_X1_readNumber_L49 h a0 a1 s0
  else
    gs h a0 1 <|
    gs h (hR h a0 0) 7 <|
    bd (f_X8_next h (hR h a0 0)) fun q4 =>
    f_X1_readNumber_L49 q4 a0 a1 s0
def f_X1_readNumber_L36 (h : AH) (a0 : Nat) (a1 : Int32) : Option (Int32 × AH) :=
  f_X1_readNumber_L37 h a0 a1 (0 : Int32)
def f_X1_readNumber (h : AH) (a0 : Nat) (a1 : Int32) : Option (Int32 × AH) :=
  gs h a0 1 <|
  gs h (hR h a0 0) 7 <|
  gs h (hR h a0 7) 21 <|
  gb (ib (hI h a0 1) (hN h (hR h a0 7))) <|
  lt (sI h (hR h a0 7) (hI h a0 1).toNatClampNeg (hI h (hR h a0 0) 4)) fun h5 =>
  if a1 = 0 then
    f_X1_readNumber_L36 h5 a0 a1
  else
    gs h5 (hR h5 a0 0) 7 <|
    if ¬ (hI h5 (hR h5 a0 0) 3) = (45 : Int32) then
      f_X1_readNumber_L36 h5 a0 a1
    else
      f_X1_readNumber_L37 h5 a0 a1 (1 : Int32)
def f_X1_readOperand (h : AH) (a0 : Nat) (a1 : Int32) : Option (Int32 × AH) :=
  if a1 = (78 : Int32) then
    gs h a0 1 <|
    bd (f_X1_readNumber h a0 (1 : Int32)) fun q3 =>
    gb (q3.1 == 0 || q3.1 == 1) <|
    some (q3.1, q3.2)
  else
    if a1 = (97 : Int32) then
      gs h a0 1 <|
      bd (f_X1_readRegister h a0 (15 : Int32)) fun q7 =>
      gb (q7.1 == 0 || q7.1 == 1) <|
      some (q7.1, q7.2)
    else
      if a1 = (98 : Int32) then
        gs h a0 1 <|
        bd (f_X1_readRegister h a0 (20 : Int32)) fun q11 =>
        gb (q11.1 == 0 || q11.1 == 1) <|
        some (q11.1, q11.2)
      else
        if a1 = (100 : Int32) then
          gs h a0 1 <|
          bd (f_X1_readRegister h a0 (7 : Int32)) fun q15 =>
          gb (q15.1 == 0 || q15.1 == 1) <|
          some (q15.1, q15.2)
        else
          if a1 = (110 : Int32) then
            gs h a0 1 <|
            bd (f_X1_readNumber h a0 (0 : Int32)) fun q19 =>
            gb (q19.1 == 0 || q19.1 == 1) <|
            some (q19.1, q19.2)
          else
            gs h a0 1 <|
            gs h (hR h a0 0) 7 <|
            if (hI h (hR h a0 0) 3) = a1 then
              bd (f_X8_next h (hR h a0 0)) fun q24 =>
              some ((1 : Int32), q24)
            else
              some ((0 : Int32), h)
def f_X1_fits (h : AH) (a0 : Int32) (a1 : Int64) : Option (Int32) :=
  if a0 = (2 : Int32) then
    if (lg_cmp a1 (0 : Int64)) < 0 then
      some (0 : Int32)
    else
      if 0 < (lg_cmp a1 (31 : Int64)) then
        some (0 : Int32)
      else
        some (1 : Int32)
  else
    if a0 = (4 : Int32) then
      if (lg_cmp a1 (-4096 : Int64)) < 0 then
        some (0 : Int32)
      else
        if 0 < (lg_cmp a1 (4094 : Int64)) then
          some (0 : Int32)
        else
          if ¬ (lg_cmp (a1 &&& (1 : Int64)) (0 : Int64)) = 0 then
            some (0 : Int32)
          else
            some (1 : Int32)
    else
      if a0 = (5 : Int32) then
        if (lg_cmp a1 (0 : Int64)) < 0 then
          some (0 : Int32)
        else
          if 0 < (lg_cmp a1 (1048575 : Int64)) then
            some (0 : Int32)
          else
            some (1 : Int32)
      else
        if a0 = (6 : Int32) then
          if (lg_cmp a1 (-1048576 : Int64)) < 0 then
            some (0 : Int32)
          else
            if 0 < (lg_cmp a1 (1048574 : Int64)) then
              some (0 : Int32)
            else
              if ¬ (lg_cmp (a1 &&& (1 : Int64)) (0 : Int64)) = 0 then
                some (0 : Int32)
              else
                some (1 : Int32)
        else
          if a0 = (7 : Int32) then
            if (lg_cmp a1 (-2147483648 : Int64)) < 0 then
              some (0 : Int32)
            else
              if 0 < (lg_cmp a1 (4294967295 : Int64)) then
                some (0 : Int32)
              else
                some (1 : Int32)
          else
            if a0 = (8 : Int32) then
              if (lg_cmp a1 (-2147483648 : Int64)) < 0 then
                some (0 : Int32)
              else
                if 0 < (lg_cmp a1 (4294967295 : Int64)) then
                  some (0 : Int32)
                else
                  some (1 : Int32)
            else
              if a0 = (9 : Int32) then
                if (lg_cmp a1 (0 : Int64)) < 0 then
                  some (0 : Int32)
                else
                  if 0 < (lg_cmp a1 (8188 : Int64)) then
                    some (0 : Int32)
                  else
                    if ¬ (lg_cmp (a1 &&& (3 : Int64)) (0 : Int64)) = 0 then
                      some (0 : Int32)
                    else
                      some (1 : Int32)
              else
                if a0 = (10 : Int32) then
                  if (lg_cmp a1 (0 : Int64)) < 0 then
                    some (0 : Int32)
                  else
                    if 0 < (lg_cmp a1 (15 : Int64)) then
                      some (0 : Int32)
                    else
                      some (1 : Int32)
                else
                  if (lg_cmp a1 (-2048 : Int64)) < 0 then
                    some (0 : Int32)
                  else
                    if 0 < (lg_cmp a1 (2047 : Int64)) then
                      some (0 : Int32)
                    else
                      some (1 : Int32)
def f_X1_wordsOf_L56 (h : AH) (a2 : Int32) (s0 : Int32) : Option (Int32) :=
  if ¬ a2 = (7 : Int32) then
    some (1 : Int32)
  else
    if ¬ s0 = 0 then
      some (1 : Int32)
    else
      some (2 : Int32)
def f_X1_wordsOf_L55 (h : AH) (a2 : Int32) : Option (Int32) :=
  f_X1_wordsOf_L56 h a2 (0 : Int32)
def f_X1_wordsOf (h : AH) (a0 : Nat) (a1 : Int32) : Option (Int32) :=
  gs h a0 1 <|
  gs h (hR h a0 2) 21 <|
  gb (ib a1 (hN h (hR h a0 2))) <|
  gb (ib (hI h (hR h a0 2) a1.toNatClampNeg) 61) <|
  gb (decide (((hI h (hR h a0 2) a1.toNatClampNeg).toNatClampNeg) < 61)) <|
  lt ((mForm.getD ((hI h (hR h a0 2) a1.toNatClampNeg).toNatClampNeg) 0)) fun x6 =>
  if x6 = (9 : Int32) then
    some (0 : Int32)
  else
    if ¬ x6 = (10 : Int32) then
      gs h (hR h a0 6) 21 <|
      gb (ib a1 (hN h (hR h a0 6))) <|
      if ¬ (hI h (hR h a0 6) a1.toNatClampNeg) = (1 : Int32) then
        f_X1_wordsOf_L55 h x6
      else
        gs h (hR h a0 8) 22 <|
        gb (ib a1 (hN h (hR h a0 8))) <|
        bd (f_X1_fits h (1 : Int32) (hL h (hR h a0 8) a1.toNatClampNeg)) fun v14 =>
        if v14 = 0 then
          f_X1_wordsOf_L55 h x6
        else
          f_X1_wordsOf_L56 h x6 (1 : Int32)
    else
      some (0 : Int32)
def f_X1_layOut_L122 (h : AH) (a0 : Nat) : Option (AH) :=
  gs h a0 1 <|
  lt (sI h a0 1 ((hI h a0 1) + (1 : Int32))) fun h2 =>
  some h2
def f_X1_layOut_L47 (h : AH) (a0 : Nat) (s0 : Nat) (s1 : Int32) : Option (AH) :=
  gs h s0 1 <|
  lt (sI h s0 13 s1) fun h2 =>
  f_X1_layOut_L122 h2 a0
def f_X1_layOut (h : AH) (a0 : Nat) (a1 : Int32) : Option (AH) :=
  gs h a0 1 <|
  gs h (hR h a0 4) 21 <|
  gb (ib (hI h a0 1) (hN h (hR h a0 4))) <|
  lt (sI h (hR h a0 4) (hI h a0 1).toNatClampNeg (hI h a0 13)) fun h4 =>
  gs h4 (hR h4 a0 8) 22 <|
  gb (ib (hI h4 a0 1) (hN h4 (hR h4 a0 8))) <|
  lt ((hL h4 (hR h4 a0 8) (hI h4 a0 1).toNatClampNeg)) fun x8 =>
  if ¬ a1 = (9 : Int32) then
    if ¬ a1 = (10 : Int32) then
      bd (f_X1_wordsOf h4 a0 (hI h4 a0 1)) fun v11 =>
      lt (sI h4 a0 13 ((hI h4 a0 13) + ((4 : Int32) * v11))) fun h12 =>
      bd (f_X1_wordsOf h12 a0 (hI h12 a0 1)) fun v14 =>
      lt (sI h12 a0 14 ((hI h12 a0 14) + v14)) fun h15 =>
      f_X1_layOut_L122 h15 a0
    else
      bd (f_X1_fits h4 (10 : Int32) x8) fun v16 =>
      if v16 = 0 then
        f_X1_layOut_L122 h4 a0
      else
        gs h4 (hR h4 a0 15) 21 <|
        gb (ib (x8.toInt32) (hN h4 (hR h4 a0 15))) <|
        lt (sI h4 (hR h4 a0 15) (x8.toInt32).toNatClampNeg ((hI h4 a0 13) &&& (8191 : Int32))) fun h20 =>
        f_X1_layOut_L122 h20 a0
  else
    bd (f_X1_fits h4 (9 : Int32) x8) fun v21 =>
    if v21 = 0 then
      f_X1_layOut_L47 h4 a0 a0 (8192 : Int32)
    else
      f_X1_layOut_L47 h4 a0 a0 (x8.toInt32)
def f_X1_readEnd (h : AH) (a0 : Nat) : Option (Int32 × AH) :=
  gs h a0 1 <|
  gs h (hR h a0 0) 7 <|
  if (hI h (hR h a0 0) 3) = (59 : Int32) then
    bd (f_X8_next h (hR h a0 0)) fun q4 =>
    some ((1 : Int32), q4)
  else
    bd (f_X1_refuse h a0 (hI h (hR h a0 0) 4)) fun q5 =>
    gb (q5.1 == 0 || q5.1 == 1) <|
    some (q5.1, q5.2)
def f_X1_readInstruction_L81 : Nat → AH → Nat → Int32 → Nat → Int32 → Option (Int32 × AH)
  | 0, _, _, _, _, _ => none
  | n + 1, h, a0, a1, a3, a4 =>
    gb (sok a3) <|
    bd (f_J0_length_8abf5 h a3) fun v2 =>
    if v2 ≤ a4 then
      gb (ib a1 61) <|
      gb (decide (a1.toNatClampNeg < 61)) <|
      gs h a0 1 <|
      bd (f_X1_layOut h a0 (mForm.getD a1.toNatClampNeg 0)) fun q7 =>
      gs q7 a0 1 <|
      bd (f_X1_readEnd q7 a0) fun q9 =>
      gb (q9.1 == 0 || q9.1 == 1) <|
      some (q9.1, q9.2)
    else
      gb (sok a3) <|
      bd (f_J0_charAt_5068e h a3 a4) fun q12 =>
      gs q12.2 a0 1 <|
      bd (f_X1_readOperand q12.2 a0 q12.1) fun q14 =>
      if ¬ q14.1 = 0 then
        lt (a4 + (1 : Int32)) fun x16 =>
        f_X1_readInstruction_L81 n q14.2 a0 a1 a3 x16
      else
        gs q14.2 a0 1 <|
        gs q14.2 (hR q14.2 a0 0) 7 <|
        bd (f_X1_refuse q14.2 a0 (hI q14.2 (hR q14.2 a0 0) 4)) fun q19 =>
        gb (q19.1 == 0 || q19.1 == 1) <|
        some (q19.1, q19.2)
def f_X1_readInstruction (h : AH) (a0 : Nat) (a1 : Int32) (a2 : Int32) : Option (Int32 × AH) :=
  gs h a0 1 <|
  if (hI h a0 1) < (375 : Int32) then
    gs h (hR h a0 2) 21 <|
    gb (ib (hI h a0 1) (hN h (hR h a0 2))) <|
    lt (sI h (hR h a0 2) (hI h a0 1).toNatClampNeg a1) fun h5 =>
    gs h5 (hR h5 a0 3) 21 <|
    gb (ib (hI h5 a0 1) (hN h5 (hR h5 a0 3))) <|
    lt (sI h5 (hR h5 a0 3) (hI h5 a0 1).toNatClampNeg a2) fun h9 =>
    gb (ib a1 61) <|
    gb (decide (a1.toNatClampNeg < 61)) <|
    gs h9 (hR h9 a0 5) 21 <|
    gb (ib (hI h9 a0 1) (hN h9 (hR h9 a0 5))) <|
    lt (sI h9 (hR h9 a0 5) (hI h9 a0 1).toNatClampNeg (mBase.getD a1.toNatClampNeg 0)) fun h15 =>
    gs h15 (hR h15 a0 6) 21 <|
    gb (ib (hI h15 a0 1) (hN h15 (hR h15 a0 6))) <|
    lt (sI h15 (hR h15 a0 6) (hI h15 a0 1).toNatClampNeg (0 : Int32)) fun h19 =>
    gb (ib a1 61) <|
    gb (decide (a1.toNatClampNeg < 61)) <|
    lt ((0 : Int32)) fun x22 =>
    f_X1_readInstruction_L81 FU h19 a0 a1 (mOps.getD a1.toNatClampNeg 0) x22
  else
    gs h (hR h a0 0) 7 <|
    bd (f_X1_refuse h a0 (hI h (hR h a0 0) 1)) fun q24 =>
    gb (q24.1 == 0 || q24.1 == 1) <|
    some (q24.1, q24.2)
def f_X1_readStatement_L129 (h : AH) (a0 : Nat) : Option (Int32 × AH) :=
  gs h a0 1 <|
  bd (f_X1_readEnd h a0) fun q2 =>
  gb (q2.1 == 0 || q2.1 == 1) <|
  some (q2.1, q2.2)
def f_X1_readStatement_L4 : Nat → AH → Nat → Int32 → Option (Int32 × AH)
  | 0, _, _, _ => none
  | n + 1, h, a0, a1 =>
    if a1 ≤ 0 then
      f_X1_readStatement_L129 h a0
    else
      gs h a0 1 <|
      gs h (hR h a0 0) 7 <|
      if ¬ (hI h (hR h a0 0) 3) = (2 : Int32) then
        f_X1_readStatement_L129 h a0
      else
        lt ((hL h (hR h a0 0) 5)) fun x5 =>
        lt ((hI h (hR h a0 0) 4)) fun x6 =>
        bd (f_X8_next h (hR h a0 0)) fun q7 =>
        gs q7 a0 1 <|
        gs q7 (hR q7 a0 0) 7 <|
        if ¬ (hI q7 (hR q7 a0 0) 3) = (58 : Int32) then
          if ¬ (hI q7 (hR q7 a0 0) 3) = 0 then
            bd (f_X1_findWord q7 x5) fun v12 =>
            if 0 ≤ v12 then
              bd (f_X1_readInstruction q7 a0 v12 x6) fun q14 =>
              gb (q14.1 == 0 || q14.1 == 1) <|
              some (q14.1, q14.2)
            else
              bd (f_X1_refuse q7 a0 x6) fun q16 =>
              gb (q16.1 == 0 || q16.1 == 1) <|
              some (q16.1, q16.2)
          else
            bd (f_X1_refuse q7 a0 (hI q7 (hR q7 a0 0) 4)) fun q18 =>
            gb (q18.1 == 0 || q18.1 == 1) <|
            some (q18.1, q18.2)
        else
          bd (f_X1_addLabel q7 a0 x5 x6) fun q20 =>
          gs q20 a0 1 <|
          gs q20 (hR q20 a0 0) 7 <|
          bd (f_X8_next q20 (hR q20 a0 0)) fun q23 =>
          lt (a1 + (-1 : Int32)) fun x24 =>
          f_X1_readStatement_L4 n q23 a0 x24
def f_X1_readStatement (h : AH) (a0 : Nat) : Option (Int32 × AH) :=
  lt ((1500 : Int32)) fun x1 =>
  f_X1_readStatement_L4 FU h a0 x1
def f_X1_findLabel_L2 (h : AH) : Nat → Nat → Int64 → Int32 → Option (Int32)
  | 0, _, _, _ => none
  | n + 1, a0, a1, a3 =>
    gs h a0 1 <|
    if (hI h a0 9) ≤ a3 then
      some (-1 : Int32)
    else
      gs h (hR h a0 10) 22 <|
      gb (ib a3 (hN h (hR h a0 10))) <|
      if ¬ (lg_cmp (hL h (hR h a0 10) a3.toNatClampNeg) a1) = 0 then
        lt (a3 + (1 : Int32)) fun x6 =>
        f_X1_findLabel_L2 h n a0 a1 x6
      else
        some a3
def f_X1_findLabel (h : AH) (a0 : Nat) (a1 : Int64) : Option (Int32) :=
  lt ((0 : Int32)) fun x1 =>
  f_X1_findLabel_L2 h FU a0 a1 x1
def f_X1_noteFault_L41 (h : AH) (a0 : Nat) (a1 : Int32) (a2 : Int32) : Option (AH) :=
  gs h a0 1 <|
  lt (sI h a0 16 a1) fun h2 =>
  lt (sI h2 a0 17 a2) fun h4 =>
  some h4
def f_X1_noteFault_L29 (h : AH) (a0 : Nat) (a1 : Int32) (a2 : Int32) (s0 : Int32) : Option (AH) :=
  gs h a0 1 <|
  if (hI h a0 16) = 0 then
    f_X1_noteFault_L41 h a0 a1 a2
  else
    if s0 = 0 then
      some h
    else
      f_X1_noteFault_L41 h a0 a1 a2
def f_X1_noteFault_L24 (h : AH) (a0 : Nat) (a1 : Int32) (a2 : Int32) : Option (AH) :=
  f_X1_noteFault_L29 h a0 a1 a2 (1 : Int32)
def f_X1_noteFault_L28 (h : AH) (a0 : Nat) (a1 : Int32) (a2 : Int32) : Option (AH) :=
  f_X1_noteFault_L29 h a0 a1 a2 (0 : Int32)
def f_X1_noteFault (h : AH) (a0 : Nat) (a1 : Int32) (a2 : Int32) : Option (AH) :=
  gs h a0 1 <|
  if a2 < (hI h a0 17) then
    f_X1_noteFault_L24 h a0 a1 a2
  else
    if ¬ a2 = (hI h a0 17) then
      f_X1_noteFault_L28 h a0 a1 a2
    else
      if (hI h a0 16) ≤ a1 then
        f_X1_noteFault_L28 h a0 a1 a2
      else
        f_X1_noteFault_L24 h a0 a1 a2
def f_X1_checkLabels_L35 (k2 : AH → Nat → Int32 → Option (AH)) (h : AH) (a0 : Nat) (a1 : Int32) : Option (AH) :=
  lt (a1 + (1 : Int32)) fun x1 =>
  k2 h a0 x1
def f_X1_checkLabels_L2 : Nat → AH → Nat → Int32 → Option (AH)
  | 0, _, _, _ => none
  | n + 1, h, a0, a1 =>
    gs h a0 1 <|
    if (hI h a0 9) ≤ a1 then
      some h
    else
      gs h (hR h a0 10) 22 <|
      gb (ib a1 (hN h (hR h a0 10))) <|
      bd (f_X1_findLabel h a0 (hL h (hR h a0 10) a1.toNatClampNeg)) fun v5 =>
      if v5 = a1 then
        f_X1_checkLabels_L35 (f_X1_checkLabels_L2 n) h a0 a1
      else
        gs h (hR h a0 11) 21 <|
        gb (ib a1 (hN h (hR h a0 11))) <|
        bd (f_X1_noteFault h a0 (2 : Int32) (hI h (hR h a0 11) a1.toNatClampNeg)) fun q9 =>
        f_X1_checkLabels_L35 (f_X1_checkLabels_L2 n) q9 a0 a1
def f_X1_checkLabels (h : AH) (a0 : Nat) : Option (AH) :=
  lt ((0 : Int32)) fun x1 =>
  f_X1_checkLabels_L2 FU h a0 x1
def f_X1_checkItem_L148 (h : AH) (a0 : Nat) (a1 : Int32) (a2 : Int32) : Option (AH) :=
  gs h a0 1 <|
  gs h (hR h a0 8) 22 <|
  gb (ib a1 (hN h (hR h a0 8))) <|
  bd (f_X1_fits h a2 (hL h (hR h a0 8) a1.toNatClampNeg)) fun v4 =>
  if ¬ v4 = 0 then
    some h
  else
    gs h (hR h a0 7) 21 <|
    gb (ib a1 (hN h (hR h a0 7))) <|
    bd (f_X1_noteFault h a0 (3 : Int32) (hI h (hR h a0 7) a1.toNatClampNeg)) fun q8 =>
    some q8
def f_X1_checkItem_L145 (h : AH) (a0 : Nat) (a1 : Int32) (a2 : Int32) (s0 : Nat) (s1 : Int32) (s2 : Int32) (s3 : Int32) : Option (AH) :=
  gs h s0 22 <|
  gb (ib s1 (hN h s0)) <|
  lt (sL h s0 s1.toNatClampNeg ((s2 - s3).toInt64)) fun h3 =>
  f_X1_checkItem_L148 h3 a0 a1 a2
def f_X1_checkItem_L116 (h : AH) (a0 : Nat) (a1 : Int32) (a2 : Int32) (a4 : Int32) (s0 : Int32) : Option (AH) :=
  gs h a0 1 <|
  gs h (hR h a0 12) 21 <|
  gb (ib a4 (hN h (hR h a0 12))) <|
  if s0 = 0 then
    f_X1_checkItem_L145 h a0 a1 a2 (hR h a0 8) a1 (hI h (hR h a0 12) a4.toNatClampNeg) (0 : Int32)
  else
    gs h (hR h a0 4) 21 <|
    gb (ib a1 (hN h (hR h a0 4))) <|
    f_X1_checkItem_L145 h a0 a1 a2 (hR h a0 8) a1 (hI h (hR h a0 12) a4.toNatClampNeg) (hI h (hR h a0 4) a1.toNatClampNeg)
def f_X1_checkItem_L111 (h : AH) (a0 : Nat) (a1 : Int32) (a2 : Int32) (a4 : Int32) : Option (AH) :=
  f_X1_checkItem_L116 h a0 a1 a2 a4 (1 : Int32)
def f_X1_checkItem_L51 (h : AH) (a0 : Nat) (a1 : Int32) (a2 : Int32) : Option (AH) :=
  gs h a0 1 <|
  gs h (hR h a0 6) 21 <|
  gb (ib a1 (hN h (hR h a0 6))) <|
  if ¬ (hI h (hR h a0 6) a1.toNatClampNeg) = 0 then
    gb (ib a1 (hN h (hR h a0 6))) <|
    if ¬ (hI h (hR h a0 6) a1.toNatClampNeg) = (2 : Int32) then
      f_X1_checkItem_L148 h a0 a1 a2
    else
      gs h (hR h a0 8) 22 <|
      gb (ib a1 (hN h (hR h a0 8))) <|
      bd (f_X1_findLabel h a0 (hL h (hR h a0 8) a1.toNatClampNeg)) fun v9 =>
      if 0 ≤ v9 then
        if a2 = (4 : Int32) then
          f_X1_checkItem_L111 h a0 a1 a2 v9
        else
          if ¬ a2 = (6 : Int32) then
            f_X1_checkItem_L116 h a0 a1 a2 v9 (0 : Int32)
          else
            f_X1_checkItem_L111 h a0 a1 a2 v9
      else
        gs h (hR h a0 7) 21 <|
        gb (ib a1 (hN h (hR h a0 7))) <|
        bd (f_X1_noteFault h a0 (2 : Int32) (hI h (hR h a0 7) a1.toNatClampNeg)) fun q15 =>
        some q15
  else
    some h
def f_X1_checkItem (h : AH) (a0 : Nat) (a1 : Int32) : Option (AH) :=
  gs h a0 1 <|
  gs h (hR h a0 2) 21 <|
  gb (ib a1 (hN h (hR h a0 2))) <|
  gb (ib (hI h (hR h a0 2) a1.toNatClampNeg) 61) <|
  gb (decide (((hI h (hR h a0 2) a1.toNatClampNeg).toNatClampNeg) < 61)) <|
  lt ((mForm.getD ((hI h (hR h a0 2) a1.toNatClampNeg).toNatClampNeg) 0)) fun x6 =>
  bd (f_X1_wordsOf h a0 a1) fun v7 =>
  if v7 ≤ 0 then
    f_X1_checkItem_L51 h a0 a1 x6
  else
    gs h (hR h a0 4) 21 <|
    gb (ib a1 (hN h (hR h a0 4))) <|
    if ((hI h (hR h a0 4) a1.toNatClampNeg) + ((4 : Int32) * v7)) ≤ (8192 : Int32) then
      f_X1_checkItem_L51 h a0 a1 x6
    else
      gs h (hR h a0 3) 21 <|
      gb (ib a1 (hN h (hR h a0 3))) <|
      bd (f_X1_noteFault h a0 (3 : Int32) (hI h (hR h a0 3) a1.toNatClampNeg)) fun q14 =>
      f_X1_checkItem_L51 q14 a0 a1 x6
def f_X1_translate_L85 : Nat → AH → Nat → Int32 → Option (Int32 × AH)
  | 0, _, _, _ => none
  | n + 1, h, a0, a1 =>
    gs h a0 1 <|
    if (hI h a0 1) ≤ a1 then
      some ((hI h a0 14), h)
    else
      bd (f_X1_checkItem h a0 a1) fun q3 =>
      lt (a1 + (1 : Int32)) fun x4 =>
      f_X1_translate_L85 n q3 a0 x4
def f_X1_translate_L79 (h : AH) (a0 : Nat) : Option (Int32 × AH) :=
  gs h a0 1 <|
  bd (f_X1_checkLabels h a0) fun q2 =>
  lt ((0 : Int32)) fun x3 =>
  f_X1_translate_L85 FU q2 a0 x3
def f_X1_translate_L49 : Nat → AH → Nat → Int32 → Option (Int32 × AH)
  | 0, _, _, _ => none
  | n + 1, h, a0, a1 =>
    if a1 ≤ 0 then
      f_X1_translate_L79 h a0
    else
      gs h a0 1 <|
      gs h (hR h a0 0) 7 <|
      if (hI h (hR h a0 0) 3) = (1 : Int32) then
        f_X1_translate_L79 h a0
      else
        bd (f_X1_readStatement h a0) fun q5 =>
        if ¬ q5.1 = 0 then
          lt (a1 + (-1 : Int32)) fun x7 =>
          f_X1_translate_L49 n q5.2 a0 x7
        else
          some ((-1 : Int32), q5.2)
def f_X1_translate (h : AH) (a0 : Nat) : Option (Int32 × AH) :=
  gs h a0 1 <|
  lt (sI h a0 1 (0 : Int32)) fun h2 =>
  lt (sI h2 a0 9 (0 : Int32)) fun h4 =>
  lt (sI h4 a0 13 (0 : Int32)) fun h6 =>
  lt (sI h6 a0 14 (0 : Int32)) fun h8 =>
  lt (sI h8 a0 16 (0 : Int32)) fun h10 =>
  lt (sI h10 a0 17 (0 : Int32)) fun h12 =>
  bd (f_J7_fill_53178 h12 (hR h12 a0 15) (0 : Int32)) fun q14 =>
  gs q14 a0 1 <|
  gs q14 (hR q14 a0 0) 7 <|
  bd (f_X8_rewind q14 (hR q14 a0 0)) fun q17 =>
  lt ((1500 : Int32)) fun x18 =>
  f_X1_translate_L49 FU q17 a0 x18
def f_X1_upperPart (h : AH) (a0 : Nat) (a1 : Int32) : Option (Int32) :=
  gs h a0 1 <|
  gs h (hR h a0 8) 22 <|
  gb (ib a1 (hN h (hR h a0 8))) <|
  lt ((hL h (hR h a0 8) a1.toNatClampNeg).toInt32) fun x4 =>
  lt (((x4 <<< ((20 : Int32) &&& 31)) >>> ((20 : Int32) &&& 31))) fun x5 =>
  gs h (hR h a0 5) 21 <|
  gb (ib a1 (hN h (hR h a0 5))) <|
  lt (((hI h (hR h a0 5) a1.toNatClampNeg) &&& (3968 : Int32))) fun x8 =>
  some (((55 : Int32) ||| x8) ||| (x4 - x5))
def f_X1_encode (h : AH) (a0 : Nat) (a1 : Int32) : Option (Int32) :=
  gs h a0 1 <|
  gs h (hR h a0 8) 22 <|
  gb (ib a1 (hN h (hR h a0 8))) <|
  lt ((hL h (hR h a0 8) a1.toNatClampNeg).toInt32) fun x4 =>
  gs h (hR h a0 2) 21 <|
  gb (ib a1 (hN h (hR h a0 2))) <|
  gb (ib (hI h (hR h a0 2) a1.toNatClampNeg) 61) <|
  gb (decide (((hI h (hR h a0 2) a1.toNatClampNeg).toNatClampNeg) < 61)) <|
  if (mForm.getD ((hI h (hR h a0 2) a1.toNatClampNeg).toNatClampNeg) 0) = (1 : Int32) then
    gs h (hR h a0 5) 21 <|
    gb (ib a1 (hN h (hR h a0 5))) <|
    some ((hI h (hR h a0 5) a1.toNatClampNeg) ||| (x4 <<< ((20 : Int32) &&& 31)))
  else
    if (mForm.getD ((hI h (hR h a0 2) a1.toNatClampNeg).toNatClampNeg) 0) = (2 : Int32) then
      gs h (hR h a0 5) 21 <|
      gb (ib a1 (hN h (hR h a0 5))) <|
      some ((hI h (hR h a0 5) a1.toNatClampNeg) ||| (x4 <<< ((20 : Int32) &&& 31)))
    else
      if (mForm.getD ((hI h (hR h a0 2) a1.toNatClampNeg).toNatClampNeg) 0) = (3 : Int32) then
        gs h (hR h a0 5) 21 <|
        gb (ib a1 (hN h (hR h a0 5))) <|
        some (((hI h (hR h a0 5) a1.toNatClampNeg) ||| ((x4 >>> ((5 : Int32) &&& 31)) <<< ((25 : Int32) &&& 31))) ||| ((x4 &&& (31 : Int32)) <<< ((7 : Int32) &&& 31)))
      else
        if (mForm.getD ((hI h (hR h a0 2) a1.toNatClampNeg).toNatClampNeg) 0) = (4 : Int32) then
          gs h (hR h a0 5) 21 <|
          gb (ib a1 (hN h (hR h a0 5))) <|
          some (((((hI h (hR h a0 5) a1.toNatClampNeg) ||| ((x4 >>> ((12 : Int32) &&& 31)) <<< ((31 : Int32) &&& 31))) ||| (((x4 >>> ((5 : Int32) &&& 31)) &&& (63 : Int32)) <<< ((25 : Int32) &&& 31))) ||| (((x4 >>> ((1 : Int32) &&& 31)) &&& (15 : Int32)) <<< ((8 : Int32) &&& 31))) ||| (((x4 >>> ((11 : Int32) &&& 31)) &&& (1 : Int32)) <<< ((7 : Int32) &&& 31)))
        else
          if (mForm.getD ((hI h (hR h a0 2) a1.toNatClampNeg).toNatClampNeg) 0) = (5 : Int32) then
            gs h (hR h a0 5) 21 <|
            gb (ib a1 (hN h (hR h a0 5))) <|
            some ((hI h (hR h a0 5) a1.toNatClampNeg) ||| (x4 <<< ((12 : Int32) &&& 31)))
          else
            if (mForm.getD ((hI h (hR h a0 2) a1.toNatClampNeg).toNatClampNeg) 0) = (6 : Int32) then
              gs h (hR h a0 5) 21 <|
              gb (ib a1 (hN h (hR h a0 5))) <|
              some (((((hI h (hR h a0 5) a1.toNatClampNeg) ||| ((x4 >>> ((20 : Int32) &&& 31)) <<< ((31 : Int32) &&& 31))) ||| (((x4 >>> ((1 : Int32) &&& 31)) &&& (1023 : Int32)) <<< ((21 : Int32) &&& 31))) ||| (((x4 >>> ((11 : Int32) &&& 31)) &&& (1 : Int32)) <<< ((20 : Int32) &&& 31))) ||| (x4 &&& (1044480 : Int32)))
            else
              if (mForm.getD ((hI h (hR h a0 2) a1.toNatClampNeg).toNatClampNeg) 0) = (7 : Int32) then
                gs h (hR h a0 5) 21 <|
                gb (ib a1 (hN h (hR h a0 5))) <|
                some ((hI h (hR h a0 5) a1.toNatClampNeg) ||| (x4 <<< ((20 : Int32) &&& 31)))
              else
                if (mForm.getD ((hI h (hR h a0 2) a1.toNatClampNeg).toNatClampNeg) 0) = (8 : Int32) then
                  some x4
                else
                  gs h (hR h a0 5) 21 <|
                  gb (ib a1 (hN h (hR h a0 5))) <|
                  some (hI h (hR h a0 5) a1.toNatClampNeg)
def f_X1_lowerPart (h : AH) (a0 : Nat) (a1 : Int32) : Option (Int32) :=
  gs h a0 1 <|
  gs h (hR h a0 5) 21 <|
  gb (ib a1 (hN h (hR h a0 5))) <|
  lt (((hI h (hR h a0 5) a1.toNatClampNeg) &&& (3968 : Int32))) fun x4 =>
  gs h (hR h a0 8) 22 <|
  gb (ib a1 (hN h (hR h a0 8))) <|
  some ((((19 : Int32) ||| x4) ||| (x4 <<< ((8 : Int32) &&& 31))) ||| (((hL h (hR h a0 8) a1.toNatClampNeg).toInt32) <<< ((20 : Int32) &&& 31)))
def f_X1_emit_L78 (k2 : AH → Nat → Nat → Int32 → Option (AH)) (h : AH) (a0 : Nat) (a1 : Nat) (a2 : Int32) : Option (AH) :=
  lt (a2 + (1 : Int32)) fun x1 =>
  k2 h a0 a1 x1
def f_X1_emit_L61 (k2 : AH → Nat → Nat → Int32 → Option (AH)) (h : AH) (a0 : Nat) (a1 : Nat) (a2 : Int32) (a3 : Int32) (a4 : Int32) (s0 : Nat) (s1 : Int32) (s2 : Int32) : Option (AH) :=
  gs h s0 21 <|
  gb (ib s1 (hN h s0)) <|
  lt (sI h s0 s1.toNatClampNeg s2) fun h3 =>
  if ¬ a3 = (2 : Int32) then
    f_X1_emit_L78 k2 h3 a0 a1 a2
  else
    gs h3 a0 1 <|
    bd (f_X1_lowerPart h3 a0 a2) fun v6 =>
    gs h3 a1 21 <|
    gb (ib (a4 + (1 : Int32)) (hN h3 a1)) <|
    lt (sI h3 a1 (a4 + (1 : Int32)).toNatClampNeg v6) fun h9 =>
    f_X1_emit_L78 k2 h9 a0 a1 a2
def f_X1_emit_L2 : Nat → AH → Nat → Nat → Int32 → Option (AH)
  | 0, _, _, _, _ => none
  | n + 1, h, a0, a1, a2 =>
    gs h a0 1 <|
    if (hI h a0 1) ≤ a2 then
      some h
    else
      bd (f_X1_wordsOf h a0 a2) fun v3 =>
      gs h (hR h a0 4) 21 <|
      gb (ib a2 (hN h (hR h a0 4))) <|
      lt (((hI h (hR h a0 4) a2.toNatClampNeg) >>> ((2 : Int32) &&& 31))) fun x6 =>
      if v3 ≤ 0 then
        f_X1_emit_L78 (f_X1_emit_L2 n) h a0 a1 a2
      else
        if (2048 : Int32) < (x6 + v3) then
          f_X1_emit_L78 (f_X1_emit_L2 n) h a0 a1 a2
        else
          if ¬ v3 = (2 : Int32) then
            bd (f_X1_encode h a0 a2) fun v10 =>
            f_X1_emit_L61 (f_X1_emit_L2 n) h a0 a1 a2 v3 x6 a1 x6 v10
          else
            bd (f_X1_upperPart h a0 a2) fun v11 =>
            f_X1_emit_L61 (f_X1_emit_L2 n) h a0 a1 a2 v3 x6 a1 x6 v11
def f_X1_emit (h : AH) (a0 : Nat) (a1 : Nat) : Option (AH) :=
  lt ((0 : Int32)) fun x1 =>
  f_X1_emit_L2 FU h a0 a1 x1
def f_X2_init (h : AH) (a0 : Nat) : Option (AH) :=
  gs h a0 2 <|
  lt (hNew h 21 (32 : Int32).toNatClampNeg (32 : Int32).toNatClampNeg) fun h2 =>
  gs h2 a0 2 <|
  lt (sR h2 a0 0 (hZ h + 1)) fun h4 =>
  lt (hNew h4 21 (32 : Int32).toNatClampNeg (32 : Int32).toNatClampNeg) fun h5 =>
  gs h5 a0 2 <|
  lt (sR h5 a0 1 (hZ h4 + 1)) fun h7 =>
  lt (hNew h7 21 (32 : Int32).toNatClampNeg (32 : Int32).toNatClampNeg) fun h8 =>
  gs h8 a0 2 <|
  lt (sR h8 a0 2 (hZ h7 + 1)) fun h10 =>
  lt (hNew h10 21 (128 : Int32).toNatClampNeg (128 : Int32).toNatClampNeg) fun h11 =>
  gs h11 a0 2 <|
  lt (sR h11 a0 3 (hZ h10 + 1)) fun h13 =>
  some h13
def f_X2_begin (h : AH) (a0 : Nat) (a1 : Int32) (a2 : Int32) : Option (AH) :=
  gs h a0 2 <|
  lt (sI h a0 4 a1) fun h2 =>
  lt (sI h2 a0 5 a2) fun h4 =>
  lt (sI h4 a0 6 (0 : Int32)) fun h6 =>
  bd (f_J7_fill_53178 h6 (hR h6 a0 1) (0 : Int32)) fun q8 =>
  some q8
def f_X2_find_L47 (h : AH) (k16 : Nat → Int32 → Int32 → Int32 → Option (Int32)) (a0 : Nat) (a1 : Int32) (a2 : Int32) (a3 : Int32) : Option (Int32) :=
  lt (a3 + (1 : Int32)) fun x1 =>
  k16 a0 a1 a2 x1
def f_X2_find_L16 (h : AH) : Nat → Nat → Int32 → Int32 → Int32 → Option (Int32)
  | 0, _, _, _, _ => none
  | n + 1, a0, a1, a2, a3 =>
    gs h a0 2 <|
    if (a2 + (hI h a0 5)) ≤ a3 then
      some (-1 : Int32)
    else
      gs h (hR h a0 1) 21 <|
      gb (ib a3 (hN h (hR h a0 1))) <|
      if (hI h (hR h a0 1) a3.toNatClampNeg) = 0 then
        f_X2_find_L47 h (f_X2_find_L16 h n) a0 a1 a2 a3
      else
        gs h (hR h a0 0) 21 <|
        gb (ib a3 (hN h (hR h a0 0))) <|
        if ¬ (hI h (hR h a0 0) a3.toNatClampNeg) = a1 then
          f_X2_find_L47 h (f_X2_find_L16 h n) a0 a1 a2 a3
        else
          some a3
def f_X2_find (h : AH) (a0 : Nat) (a1 : Int32) : Option (Int32) :=
  gs h a0 2 <|
  lt (((a1 &&& ((hI h a0 4) - (1 : Int32))) * (hI h a0 5))) fun x2 =>
  f_X2_find_L16 h FU a0 a1 x2 x2
def f_X2_slotFor_L62 (h : AH) (k19 : Nat → Int32 → Int32 → Int32 → Option (Int32)) (a0 : Nat) (a2 : Int32) (a3 : Int32) (a4 : Int32) : Option (Int32) :=
  lt (a4 + (1 : Int32)) fun x1 =>
  k19 a0 a2 a3 x1
def f_X2_slotFor_L19 (h : AH) : Nat → Nat → Int32 → Int32 → Int32 → Option (Int32)
  | 0, _, _, _, _ => none
  | n + 1, a0, a2, a3, a4 =>
    gs h a0 2 <|
    if (a2 + (hI h a0 5)) ≤ a4 then
      some a3
    else
      gs h (hR h a0 1) 21 <|
      gb (ib a4 (hN h (hR h a0 1))) <|
      if ¬ (hI h (hR h a0 1) a4.toNatClampNeg) = 0 then
        gs h (hR h a0 2) 21 <|
        gb (ib a4 (hN h (hR h a0 2))) <|
        gb (ib a3 (hN h (hR h a0 2))) <|
        if (hI h (hR h a0 2) a3.toNatClampNeg) ≤ (hI h (hR h a0 2) a4.toNatClampNeg) then
          f_X2_slotFor_L62 h (f_X2_slotFor_L19 h n) a0 a2 a3 a4
        else
          f_X2_slotFor_L62 h (f_X2_slotFor_L19 h n) a0 a2 a4 a4
      else
        some a4
def f_X2_slotFor (h : AH) (a0 : Nat) (a1 : Int32) : Option (Int32) :=
  gs h a0 2 <|
  lt (((a1 &&& ((hI h a0 4) - (1 : Int32))) * (hI h a0 5))) fun x2 =>
  f_X2_slotFor_L19 h FU a0 x2 x2 x2
def f_X2_use (h : AH) (a0 : Nat) (a1 : Int32) : Option (AH) :=
  gs h a0 2 <|
  lt (sI h a0 6 ((hI h a0 6) + (1 : Int32))) fun h2 =>
  gs h2 (hR h2 a0 2) 21 <|
  gb (ib a1 (hN h2 (hR h2 a0 2))) <|
  lt (sI h2 (hR h2 a0 2) a1.toNatClampNeg (hI h2 a0 6)) fun h6 =>
  some h6
def f_X2_put_L22 (h : AH) (a0 : Nat) (a1 : Int32) (a2 : Int32) (a3 : Nat) (a4 : Int32) (s0 : Int32) : Option (AH) :=
  gs h a0 2 <|
  gs h (hR h a0 0) 21 <|
  gb (ib s0 (hN h (hR h a0 0))) <|
  lt (sI h (hR h a0 0) s0.toNatClampNeg a1) fun h4 =>
  gs h4 (hR h4 a0 1) 21 <|
  gb (ib s0 (hN h4 (hR h4 a0 1))) <|
  lt (sI h4 (hR h4 a0 1) s0.toNatClampNeg a2) fun h8 =>
  gs h8 a3 21 <|
  gs h8 (hR h8 a0 3) 21 <|
  gb (cpok a4 (s0 * (4 : Int32)) (4 : Int32) (hN h8 a3) (hN h8 (hR h8 a0 3))) <|
  lt (sA h8 (hR h8 a0 3) (va_cpy (hI h8 a3) (hI h8 (hR h8 a0 3)) a4.toNatClampNeg (s0 * (4 : Int32)).toNatClampNeg (4 : Int32).toNatClampNeg)) fun h13 =>
  bd (f_X2_use h13 a0 s0) fun q15 =>
  some q15
def f_X2_put (h : AH) (a0 : Nat) (a1 : Int32) (a2 : Int32) (a3 : Nat) (a4 : Int32) : Option (AH) :=
  gs h a0 2 <|
  bd (f_X2_find h a0 a1) fun v2 =>
  if v2 < 0 then
    bd (f_X2_slotFor h a0 a1) fun v4 =>
    f_X2_put_L22 h a0 a1 a2 a3 a4 v4
  else
    f_X2_put_L22 h a0 a1 a2 a3 a4 v2
def f_X7_init (h : AH) (a0 : Nat) : Option (AH) :=
  gs h a0 6 <|
  lt (hNew h 21 (48 : Int32).toNatClampNeg (48 : Int32).toNatClampNeg) fun h2 =>
  gs h2 a0 6 <|
  lt (sR h2 a0 0 (hZ h + 1)) fun h4 =>
  some h4
def f_X9_init (h : AH) (a0 : Nat) : Option (AH) :=
  gs h a0 8 <|
  lt (hNew h 21 (256 : Int32).toNatClampNeg (256 : Int32).toNatClampNeg) fun h2 =>
  gs h2 a0 8 <|
  lt (sR h2 a0 0 (hZ h + 1)) fun h4 =>
  some h4
def f_X7_begin (h : AH) (a0 : Nat) (a1 : Int32) : Option (AH) :=
  gs h a0 6 <|
  lt (sI h a0 2 a1) fun h2 =>
  lt (sI h2 a0 1 (0 : Int32)) fun h4 =>
  some h4
def f_X3_begin (h : AH) (a0 : Nat) (a1 : Int32) (a2 : Int32) (a3 : Int32) (a4 : Int32) : Option (AH) :=
  gs h a0 3 <|
  bd (f_J7_fill_53178 h (hR h a0 2) (0 : Int32)) fun q2 =>
  gs q2 a0 3 <|
  lt (sI q2 a0 3 a1) fun h4 =>
  lt (sI h4 a0 4 (0 : Int32)) fun h6 =>
  gs h6 (hR h6 a0 5) 6 <|
  bd (f_X7_begin h6 (hR h6 a0 5) a2) fun q9 =>
  gs q9 a0 3 <|
  gs q9 (hR q9 a0 6) 2 <|
  bd (f_X2_begin q9 (hR q9 a0 6) a3 a4) fun q12 =>
  gs q12 a0 3 <|
  gs q12 (hR q12 a0 7) 8 <|
  lt (sI q12 (hR q12 a0 7) 1 (0 : Int32)) fun h15 =>
  lt (sI h15 a0 8 (-1 : Int32)) fun h17 =>
  lt (sI h17 a0 9 (0 : Int32)) fun h19 =>
  lt (sI h19 a0 11 (-1 : Int32)) fun h21 =>
  lt (sI h21 a0 12 (0 : Int32)) fun h23 =>
  lt (sI h23 a0 13 (0 : Int32)) fun h25 =>
  lt (sI h25 a0 14 (0 : Int32)) fun h27 =>
  lt (sI h27 a0 15 (0 : Int32)) fun h29 =>
  some h29
def f_X3_init (h : AH) (a0 : Nat) (a1 : Int32) (a2 : Nat) : Option (AH) :=
  gs h a0 3 <|
  lt (hNew h 21 (32 : Int32).toNatClampNeg (32 : Int32).toNatClampNeg) fun h2 =>
  gs h2 a0 3 <|
  lt (sR h2 a0 2 (hZ h + 1)) fun h4 =>
  lt (hNew h4 6 0 3) fun h5 =>
  bd (f_X7_init h5 (hZ h4 + 1)) fun q7 =>
  gs q7 a0 3 <|
  lt (sR q7 a0 5 (hZ h4 + 1)) fun h9 =>
  lt (hNew h9 2 0 7) fun h10 =>
  bd (f_X2_init h10 (hZ h9 + 1)) fun q12 =>
  gs q12 a0 3 <|
  lt (sR q12 a0 6 (hZ h9 + 1)) fun h14 =>
  lt (hNew h14 8 0 2) fun h15 =>
  bd (f_X9_init h15 (hZ h14 + 1)) fun q17 =>
  gs q17 a0 3 <|
  lt (sR q17 a0 7 (hZ h14 + 1)) fun h19 =>
  lt (hNew h19 21 (4 : Int32).toNatClampNeg (4 : Int32).toNatClampNeg) fun h20 =>
  gs h20 a0 3 <|
  lt (sR h20 a0 10 (hZ h19 + 1)) fun h22 =>
  lt (sI h22 a0 0 a1) fun h24 =>
  lt (sR h24 a0 1 a2) fun h26 =>
  bd (f_X3_begin h26 a0 (0 : Int32) (1 : Int32) (1 : Int32) (1 : Int32)) fun q28 =>
  some q28
def f_X3_growWaits (h : AH) (a0 : Nat) : Option (AH) :=
  gs h a0 3 <|
  if ¬ (hI h a0 4) = 0 then
    some h
  else
    lt (sI h a0 13 ((hI h a0 13) + (1 : Int32))) fun h3 =>
    lt (sI h3 a0 14 (if (hI h3 a0 14) < (hI h3 a0 13) then (hI h3 a0 13) else (hI h3 a0 14))) fun h5 =>
    some h5
def f_X3_tells_L32 (h : AH)  : Option (Int32) :=
  some (1 : Int32)
def f_X3_tells_L10 (h : AH) (a0 : Nat) (a1 : Int32) : Option (Int32) :=
  if a1 < (100 : Int32) then
    some (0 : Int32)
  else
    gs h a0 3 <|
    gs h (hR h a0 5) 6 <|
    if ((100 : Int32) + ((3 : Int32) * (hI h (hR h a0 5) 1))) ≤ a1 then
      some (0 : Int32)
    else
      f_X3_tells_L32 h 
def f_X3_tells (h : AH) (a0 : Nat) (a1 : Int32) : Option (Int32) :=
  if a1 < 0 then
    f_X3_tells_L10 h a0 a1
  else
    if a1 ≤ (40 : Int32) then
      f_X3_tells_L32 h 
    else
      f_X3_tells_L10 h a0 a1
def f_X7_get (h : AH) (a0 : Nat) (a1 : Int32) (a2 : Int32) : Option (Int32) :=
  gs h a0 6 <|
  gs h (hR h a0 0) 21 <|
  gb (ib ((a1 * (3 : Int32)) + a2) (hN h (hR h a0 0))) <|
  some (hI h (hR h a0 0) ((a1 * (3 : Int32)) + a2).toNatClampNeg)
def f_X3_tell (h : AH) (a0 : Nat) (a1 : Int32) : Option (Int32) :=
  if a1 < (100 : Int32) then
    if a1 = (32 : Int32) then
      gs h a0 3 <|
      some (hI h a0 3)
    else
      if a1 = (33 : Int32) then
        gs h a0 3 <|
        some (hI h a0 4)
      else
        if a1 = (34 : Int32) then
          gs h a0 3 <|
          gs h (hR h a0 5) 6 <|
          some (hI h (hR h a0 5) 1)
        else
          if a1 = (35 : Int32) then
            gs h a0 3 <|
            gs h (hR h a0 7) 8 <|
            some (hI h (hR h a0 7) 1)
          else
            if a1 = (36 : Int32) then
              gs h a0 3 <|
              some (hI h a0 11)
            else
              if a1 = (37 : Int32) then
                gs h a0 3 <|
                some (hI h a0 8)
              else
                if a1 = (38 : Int32) then
                  gs h a0 3 <|
                  some (hI h a0 12)
                else
                  if a1 = (39 : Int32) then
                    gs h a0 3 <|
                    some (hI h a0 13)
                  else
                    if a1 = (40 : Int32) then
                      gs h a0 3 <|
                      some (hI h a0 14)
                    else
                      gs h a0 3 <|
                      gs h (hR h a0 2) 21 <|
                      gb (ib (a1 &&& (31 : Int32)) (hN h (hR h a0 2))) <|
                      some (hI h (hR h a0 2) (a1 &&& (31 : Int32)).toNatClampNeg)
  else
    gs h a0 3 <|
    gs h (hR h a0 5) 6 <|
    bd (f_X7_get h (hR h a0 5) ((a1 - (100 : Int32)) / (3 : Int32)) ((a1 - (100 : Int32)) - (a1 - (100 : Int32)) / (3 : Int32) * (3 : Int32))) fun v27 =>
    some v27
def f_X7_bytesAt_L31 (h : AH) (k4 : Nat → Int32 → Int32 → Int32 → Option (Int32)) (a0 : Nat) (a1 : Int32) (a2 : Int32) (a3 : Int32) : Option (Int32) :=
  lt (a3 + (1 : Int32)) fun x1 =>
  k4 a0 a1 a2 x1
def f_X7_bytesAt_L4 (h : AH) : Nat → Nat → Int32 → Int32 → Int32 → Option (Int32)
  | 0, _, _, _, _ => none
  | n + 1, a0, a1, a2, a3 =>
    gs h a0 6 <|
    if (hI h a0 1) ≤ a3 then
      some a2
    else
      bd (f_X7_get h a0 a3 (0 : Int32)) fun v3 =>
      if ¬ v3 = a1 then
        f_X7_bytesAt_L31 h (f_X7_bytesAt_L4 h n) a0 a1 a2 a3
      else
        bd (f_X7_get h a0 a3 (1 : Int32)) fun v5 =>
        lt ((a2 ||| v5)) fun x6 =>
        f_X7_bytesAt_L31 h (f_X7_bytesAt_L4 h n) a0 a1 x6 a3
def f_X7_bytesAt (h : AH) (a0 : Nat) (a1 : Int32) : Option (Int32) :=
  lt ((0 : Int32)) fun x1 =>
  lt ((0 : Int32)) fun x2 =>
  f_X7_bytesAt_L4 h FU a0 a1 x1 x2
def f_J7_copyOf_59c91 (h : AH) (a0 : Nat) (a1 : Int32) : Option (Nat × AH) :=
  gs h a0 21 <|
  if ¬ a1 = (nI (hN h a0)) then
    gb (decide (¬ a1 < 0) && decide (a1.toNatClampNeg ≤ 10000000)) <|
    lt (hNew h 21 a1.toNatClampNeg a1.toNatClampNeg) fun h4 =>
    gs h4 a0 21 <|
    gb (cpok (0 : Int32) (0 : Int32) (if a1 < (nI (hN h4 a0)) then a1 else (nI (hN h4 a0))) (hN h4 a0) (hN h4 (hZ h + 1))) <|
    lt (sA h4 (hZ h + 1) (va_cpy (hI h4 a0) (hI h4 (hZ h + 1)) (0 : Int32).toNatClampNeg (0 : Int32).toNatClampNeg (if a1 < (nI (hN h4 a0)) then a1 else (nI (hN h4 a0))).toNatClampNeg)) fun h8 =>
    some ((hZ h + 1), h8)
  else
    none
def f_X6_send_L137 (k103 : AH → Nat → Nat → Int32 → Int32 → Int32 → Option (AH)) (h : AH) (a0 : Nat) (a5 : Nat) (a6 : Int32) (a7 : Int32) (a8 : Int32) (s0 : Nat) (s1 : Int32) (s2 : Int32) : Option (AH) :=
  gs h s0 21 <|
  gb (ib s1 (hN h s0)) <|
  lt (sI h s0 s1.toNatClampNeg s2) fun h3 =>
  lt (a8 + (1 : Int32)) fun x4 =>
  k103 h3 a0 a5 a6 a7 x4
def f_X6_send_L103 : Nat → AH → Nat → Nat → Int32 → Int32 → Int32 → Option (AH)
  | 0, _, _, _, _, _, _ => none
  | n + 1, h, a0, a5, a6, a7, a8 =>
    if (4 : Int32) ≤ a8 then
      gs h a0 5 <|
      lt (sI h a0 1 ((hI h a0 1) + (1 : Int32))) fun h3 =>
      some h3
    else
      gs h a0 5 <|
      if a5 = 0 then
        f_X6_send_L137 (f_X6_send_L103 n) h a0 a5 a6 a7 a8 (hR h a0 0) ((a7 + (5 : Int32)) + a8) (0 : Int32)
      else
        gs h a5 21 <|
        gb (ib (a6 + a8) (hN h a5)) <|
        f_X6_send_L137 (f_X6_send_L103 n) h a0 a5 a6 a7 a8 (hR h a0 0) ((a7 + (5 : Int32)) + a8) (hI h a5 (a6 + a8).toNatClampNeg)
def f_X6_send_L99 (h : AH) (a0 : Nat) (a5 : Nat) (a6 : Int32) (a7 : Int32) (s0 : Nat) (s1 : Int32) (s2 : Int32) : Option (AH) :=
  gs h s0 21 <|
  gb (ib s1 (hN h s0)) <|
  lt (sI h s0 s1.toNatClampNeg s2) fun h3 =>
  lt ((0 : Int32)) fun x4 =>
  f_X6_send_L103 FU h3 a0 a5 a6 a7 x4
def f_X6_send_L40 (h : AH) (a0 : Nat) (a1 : Int32) (a2 : Int32) (a3 : Int32) (a4 : Int32) (a5 : Nat) (a6 : Int32) (a7 : Int32) : Option (AH) :=
  gs h a0 5 <|
  gs h (hR h a0 0) 21 <|
  gb (ib (a7 + (0 : Int32)) (hN h (hR h a0 0))) <|
  lt (sI h (hR h a0 0) (a7 + (0 : Int32)).toNatClampNeg a1) fun h4 =>
  gs h4 (hR h4 a0 0) 21 <|
  gb (ib (a7 + (1 : Int32)) (hN h4 (hR h4 a0 0))) <|
  lt (sI h4 (hR h4 a0 0) (a7 + (1 : Int32)).toNatClampNeg a2) fun h8 =>
  gs h8 (hR h8 a0 0) 21 <|
  gb (ib (a7 + (2 : Int32)) (hN h8 (hR h8 a0 0))) <|
  lt (sI h8 (hR h8 a0 0) (a7 + (2 : Int32)).toNatClampNeg a3) fun h12 =>
  gs h12 (hR h12 a0 0) 21 <|
  gb (ib (a7 + (3 : Int32)) (hN h12 (hR h12 a0 0))) <|
  lt (sI h12 (hR h12 a0 0) (a7 + (3 : Int32)).toNatClampNeg a4) fun h16 =>
  if a5 = 0 then
    f_X6_send_L99 h16 a0 a5 a6 a7 (hR h16 a0 0) (a7 + (4 : Int32)) (0 : Int32)
  else
    f_X6_send_L99 h16 a0 a5 a6 a7 (hR h16 a0 0) (a7 + (4 : Int32)) (1 : Int32)
def f_X6_send (h : AH) (a0 : Nat) (a1 : Int32) (a2 : Int32) (a3 : Int32) (a4 : Int32) (a5 : Nat) (a6 : Int32) : Option (AH) :=
  gs h a0 5 <|
  lt (((hI h a0 1) * (9 : Int32))) fun x2 =>
  gs h (hR h a0 0) 21 <|
  if (x2 + (9 : Int32)) ≤ (nI (hN h (hR h a0 0))) then
    f_X6_send_L40 h a0 a1 a2 a3 a4 a5 a6 x2
  else
    bd (f_J7_copyOf_59c91 h (hR h a0 0) ((nI (hN h (hR h a0 0))) * (2 : Int32))) fun q5 =>
    gs q5.2 a0 5 <|
    lt (sR q5.2 a0 0 q5.1) fun h7 =>
    f_X6_send_L40 h7 a0 a1 a2 a3 a4 a5 a6 x2
def f_X3_makeRoom_L92 (h : AH) (a0 : Nat) (a2 : Int32) : Option (Int32 × AH) :=
  gs h a0 3 <|
  gs h (hR h a0 6) 2 <|
  gs h (hR h (hR h a0 6) 1) 21 <|
  gb (ib a2 (hN h (hR h (hR h a0 6) 1))) <|
  lt (sI h (hR h (hR h a0 6) 1) a2.toNatClampNeg (0 : Int32)) fun h5 =>
  some ((1 : Int32), h5)
def f_X3_makeRoom (h : AH) (a0 : Nat) (a1 : Int32) : Option (Int32 × AH) :=
  gs h a0 3 <|
  gs h (hR h a0 6) 2 <|
  bd (f_X2_slotFor h (hR h a0 6) a1) fun v3 =>
  gs h (hR h (hR h a0 6) 1) 21 <|
  gb (ib v3 (hN h (hR h (hR h a0 6) 1))) <|
  if (hI h (hR h (hR h a0 6) 1) v3.toNatClampNeg) < (2 : Int32) then
    f_X3_makeRoom_L92 h a0 v3
  else
    if (hI h a0 8) = (-1 : Int32) then
      gs h (hR h (hR h a0 6) 0) 21 <|
      gb (ib v3 (hN h (hR h (hR h a0 6) 0))) <|
      lt (sI h a0 8 (hI h (hR h (hR h a0 6) 0) v3.toNatClampNeg)) fun h10 =>
      lt (sI h10 a0 9 (0 : Int32)) fun h12 =>
      gs h12 (hR h12 a0 6) 2 <|
      gs h12 (hR h12 (hR h12 a0 6) 3) 21 <|
      gs h12 (hR h12 a0 10) 21 <|
      gb (cpok (v3 * (4 : Int32)) (0 : Int32) (4 : Int32) (hN h12 (hR h12 (hR h12 a0 6) 3)) (hN h12 (hR h12 a0 10))) <|
      lt (sA h12 (hR h12 a0 10) (va_cpy (hI h12 (hR h12 (hR h12 a0 6) 3)) (hI h12 (hR h12 a0 10)) (v3 * (4 : Int32)).toNatClampNeg (0 : Int32).toNatClampNeg (4 : Int32).toNatClampNeg)) fun h18 =>
      gs h18 (hR h18 a0 1) 5 <|
      bd (f_X6_send h18 (hR h18 a0 1) (2 : Int32) (hI h18 a0 0) (16 : Int32) (hI h18 a0 8) (hR h18 a0 10) (0 : Int32)) fun q21 =>
      f_X3_makeRoom_L92 q21 a0 v3
    else
      some ((0 : Int32), h)
def f_X3_miss_L37 (h : AH) (a0 : Nat) (a1 : Int32) (a2 : Int32) : Option (AH) :=
  gs h a0 3 <|
  lt (sI h a0 11 a1) fun h2 =>
  lt (sI h2 a0 12 ((hI h2 a0 12) + (1 : Int32))) fun h4 =>
  gs h4 (hR h4 a0 1) 5 <|
  bd (f_X6_send h4 (hR h4 a0 1) a2 (hI h4 a0 0) (16 : Int32) a1 0 (0 : Int32)) fun q7 =>
  some q7
def f_X3_miss (h : AH) (a0 : Nat) (a1 : Int32) (a2 : Int32) : Option (AH) :=
  gs h a0 3 <|
  if ¬ (hI h a0 11) = (-1 : Int32) then
    some h
  else
    if ¬ (hI h a0 8) = a1 then
      gs h (hR h a0 6) 2 <|
      bd (f_X2_find h (hR h a0 6) a1) fun v5 =>
      if 0 ≤ v5 then
        f_X3_miss_L37 h a0 a1 a2
      else
        bd (f_X3_makeRoom h a0 a1) fun q7 =>
        if ¬ q7.1 = 0 then
          f_X3_miss_L37 q7.2 a0 a1 a2
        else
          some q7.2
    else
      some h
def f_X10_wordOf (h : AH) (a0 : Int32) (a1 : Int32) : Option (Int32) :=
  some ((a0 * (4 : Int32)) + ((a1 >>> ((2 : Int32) &&& 31)) &&& (3 : Int32)))
def f_X7_over_L52 (h : AH) (k5 : Nat → Int32 → Int32 → Int32 → Option (Int32)) (a0 : Nat) (a1 : Int32) (a3 : Int32) (a4 : Int32) : Option (Int32) :=
  lt (a4 + (1 : Int32)) fun x1 =>
  k5 a0 a1 a3 x1
def f_X7_over_L5 (h : AH) : Nat → Nat → Int32 → Int32 → Int32 → Option (Int32)
  | 0, _, _, _, _ => none
  | n + 1, a0, a1, a3, a4 =>
    gs h a0 6 <|
    if (hI h a0 1) ≤ a4 then
      some a3
    else
      bd (f_X7_get h a0 a4 (0 : Int32)) fun v3 =>
      if ¬ v3 = a1 then
        f_X7_over_L52 h (f_X7_over_L5 h n) a0 a1 a3 a4
      else
        bd (f_X7_get h a0 a4 (1 : Int32)) fun v5 =>
        gb (ib (v5 &&& (15 : Int32)) 16) <|
        bd (f_X7_get h a0 a4 (2 : Int32)) fun v7 =>
        lt (((a3 &&& ((tBB.getD (v5 &&& (15 : Int32)).toNatClampNeg 0) ^^^ (-1 : Int32))) ||| v7)) fun x8 =>
        f_X7_over_L52 h (f_X7_over_L5 h n) a0 a1 x8 a4
def f_X7_over (h : AH) (a0 : Nat) (a1 : Int32) (a2 : Int32) : Option (Int32) :=
  lt ((0 : Int32)) fun x1 =>
  f_X7_over_L5 h FU a0 a1 a2 x1
def f_X3_reads_L68 (h : AH) (a0 : Nat) (a1 : Int32) (a3 : Int32) : Option (Int32 × AH) :=
  gs h a0 3 <|
  gs h (hR h a0 5) 6 <|
  bd (f_X7_over h (hR h a0 5) a1 a3) fun v3 =>
  lt (sI h a0 16 v3) fun h4 =>
  some ((1 : Int32), h4)
def f_X3_reads (h : AH) (a0 : Nat) (a1 : Int32) (a2 : Int32) : Option (Int32 × AH) :=
  lt ((0 : Int32)) fun x1 =>
  gs h a0 3 <|
  gs h (hR h a0 5) 6 <|
  bd (f_X7_bytesAt h (hR h a0 5) a1) fun v4 =>
  if (a2 &&& (v4 ^^^ (-1 : Int32))) = 0 then
    f_X3_reads_L68 h a0 a1 x1
  else
    gs h (hR h a0 6) 2 <|
    bd (f_X2_find h (hR h a0 6) (a1 >>> ((4 : Int32) &&& 31))) fun v7 =>
    if 0 ≤ v7 then
      bd (f_X2_use h (hR h a0 6) v7) fun q9 =>
      gs q9 a0 3 <|
      gs q9 (hR q9 a0 6) 2 <|
      bd (f_X10_wordOf q9 v7 a1) fun v12 =>
      gs q9 (hR q9 (hR q9 a0 6) 3) 21 <|
      gb (ib v12 (hN q9 (hR q9 (hR q9 a0 6) 3))) <|
      lt ((hI q9 (hR q9 (hR q9 a0 6) 3) v12.toNatClampNeg)) fun x15 =>
      f_X3_reads_L68 q9 a0 a1 x15
    else
      bd (f_X3_miss h a0 (a1 >>> ((4 : Int32) &&& 31)) (0 : Int32)) fun q16 =>
      some ((0 : Int32), q16)
def f_X9_note_L99 (h : AH) (a0 : Nat) : Option (AH) :=
  gs h a0 8 <|
  lt (sI h a0 1 ((hI h a0 1) + (1 : Int32))) fun h2 =>
  some h2
def f_X9_note (h : AH) (a0 : Nat) (a1 : Int32) (a2 : Int32) (a3 : Int32) (a4 : Int32) (a5 : Int32) (a6 : Int32) (a7 : Int32) : Option (AH) :=
  gs h a0 8 <|
  lt ((((hI h a0 1) - (hI h a0 1) / (32 : Int32) * (32 : Int32)) * (8 : Int32))) fun x2 =>
  gs h (hR h a0 0) 21 <|
  gb (ib x2 (hN h (hR h a0 0))) <|
  lt (sI h (hR h a0 0) x2.toNatClampNeg a1) fun h5 =>
  gs h5 (hR h5 a0 0) 21 <|
  gb (ib (x2 + (1 : Int32)) (hN h5 (hR h5 a0 0))) <|
  lt (sI h5 (hR h5 a0 0) (x2 + (1 : Int32)).toNatClampNeg a2) fun h9 =>
  gs h9 (hR h9 a0 0) 21 <|
  gb (ib (x2 + (2 : Int32)) (hN h9 (hR h9 a0 0))) <|
  lt (sI h9 (hR h9 a0 0) (x2 + (2 : Int32)).toNatClampNeg a3) fun h13 =>
  gs h13 (hR h13 a0 0) 21 <|
  gb (ib (x2 + (3 : Int32)) (hN h13 (hR h13 a0 0))) <|
  lt (sI h13 (hR h13 a0 0) (x2 + (3 : Int32)).toNatClampNeg a4) fun h17 =>
  gs h17 (hR h17 a0 0) 21 <|
  gb (ib (x2 + (4 : Int32)) (hN h17 (hR h17 a0 0))) <|
  lt (sI h17 (hR h17 a0 0) (x2 + (4 : Int32)).toNatClampNeg a5) fun h21 =>
  gs h21 (hR h21 a0 0) 21 <|
  gb (ib (x2 + (5 : Int32)) (hN h21 (hR h21 a0 0))) <|
  lt (sI h21 (hR h21 a0 0) (x2 + (5 : Int32)).toNatClampNeg a6) fun h25 =>
  gs h25 (hR h25 a0 0) 21 <|
  gb (ib (x2 + (6 : Int32)) (hN h25 (hR h25 a0 0))) <|
  lt (sI h25 (hR h25 a0 0) (x2 + (6 : Int32)).toNatClampNeg a7) fun h29 =>
  gs h29 (hR h29 a0 0) 21 <|
  gb (ib (x2 + (7 : Int32)) (hN h29 (hR h29 a0 0))) <|
  lt (sI h29 (hR h29 a0 0) (x2 + (7 : Int32)).toNatClampNeg (hI h29 a0 1)) fun h33 =>
  f_X9_note_L99 h33 a0
def f_X3_finish_L11 (h : AH) (a0 : Nat) (a1 : Int32) (a2 : Int32) (a4 : Int32) (a5 : Int32) (a6 : Int32) (a7 : Int32) : Option (Int32 × AH) :=
  gs h a0 3 <|
  gs h (hR h a0 2) 21 <|
  gb (ib a2 (hN h (hR h a0 2))) <|
  gs h (hR h a0 7) 8 <|
  bd (f_X9_note h (hR h a0 7) (hI h a0 3) a1 a2 (hI h (hR h a0 2) a2.toNatClampNeg) a4 a5 a6) fun q5 =>
  gs q5 a0 3 <|
  lt (sI q5 a0 3 (a7 &&& (8191 : Int32))) fun h7 =>
  lt (sI h7 a0 13 (0 : Int32)) fun h9 =>
  some ((1 : Int32), h9)
def f_X3_finish (h : AH) (a0 : Nat) (a1 : Int32) (a2 : Int32) (a3 : Int32) (a4 : Int32) (a5 : Int32) (a6 : Int32) (a7 : Int32) : Option (Int32 × AH) :=
  if a2 = 0 then
    f_X3_finish_L11 h a0 a1 a2 a4 a5 a6 a7
  else
    gs h a0 3 <|
    gs h (hR h a0 2) 21 <|
    gb (ib a2 (hN h (hR h a0 2))) <|
    lt (sI h (hR h a0 2) a2.toNatClampNeg a3) fun h5 =>
    f_X3_finish_L11 h5 a0 a1 a2 a4 a5 a6 a7
def f_X3_reckoned (h : AH) (a0 : Nat) (a1 : Int32) (a2 : Int32) : Option (Int32 × AH) :=
  gs h a0 3 <|
  bd (f_X3_finish h a0 a1 ((jushr a1 (7 : Int32)) &&& (31 : Int32)) a2 (-1 : Int32) (0 : Int32) (0 : Int32) ((hI h a0 3) + (4 : Int32))) fun q2 =>
  some (q2.1, q2.2)
def f_X3_jumped (h : AH) (a0 : Nat) (a1 : Int32) (a2 : Int32) : Option (Int32 × AH) :=
  gs h a0 3 <|
  bd (f_X3_finish h a0 a1 ((jushr a1 (7 : Int32)) &&& (31 : Int32)) ((hI h a0 3) + (4 : Int32)) (-1 : Int32) (0 : Int32) (0 : Int32) a2) fun q2 =>
  some (q2.1, q2.2)
def f_X3_stopped (h : AH) (a0 : Nat) (a1 : Int32) (a2 : Int32) : Option (Int32 × AH) :=
  gs h a0 3 <|
  lt (sI h a0 4 a2) fun h2 =>
  bd (f_X3_finish h2 a0 a1 (0 : Int32) (0 : Int32) (-1 : Int32) (0 : Int32) (0 : Int32) (hI h2 a0 3)) fun q4 =>
  some (q4.1, q4.2)
def f_X3_branched_L31 (h : AH) (a0 : Nat) (a1 : Int32) (s0 : Int32) : Option (Int32 × AH) :=
  gs h a0 3 <|
  bd (f_X3_finish h a0 a1 (0 : Int32) (0 : Int32) (-1 : Int32) (0 : Int32) (0 : Int32) ((hI h a0 3) + s0)) fun q2 =>
  some (q2.1, q2.2)
def f_X3_branched (h : AH) (a0 : Nat) (a1 : Int32) (a2 : Int32) (a3 : Int32) : Option (Int32 × AH) :=
  bd (f_X0_knowsBranch h a1) fun v1 =>
  if ¬ v1 = 0 then
    bd (f_X0_branches h a1 a2 a3) fun v3 =>
    if v3 = 0 then
      f_X3_branched_L31 h a0 a1 (4 : Int32)
    else
      bd (f_X0_branchDistance h a1) fun v5 =>
      f_X3_branched_L31 h a0 a1 v5
  else
    gs h a0 3 <|
    bd (f_X3_stopped h a0 a1 (2 : Int32)) fun q7 =>
    some (q7.1, q7.2)
def f_X3_loaded_L15 (h : AH) (a0 : Nat) (a1 : Int32) : Option (Int32 × AH) :=
  gs h a0 3 <|
  bd (f_X3_stopped h a0 a1 (2 : Int32)) fun q2 =>
  some (q2.1, q2.2)
def f_X3_loaded_L112 (h : AH) (s0 : Int32) : Option (Int32 × AH) :=
  some (s0, h)
def f_X3_loaded (h : AH) (a0 : Nat) (a1 : Int32) (a2 : Int32) : Option (Int32 × AH) :=
  bd (f_X0_variant h a1) fun v1 =>
  if v1 = (3 : Int32) then
    f_X3_loaded_L15 h a0 a1
  else
    if v1 ≤ (5 : Int32) then
      lt (((1 : Int32) <<< ((v1 &&& (3 : Int32)) &&& 31))) fun x4 =>
      if (a2 &&& (x4 - (1 : Int32))) = 0 then
        lt ((a2 &&& (3 : Int32))) fun x6 =>
        gs h a0 3 <|
        bd (f_X3_reads h a0 (a2 - x6) ((((1 : Int32) <<< (x4 &&& 31)) - (1 : Int32)) <<< (x6 &&& 31))) fun q8 =>
        if ¬ q8.1 = 0 then
          gs q8.2 a0 3 <|
          bd (f_X0_extend q8.2 (jushr (hI q8.2 a0 16) ((8 : Int32) * x6)) v1) fun v11 =>
          bd (f_X3_finish q8.2 a0 a1 ((jushr a1 (7 : Int32)) &&& (31 : Int32)) v11 a2 v11 (0 : Int32) ((hI q8.2 a0 3) + (4 : Int32))) fun q12 =>
          f_X3_loaded_L112 q12.2 q12.1
        else
          some ((3 : Int32), q8.2)
      else
        gs h a0 3 <|
        bd (f_X3_stopped h a0 a1 (4 : Int32)) fun q14 =>
        some (q14.1, q14.2)
    else
      f_X3_loaded_L15 h a0 a1
def f_X7_isFull (h : AH) (a0 : Nat) : Option (Int32) :=
  gs h a0 6 <|
  if (hI h a0 1) < (hI h a0 2) then
    some (0 : Int32)
  else
    some (1 : Int32)
def f_X7_add (h : AH) (a0 : Nat) (a1 : Int32) (a2 : Int32) (a3 : Int32) : Option (AH) :=
  gs h a0 6 <|
  gs h (hR h a0 0) 21 <|
  gb (ib (((hI h a0 1) * (3 : Int32)) + (0 : Int32)) (hN h (hR h a0 0))) <|
  lt (sI h (hR h a0 0) (((hI h a0 1) * (3 : Int32)) + (0 : Int32)).toNatClampNeg a1) fun h4 =>
  gs h4 (hR h4 a0 0) 21 <|
  gb (ib (((hI h4 a0 1) * (3 : Int32)) + (1 : Int32)) (hN h4 (hR h4 a0 0))) <|
  lt (sI h4 (hR h4 a0 0) (((hI h4 a0 1) * (3 : Int32)) + (1 : Int32)).toNatClampNeg a2) fun h8 =>
  gs h8 (hR h8 a0 0) 21 <|
  gb (ib (((hI h8 a0 1) * (3 : Int32)) + (2 : Int32)) (hN h8 (hR h8 a0 0))) <|
  lt (sI h8 (hR h8 a0 0) (((hI h8 a0 1) * (3 : Int32)) + (2 : Int32)).toNatClampNeg a3) fun h12 =>
  lt (sI h12 a0 1 ((hI h12 a0 1) + (1 : Int32))) fun h14 =>
  some h14
def f_X3_stored_L100 (h : AH) (a0 : Nat) (a1 : Int32) (a2 : Int32) (a8 : Int32) : Option (Int32 × AH) :=
  gs h a0 3 <|
  bd (f_X3_finish h a0 a1 (0 : Int32) (0 : Int32) a2 (0 : Int32) a8 ((hI h a0 3) + (4 : Int32))) fun q2 =>
  some (q2.1, q2.2)
def f_X3_stored (h : AH) (a0 : Nat) (a1 : Int32) (a2 : Int32) (a3 : Int32) : Option (Int32 × AH) :=
  bd (f_X0_variant h a1) fun v1 =>
  if v1 ≤ (2 : Int32) then
    lt (((1 : Int32) <<< (v1 &&& 31))) fun x3 =>
    if (a2 &&& (x3 - (1 : Int32))) = 0 then
      gs h a0 3 <|
      gs h (hR h a0 5) 6 <|
      bd (f_X7_isFull h (hR h a0 5)) fun v7 =>
      if v7 = 0 then
        lt ((a2 &&& (3 : Int32))) fun x9 =>
        lt ((((1 : Int32) <<< (x3 &&& 31)) - (1 : Int32))) fun x10 =>
        gb (ib x10 16) <|
        lt ((a3 &&& (tBB.getD x10.toNatClampNeg 0))) fun x12 =>
        bd (f_X7_add h (hR h a0 5) (a2 - x9) (x10 <<< (x9 &&& 31)) (x12 <<< (((8 : Int32) * x9) &&& 31))) fun q13 =>
        f_X3_stored_L100 q13 a0 a1 a2 x12
      else
        some ((4 : Int32), h)
    else
      gs h a0 3 <|
      bd (f_X3_stopped h a0 a1 (4 : Int32)) fun q15 =>
      some (q15.1, q15.2)
  else
    gs h a0 3 <|
    bd (f_X3_stopped h a0 a1 (2 : Int32)) fun q17 =>
    some (q17.1, q17.2)
def f_X3_wordToChange_L28 (h : AH) (a0 : Nat) (a1 : Int32) : Option (Int32 × AH) :=
  gs h a0 3 <|
  bd (f_X3_miss h a0 (a1 >>> ((4 : Int32) &&& 31)) (1 : Int32)) fun q2 =>
  some ((-1 : Int32), q2)
def f_X3_wordToChange (h : AH) (a0 : Nat) (a1 : Int32) : Option (Int32 × AH) :=
  gs h a0 3 <|
  gs h (hR h a0 6) 2 <|
  bd (f_X2_find h (hR h a0 6) (a1 >>> ((4 : Int32) &&& 31))) fun v3 =>
  if v3 < 0 then
    f_X3_wordToChange_L28 h a0 a1
  else
    gs h (hR h (hR h a0 6) 1) 21 <|
    gb (ib v3 (hN h (hR h (hR h a0 6) 1))) <|
    if (2 : Int32) ≤ (hI h (hR h (hR h a0 6) 1) v3.toNatClampNeg) then
      bd (f_X2_use h (hR h a0 6) v3) fun q8 =>
      gs q8 a0 3 <|
      gs q8 (hR q8 a0 6) 2 <|
      gs q8 (hR q8 (hR q8 a0 6) 1) 21 <|
      gb (ib v3 (hN q8 (hR q8 (hR q8 a0 6) 1))) <|
      lt (sI q8 (hR q8 (hR q8 a0 6) 1) v3.toNatClampNeg (3 : Int32)) fun h13 =>
      lt (sI h13 a0 15 ((hI h13 a0 15) + (1 : Int32))) fun h15 =>
      bd (f_X10_wordOf h15 v3 a1) fun v16 =>
      some (v16, h15)
    else
      f_X3_wordToChange_L28 h a0 a1
def f_X3_swapped (h : AH) (a0 : Nat) (a1 : Int32) (a2 : Int32) (a3 : Int32) : Option (Int32 × AH) :=
  if (a2 &&& (3 : Int32)) = 0 then
    gs h a0 3 <|
    gs h (hR h a0 5) 6 <|
    if (hI h (hR h a0 5) 1) ≤ 0 then
      bd (f_X3_wordToChange h a0 a2) fun q5 =>
      lt (q5.1) fun x6 =>
      if 0 ≤ x6 then
        gs q5.2 a0 3 <|
        gs q5.2 (hR q5.2 a0 6) 2 <|
        gs q5.2 (hR q5.2 (hR q5.2 a0 6) 3) 21 <|
        gb (ib x6 (hN q5.2 (hR q5.2 (hR q5.2 a0 6) 3))) <|
        lt ((hI q5.2 (hR q5.2 (hR q5.2 a0 6) 3) x6.toNatClampNeg)) fun x12 =>
        bd (f_X0_atomic q5.2 a1 x12 a3) fun v13 =>
        gb (ib x6 (hN q5.2 (hR q5.2 (hR q5.2 a0 6) 3))) <|
        lt (sI q5.2 (hR q5.2 (hR q5.2 a0 6) 3) x6.toNatClampNeg v13) fun h15 =>
        bd (f_X3_finish h15 a0 a1 ((jushr a1 (7 : Int32)) &&& (31 : Int32)) x12 a2 x12 v13 ((hI h15 a0 3) + (4 : Int32))) fun q17 =>
        some (q17.1, q17.2)
      else
        some ((6 : Int32), q5.2)
    else
      some ((5 : Int32), h)
  else
    gs h a0 3 <|
    bd (f_X3_stopped h a0 a1 (4 : Int32)) fun q19 =>
    some (q19.1, q19.2)
def f_X3_fenced (h : AH) (a0 : Nat) (a1 : Int32) : Option (Int32 × AH) :=
  bd (f_X0_variant h a1) fun v1 =>
  if v1 = 0 then
    gs h a0 3 <|
    gs h (hR h a0 5) 6 <|
    if (hI h (hR h a0 5) 1) ≤ 0 then
      bd (f_X3_finish h a0 a1 (0 : Int32) (0 : Int32) (-1 : Int32) (0 : Int32) (0 : Int32) ((hI h a0 3) + (4 : Int32))) fun q6 =>
      some (q6.1, q6.2)
    else
      some ((5 : Int32), h)
  else
    gs h a0 3 <|
    bd (f_X3_stopped h a0 a1 (2 : Int32)) fun q8 =>
    some (q8.1, q8.2)
def f_X3_advance_L307 (h : AH) (s0 : Int32) : Option (Int32 × AH) :=
  some (s0, h)
def f_X3_advance_L198 (h : AH) (s0 : Int32) : Option (Int32 × AH) :=
  some (s0, h)
def f_X3_advance_L398 (h : AH) (s0 : Nat) (s1 : Int32) (s2 : Int32) : Option (Int32 × AH) :=
  gs h s0 3 <|
  bd (f_X3_stopped h s0 s1 s2) fun q2 =>
  some (q2.1, q2.2)
def f_X3_advance_L393 (h : AH) (s0 : Nat) (s1 : Int32) : Option (Int32 × AH) :=
  f_X3_advance_L398 h s0 s1 (1 : Int32)
def f_X3_advance (h : AH) (a0 : Nat) : Option (Int32 × AH) :=
  gs h a0 3 <|
  if (hI h a0 4) = 0 then
    if ((hI h a0 3) &&& (3 : Int32)) = 0 then
      bd (f_X3_reads h a0 (hI h a0 3) (15 : Int32)) fun q4 =>
      if ¬ q4.1 = 0 then
        gs q4.2 a0 3 <|
        lt ((hI q4.2 a0 16)) fun x7 =>
        gs q4.2 (hR q4.2 a0 2) 21 <|
        gb (ib ((jushr x7 (15 : Int32)) &&& (31 : Int32)) (hN q4.2 (hR q4.2 a0 2))) <|
        lt ((hI q4.2 (hR q4.2 a0 2) ((jushr x7 (15 : Int32)) &&& (31 : Int32)).toNatClampNeg)) fun x10 =>
        gb (ib ((jushr x7 (20 : Int32)) &&& (31 : Int32)) (hN q4.2 (hR q4.2 a0 2))) <|
        lt ((hI q4.2 (hR q4.2 a0 2) ((jushr x7 (20 : Int32)) &&& (31 : Int32)).toNatClampNeg)) fun x12 =>
        if (x7 &&& (127 : Int32)) = (3 : Int32) then
          bd (f_X3_loaded q4.2 a0 x7 ((x10 + (x7 >>> ((20 : Int32) &&& 31))) &&& (8191 : Int32))) fun q14 =>
          some (q14.1, q14.2)
        else
          if (x7 &&& (127 : Int32)) = (15 : Int32) then
            bd (f_X3_fenced q4.2 a0 x7) fun q16 =>
            some (q16.1, q16.2)
          else
            if (x7 &&& (127 : Int32)) = (19 : Int32) then
              bd (f_X0_knowsShift q4.2 x7) fun v18 =>
              if v18 = 0 then
                bd (f_X3_stopped q4.2 a0 x7 (2 : Int32)) fun q20 =>
                some (q20.1, q20.2)
              else
                bd (f_X0_reckon q4.2 x7 x10 (x7 >>> ((20 : Int32) &&& 31))) fun v21 =>
                bd (f_X3_reckoned q4.2 a0 x7 v21) fun q22 =>
                f_X3_advance_L307 q22.2 q22.1
            else
              if (x7 &&& (127 : Int32)) = (23 : Int32) then
                bd (f_X3_reckoned q4.2 a0 x7 ((hI q4.2 a0 3) + (x7 &&& (-4096 : Int32)))) fun q24 =>
                f_X3_advance_L198 q24.2 q24.1
              else
                if (x7 &&& (127 : Int32)) = (35 : Int32) then
                  bd (f_X0_storeDistance q4.2 x7) fun v26 =>
                  bd (f_X3_stored q4.2 a0 x7 ((x10 + v26) &&& (8191 : Int32)) x12) fun q27 =>
                  some (q27.1, q27.2)
                else
                  if (x7 &&& (127 : Int32)) = (47 : Int32) then
                    bd (f_X0_knowsAtomic q4.2 x7) fun v29 =>
                    if v29 = 0 then
                      bd (f_X3_stopped q4.2 a0 x7 (2 : Int32)) fun q31 =>
                      some (q31.1, q31.2)
                    else
                      bd (f_X3_swapped q4.2 a0 x7 (x10 &&& (8191 : Int32)) x12) fun q32 =>
                      some (q32.1, q32.2)
                  else
                    if (x7 &&& (127 : Int32)) = (51 : Int32) then
                      bd (f_X0_knows q4.2 x7) fun v34 =>
                      if v34 = 0 then
                        bd (f_X3_stopped q4.2 a0 x7 (2 : Int32)) fun q36 =>
                        some (q36.1, q36.2)
                      else
                        bd (f_X0_reckon q4.2 x7 x10 x12) fun v37 =>
                        bd (f_X3_reckoned q4.2 a0 x7 v37) fun q38 =>
                        some (q38.1, q38.2)
                    else
                      if (x7 &&& (127 : Int32)) = (55 : Int32) then
                        bd (f_X3_reckoned q4.2 a0 x7 (x7 &&& (-4096 : Int32))) fun q40 =>
                        some (q40.1, q40.2)
                      else
                        if (x7 &&& (127 : Int32)) = (99 : Int32) then
                          bd (f_X3_branched q4.2 a0 x7 x10 x12) fun q42 =>
                          some (q42.1, q42.2)
                        else
                          if (x7 &&& (127 : Int32)) = (103 : Int32) then
                            bd (f_X0_variant q4.2 x7) fun v44 =>
                            if ¬ v44 = 0 then
                              bd (f_X3_stopped q4.2 a0 x7 (2 : Int32)) fun q46 =>
                              some (q46.1, q46.2)
                            else
                              bd (f_X3_jumped q4.2 a0 x7 ((x10 + (x7 >>> ((20 : Int32) &&& 31))) &&& (-2 : Int32))) fun q47 =>
                              some (q47.1, q47.2)
                          else
                            if (x7 &&& (127 : Int32)) = (111 : Int32) then
                              bd (f_X0_jumpDistance q4.2 x7) fun v49 =>
                              bd (f_X3_jumped q4.2 a0 x7 ((hI q4.2 a0 3) + v49)) fun q50 =>
                              some (q50.1, q50.2)
                            else
                              if x7 = (115 : Int32) then
                                f_X3_advance_L393 q4.2 a0 x7
                              else
                                if ¬ x7 = (1048691 : Int32) then
                                  f_X3_advance_L398 q4.2 a0 x7 (2 : Int32)
                                else
                                  f_X3_advance_L393 q4.2 a0 x7
      else
        some ((2 : Int32), q4.2)
    else
      lt (sI h a0 4 (3 : Int32)) fun h53 =>
      some ((1 : Int32), h53)
  else
    some ((0 : Int32), h)
def f_X7_removeOldest (h : AH) (a0 : Nat) : Option (AH) :=
  gs h a0 6 <|
  lt (sI h a0 1 ((hI h a0 1) - (1 : Int32))) fun h2 =>
  gs h2 (hR h2 a0 0) 21 <|
  gb (cpok (3 : Int32) (0 : Int32) ((hI h2 a0 1) * (3 : Int32)) (hN h2 (hR h2 a0 0)) (hN h2 (hR h2 a0 0))) <|
  lt (sA h2 (hR h2 a0 0) (va_cpy (hI h2 (hR h2 a0 0)) (hI h2 (hR h2 a0 0)) (3 : Int32).toNatClampNeg (0 : Int32).toNatClampNeg ((hI h2 a0 1) * (3 : Int32)).toNatClampNeg)) fun h6 =>
  some h6
def f_X3_settle (h : AH) (a0 : Nat) : Option (Int32 × AH) :=
  gs h a0 3 <|
  gs h (hR h a0 5) 6 <|
  if ¬ (hI h (hR h a0 5) 1) = 0 then
    bd (f_X7_get h (hR h a0 5) (0 : Int32) (0 : Int32)) fun v4 =>
    bd (f_X3_wordToChange h a0 v4) fun q5 =>
    lt (q5.1) fun x6 =>
    if 0 ≤ x6 then
      gs q5.2 a0 3 <|
      gs q5.2 (hR q5.2 a0 5) 6 <|
      bd (f_X7_get q5.2 (hR q5.2 a0 5) (0 : Int32) (1 : Int32)) fun v10 =>
      gb (ib (v10 &&& (15 : Int32)) 16) <|
      lt ((tBB.getD (v10 &&& (15 : Int32)).toNatClampNeg 0)) fun x12 =>
      gs q5.2 (hR q5.2 a0 6) 2 <|
      gs q5.2 (hR q5.2 (hR q5.2 a0 6) 3) 21 <|
      gb (ib x6 (hN q5.2 (hR q5.2 (hR q5.2 a0 6) 3))) <|
      bd (f_X7_get q5.2 (hR q5.2 a0 5) (0 : Int32) (2 : Int32)) fun v16 =>
      gb (ib x6 (hN q5.2 (hR q5.2 (hR q5.2 a0 6) 3))) <|
      lt (sI q5.2 (hR q5.2 (hR q5.2 a0 6) 3) x6.toNatClampNeg (((hI q5.2 (hR q5.2 (hR q5.2 a0 6) 3) x6.toNatClampNeg) &&& (x12 ^^^ (-1 : Int32))) ||| v16)) fun h18 =>
      gs h18 (hR h18 a0 5) 6 <|
      bd (f_X7_removeOldest h18 (hR h18 a0 5)) fun q21 =>
      some ((1 : Int32), q21)
    else
      some ((2 : Int32), q5.2)
  else
    some ((0 : Int32), h)
def f_X3_answer_L131 (h : AH) (a0 : Nat) (a4 : Int32) : Option (AH) :=
  if a4 = 0 then
    some h
  else
    gs h a0 3 <|
    lt (sI h a0 9 (1 : Int32)) fun h3 =>
    some h3
def f_X3_answer_L105 (h : AH) (a0 : Nat) (a2 : Int32) (a3 : Int32) (a4 : Int32) : Option (AH) :=
  if a3 < 0 then
    f_X3_answer_L131 h a0 a4
  else
    gs h a0 3 <|
    gs h (hR h a0 6) 2 <|
    gs h (hR h (hR h a0 6) 1) 21 <|
    gb (ib a3 (hN h (hR h (hR h a0 6) 1))) <|
    gb (ib a3 (hN h (hR h (hR h a0 6) 1))) <|
    lt (sI h (hR h (hR h a0 6) 1) a3.toNatClampNeg (if a2 < (hI h (hR h (hR h a0 6) 1) a3.toNatClampNeg) then a2 else (hI h (hR h (hR h a0 6) 1) a3.toNatClampNeg))) fun h7 =>
    f_X3_answer_L131 h7 a0 a4
def f_X3_answer_L101 (h : AH) (a0 : Nat) (a2 : Int32) (a3 : Int32) (a4 : Int32) (s0 : Nat) (s1 : Int32) (s2 : Int32) (s3 : Int32) (s4 : Int32) (s5 : Nat) : Option (AH) :=
  gs h s0 5 <|
  bd (f_X6_send h s0 s1 s2 s3 s4 s5 (0 : Int32)) fun q2 =>
  f_X3_answer_L105 q2 a0 a2 a3 a4
def f_X3_answer_L100 (h : AH) (a0 : Nat) (a2 : Int32) (a3 : Int32) (a4 : Int32) (s0 : Nat) (s1 : Int32) (s2 : Int32) (s3 : Int32) (s4 : Int32) : Option (AH) :=
  f_X3_answer_L101 h a0 a2 a3 a4 s0 s1 s2 s3 s4 0
def f_X3_answer_L69 (h : AH) (a0 : Nat) (a1 : Int32) (a2 : Int32) (a3 : Int32) (a4 : Int32) : Option (AH) :=
  gs h a0 3 <|
  if a4 = 0 then
    f_X3_answer_L100 h a0 a2 a3 a4 (hR h a0 1) (5 : Int32) (hI h a0 0) (16 : Int32) a1
  else
    if ¬ (hI h a0 9) = 0 then
      f_X3_answer_L100 h a0 a2 a3 a4 (hR h a0 1) (5 : Int32) (hI h a0 0) (16 : Int32) a1
    else
      f_X3_answer_L101 h a0 a2 a3 a4 (hR h a0 1) (5 : Int32) (hI h a0 0) (16 : Int32) a1 (hR h a0 10)
def f_X3_answer_L22 (h : AH) (a0 : Nat) (a1 : Int32) (a2 : Int32) (a3 : Int32) (s0 : Int32) : Option (AH) :=
  if a3 < 0 then
    f_X3_answer_L69 h a0 a1 a2 a3 s0
  else
    gs h a0 3 <|
    gs h (hR h a0 6) 2 <|
    gs h (hR h (hR h a0 6) 1) 21 <|
    gb (ib a3 (hN h (hR h (hR h a0 6) 1))) <|
    if (hI h (hR h (hR h a0 6) 1) a3.toNatClampNeg) < (2 : Int32) then
      f_X3_answer_L69 h a0 a1 a2 a3 s0
    else
      gs h (hR h a0 1) 5 <|
      bd (f_X6_send h (hR h a0 1) (5 : Int32) (hI h a0 0) (16 : Int32) a1 (hR h (hR h a0 6) 3) (a3 * (4 : Int32))) fun q8 =>
      f_X3_answer_L105 q8 a0 a2 a3 s0
def f_X3_answer (h : AH) (a0 : Nat) (a1 : Int32) (a2 : Int32) : Option (AH) :=
  gs h a0 3 <|
  gs h (hR h a0 6) 2 <|
  bd (f_X2_find h (hR h a0 6) a1) fun v3 =>
  if ¬ (hI h a0 8) = a1 then
    f_X3_answer_L22 h a0 a1 a2 v3 (0 : Int32)
  else
    f_X3_answer_L22 h a0 a1 a2 v3 (1 : Int32)
def f_X3_receive (h : AH) (a0 : Nat) (a1 : Nat) : Option (AH) :=
  gs h a1 21 <|
  gb (ib (3 : Int32) (hN h a1)) <|
  lt ((hI h a1 (3 : Int32).toNatClampNeg)) fun x3 =>
  gb (ib (0 : Int32) (hN h a1)) <|
  if (hI h a1 (0 : Int32).toNatClampNeg) = (3 : Int32) then
    gs h a0 3 <|
    bd (f_X3_answer h a0 x3 (0 : Int32)) fun q7 =>
    some q7
  else
    if (hI h a1 (0 : Int32).toNatClampNeg) = (4 : Int32) then
      gs h a0 3 <|
      bd (f_X3_answer h a0 x3 (1 : Int32)) fun q10 =>
      some q10
    else
      if (hI h a1 (0 : Int32).toNatClampNeg) = (9 : Int32) then
        gs h a0 3 <|
        lt (sI h a0 8 (-1 : Int32)) fun h13 =>
        some h13
      else
        gs h a0 3 <|
        gb (ib (0 : Int32) (hN h a1)) <|
        gs h (hR h a0 6) 2 <|
        bd (f_X2_put h (hR h a0 6) x3 (((hI h a1 (0 : Int32).toNatClampNeg) - (6 : Int32)) + (1 : Int32)) a1 (5 : Int32)) fun q17 =>
        gs q17 a0 3 <|
        lt (sI q17 a0 11 (-1 : Int32)) fun h19 =>
        gs h19 (hR h19 a0 1) 5 <|
        bd (f_X6_send h19 (hR h19 a0 1) (10 : Int32) (hI h19 a0 0) (16 : Int32) x3 0 (0 : Int32)) fun q22 =>
        some q22
def f_X4_begin (h : AH) (a0 : Nat) (a1 : Int32) (a2 : Int32) : Option (AH) :=
  gs h a0 4 <|
  lt (sI h a0 13 a1) fun h2 =>
  lt (sI h2 a0 14 a2) fun h4 =>
  bd (f_J7_fill_53178 h4 (hR h4 a0 1) (0 : Int32)) fun q6 =>
  gs q6 a0 4 <|
  bd (f_J7_fill_53178 q6 (hR q6 a0 2) (-1 : Int32)) fun q8 =>
  gs q8 a0 4 <|
  bd (f_J7_fill_53178 q8 (hR q8 a0 5) (-1 : Int32)) fun q10 =>
  gs q10 a0 4 <|
  lt (sI q10 a0 12 (0 : Int32)) fun h12 =>
  lt (sI h12 a0 15 (0 : Int32)) fun h14 =>
  lt (sI h14 a0 16 (0 : Int32)) fun h16 =>
  some h16
def f_X4_init (h : AH) (a0 : Nat) (a1 : Nat) : Option (AH) :=
  gs h a0 4 <|
  lt (hNew h 21 (2048 : Int32).toNatClampNeg (2048 : Int32).toNatClampNeg) fun h2 =>
  gs h2 a0 4 <|
  lt (sR h2 a0 1 (hZ h + 1)) fun h4 =>
  lt (hNew h4 21 (512 : Int32).toNatClampNeg (512 : Int32).toNatClampNeg) fun h5 =>
  gs h5 a0 4 <|
  lt (sR h5 a0 2 (hZ h4 + 1)) fun h7 =>
  lt (hNew h7 21 (512 : Int32).toNatClampNeg (512 : Int32).toNatClampNeg) fun h8 =>
  gs h8 a0 4 <|
  lt (sR h8 a0 3 (hZ h7 + 1)) fun h10 =>
  lt (hNew h10 21 (512 : Int32).toNatClampNeg (512 : Int32).toNatClampNeg) fun h11 =>
  gs h11 a0 4 <|
  lt (sR h11 a0 4 (hZ h10 + 1)) fun h13 =>
  lt (hNew h13 21 (512 : Int32).toNatClampNeg (512 : Int32).toNatClampNeg) fun h14 =>
  gs h14 a0 4 <|
  lt (sR h14 a0 5 (hZ h13 + 1)) fun h16 =>
  lt (hNew h16 21 (512 : Int32).toNatClampNeg (512 : Int32).toNatClampNeg) fun h17 =>
  gs h17 a0 4 <|
  lt (sR h17 a0 6 (hZ h16 + 1)) fun h19 =>
  lt (hNew h19 21 (512 : Int32).toNatClampNeg (512 : Int32).toNatClampNeg) fun h20 =>
  gs h20 a0 4 <|
  lt (sR h20 a0 7 (hZ h19 + 1)) fun h22 =>
  lt (hNew h22 24 (512 : Int32).toNatClampNeg (512 : Int32).toNatClampNeg) fun h23 =>
  gs h23 a0 4 <|
  lt (sR h23 a0 8 (hZ h22 + 1)) fun h25 =>
  lt (hNew h25 21 (512 : Int32).toNatClampNeg (512 : Int32).toNatClampNeg) fun h26 =>
  gs h26 a0 4 <|
  lt (sR h26 a0 9 (hZ h25 + 1)) fun h28 =>
  lt (hNew h28 21 (2048 : Int32).toNatClampNeg (2048 : Int32).toNatClampNeg) fun h29 =>
  gs h29 a0 4 <|
  lt (sR h29 a0 10 (hZ h28 + 1)) fun h31 =>
  lt (hNew h31 21 (288 : Int32).toNatClampNeg (288 : Int32).toNatClampNeg) fun h32 =>
  gs h32 a0 4 <|
  lt (sR h32 a0 11 (hZ h31 + 1)) fun h34 =>
  lt (sR h34 a0 0 a1) fun h36 =>
  bd (f_X4_begin h36 a0 (1 : Int32) (1 : Int32)) fun q38 =>
  some q38
def f_X4_find_L16 (h : AH) : Nat → Nat → Int32 → Int32 → Int32 → Option (Int32)
  | 0, _, _, _, _ => none
  | n + 1, a0, a1, a2, a3 =>
    gs h a0 4 <|
    if (a2 + (hI h a0 14)) ≤ a3 then
      some (-1 : Int32)
    else
      gs h (hR h a0 2) 21 <|
      gb (ib a3 (hN h (hR h a0 2))) <|
      if ¬ (hI h (hR h a0 2) a3.toNatClampNeg) = a1 then
        lt (a3 + (1 : Int32)) fun x6 =>
        f_X4_find_L16 h n a0 a1 a2 x6
      else
        some a3
def f_X4_find (h : AH) (a0 : Nat) (a1 : Int32) : Option (Int32) :=
  gs h a0 4 <|
  lt (((a1 &&& ((hI h a0 13) - (1 : Int32))) * (hI h a0 14))) fun x2 =>
  f_X4_find_L16 h FU a0 a1 x2 x2
def f_X4_tell (h : AH) (a0 : Nat) (a1 : Int32) (a2 : Int32) : Option (Int32) :=
  if a2 = (0 : Int32) then
    gs h a0 4 <|
    gs h (hR h a0 3) 21 <|
    gb (ib a1 (hN h (hR h a0 3))) <|
    some (hI h (hR h a0 3) a1.toNatClampNeg)
  else
    if a2 = (1 : Int32) then
      gs h a0 4 <|
      gs h (hR h a0 4) 21 <|
      gb (ib a1 (hN h (hR h a0 4))) <|
      some (hI h (hR h a0 4) a1.toNatClampNeg)
    else
      if a2 = (2 : Int32) then
        gs h a0 4 <|
        gs h (hR h a0 5) 21 <|
        gb (ib a1 (hN h (hR h a0 5))) <|
        some (hI h (hR h a0 5) a1.toNatClampNeg)
      else
        if a2 = (3 : Int32) then
          gs h a0 4 <|
          gs h (hR h a0 7) 21 <|
          gb (ib a1 (hN h (hR h a0 7))) <|
          some (hI h (hR h a0 7) a1.toNatClampNeg)
        else
          if a2 = (4 : Int32) then
            gs h a0 4 <|
            gs h (hR h a0 8) 24 <|
            gb (ib a1 (hN h (hR h a0 8))) <|
            if (hI h (hR h a0 8) a1.toNatClampNeg) = 0 then
              some (0 : Int32)
            else
              some (1 : Int32)
          else
            if a2 = (9 : Int32) then
              gs h a0 4 <|
              gs h (hR h a0 2) 21 <|
              gb (ib a1 (hN h (hR h a0 2))) <|
              some (a1 - (((hI h (hR h a0 2) a1.toNatClampNeg) &&& ((hI h a0 13) - (1 : Int32))) * (hI h a0 14)))
            else
              gs h a0 4 <|
              gs h (hR h a0 10) 21 <|
              gb (ib ((a1 * (4 : Int32)) + ((a2 - (5 : Int32)) &&& (3 : Int32))) (hN h (hR h a0 10))) <|
              some (hI h (hR h a0 10) ((a1 * (4 : Int32)) + ((a2 - (5 : Int32)) &&& (3 : Int32))).toNatClampNeg)
def f_X4_countAt_L37 (h : AH) (k4 : Nat → Int32 → Int32 → Int32 → Option (Int32)) (a0 : Nat) (a1 : Int32) (a2 : Int32) (a3 : Int32) : Option (Int32) :=
  lt (a3 + (1 : Int32)) fun x1 =>
  k4 a0 a1 a2 x1
def f_X4_countAt_L4 (h : AH) : Nat → Nat → Int32 → Int32 → Int32 → Option (Int32)
  | 0, _, _, _, _ => none
  | n + 1, a0, a1, a2, a3 =>
    gs h a0 4 <|
    if (hI h a0 12) ≤ a3 then
      some a2
    else
      gs h (hR h a0 11) 21 <|
      gb (ib ((a3 * (9 : Int32)) + (3 : Int32)) (hN h (hR h a0 11))) <|
      if ¬ ((hI h (hR h a0 11) ((a3 * (9 : Int32)) + (3 : Int32)).toNatClampNeg) &&& ((hI h a0 13) - (1 : Int32))) = a1 then
        f_X4_countAt_L37 h (f_X4_countAt_L4 h n) a0 a1 a2 a3
      else
        lt (a2 + (1 : Int32)) fun x6 =>
        f_X4_countAt_L37 h (f_X4_countAt_L4 h n) a0 a1 x6 a3
def f_X4_countAt (h : AH) (a0 : Nat) (a1 : Int32) : Option (Int32) :=
  lt ((0 : Int32)) fun x1 =>
  lt ((0 : Int32)) fun x2 =>
  f_X4_countAt_L4 h FU a0 a1 x1 x2
def f_X4_countLines_L30 (h : AH) (k4 : Nat → Int32 → Int32 → Option (Int32)) (a0 : Nat) (a1 : Int32) (a2 : Int32) : Option (Int32) :=
  lt (a2 + (1 : Int32)) fun x1 =>
  k4 a0 a1 x1
def f_X4_countLines_L4 (h : AH) : Nat → Nat → Int32 → Int32 → Option (Int32)
  | 0, _, _, _ => none
  | n + 1, a0, a1, a2 =>
    gs h a0 4 <|
    if ((hI h a0 13) * (hI h a0 14)) ≤ a2 then
      some a1
    else
      gs h (hR h a0 2) 21 <|
      gb (ib a2 (hN h (hR h a0 2))) <|
      if (hI h (hR h a0 2) a2.toNatClampNeg) = (-1 : Int32) then
        f_X4_countLines_L30 h (f_X4_countLines_L4 h n) a0 a1 a2
      else
        lt (a1 + (1 : Int32)) fun x6 =>
        f_X4_countLines_L30 h (f_X4_countLines_L4 h n) a0 x6 a2
def f_X4_countLines (h : AH) (a0 : Nat) : Option (Int32) :=
  lt ((0 : Int32)) fun x1 =>
  lt ((0 : Int32)) fun x2 =>
  f_X4_countLines_L4 h FU a0 x1 x2
def f_X4_writeBack (h : AH) (a0 : Nat) (a1 : Int32) : Option (AH) :=
  gs h a0 4 <|
  gs h (hR h a0 8) 24 <|
  gb (ib a1 (hN h (hR h a0 8))) <|
  if (hI h (hR h a0 8) a1.toNatClampNeg) = 0 then
    some h
  else
    gs h (hR h a0 2) 21 <|
    gb (ib a1 (hN h (hR h a0 2))) <|
    gs h (hR h a0 10) 21 <|
    gs h (hR h a0 1) 21 <|
    gb (cpok (a1 * (4 : Int32)) ((hI h (hR h a0 2) a1.toNatClampNeg) * (4 : Int32)) (4 : Int32) (hN h (hR h a0 10)) (hN h (hR h a0 1))) <|
    lt (sA h (hR h a0 1) (va_cpy (hI h (hR h a0 10)) (hI h (hR h a0 1)) (a1 * (4 : Int32)).toNatClampNeg ((hI h (hR h a0 2) a1.toNatClampNeg) * (4 : Int32)).toNatClampNeg (4 : Int32).toNatClampNeg)) fun h10 =>
    some h10
def f_X4_giveShared (h : AH) (a0 : Nat) (a1 : Int32) (a2 : Int32) : Option (AH) :=
  gs h a0 4 <|
  gs h (hR h a0 4) 21 <|
  gb (ib a1 (hN h (hR h a0 4))) <|
  gb (ib a1 (hN h (hR h a0 4))) <|
  lt (sI h (hR h a0 4) a1.toNatClampNeg ((hI h (hR h a0 4) a1.toNatClampNeg) ||| ((1 : Int32) <<< (a2 &&& 31)))) fun h5 =>
  gs h5 (hR h5 a0 2) 21 <|
  gb (ib a1 (hN h5 (hR h5 a0 2))) <|
  gs h5 (hR h5 a0 0) 5 <|
  bd (f_X6_send h5 (hR h5 a0 0) (6 : Int32) (16 : Int32) a2 (hI h5 (hR h5 a0 2) a1.toNatClampNeg) (hR h5 a0 10) (a1 * (4 : Int32))) fun q10 =>
  some q10
def f_X4_giveAlone (h : AH) (a0 : Nat) (a1 : Int32) (a2 : Int32) : Option (AH) :=
  gs h a0 4 <|
  gs h (hR h a0 3) 21 <|
  gb (ib a1 (hN h (hR h a0 3))) <|
  lt (sI h (hR h a0 3) a1.toNatClampNeg a2) fun h4 =>
  gs h4 (hR h4 a0 4) 21 <|
  gb (ib a1 (hN h4 (hR h4 a0 4))) <|
  lt (sI h4 (hR h4 a0 4) a1.toNatClampNeg (0 : Int32)) fun h8 =>
  gs h8 (hR h8 a0 2) 21 <|
  gb (ib a1 (hN h8 (hR h8 a0 2))) <|
  gs h8 (hR h8 a0 0) 5 <|
  bd (f_X6_send h8 (hR h8 a0 0) (8 : Int32) (16 : Int32) a2 (hI h8 (hR h8 a0 2) a1.toNatClampNeg) (hR h8 a0 10) (a1 * (4 : Int32))) fun q13 =>
  some q13
def f_X4_acknowledge_L147 (h : AH) : Option (Int32 × AH) :=
  some ((0 : Int32), h)
def f_X4_acknowledge_L50 (h : AH) (a0 : Nat) (a2 : Int32) : Option (Int32 × AH) :=
  gs h a0 4 <|
  gs h (hR h a0 7) 21 <|
  gb (ib a2 (hN h (hR h a0 7))) <|
  gb (ib a2 (hN h (hR h a0 7))) <|
  lt (sI h (hR h a0 7) a2.toNatClampNeg ((hI h (hR h a0 7) a2.toNatClampNeg) - (1 : Int32))) fun h5 =>
  gs h5 (hR h5 a0 7) 21 <|
  gb (ib a2 (hN h5 (hR h5 a0 7))) <|
  if (hI h5 (hR h5 a0 7) a2.toNatClampNeg) ≤ 0 then
    gs h5 (hR h5 a0 5) 21 <|
    gb (ib a2 (hN h5 (hR h5 a0 5))) <|
    if ¬ (hI h5 (hR h5 a0 5) a2.toNatClampNeg) = (16 : Int32) then
      gs h5 (hR h5 a0 6) 21 <|
      gb (ib a2 (hN h5 (hR h5 a0 6))) <|
      if ¬ (hI h5 (hR h5 a0 6) a2.toNatClampNeg) = 0 then
        gb (ib a2 (hN h5 (hR h5 a0 5))) <|
        bd (f_X4_giveAlone h5 a0 a2 (hI h5 (hR h5 a0 5) a2.toNatClampNeg)) fun q17 =>
        some ((0 : Int32), q17)
      else
        gs h5 (hR h5 a0 4) 21 <|
        gb (ib a2 (hN h5 (hR h5 a0 4))) <|
        gs h5 (hR h5 a0 3) 21 <|
        gb (ib a2 (hN h5 (hR h5 a0 3))) <|
        gb (ib a2 (hN h5 (hR h5 a0 4))) <|
        lt (sI h5 (hR h5 a0 4) a2.toNatClampNeg ((hI h5 (hR h5 a0 4) a2.toNatClampNeg) ||| ((1 : Int32) <<< ((hI h5 (hR h5 a0 3) a2.toNatClampNeg) &&& 31)))) fun h23 =>
        gs h23 (hR h23 a0 3) 21 <|
        gb (ib a2 (hN h23 (hR h23 a0 3))) <|
        lt (sI h23 (hR h23 a0 3) a2.toNatClampNeg (-1 : Int32)) fun h27 =>
        gs h27 (hR h27 a0 5) 21 <|
        gb (ib a2 (hN h27 (hR h27 a0 5))) <|
        bd (f_X4_giveShared h27 a0 a2 (hI h27 (hR h27 a0 5) a2.toNatClampNeg)) fun q31 =>
        f_X4_acknowledge_L147 q31
    else
      bd (f_X4_writeBack h5 a0 a2) fun q32 =>
      gs q32 a0 4 <|
      gs q32 (hR q32 a0 2) 21 <|
      gb (ib a2 (hN q32 (hR q32 a0 2))) <|
      lt (sI q32 (hR q32 a0 2) a2.toNatClampNeg (-1 : Int32)) fun h36 =>
      gs h36 (hR h36 a0 5) 21 <|
      gb (ib a2 (hN h36 (hR h36 a0 5))) <|
      lt (sI h36 (hR h36 a0 5) a2.toNatClampNeg (-1 : Int32)) fun h40 =>
      some ((1 : Int32), h40)
  else
    some ((0 : Int32), h5)
def f_X4_acknowledge (h : AH) (a0 : Nat) (a1 : Nat) : Option (Int32 × AH) :=
  gs h a1 21 <|
  gb (ib (3 : Int32) (hN h a1)) <|
  gs h a0 4 <|
  bd (f_X4_find h a0 (hI h a1 (3 : Int32).toNatClampNeg)) fun v4 =>
  if v4 < 0 then
    some ((0 : Int32), h)
  else
    gs h (hR h a0 7) 21 <|
    gb (ib v4 (hN h (hR h a0 7))) <|
    if ¬ (hI h (hR h a0 7) v4.toNatClampNeg) = 0 then
      gb (ib (4 : Int32) (hN h a1)) <|
      if ¬ (hI h a1 (4 : Int32).toNatClampNeg) = (1 : Int32) then
        f_X4_acknowledge_L50 h a0 v4
      else
        gs h (hR h a0 10) 21 <|
        gb (cpok (5 : Int32) (v4 * (4 : Int32)) (4 : Int32) (hN h a1) (hN h (hR h a0 10))) <|
        lt (sA h (hR h a0 10) (va_cpy (hI h a1) (hI h (hR h a0 10)) (5 : Int32).toNatClampNeg (v4 * (4 : Int32)).toNatClampNeg (4 : Int32).toNatClampNeg)) fun h13 =>
        gs h13 (hR h13 a0 8) 24 <|
        gb (ib v4 (hN h13 (hR h13 a0 8))) <|
        lt (sI h13 (hR h13 a0 8) v4.toNatClampNeg ((1 : Int32) &&& 1)) fun h17 =>
        f_X4_acknowledge_L50 h17 a0 v4
    else
      some ((0 : Int32), h)
