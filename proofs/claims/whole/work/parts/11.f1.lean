def f_X4_endRequest (h : AH) (a0 : Nat) (a1 : Int32) : Option (AH) :=
  gs h a0 4 <|
  bd (f_X4_find h a0 a1) fun v2 =>
  if v2 < 0 then
    some h
  else
    gs h (hR h a0 5) 21 <|
    gb (ib v2 (hN h (hR h a0 5))) <|
    lt (sI h (hR h a0 5) v2.toNatClampNeg (-1 : Int32)) fun h6 =>
    some h6
def f_X4_firstAt_L2 (h : AH) : Nat → Nat → Int32 → Int32 → Option (Int32)
  | 0, _, _, _ => none
  | n + 1, a0, a1, a2 =>
    gs h a0 4 <|
    if (hI h a0 12) ≤ a2 then
      some (-1 : Int32)
    else
      gs h (hR h a0 11) 21 <|
      gb (ib ((a2 * (9 : Int32)) + (3 : Int32)) (hN h (hR h a0 11))) <|
      if ¬ ((hI h (hR h a0 11) ((a2 * (9 : Int32)) + (3 : Int32)).toNatClampNeg) &&& ((hI h a0 13) - (1 : Int32))) = a1 then
        lt (a2 + (1 : Int32)) fun x6 =>
        f_X4_firstAt_L2 h n a0 a1 x6
      else
        some a2
def f_X4_firstAt (h : AH) (a0 : Nat) (a1 : Int32) : Option (Int32) :=
  lt ((0 : Int32)) fun x1 =>
  f_X4_firstAt_L2 h FU a0 a1 x1
def f_X4_takeBack_L55 (h : AH) (a0 : Nat) (a2 : Int32) (a3 : Int32) : Option (AH) :=
  gs h a0 4 <|
  gs h (hR h a0 11) 21 <|
  gb (ib (a2 + (3 : Int32)) (hN h (hR h a0 11))) <|
  gs h (hR h a0 0) 5 <|
  bd (f_X6_send h (hR h a0 0) (9 : Int32) (16 : Int32) a3 (hI h (hR h a0 11) (a2 + (3 : Int32)).toNatClampNeg) 0 (0 : Int32)) fun q5 =>
  some q5
def f_X4_takeBack (h : AH) (a0 : Nat) (a1 : Int32) (a2 : Int32) : Option (AH) :=
  gs h a0 4 <|
  gs h (hR h a0 11) 21 <|
  gb (ib (a2 + (1 : Int32)) (hN h (hR h a0 11))) <|
  lt ((hI h (hR h a0 11) (a2 + (1 : Int32)).toNatClampNeg)) fun x4 =>
  if a1 < 0 then
    f_X4_takeBack_L55 h a0 a2 x4
  else
    gs h (hR h a0 3) 21 <|
    gb (ib a1 (hN h (hR h a0 3))) <|
    if ¬ (hI h (hR h a0 3) a1.toNatClampNeg) = x4 then
      f_X4_takeBack_L55 h a0 a2 x4
    else
      gs h (hR h a0 10) 21 <|
      gb (cpok (a2 + (5 : Int32)) (a1 * (4 : Int32)) (4 : Int32) (hN h (hR h a0 11)) (hN h (hR h a0 10))) <|
      lt (sA h (hR h a0 10) (va_cpy (hI h (hR h a0 11)) (hI h (hR h a0 10)) (a2 + (5 : Int32)).toNatClampNeg (a1 * (4 : Int32)).toNatClampNeg (4 : Int32).toNatClampNeg)) fun h11 =>
      gs h11 (hR h11 a0 8) 24 <|
      gb (ib a1 (hN h11 (hR h11 a0 8))) <|
      lt (sI h11 (hR h11 a0 8) a1.toNatClampNeg ((1 : Int32) &&& 1)) fun h15 =>
      gs h15 (hR h15 a0 3) 21 <|
      gb (ib a1 (hN h15 (hR h15 a0 3))) <|
      lt (sI h15 (hR h15 a0 3) a1.toNatClampNeg (-1 : Int32)) fun h19 =>
      f_X4_takeBack_L55 h19 a0 a2 x4
def f_X4_wayToFree_L78 (h : AH) (k19 : Nat → Int32 → Int32 → Int32 → Option (Int32)) (a0 : Nat) (a2 : Int32) (a3 : Int32) (a4 : Int32) : Option (Int32) :=
  lt (a4 + (1 : Int32)) fun x1 =>
  k19 a0 a2 a3 x1
def f_X4_wayToFree_L75 (h : AH) (k19 : Nat → Int32 → Int32 → Int32 → Option (Int32)) (a0 : Nat) (a2 : Int32) (a4 : Int32) : Option (Int32) :=
  f_X4_wayToFree_L78 h k19 a0 a2 a4 a4
def f_X4_wayToFree_L19 (h : AH) : Nat → Nat → Int32 → Int32 → Int32 → Option (Int32)
  | 0, _, _, _, _ => none
  | n + 1, a0, a2, a3, a4 =>
    gs h a0 4 <|
    if (a2 + (hI h a0 14)) ≤ a4 then
      some a3
    else
      gs h (hR h a0 2) 21 <|
      gb (ib a4 (hN h (hR h a0 2))) <|
      if ¬ (hI h (hR h a0 2) a4.toNatClampNeg) = (-1 : Int32) then
        gs h (hR h a0 5) 21 <|
        gb (ib a4 (hN h (hR h a0 5))) <|
        if ¬ (hI h (hR h a0 5) a4.toNatClampNeg) = (-1 : Int32) then
          f_X4_wayToFree_L78 h (f_X4_wayToFree_L19 h n) a0 a2 a3 a4
        else
          if a3 < 0 then
            f_X4_wayToFree_L75 h (f_X4_wayToFree_L19 h n) a0 a2 a4
          else
            gs h (hR h a0 9) 21 <|
            gb (ib a4 (hN h (hR h a0 9))) <|
            gb (ib a3 (hN h (hR h a0 9))) <|
            if (hI h (hR h a0 9) a3.toNatClampNeg) ≤ (hI h (hR h a0 9) a4.toNatClampNeg) then
              f_X4_wayToFree_L78 h (f_X4_wayToFree_L19 h n) a0 a2 a3 a4
            else
              f_X4_wayToFree_L75 h (f_X4_wayToFree_L19 h n) a0 a2 a4
      else
        some a4
def f_X4_wayToFree (h : AH) (a0 : Nat) (a1 : Int32) : Option (Int32) :=
  gs h a0 4 <|
  lt (((a1 &&& ((hI h a0 13) - (1 : Int32))) * (hI h a0 14))) fun x2 =>
  lt ((-1 : Int32)) fun x3 =>
  f_X4_wayToFree_L19 h FU a0 x2 x3 x2
def f_X4_invite_L77 (k2 : AH → Nat → Int32 → Int32 → Int32 → Option (AH)) (h : AH) (a0 : Nat) (a1 : Int32) (a2 : Int32) (a3 : Int32) : Option (AH) :=
  lt (a3 + (1 : Int32)) fun x1 =>
  k2 h a0 a1 a2 x1
def f_X4_invite_L36 (k2 : AH → Nat → Int32 → Int32 → Int32 → Option (AH)) (h : AH) (a0 : Nat) (a1 : Int32) (a2 : Int32) (a3 : Int32) (s0 : Int32) : Option (AH) :=
  if s0 = 0 then
    f_X4_invite_L77 k2 h a0 a1 a2 a3
  else
    if a3 = a2 then
      f_X4_invite_L77 k2 h a0 a1 a2 a3
    else
      gs h a0 4 <|
      gs h (hR h a0 2) 21 <|
      gb (ib a1 (hN h (hR h a0 2))) <|
      gs h (hR h a0 0) 5 <|
      bd (f_X6_send h (hR h a0 0) (3 : Int32) (16 : Int32) a3 (hI h (hR h a0 2) a1.toNatClampNeg) 0 (0 : Int32)) fun q7 =>
      gs q7 a0 4 <|
      gs q7 (hR q7 a0 7) 21 <|
      gb (ib a1 (hN q7 (hR q7 a0 7))) <|
      gb (ib a1 (hN q7 (hR q7 a0 7))) <|
      lt (sI q7 (hR q7 a0 7) a1.toNatClampNeg ((hI q7 (hR q7 a0 7) a1.toNatClampNeg) + (1 : Int32))) fun h12 =>
      f_X4_invite_L77 k2 h12 a0 a1 a2 a3
def f_X4_invite_L31 (k2 : AH → Nat → Int32 → Int32 → Int32 → Option (AH)) (h : AH) (a0 : Nat) (a1 : Int32) (a2 : Int32) (a3 : Int32) : Option (AH) :=
  f_X4_invite_L36 k2 h a0 a1 a2 a3 (1 : Int32)
def f_X4_invite_L2 : Nat → AH → Nat → Int32 → Int32 → Int32 → Option (AH)
  | 0, _, _, _, _, _ => none
  | n + 1, h, a0, a1, a2, a3 =>
    if (16 : Int32) ≤ a3 then
      some h
    else
      gs h a0 4 <|
      gs h (hR h a0 3) 21 <|
      gb (ib a1 (hN h (hR h a0 3))) <|
      if (hI h (hR h a0 3) a1.toNatClampNeg) = a3 then
        f_X4_invite_L31 (f_X4_invite_L2 n) h a0 a1 a2 a3
      else
        gs h (hR h a0 4) 21 <|
        gb (ib a1 (hN h (hR h a0 4))) <|
        if (((hI h (hR h a0 4) a1.toNatClampNeg) >>> (a3 &&& 31)) &&& (1 : Int32)) = 0 then
          f_X4_invite_L36 (f_X4_invite_L2 n) h a0 a1 a2 a3 (0 : Int32)
        else
          f_X4_invite_L31 (f_X4_invite_L2 n) h a0 a1 a2 a3
def f_X4_invite (h : AH) (a0 : Nat) (a1 : Int32) (a2 : Int32) : Option (AH) :=
  lt ((0 : Int32)) fun x1 =>
  f_X4_invite_L2 FU h a0 a1 a2 x1
def f_X4_makeRoom_L89 (h : AH) (a0 : Nat) (a1 : Int32) (a2 : Int32) : Option (Int32 × AH) :=
  gs h a0 4 <|
  gs h (hR h a0 2) 21 <|
  gb (ib a2 (hN h (hR h a0 2))) <|
  lt (sI h (hR h a0 2) a2.toNatClampNeg a1) fun h4 =>
  gs h4 (hR h4 a0 1) 21 <|
  gs h4 (hR h4 a0 10) 21 <|
  gb (cpok (a1 * (4 : Int32)) (a2 * (4 : Int32)) (4 : Int32) (hN h4 (hR h4 a0 1)) (hN h4 (hR h4 a0 10))) <|
  lt (sA h4 (hR h4 a0 10) (va_cpy (hI h4 (hR h4 a0 1)) (hI h4 (hR h4 a0 10)) (a1 * (4 : Int32)).toNatClampNeg (a2 * (4 : Int32)).toNatClampNeg (4 : Int32).toNatClampNeg)) fun h9 =>
  gs h9 (hR h9 a0 8) 24 <|
  gb (ib a2 (hN h9 (hR h9 a0 8))) <|
  lt (sI h9 (hR h9 a0 8) a2.toNatClampNeg ((0 : Int32) &&& 1)) fun h13 =>
  gs h13 (hR h13 a0 3) 21 <|
  gb (ib a2 (hN h13 (hR h13 a0 3))) <|
  lt (sI h13 (hR h13 a0 3) a2.toNatClampNeg (-1 : Int32)) fun h17 =>
  gs h17 (hR h17 a0 4) 21 <|
  gb (ib a2 (hN h17 (hR h17 a0 4))) <|
  lt (sI h17 (hR h17 a0 4) a2.toNatClampNeg (0 : Int32)) fun h21 =>
  some (a2, h21)
def f_X4_makeRoom_L74 (h : AH) (a0 : Nat) (a1 : Int32) (a2 : Int32) : Option (Int32 × AH) :=
  gs h a0 4 <|
  gs h (hR h a0 2) 21 <|
  gb (ib a2 (hN h (hR h a0 2))) <|
  if (hI h (hR h a0 2) a2.toNatClampNeg) = (-1 : Int32) then
    f_X4_makeRoom_L89 h a0 a1 a2
  else
    bd (f_X4_writeBack h a0 a2) fun q5 =>
    f_X4_makeRoom_L89 q5 a0 a1 a2
def f_X4_makeRoom_L41 (h : AH) (a0 : Nat) (a2 : Int32) : Option (Int32 × AH) :=
  gs h a0 4 <|
  gs h (hR h a0 5) 21 <|
  gb (ib a2 (hN h (hR h a0 5))) <|
  lt (sI h (hR h a0 5) a2.toNatClampNeg (16 : Int32)) fun h4 =>
  gs h4 (hR h4 a0 7) 21 <|
  gb (ib a2 (hN h4 (hR h4 a0 7))) <|
  lt (sI h4 (hR h4 a0 7) a2.toNatClampNeg (0 : Int32)) fun h8 =>
  lt (sI h8 a0 16 ((hI h8 a0 16) + (1 : Int32))) fun h10 =>
  bd (f_X4_invite h10 a0 a2 (-1 : Int32)) fun q12 =>
  some ((-1 : Int32), q12)
def f_X4_makeRoom (h : AH) (a0 : Nat) (a1 : Int32) : Option (Int32 × AH) :=
  gs h a0 4 <|
  bd (f_X4_wayToFree h a0 a1) fun v2 =>
  if 0 ≤ v2 then
    gs h (hR h a0 2) 21 <|
    gb (ib v2 (hN h (hR h a0 2))) <|
    if (hI h (hR h a0 2) v2.toNatClampNeg) = (-1 : Int32) then
      f_X4_makeRoom_L74 h a0 a1 v2
    else
      gs h (hR h a0 3) 21 <|
      gb (ib v2 (hN h (hR h a0 3))) <|
      if ¬ (hI h (hR h a0 3) v2.toNatClampNeg) = (-1 : Int32) then
        f_X4_makeRoom_L41 h a0 v2
      else
        gs h (hR h a0 4) 21 <|
        gb (ib v2 (hN h (hR h a0 4))) <|
        if (hI h (hR h a0 4) v2.toNatClampNeg) = 0 then
          f_X4_makeRoom_L74 h a0 a1 v2
        else
          f_X4_makeRoom_L41 h a0 v2
  else
    some ((-1 : Int32), h)
def f_X4_lend (h : AH) (a0 : Nat) (a1 : Int32) (a2 : Int32) : Option (AH) :=
  gs h a0 4 <|
  gs h (hR h a0 3) 21 <|
  gb (ib a1 (hN h (hR h a0 3))) <|
  if (hI h (hR h a0 3) a1.toNatClampNeg) = (-1 : Int32) then
    gs h (hR h a0 4) 21 <|
    gb (ib a1 (hN h (hR h a0 4))) <|
    if ¬ (hI h (hR h a0 4) a1.toNatClampNeg) = 0 then
      bd (f_X4_giveShared h a0 a1 a2) fun q8 =>
      some q8
    else
      gb (ib a1 (hN h (hR h a0 3))) <|
      lt (sI h (hR h a0 3) a1.toNatClampNeg a2) fun h10 =>
      gs h10 (hR h10 a0 2) 21 <|
      gb (ib a1 (hN h10 (hR h10 a0 2))) <|
      gs h10 (hR h10 a0 0) 5 <|
      bd (f_X6_send h10 (hR h10 a0 0) (7 : Int32) (16 : Int32) a2 (hI h10 (hR h10 a0 2) a1.toNatClampNeg) (hR h10 a0 10) (a1 * (4 : Int32))) fun q15 =>
      some q15
  else
    gb (ib a1 (hN h (hR h a0 3))) <|
    gs h (hR h a0 2) 21 <|
    gb (ib a1 (hN h (hR h a0 2))) <|
    gs h (hR h a0 0) 5 <|
    bd (f_X6_send h (hR h a0 0) (4 : Int32) (16 : Int32) (hI h (hR h a0 3) a1.toNatClampNeg) (hI h (hR h a0 2) a1.toNatClampNeg) 0 (0 : Int32)) fun q20 =>
    gs q20 a0 4 <|
    gs q20 (hR q20 a0 7) 21 <|
    gb (ib a1 (hN q20 (hR q20 a0 7))) <|
    lt (sI q20 (hR q20 a0 7) a1.toNatClampNeg (1 : Int32)) fun h24 =>
    some h24
def f_X4_take_L76 (h : AH) (a0 : Nat) (a1 : Int32) (a3 : Int32) (a4 : Int32) : Option (Int32 × AH) :=
  if 0 ≤ a4 then
    gs h a0 4 <|
    lt (sI h a0 15 ((hI h a0 15) + (1 : Int32))) fun h3 =>
    gs h3 (hR h3 a0 9) 21 <|
    gb (ib a4 (hN h3 (hR h3 a0 9))) <|
    lt (sI h3 (hR h3 a0 9) a4.toNatClampNeg (hI h3 a0 15)) fun h7 =>
    gs h7 (hR h7 a0 5) 21 <|
    gb (ib a4 (hN h7 (hR h7 a0 5))) <|
    lt (sI h7 (hR h7 a0 5) a4.toNatClampNeg a3) fun h11 =>
    gs h11 (hR h11 a0 11) 21 <|
    gb (ib (a1 + (0 : Int32)) (hN h11 (hR h11 a0 11))) <|
    gs h11 (hR h11 a0 6) 21 <|
    gb (ib a4 (hN h11 (hR h11 a0 6))) <|
    lt (sI h11 (hR h11 a0 6) a4.toNatClampNeg (hI h11 (hR h11 a0 11) (a1 + (0 : Int32)).toNatClampNeg)) fun h17 =>
    gs h17 (hR h17 a0 7) 21 <|
    gb (ib a4 (hN h17 (hR h17 a0 7))) <|
    lt (sI h17 (hR h17 a0 7) a4.toNatClampNeg (0 : Int32)) fun h21 =>
    gs h21 (hR h21 a0 6) 21 <|
    gb (ib a4 (hN h21 (hR h21 a0 6))) <|
    if ¬ (hI h21 (hR h21 a0 6) a4.toNatClampNeg) = 0 then
      bd (f_X4_invite h21 a0 a4 a3) fun q26 =>
      gs q26 a0 4 <|
      gs q26 (hR q26 a0 7) 21 <|
      gb (ib a4 (hN q26 (hR q26 a0 7))) <|
      if ¬ (hI q26 (hR q26 a0 7) a4.toNatClampNeg) = 0 then
        some ((1 : Int32), q26)
      else
        bd (f_X4_giveAlone q26 a0 a4 a3) fun q31 =>
        some ((1 : Int32), q31)
    else
      bd (f_X4_lend h21 a0 a4 a3) fun q32 =>
      some ((1 : Int32), q32)
  else
    some ((0 : Int32), h)
def f_X4_take_L43 (h : AH) (a0 : Nat) (a1 : Int32) (a2 : Int32) (a3 : Int32) (a4 : Int32) : Option (Int32 × AH) :=
  gs h a0 4 <|
  gs h (hR h a0 11) 21 <|
  gb (ib (a1 + (0 : Int32)) (hN h (hR h a0 11))) <|
  if ¬ (hI h (hR h a0 11) (a1 + (0 : Int32)).toNatClampNeg) = (2 : Int32) then
    if 0 ≤ a4 then
      f_X4_take_L76 h a0 a1 a3 a4
    else
      bd (f_X4_makeRoom h a0 a2) fun q6 =>
      lt (q6.1) fun x7 =>
      f_X4_take_L76 q6.2 a0 a1 a3 x7
  else
    bd (f_X4_takeBack h a0 a4 a1) fun q8 =>
    some ((1 : Int32), q8)
def f_X4_take (h : AH) (a0 : Nat) (a1 : Int32) : Option (Int32 × AH) :=
  gs h a0 4 <|
  gs h (hR h a0 11) 21 <|
  gb (ib (a1 + (3 : Int32)) (hN h (hR h a0 11))) <|
  lt ((hI h (hR h a0 11) (a1 + (3 : Int32)).toNatClampNeg)) fun x4 =>
  gb (ib (a1 + (1 : Int32)) (hN h (hR h a0 11))) <|
  lt ((hI h (hR h a0 11) (a1 + (1 : Int32)).toNatClampNeg)) fun x6 =>
  bd (f_X4_find h a0 x4) fun v7 =>
  if v7 < 0 then
    f_X4_take_L43 h a0 a1 x4 x6 v7
  else
    gs h (hR h a0 5) 21 <|
    gb (ib v7 (hN h (hR h a0 5))) <|
    if (hI h (hR h a0 5) v7.toNatClampNeg) = (-1 : Int32) then
      f_X4_take_L43 h a0 a1 x4 x6 v7
    else
      some ((0 : Int32), h)
def f_X4_leaveQueue (h : AH) (a0 : Nat) (a1 : Int32) : Option (AH) :=
  lt ((9 : Int32)) fun x1 =>
  gs h a0 4 <|
  gs h (hR h a0 11) 21 <|
  gb (cpok ((a1 + (1 : Int32)) * x1) (a1 * x1) ((((hI h a0 12) - a1) - (1 : Int32)) * x1) (hN h (hR h a0 11)) (hN h (hR h a0 11))) <|
  lt (sA h (hR h a0 11) (va_cpy (hI h (hR h a0 11)) (hI h (hR h a0 11)) ((a1 + (1 : Int32)) * x1).toNatClampNeg (a1 * x1).toNatClampNeg ((((hI h a0 12) - a1) - (1 : Int32)) * x1).toNatClampNeg)) fun h5 =>
  lt (sI h5 a0 12 ((hI h5 a0 12) - (1 : Int32))) fun h7 =>
  some h7
def f_X4_receive_L140 (k81 : AH → Nat → Int32 → Int32 → Int32 → Option (AH)) (h : AH) (a0 : Nat) (a2 : Int32) (a4 : Int32) (a5 : Int32) : Option (AH) :=
  lt (a5 + (-1 : Int32)) fun x1 =>
  k81 h a0 a2 a4 x1
def f_X4_receive_L127 (k81 : AH → Nat → Int32 → Int32 → Int32 → Option (AH)) (h : AH) (a0 : Nat) (a2 : Int32) (a5 : Int32) (a6 : Int32) (s0 : Int32) : Option (AH) :=
  if s0 = 0 then
    f_X4_receive_L140 k81 h a0 a2 s0 a5
  else
    gs h a0 4 <|
    bd (f_X4_leaveQueue h a0 a6) fun q3 =>
    f_X4_receive_L140 k81 q3 a0 a2 s0 a5
def f_X4_receive_L126 (k81 : AH → Nat → Int32 → Int32 → Int32 → Option (AH)) (h : AH) (a0 : Nat) (a2 : Int32) (a5 : Int32) (a6 : Int32) : Option (AH) :=
  f_X4_receive_L127 k81 h a0 a2 a5 a6 (0 : Int32)
def f_X4_receive_L81 : Nat → AH → Nat → Int32 → Int32 → Int32 → Option (AH)
  | 0, _, _, _, _, _ => none
  | n + 1, h, a0, a2, a4, a5 =>
    if a4 = 0 then
      some h
    else
      if a5 ≤ 0 then
        some h
      else
        gs h a0 4 <|
        bd (f_X4_firstAt h a0 (a2 &&& ((hI h a0 13) - (1 : Int32)))) fun v4 =>
        if v4 < 0 then
          f_X4_receive_L126 (f_X4_receive_L81 n) h a0 a2 a5 v4
        else
          bd (f_X4_take h a0 (v4 * (9 : Int32))) fun q6 =>
          if q6.1 = 0 then
            f_X4_receive_L126 (f_X4_receive_L81 n) q6.2 a0 a2 a5 v4
          else
            f_X4_receive_L127 (f_X4_receive_L81 n) q6.2 a0 a2 a5 v4 (1 : Int32)
def f_X4_receive_L77 (h : AH) (a0 : Nat) (a2 : Int32) (a4 : Int32) : Option (AH) :=
  lt ((32 : Int32)) fun x1 =>
  f_X4_receive_L81 FU h a0 a2 a4 x1
def f_X4_receive (h : AH) (a0 : Nat) (a1 : Nat) : Option (AH) :=
  gs h a1 21 <|
  gb (ib (3 : Int32) (hN h a1)) <|
  lt ((hI h a1 (3 : Int32).toNatClampNeg)) fun x3 =>
  gb (ib (0 : Int32) (hN h a1)) <|
  lt ((hI h a1 (0 : Int32).toNatClampNeg)) fun x5 =>
  lt ((1 : Int32)) fun x6 =>
  if ¬ x5 = (5 : Int32) then
    if ¬ x5 = (10 : Int32) then
      gs h a0 4 <|
      if (32 : Int32) ≤ (hI h a0 12) then
        f_X4_receive_L77 h a0 x3 x6
      else
        gs h (hR h a0 11) 21 <|
        gb (cpok (0 : Int32) ((hI h a0 12) * (9 : Int32)) (9 : Int32) (hN h a1) (hN h (hR h a0 11))) <|
        lt (sA h (hR h a0 11) (va_cpy (hI h a1) (hI h (hR h a0 11)) (0 : Int32).toNatClampNeg ((hI h a0 12) * (9 : Int32)).toNatClampNeg (9 : Int32).toNatClampNeg)) fun h13 =>
        lt (sI h13 a0 12 ((hI h13 a0 12) + (1 : Int32))) fun h15 =>
        f_X4_receive_L77 h15 a0 x3 x6
    else
      gs h a0 4 <|
      bd (f_X4_endRequest h a0 x3) fun q17 =>
      f_X4_receive_L77 q17 a0 x3 x6
  else
    gs h a0 4 <|
    bd (f_X4_acknowledge h a0 a1) fun q19 =>
    lt (q19.1) fun x20 =>
    f_X4_receive_L77 q19.2 a0 x3 x20
def f_X6_init (h : AH) (a0 : Nat) : Option (AH) :=
  gs h a0 5 <|
  lt (hNew h 21 (576 : Int32).toNatClampNeg (576 : Int32).toNatClampNeg) fun h2 =>
  gs h2 a0 5 <|
  lt (sR h2 a0 0 (hZ h + 1)) fun h4 =>
  lt (hNew h4 21 (9 : Int32).toNatClampNeg (9 : Int32).toNatClampNeg) fun h5 =>
  gs h5 a0 5 <|
  lt (sR h5 a0 3 (hZ h4 + 1)) fun h7 =>
  some h7
def f_X6_clear (h : AH) (a0 : Nat) : Option (AH) :=
  gs h a0 5 <|
  lt (sI h a0 1 (0 : Int32)) fun h2 =>
  lt (sI h2 a0 2 (0 : Int32)) fun h4 =>
  some h4
def f_X6_takeOut (h : AH) (a0 : Nat) (a1 : Int32) : Option (Int32 × AH) :=
  if a1 < 0 then
    some ((0 : Int32), h)
  else
    gs h a0 5 <|
    if a1 < (hI h a0 1) then
      gs h (hR h a0 0) 21 <|
      gs h (hR h a0 3) 21 <|
      gb (cpok (a1 * (9 : Int32)) (0 : Int32) (9 : Int32) (hN h (hR h a0 0)) (hN h (hR h a0 3))) <|
      lt (sA h (hR h a0 3) (va_cpy (hI h (hR h a0 0)) (hI h (hR h a0 3)) (a1 * (9 : Int32)).toNatClampNeg (0 : Int32).toNatClampNeg (9 : Int32).toNatClampNeg)) fun h7 =>
      gs h7 (hR h7 a0 0) 21 <|
      gb (cpok ((a1 + (1 : Int32)) * (9 : Int32)) (a1 * (9 : Int32)) ((((hI h7 a0 1) - a1) - (1 : Int32)) * (9 : Int32)) (hN h7 (hR h7 a0 0)) (hN h7 (hR h7 a0 0))) <|
      lt (sA h7 (hR h7 a0 0) (va_cpy (hI h7 (hR h7 a0 0)) (hI h7 (hR h7 a0 0)) ((a1 + (1 : Int32)) * (9 : Int32)).toNatClampNeg (a1 * (9 : Int32)).toNatClampNeg ((((hI h7 a0 1) - a1) - (1 : Int32)) * (9 : Int32)).toNatClampNeg)) fun h11 =>
      lt (sI h11 a0 1 ((hI h11 a0 1) - (1 : Int32))) fun h13 =>
      lt (sI h13 a0 2 ((hI h13 a0 2) + (1 : Int32))) fun h15 =>
      some ((1 : Int32), h15)
    else
      some ((0 : Int32), h)
def f_X6_get (h : AH) (a0 : Nat) (a1 : Int32) (a2 : Int32) : Option (Int32) :=
  gs h a0 5 <|
  gs h (hR h a0 0) 21 <|
  gb (ib ((a1 * (9 : Int32)) + a2) (hN h (hR h a0 0))) <|
  some (hI h (hR h a0 0) ((a1 * (9 : Int32)) + a2).toNatClampNeg)
def f_X6_placeOn_L43 (h : AH) (k5 : Nat → Int32 → Int32 → Int32 → Option (Int32)) (a0 : Nat) (a1 : Int32) (a3 : Int32) (a4 : Int32) : Option (Int32) :=
  lt (a4 + (1 : Int32)) fun x1 =>
  k5 a0 a1 a3 x1
def f_X6_placeOn_L5 (h : AH) : Nat → Nat → Int32 → Int32 → Int32 → Option (Int32)
  | 0, _, _, _, _ => none
  | n + 1, a0, a1, a3, a4 =>
    gs h a0 5 <|
    if (hI h a0 1) ≤ a4 then
      some (-1 : Int32)
    else
      if a3 < 0 then
        some (-1 : Int32)
      else
        bd (f_X6_get h a0 a4 (0 : Int32)) fun v4 =>
        gb (ib v4 11) <|
        if ¬ (tCH.getD v4.toNatClampNeg 0) = a1 then
          f_X6_placeOn_L43 h (f_X6_placeOn_L5 h n) a0 a1 a3 a4
        else
          if ¬ a3 = 0 then
            lt (a3 + (-1 : Int32)) fun x8 =>
            f_X6_placeOn_L43 h (f_X6_placeOn_L5 h n) a0 a1 x8 a4
          else
            some a4
def f_X6_placeOn (h : AH) (a0 : Nat) (a1 : Int32) (a2 : Int32) : Option (Int32) :=
  lt ((0 : Int32)) fun x1 =>
  f_X6_placeOn_L5 h FU a0 a1 a2 x1
def f_X6_placeOfWords_L42 (h : AH) (k2 : Nat → Int32 → Int32 → Int32 → Option (Int32)) (a0 : Nat) (a1 : Int32) (a2 : Int32) (a3 : Int32) : Option (Int32) :=
  lt (a3 + (1 : Int32)) fun x1 =>
  k2 a0 a1 a2 x1
def f_X6_placeOfWords_L2 (h : AH) : Nat → Nat → Int32 → Int32 → Int32 → Option (Int32)
  | 0, _, _, _, _ => none
  | n + 1, a0, a1, a2, a3 =>
    gs h a0 5 <|
    if (hI h a0 1) ≤ a3 then
      some (-1 : Int32)
    else
      bd (f_X6_get h a0 a3 (0 : Int32)) fun v3 =>
      if ¬ v3 = a1 then
        f_X6_placeOfWords_L42 h (f_X6_placeOfWords_L2 h n) a0 a1 a2 a3
      else
        bd (f_X6_get h a0 a3 (3 : Int32)) fun v5 =>
        if ¬ v5 = a2 then
          f_X6_placeOfWords_L42 h (f_X6_placeOfWords_L2 h n) a0 a1 a2 a3
        else
          bd (f_X6_get h a0 a3 (4 : Int32)) fun v7 =>
          if ¬ v7 = (1 : Int32) then
            f_X6_placeOfWords_L42 h (f_X6_placeOfWords_L2 h n) a0 a1 a2 a3
          else
            some a3
def f_X6_placeOfWords (h : AH) (a0 : Nat) (a1 : Int32) (a2 : Int32) : Option (Int32) :=
  lt ((0 : Int32)) fun x1 =>
  f_X6_placeOfWords_L2 h FU a0 a1 a2 x1
def f_X8_init (h : AH) (a0 : Nat) : Option (AH) :=
  gs h a0 7 <|
  lt (hNew h 23 (1500 : Int32).toNatClampNeg (1500 : Int32).toNatClampNeg) fun h2 =>
  gs h2 a0 7 <|
  lt (sR h2 a0 0 (hZ h + 1)) fun h4 =>
  some h4
def f_X8_append_L75 : Nat → AH → Nat → Int64 → Int32 → Option (Int32 × AH)
  | 0, _, _, _, _ => none
  | n + 1, h, a0, a1, a4 =>
    if a4 < 0 then
      some ((1 : Int32), h)
    else
      gs h a0 7 <|
      gs h (hR h a0 0) 23 <|
      gb (ib (hI h a0 1) (hN h (hR h a0 0))) <|
      lt (sI h (hR h a0 0) (hI h a0 1).toNatClampNeg ((ji2c (((jlushr a1 ((8 : Int32) * a4)) &&& (255 : Int64)).toInt32)).toUInt32.toUInt16.toUInt32.toInt32)) fun h5 =>
      lt (sI h5 a0 1 ((hI h5 a0 1) + (1 : Int32))) fun h7 =>
      lt (a4 + (-1 : Int32)) fun x8 =>
      f_X8_append_L75 n h7 a0 a1 x8
def f_X8_append_L28 : Nat → AH → Nat → Int64 → Int32 → Int32 → Option (Int32 × AH)
  | 0, _, _, _, _, _ => none
  | n + 1, h, a0, a1, a3, a4 =>
    if a3 ≤ a4 then
      lt ((a3 - (1 : Int32))) fun x2 =>
      f_X8_append_L75 FU h a0 a1 x2
    else
      lt ((((jlushr a1 ((8 : Int32) * a4)).toInt32) &&& (255 : Int32))) fun x3 =>
      if x3 < (32 : Int32) then
        some ((0 : Int32), h)
      else
        if x3 ≤ (126 : Int32) then
          lt (a4 + (1 : Int32)) fun x6 =>
          f_X8_append_L28 n h a0 a1 a3 x6
        else
          some ((0 : Int32), h)
def f_X8_append (h : AH) (a0 : Nat) (a1 : Int64) (a3 : Int32) : Option (Int32 × AH) :=
  if a3 < (1 : Int32) then
    some ((0 : Int32), h)
  else
    if (8 : Int32) < a3 then
      some ((0 : Int32), h)
    else
      gs h a0 7 <|
      if ((hI h a0 1) + a3) ≤ (1500 : Int32) then
        lt ((0 : Int32)) fun x5 =>
        f_X8_append_L28 FU h a0 a1 a3 x5
      else
        some ((0 : Int32), h)
def f_X8_clear (h : AH) (a0 : Nat) : Option (AH) :=
  gs h a0 7 <|
  lt (sI h a0 1 (0 : Int32)) fun h2 =>
  some h2
def f_X8_digitsBehind_L12 (h : AH)  : Option (Int32) :=
  some (1 : Int32)
def f_X8_digitsBehind_L28 (h : AH)  : Option (Int32) :=
  some (2 : Int32)
def f_X8_digitsBehind (h : AH) (a0 : Int32) : Option (Int32) :=
  if a0 = (115 : Int32) then
    f_X8_digitsBehind_L12 h 
  else
    if ¬ a0 = (100 : Int32) then
      if a0 = (109 : Int32) then
        f_X8_digitsBehind_L28 h 
      else
        if ¬ a0 = (114 : Int32) then
          some (0 : Int32)
        else
          f_X8_digitsBehind_L28 h 
    else
      f_X8_digitsBehind_L12 h 
def f_X8_digit_L17 (h : AH) (a0 : Int32) : Option (Int32) :=
  if a0 < (97 : Int32) then
    some (-1 : Int32)
  else
    if (102 : Int32) < a0 then
      some (-1 : Int32)
    else
      some ((a0 - (97 : Int32)) + (10 : Int32))
def f_X8_digit (h : AH) (a0 : Int32) : Option (Int32) :=
  if a0 < (48 : Int32) then
    f_X8_digit_L17 h a0
  else
    if (57 : Int32) < a0 then
      f_X8_digit_L17 h a0
    else
      some (a0 - (48 : Int32))
def f_X8_scheduleFault_L120 (h : AH) (k2 : Nat → Int32 → Option (Int32)) (a0 : Nat) (a1 : Int32) : Option (Int32) :=
  lt (a1 + (1 : Int32)) fun x1 =>
  k2 a0 x1
def f_X8_scheduleFault_L108 (h : AH) (a3 : Int32) : Option (Int32) :=
  some a3
def f_X8_scheduleFault_L72 (h : AH) (k2 : Nat → Int32 → Option (Int32)) (k41 : Nat → Int32 → Int32 → Int32 → Option (Int32)) (a0 : Nat) (a1 : Int32) (a2 : Int32) (a3 : Int32) (s0 : Int32) : Option (Int32) :=
  gs h a0 7 <|
  if (hI h a0 1) ≤ a3 then
    f_X8_scheduleFault_L108 h a3
  else
    gs h (hR h a0 0) 23 <|
    gb (ib a3 (hN h (hR h a0 0))) <|
    bd (f_X8_digit h (hI h (hR h a0 0) a3.toNatClampNeg)) fun v5 =>
    if v5 < 0 then
      f_X8_scheduleFault_L108 h a3
    else
      gb (ib a3 (hN h (hR h a0 0))) <|
      bd (f_X8_digit h (hI h (hR h a0 0) a3.toNatClampNeg)) fun v8 =>
      if v8 ≤ s0 then
        lt (a3 + (1 : Int32)) fun x10 =>
        k41 a0 a1 a2 x10
      else
        f_X8_scheduleFault_L108 h a3
def f_X8_scheduleFault_L70 (h : AH) (k2 : Nat → Int32 → Option (Int32)) (k41 : Nat → Int32 → Int32 → Int32 → Option (Int32)) (a0 : Nat) (a1 : Int32) (a2 : Int32) (a3 : Int32) : Option (Int32) :=
  f_X8_scheduleFault_L72 h k2 k41 a0 a1 a2 a3 (15 : Int32)
def f_X8_scheduleFault_L41 (h : AH) (k2 : Nat → Int32 → Option (Int32)) : Nat → Nat → Int32 → Int32 → Int32 → Option (Int32)
  | 0, _, _, _, _ => none
  | n + 1, a0, a1, a2, a3 =>
    if (a1 + a2) < a3 then
      lt ((a1 + a2)) fun x2 =>
      f_X8_scheduleFault_L120 h k2 a0 x2
    else
      gs h a0 7 <|
      gs h (hR h a0 0) 23 <|
      gb (ib a1 (hN h (hR h a0 0))) <|
      if ¬ (hI h (hR h a0 0) a1.toNatClampNeg) = (114 : Int32) then
        f_X8_scheduleFault_L70 h k2 (f_X8_scheduleFault_L41 h k2 n) a0 a1 a2 a3
      else
        if ¬ a3 = (a1 + (1 : Int32)) then
          f_X8_scheduleFault_L70 h k2 (f_X8_scheduleFault_L41 h k2 n) a0 a1 a2 a3
        else
          f_X8_scheduleFault_L72 h k2 (f_X8_scheduleFault_L41 h k2 n) a0 a1 a2 a3 (2 : Int32)
def f_X8_scheduleFault_L2 (h : AH) : Nat → Nat → Int32 → Option (Int32)
  | 0, _, _ => none
  | n + 1, a0, a1 =>
    gs h a0 7 <|
    if (hI h a0 1) ≤ a1 then
      some (-1 : Int32)
    else
      gs h (hR h a0 0) 23 <|
      gb (ib a1 (hN h (hR h a0 0))) <|
      if (hI h (hR h a0 0) a1.toNatClampNeg) = (32 : Int32) then
        f_X8_scheduleFault_L120 h (f_X8_scheduleFault_L2 h n) a0 a1
      else
        gb (ib a1 (hN h (hR h a0 0))) <|
        bd (f_X8_digitsBehind h (hI h (hR h a0 0) a1.toNatClampNeg)) fun v7 =>
        if ¬ v7 = 0 then
          lt ((a1 + (1 : Int32))) fun x9 =>
          f_X8_scheduleFault_L41 h (f_X8_scheduleFault_L2 h n) FU a0 a1 v7 x9
        else
          some a1
def f_X8_scheduleFault (h : AH) (a0 : Nat) : Option (Int32) :=
  lt ((0 : Int32)) fun x1 =>
  f_X8_scheduleFault_L2 h FU a0 x1
def f_X9_has (h : AH) (a0 : Nat) (a1 : Int32) : Option (Int32) :=
  if a1 < 0 then
    some (0 : Int32)
  else
    if (32 : Int32) ≤ a1 then
      some (0 : Int32)
    else
      gs h a0 8 <|
      if (hI h a0 1) ≤ a1 then
        some (0 : Int32)
      else
        some (1 : Int32)
def f_X9_get (h : AH) (a0 : Nat) (a1 : Int32) (a2 : Int32) : Option (Int32) :=
  gs h a0 8 <|
  gs h (hR h a0 0) 21 <|
  gb (ib ((((((hI h a0 1) - (1 : Int32)) - a1) - (((hI h a0 1) - (1 : Int32)) - a1) / (32 : Int32) * (32 : Int32)) * (8 : Int32)) + a2) (hN h (hR h a0 0))) <|
  some (hI h (hR h a0 0) ((((((hI h a0 1) - (1 : Int32)) - a1) - (((hI h a0 1) - (1 : Int32)) - a1) / (32 : Int32) * (32 : Int32)) * (8 : Int32)) + a2).toNatClampNeg)
def f_X10_init_L131 : Nat → AH → Nat → Int32 → Option (AH)
  | 0, _, _, _ => none
  | n + 1, h, a0, a1 =>
    if (16 : Int32) ≤ a1 then
      some h
    else
      gs h a0 9 <|
      lt (hNew h 3 0 17) fun h3 =>
      gs h3 a0 9 <|
      bd (f_X3_init h3 (hZ h + 1) a1 (hR h3 a0 2)) fun q6 =>
      gs q6 (hR h a0 4) 25 <|
      gb (ib a1 (hN q6 (hR h a0 4))) <|
      gs q6 (hZ h + 1) 3 <|
      lt (sR q6 (hR h a0 4) a1.toNatClampNeg (hZ h + 1)) fun h10 =>
      lt (a1 + (1 : Int32)) fun x11 =>
      f_X10_init_L131 n h10 a0 x11
def f_X10_init_L106 (h : AH) (a0 : Nat) (s0 : Nat) (s1 : Nat) : Option (AH) :=
  gs h s1 21 <|
  gb (ib (1 : Int32) (hN h s1)) <|
  lt (sI h s1 (1 : Int32).toNatClampNeg (1 : Int32)) fun h3 =>
  gb (ib (2 : Int32) (hN h3 s1)) <|
  lt (sI h3 s1 (2 : Int32).toNatClampNeg (1 : Int32)) fun h6 =>
  gb (ib (3 : Int32) (hN h6 s1)) <|
  lt (sI h6 s1 (3 : Int32).toNatClampNeg (1 : Int32)) fun h9 =>
  gb (ib (4 : Int32) (hN h9 s1)) <|
  lt (sI h9 s1 (4 : Int32).toNatClampNeg (1 : Int32)) fun h12 =>
  gb (ib (5 : Int32) (hN h12 s1)) <|
  lt (sI h12 s1 (5 : Int32).toNatClampNeg (1 : Int32)) fun h15 =>
  gs h15 s0 9 <|
  lt (sR h15 s0 6 s1) fun h17 =>
  lt ((0 : Int32)) fun x18 =>
  f_X10_init_L131 FU h17 a0 x18
def f_X10_init (h : AH) (a0 : Nat) : Option (AH) :=
  gs h a0 9 <|
  lt (hNew h 7 0 6) fun h2 =>
  bd (f_X8_init h2 (hZ h + 1)) fun q4 =>
  gs q4 a0 9 <|
  lt (sR q4 a0 0 (hZ h + 1)) fun h6 =>
  lt (hNew h6 1 0 18) fun h7 =>
  gs h7 a0 9 <|
  bd (f_X1_init h7 (hZ h6 + 1) (hR h7 a0 0)) fun q10 =>
  gs q10 a0 9 <|
  lt (sR q10 a0 1 (hZ h6 + 1)) fun h12 =>
  lt (hNew h12 5 0 4) fun h13 =>
  bd (f_X6_init h13 (hZ h12 + 1)) fun q15 =>
  gs q15 a0 9 <|
  lt (sR q15 a0 2 (hZ h12 + 1)) fun h17 =>
  lt (hNew h17 4 0 17) fun h18 =>
  gs h18 a0 9 <|
  bd (f_X4_init h18 (hZ h17 + 1) (hR h18 a0 2)) fun q21 =>
  gs q21 a0 9 <|
  lt (sR q21 a0 3 (hZ h17 + 1)) fun h23 =>
  lt (hNew h23 25 (16 : Int32).toNatClampNeg (16 : Int32).toNatClampNeg) fun h24 =>
  gs h24 a0 9 <|
  lt (sR h24 a0 4 (hZ h23 + 1)) fun h26 =>
  lt (hNew h26 21 (6 : Int32).toNatClampNeg (6 : Int32).toNatClampNeg) fun h27 =>
  gb (ib (0 : Int32) (hN h27 (hZ h26 + 1))) <|
  lt (sI h27 (hZ h26 + 1) (0 : Int32).toNatClampNeg (1 : Int32)) fun h30 =>
  gb (ib (1 : Int32) (hN h30 (hZ h26 + 1))) <|
  lt (sI h30 (hZ h26 + 1) (1 : Int32).toNatClampNeg (1 : Int32)) fun h33 =>
  gb (ib (2 : Int32) (hN h33 (hZ h26 + 1))) <|
  lt (sI h33 (hZ h26 + 1) (2 : Int32).toNatClampNeg (1 : Int32)) fun h36 =>
  gb (ib (3 : Int32) (hN h36 (hZ h26 + 1))) <|
  lt (sI h36 (hZ h26 + 1) (3 : Int32).toNatClampNeg (1 : Int32)) fun h39 =>
  gb (ib (4 : Int32) (hN h39 (hZ h26 + 1))) <|
  lt (sI h39 (hZ h26 + 1) (4 : Int32).toNatClampNeg (1 : Int32)) fun h42 =>
  gb (ib (5 : Int32) (hN h42 (hZ h26 + 1))) <|
  lt (sI h42 (hZ h26 + 1) (5 : Int32).toNatClampNeg (1 : Int32)) fun h45 =>
  gs h45 a0 9 <|
  lt (sR h45 a0 5 (hZ h26 + 1)) fun h47 =>
  lt (hNew h47 21 (6 : Int32).toNatClampNeg (6 : Int32).toNatClampNeg) fun h48 =>
  gb (ib (0 : Int32) (hN h48 (hZ h47 + 1))) <|
  lt (sI h48 (hZ h47 + 1) (0 : Int32).toNatClampNeg (1 : Int32)) fun h51 =>
  f_X10_init_L106 h51 a0 a0 (hZ h47 + 1)
def f_X10_type (h : AH) (a0 : Nat) (a1 : Int64) (a3 : Int32) : Option (Int32 × AH) :=
  gs h a0 9 <|
  gs h (hR h a0 0) 7 <|
  bd (f_X8_append h (hR h a0 0) a1 a3) fun q3 =>
  gb (q3.1 == 0 || q3.1 == 1) <|
  some (q3.1, q3.2)
def f_X10_isPower (h : AH) (a0 : Int32) (a1 : Int32) : Option (Int32) :=
  if a0 < (1 : Int32) then
    some (0 : Int32)
  else
    if a1 < a0 then
      some (0 : Int32)
    else
      if ¬ (a0 &&& (a0 - (1 : Int32))) = 0 then
        some (0 : Int32)
      else
        some (1 : Int32)
def f_X10_sizes_L104 (h : AH) (a0 : Nat) (a4 : Int32) (a5 : Int32) (a6 : Int32) : Option (Int32 × AH) :=
  gs h a0 9 <|
  gs h (hR h a0 6) 21 <|
  gb (ib (3 : Int32) (hN h (hR h a0 6))) <|
  lt (sI h (hR h a0 6) (3 : Int32).toNatClampNeg a4) fun h4 =>
  gs h4 (hR h4 a0 6) 21 <|
  gb (ib (4 : Int32) (hN h4 (hR h4 a0 6))) <|
  lt (sI h4 (hR h4 a0 6) (4 : Int32).toNatClampNeg a5) fun h8 =>
  gs h8 (hR h8 a0 6) 21 <|
  gb (ib (5 : Int32) (hN h8 (hR h8 a0 6))) <|
  lt (sI h8 (hR h8 a0 6) (5 : Int32).toNatClampNeg a6) fun h12 =>
  some ((1 : Int32), h12)
def f_X10_sizes (h : AH) (a0 : Nat) (a1 : Int32) (a2 : Int32) (a3 : Int32) (a4 : Int32) (a5 : Int32) (a6 : Int32) : Option (Int32 × AH) :=
  if a1 < (1 : Int32) then
    some ((0 : Int32), h)
  else
    if (16 : Int32) < a1 then
      some ((0 : Int32), h)
    else
      if a2 < (1 : Int32) then
        some ((0 : Int32), h)
      else
        if a2 ≤ (16 : Int32) then
          bd (f_X10_isPower h a3 (8 : Int32)) fun v5 =>
          if v5 = 0 then
            some ((0 : Int32), h)
          else
            bd (f_X10_isPower h a4 (4 : Int32)) fun v7 =>
            if v7 = 0 then
              some ((0 : Int32), h)
            else
              bd (f_X10_isPower h a5 (64 : Int32)) fun v9 =>
              if v9 = 0 then
                some ((0 : Int32), h)
              else
                if a6 < (1 : Int32) then
                  some ((0 : Int32), h)
                else
                  if a6 ≤ (8 : Int32) then
                    if ((a1 * a3) * a4) ≤ (a5 * a6) then
                      gs h a0 9 <|
                      gs h (hR h a0 6) 21 <|
                      gb (ib (0 : Int32) (hN h (hR h a0 6))) <|
                      lt (sI h (hR h a0 6) (0 : Int32).toNatClampNeg a1) fun h17 =>
                      gs h17 (hR h17 a0 6) 21 <|
                      gb (ib (1 : Int32) (hN h17 (hR h17 a0 6))) <|
                      lt (sI h17 (hR h17 a0 6) (1 : Int32).toNatClampNeg a2) fun h21 =>
                      gs h21 (hR h21 a0 6) 21 <|
                      gb (ib (2 : Int32) (hN h21 (hR h21 a0 6))) <|
                      lt (sI h21 (hR h21 a0 6) (2 : Int32).toNatClampNeg a3) fun h25 =>
                      f_X10_sizes_L104 h25 a0 a4 a5 a6
                    else
                      some ((0 : Int32), h)
                  else
                    some ((0 : Int32), h)
        else
          some ((0 : Int32), h)
def f_X10_beginAnew_L60 : Nat → AH → Nat → Int32 → Option (AH)
  | 0, _, _, _ => none
  | n + 1, h, a0, a1 =>
    if (16 : Int32) ≤ a1 then
      gs h a0 9 <|
      lt (sI h a0 9 (0 : Int32)) fun h3 =>
      lt (sI h3 a0 10 (0 : Int32)) fun h5 =>
      some h5
    else
      gs h a0 9 <|
      gs h (hR h a0 4) 25 <|
      gb (ib a1 (hN h (hR h a0 4))) <|
      gs h (hR h a0 1) 1 <|
      gs h (hR h (hR h a0 1) 15) 21 <|
      gb (ib a1 (hN h (hR h (hR h a0 1) 15))) <|
      gs h (hR h a0 5) 21 <|
      gb (ib (1 : Int32) (hN h (hR h a0 5))) <|
      gb (ib (2 : Int32) (hN h (hR h a0 5))) <|
      gb (ib (3 : Int32) (hN h (hR h a0 5))) <|
      gs h (hR h (hR h a0 4) a1.toNatClampNeg) 3 <|
      bd (f_X3_begin h (hR h (hR h a0 4) a1.toNatClampNeg) (hI h (hR h (hR h a0 1) 15) a1.toNatClampNeg) (hI h (hR h a0 5) (1 : Int32).toNatClampNeg) (hI h (hR h a0 5) (2 : Int32).toNatClampNeg) (hI h (hR h a0 5) (3 : Int32).toNatClampNeg)) fun q17 =>
      lt (a1 + (1 : Int32)) fun x18 =>
      f_X10_beginAnew_L60 n q17 a0 x18
def f_X10_beginAnew (h : AH) (a0 : Nat) : Option (AH) :=
  gs h a0 9 <|
  gs h (hR h a0 5) 21 <|
  gs h (hR h a0 6) 21 <|
  gb (cpok (0 : Int32) (0 : Int32) (nI (hN h (hR h a0 5))) (hN h (hR h a0 6)) (hN h (hR h a0 5))) <|
  lt (sA h (hR h a0 5) (va_cpy (hI h (hR h a0 6)) (hI h (hR h a0 5)) (0 : Int32).toNatClampNeg (0 : Int32).toNatClampNeg (nI (hN h (hR h a0 5))).toNatClampNeg)) fun h5 =>
  gs h5 (hR h5 a0 2) 5 <|
  bd (f_X6_clear h5 (hR h5 a0 2)) fun q8 =>
  gs q8 a0 9 <|
  gs q8 (hR q8 a0 5) 21 <|
  gb (ib (4 : Int32) (hN q8 (hR q8 a0 5))) <|
  gb (ib (5 : Int32) (hN q8 (hR q8 a0 5))) <|
  gs q8 (hR q8 a0 3) 4 <|
  bd (f_X4_begin q8 (hR q8 a0 3) (hI q8 (hR q8 a0 5) (4 : Int32).toNatClampNeg) (hI q8 (hR q8 a0 5) (5 : Int32).toNatClampNeg)) fun q14 =>
  gs q14 a0 9 <|
  gs q14 (hR q14 a0 3) 4 <|
  gs q14 (hR q14 a0 1) 1 <|
  bd (f_X1_emit q14 (hR q14 a0 1) (hR q14 (hR q14 a0 3) 1)) fun q18 =>
  lt ((0 : Int32)) fun x19 =>
  f_X10_beginAnew_L60 FU q18 a0 x19
def f_X10_fault (h : AH) (a0 : Nat) (a1 : Int32) : Option (Int32) :=
  if ¬ a1 = 0 then
    if ¬ a1 = (1 : Int32) then
      some (-1 : Int32)
    else
      gs h a0 9 <|
      some (hI h a0 8)
  else
    gs h a0 9 <|
    some (hI h a0 7)
def f_X10_isCore (h : AH) (a0 : Nat) (a1 : Int32) : Option (Int32) :=
  if a1 < 0 then
    some (0 : Int32)
  else
    gs h a0 9 <|
    gs h (hR h a0 5) 21 <|
    gb (ib (0 : Int32) (hN h (hR h a0 5))) <|
    if (hI h (hR h a0 5) (0 : Int32).toNatClampNeg) ≤ a1 then
      some (0 : Int32)
    else
      some (1 : Int32)
def f_X10_carry (h : AH) (a0 : Nat) (a1 : Int32) : Option (Int32 × AH) :=
  gs h a0 9 <|
  gs h (hR h a0 2) 5 <|
  bd (f_X6_takeOut h (hR h a0 2) a1) fun q3 =>
  if ¬ q3.1 = 0 then
    gs q3.2 a0 9 <|
    gs q3.2 (hR q3.2 a0 2) 5 <|
    gs q3.2 (hR q3.2 (hR q3.2 a0 2) 3) 21 <|
    gb (ib (2 : Int32) (hN q3.2 (hR q3.2 (hR q3.2 a0 2) 3))) <|
    lt ((hI q3.2 (hR q3.2 (hR q3.2 a0 2) 3) (2 : Int32).toNatClampNeg)) fun x9 =>
    if ¬ x9 = (16 : Int32) then
      bd (f_X10_isCore q3.2 a0 x9) fun v11 =>
      if v11 = 0 then
        some ((1 : Int32), q3.2)
      else
        gs q3.2 (hR q3.2 a0 4) 25 <|
        gb (ib x9 (hN q3.2 (hR q3.2 a0 4))) <|
        gs q3.2 (hR q3.2 (hR q3.2 a0 4) x9.toNatClampNeg) 3 <|
        bd (f_X3_receive q3.2 (hR q3.2 (hR q3.2 a0 4) x9.toNatClampNeg) (hR q3.2 (hR q3.2 a0 2) 3)) fun q16 =>
        some ((1 : Int32), q16)
    else
      gs q3.2 (hR q3.2 a0 3) 4 <|
      bd (f_X4_receive q3.2 (hR q3.2 a0 3) (hR q3.2 (hR q3.2 a0 2) 3)) fun q18 =>
      some ((1 : Int32), q18)
  else
    some ((0 : Int32), q3.2)
def f_X10_deliver (h : AH) (a0 : Nat) (a1 : Int32) : Option (Int32 × AH) :=
  gs h a0 9 <|
  bd (f_X10_carry h a0 a1) fun q2 =>
  gb (q2.1 == 0 || q2.1 == 1) <|
  some (q2.1, q2.2)
def f_X10_deliverOn (h : AH) (a0 : Nat) (a1 : Int32) (a2 : Int32) : Option (Int32 × AH) :=
  gs h a0 9 <|
  gs h (hR h a0 2) 5 <|
  bd (f_X6_placeOn h (hR h a0 2) a1 a2) fun v3 =>
  bd (f_X10_carry h a0 v3) fun q4 =>
  gb (q4.1 == 0 || q4.1 == 1) <|
  some (q4.1, q4.2)
def f_X10_retired_L4 (h : AH) : Nat → Nat → Int32 → Int32 → Option (Int32)
  | 0, _, _, _ => none
  | n + 1, a0, a1, a2 =>
    gs h a0 9 <|
    gs h (hR h a0 5) 21 <|
    gb (ib (0 : Int32) (hN h (hR h a0 5))) <|
    if (hI h (hR h a0 5) (0 : Int32).toNatClampNeg) ≤ a2 then
      some a1
    else
      gs h (hR h a0 4) 25 <|
      gb (ib a2 (hN h (hR h a0 4))) <|
      gs h (hR h (hR h a0 4) a2.toNatClampNeg) 3 <|
      gs h (hR h (hR h (hR h a0 4) a2.toNatClampNeg) 7) 8 <|
      lt ((a1 + (hI h (hR h (hR h (hR h a0 4) a2.toNatClampNeg) 7) 1))) fun x9 =>
      lt (a2 + (1 : Int32)) fun x10 =>
      f_X10_retired_L4 h n a0 x9 x10
def f_X10_retired (h : AH) (a0 : Nat) : Option (Int32) :=
  lt ((0 : Int32)) fun x1 =>
  lt ((0 : Int32)) fun x2 =>
  f_X10_retired_L4 h FU a0 x1 x2
def f_X10_changed_L4 (h : AH) : Nat → Nat → Int32 → Int32 → Option (Int32)
  | 0, _, _, _ => none
  | n + 1, a0, a1, a2 =>
    gs h a0 9 <|
    gs h (hR h a0 5) 21 <|
    gb (ib (0 : Int32) (hN h (hR h a0 5))) <|
    if (hI h (hR h a0 5) (0 : Int32).toNatClampNeg) ≤ a2 then
      some a1
    else
      gs h (hR h a0 4) 25 <|
      gb (ib a2 (hN h (hR h a0 4))) <|
      gs h (hR h (hR h a0 4) a2.toNatClampNeg) 3 <|
      lt ((a1 + (hI h (hR h (hR h a0 4) a2.toNatClampNeg) 15))) fun x8 =>
      lt (a2 + (1 : Int32)) fun x9 =>
      f_X10_changed_L4 h n a0 x8 x9
def f_X10_changed (h : AH) (a0 : Nat) : Option (Int32) :=
  lt ((0 : Int32)) fun x1 =>
  lt ((0 : Int32)) fun x2 =>
  f_X10_changed_L4 h FU a0 x1 x2
def f_X10_growWaits_L2 : Nat → AH → Nat → Int32 → Option (AH)
  | 0, _, _, _ => none
  | n + 1, h, a0, a1 =>
    gs h a0 9 <|
    gs h (hR h a0 5) 21 <|
    gb (ib (0 : Int32) (hN h (hR h a0 5))) <|
    if (hI h (hR h a0 5) (0 : Int32).toNatClampNeg) ≤ a1 then
      some h
    else
      gs h (hR h a0 4) 25 <|
      gb (ib a1 (hN h (hR h a0 4))) <|
      gs h (hR h (hR h a0 4) a1.toNatClampNeg) 3 <|
      bd (f_X3_growWaits h (hR h (hR h a0 4) a1.toNatClampNeg)) fun q8 =>
      lt (a1 + (1 : Int32)) fun x9 =>
      f_X10_growWaits_L2 n q8 a0 x9
def f_X10_growWaits (h : AH) (a0 : Nat) : Option (AH) :=
  lt ((0 : Int32)) fun x1 =>
  f_X10_growWaits_L2 FU h a0 x1
def f_X10_cached (h : AH) (a0 : Nat) (a1 : Int32) (a2 : Int32) : Option (Int32) :=
  gs h a0 9 <|
  bd (f_X10_isCore h a0 a1) fun v2 =>
  if v2 = 0 then
    some (-1 : Int32)
  else
    if a2 < 0 then
      some (-1 : Int32)
    else
      if a2 < (512 : Int32) then
        gs h (hR h a0 4) 25 <|
        gb (ib a1 (hN h (hR h a0 4))) <|
        gs h (hR h (hR h a0 4) a1.toNatClampNeg) 3 <|
        gs h (hR h (hR h (hR h a0 4) a1.toNatClampNeg) 6) 2 <|
        bd (f_X2_find h (hR h (hR h (hR h a0 4) a1.toNatClampNeg) 6) a2) fun v10 =>
        if 0 ≤ v10 then
          gb (ib a1 (hN h (hR h a0 4))) <|
          gs h (hR h (hR h (hR h (hR h a0 4) a1.toNatClampNeg) 6) 1) 21 <|
          gb (ib v10 (hN h (hR h (hR h (hR h (hR h a0 4) a1.toNatClampNeg) 6) 1))) <|
          some (hI h (hR h (hR h (hR h (hR h a0 4) a1.toNatClampNeg) 6) 1) v10.toNatClampNeg)
        else
          some (0 : Int32)
      else
        some (-1 : Int32)
def f_X10_isWord (h : AH) (a0 : Int32) : Option (Int32) :=
  if a0 < 0 then
    some (0 : Int32)
  else
    if (8192 : Int32) ≤ a0 then
      some (0 : Int32)
    else
      if ¬ (a0 &&& (3 : Int32)) = 0 then
        some (0 : Int32)
      else
        some (1 : Int32)
def f_X10_waiting (h : AH) (a0 : Nat) (a1 : Int32) : Option (Int32) :=
  if a1 < 0 then
    some (-1 : Int32)
  else
    gs h a0 9 <|
    gs h (hR h a0 3) 4 <|
    if (hI h (hR h a0 3) 13) ≤ a1 then
      some (-1 : Int32)
    else
      bd (f_X4_countAt h (hR h a0 3) a1) fun v5 =>
      some v5
def f_X10_lent_L77 (h : AH) (a0 : Nat) (a2 : Int32) (a3 : Int32) (a4 : Int32) : Option (Int32) :=
  gs h a0 9 <|
  gs h (hR h a0 2) 5 <|
  bd (f_X6_placeOfWords h (hR h a0 2) (5 : Int32) a4) fun v3 =>
  if v3 < 0 then
    gs h (hR h a0 3) 4 <|
    bd (f_X10_wordOf h a2 a3) fun v6 =>
    gs h (hR h (hR h a0 3) 10) 21 <|
    gb (ib v6 (hN h (hR h (hR h a0 3) 10))) <|
    some (hI h (hR h (hR h a0 3) 10) v6.toNatClampNeg)
  else
    bd (f_X6_get h (hR h a0 2) v3 ((5 : Int32) + ((a3 >>> ((2 : Int32) &&& 31)) &&& (3 : Int32)))) fun v9 =>
    some v9
def f_X10_lent_L50 (h : AH) (a0 : Nat) (a1 : Nat) (a2 : Int32) (a3 : Int32) (a4 : Int32) : Option (Int32) :=
  gs h a1 3 <|
  if ¬ (hI h a1 8) = a4 then
    f_X10_lent_L77 h a0 a2 a3 a4
  else
    if ¬ (hI h a1 9) = 0 then
      f_X10_lent_L77 h a0 a2 a3 a4
    else
      gs h (hR h a1 10) 21 <|
      gb (ib ((a3 >>> ((2 : Int32) &&& 31)) &&& (3 : Int32)) (hN h (hR h a1 10))) <|
      some (hI h (hR h a1 10) ((a3 >>> ((2 : Int32) &&& 31)) &&& (3 : Int32)).toNatClampNeg)
def f_X10_lent (h : AH) (a0 : Nat) (a1 : Nat) (a2 : Int32) (a3 : Int32) : Option (Int32) :=
  lt ((a3 >>> ((4 : Int32) &&& 31))) fun x1 =>
  gs h a1 3 <|
  gs h (hR h a1 6) 2 <|
  bd (f_X2_find h (hR h a1 6) x1) fun v4 =>
  if v4 < 0 then
    f_X10_lent_L50 h a0 a1 a2 a3 x1
  else
    gs h (hR h (hR h a1 6) 1) 21 <|
    gb (ib v4 (hN h (hR h (hR h a1 6) 1))) <|
    if (hI h (hR h (hR h a1 6) 1) v4.toNatClampNeg) < (2 : Int32) then
      f_X10_lent_L50 h a0 a1 a2 a3 x1
    else
      bd (f_X10_wordOf h v4 a3) fun v9 =>
      gs h (hR h (hR h a1 6) 3) 21 <|
      gb (ib v9 (hN h (hR h (hR h a1 6) 3))) <|
      some (hI h (hR h (hR h a1 6) 3) v9.toNatClampNeg)
def f_X10_total (h : AH) (a0 : Nat) (a1 : Int32) : Option (Int32) :=
  if a1 = (0 : Int32) then
    gs h a0 9 <|
    gs h (hR h a0 5) 21 <|
    gb (ib (0 : Int32) (hN h (hR h a0 5))) <|
    some (hI h (hR h a0 5) (0 : Int32).toNatClampNeg)
  else
    if a1 = (1 : Int32) then
      gs h a0 9 <|
      gs h (hR h a0 2) 5 <|
      some (hI h (hR h a0 2) 1)
    else
      if a1 = (2 : Int32) then
        gs h a0 9 <|
        bd (f_X10_retired h a0) fun v10 =>
        some v10
      else
        if a1 = (3 : Int32) then
          gs h a0 9 <|
          gs h (hR h a0 2) 5 <|
          some (hI h (hR h a0 2) 2)
        else
          if a1 = (4 : Int32) then
            gs h a0 9 <|
            bd (f_X10_changed h a0) fun v16 =>
            some v16
          else
            if a1 = (5 : Int32) then
              gs h a0 9 <|
              gs h (hR h a0 3) 4 <|
              some (hI h (hR h a0 3) 16)
            else
              if a1 = (6 : Int32) then
                gs h a0 9 <|
                gs h (hR h a0 3) 4 <|
                bd (f_X4_countLines h (hR h a0 3)) fun v23 =>
                some v23
              else
                if a1 = (7 : Int32) then
                  gs h a0 9 <|
                  gs h (hR h a0 5) 21 <|
                  gb (ib (a1 - (6 : Int32)) (hN h (hR h a0 5))) <|
                  some (hI h (hR h a0 5) (a1 - (6 : Int32)).toNatClampNeg)
                else
                  if a1 = (8 : Int32) then
                    gs h a0 9 <|
                    gs h (hR h a0 5) 21 <|
                    gb (ib (a1 - (6 : Int32)) (hN h (hR h a0 5))) <|
                    some (hI h (hR h a0 5) (a1 - (6 : Int32)).toNatClampNeg)
                  else
                    if a1 = (9 : Int32) then
                      gs h a0 9 <|
                      gs h (hR h a0 5) 21 <|
                      gb (ib (a1 - (6 : Int32)) (hN h (hR h a0 5))) <|
                      some (hI h (hR h a0 5) (a1 - (6 : Int32)).toNatClampNeg)
                    else
                      if a1 = (10 : Int32) then
                        gs h a0 9 <|
                        gs h (hR h a0 5) 21 <|
                        gb (ib (a1 - (6 : Int32)) (hN h (hR h a0 5))) <|
                        some (hI h (hR h a0 5) (a1 - (6 : Int32)).toNatClampNeg)
                      else
                        if a1 = (11 : Int32) then
                          gs h a0 9 <|
                          gs h (hR h a0 5) 21 <|
                          gb (ib (a1 - (6 : Int32)) (hN h (hR h a0 5))) <|
                          some (hI h (hR h a0 5) (a1 - (6 : Int32)).toNatClampNeg)
                        else
                          if a1 = (12 : Int32) then
                            gs h a0 9 <|
                            some (hI h a0 9)
                          else
                            if a1 = (13 : Int32) then
                              gs h a0 9 <|
                              some (hI h a0 10)
                            else
                              some (-1 : Int32)
def f_X11_clear_L212 (h : AH) (a0 : Nat) : Option (AH) :=
  gs h a0 10 <|
  lt (sI h a0 59 (0 : Int32)) fun h2 =>
  lt (sI h2 a0 62 (0 : Int32)) fun h4 =>
  lt (sI h4 a0 63 (0 : Int32)) fun h6 =>
  lt (sI h6 a0 64 (0 : Int32)) fun h8 =>
  lt (sI h8 a0 65 (0 : Int32)) fun h10 =>
  lt (sI h10 a0 66 (0 : Int32)) fun h12 =>
  lt (sI h12 a0 67 (0 : Int32)) fun h14 =>
  some h14
def f_X11_clear_L120 : Nat → AH → Nat → Int32 → Option (AH)
  | 0, _, _, _ => none
  | n + 1, h, a0, a1 =>
    if (16 : Int32) ≤ a1 then
      gs h a0 10 <|
      lt (sI h a0 47 (0 : Int32)) fun h3 =>
      lt (sI h3 a0 57 (0 : Int32)) fun h5 =>
      f_X11_clear_L212 h5 a0
    else
      gs h a0 10 <|
      gs h (hR h a0 26) 21 <|
      gb (ib a1 (hN h (hR h a0 26))) <|
      lt (sI h (hR h a0 26) a1.toNatClampNeg (0 : Int32)) fun h9 =>
      gs h9 (hR h9 a0 27) 21 <|
      gb (ib a1 (hN h9 (hR h9 a0 27))) <|
      lt (sI h9 (hR h9 a0 27) a1.toNatClampNeg (0 : Int32)) fun h13 =>
      gs h13 (hR h13 a0 37) 21 <|
      gb (ib a1 (hN h13 (hR h13 a0 37))) <|
      lt (sI h13 (hR h13 a0 37) a1.toNatClampNeg (0 : Int32)) fun h17 =>
      gs h17 (hR h17 a0 38) 21 <|
      gb (ib a1 (hN h17 (hR h17 a0 38))) <|
      lt (sI h17 (hR h17 a0 38) a1.toNatClampNeg (0 : Int32)) fun h21 =>
      gs h21 (hR h21 a0 28) 21 <|
      gb (ib a1 (hN h21 (hR h21 a0 28))) <|
      lt (sI h21 (hR h21 a0 28) a1.toNatClampNeg (0 : Int32)) fun h25 =>
      gs h25 (hR h25 a0 29) 21 <|
      gb (ib a1 (hN h25 (hR h25 a0 29))) <|
      lt (sI h25 (hR h25 a0 29) a1.toNatClampNeg (0 : Int32)) fun h29 =>
      gs h29 (hR h29 a0 30) 21 <|
      gb (ib a1 (hN h29 (hR h29 a0 30))) <|
      lt (sI h29 (hR h29 a0 30) a1.toNatClampNeg (0 : Int32)) fun h33 =>
      gs h33 (hR h33 a0 34) 21 <|
      gb (ib a1 (hN h33 (hR h33 a0 34))) <|
      lt (sI h33 (hR h33 a0 34) a1.toNatClampNeg (-1 : Int32)) fun h37 =>
      gs h37 (hR h37 a0 35) 21 <|
      gb (ib a1 (hN h37 (hR h37 a0 35))) <|
      lt (sI h37 (hR h37 a0 35) a1.toNatClampNeg (-1 : Int32)) fun h41 =>
      gs h41 (hR h41 a0 36) 24 <|
      gb (ib a1 (hN h41 (hR h41 a0 36))) <|
      lt (sI h41 (hR h41 a0 36) a1.toNatClampNeg ((0 : Int32) &&& 1)) fun h45 =>
      lt (a1 + (1 : Int32)) fun x46 =>
      f_X11_clear_L120 n h45 a0 x46
def f_X11_clear_L28 : Nat → AH → Nat → Int32 → Option (AH)
  | 0, _, _, _ => none
  | n + 1, h, a0, a1 =>
    if (512 : Int32) ≤ a1 then
      lt ((0 : Int32)) fun x2 =>
      f_X11_clear_L120 FU h a0 x2
    else
      gs h a0 10 <|
      gs h (hR h a0 25) 21 <|
      gb (ib a1 (hN h (hR h a0 25))) <|
      lt (sI h (hR h a0 25) a1.toNatClampNeg (0 : Int32)) fun h6 =>
      gs h6 (hR h6 a0 45) 21 <|
      gb (ib a1 (hN h6 (hR h6 a0 45))) <|
      lt (sI h6 (hR h6 a0 45) a1.toNatClampNeg (0 : Int32)) fun h10 =>
      gs h10 (hR h10 a0 44) 21 <|
      gb (ib a1 (hN h10 (hR h10 a0 44))) <|
      lt (sI h10 (hR h10 a0 44) a1.toNatClampNeg (0 : Int32)) fun h14 =>
      gs h14 (hR h14 a0 46) 21 <|
      gb (ib a1 (hN h14 (hR h14 a0 46))) <|
      lt (sI h14 (hR h14 a0 46) a1.toNatClampNeg (0 : Int32)) fun h18 =>
      gs h18 (hR h18 a0 48) 21 <|
      gb (ib a1 (hN h18 (hR h18 a0 48))) <|
      lt (sI h18 (hR h18 a0 48) a1.toNatClampNeg (-1 : Int32)) fun h22 =>
      gs h22 (hR h22 a0 53) 21 <|
      gb (ib a1 (hN h22 (hR h22 a0 53))) <|
      lt (sI h22 (hR h22 a0 53) a1.toNatClampNeg (-1 : Int32)) fun h26 =>
      gs h26 (hR h26 a0 51) 21 <|
      gb (ib a1 (hN h26 (hR h26 a0 51))) <|
      lt (sI h26 (hR h26 a0 51) a1.toNatClampNeg (-1 : Int32)) fun h30 =>
      gs h30 (hR h30 a0 52) 21 <|
      gb (ib a1 (hN h30 (hR h30 a0 52))) <|
      lt (sI h30 (hR h30 a0 52) a1.toNatClampNeg (0 : Int32)) fun h34 =>
      gs h34 (hR h34 a0 55) 21 <|
      gb (ib a1 (hN h34 (hR h34 a0 55))) <|
      lt (sI h34 (hR h34 a0 55) a1.toNatClampNeg (0 : Int32)) fun h38 =>
      gs h38 (hR h38 a0 56) 21 <|
      gb (ib a1 (hN h38 (hR h38 a0 56))) <|
      lt (sI h38 (hR h38 a0 56) a1.toNatClampNeg (0 : Int32)) fun h42 =>
      gs h42 (hR h42 a0 50) 24 <|
      gb (ib a1 (hN h42 (hR h42 a0 50))) <|
      lt (sI h42 (hR h42 a0 50) a1.toNatClampNeg ((0 : Int32) &&& 1)) fun h46 =>
      lt (a1 + (1 : Int32)) fun x47 =>
      f_X11_clear_L28 n h46 a0 x47
def f_X11_clear_L2 : Nat → AH → Nat → Int32 → Option (AH)
  | 0, _, _, _ => none
  | n + 1, h, a0, a1 =>
    if (6 : Int32) ≤ a1 then
      lt ((0 : Int32)) fun x2 =>
      f_X11_clear_L28 FU h a0 x2
    else
      gs h a0 10 <|
      gs h (hR h a0 22) 21 <|
      gb (ib a1 (hN h (hR h a0 22))) <|
      gs h (hR h a0 21) 21 <|
      gb (ib a1 (hN h (hR h a0 21))) <|
      lt (sI h (hR h a0 21) a1.toNatClampNeg (hI h (hR h a0 22) a1.toNatClampNeg)) fun h8 =>
      lt (a1 + (1 : Int32)) fun x9 =>
      f_X11_clear_L2 n h8 a0 x9
def f_X11_clear (h : AH) (a0 : Nat) : Option (AH) :=
  lt ((0 : Int32)) fun x1 =>
  f_X11_clear_L2 FU h a0 x1
def f_X11_init_L1529 : Nat → AH → Nat → Int32 → Option (AH)
  | 0, _, _, _ => none
  | n + 1, h, a0, a1 =>
    if (6 : Int32) ≤ a1 then
      gs h a0 10 <|
      bd (f_X11_clear h a0) fun q3 =>
      some q3
    else
      gs h a0 10 <|
      gs h (hR h a0 22) 21 <|
      gb (ib a1 (hN h (hR h a0 22))) <|
      lt (sI h (hR h a0 22) a1.toNatClampNeg (1 : Int32)) fun h7 =>
      lt (a1 + (1 : Int32)) fun x8 =>
      f_X11_init_L1529 n h7 a0 x8
def f_X11_init_L1470 (h : AH) (a0 : Nat) (s0 : Nat) (s1 : Nat) : Option (AH) :=
  gs h s1 21 <|
  gb (ib (53 : Int32) (hN h s1)) <|
  lt (sI h s1 (53 : Int32).toNatClampNeg (111 : Int32)) fun h3 =>
  gb (ib (54 : Int32) (hN h3 s1)) <|
  lt (sI h3 s1 (54 : Int32).toNatClampNeg (32871 : Int32)) fun h6 =>
  gb (ib (55 : Int32) (hN h6 s1)) <|
  lt (sI h6 s1 (55 : Int32).toNatClampNeg (99 : Int32)) fun h9 =>
  gb (ib (56 : Int32) (hN h9 s1)) <|
  lt (sI h9 s1 (56 : Int32).toNatClampNeg (4195 : Int32)) fun h12 =>
  gb (ib (57 : Int32) (hN h12 s1)) <|
  lt (sI h12 s1 (57 : Int32).toNatClampNeg (0 : Int32)) fun h15 =>
  gb (ib (58 : Int32) (hN h15 s1)) <|
  lt (sI h15 s1 (58 : Int32).toNatClampNeg (0 : Int32)) fun h18 =>
  gb (ib (59 : Int32) (hN h18 s1)) <|
  lt (sI h18 s1 (59 : Int32).toNatClampNeg (0 : Int32)) fun h21 =>
  gb (ib (60 : Int32) (hN h21 s1)) <|
  lt (sI h21 s1 (60 : Int32).toNatClampNeg (0 : Int32)) fun h24 =>
  gs h24 s0 10 <|
  lt (sR h24 s0 70 s1) fun h26 =>
  lt (hNew h26 21 (9 : Int32).toNatClampNeg (9 : Int32).toNatClampNeg) fun h27 =>
  gs h27 a0 10 <|
  lt (sR h27 a0 80 (hZ h26 + 1)) fun h29 =>
  lt ((0 : Int32)) fun x30 =>
  f_X11_init_L1529 FU h29 a0 x30
def f_X11_init_L1361 (h : AH) (a0 : Nat) (s0 : Nat) (s1 : Nat) : Option (AH) :=
  gs h s1 21 <|
  gb (ib (37 : Int32) (hN h s1)) <|
  lt (sI h s1 (37 : Int32).toNatClampNeg (134225967 : Int32)) fun h3 =>
  gb (ib (38 : Int32) (hN h3 s1)) <|
  lt (sI h3 s1 (38 : Int32).toNatClampNeg (8239 : Int32)) fun h6 =>
  gb (ib (39 : Int32) (hN h6 s1)) <|
  lt (sI h6 s1 (39 : Int32).toNatClampNeg (536879151 : Int32)) fun h9 =>
  gb (ib (40 : Int32) (hN h9 s1)) <|
  lt (sI h9 s1 (40 : Int32).toNatClampNeg (1610620975 : Int32)) fun h12 =>
  gb (ib (41 : Int32) (hN h12 s1)) <|
  lt (sI h12 s1 (41 : Int32).toNatClampNeg (1073750063 : Int32)) fun h15 =>
  gb (ib (42 : Int32) (hN h15 s1)) <|
  lt (sI h15 s1 (42 : Int32).toNatClampNeg (-2147475409 : Int32)) fun h18 =>
  gb (ib (43 : Int32) (hN h18 s1)) <|
  lt (sI h18 s1 (43 : Int32).toNatClampNeg (-1610604497 : Int32)) fun h21 =>
  gb (ib (44 : Int32) (hN h21 s1)) <|
  lt (sI h21 s1 (44 : Int32).toNatClampNeg (-1073733585 : Int32)) fun h24 =>
  gb (ib (45 : Int32) (hN h24 s1)) <|
  lt (sI h24 s1 (45 : Int32).toNatClampNeg (-536862673 : Int32)) fun h27 =>
  gb (ib (46 : Int32) (hN h27 s1)) <|
  lt (sI h27 s1 (46 : Int32).toNatClampNeg (267386895 : Int32)) fun h30 =>
  gb (ib (47 : Int32) (hN h30 s1)) <|
  lt (sI h30 s1 (47 : Int32).toNatClampNeg (115 : Int32)) fun h33 =>
  gb (ib (48 : Int32) (hN h33 s1)) <|
  lt (sI h33 s1 (48 : Int32).toNatClampNeg (1048691 : Int32)) fun h36 =>
  gb (ib (49 : Int32) (hN h36 s1)) <|
  lt (sI h36 s1 (49 : Int32).toNatClampNeg (19 : Int32)) fun h39 =>
  gb (ib (50 : Int32) (hN h39 s1)) <|
  lt (sI h39 s1 (50 : Int32).toNatClampNeg (19 : Int32)) fun h42 =>
  gb (ib (51 : Int32) (hN h42 s1)) <|
  lt (sI h42 s1 (51 : Int32).toNatClampNeg (-1032173 : Int32)) fun h45 =>
  gb (ib (52 : Int32) (hN h45 s1)) <|
  lt (sI h45 s1 (52 : Int32).toNatClampNeg (1073741875 : Int32)) fun h48 =>
  f_X11_init_L1470 h48 a0 s0 s1
def f_X11_init_L1255 (h : AH) (a0 : Nat) (s0 : Nat) (s1 : Nat) : Option (AH) :=
  gs h s1 21 <|
  gb (ib (21 : Int32) (hN h s1)) <|
  lt (sI h s1 (21 : Int32).toNatClampNeg (8195 : Int32)) fun h3 =>
  gb (ib (22 : Int32) (hN h3 s1)) <|
  lt (sI h3 s1 (22 : Int32).toNatClampNeg (16387 : Int32)) fun h6 =>
  gb (ib (23 : Int32) (hN h6 s1)) <|
  lt (sI h6 s1 (23 : Int32).toNatClampNeg (20483 : Int32)) fun h9 =>
  gb (ib (24 : Int32) (hN h9 s1)) <|
  lt (sI h9 s1 (24 : Int32).toNatClampNeg (35 : Int32)) fun h12 =>
  gb (ib (25 : Int32) (hN h12 s1)) <|
  lt (sI h12 s1 (25 : Int32).toNatClampNeg (4131 : Int32)) fun h15 =>
  gb (ib (26 : Int32) (hN h15 s1)) <|
  lt (sI h15 s1 (26 : Int32).toNatClampNeg (8227 : Int32)) fun h18 =>
  gb (ib (27 : Int32) (hN h18 s1)) <|
  lt (sI h18 s1 (27 : Int32).toNatClampNeg (99 : Int32)) fun h21 =>
  gb (ib (28 : Int32) (hN h21 s1)) <|
  lt (sI h21 s1 (28 : Int32).toNatClampNeg (4195 : Int32)) fun h24 =>
  gb (ib (29 : Int32) (hN h24 s1)) <|
  lt (sI h24 s1 (29 : Int32).toNatClampNeg (16483 : Int32)) fun h27 =>
  gb (ib (30 : Int32) (hN h27 s1)) <|
  lt (sI h27 s1 (30 : Int32).toNatClampNeg (20579 : Int32)) fun h30 =>
  gb (ib (31 : Int32) (hN h30 s1)) <|
  lt (sI h30 s1 (31 : Int32).toNatClampNeg (24675 : Int32)) fun h33 =>
  gb (ib (32 : Int32) (hN h33 s1)) <|
  lt (sI h33 s1 (32 : Int32).toNatClampNeg (28771 : Int32)) fun h36 =>
  gb (ib (33 : Int32) (hN h36 s1)) <|
  lt (sI h36 s1 (33 : Int32).toNatClampNeg (55 : Int32)) fun h39 =>
  gb (ib (34 : Int32) (hN h39 s1)) <|
  lt (sI h39 s1 (34 : Int32).toNatClampNeg (23 : Int32)) fun h42 =>
  gb (ib (35 : Int32) (hN h42 s1)) <|
  lt (sI h42 s1 (35 : Int32).toNatClampNeg (111 : Int32)) fun h45 =>
  gb (ib (36 : Int32) (hN h45 s1)) <|
  lt (sI h45 s1 (36 : Int32).toNatClampNeg (103 : Int32)) fun h48 =>
  f_X11_init_L1361 h48 a0 s0 s1
def f_X11_init_L1147 (h : AH) (a0 : Nat) (s0 : Nat) (s1 : Nat) : Option (AH) :=
  gs h s1 21 <|
  gb (ib (5 : Int32) (hN h s1)) <|
  lt (sI h s1 (5 : Int32).toNatClampNeg (16435 : Int32)) fun h3 =>
  gb (ib (6 : Int32) (hN h3 s1)) <|
  lt (sI h3 s1 (6 : Int32).toNatClampNeg (20531 : Int32)) fun h6 =>
  gb (ib (7 : Int32) (hN h6 s1)) <|
  lt (sI h6 s1 (7 : Int32).toNatClampNeg (1073762355 : Int32)) fun h9 =>
  gb (ib (8 : Int32) (hN h9 s1)) <|
  lt (sI h9 s1 (8 : Int32).toNatClampNeg (24627 : Int32)) fun h12 =>
  gb (ib (9 : Int32) (hN h12 s1)) <|
  lt (sI h12 s1 (9 : Int32).toNatClampNeg (28723 : Int32)) fun h15 =>
  gb (ib (10 : Int32) (hN h15 s1)) <|
  lt (sI h15 s1 (10 : Int32).toNatClampNeg (19 : Int32)) fun h18 =>
  gb (ib (11 : Int32) (hN h18 s1)) <|
  lt (sI h18 s1 (11 : Int32).toNatClampNeg (8211 : Int32)) fun h21 =>
  gb (ib (12 : Int32) (hN h21 s1)) <|
  lt (sI h21 s1 (12 : Int32).toNatClampNeg (12307 : Int32)) fun h24 =>
  gb (ib (13 : Int32) (hN h24 s1)) <|
  lt (sI h24 s1 (13 : Int32).toNatClampNeg (16403 : Int32)) fun h27 =>
  gb (ib (14 : Int32) (hN h27 s1)) <|
  lt (sI h27 s1 (14 : Int32).toNatClampNeg (24595 : Int32)) fun h30 =>
  gb (ib (15 : Int32) (hN h30 s1)) <|
  lt (sI h30 s1 (15 : Int32).toNatClampNeg (28691 : Int32)) fun h33 =>
  gb (ib (16 : Int32) (hN h33 s1)) <|
  lt (sI h33 s1 (16 : Int32).toNatClampNeg (4115 : Int32)) fun h36 =>
  gb (ib (17 : Int32) (hN h36 s1)) <|
  lt (sI h36 s1 (17 : Int32).toNatClampNeg (20499 : Int32)) fun h39 =>
  gb (ib (18 : Int32) (hN h39 s1)) <|
  lt (sI h39 s1 (18 : Int32).toNatClampNeg (1073762323 : Int32)) fun h42 =>
  gb (ib (19 : Int32) (hN h42 s1)) <|
  lt (sI h42 s1 (19 : Int32).toNatClampNeg (3 : Int32)) fun h45 =>
  gb (ib (20 : Int32) (hN h45 s1)) <|
  lt (sI h45 s1 (20 : Int32).toNatClampNeg (4099 : Int32)) fun h48 =>
  f_X11_init_L1255 h48 a0 s0 s1
def f_X11_init_L1050 (h : AH) (a0 : Nat) (s0 : Nat) (s1 : Nat) : Option (AH) :=
  gs h s1 21 <|
  gb (ib (51 : Int32) (hN h s1)) <|
  lt (sI h s1 (51 : Int32).toNatClampNeg (9 : Int32)) fun h3 =>
  gb (ib (52 : Int32) (hN h3 s1)) <|
  lt (sI h3 s1 (52 : Int32).toNatClampNeg (10 : Int32)) fun h6 =>
  gb (ib (53 : Int32) (hN h6 s1)) <|
  lt (sI h6 s1 (53 : Int32).toNatClampNeg (11 : Int32)) fun h9 =>
  gb (ib (54 : Int32) (hN h9 s1)) <|
  lt (sI h9 s1 (54 : Int32).toNatClampNeg (8 : Int32)) fun h12 =>
  gb (ib (55 : Int32) (hN h12 s1)) <|
  lt (sI h12 s1 (55 : Int32).toNatClampNeg (12 : Int32)) fun h15 =>
  gb (ib (56 : Int32) (hN h15 s1)) <|
  lt (sI h15 s1 (56 : Int32).toNatClampNeg (12 : Int32)) fun h18 =>
  gb (ib (57 : Int32) (hN h18 s1)) <|
  lt (sI h18 s1 (57 : Int32).toNatClampNeg (13 : Int32)) fun h21 =>
  gb (ib (58 : Int32) (hN h21 s1)) <|
  lt (sI h21 s1 (58 : Int32).toNatClampNeg (14 : Int32)) fun h24 =>
  gb (ib (59 : Int32) (hN h24 s1)) <|
  lt (sI h24 s1 (59 : Int32).toNatClampNeg (15 : Int32)) fun h27 =>
  gb (ib (60 : Int32) (hN h27 s1)) <|
  lt (sI h27 s1 (60 : Int32).toNatClampNeg (16 : Int32)) fun h30 =>
  gs h30 s0 10 <|
  lt (sR h30 s0 69 s1) fun h32 =>
  lt (hNew h32 21 (61 : Int32).toNatClampNeg (61 : Int32).toNatClampNeg) fun h33 =>
  gb (ib (0 : Int32) (hN h33 (hZ h32 + 1))) <|
  lt (sI h33 (hZ h32 + 1) (0 : Int32).toNatClampNeg (51 : Int32)) fun h36 =>
  gb (ib (1 : Int32) (hN h36 (hZ h32 + 1))) <|
  lt (sI h36 (hZ h32 + 1) (1 : Int32).toNatClampNeg (1073741875 : Int32)) fun h39 =>
  gb (ib (2 : Int32) (hN h39 (hZ h32 + 1))) <|
  lt (sI h39 (hZ h32 + 1) (2 : Int32).toNatClampNeg (4147 : Int32)) fun h42 =>
  gb (ib (3 : Int32) (hN h42 (hZ h32 + 1))) <|
  lt (sI h42 (hZ h32 + 1) (3 : Int32).toNatClampNeg (8243 : Int32)) fun h45 =>
  gb (ib (4 : Int32) (hN h45 (hZ h32 + 1))) <|
  lt (sI h45 (hZ h32 + 1) (4 : Int32).toNatClampNeg (12339 : Int32)) fun h48 =>
  f_X11_init_L1147 h48 a0 a0 (hZ h32 + 1)
def f_X11_init_L955 (h : AH) (a0 : Nat) (s0 : Nat) (s1 : Nat) : Option (AH) :=
  gs h s1 21 <|
  gb (ib (35 : Int32) (hN h s1)) <|
  lt (sI h s1 (35 : Int32).toNatClampNeg (6 : Int32)) fun h3 =>
  gb (ib (36 : Int32) (hN h3 s1)) <|
  lt (sI h3 s1 (36 : Int32).toNatClampNeg (2 : Int32)) fun h6 =>
  gb (ib (37 : Int32) (hN h6 s1)) <|
  lt (sI h6 s1 (37 : Int32).toNatClampNeg (7 : Int32)) fun h9 =>
  gb (ib (38 : Int32) (hN h9 s1)) <|
  lt (sI h9 s1 (38 : Int32).toNatClampNeg (7 : Int32)) fun h12 =>
  gb (ib (39 : Int32) (hN h12 s1)) <|
  lt (sI h12 s1 (39 : Int32).toNatClampNeg (7 : Int32)) fun h15 =>
  gb (ib (40 : Int32) (hN h15 s1)) <|
  lt (sI h15 s1 (40 : Int32).toNatClampNeg (7 : Int32)) fun h18 =>
  gb (ib (41 : Int32) (hN h18 s1)) <|
  lt (sI h18 s1 (41 : Int32).toNatClampNeg (7 : Int32)) fun h21 =>
  gb (ib (42 : Int32) (hN h21 s1)) <|
  lt (sI h21 s1 (42 : Int32).toNatClampNeg (7 : Int32)) fun h24 =>
  gb (ib (43 : Int32) (hN h24 s1)) <|
  lt (sI h24 s1 (43 : Int32).toNatClampNeg (7 : Int32)) fun h27 =>
  gb (ib (44 : Int32) (hN h27 s1)) <|
  lt (sI h27 s1 (44 : Int32).toNatClampNeg (7 : Int32)) fun h30 =>
  gb (ib (45 : Int32) (hN h30 s1)) <|
  lt (sI h30 s1 (45 : Int32).toNatClampNeg (7 : Int32)) fun h33 =>
  gb (ib (46 : Int32) (hN h33 s1)) <|
  lt (sI h33 s1 (46 : Int32).toNatClampNeg (8 : Int32)) fun h36 =>
  gb (ib (47 : Int32) (hN h36 s1)) <|
  lt (sI h36 s1 (47 : Int32).toNatClampNeg (8 : Int32)) fun h39 =>
  gb (ib (48 : Int32) (hN h39 s1)) <|
  lt (sI h39 s1 (48 : Int32).toNatClampNeg (8 : Int32)) fun h42 =>
  gb (ib (49 : Int32) (hN h42 s1)) <|
  lt (sI h42 s1 (49 : Int32).toNatClampNeg (8 : Int32)) fun h45 =>
  gb (ib (50 : Int32) (hN h45 s1)) <|
  lt (sI h45 s1 (50 : Int32).toNatClampNeg (9 : Int32)) fun h48 =>
  f_X11_init_L1050 h48 a0 s0 s1
def f_X11_init_L875 (h : AH) (a0 : Nat) (s0 : Nat) (s1 : Nat) : Option (AH) :=
  gs h s1 21 <|
  gb (ib (19 : Int32) (hN h s1)) <|
  lt (sI h s1 (19 : Int32).toNatClampNeg (2 : Int32)) fun h3 =>
  gb (ib (20 : Int32) (hN h3 s1)) <|
  lt (sI h3 s1 (20 : Int32).toNatClampNeg (2 : Int32)) fun h6 =>
  gb (ib (21 : Int32) (hN h6 s1)) <|
  lt (sI h6 s1 (21 : Int32).toNatClampNeg (2 : Int32)) fun h9 =>
  gb (ib (22 : Int32) (hN h9 s1)) <|
  lt (sI h9 s1 (22 : Int32).toNatClampNeg (2 : Int32)) fun h12 =>
  gb (ib (23 : Int32) (hN h12 s1)) <|
  lt (sI h12 s1 (23 : Int32).toNatClampNeg (2 : Int32)) fun h15 =>
  gb (ib (24 : Int32) (hN h15 s1)) <|
  lt (sI h15 s1 (24 : Int32).toNatClampNeg (3 : Int32)) fun h18 =>
  gb (ib (25 : Int32) (hN h18 s1)) <|
  lt (sI h18 s1 (25 : Int32).toNatClampNeg (3 : Int32)) fun h21 =>
  gb (ib (26 : Int32) (hN h21 s1)) <|
  lt (sI h21 s1 (26 : Int32).toNatClampNeg (3 : Int32)) fun h24 =>
  gb (ib (27 : Int32) (hN h24 s1)) <|
  lt (sI h24 s1 (27 : Int32).toNatClampNeg (4 : Int32)) fun h27 =>
  gb (ib (28 : Int32) (hN h27 s1)) <|
  lt (sI h27 s1 (28 : Int32).toNatClampNeg (4 : Int32)) fun h30 =>
  gb (ib (29 : Int32) (hN h30 s1)) <|
  lt (sI h30 s1 (29 : Int32).toNatClampNeg (4 : Int32)) fun h33 =>
  gb (ib (30 : Int32) (hN h33 s1)) <|
  lt (sI h33 s1 (30 : Int32).toNatClampNeg (4 : Int32)) fun h36 =>
  gb (ib (31 : Int32) (hN h36 s1)) <|
  lt (sI h36 s1 (31 : Int32).toNatClampNeg (4 : Int32)) fun h39 =>
  gb (ib (32 : Int32) (hN h39 s1)) <|
  lt (sI h39 s1 (32 : Int32).toNatClampNeg (4 : Int32)) fun h42 =>
  gb (ib (33 : Int32) (hN h42 s1)) <|
  lt (sI h42 s1 (33 : Int32).toNatClampNeg (5 : Int32)) fun h45 =>
  gb (ib (34 : Int32) (hN h45 s1)) <|
  lt (sI h45 s1 (34 : Int32).toNatClampNeg (5 : Int32)) fun h48 =>
  f_X11_init_L955 h48 a0 s0 s1
def f_X11_init_L798 (h : AH) (a0 : Nat) (s0 : Nat) (s1 : Nat) : Option (AH) :=
  gs h s1 21 <|
  gb (ib (3 : Int32) (hN h s1)) <|
  lt (sI h s1 (3 : Int32).toNatClampNeg (0 : Int32)) fun h3 =>
  gb (ib (4 : Int32) (hN h3 s1)) <|
  lt (sI h3 s1 (4 : Int32).toNatClampNeg (0 : Int32)) fun h6 =>
  gb (ib (5 : Int32) (hN h6 s1)) <|
  lt (sI h6 s1 (5 : Int32).toNatClampNeg (0 : Int32)) fun h9 =>
  gb (ib (6 : Int32) (hN h9 s1)) <|
  lt (sI h9 s1 (6 : Int32).toNatClampNeg (0 : Int32)) fun h12 =>
  gb (ib (7 : Int32) (hN h12 s1)) <|
  lt (sI h12 s1 (7 : Int32).toNatClampNeg (0 : Int32)) fun h15 =>
  gb (ib (8 : Int32) (hN h15 s1)) <|
  lt (sI h15 s1 (8 : Int32).toNatClampNeg (0 : Int32)) fun h18 =>
  gb (ib (9 : Int32) (hN h18 s1)) <|
  lt (sI h18 s1 (9 : Int32).toNatClampNeg (0 : Int32)) fun h21 =>
  gb (ib (10 : Int32) (hN h21 s1)) <|
  lt (sI h21 s1 (10 : Int32).toNatClampNeg (1 : Int32)) fun h24 =>
  gb (ib (11 : Int32) (hN h24 s1)) <|
  lt (sI h24 s1 (11 : Int32).toNatClampNeg (1 : Int32)) fun h27 =>
  gb (ib (12 : Int32) (hN h27 s1)) <|
  lt (sI h27 s1 (12 : Int32).toNatClampNeg (1 : Int32)) fun h30 =>
  gb (ib (13 : Int32) (hN h30 s1)) <|
  lt (sI h30 s1 (13 : Int32).toNatClampNeg (1 : Int32)) fun h33 =>
  gb (ib (14 : Int32) (hN h33 s1)) <|
  lt (sI h33 s1 (14 : Int32).toNatClampNeg (1 : Int32)) fun h36 =>
  gb (ib (15 : Int32) (hN h36 s1)) <|
  lt (sI h36 s1 (15 : Int32).toNatClampNeg (1 : Int32)) fun h39 =>
  gb (ib (16 : Int32) (hN h39 s1)) <|
  lt (sI h39 s1 (16 : Int32).toNatClampNeg (1 : Int32)) fun h42 =>
  gb (ib (17 : Int32) (hN h42 s1)) <|
  lt (sI h42 s1 (17 : Int32).toNatClampNeg (1 : Int32)) fun h45 =>
  gb (ib (18 : Int32) (hN h45 s1)) <|
  lt (sI h45 s1 (18 : Int32).toNatClampNeg (1 : Int32)) fun h48 =>
  f_X11_init_L875 h48 a0 s0 s1
def f_X11_init_L697 (h : AH) (a0 : Nat) (s0 : Nat) (s1 : Nat) : Option (AH) :=
  gs h s1 26 <|
  gb (ib (49 : Int32) (hN h s1)) <|
  lt (sR h s1 (49 : Int32).toNatClampNeg (49 + 1)) fun h3 =>
  gb (ib (50 : Int32) (hN h3 s1)) <|
  lt (sR h3 s1 (50 : Int32).toNatClampNeg (50 + 1)) fun h6 =>
  gb (ib (51 : Int32) (hN h6 s1)) <|
  lt (sR h6 s1 (51 : Int32).toNatClampNeg (51 + 1)) fun h9 =>
  gb (ib (52 : Int32) (hN h9 s1)) <|
  lt (sR h9 s1 (52 : Int32).toNatClampNeg (52 + 1)) fun h12 =>
  gb (ib (53 : Int32) (hN h12 s1)) <|
  lt (sR h12 s1 (53 : Int32).toNatClampNeg (53 + 1)) fun h15 =>
  gb (ib (54 : Int32) (hN h15 s1)) <|
  lt (sR h15 s1 (54 : Int32).toNatClampNeg (54 + 1)) fun h18 =>
  gb (ib (55 : Int32) (hN h18 s1)) <|
  lt (sR h18 s1 (55 : Int32).toNatClampNeg (55 + 1)) fun h21 =>
  gb (ib (56 : Int32) (hN h21 s1)) <|
  lt (sR h21 s1 (56 : Int32).toNatClampNeg (56 + 1)) fun h24 =>
  gb (ib (57 : Int32) (hN h24 s1)) <|
  lt (sR h24 s1 (57 : Int32).toNatClampNeg (57 + 1)) fun h27 =>
  gb (ib (58 : Int32) (hN h27 s1)) <|
  lt (sR h27 s1 (58 : Int32).toNatClampNeg (58 + 1)) fun h30 =>
  gb (ib (59 : Int32) (hN h30 s1)) <|
  lt (sR h30 s1 (59 : Int32).toNatClampNeg (59 + 1)) fun h33 =>
  gb (ib (60 : Int32) (hN h33 s1)) <|
  lt (sR h33 s1 (60 : Int32).toNatClampNeg (60 + 1)) fun h36 =>
  gs h36 s0 10 <|
  lt (sR h36 s0 68 s1) fun h38 =>
  lt (hNew h38 21 (61 : Int32).toNatClampNeg (61 : Int32).toNatClampNeg) fun h39 =>
  gb (ib (0 : Int32) (hN h39 (hZ h38 + 1))) <|
  lt (sI h39 (hZ h38 + 1) (0 : Int32).toNatClampNeg (0 : Int32)) fun h42 =>
  gb (ib (1 : Int32) (hN h42 (hZ h38 + 1))) <|
  lt (sI h42 (hZ h38 + 1) (1 : Int32).toNatClampNeg (0 : Int32)) fun h45 =>
  gb (ib (2 : Int32) (hN h45 (hZ h38 + 1))) <|
  lt (sI h45 (hZ h38 + 1) (2 : Int32).toNatClampNeg (0 : Int32)) fun h48 =>
  f_X11_init_L798 h48 a0 a0 (hZ h38 + 1)
def f_X11_init_L601 (h : AH) (a0 : Nat) (s0 : Nat) (s1 : Nat) : Option (AH) :=
  gs h s1 26 <|
  gb (ib (33 : Int32) (hN h s1)) <|
  lt (sR h s1 (33 : Int32).toNatClampNeg (33 + 1)) fun h3 =>
  gb (ib (34 : Int32) (hN h3 s1)) <|
  lt (sR h3 s1 (34 : Int32).toNatClampNeg (34 + 1)) fun h6 =>
  gb (ib (35 : Int32) (hN h6 s1)) <|
  lt (sR h6 s1 (35 : Int32).toNatClampNeg (35 + 1)) fun h9 =>
  gb (ib (36 : Int32) (hN h9 s1)) <|
  lt (sR h9 s1 (36 : Int32).toNatClampNeg (36 + 1)) fun h12 =>
  gb (ib (37 : Int32) (hN h12 s1)) <|
  lt (sR h12 s1 (37 : Int32).toNatClampNeg (37 + 1)) fun h15 =>
  gb (ib (38 : Int32) (hN h15 s1)) <|
  lt (sR h15 s1 (38 : Int32).toNatClampNeg (38 + 1)) fun h18 =>
  gb (ib (39 : Int32) (hN h18 s1)) <|
  lt (sR h18 s1 (39 : Int32).toNatClampNeg (39 + 1)) fun h21 =>
  gb (ib (40 : Int32) (hN h21 s1)) <|
  lt (sR h21 s1 (40 : Int32).toNatClampNeg (40 + 1)) fun h24 =>
  gb (ib (41 : Int32) (hN h24 s1)) <|
  lt (sR h24 s1 (41 : Int32).toNatClampNeg (41 + 1)) fun h27 =>
  gb (ib (42 : Int32) (hN h27 s1)) <|
  lt (sR h27 s1 (42 : Int32).toNatClampNeg (42 + 1)) fun h30 =>
  gb (ib (43 : Int32) (hN h30 s1)) <|
  lt (sR h30 s1 (43 : Int32).toNatClampNeg (43 + 1)) fun h33 =>
  gb (ib (44 : Int32) (hN h33 s1)) <|
  lt (sR h33 s1 (44 : Int32).toNatClampNeg (44 + 1)) fun h36 =>
  gb (ib (45 : Int32) (hN h36 s1)) <|
  lt (sR h36 s1 (45 : Int32).toNatClampNeg (45 + 1)) fun h39 =>
  gb (ib (46 : Int32) (hN h39 s1)) <|
  lt (sR h39 s1 (46 : Int32).toNatClampNeg (46 + 1)) fun h42 =>
  gb (ib (47 : Int32) (hN h42 s1)) <|
  lt (sR h42 s1 (47 : Int32).toNatClampNeg (47 + 1)) fun h45 =>
  gb (ib (48 : Int32) (hN h45 s1)) <|
  lt (sR h45 s1 (48 : Int32).toNatClampNeg (48 + 1)) fun h48 =>
  f_X11_init_L697 h48 a0 s0 s1
def f_X11_init_L505 (h : AH) (a0 : Nat) (s0 : Nat) (s1 : Nat) : Option (AH) :=
  gs h s1 26 <|
  gb (ib (17 : Int32) (hN h s1)) <|
  lt (sR h s1 (17 : Int32).toNatClampNeg (17 + 1)) fun h3 =>
  gb (ib (18 : Int32) (hN h3 s1)) <|
  lt (sR h3 s1 (18 : Int32).toNatClampNeg (18 + 1)) fun h6 =>
  gb (ib (19 : Int32) (hN h6 s1)) <|
  lt (sR h6 s1 (19 : Int32).toNatClampNeg (19 + 1)) fun h9 =>
  gb (ib (20 : Int32) (hN h9 s1)) <|
  lt (sR h9 s1 (20 : Int32).toNatClampNeg (20 + 1)) fun h12 =>
  gb (ib (21 : Int32) (hN h12 s1)) <|
  lt (sR h12 s1 (21 : Int32).toNatClampNeg (21 + 1)) fun h15 =>
  gb (ib (22 : Int32) (hN h15 s1)) <|
  lt (sR h15 s1 (22 : Int32).toNatClampNeg (22 + 1)) fun h18 =>
  gb (ib (23 : Int32) (hN h18 s1)) <|
  lt (sR h18 s1 (23 : Int32).toNatClampNeg (23 + 1)) fun h21 =>
  gb (ib (24 : Int32) (hN h21 s1)) <|
  lt (sR h21 s1 (24 : Int32).toNatClampNeg (24 + 1)) fun h24 =>
  gb (ib (25 : Int32) (hN h24 s1)) <|
  lt (sR h24 s1 (25 : Int32).toNatClampNeg (25 + 1)) fun h27 =>
  gb (ib (26 : Int32) (hN h27 s1)) <|
  lt (sR h27 s1 (26 : Int32).toNatClampNeg (26 + 1)) fun h30 =>
  gb (ib (27 : Int32) (hN h30 s1)) <|
  lt (sR h30 s1 (27 : Int32).toNatClampNeg (27 + 1)) fun h33 =>
  gb (ib (28 : Int32) (hN h33 s1)) <|
  lt (sR h33 s1 (28 : Int32).toNatClampNeg (28 + 1)) fun h36 =>
  gb (ib (29 : Int32) (hN h36 s1)) <|
  lt (sR h36 s1 (29 : Int32).toNatClampNeg (29 + 1)) fun h39 =>
  gb (ib (30 : Int32) (hN h39 s1)) <|
  lt (sR h39 s1 (30 : Int32).toNatClampNeg (30 + 1)) fun h42 =>
  gb (ib (31 : Int32) (hN h42 s1)) <|
  lt (sR h42 s1 (31 : Int32).toNatClampNeg (31 + 1)) fun h45 =>
  gb (ib (32 : Int32) (hN h45 s1)) <|
  lt (sR h45 s1 (32 : Int32).toNatClampNeg (32 + 1)) fun h48 =>
  f_X11_init_L601 h48 a0 s0 s1
def f_X11_init_L414 (h : AH) (a0 : Nat) (s0 : Nat) (s1 : Nat) : Option (AH) :=
  gs h s1 26 <|
  gb (ib (1 : Int32) (hN h s1)) <|
  lt (sR h s1 (1 : Int32).toNatClampNeg (1 + 1)) fun h3 =>
  gb (ib (2 : Int32) (hN h3 s1)) <|
  lt (sR h3 s1 (2 : Int32).toNatClampNeg (2 + 1)) fun h6 =>
  gb (ib (3 : Int32) (hN h6 s1)) <|
  lt (sR h6 s1 (3 : Int32).toNatClampNeg (3 + 1)) fun h9 =>
  gb (ib (4 : Int32) (hN h9 s1)) <|
  lt (sR h9 s1 (4 : Int32).toNatClampNeg (4 + 1)) fun h12 =>
  gb (ib (5 : Int32) (hN h12 s1)) <|
  lt (sR h12 s1 (5 : Int32).toNatClampNeg (5 + 1)) fun h15 =>
  gb (ib (6 : Int32) (hN h15 s1)) <|
  lt (sR h15 s1 (6 : Int32).toNatClampNeg (6 + 1)) fun h18 =>
  gb (ib (7 : Int32) (hN h18 s1)) <|
  lt (sR h18 s1 (7 : Int32).toNatClampNeg (7 + 1)) fun h21 =>
  gb (ib (8 : Int32) (hN h21 s1)) <|
  lt (sR h21 s1 (8 : Int32).toNatClampNeg (8 + 1)) fun h24 =>
  gb (ib (9 : Int32) (hN h24 s1)) <|
  lt (sR h24 s1 (9 : Int32).toNatClampNeg (9 + 1)) fun h27 =>
  gb (ib (10 : Int32) (hN h27 s1)) <|
  lt (sR h27 s1 (10 : Int32).toNatClampNeg (10 + 1)) fun h30 =>
  gb (ib (11 : Int32) (hN h30 s1)) <|
  lt (sR h30 s1 (11 : Int32).toNatClampNeg (11 + 1)) fun h33 =>
  gb (ib (12 : Int32) (hN h33 s1)) <|
  lt (sR h33 s1 (12 : Int32).toNatClampNeg (12 + 1)) fun h36 =>
  gb (ib (13 : Int32) (hN h36 s1)) <|
  lt (sR h36 s1 (13 : Int32).toNatClampNeg (13 + 1)) fun h39 =>
  gb (ib (14 : Int32) (hN h39 s1)) <|
  lt (sR h39 s1 (14 : Int32).toNatClampNeg (14 + 1)) fun h42 =>
  gb (ib (15 : Int32) (hN h42 s1)) <|
  lt (sR h42 s1 (15 : Int32).toNatClampNeg (15 + 1)) fun h45 =>
  gb (ib (16 : Int32) (hN h45 s1)) <|
  lt (sR h45 s1 (16 : Int32).toNatClampNeg (16 + 1)) fun h48 =>
  f_X11_init_L505 h48 a0 s0 s1
def f_X11_init_L270 (h : AH) (a0 : Nat) : Option (AH) :=
  lt (hNew h 21 (512 : Int32).toNatClampNeg (512 : Int32).toNatClampNeg) fun h1 =>
  gs h1 a0 10 <|
  lt (sR h1 a0 44 (hZ h + 1)) fun h3 =>
  lt (hNew h3 21 (512 : Int32).toNatClampNeg (512 : Int32).toNatClampNeg) fun h4 =>
  gs h4 a0 10 <|
  lt (sR h4 a0 45 (hZ h3 + 1)) fun h6 =>
  lt (hNew h6 21 (512 : Int32).toNatClampNeg (512 : Int32).toNatClampNeg) fun h7 =>
  gs h7 a0 10 <|
  lt (sR h7 a0 46 (hZ h6 + 1)) fun h9 =>
  lt (hNew h9 21 (512 : Int32).toNatClampNeg (512 : Int32).toNatClampNeg) fun h10 =>
  gs h10 a0 10 <|
  lt (sR h10 a0 48 (hZ h9 + 1)) fun h12 =>
  lt (hNew h12 21 (2048 : Int32).toNatClampNeg (2048 : Int32).toNatClampNeg) fun h13 =>
  gs h13 a0 10 <|
  lt (sR h13 a0 49 (hZ h12 + 1)) fun h15 =>
  lt (hNew h15 24 (512 : Int32).toNatClampNeg (512 : Int32).toNatClampNeg) fun h16 =>
  gs h16 a0 10 <|
  lt (sR h16 a0 50 (hZ h15 + 1)) fun h18 =>
  lt (hNew h18 21 (512 : Int32).toNatClampNeg (512 : Int32).toNatClampNeg) fun h19 =>
  gs h19 a0 10 <|
  lt (sR h19 a0 51 (hZ h18 + 1)) fun h21 =>
  lt (hNew h21 21 (512 : Int32).toNatClampNeg (512 : Int32).toNatClampNeg) fun h22 =>
  gs h22 a0 10 <|
  lt (sR h22 a0 52 (hZ h21 + 1)) fun h24 =>
  lt (hNew h24 21 (512 : Int32).toNatClampNeg (512 : Int32).toNatClampNeg) fun h25 =>
  gs h25 a0 10 <|
  lt (sR h25 a0 53 (hZ h24 + 1)) fun h27 =>
  lt (hNew h27 21 (512 : Int32).toNatClampNeg (512 : Int32).toNatClampNeg) fun h28 =>
  gs h28 a0 10 <|
  lt (sR h28 a0 54 (hZ h27 + 1)) fun h30 =>
  lt (hNew h30 21 (512 : Int32).toNatClampNeg (512 : Int32).toNatClampNeg) fun h31 =>
  gs h31 a0 10 <|
  lt (sR h31 a0 55 (hZ h30 + 1)) fun h33 =>
  lt (hNew h33 21 (512 : Int32).toNatClampNeg (512 : Int32).toNatClampNeg) fun h34 =>
  gs h34 a0 10 <|
  lt (sR h34 a0 56 (hZ h33 + 1)) fun h36 =>
  lt (hNew h36 21 (700 : Int32).toNatClampNeg (700 : Int32).toNatClampNeg) fun h37 =>
  gs h37 a0 10 <|
  lt (sR h37 a0 58 (hZ h36 + 1)) fun h39 =>
  lt (hNew h39 21 (75600 : Int32).toNatClampNeg (75600 : Int32).toNatClampNeg) fun h40 =>
  gs h40 a0 10 <|
  lt (sR h40 a0 60 (hZ h39 + 1)) fun h42 =>
  lt (hNew h42 21 (9 : Int32).toNatClampNeg (9 : Int32).toNatClampNeg) fun h43 =>
  gs h43 a0 10 <|
  lt (sR h43 a0 61 (hZ h42 + 1)) fun h45 =>
  lt (hNew h45 26 (61 : Int32).toNatClampNeg (61 : Int32).toNatClampNeg) fun h46 =>
  gb (ib (0 : Int32) (hN h46 (hZ h45 + 1))) <|
  lt (sR h46 (hZ h45 + 1) (0 : Int32).toNatClampNeg (0 + 1)) fun h49 =>
  f_X11_init_L414 h49 a0 a0 (hZ h45 + 1)
def f_X11_init_L136 (h : AH) (a0 : Nat) : Option (AH) :=
  lt (hNew h 21 (2048 : Int32).toNatClampNeg (2048 : Int32).toNatClampNeg) fun h1 =>
  gs h1 a0 10 <|
  lt (sR h1 a0 24 (hZ h + 1)) fun h3 =>
  lt (hNew h3 21 (512 : Int32).toNatClampNeg (512 : Int32).toNatClampNeg) fun h4 =>
  gs h4 a0 10 <|
  lt (sR h4 a0 25 (hZ h3 + 1)) fun h6 =>
  lt (hNew h6 21 (16 : Int32).toNatClampNeg (16 : Int32).toNatClampNeg) fun h7 =>
  gs h7 a0 10 <|
  lt (sR h7 a0 26 (hZ h6 + 1)) fun h9 =>
  lt (hNew h9 21 (16 : Int32).toNatClampNeg (16 : Int32).toNatClampNeg) fun h10 =>
  gs h10 a0 10 <|
  lt (sR h10 a0 27 (hZ h9 + 1)) fun h12 =>
  lt (hNew h12 21 (16 : Int32).toNatClampNeg (16 : Int32).toNatClampNeg) fun h13 =>
  gs h13 a0 10 <|
  lt (sR h13 a0 28 (hZ h12 + 1)) fun h15 =>
  lt (hNew h15 21 (16 : Int32).toNatClampNeg (16 : Int32).toNatClampNeg) fun h16 =>
  gs h16 a0 10 <|
  lt (sR h16 a0 29 (hZ h15 + 1)) fun h18 =>
  lt (hNew h18 21 (16 : Int32).toNatClampNeg (16 : Int32).toNatClampNeg) fun h19 =>
  gs h19 a0 10 <|
  lt (sR h19 a0 30 (hZ h18 + 1)) fun h21 =>
  lt (hNew h21 21 (256 : Int32).toNatClampNeg (256 : Int32).toNatClampNeg) fun h22 =>
  gs h22 a0 10 <|
  lt (sR h22 a0 31 (hZ h21 + 1)) fun h24 =>
  lt (hNew h24 21 (256 : Int32).toNatClampNeg (256 : Int32).toNatClampNeg) fun h25 =>
  gs h25 a0 10 <|
  lt (sR h25 a0 32 (hZ h24 + 1)) fun h27 =>
  lt (hNew h27 21 (256 : Int32).toNatClampNeg (256 : Int32).toNatClampNeg) fun h28 =>
  gs h28 a0 10 <|
  lt (sR h28 a0 33 (hZ h27 + 1)) fun h30 =>
  lt (hNew h30 21 (16 : Int32).toNatClampNeg (16 : Int32).toNatClampNeg) fun h31 =>
  gs h31 a0 10 <|
  lt (sR h31 a0 34 (hZ h30 + 1)) fun h33 =>
  lt (hNew h33 21 (16 : Int32).toNatClampNeg (16 : Int32).toNatClampNeg) fun h34 =>
  gs h34 a0 10 <|
  lt (sR h34 a0 35 (hZ h33 + 1)) fun h36 =>
  lt (hNew h36 24 (16 : Int32).toNatClampNeg (16 : Int32).toNatClampNeg) fun h37 =>
  gs h37 a0 10 <|
  lt (sR h37 a0 36 (hZ h36 + 1)) fun h39 =>
  lt (hNew h39 21 (16 : Int32).toNatClampNeg (16 : Int32).toNatClampNeg) fun h40 =>
  gs h40 a0 10 <|
  lt (sR h40 a0 37 (hZ h39 + 1)) fun h42 =>
  lt (hNew h42 21 (16 : Int32).toNatClampNeg (16 : Int32).toNatClampNeg) fun h43 =>
  gs h43 a0 10 <|
  lt (sR h43 a0 38 (hZ h42 + 1)) fun h45 =>
  lt (hNew h45 21 (3584 : Int32).toNatClampNeg (3584 : Int32).toNatClampNeg) fun h46 =>
  gs h46 a0 10 <|
  lt (sR h46 a0 39 (hZ h45 + 1)) fun h48 =>
  f_X11_init_L270 h48 a0
def f_X11_init (h : AH) (a0 : Nat) : Option (AH) :=
  gs h a0 10 <|
  lt (hNew h 21 (1500 : Int32).toNatClampNeg (1500 : Int32).toNatClampNeg) fun h2 =>
  gs h2 a0 10 <|
  lt (sR h2 a0 1 (hZ h + 1)) fun h4 =>
  lt (hNew h4 21 (1502 : Int32).toNatClampNeg (1502 : Int32).toNatClampNeg) fun h5 =>
  gs h5 a0 10 <|
  lt (sR h5 a0 6 (hZ h4 + 1)) fun h7 =>
  lt (hNew h7 21 (1502 : Int32).toNatClampNeg (1502 : Int32).toNatClampNeg) fun h8 =>
  gs h8 a0 10 <|
  lt (sR h8 a0 7 (hZ h7 + 1)) fun h10 =>
  lt (hNew h10 22 (1502 : Int32).toNatClampNeg (1502 : Int32).toNatClampNeg) fun h11 =>
  gs h11 a0 10 <|
  lt (sR h11 a0 8 (hZ h10 + 1)) fun h13 =>
  lt (hNew h13 22 (760 : Int32).toNatClampNeg (760 : Int32).toNatClampNeg) fun h14 =>
  gs h14 a0 10 <|
  lt (sR h14 a0 11 (hZ h13 + 1)) fun h16 =>
  lt (hNew h16 21 (760 : Int32).toNatClampNeg (760 : Int32).toNatClampNeg) fun h17 =>
  gs h17 a0 10 <|
  lt (sR h17 a0 12 (hZ h16 + 1)) fun h19 =>
  lt (hNew h19 21 (700 : Int32).toNatClampNeg (700 : Int32).toNatClampNeg) fun h20 =>
  gs h20 a0 10 <|
  lt (sR h20 a0 14 (hZ h19 + 1)) fun h22 =>
  lt (hNew h22 21 (700 : Int32).toNatClampNeg (700 : Int32).toNatClampNeg) fun h23 =>
  gs h23 a0 10 <|
  lt (sR h23 a0 15 (hZ h22 + 1)) fun h25 =>
  lt (hNew h25 21 (700 : Int32).toNatClampNeg (700 : Int32).toNatClampNeg) fun h26 =>
  gs h26 a0 10 <|
  lt (sR h26 a0 16 (hZ h25 + 1)) fun h28 =>
  lt (hNew h28 22 (700 : Int32).toNatClampNeg (700 : Int32).toNatClampNeg) fun h29 =>
  gs h29 a0 10 <|
  lt (sR h29 a0 17 (hZ h28 + 1)) fun h31 =>
  lt (hNew h31 21 (700 : Int32).toNatClampNeg (700 : Int32).toNatClampNeg) fun h32 =>
  gs h32 a0 10 <|
  lt (sR h32 a0 18 (hZ h31 + 1)) fun h34 =>
  lt (hNew h34 21 (16 : Int32).toNatClampNeg (16 : Int32).toNatClampNeg) fun h35 =>
  gs h35 a0 10 <|
  lt (sR h35 a0 19 (hZ h34 + 1)) fun h37 =>
  lt (hNew h37 21 (6 : Int32).toNatClampNeg (6 : Int32).toNatClampNeg) fun h38 =>
  gs h38 a0 10 <|
  lt (sR h38 a0 21 (hZ h37 + 1)) fun h40 =>
  lt (hNew h40 21 (6 : Int32).toNatClampNeg (6 : Int32).toNatClampNeg) fun h41 =>
  gs h41 a0 10 <|
  lt (sR h41 a0 22 (hZ h40 + 1)) fun h43 =>
  lt (hNew h43 21 (2048 : Int32).toNatClampNeg (2048 : Int32).toNatClampNeg) fun h44 =>
  gs h44 a0 10 <|
  lt (sR h44 a0 23 (hZ h43 + 1)) fun h46 =>
  f_X11_init_L136 h46 a0
def f_X11_thrown (h : AH) (a0 : Nat) : Option (Int32) :=
  gs h a0 10 <|
  some (hI h a0 0)
def f_X11_raise (h : AH) (a0 : Nat) (a1 : Int32) : Option (Int32 × AH) :=
  gs h a0 10 <|
  lt (sI h a0 0 a1) fun h2 =>
  some ((0 : Int32), h2)
def f_X11_type_L80 : Nat → AH → Nat → Int64 → Int32 → Option (Int32 × AH)
  | 0, _, _, _, _ => none
  | n + 1, h, a0, a1, a4 =>
    if a4 < 0 then
      some ((1 : Int32), h)
    else
      gs h a0 10 <|
      gs h (hR h a0 1) 21 <|
      gb (ib (hI h a0 2) (hN h (hR h a0 1))) <|
      lt (sI h (hR h a0 1) (hI h a0 2).toNatClampNeg (((a1 >>> (((8 : Int32) * a4).toInt64 &&& 63)) &&& (255 : Int64)).toInt32)) fun h5 =>
      lt (sI h5 a0 2 ((hI h5 a0 2) + (1 : Int32))) fun h7 =>
      lt (a4 + (-1 : Int32)) fun x8 =>
      f_X11_type_L80 n h7 a0 a1 x8
def f_X11_type_L33 : Nat → AH → Nat → Int64 → Int32 → Int32 → Option (Int32 × AH)
  | 0, _, _, _, _, _ => none
  | n + 1, h, a0, a1, a3, a4 =>
    if a3 ≤ a4 then
      lt ((a3 - (1 : Int32))) fun x2 =>
      f_X11_type_L80 FU h a0 a1 x2
    else
      lt (((a1 >>> (((8 : Int32) * a4).toInt64 &&& 63)) &&& (255 : Int64)).toInt32) fun x3 =>
      if x3 < (32 : Int32) then
        some ((0 : Int32), h)
      else
        if x3 ≤ (126 : Int32) then
          lt (a4 + (1 : Int32)) fun x6 =>
          f_X11_type_L33 n h a0 a1 a3 x6
        else
          some ((0 : Int32), h)
def f_X11_type (h : AH) (a0 : Nat) (a1 : Int64) (a3 : Int32) : Option (Int32 × AH) :=
  gs h a0 10 <|
  lt (sI h a0 0 (0 : Int32)) fun h2 =>
  if a3 < (1 : Int32) then
    some ((0 : Int32), h2)
  else
    if (8 : Int32) < a3 then
      some ((0 : Int32), h2)
    else
      if ((hI h2 a0 2) + a3) ≤ (1500 : Int32) then
        lt ((0 : Int32)) fun x7 =>
        f_X11_type_L33 FU h2 a0 a1 a3 x7
      else
        some ((0 : Int32), h2)
def f_X11_sizes_L139 (h : AH) (a0 : Nat) (a1 : Int32) (a2 : Int32) (a3 : Int32) (a4 : Int32) (a5 : Int32) (a6 : Int32) (s0 : Int32) : Option (Int32 × AH) :=
  if s0 = 0 then
    some ((0 : Int32), h)
  else
    if ((a1 * a3) * a4) ≤ (a5 * a6) then
      gs h a0 10 <|
      gs h (hR h a0 22) 21 <|
      gb (ib (0 : Int32) (hN h (hR h a0 22))) <|
      lt (sI h (hR h a0 22) (0 : Int32).toNatClampNeg a1) fun h6 =>
      gs h6 (hR h6 a0 22) 21 <|
      gb (ib (1 : Int32) (hN h6 (hR h6 a0 22))) <|
      lt (sI h6 (hR h6 a0 22) (1 : Int32).toNatClampNeg a2) fun h10 =>
      gs h10 (hR h10 a0 22) 21 <|
      gb (ib (2 : Int32) (hN h10 (hR h10 a0 22))) <|
      lt (sI h10 (hR h10 a0 22) (2 : Int32).toNatClampNeg a3) fun h14 =>
      gs h14 (hR h14 a0 22) 21 <|
      gb (ib (3 : Int32) (hN h14 (hR h14 a0 22))) <|
      lt (sI h14 (hR h14 a0 22) (3 : Int32).toNatClampNeg a4) fun h18 =>
      gs h18 (hR h18 a0 22) 21 <|
      gb (ib (4 : Int32) (hN h18 (hR h18 a0 22))) <|
      lt (sI h18 (hR h18 a0 22) (4 : Int32).toNatClampNeg a5) fun h22 =>
      gs h22 (hR h22 a0 22) 21 <|
      gb (ib (5 : Int32) (hN h22 (hR h22 a0 22))) <|
      lt (sI h22 (hR h22 a0 22) (5 : Int32).toNatClampNeg a6) fun h26 =>
      some ((1 : Int32), h26)
    else
      some ((0 : Int32), h)
def f_X11_sizes_L138 (h : AH) (a0 : Nat) (a1 : Int32) (a2 : Int32) (a3 : Int32) (a4 : Int32) (a5 : Int32) (a6 : Int32) : Option (Int32 × AH) :=
  f_X11_sizes_L139 h a0 a1 a2 a3 a4 a5 a6 (0 : Int32)
def f_X11_sizes_L122 (h : AH) (a0 : Nat) (a1 : Int32) (a2 : Int32) (a3 : Int32) (a4 : Int32) (a5 : Int32) (a6 : Int32) : Option (Int32 × AH) :=
  if a6 ≤ 0 then
    f_X11_sizes_L138 h a0 a1 a2 a3 a4 a5 a6
  else
    if (9 : Int32) ≤ a6 then
      f_X11_sizes_L138 h a0 a1 a2 a3 a4 a5 a6
    else
      f_X11_sizes_L139 h a0 a1 a2 a3 a4 a5 a6 (1 : Int32)
def f_X11_sizes_L69 (h : AH) (a0 : Nat) (a1 : Int32) (a2 : Int32) (a3 : Int32) (a4 : Int32) (a5 : Int32) (a6 : Int32) (s0 : Int32) : Option (Int32 × AH) :=
  if s0 = 0 then
    f_X11_sizes_L138 h a0 a1 a2 a3 a4 a5 a6
  else
    if a5 = (1 : Int32) then
      f_X11_sizes_L122 h a0 a1 a2 a3 a4 a5 a6
    else
      if a5 = (2 : Int32) then
        f_X11_sizes_L122 h a0 a1 a2 a3 a4 a5 a6
      else
        if a5 = (4 : Int32) then
          f_X11_sizes_L122 h a0 a1 a2 a3 a4 a5 a6
        else
          if a5 = (8 : Int32) then
            f_X11_sizes_L122 h a0 a1 a2 a3 a4 a5 a6
          else
            if a5 = (16 : Int32) then
              f_X11_sizes_L122 h a0 a1 a2 a3 a4 a5 a6
            else
              if a5 = (32 : Int32) then
                f_X11_sizes_L122 h a0 a1 a2 a3 a4 a5 a6
              else
                if ¬ a5 = (64 : Int32) then
                  f_X11_sizes_L138 h a0 a1 a2 a3 a4 a5 a6
                else
                  f_X11_sizes_L122 h a0 a1 a2 a3 a4 a5 a6
def f_X11_sizes_L68 (h : AH) (a0 : Nat) (a1 : Int32) (a2 : Int32) (a3 : Int32) (a4 : Int32) (a5 : Int32) (a6 : Int32) : Option (Int32 × AH) :=
  f_X11_sizes_L69 h a0 a1 a2 a3 a4 a5 a6 (0 : Int32)
def f_X11_sizes_L64 (h : AH) (a0 : Nat) (a1 : Int32) (a2 : Int32) (a3 : Int32) (a4 : Int32) (a5 : Int32) (a6 : Int32) : Option (Int32 × AH) :=
  f_X11_sizes_L69 h a0 a1 a2 a3 a4 a5 a6 (1 : Int32)
def f_X11_sizes_L46 (h : AH) (a0 : Nat) (a1 : Int32) (a2 : Int32) (a3 : Int32) (a4 : Int32) (a5 : Int32) (a6 : Int32) : Option (Int32 × AH) :=
  if a4 = (1 : Int32) then
    f_X11_sizes_L64 h a0 a1 a2 a3 a4 a5 a6
  else
    if a4 = (2 : Int32) then
      f_X11_sizes_L64 h a0 a1 a2 a3 a4 a5 a6
    else
      if ¬ a4 = (4 : Int32) then
        f_X11_sizes_L68 h a0 a1 a2 a3 a4 a5 a6
      else
        f_X11_sizes_L64 h a0 a1 a2 a3 a4 a5 a6
def f_X11_sizes (h : AH) (a0 : Nat) (a1 : Int32) (a2 : Int32) (a3 : Int32) (a4 : Int32) (a5 : Int32) (a6 : Int32) : Option (Int32 × AH) :=
  gs h a0 10 <|
  lt (sI h a0 0 (0 : Int32)) fun h2 =>
  if a1 ≤ 0 then
    f_X11_sizes_L68 h2 a0 a1 a2 a3 a4 a5 a6
  else
    if (16 : Int32) < a1 then
      f_X11_sizes_L68 h2 a0 a1 a2 a3 a4 a5 a6
    else
      if a2 ≤ 0 then
        f_X11_sizes_L68 h2 a0 a1 a2 a3 a4 a5 a6
      else
        if (17 : Int32) ≤ a2 then
          f_X11_sizes_L68 h2 a0 a1 a2 a3 a4 a5 a6
        else
          if a3 = (1 : Int32) then
            f_X11_sizes_L46 h2 a0 a1 a2 a3 a4 a5 a6
          else
            if a3 = (2 : Int32) then
              f_X11_sizes_L46 h2 a0 a1 a2 a3 a4 a5 a6
            else
              if a3 = (4 : Int32) then
                f_X11_sizes_L46 h2 a0 a1 a2 a3 a4 a5 a6
              else
                if ¬ a3 = (8 : Int32) then
                  f_X11_sizes_L68 h2 a0 a1 a2 a3 a4 a5 a6
                else
                  f_X11_sizes_L46 h2 a0 a1 a2 a3 a4 a5 a6
def f_X11_see (h : AH) (a0 : Nat) (a1 : Int32) : Option (Int32) :=
  gs h a0 10 <|
  if (hI h a0 2) ≤ a1 then
    some (0 : Int32)
  else
    gs h (hR h a0 1) 21 <|
    gb (ib a1 (hN h (hR h a0 1))) <|
    some (hI h (hR h a0 1) a1.toNatClampNeg)
def f_X11_isDigit (h : AH) (a0 : Int32) : Option (Int32) :=
  if a0 < (48 : Int32) then
    some (0 : Int32)
  else
    if (57 : Int32) < a0 then
      some (0 : Int32)
    else
      some (1 : Int32)
def f_X11_isHex_L19 (h : AH)  : Option (Int32) :=
  some (1 : Int32)
def f_X11_isHex (h : AH) (a0 : Int32) : Option (Int32) :=
  bd (f_X11_isDigit h a0) fun v1 =>
  if ¬ v1 = 0 then
    f_X11_isHex_L19 h 
  else
    if a0 < (97 : Int32) then
      some (0 : Int32)
    else
      if (102 : Int32) < a0 then
        some (0 : Int32)
      else
        f_X11_isHex_L19 h 
def f_X11_isSmall (h : AH) (a0 : Int32) : Option (Int32) :=
  if a0 < (97 : Int32) then
    some (0 : Int32)
  else
    if (122 : Int32) < a0 then
      some (0 : Int32)
    else
      some (1 : Int32)
def f_X11_token (h : AH) (a0 : Nat) (a1 : Int32) (a2 : Int32) (a3 : Int64) : Option (AH) :=
  gs h a0 10 <|
  gs h (hR h a0 6) 21 <|
  gb (ib (hI h a0 5) (hN h (hR h a0 6))) <|
  lt (sI h (hR h a0 6) (hI h a0 5).toNatClampNeg a1) fun h4 =>
  gs h4 (hR h4 a0 7) 21 <|
  gb (ib (hI h4 a0 5) (hN h4 (hR h4 a0 7))) <|
  lt (sI h4 (hR h4 a0 7) (hI h4 a0 5).toNatClampNeg a2) fun h8 =>
  gs h8 (hR h8 a0 8) 22 <|
  gb (ib (hI h8 a0 5) (hN h8 (hR h8 a0 8))) <|
  lt (sL h8 (hR h8 a0 8) (hI h8 a0 5).toNatClampNeg a3) fun h12 =>
  lt (sI h12 a0 5 ((hI h12 a0 5) + (1 : Int32))) fun h14 =>
  some h14
def f_X11_oneToken_L359 (h : AH) (a3 : Int32) : Option (Int32 × AH) :=
  some (a3, h)
def f_X11_oneToken_L353 (h : AH) (a1 : Int32) (a3 : Int32) (a4 : Int64) (s0 : Nat) (s1 : Int32) : Option (Int32 × AH) :=
  gs h s0 10 <|
  bd (f_X11_token h s0 s1 a1 a4) fun q2 =>
  f_X11_oneToken_L359 q2 a3
def f_X11_oneToken_L348 (h : AH) (a1 : Int32) (a3 : Int32) (a4 : Int64) (s0 : Nat) : Option (Int32 × AH) :=
  f_X11_oneToken_L353 h a1 a3 a4 s0 (3 : Int32)
def f_X11_oneToken_L280 (k233 : AH → Nat → Int32 → Int32 → Int64 → Option (Int32 × AH)) (h : AH) (a0 : Nat) (a1 : Int32) (a3 : Int32) (s0 : Int64) : Option (Int32 × AH) :=
  lt (a3 + (1 : Int32)) fun x1 =>
  k233 h a0 a1 x1 s0
def f_X11_oneToken_L255 (k233 : AH → Nat → Int32 → Int32 → Int64 → Option (Int32 × AH)) (h : AH) (a0 : Nat) (a1 : Int32) (a3 : Int32) (a4 : Int64) : Option (Int32 × AH) :=
  if (8 : Int32) ≤ (a3 - a1) then
    f_X11_oneToken_L280 k233 h a0 a1 a3 a4
  else
    gs h a0 10 <|
    bd (f_X11_see h a0 a3) fun v3 =>
    f_X11_oneToken_L280 k233 h a0 a1 a3 ((a4 <<< ((8 : Int32).toInt64 &&& 63)) ||| (v3.toInt64))
def f_X11_oneToken_L302 (h : AH) (a1 : Int32) (a3 : Int32) (a4 : Int64) (s0 : Nat) (s1 : Int32) : Option (Int32 × AH) :=
  gs h s0 10 <|
  bd (f_X11_token h s0 s1 a1 a4) fun q2 =>
  f_X11_oneToken_L359 q2 a3
def f_X11_oneToken_L233 : Nat → AH → Nat → Int32 → Int32 → Int64 → Option (Int32 × AH)
  | 0, _, _, _, _, _ => none
  | n + 1, h, a0, a1, a3, a4 =>
    gs h a0 10 <|
    bd (f_X11_see h a0 a3) fun v2 =>
    bd (f_X11_isSmall h v2) fun v3 =>
    if ¬ v3 = 0 then
      f_X11_oneToken_L255 (f_X11_oneToken_L233 n) h a0 a1 a3 a4
    else
      bd (f_X11_see h a0 a3) fun v5 =>
      bd (f_X11_isDigit h v5) fun v6 =>
      if v6 = 0 then
        if (a3 - a1) ≤ (8 : Int32) then
          f_X11_oneToken_L302 h a1 a3 a4 a0 (1 : Int32)
        else
          f_X11_oneToken_L302 h a1 a3 a4 a0 (4 : Int32)
      else
        f_X11_oneToken_L255 (f_X11_oneToken_L233 n) h a0 a1 a3 a4
def f_X11_oneToken_L217 (h : AH) (a1 : Int32) (a3 : Int32) (a4 : Int64) (s0 : Nat) (s1 : Int32) : Option (Int32 × AH) :=
  gs h s0 10 <|
  bd (f_X11_token h s0 s1 a1 a4) fun q2 =>
  f_X11_oneToken_L359 q2 a3
def f_X11_oneToken_L195 (k154 : AH → Nat → Int32 → Int32 → Int64 → Option (Int32 × AH)) (h : AH) (a0 : Nat) (a1 : Int32) (a3 : Int32) (s0 : Int64) : Option (Int32 × AH) :=
  lt (a3 + (1 : Int32)) fun x1 =>
  k154 h a0 a1 x1 s0
def f_X11_oneToken_L154 : Nat → AH → Nat → Int32 → Int32 → Int64 → Option (Int32 × AH)
  | 0, _, _, _, _, _ => none
  | n + 1, h, a0, a1, a3, a4 =>
    gs h a0 10 <|
    bd (f_X11_see h a0 a3) fun v2 =>
    bd (f_X11_isDigit h v2) fun v3 =>
    if v3 = 0 then
      if (a3 - a1) ≤ (10 : Int32) then
        f_X11_oneToken_L217 h a1 a3 a4 a0 (2 : Int32)
      else
        f_X11_oneToken_L217 h a1 a3 a4 a0 (4 : Int32)
    else
      if (10 : Int32) ≤ (a3 - a1) then
        f_X11_oneToken_L195 (f_X11_oneToken_L154 n) h a0 a1 a3 a4
      else
        bd (f_X11_see h a0 a3) fun v7 =>
        f_X11_oneToken_L195 (f_X11_oneToken_L154 n) h a0 a1 a3 ((((10 : Int64) * a4) + (v7.toInt64)) - (48 : Int64))
def f_X11_oneToken_L140 (h : AH) (a0 : Nat) (a1 : Int32) (a2 : Int32) (a3 : Int32) (a4 : Int64) : Option (Int32 × AH) :=
  bd (f_X11_isDigit h a2) fun v1 =>
  if v1 = 0 then
    bd (f_X11_isSmall h a2) fun v3 =>
    if v3 = 0 then
      if a2 = (58 : Int32) then
        f_X11_oneToken_L348 h a1 a3 a4 a0
      else
        if a2 = (59 : Int32) then
          f_X11_oneToken_L348 h a1 a3 a4 a0
        else
          if a2 = (44 : Int32) then
            f_X11_oneToken_L348 h a1 a3 a4 a0
          else
            if a2 = (40 : Int32) then
              f_X11_oneToken_L348 h a1 a3 a4 a0
            else
              if a2 = (41 : Int32) then
                f_X11_oneToken_L348 h a1 a3 a4 a0
              else
                if ¬ a2 = (45 : Int32) then
                  f_X11_oneToken_L353 h a1 a3 a4 a0 (4 : Int32)
                else
                  f_X11_oneToken_L348 h a1 a3 a4 a0
    else
      f_X11_oneToken_L233 FU h a0 a1 a3 a4
  else
    lt ((a2 - (48 : Int32)).toInt64) fun x11 =>
    f_X11_oneToken_L154 FU h a0 a1 a3 x11
def f_X11_oneToken_L131 (h : AH) (a1 : Int32) (a3 : Int32) (a4 : Int64) (s0 : Nat) (s1 : Int32) : Option (Int32 × AH) :=
  gs h s0 10 <|
  bd (f_X11_token h s0 s1 a1 a4) fun q2 =>
  f_X11_oneToken_L359 q2 a3
def f_X11_oneToken_L126 (h : AH) (a1 : Int32) (a3 : Int32) (a4 : Int64) (s0 : Nat) : Option (Int32 × AH) :=
  f_X11_oneToken_L131 h a1 a3 a4 s0 (4 : Int32)
def f_X11_oneToken_L102 (k37 : AH → Nat → Int32 → Int32 → Int64 → Option (Int32 × AH)) (h : AH) (a0 : Nat) (a1 : Int32) (a3 : Int32) (s0 : Int64) : Option (Int32 × AH) :=
  lt (a3 + (1 : Int32)) fun x1 =>
  k37 h a0 a1 x1 s0
def f_X11_oneToken_L95 (k37 : AH → Nat → Int32 → Int32 → Int64 → Option (Int32 × AH)) (h : AH) (a0 : Nat) (a1 : Int32) (a3 : Int32) (s0 : Int64) (s1 : Int32) : Option (Int32 × AH) :=
  f_X11_oneToken_L102 k37 h a0 a1 a3 (s0 + (s1.toInt64))
def f_X11_oneToken_L37 : Nat → AH → Nat → Int32 → Int32 → Int64 → Option (Int32 × AH)
  | 0, _, _, _, _, _ => none
  | n + 1, h, a0, a1, a3, a4 =>
    gs h a0 10 <|
    bd (f_X11_see h a0 a3) fun v2 =>
    bd (f_X11_isHex h v2) fun v3 =>
    if v3 = 0 then
      if (a3 - a1) < (3 : Int32) then
        f_X11_oneToken_L126 h a1 a3 a4 a0
      else
        if (a3 - a1) ≤ (10 : Int32) then
          f_X11_oneToken_L131 h a1 a3 a4 a0 (2 : Int32)
        else
          f_X11_oneToken_L126 h a1 a3 a4 a0
    else
      if (10 : Int32) ≤ (a3 - a1) then
        f_X11_oneToken_L102 (f_X11_oneToken_L37 n) h a0 a1 a3 a4
      else
        bd (f_X11_see h a0 a3) fun v8 =>
        bd (f_X11_isDigit h v8) fun v9 =>
        if v9 = 0 then
          bd (f_X11_see h a0 a3) fun v11 =>
          f_X11_oneToken_L95 (f_X11_oneToken_L37 n) h a0 a1 a3 ((16 : Int64) * a4) ((v11 - (97 : Int32)) + (10 : Int32))
        else
          bd (f_X11_see h a0 a3) fun v12 =>
          f_X11_oneToken_L95 (f_X11_oneToken_L37 n) h a0 a1 a3 ((16 : Int64) * a4) (v12 - (48 : Int32))
def f_X11_oneToken (h : AH) (a0 : Nat) (a1 : Int32) : Option (Int32 × AH) :=
  gs h a0 10 <|
  gs h (hR h a0 1) 21 <|
  gb (ib a1 (hN h (hR h a0 1))) <|
  lt ((hI h (hR h a0 1) a1.toNatClampNeg)) fun x4 =>
  lt ((a1 + (1 : Int32))) fun x5 =>
  lt ((x4.toInt64)) fun x6 =>
  if ¬ x4 = (48 : Int32) then
    f_X11_oneToken_L140 h a0 a1 x4 x5 x6
  else
    bd (f_X11_see h a0 x5) fun v8 =>
    if ¬ v8 = (120 : Int32) then
      f_X11_oneToken_L140 h a0 a1 x4 x5 x6
    else
      lt (x5 + (1 : Int32)) fun x10 =>
      lt ((0 : Int64)) fun x11 =>
      f_X11_oneToken_L37 FU h a0 a1 x10 x11
def f_X11_tokenize_L68 (h : AH) (a0 : Nat) : Option (AH) :=
  gs h a0 10 <|
  bd (f_X11_token h a0 (0 : Int32) (hI h a0 2) (0 : Int64)) fun q2 =>
  some q2
def f_X11_tokenize_L64 (k9 : AH → Nat → Int32 → Int32 → Option (AH)) (h : AH) (a0 : Nat) (a1 : Int32) (s0 : Int32) : Option (AH) :=
  k9 h a0 a1 s0
def f_X11_tokenize_L9 : Nat → AH → Nat → Int32 → Int32 → Option (AH)
  | 0, _, _, _, _ => none
  | n + 1, h, a0, a1, a2 =>
    if a2 = 0 then
      f_X11_tokenize_L68 h a0
    else
      gs h a0 10 <|
      if (hI h a0 2) ≤ a1 then
        f_X11_tokenize_L68 h a0
      else
        gs h (hR h a0 1) 21 <|
        gb (ib a1 (hN h (hR h a0 1))) <|
        if ¬ (hI h (hR h a0 1) a1.toNatClampNeg) = (32 : Int32) then
          bd (f_X11_oneToken h a0 a1) fun q7 =>
          lt (q7.1) fun x8 =>
          gs q7.2 a0 10 <|
          gs q7.2 (hR q7.2 a0 6) 21 <|
          gb (ib ((hI q7.2 a0 5) - (1 : Int32)) (hN q7.2 (hR q7.2 a0 6))) <|
          if (hI q7.2 (hR q7.2 a0 6) ((hI q7.2 a0 5) - (1 : Int32)).toNatClampNeg) = (4 : Int32) then
            f_X11_tokenize_L64 (f_X11_tokenize_L9 n) q7.2 a0 x8 (0 : Int32)
          else
            f_X11_tokenize_L64 (f_X11_tokenize_L9 n) q7.2 a0 x8 (1 : Int32)
        else
          lt (a1 + (1 : Int32)) fun x13 =>
          f_X11_tokenize_L9 n h a0 x13 a2
def f_X11_tokenize (h : AH) (a0 : Nat) : Option (AH) :=
  gs h a0 10 <|
  lt (sI h a0 5 (0 : Int32)) fun h2 =>
  lt ((0 : Int32)) fun x3 =>
  lt ((1 : Int32)) fun x4 =>
  f_X11_tokenize_L9 FU h2 a0 x3 x4
def f_X11_note_L79 (h : AH) (s0 : Nat) (s1 : Int32) : Option (AH) :=
  gs h s0 10 <|
  lt (sI h s0 4 s1) fun h2 =>
  some h2
def f_X11_note_L63 (h : AH) (a0 : Nat) (a2 : Int32) (a3 : Int32) (s0 : Nat) (s1 : Int32) : Option (AH) :=
  gs h s0 10 <|
  lt (sI h s0 3 s1) fun h2 =>
  if a3 = 0 then
    gs h2 a0 10 <|
    f_X11_note_L79 h2 a0 (hI h2 a0 4)
  else
    f_X11_note_L79 h2 a0 a2
def f_X11_note_L49 (h : AH) (a0 : Nat) (a1 : Int32) (a2 : Int32) (s0 : Int32) : Option (AH) :=
  if s0 = 0 then
    gs h a0 10 <|
    f_X11_note_L63 h a0 a2 s0 a0 (hI h a0 3)
  else
    f_X11_note_L63 h a0 a2 s0 a0 a1
def f_X11_note_L44 (h : AH) (a0 : Nat) (a1 : Int32) (a2 : Int32) : Option (AH) :=
  f_X11_note_L49 h a0 a1 a2 (1 : Int32)
def f_X11_note_L48 (h : AH) (a0 : Nat) (a1 : Int32) (a2 : Int32) : Option (AH) :=
  f_X11_note_L49 h a0 a1 a2 (0 : Int32)
def f_X11_note (h : AH) (a0 : Nat) (a1 : Int32) (a2 : Int32) : Option (AH) :=
  gs h a0 10 <|
  if (hI h a0 3) = 0 then
    f_X11_note_L44 h a0 a1 a2
  else
    if a1 = (1 : Int32) then
      f_X11_note_L44 h a0 a1 a2
    else
      if (hI h a0 3) = (1 : Int32) then
        f_X11_note_L48 h a0 a1 a2
      else
        if a2 < (hI h a0 4) then
          f_X11_note_L44 h a0 a1 a2
        else
          if ¬ a2 = (hI h a0 4) then
            f_X11_note_L48 h a0 a1 a2
          else
            if (hI h a0 3) ≤ a1 then
              f_X11_note_L48 h a0 a1 a2
            else
              f_X11_note_L44 h a0 a1 a2
def f_X11_refuse (h : AH) (a0 : Nat) : Option (Int32 × AH) :=
  gs h a0 10 <|
  gs h (hR h a0 7) 21 <|
  gb (ib (hI h a0 9) (hN h (hR h a0 7))) <|
  bd (f_X11_note h a0 (1 : Int32) (hI h (hR h a0 7) (hI h a0 9).toNatClampNeg)) fun q4 =>
  some ((0 : Int32), q4)
def f_X11_isSign (h : AH) (a0 : Nat) (a1 : Int32) : Option (Int32) :=
  gs h a0 10 <|
  gs h (hR h a0 6) 21 <|
  gb (ib (hI h a0 9) (hN h (hR h a0 6))) <|
  if ¬ (hI h (hR h a0 6) (hI h a0 9).toNatClampNeg) = (3 : Int32) then
    some (0 : Int32)
  else
    gs h (hR h a0 8) 22 <|
    gb (ib (hI h a0 9) (hN h (hR h a0 8))) <|
    if ¬ (lg_cmp (hL h (hR h a0 8) (hI h a0 9).toNatClampNeg) (a1.toInt64)) = 0 then
      some (0 : Int32)
    else
      some (1 : Int32)
def f_X11_wantSign (h : AH) (a0 : Nat) (a1 : Int32) : Option (Int32 × AH) :=
  gs h a0 10 <|
  bd (f_X11_isSign h a0 a1) fun v2 =>
  if ¬ v2 = 0 then
    lt (sI h a0 9 ((hI h a0 9) + (1 : Int32))) fun h4 =>
    some ((1 : Int32), h4)
  else
    bd (f_X11_refuse h a0) fun q5 =>
    gb (q5.1 == 0 || q5.1 == 1) <|
    some (q5.1, q5.2)
def f_X11_isNamed_L5 : Nat → AH → Int64 → Nat → Int64 → Int32 → Option (Int32 × AH)
  | 0, _, _, _, _, _ => none
  | n + 1, h, a0, a2, a3, a5 =>
    gb (sok a2) <|
    bd (f_J0_length_8abf5 h a2) fun v2 =>
    if v2 ≤ a5 then
      if ¬ (lg_cmp a0 a3) = 0 then
        some ((0 : Int32), h)
      else
        some ((1 : Int32), h)
    else
      gb (sok a2) <|
      bd (f_J0_charAt_5068e h a2 a5) fun q6 =>
      lt (((a3 <<< ((8 : Int32).toInt64 &&& 63)) ||| (q6.1.toInt64))) fun x7 =>
      lt (a5 + (1 : Int32)) fun x8 =>
      f_X11_isNamed_L5 n q6.2 a0 a2 x7 x8
def f_X11_isNamed (h : AH) (a0 : Int64) (a2 : Nat) : Option (Int32 × AH) :=
  lt ((0 : Int64)) fun x1 =>
  lt ((0 : Int32)) fun x2 =>
  f_X11_isNamed_L5 FU h a0 a2 x1 x2
def f_X11_opOf_L2 : Nat → AH → Nat → Int64 → Int32 → Option (Int32 × AH)
  | 0, _, _, _, _ => none
  | n + 1, h, a0, a1, a3 =>
    if (61 : Int32) ≤ a3 then
      some ((-1 : Int32), h)
    else
      gs h a0 10 <|
      gs h (hR h a0 68) 26 <|
      gb (ib a3 (hN h (hR h a0 68))) <|
      gb (sok (hR h (hR h a0 68) a3.toNatClampNeg)) <|
      bd (f_X11_isNamed h a1 (hR h (hR h a0 68) a3.toNatClampNeg)) fun q6 =>
      if q6.1 = 0 then
        lt (a3 + (1 : Int32)) fun x8 =>
        f_X11_opOf_L2 n q6.2 a0 a1 x8
      else
        some (a3, q6.2)
def f_X11_opOf (h : AH) (a0 : Nat) (a1 : Int64) : Option (Int32 × AH) :=
  lt ((0 : Int32)) fun x1 =>
  f_X11_opOf_L2 FU h a0 a1 x1
def f_X11_wantRegister_L181 (h : AH) (a0 : Nat) : Option (Int32 × AH) :=
  gs h a0 10 <|
  bd (f_X11_refuse h a0) fun q2 =>
  gb (q2.1 == 0 || q2.1 == 1) <|
  some (q2.1, q2.2)
def f_X11_wantRegister_L169 (h : AH) (a0 : Nat) (a1 : Int32) (a4 : Int32) : Option (Int32 × AH) :=
  if a4 < 0 then
    f_X11_wantRegister_L181 h a0
  else
    if a4 ≤ (31 : Int32) then
      gs h a0 10 <|
      lt (sI h a0 71 ((hI h a0 71) ||| (a4 <<< (a1 &&& 31)))) fun h4 =>
      lt (sI h4 a0 9 ((hI h4 a0 9) + (1 : Int32))) fun h6 =>
      some ((1 : Int32), h6)
    else
      f_X11_wantRegister_L181 h a0
def f_X11_wantRegister_L72 (h : AH) (a0 : Nat) (a1 : Int32) (a2 : Int64) (a4 : Int32) : Option (Int32 × AH) :=
  lt ((((a2 >>> ((8 : Int32).toInt64 &&& 63)) &&& (255 : Int64)) - (48 : Int64))) fun x1 =>
  gs h a0 10 <|
  gs h (hR h a0 6) 21 <|
  gb (ib (hI h a0 9) (hN h (hR h a0 6))) <|
  if ¬ (hI h (hR h a0 6) (hI h a0 9).toNatClampNeg) = (1 : Int32) then
    f_X11_wantRegister_L169 h a0 a1 a4
  else
    if ¬ (lg_cmp (a2 >>> ((16 : Int32).toInt64 &&& 63)) (120 : Int64)) = 0 then
      f_X11_wantRegister_L169 h a0 a1 a4
    else
      if (lg_cmp x1 (0 : Int64)) ≤ 0 then
        f_X11_wantRegister_L169 h a0 a1 a4
      else
        if 0 ≤ (lg_cmp x1 (4 : Int64)) then
          f_X11_wantRegister_L169 h a0 a1 a4
        else
          if (lg_cmp (a2 &&& (255 : Int64)) (48 : Int64)) < 0 then
            f_X11_wantRegister_L169 h a0 a1 a4
          else
            if 0 < (lg_cmp (a2 &&& (255 : Int64)) (57 : Int64)) then
              f_X11_wantRegister_L169 h a0 a1 a4
            else
              lt (((((10 : Int64) * x1) + (a2 &&& (255 : Int64))) - (48 : Int64)).toInt32) fun x11 =>
              f_X11_wantRegister_L169 h a0 a1 x11
def f_X11_wantRegister (h : AH) (a0 : Nat) (a1 : Int32) : Option (Int32 × AH) :=
  gs h a0 10 <|
  gs h (hR h a0 8) 22 <|
  gb (ib (hI h a0 9) (hN h (hR h a0 8))) <|
  lt ((hL h (hR h a0 8) (hI h a0 9).toNatClampNeg)) fun x4 =>
  lt ((-1 : Int32)) fun x5 =>
  gs h (hR h a0 6) 21 <|
  gb (ib (hI h a0 9) (hN h (hR h a0 6))) <|
  if ¬ (hI h (hR h a0 6) (hI h a0 9).toNatClampNeg) = (1 : Int32) then
    f_X11_wantRegister_L72 h a0 a1 x4 x5
  else
    if ¬ (lg_cmp (x4 >>> ((8 : Int32).toInt64 &&& 63)) (120 : Int64)) = 0 then
      f_X11_wantRegister_L72 h a0 a1 x4 x5
    else
      if (lg_cmp (x4 &&& (255 : Int64)) (48 : Int64)) < 0 then
        f_X11_wantRegister_L72 h a0 a1 x4 x5
      else
        if 0 < (lg_cmp (x4 &&& (255 : Int64)) (57 : Int64)) then
          f_X11_wantRegister_L72 h a0 a1 x4 x5
        else
          lt ((((x4 &&& (255 : Int64)).toInt32) - (48 : Int32))) fun x12 =>
          f_X11_wantRegister_L72 h a0 a1 x4 x12
def f_X11_wantNumber_L205 (h : AH) (a0 : Nat) : Option (Int32 × AH) :=
  gs h a0 10 <|
  lt (sI h a0 9 ((hI h a0 9) + (1 : Int32))) fun h2 =>
  some ((1 : Int32), h2)
def f_X11_wantNumber_L193 (h : AH) (a0 : Nat) (a7 : Int32) : Option (Int32 × AH) :=
  gs h a0 10 <|
  gs h (hR h a0 7) 21 <|
  gb (ib a7 (hN h (hR h a0 7))) <|
  bd (f_X11_note h a0 (3 : Int32) (hI h (hR h a0 7) a7.toNatClampNeg)) fun q4 =>
  f_X11_wantNumber_L205 q4 a0
def f_X11_wantNumber_L158 (h : AH) (a0 : Nat) (a2 : Int64) (a4 : Int64) (a6 : Int32) (a7 : Int32) (s0 : Nat) (s1 : Int64) : Option (Int32 × AH) :=
  gs h s0 10 <|
  lt (sL h s0 72 s1) fun h2 =>
  gs h2 a0 10 <|
  if (lg_cmp (hL h2 a0 72) a2) < 0 then
    f_X11_wantNumber_L193 h2 a0 a7
  else
    if 0 < (lg_cmp (hL h2 a0 72) a4) then
      f_X11_wantNumber_L193 h2 a0 a7
    else
      gb (decide (¬ (a6.toInt64) = 0)) <|
      if (lg_cmp ((hL h2 a0 72) - (hL h2 a0 72) / (a6.toInt64) * (a6.toInt64)) (0 : Int64)) = 0 then
        f_X11_wantNumber_L205 h2 a0
      else
        f_X11_wantNumber_L193 h2 a0 a7
def f_X11_wantNumber_L112 (h : AH) (a0 : Nat) (a2 : Int64) (a4 : Int64) (a6 : Int32) (a7 : Int32) (a8 : Int32) : Option (Int32 × AH) :=
  gs h a0 10 <|
  gs h (hR h a0 6) 21 <|
  gb (ib (hI h a0 9) (hN h (hR h a0 6))) <|
  if (hI h (hR h a0 6) (hI h a0 9).toNatClampNeg) = (2 : Int32) then
    if a8 = 0 then
      gs h (hR h a0 8) 22 <|
      gb (ib (hI h a0 9) (hN h (hR h a0 8))) <|
      f_X11_wantNumber_L158 h a0 a2 a4 a6 a7 a0 (hL h (hR h a0 8) (hI h a0 9).toNatClampNeg)
    else
      gs h (hR h a0 8) 22 <|
      gb (ib (hI h a0 9) (hN h (hR h a0 8))) <|
      f_X11_wantNumber_L158 h a0 a2 a4 a6 a7 a0 (-(hL h (hR h a0 8) (hI h a0 9).toNatClampNeg))
  else
    bd (f_X11_refuse h a0) fun q10 =>
    gb (q10.1 == 0 || q10.1 == 1) <|
    some (q10.1, q10.2)
def f_X11_wantNumber_L95 (h : AH) (a0 : Nat) (a2 : Int64) (a4 : Int64) (a6 : Int32) (a7 : Int32) (s0 : Int32) : Option (Int32 × AH) :=
  if s0 = 0 then
    f_X11_wantNumber_L112 h a0 a2 a4 a6 a7 s0
  else
    gs h a0 10 <|
    lt (sI h a0 9 ((hI h a0 9) + (1 : Int32))) fun h3 =>
    f_X11_wantNumber_L112 h3 a0 a2 a4 a6 a7 s0
def f_X11_wantNumber_L94 (h : AH) (a0 : Nat) (a2 : Int64) (a4 : Int64) (a6 : Int32) (a7 : Int32) : Option (Int32 × AH) :=
  f_X11_wantNumber_L95 h a0 a2 a4 a6 a7 (0 : Int32)
def f_X11_wantNumber_L29 (h : AH) (a0 : Nat) (a1 : Int32) (a2 : Int64) (a4 : Int64) (a6 : Int32) (a7 : Int32) (s0 : Nat) (s1 : Int32) : Option (Int32 × AH) :=
  gs h s0 10 <|
  gb (s1 == 0 || s1 == 1) <|
  lt (sI h s0 73 s1) fun h3 =>
  gs h3 a0 10 <|
  if (hI h3 a0 73) = 0 then
    if ¬ a1 = 0 then
      f_X11_wantNumber_L94 h3 a0 a2 a4 a6 a7
    else
      bd (f_X11_isSign h3 a0 (45 : Int32)) fun v7 =>
      if v7 = 0 then
        f_X11_wantNumber_L94 h3 a0 a2 a4 a6 a7
      else
        f_X11_wantNumber_L95 h3 a0 a2 a4 a6 a7 (1 : Int32)
  else
    gs h3 (hR h3 a0 8) 22 <|
    gb (ib (hI h3 a0 9) (hN h3 (hR h3 a0 8))) <|
    lt (sL h3 a0 74 (hL h3 (hR h3 a0 8) (hI h3 a0 9).toNatClampNeg)) fun h11 =>
    gs h11 (hR h11 a0 7) 21 <|
    gb (ib (hI h11 a0 9) (hN h11 (hR h11 a0 7))) <|
    lt (sI h11 a0 75 (hI h11 (hR h11 a0 7) (hI h11 a0 9).toNatClampNeg)) fun h15 =>
    lt (sI h15 a0 9 ((hI h15 a0 9) + (1 : Int32))) fun h17 =>
    some ((1 : Int32), h17)
def f_X11_wantNumber_L28 (h : AH) (a0 : Nat) (a1 : Int32) (a2 : Int64) (a4 : Int64) (a6 : Int32) (a7 : Int32) (s0 : Nat) : Option (Int32 × AH) :=
  f_X11_wantNumber_L29 h a0 a1 a2 a4 a6 a7 s0 (0 : Int32)
def f_X11_wantNumber (h : AH) (a0 : Nat) (a1 : Int32) (a2 : Int64) (a4 : Int64) (a6 : Int32) : Option (Int32 × AH) :=
  gs h a0 10 <|
  lt ((hI h a0 9)) fun x2 =>
  if ¬ a1 = 0 then
    f_X11_wantNumber_L28 h a0 a1 a2 a4 a6 x2 a0
  else
    gs h (hR h a0 6) 21 <|
    gb (ib (hI h a0 9) (hN h (hR h a0 6))) <|
    if ¬ (hI h (hR h a0 6) (hI h a0 9).toNatClampNeg) = (1 : Int32) then
      f_X11_wantNumber_L28 h a0 a1 a2 a4 a6 x2 a0
    else
      f_X11_wantNumber_L29 h a0 a1 a2 a4 a6 x2 a0 (1 : Int32)
def f_X11_leastOf_L33 (h : AH)  : Option (Int64) :=
  some (0 : Int64)
def f_X11_leastOf (h : AH) (a0 : Int32) : Option (Int64) :=
  if ¬ a0 = (2 : Int32) then
    if ¬ a0 = (4 : Int32) then
      if a0 = (3 : Int32) then
        f_X11_leastOf_L33 h 
      else
        if ¬ a0 = (6 : Int32) then
          if ¬ a0 = (5 : Int32) then
            some (-2048 : Int64)
          else
            some (-2147483648 : Int64)
        else
          f_X11_leastOf_L33 h 
    else
      some (-1048576 : Int64)
  else
    some (-4096 : Int64)
def f_X11_mostOf (h : AH) (a0 : Int32) : Option (Int64) :=
  if ¬ a0 = (2 : Int32) then
    if ¬ a0 = (4 : Int32) then
      if ¬ a0 = (3 : Int32) then
        if ¬ a0 = (6 : Int32) then
          if ¬ a0 = (5 : Int32) then
            some (2047 : Int64)
          else
            some (4294967295 : Int64)
        else
          some (31 : Int64)
      else
        some (1048575 : Int64)
    else
      some (1048574 : Int64)
  else
    some (4094 : Int64)
def f_X11_multipleOf_L10 (h : AH)  : Option (Int32) :=
  some (2 : Int32)
def f_X11_multipleOf (h : AH) (a0 : Int32) : Option (Int32) :=
  if a0 = (2 : Int32) then
    f_X11_multipleOf_L10 h 
  else
    if ¬ a0 = (4 : Int32) then
      some (1 : Int32)
    else
      f_X11_multipleOf_L10 h 
