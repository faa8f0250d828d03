def f_X11_put (h : AH) (a0 : Int32) (a1 : Int64) : Option (Int32) :=
  lt ((a1.toInt32)) fun x1 =>
  if a0 = (0 : Int32) then
    some (x1 <<< ((20 : Int32) &&& 31))
  else
    if a0 = (1 : Int32) then
      some (((x1 >>> ((5 : Int32) &&& 31)) <<< ((25 : Int32) &&& 31)) ||| ((x1 &&& (31 : Int32)) <<< ((7 : Int32) &&& 31)))
    else
      if a0 = (2 : Int32) then
        some ((((((x1 >>> ((12 : Int32) &&& 31)) &&& (1 : Int32)) <<< ((31 : Int32) &&& 31)) ||| (((x1 >>> ((5 : Int32) &&& 31)) &&& (63 : Int32)) <<< ((25 : Int32) &&& 31))) ||| (((x1 >>> ((1 : Int32) &&& 31)) &&& (15 : Int32)) <<< ((8 : Int32) &&& 31))) ||| (((x1 >>> ((11 : Int32) &&& 31)) &&& (1 : Int32)) <<< ((7 : Int32) &&& 31)))
      else
        if a0 = (3 : Int32) then
          some (x1 <<< ((12 : Int32) &&& 31))
        else
          if a0 = (4 : Int32) then
            some ((((((x1 >>> ((20 : Int32) &&& 31)) &&& (1 : Int32)) <<< ((31 : Int32) &&& 31)) ||| (((x1 >>> ((1 : Int32) &&& 31)) &&& (1023 : Int32)) <<< ((21 : Int32) &&& 31))) ||| (((x1 >>> ((11 : Int32) &&& 31)) &&& (1 : Int32)) <<< ((20 : Int32) &&& 31))) ||| (((x1 >>> ((12 : Int32) &&& 31)) &&& (255 : Int32)) <<< ((12 : Int32) &&& 31)))
          else
            if a0 = (6 : Int32) then
              some (x1 <<< ((20 : Int32) &&& 31))
            else
              if a0 = (7 : Int32) then
                some ((x1 - ((x1 <<< ((20 : Int32) &&& 31)) >>> ((20 : Int32) &&& 31))) &&& (-4096 : Int32))
              else
                if a0 = (8 : Int32) then
                  some (x1 <<< ((20 : Int32) &&& 31))
                else
                  some x1
def f_X11_wantN (h : AH) (a0 : Nat) (a1 : Int32) : Option (Int32 × AH) :=
  bd (f_X11_leastOf h a1) fun v1 =>
  bd (f_X11_mostOf h a1) fun v2 =>
  bd (f_X11_multipleOf h a1) fun v3 =>
  gs h a0 10 <|
  bd (f_X11_wantNumber h a0 (0 : Int32) v1 v2 v3) fun q5 =>
  if ¬ q5.1 = 0 then
    gs q5.2 a0 10 <|
    lt (sI q5.2 a0 76 a1) fun h8 =>
    some ((1 : Int32), h8)
  else
    some ((0 : Int32), q5.2)
def f_X11_wantComma (h : AH) (a0 : Nat) : Option (Int32 × AH) :=
  gs h a0 10 <|
  bd (f_X11_wantSign h a0 (44 : Int32)) fun q2 =>
  gb (q2.1 == 0 || q2.1 == 1) <|
  some (q2.1, q2.2)
def f_X11_wantBase (h : AH) (a0 : Nat) : Option (Int32 × AH) :=
  gs h a0 10 <|
  bd (f_X11_wantSign h a0 (40 : Int32)) fun q2 =>
  if q2.1 = 0 then
    some ((0 : Int32), q2.2)
  else
    gs q2.2 a0 10 <|
    bd (f_X11_wantRegister q2.2 a0 (15 : Int32)) fun q5 =>
    if q5.1 = 0 then
      some ((0 : Int32), q5.2)
    else
      gs q5.2 a0 10 <|
      bd (f_X11_wantSign q5.2 a0 (41 : Int32)) fun q8 =>
      if q8.1 = 0 then
        some ((0 : Int32), q8.2)
      else
        some ((1 : Int32), q8.2)
def f_X11_wantParts_L225 (h : AH) (s0 : Int32) : Option (Int32 × AH) :=
  if s0 = 0 then
    some ((0 : Int32), h)
  else
    some ((1 : Int32), h)
def f_X11_wantParts_L353 (h : AH) (a0 : Nat) (s0 : Int32) : Option (Int32 × AH) :=
  if s0 = 0 then
    some ((0 : Int32), h)
  else
    gs h a0 10 <|
    bd (f_X11_wantComma h a0) fun q3 =>
    if q3.1 = 0 then
      some ((0 : Int32), q3.2)
    else
      gs q3.2 a0 10 <|
      bd (f_X11_wantN q3.2 a0 (4 : Int32)) fun q6 =>
      if q6.1 = 0 then
        some ((0 : Int32), q6.2)
      else
        some ((1 : Int32), q6.2)
def f_X11_wantParts_L489 (h : AH) (s0 : Int32) : Option (Int32 × AH) :=
  gb (s0 == 0 || s0 == 1) <|
  some (s0, h)
def f_X11_wantParts_L18 (h : AH) (a0 : Nat) (a1 : Int32) (s0 : Int32) : Option (Int32 × AH) :=
  if a1 = (0 : Int32) then
    gs h a0 10 <|
    bd (f_X11_wantRegister h a0 (7 : Int32)) fun q3 =>
    if q3.1 = 0 then
      some ((0 : Int32), q3.2)
    else
      gs q3.2 a0 10 <|
      bd (f_X11_wantComma q3.2 a0) fun q6 =>
      if q6.1 = 0 then
        some ((0 : Int32), q6.2)
      else
        gs q6.2 a0 10 <|
        bd (f_X11_wantRegister q6.2 a0 (15 : Int32)) fun q9 =>
        if q9.1 = 0 then
          some ((0 : Int32), q9.2)
        else
          gs q9.2 a0 10 <|
          bd (f_X11_wantComma q9.2 a0) fun q12 =>
          if q12.1 = 0 then
            some ((0 : Int32), q12.2)
          else
            gs q12.2 a0 10 <|
            bd (f_X11_wantRegister q12.2 a0 (20 : Int32)) fun q15 =>
            if q15.1 = 0 then
              some ((0 : Int32), q15.2)
            else
              some ((1 : Int32), q15.2)
  else
    if a1 = (1 : Int32) then
      gs h a0 10 <|
      bd (f_X11_wantRegister h a0 (7 : Int32)) fun q19 =>
      if q19.1 = 0 then
        some ((0 : Int32), q19.2)
      else
        gs q19.2 a0 10 <|
        bd (f_X11_wantComma q19.2 a0) fun q22 =>
        if q22.1 = 0 then
          some ((0 : Int32), q22.2)
        else
          gs q22.2 a0 10 <|
          bd (f_X11_wantRegister q22.2 a0 (15 : Int32)) fun q25 =>
          if q25.1 = 0 then
            some ((0 : Int32), q25.2)
          else
            gs q25.2 a0 10 <|
            bd (f_X11_wantComma q25.2 a0) fun q28 =>
            if q28.1 = 0 then
              some ((0 : Int32), q28.2)
            else
              gs q28.2 a0 10 <|
              bd (f_X11_wantN q28.2 a0 s0) fun q31 =>
              if q31.1 = 0 then
                some ((0 : Int32), q31.2)
              else
                some ((1 : Int32), q31.2)
    else
      if a1 = (2 : Int32) then
        gs h a0 10 <|
        bd (f_X11_wantRegister h a0 (7 : Int32)) fun q35 =>
        if q35.1 = 0 then
          some ((0 : Int32), q35.2)
        else
          gs q35.2 a0 10 <|
          bd (f_X11_wantComma q35.2 a0) fun q38 =>
          if q38.1 = 0 then
            some ((0 : Int32), q38.2)
          else
            gs q38.2 a0 10 <|
            bd (f_X11_wantN q38.2 a0 (0 : Int32)) fun q41 =>
            if q41.1 = 0 then
              some ((0 : Int32), q41.2)
            else
              gs q41.2 a0 10 <|
              bd (f_X11_wantBase q41.2 a0) fun q44 =>
              f_X11_wantParts_L225 q44.2 q44.1
      else
        if a1 = (3 : Int32) then
          gs h a0 10 <|
          bd (f_X11_wantRegister h a0 (20 : Int32)) fun q47 =>
          if q47.1 = 0 then
            some ((0 : Int32), q47.2)
          else
            gs q47.2 a0 10 <|
            bd (f_X11_wantComma q47.2 a0) fun q50 =>
            if q50.1 = 0 then
              some ((0 : Int32), q50.2)
            else
              gs q50.2 a0 10 <|
              bd (f_X11_wantN q50.2 a0 (1 : Int32)) fun q53 =>
              if q53.1 = 0 then
                some ((0 : Int32), q53.2)
              else
                gs q53.2 a0 10 <|
                bd (f_X11_wantBase q53.2 a0) fun q56 =>
                if q56.1 = 0 then
                  some ((0 : Int32), q56.2)
                else
                  some ((1 : Int32), q56.2)
        else
          if a1 = (4 : Int32) then
            gs h a0 10 <|
            bd (f_X11_wantRegister h a0 (15 : Int32)) fun q60 =>
            if q60.1 = 0 then
              some ((0 : Int32), q60.2)
            else
              gs q60.2 a0 10 <|
              bd (f_X11_wantComma q60.2 a0) fun q63 =>
              if q63.1 = 0 then
                some ((0 : Int32), q63.2)
              else
                gs q63.2 a0 10 <|
                bd (f_X11_wantRegister q63.2 a0 (20 : Int32)) fun q66 =>
                if q66.1 = 0 then
                  some ((0 : Int32), q66.2)
                else
                  gs q66.2 a0 10 <|
                  bd (f_X11_wantComma q66.2 a0) fun q69 =>
                  if q69.1 = 0 then
                    some ((0 : Int32), q69.2)
                  else
                    gs q69.2 a0 10 <|
                    bd (f_X11_wantN q69.2 a0 (2 : Int32)) fun q72 =>
                    if q72.1 = 0 then
                      some ((0 : Int32), q72.2)
                    else
                      some ((1 : Int32), q72.2)
          else
            if a1 = (5 : Int32) then
              gs h a0 10 <|
              bd (f_X11_wantRegister h a0 (7 : Int32)) fun q76 =>
              if q76.1 = 0 then
                some ((0 : Int32), q76.2)
              else
                gs q76.2 a0 10 <|
                bd (f_X11_wantComma q76.2 a0) fun q79 =>
                if q79.1 = 0 then
                  some ((0 : Int32), q79.2)
                else
                  gs q79.2 a0 10 <|
                  bd (f_X11_wantN q79.2 a0 (3 : Int32)) fun q82 =>
                  if q82.1 = 0 then
                    some ((0 : Int32), q82.2)
                  else
                    some ((1 : Int32), q82.2)
            else
              if a1 = (6 : Int32) then
                gs h a0 10 <|
                bd (f_X11_wantRegister h a0 (7 : Int32)) fun q86 =>
                f_X11_wantParts_L353 q86.2 a0 q86.1
              else
                if a1 = (7 : Int32) then
                  gs h a0 10 <|
                  bd (f_X11_wantRegister h a0 (7 : Int32)) fun q89 =>
                  if q89.1 = 0 then
                    some ((0 : Int32), q89.2)
                  else
                    gs q89.2 a0 10 <|
                    bd (f_X11_wantComma q89.2 a0) fun q92 =>
                    if q92.1 = 0 then
                      some ((0 : Int32), q92.2)
                    else
                      gs q92.2 a0 10 <|
                      bd (f_X11_wantRegister q92.2 a0 (20 : Int32)) fun q95 =>
                      if q95.1 = 0 then
                        some ((0 : Int32), q95.2)
                      else
                        gs q95.2 a0 10 <|
                        bd (f_X11_wantComma q95.2 a0) fun q98 =>
                        if q98.1 = 0 then
                          some ((0 : Int32), q98.2)
                        else
                          gs q98.2 a0 10 <|
                          bd (f_X11_wantBase q98.2 a0) fun q101 =>
                          if q101.1 = 0 then
                            some ((0 : Int32), q101.2)
                          else
                            some ((1 : Int32), q101.2)
                else
                  if a1 = (9 : Int32) then
                    gs h a0 10 <|
                    bd (f_X11_wantRegister h a0 (7 : Int32)) fun q105 =>
                    if q105.1 = 0 then
                      some ((0 : Int32), q105.2)
                    else
                      gs q105.2 a0 10 <|
                      bd (f_X11_wantComma q105.2 a0) fun q108 =>
                      if q108.1 = 0 then
                        some ((0 : Int32), q108.2)
                      else
                        gs q108.2 a0 10 <|
                        bd (f_X11_wantRegister q108.2 a0 (15 : Int32)) fun q111 =>
                        if q111.1 = 0 then
                          some ((0 : Int32), q111.2)
                        else
                          some ((1 : Int32), q111.2)
                  else
                    if a1 = (10 : Int32) then
                      gs h a0 10 <|
                      bd (f_X11_wantRegister h a0 (7 : Int32)) fun q115 =>
                      if q115.1 = 0 then
                        some ((0 : Int32), q115.2)
                      else
                        gs q115.2 a0 10 <|
                        bd (f_X11_wantComma q115.2 a0) fun q118 =>
                        if q118.1 = 0 then
                          some ((0 : Int32), q118.2)
                        else
                          gs q118.2 a0 10 <|
                          bd (f_X11_wantRegister q118.2 a0 (20 : Int32)) fun q121 =>
                          if q121.1 = 0 then
                            some ((0 : Int32), q121.2)
                          else
                            some ((1 : Int32), q121.2)
                    else
                      if a1 = (11 : Int32) then
                        gs h a0 10 <|
                        bd (f_X11_wantN h a0 (4 : Int32)) fun q125 =>
                        f_X11_wantParts_L489 q125.2 q125.1
                      else
                        if a1 = (12 : Int32) then
                          gs h a0 10 <|
                          bd (f_X11_wantRegister h a0 (15 : Int32)) fun q128 =>
                          if q128.1 = 0 then
                            some ((0 : Int32), q128.2)
                          else
                            gs q128.2 a0 10 <|
                            bd (f_X11_wantComma q128.2 a0) fun q131 =>
                            if q131.1 = 0 then
                              some ((0 : Int32), q131.2)
                            else
                              gs q131.2 a0 10 <|
                              bd (f_X11_wantN q131.2 a0 (2 : Int32)) fun q134 =>
                              if q134.1 = 0 then
                                some ((0 : Int32), q134.2)
                              else
                                some ((1 : Int32), q134.2)
                        else
                          if a1 = (13 : Int32) then
                            gs h a0 10 <|
                            bd (f_X11_wantRegister h a0 (7 : Int32)) fun q138 =>
                            if q138.1 = 0 then
                              some ((0 : Int32), q138.2)
                            else
                              gs q138.2 a0 10 <|
                              bd (f_X11_wantComma q138.2 a0) fun q141 =>
                              if q141.1 = 0 then
                                some ((0 : Int32), q141.2)
                              else
                                gs q141.2 a0 10 <|
                                bd (f_X11_wantN q141.2 a0 (5 : Int32)) fun q144 =>
                                if q144.1 = 0 then
                                  some ((0 : Int32), q144.2)
                                else
                                  some ((1 : Int32), q144.2)
                          else
                            if a1 = (14 : Int32) then
                              gs h a0 10 <|
                              bd (f_X11_wantN h a0 (5 : Int32)) fun q148 =>
                              gb (q148.1 == 0 || q148.1 == 1) <|
                              some (q148.1, q148.2)
                            else
                              if a1 = (15 : Int32) then
                                gs h a0 10 <|
                                bd (f_X11_wantNumber h a0 (1 : Int32) (0 : Int64) (8188 : Int64) (4 : Int32)) fun q152 =>
                                gb (q152.1 == 0 || q152.1 == 1) <|
                                some (q152.1, q152.2)
                              else
                                if a1 = (16 : Int32) then
                                  gs h a0 10 <|
                                  bd (f_X11_wantNumber h a0 (1 : Int32) (0 : Int64) (15 : Int64) (1 : Int32)) fun q156 =>
                                  gb (q156.1 == 0 || q156.1 == 1) <|
                                  some (q156.1, q156.2)
                                else
                                  some ((1 : Int32), h)
def f_X11_wantParts_L17 (h : AH) (a0 : Nat) (a1 : Int32) : Option (Int32 × AH) :=
  f_X11_wantParts_L18 h a0 a1 (0 : Int32)
def f_X11_wantParts (h : AH) (a0 : Nat) (a1 : Int32) (a2 : Int32) : Option (Int32 × AH) :=
  if a2 ≤ (15 : Int32) then
    f_X11_wantParts_L17 h a0 a1
  else
    if (19 : Int32) ≤ a2 then
      f_X11_wantParts_L17 h a0 a1
    else
      f_X11_wantParts_L18 h a0 a1 (6 : Int32)
def f_X11_lay_L92 (h : AH) (a0 : Nat) (s0 : Nat) (s1 : Int32) (s2 : Int32) : Option (AH) :=
  gs h s0 21 <|
  gb (ib s1 (hN h s0)) <|
  lt (sI h s0 s1.toNatClampNeg s2) fun h3 =>
  gs h3 a0 10 <|
  gs h3 (hR h3 a0 17) 22 <|
  gb (ib (hI h3 a0 13) (hN h3 (hR h3 a0 17))) <|
  lt (sL h3 (hR h3 a0 17) (hI h3 a0 13).toNatClampNeg (hL h3 a0 74)) fun h7 =>
  gs h7 (hR h7 a0 18) 21 <|
  gb (ib (hI h7 a0 13) (hN h7 (hR h7 a0 18))) <|
  lt (sI h7 (hR h7 a0 18) (hI h7 a0 13).toNatClampNeg (hI h7 a0 75)) fun h11 =>
  lt (sI h11 a0 13 ((hI h11 a0 13) + (1 : Int32))) fun h13 =>
  lt (sI h13 a0 20 ((hI h13 a0 20) + (4 : Int32))) fun h15 =>
  some h15
def f_X11_lay_L70 (h : AH) (a0 : Nat) (a2 : Int32) (s0 : Nat) (s1 : Int32) (s2 : Int32) (s3 : Int32) : Option (AH) :=
  gs h s0 21 <|
  gb (ib s1 (hN h s0)) <|
  lt (sI h s0 s1.toNatClampNeg (s2 ||| s3)) fun h3 =>
  gs h3 a0 10 <|
  if (hI h3 a0 73) = 0 then
    f_X11_lay_L92 h3 a0 (hR h3 a0 16) (hI h3 a0 13) (-1 : Int32)
  else
    f_X11_lay_L92 h3 a0 (hR h3 a0 16) (hI h3 a0 13) a2
def f_X11_lay_L58 (h : AH) (a0 : Nat) (a2 : Int32) (s0 : Nat) (s1 : Int32) (s2 : Int32) : Option (AH) :=
  f_X11_lay_L70 h a0 a2 s0 s1 s2 (0 : Int32)
def f_X11_lay_L21 (h : AH) (a0 : Nat) (a2 : Int32) : Option (AH) :=
  gs h a0 10 <|
  gs h (hR h a0 14) 21 <|
  gb (ib (hI h a0 13) (hN h (hR h a0 14))) <|
  lt (sI h (hR h a0 14) (hI h a0 13).toNatClampNeg (hI h a0 20)) fun h4 =>
  if a2 = (-1 : Int32) then
    f_X11_lay_L58 h4 a0 a2 (hR h4 a0 15) (hI h4 a0 13) (hI h4 a0 71)
  else
    if (hI h4 a0 73) = 0 then
      bd (f_X11_put h4 a2 (hL h4 a0 72)) fun v8 =>
      f_X11_lay_L70 h4 a0 a2 (hR h4 a0 15) (hI h4 a0 13) (hI h4 a0 71) v8
    else
      f_X11_lay_L58 h4 a0 a2 (hR h4 a0 15) (hI h4 a0 13) (hI h4 a0 71)
def f_X11_lay (h : AH) (a0 : Nat) (a1 : Int32) (a2 : Int32) : Option (AH) :=
  gs h a0 10 <|
  if (hI h a0 20) ≤ (8191 : Int32) then
    f_X11_lay_L21 h a0 a2
  else
    gs h (hR h a0 7) 21 <|
    gb (ib a1 (hN h (hR h a0 7))) <|
    bd (f_X11_note h a0 (3 : Int32) (hI h (hR h a0 7) a1.toNatClampNeg)) fun q5 =>
    f_X11_lay_L21 q5 a0 a2
def f_X11_layLi_L49 (h : AH) (a0 : Nat) (a1 : Int32) (a2 : Int32) : Option (AH) :=
  gs h a0 10 <|
  lt (sI h a0 71 ((55 : Int32) ||| a2)) fun h2 =>
  bd (f_X11_lay h2 a0 a1 (7 : Int32)) fun q4 =>
  gs q4 a0 10 <|
  lt (sI q4 a0 71 (((19 : Int32) ||| a2) ||| (a2 <<< ((8 : Int32) &&& 31)))) fun h6 =>
  bd (f_X11_lay h6 a0 a1 (8 : Int32)) fun q8 =>
  some q8
def f_X11_layLi (h : AH) (a0 : Nat) (a1 : Int32) : Option (AH) :=
  gs h a0 10 <|
  lt ((hI h a0 71)) fun x2 =>
  if ¬ (hI h a0 73) = 0 then
    f_X11_layLi_L49 h a0 a1 x2
  else
    if (lg_cmp (hL h a0 72) (-2048 : Int64)) < 0 then
      f_X11_layLi_L49 h a0 a1 x2
    else
      if 0 < (lg_cmp (hL h a0 72) (2047 : Int64)) then
        f_X11_layLi_L49 h a0 a1 x2
      else
        lt (sI h a0 71 ((19 : Int32) ||| x2)) fun h6 =>
        bd (f_X11_lay h6 a0 a1 (0 : Int32)) fun q8 =>
        some q8
def f_X11_readStatement_L402 (h : AH) (a0 : Nat) : Option (Int32 × AH) :=
  gs h a0 10 <|
  bd (f_X11_wantSign h a0 (59 : Int32)) fun q2 =>
  gb (q2.1 == 0 || q2.1 == 1) <|
  some (q2.1, q2.2)
def f_X11_readStatement_L363 (h : AH) (a0 : Nat) (a1 : Int32) (a2 : Int32) : Option (Int32 × AH) :=
  gs h a0 10 <|
  gs h (hR h a0 69) 21 <|
  gb (ib a2 (hN h (hR h a0 69))) <|
  if ¬ (hI h (hR h a0 69) a2.toNatClampNeg) = (13 : Int32) then
    gb (ib a2 (hN h (hR h a0 69))) <|
    if (hI h (hR h a0 69) a2.toNatClampNeg) = (16 : Int32) then
      f_X11_readStatement_L402 h a0
    else
      bd (f_X11_lay h a0 a1 (hI h a0 76)) fun q7 =>
      f_X11_readStatement_L402 q7 a0
  else
    bd (f_X11_layLi h a0 a1) fun q8 =>
    f_X11_readStatement_L402 q8 a0
def f_X11_readStatement_L318 (h : AH) (a0 : Nat) (s0 : Nat) (s1 : Int32) : Option (Int32 × AH) :=
  gs h s0 10 <|
  lt (sI h s0 20 s1) fun h2 =>
  f_X11_readStatement_L402 h2 a0
def f_X11_readStatement_L315 (h : AH) (a0 : Nat) (s0 : Nat) : Option (Int32 × AH) :=
  f_X11_readStatement_L318 h a0 s0 (8192 : Int32)
def f_X11_readStatement_L211 (h : AH) (a0 : Nat) : Option (Int32 × AH) :=
  gs h a0 10 <|
  bd (f_X11_refuse h a0) fun q2 =>
  gb (q2.1 == 0 || q2.1 == 1) <|
  some (q2.1, q2.2)
def f_X11_readStatement_L149 (h : AH) (a0 : Nat) : Option (Int32 × AH) :=
  gs h a0 10 <|
  gs h (hR h a0 6) 21 <|
  gb (ib (hI h a0 9) (hN h (hR h a0 6))) <|
  if ¬ (hI h (hR h a0 6) (hI h a0 9).toNatClampNeg) = (1 : Int32) then
    f_X11_readStatement_L402 h a0
  else
    lt ((hI h a0 9)) fun x5 =>
    gs h (hR h a0 8) 22 <|
    gb (ib (hI h a0 9) (hN h (hR h a0 8))) <|
    bd (f_X11_opOf h a0 (hL h (hR h a0 8) (hI h a0 9).toNatClampNeg)) fun q8 =>
    lt (q8.1) fun x9 =>
    if ¬ x9 = (-1 : Int32) then
      gs q8.2 a0 10 <|
      lt (sI q8.2 a0 9 ((hI q8.2 a0 9) + (1 : Int32))) fun h12 =>
      gs h12 (hR h12 a0 70) 21 <|
      gb (ib x9 (hN h12 (hR h12 a0 70))) <|
      lt (sI h12 a0 71 (hI h12 (hR h12 a0 70) x9.toNatClampNeg)) fun h16 =>
      lt (sI h16 a0 76 (-1 : Int32)) fun h18 =>
      lt (sI h18 a0 73 (0 : Int32)) fun h20 =>
      gs h20 (hR h20 a0 69) 21 <|
      gb (ib x9 (hN h20 (hR h20 a0 69))) <|
      bd (f_X11_wantParts h20 a0 (hI h20 (hR h20 a0 69) x9.toNatClampNeg) x9) fun q24 =>
      if ¬ q24.1 = 0 then
        gs q24.2 a0 10 <|
        gs q24.2 (hR q24.2 a0 69) 21 <|
        gb (ib x9 (hN q24.2 (hR q24.2 a0 69))) <|
        if ¬ (hI q24.2 (hR q24.2 a0 69) x9.toNatClampNeg) = (15 : Int32) then
          gb (ib x9 (hN q24.2 (hR q24.2 a0 69))) <|
          if ¬ (hI q24.2 (hR q24.2 a0 69) x9.toNatClampNeg) = (16 : Int32) then
            f_X11_readStatement_L363 q24.2 a0 x5 x9
          else
            if 0 ≤ (lg_cmp (hL q24.2 a0 72) (16 : Int64)) then
              f_X11_readStatement_L363 q24.2 a0 x5 x9
            else
              gs q24.2 (hR q24.2 a0 19) 21 <|
              gb (ib ((hL q24.2 a0 72).toInt32) (hN q24.2 (hR q24.2 a0 19))) <|
              lt (sI q24.2 (hR q24.2 a0 19) ((hL q24.2 a0 72).toInt32).toNatClampNeg (hI q24.2 a0 20)) fun h35 =>
              f_X11_readStatement_L402 h35 a0
        else
          if (lg_cmp (hL q24.2 a0 72) (0 : Int64)) < 0 then
            f_X11_readStatement_L315 q24.2 a0 a0
          else
            if 0 < (lg_cmp (hL q24.2 a0 72) (8188 : Int64)) then
              f_X11_readStatement_L315 q24.2 a0 a0
            else
              if ¬ (lg_cmp ((hL q24.2 a0 72) - (hL q24.2 a0 72) / (4 : Int64) * (4 : Int64)) (0 : Int64)) = 0 then
                f_X11_readStatement_L315 q24.2 a0 a0
              else
                f_X11_readStatement_L318 q24.2 a0 a0 (hL q24.2 a0 72).toInt32
      else
        some ((0 : Int32), q24.2)
    else
      gs q8.2 a0 10 <|
      gs q8.2 (hR q8.2 a0 6) 21 <|
      gb (ib ((hI q8.2 a0 9) + (1 : Int32)) (hN q8.2 (hR q8.2 a0 6))) <|
      if ¬ (hI q8.2 (hR q8.2 a0 6) ((hI q8.2 a0 9) + (1 : Int32)).toNatClampNeg) = (4 : Int32) then
        f_X11_readStatement_L211 q8.2 a0
      else
        lt (sI q8.2 a0 9 ((hI q8.2 a0 9) + (1 : Int32))) fun h43 =>
        f_X11_readStatement_L211 h43 a0
def f_X11_readStatement_L89 (k0 : AH → Nat → Option (Int32 × AH)) (k48 : AH → Nat → Int32 → Option (Int32 × AH)) (h : AH) (a0 : Nat) (a1 : Int32) : Option (Int32 × AH) :=
  lt (a1 + (1 : Int32)) fun x1 =>
  k48 h a0 x1
def f_X11_readStatement_L48 (k0 : AH → Nat → Option (Int32 × AH)) : Nat → AH → Nat → Int32 → Option (Int32 × AH)
  | 0, _, _, _ => none
  | n + 1, h, a0, a1 =>
    gs h a0 10 <|
    if (hI h a0 10) ≤ a1 then
      gs h (hR h a0 8) 22 <|
      gb (ib (hI h a0 9) (hN h (hR h a0 8))) <|
      gs h (hR h a0 11) 22 <|
      gb (ib (hI h a0 10) (hN h (hR h a0 11))) <|
      lt (sL h (hR h a0 11) (hI h a0 10).toNatClampNeg (hL h (hR h a0 8) (hI h a0 9).toNatClampNeg)) fun h7 =>
      gs h7 (hR h7 a0 12) 21 <|
      gb (ib (hI h7 a0 10) (hN h7 (hR h7 a0 12))) <|
      lt (sI h7 (hR h7 a0 12) (hI h7 a0 10).toNatClampNeg (hI h7 a0 20)) fun h11 =>
      lt (sI h11 a0 10 ((hI h11 a0 10) + (1 : Int32))) fun h13 =>
      lt (sI h13 a0 9 ((hI h13 a0 9) + (2 : Int32))) fun h15 =>
      k0 h15 a0
    else
      gs h (hR h a0 11) 22 <|
      gb (ib a1 (hN h (hR h a0 11))) <|
      gs h (hR h a0 8) 22 <|
      gb (ib (hI h a0 9) (hN h (hR h a0 8))) <|
      if ¬ (lg_cmp (hL h (hR h a0 11) a1.toNatClampNeg) (hL h (hR h a0 8) (hI h a0 9).toNatClampNeg)) = 0 then
        f_X11_readStatement_L89 k0 (f_X11_readStatement_L48 k0 n) h a0 a1
      else
        gs h (hR h a0 7) 21 <|
        gb (ib (hI h a0 9) (hN h (hR h a0 7))) <|
        bd (f_X11_note h a0 (2 : Int32) (hI h (hR h a0 7) (hI h a0 9).toNatClampNeg)) fun q23 =>
        f_X11_readStatement_L89 k0 (f_X11_readStatement_L48 k0 n) q23 a0 a1
def f_X11_readStatement_L0 : Nat → AH → Nat → Option (Int32 × AH)
  | 0, _, _ => none
  | n + 1, h, a0 =>
    gs h a0 10 <|
    gs h (hR h a0 6) 21 <|
    gb (ib (hI h a0 9) (hN h (hR h a0 6))) <|
    if ¬ (hI h (hR h a0 6) (hI h a0 9).toNatClampNeg) = (1 : Int32) then
      f_X11_readStatement_L149 h a0
    else
      gb (ib ((hI h a0 9) + (1 : Int32)) (hN h (hR h a0 6))) <|
      if ¬ (hI h (hR h a0 6) ((hI h a0 9) + (1 : Int32)).toNatClampNeg) = (3 : Int32) then
        f_X11_readStatement_L149 h a0
      else
        gs h (hR h a0 8) 22 <|
        gb (ib ((hI h a0 9) + (1 : Int32)) (hN h (hR h a0 8))) <|
        if ¬ (lg_cmp (hL h (hR h a0 8) ((hI h a0 9) + (1 : Int32)).toNatClampNeg) (58 : Int64)) = 0 then
          f_X11_readStatement_L149 h a0
        else
          lt ((0 : Int32)) fun x10 =>
          f_X11_readStatement_L48 (f_X11_readStatement_L0 n) FU h a0 x10
def f_X11_readStatement (h : AH) (a0 : Nat) : Option (Int32 × AH) :=
  f_X11_readStatement_L0 FU h a0
def f_X11_resolve_L155 (h : AH) (a0 : Nat) (a1 : Int32) (a3 : Int32) (a4 : Int32) : Option (AH) :=
  gs h a0 10 <|
  gs h (hR h a0 15) 21 <|
  gb (ib a1 (hN h (hR h a0 15))) <|
  bd (f_X11_put h a3 (a4.toInt64)) fun v4 =>
  gb (ib a1 (hN h (hR h a0 15))) <|
  lt (sI h (hR h a0 15) a1.toNatClampNeg ((hI h (hR h a0 15) a1.toNatClampNeg) ||| v4)) fun h6 =>
  some h6
def f_X11_resolve_L144 (h : AH) (a0 : Nat) (a1 : Int32) (a3 : Int32) (a4 : Int32) : Option (AH) :=
  gs h a0 10 <|
  gs h (hR h a0 18) 21 <|
  gb (ib a1 (hN h (hR h a0 18))) <|
  bd (f_X11_note h a0 (3 : Int32) (hI h (hR h a0 18) a1.toNatClampNeg)) fun q4 =>
  f_X11_resolve_L155 q4 a0 a1 a3 a4
def f_X11_resolve_L105 (h : AH) (a0 : Nat) (a1 : Int32) (a3 : Int32) (a4 : Int32) (s0 : Int32) : Option (AH) :=
  if ¬ s0 = 0 then
    f_X11_resolve_L155 h a0 a1 a3 a4
  else
    bd (f_X11_leastOf h a3) fun v2 =>
    if (lg_cmp (a4.toInt64) v2) < 0 then
      f_X11_resolve_L144 h a0 a1 a3 a4
    else
      bd (f_X11_mostOf h a3) fun v4 =>
      if 0 < (lg_cmp (a4.toInt64) v4) then
        f_X11_resolve_L144 h a0 a1 a3 a4
      else
        bd (f_X11_multipleOf h a3) fun v6 =>
        gb (decide (¬ v6 = 0)) <|
        if (a4 - a4 / v6 * v6) = 0 then
          f_X11_resolve_L155 h a0 a1 a3 a4
        else
          f_X11_resolve_L144 h a0 a1 a3 a4
def f_X11_resolve_L100 (h : AH) (a0 : Nat) (a1 : Int32) (a3 : Int32) (a4 : Int32) : Option (AH) :=
  f_X11_resolve_L105 h a0 a1 a3 a4 (1 : Int32)
def f_X11_resolve_L85 (h : AH) (a0 : Nat) (a1 : Int32) (a3 : Int32) (s0 : Int32) (s1 : Int32) : Option (AH) :=
  lt ((s0 - s1)) fun x1 =>
  if a3 = (7 : Int32) then
    f_X11_resolve_L100 h a0 a1 a3 x1
  else
    if ¬ a3 = (8 : Int32) then
      f_X11_resolve_L105 h a0 a1 a3 x1 (0 : Int32)
    else
      f_X11_resolve_L100 h a0 a1 a3 x1
def f_X11_resolve_L75 (h : AH) (a0 : Nat) (a1 : Int32) (a3 : Int32) (s0 : Int32) : Option (AH) :=
  gs h a0 10 <|
  gs h (hR h a0 14) 21 <|
  gb (ib a1 (hN h (hR h a0 14))) <|
  f_X11_resolve_L85 h a0 a1 a3 s0 (hI h (hR h a0 14) a1.toNatClampNeg)
def f_X11_resolve_L32 (h : AH) (a0 : Nat) (a1 : Int32) (a2 : Int32) : Option (AH) :=
  gs h a0 10 <|
  if ¬ a2 = (hI h a0 10) then
    gs h (hR h a0 16) 21 <|
    gb (ib a1 (hN h (hR h a0 16))) <|
    lt ((hI h (hR h a0 16) a1.toNatClampNeg)) fun x5 =>
    gs h (hR h a0 12) 21 <|
    gb (ib a2 (hN h (hR h a0 12))) <|
    if x5 = (2 : Int32) then
      f_X11_resolve_L75 h a0 a1 x5 (hI h (hR h a0 12) a2.toNatClampNeg)
    else
      if ¬ x5 = (4 : Int32) then
        f_X11_resolve_L85 h a0 a1 x5 (hI h (hR h a0 12) a2.toNatClampNeg) (0 : Int32)
      else
        f_X11_resolve_L75 h a0 a1 x5 (hI h (hR h a0 12) a2.toNatClampNeg)
  else
    gs h (hR h a0 18) 21 <|
    gb (ib a1 (hN h (hR h a0 18))) <|
    bd (f_X11_note h a0 (2 : Int32) (hI h (hR h a0 18) a1.toNatClampNeg)) fun q12 =>
    some q12
def f_X11_resolve_L2 : Nat → AH → Nat → Int32 → Int32 → Option (AH)
  | 0, _, _, _, _ => none
  | n + 1, h, a0, a1, a2 =>
    gs h a0 10 <|
    if (hI h a0 10) ≤ a2 then
      f_X11_resolve_L32 h a0 a1 a2
    else
      gs h (hR h a0 11) 22 <|
      gb (ib a2 (hN h (hR h a0 11))) <|
      gs h (hR h a0 17) 22 <|
      gb (ib a1 (hN h (hR h a0 17))) <|
      if (lg_cmp (hL h (hR h a0 11) a2.toNatClampNeg) (hL h (hR h a0 17) a1.toNatClampNeg)) = 0 then
        f_X11_resolve_L32 h a0 a1 a2
      else
        lt (a2 + (1 : Int32)) fun x8 =>
        f_X11_resolve_L2 n h a0 a1 x8
def f_X11_resolve (h : AH) (a0 : Nat) (a1 : Int32) : Option (AH) :=
  lt ((0 : Int32)) fun x1 =>
  f_X11_resolve_L2 FU h a0 a1 x1
def f_X11_readAll_L100 (k73 : AH → Nat → Int32 → Int32 → Option (AH)) (h : AH) (a0 : Nat) (a1 : Int32) (a2 : Int32) : Option (AH) :=
  lt (a2 + (1 : Int32)) fun x1 =>
  k73 h a0 a1 x1
def f_X11_readAll_L73 : Nat → AH → Nat → Int32 → Int32 → Option (AH)
  | 0, _, _, _, _ => none
  | n + 1, h, a0, a1, a2 =>
    gs h a0 10 <|
    if (hI h a0 13) ≤ a2 then
      some h
    else
      if a1 = 0 then
        some h
      else
        gs h (hR h a0 16) 21 <|
        gb (ib a2 (hN h (hR h a0 16))) <|
        if (hI h (hR h a0 16) a2.toNatClampNeg) = (-1 : Int32) then
          f_X11_readAll_L100 (f_X11_readAll_L73 n) h a0 a1 a2
        else
          bd (f_X11_resolve h a0 a2) fun q7 =>
          f_X11_readAll_L100 (f_X11_readAll_L73 n) q7 a0 a1 a2
def f_X11_readAll_L71 (h : AH) (a0 : Nat) (a1 : Int32) : Option (AH) :=
  lt ((0 : Int32)) fun x1 =>
  f_X11_readAll_L73 FU h a0 a1 x1
def f_X11_readAll_L47 : Nat → AH → Nat → Int32 → Option (AH)
  | 0, _, _, _ => none
  | n + 1, h, a0, a1 =>
    if a1 = 0 then
      f_X11_readAll_L71 h a0 a1
    else
      gs h a0 10 <|
      gs h (hR h a0 6) 21 <|
      gb (ib (hI h a0 9) (hN h (hR h a0 6))) <|
      if (hI h (hR h a0 6) (hI h a0 9).toNatClampNeg) = 0 then
        f_X11_readAll_L71 h a0 a1
      else
        bd (f_X11_readStatement h a0) fun q6 =>
        lt (q6.1) fun x7 =>
        f_X11_readAll_L47 n q6.2 a0 x7
def f_X11_readAll_L26 : Nat → AH → Nat → Int32 → Option (AH)
  | 0, _, _, _ => none
  | n + 1, h, a0, a1 =>
    if (16 : Int32) ≤ a1 then
      lt ((1 : Int32)) fun x2 =>
      f_X11_readAll_L47 FU h a0 x2
    else
      gs h a0 10 <|
      gs h (hR h a0 19) 21 <|
      gb (ib a1 (hN h (hR h a0 19))) <|
      lt (sI h (hR h a0 19) a1.toNatClampNeg (0 : Int32)) fun h6 =>
      lt (a1 + (1 : Int32)) fun x7 =>
      f_X11_readAll_L26 n h6 a0 x7
def f_X11_readAll (h : AH) (a0 : Nat) : Option (AH) :=
  gs h a0 10 <|
  bd (f_X11_tokenize h a0) fun q2 =>
  gs q2 a0 10 <|
  lt (sI q2 a0 9 (0 : Int32)) fun h4 =>
  lt (sI h4 a0 10 (0 : Int32)) fun h6 =>
  lt (sI h6 a0 13 (0 : Int32)) fun h8 =>
  lt (sI h8 a0 20 (0 : Int32)) fun h10 =>
  lt ((0 : Int32)) fun x11 =>
  f_X11_readAll_L26 FU h10 a0 x11
def f_X11_assemble_L127 : Nat → AH → Nat → Int32 → Option (Int32 × AH)
  | 0, _, _, _ => none
  | n + 1, h, a0, a1 =>
    if (16 : Int32) ≤ a1 then
      gs h a0 10 <|
      some ((hI h a0 13), h)
    else
      gs h a0 10 <|
      gs h (hR h a0 19) 21 <|
      gb (ib a1 (hN h (hR h a0 19))) <|
      gs h (hR h a0 26) 21 <|
      gb (ib a1 (hN h (hR h a0 26))) <|
      lt (sI h (hR h a0 26) a1.toNatClampNeg ((hI h (hR h a0 19) a1.toNatClampNeg) &&& (8191 : Int32))) fun h8 =>
      lt (a1 + (1 : Int32)) fun x9 =>
      f_X11_assemble_L127 n h8 a0 x9
def f_X11_assemble_L100 : Nat → AH → Nat → Int32 → Option (Int32 × AH)
  | 0, _, _, _ => none
  | n + 1, h, a0, a1 =>
    if (2048 : Int32) ≤ a1 then
      lt ((0 : Int32)) fun x2 =>
      f_X11_assemble_L127 FU h a0 x2
    else
      gs h a0 10 <|
      gs h (hR h a0 23) 21 <|
      gb (ib a1 (hN h (hR h a0 23))) <|
      gs h (hR h a0 24) 21 <|
      gb (ib a1 (hN h (hR h a0 24))) <|
      lt (sI h (hR h a0 24) a1.toNatClampNeg (hI h (hR h a0 23) a1.toNatClampNeg)) fun h8 =>
      lt (a1 + (1 : Int32)) fun x9 =>
      f_X11_assemble_L100 n h8 a0 x9
def f_X11_assemble_L65 : Nat → AH → Nat → Int32 → Option (Int32 × AH)
  | 0, _, _, _ => none
  | n + 1, h, a0, a1 =>
    gs h a0 10 <|
    if (hI h a0 13) ≤ a1 then
      lt ((0 : Int32)) fun x3 =>
      f_X11_assemble_L100 FU h a0 x3
    else
      gs h (hR h a0 14) 21 <|
      gb (ib a1 (hN h (hR h a0 14))) <|
      gs h (hR h a0 15) 21 <|
      gb (ib a1 (hN h (hR h a0 15))) <|
      gs h (hR h a0 23) 21 <|
      gb (ib ((hI h (hR h a0 14) a1.toNatClampNeg) / (4 : Int32)) (hN h (hR h a0 23))) <|
      lt (sI h (hR h a0 23) ((hI h (hR h a0 14) a1.toNatClampNeg) / (4 : Int32)).toNatClampNeg (hI h (hR h a0 15) a1.toNatClampNeg)) fun h10 =>
      lt (a1 + (1 : Int32)) fun x11 =>
      f_X11_assemble_L65 n h10 a0 x11
def f_X11_assemble_L43 : Nat → AH → Nat → Int32 → Option (Int32 × AH)
  | 0, _, _, _ => none
  | n + 1, h, a0, a1 =>
    if (2048 : Int32) ≤ a1 then
      lt ((0 : Int32)) fun x2 =>
      f_X11_assemble_L65 FU h a0 x2
    else
      gs h a0 10 <|
      gs h (hR h a0 23) 21 <|
      gb (ib a1 (hN h (hR h a0 23))) <|
      lt (sI h (hR h a0 23) a1.toNatClampNeg (0 : Int32)) fun h6 =>
      lt (a1 + (1 : Int32)) fun x7 =>
      f_X11_assemble_L43 n h6 a0 x7
def f_X11_assemble (h : AH) (a0 : Nat) : Option (Int32 × AH) :=
  gs h a0 10 <|
  lt (sI h a0 3 (0 : Int32)) fun h2 =>
  lt (sI h2 a0 4 (0 : Int32)) fun h4 =>
  bd (f_X11_readAll h4 a0) fun q6 =>
  gs q6 a0 10 <|
  lt (sI q6 a0 2 (0 : Int32)) fun h8 =>
  if (hI h8 a0 3) = 0 then
    lt (sI h8 a0 0 (0 : Int32)) fun h11 =>
    bd (f_X11_clear h11 a0) fun q13 =>
    lt ((0 : Int32)) fun x14 =>
    f_X11_assemble_L43 FU q13 a0 x14
  else
    bd (f_X11_raise h8 a0 (1 : Int32)) fun q15 =>
    some (q15.1, q15.2)
def f_X11_fault (h : AH) (a0 : Nat) (a1 : Int32) : Option (Int32 × AH) :=
  gs h a0 10 <|
  lt (sI h a0 0 (0 : Int32)) fun h2 =>
  if ¬ a1 = 0 then
    if ¬ a1 = (1 : Int32) then
      some ((-1 : Int32), h2)
    else
      some ((hI h2 a0 4), h2)
  else
    some ((hI h2 a0 3), h2)
def f_X11_setOf (h : AH) (a0 : Nat) (a1 : Int32) (a2 : Int32) : Option (Int32) :=
  gs h a0 10 <|
  gs h (hR h a0 21) 21 <|
  gb (ib (3 : Int32) (hN h (hR h a0 21))) <|
  gb (ib (2 : Int32) (hN h (hR h a0 21))) <|
  gb (decide (¬ (hI h (hR h a0 21) (2 : Int32).toNatClampNeg) = 0)) <|
  some (((32 : Int32) * a1) + ((hI h (hR h a0 21) (3 : Int32).toNatClampNeg) * (a2 - a2 / (hI h (hR h a0 21) (2 : Int32).toNatClampNeg) * (hI h (hR h a0 21) (2 : Int32).toNatClampNeg))))
def f_X11_wayOf_L45 (h : AH) (k7 : Nat → Int32 → Int32 → Int32 → Option (Int32)) (a0 : Nat) (a1 : Int32) (a2 : Int32) (a3 : Int32) : Option (Int32) :=
  lt (a3 + (1 : Int32)) fun x1 =>
  k7 a0 a1 a2 x1
def f_X11_wayOf_L7 (h : AH) : Nat → Nat → Int32 → Int32 → Int32 → Option (Int32)
  | 0, _, _, _, _ => none
  | n + 1, a0, a1, a2, a3 =>
    gs h a0 10 <|
    bd (f_X11_setOf h a0 a1 a2) fun v2 =>
    gs h (hR h a0 21) 21 <|
    gb (ib (3 : Int32) (hN h (hR h a0 21))) <|
    if (v2 + (hI h (hR h a0 21) (3 : Int32).toNatClampNeg)) ≤ a3 then
      some (-1 : Int32)
    else
      gs h (hR h a0 45) 21 <|
      gb (ib a3 (hN h (hR h a0 45))) <|
      if (hI h (hR h a0 45) a3.toNatClampNeg) ≤ 0 then
        f_X11_wayOf_L45 h (f_X11_wayOf_L7 h n) a0 a1 a2 a3
      else
        gs h (hR h a0 44) 21 <|
        gb (ib a3 (hN h (hR h a0 44))) <|
        if ¬ (hI h (hR h a0 44) a3.toNatClampNeg) = a2 then
          f_X11_wayOf_L45 h (f_X11_wayOf_L7 h n) a0 a1 a2 a3
        else
          some a3
def f_X11_wayOf (h : AH) (a0 : Nat) (a1 : Int32) (a2 : Int32) : Option (Int32) :=
  gs h a0 10 <|
  bd (f_X11_setOf h a0 a1 a2) fun v2 =>
  f_X11_wayOf_L7 h FU a0 a1 a2 v2
def f_X11_use (h : AH) (a0 : Nat) (a1 : Int32) : Option (AH) :=
  gs h a0 10 <|
  lt (sI h a0 47 ((hI h a0 47) + (1 : Int32))) fun h2 =>
  gs h2 (hR h2 a0 46) 21 <|
  gb (ib a1 (hN h2 (hR h2 a0 46))) <|
  lt (sI h2 (hR h2 a0 46) a1.toNatClampNeg (hI h2 a0 47)) fun h6 =>
  some h6
def f_X11_freeWay_L7 (h : AH) : Nat → Nat → Int32 → Int32 → Int32 → Option (Int32)
  | 0, _, _, _, _ => none
  | n + 1, a0, a1, a2, a3 =>
    gs h a0 10 <|
    bd (f_X11_setOf h a0 a1 a2) fun v2 =>
    gs h (hR h a0 21) 21 <|
    gb (ib (3 : Int32) (hN h (hR h a0 21))) <|
    if (v2 + (hI h (hR h a0 21) (3 : Int32).toNatClampNeg)) ≤ a3 then
      some (-1 : Int32)
    else
      gs h (hR h a0 45) 21 <|
      gb (ib a3 (hN h (hR h a0 45))) <|
      if ¬ (hI h (hR h a0 45) a3.toNatClampNeg) = 0 then
        lt (a3 + (1 : Int32)) fun x9 =>
        f_X11_freeWay_L7 h n a0 a1 a2 x9
      else
        some a3
def f_X11_freeWay (h : AH) (a0 : Nat) (a1 : Int32) (a2 : Int32) : Option (Int32) :=
  gs h a0 10 <|
  bd (f_X11_setOf h a0 a1 a2) fun v2 =>
  f_X11_freeWay_L7 h FU a0 a1 a2 v2
def f_X11_blank_L32 : Nat → AH → Nat → Int32 → Option (AH)
  | 0, _, _, _ => none
  | n + 1, h, a0, a5 =>
    if (9 : Int32) ≤ a5 then
      some h
    else
      gs h a0 10 <|
      gs h (hR h a0 61) 21 <|
      gb (ib a5 (hN h (hR h a0 61))) <|
      lt (sI h (hR h a0 61) a5.toNatClampNeg (0 : Int32)) fun h5 =>
      lt (a5 + (1 : Int32)) fun x6 =>
      f_X11_blank_L32 n h5 a0 x6
def f_X11_blank (h : AH) (a0 : Nat) (a1 : Int32) (a2 : Int32) (a3 : Int32) (a4 : Int32) : Option (AH) :=
  gs h a0 10 <|
  gs h (hR h a0 61) 21 <|
  gb (ib (0 : Int32) (hN h (hR h a0 61))) <|
  lt (sI h (hR h a0 61) (0 : Int32).toNatClampNeg a1) fun h4 =>
  gs h4 (hR h4 a0 61) 21 <|
  gb (ib (1 : Int32) (hN h4 (hR h4 a0 61))) <|
  lt (sI h4 (hR h4 a0 61) (1 : Int32).toNatClampNeg a2) fun h8 =>
  gs h8 (hR h8 a0 61) 21 <|
  gb (ib (2 : Int32) (hN h8 (hR h8 a0 61))) <|
  lt (sI h8 (hR h8 a0 61) (2 : Int32).toNatClampNeg a3) fun h12 =>
  gs h12 (hR h12 a0 61) 21 <|
  gb (ib (3 : Int32) (hN h12 (hR h12 a0 61))) <|
  lt (sI h12 (hR h12 a0 61) (3 : Int32).toNatClampNeg a4) fun h16 =>
  lt ((4 : Int32)) fun x17 =>
  f_X11_blank_L32 FU h16 a0 x17
def f_X11_withWords_L9 : Nat → AH → Nat → Int32 → Int32 → Option (AH)
  | 0, _, _, _, _ => none
  | n + 1, h, a0, a1, a2 =>
    if (4 : Int32) ≤ a2 then
      some h
    else
      gs h a0 10 <|
      gs h (hR h a0 23) 21 <|
      gb (ib (((4 : Int32) * a1) + a2) (hN h (hR h a0 23))) <|
      gs h (hR h a0 61) 21 <|
      gb (ib ((5 : Int32) + a2) (hN h (hR h a0 61))) <|
      lt (sI h (hR h a0 61) ((5 : Int32) + a2).toNatClampNeg (hI h (hR h a0 23) (((4 : Int32) * a1) + a2).toNatClampNeg)) fun h7 =>
      lt (a2 + (1 : Int32)) fun x8 =>
      f_X11_withWords_L9 n h7 a0 a1 x8
def f_X11_withWords (h : AH) (a0 : Nat) (a1 : Int32) : Option (AH) :=
  gs h a0 10 <|
  gs h (hR h a0 61) 21 <|
  gb (ib (4 : Int32) (hN h (hR h a0 61))) <|
  lt (sI h (hR h a0 61) (4 : Int32).toNatClampNeg (1 : Int32)) fun h4 =>
  lt ((0 : Int32)) fun x5 =>
  f_X11_withWords_L9 FU h4 a0 a1 x5
def f_X11_post_L2 : Nat → AH → Nat → Int32 → Option (AH)
  | 0, _, _, _ => none
  | n + 1, h, a0, a1 =>
    if (9 : Int32) ≤ a1 then
      gs h a0 10 <|
      lt (sI h a0 59 ((hI h a0 59) + (1 : Int32))) fun h3 =>
      some h3
    else
      gs h a0 10 <|
      gs h (hR h a0 61) 21 <|
      gb (ib a1 (hN h (hR h a0 61))) <|
      gs h (hR h a0 60) 21 <|
      gb (ib (((9 : Int32) * (hI h a0 59)) + a1) (hN h (hR h a0 60))) <|
      lt (sI h (hR h a0 60) (((9 : Int32) * (hI h a0 59)) + a1).toNatClampNeg (hI h (hR h a0 61) a1.toNatClampNeg)) fun h9 =>
      lt (a1 + (1 : Int32)) fun x10 =>
      f_X11_post_L2 n h9 a0 x10
def f_X11_post (h : AH) (a0 : Nat) : Option (AH) :=
  lt ((0 : Int32)) fun x1 =>
  f_X11_post_L2 FU h a0 x1
def f_X11_send (h : AH) (a0 : Nat) (a1 : Int32) (a2 : Int32) (a3 : Int32) (a4 : Int32) : Option (AH) :=
  gs h a0 10 <|
  bd (f_X11_blank h a0 a1 a2 a3 a4) fun q2 =>
  gs q2 a0 10 <|
  bd (f_X11_post q2 a0) fun q4 =>
  some q4
def f_X11_leave_L128 (h : AH) (a0 : Nat) (a3 : Int32) : Option (Int32 × AH) :=
  gs h a0 10 <|
  gs h (hR h a0 45) 21 <|
  gb (ib a3 (hN h (hR h a0 45))) <|
  lt (sI h (hR h a0 45) a3.toNatClampNeg (0 : Int32)) fun h4 =>
  some ((1 : Int32), h4)
def f_X11_leave_L52 (k12 : AH → Nat → Int32 → Int32 → Int32 → Int32 → Option (Int32 × AH)) (h : AH) (a0 : Nat) (a1 : Int32) (a2 : Int32) (a4 : Int32) (s0 : Int32) : Option (Int32 × AH) :=
  lt (a4 + (1 : Int32)) fun x1 =>
  k12 h a0 a1 a2 s0 x1
def f_X11_leave_L12 : Nat → AH → Nat → Int32 → Int32 → Int32 → Int32 → Option (Int32 × AH)
  | 0, _, _, _, _, _, _ => none
  | n + 1, h, a0, a1, a2, a3, a4 =>
    gs h a0 10 <|
    bd (f_X11_setOf h a0 a1 a2) fun v2 =>
    gs h (hR h a0 21) 21 <|
    gb (ib (3 : Int32) (hN h (hR h a0 21))) <|
    if (v2 + (hI h (hR h a0 21) (3 : Int32).toNatClampNeg)) ≤ a4 then
      gs h (hR h a0 45) 21 <|
      gb (ib a3 (hN h (hR h a0 45))) <|
      if (hI h (hR h a0 45) a3.toNatClampNeg) ≤ (1 : Int32) then
        f_X11_leave_L128 h a0 a3
      else
        gs h (hR h a0 35) 21 <|
        gb (ib a1 (hN h (hR h a0 35))) <|
        if (hI h (hR h a0 35) a1.toNatClampNeg) = (-1 : Int32) then
          gs h (hR h a0 44) 21 <|
          gb (ib a3 (hN h (hR h a0 44))) <|
          gb (ib a1 (hN h (hR h a0 35))) <|
          lt (sI h (hR h a0 35) a1.toNatClampNeg (hI h (hR h a0 44) a3.toNatClampNeg)) fun h15 =>
          gs h15 (hR h15 a0 36) 24 <|
          gb (ib a1 (hN h15 (hR h15 a0 36))) <|
          lt (sI h15 (hR h15 a0 36) a1.toNatClampNeg ((0 : Int32) &&& 1)) fun h19 =>
          gs h19 (hR h19 a0 44) 21 <|
          gb (ib a3 (hN h19 (hR h19 a0 44))) <|
          bd (f_X11_blank h19 a0 (2 : Int32) a1 (16 : Int32) (hI h19 (hR h19 a0 44) a3.toNatClampNeg)) fun q23 =>
          gs q23 a0 10 <|
          gs q23 (hR q23 a0 44) 21 <|
          gb (ib a3 (hN q23 (hR q23 a0 44))) <|
          bd (f_X11_withWords q23 a0 (hI q23 (hR q23 a0 44) a3.toNatClampNeg)) fun q27 =>
          gs q27 a0 10 <|
          bd (f_X11_post q27 a0) fun q29 =>
          f_X11_leave_L128 q29 a0 a3
        else
          some ((0 : Int32), h)
    else
      gs h (hR h a0 46) 21 <|
      gb (ib a4 (hN h (hR h a0 46))) <|
      gb (ib a3 (hN h (hR h a0 46))) <|
      if (hI h (hR h a0 46) a3.toNatClampNeg) ≤ (hI h (hR h a0 46) a4.toNatClampNeg) then
        f_X11_leave_L52 (f_X11_leave_L12 n) h a0 a1 a2 a4 a3
      else
        f_X11_leave_L52 (f_X11_leave_L12 n) h a0 a1 a2 a4 a4
def f_X11_leave (h : AH) (a0 : Nat) (a1 : Int32) (a2 : Int32) : Option (Int32 × AH) :=
  gs h a0 10 <|
  bd (f_X11_setOf h a0 a1 a2) fun v2 =>
  lt ((v2 + (1 : Int32))) fun x3 =>
  f_X11_leave_L12 FU h a0 a1 a2 v2 x3
def f_X11_miss_L62 (h : AH) (a0 : Nat) (a1 : Int32) (a2 : Int32) (s0 : Nat) (s1 : Int32) : Option (AH) :=
  gs h s0 10 <|
  bd (f_X11_send h s0 s1 a1 (16 : Int32) a2) fun q2 =>
  gs q2 a0 10 <|
  gs q2 (hR q2 a0 34) 21 <|
  gb (ib a1 (hN q2 (hR q2 a0 34))) <|
  lt (sI q2 (hR q2 a0 34) a1.toNatClampNeg a2) fun h6 =>
  gs h6 (hR h6 a0 29) 21 <|
  gb (ib a1 (hN h6 (hR h6 a0 29))) <|
  gb (ib a1 (hN h6 (hR h6 a0 29))) <|
  lt (sI h6 (hR h6 a0 29) a1.toNatClampNeg ((hI h6 (hR h6 a0 29) a1.toNatClampNeg) + (1 : Int32))) fun h11 =>
  some h11
def f_X11_miss_L51 (h : AH) (a0 : Nat) (a1 : Int32) (a2 : Int32) (a3 : Int32) : Option (AH) :=
  if ¬ a3 = (1 : Int32) then
    f_X11_miss_L62 h a0 a1 a2 a0 (1 : Int32)
  else
    f_X11_miss_L62 h a0 a1 a2 a0 (0 : Int32)
def f_X11_miss (h : AH) (a0 : Nat) (a1 : Int32) (a2 : Int32) (a3 : Int32) : Option (AH) :=
  gs h a0 10 <|
  gs h (hR h a0 34) 21 <|
  gb (ib a1 (hN h (hR h a0 34))) <|
  if ¬ (hI h (hR h a0 34) a1.toNatClampNeg) = (-1 : Int32) then
    some h
  else
    gs h (hR h a0 35) 21 <|
    gb (ib a1 (hN h (hR h a0 35))) <|
    if ¬ (hI h (hR h a0 35) a1.toNatClampNeg) = a2 then
      bd (f_X11_wayOf h a0 a1 a2) fun v8 =>
      if ¬ v8 = (-1 : Int32) then
        f_X11_miss_L51 h a0 a1 a2 a3
      else
        bd (f_X11_freeWay h a0 a1 a2) fun v10 =>
        if ¬ v10 = (-1 : Int32) then
          f_X11_miss_L51 h a0 a1 a2 a3
        else
          bd (f_X11_leave h a0 a1 a2) fun q12 =>
          if ¬ q12.1 = 0 then
            f_X11_miss_L51 q12.2 a0 a1 a2 a3
          else
            some q12.2
    else
      some h
def f_X11_maskOf_L31 (h : AH) (k4 : Int32 → Int32 → Int32 → Option (Int32)) (a0 : Int32) (a2 : Int32) (s0 : Int32) (s1 : Int32) : Option (Int32) :=
  lt ((s0 ||| s1)) fun x1 =>
  lt (a2 + (1 : Int32)) fun x2 =>
  k4 a0 x1 x2
def f_X11_maskOf_L4 (h : AH) : Nat → Int32 → Int32 → Int32 → Option (Int32)
  | 0, _, _, _ => none
  | n + 1, a0, a1, a2 =>
    if (4 : Int32) ≤ a2 then
      some a1
    else
      if ¬ ((a0 >>> (a2 &&& 31)) &&& (1 : Int32)) = (1 : Int32) then
        f_X11_maskOf_L31 h (f_X11_maskOf_L4 h n) a0 a2 a1 (0 : Int32)
      else
        f_X11_maskOf_L31 h (f_X11_maskOf_L4 h n) a0 a2 a1 ((255 : Int32) <<< (((8 : Int32) * a2) &&& 31))
def f_X11_maskOf (h : AH) (a0 : Int32) : Option (Int32) :=
  lt ((0 : Int32)) fun x1 =>
  lt ((0 : Int32)) fun x2 =>
  f_X11_maskOf_L4 h FU a0 x1 x2
def f_X11_reads_L96 (k24 : AH → Nat → Int32 → Int32 → Int32 → Int32 → Option (Int32 × AH)) (h : AH) (a0 : Nat) (a1 : Int32) (a4 : Int32) (a5 : Int32) (a6 : Int32) : Option (Int32 × AH) :=
  lt (a6 + (-1 : Int32)) fun x1 =>
  k24 h a0 a1 a4 a5 x1
def f_X11_reads_L24 : Nat → AH → Nat → Int32 → Int32 → Int32 → Int32 → Option (Int32 × AH)
  | 0, _, _, _, _, _, _ => none
  | n + 1, h, a0, a1, a4, a5, a6 =>
    if a6 < 0 then
      if ¬ a5 = 0 then
        gs h a0 10 <|
        bd (f_X11_wayOf h a0 a1 (a4 / (16 : Int32))) fun v4 =>
        if ¬ v4 = (-1 : Int32) then
          bd (f_X11_use h a0 v4) fun q6 =>
          gs q6 a0 10 <|
          gs q6 (hR q6 a0 23) 21 <|
          gb (ib (a4 / (4 : Int32)) (hN q6 (hR q6 a0 23))) <|
          bd (f_X11_maskOf q6 a5) fun v10 =>
          lt (sI q6 a0 77 ((hI q6 a0 77) ||| ((hI q6 (hR q6 a0 23) (a4 / (4 : Int32)).toNatClampNeg) &&& v10))) fun h11 =>
          some ((1 : Int32), h11)
        else
          bd (f_X11_miss h a0 a1 (a4 / (16 : Int32)) (1 : Int32)) fun q12 =>
          some ((0 : Int32), q12)
      else
        some ((1 : Int32), h)
    else
      lt ((((16 : Int32) * a1) + a6)) fun x13 =>
      gs h a0 10 <|
      gs h (hR h a0 31) 21 <|
      gb (ib x13 (hN h (hR h a0 31))) <|
      if (hI h (hR h a0 31) x13.toNatClampNeg) = a4 then
        gs h (hR h a0 32) 21 <|
        gb (ib x13 (hN h (hR h a0 32))) <|
        lt ((a5 &&& (hI h (hR h a0 32) x13.toNatClampNeg))) fun x20 =>
        gs h (hR h a0 33) 21 <|
        gb (ib x13 (hN h (hR h a0 33))) <|
        bd (f_X11_maskOf h x20) fun v23 =>
        lt (sI h a0 77 ((hI h a0 77) ||| ((hI h (hR h a0 33) x13.toNatClampNeg) &&& v23))) fun h24 =>
        lt ((a5 &&& (x20 ^^^ (-1 : Int32)))) fun x25 =>
        f_X11_reads_L96 (f_X11_reads_L24 n) h24 a0 a1 a4 x25 a6
      else
        f_X11_reads_L96 (f_X11_reads_L24 n) h a0 a1 a4 a5 a6
def f_X11_reads (h : AH) (a0 : Nat) (a1 : Int32) (a2 : Int32) (a3 : Int32) : Option (Int32 × AH) :=
  lt ((a2 &&& (-4 : Int32))) fun x1 =>
  gs h a0 10 <|
  lt (sI h a0 77 (0 : Int32)) fun h3 =>
  gs h3 (hR h3 a0 30) 21 <|
  gb (ib a1 (hN h3 (hR h3 a0 30))) <|
  lt (((hI h3 (hR h3 a0 30) a1.toNatClampNeg) - (1 : Int32))) fun x7 =>
  f_X11_reads_L24 FU h3 a0 a1 x1 a3 x7
def f_X11_changes_L25 (h : AH) (a0 : Nat) (a1 : Int32) (a2 : Int32) : Option (Int32 × AH) :=
  gs h a0 10 <|
  bd (f_X11_miss h a0 a1 (a2 / (16 : Int32)) (3 : Int32)) fun q2 =>
  some ((0 : Int32), q2)
def f_X11_changes (h : AH) (a0 : Nat) (a1 : Int32) (a2 : Int32) : Option (Int32 × AH) :=
  gs h a0 10 <|
  bd (f_X11_wayOf h a0 a1 (a2 / (16 : Int32))) fun v2 =>
  if v2 = (-1 : Int32) then
    f_X11_changes_L25 h a0 a1 a2
  else
    gs h (hR h a0 45) 21 <|
    gb (ib v2 (hN h (hR h a0 45))) <|
    if (2 : Int32) ≤ (hI h (hR h a0 45) v2.toNatClampNeg) then
      bd (f_X11_use h a0 v2) fun q7 =>
      gs q7 a0 10 <|
      gs q7 (hR q7 a0 45) 21 <|
      gb (ib v2 (hN q7 (hR q7 a0 45))) <|
      lt (sI q7 (hR q7 a0 45) v2.toNatClampNeg (3 : Int32)) fun h11 =>
      lt (sI h11 a0 64 ((hI h11 a0 64) + (1 : Int32))) fun h13 =>
      some ((1 : Int32), h13)
    else
      f_X11_changes_L25 h a0 a1 a2
def f_X11_reg (h : AH) (a0 : Nat) (a1 : Int32) (a2 : Int32) : Option (Int32) :=
  gs h a0 10 <|
  gs h (hR h a0 25) 21 <|
  gb (ib (((32 : Int32) * a1) + a2) (hN h (hR h a0 25))) <|
  some (hI h (hR h a0 25) (((32 : Int32) * a1) + a2).toNatClampNeg)
def f_X11_setReg (h : AH) (a0 : Nat) (a1 : Int32) (a2 : Int32) (a3 : Int32) : Option (AH) :=
  if a2 ≤ 0 then
    some h
  else
    gs h a0 10 <|
    gs h (hR h a0 25) 21 <|
    gb (ib (((32 : Int32) * a1) + a2) (hN h (hR h a0 25))) <|
    lt (sI h (hR h a0 25) (((32 : Int32) * a1) + a2).toNatClampNeg a3) fun h5 =>
    some h5
def f_X11_retire_L95 (h : AH) (a0 : Nat) (a1 : Int32) (a2 : Int32) (a3 : Int32) : Option (Int32 × AH) :=
  gs h a0 10 <|
  gs h (hR h a0 39) 21 <|
  gb (ib (a3 + (6 : Int32)) (hN h (hR h a0 39))) <|
  lt (sI h (hR h a0 39) (a3 + (6 : Int32)).toNatClampNeg (hI h a0 43)) fun h4 =>
  gs h4 (hR h4 a0 26) 21 <|
  gb (ib a1 (hN h4 (hR h4 a0 26))) <|
  lt (sI h4 (hR h4 a0 26) a1.toNatClampNeg (a2 &&& (8191 : Int32))) fun h8 =>
  gs h8 (hR h8 a0 28) 21 <|
  gb (ib a1 (hN h8 (hR h8 a0 28))) <|
  gb (ib a1 (hN h8 (hR h8 a0 28))) <|
  lt (sI h8 (hR h8 a0 28) a1.toNatClampNeg ((hI h8 (hR h8 a0 28) a1.toNatClampNeg) + (1 : Int32))) fun h13 =>
  gs h13 (hR h13 a0 37) 21 <|
  gb (ib a1 (hN h13 (hR h13 a0 37))) <|
  lt (sI h13 (hR h13 a0 37) a1.toNatClampNeg (0 : Int32)) fun h17 =>
  lt (sI h17 a0 62 ((hI h17 a0 62) + (1 : Int32))) fun h19 =>
  some ((1 : Int32), h19)
def f_X11_retire (h : AH) (a0 : Nat) (a1 : Int32) (a2 : Int32) : Option (Int32 × AH) :=
  gs h a0 10 <|
  gs h (hR h a0 28) 21 <|
  gb (ib a1 (hN h (hR h a0 28))) <|
  lt (((7 : Int32) * (((32 : Int32) * a1) + ((hI h (hR h a0 28) a1.toNatClampNeg) - (hI h (hR h a0 28) a1.toNatClampNeg) / (32 : Int32) * (32 : Int32))))) fun x4 =>
  gs h (hR h a0 26) 21 <|
  gb (ib a1 (hN h (hR h a0 26))) <|
  gs h (hR h a0 39) 21 <|
  gb (ib x4 (hN h (hR h a0 39))) <|
  lt (sI h (hR h a0 39) x4.toNatClampNeg (hI h (hR h a0 26) a1.toNatClampNeg)) fun h9 =>
  gs h9 (hR h9 a0 39) 21 <|
  gb (ib (x4 + (1 : Int32)) (hN h9 (hR h9 a0 39))) <|
  lt (sI h9 (hR h9 a0 39) (x4 + (1 : Int32)).toNatClampNeg (hI h9 a0 78)) fun h13 =>
  gs h13 (hR h13 a0 39) 21 <|
  gb (ib (x4 + (2 : Int32)) (hN h13 (hR h13 a0 39))) <|
  lt (sI h13 (hR h13 a0 39) (x4 + (2 : Int32)).toNatClampNeg (hI h13 a0 40)) fun h17 =>
  bd (f_X11_reg h17 a0 a1 (hI h17 a0 40)) fun v19 =>
  gs h17 (hR h17 a0 39) 21 <|
  gb (ib (x4 + (3 : Int32)) (hN h17 (hR h17 a0 39))) <|
  lt (sI h17 (hR h17 a0 39) (x4 + (3 : Int32)).toNatClampNeg v19) fun h22 =>
  gs h22 (hR h22 a0 39) 21 <|
  gb (ib (x4 + (4 : Int32)) (hN h22 (hR h22 a0 39))) <|
  lt (sI h22 (hR h22 a0 39) (x4 + (4 : Int32)).toNatClampNeg (hI h22 a0 41)) fun h26 =>
  gs h26 (hR h26 a0 39) 21 <|
  gb (ib (x4 + (5 : Int32)) (hN h26 (hR h26 a0 39))) <|
  lt (sI h26 (hR h26 a0 39) (x4 + (5 : Int32)).toNatClampNeg (hI h26 a0 42)) fun h30 =>
  f_X11_retire_L95 h30 a0 a1 a2 x4
def f_X11_stops (h : AH) (a0 : Nat) (a1 : Int32) (a2 : Int32) : Option (Int32 × AH) :=
  gs h a0 10 <|
  gs h (hR h a0 27) 21 <|
  gb (ib a1 (hN h (hR h a0 27))) <|
  lt (sI h (hR h a0 27) a1.toNatClampNeg a2) fun h4 =>
  lt (sI h4 a0 40 (0 : Int32)) fun h6 =>
  lt (sI h6 a0 41 (-1 : Int32)) fun h8 =>
  gs h8 (hR h8 a0 26) 21 <|
  gb (ib a1 (hN h8 (hR h8 a0 26))) <|
  bd (f_X11_retire h8 a0 a1 (hI h8 (hR h8 a0 26) a1.toNatClampNeg)) fun q12 =>
  some (q12.1, q12.2)
def f_X11_isLessPlain (h : AH) (a0 : Int32) (a1 : Int32) : Option (Int32) :=
  if (a1 ^^^ (-2147483648 : Int32)) ≤ (a0 ^^^ (-2147483648 : Int32)) then
    some (0 : Int32)
  else
    some (1 : Int32)
def f_X11_branch_L10 (h : AH) (a0 : Nat) (a1 : Int32) : Option (Int32 × AH) :=
  gs h a0 10 <|
  bd (f_X11_stops h a0 a1 (2 : Int32)) fun q2 =>
  some (q2.1, q2.2)
def f_X11_branch_L149 (h : AH) (s0 : Nat) (s1 : Int32) (s2 : Int32) (s3 : Int32) : Option (Int32 × AH) :=
  gs h s0 10 <|
  bd (f_X11_retire h s0 s1 (s2 + s3)) fun q2 =>
  some (q2.1, q2.2)
def f_X11_branch_L86 (h : AH) (a0 : Nat) (a1 : Int32) (a2 : Int32) (a6 : Int32) : Option (Int32 × AH) :=
  gs h a0 10 <|
  lt (sI h a0 40 (0 : Int32)) fun h2 =>
  lt ((((((a2 >>> ((31 : Int32) &&& 31)) <<< ((12 : Int32) &&& 31)) ||| (((a2 >>> ((7 : Int32) &&& 31)) &&& (1 : Int32)) <<< ((11 : Int32) &&& 31))) ||| (((a2 >>> ((25 : Int32) &&& 31)) &&& (63 : Int32)) <<< ((5 : Int32) &&& 31))) ||| (((a2 >>> ((8 : Int32) &&& 31)) &&& (15 : Int32)) <<< ((1 : Int32) &&& 31)))) fun x3 =>
  gs h2 (hR h2 a0 26) 21 <|
  gb (ib a1 (hN h2 (hR h2 a0 26))) <|
  if a6 = 0 then
    f_X11_branch_L149 h2 a0 a1 (hI h2 (hR h2 a0 26) a1.toNatClampNeg) (4 : Int32)
  else
    f_X11_branch_L149 h2 a0 a1 (hI h2 (hR h2 a0 26) a1.toNatClampNeg) x3
def f_X11_branch_L84 (h : AH) (a0 : Nat) (a1 : Int32) (a2 : Int32) (s0 : Int32) : Option (Int32 × AH) :=
  f_X11_branch_L86 h a0 a1 a2 s0
def f_X11_branch_L65 (h : AH) (a0 : Nat) (a1 : Int32) (a2 : Int32) (a3 : Int32) (s0 : Int32) : Option (Int32 × AH) :=
  if ¬ (a3 - a3 / (2 : Int32) * (2 : Int32)) = (1 : Int32) then
    f_X11_branch_L86 h a0 a1 a2 s0
  else
    if ¬ s0 = 0 then
      f_X11_branch_L84 h a0 a1 a2 (0 : Int32)
    else
      f_X11_branch_L84 h a0 a1 a2 (1 : Int32)
def f_X11_branch (h : AH) (a0 : Nat) (a1 : Int32) (a2 : Int32) (a3 : Int32) (a4 : Int32) (a5 : Int32) : Option (Int32 × AH) :=
  if a3 = (2 : Int32) then
    f_X11_branch_L10 h a0 a1
  else
    if ¬ a3 = (3 : Int32) then
      if (2 : Int32) ≤ a3 then
        if (6 : Int32) ≤ a3 then
          bd (f_X11_isLessPlain h a4 a5) fun v5 =>
          f_X11_branch_L65 h a0 a1 a2 a3 v5
        else
          if a5 ≤ a4 then
            f_X11_branch_L65 h a0 a1 a2 a3 (0 : Int32)
          else
            f_X11_branch_L65 h a0 a1 a2 a3 (1 : Int32)
      else
        if ¬ a4 = a5 then
          f_X11_branch_L65 h a0 a1 a2 a3 (0 : Int32)
        else
          f_X11_branch_L65 h a0 a1 a2 a3 (1 : Int32)
    else
      f_X11_branch_L10 h a0 a1
def f_X11_load_L10 (h : AH) (a0 : Nat) (a1 : Int32) : Option (Int32 × AH) :=
  gs h a0 10 <|
  bd (f_X11_stops h a0 a1 (2 : Int32)) fun q2 =>
  some (q2.1, q2.2)
def f_X11_load_L122 (h : AH) (a0 : Nat) (a1 : Int32) (a3 : Int32) (a6 : Int32) (a8 : Int32) : Option (Int32 × AH) :=
  gs h a0 10 <|
  bd (f_X11_setReg h a0 a1 a3 a8) fun q2 =>
  gs q2 a0 10 <|
  lt (sI q2 a0 41 a6) fun h4 =>
  lt (sI h4 a0 42 a8) fun h6 =>
  gs h6 (hR h6 a0 26) 21 <|
  gb (ib a1 (hN h6 (hR h6 a0 26))) <|
  bd (f_X11_retire h6 a0 a1 ((hI h6 (hR h6 a0 26) a1.toNatClampNeg) + (4 : Int32))) fun q10 =>
  some (q10.1, q10.2)
def f_X11_load_L112 (h : AH) (a0 : Nat) (a1 : Int32) (a2 : Int32) (a3 : Int32) (a6 : Int32) (a8 : Int32) : Option (Int32 × AH) :=
  if ¬ a2 = (1 : Int32) then
    f_X11_load_L122 h a0 a1 a3 a6 a8
  else
    lt ((a8.toInt16.toInt32)) fun x2 =>
    f_X11_load_L122 h a0 a1 a3 a6 x2
def f_X11_load_L39 (h : AH) (a0 : Nat) (a1 : Int32) (a2 : Int32) (a3 : Int32) (a4 : Int32) (s0 : Int32) : Option (Int32 × AH) :=
  gb (decide (¬ s0 = 0)) <|
  if (a4 - a4 / s0 * s0) = 0 then
    lt ((a4 &&& (8191 : Int32))) fun x3 =>
    lt ((x3 - x3 / (4 : Int32) * (4 : Int32))) fun x4 =>
    gs h a0 10 <|
    bd (f_X11_reads h a0 a1 x3 ((((1 : Int32) <<< (s0 &&& 31)) - (1 : Int32)) <<< (x4 &&& 31))) fun q6 =>
    if ¬ q6.1 = 0 then
      gs q6.2 a0 10 <|
      lt ((jushr (hI q6.2 a0 77) ((8 : Int32) * x4))) fun x9 =>
      if ¬ a2 = 0 then
        f_X11_load_L112 q6.2 a0 a1 a2 a3 x3 x9
      else
        lt ((x9.toInt8.toInt32)) fun x11 =>
        f_X11_load_L112 q6.2 a0 a1 a2 a3 x3 x11
    else
      some ((3 : Int32), q6.2)
  else
    gs h a0 10 <|
    bd (f_X11_stops h a0 a1 (4 : Int32)) fun q13 =>
    some (q13.1, q13.2)
def f_X11_load (h : AH) (a0 : Nat) (a1 : Int32) (a2 : Int32) (a3 : Int32) (a4 : Int32) : Option (Int32 × AH) :=
  if a2 = (3 : Int32) then
    f_X11_load_L10 h a0 a1
  else
    if a2 ≤ (5 : Int32) then
      if ¬ (a2 - a2 / (4 : Int32) * (4 : Int32)) = 0 then
        if ¬ (a2 - a2 / (4 : Int32) * (4 : Int32)) = (1 : Int32) then
          f_X11_load_L39 h a0 a1 a2 a3 a4 (4 : Int32)
        else
          f_X11_load_L39 h a0 a1 a2 a3 a4 (2 : Int32)
      else
        f_X11_load_L39 h a0 a1 a2 a3 a4 (1 : Int32)
    else
      f_X11_load_L10 h a0 a1
def f_X11_store_L98 (h : AH) (a0 : Nat) (a1 : Int32) (a4 : Int32) (a5 : Int32) (a6 : Int32) (a7 : Int32) : Option (Int32 × AH) :=
  gs h a0 10 <|
  gs h (hR h a0 32) 21 <|
  gb (ib a7 (hN h (hR h a0 32))) <|
  bd (f_X11_maskOf h (hI h (hR h a0 32) a7.toNatClampNeg)) fun v4 =>
  gs h (hR h a0 33) 21 <|
  gb (ib a7 (hN h (hR h a0 33))) <|
  lt (sI h (hR h a0 33) a7.toNatClampNeg ((a4 <<< (((8 : Int32) * (a6 - a6 / (4 : Int32) * (4 : Int32))) &&& 31)) &&& v4)) fun h7 =>
  gs h7 (hR h7 a0 30) 21 <|
  gb (ib a1 (hN h7 (hR h7 a0 30))) <|
  gb (ib a1 (hN h7 (hR h7 a0 30))) <|
  lt (sI h7 (hR h7 a0 30) a1.toNatClampNeg ((hI h7 (hR h7 a0 30) a1.toNatClampNeg) + (1 : Int32))) fun h12 =>
  lt (sI h12 a0 40 (0 : Int32)) fun h14 =>
  lt (sI h14 a0 41 a6) fun h16 =>
  bd (f_X11_maskOf h16 (((1 : Int32) <<< (a5 &&& 31)) - (1 : Int32))) fun v17 =>
  lt (sI h16 a0 43 (a4 &&& v17)) fun h19 =>
  gs h19 (hR h19 a0 26) 21 <|
  gb (ib a1 (hN h19 (hR h19 a0 26))) <|
  bd (f_X11_retire h19 a0 a1 ((hI h19 (hR h19 a0 26) a1.toNatClampNeg) + (4 : Int32))) fun q23 =>
  some (q23.1, q23.2)
def f_X11_store (h : AH) (a0 : Nat) (a1 : Int32) (a2 : Int32) (a3 : Int32) (a4 : Int32) : Option (Int32 × AH) :=
  if a2 ≤ (2 : Int32) then
    lt (((1 : Int32) <<< (a2 &&& 31))) fun x2 =>
    gb (decide (¬ x2 = 0)) <|
    if (a3 - a3 / x2 * x2) = 0 then
      gs h a0 10 <|
      gs h (hR h a0 30) 21 <|
      gb (ib a1 (hN h (hR h a0 30))) <|
      gs h (hR h a0 21) 21 <|
      gb (ib (1 : Int32) (hN h (hR h a0 21))) <|
      if ¬ (hI h (hR h a0 30) a1.toNatClampNeg) = (hI h (hR h a0 21) (1 : Int32).toNatClampNeg) then
        lt ((a3 &&& (8191 : Int32))) fun x11 =>
        gb (ib a1 (hN h (hR h a0 30))) <|
        lt ((((16 : Int32) * a1) + (hI h (hR h a0 30) a1.toNatClampNeg))) fun x13 =>
        gs h (hR h a0 31) 21 <|
        gb (ib x13 (hN h (hR h a0 31))) <|
        lt (sI h (hR h a0 31) x13.toNatClampNeg (x11 &&& (-4 : Int32))) fun h16 =>
        gs h16 (hR h16 a0 32) 21 <|
        gb (ib x13 (hN h16 (hR h16 a0 32))) <|
        lt (sI h16 (hR h16 a0 32) x13.toNatClampNeg ((((1 : Int32) <<< (x2 &&& 31)) - (1 : Int32)) <<< ((x11 - x11 / (4 : Int32) * (4 : Int32)) &&& 31))) fun h20 =>
        f_X11_store_L98 h20 a0 a1 a4 x2 x11 x13
      else
        some ((4 : Int32), h)
    else
      gs h a0 10 <|
      bd (f_X11_stops h a0 a1 (4 : Int32)) fun q22 =>
      some (q22.1, q22.2)
  else
    gs h a0 10 <|
    bd (f_X11_stops h a0 a1 (2 : Int32)) fun q24 =>
    some (q24.1, q24.2)
def f_X11_reckon_L305 (h : AH) (a0 : Nat) (a1 : Int32) (a4 : Int32) (a13 : Int32) : Option (Int32 × AH) :=
  gs h a0 10 <|
  bd (f_X11_setReg h a0 a1 a4 a13) fun q2 =>
  gs q2 a0 10 <|
  gs q2 (hR q2 a0 26) 21 <|
  gb (ib a1 (hN q2 (hR q2 a0 26))) <|
  bd (f_X11_retire q2 a0 a1 ((hI q2 (hR q2 a0 26) a1.toNatClampNeg) + (4 : Int32))) fun q6 =>
  some (q6.1, q6.2)
def f_X11_reckon_L203 (h : AH) (a0 : Nat) (a1 : Int32) (a4 : Int32) (s0 : Int32) : Option (Int32 × AH) :=
  f_X11_reckon_L305 h a0 a1 a4 s0
def f_X11_reckon_L198 (h : AH) (a0 : Nat) (a1 : Int32) (a4 : Int32) (a5 : Int32) (a11 : Int32) : Option (Int32 × AH) :=
  f_X11_reckon_L203 h a0 a1 a4 (a5 + a11)
def f_X11_reckon_L230 (h : AH) (a0 : Nat) (a1 : Int32) (a4 : Int32) (s0 : Int32) : Option (Int32 × AH) :=
  f_X11_reckon_L305 h a0 a1 a4 s0
def f_X11_reckon_L250 (h : AH) (a0 : Nat) (a1 : Int32) (a4 : Int32) (s0 : Int32) : Option (Int32 × AH) :=
  f_X11_reckon_L305 h a0 a1 a4 s0
def f_X11_reckon_L283 (h : AH) (a0 : Nat) (a1 : Int32) (a4 : Int32) (s0 : Int32) : Option (Int32 × AH) :=
  f_X11_reckon_L305 h a0 a1 a4 s0
def f_X11_reckon_L129 (h : AH) (a0 : Nat) (a1 : Int32) (a3 : Int32) (a4 : Int32) (a5 : Int32) (a7 : Int32) (a9 : Int32) (s0 : Int32) : Option (Int32 × AH) :=
  lt ((s0 &&& (31 : Int32))) fun x1 =>
  if a3 = (0 : Int32) then
    if a7 = 0 then
      f_X11_reckon_L198 h a0 a1 a4 a5 s0
    else
      if a9 = 0 then
        f_X11_reckon_L198 h a0 a1 a4 a5 s0
      else
        f_X11_reckon_L203 h a0 a1 a4 (a5 - s0)
  else
    if a3 = (1 : Int32) then
      lt ((a5 <<< (x1 &&& 31))) fun x6 =>
      f_X11_reckon_L305 h a0 a1 a4 x6
    else
      if a3 = (2 : Int32) then
        if s0 ≤ a5 then
          f_X11_reckon_L230 h a0 a1 a4 (0 : Int32)
        else
          f_X11_reckon_L230 h a0 a1 a4 (1 : Int32)
      else
        if a3 = (3 : Int32) then
          bd (f_X11_isLessPlain h a5 s0) fun v10 =>
          if v10 = 0 then
            f_X11_reckon_L250 h a0 a1 a4 (0 : Int32)
          else
            f_X11_reckon_L250 h a0 a1 a4 (1 : Int32)
        else
          if a3 = (4 : Int32) then
            lt ((a5 ^^^ s0)) fun x13 =>
            f_X11_reckon_L305 h a0 a1 a4 x13
          else
            if a3 = (5 : Int32) then
              if a9 = 0 then
                f_X11_reckon_L283 h a0 a1 a4 (jushr a5 x1)
              else
                f_X11_reckon_L283 h a0 a1 a4 (a5 >>> (x1 &&& 31))
            else
              if a3 = (6 : Int32) then
                lt ((a5 ||| s0)) fun x17 =>
                f_X11_reckon_L305 h a0 a1 a4 x17
              else
                lt ((a5 &&& s0)) fun x18 =>
                f_X11_reckon_L305 h a0 a1 a4 x18
def f_X11_reckon_L101 (h : AH) (a0 : Nat) (a1 : Int32) (a2 : Int32) (a3 : Int32) (a4 : Int32) (a5 : Int32) (a6 : Int32) (a7 : Int32) (a9 : Int32) (s0 : Int32) : Option (Int32 × AH) :=
  if ¬ s0 = 0 then
    if a7 = 0 then
      f_X11_reckon_L129 h a0 a1 a3 a4 a5 a7 a9 (a2 >>> ((20 : Int32) &&& 31))
    else
      f_X11_reckon_L129 h a0 a1 a3 a4 a5 a7 a9 a6
  else
    gs h a0 10 <|
    bd (f_X11_stops h a0 a1 (2 : Int32)) fun q4 =>
    some (q4.1, q4.2)
def f_X11_reckon_L96 (h : AH) (a0 : Nat) (a1 : Int32) (a2 : Int32) (a3 : Int32) (a4 : Int32) (a5 : Int32) (a6 : Int32) (a7 : Int32) (a9 : Int32) : Option (Int32 × AH) :=
  f_X11_reckon_L101 h a0 a1 a2 a3 a4 a5 a6 a7 a9 (1 : Int32)
def f_X11_reckon_L86 (h : AH) (a0 : Nat) (a1 : Int32) (a2 : Int32) (a3 : Int32) (a4 : Int32) (a5 : Int32) (a6 : Int32) (a7 : Int32) (a8 : Int32) (a9 : Int32) : Option (Int32 × AH) :=
  if a8 = 0 then
    f_X11_reckon_L96 h a0 a1 a2 a3 a4 a5 a6 a7 a9
  else
    if a9 = 0 then
      f_X11_reckon_L101 h a0 a1 a2 a3 a4 a5 a6 a7 a9 (0 : Int32)
    else
      f_X11_reckon_L96 h a0 a1 a2 a3 a4 a5 a6 a7 a9
def f_X11_reckon_L68 (h : AH) (a0 : Nat) (a1 : Int32) (a2 : Int32) (a3 : Int32) (a4 : Int32) (a5 : Int32) (a6 : Int32) (a7 : Int32) (a9 : Int32) : Option (Int32 × AH) :=
  f_X11_reckon_L101 h a0 a1 a2 a3 a4 a5 a6 a7 a9 (1 : Int32)
def f_X11_reckon_L51 (h : AH) (a0 : Nat) (a1 : Int32) (a2 : Int32) (a3 : Int32) (a4 : Int32) (a5 : Int32) (a6 : Int32) (a7 : Int32) (a8 : Int32) (s0 : Int32) : Option (Int32 × AH) :=
  if a7 = 0 then
    if a3 = (1 : Int32) then
      f_X11_reckon_L86 h a0 a1 a2 a3 a4 a5 a6 a7 a8 s0
    else
      if ¬ a3 = (5 : Int32) then
        f_X11_reckon_L96 h a0 a1 a2 a3 a4 a5 a6 a7 s0
      else
        f_X11_reckon_L86 h a0 a1 a2 a3 a4 a5 a6 a7 a8 s0
  else
    if a8 = 0 then
      f_X11_reckon_L68 h a0 a1 a2 a3 a4 a5 a6 a7 s0
    else
      if s0 = 0 then
        f_X11_reckon_L101 h a0 a1 a2 a3 a4 a5 a6 a7 s0 (0 : Int32)
      else
        f_X11_reckon_L68 h a0 a1 a2 a3 a4 a5 a6 a7 s0
def f_X11_reckon_L50 (h : AH) (a0 : Nat) (a1 : Int32) (a2 : Int32) (a3 : Int32) (a4 : Int32) (a5 : Int32) (a6 : Int32) (a7 : Int32) (a8 : Int32) : Option (Int32 × AH) :=
  f_X11_reckon_L51 h a0 a1 a2 a3 a4 a5 a6 a7 a8 (0 : Int32)
def f_X11_reckon_L46 (h : AH) (a0 : Nat) (a1 : Int32) (a2 : Int32) (a3 : Int32) (a4 : Int32) (a5 : Int32) (a6 : Int32) (a7 : Int32) (a8 : Int32) : Option (Int32 × AH) :=
  f_X11_reckon_L51 h a0 a1 a2 a3 a4 a5 a6 a7 a8 (1 : Int32)
def f_X11_reckon_L14 (h : AH) (a0 : Nat) (a1 : Int32) (a2 : Int32) (a3 : Int32) (a4 : Int32) (a5 : Int32) (a6 : Int32) (s0 : Int32) : Option (Int32 × AH) :=
  lt (((a2 >>> ((25 : Int32) &&& 31)) &&& (127 : Int32))) fun x1 =>
  if ¬ x1 = (32 : Int32) then
    f_X11_reckon_L50 h a0 a1 a2 a3 a4 a5 a6 s0 x1
  else
    if a3 = (5 : Int32) then
      f_X11_reckon_L46 h a0 a1 a2 a3 a4 a5 a6 s0 x1
    else
      if s0 = 0 then
        f_X11_reckon_L50 h a0 a1 a2 a3 a4 a5 a6 s0 x1
      else
        if ¬ a3 = 0 then
          f_X11_reckon_L50 h a0 a1 a2 a3 a4 a5 a6 s0 x1
        else
          f_X11_reckon_L46 h a0 a1 a2 a3 a4 a5 a6 s0 x1
def f_X11_reckon (h : AH) (a0 : Nat) (a1 : Int32) (a2 : Int32) (a3 : Int32) (a4 : Int32) (a5 : Int32) (a6 : Int32) : Option (Int32 × AH) :=
  if ¬ (a2 &&& (127 : Int32)) = (51 : Int32) then
    f_X11_reckon_L14 h a0 a1 a2 a3 a4 a5 a6 (0 : Int32)
  else
    f_X11_reckon_L14 h a0 a1 a2 a3 a4 a5 a6 (1 : Int32)
def f_X11_atomic_L24 (h : AH) (a0 : Nat) (a1 : Int32) : Option (Int32 × AH) :=
  gs h a0 10 <|
  bd (f_X11_stops h a0 a1 (2 : Int32)) fun q2 =>
  some (q2.1, q2.2)
def f_X11_atomic_L330 (h : AH) (a0 : Nat) (a1 : Int32) (a4 : Int32) (a8 : Int32) (a9 : Int32) (a10 : Int32) : Option (Int32 × AH) :=
  gs h a0 10 <|
  gs h (hR h a0 23) 21 <|
  gb (ib (a8 / (4 : Int32)) (hN h (hR h a0 23))) <|
  lt (sI h (hR h a0 23) (a8 / (4 : Int32)).toNatClampNeg a10) fun h4 =>
  bd (f_X11_setReg h4 a0 a1 a4 a9) fun q6 =>
  gs q6 a0 10 <|
  lt (sI q6 a0 41 a8) fun h8 =>
  lt (sI h8 a0 42 a9) fun h10 =>
  lt (sI h10 a0 43 a10) fun h12 =>
  gs h12 (hR h12 a0 26) 21 <|
  gb (ib a1 (hN h12 (hR h12 a0 26))) <|
  bd (f_X11_retire h12 a0 a1 ((hI h12 (hR h12 a0 26) a1.toNatClampNeg) + (4 : Int32))) fun q16 =>
  some (q16.1, q16.2)
def f_X11_atomic_L265 (h : AH) (a0 : Nat) (a1 : Int32) (a4 : Int32) (a8 : Int32) (a9 : Int32) (s0 : Int32) : Option (Int32 × AH) :=
  f_X11_atomic_L330 h a0 a1 a4 a8 a9 s0
def f_X11_atomic_L284 (h : AH) (a0 : Nat) (a1 : Int32) (a4 : Int32) (a8 : Int32) (a9 : Int32) (s0 : Int32) : Option (Int32 × AH) :=
  f_X11_atomic_L330 h a0 a1 a4 a8 a9 s0
def f_X11_atomic_L306 (h : AH) (a0 : Nat) (a1 : Int32) (a4 : Int32) (a8 : Int32) (a9 : Int32) (s0 : Int32) : Option (Int32 × AH) :=
  f_X11_atomic_L330 h a0 a1 a4 a8 a9 s0
def f_X11_atomic_L328 (h : AH) (a0 : Nat) (a1 : Int32) (a4 : Int32) (a8 : Int32) (a9 : Int32) (s0 : Int32) : Option (Int32 × AH) :=
  f_X11_atomic_L330 h a0 a1 a4 a8 a9 s0
def f_X11_atomic_L31 (h : AH) (a0 : Nat) (a1 : Int32) (a4 : Int32) (a5 : Int32) (a6 : Int32) (a7 : Int32) : Option (Int32 × AH) :=
  if (a5 - a5 / (4 : Int32) * (4 : Int32)) = 0 then
    gs h a0 10 <|
    gs h (hR h a0 30) 21 <|
    gb (ib a1 (hN h (hR h a0 30))) <|
    if (hI h (hR h a0 30) a1.toNatClampNeg) ≤ 0 then
      lt ((a5 &&& (8191 : Int32))) fun x6 =>
      bd (f_X11_changes h a0 a1 x6) fun q7 =>
      if ¬ q7.1 = 0 then
        gs q7.2 a0 10 <|
        gs q7.2 (hR q7.2 a0 23) 21 <|
        gb (ib (x6 / (4 : Int32)) (hN q7.2 (hR q7.2 a0 23))) <|
        lt ((hI q7.2 (hR q7.2 a0 23) (x6 / (4 : Int32)).toNatClampNeg)) fun x12 =>
        if a7 = (0 : Int32) then
          lt ((x12 + a6)) fun x14 =>
          f_X11_atomic_L330 q7.2 a0 a1 a4 x6 x12 x14
        else
          if a7 = (1 : Int32) then
            f_X11_atomic_L330 q7.2 a0 a1 a4 x6 x12 a6
          else
            if a7 = (4 : Int32) then
              lt ((x12 ^^^ a6)) fun x17 =>
              f_X11_atomic_L330 q7.2 a0 a1 a4 x6 x12 x17
            else
              if a7 = (8 : Int32) then
                lt ((x12 ||| a6)) fun x19 =>
                f_X11_atomic_L330 q7.2 a0 a1 a4 x6 x12 x19
              else
                if a7 = (12 : Int32) then
                  lt ((x12 &&& a6)) fun x21 =>
                  f_X11_atomic_L330 q7.2 a0 a1 a4 x6 x12 x21
                else
                  if a7 = (16 : Int32) then
                    if a6 ≤ x12 then
                      f_X11_atomic_L265 q7.2 a0 a1 a4 x6 x12 a6
                    else
                      f_X11_atomic_L265 q7.2 a0 a1 a4 x6 x12 x12
                  else
                    if a7 = (20 : Int32) then
                      if x12 ≤ a6 then
                        f_X11_atomic_L284 q7.2 a0 a1 a4 x6 x12 a6
                      else
                        f_X11_atomic_L284 q7.2 a0 a1 a4 x6 x12 x12
                    else
                      if a7 = (24 : Int32) then
                        bd (f_X11_isLessPlain q7.2 x12 a6) fun v27 =>
                        if v27 = 0 then
                          f_X11_atomic_L306 q7.2 a0 a1 a4 x6 x12 a6
                        else
                          f_X11_atomic_L306 q7.2 a0 a1 a4 x6 x12 x12
                      else
                        bd (f_X11_isLessPlain q7.2 x12 a6) fun v29 =>
                        if v29 = 0 then
                          f_X11_atomic_L328 q7.2 a0 a1 a4 x6 x12 x12
                        else
                          f_X11_atomic_L328 q7.2 a0 a1 a4 x6 x12 a6
      else
        some ((6 : Int32), q7.2)
    else
      some ((5 : Int32), h)
  else
    gs h a0 10 <|
    bd (f_X11_stops h a0 a1 (4 : Int32)) fun q32 =>
    some (q32.1, q32.2)
def f_X11_atomic (h : AH) (a0 : Nat) (a1 : Int32) (a2 : Int32) (a3 : Int32) (a4 : Int32) (a5 : Int32) (a6 : Int32) : Option (Int32 × AH) :=
  lt ((jushr a2 (27 : Int32))) fun x1 =>
  if ¬ a3 = (2 : Int32) then
    f_X11_atomic_L24 h a0 a1
  else
    if (x1 - x1 / (4 : Int32) * (4 : Int32)) = 0 then
      f_X11_atomic_L31 h a0 a1 a4 a5 a6 x1
    else
      if x1 = (1 : Int32) then
        f_X11_atomic_L31 h a0 a1 a4 a5 a6 x1
      else
        f_X11_atomic_L24 h a0 a1
def f_X11_stepOf_L518 (h : AH) (a0 : Nat) (a1 : Int32) (a7 : Int32) : Option (Int32 × AH) :=
  gs h a0 10 <|
  bd (f_X11_retire h a0 a1 (a7 + (4 : Int32))) fun q2 =>
  some (q2.1, q2.2)
def f_X11_stepOf_L428 (h : AH) (s0 : Int32) : Option (Int32 × AH) :=
  some (s0, h)
def f_X11_stepOf_L336 (h : AH) (s0 : Int32) : Option (Int32 × AH) :=
  some (s0, h)
def f_X11_stepOf_L507 (h : AH) (s0 : Nat) (s1 : Int32) (s2 : Int32) : Option (Int32 × AH) :=
  gs h s0 10 <|
  bd (f_X11_stops h s0 s1 s2) fun q2 =>
  some (q2.1, q2.2)
def f_X11_stepOf_L502 (h : AH) (s0 : Nat) (s1 : Int32) : Option (Int32 × AH) :=
  f_X11_stepOf_L507 h s0 s1 (1 : Int32)
def f_X11_stepOf_L97 (h : AH) (a0 : Nat) (a1 : Int32) (a2 : Int32) (a3 : Int32) (a4 : Int32) : Option (Int32 × AH) :=
  gs h a0 10 <|
  bd (f_X11_reg h a0 a1 ((a2 >>> ((15 : Int32) &&& 31)) &&& (31 : Int32))) fun v2 =>
  bd (f_X11_reg h a0 a1 ((a2 >>> ((20 : Int32) &&& 31)) &&& (31 : Int32))) fun v3 =>
  gs h (hR h a0 26) 21 <|
  gb (ib a1 (hN h (hR h a0 26))) <|
  lt ((hI h (hR h a0 26) a1.toNatClampNeg)) fun x6 =>
  if (a2 &&& (127 : Int32)) = (3 : Int32) then
    bd (f_X11_load h a0 a1 a3 a4 (v2 + (a2 >>> ((20 : Int32) &&& 31)))) fun q8 =>
    some (q8.1, q8.2)
  else
    if (a2 &&& (127 : Int32)) = (15 : Int32) then
      if a3 = 0 then
        gs h (hR h a0 30) 21 <|
        gb (ib a1 (hN h (hR h a0 30))) <|
        if (hI h (hR h a0 30) a1.toNatClampNeg) ≤ 0 then
          lt (sI h a0 40 (0 : Int32)) fun h14 =>
          f_X11_stepOf_L518 h14 a0 a1 x6
        else
          some ((5 : Int32), h)
      else
        bd (f_X11_stops h a0 a1 (2 : Int32)) fun q15 =>
        some (q15.1, q15.2)
    else
      if (a2 &&& (127 : Int32)) = (19 : Int32) then
        bd (f_X11_reckon h a0 a1 a2 a3 a4 v2 v3) fun q17 =>
        some (q17.1, q17.2)
      else
        if (a2 &&& (127 : Int32)) = (23 : Int32) then
          bd (f_X11_setReg h a0 a1 a4 (x6 + (a2 &&& (-4096 : Int32)))) fun q19 =>
          f_X11_stepOf_L518 q19 a0 a1 x6
        else
          if (a2 &&& (127 : Int32)) = (35 : Int32) then
            bd (f_X11_store h a0 a1 a3 (v2 + (((a2 >>> ((25 : Int32) &&& 31)) <<< ((5 : Int32) &&& 31)) ||| ((a2 >>> ((7 : Int32) &&& 31)) &&& (31 : Int32)))) v3) fun q21 =>
            f_X11_stepOf_L428 q21.2 q21.1
          else
            if (a2 &&& (127 : Int32)) = (47 : Int32) then
              bd (f_X11_atomic h a0 a1 a2 a3 a4 v2 v3) fun q23 =>
              some (q23.1, q23.2)
            else
              if (a2 &&& (127 : Int32)) = (51 : Int32) then
                bd (f_X11_reckon h a0 a1 a2 a3 a4 v2 v3) fun q25 =>
                some (q25.1, q25.2)
              else
                if (a2 &&& (127 : Int32)) = (55 : Int32) then
                  bd (f_X11_setReg h a0 a1 a4 (a2 &&& (-4096 : Int32))) fun q27 =>
                  f_X11_stepOf_L518 q27 a0 a1 x6
                else
                  if (a2 &&& (127 : Int32)) = (99 : Int32) then
                    bd (f_X11_branch h a0 a1 a2 a3 v2 v3) fun q29 =>
                    some (q29.1, q29.2)
                  else
                    if (a2 &&& (127 : Int32)) = (103 : Int32) then
                      if a3 = 0 then
                        bd (f_X11_setReg h a0 a1 a4 (x6 + (4 : Int32))) fun q32 =>
                        gs q32 a0 10 <|
                        bd (f_X11_retire q32 a0 a1 ((v2 + (a2 >>> ((20 : Int32) &&& 31))) &&& (-2 : Int32))) fun q34 =>
                        some (q34.1, q34.2)
                      else
                        bd (f_X11_stops h a0 a1 (2 : Int32)) fun q35 =>
                        some (q35.1, q35.2)
                    else
                      if (a2 &&& (127 : Int32)) = (111 : Int32) then
                        bd (f_X11_setReg h a0 a1 a4 (x6 + (4 : Int32))) fun q37 =>
                        gs q37 a0 10 <|
                        bd (f_X11_retire q37 a0 a1 (x6 + (((((a2 >>> ((31 : Int32) &&& 31)) <<< ((20 : Int32) &&& 31)) ||| (((a2 >>> ((12 : Int32) &&& 31)) &&& (255 : Int32)) <<< ((12 : Int32) &&& 31))) ||| (((a2 >>> ((20 : Int32) &&& 31)) &&& (1 : Int32)) <<< ((11 : Int32) &&& 31))) ||| (((a2 >>> ((21 : Int32) &&& 31)) &&& (1023 : Int32)) <<< ((1 : Int32) &&& 31))))) fun q39 =>
                        f_X11_stepOf_L336 q39.2 q39.1
                      else
                        if (a2 &&& (127 : Int32)) = (115 : Int32) then
                          if a2 = (115 : Int32) then
                            f_X11_stepOf_L502 h a0 a1
                          else
                            if ¬ a2 = (1048691 : Int32) then
                              f_X11_stepOf_L507 h a0 a1 (2 : Int32)
                            else
                              f_X11_stepOf_L502 h a0 a1
                        else
                          bd (f_X11_stops h a0 a1 (2 : Int32)) fun q43 =>
                          some (q43.1, q43.2)
def f_X11_stepOf (h : AH) (a0 : Nat) (a1 : Int32) : Option (Int32 × AH) :=
  gs h a0 10 <|
  gs h (hR h a0 27) 21 <|
  gb (ib a1 (hN h (hR h a0 27))) <|
  if (hI h (hR h a0 27) a1.toNatClampNeg) ≤ 0 then
    gs h (hR h a0 26) 21 <|
    gb (ib a1 (hN h (hR h a0 26))) <|
    if ((hI h (hR h a0 26) a1.toNatClampNeg) - (hI h (hR h a0 26) a1.toNatClampNeg) / (4 : Int32) * (4 : Int32)) = 0 then
      gb (ib a1 (hN h (hR h a0 26))) <|
      bd (f_X11_reads h a0 a1 (hI h (hR h a0 26) a1.toNatClampNeg) (15 : Int32)) fun q9 =>
      if ¬ q9.1 = 0 then
        gs q9.2 a0 10 <|
        lt ((hI q9.2 a0 77)) fun x12 =>
        lt (((x12 >>> ((12 : Int32) &&& 31)) &&& (7 : Int32))) fun x13 =>
        lt (((x12 >>> ((7 : Int32) &&& 31)) &&& (31 : Int32))) fun x14 =>
        lt (sI q9.2 a0 78 x12) fun h15 =>
        lt (sI h15 a0 40 x14) fun h17 =>
        lt (sI h17 a0 41 (-1 : Int32)) fun h19 =>
        lt (sI h19 a0 42 (0 : Int32)) fun h21 =>
        lt (sI h21 a0 43 (0 : Int32)) fun h23 =>
        f_X11_stepOf_L97 h23 a0 a1 x12 x13 x14
      else
        some ((2 : Int32), q9.2)
    else
      gb (ib a1 (hN h (hR h a0 27))) <|
      lt (sI h (hR h a0 27) a1.toNatClampNeg (3 : Int32)) fun h25 =>
      some ((1 : Int32), h25)
  else
    some ((0 : Int32), h)
def f_X11_drainOf_L91 : Nat → AH → Nat → Int32 → Int32 → Option (Int32 × AH)
  | 0, _, _, _, _ => none
  | n + 1, h, a0, a1, a4 =>
    gs h a0 10 <|
    gs h (hR h a0 30) 21 <|
    gb (ib a1 (hN h (hR h a0 30))) <|
    if (((16 : Int32) * a1) + (hI h (hR h a0 30) a1.toNatClampNeg)) ≤ a4 then
      some ((1 : Int32), h)
    else
      gs h (hR h a0 31) 21 <|
      gb (ib (a4 + (1 : Int32)) (hN h (hR h a0 31))) <|
      gb (ib a4 (hN h (hR h a0 31))) <|
      lt (sI h (hR h a0 31) a4.toNatClampNeg (hI h (hR h a0 31) (a4 + (1 : Int32)).toNatClampNeg)) fun h8 =>
      gs h8 (hR h8 a0 32) 21 <|
      gb (ib (a4 + (1 : Int32)) (hN h8 (hR h8 a0 32))) <|
      gb (ib a4 (hN h8 (hR h8 a0 32))) <|
      lt (sI h8 (hR h8 a0 32) a4.toNatClampNeg (hI h8 (hR h8 a0 32) (a4 + (1 : Int32)).toNatClampNeg)) fun h13 =>
      gs h13 (hR h13 a0 33) 21 <|
      gb (ib (a4 + (1 : Int32)) (hN h13 (hR h13 a0 33))) <|
      gb (ib a4 (hN h13 (hR h13 a0 33))) <|
      lt (sI h13 (hR h13 a0 33) a4.toNatClampNeg (hI h13 (hR h13 a0 33) (a4 + (1 : Int32)).toNatClampNeg)) fun h18 =>
      lt (a4 + (1 : Int32)) fun x19 =>
      f_X11_drainOf_L91 n h18 a0 a1 x19
def f_X11_drainOf_L85 (h : AH) (a0 : Nat) (a1 : Int32) : Option (Int32 × AH) :=
  lt (((16 : Int32) * a1)) fun x1 =>
  f_X11_drainOf_L91 FU h a0 a1 x1
def f_X11_drainOf (h : AH) (a0 : Nat) (a1 : Int32) : Option (Int32 × AH) :=
  gs h a0 10 <|
  gs h (hR h a0 30) 21 <|
  gb (ib a1 (hN h (hR h a0 30))) <|
  if ¬ (hI h (hR h a0 30) a1.toNatClampNeg) = 0 then
    gs h (hR h a0 31) 21 <|
    gb (ib ((16 : Int32) * a1) (hN h (hR h a0 31))) <|
    lt ((hI h (hR h a0 31) ((16 : Int32) * a1).toNatClampNeg)) fun x7 =>
    bd (f_X11_changes h a0 a1 x7) fun q8 =>
    if ¬ q8.1 = 0 then
      gs q8.2 a0 10 <|
      gs q8.2 (hR q8.2 a0 32) 21 <|
      gb (ib ((16 : Int32) * a1) (hN q8.2 (hR q8.2 a0 32))) <|
      bd (f_X11_maskOf q8.2 (hI q8.2 (hR q8.2 a0 32) ((16 : Int32) * a1).toNatClampNeg)) fun v13 =>
      gs q8.2 (hR q8.2 a0 23) 21 <|
      gb (ib (x7 / (4 : Int32)) (hN q8.2 (hR q8.2 a0 23))) <|
      gs q8.2 (hR q8.2 a0 33) 21 <|
      gb (ib ((16 : Int32) * a1) (hN q8.2 (hR q8.2 a0 33))) <|
      gb (ib (x7 / (4 : Int32)) (hN q8.2 (hR q8.2 a0 23))) <|
      lt (sI q8.2 (hR q8.2 a0 23) (x7 / (4 : Int32)).toNatClampNeg (((hI q8.2 (hR q8.2 a0 23) (x7 / (4 : Int32)).toNatClampNeg) &&& (v13 ^^^ (-1 : Int32))) ||| (hI q8.2 (hR q8.2 a0 33) ((16 : Int32) * a1).toNatClampNeg))) fun h19 =>
      gs h19 (hR h19 a0 30) 21 <|
      gb (ib a1 (hN h19 (hR h19 a0 30))) <|
      gb (ib a1 (hN h19 (hR h19 a0 30))) <|
      lt (sI h19 (hR h19 a0 30) a1.toNatClampNeg ((hI h19 (hR h19 a0 30) a1.toNatClampNeg) - (1 : Int32))) fun h24 =>
      f_X11_drainOf_L85 h24 a0 a1
    else
      some ((2 : Int32), q8.2)
  else
    some ((0 : Int32), h)
def f_X11_homeSet (h : AH) (a0 : Nat) (a1 : Int32) : Option (Int32) :=
  gs h a0 10 <|
  gs h (hR h a0 21) 21 <|
  gb (ib (4 : Int32) (hN h (hR h a0 21))) <|
  gb (decide (¬ (hI h (hR h a0 21) (4 : Int32).toNatClampNeg) = 0)) <|
  some ((8 : Int32) * (a1 - a1 / (hI h (hR h a0 21) (4 : Int32).toNatClampNeg) * (hI h (hR h a0 21) (4 : Int32).toNatClampNeg)))
def f_X11_homeWay_L6 (h : AH) : Nat → Nat → Int32 → Int32 → Option (Int32)
  | 0, _, _, _ => none
  | n + 1, a0, a1, a2 =>
    gs h a0 10 <|
    bd (f_X11_homeSet h a0 a1) fun v2 =>
    gs h (hR h a0 21) 21 <|
    gb (ib (5 : Int32) (hN h (hR h a0 21))) <|
    if (v2 + (hI h (hR h a0 21) (5 : Int32).toNatClampNeg)) ≤ a2 then
      some (-1 : Int32)
    else
      gs h (hR h a0 48) 21 <|
      gb (ib a2 (hN h (hR h a0 48))) <|
      if ¬ (hI h (hR h a0 48) a2.toNatClampNeg) = a1 then
        lt (a2 + (1 : Int32)) fun x9 =>
        f_X11_homeWay_L6 h n a0 a1 x9
      else
        some a2
def f_X11_homeWay (h : AH) (a0 : Nat) (a1 : Int32) : Option (Int32) :=
  gs h a0 10 <|
  bd (f_X11_homeSet h a0 a1) fun v2 =>
  f_X11_homeWay_L6 h FU a0 a1 v2
def f_X11_give (h : AH) (a0 : Nat) (a1 : Int32) (a2 : Int32) (a3 : Int32) : Option (AH) :=
  gs h a0 10 <|
  bd (f_X11_blank h a0 a1 (16 : Int32) a2 a3) fun q2 =>
  gs q2 a0 10 <|
  bd (f_X11_withWords q2 a0 a3) fun q4 =>
  gs q4 a0 10 <|
  bd (f_X11_post q4 a0) fun q6 =>
  some q6
def f_X11_writeBack_L47 (h : AH) (a0 : Nat) (a1 : Int32) : Option (AH) :=
  gs h a0 10 <|
  gs h (hR h a0 50) 24 <|
  gb (ib a1 (hN h (hR h a0 50))) <|
  lt (sI h (hR h a0 50) a1.toNatClampNeg ((0 : Int32) &&& 1)) fun h4 =>
  some h4
def f_X11_writeBack_L2 : Nat → AH → Nat → Int32 → Int32 → Option (AH)
  | 0, _, _, _, _ => none
  | n + 1, h, a0, a1, a2 =>
    gs h a0 10 <|
    gs h (hR h a0 50) 24 <|
    gb (ib a1 (hN h (hR h a0 50))) <|
    if (hI h (hR h a0 50) a1.toNatClampNeg) = 0 then
      f_X11_writeBack_L47 h a0 a1
    else
      if (4 : Int32) ≤ a2 then
        f_X11_writeBack_L47 h a0 a1
      else
        gs h (hR h a0 48) 21 <|
        gb (ib a1 (hN h (hR h a0 48))) <|
        gs h (hR h a0 49) 21 <|
        gb (ib (((4 : Int32) * a1) + a2) (hN h (hR h a0 49))) <|
        gs h (hR h a0 24) 21 <|
        gb (ib (((4 : Int32) * (hI h (hR h a0 48) a1.toNatClampNeg)) + a2) (hN h (hR h a0 24))) <|
        lt (sI h (hR h a0 24) (((4 : Int32) * (hI h (hR h a0 48) a1.toNatClampNeg)) + a2).toNatClampNeg (hI h (hR h a0 49) (((4 : Int32) * a1) + a2).toNatClampNeg)) fun h12 =>
        lt (a2 + (1 : Int32)) fun x13 =>
        f_X11_writeBack_L2 n h12 a0 a1 x13
def f_X11_writeBack (h : AH) (a0 : Nat) (a1 : Int32) : Option (AH) :=
  lt ((0 : Int32)) fun x1 =>
  f_X11_writeBack_L2 FU h a0 a1 x1
def f_X11_fill_L44 : Nat → AH → Nat → Int32 → Int32 → Int32 → Option (AH)
  | 0, _, _, _, _, _ => none
  | n + 1, h, a0, a1, a2, a3 =>
    if (4 : Int32) ≤ a3 then
      some h
    else
      gs h a0 10 <|
      gs h (hR h a0 24) 21 <|
      gb (ib (((4 : Int32) * a2) + a3) (hN h (hR h a0 24))) <|
      gs h (hR h a0 49) 21 <|
      gb (ib (((4 : Int32) * a1) + a3) (hN h (hR h a0 49))) <|
      lt (sI h (hR h a0 49) (((4 : Int32) * a1) + a3).toNatClampNeg (hI h (hR h a0 24) (((4 : Int32) * a2) + a3).toNatClampNeg)) fun h7 =>
      lt (a3 + (1 : Int32)) fun x8 =>
      f_X11_fill_L44 n h7 a0 a1 a2 x8
def f_X11_fill (h : AH) (a0 : Nat) (a1 : Int32) (a2 : Int32) : Option (AH) :=
  gs h a0 10 <|
  gs h (hR h a0 48) 21 <|
  gb (ib a1 (hN h (hR h a0 48))) <|
  lt (sI h (hR h a0 48) a1.toNatClampNeg a2) fun h4 =>
  gs h4 (hR h4 a0 50) 24 <|
  gb (ib a1 (hN h4 (hR h4 a0 50))) <|
  lt (sI h4 (hR h4 a0 50) a1.toNatClampNeg ((0 : Int32) &&& 1)) fun h8 =>
  gs h8 (hR h8 a0 51) 21 <|
  gb (ib a1 (hN h8 (hR h8 a0 51))) <|
  lt (sI h8 (hR h8 a0 51) a1.toNatClampNeg (-1 : Int32)) fun h12 =>
  gs h12 (hR h12 a0 52) 21 <|
  gb (ib a1 (hN h12 (hR h12 a0 52))) <|
  lt (sI h12 (hR h12 a0 52) a1.toNatClampNeg (0 : Int32)) fun h16 =>
  gs h16 (hR h16 a0 53) 21 <|
  gb (ib a1 (hN h16 (hR h16 a0 53))) <|
  lt (sI h16 (hR h16 a0 53) a1.toNatClampNeg (-1 : Int32)) fun h20 =>
  gs h20 (hR h20 a0 55) 21 <|
  gb (ib a1 (hN h20 (hR h20 a0 55))) <|
  lt (sI h20 (hR h20 a0 55) a1.toNatClampNeg (0 : Int32)) fun h24 =>
  lt ((0 : Int32)) fun x25 =>
  f_X11_fill_L44 FU h24 a0 a1 a2 x25
def f_X11_findWay_L239 (k175 : AH → Nat → Int32 → Int32 → Option (Int32 × AH)) (h : AH) (a0 : Nat) (a3 : Int32) (a4 : Int32) : Option (Int32 × AH) :=
  lt (a4 + (1 : Int32)) fun x1 =>
  k175 h a0 a3 x1
def f_X11_findWay_L214 (k175 : AH → Nat → Int32 → Int32 → Option (Int32 × AH)) (h : AH) (a0 : Nat) (a3 : Int32) (a4 : Int32) : Option (Int32 × AH) :=
  gs h a0 10 <|
  gs h (hR h a0 48) 21 <|
  gb (ib a3 (hN h (hR h a0 48))) <|
  bd (f_X11_send h a0 (3 : Int32) (16 : Int32) a4 (hI h (hR h a0 48) a3.toNatClampNeg)) fun q4 =>
  gs q4 a0 10 <|
  gs q4 (hR q4 a0 55) 21 <|
  gb (ib a3 (hN q4 (hR q4 a0 55))) <|
  gb (ib a3 (hN q4 (hR q4 a0 55))) <|
  lt (sI q4 (hR q4 a0 55) a3.toNatClampNeg ((hI q4 (hR q4 a0 55) a3.toNatClampNeg) + (1 : Int32))) fun h9 =>
  f_X11_findWay_L239 k175 h9 a0 a3 a4
def f_X11_findWay_L175 : Nat → AH → Nat → Int32 → Int32 → Option (Int32 × AH)
  | 0, _, _, _, _ => none
  | n + 1, h, a0, a3, a4 =>
    gs h a0 10 <|
    gs h (hR h a0 21) 21 <|
    gb (ib (0 : Int32) (hN h (hR h a0 21))) <|
    if (hI h (hR h a0 21) (0 : Int32).toNatClampNeg) ≤ a4 then
      some ((-1 : Int32), h)
    else
      gs h (hR h a0 51) 21 <|
      gb (ib a3 (hN h (hR h a0 51))) <|
      if (hI h (hR h a0 51) a3.toNatClampNeg) = a4 then
        f_X11_findWay_L214 (f_X11_findWay_L175 n) h a0 a3 a4
      else
        gs h (hR h a0 52) 21 <|
        gb (ib a3 (hN h (hR h a0 52))) <|
        if ¬ (((hI h (hR h a0 52) a3.toNatClampNeg) >>> (a4 &&& 31)) &&& (1 : Int32)) = 0 then
          f_X11_findWay_L214 (f_X11_findWay_L175 n) h a0 a3 a4
        else
          f_X11_findWay_L239 (f_X11_findWay_L175 n) h a0 a3 a4
def f_X11_findWay_L147 (h : AH) (a0 : Nat) (a3 : Int32) : Option (Int32 × AH) :=
  gs h a0 10 <|
  lt (sI h a0 65 ((hI h a0 65) + (1 : Int32))) fun h2 =>
  gs h2 (hR h2 a0 53) 21 <|
  gb (ib a3 (hN h2 (hR h2 a0 53))) <|
  lt (sI h2 (hR h2 a0 53) a3.toNatClampNeg (16 : Int32)) fun h6 =>
  gs h6 (hR h6 a0 55) 21 <|
  gb (ib a3 (hN h6 (hR h6 a0 55))) <|
  lt (sI h6 (hR h6 a0 55) a3.toNatClampNeg (0 : Int32)) fun h10 =>
  lt ((0 : Int32)) fun x11 =>
  f_X11_findWay_L175 FU h10 a0 a3 x11
def f_X11_findWay_L102 (k54 : AH → Nat → Int32 → Int32 → Int32 → Int32 → Option (Int32 × AH)) (h : AH) (a0 : Nat) (a1 : Int32) (a2 : Int32) (a3 : Int32) (a4 : Int32) : Option (Int32 × AH) :=
  lt (a4 + (1 : Int32)) fun x1 =>
  k54 h a0 a1 a2 a3 x1
def f_X11_findWay_L99 (k54 : AH → Nat → Int32 → Int32 → Int32 → Int32 → Option (Int32 × AH)) (h : AH) (a0 : Nat) (a1 : Int32) (a2 : Int32) (a4 : Int32) : Option (Int32 × AH) :=
  f_X11_findWay_L102 k54 h a0 a1 a2 a4 a4
def f_X11_findWay_L54 : Nat → AH → Nat → Int32 → Int32 → Int32 → Int32 → Option (Int32 × AH)
  | 0, _, _, _, _, _, _ => none
  | n + 1, h, a0, a1, a2, a3, a4 =>
    gs h a0 10 <|
    gs h (hR h a0 21) 21 <|
    gb (ib (5 : Int32) (hN h (hR h a0 21))) <|
    if (a2 + (hI h (hR h a0 21) (5 : Int32).toNatClampNeg)) ≤ a4 then
      if ¬ a3 = (-1 : Int32) then
        gs h (hR h a0 51) 21 <|
        gb (ib a3 (hN h (hR h a0 51))) <|
        if ¬ (hI h (hR h a0 51) a3.toNatClampNeg) = (-1 : Int32) then
          f_X11_findWay_L147 h a0 a3
        else
          gs h (hR h a0 52) 21 <|
          gb (ib a3 (hN h (hR h a0 52))) <|
          if ¬ (hI h (hR h a0 52) a3.toNatClampNeg) = 0 then
            f_X11_findWay_L147 h a0 a3
          else
            bd (f_X11_writeBack h a0 a3) fun q12 =>
            gs q12 a0 10 <|
            bd (f_X11_fill q12 a0 a3 a1) fun q14 =>
            some (a3, q14)
      else
        some ((-1 : Int32), h)
    else
      gs h (hR h a0 53) 21 <|
      gb (ib a4 (hN h (hR h a0 53))) <|
      if ¬ (hI h (hR h a0 53) a4.toNatClampNeg) = (-1 : Int32) then
        f_X11_findWay_L102 (f_X11_findWay_L54 n) h a0 a1 a2 a3 a4
      else
        if a3 = (-1 : Int32) then
          f_X11_findWay_L99 (f_X11_findWay_L54 n) h a0 a1 a2 a4
        else
          gs h (hR h a0 56) 21 <|
          gb (ib a4 (hN h (hR h a0 56))) <|
          gb (ib a3 (hN h (hR h a0 56))) <|
          if (hI h (hR h a0 56) a3.toNatClampNeg) ≤ (hI h (hR h a0 56) a4.toNatClampNeg) then
            f_X11_findWay_L102 (f_X11_findWay_L54 n) h a0 a1 a2 a3 a4
          else
            f_X11_findWay_L99 (f_X11_findWay_L54 n) h a0 a1 a2 a4
def f_X11_findWay_L11 : Nat → AH → Nat → Int32 → Int32 → Int32 → Int32 → Option (Int32 × AH)
  | 0, _, _, _, _, _, _ => none
  | n + 1, h, a0, a1, a2, a3, a4 =>
    gs h a0 10 <|
    gs h (hR h a0 21) 21 <|
    gb (ib (5 : Int32) (hN h (hR h a0 21))) <|
    if (a2 + (hI h (hR h a0 21) (5 : Int32).toNatClampNeg)) ≤ a4 then
      f_X11_findWay_L54 FU h a0 a1 a2 a3 a2
    else
      gs h (hR h a0 48) 21 <|
      gb (ib a4 (hN h (hR h a0 48))) <|
      if ¬ (hI h (hR h a0 48) a4.toNatClampNeg) = (-1 : Int32) then
        lt (a4 + (1 : Int32)) fun x8 =>
        f_X11_findWay_L11 n h a0 a1 a2 a3 x8
      else
        bd (f_X11_fill h a0 a4 a1) fun q9 =>
        some (a4, q9)
def f_X11_findWay (h : AH) (a0 : Nat) (a1 : Int32) : Option (Int32 × AH) :=
  gs h a0 10 <|
  bd (f_X11_homeSet h a0 a1) fun v2 =>
  lt ((-1 : Int32)) fun x3 =>
  f_X11_findWay_L11 FU h a0 a1 v2 x3 v2
def f_X11_shares (h : AH) (a0 : Nat) (a1 : Int32) (a2 : Int32) (a3 : Int32) : Option (AH) :=
  gs h a0 10 <|
  gs h (hR h a0 51) 21 <|
  gb (ib a1 (hN h (hR h a0 51))) <|
  if (hI h (hR h a0 51) a1.toNatClampNeg) = (-1 : Int32) then
    gs h (hR h a0 52) 21 <|
    gb (ib a1 (hN h (hR h a0 52))) <|
    if ¬ (hI h (hR h a0 52) a1.toNatClampNeg) = 0 then
      gb (ib a1 (hN h (hR h a0 52))) <|
      gb (ib a1 (hN h (hR h a0 52))) <|
      lt (sI h (hR h a0 52) a1.toNatClampNeg ((hI h (hR h a0 52) a1.toNatClampNeg) ||| ((1 : Int32) <<< (a2 &&& 31)))) fun h10 =>
      bd (f_X11_give h10 a0 (6 : Int32) a2 a3) fun q12 =>
      some q12
    else
      gb (ib a1 (hN h (hR h a0 51))) <|
      lt (sI h (hR h a0 51) a1.toNatClampNeg a2) fun h14 =>
      bd (f_X11_give h14 a0 (7 : Int32) a2 a3) fun q16 =>
      some q16
  else
    gb (ib a1 (hN h (hR h a0 51))) <|
    bd (f_X11_send h a0 (4 : Int32) (16 : Int32) (hI h (hR h a0 51) a1.toNatClampNeg) a3) fun q18 =>
    gs q18 a0 10 <|
    gs q18 (hR q18 a0 55) 21 <|
    gb (ib a1 (hN q18 (hR q18 a0 55))) <|
    lt (sI q18 (hR q18 a0 55) a1.toNatClampNeg (1 : Int32)) fun h22 =>
    some h22
def f_X11_lend (h : AH) (a0 : Nat) (a1 : Int32) : Option (AH) :=
  gs h a0 10 <|
  gs h (hR h a0 53) 21 <|
  gb (ib a1 (hN h (hR h a0 53))) <|
  gs h (hR h a0 51) 21 <|
  gb (ib a1 (hN h (hR h a0 51))) <|
  lt (sI h (hR h a0 51) a1.toNatClampNeg (hI h (hR h a0 53) a1.toNatClampNeg)) fun h6 =>
  gs h6 (hR h6 a0 52) 21 <|
  gb (ib a1 (hN h6 (hR h6 a0 52))) <|
  lt (sI h6 (hR h6 a0 52) a1.toNatClampNeg (0 : Int32)) fun h10 =>
  gs h10 (hR h10 a0 53) 21 <|
  gb (ib a1 (hN h10 (hR h10 a0 53))) <|
  gs h10 (hR h10 a0 48) 21 <|
  gb (ib a1 (hN h10 (hR h10 a0 48))) <|
  bd (f_X11_give h10 a0 (8 : Int32) (hI h10 (hR h10 a0 53) a1.toNatClampNeg) (hI h10 (hR h10 a0 48) a1.toNatClampNeg)) fun q16 =>
  some q16
def f_X11_take_L264 (k196 : AH → Nat → Int32 → Int32 → Int32 → Int32 → Option (Int32 × AH)) (h : AH) (a0 : Nat) (a2 : Int32) (a3 : Int32) (a5 : Int32) (a6 : Int32) : Option (Int32 × AH) :=
  lt (a6 + (1 : Int32)) fun x1 =>
  k196 h a0 a2 a3 a5 x1
def f_X11_take_L243 (k196 : AH → Nat → Int32 → Int32 → Int32 → Int32 → Option (Int32 × AH)) (h : AH) (a0 : Nat) (a2 : Int32) (a3 : Int32) (a5 : Int32) (a6 : Int32) : Option (Int32 × AH) :=
  gs h a0 10 <|
  bd (f_X11_send h a0 (3 : Int32) (16 : Int32) a6 a3) fun q2 =>
  gs q2 a0 10 <|
  gs q2 (hR q2 a0 55) 21 <|
  gb (ib a5 (hN q2 (hR q2 a0 55))) <|
  gb (ib a5 (hN q2 (hR q2 a0 55))) <|
  lt (sI q2 (hR q2 a0 55) a5.toNatClampNeg ((hI q2 (hR q2 a0 55) a5.toNatClampNeg) + (1 : Int32))) fun h7 =>
  f_X11_take_L264 k196 h7 a0 a2 a3 a5 a6
def f_X11_take_L196 : Nat → AH → Nat → Int32 → Int32 → Int32 → Int32 → Option (Int32 × AH)
  | 0, _, _, _, _, _, _ => none
  | n + 1, h, a0, a2, a3, a5, a6 =>
    gs h a0 10 <|
    gs h (hR h a0 21) 21 <|
    gb (ib (0 : Int32) (hN h (hR h a0 21))) <|
    if (hI h (hR h a0 21) (0 : Int32).toNatClampNeg) ≤ a6 then
      gs h (hR h a0 55) 21 <|
      gb (ib a5 (hN h (hR h a0 55))) <|
      if ¬ (hI h (hR h a0 55) a5.toNatClampNeg) = 0 then
        some ((1 : Int32), h)
      else
        bd (f_X11_lend h a0 a5) fun q8 =>
        some ((1 : Int32), q8)
    else
      if a6 = a2 then
        f_X11_take_L264 (f_X11_take_L196 n) h a0 a2 a3 a5 a6
      else
        gs h (hR h a0 51) 21 <|
        gb (ib a5 (hN h (hR h a0 51))) <|
        if (hI h (hR h a0 51) a5.toNatClampNeg) = a6 then
          f_X11_take_L243 (f_X11_take_L196 n) h a0 a2 a3 a5 a6
        else
          gs h (hR h a0 52) 21 <|
          gb (ib a5 (hN h (hR h a0 52))) <|
          if ¬ (((hI h (hR h a0 52) a5.toNatClampNeg) >>> (a6 &&& 31)) &&& (1 : Int32)) = 0 then
            f_X11_take_L243 (f_X11_take_L196 n) h a0 a2 a3 a5 a6
          else
            f_X11_take_L264 (f_X11_take_L196 n) h a0 a2 a3 a5 a6
def f_X11_take_L126 (h : AH) (a0 : Nat) (a1 : Int32) (a2 : Int32) (a3 : Int32) (a5 : Int32) : Option (Int32 × AH) :=
  if ¬ a5 = (-1 : Int32) then
    gs h a0 10 <|
    lt (sI h a0 79 ((hI h a0 79) + (1 : Int32))) fun h3 =>
    gs h3 (hR h3 a0 56) 21 <|
    gb (ib a5 (hN h3 (hR h3 a0 56))) <|
    lt (sI h3 (hR h3 a0 56) a5.toNatClampNeg (hI h3 a0 79)) fun h7 =>
    gs h7 (hR h7 a0 53) 21 <|
    gb (ib a5 (hN h7 (hR h7 a0 53))) <|
    lt (sI h7 (hR h7 a0 53) a5.toNatClampNeg a2) fun h11 =>
    gs h11 (hR h11 a0 54) 21 <|
    gb (ib a5 (hN h11 (hR h11 a0 54))) <|
    lt (sI h11 (hR h11 a0 54) a5.toNatClampNeg a1) fun h15 =>
    gs h15 (hR h15 a0 55) 21 <|
    gb (ib a5 (hN h15 (hR h15 a0 55))) <|
    lt (sI h15 (hR h15 a0 55) a5.toNatClampNeg (0 : Int32)) fun h19 =>
    if ¬ a1 = 0 then
      lt ((0 : Int32)) fun x21 =>
      f_X11_take_L196 FU h19 a0 a2 a3 a5 x21
    else
      bd (f_X11_shares h19 a0 a5 a2 a3) fun q23 =>
      some ((1 : Int32), q23)
  else
    some ((0 : Int32), h)
def f_X11_take_L101 (h : AH) (a0 : Nat) (a2 : Int32) (a3 : Int32) : Option (Int32 × AH) :=
  gs h a0 10 <|
  bd (f_X11_send h a0 (9 : Int32) (16 : Int32) a2 a3) fun q2 =>
  some ((1 : Int32), q2)
def f_X11_take_L51 : Nat → AH → Nat → Int32 → Int32 → Int32 → Int32 → Int32 → Option (Int32 × AH)
  | 0, _, _, _, _, _, _, _ => none
  | n + 1, h, a0, a2, a3, a4, a5, a6 =>
    if (4 : Int32) ≤ a6 then
      gs h a0 10 <|
      gs h (hR h a0 50) 24 <|
      gb (ib a5 (hN h (hR h a0 50))) <|
      lt (sI h (hR h a0 50) a5.toNatClampNeg ((1 : Int32) &&& 1)) fun h5 =>
      gs h5 (hR h5 a0 51) 21 <|
      gb (ib a5 (hN h5 (hR h5 a0 51))) <|
      lt (sI h5 (hR h5 a0 51) a5.toNatClampNeg (-1 : Int32)) fun h9 =>
      f_X11_take_L101 h9 a0 a2 a3
    else
      gs h a0 10 <|
      gs h (hR h a0 58) 21 <|
      gb (ib (a4 + a6) (hN h (hR h a0 58))) <|
      gs h (hR h a0 49) 21 <|
      gb (ib (((4 : Int32) * a5) + a6) (hN h (hR h a0 49))) <|
      lt (sI h (hR h a0 49) (((4 : Int32) * a5) + a6).toNatClampNeg (hI h (hR h a0 58) (a4 + a6).toNatClampNeg)) fun h15 =>
      lt (a6 + (1 : Int32)) fun x16 =>
      f_X11_take_L51 n h15 a0 a2 a3 a4 a5 x16
def f_X11_take_L26 (h : AH) (a0 : Nat) (a1 : Int32) (a2 : Int32) (a3 : Int32) (a4 : Int32) (a5 : Int32) : Option (Int32 × AH) :=
  if ¬ a1 = (2 : Int32) then
    if ¬ a5 = (-1 : Int32) then
      f_X11_take_L126 h a0 a1 a2 a3 a5
    else
      gs h a0 10 <|
      bd (f_X11_findWay h a0 a3) fun q4 =>
      lt (q4.1) fun x5 =>
      f_X11_take_L126 q4.2 a0 a1 a2 a3 x5
  else
    if a5 = (-1 : Int32) then
      f_X11_take_L101 h a0 a2 a3
    else
      gs h a0 10 <|
      gs h (hR h a0 51) 21 <|
      gb (ib a5 (hN h (hR h a0 51))) <|
      if ¬ (hI h (hR h a0 51) a5.toNatClampNeg) = a2 then
        f_X11_take_L101 h a0 a2 a3
      else
        lt ((0 : Int32)) fun x11 =>
        f_X11_take_L51 FU h a0 a2 a3 a4 a5 x11
def f_X11_take (h : AH) (a0 : Nat) (a1 : Int32) (a2 : Int32) (a3 : Int32) (a4 : Int32) : Option (Int32 × AH) :=
  gs h a0 10 <|
  bd (f_X11_homeWay h a0 a3) fun v2 =>
  if v2 = (-1 : Int32) then
    f_X11_take_L26 h a0 a1 a2 a3 a4 v2
  else
    gs h (hR h a0 53) 21 <|
    gb (ib v2 (hN h (hR h a0 53))) <|
    if (hI h (hR h a0 53) v2.toNatClampNeg) = (-1 : Int32) then
      f_X11_take_L26 h a0 a1 a2 a3 a4 v2
    else
      some ((0 : Int32), h)
def f_X11_goOn_L123 (k2 : AH → Nat → Int32 → Int32 → Option (AH)) : Nat → AH → Nat → Int32 → Int32 → Int32 → Option (AH)
  | 0, _, _, _, _, _ => none
  | n + 1, h, a0, a1, a2, a4 =>
    gs h a0 10 <|
    if ((7 : Int32) * (hI h a0 57)) ≤ a4 then
      k2 h a0 a1 a2
    else
      gs h (hR h a0 58) 21 <|
      gb (ib (a4 + (7 : Int32)) (hN h (hR h a0 58))) <|
      gb (ib a4 (hN h (hR h a0 58))) <|
      lt (sI h (hR h a0 58) a4.toNatClampNeg (hI h (hR h a0 58) (a4 + (7 : Int32)).toNatClampNeg)) fun h6 =>
      lt (a4 + (1 : Int32)) fun x7 =>
      f_X11_goOn_L123 k2 n h6 a0 a1 a2 x7
def f_X11_goOn_L99 (k2 : AH → Nat → Int32 → Int32 → Option (AH)) (h : AH) (a0 : Nat) (a1 : Int32) (a3 : Int32) (s0 : Int32) : Option (AH) :=
  if ¬ s0 = 0 then
    gs h a0 10 <|
    lt (sI h a0 57 ((hI h a0 57) - (1 : Int32))) fun h3 =>
    lt (((7 : Int32) * a3)) fun x4 =>
    f_X11_goOn_L123 k2 FU h3 a0 a1 s0 x4
  else
    k2 h a0 a1 s0
def f_X11_goOn_L98 (k2 : AH → Nat → Int32 → Int32 → Option (AH)) (h : AH) (a0 : Nat) (a1 : Int32) (a3 : Int32) : Option (AH) :=
  f_X11_goOn_L99 k2 h a0 a1 a3 (0 : Int32)
def f_X11_goOn_L42 (k2 : AH → Nat → Int32 → Int32 → Option (AH)) (h : AH) (a0 : Nat) (a1 : Int32) (a3 : Int32) : Option (AH) :=
  gs h a0 10 <|
  if (hI h a0 57) ≤ a3 then
    f_X11_goOn_L98 k2 h a0 a1 a3
  else
    gs h (hR h a0 58) 21 <|
    gb (ib (((7 : Int32) * a3) + (1 : Int32)) (hN h (hR h a0 58))) <|
    gb (ib (((7 : Int32) * a3) + (2 : Int32)) (hN h (hR h a0 58))) <|
    gb (ib ((7 : Int32) * a3) (hN h (hR h a0 58))) <|
    bd (f_X11_take h a0 (hI h (hR h a0 58) (((7 : Int32) * a3) + (1 : Int32)).toNatClampNeg) (hI h (hR h a0 58) (((7 : Int32) * a3) + (2 : Int32)).toNatClampNeg) (hI h (hR h a0 58) ((7 : Int32) * a3).toNatClampNeg) (((7 : Int32) * a3) + (3 : Int32))) fun q7 =>
    if q7.1 = 0 then
      f_X11_goOn_L98 k2 q7.2 a0 a1 a3
    else
      f_X11_goOn_L99 k2 q7.2 a0 a1 a3 (1 : Int32)
def f_X11_goOn_L8 (k2 : AH → Nat → Int32 → Int32 → Option (AH)) : Nat → AH → Nat → Int32 → Int32 → Option (AH)
  | 0, _, _, _, _ => none
  | n + 1, h, a0, a1, a3 =>
    gs h a0 10 <|
    if (hI h a0 57) ≤ a3 then
      f_X11_goOn_L42 k2 h a0 a1 a3
    else
      gs h (hR h a0 58) 21 <|
      gb (ib ((7 : Int32) * a3) (hN h (hR h a0 58))) <|
      gs h (hR h a0 21) 21 <|
      gb (ib (4 : Int32) (hN h (hR h a0 21))) <|
      gb (decide (¬ (hI h (hR h a0 21) (4 : Int32).toNatClampNeg) = 0)) <|
      if ((hI h (hR h a0 58) ((7 : Int32) * a3).toNatClampNeg) - (hI h (hR h a0 58) ((7 : Int32) * a3).toNatClampNeg) / (hI h (hR h a0 21) (4 : Int32).toNatClampNeg) * (hI h (hR h a0 21) (4 : Int32).toNatClampNeg)) = a1 then
        f_X11_goOn_L42 k2 h a0 a1 a3
      else
        lt (a3 + (1 : Int32)) fun x9 =>
        f_X11_goOn_L8 k2 n h a0 a1 x9
def f_X11_goOn_L2 : Nat → AH → Nat → Int32 → Int32 → Option (AH)
  | 0, _, _, _, _ => none
  | n + 1, h, a0, a1, a2 =>
    if a2 = 0 then
      some h
    else
      lt ((0 : Int32)) fun x2 =>
      f_X11_goOn_L8 (f_X11_goOn_L2 n) FU h a0 a1 x2
def f_X11_goOn (h : AH) (a0 : Nat) (a1 : Int32) : Option (AH) :=
  lt ((1 : Int32)) fun x1 =>
  f_X11_goOn_L2 FU h a0 a1 x1
def f_X11_ack_L148 (h : AH) : Option (AH) :=
  some h
def f_X11_ack_L54 (h : AH) (a0 : Nat) (a1 : Int32) (a2 : Int32) : Option (AH) :=
  gs h a0 10 <|
  gs h (hR h a0 55) 21 <|
  gb (ib a2 (hN h (hR h a0 55))) <|
  gb (ib a2 (hN h (hR h a0 55))) <|
  lt (sI h (hR h a0 55) a2.toNatClampNeg ((hI h (hR h a0 55) a2.toNatClampNeg) - (1 : Int32))) fun h5 =>
  gs h5 (hR h5 a0 55) 21 <|
  gb (ib a2 (hN h5 (hR h5 a0 55))) <|
  if (hI h5 (hR h5 a0 55) a2.toNatClampNeg) ≤ 0 then
    gs h5 (hR h5 a0 53) 21 <|
    gb (ib a2 (hN h5 (hR h5 a0 53))) <|
    if ¬ (hI h5 (hR h5 a0 53) a2.toNatClampNeg) = (16 : Int32) then
      gs h5 (hR h5 a0 54) 21 <|
      gb (ib a2 (hN h5 (hR h5 a0 54))) <|
      if ¬ (hI h5 (hR h5 a0 54) a2.toNatClampNeg) = (1 : Int32) then
        gs h5 (hR h5 a0 51) 21 <|
        gb (ib a2 (hN h5 (hR h5 a0 51))) <|
        gb (ib a2 (hN h5 (hR h5 a0 53))) <|
        gs h5 (hR h5 a0 52) 21 <|
        gb (ib a2 (hN h5 (hR h5 a0 52))) <|
        lt (sI h5 (hR h5 a0 52) a2.toNatClampNeg (((1 : Int32) <<< ((hI h5 (hR h5 a0 51) a2.toNatClampNeg) &&& 31)) ||| ((1 : Int32) <<< ((hI h5 (hR h5 a0 53) a2.toNatClampNeg) &&& 31)))) fun h21 =>
        gs h21 (hR h21 a0 51) 21 <|
        gb (ib a2 (hN h21 (hR h21 a0 51))) <|
        lt (sI h21 (hR h21 a0 51) a2.toNatClampNeg (-1 : Int32)) fun h25 =>
        gs h25 (hR h25 a0 53) 21 <|
        gb (ib a2 (hN h25 (hR h25 a0 53))) <|
        bd (f_X11_give h25 a0 (6 : Int32) (hI h25 (hR h25 a0 53) a2.toNatClampNeg) a1) fun q29 =>
        some q29
      else
        bd (f_X11_lend h5 a0 a2) fun q30 =>
        f_X11_ack_L148 q30
    else
      bd (f_X11_writeBack h5 a0 a2) fun q31 =>
      gs q31 a0 10 <|
      gs q31 (hR q31 a0 48) 21 <|
      gb (ib a2 (hN q31 (hR q31 a0 48))) <|
      lt (sI q31 (hR q31 a0 48) a2.toNatClampNeg (-1 : Int32)) fun h35 =>
      gs h35 (hR h35 a0 53) 21 <|
      gb (ib a2 (hN h35 (hR h35 a0 53))) <|
      lt (sI h35 (hR h35 a0 53) a2.toNatClampNeg (-1 : Int32)) fun h39 =>
      gs h39 (hR h39 a0 51) 21 <|
      gb (ib a2 (hN h39 (hR h39 a0 51))) <|
      lt (sI h39 (hR h39 a0 51) a2.toNatClampNeg (-1 : Int32)) fun h43 =>
      gs h43 (hR h43 a0 52) 21 <|
      gb (ib a2 (hN h43 (hR h43 a0 52))) <|
      lt (sI h43 (hR h43 a0 52) a2.toNatClampNeg (0 : Int32)) fun h47 =>
      gs h47 (hR h47 a0 21) 21 <|
      gb (ib (4 : Int32) (hN h47 (hR h47 a0 21))) <|
      gb (decide (¬ (hI h47 (hR h47 a0 21) (4 : Int32).toNatClampNeg) = 0)) <|
      bd (f_X11_goOn h47 a0 (a1 - a1 / (hI h47 (hR h47 a0 21) (4 : Int32).toNatClampNeg) * (hI h47 (hR h47 a0 21) (4 : Int32).toNatClampNeg))) fun q52 =>
      some q52
  else
    some h5
def f_X11_ack_L18 : Nat → AH → Nat → Int32 → Int32 → Int32 → Option (AH)
  | 0, _, _, _, _, _ => none
  | n + 1, h, a0, a1, a2, a3 =>
    if (4 : Int32) ≤ a3 then
      gs h a0 10 <|
      gs h (hR h a0 50) 24 <|
      gb (ib a2 (hN h (hR h a0 50))) <|
      lt (sI h (hR h a0 50) a2.toNatClampNeg ((1 : Int32) &&& 1)) fun h5 =>
      f_X11_ack_L54 h5 a0 a1 a2
    else
      gs h a0 10 <|
      gs h (hR h a0 80) 21 <|
      gb (ib ((5 : Int32) + a3) (hN h (hR h a0 80))) <|
      gs h (hR h a0 49) 21 <|
      gb (ib (((4 : Int32) * a2) + a3) (hN h (hR h a0 49))) <|
      lt (sI h (hR h a0 49) (((4 : Int32) * a2) + a3).toNatClampNeg (hI h (hR h a0 80) ((5 : Int32) + a3).toNatClampNeg)) fun h11 =>
      lt (a3 + (1 : Int32)) fun x12 =>
      f_X11_ack_L18 n h11 a0 a1 a2 x12
def f_X11_ack (h : AH) (a0 : Nat) (a1 : Int32) : Option (AH) :=
  gs h a0 10 <|
  bd (f_X11_homeWay h a0 a1) fun v2 =>
  gs h (hR h a0 80) 21 <|
  gb (ib (4 : Int32) (hN h (hR h a0 80))) <|
  if ¬ (hI h (hR h a0 80) (4 : Int32).toNatClampNeg) = (1 : Int32) then
    f_X11_ack_L54 h a0 a1 v2
  else
    lt ((0 : Int32)) fun x6 =>
    f_X11_ack_L18 FU h a0 a1 v2 x6
def f_X11_atHome_L117 : Nat → AH → Nat → Int32 → Int32 → Option (AH)
  | 0, _, _, _, _ => none
  | n + 1, h, a0, a1, a2 =>
    if (4 : Int32) ≤ a2 then
      gs h a0 10 <|
      lt (sI h a0 57 ((hI h a0 57) + (1 : Int32))) fun h3 =>
      gs h3 (hR h3 a0 21) 21 <|
      gb (ib (4 : Int32) (hN h3 (hR h3 a0 21))) <|
      gb (decide (¬ (hI h3 (hR h3 a0 21) (4 : Int32).toNatClampNeg) = 0)) <|
      bd (f_X11_goOn h3 a0 (a1 - a1 / (hI h3 (hR h3 a0 21) (4 : Int32).toNatClampNeg) * (hI h3 (hR h3 a0 21) (4 : Int32).toNatClampNeg))) fun q8 =>
      some q8
    else
      gs h a0 10 <|
      gs h (hR h a0 80) 21 <|
      gb (ib ((5 : Int32) + a2) (hN h (hR h a0 80))) <|
      gs h (hR h a0 58) 21 <|
      gb (ib ((((7 : Int32) * (hI h a0 57)) + (3 : Int32)) + a2) (hN h (hR h a0 58))) <|
      lt (sI h (hR h a0 58) ((((7 : Int32) * (hI h a0 57)) + (3 : Int32)) + a2).toNatClampNeg (hI h (hR h a0 80) ((5 : Int32) + a2).toNatClampNeg)) fun h14 =>
      lt (a2 + (1 : Int32)) fun x15 =>
      f_X11_atHome_L117 n h14 a0 a1 x15
def f_X11_atHome_L115 (h : AH) (a0 : Nat) (a1 : Int32) : Option (AH) :=
  lt ((0 : Int32)) fun x1 =>
  f_X11_atHome_L117 FU h a0 a1 x1
def f_X11_atHome (h : AH) (a0 : Nat) : Option (AH) :=
  gs h a0 10 <|
  gs h (hR h a0 80) 21 <|
  gb (ib (3 : Int32) (hN h (hR h a0 80))) <|
  lt ((hI h (hR h a0 80) (3 : Int32).toNatClampNeg)) fun x4 =>
  gb (ib (0 : Int32) (hN h (hR h a0 80))) <|
  if ¬ (hI h (hR h a0 80) (0 : Int32).toNatClampNeg) = (5 : Int32) then
    gb (ib (0 : Int32) (hN h (hR h a0 80))) <|
    if ¬ (hI h (hR h a0 80) (0 : Int32).toNatClampNeg) = (10 : Int32) then
      gs h (hR h a0 58) 21 <|
      gb (ib ((7 : Int32) * (hI h a0 57)) (hN h (hR h a0 58))) <|
      lt (sI h (hR h a0 58) ((7 : Int32) * (hI h a0 57)).toNatClampNeg x4) fun h11 =>
      gs h11 (hR h11 a0 80) 21 <|
      gb (ib (0 : Int32) (hN h11 (hR h11 a0 80))) <|
      gs h11 (hR h11 a0 58) 21 <|
      gb (ib (((7 : Int32) * (hI h11 a0 57)) + (1 : Int32)) (hN h11 (hR h11 a0 58))) <|
      lt (sI h11 (hR h11 a0 58) (((7 : Int32) * (hI h11 a0 57)) + (1 : Int32)).toNatClampNeg (hI h11 (hR h11 a0 80) (0 : Int32).toNatClampNeg)) fun h17 =>
      gs h17 (hR h17 a0 80) 21 <|
      gb (ib (1 : Int32) (hN h17 (hR h17 a0 80))) <|
      gs h17 (hR h17 a0 58) 21 <|
      gb (ib (((7 : Int32) * (hI h17 a0 57)) + (2 : Int32)) (hN h17 (hR h17 a0 58))) <|
      lt (sI h17 (hR h17 a0 58) (((7 : Int32) * (hI h17 a0 57)) + (2 : Int32)).toNatClampNeg (hI h17 (hR h17 a0 80) (1 : Int32).toNatClampNeg)) fun h23 =>
      f_X11_atHome_L115 h23 a0 x4
    else
      bd (f_X11_homeWay h a0 x4) fun v24 =>
      gs h (hR h a0 53) 21 <|
      gb (ib v24 (hN h (hR h a0 53))) <|
      lt (sI h (hR h a0 53) v24.toNatClampNeg (-1 : Int32)) fun h27 =>
      gs h27 (hR h27 a0 21) 21 <|
      gb (ib (4 : Int32) (hN h27 (hR h27 a0 21))) <|
      gb (decide (¬ (hI h27 (hR h27 a0 21) (4 : Int32).toNatClampNeg) = 0)) <|
      bd (f_X11_goOn h27 a0 (x4 - x4 / (hI h27 (hR h27 a0 21) (4 : Int32).toNatClampNeg) * (hI h27 (hR h27 a0 21) (4 : Int32).toNatClampNeg))) fun q32 =>
      some q32
  else
    bd (f_X11_ack h a0 x4) fun q33 =>
    some q33
def f_X11_answer_L72 (h : AH) (a0 : Nat) : Option (AH) :=
  gs h a0 10 <|
  bd (f_X11_post h a0) fun q2 =>
  some q2
def f_X11_answer_L55 (h : AH) (a0 : Nat) (a1 : Int32) (a2 : Int32) : Option (AH) :=
  gs h a0 10 <|
  gs h (hR h a0 35) 21 <|
  gb (ib a1 (hN h (hR h a0 35))) <|
  if ¬ (hI h (hR h a0 35) a1.toNatClampNeg) = a2 then
    f_X11_answer_L72 h a0
  else
    gs h (hR h a0 36) 24 <|
    gb (ib a1 (hN h (hR h a0 36))) <|
    lt (sI h (hR h a0 36) a1.toNatClampNeg ((1 : Int32) &&& 1)) fun h7 =>
    f_X11_answer_L72 h7 a0
def f_X11_answer_L50 (h : AH) (a0 : Nat) (a1 : Int32) (a2 : Int32) : Option (AH) :=
  gs h a0 10 <|
  bd (f_X11_withWords h a0 a2) fun q2 =>
  f_X11_answer_L55 q2 a0 a1 a2
def f_X11_answer_L31 (h : AH) (a0 : Nat) (a1 : Int32) (a2 : Int32) : Option (AH) :=
  gs h a0 10 <|
  gs h (hR h a0 35) 21 <|
  gb (ib a1 (hN h (hR h a0 35))) <|
  if ¬ (hI h (hR h a0 35) a1.toNatClampNeg) = a2 then
    f_X11_answer_L55 h a0 a1 a2
  else
    gs h (hR h a0 36) 24 <|
    gb (ib a1 (hN h (hR h a0 36))) <|
    if ¬ (hI h (hR h a0 36) a1.toNatClampNeg) = 0 then
      f_X11_answer_L55 h a0 a1 a2
    else
      f_X11_answer_L50 h a0 a1 a2
def f_X11_answer (h : AH) (a0 : Nat) (a1 : Int32) (a2 : Int32) : Option (AH) :=
  gs h a0 10 <|
  bd (f_X11_blank h a0 (5 : Int32) a1 (16 : Int32) a2) fun q2 =>
  gs q2 a0 10 <|
  bd (f_X11_wayOf q2 a0 a1 a2) fun v4 =>
  if v4 = (-1 : Int32) then
    f_X11_answer_L31 q2 a0 a1 a2
  else
    gs q2 (hR q2 a0 45) 21 <|
    gb (ib v4 (hN q2 (hR q2 a0 45))) <|
    if (1 : Int32) < (hI q2 (hR q2 a0 45) v4.toNatClampNeg) then
      f_X11_answer_L50 q2 a0 a1 a2
    else
      f_X11_answer_L31 q2 a0 a1 a2
def f_X11_atCore_L72 (h : AH) (a0 : Nat) (a1 : Int32) (a2 : Int32) (a3 : Int32) : Option (AH) :=
  gs h a0 10 <|
  gs h (hR h a0 44) 21 <|
  gb (ib a3 (hN h (hR h a0 44))) <|
  lt (sI h (hR h a0 44) a3.toNatClampNeg a2) fun h4 =>
  gs h4 (hR h4 a0 80) 21 <|
  gb (ib (0 : Int32) (hN h4 (hR h4 a0 80))) <|
  gs h4 (hR h4 a0 45) 21 <|
  gb (ib a3 (hN h4 (hR h4 a0 45))) <|
  lt (sI h4 (hR h4 a0 45) a3.toNatClampNeg (((hI h4 (hR h4 a0 80) (0 : Int32).toNatClampNeg) - (6 : Int32)) + (1 : Int32))) fun h10 =>
  bd (f_X11_use h10 a0 a3) fun q12 =>
  gs q12 a0 10 <|
  gs q12 (hR q12 a0 34) 21 <|
  gb (ib a1 (hN q12 (hR q12 a0 34))) <|
  lt (sI q12 (hR q12 a0 34) a1.toNatClampNeg (-1 : Int32)) fun h16 =>
  bd (f_X11_send h16 a0 (10 : Int32) a1 (16 : Int32) a2) fun q18 =>
  some q18
def f_X11_atCore_L170 (h : AH) (a0 : Nat) (a1 : Int32) : Option (AH) :=
  gs h a0 10 <|
  gs h (hR h a0 36) 24 <|
  gb (ib a1 (hN h (hR h a0 36))) <|
  lt (sI h (hR h a0 36) a1.toNatClampNeg ((0 : Int32) &&& 1)) fun h4 =>
  some h4
def f_X11_atCore (h : AH) (a0 : Nat) (a1 : Int32) : Option (AH) :=
  gs h a0 10 <|
  gs h (hR h a0 80) 21 <|
  gb (ib (3 : Int32) (hN h (hR h a0 80))) <|
  lt ((hI h (hR h a0 80) (3 : Int32).toNatClampNeg)) fun x4 =>
  bd (f_X11_wayOf h a0 a1 x4) fun v5 =>
  gb (ib (0 : Int32) (hN h (hR h a0 80))) <|
  if (hI h (hR h a0 80) (0 : Int32).toNatClampNeg) = (3 : Int32) then
    bd (f_X11_answer h a0 a1 x4) fun q8 =>
    if v5 = (-1 : Int32) then
      some q8
    else
      gs q8 a0 10 <|
      gs q8 (hR q8 a0 45) 21 <|
      gb (ib v5 (hN q8 (hR q8 a0 45))) <|
      lt (sI q8 (hR q8 a0 45) v5.toNatClampNeg (0 : Int32)) fun h13 =>
      some h13
  else
    if (hI h (hR h a0 80) (0 : Int32).toNatClampNeg) = (4 : Int32) then
      bd (f_X11_answer h a0 a1 x4) fun q15 =>
      if v5 = (-1 : Int32) then
        some q15
      else
        gs q15 a0 10 <|
        gs q15 (hR q15 a0 45) 21 <|
        gb (ib v5 (hN q15 (hR q15 a0 45))) <|
        lt (sI q15 (hR q15 a0 45) v5.toNatClampNeg (1 : Int32)) fun h20 =>
        some h20
    else
      if (hI h (hR h a0 80) (0 : Int32).toNatClampNeg) = (6 : Int32) then
        if ¬ v5 = (-1 : Int32) then
          f_X11_atCore_L72 h a0 a1 x4 v5
        else
          bd (f_X11_freeWay h a0 a1 x4) fun v23 =>
          f_X11_atCore_L72 h a0 a1 x4 v23
      else
        if (hI h (hR h a0 80) (0 : Int32).toNatClampNeg) = (7 : Int32) then
          if ¬ v5 = (-1 : Int32) then
            f_X11_atCore_L72 h a0 a1 x4 v5
          else
            bd (f_X11_freeWay h a0 a1 x4) fun v26 =>
            f_X11_atCore_L72 h a0 a1 x4 v26
        else
          if (hI h (hR h a0 80) (0 : Int32).toNatClampNeg) = (8 : Int32) then
            if ¬ v5 = (-1 : Int32) then
              f_X11_atCore_L72 h a0 a1 x4 v5
            else
              bd (f_X11_freeWay h a0 a1 x4) fun v29 =>
              f_X11_atCore_L72 h a0 a1 x4 v29
          else
            gs h (hR h a0 35) 21 <|
            gb (ib a1 (hN h (hR h a0 35))) <|
            lt (sI h (hR h a0 35) a1.toNatClampNeg (-1 : Int32)) fun h32 =>
            f_X11_atCore_L170 h32 a0 a1
