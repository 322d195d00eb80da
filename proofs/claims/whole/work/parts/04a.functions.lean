def f_X0_become (c_kind : Int32) (c_set : Int32) (c_key : Int32) (c_other : Int32) (l1 : Int32) (l2 : Int32) (l3 : Int32) (l4 : Int32) : Option (Int32 × Int32 × Int32 × Int32) :=
  some (l1, l2, l3, l4)

def f_X0_draw (c_kind : Int32) (c_set : Int32) (c_key : Int32) (c_other : Int32) (l1 : Int32) : Option (Int32 × Int32 × Int32 × Int32) :=
  if (l1 - l1 / (8 : Int32) * (8 : Int32)) = (0 : Int32) then
    Option.bind (f_X0_become c_kind c_set c_key c_other (43 : Int32) (((l1 / (8 : Int32)) / (50 : Int32)) - ((l1 / (8 : Int32)) / (50 : Int32)) / (4 : Int32) * (4 : Int32)) ((l1 / (8 : Int32)) - (l1 / (8 : Int32)) / (50 : Int32) * (50 : Int32)) (0 : Int32)) (fun x1 =>
    some (x1.1, x1.2.1, x1.2.2.1, x1.2.2.2))
  else
    if (l1 - l1 / (8 : Int32) * (8 : Int32)) = (1 : Int32) then
      Option.bind (f_X0_become c_kind c_set c_key c_other (43 : Int32) (((l1 / (8 : Int32)) / (50 : Int32)) - ((l1 / (8 : Int32)) / (50 : Int32)) / (4 : Int32) * (4 : Int32)) ((l1 / (8 : Int32)) - (l1 / (8 : Int32)) / (50 : Int32) * (50 : Int32)) (0 : Int32)) (fun x2 =>
      some (x2.1, x2.2.1, x2.2.2.1, x2.2.2.2))
    else
      if (l1 - l1 / (8 : Int32) * (8 : Int32)) = (2 : Int32) then
        Option.bind (f_X0_become c_kind c_set c_key c_other (43 : Int32) (((l1 / (8 : Int32)) / (50 : Int32)) - ((l1 / (8 : Int32)) / (50 : Int32)) / (4 : Int32) * (4 : Int32)) ((l1 / (8 : Int32)) - (l1 / (8 : Int32)) / (50 : Int32) * (50 : Int32)) (0 : Int32)) (fun x3 =>
        some (x3.1, x3.2.1, x3.2.2.1, x3.2.2.2))
      else
        if (l1 - l1 / (8 : Int32) * (8 : Int32)) = (3 : Int32) then
          Option.bind (f_X0_become c_kind c_set c_key c_other (45 : Int32) (((l1 / (8 : Int32)) / (50 : Int32)) - ((l1 / (8 : Int32)) / (50 : Int32)) / (4 : Int32) * (4 : Int32)) ((l1 / (8 : Int32)) - (l1 / (8 : Int32)) / (50 : Int32) * (50 : Int32)) (0 : Int32)) (fun x4 =>
          some (x4.1, x4.2.1, x4.2.2.1, x4.2.2.2))
        else
          if (l1 - l1 / (8 : Int32) * (8 : Int32)) = (4 : Int32) then
            Option.bind (f_X0_become c_kind c_set c_key c_other (45 : Int32) (((l1 / (8 : Int32)) / (50 : Int32)) - ((l1 / (8 : Int32)) / (50 : Int32)) / (4 : Int32) * (4 : Int32)) ((l1 / (8 : Int32)) - (l1 / (8 : Int32)) / (50 : Int32) * (50 : Int32)) (0 : Int32)) (fun x5 =>
            some (x5.1, x5.2.1, x5.2.2.1, x5.2.2.2))
          else
            if (l1 - l1 / (8 : Int32) * (8 : Int32)) = (5 : Int32) then
              Option.bind (f_X0_become c_kind c_set c_key c_other (47 : Int32) ((l1 / (8 : Int32)) - (l1 / (8 : Int32)) / (4 : Int32) * (4 : Int32)) (((l1 / (8 : Int32)) / (4 : Int32)) - ((l1 / (8 : Int32)) / (4 : Int32)) / (50 : Int32) * (50 : Int32)) (((l1 / (8 : Int32)) / (200 : Int32)) - ((l1 / (8 : Int32)) / (200 : Int32)) / (4 : Int32) * (4 : Int32))) (fun x6 =>
              some (x6.1, x6.2.1, x6.2.2.1, x6.2.2.2))
            else
              if (l1 - l1 / (8 : Int32) * (8 : Int32)) = (6 : Int32) then
                if (((l1 / (8 : Int32)) / (16 : Int32)) - ((l1 / (8 : Int32)) / (16 : Int32)) / (2 : Int32) * (2 : Int32)) = (0 : Int32) then
                  Option.bind (f_X0_become c_kind c_set c_key c_other (38 : Int32) ((l1 / (8 : Int32)) - (l1 / (8 : Int32)) / (4 : Int32) * (4 : Int32)) (0 : Int32) (((l1 / (8 : Int32)) / (4 : Int32)) - ((l1 / (8 : Int32)) / (4 : Int32)) / (4 : Int32) * (4 : Int32))) (fun x8 =>
                  some (x8.1, x8.2.1, x8.2.2.1, x8.2.2.2))
                else
                  Option.bind (f_X0_become c_kind c_set c_key c_other (124 : Int32) ((l1 / (8 : Int32)) - (l1 / (8 : Int32)) / (4 : Int32) * (4 : Int32)) (0 : Int32) (((l1 / (8 : Int32)) / (4 : Int32)) - ((l1 / (8 : Int32)) / (4 : Int32)) / (4 : Int32) * (4 : Int32))) (fun x7 =>
                  some (x7.1, x7.2.1, x7.2.2.1, x7.2.2.2))
              else
                Option.bind (
                  if ((l1 / (8 : Int32)) - (l1 / (8 : Int32)) / (4 : Int32) * (4 : Int32)) = (0 : Int32) then
                    some (33 : Int32)
                  else
                    some (61 : Int32)) (fun x9 =>
                Option.bind (f_X0_become c_kind c_set c_key c_other x9 (((l1 / (8 : Int32)) / (4 : Int32)) - ((l1 / (8 : Int32)) / (4 : Int32)) / (4 : Int32) * (4 : Int32)) (0 : Int32) (((l1 / (8 : Int32)) / (16 : Int32)) - ((l1 / (8 : Int32)) / (16 : Int32)) / (4 : Int32) * (4 : Int32))) (fun x10 =>
                some (x10.1, x10.2.1, x10.2.2.1, x10.2.2.2)))

def f_X2_write (c_signs : Nat → Int32) (c_count : Int32) (l1 : Int32) : Option (Int32 × (Nat → Int32) × Int32) :=
  if c_count < (60 : Int32) then
    Option.bind (aset 60 c_signs c_count l1) (fun f1 =>
    some ((1 : Int32), f1, (c_count + (1 : Int32))))
  else
    some ((0 : Int32), c_signs, c_count)

def f_X2_clear (c_count : Int32) : Option (Int32) :=
  some (0 : Int32)

def f_X7_isSet (l0 : Int32) : Option (Int32) :=
  if l0 < (0 : Int32) then
    some (0 : Int32)
  else
    if (4 : Int32) ≤ l0 then
      some (0 : Int32)
    else
      some (1 : Int32)

def f_X2_isLetter (l0 : Int32) : Option (Int32) :=
  Option.bind (f_X7_isSet (l0 - (65 : Int32))) (fun x1 =>
  Option.bind (bz x1) (fun v2 =>
  some x1))

def f_X2_followKind (l0 : Int32) : Option (Int32) :=
  if l0 = (38 : Int32) then
    some (6 : Int32)
  else
    if l0 = (43 : Int32) then
      some (2 : Int32)
    else
      if l0 = (45 : Int32) then
        some (2 : Int32)
      else
        if l0 = (47 : Int32) then
          some (4 : Int32)
        else
          if l0 = (61 : Int32) then
            some (6 : Int32)
          else
            if l0 = (124 : Int32) then
              some (6 : Int32)
            else
              if l0 = (126 : Int32) then
                some (6 : Int32)
              else
                some (-6 : Int32)

def f_X2_isTens (l0 : Int32) : Option (Int32) :=
  if l0 < (48 : Int32) then
    some (0 : Int32)
  else
    if (52 : Int32) < l0 then
      some (0 : Int32)
    else
      some (1 : Int32)

def f_X2_isFigure (l0 : Int32) : Option (Int32) :=
  if l0 < (48 : Int32) then
    some (0 : Int32)
  else
    if (57 : Int32) < l0 then
      some (0 : Int32)
    else
      some (1 : Int32)

def f_X2_follow (l0 : Int32) (l1 : Int32) : Option (Int32) :=
  if l0 = (0 : Int32) then
    if l1 = (33 : Int32) then
      some (0 : Int32)
    else
      Option.bind (f_X2_isLetter l1) (fun x1 =>
      if x1 = (0 : Int32) then
        some (-6 : Int32)
      else
        some (1 : Int32))
  else
    if l0 = (1 : Int32) then
      Option.bind (f_X2_followKind l1) (fun x2 =>
      some x2)
    else
      if l0 = (2 : Int32) then
        Option.bind (f_X2_isTens l1) (fun x3 =>
        if x3 = (0 : Int32) then
          some (-6 : Int32)
        else
          some (3 : Int32))
      else
        if l0 = (3 : Int32) then
          Option.bind (f_X2_isFigure l1) (fun x4 =>
          if x4 = (0 : Int32) then
            some (-6 : Int32)
          else
            some (0 : Int32))
        else
          if l0 = (4 : Int32) then
            Option.bind (f_X2_isTens l1) (fun x5 =>
            if x5 = (0 : Int32) then
              some (-6 : Int32)
            else
              some (5 : Int32))
          else
            if l0 = (5 : Int32) then
              Option.bind (f_X2_isFigure l1) (fun x6 =>
              if x6 = (0 : Int32) then
                some (-6 : Int32)
              else
                some (6 : Int32))
            else
              Option.bind (f_X2_isLetter l1) (fun x7 =>
              if x7 = (0 : Int32) then
                some (-6 : Int32)
              else
                some (0 : Int32))

def L_X2_firstFault_4 : Nat → (Nat → Int32) → Int32 → Int32 → Int32 → Option (Int32)
  | 0, _, _, _, _ => none
  | n + 1, c_signs, c_count, l1, l2 =>
    if c_count ≤ l2 then
      if l1 = (0 : Int32) then
        some (-6 : Int32)
      else
        some c_count
    else
      Option.bind (aget 60 c_signs l2) (fun v1 =>
      Option.bind (f_X2_follow l1 v1) (fun x2 =>
      if x2 = (-6 : Int32) then
        some l2
      else
        L_X2_firstFault_4 n c_signs c_count x2 (l2 + (1 : Int32))))
def f_X2_firstFault (c_signs : Nat → Int32) (c_count : Int32) : Option (Int32) :=
  L_X2_firstFault_4 20000 c_signs c_count (0 : Int32) (0 : Int32)

def f_X2_sign (c_signs : Nat → Int32) (c_count : Int32) (l1 : Int32) : Option (Int32) :=
  if l1 < (0 : Int32) then
    some (0 : Int32)
  else
    if c_count ≤ l1 then
      some (0 : Int32)
    else
      Option.bind (aget 60 c_signs l1) (fun v1 =>
      some v1)

def f_X2_setAt (c_signs : Nat → Int32) (c_count : Int32) (l1 : Int32) : Option (Int32) :=
  Option.bind (f_X2_sign c_signs c_count l1) (fun x1 =>
  Option.bind (f_X7_isSet (x1 - (65 : Int32))) (fun x2 =>
  if x2 = (0 : Int32) then
    some (0 : Int32)
  else
    some (x1 - (65 : Int32))))

def f_X2_read (c_signs : Nat → Int32) (c_count : Int32) (c_r1_kind : Int32) (c_r1_set : Int32) (c_r1_key : Int32) (c_r1_other : Int32) (l1 : Int32) : Option (Int32 × Int32 × Int32 × Int32 × Int32) :=
  Option.bind (f_X2_sign c_signs c_count l1) (fun x1 =>
  if x1 = (33 : Int32) then
    Option.bind (f_X0_become c_r1_kind c_r1_set c_r1_key c_r1_other (33 : Int32) (0 : Int32) (0 : Int32) (0 : Int32)) (fun x12 =>
    some ((1 : Int32), x12.1, x12.2.1, x12.2.2.1, x12.2.2.2))
  else
    Option.bind (f_X2_setAt c_signs c_count l1) (fun x2 =>
    Option.bind (f_X2_sign c_signs c_count (l1 + (1 : Int32))) (fun x3 =>
    Option.bind (f_X2_followKind x3) (fun x4 =>
    if x4 = (6 : Int32) then
      Option.bind (f_X2_setAt c_signs c_count (l1 + (2 : Int32))) (fun x10 =>
      Option.bind (f_X0_become c_r1_kind c_r1_set c_r1_key c_r1_other x3 x2 (0 : Int32) x10) (fun x11 =>
      some ((3 : Int32), x11.1, x11.2.1, x11.2.2.1, x11.2.2.2)))
    else
      Option.bind (f_X2_sign c_signs c_count (l1 + (2 : Int32))) (fun x5 =>
      Option.bind (f_X2_sign c_signs c_count (l1 + (3 : Int32))) (fun x6 =>
      if x3 = (47 : Int32) then
        Option.bind (f_X2_setAt c_signs c_count (l1 + (4 : Int32))) (fun x8 =>
        Option.bind (f_X0_become c_r1_kind c_r1_set c_r1_key c_r1_other x3 x2 ((((10 : Int32) * (x5 - (48 : Int32))) + x6) - (48 : Int32)) x8) (fun x9 =>
        some ((5 : Int32), x9.1, x9.2.1, x9.2.2.1, x9.2.2.2)))
      else
        Option.bind (f_X0_become c_r1_kind c_r1_set c_r1_key c_r1_other x3 x2 ((((10 : Int32) * (x5 - (48 : Int32))) + x6) - (48 : Int32)) (0 : Int32)) (fun x7 =>
        some ((4 : Int32), x7.1, x7.2.1, x7.2.2.1, x7.2.2.2))))))))

def L_X3_fill_2 : Nat → (Nat → Int64) → Int32 → Option ((Nat → Int64))
  | 0, _, _ => none
  | n + 1, c_seeds, l1 =>
    if (157 : Int32) ≤ l1 then
      some c_seeds
    else
      Option.bind (asetL 157 c_seeds l1 (-1 : Int64)) (fun f1 =>
      L_X3_fill_2 n f1 (l1 + (1 : Int32)))
def f_X3_fill (c_seeds : Nat → Int64) : Option ((Nat → Int64)) :=
  Option.bind (L_X3_fill_2 20000 c_seeds (0 : Int32)) (fun x1 =>
  Option.bind (asetL 157 x1 (156 : Int32) (65535 : Int64)) (fun f2 =>
  some f2))

def f_X3_clear (c_count : Int32) (c_seeds : Nat → Int64) : Option (Int32 × (Nat → Int64)) :=
  Option.bind (f_X3_fill c_seeds) (fun x1 =>
  some ((0 : Int32), x1))

def f_X3_copy (c_count : Int32) (c_seeds : Nat → Int64) (c_r1_count : Int32) (c_r1_seeds : Nat → Int64) : Option (Int32 × (Nat → Int64)) :=
  some (c_r1_count, (va_cpy c_r1_seeds c_seeds 0 0 (157 : Int32).toNatClampNeg))

def f_X7_priority (l0 : Int32) (l1 : Int32) : Option (Int32) :=
  some ((((l0 + ((131 : Int32) * l1)) - (l0 + ((131 : Int32) * l1)) / (10007 : Int32) * (10007 : Int32)) * ((l0 + ((131 : Int32) * l1)) - (l0 + ((131 : Int32) * l1)) / (10007 : Int32) * (10007 : Int32))) - (((l0 + ((131 : Int32) * l1)) - (l0 + ((131 : Int32) * l1)) / (10007 : Int32) * (10007 : Int32)) * ((l0 + ((131 : Int32) * l1)) - (l0 + ((131 : Int32) * l1)) / (10007 : Int32) * (10007 : Int32))) / (10007 : Int32) * (10007 : Int32))

def f_X7_ranksAbove (l0 : Int32) (l1 : Int32) (l2 : Int32) : Option (Int32) :=
  Option.bind (f_X7_priority l0 l1) (fun x1 =>
  Option.bind (f_X7_priority l0 l2) (fun x2 =>
  if x1 = x2 then
    if l2 ≤ l1 then
      some (0 : Int32)
    else
      some (1 : Int32)
  else
    if x1 ≤ x2 then
      some (0 : Int32)
    else
      some (1 : Int32)))

def L_X3_add_23 : Nat → (Nat → Int64) → Int32 → Int32 → Int32 → Option ((Nat → Int64))
  | 0, _, _, _, _ => none
  | n + 1, c_seeds, l1, l2, l3 =>
    if (10000 : Int32) ≤ l3 then
      some c_seeds
    else
      Option.bind (f_X7_ranksAbove l3 l1 l2) (fun x1 =>
      if x1 = (0 : Int32) then
        Option.bind (aget 157 c_seeds (l3 / (64 : Int32))) (fun v2 =>
        Option.bind (asetL 157 c_seeds (l3 / (64 : Int32)) (v2 &&& (((1 : Int64) <<< ((l3 - l3 / (64 : Int32) * (64 : Int32)).toInt64 &&& 63)) ^^^ (-1 : Int64)))) (fun f3 =>
        L_X3_add_23 n f3 l1 l2 (l3 + (1 : Int32))))
      else
        L_X3_add_23 n c_seeds l1 l2 (l3 + (1 : Int32)))
def f_X3_add (c_count : Int32) (c_seeds : Nat → Int64) (l1 : Int32) (l2 : Int32) : Option (Int32 × Int32 × (Nat → Int64)) :=
  if c_count < (8 : Int32) then
    Option.bind (L_X3_add_23 20000 c_seeds l1 l2 (0 : Int32)) (fun x1 =>
    some ((1 : Int32), (c_count + (1 : Int32)), x1))
  else
    some ((0 : Int32), c_count, c_seeds)

def f_J13_bitCount_95d88 (l0 : Int64) : Option (Int32) :=
  some (((((((((l0 - ((l0.toUInt64 >>> ((1 : Int32).toInt64.toUInt64 &&& Int64.toUInt64 63)).toInt64 &&& (6148914691236517205 : Int64))) &&& (3689348814741910323 : Int64)) + (((l0 - ((l0.toUInt64 >>> ((1 : Int32).toInt64.toUInt64 &&& Int64.toUInt64 63)).toInt64 &&& (6148914691236517205 : Int64))).toUInt64 >>> ((2 : Int32).toInt64.toUInt64 &&& Int64.toUInt64 63)).toInt64 &&& (3689348814741910323 : Int64))) + ((((l0 - ((l0.toUInt64 >>> ((1 : Int32).toInt64.toUInt64 &&& Int64.toUInt64 63)).toInt64 &&& (6148914691236517205 : Int64))) &&& (3689348814741910323 : Int64)) + (((l0 - ((l0.toUInt64 >>> ((1 : Int32).toInt64.toUInt64 &&& Int64.toUInt64 63)).toInt64 &&& (6148914691236517205 : Int64))).toUInt64 >>> ((2 : Int32).toInt64.toUInt64 &&& Int64.toUInt64 63)).toInt64 &&& (3689348814741910323 : Int64))).toUInt64 >>> ((4 : Int32).toInt64.toUInt64 &&& Int64.toUInt64 63)).toInt64) &&& (1085102592571150095 : Int64)) + ((((((l0 - ((l0.toUInt64 >>> ((1 : Int32).toInt64.toUInt64 &&& Int64.toUInt64 63)).toInt64 &&& (6148914691236517205 : Int64))) &&& (3689348814741910323 : Int64)) + (((l0 - ((l0.toUInt64 >>> ((1 : Int32).toInt64.toUInt64 &&& Int64.toUInt64 63)).toInt64 &&& (6148914691236517205 : Int64))).toUInt64 >>> ((2 : Int32).toInt64.toUInt64 &&& Int64.toUInt64 63)).toInt64 &&& (3689348814741910323 : Int64))) + ((((l0 - ((l0.toUInt64 >>> ((1 : Int32).toInt64.toUInt64 &&& Int64.toUInt64 63)).toInt64 &&& (6148914691236517205 : Int64))) &&& (3689348814741910323 : Int64)) + (((l0 - ((l0.toUInt64 >>> ((1 : Int32).toInt64.toUInt64 &&& Int64.toUInt64 63)).toInt64 &&& (6148914691236517205 : Int64))).toUInt64 >>> ((2 : Int32).toInt64.toUInt64 &&& Int64.toUInt64 63)).toInt64 &&& (3689348814741910323 : Int64))).toUInt64 >>> ((4 : Int32).toInt64.toUInt64 &&& Int64.toUInt64 63)).toInt64) &&& (1085102592571150095 : Int64)).toUInt64 >>> ((8 : Int32).toInt64.toUInt64 &&& Int64.toUInt64 63)).toInt64) + (((((((l0 - ((l0.toUInt64 >>> ((1 : Int32).toInt64.toUInt64 &&& Int64.toUInt64 63)).toInt64 &&& (6148914691236517205 : Int64))) &&& (3689348814741910323 : Int64)) + (((l0 - ((l0.toUInt64 >>> ((1 : Int32).toInt64.toUInt64 &&& Int64.toUInt64 63)).toInt64 &&& (6148914691236517205 : Int64))).toUInt64 >>> ((2 : Int32).toInt64.toUInt64 &&& Int64.toUInt64 63)).toInt64 &&& (3689348814741910323 : Int64))) + ((((l0 - ((l0.toUInt64 >>> ((1 : Int32).toInt64.toUInt64 &&& Int64.toUInt64 63)).toInt64 &&& (6148914691236517205 : Int64))) &&& (3689348814741910323 : Int64)) + (((l0 - ((l0.toUInt64 >>> ((1 : Int32).toInt64.toUInt64 &&& Int64.toUInt64 63)).toInt64 &&& (6148914691236517205 : Int64))).toUInt64 >>> ((2 : Int32).toInt64.toUInt64 &&& Int64.toUInt64 63)).toInt64 &&& (3689348814741910323 : Int64))).toUInt64 >>> ((4 : Int32).toInt64.toUInt64 &&& Int64.toUInt64 63)).toInt64) &&& (1085102592571150095 : Int64)) + ((((((l0 - ((l0.toUInt64 >>> ((1 : Int32).toInt64.toUInt64 &&& Int64.toUInt64 63)).toInt64 &&& (6148914691236517205 : Int64))) &&& (3689348814741910323 : Int64)) + (((l0 - ((l0.toUInt64 >>> ((1 : Int32).toInt64.toUInt64 &&& Int64.toUInt64 63)).toInt64 &&& (6148914691236517205 : Int64))).toUInt64 >>> ((2 : Int32).toInt64.toUInt64 &&& Int64.toUInt64 63)).toInt64 &&& (3689348814741910323 : Int64))) + ((((l0 - ((l0.toUInt64 >>> ((1 : Int32).toInt64.toUInt64 &&& Int64.toUInt64 63)).toInt64 &&& (6148914691236517205 : Int64))) &&& (3689348814741910323 : Int64)) + (((l0 - ((l0.toUInt64 >>> ((1 : Int32).toInt64.toUInt64 &&& Int64.toUInt64 63)).toInt64 &&& (6148914691236517205 : Int64))).toUInt64 >>> ((2 : Int32).toInt64.toUInt64 &&& Int64.toUInt64 63)).toInt64 &&& (3689348814741910323 : Int64))).toUInt64 >>> ((4 : Int32).toInt64.toUInt64 &&& Int64.toUInt64 63)).toInt64) &&& (1085102592571150095 : Int64)).toUInt64 >>> ((8 : Int32).toInt64.toUInt64 &&& Int64.toUInt64 63)).toInt64).toUInt64 >>> ((16 : Int32).toInt64.toUInt64 &&& Int64.toUInt64 63)).toInt64) + ((((((((l0 - ((l0.toUInt64 >>> ((1 : Int32).toInt64.toUInt64 &&& Int64.toUInt64 63)).toInt64 &&& (6148914691236517205 : Int64))) &&& (3689348814741910323 : Int64)) + (((l0 - ((l0.toUInt64 >>> ((1 : Int32).toInt64.toUInt64 &&& Int64.toUInt64 63)).toInt64 &&& (6148914691236517205 : Int64))).toUInt64 >>> ((2 : Int32).toInt64.toUInt64 &&& Int64.toUInt64 63)).toInt64 &&& (3689348814741910323 : Int64))) + ((((l0 - ((l0.toUInt64 >>> ((1 : Int32).toInt64.toUInt64 &&& Int64.toUInt64 63)).toInt64 &&& (6148914691236517205 : Int64))) &&& (3689348814741910323 : Int64)) + (((l0 - ((l0.toUInt64 >>> ((1 : Int32).toInt64.toUInt64 &&& Int64.toUInt64 63)).toInt64 &&& (6148914691236517205 : Int64))).toUInt64 >>> ((2 : Int32).toInt64.toUInt64 &&& Int64.toUInt64 63)).toInt64 &&& (3689348814741910323 : Int64))).toUInt64 >>> ((4 : Int32).toInt64.toUInt64 &&& Int64.toUInt64 63)).toInt64) &&& (1085102592571150095 : Int64)) + ((((((l0 - ((l0.toUInt64 >>> ((1 : Int32).toInt64.toUInt64 &&& Int64.toUInt64 63)).toInt64 &&& (6148914691236517205 : Int64))) &&& (3689348814741910323 : Int64)) + (((l0 - ((l0.toUInt64 >>> ((1 : Int32).toInt64.toUInt64 &&& Int64.toUInt64 63)).toInt64 &&& (6148914691236517205 : Int64))).toUInt64 >>> ((2 : Int32).toInt64.toUInt64 &&& Int64.toUInt64 63)).toInt64 &&& (3689348814741910323 : Int64))) + ((((l0 - ((l0.toUInt64 >>> ((1 : Int32).toInt64.toUInt64 &&& Int64.toUInt64 63)).toInt64 &&& (6148914691236517205 : Int64))) &&& (3689348814741910323 : Int64)) + (((l0 - ((l0.toUInt64 >>> ((1 : Int32).toInt64.toUInt64 &&& Int64.toUInt64 63)).toInt64 &&& (6148914691236517205 : Int64))).toUInt64 >>> ((2 : Int32).toInt64.toUInt64 &&& Int64.toUInt64 63)).toInt64 &&& (3689348814741910323 : Int64))).toUInt64 >>> ((4 : Int32).toInt64.toUInt64 &&& Int64.toUInt64 63)).toInt64) &&& (1085102592571150095 : Int64)).toUInt64 >>> ((8 : Int32).toInt64.toUInt64 &&& Int64.toUInt64 63)).toInt64) + (((((((l0 - ((l0.toUInt64 >>> ((1 : Int32).toInt64.toUInt64 &&& Int64.toUInt64 63)).toInt64 &&& (6148914691236517205 : Int64))) &&& (3689348814741910323 : Int64)) + (((l0 - ((l0.toUInt64 >>> ((1 : Int32).toInt64.toUInt64 &&& Int64.toUInt64 63)).toInt64 &&& (6148914691236517205 : Int64))).toUInt64 >>> ((2 : Int32).toInt64.toUInt64 &&& Int64.toUInt64 63)).toInt64 &&& (3689348814741910323 : Int64))) + ((((l0 - ((l0.toUInt64 >>> ((1 : Int32).toInt64.toUInt64 &&& Int64.toUInt64 63)).toInt64 &&& (6148914691236517205 : Int64))) &&& (3689348814741910323 : Int64)) + (((l0 - ((l0.toUInt64 >>> ((1 : Int32).toInt64.toUInt64 &&& Int64.toUInt64 63)).toInt64 &&& (6148914691236517205 : Int64))).toUInt64 >>> ((2 : Int32).toInt64.toUInt64 &&& Int64.toUInt64 63)).toInt64 &&& (3689348814741910323 : Int64))).toUInt64 >>> ((4 : Int32).toInt64.toUInt64 &&& Int64.toUInt64 63)).toInt64) &&& (1085102592571150095 : Int64)) + ((((((l0 - ((l0.toUInt64 >>> ((1 : Int32).toInt64.toUInt64 &&& Int64.toUInt64 63)).toInt64 &&& (6148914691236517205 : Int64))) &&& (3689348814741910323 : Int64)) + (((l0 - ((l0.toUInt64 >>> ((1 : Int32).toInt64.toUInt64 &&& Int64.toUInt64 63)).toInt64 &&& (6148914691236517205 : Int64))).toUInt64 >>> ((2 : Int32).toInt64.toUInt64 &&& Int64.toUInt64 63)).toInt64 &&& (3689348814741910323 : Int64))) + ((((l0 - ((l0.toUInt64 >>> ((1 : Int32).toInt64.toUInt64 &&& Int64.toUInt64 63)).toInt64 &&& (6148914691236517205 : Int64))) &&& (3689348814741910323 : Int64)) + (((l0 - ((l0.toUInt64 >>> ((1 : Int32).toInt64.toUInt64 &&& Int64.toUInt64 63)).toInt64 &&& (6148914691236517205 : Int64))).toUInt64 >>> ((2 : Int32).toInt64.toUInt64 &&& Int64.toUInt64 63)).toInt64 &&& (3689348814741910323 : Int64))).toUInt64 >>> ((4 : Int32).toInt64.toUInt64 &&& Int64.toUInt64 63)).toInt64) &&& (1085102592571150095 : Int64)).toUInt64 >>> ((8 : Int32).toInt64.toUInt64 &&& Int64.toUInt64 63)).toInt64).toUInt64 >>> ((16 : Int32).toInt64.toUInt64 &&& Int64.toUInt64 63)).toInt64).toUInt64 >>> ((32 : Int32).toInt64.toUInt64 &&& Int64.toUInt64 63)).toInt64).toInt32 &&& (127 : Int32))

def L_X3_countSeeds_4 : Nat → (Nat → Int64) → Int32 → Int32 → Option (Int32)
  | 0, _, _, _ => none
  | n + 1, c_seeds, l1, l2 =>
    if (157 : Int32) ≤ l2 then
      some l1
    else
      Option.bind (aget 157 c_seeds l2) (fun v1 =>
      Option.bind (f_J13_bitCount_95d88 v1) (fun x2 =>
      L_X3_countSeeds_4 n c_seeds (l1 + x2) (l2 + (1 : Int32))))
def f_X3_countSeeds (c_seeds : Nat → Int64) : Option (Int32) :=
  Option.bind (L_X3_countSeeds_4 20000 c_seeds (0 : Int32) (0 : Int32)) (fun x1 =>
  some x1)

def L_X3_pickBit_5 : Nat → Int64 → Int32 → Int32 → Option (Int32)
  | 0, _, _, _ => none
  | n + 1, l0, l3, l4 =>
    if (64 : Int32) ≤ l4 then
      some (0 : Int32)
    else
      if (lg_cmp ((l0.toUInt64 >>> (l4.toInt64.toUInt64 &&& Int64.toUInt64 63)).toInt64 &&& (1 : Int64)) (0 : Int64)) = (0 : Int32) then
        L_X3_pickBit_5 n l0 l3 (l4 + (1 : Int32))
      else
        if l3 = (0 : Int32) then
          some l4
        else
          L_X3_pickBit_5 n l0 (l3 + (-1 : Int32)) (l4 + (1 : Int32))
def f_X3_pickBit (l0 : Int64) (l2 : Int32) : Option (Int32) :=
  L_X3_pickBit_5 20000 l0 l2 (0 : Int32)

def L_X3_pickSeed_11 : Nat → (Nat → Int64) → Int32 → Int32 → Option (Int32)
  | 0, _, _, _ => none
  | n + 1, c_seeds, l2, l3 =>
    if (157 : Int32) ≤ l3 then
      some (-6 : Int32)
    else
      Option.bind (aget 157 c_seeds l3) (fun v1 =>
      Option.bind (f_J13_bitCount_95d88 v1) (fun x2 =>
      if x2 ≤ l2 then
        L_X3_pickSeed_11 n c_seeds (l2 - x2) (l3 + (1 : Int32))
      else
        Option.bind (aget 157 c_seeds l3) (fun v3 =>
        Option.bind (f_X3_pickBit v3 l2) (fun x4 =>
        some (((64 : Int32) * l3) + x4)))))
def f_X3_pickSeed (c_seeds : Nat → Int64) (l1 : Int32) : Option (Int32) :=
  if (0 : Int32) ≤ l1 then
    L_X3_pickSeed_11 20000 c_seeds l1 (0 : Int32)
  else
    some (-6 : Int32)

def L_X4_price_11 : Nat → (Nat → Int32) → Int32 → Int32 → Option ((Nat → Int32))
  | 0, _, _, _ => none
  | n + 1, c_priority, l1, l2 =>
    if (50 : Int32) ≤ l2 then
      some c_priority
    else
      Option.bind (f_X7_priority l1 l2) (fun x1 =>
      Option.bind (aset 50 c_priority l2 x1) (fun f2 =>
      L_X4_price_11 n f2 l1 (l2 + (1 : Int32))))
def f_X4_price (c_priority : Nat → Int32) (c_pricedBy : Int32) (l1 : Int32) : Option ((Nat → Int32) × Int32) :=
  if l1 = c_pricedBy then
    some (c_priority, c_pricedBy)
  else
    Option.bind (L_X4_price_11 20000 c_priority l1 (0 : Int32)) (fun x1 =>
    some (x1, l1))

def f_X7_bit (l0 : Int32) : Option (Int64) :=
  some ((1 : Int64) <<< (l0.toInt64 &&& 63))

def f_X7_isIn (l0 : Int64) (l2 : Int32) : Option (Int32) :=
  Option.bind (f_X7_bit l2) (fun x1 =>
  if (lg_cmp (l0 &&& x1) (0 : Int64)) = (0 : Int32) then
    some (0 : Int32)
  else
    some (1 : Int32))

def f_X4_spanBelow (c_span : Nat → Int64) (l1 : Int32) : Option (Int64) :=
  if l1 < (0 : Int32) then
    some (0 : Int64)
  else
    Option.bind (aget 50 c_span l1) (fun v1 =>
    some v1)

def f_X4_heightBelow (c_height : Nat → Int32) (l1 : Int32) : Option (Int32) :=
  if l1 < (0 : Int32) then
    some (0 : Int32)
  else
    Option.bind (aget 50 c_height l1) (fun v1 =>
    some v1)

def f_X4_digestBelow (c_digest : Nat → Int32) (l1 : Int32) : Option (Int32) :=
  if l1 < (0 : Int32) then
    some (0 : Int32)
  else
    Option.bind (aget 50 c_digest l1) (fun v1 =>
    some v1)

def f_X4_finish (c_left : Nat → Int32) (c_right : Nat → Int32) (c_parent : Nat → Int32) (c_span : Nat → Int64) (c_digest : Nat → Int32) (c_height : Nat → Int32) (l1 : Int32) : Option ((Nat → Int32) × (Nat → Int64) × (Nat → Int32) × (Nat → Int32)) :=
  Option.bind (aget 50 c_left l1) (fun v1 =>
  Option.bind (aget 50 c_right l1) (fun v2 =>
  Option.bind (f_X7_bit l1) (fun x3 =>
  Option.bind (f_X4_spanBelow c_span v1) (fun x4 =>
  Option.bind (f_X4_spanBelow c_span v2) (fun x5 =>
  Option.bind (asetL 50 c_span l1 ((x3 ||| x4) ||| x5)) (fun f6 =>
  Option.bind (f_X4_heightBelow c_height v1) (fun x7 =>
  Option.bind (f_X4_heightBelow c_height v2) (fun x8 =>
  Option.bind (aset 50 c_height l1 ((1 : Int32) + (if x7 < x8 then x8 else x7))) (fun f9 =>
  Option.bind (f_X4_digestBelow c_digest v1) (fun x10 =>
  Option.bind (f_X4_digestBelow c_digest v2) (fun x11 =>
  Option.bind (aset 50 c_digest l1 ((1 : Int32) + (((((31 : Int32) * x10) + ((57 : Int32) * x11)) + ((7919 : Int32) * (l1 + (1 : Int32)))) - ((((31 : Int32) * x10) + ((57 : Int32) * x11)) + ((7919 : Int32) * (l1 + (1 : Int32)))) / (999983 : Int32) * (999983 : Int32)))) (fun f12 =>
  if v1 < (0 : Int32) then
    if v2 < (0 : Int32) then
      some (c_parent, f6, f12, f9)
    else
      Option.bind (aset 50 c_parent v2 l1) (fun f13 =>
      some (f13, f6, f12, f9))
  else
    Option.bind (aset 50 c_parent v1 l1) (fun f14 =>
    if v2 < (0 : Int32) then
      some (f14, f6, f12, f9)
    else
      Option.bind (aset 50 f14 v2 l1) (fun f15 =>
      some (f15, f6, f12, f9)))))))))))))))

def L_X4_grow_56 : Nat → (Nat → Int32) → (Nat → Int32) → (Nat → Int32) → (Nat → Int64) → (Nat → Int32) → (Nat → Int32) → (Nat → Int32) → (Nat → Int32) → Int32 → Int32 → Option (Int32 × (Nat → Int32) × (Nat → Int32) × (Nat → Int64) × (Nat → Int32) × (Nat → Int32))
  | 0, _, _, _, _, _, _, _, _, _, _ => none
  | n + 1, c_left, c_right, c_parent, c_span, c_digest, c_height, c_priority, c_open, l4, l5 =>
    if l4 ≤ (0 : Int32) then
      some (l4, c_left, c_parent, c_span, c_digest, c_height)
    else
      Option.bind (aget 50 c_open (l4 - (1 : Int32))) (fun v1 =>
      Option.bind (aget 50 c_priority v1) (fun v2 =>
      Option.bind (aget 50 c_priority l5) (fun v3 =>
      if v3 ≤ v2 then
        some (l4, c_left, c_parent, c_span, c_digest, c_height)
      else
        Option.bind (aget 50 c_open (l4 + (-1 : Int32))) (fun v4 =>
        Option.bind (aset 50 c_left l5 v4) (fun f5 =>
        Option.bind (aget 50 f5 l5) (fun v6 =>
        Option.bind (f_X4_finish f5 c_right c_parent c_span c_digest c_height v6) (fun x7 =>
        L_X4_grow_56 n f5 c_right x7.1 x7.2.1 x7.2.2.1 x7.2.2.2 c_priority c_open (l4 + (-1 : Int32)) l5)))))))
def L_X4_grow_11 : Nat → (Nat → Int32) → (Nat → Int32) → (Nat → Int32) → (Nat → Int64) → (Nat → Int32) → (Nat → Int32) → (Nat → Int32) → (Nat → Int32) → Int64 → Int32 → Int32 → Option (Int32 × (Nat → Int32) × (Nat → Int32) × (Nat → Int32) × (Nat → Int64) × (Nat → Int32) × (Nat → Int32) × (Nat → Int32))
  | 0, _, _, _, _, _, _, _, _, _, _, _ => none
  | n + 1, c_left, c_right, c_parent, c_span, c_digest, c_height, c_priority, c_open, l1, l4, l5 =>
    if (50 : Int32) ≤ l5 then
      some (l4, c_left, c_right, c_parent, c_span, c_digest, c_height, c_open)
    else
      Option.bind (asetL 50 c_span l5 (0 : Int64)) (fun f1 =>
      Option.bind (f_X7_isIn l1 l5) (fun x2 =>
      if x2 = (0 : Int32) then
        L_X4_grow_11 n c_left c_right c_parent f1 c_digest c_height c_priority c_open l1 l4 (l5 + (1 : Int32))
      else
        Option.bind (aset 50 c_left l5 (-6 : Int32)) (fun f3 =>
        Option.bind (aset 50 c_right l5 (-6 : Int32)) (fun f4 =>
        Option.bind (L_X4_grow_56 20000 f3 f4 c_parent f1 c_digest c_height c_priority c_open l4 l5) (fun x5 =>
        if x5.1 ≤ (0 : Int32) then
          Option.bind (aset 50 c_open x5.1 l5) (fun f6 =>
          L_X4_grow_11 n x5.2.1 f4 x5.2.2.1 x5.2.2.2.1 x5.2.2.2.2.1 x5.2.2.2.2.2 c_priority f6 l1 (x5.1 + (1 : Int32)) (l5 + (1 : Int32)))
        else
          Option.bind (aget 50 c_open (x5.1 - (1 : Int32))) (fun v7 =>
          Option.bind (aset 50 f4 v7 l5) (fun f8 =>
          Option.bind (aset 50 c_open x5.1 l5) (fun f9 =>
          L_X4_grow_11 n x5.2.1 f8 x5.2.2.1 x5.2.2.2.1 x5.2.2.2.2.1 x5.2.2.2.2.2 c_priority f9 l1 (x5.1 + (1 : Int32)) (l5 + (1 : Int32))))))))))
def L_X4_grow_161 : Nat → (Nat → Int32) → (Nat → Int32) → (Nat → Int32) → (Nat → Int64) → Int32 → (Nat → Int32) → (Nat → Int32) → (Nat → Int32) → Int32 → Option ((Nat → Int32) × (Nat → Int64) × Int32 × (Nat → Int32) × (Nat → Int32))
  | 0, _, _, _, _, _, _, _, _, _ => none
  | n + 1, c_left, c_right, c_parent, c_span, c_root, c_digest, c_height, c_open, l4 =>
    if l4 ≤ (0 : Int32) then
      some (c_parent, c_span, c_root, c_digest, c_height)
    else
      Option.bind (aget 50 c_open (l4 + (-1 : Int32))) (fun v1 =>
      Option.bind (f_X4_finish c_left c_right c_parent c_span c_digest c_height v1) (fun x2 =>
      L_X4_grow_161 n c_left c_right x2.1 x2.2.1 v1 x2.2.2.1 x2.2.2.2 c_open (l4 + (-1 : Int32))))
def f_X4_grow (c_left : Nat → Int32) (c_right : Nat → Int32) (c_parent : Nat → Int32) (c_span : Nat → Int64) (c_root : Int32) (c_digest : Nat → Int32) (c_height : Nat → Int32) (c_priority : Nat → Int32) (c_pricedBy : Int32) (c_open : Nat → Int32) (l1 : Int64) (l3 : Int32) : Option ((Nat → Int32) × (Nat → Int32) × (Nat → Int32) × (Nat → Int64) × Int32 × (Nat → Int32) × (Nat → Int32) × (Nat → Int32) × Int32 × (Nat → Int32)) :=
  Option.bind (f_X4_price c_priority c_pricedBy l3) (fun x1 =>
  Option.bind (L_X4_grow_11 20000 c_left c_right c_parent c_span c_digest c_height x1.1 c_open l1 (0 : Int32) (0 : Int32)) (fun x2 =>
  Option.bind (L_X4_grow_161 20000 x2.2.1 x2.2.2.1 x2.2.2.2.1 x2.2.2.2.2.1 (-6 : Int32) x2.2.2.2.2.2.1 x2.2.2.2.2.2.2.1 x2.2.2.2.2.2.2.2 x2.1) (fun x3 =>
  if x3.2.2.1 < (0 : Int32) then
    some (x2.2.1, x2.2.2.1, x3.1, x3.2.1, x3.2.2.1, x3.2.2.2.1, x3.2.2.2.2, x1.1, x1.2, x2.2.2.2.2.2.2.2)
  else
    Option.bind (aset 50 x3.1 x3.2.2.1 (-6 : Int32)) (fun f4 =>
    some (x2.2.1, x2.2.2.1, f4, x3.2.1, x3.2.2.1, x3.2.2.2.1, x3.2.2.2.2, x1.1, x1.2, x2.2.2.2.2.2.2.2)))))

def f_X7_count (l0 : Int64) : Option (Int32) :=
  Option.bind (f_J13_bitCount_95d88 l0) (fun x1 =>
  some x1)

def f_X4_sizeBelow (c_span : Nat → Int64) (l1 : Int32) : Option (Int32) :=
  Option.bind (f_X4_spanBelow c_span l1) (fun x1 =>
  Option.bind (f_X7_count x1) (fun x2 =>
  some x2))

def L_X4_depth_4 : Nat → (Nat → Int64) → Int32 → Int32 → Int32 → Option (Int32)
  | 0, _, _, _, _ => none
  | n + 1, c_span, l1, l2, l3 =>
    if (50 : Int32) ≤ l3 then
      some l2
    else
      if l3 = l1 then
        L_X4_depth_4 n c_span l1 l2 (l3 + (1 : Int32))
      else
        Option.bind (aget 50 c_span l3) (fun v1 =>
        Option.bind (f_X7_isIn v1 l1) (fun x2 =>
        if x2 = (0 : Int32) then
          L_X4_depth_4 n c_span l1 l2 (l3 + (1 : Int32))
        else
          L_X4_depth_4 n c_span l1 (l2 + (1 : Int32)) (l3 + (1 : Int32))))
def f_X4_depth (c_span : Nat → Int64) (l1 : Int32) : Option (Int32) :=
  Option.bind (L_X4_depth_4 20000 c_span l1 (0 : Int32) (0 : Int32)) (fun x1 =>
  some x1)

def f_X6_copy (c_keys : Nat → Int64) (c_seed : Int32) (c_r1_keys : Nat → Int64) (c_r1_seed : Int32) : Option ((Nat → Int64) × Int32) :=
  some ((va_cpy c_r1_keys c_keys 0 0 (4 : Int32).toNatClampNeg), c_r1_seed)

def f_X6_whyNotOne (l0 : Int32) (l1 : Int64) (l3 : Int32) : Option (Int32) :=
  Option.bind (f_X7_isIn l1 l3) (fun x1 =>
  if x1 = l0 then
    some (2 : Int32)
  else
    if l0 = (0 : Int32) then
      some (0 : Int32)
    else
      Option.bind (f_X7_count l1) (fun x2 =>
      if x2 < (40 : Int32) then
        some (0 : Int32)
      else
        some (3 : Int32)))

def f_X6_whyNotTwo (l0 : Int32) (l1 : Int64) (l3 : Int64) : Option (Int32) :=
  if l0 = (38 : Int32) then
    Option.bind (f_X7_count (l1 ||| l3)) (fun x1 =>
    if x1 ≤ (40 : Int32) then
      if l0 = (47 : Int32) then
        if (lg_cmp l3 (0 : Int64)) = (0 : Int32) then
          if l0 = (38 : Int32) then
            if (lg_cmp l3 (0 : Int64)) = (0 : Int32) then
              some (0 : Int32)
            else
              if (lg_cmp l1 (l3 &&& (-l3))) < (0 : Int32) then
                some (0 : Int32)
              else
                some (5 : Int32)
          else
            some (0 : Int32)
        else
          some (4 : Int32)
      else
        if l0 = (38 : Int32) then
          if (lg_cmp l3 (0 : Int64)) = (0 : Int32) then
            some (0 : Int32)
          else
            if (lg_cmp l1 (l3 &&& (-l3))) < (0 : Int32) then
              some (0 : Int32)
            else
              some (5 : Int32)
        else
          some (0 : Int32)
    else
      some (3 : Int32))
  else
    if l0 = (124 : Int32) then
      Option.bind (f_X7_count (l1 ||| l3)) (fun x2 =>
      if x2 ≤ (40 : Int32) then
        if l0 = (47 : Int32) then
          if (lg_cmp l3 (0 : Int64)) = (0 : Int32) then
            if l0 = (38 : Int32) then
              if (lg_cmp l3 (0 : Int64)) = (0 : Int32) then
                some (0 : Int32)
              else
                if (lg_cmp l1 (l3 &&& (-l3))) < (0 : Int32) then
                  some (0 : Int32)
                else
                  some (5 : Int32)
            else
              some (0 : Int32)
          else
            some (4 : Int32)
        else
          if l0 = (38 : Int32) then
            if (lg_cmp l3 (0 : Int64)) = (0 : Int32) then
              some (0 : Int32)
            else
              if (lg_cmp l1 (l3 &&& (-l3))) < (0 : Int32) then
                some (0 : Int32)
              else
                some (5 : Int32)
          else
            some (0 : Int32)
      else
        some (3 : Int32))
    else
      if l0 = (47 : Int32) then
        if (lg_cmp l3 (0 : Int64)) = (0 : Int32) then
          if l0 = (38 : Int32) then
            if (lg_cmp l3 (0 : Int64)) = (0 : Int32) then
              some (0 : Int32)
            else
              if (lg_cmp l1 (l3 &&& (-l3))) < (0 : Int32) then
                some (0 : Int32)
              else
                some (5 : Int32)
          else
            some (0 : Int32)
        else
          some (4 : Int32)
      else
        if l0 = (38 : Int32) then
          if (lg_cmp l3 (0 : Int64)) = (0 : Int32) then
            some (0 : Int32)
          else
            if (lg_cmp l1 (l3 &&& (-l3))) < (0 : Int32) then
              some (0 : Int32)
            else
              some (5 : Int32)
        else
          some (0 : Int32)

def f_X6_whyNot (c_keys : Nat → Int64) (c_seed : Int32) (c_r1_kind : Int32) (c_r1_set : Int32) (c_r1_key : Int32) (c_r1_other : Int32) : Option (Int32) :=
  if c_r1_kind = (33 : Int32) then
    if c_seed < (9999 : Int32) then
      some (0 : Int32)
    else
      some (6 : Int32)
  else
    if c_r1_kind = (43 : Int32) then
      if c_r1_kind = (43 : Int32) then
        Option.bind (aget 4 c_keys c_r1_set) (fun v3 =>
        Option.bind (f_X6_whyNotOne (1 : Int32) v3 c_r1_key) (fun x4 =>
        some x4))
      else
        Option.bind (aget 4 c_keys c_r1_set) (fun v1 =>
        Option.bind (f_X6_whyNotOne (0 : Int32) v1 c_r1_key) (fun x2 =>
        some x2))
    else
      if c_r1_kind = (45 : Int32) then
        if c_r1_kind = (43 : Int32) then
          Option.bind (aget 4 c_keys c_r1_set) (fun v10 =>
          Option.bind (f_X6_whyNotOne (1 : Int32) v10 c_r1_key) (fun x11 =>
          some x11))
        else
          Option.bind (aget 4 c_keys c_r1_set) (fun v8 =>
          Option.bind (f_X6_whyNotOne (0 : Int32) v8 c_r1_key) (fun x9 =>
          some x9))
      else
        if c_r1_set = c_r1_other then
          some (1 : Int32)
        else
          Option.bind (aget 4 c_keys c_r1_set) (fun v5 =>
          Option.bind (aget 4 c_keys c_r1_other) (fun v6 =>
          Option.bind (f_X6_whyNotTwo c_r1_kind v5 v6) (fun x7 =>
          some x7)))

def f_X7_less (l0 : Int32) : Option (Int64) :=
  Option.bind (f_X7_bit l0) (fun x1 =>
  some (x1 - (1 : Int64)))

def f_X6_play (c_keys : Nat → Int64) (c_seed : Int32) (c_r1_kind : Int32) (c_r1_set : Int32) (c_r1_key : Int32) (c_r1_other : Int32) : Option ((Nat → Int64) × Int32) :=
  Option.bind (aget 4 c_keys c_r1_set) (fun v1 =>
  Option.bind (aget 4 c_keys c_r1_other) (fun v2 =>
  if c_r1_kind = (38 : Int32) then
    Option.bind (asetL 4 c_keys c_r1_set (v1 ||| v2)) (fun f3 =>
    Option.bind (asetL 4 f3 c_r1_other (0 : Int64)) (fun f4 =>
    some (f4, c_seed)))
  else
    if c_r1_kind = (43 : Int32) then
      Option.bind (f_X7_bit c_r1_key) (fun x5 =>
      Option.bind (asetL 4 c_keys c_r1_set (v1 ||| x5)) (fun f6 =>
      some (f6, c_seed)))
    else
      if c_r1_kind = (45 : Int32) then
        Option.bind (f_X7_bit c_r1_key) (fun x7 =>
        Option.bind (asetL 4 c_keys c_r1_set (v1 &&& (x7 ^^^ (-1 : Int64)))) (fun f8 =>
        some (f8, c_seed)))
      else
        if c_r1_kind = (47 : Int32) then
          Option.bind (f_X7_less c_r1_key) (fun x9 =>
          Option.bind (asetL 4 c_keys c_r1_set (v1 &&& x9)) (fun f10 =>
          Option.bind (f_X7_less c_r1_key) (fun x11 =>
          Option.bind (asetL 4 f10 c_r1_other (v1 &&& (x11 ^^^ (-1 : Int64)))) (fun f12 =>
          some (f12, c_seed)))))
        else
          if c_r1_kind = (61 : Int32) then
            Option.bind (asetL 4 c_keys c_r1_set v2) (fun f13 =>
            some (f13, c_seed))
          else
            if c_r1_kind = (124 : Int32) then
              Option.bind (asetL 4 c_keys c_r1_set (v1 ||| v2)) (fun f14 =>
              some (f14, c_seed))
            else
              if c_r1_kind = (126 : Int32) then
                Option.bind (asetL 4 c_keys c_r1_set (v1 &&& (v2 ^^^ (-1 : Int64)))) (fun f15 =>
                some (f15, c_seed))
              else
                some (c_keys, (c_seed + (1 : Int32)))))

def L_X5_addWork_97 : Nat → (Nat → Int64) → (Nat → Int64) → (Nat → Int64) → Int32 → Int32 → Int32 → Option (Int32)
  | 0, _, _, _, _, _, _ => none
  | n + 1, c_tb_span, c_ta_span, c_after_keys, c_work, l1, l2 =>
    if (50 : Int32) ≤ l2 then
      some c_work
    else
      Option.bind (aget 4 c_after_keys l1) (fun v1 =>
      Option.bind (f_X7_isIn v1 l2) (fun x2 =>
      if x2 = (0 : Int32) then
        L_X5_addWork_97 n c_tb_span c_ta_span c_after_keys c_work l1 (l2 + (1 : Int32))
      else
        Option.bind (aget 50 c_tb_span l2) (fun v3 =>
        Option.bind (aget 50 c_ta_span l2) (fun v4 =>
        if (lg_cmp v3 v4) = (0 : Int32) then
          L_X5_addWork_97 n c_tb_span c_ta_span c_after_keys c_work l1 (l2 + (1 : Int32))
        else
          L_X5_addWork_97 n c_tb_span c_ta_span c_after_keys (c_work + (1 : Int32)) l1 (l2 + (1 : Int32))))))
def L_X5_addWork_2 : Nat → (Nat → Int32) → (Nat → Int32) → (Nat → Int32) → (Nat → Int64) → Int32 → (Nat → Int32) → (Nat → Int32) → (Nat → Int32) → Int32 → (Nat → Int32) → (Nat → Int32) → (Nat → Int32) → (Nat → Int32) → (Nat → Int64) → Int32 → (Nat → Int32) → (Nat → Int32) → (Nat → Int32) → Int32 → (Nat → Int32) → (Nat → Int64) → Int32 → (Nat → Int64) → Int32 → Int32 → Int32 → Option ((Nat → Int32) × (Nat → Int32) × (Nat → Int32) × (Nat → Int64) × Int32 × (Nat → Int32) × (Nat → Int32) × (Nat → Int32) × Int32 × (Nat → Int32) × (Nat → Int32) × (Nat → Int32) × (Nat → Int32) × (Nat → Int64) × Int32 × (Nat → Int32) × (Nat → Int32) × (Nat → Int32) × Int32 × (Nat → Int32) × Int32)
  | 0, _, _, _, _, _, _, _, _, _, _, _, _, _, _, _, _, _, _, _, _, _, _, _, _, _, _ => none
  | n + 1, c_tb_left, c_tb_right, c_tb_parent, c_tb_span, c_tb_root, c_tb_digest, c_tb_height, c_tb_priority, c_tb_pricedBy, c_tb_open, c_ta_left, c_ta_right, c_ta_parent, c_ta_span, c_ta_root, c_ta_digest, c_ta_height, c_ta_priority, c_ta_pricedBy, c_ta_open, c_after_keys, c_after_seed, c_before_keys, c_before_seed, c_work, l1 =>
    if (4 : Int32) ≤ l1 then
      some (c_tb_left, c_tb_right, c_tb_parent, c_tb_span, c_tb_root, c_tb_digest, c_tb_height, c_tb_priority, c_tb_pricedBy, c_tb_open, c_ta_left, c_ta_right, c_ta_parent, c_ta_span, c_ta_root, c_ta_digest, c_ta_height, c_ta_priority, c_ta_pricedBy, c_ta_open, c_work)
    else
      Option.bind (aget 4 c_before_keys l1) (fun v1 =>
      Option.bind (aget 4 c_after_keys l1) (fun v2 =>
      if (lg_cmp v1 v2) = (0 : Int32) then
        if c_before_seed = c_after_seed then
          L_X5_addWork_2 n c_tb_left c_tb_right c_tb_parent c_tb_span c_tb_root c_tb_digest c_tb_height c_tb_priority c_tb_pricedBy c_tb_open c_ta_left c_ta_right c_ta_parent c_ta_span c_ta_root c_ta_digest c_ta_height c_ta_priority c_ta_pricedBy c_ta_open c_after_keys c_after_seed c_before_keys c_before_seed c_work (l1 + (1 : Int32))
        else
          Option.bind (aget 4 c_before_keys l1) (fun v8 =>
          Option.bind (f_X4_grow c_tb_left c_tb_right c_tb_parent c_tb_span c_tb_root c_tb_digest c_tb_height c_tb_priority c_tb_pricedBy c_tb_open v8 c_before_seed) (fun x9 =>
          Option.bind (aget 4 c_after_keys l1) (fun v10 =>
          Option.bind (f_X4_grow c_ta_left c_ta_right c_ta_parent c_ta_span c_ta_root c_ta_digest c_ta_height c_ta_priority c_ta_pricedBy c_ta_open v10 c_after_seed) (fun x11 =>
          Option.bind (L_X5_addWork_97 20000 x9.2.2.2.1 x11.2.2.2.1 c_after_keys c_work l1 (0 : Int32)) (fun x12 =>
          L_X5_addWork_2 n x9.1 x9.2.1 x9.2.2.1 x9.2.2.2.1 x9.2.2.2.2.1 x9.2.2.2.2.2.1 x9.2.2.2.2.2.2.1 x9.2.2.2.2.2.2.2.1 x9.2.2.2.2.2.2.2.2.1 x9.2.2.2.2.2.2.2.2.2 x11.1 x11.2.1 x11.2.2.1 x11.2.2.2.1 x11.2.2.2.2.1 x11.2.2.2.2.2.1 x11.2.2.2.2.2.2.1 x11.2.2.2.2.2.2.2.1 x11.2.2.2.2.2.2.2.2.1 x11.2.2.2.2.2.2.2.2.2 c_after_keys c_after_seed c_before_keys c_before_seed x12 (l1 + (1 : Int32)))))))
      else
        Option.bind (aget 4 c_before_keys l1) (fun v3 =>
        Option.bind (f_X4_grow c_tb_left c_tb_right c_tb_parent c_tb_span c_tb_root c_tb_digest c_tb_height c_tb_priority c_tb_pricedBy c_tb_open v3 c_before_seed) (fun x4 =>
        Option.bind (aget 4 c_after_keys l1) (fun v5 =>
        Option.bind (f_X4_grow c_ta_left c_ta_right c_ta_parent c_ta_span c_ta_root c_ta_digest c_ta_height c_ta_priority c_ta_pricedBy c_ta_open v5 c_after_seed) (fun x6 =>
        Option.bind (L_X5_addWork_97 20000 x4.2.2.2.1 x6.2.2.2.1 c_after_keys c_work l1 (0 : Int32)) (fun x7 =>
        L_X5_addWork_2 n x4.1 x4.2.1 x4.2.2.1 x4.2.2.2.1 x4.2.2.2.2.1 x4.2.2.2.2.2.1 x4.2.2.2.2.2.2.1 x4.2.2.2.2.2.2.2.1 x4.2.2.2.2.2.2.2.2.1 x4.2.2.2.2.2.2.2.2.2 x6.1 x6.2.1 x6.2.2.1 x6.2.2.2.1 x6.2.2.2.2.1 x6.2.2.2.2.2.1 x6.2.2.2.2.2.2.1 x6.2.2.2.2.2.2.2.1 x6.2.2.2.2.2.2.2.2.1 x6.2.2.2.2.2.2.2.2.2 c_after_keys c_after_seed c_before_keys c_before_seed x7 (l1 + (1 : Int32)))))))))
def f_X5_addWork (c_tb_left : Nat → Int32) (c_tb_right : Nat → Int32) (c_tb_parent : Nat → Int32) (c_tb_span : Nat → Int64) (c_tb_root : Int32) (c_tb_digest : Nat → Int32) (c_tb_height : Nat → Int32) (c_tb_priority : Nat → Int32) (c_tb_pricedBy : Int32) (c_tb_open : Nat → Int32) (c_ta_left : Nat → Int32) (c_ta_right : Nat → Int32) (c_ta_parent : Nat → Int32) (c_ta_span : Nat → Int64) (c_ta_root : Int32) (c_ta_digest : Nat → Int32) (c_ta_height : Nat → Int32) (c_ta_priority : Nat → Int32) (c_ta_pricedBy : Int32) (c_ta_open : Nat → Int32) (c_after_keys : Nat → Int64) (c_after_seed : Int32) (c_before_keys : Nat → Int64) (c_before_seed : Int32) (c_work : Int32) : Option ((Nat → Int32) × (Nat → Int32) × (Nat → Int32) × (Nat → Int64) × Int32 × (Nat → Int32) × (Nat → Int32) × (Nat → Int32) × Int32 × (Nat → Int32) × (Nat → Int32) × (Nat → Int32) × (Nat → Int32) × (Nat → Int64) × Int32 × (Nat → Int32) × (Nat → Int32) × (Nat → Int32) × Int32 × (Nat → Int32) × Int32) :=
  Option.bind (L_X5_addWork_2 20000 c_tb_left c_tb_right c_tb_parent c_tb_span c_tb_root c_tb_digest c_tb_height c_tb_priority c_tb_pricedBy c_tb_open c_ta_left c_ta_right c_ta_parent c_ta_span c_ta_root c_ta_digest c_ta_height c_ta_priority c_ta_pricedBy c_ta_open c_after_keys c_after_seed c_before_keys c_before_seed c_work (0 : Int32)) (fun x1 =>
  some (x1.1, x1.2.1, x1.2.2.1, x1.2.2.2.1, x1.2.2.2.2.1, x1.2.2.2.2.2.1, x1.2.2.2.2.2.2.1, x1.2.2.2.2.2.2.2.1, x1.2.2.2.2.2.2.2.2.1, x1.2.2.2.2.2.2.2.2.2.1, x1.2.2.2.2.2.2.2.2.2.2.1, x1.2.2.2.2.2.2.2.2.2.2.2.1, x1.2.2.2.2.2.2.2.2.2.2.2.2.1, x1.2.2.2.2.2.2.2.2.2.2.2.2.2.1, x1.2.2.2.2.2.2.2.2.2.2.2.2.2.2.1, x1.2.2.2.2.2.2.2.2.2.2.2.2.2.2.2.1, x1.2.2.2.2.2.2.2.2.2.2.2.2.2.2.2.2.1, x1.2.2.2.2.2.2.2.2.2.2.2.2.2.2.2.2.2.1, x1.2.2.2.2.2.2.2.2.2.2.2.2.2.2.2.2.2.2.1, x1.2.2.2.2.2.2.2.2.2.2.2.2.2.2.2.2.2.2.2.1, x1.2.2.2.2.2.2.2.2.2.2.2.2.2.2.2.2.2.2.2.2))

def f_X5_sameKeys (c_keys : Nat → Int64) (l1 : Int32) (l2 : Int32) : Option (Int32) :=
  Option.bind (aget 4 c_keys l1) (fun v1 =>
  if (lg_cmp v1 (0 : Int64)) = (0 : Int32) then
    some (0 : Int32)
  else
    Option.bind (aget 4 c_keys l1) (fun v2 =>
    Option.bind (aget 4 c_keys l2) (fun v3 =>
    if (lg_cmp v2 v3) = (0 : Int32) then
      some (1 : Int32)
    else
      some (0 : Int32))))

def L_X5_seekAlike_11 : Nat → (Nat → Int64) → (Nat → Int64) → Int32 → Int32 → Int32 → Int32 → Int32 → Option (Int32 × Int32)
  | 0, _, _, _, _, _, _, _ => none
  | n + 1, c_after_keys, c_before_keys, c_acts, c_alikeAct, c_alikePair, l1, l2 =>
    if (4 : Int32) ≤ l2 then
      some (c_alikeAct, c_alikePair)
    else
      if c_alikeAct = (-6 : Int32) then
        Option.bind (f_X5_sameKeys c_after_keys l1 l2) (fun x1 =>
        if x1 = (0 : Int32) then
          L_X5_seekAlike_11 n c_after_keys c_before_keys c_acts c_alikeAct c_alikePair l1 (l2 + (1 : Int32))
        else
          Option.bind (f_X5_sameKeys c_before_keys l1 l2) (fun x2 =>
          if x2 = (0 : Int32) then
            L_X5_seekAlike_11 n c_after_keys c_before_keys c_acts c_acts (((10 : Int32) * l1) + l2) l1 (l2 + (1 : Int32))
          else
            L_X5_seekAlike_11 n c_after_keys c_before_keys c_acts c_alikeAct c_alikePair l1 (l2 + (1 : Int32))))
      else
        L_X5_seekAlike_11 n c_after_keys c_before_keys c_acts c_alikeAct c_alikePair l1 (l2 + (1 : Int32))
def L_X5_seekAlike_2 : Nat → (Nat → Int64) → (Nat → Int64) → Int32 → Int32 → Int32 → Int32 → Option (Int32 × Int32)
  | 0, _, _, _, _, _, _ => none
  | n + 1, c_after_keys, c_before_keys, c_acts, c_alikeAct, c_alikePair, l1 =>
    if (4 : Int32) ≤ l1 then
      some (c_alikeAct, c_alikePair)
    else
      Option.bind (L_X5_seekAlike_11 20000 c_after_keys c_before_keys c_acts c_alikeAct c_alikePair l1 (l1 + (1 : Int32))) (fun x1 =>
      L_X5_seekAlike_2 n c_after_keys c_before_keys c_acts x1.1 x1.2 (l1 + (1 : Int32)))
def f_X5_seekAlike (c_after_keys : Nat → Int64) (c_before_keys : Nat → Int64) (c_acts : Int32) (c_alikeAct : Int32) (c_alikePair : Int32) : Option (Int32 × Int32) :=
  Option.bind (L_X5_seekAlike_2 20000 c_after_keys c_before_keys c_acts c_alikeAct c_alikePair (0 : Int32)) (fun x1 =>
  some (x1.1, x1.2))

def L_X5_play_40 : Nat → Int32 → Int32 → Int32 → Int32 → (Nat → Int32) → (Nat → Int32) → (Nat → Int32) → (Nat → Int64) → Int32 → (Nat → Int32) → (Nat → Int32) → (Nat → Int32) → Int32 → (Nat → Int32) → (Nat → Int32) → (Nat → Int32) → (Nat → Int32) → (Nat → Int64) → Int32 → (Nat → Int32) → (Nat → Int32) → (Nat → Int32) → Int32 → (Nat → Int32) → (Nat → Int64) → Int32 → (Nat → Int64) → Int32 → Int32 → Int32 → Int32 → Int32 → Int32 → (Nat → Int32) → Int32 → Int32 → Option (Int32 × Int32 × Int32 × Int32 × (Nat → Int32) × (Nat → Int32) × (Nat → Int32) × (Nat → Int64) × Int32 × (Nat → Int32) × (Nat → Int32) × (Nat → Int32) × Int32 × (Nat → Int32) × (Nat → Int32) × (Nat → Int32) × (Nat → Int32) × (Nat → Int64) × Int32 × (Nat → Int32) × (Nat → Int32) × (Nat → Int32) × Int32 × (Nat → Int32) × (Nat → Int64) × Int32 × (Nat → Int64) × Int32 × Int32 × Int32 × Int32 × Int32 × Int32)
  | 0, _, _, _, _, _, _, _, _, _, _, _, _, _, _, _, _, _, _, _, _, _, _, _, _, _, _, _, _, _, _, _, _, _, _, _, _ => none
  | n + 1, c_act_kind, c_act_set, c_act_key, c_act_other, c_tb_left, c_tb_right, c_tb_parent, c_tb_span, c_tb_root, c_tb_digest, c_tb_height, c_tb_priority, c_tb_pricedBy, c_tb_open, c_ta_left, c_ta_right, c_ta_parent, c_ta_span, c_ta_root, c_ta_digest, c_ta_height, c_ta_priority, c_ta_pricedBy, c_ta_open, c_after_keys, c_after_seed, c_before_keys, c_before_seed, c_acts, c_whyNot, c_work, c_alikeAct, c_alikePair, c_r1_signs, c_r1_count, l4 =>
    if c_r1_count ≤ l4 then
      some (c_act_kind, c_act_set, c_act_key, c_act_other, c_tb_left, c_tb_right, c_tb_parent, c_tb_span, c_tb_root, c_tb_digest, c_tb_height, c_tb_priority, c_tb_pricedBy, c_tb_open, c_ta_left, c_ta_right, c_ta_parent, c_ta_span, c_ta_root, c_ta_digest, c_ta_height, c_ta_priority, c_ta_pricedBy, c_ta_open, c_after_keys, c_after_seed, c_before_keys, c_before_seed, c_acts, c_whyNot, c_work, c_alikeAct, c_alikePair)
    else
      Option.bind (f_X2_read c_r1_signs c_r1_count c_act_kind c_act_set c_act_key c_act_other l4) (fun x1 =>
      Option.bind (f_X6_whyNot c_after_keys c_after_seed x1.2.1 x1.2.2.1 x1.2.2.2.1 x1.2.2.2.2) (fun x2 =>
      if x2 = (0 : Int32) then
        Option.bind (f_X6_copy c_before_keys c_before_seed c_after_keys c_after_seed) (fun x3 =>
        Option.bind (f_X6_play c_after_keys c_after_seed x1.2.1 x1.2.2.1 x1.2.2.2.1 x1.2.2.2.2) (fun x4 =>
        Option.bind (f_X5_addWork c_tb_left c_tb_right c_tb_parent c_tb_span c_tb_root c_tb_digest c_tb_height c_tb_priority c_tb_pricedBy c_tb_open c_ta_left c_ta_right c_ta_parent c_ta_span c_ta_root c_ta_digest c_ta_height c_ta_priority c_ta_pricedBy c_ta_open x4.1 x4.2 x3.1 x3.2 c_work) (fun x5 =>
        Option.bind (f_X5_seekAlike x4.1 x3.1 c_acts c_alikeAct c_alikePair) (fun x6 =>
        L_X5_play_40 n x1.2.1 x1.2.2.1 x1.2.2.2.1 x1.2.2.2.2 x5.1 x5.2.1 x5.2.2.1 x5.2.2.2.1 x5.2.2.2.2.1 x5.2.2.2.2.2.1 x5.2.2.2.2.2.2.1 x5.2.2.2.2.2.2.2.1 x5.2.2.2.2.2.2.2.2.1 x5.2.2.2.2.2.2.2.2.2.1 x5.2.2.2.2.2.2.2.2.2.2.1 x5.2.2.2.2.2.2.2.2.2.2.2.1 x5.2.2.2.2.2.2.2.2.2.2.2.2.1 x5.2.2.2.2.2.2.2.2.2.2.2.2.2.1 x5.2.2.2.2.2.2.2.2.2.2.2.2.2.2.1 x5.2.2.2.2.2.2.2.2.2.2.2.2.2.2.2.1 x5.2.2.2.2.2.2.2.2.2.2.2.2.2.2.2.2.1 x5.2.2.2.2.2.2.2.2.2.2.2.2.2.2.2.2.2.1 x5.2.2.2.2.2.2.2.2.2.2.2.2.2.2.2.2.2.2.1 x5.2.2.2.2.2.2.2.2.2.2.2.2.2.2.2.2.2.2.2.1 x4.1 x4.2 x3.1 x3.2 (c_acts + (1 : Int32)) x2 x5.2.2.2.2.2.2.2.2.2.2.2.2.2.2.2.2.2.2.2.2 x6.1 x6.2 c_r1_signs c_r1_count (l4 + (if (1 : Int32) < x1.1 then x1.1 else (1 : Int32)))))))
      else
        some (x1.2.1, x1.2.2.1, x1.2.2.2.1, x1.2.2.2.2, c_tb_left, c_tb_right, c_tb_parent, c_tb_span, c_tb_root, c_tb_digest, c_tb_height, c_tb_priority, c_tb_pricedBy, c_tb_open, c_ta_left, c_ta_right, c_ta_parent, c_ta_span, c_ta_root, c_ta_digest, c_ta_height, c_ta_priority, c_ta_pricedBy, c_ta_open, c_after_keys, c_after_seed, c_before_keys, c_before_seed, c_acts, x2, c_work, c_alikeAct, c_alikePair)))
def f_X5_play (c_act_kind : Int32) (c_act_set : Int32) (c_act_key : Int32) (c_act_other : Int32) (c_tb_left : Nat → Int32) (c_tb_right : Nat → Int32) (c_tb_parent : Nat → Int32) (c_tb_span : Nat → Int64) (c_tb_root : Int32) (c_tb_digest : Nat → Int32) (c_tb_height : Nat → Int32) (c_tb_priority : Nat → Int32) (c_tb_pricedBy : Int32) (c_tb_open : Nat → Int32) (c_ta_left : Nat → Int32) (c_ta_right : Nat → Int32) (c_ta_parent : Nat → Int32) (c_ta_span : Nat → Int64) (c_ta_root : Int32) (c_ta_digest : Nat → Int32) (c_ta_height : Nat → Int32) (c_ta_priority : Nat → Int32) (c_ta_pricedBy : Int32) (c_ta_open : Nat → Int32) (c_after_keys : Nat → Int64) (c_after_seed : Int32) (c_before_keys : Nat → Int64) (c_before_seed : Int32) (c_acts : Int32) (c_whyNot : Int32) (c_work : Int32) (c_alikeAct : Int32) (c_alikePair : Int32) (c_r1_signs : Nat → Int32) (c_r1_count : Int32) (c_r2_keys : Nat → Int64) (c_r2_seed : Int32) : Option (Int32 × Int32 × Int32 × Int32 × (Nat → Int32) × (Nat → Int32) × (Nat → Int32) × (Nat → Int64) × Int32 × (Nat → Int32) × (Nat → Int32) × (Nat → Int32) × Int32 × (Nat → Int32) × (Nat → Int32) × (Nat → Int32) × (Nat → Int32) × (Nat → Int64) × Int32 × (Nat → Int32) × (Nat → Int32) × (Nat → Int32) × Int32 × (Nat → Int32) × (Nat → Int64) × Int32 × (Nat → Int64) × Int32 × Int32 × Int32 × Int32 × Int32 × Int32) :=
  Option.bind (f_X6_copy c_after_keys c_after_seed c_r2_keys c_r2_seed) (fun x1 =>
  L_X5_play_40 20000 c_act_kind c_act_set c_act_key c_act_other c_tb_left c_tb_right c_tb_parent c_tb_span c_tb_root c_tb_digest c_tb_height c_tb_priority c_tb_pricedBy c_tb_open c_ta_left c_ta_right c_ta_parent c_ta_span c_ta_root c_ta_digest c_ta_height c_ta_priority c_ta_pricedBy c_ta_open x1.1 x1.2 c_before_keys c_before_seed (0 : Int32) (0 : Int32) (0 : Int32) (-6 : Int32) (-6 : Int32) c_r1_signs c_r1_count (0 : Int32))

def L_X6_countAll_4 : Nat → (Nat → Int64) → Int32 → Int32 → Option (Int32)
  | 0, _, _, _ => none
  | n + 1, c_keys, l1, l2 =>
    if (4 : Int32) ≤ l2 then
      some l1
    else
      Option.bind (aget 4 c_keys l2) (fun v1 =>
      Option.bind (f_X7_count v1) (fun x2 =>
      L_X6_countAll_4 n c_keys (l1 + x2) (l2 + (1 : Int32))))
def f_X6_countAll (c_keys : Nat → Int64) : Option (Int32) :=
  Option.bind (L_X6_countAll_4 20000 c_keys (0 : Int32) (0 : Int32)) (fun x1 =>
  some x1)

def f_X7_isSeed (l0 : Int32) : Option (Int32) :=
  if l0 < (0 : Int32) then
    some (0 : Int32)
  else
    if (10000 : Int32) ≤ l0 then
      some (0 : Int32)
    else
      some (1 : Int32)

def f_X7_seed (c_now_seed : Int32) (l1 : Int32) : Option (Int32 × Int32) :=
  Option.bind (f_X7_isSeed l1) (fun x1 =>
  if x1 = (0 : Int32) then
    some ((-2 : Int32), c_now_seed)
  else
    some (c_now_seed, l1))

def f_X7_isKey (l0 : Int32) : Option (Int32) :=
  if l0 < (0 : Int32) then
    some (0 : Int32)
  else
    if (50 : Int32) ≤ l0 then
      some (0 : Int32)
    else
      some (1 : Int32)

def f_X7_put (c_now_keys : Nat → Int64) (l1 : Int32) (l2 : Int32) (l3 : Int32) : Option (Int32 × (Nat → Int64)) :=
  Option.bind (f_X7_isSet l1) (fun x1 =>
  if x1 = (0 : Int32) then
    some ((-1 : Int32), c_now_keys)
  else
    Option.bind (f_X7_isKey l2) (fun x2 =>
    if x2 = (0 : Int32) then
      some ((-1 : Int32), c_now_keys)
    else
      if l3 = (0 : Int32) then
        if l3 = (0 : Int32) then
          Option.bind (aget 4 c_now_keys l1) (fun v3 =>
          Option.bind (f_X7_bit l2) (fun x4 =>
          Option.bind (asetL 4 c_now_keys l1 (v3 &&& (x4 ^^^ (-1 : Int64)))) (fun f5 =>
          Option.bind (aget 4 f5 l1) (fun v6 =>
          Option.bind (f_X7_count v6) (fun x7 =>
          some (x7, f5))))))
        else
          Option.bind (aget 4 c_now_keys l1) (fun v8 =>
          Option.bind (f_X7_bit l2) (fun x9 =>
          Option.bind (asetL 4 c_now_keys l1 (v8 ||| x9)) (fun f10 =>
          Option.bind (aget 4 f10 l1) (fun v11 =>
          Option.bind (f_X7_count v11) (fun x12 =>
          some (x12, f10))))))
      else
        Option.bind (aget 4 c_now_keys l1) (fun v13 =>
        Option.bind (f_X7_isIn v13 l2) (fun x14 =>
        if x14 = (0 : Int32) then
          Option.bind (aget 4 c_now_keys l1) (fun v25 =>
          Option.bind (f_X7_count v25) (fun x26 =>
          if x26 < (40 : Int32) then
            if l3 = (0 : Int32) then
              Option.bind (aget 4 c_now_keys l1) (fun v27 =>
              Option.bind (f_X7_bit l2) (fun x28 =>
              Option.bind (asetL 4 c_now_keys l1 (v27 &&& (x28 ^^^ (-1 : Int64)))) (fun f29 =>
              Option.bind (aget 4 f29 l1) (fun v30 =>
              Option.bind (f_X7_count v30) (fun x31 =>
              some (x31, f29))))))
            else
              Option.bind (aget 4 c_now_keys l1) (fun v32 =>
              Option.bind (f_X7_bit l2) (fun x33 =>
              Option.bind (asetL 4 c_now_keys l1 (v32 ||| x33)) (fun f34 =>
              Option.bind (aget 4 f34 l1) (fun v35 =>
              Option.bind (f_X7_count v35) (fun x36 =>
              some (x36, f34))))))
          else
            some ((-4 : Int32), c_now_keys)))
        else
          if l3 = (0 : Int32) then
            Option.bind (aget 4 c_now_keys l1) (fun v15 =>
            Option.bind (f_X7_bit l2) (fun x16 =>
            Option.bind (asetL 4 c_now_keys l1 (v15 &&& (x16 ^^^ (-1 : Int64)))) (fun f17 =>
            Option.bind (aget 4 f17 l1) (fun v18 =>
            Option.bind (f_X7_count v18) (fun x19 =>
            some (x19, f17))))))
          else
            Option.bind (aget 4 c_now_keys l1) (fun v20 =>
            Option.bind (f_X7_bit l2) (fun x21 =>
            Option.bind (asetL 4 c_now_keys l1 (v20 ||| x21)) (fun f22 =>
            Option.bind (aget 4 f22 l1) (fun v23 =>
            Option.bind (f_X7_count v23) (fun x24 =>
            some (x24, f22))))))))))

def f_X7_say (c_pad_signs : Nat → Int32) (c_pad_count : Int32) (l1 : Int32) : Option (Int32 × (Nat → Int32) × Int32) :=
  if l1 < (33 : Int32) then
    some ((-2 : Int32), c_pad_signs, c_pad_count)
  else
    if l1 ≤ (126 : Int32) then
      Option.bind (f_X2_write c_pad_signs c_pad_count l1) (fun x1 =>
      if x1.1 = (0 : Int32) then
        some ((-4 : Int32), x1.2.1, x1.2.2)
      else
        some (x1.2.2, x1.2.1, x1.2.2))
    else
      some ((-2 : Int32), c_pad_signs, c_pad_count)

def f_X7_wipe (c_pad_count : Int32) : Option (Int32 × Int32) :=
  Option.bind (f_X2_clear c_pad_count) (fun x1 =>
  some (c_pad_count, x1))

def f_X7_fault (c_pad_signs : Nat → Int32) (c_pad_count : Int32) : Option (Int32) :=
  Option.bind (f_X2_firstFault c_pad_signs c_pad_count) (fun x1 =>
  some x1)

def f_X7_tryActs (c_now_keys : Nat → Int64) (c_now_seed : Int32) (c_pad_signs : Nat → Int32) (c_pad_count : Int32) (c_trial_act_kind : Int32) (c_trial_act_set : Int32) (c_trial_act_key : Int32) (c_trial_act_other : Int32) (c_trial_tb_left : Nat → Int32) (c_trial_tb_right : Nat → Int32) (c_trial_tb_parent : Nat → Int32) (c_trial_tb_span : Nat → Int64) (c_trial_tb_root : Int32) (c_trial_tb_digest : Nat → Int32) (c_trial_tb_height : Nat → Int32) (c_trial_tb_priority : Nat → Int32) (c_trial_tb_pricedBy : Int32) (c_trial_tb_open : Nat → Int32) (c_trial_ta_left : Nat → Int32) (c_trial_ta_right : Nat → Int32) (c_trial_ta_parent : Nat → Int32) (c_trial_ta_span : Nat → Int64) (c_trial_ta_root : Int32) (c_trial_ta_digest : Nat → Int32) (c_trial_ta_height : Nat → Int32) (c_trial_ta_priority : Nat → Int32) (c_trial_ta_pricedBy : Int32) (c_trial_ta_open : Nat → Int32) (c_trial_after_keys : Nat → Int64) (c_trial_after_seed : Int32) (c_trial_before_keys : Nat → Int64) (c_trial_before_seed : Int32) (c_trial_acts : Int32) (c_trial_whyNot : Int32) (c_trial_work : Int32) (c_trial_alikeAct : Int32) (c_trial_alikePair : Int32) : Option (Int32 × Int32 × Int32 × Int32 × Int32 × (Nat → Int32) × (Nat → Int32) × (Nat → Int32) × (Nat → Int64) × Int32 × (Nat → Int32) × (Nat → Int32) × (Nat → Int32) × Int32 × (Nat → Int32) × (Nat → Int32) × (Nat → Int32) × (Nat → Int32) × (Nat → Int64) × Int32 × (Nat → Int32) × (Nat → Int32) × (Nat → Int32) × Int32 × (Nat → Int32) × (Nat → Int64) × Int32 × (Nat → Int64) × Int32 × Int32 × Int32 × Int32 × Int32 × Int32) :=
  Option.bind (f_X2_firstFault c_pad_signs c_pad_count) (fun x1 =>
  if x1 = (-6 : Int32) then
    Option.bind (f_X5_play c_trial_act_kind c_trial_act_set c_trial_act_key c_trial_act_other c_trial_tb_left c_trial_tb_right c_trial_tb_parent c_trial_tb_span c_trial_tb_root c_trial_tb_digest c_trial_tb_height c_trial_tb_priority c_trial_tb_pricedBy c_trial_tb_open c_trial_ta_left c_trial_ta_right c_trial_ta_parent c_trial_ta_span c_trial_ta_root c_trial_ta_digest c_trial_ta_height c_trial_ta_priority c_trial_ta_pricedBy c_trial_ta_open c_trial_after_keys c_trial_after_seed c_trial_before_keys c_trial_before_seed c_trial_acts c_trial_whyNot c_trial_work c_trial_alikeAct c_trial_alikePair c_pad_signs c_pad_count c_now_keys c_now_seed) (fun x2 =>
    if x2.2.2.2.2.2.2.2.2.2.2.2.2.2.2.2.2.2.2.2.2.2.2.2.2.2.2.2.2.2.1 = (0 : Int32) then
      some ((0 : Int32), x2.1, x2.2.1, x2.2.2.1, x2.2.2.2.1, x2.2.2.2.2.1, x2.2.2.2.2.2.1, x2.2.2.2.2.2.2.1, x2.2.2.2.2.2.2.2.1, x2.2.2.2.2.2.2.2.2.1, x2.2.2.2.2.2.2.2.2.2.1, x2.2.2.2.2.2.2.2.2.2.2.1, x2.2.2.2.2.2.2.2.2.2.2.2.1, x2.2.2.2.2.2.2.2.2.2.2.2.2.1, x2.2.2.2.2.2.2.2.2.2.2.2.2.2.1, x2.2.2.2.2.2.2.2.2.2.2.2.2.2.2.1, x2.2.2.2.2.2.2.2.2.2.2.2.2.2.2.2.1, x2.2.2.2.2.2.2.2.2.2.2.2.2.2.2.2.2.1, x2.2.2.2.2.2.2.2.2.2.2.2.2.2.2.2.2.2.1, x2.2.2.2.2.2.2.2.2.2.2.2.2.2.2.2.2.2.2.1, x2.2.2.2.2.2.2.2.2.2.2.2.2.2.2.2.2.2.2.2.1, x2.2.2.2.2.2.2.2.2.2.2.2.2.2.2.2.2.2.2.2.2.1, x2.2.2.2.2.2.2.2.2.2.2.2.2.2.2.2.2.2.2.2.2.2.1, x2.2.2.2.2.2.2.2.2.2.2.2.2.2.2.2.2.2.2.2.2.2.2.1, x2.2.2.2.2.2.2.2.2.2.2.2.2.2.2.2.2.2.2.2.2.2.2.2.1, x2.2.2.2.2.2.2.2.2.2.2.2.2.2.2.2.2.2.2.2.2.2.2.2.2.1, x2.2.2.2.2.2.2.2.2.2.2.2.2.2.2.2.2.2.2.2.2.2.2.2.2.2.1, x2.2.2.2.2.2.2.2.2.2.2.2.2.2.2.2.2.2.2.2.2.2.2.2.2.2.2.1, x2.2.2.2.2.2.2.2.2.2.2.2.2.2.2.2.2.2.2.2.2.2.2.2.2.2.2.2.1, x2.2.2.2.2.2.2.2.2.2.2.2.2.2.2.2.2.2.2.2.2.2.2.2.2.2.2.2.2.1, x2.2.2.2.2.2.2.2.2.2.2.2.2.2.2.2.2.2.2.2.2.2.2.2.2.2.2.2.2.2.1, x2.2.2.2.2.2.2.2.2.2.2.2.2.2.2.2.2.2.2.2.2.2.2.2.2.2.2.2.2.2.2.1, x2.2.2.2.2.2.2.2.2.2.2.2.2.2.2.2.2.2.2.2.2.2.2.2.2.2.2.2.2.2.2.2.1, x2.2.2.2.2.2.2.2.2.2.2.2.2.2.2.2.2.2.2.2.2.2.2.2.2.2.2.2.2.2.2.2.2)
    else
      some ((-3 : Int32), x2.1, x2.2.1, x2.2.2.1, x2.2.2.2.1, x2.2.2.2.2.1, x2.2.2.2.2.2.1, x2.2.2.2.2.2.2.1, x2.2.2.2.2.2.2.2.1, x2.2.2.2.2.2.2.2.2.1, x2.2.2.2.2.2.2.2.2.2.1, x2.2.2.2.2.2.2.2.2.2.2.1, x2.2.2.2.2.2.2.2.2.2.2.2.1, x2.2.2.2.2.2.2.2.2.2.2.2.2.1, x2.2.2.2.2.2.2.2.2.2.2.2.2.2.1, x2.2.2.2.2.2.2.2.2.2.2.2.2.2.2.1, x2.2.2.2.2.2.2.2.2.2.2.2.2.2.2.2.1, x2.2.2.2.2.2.2.2.2.2.2.2.2.2.2.2.2.1, x2.2.2.2.2.2.2.2.2.2.2.2.2.2.2.2.2.2.1, x2.2.2.2.2.2.2.2.2.2.2.2.2.2.2.2.2.2.2.1, x2.2.2.2.2.2.2.2.2.2.2.2.2.2.2.2.2.2.2.2.1, x2.2.2.2.2.2.2.2.2.2.2.2.2.2.2.2.2.2.2.2.2.1, x2.2.2.2.2.2.2.2.2.2.2.2.2.2.2.2.2.2.2.2.2.2.1, x2.2.2.2.2.2.2.2.2.2.2.2.2.2.2.2.2.2.2.2.2.2.2.1, x2.2.2.2.2.2.2.2.2.2.2.2.2.2.2.2.2.2.2.2.2.2.2.2.1, x2.2.2.2.2.2.2.2.2.2.2.2.2.2.2.2.2.2.2.2.2.2.2.2.2.1, x2.2.2.2.2.2.2.2.2.2.2.2.2.2.2.2.2.2.2.2.2.2.2.2.2.2.1, x2.2.2.2.2.2.2.2.2.2.2.2.2.2.2.2.2.2.2.2.2.2.2.2.2.2.2.1, x2.2.2.2.2.2.2.2.2.2.2.2.2.2.2.2.2.2.2.2.2.2.2.2.2.2.2.2.1, x2.2.2.2.2.2.2.2.2.2.2.2.2.2.2.2.2.2.2.2.2.2.2.2.2.2.2.2.2.1, x2.2.2.2.2.2.2.2.2.2.2.2.2.2.2.2.2.2.2.2.2.2.2.2.2.2.2.2.2.2.1, x2.2.2.2.2.2.2.2.2.2.2.2.2.2.2.2.2.2.2.2.2.2.2.2.2.2.2.2.2.2.2.1, x2.2.2.2.2.2.2.2.2.2.2.2.2.2.2.2.2.2.2.2.2.2.2.2.2.2.2.2.2.2.2.2.1, x2.2.2.2.2.2.2.2.2.2.2.2.2.2.2.2.2.2.2.2.2.2.2.2.2.2.2.2.2.2.2.2.2))
  else
    some ((-5 : Int32), c_trial_act_kind, c_trial_act_set, c_trial_act_key, c_trial_act_other, c_trial_tb_left, c_trial_tb_right, c_trial_tb_parent, c_trial_tb_span, c_trial_tb_root, c_trial_tb_digest, c_trial_tb_height, c_trial_tb_priority, c_trial_tb_pricedBy, c_trial_tb_open, c_trial_ta_left, c_trial_ta_right, c_trial_ta_parent, c_trial_ta_span, c_trial_ta_root, c_trial_ta_digest, c_trial_ta_height, c_trial_ta_priority, c_trial_ta_pricedBy, c_trial_ta_open, c_trial_after_keys, c_trial_after_seed, c_trial_before_keys, c_trial_before_seed, c_trial_acts, c_trial_whyNot, c_trial_work, c_trial_alikeAct, c_trial_alikePair))

def f_X7_judge (c_now_keys : Nat → Int64) (c_now_seed : Int32) (c_pad_signs : Nat → Int32) (c_pad_count : Int32) (c_trial_act_kind : Int32) (c_trial_act_set : Int32) (c_trial_act_key : Int32) (c_trial_act_other : Int32) (c_trial_tb_left : Nat → Int32) (c_trial_tb_right : Nat → Int32) (c_trial_tb_parent : Nat → Int32) (c_trial_tb_span : Nat → Int64) (c_trial_tb_root : Int32) (c_trial_tb_digest : Nat → Int32) (c_trial_tb_height : Nat → Int32) (c_trial_tb_priority : Nat → Int32) (c_trial_tb_pricedBy : Int32) (c_trial_tb_open : Nat → Int32) (c_trial_ta_left : Nat → Int32) (c_trial_ta_right : Nat → Int32) (c_trial_ta_parent : Nat → Int32) (c_trial_ta_span : Nat → Int64) (c_trial_ta_root : Int32) (c_trial_ta_digest : Nat → Int32) (c_trial_ta_height : Nat → Int32) (c_trial_ta_priority : Nat → Int32) (c_trial_ta_pricedBy : Int32) (c_trial_ta_open : Nat → Int32) (c_trial_after_keys : Nat → Int64) (c_trial_after_seed : Int32) (c_trial_before_keys : Nat → Int64) (c_trial_before_seed : Int32) (c_trial_acts : Int32) (c_trial_whyNot : Int32) (c_trial_work : Int32) (c_trial_alikeAct : Int32) (c_trial_alikePair : Int32) (l1 : Int32) : Option (Int32 × Int32 × Int32 × Int32 × Int32 × (Nat → Int32) × (Nat → Int32) × (Nat → Int32) × (Nat → Int64) × Int32 × (Nat → Int32) × (Nat → Int32) × (Nat → Int32) × Int32 × (Nat → Int32) × (Nat → Int32) × (Nat → Int32) × (Nat → Int32) × (Nat → Int64) × Int32 × (Nat → Int32) × (Nat → Int32) × (Nat → Int32) × Int32 × (Nat → Int32) × (Nat → Int64) × Int32 × (Nat → Int64) × Int32 × Int32 × Int32 × Int32 × Int32 × Int32) :=
  if l1 < (0 : Int32) then
    some ((-2 : Int32), c_trial_act_kind, c_trial_act_set, c_trial_act_key, c_trial_act_other, c_trial_tb_left, c_trial_tb_right, c_trial_tb_parent, c_trial_tb_span, c_trial_tb_root, c_trial_tb_digest, c_trial_tb_height, c_trial_tb_priority, c_trial_tb_pricedBy, c_trial_tb_open, c_trial_ta_left, c_trial_ta_right, c_trial_ta_parent, c_trial_ta_span, c_trial_ta_root, c_trial_ta_digest, c_trial_ta_height, c_trial_ta_priority, c_trial_ta_pricedBy, c_trial_ta_open, c_trial_after_keys, c_trial_after_seed, c_trial_before_keys, c_trial_before_seed, c_trial_acts, c_trial_whyNot, c_trial_work, c_trial_alikeAct, c_trial_alikePair)
  else
    if l1 ≤ (2 : Int32) then
      Option.bind (f_X7_tryActs c_now_keys c_now_seed c_pad_signs c_pad_count c_trial_act_kind c_trial_act_set c_trial_act_key c_trial_act_other c_trial_tb_left c_trial_tb_right c_trial_tb_parent c_trial_tb_span c_trial_tb_root c_trial_tb_digest c_trial_tb_height c_trial_tb_priority c_trial_tb_pricedBy c_trial_tb_open c_trial_ta_left c_trial_ta_right c_trial_ta_parent c_trial_ta_span c_trial_ta_root c_trial_ta_digest c_trial_ta_height c_trial_ta_priority c_trial_ta_pricedBy c_trial_ta_open c_trial_after_keys c_trial_after_seed c_trial_before_keys c_trial_before_seed c_trial_acts c_trial_whyNot c_trial_work c_trial_alikeAct c_trial_alikePair) (fun x1 =>
      if x1.1 = (-5 : Int32) then
        if x1.1 = (0 : Int32) then
          some (x1.2.2.2.2.2.2.2.2.2.2.2.2.2.2.2.2.2.2.2.2.2.2.2.2.2.2.2.2.2.2.2.1, x1.2.1, x1.2.2.1, x1.2.2.2.1, x1.2.2.2.2.1, x1.2.2.2.2.2.1, x1.2.2.2.2.2.2.1, x1.2.2.2.2.2.2.2.1, x1.2.2.2.2.2.2.2.2.1, x1.2.2.2.2.2.2.2.2.2.1, x1.2.2.2.2.2.2.2.2.2.2.1, x1.2.2.2.2.2.2.2.2.2.2.2.1, x1.2.2.2.2.2.2.2.2.2.2.2.2.1, x1.2.2.2.2.2.2.2.2.2.2.2.2.2.1, x1.2.2.2.2.2.2.2.2.2.2.2.2.2.2.1, x1.2.2.2.2.2.2.2.2.2.2.2.2.2.2.2.1, x1.2.2.2.2.2.2.2.2.2.2.2.2.2.2.2.2.1, x1.2.2.2.2.2.2.2.2.2.2.2.2.2.2.2.2.2.1, x1.2.2.2.2.2.2.2.2.2.2.2.2.2.2.2.2.2.2.1, x1.2.2.2.2.2.2.2.2.2.2.2.2.2.2.2.2.2.2.2.1, x1.2.2.2.2.2.2.2.2.2.2.2.2.2.2.2.2.2.2.2.2.1, x1.2.2.2.2.2.2.2.2.2.2.2.2.2.2.2.2.2.2.2.2.2.1, x1.2.2.2.2.2.2.2.2.2.2.2.2.2.2.2.2.2.2.2.2.2.2.1, x1.2.2.2.2.2.2.2.2.2.2.2.2.2.2.2.2.2.2.2.2.2.2.2.1, x1.2.2.2.2.2.2.2.2.2.2.2.2.2.2.2.2.2.2.2.2.2.2.2.2.1, x1.2.2.2.2.2.2.2.2.2.2.2.2.2.2.2.2.2.2.2.2.2.2.2.2.2.1, x1.2.2.2.2.2.2.2.2.2.2.2.2.2.2.2.2.2.2.2.2.2.2.2.2.2.2.1, x1.2.2.2.2.2.2.2.2.2.2.2.2.2.2.2.2.2.2.2.2.2.2.2.2.2.2.2.1, x1.2.2.2.2.2.2.2.2.2.2.2.2.2.2.2.2.2.2.2.2.2.2.2.2.2.2.2.2.1, x1.2.2.2.2.2.2.2.2.2.2.2.2.2.2.2.2.2.2.2.2.2.2.2.2.2.2.2.2.2.1, x1.2.2.2.2.2.2.2.2.2.2.2.2.2.2.2.2.2.2.2.2.2.2.2.2.2.2.2.2.2.2.1, x1.2.2.2.2.2.2.2.2.2.2.2.2.2.2.2.2.2.2.2.2.2.2.2.2.2.2.2.2.2.2.2.1, x1.2.2.2.2.2.2.2.2.2.2.2.2.2.2.2.2.2.2.2.2.2.2.2.2.2.2.2.2.2.2.2.2.1, x1.2.2.2.2.2.2.2.2.2.2.2.2.2.2.2.2.2.2.2.2.2.2.2.2.2.2.2.2.2.2.2.2.2)
        else
          some (x1.1, x1.2.1, x1.2.2.1, x1.2.2.2.1, x1.2.2.2.2.1, x1.2.2.2.2.2.1, x1.2.2.2.2.2.2.1, x1.2.2.2.2.2.2.2.1, x1.2.2.2.2.2.2.2.2.1, x1.2.2.2.2.2.2.2.2.2.1, x1.2.2.2.2.2.2.2.2.2.2.1, x1.2.2.2.2.2.2.2.2.2.2.2.1, x1.2.2.2.2.2.2.2.2.2.2.2.2.1, x1.2.2.2.2.2.2.2.2.2.2.2.2.2.1, x1.2.2.2.2.2.2.2.2.2.2.2.2.2.2.1, x1.2.2.2.2.2.2.2.2.2.2.2.2.2.2.2.1, x1.2.2.2.2.2.2.2.2.2.2.2.2.2.2.2.2.1, x1.2.2.2.2.2.2.2.2.2.2.2.2.2.2.2.2.2.1, x1.2.2.2.2.2.2.2.2.2.2.2.2.2.2.2.2.2.2.1, x1.2.2.2.2.2.2.2.2.2.2.2.2.2.2.2.2.2.2.2.1, x1.2.2.2.2.2.2.2.2.2.2.2.2.2.2.2.2.2.2.2.2.1, x1.2.2.2.2.2.2.2.2.2.2.2.2.2.2.2.2.2.2.2.2.2.1, x1.2.2.2.2.2.2.2.2.2.2.2.2.2.2.2.2.2.2.2.2.2.2.1, x1.2.2.2.2.2.2.2.2.2.2.2.2.2.2.2.2.2.2.2.2.2.2.2.1, x1.2.2.2.2.2.2.2.2.2.2.2.2.2.2.2.2.2.2.2.2.2.2.2.2.1, x1.2.2.2.2.2.2.2.2.2.2.2.2.2.2.2.2.2.2.2.2.2.2.2.2.2.1, x1.2.2.2.2.2.2.2.2.2.2.2.2.2.2.2.2.2.2.2.2.2.2.2.2.2.2.1, x1.2.2.2.2.2.2.2.2.2.2.2.2.2.2.2.2.2.2.2.2.2.2.2.2.2.2.2.1, x1.2.2.2.2.2.2.2.2.2.2.2.2.2.2.2.2.2.2.2.2.2.2.2.2.2.2.2.2.1, x1.2.2.2.2.2.2.2.2.2.2.2.2.2.2.2.2.2.2.2.2.2.2.2.2.2.2.2.2.2.1, x1.2.2.2.2.2.2.2.2.2.2.2.2.2.2.2.2.2.2.2.2.2.2.2.2.2.2.2.2.2.2.1, x1.2.2.2.2.2.2.2.2.2.2.2.2.2.2.2.2.2.2.2.2.2.2.2.2.2.2.2.2.2.2.2.1, x1.2.2.2.2.2.2.2.2.2.2.2.2.2.2.2.2.2.2.2.2.2.2.2.2.2.2.2.2.2.2.2.2.1, x1.2.2.2.2.2.2.2.2.2.2.2.2.2.2.2.2.2.2.2.2.2.2.2.2.2.2.2.2.2.2.2.2.2)
      else
        if l1 = (2 : Int32) then
          if x1.1 = (0 : Int32) then
            some (x1.2.2.2.2.2.2.2.2.2.2.2.2.2.2.2.2.2.2.2.2.2.2.2.2.2.2.2.2.2.2.2.1, x1.2.1, x1.2.2.1, x1.2.2.2.1, x1.2.2.2.2.1, x1.2.2.2.2.2.1, x1.2.2.2.2.2.2.1, x1.2.2.2.2.2.2.2.1, x1.2.2.2.2.2.2.2.2.1, x1.2.2.2.2.2.2.2.2.2.1, x1.2.2.2.2.2.2.2.2.2.2.1, x1.2.2.2.2.2.2.2.2.2.2.2.1, x1.2.2.2.2.2.2.2.2.2.2.2.2.1, x1.2.2.2.2.2.2.2.2.2.2.2.2.2.1, x1.2.2.2.2.2.2.2.2.2.2.2.2.2.2.1, x1.2.2.2.2.2.2.2.2.2.2.2.2.2.2.2.1, x1.2.2.2.2.2.2.2.2.2.2.2.2.2.2.2.2.1, x1.2.2.2.2.2.2.2.2.2.2.2.2.2.2.2.2.2.1, x1.2.2.2.2.2.2.2.2.2.2.2.2.2.2.2.2.2.2.1, x1.2.2.2.2.2.2.2.2.2.2.2.2.2.2.2.2.2.2.2.1, x1.2.2.2.2.2.2.2.2.2.2.2.2.2.2.2.2.2.2.2.2.1, x1.2.2.2.2.2.2.2.2.2.2.2.2.2.2.2.2.2.2.2.2.2.1, x1.2.2.2.2.2.2.2.2.2.2.2.2.2.2.2.2.2.2.2.2.2.2.1, x1.2.2.2.2.2.2.2.2.2.2.2.2.2.2.2.2.2.2.2.2.2.2.2.1, x1.2.2.2.2.2.2.2.2.2.2.2.2.2.2.2.2.2.2.2.2.2.2.2.2.1, x1.2.2.2.2.2.2.2.2.2.2.2.2.2.2.2.2.2.2.2.2.2.2.2.2.2.1, x1.2.2.2.2.2.2.2.2.2.2.2.2.2.2.2.2.2.2.2.2.2.2.2.2.2.2.1, x1.2.2.2.2.2.2.2.2.2.2.2.2.2.2.2.2.2.2.2.2.2.2.2.2.2.2.2.1, x1.2.2.2.2.2.2.2.2.2.2.2.2.2.2.2.2.2.2.2.2.2.2.2.2.2.2.2.2.1, x1.2.2.2.2.2.2.2.2.2.2.2.2.2.2.2.2.2.2.2.2.2.2.2.2.2.2.2.2.2.1, x1.2.2.2.2.2.2.2.2.2.2.2.2.2.2.2.2.2.2.2.2.2.2.2.2.2.2.2.2.2.2.1, x1.2.2.2.2.2.2.2.2.2.2.2.2.2.2.2.2.2.2.2.2.2.2.2.2.2.2.2.2.2.2.2.1, x1.2.2.2.2.2.2.2.2.2.2.2.2.2.2.2.2.2.2.2.2.2.2.2.2.2.2.2.2.2.2.2.2.1, x1.2.2.2.2.2.2.2.2.2.2.2.2.2.2.2.2.2.2.2.2.2.2.2.2.2.2.2.2.2.2.2.2.2)
          else
            some (x1.1, x1.2.1, x1.2.2.1, x1.2.2.2.1, x1.2.2.2.2.1, x1.2.2.2.2.2.1, x1.2.2.2.2.2.2.1, x1.2.2.2.2.2.2.2.1, x1.2.2.2.2.2.2.2.2.1, x1.2.2.2.2.2.2.2.2.2.1, x1.2.2.2.2.2.2.2.2.2.2.1, x1.2.2.2.2.2.2.2.2.2.2.2.1, x1.2.2.2.2.2.2.2.2.2.2.2.2.1, x1.2.2.2.2.2.2.2.2.2.2.2.2.2.1, x1.2.2.2.2.2.2.2.2.2.2.2.2.2.2.1, x1.2.2.2.2.2.2.2.2.2.2.2.2.2.2.2.1, x1.2.2.2.2.2.2.2.2.2.2.2.2.2.2.2.2.1, x1.2.2.2.2.2.2.2.2.2.2.2.2.2.2.2.2.2.1, x1.2.2.2.2.2.2.2.2.2.2.2.2.2.2.2.2.2.2.1, x1.2.2.2.2.2.2.2.2.2.2.2.2.2.2.2.2.2.2.2.1, x1.2.2.2.2.2.2.2.2.2.2.2.2.2.2.2.2.2.2.2.2.1, x1.2.2.2.2.2.2.2.2.2.2.2.2.2.2.2.2.2.2.2.2.2.1, x1.2.2.2.2.2.2.2.2.2.2.2.2.2.2.2.2.2.2.2.2.2.2.1, x1.2.2.2.2.2.2.2.2.2.2.2.2.2.2.2.2.2.2.2.2.2.2.2.1, x1.2.2.2.2.2.2.2.2.2.2.2.2.2.2.2.2.2.2.2.2.2.2.2.2.1, x1.2.2.2.2.2.2.2.2.2.2.2.2.2.2.2.2.2.2.2.2.2.2.2.2.2.1, x1.2.2.2.2.2.2.2.2.2.2.2.2.2.2.2.2.2.2.2.2.2.2.2.2.2.2.1, x1.2.2.2.2.2.2.2.2.2.2.2.2.2.2.2.2.2.2.2.2.2.2.2.2.2.2.2.1, x1.2.2.2.2.2.2.2.2.2.2.2.2.2.2.2.2.2.2.2.2.2.2.2.2.2.2.2.2.1, x1.2.2.2.2.2.2.2.2.2.2.2.2.2.2.2.2.2.2.2.2.2.2.2.2.2.2.2.2.2.1, x1.2.2.2.2.2.2.2.2.2.2.2.2.2.2.2.2.2.2.2.2.2.2.2.2.2.2.2.2.2.2.1, x1.2.2.2.2.2.2.2.2.2.2.2.2.2.2.2.2.2.2.2.2.2.2.2.2.2.2.2.2.2.2.2.1, x1.2.2.2.2.2.2.2.2.2.2.2.2.2.2.2.2.2.2.2.2.2.2.2.2.2.2.2.2.2.2.2.2.1, x1.2.2.2.2.2.2.2.2.2.2.2.2.2.2.2.2.2.2.2.2.2.2.2.2.2.2.2.2.2.2.2.2.2)
        else
          if x1.1 = (0 : Int32) then
            some ((-6 : Int32), x1.2.1, x1.2.2.1, x1.2.2.2.1, x1.2.2.2.2.1, x1.2.2.2.2.2.1, x1.2.2.2.2.2.2.1, x1.2.2.2.2.2.2.2.1, x1.2.2.2.2.2.2.2.2.1, x1.2.2.2.2.2.2.2.2.2.1, x1.2.2.2.2.2.2.2.2.2.2.1, x1.2.2.2.2.2.2.2.2.2.2.2.1, x1.2.2.2.2.2.2.2.2.2.2.2.2.1, x1.2.2.2.2.2.2.2.2.2.2.2.2.2.1, x1.2.2.2.2.2.2.2.2.2.2.2.2.2.2.1, x1.2.2.2.2.2.2.2.2.2.2.2.2.2.2.2.1, x1.2.2.2.2.2.2.2.2.2.2.2.2.2.2.2.2.1, x1.2.2.2.2.2.2.2.2.2.2.2.2.2.2.2.2.2.1, x1.2.2.2.2.2.2.2.2.2.2.2.2.2.2.2.2.2.2.1, x1.2.2.2.2.2.2.2.2.2.2.2.2.2.2.2.2.2.2.2.1, x1.2.2.2.2.2.2.2.2.2.2.2.2.2.2.2.2.2.2.2.2.1, x1.2.2.2.2.2.2.2.2.2.2.2.2.2.2.2.2.2.2.2.2.2.1, x1.2.2.2.2.2.2.2.2.2.2.2.2.2.2.2.2.2.2.2.2.2.2.1, x1.2.2.2.2.2.2.2.2.2.2.2.2.2.2.2.2.2.2.2.2.2.2.2.1, x1.2.2.2.2.2.2.2.2.2.2.2.2.2.2.2.2.2.2.2.2.2.2.2.2.1, x1.2.2.2.2.2.2.2.2.2.2.2.2.2.2.2.2.2.2.2.2.2.2.2.2.2.1, x1.2.2.2.2.2.2.2.2.2.2.2.2.2.2.2.2.2.2.2.2.2.2.2.2.2.2.1, x1.2.2.2.2.2.2.2.2.2.2.2.2.2.2.2.2.2.2.2.2.2.2.2.2.2.2.2.1, x1.2.2.2.2.2.2.2.2.2.2.2.2.2.2.2.2.2.2.2.2.2.2.2.2.2.2.2.2.1, x1.2.2.2.2.2.2.2.2.2.2.2.2.2.2.2.2.2.2.2.2.2.2.2.2.2.2.2.2.2.1, x1.2.2.2.2.2.2.2.2.2.2.2.2.2.2.2.2.2.2.2.2.2.2.2.2.2.2.2.2.2.2.1, x1.2.2.2.2.2.2.2.2.2.2.2.2.2.2.2.2.2.2.2.2.2.2.2.2.2.2.2.2.2.2.2.1, x1.2.2.2.2.2.2.2.2.2.2.2.2.2.2.2.2.2.2.2.2.2.2.2.2.2.2.2.2.2.2.2.2.1, x1.2.2.2.2.2.2.2.2.2.2.2.2.2.2.2.2.2.2.2.2.2.2.2.2.2.2.2.2.2.2.2.2.2)
          else
            if l1 = (0 : Int32) then
              some (x1.2.2.2.2.2.2.2.2.2.2.2.2.2.2.2.2.2.2.2.2.2.2.2.2.2.2.2.2.2.1, x1.2.1, x1.2.2.1, x1.2.2.2.1, x1.2.2.2.2.1, x1.2.2.2.2.2.1, x1.2.2.2.2.2.2.1, x1.2.2.2.2.2.2.2.1, x1.2.2.2.2.2.2.2.2.1, x1.2.2.2.2.2.2.2.2.2.1, x1.2.2.2.2.2.2.2.2.2.2.1, x1.2.2.2.2.2.2.2.2.2.2.2.1, x1.2.2.2.2.2.2.2.2.2.2.2.2.1, x1.2.2.2.2.2.2.2.2.2.2.2.2.2.1, x1.2.2.2.2.2.2.2.2.2.2.2.2.2.2.1, x1.2.2.2.2.2.2.2.2.2.2.2.2.2.2.2.1, x1.2.2.2.2.2.2.2.2.2.2.2.2.2.2.2.2.1, x1.2.2.2.2.2.2.2.2.2.2.2.2.2.2.2.2.2.1, x1.2.2.2.2.2.2.2.2.2.2.2.2.2.2.2.2.2.2.1, x1.2.2.2.2.2.2.2.2.2.2.2.2.2.2.2.2.2.2.2.1, x1.2.2.2.2.2.2.2.2.2.2.2.2.2.2.2.2.2.2.2.2.1, x1.2.2.2.2.2.2.2.2.2.2.2.2.2.2.2.2.2.2.2.2.2.1, x1.2.2.2.2.2.2.2.2.2.2.2.2.2.2.2.2.2.2.2.2.2.2.1, x1.2.2.2.2.2.2.2.2.2.2.2.2.2.2.2.2.2.2.2.2.2.2.2.1, x1.2.2.2.2.2.2.2.2.2.2.2.2.2.2.2.2.2.2.2.2.2.2.2.2.1, x1.2.2.2.2.2.2.2.2.2.2.2.2.2.2.2.2.2.2.2.2.2.2.2.2.2.1, x1.2.2.2.2.2.2.2.2.2.2.2.2.2.2.2.2.2.2.2.2.2.2.2.2.2.2.1, x1.2.2.2.2.2.2.2.2.2.2.2.2.2.2.2.2.2.2.2.2.2.2.2.2.2.2.2.1, x1.2.2.2.2.2.2.2.2.2.2.2.2.2.2.2.2.2.2.2.2.2.2.2.2.2.2.2.2.1, x1.2.2.2.2.2.2.2.2.2.2.2.2.2.2.2.2.2.2.2.2.2.2.2.2.2.2.2.2.2.1, x1.2.2.2.2.2.2.2.2.2.2.2.2.2.2.2.2.2.2.2.2.2.2.2.2.2.2.2.2.2.2.1, x1.2.2.2.2.2.2.2.2.2.2.2.2.2.2.2.2.2.2.2.2.2.2.2.2.2.2.2.2.2.2.2.1, x1.2.2.2.2.2.2.2.2.2.2.2.2.2.2.2.2.2.2.2.2.2.2.2.2.2.2.2.2.2.2.2.2.1, x1.2.2.2.2.2.2.2.2.2.2.2.2.2.2.2.2.2.2.2.2.2.2.2.2.2.2.2.2.2.2.2.2.2)
            else
              some (x1.2.2.2.2.2.2.2.2.2.2.2.2.2.2.2.2.2.2.2.2.2.2.2.2.2.2.2.2.2.2.1, x1.2.1, x1.2.2.1, x1.2.2.2.1, x1.2.2.2.2.1, x1.2.2.2.2.2.1, x1.2.2.2.2.2.2.1, x1.2.2.2.2.2.2.2.1, x1.2.2.2.2.2.2.2.2.1, x1.2.2.2.2.2.2.2.2.2.1, x1.2.2.2.2.2.2.2.2.2.2.1, x1.2.2.2.2.2.2.2.2.2.2.2.1, x1.2.2.2.2.2.2.2.2.2.2.2.2.1, x1.2.2.2.2.2.2.2.2.2.2.2.2.2.1, x1.2.2.2.2.2.2.2.2.2.2.2.2.2.2.1, x1.2.2.2.2.2.2.2.2.2.2.2.2.2.2.2.1, x1.2.2.2.2.2.2.2.2.2.2.2.2.2.2.2.2.1, x1.2.2.2.2.2.2.2.2.2.2.2.2.2.2.2.2.2.1, x1.2.2.2.2.2.2.2.2.2.2.2.2.2.2.2.2.2.2.1, x1.2.2.2.2.2.2.2.2.2.2.2.2.2.2.2.2.2.2.2.1, x1.2.2.2.2.2.2.2.2.2.2.2.2.2.2.2.2.2.2.2.2.1, x1.2.2.2.2.2.2.2.2.2.2.2.2.2.2.2.2.2.2.2.2.2.1, x1.2.2.2.2.2.2.2.2.2.2.2.2.2.2.2.2.2.2.2.2.2.2.1, x1.2.2.2.2.2.2.2.2.2.2.2.2.2.2.2.2.2.2.2.2.2.2.2.1, x1.2.2.2.2.2.2.2.2.2.2.2.2.2.2.2.2.2.2.2.2.2.2.2.2.1, x1.2.2.2.2.2.2.2.2.2.2.2.2.2.2.2.2.2.2.2.2.2.2.2.2.2.1, x1.2.2.2.2.2.2.2.2.2.2.2.2.2.2.2.2.2.2.2.2.2.2.2.2.2.2.1, x1.2.2.2.2.2.2.2.2.2.2.2.2.2.2.2.2.2.2.2.2.2.2.2.2.2.2.2.1, x1.2.2.2.2.2.2.2.2.2.2.2.2.2.2.2.2.2.2.2.2.2.2.2.2.2.2.2.2.1, x1.2.2.2.2.2.2.2.2.2.2.2.2.2.2.2.2.2.2.2.2.2.2.2.2.2.2.2.2.2.1, x1.2.2.2.2.2.2.2.2.2.2.2.2.2.2.2.2.2.2.2.2.2.2.2.2.2.2.2.2.2.2.1, x1.2.2.2.2.2.2.2.2.2.2.2.2.2.2.2.2.2.2.2.2.2.2.2.2.2.2.2.2.2.2.2.1, x1.2.2.2.2.2.2.2.2.2.2.2.2.2.2.2.2.2.2.2.2.2.2.2.2.2.2.2.2.2.2.2.2.1, x1.2.2.2.2.2.2.2.2.2.2.2.2.2.2.2.2.2.2.2.2.2.2.2.2.2.2.2.2.2.2.2.2.2))
    else
      some ((-2 : Int32), c_trial_act_kind, c_trial_act_set, c_trial_act_key, c_trial_act_other, c_trial_tb_left, c_trial_tb_right, c_trial_tb_parent, c_trial_tb_span, c_trial_tb_root, c_trial_tb_digest, c_trial_tb_height, c_trial_tb_priority, c_trial_tb_pricedBy, c_trial_tb_open, c_trial_ta_left, c_trial_ta_right, c_trial_ta_parent, c_trial_ta_span, c_trial_ta_root, c_trial_ta_digest, c_trial_ta_height, c_trial_ta_priority, c_trial_ta_pricedBy, c_trial_ta_open, c_trial_after_keys, c_trial_after_seed, c_trial_before_keys, c_trial_before_seed, c_trial_acts, c_trial_whyNot, c_trial_work, c_trial_alikeAct, c_trial_alikePair)

def f_X7_behind (c_now_keys : Nat → Int64) (c_now_seed : Int32) (c_pad_signs : Nat → Int32) (c_pad_count : Int32) (c_trial_act_kind : Int32) (c_trial_act_set : Int32) (c_trial_act_key : Int32) (c_trial_act_other : Int32) (c_trial_tb_left : Nat → Int32) (c_trial_tb_right : Nat → Int32) (c_trial_tb_parent : Nat → Int32) (c_trial_tb_span : Nat → Int64) (c_trial_tb_root : Int32) (c_trial_tb_digest : Nat → Int32) (c_trial_tb_height : Nat → Int32) (c_trial_tb_priority : Nat → Int32) (c_trial_tb_pricedBy : Int32) (c_trial_tb_open : Nat → Int32) (c_trial_ta_left : Nat → Int32) (c_trial_ta_right : Nat → Int32) (c_trial_ta_parent : Nat → Int32) (c_trial_ta_span : Nat → Int64) (c_trial_ta_root : Int32) (c_trial_ta_digest : Nat → Int32) (c_trial_ta_height : Nat → Int32) (c_trial_ta_priority : Nat → Int32) (c_trial_ta_pricedBy : Int32) (c_trial_ta_open : Nat → Int32) (c_trial_after_keys : Nat → Int64) (c_trial_after_seed : Int32) (c_trial_before_keys : Nat → Int64) (c_trial_before_seed : Int32) (c_trial_acts : Int32) (c_trial_whyNot : Int32) (c_trial_work : Int32) (c_trial_alikeAct : Int32) (c_trial_alikePair : Int32) (l1 : Int32) (l2 : Int32) : Option (Int32 × Int32 × Int32 × Int32 × Int32 × (Nat → Int32) × (Nat → Int32) × (Nat → Int32) × (Nat → Int64) × Int32 × (Nat → Int32) × (Nat → Int32) × (Nat → Int32) × Int32 × (Nat → Int32) × (Nat → Int32) × (Nat → Int32) × (Nat → Int32) × (Nat → Int64) × Int32 × (Nat → Int32) × (Nat → Int32) × (Nat → Int32) × Int32 × (Nat → Int32) × (Nat → Int64) × Int32 × (Nat → Int64) × Int32 × Int32 × Int32 × Int32 × Int32 × Int32) :=
  Option.bind (f_X7_isSet l1) (fun x1 =>
  if x1 = (0 : Int32) then
    some ((-1 : Int32), c_trial_act_kind, c_trial_act_set, c_trial_act_key, c_trial_act_other, c_trial_tb_left, c_trial_tb_right, c_trial_tb_parent, c_trial_tb_span, c_trial_tb_root, c_trial_tb_digest, c_trial_tb_height, c_trial_tb_priority, c_trial_tb_pricedBy, c_trial_tb_open, c_trial_ta_left, c_trial_ta_right, c_trial_ta_parent, c_trial_ta_span, c_trial_ta_root, c_trial_ta_digest, c_trial_ta_height, c_trial_ta_priority, c_trial_ta_pricedBy, c_trial_ta_open, c_trial_after_keys, c_trial_after_seed, c_trial_before_keys, c_trial_before_seed, c_trial_acts, c_trial_whyNot, c_trial_work, c_trial_alikeAct, c_trial_alikePair)
  else
    if l2 < (0 : Int32) then
      some ((-2 : Int32), c_trial_act_kind, c_trial_act_set, c_trial_act_key, c_trial_act_other, c_trial_tb_left, c_trial_tb_right, c_trial_tb_parent, c_trial_tb_span, c_trial_tb_root, c_trial_tb_digest, c_trial_tb_height, c_trial_tb_priority, c_trial_tb_pricedBy, c_trial_tb_open, c_trial_ta_left, c_trial_ta_right, c_trial_ta_parent, c_trial_ta_span, c_trial_ta_root, c_trial_ta_digest, c_trial_ta_height, c_trial_ta_priority, c_trial_ta_pricedBy, c_trial_ta_open, c_trial_after_keys, c_trial_after_seed, c_trial_before_keys, c_trial_before_seed, c_trial_acts, c_trial_whyNot, c_trial_work, c_trial_alikeAct, c_trial_alikePair)
    else
      if l2 ≤ (3 : Int32) then
        Option.bind (f_X7_tryActs c_now_keys c_now_seed c_pad_signs c_pad_count c_trial_act_kind c_trial_act_set c_trial_act_key c_trial_act_other c_trial_tb_left c_trial_tb_right c_trial_tb_parent c_trial_tb_span c_trial_tb_root c_trial_tb_digest c_trial_tb_height c_trial_tb_priority c_trial_tb_pricedBy c_trial_tb_open c_trial_ta_left c_trial_ta_right c_trial_ta_parent c_trial_ta_span c_trial_ta_root c_trial_ta_digest c_trial_ta_height c_trial_ta_priority c_trial_ta_pricedBy c_trial_ta_open c_trial_after_keys c_trial_after_seed c_trial_before_keys c_trial_before_seed c_trial_acts c_trial_whyNot c_trial_work c_trial_alikeAct c_trial_alikePair) (fun x2 =>
        if x2.1 = (0 : Int32) then
          Option.bind (aget 4 x2.2.2.2.2.2.2.2.2.2.2.2.2.2.2.2.2.2.2.2.2.2.2.2.2.2.1 l1) (fun v3 =>
          Option.bind (f_X4_grow x2.2.2.2.2.2.1 x2.2.2.2.2.2.2.1 x2.2.2.2.2.2.2.2.1 x2.2.2.2.2.2.2.2.2.1 x2.2.2.2.2.2.2.2.2.2.1 x2.2.2.2.2.2.2.2.2.2.2.1 x2.2.2.2.2.2.2.2.2.2.2.2.1 x2.2.2.2.2.2.2.2.2.2.2.2.2.1 x2.2.2.2.2.2.2.2.2.2.2.2.2.2.1 x2.2.2.2.2.2.2.2.2.2.2.2.2.2.2.1 v3 x2.2.2.2.2.2.2.2.2.2.2.2.2.2.2.2.2.2.2.2.2.2.2.2.2.2.2.1) (fun x4 =>
          if l2 = (0 : Int32) then
            Option.bind (f_X4_sizeBelow x4.2.2.2.1 x4.2.2.2.2.1) (fun x5 =>
            some (x5, x2.2.1, x2.2.2.1, x2.2.2.2.1, x2.2.2.2.2.1, x4.1, x4.2.1, x4.2.2.1, x4.2.2.2.1, x4.2.2.2.2.1, x4.2.2.2.2.2.1, x4.2.2.2.2.2.2.1, x4.2.2.2.2.2.2.2.1, x4.2.2.2.2.2.2.2.2.1, x4.2.2.2.2.2.2.2.2.2, x2.2.2.2.2.2.2.2.2.2.2.2.2.2.2.2.1, x2.2.2.2.2.2.2.2.2.2.2.2.2.2.2.2.2.1, x2.2.2.2.2.2.2.2.2.2.2.2.2.2.2.2.2.2.1, x2.2.2.2.2.2.2.2.2.2.2.2.2.2.2.2.2.2.2.1, x2.2.2.2.2.2.2.2.2.2.2.2.2.2.2.2.2.2.2.2.1, x2.2.2.2.2.2.2.2.2.2.2.2.2.2.2.2.2.2.2.2.2.1, x2.2.2.2.2.2.2.2.2.2.2.2.2.2.2.2.2.2.2.2.2.2.1, x2.2.2.2.2.2.2.2.2.2.2.2.2.2.2.2.2.2.2.2.2.2.2.1, x2.2.2.2.2.2.2.2.2.2.2.2.2.2.2.2.2.2.2.2.2.2.2.2.1, x2.2.2.2.2.2.2.2.2.2.2.2.2.2.2.2.2.2.2.2.2.2.2.2.2.1, x2.2.2.2.2.2.2.2.2.2.2.2.2.2.2.2.2.2.2.2.2.2.2.2.2.2.1, x2.2.2.2.2.2.2.2.2.2.2.2.2.2.2.2.2.2.2.2.2.2.2.2.2.2.2.1, x2.2.2.2.2.2.2.2.2.2.2.2.2.2.2.2.2.2.2.2.2.2.2.2.2.2.2.2.1, x2.2.2.2.2.2.2.2.2.2.2.2.2.2.2.2.2.2.2.2.2.2.2.2.2.2.2.2.2.1, x2.2.2.2.2.2.2.2.2.2.2.2.2.2.2.2.2.2.2.2.2.2.2.2.2.2.2.2.2.2.1, x2.2.2.2.2.2.2.2.2.2.2.2.2.2.2.2.2.2.2.2.2.2.2.2.2.2.2.2.2.2.2.1, x2.2.2.2.2.2.2.2.2.2.2.2.2.2.2.2.2.2.2.2.2.2.2.2.2.2.2.2.2.2.2.2.1, x2.2.2.2.2.2.2.2.2.2.2.2.2.2.2.2.2.2.2.2.2.2.2.2.2.2.2.2.2.2.2.2.2.1, x2.2.2.2.2.2.2.2.2.2.2.2.2.2.2.2.2.2.2.2.2.2.2.2.2.2.2.2.2.2.2.2.2.2))
          else
            if l2 = (1 : Int32) then
              Option.bind (f_X4_digestBelow x4.2.2.2.2.2.1 x4.2.2.2.2.1) (fun x6 =>
              some (x6, x2.2.1, x2.2.2.1, x2.2.2.2.1, x2.2.2.2.2.1, x4.1, x4.2.1, x4.2.2.1, x4.2.2.2.1, x4.2.2.2.2.1, x4.2.2.2.2.2.1, x4.2.2.2.2.2.2.1, x4.2.2.2.2.2.2.2.1, x4.2.2.2.2.2.2.2.2.1, x4.2.2.2.2.2.2.2.2.2, x2.2.2.2.2.2.2.2.2.2.2.2.2.2.2.2.1, x2.2.2.2.2.2.2.2.2.2.2.2.2.2.2.2.2.1, x2.2.2.2.2.2.2.2.2.2.2.2.2.2.2.2.2.2.1, x2.2.2.2.2.2.2.2.2.2.2.2.2.2.2.2.2.2.2.1, x2.2.2.2.2.2.2.2.2.2.2.2.2.2.2.2.2.2.2.2.1, x2.2.2.2.2.2.2.2.2.2.2.2.2.2.2.2.2.2.2.2.2.1, x2.2.2.2.2.2.2.2.2.2.2.2.2.2.2.2.2.2.2.2.2.2.1, x2.2.2.2.2.2.2.2.2.2.2.2.2.2.2.2.2.2.2.2.2.2.2.1, x2.2.2.2.2.2.2.2.2.2.2.2.2.2.2.2.2.2.2.2.2.2.2.2.1, x2.2.2.2.2.2.2.2.2.2.2.2.2.2.2.2.2.2.2.2.2.2.2.2.2.1, x2.2.2.2.2.2.2.2.2.2.2.2.2.2.2.2.2.2.2.2.2.2.2.2.2.2.1, x2.2.2.2.2.2.2.2.2.2.2.2.2.2.2.2.2.2.2.2.2.2.2.2.2.2.2.1, x2.2.2.2.2.2.2.2.2.2.2.2.2.2.2.2.2.2.2.2.2.2.2.2.2.2.2.2.1, x2.2.2.2.2.2.2.2.2.2.2.2.2.2.2.2.2.2.2.2.2.2.2.2.2.2.2.2.2.1, x2.2.2.2.2.2.2.2.2.2.2.2.2.2.2.2.2.2.2.2.2.2.2.2.2.2.2.2.2.2.1, x2.2.2.2.2.2.2.2.2.2.2.2.2.2.2.2.2.2.2.2.2.2.2.2.2.2.2.2.2.2.2.1, x2.2.2.2.2.2.2.2.2.2.2.2.2.2.2.2.2.2.2.2.2.2.2.2.2.2.2.2.2.2.2.2.1, x2.2.2.2.2.2.2.2.2.2.2.2.2.2.2.2.2.2.2.2.2.2.2.2.2.2.2.2.2.2.2.2.2.1, x2.2.2.2.2.2.2.2.2.2.2.2.2.2.2.2.2.2.2.2.2.2.2.2.2.2.2.2.2.2.2.2.2.2))
            else
              if l2 = (2 : Int32) then
                some (x4.2.2.2.2.1, x2.2.1, x2.2.2.1, x2.2.2.2.1, x2.2.2.2.2.1, x4.1, x4.2.1, x4.2.2.1, x4.2.2.2.1, x4.2.2.2.2.1, x4.2.2.2.2.2.1, x4.2.2.2.2.2.2.1, x4.2.2.2.2.2.2.2.1, x4.2.2.2.2.2.2.2.2.1, x4.2.2.2.2.2.2.2.2.2, x2.2.2.2.2.2.2.2.2.2.2.2.2.2.2.2.1, x2.2.2.2.2.2.2.2.2.2.2.2.2.2.2.2.2.1, x2.2.2.2.2.2.2.2.2.2.2.2.2.2.2.2.2.2.1, x2.2.2.2.2.2.2.2.2.2.2.2.2.2.2.2.2.2.2.1, x2.2.2.2.2.2.2.2.2.2.2.2.2.2.2.2.2.2.2.2.1, x2.2.2.2.2.2.2.2.2.2.2.2.2.2.2.2.2.2.2.2.2.1, x2.2.2.2.2.2.2.2.2.2.2.2.2.2.2.2.2.2.2.2.2.2.1, x2.2.2.2.2.2.2.2.2.2.2.2.2.2.2.2.2.2.2.2.2.2.2.1, x2.2.2.2.2.2.2.2.2.2.2.2.2.2.2.2.2.2.2.2.2.2.2.2.1, x2.2.2.2.2.2.2.2.2.2.2.2.2.2.2.2.2.2.2.2.2.2.2.2.2.1, x2.2.2.2.2.2.2.2.2.2.2.2.2.2.2.2.2.2.2.2.2.2.2.2.2.2.1, x2.2.2.2.2.2.2.2.2.2.2.2.2.2.2.2.2.2.2.2.2.2.2.2.2.2.2.1, x2.2.2.2.2.2.2.2.2.2.2.2.2.2.2.2.2.2.2.2.2.2.2.2.2.2.2.2.1, x2.2.2.2.2.2.2.2.2.2.2.2.2.2.2.2.2.2.2.2.2.2.2.2.2.2.2.2.2.1, x2.2.2.2.2.2.2.2.2.2.2.2.2.2.2.2.2.2.2.2.2.2.2.2.2.2.2.2.2.2.1, x2.2.2.2.2.2.2.2.2.2.2.2.2.2.2.2.2.2.2.2.2.2.2.2.2.2.2.2.2.2.2.1, x2.2.2.2.2.2.2.2.2.2.2.2.2.2.2.2.2.2.2.2.2.2.2.2.2.2.2.2.2.2.2.2.1, x2.2.2.2.2.2.2.2.2.2.2.2.2.2.2.2.2.2.2.2.2.2.2.2.2.2.2.2.2.2.2.2.2.1, x2.2.2.2.2.2.2.2.2.2.2.2.2.2.2.2.2.2.2.2.2.2.2.2.2.2.2.2.2.2.2.2.2.2)
              else
                Option.bind (f_X4_heightBelow x4.2.2.2.2.2.2.1 x4.2.2.2.2.1) (fun x7 =>
                some (x7, x2.2.1, x2.2.2.1, x2.2.2.2.1, x2.2.2.2.2.1, x4.1, x4.2.1, x4.2.2.1, x4.2.2.2.1, x4.2.2.2.2.1, x4.2.2.2.2.2.1, x4.2.2.2.2.2.2.1, x4.2.2.2.2.2.2.2.1, x4.2.2.2.2.2.2.2.2.1, x4.2.2.2.2.2.2.2.2.2, x2.2.2.2.2.2.2.2.2.2.2.2.2.2.2.2.1, x2.2.2.2.2.2.2.2.2.2.2.2.2.2.2.2.2.1, x2.2.2.2.2.2.2.2.2.2.2.2.2.2.2.2.2.2.1, x2.2.2.2.2.2.2.2.2.2.2.2.2.2.2.2.2.2.2.1, x2.2.2.2.2.2.2.2.2.2.2.2.2.2.2.2.2.2.2.2.1, x2.2.2.2.2.2.2.2.2.2.2.2.2.2.2.2.2.2.2.2.2.1, x2.2.2.2.2.2.2.2.2.2.2.2.2.2.2.2.2.2.2.2.2.2.1, x2.2.2.2.2.2.2.2.2.2.2.2.2.2.2.2.2.2.2.2.2.2.2.1, x2.2.2.2.2.2.2.2.2.2.2.2.2.2.2.2.2.2.2.2.2.2.2.2.1, x2.2.2.2.2.2.2.2.2.2.2.2.2.2.2.2.2.2.2.2.2.2.2.2.2.1, x2.2.2.2.2.2.2.2.2.2.2.2.2.2.2.2.2.2.2.2.2.2.2.2.2.2.1, x2.2.2.2.2.2.2.2.2.2.2.2.2.2.2.2.2.2.2.2.2.2.2.2.2.2.2.1, x2.2.2.2.2.2.2.2.2.2.2.2.2.2.2.2.2.2.2.2.2.2.2.2.2.2.2.2.1, x2.2.2.2.2.2.2.2.2.2.2.2.2.2.2.2.2.2.2.2.2.2.2.2.2.2.2.2.2.1, x2.2.2.2.2.2.2.2.2.2.2.2.2.2.2.2.2.2.2.2.2.2.2.2.2.2.2.2.2.2.1, x2.2.2.2.2.2.2.2.2.2.2.2.2.2.2.2.2.2.2.2.2.2.2.2.2.2.2.2.2.2.2.1, x2.2.2.2.2.2.2.2.2.2.2.2.2.2.2.2.2.2.2.2.2.2.2.2.2.2.2.2.2.2.2.2.1, x2.2.2.2.2.2.2.2.2.2.2.2.2.2.2.2.2.2.2.2.2.2.2.2.2.2.2.2.2.2.2.2.2.1, x2.2.2.2.2.2.2.2.2.2.2.2.2.2.2.2.2.2.2.2.2.2.2.2.2.2.2.2.2.2.2.2.2.2))))
        else
          some (x2.1, x2.2.1, x2.2.2.1, x2.2.2.2.1, x2.2.2.2.2.1, x2.2.2.2.2.2.1, x2.2.2.2.2.2.2.1, x2.2.2.2.2.2.2.2.1, x2.2.2.2.2.2.2.2.2.1, x2.2.2.2.2.2.2.2.2.2.1, x2.2.2.2.2.2.2.2.2.2.2.1, x2.2.2.2.2.2.2.2.2.2.2.2.1, x2.2.2.2.2.2.2.2.2.2.2.2.2.1, x2.2.2.2.2.2.2.2.2.2.2.2.2.2.1, x2.2.2.2.2.2.2.2.2.2.2.2.2.2.2.1, x2.2.2.2.2.2.2.2.2.2.2.2.2.2.2.2.1, x2.2.2.2.2.2.2.2.2.2.2.2.2.2.2.2.2.1, x2.2.2.2.2.2.2.2.2.2.2.2.2.2.2.2.2.2.1, x2.2.2.2.2.2.2.2.2.2.2.2.2.2.2.2.2.2.2.1, x2.2.2.2.2.2.2.2.2.2.2.2.2.2.2.2.2.2.2.2.1, x2.2.2.2.2.2.2.2.2.2.2.2.2.2.2.2.2.2.2.2.2.1, x2.2.2.2.2.2.2.2.2.2.2.2.2.2.2.2.2.2.2.2.2.2.1, x2.2.2.2.2.2.2.2.2.2.2.2.2.2.2.2.2.2.2.2.2.2.2.1, x2.2.2.2.2.2.2.2.2.2.2.2.2.2.2.2.2.2.2.2.2.2.2.2.1, x2.2.2.2.2.2.2.2.2.2.2.2.2.2.2.2.2.2.2.2.2.2.2.2.2.1, x2.2.2.2.2.2.2.2.2.2.2.2.2.2.2.2.2.2.2.2.2.2.2.2.2.2.1, x2.2.2.2.2.2.2.2.2.2.2.2.2.2.2.2.2.2.2.2.2.2.2.2.2.2.2.1, x2.2.2.2.2.2.2.2.2.2.2.2.2.2.2.2.2.2.2.2.2.2.2.2.2.2.2.2.1, x2.2.2.2.2.2.2.2.2.2.2.2.2.2.2.2.2.2.2.2.2.2.2.2.2.2.2.2.2.1, x2.2.2.2.2.2.2.2.2.2.2.2.2.2.2.2.2.2.2.2.2.2.2.2.2.2.2.2.2.2.1, x2.2.2.2.2.2.2.2.2.2.2.2.2.2.2.2.2.2.2.2.2.2.2.2.2.2.2.2.2.2.2.1, x2.2.2.2.2.2.2.2.2.2.2.2.2.2.2.2.2.2.2.2.2.2.2.2.2.2.2.2.2.2.2.2.1, x2.2.2.2.2.2.2.2.2.2.2.2.2.2.2.2.2.2.2.2.2.2.2.2.2.2.2.2.2.2.2.2.2.1, x2.2.2.2.2.2.2.2.2.2.2.2.2.2.2.2.2.2.2.2.2.2.2.2.2.2.2.2.2.2.2.2.2.2))
      else
        some ((-2 : Int32), c_trial_act_kind, c_trial_act_set, c_trial_act_key, c_trial_act_other, c_trial_tb_left, c_trial_tb_right, c_trial_tb_parent, c_trial_tb_span, c_trial_tb_root, c_trial_tb_digest, c_trial_tb_height, c_trial_tb_priority, c_trial_tb_pricedBy, c_trial_tb_open, c_trial_ta_left, c_trial_ta_right, c_trial_ta_parent, c_trial_ta_span, c_trial_ta_root, c_trial_ta_digest, c_trial_ta_height, c_trial_ta_priority, c_trial_ta_pricedBy, c_trial_ta_open, c_trial_after_keys, c_trial_after_seed, c_trial_before_keys, c_trial_before_seed, c_trial_acts, c_trial_whyNot, c_trial_work, c_trial_alikeAct, c_trial_alikePair))

def f_X7_alike (c_now_keys : Nat → Int64) (c_now_seed : Int32) (c_pad_signs : Nat → Int32) (c_pad_count : Int32) (c_trial_act_kind : Int32) (c_trial_act_set : Int32) (c_trial_act_key : Int32) (c_trial_act_other : Int32) (c_trial_tb_left : Nat → Int32) (c_trial_tb_right : Nat → Int32) (c_trial_tb_parent : Nat → Int32) (c_trial_tb_span : Nat → Int64) (c_trial_tb_root : Int32) (c_trial_tb_digest : Nat → Int32) (c_trial_tb_height : Nat → Int32) (c_trial_tb_priority : Nat → Int32) (c_trial_tb_pricedBy : Int32) (c_trial_tb_open : Nat → Int32) (c_trial_ta_left : Nat → Int32) (c_trial_ta_right : Nat → Int32) (c_trial_ta_parent : Nat → Int32) (c_trial_ta_span : Nat → Int64) (c_trial_ta_root : Int32) (c_trial_ta_digest : Nat → Int32) (c_trial_ta_height : Nat → Int32) (c_trial_ta_priority : Nat → Int32) (c_trial_ta_pricedBy : Int32) (c_trial_ta_open : Nat → Int32) (c_trial_after_keys : Nat → Int64) (c_trial_after_seed : Int32) (c_trial_before_keys : Nat → Int64) (c_trial_before_seed : Int32) (c_trial_acts : Int32) (c_trial_whyNot : Int32) (c_trial_work : Int32) (c_trial_alikeAct : Int32) (c_trial_alikePair : Int32) (l1 : Int32) : Option (Int32 × Int32 × Int32 × Int32 × Int32 × (Nat → Int32) × (Nat → Int32) × (Nat → Int32) × (Nat → Int64) × Int32 × (Nat → Int32) × (Nat → Int32) × (Nat → Int32) × Int32 × (Nat → Int32) × (Nat → Int32) × (Nat → Int32) × (Nat → Int32) × (Nat → Int64) × Int32 × (Nat → Int32) × (Nat → Int32) × (Nat → Int32) × Int32 × (Nat → Int32) × (Nat → Int64) × Int32 × (Nat → Int64) × Int32 × Int32 × Int32 × Int32 × Int32 × Int32) :=
  if l1 < (0 : Int32) then
    some ((-2 : Int32), c_trial_act_kind, c_trial_act_set, c_trial_act_key, c_trial_act_other, c_trial_tb_left, c_trial_tb_right, c_trial_tb_parent, c_trial_tb_span, c_trial_tb_root, c_trial_tb_digest, c_trial_tb_height, c_trial_tb_priority, c_trial_tb_pricedBy, c_trial_tb_open, c_trial_ta_left, c_trial_ta_right, c_trial_ta_parent, c_trial_ta_span, c_trial_ta_root, c_trial_ta_digest, c_trial_ta_height, c_trial_ta_priority, c_trial_ta_pricedBy, c_trial_ta_open, c_trial_after_keys, c_trial_after_seed, c_trial_before_keys, c_trial_before_seed, c_trial_acts, c_trial_whyNot, c_trial_work, c_trial_alikeAct, c_trial_alikePair)
  else
    if l1 ≤ (2 : Int32) then
      Option.bind (f_X7_tryActs c_now_keys c_now_seed c_pad_signs c_pad_count c_trial_act_kind c_trial_act_set c_trial_act_key c_trial_act_other c_trial_tb_left c_trial_tb_right c_trial_tb_parent c_trial_tb_span c_trial_tb_root c_trial_tb_digest c_trial_tb_height c_trial_tb_priority c_trial_tb_pricedBy c_trial_tb_open c_trial_ta_left c_trial_ta_right c_trial_ta_parent c_trial_ta_span c_trial_ta_root c_trial_ta_digest c_trial_ta_height c_trial_ta_priority c_trial_ta_pricedBy c_trial_ta_open c_trial_after_keys c_trial_after_seed c_trial_before_keys c_trial_before_seed c_trial_acts c_trial_whyNot c_trial_work c_trial_alikeAct c_trial_alikePair) (fun x1 =>
      if x1.1 = (0 : Int32) then
        if l1 = (0 : Int32) then
          some (x1.2.2.2.2.2.2.2.2.2.2.2.2.2.2.2.2.2.2.2.2.2.2.2.2.2.2.2.2.2.2.2.2.1, x1.2.1, x1.2.2.1, x1.2.2.2.1, x1.2.2.2.2.1, x1.2.2.2.2.2.1, x1.2.2.2.2.2.2.1, x1.2.2.2.2.2.2.2.1, x1.2.2.2.2.2.2.2.2.1, x1.2.2.2.2.2.2.2.2.2.1, x1.2.2.2.2.2.2.2.2.2.2.1, x1.2.2.2.2.2.2.2.2.2.2.2.1, x1.2.2.2.2.2.2.2.2.2.2.2.2.1, x1.2.2.2.2.2.2.2.2.2.2.2.2.2.1, x1.2.2.2.2.2.2.2.2.2.2.2.2.2.2.1, x1.2.2.2.2.2.2.2.2.2.2.2.2.2.2.2.1, x1.2.2.2.2.2.2.2.2.2.2.2.2.2.2.2.2.1, x1.2.2.2.2.2.2.2.2.2.2.2.2.2.2.2.2.2.1, x1.2.2.2.2.2.2.2.2.2.2.2.2.2.2.2.2.2.2.1, x1.2.2.2.2.2.2.2.2.2.2.2.2.2.2.2.2.2.2.2.1, x1.2.2.2.2.2.2.2.2.2.2.2.2.2.2.2.2.2.2.2.2.1, x1.2.2.2.2.2.2.2.2.2.2.2.2.2.2.2.2.2.2.2.2.2.1, x1.2.2.2.2.2.2.2.2.2.2.2.2.2.2.2.2.2.2.2.2.2.2.1, x1.2.2.2.2.2.2.2.2.2.2.2.2.2.2.2.2.2.2.2.2.2.2.2.1, x1.2.2.2.2.2.2.2.2.2.2.2.2.2.2.2.2.2.2.2.2.2.2.2.2.1, x1.2.2.2.2.2.2.2.2.2.2.2.2.2.2.2.2.2.2.2.2.2.2.2.2.2.1, x1.2.2.2.2.2.2.2.2.2.2.2.2.2.2.2.2.2.2.2.2.2.2.2.2.2.2.1, x1.2.2.2.2.2.2.2.2.2.2.2.2.2.2.2.2.2.2.2.2.2.2.2.2.2.2.2.1, x1.2.2.2.2.2.2.2.2.2.2.2.2.2.2.2.2.2.2.2.2.2.2.2.2.2.2.2.2.1, x1.2.2.2.2.2.2.2.2.2.2.2.2.2.2.2.2.2.2.2.2.2.2.2.2.2.2.2.2.2.1, x1.2.2.2.2.2.2.2.2.2.2.2.2.2.2.2.2.2.2.2.2.2.2.2.2.2.2.2.2.2.2.1, x1.2.2.2.2.2.2.2.2.2.2.2.2.2.2.2.2.2.2.2.2.2.2.2.2.2.2.2.2.2.2.2.1, x1.2.2.2.2.2.2.2.2.2.2.2.2.2.2.2.2.2.2.2.2.2.2.2.2.2.2.2.2.2.2.2.2.1, x1.2.2.2.2.2.2.2.2.2.2.2.2.2.2.2.2.2.2.2.2.2.2.2.2.2.2.2.2.2.2.2.2.2)
        else
          if l1 = (1 : Int32) then
            some (x1.2.2.2.2.2.2.2.2.2.2.2.2.2.2.2.2.2.2.2.2.2.2.2.2.2.2.2.2.2.2.2.2.2, x1.2.1, x1.2.2.1, x1.2.2.2.1, x1.2.2.2.2.1, x1.2.2.2.2.2.1, x1.2.2.2.2.2.2.1, x1.2.2.2.2.2.2.2.1, x1.2.2.2.2.2.2.2.2.1, x1.2.2.2.2.2.2.2.2.2.1, x1.2.2.2.2.2.2.2.2.2.2.1, x1.2.2.2.2.2.2.2.2.2.2.2.1, x1.2.2.2.2.2.2.2.2.2.2.2.2.1, x1.2.2.2.2.2.2.2.2.2.2.2.2.2.1, x1.2.2.2.2.2.2.2.2.2.2.2.2.2.2.1, x1.2.2.2.2.2.2.2.2.2.2.2.2.2.2.2.1, x1.2.2.2.2.2.2.2.2.2.2.2.2.2.2.2.2.1, x1.2.2.2.2.2.2.2.2.2.2.2.2.2.2.2.2.2.1, x1.2.2.2.2.2.2.2.2.2.2.2.2.2.2.2.2.2.2.1, x1.2.2.2.2.2.2.2.2.2.2.2.2.2.2.2.2.2.2.2.1, x1.2.2.2.2.2.2.2.2.2.2.2.2.2.2.2.2.2.2.2.2.1, x1.2.2.2.2.2.2.2.2.2.2.2.2.2.2.2.2.2.2.2.2.2.1, x1.2.2.2.2.2.2.2.2.2.2.2.2.2.2.2.2.2.2.2.2.2.2.1, x1.2.2.2.2.2.2.2.2.2.2.2.2.2.2.2.2.2.2.2.2.2.2.2.1, x1.2.2.2.2.2.2.2.2.2.2.2.2.2.2.2.2.2.2.2.2.2.2.2.2.1, x1.2.2.2.2.2.2.2.2.2.2.2.2.2.2.2.2.2.2.2.2.2.2.2.2.2.1, x1.2.2.2.2.2.2.2.2.2.2.2.2.2.2.2.2.2.2.2.2.2.2.2.2.2.2.1, x1.2.2.2.2.2.2.2.2.2.2.2.2.2.2.2.2.2.2.2.2.2.2.2.2.2.2.2.1, x1.2.2.2.2.2.2.2.2.2.2.2.2.2.2.2.2.2.2.2.2.2.2.2.2.2.2.2.2.1, x1.2.2.2.2.2.2.2.2.2.2.2.2.2.2.2.2.2.2.2.2.2.2.2.2.2.2.2.2.2.1, x1.2.2.2.2.2.2.2.2.2.2.2.2.2.2.2.2.2.2.2.2.2.2.2.2.2.2.2.2.2.2.1, x1.2.2.2.2.2.2.2.2.2.2.2.2.2.2.2.2.2.2.2.2.2.2.2.2.2.2.2.2.2.2.2.1, x1.2.2.2.2.2.2.2.2.2.2.2.2.2.2.2.2.2.2.2.2.2.2.2.2.2.2.2.2.2.2.2.2.1, x1.2.2.2.2.2.2.2.2.2.2.2.2.2.2.2.2.2.2.2.2.2.2.2.2.2.2.2.2.2.2.2.2.2)
          else
            some (x1.2.2.2.2.2.2.2.2.2.2.2.2.2.2.2.2.2.2.2.2.2.2.2.2.2.2.1, x1.2.1, x1.2.2.1, x1.2.2.2.1, x1.2.2.2.2.1, x1.2.2.2.2.2.1, x1.2.2.2.2.2.2.1, x1.2.2.2.2.2.2.2.1, x1.2.2.2.2.2.2.2.2.1, x1.2.2.2.2.2.2.2.2.2.1, x1.2.2.2.2.2.2.2.2.2.2.1, x1.2.2.2.2.2.2.2.2.2.2.2.1, x1.2.2.2.2.2.2.2.2.2.2.2.2.1, x1.2.2.2.2.2.2.2.2.2.2.2.2.2.1, x1.2.2.2.2.2.2.2.2.2.2.2.2.2.2.1, x1.2.2.2.2.2.2.2.2.2.2.2.2.2.2.2.1, x1.2.2.2.2.2.2.2.2.2.2.2.2.2.2.2.2.1, x1.2.2.2.2.2.2.2.2.2.2.2.2.2.2.2.2.2.1, x1.2.2.2.2.2.2.2.2.2.2.2.2.2.2.2.2.2.2.1, x1.2.2.2.2.2.2.2.2.2.2.2.2.2.2.2.2.2.2.2.1, x1.2.2.2.2.2.2.2.2.2.2.2.2.2.2.2.2.2.2.2.2.1, x1.2.2.2.2.2.2.2.2.2.2.2.2.2.2.2.2.2.2.2.2.2.1, x1.2.2.2.2.2.2.2.2.2.2.2.2.2.2.2.2.2.2.2.2.2.2.1, x1.2.2.2.2.2.2.2.2.2.2.2.2.2.2.2.2.2.2.2.2.2.2.2.1, x1.2.2.2.2.2.2.2.2.2.2.2.2.2.2.2.2.2.2.2.2.2.2.2.2.1, x1.2.2.2.2.2.2.2.2.2.2.2.2.2.2.2.2.2.2.2.2.2.2.2.2.2.1, x1.2.2.2.2.2.2.2.2.2.2.2.2.2.2.2.2.2.2.2.2.2.2.2.2.2.2.1, x1.2.2.2.2.2.2.2.2.2.2.2.2.2.2.2.2.2.2.2.2.2.2.2.2.2.2.2.1, x1.2.2.2.2.2.2.2.2.2.2.2.2.2.2.2.2.2.2.2.2.2.2.2.2.2.2.2.2.1, x1.2.2.2.2.2.2.2.2.2.2.2.2.2.2.2.2.2.2.2.2.2.2.2.2.2.2.2.2.2.1, x1.2.2.2.2.2.2.2.2.2.2.2.2.2.2.2.2.2.2.2.2.2.2.2.2.2.2.2.2.2.2.1, x1.2.2.2.2.2.2.2.2.2.2.2.2.2.2.2.2.2.2.2.2.2.2.2.2.2.2.2.2.2.2.2.1, x1.2.2.2.2.2.2.2.2.2.2.2.2.2.2.2.2.2.2.2.2.2.2.2.2.2.2.2.2.2.2.2.2.1, x1.2.2.2.2.2.2.2.2.2.2.2.2.2.2.2.2.2.2.2.2.2.2.2.2.2.2.2.2.2.2.2.2.2)
      else
        some (x1.1, x1.2.1, x1.2.2.1, x1.2.2.2.1, x1.2.2.2.2.1, x1.2.2.2.2.2.1, x1.2.2.2.2.2.2.1, x1.2.2.2.2.2.2.2.1, x1.2.2.2.2.2.2.2.2.1, x1.2.2.2.2.2.2.2.2.2.1, x1.2.2.2.2.2.2.2.2.2.2.1, x1.2.2.2.2.2.2.2.2.2.2.2.1, x1.2.2.2.2.2.2.2.2.2.2.2.2.1, x1.2.2.2.2.2.2.2.2.2.2.2.2.2.1, x1.2.2.2.2.2.2.2.2.2.2.2.2.2.2.1, x1.2.2.2.2.2.2.2.2.2.2.2.2.2.2.2.1, x1.2.2.2.2.2.2.2.2.2.2.2.2.2.2.2.2.1, x1.2.2.2.2.2.2.2.2.2.2.2.2.2.2.2.2.2.1, x1.2.2.2.2.2.2.2.2.2.2.2.2.2.2.2.2.2.2.1, x1.2.2.2.2.2.2.2.2.2.2.2.2.2.2.2.2.2.2.2.1, x1.2.2.2.2.2.2.2.2.2.2.2.2.2.2.2.2.2.2.2.2.1, x1.2.2.2.2.2.2.2.2.2.2.2.2.2.2.2.2.2.2.2.2.2.1, x1.2.2.2.2.2.2.2.2.2.2.2.2.2.2.2.2.2.2.2.2.2.2.1, x1.2.2.2.2.2.2.2.2.2.2.2.2.2.2.2.2.2.2.2.2.2.2.2.1, x1.2.2.2.2.2.2.2.2.2.2.2.2.2.2.2.2.2.2.2.2.2.2.2.2.1, x1.2.2.2.2.2.2.2.2.2.2.2.2.2.2.2.2.2.2.2.2.2.2.2.2.2.1, x1.2.2.2.2.2.2.2.2.2.2.2.2.2.2.2.2.2.2.2.2.2.2.2.2.2.2.1, x1.2.2.2.2.2.2.2.2.2.2.2.2.2.2.2.2.2.2.2.2.2.2.2.2.2.2.2.1, x1.2.2.2.2.2.2.2.2.2.2.2.2.2.2.2.2.2.2.2.2.2.2.2.2.2.2.2.2.1, x1.2.2.2.2.2.2.2.2.2.2.2.2.2.2.2.2.2.2.2.2.2.2.2.2.2.2.2.2.2.1, x1.2.2.2.2.2.2.2.2.2.2.2.2.2.2.2.2.2.2.2.2.2.2.2.2.2.2.2.2.2.2.1, x1.2.2.2.2.2.2.2.2.2.2.2.2.2.2.2.2.2.2.2.2.2.2.2.2.2.2.2.2.2.2.2.1, x1.2.2.2.2.2.2.2.2.2.2.2.2.2.2.2.2.2.2.2.2.2.2.2.2.2.2.2.2.2.2.2.2.1, x1.2.2.2.2.2.2.2.2.2.2.2.2.2.2.2.2.2.2.2.2.2.2.2.2.2.2.2.2.2.2.2.2.2))
    else
      some ((-2 : Int32), c_trial_act_kind, c_trial_act_set, c_trial_act_key, c_trial_act_other, c_trial_tb_left, c_trial_tb_right, c_trial_tb_parent, c_trial_tb_span, c_trial_tb_root, c_trial_tb_digest, c_trial_tb_height, c_trial_tb_priority, c_trial_tb_pricedBy, c_trial_tb_open, c_trial_ta_left, c_trial_ta_right, c_trial_ta_parent, c_trial_ta_span, c_trial_ta_root, c_trial_ta_digest, c_trial_ta_height, c_trial_ta_priority, c_trial_ta_pricedBy, c_trial_ta_open, c_trial_after_keys, c_trial_after_seed, c_trial_before_keys, c_trial_before_seed, c_trial_acts, c_trial_whyNot, c_trial_work, c_trial_alikeAct, c_trial_alikePair)

def f_X7_done (c_now_keys : Nat → Int64) (c_now_seed : Int32) (c_pad_signs : Nat → Int32) (c_pad_count : Int32) (c_trial_act_kind : Int32) (c_trial_act_set : Int32) (c_trial_act_key : Int32) (c_trial_act_other : Int32) (c_trial_tb_left : Nat → Int32) (c_trial_tb_right : Nat → Int32) (c_trial_tb_parent : Nat → Int32) (c_trial_tb_span : Nat → Int64) (c_trial_tb_root : Int32) (c_trial_tb_digest : Nat → Int32) (c_trial_tb_height : Nat → Int32) (c_trial_tb_priority : Nat → Int32) (c_trial_tb_pricedBy : Int32) (c_trial_tb_open : Nat → Int32) (c_trial_ta_left : Nat → Int32) (c_trial_ta_right : Nat → Int32) (c_trial_ta_parent : Nat → Int32) (c_trial_ta_span : Nat → Int64) (c_trial_ta_root : Int32) (c_trial_ta_digest : Nat → Int32) (c_trial_ta_height : Nat → Int32) (c_trial_ta_priority : Nat → Int32) (c_trial_ta_pricedBy : Int32) (c_trial_ta_open : Nat → Int32) (c_trial_after_keys : Nat → Int64) (c_trial_after_seed : Int32) (c_trial_before_keys : Nat → Int64) (c_trial_before_seed : Int32) (c_trial_acts : Int32) (c_trial_whyNot : Int32) (c_trial_work : Int32) (c_trial_alikeAct : Int32) (c_trial_alikePair : Int32) : Option (Int32 × (Nat → Int64) × Int32 × Int32 × Int32 × Int32 × Int32 × Int32 × (Nat → Int32) × (Nat → Int32) × (Nat → Int32) × (Nat → Int64) × Int32 × (Nat → Int32) × (Nat → Int32) × (Nat → Int32) × Int32 × (Nat → Int32) × (Nat → Int32) × (Nat → Int32) × (Nat → Int32) × (Nat → Int64) × Int32 × (Nat → Int32) × (Nat → Int32) × (Nat → Int32) × Int32 × (Nat → Int32) × (Nat → Int64) × Int32 × (Nat → Int64) × Int32 × Int32 × Int32 × Int32 × Int32 × Int32) :=
  Option.bind (f_X7_tryActs c_now_keys c_now_seed c_pad_signs c_pad_count c_trial_act_kind c_trial_act_set c_trial_act_key c_trial_act_other c_trial_tb_left c_trial_tb_right c_trial_tb_parent c_trial_tb_span c_trial_tb_root c_trial_tb_digest c_trial_tb_height c_trial_tb_priority c_trial_tb_pricedBy c_trial_tb_open c_trial_ta_left c_trial_ta_right c_trial_ta_parent c_trial_ta_span c_trial_ta_root c_trial_ta_digest c_trial_ta_height c_trial_ta_priority c_trial_ta_pricedBy c_trial_ta_open c_trial_after_keys c_trial_after_seed c_trial_before_keys c_trial_before_seed c_trial_acts c_trial_whyNot c_trial_work c_trial_alikeAct c_trial_alikePair) (fun x1 =>
  if x1.1 = (0 : Int32) then
    Option.bind (f_X6_copy c_now_keys c_now_seed x1.2.2.2.2.2.2.2.2.2.2.2.2.2.2.2.2.2.2.2.2.2.2.2.2.2.1 x1.2.2.2.2.2.2.2.2.2.2.2.2.2.2.2.2.2.2.2.2.2.2.2.2.2.2.1) (fun x2 =>
    Option.bind (f_X2_clear c_pad_count) (fun x3 =>
    some (x1.2.2.2.2.2.2.2.2.2.2.2.2.2.2.2.2.2.2.2.2.2.2.2.2.2.2.2.2.2.1, x2.1, x2.2, x3, x1.2.1, x1.2.2.1, x1.2.2.2.1, x1.2.2.2.2.1, x1.2.2.2.2.2.1, x1.2.2.2.2.2.2.1, x1.2.2.2.2.2.2.2.1, x1.2.2.2.2.2.2.2.2.1, x1.2.2.2.2.2.2.2.2.2.1, x1.2.2.2.2.2.2.2.2.2.2.1, x1.2.2.2.2.2.2.2.2.2.2.2.1, x1.2.2.2.2.2.2.2.2.2.2.2.2.1, x1.2.2.2.2.2.2.2.2.2.2.2.2.2.1, x1.2.2.2.2.2.2.2.2.2.2.2.2.2.2.1, x1.2.2.2.2.2.2.2.2.2.2.2.2.2.2.2.1, x1.2.2.2.2.2.2.2.2.2.2.2.2.2.2.2.2.1, x1.2.2.2.2.2.2.2.2.2.2.2.2.2.2.2.2.2.1, x1.2.2.2.2.2.2.2.2.2.2.2.2.2.2.2.2.2.2.1, x1.2.2.2.2.2.2.2.2.2.2.2.2.2.2.2.2.2.2.2.1, x1.2.2.2.2.2.2.2.2.2.2.2.2.2.2.2.2.2.2.2.2.1, x1.2.2.2.2.2.2.2.2.2.2.2.2.2.2.2.2.2.2.2.2.2.1, x1.2.2.2.2.2.2.2.2.2.2.2.2.2.2.2.2.2.2.2.2.2.2.1, x1.2.2.2.2.2.2.2.2.2.2.2.2.2.2.2.2.2.2.2.2.2.2.2.1, x1.2.2.2.2.2.2.2.2.2.2.2.2.2.2.2.2.2.2.2.2.2.2.2.2.1, x1.2.2.2.2.2.2.2.2.2.2.2.2.2.2.2.2.2.2.2.2.2.2.2.2.2.1, x1.2.2.2.2.2.2.2.2.2.2.2.2.2.2.2.2.2.2.2.2.2.2.2.2.2.2.1, x1.2.2.2.2.2.2.2.2.2.2.2.2.2.2.2.2.2.2.2.2.2.2.2.2.2.2.2.1, x1.2.2.2.2.2.2.2.2.2.2.2.2.2.2.2.2.2.2.2.2.2.2.2.2.2.2.2.2.1, x1.2.2.2.2.2.2.2.2.2.2.2.2.2.2.2.2.2.2.2.2.2.2.2.2.2.2.2.2.2.1, x1.2.2.2.2.2.2.2.2.2.2.2.2.2.2.2.2.2.2.2.2.2.2.2.2.2.2.2.2.2.2.1, x1.2.2.2.2.2.2.2.2.2.2.2.2.2.2.2.2.2.2.2.2.2.2.2.2.2.2.2.2.2.2.2.1, x1.2.2.2.2.2.2.2.2.2.2.2.2.2.2.2.2.2.2.2.2.2.2.2.2.2.2.2.2.2.2.2.2.1, x1.2.2.2.2.2.2.2.2.2.2.2.2.2.2.2.2.2.2.2.2.2.2.2.2.2.2.2.2.2.2.2.2.2)))
  else
    some (x1.1, c_now_keys, c_now_seed, c_pad_count, x1.2.1, x1.2.2.1, x1.2.2.2.1, x1.2.2.2.2.1, x1.2.2.2.2.2.1, x1.2.2.2.2.2.2.1, x1.2.2.2.2.2.2.2.1, x1.2.2.2.2.2.2.2.2.1, x1.2.2.2.2.2.2.2.2.2.1, x1.2.2.2.2.2.2.2.2.2.2.1, x1.2.2.2.2.2.2.2.2.2.2.2.1, x1.2.2.2.2.2.2.2.2.2.2.2.2.1, x1.2.2.2.2.2.2.2.2.2.2.2.2.2.1, x1.2.2.2.2.2.2.2.2.2.2.2.2.2.2.1, x1.2.2.2.2.2.2.2.2.2.2.2.2.2.2.2.1, x1.2.2.2.2.2.2.2.2.2.2.2.2.2.2.2.2.1, x1.2.2.2.2.2.2.2.2.2.2.2.2.2.2.2.2.2.1, x1.2.2.2.2.2.2.2.2.2.2.2.2.2.2.2.2.2.2.1, x1.2.2.2.2.2.2.2.2.2.2.2.2.2.2.2.2.2.2.2.1, x1.2.2.2.2.2.2.2.2.2.2.2.2.2.2.2.2.2.2.2.2.1, x1.2.2.2.2.2.2.2.2.2.2.2.2.2.2.2.2.2.2.2.2.2.1, x1.2.2.2.2.2.2.2.2.2.2.2.2.2.2.2.2.2.2.2.2.2.2.1, x1.2.2.2.2.2.2.2.2.2.2.2.2.2.2.2.2.2.2.2.2.2.2.2.1, x1.2.2.2.2.2.2.2.2.2.2.2.2.2.2.2.2.2.2.2.2.2.2.2.2.1, x1.2.2.2.2.2.2.2.2.2.2.2.2.2.2.2.2.2.2.2.2.2.2.2.2.2.1, x1.2.2.2.2.2.2.2.2.2.2.2.2.2.2.2.2.2.2.2.2.2.2.2.2.2.2.1, x1.2.2.2.2.2.2.2.2.2.2.2.2.2.2.2.2.2.2.2.2.2.2.2.2.2.2.2.1, x1.2.2.2.2.2.2.2.2.2.2.2.2.2.2.2.2.2.2.2.2.2.2.2.2.2.2.2.2.1, x1.2.2.2.2.2.2.2.2.2.2.2.2.2.2.2.2.2.2.2.2.2.2.2.2.2.2.2.2.2.1, x1.2.2.2.2.2.2.2.2.2.2.2.2.2.2.2.2.2.2.2.2.2.2.2.2.2.2.2.2.2.2.1, x1.2.2.2.2.2.2.2.2.2.2.2.2.2.2.2.2.2.2.2.2.2.2.2.2.2.2.2.2.2.2.2.1, x1.2.2.2.2.2.2.2.2.2.2.2.2.2.2.2.2.2.2.2.2.2.2.2.2.2.2.2.2.2.2.2.2.1, x1.2.2.2.2.2.2.2.2.2.2.2.2.2.2.2.2.2.2.2.2.2.2.2.2.2.2.2.2.2.2.2.2.2))

def f_X7_node (c_now_keys : Nat → Int64) (c_now_seed : Int32) (c_trial_tb_left : Nat → Int32) (c_trial_tb_right : Nat → Int32) (c_trial_tb_parent : Nat → Int32) (c_trial_tb_span : Nat → Int64) (c_trial_tb_root : Int32) (c_trial_tb_digest : Nat → Int32) (c_trial_tb_height : Nat → Int32) (c_trial_tb_priority : Nat → Int32) (c_trial_tb_pricedBy : Int32) (c_trial_tb_open : Nat → Int32) (l1 : Int32) (l2 : Int32) (l3 : Int32) : Option (Int32 × (Nat → Int32) × (Nat → Int32) × (Nat → Int32) × (Nat → Int64) × Int32 × (Nat → Int32) × (Nat → Int32) × (Nat → Int32) × Int32 × (Nat → Int32)) :=
  Option.bind (f_X7_isSet l1) (fun x1 =>
  if x1 = (0 : Int32) then
    some ((-1 : Int32), c_trial_tb_left, c_trial_tb_right, c_trial_tb_parent, c_trial_tb_span, c_trial_tb_root, c_trial_tb_digest, c_trial_tb_height, c_trial_tb_priority, c_trial_tb_pricedBy, c_trial_tb_open)
  else
    Option.bind (f_X7_isKey l2) (fun x2 =>
    if x2 = (0 : Int32) then
      some ((-1 : Int32), c_trial_tb_left, c_trial_tb_right, c_trial_tb_parent, c_trial_tb_span, c_trial_tb_root, c_trial_tb_digest, c_trial_tb_height, c_trial_tb_priority, c_trial_tb_pricedBy, c_trial_tb_open)
    else
      if l3 < (0 : Int32) then
        some ((-2 : Int32), c_trial_tb_left, c_trial_tb_right, c_trial_tb_parent, c_trial_tb_span, c_trial_tb_root, c_trial_tb_digest, c_trial_tb_height, c_trial_tb_priority, c_trial_tb_pricedBy, c_trial_tb_open)
      else
        if l3 ≤ (6 : Int32) then
          Option.bind (aget 4 c_now_keys l1) (fun v3 =>
          Option.bind (f_X7_isIn v3 l2) (fun x4 =>
          if x4 = (0 : Int32) then
            some ((-3 : Int32), c_trial_tb_left, c_trial_tb_right, c_trial_tb_parent, c_trial_tb_span, c_trial_tb_root, c_trial_tb_digest, c_trial_tb_height, c_trial_tb_priority, c_trial_tb_pricedBy, c_trial_tb_open)
          else
            Option.bind (aget 4 c_now_keys l1) (fun v5 =>
            Option.bind (f_X4_grow c_trial_tb_left c_trial_tb_right c_trial_tb_parent c_trial_tb_span c_trial_tb_root c_trial_tb_digest c_trial_tb_height c_trial_tb_priority c_trial_tb_pricedBy c_trial_tb_open v5 c_now_seed) (fun x6 =>
            if l3 = (0 : Int32) then
              Option.bind (aget 50 x6.2.2.1 l2) (fun v7 =>
              some (v7, x6.1, x6.2.1, x6.2.2.1, x6.2.2.2.1, x6.2.2.2.2.1, x6.2.2.2.2.2.1, x6.2.2.2.2.2.2.1, x6.2.2.2.2.2.2.2.1, x6.2.2.2.2.2.2.2.2.1, x6.2.2.2.2.2.2.2.2.2))
            else
              if l3 = (1 : Int32) then
                Option.bind (aget 50 x6.1 l2) (fun v8 =>
                some (v8, x6.1, x6.2.1, x6.2.2.1, x6.2.2.2.1, x6.2.2.2.2.1, x6.2.2.2.2.2.1, x6.2.2.2.2.2.2.1, x6.2.2.2.2.2.2.2.1, x6.2.2.2.2.2.2.2.2.1, x6.2.2.2.2.2.2.2.2.2))
              else
                if l3 = (2 : Int32) then
                  Option.bind (aget 50 x6.2.1 l2) (fun v9 =>
                  some (v9, x6.1, x6.2.1, x6.2.2.1, x6.2.2.2.1, x6.2.2.2.2.1, x6.2.2.2.2.2.1, x6.2.2.2.2.2.2.1, x6.2.2.2.2.2.2.2.1, x6.2.2.2.2.2.2.2.2.1, x6.2.2.2.2.2.2.2.2.2))
                else
                  if l3 = (3 : Int32) then
                    Option.bind (f_X4_sizeBelow x6.2.2.2.1 l2) (fun x10 =>
                    some (x10, x6.1, x6.2.1, x6.2.2.1, x6.2.2.2.1, x6.2.2.2.2.1, x6.2.2.2.2.2.1, x6.2.2.2.2.2.2.1, x6.2.2.2.2.2.2.2.1, x6.2.2.2.2.2.2.2.2.1, x6.2.2.2.2.2.2.2.2.2))
                  else
                    if l3 = (4 : Int32) then
                      Option.bind (f_X4_digestBelow x6.2.2.2.2.2.1 l2) (fun x11 =>
                      some (x11, x6.1, x6.2.1, x6.2.2.1, x6.2.2.2.1, x6.2.2.2.2.1, x6.2.2.2.2.2.1, x6.2.2.2.2.2.2.1, x6.2.2.2.2.2.2.2.1, x6.2.2.2.2.2.2.2.2.1, x6.2.2.2.2.2.2.2.2.2))
                    else
                      if l3 = (5 : Int32) then
                        Option.bind (f_X4_depth x6.2.2.2.1 l2) (fun x12 =>
                        some (x12, x6.1, x6.2.1, x6.2.2.1, x6.2.2.2.1, x6.2.2.2.2.1, x6.2.2.2.2.2.1, x6.2.2.2.2.2.2.1, x6.2.2.2.2.2.2.2.1, x6.2.2.2.2.2.2.2.2.1, x6.2.2.2.2.2.2.2.2.2))
                      else
                        Option.bind (f_X7_priority c_now_seed l2) (fun x13 =>
                        some (x13, x6.1, x6.2.1, x6.2.2.1, x6.2.2.2.1, x6.2.2.2.2.1, x6.2.2.2.2.2.1, x6.2.2.2.2.2.2.1, x6.2.2.2.2.2.2.2.1, x6.2.2.2.2.2.2.2.2.1, x6.2.2.2.2.2.2.2.2.2))))))
        else
          some ((-2 : Int32), c_trial_tb_left, c_trial_tb_right, c_trial_tb_parent, c_trial_tb_span, c_trial_tb_root, c_trial_tb_digest, c_trial_tb_height, c_trial_tb_priority, c_trial_tb_pricedBy, c_trial_tb_open)))

def f_X7_place (c_now_keys : Nat → Int64) (l1 : Int32) (l2 : Int32) : Option (Int32) :=
  Option.bind (f_X7_isSet l1) (fun x1 =>
  if x1 = (0 : Int32) then
    some (-1 : Int32)
  else
    Option.bind (f_X7_isKey l2) (fun x2 =>
    if x2 = (0 : Int32) then
      some (-1 : Int32)
    else
      Option.bind (aget 4 c_now_keys l1) (fun v3 =>
      Option.bind (f_X7_less l2) (fun x4 =>
      Option.bind (f_X7_count (v3 &&& x4)) (fun x5 =>
      some x5)))))

def L_X7_pick_5 : Nat → Int64 → Int32 → Int32 → Int32 → Option (Int32)
  | 0, _, _, _, _ => none
  | n + 1, l0, l2, l3, l4 =>
    if (50 : Int32) ≤ l4 then
      some (-6 : Int32)
    else
      Option.bind (f_X7_isIn l0 l4) (fun x1 =>
      if x1 = (0 : Int32) then
        L_X7_pick_5 n l0 l2 l3 (l4 + (1 : Int32))
      else
        if l3 = l2 then
          some l4
        else
          L_X7_pick_5 n l0 l2 (l3 + (1 : Int32)) (l4 + (1 : Int32)))
def f_X7_pick (l0 : Int64) (l2 : Int32) : Option (Int32) :=
  L_X7_pick_5 20000 l0 l2 (0 : Int32) (0 : Int32)

def f_X7_at (c_now_keys : Nat → Int64) (l1 : Int32) (l2 : Int32) : Option (Int32) :=
  Option.bind (f_X7_isSet l1) (fun x1 =>
  if x1 = (0 : Int32) then
    some (-1 : Int32)
  else
    Option.bind (aget 4 c_now_keys l1) (fun v2 =>
    Option.bind (f_X7_pick v2 l2) (fun x3 =>
    some x3)))

def f_X7_looks : Nat → (Nat → Int32) → (Nat → Int32) → (Nat → Int32) → (Nat → Int64) → Int32 → (Nat → Int32) → (Nat → Int32) → (Nat → Int32) → Int32 → (Nat → Int32) → (Nat → Int32) → (Nat → Int32) → (Nat → Int32) → (Nat → Int64) → Int32 → (Nat → Int32) → (Nat → Int32) → (Nat → Int32) → Int32 → (Nat → Int32) → Int64 → Int64 → Int32 → Int32 → Option (Int32 × (Nat → Int32) × (Nat → Int32) × (Nat → Int32) × (Nat → Int64) × Int32 × (Nat → Int32) × (Nat → Int32) × (Nat → Int32) × Int32 × (Nat → Int32) × (Nat → Int32) × (Nat → Int32) × (Nat → Int32) × (Nat → Int64) × Int32 × (Nat → Int32) × (Nat → Int32) × (Nat → Int32) × Int32 × (Nat → Int32))
  | 0, _, _, _, _, _, _, _, _, _, _, _, _, _, _, _, _, _, _, _, _, _, _, _, _ => none
  | n + 1, c_left, c_right, c_parent, c_span, c_root, c_digest, c_height, c_priority, c_pricedBy, c_open, c_r1_left, c_r1_right, c_r1_parent, c_r1_span, c_r1_root, c_r1_digest, c_r1_height, c_r1_priority, c_r1_pricedBy, c_r1_open, l2, l4, l6, l7 =>
    if (lg_cmp l2 (0 : Int64)) = (0 : Int32) then
      some ((1 : Int32), c_left, c_right, c_parent, c_span, c_root, c_digest, c_height, c_priority, c_pricedBy, c_open, c_r1_left, c_r1_right, c_r1_parent, c_r1_span, c_r1_root, c_r1_digest, c_r1_height, c_r1_priority, c_r1_pricedBy, c_r1_open)
    else
      if (lg_cmp l4 (0 : Int64)) = (0 : Int32) then
        some ((1 : Int32), c_left, c_right, c_parent, c_span, c_root, c_digest, c_height, c_priority, c_pricedBy, c_open, c_r1_left, c_r1_right, c_r1_parent, c_r1_span, c_r1_root, c_r1_digest, c_r1_height, c_r1_priority, c_r1_pricedBy, c_r1_open)
      else
        if l7 ≤ (50 : Int32) then
          Option.bind (f_X4_grow c_left c_right c_parent c_span c_root c_digest c_height c_priority c_pricedBy c_open l2 l6) (fun x1 =>
          Option.bind (f_X4_grow c_r1_left c_r1_right c_r1_parent c_r1_span c_r1_root c_r1_digest c_r1_height c_r1_priority c_r1_pricedBy c_r1_open l4 l6) (fun x2 =>
          Option.bind (f_X4_digestBelow x1.2.2.2.2.2.1 x1.2.2.2.2.1) (fun x3 =>
          Option.bind (f_X4_digestBelow x2.2.2.2.2.2.1 x2.2.2.2.2.1) (fun x4 =>
          if x3 = x4 then
            some ((1 : Int32), x1.1, x1.2.1, x1.2.2.1, x1.2.2.2.1, x1.2.2.2.2.1, x1.2.2.2.2.2.1, x1.2.2.2.2.2.2.1, x1.2.2.2.2.2.2.2.1, x1.2.2.2.2.2.2.2.2.1, x1.2.2.2.2.2.2.2.2.2, x2.1, x2.2.1, x2.2.2.1, x2.2.2.2.1, x2.2.2.2.2.1, x2.2.2.2.2.2.1, x2.2.2.2.2.2.2.1, x2.2.2.2.2.2.2.2.1, x2.2.2.2.2.2.2.2.2.1, x2.2.2.2.2.2.2.2.2.2)
          else
            Option.bind (f_X7_ranksAbove l6 x2.2.2.2.2.1 x1.2.2.2.2.1) (fun x5 =>
            Option.bind (
              if x5 = (0 : Int32) then
                some x1.2.2.2.2.1
              else
                some x2.2.2.2.2.1) (fun x6 =>
            Option.bind (f_X7_less x6) (fun x7 =>
            Option.bind (f_X7_bit x6) (fun x8 =>
            Option.bind (f_X7_looks n x1.1 x1.2.1 x1.2.2.1 x1.2.2.2.1 x1.2.2.2.2.1 x1.2.2.2.2.2.1 x1.2.2.2.2.2.2.1 x1.2.2.2.2.2.2.2.1 x1.2.2.2.2.2.2.2.2.1 x1.2.2.2.2.2.2.2.2.2 x2.1 x2.2.1 x2.2.2.1 x2.2.2.2.1 x2.2.2.2.2.1 x2.2.2.2.2.2.1 x2.2.2.2.2.2.2.1 x2.2.2.2.2.2.2.2.1 x2.2.2.2.2.2.2.2.2.1 x2.2.2.2.2.2.2.2.2.2 (l2 &&& x7) (l4 &&& x7) l6 (l7 + (1 : Int32))) (fun x9 =>
            Option.bind (f_X7_looks n x9.2.1 x9.2.2.1 x9.2.2.2.1 x9.2.2.2.2.1 x9.2.2.2.2.2.1 x9.2.2.2.2.2.2.1 x9.2.2.2.2.2.2.2.1 x9.2.2.2.2.2.2.2.2.1 x9.2.2.2.2.2.2.2.2.2.1 x9.2.2.2.2.2.2.2.2.2.2.1 x9.2.2.2.2.2.2.2.2.2.2.2.1 x9.2.2.2.2.2.2.2.2.2.2.2.2.1 x9.2.2.2.2.2.2.2.2.2.2.2.2.2.1 x9.2.2.2.2.2.2.2.2.2.2.2.2.2.2.1 x9.2.2.2.2.2.2.2.2.2.2.2.2.2.2.2.1 x9.2.2.2.2.2.2.2.2.2.2.2.2.2.2.2.2.1 x9.2.2.2.2.2.2.2.2.2.2.2.2.2.2.2.2.2.1 x9.2.2.2.2.2.2.2.2.2.2.2.2.2.2.2.2.2.2.1 x9.2.2.2.2.2.2.2.2.2.2.2.2.2.2.2.2.2.2.2.1 x9.2.2.2.2.2.2.2.2.2.2.2.2.2.2.2.2.2.2.2.2 (l2 &&& ((x7 ||| x8) ^^^ (-1 : Int64))) (l4 &&& ((x7 ||| x8) ^^^ (-1 : Int64))) l6 (l7 + (1 : Int32))) (fun x10 =>
            some ((((1 : Int32) + x9.1) + x10.1), x10.2.1, x10.2.2.1, x10.2.2.2.1, x10.2.2.2.2.1, x10.2.2.2.2.2.1, x10.2.2.2.2.2.2.1, x10.2.2.2.2.2.2.2.1, x10.2.2.2.2.2.2.2.2.1, x10.2.2.2.2.2.2.2.2.2.1, x10.2.2.2.2.2.2.2.2.2.2.1, x10.2.2.2.2.2.2.2.2.2.2.2.1, x10.2.2.2.2.2.2.2.2.2.2.2.2.1, x10.2.2.2.2.2.2.2.2.2.2.2.2.2.1, x10.2.2.2.2.2.2.2.2.2.2.2.2.2.2.1, x10.2.2.2.2.2.2.2.2.2.2.2.2.2.2.2.1, x10.2.2.2.2.2.2.2.2.2.2.2.2.2.2.2.2.1, x10.2.2.2.2.2.2.2.2.2.2.2.2.2.2.2.2.2.1, x10.2.2.2.2.2.2.2.2.2.2.2.2.2.2.2.2.2.2.1, x10.2.2.2.2.2.2.2.2.2.2.2.2.2.2.2.2.2.2.2.1, x10.2.2.2.2.2.2.2.2.2.2.2.2.2.2.2.2.2.2.2.2)))))))))))
        else
          some ((1 : Int32), c_left, c_right, c_parent, c_span, c_root, c_digest, c_height, c_priority, c_pricedBy, c_open, c_r1_left, c_r1_right, c_r1_parent, c_r1_span, c_r1_root, c_r1_digest, c_r1_height, c_r1_priority, c_r1_pricedBy, c_r1_open)

def L_X7_shared_36 : Nat → (Nat → Int64) → (Nat → Int64) → Int64 → Int64 → Int32 → Int32 → Option (Int32)
  | 0, _, _, _, _, _, _ => none
  | n + 1, c_trial_tb_span, c_trial_ta_span, l1, l3, l5, l6 =>
    if (50 : Int32) ≤ l6 then
      some l5
    else
      Option.bind (f_X7_isIn (l1 &&& l3) l6) (fun x1 =>
      if x1 = (0 : Int32) then
        L_X7_shared_36 n c_trial_tb_span c_trial_ta_span l1 l3 l5 (l6 + (1 : Int32))
      else
        Option.bind (aget 50 c_trial_tb_span l6) (fun v2 =>
        Option.bind (aget 50 c_trial_ta_span l6) (fun v3 =>
        if (lg_cmp v2 v3) = (0 : Int32) then
          L_X7_shared_36 n c_trial_tb_span c_trial_ta_span l1 l3 (l5 + (1 : Int32)) (l6 + (1 : Int32))
        else
          L_X7_shared_36 n c_trial_tb_span c_trial_ta_span l1 l3 l5 (l6 + (1 : Int32)))))
def f_X7_shared (c_now_seed : Int32) (c_trial_tb_left : Nat → Int32) (c_trial_tb_right : Nat → Int32) (c_trial_tb_parent : Nat → Int32) (c_trial_tb_span : Nat → Int64) (c_trial_tb_root : Int32) (c_trial_tb_digest : Nat → Int32) (c_trial_tb_height : Nat → Int32) (c_trial_tb_priority : Nat → Int32) (c_trial_tb_pricedBy : Int32) (c_trial_tb_open : Nat → Int32) (c_trial_ta_left : Nat → Int32) (c_trial_ta_right : Nat → Int32) (c_trial_ta_parent : Nat → Int32) (c_trial_ta_span : Nat → Int64) (c_trial_ta_root : Int32) (c_trial_ta_digest : Nat → Int32) (c_trial_ta_height : Nat → Int32) (c_trial_ta_priority : Nat → Int32) (c_trial_ta_pricedBy : Int32) (c_trial_ta_open : Nat → Int32) (l1 : Int64) (l3 : Int64) : Option (Int32 × (Nat → Int32) × (Nat → Int32) × (Nat → Int32) × (Nat → Int64) × Int32 × (Nat → Int32) × (Nat → Int32) × (Nat → Int32) × Int32 × (Nat → Int32) × (Nat → Int32) × (Nat → Int32) × (Nat → Int32) × (Nat → Int64) × Int32 × (Nat → Int32) × (Nat → Int32) × (Nat → Int32) × Int32 × (Nat → Int32)) :=
  Option.bind (f_X4_grow c_trial_tb_left c_trial_tb_right c_trial_tb_parent c_trial_tb_span c_trial_tb_root c_trial_tb_digest c_trial_tb_height c_trial_tb_priority c_trial_tb_pricedBy c_trial_tb_open l1 c_now_seed) (fun x1 =>
  Option.bind (f_X4_grow c_trial_ta_left c_trial_ta_right c_trial_ta_parent c_trial_ta_span c_trial_ta_root c_trial_ta_digest c_trial_ta_height c_trial_ta_priority c_trial_ta_pricedBy c_trial_ta_open l3 c_now_seed) (fun x2 =>
  Option.bind (L_X7_shared_36 20000 x1.2.2.2.1 x2.2.2.2.1 l1 l3 (0 : Int32) (0 : Int32)) (fun x3 =>
  some (x3, x1.1, x1.2.1, x1.2.2.1, x1.2.2.2.1, x1.2.2.2.2.1, x1.2.2.2.2.2.1, x1.2.2.2.2.2.2.1, x1.2.2.2.2.2.2.2.1, x1.2.2.2.2.2.2.2.2.1, x1.2.2.2.2.2.2.2.2.2, x2.1, x2.2.1, x2.2.2.1, x2.2.2.2.1, x2.2.2.2.2.1, x2.2.2.2.2.2.1, x2.2.2.2.2.2.2.1, x2.2.2.2.2.2.2.2.1, x2.2.2.2.2.2.2.2.2.1, x2.2.2.2.2.2.2.2.2.2))))

def f_X7_apart (c_now_keys : Nat → Int64) (c_now_seed : Int32) (c_trial_tb_left : Nat → Int32) (c_trial_tb_right : Nat → Int32) (c_trial_tb_parent : Nat → Int32) (c_trial_tb_span : Nat → Int64) (c_trial_tb_root : Int32) (c_trial_tb_digest : Nat → Int32) (c_trial_tb_height : Nat → Int32) (c_trial_tb_priority : Nat → Int32) (c_trial_tb_pricedBy : Int32) (c_trial_tb_open : Nat → Int32) (c_trial_ta_left : Nat → Int32) (c_trial_ta_right : Nat → Int32) (c_trial_ta_parent : Nat → Int32) (c_trial_ta_span : Nat → Int64) (c_trial_ta_root : Int32) (c_trial_ta_digest : Nat → Int32) (c_trial_ta_height : Nat → Int32) (c_trial_ta_priority : Nat → Int32) (c_trial_ta_pricedBy : Int32) (c_trial_ta_open : Nat → Int32) (l1 : Int32) (l2 : Int32) (l3 : Int32) : Option (Int32 × (Nat → Int32) × (Nat → Int32) × (Nat → Int32) × (Nat → Int64) × Int32 × (Nat → Int32) × (Nat → Int32) × (Nat → Int32) × Int32 × (Nat → Int32) × (Nat → Int32) × (Nat → Int32) × (Nat → Int32) × (Nat → Int64) × Int32 × (Nat → Int32) × (Nat → Int32) × (Nat → Int32) × Int32 × (Nat → Int32)) :=
  Option.bind (f_X7_isSet l1) (fun x1 =>
  if x1 = (0 : Int32) then
    some ((-1 : Int32), c_trial_tb_left, c_trial_tb_right, c_trial_tb_parent, c_trial_tb_span, c_trial_tb_root, c_trial_tb_digest, c_trial_tb_height, c_trial_tb_priority, c_trial_tb_pricedBy, c_trial_tb_open, c_trial_ta_left, c_trial_ta_right, c_trial_ta_parent, c_trial_ta_span, c_trial_ta_root, c_trial_ta_digest, c_trial_ta_height, c_trial_ta_priority, c_trial_ta_pricedBy, c_trial_ta_open)
  else
    Option.bind (f_X7_isSet l2) (fun x2 =>
    if x2 = (0 : Int32) then
      some ((-1 : Int32), c_trial_tb_left, c_trial_tb_right, c_trial_tb_parent, c_trial_tb_span, c_trial_tb_root, c_trial_tb_digest, c_trial_tb_height, c_trial_tb_priority, c_trial_tb_pricedBy, c_trial_tb_open, c_trial_ta_left, c_trial_ta_right, c_trial_ta_parent, c_trial_ta_span, c_trial_ta_root, c_trial_ta_digest, c_trial_ta_height, c_trial_ta_priority, c_trial_ta_pricedBy, c_trial_ta_open)
    else
      if l3 < (0 : Int32) then
        some ((-2 : Int32), c_trial_tb_left, c_trial_tb_right, c_trial_tb_parent, c_trial_tb_span, c_trial_tb_root, c_trial_tb_digest, c_trial_tb_height, c_trial_tb_priority, c_trial_tb_pricedBy, c_trial_tb_open, c_trial_ta_left, c_trial_ta_right, c_trial_ta_parent, c_trial_ta_span, c_trial_ta_root, c_trial_ta_digest, c_trial_ta_height, c_trial_ta_priority, c_trial_ta_pricedBy, c_trial_ta_open)
      else
        if l3 ≤ (2 : Int32) then
          Option.bind (aget 4 c_now_keys l1) (fun v3 =>
          Option.bind (aget 4 c_now_keys l2) (fun v4 =>
          if l3 = (0 : Int32) then
            Option.bind (f_X7_count (v3 ^^^ v4)) (fun x5 =>
            some (x5, c_trial_tb_left, c_trial_tb_right, c_trial_tb_parent, c_trial_tb_span, c_trial_tb_root, c_trial_tb_digest, c_trial_tb_height, c_trial_tb_priority, c_trial_tb_pricedBy, c_trial_tb_open, c_trial_ta_left, c_trial_ta_right, c_trial_ta_parent, c_trial_ta_span, c_trial_ta_root, c_trial_ta_digest, c_trial_ta_height, c_trial_ta_priority, c_trial_ta_pricedBy, c_trial_ta_open))
          else
            if l3 = (1 : Int32) then
              Option.bind (f_X7_looks 60 c_trial_tb_left c_trial_tb_right c_trial_tb_parent c_trial_tb_span c_trial_tb_root c_trial_tb_digest c_trial_tb_height c_trial_tb_priority c_trial_tb_pricedBy c_trial_tb_open c_trial_ta_left c_trial_ta_right c_trial_ta_parent c_trial_ta_span c_trial_ta_root c_trial_ta_digest c_trial_ta_height c_trial_ta_priority c_trial_ta_pricedBy c_trial_ta_open v3 v4 c_now_seed (0 : Int32)) (fun x6 =>
              some (x6.1, x6.2.1, x6.2.2.1, x6.2.2.2.1, x6.2.2.2.2.1, x6.2.2.2.2.2.1, x6.2.2.2.2.2.2.1, x6.2.2.2.2.2.2.2.1, x6.2.2.2.2.2.2.2.2.1, x6.2.2.2.2.2.2.2.2.2.1, x6.2.2.2.2.2.2.2.2.2.2.1, x6.2.2.2.2.2.2.2.2.2.2.2.1, x6.2.2.2.2.2.2.2.2.2.2.2.2.1, x6.2.2.2.2.2.2.2.2.2.2.2.2.2.1, x6.2.2.2.2.2.2.2.2.2.2.2.2.2.2.1, x6.2.2.2.2.2.2.2.2.2.2.2.2.2.2.2.1, x6.2.2.2.2.2.2.2.2.2.2.2.2.2.2.2.2.1, x6.2.2.2.2.2.2.2.2.2.2.2.2.2.2.2.2.2.1, x6.2.2.2.2.2.2.2.2.2.2.2.2.2.2.2.2.2.2.1, x6.2.2.2.2.2.2.2.2.2.2.2.2.2.2.2.2.2.2.2.1, x6.2.2.2.2.2.2.2.2.2.2.2.2.2.2.2.2.2.2.2.2))
            else
              Option.bind (f_X7_shared c_now_seed c_trial_tb_left c_trial_tb_right c_trial_tb_parent c_trial_tb_span c_trial_tb_root c_trial_tb_digest c_trial_tb_height c_trial_tb_priority c_trial_tb_pricedBy c_trial_tb_open c_trial_ta_left c_trial_ta_right c_trial_ta_parent c_trial_ta_span c_trial_ta_root c_trial_ta_digest c_trial_ta_height c_trial_ta_priority c_trial_ta_pricedBy c_trial_ta_open v3 v4) (fun x7 =>
              some (x7.1, x7.2.1, x7.2.2.1, x7.2.2.2.1, x7.2.2.2.2.1, x7.2.2.2.2.2.1, x7.2.2.2.2.2.2.1, x7.2.2.2.2.2.2.2.1, x7.2.2.2.2.2.2.2.2.1, x7.2.2.2.2.2.2.2.2.2.1, x7.2.2.2.2.2.2.2.2.2.2.1, x7.2.2.2.2.2.2.2.2.2.2.2.1, x7.2.2.2.2.2.2.2.2.2.2.2.2.1, x7.2.2.2.2.2.2.2.2.2.2.2.2.2.1, x7.2.2.2.2.2.2.2.2.2.2.2.2.2.2.1, x7.2.2.2.2.2.2.2.2.2.2.2.2.2.2.2.1, x7.2.2.2.2.2.2.2.2.2.2.2.2.2.2.2.2.1, x7.2.2.2.2.2.2.2.2.2.2.2.2.2.2.2.2.2.1, x7.2.2.2.2.2.2.2.2.2.2.2.2.2.2.2.2.2.2.1, x7.2.2.2.2.2.2.2.2.2.2.2.2.2.2.2.2.2.2.2.1, x7.2.2.2.2.2.2.2.2.2.2.2.2.2.2.2.2.2.2.2.2))))
        else
          some ((-2 : Int32), c_trial_tb_left, c_trial_tb_right, c_trial_tb_parent, c_trial_tb_span, c_trial_tb_root, c_trial_tb_digest, c_trial_tb_height, c_trial_tb_priority, c_trial_tb_pricedBy, c_trial_tb_open, c_trial_ta_left, c_trial_ta_right, c_trial_ta_parent, c_trial_ta_span, c_trial_ta_root, c_trial_ta_digest, c_trial_ta_height, c_trial_ta_priority, c_trial_ta_pricedBy, c_trial_ta_open)))

def f_X7_differs (c_now_keys : Nat → Int64) (l1 : Int32) (l2 : Int32) (l3 : Int32) : Option (Int32) :=
  Option.bind (f_X7_isSet l1) (fun x1 =>
  if x1 = (0 : Int32) then
    some (-1 : Int32)
  else
    Option.bind (f_X7_isSet l2) (fun x2 =>
    if x2 = (0 : Int32) then
      some (-1 : Int32)
    else
      Option.bind (aget 4 c_now_keys l1) (fun v3 =>
      Option.bind (aget 4 c_now_keys l2) (fun v4 =>
      Option.bind (f_X7_pick (v3 ^^^ v4) l3) (fun x5 =>
      some x5)))))

def f_X7_above (c_sights_count : Int32) (c_sights_seeds : Nat → Int64) (l1 : Int32) (l2 : Int32) : Option (Int32 × Int32 × (Nat → Int64)) :=
  Option.bind (f_X7_isKey l1) (fun x1 =>
  if x1 = (0 : Int32) then
    some ((-1 : Int32), c_sights_count, c_sights_seeds)
  else
    Option.bind (f_X7_isKey l2) (fun x2 =>
    if x2 = (0 : Int32) then
      some ((-1 : Int32), c_sights_count, c_sights_seeds)
    else
      if l1 = l2 then
        some ((-2 : Int32), c_sights_count, c_sights_seeds)
      else
        Option.bind (f_X3_add c_sights_count c_sights_seeds l1 l2) (fun x3 =>
        if x3.1 = (0 : Int32) then
          some ((-4 : Int32), x3.2.1, x3.2.2)
        else
          some (x3.2.1, x3.2.1, x3.2.2))))

def f_X7_forget (c_sights_count : Int32) (c_sights_seeds : Nat → Int64) : Option (Int32 × Int32 × (Nat → Int64)) :=
  Option.bind (f_X3_clear c_sights_count c_sights_seeds) (fun x1 =>
  some (c_sights_count, x1.1, x1.2))

def f_X7_seeds (c_sights_seeds : Nat → Int64) (l1 : Int32) : Option (Int32) :=
  if l1 = (-1 : Int32) then
    Option.bind (f_X3_countSeeds c_sights_seeds) (fun x2 =>
    some x2)
  else
    Option.bind (f_X3_pickSeed c_sights_seeds l1) (fun x1 =>
    some x1)

def L_X7_orders_39 : Nat → Int32 → Int64 → Int32 → Option (Int64)
  | 0, _, _, _ => none
  | n + 1, l2, l3, l5 =>
    if l2 < l5 then
      some l3
    else
      L_X7_orders_39 n l2 (l3 * l5.toInt64) (l5 + (1 : Int32))
def L_X7_orders_83 : Nat → (Nat → Int64) → Int64 → Int32 → Option (Int64)
  | 0, _, _, _ => none
  | n + 1, c_trial_tb_span, l3, l5 =>
    if (50 : Int32) ≤ l5 then
      some l3
    else
      Option.bind (aget 50 c_trial_tb_span l5) (fun v1 =>
      Option.bind (f_X7_count v1) (fun x2 =>
      if x2 ≤ (1 : Int32) then
        L_X7_orders_83 n c_trial_tb_span l3 (l5 + (1 : Int32))
      else
        Option.bind (jdivL l3 x2.toInt64) (fun v3 =>
        L_X7_orders_83 n c_trial_tb_span v3 (l5 + (1 : Int32)))))
def f_X7_orders (c_now_keys : Nat → Int64) (c_now_seed : Int32) (c_trial_tb_left : Nat → Int32) (c_trial_tb_right : Nat → Int32) (c_trial_tb_parent : Nat → Int32) (c_trial_tb_span : Nat → Int64) (c_trial_tb_root : Int32) (c_trial_tb_digest : Nat → Int32) (c_trial_tb_height : Nat → Int32) (c_trial_tb_priority : Nat → Int32) (c_trial_tb_pricedBy : Int32) (c_trial_tb_open : Nat → Int32) (l1 : Int32) : Option (Int64 × (Nat → Int32) × (Nat → Int32) × (Nat → Int32) × (Nat → Int64) × Int32 × (Nat → Int32) × (Nat → Int32) × (Nat → Int32) × Int32 × (Nat → Int32)) :=
  Option.bind (f_X7_isSet l1) (fun x1 =>
  if x1 = (0 : Int32) then
    some ((-1 : Int64), c_trial_tb_left, c_trial_tb_right, c_trial_tb_parent, c_trial_tb_span, c_trial_tb_root, c_trial_tb_digest, c_trial_tb_height, c_trial_tb_priority, c_trial_tb_pricedBy, c_trial_tb_open)
  else
    Option.bind (aget 4 c_now_keys l1) (fun v2 =>
    Option.bind (f_X7_count v2) (fun x3 =>
    if x3 ≤ (20 : Int32) then
      Option.bind (L_X7_orders_39 20000 x3 (1 : Int64) (2 : Int32)) (fun x4 =>
      Option.bind (aget 4 c_now_keys l1) (fun v5 =>
      Option.bind (f_X4_grow c_trial_tb_left c_trial_tb_right c_trial_tb_parent c_trial_tb_span c_trial_tb_root c_trial_tb_digest c_trial_tb_height c_trial_tb_priority c_trial_tb_pricedBy c_trial_tb_open v5 c_now_seed) (fun x6 =>
      Option.bind (L_X7_orders_83 20000 x6.2.2.2.1 x4 (0 : Int32)) (fun x7 =>
      some (x7, x6.1, x6.2.1, x6.2.2.1, x6.2.2.2.1, x6.2.2.2.2.1, x6.2.2.2.2.2.1, x6.2.2.2.2.2.2.1, x6.2.2.2.2.2.2.2.1, x6.2.2.2.2.2.2.2.2.1, x6.2.2.2.2.2.2.2.2.2)))))
    else
      some ((-3 : Int64), c_trial_tb_left, c_trial_tb_right, c_trial_tb_parent, c_trial_tb_span, c_trial_tb_root, c_trial_tb_digest, c_trial_tb_height, c_trial_tb_priority, c_trial_tb_pricedBy, c_trial_tb_open))))

def L_X7_shapes_19 : Nat → Int32 → Int64 → Int32 → Option (Int64)
  | 0, _, _, _ => none
  | n + 1, l1, l2, l4 =>
    if l1 < l4 then
      some l2
    else
      Option.bind (jdivL (l2 * (((4 : Int32) * l4) - (2 : Int32)).toInt64) ((l4 + (1 : Int32)).toInt64)) (fun v1 =>
      L_X7_shapes_19 n l1 v1 (l4 + (1 : Int32)))
def f_X7_shapes (l1 : Int32) : Option (Int64) :=
  if l1 < (0 : Int32) then
    some (-2 : Int64)
  else
    if l1 ≤ (30 : Int32) then
      Option.bind (L_X7_shapes_19 20000 l1 (1 : Int64) (1 : Int32)) (fun x1 =>
      some x1)
    else
      some (-2 : Int64)

def L_X7_greatestDivisor_3 : Nat → Int64 → Int64 → Int32 → Option (Int64)
  | 0, _, _, _ => none
  | n + 1, l0, l2, l4 =>
    if (100 : Int32) ≤ l4 then
      some l0
    else
      if (lg_cmp l2 (0 : Int64)) = (0 : Int32) then
        some l0
      else
        Option.bind (jremL l0 l2) (fun v1 =>
        L_X7_greatestDivisor_3 n l2 v1 (l4 + (1 : Int32)))
def f_X7_greatestDivisor (l0 : Int64) (l2 : Int64) : Option (Int64) :=
  Option.bind (L_X7_greatestDivisor_3 20000 l0 l2 (0 : Int32)) (fun x1 =>
  some x1)

def L_X7_deep_39 : Nat → Int32 → Int32 → Int64 → Int32 → Option (Int64)
  | 0, _, _, _, _ => none
  | n + 1, l1, l2, l4, l6 =>
    if l1 ≤ l6 then
      some l4
    else
      if l6 = l2 then
        L_X7_deep_39 n l1 l2 l4 (l6 + (1 : Int32))
      else
        Option.bind (jdivL (232792560 : Int64) (((if (0 : Int32) ≤ (l6 - l2) then (l6 - l2) else (0 : Int32) - (l6 - l2)) + (1 : Int32)).toInt64)) (fun v1 =>
        L_X7_deep_39 n l1 l2 (l4 + v1) (l6 + (1 : Int32)))
def f_X7_deep (l1 : Int32) (l2 : Int32) (l3 : Int32) : Option (Int64) :=
  if l1 < (1 : Int32) then
    some (-1000000000000000002 : Int64)
  else
    if (20 : Int32) < l1 then
      some (-1000000000000000002 : Int64)
    else
      if l2 < (0 : Int32) then
        some (-1000000000000000002 : Int64)
      else
        if l1 ≤ l2 then
          some (-1000000000000000002 : Int64)
        else
          if l3 < (0 : Int32) then
            some (-1000000000000000002 : Int64)
          else
            if l3 ≤ (1 : Int32) then
              Option.bind (L_X7_deep_39 20000 l1 l2 (0 : Int64) (0 : Int32)) (fun x1 =>
              Option.bind (f_X7_greatestDivisor (232792560 : Int64) x1) (fun x2 =>
              if l3 = (0 : Int32) then
                Option.bind (jdivL x1 (if x2 < (1 : Int64) then (1 : Int64) else x2)) (fun v4 =>
                some v4)
              else
                Option.bind (jdivL (232792560 : Int64) (if x2 < (1 : Int64) then (1 : Int64) else x2)) (fun v3 =>
                some v3)))
            else
              some (-1000000000000000002 : Int64)

def f_X7_digest (c_trial_tb_left : Nat → Int32) (c_trial_tb_right : Nat → Int32) (c_trial_tb_parent : Nat → Int32) (c_trial_tb_span : Nat → Int64) (c_trial_tb_root : Int32) (c_trial_tb_digest : Nat → Int32) (c_trial_tb_height : Nat → Int32) (c_trial_tb_priority : Nat → Int32) (c_trial_tb_pricedBy : Int32) (c_trial_tb_open : Nat → Int32) (l1 : Int64) (l3 : Int32) : Option (Int32 × (Nat → Int32) × (Nat → Int32) × (Nat → Int32) × (Nat → Int64) × Int32 × (Nat → Int32) × (Nat → Int32) × (Nat → Int32) × Int32 × (Nat → Int32)) :=
  Option.bind (f_X4_grow c_trial_tb_left c_trial_tb_right c_trial_tb_parent c_trial_tb_span c_trial_tb_root c_trial_tb_digest c_trial_tb_height c_trial_tb_priority c_trial_tb_pricedBy c_trial_tb_open l1 l3) (fun x1 =>
  Option.bind (f_X4_digestBelow x1.2.2.2.2.2.1 x1.2.2.2.2.1) (fun x2 =>
  some (x2, x1.1, x1.2.1, x1.2.2.1, x1.2.2.2.1, x1.2.2.2.2.1, x1.2.2.2.2.2.1, x1.2.2.2.2.2.2.1, x1.2.2.2.2.2.2.2.1, x1.2.2.2.2.2.2.2.2.1, x1.2.2.2.2.2.2.2.2.2)))

def L_X7_run_47 : Nat → (Nat → Int64) → Int32 → Int32 → Int32 → Int32 → Int32 → Int32 → Int32 → Int32 → Option ((Nat → Int64) × Int32 × Int32 × Int32 × Int32 × Int32)
  | 0, _, _, _, _, _, _, _, _, _ => none
  | n + 1, c_drawn_keys, c_drawn_seed, c_trial_act_kind, c_trial_act_set, c_trial_act_key, c_trial_act_other, l2, l4, l5 =>
    if l2 ≤ l5 then
      some (c_drawn_keys, c_drawn_seed, c_trial_act_kind, c_trial_act_set, c_trial_act_key, c_trial_act_other)
    else
      Option.bind (f_X0_draw c_trial_act_kind c_trial_act_set c_trial_act_key c_trial_act_other ((((75 : Int32) * l4) + (74 : Int32)) - (((75 : Int32) * l4) + (74 : Int32)) / (65537 : Int32) * (65537 : Int32))) (fun x1 =>
      Option.bind (f_X6_whyNot c_drawn_keys c_drawn_seed x1.1 x1.2.1 x1.2.2.1 x1.2.2.2) (fun x2 =>
      if x2 = (0 : Int32) then
        Option.bind (f_X6_play c_drawn_keys c_drawn_seed x1.1 x1.2.1 x1.2.2.1 x1.2.2.2) (fun x3 =>
        L_X7_run_47 n x3.1 x3.2 x1.1 x1.2.1 x1.2.2.1 x1.2.2.2 l2 ((((75 : Int32) * l4) + (74 : Int32)) - (((75 : Int32) * l4) + (74 : Int32)) / (65537 : Int32) * (65537 : Int32)) (l5 + (1 : Int32)))
      else
        L_X7_run_47 n c_drawn_keys c_drawn_seed x1.1 x1.2.1 x1.2.2.1 x1.2.2.2 l2 ((((75 : Int32) * l4) + (74 : Int32)) - (((75 : Int32) * l4) + (74 : Int32)) / (65537 : Int32) * (65537 : Int32)) (l5 + (1 : Int32))))
def f_X7_run (c_now_keys : Nat → Int64) (c_now_seed : Int32) (c_drawn_keys : Nat → Int64) (c_drawn_seed : Int32) (c_trial_act_kind : Int32) (c_trial_act_set : Int32) (c_trial_act_key : Int32) (c_trial_act_other : Int32) (c_trial_tb_left : Nat → Int32) (c_trial_tb_right : Nat → Int32) (c_trial_tb_parent : Nat → Int32) (c_trial_tb_span : Nat → Int64) (c_trial_tb_root : Int32) (c_trial_tb_digest : Nat → Int32) (c_trial_tb_height : Nat → Int32) (c_trial_tb_priority : Nat → Int32) (c_trial_tb_pricedBy : Int32) (c_trial_tb_open : Nat → Int32) (l1 : Int32) (l2 : Int32) (l3 : Int32) : Option (Int32 × (Nat → Int64) × Int32 × Int32 × Int32 × Int32 × Int32 × (Nat → Int32) × (Nat → Int32) × (Nat → Int32) × (Nat → Int64) × Int32 × (Nat → Int32) × (Nat → Int32) × (Nat → Int32) × Int32 × (Nat → Int32)) :=
  Option.bind (f_X7_isSeed l1) (fun x1 =>
  if x1 = (0 : Int32) then
    some ((-2 : Int32), c_drawn_keys, c_drawn_seed, c_trial_act_kind, c_trial_act_set, c_trial_act_key, c_trial_act_other, c_trial_tb_left, c_trial_tb_right, c_trial_tb_parent, c_trial_tb_span, c_trial_tb_root, c_trial_tb_digest, c_trial_tb_height, c_trial_tb_priority, c_trial_tb_pricedBy, c_trial_tb_open)
  else
    if l2 < (1 : Int32) then
      some ((-2 : Int32), c_drawn_keys, c_drawn_seed, c_trial_act_kind, c_trial_act_set, c_trial_act_key, c_trial_act_other, c_trial_tb_left, c_trial_tb_right, c_trial_tb_parent, c_trial_tb_span, c_trial_tb_root, c_trial_tb_digest, c_trial_tb_height, c_trial_tb_priority, c_trial_tb_pricedBy, c_trial_tb_open)
    else
      if (99 : Int32) < l2 then
        some ((-2 : Int32), c_drawn_keys, c_drawn_seed, c_trial_act_kind, c_trial_act_set, c_trial_act_key, c_trial_act_other, c_trial_tb_left, c_trial_tb_right, c_trial_tb_parent, c_trial_tb_span, c_trial_tb_root, c_trial_tb_digest, c_trial_tb_height, c_trial_tb_priority, c_trial_tb_pricedBy, c_trial_tb_open)
      else
        if l3 < (0 : Int32) then
          some ((-2 : Int32), c_drawn_keys, c_drawn_seed, c_trial_act_kind, c_trial_act_set, c_trial_act_key, c_trial_act_other, c_trial_tb_left, c_trial_tb_right, c_trial_tb_parent, c_trial_tb_span, c_trial_tb_root, c_trial_tb_digest, c_trial_tb_height, c_trial_tb_priority, c_trial_tb_pricedBy, c_trial_tb_open)
        else
          if l3 ≤ (2 : Int32) then
            Option.bind (f_X6_copy c_drawn_keys c_drawn_seed c_now_keys c_now_seed) (fun x2 =>
            Option.bind (L_X7_run_47 20000 x2.1 x2.2 c_trial_act_kind c_trial_act_set c_trial_act_key c_trial_act_other l2 l1 (0 : Int32)) (fun x3 =>
            if l3 = (0 : Int32) then
              Option.bind (aget 4 x3.1 (0 : Int32)) (fun v4 =>
              Option.bind (f_X7_digest c_trial_tb_left c_trial_tb_right c_trial_tb_parent c_trial_tb_span c_trial_tb_root c_trial_tb_digest c_trial_tb_height c_trial_tb_priority c_trial_tb_pricedBy c_trial_tb_open v4 x3.2.1) (fun x5 =>
              some (x5.1, x3.1, x3.2.1, x3.2.2.1, x3.2.2.2.1, x3.2.2.2.2.1, x3.2.2.2.2.2, x5.2.1, x5.2.2.1, x5.2.2.2.1, x5.2.2.2.2.1, x5.2.2.2.2.2.1, x5.2.2.2.2.2.2.1, x5.2.2.2.2.2.2.2.1, x5.2.2.2.2.2.2.2.2.1, x5.2.2.2.2.2.2.2.2.2.1, x5.2.2.2.2.2.2.2.2.2.2)))
            else
              if l3 = (1 : Int32) then
                Option.bind (f_X6_countAll x3.1) (fun x6 =>
                some (x6, x3.1, x3.2.1, x3.2.2.1, x3.2.2.2.1, x3.2.2.2.2.1, x3.2.2.2.2.2, c_trial_tb_left, c_trial_tb_right, c_trial_tb_parent, c_trial_tb_span, c_trial_tb_root, c_trial_tb_digest, c_trial_tb_height, c_trial_tb_priority, c_trial_tb_pricedBy, c_trial_tb_open))
              else
                some (x3.2.1, x3.1, x3.2.1, x3.2.2.1, x3.2.2.2.1, x3.2.2.2.2.1, x3.2.2.2.2.2, c_trial_tb_left, c_trial_tb_right, c_trial_tb_parent, c_trial_tb_span, c_trial_tb_root, c_trial_tb_digest, c_trial_tb_height, c_trial_tb_priority, c_trial_tb_pricedBy, c_trial_tb_open)))
          else
            some ((-2 : Int32), c_drawn_keys, c_drawn_seed, c_trial_act_kind, c_trial_act_set, c_trial_act_key, c_trial_act_other, c_trial_tb_left, c_trial_tb_right, c_trial_tb_parent, c_trial_tb_span, c_trial_tb_root, c_trial_tb_digest, c_trial_tb_height, c_trial_tb_priority, c_trial_tb_pricedBy, c_trial_tb_open))

def f_X7_image (c_now_keys : Nat → Int64) (c_now_seed : Int32) (c_sights_count : Int32) (c_sights_seeds : Nat → Int64) (c_img0_kept : Int32) (c_img0_world_keys : Nat → Int64) (c_img0_world_seed : Int32) (c_img0_sights_count : Int32) (c_img0_sights_seeds : Nat → Int64) (c_img1_kept : Int32) (c_img1_world_keys : Nat → Int64) (c_img1_world_seed : Int32) (c_img1_sights_count : Int32) (c_img1_sights_seeds : Nat → Int64) (l1 : Int32) : Option (Int32 × Int32 × (Nat → Int64) × Int32 × Int32 × (Nat → Int64) × Int32 × (Nat → Int64) × Int32 × Int32 × (Nat → Int64)) :=
  if l1 < (0 : Int32) then
    some ((-2 : Int32), c_img0_kept, c_img0_world_keys, c_img0_world_seed, c_img0_sights_count, c_img0_sights_seeds, c_img1_kept, c_img1_world_keys, c_img1_world_seed, c_img1_sights_count, c_img1_sights_seeds)
  else
    if l1 < (2 : Int32) then
      if l1 = (0 : Int32) then
        Option.bind (f_X6_copy c_img0_world_keys c_img0_world_seed c_now_keys c_now_seed) (fun x1 =>
        Option.bind (f_X3_copy c_img0_sights_count c_img0_sights_seeds c_sights_count c_sights_seeds) (fun x2 =>
        some ((1 : Int32), (1 : Int32), x1.1, x1.2, x2.1, x2.2, c_img1_kept, c_img1_world_keys, c_img1_world_seed, c_img1_sights_count, c_img1_sights_seeds)))
      else
        if l1 = (1 : Int32) then
          Option.bind (f_X6_copy c_img1_world_keys c_img1_world_seed c_now_keys c_now_seed) (fun x3 =>
          Option.bind (f_X3_copy c_img1_sights_count c_img1_sights_seeds c_sights_count c_sights_seeds) (fun x4 =>
          some ((1 : Int32), c_img0_kept, c_img0_world_keys, c_img0_world_seed, c_img0_sights_count, c_img0_sights_seeds, (1 : Int32), x3.1, x3.2, x4.1, x4.2)))
        else
          none
    else
      some ((-2 : Int32), c_img0_kept, c_img0_world_keys, c_img0_world_seed, c_img0_sights_count, c_img0_sights_seeds, c_img1_kept, c_img1_world_keys, c_img1_world_seed, c_img1_sights_count, c_img1_sights_seeds)

def f_X7_restore (c_now_keys : Nat → Int64) (c_now_seed : Int32) (c_sights_count : Int32) (c_sights_seeds : Nat → Int64) (c_img0_kept : Int32) (c_img0_world_keys : Nat → Int64) (c_img0_world_seed : Int32) (c_img0_sights_count : Int32) (c_img0_sights_seeds : Nat → Int64) (c_img1_kept : Int32) (c_img1_world_keys : Nat → Int64) (c_img1_world_seed : Int32) (c_img1_sights_count : Int32) (c_img1_sights_seeds : Nat → Int64) (l1 : Int32) : Option (Int32 × (Nat → Int64) × Int32 × Int32 × (Nat → Int64)) :=
  if l1 < (0 : Int32) then
    some ((-2 : Int32), c_now_keys, c_now_seed, c_sights_count, c_sights_seeds)
  else
    if l1 < (2 : Int32) then
      if l1 = (0 : Int32) then
        if c_img0_kept = (0 : Int32) then
          some ((-3 : Int32), c_now_keys, c_now_seed, c_sights_count, c_sights_seeds)
        else
          Option.bind (f_X6_copy c_now_keys c_now_seed c_img0_world_keys c_img0_world_seed) (fun x1 =>
          Option.bind (f_X3_copy c_sights_count c_sights_seeds c_img0_sights_count c_img0_sights_seeds) (fun x2 =>
          some ((1 : Int32), x1.1, x1.2, x2.1, x2.2)))
      else
        if l1 = (1 : Int32) then
          if c_img1_kept = (0 : Int32) then
            some ((-3 : Int32), c_now_keys, c_now_seed, c_sights_count, c_sights_seeds)
          else
            Option.bind (f_X6_copy c_now_keys c_now_seed c_img1_world_keys c_img1_world_seed) (fun x3 =>
            Option.bind (f_X3_copy c_sights_count c_sights_seeds c_img1_sights_count c_img1_sights_seeds) (fun x4 =>
            some ((1 : Int32), x3.1, x3.2, x4.1, x4.2)))
        else
          none
    else
      some ((-2 : Int32), c_now_keys, c_now_seed, c_sights_count, c_sights_seeds)

def f_X7_toldOfSets (c_now_keys : Nat → Int64) (c_now_seed : Int32) (c_trial_tb_left : Nat → Int32) (c_trial_tb_right : Nat → Int32) (c_trial_tb_parent : Nat → Int32) (c_trial_tb_span : Nat → Int64) (c_trial_tb_root : Int32) (c_trial_tb_digest : Nat → Int32) (c_trial_tb_height : Nat → Int32) (c_trial_tb_priority : Nat → Int32) (c_trial_tb_pricedBy : Int32) (c_trial_tb_open : Nat → Int32) (l1 : Int32) : Option (Int32 × (Nat → Int32) × (Nat → Int32) × (Nat → Int32) × (Nat → Int64) × Int32 × (Nat → Int32) × (Nat → Int32) × (Nat → Int32) × Int32 × (Nat → Int32)) :=
  Option.bind (f_X7_isSet (l1 - (10 : Int32))) (fun x1 =>
  if x1 = (0 : Int32) then
    Option.bind (f_X7_isSet (l1 - (20 : Int32))) (fun x2 =>
    if x2 = (0 : Int32) then
      Option.bind (f_X7_isSet ((l1 / (100 : Int32)) - (1 : Int32))) (fun x3 =>
      if x3 = (0 : Int32) then
        some ((-2 : Int32), c_trial_tb_left, c_trial_tb_right, c_trial_tb_parent, c_trial_tb_span, c_trial_tb_root, c_trial_tb_digest, c_trial_tb_height, c_trial_tb_priority, c_trial_tb_pricedBy, c_trial_tb_open)
      else
        Option.bind (f_X7_isKey (l1 - l1 / (100 : Int32) * (100 : Int32))) (fun x4 =>
        if x4 = (0 : Int32) then
          some ((-2 : Int32), c_trial_tb_left, c_trial_tb_right, c_trial_tb_parent, c_trial_tb_span, c_trial_tb_root, c_trial_tb_digest, c_trial_tb_height, c_trial_tb_priority, c_trial_tb_pricedBy, c_trial_tb_open)
        else
          Option.bind (aget 4 c_now_keys ((l1 / (100 : Int32)) - (1 : Int32))) (fun v5 =>
          Option.bind (f_X7_isIn v5 (l1 - l1 / (100 : Int32) * (100 : Int32))) (fun x6 =>
          if x6 = (0 : Int32) then
            some ((0 : Int32), c_trial_tb_left, c_trial_tb_right, c_trial_tb_parent, c_trial_tb_span, c_trial_tb_root, c_trial_tb_digest, c_trial_tb_height, c_trial_tb_priority, c_trial_tb_pricedBy, c_trial_tb_open)
          else
            some ((1 : Int32), c_trial_tb_left, c_trial_tb_right, c_trial_tb_parent, c_trial_tb_span, c_trial_tb_root, c_trial_tb_digest, c_trial_tb_height, c_trial_tb_priority, c_trial_tb_pricedBy, c_trial_tb_open)))))
    else
      Option.bind (aget 4 c_now_keys (l1 - (20 : Int32))) (fun v7 =>
      Option.bind (f_X7_digest c_trial_tb_left c_trial_tb_right c_trial_tb_parent c_trial_tb_span c_trial_tb_root c_trial_tb_digest c_trial_tb_height c_trial_tb_priority c_trial_tb_pricedBy c_trial_tb_open v7 c_now_seed) (fun x8 =>
      some (x8.1, x8.2.1, x8.2.2.1, x8.2.2.2.1, x8.2.2.2.2.1, x8.2.2.2.2.2.1, x8.2.2.2.2.2.2.1, x8.2.2.2.2.2.2.2.1, x8.2.2.2.2.2.2.2.2.1, x8.2.2.2.2.2.2.2.2.2.1, x8.2.2.2.2.2.2.2.2.2.2))))
  else
    Option.bind (aget 4 c_now_keys (l1 - (10 : Int32))) (fun v9 =>
    Option.bind (f_X7_count v9) (fun x10 =>
    some (x10, c_trial_tb_left, c_trial_tb_right, c_trial_tb_parent, c_trial_tb_span, c_trial_tb_root, c_trial_tb_digest, c_trial_tb_height, c_trial_tb_priority, c_trial_tb_pricedBy, c_trial_tb_open))))

def f_X7_told (c_now_keys : Nat → Int64) (c_now_seed : Int32) (c_pad_count : Int32) (c_sights_count : Int32) (c_trial_tb_left : Nat → Int32) (c_trial_tb_right : Nat → Int32) (c_trial_tb_parent : Nat → Int32) (c_trial_tb_span : Nat → Int64) (c_trial_tb_root : Int32) (c_trial_tb_digest : Nat → Int32) (c_trial_tb_height : Nat → Int32) (c_trial_tb_priority : Nat → Int32) (c_trial_tb_pricedBy : Int32) (c_trial_tb_open : Nat → Int32) (l1 : Int32) : Option (Int32 × (Nat → Int32) × (Nat → Int32) × (Nat → Int32) × (Nat → Int64) × Int32 × (Nat → Int32) × (Nat → Int32) × (Nat → Int32) × Int32 × (Nat → Int32)) :=
  if l1 = (0 : Int32) then
    some (c_pad_count, c_trial_tb_left, c_trial_tb_right, c_trial_tb_parent, c_trial_tb_span, c_trial_tb_root, c_trial_tb_digest, c_trial_tb_height, c_trial_tb_priority, c_trial_tb_pricedBy, c_trial_tb_open)
  else
    if l1 = (1 : Int32) then
      some (c_now_seed, c_trial_tb_left, c_trial_tb_right, c_trial_tb_parent, c_trial_tb_span, c_trial_tb_root, c_trial_tb_digest, c_trial_tb_height, c_trial_tb_priority, c_trial_tb_pricedBy, c_trial_tb_open)
    else
      if l1 = (2 : Int32) then
        some (c_sights_count, c_trial_tb_left, c_trial_tb_right, c_trial_tb_parent, c_trial_tb_span, c_trial_tb_root, c_trial_tb_digest, c_trial_tb_height, c_trial_tb_priority, c_trial_tb_pricedBy, c_trial_tb_open)
      else
        Option.bind (f_X7_toldOfSets c_now_keys c_now_seed c_trial_tb_left c_trial_tb_right c_trial_tb_parent c_trial_tb_span c_trial_tb_root c_trial_tb_digest c_trial_tb_height c_trial_tb_priority c_trial_tb_pricedBy c_trial_tb_open l1) (fun x1 =>
        some (x1.1, x1.2.1, x1.2.2.1, x1.2.2.2.1, x1.2.2.2.2.1, x1.2.2.2.2.2.1, x1.2.2.2.2.2.2.1, x1.2.2.2.2.2.2.2.1, x1.2.2.2.2.2.2.2.2.1, x1.2.2.2.2.2.2.2.2.2.1, x1.2.2.2.2.2.2.2.2.2.2))

def f_X8_in (l0 : Int64) (l2 : Int64) (l4 : Int64) : Option (Int32) :=
  if (lg_cmp l0 l2) < (0 : Int32) then
    some (0 : Int32)
  else
    if (0 : Int32) < (lg_cmp l0 l4) then
      some (0 : Int32)
    else
      some (1 : Int32)

def f_X8_isSet (l0 : Int32) : Option (Int32) :=
  Option.bind (f_X8_in l0.toInt64 (0 : Int64) (3 : Int64)) (fun x1 =>
  Option.bind (bz x1) (fun v2 =>
  some x1))

def f_X8_isKey (l0 : Int32) : Option (Int32) :=
  Option.bind (f_X8_in l0.toInt64 (0 : Int64) (49 : Int64)) (fun x1 =>
  Option.bind (bz x1) (fun v2 =>
  some x1))

def f_X8_has (c_is : Nat → Int32) (l1 : Int32) (l2 : Int32) : Option (Int32) :=
  Option.bind (aget 200 c_is (((50 : Int32) * l1) + l2)) (fun v1 =>
  if v1 = (1 : Int32) then
    some (1 : Int32)
  else
    some (0 : Int32))

def L_X8_many_4 : Nat → (Nat → Int32) → Int32 → Int32 → Int32 → Option (Int32)
  | 0, _, _, _, _ => none
  | n + 1, c_is, l1, l2, l3 =>
    if (50 : Int32) ≤ l3 then
      some l2
    else
      Option.bind (aget 200 c_is (((50 : Int32) * l1) + l3)) (fun v1 =>
      L_X8_many_4 n c_is l1 (l2 + v1) (l3 + (1 : Int32)))
def f_X8_many (c_is : Nat → Int32) (l1 : Int32) : Option (Int32) :=
  Option.bind (L_X8_many_4 20000 c_is l1 (0 : Int32) (0 : Int32)) (fun x1 =>
  some x1)

def f_X8_priorityBy (l0 : Int32) (l1 : Int32) : Option (Int32) :=
  some ((((l0 + ((131 : Int32) * l1)) - (l0 + ((131 : Int32) * l1)) / (10007 : Int32) * (10007 : Int32)) * ((l0 + ((131 : Int32) * l1)) - (l0 + ((131 : Int32) * l1)) / (10007 : Int32) * (10007 : Int32))) - (((l0 + ((131 : Int32) * l1)) - (l0 + ((131 : Int32) * l1)) / (10007 : Int32) * (10007 : Int32)) * ((l0 + ((131 : Int32) * l1)) - (l0 + ((131 : Int32) * l1)) / (10007 : Int32) * (10007 : Int32))) / (10007 : Int32) * (10007 : Int32))

def f_X8_ranksBy (l0 : Int32) (l1 : Int32) (l2 : Int32) : Option (Int32) :=
  Option.bind (f_X8_priorityBy l0 l1) (fun x1 =>
  Option.bind (f_X8_priorityBy l0 l2) (fun x2 =>
  if x2 < x1 then
    some (1 : Int32)
  else
    if x1 = x2 then
      if l2 ≤ l1 then
        some (0 : Int32)
      else
        some (1 : Int32)
    else
      some (0 : Int32)))

def f_X8_ranks (c_seed : Int32) (l1 : Int32) (l2 : Int32) : Option (Int32) :=
  Option.bind (f_X8_ranksBy c_seed l1 l2) (fun x1 =>
  Option.bind (bz x1) (fun v2 =>
  some x1))

def f_X8_seed (c_seed : Int32) (l1 : Int32) : Option (Int32 × Int32) :=
  Option.bind (f_X8_in l1.toInt64 (0 : Int64) (9999 : Int64)) (fun x1 =>
  if x1 = (0 : Int32) then
    some ((-2 : Int32), c_seed)
  else
    some (c_seed, l1))

def f_X8_put (c_is : Nat → Int32) (l1 : Int32) (l2 : Int32) (l3 : Int32) : Option (Int32 × (Nat → Int32)) :=
  Option.bind (f_X8_isSet l1) (fun x1 =>
  if x1 = (0 : Int32) then
    some ((-1 : Int32), c_is)
  else
    Option.bind (f_X8_isKey l2) (fun x2 =>
    if x2 = (0 : Int32) then
      some ((-1 : Int32), c_is)
    else
      if l3 = (0 : Int32) then
        if l3 = (0 : Int32) then
          Option.bind (aset 200 c_is (((50 : Int32) * l1) + l2) (0 : Int32)) (fun f3 =>
          Option.bind (f_X8_many f3 l1) (fun x4 =>
          some (x4, f3)))
        else
          Option.bind (aset 200 c_is (((50 : Int32) * l1) + l2) (1 : Int32)) (fun f5 =>
          Option.bind (f_X8_many f5 l1) (fun x6 =>
          some (x6, f5)))
      else
        Option.bind (f_X8_has c_is l1 l2) (fun x7 =>
        if x7 = (0 : Int32) then
          Option.bind (f_X8_many c_is l1) (fun x12 =>
          if x12 = (40 : Int32) then
            some ((-4 : Int32), c_is)
          else
            if l3 = (0 : Int32) then
              Option.bind (aset 200 c_is (((50 : Int32) * l1) + l2) (0 : Int32)) (fun f13 =>
              Option.bind (f_X8_many f13 l1) (fun x14 =>
              some (x14, f13)))
            else
              Option.bind (aset 200 c_is (((50 : Int32) * l1) + l2) (1 : Int32)) (fun f15 =>
              Option.bind (f_X8_many f15 l1) (fun x16 =>
              some (x16, f15))))
        else
          if l3 = (0 : Int32) then
            Option.bind (aset 200 c_is (((50 : Int32) * l1) + l2) (0 : Int32)) (fun f8 =>
            Option.bind (f_X8_many f8 l1) (fun x9 =>
            some (x9, f8)))
          else
            Option.bind (aset 200 c_is (((50 : Int32) * l1) + l2) (1 : Int32)) (fun f10 =>
            Option.bind (f_X8_many f10 l1) (fun x11 =>
            some (x11, f10))))))

def f_X8_say (c_pad : Nat → Int32) (c_padMany : Int32) (l1 : Int32) : Option (Int32 × (Nat → Int32) × Int32) :=
  Option.bind (f_X8_in l1.toInt64 (33 : Int64) (126 : Int64)) (fun x1 =>
  if x1 = (0 : Int32) then
    some ((-2 : Int32), c_pad, c_padMany)
  else
    if c_padMany = (60 : Int32) then
      some ((-4 : Int32), c_pad, c_padMany)
    else
      Option.bind (aset 60 c_pad c_padMany l1) (fun f2 =>
      some ((c_padMany + (1 : Int32)), f2, (c_padMany + (1 : Int32)))))

def f_X8_wipe (c_padMany : Int32) : Option (Int32 × Int32) :=
  some (c_padMany, (0 : Int32))

def f_X8_ends (c_acts : Int32) : Option (Int32 × Int32) :=
  some ((0 : Int32), (c_acts + (1 : Int32)))

def f_X8_begin (c_act : Nat → Int32) (c_which : Nat → Int32) (c_key : Nat → Int32) (c_other : Nat → Int32) (c_acts : Int32) (l1 : Int32) : Option (Int32 × (Nat → Int32) × (Nat → Int32) × (Nat → Int32) × (Nat → Int32) × Int32) :=
  Option.bind (f_X8_in l1.toInt64 (65 : Int64) (68 : Int64)) (fun x1 =>
  Option.bind (
    if x1 = (0 : Int32) then
      some (0 : Int32)
    else
      some (l1 - (65 : Int32))) (fun x2 =>
  Option.bind (aset 60 c_which c_acts x2) (fun f3 =>
  Option.bind (aset 60 c_key c_acts (0 : Int32)) (fun f4 =>
  Option.bind (aset 60 c_other c_acts (0 : Int32)) (fun f5 =>
  Option.bind (aset 60 c_act c_acts (7 : Int32)) (fun f6 =>
  if l1 = (33 : Int32) then
    Option.bind (f_X8_ends c_acts) (fun x8 =>
    some (x8.1, f6, f3, f4, f5, x8.2))
  else
    Option.bind (f_X8_in l1.toInt64 (65 : Int64) (68 : Int64)) (fun x7 =>
    if x7 = (0 : Int32) then
      some ((-6 : Int32), f6, f3, f4, f5, c_acts)
    else
      some ((1 : Int32), f6, f3, f4, f5, c_acts))))))))

def f_X8_deed (c_act : Nat → Int32) (c_acts : Int32) (l1 : Int32) (l2 : Int32) : Option (Int32 × (Nat → Int32)) :=
  Option.bind (aset 60 c_act c_acts l1) (fun f1 =>
  some (l2, f1))

def f_X8_begun (c_act : Nat → Int32) (c_acts : Int32) (l1 : Int32) : Option (Int32 × (Nat → Int32)) :=
  if l1 = (38 : Int32) then
    Option.bind (f_X8_deed c_act c_acts (3 : Int32) (4 : Int32)) (fun x1 =>
    some (x1.1, x1.2))
  else
    if l1 = (43 : Int32) then
      Option.bind (f_X8_deed c_act c_acts (0 : Int32) (2 : Int32)) (fun x2 =>
      some (x2.1, x2.2))
    else
      if l1 = (45 : Int32) then
        Option.bind (f_X8_deed c_act c_acts (1 : Int32) (2 : Int32)) (fun x3 =>
        some (x3.1, x3.2))
      else
        if l1 = (47 : Int32) then
          Option.bind (f_X8_deed c_act c_acts (2 : Int32) (2 : Int32)) (fun x4 =>
          some (x4.1, x4.2))
        else
          if l1 = (61 : Int32) then
            Option.bind (f_X8_deed c_act c_acts (4 : Int32) (4 : Int32)) (fun x5 =>
            some (x5.1, x5.2))
          else
            if l1 = (124 : Int32) then
              Option.bind (f_X8_deed c_act c_acts (5 : Int32) (4 : Int32)) (fun x6 =>
              some (x6.1, x6.2))
            else
              if l1 = (126 : Int32) then
                Option.bind (f_X8_deed c_act c_acts (6 : Int32) (4 : Int32)) (fun x7 =>
                some (x7.1, x7.2))
              else
                some ((-6 : Int32), c_act)

def f_X8_figure (c_act : Nat → Int32) (c_key : Nat → Int32) (c_acts : Int32) (l1 : Int32) (l2 : Int32) : Option (Int32 × (Nat → Int32) × Int32) :=
  Option.bind (aget 60 c_key c_acts) (fun v1 =>
  Option.bind (aset 60 c_key c_acts ((((10 : Int32) * v1) + l1) - (48 : Int32))) (fun f2 =>
  Option.bind (
    if l2 = (2 : Int32) then
      some (52 : Int64)
    else
      some (57 : Int64)) (fun x3 =>
  Option.bind (f_X8_in l1.toInt64 (48 : Int64) x3) (fun x4 =>
  if x4 = (0 : Int32) then
    some ((-6 : Int32), f2, c_acts)
  else
    if l2 = (2 : Int32) then
      some ((3 : Int32), f2, c_acts)
    else
      Option.bind (aget 60 c_act c_acts) (fun v5 =>
      if v5 = (2 : Int32) then
        some ((4 : Int32), f2, c_acts)
      else
        Option.bind (f_X8_ends c_acts) (fun x6 =>
        some (x6.1, f2, x6.2)))))))

def f_X8_another (c_other : Nat → Int32) (c_acts : Int32) (l1 : Int32) : Option (Int32 × (Nat → Int32) × Int32) :=
  Option.bind (aset 60 c_other c_acts (l1 - (65 : Int32))) (fun f1 =>
  Option.bind (f_X8_in l1.toInt64 (65 : Int64) (68 : Int64)) (fun x2 =>
  if x2 = (0 : Int32) then
    some ((-6 : Int32), f1, c_acts)
  else
    Option.bind (f_X8_ends c_acts) (fun x3 =>
    some (x3.1, f1, x3.2))))

def f_X8_readOn (c_act : Nat → Int32) (c_which : Nat → Int32) (c_key : Nat → Int32) (c_other : Nat → Int32) (c_acts : Int32) (l1 : Int32) (l2 : Int32) : Option (Int32 × (Nat → Int32) × (Nat → Int32) × (Nat → Int32) × (Nat → Int32) × Int32) :=
  if l1 = (0 : Int32) then
    Option.bind (f_X8_begin c_act c_which c_key c_other c_acts l2) (fun x4 =>
    some (x4.1, x4.2.1, x4.2.2.1, x4.2.2.2.1, x4.2.2.2.2.1, x4.2.2.2.2.2))
  else
    if l1 = (1 : Int32) then
      Option.bind (f_X8_begun c_act c_acts l2) (fun x3 =>
      some (x3.1, x3.2, c_which, c_key, c_other, c_acts))
    else
      if l1 = (4 : Int32) then
        Option.bind (f_X8_another c_other c_acts l2) (fun x2 =>
        some (x2.1, c_act, c_which, c_key, x2.2.1, x2.2.2))
      else
        Option.bind (f_X8_figure c_act c_key c_acts l2 l1) (fun x1 =>
        some (x1.1, c_act, c_which, x1.2.1, c_other, x1.2.2))

def L_X8_fault_9 : Nat → (Nat → Int32) → Int32 → (Nat → Int32) → (Nat → Int32) → (Nat → Int32) → (Nat → Int32) → Int32 → Int32 → Int32 → Option (Int32 × (Nat → Int32) × (Nat → Int32) × (Nat → Int32) × (Nat → Int32) × Int32)
  | 0, _, _, _, _, _, _, _, _, _ => none
  | n + 1, c_pad, c_padMany, c_act, c_which, c_key, c_other, c_acts, l1, l2 =>
    if c_padMany ≤ l2 then
      if l1 = (0 : Int32) then
        some ((-6 : Int32), c_act, c_which, c_key, c_other, c_acts)
      else
        some (c_padMany, c_act, c_which, c_key, c_other, c_acts)
    else
      Option.bind (aget 60 c_pad l2) (fun v1 =>
      Option.bind (f_X8_readOn c_act c_which c_key c_other c_acts l1 v1) (fun x2 =>
      if (0 : Int32) ≤ x2.1 then
        L_X8_fault_9 n c_pad c_padMany x2.2.1 x2.2.2.1 x2.2.2.2.1 x2.2.2.2.2.1 x2.2.2.2.2.2 x2.1 (l2 + (1 : Int32))
      else
        some (l2, x2.2.1, x2.2.2.1, x2.2.2.2.1, x2.2.2.2.2.1, x2.2.2.2.2.2)))
def f_X8_fault (c_pad : Nat → Int32) (c_padMany : Int32) (c_act : Nat → Int32) (c_which : Nat → Int32) (c_key : Nat → Int32) (c_other : Nat → Int32) (c_acts : Int32) : Option (Int32 × (Nat → Int32) × (Nat → Int32) × (Nat → Int32) × (Nat → Int32) × Int32) :=
  L_X8_fault_9 20000 c_pad c_padMany c_act c_which c_key c_other (0 : Int32) (0 : Int32) (0 : Int32)

def L_X8_ofBoth_5 : Nat → (Nat → Int32) → Int32 → Int32 → Int32 → Int32 → Option (Int32)
  | 0, _, _, _, _, _ => none
  | n + 1, c_is, l1, l2, l3, l4 =>
    if (50 : Int32) ≤ l4 then
      some l3
    else
      Option.bind (f_X8_has c_is l1 l4) (fun x1 =>
      if x1 = (0 : Int32) then
        Option.bind (f_X8_has c_is l2 l4) (fun x2 =>
        if x2 = (0 : Int32) then
          L_X8_ofBoth_5 n c_is l1 l2 (l3 + (0 : Int32)) (l4 + (1 : Int32))
        else
          L_X8_ofBoth_5 n c_is l1 l2 (l3 + (1 : Int32)) (l4 + (1 : Int32)))
      else
        L_X8_ofBoth_5 n c_is l1 l2 (l3 + (1 : Int32)) (l4 + (1 : Int32)))
def f_X8_ofBoth (c_is : Nat → Int32) (l1 : Int32) (l2 : Int32) : Option (Int32) :=
  Option.bind (L_X8_ofBoth_5 20000 c_is l1 l2 (0 : Int32) (0 : Int32)) (fun x1 =>
  some x1)

def L_X8_isBeyond_6 : Nat → (Nat → Int32) → Int32 → Int32 → Int32 → Option (Int32)
  | 0, _, _, _, _ => none
  | n + 1, c_is, l1, l3, l4 =>
    if (50 : Int32) ≤ l4 then
      some l3
    else
      Option.bind (f_X8_has c_is l1 l4) (fun x1 =>
      if x1 = (0 : Int32) then
        L_X8_isBeyond_6 n c_is l1 l3 (l4 + (1 : Int32))
      else
        L_X8_isBeyond_6 n c_is l1 l4 (l4 + (1 : Int32)))
def L_X8_isBeyond_42 : Nat → (Nat → Int32) → Int32 → Int32 → Int32 → Int32 → Option (Int32)
  | 0, _, _, _, _, _ => none
  | n + 1, c_is, l2, l3, l4, l5 =>
    if (50 : Int32) ≤ l5 then
      some l4
    else
      if l4 = (0 : Int32) then
        L_X8_isBeyond_42 n c_is l2 l3 (0 : Int32) (l5 + (1 : Int32))
      else
        Option.bind (f_X8_has c_is l2 l5) (fun x1 =>
        if x1 = (0 : Int32) then
          L_X8_isBeyond_42 n c_is l2 l3 (1 : Int32) (l5 + (1 : Int32))
        else
          if l5 ≤ l3 then
            L_X8_isBeyond_42 n c_is l2 l3 (0 : Int32) (l5 + (1 : Int32))
          else
            L_X8_isBeyond_42 n c_is l2 l3 (1 : Int32) (l5 + (1 : Int32)))
def f_X8_isBeyond (c_is : Nat → Int32) (l1 : Int32) (l2 : Int32) : Option (Int32) :=
  Option.bind (L_X8_isBeyond_6 20000 c_is l1 (-6 : Int32) (0 : Int32)) (fun x1 =>
  Option.bind (L_X8_isBeyond_42 20000 c_is l2 x1 (1 : Int32) (0 : Int32)) (fun x2 =>
  Option.bind (bz x2) (fun v3 =>
  some x2)))

def f_X8_whyNoKey (c_is : Nat → Int32) (l1 : Int32) (l2 : Int32) (l3 : Int32) : Option (Int32) :=
  Option.bind (f_X8_has c_is l2 l3) (fun x1 =>
  Option.bind (
    if l1 = (1 : Int32) then
      some (1 : Int32)
    else
      some (0 : Int32)) (fun x2 =>
  if x1 = x2 then
    if l1 = (0 : Int32) then
      Option.bind (f_X8_many c_is l2) (fun x3 =>
      if x3 = (40 : Int32) then
        some (3 : Int32)
      else
        some (0 : Int32))
    else
      some (0 : Int32)
  else
    some (2 : Int32)))

def f_X8_whyNoJoin (c_is : Nat → Int32) (l1 : Int32) (l2 : Int32) : Option (Int32) :=
  Option.bind (f_X8_many c_is l1) (fun x1 =>
  Option.bind (f_X8_many c_is l2) (fun x2 =>
  if (x1 + x2) ≤ (40 : Int32) then
    Option.bind (f_X8_isBeyond c_is l1 l2) (fun x3 =>
    if x3 = (0 : Int32) then
      some (5 : Int32)
    else
      some (0 : Int32))
  else
    Option.bind (f_X8_ofBoth c_is l1 l2) (fun x4 =>
    if x4 ≤ (40 : Int32) then
      Option.bind (f_X8_isBeyond c_is l1 l2) (fun x5 =>
      if x5 = (0 : Int32) then
        some (5 : Int32)
      else
        some (0 : Int32))
    else
      some (3 : Int32))))

def f_X8_whyNot (c_seed : Int32) (c_is : Nat → Int32) (l1 : Int32) (l2 : Int32) (l3 : Int32) (l4 : Int32) : Option (Int32) :=
  if l1 = (7 : Int32) then
    if c_seed = (9999 : Int32) then
      some (6 : Int32)
    else
      some (0 : Int32)
  else
    if (2 : Int32) ≤ l1 then
      if l2 = l4 then
        some (1 : Int32)
      else
        if l1 = (2 : Int32) then
          Option.bind (f_X8_many c_is l4) (fun x1 =>
          if x1 ≤ (0 : Int32) then
            some (0 : Int32)
          else
            some (4 : Int32))
        else
          if l1 = (3 : Int32) then
            Option.bind (f_X8_whyNoJoin c_is l2 l4) (fun x2 =>
            some x2)
          else
            if l1 = (4 : Int32) then
              some (0 : Int32)
            else
              if l1 = (5 : Int32) then
                Option.bind (f_X8_ofBoth c_is l2 l4) (fun x3 =>
                if x3 ≤ (40 : Int32) then
                  some (0 : Int32)
                else
                  some (3 : Int32))
              else
                some (0 : Int32)
    else
      Option.bind (f_X8_whyNoKey c_is l1 l2 l3) (fun x4 =>
      some x4)

def L_X8_part_3 : Nat → (Nat → Int32) → Int32 → Int32 → Int32 → Option ((Nat → Int32))
  | 0, _, _, _, _ => none
  | n + 1, c_is, l1, l3, l4 =>
    if (50 : Int32) ≤ l4 then
      some c_is
    else
      Option.bind (aget 200 c_is (((50 : Int32) * l1) + l4)) (fun v1 =>
      Option.bind (aset 200 c_is (((50 : Int32) * l3) + l4) v1) (fun f2 =>
      Option.bind (aset 200 f2 (((50 : Int32) * l1) + l4) (0 : Int32)) (fun f3 =>
      L_X8_part_3 n f3 l1 l3 (l4 + (1 : Int32)))))
def f_X8_part (c_is : Nat → Int32) (l1 : Int32) (l2 : Int32) (l3 : Int32) : Option ((Nat → Int32)) :=
  Option.bind (L_X8_part_3 20000 c_is l1 l3 l2) (fun x1 =>
  some x1)

def f_X8_by (l1 : Int32) (l2 : Int32) (l3 : Int32) : Option (Int32) :=
  if l1 = (4 : Int32) then
    some l3
  else
    if l1 = (6 : Int32) then
      if l3 = (1 : Int32) then
        some (0 : Int32)
      else
        some l2
    else
      if l3 = (1 : Int32) then
        some (1 : Int32)
      else
        some l2

def L_X8_both_3 : Nat → (Nat → Int32) → Int32 → Int32 → Int32 → Int32 → Option ((Nat → Int32))
  | 0, _, _, _, _, _ => none
  | n + 1, c_is, l1, l2, l3, l4 =>
    if (50 : Int32) ≤ l4 then
      some c_is
    else
      Option.bind (aget 200 c_is (((50 : Int32) * l2) + l4)) (fun v1 =>
      Option.bind (aget 200 c_is (((50 : Int32) * l3) + l4)) (fun v2 =>
      Option.bind (f_X8_by l1 v1 v2) (fun x3 =>
      Option.bind (aset 200 c_is (((50 : Int32) * l2) + l4) x3) (fun f4 =>
      if l1 = (3 : Int32) then
        Option.bind (aset 200 f4 (((50 : Int32) * l3) + l4) (0 : Int32)) (fun f7 =>
        L_X8_both_3 n f7 l1 l2 l3 (l4 + (1 : Int32)))
      else
        Option.bind (aget 200 f4 (((50 : Int32) * l3) + l4)) (fun v5 =>
        Option.bind (aset 200 f4 (((50 : Int32) * l3) + l4) v5) (fun f6 =>
        L_X8_both_3 n f6 l1 l2 l3 (l4 + (1 : Int32))))))))
def f_X8_both (c_is : Nat → Int32) (l1 : Int32) (l2 : Int32) (l3 : Int32) : Option ((Nat → Int32)) :=
  Option.bind (L_X8_both_3 20000 c_is l1 l2 l3 (0 : Int32)) (fun x1 =>
  some x1)

def f_X8_happen (c_seed : Int32) (c_is : Nat → Int32) (l1 : Int32) (l2 : Int32) (l3 : Int32) (l4 : Int32) : Option (Int32 × (Nat → Int32)) :=
  if l1 = (0 : Int32) then
    Option.bind (aset 200 c_is (((50 : Int32) * l2) + l3) (1 : Int32)) (fun f1 =>
    some (c_seed, f1))
  else
    if l1 = (1 : Int32) then
      Option.bind (aset 200 c_is (((50 : Int32) * l2) + l3) (0 : Int32)) (fun f2 =>
      some (c_seed, f2))
    else
      if l1 = (2 : Int32) then
        Option.bind (f_X8_part c_is l2 l3 l4) (fun x3 =>
        some (c_seed, x3))
      else
        if l1 = (3 : Int32) then
          Option.bind (f_X8_both c_is l1 l2 l4) (fun x4 =>
          some (c_seed, x4))
        else
          if l1 = (4 : Int32) then
            Option.bind (f_X8_both c_is l1 l2 l4) (fun x5 =>
            some (c_seed, x5))
          else
            if l1 = (5 : Int32) then
              Option.bind (f_X8_both c_is l1 l2 l4) (fun x6 =>
              some (c_seed, x6))
            else
              if l1 = (6 : Int32) then
                Option.bind (f_X8_both c_is l1 l2 l4) (fun x7 =>
                some (c_seed, x7))
              else
                if l1 = (7 : Int32) then
                  some ((c_seed + (1 : Int32)), c_is)
                else
                  Option.bind (f_X8_both c_is l1 l2 l4) (fun x8 =>
                  some (c_seed, x8))

def L_X8_below_5 : Nat → Int32 → (Nat → Int32) → Int32 → Int32 → Int32 → Int32 → Option (Int32)
  | 0, _, _, _, _, _, _ => none
  | n + 1, c_seed, c_is, l1, l2, l3, l4 =>
    if l4 < l3 then
      some l4
    else
      Option.bind (f_X8_has c_is l1 l4) (fun x1 =>
      if x1 = (0 : Int32) then
        L_X8_below_5 n c_seed c_is l1 l2 l3 (l4 + (-1 : Int32))
      else
        Option.bind (f_X8_ranks c_seed l4 l2) (fun x2 =>
        if x2 = (0 : Int32) then
          L_X8_below_5 n c_seed c_is l1 l2 l3 (l4 + (-1 : Int32))
        else
          some l4))
def f_X8_below (c_seed : Int32) (c_is : Nat → Int32) (l1 : Int32) (l2 : Int32) (l3 : Int32) : Option (Int32) :=
  Option.bind (L_X8_below_5 20000 c_seed c_is l1 l2 l3 (l2 - (1 : Int32))) (fun x1 =>
  some x1)

def L_X8_beyond_5 : Nat → Int32 → (Nat → Int32) → Int32 → Int32 → Int32 → Int32 → Option (Int32)
  | 0, _, _, _, _, _, _ => none
  | n + 1, c_seed, c_is, l1, l2, l3, l4 =>
    if l3 < l4 then
      some l4
    else
      Option.bind (f_X8_has c_is l1 l4) (fun x1 =>
      if x1 = (0 : Int32) then
        L_X8_beyond_5 n c_seed c_is l1 l2 l3 (l4 + (1 : Int32))
      else
        Option.bind (f_X8_ranks c_seed l4 l2) (fun x2 =>
        if x2 = (0 : Int32) then
          L_X8_beyond_5 n c_seed c_is l1 l2 l3 (l4 + (1 : Int32))
        else
          some l4))
def f_X8_beyond (c_seed : Int32) (c_is : Nat → Int32) (l1 : Int32) (l2 : Int32) (l3 : Int32) : Option (Int32) :=
  Option.bind (L_X8_beyond_5 20000 c_seed c_is l1 l2 l3 (l2 + (1 : Int32))) (fun x1 =>
  some x1)

def L_X8_rootOf_7 : Nat → Int32 → (Nat → Int32) → Int32 → Int32 → Int32 → Int32 → Option (Int32)
  | 0, _, _, _, _, _, _ => none
  | n + 1, c_seed, c_is, l1, l3, l4, l5 =>
    if l3 < l5 then
      some l4
    else
      Option.bind (f_X8_has c_is l1 l5) (fun x1 =>
      if x1 = (0 : Int32) then
        L_X8_rootOf_7 n c_seed c_is l1 l3 l4 (l5 + (1 : Int32))
      else
        if l4 < (0 : Int32) then
          L_X8_rootOf_7 n c_seed c_is l1 l3 l5 (l5 + (1 : Int32))
        else
          Option.bind (f_X8_ranks c_seed l5 l4) (fun x2 =>
          if x2 = (0 : Int32) then
            L_X8_rootOf_7 n c_seed c_is l1 l3 l4 (l5 + (1 : Int32))
          else
            L_X8_rootOf_7 n c_seed c_is l1 l3 l5 (l5 + (1 : Int32))))
def f_X8_rootOf (c_seed : Int32) (c_is : Nat → Int32) (l1 : Int32) (l2 : Int32) (l3 : Int32) : Option (Int32) :=
  Option.bind (L_X8_rootOf_7 20000 c_seed c_is l1 l3 (-6 : Int32) l2) (fun x1 =>
  some x1)

def L_X8_treeOf_23 : Nat → (Nat → Int32) → Int32 → Int64 → Int32 → Int32 → Option (Int64)
  | 0, _, _, _, _, _ => none
  | n + 1, c_is, l1, l3, l5, l6 =>
    if l5 ≤ l6 then
      some l3
    else
      Option.bind (f_X8_has c_is l1 l6) (fun x1 =>
      if x1 = (0 : Int32) then
        L_X8_treeOf_23 n c_is l1 (l3 ||| (0 : Int64)) l5 (l6 + (1 : Int32))
      else
        L_X8_treeOf_23 n c_is l1 (l3 ||| ((1 : Int64) <<< (l6.toInt64 &&& 63))) l5 (l6 + (1 : Int32)))
def f_X8_treeOf (c_seed : Int32) (c_is : Nat → Int32) (l1 : Int32) (l2 : Int32) : Option (Int64) :=
  Option.bind (f_X8_beyond c_seed c_is l1 l2 (49 : Int32)) (fun x1 =>
  Option.bind (f_X8_below c_seed c_is l1 l2 (0 : Int32)) (fun x2 =>
  Option.bind (L_X8_treeOf_23 20000 c_is l1 (0 : Int64) x1 (x2 + (1 : Int32))) (fun x3 =>
  some x3)))

def L_X8_ones_4 : Nat → Int32 → Int64 → Option (Int32)
  | 0, _, _ => none
  | n + 1, l2, l3 =>
    if (lg_cmp l3 (0 : Int64)) = (0 : Int32) then
      some l2
    else
      L_X8_ones_4 n (l2 + (1 : Int32)) (l3 &&& (l3 - (1 : Int64)))
def f_X8_ones (l0 : Int64) : Option (Int32) :=
  Option.bind (L_X8_ones_4 20000 (0 : Int32) l0) (fun x1 =>
  some x1)

def L_X8_findOrder_12 : Nat → Int32 → Int32 → Int32 → Int32 → Option (Int32)
  | 0, _, _, _, _ => none
  | n + 1, c_seed, l1, l2, l3 =>
    if (50 : Int32) ≤ l3 then
      some l2
    else
      if l3 = l1 then
        L_X8_findOrder_12 n c_seed l1 (l2 + (0 : Int32)) (l3 + (1 : Int32))
      else
        Option.bind (f_X8_ranks c_seed l1 l3) (fun x1 =>
        if x1 = (0 : Int32) then
          L_X8_findOrder_12 n c_seed l1 (l2 + (0 : Int32)) (l3 + (1 : Int32))
        else
          L_X8_findOrder_12 n c_seed l1 (l2 + (1 : Int32)) (l3 + (1 : Int32)))
def L_X8_findOrder_2 : Nat → Int32 → (Nat → Int32) → Int32 → Option ((Nat → Int32))
  | 0, _, _, _ => none
  | n + 1, c_seed, c_order, l1 =>
    if (50 : Int32) ≤ l1 then
      some c_order
    else
      Option.bind (L_X8_findOrder_12 20000 c_seed l1 (0 : Int32) (0 : Int32)) (fun x1 =>
      Option.bind (aset 50 c_order x1 l1) (fun f2 =>
      L_X8_findOrder_2 n c_seed f2 (l1 + (1 : Int32))))
def f_X8_findOrder (c_seed : Int32) (c_order : Nat → Int32) : Option ((Nat → Int32)) :=
  Option.bind (L_X8_findOrder_2 20000 c_seed c_order (0 : Int32)) (fun x1 =>
  some x1)

def f_X8_findOne (c_seed : Int32) (c_is : Nat → Int32) (c_digest : Nat → Int64) (c_tall : Nat → Int32) (l1 : Int32) (l2 : Int32) (l3 : Int32) (l4 : Int32) : Option ((Nat → Int64) × (Nat → Int32)) :=
  Option.bind (f_X8_below c_seed c_is l1 l2 l3) (fun x1 =>
  Option.bind (f_X8_rootOf c_seed c_is l1 (x1 + (1 : Int32)) (l2 - (1 : Int32))) (fun x2 =>
  Option.bind (f_X8_beyond c_seed c_is l1 l2 l4) (fun x3 =>
  Option.bind (f_X8_rootOf c_seed c_is l1 (l2 + (1 : Int32)) (x3 - (1 : Int32))) (fun x4 =>
  Option.bind (
    if (0 : Int32) ≤ x2 then
      Option.bind (aget 50 c_digest x2) (fun v5 =>
      some v5)
    else
      some (0 : Int64)) (fun x6 =>
  Option.bind (
    if (0 : Int32) ≤ x4 then
      Option.bind (aget 50 c_digest x4) (fun v7 =>
      some v7)
    else
      some (0 : Int64)) (fun x8 =>
  Option.bind (
    if (0 : Int32) ≤ x2 then
      Option.bind (aget 50 c_tall x2) (fun v9 =>
      some v9)
    else
      some (0 : Int32)) (fun x10 =>
  Option.bind (
    if (0 : Int32) ≤ x4 then
      Option.bind (aget 50 c_tall x4) (fun v11 =>
      some v11)
    else
      some (0 : Int32)) (fun x12 =>
  Option.bind (asetL 50 c_digest l2 ((1 : Int64) + (((((31 : Int64) * x6) + ((57 : Int64) * x8)) + ((7919 : Int64) * (l2 + (1 : Int32)).toInt64)) - ((((31 : Int64) * x6) + ((57 : Int64) * x8)) + ((7919 : Int64) * (l2 + (1 : Int32)).toInt64)) / (999983 : Int64) * (999983 : Int64)))) (fun f13 =>
  if x10 ≤ x12 then
    Option.bind (aset 50 c_tall l2 ((1 : Int32) + x12)) (fun f14 =>
    some (f13, f14))
  else
    Option.bind (aset 50 c_tall l2 ((1 : Int32) + x10)) (fun f15 =>
    some (f13, f15)))))))))))

def L_X8_digestOf_7 : Nat → Int32 → (Nat → Int32) → (Nat → Int32) → (Nat → Int64) → (Nat → Int32) → Int32 → Int32 → Int32 → Int32 → Option ((Nat → Int64) × (Nat → Int32))
  | 0, _, _, _, _, _, _, _, _, _ => none
  | n + 1, c_seed, c_is, c_order, c_digest, c_tall, l1, l2, l3, l4 =>
    if (50 : Int32) ≤ l4 then
      some (c_digest, c_tall)
    else
      Option.bind (aget 50 c_order l4) (fun v1 =>
      Option.bind (f_X8_in v1.toInt64 l2.toInt64 l3.toInt64) (fun x2 =>
      if x2 = (0 : Int32) then
        L_X8_digestOf_7 n c_seed c_is c_order c_digest c_tall l1 l2 l3 (l4 + (1 : Int32))
      else
        Option.bind (f_X8_has c_is l1 v1) (fun x3 =>
        if x3 = (0 : Int32) then
          L_X8_digestOf_7 n c_seed c_is c_order c_digest c_tall l1 l2 l3 (l4 + (1 : Int32))
        else
          Option.bind (f_X8_findOne c_seed c_is c_digest c_tall l1 v1 l2 l3) (fun x4 =>
          L_X8_digestOf_7 n c_seed c_is c_order x4.1 x4.2 l1 l2 l3 (l4 + (1 : Int32))))))
def f_X8_digestOf (c_seed : Int32) (c_is : Nat → Int32) (c_order : Nat → Int32) (c_digest : Nat → Int64) (c_tall : Nat → Int32) (l1 : Int32) (l2 : Int32) (l3 : Int32) : Option (Int32 × (Nat → Int32) × (Nat → Int64) × (Nat → Int32)) :=
  Option.bind (f_X8_findOrder c_seed c_order) (fun x1 =>
  Option.bind (L_X8_digestOf_7 20000 c_seed c_is x1 c_digest c_tall l1 l2 l3 (0 : Int32)) (fun x2 =>
  Option.bind (f_X8_rootOf c_seed c_is l1 l2 l3) (fun x3 =>
  if (0 : Int32) ≤ x3 then
    Option.bind (aget 50 x2.1 x3) (fun v4 =>
    some (v4.toInt32, x1, x2.1, x2.2))
  else
    some ((0 : Int32), x1, x2.1, x2.2))))

def L_X8_keepNow_2 : Nat → (Nat → Int32) → (Nat → Int32) → Int32 → Option ((Nat → Int32))
  | 0, _, _, _ => none
  | n + 1, c_is, c_had, l1 =>
    if (200 : Int32) ≤ l1 then
      some c_had
    else
      Option.bind (aget 200 c_is l1) (fun v1 =>
      Option.bind (aset 201 c_had l1 v1) (fun f2 =>
      L_X8_keepNow_2 n c_is f2 (l1 + (1 : Int32))))
def f_X8_keepNow (c_seed : Int32) (c_is : Nat → Int32) (c_had : Nat → Int32) : Option ((Nat → Int32)) :=
  Option.bind (L_X8_keepNow_2 20000 c_is c_had (0 : Int32)) (fun x1 =>
  Option.bind (aset 201 x1 (200 : Int32) c_seed) (fun f2 =>
  some f2))

def L_X8_back_2 : Nat → (Nat → Int32) → (Nat → Int32) → Int32 → Option ((Nat → Int32))
  | 0, _, _, _ => none
  | n + 1, c_is, c_had, l2 =>
    if (200 : Int32) ≤ l2 then
      some c_is
    else
      Option.bind (aget 201 c_had l2) (fun v1 =>
      Option.bind (aset 200 c_is l2 v1) (fun f2 =>
      L_X8_back_2 n f2 c_had (l2 + (1 : Int32))))
def f_X8_back (c_seed : Int32) (c_is : Nat → Int32) (c_had : Nat → Int32) (l1 : Int32) : Option (Int32 × Int32 × (Nat → Int32)) :=
  Option.bind (L_X8_back_2 20000 c_is c_had (0 : Int32)) (fun x1 =>
  Option.bind (aget 201 c_had (200 : Int32)) (fun v2 =>
  some (l1, v2, x1)))

def L_X8_findTrees_2 : Nat → Int32 → (Nat → Int32) → (Nat → Int64) → Int32 → Option ((Nat → Int64))
  | 0, _, _, _, _ => none
  | n + 1, c_seed, c_is, c_trees, l1 =>
    if (200 : Int32) ≤ l1 then
      some c_trees
    else
      Option.bind (aget 200 c_is l1) (fun v1 =>
      if v1 = (1 : Int32) then
        Option.bind (f_X8_treeOf c_seed c_is (l1 / (50 : Int32)) (l1 - l1 / (50 : Int32) * (50 : Int32))) (fun x3 =>
        Option.bind (asetL 200 c_trees l1 x3) (fun f4 =>
        L_X8_findTrees_2 n c_seed c_is f4 (l1 + (1 : Int32))))
      else
        Option.bind (asetL 200 c_trees l1 (0 : Int64)) (fun f2 =>
        L_X8_findTrees_2 n c_seed c_is f2 (l1 + (1 : Int32))))
def f_X8_findTrees (c_seed : Int32) (c_is : Nat → Int32) (c_trees : Nat → Int64) : Option ((Nat → Int64)) :=
  Option.bind (L_X8_findTrees_2 20000 c_seed c_is c_trees (0 : Int32)) (fun x1 =>
  some x1)

def L_X8_workNow_4 : Nat → Int32 → (Nat → Int32) → (Nat → Int64) → Int32 → Int32 → Option (Int32)
  | 0, _, _, _, _, _ => none
  | n + 1, c_seed, c_is, c_trees, l1, l2 =>
    if (200 : Int32) ≤ l2 then
      some l1
    else
      Option.bind (aget 200 c_is l2) (fun v1 =>
      if v1 = (1 : Int32) then
        Option.bind (f_X8_treeOf c_seed c_is (l2 / (50 : Int32)) (l2 - l2 / (50 : Int32) * (50 : Int32))) (fun x2 =>
        Option.bind (aget 200 c_trees l2) (fun v3 =>
        if (lg_cmp x2 v3) = (0 : Int32) then
          L_X8_workNow_4 n c_seed c_is c_trees (l1 + (0 : Int32)) (l2 + (1 : Int32))
        else
          L_X8_workNow_4 n c_seed c_is c_trees (l1 + (1 : Int32)) (l2 + (1 : Int32))))
      else
        L_X8_workNow_4 n c_seed c_is c_trees (l1 + (0 : Int32)) (l2 + (1 : Int32)))
def f_X8_workNow (c_seed : Int32) (c_is : Nat → Int32) (c_trees : Nat → Int64) : Option (Int32) :=
  Option.bind (L_X8_workNow_4 20000 c_seed c_is c_trees (0 : Int32) (0 : Int32)) (fun x1 =>
  some x1)

def L_X8_areAlike_17 : Nat → (Nat → Int32) → Int32 → Int32 → Int32 → Int32 → Option (Int32)
  | 0, _, _, _, _, _ => none
  | n + 1, c_is, l1, l2, l3, l4 =>
    if (50 : Int32) ≤ l4 then
      some l3
    else
      if l3 = (0 : Int32) then
        L_X8_areAlike_17 n c_is l1 l2 (0 : Int32) (l4 + (1 : Int32))
      else
        Option.bind (f_X8_has c_is l1 l4) (fun x1 =>
        Option.bind (f_X8_has c_is l2 l4) (fun x2 =>
        if x1 = x2 then
          L_X8_areAlike_17 n c_is l1 l2 (1 : Int32) (l4 + (1 : Int32))
        else
          L_X8_areAlike_17 n c_is l1 l2 (0 : Int32) (l4 + (1 : Int32))))
def f_X8_areAlike (c_is : Nat → Int32) (l1 : Int32) (l2 : Int32) : Option (Int32) :=
  Option.bind (f_X8_many c_is l1) (fun x1 =>
  Option.bind (
    if x1 ≤ (0 : Int32) then
      some (0 : Int32)
    else
      some (1 : Int32)) (fun x2 =>
  Option.bind (L_X8_areAlike_17 20000 c_is l1 l2 x2 (0 : Int32)) (fun x3 =>
  Option.bind (bz x3) (fun v4 =>
  some x3))))

def L_X8_alikeOnes_13 : Nat → (Nat → Int32) → Int32 → Int32 → Int32 → Option (Int32)
  | 0, _, _, _, _ => none
  | n + 1, c_is, l1, l2, l3 =>
    if (4 : Int32) ≤ l3 then
      some l1
    else
      Option.bind (f_X8_areAlike c_is l2 l3) (fun x1 =>
      if x1 = (0 : Int32) then
        L_X8_alikeOnes_13 n c_is (l1 ||| (0 : Int32)) l2 (l3 + (1 : Int32))
      else
        L_X8_alikeOnes_13 n c_is (l1 ||| ((1 : Int32) <<< ((((4 : Int32) * l2) + l3) &&& 31))) l2 (l3 + (1 : Int32)))
def L_X8_alikeOnes_4 : Nat → (Nat → Int32) → Int32 → Int32 → Option (Int32)
  | 0, _, _, _ => none
  | n + 1, c_is, l1, l2 =>
    if (4 : Int32) ≤ l2 then
      some l1
    else
      Option.bind (L_X8_alikeOnes_13 20000 c_is l1 l2 (l2 + (1 : Int32))) (fun x1 =>
      L_X8_alikeOnes_4 n c_is x1 (l2 + (1 : Int32)))
def f_X8_alikeOnes (c_is : Nat → Int32) : Option (Int32) :=
  Option.bind (L_X8_alikeOnes_4 20000 c_is (0 : Int32) (0 : Int32)) (fun x1 =>
  some x1)

def L_X8_leastOf_2 : Nat → Int32 → Int32 → Option (Int32)
  | 0, _, _ => none
  | n + 1, l0, l1 =>
    if ((l0 >>> (l1 &&& 31)) &&& (1 : Int32)) = (0 : Int32) then
      L_X8_leastOf_2 n l0 (l1 + (1 : Int32))
    else
      some l1
def f_X8_leastOf (l0 : Int32) : Option (Int32) :=
  Option.bind (L_X8_leastOf_2 20000 l0 (0 : Int32)) (fun x1 =>
  some x1)

def f_X8_goOne (c_seed : Int32) (c_is : Nat → Int32) (c_act : Nat → Int32) (c_which : Nat → Int32) (c_key : Nat → Int32) (c_other : Nat → Int32) (c_alikeAct : Int32) (c_alikeTwo : Int32) (c_work : Int32) (c_isWorked : Int32) (c_trees : Nat → Int64) (l1 : Int32) : Option (Int32 × (Nat → Int32) × Int32 × Int32 × Int32 × (Nat → Int64)) :=
  Option.bind (f_X8_alikeOnes c_is) (fun x1 =>
  Option.bind (
    if c_isWorked = (0 : Int32) then
      some c_trees
    else
      Option.bind (f_X8_findTrees c_seed c_is c_trees) (fun x2 =>
      some x2)) (fun x3 =>
  Option.bind (aget 60 c_act l1) (fun v4 =>
  Option.bind (aget 60 c_which l1) (fun v5 =>
  Option.bind (aget 60 c_key l1) (fun v6 =>
  Option.bind (aget 60 c_other l1) (fun v7 =>
  Option.bind (f_X8_happen c_seed c_is v4 v5 v6 v7) (fun x8 =>
  Option.bind (
    if c_isWorked = (0 : Int32) then
      some (0 : Int32)
    else
      Option.bind (f_X8_workNow x8.1 x8.2 x3) (fun x9 =>
      some x9)) (fun x10 =>
  Option.bind (f_X8_alikeOnes x8.2) (fun x11 =>
  if (x11 &&& (x1 ^^^ (-1 : Int32))) = (0 : Int32) then
    some (x8.1, x8.2, c_alikeAct, c_alikeTwo, (c_work + x10), x3)
  else
    if (0 : Int32) ≤ c_alikeAct then
      some (x8.1, x8.2, c_alikeAct, c_alikeTwo, (c_work + x10), x3)
    else
      Option.bind (f_X8_leastOf (x11 &&& (x1 ^^^ (-1 : Int32)))) (fun x12 =>
      Option.bind (f_X8_leastOf (x11 &&& (x1 ^^^ (-1 : Int32)))) (fun x13 =>
      some (x8.1, x8.2, l1, (((10 : Int32) * (x12 / (4 : Int32))) + (x13 - x13 / (4 : Int32) * (4 : Int32))), (c_work + x10), x3))))))))))))

def L_X8_goActs_31 : Nat → Int32 → (Nat → Int32) → (Nat → Int32) → (Nat → Int32) → (Nat → Int32) → (Nat → Int32) → Int32 → Int32 → Int32 → Int32 → Int32 → Int32 → Int32 → (Nat → Int64) → Int32 → Option (Int32 × (Nat → Int32) × Int32 × Int32 × Int32 × Int32 × Int32 × (Nat → Int64))
  | 0, _, _, _, _, _, _, _, _, _, _, _, _, _, _, _ => none
  | n + 1, c_seed, c_is, c_act, c_which, c_key, c_other, c_acts, c_badAct, c_badWhy, c_alikeAct, c_alikeTwo, c_work, c_isWorked, c_trees, l1 =>
    if c_acts ≤ l1 then
      some (c_seed, c_is, c_badAct, c_badWhy, c_alikeAct, c_alikeTwo, c_work, c_trees)
    else
      if (0 : Int32) ≤ c_badAct then
        some (c_seed, c_is, c_badAct, c_badWhy, c_alikeAct, c_alikeTwo, c_work, c_trees)
      else
        Option.bind (aget 60 c_act l1) (fun v1 =>
        Option.bind (aget 60 c_which l1) (fun v2 =>
        Option.bind (aget 60 c_key l1) (fun v3 =>
        Option.bind (aget 60 c_other l1) (fun v4 =>
        Option.bind (f_X8_whyNot c_seed c_is v1 v2 v3 v4) (fun x5 =>
        Option.bind (
          if x5 ≤ (0 : Int32) then
            some (-6 : Int32)
          else
            some l1) (fun x6 =>
        if x5 ≤ (0 : Int32) then
          if x5 = (0 : Int32) then
            Option.bind (f_X8_goOne c_seed c_is c_act c_which c_key c_other c_alikeAct c_alikeTwo c_work c_isWorked c_trees l1) (fun x7 =>
            L_X8_goActs_31 n x7.1 x7.2.1 c_act c_which c_key c_other c_acts x6 (-6 : Int32) x7.2.2.1 x7.2.2.2.1 x7.2.2.2.2.1 c_isWorked x7.2.2.2.2.2 (l1 + (1 : Int32)))
          else
            L_X8_goActs_31 n c_seed c_is c_act c_which c_key c_other c_acts x6 (-6 : Int32) c_alikeAct c_alikeTwo c_work c_isWorked c_trees (l1 + (1 : Int32))
        else
          if x5 = (0 : Int32) then
            Option.bind (f_X8_goOne c_seed c_is c_act c_which c_key c_other c_alikeAct c_alikeTwo c_work c_isWorked c_trees l1) (fun x8 =>
            L_X8_goActs_31 n x8.1 x8.2.1 c_act c_which c_key c_other c_acts x6 x5 x8.2.2.1 x8.2.2.2.1 x8.2.2.2.2.1 c_isWorked x8.2.2.2.2.2 (l1 + (1 : Int32)))
          else
            L_X8_goActs_31 n c_seed c_is c_act c_which c_key c_other c_acts x6 x5 c_alikeAct c_alikeTwo c_work c_isWorked c_trees (l1 + (1 : Int32))))))))
def f_X8_goActs (c_seed : Int32) (c_is : Nat → Int32) (c_act : Nat → Int32) (c_which : Nat → Int32) (c_key : Nat → Int32) (c_other : Nat → Int32) (c_acts : Int32) (c_badAct : Int32) (c_badWhy : Int32) (c_alikeAct : Int32) (c_alikeTwo : Int32) (c_work : Int32) (c_isWorked : Int32) (c_trees : Nat → Int64) : Option (Int32 × (Nat → Int32) × Int32 × Int32 × Int32 × Int32 × Int32 × (Nat → Int64)) :=
  Option.bind (L_X8_goActs_31 20000 c_seed c_is c_act c_which c_key c_other c_acts (-6 : Int32) (-6 : Int32) (-6 : Int32) (-6 : Int32) (0 : Int32) c_isWorked c_trees (0 : Int32)) (fun x1 =>
  some (x1.1, x1.2.1, x1.2.2.1, x1.2.2.2.1, x1.2.2.2.2.1, x1.2.2.2.2.2.1, x1.2.2.2.2.2.2.1, x1.2.2.2.2.2.2.2))

def f_X8_refusal (c_seed : Int32) (c_is : Nat → Int32) (c_pad : Nat → Int32) (c_padMany : Int32) (c_act : Nat → Int32) (c_which : Nat → Int32) (c_key : Nat → Int32) (c_other : Nat → Int32) (c_acts : Int32) (c_had : Nat → Int32) (c_badAct : Int32) (c_badWhy : Int32) (c_alikeAct : Int32) (c_alikeTwo : Int32) (c_work : Int32) (c_isWorked : Int32) (c_trees : Nat → Int64) (l1 : Int32) : Option (Int32 × Int32 × (Nat → Int32) × (Nat → Int32) × (Nat → Int32) × (Nat → Int32) × (Nat → Int32) × Int32 × (Nat → Int32) × Int32 × Int32 × Int32 × Int32 × Int32 × Int32 × (Nat → Int64)) :=
  Option.bind (f_X8_keepNow c_seed c_is c_had) (fun x1 =>
  Option.bind (bz l1) (fun v2 =>
  Option.bind (f_X8_fault c_pad c_padMany c_act c_which c_key c_other c_acts) (fun x3 =>
  if x3.1 < (0 : Int32) then
    Option.bind (f_X8_goActs c_seed c_is x3.2.1 x3.2.2.1 x3.2.2.2.1 x3.2.2.2.2.1 x3.2.2.2.2.2 c_badAct c_badWhy c_alikeAct c_alikeTwo c_work l1 c_trees) (fun x4 =>
    if x4.2.2.1 < (0 : Int32) then
      some ((-6 : Int32), x4.1, x4.2.1, x3.2.1, x3.2.2.1, x3.2.2.2.1, x3.2.2.2.2.1, x3.2.2.2.2.2, x1, x4.2.2.1, x4.2.2.2.1, x4.2.2.2.2.1, x4.2.2.2.2.2.1, x4.2.2.2.2.2.2.1, l1, x4.2.2.2.2.2.2.2)
    else
      some ((-3 : Int32), x4.1, x4.2.1, x3.2.1, x3.2.2.1, x3.2.2.2.1, x3.2.2.2.2.1, x3.2.2.2.2.2, x1, x4.2.2.1, x4.2.2.2.1, x4.2.2.2.2.1, x4.2.2.2.2.2.1, x4.2.2.2.2.2.2.1, l1, x4.2.2.2.2.2.2.2))
  else
    some ((-5 : Int32), c_seed, c_is, x3.2.1, x3.2.2.1, x3.2.2.2.1, x3.2.2.2.2.1, x3.2.2.2.2.2, x1, c_badAct, c_badWhy, c_alikeAct, c_alikeTwo, c_work, l1, c_trees))))

def f_X8_judge (c_seed : Int32) (c_is : Nat → Int32) (c_pad : Nat → Int32) (c_padMany : Int32) (c_act : Nat → Int32) (c_which : Nat → Int32) (c_key : Nat → Int32) (c_other : Nat → Int32) (c_acts : Int32) (c_had : Nat → Int32) (c_badAct : Int32) (c_badWhy : Int32) (c_alikeAct : Int32) (c_alikeTwo : Int32) (c_work : Int32) (c_isWorked : Int32) (c_trees : Nat → Int64) (l1 : Int32) : Option (Int32 × Int32 × (Nat → Int32) × (Nat → Int32) × (Nat → Int32) × (Nat → Int32) × (Nat → Int32) × Int32 × (Nat → Int32) × Int32 × Int32 × Int32 × Int32 × Int32 × Int32 × (Nat → Int64)) :=
  Option.bind (f_X8_in l1.toInt64 (0 : Int64) (2 : Int64)) (fun x1 =>
  if x1 = (0 : Int32) then
    some ((-2 : Int32), c_seed, c_is, c_act, c_which, c_key, c_other, c_acts, c_had, c_badAct, c_badWhy, c_alikeAct, c_alikeTwo, c_work, c_isWorked, c_trees)
  else
    Option.bind (
      if l1 = (2 : Int32) then
        some (1 : Int32)
      else
        some (0 : Int32)) (fun x2 =>
    Option.bind (f_X8_refusal c_seed c_is c_pad c_padMany c_act c_which c_key c_other c_acts c_had c_badAct c_badWhy c_alikeAct c_alikeTwo c_work c_isWorked c_trees x2) (fun x3 =>
    Option.bind (f_X8_back x3.2.1 x3.2.2.1 x3.2.2.2.2.2.2.2.2.1 x3.1) (fun x4 =>
    if x4.1 = (-5 : Int32) then
      some (x4.1, x4.2.1, x4.2.2, x3.2.2.2.1, x3.2.2.2.2.1, x3.2.2.2.2.2.1, x3.2.2.2.2.2.2.1, x3.2.2.2.2.2.2.2.1, x3.2.2.2.2.2.2.2.2.1, x3.2.2.2.2.2.2.2.2.2.1, x3.2.2.2.2.2.2.2.2.2.2.1, x3.2.2.2.2.2.2.2.2.2.2.2.1, x3.2.2.2.2.2.2.2.2.2.2.2.2.1, x3.2.2.2.2.2.2.2.2.2.2.2.2.2.1, x3.2.2.2.2.2.2.2.2.2.2.2.2.2.2.1, x3.2.2.2.2.2.2.2.2.2.2.2.2.2.2.2)
    else
      if l1 ≤ (1 : Int32) then
        if l1 = (0 : Int32) then
          some (x3.2.2.2.2.2.2.2.2.2.1, x4.2.1, x4.2.2, x3.2.2.2.1, x3.2.2.2.2.1, x3.2.2.2.2.2.1, x3.2.2.2.2.2.2.1, x3.2.2.2.2.2.2.2.1, x3.2.2.2.2.2.2.2.2.1, x3.2.2.2.2.2.2.2.2.2.1, x3.2.2.2.2.2.2.2.2.2.2.1, x3.2.2.2.2.2.2.2.2.2.2.2.1, x3.2.2.2.2.2.2.2.2.2.2.2.2.1, x3.2.2.2.2.2.2.2.2.2.2.2.2.2.1, x3.2.2.2.2.2.2.2.2.2.2.2.2.2.2.1, x3.2.2.2.2.2.2.2.2.2.2.2.2.2.2.2)
        else
          if l1 = (1 : Int32) then
            some (x3.2.2.2.2.2.2.2.2.2.2.1, x4.2.1, x4.2.2, x3.2.2.2.1, x3.2.2.2.2.1, x3.2.2.2.2.2.1, x3.2.2.2.2.2.2.1, x3.2.2.2.2.2.2.2.1, x3.2.2.2.2.2.2.2.2.1, x3.2.2.2.2.2.2.2.2.2.1, x3.2.2.2.2.2.2.2.2.2.2.1, x3.2.2.2.2.2.2.2.2.2.2.2.1, x3.2.2.2.2.2.2.2.2.2.2.2.2.1, x3.2.2.2.2.2.2.2.2.2.2.2.2.2.1, x3.2.2.2.2.2.2.2.2.2.2.2.2.2.2.1, x3.2.2.2.2.2.2.2.2.2.2.2.2.2.2.2)
          else
            some (x3.2.2.2.2.2.2.2.2.2.2.2.2.2.1, x4.2.1, x4.2.2, x3.2.2.2.1, x3.2.2.2.2.1, x3.2.2.2.2.2.1, x3.2.2.2.2.2.2.1, x3.2.2.2.2.2.2.2.1, x3.2.2.2.2.2.2.2.2.1, x3.2.2.2.2.2.2.2.2.2.1, x3.2.2.2.2.2.2.2.2.2.2.1, x3.2.2.2.2.2.2.2.2.2.2.2.1, x3.2.2.2.2.2.2.2.2.2.2.2.2.1, x3.2.2.2.2.2.2.2.2.2.2.2.2.2.1, x3.2.2.2.2.2.2.2.2.2.2.2.2.2.2.1, x3.2.2.2.2.2.2.2.2.2.2.2.2.2.2.2)
      else
        if x4.1 = (-3 : Int32) then
          some (x4.1, x4.2.1, x4.2.2, x3.2.2.2.1, x3.2.2.2.2.1, x3.2.2.2.2.2.1, x3.2.2.2.2.2.2.1, x3.2.2.2.2.2.2.2.1, x3.2.2.2.2.2.2.2.2.1, x3.2.2.2.2.2.2.2.2.2.1, x3.2.2.2.2.2.2.2.2.2.2.1, x3.2.2.2.2.2.2.2.2.2.2.2.1, x3.2.2.2.2.2.2.2.2.2.2.2.2.1, x3.2.2.2.2.2.2.2.2.2.2.2.2.2.1, x3.2.2.2.2.2.2.2.2.2.2.2.2.2.2.1, x3.2.2.2.2.2.2.2.2.2.2.2.2.2.2.2)
        else
          if l1 = (0 : Int32) then
            some (x3.2.2.2.2.2.2.2.2.2.1, x4.2.1, x4.2.2, x3.2.2.2.1, x3.2.2.2.2.1, x3.2.2.2.2.2.1, x3.2.2.2.2.2.2.1, x3.2.2.2.2.2.2.2.1, x3.2.2.2.2.2.2.2.2.1, x3.2.2.2.2.2.2.2.2.2.1, x3.2.2.2.2.2.2.2.2.2.2.1, x3.2.2.2.2.2.2.2.2.2.2.2.1, x3.2.2.2.2.2.2.2.2.2.2.2.2.1, x3.2.2.2.2.2.2.2.2.2.2.2.2.2.1, x3.2.2.2.2.2.2.2.2.2.2.2.2.2.2.1, x3.2.2.2.2.2.2.2.2.2.2.2.2.2.2.2)
          else
            if l1 = (1 : Int32) then
              some (x3.2.2.2.2.2.2.2.2.2.2.1, x4.2.1, x4.2.2, x3.2.2.2.1, x3.2.2.2.2.1, x3.2.2.2.2.2.1, x3.2.2.2.2.2.2.1, x3.2.2.2.2.2.2.2.1, x3.2.2.2.2.2.2.2.2.1, x3.2.2.2.2.2.2.2.2.2.1, x3.2.2.2.2.2.2.2.2.2.2.1, x3.2.2.2.2.2.2.2.2.2.2.2.1, x3.2.2.2.2.2.2.2.2.2.2.2.2.1, x3.2.2.2.2.2.2.2.2.2.2.2.2.2.1, x3.2.2.2.2.2.2.2.2.2.2.2.2.2.2.1, x3.2.2.2.2.2.2.2.2.2.2.2.2.2.2.2)
            else
              some (x3.2.2.2.2.2.2.2.2.2.2.2.2.2.1, x4.2.1, x4.2.2, x3.2.2.2.1, x3.2.2.2.2.1, x3.2.2.2.2.2.1, x3.2.2.2.2.2.2.1, x3.2.2.2.2.2.2.2.1, x3.2.2.2.2.2.2.2.2.1, x3.2.2.2.2.2.2.2.2.2.1, x3.2.2.2.2.2.2.2.2.2.2.1, x3.2.2.2.2.2.2.2.2.2.2.2.1, x3.2.2.2.2.2.2.2.2.2.2.2.2.1, x3.2.2.2.2.2.2.2.2.2.2.2.2.2.1, x3.2.2.2.2.2.2.2.2.2.2.2.2.2.2.1, x3.2.2.2.2.2.2.2.2.2.2.2.2.2.2.2)))))

def f_X8_ofSet (c_seed : Int32) (c_is : Nat → Int32) (c_order : Nat → Int32) (c_digest : Nat → Int64) (c_tall : Nat → Int32) (l1 : Int32) (l2 : Int32) : Option (Int32 × (Nat → Int32) × (Nat → Int64) × (Nat → Int32)) :=
  Option.bind (f_X8_digestOf c_seed c_is c_order c_digest c_tall l1 (0 : Int32) (49 : Int32)) (fun x1 =>
  Option.bind (f_X8_rootOf c_seed c_is l1 (0 : Int32) (49 : Int32)) (fun x2 =>
  if l2 = (0 : Int32) then
    Option.bind (f_X8_many c_is l1) (fun x4 =>
    some (x4, x1.2.1, x1.2.2.1, x1.2.2.2))
  else
    if l2 = (1 : Int32) then
      some (x1.1, x1.2.1, x1.2.2.1, x1.2.2.2)
    else
      if l2 = (2 : Int32) then
        some (x2, x1.2.1, x1.2.2.1, x1.2.2.2)
      else
        if (0 : Int32) ≤ x2 then
          Option.bind (aget 50 x1.2.2.2 x2) (fun v3 =>
          some (v3, x1.2.1, x1.2.2.1, x1.2.2.2))
        else
          some ((0 : Int32), x1.2.1, x1.2.2.1, x1.2.2.2)))

def f_X8_behind (c_seed : Int32) (c_is : Nat → Int32) (c_pad : Nat → Int32) (c_padMany : Int32) (c_act : Nat → Int32) (c_which : Nat → Int32) (c_key : Nat → Int32) (c_other : Nat → Int32) (c_acts : Int32) (c_order : Nat → Int32) (c_digest : Nat → Int64) (c_tall : Nat → Int32) (c_had : Nat → Int32) (c_badAct : Int32) (c_badWhy : Int32) (c_alikeAct : Int32) (c_alikeTwo : Int32) (c_work : Int32) (c_isWorked : Int32) (c_trees : Nat → Int64) (l1 : Int32) (l2 : Int32) : Option (Int32 × Int32 × (Nat → Int32) × (Nat → Int32) × (Nat → Int32) × (Nat → Int32) × (Nat → Int32) × Int32 × (Nat → Int32) × (Nat → Int64) × (Nat → Int32) × (Nat → Int32) × Int32 × Int32 × Int32 × Int32 × Int32 × Int32 × (Nat → Int64)) :=
  Option.bind (f_X8_isSet l1) (fun x1 =>
  if x1 = (0 : Int32) then
    some ((-1 : Int32), c_seed, c_is, c_act, c_which, c_key, c_other, c_acts, c_order, c_digest, c_tall, c_had, c_badAct, c_badWhy, c_alikeAct, c_alikeTwo, c_work, c_isWorked, c_trees)
  else
    Option.bind (f_X8_in l2.toInt64 (0 : Int64) (3 : Int64)) (fun x2 =>
    if x2 = (0 : Int32) then
      some ((-2 : Int32), c_seed, c_is, c_act, c_which, c_key, c_other, c_acts, c_order, c_digest, c_tall, c_had, c_badAct, c_badWhy, c_alikeAct, c_alikeTwo, c_work, c_isWorked, c_trees)
    else
      Option.bind (f_X8_refusal c_seed c_is c_pad c_padMany c_act c_which c_key c_other c_acts c_had c_badAct c_badWhy c_alikeAct c_alikeTwo c_work c_isWorked c_trees (0 : Int32)) (fun x3 =>
      if x3.1 = (-6 : Int32) then
        Option.bind (f_X8_ofSet x3.2.1 x3.2.2.1 c_order c_digest c_tall l1 l2) (fun x4 =>
        Option.bind (f_X8_back x3.2.1 x3.2.2.1 x3.2.2.2.2.2.2.2.2.1 x4.1) (fun x5 =>
        some (x5.1, x5.2.1, x5.2.2, x3.2.2.2.1, x3.2.2.2.2.1, x3.2.2.2.2.2.1, x3.2.2.2.2.2.2.1, x3.2.2.2.2.2.2.2.1, x4.2.1, x4.2.2.1, x4.2.2.2, x3.2.2.2.2.2.2.2.2.1, x3.2.2.2.2.2.2.2.2.2.1, x3.2.2.2.2.2.2.2.2.2.2.1, x3.2.2.2.2.2.2.2.2.2.2.2.1, x3.2.2.2.2.2.2.2.2.2.2.2.2.1, x3.2.2.2.2.2.2.2.2.2.2.2.2.2.1, x3.2.2.2.2.2.2.2.2.2.2.2.2.2.2.1, x3.2.2.2.2.2.2.2.2.2.2.2.2.2.2.2)))
      else
        Option.bind (f_X8_back x3.2.1 x3.2.2.1 x3.2.2.2.2.2.2.2.2.1 x3.1) (fun x6 =>
        some (x6.1, x6.2.1, x6.2.2, x3.2.2.2.1, x3.2.2.2.2.1, x3.2.2.2.2.2.1, x3.2.2.2.2.2.2.1, x3.2.2.2.2.2.2.2.1, c_order, c_digest, c_tall, x3.2.2.2.2.2.2.2.2.1, x3.2.2.2.2.2.2.2.2.2.1, x3.2.2.2.2.2.2.2.2.2.2.1, x3.2.2.2.2.2.2.2.2.2.2.2.1, x3.2.2.2.2.2.2.2.2.2.2.2.2.1, x3.2.2.2.2.2.2.2.2.2.2.2.2.2.1, x3.2.2.2.2.2.2.2.2.2.2.2.2.2.2.1, x3.2.2.2.2.2.2.2.2.2.2.2.2.2.2.2)))))

def f_X8_alike (c_seed : Int32) (c_is : Nat → Int32) (c_pad : Nat → Int32) (c_padMany : Int32) (c_act : Nat → Int32) (c_which : Nat → Int32) (c_key : Nat → Int32) (c_other : Nat → Int32) (c_acts : Int32) (c_had : Nat → Int32) (c_badAct : Int32) (c_badWhy : Int32) (c_alikeAct : Int32) (c_alikeTwo : Int32) (c_work : Int32) (c_isWorked : Int32) (c_trees : Nat → Int64) (l1 : Int32) : Option (Int32 × Int32 × (Nat → Int32) × (Nat → Int32) × (Nat → Int32) × (Nat → Int32) × (Nat → Int32) × Int32 × (Nat → Int32) × Int32 × Int32 × Int32 × Int32 × Int32 × Int32 × (Nat → Int64)) :=
  Option.bind (f_X8_in l1.toInt64 (0 : Int64) (2 : Int64)) (fun x1 =>
  if x1 = (0 : Int32) then
    some ((-2 : Int32), c_seed, c_is, c_act, c_which, c_key, c_other, c_acts, c_had, c_badAct, c_badWhy, c_alikeAct, c_alikeTwo, c_work, c_isWorked, c_trees)
  else
    Option.bind (f_X8_refusal c_seed c_is c_pad c_padMany c_act c_which c_key c_other c_acts c_had c_badAct c_badWhy c_alikeAct c_alikeTwo c_work c_isWorked c_trees (0 : Int32)) (fun x2 =>
    if x2.1 = (-6 : Int32) then
      if l1 = (0 : Int32) then
        Option.bind (f_X8_back x2.2.1 x2.2.2.1 x2.2.2.2.2.2.2.2.2.1 x2.2.2.2.2.2.2.2.2.2.2.2.1) (fun x5 =>
        some (x5.1, x5.2.1, x5.2.2, x2.2.2.2.1, x2.2.2.2.2.1, x2.2.2.2.2.2.1, x2.2.2.2.2.2.2.1, x2.2.2.2.2.2.2.2.1, x2.2.2.2.2.2.2.2.2.1, x2.2.2.2.2.2.2.2.2.2.1, x2.2.2.2.2.2.2.2.2.2.2.1, x2.2.2.2.2.2.2.2.2.2.2.2.1, x2.2.2.2.2.2.2.2.2.2.2.2.2.1, x2.2.2.2.2.2.2.2.2.2.2.2.2.2.1, x2.2.2.2.2.2.2.2.2.2.2.2.2.2.2.1, x2.2.2.2.2.2.2.2.2.2.2.2.2.2.2.2))
      else
        if l1 = (1 : Int32) then
          Option.bind (f_X8_back x2.2.1 x2.2.2.1 x2.2.2.2.2.2.2.2.2.1 x2.2.2.2.2.2.2.2.2.2.2.2.2.1) (fun x4 =>
          some (x4.1, x4.2.1, x4.2.2, x2.2.2.2.1, x2.2.2.2.2.1, x2.2.2.2.2.2.1, x2.2.2.2.2.2.2.1, x2.2.2.2.2.2.2.2.1, x2.2.2.2.2.2.2.2.2.1, x2.2.2.2.2.2.2.2.2.2.1, x2.2.2.2.2.2.2.2.2.2.2.1, x2.2.2.2.2.2.2.2.2.2.2.2.1, x2.2.2.2.2.2.2.2.2.2.2.2.2.1, x2.2.2.2.2.2.2.2.2.2.2.2.2.2.1, x2.2.2.2.2.2.2.2.2.2.2.2.2.2.2.1, x2.2.2.2.2.2.2.2.2.2.2.2.2.2.2.2))
        else
          Option.bind (f_X8_back x2.2.1 x2.2.2.1 x2.2.2.2.2.2.2.2.2.1 x2.2.1) (fun x3 =>
          some (x3.1, x3.2.1, x3.2.2, x2.2.2.2.1, x2.2.2.2.2.1, x2.2.2.2.2.2.1, x2.2.2.2.2.2.2.1, x2.2.2.2.2.2.2.2.1, x2.2.2.2.2.2.2.2.2.1, x2.2.2.2.2.2.2.2.2.2.1, x2.2.2.2.2.2.2.2.2.2.2.1, x2.2.2.2.2.2.2.2.2.2.2.2.1, x2.2.2.2.2.2.2.2.2.2.2.2.2.1, x2.2.2.2.2.2.2.2.2.2.2.2.2.2.1, x2.2.2.2.2.2.2.2.2.2.2.2.2.2.2.1, x2.2.2.2.2.2.2.2.2.2.2.2.2.2.2.2))
    else
      Option.bind (f_X8_back x2.2.1 x2.2.2.1 x2.2.2.2.2.2.2.2.2.1 x2.1) (fun x6 =>
      some (x6.1, x6.2.1, x6.2.2, x2.2.2.2.1, x2.2.2.2.2.1, x2.2.2.2.2.2.1, x2.2.2.2.2.2.2.1, x2.2.2.2.2.2.2.2.1, x2.2.2.2.2.2.2.2.2.1, x2.2.2.2.2.2.2.2.2.2.1, x2.2.2.2.2.2.2.2.2.2.2.1, x2.2.2.2.2.2.2.2.2.2.2.2.1, x2.2.2.2.2.2.2.2.2.2.2.2.2.1, x2.2.2.2.2.2.2.2.2.2.2.2.2.2.1, x2.2.2.2.2.2.2.2.2.2.2.2.2.2.2.1, x2.2.2.2.2.2.2.2.2.2.2.2.2.2.2.2))))

def f_X8_done (c_seed : Int32) (c_is : Nat → Int32) (c_pad : Nat → Int32) (c_padMany : Int32) (c_act : Nat → Int32) (c_which : Nat → Int32) (c_key : Nat → Int32) (c_other : Nat → Int32) (c_acts : Int32) (c_had : Nat → Int32) (c_badAct : Int32) (c_badWhy : Int32) (c_alikeAct : Int32) (c_alikeTwo : Int32) (c_work : Int32) (c_isWorked : Int32) (c_trees : Nat → Int64) : Option (Int32 × Int32 × (Nat → Int32) × Int32 × (Nat → Int32) × (Nat → Int32) × (Nat → Int32) × (Nat → Int32) × Int32 × (Nat → Int32) × Int32 × Int32 × Int32 × Int32 × Int32 × Int32 × (Nat → Int64)) :=
  Option.bind (f_X8_refusal c_seed c_is c_pad c_padMany c_act c_which c_key c_other c_acts c_had c_badAct c_badWhy c_alikeAct c_alikeTwo c_work c_isWorked c_trees (0 : Int32)) (fun x1 =>
  if x1.1 = (-6 : Int32) then
    some (x1.2.2.2.2.2.2.2.1, x1.2.1, x1.2.2.1, (0 : Int32), x1.2.2.2.1, x1.2.2.2.2.1, x1.2.2.2.2.2.1, x1.2.2.2.2.2.2.1, x1.2.2.2.2.2.2.2.1, x1.2.2.2.2.2.2.2.2.1, x1.2.2.2.2.2.2.2.2.2.1, x1.2.2.2.2.2.2.2.2.2.2.1, x1.2.2.2.2.2.2.2.2.2.2.2.1, x1.2.2.2.2.2.2.2.2.2.2.2.2.1, x1.2.2.2.2.2.2.2.2.2.2.2.2.2.1, x1.2.2.2.2.2.2.2.2.2.2.2.2.2.2.1, x1.2.2.2.2.2.2.2.2.2.2.2.2.2.2.2)
  else
    Option.bind (f_X8_back x1.2.1 x1.2.2.1 x1.2.2.2.2.2.2.2.2.1 x1.1) (fun x2 =>
    some (x2.1, x2.2.1, x2.2.2, c_padMany, x1.2.2.2.1, x1.2.2.2.2.1, x1.2.2.2.2.2.1, x1.2.2.2.2.2.2.1, x1.2.2.2.2.2.2.2.1, x1.2.2.2.2.2.2.2.2.1, x1.2.2.2.2.2.2.2.2.2.1, x1.2.2.2.2.2.2.2.2.2.2.1, x1.2.2.2.2.2.2.2.2.2.2.2.1, x1.2.2.2.2.2.2.2.2.2.2.2.2.1, x1.2.2.2.2.2.2.2.2.2.2.2.2.2.1, x1.2.2.2.2.2.2.2.2.2.2.2.2.2.2.1, x1.2.2.2.2.2.2.2.2.2.2.2.2.2.2.2)))

def f_X8_aboveOf (c_seed : Int32) (c_is : Nat → Int32) (l1 : Int32) (l2 : Int32) : Option (Int32) :=
  Option.bind (f_X8_below c_seed c_is l1 l2 (0 : Int32)) (fun x1 =>
  Option.bind (f_X8_beyond c_seed c_is l1 l2 (49 : Int32)) (fun x2 =>
  if (0 : Int32) ≤ x1 then
    if x2 = (50 : Int32) then
      some x1
    else
      Option.bind (f_X8_ranks c_seed x2 x1) (fun x3 =>
      if x3 = (0 : Int32) then
        some x2
      else
        some x1)
  else
    if (50 : Int32) ≤ x2 then
      some (-6 : Int32)
    else
      some x2))

def L_X8_depthOf_10 : Nat → Int32 → (Nat → Int32) → Int32 → Int32 → Int32 → Option (Int32)
  | 0, _, _, _, _, _ => none
  | n + 1, c_seed, c_is, l1, l3, l4 =>
    if l4 < (0 : Int32) then
      some l3
    else
      Option.bind (f_X8_aboveOf c_seed c_is l1 l4) (fun x1 =>
      L_X8_depthOf_10 n c_seed c_is l1 (l3 + (1 : Int32)) x1)
def f_X8_depthOf (c_seed : Int32) (c_is : Nat → Int32) (l1 : Int32) (l2 : Int32) : Option (Int32) :=
  Option.bind (f_X8_aboveOf c_seed c_is l1 l2) (fun x1 =>
  Option.bind (L_X8_depthOf_10 20000 c_seed c_is l1 (0 : Int32) x1) (fun x2 =>
  some x2))

def f_X8_digestAt (c_seed : Int32) (c_is : Nat → Int32) (c_order : Nat → Int32) (c_digest : Nat → Int64) (c_tall : Nat → Int32) (l1 : Int32) (l2 : Int32) : Option (Int32 × (Nat → Int32) × (Nat → Int64) × (Nat → Int32)) :=
  Option.bind (f_X8_digestOf c_seed c_is c_order c_digest c_tall l1 (0 : Int32) (49 : Int32)) (fun x1 =>
  Option.bind (aget 50 x1.2.2.1 l2) (fun v2 =>
  some (v2.toInt32, x1.2.1, x1.2.2.1, x1.2.2.2)))

def f_X8_node (c_seed : Int32) (c_is : Nat → Int32) (c_order : Nat → Int32) (c_digest : Nat → Int64) (c_tall : Nat → Int32) (l1 : Int32) (l2 : Int32) (l3 : Int32) : Option (Int32 × (Nat → Int32) × (Nat → Int64) × (Nat → Int32)) :=
  Option.bind (f_X8_isSet l1) (fun x1 =>
  if x1 = (0 : Int32) then
    some ((-1 : Int32), c_order, c_digest, c_tall)
  else
    Option.bind (f_X8_isKey l2) (fun x2 =>
    if x2 = (0 : Int32) then
      some ((-1 : Int32), c_order, c_digest, c_tall)
    else
      Option.bind (f_X8_in l3.toInt64 (0 : Int64) (6 : Int64)) (fun x3 =>
      if x3 = (0 : Int32) then
        some ((-2 : Int32), c_order, c_digest, c_tall)
      else
        Option.bind (f_X8_has c_is l1 l2) (fun x4 =>
        if x4 = (0 : Int32) then
          some ((-3 : Int32), c_order, c_digest, c_tall)
        else
          if l3 = (0 : Int32) then
            Option.bind (f_X8_aboveOf c_seed c_is l1 l2) (fun x5 =>
            some (x5, c_order, c_digest, c_tall))
          else
            if l3 = (1 : Int32) then
              Option.bind (f_X8_below c_seed c_is l1 l2 (0 : Int32)) (fun x6 =>
              Option.bind (f_X8_rootOf c_seed c_is l1 (x6 + (1 : Int32)) (l2 - (1 : Int32))) (fun x7 =>
              some (x7, c_order, c_digest, c_tall)))
            else
              if l3 = (2 : Int32) then
                Option.bind (f_X8_beyond c_seed c_is l1 l2 (49 : Int32)) (fun x8 =>
                Option.bind (f_X8_rootOf c_seed c_is l1 (l2 + (1 : Int32)) (x8 - (1 : Int32))) (fun x9 =>
                some (x9, c_order, c_digest, c_tall)))
              else
                if l3 = (3 : Int32) then
                  Option.bind (f_X8_treeOf c_seed c_is l1 l2) (fun x10 =>
                  Option.bind (f_X8_ones x10) (fun x11 =>
                  some (x11, c_order, c_digest, c_tall)))
                else
                  if l3 = (4 : Int32) then
                    Option.bind (f_X8_digestAt c_seed c_is c_order c_digest c_tall l1 l2) (fun x12 =>
                    some (x12.1, x12.2.1, x12.2.2.1, x12.2.2.2))
                  else
                    if l3 = (5 : Int32) then
                      Option.bind (f_X8_depthOf c_seed c_is l1 l2) (fun x13 =>
                      some (x13, c_order, c_digest, c_tall))
                    else
                      Option.bind (f_X8_priorityBy c_seed l2) (fun x14 =>
                      some (x14, c_order, c_digest, c_tall))))))

def L_X8_place_21 : Nat → (Nat → Int32) → Int32 → Int32 → Int32 → Int32 → Option (Int32)
  | 0, _, _, _, _, _ => none
  | n + 1, c_is, l1, l2, l3, l4 =>
    if l2 ≤ l4 then
      some l3
    else
      Option.bind (aget 200 c_is (((50 : Int32) * l1) + l4)) (fun v1 =>
      L_X8_place_21 n c_is l1 l2 (l3 + v1) (l4 + (1 : Int32)))
def f_X8_place (c_is : Nat → Int32) (l1 : Int32) (l2 : Int32) : Option (Int32) :=
  Option.bind (f_X8_isSet l1) (fun x1 =>
  if x1 = (0 : Int32) then
    some (-1 : Int32)
  else
    Option.bind (f_X8_isKey l2) (fun x2 =>
    if x2 = (0 : Int32) then
      some (-1 : Int32)
    else
      Option.bind (L_X8_place_21 20000 c_is l1 l2 (0 : Int32) (0 : Int32)) (fun x3 =>
      some x3)))

def L_X8_at_14 : Nat → (Nat → Int32) → Int32 → Int32 → Int32 → Int32 → Option (Int32)
  | 0, _, _, _, _, _ => none
  | n + 1, c_is, l1, l2, l3, l4 =>
    if (50 : Int32) ≤ l4 then
      some (-6 : Int32)
    else
      Option.bind (f_X8_has c_is l1 l4) (fun x1 =>
      if x1 = (0 : Int32) then
        L_X8_at_14 n c_is l1 l2 l3 (l4 + (1 : Int32))
      else
        if l3 = l2 then
          some l4
        else
          L_X8_at_14 n c_is l1 l2 (l3 + (1 : Int32)) (l4 + (1 : Int32)))
def f_X8_at (c_is : Nat → Int32) (l1 : Int32) (l2 : Int32) : Option (Int32) :=
  Option.bind (f_X8_isSet l1) (fun x1 =>
  if x1 = (0 : Int32) then
    some (-1 : Int32)
  else
    L_X8_at_14 20000 c_is l1 l2 (0 : Int32) (0 : Int32))

def f_X8_partsAt (c_seed : Int32) (c_is : Nat → Int32) (c_order : Nat → Int32) (c_digest : Nat → Int64) (c_tall : Nat → Int32) (l1 : Int32) (l2 : Int32) (l3 : Int32) (l4 : Int32) : Option (Int32 × (Nat → Int32) × (Nat → Int64) × (Nat → Int32)) :=
  Option.bind (f_X8_rootOf c_seed c_is l1 l3 l4) (fun x1 =>
  Option.bind (f_X8_rootOf c_seed c_is l2 l3 l4) (fun x2 =>
  if x1 < (0 : Int32) then
    some ((-6 : Int32), c_order, c_digest, c_tall)
  else
    if x2 < (0 : Int32) then
      some ((-6 : Int32), c_order, c_digest, c_tall)
    else
      Option.bind (f_X8_digestOf c_seed c_is c_order c_digest c_tall l1 l3 l4) (fun x3 =>
      Option.bind (f_X8_digestOf c_seed c_is x3.2.1 x3.2.2.1 x3.2.2.2 l2 l3 l4) (fun x4 =>
      if x3.1 = x4.1 then
        some ((-6 : Int32), x4.2.1, x4.2.2.1, x4.2.2.2)
      else
        if x1 = x2 then
          some (x1, x4.2.1, x4.2.2.1, x4.2.2.2)
        else
          Option.bind (f_X8_ranks c_seed x1 x2) (fun x5 =>
          if x5 = (0 : Int32) then
            some (x2, x4.2.1, x4.2.2.1, x4.2.2.2)
          else
            some (x1, x4.2.1, x4.2.2.1, x4.2.2.2))))))

def L_X8_looks_20 : Nat → Int32 → (Nat → Int32) → (Nat → Int32) → (Nat → Int64) → (Nat → Int32) → (Nat → Int32) → (Nat → Int32) → Int32 → Int32 → Int32 → Int32 → Option (Int32 × (Nat → Int32) × (Nat → Int64) × (Nat → Int32) × (Nat → Int32) × (Nat → Int32))
  | 0, _, _, _, _, _, _, _, _, _, _, _ => none
  | n + 1, c_seed, c_is, c_order, c_digest, c_tall, c_from, c_upTo, l1, l2, l3, l4 =>
    if l4 ≤ (0 : Int32) then
      some (l3, c_order, c_digest, c_tall, c_from, c_upTo)
    else
      Option.bind (aget 120 c_from (l4 + (-1 : Int32))) (fun v1 =>
      Option.bind (aget 120 c_upTo (l4 + (-1 : Int32))) (fun v2 =>
      Option.bind (f_X8_partsAt c_seed c_is c_order c_digest c_tall l1 l2 v1 v2) (fun x3 =>
      if x3.1 < (0 : Int32) then
        L_X8_looks_20 n c_seed c_is x3.2.1 x3.2.2.1 x3.2.2.2 c_from c_upTo l1 l2 (l3 + (1 : Int32)) (l4 + (-1 : Int32))
      else
        Option.bind (aset 120 c_from (l4 + (-1 : Int32)) v1) (fun f4 =>
        Option.bind (aset 120 c_upTo (l4 + (-1 : Int32)) (x3.1 - (1 : Int32))) (fun f5 =>
        Option.bind (aset 120 f4 ((l4 + (-1 : Int32)) + (1 : Int32)) (x3.1 + (1 : Int32))) (fun f6 =>
        Option.bind (aset 120 f5 ((l4 + (-1 : Int32)) + (1 : Int32)) v2) (fun f7 =>
        L_X8_looks_20 n c_seed c_is x3.2.1 x3.2.2.1 x3.2.2.2 f6 f7 l1 l2 (l3 + (1 : Int32)) ((l4 + (-1 : Int32)) + (2 : Int32)))))))))
def f_X8_looks (c_seed : Int32) (c_is : Nat → Int32) (c_order : Nat → Int32) (c_digest : Nat → Int64) (c_tall : Nat → Int32) (c_from : Nat → Int32) (c_upTo : Nat → Int32) (l1 : Int32) (l2 : Int32) : Option (Int32 × (Nat → Int32) × (Nat → Int64) × (Nat → Int32) × (Nat → Int32) × (Nat → Int32)) :=
  Option.bind (aset 120 c_from (0 : Int32) (0 : Int32)) (fun f1 =>
  Option.bind (aset 120 c_upTo (0 : Int32) (49 : Int32)) (fun f2 =>
  Option.bind (L_X8_looks_20 20000 c_seed c_is c_order c_digest c_tall f1 f2 l1 l2 (0 : Int32) (1 : Int32)) (fun x3 =>
  some (x3.1, x3.2.1, x3.2.2.1, x3.2.2.2.1, x3.2.2.2.2.1, x3.2.2.2.2.2))))

def L_X8_apartMany_5 : Nat → (Nat → Int32) → Int32 → Int32 → Int32 → Int32 → Option (Int32)
  | 0, _, _, _, _, _ => none
  | n + 1, c_is, l1, l2, l3, l4 =>
    if (50 : Int32) ≤ l4 then
      some l3
    else
      Option.bind (f_X8_has c_is l1 l4) (fun x1 =>
      Option.bind (f_X8_has c_is l2 l4) (fun x2 =>
      if x1 = x2 then
        L_X8_apartMany_5 n c_is l1 l2 (l3 + (0 : Int32)) (l4 + (1 : Int32))
      else
        L_X8_apartMany_5 n c_is l1 l2 (l3 + (1 : Int32)) (l4 + (1 : Int32))))
def f_X8_apartMany (c_is : Nat → Int32) (l1 : Int32) (l2 : Int32) : Option (Int32) :=
  Option.bind (L_X8_apartMany_5 20000 c_is l1 l2 (0 : Int32) (0 : Int32)) (fun x1 =>
  some x1)

def L_X8_shared_5 : Nat → Int32 → (Nat → Int32) → Int32 → Int32 → Int32 → Int32 → Option (Int32)
  | 0, _, _, _, _, _, _ => none
  | n + 1, c_seed, c_is, l1, l2, l3, l4 =>
    if (50 : Int32) ≤ l4 then
      some l3
    else
      Option.bind (f_X8_has c_is l1 l4) (fun x1 =>
      if x1 = (0 : Int32) then
        L_X8_shared_5 n c_seed c_is l1 l2 (l3 + (0 : Int32)) (l4 + (1 : Int32))
      else
        Option.bind (f_X8_has c_is l2 l4) (fun x2 =>
        if x2 = (0 : Int32) then
          L_X8_shared_5 n c_seed c_is l1 l2 (l3 + (0 : Int32)) (l4 + (1 : Int32))
        else
          Option.bind (f_X8_treeOf c_seed c_is l1 l4) (fun x3 =>
          Option.bind (f_X8_treeOf c_seed c_is l2 l4) (fun x4 =>
          if (lg_cmp x3 x4) = (0 : Int32) then
            L_X8_shared_5 n c_seed c_is l1 l2 (l3 + (1 : Int32)) (l4 + (1 : Int32))
          else
            L_X8_shared_5 n c_seed c_is l1 l2 (l3 + (0 : Int32)) (l4 + (1 : Int32))))))
def f_X8_shared (c_seed : Int32) (c_is : Nat → Int32) (l1 : Int32) (l2 : Int32) : Option (Int32) :=
  Option.bind (L_X8_shared_5 20000 c_seed c_is l1 l2 (0 : Int32) (0 : Int32)) (fun x1 =>
  some x1)

def f_X8_apart (c_seed : Int32) (c_is : Nat → Int32) (c_order : Nat → Int32) (c_digest : Nat → Int64) (c_tall : Nat → Int32) (c_from : Nat → Int32) (c_upTo : Nat → Int32) (l1 : Int32) (l2 : Int32) (l3 : Int32) : Option (Int32 × (Nat → Int32) × (Nat → Int64) × (Nat → Int32) × (Nat → Int32) × (Nat → Int32)) :=
  Option.bind (f_X8_isSet l1) (fun x1 =>
  if x1 = (0 : Int32) then
    some ((-1 : Int32), c_order, c_digest, c_tall, c_from, c_upTo)
  else
    Option.bind (f_X8_isSet l2) (fun x2 =>
    if x2 = (0 : Int32) then
      some ((-1 : Int32), c_order, c_digest, c_tall, c_from, c_upTo)
    else
      Option.bind (f_X8_in l3.toInt64 (0 : Int64) (2 : Int64)) (fun x3 =>
      if x3 = (0 : Int32) then
        some ((-2 : Int32), c_order, c_digest, c_tall, c_from, c_upTo)
      else
        if l3 = (0 : Int32) then
          Option.bind (f_X8_apartMany c_is l1 l2) (fun x6 =>
          some (x6, c_order, c_digest, c_tall, c_from, c_upTo))
        else
          if l3 = (1 : Int32) then
            Option.bind (f_X8_looks c_seed c_is c_order c_digest c_tall c_from c_upTo l1 l2) (fun x5 =>
            some (x5.1, x5.2.1, x5.2.2.1, x5.2.2.2.1, x5.2.2.2.2.1, x5.2.2.2.2.2))
          else
            Option.bind (f_X8_shared c_seed c_is l1 l2) (fun x4 =>
            some (x4, c_order, c_digest, c_tall, c_from, c_upTo)))))

def L_X8_differs_22 : Nat → (Nat → Int32) → Int32 → Int32 → Int32 → Int32 → Int32 → Option (Int32)
  | 0, _, _, _, _, _, _ => none
  | n + 1, c_is, l1, l2, l3, l4, l5 =>
    if (50 : Int32) ≤ l5 then
      some (-6 : Int32)
    else
      Option.bind (f_X8_has c_is l1 l5) (fun x1 =>
      Option.bind (f_X8_has c_is l2 l5) (fun x2 =>
      if x1 = x2 then
        L_X8_differs_22 n c_is l1 l2 l3 l4 (l5 + (1 : Int32))
      else
        if l4 = l3 then
          some l5
        else
          L_X8_differs_22 n c_is l1 l2 l3 (l4 + (1 : Int32)) (l5 + (1 : Int32))))
def f_X8_differs (c_is : Nat → Int32) (l1 : Int32) (l2 : Int32) (l3 : Int32) : Option (Int32) :=
  Option.bind (f_X8_isSet l1) (fun x1 =>
  if x1 = (0 : Int32) then
    some (-1 : Int32)
  else
    Option.bind (f_X8_isSet l2) (fun x2 =>
    if x2 = (0 : Int32) then
      some (-1 : Int32)
    else
      L_X8_differs_22 20000 c_is l1 l2 l3 (0 : Int32) (0 : Int32)))

def f_X8_above (c_sightOne : Nat → Int32) (c_sightOther : Nat → Int32) (c_sights : Int32) (l1 : Int32) (l2 : Int32) : Option (Int32 × (Nat → Int32) × (Nat → Int32) × Int32) :=
  Option.bind (f_X8_isKey l1) (fun x1 =>
  if x1 = (0 : Int32) then
    some ((-1 : Int32), c_sightOne, c_sightOther, c_sights)
  else
    Option.bind (f_X8_isKey l2) (fun x2 =>
    if x2 = (0 : Int32) then
      some ((-1 : Int32), c_sightOne, c_sightOther, c_sights)
    else
      if l1 = l2 then
        some ((-2 : Int32), c_sightOne, c_sightOther, c_sights)
      else
        if c_sights = (8 : Int32) then
          some ((-4 : Int32), c_sightOne, c_sightOther, c_sights)
        else
          Option.bind (aset 8 c_sightOne c_sights l1) (fun f3 =>
          Option.bind (aset 8 c_sightOther c_sights l2) (fun f4 =>
          some ((c_sights + (1 : Int32)), f3, f4, (c_sights + (1 : Int32)))))))

def f_X8_forget (c_sights : Int32) : Option (Int32 × Int32) :=
  some (c_sights, (0 : Int32))

def L_X8_isFit_4 : Nat → (Nat → Int32) → (Nat → Int32) → Int32 → Int32 → Int32 → Int32 → Option (Int32)
  | 0, _, _, _, _, _, _ => none
  | n + 1, c_sightOne, c_sightOther, c_sights, l1, l2, l3 =>
    if c_sights ≤ l3 then
      some l2
    else
      if l2 = (0 : Int32) then
        L_X8_isFit_4 n c_sightOne c_sightOther c_sights l1 (0 : Int32) (l3 + (1 : Int32))
      else
        Option.bind (aget 8 c_sightOne l3) (fun v1 =>
        Option.bind (aget 8 c_sightOther l3) (fun v2 =>
        Option.bind (f_X8_ranksBy l1 v1 v2) (fun x3 =>
        if x3 = (0 : Int32) then
          L_X8_isFit_4 n c_sightOne c_sightOther c_sights l1 (0 : Int32) (l3 + (1 : Int32))
        else
          L_X8_isFit_4 n c_sightOne c_sightOther c_sights l1 (1 : Int32) (l3 + (1 : Int32)))))
def f_X8_isFit (c_sightOne : Nat → Int32) (c_sightOther : Nat → Int32) (c_sights : Int32) (l1 : Int32) : Option (Int32) :=
  Option.bind (L_X8_isFit_4 20000 c_sightOne c_sightOther c_sights l1 (1 : Int32) (0 : Int32)) (fun x1 =>
  Option.bind (bz x1) (fun v2 =>
  some x1))

def L_X8_seeds_4 : Nat → (Nat → Int32) → (Nat → Int32) → Int32 → Int32 → Int32 → Int32 → Option (Int32)
  | 0, _, _, _, _, _, _ => none
  | n + 1, c_sightOne, c_sightOther, c_sights, l1, l2, l3 =>
    if (9999 : Int32) < l3 then
      if l1 = (-1 : Int32) then
        some l2
      else
        some (-6 : Int32)
    else
      Option.bind (f_X8_isFit c_sightOne c_sightOther c_sights l3) (fun x1 =>
      if x1 = (0 : Int32) then
        L_X8_seeds_4 n c_sightOne c_sightOther c_sights l1 l2 (l3 + (1 : Int32))
      else
        if l2 = l1 then
          some l3
        else
          L_X8_seeds_4 n c_sightOne c_sightOther c_sights l1 (l2 + (1 : Int32)) (l3 + (1 : Int32)))
def f_X8_seeds (c_sightOne : Nat → Int32) (c_sightOther : Nat → Int32) (c_sights : Int32) (l1 : Int32) : Option (Int32) :=
  L_X8_seeds_4 20000 c_sightOne c_sightOther c_sights l1 (0 : Int32) (0 : Int32)

def L_X8_orders_30 : Nat → (Nat → Int32) → Int32 → Int64 → Int32 → Option (Int64)
  | 0, _, _, _, _ => none
  | n + 1, c_is, l1, l2, l4 =>
    Option.bind (f_X8_many c_is l1) (fun x1 =>
    if x1 < l4 then
      some l2
    else
      L_X8_orders_30 n c_is l1 (l2 * l4.toInt64) (l4 + (1 : Int32)))
def L_X8_orders_55 : Nat → Int32 → (Nat → Int32) → Int32 → Int64 → Int32 → Option (Int64)
  | 0, _, _, _, _, _ => none
  | n + 1, c_seed, c_is, l1, l2, l4 =>
    if (50 : Int32) ≤ l4 then
      some l2
    else
      Option.bind (f_X8_has c_is l1 l4) (fun x1 =>
      if x1 = (0 : Int32) then
        L_X8_orders_55 n c_seed c_is l1 (l2 / (1 : Int64)) (l4 + (1 : Int32))
      else
        Option.bind (f_X8_treeOf c_seed c_is l1 l4) (fun x2 =>
        Option.bind (f_X8_ones x2) (fun x3 =>
        Option.bind (jdivL l2 x3.toInt64) (fun v4 =>
        L_X8_orders_55 n c_seed c_is l1 v4 (l4 + (1 : Int32))))))
def f_X8_orders (c_seed : Int32) (c_is : Nat → Int32) (l1 : Int32) : Option (Int64) :=
  Option.bind (f_X8_isSet l1) (fun x1 =>
  if x1 = (0 : Int32) then
    some (-1 : Int64)
  else
    Option.bind (f_X8_many c_is l1) (fun x2 =>
    if x2 ≤ (20 : Int32) then
      Option.bind (L_X8_orders_30 20000 c_is l1 (1 : Int64) (2 : Int32)) (fun x3 =>
      Option.bind (L_X8_orders_55 20000 c_seed c_is l1 x3 (0 : Int32)) (fun x4 =>
      some x4))
    else
      some (-3 : Int64)))

def L_X8_shapes_39 : Nat → (Nat → Int64) → Int32 → Int32 → Option ((Nat → Int64))
  | 0, _, _, _ => none
  | n + 1, c_shape, l2, l3 =>
    if l2 ≤ l3 then
      some c_shape
    else
      Option.bind (aget 31 c_shape l2) (fun v1 =>
      Option.bind (aget 31 c_shape l3) (fun v2 =>
      Option.bind (aget 31 c_shape ((l2 - (1 : Int32)) - l3)) (fun v3 =>
      Option.bind (asetL 31 c_shape l2 (v1 + (v2 * v3))) (fun f4 =>
      L_X8_shapes_39 n f4 l2 (l3 + (1 : Int32))))))
def L_X8_shapes_25 : Nat → (Nat → Int64) → Int32 → Int32 → Option ((Nat → Int64))
  | 0, _, _, _ => none
  | n + 1, c_shape, l1, l2 =>
    if l1 < l2 then
      some c_shape
    else
      Option.bind (asetL 31 c_shape l2 (0 : Int64)) (fun f1 =>
      Option.bind (L_X8_shapes_39 20000 f1 l2 (0 : Int32)) (fun x2 =>
      L_X8_shapes_25 n x2 l1 (l2 + (1 : Int32))))
def f_X8_shapes (c_shape : Nat → Int64) (l1 : Int32) : Option (Int64 × (Nat → Int64)) :=
  Option.bind (f_X8_in l1.toInt64 (0 : Int64) (30 : Int64)) (fun x1 =>
  if x1 = (0 : Int32) then
    some ((-2 : Int64), c_shape)
  else
    Option.bind (asetL 31 c_shape (0 : Int32) (1 : Int64)) (fun f2 =>
    Option.bind (L_X8_shapes_25 20000 f2 l1 (1 : Int32)) (fun x3 =>
    Option.bind (aget 31 x3 l1) (fun v4 =>
    some (v4, x3)))))

def L_X8_divisor_6 : Nat → Int64 → Int64 → Option (Int64)
  | 0, _, _ => none
  | n + 1, l4, l6 =>
    if (lg_cmp l6 (0 : Int64)) = (0 : Int32) then
      some l4
    else
      Option.bind (jremL l4 l6) (fun v1 =>
      L_X8_divisor_6 n l6 v1)
def f_X8_divisor (l0 : Int64) (l2 : Int64) : Option (Int64) :=
  Option.bind (L_X8_divisor_6 20000 l2 l0) (fun x1 =>
  some x1)

def L_X8_deep_45 : Nat → Int64 → Int32 → Option (Int64)
  | 0, _, _ => none
  | n + 1, l4, l6 =>
    if (20 : Int32) < l6 then
      some l4
    else
      Option.bind (f_X8_divisor l4 l6.toInt64) (fun x1 =>
      Option.bind (jdivL l4 x1) (fun v2 =>
      L_X8_deep_45 n (v2 * l6.toInt64) (l6 + (1 : Int32))))
def L_X8_deep_81 : Nat → Int32 → Int32 → Int64 → Int64 → Int32 → Option (Int64)
  | 0, _, _, _, _, _ => none
  | n + 1, l1, l2, l4, l6, l8 =>
    if l1 ≤ l8 then
      some l6
    else
      Option.bind (
        if l2 ≤ l8 then
          some (l8 - l2)
        else
          some (l2 - l8)) (fun x1 =>
      if x1 = (0 : Int32) then
        L_X8_deep_81 n l1 l2 l4 (l6 + (0 : Int64)) (l8 + (1 : Int32))
      else
        Option.bind (jdivL l4 ((x1 + (1 : Int32)).toInt64)) (fun v2 =>
        L_X8_deep_81 n l1 l2 l4 (l6 + v2) (l8 + (1 : Int32))))
def f_X8_deep (l1 : Int32) (l2 : Int32) (l3 : Int32) : Option (Int64) :=
  Option.bind (f_X8_in l1.toInt64 (1 : Int64) (20 : Int64)) (fun x1 =>
  if x1 = (0 : Int32) then
    some (-1000000000000000002 : Int64)
  else
    Option.bind (f_X8_in l2.toInt64 (0 : Int64) ((l1 - (1 : Int32)).toInt64)) (fun x2 =>
    if x2 = (0 : Int32) then
      some (-1000000000000000002 : Int64)
    else
      Option.bind (f_X8_in l3.toInt64 (0 : Int64) (1 : Int64)) (fun x3 =>
      if x3 = (0 : Int32) then
        some (-1000000000000000002 : Int64)
      else
        Option.bind (L_X8_deep_45 20000 (1 : Int64) (2 : Int32)) (fun x4 =>
        Option.bind (L_X8_deep_81 20000 l1 l2 x4 (0 : Int64) (0 : Int32)) (fun x5 =>
        Option.bind (f_X8_divisor x5 x4) (fun x6 =>
        if l3 = (0 : Int32) then
          Option.bind (jdivL x5 x6) (fun v8 =>
          some v8)
        else
          Option.bind (jdivL x4 x6) (fun v7 =>
          some v7)))))))

def f_X8_actBy (l0 : Int32) (l1 : Int32) : Option (Int32) :=
  if (3 : Int32) ≤ l0 then
    if (5 : Int32) ≤ l0 then
      if l0 = (5 : Int32) then
        some (2 : Int32)
      else
        if l0 = (6 : Int32) then
          if ((l1 / (16 : Int32)) - (l1 / (16 : Int32)) / (2 : Int32) * (2 : Int32)) = (0 : Int32) then
            some (3 : Int32)
          else
            some (5 : Int32)
        else
          if (l1 - l1 / (4 : Int32) * (4 : Int32)) = (0 : Int32) then
            some (7 : Int32)
          else
            some (4 : Int32)
    else
      some (1 : Int32)
  else
    some (0 : Int32)

def f_X8_drawn (c_seed : Int32) (c_is : Nat → Int32) (l1 : Int32) (l2 : Int32) : Option (Int32 × (Nat → Int32)) :=
  Option.bind (f_X8_actBy l1 l2) (fun x1 =>
  Option.bind (
    if (5 : Int32) ≤ l1 then
      if l1 = (7 : Int32) then
        some ((l2 / (4 : Int32)) - (l2 / (4 : Int32)) / (4 : Int32) * (4 : Int32))
      else
        some (l2 - l2 / (4 : Int32) * (4 : Int32))
    else
      some ((l2 / (50 : Int32)) - (l2 / (50 : Int32)) / (4 : Int32) * (4 : Int32))) (fun x2 =>
  Option.bind (
    if (5 : Int32) ≤ l1 then
      some ((l2 / (4 : Int32)) - (l2 / (4 : Int32)) / (50 : Int32) * (50 : Int32))
    else
      some (l2 - l2 / (50 : Int32) * (50 : Int32))) (fun x3 =>
  Option.bind (
    if l1 = (5 : Int32) then
      some ((l2 / (200 : Int32)) - (l2 / (200 : Int32)) / (4 : Int32) * (4 : Int32))
    else
      if l1 = (6 : Int32) then
        some ((l2 / (4 : Int32)) - (l2 / (4 : Int32)) / (4 : Int32) * (4 : Int32))
      else
        some ((l2 / (16 : Int32)) - (l2 / (16 : Int32)) / (4 : Int32) * (4 : Int32))) (fun x4 =>
  Option.bind (f_X8_whyNot c_seed c_is x1 x2 x3 x4) (fun x5 =>
  if x5 = (0 : Int32) then
    Option.bind (f_X8_happen c_seed c_is x1 x2 x3 x4) (fun x6 =>
    some (x6.1, x6.2))
  else
    some (c_seed, c_is))))))

def L_X8_run_49 : Nat → Int32 → (Nat → Int32) → Int32 → Int32 → Int32 → Option (Int32 × (Nat → Int32))
  | 0, _, _, _, _, _ => none
  | n + 1, c_seed, c_is, l2, l4, l5 =>
    if l2 ≤ l5 then
      some (c_seed, c_is)
    else
      Option.bind (f_X8_drawn c_seed c_is (((((75 : Int64) * l4.toInt64) + (74 : Int64)) - (((75 : Int64) * l4.toInt64) + (74 : Int64)) / (65537 : Int64) * (65537 : Int64)).toInt32 - ((((75 : Int64) * l4.toInt64) + (74 : Int64)) - (((75 : Int64) * l4.toInt64) + (74 : Int64)) / (65537 : Int64) * (65537 : Int64)).toInt32 / (8 : Int32) * (8 : Int32)) (((((75 : Int64) * l4.toInt64) + (74 : Int64)) - (((75 : Int64) * l4.toInt64) + (74 : Int64)) / (65537 : Int64) * (65537 : Int64)).toInt32 / (8 : Int32))) (fun x1 =>
      L_X8_run_49 n x1.1 x1.2 l2 (((((75 : Int64) * l4.toInt64) + (74 : Int64)) - (((75 : Int64) * l4.toInt64) + (74 : Int64)) / (65537 : Int64) * (65537 : Int64)).toInt32) (l5 + (1 : Int32)))
def f_X8_run (c_seed : Int32) (c_is : Nat → Int32) (c_order : Nat → Int32) (c_digest : Nat → Int64) (c_tall : Nat → Int32) (c_had : Nat → Int32) (l1 : Int32) (l2 : Int32) (l3 : Int32) : Option (Int32 × Int32 × (Nat → Int32) × (Nat → Int32) × (Nat → Int64) × (Nat → Int32) × (Nat → Int32)) :=
  Option.bind (f_X8_in l1.toInt64 (0 : Int64) (9999 : Int64)) (fun x1 =>
  if x1 = (0 : Int32) then
    some ((-2 : Int32), c_seed, c_is, c_order, c_digest, c_tall, c_had)
  else
    Option.bind (f_X8_in l2.toInt64 (1 : Int64) (99 : Int64)) (fun x2 =>
    if x2 = (0 : Int32) then
      some ((-2 : Int32), c_seed, c_is, c_order, c_digest, c_tall, c_had)
    else
      Option.bind (f_X8_in l3.toInt64 (0 : Int64) (2 : Int64)) (fun x3 =>
      if x3 = (0 : Int32) then
        some ((-2 : Int32), c_seed, c_is, c_order, c_digest, c_tall, c_had)
      else
        Option.bind (f_X8_keepNow c_seed c_is c_had) (fun x4 =>
        Option.bind (L_X8_run_49 20000 c_seed c_is l2 l1 (0 : Int32)) (fun x5 =>
        Option.bind (f_X8_many x5.2 (0 : Int32)) (fun x6 =>
        Option.bind (f_X8_many x5.2 (1 : Int32)) (fun x7 =>
        Option.bind (f_X8_many x5.2 (2 : Int32)) (fun x8 =>
        Option.bind (f_X8_many x5.2 (3 : Int32)) (fun x9 =>
        if l3 = (0 : Int32) then
          Option.bind (f_X8_digestOf x5.1 x5.2 c_order c_digest c_tall (0 : Int32) (0 : Int32) (49 : Int32)) (fun x12 =>
          Option.bind (f_X8_back x5.1 x5.2 x4 x12.1) (fun x13 =>
          some (x13.1, x13.2.1, x13.2.2, x12.2.1, x12.2.2.1, x12.2.2.2, x4)))
        else
          if l3 = (1 : Int32) then
            Option.bind (f_X8_back x5.1 x5.2 x4 (((x6 + x7) + x8) + x9)) (fun x11 =>
            some (x11.1, x11.2.1, x11.2.2, c_order, c_digest, c_tall, x4))
          else
            Option.bind (f_X8_back x5.1 x5.2 x4 x5.1) (fun x10 =>
            some (x10.1, x10.2.1, x10.2.2, c_order, c_digest, c_tall, x4)))))))))))

def f_X8_pass (c_kept : Nat → Int32) (c_keptAt : Int32) (c_isWriting : Int32) (l1 : Int32) : Option (Int32 × (Nat → Int32) × Int32) :=
  Option.bind (
    if c_isWriting = (0 : Int32) then
      Option.bind (aget 460 c_kept c_keptAt) (fun v1 =>
      some v1)
    else
      some l1) (fun x2 =>
  Option.bind (aset 460 c_kept c_keptAt x2) (fun f3 =>
  some (x2, f3, (c_keptAt + (1 : Int32)))))

def L_X8_passRow_is_2 : Nat → (Nat → Int32) → (Nat → Int32) → Int32 → Int32 → Int32 → Int32 → Option ((Nat → Int32) × (Nat → Int32) × Int32)
  | 0, _, _, _, _, _, _ => none
  | n + 1, c_is, c_kept, c_keptAt, c_isWriting, l2, l3 =>
    if l2 ≤ l3 then
      some (c_is, c_kept, c_keptAt)
    else
      Option.bind (aget 200 c_is l3) (fun v1 =>
      Option.bind (f_X8_pass c_kept c_keptAt c_isWriting v1) (fun x2 =>
      Option.bind (aset 200 c_is l3 x2.1) (fun f3 =>
      L_X8_passRow_is_2 n f3 x2.2.1 x2.2.2 c_isWriting l2 (l3 + (1 : Int32)))))
def f_X8_passRow_is (c_is : Nat → Int32) (c_kept : Nat → Int32) (c_keptAt : Int32) (c_isWriting : Int32) (l2 : Int32) : Option ((Nat → Int32) × (Nat → Int32) × Int32) :=
  Option.bind (L_X8_passRow_is_2 20000 c_is c_kept c_keptAt c_isWriting l2 (0 : Int32)) (fun x1 =>
  some (x1.1, x1.2.1, x1.2.2))

def L_X8_passRow_sightOne_2 : Nat → (Nat → Int32) → (Nat → Int32) → Int32 → Int32 → Int32 → Int32 → Option ((Nat → Int32) × (Nat → Int32) × Int32)
  | 0, _, _, _, _, _, _ => none
  | n + 1, c_sightOne, c_kept, c_keptAt, c_isWriting, l2, l3 =>
    if l2 ≤ l3 then
      some (c_sightOne, c_kept, c_keptAt)
    else
      Option.bind (aget 8 c_sightOne l3) (fun v1 =>
      Option.bind (f_X8_pass c_kept c_keptAt c_isWriting v1) (fun x2 =>
      Option.bind (aset 8 c_sightOne l3 x2.1) (fun f3 =>
      L_X8_passRow_sightOne_2 n f3 x2.2.1 x2.2.2 c_isWriting l2 (l3 + (1 : Int32)))))
def f_X8_passRow_sightOne (c_sightOne : Nat → Int32) (c_kept : Nat → Int32) (c_keptAt : Int32) (c_isWriting : Int32) (l2 : Int32) : Option ((Nat → Int32) × (Nat → Int32) × Int32) :=
  Option.bind (L_X8_passRow_sightOne_2 20000 c_sightOne c_kept c_keptAt c_isWriting l2 (0 : Int32)) (fun x1 =>
  some (x1.1, x1.2.1, x1.2.2))

def L_X8_passRow_sightOther_2 : Nat → (Nat → Int32) → (Nat → Int32) → Int32 → Int32 → Int32 → Int32 → Option ((Nat → Int32) × (Nat → Int32) × Int32)
  | 0, _, _, _, _, _, _ => none
  | n + 1, c_sightOther, c_kept, c_keptAt, c_isWriting, l2, l3 =>
    if l2 ≤ l3 then
      some (c_sightOther, c_kept, c_keptAt)
    else
      Option.bind (aget 8 c_sightOther l3) (fun v1 =>
      Option.bind (f_X8_pass c_kept c_keptAt c_isWriting v1) (fun x2 =>
      Option.bind (aset 8 c_sightOther l3 x2.1) (fun f3 =>
      L_X8_passRow_sightOther_2 n f3 x2.2.1 x2.2.2 c_isWriting l2 (l3 + (1 : Int32)))))
def f_X8_passRow_sightOther (c_sightOther : Nat → Int32) (c_kept : Nat → Int32) (c_keptAt : Int32) (c_isWriting : Int32) (l2 : Int32) : Option ((Nat → Int32) × (Nat → Int32) × Int32) :=
  Option.bind (L_X8_passRow_sightOther_2 20000 c_sightOther c_kept c_keptAt c_isWriting l2 (0 : Int32)) (fun x1 =>
  some (x1.1, x1.2.1, x1.2.2))

def f_X8_passAll (c_seed : Int32) (c_is : Nat → Int32) (c_sightOne : Nat → Int32) (c_sightOther : Nat → Int32) (c_sights : Int32) (c_kept : Nat → Int32) (c_keptAt : Int32) (c_isWriting : Int32) : Option (Int32 × (Nat → Int32) × (Nat → Int32) × (Nat → Int32) × Int32 × (Nat → Int32) × Int32) :=
  Option.bind (f_X8_pass c_kept c_keptAt c_isWriting c_seed) (fun x1 =>
  Option.bind (f_X8_pass x1.2.1 x1.2.2 c_isWriting c_sights) (fun x2 =>
  Option.bind (f_X8_passRow_is c_is x2.2.1 x2.2.2 c_isWriting (200 : Int32)) (fun x3 =>
  Option.bind (f_X8_passRow_sightOne c_sightOne x3.2.1 x3.2.2 c_isWriting (8 : Int32)) (fun x4 =>
  Option.bind (f_X8_passRow_sightOther c_sightOther x4.2.1 x4.2.2 c_isWriting (8 : Int32)) (fun x5 =>
  some (x1.1, x3.1, x4.1, x5.1, x2.1, x5.2.1, x5.2.2))))))

def f_X8_image (c_seed : Int32) (c_is : Nat → Int32) (c_sightOne : Nat → Int32) (c_sightOther : Nat → Int32) (c_sights : Int32) (c_kept : Nat → Int32) (c_isKept : Nat → Int32) (c_keptAt : Int32) (c_isWriting : Int32) (l1 : Int32) : Option (Int32 × Int32 × (Nat → Int32) × (Nat → Int32) × (Nat → Int32) × Int32 × (Nat → Int32) × (Nat → Int32) × Int32 × Int32) :=
  Option.bind (f_X8_in l1.toInt64 (0 : Int64) (1 : Int64)) (fun x1 =>
  if x1 = (0 : Int32) then
    some ((-2 : Int32), c_seed, c_is, c_sightOne, c_sightOther, c_sights, c_kept, c_isKept, c_keptAt, c_isWriting)
  else
    Option.bind (f_X8_passAll c_seed c_is c_sightOne c_sightOther c_sights c_kept ((230 : Int32) * l1) (1 : Int32)) (fun x2 =>
    Option.bind (asetZ 2 c_isKept l1 (1 : Int32)) (fun f3 =>
    some ((1 : Int32), x2.1, x2.2.1, x2.2.2.1, x2.2.2.2.1, x2.2.2.2.2.1, x2.2.2.2.2.2.1, f3, x2.2.2.2.2.2.2, (1 : Int32)))))

def f_X8_restore (c_seed : Int32) (c_is : Nat → Int32) (c_sightOne : Nat → Int32) (c_sightOther : Nat → Int32) (c_sights : Int32) (c_kept : Nat → Int32) (c_isKept : Nat → Int32) (c_keptAt : Int32) (c_isWriting : Int32) (l1 : Int32) : Option (Int32 × Int32 × (Nat → Int32) × (Nat → Int32) × (Nat → Int32) × Int32 × (Nat → Int32) × Int32 × Int32) :=
  Option.bind (f_X8_in l1.toInt64 (0 : Int64) (1 : Int64)) (fun x1 =>
  if x1 = (0 : Int32) then
    some ((-2 : Int32), c_seed, c_is, c_sightOne, c_sightOther, c_sights, c_kept, c_keptAt, c_isWriting)
  else
    Option.bind (aget 2 c_isKept l1) (fun v2 =>
    if v2 = (0 : Int32) then
      some ((-3 : Int32), c_seed, c_is, c_sightOne, c_sightOther, c_sights, c_kept, c_keptAt, c_isWriting)
    else
      Option.bind (f_X8_passAll c_seed c_is c_sightOne c_sightOther c_sights c_kept ((230 : Int32) * l1) (0 : Int32)) (fun x3 =>
      some ((1 : Int32), x3.1, x3.2.1, x3.2.2.1, x3.2.2.2.1, x3.2.2.2.2.1, x3.2.2.2.2.2.1, x3.2.2.2.2.2.2, (0 : Int32)))))

def f_X8_told (c_seed : Int32) (c_is : Nat → Int32) (c_sights : Int32) (c_padMany : Int32) (c_order : Nat → Int32) (c_digest : Nat → Int64) (c_tall : Nat → Int32) (l1 : Int32) : Option (Int32 × (Nat → Int32) × (Nat → Int64) × (Nat → Int32)) :=
  Option.bind (f_X8_in l1.toInt64 (100 : Int64) (449 : Int64)) (fun x1 =>
  if x1 = (0 : Int32) then
    Option.bind (f_X8_in l1.toInt64 (10 : Int64) (13 : Int64)) (fun x2 =>
    if x2 = (0 : Int32) then
      Option.bind (f_X8_in l1.toInt64 (20 : Int64) (23 : Int64)) (fun x3 =>
      if x3 = (0 : Int32) then
        if l1 = (0 : Int32) then
          some (c_padMany, c_order, c_digest, c_tall)
        else
          if l1 = (1 : Int32) then
            some (c_seed, c_order, c_digest, c_tall)
          else
            if l1 = (2 : Int32) then
              some (c_sights, c_order, c_digest, c_tall)
            else
              some ((-2 : Int32), c_order, c_digest, c_tall)
      else
        Option.bind (f_X8_digestOf c_seed c_is c_order c_digest c_tall (l1 - (20 : Int32)) (0 : Int32) (49 : Int32)) (fun x4 =>
        some (x4.1, x4.2.1, x4.2.2.1, x4.2.2.2)))
    else
      Option.bind (f_X8_many c_is (l1 - (10 : Int32))) (fun x5 =>
      some (x5, c_order, c_digest, c_tall)))
  else
    if (50 : Int32) ≤ (l1 - l1 / (100 : Int32) * (100 : Int32)) then
      Option.bind (f_X8_in l1.toInt64 (10 : Int64) (13 : Int64)) (fun x6 =>
      if x6 = (0 : Int32) then
        Option.bind (f_X8_in l1.toInt64 (20 : Int64) (23 : Int64)) (fun x7 =>
        if x7 = (0 : Int32) then
          if l1 = (0 : Int32) then
            some (c_padMany, c_order, c_digest, c_tall)
          else
            if l1 = (1 : Int32) then
              some (c_seed, c_order, c_digest, c_tall)
            else
              if l1 = (2 : Int32) then
                some (c_sights, c_order, c_digest, c_tall)
              else
                some ((-2 : Int32), c_order, c_digest, c_tall)
        else
          Option.bind (f_X8_digestOf c_seed c_is c_order c_digest c_tall (l1 - (20 : Int32)) (0 : Int32) (49 : Int32)) (fun x8 =>
          some (x8.1, x8.2.1, x8.2.2.1, x8.2.2.2)))
      else
        Option.bind (f_X8_many c_is (l1 - (10 : Int32))) (fun x9 =>
        some (x9, c_order, c_digest, c_tall)))
    else
      Option.bind (aget 200 c_is (((50 : Int32) * ((l1 / (100 : Int32)) - (1 : Int32))) + (l1 - l1 / (100 : Int32) * (100 : Int32)))) (fun v10 =>
      some (v10, c_order, c_digest, c_tall)))
