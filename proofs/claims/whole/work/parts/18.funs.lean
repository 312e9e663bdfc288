def f_X7_isWithin  (l0 : Int32) (l1 : Int32) (l2 : Int32) (mi : bv_Mem) : Option (Int32) :=
  if l0 < l1 then
    some (0 : Int32)
  else
    if l2 < l0 then
      some (0 : Int32)
    else
      some (1 : Int32)
def f_X7_isPlace  (l0 : Int32) (mi : bv_Mem) : Option (Int32) :=
  (f_X7_isWithin l0 (0 : Int32) (19 : Int32) mi).bind fun z1 =>
  if z1 = 0 ∨ z1 = 1 then
  some z1
  else none
def f_X7_error  (l1 : Int32) (mi : bv_Mem) : Option (Int32 × bv_Mem) :=
  if bv_in l1 6 = true then
  some (((-1000000000 : Int32) - l1), (bv_up mi 50 l1.toNatClampNeg ((mi 50 l1.toNatClampNeg) + (1 : Int32))))
  else none
def b_X7_land_72  (l1 : Int32) (l3 : Int32) (s0 : Nat) (mi : bv_Mem) : Option (Int32 × bv_Mem) :=
  if bv_isA 74 s0 0 (bv_len s0) = true then
  if bv_in l1 (bv_len s0) = true then
  some ((mi s0 l1.toNatClampNeg), (bv_up mi s0 l1.toNatClampNeg l3))
  else none
  else none
def b_X7_land_11  (l1 : Int32) (l2 : Int32) (l3 : Int32) (s0 : Int32) (mi : bv_Mem) : Option (Int32 × bv_Mem) :=
  (f_X7_isPlace l1 mi).bind fun z1 =>
  if z1 = 0 then
    (f_X7_error (1 : Int32) mi).bind fun z2 =>
    some (z2.1, z2.2)
  else
    (f_X7_isWithin l2 (0 : Int32) (1 : Int32) mi).bind fun z3 =>
    if z3 = 0 then
      (f_X7_error (1 : Int32) mi).bind fun z4 =>
      some (z4.1, z4.2)
    else
      (f_X7_isWithin l3 (0 : Int32) s0 mi).bind fun z5 =>
      if z5 = 0 then
        (f_X7_error (1 : Int32) mi).bind fun z6 =>
        some (z6.1, z6.2)
      else
        if l2 = 0 then
          b_X7_land_72  l1 l3 3 mi
        else
          b_X7_land_72  l1 l3 4 mi
def f_X7_land  (l1 : Int32) (l2 : Int32) (l3 : Int32) (mi : bv_Mem) : Option (Int32 × bv_Mem) :=
  if l2 = 0 then
    b_X7_land_11  l1 l2 l3 (20 : Int32) mi
  else
    b_X7_land_11  l1 l2 l3 (99 : Int32) mi
def b_X1_goneBehind_4 (mi : bv_Mem) : Nat → Int32 → Int32 → Int32 → Option (Int32)
  | 0, _, _, _ => none
  | fu + 1, l1, l2, l3 =>
  if (20 : Int32) ≤ l3 then
    some l2
  else
    if bv_in l3 20 = true then
    if (mi 4 l3.toNatClampNeg) ≤ l1 then
      (b_X1_goneBehind_4 mi fu) l1 l2 (l3 + 1)
    else
      (b_X1_goneBehind_4 mi fu) l1 (l2 ||| ((1 : Int32) <<< (l3 &&& 31))) (l3 + 1)
    else none
def f_X1_goneBehind  (l1 : Int32) (mi : bv_Mem) : Option (Int32) :=
  b_X1_goneBehind_4 mi  400 l1 (0 : Int32) (0 : Int32)
def b_X1_sees_91 (mi : bv_Mem) (k_60 : Int32 → Int32 → Int32 → Int32 → Int32 → Int32 → Int32 → Option (Int32)) (l1 : Int32) (l4 : Int32) (l5 : Int32) (l6 : Int32) (l7 : Int32) (l8 : Int32) (l9 : Int32) (l10 : Int32) (s0 : Int32) : Option (Int32) :=
  if s0 = 0 then
    k_60 l1 l4 l5 l6 l7 l8 (l9 + 1)
  else
    if bv_in l10 20 = true then
    if (((mi 3 l10.toNatClampNeg) - l7) * l6) < (l8 * l9) then
      k_60 l1 l4 l5 l6 l7 l8 (l9 + 1)
    else
      some (0 : Int32)
    else none
def b_X1_sees_60 (mi : bv_Mem) : Nat → Int32 → Int32 → Int32 → Int32 → Int32 → Int32 → Int32 → Option (Int32)
  | 0, _, _, _, _, _, _, _ => none
  | fu + 1, l1, l4, l5, l6, l7, l8, l9 =>
  if l6 ≤ l9 then
    some (1 : Int32)
  else
    if ((l4 >>> ((l1 + (l5 * l9)) &&& 31)) &&& (1 : Int32)) = 0 then
      b_X1_sees_91 mi (b_X1_sees_60 mi fu)  l1 l4 l5 l6 l7 l8 l9 (l1 + (l5 * l9)) (1 : Int32)
    else
      b_X1_sees_91 mi (b_X1_sees_60 mi fu)  l1 l4 l5 l6 l7 l8 l9 (l1 + (l5 * l9)) (0 : Int32)
def b_X1_sees_26 (mi : bv_Mem) (l1 : Int32) (l2 : Int32) (l3 : Int32) (l4 : Int32) (s0 : Int32) : Option (Int32) :=
  if bv_in l1 20 = true then
  if bv_in l2 20 = true then
  b_X1_sees_60 mi  400 l1 l4 s0 (bv_abs (l2 - l1)) ((mi 3 l1.toNatClampNeg) + l3) ((mi 3 l2.toNatClampNeg) - ((mi 3 l1.toNatClampNeg) + l3)) (1 : Int32)
  else none
  else none
def f_X1_sees  (l1 : Int32) (l2 : Int32) (l3 : Int32) (l4 : Int32) (mi : bv_Mem) : Option (Int32) :=
  if l1 = l2 then
    some (0 : Int32)
  else
    if ((l4 >>> (l2 &&& 31)) &&& (1 : Int32)) = 0 then
      if l2 ≤ l1 then
        b_X1_sees_26 mi  l1 l2 l3 l4 (-1 : Int32)
      else
        b_X1_sees_26 mi  l1 l2 l3 l4 (1 : Int32)
    else
      some (0 : Int32)
def b_X1_seenFrom_32 (mi : bv_Mem) : Nat → Int32 → Int32 → Int32 → Int32 → Int32 → Option (Int32)
  | 0, _, _, _, _, _ => none
  | fu + 1, l1, l3, l5, l6, l7 =>
  if l5 ≤ l7 then
    some l6
  else
    (f_X1_sees l1 l7 (0 : Int32) l3 mi).bind fun z1 =>
    if z1 = 0 then
      (b_X1_seenFrom_32 mi fu) l1 l3 l5 l6 (l7 + 1)
    else
      (b_X1_seenFrom_32 mi fu) l1 l3 l5 (l6 ||| ((1 : Int32) <<< (l7 &&& 31))) (l7 + 1)
def b_X1_seenFrom_11 (mi : bv_Mem) (l1 : Int32) (l2 : Int32) (l3 : Int32) (s0 : Int32) : Option (Int32) :=
  if l2 = 0 then
    b_X1_seenFrom_32 mi  400 l1 l3 l1 (0 : Int32) s0
  else
    b_X1_seenFrom_32 mi  400 l1 l3 (20 : Int32) (0 : Int32) s0
def f_X1_seenFrom  (l1 : Int32) (l2 : Int32) (l3 : Int32) (mi : bv_Mem) : Option (Int32) :=
  if l2 = 0 then
    b_X1_seenFrom_11 mi  l1 l2 l3 (0 : Int32)
  else
    b_X1_seenFrom_11 mi  l1 l2 l3 (l1 + (1 : Int32))
def f_X1_seenAround  (l1 : Int32) (l2 : Int32) (mi : bv_Mem) : Option (Int32) :=
  (f_X1_seenFrom l1 (0 : Int32) l2 mi).bind fun z1 =>
  (f_X1_seenFrom l1 (1 : Int32) l2 mi).bind fun z2 =>
  some (z1 ||| z2)
def f_J6_bitCount_0f7a4  (l0 : Int32) (mi : bv_Mem) : Option (Int32) :=
  some ((((((((l0 - ((l0.toUInt32 >>> ((1 : Int32).toUInt32 &&& Int32.toUInt32 31)).toInt32 &&& (1431655765 : Int32))) &&& (858993459 : Int32)) + (((l0 - ((l0.toUInt32 >>> ((1 : Int32).toUInt32 &&& Int32.toUInt32 31)).toInt32 &&& (1431655765 : Int32))).toUInt32 >>> ((2 : Int32).toUInt32 &&& Int32.toUInt32 31)).toInt32 &&& (858993459 : Int32))) + ((((l0 - ((l0.toUInt32 >>> ((1 : Int32).toUInt32 &&& Int32.toUInt32 31)).toInt32 &&& (1431655765 : Int32))) &&& (858993459 : Int32)) + (((l0 - ((l0.toUInt32 >>> ((1 : Int32).toUInt32 &&& Int32.toUInt32 31)).toInt32 &&& (1431655765 : Int32))).toUInt32 >>> ((2 : Int32).toUInt32 &&& Int32.toUInt32 31)).toInt32 &&& (858993459 : Int32))).toUInt32 >>> ((4 : Int32).toUInt32 &&& Int32.toUInt32 31)).toInt32) &&& (252645135 : Int32)) + ((((((l0 - ((l0.toUInt32 >>> ((1 : Int32).toUInt32 &&& Int32.toUInt32 31)).toInt32 &&& (1431655765 : Int32))) &&& (858993459 : Int32)) + (((l0 - ((l0.toUInt32 >>> ((1 : Int32).toUInt32 &&& Int32.toUInt32 31)).toInt32 &&& (1431655765 : Int32))).toUInt32 >>> ((2 : Int32).toUInt32 &&& Int32.toUInt32 31)).toInt32 &&& (858993459 : Int32))) + ((((l0 - ((l0.toUInt32 >>> ((1 : Int32).toUInt32 &&& Int32.toUInt32 31)).toInt32 &&& (1431655765 : Int32))) &&& (858993459 : Int32)) + (((l0 - ((l0.toUInt32 >>> ((1 : Int32).toUInt32 &&& Int32.toUInt32 31)).toInt32 &&& (1431655765 : Int32))).toUInt32 >>> ((2 : Int32).toUInt32 &&& Int32.toUInt32 31)).toInt32 &&& (858993459 : Int32))).toUInt32 >>> ((4 : Int32).toUInt32 &&& Int32.toUInt32 31)).toInt32) &&& (252645135 : Int32)).toUInt32 >>> ((8 : Int32).toUInt32 &&& Int32.toUInt32 31)).toInt32) + (((((((l0 - ((l0.toUInt32 >>> ((1 : Int32).toUInt32 &&& Int32.toUInt32 31)).toInt32 &&& (1431655765 : Int32))) &&& (858993459 : Int32)) + (((l0 - ((l0.toUInt32 >>> ((1 : Int32).toUInt32 &&& Int32.toUInt32 31)).toInt32 &&& (1431655765 : Int32))).toUInt32 >>> ((2 : Int32).toUInt32 &&& Int32.toUInt32 31)).toInt32 &&& (858993459 : Int32))) + ((((l0 - ((l0.toUInt32 >>> ((1 : Int32).toUInt32 &&& Int32.toUInt32 31)).toInt32 &&& (1431655765 : Int32))) &&& (858993459 : Int32)) + (((l0 - ((l0.toUInt32 >>> ((1 : Int32).toUInt32 &&& Int32.toUInt32 31)).toInt32 &&& (1431655765 : Int32))).toUInt32 >>> ((2 : Int32).toUInt32 &&& Int32.toUInt32 31)).toInt32 &&& (858993459 : Int32))).toUInt32 >>> ((4 : Int32).toUInt32 &&& Int32.toUInt32 31)).toInt32) &&& (252645135 : Int32)) + ((((((l0 - ((l0.toUInt32 >>> ((1 : Int32).toUInt32 &&& Int32.toUInt32 31)).toInt32 &&& (1431655765 : Int32))) &&& (858993459 : Int32)) + (((l0 - ((l0.toUInt32 >>> ((1 : Int32).toUInt32 &&& Int32.toUInt32 31)).toInt32 &&& (1431655765 : Int32))).toUInt32 >>> ((2 : Int32).toUInt32 &&& Int32.toUInt32 31)).toInt32 &&& (858993459 : Int32))) + ((((l0 - ((l0.toUInt32 >>> ((1 : Int32).toUInt32 &&& Int32.toUInt32 31)).toInt32 &&& (1431655765 : Int32))) &&& (858993459 : Int32)) + (((l0 - ((l0.toUInt32 >>> ((1 : Int32).toUInt32 &&& Int32.toUInt32 31)).toInt32 &&& (1431655765 : Int32))).toUInt32 >>> ((2 : Int32).toUInt32 &&& Int32.toUInt32 31)).toInt32 &&& (858993459 : Int32))).toUInt32 >>> ((4 : Int32).toUInt32 &&& Int32.toUInt32 31)).toInt32) &&& (252645135 : Int32)).toUInt32 >>> ((8 : Int32).toUInt32 &&& Int32.toUInt32 31)).toInt32).toUInt32 >>> ((16 : Int32).toUInt32 &&& Int32.toUInt32 31)).toInt32) &&& (63 : Int32))
def b_X5_villagesOn_4 (mi : bv_Mem) : Nat → Int32 → Int32 → Int32 → Option (Int32)
  | 0, _, _, _ => none
  | fu + 1, l1, l2, l3 =>
  if (mi 1 2) ≤ l3 then
    some l2
  else
    if bv_in l3 5 = true then
    if (mi 5 l3.toNatClampNeg) = l1 then
      (b_X5_villagesOn_4 mi fu) l1 (l2 ||| ((1 : Int32) <<< (l3 &&& 31))) (l3 + 1)
    else
      (b_X5_villagesOn_4 mi fu) l1 l2 (l3 + 1)
    else none
def f_X5_villagesOn  (l1 : Int32) (mi : bv_Mem) : Option (Int32) :=
  b_X5_villagesOn_4 mi  400 l1 (0 : Int32) (0 : Int32)
def f_X7_ofPlace  (l1 : Int32) (l2 : Int32) (mi : bv_Mem) : Option (Int32 × bv_Mem) :=
  (f_X7_isPlace l1 mi).bind fun z1 =>
  if z1 = 0 then
    (f_X7_error (1 : Int32) mi).bind fun z2 =>
    some (z2.1, z2.2)
  else
    (f_X7_isWithin l2 (0 : Int32) (5 : Int32) mi).bind fun z3 =>
    if z3 = 0 then
      (f_X7_error (1 : Int32) mi).bind fun z12 =>
      some (z12.1, z12.2)
    else
      if l2 = (0 : Int32) then
        if bv_in l1 20 = true then
        some ((mi 3 l1.toNatClampNeg), mi)
        else none
      else if l2 = (1 : Int32) then
        if bv_in l1 20 = true then
        some ((mi 4 l1.toNatClampNeg), mi)
        else none
      else if l2 = (2 : Int32) then
        (f_X1_goneBehind (0 : Int32) mi).bind fun z4 =>
        (f_X1_seenFrom l1 (0 : Int32) z4 mi).bind fun z5 =>
        some (z5, mi)
      else if l2 = (3 : Int32) then
        (f_X1_goneBehind (0 : Int32) mi).bind fun z6 =>
        (f_X1_seenFrom l1 (1 : Int32) z6 mi).bind fun z7 =>
        some (z7, mi)
      else if l2 = (4 : Int32) then
        (f_X1_goneBehind (0 : Int32) mi).bind fun z8 =>
        (f_X1_seenAround l1 z8 mi).bind fun z9 =>
        (f_J6_bitCount_0f7a4 z9 mi).bind fun z10 =>
        some (z10, mi)
      else
      (f_X5_villagesOn l1 mi).bind fun z11 =>
      some (z11, mi)
def f_X7_village  (l1 : Int32) (mi : bv_Mem) : Option (Int32 × bv_Mem) :=
  (f_X7_isPlace l1 mi).bind fun z1 =>
  if z1 = 0 then
    (f_X7_error (1 : Int32) mi).bind fun z3 =>
    some (z3.1, z3.2)
  else
    if (mi 1 2) < (5 : Int32) then
      if bv_in (mi 1 2) 5 = true then
      some ((((bv_up (bv_up mi 5 (mi 1 2).toNatClampNeg l1) 1 2 (((bv_up mi 5 (mi 1 2).toNatClampNeg l1) 1 2) + (1 : Int32))) 1 2) - (1 : Int32)), (bv_up (bv_up mi 5 (mi 1 2).toNatClampNeg l1) 1 2 (((bv_up mi 5 (mi 1 2).toNatClampNeg l1) 1 2) + (1 : Int32))))
      else none
    else
      (f_X7_error (4 : Int32) mi).bind fun z2 =>
      some (z2.1, z2.2)
def f_X7_isVillage  (l1 : Int32) (mi : bv_Mem) : Option (Int32) :=
  (f_X7_isWithin l1 (0 : Int32) ((mi 1 2) - (1 : Int32)) mi).bind fun z1 =>
  if z1 = 0 ∨ z1 = 1 then
  some z1
  else none
def f_X7_moves  (l1 : Int32) (l2 : Int32) (mi : bv_Mem) : Option (Int32 × bv_Mem) :=
  (f_X7_isVillage l1 mi).bind fun z1 =>
  if z1 = 0 then
    (f_X7_error (1 : Int32) mi).bind fun z2 =>
    some (z2.1, z2.2)
  else
    (f_X7_isPlace l2 mi).bind fun z3 =>
    if z3 = 0 then
      (f_X7_error (1 : Int32) mi).bind fun z4 =>
      some (z4.1, z4.2)
    else
      if bv_in l1 5 = true then
      some ((mi 5 l1.toNatClampNeg), (bv_up mi 5 l1.toNatClampNeg l2))
      else none
def f_X7_at  (l1 : Int32) (mi : bv_Mem) : Option (Int32 × bv_Mem) :=
  (f_X7_isVillage l1 mi).bind fun z1 =>
  if z1 = 0 then
    (f_X7_error (1 : Int32) mi).bind fun z2 =>
    some (z2.1, z2.2)
  else
    if bv_in l1 5 = true then
    some ((mi 5 l1.toNatClampNeg), mi)
    else none
def f_X7_isKindWithNumber  (l0 : Int32) (mi : bv_Mem) : Option (Int32) :=
  (f_X7_isWithin l0 (0 : Int32) (69 : Int32) mi).bind fun z1 =>
  if z1 = 0 ∨ z1 = 1 then
  some z1
  else none
def f_X7_isSide  (l0 : Int32) (mi : bv_Mem) : Option (Int32) :=
  if l0 = 0 then
    some (1 : Int32)
  else
    if l0 = (1 : Int32) then
      some (1 : Int32)
    else
      some (0 : Int32)
def f_X7_isSomePlaces  (l0 : Int32) (mi : bv_Mem) : Option (Int32) :=
  (f_X7_isWithin l0 (1 : Int32) (1048575 : Int32) mi).bind fun z1 =>
  if z1 = 0 ∨ z1 = 1 then
  some z1
  else none
def f_X5_textOf  (l1 : Int32) (mi : bv_Mem) : Option (Nat) :=
  if l1 = 0 then
    some 9
  else
    some 11
def f_X7_held  (l0 : Int32) (l1 : Int32) (l2 : Int32) (mi : bv_Mem) : Option (Int32) :=
  some (bv_max l1 (bv_min l2 l0))
def f_X2_step   (mi : bv_Mem) : Option (bv_Mem) :=
  if bv_isC 74 (((bv_up mi 43 3 ((mi 43 3) + (1 : Int32))) 43 0).toNatClampNeg) 4 = true then
  if ((bv_up mi 43 3 ((mi 43 3) + (1 : Int32))) (((bv_up mi 43 3 ((mi 43 3) + (1 : Int32))) 43 0).toNatClampNeg) 1) ≤ ((bv_up mi 43 3 ((mi 43 3) + (1 : Int32))) 43 3) then
    some (bv_up (bv_up mi 43 3 ((mi 43 3) + (1 : Int32))) 43 4 (-1 : Int32))
  else
    (bv_RF (((bv_up mi 43 3 ((mi 43 3) + (1 : Int32))) 43 0).toNatClampNeg) 0).bind fun q1 =>
    if bv_isA 74 q1 1 (bv_len q1) = true then
    if bv_in ((bv_up mi 43 3 ((mi 43 3) + (1 : Int32))) 43 3) (bv_len q1) = true then
    some (bv_up (bv_up mi 43 3 ((mi 43 3) + (1 : Int32))) 43 4 (((bv_up mi 43 3 ((mi 43 3) + (1 : Int32))) q1 ((bv_up mi 43 3 ((mi 43 3) + (1 : Int32))) 43 3).toNatClampNeg) &&& (255 : Int32)))
    else none
    else none
  else none
def f_X7_quotient  (l0 : Int32) (l1 : Int32) (mi : bv_Mem) : Option (Int32) :=
  if l1 = 0 then
    some (0 : Int32)
  else
    if ¬ l1 = 0 then
    some (l0 / l1)
    else none
def f_X2_joined  (l0 : Int32) (l1 : Int32) (l2 : Int32) (mi : bv_Mem) : Option (Int32) :=
  if l1 = (38 : Int32) then
    if l0 = 0 then
      some (0 : Int32)
    else
      if l2 = 0 then
        some (0 : Int32)
      else
        some (1 : Int32)
  else if l1 = (42 : Int32) then
    some (l0 * l2)
  else if l1 = (43 : Int32) then
    some (l0 + l2)
  else if l1 = (45 : Int32) then
    some (l0 - l2)
  else if l1 = (47 : Int32) then
    (f_X7_quotient l0 l2 mi).bind fun z1 =>
    some z1
  else if l1 = (60 : Int32) then
    if l2 ≤ l0 then
      some (0 : Int32)
    else
      some (1 : Int32)
  else if l1 = (61 : Int32) then
    if l0 = l2 then
      some (1 : Int32)
    else
      some (0 : Int32)
  else if l1 = (62 : Int32) then
    if l0 ≤ l2 then
      some (0 : Int32)
    else
      some (1 : Int32)
  else if l1 = (124 : Int32) then
    if l0 = 0 then
      if l2 = 0 then
        some (0 : Int32)
      else
        some (1 : Int32)
    else
      some (1 : Int32)
  else
  if l2 = 0 then
    some (0 : Int32)
  else
    if ¬ l2 = 0 then
    some (l0 - l0 / l2 * l2)
    else none
def f_X2_levelOf  (l0 : Int32) (mi : bv_Mem) : Option (Int32) :=
  if l0 = (37 : Int32) then
    some (4 : Int32)
  else if l0 = (38 : Int32) then
    some (1 : Int32)
  else if l0 = (42 : Int32) then
    some (4 : Int32)
  else if l0 = (43 : Int32) then
    some (3 : Int32)
  else if l0 = (45 : Int32) then
    some (3 : Int32)
  else if l0 = (47 : Int32) then
    some (4 : Int32)
  else if l0 = (60 : Int32) then
    some (2 : Int32)
  else if l0 = (61 : Int32) then
    some (2 : Int32)
  else if l0 = (62 : Int32) then
    some (2 : Int32)
  else if l0 = (124 : Int32) then
    some (0 : Int32)
  else
  some (-1 : Int32)
def b_X2_readJoined_97 (r_X2_readJoined : Int32 → Int32 → bv_Mem → Option (Int32 × bv_Mem)) (r_X2_readSingle : Int32 → bv_Mem → Option (Int32 × bv_Mem)) (k_49 : Int32 → Int32 → Int32 → Int32 → Int32 → Int32 → bv_Mem → Option (Int32 × bv_Mem)) (l1 : Int32) (l2 : Int32) (l3 : Int32) (l4 : Int32) (l5 : Int32) (l6 : Int32) (l7 : Int32) (s0 : Int32) (mi : bv_Mem) : Option (Int32 × bv_Mem) :=
  (f_X2_joined l4 l7 s0 mi).bind fun z1 =>
  k_49 l1 l2 l3 z1 l5 (l6 + 1) mi
def b_X2_readJoined_49 (r_X2_readJoined : Int32 → Int32 → bv_Mem → Option (Int32 × bv_Mem)) (r_X2_readSingle : Int32 → bv_Mem → Option (Int32 × bv_Mem)) : Nat → Int32 → Int32 → Int32 → Int32 → Int32 → Int32 → bv_Mem → Option (Int32 × bv_Mem)
  | 0, _, _, _, _, _, _, _ => none
  | fu + 1, l1, l2, l3, l4, l5, l6, mi =>
  if l5 ≤ l6 then
    some (l4, mi)
  else
    (f_X2_levelOf (mi 43 4) mi).bind fun z1 =>
    if z1 = l1 then
      (f_X2_step mi).bind fun z2 =>
      if l3 = 0 then
        (r_X2_readJoined (l1 + (1 : Int32)) l2 z2).bind fun z3 =>
        b_X2_readJoined_97 r_X2_readJoined r_X2_readSingle (b_X2_readJoined_49 r_X2_readJoined r_X2_readSingle fu)  l1 l2 l3 l4 l5 l6 (mi 43 4) z3.1 z3.2
      else
        (r_X2_readSingle l2 z2).bind fun z4 =>
        b_X2_readJoined_97 r_X2_readJoined r_X2_readSingle (b_X2_readJoined_49 r_X2_readJoined r_X2_readSingle fu)  l1 l2 l3 l4 l5 l6 (mi 43 4) z4.1 z4.2
    else
      some (l4, mi)
def b_X2_readJoined_31 (r_X2_readJoined : Int32 → Int32 → bv_Mem → Option (Int32 × bv_Mem)) (r_X2_readSingle : Int32 → bv_Mem → Option (Int32 × bv_Mem)) (l1 : Int32) (l2 : Int32) (l3 : Int32) (s0 : Int32) (mi : bv_Mem) : Option (Int32 × bv_Mem) :=
  if l1 = (2 : Int32) then
    b_X2_readJoined_49 r_X2_readJoined r_X2_readSingle  400 l1 l2 l3 s0 (1 : Int32) (0 : Int32) mi
  else
    b_X2_readJoined_49 r_X2_readJoined r_X2_readSingle  400 l1 l2 l3 s0 (50 : Int32) (0 : Int32) mi
def b_X2_readJoined_10 (r_X2_readJoined : Int32 → Int32 → bv_Mem → Option (Int32 × bv_Mem)) (r_X2_readSingle : Int32 → bv_Mem → Option (Int32 × bv_Mem)) (l1 : Int32) (l2 : Int32) (s0 : Int32) (mi : bv_Mem) : Option (Int32 × bv_Mem) :=
  if s0 = 0 then
    (r_X2_readJoined (l1 + (1 : Int32)) l2 mi).bind fun z1 =>
    b_X2_readJoined_31 r_X2_readJoined r_X2_readSingle  l1 l2 s0 z1.1 z1.2
  else
    (r_X2_readSingle l2 mi).bind fun z2 =>
    b_X2_readJoined_31 r_X2_readJoined r_X2_readSingle  l1 l2 s0 z2.1 z2.2
def F_X2_readJoined (r_X2_readJoined : Int32 → Int32 → bv_Mem → Option (Int32 × bv_Mem)) (r_X2_readSingle : Int32 → bv_Mem → Option (Int32 × bv_Mem)) (l1 : Int32) (l2 : Int32) (mi : bv_Mem) : Option (Int32 × bv_Mem) :=
  if l1 < (4 : Int32) then
    b_X2_readJoined_10 r_X2_readJoined r_X2_readSingle  l1 l2 (0 : Int32) mi
  else
    b_X2_readJoined_10 r_X2_readJoined r_X2_readSingle  l1 l2 (1 : Int32) mi
def f_X2_refuse   (mi : bv_Mem) : Option (bv_Mem) :=
  some (bv_up (bv_up mi 43 5 (mi 43 3)) 43 4 (-1 : Int32))
def b_X2_readSingle_137 (r_X2_readJoined : Int32 → Int32 → bv_Mem → Option (Int32 × bv_Mem)) (r_X2_readSingle : Int32 → bv_Mem → Option (Int32 × bv_Mem)) (l1 : Int32) (mi : bv_Mem) : Option (Int32 × bv_Mem) :=
  if (5 : Int32) ≤ l1 then
    (f_X2_refuse mi).bind fun z1 =>
    some ((0 : Int32), z1)
  else
    if (mi 43 4) = (40 : Int32) then
      (f_X2_step mi).bind fun z3 =>
      (r_X2_readJoined (0 : Int32) (l1 + (1 : Int32)) z3).bind fun z4 =>
      if (z4.2 43 4) = (41 : Int32) then
        (f_X2_step z4.2).bind fun z6 =>
        some (z4.1, z6)
      else
        (f_X2_refuse z4.2).bind fun z5 =>
        some ((0 : Int32), z5)
    else
      (f_X2_refuse mi).bind fun z2 =>
      some ((0 : Int32), z2)
def b_X2_readSingle_59 (r_X2_readJoined : Int32 → Int32 → bv_Mem → Option (Int32 × bv_Mem)) (r_X2_readSingle : Int32 → bv_Mem → Option (Int32 × bv_Mem)) : Nat → Int32 → Int32 → bv_Mem → Option (Int32 × bv_Mem)
  | 0, _, _, _ => none
  | fu + 1, l1, l4, mi =>
  if (3 : Int32) ≤ l4 then
    if (5 : Int32) ≤ l1 then
      b_X2_readSingle_137 r_X2_readJoined r_X2_readSingle  l1 mi
    else
      if (mi 43 4) = (33 : Int32) then
        (f_X2_step mi).bind fun z1 =>
        (r_X2_readSingle (l1 + (1 : Int32)) z1).bind fun z2 =>
        if z2.1 = 0 then
          some ((1 : Int32), z2.2)
        else
          some ((0 : Int32), z2.2)
      else
        b_X2_readSingle_137 r_X2_readJoined r_X2_readSingle  l1 mi
  else
    if bv_in (((mi 43 1) * (3 : Int32)) + l4) 6 = true then
    if (mi 43 4) = (bv_x0 (((mi 43 1) * (3 : Int32)) + l4).toNatClampNeg) then
      (f_X2_step mi).bind fun z3 =>
      if bv_in l4 3 = true then
      some ((z3 46 l4.toNatClampNeg), z3)
      else none
    else
      (b_X2_readSingle_59 r_X2_readJoined r_X2_readSingle fu) l1 (l4 + 1) mi
    else none
def b_X2_readSingle_50 (r_X2_readJoined : Int32 → Int32 → bv_Mem → Option (Int32 × bv_Mem)) (r_X2_readSingle : Int32 → bv_Mem → Option (Int32 × bv_Mem)) (l1 : Int32) (l2 : Int32) (l3 : Int32) (mi : bv_Mem) : Option (Int32 × bv_Mem) :=
  if l3 ≤ 0 then
    b_X2_readSingle_59 r_X2_readJoined r_X2_readSingle  400 l1 (0 : Int32) mi
  else
    some (l2, mi)
def b_X2_readSingle_4 (r_X2_readJoined : Int32 → Int32 → bv_Mem → Option (Int32 × bv_Mem)) (r_X2_readSingle : Int32 → bv_Mem → Option (Int32 × bv_Mem)) : Nat → Int32 → Int32 → Int32 → bv_Mem → Option (Int32 × bv_Mem)
  | 0, _, _, _, _ => none
  | fu + 1, l1, l2, l3, mi =>
  if (4 : Int32) ≤ l3 then
    b_X2_readSingle_50 r_X2_readJoined r_X2_readSingle  l1 l2 l3 mi
  else
    if (mi 43 4) < (48 : Int32) then
      b_X2_readSingle_50 r_X2_readJoined r_X2_readSingle  l1 l2 l3 mi
    else
      if (57 : Int32) < (mi 43 4) then
        b_X2_readSingle_50 r_X2_readJoined r_X2_readSingle  l1 l2 l3 mi
      else
        (f_X2_step mi).bind fun z1 =>
        (b_X2_readSingle_4 r_X2_readJoined r_X2_readSingle fu) l1 (((l2 * (10 : Int32)) + (mi 43 4)) - (48 : Int32)) (l3 + 1) z1
def F_X2_readSingle (r_X2_readJoined : Int32 → Int32 → bv_Mem → Option (Int32 × bv_Mem)) (r_X2_readSingle : Int32 → bv_Mem → Option (Int32 × bv_Mem)) (l1 : Int32) (mi : bv_Mem) : Option (Int32 × bv_Mem) :=
  b_X2_readSingle_4 r_X2_readJoined r_X2_readSingle  400 l1 (0 : Int32) (0 : Int32) mi
def G_X2 : Nat → (Int32 → Int32 → bv_Mem → Option (Int32 × bv_Mem)) × (Int32 → bv_Mem → Option (Int32 × bv_Mem))
  | 0 => (fun _ _ _ => none, fun _ _ => none)
  | n + 1 => (F_X2_readJoined (G_X2 n).1 (G_X2 n).2, F_X2_readSingle (G_X2 n).1 (G_X2 n).2)
def f_X2_worth  (l1 : Nat) (l2 : Int32) (l3 : Int32) (l4 : Int32) (l5 : Int32) (mi : bv_Mem) : Option (Int32 × bv_Mem) :=
  if bv_isC 74 l1 4 = true then
  (f_X2_step (bv_up (bv_up (bv_up (bv_up (bv_up (bv_up (bv_up mi 43 0 (Int32.ofNat l1)) 43 1 l2) 46 0 l3) 46 1 l4) 46 2 l5) 43 3 (-1 : Int32)) 43 5 (-1 : Int32))).bind fun z1 =>
  ((G_X2 60).1 (0 : Int32) (0 : Int32) z1).bind fun z2 =>
  if bv_isC 74 ((z2.2 43 0).toNatClampNeg) 4 = true then
  if (z2.2 ((z2.2 43 0).toNatClampNeg) 1) ≤ (z2.2 43 3) then
    some (z2.1, z2.2)
  else
    (f_X2_refuse z2.2).bind fun z3 =>
    some (z2.1, z3)
  else none
  else none
def f_X7_lawGives  (l1 : Int32) (l2 : Int32) (l3 : Int32) (l4 : Int32) (mi : bv_Mem) : Option (Int32 × bv_Mem) :=
  (f_X5_textOf l1 mi).bind fun z1 =>
  if l1 = 0 then
    if bv_isC 74 z1 4 = true then
    if (mi z1 1) ≤ 0 then
      (f_X7_held ((3 : Int32) + l2) (1 : Int32) (99 : Int32) mi).bind fun z5 =>
      some (z5, mi)
    else
      (f_X2_worth z1 l1 l2 l3 l4 mi).bind fun z6 =>
      (f_X7_held z6.1 (1 : Int32) (99 : Int32) z6.2).bind fun z7 =>
      some (z7, z6.2)
    else none
  else
    if bv_isC 74 z1 4 = true then
    if (mi z1 1) ≤ 0 then
      (f_X7_held ((l2 * (2 : Int32)) + l3) (0 : Int32) (999 : Int32) mi).bind fun z2 =>
      some (z2, mi)
    else
      (f_X2_worth z1 l1 l2 l3 l4 mi).bind fun z3 =>
      (f_X7_held z3.1 (0 : Int32) (999 : Int32) z3.2).bind fun z4 =>
      some (z4, z3.2)
    else none
def b_X7_takeOut_2  : Nat → Int32 → Int32 → Int32 → bv_Mem → Option (bv_Mem)
  | 0, _, _, _, _ => none
  | fu + 1, l1, l2, l3, mi =>
  if (20 : Int32) ≤ l3 then
    some mi
  else
    if ((l1 >>> (l3 &&& 31)) &&& (1 : Int32)) = 0 then
      (b_X7_takeOut_2 fu) l1 l2 (l3 + 1) mi
    else
      if bv_in l3 20 = true then
      (f_X7_lawGives (0 : Int32) (mi 3 l3.toNatClampNeg) (bv_abs (l3 - l2)) (mi 1 5) mi).bind fun z1 =>
      (b_X7_takeOut_2 fu) l1 l2 (l3 + 1) (bv_up z1.2 4 l3.toNatClampNeg z1.1)
      else none
def f_X7_takeOut  (l1 : Int32) (l2 : Int32) (mi : bv_Mem) : Option (bv_Mem) :=
  b_X7_takeOut_2  400 l1 l2 (0 : Int32) mi
def f_X0_turnInto  (l0 : Nat) (l1 : Int32) (mi : bv_Mem) : Option (bv_Mem) :=
  if bv_isC 74 l0 0 = true then
  some (bv_up (bv_up mi l0 0 (l1 / (10 : Int32))) l0 1 (l1 - l1 / (10 : Int32) * (10 : Int32)))
  else none
def f_X0_startAs  (l0 : Nat) (l1 : Int32) (l2 : Int32) (l3 : Int32) (mi : bv_Mem) : Option (bv_Mem) :=
  if bv_isC 74 l0 0 = true then
  (f_X0_turnInto l0 l1 mi).bind fun z1 =>
  some (bv_up (bv_up (bv_up (bv_up z1 l0 2 l2) l0 3 l3) l0 4 (0 : Int32)) l0 5 (0 : Int32))
  else none
def f_X7_fill  (l1 : Int32) (l2 : Int32) (l3 : Int32) (l4 : Int32) (mi : bv_Mem) : Option (Int32 × bv_Mem) :=
  (f_X7_isKindWithNumber l1 mi).bind fun z1 =>
  if z1 = 0 then
    (f_X7_error (1 : Int32) mi).bind fun z2 =>
    some (z2.1, z2.2)
  else
    (f_X7_isVillage l2 mi).bind fun z3 =>
    if z3 = 0 then
      (f_X7_error (1 : Int32) mi).bind fun z4 =>
      some (z4.1, z4.2)
    else
      (f_X7_isSide l3 mi).bind fun z5 =>
      if z5 = 0 then
        (f_X7_error (1 : Int32) mi).bind fun z6 =>
        some (z6.1, z6.2)
      else
        (f_X7_isSomePlaces l4 mi).bind fun z7 =>
        if z7 = 0 then
          (f_X7_error (1 : Int32) mi).bind fun z14 =>
          some (z14.1, z14.2)
        else
          if bv_in l2 5 = true then
          (f_X1_goneBehind (0 : Int32) mi).bind fun z8 =>
          (f_X1_seenFrom (mi 5 l2.toNatClampNeg) l3 z8 mi).bind fun z9 =>
          if (l4 &&& (z9 ^^^ (-1 : Int32))) = 0 then
            if (mi 1 4) < (8 : Int32) then
              (f_X7_takeOut l4 (mi 5 l2.toNatClampNeg) mi).bind fun z10 =>
              if bv_in (z10 1 4) 8 = true then
              (bv_RF 6 (z10 1 4).toNatClampNeg).bind fun q1 =>
              if bv_isC 74 q1 0 = true then
              (f_X0_startAs q1 l1 (mi 5 l2.toNatClampNeg) l4 z10).bind fun z11 =>
              some ((((bv_up z11 1 4 ((z11 1 4) + (1 : Int32))) 1 4) - (1 : Int32)), (bv_up z11 1 4 ((z11 1 4) + (1 : Int32))))
              else none
              else none
            else
              (f_X7_error (4 : Int32) mi).bind fun z12 =>
              some (z12.1, z12.2)
          else
            (f_X7_error (3 : Int32) mi).bind fun z13 =>
            some (z13.1, z13.2)
          else none
def f_X7_isBottle  (l1 : Int32) (mi : bv_Mem) : Option (Int32) :=
  (f_X7_isWithin l1 (0 : Int32) ((mi 1 4) - (1 : Int32)) mi).bind fun z1 =>
  if z1 = 0 ∨ z1 = 1 then
  some z1
  else none
def f_X7_oneIf  (l0 : Int32) (mi : bv_Mem) : Option (Int32) :=
  if l0 = 0 then
    some (0 : Int32)
  else
    some (1 : Int32)
def b_X0_heldBetween_5 (mi : bv_Mem) : Nat → Nat → Int32 → Int32 → Int32 → Int32 → Option (Int32)
  | 0, _, _, _, _, _ => none
  | fu + 1, l0, l1, l2, l3, l4 =>
  if (20 : Int32) ≤ l4 then
    if bv_isC 74 l0 0 = true then
    some (l3 &&& (mi l0 3))
    else none
  else
    if bv_isC 74 l0 0 = true then
    (f_X7_isWithin (bv_abs (l4 - (mi l0 2))) l1 l2 mi).bind fun z1 =>
    if z1 = 0 then
      (b_X0_heldBetween_5 mi fu) l0 l1 l2 l3 (l4 + 1)
    else
      (b_X0_heldBetween_5 mi fu) l0 l1 l2 (l3 ||| ((1 : Int32) <<< (l4 &&& 31))) (l4 + 1)
    else none
def f_X0_heldBetween  (l0 : Nat) (l1 : Int32) (l2 : Int32) (mi : bv_Mem) : Option (Int32) :=
  b_X0_heldBetween_5 mi  400 l0 l1 l2 (0 : Int32) (0 : Int32)
def f_X0_left  (l0 : Nat) (mi : bv_Mem) : Option (Int32) :=
  if bv_isC 74 l0 0 = true then
  if (mi l0 5) = 0 then
    if (mi l0 0) = (1 : Int32) then
      (f_X0_heldBetween l0 (3 : Int32) (20 : Int32) mi).bind fun z1 =>
      some z1
    else if (mi l0 0) = (2 : Int32) then
      some ((mi l0 3) ||| ((1 : Int32) <<< ((mi l0 1) &&& 31)))
    else if (mi l0 0) = (3 : Int32) then
      (f_X0_heldBetween l0 (0 : Int32) ((19 : Int32) - (mi l0 4)) mi).bind fun z2 =>
      some z2
    else if (mi l0 0) = (4 : Int32) then
      (f_X0_heldBetween l0 (3 : Int32) (20 : Int32) mi).bind fun z3 =>
      some z3
    else if (mi l0 0) = (5 : Int32) then
      some ((mi l0 3) ||| ((1 : Int32) <<< ((mi l0 1) &&& 31)))
    else if (mi l0 0) = (6 : Int32) then
      (f_X0_heldBetween l0 (0 : Int32) ((19 : Int32) - ((mi l0 4) / (2 : Int32))) mi).bind fun z4 =>
      some z4
    else
    some (mi l0 3)
  else
    some (0 : Int32)
  else none
def b_X0_leagues_9 (mi : bv_Mem) : Nat → Nat → Int32 → Int32 → Int32 → Option (Int32)
  | 0, _, _, _, _ => none
  | fu + 1, l0, l1, l2, l3 =>
  if (20 : Int32) ≤ l3 then
    some l2
  else
    if ((l1 >>> (l3 &&& 31)) &&& (1 : Int32)) = 0 then
      (b_X0_leagues_9 mi fu) l0 l1 l2 (l3 + 1)
    else
      if bv_isC 74 l0 0 = true then
      (b_X0_leagues_9 mi fu) l0 l1 (bv_max l2 (bv_abs (l3 - (mi l0 2)))) (l3 + 1)
      else none
def f_X0_leagues  (l0 : Nat) (mi : bv_Mem) : Option (Int32) :=
  if bv_isC 74 l0 0 = true then
  (f_X0_left l0 mi).bind fun z1 =>
  b_X0_leagues_9 mi  400 l0 z1 (0 : Int32) (0 : Int32)
  else none
def f_X0_priceBy  (l0 : Nat) (l1 : Int32) (mi : bv_Mem) : Option (Int32) :=
  if bv_isC 74 l0 0 = true then
  if (mi l0 0) = (1 : Int32) then
    some ((2 : Int32) * l1)
  else if (mi l0 0) = (2 : Int32) then
    some (l1 / (2 : Int32))
  else if (mi l0 0) = (3 : Int32) then
    some (l1 + (mi l0 4))
  else if (mi l0 0) = (4 : Int32) then
    some (((2 : Int32) * l1) + ((5 : Int32) * (mi l0 1)))
  else if (mi l0 0) = (5 : Int32) then
    some (1 : Int32)
  else if (mi l0 0) = (6 : Int32) then
    (f_X7_quotient (mi l0 4) ((mi l0 1) + (1 : Int32)) mi).bind fun z1 =>
    some ((l1 + (mi l0 4)) + z1)
  else
  some l1
  else none
def f_X7_priceOf  (l1 : Nat) (mi : bv_Mem) : Option (Int32 × bv_Mem) :=
  if bv_isC 74 l1 0 = true then
  (f_X0_left l1 mi).bind fun z1 =>
  (f_J6_bitCount_0f7a4 z1 mi).bind fun z2 =>
  (f_X0_leagues l1 mi).bind fun z3 =>
  (f_X7_lawGives (1 : Int32) z2 z3 (mi l1 4) mi).bind fun z4 =>
  (f_X0_priceBy l1 z4.1 z4.2).bind fun z5 =>
  some (z5, z4.2)
  else none
def f_X7_ofBottle  (l1 : Int32) (l2 : Int32) (mi : bv_Mem) : Option (Int32 × bv_Mem) :=
  (f_X7_isBottle l1 mi).bind fun z1 =>
  if z1 = 0 then
    (f_X7_error (1 : Int32) mi).bind fun z2 =>
    some (z2.1, z2.2)
  else
    (f_X7_isWithin l2 (0 : Int32) (8 : Int32) mi).bind fun z3 =>
    if z3 = 0 then
      (f_X7_error (1 : Int32) mi).bind fun z8 =>
      some (z8.1, z8.2)
    else
      if bv_in l1 8 = true then
      (bv_RF 6 l1.toNatClampNeg).bind fun q1 =>
      if l2 = (0 : Int32) then
        if bv_isC 74 q1 0 = true then
        some ((mi q1 0), mi)
        else none
      else if l2 = (1 : Int32) then
        if bv_isC 74 q1 0 = true then
        some ((mi q1 1), mi)
        else none
      else if l2 = (2 : Int32) then
        if bv_isC 74 q1 0 = true then
        some ((mi q1 2), mi)
        else none
      else if l2 = (3 : Int32) then
        if bv_isC 74 q1 0 = true then
        some ((mi q1 3), mi)
        else none
      else if l2 = (4 : Int32) then
        if bv_isC 74 q1 0 = true then
        some ((mi q1 4), mi)
        else none
      else if l2 = (5 : Int32) then
        if bv_isC 74 q1 0 = true then
        (f_X7_oneIf (mi q1 5) mi).bind fun z4 =>
        some (z4, mi)
        else none
      else if l2 = (6 : Int32) then
        if bv_isC 74 q1 0 = true then
        (f_X0_left q1 mi).bind fun z5 =>
        some (z5, mi)
        else none
      else if l2 = (7 : Int32) then
        if bv_isC 74 q1 0 = true then
        (f_X0_leagues q1 mi).bind fun z6 =>
        some (z6, mi)
        else none
      else
      (f_X7_priceOf q1 mi).bind fun z7 =>
      some (z7.1, z7.2)
      else none
def f_X7_become  (l1 : Int32) (l2 : Int32) (mi : bv_Mem) : Option (Int32 × bv_Mem) :=
  (f_X7_isBottle l1 mi).bind fun z1 =>
  if z1 = 0 then
    (f_X7_error (1 : Int32) mi).bind fun z2 =>
    some (z2.1, z2.2)
  else
    (f_X7_isKindWithNumber l2 mi).bind fun z3 =>
    if z3 = 0 then
      (f_X7_error (1 : Int32) mi).bind fun z5 =>
      some (z5.1, z5.2)
    else
      if bv_in l1 8 = true then
      (bv_RF 6 l1.toNatClampNeg).bind fun q1 =>
      if bv_isC 74 q1 0 = true then
      (bv_RF 6 l1.toNatClampNeg).bind fun q2 =>
      if bv_isC 74 q2 0 = true then
      (f_X0_turnInto q2 l2 mi).bind fun z4 =>
      some ((mi q1 0), z4)
      else none
      else none
      else none
def b_X0_isOfKind_7 (mi : bv_Mem) : Nat → Int32 → Int32 → Int32 → Option (Int32)
  | 0, _, _, _ => none
  | fu + 1, l1, l2, l3 =>
  if (3 : Int32) ≤ l3 then
    some (0 : Int32)
  else
    if l2 = l1 then
      some (1 : Int32)
    else
      if bv_in l2 7 = true then
      (b_X0_isOfKind_7 mi fu) l1 (bv_x1 l2.toNatClampNeg) (l3 + 1)
      else none
def f_X0_isOfKind  (l0 : Nat) (l1 : Int32) (mi : bv_Mem) : Option (Int32) :=
  if bv_isC 74 l0 0 = true then
  b_X0_isOfKind_7 mi  400 l1 (mi l0 0) (0 : Int32)
  else none
def f_X7_as  (l1 : Int32) (l2 : Int32) (mi : bv_Mem) : Option (Int32 × bv_Mem) :=
  (f_X7_isBottle l1 mi).bind fun z1 =>
  if z1 = 0 then
    (f_X7_error (1 : Int32) mi).bind fun z2 =>
    some (z2.1, z2.2)
  else
    (f_X7_isWithin l2 (0 : Int32) (6 : Int32) mi).bind fun z3 =>
    if z3 = 0 then
      (f_X7_error (1 : Int32) mi).bind fun z6 =>
      some (z6.1, z6.2)
    else
      if bv_in l1 8 = true then
      (bv_RF 6 l1.toNatClampNeg).bind fun q1 =>
      if bv_isC 74 q1 0 = true then
      (f_X0_isOfKind q1 l2 mi).bind fun z4 =>
      if z4 = 0 then
        (f_X7_error (5 : Int32) mi).bind fun z5 =>
        some (z5.1, z5.2)
      else
        (bv_RF 6 l1.toNatClampNeg).bind fun q2 =>
        if bv_isC 74 q2 0 = true then
        some ((mi q2 1), mi)
        else none
      else none
      else none
def b_X1_bringBack_2  : Nat → Int32 → Int32 → bv_Mem → Option (bv_Mem)
  | 0, _, _, _ => none
  | fu + 1, l1, l2, mi =>
  if (20 : Int32) ≤ l2 then
    some mi
  else
    if ((l1 >>> (l2 &&& 31)) &&& (1 : Int32)) = 0 then
      (b_X1_bringBack_2 fu) l1 (l2 + 1) mi
    else
      if bv_in l2 20 = true then
      (b_X1_bringBack_2 fu) l1 (l2 + 1) (bv_up mi 4 l2.toNatClampNeg (0 : Int32))
      else none
def f_X1_bringBack  (l1 : Int32) (mi : bv_Mem) : Option (bv_Mem) :=
  b_X1_bringBack_2  400 l1 (0 : Int32) mi
def f_X7_open  (l1 : Int32) (mi : bv_Mem) : Option (Int32 × bv_Mem) :=
  (f_X7_isBottle l1 mi).bind fun z1 =>
  if z1 = 0 then
    (f_X7_error (1 : Int32) mi).bind fun z7 =>
    some (z7.1, z7.2)
  else
    if bv_in l1 8 = true then
    (bv_RF 6 l1.toNatClampNeg).bind fun q1 =>
    if bv_isC 74 q1 0 = true then
    if (mi q1 5) = 0 then
      (f_X0_left q1 mi).bind fun z2 =>
      (f_X1_goneBehind (0 : Int32) mi).bind fun z3 =>
      (f_X1_bringBack (z2 &&& z3) mi).bind fun z4 =>
      (f_J6_bitCount_0f7a4 (z2 &&& z3) (bv_up (bv_up z4 q1 3 (0 : Int32)) q1 5 (1 : Int32))).bind fun z5 =>
      some (z5, (bv_up (bv_up z4 q1 3 (0 : Int32)) q1 5 (1 : Int32)))
    else
      (f_X7_error (3 : Int32) mi).bind fun z6 =>
      some (z6.1, z6.2)
    else none
    else none
def f_X4_append  (l0 : Nat) (l1 : Int32) (mi : bv_Mem) : Option (bv_Mem) :=
  if bv_isC 74 l0 4 = true then
  if (50 : Int32) ≤ (mi l0 1) then
    some mi
  else
    (bv_RF l0 0).bind fun q1 =>
    if bv_isA 74 q1 1 (bv_len q1) = true then
    if bv_in (mi l0 1) (bv_len q1) = true then
    some (bv_up (bv_up mi q1 (mi l0 1).toNatClampNeg l1.toInt8.toInt32.toInt8.toInt32) l0 1 (((bv_up mi q1 (mi l0 1).toNatClampNeg l1.toInt8.toInt32.toInt8.toInt32) l0 1) + (1 : Int32)))
    else none
    else none
  else none
def b_X7_feed_42  : Nat → Int64 → Int32 → Int32 → bv_Mem → Option (Int32 × bv_Mem)
  | 0, _, _, _, _ => none
  | fu + 1, l1, l3, l4, mi =>
  if l3 ≤ l4 then
    some ((mi 7 1), mi)
  else
    (f_X4_append 7 (((l1.toUInt64 >>> (((8 : Int32) * l4).toInt64.toUInt64 &&& Int64.toUInt64 63)).toInt64).toInt32 &&& (255 : Int32)) mi).bind fun z1 =>
    (b_X7_feed_42 fu) l1 l3 (l4 + 1) z1
def f_X7_feed  (l1 : Int64) (l3 : Int32) (mi : bv_Mem) : Option (Int32 × bv_Mem) :=
  (f_X7_isWithin l3 (1 : Int32) (8 : Int32) mi).bind fun z1 =>
  if z1 = 0 then
    (f_X7_error (1 : Int32) mi).bind fun z3 =>
    some (z3.1, z3.2)
  else
    if ((mi 7 1) + l3) ≤ (50 : Int32) then
      b_X7_feed_42  400 l1 l3 (0 : Int32) mi
    else
      (f_X7_error (4 : Int32) mi).bind fun z2 =>
      some (z2.1, z2.2)
def f_X7_isUse  (l0 : Int32) (mi : bv_Mem) : Option (Int32) :=
  if l0 = 0 then
    some (1 : Int32)
  else
    if l0 = (1 : Int32) then
      some (1 : Int32)
    else
      some (0 : Int32)
def f_X2_faultOf  (l1 : Nat) (l2 : Int32) (mi : bv_Mem) : Option (Int32 × bv_Mem) :=
  (f_X2_worth l1 l2 (0 : Int32) (0 : Int32) (0 : Int32) mi).bind fun z1 =>
  some ((z1.2 43 5), z1.2)
def f_X4_copyTape  (l0 : Nat) (l1 : Nat) (mi : bv_Mem) : Option (bv_Mem) :=
  if bv_isC 74 l1 4 = true then
  (bv_RF l1 0).bind fun q1 =>
  if bv_isC 74 l0 4 = true then
  (bv_RF l0 0).bind fun q2 =>
  if bv_isA 74 q1 1 (bv_len q1) = true then
  if bv_isA 74 q2 1 (bv_len q2) = true then
  if bv_cpok mi 1 q1 q2 (bv_len q1) (bv_len q2) (0 : Int32) (0 : Int32) (50 : Int32) = true then
  some (bv_up (bv_cp mi q1 q2 (0 : Int32).toNatClampNeg (0 : Int32).toNatClampNeg (50 : Int32).toNatClampNeg) l0 1 ((bv_cp mi q1 q2 (0 : Int32).toNatClampNeg (0 : Int32).toNatClampNeg (50 : Int32).toNatClampNeg) l1 1))
  else none
  else none
  else none
  else none
  else none
def b_X7_text_51  (l2 : Int32) (mi : bv_Mem) : Option (Int32 × bv_Mem) :=
  if 0 ≤ l2 then
    some (((-10 : Int32) - l2), (bv_up mi 7 1 (0 : Int32)))
  else
    some ((1 : Int32), (bv_up mi 7 1 (0 : Int32)))
def f_X7_text  (l1 : Int32) (mi : bv_Mem) : Option (Int32 × bv_Mem) :=
  (f_X7_isUse l1 mi).bind fun z1 =>
  if z1 = 0 then
    (f_X7_error (1 : Int32) mi).bind fun z5 =>
    some (z5.1, z5.2)
  else
    (f_X2_faultOf 7 l1 mi).bind fun z2 =>
    if 0 ≤ z2.1 then
      b_X7_text_51  z2.1 z2.2
    else
      (f_X5_textOf l1 z2.2).bind fun z3 =>
      if bv_isC 74 z3 4 = true then
      (f_X4_copyTape z3 7 z2.2).bind fun z4 =>
      b_X7_text_51  z2.1 z4
      else none
def f_X7_law  (l1 : Int32) (l2 : Int32) (l3 : Int32) (l4 : Int32) (mi : bv_Mem) : Option (Int32 × bv_Mem) :=
  (f_X7_isUse l1 mi).bind fun z1 =>
  if z1 = 0 then
    (f_X7_error (1 : Int32) mi).bind fun z3 =>
    some (z3.1, z3.2)
  else
    (f_X7_lawGives l1 l2 l3 l4 mi).bind fun z2 =>
    some (z2.1, z2.2)
def f_X7_missingBehind  (l1 : Int32) (mi : bv_Mem) : Option (Int32) :=
  (f_X1_goneBehind l1 mi).bind fun z1 =>
  (f_J6_bitCount_0f7a4 z1 mi).bind fun z2 =>
  some z2
def f_X0_ageDay  (l0 : Nat) (mi : bv_Mem) : Option (bv_Mem) :=
  if bv_isC 74 l0 0 = true then
  if (mi l0 5) = 0 then
    some (bv_up mi l0 4 (bv_min (99 : Int32) ((mi l0 4) + (1 : Int32))))
  else
    some mi
  else none
def b_X1_growDay_2  : Nat → Int32 → bv_Mem → Option (bv_Mem)
  | 0, _, _ => none
  | fu + 1, l1, mi =>
  if (20 : Int32) ≤ l1 then
    some mi
  else
    if bv_in l1 20 = true then
    (b_X1_growDay_2 fu) (l1 + 1) (bv_up mi 4 l1.toNatClampNeg (bv_max (0 : Int32) ((mi 4 l1.toNatClampNeg) - (1 : Int32))))
    else none
def f_X1_growDay   (mi : bv_Mem) : Option (bv_Mem) :=
  b_X1_growDay_2  400 (0 : Int32) mi
def b_X5_passDay_9  : Nat → Int32 → bv_Mem → Option (bv_Mem)
  | 0, _, _ => none
  | fu + 1, l1, mi =>
  if (mi 1 4) ≤ l1 then
    some (bv_up mi 1 5 ((mi 1 5) + (1 : Int32)))
  else
    if bv_in l1 8 = true then
    (bv_RF 6 l1.toNatClampNeg).bind fun q1 =>
    if bv_isC 74 q1 0 = true then
    (f_X0_ageDay q1 mi).bind fun z1 =>
    (b_X5_passDay_9 fu) (l1 + 1) z1
    else none
    else none
def f_X5_passDay   (mi : bv_Mem) : Option (bv_Mem) :=
  (f_X1_growDay mi).bind fun z1 =>
  b_X5_passDay_9  400 (0 : Int32) z1
def b_X7_days_39  : Nat → Int32 → Int32 → bv_Mem → Option (Int32 × bv_Mem)
  | 0, _, _, _ => none
  | fu + 1, l1, l2, mi =>
  if l1 ≤ l2 then
    (f_X7_missingBehind (0 : Int32) mi).bind fun z1 =>
    some (z1, mi)
  else
    (f_X5_passDay mi).bind fun z2 =>
    (b_X7_days_39 fu) l1 (l2 + 1) z2
def f_X7_days  (l1 : Int32) (mi : bv_Mem) : Option (Int32 × bv_Mem) :=
  (f_X7_isWithin l1 (1 : Int32) (100 : Int32) mi).bind fun z1 =>
  if z1 = 0 then
    (f_X7_error (1 : Int32) mi).bind fun z3 =>
    some (z3.1, z3.2)
  else
    if ((mi 1 5) + l1) ≤ (9999 : Int32) then
      b_X7_days_39  400 l1 (0 : Int32) mi
    else
      (f_X7_error (3 : Int32) mi).bind fun z2 =>
      some (z2.1, z2.2)
def f_X5_draw   (mi : bv_Mem) : Option (Int32 × bv_Mem) :=
  some ((((bv_up mi 1 6 (((mi 1 6) * (1103515245 : Int32)) + (12345 : Int32))) 1 6).toUInt32 >>> ((8 : Int32).toUInt32 &&& Int32.toUInt32 31)).toInt32, (bv_up mi 1 6 (((mi 1 6) * (1103515245 : Int32)) + (12345 : Int32))))
def f_X5_passLooseDay   (mi : bv_Mem) : Option (bv_Mem) :=
  (f_X5_draw mi).bind fun z1 =>
  (f_X5_draw z1.2).bind fun z2 =>
  if bv_in (z1.1 - z1.1 / (20 : Int32) * (20 : Int32)) 20 = true then
  (f_X5_passDay (bv_up z2.2 4 (z1.1 - z1.1 / (20 : Int32) * (20 : Int32)).toNatClampNeg (z2.1 - z2.1 / (10 : Int32) * (10 : Int32)))).bind fun z3 =>
  some z3
  else none
def b_X7_loose_39  : Nat → Int32 → Int32 → bv_Mem → Option (Int32 × bv_Mem)
  | 0, _, _, _ => none
  | fu + 1, l1, l2, mi =>
  if l1 ≤ l2 then
    (f_X7_missingBehind (0 : Int32) mi).bind fun z1 =>
    some (z1, mi)
  else
    (f_X5_passLooseDay mi).bind fun z2 =>
    (b_X7_loose_39 fu) l1 (l2 + 1) z2
def f_X7_loose  (l1 : Int32) (mi : bv_Mem) : Option (Int32 × bv_Mem) :=
  (f_X7_isWithin l1 (1 : Int32) (40 : Int32) mi).bind fun z1 =>
  if z1 = 0 then
    (f_X7_error (1 : Int32) mi).bind fun z3 =>
    some (z3.1, z3.2)
  else
    if ((mi 1 5) + l1) ≤ (9999 : Int32) then
      b_X7_loose_39  400 l1 (0 : Int32) mi
    else
      (f_X7_error (3 : Int32) mi).bind fun z2 =>
      some (z2.1, z2.2)
def f_X7_view  (l1 : Int32) (l2 : Int32) (l3 : Int32) (mi : bv_Mem) : Option (Int32 × bv_Mem) :=
  (f_X7_isVillage l1 mi).bind fun z1 =>
  if z1 = 0 then
    (f_X7_error (1 : Int32) mi).bind fun z2 =>
    some (z2.1, z2.2)
  else
    (f_X7_isSide l2 mi).bind fun z3 =>
    if z3 = 0 then
      (f_X7_error (1 : Int32) mi).bind fun z4 =>
      some (z4.1, z4.2)
    else
      (f_X7_isWithin l3 (0 : Int32) (100 : Int32) mi).bind fun z5 =>
      if z5 = 0 then
        (f_X7_error (1 : Int32) mi).bind fun z8 =>
        some (z8.1, z8.2)
      else
        if bv_in l1 5 = true then
        (f_X1_goneBehind l3 mi).bind fun z6 =>
        (f_X1_seenFrom (mi 5 l1.toNatClampNeg) l2 z6 mi).bind fun z7 =>
        some (z7, mi)
        else none
def b_X7_again_36  : Nat → Int32 → Int32 → Int32 → bv_Mem → Option (Int32 × bv_Mem)
  | 0, _, _, _, _ => none
  | fu + 1, l1, l2, l3, mi =>
  if (100 : Int32) < l3 then
    (f_X7_error (2 : Int32) mi).bind fun z1 =>
    some (z1.1, z1.2)
  else
    if bv_in l1 5 = true then
    (f_X1_goneBehind l3 mi).bind fun z2 =>
    (f_X1_sees (mi 5 l1.toNatClampNeg) l2 (0 : Int32) z2 mi).bind fun z3 =>
    if z3 = 0 then
      (b_X7_again_36 fu) l1 l2 (l3 + 1) mi
    else
      some (l3, mi)
    else none
def f_X7_again  (l1 : Int32) (l2 : Int32) (mi : bv_Mem) : Option (Int32 × bv_Mem) :=
  (f_X7_isVillage l1 mi).bind fun z1 =>
  if z1 = 0 then
    (f_X7_error (1 : Int32) mi).bind fun z2 =>
    some (z2.1, z2.2)
  else
    (f_X7_isPlace l2 mi).bind fun z3 =>
    if z3 = 0 then
      (f_X7_error (1 : Int32) mi).bind fun z4 =>
      some (z4.1, z4.2)
    else
      if bv_in l1 5 = true then
      if (mi 5 l1.toNatClampNeg) = l2 then
        (f_X7_error (1 : Int32) mi).bind fun z5 =>
        some (z5.1, z5.2)
      else
        b_X7_again_36  400 l1 l2 (0 : Int32) mi
      else none
def b_X7_best_35  : Nat → Int32 → Int32 → Int32 → Int32 → Int32 → bv_Mem → Option (Int32 × bv_Mem)
  | 0, _, _, _, _, _, _ => none
  | fu + 1, l1, l2, l3, l4, l5, mi =>
  if (20 : Int32) ≤ l5 then
    if l1 = 0 then
      some (l3, mi)
    else
      some (l4, mi)
  else
    (f_X1_seenAround l5 l2 mi).bind fun z1 =>
    (f_J6_bitCount_0f7a4 z1 mi).bind fun z2 =>
    if z2 ≤ l4 then
      (b_X7_best_35 fu) l1 l2 l3 l4 (l5 + 1) mi
    else
      (b_X7_best_35 fu) l1 l2 l5 z2 (l5 + 1) mi
def f_X7_best  (l1 : Int32) (mi : bv_Mem) : Option (Int32 × bv_Mem) :=
  (f_X7_isWithin l1 (0 : Int32) (1 : Int32) mi).bind fun z1 =>
  if z1 = 0 then
    (f_X7_error (1 : Int32) mi).bind fun z3 =>
    some (z3.1, z3.2)
  else
    (f_X1_goneBehind (0 : Int32) mi).bind fun z2 =>
    b_X7_best_35  400 l1 z2 (0 : Int32) (-1 : Int32) (0 : Int32) mi
def b_X7_tower_40  : Nat → Int32 → Int32 → Int32 → Int32 → bv_Mem → Option (Int32 × bv_Mem)
  | 0, _, _, _, _, _ => none
  | fu + 1, l1, l2, l3, l4, mi =>
  if (40 : Int32) < l4 then
    (f_X7_error (2 : Int32) mi).bind fun z1 =>
    some (z1.1, z1.2)
  else
    (f_X1_sees l1 l2 l4 l3 mi).bind fun z2 =>
    if z2 = 0 then
      (b_X7_tower_40 fu) l1 l2 l3 (l4 + 1) mi
    else
      some (l4, mi)
def f_X7_tower  (l1 : Int32) (l2 : Int32) (mi : bv_Mem) : Option (Int32 × bv_Mem) :=
  (f_X7_isPlace l1 mi).bind fun z1 =>
  if z1 = 0 then
    (f_X7_error (1 : Int32) mi).bind fun z2 =>
    some (z2.1, z2.2)
  else
    (f_X7_isPlace l2 mi).bind fun z3 =>
    if z3 = 0 then
      (f_X7_error (1 : Int32) mi).bind fun z4 =>
      some (z4.1, z4.2)
    else
      if l1 = l2 then
        (f_X7_error (1 : Int32) mi).bind fun z6 =>
        some (z6.1, z6.2)
      else
        (f_X1_goneBehind (0 : Int32) mi).bind fun z5 =>
        b_X7_tower_40  400 l1 l2 z5 (0 : Int32) mi
def b_X7_mutual_32 (mi : bv_Mem) (k_16 : Int32 → Int32 → Int32 → Option (Int32)) : Nat → Int32 → Int32 → Int32 → Int32 → Option (Int32)
  | 0, _, _, _, _ => none
  | fu + 1, l1, l2, l3, l4 =>
  if (mi 1 2) ≤ l4 then
    k_16 l1 l2 (l3 + 1)
  else
    if bv_in l3 5 = true then
    if bv_in l4 5 = true then
    (f_X1_sees (mi 5 l3.toNatClampNeg) (mi 5 l4.toNatClampNeg) (0 : Int32) l1 mi).bind fun z1 =>
    if z1 = 0 then
      (b_X7_mutual_32 mi k_16 fu) l1 l2 l3 (l4 + 1)
    else
      (f_X1_sees (mi 5 l4.toNatClampNeg) (mi 5 l3.toNatClampNeg) (0 : Int32) l1 mi).bind fun z2 =>
      if z2 = 0 then
        (b_X7_mutual_32 mi k_16 fu) l1 l2 l3 (l4 + 1)
      else
        (b_X7_mutual_32 mi k_16 fu) l1 (l2 + 1) l3 (l4 + 1)
    else none
    else none
def b_X7_mutual_16 (mi : bv_Mem) : Nat → Int32 → Int32 → Int32 → Option (Int32)
  | 0, _, _, _ => none
  | fu + 1, l1, l2, l3 =>
  if (mi 1 2) ≤ l3 then
    some l2
  else
    b_X7_mutual_32 mi (b_X7_mutual_16 mi fu)  400 l1 l2 l3 (l3 + (1 : Int32))
def f_X7_mutual   (mi : bv_Mem) : Option (Int32) :=
  (f_X1_goneBehind (0 : Int32) mi).bind fun z1 =>
  b_X7_mutual_16 mi  400 z1 (0 : Int32) (0 : Int32)
def b_X5_seenByAll_14 (mi : bv_Mem) : Nat → Int32 → Int32 → Int32 → Int32 → Option (Int32)
  | 0, _, _, _, _ => none
  | fu + 1, l1, l2, l3, l4 =>
  if (mi 1 2) ≤ l4 then
    some l3
  else
    if bv_in l4 5 = true then
    (f_X1_seenFrom (mi 5 l4.toNatClampNeg) l1 l2 mi).bind fun z1 =>
    (b_X5_seenByAll_14 mi fu) l1 l2 (l3 ||| z1) (l4 + 1)
    else none
def f_X5_seenByAll  (l1 : Int32) (mi : bv_Mem) : Option (Int32) :=
  (f_X1_goneBehind (0 : Int32) mi).bind fun z1 =>
  b_X5_seenByAll_14 mi  400 l1 z1 (0 : Int32) (0 : Int32)
def b_X7_unseen_20 (mi : bv_Mem) : Nat → Int32 → Int32 → Option (Int32)
  | 0, _, _ => none
  | fu + 1, l1, l2 =>
  if (mi 1 2) ≤ l2 then
    some ((1048575 : Int32) &&& (l1 ^^^ (-1 : Int32)))
  else
    if bv_in l2 5 = true then
    (b_X7_unseen_20 mi fu) (l1 ||| ((1 : Int32) <<< ((mi 5 l2.toNatClampNeg) &&& 31))) (l2 + 1)
    else none
def f_X7_unseen   (mi : bv_Mem) : Option (Int32) :=
  (f_X5_seenByAll (0 : Int32) mi).bind fun z1 =>
  (f_X5_seenByAll (1 : Int32) mi).bind fun z2 =>
  b_X7_unseen_20 mi  400 (z1 ||| z2) (0 : Int32)
def b_X7_leftInAny_4 (mi : bv_Mem) : Nat → Int32 → Int32 → Int32 → Option (Int32)
  | 0, _, _, _ => none
  | fu + 1, l1, l2, l3 =>
  if (mi 1 4) ≤ l3 then
    some l2
  else
    if ((l1 >>> (l3 &&& 31)) &&& (1 : Int32)) = 0 then
      (b_X7_leftInAny_4 mi fu) l1 l2 (l3 + 1)
    else
      if bv_in l3 8 = true then
      (b_X7_leftInAny_4 mi fu) l1 (l2 ||| (mi 51 l3.toNatClampNeg)) (l3 + 1)
      else none
def f_X7_leftInAny  (l1 : Int32) (mi : bv_Mem) : Option (Int32) :=
  b_X7_leftInAny_4 mi  400 l1 (0 : Int32) (0 : Int32)
def b_X7_workOutLefts_2  : Nat → Int32 → bv_Mem → Option (bv_Mem)
  | 0, _, _ => none
  | fu + 1, l1, mi =>
  if (mi 1 4) ≤ l1 then
    some mi
  else
    if bv_in l1 8 = true then
    (bv_RF 6 l1.toNatClampNeg).bind fun q1 =>
    if bv_isC 74 q1 0 = true then
    (f_X0_left q1 mi).bind fun z1 =>
    (b_X7_workOutLefts_2 fu) (l1 + 1) (bv_up mi 51 l1.toNatClampNeg z1)
    else none
    else none
def f_X7_workOutLefts   (mi : bv_Mem) : Option (bv_Mem) :=
  b_X7_workOutLefts_2  400 (0 : Int32) mi
def b_X7_cover_57 (k_24 : Int32 → Int32 → Int32 → bv_Mem → Option (Int32 × bv_Mem)) (l1 : Int32) (l2 : Int32) (l3 : Int32) (s0 : Int32) (mi : bv_Mem) : Option (Int32 × bv_Mem) :=
  if s0 = 0 then
    k_24 l1 l2 (l3 + 1) mi
  else
    (f_X7_leftInAny l3 mi).bind fun z1 =>
    if (l1 &&& (z1 ^^^ (-1 : Int32))) = 0 then
      k_24 l1 l3 (l3 + 1) mi
    else
      k_24 l1 l2 (l3 + 1) mi
def b_X7_cover_52 (k_24 : Int32 → Int32 → Int32 → bv_Mem → Option (Int32 × bv_Mem)) (l1 : Int32) (l2 : Int32) (l3 : Int32) (mi : bv_Mem) : Option (Int32 × bv_Mem) :=
  b_X7_cover_57 k_24  l1 l2 l3 (1 : Int32) mi
def b_X7_cover_24  : Nat → Int32 → Int32 → Int32 → bv_Mem → Option (Int32 × bv_Mem)
  | 0, _, _, _, _ => none
  | fu + 1, l1, l2, l3, mi =>
  if ((1 : Int32) <<< ((mi 1 4) &&& 31)) ≤ l3 then
    if 0 ≤ l2 then
      some (l2, mi)
    else
      (f_X7_error (2 : Int32) mi).bind fun z1 =>
      some (z1.1, z1.2)
  else
    if l2 < 0 then
      b_X7_cover_52 (b_X7_cover_24 fu)  l1 l2 l3 mi
    else
      (f_J6_bitCount_0f7a4 l3 mi).bind fun z2 =>
      (f_J6_bitCount_0f7a4 l2 mi).bind fun z3 =>
      if z3 ≤ z2 then
        b_X7_cover_57 (b_X7_cover_24 fu)  l1 l2 l3 (0 : Int32) mi
      else
        b_X7_cover_52 (b_X7_cover_24 fu)  l1 l2 l3 mi
def f_X7_cover  (l1 : Int32) (mi : bv_Mem) : Option (Int32 × bv_Mem) :=
  (f_X7_isWithin l1 (0 : Int32) (1048575 : Int32) mi).bind fun z1 =>
  if z1 = 0 then
    (f_X7_error (1 : Int32) mi).bind fun z3 =>
    some (z3.1, z3.2)
  else
    (f_X7_workOutLefts mi).bind fun z2 =>
    b_X7_cover_24  400 l1 (-1 : Int32) (0 : Int32) z2
def b_X7_priceTogether_4 (mi : bv_Mem) : Nat → Int32 → Int32 → Int32 → Option (Int32)
  | 0, _, _, _ => none
  | fu + 1, l1, l2, l3 =>
  if (mi 1 4) ≤ l3 then
    some l2
  else
    if ((l1 >>> (l3 &&& 31)) &&& (1 : Int32)) = 0 then
      (b_X7_priceTogether_4 mi fu) l1 l2 (l3 + 1)
    else
      if bv_in l3 8 = true then
      (b_X7_priceTogether_4 mi fu) l1 (l2 + (mi 52 l3.toNatClampNeg)) (l3 + 1)
      else none
def f_X7_priceTogether  (l1 : Int32) (mi : bv_Mem) : Option (Int32) :=
  b_X7_priceTogether_4 mi  400 l1 (0 : Int32) (0 : Int32)
def b_X7_isApart_4 (mi : bv_Mem) : Nat → Int32 → Int32 → Int32 → Option (Int32)
  | 0, _, _, _ => none
  | fu + 1, l1, l2, l3 =>
  if (mi 1 4) ≤ l3 then
    some (1 : Int32)
  else
    if ((l1 >>> (l3 &&& 31)) &&& (1 : Int32)) = 0 then
      (b_X7_isApart_4 mi fu) l1 l2 (l3 + 1)
    else
      if bv_in l3 8 = true then
      if (l2 &&& (mi 51 l3.toNatClampNeg)) = 0 then
        (b_X7_isApart_4 mi fu) l1 (l2 ||| (mi 51 l3.toNatClampNeg)) (l3 + 1)
      else
        some (0 : Int32)
      else none
def f_X7_isApart  (l1 : Int32) (mi : bv_Mem) : Option (Int32) :=
  b_X7_isApart_4 mi  400 l1 (0 : Int32) (0 : Int32)
def b_X7_workOutPrices_2  : Nat → Int32 → bv_Mem → Option (bv_Mem)
  | 0, _, _ => none
  | fu + 1, l1, mi =>
  if (mi 1 4) ≤ l1 then
    some mi
  else
    if bv_in l1 8 = true then
    (bv_RF 6 l1.toNatClampNeg).bind fun q1 =>
    (f_X7_priceOf q1 mi).bind fun z1 =>
    (b_X7_workOutPrices_2 fu) (l1 + 1) (bv_up z1.2 52 l1.toNatClampNeg z1.1)
    else none
def f_X7_workOutPrices   (mi : bv_Mem) : Option (bv_Mem) :=
  b_X7_workOutPrices_2  400 (0 : Int32) mi
def b_X7_keeps_30  : Nat → Int32 → Int32 → Int32 → Int32 → bv_Mem → Option (Int32 × bv_Mem)
  | 0, _, _, _, _, _ => none
  | fu + 1, l1, l2, l3, l4, mi =>
  if ((1 : Int32) <<< ((mi 1 4) &&& 31)) ≤ l4 then
    if l1 = 0 then
      some (l2, mi)
    else
      some (l3, mi)
  else
    (f_X7_priceTogether l4 mi).bind fun z1 =>
    if z1 ≤ l3 then
      (b_X7_keeps_30 fu) l1 l2 l3 (l4 + 1) mi
    else
      (f_X7_isApart l4 mi).bind fun z2 =>
      if z2 = 0 then
        (b_X7_keeps_30 fu) l1 l2 l3 (l4 + 1) mi
      else
        (b_X7_keeps_30 fu) l1 l4 z1 (l4 + 1) mi
def f_X7_keeps  (l1 : Int32) (mi : bv_Mem) : Option (Int32 × bv_Mem) :=
  (f_X7_isWithin l1 (0 : Int32) (1 : Int32) mi).bind fun z1 =>
  if z1 = 0 then
    (f_X7_error (1 : Int32) mi).bind fun z4 =>
    some (z4.1, z4.2)
  else
    (f_X7_workOutLefts mi).bind fun z2 =>
    (f_X7_workOutPrices z2).bind fun z3 =>
    b_X7_keeps_30  400 l1 (0 : Int32) (0 : Int32) (0 : Int32) z3
def b_X7_blend_77  (l3 : Int32) (l4 : Int32) (s0 : Int32) (mi : bv_Mem) : Option (Int32 × bv_Mem) :=
  if (l3 &&& l4) = 0 then
    if s0 = 0 then
      (f_X7_error (3 : Int32) mi).bind fun z2 =>
      some (z2.1, z2.2)
    else
      some ((l3 ||| l4), mi)
  else
    (f_X7_error (3 : Int32) mi).bind fun z1 =>
    some (z1.1, z1.2)
def b_X7_blend_72  (l3 : Int32) (l4 : Int32) (mi : bv_Mem) : Option (Int32 × bv_Mem) :=
  b_X7_blend_77  l3 l4 (1 : Int32) mi
def f_X7_blend  (l1 : Int32) (l2 : Int32) (mi : bv_Mem) : Option (Int32 × bv_Mem) :=
  (f_X7_isBottle l1 mi).bind fun z1 =>
  if z1 = 0 then
    (f_X7_error (1 : Int32) mi).bind fun z2 =>
    some (z2.1, z2.2)
  else
    (f_X7_isBottle l2 mi).bind fun z3 =>
    if z3 = 0 then
      (f_X7_error (1 : Int32) mi).bind fun z4 =>
      some (z4.1, z4.2)
    else
      if l1 = l2 then
        (f_X7_error (1 : Int32) mi).bind fun z7 =>
        some (z7.1, z7.2)
      else
        if bv_in l1 8 = true then
        (bv_RF 6 l1.toNatClampNeg).bind fun q1 =>
        if bv_isC 74 q1 0 = true then
        (f_X0_left q1 mi).bind fun z5 =>
        if bv_in l2 8 = true then
        (bv_RF 6 l2.toNatClampNeg).bind fun q2 =>
        if bv_isC 74 q2 0 = true then
        (f_X0_left q2 mi).bind fun z6 =>
        if ((z5 <<< ((1 : Int32) &&& 31)) &&& z6) = 0 then
          if ((z6 <<< ((1 : Int32) &&& 31)) &&& z5) = 0 then
            b_X7_blend_77  z5 z6 (0 : Int32) mi
          else
            b_X7_blend_72  z5 z6 mi
        else
          b_X7_blend_72  z5 z6 mi
        else none
        else none
        else none
        else none
def b_X7_thief_91 (k_34 : Int32 → Int32 → Int32 → Int32 → bv_Mem → Option (Int32 × bv_Mem)) (l1 : Int32) (l2 : Int32) (l3 : Int32) (l4 : Int32) (mi : bv_Mem) : Option (Int32 × bv_Mem) :=
  k_34 l1 l2 (l3 ||| ((1 : Int32) <<< (l4 &&& 31))) (l4 + 1) mi
def b_X7_thief_34  : Nat → Int32 → Int32 → Int32 → Int32 → bv_Mem → Option (Int32 × bv_Mem)
  | 0, _, _, _, _, _ => none
  | fu + 1, l1, l2, l3, l4, mi =>
  if (20 : Int32) ≤ l4 then
    some (l3, mi)
  else
    (f_X1_seenFrom l4 (0 : Int32) l2 mi).bind fun z1 =>
    (f_X1_seenFrom l4 (1 : Int32) l2 mi).bind fun z2 =>
    if (l1 &&& (z1 ^^^ (-1 : Int32))) = 0 then
      b_X7_thief_91 (b_X7_thief_34 fu)  l1 l2 l3 l4 mi
    else
      if (l1 &&& (z2 ^^^ (-1 : Int32))) = 0 then
        b_X7_thief_91 (b_X7_thief_34 fu)  l1 l2 l3 l4 mi
      else
        (b_X7_thief_34 fu) l1 l2 l3 (l4 + 1) mi
def f_X7_thief  (l1 : Int32) (mi : bv_Mem) : Option (Int32 × bv_Mem) :=
  (f_X7_isSomePlaces l1 mi).bind fun z1 =>
  if z1 = 0 then
    (f_X7_error (1 : Int32) mi).bind fun z3 =>
    some (z3.1, z3.2)
  else
    (f_X1_goneBehind (0 : Int32) mi).bind fun z2 =>
    b_X7_thief_34  400 l1 (z2 &&& (l1 ^^^ (-1 : Int32))) (0 : Int32) (0 : Int32) mi
def f_X7_both   (mi : bv_Mem) : Option (Int32) :=
  (f_X5_seenByAll (0 : Int32) mi).bind fun z1 =>
  (f_X5_seenByAll (1 : Int32) mi).bind fun z2 =>
  some (z1 &&& z2)
def f_X7_seed  (l1 : Int32) (mi : bv_Mem) : Option (Int32 × bv_Mem) :=
  some ((mi 1 6), (bv_up mi 1 6 l1))
def b_X6_bodyFrom_4 (mi : bv_Mem) : Nat → Int32 → Int32 → Int32 → Option (Int32)
  | 0, _, _, _ => none
  | fu + 1, l1, l2, l3 =>
  if (7 : Int32) ≤ l3 then
    if bv_in ((l2 * (4 : Int32)) + l1) 28 = true then
    some (bv_x2 ((l2 * (4 : Int32)) + l1).toNatClampNeg)
    else none
  else
    if bv_in ((l2 * (4 : Int32)) + l1) 28 = true then
    if (bv_x2 ((l2 * (4 : Int32)) + l1).toNatClampNeg) = 0 then
      if bv_in l2 7 = true then
      (b_X6_bodyFrom_4 mi fu) l1 (bv_x1 l2.toNatClampNeg) (l3 + 1)
      else none
    else
      some (bv_x2 ((l2 * (4 : Int32)) + l1).toNatClampNeg)
    else none
def f_X6_bodyFrom  (l0 : Int32) (l1 : Int32) (mi : bv_Mem) : Option (Int32) :=
  b_X6_bodyFrom_4 mi  400 l1 l0 (0 : Int32)
def F_X6_own (r_X6_own : Int32 → Int32 → Int32 → bv_Mem → Option (Int32 × bv_Mem)) (r_X6_above : Int32 → Int32 → Int32 → Int32 → bv_Mem → Option (Int32 × bv_Mem)) (r_X6_work : Int32 → Int32 → Int32 → bv_Mem → Option (Int32 × bv_Mem)) (l1 : Int32) (l2 : Int32) (l3 : Int32) (mi : bv_Mem) : Option (Int32 × bv_Mem) :=
  (f_X6_bodyFrom (mi 47 2) l1 mi).bind fun z1 =>
  (r_X6_work z1 l2 l3 mi).bind fun z2 =>
  some (z2.1, z2.2)
def F_X6_above (r_X6_own : Int32 → Int32 → Int32 → bv_Mem → Option (Int32 × bv_Mem)) (r_X6_above : Int32 → Int32 → Int32 → Int32 → bv_Mem → Option (Int32 × bv_Mem)) (r_X6_work : Int32 → Int32 → Int32 → bv_Mem → Option (Int32 × bv_Mem)) (l1 : Int32) (l2 : Int32) (l3 : Int32) (l4 : Int32) (mi : bv_Mem) : Option (Int32 × bv_Mem) :=
  if bv_in ((l1 / (10 : Int32)) - (1 : Int32)) 7 = true then
  (f_X6_bodyFrom (bv_x1 ((l1 / (10 : Int32)) - (1 : Int32)).toNatClampNeg) l2 mi).bind fun z1 =>
  (r_X6_work z1 l3 l4 mi).bind fun z2 =>
  some (z2.1, z2.2)
  else none
def f_X6_begin  (l1 : Int32) (mi : bv_Mem) : Option (bv_Mem) :=
  if (40 : Int32) ≤ (mi 47 1) then
    some mi
  else
    if bv_in (mi 47 1) 40 = true then
    some (bv_up (bv_up mi 48 (mi 47 1).toNatClampNeg l1) 47 1 (((bv_up mi 48 (mi 47 1).toNatClampNeg l1) 47 1) + (1 : Int32)))
    else none
def F_X6_work (r_X6_own : Int32 → Int32 → Int32 → bv_Mem → Option (Int32 × bv_Mem)) (r_X6_above : Int32 → Int32 → Int32 → Int32 → bv_Mem → Option (Int32 × bv_Mem)) (r_X6_work : Int32 → Int32 → Int32 → bv_Mem → Option (Int32 × bv_Mem)) (l1 : Int32) (l2 : Int32) (l3 : Int32) (mi : bv_Mem) : Option (Int32 × bv_Mem) :=
  if l3 ≤ (20 : Int32) then
    (f_X6_begin l1 mi).bind fun z1 =>
    if l1 = (10 : Int32) then
      some ((l2 + (z1 47 3)), z1)
    else if l1 = (11 : Int32) then
      (r_X6_own (0 : Int32) l2 (l3 + (1 : Int32)) z1).bind fun z2 =>
      some ((z2.1 * (2 : Int32)), z2.2)
    else if l1 = (12 : Int32) then
      some ((l2 - (z1 47 4)), z1)
    else if l1 = (13 : Int32) then
      (r_X6_own (1 : Int32) l2 (l3 + (1 : Int32)) z1).bind fun z3 =>
      (r_X6_own (2 : Int32) l2 (l3 + (1 : Int32)) z3.2).bind fun z4 =>
      some ((z3.1 ^^^ z4.1), z4.2)
    else if l1 = (20 : Int32) then
      (r_X6_above l1 (0 : Int32) l2 (l3 + (1 : Int32)) z1).bind fun z5 =>
      some ((z5.1 * (3 : Int32)), z5.2)
    else if l1 = (30 : Int32) then
      (r_X6_above l1 (1 : Int32) l2 (l3 + (1 : Int32)) z1).bind fun z6 =>
      (r_X6_own (2 : Int32) (1 : Int32) (l3 + (1 : Int32)) z6.2).bind fun z7 =>
      some ((z6.1 - z7.1), z7.2)
    else if l1 = (40 : Int32) then
      (r_X6_above l1 (2 : Int32) l2 (l3 + (1 : Int32)) z1).bind fun z8 =>
      some ((-z8.1), z8.2)
    else if l1 = (50 : Int32) then
      (r_X6_above l1 (3 : Int32) l2 (l3 + (1 : Int32)) z1).bind fun z9 =>
      (r_X6_own (0 : Int32) (2 : Int32) (l3 + (1 : Int32)) z9.2).bind fun z10 =>
      some ((z9.1 - z10.1), z10.2)
    else if l1 = (60 : Int32) then
      (r_X6_above l1 (1 : Int32) (l2 + (1 : Int32)) (l3 + (1 : Int32)) z1).bind fun z11 =>
      some (z11.1, z11.2)
    else if l1 = (70 : Int32) then
      (r_X6_above l1 (2 : Int32) l2 (l3 + (1 : Int32)) z1).bind fun z12 =>
      some ((z12.1 ^^^ (z12.2 47 3)), z12.2)
    else if l1 = (71 : Int32) then
      (r_X6_own (1 : Int32) l2 (l3 + (1 : Int32)) z1).bind fun z13 =>
      (r_X6_above l1 (3 : Int32) l2 (l3 + (1 : Int32)) z13.2).bind fun z14 =>
      some ((z13.1 - z14.1), z14.2)
    else
    some ((0 : Int32), z1)
  else
    some ((0 : Int32), mi)
def G_X6 : Nat → (Int32 → Int32 → Int32 → bv_Mem → Option (Int32 × bv_Mem)) × (Int32 → Int32 → Int32 → Int32 → bv_Mem → Option (Int32 × bv_Mem)) × (Int32 → Int32 → Int32 → bv_Mem → Option (Int32 × bv_Mem))
  | 0 => (fun _ _ _ _ => none, fun _ _ _ _ _ => none, fun _ _ _ _ => none)
  | n + 1 => (F_X6_own (G_X6 n).1 (G_X6 n).2.1 (G_X6 n).2.2, F_X6_above (G_X6 n).1 (G_X6 n).2.1 (G_X6 n).2.2, F_X6_work (G_X6 n).1 (G_X6 n).2.1 (G_X6 n).2.2)
def f_X6_speak  (l1 : Int32) (l2 : Int32) (l3 : Int32) (l4 : Int32) (l5 : Int32) (mi : bv_Mem) : Option (Int32 × bv_Mem) :=
  ((G_X6 60).1 l4 l5 (0 : Int32) (bv_up (bv_up (bv_up (bv_up mi 47 1 (0 : Int32)) 47 2 l1) 47 3 l2) 47 4 l3)).bind fun z1 =>
  some (z1.1, z1.2)
def f_X7_voice  (l1 : Int32) (l2 : Int32) (l3 : Int32) (mi : bv_Mem) : Option (Int32 × bv_Mem) :=
  (f_X7_isBottle l1 mi).bind fun z1 =>
  if z1 = 0 then
    (f_X7_error (1 : Int32) mi).bind fun z2 =>
    some (z2.1, z2.2)
  else
    (f_X7_isWithin l2 (0 : Int32) (3 : Int32) mi).bind fun z3 =>
    if z3 = 0 then
      (f_X7_error (1 : Int32) mi).bind fun z5 =>
      some (z5.1, z5.2)
    else
      if bv_in l1 8 = true then
      (bv_RF 6 l1.toNatClampNeg).bind fun q1 =>
      if bv_isC 74 q1 0 = true then
      (f_X6_speak (mi q1 0) l1 (mi q1 1) l2 l3 mi).bind fun z4 =>
      some (z4.1, z4.2)
      else none
      else none
def f_X7_trace  (l1 : Int32) (mi : bv_Mem) : Option (Int32 × bv_Mem) :=
  (f_X7_isWithin l1 (0 : Int32) ((mi 47 1) - (1 : Int32)) mi).bind fun z1 =>
  if z1 = 0 then
    (f_X7_error (2 : Int32) mi).bind fun z2 =>
    some (z2.1, z2.2)
  else
    if bv_in l1 40 = true then
    some ((mi 48 l1.toNatClampNeg), mi)
    else none
def b_X3_startWith_20  : Nat → Nat → Int32 → bv_Mem → Option (bv_Mem)
  | 0, _, _, _ => none
  | fu + 1, l0, l3, mi =>
  if (40 : Int32) ≤ l3 then
    some mi
  else
    if bv_isC 74 l0 3 = true then
    (bv_RF l0 2).bind fun q1 =>
    if bv_isA 74 q1 0 (bv_len q1) = true then
    if bv_in l3 (bv_len q1) = true then
    (b_X3_startWith_20 fu) l0 (l3 + 1) (bv_up mi q1 l3.toNatClampNeg (0 : Int32))
    else none
    else none
    else none
def f_X3_startWith  (l0 : Nat) (l1 : Int32) (l2 : Int32) (mi : bv_Mem) : Option (bv_Mem) :=
  if bv_isC 74 l0 3 = true then
  if l1 = 0 then
    b_X3_startWith_20  400 l0 (0 : Int32) (bv_up (bv_up mi l0 0 l1) l0 1 (0 : Int32))
  else
    b_X3_startWith_20  400 l0 (0 : Int32) (bv_up (bv_up mi l0 0 l1) l0 1 l2)
  else none
def f_X7_isSheet  (l0 : Int32) (mi : bv_Mem) : Option (Int32) :=
  (f_X7_isWithin l0 (0 : Int32) (3 : Int32) mi).bind fun z1 =>
  if z1 = 0 ∨ z1 = 1 then
  some z1
  else none
def b_X7_sheet_49  (l1 : Int32) (l2 : Int32) (l3 : Int32) (mi : bv_Mem) : Option (Int32 × bv_Mem) :=
  if l2 = 0 then
    if bv_in l1 4 = true then
    (bv_RF 49 l1.toNatClampNeg).bind fun q1 =>
    if bv_isC 74 q1 3 = true then
    (f_X3_startWith q1 l2 l3 mi).bind fun z1 =>
    some ((1 : Int32), z1)
    else none
    else none
  else
    if l3 ≤ (40 : Int32) then
      if bv_in l1 4 = true then
      (bv_RF 49 l1.toNatClampNeg).bind fun q2 =>
      if bv_isC 74 q2 3 = true then
      (f_X3_startWith q2 l2 l3 mi).bind fun z2 =>
      some ((1 : Int32), z2)
      else none
      else none
    else
      (f_X7_error (1 : Int32) mi).bind fun z3 =>
      some (z3.1, z3.2)
def b_X7_sheet_35  (l1 : Int32) (l2 : Int32) (l3 : Int32) (mi : bv_Mem) : Option (Int32 × bv_Mem) :=
  if l2 = 0 then
    b_X7_sheet_49  l1 l2 l3 mi
  else
    if 0 ≤ l3 then
      b_X7_sheet_49  l1 l2 l3 mi
    else
      (f_X7_error (3 : Int32) mi).bind fun z1 =>
      some (z1.1, z1.2)
def f_X7_sheet  (l1 : Int32) (l2 : Int32) (l3 : Int32) (mi : bv_Mem) : Option (Int32 × bv_Mem) :=
  (f_X7_isSheet l1 mi).bind fun z1 =>
  if z1 = 0 then
    (f_X7_error (1 : Int32) mi).bind fun z2 =>
    some (z2.1, z2.2)
  else
    if l2 = 0 then
      b_X7_sheet_35  l1 l2 l3 mi
    else
      if l2 = (8 : Int32) then
        b_X7_sheet_35  l1 l2 l3 mi
      else
        if l2 = (16 : Int32) then
          b_X7_sheet_35  l1 l2 l3 mi
        else
          if l2 = (32 : Int32) then
            b_X7_sheet_35  l1 l2 l3 mi
          else
            (f_X7_error (1 : Int32) mi).bind fun z3 =>
            some (z3.1, z3.2)
def f_X3_cut  (l0 : Nat) (l1 : Int32) (mi : bv_Mem) : Option (Int32) :=
  if bv_isC 74 l0 3 = true then
  if (mi l0 0) = (8 : Int32) then
    some (l1 &&& (255 : Int32))
  else
    if (mi l0 0) = (16 : Int32) then
      some (l1 &&& (65535 : Int32))
    else
      some l1
  else none
def f_X7_put  (l1 : Int32) (l2 : Int32) (l3 : Int32) (mi : bv_Mem) : Option (Int32 × bv_Mem) :=
  (f_X7_isSheet l1 mi).bind fun z1 =>
  if z1 = 0 then
    (f_X7_error (1 : Int32) mi).bind fun z6 =>
    some (z6.1, z6.2)
  else
    if bv_in l1 4 = true then
    (bv_RF 49 l1.toNatClampNeg).bind fun q1 =>
    if bv_isC 74 q1 3 = true then
    if (mi q1 0) = 0 then
      (f_X7_error (2 : Int32) mi).bind fun z5 =>
      some (z5.1, z5.2)
    else
      (f_X7_isWithin l2 (0 : Int32) ((mi q1 1) - (1 : Int32)) mi).bind fun z2 =>
      if z2 = 0 then
        (f_X7_error (1 : Int32) mi).bind fun z4 =>
        some (z4.1, z4.2)
      else
        (bv_RF q1 2).bind fun q2 =>
        (f_X3_cut q1 l3 mi).bind fun z3 =>
        if bv_isA 74 q2 0 (bv_len q2) = true then
        if bv_in l2 (bv_len q2) = true then
        some ((1 : Int32), (bv_up mi q2 l2.toNatClampNeg z3))
        else none
        else none
    else none
    else none
def f_X3_hasRun  (l0 : Nat) (l1 : Int32) (l2 : Int32) (mi : bv_Mem) : Option (Int32) :=
  if l1 < 0 then
    some (0 : Int32)
  else
    if l2 < 0 then
      some (0 : Int32)
    else
      if bv_isC 74 l0 3 = true then
      if ((mi l0 1) - l2) < l1 then
        some (0 : Int32)
      else
        some (1 : Int32)
      else none
def f_X7_move  (l1 : Int32) (l2 : Int32) (l3 : Int32) (l4 : Int32) (l5 : Int32) (mi : bv_Mem) : Option (Int32 × bv_Mem) :=
  (f_X7_isSheet l1 mi).bind fun z1 =>
  if z1 = 0 then
    (f_X7_error (1 : Int32) mi).bind fun z2 =>
    some (z2.1, z2.2)
  else
    (f_X7_isSheet l3 mi).bind fun z3 =>
    if z3 = 0 then
      (f_X7_error (1 : Int32) mi).bind fun z11 =>
      some (z11.1, z11.2)
    else
      if bv_in l1 4 = true then
      (bv_RF 49 l1.toNatClampNeg).bind fun q1 =>
      if bv_in l3 4 = true then
      (bv_RF 49 l3.toNatClampNeg).bind fun q2 =>
      if bv_isC 74 q1 3 = true then
      if (mi q1 0) = 0 then
        (f_X7_error (2 : Int32) mi).bind fun z4 =>
        some (z4.1, z4.2)
      else
        if bv_isC 74 q2 3 = true then
        if (mi q2 0) = 0 then
          (f_X7_error (2 : Int32) mi).bind fun z10 =>
          some (z10.1, z10.2)
        else
          if (mi q1 0) = (mi q2 0) then
            (f_X3_hasRun q1 l2 l5 mi).bind fun z5 =>
            if z5 = 0 then
              (f_X7_error (1 : Int32) mi).bind fun z6 =>
              some (z6.1, z6.2)
            else
              (f_X3_hasRun q2 l4 l5 mi).bind fun z7 =>
              if z7 = 0 then
                (f_X7_error (1 : Int32) mi).bind fun z8 =>
                some (z8.1, z8.2)
              else
                (bv_RF q1 2).bind fun q3 =>
                (bv_RF q2 2).bind fun q4 =>
                if bv_isA 74 q3 0 (bv_len q3) = true then
                if bv_isA 74 q4 0 (bv_len q4) = true then
                if bv_cpok mi 0 q3 q4 (bv_len q3) (bv_len q4) l2 l4 l5 = true then
                some (l5, (bv_cp mi q3 q4 l2.toNatClampNeg l4.toNatClampNeg l5.toNatClampNeg))
                else none
                else none
                else none
          else
            (f_X7_error (5 : Int32) mi).bind fun z9 =>
            some (z9.1, z9.2)
        else none
      else none
      else none
      else none
def b_X7_heights_35  : Nat → Nat → Int32 → bv_Mem → Option (Int32 × bv_Mem)
  | 0, _, _, _ => none
  | fu + 1, l2, l3, mi =>
  if (20 : Int32) ≤ l3 then
    some (l3, mi)
  else
    if bv_isC 74 l2 3 = true then
    if (mi l2 1) ≤ l3 then
      some (l3, mi)
    else
      (bv_RF l2 2).bind fun q1 =>
      if bv_isA 74 q1 0 (bv_len q1) = true then
      if bv_in l3 (bv_len q1) = true then
      (f_X7_isWithin (mi q1 l3.toNatClampNeg) (0 : Int32) (20 : Int32) mi).bind fun z1 =>
      if z1 = 0 then
        some (l3, mi)
      else
        (bv_RF l2 2).bind fun q2 =>
        if bv_isA 74 q2 0 (bv_len q2) = true then
        if bv_in l3 (bv_len q2) = true then
        if bv_in l3 20 = true then
        (b_X7_heights_35 fu) l2 (l3 + 1) (bv_up mi 3 l3.toNatClampNeg (mi q2 l3.toNatClampNeg))
        else none
        else none
        else none
      else none
      else none
    else none
def f_X7_heights  (l1 : Int32) (mi : bv_Mem) : Option (Int32 × bv_Mem) :=
  (f_X7_isSheet l1 mi).bind fun z1 =>
  if z1 = 0 then
    (f_X7_error (1 : Int32) mi).bind fun z3 =>
    some (z3.1, z3.2)
  else
    if bv_in l1 4 = true then
    (bv_RF 49 l1.toNatClampNeg).bind fun q1 =>
    if bv_isC 74 q1 3 = true then
    if (mi q1 0) = 0 then
      (f_X7_error (2 : Int32) mi).bind fun z2 =>
      some (z2.1, z2.2)
    else
      b_X7_heights_35  400 q1 (0 : Int32) mi
    else none
    else none
def b_X7_judge_76  (l2 : Nat) (l3 : Int32) (mi : bv_Mem) : Option (Int32 × bv_Mem) :=
  if l3 = (20 : Int32) then
    if bv_isC 74 l2 3 = true then
    if l3 = (mi l2 1) then
      some ((-1 : Int32), mi)
    else
      some (l3, mi)
    else none
  else
    some (l3, mi)
def b_X7_judge_35  : Nat → Nat → Int32 → bv_Mem → Option (Int32 × bv_Mem)
  | 0, _, _, _ => none
  | fu + 1, l2, l3, mi =>
  if (20 : Int32) ≤ l3 then
    b_X7_judge_76  l2 l3 mi
  else
    if bv_isC 74 l2 3 = true then
    if (mi l2 1) ≤ l3 then
      b_X7_judge_76  l2 l3 mi
    else
      (bv_RF l2 2).bind fun q1 =>
      if bv_isA 74 q1 0 (bv_len q1) = true then
      if bv_in l3 (bv_len q1) = true then
      if bv_in l3 20 = true then
      if (mi q1 l3.toNatClampNeg) = (mi 4 l3.toNatClampNeg) then
        (b_X7_judge_35 fu) l2 (l3 + 1) mi
      else
        b_X7_judge_76  l2 l3 mi
      else none
      else none
      else none
    else none
def f_X7_judge  (l1 : Int32) (mi : bv_Mem) : Option (Int32 × bv_Mem) :=
  (f_X7_isSheet l1 mi).bind fun z1 =>
  if z1 = 0 then
    (f_X7_error (1 : Int32) mi).bind fun z3 =>
    some (z3.1, z3.2)
  else
    if bv_in l1 4 = true then
    (bv_RF 49 l1.toNatClampNeg).bind fun q1 =>
    if bv_isC 74 q1 3 = true then
    if (mi q1 0) = 0 then
      (f_X7_error (2 : Int32) mi).bind fun z2 =>
      some (z2.1, z2.2)
    else
      b_X7_judge_35  400 q1 (0 : Int32) mi
    else none
    else none
def f_X0_copyBottle  (l0 : Nat) (l1 : Nat) (mi : bv_Mem) : Option (bv_Mem) :=
  if bv_isC 74 l1 0 = true then
  if bv_isC 74 l0 0 = true then
  if bv_fit .boolean ((bv_up (bv_up (bv_up (bv_up (bv_up mi l0 0 (mi l1 0)) l0 1 ((bv_up mi l0 0 (mi l1 0)) l1 1)) l0 2 ((bv_up (bv_up mi l0 0 (mi l1 0)) l0 1 ((bv_up mi l0 0 (mi l1 0)) l1 1)) l1 2)) l0 3 ((bv_up (bv_up (bv_up mi l0 0 (mi l1 0)) l0 1 ((bv_up mi l0 0 (mi l1 0)) l1 1)) l0 2 ((bv_up (bv_up mi l0 0 (mi l1 0)) l0 1 ((bv_up mi l0 0 (mi l1 0)) l1 1)) l1 2)) l1 3)) l0 4 ((bv_up (bv_up (bv_up (bv_up mi l0 0 (mi l1 0)) l0 1 ((bv_up mi l0 0 (mi l1 0)) l1 1)) l0 2 ((bv_up (bv_up mi l0 0 (mi l1 0)) l0 1 ((bv_up mi l0 0 (mi l1 0)) l1 1)) l1 2)) l0 3 ((bv_up (bv_up (bv_up mi l0 0 (mi l1 0)) l0 1 ((bv_up mi l0 0 (mi l1 0)) l1 1)) l0 2 ((bv_up (bv_up mi l0 0 (mi l1 0)) l0 1 ((bv_up mi l0 0 (mi l1 0)) l1 1)) l1 2)) l1 3)) l1 4)) l1 5) = true then
  some (bv_up (bv_up (bv_up (bv_up (bv_up (bv_up mi l0 0 (mi l1 0)) l0 1 ((bv_up mi l0 0 (mi l1 0)) l1 1)) l0 2 ((bv_up (bv_up mi l0 0 (mi l1 0)) l0 1 ((bv_up mi l0 0 (mi l1 0)) l1 1)) l1 2)) l0 3 ((bv_up (bv_up (bv_up mi l0 0 (mi l1 0)) l0 1 ((bv_up mi l0 0 (mi l1 0)) l1 1)) l0 2 ((bv_up (bv_up mi l0 0 (mi l1 0)) l0 1 ((bv_up mi l0 0 (mi l1 0)) l1 1)) l1 2)) l1 3)) l0 4 ((bv_up (bv_up (bv_up (bv_up mi l0 0 (mi l1 0)) l0 1 ((bv_up mi l0 0 (mi l1 0)) l1 1)) l0 2 ((bv_up (bv_up mi l0 0 (mi l1 0)) l0 1 ((bv_up mi l0 0 (mi l1 0)) l1 1)) l1 2)) l0 3 ((bv_up (bv_up (bv_up mi l0 0 (mi l1 0)) l0 1 ((bv_up mi l0 0 (mi l1 0)) l1 1)) l0 2 ((bv_up (bv_up mi l0 0 (mi l1 0)) l0 1 ((bv_up mi l0 0 (mi l1 0)) l1 1)) l1 2)) l1 3)) l1 4)) l0 5 ((bv_up (bv_up (bv_up (bv_up (bv_up mi l0 0 (mi l1 0)) l0 1 ((bv_up mi l0 0 (mi l1 0)) l1 1)) l0 2 ((bv_up (bv_up mi l0 0 (mi l1 0)) l0 1 ((bv_up mi l0 0 (mi l1 0)) l1 1)) l1 2)) l0 3 ((bv_up (bv_up (bv_up mi l0 0 (mi l1 0)) l0 1 ((bv_up mi l0 0 (mi l1 0)) l1 1)) l0 2 ((bv_up (bv_up mi l0 0 (mi l1 0)) l0 1 ((bv_up mi l0 0 (mi l1 0)) l1 1)) l1 2)) l1 3)) l0 4 ((bv_up (bv_up (bv_up (bv_up mi l0 0 (mi l1 0)) l0 1 ((bv_up mi l0 0 (mi l1 0)) l1 1)) l0 2 ((bv_up (bv_up mi l0 0 (mi l1 0)) l0 1 ((bv_up mi l0 0 (mi l1 0)) l1 1)) l1 2)) l0 3 ((bv_up (bv_up (bv_up mi l0 0 (mi l1 0)) l0 1 ((bv_up mi l0 0 (mi l1 0)) l1 1)) l0 2 ((bv_up (bv_up mi l0 0 (mi l1 0)) l0 1 ((bv_up mi l0 0 (mi l1 0)) l1 1)) l1 2)) l1 3)) l1 4)) l1 5))
  else none
  else none
  else none
def f_X1_copyLand_23_2   (mi : bv_Mem) : Option (bv_Mem) :=
  some (bv_cp (bv_cp mi 3 24 (0 : Int32).toNatClampNeg (0 : Int32).toNatClampNeg (20 : Int32).toNatClampNeg) 4 25 (0 : Int32).toNatClampNeg (0 : Int32).toNatClampNeg (20 : Int32).toNatClampNeg)
def b_X5_copyTown_22_1_35  : Nat → Int32 → bv_Mem → Option (bv_Mem)
  | 0, _, _ => none
  | fu + 1, l2, mi =>
  if (8 : Int32) ≤ l2 then
    (f_X4_copyTape 28 7 (bv_up (bv_up (bv_up mi 22 4 (mi 1 4)) 22 5 ((bv_up mi 22 4 (mi 1 4)) 1 5)) 22 6 ((bv_up (bv_up mi 22 4 (mi 1 4)) 22 5 ((bv_up mi 22 4 (mi 1 4)) 1 5)) 1 6))).bind fun z1 =>
    (f_X4_copyTape 30 9 z1).bind fun z2 =>
    (f_X4_copyTape 32 11 z2).bind fun z3 =>
    some (bv_up (bv_cp z3 13 34 (0 : Int32).toNatClampNeg (0 : Int32).toNatClampNeg (20 : Int32).toNatClampNeg) 22 11 ((bv_cp z3 13 34 (0 : Int32).toNatClampNeg (0 : Int32).toNatClampNeg (20 : Int32).toNatClampNeg) 1 11))
  else
    if bv_in l2 8 = true then
    (bv_RF 27 l2.toNatClampNeg).bind fun q1 =>
    (bv_RF 6 l2.toNatClampNeg).bind fun q2 =>
    if bv_isC 74 q1 0 = true then
    (f_X0_copyBottle q1 q2 mi).bind fun z4 =>
    (b_X5_copyTown_22_1_35 fu) (l2 + 1) z4
    else none
    else none
def f_X5_copyTown_22_1   (mi : bv_Mem) : Option (bv_Mem) :=
  (f_X1_copyLand_23_2 mi).bind fun z1 =>
  b_X5_copyTown_22_1_35  400 (0 : Int32) (bv_up (bv_cp z1 5 26 (0 : Int32).toNatClampNeg (0 : Int32).toNatClampNeg (5 : Int32).toNatClampNeg) 22 2 ((bv_cp z1 5 26 (0 : Int32).toNatClampNeg (0 : Int32).toNatClampNeg (5 : Int32).toNatClampNeg) 1 2))
def f_X7_image   (mi : bv_Mem) : Option (Int32 × bv_Mem) :=
  (f_X5_copyTown_22_1 mi).bind fun z1 =>
  some (((bv_up z1 0 2 ((z1 0 2) + (1 : Int32))) 0 2), (bv_up z1 0 2 ((z1 0 2) + (1 : Int32))))
def f_X1_copyLand_23   (mi : bv_Mem) : Option (bv_Mem) :=
  some (bv_cp (bv_cp mi 24 3 (0 : Int32).toNatClampNeg (0 : Int32).toNatClampNeg (20 : Int32).toNatClampNeg) 25 4 (0 : Int32).toNatClampNeg (0 : Int32).toNatClampNeg (20 : Int32).toNatClampNeg)
def b_X5_copyTown_22_35  : Nat → Int32 → bv_Mem → Option (bv_Mem)
  | 0, _, _ => none
  | fu + 1, l2, mi =>
  if (8 : Int32) ≤ l2 then
    (f_X4_copyTape 7 28 (bv_up (bv_up (bv_up mi 1 4 (mi 22 4)) 1 5 ((bv_up mi 1 4 (mi 22 4)) 22 5)) 1 6 ((bv_up (bv_up mi 1 4 (mi 22 4)) 1 5 ((bv_up mi 1 4 (mi 22 4)) 22 5)) 22 6))).bind fun z1 =>
    (f_X4_copyTape 9 30 z1).bind fun z2 =>
    (f_X4_copyTape 11 32 z2).bind fun z3 =>
    some (bv_up (bv_cp z3 34 13 (0 : Int32).toNatClampNeg (0 : Int32).toNatClampNeg (20 : Int32).toNatClampNeg) 1 11 ((bv_cp z3 34 13 (0 : Int32).toNatClampNeg (0 : Int32).toNatClampNeg (20 : Int32).toNatClampNeg) 22 11))
  else
    if bv_in l2 8 = true then
    (bv_RF 6 l2.toNatClampNeg).bind fun q1 =>
    (bv_RF 27 l2.toNatClampNeg).bind fun q2 =>
    if bv_isC 74 q1 0 = true then
    (f_X0_copyBottle q1 q2 mi).bind fun z4 =>
    (b_X5_copyTown_22_35 fu) (l2 + 1) z4
    else none
    else none
def f_X5_copyTown_22   (mi : bv_Mem) : Option (bv_Mem) :=
  (f_X1_copyLand_23 mi).bind fun z1 =>
  b_X5_copyTown_22_35  400 (0 : Int32) (bv_up (bv_cp z1 26 5 (0 : Int32).toNatClampNeg (0 : Int32).toNatClampNeg (5 : Int32).toNatClampNeg) 1 2 ((bv_cp z1 26 5 (0 : Int32).toNatClampNeg (0 : Int32).toNatClampNeg (5 : Int32).toNatClampNeg) 22 2))
def f_X7_restore   (mi : bv_Mem) : Option (Int32 × bv_Mem) :=
  if (mi 0 2) = 0 then
    (f_X7_error (2 : Int32) mi).bind fun z2 =>
    some (z2.1, z2.2)
  else
    (f_X5_copyTown_22 mi).bind fun z1 =>
    some ((z1 1 5), z1)
def f_X7_tell  (l1 : Int32) (mi : bv_Mem) : Option (Int32 × bv_Mem) :=
  if (mi 1 11) < (20 : Int32) then
    if bv_in (mi 1 11) 20 = true then
    some (((bv_up (bv_up mi 13 (mi 1 11).toNatClampNeg l1) 1 11 (((bv_up mi 13 (mi 1 11).toNatClampNeg l1) 1 11) + (1 : Int32))) 1 11), (bv_up (bv_up mi 13 (mi 1 11).toNatClampNeg l1) 1 11 (((bv_up mi 13 (mi 1 11).toNatClampNeg l1) 1 11) + (1 : Int32))))
    else none
  else
    (f_X7_error (4 : Int32) mi).bind fun z1 =>
    some (z1.1, z1.2)
def b_X7_check_18  : Nat → Int32 → Int32 → bv_Mem → Option (Int32 × bv_Mem)
  | 0, _, _, _ => none
  | fu + 1, l1, l2, mi =>
  if l1 ≤ l2 then
    some ((0 : Int32), mi)
  else
    if bv_in l2 20 = true then
    (f_X7_missingBehind (l2 + (1 : Int32)) mi).bind fun z1 =>
    if (mi 13 l2.toNatClampNeg) = z1 then
      (b_X7_check_18 fu) l1 (l2 + 1) mi
    else
      some (((1 : Int32) + l2), mi)
    else none
def f_X7_check   (mi : bv_Mem) : Option (Int32 × bv_Mem) :=
  b_X7_check_18  400 (mi 1 11) (0 : Int32) (bv_up mi 1 11 (0 : Int32))
def b_X5_openBottles_4 (mi : bv_Mem) : Nat → Int32 → Int32 → Option (Int32)
  | 0, _, _ => none
  | fu + 1, l1, l2 =>
  if (mi 1 4) ≤ l2 then
    some l1
  else
    if bv_in l2 8 = true then
    (bv_RF 6 l2.toNatClampNeg).bind fun q1 =>
    if bv_isC 74 q1 0 = true then
    (f_X7_oneIf (mi q1 5) mi).bind fun z1 =>
    (b_X5_openBottles_4 mi fu) (l1 + z1) (l2 + 1)
    else none
    else none
def f_X5_openBottles   (mi : bv_Mem) : Option (Int32) :=
  b_X5_openBottles_4 mi  400 (0 : Int32) (0 : Int32)
def f_X7_count  (l1 : Int32) (mi : bv_Mem) : Option (Int32 × bv_Mem) :=
  if l1 = (0 : Int32) then
    some ((mi 1 2), mi)
  else if l1 = (1 : Int32) then
    some ((mi 1 4), mi)
  else if l1 = (2 : Int32) then
    some ((mi 1 5), mi)
  else if l1 = (3 : Int32) then
    (f_X7_missingBehind (0 : Int32) mi).bind fun z1 =>
    some (z1, mi)
  else if l1 = (4 : Int32) then
    (f_X5_openBottles mi).bind fun z2 =>
    some (z2, mi)
  else if l1 = (5 : Int32) then
    (f_X7_workOutPrices mi).bind fun z3 =>
    (f_X7_priceTogether (((1 : Int32) <<< ((z3 1 4) &&& 31)) - (1 : Int32)) z3).bind fun z4 =>
    some (z4, z3)
  else if l1 = (6 : Int32) then
    some ((mi 7 1), mi)
  else if l1 = (7 : Int32) then
    some ((mi 1 11), mi)
  else if l1 = (8 : Int32) then
    some ((mi 47 1), mi)
  else if l1 = (9 : Int32) then
    some ((mi 1 6), mi)
  else
  (f_X7_error (1 : Int32) mi).bind fun z5 =>
  some (z5.1, z5.2)
def f_X7_told  (l1 : Int32) (mi : bv_Mem) : Option (Int32 × bv_Mem) :=
  (f_X7_isWithin l1 (1 : Int32) (5 : Int32) mi).bind fun z1 =>
  if z1 = 0 then
    (f_X7_error (1 : Int32) mi).bind fun z2 =>
    some (z2.1, z2.2)
  else
    if bv_in l1 6 = true then
    some ((mi 50 l1.toNatClampNeg), mi)
    else none
def f_X8_in  (l0 : Int32) (l1 : Int32) (l2 : Int32) (mi : bv_Mem) : Option (Int32) :=
  if l0 < l1 then
    some (0 : Int32)
  else
    if l2 < l0 then
      some (0 : Int32)
    else
      some (1 : Int32)
def f_X8_becomes  (l1 : Int32) (l2 : Int32) (mi : bv_Mem) : Option (Int32 × bv_Mem) :=
  if bv_in l1 371 = true then
  some ((mi 62 l1.toNatClampNeg), (bv_up mi 62 l1.toNatClampNeg l2))
  else none
def f_X8_error  (l1 : Int32) (mi : bv_Mem) : Option (Int32 × bv_Mem) :=
  if bv_in ((-1000000000 : Int32) - l1) 6 = true then
  some (l1, (bv_up mi 65 ((-1000000000 : Int32) - l1).toNatClampNeg ((mi 65 ((-1000000000 : Int32) - l1).toNatClampNeg) + (1 : Int32))))
  else none
def f_X8_isPlace  (l0 : Int32) (mi : bv_Mem) : Option (Int32) :=
  (f_X8_in l0 (0 : Int32) (19 : Int32) mi).bind fun z1 =>
  if z1 = 0 ∨ z1 = 1 then
  some z1
  else none
def b_X8_land_29  (l1 : Int32) (l2 : Int32) (l3 : Int32) (s0 : Int32) (s1 : Int32) (s2 : Int32) (mi : bv_Mem) : Option (Int32 × bv_Mem) :=
  (f_X8_in s0 s1 s2 mi).bind fun z1 =>
  if z1 = 0 then
    (f_X8_error (-1000000001 : Int32) mi).bind fun z4 =>
    some (z4.1, z4.2)
  else
    if l2 = 0 then
      (f_X8_becomes ((11 : Int32) + l1) l3 mi).bind fun z3 =>
      some (z3.1, z3.2)
    else
      (f_X8_becomes ((31 : Int32) + l1) l3 mi).bind fun z2 =>
      some (z2.1, z2.2)
def f_X8_land  (l1 : Int32) (l2 : Int32) (l3 : Int32) (mi : bv_Mem) : Option (Int32 × bv_Mem) :=
  (f_X8_isPlace l1 mi).bind fun z1 =>
  if z1 = 0 then
    (f_X8_error (-1000000001 : Int32) mi).bind fun z2 =>
    some (z2.1, z2.2)
  else
    (f_X8_in l2 (0 : Int32) (1 : Int32) mi).bind fun z3 =>
    if z3 = 0 then
      (f_X8_error (-1000000001 : Int32) mi).bind fun z4 =>
      some (z4.1, z4.2)
    else
      if l2 = 0 then
        b_X8_land_29  l1 l2 l3 l3 (0 : Int32) (20 : Int32) mi
      else
        b_X8_land_29  l1 l2 l3 l3 (0 : Int32) (99 : Int32) mi
def f_X8_isThere  (l1 : Int32) (mi : bv_Mem) : Option (Int32) :=
  if bv_in ((31 : Int32) + l1) 371 = true then
  if (mi 62 ((31 : Int32) + l1).toNatClampNeg) = 0 then
    some (1 : Int32)
  else
    some (0 : Int32)
  else none
def f_X8_steps  (l0 : Int32) (l1 : Int32) (mi : bv_Mem) : Option (Int32) :=
  if l1 ≤ l0 then
    some (l0 - l1)
  else
    some (l1 - l0)
def b_X8_isSeen_61 (mi : bv_Mem) (k_38 : Int32 → Int32 → Int32 → Int32 → Int32 → Int32 → Option (Int32)) (l1 : Int32) (l2 : Int32) (l3 : Int32) (l4 : Int32) (l5 : Int32) (l6 : Int32) (s0 : Int32) : Option (Int32) :=
  (f_X8_isThere s0 mi).bind fun z1 =>
  if z1 = 0 then
    k_38 l1 l2 l3 l4 l5 (l6 + 1)
  else
    if bv_in ((11 : Int32) + s0) 371 = true then
    if (((mi 62 ((11 : Int32) + s0).toNatClampNeg) - l2) * l5) < (l4 * l6) then
      k_38 l1 l2 l3 l4 l5 (l6 + 1)
    else
      some (0 : Int32)
    else none
def b_X8_isSeen_38 (mi : bv_Mem) : Nat → Int32 → Int32 → Int32 → Int32 → Int32 → Int32 → Option (Int32)
  | 0, _, _, _, _, _, _ => none
  | fu + 1, l1, l2, l3, l4, l5, l6 =>
  if l5 ≤ l6 then
    some (1 : Int32)
  else
    if l3 ≤ l1 then
      b_X8_isSeen_61 mi (b_X8_isSeen_38 mi fu)  l1 l2 l3 l4 l5 l6 (l1 - l6)
    else
      b_X8_isSeen_61 mi (b_X8_isSeen_38 mi fu)  l1 l2 l3 l4 l5 l6 (l1 + l6)
def f_X8_isSeen  (l1 : Int32) (l2 : Int32) (l3 : Int32) (mi : bv_Mem) : Option (Int32) :=
  if l1 = l3 then
    some (0 : Int32)
  else
    (f_X8_isThere l3 mi).bind fun z1 =>
    if z1 = 0 then
      some (0 : Int32)
    else
      if bv_in ((11 : Int32) + l3) 371 = true then
      (f_X8_steps l1 l3 mi).bind fun z2 =>
      b_X8_isSeen_38 mi  400 l1 l2 l3 ((mi 62 ((11 : Int32) + l3).toNatClampNeg) - l2) z2 (1 : Int32)
      else none
def b_X8_viewOf_31 (mi : bv_Mem) : Nat → Int32 → Int32 → Int32 → Int32 → Option (Int32)
  | 0, _, _, _, _ => none
  | fu + 1, l1, l3, l5, l6 =>
  if l5 ≤ l6 then
    some l3
  else
    if bv_in ((11 : Int32) + l1) 371 = true then
    (f_X8_isSeen l1 (mi 62 ((11 : Int32) + l1).toNatClampNeg) l6 mi).bind fun z1 =>
    if z1 = 0 then
      (b_X8_viewOf_31 mi fu) l1 (l3 ||| (0 : Int32)) l5 (l6 + 1)
    else
      (b_X8_viewOf_31 mi fu) l1 (l3 ||| ((1 : Int32) <<< (l6 &&& 31))) l5 (l6 + 1)
    else none
def b_X8_viewOf_13 (mi : bv_Mem) (l1 : Int32) (l2 : Int32) (l3 : Int32) (s0 : Int32) : Option (Int32) :=
  if l2 = 0 then
    b_X8_viewOf_31 mi  400 l1 l3 l1 s0
  else
    b_X8_viewOf_31 mi  400 l1 l3 (20 : Int32) s0
def f_X8_viewOf  (l1 : Int32) (l2 : Int32) (mi : bv_Mem) : Option (Int32) :=
  if l2 = 0 then
    b_X8_viewOf_13 mi  l1 l2 (0 : Int32) (0 : Int32)
  else
    b_X8_viewOf_13 mi  l1 l2 (0 : Int32) (l1 + (1 : Int32))
def b_X8_bits_4 (mi : bv_Mem) : Nat → Int32 → Int32 → Option (Int32)
  | 0, _, _ => none
  | fu + 1, l1, l2 =>
  if l2 = 0 then
    some l1
  else
    (b_X8_bits_4 mi fu) (l1 + 1) (l2 &&& (l2 - (1 : Int32)))
def f_X8_bits  (l0 : Int32) (mi : bv_Mem) : Option (Int32) :=
  b_X8_bits_4 mi  400 (0 : Int32) l0
def f_X8_sightsOf  (l1 : Int32) (mi : bv_Mem) : Option (Int32) :=
  (f_X8_viewOf l1 (0 : Int32) mi).bind fun z1 =>
  (f_X8_bits z1 mi).bind fun z2 =>
  (f_X8_viewOf l1 (1 : Int32) mi).bind fun z3 =>
  (f_X8_bits z3 mi).bind fun z4 =>
  some (z2 + z4)
def b_X8_villagesAt_4 (mi : bv_Mem) : Nat → Int32 → Int32 → Int32 → Option (Int32)
  | 0, _, _, _ => none
  | fu + 1, l1, l2, l3 =>
  if (mi 62 2) ≤ l3 then
    some l2
  else
    if bv_in ((6 : Int32) + l3) 371 = true then
    if (mi 62 ((6 : Int32) + l3).toNatClampNeg) = l1 then
      (b_X8_villagesAt_4 mi fu) l1 (l2 ||| ((1 : Int32) <<< (l3 &&& 31))) (l3 + 1)
    else
      (b_X8_villagesAt_4 mi fu) l1 (l2 ||| (0 : Int32)) (l3 + 1)
    else none
def f_X8_villagesAt  (l1 : Int32) (mi : bv_Mem) : Option (Int32) :=
  b_X8_villagesAt_4 mi  400 l1 (0 : Int32) (0 : Int32)
def f_X8_ofPlace  (l1 : Int32) (l2 : Int32) (mi : bv_Mem) : Option (Int32 × bv_Mem) :=
  (f_X8_isPlace l1 mi).bind fun z1 =>
  if z1 = 0 then
    (f_X8_error (-1000000001 : Int32) mi).bind fun z7 =>
    some (z7.1, z7.2)
  else
    if l2 = (0 : Int32) then
      if bv_in ((11 : Int32) + l1) 371 = true then
      some ((mi 62 ((11 : Int32) + l1).toNatClampNeg), mi)
      else none
    else if l2 = (1 : Int32) then
      if bv_in ((31 : Int32) + l1) 371 = true then
      some ((mi 62 ((31 : Int32) + l1).toNatClampNeg), mi)
      else none
    else if l2 = (2 : Int32) then
      (f_X8_viewOf l1 (l2 - (2 : Int32)) mi).bind fun z2 =>
      some (z2, mi)
    else if l2 = (3 : Int32) then
      (f_X8_viewOf l1 (l2 - (2 : Int32)) mi).bind fun z3 =>
      some (z3, mi)
    else if l2 = (4 : Int32) then
      (f_X8_sightsOf l1 mi).bind fun z4 =>
      some (z4, mi)
    else if l2 = (5 : Int32) then
      (f_X8_villagesAt l1 mi).bind fun z5 =>
      some (z5, mi)
    else
    (f_X8_error (-1000000001 : Int32) mi).bind fun z6 =>
    some (z6.1, z6.2)
def f_X8_village  (l1 : Int32) (mi : bv_Mem) : Option (Int32 × bv_Mem) :=
  (f_X8_isPlace l1 mi).bind fun z1 =>
  if z1 = 0 then
    (f_X8_error (-1000000001 : Int32) mi).bind fun z3 =>
    some (z3.1, z3.2)
  else
    if (mi 62 2) = (5 : Int32) then
      (f_X8_error (-1000000004 : Int32) mi).bind fun z2 =>
      some (z2.1, z2.2)
    else
      if bv_in ((6 : Int32) + (mi 62 2)) 371 = true then
      some ((((bv_up (bv_up mi 62 ((6 : Int32) + (mi 62 2)).toNatClampNeg l1) 62 2 (((bv_up mi 62 ((6 : Int32) + (mi 62 2)).toNatClampNeg l1) 62 2) + (1 : Int32))) 62 2) - (1 : Int32)), (bv_up (bv_up mi 62 ((6 : Int32) + (mi 62 2)).toNatClampNeg l1) 62 2 (((bv_up mi 62 ((6 : Int32) + (mi 62 2)).toNatClampNeg l1) 62 2) + (1 : Int32))))
      else none
def f_X8_isVillage  (l1 : Int32) (mi : bv_Mem) : Option (Int32) :=
  (f_X8_in l1 (0 : Int32) ((mi 62 2) - (1 : Int32)) mi).bind fun z1 =>
  if z1 = 0 ∨ z1 = 1 then
  some z1
  else none
def f_X8_moves  (l1 : Int32) (l2 : Int32) (mi : bv_Mem) : Option (Int32 × bv_Mem) :=
  (f_X8_isVillage l1 mi).bind fun z1 =>
  if z1 = 0 then
    (f_X8_error (-1000000001 : Int32) mi).bind fun z2 =>
    some (z2.1, z2.2)
  else
    (f_X8_isPlace l2 mi).bind fun z3 =>
    if z3 = 0 then
      (f_X8_error (-1000000001 : Int32) mi).bind fun z4 =>
      some (z4.1, z4.2)
    else
      (f_X8_becomes ((6 : Int32) + l1) l2 mi).bind fun z5 =>
      some (z5.1, z5.2)
def f_X8_at  (l1 : Int32) (mi : bv_Mem) : Option (Int32 × bv_Mem) :=
  (f_X8_isVillage l1 mi).bind fun z1 =>
  if z1 = 0 then
    (f_X8_error (-1000000001 : Int32) mi).bind fun z2 =>
    some (z2.1, z2.2)
  else
    if bv_in ((6 : Int32) + l1) 371 = true then
    some ((mi 62 ((6 : Int32) + l1).toNatClampNeg), mi)
    else none
def f_X8_held  (l0 : Int32) (l1 : Int32) (l2 : Int32) (mi : bv_Mem) : Option (Int32) :=
  if l1 ≤ l0 then
    if l0 ≤ l2 then
      some l0
    else
      some l2
  else
    some l1
def f_X8_twoOf  (l0 : Int32) (l1 : Int32) (l2 : Int32) (mi : bv_Mem) : Option (Int32) :=
  if l0 = (37 : Int32) then
    if l2 = 0 then
      some (0 : Int32)
    else
      if ¬ l2 = 0 then
      some (l1 - l1 / l2 * l2)
      else none
  else if l0 = (38 : Int32) then
    if l1 = 0 then
      some (0 : Int32)
    else
      if l2 = 0 then
        some (0 : Int32)
      else
        some (1 : Int32)
  else if l0 = (39 : Int32) then
    if l1 = 0 then
      if l2 = 0 then
        some (0 : Int32)
      else
        some (1 : Int32)
    else
      some (1 : Int32)
  else if l0 = (40 : Int32) then
    if l1 = 0 then
      if l2 = 0 then
        some (0 : Int32)
      else
        some (1 : Int32)
    else
      some (1 : Int32)
  else if l0 = (41 : Int32) then
    if l1 = 0 then
      if l2 = 0 then
        some (0 : Int32)
      else
        some (1 : Int32)
    else
      some (1 : Int32)
  else if l0 = (42 : Int32) then
    some (l1 * l2)
  else if l0 = (43 : Int32) then
    some (l1 + l2)
  else if l0 = (44 : Int32) then
    if l1 = 0 then
      if l2 = 0 then
        some (0 : Int32)
      else
        some (1 : Int32)
    else
      some (1 : Int32)
  else if l0 = (45 : Int32) then
    some (l1 - l2)
  else if l0 = (46 : Int32) then
    if l1 = 0 then
      if l2 = 0 then
        some (0 : Int32)
      else
        some (1 : Int32)
    else
      some (1 : Int32)
  else if l0 = (47 : Int32) then
    if l2 = 0 then
      some (0 : Int32)
    else
      if ¬ l2 = 0 then
      some (l1 / l2)
      else none
  else if l0 = (48 : Int32) then
    if l1 = 0 then
      if l2 = 0 then
        some (0 : Int32)
      else
        some (1 : Int32)
    else
      some (1 : Int32)
  else if l0 = (49 : Int32) then
    if l1 = 0 then
      if l2 = 0 then
        some (0 : Int32)
      else
        some (1 : Int32)
    else
      some (1 : Int32)
  else if l0 = (50 : Int32) then
    if l1 = 0 then
      if l2 = 0 then
        some (0 : Int32)
      else
        some (1 : Int32)
    else
      some (1 : Int32)
  else if l0 = (51 : Int32) then
    if l1 = 0 then
      if l2 = 0 then
        some (0 : Int32)
      else
        some (1 : Int32)
    else
      some (1 : Int32)
  else if l0 = (52 : Int32) then
    if l1 = 0 then
      if l2 = 0 then
        some (0 : Int32)
      else
        some (1 : Int32)
    else
      some (1 : Int32)
  else if l0 = (53 : Int32) then
    if l1 = 0 then
      if l2 = 0 then
        some (0 : Int32)
      else
        some (1 : Int32)
    else
      some (1 : Int32)
  else if l0 = (54 : Int32) then
    if l1 = 0 then
      if l2 = 0 then
        some (0 : Int32)
      else
        some (1 : Int32)
    else
      some (1 : Int32)
  else if l0 = (55 : Int32) then
    if l1 = 0 then
      if l2 = 0 then
        some (0 : Int32)
      else
        some (1 : Int32)
    else
      some (1 : Int32)
  else if l0 = (56 : Int32) then
    if l1 = 0 then
      if l2 = 0 then
        some (0 : Int32)
      else
        some (1 : Int32)
    else
      some (1 : Int32)
  else if l0 = (57 : Int32) then
    if l1 = 0 then
      if l2 = 0 then
        some (0 : Int32)
      else
        some (1 : Int32)
    else
      some (1 : Int32)
  else if l0 = (58 : Int32) then
    if l1 = 0 then
      if l2 = 0 then
        some (0 : Int32)
      else
        some (1 : Int32)
    else
      some (1 : Int32)
  else if l0 = (59 : Int32) then
    if l1 = 0 then
      if l2 = 0 then
        some (0 : Int32)
      else
        some (1 : Int32)
    else
      some (1 : Int32)
  else if l0 = (60 : Int32) then
    if l2 ≤ l1 then
      some (0 : Int32)
    else
      some (1 : Int32)
  else if l0 = (61 : Int32) then
    if l1 = l2 then
      some (1 : Int32)
    else
      some (0 : Int32)
  else if l0 = (62 : Int32) then
    if l1 ≤ l2 then
      some (0 : Int32)
    else
      some (1 : Int32)
  else
  if l1 = 0 then
    if l2 = 0 then
      some (0 : Int32)
    else
      some (1 : Int32)
  else
    some (1 : Int32)
def b_X8_works_38 (k_4 : Int32 → Int32 → Int32 → bv_Mem → Option (Int32 × bv_Mem)) (l1 : Int32) (l2 : Int32) (l3 : Int32) (l4 : Int32) (mi : bv_Mem) : Option (Int32 × bv_Mem) :=
  if l4 = (1 : Int32) then
    if bv_in ((l1 + (51 : Int32)) + l3) 371 = true then
    if bv_in l2 50 = true then
    k_4 l1 (l2 + 1) (l3 + 1) (bv_up mi 69 l2.toNatClampNeg (mi 62 ((l1 + (51 : Int32)) + l3).toNatClampNeg))
    else none
    else none
  else
    if bv_in ((l1 + (51 : Int32)) + l3) 371 = true then
    if bv_in (mi 62 ((l1 + (51 : Int32)) + l3).toNatClampNeg) 3 = true then
    if bv_in l2 50 = true then
    k_4 l1 (l2 + 1) (l3 + 1) (bv_up mi 69 l2.toNatClampNeg (mi 68 (mi 62 ((l1 + (51 : Int32)) + l3).toNatClampNeg).toNatClampNeg))
    else none
    else none
    else none
def b_X8_works_4  : Nat → Int32 → Int32 → Int32 → bv_Mem → Option (Int32 × bv_Mem)
  | 0, _, _, _, _ => none
  | fu + 1, l1, l2, l3, mi =>
  if bv_in l1 371 = true then
  if (mi 62 l1.toNatClampNeg) ≤ l3 then
    some ((mi 69 0), mi)
  else
    if bv_in ((l1 + (1 : Int32)) + l3) 371 = true then
    if (mi 62 ((l1 + (1 : Int32)) + l3).toNatClampNeg) = (1 : Int32) then
      b_X8_works_38 (b_X8_works_4 fu)  l1 l2 l3 (mi 62 ((l1 + (1 : Int32)) + l3).toNatClampNeg) mi
    else
      if (mi 62 ((l1 + (1 : Int32)) + l3).toNatClampNeg) = (2 : Int32) then
        b_X8_works_38 (b_X8_works_4 fu)  l1 l2 l3 (mi 62 ((l1 + (1 : Int32)) + l3).toNatClampNeg) mi
      else
        if (mi 62 ((l1 + (1 : Int32)) + l3).toNatClampNeg) = (3 : Int32) then
          if bv_in (l2 - (1 : Int32)) 50 = true then
          if (mi 69 (l2 - (1 : Int32)).toNatClampNeg) = 0 then
            (b_X8_works_4 fu) l1 l2 (l3 + 1) (bv_up mi 69 (l2 - (1 : Int32)).toNatClampNeg (1 : Int32))
          else
            (b_X8_works_4 fu) l1 l2 (l3 + 1) (bv_up mi 69 (l2 - (1 : Int32)).toNatClampNeg (0 : Int32))
          else none
        else
          if bv_in ((l2 + (-1)) - (1 : Int32)) 50 = true then
          if bv_in (l2 + (-1)) 50 = true then
          (f_X8_twoOf (mi 62 ((l1 + (1 : Int32)) + l3).toNatClampNeg) (mi 69 ((l2 + (-1)) - (1 : Int32)).toNatClampNeg) (mi 69 (l2 + (-1)).toNatClampNeg) mi).bind fun z1 =>
          (b_X8_works_4 fu) l1 (l2 + (-1)) (l3 + 1) (bv_up mi 69 ((l2 + (-1)) - (1 : Int32)).toNatClampNeg z1)
          else none
          else none
    else none
  else none
def f_X8_works  (l1 : Int32) (mi : bv_Mem) : Option (Int32 × bv_Mem) :=
  b_X8_works_4  400 l1 (0 : Int32) (0 : Int32) mi
def b_X8_gives_66  (l1 : Int32) (s0 : Int32) (mi : bv_Mem) : Option (Int32 × bv_Mem) :=
  if l1 = 0 then
    (f_X8_held s0 (1 : Int32) (99 : Int32) mi).bind fun z2 =>
    some (z2, mi)
  else
    (f_X8_held s0 (0 : Int32) (999 : Int32) mi).bind fun z1 =>
    some (z1, mi)
def f_X8_gives  (l1 : Int32) (l2 : Int32) (l3 : Int32) (l4 : Int32) (mi : bv_Mem) : Option (Int32 × bv_Mem) :=
  if bv_in ((169 : Int32) + ((101 : Int32) * l1)) 371 = true then
  if ((bv_up (bv_up (bv_up mi 68 0 l2) 68 1 l3) 68 2 l4) 62 ((169 : Int32) + ((101 : Int32) * l1)).toNatClampNeg) ≤ 0 then
    if l1 = 0 then
      b_X8_gives_66  l1 ((3 : Int32) + l2) (bv_up (bv_up (bv_up mi 68 0 l2) 68 1 l3) 68 2 l4)
    else
      b_X8_gives_66  l1 (((2 : Int32) * l2) + l3) (bv_up (bv_up (bv_up mi 68 0 l2) 68 1 l3) 68 2 l4)
  else
    (f_X8_works ((169 : Int32) + ((101 : Int32) * l1)) (bv_up (bv_up (bv_up mi 68 0 l2) 68 1 l3) 68 2 l4)).bind fun z1 =>
    b_X8_gives_66  l1 z1.1 z1.2
  else none
def f_X8_isKm  (l0 : Int32) (mi : bv_Mem) : Option (Int32) :=
  (f_X8_in l0 (0 : Int32) (69 : Int32) mi).bind fun z1 =>
  if z1 = 0 ∨ z1 = 1 then
  some z1
  else none
def f_X8_lay  (l1 : Int32) (l2 : Int32) (l3 : Int32) (mi : bv_Mem) : Option (bv_Mem) :=
  if bv_in (((51 : Int32) + ((6 : Int32) * l1)) + l2) 371 = true then
  some (bv_up mi 62 (((51 : Int32) + ((6 : Int32) * l1)) + l2).toNatClampNeg l3)
  else none
def b_X8_fill_166  : Nat → Int32 → Int32 → Int32 → Int32 → bv_Mem → Option (Int32 × bv_Mem)
  | 0, _, _, _, _, _ => none
  | fu + 1, l4, l5, l6, l7, mi =>
  if (20 : Int32) ≤ l7 then
    some (l6, mi)
  else
    if ((l4 >>> (l7 &&& 31)) &&& (1 : Int32)) = (1 : Int32) then
      if bv_in ((11 : Int32) + l7) 371 = true then
      (f_X8_steps l5 l7 mi).bind fun z1 =>
      (f_X8_gives (0 : Int32) (mi 62 ((11 : Int32) + l7).toNatClampNeg) z1 (mi 62 0) mi).bind fun z2 =>
      if bv_in ((31 : Int32) + l7) 371 = true then
      (b_X8_fill_166 fu) l4 l5 l6 (l7 + 1) (bv_up z2.2 62 ((31 : Int32) + l7).toNatClampNeg z2.1)
      else none
      else none
    else
      (b_X8_fill_166 fu) l4 l5 l6 (l7 + 1) mi
def f_X8_fill  (l1 : Int32) (l2 : Int32) (l3 : Int32) (l4 : Int32) (mi : bv_Mem) : Option (Int32 × bv_Mem) :=
  (f_X8_isKm l1 mi).bind fun z1 =>
  if z1 = 0 then
    (f_X8_error (-1000000001 : Int32) mi).bind fun z2 =>
    some (z2.1, z2.2)
  else
    (f_X8_isVillage l2 mi).bind fun z3 =>
    if z3 = 0 then
      (f_X8_error (-1000000001 : Int32) mi).bind fun z4 =>
      some (z4.1, z4.2)
    else
      (f_X8_in l3 (0 : Int32) (1 : Int32) mi).bind fun z5 =>
      if z5 = 0 then
        (f_X8_error (-1000000001 : Int32) mi).bind fun z6 =>
        some (z6.1, z6.2)
      else
        (f_X8_in l4 (1 : Int32) (1048575 : Int32) mi).bind fun z7 =>
        if z7 = 0 then
          (f_X8_error (-1000000001 : Int32) mi).bind fun z17 =>
          some (z17.1, z17.2)
        else
          if bv_in ((6 : Int32) + l2) 371 = true then
          (f_X8_viewOf (mi 62 ((6 : Int32) + l2).toNatClampNeg) l3 mi).bind fun z8 =>
          if (l4 &&& (z8 ^^^ (-1 : Int32))) = 0 then
            if (mi 62 3) = (8 : Int32) then
              (f_X8_error (-1000000004 : Int32) mi).bind fun z15 =>
              some (z15.1, z15.2)
            else
              (f_X8_lay (mi 62 3) (0 : Int32) (l1 / (10 : Int32)) (bv_up mi 62 3 ((mi 62 3) + (1 : Int32)))).bind fun z9 =>
              (f_X8_lay (mi 62 3) (1 : Int32) (l1 - l1 / (10 : Int32) * (10 : Int32)) z9).bind fun z10 =>
              (f_X8_lay (mi 62 3) (2 : Int32) (mi 62 ((6 : Int32) + l2).toNatClampNeg) z10).bind fun z11 =>
              (f_X8_lay (mi 62 3) (3 : Int32) l4 z11).bind fun z12 =>
              (f_X8_lay (mi 62 3) (4 : Int32) (0 : Int32) z12).bind fun z13 =>
              (f_X8_lay (mi 62 3) (5 : Int32) (0 : Int32) z13).bind fun z14 =>
              b_X8_fill_166  400 l4 (mi 62 ((6 : Int32) + l2).toNatClampNeg) (mi 62 3) (0 : Int32) z14
          else
            (f_X8_error (-1000000003 : Int32) mi).bind fun z16 =>
            some (z16.1, z16.2)
          else none
def f_X8_isBottle  (l1 : Int32) (mi : bv_Mem) : Option (Int32) :=
  (f_X8_in l1 (0 : Int32) ((mi 62 3) - (1 : Int32)) mi).bind fun z1 =>
  if z1 = 0 ∨ z1 = 1 then
  some z1
  else none
def f_X8_of  (l1 : Int32) (l2 : Int32) (mi : bv_Mem) : Option (Int32) :=
  if bv_in (((51 : Int32) + ((6 : Int32) * l1)) + l2) 371 = true then
  some (mi 62 (((51 : Int32) + ((6 : Int32) * l1)) + l2).toNatClampNeg)
  else none
def b_X8_between_6 (mi : bv_Mem) : Nat → Int32 → Int32 → Int32 → Int32 → Int32 → Option (Int32)
  | 0, _, _, _, _, _ => none
  | fu + 1, l1, l2, l3, l4, l5 =>
  if (20 : Int32) ≤ l5 then
    some l4
  else
    (f_X8_of l1 (3 : Int32) mi).bind fun z1 =>
    if ((z1 >>> (l5 &&& 31)) &&& (1 : Int32)) = (1 : Int32) then
      (f_X8_of l1 (2 : Int32) mi).bind fun z2 =>
      (f_X8_steps z2 l5 mi).bind fun z3 =>
      (f_X8_in z3 l2 l3 mi).bind fun z4 =>
      if z4 = 0 then
        (b_X8_between_6 mi fu) l1 l2 l3 (l4 ||| (0 : Int32)) (l5 + 1)
      else
        (b_X8_between_6 mi fu) l1 l2 l3 (l4 ||| ((1 : Int32) <<< (l5 &&& 31))) (l5 + 1)
    else
      (b_X8_between_6 mi fu) l1 l2 l3 (l4 ||| (0 : Int32)) (l5 + 1)
def f_X8_between  (l1 : Int32) (l2 : Int32) (l3 : Int32) (mi : bv_Mem) : Option (Int32) :=
  b_X8_between_6 mi  400 l1 l2 l3 (0 : Int32) (0 : Int32)
def f_X8_leftIn  (l1 : Int32) (mi : bv_Mem) : Option (Int32) :=
  (f_X8_of l1 (5 : Int32) mi).bind fun z1 =>
  if z1 = (1 : Int32) then
    some (0 : Int32)
  else
    (f_X8_of l1 (0 : Int32) mi).bind fun z2 =>
    if z2 = (1 : Int32) then
      (f_X8_between l1 (3 : Int32) (20 : Int32) mi).bind fun z3 =>
      some z3
    else if z2 = (2 : Int32) then
      (f_X8_of l1 (3 : Int32) mi).bind fun z4 =>
      (f_X8_of l1 (1 : Int32) mi).bind fun z5 =>
      some (z4 ||| ((1 : Int32) <<< (z5 &&& 31)))
    else if z2 = (3 : Int32) then
      (f_X8_of l1 (4 : Int32) mi).bind fun z6 =>
      (f_X8_between l1 (0 : Int32) ((19 : Int32) - z6) mi).bind fun z7 =>
      some z7
    else if z2 = (4 : Int32) then
      (f_X8_between l1 (3 : Int32) (20 : Int32) mi).bind fun z8 =>
      some z8
    else if z2 = (5 : Int32) then
      (f_X8_of l1 (3 : Int32) mi).bind fun z9 =>
      (f_X8_of l1 (1 : Int32) mi).bind fun z10 =>
      some (z9 ||| ((1 : Int32) <<< (z10 &&& 31)))
    else if z2 = (6 : Int32) then
      (f_X8_of l1 (4 : Int32) mi).bind fun z11 =>
      (f_X8_between l1 (0 : Int32) ((19 : Int32) - (z11 / (2 : Int32))) mi).bind fun z12 =>
      some z12
    else
    (f_X8_of l1 (3 : Int32) mi).bind fun z13 =>
    some z13
def b_X8_leaguesOf_11 (mi : bv_Mem) : Nat → Int32 → Int32 → Int32 → Int32 → Option (Int32)
  | 0, _, _, _, _ => none
  | fu + 1, l1, l2, l3, l4 =>
  if (20 : Int32) ≤ l4 then
    some l2
  else
    (f_X8_of l1 (2 : Int32) mi).bind fun z1 =>
    (f_X8_steps z1 l4 mi).bind fun z2 =>
    if ((l3 >>> (l4 &&& 31)) &&& (1 : Int32)) = (1 : Int32) then
      if z2 ≤ l2 then
        (b_X8_leaguesOf_11 mi fu) l1 l2 l3 (l4 + 1)
      else
        (b_X8_leaguesOf_11 mi fu) l1 z2 l3 (l4 + 1)
    else
      (b_X8_leaguesOf_11 mi fu) l1 l2 l3 (l4 + 1)
def f_X8_leaguesOf  (l1 : Int32) (mi : bv_Mem) : Option (Int32) :=
  (f_X8_leftIn l1 mi).bind fun z1 =>
  b_X8_leaguesOf_11 mi  400 l1 (0 : Int32) z1 (0 : Int32)
def f_X8_costsOf  (l1 : Int32) (mi : bv_Mem) : Option (Int32 × bv_Mem) :=
  (f_X8_leftIn l1 mi).bind fun z1 =>
  (f_X8_bits z1 mi).bind fun z2 =>
  (f_X8_leaguesOf l1 mi).bind fun z3 =>
  (f_X8_of l1 (4 : Int32) mi).bind fun z4 =>
  (f_X8_gives (1 : Int32) z2 z3 z4 mi).bind fun z5 =>
  (f_X8_of l1 (0 : Int32) z5.2).bind fun z6 =>
  if z6 = (1 : Int32) then
    some (((2 : Int32) * z5.1), z5.2)
  else if z6 = (2 : Int32) then
    some ((z5.1 / (2 : Int32)), z5.2)
  else if z6 = (3 : Int32) then
    (f_X8_of l1 (4 : Int32) z5.2).bind fun z7 =>
    some ((z5.1 + z7), z5.2)
  else if z6 = (4 : Int32) then
    (f_X8_of l1 (1 : Int32) z5.2).bind fun z8 =>
    some ((((2 : Int32) * z5.1) + ((5 : Int32) * z8)), z5.2)
  else if z6 = (5 : Int32) then
    some ((1 : Int32), z5.2)
  else if z6 = (6 : Int32) then
    (f_X8_of l1 (4 : Int32) z5.2).bind fun z9 =>
    (f_X8_of l1 (4 : Int32) z5.2).bind fun z10 =>
    (f_X8_of l1 (1 : Int32) z5.2).bind fun z11 =>
    if ¬ (z11 + (1 : Int32)) = 0 then
    some (((z5.1 + z9) + (z10 / (z11 + (1 : Int32)))), z5.2)
    else none
  else
  some (z5.1, z5.2)
def f_X8_ofBottle  (l1 : Int32) (l2 : Int32) (mi : bv_Mem) : Option (Int32 × bv_Mem) :=
  (f_X8_isBottle l1 mi).bind fun z1 =>
  if z1 = 0 then
    (f_X8_error (-1000000001 : Int32) mi).bind fun z2 =>
    some (z2.1, z2.2)
  else
    (f_X8_in l2 (0 : Int32) (8 : Int32) mi).bind fun z3 =>
    if z3 = 0 then
      (f_X8_error (-1000000001 : Int32) mi).bind fun z8 =>
      some (z8.1, z8.2)
    else
      if (6 : Int32) ≤ l2 then
        if l2 = (6 : Int32) then
          (f_X8_leftIn l1 mi).bind fun z6 =>
          some (z6, mi)
        else
          if l2 = (7 : Int32) then
            (f_X8_leaguesOf l1 mi).bind fun z5 =>
            some (z5, mi)
          else
            (f_X8_costsOf l1 mi).bind fun z4 =>
            some (z4.1, z4.2)
      else
        (f_X8_of l1 l2 mi).bind fun z7 =>
        some (z7, mi)
def f_X8_become  (l1 : Int32) (l2 : Int32) (mi : bv_Mem) : Option (Int32 × bv_Mem) :=
  (f_X8_isBottle l1 mi).bind fun z1 =>
  if z1 = 0 then
    (f_X8_error (-1000000001 : Int32) mi).bind fun z2 =>
    some (z2.1, z2.2)
  else
    (f_X8_isKm l2 mi).bind fun z3 =>
    if z3 = 0 then
      (f_X8_error (-1000000001 : Int32) mi).bind fun z6 =>
      some (z6.1, z6.2)
    else
      (f_X8_lay l1 (1 : Int32) (l2 - l2 / (10 : Int32) * (10 : Int32)) mi).bind fun z4 =>
      (f_X8_becomes ((51 : Int32) + ((6 : Int32) * l1)) (l2 / (10 : Int32)) z4).bind fun z5 =>
      some (z5.1, z5.2)
def b_X8_isUnder_29 (mi : bv_Mem) (l0 : Int32) (l1 : Int32) : Option (Int32) :=
  if l1 = (3 : Int32) then
    if l0 = (6 : Int32) then
      some (1 : Int32)
    else
      some (0 : Int32)
  else
    some (0 : Int32)
def b_X8_isUnder_19 (mi : bv_Mem) (l0 : Int32) (l1 : Int32) : Option (Int32) :=
  if l1 = (2 : Int32) then
    if l0 = (5 : Int32) then
      some (1 : Int32)
    else
      b_X8_isUnder_29 mi  l0 l1
  else
    b_X8_isUnder_29 mi  l0 l1
def f_X8_isUnder  (l0 : Int32) (l1 : Int32) (mi : bv_Mem) : Option (Int32) :=
  if l1 = 0 then
    some (1 : Int32)
  else
    if l0 = l1 then
      some (1 : Int32)
    else
      if l1 = (1 : Int32) then
        if l0 = (4 : Int32) then
          some (1 : Int32)
        else
          b_X8_isUnder_19 mi  l0 l1
      else
        b_X8_isUnder_19 mi  l0 l1
def f_X8_as  (l1 : Int32) (l2 : Int32) (mi : bv_Mem) : Option (Int32 × bv_Mem) :=
  (f_X8_isBottle l1 mi).bind fun z1 =>
  if z1 = 0 then
    (f_X8_error (-1000000001 : Int32) mi).bind fun z2 =>
    some (z2.1, z2.2)
  else
    (f_X8_in l2 (0 : Int32) (6 : Int32) mi).bind fun z3 =>
    if z3 = 0 then
      (f_X8_error (-1000000001 : Int32) mi).bind fun z8 =>
      some (z8.1, z8.2)
    else
      (f_X8_of l1 (0 : Int32) mi).bind fun z4 =>
      (f_X8_isUnder z4 l2 mi).bind fun z5 =>
      if z5 = 0 then
        (f_X8_error (-1000000005 : Int32) mi).bind fun z6 =>
        some (z6.1, z6.2)
      else
        (f_X8_of l1 (1 : Int32) mi).bind fun z7 =>
        some (z7, mi)
def b_X8_open_87 (k_43 : Int32 → Int32 → Int32 → Int32 → bv_Mem → Option (Int32 × bv_Mem)) (l1 : Int32) (l2 : Int32) (l4 : Int32) (l5 : Int32) (s0 : Int32) (s1 : Int32) (mi : bv_Mem) : Option (Int32 × bv_Mem) :=
  if l5 = 0 then
    if bv_in ((31 : Int32) + l4) 371 = true then
    k_43 l1 l2 (s0 + s1) (l4 + 1) (bv_up mi 62 ((31 : Int32) + l4).toNatClampNeg (mi 62 ((31 : Int32) + l4).toNatClampNeg))
    else none
  else
    if bv_in ((31 : Int32) + l4) 371 = true then
    k_43 l1 l2 (s0 + s1) (l4 + 1) (bv_up mi 62 ((31 : Int32) + l4).toNatClampNeg (0 : Int32))
    else none
def b_X8_open_74 (k_43 : Int32 → Int32 → Int32 → Int32 → bv_Mem → Option (Int32 × bv_Mem)) (l1 : Int32) (l2 : Int32) (l3 : Int32) (l4 : Int32) (s0 : Int32) (mi : bv_Mem) : Option (Int32 × bv_Mem) :=
  if s0 = 0 then
    b_X8_open_87 k_43  l1 l2 l4 s0 l3 (0 : Int32) mi
  else
    b_X8_open_87 k_43  l1 l2 l4 s0 l3 (1 : Int32) mi
def b_X8_open_73 (k_43 : Int32 → Int32 → Int32 → Int32 → bv_Mem → Option (Int32 × bv_Mem)) (l1 : Int32) (l2 : Int32) (l3 : Int32) (l4 : Int32) (mi : bv_Mem) : Option (Int32 × bv_Mem) :=
  b_X8_open_74 k_43  l1 l2 l3 l4 (0 : Int32) mi
def b_X8_open_43  : Nat → Int32 → Int32 → Int32 → Int32 → bv_Mem → Option (Int32 × bv_Mem)
  | 0, _, _, _, _, _ => none
  | fu + 1, l1, l2, l3, l4, mi =>
  if (20 : Int32) ≤ l4 then
    (f_X8_lay l1 (3 : Int32) (0 : Int32) mi).bind fun z1 =>
    (f_X8_lay l1 (5 : Int32) (1 : Int32) z1).bind fun z2 =>
    some (l3, z2)
  else
    if ((l2 >>> (l4 &&& 31)) &&& (1 : Int32)) = (1 : Int32) then
      (f_X8_isThere l4 mi).bind fun z3 =>
      if z3 = 0 then
        b_X8_open_74 (b_X8_open_43 fu)  l1 l2 l3 l4 (1 : Int32) mi
      else
        b_X8_open_73 (b_X8_open_43 fu)  l1 l2 l3 l4 mi
    else
      b_X8_open_73 (b_X8_open_43 fu)  l1 l2 l3 l4 mi
def f_X8_open  (l1 : Int32) (mi : bv_Mem) : Option (Int32 × bv_Mem) :=
  (f_X8_isBottle l1 mi).bind fun z1 =>
  if z1 = 0 then
    (f_X8_error (-1000000001 : Int32) mi).bind fun z5 =>
    some (z5.1, z5.2)
  else
    (f_X8_of l1 (5 : Int32) mi).bind fun z2 =>
    if z2 = (1 : Int32) then
      (f_X8_error (-1000000003 : Int32) mi).bind fun z4 =>
      some (z4.1, z4.2)
    else
      (f_X8_leftIn l1 mi).bind fun z3 =>
      b_X8_open_43  400 l1 z3 (0 : Int32) (0 : Int32) mi
def b_X8_feed_40  : Nat → Int64 → Int32 → Int32 → bv_Mem → Option (Int32 × bv_Mem)
  | 0, _, _, _, _ => none
  | fu + 1, l1, l3, l4, mi =>
  if l3 ≤ l4 then
    some ((mi 62 4), mi)
  else
    if bv_in ((99 : Int32) + (mi 62 4)) 371 = true then
    (b_X8_feed_40 fu) l1 l3 (l4 + 1) (bv_up (bv_up mi 62 ((99 : Int32) + (mi 62 4)).toNatClampNeg (((l1 >>> (((8 : Int32) * l4).toInt64 &&& 63)) &&& (255 : Int64)).toInt32)) 62 4 (((bv_up mi 62 ((99 : Int32) + (mi 62 4)).toNatClampNeg (((l1 >>> (((8 : Int32) * l4).toInt64 &&& 63)) &&& (255 : Int64)).toInt32)) 62 4) + (1 : Int32)))
    else none
def f_X8_feed  (l1 : Int64) (l3 : Int32) (mi : bv_Mem) : Option (Int32 × bv_Mem) :=
  (f_X8_in l3 (1 : Int32) (8 : Int32) mi).bind fun z1 =>
  if z1 = 0 then
    (f_X8_error (-1000000001 : Int32) mi).bind fun z3 =>
    some (z3.1, z3.2)
  else
    if ((mi 62 4) + l3) ≤ (50 : Int32) then
      b_X8_feed_40  400 l1 l3 (0 : Int32) mi
    else
      (f_X8_error (-1000000004 : Int32) mi).bind fun z2 =>
      some (z2.1, z2.2)
def f_X8_look   (mi : bv_Mem) : Option (Int32) :=
  if (mi 62 4) ≤ (mi 61 10) then
    some (-1 : Int32)
  else
    if bv_in ((99 : Int32) + (mi 61 10)) 371 = true then
    some (mi 62 ((99 : Int32) + (mi 61 10)).toNatClampNeg)
    else none
def f_X8_step  (l1 : Int32) (l2 : Int32) (mi : bv_Mem) : Option (bv_Mem) :=
  if (50 : Int32) ≤ (mi 61 9) then
    some mi
  else
    if bv_in (mi 61 9) 50 = true then
    if bv_in ((bv_up mi 66 (mi 61 9).toNatClampNeg l1) 61 9) 50 = true then
    some (bv_up (bv_up (bv_up mi 66 (mi 61 9).toNatClampNeg l1) 67 ((bv_up mi 66 (mi 61 9).toNatClampNeg l1) 61 9).toNatClampNeg l2) 61 9 (((bv_up (bv_up mi 66 (mi 61 9).toNatClampNeg l1) 67 ((bv_up mi 66 (mi 61 9).toNatClampNeg l1) 61 9).toNatClampNeg l2) 61 9) + (1 : Int32)))
    else none
    else none
def b_X8_any_4 (r_X8_any : bv_Mem → Option (bv_Mem)) (r_X8_all : bv_Mem → Option (bv_Mem)) (r_X8_compares : bv_Mem → Option (bv_Mem)) (r_X8_sum : bv_Mem → Option (bv_Mem)) (r_X8_times : bv_Mem → Option (bv_Mem)) (r_X8_one : bv_Mem → Option (bv_Mem)) (r_X8_opens : Int32 → bv_Mem → Option (bv_Mem)) : Nat → bv_Mem → Option (bv_Mem)
  | 0, _ => none
  | fu + 1, mi =>
  if (mi 61 12) = 0 then
    (f_X8_look mi).bind fun z1 =>
    if z1 = (124 : Int32) then
      (r_X8_all (bv_up mi 61 10 ((mi 61 10) + (1 : Int32)))).bind fun z2 =>
      (f_X8_step (124 : Int32) (0 : Int32) z2).bind fun z3 =>
      (b_X8_any_4 r_X8_any r_X8_all r_X8_compares r_X8_sum r_X8_times r_X8_one r_X8_opens fu)  z3
    else
      some mi
  else
    some mi
def F_X8_any (r_X8_any : bv_Mem → Option (bv_Mem)) (r_X8_all : bv_Mem → Option (bv_Mem)) (r_X8_compares : bv_Mem → Option (bv_Mem)) (r_X8_sum : bv_Mem → Option (bv_Mem)) (r_X8_times : bv_Mem → Option (bv_Mem)) (r_X8_one : bv_Mem → Option (bv_Mem)) (r_X8_opens : Int32 → bv_Mem → Option (bv_Mem))  (mi : bv_Mem) : Option (bv_Mem) :=
  (r_X8_all mi).bind fun z1 =>
  b_X8_any_4 r_X8_any r_X8_all r_X8_compares r_X8_sum r_X8_times r_X8_one r_X8_opens  400  z1
def b_X8_all_4 (r_X8_any : bv_Mem → Option (bv_Mem)) (r_X8_all : bv_Mem → Option (bv_Mem)) (r_X8_compares : bv_Mem → Option (bv_Mem)) (r_X8_sum : bv_Mem → Option (bv_Mem)) (r_X8_times : bv_Mem → Option (bv_Mem)) (r_X8_one : bv_Mem → Option (bv_Mem)) (r_X8_opens : Int32 → bv_Mem → Option (bv_Mem)) : Nat → bv_Mem → Option (bv_Mem)
  | 0, _ => none
  | fu + 1, mi =>
  if (mi 61 12) = 0 then
    (f_X8_look mi).bind fun z1 =>
    if z1 = (38 : Int32) then
      (r_X8_compares (bv_up mi 61 10 ((mi 61 10) + (1 : Int32)))).bind fun z2 =>
      (f_X8_step (38 : Int32) (0 : Int32) z2).bind fun z3 =>
      (b_X8_all_4 r_X8_any r_X8_all r_X8_compares r_X8_sum r_X8_times r_X8_one r_X8_opens fu)  z3
    else
      some mi
  else
    some mi
def F_X8_all (r_X8_any : bv_Mem → Option (bv_Mem)) (r_X8_all : bv_Mem → Option (bv_Mem)) (r_X8_compares : bv_Mem → Option (bv_Mem)) (r_X8_sum : bv_Mem → Option (bv_Mem)) (r_X8_times : bv_Mem → Option (bv_Mem)) (r_X8_one : bv_Mem → Option (bv_Mem)) (r_X8_opens : Int32 → bv_Mem → Option (bv_Mem))  (mi : bv_Mem) : Option (bv_Mem) :=
  (r_X8_compares mi).bind fun z1 =>
  b_X8_all_4 r_X8_any r_X8_all r_X8_compares r_X8_sum r_X8_times r_X8_one r_X8_opens  400  z1
def b_X8_compares_34 (r_X8_any : bv_Mem → Option (bv_Mem)) (r_X8_all : bv_Mem → Option (bv_Mem)) (r_X8_compares : bv_Mem → Option (bv_Mem)) (r_X8_sum : bv_Mem → Option (bv_Mem)) (r_X8_times : bv_Mem → Option (bv_Mem)) (r_X8_one : bv_Mem → Option (bv_Mem)) (r_X8_opens : Int32 → bv_Mem → Option (bv_Mem)) (l1 : Int32) (mi : bv_Mem) : Option (bv_Mem) :=
  (r_X8_sum (bv_up mi 61 10 ((mi 61 10) + (1 : Int32)))).bind fun z1 =>
  (f_X8_step l1 (0 : Int32) z1).bind fun z2 =>
  some z2
def F_X8_compares (r_X8_any : bv_Mem → Option (bv_Mem)) (r_X8_all : bv_Mem → Option (bv_Mem)) (r_X8_compares : bv_Mem → Option (bv_Mem)) (r_X8_sum : bv_Mem → Option (bv_Mem)) (r_X8_times : bv_Mem → Option (bv_Mem)) (r_X8_one : bv_Mem → Option (bv_Mem)) (r_X8_opens : Int32 → bv_Mem → Option (bv_Mem))  (mi : bv_Mem) : Option (bv_Mem) :=
  (r_X8_sum mi).bind fun z1 =>
  (f_X8_look z1).bind fun z2 =>
  if (z1 61 12) = 0 then
    if z2 = (60 : Int32) then
      b_X8_compares_34 r_X8_any r_X8_all r_X8_compares r_X8_sum r_X8_times r_X8_one r_X8_opens  z2 z1
    else
      if z2 = (61 : Int32) then
        b_X8_compares_34 r_X8_any r_X8_all r_X8_compares r_X8_sum r_X8_times r_X8_one r_X8_opens  z2 z1
      else
        if z2 = (62 : Int32) then
          b_X8_compares_34 r_X8_any r_X8_all r_X8_compares r_X8_sum r_X8_times r_X8_one r_X8_opens  z2 z1
        else
          some z1
  else
    some z1
def b_X8_sum_29 (r_X8_any : bv_Mem → Option (bv_Mem)) (r_X8_all : bv_Mem → Option (bv_Mem)) (r_X8_compares : bv_Mem → Option (bv_Mem)) (r_X8_sum : bv_Mem → Option (bv_Mem)) (r_X8_times : bv_Mem → Option (bv_Mem)) (r_X8_one : bv_Mem → Option (bv_Mem)) (r_X8_opens : Int32 → bv_Mem → Option (bv_Mem)) (k_4 : bv_Mem → Option (bv_Mem))  (mi : bv_Mem) : Option (bv_Mem) :=
  (f_X8_look mi).bind fun z1 =>
  (r_X8_times (bv_up mi 61 10 ((mi 61 10) + (1 : Int32)))).bind fun z2 =>
  (f_X8_step z1 (0 : Int32) z2).bind fun z3 =>
  k_4  z3
def b_X8_sum_4 (r_X8_any : bv_Mem → Option (bv_Mem)) (r_X8_all : bv_Mem → Option (bv_Mem)) (r_X8_compares : bv_Mem → Option (bv_Mem)) (r_X8_sum : bv_Mem → Option (bv_Mem)) (r_X8_times : bv_Mem → Option (bv_Mem)) (r_X8_one : bv_Mem → Option (bv_Mem)) (r_X8_opens : Int32 → bv_Mem → Option (bv_Mem)) : Nat → bv_Mem → Option (bv_Mem)
  | 0, _ => none
  | fu + 1, mi =>
  if (mi 61 12) = 0 then
    (f_X8_look mi).bind fun z1 =>
    if z1 = (43 : Int32) then
      b_X8_sum_29 r_X8_any r_X8_all r_X8_compares r_X8_sum r_X8_times r_X8_one r_X8_opens (b_X8_sum_4 r_X8_any r_X8_all r_X8_compares r_X8_sum r_X8_times r_X8_one r_X8_opens fu)   mi
    else
      (f_X8_look mi).bind fun z2 =>
      if z2 = (45 : Int32) then
        b_X8_sum_29 r_X8_any r_X8_all r_X8_compares r_X8_sum r_X8_times r_X8_one r_X8_opens (b_X8_sum_4 r_X8_any r_X8_all r_X8_compares r_X8_sum r_X8_times r_X8_one r_X8_opens fu)   mi
      else
        some mi
  else
    some mi
def F_X8_sum (r_X8_any : bv_Mem → Option (bv_Mem)) (r_X8_all : bv_Mem → Option (bv_Mem)) (r_X8_compares : bv_Mem → Option (bv_Mem)) (r_X8_sum : bv_Mem → Option (bv_Mem)) (r_X8_times : bv_Mem → Option (bv_Mem)) (r_X8_one : bv_Mem → Option (bv_Mem)) (r_X8_opens : Int32 → bv_Mem → Option (bv_Mem))  (mi : bv_Mem) : Option (bv_Mem) :=
  (r_X8_times mi).bind fun z1 =>
  b_X8_sum_4 r_X8_any r_X8_all r_X8_compares r_X8_sum r_X8_times r_X8_one r_X8_opens  400  z1
def b_X8_times_38 (r_X8_any : bv_Mem → Option (bv_Mem)) (r_X8_all : bv_Mem → Option (bv_Mem)) (r_X8_compares : bv_Mem → Option (bv_Mem)) (r_X8_sum : bv_Mem → Option (bv_Mem)) (r_X8_times : bv_Mem → Option (bv_Mem)) (r_X8_one : bv_Mem → Option (bv_Mem)) (r_X8_opens : Int32 → bv_Mem → Option (bv_Mem)) (k_4 : bv_Mem → Option (bv_Mem))  (mi : bv_Mem) : Option (bv_Mem) :=
  (f_X8_look mi).bind fun z1 =>
  (r_X8_one (bv_up mi 61 10 ((mi 61 10) + (1 : Int32)))).bind fun z2 =>
  (f_X8_step z1 (0 : Int32) z2).bind fun z3 =>
  k_4  z3
def b_X8_times_4 (r_X8_any : bv_Mem → Option (bv_Mem)) (r_X8_all : bv_Mem → Option (bv_Mem)) (r_X8_compares : bv_Mem → Option (bv_Mem)) (r_X8_sum : bv_Mem → Option (bv_Mem)) (r_X8_times : bv_Mem → Option (bv_Mem)) (r_X8_one : bv_Mem → Option (bv_Mem)) (r_X8_opens : Int32 → bv_Mem → Option (bv_Mem)) : Nat → bv_Mem → Option (bv_Mem)
  | 0, _ => none
  | fu + 1, mi =>
  if (mi 61 12) = 0 then
    (f_X8_look mi).bind fun z1 =>
    if z1 = (42 : Int32) then
      b_X8_times_38 r_X8_any r_X8_all r_X8_compares r_X8_sum r_X8_times r_X8_one r_X8_opens (b_X8_times_4 r_X8_any r_X8_all r_X8_compares r_X8_sum r_X8_times r_X8_one r_X8_opens fu)   mi
    else
      (f_X8_look mi).bind fun z2 =>
      if z2 = (47 : Int32) then
        b_X8_times_38 r_X8_any r_X8_all r_X8_compares r_X8_sum r_X8_times r_X8_one r_X8_opens (b_X8_times_4 r_X8_any r_X8_all r_X8_compares r_X8_sum r_X8_times r_X8_one r_X8_opens fu)   mi
      else
        (f_X8_look mi).bind fun z3 =>
        if z3 = (37 : Int32) then
          b_X8_times_38 r_X8_any r_X8_all r_X8_compares r_X8_sum r_X8_times r_X8_one r_X8_opens (b_X8_times_4 r_X8_any r_X8_all r_X8_compares r_X8_sum r_X8_times r_X8_one r_X8_opens fu)   mi
        else
          some mi
  else
    some mi
def F_X8_times (r_X8_any : bv_Mem → Option (bv_Mem)) (r_X8_all : bv_Mem → Option (bv_Mem)) (r_X8_compares : bv_Mem → Option (bv_Mem)) (r_X8_sum : bv_Mem → Option (bv_Mem)) (r_X8_times : bv_Mem → Option (bv_Mem)) (r_X8_one : bv_Mem → Option (bv_Mem)) (r_X8_opens : Int32 → bv_Mem → Option (bv_Mem))  (mi : bv_Mem) : Option (bv_Mem) :=
  (r_X8_one mi).bind fun z1 =>
  b_X8_times_4 r_X8_any r_X8_all r_X8_compares r_X8_sum r_X8_times r_X8_one r_X8_opens  400  z1
def f_X8_nameOf  (l1 : Int32) (mi : bv_Mem) : Option (Int32) :=
  if l1 = (97 : Int32) then
    if (mi 61 13) = (1 : Int32) then
      if l1 = (107 : Int32) then
        some (0 : Int32)
      else
        if l1 = (108 : Int32) then
          some (1 : Int32)
        else
          some (2 : Int32)
    else
      some (-1 : Int32)
  else if l1 = (98 : Int32) then
    some (-1 : Int32)
  else if l1 = (99 : Int32) then
    some (-1 : Int32)
  else if l1 = (100 : Int32) then
    if (mi 61 13) = 0 then
      if l1 = (104 : Int32) then
        some (0 : Int32)
      else
        if l1 = (115 : Int32) then
          some (1 : Int32)
        else
          some (2 : Int32)
    else
      some (-1 : Int32)
  else if l1 = (101 : Int32) then
    some (-1 : Int32)
  else if l1 = (102 : Int32) then
    some (-1 : Int32)
  else if l1 = (103 : Int32) then
    some (-1 : Int32)
  else if l1 = (104 : Int32) then
    if (mi 61 13) = 0 then
      if l1 = (104 : Int32) then
        some (0 : Int32)
      else
        if l1 = (115 : Int32) then
          some (1 : Int32)
        else
          some (2 : Int32)
    else
      some (-1 : Int32)
  else if l1 = (105 : Int32) then
    some (-1 : Int32)
  else if l1 = (106 : Int32) then
    some (-1 : Int32)
  else if l1 = (107 : Int32) then
    if (mi 61 13) = (1 : Int32) then
      if l1 = (107 : Int32) then
        some (0 : Int32)
      else
        if l1 = (108 : Int32) then
          some (1 : Int32)
        else
          some (2 : Int32)
    else
      some (-1 : Int32)
  else if l1 = (108 : Int32) then
    if (mi 61 13) = (1 : Int32) then
      if l1 = (107 : Int32) then
        some (0 : Int32)
      else
        if l1 = (108 : Int32) then
          some (1 : Int32)
        else
          some (2 : Int32)
    else
      some (-1 : Int32)
  else if l1 = (109 : Int32) then
    some (-1 : Int32)
  else if l1 = (110 : Int32) then
    some (-1 : Int32)
  else if l1 = (111 : Int32) then
    some (-1 : Int32)
  else if l1 = (112 : Int32) then
    some (-1 : Int32)
  else if l1 = (113 : Int32) then
    some (-1 : Int32)
  else if l1 = (114 : Int32) then
    some (-1 : Int32)
  else if l1 = (115 : Int32) then
    if (mi 61 13) = 0 then
      if l1 = (104 : Int32) then
        some (0 : Int32)
      else
        if l1 = (115 : Int32) then
          some (1 : Int32)
        else
          some (2 : Int32)
    else
      some (-1 : Int32)
  else
  some (-1 : Int32)
def b_X8_number_52  (l1 : Int32) (l2 : Int32) (mi : bv_Mem) : Option (bv_Mem) :=
  if l2 = 0 then
    (f_X8_step (1 : Int32) l1 (bv_up mi 61 12 (1 : Int32))).bind fun z2 =>
    some z2
  else
    (f_X8_step (1 : Int32) l1 (bv_up mi 61 12 (0 : Int32))).bind fun z1 =>
    some z1
def b_X8_number_4  : Nat → Int32 → Int32 → bv_Mem → Option (bv_Mem)
  | 0, _, _, _ => none
  | fu + 1, l1, l2, mi =>
  if (4 : Int32) ≤ l2 then
    b_X8_number_52  l1 l2 mi
  else
    (f_X8_look mi).bind fun z1 =>
    (f_X8_in z1 (48 : Int32) (57 : Int32) mi).bind fun z2 =>
    if z2 = 0 then
      b_X8_number_52  l1 l2 mi
    else
      (f_X8_look mi).bind fun z3 =>
      (b_X8_number_4 fu) ((((10 : Int32) * l1) + z3) - (48 : Int32)) (l2 + 1) (bv_up mi 61 10 ((mi 61 10) + (1 : Int32)))
def f_X8_number   (mi : bv_Mem) : Option (bv_Mem) :=
  b_X8_number_4  400 (0 : Int32) (0 : Int32) mi
def F_X8_one (r_X8_any : bv_Mem → Option (bv_Mem)) (r_X8_all : bv_Mem → Option (bv_Mem)) (r_X8_compares : bv_Mem → Option (bv_Mem)) (r_X8_sum : bv_Mem → Option (bv_Mem)) (r_X8_times : bv_Mem → Option (bv_Mem)) (r_X8_one : bv_Mem → Option (bv_Mem)) (r_X8_opens : Int32 → bv_Mem → Option (bv_Mem))  (mi : bv_Mem) : Option (bv_Mem) :=
  (f_X8_look mi).bind fun z1 =>
  (f_X8_nameOf z1 mi).bind fun z2 =>
  if z2 < 0 then
    if z1 = (33 : Int32) then
      (r_X8_opens z1 mi).bind fun z3 =>
      some z3
    else
      if z1 = (40 : Int32) then
        (r_X8_opens z1 mi).bind fun z5 =>
        some z5
      else
        (f_X8_number mi).bind fun z4 =>
        some z4
  else
    (f_X8_step (2 : Int32) z2 (bv_up mi 61 10 ((mi 61 10) + (1 : Int32)))).bind fun z6 =>
    some z6
def b_X8_opens_79 (r_X8_any : bv_Mem → Option (bv_Mem)) (r_X8_all : bv_Mem → Option (bv_Mem)) (r_X8_compares : bv_Mem → Option (bv_Mem)) (r_X8_sum : bv_Mem → Option (bv_Mem)) (r_X8_times : bv_Mem → Option (bv_Mem)) (r_X8_one : bv_Mem → Option (bv_Mem)) (r_X8_opens : Int32 → bv_Mem → Option (bv_Mem)) (s1 : Int32) (mi : bv_Mem) : Option (bv_Mem) :=
  if bv_fit .boolean s1 = true then
  if ((bv_up mi 61 12 s1) 61 12) = 0 then
    some (bv_up (bv_up (bv_up mi 61 12 s1) 61 10 (((bv_up mi 61 12 s1) 61 10) + (1 : Int32))) 61 11 (((bv_up (bv_up mi 61 12 s1) 61 10 (((bv_up mi 61 12 s1) 61 10) + (1 : Int32))) 61 11) - (1 : Int32)))
  else
    some (bv_up (bv_up (bv_up mi 61 12 s1) 61 10 (((bv_up mi 61 12 s1) 61 10) + (0 : Int32))) 61 11 (((bv_up (bv_up mi 61 12 s1) 61 10 (((bv_up mi 61 12 s1) 61 10) + (0 : Int32))) 61 11) - (1 : Int32)))
  else none
def b_X8_opens_74 (r_X8_any : bv_Mem → Option (bv_Mem)) (r_X8_all : bv_Mem → Option (bv_Mem)) (r_X8_compares : bv_Mem → Option (bv_Mem)) (r_X8_sum : bv_Mem → Option (bv_Mem)) (r_X8_times : bv_Mem → Option (bv_Mem)) (r_X8_one : bv_Mem → Option (bv_Mem)) (r_X8_opens : Int32 → bv_Mem → Option (bv_Mem))  (mi : bv_Mem) : Option (bv_Mem) :=
  b_X8_opens_79 r_X8_any r_X8_all r_X8_compares r_X8_sum r_X8_times r_X8_one r_X8_opens  (1 : Int32) mi
def F_X8_opens (r_X8_any : bv_Mem → Option (bv_Mem)) (r_X8_all : bv_Mem → Option (bv_Mem)) (r_X8_compares : bv_Mem → Option (bv_Mem)) (r_X8_sum : bv_Mem → Option (bv_Mem)) (r_X8_times : bv_Mem → Option (bv_Mem)) (r_X8_one : bv_Mem → Option (bv_Mem)) (r_X8_opens : Int32 → bv_Mem → Option (bv_Mem)) (l1 : Int32) (mi : bv_Mem) : Option (bv_Mem) :=
  if (mi 61 11) = (5 : Int32) then
    some (bv_up mi 61 12 (1 : Int32))
  else
    if l1 = (33 : Int32) then
      (r_X8_one (bv_up (bv_up mi 61 11 ((mi 61 11) + (1 : Int32))) 61 10 (((bv_up mi 61 11 ((mi 61 11) + (1 : Int32))) 61 10) + (1 : Int32)))).bind fun z3 =>
      (f_X8_step (3 : Int32) (0 : Int32) z3).bind fun z4 =>
      some (bv_up z4 61 11 ((z4 61 11) - (1 : Int32)))
    else
      (r_X8_any (bv_up (bv_up mi 61 11 ((mi 61 11) + (1 : Int32))) 61 10 (((bv_up mi 61 11 ((mi 61 11) + (1 : Int32))) 61 10) + (1 : Int32)))).bind fun z1 =>
      if (z1 61 12) = 0 then
        (f_X8_look z1).bind fun z2 =>
        if z2 = (41 : Int32) then
          b_X8_opens_79 r_X8_any r_X8_all r_X8_compares r_X8_sum r_X8_times r_X8_one r_X8_opens  (0 : Int32) z1
        else
          b_X8_opens_74 r_X8_any r_X8_all r_X8_compares r_X8_sum r_X8_times r_X8_one r_X8_opens   z1
      else
        b_X8_opens_74 r_X8_any r_X8_all r_X8_compares r_X8_sum r_X8_times r_X8_one r_X8_opens   z1
def G_X8 : Nat → (bv_Mem → Option (bv_Mem)) × (bv_Mem → Option (bv_Mem)) × (bv_Mem → Option (bv_Mem)) × (bv_Mem → Option (bv_Mem)) × (bv_Mem → Option (bv_Mem)) × (bv_Mem → Option (bv_Mem)) × (Int32 → bv_Mem → Option (bv_Mem))
  | 0 => (fun _ => none, fun _ => none, fun _ => none, fun _ => none, fun _ => none, fun _ => none, fun _ _ => none)
  | n + 1 => (F_X8_any (G_X8 n).1 (G_X8 n).2.1 (G_X8 n).2.2.1 (G_X8 n).2.2.2.1 (G_X8 n).2.2.2.2.1 (G_X8 n).2.2.2.2.2.1 (G_X8 n).2.2.2.2.2.2, F_X8_all (G_X8 n).1 (G_X8 n).2.1 (G_X8 n).2.2.1 (G_X8 n).2.2.2.1 (G_X8 n).2.2.2.2.1 (G_X8 n).2.2.2.2.2.1 (G_X8 n).2.2.2.2.2.2, F_X8_compares (G_X8 n).1 (G_X8 n).2.1 (G_X8 n).2.2.1 (G_X8 n).2.2.2.1 (G_X8 n).2.2.2.2.1 (G_X8 n).2.2.2.2.2.1 (G_X8 n).2.2.2.2.2.2, F_X8_sum (G_X8 n).1 (G_X8 n).2.1 (G_X8 n).2.2.1 (G_X8 n).2.2.2.1 (G_X8 n).2.2.2.2.1 (G_X8 n).2.2.2.2.2.1 (G_X8 n).2.2.2.2.2.2, F_X8_times (G_X8 n).1 (G_X8 n).2.1 (G_X8 n).2.2.1 (G_X8 n).2.2.2.1 (G_X8 n).2.2.2.2.1 (G_X8 n).2.2.2.2.2.1 (G_X8 n).2.2.2.2.2.2, F_X8_one (G_X8 n).1 (G_X8 n).2.1 (G_X8 n).2.2.1 (G_X8 n).2.2.2.1 (G_X8 n).2.2.2.2.1 (G_X8 n).2.2.2.2.2.1 (G_X8 n).2.2.2.2.2.2, F_X8_opens (G_X8 n).1 (G_X8 n).2.1 (G_X8 n).2.2.1 (G_X8 n).2.2.2.1 (G_X8 n).2.2.2.2.1 (G_X8 n).2.2.2.2.2.1 (G_X8 n).2.2.2.2.2.2)
def b_X8_text_117  : Nat → Int32 → Int32 → bv_Mem → Option (Int32 × bv_Mem)
  | 0, _, _, _ => none
  | fu + 1, l2, l3, mi =>
  if (mi 61 9) ≤ l3 then
    some ((1 : Int32), mi)
  else
    if bv_in l3 50 = true then
    if bv_in ((l2 + (1 : Int32)) + l3) 371 = true then
    if bv_in ((l2 + (51 : Int32)) + l3) 371 = true then
    (b_X8_text_117 fu) l2 (l3 + 1) (bv_up (bv_up mi 62 ((l2 + (1 : Int32)) + l3).toNatClampNeg (mi 66 l3.toNatClampNeg)) 62 ((l2 + (51 : Int32)) + l3).toNatClampNeg ((bv_up mi 62 ((l2 + (1 : Int32)) + l3).toNatClampNeg (mi 66 l3.toNatClampNeg)) 67 l3.toNatClampNeg))
    else none
    else none
    else none
def b_X8_text_71  (l1 : Int32) (s1 : Int32) (mi : bv_Mem) : Option (Int32 × bv_Mem) :=
  if bv_fit .boolean s1 = true then
  if ((bv_up (bv_up mi 61 12 s1) 62 4 (0 : Int32)) 61 12) = 0 then
    if bv_in ((169 : Int32) + ((101 : Int32) * l1)) 371 = true then
    b_X8_text_117  400 ((169 : Int32) + ((101 : Int32) * l1)) (0 : Int32) (bv_up (bv_up (bv_up mi 61 12 s1) 62 4 (0 : Int32)) 62 ((169 : Int32) + ((101 : Int32) * l1)).toNatClampNeg ((bv_up (bv_up mi 61 12 s1) 62 4 (0 : Int32)) 61 9))
    else none
  else
    some (((-10 : Int32) - ((bv_up (bv_up mi 61 12 s1) 62 4 (0 : Int32)) 61 10)), (bv_up (bv_up mi 61 12 s1) 62 4 (0 : Int32)))
  else none
def b_X8_text_66  (l1 : Int32) (mi : bv_Mem) : Option (Int32 × bv_Mem) :=
  b_X8_text_71  l1 (1 : Int32) mi
def f_X8_text  (l1 : Int32) (mi : bv_Mem) : Option (Int32 × bv_Mem) :=
  (f_X8_in l1 (0 : Int32) (1 : Int32) mi).bind fun z1 =>
  if z1 = 0 then
    (f_X8_error (-1000000001 : Int32) mi).bind fun z3 =>
    some (z3.1, z3.2)
  else
    ((G_X8 60).1 (bv_up (bv_up (bv_up (bv_up (bv_up mi 61 13 l1) 61 9 (0 : Int32)) 61 10 (0 : Int32)) 61 11 (0 : Int32)) 61 12 (0 : Int32))).bind fun z2 =>
    if (z2 61 12) = 0 then
      if (z2 62 4) ≤ (z2 61 10) then
        b_X8_text_71  l1 (0 : Int32) z2
      else
        b_X8_text_66  l1 z2
    else
      b_X8_text_66  l1 z2
def f_X8_law  (l1 : Int32) (l2 : Int32) (l3 : Int32) (l4 : Int32) (mi : bv_Mem) : Option (Int32 × bv_Mem) :=
  (f_X8_in l1 (0 : Int32) (1 : Int32) mi).bind fun z1 =>
  if z1 = 0 then
    (f_X8_error (-1000000001 : Int32) mi).bind fun z2 =>
    some (z2.1, z2.2)
  else
    (f_X8_gives l1 l2 l3 l4 mi).bind fun z3 =>
    some (z3.1, z3.2)
def b_X8_day_41  : Nat → Int32 → bv_Mem → Option (bv_Mem)
  | 0, _, _ => none
  | fu + 1, l1, mi =>
  if (mi 62 3) ≤ l1 then
    some (bv_up mi 62 0 ((mi 62 0) + (1 : Int32)))
  else
    (f_X8_of l1 (5 : Int32) mi).bind fun z1 =>
    if z1 = 0 then
      (f_X8_of l1 (4 : Int32) mi).bind fun z2 =>
      (f_X8_held (z2 + (1 : Int32)) (0 : Int32) (99 : Int32) mi).bind fun z3 =>
      (f_X8_lay l1 (4 : Int32) z3 mi).bind fun z4 =>
      (b_X8_day_41 fu) (l1 + 1) z4
    else
      (b_X8_day_41 fu) (l1 + 1) mi
def b_X8_day_2  : Nat → Int32 → bv_Mem → Option (bv_Mem)
  | 0, _, _ => none
  | fu + 1, l1, mi =>
  if (20 : Int32) ≤ l1 then
    b_X8_day_41  400 (0 : Int32) mi
  else
    if bv_in ((31 : Int32) + l1) 371 = true then
    (f_X8_isThere l1 mi).bind fun z1 =>
    if z1 = 0 then
      (b_X8_day_2 fu) (l1 + 1) (bv_up mi 62 ((31 : Int32) + l1).toNatClampNeg ((mi 62 ((31 : Int32) + l1).toNatClampNeg) - (1 : Int32)))
    else
      (b_X8_day_2 fu) (l1 + 1) (bv_up mi 62 ((31 : Int32) + l1).toNatClampNeg ((mi 62 ((31 : Int32) + l1).toNatClampNeg) - (0 : Int32)))
    else none
def f_X8_day   (mi : bv_Mem) : Option (bv_Mem) :=
  b_X8_day_2  400 (0 : Int32) mi
def b_X8_goesOn_2  : Nat → Int32 → Int32 → bv_Mem → Option (bv_Mem)
  | 0, _, _, _ => none
  | fu + 1, l1, l2, mi =>
  if l1 ≤ l2 then
    some mi
  else
    (f_X8_day mi).bind fun z1 =>
    (b_X8_goesOn_2 fu) l1 (l2 + 1) z1
def f_X8_goesOn  (l1 : Int32) (mi : bv_Mem) : Option (bv_Mem) :=
  b_X8_goesOn_2  400 l1 (0 : Int32) mi
def b_X8_missing_4 (mi : bv_Mem) : Nat → Int32 → Int32 → Option (Int32)
  | 0, _, _ => none
  | fu + 1, l1, l2 =>
  if (20 : Int32) ≤ l2 then
    some l1
  else
    (f_X8_isThere l2 mi).bind fun z1 =>
    if z1 = 0 then
      (b_X8_missing_4 mi fu) (l1 + (1 : Int32)) (l2 + 1)
    else
      (b_X8_missing_4 mi fu) (l1 + (0 : Int32)) (l2 + 1)
def f_X8_missing   (mi : bv_Mem) : Option (Int32) :=
  b_X8_missing_4 mi  400 (0 : Int32) (0 : Int32)
def f_X8_days  (l1 : Int32) (mi : bv_Mem) : Option (Int32 × bv_Mem) :=
  (f_X8_in l1 (1 : Int32) (100 : Int32) mi).bind fun z1 =>
  if z1 = 0 then
    (f_X8_error (-1000000001 : Int32) mi).bind fun z5 =>
    some (z5.1, z5.2)
  else
    if ((mi 62 0) + l1) ≤ (9999 : Int32) then
      (f_X8_goesOn l1 mi).bind fun z2 =>
      (f_X8_missing z2).bind fun z3 =>
      some (z3, z2)
    else
      (f_X8_error (-1000000003 : Int32) mi).bind fun z4 =>
      some (z4.1, z4.2)
def f_X8_draw   (mi : bv_Mem) : Option (Int32 × bv_Mem) :=
  some ((((bv_up mi 62 1 (((mi 62 1) * (1103515245 : Int32)) + (12345 : Int32))) 62 1).toUInt32 >>> ((8 : Int32).toUInt32 &&& Int32.toUInt32 31)).toInt32, (bv_up mi 62 1 (((mi 62 1) * (1103515245 : Int32)) + (12345 : Int32))))
def b_X8_loose_40  : Nat → Int32 → Int32 → bv_Mem → Option (Int32 × bv_Mem)
  | 0, _, _, _ => none
  | fu + 1, l1, l2, mi =>
  if l1 ≤ l2 then
    (f_X8_missing mi).bind fun z1 =>
    some (z1, mi)
  else
    (f_X8_draw mi).bind fun z2 =>
    (f_X8_draw z2.2).bind fun z3 =>
    if bv_in ((31 : Int32) + (z2.1 - z2.1 / (20 : Int32) * (20 : Int32))) 371 = true then
    (f_X8_day (bv_up z3.2 62 ((31 : Int32) + (z2.1 - z2.1 / (20 : Int32) * (20 : Int32))).toNatClampNeg (z3.1 - z3.1 / (10 : Int32) * (10 : Int32)))).bind fun z4 =>
    (b_X8_loose_40 fu) l1 (l2 + 1) z4
    else none
def f_X8_loose  (l1 : Int32) (mi : bv_Mem) : Option (Int32 × bv_Mem) :=
  (f_X8_in l1 (1 : Int32) (40 : Int32) mi).bind fun z1 =>
  if z1 = 0 then
    (f_X8_error (-1000000001 : Int32) mi).bind fun z3 =>
    some (z3.1, z3.2)
  else
    if ((mi 62 0) + l1) ≤ (9999 : Int32) then
      b_X8_loose_40  400 l1 (0 : Int32) mi
    else
      (f_X8_error (-1000000003 : Int32) mi).bind fun z2 =>
      some (z2.1, z2.2)
def b_X8_copyAll_62_64_2  : Nat → Int32 → bv_Mem → Option (bv_Mem)
  | 0, _, _ => none
  | fu + 1, l2, mi =>
  if (371 : Int32) ≤ l2 then
    some mi
  else
    if bv_in l2 371 = true then
    (b_X8_copyAll_62_64_2 fu) (l2 + 1) (bv_up mi 64 l2.toNatClampNeg (mi 62 l2.toNatClampNeg))
    else none
def f_X8_copyAll_62_64   (mi : bv_Mem) : Option (bv_Mem) :=
  b_X8_copyAll_62_64_2  400 (0 : Int32) mi
def f_X8_thinks   (mi : bv_Mem) : Option (bv_Mem) :=
  (f_X8_copyAll_62_64 mi).bind fun z1 =>
  some z1
def b_X8_copyAll_64_62_2  : Nat → Int32 → bv_Mem → Option (bv_Mem)
  | 0, _, _ => none
  | fu + 1, l2, mi =>
  if (371 : Int32) ≤ l2 then
    some mi
  else
    if bv_in l2 371 = true then
    (b_X8_copyAll_64_62_2 fu) (l2 + 1) (bv_up mi 62 l2.toNatClampNeg (mi 64 l2.toNatClampNeg))
    else none
def f_X8_copyAll_64_62   (mi : bv_Mem) : Option (bv_Mem) :=
  b_X8_copyAll_64_62_2  400 (0 : Int32) mi
def f_X8_putsBack   (mi : bv_Mem) : Option (bv_Mem) :=
  (f_X8_copyAll_64_62 mi).bind fun z1 =>
  some z1
def f_X8_view  (l1 : Int32) (l2 : Int32) (l3 : Int32) (mi : bv_Mem) : Option (Int32 × bv_Mem) :=
  (f_X8_isVillage l1 mi).bind fun z1 =>
  if z1 = 0 then
    (f_X8_error (-1000000001 : Int32) mi).bind fun z2 =>
    some (z2.1, z2.2)
  else
    (f_X8_in l2 (0 : Int32) (1 : Int32) mi).bind fun z3 =>
    if z3 = 0 then
      (f_X8_error (-1000000001 : Int32) mi).bind fun z4 =>
      some (z4.1, z4.2)
    else
      (f_X8_in l3 (0 : Int32) (100 : Int32) mi).bind fun z5 =>
      if z5 = 0 then
        (f_X8_error (-1000000001 : Int32) mi).bind fun z10 =>
        some (z10.1, z10.2)
      else
        (f_X8_thinks mi).bind fun z6 =>
        (f_X8_goesOn l3 z6).bind fun z7 =>
        if bv_in ((6 : Int32) + l1) 371 = true then
        (f_X8_viewOf (z7 62 ((6 : Int32) + l1).toNatClampNeg) l2 z7).bind fun z8 =>
        (f_X8_putsBack z7).bind fun z9 =>
        some (z8, z9)
        else none
def b_X8_again_87  (l4 : Int32) (mi : bv_Mem) : Option (Int32 × bv_Mem) :=
  (f_X8_putsBack mi).bind fun z1 =>
  if l4 ≤ (100 : Int32) then
    some (l4, z1)
  else
    (f_X8_error (-1000000002 : Int32) z1).bind fun z2 =>
    some (z2.1, z2.2)
def b_X8_again_52  : Nat → Int32 → Int32 → Int32 → bv_Mem → Option (Int32 × bv_Mem)
  | 0, _, _, _, _ => none
  | fu + 1, l2, l3, l4, mi =>
  if (100 : Int32) < l4 then
    b_X8_again_87  l4 mi
  else
    if bv_in ((11 : Int32) + l3) 371 = true then
    (f_X8_isSeen l3 (mi 62 ((11 : Int32) + l3).toNatClampNeg) l2 mi).bind fun z1 =>
    if z1 = 0 then
      (f_X8_day mi).bind fun z2 =>
      (b_X8_again_52 fu) l2 l3 (l4 + 1) z2
    else
      b_X8_again_87  l4 mi
    else none
def f_X8_again  (l1 : Int32) (l2 : Int32) (mi : bv_Mem) : Option (Int32 × bv_Mem) :=
  (f_X8_isVillage l1 mi).bind fun z1 =>
  if z1 = 0 then
    (f_X8_error (-1000000001 : Int32) mi).bind fun z2 =>
    some (z2.1, z2.2)
  else
    (f_X8_isPlace l2 mi).bind fun z3 =>
    if z3 = 0 then
      (f_X8_error (-1000000001 : Int32) mi).bind fun z4 =>
      some (z4.1, z4.2)
    else
      if bv_in ((6 : Int32) + l1) 371 = true then
      if (mi 62 ((6 : Int32) + l1).toNatClampNeg) = l2 then
        (f_X8_error (-1000000001 : Int32) mi).bind fun z6 =>
        some (z6.1, z6.2)
      else
        (f_X8_thinks mi).bind fun z5 =>
        b_X8_again_52  400 l2 (z5 62 ((6 : Int32) + l1).toNatClampNeg) (0 : Int32) z5
      else none
def b_X8_best_50 (k_23 : Int32 → Int32 → Int32 → Int32 → bv_Mem → Option (Int32 × bv_Mem)) (l1 : Int32) (l3 : Int32) (l4 : Int32) (l5 : Int32) (s0 : Int32) (mi : bv_Mem) : Option (Int32 × bv_Mem) :=
  if l5 ≤ l3 then
    k_23 l1 s0 l3 (l4 + 1) mi
  else
    k_23 l1 s0 l5 (l4 + 1) mi
def b_X8_best_23  : Nat → Int32 → Int32 → Int32 → Int32 → bv_Mem → Option (Int32 × bv_Mem)
  | 0, _, _, _, _, _ => none
  | fu + 1, l1, l2, l3, l4, mi =>
  if (20 : Int32) ≤ l4 then
    if l1 = 0 then
      some (l2, mi)
    else
      some (l3, mi)
  else
    (f_X8_sightsOf l4 mi).bind fun z1 =>
    if z1 ≤ l3 then
      b_X8_best_50 (b_X8_best_23 fu)  l1 l3 l4 z1 l2 mi
    else
      b_X8_best_50 (b_X8_best_23 fu)  l1 l3 l4 z1 l4 mi
def f_X8_best  (l1 : Int32) (mi : bv_Mem) : Option (Int32 × bv_Mem) :=
  (f_X8_in l1 (0 : Int32) (1 : Int32) mi).bind fun z1 =>
  if z1 = 0 then
    (f_X8_error (-1000000001 : Int32) mi).bind fun z2 =>
    some (z2.1, z2.2)
  else
    b_X8_best_23  400 l1 (0 : Int32) (-1 : Int32) (0 : Int32) mi
def b_X8_tower_28  : Nat → Int32 → Int32 → Int32 → bv_Mem → Option (Int32 × bv_Mem)
  | 0, _, _, _, _ => none
  | fu + 1, l1, l2, l3, mi =>
  if (40 : Int32) < l3 then
    (f_X8_error (-1000000002 : Int32) mi).bind fun z1 =>
    some (z1.1, z1.2)
  else
    if bv_in ((11 : Int32) + l1) 371 = true then
    (f_X8_isSeen l1 ((mi 62 ((11 : Int32) + l1).toNatClampNeg) + l3) l2 mi).bind fun z2 =>
    if z2 = 0 then
      (b_X8_tower_28 fu) l1 l2 (l3 + 1) mi
    else
      some (l3, mi)
    else none
def f_X8_tower  (l1 : Int32) (l2 : Int32) (mi : bv_Mem) : Option (Int32 × bv_Mem) :=
  (f_X8_isPlace l1 mi).bind fun z1 =>
  if z1 = 0 then
    (f_X8_error (-1000000001 : Int32) mi).bind fun z2 =>
    some (z2.1, z2.2)
  else
    (f_X8_isPlace l2 mi).bind fun z3 =>
    if z3 = 0 then
      (f_X8_error (-1000000001 : Int32) mi).bind fun z4 =>
      some (z4.1, z4.2)
    else
      if l1 = l2 then
        (f_X8_error (-1000000001 : Int32) mi).bind fun z5 =>
        some (z5.1, z5.2)
      else
        b_X8_tower_28  400 l1 l2 (0 : Int32) mi
def f_X8_sees  (l1 : Int32) (l2 : Int32) (mi : bv_Mem) : Option (Int32) :=
  if bv_in ((6 : Int32) + l1) 371 = true then
  if bv_in ((11 : Int32) + (mi 62 ((6 : Int32) + l1).toNatClampNeg)) 371 = true then
  (f_X8_isSeen (mi 62 ((6 : Int32) + l1).toNatClampNeg) (mi 62 ((11 : Int32) + (mi 62 ((6 : Int32) + l1).toNatClampNeg)).toNatClampNeg) l2 mi).bind fun z1 =>
  if z1 = 0 ∨ z1 = 1 then
  some z1
  else none
  else none
  else none
def b_X8_mutual_18 (mi : bv_Mem) (k_4 : Int32 → Int32 → Option (Int32)) : Nat → Int32 → Int32 → Int32 → Option (Int32)
  | 0, _, _, _ => none
  | fu + 1, l1, l2, l3 =>
  if (mi 62 2) ≤ l3 then
    k_4 l1 (l2 + 1)
  else
    if bv_in ((6 : Int32) + l3) 371 = true then
    (f_X8_sees l2 (mi 62 ((6 : Int32) + l3).toNatClampNeg) mi).bind fun z1 =>
    if z1 = 0 then
      (b_X8_mutual_18 mi k_4 fu) (l1 + (0 : Int32)) l2 (l3 + 1)
    else
      if bv_in ((6 : Int32) + l2) 371 = true then
      (f_X8_sees l3 (mi 62 ((6 : Int32) + l2).toNatClampNeg) mi).bind fun z2 =>
      if z2 = 0 then
        (b_X8_mutual_18 mi k_4 fu) (l1 + (0 : Int32)) l2 (l3 + 1)
      else
        (b_X8_mutual_18 mi k_4 fu) (l1 + (1 : Int32)) l2 (l3 + 1)
      else none
    else none
def b_X8_mutual_4 (mi : bv_Mem) : Nat → Int32 → Int32 → Option (Int32)
  | 0, _, _ => none
  | fu + 1, l1, l2 =>
  if (mi 62 2) ≤ l2 then
    some l1
  else
    b_X8_mutual_18 mi (b_X8_mutual_4 mi fu)  400 l1 l2 (l2 + (1 : Int32))
def f_X8_mutual   (mi : bv_Mem) : Option (Int32) :=
  b_X8_mutual_4 mi  400 (0 : Int32) (0 : Int32)
def b_X8_unseen_4 (mi : bv_Mem) : Nat → Int32 → Int32 → Option (Int32)
  | 0, _, _ => none
  | fu + 1, l1, l2 =>
  if (mi 62 2) ≤ l2 then
    some ((1048575 : Int32) &&& (l1 ^^^ (-1 : Int32)))
  else
    if bv_in ((6 : Int32) + l2) 371 = true then
    (f_X8_viewOf (mi 62 ((6 : Int32) + l2).toNatClampNeg) (0 : Int32) mi).bind fun z1 =>
    (f_X8_viewOf (mi 62 ((6 : Int32) + l2).toNatClampNeg) (1 : Int32) mi).bind fun z2 =>
    (b_X8_unseen_4 mi fu) (l1 ||| ((((1 : Int32) <<< ((mi 62 ((6 : Int32) + l2).toNatClampNeg) &&& 31)) ||| z1) ||| z2)) (l2 + 1)
    else none
def f_X8_unseen   (mi : bv_Mem) : Option (Int32) :=
  b_X8_unseen_4 mi  400 (0 : Int32) (0 : Int32)
def b_X8_cover_110 (k_21 : Int32 → Int32 → Int32 → bv_Mem → Option (Int32 × bv_Mem)) (l1 : Int32) (l2 : Int32) (l3 : Int32) (s0 : Int32) (mi : bv_Mem) : Option (Int32 × bv_Mem) :=
  if s0 = 0 then
    k_21 l1 l2 (l3 + 1) mi
  else
    k_21 l1 l3 (l3 + 1) mi
def b_X8_cover_109 (k_21 : Int32 → Int32 → Int32 → bv_Mem → Option (Int32 × bv_Mem)) (l1 : Int32) (l2 : Int32) (l3 : Int32) (mi : bv_Mem) : Option (Int32 × bv_Mem) :=
  b_X8_cover_110 k_21  l1 l2 l3 (0 : Int32) mi
def b_X8_cover_105 (k_21 : Int32 → Int32 → Int32 → bv_Mem → Option (Int32 × bv_Mem)) (l1 : Int32) (l2 : Int32) (l3 : Int32) (mi : bv_Mem) : Option (Int32 × bv_Mem) :=
  b_X8_cover_110 k_21  l1 l2 l3 (1 : Int32) mi
def b_X8_cover_39 (k_21 : Int32 → Int32 → Int32 → bv_Mem → Option (Int32 × bv_Mem)) : Nat → Int32 → Int32 → Int32 → Int32 → Int32 → bv_Mem → Option (Int32 × bv_Mem)
  | 0, _, _, _, _, _, _ => none
  | fu + 1, l1, l2, l3, l4, l5, mi =>
  if (mi 62 3) ≤ l5 then
    if (l1 &&& (l4 ^^^ (-1 : Int32))) = 0 then
      if l2 < 0 then
        b_X8_cover_105 k_21  l1 l2 l3 mi
      else
        (f_X8_bits l3 mi).bind fun z1 =>
        (f_X8_bits l2 mi).bind fun z2 =>
        if z2 ≤ z1 then
          b_X8_cover_109 k_21  l1 l2 l3 mi
        else
          b_X8_cover_105 k_21  l1 l2 l3 mi
    else
      b_X8_cover_109 k_21  l1 l2 l3 mi
  else
    if ((l3 >>> (l5 &&& 31)) &&& (1 : Int32)) = (1 : Int32) then
      (f_X8_leftIn l5 mi).bind fun z3 =>
      (b_X8_cover_39 k_21 fu) l1 l2 l3 (l4 ||| z3) (l5 + 1) mi
    else
      (b_X8_cover_39 k_21 fu) l1 l2 l3 (l4 ||| (0 : Int32)) (l5 + 1) mi
def b_X8_cover_21  : Nat → Int32 → Int32 → Int32 → bv_Mem → Option (Int32 × bv_Mem)
  | 0, _, _, _, _ => none
  | fu + 1, l1, l2, l3, mi =>
  if ((1 : Int32) <<< ((mi 62 3) &&& 31)) ≤ l3 then
    if 0 ≤ l2 then
      some (l2, mi)
    else
      (f_X8_error (-1000000002 : Int32) mi).bind fun z1 =>
      some (z1.1, z1.2)
  else
    b_X8_cover_39 (b_X8_cover_21 fu)  400 l1 l2 l3 (0 : Int32) (0 : Int32) mi
def f_X8_cover  (l1 : Int32) (mi : bv_Mem) : Option (Int32 × bv_Mem) :=
  (f_X8_in l1 (0 : Int32) (1048575 : Int32) mi).bind fun z1 =>
  if z1 = 0 then
    (f_X8_error (-1000000001 : Int32) mi).bind fun z2 =>
    some (z2.1, z2.2)
  else
    b_X8_cover_21  400 l1 (-1 : Int32) (0 : Int32) mi
def b_X8_worth_7  : Nat → Int32 → Int32 → Int32 → Int32 → bv_Mem → Option (Int32 × bv_Mem)
  | 0, _, _, _, _, _ => none
  | fu + 1, l1, l2, l3, l4, mi =>
  if (mi 62 3) ≤ l4 then
    some (l3, mi)
  else
    if ((l1 >>> (l4 &&& 31)) &&& (1 : Int32)) = (1 : Int32) then
      (f_X8_leftIn l4 mi).bind fun z1 =>
      if (l2 &&& z1) = 0 then
        (f_X8_costsOf l4 mi).bind fun z2 =>
        (b_X8_worth_7 fu) l1 (l2 ||| z1) (l3 + z2.1) (l4 + 1) z2.2
      else
        some ((-1 : Int32), mi)
    else
      (b_X8_worth_7 fu) l1 l2 l3 (l4 + 1) mi
def f_X8_worth  (l1 : Int32) (mi : bv_Mem) : Option (Int32 × bv_Mem) :=
  b_X8_worth_7  400 l1 (0 : Int32) (0 : Int32) (0 : Int32) mi
def b_X8_keeps_56 (k_23 : Int32 → Int32 → Int32 → Int32 → bv_Mem → Option (Int32 × bv_Mem)) (l1 : Int32) (l3 : Int32) (l4 : Int32) (l5 : Int32) (s0 : Int32) (mi : bv_Mem) : Option (Int32 × bv_Mem) :=
  if l5 ≤ l3 then
    k_23 l1 s0 l3 (l4 + 1) mi
  else
    k_23 l1 s0 l5 (l4 + 1) mi
def b_X8_keeps_23  : Nat → Int32 → Int32 → Int32 → Int32 → bv_Mem → Option (Int32 × bv_Mem)
  | 0, _, _, _, _, _ => none
  | fu + 1, l1, l2, l3, l4, mi =>
  if ((1 : Int32) <<< ((mi 62 3) &&& 31)) ≤ l4 then
    if l1 = 0 then
      some (l2, mi)
    else
      some (l3, mi)
  else
    (f_X8_worth l4 mi).bind fun z1 =>
    if z1.1 ≤ l3 then
      b_X8_keeps_56 (b_X8_keeps_23 fu)  l1 l3 l4 z1.1 l2 z1.2
    else
      b_X8_keeps_56 (b_X8_keeps_23 fu)  l1 l3 l4 z1.1 l4 z1.2
def f_X8_keeps  (l1 : Int32) (mi : bv_Mem) : Option (Int32 × bv_Mem) :=
  (f_X8_in l1 (0 : Int32) (1 : Int32) mi).bind fun z1 =>
  if z1 = 0 then
    (f_X8_error (-1000000001 : Int32) mi).bind fun z2 =>
    some (z2.1, z2.2)
  else
    b_X8_keeps_23  400 l1 (0 : Int32) (0 : Int32) (1 : Int32) mi
def b_X8_blend_66  (l3 : Int32) (l4 : Int32) (s0 : Int32) (mi : bv_Mem) : Option (Int32 × bv_Mem) :=
  if s0 = 0 then
    (f_X8_error (-1000000003 : Int32) mi).bind fun z1 =>
    some (z1.1, z1.2)
  else
    some ((l3 ||| l4), mi)
def b_X8_blend_65  (l3 : Int32) (l4 : Int32) (mi : bv_Mem) : Option (Int32 × bv_Mem) :=
  b_X8_blend_66  l3 l4 (0 : Int32) mi
def f_X8_blend  (l1 : Int32) (l2 : Int32) (mi : bv_Mem) : Option (Int32 × bv_Mem) :=
  (f_X8_isBottle l1 mi).bind fun z1 =>
  if z1 = 0 then
    (f_X8_error (-1000000001 : Int32) mi).bind fun z2 =>
    some (z2.1, z2.2)
  else
    (f_X8_isBottle l2 mi).bind fun z3 =>
    if z3 = 0 then
      (f_X8_error (-1000000001 : Int32) mi).bind fun z4 =>
      some (z4.1, z4.2)
    else
      if l1 = l2 then
        (f_X8_error (-1000000001 : Int32) mi).bind fun z7 =>
        some (z7.1, z7.2)
      else
        (f_X8_leftIn l1 mi).bind fun z5 =>
        (f_X8_leftIn l2 mi).bind fun z6 =>
        if (z5 &&& z6) = 0 then
          if (((z5 <<< ((1 : Int32) &&& 31)) ||| (z5 >>> ((1 : Int32) &&& 31))) &&& z6) = 0 then
            b_X8_blend_65  z5 z6 mi
          else
            b_X8_blend_66  z5 z6 (1 : Int32) mi
        else
          b_X8_blend_65  z5 z6 mi
def b_X8_thief_103 (k_70 : Int32 → Int32 → Int32 → bv_Mem → Option (Int32 × bv_Mem)) (l1 : Int32) (l3 : Int32) (s0 : Int32) (mi : bv_Mem) : Option (Int32 × bv_Mem) :=
  k_70 l1 (s0 ||| ((1 : Int32) <<< (l3 &&& 31))) (l3 + 1) mi
def b_X8_thief_70  : Nat → Int32 → Int32 → Int32 → bv_Mem → Option (Int32 × bv_Mem)
  | 0, _, _, _, _ => none
  | fu + 1, l1, l2, l3, mi =>
  if (20 : Int32) ≤ l3 then
    (f_X8_putsBack mi).bind fun z1 =>
    some (l2, z1)
  else
    (f_X8_viewOf l3 (0 : Int32) mi).bind fun z2 =>
    if (l1 &&& (z2 ^^^ (-1 : Int32))) = 0 then
      b_X8_thief_103 (b_X8_thief_70 fu)  l1 l3 l2 mi
    else
      (f_X8_viewOf l3 (1 : Int32) mi).bind fun z3 =>
      if (l1 &&& (z3 ^^^ (-1 : Int32))) = 0 then
        b_X8_thief_103 (b_X8_thief_70 fu)  l1 l3 l2 mi
      else
        (b_X8_thief_70 fu) l1 (l2 ||| (0 : Int32)) (l3 + 1) mi
def b_X8_thief_23  : Nat → Int32 → Int32 → bv_Mem → Option (Int32 × bv_Mem)
  | 0, _, _, _ => none
  | fu + 1, l1, l2, mi =>
  if (20 : Int32) ≤ l2 then
    b_X8_thief_70  400 l1 (0 : Int32) (0 : Int32) mi
  else
    if ((l1 >>> (l2 &&& 31)) &&& (1 : Int32)) = (1 : Int32) then
      if bv_in ((31 : Int32) + l2) 371 = true then
      (b_X8_thief_23 fu) l1 (l2 + 1) (bv_up mi 62 ((31 : Int32) + l2).toNatClampNeg (0 : Int32))
      else none
    else
      if bv_in ((31 : Int32) + l2) 371 = true then
      (b_X8_thief_23 fu) l1 (l2 + 1) (bv_up mi 62 ((31 : Int32) + l2).toNatClampNeg (mi 62 ((31 : Int32) + l2).toNatClampNeg))
      else none
def f_X8_thief  (l1 : Int32) (mi : bv_Mem) : Option (Int32 × bv_Mem) :=
  (f_X8_in l1 (1 : Int32) (1048575 : Int32) mi).bind fun z1 =>
  if z1 = 0 then
    (f_X8_error (-1000000001 : Int32) mi).bind fun z3 =>
    some (z3.1, z3.2)
  else
    (f_X8_thinks mi).bind fun z2 =>
    b_X8_thief_23  400 l1 (0 : Int32) z2
def b_X8_both_6 (mi : bv_Mem) : Nat → Int32 → Int32 → Int32 → Option (Int32)
  | 0, _, _, _ => none
  | fu + 1, l1, l2, l3 =>
  if (mi 62 2) ≤ l3 then
    some (l1 &&& l2)
  else
    if bv_in ((6 : Int32) + l3) 371 = true then
    (f_X8_viewOf (mi 62 ((6 : Int32) + l3).toNatClampNeg) (0 : Int32) mi).bind fun z1 =>
    (f_X8_viewOf (mi 62 ((6 : Int32) + l3).toNatClampNeg) (1 : Int32) mi).bind fun z2 =>
    (b_X8_both_6 mi fu) (l1 ||| z1) (l2 ||| z2) (l3 + 1)
    else none
def f_X8_both   (mi : bv_Mem) : Option (Int32) :=
  b_X8_both_6 mi  400 (0 : Int32) (0 : Int32) (0 : Int32)
def f_X8_seed  (l1 : Int32) (mi : bv_Mem) : Option (Int32 × bv_Mem) :=
  (f_X8_becomes (1 : Int32) l1 mi).bind fun z1 =>
  some (z1.1, z1.2)
def f_X8_begins  (l1 : Int32) (mi : bv_Mem) : Option (bv_Mem) :=
  if (40 : Int32) ≤ (mi 61 15) then
    some mi
  else
    if bv_in (mi 61 15) 40 = true then
    some (bv_up (bv_up mi 70 (mi 61 15).toNatClampNeg l1) 61 15 (((bv_up mi 70 (mi 61 15).toNatClampNeg l1) 61 15) + (1 : Int32)))
    else none
def f_X8_plainPours  (l1 : Int32) (l2 : Int32) (mi : bv_Mem) : Option (Int32 × bv_Mem) :=
  (f_X8_begins (10 : Int32) mi).bind fun z1 =>
  some ((l2 + l1), z1)
def f_X8_pours  (l1 : Int32) (l2 : Int32) (mi : bv_Mem) : Option (Int32 × bv_Mem) :=
  (f_X8_of l1 (0 : Int32) mi).bind fun z1 =>
  if z1 = (1 : Int32) then
    (f_X8_begins (20 : Int32) mi).bind fun z2 =>
    (f_X8_plainPours l1 l2 z2).bind fun z3 =>
    some ((z3.1 * (3 : Int32)), z3.2)
  else
    if z1 = (4 : Int32) then
      (f_X8_begins (20 : Int32) mi).bind fun z5 =>
      (f_X8_plainPours l1 l2 z5).bind fun z6 =>
      some ((z6.1 * (3 : Int32)), z6.2)
    else
      (f_X8_plainPours l1 l2 mi).bind fun z4 =>
      some (z4.1, z4.2)
def f_X8_plainCosts  (l1 : Int32) (l2 : Int32) (mi : bv_Mem) : Option (Int32 × bv_Mem) :=
  (f_X8_begins (11 : Int32) mi).bind fun z1 =>
  (f_X8_pours l1 l2 z1).bind fun z2 =>
  some ((z2.1 * (2 : Int32)), z2.2)
def f_X8_plainAges  (l1 : Int32) (l2 : Int32) (mi : bv_Mem) : Option (Int32 × bv_Mem) :=
  (f_X8_begins (12 : Int32) mi).bind fun z1 =>
  (f_X8_of l1 (1 : Int32) z1).bind fun z2 =>
  some ((l2 - z2), z1)
def f_X8_oldAges  (l1 : Int32) (l2 : Int32) (mi : bv_Mem) : Option (Int32 × bv_Mem) :=
  (f_X8_begins (40 : Int32) mi).bind fun z1 =>
  (f_X8_plainAges l1 l2 z1).bind fun z2 =>
  some ((-z2.1), z2.2)
def f_X8_ages  (l1 : Int32) (l2 : Int32) (mi : bv_Mem) : Option (Int32 × bv_Mem) :=
  (f_X8_of l1 (0 : Int32) mi).bind fun z1 =>
  if z1 = (6 : Int32) then
    (f_X8_begins (70 : Int32) mi).bind fun z4 =>
    (f_X8_oldAges l1 l2 z4).bind fun z5 =>
    some ((z5.1 ^^^ l1), z5.2)
  else
    if z1 = (3 : Int32) then
      (f_X8_oldAges l1 l2 mi).bind fun z3 =>
      some (z3.1, z3.2)
    else
      (f_X8_plainAges l1 l2 mi).bind fun z2 =>
      some (z2.1, z2.2)
def f_X8_cutCosts  (l1 : Int32) (l2 : Int32) (mi : bv_Mem) : Option (Int32 × bv_Mem) :=
  (f_X8_begins (30 : Int32) mi).bind fun z1 =>
  (f_X8_plainCosts l1 l2 z1).bind fun z2 =>
  (f_X8_ages l1 (1 : Int32) z2.2).bind fun z3 =>
  some ((z2.1 - z3.1), z3.2)
def f_X8_costs  (l1 : Int32) (l2 : Int32) (mi : bv_Mem) : Option (Int32 × bv_Mem) :=
  (f_X8_of l1 (0 : Int32) mi).bind fun z1 =>
  if z1 = (5 : Int32) then
    (f_X8_begins (60 : Int32) mi).bind fun z4 =>
    (f_X8_cutCosts l1 (l2 + (1 : Int32)) z4).bind fun z5 =>
    some (z5.1, z5.2)
  else
    if z1 = (2 : Int32) then
      (f_X8_cutCosts l1 l2 mi).bind fun z3 =>
      some (z3.1, z3.2)
    else
      (f_X8_plainCosts l1 l2 mi).bind fun z2 =>
      some (z2.1, z2.2)
def f_X8_plainTells  (l1 : Int32) (l2 : Int32) (mi : bv_Mem) : Option (Int32 × bv_Mem) :=
  (f_X8_begins (13 : Int32) mi).bind fun z1 =>
  (f_X8_costs l1 l2 z1).bind fun z2 =>
  (f_X8_ages l1 l2 z2.2).bind fun z3 =>
  some ((z2.1 ^^^ z3.1), z3.2)
def f_X8_tells  (l1 : Int32) (l2 : Int32) (mi : bv_Mem) : Option (Int32 × bv_Mem) :=
  (f_X8_of l1 (0 : Int32) mi).bind fun z1 =>
  if z1 = (4 : Int32) then
    (f_X8_begins (50 : Int32) mi).bind fun z6 =>
    (f_X8_plainTells l1 l2 z6).bind fun z7 =>
    (f_X8_pours l1 (2 : Int32) z7.2).bind fun z8 =>
    some ((z7.1 - z8.1), z8.2)
  else
    if z1 = (6 : Int32) then
      (f_X8_begins (71 : Int32) mi).bind fun z3 =>
      (f_X8_costs l1 l2 z3).bind fun z4 =>
      (f_X8_plainTells l1 l2 z4.2).bind fun z5 =>
      some ((z4.1 - z5.1), z5.2)
    else
      (f_X8_plainTells l1 l2 mi).bind fun z2 =>
      some (z2.1, z2.2)
def f_X8_voice  (l1 : Int32) (l2 : Int32) (l3 : Int32) (mi : bv_Mem) : Option (Int32 × bv_Mem) :=
  (f_X8_isBottle l1 mi).bind fun z1 =>
  if z1 = 0 then
    (f_X8_error (-1000000001 : Int32) mi).bind fun z2 =>
    some (z2.1, z2.2)
  else
    (f_X8_in l2 (0 : Int32) (3 : Int32) mi).bind fun z3 =>
    if z3 = 0 then
      (f_X8_error (-1000000001 : Int32) mi).bind fun z8 =>
      some (z8.1, z8.2)
    else
      if l2 = (0 : Int32) then
        (f_X8_pours l1 l3 (bv_up mi 61 15 (0 : Int32))).bind fun z4 =>
        some (z4.1, z4.2)
      else if l2 = (1 : Int32) then
        (f_X8_costs l1 l3 (bv_up mi 61 15 (0 : Int32))).bind fun z5 =>
        some (z5.1, z5.2)
      else if l2 = (2 : Int32) then
        (f_X8_ages l1 l3 (bv_up mi 61 15 (0 : Int32))).bind fun z6 =>
        some (z6.1, z6.2)
      else
      (f_X8_tells l1 l3 (bv_up mi 61 15 (0 : Int32))).bind fun z7 =>
      some (z7.1, z7.2)
def f_X8_trace  (l1 : Int32) (mi : bv_Mem) : Option (Int32 × bv_Mem) :=
  (f_X8_in l1 (0 : Int32) ((mi 61 15) - (1 : Int32)) mi).bind fun z1 =>
  if z1 = 0 then
    (f_X8_error (-1000000002 : Int32) mi).bind fun z2 =>
    some (z2.1, z2.2)
  else
    if bv_in l1 40 = true then
    some ((mi 70 l1.toNatClampNeg), mi)
    else none
def f_X8_isSheet  (l0 : Int32) (mi : bv_Mem) : Option (Int32) :=
  (f_X8_in l0 (0 : Int32) (3 : Int32) mi).bind fun z1 =>
  if z1 = 0 ∨ z1 = 1 then
  some z1
  else none
def b_X8_sheet_93  : Nat → Int32 → Int32 → bv_Mem → Option (Int32 × bv_Mem)
  | 0, _, _, _ => none
  | fu + 1, l1, l4, mi =>
  if (40 : Int32) ≤ l4 then
    some ((1 : Int32), mi)
  else
    if bv_in (((40 : Int32) * l1) + l4) 160 = true then
    (b_X8_sheet_93 fu) l1 (l4 + 1) (bv_up mi 73 (((40 : Int32) * l1) + l4).toNatClampNeg (0 : Int32))
    else none
def b_X8_sheet_68  (l1 : Int32) (l2 : Int32) (l3 : Int32) (mi : bv_Mem) : Option (Int32 × bv_Mem) :=
  if bv_in l1 4 = true then
  if l2 = 0 then
    b_X8_sheet_93  400 l1 (0 : Int32) (bv_up (bv_up mi 71 l1.toNatClampNeg l2) 72 l1.toNatClampNeg (0 : Int32))
  else
    b_X8_sheet_93  400 l1 (0 : Int32) (bv_up (bv_up mi 71 l1.toNatClampNeg l2) 72 l1.toNatClampNeg l3)
  else none
def b_X8_sheet_51  (l1 : Int32) (l2 : Int32) (l3 : Int32) (mi : bv_Mem) : Option (Int32 × bv_Mem) :=
  if l2 ≤ 0 then
    b_X8_sheet_68  l1 l2 l3 mi
  else
    if l3 ≤ (40 : Int32) then
      b_X8_sheet_68  l1 l2 l3 mi
    else
      (f_X8_error (-1000000001 : Int32) mi).bind fun z1 =>
      some (z1.1, z1.2)
def b_X8_sheet_36  (l1 : Int32) (l2 : Int32) (l3 : Int32) (mi : bv_Mem) : Option (Int32 × bv_Mem) :=
  if l2 ≤ 0 then
    b_X8_sheet_51  l1 l2 l3 mi
  else
    if 0 ≤ l3 then
      b_X8_sheet_51  l1 l2 l3 mi
    else
      (f_X8_error (-1000000003 : Int32) mi).bind fun z1 =>
      some (z1.1, z1.2)
def f_X8_sheet  (l1 : Int32) (l2 : Int32) (l3 : Int32) (mi : bv_Mem) : Option (Int32 × bv_Mem) :=
  (f_X8_isSheet l1 mi).bind fun z1 =>
  if z1 = 0 then
    (f_X8_error (-1000000001 : Int32) mi).bind fun z2 =>
    some (z2.1, z2.2)
  else
    if l2 = 0 then
      b_X8_sheet_36  l1 l2 l3 mi
    else
      if l2 = (8 : Int32) then
        b_X8_sheet_36  l1 l2 l3 mi
      else
        if l2 = (16 : Int32) then
          b_X8_sheet_36  l1 l2 l3 mi
        else
          if l2 = (32 : Int32) then
            b_X8_sheet_36  l1 l2 l3 mi
          else
            (f_X8_error (-1000000001 : Int32) mi).bind fun z3 =>
            some (z3.1, z3.2)
def f_X8_notThere  (l1 : Int32) (mi : bv_Mem) : Option (Int32) :=
  (f_X8_isSheet l1 mi).bind fun z1 =>
  if z1 = 0 then
    some (-1000000001 : Int32)
  else
    if bv_in l1 4 = true then
    if (mi 71 l1.toNatClampNeg) = 0 then
      some (-1000000002 : Int32)
    else
      some (0 : Int32)
    else none
def b_X8_put_35  (l1 : Int32) (l2 : Int32) (l3 : Int32) (s0 : Int32) (mi : bv_Mem) : Option (Int32 × bv_Mem) :=
  if s0 = 0 then
    if bv_in l1 4 = true then
    if (mi 71 l1.toNatClampNeg) = (8 : Int32) then
      if bv_in (((40 : Int32) * l1) + l2) 160 = true then
      some ((1 : Int32), (bv_up mi 73 (((40 : Int32) * l1) + l2).toNatClampNeg l3.toInt8.toInt32))
      else none
    else
      if (mi 71 l1.toNatClampNeg) = (16 : Int32) then
        if bv_in (((40 : Int32) * l1) + l2) 160 = true then
        some ((1 : Int32), (bv_up mi 73 (((40 : Int32) * l1) + l2).toNatClampNeg l3.toInt16.toInt32))
        else none
      else
        if bv_in (((40 : Int32) * l1) + l2) 160 = true then
        some ((1 : Int32), (bv_up mi 73 (((40 : Int32) * l1) + l2).toNatClampNeg l3))
        else none
    else none
  else
    (f_X8_error s0 mi).bind fun z1 =>
    some (z1.1, z1.2)
def b_X8_put_33  (l1 : Int32) (l2 : Int32) (l3 : Int32) (l4 : Int32) (mi : bv_Mem) : Option (Int32 × bv_Mem) :=
  b_X8_put_35  l1 l2 l3 l4 mi
def f_X8_put  (l1 : Int32) (l2 : Int32) (l3 : Int32) (mi : bv_Mem) : Option (Int32 × bv_Mem) :=
  (f_X8_notThere l1 mi).bind fun z1 =>
  if z1 = 0 then
    if bv_in l1 4 = true then
    (f_X8_in l2 (0 : Int32) ((mi 72 l1.toNatClampNeg) - (1 : Int32)) mi).bind fun z2 =>
    if z2 = 0 then
      b_X8_put_35  l1 l2 l3 (-1000000001 : Int32) mi
    else
      b_X8_put_33  l1 l2 l3 z1 mi
    else none
  else
    b_X8_put_33  l1 l2 l3 z1 mi
def b_X8_notMoved_102 (mi : bv_Mem) (s0 : Int32) : Option (Int32) :=
  if s0 = 0 then
    some (-1000000001 : Int32)
  else
    some (0 : Int32)
def b_X8_notMoved_101 (mi : bv_Mem)  : Option (Int32) :=
  b_X8_notMoved_102 mi  (0 : Int32)
def f_X8_notMoved  (l1 : Int32) (l2 : Int32) (l3 : Int32) (l4 : Int32) (l5 : Int32) (mi : bv_Mem) : Option (Int32) :=
  (f_X8_isSheet l1 mi).bind fun z1 =>
  if z1 = 0 then
    some (-1000000001 : Int32)
  else
    (f_X8_isSheet l3 mi).bind fun z2 =>
    if z2 = 0 then
      some (-1000000001 : Int32)
    else
      if bv_in l1 4 = true then
      if (mi 71 l1.toNatClampNeg) = 0 then
        some (-1000000002 : Int32)
      else
        if bv_in l3 4 = true then
        if (mi 71 l3.toNatClampNeg) = 0 then
          some (-1000000002 : Int32)
        else
          if (mi 71 l1.toNatClampNeg) = (mi 71 l3.toNatClampNeg) then
            if l5 < 0 then
              b_X8_notMoved_101 mi  
            else
              if l2 < 0 then
                b_X8_notMoved_101 mi  
              else
                if l4 < 0 then
                  b_X8_notMoved_101 mi  
                else
                  if ((mi 72 l1.toNatClampNeg) - l2) < l5 then
                    b_X8_notMoved_101 mi  
                  else
                    if ((mi 72 l3.toNatClampNeg) - l4) < l5 then
                      b_X8_notMoved_101 mi  
                    else
                      b_X8_notMoved_102 mi  (1 : Int32)
          else
            some (-1000000005 : Int32)
        else none
      else none
def b_X8_move_53 (k_28 : Int32 → Int32 → Int32 → Int32 → Int32 → Int32 → bv_Mem → Option (Int32 × bv_Mem)) (l1 : Int32) (l2 : Int32) (l3 : Int32) (l4 : Int32) (l5 : Int32) (l7 : Int32) (s0 : Int32) (mi : bv_Mem) : Option (Int32 × bv_Mem) :=
  if bv_in ((((40 : Int32) * l1) + l2) + s0) 160 = true then
  if bv_in ((((40 : Int32) * l3) + l4) + s0) 160 = true then
  k_28 l1 l2 l3 l4 l5 (l7 + 1) (bv_up mi 73 ((((40 : Int32) * l3) + l4) + s0).toNatClampNeg (mi 73 ((((40 : Int32) * l1) + l2) + s0).toNatClampNeg))
  else none
  else none
def b_X8_move_28  : Nat → Int32 → Int32 → Int32 → Int32 → Int32 → Int32 → bv_Mem → Option (Int32 × bv_Mem)
  | 0, _, _, _, _, _, _, _ => none
  | fu + 1, l1, l2, l3, l4, l5, l7, mi =>
  if l5 ≤ l7 then
    some (l5, mi)
  else
    if l4 ≤ l2 then
      b_X8_move_53 (b_X8_move_28 fu)  l1 l2 l3 l4 l5 l7 l7 mi
    else
      b_X8_move_53 (b_X8_move_28 fu)  l1 l2 l3 l4 l5 l7 ((l5 - (1 : Int32)) - l7) mi
def f_X8_move  (l1 : Int32) (l2 : Int32) (l3 : Int32) (l4 : Int32) (l5 : Int32) (mi : bv_Mem) : Option (Int32 × bv_Mem) :=
  (f_X8_notMoved l1 l2 l3 l4 l5 mi).bind fun z1 =>
  if z1 = 0 then
    b_X8_move_28  400 l1 l2 l3 l4 l5 (0 : Int32) mi
  else
    (f_X8_error z1 mi).bind fun z2 =>
    some (z2.1, z2.2)
def b_X8_heights_18  : Nat → Int32 → Int32 → bv_Mem → Option (Int32 × bv_Mem)
  | 0, _, _, _ => none
  | fu + 1, l1, l3, mi =>
  if bv_in l1 4 = true then
  if (mi 72 l1.toNatClampNeg) ≤ l3 then
    some (l3, mi)
  else
    if (20 : Int32) ≤ l3 then
      some (l3, mi)
    else
      if bv_in (((40 : Int32) * l1) + l3) 160 = true then
      (f_X8_in (mi 73 (((40 : Int32) * l1) + l3).toNatClampNeg) (0 : Int32) (20 : Int32) mi).bind fun z1 =>
      if z1 = 0 then
        some (l3, mi)
      else
        if bv_in ((11 : Int32) + l3) 371 = true then
        (b_X8_heights_18 fu) l1 (l3 + 1) (bv_up mi 62 ((11 : Int32) + l3).toNatClampNeg (mi 73 (((40 : Int32) * l1) + l3).toNatClampNeg))
        else none
      else none
  else none
def f_X8_heights  (l1 : Int32) (mi : bv_Mem) : Option (Int32 × bv_Mem) :=
  (f_X8_notThere l1 mi).bind fun z1 =>
  if z1 = 0 then
    b_X8_heights_18  400 l1 (0 : Int32) mi
  else
    (f_X8_error z1 mi).bind fun z2 =>
    some (z2.1, z2.2)
def b_X8_judge_63  (l1 : Int32) (l3 : Int32) (mi : bv_Mem) : Option (Int32 × bv_Mem) :=
  if l3 = (20 : Int32) then
    if bv_in l1 4 = true then
    if (mi 72 l1.toNatClampNeg) = (20 : Int32) then
      some ((-1 : Int32), mi)
    else
      some (l3, mi)
    else none
  else
    some (l3, mi)
def b_X8_judge_18  : Nat → Int32 → Int32 → bv_Mem → Option (Int32 × bv_Mem)
  | 0, _, _, _ => none
  | fu + 1, l1, l3, mi =>
  if bv_in l1 4 = true then
  if (mi 72 l1.toNatClampNeg) ≤ l3 then
    b_X8_judge_63  l1 l3 mi
  else
    if (20 : Int32) ≤ l3 then
      b_X8_judge_63  l1 l3 mi
    else
      if bv_in (((40 : Int32) * l1) + l3) 160 = true then
      if bv_in ((31 : Int32) + l3) 371 = true then
      if (mi 73 (((40 : Int32) * l1) + l3).toNatClampNeg) = (mi 62 ((31 : Int32) + l3).toNatClampNeg) then
        (b_X8_judge_18 fu) l1 (l3 + 1) mi
      else
        b_X8_judge_63  l1 l3 mi
      else none
      else none
  else none
def f_X8_judge  (l1 : Int32) (mi : bv_Mem) : Option (Int32 × bv_Mem) :=
  (f_X8_notThere l1 mi).bind fun z1 =>
  if z1 = 0 then
    b_X8_judge_18  400 l1 (0 : Int32) mi
  else
    (f_X8_error z1 mi).bind fun z2 =>
    some (z2.1, z2.2)
def b_X8_copyAll_62_63_2  : Nat → Int32 → bv_Mem → Option (bv_Mem)
  | 0, _, _ => none
  | fu + 1, l2, mi =>
  if (371 : Int32) ≤ l2 then
    some mi
  else
    if bv_in l2 371 = true then
    (b_X8_copyAll_62_63_2 fu) (l2 + 1) (bv_up mi 63 l2.toNatClampNeg (mi 62 l2.toNatClampNeg))
    else none
def f_X8_copyAll_62_63   (mi : bv_Mem) : Option (bv_Mem) :=
  b_X8_copyAll_62_63_2  400 (0 : Int32) mi
def f_X8_image   (mi : bv_Mem) : Option (Int32 × bv_Mem) :=
  (f_X8_copyAll_62_63 mi).bind fun z1 =>
  some (((bv_up z1 61 3 ((z1 61 3) + (1 : Int32))) 61 3), (bv_up z1 61 3 ((z1 61 3) + (1 : Int32))))
def b_X8_copyAll_63_62_2  : Nat → Int32 → bv_Mem → Option (bv_Mem)
  | 0, _, _ => none
  | fu + 1, l2, mi =>
  if (371 : Int32) ≤ l2 then
    some mi
  else
    if bv_in l2 371 = true then
    (b_X8_copyAll_63_62_2 fu) (l2 + 1) (bv_up mi 62 l2.toNatClampNeg (mi 63 l2.toNatClampNeg))
    else none
def f_X8_copyAll_63_62   (mi : bv_Mem) : Option (bv_Mem) :=
  b_X8_copyAll_63_62_2  400 (0 : Int32) mi
def f_X8_restore   (mi : bv_Mem) : Option (Int32 × bv_Mem) :=
  if (mi 61 3) = 0 then
    (f_X8_error (-1000000002 : Int32) mi).bind fun z2 =>
    some (z2.1, z2.2)
  else
    (f_X8_copyAll_63_62 mi).bind fun z1 =>
    some ((z1 62 0), z1)
def f_X8_tell  (l1 : Int32) (mi : bv_Mem) : Option (Int32 × bv_Mem) :=
  if (mi 62 5) = (20 : Int32) then
    (f_X8_error (-1000000004 : Int32) mi).bind fun z1 =>
    some (z1.1, z1.2)
  else
    if bv_in ((149 : Int32) + (mi 62 5)) 371 = true then
    some (((bv_up (bv_up mi 62 ((149 : Int32) + (mi 62 5)).toNatClampNeg l1) 62 5 (((bv_up mi 62 ((149 : Int32) + (mi 62 5)).toNatClampNeg l1) 62 5) + (1 : Int32))) 62 5), (bv_up (bv_up mi 62 ((149 : Int32) + (mi 62 5)).toNatClampNeg l1) 62 5 (((bv_up mi 62 ((149 : Int32) + (mi 62 5)).toNatClampNeg l1) 62 5) + (1 : Int32))))
    else none
def b_X8_check_22  : Nat → Int32 → Int32 → Int32 → bv_Mem → Option (Int32 × bv_Mem)
  | 0, _, _, _, _ => none
  | fu + 1, l1, l2, l3, mi =>
  if l1 ≤ l3 then
    (f_X8_putsBack mi).bind fun z1 =>
    some (l2, z1)
  else
    if l2 = 0 then
      (f_X8_day mi).bind fun z3 =>
      if bv_in ((149 : Int32) + l3) 371 = true then
      (f_X8_missing z3).bind fun z4 =>
      if (z3 62 ((149 : Int32) + l3).toNatClampNeg) = z4 then
        (b_X8_check_22 fu) l1 (0 : Int32) (l3 + 1) z3
      else
        (b_X8_check_22 fu) l1 ((1 : Int32) + l3) (l3 + 1) z3
      else none
    else
      (f_X8_putsBack mi).bind fun z2 =>
      some (l2, z2)
def f_X8_check   (mi : bv_Mem) : Option (Int32 × bv_Mem) :=
  (f_X8_thinks (bv_up mi 62 5 (0 : Int32))).bind fun z1 =>
  b_X8_check_22  400 (mi 62 5) (0 : Int32) (0 : Int32) z1
def b_X8_count_113  : Nat → Int32 → Int32 → bv_Mem → Option (Int32 × bv_Mem)
  | 0, _, _, _ => none
  | fu + 1, l2, l3, mi =>
  if (mi 62 3) ≤ l3 then
    some (l2, mi)
  else
    (f_X8_costsOf l3 mi).bind fun z1 =>
    (b_X8_count_113 fu) (l2 + z1.1) (l3 + 1) z1.2
def b_X8_count_84  : Nat → Int32 → Int32 → bv_Mem → Option (Int32 × bv_Mem)
  | 0, _, _, _ => none
  | fu + 1, l2, l3, mi =>
  if (mi 62 3) ≤ l3 then
    some (l2, mi)
  else
    (f_X8_of l3 (5 : Int32) mi).bind fun z1 =>
    (b_X8_count_84 fu) (l2 + z1) (l3 + 1) mi
def f_X8_count  (l1 : Int32) (mi : bv_Mem) : Option (Int32 × bv_Mem) :=
  if l1 = (0 : Int32) then
    some ((mi 62 2), mi)
  else if l1 = (1 : Int32) then
    some ((mi 62 3), mi)
  else if l1 = (2 : Int32) then
    some ((mi 62 0), mi)
  else if l1 = (3 : Int32) then
    (f_X8_missing mi).bind fun z1 =>
    some (z1, mi)
  else if l1 = (4 : Int32) then
    b_X8_count_84  400 (0 : Int32) (0 : Int32) mi
  else if l1 = (5 : Int32) then
    b_X8_count_113  400 (0 : Int32) (0 : Int32) mi
  else if l1 = (6 : Int32) then
    some ((mi 62 4), mi)
  else if l1 = (7 : Int32) then
    some ((mi 62 5), mi)
  else if l1 = (8 : Int32) then
    some ((mi 61 15), mi)
  else if l1 = (9 : Int32) then
    some ((mi 62 1), mi)
  else
  (f_X8_error (-1000000001 : Int32) mi).bind fun z2 =>
  some (z2.1, z2.2)
def f_X8_told  (l1 : Int32) (mi : bv_Mem) : Option (Int32 × bv_Mem) :=
  (f_X8_in l1 (1 : Int32) (5 : Int32) mi).bind fun z1 =>
  if z1 = 0 then
    (f_X8_error (-1000000001 : Int32) mi).bind fun z2 =>
    some (z2.1, z2.2)
  else
    if bv_in l1 6 = true then
    some ((mi 65 l1.toNatClampNeg), mi)
    else none
