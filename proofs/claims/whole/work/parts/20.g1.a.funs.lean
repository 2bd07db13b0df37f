def f_J6_bitCount_0f7a4 (p1 : Int32) : Int32 :=
  ((((((((p1 - (((p1.toUInt32 >>> ((1 : Int32).toUInt32 &&& Int32.toUInt32 31)).toInt32) &&& (1431655765 : Int32))) &&& (858993459 : Int32)) + ((((p1 - (((p1.toUInt32 >>> ((1 : Int32).toUInt32 &&& Int32.toUInt32 31)).toInt32) &&& (1431655765 : Int32))).toUInt32 >>> ((2 : Int32).toUInt32 &&& Int32.toUInt32 31)).toInt32) &&& (858993459 : Int32))) + (((((p1 - (((p1.toUInt32 >>> ((1 : Int32).toUInt32 &&& Int32.toUInt32 31)).toInt32) &&& (1431655765 : Int32))) &&& (858993459 : Int32)) + ((((p1 - (((p1.toUInt32 >>> ((1 : Int32).toUInt32 &&& Int32.toUInt32 31)).toInt32) &&& (1431655765 : Int32))).toUInt32 >>> ((2 : Int32).toUInt32 &&& Int32.toUInt32 31)).toInt32) &&& (858993459 : Int32))).toUInt32 >>> ((4 : Int32).toUInt32 &&& Int32.toUInt32 31)).toInt32)) &&& (252645135 : Int32)) + (((((((p1 - (((p1.toUInt32 >>> ((1 : Int32).toUInt32 &&& Int32.toUInt32 31)).toInt32) &&& (1431655765 : Int32))) &&& (858993459 : Int32)) + ((((p1 - (((p1.toUInt32 >>> ((1 : Int32).toUInt32 &&& Int32.toUInt32 31)).toInt32) &&& (1431655765 : Int32))).toUInt32 >>> ((2 : Int32).toUInt32 &&& Int32.toUInt32 31)).toInt32) &&& (858993459 : Int32))) + (((((p1 - (((p1.toUInt32 >>> ((1 : Int32).toUInt32 &&& Int32.toUInt32 31)).toInt32) &&& (1431655765 : Int32))) &&& (858993459 : Int32)) + ((((p1 - (((p1.toUInt32 >>> ((1 : Int32).toUInt32 &&& Int32.toUInt32 31)).toInt32) &&& (1431655765 : Int32))).toUInt32 >>> ((2 : Int32).toUInt32 &&& Int32.toUInt32 31)).toInt32) &&& (858993459 : Int32))).toUInt32 >>> ((4 : Int32).toUInt32 &&& Int32.toUInt32 31)).toInt32)) &&& (252645135 : Int32)).toUInt32 >>> ((8 : Int32).toUInt32 &&& Int32.toUInt32 31)).toInt32)) + ((((((((p1 - (((p1.toUInt32 >>> ((1 : Int32).toUInt32 &&& Int32.toUInt32 31)).toInt32) &&& (1431655765 : Int32))) &&& (858993459 : Int32)) + ((((p1 - (((p1.toUInt32 >>> ((1 : Int32).toUInt32 &&& Int32.toUInt32 31)).toInt32) &&& (1431655765 : Int32))).toUInt32 >>> ((2 : Int32).toUInt32 &&& Int32.toUInt32 31)).toInt32) &&& (858993459 : Int32))) + (((((p1 - (((p1.toUInt32 >>> ((1 : Int32).toUInt32 &&& Int32.toUInt32 31)).toInt32) &&& (1431655765 : Int32))) &&& (858993459 : Int32)) + ((((p1 - (((p1.toUInt32 >>> ((1 : Int32).toUInt32 &&& Int32.toUInt32 31)).toInt32) &&& (1431655765 : Int32))).toUInt32 >>> ((2 : Int32).toUInt32 &&& Int32.toUInt32 31)).toInt32) &&& (858993459 : Int32))).toUInt32 >>> ((4 : Int32).toUInt32 &&& Int32.toUInt32 31)).toInt32)) &&& (252645135 : Int32)) + (((((((p1 - (((p1.toUInt32 >>> ((1 : Int32).toUInt32 &&& Int32.toUInt32 31)).toInt32) &&& (1431655765 : Int32))) &&& (858993459 : Int32)) + ((((p1 - (((p1.toUInt32 >>> ((1 : Int32).toUInt32 &&& Int32.toUInt32 31)).toInt32) &&& (1431655765 : Int32))).toUInt32 >>> ((2 : Int32).toUInt32 &&& Int32.toUInt32 31)).toInt32) &&& (858993459 : Int32))) + (((((p1 - (((p1.toUInt32 >>> ((1 : Int32).toUInt32 &&& Int32.toUInt32 31)).toInt32) &&& (1431655765 : Int32))) &&& (858993459 : Int32)) + ((((p1 - (((p1.toUInt32 >>> ((1 : Int32).toUInt32 &&& Int32.toUInt32 31)).toInt32) &&& (1431655765 : Int32))).toUInt32 >>> ((2 : Int32).toUInt32 &&& Int32.toUInt32 31)).toInt32) &&& (858993459 : Int32))).toUInt32 >>> ((4 : Int32).toUInt32 &&& Int32.toUInt32 31)).toInt32)) &&& (252645135 : Int32)).toUInt32 >>> ((8 : Int32).toUInt32 &&& Int32.toUInt32 31)).toInt32)).toUInt32 >>> ((16 : Int32).toUInt32 &&& Int32.toUInt32 31)).toInt32)) &&& (63 : Int32))
theorem f_J6_bitCount_0f7a4_s {p1 : Int32} : f_J6_bitCount_0f7a4 p1 =
  (((((((((p1 - (((p1.toUInt32 >>> ((1 : Int32).toUInt32 &&& Int32.toUInt32 31)).toInt32) &&& (1431655765 : Int32))) &&& (858993459 : Int32)) + ((((p1 - (((p1.toUInt32 >>> ((1 : Int32).toUInt32 &&& Int32.toUInt32 31)).toInt32) &&& (1431655765 : Int32))).toUInt32 >>> ((2 : Int32).toUInt32 &&& Int32.toUInt32 31)).toInt32) &&& (858993459 : Int32))) + (((((p1 - (((p1.toUInt32 >>> ((1 : Int32).toUInt32 &&& Int32.toUInt32 31)).toInt32) &&& (1431655765 : Int32))) &&& (858993459 : Int32)) + ((((p1 - (((p1.toUInt32 >>> ((1 : Int32).toUInt32 &&& Int32.toUInt32 31)).toInt32) &&& (1431655765 : Int32))).toUInt32 >>> ((2 : Int32).toUInt32 &&& Int32.toUInt32 31)).toInt32) &&& (858993459 : Int32))).toUInt32 >>> ((4 : Int32).toUInt32 &&& Int32.toUInt32 31)).toInt32)) &&& (252645135 : Int32)) + (((((((p1 - (((p1.toUInt32 >>> ((1 : Int32).toUInt32 &&& Int32.toUInt32 31)).toInt32) &&& (1431655765 : Int32))) &&& (858993459 : Int32)) + ((((p1 - (((p1.toUInt32 >>> ((1 : Int32).toUInt32 &&& Int32.toUInt32 31)).toInt32) &&& (1431655765 : Int32))).toUInt32 >>> ((2 : Int32).toUInt32 &&& Int32.toUInt32 31)).toInt32) &&& (858993459 : Int32))) + (((((p1 - (((p1.toUInt32 >>> ((1 : Int32).toUInt32 &&& Int32.toUInt32 31)).toInt32) &&& (1431655765 : Int32))) &&& (858993459 : Int32)) + ((((p1 - (((p1.toUInt32 >>> ((1 : Int32).toUInt32 &&& Int32.toUInt32 31)).toInt32) &&& (1431655765 : Int32))).toUInt32 >>> ((2 : Int32).toUInt32 &&& Int32.toUInt32 31)).toInt32) &&& (858993459 : Int32))).toUInt32 >>> ((4 : Int32).toUInt32 &&& Int32.toUInt32 31)).toInt32)) &&& (252645135 : Int32)).toUInt32 >>> ((8 : Int32).toUInt32 &&& Int32.toUInt32 31)).toInt32)) + ((((((((p1 - (((p1.toUInt32 >>> ((1 : Int32).toUInt32 &&& Int32.toUInt32 31)).toInt32) &&& (1431655765 : Int32))) &&& (858993459 : Int32)) + ((((p1 - (((p1.toUInt32 >>> ((1 : Int32).toUInt32 &&& Int32.toUInt32 31)).toInt32) &&& (1431655765 : Int32))).toUInt32 >>> ((2 : Int32).toUInt32 &&& Int32.toUInt32 31)).toInt32) &&& (858993459 : Int32))) + (((((p1 - (((p1.toUInt32 >>> ((1 : Int32).toUInt32 &&& Int32.toUInt32 31)).toInt32) &&& (1431655765 : Int32))) &&& (858993459 : Int32)) + ((((p1 - (((p1.toUInt32 >>> ((1 : Int32).toUInt32 &&& Int32.toUInt32 31)).toInt32) &&& (1431655765 : Int32))).toUInt32 >>> ((2 : Int32).toUInt32 &&& Int32.toUInt32 31)).toInt32) &&& (858993459 : Int32))).toUInt32 >>> ((4 : Int32).toUInt32 &&& Int32.toUInt32 31)).toInt32)) &&& (252645135 : Int32)) + (((((((p1 - (((p1.toUInt32 >>> ((1 : Int32).toUInt32 &&& Int32.toUInt32 31)).toInt32) &&& (1431655765 : Int32))) &&& (858993459 : Int32)) + ((((p1 - (((p1.toUInt32 >>> ((1 : Int32).toUInt32 &&& Int32.toUInt32 31)).toInt32) &&& (1431655765 : Int32))).toUInt32 >>> ((2 : Int32).toUInt32 &&& Int32.toUInt32 31)).toInt32) &&& (858993459 : Int32))) + (((((p1 - (((p1.toUInt32 >>> ((1 : Int32).toUInt32 &&& Int32.toUInt32 31)).toInt32) &&& (1431655765 : Int32))) &&& (858993459 : Int32)) + ((((p1 - (((p1.toUInt32 >>> ((1 : Int32).toUInt32 &&& Int32.toUInt32 31)).toInt32) &&& (1431655765 : Int32))).toUInt32 >>> ((2 : Int32).toUInt32 &&& Int32.toUInt32 31)).toInt32) &&& (858993459 : Int32))).toUInt32 >>> ((4 : Int32).toUInt32 &&& Int32.toUInt32 31)).toInt32)) &&& (252645135 : Int32)).toUInt32 >>> ((8 : Int32).toUInt32 &&& Int32.toUInt32 31)).toInt32)).toUInt32 >>> ((16 : Int32).toUInt32 &&& Int32.toUInt32 31)).toInt32)) &&& (63 : Int32))) := rfl
def f_J1_canEncode_9a6ad (p1 : Int32) : Int32 :=
  if p1 < 0 then
    (0 : Int32)
  else
    if (255 : Int32) < p1 then
      (0 : Int32)
    else
      (1 : Int32)
theorem f_J1_canEncode_9a6ad_s {p1 : Int32} : f_J1_canEncode_9a6ad p1 =
  (if p1 < 0 then
    (0 : Int32)
  else
    if (255 : Int32) < p1 then
      (0 : Int32)
    else
      (1 : Int32)) := rfl
def f_J1_indexOfChar_4cfef_L7 : Nat → Int32 → Int32 → Int32 → Int32 → Int32 → Int32
  | 0, _, _, _, _, _ => 0
  | n + 1, x1, x2, x3, x4, x5 =>
    if x3 ≤ x5 then
      (-1 : Int32)
    else
      if (([98, 119, 100, 105, 116] : List Int32).getD (x5).toNatClampNeg 0) = x4 then
        x5
      else
        f_J1_indexOfChar_4cfef_L7 n x1 x2 x3 x4 (x5 + (1 : Int32))
theorem f_J1_indexOfChar_4cfef_L7_s {n : Nat} {x1 : Int32} {x2 : Int32} {x3 : Int32} {x4 : Int32} {x5 : Int32} : f_J1_indexOfChar_4cfef_L7 (n + 1) x1 x2 x3 x4 x5 =
    (if x3 ≤ x5 then
      (-1 : Int32)
    else
      if (([98, 119, 100, 105, 116] : List Int32).getD (x5).toNatClampNeg 0) = x4 then
        x5
      else
        f_J1_indexOfChar_4cfef_L7 n x1 x2 x3 x4 (x5 + (1 : Int32))) := rfl
def f_J1_indexOfChar_4cfef (p2 : Int32) (p3 : Int32) (p4 : Int32) : Int32 :=
  f_J1_indexOfChar_4cfef_L7 6 p2 p3 p4 ((p2).toInt8.toInt32) p3
theorem f_J1_indexOfChar_4cfef_s {p2 : Int32} {p3 : Int32} {p4 : Int32} : f_J1_indexOfChar_4cfef p2 p3 p4 =
  (f_J1_indexOfChar_4cfef_L7 6 p2 p3 p4 ((p2).toInt8.toInt32) p3) := rfl
def f_J1_indexOf_4cfef (p2 : Int32) (p3 : Int32) (p4 : Int32) : Int32 :=
  if (f_J1_canEncode_9a6ad p2) = 0 then
    (-1 : Int32)
  else
    if (if p3 < (0 : Int32) then (0 : Int32) else p3) < (if (5 : Int32) < p4 then (5 : Int32) else p4) then
      (f_J1_indexOfChar_4cfef p2 (if p3 < (0 : Int32) then (0 : Int32) else p3) (if (5 : Int32) < p4 then (5 : Int32) else p4))
    else
      (-1 : Int32)
theorem f_J1_indexOf_4cfef_s {p2 : Int32} {p3 : Int32} {p4 : Int32} : f_J1_indexOf_4cfef p2 p3 p4 =
  (if (f_J1_canEncode_9a6ad p2) = 0 then
    (-1 : Int32)
  else
    if (if p3 < (0 : Int32) then (0 : Int32) else p3) < (if (5 : Int32) < p4 then (5 : Int32) else p4) then
      (f_J1_indexOfChar_4cfef p2 (if p3 < (0 : Int32) then (0 : Int32) else p3) (if (5 : Int32) < p4 then (5 : Int32) else p4))
    else
      (-1 : Int32)) := rfl
def f_J0_coder_7d493  : Int32 :=
  if (1 : Int32) = 0 then
    (1 : Int32)
  else
    (0 : Int32)
theorem f_J0_coder_7d493_s  : f_J0_coder_7d493  =
  (if (1 : Int32) = 0 then
    (1 : Int32)
  else
    (0 : Int32)) := rfl
def f_J0_isLatin1_aae02  : Int32 :=
  if (1 : Int32) = 0 then
    (0 : Int32)
  else
    if (0 : Int32) = 0 then
      (1 : Int32)
    else
      (0 : Int32)
theorem f_J0_isLatin1_aae02_s  : f_J0_isLatin1_aae02  =
  (if (1 : Int32) = 0 then
    (0 : Int32)
  else
    if (0 : Int32) = 0 then
      (1 : Int32)
    else
      (0 : Int32)) := rfl
def f_J0_length_8abf5  : Int32 :=
  ((5 : Int32) >>> (f_J0_coder_7d493 &&& 31))
theorem f_J0_length_8abf5_s  : f_J0_length_8abf5  =
  (((5 : Int32) >>> (f_J0_coder_7d493 &&& 31))) := rfl
def f_J0_indexOf_7cf53 (p1 : Int32) (p2 : Int32) : Int32 :=
  if f_J0_isLatin1_aae02 = 0 then
    0
  else
    (f_J1_indexOf_4cfef p1 p2 f_J0_length_8abf5)
theorem f_J0_indexOf_7cf53_s {p1 : Int32} {p2 : Int32} : f_J0_indexOf_7cf53 p1 p2 =
  (if f_J0_isLatin1_aae02 = 0 then
    0
  else
    (f_J1_indexOf_4cfef p1 p2 f_J0_length_8abf5)) := rfl
def f_J0_indexOf_0f7a4 (p1 : Int32) : Int32 :=
  (f_J0_indexOf_7cf53 p1 (0 : Int32))
theorem f_J0_indexOf_0f7a4_s {p1 : Int32} : f_J0_indexOf_0f7a4 p1 =
  ((f_J0_indexOf_7cf53 p1 (0 : Int32))) := rfl
def f_X10_isNoSide (p1 : Int32) : Int32 :=
  if p1 = 0 then
    (0 : Int32)
  else
    if p1 = (1 : Int32) then
      (0 : Int32)
    else
      (1 : Int32)
theorem f_X10_isNoSide_s {p1 : Int32} : f_X10_isNoSide p1 =
  (if p1 = 0 then
    (0 : Int32)
  else
    if p1 = (1 : Int32) then
      (0 : Int32)
    else
      (1 : Int32)) := rfl
def f_X10_place (p1 : Int32) (p2 : Int32) : Int32 :=
  ((p1 * (256 : Int32)) + p2)
theorem f_X10_place_s {p1 : Int32} {p2 : Int32} : f_X10_place p1 p2 =
  (((p1 * (256 : Int32)) + p2)) := rfl
def f_X10_mostLeft (p1 : Int32) (p2 : Int32) : Int32 :=
  (if (f_J6_bitCount_0f7a4 (p1 &&& p2)) < (f_J6_bitCount_0f7a4 (p1 &&& (p2 ^^^ (-1 : Int32)))) then (f_J6_bitCount_0f7a4 (p1 &&& (p2 ^^^ (-1 : Int32)))) else (f_J6_bitCount_0f7a4 (p1 &&& p2)))
theorem f_X10_mostLeft_s {p1 : Int32} {p2 : Int32} : f_X10_mostLeft p1 p2 =
  ((if (f_J6_bitCount_0f7a4 (p1 &&& p2)) < (f_J6_bitCount_0f7a4 (p1 &&& (p2 ^^^ (-1 : Int32)))) then (f_J6_bitCount_0f7a4 (p1 &&& (p2 ^^^ (-1 : Int32)))) else (f_J6_bitCount_0f7a4 (p1 &&& p2)))) := rfl
def f_X9_simplestBetween_L48 : Nat → Int32 → Int32 → Int32 → Int32 → Int32 → Int32 → Int32
  | 0, _, _, _, _, _, _ => 0
  | n + 1, x0, x1, x2, x3, x4, x5 =>
    if x5 ≤ (1 : Int32) then
      (x2 * (x3 + (1 : Int32)))
    else
      if x4 ≤ (((x3 / x5) + (1 : Int32)) * x5) then
        f_X9_simplestBetween_L48 n x0 x1 x2 x3 x4 (x5 / (2 : Int32))
      else
        (x2 * (((x3 / x5) + (1 : Int32)) * x5))
theorem f_X9_simplestBetween_L48_s {n : Nat} {x0 : Int32} {x1 : Int32} {x2 : Int32} {x3 : Int32} {x4 : Int32} {x5 : Int32} : f_X9_simplestBetween_L48 (n + 1) x0 x1 x2 x3 x4 x5 =
    (if x5 ≤ (1 : Int32) then
      (x2 * (x3 + (1 : Int32)))
    else
      if x4 ≤ (((x3 / x5) + (1 : Int32)) * x5) then
        f_X9_simplestBetween_L48 n x0 x1 x2 x3 x4 (x5 / (2 : Int32))
      else
        (x2 * (((x3 / x5) + (1 : Int32)) * x5))) := rfl
def f_X9_simplestBetween (p1 : Int32) (p2 : Int32) : Int32 :=
  if 0 ≤ p1 then
    if p1 < 0 then
      if p1 < 0 then
        if p1 < 0 then
          f_X9_simplestBetween_L48 10 p1 p2 (-1 : Int32) (-p2) (-p1) (256 : Int32)
        else
          f_X9_simplestBetween_L48 10 p1 p2 (-1 : Int32) (-p2) p2 (256 : Int32)
      else
        if p1 < 0 then
          f_X9_simplestBetween_L48 10 p1 p2 (-1 : Int32) p1 (-p1) (256 : Int32)
        else
          f_X9_simplestBetween_L48 10 p1 p2 (-1 : Int32) p1 p2 (256 : Int32)
    else
      if p1 < 0 then
        if p1 < 0 then
          f_X9_simplestBetween_L48 10 p1 p2 (1 : Int32) (-p2) (-p1) (256 : Int32)
        else
          f_X9_simplestBetween_L48 10 p1 p2 (1 : Int32) (-p2) p2 (256 : Int32)
      else
        if p1 < 0 then
          f_X9_simplestBetween_L48 10 p1 p2 (1 : Int32) p1 (-p1) (256 : Int32)
        else
          f_X9_simplestBetween_L48 10 p1 p2 (1 : Int32) p1 p2 (256 : Int32)
  else
    if p2 ≤ 0 then
      if p1 < 0 then
        if p1 < 0 then
          if p1 < 0 then
            f_X9_simplestBetween_L48 10 p1 p2 (-1 : Int32) (-p2) (-p1) (256 : Int32)
          else
            f_X9_simplestBetween_L48 10 p1 p2 (-1 : Int32) (-p2) p2 (256 : Int32)
        else
          if p1 < 0 then
            f_X9_simplestBetween_L48 10 p1 p2 (-1 : Int32) p1 (-p1) (256 : Int32)
          else
            f_X9_simplestBetween_L48 10 p1 p2 (-1 : Int32) p1 p2 (256 : Int32)
      else
        if p1 < 0 then
          if p1 < 0 then
            f_X9_simplestBetween_L48 10 p1 p2 (1 : Int32) (-p2) (-p1) (256 : Int32)
          else
            f_X9_simplestBetween_L48 10 p1 p2 (1 : Int32) (-p2) p2 (256 : Int32)
        else
          if p1 < 0 then
            f_X9_simplestBetween_L48 10 p1 p2 (1 : Int32) p1 (-p1) (256 : Int32)
          else
            f_X9_simplestBetween_L48 10 p1 p2 (1 : Int32) p1 p2 (256 : Int32)
    else
      (0 : Int32)
theorem f_X9_simplestBetween_s {p1 : Int32} {p2 : Int32} : f_X9_simplestBetween p1 p2 =
  (if 0 ≤ p1 then
    if p1 < 0 then
      if p1 < 0 then
        if p1 < 0 then
          f_X9_simplestBetween_L48 10 p1 p2 (-1 : Int32) (-p2) (-p1) (256 : Int32)
        else
          f_X9_simplestBetween_L48 10 p1 p2 (-1 : Int32) (-p2) p2 (256 : Int32)
      else
        if p1 < 0 then
          f_X9_simplestBetween_L48 10 p1 p2 (-1 : Int32) p1 (-p1) (256 : Int32)
        else
          f_X9_simplestBetween_L48 10 p1 p2 (-1 : Int32) p1 p2 (256 : Int32)
    else
      if p1 < 0 then
        if p1 < 0 then
          f_X9_simplestBetween_L48 10 p1 p2 (1 : Int32) (-p2) (-p1) (256 : Int32)
        else
          f_X9_simplestBetween_L48 10 p1 p2 (1 : Int32) (-p2) p2 (256 : Int32)
      else
        if p1 < 0 then
          f_X9_simplestBetween_L48 10 p1 p2 (1 : Int32) p1 (-p1) (256 : Int32)
        else
          f_X9_simplestBetween_L48 10 p1 p2 (1 : Int32) p1 p2 (256 : Int32)
  else
    if p2 ≤ 0 then
      if p1 < 0 then
        if p1 < 0 then
          if p1 < 0 then
            f_X9_simplestBetween_L48 10 p1 p2 (-1 : Int32) (-p2) (-p1) (256 : Int32)
          else
            f_X9_simplestBetween_L48 10 p1 p2 (-1 : Int32) (-p2) p2 (256 : Int32)
        else
          if p1 < 0 then
            f_X9_simplestBetween_L48 10 p1 p2 (-1 : Int32) p1 (-p1) (256 : Int32)
          else
            f_X9_simplestBetween_L48 10 p1 p2 (-1 : Int32) p1 p2 (256 : Int32)
      else
        if p1 < 0 then
          if p1 < 0 then
            f_X9_simplestBetween_L48 10 p1 p2 (1 : Int32) (-p2) (-p1) (256 : Int32)
          else
            f_X9_simplestBetween_L48 10 p1 p2 (1 : Int32) (-p2) p2 (256 : Int32)
        else
          if p1 < 0 then
            f_X9_simplestBetween_L48 10 p1 p2 (1 : Int32) p1 (-p1) (256 : Int32)
          else
            f_X9_simplestBetween_L48 10 p1 p2 (1 : Int32) p1 p2 (256 : Int32)
    else
      (0 : Int32)) := rfl
def f_X5_size (plen : Int32) : Int32 :=
  plen
theorem f_X5_size_s {plen : Int32} : f_X5_size plen =
  (plen) := rfl
def f_X5_wipe (plen : Int32) : Int32 :=
  (0 : Int32)
theorem f_X5_wipe_s {plen : Int32} : f_X5_wipe plen =
  ((0 : Int32)) := rfl
def f_X5_add (plen : Int32) (lett : Nat → Int32) (p1 : Int32) : Int32 × (Nat → Int32) :=
  if (26 : Int32) ≤ plen then
    (plen, lett)
  else
    ((plen + (1 : Int32)), (upd lett (plen).toNatClampNeg (vp_nar .char p1)))
theorem f_X5_add_s {plen : Int32} {lett : Nat → Int32} {p1 : Int32} : f_X5_add plen lett p1 =
  (if (26 : Int32) ≤ plen then
    (plen, lett)
  else
    ((plen + (1 : Int32)), (upd lett (plen).toNatClampNeg (vp_nar .char p1)))) := rfl
def f_X5_at (plen : Int32) (lett : Nat → Int32) (p1 : Int32) : Int32 :=
  if p1 < 0 then
    (0 : Int32)
  else
    if plen ≤ p1 then
      (0 : Int32)
    else
      (lett (p1).toNatClampNeg)
theorem f_X5_at_s {plen : Int32} {lett : Nat → Int32} {p1 : Int32} : f_X5_at plen lett p1 =
  (if p1 < 0 then
    (0 : Int32)
  else
    if plen ≤ p1 then
      (0 : Int32)
    else
      (lett (p1).toNatClampNeg)) := rfl
def f_X5_fits (plen : Int32) (lett : Nat → Int32) (p1 : Int32) : Int32 :=
  if p1 < (23 : Int32) then
    if (p1 - p1 / (3 : Int32) * (3 : Int32)) = (0 : Int32) then
      if (f_J0_indexOf_0f7a4 (f_X5_at plen lett p1)) < 0 then
        (0 : Int32)
      else
        (1 : Int32)
    else
      if (p1 - p1 / (3 : Int32) * (3 : Int32)) = (1 : Int32) then
        if (f_X5_at plen lett p1) = (45 : Int32) then
          (1 : Int32)
        else
          if (f_X5_at plen lett p1) < (48 : Int32) then
            (0 : Int32)
          else
            if ((48 : Int32) + (p1 / (3 : Int32))) ≤ (f_X5_at plen lett p1) then
              (0 : Int32)
            else
              (1 : Int32)
      else
        if (f_X5_at plen lett p1) = (44 : Int32) then
          (1 : Int32)
        else
          (0 : Int32)
  else
    (0 : Int32)
theorem f_X5_fits_s {plen : Int32} {lett : Nat → Int32} {p1 : Int32} : f_X5_fits plen lett p1 =
  (if p1 < (23 : Int32) then
    if (p1 - p1 / (3 : Int32) * (3 : Int32)) = (0 : Int32) then
      if (f_J0_indexOf_0f7a4 (f_X5_at plen lett p1)) < 0 then
        (0 : Int32)
      else
        (1 : Int32)
    else
      if (p1 - p1 / (3 : Int32) * (3 : Int32)) = (1 : Int32) then
        if (f_X5_at plen lett p1) = (45 : Int32) then
          (1 : Int32)
        else
          if (f_X5_at plen lett p1) < (48 : Int32) then
            (0 : Int32)
          else
            if ((48 : Int32) + (p1 / (3 : Int32))) ≤ (f_X5_at plen lett p1) then
              (0 : Int32)
            else
              (1 : Int32)
      else
        if (f_X5_at plen lett p1) = (44 : Int32) then
          (1 : Int32)
        else
          (0 : Int32)
  else
    (0 : Int32)) := rfl
def f_X5_firstWrong_L2 : Nat → Int32 → (Nat → Int32) → Int32 → Int32
  | 0, _, _, _ => 0
  | n + 1, plen, lett, x1 =>
    if plen ≤ x1 then
      plen
    else
      if (f_X5_fits plen lett x1) = 0 then
        x1
      else
        f_X5_firstWrong_L2 n plen lett (x1 + (1 : Int32))
theorem f_X5_firstWrong_L2_s {n : Nat} {plen : Int32} {lett : Nat → Int32} {x1 : Int32} : f_X5_firstWrong_L2 (n + 1) plen lett x1 =
    (if plen ≤ x1 then
      plen
    else
      if (f_X5_fits plen lett x1) = 0 then
        x1
      else
        f_X5_firstWrong_L2 n plen lett (x1 + (1 : Int32))) := rfl
def f_X5_firstWrong (plen : Int32) (lett : Nat → Int32) : Int32 :=
  f_X5_firstWrong_L2 27 plen lett (0 : Int32)
theorem f_X5_firstWrong_s {plen : Int32} {lett : Nat → Int32} : f_X5_firstWrong plen lett =
  (f_X5_firstWrong_L2 27 plen lett (0 : Int32)) := rfl
def f_X5_isWhole (plen : Int32) (lett : Nat → Int32) : Int32 :=
  if (plen - plen / (3 : Int32) * (3 : Int32)) = (2 : Int32) then
    if (f_X5_firstWrong plen lett) = plen then
      (1 : Int32)
    else
      (0 : Int32)
  else
    (0 : Int32)
theorem f_X5_isWhole_s {plen : Int32} {lett : Nat → Int32} : f_X5_isWhole plen lett =
  (if (plen - plen / (3 : Int32) * (3 : Int32)) = (2 : Int32) then
    if (f_X5_firstWrong plen lett) = plen then
      (1 : Int32)
    else
      (0 : Int32)
  else
    (0 : Int32)) := rfl
def f_X5_branches (plen : Int32) : Int32 :=
  ((plen + (1 : Int32)) / (3 : Int32))
theorem f_X5_branches_s {plen : Int32} : f_X5_branches plen =
  (((plen + (1 : Int32)) / (3 : Int32))) := rfl
def f_X5_kindAt (plen : Int32) (lett : Nat → Int32) (p1 : Int32) : Int32 :=
  (if (0 : Int32) < (f_J0_indexOf_0f7a4 (f_X5_at plen lett ((3 : Int32) * p1))) then (f_J0_indexOf_0f7a4 (f_X5_at plen lett ((3 : Int32) * p1))) else (0 : Int32))
theorem f_X5_kindAt_s {plen : Int32} {lett : Nat → Int32} {p1 : Int32} : f_X5_kindAt plen lett p1 =
  ((if (0 : Int32) < (f_J0_indexOf_0f7a4 (f_X5_at plen lett ((3 : Int32) * p1))) then (f_J0_indexOf_0f7a4 (f_X5_at plen lett ((3 : Int32) * p1))) else (0 : Int32))) := rfl
def f_X5_groundAt (plen : Int32) (lett : Nat → Int32) (p1 : Int32) : Int32 :=
  if (f_X5_at plen lett (((3 : Int32) * p1) + (1 : Int32))) < (48 : Int32) then
    (-1 : Int32)
  else
    if ((48 : Int32) + p1) ≤ (f_X5_at plen lett (((3 : Int32) * p1) + (1 : Int32))) then
      (-1 : Int32)
    else
      ((f_X5_at plen lett (((3 : Int32) * p1) + (1 : Int32))) - (48 : Int32))
theorem f_X5_groundAt_s {plen : Int32} {lett : Nat → Int32} {p1 : Int32} : f_X5_groundAt plen lett p1 =
  (if (f_X5_at plen lett (((3 : Int32) * p1) + (1 : Int32))) < (48 : Int32) then
    (-1 : Int32)
  else
    if ((48 : Int32) + p1) ≤ (f_X5_at plen lett (((3 : Int32) * p1) + (1 : Int32))) then
      (-1 : Int32)
    else
      ((f_X5_at plen lett (((3 : Int32) * p1) + (1 : Int32))) - (48 : Int32))) := rfl
def f_X8_withAllOn (abv : Nat → Int32) (p1 : Int32) : Int32 :=
  ((abv (p1).toNatClampNeg) ||| ((1 : Int32) <<< (p1 &&& 31)))
theorem f_X8_withAllOn_s {abv : Nat → Int32} {p1 : Int32} : f_X8_withAllOn abv p1 =
  (((abv (p1).toNatClampNeg) ||| ((1 : Int32) <<< (p1 &&& 31)))) := rfl
def f_X8_hasFooting (onB : Nat → Int32) (p1 : Int32) (p2 : Int32) : Int32 :=
  if (onB (p1).toNatClampNeg) = (-1 : Int32) then
    (1 : Int32)
  else
    if ((p2 >>> ((onB (p1).toNatClampNeg) &&& 31)) &&& (1 : Int32)) = 0 then
      (0 : Int32)
    else
      (1 : Int32)
theorem f_X8_hasFooting_s {onB : Nat → Int32} {p1 : Int32} {p2 : Int32} : f_X8_hasFooting onB p1 p2 =
  (if (onB (p1).toNatClampNeg) = (-1 : Int32) then
    (1 : Int32)
  else
    if ((p2 >>> ((onB (p1).toNatClampNeg) &&& 31)) &&& (1 : Int32)) = 0 then
      (0 : Int32)
    else
      (1 : Int32)) := rfl
def f_X8_onTheGround_L4 : Nat → Int32 → (Nat → Int32) → Int32 → Int32 → Int32
  | 0, _, _, _, _ => 0
  | n + 1, number, onB, x1, x2 =>
    if number ≤ x2 then
      x1
    else
      if (onB (x2).toNatClampNeg) = (-1 : Int32) then
        f_X8_onTheGround_L4 n number onB (x1 + (1 : Int32)) (x2 + (1 : Int32))
      else
        f_X8_onTheGround_L4 n number onB x1 (x2 + (1 : Int32))
theorem f_X8_onTheGround_L4_s {n : Nat} {number : Int32} {onB : Nat → Int32} {x1 : Int32} {x2 : Int32} : f_X8_onTheGround_L4 (n + 1) number onB x1 x2 =
    (if number ≤ x2 then
      x1
    else
      if (onB (x2).toNatClampNeg) = (-1 : Int32) then
        f_X8_onTheGround_L4 n number onB (x1 + (1 : Int32)) (x2 + (1 : Int32))
      else
        f_X8_onTheGround_L4 n number onB x1 (x2 + (1 : Int32))) := rfl
def f_X8_onTheGround (number : Int32) (onB : Nat → Int32) : Int32 :=
  f_X8_onTheGround_L4 9 number onB (0 : Int32) (0 : Int32)
theorem f_X8_onTheGround_s {number : Int32} {onB : Nat → Int32} : f_X8_onTheGround number onB =
  (f_X8_onTheGround_L4 9 number onB (0 : Int32) (0 : Int32)) := rfl
def f_X8_canStand_L2 : Nat → Int32 → (Nat → Int32) → Int32 → Int32 → Int32
  | 0, _, _, _, _ => 0
  | n + 1, number, onB, x1, x2 =>
    if number ≤ x2 then
      (1 : Int32)
    else
      if ((x1 >>> (x2 &&& 31)) &&& (1 : Int32)) = 0 then
        f_X8_canStand_L2 n number onB x1 (x2 + (1 : Int32))
      else
        if (f_X8_hasFooting onB x2 x1) = 0 then
          (0 : Int32)
        else
          f_X8_canStand_L2 n number onB x1 (x2 + (1 : Int32))
theorem f_X8_canStand_L2_s {n : Nat} {number : Int32} {onB : Nat → Int32} {x1 : Int32} {x2 : Int32} : f_X8_canStand_L2 (n + 1) number onB x1 x2 =
    (if number ≤ x2 then
      (1 : Int32)
    else
      if ((x1 >>> (x2 &&& 31)) &&& (1 : Int32)) = 0 then
        f_X8_canStand_L2 n number onB x1 (x2 + (1 : Int32))
      else
        if (f_X8_hasFooting onB x2 x1) = 0 then
          (0 : Int32)
        else
          f_X8_canStand_L2 n number onB x1 (x2 + (1 : Int32))) := rfl
def f_X8_canStand (number : Int32) (onB : Nat → Int32) (p1 : Int32) : Int32 :=
  f_X8_canStand_L2 9 number onB p1 (0 : Int32)
theorem f_X8_canStand_s {number : Int32} {onB : Nat → Int32} {p1 : Int32} : f_X8_canStand number onB p1 =
  (f_X8_canStand_L2 9 number onB p1 (0 : Int32)) := rfl
def f_X8_findSets_L7 : Nat → Int32 → Int32 → (Nat → Int32) → (Nat → Int32) → Int32 → Int32 × (Nat → Int32)
  | 0, _, setCount, _, sets, _ => (setCount, sets)
  | n + 1, number, setCount, onB, sets, x1 =>
    if ((1 : Int32) <<< (number &&& 31)) ≤ x1 then
      (setCount, sets)
    else
      if (f_X8_canStand number onB x1) = 0 then
        f_X8_findSets_L7 n number setCount onB sets (x1 + (1 : Int32))
      else
        f_X8_findSets_L7 n number (setCount + (1 : Int32)) onB (upd sets (setCount).toNatClampNeg x1) (x1 + (1 : Int32))
theorem f_X8_findSets_L7_s {n : Nat} {number : Int32} {setCount : Int32} {onB : Nat → Int32} {sets : Nat → Int32} {x1 : Int32} : f_X8_findSets_L7 (n + 1) number setCount onB sets x1 =
    (if ((1 : Int32) <<< (number &&& 31)) ≤ x1 then
      (setCount, sets)
    else
      if (f_X8_canStand number onB x1) = 0 then
        f_X8_findSets_L7 n number setCount onB sets (x1 + (1 : Int32))
      else
        f_X8_findSets_L7 n number (setCount + (1 : Int32)) onB (upd sets (setCount).toNatClampNeg x1) (x1 + (1 : Int32))) := rfl
def f_X8_findSets (number : Int32) (setCount : Int32) (onB : Nat → Int32) (sets : Nat → Int32) : Int32 × (Nat → Int32) :=
  f_X8_findSets_L7 257 number (0 : Int32) onB sets (0 : Int32)
theorem f_X8_findSets_s {number : Int32} {setCount : Int32} {onB : Nat → Int32} {sets : Nat → Int32} : f_X8_findSets number setCount onB sets =
  (f_X8_findSets_L7 257 number (0 : Int32) onB sets (0 : Int32)) := rfl
def f_X8_readFrom_L54 : Nat → Int32 → Int32 → Int32 → (Nat → Int32) → (Nat → Int32) → (Nat → Int32) → (Nat → Int32) → Int32 → Int32 × Int32 × (Nat → Int32) × (Nat → Int32) × (Nat → Int32)
  | 0, _, number, setCount, _, onB, abv, sets, _ => (number, setCount, onB, abv, sets)
  | n + 1, plen, number, setCount, lett, onB, abv, sets, x2 =>
    if x2 ≤ 0 then
      ((fun (z_1 : Int32 × (Nat → Int32)) =>
      (number, z_1.1, onB, abv, z_1.2)) (f_X8_findSets number setCount onB sets))
    else
      if (onB (x2).toNatClampNeg) < 0 then
        f_X8_readFrom_L54 n plen number setCount lett onB abv sets (x2 + (-1 : Int32))
      else
        if x2 ≤ (onB (x2).toNatClampNeg) then
          f_X8_readFrom_L54 n plen number setCount lett onB abv sets (x2 + (-1 : Int32))
        else
          f_X8_readFrom_L54 n plen number setCount lett onB (upd abv ((onB (x2).toNatClampNeg)).toNatClampNeg ((abv ((onB (x2).toNatClampNeg)).toNatClampNeg) ||| (f_X8_withAllOn abv x2))) sets (x2 + (-1 : Int32))
theorem f_X8_readFrom_L54_s {n : Nat} {plen : Int32} {number : Int32} {setCount : Int32} {lett : Nat → Int32} {onB : Nat → Int32} {abv : Nat → Int32} {sets : Nat → Int32} {x2 : Int32} : f_X8_readFrom_L54 (n + 1) plen number setCount lett onB abv sets x2 =
    (if x2 ≤ 0 then
      ((fun (z_1 : Int32 × (Nat → Int32)) =>
      (number, z_1.1, onB, abv, z_1.2)) (f_X8_findSets number setCount onB sets))
    else
      if (onB (x2).toNatClampNeg) < 0 then
        f_X8_readFrom_L54 n plen number setCount lett onB abv sets (x2 + (-1 : Int32))
      else
        if x2 ≤ (onB (x2).toNatClampNeg) then
          f_X8_readFrom_L54 n plen number setCount lett onB abv sets (x2 + (-1 : Int32))
        else
          f_X8_readFrom_L54 n plen number setCount lett onB (upd abv ((onB (x2).toNatClampNeg)).toNatClampNeg ((abv ((onB (x2).toNatClampNeg)).toNatClampNeg) ||| (f_X8_withAllOn abv x2))) sets (x2 + (-1 : Int32))) := rfl
def f_X8_readFrom_L15 : Nat → Int32 → Int32 → Int32 → (Nat → Int32) → (Nat → Int32) → (Nat → Int32) → (Nat → Int32) → Int32 → Int32 × Int32 × (Nat → Int32) × (Nat → Int32) × (Nat → Int32)
  | 0, _, number, setCount, _, onB, abv, sets, _ => (number, setCount, onB, abv, sets)
  | n + 1, plen, number, setCount, lett, onB, abv, sets, x2 =>
    if number ≤ x2 then
      f_X8_readFrom_L54 9 plen number setCount lett onB abv sets (number - (1 : Int32))
    else
      f_X8_readFrom_L15 n plen number setCount lett (upd onB (x2).toNatClampNeg (f_X5_groundAt plen lett x2)) (upd abv (x2).toNatClampNeg (0 : Int32)) sets (x2 + (1 : Int32))
theorem f_X8_readFrom_L15_s {n : Nat} {plen : Int32} {number : Int32} {setCount : Int32} {lett : Nat → Int32} {onB : Nat → Int32} {abv : Nat → Int32} {sets : Nat → Int32} {x2 : Int32} : f_X8_readFrom_L15 (n + 1) plen number setCount lett onB abv sets x2 =
    (if number ≤ x2 then
      f_X8_readFrom_L54 9 plen number setCount lett onB abv sets (number - (1 : Int32))
    else
      f_X8_readFrom_L15 n plen number setCount lett (upd onB (x2).toNatClampNeg (f_X5_groundAt plen lett x2)) (upd abv (x2).toNatClampNeg (0 : Int32)) sets (x2 + (1 : Int32))) := rfl
def f_X8_readFrom (plen : Int32) (number : Int32) (setCount : Int32) (lett : Nat → Int32) (onB : Nat → Int32) (abv : Nat → Int32) (sets : Nat → Int32) : Int32 × Int32 × (Nat → Int32) × (Nat → Int32) × (Nat → Int32) :=
  f_X8_readFrom_L15 9 plen (if (8 : Int32) < (f_X5_branches plen) then (8 : Int32) else (f_X5_branches plen)) setCount lett onB abv sets (0 : Int32)
theorem f_X8_readFrom_s {plen : Int32} {number : Int32} {setCount : Int32} {lett : Nat → Int32} {onB : Nat → Int32} {abv : Nat → Int32} {sets : Nat → Int32} : f_X8_readFrom plen number setCount lett onB abv sets =
  (f_X8_readFrom_L15 9 plen (if (8 : Int32) < (f_X5_branches plen) then (8 : Int32) else (f_X5_branches plen)) setCount lett onB abv sets (0 : Int32)) := rfl
def f_X6_kindsCutBy (abv : Nat → Int32) (p1 : Int32) (p2 : Int32) (p3 : Int32) : Int32 :=
  if p1 = (1 : Int32) then
    (5 : Int32)
  else
    if (p3 &&& (abv (p2).toNatClampNeg)) = 0 then
      if (1 : Int32) = 0 then
        (3 : Int32)
      else
        (19 : Int32)
    else
      if (0 : Int32) = 0 then
        (3 : Int32)
      else
        (19 : Int32)
theorem f_X6_kindsCutBy_s {abv : Nat → Int32} {p1 : Int32} {p2 : Int32} {p3 : Int32} : f_X6_kindsCutBy abv p1 p2 p3 =
  (if p1 = (1 : Int32) then
    (5 : Int32)
  else
    if (p3 &&& (abv (p2).toNatClampNeg)) = 0 then
      if (1 : Int32) = 0 then
        (3 : Int32)
      else
        (19 : Int32)
    else
      if (0 : Int32) = 0 then
        (3 : Int32)
      else
        (19 : Int32)) := rfl
def f_X6_choices_L5 : Nat → Int32 → (Nat → Int32) → (Nat → Int32) → Int32 → Int32 → Int32 → Int32 → Int32
  | 0, _, _, _, _, _, _, _ => 0
  | n + 1, number, abv, kinds, x1, x2, x3, x4 =>
    if number ≤ x4 then
      x3
    else
      if ((x2 >>> (x4 &&& 31)) &&& (1 : Int32)) = 0 then
        f_X6_choices_L5 n number abv kinds x1 x2 x3 (x4 + (1 : Int32))
      else
        if (((f_X6_kindsCutBy abv x1 x4 x2) >>> ((kinds (x4).toNatClampNeg) &&& 31)) &&& (1 : Int32)) = 0 then
          f_X6_choices_L5 n number abv kinds x1 x2 x3 (x4 + (1 : Int32))
        else
          f_X6_choices_L5 n number abv kinds x1 x2 (x3 ||| ((1 : Int32) <<< (x4 &&& 31))) (x4 + (1 : Int32))
theorem f_X6_choices_L5_s {n : Nat} {number : Int32} {abv : Nat → Int32} {kinds : Nat → Int32} {x1 : Int32} {x2 : Int32} {x3 : Int32} {x4 : Int32} : f_X6_choices_L5 (n + 1) number abv kinds x1 x2 x3 x4 =
    (if number ≤ x4 then
      x3
    else
      if ((x2 >>> (x4 &&& 31)) &&& (1 : Int32)) = 0 then
        f_X6_choices_L5 n number abv kinds x1 x2 x3 (x4 + (1 : Int32))
      else
        if (((f_X6_kindsCutBy abv x1 x4 x2) >>> ((kinds (x4).toNatClampNeg) &&& 31)) &&& (1 : Int32)) = 0 then
          f_X6_choices_L5 n number abv kinds x1 x2 x3 (x4 + (1 : Int32))
        else
          f_X6_choices_L5 n number abv kinds x1 x2 (x3 ||| ((1 : Int32) <<< (x4 &&& 31))) (x4 + (1 : Int32))) := rfl
def f_X6_choices (number : Int32) (abv : Nat → Int32) (kinds : Nat → Int32) (p1 : Int32) (p2 : Int32) : Int32 :=
  f_X6_choices_L5 9 number abv kinds p1 p2 (0 : Int32) (0 : Int32)
theorem f_X6_choices_s {number : Int32} {abv : Nat → Int32} {kinds : Nat → Int32} {p1 : Int32} {p2 : Int32} : f_X6_choices number abv kinds p1 p2 =
  (f_X6_choices_L5 9 number abv kinds p1 p2 (0 : Int32) (0 : Int32)) := rfl
def f_X6_leftBy (abv : Nat → Int32) (p1 : Int32) (p2 : Int32) : Int32 :=
  (p2 &&& (((abv (p1).toNatClampNeg) ||| ((1 : Int32) <<< (p1 &&& 31))) ^^^ (-1 : Int32)))
theorem f_X6_leftBy_s {abv : Nat → Int32} {p1 : Int32} {p2 : Int32} : f_X6_leftBy abv p1 p2 =
  ((p2 &&& (((abv (p1).toNatClampNeg) ||| ((1 : Int32) <<< (p1 &&& 31))) ^^^ (-1 : Int32)))) := rfl
def f_X4_isWonBy (won : Nat → Int64) (p1 : Int32) (p2 : Int32) : Int32 :=
  if (lg_cmp ((won ((f_X10_place p1 p2)).toNatClampNeg) &&& (1099511627776 : Int64)) (0 : Int64)) = 0 then
    (0 : Int32)
  else
    (1 : Int32)
theorem f_X4_isWonBy_s {won : Nat → Int64} {p1 : Int32} {p2 : Int32} : f_X4_isWonBy won p1 p2 =
  (if (lg_cmp ((won ((f_X10_place p1 p2)).toNatClampNeg) &&& (1099511627776 : Int64)) (0 : Int64)) = 0 then
    (0 : Int32)
  else
    (1 : Int32)) := rfl
def f_X4_winningKinds (won : Nat → Int64) (p1 : Int32) (p2 : Int32) (p3 : Int32) : Int32 :=
  (((((won ((f_X10_place p1 p3)).toNatClampNeg) >>> (((5 : Int32) * p2).toInt64 &&& 63))).toInt32) &&& (31 : Int32))
theorem f_X4_winningKinds_s {won : Nat → Int64} {p1 : Int32} {p2 : Int32} {p3 : Int32} : f_X4_winningKinds won p1 p2 p3 =
  ((((((won ((f_X10_place p1 p3)).toNatClampNeg) >>> (((5 : Int32) * p2).toInt64 &&& 63))).toInt32) &&& (31 : Int32))) := rfl
def f_X4_hedgesWithCut (abv : Nat → Int32) (kinds : Nat → Int32) (p1 : Int32) (p2 : Int32) (p3 : Int32) : Int64 :=
  if (((f_X6_kindsCutBy abv p1 p2 p3) >>> ((kinds (p2).toNatClampNeg) &&& 31)) &&& (1 : Int32)) = 0 then
    ((((f_X6_kindsCutBy abv p1 p2 p3)).toInt64) <<< (((5 : Int32) * p2).toInt64 &&& 63))
  else
    (((((f_X6_kindsCutBy abv p1 p2 p3)).toInt64) <<< (((5 : Int32) * p2).toInt64 &&& 63)) ||| ((2199023255551 : Int64) &&& (((31 : Int64) <<< (((5 : Int32) * p2).toInt64 &&& 63)) ^^^ (-1 : Int64))))
theorem f_X4_hedgesWithCut_s {abv : Nat → Int32} {kinds : Nat → Int32} {p1 : Int32} {p2 : Int32} {p3 : Int32} : f_X4_hedgesWithCut abv kinds p1 p2 p3 =
  (if (((f_X6_kindsCutBy abv p1 p2 p3) >>> ((kinds (p2).toNatClampNeg) &&& 31)) &&& (1 : Int32)) = 0 then
    ((((f_X6_kindsCutBy abv p1 p2 p3)).toInt64) <<< (((5 : Int32) * p2).toInt64 &&& 63))
  else
    (((((f_X6_kindsCutBy abv p1 p2 p3)).toInt64) <<< (((5 : Int32) * p2).toInt64 &&& 63)) ||| ((2199023255551 : Int64) &&& (((31 : Int64) <<< (((5 : Int32) * p2).toInt64 &&& 63)) ^^^ (-1 : Int64))))) := rfl
def f_X4_enter_L5 : Nat → Int32 → (Nat → Int32) → (Nat → Int32) → (Nat → Int64) → Int32 → Int32 → Int64 → Int32 → (Nat → Int64)
  | 0, _, _, _, won, _, _, _, _ => won
  | n + 1, number, abv, kinds, won, x1, x2, x3, x5 =>
    if number ≤ x5 then
      (vp_updL won ((f_X10_place x1 x2)).toNatClampNeg x3)
    else
      if ((x2 >>> (x5 &&& 31)) &&& (1 : Int32)) = 0 then
        f_X4_enter_L5 n number abv kinds won x1 x2 x3 (x5 + (1 : Int32))
      else
        f_X4_enter_L5 n number abv kinds won x1 x2 (x3 ||| ((f_X4_hedgesWithCut abv kinds x1 x5 x2) &&& ((won ((f_X10_place ((1 : Int32) - x1) (f_X6_leftBy abv x5 x2))).toNatClampNeg) ^^^ (-1 : Int64)))) (x5 + (1 : Int32))
theorem f_X4_enter_L5_s {n : Nat} {number : Int32} {abv : Nat → Int32} {kinds : Nat → Int32} {won : Nat → Int64} {x1 : Int32} {x2 : Int32} {x3 : Int64} {x5 : Int32} : f_X4_enter_L5 (n + 1) number abv kinds won x1 x2 x3 x5 =
    (if number ≤ x5 then
      (vp_updL won ((f_X10_place x1 x2)).toNatClampNeg x3)
    else
      if ((x2 >>> (x5 &&& 31)) &&& (1 : Int32)) = 0 then
        f_X4_enter_L5 n number abv kinds won x1 x2 x3 (x5 + (1 : Int32))
      else
        f_X4_enter_L5 n number abv kinds won x1 x2 (x3 ||| ((f_X4_hedgesWithCut abv kinds x1 x5 x2) &&& ((won ((f_X10_place ((1 : Int32) - x1) (f_X6_leftBy abv x5 x2))).toNatClampNeg) ^^^ (-1 : Int64)))) (x5 + (1 : Int32))) := rfl
def f_X4_enter (number : Int32) (abv : Nat → Int32) (kinds : Nat → Int32) (won : Nat → Int64) (p1 : Int32) (p2 : Int32) : (Nat → Int64) :=
  f_X4_enter_L5 9 number abv kinds won p1 p2 (0 : Int64) (0 : Int32)
theorem f_X4_enter_s {number : Int32} {abv : Nat → Int32} {kinds : Nat → Int32} {won : Nat → Int64} {p1 : Int32} {p2 : Int32} : f_X4_enter number abv kinds won p1 p2 =
  (f_X4_enter_L5 9 number abv kinds won p1 p2 (0 : Int64) (0 : Int32)) := rfl
def f_X1_cutsFrom (lcuts : Nat → Int32) (p1 : Int32) (p2 : Int32) : Int32 :=
  (lcuts ((f_X10_place p1 p2)).toNatClampNeg)
theorem f_X1_cutsFrom_s {lcuts : Nat → Int32} {p1 : Int32} {p2 : Int32} : f_X1_cutsFrom lcuts p1 p2 =
  ((lcuts ((f_X10_place p1 p2)).toNatClampNeg)) := rfl
def f_X1_bestCut_L30 : Nat → Int32 → (Nat → Int32) → (Nat → Int32) → (Nat → Int32) → (Nat → Int64) → Int32 → Int32 → Int32 → Int32 → Int32 → Int32 → Int32 → Int32
  | 0, _, _, _, _, _, _, _, _, _, _, _, _ => 0
  | n + 1, number, abv, kinds, lcuts, won, x1, x2, x3, x4, x5, x6, x7 =>
    if number ≤ x7 then
      x5
    else
      if ((x4 >>> (x7 &&& 31)) &&& (1 : Int32)) = 0 then
        f_X1_bestCut_L30 n number abv kinds lcuts won x1 x2 x3 x4 x5 x6 (x7 + (1 : Int32))
      else
        if x3 = 0 then
          if (lcuts ((f_X10_place ((1 : Int32) - x1) (f_X6_leftBy abv x7 x2))).toNatClampNeg) ≤ x6 then
            f_X1_bestCut_L30 n number abv kinds lcuts won x1 x2 x3 x4 x5 x6 (x7 + (1 : Int32))
          else
            f_X1_bestCut_L30 n number abv kinds lcuts won x1 x2 x3 x4 x7 (lcuts ((f_X10_place ((1 : Int32) - x1) (f_X6_leftBy abv x7 x2))).toNatClampNeg) (x7 + (1 : Int32))
        else
          if (f_X4_isWonBy won ((1 : Int32) - x1) (f_X6_leftBy abv x7 x2)) = 0 then
            x7
          else
            if (lcuts ((f_X10_place ((1 : Int32) - x1) (f_X6_leftBy abv x7 x2))).toNatClampNeg) ≤ x6 then
              f_X1_bestCut_L30 n number abv kinds lcuts won x1 x2 x3 x4 x5 x6 (x7 + (1 : Int32))
            else
              f_X1_bestCut_L30 n number abv kinds lcuts won x1 x2 x3 x4 x7 (lcuts ((f_X10_place ((1 : Int32) - x1) (f_X6_leftBy abv x7 x2))).toNatClampNeg) (x7 + (1 : Int32))
theorem f_X1_bestCut_L30_s {n : Nat} {number : Int32} {abv : Nat → Int32} {kinds : Nat → Int32} {lcuts : Nat → Int32} {won : Nat → Int64} {x1 : Int32} {x2 : Int32} {x3 : Int32} {x4 : Int32} {x5 : Int32} {x6 : Int32} {x7 : Int32} : f_X1_bestCut_L30 (n + 1) number abv kinds lcuts won x1 x2 x3 x4 x5 x6 x7 =
    (if number ≤ x7 then
      x5
    else
      if ((x4 >>> (x7 &&& 31)) &&& (1 : Int32)) = 0 then
        f_X1_bestCut_L30 n number abv kinds lcuts won x1 x2 x3 x4 x5 x6 (x7 + (1 : Int32))
      else
        if x3 = 0 then
          if (lcuts ((f_X10_place ((1 : Int32) - x1) (f_X6_leftBy abv x7 x2))).toNatClampNeg) ≤ x6 then
            f_X1_bestCut_L30 n number abv kinds lcuts won x1 x2 x3 x4 x5 x6 (x7 + (1 : Int32))
          else
            f_X1_bestCut_L30 n number abv kinds lcuts won x1 x2 x3 x4 x7 (lcuts ((f_X10_place ((1 : Int32) - x1) (f_X6_leftBy abv x7 x2))).toNatClampNeg) (x7 + (1 : Int32))
        else
          if (f_X4_isWonBy won ((1 : Int32) - x1) (f_X6_leftBy abv x7 x2)) = 0 then
            x7
          else
            if (lcuts ((f_X10_place ((1 : Int32) - x1) (f_X6_leftBy abv x7 x2))).toNatClampNeg) ≤ x6 then
              f_X1_bestCut_L30 n number abv kinds lcuts won x1 x2 x3 x4 x5 x6 (x7 + (1 : Int32))
            else
              f_X1_bestCut_L30 n number abv kinds lcuts won x1 x2 x3 x4 x7 (lcuts ((f_X10_place ((1 : Int32) - x1) (f_X6_leftBy abv x7 x2))).toNatClampNeg) (x7 + (1 : Int32))) := rfl
def f_X1_bestCut (number : Int32) (abv : Nat → Int32) (kinds : Nat → Int32) (lcuts : Nat → Int32) (won : Nat → Int64) (p1 : Int32) (p2 : Int32) : Int32 :=
  f_X1_bestCut_L30 9 number abv kinds lcuts won p1 p2 (f_X4_isWonBy won p1 p2) (f_X6_choices number abv kinds p1 p2) (-1 : Int32) (-1 : Int32) (0 : Int32)
theorem f_X1_bestCut_s {number : Int32} {abv : Nat → Int32} {kinds : Nat → Int32} {lcuts : Nat → Int32} {won : Nat → Int64} {p1 : Int32} {p2 : Int32} : f_X1_bestCut number abv kinds lcuts won p1 p2 =
  (f_X1_bestCut_L30 9 number abv kinds lcuts won p1 p2 (f_X4_isWonBy won p1 p2) (f_X6_choices number abv kinds p1 p2) (-1 : Int32) (-1 : Int32) (0 : Int32)) := rfl
def f_X1_enter_L17 : Nat → Int32 → (Nat → Int32) → (Nat → Int32) → (Nat → Int64) → Int32 → Int32 → Int32 → Int32 → Int32 → Int32 → (Nat → Int32)
  | 0, _, _, lcuts, _, _, _, _, _, _, _ => lcuts
  | n + 1, number, abv, lcuts, won, x1, x2, x3, x4, x5, x6 =>
    if number ≤ x6 then
      (upd lcuts ((f_X10_place x1 x2)).toNatClampNeg x5)
    else
      if ((x3 >>> (x6 &&& 31)) &&& (1 : Int32)) = 0 then
        f_X1_enter_L17 n number abv lcuts won x1 x2 x3 x4 x5 (x6 + (1 : Int32))
      else
        if x4 = 0 then
          f_X1_enter_L17 n number abv lcuts won x1 x2 x3 x4 (if x5 < ((1 : Int32) + (lcuts ((f_X10_place ((1 : Int32) - x1) (f_X6_leftBy abv x6 x2))).toNatClampNeg)) then ((1 : Int32) + (lcuts ((f_X10_place ((1 : Int32) - x1) (f_X6_leftBy abv x6 x2))).toNatClampNeg)) else x5) (x6 + (1 : Int32))
        else
          if (f_X4_isWonBy won ((1 : Int32) - x1) (f_X6_leftBy abv x6 x2)) = 0 then
            if x5 = 0 then
              f_X1_enter_L17 n number abv lcuts won x1 x2 x3 x4 ((1 : Int32) + (lcuts ((f_X10_place ((1 : Int32) - x1) (f_X6_leftBy abv x6 x2))).toNatClampNeg)) (x6 + (1 : Int32))
            else
              f_X1_enter_L17 n number abv lcuts won x1 x2 x3 x4 (if ((1 : Int32) + (lcuts ((f_X10_place ((1 : Int32) - x1) (f_X6_leftBy abv x6 x2))).toNatClampNeg)) < x5 then ((1 : Int32) + (lcuts ((f_X10_place ((1 : Int32) - x1) (f_X6_leftBy abv x6 x2))).toNatClampNeg)) else x5) (x6 + (1 : Int32))
          else
            f_X1_enter_L17 n number abv lcuts won x1 x2 x3 x4 x5 (x6 + (1 : Int32))
theorem f_X1_enter_L17_s {n : Nat} {number : Int32} {abv : Nat → Int32} {lcuts : Nat → Int32} {won : Nat → Int64} {x1 : Int32} {x2 : Int32} {x3 : Int32} {x4 : Int32} {x5 : Int32} {x6 : Int32} : f_X1_enter_L17 (n + 1) number abv lcuts won x1 x2 x3 x4 x5 x6 =
    (if number ≤ x6 then
      (upd lcuts ((f_X10_place x1 x2)).toNatClampNeg x5)
    else
      if ((x3 >>> (x6 &&& 31)) &&& (1 : Int32)) = 0 then
        f_X1_enter_L17 n number abv lcuts won x1 x2 x3 x4 x5 (x6 + (1 : Int32))
      else
        if x4 = 0 then
          f_X1_enter_L17 n number abv lcuts won x1 x2 x3 x4 (if x5 < ((1 : Int32) + (lcuts ((f_X10_place ((1 : Int32) - x1) (f_X6_leftBy abv x6 x2))).toNatClampNeg)) then ((1 : Int32) + (lcuts ((f_X10_place ((1 : Int32) - x1) (f_X6_leftBy abv x6 x2))).toNatClampNeg)) else x5) (x6 + (1 : Int32))
        else
          if (f_X4_isWonBy won ((1 : Int32) - x1) (f_X6_leftBy abv x6 x2)) = 0 then
            if x5 = 0 then
              f_X1_enter_L17 n number abv lcuts won x1 x2 x3 x4 ((1 : Int32) + (lcuts ((f_X10_place ((1 : Int32) - x1) (f_X6_leftBy abv x6 x2))).toNatClampNeg)) (x6 + (1 : Int32))
            else
              f_X1_enter_L17 n number abv lcuts won x1 x2 x3 x4 (if ((1 : Int32) + (lcuts ((f_X10_place ((1 : Int32) - x1) (f_X6_leftBy abv x6 x2))).toNatClampNeg)) < x5 then ((1 : Int32) + (lcuts ((f_X10_place ((1 : Int32) - x1) (f_X6_leftBy abv x6 x2))).toNatClampNeg)) else x5) (x6 + (1 : Int32))
          else
            f_X1_enter_L17 n number abv lcuts won x1 x2 x3 x4 x5 (x6 + (1 : Int32))) := rfl
def f_X1_enter (number : Int32) (abv : Nat → Int32) (lcuts : Nat → Int32) (won : Nat → Int64) (p1 : Int32) (p2 : Int32) (p3 : Int32) : (Nat → Int32) :=
  f_X1_enter_L17 9 number abv lcuts won p1 p2 p3 (f_X4_isWonBy won p1 p2) (0 : Int32) (0 : Int32)
theorem f_X1_enter_s {number : Int32} {abv : Nat → Int32} {lcuts : Nat → Int32} {won : Nat → Int64} {p1 : Int32} {p2 : Int32} {p3 : Int32} : f_X1_enter number abv lcuts won p1 p2 p3 =
  (f_X1_enter_L17 9 number abv lcuts won p1 p2 p3 (f_X4_isWonBy won p1 p2) (0 : Int32) (0 : Int32)) := rfl
def f_X9_valueOf (valu : Nat → Int32) (p1 : Int32) : Int32 :=
  (valu (p1).toNatClampNeg)
theorem f_X9_valueOf_s {valu : Nat → Int32} {p1 : Int32} : f_X9_valueOf valu p1 =
  ((valu (p1).toNatClampNeg)) := rfl
def f_X9_simplestOf_L11 : Nat → Int32 → (Nat → Int32) → (Nat → Int32) → Int32 → Int32 → Int32 → Int32 → Int32 → Int32 → Int32
  | 0, _, _, _, _, _, _, _, _, _ => 0
  | n + 1, number, abv, valu, x1, x2, x3, x4, x5, x6 =>
    if number ≤ x6 then
      if x5 ≤ x4 then
        (-9999 : Int32)
      else
        (f_X9_simplestBetween x4 x5)
    else
      if (((x2 ||| x3) >>> (x6 &&& 31)) &&& (1 : Int32)) = 0 then
        f_X9_simplestOf_L11 n number abv valu x1 x2 x3 x4 x5 (x6 + (1 : Int32))
      else
        if (valu ((f_X6_leftBy abv x6 x1)).toNatClampNeg) = (-9999 : Int32) then
          (-9999 : Int32)
        else
          if ((x2 >>> (x6 &&& 31)) &&& (1 : Int32)) = 0 then
            if ((x3 >>> (x6 &&& 31)) &&& (1 : Int32)) = 0 then
              f_X9_simplestOf_L11 n number abv valu x1 x2 x3 x4 x5 (x6 + (1 : Int32))
            else
              f_X9_simplestOf_L11 n number abv valu x1 x2 x3 x4 (if (valu ((f_X6_leftBy abv x6 x1)).toNatClampNeg) < x5 then (valu ((f_X6_leftBy abv x6 x1)).toNatClampNeg) else x5) (x6 + (1 : Int32))
          else
            if ((x3 >>> (x6 &&& 31)) &&& (1 : Int32)) = 0 then
              f_X9_simplestOf_L11 n number abv valu x1 x2 x3 (if x4 < (valu ((f_X6_leftBy abv x6 x1)).toNatClampNeg) then (valu ((f_X6_leftBy abv x6 x1)).toNatClampNeg) else x4) x5 (x6 + (1 : Int32))
            else
              f_X9_simplestOf_L11 n number abv valu x1 x2 x3 (if x4 < (valu ((f_X6_leftBy abv x6 x1)).toNatClampNeg) then (valu ((f_X6_leftBy abv x6 x1)).toNatClampNeg) else x4) (if (valu ((f_X6_leftBy abv x6 x1)).toNatClampNeg) < x5 then (valu ((f_X6_leftBy abv x6 x1)).toNatClampNeg) else x5) (x6 + (1 : Int32))
theorem f_X9_simplestOf_L11_s {n : Nat} {number : Int32} {abv : Nat → Int32} {valu : Nat → Int32} {x1 : Int32} {x2 : Int32} {x3 : Int32} {x4 : Int32} {x5 : Int32} {x6 : Int32} : f_X9_simplestOf_L11 (n + 1) number abv valu x1 x2 x3 x4 x5 x6 =
    (if number ≤ x6 then
      if x5 ≤ x4 then
        (-9999 : Int32)
      else
        (f_X9_simplestBetween x4 x5)
    else
      if (((x2 ||| x3) >>> (x6 &&& 31)) &&& (1 : Int32)) = 0 then
        f_X9_simplestOf_L11 n number abv valu x1 x2 x3 x4 x5 (x6 + (1 : Int32))
      else
        if (valu ((f_X6_leftBy abv x6 x1)).toNatClampNeg) = (-9999 : Int32) then
          (-9999 : Int32)
        else
          if ((x2 >>> (x6 &&& 31)) &&& (1 : Int32)) = 0 then
            if ((x3 >>> (x6 &&& 31)) &&& (1 : Int32)) = 0 then
              f_X9_simplestOf_L11 n number abv valu x1 x2 x3 x4 x5 (x6 + (1 : Int32))
            else
              f_X9_simplestOf_L11 n number abv valu x1 x2 x3 x4 (if (valu ((f_X6_leftBy abv x6 x1)).toNatClampNeg) < x5 then (valu ((f_X6_leftBy abv x6 x1)).toNatClampNeg) else x5) (x6 + (1 : Int32))
          else
            if ((x3 >>> (x6 &&& 31)) &&& (1 : Int32)) = 0 then
              f_X9_simplestOf_L11 n number abv valu x1 x2 x3 (if x4 < (valu ((f_X6_leftBy abv x6 x1)).toNatClampNeg) then (valu ((f_X6_leftBy abv x6 x1)).toNatClampNeg) else x4) x5 (x6 + (1 : Int32))
            else
              f_X9_simplestOf_L11 n number abv valu x1 x2 x3 (if x4 < (valu ((f_X6_leftBy abv x6 x1)).toNatClampNeg) then (valu ((f_X6_leftBy abv x6 x1)).toNatClampNeg) else x4) (if (valu ((f_X6_leftBy abv x6 x1)).toNatClampNeg) < x5 then (valu ((f_X6_leftBy abv x6 x1)).toNatClampNeg) else x5) (x6 + (1 : Int32))) := rfl
def f_X9_simplestOf (number : Int32) (abv : Nat → Int32) (valu : Nat → Int32) (p1 : Int32) (p2 : Int32) (p3 : Int32) : Int32 :=
  f_X9_simplestOf_L11 9 number abv valu p1 p2 p3 (-1048576 : Int32) (1048576 : Int32) (0 : Int32)
theorem f_X9_simplestOf_s {number : Int32} {abv : Nat → Int32} {valu : Nat → Int32} {p1 : Int32} {p2 : Int32} {p3 : Int32} : f_X9_simplestOf number abv valu p1 p2 p3 =
  (f_X9_simplestOf_L11 9 number abv valu p1 p2 p3 (-1048576 : Int32) (1048576 : Int32) (0 : Int32)) := rfl
def f_X9_enter (number : Int32) (abv : Nat → Int32) (valu : Nat → Int32) (p1 : Int32) (p2 : Int32) (p3 : Int32) : (Nat → Int32) :=
  (upd valu (p1).toNatClampNeg (f_X9_simplestOf number abv valu p1 p2 p3))
theorem f_X9_enter_s {number : Int32} {abv : Nat → Int32} {valu : Nat → Int32} {p1 : Int32} {p2 : Int32} {p3 : Int32} : f_X9_enter number abv valu p1 p2 p3 =
  ((upd valu (p1).toNatClampNeg (f_X9_simplestOf number abv valu p1 p2 p3))) := rfl
def f_X0_millionths (chance : Nat → Int64) (p1 : Int32) (p2 : Int32) : Int32 :=
  (((((chance ((f_X10_place p1 p2)).toNatClampNeg) * (1000000 : Int64)) / (182891520000 : Int64))).toInt32)
theorem f_X0_millionths_s {chance : Nat → Int64} {p1 : Int32} {p2 : Int32} : f_X0_millionths chance p1 p2 =
  ((((((chance ((f_X10_place p1 p2)).toNatClampNeg) * (1000000 : Int64)) / (182891520000 : Int64))).toInt32)) := rfl
def f_X0_enter_L40 : Nat → Int32 → (Nat → Int32) → (Nat → Int64) → Int32 → Int32 → Int32 → Int32 → Int64 → Int32 → (Nat → Int64)
  | 0, _, _, chance, _, _, _, _, _, _ => chance
  | n + 1, number, abv, chance, x1, x2, x3, x4, x5, x7 =>
    if number ≤ x7 then
      (vp_updL chance ((f_X10_place x1 x2)).toNatClampNeg (x5 / ((x4).toInt64)))
    else
      if ((x3 >>> (x7 &&& 31)) &&& (1 : Int32)) = 0 then
        f_X0_enter_L40 n number abv chance x1 x2 x3 x4 x5 (x7 + (1 : Int32))
      else
        f_X0_enter_L40 n number abv chance x1 x2 x3 x4 (x5 + (chance ((f_X10_place ((1 : Int32) - x1) (f_X6_leftBy abv x7 x2))).toNatClampNeg)) (x7 + (1 : Int32))
theorem f_X0_enter_L40_s {n : Nat} {number : Int32} {abv : Nat → Int32} {chance : Nat → Int64} {x1 : Int32} {x2 : Int32} {x3 : Int32} {x4 : Int32} {x5 : Int64} {x7 : Int32} : f_X0_enter_L40 (n + 1) number abv chance x1 x2 x3 x4 x5 x7 =
    (if number ≤ x7 then
      (vp_updL chance ((f_X10_place x1 x2)).toNatClampNeg (x5 / ((x4).toInt64)))
    else
      if ((x3 >>> (x7 &&& 31)) &&& (1 : Int32)) = 0 then
        f_X0_enter_L40 n number abv chance x1 x2 x3 x4 x5 (x7 + (1 : Int32))
      else
        f_X0_enter_L40 n number abv chance x1 x2 x3 x4 (x5 + (chance ((f_X10_place ((1 : Int32) - x1) (f_X6_leftBy abv x7 x2))).toNatClampNeg)) (x7 + (1 : Int32))) := rfl
def f_X0_enter (number : Int32) (abv : Nat → Int32) (chance : Nat → Int64) (p1 : Int32) (p2 : Int32) (p3 : Int32) : (Nat → Int64) :=
  if (f_J6_bitCount_0f7a4 p3) = 0 then
    if p1 = (1 : Int32) then
      (vp_updL chance ((f_X10_place p1 p2)).toNatClampNeg (182891520000 : Int64))
    else
      (vp_updL chance ((f_X10_place p1 p2)).toNatClampNeg (0 : Int64))
  else
    f_X0_enter_L40 9 number abv chance p1 p2 p3 (f_J6_bitCount_0f7a4 p3) (0 : Int64) (0 : Int32)
theorem f_X0_enter_s {number : Int32} {abv : Nat → Int32} {chance : Nat → Int64} {p1 : Int32} {p2 : Int32} {p3 : Int32} : f_X0_enter number abv chance p1 p2 p3 =
  (if (f_J6_bitCount_0f7a4 p3) = 0 then
    if p1 = (1 : Int32) then
      (vp_updL chance ((f_X10_place p1 p2)).toNatClampNeg (182891520000 : Int64))
    else
      (vp_updL chance ((f_X10_place p1 p2)).toNatClampNeg (0 : Int64))
  else
    f_X0_enter_L40 9 number abv chance p1 p2 p3 (f_J6_bitCount_0f7a4 p3) (0 : Int64) (0 : Int32)) := rfl
def f_X2_draw (seed : Int32) (p1 : Int32) : Int32 × Int32 :=
  if p1 ≤ 0 then
    ((0 : Int32), ((((((1103515245 : Int64) * ((seed).toInt64)) + (12345 : Int64)) - (((1103515245 : Int64) * ((seed).toInt64)) + (12345 : Int64)) / (2147483648 : Int64) * (2147483648 : Int64))).toInt32))
  else
    (((((((((1103515245 : Int64) * ((seed).toInt64)) + (12345 : Int64)) - (((1103515245 : Int64) * ((seed).toInt64)) + (12345 : Int64)) / (2147483648 : Int64) * (2147483648 : Int64))).toInt32) / (65536 : Int32)) - (((((((1103515245 : Int64) * ((seed).toInt64)) + (12345 : Int64)) - (((1103515245 : Int64) * ((seed).toInt64)) + (12345 : Int64)) / (2147483648 : Int64) * (2147483648 : Int64))).toInt32) / (65536 : Int32)) / p1 * p1), ((((((1103515245 : Int64) * ((seed).toInt64)) + (12345 : Int64)) - (((1103515245 : Int64) * ((seed).toInt64)) + (12345 : Int64)) / (2147483648 : Int64) * (2147483648 : Int64))).toInt32))
theorem f_X2_draw_s {seed : Int32} {p1 : Int32} : f_X2_draw seed p1 =
  (if p1 ≤ 0 then
    ((0 : Int32), ((((((1103515245 : Int64) * ((seed).toInt64)) + (12345 : Int64)) - (((1103515245 : Int64) * ((seed).toInt64)) + (12345 : Int64)) / (2147483648 : Int64) * (2147483648 : Int64))).toInt32))
  else
    (((((((((1103515245 : Int64) * ((seed).toInt64)) + (12345 : Int64)) - (((1103515245 : Int64) * ((seed).toInt64)) + (12345 : Int64)) / (2147483648 : Int64) * (2147483648 : Int64))).toInt32) / (65536 : Int32)) - (((((((1103515245 : Int64) * ((seed).toInt64)) + (12345 : Int64)) - (((1103515245 : Int64) * ((seed).toInt64)) + (12345 : Int64)) / (2147483648 : Int64) * (2147483648 : Int64))).toInt32) / (65536 : Int32)) / p1 * p1), ((((((1103515245 : Int64) * ((seed).toInt64)) + (12345 : Int64)) - (((1103515245 : Int64) * ((seed).toInt64)) + (12345 : Int64)) / (2147483648 : Int64) * (2147483648 : Int64))).toInt32))) := rfl
def f_X2_drawFrom_L11 : Nat → Int32 → Int32 → Int32 → Int32 → Int32 × Int32
  | 0, seed, _, _, _ => (0, seed)
  | n + 1, seed, x1, x2, x3 =>
    if (8 : Int32) ≤ x3 then
      ((0 : Int32), seed)
    else
      if ((x1 >>> (x3 &&& 31)) &&& (1 : Int32)) = 0 then
        f_X2_drawFrom_L11 n seed x1 x2 (x3 + (1 : Int32))
      else
        if x2 = 0 then
          (x3, seed)
        else
          f_X2_drawFrom_L11 n seed x1 (x2 + (-1 : Int32)) (x3 + (1 : Int32))
theorem f_X2_drawFrom_L11_s {n : Nat} {seed : Int32} {x1 : Int32} {x2 : Int32} {x3 : Int32} : f_X2_drawFrom_L11 (n + 1) seed x1 x2 x3 =
    (if (8 : Int32) ≤ x3 then
      ((0 : Int32), seed)
    else
      if ((x1 >>> (x3 &&& 31)) &&& (1 : Int32)) = 0 then
        f_X2_drawFrom_L11 n seed x1 x2 (x3 + (1 : Int32))
      else
        if x2 = 0 then
          (x3, seed)
        else
          f_X2_drawFrom_L11 n seed x1 (x2 + (-1 : Int32)) (x3 + (1 : Int32))) := rfl
def f_X2_drawFrom (seed : Int32) (p1 : Int32) : Int32 × Int32 :=
  ((fun (z_1 : Int32 × Int32) =>
  f_X2_drawFrom_L11 9 z_1.2 p1 z_1.1 (0 : Int32)) (f_X2_draw seed (f_J6_bitCount_0f7a4 p1)))
theorem f_X2_drawFrom_s {seed : Int32} {p1 : Int32} : f_X2_drawFrom seed p1 =
  (((fun (z_1 : Int32 × Int32) =>
  f_X2_drawFrom_L11 9 z_1.2 p1 z_1.1 (0 : Int32)) (f_X2_draw seed (f_J6_bitCount_0f7a4 p1)))) := rfl
def f_X2_winnerOf_L20 : Nat → Int32 → Int32 → Int32 → (Nat → Int32) → (Nat → Int32) → Int32 → Int32 → Int32 → Int32 → Int32 → Int32 → Int32 × Int32 × Int32
  | 0, _, seed, cutsDone, _, _, _, _, _, _, _, _ => (0, seed, cutsDone)
  | n + 1, number, seed, cutsDone, abv, kinds, x1, x2, x3, x4, x5, x6 =>
    if (8 : Int32) ≤ x6 then
      (((1 : Int32) - x3), seed, cutsDone)
    else
      if x5 = 0 then
        (((1 : Int32) - x3), seed, cutsDone)
      else
        ((fun (z_1 : Int32 × Int32) =>
        f_X2_winnerOf_L20 n number z_1.2 (cutsDone + (1 : Int32)) abv kinds x1 x2 ((1 : Int32) - x3) (f_X6_leftBy abv z_1.1 x4) (f_X6_choices number abv kinds ((1 : Int32) - x3) (f_X6_leftBy abv z_1.1 x4)) (x6 + (1 : Int32))) (f_X2_drawFrom seed x5))
theorem f_X2_winnerOf_L20_s {n : Nat} {number : Int32} {seed : Int32} {cutsDone : Int32} {abv : Nat → Int32} {kinds : Nat → Int32} {x1 : Int32} {x2 : Int32} {x3 : Int32} {x4 : Int32} {x5 : Int32} {x6 : Int32} : f_X2_winnerOf_L20 (n + 1) number seed cutsDone abv kinds x1 x2 x3 x4 x5 x6 =
    (if (8 : Int32) ≤ x6 then
      (((1 : Int32) - x3), seed, cutsDone)
    else
      if x5 = 0 then
        (((1 : Int32) - x3), seed, cutsDone)
      else
        ((fun (z_1 : Int32 × Int32) =>
        f_X2_winnerOf_L20 n number z_1.2 (cutsDone + (1 : Int32)) abv kinds x1 x2 ((1 : Int32) - x3) (f_X6_leftBy abv z_1.1 x4) (f_X6_choices number abv kinds ((1 : Int32) - x3) (f_X6_leftBy abv z_1.1 x4)) (x6 + (1 : Int32))) (f_X2_drawFrom seed x5))) := rfl
def f_X2_winnerOf (number : Int32) (seed : Int32) (cutsDone : Int32) (abv : Nat → Int32) (kinds : Nat → Int32) (p1 : Int32) (p2 : Int32) : Int32 × Int32 × Int32 :=
  f_X2_winnerOf_L20 9 number seed cutsDone abv kinds p1 p2 p1 p2 (f_X6_choices number abv kinds p1 p2) (0 : Int32)
theorem f_X2_winnerOf_s {number : Int32} {seed : Int32} {cutsDone : Int32} {abv : Nat → Int32} {kinds : Nat → Int32} {p1 : Int32} {p2 : Int32} : f_X2_winnerOf number seed cutsDone abv kinds p1 p2 =
  (f_X2_winnerOf_L20 9 number seed cutsDone abv kinds p1 p2 p1 p2 (f_X6_choices number abv kinds p1 p2) (0 : Int32)) := rfl
def f_X2_playAll_L18 : Nat → Int32 → Int32 → Int32 → Int32 → (Nat → Int32) → (Nat → Int32) → Int32 → Int32 → Int32 → Int32 → Int32 × Int32 × Int32
  | 0, _, seed, whiteWon, cutsDone, _, _, _, _, _, _ => (seed, whiteWon, cutsDone)
  | n + 1, number, seed, whiteWon, cutsDone, abv, kinds, x1, x2, x3, x4 =>
    if x1 ≤ x4 then
      (seed, whiteWon, cutsDone)
    else
      ((fun (z_1 : Int32 × Int32 × Int32) =>
      if z_1.1 = 0 then
          f_X2_playAll_L18 n number z_1.2.1 (whiteWon + (1 : Int32)) z_1.2.2 abv kinds x1 x2 x3 (x4 + (1 : Int32))
        else
          f_X2_playAll_L18 n number z_1.2.1 whiteWon z_1.2.2 abv kinds x1 x2 x3 (x4 + (1 : Int32))) (f_X2_winnerOf number seed cutsDone abv kinds (x4 - x4 / (2 : Int32) * (2 : Int32)) x3))
theorem f_X2_playAll_L18_s {n : Nat} {number : Int32} {seed : Int32} {whiteWon : Int32} {cutsDone : Int32} {abv : Nat → Int32} {kinds : Nat → Int32} {x1 : Int32} {x2 : Int32} {x3 : Int32} {x4 : Int32} : f_X2_playAll_L18 (n + 1) number seed whiteWon cutsDone abv kinds x1 x2 x3 x4 =
    (if x1 ≤ x4 then
      (seed, whiteWon, cutsDone)
    else
      ((fun (z_1 : Int32 × Int32 × Int32) =>
      if z_1.1 = 0 then
          f_X2_playAll_L18 n number z_1.2.1 (whiteWon + (1 : Int32)) z_1.2.2 abv kinds x1 x2 x3 (x4 + (1 : Int32))
        else
          f_X2_playAll_L18 n number z_1.2.1 whiteWon z_1.2.2 abv kinds x1 x2 x3 (x4 + (1 : Int32))) (f_X2_winnerOf number seed cutsDone abv kinds (x4 - x4 / (2 : Int32) * (2 : Int32)) x3))) := rfl
def f_X2_playAll (number : Int32) (seed : Int32) (whiteWon : Int32) (cutsDone : Int32) (abv : Nat → Int32) (kinds : Nat → Int32) (p1 : Int32) (p2 : Int32) (p3 : Int32) : Int32 × Int32 × Int32 :=
  f_X2_playAll_L18 41 number p2 (0 : Int32) (0 : Int32) abv kinds p1 p2 p3 (0 : Int32)
theorem f_X2_playAll_s {number : Int32} {seed : Int32} {whiteWon : Int32} {cutsDone : Int32} {abv : Nat → Int32} {kinds : Nat → Int32} {p1 : Int32} {p2 : Int32} {p3 : Int32} : f_X2_playAll number seed whiteWon cutsDone abv kinds p1 p2 p3 =
  (f_X2_playAll_L18 41 number p2 (0 : Int32) (0 : Int32) abv kinds p1 p2 p3 (0 : Int32)) := rfl
def f_X3_beginWith_now_L2 : Nat → Int32 → Int32 → Int32 → Int32 → Int32 → (Nat → Int32) → (Nat → Int32) → Int32 → Int32 → Int32 × Int32 × Int32 × Int32 × (Nat → Int32)
  | 0, _, standing, turn, cuts, ssize, _, kinds, _, _ => (standing, turn, cuts, ssize, kinds)
  | n + 1, plen, standing, turn, cuts, ssize, lett, kinds, x2, x3 =>
    if x2 ≤ x3 then
      ((((1 : Int32) <<< (x2 &&& 31)) - (1 : Int32)), (0 : Int32), (0 : Int32), (0 : Int32), kinds)
    else
      f_X3_beginWith_now_L2 n plen standing turn cuts ssize lett (upd kinds (x3).toNatClampNeg (f_X5_kindAt plen lett x3)) x2 (x3 + (1 : Int32))
theorem f_X3_beginWith_now_L2_s {n : Nat} {plen : Int32} {standing : Int32} {turn : Int32} {cuts : Int32} {ssize : Int32} {lett : Nat → Int32} {kinds : Nat → Int32} {x2 : Int32} {x3 : Int32} : f_X3_beginWith_now_L2 (n + 1) plen standing turn cuts ssize lett kinds x2 x3 =
    (if x2 ≤ x3 then
      ((((1 : Int32) <<< (x2 &&& 31)) - (1 : Int32)), (0 : Int32), (0 : Int32), (0 : Int32), kinds)
    else
      f_X3_beginWith_now_L2 n plen standing turn cuts ssize lett (upd kinds (x3).toNatClampNeg (f_X5_kindAt plen lett x3)) x2 (x3 + (1 : Int32))) := rfl
def f_X3_beginWith_now (plen : Int32) (standing : Int32) (turn : Int32) (cuts : Int32) (ssize : Int32) (lett : Nat → Int32) (kinds : Nat → Int32) (p2 : Int32) : Int32 × Int32 × Int32 × Int32 × (Nat → Int32) :=
  f_X3_beginWith_now_L2 9 plen standing turn cuts ssize lett kinds p2 (0 : Int32)
theorem f_X3_beginWith_now_s {plen : Int32} {standing : Int32} {turn : Int32} {cuts : Int32} {ssize : Int32} {lett : Nat → Int32} {kinds : Nat → Int32} {p2 : Int32} : f_X3_beginWith_now plen standing turn cuts ssize lett kinds p2 =
  (f_X3_beginWith_now_L2 9 plen standing turn cuts ssize lett kinds p2 (0 : Int32)) := rfl
def f_X7_copyFrom_now_L10 : Nat → Int32 → Int32 → (Nat → Int32) → (Nat → Int32) → (Nat → Int32) → (Nat → Int32) → (Nat → Int32) → (Nat → Int32) → Int32 → Int32 × (Nat → Int32) × (Nat → Int32) × (Nat → Int32)
  | 0, ssize, _, sbranches, sbeginners, swon, _, _, _, _ => (ssize, sbranches, sbeginners, swon)
  | n + 1, ssize, kssize, sbranches, sbeginners, swon, ksbranches, ksbeginners, kswon, x2 =>
    if (6 : Int32) ≤ x2 then
      (ssize, sbranches, sbeginners, swon)
    else
      f_X7_copyFrom_now_L10 n ssize kssize (upd sbranches (x2).toNatClampNeg (ksbranches (x2).toNatClampNeg)) (upd sbeginners (x2).toNatClampNeg (ksbeginners (x2).toNatClampNeg)) (upd swon (x2).toNatClampNeg (vp_nar .boolean (kswon (x2).toNatClampNeg))) ksbranches ksbeginners kswon (x2 + (1 : Int32))
theorem f_X7_copyFrom_now_L10_s {n : Nat} {ssize : Int32} {kssize : Int32} {sbranches : Nat → Int32} {sbeginners : Nat → Int32} {swon : Nat → Int32} {ksbranches : Nat → Int32} {ksbeginners : Nat → Int32} {kswon : Nat → Int32} {x2 : Int32} : f_X7_copyFrom_now_L10 (n + 1) ssize kssize sbranches sbeginners swon ksbranches ksbeginners kswon x2 =
    (if (6 : Int32) ≤ x2 then
      (ssize, sbranches, sbeginners, swon)
    else
      f_X7_copyFrom_now_L10 n ssize kssize (upd sbranches (x2).toNatClampNeg (ksbranches (x2).toNatClampNeg)) (upd sbeginners (x2).toNatClampNeg (ksbeginners (x2).toNatClampNeg)) (upd swon (x2).toNatClampNeg (vp_nar .boolean (kswon (x2).toNatClampNeg))) ksbranches ksbeginners kswon (x2 + (1 : Int32))) := rfl
def f_X7_copyFrom_now (ssize : Int32) (kssize : Int32) (sbranches : Nat → Int32) (sbeginners : Nat → Int32) (swon : Nat → Int32) (ksbranches : Nat → Int32) (ksbeginners : Nat → Int32) (kswon : Nat → Int32) : Int32 × (Nat → Int32) × (Nat → Int32) × (Nat → Int32) :=
  f_X7_copyFrom_now_L10 7 kssize kssize sbranches sbeginners swon ksbranches ksbeginners kswon (0 : Int32)
theorem f_X7_copyFrom_now_s {ssize : Int32} {kssize : Int32} {sbranches : Nat → Int32} {sbeginners : Nat → Int32} {swon : Nat → Int32} {ksbranches : Nat → Int32} {ksbeginners : Nat → Int32} {kswon : Nat → Int32} : f_X7_copyFrom_now ssize kssize sbranches sbeginners swon ksbranches ksbeginners kswon =
  (f_X7_copyFrom_now_L10 7 kssize kssize sbranches sbeginners swon ksbranches ksbeginners kswon (0 : Int32)) := rfl
def f_X3_copyFrom_now (standing : Int32) (turn : Int32) (cuts : Int32) (ssize : Int32) (kstanding : Int32) (kturn : Int32) (kcuts : Int32) (kssize : Int32) (kinds : Nat → Int32) (sbranches : Nat → Int32) (sbeginners : Nat → Int32) (swon : Nat → Int32) (kkinds : Nat → Int32) (ksbranches : Nat → Int32) (ksbeginners : Nat → Int32) (kswon : Nat → Int32) : Int32 × Int32 × Int32 × Int32 × (Nat → Int32) × (Nat → Int32) × (Nat → Int32) × (Nat → Int32) :=
  ((fun (z_1 : Int32 × (Nat → Int32) × (Nat → Int32) × (Nat → Int32)) =>
  (kstanding, kturn, kcuts, z_1.1, (va_cpy kkinds kinds ((0 : Int32)).toNatClampNeg ((0 : Int32)).toNatClampNeg ((8 : Int32)).toNatClampNeg), z_1.2.1, z_1.2.2.1, z_1.2.2.2)) (f_X7_copyFrom_now ssize kssize sbranches sbeginners swon ksbranches ksbeginners kswon))
theorem f_X3_copyFrom_now_s {standing : Int32} {turn : Int32} {cuts : Int32} {ssize : Int32} {kstanding : Int32} {kturn : Int32} {kcuts : Int32} {kssize : Int32} {kinds : Nat → Int32} {sbranches : Nat → Int32} {sbeginners : Nat → Int32} {swon : Nat → Int32} {kkinds : Nat → Int32} {ksbranches : Nat → Int32} {ksbeginners : Nat → Int32} {kswon : Nat → Int32} : f_X3_copyFrom_now standing turn cuts ssize kstanding kturn kcuts kssize kinds sbranches sbeginners swon kkinds ksbranches ksbeginners kswon =
  (((fun (z_1 : Int32 × (Nat → Int32) × (Nat → Int32) × (Nat → Int32)) =>
  (kstanding, kturn, kcuts, z_1.1, (va_cpy kkinds kinds ((0 : Int32)).toNatClampNeg ((0 : Int32)).toNatClampNeg ((8 : Int32)).toNatClampNeg), z_1.2.1, z_1.2.2.1, z_1.2.2.2)) (f_X7_copyFrom_now ssize kssize sbranches sbeginners swon ksbranches ksbeginners kswon))) := rfl
def f_X7_copyFrom_kept_L10 : Nat → Int32 → Int32 → (Nat → Int32) → (Nat → Int32) → (Nat → Int32) → (Nat → Int32) → (Nat → Int32) → (Nat → Int32) → Int32 → Int32 × (Nat → Int32) × (Nat → Int32) × (Nat → Int32)
  | 0, _, kssize, _, _, _, ksbranches, ksbeginners, kswon, _ => (kssize, ksbranches, ksbeginners, kswon)
  | n + 1, ssize, kssize, sbranches, sbeginners, swon, ksbranches, ksbeginners, kswon, x2 =>
    if (6 : Int32) ≤ x2 then
      (kssize, ksbranches, ksbeginners, kswon)
    else
      f_X7_copyFrom_kept_L10 n ssize kssize sbranches sbeginners swon (upd ksbranches (x2).toNatClampNeg (sbranches (x2).toNatClampNeg)) (upd ksbeginners (x2).toNatClampNeg (sbeginners (x2).toNatClampNeg)) (upd kswon (x2).toNatClampNeg (vp_nar .boolean (swon (x2).toNatClampNeg))) (x2 + (1 : Int32))
theorem f_X7_copyFrom_kept_L10_s {n : Nat} {ssize : Int32} {kssize : Int32} {sbranches : Nat → Int32} {sbeginners : Nat → Int32} {swon : Nat → Int32} {ksbranches : Nat → Int32} {ksbeginners : Nat → Int32} {kswon : Nat → Int32} {x2 : Int32} : f_X7_copyFrom_kept_L10 (n + 1) ssize kssize sbranches sbeginners swon ksbranches ksbeginners kswon x2 =
    (if (6 : Int32) ≤ x2 then
      (kssize, ksbranches, ksbeginners, kswon)
    else
      f_X7_copyFrom_kept_L10 n ssize kssize sbranches sbeginners swon (upd ksbranches (x2).toNatClampNeg (sbranches (x2).toNatClampNeg)) (upd ksbeginners (x2).toNatClampNeg (sbeginners (x2).toNatClampNeg)) (upd kswon (x2).toNatClampNeg (vp_nar .boolean (swon (x2).toNatClampNeg))) (x2 + (1 : Int32))) := rfl
def f_X7_copyFrom_kept (ssize : Int32) (kssize : Int32) (sbranches : Nat → Int32) (sbeginners : Nat → Int32) (swon : Nat → Int32) (ksbranches : Nat → Int32) (ksbeginners : Nat → Int32) (kswon : Nat → Int32) : Int32 × (Nat → Int32) × (Nat → Int32) × (Nat → Int32) :=
  f_X7_copyFrom_kept_L10 7 ssize ssize sbranches sbeginners swon ksbranches ksbeginners kswon (0 : Int32)
theorem f_X7_copyFrom_kept_s {ssize : Int32} {kssize : Int32} {sbranches : Nat → Int32} {sbeginners : Nat → Int32} {swon : Nat → Int32} {ksbranches : Nat → Int32} {ksbeginners : Nat → Int32} {kswon : Nat → Int32} : f_X7_copyFrom_kept ssize kssize sbranches sbeginners swon ksbranches ksbeginners kswon =
  (f_X7_copyFrom_kept_L10 7 ssize ssize sbranches sbeginners swon ksbranches ksbeginners kswon (0 : Int32)) := rfl
def f_X3_copyFrom_kept (standing : Int32) (turn : Int32) (cuts : Int32) (ssize : Int32) (kstanding : Int32) (kturn : Int32) (kcuts : Int32) (kssize : Int32) (kinds : Nat → Int32) (sbranches : Nat → Int32) (sbeginners : Nat → Int32) (swon : Nat → Int32) (kkinds : Nat → Int32) (ksbranches : Nat → Int32) (ksbeginners : Nat → Int32) (kswon : Nat → Int32) : Int32 × Int32 × Int32 × Int32 × (Nat → Int32) × (Nat → Int32) × (Nat → Int32) × (Nat → Int32) :=
  ((fun (z_1 : Int32 × (Nat → Int32) × (Nat → Int32) × (Nat → Int32)) =>
  (standing, turn, cuts, z_1.1, (va_cpy kinds kkinds ((0 : Int32)).toNatClampNeg ((0 : Int32)).toNatClampNeg ((8 : Int32)).toNatClampNeg), z_1.2.1, z_1.2.2.1, z_1.2.2.2)) (f_X7_copyFrom_kept ssize kssize sbranches sbeginners swon ksbranches ksbeginners kswon))
theorem f_X3_copyFrom_kept_s {standing : Int32} {turn : Int32} {cuts : Int32} {ssize : Int32} {kstanding : Int32} {kturn : Int32} {kcuts : Int32} {kssize : Int32} {kinds : Nat → Int32} {sbranches : Nat → Int32} {sbeginners : Nat → Int32} {swon : Nat → Int32} {kkinds : Nat → Int32} {ksbranches : Nat → Int32} {ksbeginners : Nat → Int32} {kswon : Nat → Int32} : f_X3_copyFrom_kept standing turn cuts ssize kstanding kturn kcuts kssize kinds sbranches sbeginners swon kkinds ksbranches ksbeginners kswon =
  (((fun (z_1 : Int32 × (Nat → Int32) × (Nat → Int32) × (Nat → Int32)) =>
  (standing, turn, cuts, z_1.1, (va_cpy kinds kkinds ((0 : Int32)).toNatClampNeg ((0 : Int32)).toNatClampNeg ((8 : Int32)).toNatClampNeg), z_1.2.1, z_1.2.2.1, z_1.2.2.2)) (f_X7_copyFrom_kept ssize kssize sbranches sbeginners swon ksbranches ksbeginners kswon))) := rfl
def f_X7_add_now (ssize : Int32) (sbranches : Nat → Int32) (sbeginners : Nat → Int32) (swon : Nat → Int32) (p1 : Int32) (p2 : Int32) (p3 : Int32) : Int32 × (Nat → Int32) × (Nat → Int32) × (Nat → Int32) :=
  if (6 : Int32) ≤ ssize then
    (ssize, sbranches, sbeginners, swon)
  else
    ((ssize + (1 : Int32)), (upd sbranches (ssize).toNatClampNeg p1), (upd sbeginners (ssize).toNatClampNeg p2), (upd swon (ssize).toNatClampNeg (vp_nar .boolean p3)))
theorem f_X7_add_now_s {ssize : Int32} {sbranches : Nat → Int32} {sbeginners : Nat → Int32} {swon : Nat → Int32} {p1 : Int32} {p2 : Int32} {p3 : Int32} : f_X7_add_now ssize sbranches sbeginners swon p1 p2 p3 =
  (if (6 : Int32) ≤ ssize then
    (ssize, sbranches, sbeginners, swon)
  else
    ((ssize + (1 : Int32)), (upd sbranches (ssize).toNatClampNeg p1), (upd sbeginners (ssize).toNatClampNeg p2), (upd swon (ssize).toNatClampNeg (vp_nar .boolean p3)))) := rfl
def f_X10_hasNoHedge (number : Int32) : Int32 :=
  if number = 0 then
    (1 : Int32)
  else
    (0 : Int32)
theorem f_X10_hasNoHedge_s {number : Int32} : f_X10_hasNoHedge number =
  (if number = 0 then
    (1 : Int32)
  else
    (0 : Int32)) := rfl
def f_X10_isUnknown (number : Int32) (p1 : Int32) : Int32 :=
  if p1 < 0 then
    (1 : Int32)
  else
    if p1 < number then
      (0 : Int32)
    else
      (1 : Int32)
theorem f_X10_isUnknown_s {number : Int32} {p1 : Int32} : f_X10_isUnknown number p1 =
  (if p1 < 0 then
    (1 : Int32)
  else
    if p1 < number then
      (0 : Int32)
    else
      (1 : Int32)) := rfl
def f_X10_letter (plen : Int32) (lett : Nat → Int32) (p1 : Int32) : Int32 × Int32 × (Nat → Int32) :=
  if p1 < (32 : Int32) then
    ((-102 : Int32), plen, lett)
  else
    if p1 ≤ (126 : Int32) then
      if (f_X5_size plen) < (26 : Int32) then
        ((fun (z_1 : Int32 × (Nat → Int32)) =>
        ((f_X5_size z_1.1), z_1.1, z_1.2)) (f_X5_add plen lett (((p1).toUInt32 % 65536).toInt32)))
      else
        ((-104 : Int32), plen, lett)
    else
      ((-102 : Int32), plen, lett)
theorem f_X10_letter_s {plen : Int32} {lett : Nat → Int32} {p1 : Int32} : f_X10_letter plen lett p1 =
  (if p1 < (32 : Int32) then
    ((-102 : Int32), plen, lett)
  else
    if p1 ≤ (126 : Int32) then
      if (f_X5_size plen) < (26 : Int32) then
        ((fun (z_1 : Int32 × (Nat → Int32)) =>
        ((f_X5_size z_1.1), z_1.1, z_1.2)) (f_X5_add plen lett (((p1).toUInt32 % 65536).toInt32)))
      else
        ((-104 : Int32), plen, lett)
    else
      ((-102 : Int32), plen, lett)) := rfl
def f_X10_blank (plen : Int32) : Int32 × Int32 :=
  ((f_X5_size plen), (f_X5_wipe plen))
theorem f_X10_blank_s {plen : Int32} : f_X10_blank plen =
  (((f_X5_size plen), (f_X5_wipe plen))) := rfl
def f_X10_fault (plen : Int32) (lett : Nat → Int32) : Int32 :=
  (f_X5_firstWrong plen lett)
theorem f_X10_fault_s {plen : Int32} {lett : Nat → Int32} : f_X10_fault plen lett =
  ((f_X5_firstWrong plen lett)) := rfl
def f_X10_hedge (isCharted : Int32) (isKept : Int32) (hedgesRead : Int32) (plen : Int32) (number : Int32) (setCount : Int32) (standing : Int32) (turn : Int32) (cuts : Int32) (ssize : Int32) (lett : Nat → Int32) (onB : Nat → Int32) (abv : Nat → Int32) (sets : Nat → Int32) (kinds : Nat → Int32) : Int32 × Int32 × Int32 × Int32 × Int32 × Int32 × Int32 × Int32 × Int32 × Int32 × Int32 × (Nat → Int32) × (Nat → Int32) × (Nat → Int32) × (Nat → Int32) :=
  if (f_X5_isWhole plen lett) = 0 then
    ((-103 : Int32), isCharted, isKept, hedgesRead, plen, number, setCount, standing, turn, cuts, ssize, onB, abv, sets, kinds)
  else
    ((fun (z_1 : Int32 × Int32 × (Nat → Int32) × (Nat → Int32) × (Nat → Int32)) =>
    ((fun (z_2 : Int32 × Int32 × Int32 × Int32 × (Nat → Int32)) =>
      (z_1.1, (0 : Int32), (0 : Int32), (hedgesRead + (1 : Int32)), (f_X5_wipe plen), z_1.1, z_1.2.1, z_2.1, z_2.2.1, z_2.2.2.1, z_2.2.2.2.1, z_1.2.2.1, z_1.2.2.2.1, z_1.2.2.2.2, z_2.2.2.2.2)) (f_X3_beginWith_now plen standing turn cuts ssize lett kinds z_1.1))) (f_X8_readFrom plen number setCount lett onB abv sets))
theorem f_X10_hedge_s {isCharted : Int32} {isKept : Int32} {hedgesRead : Int32} {plen : Int32} {number : Int32} {setCount : Int32} {standing : Int32} {turn : Int32} {cuts : Int32} {ssize : Int32} {lett : Nat → Int32} {onB : Nat → Int32} {abv : Nat → Int32} {sets : Nat → Int32} {kinds : Nat → Int32} : f_X10_hedge isCharted isKept hedgesRead plen number setCount standing turn cuts ssize lett onB abv sets kinds =
  (if (f_X5_isWhole plen lett) = 0 then
    ((-103 : Int32), isCharted, isKept, hedgesRead, plen, number, setCount, standing, turn, cuts, ssize, onB, abv, sets, kinds)
  else
    ((fun (z_1 : Int32 × Int32 × (Nat → Int32) × (Nat → Int32) × (Nat → Int32)) =>
    ((fun (z_2 : Int32 × Int32 × Int32 × Int32 × (Nat → Int32)) =>
      (z_1.1, (0 : Int32), (0 : Int32), (hedgesRead + (1 : Int32)), (f_X5_wipe plen), z_1.1, z_1.2.1, z_2.1, z_2.2.1, z_2.2.2.1, z_2.2.2.2.1, z_1.2.2.1, z_1.2.2.2.1, z_1.2.2.2.2, z_2.2.2.2.2)) (f_X3_beginWith_now plen standing turn cuts ssize lett kinds z_1.1))) (f_X8_readFrom plen number setCount lett onB abv sets))) := rfl
def f_X10_chart_L10 : Nat → Int32 → Int32 → Int32 → (Nat → Int32) → (Nat → Int32) → (Nat → Int32) → (Nat → Int32) → (Nat → Int32) → (Nat → Int64) → (Nat → Int64) → Int32 → Int32 × (Nat → Int32) × (Nat → Int32) × (Nat → Int64) × (Nat → Int64)
  | 0, isCharted, _, _, _, _, _, lcuts, valu, won, chance, _ => (isCharted, lcuts, valu, won, chance)
  | n + 1, isCharted, number, setCount, abv, sets, kinds, lcuts, valu, won, chance, x1 =>
    if setCount ≤ x1 then
      ((1 : Int32), lcuts, valu, won, chance)
    else
      f_X10_chart_L10 n isCharted number setCount abv sets kinds (f_X1_enter number abv (f_X1_enter number abv lcuts (f_X4_enter number abv kinds (f_X4_enter number abv kinds won (0 : Int32) (sets (x1).toNatClampNeg)) (1 : Int32) (sets (x1).toNatClampNeg)) (0 : Int32) (sets (x1).toNatClampNeg) (f_X6_choices number abv kinds (0 : Int32) (sets (x1).toNatClampNeg))) (f_X4_enter number abv kinds (f_X4_enter number abv kinds won (0 : Int32) (sets (x1).toNatClampNeg)) (1 : Int32) (sets (x1).toNatClampNeg)) (1 : Int32) (sets (x1).toNatClampNeg) (f_X6_choices number abv kinds (1 : Int32) (sets (x1).toNatClampNeg))) (f_X9_enter number abv valu (sets (x1).toNatClampNeg) (f_X6_choices number abv kinds (0 : Int32) (sets (x1).toNatClampNeg)) (f_X6_choices number abv kinds (1 : Int32) (sets (x1).toNatClampNeg))) (f_X4_enter number abv kinds (f_X4_enter number abv kinds won (0 : Int32) (sets (x1).toNatClampNeg)) (1 : Int32) (sets (x1).toNatClampNeg)) (f_X0_enter number abv (f_X0_enter number abv chance (0 : Int32) (sets (x1).toNatClampNeg) (f_X6_choices number abv kinds (0 : Int32) (sets (x1).toNatClampNeg))) (1 : Int32) (sets (x1).toNatClampNeg) (f_X6_choices number abv kinds (1 : Int32) (sets (x1).toNatClampNeg))) (x1 + (1 : Int32))
theorem f_X10_chart_L10_s {n : Nat} {isCharted : Int32} {number : Int32} {setCount : Int32} {abv : Nat → Int32} {sets : Nat → Int32} {kinds : Nat → Int32} {lcuts : Nat → Int32} {valu : Nat → Int32} {won : Nat → Int64} {chance : Nat → Int64} {x1 : Int32} : f_X10_chart_L10 (n + 1) isCharted number setCount abv sets kinds lcuts valu won chance x1 =
    (if setCount ≤ x1 then
      ((1 : Int32), lcuts, valu, won, chance)
    else
      f_X10_chart_L10 n isCharted number setCount abv sets kinds (f_X1_enter number abv (f_X1_enter number abv lcuts (f_X4_enter number abv kinds (f_X4_enter number abv kinds won (0 : Int32) (sets (x1).toNatClampNeg)) (1 : Int32) (sets (x1).toNatClampNeg)) (0 : Int32) (sets (x1).toNatClampNeg) (f_X6_choices number abv kinds (0 : Int32) (sets (x1).toNatClampNeg))) (f_X4_enter number abv kinds (f_X4_enter number abv kinds won (0 : Int32) (sets (x1).toNatClampNeg)) (1 : Int32) (sets (x1).toNatClampNeg)) (1 : Int32) (sets (x1).toNatClampNeg) (f_X6_choices number abv kinds (1 : Int32) (sets (x1).toNatClampNeg))) (f_X9_enter number abv valu (sets (x1).toNatClampNeg) (f_X6_choices number abv kinds (0 : Int32) (sets (x1).toNatClampNeg)) (f_X6_choices number abv kinds (1 : Int32) (sets (x1).toNatClampNeg))) (f_X4_enter number abv kinds (f_X4_enter number abv kinds won (0 : Int32) (sets (x1).toNatClampNeg)) (1 : Int32) (sets (x1).toNatClampNeg)) (f_X0_enter number abv (f_X0_enter number abv chance (0 : Int32) (sets (x1).toNatClampNeg) (f_X6_choices number abv kinds (0 : Int32) (sets (x1).toNatClampNeg))) (1 : Int32) (sets (x1).toNatClampNeg) (f_X6_choices number abv kinds (1 : Int32) (sets (x1).toNatClampNeg))) (x1 + (1 : Int32))) := rfl
def f_X10_chart (isCharted : Int32) (number : Int32) (setCount : Int32) (abv : Nat → Int32) (sets : Nat → Int32) (kinds : Nat → Int32) (lcuts : Nat → Int32) (valu : Nat → Int32) (won : Nat → Int64) (chance : Nat → Int64) : Int32 × (Nat → Int32) × (Nat → Int32) × (Nat → Int64) × (Nat → Int64) :=
  if isCharted = 0 then
    f_X10_chart_L10 257 isCharted number setCount abv sets kinds lcuts valu won chance (0 : Int32)
  else
    (isCharted, lcuts, valu, won, chance)
theorem f_X10_chart_s {isCharted : Int32} {number : Int32} {setCount : Int32} {abv : Nat → Int32} {sets : Nat → Int32} {kinds : Nat → Int32} {lcuts : Nat → Int32} {valu : Nat → Int32} {won : Nat → Int64} {chance : Nat → Int64} : f_X10_chart isCharted number setCount abv sets kinds lcuts valu won chance =
  (if isCharted = 0 then
    f_X10_chart_L10 257 isCharted number setCount abv sets kinds lcuts valu won chance (0 : Int32)
  else
    (isCharted, lcuts, valu, won, chance)) := rfl
def f_X10_sortsOf_L5 : Nat → Int32 → Int32 → (Nat → Int32) → (Nat → Int32) → (Nat → Int32) → (Nat → Int64) → Int32 → Int32 → Int32 → Int32
  | 0, _, _, _, _, _, _, _, _, _ => 0
  | n + 1, standing, ssize, sbranches, sbeginners, swon, won, x1, x2, x3 =>
    if ssize ≤ x3 then
      x2
    else
      if (sbranches (x3).toNatClampNeg) = x1 then
        if (swon (x3).toNatClampNeg) = 0 then
          f_X10_sortsOf_L5 n standing ssize sbranches sbeginners swon won x1 (x2 &&& ((f_X4_winningKinds won (sbeginners (x3).toNatClampNeg) x1 standing) ^^^ (-1 : Int32))) (x3 + (1 : Int32))
        else
          f_X10_sortsOf_L5 n standing ssize sbranches sbeginners swon won x1 (x2 &&& (f_X4_winningKinds won (sbeginners (x3).toNatClampNeg) x1 standing)) (x3 + (1 : Int32))
      else
        f_X10_sortsOf_L5 n standing ssize sbranches sbeginners swon won x1 x2 (x3 + (1 : Int32))
theorem f_X10_sortsOf_L5_s {n : Nat} {standing : Int32} {ssize : Int32} {sbranches : Nat → Int32} {sbeginners : Nat → Int32} {swon : Nat → Int32} {won : Nat → Int64} {x1 : Int32} {x2 : Int32} {x3 : Int32} : f_X10_sortsOf_L5 (n + 1) standing ssize sbranches sbeginners swon won x1 x2 x3 =
    (if ssize ≤ x3 then
      x2
    else
      if (sbranches (x3).toNatClampNeg) = x1 then
        if (swon (x3).toNatClampNeg) = 0 then
          f_X10_sortsOf_L5 n standing ssize sbranches sbeginners swon won x1 (x2 &&& ((f_X4_winningKinds won (sbeginners (x3).toNatClampNeg) x1 standing) ^^^ (-1 : Int32))) (x3 + (1 : Int32))
        else
          f_X10_sortsOf_L5 n standing ssize sbranches sbeginners swon won x1 (x2 &&& (f_X4_winningKinds won (sbeginners (x3).toNatClampNeg) x1 standing)) (x3 + (1 : Int32))
      else
        f_X10_sortsOf_L5 n standing ssize sbranches sbeginners swon won x1 x2 (x3 + (1 : Int32))) := rfl
def f_X10_sortsOf (standing : Int32) (ssize : Int32) (sbranches : Nat → Int32) (sbeginners : Nat → Int32) (swon : Nat → Int32) (won : Nat → Int64) (p1 : Int32) : Int32 :=
  f_X10_sortsOf_L5 7 standing ssize sbranches sbeginners swon won p1 (31 : Int32) (0 : Int32)
theorem f_X10_sortsOf_s {standing : Int32} {ssize : Int32} {sbranches : Nat → Int32} {sbeginners : Nat → Int32} {swon : Nat → Int32} {won : Nat → Int64} {p1 : Int32} : f_X10_sortsOf standing ssize sbranches sbeginners swon won p1 =
  (f_X10_sortsOf_L5 7 standing ssize sbranches sbeginners swon won p1 (31 : Int32) (0 : Int32)) := rfl
def f_X10_whomToLetBegin (standing : Int32) (ssize : Int32) (sbranches : Nat → Int32) (sbeginners : Nat → Int32) (swon : Nat → Int32) (won : Nat → Int64) (p1 : Int32) : Int32 :=
  if (f_X10_sortsOf standing ssize sbranches sbeginners swon won p1) = 0 then
    (-1 : Int32)
  else
    if (f_X10_mostLeft (f_X10_sortsOf standing ssize sbranches sbeginners swon won p1) (f_X4_winningKinds won (0 : Int32) p1 standing)) ≤ (f_X10_mostLeft (f_X10_sortsOf standing ssize sbranches sbeginners swon won p1) (f_X4_winningKinds won (1 : Int32) p1 standing)) then
      (0 : Int32)
    else
      (1 : Int32)
theorem f_X10_whomToLetBegin_s {standing : Int32} {ssize : Int32} {sbranches : Nat → Int32} {sbeginners : Nat → Int32} {swon : Nat → Int32} {won : Nat → Int64} {p1 : Int32} : f_X10_whomToLetBegin standing ssize sbranches sbeginners swon won p1 =
  (if (f_X10_sortsOf standing ssize sbranches sbeginners swon won p1) = 0 then
    (-1 : Int32)
  else
    if (f_X10_mostLeft (f_X10_sortsOf standing ssize sbranches sbeginners swon won p1) (f_X4_winningKinds won (0 : Int32) p1 standing)) ≤ (f_X10_mostLeft (f_X10_sortsOf standing ssize sbranches sbeginners swon won p1) (f_X4_winningKinds won (1 : Int32) p1 standing)) then
      (0 : Int32)
    else
      (1 : Int32)) := rfl
def f_X10_evenBy_L73 (k : (Int32) → Int32) : Nat → Int32 → Int32 → (Nat → Int64) → Int32 → Int32 → Int32 → Int32 → Int32
  | 0, _, _, _, _, _, _, _ => 0
  | n + 1, number, standing, won, x1, x2, x3, x4 =>
    if (5 : Int32) ≤ x4 then
      k x4
    else
      if ((x3 >>> (x4 &&& 31)) &&& (1 : Int32)) = 0 then
        (((10 : Int32) * x2) + x4)
      else
        f_X10_evenBy_L73 k n number standing won x1 x2 x3 (x4 + (1 : Int32))
theorem f_X10_evenBy_L73_s {k : (Int32) → Int32} {n : Nat} {number : Int32} {standing : Int32} {won : Nat → Int64} {x1 : Int32} {x2 : Int32} {x3 : Int32} {x4 : Int32} : f_X10_evenBy_L73 k (n + 1) number standing won x1 x2 x3 x4 =
    (if (5 : Int32) ≤ x4 then
      k x4
    else
      if ((x3 >>> (x4 &&& 31)) &&& (1 : Int32)) = 0 then
        (((10 : Int32) * x2) + x4)
      else
        f_X10_evenBy_L73 k n number standing won x1 x2 x3 (x4 + (1 : Int32))) := rfl
def f_X10_evenBy_L37 : Nat → Int32 → Int32 → (Nat → Int64) → Int32 → Int32 → Int32
  | 0, _, _, _, _, _ => 0
  | n + 1, number, standing, won, x1, x2 =>
    if number ≤ x2 then
      (-1 : Int32)
    else
      f_X10_evenBy_L73 (fun (x4_1 : Int32) => f_X10_evenBy_L37 n number standing won x1 (x2 + (1 : Int32))) 6 number standing won x1 x2 ((f_X4_winningKinds won (0 : Int32) x2 x1) ||| (f_X4_winningKinds won (1 : Int32) x2 x1)) (0 : Int32)
theorem f_X10_evenBy_L37_s {n : Nat} {number : Int32} {standing : Int32} {won : Nat → Int64} {x1 : Int32} {x2 : Int32} : f_X10_evenBy_L37 (n + 1) number standing won x1 x2 =
    (if number ≤ x2 then
      (-1 : Int32)
    else
      f_X10_evenBy_L73 (fun (x4_1 : Int32) => f_X10_evenBy_L37 n number standing won x1 (x2 + (1 : Int32))) 6 number standing won x1 x2 ((f_X4_winningKinds won (0 : Int32) x2 x1) ||| (f_X4_winningKinds won (1 : Int32) x2 x1)) (0 : Int32)) := rfl
def f_X10_evenBy (number : Int32) (standing : Int32) (won : Nat → Int64) : Int32 :=
  if (f_X4_isWonBy won (0 : Int32) standing) = 0 then
    if (f_X4_isWonBy won (1 : Int32) standing) = 0 then
      (-2 : Int32)
    else
      f_X10_evenBy_L37 9 number standing won standing (0 : Int32)
  else
    f_X10_evenBy_L37 9 number standing won standing (0 : Int32)
theorem f_X10_evenBy_s {number : Int32} {standing : Int32} {won : Nat → Int64} : f_X10_evenBy number standing won =
  (if (f_X4_isWonBy won (0 : Int32) standing) = 0 then
    if (f_X4_isWonBy won (1 : Int32) standing) = 0 then
      (-2 : Int32)
    else
      f_X10_evenBy_L37 9 number standing won standing (0 : Int32)
  else
    f_X10_evenBy_L37 9 number standing won standing (0 : Int32)) := rfl
def f_X10_branch (isCharted : Int32) (number : Int32) (setCount : Int32) (standing : Int32) (ssize : Int32) (onB : Nat → Int32) (abv : Nat → Int32) (sets : Nat → Int32) (kinds : Nat → Int32) (sbranches : Nat → Int32) (sbeginners : Nat → Int32) (swon : Nat → Int32) (lcuts : Nat → Int32) (valu : Nat → Int32) (won : Nat → Int64) (chance : Nat → Int64) (p1 : Int32) (p2 : Int32) : Int32 × Int32 × (Nat → Int32) × (Nat → Int32) × (Nat → Int64) × (Nat → Int64) :=
  if (f_X10_isUnknown number p1) = 0 then
    if p2 = (0 : Int32) then
      ((kinds (p1).toNatClampNeg), isCharted, lcuts, valu, won, chance)
    else
      if p2 = (1 : Int32) then
        ((onB (p1).toNatClampNeg), isCharted, lcuts, valu, won, chance)
      else
        if p2 = (2 : Int32) then
          (((standing >>> (p1 &&& 31)) &&& (1 : Int32)), isCharted, lcuts, valu, won, chance)
        else
          if p2 = (3 : Int32) then
            ((((f_X6_choices number abv kinds (0 : Int32) standing) >>> (p1 &&& 31)) &&& (1 : Int32)), isCharted, lcuts, valu, won, chance)
          else
            if p2 = (4 : Int32) then
              ((((f_X6_choices number abv kinds (1 : Int32) standing) >>> (p1 &&& 31)) &&& (1 : Int32)), isCharted, lcuts, valu, won, chance)
            else
              if p2 = (5 : Int32) then
                ((abv (p1).toNatClampNeg), isCharted, lcuts, valu, won, chance)
              else
                if p2 = (6 : Int32) then
                  ((fun (z_1 : Int32 × (Nat → Int32) × (Nat → Int32) × (Nat → Int64) × (Nat → Int64)) =>
                  ((f_X10_sortsOf standing ssize sbranches sbeginners swon z_1.2.2.2.1 p1), z_1.1, z_1.2.1, z_1.2.2.1, z_1.2.2.2.1, z_1.2.2.2.2)) (f_X10_chart isCharted number setCount abv sets kinds lcuts valu won chance))
                else
                  if p2 = (7 : Int32) then
                    ((fun (z_2 : Int32 × (Nat → Int32) × (Nat → Int32) × (Nat → Int64) × (Nat → Int64)) =>
                    ((f_X10_whomToLetBegin standing ssize sbranches sbeginners swon z_2.2.2.2.1 p1), z_2.1, z_2.2.1, z_2.2.2.1, z_2.2.2.2.1, z_2.2.2.2.2)) (f_X10_chart isCharted number setCount abv sets kinds lcuts valu won chance))
                  else
                    ((-102 : Int32), isCharted, lcuts, valu, won, chance)
  else
    ((-101 : Int32), isCharted, lcuts, valu, won, chance)
theorem f_X10_branch_s {isCharted : Int32} {number : Int32} {setCount : Int32} {standing : Int32} {ssize : Int32} {onB : Nat → Int32} {abv : Nat → Int32} {sets : Nat → Int32} {kinds : Nat → Int32} {sbranches : Nat → Int32} {sbeginners : Nat → Int32} {swon : Nat → Int32} {lcuts : Nat → Int32} {valu : Nat → Int32} {won : Nat → Int64} {chance : Nat → Int64} {p1 : Int32} {p2 : Int32} : f_X10_branch isCharted number setCount standing ssize onB abv sets kinds sbranches sbeginners swon lcuts valu won chance p1 p2 =
  (if (f_X10_isUnknown number p1) = 0 then
    if p2 = (0 : Int32) then
      ((kinds (p1).toNatClampNeg), isCharted, lcuts, valu, won, chance)
    else
      if p2 = (1 : Int32) then
        ((onB (p1).toNatClampNeg), isCharted, lcuts, valu, won, chance)
      else
        if p2 = (2 : Int32) then
          (((standing >>> (p1 &&& 31)) &&& (1 : Int32)), isCharted, lcuts, valu, won, chance)
        else
          if p2 = (3 : Int32) then
            ((((f_X6_choices number abv kinds (0 : Int32) standing) >>> (p1 &&& 31)) &&& (1 : Int32)), isCharted, lcuts, valu, won, chance)
          else
            if p2 = (4 : Int32) then
              ((((f_X6_choices number abv kinds (1 : Int32) standing) >>> (p1 &&& 31)) &&& (1 : Int32)), isCharted, lcuts, valu, won, chance)
            else
              if p2 = (5 : Int32) then
                ((abv (p1).toNatClampNeg), isCharted, lcuts, valu, won, chance)
              else
                if p2 = (6 : Int32) then
                  ((fun (z_1 : Int32 × (Nat → Int32) × (Nat → Int32) × (Nat → Int64) × (Nat → Int64)) =>
                  ((f_X10_sortsOf standing ssize sbranches sbeginners swon z_1.2.2.2.1 p1), z_1.1, z_1.2.1, z_1.2.2.1, z_1.2.2.2.1, z_1.2.2.2.2)) (f_X10_chart isCharted number setCount abv sets kinds lcuts valu won chance))
                else
                  if p2 = (7 : Int32) then
                    ((fun (z_2 : Int32 × (Nat → Int32) × (Nat → Int32) × (Nat → Int64) × (Nat → Int64)) =>
                    ((f_X10_whomToLetBegin standing ssize sbranches sbeginners swon z_2.2.2.2.1 p1), z_2.1, z_2.2.1, z_2.2.2.1, z_2.2.2.2.1, z_2.2.2.2.2)) (f_X10_chart isCharted number setCount abv sets kinds lcuts valu won chance))
                  else
                    ((-102 : Int32), isCharted, lcuts, valu, won, chance)
  else
    ((-101 : Int32), isCharted, lcuts, valu, won, chance)) := rfl
def f_X10_as (number : Int32) (kinds : Nat → Int32) (p1 : Int32) (p2 : Int32) : Int32 :=
  if (f_X10_isUnknown number p1) = 0 then
    if p2 < 0 then
      (-102 : Int32)
    else
      if p2 < (5 : Int32) then
        if (((([31, 18, 4, 8, 16] : List Int32).getD (p2).toNatClampNeg 0) >>> ((kinds (p1).toNatClampNeg) &&& 31)) &&& (1 : Int32)) = 0 then
          (-1 : Int32)
        else
          p1
      else
        (-102 : Int32)
  else
    (-101 : Int32)
theorem f_X10_as_s {number : Int32} {kinds : Nat → Int32} {p1 : Int32} {p2 : Int32} : f_X10_as number kinds p1 p2 =
  (if (f_X10_isUnknown number p1) = 0 then
    if p2 < 0 then
      (-102 : Int32)
    else
      if p2 < (5 : Int32) then
        if (((([31, 18, 4, 8, 16] : List Int32).getD (p2).toNatClampNeg 0) >>> ((kinds (p1).toNatClampNeg) &&& 31)) &&& (1 : Int32)) = 0 then
          (-1 : Int32)
        else
          p1
      else
        (-102 : Int32)
  else
    (-101 : Int32)) := rfl
def f_X10_cut (number : Int32) (standing : Int32) (turn : Int32) (cuts : Int32) (abv : Nat → Int32) (kinds : Nat → Int32) (p1 : Int32) : Int32 × Int32 × Int32 × Int32 :=
  if (f_X10_isUnknown number p1) = 0 then
    if (((f_X6_choices number abv kinds turn standing) >>> (p1 &&& 31)) &&& (1 : Int32)) = 0 then
      ((-103 : Int32), standing, turn, cuts)
    else
      if cuts < (999 : Int32) then
        (((f_J6_bitCount_0f7a4 standing) - (f_J6_bitCount_0f7a4 (f_X6_leftBy abv p1 standing))), (f_X6_leftBy abv p1 standing), ((1 : Int32) - turn), (cuts + (1 : Int32)))
      else
        ((-104 : Int32), standing, turn, cuts)
  else
    ((-101 : Int32), standing, turn, cuts)
theorem f_X10_cut_s {number : Int32} {standing : Int32} {turn : Int32} {cuts : Int32} {abv : Nat → Int32} {kinds : Nat → Int32} {p1 : Int32} : f_X10_cut number standing turn cuts abv kinds p1 =
  (if (f_X10_isUnknown number p1) = 0 then
    if (((f_X6_choices number abv kinds turn standing) >>> (p1 &&& 31)) &&& (1 : Int32)) = 0 then
      ((-103 : Int32), standing, turn, cuts)
    else
      if cuts < (999 : Int32) then
        (((f_J6_bitCount_0f7a4 standing) - (f_J6_bitCount_0f7a4 (f_X6_leftBy abv p1 standing))), (f_X6_leftBy abv p1 standing), ((1 : Int32) - turn), (cuts + (1 : Int32)))
      else
        ((-104 : Int32), standing, turn, cuts)
  else
    ((-101 : Int32), standing, turn, cuts)) := rfl
def f_X10_grow (number : Int32) (standing : Int32) (onB : Nat → Int32) (p1 : Int32) : Int32 × Int32 :=
  if (f_X10_isUnknown number p1) = 0 then
    if ((standing >>> (p1 &&& 31)) &&& (1 : Int32)) = 0 then
      if (f_X8_hasFooting onB p1 standing) = 0 then
        ((-103 : Int32), standing)
      else
        ((f_J6_bitCount_0f7a4 (standing ||| ((1 : Int32) <<< (p1 &&& 31)))), (standing ||| ((1 : Int32) <<< (p1 &&& 31))))
    else
      ((-103 : Int32), standing)
  else
    ((-101 : Int32), standing)
theorem f_X10_grow_s {number : Int32} {standing : Int32} {onB : Nat → Int32} {p1 : Int32} : f_X10_grow number standing onB p1 =
  (if (f_X10_isUnknown number p1) = 0 then
    if ((standing >>> (p1 &&& 31)) &&& (1 : Int32)) = 0 then
      if (f_X8_hasFooting onB p1 standing) = 0 then
        ((-103 : Int32), standing)
      else
        ((f_J6_bitCount_0f7a4 (standing ||| ((1 : Int32) <<< (p1 &&& 31)))), (standing ||| ((1 : Int32) <<< (p1 &&& 31))))
    else
      ((-103 : Int32), standing)
  else
    ((-101 : Int32), standing)) := rfl
def f_X10_pass (number : Int32) (turn : Int32) : Int32 × Int32 :=
  if (f_X10_hasNoHedge number) = 0 then
    (turn, ((1 : Int32) - turn))
  else
    ((-103 : Int32), turn)
theorem f_X10_pass_s {number : Int32} {turn : Int32} : f_X10_pass number turn =
  (if (f_X10_hasNoHedge number) = 0 then
    (turn, ((1 : Int32) - turn))
  else
    ((-103 : Int32), turn)) := rfl
def f_X10_graft (isCharted : Int32) (number : Int32) (kinds : Nat → Int32) (p1 : Int32) (p2 : Int32) : Int32 × Int32 × (Nat → Int32) :=
  if (f_X10_isUnknown number p1) = 0 then
    if p2 < 0 then
      ((-102 : Int32), isCharted, kinds)
    else
      if p2 < (5 : Int32) then
        ((kinds (p1).toNatClampNeg), (0 : Int32), (upd kinds (p1).toNatClampNeg p2))
      else
        ((-102 : Int32), isCharted, kinds)
  else
    ((-101 : Int32), isCharted, kinds)
theorem f_X10_graft_s {isCharted : Int32} {number : Int32} {kinds : Nat → Int32} {p1 : Int32} {p2 : Int32} : f_X10_graft isCharted number kinds p1 p2 =
  (if (f_X10_isUnknown number p1) = 0 then
    if p2 < 0 then
      ((-102 : Int32), isCharted, kinds)
    else
      if p2 < (5 : Int32) then
        ((kinds (p1).toNatClampNeg), (0 : Int32), (upd kinds (p1).toNatClampNeg p2))
      else
        ((-102 : Int32), isCharted, kinds)
  else
    ((-101 : Int32), isCharted, kinds)) := rfl
def f_X10_wins (isCharted : Int32) (number : Int32) (setCount : Int32) (standing : Int32) (abv : Nat → Int32) (sets : Nat → Int32) (kinds : Nat → Int32) (lcuts : Nat → Int32) (valu : Nat → Int32) (won : Nat → Int64) (chance : Nat → Int64) (p1 : Int32) : Int32 × Int32 × (Nat → Int32) × (Nat → Int32) × (Nat → Int64) × (Nat → Int64) :=
  if (f_X10_isNoSide p1) = 0 then
    if (f_X10_hasNoHedge number) = 0 then
      ((fun (z_1 : Int32 × (Nat → Int32) × (Nat → Int32) × (Nat → Int64) × (Nat → Int64)) =>
      if (f_X4_isWonBy z_1.2.2.2.1 p1 standing) = 0 then
          (((1 : Int32) - p1), z_1.1, z_1.2.1, z_1.2.2.1, z_1.2.2.2.1, z_1.2.2.2.2)
        else
          (p1, z_1.1, z_1.2.1, z_1.2.2.1, z_1.2.2.2.1, z_1.2.2.2.2)) (f_X10_chart isCharted number setCount abv sets kinds lcuts valu won chance))
    else
      ((-103 : Int32), isCharted, lcuts, valu, won, chance)
  else
    ((-102 : Int32), isCharted, lcuts, valu, won, chance)
theorem f_X10_wins_s {isCharted : Int32} {number : Int32} {setCount : Int32} {standing : Int32} {abv : Nat → Int32} {sets : Nat → Int32} {kinds : Nat → Int32} {lcuts : Nat → Int32} {valu : Nat → Int32} {won : Nat → Int64} {chance : Nat → Int64} {p1 : Int32} : f_X10_wins isCharted number setCount standing abv sets kinds lcuts valu won chance p1 =
  (if (f_X10_isNoSide p1) = 0 then
    if (f_X10_hasNoHedge number) = 0 then
      ((fun (z_1 : Int32 × (Nat → Int32) × (Nat → Int32) × (Nat → Int64) × (Nat → Int64)) =>
      if (f_X4_isWonBy z_1.2.2.2.1 p1 standing) = 0 then
          (((1 : Int32) - p1), z_1.1, z_1.2.1, z_1.2.2.1, z_1.2.2.2.1, z_1.2.2.2.2)
        else
          (p1, z_1.1, z_1.2.1, z_1.2.2.1, z_1.2.2.2.1, z_1.2.2.2.2)) (f_X10_chart isCharted number setCount abv sets kinds lcuts valu won chance))
    else
      ((-103 : Int32), isCharted, lcuts, valu, won, chance)
  else
    ((-102 : Int32), isCharted, lcuts, valu, won, chance)) := rfl
def f_X10_best (isCharted : Int32) (number : Int32) (setCount : Int32) (standing : Int32) (abv : Nat → Int32) (sets : Nat → Int32) (kinds : Nat → Int32) (lcuts : Nat → Int32) (valu : Nat → Int32) (won : Nat → Int64) (chance : Nat → Int64) (p1 : Int32) : Int32 × Int32 × (Nat → Int32) × (Nat → Int32) × (Nat → Int64) × (Nat → Int64) :=
  if (f_X10_isNoSide p1) = 0 then
    if (f_X10_hasNoHedge number) = 0 then
      ((fun (z_1 : Int32 × (Nat → Int32) × (Nat → Int32) × (Nat → Int64) × (Nat → Int64)) =>
      ((f_X1_bestCut number abv kinds z_1.2.1 z_1.2.2.2.1 p1 standing), z_1.1, z_1.2.1, z_1.2.2.1, z_1.2.2.2.1, z_1.2.2.2.2)) (f_X10_chart isCharted number setCount abv sets kinds lcuts valu won chance))
    else
      ((-103 : Int32), isCharted, lcuts, valu, won, chance)
  else
    ((-102 : Int32), isCharted, lcuts, valu, won, chance)
theorem f_X10_best_s {isCharted : Int32} {number : Int32} {setCount : Int32} {standing : Int32} {abv : Nat → Int32} {sets : Nat → Int32} {kinds : Nat → Int32} {lcuts : Nat → Int32} {valu : Nat → Int32} {won : Nat → Int64} {chance : Nat → Int64} {p1 : Int32} : f_X10_best isCharted number setCount standing abv sets kinds lcuts valu won chance p1 =
  (if (f_X10_isNoSide p1) = 0 then
    if (f_X10_hasNoHedge number) = 0 then
      ((fun (z_1 : Int32 × (Nat → Int32) × (Nat → Int32) × (Nat → Int64) × (Nat → Int64)) =>
      ((f_X1_bestCut number abv kinds z_1.2.1 z_1.2.2.2.1 p1 standing), z_1.1, z_1.2.1, z_1.2.2.1, z_1.2.2.2.1, z_1.2.2.2.2)) (f_X10_chart isCharted number setCount abv sets kinds lcuts valu won chance))
    else
      ((-103 : Int32), isCharted, lcuts, valu, won, chance)
  else
    ((-102 : Int32), isCharted, lcuts, valu, won, chance)) := rfl
def f_X10_lasts (isCharted : Int32) (number : Int32) (setCount : Int32) (standing : Int32) (abv : Nat → Int32) (sets : Nat → Int32) (kinds : Nat → Int32) (lcuts : Nat → Int32) (valu : Nat → Int32) (won : Nat → Int64) (chance : Nat → Int64) (p1 : Int32) : Int32 × Int32 × (Nat → Int32) × (Nat → Int32) × (Nat → Int64) × (Nat → Int64) :=
  if (f_X10_isNoSide p1) = 0 then
    if (f_X10_hasNoHedge number) = 0 then
      ((fun (z_1 : Int32 × (Nat → Int32) × (Nat → Int32) × (Nat → Int64) × (Nat → Int64)) =>
      ((f_X1_cutsFrom z_1.2.1 p1 standing), z_1.1, z_1.2.1, z_1.2.2.1, z_1.2.2.2.1, z_1.2.2.2.2)) (f_X10_chart isCharted number setCount abv sets kinds lcuts valu won chance))
    else
      ((-103 : Int32), isCharted, lcuts, valu, won, chance)
  else
    ((-102 : Int32), isCharted, lcuts, valu, won, chance)
theorem f_X10_lasts_s {isCharted : Int32} {number : Int32} {setCount : Int32} {standing : Int32} {abv : Nat → Int32} {sets : Nat → Int32} {kinds : Nat → Int32} {lcuts : Nat → Int32} {valu : Nat → Int32} {won : Nat → Int64} {chance : Nat → Int64} {p1 : Int32} : f_X10_lasts isCharted number setCount standing abv sets kinds lcuts valu won chance p1 =
  (if (f_X10_isNoSide p1) = 0 then
    if (f_X10_hasNoHedge number) = 0 then
      ((fun (z_1 : Int32 × (Nat → Int32) × (Nat → Int32) × (Nat → Int64) × (Nat → Int64)) =>
      ((f_X1_cutsFrom z_1.2.1 p1 standing), z_1.1, z_1.2.1, z_1.2.2.1, z_1.2.2.2.1, z_1.2.2.2.2)) (f_X10_chart isCharted number setCount abv sets kinds lcuts valu won chance))
    else
      ((-103 : Int32), isCharted, lcuts, valu, won, chance)
  else
    ((-102 : Int32), isCharted, lcuts, valu, won, chance)) := rfl
def f_X10_worth (isCharted : Int32) (number : Int32) (setCount : Int32) (standing : Int32) (abv : Nat → Int32) (sets : Nat → Int32) (kinds : Nat → Int32) (lcuts : Nat → Int32) (valu : Nat → Int32) (won : Nat → Int64) (chance : Nat → Int64) : Int32 × Int32 × (Nat → Int32) × (Nat → Int32) × (Nat → Int64) × (Nat → Int64) :=
  if (f_X10_hasNoHedge number) = 0 then
    ((fun (z_1 : Int32 × (Nat → Int32) × (Nat → Int32) × (Nat → Int64) × (Nat → Int64)) =>
    ((f_X9_valueOf z_1.2.2.1 standing), z_1.1, z_1.2.1, z_1.2.2.1, z_1.2.2.2.1, z_1.2.2.2.2)) (f_X10_chart isCharted number setCount abv sets kinds lcuts valu won chance))
  else
    ((-103 : Int32), isCharted, lcuts, valu, won, chance)
theorem f_X10_worth_s {isCharted : Int32} {number : Int32} {setCount : Int32} {standing : Int32} {abv : Nat → Int32} {sets : Nat → Int32} {kinds : Nat → Int32} {lcuts : Nat → Int32} {valu : Nat → Int32} {won : Nat → Int64} {chance : Nat → Int64} : f_X10_worth isCharted number setCount standing abv sets kinds lcuts valu won chance =
  (if (f_X10_hasNoHedge number) = 0 then
    ((fun (z_1 : Int32 × (Nat → Int32) × (Nat → Int32) × (Nat → Int64) × (Nat → Int64)) =>
    ((f_X9_valueOf z_1.2.2.1 standing), z_1.1, z_1.2.1, z_1.2.2.1, z_1.2.2.2.1, z_1.2.2.2.2)) (f_X10_chart isCharted number setCount abv sets kinds lcuts valu won chance))
  else
    ((-103 : Int32), isCharted, lcuts, valu, won, chance)) := rfl
def f_X10_tree (isCharted : Int32) (number : Int32) (setCount : Int32) (standing : Int32) (onB : Nat → Int32) (abv : Nat → Int32) (sets : Nat → Int32) (kinds : Nat → Int32) (lcuts : Nat → Int32) (valu : Nat → Int32) (won : Nat → Int64) (chance : Nat → Int64) (p1 : Int32) : Int32 × Int32 × (Nat → Int32) × (Nat → Int32) × (Nat → Int64) × (Nat → Int64) :=
  if (f_X10_isUnknown number p1) = 0 then
    if (onB (p1).toNatClampNeg) = (-1 : Int32) then
      ((fun (z_1 : Int32 × (Nat → Int32) × (Nat → Int32) × (Nat → Int64) × (Nat → Int64)) =>
      ((f_X9_valueOf z_1.2.2.1 (standing &&& (f_X8_withAllOn abv p1))), z_1.1, z_1.2.1, z_1.2.2.1, z_1.2.2.2.1, z_1.2.2.2.2)) (f_X10_chart isCharted number setCount abv sets kinds lcuts valu won chance))
    else
      ((-103 : Int32), isCharted, lcuts, valu, won, chance)
  else
    ((-101 : Int32), isCharted, lcuts, valu, won, chance)
theorem f_X10_tree_s {isCharted : Int32} {number : Int32} {setCount : Int32} {standing : Int32} {onB : Nat → Int32} {abv : Nat → Int32} {sets : Nat → Int32} {kinds : Nat → Int32} {lcuts : Nat → Int32} {valu : Nat → Int32} {won : Nat → Int64} {chance : Nat → Int64} {p1 : Int32} : f_X10_tree isCharted number setCount standing onB abv sets kinds lcuts valu won chance p1 =
  (if (f_X10_isUnknown number p1) = 0 then
    if (onB (p1).toNatClampNeg) = (-1 : Int32) then
      ((fun (z_1 : Int32 × (Nat → Int32) × (Nat → Int32) × (Nat → Int64) × (Nat → Int64)) =>
      ((f_X9_valueOf z_1.2.2.1 (standing &&& (f_X8_withAllOn abv p1))), z_1.1, z_1.2.1, z_1.2.2.1, z_1.2.2.2.1, z_1.2.2.2.2)) (f_X10_chart isCharted number setCount abv sets kinds lcuts valu won chance))
    else
      ((-103 : Int32), isCharted, lcuts, valu, won, chance)
  else
    ((-101 : Int32), isCharted, lcuts, valu, won, chance)) := rfl
def f_X10_even (isCharted : Int32) (evensDone : Int32) (number : Int32) (setCount : Int32) (standing : Int32) (abv : Nat → Int32) (sets : Nat → Int32) (kinds : Nat → Int32) (lcuts : Nat → Int32) (valu : Nat → Int32) (won : Nat → Int64) (chance : Nat → Int64) : Int32 × Int32 × Int32 × (Nat → Int32) × (Nat → Int32) × (Nat → Int64) × (Nat → Int64) :=
  if (f_X10_hasNoHedge number) = 0 then
    if evensDone < (30 : Int32) then
      ((fun (z_1 : Int32 × (Nat → Int32) × (Nat → Int32) × (Nat → Int64) × (Nat → Int64)) =>
      ((f_X10_evenBy number standing z_1.2.2.2.1), z_1.1, (evensDone + (1 : Int32)), z_1.2.1, z_1.2.2.1, z_1.2.2.2.1, z_1.2.2.2.2)) (f_X10_chart isCharted number setCount abv sets kinds lcuts valu won chance))
    else
      ((-103 : Int32), isCharted, evensDone, lcuts, valu, won, chance)
  else
    ((-103 : Int32), isCharted, evensDone, lcuts, valu, won, chance)
theorem f_X10_even_s {isCharted : Int32} {evensDone : Int32} {number : Int32} {setCount : Int32} {standing : Int32} {abv : Nat → Int32} {sets : Nat → Int32} {kinds : Nat → Int32} {lcuts : Nat → Int32} {valu : Nat → Int32} {won : Nat → Int64} {chance : Nat → Int64} : f_X10_even isCharted evensDone number setCount standing abv sets kinds lcuts valu won chance =
  (if (f_X10_hasNoHedge number) = 0 then
    if evensDone < (30 : Int32) then
      ((fun (z_1 : Int32 × (Nat → Int32) × (Nat → Int32) × (Nat → Int64) × (Nat → Int64)) =>
      ((f_X10_evenBy number standing z_1.2.2.2.1), z_1.1, (evensDone + (1 : Int32)), z_1.2.1, z_1.2.2.1, z_1.2.2.2.1, z_1.2.2.2.2)) (f_X10_chart isCharted number setCount abv sets kinds lcuts valu won chance))
    else
      ((-103 : Int32), isCharted, evensDone, lcuts, valu, won, chance)
  else
    ((-103 : Int32), isCharted, evensDone, lcuts, valu, won, chance)) := rfl
def f_X10_likely (isCharted : Int32) (number : Int32) (setCount : Int32) (standing : Int32) (abv : Nat → Int32) (sets : Nat → Int32) (kinds : Nat → Int32) (lcuts : Nat → Int32) (valu : Nat → Int32) (won : Nat → Int64) (chance : Nat → Int64) (p1 : Int32) : Int32 × Int32 × (Nat → Int32) × (Nat → Int32) × (Nat → Int64) × (Nat → Int64) :=
  if (f_X10_isNoSide p1) = 0 then
    if (f_X10_hasNoHedge number) = 0 then
      ((fun (z_1 : Int32 × (Nat → Int32) × (Nat → Int32) × (Nat → Int64) × (Nat → Int64)) =>
      ((f_X0_millionths z_1.2.2.2.2 p1 standing), z_1.1, z_1.2.1, z_1.2.2.1, z_1.2.2.2.1, z_1.2.2.2.2)) (f_X10_chart isCharted number setCount abv sets kinds lcuts valu won chance))
    else
      ((-103 : Int32), isCharted, lcuts, valu, won, chance)
  else
    ((-102 : Int32), isCharted, lcuts, valu, won, chance)
theorem f_X10_likely_s {isCharted : Int32} {number : Int32} {setCount : Int32} {standing : Int32} {abv : Nat → Int32} {sets : Nat → Int32} {kinds : Nat → Int32} {lcuts : Nat → Int32} {valu : Nat → Int32} {won : Nat → Int64} {chance : Nat → Int64} {p1 : Int32} : f_X10_likely isCharted number setCount standing abv sets kinds lcuts valu won chance p1 =
  (if (f_X10_isNoSide p1) = 0 then
    if (f_X10_hasNoHedge number) = 0 then
      ((fun (z_1 : Int32 × (Nat → Int32) × (Nat → Int32) × (Nat → Int64) × (Nat → Int64)) =>
      ((f_X0_millionths z_1.2.2.2.2 p1 standing), z_1.1, z_1.2.1, z_1.2.2.1, z_1.2.2.2.1, z_1.2.2.2.2)) (f_X10_chart isCharted number setCount abv sets kinds lcuts valu won chance))
    else
      ((-103 : Int32), isCharted, lcuts, valu, won, chance)
  else
    ((-102 : Int32), isCharted, lcuts, valu, won, chance)) := rfl
def f_X10_see (number : Int32) (ssize : Int32) (sbranches : Nat → Int32) (sbeginners : Nat → Int32) (swon : Nat → Int32) (p1 : Int32) (p2 : Int32) (p3 : Int32) : Int32 × Int32 × (Nat → Int32) × (Nat → Int32) × (Nat → Int32) :=
  if (f_X10_isUnknown number p1) = 0 then
    if (f_X10_isNoSide p2) = 0 then
      if ssize < (6 : Int32) then
        ((fun (z_1 : Int32 × (Nat → Int32) × (Nat → Int32) × (Nat → Int32)) =>
        (z_1.1, z_1.1, z_1.2.1, z_1.2.2.1, z_1.2.2.2)) (f_X7_add_now ssize sbranches sbeginners swon p1 p2 p3))
      else
        ((-104 : Int32), ssize, sbranches, sbeginners, swon)
    else
      ((-102 : Int32), ssize, sbranches, sbeginners, swon)
  else
    ((-101 : Int32), ssize, sbranches, sbeginners, swon)
theorem f_X10_see_s {number : Int32} {ssize : Int32} {sbranches : Nat → Int32} {sbeginners : Nat → Int32} {swon : Nat → Int32} {p1 : Int32} {p2 : Int32} {p3 : Int32} : f_X10_see number ssize sbranches sbeginners swon p1 p2 p3 =
  (if (f_X10_isUnknown number p1) = 0 then
    if (f_X10_isNoSide p2) = 0 then
      if ssize < (6 : Int32) then
        ((fun (z_1 : Int32 × (Nat → Int32) × (Nat → Int32) × (Nat → Int32)) =>
        (z_1.1, z_1.1, z_1.2.1, z_1.2.2.1, z_1.2.2.2)) (f_X7_add_now ssize sbranches sbeginners swon p1 p2 p3))
      else
        ((-104 : Int32), ssize, sbranches, sbeginners, swon)
    else
      ((-102 : Int32), ssize, sbranches, sbeginners, swon)
  else
    ((-101 : Int32), ssize, sbranches, sbeginners, swon)) := rfl
def f_X10_forget (ssize : Int32) : Int32 × Int32 :=
  (ssize, (0 : Int32))
theorem f_X10_forget_s {ssize : Int32} : f_X10_forget ssize =
  ((ssize, (0 : Int32))) := rfl
def f_X10_games (number : Int32) (standing : Int32) (seed : Int32) (whiteWon : Int32) (cutsDone : Int32) (abv : Nat → Int32) (kinds : Nat → Int32) (p1 : Int32) (p2 : Int32) (p3 : Int32) : Int32 × Int32 × Int32 × Int32 :=
  if p1 < (1 : Int32) then
    ((-102 : Int32), seed, whiteWon, cutsDone)
  else
    if (40 : Int32) < p1 then
      ((-102 : Int32), seed, whiteWon, cutsDone)
    else
      if p2 < 0 then
        ((-102 : Int32), seed, whiteWon, cutsDone)
      else
        if p3 < 0 then
          ((-102 : Int32), seed, whiteWon, cutsDone)
        else
          if p3 < (3 : Int32) then
            if (f_X10_hasNoHedge number) = 0 then
              ((fun (z_1 : Int32 × Int32 × Int32) =>
              if p3 = (0 : Int32) then
                  (z_1.2.1, z_1.1, z_1.2.1, z_1.2.2)
                else
                  if p3 = (1 : Int32) then
                    (z_1.2.2, z_1.1, z_1.2.1, z_1.2.2)
                  else
                    (z_1.1, z_1.1, z_1.2.1, z_1.2.2)) (f_X2_playAll number seed whiteWon cutsDone abv kinds p1 p2 standing))
            else
              ((-103 : Int32), seed, whiteWon, cutsDone)
          else
            ((-102 : Int32), seed, whiteWon, cutsDone)
theorem f_X10_games_s {number : Int32} {standing : Int32} {seed : Int32} {whiteWon : Int32} {cutsDone : Int32} {abv : Nat → Int32} {kinds : Nat → Int32} {p1 : Int32} {p2 : Int32} {p3 : Int32} : f_X10_games number standing seed whiteWon cutsDone abv kinds p1 p2 p3 =
  (if p1 < (1 : Int32) then
    ((-102 : Int32), seed, whiteWon, cutsDone)
  else
    if (40 : Int32) < p1 then
      ((-102 : Int32), seed, whiteWon, cutsDone)
    else
      if p2 < 0 then
        ((-102 : Int32), seed, whiteWon, cutsDone)
      else
        if p3 < 0 then
          ((-102 : Int32), seed, whiteWon, cutsDone)
        else
          if p3 < (3 : Int32) then
            if (f_X10_hasNoHedge number) = 0 then
              ((fun (z_1 : Int32 × Int32 × Int32) =>
              if p3 = (0 : Int32) then
                  (z_1.2.1, z_1.1, z_1.2.1, z_1.2.2)
                else
                  if p3 = (1 : Int32) then
                    (z_1.2.2, z_1.1, z_1.2.1, z_1.2.2)
                  else
                    (z_1.1, z_1.1, z_1.2.1, z_1.2.2)) (f_X2_playAll number seed whiteWon cutsDone abv kinds p1 p2 standing))
            else
              ((-103 : Int32), seed, whiteWon, cutsDone)
          else
            ((-102 : Int32), seed, whiteWon, cutsDone)) := rfl
def f_X10_image (isKept : Int32) (number : Int32) (standing : Int32) (turn : Int32) (cuts : Int32) (ssize : Int32) (kstanding : Int32) (kturn : Int32) (kcuts : Int32) (kssize : Int32) (kinds : Nat → Int32) (sbranches : Nat → Int32) (sbeginners : Nat → Int32) (swon : Nat → Int32) (kkinds : Nat → Int32) (ksbranches : Nat → Int32) (ksbeginners : Nat → Int32) (kswon : Nat → Int32) : Int32 × Int32 × Int32 × Int32 × Int32 × Int32 × (Nat → Int32) × (Nat → Int32) × (Nat → Int32) × (Nat → Int32) :=
  if (f_X10_hasNoHedge number) = 0 then
    ((fun (z_1 : Int32 × Int32 × Int32 × Int32 × (Nat → Int32) × (Nat → Int32) × (Nat → Int32) × (Nat → Int32)) =>
    (cuts, (1 : Int32), z_1.1, z_1.2.1, z_1.2.2.1, z_1.2.2.2.1, z_1.2.2.2.2.1, z_1.2.2.2.2.2.1, z_1.2.2.2.2.2.2.1, z_1.2.2.2.2.2.2.2)) (f_X3_copyFrom_kept standing turn cuts ssize kstanding kturn kcuts kssize kinds sbranches sbeginners swon kkinds ksbranches ksbeginners kswon))
  else
    ((-103 : Int32), isKept, kstanding, kturn, kcuts, kssize, kkinds, ksbranches, ksbeginners, kswon)
theorem f_X10_image_s {isKept : Int32} {number : Int32} {standing : Int32} {turn : Int32} {cuts : Int32} {ssize : Int32} {kstanding : Int32} {kturn : Int32} {kcuts : Int32} {kssize : Int32} {kinds : Nat → Int32} {sbranches : Nat → Int32} {sbeginners : Nat → Int32} {swon : Nat → Int32} {kkinds : Nat → Int32} {ksbranches : Nat → Int32} {ksbeginners : Nat → Int32} {kswon : Nat → Int32} : f_X10_image isKept number standing turn cuts ssize kstanding kturn kcuts kssize kinds sbranches sbeginners swon kkinds ksbranches ksbeginners kswon =
  (if (f_X10_hasNoHedge number) = 0 then
    ((fun (z_1 : Int32 × Int32 × Int32 × Int32 × (Nat → Int32) × (Nat → Int32) × (Nat → Int32) × (Nat → Int32)) =>
    (cuts, (1 : Int32), z_1.1, z_1.2.1, z_1.2.2.1, z_1.2.2.2.1, z_1.2.2.2.2.1, z_1.2.2.2.2.2.1, z_1.2.2.2.2.2.2.1, z_1.2.2.2.2.2.2.2)) (f_X3_copyFrom_kept standing turn cuts ssize kstanding kturn kcuts kssize kinds sbranches sbeginners swon kkinds ksbranches ksbeginners kswon))
  else
    ((-103 : Int32), isKept, kstanding, kturn, kcuts, kssize, kkinds, ksbranches, ksbeginners, kswon)) := rfl
def f_X10_restore (isCharted : Int32) (isKept : Int32) (standing : Int32) (turn : Int32) (cuts : Int32) (ssize : Int32) (kstanding : Int32) (kturn : Int32) (kcuts : Int32) (kssize : Int32) (kinds : Nat → Int32) (sbranches : Nat → Int32) (sbeginners : Nat → Int32) (swon : Nat → Int32) (kkinds : Nat → Int32) (ksbranches : Nat → Int32) (ksbeginners : Nat → Int32) (kswon : Nat → Int32) : Int32 × Int32 × Int32 × Int32 × Int32 × Int32 × (Nat → Int32) × (Nat → Int32) × (Nat → Int32) × (Nat → Int32) :=
  if isKept = 0 then
    ((-103 : Int32), isCharted, standing, turn, cuts, ssize, kinds, sbranches, sbeginners, swon)
  else
    ((fun (z_1 : Int32 × Int32 × Int32 × Int32 × (Nat → Int32) × (Nat → Int32) × (Nat → Int32) × (Nat → Int32)) =>
    (z_1.2.2.1, (0 : Int32), z_1.1, z_1.2.1, z_1.2.2.1, z_1.2.2.2.1, z_1.2.2.2.2.1, z_1.2.2.2.2.2.1, z_1.2.2.2.2.2.2.1, z_1.2.2.2.2.2.2.2)) (f_X3_copyFrom_now standing turn cuts ssize kstanding kturn kcuts kssize kinds sbranches sbeginners swon kkinds ksbranches ksbeginners kswon))
theorem f_X10_restore_s {isCharted : Int32} {isKept : Int32} {standing : Int32} {turn : Int32} {cuts : Int32} {ssize : Int32} {kstanding : Int32} {kturn : Int32} {kcuts : Int32} {kssize : Int32} {kinds : Nat → Int32} {sbranches : Nat → Int32} {sbeginners : Nat → Int32} {swon : Nat → Int32} {kkinds : Nat → Int32} {ksbranches : Nat → Int32} {ksbeginners : Nat → Int32} {kswon : Nat → Int32} : f_X10_restore isCharted isKept standing turn cuts ssize kstanding kturn kcuts kssize kinds sbranches sbeginners swon kkinds ksbranches ksbeginners kswon =
  (if isKept = 0 then
    ((-103 : Int32), isCharted, standing, turn, cuts, ssize, kinds, sbranches, sbeginners, swon)
  else
    ((fun (z_1 : Int32 × Int32 × Int32 × Int32 × (Nat → Int32) × (Nat → Int32) × (Nat → Int32) × (Nat → Int32)) =>
    (z_1.2.2.1, (0 : Int32), z_1.1, z_1.2.1, z_1.2.2.1, z_1.2.2.2.1, z_1.2.2.2.2.1, z_1.2.2.2.2.2.1, z_1.2.2.2.2.2.2.1, z_1.2.2.2.2.2.2.2)) (f_X3_copyFrom_now standing turn cuts ssize kstanding kturn kcuts kssize kinds sbranches sbeginners swon kkinds ksbranches ksbeginners kswon))) := rfl
def f_X10_count (hedgesRead : Int32) (evensDone : Int32) (plen : Int32) (number : Int32) (standing : Int32) (turn : Int32) (cuts : Int32) (ssize : Int32) (onB : Nat → Int32) (abv : Nat → Int32) (kinds : Nat → Int32) (p1 : Int32) : Int32 :=
  if p1 = (0 : Int32) then
    number
  else
    if p1 = (1 : Int32) then
      (f_J6_bitCount_0f7a4 standing)
    else
      if p1 = (2 : Int32) then
        turn
      else
        if p1 = (3 : Int32) then
          cuts
        else
          if p1 = (4 : Int32) then
            (f_J6_bitCount_0f7a4 (f_X6_choices number abv kinds (0 : Int32) standing))
          else
            if p1 = (5 : Int32) then
              (f_J6_bitCount_0f7a4 (f_X6_choices number abv kinds (1 : Int32) standing))
            else
              if p1 = (6 : Int32) then
                (f_X8_onTheGround number onB)
              else
                if p1 = (7 : Int32) then
                  ssize
                else
                  if p1 = (8 : Int32) then
                    (f_X5_size plen)
                  else
                    if p1 = (9 : Int32) then
                      hedgesRead
                    else
                      if p1 = (10 : Int32) then
                        evensDone
                      else
                        (-102 : Int32)
theorem f_X10_count_s {hedgesRead : Int32} {evensDone : Int32} {plen : Int32} {number : Int32} {standing : Int32} {turn : Int32} {cuts : Int32} {ssize : Int32} {onB : Nat → Int32} {abv : Nat → Int32} {kinds : Nat → Int32} {p1 : Int32} : f_X10_count hedgesRead evensDone plen number standing turn cuts ssize onB abv kinds p1 =
  (if p1 = (0 : Int32) then
    number
  else
    if p1 = (1 : Int32) then
      (f_J6_bitCount_0f7a4 standing)
    else
      if p1 = (2 : Int32) then
        turn
      else
        if p1 = (3 : Int32) then
          cuts
        else
          if p1 = (4 : Int32) then
            (f_J6_bitCount_0f7a4 (f_X6_choices number abv kinds (0 : Int32) standing))
          else
            if p1 = (5 : Int32) then
              (f_J6_bitCount_0f7a4 (f_X6_choices number abv kinds (1 : Int32) standing))
            else
              if p1 = (6 : Int32) then
                (f_X8_onTheGround number onB)
              else
                if p1 = (7 : Int32) then
                  ssize
                else
                  if p1 = (8 : Int32) then
                    (f_X5_size plen)
                  else
                    if p1 = (9 : Int32) then
                      hedgesRead
                    else
                      if p1 = (10 : Int32) then
                        evensDone
                      else
                        (-102 : Int32)) := rfl
def f_X10_digestOutlook_L88 : Nat → Int32 → Int32 → Int32 → Int32 → (Nat → Int32) → (Nat → Int32) → (Nat → Int32) → (Nat → Int32) → (Nat → Int32) → (Nat → Int32) → (Nat → Int64) → (Nat → Int64) → Int64 → Int64 → Int32 → Int64 × Int32 × (Nat → Int32) × (Nat → Int32) × (Nat → Int64) × (Nat → Int64)
  | 0, isCharted, _, _, _, _, _, _, _, lcuts, valu, won, chance, _, _, _ => (0, isCharted, lcuts, valu, won, chance)
  | n + 1, isCharted, number, setCount, standing, onB, abv, sets, kinds, lcuts, valu, won, chance, x1, x3, x5 =>
    if number ≤ x5 then
      (x3, isCharted, lcuts, valu, won, chance)
    else
      if (onB (x5).toNatClampNeg) = (-1 : Int32) then
        ((fun (z_2 : Int32 × Int32 × (Nat → Int32) × (Nat → Int32) × (Nat → Int64) × (Nat → Int64)) =>
        f_X10_digestOutlook_L88 n z_2.2.1 number setCount standing onB abv sets kinds z_2.2.2.1 z_2.2.2.2.1 z_2.2.2.2.2.1 z_2.2.2.2.2.2 x1 (((31 : Int64) * x3) + ((z_2.1).toInt64)) (x5 + (1 : Int32))) (f_X10_tree isCharted number setCount standing onB abv sets kinds lcuts valu won chance x5))
      else
        f_X10_digestOutlook_L88 n isCharted number setCount standing onB abv sets kinds lcuts valu won chance x1 x3 (x5 + (1 : Int32))
theorem f_X10_digestOutlook_L88_s {n : Nat} {isCharted : Int32} {number : Int32} {setCount : Int32} {standing : Int32} {onB : Nat → Int32} {abv : Nat → Int32} {sets : Nat → Int32} {kinds : Nat → Int32} {lcuts : Nat → Int32} {valu : Nat → Int32} {won : Nat → Int64} {chance : Nat → Int64} {x1 : Int64} {x3 : Int64} {x5 : Int32} : f_X10_digestOutlook_L88 (n + 1) isCharted number setCount standing onB abv sets kinds lcuts valu won chance x1 x3 x5 =
    (if number ≤ x5 then
      (x3, isCharted, lcuts, valu, won, chance)
    else
      if (onB (x5).toNatClampNeg) = (-1 : Int32) then
        ((fun (z_2 : Int32 × Int32 × (Nat → Int32) × (Nat → Int32) × (Nat → Int64) × (Nat → Int64)) =>
        f_X10_digestOutlook_L88 n z_2.2.1 number setCount standing onB abv sets kinds z_2.2.2.1 z_2.2.2.2.1 z_2.2.2.2.2.1 z_2.2.2.2.2.2 x1 (((31 : Int64) * x3) + ((z_2.1).toInt64)) (x5 + (1 : Int32))) (f_X10_tree isCharted number setCount standing onB abv sets kinds lcuts valu won chance x5))
      else
        f_X10_digestOutlook_L88 n isCharted number setCount standing onB abv sets kinds lcuts valu won chance x1 x3 (x5 + (1 : Int32))) := rfl
def f_X10_digestOutlook_L5 : Nat → Int32 → Int32 → Int32 → Int32 → (Nat → Int32) → (Nat → Int32) → (Nat → Int32) → (Nat → Int32) → (Nat → Int32) → (Nat → Int32) → (Nat → Int64) → (Nat → Int64) → Int64 → Int64 → Int32 → Int64 × Int32 × (Nat → Int32) × (Nat → Int32) × (Nat → Int64) × (Nat → Int64)
  | 0, isCharted, _, _, _, _, _, _, _, lcuts, valu, won, chance, _, _, _ => (0, isCharted, lcuts, valu, won, chance)
  | n + 1, isCharted, number, setCount, standing, onB, abv, sets, kinds, lcuts, valu, won, chance, x1, x3, x5 =>
    if (2 : Int32) ≤ x5 then
      ((fun (z_1 : Int32 × Int32 × (Nat → Int32) × (Nat → Int32) × (Nat → Int64) × (Nat → Int64)) =>
      f_X10_digestOutlook_L88 9 z_1.2.1 number setCount standing onB abv sets kinds z_1.2.2.1 z_1.2.2.2.1 z_1.2.2.2.2.1 z_1.2.2.2.2.2 x1 (((31 : Int64) * x3) + ((z_1.1).toInt64)) (0 : Int32)) (f_X10_worth isCharted number setCount standing abv sets kinds lcuts valu won chance))
    else
      ((fun (z_3 : Int32 × Int32 × (Nat → Int32) × (Nat → Int32) × (Nat → Int64) × (Nat → Int64)) =>
      ((fun (z_4 : Int32 × Int32 × (Nat → Int32) × (Nat → Int32) × (Nat → Int64) × (Nat → Int64)) =>
        ((fun (z_5 : Int32 × Int32 × (Nat → Int32) × (Nat → Int32) × (Nat → Int64) × (Nat → Int64)) =>
          ((fun (z_6 : Int32 × Int32 × (Nat → Int32) × (Nat → Int32) × (Nat → Int64) × (Nat → Int64)) =>
            f_X10_digestOutlook_L5 n z_6.2.1 number setCount standing onB abv sets kinds z_6.2.2.1 z_6.2.2.2.1 z_6.2.2.2.2.1 z_6.2.2.2.2.2 x1 (((31 : Int64) * (((31 : Int64) * (((31 : Int64) * (((31 : Int64) * x3) + ((z_3.1).toInt64))) + ((z_4.1).toInt64))) + ((z_5.1).toInt64))) + ((z_6.1).toInt64)) (x5 + (1 : Int32))) (f_X10_likely z_5.2.1 number setCount standing abv sets kinds z_5.2.2.1 z_5.2.2.2.1 z_5.2.2.2.2.1 z_5.2.2.2.2.2 x5))) (f_X10_lasts z_4.2.1 number setCount standing abv sets kinds z_4.2.2.1 z_4.2.2.2.1 z_4.2.2.2.2.1 z_4.2.2.2.2.2 x5))) (f_X10_best z_3.2.1 number setCount standing abv sets kinds z_3.2.2.1 z_3.2.2.2.1 z_3.2.2.2.2.1 z_3.2.2.2.2.2 x5))) (f_X10_wins isCharted number setCount standing abv sets kinds lcuts valu won chance x5))
theorem f_X10_digestOutlook_L5_s {n : Nat} {isCharted : Int32} {number : Int32} {setCount : Int32} {standing : Int32} {onB : Nat → Int32} {abv : Nat → Int32} {sets : Nat → Int32} {kinds : Nat → Int32} {lcuts : Nat → Int32} {valu : Nat → Int32} {won : Nat → Int64} {chance : Nat → Int64} {x1 : Int64} {x3 : Int64} {x5 : Int32} : f_X10_digestOutlook_L5 (n + 1) isCharted number setCount standing onB abv sets kinds lcuts valu won chance x1 x3 x5 =
    (if (2 : Int32) ≤ x5 then
      ((fun (z_1 : Int32 × Int32 × (Nat → Int32) × (Nat → Int32) × (Nat → Int64) × (Nat → Int64)) =>
      f_X10_digestOutlook_L88 9 z_1.2.1 number setCount standing onB abv sets kinds z_1.2.2.1 z_1.2.2.2.1 z_1.2.2.2.2.1 z_1.2.2.2.2.2 x1 (((31 : Int64) * x3) + ((z_1.1).toInt64)) (0 : Int32)) (f_X10_worth isCharted number setCount standing abv sets kinds lcuts valu won chance))
    else
      ((fun (z_3 : Int32 × Int32 × (Nat → Int32) × (Nat → Int32) × (Nat → Int64) × (Nat → Int64)) =>
      ((fun (z_4 : Int32 × Int32 × (Nat → Int32) × (Nat → Int32) × (Nat → Int64) × (Nat → Int64)) =>
        ((fun (z_5 : Int32 × Int32 × (Nat → Int32) × (Nat → Int32) × (Nat → Int64) × (Nat → Int64)) =>
          ((fun (z_6 : Int32 × Int32 × (Nat → Int32) × (Nat → Int32) × (Nat → Int64) × (Nat → Int64)) =>
            f_X10_digestOutlook_L5 n z_6.2.1 number setCount standing onB abv sets kinds z_6.2.2.1 z_6.2.2.2.1 z_6.2.2.2.2.1 z_6.2.2.2.2.2 x1 (((31 : Int64) * (((31 : Int64) * (((31 : Int64) * (((31 : Int64) * x3) + ((z_3.1).toInt64))) + ((z_4.1).toInt64))) + ((z_5.1).toInt64))) + ((z_6.1).toInt64)) (x5 + (1 : Int32))) (f_X10_likely z_5.2.1 number setCount standing abv sets kinds z_5.2.2.1 z_5.2.2.2.1 z_5.2.2.2.2.1 z_5.2.2.2.2.2 x5))) (f_X10_lasts z_4.2.1 number setCount standing abv sets kinds z_4.2.2.1 z_4.2.2.2.1 z_4.2.2.2.2.1 z_4.2.2.2.2.2 x5))) (f_X10_best z_3.2.1 number setCount standing abv sets kinds z_3.2.2.1 z_3.2.2.2.1 z_3.2.2.2.2.1 z_3.2.2.2.2.2 x5))) (f_X10_wins isCharted number setCount standing abv sets kinds lcuts valu won chance x5))) := rfl
def f_X10_digestOutlook (isCharted : Int32) (number : Int32) (setCount : Int32) (standing : Int32) (onB : Nat → Int32) (abv : Nat → Int32) (sets : Nat → Int32) (kinds : Nat → Int32) (lcuts : Nat → Int32) (valu : Nat → Int32) (won : Nat → Int64) (chance : Nat → Int64) (p1 : Int64) : Int64 × Int32 × (Nat → Int32) × (Nat → Int32) × (Nat → Int64) × (Nat → Int64) :=
  f_X10_digestOutlook_L5 3 isCharted number setCount standing onB abv sets kinds lcuts valu won chance p1 p1 (0 : Int32)
theorem f_X10_digestOutlook_s {isCharted : Int32} {number : Int32} {setCount : Int32} {standing : Int32} {onB : Nat → Int32} {abv : Nat → Int32} {sets : Nat → Int32} {kinds : Nat → Int32} {lcuts : Nat → Int32} {valu : Nat → Int32} {won : Nat → Int64} {chance : Nat → Int64} {p1 : Int64} : f_X10_digestOutlook isCharted number setCount standing onB abv sets kinds lcuts valu won chance p1 =
  (f_X10_digestOutlook_L5 3 isCharted number setCount standing onB abv sets kinds lcuts valu won chance p1 p1 (0 : Int32)) := rfl
def f_X10_digest_L104 : Nat → Int32 → Int32 → Int32 → Int32 → Int32 → Int32 → Int32 → Int32 → Int32 → Int32 → (Nat → Int32) → (Nat → Int32) → (Nat → Int32) → (Nat → Int32) → (Nat → Int32) → (Nat → Int32) → (Nat → Int32) → (Nat → Int32) → (Nat → Int32) → (Nat → Int32) → (Nat → Int64) → (Nat → Int64) → Int64 → Int32 → Int64 × Int32 × (Nat → Int32) × (Nat → Int32) × (Nat → Int64) × (Nat → Int64)
  | 0, isCharted, _, _, _, _, _, _, _, _, _, _, _, _, _, _, _, _, _, lcuts, valu, won, chance, _, _ => (0, isCharted, lcuts, valu, won, chance)
  | n + 1, isCharted, hedgesRead, evensDone, plen, number, setCount, standing, turn, cuts, ssize, lett, onB, abv, sets, kinds, sbranches, sbeginners, swon, lcuts, valu, won, chance, x1, x3 =>
    if (11 : Int32) ≤ x3 then
      (x1, isCharted, lcuts, valu, won, chance)
    else
      f_X10_digest_L104 n isCharted hedgesRead evensDone plen number setCount standing turn cuts ssize lett onB abv sets kinds sbranches sbeginners swon lcuts valu won chance (((31 : Int64) * x1) + (((f_X10_count hedgesRead evensDone plen number standing turn cuts ssize onB abv kinds x3)).toInt64)) (x3 + (1 : Int32))
theorem f_X10_digest_L104_s {n : Nat} {isCharted : Int32} {hedgesRead : Int32} {evensDone : Int32} {plen : Int32} {number : Int32} {setCount : Int32} {standing : Int32} {turn : Int32} {cuts : Int32} {ssize : Int32} {lett : Nat → Int32} {onB : Nat → Int32} {abv : Nat → Int32} {sets : Nat → Int32} {kinds : Nat → Int32} {sbranches : Nat → Int32} {sbeginners : Nat → Int32} {swon : Nat → Int32} {lcuts : Nat → Int32} {valu : Nat → Int32} {won : Nat → Int64} {chance : Nat → Int64} {x1 : Int64} {x3 : Int32} : f_X10_digest_L104 (n + 1) isCharted hedgesRead evensDone plen number setCount standing turn cuts ssize lett onB abv sets kinds sbranches sbeginners swon lcuts valu won chance x1 x3 =
    (if (11 : Int32) ≤ x3 then
      (x1, isCharted, lcuts, valu, won, chance)
    else
      f_X10_digest_L104 n isCharted hedgesRead evensDone plen number setCount standing turn cuts ssize lett onB abv sets kinds sbranches sbeginners swon lcuts valu won chance (((31 : Int64) * x1) + (((f_X10_count hedgesRead evensDone plen number standing turn cuts ssize onB abv kinds x3)).toInt64)) (x3 + (1 : Int32))) := rfl
def f_X10_digest_L69 : Nat → Int32 → Int32 → Int32 → Int32 → Int32 → Int32 → Int32 → Int32 → Int32 → Int32 → (Nat → Int32) → (Nat → Int32) → (Nat → Int32) → (Nat → Int32) → (Nat → Int32) → (Nat → Int32) → (Nat → Int32) → (Nat → Int32) → (Nat → Int32) → (Nat → Int32) → (Nat → Int64) → (Nat → Int64) → Int64 → Int32 → Int64 × Int32 × (Nat → Int32) × (Nat → Int32) × (Nat → Int64) × (Nat → Int64)
  | 0, isCharted, _, _, _, _, _, _, _, _, _, _, _, _, _, _, _, _, _, lcuts, valu, won, chance, _, _ => (0, isCharted, lcuts, valu, won, chance)
  | n + 1, isCharted, hedgesRead, evensDone, plen, number, setCount, standing, turn, cuts, ssize, lett, onB, abv, sets, kinds, sbranches, sbeginners, swon, lcuts, valu, won, chance, x1, x3 =>
    if (f_X5_size plen) ≤ x3 then
      f_X10_digest_L104 12 isCharted hedgesRead evensDone plen number setCount standing turn cuts ssize lett onB abv sets kinds sbranches sbeginners swon lcuts valu won chance x1 (0 : Int32)
    else
      f_X10_digest_L69 n isCharted hedgesRead evensDone plen number setCount standing turn cuts ssize lett onB abv sets kinds sbranches sbeginners swon lcuts valu won chance (((31 : Int64) * x1) + (((f_X5_at plen lett x3)).toInt64)) (x3 + (1 : Int32))
theorem f_X10_digest_L69_s {n : Nat} {isCharted : Int32} {hedgesRead : Int32} {evensDone : Int32} {plen : Int32} {number : Int32} {setCount : Int32} {standing : Int32} {turn : Int32} {cuts : Int32} {ssize : Int32} {lett : Nat → Int32} {onB : Nat → Int32} {abv : Nat → Int32} {sets : Nat → Int32} {kinds : Nat → Int32} {sbranches : Nat → Int32} {sbeginners : Nat → Int32} {swon : Nat → Int32} {lcuts : Nat → Int32} {valu : Nat → Int32} {won : Nat → Int64} {chance : Nat → Int64} {x1 : Int64} {x3 : Int32} : f_X10_digest_L69 (n + 1) isCharted hedgesRead evensDone plen number setCount standing turn cuts ssize lett onB abv sets kinds sbranches sbeginners swon lcuts valu won chance x1 x3 =
    (if (f_X5_size plen) ≤ x3 then
      f_X10_digest_L104 12 isCharted hedgesRead evensDone plen number setCount standing turn cuts ssize lett onB abv sets kinds sbranches sbeginners swon lcuts valu won chance x1 (0 : Int32)
    else
      f_X10_digest_L69 n isCharted hedgesRead evensDone plen number setCount standing turn cuts ssize lett onB abv sets kinds sbranches sbeginners swon lcuts valu won chance (((31 : Int64) * x1) + (((f_X5_at plen lett x3)).toInt64)) (x3 + (1 : Int32))) := rfl
def f_X10_digest_L20 (k : (Int32) → (Nat → Int32) → (Nat → Int32) → (Nat → Int64) → (Nat → Int64) → (Int64) → (Int32) → Int64 × Int32 × (Nat → Int32) × (Nat → Int32) × (Nat → Int64) × (Nat → Int64)) : Nat → Int32 → Int32 → Int32 → Int32 → Int32 → Int32 → Int32 → Int32 → Int32 → Int32 → (Nat → Int32) → (Nat → Int32) → (Nat → Int32) → (Nat → Int32) → (Nat → Int32) → (Nat → Int32) → (Nat → Int32) → (Nat → Int32) → (Nat → Int32) → (Nat → Int32) → (Nat → Int64) → (Nat → Int64) → Int64 → Int32 → Int32 → Int64 × Int32 × (Nat → Int32) × (Nat → Int32) × (Nat → Int64) × (Nat → Int64)
  | 0, isCharted, _, _, _, _, _, _, _, _, _, _, _, _, _, _, _, _, _, lcuts, valu, won, chance, _, _, _ => (0, isCharted, lcuts, valu, won, chance)
  | n + 1, isCharted, hedgesRead, evensDone, plen, number, setCount, standing, turn, cuts, ssize, lett, onB, abv, sets, kinds, sbranches, sbeginners, swon, lcuts, valu, won, chance, x1, x3, x4 =>
    if (8 : Int32) ≤ x4 then
      k isCharted lcuts valu won chance x1 x4
    else
      ((fun (z_2 : Int32 × Int32 × (Nat → Int32) × (Nat → Int32) × (Nat → Int64) × (Nat → Int64)) =>
      f_X10_digest_L20 k n z_2.2.1 hedgesRead evensDone plen number setCount standing turn cuts ssize lett onB abv sets kinds sbranches sbeginners swon z_2.2.2.1 z_2.2.2.2.1 z_2.2.2.2.2.1 z_2.2.2.2.2.2 (((31 : Int64) * x1) + ((z_2.1).toInt64)) x3 (x4 + (1 : Int32))) (f_X10_branch isCharted number setCount standing ssize onB abv sets kinds sbranches sbeginners swon lcuts valu won chance x3 x4))
theorem f_X10_digest_L20_s {k : (Int32) → (Nat → Int32) → (Nat → Int32) → (Nat → Int64) → (Nat → Int64) → (Int64) → (Int32) → Int64 × Int32 × (Nat → Int32) × (Nat → Int32) × (Nat → Int64) × (Nat → Int64)} {n : Nat} {isCharted : Int32} {hedgesRead : Int32} {evensDone : Int32} {plen : Int32} {number : Int32} {setCount : Int32} {standing : Int32} {turn : Int32} {cuts : Int32} {ssize : Int32} {lett : Nat → Int32} {onB : Nat → Int32} {abv : Nat → Int32} {sets : Nat → Int32} {kinds : Nat → Int32} {sbranches : Nat → Int32} {sbeginners : Nat → Int32} {swon : Nat → Int32} {lcuts : Nat → Int32} {valu : Nat → Int32} {won : Nat → Int64} {chance : Nat → Int64} {x1 : Int64} {x3 : Int32} {x4 : Int32} : f_X10_digest_L20 k (n + 1) isCharted hedgesRead evensDone plen number setCount standing turn cuts ssize lett onB abv sets kinds sbranches sbeginners swon lcuts valu won chance x1 x3 x4 =
    (if (8 : Int32) ≤ x4 then
      k isCharted lcuts valu won chance x1 x4
    else
      ((fun (z_2 : Int32 × Int32 × (Nat → Int32) × (Nat → Int32) × (Nat → Int64) × (Nat → Int64)) =>
      f_X10_digest_L20 k n z_2.2.1 hedgesRead evensDone plen number setCount standing turn cuts ssize lett onB abv sets kinds sbranches sbeginners swon z_2.2.2.1 z_2.2.2.2.1 z_2.2.2.2.2.1 z_2.2.2.2.2.2 (((31 : Int64) * x1) + ((z_2.1).toInt64)) x3 (x4 + (1 : Int32))) (f_X10_branch isCharted number setCount standing ssize onB abv sets kinds sbranches sbeginners swon lcuts valu won chance x3 x4))) := rfl
def f_X10_digest_L6 : Nat → Int32 → Int32 → Int32 → Int32 → Int32 → Int32 → Int32 → Int32 → Int32 → Int32 → (Nat → Int32) → (Nat → Int32) → (Nat → Int32) → (Nat → Int32) → (Nat → Int32) → (Nat → Int32) → (Nat → Int32) → (Nat → Int32) → (Nat → Int32) → (Nat → Int32) → (Nat → Int64) → (Nat → Int64) → Int64 → Int32 → Int64 × Int32 × (Nat → Int32) × (Nat → Int32) × (Nat → Int64) × (Nat → Int64)
  | 0, isCharted, _, _, _, _, _, _, _, _, _, _, _, _, _, _, _, _, _, lcuts, valu, won, chance, _, _ => (0, isCharted, lcuts, valu, won, chance)
  | n + 1, isCharted, hedgesRead, evensDone, plen, number, setCount, standing, turn, cuts, ssize, lett, onB, abv, sets, kinds, sbranches, sbeginners, swon, lcuts, valu, won, chance, x1, x3 =>
    if number ≤ x3 then
      if (f_X10_hasNoHedge number) = 0 then
        ((fun (z_1 : Int64 × Int32 × (Nat → Int32) × (Nat → Int32) × (Nat → Int64) × (Nat → Int64)) =>
        f_X10_digest_L69 27 z_1.2.1 hedgesRead evensDone plen number setCount standing turn cuts ssize lett onB abv sets kinds sbranches sbeginners swon z_1.2.2.1 z_1.2.2.2.1 z_1.2.2.2.2.1 z_1.2.2.2.2.2 z_1.1 (0 : Int32)) (f_X10_digestOutlook isCharted number setCount standing onB abv sets kinds lcuts valu won chance x1))
      else
        f_X10_digest_L69 27 isCharted hedgesRead evensDone plen number setCount standing turn cuts ssize lett onB abv sets kinds sbranches sbeginners swon lcuts valu won chance x1 (0 : Int32)
    else
      f_X10_digest_L20 (fun (isCharted_3 : Int32) (lcuts_4 : Nat → Int32) (valu_5 : Nat → Int32) (won_6 : Nat → Int64) (chance_7 : Nat → Int64) (x1_8 : Int64) (x4_9 : Int32) => f_X10_digest_L6 n isCharted_3 hedgesRead evensDone plen number setCount standing turn cuts ssize lett onB abv sets kinds sbranches sbeginners swon lcuts_4 valu_5 won_6 chance_7 x1_8 (x3 + (1 : Int32))) 9 isCharted hedgesRead evensDone plen number setCount standing turn cuts ssize lett onB abv sets kinds sbranches sbeginners swon lcuts valu won chance x1 x3 (0 : Int32)
theorem f_X10_digest_L6_s {n : Nat} {isCharted : Int32} {hedgesRead : Int32} {evensDone : Int32} {plen : Int32} {number : Int32} {setCount : Int32} {standing : Int32} {turn : Int32} {cuts : Int32} {ssize : Int32} {lett : Nat → Int32} {onB : Nat → Int32} {abv : Nat → Int32} {sets : Nat → Int32} {kinds : Nat → Int32} {sbranches : Nat → Int32} {sbeginners : Nat → Int32} {swon : Nat → Int32} {lcuts : Nat → Int32} {valu : Nat → Int32} {won : Nat → Int64} {chance : Nat → Int64} {x1 : Int64} {x3 : Int32} : f_X10_digest_L6 (n + 1) isCharted hedgesRead evensDone plen number setCount standing turn cuts ssize lett onB abv sets kinds sbranches sbeginners swon lcuts valu won chance x1 x3 =
    (if number ≤ x3 then
      if (f_X10_hasNoHedge number) = 0 then
        ((fun (z_1 : Int64 × Int32 × (Nat → Int32) × (Nat → Int32) × (Nat → Int64) × (Nat → Int64)) =>
        f_X10_digest_L69 27 z_1.2.1 hedgesRead evensDone plen number setCount standing turn cuts ssize lett onB abv sets kinds sbranches sbeginners swon z_1.2.2.1 z_1.2.2.2.1 z_1.2.2.2.2.1 z_1.2.2.2.2.2 z_1.1 (0 : Int32)) (f_X10_digestOutlook isCharted number setCount standing onB abv sets kinds lcuts valu won chance x1))
      else
        f_X10_digest_L69 27 isCharted hedgesRead evensDone plen number setCount standing turn cuts ssize lett onB abv sets kinds sbranches sbeginners swon lcuts valu won chance x1 (0 : Int32)
    else
      f_X10_digest_L20 (fun (isCharted_3 : Int32) (lcuts_4 : Nat → Int32) (valu_5 : Nat → Int32) (won_6 : Nat → Int64) (chance_7 : Nat → Int64) (x1_8 : Int64) (x4_9 : Int32) => f_X10_digest_L6 n isCharted_3 hedgesRead evensDone plen number setCount standing turn cuts ssize lett onB abv sets kinds sbranches sbeginners swon lcuts_4 valu_5 won_6 chance_7 x1_8 (x3 + (1 : Int32))) 9 isCharted hedgesRead evensDone plen number setCount standing turn cuts ssize lett onB abv sets kinds sbranches sbeginners swon lcuts valu won chance x1 x3 (0 : Int32)) := rfl
def f_X10_digest (isCharted : Int32) (hedgesRead : Int32) (evensDone : Int32) (plen : Int32) (number : Int32) (setCount : Int32) (standing : Int32) (turn : Int32) (cuts : Int32) (ssize : Int32) (lett : Nat → Int32) (onB : Nat → Int32) (abv : Nat → Int32) (sets : Nat → Int32) (kinds : Nat → Int32) (sbranches : Nat → Int32) (sbeginners : Nat → Int32) (swon : Nat → Int32) (lcuts : Nat → Int32) (valu : Nat → Int32) (won : Nat → Int64) (chance : Nat → Int64) : Int64 × Int32 × (Nat → Int32) × (Nat → Int32) × (Nat → Int64) × (Nat → Int64) :=
  f_X10_digest_L6 9 isCharted hedgesRead evensDone plen number setCount standing turn cuts ssize lett onB abv sets kinds sbranches sbeginners swon lcuts valu won chance (1283 : Int64) (0 : Int32)
theorem f_X10_digest_s {isCharted : Int32} {hedgesRead : Int32} {evensDone : Int32} {plen : Int32} {number : Int32} {setCount : Int32} {standing : Int32} {turn : Int32} {cuts : Int32} {ssize : Int32} {lett : Nat → Int32} {onB : Nat → Int32} {abv : Nat → Int32} {sets : Nat → Int32} {kinds : Nat → Int32} {sbranches : Nat → Int32} {sbeginners : Nat → Int32} {swon : Nat → Int32} {lcuts : Nat → Int32} {valu : Nat → Int32} {won : Nat → Int64} {chance : Nat → Int64} : f_X10_digest isCharted hedgesRead evensDone plen number setCount standing turn cuts ssize lett onB abv sets kinds sbranches sbeginners swon lcuts valu won chance =
  (f_X10_digest_L6 9 isCharted hedgesRead evensDone plen number setCount standing turn cuts ssize lett onB abv sets kinds sbranches sbeginners swon lcuts valu won chance (1283 : Int64) (0 : Int32)) := rfl
/-! facts of the class's functions -/
theorem i_max0 {x : Int32} : 0 ≤ (if x < (0 : Int32) then (0 : Int32) else x).toInt := by
  split
  · decide
  · rename_i h
    have := i_nlt h
    have t0 : (0 : Int32).toInt = 0 := rfl
    omega
theorem i_min5 {x : Int32} : (if (5 : Int32) < x then (5 : Int32) else x).toInt ≤ 5 := by
  split
  · decide
  · rename_i h
    have := i_nlt h
    have t5 : (5 : Int32).toInt = 5 := rfl
    omega
theorem i_min8 {x : Int32} (h0 : 0 ≤ x.toInt) : 0 ≤ (if (8 : Int32) < x then (8 : Int32) else x).toInt ∧ (if (8 : Int32) < x then (8 : Int32) else x).toInt ≤ 8 := by
  split
  · decide
  · rename_i h
    have := i_nlt h
    have t8 : (8 : Int32).toInt = 8 := rfl
    omega
theorem i_m1 {x : Int32} (h : -2147483648 < x.toInt) : (x + (-1 : Int32)).toInt = x.toInt - 1 := by
  have t : (-1 : Int32).toInt = -1 := rfl
  have h0 := i_rg x
  rw [i_add (by omega) (by omega), t]
  omega
theorem i_decA {x : Int32} (h : -1 ≤ x.toInt ∧ x.toInt < 8) (hp : (0 : Int32).toInt < x.toInt) : -1 ≤ (x + (-1 : Int32)).toInt ∧ (x + (-1 : Int32)).toInt < 8 := by
  have t0 : (0 : Int32).toInt = 0 := rfl
  rw [i_m1 (by omega)]
  omega
theorem i_decB {x : Int32} {n : Nat} (h : -1 ≤ x.toInt ∧ x.toInt < 8) (hp : (0 : Int32).toInt < x.toInt) (k : x.toInt < ((n + 1 : Nat) : Int) ∧ 1 ≤ n + 1) : (x + (-1 : Int32)).toInt < (n : Int) ∧ 1 ≤ n := by
  have t0 : (0 : Int32).toInt = 0 := rfl
  rw [i_m1 (by omega)]
  omega
theorem i_of8 {x : Int32} (h : 0 ≤ x.toInt ∧ x.toInt ≤ 8) : x = 0 ∨ x = 1 ∨ x = 2 ∨ x = 3 ∨ x = 4 ∨ x = 5 ∨ x = 6 ∨ x = 7 ∨ x = 8 := by
  have e : x.toInt = 0 ∨ x.toInt = 1 ∨ x.toInt = 2 ∨ x.toInt = 3 ∨ x.toInt = 4 ∨ x.toInt = 5 ∨ x.toInt = 6 ∨ x.toInt = 7 ∨ x.toInt = 8 := by omega
  rcases e with e | e | e | e | e | e | e | e | e
  · exact Or.inl (Int32.toInt_inj.mp e)
  · exact Or.inr (Or.inl (Int32.toInt_inj.mp e))
  · exact Or.inr (Or.inr (Or.inl (Int32.toInt_inj.mp e)))
  · exact Or.inr (Or.inr (Or.inr (Or.inl (Int32.toInt_inj.mp e))))
  · exact Or.inr (Or.inr (Or.inr (Or.inr (Or.inl (Int32.toInt_inj.mp e)))))
  · exact Or.inr (Or.inr (Or.inr (Or.inr (Or.inr (Or.inl (Int32.toInt_inj.mp e))))))
  · exact Or.inr (Or.inr (Or.inr (Or.inr (Or.inr (Or.inr (Or.inl (Int32.toInt_inj.mp e)))))))
  · exact Or.inr (Or.inr (Or.inr (Or.inr (Or.inr (Or.inr (Or.inr (Or.inl (Int32.toInt_inj.mp e))))))))
  · exact Or.inr (Or.inr (Or.inr (Or.inr (Or.inr (Or.inr (Or.inr (Or.inr (Int32.toInt_inj.mp e))))))))
theorem i_shl8 {x : Int32} (h : 0 ≤ x.toInt ∧ x.toInt ≤ 8) : 0 < ((1 : Int32) <<< (x &&& 31)).toInt ∧ ((1 : Int32) <<< (x &&& 31)).toInt ≤ 256 := by
  rcases i_of8 h with e | e | e | e | e | e | e | e | e <;> subst e <;> decide
theorem l_ne0n {x : Int32} (h : ¬ x = 0) : ¬ x.toInt64 = 0 := by
  intro q
  have e : x.toInt64.toInt = x.toInt := Int32.toInt_toInt64 x
  rw [q] at e
  have t0 : (0 : Int64).toInt = 0 := rfl
  rw [t0] at e
  exact h (Int32.toInt_inj.mp e.symm)
theorem c_nar {v : Int32} (h : 0 ≤ v.toInt ∧ v.toInt < 128) : narrow .char (.int v) = .int v := by
  obtain ⟨j, hj, e⟩ := nI_of (x := v) (fun q => by have := i_lt q; have t0 : (0 : Int32).toInt = 0 := rfl; omega)
  subst e
  rw [nI_toInt hj] at h
  exact (pk_charN (by omega)).1
theorem r_isNoSide {b : Int32} : (f_X10_isNoSide b).toInt = 1 ∨ ((f_X10_isNoSide b).toInt = 0 ∧ 0 ≤ b.toInt ∧ b.toInt ≤ 1) := by
  unfold f_X10_isNoSide
  split
  · rename_i h; subst h; right; decide
  · split
    · rename_i h; subst h; right; decide
    · left; rfl
theorem r_place {a b : Int32} : (0 ≤ a.toInt ∧ a.toInt ≤ 1 ∧ 0 ≤ b.toInt ∧ b.toInt < 256) → (0 ≤ (f_X10_place a b).toInt ∧ (f_X10_place a b).toInt < 512) := by
  intro h
  have t : (256 : Int32).toInt = 256 := rfl
  have e1 : (a * (256 : Int32)).toInt = a.toInt * 256 := by rw [i_mul (by rw [t]; omega) (by rw [t]; omega), t]
  have e2 := i_add (x := a * (256 : Int32)) (y := b) (by omega) (by omega)
  unfold f_X10_place
  omega
theorem r_isUnknown {number b : Int32} : (f_X10_isUnknown number b).toInt = 1 ∨ ((f_X10_isUnknown number b).toInt = 0 ∧ 0 ≤ b.toInt ∧ b.toInt < number.toInt) := by
  unfold f_X10_isUnknown
  split
  · left; rfl
  · rename_i h1
    split
    · rename_i h2
      have := i_nlt h1
      have := i_lt h2
      have t0 : (0 : Int32).toInt = 0 := rfl
      right; exact ⟨rfl, by omega, by omega⟩
    · left; rfl
theorem r_pbranches {plen : Int32} : 0 ≤ plen.toInt ∧ plen.toInt ≤ 26 → 0 ≤ (f_X5_branches plen).toInt ∧ (f_X5_branches plen).toInt ≤ 9 := by
  intro h
  obtain ⟨j, hj, e⟩ := nI_of (x := plen) (fun q => by have := i_lt q; have t0 : (0 : Int32).toInt = 0 := rfl; omega)
  subst e
  rw [nI_toInt hj] at h
  have e1 : nI j + (1 : Int32) = nI (j + 1) := nI_1 j
  have e2 : nI (j + 1) / (3 : Int32) = nI ((j + 1) / 3) := pk_div (d := 3) (by omega) (by decide) (by decide)
  unfold f_X5_branches
  rw [e1, e2, nI_toInt (by omega)]
  omega
theorem r_leftBy {abv : Nat → Int32} {b set : Int32} : 0 ≤ set.toInt → (0 ≤ (f_X6_leftBy abv b set).toInt ∧ (f_X6_leftBy abv b set).toInt ≤ set.toInt) := fun h => i_and h
theorem r_drawFrom_L : ∀ (n : Nat) (seed x1 x2 x3 : Int32), 0 ≤ x3.toInt → 0 ≤ (f_X2_drawFrom_L11 n seed x1 x2 x3).1.toInt ∧ (f_X2_drawFrom_L11 n seed x1 x2 x3).1.toInt < 8 := by
  intro n
  induction n with
  | zero => intro _ _ _ _ _; exact (by decide : (0 : Int) ≤ (0 : Int32).toInt ∧ (0 : Int32).toInt < 8)
  | succ n ih =>
    intro sd x1 x2 x3 h
    rw [f_X2_drawFrom_L11_s]
    split
    · exact (by decide : (0 : Int) ≤ (0 : Int32).toInt ∧ (0 : Int32).toInt < 8)
    · rename_i h8
      have g := i_nle h8
      have t8 : (8 : Int32).toInt = 8 := rfl
      have s1 := i_s1 (x := x3) (by omega)
      split
      · exact ih _ _ _ _ (by omega)
      · split
        · show 0 ≤ x3.toInt ∧ x3.toInt < 8
          omega
        · exact ih _ _ _ _ (by omega)
theorem r_drawFrom {seed x1 : Int32} {z : Int32 × Int32} (e : z = f_X2_drawFrom seed x1) : 0 ≤ z.1.toInt ∧ z.1.toInt < 8 := by
  subst e
  exact r_drawFrom_L _ _ _ _ _ (by decide)
theorem r_readFrom_L54 : ∀ (n : Nat) (plen number setCount : Int32) (lett onB abv sets : Nat → Int32) (x2 : Int32), (f_X8_readFrom_L54 n plen number setCount lett onB abv sets x2).1 = number := by
  intro n
  induction n with
  | zero => intros; rfl
  | succ n ih =>
    intro plen number setCount lett onB abv sets x2
    rw [f_X8_readFrom_L54_s]
    split
    · rfl
    · split
      · exact ih _ _ _ _ _ _ _ _
      · split <;> exact ih _ _ _ _ _ _ _ _
theorem r_readFrom_L15 : ∀ (n : Nat) (plen number setCount : Int32) (lett onB abv sets : Nat → Int32) (x2 : Int32), (f_X8_readFrom_L15 n plen number setCount lett onB abv sets x2).1 = number := by
  intro n
  induction n with
  | zero => intros; rfl
  | succ n ih =>
    intro plen number setCount lett onB abv sets x2
    rw [f_X8_readFrom_L15_s]
    split
    · exact r_readFrom_L54 _ _ _ _ _ _ _ _ _
    · exact ih _ _ _ _ _ _ _ _
theorem r_readFrom {plen number setCount : Int32} {lett onB abv sets : Nat → Int32} {z : Int32 × Int32 × (Nat → Int32) × (Nat → Int32) × (Nat → Int32)} (h : 0 ≤ plen.toInt ∧ plen.toInt ≤ 26) (e : z = f_X8_readFrom plen number setCount lett onB abv sets) : 0 ≤ z.1.toInt ∧ z.1.toInt ≤ 8 := by
  have k : z.1 = (if (8 : Int32) < (f_X5_branches plen) then (8 : Int32) else (f_X5_branches plen)) := by
    rw [e, f_X8_readFrom_s]
    exact r_readFrom_L15 _ _ _ _ _ _ _ _ _
  rw [k]
  exact i_min8 (r_pbranches h).1
