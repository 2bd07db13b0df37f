def f_X11_within (p1 : Int32) (p2 : Int32) (p3 : Int32) : Int32 :=
  if p1 < p2 then
    (0 : Int32)
  else
    if p3 < p1 then
      (0 : Int32)
    else
      (1 : Int32)
theorem f_X11_within_s {p1 : Int32} {p2 : Int32} {p3 : Int32} : f_X11_within p1 p2 p3 =
  (if p1 < p2 then
    (0 : Int32)
  else
    if p3 < p1 then
      (0 : Int32)
    else
      (1 : Int32)) := rfl
def f_X11_isIn (p1 : Int32) (p2 : Int32) : Int32 :=
  if ((p1 >>> (p2 &&& 31)) &&& (1 : Int32)) = (1 : Int32) then
    (1 : Int32)
  else
    (0 : Int32)
theorem f_X11_isIn_s {p1 : Int32} {p2 : Int32} : f_X11_isIn p1 p2 =
  (if ((p1 >>> (p2 &&& 31)) &&& (1 : Int32)) = (1 : Int32) then
    (1 : Int32)
  else
    (0 : Int32)) := rfl
def f_X11_size_L4 : Nat → Int32 → Int32 → Int32 → Int32
  | 0, _, _, _ => 0
  | n + 1, x0, x1, x2 =>
    if (8 : Int32) ≤ x2 then
      x1
    else
      f_X11_size_L4 n x0 (x1 + ((x0 >>> (x2 &&& 31)) &&& (1 : Int32))) (x2 + (1 : Int32))
theorem f_X11_size_L4_s {n : Nat} {x0 : Int32} {x1 : Int32} {x2 : Int32} : f_X11_size_L4 (n + 1) x0 x1 x2 =
    (if (8 : Int32) ≤ x2 then
      x1
    else
      f_X11_size_L4 n x0 (x1 + ((x0 >>> (x2 &&& 31)) &&& (1 : Int32))) (x2 + (1 : Int32))) := rfl
def f_X11_size (p1 : Int32) : Int32 :=
  f_X11_size_L4 9 p1 (0 : Int32) (0 : Int32)
theorem f_X11_size_s {p1 : Int32} : f_X11_size p1 =
  (f_X11_size_L4 9 p1 (0 : Int32) (0 : Int32)) := rfl
def f_X11_kindBy (p1 : Int32) : Int32 :=
  if p1 = (98 : Int32) then
    (0 : Int32)
  else
    if p1 = (100 : Int32) then
      (2 : Int32)
    else
      if p1 = (105 : Int32) then
        (3 : Int32)
      else
        if p1 = (116 : Int32) then
          (4 : Int32)
        else
          if p1 = (119 : Int32) then
            (1 : Int32)
          else
            (-1 : Int32)
theorem f_X11_kindBy_s {p1 : Int32} : f_X11_kindBy p1 =
  (if p1 = (98 : Int32) then
    (0 : Int32)
  else
    if p1 = (100 : Int32) then
      (2 : Int32)
    else
      if p1 = (105 : Int32) then
        (3 : Int32)
      else
        if p1 = (116 : Int32) then
          (4 : Int32)
        else
          if p1 = (119 : Int32) then
            (1 : Int32)
          else
            (-1 : Int32)) := rfl
def f_X11_letter (pageLength : Int32) (page : Nat → Int32) (p1 : Int32) : Int32 × Int32 × (Nat → Int32) :=
  if (f_X11_within p1 (32 : Int32) (126 : Int32)) = 0 then
    ((-102 : Int32), pageLength, page)
  else
    if pageLength = (26 : Int32) then
      ((-104 : Int32), pageLength, page)
    else
      ((pageLength + (1 : Int32)), (pageLength + (1 : Int32)), (upd page (pageLength).toNatClampNeg (vp_nar .byte ((p1).toInt8.toInt32))))
theorem f_X11_letter_s {pageLength : Int32} {page : Nat → Int32} {p1 : Int32} : f_X11_letter pageLength page p1 =
  (if (f_X11_within p1 (32 : Int32) (126 : Int32)) = 0 then
    ((-102 : Int32), pageLength, page)
  else
    if pageLength = (26 : Int32) then
      ((-104 : Int32), pageLength, page)
    else
      ((pageLength + (1 : Int32)), (pageLength + (1 : Int32)), (upd page (pageLength).toNatClampNeg (vp_nar .byte ((p1).toInt8.toInt32))))) := rfl
def f_X11_blank (pageLength : Int32) : Int32 × Int32 :=
  (pageLength, (0 : Int32))
theorem f_X11_blank_s {pageLength : Int32} : f_X11_blank pageLength =
  ((pageLength, (0 : Int32))) := rfl
def f_X11_at (pageLength : Int32) (page : Nat → Int32) (p1 : Int32) : Int32 :=
  if pageLength ≤ p1 then
    (0 : Int32)
  else
    (page (p1).toNatClampNeg)
theorem f_X11_at_s {pageLength : Int32} {page : Nat → Int32} {p1 : Int32} : f_X11_at pageLength page p1 =
  (if pageLength ≤ p1 then
    (0 : Int32)
  else
    (page (p1).toNatClampNeg)) := rfl
def f_X11_read_L12 : Nat → Int32 → Int32 → Int32 → (Nat → Int32) → Int32 → Int32 × Int32 × Int32
  | 0, _, isWhole, newBranches, _, _ => (0, isWhole, newBranches)
  | n + 1, pageLength, isWhole, newBranches, page, x1 =>
    if (8 : Int32) ≤ newBranches then
      (x1, isWhole, newBranches)
    else
      if (f_X11_kindBy (f_X11_at pageLength page x1)) = (-1 : Int32) then
        (x1, isWhole, newBranches)
      else
        if (f_X11_at pageLength page (x1 + (1 : Int32))) = (45 : Int32) then
          if (x1 + (2 : Int32)) = pageLength then
            if (newBranches + (1 : Int32)) = (8 : Int32) then
              ((x1 + (2 : Int32)), (1 : Int32), (newBranches + (1 : Int32)))
            else
              if (f_X11_at pageLength page (x1 + (2 : Int32))) = (44 : Int32) then
                f_X11_read_L12 n pageLength (1 : Int32) (newBranches + (1 : Int32)) page ((x1 + (2 : Int32)) + (1 : Int32))
              else
                ((x1 + (2 : Int32)), (1 : Int32), (newBranches + (1 : Int32)))
          else
            if (newBranches + (1 : Int32)) = (8 : Int32) then
              ((x1 + (2 : Int32)), (0 : Int32), (newBranches + (1 : Int32)))
            else
              if (f_X11_at pageLength page (x1 + (2 : Int32))) = (44 : Int32) then
                f_X11_read_L12 n pageLength (0 : Int32) (newBranches + (1 : Int32)) page ((x1 + (2 : Int32)) + (1 : Int32))
              else
                ((x1 + (2 : Int32)), (0 : Int32), (newBranches + (1 : Int32)))
        else
          if (f_X11_within ((f_X11_at pageLength page (x1 + (1 : Int32))) - (48 : Int32)) (0 : Int32) (newBranches - (1 : Int32))) = 0 then
            ((x1 + (1 : Int32)), isWhole, newBranches)
          else
            if (x1 + (2 : Int32)) = pageLength then
              if (newBranches + (1 : Int32)) = (8 : Int32) then
                ((x1 + (2 : Int32)), (1 : Int32), (newBranches + (1 : Int32)))
              else
                if (f_X11_at pageLength page (x1 + (2 : Int32))) = (44 : Int32) then
                  f_X11_read_L12 n pageLength (1 : Int32) (newBranches + (1 : Int32)) page ((x1 + (2 : Int32)) + (1 : Int32))
                else
                  ((x1 + (2 : Int32)), (1 : Int32), (newBranches + (1 : Int32)))
            else
              if (newBranches + (1 : Int32)) = (8 : Int32) then
                ((x1 + (2 : Int32)), (0 : Int32), (newBranches + (1 : Int32)))
              else
                if (f_X11_at pageLength page (x1 + (2 : Int32))) = (44 : Int32) then
                  f_X11_read_L12 n pageLength (0 : Int32) (newBranches + (1 : Int32)) page ((x1 + (2 : Int32)) + (1 : Int32))
                else
                  ((x1 + (2 : Int32)), (0 : Int32), (newBranches + (1 : Int32)))
theorem f_X11_read_L12_s {n : Nat} {pageLength : Int32} {isWhole : Int32} {newBranches : Int32} {page : Nat → Int32} {x1 : Int32} : f_X11_read_L12 (n + 1) pageLength isWhole newBranches page x1 =
    (if (8 : Int32) ≤ newBranches then
      (x1, isWhole, newBranches)
    else
      if (f_X11_kindBy (f_X11_at pageLength page x1)) = (-1 : Int32) then
        (x1, isWhole, newBranches)
      else
        if (f_X11_at pageLength page (x1 + (1 : Int32))) = (45 : Int32) then
          if (x1 + (2 : Int32)) = pageLength then
            if (newBranches + (1 : Int32)) = (8 : Int32) then
              ((x1 + (2 : Int32)), (1 : Int32), (newBranches + (1 : Int32)))
            else
              if (f_X11_at pageLength page (x1 + (2 : Int32))) = (44 : Int32) then
                f_X11_read_L12 n pageLength (1 : Int32) (newBranches + (1 : Int32)) page ((x1 + (2 : Int32)) + (1 : Int32))
              else
                ((x1 + (2 : Int32)), (1 : Int32), (newBranches + (1 : Int32)))
          else
            if (newBranches + (1 : Int32)) = (8 : Int32) then
              ((x1 + (2 : Int32)), (0 : Int32), (newBranches + (1 : Int32)))
            else
              if (f_X11_at pageLength page (x1 + (2 : Int32))) = (44 : Int32) then
                f_X11_read_L12 n pageLength (0 : Int32) (newBranches + (1 : Int32)) page ((x1 + (2 : Int32)) + (1 : Int32))
              else
                ((x1 + (2 : Int32)), (0 : Int32), (newBranches + (1 : Int32)))
        else
          if (f_X11_within ((f_X11_at pageLength page (x1 + (1 : Int32))) - (48 : Int32)) (0 : Int32) (newBranches - (1 : Int32))) = 0 then
            ((x1 + (1 : Int32)), isWhole, newBranches)
          else
            if (x1 + (2 : Int32)) = pageLength then
              if (newBranches + (1 : Int32)) = (8 : Int32) then
                ((x1 + (2 : Int32)), (1 : Int32), (newBranches + (1 : Int32)))
              else
                if (f_X11_at pageLength page (x1 + (2 : Int32))) = (44 : Int32) then
                  f_X11_read_L12 n pageLength (1 : Int32) (newBranches + (1 : Int32)) page ((x1 + (2 : Int32)) + (1 : Int32))
                else
                  ((x1 + (2 : Int32)), (1 : Int32), (newBranches + (1 : Int32)))
            else
              if (newBranches + (1 : Int32)) = (8 : Int32) then
                ((x1 + (2 : Int32)), (0 : Int32), (newBranches + (1 : Int32)))
              else
                if (f_X11_at pageLength page (x1 + (2 : Int32))) = (44 : Int32) then
                  f_X11_read_L12 n pageLength (0 : Int32) (newBranches + (1 : Int32)) page ((x1 + (2 : Int32)) + (1 : Int32))
                else
                  ((x1 + (2 : Int32)), (0 : Int32), (newBranches + (1 : Int32)))) := rfl
def f_X11_read (pageLength : Int32) (isWhole : Int32) (newBranches : Int32) (page : Nat → Int32) : Int32 × Int32 × Int32 :=
  f_X11_read_L12 10 pageLength (0 : Int32) (0 : Int32) page (0 : Int32)
theorem f_X11_read_s {pageLength : Int32} {isWhole : Int32} {newBranches : Int32} {page : Nat → Int32} : f_X11_read pageLength isWhole newBranches page =
  (f_X11_read_L12 10 pageLength (0 : Int32) (0 : Int32) page (0 : Int32)) := rfl
def f_X11_fault (pageLength : Int32) (isWhole : Int32) (newBranches : Int32) (page : Nat → Int32) : Int32 × Int32 × Int32 :=
  ((fun (z_1 : Int32 × Int32 × Int32) =>
  (z_1.1, z_1.2.1, z_1.2.2)) (f_X11_read pageLength isWhole newBranches page))
theorem f_X11_fault_s {pageLength : Int32} {isWhole : Int32} {newBranches : Int32} {page : Nat → Int32} : f_X11_fault pageLength isWhole newBranches page =
  (((fun (z_1 : Int32 × Int32 × Int32) =>
  (z_1.1, z_1.2.1, z_1.2.2)) (f_X11_read pageLength isWhole newBranches page))) := rfl
def f_X11_hedge_L25 : Nat → Int32 → Int32 → Int32 → Int32 → Int32 → Int32 → Int32 → Int32 → Int32 → (Nat → Int32) → (Nat → Int32) → (Nat → Int32) → Int32 → Int32 × Int32 × Int32 × Int32 × Int32 × Int32 × Int32 × Int32 × Int32 × Int32 × (Nat → Int32) × (Nat → Int32)
  | 0, hedges, branches, stand, turn, cuts, seen, pageLength, isWhole, newBranches, kindOf, onOf, _, _ => (0, hedges, branches, stand, turn, cuts, seen, pageLength, isWhole, newBranches, kindOf, onOf)
  | n + 1, hedges, branches, stand, turn, cuts, seen, pageLength, isWhole, newBranches, kindOf, onOf, page, x1 =>
    if branches ≤ x1 then
      (branches, (hedges + (1 : Int32)), branches, (((1 : Int32) <<< (branches &&& 31)) - (1 : Int32)), (0 : Int32), (0 : Int32), (0 : Int32), (0 : Int32), isWhole, newBranches, kindOf, onOf)
    else
      if (page ((((3 : Int32) * x1) + (1 : Int32))).toNatClampNeg) = (45 : Int32) then
        f_X11_hedge_L25 n hedges branches stand turn cuts seen pageLength isWhole newBranches (upd kindOf (x1).toNatClampNeg (f_X11_kindBy (page (((3 : Int32) * x1)).toNatClampNeg))) (upd onOf (x1).toNatClampNeg (-1 : Int32)) page (x1 + (1 : Int32))
      else
        f_X11_hedge_L25 n hedges branches stand turn cuts seen pageLength isWhole newBranches (upd kindOf (x1).toNatClampNeg (f_X11_kindBy (page (((3 : Int32) * x1)).toNatClampNeg))) (upd onOf (x1).toNatClampNeg ((page ((((3 : Int32) * x1) + (1 : Int32))).toNatClampNeg) - (48 : Int32))) page (x1 + (1 : Int32))
theorem f_X11_hedge_L25_s {n : Nat} {hedges : Int32} {branches : Int32} {stand : Int32} {turn : Int32} {cuts : Int32} {seen : Int32} {pageLength : Int32} {isWhole : Int32} {newBranches : Int32} {kindOf : Nat → Int32} {onOf : Nat → Int32} {page : Nat → Int32} {x1 : Int32} : f_X11_hedge_L25 (n + 1) hedges branches stand turn cuts seen pageLength isWhole newBranches kindOf onOf page x1 =
    (if branches ≤ x1 then
      (branches, (hedges + (1 : Int32)), branches, (((1 : Int32) <<< (branches &&& 31)) - (1 : Int32)), (0 : Int32), (0 : Int32), (0 : Int32), (0 : Int32), isWhole, newBranches, kindOf, onOf)
    else
      if (page ((((3 : Int32) * x1) + (1 : Int32))).toNatClampNeg) = (45 : Int32) then
        f_X11_hedge_L25 n hedges branches stand turn cuts seen pageLength isWhole newBranches (upd kindOf (x1).toNatClampNeg (f_X11_kindBy (page (((3 : Int32) * x1)).toNatClampNeg))) (upd onOf (x1).toNatClampNeg (-1 : Int32)) page (x1 + (1 : Int32))
      else
        f_X11_hedge_L25 n hedges branches stand turn cuts seen pageLength isWhole newBranches (upd kindOf (x1).toNatClampNeg (f_X11_kindBy (page (((3 : Int32) * x1)).toNatClampNeg))) (upd onOf (x1).toNatClampNeg ((page ((((3 : Int32) * x1) + (1 : Int32))).toNatClampNeg) - (48 : Int32))) page (x1 + (1 : Int32))) := rfl
def f_X11_hedge (hedges : Int32) (branches : Int32) (stand : Int32) (turn : Int32) (cuts : Int32) (seen : Int32) (pageLength : Int32) (isWhole : Int32) (newBranches : Int32) (kindOf : Nat → Int32) (onOf : Nat → Int32) (page : Nat → Int32) : Int32 × Int32 × Int32 × Int32 × Int32 × Int32 × Int32 × Int32 × Int32 × Int32 × (Nat → Int32) × (Nat → Int32) :=
  ((fun (z_1 : Int32 × Int32 × Int32) =>
  if z_1.2.1 = 0 then
      ((-103 : Int32), hedges, branches, stand, turn, cuts, seen, pageLength, z_1.2.1, z_1.2.2, kindOf, onOf)
    else
      f_X11_hedge_L25 9 hedges z_1.2.2 stand turn cuts seen pageLength z_1.2.1 z_1.2.2 kindOf onOf page (0 : Int32)) (f_X11_read pageLength isWhole newBranches page))
theorem f_X11_hedge_s {hedges : Int32} {branches : Int32} {stand : Int32} {turn : Int32} {cuts : Int32} {seen : Int32} {pageLength : Int32} {isWhole : Int32} {newBranches : Int32} {kindOf : Nat → Int32} {onOf : Nat → Int32} {page : Nat → Int32} : f_X11_hedge hedges branches stand turn cuts seen pageLength isWhole newBranches kindOf onOf page =
  (((fun (z_1 : Int32 × Int32 × Int32) =>
  if z_1.2.1 = 0 then
      ((-103 : Int32), hedges, branches, stand, turn, cuts, seen, pageLength, z_1.2.1, z_1.2.2, kindOf, onOf)
    else
      f_X11_hedge_L25 9 hedges z_1.2.2 stand turn cuts seen pageLength z_1.2.1 z_1.2.2 kindOf onOf page (0 : Int32)) (f_X11_read pageLength isWhole newBranches page))) := rfl
def f_X11_isBranch (branches : Int32) (p1 : Int32) : Int32 :=
  (f_X11_within p1 (0 : Int32) (branches - (1 : Int32)))
theorem f_X11_isBranch_s {branches : Int32} {p1 : Int32} : f_X11_isBranch branches p1 =
  ((f_X11_within p1 (0 : Int32) (branches - (1 : Int32)))) := rfl
def f_X11_above_L6 : Nat → Int32 → (Nat → Int32) → Int32 → Int32 → Int32 → Int32
  | 0, _, _, _, _, _ => 0
  | n + 1, branches, onOf, x1, x2, x3 =>
    if branches ≤ x3 then
      x2
    else
      if (onOf (x3).toNatClampNeg) = x1 then
        f_X11_above_L6 n branches onOf x1 (x2 ||| ((1 : Int32) <<< (x3 &&& 31))) (x3 + (1 : Int32))
      else
        if (onOf (x3).toNatClampNeg) = (-1 : Int32) then
          f_X11_above_L6 n branches onOf x1 (x2 ||| (0 : Int32)) (x3 + (1 : Int32))
        else
          if (f_X11_isIn x2 (onOf (x3).toNatClampNeg)) = 0 then
            f_X11_above_L6 n branches onOf x1 (x2 ||| (0 : Int32)) (x3 + (1 : Int32))
          else
            f_X11_above_L6 n branches onOf x1 (x2 ||| ((1 : Int32) <<< (x3 &&& 31))) (x3 + (1 : Int32))
theorem f_X11_above_L6_s {n : Nat} {branches : Int32} {onOf : Nat → Int32} {x1 : Int32} {x2 : Int32} {x3 : Int32} : f_X11_above_L6 (n + 1) branches onOf x1 x2 x3 =
    (if branches ≤ x3 then
      x2
    else
      if (onOf (x3).toNatClampNeg) = x1 then
        f_X11_above_L6 n branches onOf x1 (x2 ||| ((1 : Int32) <<< (x3 &&& 31))) (x3 + (1 : Int32))
      else
        if (onOf (x3).toNatClampNeg) = (-1 : Int32) then
          f_X11_above_L6 n branches onOf x1 (x2 ||| (0 : Int32)) (x3 + (1 : Int32))
        else
          if (f_X11_isIn x2 (onOf (x3).toNatClampNeg)) = 0 then
            f_X11_above_L6 n branches onOf x1 (x2 ||| (0 : Int32)) (x3 + (1 : Int32))
          else
            f_X11_above_L6 n branches onOf x1 (x2 ||| ((1 : Int32) <<< (x3 &&& 31))) (x3 + (1 : Int32))) := rfl
def f_X11_above (branches : Int32) (onOf : Nat → Int32) (p1 : Int32) : Int32 :=
  f_X11_above_L6 9 branches onOf p1 (0 : Int32) (p1 + (1 : Int32))
theorem f_X11_above_s {branches : Int32} {onOf : Nat → Int32} {p1 : Int32} : f_X11_above branches onOf p1 =
  (f_X11_above_L6 9 branches onOf p1 (0 : Int32) (p1 + (1 : Int32))) := rfl
def f_X11_isBare_L7 : Nat → Int32 → (Nat → Int32) → Int32 → Int32 → Int32 → Int32 → Int32
  | 0, _, _, _, _, _, _ => 0
  | n + 1, branches, onOf, x1, x2, x3, x4 =>
    if branches ≤ x4 then
      x3
    else
      if x3 = 0 then
        f_X11_isBare_L7 n branches onOf x1 x2 (0 : Int32) (x4 + (1 : Int32))
      else
        if (onOf (x4).toNatClampNeg) = x1 then
          if (f_X11_isIn x2 x4) = 0 then
            f_X11_isBare_L7 n branches onOf x1 x2 (1 : Int32) (x4 + (1 : Int32))
          else
            f_X11_isBare_L7 n branches onOf x1 x2 (0 : Int32) (x4 + (1 : Int32))
        else
          f_X11_isBare_L7 n branches onOf x1 x2 (1 : Int32) (x4 + (1 : Int32))
theorem f_X11_isBare_L7_s {n : Nat} {branches : Int32} {onOf : Nat → Int32} {x1 : Int32} {x2 : Int32} {x3 : Int32} {x4 : Int32} : f_X11_isBare_L7 (n + 1) branches onOf x1 x2 x3 x4 =
    (if branches ≤ x4 then
      x3
    else
      if x3 = 0 then
        f_X11_isBare_L7 n branches onOf x1 x2 (0 : Int32) (x4 + (1 : Int32))
      else
        if (onOf (x4).toNatClampNeg) = x1 then
          if (f_X11_isIn x2 x4) = 0 then
            f_X11_isBare_L7 n branches onOf x1 x2 (1 : Int32) (x4 + (1 : Int32))
          else
            f_X11_isBare_L7 n branches onOf x1 x2 (0 : Int32) (x4 + (1 : Int32))
        else
          f_X11_isBare_L7 n branches onOf x1 x2 (1 : Int32) (x4 + (1 : Int32))) := rfl
def f_X11_isBare (branches : Int32) (onOf : Nat → Int32) (p1 : Int32) (p2 : Int32) : Int32 :=
  f_X11_isBare_L7 9 branches onOf p1 p2 (1 : Int32) (p1 + (1 : Int32))
theorem f_X11_isBare_s {branches : Int32} {onOf : Nat → Int32} {p1 : Int32} {p2 : Int32} : f_X11_isBare branches onOf p1 p2 =
  (f_X11_isBare_L7 9 branches onOf p1 p2 (1 : Int32) (p1 + (1 : Int32))) := rfl
def f_X11_mayCut (branches : Int32) (kindOf : Nat → Int32) (onOf : Nat → Int32) (p1 : Int32) (p2 : Int32) (p3 : Int32) : Int32 :=
  if (f_X11_isIn p3 p2) = 0 then
    (0 : Int32)
  else
    if (kindOf (p2).toNatClampNeg) = (0 : Int32) then
      (1 : Int32)
    else
      if (kindOf (p2).toNatClampNeg) = (1 : Int32) then
        if p1 = 0 then
          (1 : Int32)
        else
          (0 : Int32)
      else
        if (kindOf (p2).toNatClampNeg) = (2 : Int32) then
          if p1 = (1 : Int32) then
            (1 : Int32)
          else
            (0 : Int32)
        else
          if (kindOf (p2).toNatClampNeg) = (3 : Int32) then
            (0 : Int32)
          else
            if (kindOf (p2).toNatClampNeg) = (4 : Int32) then
              if p1 = 0 then
                if (f_X11_isBare branches onOf p2 p3) = 0 then
                  (0 : Int32)
                else
                  (1 : Int32)
              else
                (0 : Int32)
            else
              (0 : Int32)
theorem f_X11_mayCut_s {branches : Int32} {kindOf : Nat → Int32} {onOf : Nat → Int32} {p1 : Int32} {p2 : Int32} {p3 : Int32} : f_X11_mayCut branches kindOf onOf p1 p2 p3 =
  (if (f_X11_isIn p3 p2) = 0 then
    (0 : Int32)
  else
    if (kindOf (p2).toNatClampNeg) = (0 : Int32) then
      (1 : Int32)
    else
      if (kindOf (p2).toNatClampNeg) = (1 : Int32) then
        if p1 = 0 then
          (1 : Int32)
        else
          (0 : Int32)
      else
        if (kindOf (p2).toNatClampNeg) = (2 : Int32) then
          if p1 = (1 : Int32) then
            (1 : Int32)
          else
            (0 : Int32)
        else
          if (kindOf (p2).toNatClampNeg) = (3 : Int32) then
            (0 : Int32)
          else
            if (kindOf (p2).toNatClampNeg) = (4 : Int32) then
              if p1 = 0 then
                if (f_X11_isBare branches onOf p2 p3) = 0 then
                  (0 : Int32)
                else
                  (1 : Int32)
              else
                (0 : Int32)
            else
              (0 : Int32)) := rfl
def f_X11_leaves (branches : Int32) (onOf : Nat → Int32) (p1 : Int32) (p2 : Int32) : Int32 :=
  (p2 &&& (((f_X11_above branches onOf p1) ||| ((1 : Int32) <<< (p1 &&& 31))) ^^^ (-1 : Int32)))
theorem f_X11_leaves_s {branches : Int32} {onOf : Nat → Int32} {p1 : Int32} {p2 : Int32} : f_X11_leaves branches onOf p1 p2 =
  ((p2 &&& (((f_X11_above branches onOf p1) ||| ((1 : Int32) <<< (p1 &&& 31))) ^^^ (-1 : Int32)))) := rfl
def f_X11_mayCuts_L5 : Nat → Int32 → (Nat → Int32) → (Nat → Int32) → Int32 → Int32 → Int32 → Int32 → Int32
  | 0, _, _, _, _, _, _, _ => 0
  | n + 1, branches, kindOf, onOf, x1, x2, x3, x4 =>
    if branches ≤ x4 then
      x3
    else
      if (f_X11_mayCut branches kindOf onOf x1 x4 x2) = 0 then
        f_X11_mayCuts_L5 n branches kindOf onOf x1 x2 (x3 ||| (0 : Int32)) (x4 + (1 : Int32))
      else
        f_X11_mayCuts_L5 n branches kindOf onOf x1 x2 (x3 ||| ((1 : Int32) <<< (x4 &&& 31))) (x4 + (1 : Int32))
theorem f_X11_mayCuts_L5_s {n : Nat} {branches : Int32} {kindOf : Nat → Int32} {onOf : Nat → Int32} {x1 : Int32} {x2 : Int32} {x3 : Int32} {x4 : Int32} : f_X11_mayCuts_L5 (n + 1) branches kindOf onOf x1 x2 x3 x4 =
    (if branches ≤ x4 then
      x3
    else
      if (f_X11_mayCut branches kindOf onOf x1 x4 x2) = 0 then
        f_X11_mayCuts_L5 n branches kindOf onOf x1 x2 (x3 ||| (0 : Int32)) (x4 + (1 : Int32))
      else
        f_X11_mayCuts_L5 n branches kindOf onOf x1 x2 (x3 ||| ((1 : Int32) <<< (x4 &&& 31))) (x4 + (1 : Int32))) := rfl
def f_X11_mayCuts (branches : Int32) (kindOf : Nat → Int32) (onOf : Nat → Int32) (p1 : Int32) (p2 : Int32) : Int32 :=
  f_X11_mayCuts_L5 9 branches kindOf onOf p1 p2 (0 : Int32) (0 : Int32)
theorem f_X11_mayCuts_s {branches : Int32} {kindOf : Nat → Int32} {onOf : Nat → Int32} {p1 : Int32} {p2 : Int32} : f_X11_mayCuts branches kindOf onOf p1 p2 =
  (f_X11_mayCuts_L5 9 branches kindOf onOf p1 p2 (0 : Int32) (0 : Int32)) := rfl
def f_X11_winnerFrom_L2 : Nat → Int32 → (Nat → Int32) → (Nat → Int32) → (Nat → Int32) → Int32 → Int32 → Int32 → Int32
  | 0, _, _, _, _, _, _, _ => 0
  | n + 1, branches, kindOf, onOf, winner, x1, x2, x3 =>
    if branches ≤ x3 then
      ((1 : Int32) - x2)
    else
      if (f_X11_mayCut branches kindOf onOf x2 x3 x1) = 0 then
        f_X11_winnerFrom_L2 n branches kindOf onOf winner x1 x2 (x3 + (1 : Int32))
      else
        if (winner (((((2 : Int32) * (f_X11_leaves branches onOf x3 x1)) + (1 : Int32)) - x2)).toNatClampNeg) = x2 then
          x2
        else
          f_X11_winnerFrom_L2 n branches kindOf onOf winner x1 x2 (x3 + (1 : Int32))
theorem f_X11_winnerFrom_L2_s {n : Nat} {branches : Int32} {kindOf : Nat → Int32} {onOf : Nat → Int32} {winner : Nat → Int32} {x1 : Int32} {x2 : Int32} {x3 : Int32} : f_X11_winnerFrom_L2 (n + 1) branches kindOf onOf winner x1 x2 x3 =
    (if branches ≤ x3 then
      ((1 : Int32) - x2)
    else
      if (f_X11_mayCut branches kindOf onOf x2 x3 x1) = 0 then
        f_X11_winnerFrom_L2 n branches kindOf onOf winner x1 x2 (x3 + (1 : Int32))
      else
        if (winner (((((2 : Int32) * (f_X11_leaves branches onOf x3 x1)) + (1 : Int32)) - x2)).toNatClampNeg) = x2 then
          x2
        else
          f_X11_winnerFrom_L2 n branches kindOf onOf winner x1 x2 (x3 + (1 : Int32))) := rfl
def f_X11_winnerFrom (branches : Int32) (kindOf : Nat → Int32) (onOf : Nat → Int32) (winner : Nat → Int32) (p1 : Int32) (p2 : Int32) : Int32 :=
  f_X11_winnerFrom_L2 9 branches kindOf onOf winner p1 p2 (0 : Int32)
theorem f_X11_winnerFrom_s {branches : Int32} {kindOf : Nat → Int32} {onOf : Nat → Int32} {winner : Nat → Int32} {p1 : Int32} {p2 : Int32} : f_X11_winnerFrom branches kindOf onOf winner p1 p2 =
  (f_X11_winnerFrom_L2 9 branches kindOf onOf winner p1 p2 (0 : Int32)) := rfl
def f_X11_layWinners_L2 : Nat → Int32 → Int32 → (Nat → Int32) → (Nat → Int32) → (Nat → Int32) → Int32 → (Nat → Int32)
  | 0, _, _, _, _, winner, _ => winner
  | n + 1, branches, stand, kindOf, onOf, winner, x1 =>
    if stand < x1 then
      winner
    else
      if (x1 &&& (stand ^^^ (-1 : Int32))) = 0 then
        f_X11_layWinners_L2 n branches stand kindOf onOf (upd (upd winner (((2 : Int32) * x1)).toNatClampNeg (f_X11_winnerFrom branches kindOf onOf winner x1 (0 : Int32))) ((((2 : Int32) * x1) + (1 : Int32))).toNatClampNeg (f_X11_winnerFrom branches kindOf onOf (upd winner (((2 : Int32) * x1)).toNatClampNeg (f_X11_winnerFrom branches kindOf onOf winner x1 (0 : Int32))) x1 (1 : Int32))) (x1 + (1 : Int32))
      else
        f_X11_layWinners_L2 n branches stand kindOf onOf winner (x1 + (1 : Int32))
theorem f_X11_layWinners_L2_s {n : Nat} {branches : Int32} {stand : Int32} {kindOf : Nat → Int32} {onOf : Nat → Int32} {winner : Nat → Int32} {x1 : Int32} : f_X11_layWinners_L2 (n + 1) branches stand kindOf onOf winner x1 =
    (if stand < x1 then
      winner
    else
      if (x1 &&& (stand ^^^ (-1 : Int32))) = 0 then
        f_X11_layWinners_L2 n branches stand kindOf onOf (upd (upd winner (((2 : Int32) * x1)).toNatClampNeg (f_X11_winnerFrom branches kindOf onOf winner x1 (0 : Int32))) ((((2 : Int32) * x1) + (1 : Int32))).toNatClampNeg (f_X11_winnerFrom branches kindOf onOf (upd winner (((2 : Int32) * x1)).toNatClampNeg (f_X11_winnerFrom branches kindOf onOf winner x1 (0 : Int32))) x1 (1 : Int32))) (x1 + (1 : Int32))
      else
        f_X11_layWinners_L2 n branches stand kindOf onOf winner (x1 + (1 : Int32))) := rfl
def f_X11_layWinners (branches : Int32) (stand : Int32) (kindOf : Nat → Int32) (onOf : Nat → Int32) (winner : Nat → Int32) : (Nat → Int32) :=
  f_X11_layWinners_L2 257 branches stand kindOf onOf winner (0 : Int32)
theorem f_X11_layWinners_s {branches : Int32} {stand : Int32} {kindOf : Nat → Int32} {onOf : Nat → Int32} {winner : Nat → Int32} : f_X11_layWinners branches stand kindOf onOf winner =
  (f_X11_layWinners_L2 257 branches stand kindOf onOf winner (0 : Int32)) := rfl
def f_X11_laySorts_L9 : Nat → Int32 → Int32 → (Nat → Int32) → (Nat → Int32) → (Nat → Int32) → (Nat → Int32) → Int32 → Int32 → Int32 → (Nat → Int32) × (Nat → Int32) × (Nat → Int32)
  | 0, _, _, kindOf, _, winner, wonBy, _, _, _ => (kindOf, winner, wonBy)
  | n + 1, branches, stand, kindOf, onOf, winner, wonBy, x1, x2, x3 =>
    if (4 : Int32) < x3 then
      ((upd kindOf (x1).toNatClampNeg x2), winner, wonBy)
    else
      if ((f_X11_layWinners branches stand (upd kindOf (x1).toNatClampNeg x3) onOf winner) (((2 : Int32) * stand)).toNatClampNeg) = 0 then
        if ((f_X11_layWinners branches stand (upd kindOf (x1).toNatClampNeg x3) onOf winner) ((((2 : Int32) * stand) + (1 : Int32))).toNatClampNeg) = (1 : Int32) then
          f_X11_laySorts_L9 n branches stand (upd kindOf (x1).toNatClampNeg x3) onOf (f_X11_layWinners branches stand (upd kindOf (x1).toNatClampNeg x3) onOf winner) (upd (upd wonBy (((2 : Int32) * x3)).toNatClampNeg (1 : Int32)) ((((2 : Int32) * x3) + (1 : Int32))).toNatClampNeg (1 : Int32)) x1 x2 (x3 + (1 : Int32))
        else
          f_X11_laySorts_L9 n branches stand (upd kindOf (x1).toNatClampNeg x3) onOf (f_X11_layWinners branches stand (upd kindOf (x1).toNatClampNeg x3) onOf winner) (upd (upd wonBy (((2 : Int32) * x3)).toNatClampNeg (1 : Int32)) ((((2 : Int32) * x3) + (1 : Int32))).toNatClampNeg (0 : Int32)) x1 x2 (x3 + (1 : Int32))
      else
        if ((f_X11_layWinners branches stand (upd kindOf (x1).toNatClampNeg x3) onOf winner) ((((2 : Int32) * stand) + (1 : Int32))).toNatClampNeg) = (1 : Int32) then
          f_X11_laySorts_L9 n branches stand (upd kindOf (x1).toNatClampNeg x3) onOf (f_X11_layWinners branches stand (upd kindOf (x1).toNatClampNeg x3) onOf winner) (upd (upd wonBy (((2 : Int32) * x3)).toNatClampNeg (0 : Int32)) ((((2 : Int32) * x3) + (1 : Int32))).toNatClampNeg (1 : Int32)) x1 x2 (x3 + (1 : Int32))
        else
          f_X11_laySorts_L9 n branches stand (upd kindOf (x1).toNatClampNeg x3) onOf (f_X11_layWinners branches stand (upd kindOf (x1).toNatClampNeg x3) onOf winner) (upd (upd wonBy (((2 : Int32) * x3)).toNatClampNeg (0 : Int32)) ((((2 : Int32) * x3) + (1 : Int32))).toNatClampNeg (0 : Int32)) x1 x2 (x3 + (1 : Int32))
theorem f_X11_laySorts_L9_s {n : Nat} {branches : Int32} {stand : Int32} {kindOf : Nat → Int32} {onOf : Nat → Int32} {winner : Nat → Int32} {wonBy : Nat → Int32} {x1 : Int32} {x2 : Int32} {x3 : Int32} : f_X11_laySorts_L9 (n + 1) branches stand kindOf onOf winner wonBy x1 x2 x3 =
    (if (4 : Int32) < x3 then
      ((upd kindOf (x1).toNatClampNeg x2), winner, wonBy)
    else
      if ((f_X11_layWinners branches stand (upd kindOf (x1).toNatClampNeg x3) onOf winner) (((2 : Int32) * stand)).toNatClampNeg) = 0 then
        if ((f_X11_layWinners branches stand (upd kindOf (x1).toNatClampNeg x3) onOf winner) ((((2 : Int32) * stand) + (1 : Int32))).toNatClampNeg) = (1 : Int32) then
          f_X11_laySorts_L9 n branches stand (upd kindOf (x1).toNatClampNeg x3) onOf (f_X11_layWinners branches stand (upd kindOf (x1).toNatClampNeg x3) onOf winner) (upd (upd wonBy (((2 : Int32) * x3)).toNatClampNeg (1 : Int32)) ((((2 : Int32) * x3) + (1 : Int32))).toNatClampNeg (1 : Int32)) x1 x2 (x3 + (1 : Int32))
        else
          f_X11_laySorts_L9 n branches stand (upd kindOf (x1).toNatClampNeg x3) onOf (f_X11_layWinners branches stand (upd kindOf (x1).toNatClampNeg x3) onOf winner) (upd (upd wonBy (((2 : Int32) * x3)).toNatClampNeg (1 : Int32)) ((((2 : Int32) * x3) + (1 : Int32))).toNatClampNeg (0 : Int32)) x1 x2 (x3 + (1 : Int32))
      else
        if ((f_X11_layWinners branches stand (upd kindOf (x1).toNatClampNeg x3) onOf winner) ((((2 : Int32) * stand) + (1 : Int32))).toNatClampNeg) = (1 : Int32) then
          f_X11_laySorts_L9 n branches stand (upd kindOf (x1).toNatClampNeg x3) onOf (f_X11_layWinners branches stand (upd kindOf (x1).toNatClampNeg x3) onOf winner) (upd (upd wonBy (((2 : Int32) * x3)).toNatClampNeg (0 : Int32)) ((((2 : Int32) * x3) + (1 : Int32))).toNatClampNeg (1 : Int32)) x1 x2 (x3 + (1 : Int32))
        else
          f_X11_laySorts_L9 n branches stand (upd kindOf (x1).toNatClampNeg x3) onOf (f_X11_layWinners branches stand (upd kindOf (x1).toNatClampNeg x3) onOf winner) (upd (upd wonBy (((2 : Int32) * x3)).toNatClampNeg (0 : Int32)) ((((2 : Int32) * x3) + (1 : Int32))).toNatClampNeg (0 : Int32)) x1 x2 (x3 + (1 : Int32))) := rfl
def f_X11_laySorts (branches : Int32) (stand : Int32) (kindOf : Nat → Int32) (onOf : Nat → Int32) (winner : Nat → Int32) (wonBy : Nat → Int32) (p1 : Int32) : (Nat → Int32) × (Nat → Int32) × (Nat → Int32) :=
  f_X11_laySorts_L9 6 branches stand kindOf onOf winner wonBy p1 (kindOf (p1).toNatClampNeg) (0 : Int32)
theorem f_X11_laySorts_s {branches : Int32} {stand : Int32} {kindOf : Nat → Int32} {onOf : Nat → Int32} {winner : Nat → Int32} {wonBy : Nat → Int32} {p1 : Int32} : f_X11_laySorts branches stand kindOf onOf winner wonBy p1 =
  (f_X11_laySorts_L9 6 branches stand kindOf onOf winner wonBy p1 (kindOf (p1).toNatClampNeg) (0 : Int32)) := rfl
def f_X11_sortsOf_L20 (k : (Int32) → (Int32) → Int32 × (Nat → Int32) × (Nat → Int32) × (Nat → Int32)) : Nat → Int32 → Int32 → Int32 → (Nat → Int32) → (Nat → Int32) → (Nat → Int32) → (Nat → Int32) → (Nat → Int32) → (Nat → Int32) → (Nat → Int32) → Int32 → Int32 → Int32 → Int32 → Int32 → Int32 × (Nat → Int32) × (Nat → Int32) × (Nat → Int32)
  | 0, _, _, _, kindOf, _, _, _, _, winner, wonBy, _, _, _, _, _ => (0, kindOf, winner, wonBy)
  | n + 1, branches, stand, seen, kindOf, onOf, seenBranch, seenBegins, seenWins, winner, wonBy, x1, x2, x3, x4, x5 =>
    if seen ≤ x5 then
      k x4 x5
    else
      if x4 = 0 then
        f_X11_sortsOf_L20 k n branches stand seen kindOf onOf seenBranch seenBegins seenWins winner wonBy x1 x2 x3 (0 : Int32) (x5 + (1 : Int32))
      else
        if (seenBranch (x5).toNatClampNeg) = x1 then
          if (wonBy ((((2 : Int32) * x3) + (seenBegins (x5).toNatClampNeg))).toNatClampNeg) = (seenWins (x5).toNatClampNeg) then
            f_X11_sortsOf_L20 k n branches stand seen kindOf onOf seenBranch seenBegins seenWins winner wonBy x1 x2 x3 (1 : Int32) (x5 + (1 : Int32))
          else
            f_X11_sortsOf_L20 k n branches stand seen kindOf onOf seenBranch seenBegins seenWins winner wonBy x1 x2 x3 (0 : Int32) (x5 + (1 : Int32))
        else
          f_X11_sortsOf_L20 k n branches stand seen kindOf onOf seenBranch seenBegins seenWins winner wonBy x1 x2 x3 (1 : Int32) (x5 + (1 : Int32))
theorem f_X11_sortsOf_L20_s {k : (Int32) → (Int32) → Int32 × (Nat → Int32) × (Nat → Int32) × (Nat → Int32)} {n : Nat} {branches : Int32} {stand : Int32} {seen : Int32} {kindOf : Nat → Int32} {onOf : Nat → Int32} {seenBranch : Nat → Int32} {seenBegins : Nat → Int32} {seenWins : Nat → Int32} {winner : Nat → Int32} {wonBy : Nat → Int32} {x1 : Int32} {x2 : Int32} {x3 : Int32} {x4 : Int32} {x5 : Int32} : f_X11_sortsOf_L20 k (n + 1) branches stand seen kindOf onOf seenBranch seenBegins seenWins winner wonBy x1 x2 x3 x4 x5 =
    (if seen ≤ x5 then
      k x4 x5
    else
      if x4 = 0 then
        f_X11_sortsOf_L20 k n branches stand seen kindOf onOf seenBranch seenBegins seenWins winner wonBy x1 x2 x3 (0 : Int32) (x5 + (1 : Int32))
      else
        if (seenBranch (x5).toNatClampNeg) = x1 then
          if (wonBy ((((2 : Int32) * x3) + (seenBegins (x5).toNatClampNeg))).toNatClampNeg) = (seenWins (x5).toNatClampNeg) then
            f_X11_sortsOf_L20 k n branches stand seen kindOf onOf seenBranch seenBegins seenWins winner wonBy x1 x2 x3 (1 : Int32) (x5 + (1 : Int32))
          else
            f_X11_sortsOf_L20 k n branches stand seen kindOf onOf seenBranch seenBegins seenWins winner wonBy x1 x2 x3 (0 : Int32) (x5 + (1 : Int32))
        else
          f_X11_sortsOf_L20 k n branches stand seen kindOf onOf seenBranch seenBegins seenWins winner wonBy x1 x2 x3 (1 : Int32) (x5 + (1 : Int32))) := rfl
def f_X11_sortsOf_L9 : Nat → Int32 → Int32 → Int32 → (Nat → Int32) → (Nat → Int32) → (Nat → Int32) → (Nat → Int32) → (Nat → Int32) → (Nat → Int32) → (Nat → Int32) → Int32 → Int32 → Int32 → Int32 × (Nat → Int32) × (Nat → Int32) × (Nat → Int32)
  | 0, _, _, _, kindOf, _, _, _, _, winner, wonBy, _, _, _ => (0, kindOf, winner, wonBy)
  | n + 1, branches, stand, seen, kindOf, onOf, seenBranch, seenBegins, seenWins, winner, wonBy, x1, x2, x3 =>
    if (4 : Int32) < x3 then
      (x2, kindOf, winner, wonBy)
    else
      f_X11_sortsOf_L20 (fun (x4_2 : Int32) (x5_3 : Int32) => if x4_2 = 0 then
          f_X11_sortsOf_L9 n branches stand seen kindOf onOf seenBranch seenBegins seenWins winner wonBy x1 (x2 ||| (0 : Int32)) (x3 + (1 : Int32))
        else
          f_X11_sortsOf_L9 n branches stand seen kindOf onOf seenBranch seenBegins seenWins winner wonBy x1 (x2 ||| ((1 : Int32) <<< (x3 &&& 31))) (x3 + (1 : Int32))) 7 branches stand seen kindOf onOf seenBranch seenBegins seenWins winner wonBy x1 x2 x3 (1 : Int32) (0 : Int32)
theorem f_X11_sortsOf_L9_s {n : Nat} {branches : Int32} {stand : Int32} {seen : Int32} {kindOf : Nat → Int32} {onOf : Nat → Int32} {seenBranch : Nat → Int32} {seenBegins : Nat → Int32} {seenWins : Nat → Int32} {winner : Nat → Int32} {wonBy : Nat → Int32} {x1 : Int32} {x2 : Int32} {x3 : Int32} : f_X11_sortsOf_L9 (n + 1) branches stand seen kindOf onOf seenBranch seenBegins seenWins winner wonBy x1 x2 x3 =
    (if (4 : Int32) < x3 then
      (x2, kindOf, winner, wonBy)
    else
      f_X11_sortsOf_L20 (fun (x4_2 : Int32) (x5_3 : Int32) => if x4_2 = 0 then
          f_X11_sortsOf_L9 n branches stand seen kindOf onOf seenBranch seenBegins seenWins winner wonBy x1 (x2 ||| (0 : Int32)) (x3 + (1 : Int32))
        else
          f_X11_sortsOf_L9 n branches stand seen kindOf onOf seenBranch seenBegins seenWins winner wonBy x1 (x2 ||| ((1 : Int32) <<< (x3 &&& 31))) (x3 + (1 : Int32))) 7 branches stand seen kindOf onOf seenBranch seenBegins seenWins winner wonBy x1 x2 x3 (1 : Int32) (0 : Int32)) := rfl
def f_X11_sortsOf (branches : Int32) (stand : Int32) (seen : Int32) (kindOf : Nat → Int32) (onOf : Nat → Int32) (seenBranch : Nat → Int32) (seenBegins : Nat → Int32) (seenWins : Nat → Int32) (winner : Nat → Int32) (wonBy : Nat → Int32) (p1 : Int32) : Int32 × (Nat → Int32) × (Nat → Int32) × (Nat → Int32) :=
  ((fun (z_1 : (Nat → Int32) × (Nat → Int32) × (Nat → Int32)) =>
  f_X11_sortsOf_L9 6 branches stand seen z_1.1 onOf seenBranch seenBegins seenWins z_1.2.1 z_1.2.2 p1 (0 : Int32) (0 : Int32)) (f_X11_laySorts branches stand kindOf onOf winner wonBy p1))
theorem f_X11_sortsOf_s {branches : Int32} {stand : Int32} {seen : Int32} {kindOf : Nat → Int32} {onOf : Nat → Int32} {seenBranch : Nat → Int32} {seenBegins : Nat → Int32} {seenWins : Nat → Int32} {winner : Nat → Int32} {wonBy : Nat → Int32} {p1 : Int32} : f_X11_sortsOf branches stand seen kindOf onOf seenBranch seenBegins seenWins winner wonBy p1 =
  (((fun (z_1 : (Nat → Int32) × (Nat → Int32) × (Nat → Int32)) =>
  f_X11_sortsOf_L9 6 branches stand seen z_1.1 onOf seenBranch seenBegins seenWins z_1.2.1 z_1.2.2 p1 (0 : Int32) (0 : Int32)) (f_X11_laySorts branches stand kindOf onOf winner wonBy p1))) := rfl
def f_X11_worstBy_L5 : Nat → (Nat → Int32) → Int32 → Int32 → Int32 → Int32 → Int32
  | 0, _, _, _, _, _ => 0
  | n + 1, wonBy, x1, x2, x3, x4 =>
    if (4 : Int32) < x4 then
      if x3 ≤ ((f_X11_size x1) - x3) then
        ((f_X11_size x1) - x3)
      else
        x3
    else
      if (f_X11_isIn x1 x4) = 0 then
        f_X11_worstBy_L5 n wonBy x1 x2 (x3 + (0 : Int32)) (x4 + (1 : Int32))
      else
        f_X11_worstBy_L5 n wonBy x1 x2 (x3 + (wonBy ((((2 : Int32) * x4) + x2)).toNatClampNeg)) (x4 + (1 : Int32))
theorem f_X11_worstBy_L5_s {n : Nat} {wonBy : Nat → Int32} {x1 : Int32} {x2 : Int32} {x3 : Int32} {x4 : Int32} : f_X11_worstBy_L5 (n + 1) wonBy x1 x2 x3 x4 =
    (if (4 : Int32) < x4 then
      if x3 ≤ ((f_X11_size x1) - x3) then
        ((f_X11_size x1) - x3)
      else
        x3
    else
      if (f_X11_isIn x1 x4) = 0 then
        f_X11_worstBy_L5 n wonBy x1 x2 (x3 + (0 : Int32)) (x4 + (1 : Int32))
      else
        f_X11_worstBy_L5 n wonBy x1 x2 (x3 + (wonBy ((((2 : Int32) * x4) + x2)).toNatClampNeg)) (x4 + (1 : Int32))) := rfl
def f_X11_worstBy (wonBy : Nat → Int32) (p1 : Int32) (p2 : Int32) : Int32 :=
  f_X11_worstBy_L5 6 wonBy p1 p2 (0 : Int32) (0 : Int32)
theorem f_X11_worstBy_s {wonBy : Nat → Int32} {p1 : Int32} {p2 : Int32} : f_X11_worstBy wonBy p1 p2 =
  (f_X11_worstBy_L5 6 wonBy p1 p2 (0 : Int32) (0 : Int32)) := rfl
def f_X11_letOf (branches : Int32) (stand : Int32) (seen : Int32) (kindOf : Nat → Int32) (onOf : Nat → Int32) (seenBranch : Nat → Int32) (seenBegins : Nat → Int32) (seenWins : Nat → Int32) (winner : Nat → Int32) (wonBy : Nat → Int32) (p1 : Int32) : Int32 × (Nat → Int32) × (Nat → Int32) × (Nat → Int32) :=
  ((fun (z_1 : Int32 × (Nat → Int32) × (Nat → Int32) × (Nat → Int32)) =>
  if z_1.1 = 0 then
      ((-1 : Int32), z_1.2.1, z_1.2.2.1, z_1.2.2.2)
    else
      if (f_X11_worstBy z_1.2.2.2 z_1.1 (0 : Int32)) ≤ (f_X11_worstBy z_1.2.2.2 z_1.1 (1 : Int32)) then
        ((0 : Int32), z_1.2.1, z_1.2.2.1, z_1.2.2.2)
      else
        ((1 : Int32), z_1.2.1, z_1.2.2.1, z_1.2.2.2)) (f_X11_sortsOf branches stand seen kindOf onOf seenBranch seenBegins seenWins winner wonBy p1))
theorem f_X11_letOf_s {branches : Int32} {stand : Int32} {seen : Int32} {kindOf : Nat → Int32} {onOf : Nat → Int32} {seenBranch : Nat → Int32} {seenBegins : Nat → Int32} {seenWins : Nat → Int32} {winner : Nat → Int32} {wonBy : Nat → Int32} {p1 : Int32} : f_X11_letOf branches stand seen kindOf onOf seenBranch seenBegins seenWins winner wonBy p1 =
  (((fun (z_1 : Int32 × (Nat → Int32) × (Nat → Int32) × (Nat → Int32)) =>
  if z_1.1 = 0 then
      ((-1 : Int32), z_1.2.1, z_1.2.2.1, z_1.2.2.2)
    else
      if (f_X11_worstBy z_1.2.2.2 z_1.1 (0 : Int32)) ≤ (f_X11_worstBy z_1.2.2.2 z_1.1 (1 : Int32)) then
        ((0 : Int32), z_1.2.1, z_1.2.2.1, z_1.2.2.2)
      else
        ((1 : Int32), z_1.2.1, z_1.2.2.1, z_1.2.2.2)) (f_X11_sortsOf branches stand seen kindOf onOf seenBranch seenBegins seenWins winner wonBy p1))) := rfl
def f_X11_branchNow (branches : Int32) (stand : Int32) (seen : Int32) (kindOf : Nat → Int32) (onOf : Nat → Int32) (seenBranch : Nat → Int32) (seenBegins : Nat → Int32) (seenWins : Nat → Int32) (winner : Nat → Int32) (wonBy : Nat → Int32) (p1 : Int32) (p2 : Int32) : Int32 × (Nat → Int32) × (Nat → Int32) × (Nat → Int32) :=
  if p2 = (0 : Int32) then
    ((kindOf (p1).toNatClampNeg), kindOf, winner, wonBy)
  else
    if p2 = (1 : Int32) then
      ((onOf (p1).toNatClampNeg), kindOf, winner, wonBy)
    else
      if p2 = (2 : Int32) then
        if (f_X11_isIn stand p1) = 0 then
          ((0 : Int32), kindOf, winner, wonBy)
        else
          ((1 : Int32), kindOf, winner, wonBy)
      else
        if p2 = (3 : Int32) then
          if (f_X11_mayCut branches kindOf onOf (p2 - (3 : Int32)) p1 stand) = 0 then
            ((0 : Int32), kindOf, winner, wonBy)
          else
            ((1 : Int32), kindOf, winner, wonBy)
        else
          if p2 = (4 : Int32) then
            if (f_X11_mayCut branches kindOf onOf (p2 - (3 : Int32)) p1 stand) = 0 then
              ((0 : Int32), kindOf, winner, wonBy)
            else
              ((1 : Int32), kindOf, winner, wonBy)
          else
            if p2 = (5 : Int32) then
              ((f_X11_above branches onOf p1), kindOf, winner, wonBy)
            else
              if p2 = (6 : Int32) then
                ((fun (z_1 : Int32 × (Nat → Int32) × (Nat → Int32) × (Nat → Int32)) =>
                (z_1.1, z_1.2.1, z_1.2.2.1, z_1.2.2.2)) (f_X11_sortsOf branches stand seen kindOf onOf seenBranch seenBegins seenWins winner wonBy p1))
              else
                ((fun (z_2 : Int32 × (Nat → Int32) × (Nat → Int32) × (Nat → Int32)) =>
                (z_2.1, z_2.2.1, z_2.2.2.1, z_2.2.2.2)) (f_X11_letOf branches stand seen kindOf onOf seenBranch seenBegins seenWins winner wonBy p1))
theorem f_X11_branchNow_s {branches : Int32} {stand : Int32} {seen : Int32} {kindOf : Nat → Int32} {onOf : Nat → Int32} {seenBranch : Nat → Int32} {seenBegins : Nat → Int32} {seenWins : Nat → Int32} {winner : Nat → Int32} {wonBy : Nat → Int32} {p1 : Int32} {p2 : Int32} : f_X11_branchNow branches stand seen kindOf onOf seenBranch seenBegins seenWins winner wonBy p1 p2 =
  (if p2 = (0 : Int32) then
    ((kindOf (p1).toNatClampNeg), kindOf, winner, wonBy)
  else
    if p2 = (1 : Int32) then
      ((onOf (p1).toNatClampNeg), kindOf, winner, wonBy)
    else
      if p2 = (2 : Int32) then
        if (f_X11_isIn stand p1) = 0 then
          ((0 : Int32), kindOf, winner, wonBy)
        else
          ((1 : Int32), kindOf, winner, wonBy)
      else
        if p2 = (3 : Int32) then
          if (f_X11_mayCut branches kindOf onOf (p2 - (3 : Int32)) p1 stand) = 0 then
            ((0 : Int32), kindOf, winner, wonBy)
          else
            ((1 : Int32), kindOf, winner, wonBy)
        else
          if p2 = (4 : Int32) then
            if (f_X11_mayCut branches kindOf onOf (p2 - (3 : Int32)) p1 stand) = 0 then
              ((0 : Int32), kindOf, winner, wonBy)
            else
              ((1 : Int32), kindOf, winner, wonBy)
          else
            if p2 = (5 : Int32) then
              ((f_X11_above branches onOf p1), kindOf, winner, wonBy)
            else
              if p2 = (6 : Int32) then
                ((fun (z_1 : Int32 × (Nat → Int32) × (Nat → Int32) × (Nat → Int32)) =>
                (z_1.1, z_1.2.1, z_1.2.2.1, z_1.2.2.2)) (f_X11_sortsOf branches stand seen kindOf onOf seenBranch seenBegins seenWins winner wonBy p1))
              else
                ((fun (z_2 : Int32 × (Nat → Int32) × (Nat → Int32) × (Nat → Int32)) =>
                (z_2.1, z_2.2.1, z_2.2.2.1, z_2.2.2.2)) (f_X11_letOf branches stand seen kindOf onOf seenBranch seenBegins seenWins winner wonBy p1))) := rfl
def f_X11_branch (branches : Int32) (stand : Int32) (seen : Int32) (kindOf : Nat → Int32) (onOf : Nat → Int32) (seenBranch : Nat → Int32) (seenBegins : Nat → Int32) (seenWins : Nat → Int32) (winner : Nat → Int32) (wonBy : Nat → Int32) (p1 : Int32) (p2 : Int32) : Int32 × (Nat → Int32) × (Nat → Int32) × (Nat → Int32) :=
  if (f_X11_isBranch branches p1) = 0 then
    ((-101 : Int32), kindOf, winner, wonBy)
  else
    if (f_X11_within p2 (0 : Int32) (7 : Int32)) = 0 then
      ((-102 : Int32), kindOf, winner, wonBy)
    else
      ((fun (z_1 : Int32 × (Nat → Int32) × (Nat → Int32) × (Nat → Int32)) =>
      (z_1.1, z_1.2.1, z_1.2.2.1, z_1.2.2.2)) (f_X11_branchNow branches stand seen kindOf onOf seenBranch seenBegins seenWins winner wonBy p1 p2))
theorem f_X11_branch_s {branches : Int32} {stand : Int32} {seen : Int32} {kindOf : Nat → Int32} {onOf : Nat → Int32} {seenBranch : Nat → Int32} {seenBegins : Nat → Int32} {seenWins : Nat → Int32} {winner : Nat → Int32} {wonBy : Nat → Int32} {p1 : Int32} {p2 : Int32} : f_X11_branch branches stand seen kindOf onOf seenBranch seenBegins seenWins winner wonBy p1 p2 =
  (if (f_X11_isBranch branches p1) = 0 then
    ((-101 : Int32), kindOf, winner, wonBy)
  else
    if (f_X11_within p2 (0 : Int32) (7 : Int32)) = 0 then
      ((-102 : Int32), kindOf, winner, wonBy)
    else
      ((fun (z_1 : Int32 × (Nat → Int32) × (Nat → Int32) × (Nat → Int32)) =>
      (z_1.1, z_1.2.1, z_1.2.2.1, z_1.2.2.2)) (f_X11_branchNow branches stand seen kindOf onOf seenBranch seenBegins seenWins winner wonBy p1 p2))) := rfl
def f_X11_as (branches : Int32) (kindOf : Nat → Int32) (p1 : Int32) (p2 : Int32) : Int32 :=
  if (f_X11_isBranch branches p1) = 0 then
    (-101 : Int32)
  else
    if (f_X11_within p2 (0 : Int32) (4 : Int32)) = 0 then
      (-102 : Int32)
    else
      if p2 = 0 then
        p1
      else
        if (kindOf (p1).toNatClampNeg) = p2 then
          p1
        else
          if p2 = (1 : Int32) then
            if (kindOf (p1).toNatClampNeg) = (4 : Int32) then
              p1
            else
              (-1 : Int32)
          else
            (-1 : Int32)
theorem f_X11_as_s {branches : Int32} {kindOf : Nat → Int32} {p1 : Int32} {p2 : Int32} : f_X11_as branches kindOf p1 p2 =
  (if (f_X11_isBranch branches p1) = 0 then
    (-101 : Int32)
  else
    if (f_X11_within p2 (0 : Int32) (4 : Int32)) = 0 then
      (-102 : Int32)
    else
      if p2 = 0 then
        p1
      else
        if (kindOf (p1).toNatClampNeg) = p2 then
          p1
        else
          if p2 = (1 : Int32) then
            if (kindOf (p1).toNatClampNeg) = (4 : Int32) then
              p1
            else
              (-1 : Int32)
          else
            (-1 : Int32)) := rfl
def f_X11_cut (branches : Int32) (stand : Int32) (turn : Int32) (cuts : Int32) (kindOf : Nat → Int32) (onOf : Nat → Int32) (p1 : Int32) : Int32 × Int32 × Int32 × Int32 :=
  if (f_X11_isBranch branches p1) = 0 then
    ((-101 : Int32), stand, turn, cuts)
  else
    if (f_X11_mayCut branches kindOf onOf turn p1 stand) = 0 then
      ((-103 : Int32), stand, turn, cuts)
    else
      if cuts = (999 : Int32) then
        ((-104 : Int32), stand, turn, cuts)
      else
        (((f_X11_size stand) - (f_X11_size (f_X11_leaves branches onOf p1 stand))), (f_X11_leaves branches onOf p1 stand), ((1 : Int32) - turn), (cuts + (1 : Int32)))
theorem f_X11_cut_s {branches : Int32} {stand : Int32} {turn : Int32} {cuts : Int32} {kindOf : Nat → Int32} {onOf : Nat → Int32} {p1 : Int32} : f_X11_cut branches stand turn cuts kindOf onOf p1 =
  (if (f_X11_isBranch branches p1) = 0 then
    ((-101 : Int32), stand, turn, cuts)
  else
    if (f_X11_mayCut branches kindOf onOf turn p1 stand) = 0 then
      ((-103 : Int32), stand, turn, cuts)
    else
      if cuts = (999 : Int32) then
        ((-104 : Int32), stand, turn, cuts)
      else
        (((f_X11_size stand) - (f_X11_size (f_X11_leaves branches onOf p1 stand))), (f_X11_leaves branches onOf p1 stand), ((1 : Int32) - turn), (cuts + (1 : Int32)))) := rfl
def f_X11_grow (branches : Int32) (stand : Int32) (onOf : Nat → Int32) (p1 : Int32) : Int32 × Int32 :=
  if (f_X11_isBranch branches p1) = 0 then
    ((-101 : Int32), stand)
  else
    if (f_X11_isIn stand p1) = 0 then
      if (onOf (p1).toNatClampNeg) = (-1 : Int32) then
        ((f_X11_size (stand ||| ((1 : Int32) <<< (p1 &&& 31)))), (stand ||| ((1 : Int32) <<< (p1 &&& 31))))
      else
        if (f_X11_isIn stand (onOf (p1).toNatClampNeg)) = 0 then
          ((-103 : Int32), stand)
        else
          ((f_X11_size (stand ||| ((1 : Int32) <<< (p1 &&& 31)))), (stand ||| ((1 : Int32) <<< (p1 &&& 31))))
    else
      ((-103 : Int32), stand)
theorem f_X11_grow_s {branches : Int32} {stand : Int32} {onOf : Nat → Int32} {p1 : Int32} : f_X11_grow branches stand onOf p1 =
  (if (f_X11_isBranch branches p1) = 0 then
    ((-101 : Int32), stand)
  else
    if (f_X11_isIn stand p1) = 0 then
      if (onOf (p1).toNatClampNeg) = (-1 : Int32) then
        ((f_X11_size (stand ||| ((1 : Int32) <<< (p1 &&& 31)))), (stand ||| ((1 : Int32) <<< (p1 &&& 31))))
      else
        if (f_X11_isIn stand (onOf (p1).toNatClampNeg)) = 0 then
          ((-103 : Int32), stand)
        else
          ((f_X11_size (stand ||| ((1 : Int32) <<< (p1 &&& 31)))), (stand ||| ((1 : Int32) <<< (p1 &&& 31))))
    else
      ((-103 : Int32), stand)) := rfl
def f_X11_pass (branches : Int32) (turn : Int32) : Int32 × Int32 :=
  if branches = 0 then
    ((-103 : Int32), turn)
  else
    (((1 : Int32) - ((1 : Int32) - turn)), ((1 : Int32) - turn))
theorem f_X11_pass_s {branches : Int32} {turn : Int32} : f_X11_pass branches turn =
  (if branches = 0 then
    ((-103 : Int32), turn)
  else
    (((1 : Int32) - ((1 : Int32) - turn)), ((1 : Int32) - turn))) := rfl
def f_X11_graft (branches : Int32) (kindOf : Nat → Int32) (p1 : Int32) (p2 : Int32) : Int32 × (Nat → Int32) :=
  if (f_X11_isBranch branches p1) = 0 then
    ((-101 : Int32), kindOf)
  else
    if (f_X11_within p2 (0 : Int32) (4 : Int32)) = 0 then
      ((-102 : Int32), kindOf)
    else
      ((kindOf (p1).toNatClampNeg), (upd kindOf (p1).toNatClampNeg p2))
theorem f_X11_graft_s {branches : Int32} {kindOf : Nat → Int32} {p1 : Int32} {p2 : Int32} : f_X11_graft branches kindOf p1 p2 =
  (if (f_X11_isBranch branches p1) = 0 then
    ((-101 : Int32), kindOf)
  else
    if (f_X11_within p2 (0 : Int32) (4 : Int32)) = 0 then
      ((-102 : Int32), kindOf)
    else
      ((kindOf (p1).toNatClampNeg), (upd kindOf (p1).toNatClampNeg p2))) := rfl
def f_X11_lastingFrom_L35 : Nat → Int32 → (Nat → Int32) → (Nat → Int32) → (Nat → Int32) → (Nat → Int32) → Int32 → Int32 → Int32 → Int32 → Int32 → Int32
  | 0, _, _, _, _, _, _, _, _, _, _ => 0
  | n + 1, branches, kindOf, onOf, winner, lasting, x1, x2, x3, x4, x5 =>
    if branches ≤ x5 then
      (x4 + (1 : Int32))
    else
      if (f_X11_mayCut branches kindOf onOf x2 x5 x1) = 0 then
        f_X11_lastingFrom_L35 n branches kindOf onOf winner lasting x1 x2 x3 x4 (x5 + (1 : Int32))
      else
        if x3 = 0 then
          if (lasting (((((2 : Int32) * (f_X11_leaves branches onOf x5 x1)) + (1 : Int32)) - x2)).toNatClampNeg) ≤ x4 then
            if (0 : Int32) = 0 then
              f_X11_lastingFrom_L35 n branches kindOf onOf winner lasting x1 x2 x3 x4 (x5 + (1 : Int32))
            else
              f_X11_lastingFrom_L35 n branches kindOf onOf winner lasting x1 x2 x3 (lasting (((((2 : Int32) * (f_X11_leaves branches onOf x5 x1)) + (1 : Int32)) - x2)).toNatClampNeg) (x5 + (1 : Int32))
          else
            if (1 : Int32) = 0 then
              f_X11_lastingFrom_L35 n branches kindOf onOf winner lasting x1 x2 x3 x4 (x5 + (1 : Int32))
            else
              f_X11_lastingFrom_L35 n branches kindOf onOf winner lasting x1 x2 x3 (lasting (((((2 : Int32) * (f_X11_leaves branches onOf x5 x1)) + (1 : Int32)) - x2)).toNatClampNeg) (x5 + (1 : Int32))
        else
          if (winner (((((2 : Int32) * (f_X11_leaves branches onOf x5 x1)) + (1 : Int32)) - x2)).toNatClampNeg) = x2 then
            if x4 ≤ (lasting (((((2 : Int32) * (f_X11_leaves branches onOf x5 x1)) + (1 : Int32)) - x2)).toNatClampNeg) then
              if (0 : Int32) = 0 then
                f_X11_lastingFrom_L35 n branches kindOf onOf winner lasting x1 x2 x3 x4 (x5 + (1 : Int32))
              else
                f_X11_lastingFrom_L35 n branches kindOf onOf winner lasting x1 x2 x3 (lasting (((((2 : Int32) * (f_X11_leaves branches onOf x5 x1)) + (1 : Int32)) - x2)).toNatClampNeg) (x5 + (1 : Int32))
            else
              if (1 : Int32) = 0 then
                f_X11_lastingFrom_L35 n branches kindOf onOf winner lasting x1 x2 x3 x4 (x5 + (1 : Int32))
              else
                f_X11_lastingFrom_L35 n branches kindOf onOf winner lasting x1 x2 x3 (lasting (((((2 : Int32) * (f_X11_leaves branches onOf x5 x1)) + (1 : Int32)) - x2)).toNatClampNeg) (x5 + (1 : Int32))
          else
            if (0 : Int32) = 0 then
              f_X11_lastingFrom_L35 n branches kindOf onOf winner lasting x1 x2 x3 x4 (x5 + (1 : Int32))
            else
              f_X11_lastingFrom_L35 n branches kindOf onOf winner lasting x1 x2 x3 (lasting (((((2 : Int32) * (f_X11_leaves branches onOf x5 x1)) + (1 : Int32)) - x2)).toNatClampNeg) (x5 + (1 : Int32))
theorem f_X11_lastingFrom_L35_s {n : Nat} {branches : Int32} {kindOf : Nat → Int32} {onOf : Nat → Int32} {winner : Nat → Int32} {lasting : Nat → Int32} {x1 : Int32} {x2 : Int32} {x3 : Int32} {x4 : Int32} {x5 : Int32} : f_X11_lastingFrom_L35 (n + 1) branches kindOf onOf winner lasting x1 x2 x3 x4 x5 =
    (if branches ≤ x5 then
      (x4 + (1 : Int32))
    else
      if (f_X11_mayCut branches kindOf onOf x2 x5 x1) = 0 then
        f_X11_lastingFrom_L35 n branches kindOf onOf winner lasting x1 x2 x3 x4 (x5 + (1 : Int32))
      else
        if x3 = 0 then
          if (lasting (((((2 : Int32) * (f_X11_leaves branches onOf x5 x1)) + (1 : Int32)) - x2)).toNatClampNeg) ≤ x4 then
            if (0 : Int32) = 0 then
              f_X11_lastingFrom_L35 n branches kindOf onOf winner lasting x1 x2 x3 x4 (x5 + (1 : Int32))
            else
              f_X11_lastingFrom_L35 n branches kindOf onOf winner lasting x1 x2 x3 (lasting (((((2 : Int32) * (f_X11_leaves branches onOf x5 x1)) + (1 : Int32)) - x2)).toNatClampNeg) (x5 + (1 : Int32))
          else
            if (1 : Int32) = 0 then
              f_X11_lastingFrom_L35 n branches kindOf onOf winner lasting x1 x2 x3 x4 (x5 + (1 : Int32))
            else
              f_X11_lastingFrom_L35 n branches kindOf onOf winner lasting x1 x2 x3 (lasting (((((2 : Int32) * (f_X11_leaves branches onOf x5 x1)) + (1 : Int32)) - x2)).toNatClampNeg) (x5 + (1 : Int32))
        else
          if (winner (((((2 : Int32) * (f_X11_leaves branches onOf x5 x1)) + (1 : Int32)) - x2)).toNatClampNeg) = x2 then
            if x4 ≤ (lasting (((((2 : Int32) * (f_X11_leaves branches onOf x5 x1)) + (1 : Int32)) - x2)).toNatClampNeg) then
              if (0 : Int32) = 0 then
                f_X11_lastingFrom_L35 n branches kindOf onOf winner lasting x1 x2 x3 x4 (x5 + (1 : Int32))
              else
                f_X11_lastingFrom_L35 n branches kindOf onOf winner lasting x1 x2 x3 (lasting (((((2 : Int32) * (f_X11_leaves branches onOf x5 x1)) + (1 : Int32)) - x2)).toNatClampNeg) (x5 + (1 : Int32))
            else
              if (1 : Int32) = 0 then
                f_X11_lastingFrom_L35 n branches kindOf onOf winner lasting x1 x2 x3 x4 (x5 + (1 : Int32))
              else
                f_X11_lastingFrom_L35 n branches kindOf onOf winner lasting x1 x2 x3 (lasting (((((2 : Int32) * (f_X11_leaves branches onOf x5 x1)) + (1 : Int32)) - x2)).toNatClampNeg) (x5 + (1 : Int32))
          else
            if (0 : Int32) = 0 then
              f_X11_lastingFrom_L35 n branches kindOf onOf winner lasting x1 x2 x3 x4 (x5 + (1 : Int32))
            else
              f_X11_lastingFrom_L35 n branches kindOf onOf winner lasting x1 x2 x3 (lasting (((((2 : Int32) * (f_X11_leaves branches onOf x5 x1)) + (1 : Int32)) - x2)).toNatClampNeg) (x5 + (1 : Int32))) := rfl
def f_X11_lastingFrom (branches : Int32) (kindOf : Nat → Int32) (onOf : Nat → Int32) (winner : Nat → Int32) (lasting : Nat → Int32) (p1 : Int32) (p2 : Int32) : Int32 :=
  if (winner ((((2 : Int32) * p1) + p2)).toNatClampNeg) = p2 then
    if (1 : Int32) = 0 then
      f_X11_lastingFrom_L35 9 branches kindOf onOf winner lasting p1 p2 (1 : Int32) (-1 : Int32) (0 : Int32)
    else
      f_X11_lastingFrom_L35 9 branches kindOf onOf winner lasting p1 p2 (1 : Int32) (1048576 : Int32) (0 : Int32)
  else
    if (0 : Int32) = 0 then
      f_X11_lastingFrom_L35 9 branches kindOf onOf winner lasting p1 p2 (0 : Int32) (-1 : Int32) (0 : Int32)
    else
      f_X11_lastingFrom_L35 9 branches kindOf onOf winner lasting p1 p2 (0 : Int32) (1048576 : Int32) (0 : Int32)
theorem f_X11_lastingFrom_s {branches : Int32} {kindOf : Nat → Int32} {onOf : Nat → Int32} {winner : Nat → Int32} {lasting : Nat → Int32} {p1 : Int32} {p2 : Int32} : f_X11_lastingFrom branches kindOf onOf winner lasting p1 p2 =
  (if (winner ((((2 : Int32) * p1) + p2)).toNatClampNeg) = p2 then
    if (1 : Int32) = 0 then
      f_X11_lastingFrom_L35 9 branches kindOf onOf winner lasting p1 p2 (1 : Int32) (-1 : Int32) (0 : Int32)
    else
      f_X11_lastingFrom_L35 9 branches kindOf onOf winner lasting p1 p2 (1 : Int32) (1048576 : Int32) (0 : Int32)
  else
    if (0 : Int32) = 0 then
      f_X11_lastingFrom_L35 9 branches kindOf onOf winner lasting p1 p2 (0 : Int32) (-1 : Int32) (0 : Int32)
    else
      f_X11_lastingFrom_L35 9 branches kindOf onOf winner lasting p1 p2 (0 : Int32) (1048576 : Int32) (0 : Int32)) := rfl
def f_X11_layLasting_L6 : Nat → Int32 → Int32 → (Nat → Int32) → (Nat → Int32) → (Nat → Int32) → (Nat → Int32) → Int32 → (Nat → Int32) × (Nat → Int32)
  | 0, _, _, _, _, winner, lasting, _ => (winner, lasting)
  | n + 1, branches, stand, kindOf, onOf, winner, lasting, x1 =>
    if stand < x1 then
      (winner, lasting)
    else
      if (x1 &&& (stand ^^^ (-1 : Int32))) = 0 then
        f_X11_layLasting_L6 n branches stand kindOf onOf winner (upd (upd lasting (((2 : Int32) * x1)).toNatClampNeg (f_X11_lastingFrom branches kindOf onOf winner lasting x1 (0 : Int32))) ((((2 : Int32) * x1) + (1 : Int32))).toNatClampNeg (f_X11_lastingFrom branches kindOf onOf winner (upd lasting (((2 : Int32) * x1)).toNatClampNeg (f_X11_lastingFrom branches kindOf onOf winner lasting x1 (0 : Int32))) x1 (1 : Int32))) (x1 + (1 : Int32))
      else
        f_X11_layLasting_L6 n branches stand kindOf onOf winner lasting (x1 + (1 : Int32))
theorem f_X11_layLasting_L6_s {n : Nat} {branches : Int32} {stand : Int32} {kindOf : Nat → Int32} {onOf : Nat → Int32} {winner : Nat → Int32} {lasting : Nat → Int32} {x1 : Int32} : f_X11_layLasting_L6 (n + 1) branches stand kindOf onOf winner lasting x1 =
    (if stand < x1 then
      (winner, lasting)
    else
      if (x1 &&& (stand ^^^ (-1 : Int32))) = 0 then
        f_X11_layLasting_L6 n branches stand kindOf onOf winner (upd (upd lasting (((2 : Int32) * x1)).toNatClampNeg (f_X11_lastingFrom branches kindOf onOf winner lasting x1 (0 : Int32))) ((((2 : Int32) * x1) + (1 : Int32))).toNatClampNeg (f_X11_lastingFrom branches kindOf onOf winner (upd lasting (((2 : Int32) * x1)).toNatClampNeg (f_X11_lastingFrom branches kindOf onOf winner lasting x1 (0 : Int32))) x1 (1 : Int32))) (x1 + (1 : Int32))
      else
        f_X11_layLasting_L6 n branches stand kindOf onOf winner lasting (x1 + (1 : Int32))) := rfl
def f_X11_layLasting (branches : Int32) (stand : Int32) (kindOf : Nat → Int32) (onOf : Nat → Int32) (winner : Nat → Int32) (lasting : Nat → Int32) : (Nat → Int32) × (Nat → Int32) :=
  f_X11_layLasting_L6 257 branches stand kindOf onOf (f_X11_layWinners branches stand kindOf onOf winner) lasting (0 : Int32)
theorem f_X11_layLasting_s {branches : Int32} {stand : Int32} {kindOf : Nat → Int32} {onOf : Nat → Int32} {winner : Nat → Int32} {lasting : Nat → Int32} : f_X11_layLasting branches stand kindOf onOf winner lasting =
  (f_X11_layLasting_L6 257 branches stand kindOf onOf (f_X11_layWinners branches stand kindOf onOf winner) lasting (0 : Int32)) := rfl
def f_X11_bestNow_L11 : Nat → Int32 → Int32 → (Nat → Int32) → (Nat → Int32) → (Nat → Int32) → (Nat → Int32) → Int32 → Int32 → Int32 → Int32 → Int32 × (Nat → Int32) × (Nat → Int32)
  | 0, _, _, _, _, winner, lasting, _, _, _, _ => (0, winner, lasting)
  | n + 1, branches, stand, kindOf, onOf, winner, lasting, x1, x2, x3, x4 =>
    if branches ≤ x4 then
      (x2, winner, lasting)
    else
      if (f_X11_mayCut branches kindOf onOf x1 x4 stand) = 0 then
        f_X11_bestNow_L11 n branches stand kindOf onOf winner lasting x1 x2 x3 (x4 + (1 : Int32))
      else
        if (winner (((((2 : Int32) * (f_X11_leaves branches onOf x4 stand)) + (1 : Int32)) - x1)).toNatClampNeg) = x1 then
          (x4, winner, lasting)
        else
          if (lasting (((((2 : Int32) * (f_X11_leaves branches onOf x4 stand)) + (1 : Int32)) - x1)).toNatClampNeg) ≤ x3 then
            if (lasting (((((2 : Int32) * (f_X11_leaves branches onOf x4 stand)) + (1 : Int32)) - x1)).toNatClampNeg) ≤ x3 then
              f_X11_bestNow_L11 n branches stand kindOf onOf winner lasting x1 x2 x3 (x4 + (1 : Int32))
            else
              f_X11_bestNow_L11 n branches stand kindOf onOf winner lasting x1 x2 (lasting (((((2 : Int32) * (f_X11_leaves branches onOf x4 stand)) + (1 : Int32)) - x1)).toNatClampNeg) (x4 + (1 : Int32))
          else
            if (lasting (((((2 : Int32) * (f_X11_leaves branches onOf x4 stand)) + (1 : Int32)) - x1)).toNatClampNeg) ≤ x3 then
              f_X11_bestNow_L11 n branches stand kindOf onOf winner lasting x1 x4 x3 (x4 + (1 : Int32))
            else
              f_X11_bestNow_L11 n branches stand kindOf onOf winner lasting x1 x4 (lasting (((((2 : Int32) * (f_X11_leaves branches onOf x4 stand)) + (1 : Int32)) - x1)).toNatClampNeg) (x4 + (1 : Int32))
theorem f_X11_bestNow_L11_s {n : Nat} {branches : Int32} {stand : Int32} {kindOf : Nat → Int32} {onOf : Nat → Int32} {winner : Nat → Int32} {lasting : Nat → Int32} {x1 : Int32} {x2 : Int32} {x3 : Int32} {x4 : Int32} : f_X11_bestNow_L11 (n + 1) branches stand kindOf onOf winner lasting x1 x2 x3 x4 =
    (if branches ≤ x4 then
      (x2, winner, lasting)
    else
      if (f_X11_mayCut branches kindOf onOf x1 x4 stand) = 0 then
        f_X11_bestNow_L11 n branches stand kindOf onOf winner lasting x1 x2 x3 (x4 + (1 : Int32))
      else
        if (winner (((((2 : Int32) * (f_X11_leaves branches onOf x4 stand)) + (1 : Int32)) - x1)).toNatClampNeg) = x1 then
          (x4, winner, lasting)
        else
          if (lasting (((((2 : Int32) * (f_X11_leaves branches onOf x4 stand)) + (1 : Int32)) - x1)).toNatClampNeg) ≤ x3 then
            if (lasting (((((2 : Int32) * (f_X11_leaves branches onOf x4 stand)) + (1 : Int32)) - x1)).toNatClampNeg) ≤ x3 then
              f_X11_bestNow_L11 n branches stand kindOf onOf winner lasting x1 x2 x3 (x4 + (1 : Int32))
            else
              f_X11_bestNow_L11 n branches stand kindOf onOf winner lasting x1 x2 (lasting (((((2 : Int32) * (f_X11_leaves branches onOf x4 stand)) + (1 : Int32)) - x1)).toNatClampNeg) (x4 + (1 : Int32))
          else
            if (lasting (((((2 : Int32) * (f_X11_leaves branches onOf x4 stand)) + (1 : Int32)) - x1)).toNatClampNeg) ≤ x3 then
              f_X11_bestNow_L11 n branches stand kindOf onOf winner lasting x1 x4 x3 (x4 + (1 : Int32))
            else
              f_X11_bestNow_L11 n branches stand kindOf onOf winner lasting x1 x4 (lasting (((((2 : Int32) * (f_X11_leaves branches onOf x4 stand)) + (1 : Int32)) - x1)).toNatClampNeg) (x4 + (1 : Int32))) := rfl
def f_X11_bestNow (branches : Int32) (stand : Int32) (kindOf : Nat → Int32) (onOf : Nat → Int32) (winner : Nat → Int32) (lasting : Nat → Int32) (p1 : Int32) : Int32 × (Nat → Int32) × (Nat → Int32) :=
  ((fun (z_1 : (Nat → Int32) × (Nat → Int32)) =>
  f_X11_bestNow_L11 9 branches stand kindOf onOf z_1.1 z_1.2 p1 (-1 : Int32) (-1 : Int32) (0 : Int32)) (f_X11_layLasting branches stand kindOf onOf winner lasting))
theorem f_X11_bestNow_s {branches : Int32} {stand : Int32} {kindOf : Nat → Int32} {onOf : Nat → Int32} {winner : Nat → Int32} {lasting : Nat → Int32} {p1 : Int32} : f_X11_bestNow branches stand kindOf onOf winner lasting p1 =
  (((fun (z_1 : (Nat → Int32) × (Nat → Int32)) =>
  f_X11_bestNow_L11 9 branches stand kindOf onOf z_1.1 z_1.2 p1 (-1 : Int32) (-1 : Int32) (0 : Int32)) (f_X11_layLasting branches stand kindOf onOf winner lasting))) := rfl
def f_X11_winsNow (branches : Int32) (stand : Int32) (kindOf : Nat → Int32) (onOf : Nat → Int32) (winner : Nat → Int32) (p1 : Int32) : Int32 × (Nat → Int32) :=
  (((f_X11_layWinners branches stand kindOf onOf winner) ((((2 : Int32) * stand) + p1)).toNatClampNeg), (f_X11_layWinners branches stand kindOf onOf winner))
theorem f_X11_winsNow_s {branches : Int32} {stand : Int32} {kindOf : Nat → Int32} {onOf : Nat → Int32} {winner : Nat → Int32} {p1 : Int32} : f_X11_winsNow branches stand kindOf onOf winner p1 =
  ((((f_X11_layWinners branches stand kindOf onOf winner) ((((2 : Int32) * stand) + p1)).toNatClampNeg), (f_X11_layWinners branches stand kindOf onOf winner))) := rfl
def f_X11_lastsNow (branches : Int32) (stand : Int32) (kindOf : Nat → Int32) (onOf : Nat → Int32) (winner : Nat → Int32) (lasting : Nat → Int32) (p1 : Int32) : Int32 × (Nat → Int32) × (Nat → Int32) :=
  ((fun (z_1 : (Nat → Int32) × (Nat → Int32)) =>
  ((z_1.2 ((((2 : Int32) * stand) + p1)).toNatClampNeg), z_1.1, z_1.2)) (f_X11_layLasting branches stand kindOf onOf winner lasting))
theorem f_X11_lastsNow_s {branches : Int32} {stand : Int32} {kindOf : Nat → Int32} {onOf : Nat → Int32} {winner : Nat → Int32} {lasting : Nat → Int32} {p1 : Int32} : f_X11_lastsNow branches stand kindOf onOf winner lasting p1 =
  (((fun (z_1 : (Nat → Int32) × (Nat → Int32)) =>
  ((z_1.2 ((((2 : Int32) * stand) + p1)).toNatClampNeg), z_1.1, z_1.2)) (f_X11_layLasting branches stand kindOf onOf winner lasting))) := rfl
def f_X11_refused (branches : Int32) (p1 : Int32) : Int32 :=
  if (f_X11_within p1 (0 : Int32) (1 : Int32)) = 0 then
    (-102 : Int32)
  else
    if branches = 0 then
      (-103 : Int32)
    else
      (0 : Int32)
theorem f_X11_refused_s {branches : Int32} {p1 : Int32} : f_X11_refused branches p1 =
  (if (f_X11_within p1 (0 : Int32) (1 : Int32)) = 0 then
    (-102 : Int32)
  else
    if branches = 0 then
      (-103 : Int32)
    else
      (0 : Int32)) := rfl
def f_X11_wins (branches : Int32) (stand : Int32) (kindOf : Nat → Int32) (onOf : Nat → Int32) (winner : Nat → Int32) (p1 : Int32) : Int32 × (Nat → Int32) :=
  if 0 ≤ (f_X11_refused branches p1) then
    ((fun (z_1 : Int32 × (Nat → Int32)) =>
    (z_1.1, z_1.2)) (f_X11_winsNow branches stand kindOf onOf winner p1))
  else
    ((f_X11_refused branches p1), winner)
theorem f_X11_wins_s {branches : Int32} {stand : Int32} {kindOf : Nat → Int32} {onOf : Nat → Int32} {winner : Nat → Int32} {p1 : Int32} : f_X11_wins branches stand kindOf onOf winner p1 =
  (if 0 ≤ (f_X11_refused branches p1) then
    ((fun (z_1 : Int32 × (Nat → Int32)) =>
    (z_1.1, z_1.2)) (f_X11_winsNow branches stand kindOf onOf winner p1))
  else
    ((f_X11_refused branches p1), winner)) := rfl
def f_X11_best (branches : Int32) (stand : Int32) (kindOf : Nat → Int32) (onOf : Nat → Int32) (winner : Nat → Int32) (lasting : Nat → Int32) (p1 : Int32) : Int32 × (Nat → Int32) × (Nat → Int32) :=
  if 0 ≤ (f_X11_refused branches p1) then
    ((fun (z_1 : Int32 × (Nat → Int32) × (Nat → Int32)) =>
    (z_1.1, z_1.2.1, z_1.2.2)) (f_X11_bestNow branches stand kindOf onOf winner lasting p1))
  else
    ((f_X11_refused branches p1), winner, lasting)
theorem f_X11_best_s {branches : Int32} {stand : Int32} {kindOf : Nat → Int32} {onOf : Nat → Int32} {winner : Nat → Int32} {lasting : Nat → Int32} {p1 : Int32} : f_X11_best branches stand kindOf onOf winner lasting p1 =
  (if 0 ≤ (f_X11_refused branches p1) then
    ((fun (z_1 : Int32 × (Nat → Int32) × (Nat → Int32)) =>
    (z_1.1, z_1.2.1, z_1.2.2)) (f_X11_bestNow branches stand kindOf onOf winner lasting p1))
  else
    ((f_X11_refused branches p1), winner, lasting)) := rfl
def f_X11_lasts (branches : Int32) (stand : Int32) (kindOf : Nat → Int32) (onOf : Nat → Int32) (winner : Nat → Int32) (lasting : Nat → Int32) (p1 : Int32) : Int32 × (Nat → Int32) × (Nat → Int32) :=
  if 0 ≤ (f_X11_refused branches p1) then
    ((fun (z_1 : Int32 × (Nat → Int32) × (Nat → Int32)) =>
    (z_1.1, z_1.2.1, z_1.2.2)) (f_X11_lastsNow branches stand kindOf onOf winner lasting p1))
  else
    ((f_X11_refused branches p1), winner, lasting)
theorem f_X11_lasts_s {branches : Int32} {stand : Int32} {kindOf : Nat → Int32} {onOf : Nat → Int32} {winner : Nat → Int32} {lasting : Nat → Int32} {p1 : Int32} : f_X11_lasts branches stand kindOf onOf winner lasting p1 =
  (if 0 ≤ (f_X11_refused branches p1) then
    ((fun (z_1 : Int32 × (Nat → Int32) × (Nat → Int32)) =>
    (z_1.1, z_1.2.1, z_1.2.2)) (f_X11_lastsNow branches stand kindOf onOf winner lasting p1))
  else
    ((f_X11_refused branches p1), winner, lasting)) := rfl
def f_X11_simplest_L14 : Nat → Int32 → Int32 → Int32 → Int32
  | 0, _, _, _ => 0
  | n + 1, x0, x1, x2 =>
    if x2 ≤ 0 then
      (-9999 : Int32)
    else
      if x0 < 0 then
        if 0 < x1 then
          if x0 < 0 then
            if 0 ≤ x0 then
              f_X11_simplest_L14 n x0 x1 (x2 / (2 : Int32))
            else
              if (0 : Int32) ≤ x0 then
                f_X11_simplest_L14 n x0 x1 (x2 / (2 : Int32))
              else
                (0 : Int32)
          else
            if x1 ≤ (0 : Int32) then
              if 0 ≤ x0 then
                f_X11_simplest_L14 n x0 x1 (x2 / (2 : Int32))
              else
                if (0 : Int32) ≤ x0 then
                  f_X11_simplest_L14 n x0 x1 (x2 / (2 : Int32))
                else
                  (0 : Int32)
            else
              (0 : Int32)
        else
          if x0 < 0 then
            if 0 ≤ x0 then
              f_X11_simplest_L14 n x0 x1 (x2 / (2 : Int32))
            else
              if (((x1 / x2) - (1 : Int32)) * x2) ≤ x0 then
                f_X11_simplest_L14 n x0 x1 (x2 / (2 : Int32))
              else
                (((x1 / x2) - (1 : Int32)) * x2)
          else
            if x1 ≤ (0 : Int32) then
              if 0 ≤ x0 then
                f_X11_simplest_L14 n x0 x1 (x2 / (2 : Int32))
              else
                if (((x1 / x2) - (1 : Int32)) * x2) ≤ x0 then
                  f_X11_simplest_L14 n x0 x1 (x2 / (2 : Int32))
                else
                  (((x1 / x2) - (1 : Int32)) * x2)
            else
              (0 : Int32)
      else
        if 0 < x1 then
          if x0 < 0 then
            if 0 ≤ x0 then
              f_X11_simplest_L14 n x0 x1 (x2 / (2 : Int32))
            else
              if (0 : Int32) ≤ x0 then
                f_X11_simplest_L14 n x0 x1 (x2 / (2 : Int32))
              else
                (0 : Int32)
          else
            if x1 ≤ (((x0 / x2) + (1 : Int32)) * x2) then
              if 0 ≤ x0 then
                f_X11_simplest_L14 n x0 x1 (x2 / (2 : Int32))
              else
                if (0 : Int32) ≤ x0 then
                  f_X11_simplest_L14 n x0 x1 (x2 / (2 : Int32))
                else
                  (0 : Int32)
            else
              (((x0 / x2) + (1 : Int32)) * x2)
        else
          if x0 < 0 then
            if 0 ≤ x0 then
              f_X11_simplest_L14 n x0 x1 (x2 / (2 : Int32))
            else
              if (((x1 / x2) - (1 : Int32)) * x2) ≤ x0 then
                f_X11_simplest_L14 n x0 x1 (x2 / (2 : Int32))
              else
                (((x1 / x2) - (1 : Int32)) * x2)
          else
            if x1 ≤ (((x0 / x2) + (1 : Int32)) * x2) then
              if 0 ≤ x0 then
                f_X11_simplest_L14 n x0 x1 (x2 / (2 : Int32))
              else
                if (((x1 / x2) - (1 : Int32)) * x2) ≤ x0 then
                  f_X11_simplest_L14 n x0 x1 (x2 / (2 : Int32))
                else
                  (((x1 / x2) - (1 : Int32)) * x2)
            else
              (((x0 / x2) + (1 : Int32)) * x2)
theorem f_X11_simplest_L14_s {n : Nat} {x0 : Int32} {x1 : Int32} {x2 : Int32} : f_X11_simplest_L14 (n + 1) x0 x1 x2 =
    (if x2 ≤ 0 then
      (-9999 : Int32)
    else
      if x0 < 0 then
        if 0 < x1 then
          if x0 < 0 then
            if 0 ≤ x0 then
              f_X11_simplest_L14 n x0 x1 (x2 / (2 : Int32))
            else
              if (0 : Int32) ≤ x0 then
                f_X11_simplest_L14 n x0 x1 (x2 / (2 : Int32))
              else
                (0 : Int32)
          else
            if x1 ≤ (0 : Int32) then
              if 0 ≤ x0 then
                f_X11_simplest_L14 n x0 x1 (x2 / (2 : Int32))
              else
                if (0 : Int32) ≤ x0 then
                  f_X11_simplest_L14 n x0 x1 (x2 / (2 : Int32))
                else
                  (0 : Int32)
            else
              (0 : Int32)
        else
          if x0 < 0 then
            if 0 ≤ x0 then
              f_X11_simplest_L14 n x0 x1 (x2 / (2 : Int32))
            else
              if (((x1 / x2) - (1 : Int32)) * x2) ≤ x0 then
                f_X11_simplest_L14 n x0 x1 (x2 / (2 : Int32))
              else
                (((x1 / x2) - (1 : Int32)) * x2)
          else
            if x1 ≤ (0 : Int32) then
              if 0 ≤ x0 then
                f_X11_simplest_L14 n x0 x1 (x2 / (2 : Int32))
              else
                if (((x1 / x2) - (1 : Int32)) * x2) ≤ x0 then
                  f_X11_simplest_L14 n x0 x1 (x2 / (2 : Int32))
                else
                  (((x1 / x2) - (1 : Int32)) * x2)
            else
              (0 : Int32)
      else
        if 0 < x1 then
          if x0 < 0 then
            if 0 ≤ x0 then
              f_X11_simplest_L14 n x0 x1 (x2 / (2 : Int32))
            else
              if (0 : Int32) ≤ x0 then
                f_X11_simplest_L14 n x0 x1 (x2 / (2 : Int32))
              else
                (0 : Int32)
          else
            if x1 ≤ (((x0 / x2) + (1 : Int32)) * x2) then
              if 0 ≤ x0 then
                f_X11_simplest_L14 n x0 x1 (x2 / (2 : Int32))
              else
                if (0 : Int32) ≤ x0 then
                  f_X11_simplest_L14 n x0 x1 (x2 / (2 : Int32))
                else
                  (0 : Int32)
            else
              (((x0 / x2) + (1 : Int32)) * x2)
        else
          if x0 < 0 then
            if 0 ≤ x0 then
              f_X11_simplest_L14 n x0 x1 (x2 / (2 : Int32))
            else
              if (((x1 / x2) - (1 : Int32)) * x2) ≤ x0 then
                f_X11_simplest_L14 n x0 x1 (x2 / (2 : Int32))
              else
                (((x1 / x2) - (1 : Int32)) * x2)
          else
            if x1 ≤ (((x0 / x2) + (1 : Int32)) * x2) then
              if 0 ≤ x0 then
                f_X11_simplest_L14 n x0 x1 (x2 / (2 : Int32))
              else
                if (((x1 / x2) - (1 : Int32)) * x2) ≤ x0 then
                  f_X11_simplest_L14 n x0 x1 (x2 / (2 : Int32))
                else
                  (((x1 / x2) - (1 : Int32)) * x2)
            else
              (((x0 / x2) + (1 : Int32)) * x2)) := rfl
def f_X11_simplest (p1 : Int32) (p2 : Int32) : Int32 :=
  if 0 ≤ p1 then
    f_X11_simplest_L14 10 p1 p2 (256 : Int32)
  else
    if p2 ≤ 0 then
      f_X11_simplest_L14 10 p1 p2 (256 : Int32)
    else
      (0 : Int32)
theorem f_X11_simplest_s {p1 : Int32} {p2 : Int32} : f_X11_simplest p1 p2 =
  (if 0 ≤ p1 then
    f_X11_simplest_L14 10 p1 p2 (256 : Int32)
  else
    if p2 ≤ 0 then
      f_X11_simplest_L14 10 p1 p2 (256 : Int32)
    else
      (0 : Int32)) := rfl
def f_X11_worthFrom_L9 : Nat → Int32 → (Nat → Int32) → (Nat → Int32) → (Nat → Int32) → Int32 → Int32 → Int32 → Int32 → Int32
  | 0, _, _, _, _, _, _, _, _ => 0
  | n + 1, branches, kindOf, onOf, worthBy, x1, x2, x3, x4 =>
    if branches ≤ x4 then
      if x3 ≤ x2 then
        (-9999 : Int32)
      else
        (f_X11_simplest x2 x3)
    else
      if (f_X11_mayCut branches kindOf onOf (0 : Int32) x4 x1) = 0 then
        if (f_X11_mayCut branches kindOf onOf (1 : Int32) x4 x1) = 0 then
          if (f_X11_mayCut branches kindOf onOf (0 : Int32) x4 x1) = 0 then
            if (f_X11_mayCut branches kindOf onOf (1 : Int32) x4 x1) = 0 then
              f_X11_worthFrom_L9 n branches kindOf onOf worthBy x1 x2 x3 (x4 + (1 : Int32))
            else
              if x3 ≤ (worthBy ((f_X11_leaves branches onOf x4 x1)).toNatClampNeg) then
                f_X11_worthFrom_L9 n branches kindOf onOf worthBy x1 x2 x3 (x4 + (1 : Int32))
              else
                f_X11_worthFrom_L9 n branches kindOf onOf worthBy x1 x2 (worthBy ((f_X11_leaves branches onOf x4 x1)).toNatClampNeg) (x4 + (1 : Int32))
          else
            if (worthBy ((f_X11_leaves branches onOf x4 x1)).toNatClampNeg) ≤ x2 then
              if (f_X11_mayCut branches kindOf onOf (1 : Int32) x4 x1) = 0 then
                f_X11_worthFrom_L9 n branches kindOf onOf worthBy x1 x2 x3 (x4 + (1 : Int32))
              else
                if x3 ≤ (worthBy ((f_X11_leaves branches onOf x4 x1)).toNatClampNeg) then
                  f_X11_worthFrom_L9 n branches kindOf onOf worthBy x1 x2 x3 (x4 + (1 : Int32))
                else
                  f_X11_worthFrom_L9 n branches kindOf onOf worthBy x1 x2 (worthBy ((f_X11_leaves branches onOf x4 x1)).toNatClampNeg) (x4 + (1 : Int32))
            else
              if (f_X11_mayCut branches kindOf onOf (1 : Int32) x4 x1) = 0 then
                f_X11_worthFrom_L9 n branches kindOf onOf worthBy x1 (worthBy ((f_X11_leaves branches onOf x4 x1)).toNatClampNeg) x3 (x4 + (1 : Int32))
              else
                if x3 ≤ (worthBy ((f_X11_leaves branches onOf x4 x1)).toNatClampNeg) then
                  f_X11_worthFrom_L9 n branches kindOf onOf worthBy x1 (worthBy ((f_X11_leaves branches onOf x4 x1)).toNatClampNeg) x3 (x4 + (1 : Int32))
                else
                  f_X11_worthFrom_L9 n branches kindOf onOf worthBy x1 (worthBy ((f_X11_leaves branches onOf x4 x1)).toNatClampNeg) (worthBy ((f_X11_leaves branches onOf x4 x1)).toNatClampNeg) (x4 + (1 : Int32))
        else
          if (worthBy ((f_X11_leaves branches onOf x4 x1)).toNatClampNeg) = (-9999 : Int32) then
            (-9999 : Int32)
          else
            if (f_X11_mayCut branches kindOf onOf (0 : Int32) x4 x1) = 0 then
              if (f_X11_mayCut branches kindOf onOf (1 : Int32) x4 x1) = 0 then
                f_X11_worthFrom_L9 n branches kindOf onOf worthBy x1 x2 x3 (x4 + (1 : Int32))
              else
                if x3 ≤ (worthBy ((f_X11_leaves branches onOf x4 x1)).toNatClampNeg) then
                  f_X11_worthFrom_L9 n branches kindOf onOf worthBy x1 x2 x3 (x4 + (1 : Int32))
                else
                  f_X11_worthFrom_L9 n branches kindOf onOf worthBy x1 x2 (worthBy ((f_X11_leaves branches onOf x4 x1)).toNatClampNeg) (x4 + (1 : Int32))
            else
              if (worthBy ((f_X11_leaves branches onOf x4 x1)).toNatClampNeg) ≤ x2 then
                if (f_X11_mayCut branches kindOf onOf (1 : Int32) x4 x1) = 0 then
                  f_X11_worthFrom_L9 n branches kindOf onOf worthBy x1 x2 x3 (x4 + (1 : Int32))
                else
                  if x3 ≤ (worthBy ((f_X11_leaves branches onOf x4 x1)).toNatClampNeg) then
                    f_X11_worthFrom_L9 n branches kindOf onOf worthBy x1 x2 x3 (x4 + (1 : Int32))
                  else
                    f_X11_worthFrom_L9 n branches kindOf onOf worthBy x1 x2 (worthBy ((f_X11_leaves branches onOf x4 x1)).toNatClampNeg) (x4 + (1 : Int32))
              else
                if (f_X11_mayCut branches kindOf onOf (1 : Int32) x4 x1) = 0 then
                  f_X11_worthFrom_L9 n branches kindOf onOf worthBy x1 (worthBy ((f_X11_leaves branches onOf x4 x1)).toNatClampNeg) x3 (x4 + (1 : Int32))
                else
                  if x3 ≤ (worthBy ((f_X11_leaves branches onOf x4 x1)).toNatClampNeg) then
                    f_X11_worthFrom_L9 n branches kindOf onOf worthBy x1 (worthBy ((f_X11_leaves branches onOf x4 x1)).toNatClampNeg) x3 (x4 + (1 : Int32))
                  else
                    f_X11_worthFrom_L9 n branches kindOf onOf worthBy x1 (worthBy ((f_X11_leaves branches onOf x4 x1)).toNatClampNeg) (worthBy ((f_X11_leaves branches onOf x4 x1)).toNatClampNeg) (x4 + (1 : Int32))
      else
        if (worthBy ((f_X11_leaves branches onOf x4 x1)).toNatClampNeg) = (-9999 : Int32) then
          (-9999 : Int32)
        else
          if (f_X11_mayCut branches kindOf onOf (0 : Int32) x4 x1) = 0 then
            if (f_X11_mayCut branches kindOf onOf (1 : Int32) x4 x1) = 0 then
              f_X11_worthFrom_L9 n branches kindOf onOf worthBy x1 x2 x3 (x4 + (1 : Int32))
            else
              if x3 ≤ (worthBy ((f_X11_leaves branches onOf x4 x1)).toNatClampNeg) then
                f_X11_worthFrom_L9 n branches kindOf onOf worthBy x1 x2 x3 (x4 + (1 : Int32))
              else
                f_X11_worthFrom_L9 n branches kindOf onOf worthBy x1 x2 (worthBy ((f_X11_leaves branches onOf x4 x1)).toNatClampNeg) (x4 + (1 : Int32))
          else
            if (worthBy ((f_X11_leaves branches onOf x4 x1)).toNatClampNeg) ≤ x2 then
              if (f_X11_mayCut branches kindOf onOf (1 : Int32) x4 x1) = 0 then
                f_X11_worthFrom_L9 n branches kindOf onOf worthBy x1 x2 x3 (x4 + (1 : Int32))
              else
                if x3 ≤ (worthBy ((f_X11_leaves branches onOf x4 x1)).toNatClampNeg) then
                  f_X11_worthFrom_L9 n branches kindOf onOf worthBy x1 x2 x3 (x4 + (1 : Int32))
                else
                  f_X11_worthFrom_L9 n branches kindOf onOf worthBy x1 x2 (worthBy ((f_X11_leaves branches onOf x4 x1)).toNatClampNeg) (x4 + (1 : Int32))
            else
              if (f_X11_mayCut branches kindOf onOf (1 : Int32) x4 x1) = 0 then
                f_X11_worthFrom_L9 n branches kindOf onOf worthBy x1 (worthBy ((f_X11_leaves branches onOf x4 x1)).toNatClampNeg) x3 (x4 + (1 : Int32))
              else
                if x3 ≤ (worthBy ((f_X11_leaves branches onOf x4 x1)).toNatClampNeg) then
                  f_X11_worthFrom_L9 n branches kindOf onOf worthBy x1 (worthBy ((f_X11_leaves branches onOf x4 x1)).toNatClampNeg) x3 (x4 + (1 : Int32))
                else
                  f_X11_worthFrom_L9 n branches kindOf onOf worthBy x1 (worthBy ((f_X11_leaves branches onOf x4 x1)).toNatClampNeg) (worthBy ((f_X11_leaves branches onOf x4 x1)).toNatClampNeg) (x4 + (1 : Int32))
theorem f_X11_worthFrom_L9_s {n : Nat} {branches : Int32} {kindOf : Nat → Int32} {onOf : Nat → Int32} {worthBy : Nat → Int32} {x1 : Int32} {x2 : Int32} {x3 : Int32} {x4 : Int32} : f_X11_worthFrom_L9 (n + 1) branches kindOf onOf worthBy x1 x2 x3 x4 =
    (if branches ≤ x4 then
      if x3 ≤ x2 then
        (-9999 : Int32)
      else
        (f_X11_simplest x2 x3)
    else
      if (f_X11_mayCut branches kindOf onOf (0 : Int32) x4 x1) = 0 then
        if (f_X11_mayCut branches kindOf onOf (1 : Int32) x4 x1) = 0 then
          if (f_X11_mayCut branches kindOf onOf (0 : Int32) x4 x1) = 0 then
            if (f_X11_mayCut branches kindOf onOf (1 : Int32) x4 x1) = 0 then
              f_X11_worthFrom_L9 n branches kindOf onOf worthBy x1 x2 x3 (x4 + (1 : Int32))
            else
              if x3 ≤ (worthBy ((f_X11_leaves branches onOf x4 x1)).toNatClampNeg) then
                f_X11_worthFrom_L9 n branches kindOf onOf worthBy x1 x2 x3 (x4 + (1 : Int32))
              else
                f_X11_worthFrom_L9 n branches kindOf onOf worthBy x1 x2 (worthBy ((f_X11_leaves branches onOf x4 x1)).toNatClampNeg) (x4 + (1 : Int32))
          else
            if (worthBy ((f_X11_leaves branches onOf x4 x1)).toNatClampNeg) ≤ x2 then
              if (f_X11_mayCut branches kindOf onOf (1 : Int32) x4 x1) = 0 then
                f_X11_worthFrom_L9 n branches kindOf onOf worthBy x1 x2 x3 (x4 + (1 : Int32))
              else
                if x3 ≤ (worthBy ((f_X11_leaves branches onOf x4 x1)).toNatClampNeg) then
                  f_X11_worthFrom_L9 n branches kindOf onOf worthBy x1 x2 x3 (x4 + (1 : Int32))
                else
                  f_X11_worthFrom_L9 n branches kindOf onOf worthBy x1 x2 (worthBy ((f_X11_leaves branches onOf x4 x1)).toNatClampNeg) (x4 + (1 : Int32))
            else
              if (f_X11_mayCut branches kindOf onOf (1 : Int32) x4 x1) = 0 then
                f_X11_worthFrom_L9 n branches kindOf onOf worthBy x1 (worthBy ((f_X11_leaves branches onOf x4 x1)).toNatClampNeg) x3 (x4 + (1 : Int32))
              else
                if x3 ≤ (worthBy ((f_X11_leaves branches onOf x4 x1)).toNatClampNeg) then
                  f_X11_worthFrom_L9 n branches kindOf onOf worthBy x1 (worthBy ((f_X11_leaves branches onOf x4 x1)).toNatClampNeg) x3 (x4 + (1 : Int32))
                else
                  f_X11_worthFrom_L9 n branches kindOf onOf worthBy x1 (worthBy ((f_X11_leaves branches onOf x4 x1)).toNatClampNeg) (worthBy ((f_X11_leaves branches onOf x4 x1)).toNatClampNeg) (x4 + (1 : Int32))
        else
          if (worthBy ((f_X11_leaves branches onOf x4 x1)).toNatClampNeg) = (-9999 : Int32) then
            (-9999 : Int32)
          else
            if (f_X11_mayCut branches kindOf onOf (0 : Int32) x4 x1) = 0 then
              if (f_X11_mayCut branches kindOf onOf (1 : Int32) x4 x1) = 0 then
                f_X11_worthFrom_L9 n branches kindOf onOf worthBy x1 x2 x3 (x4 + (1 : Int32))
              else
                if x3 ≤ (worthBy ((f_X11_leaves branches onOf x4 x1)).toNatClampNeg) then
                  f_X11_worthFrom_L9 n branches kindOf onOf worthBy x1 x2 x3 (x4 + (1 : Int32))
                else
                  f_X11_worthFrom_L9 n branches kindOf onOf worthBy x1 x2 (worthBy ((f_X11_leaves branches onOf x4 x1)).toNatClampNeg) (x4 + (1 : Int32))
            else
              if (worthBy ((f_X11_leaves branches onOf x4 x1)).toNatClampNeg) ≤ x2 then
                if (f_X11_mayCut branches kindOf onOf (1 : Int32) x4 x1) = 0 then
                  f_X11_worthFrom_L9 n branches kindOf onOf worthBy x1 x2 x3 (x4 + (1 : Int32))
                else
                  if x3 ≤ (worthBy ((f_X11_leaves branches onOf x4 x1)).toNatClampNeg) then
                    f_X11_worthFrom_L9 n branches kindOf onOf worthBy x1 x2 x3 (x4 + (1 : Int32))
                  else
                    f_X11_worthFrom_L9 n branches kindOf onOf worthBy x1 x2 (worthBy ((f_X11_leaves branches onOf x4 x1)).toNatClampNeg) (x4 + (1 : Int32))
              else
                if (f_X11_mayCut branches kindOf onOf (1 : Int32) x4 x1) = 0 then
                  f_X11_worthFrom_L9 n branches kindOf onOf worthBy x1 (worthBy ((f_X11_leaves branches onOf x4 x1)).toNatClampNeg) x3 (x4 + (1 : Int32))
                else
                  if x3 ≤ (worthBy ((f_X11_leaves branches onOf x4 x1)).toNatClampNeg) then
                    f_X11_worthFrom_L9 n branches kindOf onOf worthBy x1 (worthBy ((f_X11_leaves branches onOf x4 x1)).toNatClampNeg) x3 (x4 + (1 : Int32))
                  else
                    f_X11_worthFrom_L9 n branches kindOf onOf worthBy x1 (worthBy ((f_X11_leaves branches onOf x4 x1)).toNatClampNeg) (worthBy ((f_X11_leaves branches onOf x4 x1)).toNatClampNeg) (x4 + (1 : Int32))
      else
        if (worthBy ((f_X11_leaves branches onOf x4 x1)).toNatClampNeg) = (-9999 : Int32) then
          (-9999 : Int32)
        else
          if (f_X11_mayCut branches kindOf onOf (0 : Int32) x4 x1) = 0 then
            if (f_X11_mayCut branches kindOf onOf (1 : Int32) x4 x1) = 0 then
              f_X11_worthFrom_L9 n branches kindOf onOf worthBy x1 x2 x3 (x4 + (1 : Int32))
            else
              if x3 ≤ (worthBy ((f_X11_leaves branches onOf x4 x1)).toNatClampNeg) then
                f_X11_worthFrom_L9 n branches kindOf onOf worthBy x1 x2 x3 (x4 + (1 : Int32))
              else
                f_X11_worthFrom_L9 n branches kindOf onOf worthBy x1 x2 (worthBy ((f_X11_leaves branches onOf x4 x1)).toNatClampNeg) (x4 + (1 : Int32))
          else
            if (worthBy ((f_X11_leaves branches onOf x4 x1)).toNatClampNeg) ≤ x2 then
              if (f_X11_mayCut branches kindOf onOf (1 : Int32) x4 x1) = 0 then
                f_X11_worthFrom_L9 n branches kindOf onOf worthBy x1 x2 x3 (x4 + (1 : Int32))
              else
                if x3 ≤ (worthBy ((f_X11_leaves branches onOf x4 x1)).toNatClampNeg) then
                  f_X11_worthFrom_L9 n branches kindOf onOf worthBy x1 x2 x3 (x4 + (1 : Int32))
                else
                  f_X11_worthFrom_L9 n branches kindOf onOf worthBy x1 x2 (worthBy ((f_X11_leaves branches onOf x4 x1)).toNatClampNeg) (x4 + (1 : Int32))
            else
              if (f_X11_mayCut branches kindOf onOf (1 : Int32) x4 x1) = 0 then
                f_X11_worthFrom_L9 n branches kindOf onOf worthBy x1 (worthBy ((f_X11_leaves branches onOf x4 x1)).toNatClampNeg) x3 (x4 + (1 : Int32))
              else
                if x3 ≤ (worthBy ((f_X11_leaves branches onOf x4 x1)).toNatClampNeg) then
                  f_X11_worthFrom_L9 n branches kindOf onOf worthBy x1 (worthBy ((f_X11_leaves branches onOf x4 x1)).toNatClampNeg) x3 (x4 + (1 : Int32))
                else
                  f_X11_worthFrom_L9 n branches kindOf onOf worthBy x1 (worthBy ((f_X11_leaves branches onOf x4 x1)).toNatClampNeg) (worthBy ((f_X11_leaves branches onOf x4 x1)).toNatClampNeg) (x4 + (1 : Int32))) := rfl
def f_X11_worthFrom (branches : Int32) (kindOf : Nat → Int32) (onOf : Nat → Int32) (worthBy : Nat → Int32) (p1 : Int32) : Int32 :=
  f_X11_worthFrom_L9 9 branches kindOf onOf worthBy p1 (-1048576 : Int32) (1048576 : Int32) (0 : Int32)
theorem f_X11_worthFrom_s {branches : Int32} {kindOf : Nat → Int32} {onOf : Nat → Int32} {worthBy : Nat → Int32} {p1 : Int32} : f_X11_worthFrom branches kindOf onOf worthBy p1 =
  (f_X11_worthFrom_L9 9 branches kindOf onOf worthBy p1 (-1048576 : Int32) (1048576 : Int32) (0 : Int32)) := rfl
def f_X11_layWorth_L2 : Nat → Int32 → Int32 → (Nat → Int32) → (Nat → Int32) → (Nat → Int32) → Int32 → (Nat → Int32)
  | 0, _, _, _, _, worthBy, _ => worthBy
  | n + 1, branches, stand, kindOf, onOf, worthBy, x1 =>
    if stand < x1 then
      worthBy
    else
      if (x1 &&& (stand ^^^ (-1 : Int32))) = 0 then
        f_X11_layWorth_L2 n branches stand kindOf onOf (upd worthBy (x1).toNatClampNeg (f_X11_worthFrom branches kindOf onOf worthBy x1)) (x1 + (1 : Int32))
      else
        f_X11_layWorth_L2 n branches stand kindOf onOf worthBy (x1 + (1 : Int32))
theorem f_X11_layWorth_L2_s {n : Nat} {branches : Int32} {stand : Int32} {kindOf : Nat → Int32} {onOf : Nat → Int32} {worthBy : Nat → Int32} {x1 : Int32} : f_X11_layWorth_L2 (n + 1) branches stand kindOf onOf worthBy x1 =
    (if stand < x1 then
      worthBy
    else
      if (x1 &&& (stand ^^^ (-1 : Int32))) = 0 then
        f_X11_layWorth_L2 n branches stand kindOf onOf (upd worthBy (x1).toNatClampNeg (f_X11_worthFrom branches kindOf onOf worthBy x1)) (x1 + (1 : Int32))
      else
        f_X11_layWorth_L2 n branches stand kindOf onOf worthBy (x1 + (1 : Int32))) := rfl
def f_X11_layWorth (branches : Int32) (stand : Int32) (kindOf : Nat → Int32) (onOf : Nat → Int32) (worthBy : Nat → Int32) : (Nat → Int32) :=
  f_X11_layWorth_L2 257 branches stand kindOf onOf worthBy (0 : Int32)
theorem f_X11_layWorth_s {branches : Int32} {stand : Int32} {kindOf : Nat → Int32} {onOf : Nat → Int32} {worthBy : Nat → Int32} : f_X11_layWorth branches stand kindOf onOf worthBy =
  (f_X11_layWorth_L2 257 branches stand kindOf onOf worthBy (0 : Int32)) := rfl
def f_X11_worth (branches : Int32) (stand : Int32) (kindOf : Nat → Int32) (onOf : Nat → Int32) (worthBy : Nat → Int32) : Int32 × (Nat → Int32) :=
  if branches = 0 then
    ((-103 : Int32), worthBy)
  else
    (((f_X11_layWorth branches stand kindOf onOf worthBy) (stand).toNatClampNeg), (f_X11_layWorth branches stand kindOf onOf worthBy))
theorem f_X11_worth_s {branches : Int32} {stand : Int32} {kindOf : Nat → Int32} {onOf : Nat → Int32} {worthBy : Nat → Int32} : f_X11_worth branches stand kindOf onOf worthBy =
  (if branches = 0 then
    ((-103 : Int32), worthBy)
  else
    (((f_X11_layWorth branches stand kindOf onOf worthBy) (stand).toNatClampNeg), (f_X11_layWorth branches stand kindOf onOf worthBy))) := rfl
def f_X11_treeNow (branches : Int32) (stand : Int32) (kindOf : Nat → Int32) (onOf : Nat → Int32) (worthBy : Nat → Int32) (p1 : Int32) : Int32 × (Nat → Int32) :=
  (((f_X11_layWorth branches stand kindOf onOf worthBy) ((stand &&& ((f_X11_above branches onOf p1) ||| ((1 : Int32) <<< (p1 &&& 31))))).toNatClampNeg), (f_X11_layWorth branches stand kindOf onOf worthBy))
theorem f_X11_treeNow_s {branches : Int32} {stand : Int32} {kindOf : Nat → Int32} {onOf : Nat → Int32} {worthBy : Nat → Int32} {p1 : Int32} : f_X11_treeNow branches stand kindOf onOf worthBy p1 =
  ((((f_X11_layWorth branches stand kindOf onOf worthBy) ((stand &&& ((f_X11_above branches onOf p1) ||| ((1 : Int32) <<< (p1 &&& 31))))).toNatClampNeg), (f_X11_layWorth branches stand kindOf onOf worthBy))) := rfl
def f_X11_tree (branches : Int32) (stand : Int32) (kindOf : Nat → Int32) (onOf : Nat → Int32) (worthBy : Nat → Int32) (p1 : Int32) : Int32 × (Nat → Int32) :=
  if (f_X11_isBranch branches p1) = 0 then
    ((-101 : Int32), worthBy)
  else
    if (onOf (p1).toNatClampNeg) = (-1 : Int32) then
      ((fun (z_1 : Int32 × (Nat → Int32)) =>
      (z_1.1, z_1.2)) (f_X11_treeNow branches stand kindOf onOf worthBy p1))
    else
      ((-103 : Int32), worthBy)
theorem f_X11_tree_s {branches : Int32} {stand : Int32} {kindOf : Nat → Int32} {onOf : Nat → Int32} {worthBy : Nat → Int32} {p1 : Int32} : f_X11_tree branches stand kindOf onOf worthBy p1 =
  (if (f_X11_isBranch branches p1) = 0 then
    ((-101 : Int32), worthBy)
  else
    if (onOf (p1).toNatClampNeg) = (-1 : Int32) then
      ((fun (z_1 : Int32 × (Nat → Int32)) =>
      (z_1.1, z_1.2)) (f_X11_treeNow branches stand kindOf onOf worthBy p1))
    else
      ((-103 : Int32), worthBy)) := rfl
def f_X11_isEven (branches : Int32) (stand : Int32) (kindOf : Nat → Int32) (onOf : Nat → Int32) (winner : Nat → Int32) : Int32 × (Nat → Int32) :=
  if ((f_X11_layWinners branches stand kindOf onOf winner) (((2 : Int32) * stand)).toNatClampNeg) = (1 : Int32) then
    if ((f_X11_layWinners branches stand kindOf onOf winner) ((((2 : Int32) * stand) + (1 : Int32))).toNatClampNeg) = 0 then
      ((1 : Int32), (f_X11_layWinners branches stand kindOf onOf winner))
    else
      ((0 : Int32), (f_X11_layWinners branches stand kindOf onOf winner))
  else
    ((0 : Int32), (f_X11_layWinners branches stand kindOf onOf winner))
theorem f_X11_isEven_s {branches : Int32} {stand : Int32} {kindOf : Nat → Int32} {onOf : Nat → Int32} {winner : Nat → Int32} : f_X11_isEven branches stand kindOf onOf winner =
  (if ((f_X11_layWinners branches stand kindOf onOf winner) (((2 : Int32) * stand)).toNatClampNeg) = (1 : Int32) then
    if ((f_X11_layWinners branches stand kindOf onOf winner) ((((2 : Int32) * stand) + (1 : Int32))).toNatClampNeg) = 0 then
      ((1 : Int32), (f_X11_layWinners branches stand kindOf onOf winner))
    else
      ((0 : Int32), (f_X11_layWinners branches stand kindOf onOf winner))
  else
    ((0 : Int32), (f_X11_layWinners branches stand kindOf onOf winner))) := rfl
def f_X11_evenNow_L32 (k : (Nat → Int32) → (Nat → Int32) → (Int32) → (Int32) → Int32 × (Nat → Int32) × (Nat → Int32)) : Nat → Int32 → Int32 → (Nat → Int32) → (Nat → Int32) → (Nat → Int32) → Int32 → Int32 → Int32 → Int32 → Int32 × (Nat → Int32) × (Nat → Int32)
  | 0, _, _, kindOf, _, winner, _, _, _, _ => (0, kindOf, winner)
  | n + 1, branches, stand, kindOf, onOf, winner, x1, x2, x3, x4 =>
    if (4 : Int32) < x4 then
      k kindOf winner x1 x4
    else
      if x1 = (-1 : Int32) then
        if x4 = x3 then
          f_X11_evenNow_L32 k n branches stand (upd kindOf (x2).toNatClampNeg x4) onOf winner (-1 : Int32) x2 x3 (x4 + (1 : Int32))
        else
          ((fun (z_2 : Int32 × (Nat → Int32)) =>
          if z_2.1 = 0 then
              f_X11_evenNow_L32 k n branches stand (upd kindOf (x2).toNatClampNeg x4) onOf z_2.2 (-1 : Int32) x2 x3 (x4 + (1 : Int32))
            else
              f_X11_evenNow_L32 k n branches stand (upd kindOf (x2).toNatClampNeg x4) onOf z_2.2 (((10 : Int32) * x2) + x4) x2 x3 (x4 + (1 : Int32))) (f_X11_isEven branches stand (upd kindOf (x2).toNatClampNeg x4) onOf winner))
      else
        k kindOf winner x1 x4
theorem f_X11_evenNow_L32_s {k : (Nat → Int32) → (Nat → Int32) → (Int32) → (Int32) → Int32 × (Nat → Int32) × (Nat → Int32)} {n : Nat} {branches : Int32} {stand : Int32} {kindOf : Nat → Int32} {onOf : Nat → Int32} {winner : Nat → Int32} {x1 : Int32} {x2 : Int32} {x3 : Int32} {x4 : Int32} : f_X11_evenNow_L32 k (n + 1) branches stand kindOf onOf winner x1 x2 x3 x4 =
    (if (4 : Int32) < x4 then
      k kindOf winner x1 x4
    else
      if x1 = (-1 : Int32) then
        if x4 = x3 then
          f_X11_evenNow_L32 k n branches stand (upd kindOf (x2).toNatClampNeg x4) onOf winner (-1 : Int32) x2 x3 (x4 + (1 : Int32))
        else
          ((fun (z_2 : Int32 × (Nat → Int32)) =>
          if z_2.1 = 0 then
              f_X11_evenNow_L32 k n branches stand (upd kindOf (x2).toNatClampNeg x4) onOf z_2.2 (-1 : Int32) x2 x3 (x4 + (1 : Int32))
            else
              f_X11_evenNow_L32 k n branches stand (upd kindOf (x2).toNatClampNeg x4) onOf z_2.2 (((10 : Int32) * x2) + x4) x2 x3 (x4 + (1 : Int32))) (f_X11_isEven branches stand (upd kindOf (x2).toNatClampNeg x4) onOf winner))
      else
        k kindOf winner x1 x4) := rfl
def f_X11_evenNow_L14 : Nat → Int32 → Int32 → (Nat → Int32) → (Nat → Int32) → (Nat → Int32) → Int32 → Int32 → Int32 × (Nat → Int32) × (Nat → Int32)
  | 0, _, _, kindOf, _, winner, _, _ => (0, kindOf, winner)
  | n + 1, branches, stand, kindOf, onOf, winner, x1, x2 =>
    if branches ≤ x2 then
      ((-1 : Int32), kindOf, winner)
    else
      f_X11_evenNow_L32 (fun (kindOf_3 : Nat → Int32) (winner_4 : Nat → Int32) (x1_5 : Int32) (x4_6 : Int32) => if x1_5 = (-1 : Int32) then
          f_X11_evenNow_L14 n branches stand (upd kindOf_3 (x2).toNatClampNeg (kindOf (x2).toNatClampNeg)) onOf winner_4 x1_5 (x2 + (1 : Int32))
        else
          (x1_5, (upd kindOf_3 (x2).toNatClampNeg (kindOf (x2).toNatClampNeg)), winner_4)) 6 branches stand kindOf onOf winner x1 x2 (kindOf (x2).toNatClampNeg) (0 : Int32)
theorem f_X11_evenNow_L14_s {n : Nat} {branches : Int32} {stand : Int32} {kindOf : Nat → Int32} {onOf : Nat → Int32} {winner : Nat → Int32} {x1 : Int32} {x2 : Int32} : f_X11_evenNow_L14 (n + 1) branches stand kindOf onOf winner x1 x2 =
    (if branches ≤ x2 then
      ((-1 : Int32), kindOf, winner)
    else
      f_X11_evenNow_L32 (fun (kindOf_3 : Nat → Int32) (winner_4 : Nat → Int32) (x1_5 : Int32) (x4_6 : Int32) => if x1_5 = (-1 : Int32) then
          f_X11_evenNow_L14 n branches stand (upd kindOf_3 (x2).toNatClampNeg (kindOf (x2).toNatClampNeg)) onOf winner_4 x1_5 (x2 + (1 : Int32))
        else
          (x1_5, (upd kindOf_3 (x2).toNatClampNeg (kindOf (x2).toNatClampNeg)), winner_4)) 6 branches stand kindOf onOf winner x1 x2 (kindOf (x2).toNatClampNeg) (0 : Int32)) := rfl
def f_X11_evenNow (branches : Int32) (stand : Int32) (kindOf : Nat → Int32) (onOf : Nat → Int32) (winner : Nat → Int32) : Int32 × (Nat → Int32) × (Nat → Int32) :=
  ((fun (z_1 : Int32 × (Nat → Int32)) =>
  if z_1.1 = 0 then
      f_X11_evenNow_L14 9 branches stand kindOf onOf z_1.2 (-1 : Int32) (0 : Int32)
    else
      ((-2 : Int32), kindOf, z_1.2)) (f_X11_isEven branches stand kindOf onOf winner))
theorem f_X11_evenNow_s {branches : Int32} {stand : Int32} {kindOf : Nat → Int32} {onOf : Nat → Int32} {winner : Nat → Int32} : f_X11_evenNow branches stand kindOf onOf winner =
  (((fun (z_1 : Int32 × (Nat → Int32)) =>
  if z_1.1 = 0 then
      f_X11_evenNow_L14 9 branches stand kindOf onOf z_1.2 (-1 : Int32) (0 : Int32)
    else
      ((-2 : Int32), kindOf, z_1.2)) (f_X11_isEven branches stand kindOf onOf winner))) := rfl
def f_X11_even (branches : Int32) (stand : Int32) (asks : Int32) (kindOf : Nat → Int32) (onOf : Nat → Int32) (winner : Nat → Int32) : Int32 × Int32 × (Nat → Int32) × (Nat → Int32) :=
  if branches = 0 then
    ((-103 : Int32), asks, kindOf, winner)
  else
    if asks = (30 : Int32) then
      ((-103 : Int32), asks, kindOf, winner)
    else
      ((fun (z_1 : Int32 × (Nat → Int32) × (Nat → Int32)) =>
      (z_1.1, (asks + (1 : Int32)), z_1.2.1, z_1.2.2)) (f_X11_evenNow branches stand kindOf onOf winner))
theorem f_X11_even_s {branches : Int32} {stand : Int32} {asks : Int32} {kindOf : Nat → Int32} {onOf : Nat → Int32} {winner : Nat → Int32} : f_X11_even branches stand asks kindOf onOf winner =
  (if branches = 0 then
    ((-103 : Int32), asks, kindOf, winner)
  else
    if asks = (30 : Int32) then
      ((-103 : Int32), asks, kindOf, winner)
    else
      ((fun (z_1 : Int32 × (Nat → Int32) × (Nat → Int32)) =>
      (z_1.1, (asks + (1 : Int32)), z_1.2.1, z_1.2.2)) (f_X11_evenNow branches stand kindOf onOf winner))) := rfl
def f_X11_partsFrom_L8 : Nat → Int32 → (Nat → Int32) → (Nat → Int32) → (Nat → Int64) → Int32 → Int32 → Int64 → Int32 → Int32 → Int64
  | 0, _, _, _, _, _, _, _, _, _ => 0
  | n + 1, branches, kindOf, onOf, partsBy, x1, x2, x3, x5, x6 =>
    if branches ≤ x6 then
      if x5 ≤ 0 then
        if x2 = 0 then
          (0 : Int64)
        else
          (182891520000 : Int64)
      else
        (x3 / ((x5).toInt64))
    else
      if (f_X11_mayCut branches kindOf onOf x2 x6 x1) = 0 then
        f_X11_partsFrom_L8 n branches kindOf onOf partsBy x1 x2 x3 x5 (x6 + (1 : Int32))
      else
        f_X11_partsFrom_L8 n branches kindOf onOf partsBy x1 x2 (x3 + (partsBy (((((2 : Int32) * (f_X11_leaves branches onOf x6 x1)) + (1 : Int32)) - x2)).toNatClampNeg)) (x5 + (1 : Int32)) (x6 + (1 : Int32))
theorem f_X11_partsFrom_L8_s {n : Nat} {branches : Int32} {kindOf : Nat → Int32} {onOf : Nat → Int32} {partsBy : Nat → Int64} {x1 : Int32} {x2 : Int32} {x3 : Int64} {x5 : Int32} {x6 : Int32} : f_X11_partsFrom_L8 (n + 1) branches kindOf onOf partsBy x1 x2 x3 x5 x6 =
    (if branches ≤ x6 then
      if x5 ≤ 0 then
        if x2 = 0 then
          (0 : Int64)
        else
          (182891520000 : Int64)
      else
        (x3 / ((x5).toInt64))
    else
      if (f_X11_mayCut branches kindOf onOf x2 x6 x1) = 0 then
        f_X11_partsFrom_L8 n branches kindOf onOf partsBy x1 x2 x3 x5 (x6 + (1 : Int32))
      else
        f_X11_partsFrom_L8 n branches kindOf onOf partsBy x1 x2 (x3 + (partsBy (((((2 : Int32) * (f_X11_leaves branches onOf x6 x1)) + (1 : Int32)) - x2)).toNatClampNeg)) (x5 + (1 : Int32)) (x6 + (1 : Int32))) := rfl
def f_X11_partsFrom (branches : Int32) (kindOf : Nat → Int32) (onOf : Nat → Int32) (partsBy : Nat → Int64) (p1 : Int32) (p2 : Int32) : Int64 :=
  f_X11_partsFrom_L8 9 branches kindOf onOf partsBy p1 p2 (0 : Int64) (0 : Int32) (0 : Int32)
theorem f_X11_partsFrom_s {branches : Int32} {kindOf : Nat → Int32} {onOf : Nat → Int32} {partsBy : Nat → Int64} {p1 : Int32} {p2 : Int32} : f_X11_partsFrom branches kindOf onOf partsBy p1 p2 =
  (f_X11_partsFrom_L8 9 branches kindOf onOf partsBy p1 p2 (0 : Int64) (0 : Int32) (0 : Int32)) := rfl
def f_X11_likelyNow_L2 : Nat → Int32 → Int32 → (Nat → Int32) → (Nat → Int32) → (Nat → Int64) → Int32 → Int32 → Int32 × (Nat → Int64)
  | 0, _, _, _, _, partsBy, _, _ => (0, partsBy)
  | n + 1, branches, stand, kindOf, onOf, partsBy, x1, x2 =>
    if stand < x2 then
      ((((((partsBy ((((2 : Int32) * stand) + x1)).toNatClampNeg) * (1000000 : Int64)) / (182891520000 : Int64))).toInt32), partsBy)
    else
      if (x2 &&& (stand ^^^ (-1 : Int32))) = 0 then
        f_X11_likelyNow_L2 n branches stand kindOf onOf (vp_updL (vp_updL partsBy (((2 : Int32) * x2)).toNatClampNeg (f_X11_partsFrom branches kindOf onOf partsBy x2 (0 : Int32))) ((((2 : Int32) * x2) + (1 : Int32))).toNatClampNeg (f_X11_partsFrom branches kindOf onOf (vp_updL partsBy (((2 : Int32) * x2)).toNatClampNeg (f_X11_partsFrom branches kindOf onOf partsBy x2 (0 : Int32))) x2 (1 : Int32))) x1 (x2 + (1 : Int32))
      else
        f_X11_likelyNow_L2 n branches stand kindOf onOf partsBy x1 (x2 + (1 : Int32))
theorem f_X11_likelyNow_L2_s {n : Nat} {branches : Int32} {stand : Int32} {kindOf : Nat → Int32} {onOf : Nat → Int32} {partsBy : Nat → Int64} {x1 : Int32} {x2 : Int32} : f_X11_likelyNow_L2 (n + 1) branches stand kindOf onOf partsBy x1 x2 =
    (if stand < x2 then
      ((((((partsBy ((((2 : Int32) * stand) + x1)).toNatClampNeg) * (1000000 : Int64)) / (182891520000 : Int64))).toInt32), partsBy)
    else
      if (x2 &&& (stand ^^^ (-1 : Int32))) = 0 then
        f_X11_likelyNow_L2 n branches stand kindOf onOf (vp_updL (vp_updL partsBy (((2 : Int32) * x2)).toNatClampNeg (f_X11_partsFrom branches kindOf onOf partsBy x2 (0 : Int32))) ((((2 : Int32) * x2) + (1 : Int32))).toNatClampNeg (f_X11_partsFrom branches kindOf onOf (vp_updL partsBy (((2 : Int32) * x2)).toNatClampNeg (f_X11_partsFrom branches kindOf onOf partsBy x2 (0 : Int32))) x2 (1 : Int32))) x1 (x2 + (1 : Int32))
      else
        f_X11_likelyNow_L2 n branches stand kindOf onOf partsBy x1 (x2 + (1 : Int32))) := rfl
def f_X11_likelyNow (branches : Int32) (stand : Int32) (kindOf : Nat → Int32) (onOf : Nat → Int32) (partsBy : Nat → Int64) (p1 : Int32) : Int32 × (Nat → Int64) :=
  f_X11_likelyNow_L2 257 branches stand kindOf onOf partsBy p1 (0 : Int32)
theorem f_X11_likelyNow_s {branches : Int32} {stand : Int32} {kindOf : Nat → Int32} {onOf : Nat → Int32} {partsBy : Nat → Int64} {p1 : Int32} : f_X11_likelyNow branches stand kindOf onOf partsBy p1 =
  (f_X11_likelyNow_L2 257 branches stand kindOf onOf partsBy p1 (0 : Int32)) := rfl
def f_X11_likely (branches : Int32) (stand : Int32) (kindOf : Nat → Int32) (onOf : Nat → Int32) (partsBy : Nat → Int64) (p1 : Int32) : Int32 × (Nat → Int64) :=
  if 0 ≤ (f_X11_refused branches p1) then
    ((fun (z_1 : Int32 × (Nat → Int64)) =>
    (z_1.1, z_1.2)) (f_X11_likelyNow branches stand kindOf onOf partsBy p1))
  else
    ((f_X11_refused branches p1), partsBy)
theorem f_X11_likely_s {branches : Int32} {stand : Int32} {kindOf : Nat → Int32} {onOf : Nat → Int32} {partsBy : Nat → Int64} {p1 : Int32} : f_X11_likely branches stand kindOf onOf partsBy p1 =
  (if 0 ≤ (f_X11_refused branches p1) then
    ((fun (z_1 : Int32 × (Nat → Int64)) =>
    (z_1.1, z_1.2)) (f_X11_likelyNow branches stand kindOf onOf partsBy p1))
  else
    ((f_X11_refused branches p1), partsBy)) := rfl
def f_X11_see (branches : Int32) (seen : Int32) (seenBranch : Nat → Int32) (seenBegins : Nat → Int32) (seenWins : Nat → Int32) (p1 : Int32) (p2 : Int32) (p3 : Int32) : Int32 × Int32 × (Nat → Int32) × (Nat → Int32) × (Nat → Int32) :=
  if (f_X11_isBranch branches p1) = 0 then
    ((-101 : Int32), seen, seenBranch, seenBegins, seenWins)
  else
    if (f_X11_within p2 (0 : Int32) (1 : Int32)) = 0 then
      ((-102 : Int32), seen, seenBranch, seenBegins, seenWins)
    else
      if seen = (6 : Int32) then
        ((-104 : Int32), seen, seenBranch, seenBegins, seenWins)
      else
        if p3 = 0 then
          ((seen + (1 : Int32)), (seen + (1 : Int32)), (upd seenBranch (seen).toNatClampNeg p1), (upd seenBegins (seen).toNatClampNeg p2), (upd seenWins (seen).toNatClampNeg (0 : Int32)))
        else
          ((seen + (1 : Int32)), (seen + (1 : Int32)), (upd seenBranch (seen).toNatClampNeg p1), (upd seenBegins (seen).toNatClampNeg p2), (upd seenWins (seen).toNatClampNeg (1 : Int32)))
theorem f_X11_see_s {branches : Int32} {seen : Int32} {seenBranch : Nat → Int32} {seenBegins : Nat → Int32} {seenWins : Nat → Int32} {p1 : Int32} {p2 : Int32} {p3 : Int32} : f_X11_see branches seen seenBranch seenBegins seenWins p1 p2 p3 =
  (if (f_X11_isBranch branches p1) = 0 then
    ((-101 : Int32), seen, seenBranch, seenBegins, seenWins)
  else
    if (f_X11_within p2 (0 : Int32) (1 : Int32)) = 0 then
      ((-102 : Int32), seen, seenBranch, seenBegins, seenWins)
    else
      if seen = (6 : Int32) then
        ((-104 : Int32), seen, seenBranch, seenBegins, seenWins)
      else
        if p3 = 0 then
          ((seen + (1 : Int32)), (seen + (1 : Int32)), (upd seenBranch (seen).toNatClampNeg p1), (upd seenBegins (seen).toNatClampNeg p2), (upd seenWins (seen).toNatClampNeg (0 : Int32)))
        else
          ((seen + (1 : Int32)), (seen + (1 : Int32)), (upd seenBranch (seen).toNatClampNeg p1), (upd seenBegins (seen).toNatClampNeg p2), (upd seenWins (seen).toNatClampNeg (1 : Int32)))) := rfl
def f_X11_forget (seen : Int32) : Int32 × Int32 :=
  (seen, (0 : Int32))
theorem f_X11_forget_s {seen : Int32} : f_X11_forget seen =
  ((seen, (0 : Int32))) := rfl
def f_X11_image_L83 : Nat → Int32 → Int32 → Int32 → Int32 → Int32 → Int32 → Int32 → Int32 → Int32 → Int32 → Int32 → Int32 → (Nat → Int32) → (Nat → Int32) → (Nat → Int32) → (Nat → Int32) → (Nat → Int32) → (Nat → Int32) → (Nat → Int32) → (Nat → Int32) → Int32 → Int32 × Int32 × Int32 × Int32 × Int32 × Int32 × Int32 × (Nat → Int32) × (Nat → Int32) × (Nat → Int32) × (Nat → Int32)
  | 0, _, _, _, _, _, _, isKept, keptHedge, keptStand, keptTurn, keptCuts, keptSeen, _, _, _, _, keptKind, keptBranch, keptBegins, keptWins, _ => (0, isKept, keptHedge, keptStand, keptTurn, keptCuts, keptSeen, keptKind, keptBranch, keptBegins, keptWins)
  | n + 1, hedges, branches, stand, turn, cuts, seen, isKept, keptHedge, keptStand, keptTurn, keptCuts, keptSeen, kindOf, seenBranch, seenBegins, seenWins, keptKind, keptBranch, keptBegins, keptWins, x1 =>
    if (6 : Int32) ≤ x1 then
      (cuts, isKept, keptHedge, keptStand, keptTurn, keptCuts, keptSeen, keptKind, keptBranch, keptBegins, keptWins)
    else
      f_X11_image_L83 n hedges branches stand turn cuts seen isKept keptHedge keptStand keptTurn keptCuts keptSeen kindOf seenBranch seenBegins seenWins keptKind (upd keptBranch (x1).toNatClampNeg (seenBranch (x1).toNatClampNeg)) (upd keptBegins (x1).toNatClampNeg (seenBegins (x1).toNatClampNeg)) (upd keptWins (x1).toNatClampNeg (seenWins (x1).toNatClampNeg)) (x1 + (1 : Int32))
theorem f_X11_image_L83_s {n : Nat} {hedges : Int32} {branches : Int32} {stand : Int32} {turn : Int32} {cuts : Int32} {seen : Int32} {isKept : Int32} {keptHedge : Int32} {keptStand : Int32} {keptTurn : Int32} {keptCuts : Int32} {keptSeen : Int32} {kindOf : Nat → Int32} {seenBranch : Nat → Int32} {seenBegins : Nat → Int32} {seenWins : Nat → Int32} {keptKind : Nat → Int32} {keptBranch : Nat → Int32} {keptBegins : Nat → Int32} {keptWins : Nat → Int32} {x1 : Int32} : f_X11_image_L83 (n + 1) hedges branches stand turn cuts seen isKept keptHedge keptStand keptTurn keptCuts keptSeen kindOf seenBranch seenBegins seenWins keptKind keptBranch keptBegins keptWins x1 =
    (if (6 : Int32) ≤ x1 then
      (cuts, isKept, keptHedge, keptStand, keptTurn, keptCuts, keptSeen, keptKind, keptBranch, keptBegins, keptWins)
    else
      f_X11_image_L83 n hedges branches stand turn cuts seen isKept keptHedge keptStand keptTurn keptCuts keptSeen kindOf seenBranch seenBegins seenWins keptKind (upd keptBranch (x1).toNatClampNeg (seenBranch (x1).toNatClampNeg)) (upd keptBegins (x1).toNatClampNeg (seenBegins (x1).toNatClampNeg)) (upd keptWins (x1).toNatClampNeg (seenWins (x1).toNatClampNeg)) (x1 + (1 : Int32))) := rfl
def f_X11_image_L57 : Nat → Int32 → Int32 → Int32 → Int32 → Int32 → Int32 → Int32 → Int32 → Int32 → Int32 → Int32 → Int32 → (Nat → Int32) → (Nat → Int32) → (Nat → Int32) → (Nat → Int32) → (Nat → Int32) → (Nat → Int32) → (Nat → Int32) → (Nat → Int32) → Int32 → Int32 × Int32 × Int32 × Int32 × Int32 × Int32 × Int32 × (Nat → Int32) × (Nat → Int32) × (Nat → Int32) × (Nat → Int32)
  | 0, _, _, _, _, _, _, isKept, keptHedge, keptStand, keptTurn, keptCuts, keptSeen, _, _, _, _, keptKind, keptBranch, keptBegins, keptWins, _ => (0, isKept, keptHedge, keptStand, keptTurn, keptCuts, keptSeen, keptKind, keptBranch, keptBegins, keptWins)
  | n + 1, hedges, branches, stand, turn, cuts, seen, isKept, keptHedge, keptStand, keptTurn, keptCuts, keptSeen, kindOf, seenBranch, seenBegins, seenWins, keptKind, keptBranch, keptBegins, keptWins, x1 =>
    if (8 : Int32) ≤ x1 then
      f_X11_image_L83 7 hedges branches stand turn cuts seen isKept keptHedge keptStand keptTurn keptCuts keptSeen kindOf seenBranch seenBegins seenWins keptKind keptBranch keptBegins keptWins (0 : Int32)
    else
      f_X11_image_L57 n hedges branches stand turn cuts seen isKept keptHedge keptStand keptTurn keptCuts keptSeen kindOf seenBranch seenBegins seenWins (upd keptKind (x1).toNatClampNeg (kindOf (x1).toNatClampNeg)) keptBranch keptBegins keptWins (x1 + (1 : Int32))
theorem f_X11_image_L57_s {n : Nat} {hedges : Int32} {branches : Int32} {stand : Int32} {turn : Int32} {cuts : Int32} {seen : Int32} {isKept : Int32} {keptHedge : Int32} {keptStand : Int32} {keptTurn : Int32} {keptCuts : Int32} {keptSeen : Int32} {kindOf : Nat → Int32} {seenBranch : Nat → Int32} {seenBegins : Nat → Int32} {seenWins : Nat → Int32} {keptKind : Nat → Int32} {keptBranch : Nat → Int32} {keptBegins : Nat → Int32} {keptWins : Nat → Int32} {x1 : Int32} : f_X11_image_L57 (n + 1) hedges branches stand turn cuts seen isKept keptHedge keptStand keptTurn keptCuts keptSeen kindOf seenBranch seenBegins seenWins keptKind keptBranch keptBegins keptWins x1 =
    (if (8 : Int32) ≤ x1 then
      f_X11_image_L83 7 hedges branches stand turn cuts seen isKept keptHedge keptStand keptTurn keptCuts keptSeen kindOf seenBranch seenBegins seenWins keptKind keptBranch keptBegins keptWins (0 : Int32)
    else
      f_X11_image_L57 n hedges branches stand turn cuts seen isKept keptHedge keptStand keptTurn keptCuts keptSeen kindOf seenBranch seenBegins seenWins (upd keptKind (x1).toNatClampNeg (kindOf (x1).toNatClampNeg)) keptBranch keptBegins keptWins (x1 + (1 : Int32))) := rfl
def f_X11_image (hedges : Int32) (branches : Int32) (stand : Int32) (turn : Int32) (cuts : Int32) (seen : Int32) (isKept : Int32) (keptHedge : Int32) (keptStand : Int32) (keptTurn : Int32) (keptCuts : Int32) (keptSeen : Int32) (kindOf : Nat → Int32) (seenBranch : Nat → Int32) (seenBegins : Nat → Int32) (seenWins : Nat → Int32) (keptKind : Nat → Int32) (keptBranch : Nat → Int32) (keptBegins : Nat → Int32) (keptWins : Nat → Int32) : Int32 × Int32 × Int32 × Int32 × Int32 × Int32 × Int32 × (Nat → Int32) × (Nat → Int32) × (Nat → Int32) × (Nat → Int32) :=
  if branches = 0 then
    ((-103 : Int32), isKept, keptHedge, keptStand, keptTurn, keptCuts, keptSeen, keptKind, keptBranch, keptBegins, keptWins)
  else
    f_X11_image_L57 9 hedges branches stand turn cuts seen (1 : Int32) hedges stand turn cuts seen kindOf seenBranch seenBegins seenWins keptKind keptBranch keptBegins keptWins (0 : Int32)
theorem f_X11_image_s {hedges : Int32} {branches : Int32} {stand : Int32} {turn : Int32} {cuts : Int32} {seen : Int32} {isKept : Int32} {keptHedge : Int32} {keptStand : Int32} {keptTurn : Int32} {keptCuts : Int32} {keptSeen : Int32} {kindOf : Nat → Int32} {seenBranch : Nat → Int32} {seenBegins : Nat → Int32} {seenWins : Nat → Int32} {keptKind : Nat → Int32} {keptBranch : Nat → Int32} {keptBegins : Nat → Int32} {keptWins : Nat → Int32} : f_X11_image hedges branches stand turn cuts seen isKept keptHedge keptStand keptTurn keptCuts keptSeen kindOf seenBranch seenBegins seenWins keptKind keptBranch keptBegins keptWins =
  (if branches = 0 then
    ((-103 : Int32), isKept, keptHedge, keptStand, keptTurn, keptCuts, keptSeen, keptKind, keptBranch, keptBegins, keptWins)
  else
    f_X11_image_L57 9 hedges branches stand turn cuts seen (1 : Int32) hedges stand turn cuts seen kindOf seenBranch seenBegins seenWins keptKind keptBranch keptBegins keptWins (0 : Int32)) := rfl
def f_X11_restore_L81 : Nat → Int32 → Int32 → Int32 → Int32 → Int32 → Int32 → Int32 → Int32 → Int32 → Int32 → Int32 → (Nat → Int32) → (Nat → Int32) → (Nat → Int32) → (Nat → Int32) → (Nat → Int32) → (Nat → Int32) → (Nat → Int32) → (Nat → Int32) → Int32 → Int32 × Int32 × Int32 × Int32 × Int32 × (Nat → Int32) × (Nat → Int32) × (Nat → Int32) × (Nat → Int32)
  | 0, _, stand, turn, cuts, seen, _, _, _, _, _, _, kindOf, seenBranch, seenBegins, seenWins, _, _, _, _, _ => (0, stand, turn, cuts, seen, kindOf, seenBranch, seenBegins, seenWins)
  | n + 1, hedges, stand, turn, cuts, seen, isKept, keptHedge, keptStand, keptTurn, keptCuts, keptSeen, kindOf, seenBranch, seenBegins, seenWins, keptKind, keptBranch, keptBegins, keptWins, x1 =>
    if (6 : Int32) ≤ x1 then
      (cuts, stand, turn, cuts, seen, kindOf, seenBranch, seenBegins, seenWins)
    else
      f_X11_restore_L81 n hedges stand turn cuts seen isKept keptHedge keptStand keptTurn keptCuts keptSeen kindOf (upd seenBranch (x1).toNatClampNeg (keptBranch (x1).toNatClampNeg)) (upd seenBegins (x1).toNatClampNeg (keptBegins (x1).toNatClampNeg)) (upd seenWins (x1).toNatClampNeg (keptWins (x1).toNatClampNeg)) keptKind keptBranch keptBegins keptWins (x1 + (1 : Int32))
theorem f_X11_restore_L81_s {n : Nat} {hedges : Int32} {stand : Int32} {turn : Int32} {cuts : Int32} {seen : Int32} {isKept : Int32} {keptHedge : Int32} {keptStand : Int32} {keptTurn : Int32} {keptCuts : Int32} {keptSeen : Int32} {kindOf : Nat → Int32} {seenBranch : Nat → Int32} {seenBegins : Nat → Int32} {seenWins : Nat → Int32} {keptKind : Nat → Int32} {keptBranch : Nat → Int32} {keptBegins : Nat → Int32} {keptWins : Nat → Int32} {x1 : Int32} : f_X11_restore_L81 (n + 1) hedges stand turn cuts seen isKept keptHedge keptStand keptTurn keptCuts keptSeen kindOf seenBranch seenBegins seenWins keptKind keptBranch keptBegins keptWins x1 =
    (if (6 : Int32) ≤ x1 then
      (cuts, stand, turn, cuts, seen, kindOf, seenBranch, seenBegins, seenWins)
    else
      f_X11_restore_L81 n hedges stand turn cuts seen isKept keptHedge keptStand keptTurn keptCuts keptSeen kindOf (upd seenBranch (x1).toNatClampNeg (keptBranch (x1).toNatClampNeg)) (upd seenBegins (x1).toNatClampNeg (keptBegins (x1).toNatClampNeg)) (upd seenWins (x1).toNatClampNeg (keptWins (x1).toNatClampNeg)) keptKind keptBranch keptBegins keptWins (x1 + (1 : Int32))) := rfl
def f_X11_restore_L55 : Nat → Int32 → Int32 → Int32 → Int32 → Int32 → Int32 → Int32 → Int32 → Int32 → Int32 → Int32 → (Nat → Int32) → (Nat → Int32) → (Nat → Int32) → (Nat → Int32) → (Nat → Int32) → (Nat → Int32) → (Nat → Int32) → (Nat → Int32) → Int32 → Int32 × Int32 × Int32 × Int32 × Int32 × (Nat → Int32) × (Nat → Int32) × (Nat → Int32) × (Nat → Int32)
  | 0, _, stand, turn, cuts, seen, _, _, _, _, _, _, kindOf, seenBranch, seenBegins, seenWins, _, _, _, _, _ => (0, stand, turn, cuts, seen, kindOf, seenBranch, seenBegins, seenWins)
  | n + 1, hedges, stand, turn, cuts, seen, isKept, keptHedge, keptStand, keptTurn, keptCuts, keptSeen, kindOf, seenBranch, seenBegins, seenWins, keptKind, keptBranch, keptBegins, keptWins, x1 =>
    if (8 : Int32) ≤ x1 then
      f_X11_restore_L81 7 hedges stand turn cuts seen isKept keptHedge keptStand keptTurn keptCuts keptSeen kindOf seenBranch seenBegins seenWins keptKind keptBranch keptBegins keptWins (0 : Int32)
    else
      f_X11_restore_L55 n hedges stand turn cuts seen isKept keptHedge keptStand keptTurn keptCuts keptSeen (upd kindOf (x1).toNatClampNeg (keptKind (x1).toNatClampNeg)) seenBranch seenBegins seenWins keptKind keptBranch keptBegins keptWins (x1 + (1 : Int32))
theorem f_X11_restore_L55_s {n : Nat} {hedges : Int32} {stand : Int32} {turn : Int32} {cuts : Int32} {seen : Int32} {isKept : Int32} {keptHedge : Int32} {keptStand : Int32} {keptTurn : Int32} {keptCuts : Int32} {keptSeen : Int32} {kindOf : Nat → Int32} {seenBranch : Nat → Int32} {seenBegins : Nat → Int32} {seenWins : Nat → Int32} {keptKind : Nat → Int32} {keptBranch : Nat → Int32} {keptBegins : Nat → Int32} {keptWins : Nat → Int32} {x1 : Int32} : f_X11_restore_L55 (n + 1) hedges stand turn cuts seen isKept keptHedge keptStand keptTurn keptCuts keptSeen kindOf seenBranch seenBegins seenWins keptKind keptBranch keptBegins keptWins x1 =
    (if (8 : Int32) ≤ x1 then
      f_X11_restore_L81 7 hedges stand turn cuts seen isKept keptHedge keptStand keptTurn keptCuts keptSeen kindOf seenBranch seenBegins seenWins keptKind keptBranch keptBegins keptWins (0 : Int32)
    else
      f_X11_restore_L55 n hedges stand turn cuts seen isKept keptHedge keptStand keptTurn keptCuts keptSeen (upd kindOf (x1).toNatClampNeg (keptKind (x1).toNatClampNeg)) seenBranch seenBegins seenWins keptKind keptBranch keptBegins keptWins (x1 + (1 : Int32))) := rfl
def f_X11_restore (hedges : Int32) (stand : Int32) (turn : Int32) (cuts : Int32) (seen : Int32) (isKept : Int32) (keptHedge : Int32) (keptStand : Int32) (keptTurn : Int32) (keptCuts : Int32) (keptSeen : Int32) (kindOf : Nat → Int32) (seenBranch : Nat → Int32) (seenBegins : Nat → Int32) (seenWins : Nat → Int32) (keptKind : Nat → Int32) (keptBranch : Nat → Int32) (keptBegins : Nat → Int32) (keptWins : Nat → Int32) : Int32 × Int32 × Int32 × Int32 × Int32 × (Nat → Int32) × (Nat → Int32) × (Nat → Int32) × (Nat → Int32) :=
  if isKept = 0 then
    ((-103 : Int32), stand, turn, cuts, seen, kindOf, seenBranch, seenBegins, seenWins)
  else
    if keptHedge = hedges then
      f_X11_restore_L55 9 hedges keptStand keptTurn keptCuts keptSeen isKept keptHedge keptStand keptTurn keptCuts keptSeen kindOf seenBranch seenBegins seenWins keptKind keptBranch keptBegins keptWins (0 : Int32)
    else
      ((-103 : Int32), stand, turn, cuts, seen, kindOf, seenBranch, seenBegins, seenWins)
theorem f_X11_restore_s {hedges : Int32} {stand : Int32} {turn : Int32} {cuts : Int32} {seen : Int32} {isKept : Int32} {keptHedge : Int32} {keptStand : Int32} {keptTurn : Int32} {keptCuts : Int32} {keptSeen : Int32} {kindOf : Nat → Int32} {seenBranch : Nat → Int32} {seenBegins : Nat → Int32} {seenWins : Nat → Int32} {keptKind : Nat → Int32} {keptBranch : Nat → Int32} {keptBegins : Nat → Int32} {keptWins : Nat → Int32} : f_X11_restore hedges stand turn cuts seen isKept keptHedge keptStand keptTurn keptCuts keptSeen kindOf seenBranch seenBegins seenWins keptKind keptBranch keptBegins keptWins =
  (if isKept = 0 then
    ((-103 : Int32), stand, turn, cuts, seen, kindOf, seenBranch, seenBegins, seenWins)
  else
    if keptHedge = hedges then
      f_X11_restore_L55 9 hedges keptStand keptTurn keptCuts keptSeen isKept keptHedge keptStand keptTurn keptCuts keptSeen kindOf seenBranch seenBegins seenWins keptKind keptBranch keptBegins keptWins (0 : Int32)
    else
      ((-103 : Int32), stand, turn, cuts, seen, kindOf, seenBranch, seenBegins, seenWins)) := rfl
def f_X11_onGround_L4 : Nat → Int32 → (Nat → Int32) → Int32 → Int32 → Int32
  | 0, _, _, _, _ => 0
  | n + 1, branches, onOf, x1, x2 =>
    if branches ≤ x2 then
      x1
    else
      if (onOf (x2).toNatClampNeg) = (-1 : Int32) then
        f_X11_onGround_L4 n branches onOf (x1 + (1 : Int32)) (x2 + (1 : Int32))
      else
        f_X11_onGround_L4 n branches onOf (x1 + (0 : Int32)) (x2 + (1 : Int32))
theorem f_X11_onGround_L4_s {n : Nat} {branches : Int32} {onOf : Nat → Int32} {x1 : Int32} {x2 : Int32} : f_X11_onGround_L4 (n + 1) branches onOf x1 x2 =
    (if branches ≤ x2 then
      x1
    else
      if (onOf (x2).toNatClampNeg) = (-1 : Int32) then
        f_X11_onGround_L4 n branches onOf (x1 + (1 : Int32)) (x2 + (1 : Int32))
      else
        f_X11_onGround_L4 n branches onOf (x1 + (0 : Int32)) (x2 + (1 : Int32))) := rfl
def f_X11_onGround (branches : Int32) (onOf : Nat → Int32) : Int32 :=
  f_X11_onGround_L4 9 branches onOf (0 : Int32) (0 : Int32)
theorem f_X11_onGround_s {branches : Int32} {onOf : Nat → Int32} : f_X11_onGround branches onOf =
  (f_X11_onGround_L4 9 branches onOf (0 : Int32) (0 : Int32)) := rfl
def f_X11_howMany (hedges : Int32) (branches : Int32) (stand : Int32) (turn : Int32) (cuts : Int32) (asks : Int32) (seen : Int32) (pageLength : Int32) (kindOf : Nat → Int32) (onOf : Nat → Int32) (p1 : Int32) : Int32 :=
  if p1 = (0 : Int32) then
    branches
  else
    if p1 = (1 : Int32) then
      (f_X11_size stand)
    else
      if p1 = (2 : Int32) then
        turn
      else
        if p1 = (3 : Int32) then
          cuts
        else
          if p1 = (4 : Int32) then
            (f_X11_size (f_X11_mayCuts branches kindOf onOf (p1 - (4 : Int32)) stand))
          else
            if p1 = (5 : Int32) then
              (f_X11_size (f_X11_mayCuts branches kindOf onOf (p1 - (4 : Int32)) stand))
            else
              if p1 = (6 : Int32) then
                (f_X11_onGround branches onOf)
              else
                if p1 = (7 : Int32) then
                  seen
                else
                  if p1 = (8 : Int32) then
                    pageLength
                  else
                    if p1 = (9 : Int32) then
                      hedges
                    else
                      if p1 = (10 : Int32) then
                        asks
                      else
                        (-102 : Int32)
theorem f_X11_howMany_s {hedges : Int32} {branches : Int32} {stand : Int32} {turn : Int32} {cuts : Int32} {asks : Int32} {seen : Int32} {pageLength : Int32} {kindOf : Nat → Int32} {onOf : Nat → Int32} {p1 : Int32} : f_X11_howMany hedges branches stand turn cuts asks seen pageLength kindOf onOf p1 =
  (if p1 = (0 : Int32) then
    branches
  else
    if p1 = (1 : Int32) then
      (f_X11_size stand)
    else
      if p1 = (2 : Int32) then
        turn
      else
        if p1 = (3 : Int32) then
          cuts
        else
          if p1 = (4 : Int32) then
            (f_X11_size (f_X11_mayCuts branches kindOf onOf (p1 - (4 : Int32)) stand))
          else
            if p1 = (5 : Int32) then
              (f_X11_size (f_X11_mayCuts branches kindOf onOf (p1 - (4 : Int32)) stand))
            else
              if p1 = (6 : Int32) then
                (f_X11_onGround branches onOf)
              else
                if p1 = (7 : Int32) then
                  seen
                else
                  if p1 = (8 : Int32) then
                    pageLength
                  else
                    if p1 = (9 : Int32) then
                      hedges
                    else
                      if p1 = (10 : Int32) then
                        asks
                      else
                        (-102 : Int32)) := rfl
def f_X11_count (hedges : Int32) (branches : Int32) (stand : Int32) (turn : Int32) (cuts : Int32) (asks : Int32) (seen : Int32) (pageLength : Int32) (kindOf : Nat → Int32) (onOf : Nat → Int32) (p1 : Int32) : Int32 :=
  (f_X11_howMany hedges branches stand turn cuts asks seen pageLength kindOf onOf p1)
theorem f_X11_count_s {hedges : Int32} {branches : Int32} {stand : Int32} {turn : Int32} {cuts : Int32} {asks : Int32} {seen : Int32} {pageLength : Int32} {kindOf : Nat → Int32} {onOf : Nat → Int32} {p1 : Int32} : f_X11_count hedges branches stand turn cuts asks seen pageLength kindOf onOf p1 =
  ((f_X11_howMany hedges branches stand turn cuts asks seen pageLength kindOf onOf p1)) := rfl
def f_X11_mix (hsh : Int64) (p1 : Int64) : Int64 :=
  (((31 : Int64) * hsh) + p1)
theorem f_X11_mix_s {hsh : Int64} {p1 : Int64} : f_X11_mix hsh p1 =
  ((((31 : Int64) * hsh) + p1)) := rfl
def f_X11_mixHedge_L73 : Nat → Int32 → Int32 → Int64 → (Nat → Int32) → (Nat → Int32) → (Nat → Int32) → (Nat → Int32) → (Nat → Int32) → (Nat → Int64) → Int32 → Int64 × (Nat → Int32) × (Nat → Int32) × (Nat → Int32) × (Nat → Int64)
  | 0, _, _, hsh, _, _, winner, lasting, worthBy, partsBy, _ => (hsh, winner, lasting, worthBy, partsBy)
  | n + 1, branches, stand, hsh, kindOf, onOf, winner, lasting, worthBy, partsBy, x1 =>
    if branches ≤ x1 then
      (hsh, winner, lasting, worthBy, partsBy)
    else
      if (onOf (x1).toNatClampNeg) = (-1 : Int32) then
        f_X11_mixHedge_L73 n branches stand (f_X11_mix hsh (((worthBy ((stand &&& ((f_X11_above branches onOf x1) ||| ((1 : Int32) <<< (x1 &&& 31))))).toNatClampNeg)).toInt64)) kindOf onOf winner lasting worthBy partsBy (x1 + (1 : Int32))
      else
        f_X11_mixHedge_L73 n branches stand hsh kindOf onOf winner lasting worthBy partsBy (x1 + (1 : Int32))
theorem f_X11_mixHedge_L73_s {n : Nat} {branches : Int32} {stand : Int32} {hsh : Int64} {kindOf : Nat → Int32} {onOf : Nat → Int32} {winner : Nat → Int32} {lasting : Nat → Int32} {worthBy : Nat → Int32} {partsBy : Nat → Int64} {x1 : Int32} : f_X11_mixHedge_L73 (n + 1) branches stand hsh kindOf onOf winner lasting worthBy partsBy x1 =
    (if branches ≤ x1 then
      (hsh, winner, lasting, worthBy, partsBy)
    else
      if (onOf (x1).toNatClampNeg) = (-1 : Int32) then
        f_X11_mixHedge_L73 n branches stand (f_X11_mix hsh (((worthBy ((stand &&& ((f_X11_above branches onOf x1) ||| ((1 : Int32) <<< (x1 &&& 31))))).toNatClampNeg)).toInt64)) kindOf onOf winner lasting worthBy partsBy (x1 + (1 : Int32))
      else
        f_X11_mixHedge_L73 n branches stand hsh kindOf onOf winner lasting worthBy partsBy (x1 + (1 : Int32))) := rfl
def f_X11_mixHedge_L2 : Nat → Int32 → Int32 → Int64 → (Nat → Int32) → (Nat → Int32) → (Nat → Int32) → (Nat → Int32) → (Nat → Int32) → (Nat → Int64) → Int32 → Int64 × (Nat → Int32) × (Nat → Int32) × (Nat → Int32) × (Nat → Int64)
  | 0, _, _, hsh, _, _, winner, lasting, worthBy, partsBy, _ => (hsh, winner, lasting, worthBy, partsBy)
  | n + 1, branches, stand, hsh, kindOf, onOf, winner, lasting, worthBy, partsBy, x1 =>
    if (2 : Int32) ≤ x1 then
      f_X11_mixHedge_L73 9 branches stand (f_X11_mix hsh ((((f_X11_layWorth branches stand kindOf onOf worthBy) (stand).toNatClampNeg)).toInt64)) kindOf onOf winner lasting (f_X11_layWorth branches stand kindOf onOf worthBy) partsBy (0 : Int32)
    else
      ((fun (z_1 : Int32 × (Nat → Int32)) =>
      ((fun (z_2 : Int32 × (Nat → Int32) × (Nat → Int32)) =>
        ((fun (z_3 : Int32 × (Nat → Int32) × (Nat → Int32)) =>
          ((fun (z_4 : Int32 × (Nat → Int64)) =>
            f_X11_mixHedge_L2 n branches stand (f_X11_mix (f_X11_mix (f_X11_mix (f_X11_mix hsh ((z_1.1).toInt64)) ((z_2.1).toInt64)) ((z_3.1).toInt64)) ((z_4.1).toInt64)) kindOf onOf z_3.2.1 z_3.2.2 worthBy z_4.2 (x1 + (1 : Int32))) (f_X11_likelyNow branches stand kindOf onOf partsBy x1))) (f_X11_lastsNow branches stand kindOf onOf z_2.2.1 z_2.2.2 x1))) (f_X11_bestNow branches stand kindOf onOf z_1.2 lasting x1))) (f_X11_winsNow branches stand kindOf onOf winner x1))
theorem f_X11_mixHedge_L2_s {n : Nat} {branches : Int32} {stand : Int32} {hsh : Int64} {kindOf : Nat → Int32} {onOf : Nat → Int32} {winner : Nat → Int32} {lasting : Nat → Int32} {worthBy : Nat → Int32} {partsBy : Nat → Int64} {x1 : Int32} : f_X11_mixHedge_L2 (n + 1) branches stand hsh kindOf onOf winner lasting worthBy partsBy x1 =
    (if (2 : Int32) ≤ x1 then
      f_X11_mixHedge_L73 9 branches stand (f_X11_mix hsh ((((f_X11_layWorth branches stand kindOf onOf worthBy) (stand).toNatClampNeg)).toInt64)) kindOf onOf winner lasting (f_X11_layWorth branches stand kindOf onOf worthBy) partsBy (0 : Int32)
    else
      ((fun (z_1 : Int32 × (Nat → Int32)) =>
      ((fun (z_2 : Int32 × (Nat → Int32) × (Nat → Int32)) =>
        ((fun (z_3 : Int32 × (Nat → Int32) × (Nat → Int32)) =>
          ((fun (z_4 : Int32 × (Nat → Int64)) =>
            f_X11_mixHedge_L2 n branches stand (f_X11_mix (f_X11_mix (f_X11_mix (f_X11_mix hsh ((z_1.1).toInt64)) ((z_2.1).toInt64)) ((z_3.1).toInt64)) ((z_4.1).toInt64)) kindOf onOf z_3.2.1 z_3.2.2 worthBy z_4.2 (x1 + (1 : Int32))) (f_X11_likelyNow branches stand kindOf onOf partsBy x1))) (f_X11_lastsNow branches stand kindOf onOf z_2.2.1 z_2.2.2 x1))) (f_X11_bestNow branches stand kindOf onOf z_1.2 lasting x1))) (f_X11_winsNow branches stand kindOf onOf winner x1))) := rfl
def f_X11_mixHedge (branches : Int32) (stand : Int32) (hsh : Int64) (kindOf : Nat → Int32) (onOf : Nat → Int32) (winner : Nat → Int32) (lasting : Nat → Int32) (worthBy : Nat → Int32) (partsBy : Nat → Int64) : Int64 × (Nat → Int32) × (Nat → Int32) × (Nat → Int32) × (Nat → Int64) :=
  f_X11_mixHedge_L2 3 branches stand hsh kindOf onOf winner lasting worthBy partsBy (0 : Int32)
theorem f_X11_mixHedge_s {branches : Int32} {stand : Int32} {hsh : Int64} {kindOf : Nat → Int32} {onOf : Nat → Int32} {winner : Nat → Int32} {lasting : Nat → Int32} {worthBy : Nat → Int32} {partsBy : Nat → Int64} : f_X11_mixHedge branches stand hsh kindOf onOf winner lasting worthBy partsBy =
  (f_X11_mixHedge_L2 3 branches stand hsh kindOf onOf winner lasting worthBy partsBy (0 : Int32)) := rfl
def f_X11_digest_L88 : Nat → Int32 → Int32 → Int32 → Int32 → Int32 → Int32 → Int32 → Int32 → Int64 → (Nat → Int32) → (Nat → Int32) → (Nat → Int32) → (Nat → Int32) → (Nat → Int32) → (Nat → Int32) → (Nat → Int32) → (Nat → Int32) → (Nat → Int32) → (Nat → Int32) → (Nat → Int64) → Int32 → Int64 × Int64 × (Nat → Int32) × (Nat → Int32) × (Nat → Int32) × (Nat → Int32) × (Nat → Int32) × (Nat → Int64)
  | 0, _, _, _, _, _, _, _, _, hsh, kindOf, _, _, _, _, _, winner, lasting, worthBy, wonBy, partsBy, _ => (0, hsh, kindOf, winner, lasting, worthBy, wonBy, partsBy)
  | n + 1, hedges, branches, stand, turn, cuts, asks, seen, pageLength, hsh, kindOf, onOf, seenBranch, seenBegins, seenWins, page, winner, lasting, worthBy, wonBy, partsBy, x1 =>
    if (11 : Int32) ≤ x1 then
      (hsh, hsh, kindOf, winner, lasting, worthBy, wonBy, partsBy)
    else
      f_X11_digest_L88 n hedges branches stand turn cuts asks seen pageLength (f_X11_mix hsh (((f_X11_howMany hedges branches stand turn cuts asks seen pageLength kindOf onOf x1)).toInt64)) kindOf onOf seenBranch seenBegins seenWins page winner lasting worthBy wonBy partsBy (x1 + (1 : Int32))
theorem f_X11_digest_L88_s {n : Nat} {hedges : Int32} {branches : Int32} {stand : Int32} {turn : Int32} {cuts : Int32} {asks : Int32} {seen : Int32} {pageLength : Int32} {hsh : Int64} {kindOf : Nat → Int32} {onOf : Nat → Int32} {seenBranch : Nat → Int32} {seenBegins : Nat → Int32} {seenWins : Nat → Int32} {page : Nat → Int32} {winner : Nat → Int32} {lasting : Nat → Int32} {worthBy : Nat → Int32} {wonBy : Nat → Int32} {partsBy : Nat → Int64} {x1 : Int32} : f_X11_digest_L88 (n + 1) hedges branches stand turn cuts asks seen pageLength hsh kindOf onOf seenBranch seenBegins seenWins page winner lasting worthBy wonBy partsBy x1 =
    (if (11 : Int32) ≤ x1 then
      (hsh, hsh, kindOf, winner, lasting, worthBy, wonBy, partsBy)
    else
      f_X11_digest_L88 n hedges branches stand turn cuts asks seen pageLength (f_X11_mix hsh (((f_X11_howMany hedges branches stand turn cuts asks seen pageLength kindOf onOf x1)).toInt64)) kindOf onOf seenBranch seenBegins seenWins page winner lasting worthBy wonBy partsBy (x1 + (1 : Int32))) := rfl
def f_X11_digest_L61 : Nat → Int32 → Int32 → Int32 → Int32 → Int32 → Int32 → Int32 → Int32 → Int64 → (Nat → Int32) → (Nat → Int32) → (Nat → Int32) → (Nat → Int32) → (Nat → Int32) → (Nat → Int32) → (Nat → Int32) → (Nat → Int32) → (Nat → Int32) → (Nat → Int32) → (Nat → Int64) → Int32 → Int64 × Int64 × (Nat → Int32) × (Nat → Int32) × (Nat → Int32) × (Nat → Int32) × (Nat → Int32) × (Nat → Int64)
  | 0, _, _, _, _, _, _, _, _, hsh, kindOf, _, _, _, _, _, winner, lasting, worthBy, wonBy, partsBy, _ => (0, hsh, kindOf, winner, lasting, worthBy, wonBy, partsBy)
  | n + 1, hedges, branches, stand, turn, cuts, asks, seen, pageLength, hsh, kindOf, onOf, seenBranch, seenBegins, seenWins, page, winner, lasting, worthBy, wonBy, partsBy, x1 =>
    if pageLength ≤ x1 then
      f_X11_digest_L88 12 hedges branches stand turn cuts asks seen pageLength hsh kindOf onOf seenBranch seenBegins seenWins page winner lasting worthBy wonBy partsBy (0 : Int32)
    else
      f_X11_digest_L61 n hedges branches stand turn cuts asks seen pageLength (f_X11_mix hsh (((page (x1).toNatClampNeg)).toInt64)) kindOf onOf seenBranch seenBegins seenWins page winner lasting worthBy wonBy partsBy (x1 + (1 : Int32))
theorem f_X11_digest_L61_s {n : Nat} {hedges : Int32} {branches : Int32} {stand : Int32} {turn : Int32} {cuts : Int32} {asks : Int32} {seen : Int32} {pageLength : Int32} {hsh : Int64} {kindOf : Nat → Int32} {onOf : Nat → Int32} {seenBranch : Nat → Int32} {seenBegins : Nat → Int32} {seenWins : Nat → Int32} {page : Nat → Int32} {winner : Nat → Int32} {lasting : Nat → Int32} {worthBy : Nat → Int32} {wonBy : Nat → Int32} {partsBy : Nat → Int64} {x1 : Int32} : f_X11_digest_L61 (n + 1) hedges branches stand turn cuts asks seen pageLength hsh kindOf onOf seenBranch seenBegins seenWins page winner lasting worthBy wonBy partsBy x1 =
    (if pageLength ≤ x1 then
      f_X11_digest_L88 12 hedges branches stand turn cuts asks seen pageLength hsh kindOf onOf seenBranch seenBegins seenWins page winner lasting worthBy wonBy partsBy (0 : Int32)
    else
      f_X11_digest_L61 n hedges branches stand turn cuts asks seen pageLength (f_X11_mix hsh (((page (x1).toNatClampNeg)).toInt64)) kindOf onOf seenBranch seenBegins seenWins page winner lasting worthBy wonBy partsBy (x1 + (1 : Int32))) := rfl
def f_X11_digest_L19 (k : (Int64) → (Nat → Int32) → (Nat → Int32) → (Nat → Int32) → (Int32) → Int64 × Int64 × (Nat → Int32) × (Nat → Int32) × (Nat → Int32) × (Nat → Int32) × (Nat → Int32) × (Nat → Int64)) : Nat → Int32 → Int32 → Int32 → Int32 → Int32 → Int32 → Int32 → Int32 → Int64 → (Nat → Int32) → (Nat → Int32) → (Nat → Int32) → (Nat → Int32) → (Nat → Int32) → (Nat → Int32) → (Nat → Int32) → (Nat → Int32) → (Nat → Int32) → (Nat → Int32) → (Nat → Int64) → Int32 → Int32 → Int64 × Int64 × (Nat → Int32) × (Nat → Int32) × (Nat → Int32) × (Nat → Int32) × (Nat → Int32) × (Nat → Int64)
  | 0, _, _, _, _, _, _, _, _, hsh, kindOf, _, _, _, _, _, winner, lasting, worthBy, wonBy, partsBy, _, _ => (0, hsh, kindOf, winner, lasting, worthBy, wonBy, partsBy)
  | n + 1, hedges, branches, stand, turn, cuts, asks, seen, pageLength, hsh, kindOf, onOf, seenBranch, seenBegins, seenWins, page, winner, lasting, worthBy, wonBy, partsBy, x1, x2 =>
    if (8 : Int32) ≤ x2 then
      k hsh kindOf winner wonBy x2
    else
      ((fun (z_2 : Int32 × (Nat → Int32) × (Nat → Int32) × (Nat → Int32)) =>
      f_X11_digest_L19 k n hedges branches stand turn cuts asks seen pageLength (f_X11_mix hsh ((z_2.1).toInt64)) z_2.2.1 onOf seenBranch seenBegins seenWins page z_2.2.2.1 lasting worthBy z_2.2.2.2 partsBy x1 (x2 + (1 : Int32))) (f_X11_branchNow branches stand seen kindOf onOf seenBranch seenBegins seenWins winner wonBy x1 x2))
theorem f_X11_digest_L19_s {k : (Int64) → (Nat → Int32) → (Nat → Int32) → (Nat → Int32) → (Int32) → Int64 × Int64 × (Nat → Int32) × (Nat → Int32) × (Nat → Int32) × (Nat → Int32) × (Nat → Int32) × (Nat → Int64)} {n : Nat} {hedges : Int32} {branches : Int32} {stand : Int32} {turn : Int32} {cuts : Int32} {asks : Int32} {seen : Int32} {pageLength : Int32} {hsh : Int64} {kindOf : Nat → Int32} {onOf : Nat → Int32} {seenBranch : Nat → Int32} {seenBegins : Nat → Int32} {seenWins : Nat → Int32} {page : Nat → Int32} {winner : Nat → Int32} {lasting : Nat → Int32} {worthBy : Nat → Int32} {wonBy : Nat → Int32} {partsBy : Nat → Int64} {x1 : Int32} {x2 : Int32} : f_X11_digest_L19 k (n + 1) hedges branches stand turn cuts asks seen pageLength hsh kindOf onOf seenBranch seenBegins seenWins page winner lasting worthBy wonBy partsBy x1 x2 =
    (if (8 : Int32) ≤ x2 then
      k hsh kindOf winner wonBy x2
    else
      ((fun (z_2 : Int32 × (Nat → Int32) × (Nat → Int32) × (Nat → Int32)) =>
      f_X11_digest_L19 k n hedges branches stand turn cuts asks seen pageLength (f_X11_mix hsh ((z_2.1).toInt64)) z_2.2.1 onOf seenBranch seenBegins seenWins page z_2.2.2.1 lasting worthBy z_2.2.2.2 partsBy x1 (x2 + (1 : Int32))) (f_X11_branchNow branches stand seen kindOf onOf seenBranch seenBegins seenWins winner wonBy x1 x2))) := rfl
def f_X11_digest_L9 : Nat → Int32 → Int32 → Int32 → Int32 → Int32 → Int32 → Int32 → Int32 → Int64 → (Nat → Int32) → (Nat → Int32) → (Nat → Int32) → (Nat → Int32) → (Nat → Int32) → (Nat → Int32) → (Nat → Int32) → (Nat → Int32) → (Nat → Int32) → (Nat → Int32) → (Nat → Int64) → Int32 → Int64 × Int64 × (Nat → Int32) × (Nat → Int32) × (Nat → Int32) × (Nat → Int32) × (Nat → Int32) × (Nat → Int64)
  | 0, _, _, _, _, _, _, _, _, hsh, kindOf, _, _, _, _, _, winner, lasting, worthBy, wonBy, partsBy, _ => (0, hsh, kindOf, winner, lasting, worthBy, wonBy, partsBy)
  | n + 1, hedges, branches, stand, turn, cuts, asks, seen, pageLength, hsh, kindOf, onOf, seenBranch, seenBegins, seenWins, page, winner, lasting, worthBy, wonBy, partsBy, x1 =>
    if branches ≤ x1 then
      if branches ≤ 0 then
        f_X11_digest_L61 27 hedges branches stand turn cuts asks seen pageLength hsh kindOf onOf seenBranch seenBegins seenWins page winner lasting worthBy wonBy partsBy (0 : Int32)
      else
        ((fun (z_1 : Int64 × (Nat → Int32) × (Nat → Int32) × (Nat → Int32) × (Nat → Int64)) =>
        f_X11_digest_L61 27 hedges branches stand turn cuts asks seen pageLength z_1.1 kindOf onOf seenBranch seenBegins seenWins page z_1.2.1 z_1.2.2.1 z_1.2.2.2.1 wonBy z_1.2.2.2.2 (0 : Int32)) (f_X11_mixHedge branches stand hsh kindOf onOf winner lasting worthBy partsBy))
    else
      f_X11_digest_L19 (fun (hsh_3 : Int64) (kindOf_4 : Nat → Int32) (winner_5 : Nat → Int32) (wonBy_6 : Nat → Int32) (x2_7 : Int32) => f_X11_digest_L9 n hedges branches stand turn cuts asks seen pageLength hsh_3 kindOf_4 onOf seenBranch seenBegins seenWins page winner_5 lasting worthBy wonBy_6 partsBy (x1 + (1 : Int32))) 9 hedges branches stand turn cuts asks seen pageLength hsh kindOf onOf seenBranch seenBegins seenWins page winner lasting worthBy wonBy partsBy x1 (0 : Int32)
theorem f_X11_digest_L9_s {n : Nat} {hedges : Int32} {branches : Int32} {stand : Int32} {turn : Int32} {cuts : Int32} {asks : Int32} {seen : Int32} {pageLength : Int32} {hsh : Int64} {kindOf : Nat → Int32} {onOf : Nat → Int32} {seenBranch : Nat → Int32} {seenBegins : Nat → Int32} {seenWins : Nat → Int32} {page : Nat → Int32} {winner : Nat → Int32} {lasting : Nat → Int32} {worthBy : Nat → Int32} {wonBy : Nat → Int32} {partsBy : Nat → Int64} {x1 : Int32} : f_X11_digest_L9 (n + 1) hedges branches stand turn cuts asks seen pageLength hsh kindOf onOf seenBranch seenBegins seenWins page winner lasting worthBy wonBy partsBy x1 =
    (if branches ≤ x1 then
      if branches ≤ 0 then
        f_X11_digest_L61 27 hedges branches stand turn cuts asks seen pageLength hsh kindOf onOf seenBranch seenBegins seenWins page winner lasting worthBy wonBy partsBy (0 : Int32)
      else
        ((fun (z_1 : Int64 × (Nat → Int32) × (Nat → Int32) × (Nat → Int32) × (Nat → Int64)) =>
        f_X11_digest_L61 27 hedges branches stand turn cuts asks seen pageLength z_1.1 kindOf onOf seenBranch seenBegins seenWins page z_1.2.1 z_1.2.2.1 z_1.2.2.2.1 wonBy z_1.2.2.2.2 (0 : Int32)) (f_X11_mixHedge branches stand hsh kindOf onOf winner lasting worthBy partsBy))
    else
      f_X11_digest_L19 (fun (hsh_3 : Int64) (kindOf_4 : Nat → Int32) (winner_5 : Nat → Int32) (wonBy_6 : Nat → Int32) (x2_7 : Int32) => f_X11_digest_L9 n hedges branches stand turn cuts asks seen pageLength hsh_3 kindOf_4 onOf seenBranch seenBegins seenWins page winner_5 lasting worthBy wonBy_6 partsBy (x1 + (1 : Int32))) 9 hedges branches stand turn cuts asks seen pageLength hsh kindOf onOf seenBranch seenBegins seenWins page winner lasting worthBy wonBy partsBy x1 (0 : Int32)) := rfl
def f_X11_digest (hedges : Int32) (branches : Int32) (stand : Int32) (turn : Int32) (cuts : Int32) (asks : Int32) (seen : Int32) (pageLength : Int32) (hsh : Int64) (kindOf : Nat → Int32) (onOf : Nat → Int32) (seenBranch : Nat → Int32) (seenBegins : Nat → Int32) (seenWins : Nat → Int32) (page : Nat → Int32) (winner : Nat → Int32) (lasting : Nat → Int32) (worthBy : Nat → Int32) (wonBy : Nat → Int32) (partsBy : Nat → Int64) : Int64 × Int64 × (Nat → Int32) × (Nat → Int32) × (Nat → Int32) × (Nat → Int32) × (Nat → Int32) × (Nat → Int64) :=
  f_X11_digest_L9 9 hedges branches stand turn cuts asks seen pageLength (1283 : Int64) kindOf onOf seenBranch seenBegins seenWins page winner lasting worthBy wonBy partsBy (0 : Int32)
theorem f_X11_digest_s {hedges : Int32} {branches : Int32} {stand : Int32} {turn : Int32} {cuts : Int32} {asks : Int32} {seen : Int32} {pageLength : Int32} {hsh : Int64} {kindOf : Nat → Int32} {onOf : Nat → Int32} {seenBranch : Nat → Int32} {seenBegins : Nat → Int32} {seenWins : Nat → Int32} {page : Nat → Int32} {winner : Nat → Int32} {lasting : Nat → Int32} {worthBy : Nat → Int32} {wonBy : Nat → Int32} {partsBy : Nat → Int64} : f_X11_digest hedges branches stand turn cuts asks seen pageLength hsh kindOf onOf seenBranch seenBegins seenWins page winner lasting worthBy wonBy partsBy =
  (f_X11_digest_L9 9 hedges branches stand turn cuts asks seen pageLength (1283 : Int64) kindOf onOf seenBranch seenBegins seenWins page winner lasting worthBy wonBy partsBy (0 : Int32)) := rfl
/-! facts of the reference's functions -/
theorem r_within {a b c : Int32} : (f_X11_within a b c).toInt = 0 ∨ ((f_X11_within a b c).toInt = 1 ∧ b.toInt ≤ a.toInt ∧ a.toInt ≤ c.toInt) := by
  unfold f_X11_within
  split
  · exact Or.inl rfl
  · rename_i h1
    split
    · exact Or.inl rfl
    · rename_i h2
      exact Or.inr ⟨rfl, i_nlt h1, i_nlt h2⟩
theorem r_within01 {a b c : Int32} : (f_X11_within a b c).toInt = 0 ∨ (f_X11_within a b c).toInt = 1 := r_within.imp id And.left
theorem r_isBranch {branches b : Int32} (h : 0 ≤ branches.toInt ∧ branches.toInt ≤ 8) : (f_X11_isBranch branches b).toInt = 0 ∨ ((f_X11_isBranch branches b).toInt = 1 ∧ 0 ≤ b.toInt ∧ b.toInt < branches.toInt) := by
  have t1 : (1 : Int32).toInt = 1 := rfl
  have t0 : (0 : Int32).toInt = 0 := rfl
  have e := i_sub (x := branches) (y := 1) (by omega) (by omega)
  have k := r_within (a := b) (b := 0) (c := branches - 1)
  unfold f_X11_isBranch
  omega
theorem r_leaves {branches b set : Int32} {onOf : Nat → Int32} : 0 ≤ set.toInt → (0 ≤ (f_X11_leaves branches onOf b set).toInt ∧ (f_X11_leaves branches onOf b set).toInt ≤ set.toInt) := fun h => i_and h
theorem r_refused {branches b : Int32} : (f_X11_refused branches b).toInt < 0 ∨ (0 ≤ b.toInt ∧ b.toInt ≤ 1) := by
  have k := r_within (a := b) (b := 0) (c := 1)
  have t1 : (1 : Int32).toInt = 1 := rfl
  have t0 : (0 : Int32).toInt = 0 := rfl
  unfold f_X11_refused
  split
  · left; decide
  · rename_i h
    have := i_ne h
    right; omega
theorem r_read_L : ∀ (n : Nat) (pageLength isWhole newBranches : Int32) (page : Nat → Int32) (x1 : Int32), 0 ≤ newBranches.toInt ∧ newBranches.toInt ≤ 8 → 0 ≤ (f_X11_read_L12 n pageLength isWhole newBranches page x1).2.2.toInt ∧ (f_X11_read_L12 n pageLength isWhole newBranches page x1).2.2.toInt ≤ 8 := by
  intro n
  induction n with
  | zero => intro _ _ _ _ _ h; exact h
  | succ n ih =>
    intro pl iw nb pg x1 h
    have g : ¬ (8 : Int32) ≤ nb → 0 ≤ (nb + (1 : Int32)).toInt ∧ (nb + (1 : Int32)).toInt ≤ 8 := fun q => by
      have := i_nle q
      have t8 : (8 : Int32).toInt = 8 := rfl
      have := i_s1 (x := nb) (by omega)
      omega
    rw [f_X11_read_L12_s]
    repeat' split
    all_goals first | exact h | exact g (by assumption) | exact ih _ _ _ _ _ (g (by assumption))
theorem r_read {pageLength isWhole newBranches : Int32} {page : Nat → Int32} {z : Int32 × Int32 × Int32} (e : z = f_X11_read pageLength isWhole newBranches page) : 0 ≤ z.2.2.toInt ∧ z.2.2.toInt ≤ 8 := by
  subst e
  exact r_read_L _ _ _ _ _ _ (by decide)
