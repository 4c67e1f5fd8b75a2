/-! ===== printed by wip/whole/gen.py: pure functions of PeelReadings$Shelf ===== -/
def fX2_has (nS : Nat) (sizes : Nat → Int32) (x1 : Int32) (x2 : Int32) : Option Int32 :=
  if x1 < 0 then
    some 0
  else
    if (Int32.ofNat nS) ≤ x1 then
      some 0
    else
      if x2 < 0 then
        some 0
      else
        bd1 (ald nS sizes x1) fun v23 =>
        if v23 ≤ x2 then
          some 0
        else
          some 1
def fX2_get (nI : Nat) (nS : Nat) (width : Int32) (items : Nat → Int32) (sizes : Nat → Int32) (x1 : Int32) (x2 : Int32) : Option Int32 :=
  bd1 (fX2_has nS sizes x1 x2) fun v3 =>
  if v3 = 0 then
    some 0
  else
    bd1 (ald nI items ((x1 * width) + x2)) fun v21 =>
    some v21
def fX2_sizeOf (nS : Nat) (sizes : Nat → Int32) (x1 : Int32) : Option Int32 :=
  if x1 < 0 then
    some (-1)
  else
    if (Int32.ofNat nS) ≤ x1 then
      some (-1)
    else
      bd1 (ald nS sizes x1) fun v18 =>
      some v18
def fX2_isMissing (nS : Nat) (sizes : Nat → Int32) (x1 : Int32) : Option Int32 :=
  bd1 (fX2_sizeOf nS sizes x1) fun v2 =>
  if v2 = (-1) then
    some 1
  else
    some 0
def fX2_hasRun (nS : Nat) (sizes : Nat → Int32) (x1 : Int32) (x2 : Int32) (x3 : Int32) : Option Int32 :=
  if x3 < 0 then
    some 0
  else
    if x2 < 0 then
      some 0
    else
      bd1 (fX2_sizeOf nS sizes x1) fun v11 =>
      if (v11 - x3) < x2 then
        some 0
      else
        some 1
def fX2_set (nI : Nat) (nS : Nat) (width : Int32) (items : Nat → Int32) (sizes : Nat → Int32) (x1 : Int32) (x2 : Int32) (x3 : Int32) : Option (Nat → Int32) :=
  bd1 (fX2_has nS sizes x1 x2) fun v3 =>
  if v3 = 0 then
    some items
  else
    bd1 (ast nI items ((x1 * width) + x2) x3) fun items_22 =>
    some items_22
def fX2_make_B35 (nI : Nat) (width : Int32) (x1 : Int32) (x2 : Int32) (x3 : Int32) (rec : (Nat → Int32) → Int32 → Option (Nat → Int32)) (items : Nat → Int32) (x4 : Int32) : Option (Nat → Int32) :=
  if x2 ≤ x4 then
    some items
  else
    bd1 (ast nI items ((x1 * width) + x4) x3) fun items_55 =>
    rec items_55 (x4 + 1)
def fX2_make_L35 (nI : Nat) (width : Int32) (x1 : Int32) (x2 : Int32) (x3 : Int32) : Nat → (Nat → Int32) → Int32 → Option (Nat → Int32)
  | 0 => fun _ _ => none
  | n + 1 => fX2_make_B35 nI width x1 x2 x3 (fX2_make_L35 nI width x1 x2 x3 n)
def fX2_make (nI : Nat) (nS : Nat) (width : Int32) (items : Nat → Int32) (sizes : Nat → Int32) (x1 : Int32) (x2 : Int32) (x3 : Int32) : Option ((Nat → Int32) × (Nat → Int32)) :=
  if x1 < 0 then
    some (items, sizes)
  else
    if (Int32.ofNat nS) ≤ x1 then
      some (items, sizes)
    else
      if x2 < 0 then
        some (items, sizes)
      else
        if width < x2 then
          some (items, sizes)
        else
          bd1 (ast nS sizes x1 x2) fun sizes_31 =>
          bd1 (fX2_make_L35 nI width x1 x2 x3 FU items 0) fun items_L35 =>
          some (items_L35, sizes_31)
def fX2_append (nI : Nat) (nS : Nat) (width : Int32) (items : Nat → Int32) (sizes : Nat → Int32) (x1 : Int32) (x2 : Int32) : Option ((Nat → Int32) × (Nat → Int32)) :=
  bd1 (fX2_sizeOf nS sizes x1) fun v2 =>
  if v2 < 0 then
    some (items, sizes)
  else
    if width ≤ v2 then
      some (items, sizes)
    else
      bd1 (ast nS sizes x1 (v2 + 1)) fun sizes_26 =>
      bd1 (ast nI items ((x1 * width) + v2) x2) fun items_40 =>
      some (items_40, sizes_26)
def fX2_cut (nS : Nat) (sizes : Nat → Int32) (x1 : Int32) (x2 : Int32) : Option (Nat → Int32) :=
  if x2 < 0 then
    some sizes
  else
    bd1 (fX2_sizeOf nS sizes x1) fun v7 =>
    if v7 ≤ x2 then
      some sizes
    else
      bd1 (ast nS sizes x1 x2) fun sizes_19 =>
      some sizes_19
def fX2_remove (nS : Nat) (sizes : Nat → Int32) (x1 : Int32) : Option (Nat → Int32) :=
  if x1 < 0 then
    some sizes
  else
    if (Int32.ofNat nS) ≤ x1 then
      some sizes
    else
      bd1 (ast nS sizes x1 (-1)) fun sizes_19 =>
      some sizes_19
def fX2_copyRun (nI : Nat) (nS : Nat) (width : Int32) (items : Nat → Int32) (sizes : Nat → Int32) (x1 : Int32) (x2 : Int32) (x3 : Int32) (x4 : Int32) (x5 : Int32) : Option (Nat → Int32) :=
  bd1 (fX2_hasRun nS sizes x1 x2 x5) fun v5 =>
  if v5 = 0 then
    some items
  else
    bd1 (fX2_hasRun nS sizes x3 x4 x5) fun v17 =>
    if v17 = 0 then
      some items
    else
      bd1 (acp nI items ((x1 * width) + x2) ((x3 * width) + x4) x5) fun items_50 =>
      some items_50
def fX2_copyRow (nI : Nat) (nS : Nat) (width : Int32) (items : Nat → Int32) (sizes : Nat → Int32) (x1 : Int32) (x2 : Int32) : Option ((Nat → Int32) × (Nat → Int32)) :=
  bd1 (fX2_sizeOf nS sizes x1) fun v2 =>
  if v2 < 0 then
    some (items, sizes)
  else
    bd2 (fX2_make nI nS width items sizes x2 v2 0) fun items_14 sizes_14 =>
    bd1 (fX2_copyRun nI nS width items_14 sizes_14 x1 0 x2 0 v2) fun items_23 =>
    some (items_23, sizes_14)
def fX2_amount_j26 (rec : Int32 → Int32 → Option Int32) (nS : Nat) (sizes : Nat → Int32) (x1 : Int32) (x2 : Int32) : Option Int32 :=
  rec x1 (x2 + 1)
def fX2_amount_B4 (nS : Nat) (sizes : Nat → Int32) (rec : Int32 → Int32 → Option Int32) (x1 : Int32) (x2 : Int32) : Option Int32 :=
  if (Int32.ofNat nS) ≤ x2 then
    some x1
  else
    bd1 (ald nS sizes x2) fun v18 =>
    if v18 = (-1) then
      fX2_amount_j26 rec nS sizes x1 x2
    else
      fX2_amount_j26 rec nS sizes (x1 + 1) x2
def fX2_amount_L4 (nS : Nat) (sizes : Nat → Int32) : Nat → Int32 → Int32 → Option Int32
  | 0 => fun _ _ => none
  | n + 1 => fX2_amount_B4 nS sizes (fX2_amount_L4 nS sizes n)
def fX2_amount (nS : Nat) (sizes : Nat → Int32) : Option Int32 :=
  bd1 (fX2_amount_L4 nS sizes FU 0 0) fun x1_L4 =>
  some x1_L4
def fX2_addTo_B33 (nI : Nat) (nS : Nat) (width : Int32) (items : Nat → Int32) (sizes : Nat → Int32) (x5 : Int32) (rec : Int64 → Int32 → Option Int64) (x3 : Int64) (x6 : Int32) : Option Int64 :=
  bd1 (ald nS sizes x5) fun v41 =>
  if v41 ≤ x6 then
    some x3
  else
    bd1 (fX2_get nI nS width items sizes x5 x6) fun v55 =>
    rec ((31 * x3) + (Int32.toInt64 v55)) (x6 + 1)
def fX2_addTo_L33 (nI : Nat) (nS : Nat) (width : Int32) (items : Nat → Int32) (sizes : Nat → Int32) (x5 : Int32) : Nat → Int64 → Int32 → Option Int64
  | 0 => fun _ _ => none
  | n + 1 => fX2_addTo_B33 nI nS width items sizes x5 (fX2_addTo_L33 nI nS width items sizes x5 n)
def fX2_addTo_B5 (nI : Nat) (nS : Nat) (width : Int32) (items : Nat → Int32) (sizes : Nat → Int32) (rec : Int64 → Int32 → Option Int64) (x3 : Int64) (x5 : Int32) : Option Int64 :=
  if (Int32.ofNat nS) ≤ x5 then
    some x3
  else
    bd1 (ald nS sizes x5) fun v26 =>
    bd1 (fX2_addTo_L33 nI nS width items sizes x5 FU ((31 * x3) + (Int32.toInt64 v26)) 0) fun x3_L33 =>
    rec x3_L33 (x5 + 1)
def fX2_addTo_L5 (nI : Nat) (nS : Nat) (width : Int32) (items : Nat → Int32) (sizes : Nat → Int32) : Nat → Int64 → Int32 → Option Int64
  | 0 => fun _ _ => none
  | n + 1 => fX2_addTo_B5 nI nS width items sizes (fX2_addTo_L5 nI nS width items sizes n)
def fX2_addTo (nI : Nat) (nS : Nat) (width : Int32) (items : Nat → Int32) (sizes : Nat → Int32) (x1 : Int64) : Option Int64 :=
  bd1 (fX2_addTo_L5 nI nS width items sizes FU x1 0) fun x3_L5 =>
  some x3_L5
