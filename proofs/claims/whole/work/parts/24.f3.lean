/-! ===== printed by wip/whole/gen.py: pure functions of PeelReadings$Slice ===== -/
def fX3_clear  : Option (Int32 × Int32 × Int32 × Int32 × Int32 × Int32) :=
  some (0, 0, 0, 0, 0, 0)
def fX3_has (size : Int32) (x1 : Int32) : Option Int32 :=
  if x1 < 0 then
    some 0
  else
    if size ≤ x1 then
      some 0
    else
      if 6 ≤ x1 then
        some 0
      else
        some 1
def fX3_reach  (x0 : Int32) (x1 : Int32) (x2 : Int32) : Option Int32 :=
  if x2 = 1 then
    some ((((((x1 &&& 1) ||| ((x1 &&& 2) <<< ((3 : Int32) &&& 31))) ||| ((x1 &&& 4) <<< ((6 : Int32) &&& 31))) ||| ((x1 &&& 8) <<< ((9 : Int32) &&& 31))) <<< (x0 &&& 31)) &&& 65535)
  else
    some (((x1 <<< ((x0 - x0 / 4 * 4) &&& 31)) &&& 15) <<< (((x0 / 4) * 4) &&& 31))
def fX3_coverBy  (x0 : Int32) (x1 : Int32) (x2 : Int32) (x3 : Int32) : Option Int32 :=
  if x0 = 1 then
    bd1 (fX3_reach x1 ((((1 : Int32) <<< (x2 &&& 31)) - 1) &&& 5) x3) fun v52 =>
    some v52
  else
  if x0 = 2 then
    bd1 (fX3_reach x1 3 0) fun v59 =>
    bd1 (fX3_reach x1 3 0) fun v65 =>
    some ((v59 ||| (v65 <<< ((4 : Int32) &&& 31))) &&& 65535)
  else
  if x0 = 3 then
    bd1 (fX3_reach x1 (((1 : Int32) <<< (x2 &&& 31)) - 1) x3) fun v79 =>
    bd1 (fX3_reach x1 3 (1 - x3)) fun v87 =>
    some (v79 ||| v87)
  else
  if x0 = 4 then
    bd1 (fX3_reach x1 ((((1 : Int32) <<< (x2 &&& 31)) - 1) &&& 5) 0) fun v96 =>
    bd1 (fX3_reach x1 ((((1 : Int32) <<< (x2 &&& 31)) - 1) &&& 5) 1) fun v103 =>
    some (v96 ||| v103)
  else
  if x0 = 5 then
    some ((1 : Int32) <<< (x1 &&& 31))
  else
  bd1 (fX3_reach x1 (((1 : Int32) <<< (x2 &&& 31)) - 1) x3) fun v116 =>
  some v116
def fX3_settle (size : Int32) (kinds : Nat → Int32) (places : Nat → Int32) (lengths : Nat → Int32) (downs : Nat → Int32) (covers : Nat → Int32) (x1 : Int32) (x2 : Int32) (x3 : Int32) : Option ((Nat → Int32) × (Nat → Int32) × (Nat → Int32)) :=
  bd1 (fX3_has size x1) fun v2 =>
  if v2 = 0 then
    some (places, downs, covers)
  else
    bd1 (ast 6 places x1 x2) fun places_14 =>
    bd1 (ast 6 downs x1 x3) fun downs_21 =>
    bd1 (ald 6 kinds x1) fun v32 =>
    bd1 (ald 6 lengths x1) fun v39 =>
    bd1 (fX3_coverBy v32 x2 v39 x3) fun v41 =>
    bd1 (ast 6 covers x1 v41) fun covers_44 =>
    some (places_14, downs_21, covers_44)
def fX3_add (size : Int32) (kinds : Nat → Int32) (places : Nat → Int32) (lengths : Nat → Int32) (downs : Nat → Int32) (covers : Nat → Int32) (x1 : Int32) (x2 : Int32) (x3 : Int32) (x4 : Int32) : Option (Int32 × (Nat → Int32) × (Nat → Int32) × (Nat → Int32) × (Nat → Int32) × (Nat → Int32)) :=
  if size < 0 then
    some (size, kinds, places, lengths, downs, covers)
  else
    if 6 ≤ size then
      some (size, kinds, places, lengths, downs, covers)
    else
      bd1 (ast 6 kinds size x1) fun kinds_25 =>
      bd1 (ast 6 lengths size x3) fun lengths_35 =>
      bd3 (fX3_settle (size + 1) kinds_25 places lengths_35 downs covers ((size + 1) - 1) x2 x4) fun places_56 downs_56 covers_56 =>
      some ((size + 1), kinds_25, places_56, lengths_35, downs_56, covers_56)
def fX3_take_B2 (o_kinds : Nat → Int32) (o_places : Nat → Int32) (o_lengths : Nat → Int32) (o_downs : Nat → Int32) (o_covers : Nat → Int32) (rec : (Nat → Int32) → (Nat → Int32) → (Nat → Int32) → (Nat → Int32) → (Nat → Int32) → Int32 → Option ((Nat → Int32) × (Nat → Int32) × (Nat → Int32) × (Nat → Int32) × (Nat → Int32))) (kinds : Nat → Int32) (places : Nat → Int32) (lengths : Nat → Int32) (downs : Nat → Int32) (covers : Nat → Int32) (x2 : Int32) : Option ((Nat → Int32) × (Nat → Int32) × (Nat → Int32) × (Nat → Int32) × (Nat → Int32)) :=
  if 6 ≤ x2 then
    some (kinds, places, lengths, downs, covers)
  else
    bd1 (ald 6 o_kinds x2) fun v18 =>
    bd1 (ast 6 kinds x2 v18) fun kinds_19 =>
    bd1 (ald 6 o_places x2) fun v30 =>
    bd1 (ast 6 places x2 v30) fun places_31 =>
    bd1 (ald 6 o_lengths x2) fun v42 =>
    bd1 (ast 6 lengths x2 v42) fun lengths_43 =>
    bd1 (ald 6 o_downs x2) fun v54 =>
    bd1 (ast 6 downs x2 v54) fun downs_55 =>
    bd1 (ald 6 o_covers x2) fun v66 =>
    bd1 (ast 6 covers x2 v66) fun covers_67 =>
    rec kinds_19 places_31 lengths_43 downs_55 covers_67 (x2 + 1)
def fX3_take_L2 (o_kinds : Nat → Int32) (o_places : Nat → Int32) (o_lengths : Nat → Int32) (o_downs : Nat → Int32) (o_covers : Nat → Int32) : Nat → (Nat → Int32) → (Nat → Int32) → (Nat → Int32) → (Nat → Int32) → (Nat → Int32) → Int32 → Option ((Nat → Int32) × (Nat → Int32) × (Nat → Int32) × (Nat → Int32) × (Nat → Int32))
  | 0 => fun _ _ _ _ _ _ => none
  | n + 1 => fX3_take_B2 o_kinds o_places o_lengths o_downs o_covers (fX3_take_L2 o_kinds o_places o_lengths o_downs o_covers n)
def fX3_take (kinds : Nat → Int32) (places : Nat → Int32) (lengths : Nat → Int32) (downs : Nat → Int32) (covers : Nat → Int32) (o_size : Int32) (o_need : Int32) (o_lifted : Int32) (o_licked : Int32) (o_morning : Int32) (o_tally : Int32) (o_kinds : Nat → Int32) (o_places : Nat → Int32) (o_lengths : Nat → Int32) (o_downs : Nat → Int32) (o_covers : Nat → Int32) : Option (Int32 × Int32 × Int32 × Int32 × Int32 × Int32 × (Nat → Int32) × (Nat → Int32) × (Nat → Int32) × (Nat → Int32) × (Nat → Int32)) :=
  bd5 (fX3_take_L2 o_kinds o_places o_lengths o_downs o_covers FU kinds places lengths downs covers 0) fun kinds_L2 places_L2 lengths_L2 downs_L2 covers_L2 =>
  some (o_size, o_need, o_lifted, o_licked, o_morning, o_tally, kinds_L2, places_L2, lengths_L2, downs_L2, covers_L2)
def fX3_placeOf (size : Int32) (places : Nat → Int32) (x1 : Int32) : Option Int32 :=
  bd1 (fX3_has size x1) fun v2 =>
  if v2 = 0 then
    some (-9)
  else
    bd1 (ald 6 places x1) fun v13 =>
    some v13
def fX3_downOf (size : Int32) (downs : Nat → Int32) (x1 : Int32) : Option Int32 :=
  bd1 (fX3_has size x1) fun v2 =>
  if v2 = 0 then
    some (-9)
  else
    bd1 (ald 6 downs x1) fun v13 =>
    some v13
def fX3_isLifted (lifted : Int32) (x1 : Int32) : Option Int32 :=
  if ((lifted >>> (x1 &&& 31)) &&& 1) = 1 then
    some 1
  else
    some 0
def fX3_allPeels (size : Int32) : Option Int32 :=
  some (((1 : Int32) <<< (size &&& 31)) - 1)
def fX4_bit  (x0 : Int32) (x1 : Int32) : Option Int32 :=
  some ((x0 >>> (x1 &&& 31)) &&& 1)
def fX3_weightBy  (x0 : Int32) : Option Int32 :=
  if x0 = 2 then
    some 3
  else
  if x0 = 3 then
    some 2
  else
  if x0 = 5 then
    some 3
  else
  some 1
def fX3_trait (size : Int32) (lifted : Int32) (kinds : Nat → Int32) (places : Nat → Int32) (lengths : Nat → Int32) (downs : Nat → Int32) (covers : Nat → Int32) (x1 : Int32) (x2 : Int32) : Option Int32 :=
  bd1 (fX3_has size x1) fun v2 =>
  if v2 = 0 then
    some (-1)
  else
    if x2 = 0 then
      bd1 (ald 6 kinds x1) fun v57 =>
      some v57
    else
    if x2 = 1 then
      bd1 (ald 6 places x1) fun v64 =>
      some v64
    else
    if x2 = 2 then
      bd1 (ald 6 lengths x1) fun v71 =>
      some v71
    else
    if x2 = 3 then
      bd1 (ald 6 downs x1) fun v78 =>
      some v78
    else
    if x2 = 4 then
      bd1 (fX4_bit lifted x1) fun v85 =>
      some v85
    else
    if x2 = 5 then
      bd1 (ald 6 covers x1) fun v94 =>
      some v94
    else
    if x2 = 6 then
      bd1 (ald 6 kinds x1) fun v101 =>
      bd1 (fX3_weightBy v101) fun v102 =>
      some v102
    else
    some (-1)
def fX3_isOf_j45  : Option Int32 :=
  some 1
def fX3_isOf_j35 (x2 : Int32) (x3 : Int32) : Option Int32 :=
  if x3 = 5 then
    if x2 = 2 then
      fX3_isOf_j45
    else
      some 0
  else
    some 0
def fX3_isOf_j19 (x2 : Int32) (k0 : Int32) : Option Int32 :=
  if k0 = x2 then
    fX3_isOf_j45
  else
    if k0 = 4 then
      if x2 = 1 then
        fX3_isOf_j45
      else
        fX3_isOf_j35 x2 k0
    else
      fX3_isOf_j35 x2 k0
def fX3_isOf (size : Int32) (kinds : Nat → Int32) (x1 : Int32) (x2 : Int32) : Option Int32 :=
  bd1 (fX3_has size x1) fun v2 =>
  if v2 = 0 then
    fX3_isOf_j19 x2 (-9)
  else
    bd1 (ald 6 kinds x1) fun v13 =>
    fX3_isOf_j19 x2 v13
def fX3_amountOf_j24 (rec : Int32 → Int32 → Option Int32) (size : Int32) (kinds : Nat → Int32) (x1 : Int32) (x2 : Int32) (x3 : Int32) : Option Int32 :=
  rec x2 (x3 + 1)
def fX3_amountOf_B4 (size : Int32) (kinds : Nat → Int32) (x1 : Int32) (rec : Int32 → Int32 → Option Int32) (x2 : Int32) (x3 : Int32) : Option Int32 :=
  if size ≤ x3 then
    some x2
  else
    bd1 (fX3_isOf size kinds x3 x1) fun v15 =>
    if v15 = 0 then
      fX3_amountOf_j24 rec size kinds x1 x2 x3
    else
      fX3_amountOf_j24 rec size kinds x1 (x2 + 1) x3
def fX3_amountOf_L4 (size : Int32) (kinds : Nat → Int32) (x1 : Int32) : Nat → Int32 → Int32 → Option Int32
  | 0 => fun _ _ => none
  | n + 1 => fX3_amountOf_B4 size kinds x1 (fX3_amountOf_L4 size kinds x1 n)
def fX3_amountOf (size : Int32) (kinds : Nat → Int32) (x1 : Int32) : Option Int32 :=
  bd1 (fX3_amountOf_L4 size kinds x1 FU 0 0) fun x2_L4 =>
  some x2_L4
def fX3_amountOfWeight_j34 (rec : Int32 → Int32 → Option Int32) (size : Int32) (kinds : Nat → Int32) (x1 : Int32) (x2 : Int32) (x3 : Int32) : Option Int32 :=
  rec x2 (x3 + 1)
def fX3_amountOfWeight_B4 (size : Int32) (kinds : Nat → Int32) (x1 : Int32) (rec : Int32 → Int32 → Option Int32) (x2 : Int32) (x3 : Int32) : Option Int32 :=
  if size ≤ x3 then
    some x2
  else
    if 6 ≤ x3 then
      some x2
    else
      bd1 (ald 6 kinds x3) fun v23 =>
      bd1 (fX3_weightBy v23) fun v24 =>
      if v24 = x1 then
        fX3_amountOfWeight_j34 rec size kinds x1 (x2 + 1) x3
      else
        fX3_amountOfWeight_j34 rec size kinds x1 x2 x3
def fX3_amountOfWeight_L4 (size : Int32) (kinds : Nat → Int32) (x1 : Int32) : Nat → Int32 → Int32 → Option Int32
  | 0 => fun _ _ => none
  | n + 1 => fX3_amountOfWeight_B4 size kinds x1 (fX3_amountOfWeight_L4 size kinds x1 n)
def fX3_amountOfWeight (size : Int32) (kinds : Nat → Int32) (x1 : Int32) : Option Int32 :=
  bd1 (fX3_amountOfWeight_L4 size kinds x1 FU 0 0) fun x2_L4 =>
  some x2_L4
def fX3_coverAs (size : Int32) (places : Nat → Int32) (lengths : Nat → Int32) (downs : Nat → Int32) (x1 : Int32) (x2 : Int32) : Option Int32 :=
  bd1 (fX3_has size x2) fun v2 =>
  if v2 = 0 then
    some 0
  else
    bd1 (ald 6 places x2) fun v14 =>
    bd1 (ald 6 lengths x2) fun v20 =>
    bd1 (ald 6 downs x2) fun v26 =>
    bd1 (fX3_coverBy x1 v14 v20 v26) fun v27 =>
    some v27
def fX3_tells (size : Int32) (kinds : Nat → Int32) (places : Nat → Int32) (lengths : Nat → Int32) (downs : Nat → Int32) (covers : Nat → Int32) (x1 : Int32) (x2 : Int32) : Option Int32 :=
  bd1 (fX3_has size x1) fun v2 =>
  if v2 = 0 then
    some (-1)
  else
    bd1 (ald 6 covers x1) fun v15 =>
    if x2 = 1 then
      bd1 (fX3_coverAs size places lengths downs 0 x1) fun v55 =>
      some (bitc (v55 &&& (v15 ^^^ (-1))))
    else
    if x2 = 2 then
      bd1 (ald 6 kinds x1) fun v72 =>
      bd1 (fX3_weightBy v72) fun v73 =>
      bd1 (fX3_amountOfWeight size kinds v73) fun v76 =>
      some v76
    else
    if x2 = 3 then
      bd1 (fX3_coverAs size places lengths downs 0 x1) fun v84 =>
      some (bitc (v15 &&& (v84 ^^^ (-1))))
    else
    if x2 = 4 then
      bd1 (fX3_coverAs size places lengths downs 1 x1) fun v98 =>
      some (bitc (v15 &&& (v98 ^^^ (-1))))
    else
    if x2 = 5 then
      bd1 (fX3_coverAs size places lengths downs 2 x1) fun v111 =>
      some ((bitc v111) - (bitc v15))
    else
    some (-1)
def fX3_coverAt (size : Int32) (kinds : Nat → Int32) (lengths : Nat → Int32) (x1 : Int32) (x2 : Int32) (x3 : Int32) : Option Int32 :=
  bd1 (fX3_has size x1) fun v2 =>
  if v2 = 0 then
    some 0
  else
    bd1 (ald 6 kinds x1) fun v13 =>
    bd1 (ald 6 lengths x1) fun v20 =>
    bd1 (fX3_coverBy v13 x2 v20 x3) fun v22 =>
    some v22
def fX3_coverOfAllBut_j52 (rec : Int32 → Int32 → Option Int32) (size : Int32) (lifted : Int32) (covers : Nat → Int32) (x1 : Int32) (x2 : Int32) (x3 : Int32) (x4 : Int32) : Option Int32 :=
  rec x3 (x4 + 1)
def fX3_coverOfAllBut_B5 (size : Int32) (lifted : Int32) (covers : Nat → Int32) (x1 : Int32) (x2 : Int32) (rec : Int32 → Int32 → Option Int32) (x3 : Int32) (x4 : Int32) : Option Int32 :=
  if size ≤ x4 then
    some x3
  else
    if 6 ≤ x4 then
      some x3
    else
      if x4 = x1 then
        fX3_coverOfAllBut_j52 rec size lifted covers x1 x2 x3 x4
      else
        if x4 = x2 then
          fX3_coverOfAllBut_j52 rec size lifted covers x1 x2 x3 x4
        else
          bd1 (fX3_isLifted lifted x4) fun v36 =>
          if v36 = 0 then
            bd1 (ald 6 covers x4) fun v49 =>
            fX3_coverOfAllBut_j52 rec size lifted covers x1 x2 (x3 ||| v49) x4
          else
            fX3_coverOfAllBut_j52 rec size lifted covers x1 x2 x3 x4
def fX3_coverOfAllBut_L5 (size : Int32) (lifted : Int32) (covers : Nat → Int32) (x1 : Int32) (x2 : Int32) : Nat → Int32 → Int32 → Option Int32
  | 0 => fun _ _ => none
  | n + 1 => fX3_coverOfAllBut_B5 size lifted covers x1 x2 (fX3_coverOfAllBut_L5 size lifted covers x1 x2 n)
def fX3_coverOfAllBut (size : Int32) (lifted : Int32) (covers : Nat → Int32) (x1 : Int32) (x2 : Int32) : Option Int32 :=
  bd1 (fX3_coverOfAllBut_L5 size lifted covers x1 x2 FU 0 0) fun x3_L5 =>
  some x3_L5
def fX3_coveredNow (size : Int32) (lifted : Int32) (licked : Int32) (covers : Nat → Int32) : Option Int32 :=
  bd1 (fX3_coverOfAllBut size lifted covers (-9) (-9)) fun v5 =>
  some (v5 &&& (licked ^^^ (-1)))
def fX3_linesBy_j40 (rec : Int32 → Int32 → Option Int32) (size : Int32) (need : Int32) (x1 : Int32) (x2 : Int32) (x3 : Int32) : Option Int32 :=
  rec x2 (x3 + 1)
def fX3_linesBy_B4 (size : Int32) (need : Int32) (x1 : Int32) (rec : Int32 → Int32 → Option Int32) (x2 : Int32) (x3 : Int32) : Option Int32 :=
  if 8 ≤ x3 then
    some x2
  else
    if size ≤ 0 then
      some x2
    else
      bd1 (ald 8 lineP x3) fun v22 =>
      if (bitc (x1 &&& v22)) < need then
        fX3_linesBy_j40 rec size need x1 x2 x3
      else
        fX3_linesBy_j40 rec size need x1 (x2 ||| ((1 : Int32) <<< (x3 &&& 31))) x3
def fX3_linesBy_L4 (size : Int32) (need : Int32) (x1 : Int32) : Nat → Int32 → Int32 → Option Int32
  | 0 => fun _ _ => none
  | n + 1 => fX3_linesBy_B4 size need x1 (fX3_linesBy_L4 size need x1 n)
def fX3_linesBy (size : Int32) (need : Int32) (x1 : Int32) : Option Int32 :=
  bd1 (fX3_linesBy_L4 size need x1 FU 0 0) fun x2_L4 =>
  some x2_L4
def fX3_linesNow (size : Int32) (need : Int32) (lifted : Int32) (licked : Int32) (covers : Nat → Int32) : Option Int32 :=
  bd1 (fX3_coverOfAllBut size lifted covers (-9) (-9)) fun v6 =>
  bd1 (fX3_linesBy size need (v6 &&& (licked ^^^ (-1)))) fun v16 =>
  some v16
def fX3_areRead_j36 (rec : Int32 → Option (Int32 ⊕ Unit)) (need : Int32) (x1 : Int32) (x2 : Int32) (x3 : Int32) : Option (Int32 ⊕ Unit) :=
  rec (x3 + 1)
def fX3_areRead_B2 (need : Int32) (x1 : Int32) (x2 : Int32) (rec : Int32 → Option (Int32 ⊕ Unit)) (x3 : Int32) : Option (Int32 ⊕ Unit) :=
  if 8 ≤ x3 then
    some (.inr ())
  else
    bd1 (fX4_bit x1 x3) fun v10 =>
    if v10 = 1 then
      bd1 (ald 8 lineP x3) fun v22 =>
      if need ≤ (bitc (x2 &&& v22)) then
        fX3_areRead_j36 rec need x1 x2 x3
      else
        some (.inl 0)
    else
      fX3_areRead_j36 rec need x1 x2 x3
def fX3_areRead_L2 (need : Int32) (x1 : Int32) (x2 : Int32) : Nat → Int32 → Option (Int32 ⊕ Unit)
  | 0 => fun _ => none
  | n + 1 => fX3_areRead_B2 need x1 x2 (fX3_areRead_L2 need x1 x2 n)
def fX3_areRead (need : Int32) (x1 : Int32) (x2 : Int32) : Option Int32 :=
  st0 (fX3_areRead_L2 need x1 x2 FU 0) fun _ =>
  some 1
def fX3_weightOn_j75 (rec : Int32 → Int32 → Option Int32) (size : Int32) (lifted : Int32) (kinds : Nat → Int32) (covers : Nat → Int32) (x2 : Int32) (x3 : Int32) (x4 : Int32) : Option Int32 :=
  rec x2 (x4 + 1)
def fX3_weightOn_B25 (size : Int32) (lifted : Int32) (kinds : Nat → Int32) (covers : Nat → Int32) (x3 : Int32) (rec : Int32 → Int32 → Option Int32) (x2 : Int32) (x4 : Int32) : Option Int32 :=
  if size ≤ x4 then
    some x2
  else
    if 6 ≤ x4 then
      some x2
    else
      bd1 (fX3_isLifted lifted x4) fun v44 =>
      if v44 = 0 then
        bd1 (ald 6 covers x4) fun v56 =>
        if (v56 &&& x3) = 0 then
          fX3_weightOn_j75 rec size lifted kinds covers x2 x3 x4
        else
          bd1 (ald 6 kinds x4) fun v69 =>
          bd1 (fX3_weightBy v69) fun v70 =>
          fX3_weightOn_j75 rec size lifted kinds covers (x2 + v70) x3 x4
      else
        fX3_weightOn_j75 rec size lifted kinds covers x2 x3 x4
def fX3_weightOn_L25 (size : Int32) (lifted : Int32) (kinds : Nat → Int32) (covers : Nat → Int32) (x3 : Int32) : Nat → Int32 → Int32 → Option Int32
  | 0 => fun _ _ => none
  | n + 1 => fX3_weightOn_B25 size lifted kinds covers x3 (fX3_weightOn_L25 size lifted kinds covers x3 n)
def fX3_weightOn_j21 (size : Int32) (lifted : Int32) (kinds : Nat → Int32) (covers : Nat → Int32) (x2 : Int32) (k0 : Int32) : Option Int32 :=
  bd1 (fX3_weightOn_L25 size lifted kinds covers k0 FU x2 0) fun x2_L25 =>
  some x2_L25
def fX3_weightOn_j20 (size : Int32) (lifted : Int32) (kinds : Nat → Int32) (covers : Nat → Int32) (x2 : Int32) : Option Int32 :=
  fX3_weightOn_j21 size lifted kinds covers x2 0
def fX3_weightOn (size : Int32) (lifted : Int32) (kinds : Nat → Int32) (covers : Nat → Int32) (x1 : Int32) : Option Int32 :=
  if x1 < 0 then
    fX3_weightOn_j20 size lifted kinds covers 0
  else
    if 8 ≤ x1 then
      fX3_weightOn_j20 size lifted kinds covers 0
    else
      bd1 (ald 8 lineP x1) fun v16 =>
      fX3_weightOn_j21 size lifted kinds covers 0 v16
def fX3_lengthOfAll_B4 (size : Int32) (lengths : Nat → Int32) (x1 : Int32) (rec : Int32 → Int32 → Option Int32) (x2 : Int32) (x3 : Int32) : Option Int32 :=
  if size ≤ x3 then
    some x2
  else
    if 6 ≤ x3 then
      some x2
    else
      bd1 (fX4_bit x1 x3) fun v21 =>
      bd1 (ald 6 lengths x3) fun v29 =>
      rec (x2 + (v21 * v29)) (x3 + 1)
def fX3_lengthOfAll_L4 (size : Int32) (lengths : Nat → Int32) (x1 : Int32) : Nat → Int32 → Int32 → Option Int32
  | 0 => fun _ _ => none
  | n + 1 => fX3_lengthOfAll_B4 size lengths x1 (fX3_lengthOfAll_L4 size lengths x1 n)
def fX3_lengthOfAll (size : Int32) (lengths : Nat → Int32) (x1 : Int32) : Option Int32 :=
  bd1 (fX3_lengthOfAll_L4 size lengths x1 FU 0 0) fun x2_L4 =>
  some x2_L4
def fX3_setKind (size : Int32) (kinds : Nat → Int32) (places : Nat → Int32) (lengths : Nat → Int32) (downs : Nat → Int32) (covers : Nat → Int32) (x1 : Int32) (x2 : Int32) : Option ((Nat → Int32) × (Nat → Int32)) :=
  bd1 (fX3_has size x1) fun v2 =>
  if v2 = 0 then
    some (kinds, covers)
  else
    bd1 (ast 6 kinds x1 x2) fun kinds_14 =>
    bd1 (ald 6 places x1) fun v26 =>
    bd1 (ald 6 lengths x1) fun v32 =>
    bd1 (ald 6 downs x1) fun v38 =>
    bd1 (fX3_coverBy x2 v26 v32 v38) fun v39 =>
    bd1 (ast 6 covers x1 v39) fun covers_42 =>
    some (kinds_14, covers_42)
def fX3_fall_j91 (rec : (Nat → Int32) → (Nat → Int32) → (Nat → Int32) → Int32 → Option ((Nat → Int32) × (Nat → Int32) × (Nat → Int32))) (size : Int32) (lifted : Int32) (morning : Int32) (kinds : Nat → Int32) (places : Nat → Int32) (lengths : Nat → Int32) (downs : Nat → Int32) (covers : Nat → Int32) (x1 : Int32) (x2 : Int32) : Option ((Nat → Int32) × (Nat → Int32) × (Nat → Int32)) :=
  rec places downs covers (x2 + 1)
def fX3_fall_j88 (rec : (Nat → Int32) → (Nat → Int32) → (Nat → Int32) → Int32 → Option ((Nat → Int32) × (Nat → Int32) × (Nat → Int32))) (size : Int32) (lifted : Int32) (morning : Int32) (kinds : Nat → Int32) (places : Nat → Int32) (lengths : Nat → Int32) (downs : Nat → Int32) (covers : Nat → Int32) (x1 : Int32) (x2 : Int32) (k1 : Int32) (k2 : Int32) (k3 : Int32) : Option ((Nat → Int32) × (Nat → Int32) × (Nat → Int32)) :=
  bd3 (fX3_settle size kinds places lengths downs covers k1 k2 k3) fun places_88 downs_88 covers_88 =>
  fX3_fall_j91 rec size lifted morning kinds places_88 lengths downs_88 covers_88 x1 x2
def fX3_fall_B18 (size : Int32) (lifted : Int32) (morning : Int32) (kinds : Nat → Int32) (lengths : Nat → Int32) (x1 : Int32) (rec : (Nat → Int32) → (Nat → Int32) → (Nat → Int32) → Int32 → Option ((Nat → Int32) × (Nat → Int32) × (Nat → Int32))) (places : Nat → Int32) (downs : Nat → Int32) (covers : Nat → Int32) (x2 : Int32) : Option ((Nat → Int32) × (Nat → Int32) × (Nat → Int32)) :=
  if size ≤ x2 then
    some (places, downs, covers)
  else
    if 6 ≤ x2 then
      some (places, downs, covers)
    else
      bd1 (fX3_isLifted lifted x2) fun v34 =>
      if v34 = 0 then
        bd1 (ald 6 places x2) fun v46 =>
        bd1 (ald 6 lengths x2) fun v53 =>
        if x1 = 0 then
          bd1 (ald 6 downs x2) fun v87 =>
          fX3_fall_j88 rec size lifted morning kinds places lengths downs covers x1 x2 x2 ((((5 * v46) + v53) + morning) - (((5 * v46) + v53) + morning) / 16 * 16) v87
        else
          bd1 (ald 6 downs x2) fun v77 =>
          fX3_fall_j88 rec size lifted morning kinds places lengths downs covers x1 x2 x2 ((((5 * v46) + v53) + morning) - (((5 * v46) + v53) + morning) / 16 * 16) (1 - v77)
      else
        fX3_fall_j91 rec size lifted morning kinds places lengths downs covers x1 x2
def fX3_fall_L18 (size : Int32) (lifted : Int32) (morning : Int32) (kinds : Nat → Int32) (lengths : Nat → Int32) (x1 : Int32) : Nat → (Nat → Int32) → (Nat → Int32) → (Nat → Int32) → Int32 → Option ((Nat → Int32) × (Nat → Int32) × (Nat → Int32))
  | 0 => fun _ _ _ _ => none
  | n + 1 => fX3_fall_B18 size lifted morning kinds lengths x1 (fX3_fall_L18 size lifted morning kinds lengths x1 n)
def fX3_fall_j15 (size : Int32) (need : Int32) (lifted : Int32) (licked : Int32) (morning : Int32) (tally : Int32) (kinds : Nat → Int32) (places : Nat → Int32) (lengths : Nat → Int32) (downs : Nat → Int32) (covers : Nat → Int32) (k0 : Int32) : Option (Int32 × Int32 × (Nat → Int32) × (Nat → Int32) × (Nat → Int32)) :=
  bd3 (fX3_fall_L18 size lifted morning kinds lengths k0 FU places downs covers 0) fun places_L18 downs_L18 covers_L18 =>
  bd1 (fX3_linesNow size need lifted licked covers_L18) fun v103 =>
  some ((morning + 1), (tally + (bitc v103)), places_L18, downs_L18, covers_L18)
def fX3_fall (size : Int32) (need : Int32) (lifted : Int32) (licked : Int32) (morning : Int32) (tally : Int32) (kinds : Nat → Int32) (places : Nat → Int32) (lengths : Nat → Int32) (downs : Nat → Int32) (covers : Nat → Int32) : Option (Int32 × Int32 × (Nat → Int32) × (Nat → Int32) × (Nat → Int32)) :=
  if (morning - morning / 3 * 3) = 2 then
    fX3_fall_j15 size need lifted licked morning tally kinds places lengths downs covers 1
  else
    fX3_fall_j15 size need lifted licked morning tally kinds places lengths downs covers 0
def fX3_fallTimes_B2 (size : Int32) (need : Int32) (lifted : Int32) (licked : Int32) (kinds : Nat → Int32) (lengths : Nat → Int32) (x1 : Int32) (rec : Int32 → Int32 → (Nat → Int32) → (Nat → Int32) → (Nat → Int32) → Int32 → Option (Int32 × Int32 × (Nat → Int32) × (Nat → Int32) × (Nat → Int32))) (morning : Int32) (tally : Int32) (places : Nat → Int32) (downs : Nat → Int32) (covers : Nat → Int32) (x2 : Int32) : Option (Int32 × Int32 × (Nat → Int32) × (Nat → Int32) × (Nat → Int32)) :=
  if x1 ≤ x2 then
    some (morning, tally, places, downs, covers)
  else
    bd5 (fX3_fall size need lifted licked morning tally kinds places lengths downs covers) fun morning_8 tally_8 places_8 downs_8 covers_8 =>
    rec morning_8 tally_8 places_8 downs_8 covers_8 (x2 + 1)
def fX3_fallTimes_L2 (size : Int32) (need : Int32) (lifted : Int32) (licked : Int32) (kinds : Nat → Int32) (lengths : Nat → Int32) (x1 : Int32) : Nat → Int32 → Int32 → (Nat → Int32) → (Nat → Int32) → (Nat → Int32) → Int32 → Option (Int32 × Int32 × (Nat → Int32) × (Nat → Int32) × (Nat → Int32))
  | 0 => fun _ _ _ _ _ _ => none
  | n + 1 => fX3_fallTimes_B2 size need lifted licked kinds lengths x1 (fX3_fallTimes_L2 size need lifted licked kinds lengths x1 n)
def fX3_fallTimes (size : Int32) (need : Int32) (lifted : Int32) (licked : Int32) (morning : Int32) (tally : Int32) (kinds : Nat → Int32) (places : Nat → Int32) (lengths : Nat → Int32) (downs : Nat → Int32) (covers : Nat → Int32) (x1 : Int32) : Option (Int32 × Int32 × (Nat → Int32) × (Nat → Int32) × (Nat → Int32)) :=
  bd5 (fX3_fallTimes_L2 size need lifted licked kinds lengths x1 FU morning tally places downs covers 0) fun morning_L2 tally_L2 places_L2 downs_L2 covers_L2 =>
  some (morning_L2, tally_L2, places_L2, downs_L2, covers_L2)
def fX3_canLick_j24  : Option Int32 :=
  some 1
def fX3_canLick (licked : Int32) (x1 : Int32) : Option Int32 :=
  bd1 (fX4_bit licked x1) fun v5 =>
  if v5 = 1 then
    fX3_canLick_j24
  else
    if 8 ≤ (bitc licked) then
      some 0
    else
      fX3_canLick_j24
def fX3_perform_j112 (lifted : Int32) (morning : Int32) (tally : Int32) (places : Nat → Int32) (downs : Nat → Int32) (covers : Nat → Int32) (k1 : Int32) (k2 : Int32) : Option (Int32 × Int32 × Int32 × Int32 × (Nat → Int32) × (Nat → Int32) × (Nat → Int32)) :=
  some (lifted, (k1 ^^^ k2), morning, tally, places, downs, covers)
def fX3_perform (size : Int32) (need : Int32) (lifted : Int32) (licked : Int32) (morning : Int32) (tally : Int32) (kinds : Nat → Int32) (places : Nat → Int32) (lengths : Nat → Int32) (downs : Nat → Int32) (covers : Nat → Int32) (x1 : Int32) (x2 : Int32) (x3 : Int32) : Option (Int32 × Int32 × Int32 × Int32 × (Nat → Int32) × (Nat → Int32) × (Nat → Int32)) :=
  if x1 = 0 then
    bd5 (fX3_fall size need lifted licked morning tally kinds places lengths downs covers) fun morning_37 tally_37 places_37 downs_37 covers_37 =>
    some (lifted, licked, morning_37, tally_37, places_37, downs_37, covers_37)
  else
  if x1 = 1 then
    bd1 (fX3_downOf size downs x2) fun v48 =>
    bd3 (fX3_settle size kinds places lengths downs covers x2 x3 v48) fun places_51 downs_51 covers_51 =>
    some (lifted, licked, morning, tally, places_51, downs_51, covers_51)
  else
  if x1 = 2 then
    bd1 (fX3_placeOf size places x2) fun v61 =>
    bd1 (fX3_downOf size downs x2) fun v67 =>
    bd3 (fX3_settle size kinds places lengths downs covers x2 v61 (1 - v67)) fun places_71 downs_71 covers_71 =>
    some (lifted, licked, morning, tally, places_71, downs_71, covers_71)
  else
  if x1 = 3 then
    some ((lifted ^^^ ((1 : Int32) <<< (x2 &&& 31))), licked, morning, tally, places, downs, covers)
  else
  if x1 = 4 then
    bd1 (fX3_canLick licked x3) fun v99 =>
    if v99 = 0 then
      fX3_perform_j112 lifted morning tally places downs covers licked 0
    else
      fX3_perform_j112 lifted morning tally places downs covers licked ((1 : Int32) <<< (x3 &&& 31))
  else
  some (lifted, licked, morning, tally, places, downs, covers)
