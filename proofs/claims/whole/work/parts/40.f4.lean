/-! ===== printed by wip/whole/gen.py: pure functions of PeelReadings ===== -/
def fX4_isIn  (x0 : Int32) (x1 : Int32) : Option Int32 :=
  if x0 < 0 then
    some 0
  else
    if x1 ≤ x0 then
      some 0
    else
      some 1
def fX4_isRow  (x0 : Int32) : Option Int32 :=
  bd1 (fX4_isIn x0 6) fun v3 =>
  if v3 &&& 1 = v3 then some v3 else none
def fX4_find (findings : Nat → Int32) (x1 : Int32) : Option (Int32 × Int32 × (Nat → Int32)) :=
  if x1 < 1 then
    some ((-3), x1, findings)
  else
    if 5 < x1 then
      some ((-3), x1, findings)
    else
      bd1 (ald 6 findings x1) fun v21 =>
      bd1 (ast 6 findings x1 (v21 + 1)) fun findings_24 =>
      some ((-3), x1, findings_24)
def fX4_row (finding : Int32) (r_items : Nat → Int32) (r_sizes : Nat → Int32) (findings : Nat → Int32) (x1 : Int32) (x2 : Int32) : Option (Int32 × Int32 × (Nat → Int32) × (Nat → Int32) × (Nat → Int32)) :=
  bd1 (fX4_isRow x1) fun v1 =>
  if v1 = 0 then
    some ((-1), finding, r_items, r_sizes, findings)
  else
    if x2 ≤ 40 then
      if 0 ≤ x2 then
        bd2 (fX2_make 240 6 40 r_items r_sizes x1 x2 0) fun r_items_32 r_sizes_32 =>
        some (x2, finding, r_items_32, r_sizes_32, findings)
      else
        bd3 (fX4_find findings 5) fun v21 finding_21 findings_21 =>
        some (v21, finding_21, r_items, r_sizes, findings_21)
    else
      some ((-1), finding, r_items, r_sizes, findings)
def fX4_tell  (x1 : Int32) : Option (Int32 × Int32) :=
  some (1, x1)
def fX4_lay (finding : Int32) (asked : Int32) (r_items : Nat → Int32) (r_sizes : Nat → Int32) (findings : Nat → Int32) (x1 : Int32) (x2 : Int32) (x3 : Int32) : Option (Int32 × Int32 × Int32 × (Nat → Int32) × (Nat → Int32)) :=
  bd1 (fX4_isRow x1) fun v1 =>
  if v1 = 0 then
    some ((-1), finding, asked, r_items, findings)
  else
    bd1 (fX2_isMissing 6 r_sizes x1) fun v14 =>
    if v14 = 0 then
      bd1 (fX2_has 6 r_sizes x1 x2) fun v32 =>
      if v32 = 0 then
        bd3 (fX4_find findings 2) fun v40 finding_40 findings_40 =>
        some (v40, finding_40, asked, r_items, findings_40)
      else
        bd1 (fX2_get 240 6 40 r_items r_sizes x1 x2) fun v50 =>
        bd1 (fX2_set 240 6 40 r_items r_sizes x1 x2 x3) fun r_items_62 =>
        bd2 (fX4_tell v50) fun v68 asked_68 =>
        some (v68, finding, asked_68, r_items_62, findings)
    else
      bd3 (fX4_find findings 1) fun v22 finding_22 findings_22 =>
      some (v22, finding_22, asked, r_items, findings_22)
def fX4_at (finding : Int32) (asked : Int32) (r_items : Nat → Int32) (r_sizes : Nat → Int32) (findings : Nat → Int32) (x1 : Int32) (x2 : Int32) : Option (Int32 × Int32 × Int32 × (Nat → Int32)) :=
  bd1 (fX4_isRow x1) fun v1 =>
  if v1 = 0 then
    some ((-1), finding, asked, findings)
  else
    bd1 (fX2_isMissing 6 r_sizes x1) fun v14 =>
    if v14 = 0 then
      bd1 (fX2_has 6 r_sizes x1 x2) fun v32 =>
      if v32 = 0 then
        bd3 (fX4_find findings 2) fun v56 finding_56 findings_56 =>
        some (v56, finding_56, asked, findings_56)
      else
        bd1 (fX2_get 240 6 40 r_items r_sizes x1 x2) fun v45 =>
        bd2 (fX4_tell v45) fun v48 asked_48 =>
        some (v48, finding, asked_48, findings)
    else
      bd3 (fX4_find findings 1) fun v22 finding_22 findings_22 =>
      some (v22, finding_22, asked, findings_22)
def fX4_tear (finding : Int32) (r_sizes : Nat → Int32) (findings : Nat → Int32) (x1 : Int32) : Option (Int32 × Int32 × (Nat → Int32) × (Nat → Int32)) :=
  bd1 (fX4_isRow x1) fun v1 =>
  if v1 = 0 then
    some ((-1), finding, r_sizes, findings)
  else
    bd1 (fX2_isMissing 6 r_sizes x1) fun v14 =>
    if v14 = 0 then
      bd1 (fX2_remove 6 r_sizes x1) fun r_sizes_31 =>
      some (1, finding, r_sizes_31, findings)
    else
      bd3 (fX4_find findings 1) fun v22 finding_22 findings_22 =>
      some (v22, finding_22, r_sizes, findings_22)
def fX4_copy_j84 (r_items : Nat → Int32) (findings : Nat → Int32) : Option (Int32 × Int32 × (Nat → Int32) × (Nat → Int32)) :=
  bd3 (fX4_find findings 2) fun v86 finding_86 findings_86 =>
  some (v86, finding_86, r_items, findings_86)
def fX4_copy_j49 (r_items : Nat → Int32) (findings : Nat → Int32) : Option (Int32 × Int32 × (Nat → Int32) × (Nat → Int32)) :=
  bd3 (fX4_find findings 1) fun v51 finding_51 findings_51 =>
  some (v51, finding_51, r_items, findings_51)
def fX4_copy (finding : Int32) (r_items : Nat → Int32) (r_sizes : Nat → Int32) (findings : Nat → Int32) (x1 : Int32) (x2 : Int32) (x3 : Int32) (x4 : Int32) (x5 : Int32) : Option (Int32 × Int32 × (Nat → Int32) × (Nat → Int32)) :=
  bd1 (fX4_isRow x1) fun v1 =>
  if v1 = 0 then
    some ((-1), finding, r_items, findings)
  else
    bd1 (fX4_isRow x3) fun v8 =>
    if v8 = 0 then
      some ((-1), finding, r_items, findings)
    else
      if 0 ≤ x5 then
        bd1 (fX2_isMissing 6 r_sizes x1) fun v32 =>
        if v32 = 0 then
          bd1 (fX2_isMissing 6 r_sizes x3) fun v43 =>
          if v43 = 0 then
            bd1 (fX2_hasRun 6 r_sizes x1 x2 x5) fun v63 =>
            if v63 = 0 then
              fX4_copy_j84 r_items findings
            else
              bd1 (fX2_hasRun 6 r_sizes x3 x4 x5) fun v78 =>
              if v78 = 0 then
                fX4_copy_j84 r_items findings
              else
                bd1 (fX2_copyRun 240 6 40 r_items r_sizes x1 x2 x3 x4 x5) fun r_items_101 =>
                some (1, finding, r_items_101, findings)
          else
            fX4_copy_j49 r_items findings
        else
          fX4_copy_j49 r_items findings
      else
        bd3 (fX4_find findings 5) fun v23 finding_23 findings_23 =>
        some (v23, finding_23, r_items, findings_23)
def fX4_mean_B50 (r_items : Nat → Int32) (r_sizes : Nat → Int32) (x1 : Int32) (x2 : Int32) (rec : Int64 → Int32 → Option Int64) (x3 : Int64) (x5 : Int32) : Option Int64 :=
  if x2 ≤ x5 then
    some x3
  else
    bd1 (fX2_get 240 6 40 r_items r_sizes x1 x5) fun v64 =>
    rec (x3 + (Int32.toInt64 v64)) (x5 + 1)
def fX4_mean_L50 (r_items : Nat → Int32) (r_sizes : Nat → Int32) (x1 : Int32) (x2 : Int32) : Nat → Int64 → Int32 → Option Int64
  | 0 => fun _ _ => none
  | n + 1 => fX4_mean_B50 r_items r_sizes x1 x2 (fX4_mean_L50 r_items r_sizes x1 x2 n)
def fX4_mean (finding : Int32) (asked : Int32) (r_items : Nat → Int32) (r_sizes : Nat → Int32) (findings : Nat → Int32) (x1 : Int32) : Option (Int32 × Int32 × Int32 × (Nat → Int32)) :=
  bd1 (fX4_isRow x1) fun v1 =>
  if v1 = 0 then
    some ((-1), finding, asked, findings)
  else
    bd1 (fX2_isMissing 6 r_sizes x1) fun v14 =>
    if v14 = 0 then
      bd1 (fX2_sizeOf 6 r_sizes x1) fun v31 =>
      if v31 = 0 then
        bd3 (fX4_find findings 4) fun v41 finding_41 findings_41 =>
        some (v41, finding_41, asked, findings_41)
      else
        bd1 (fX4_mean_L50 r_items r_sizes x1 v31 FU 0 0) fun x3_L50 =>
        if (Int32.toInt64 v31) = 0 then none else
        bd2 (fX4_tell (Int64.toInt32 (x3_L50 / (Int32.toInt64 v31)))) fun v82 asked_82 =>
        some (v82, finding, asked_82, findings)
    else
      bd3 (fX4_find findings 1) fun v22 finding_22 findings_22 =>
      some (v22, finding_22, asked, findings_22)
def fX4_isText  (x0 : Int32) : Option Int32 :=
  bd1 (fX4_isIn x0 4) fun v2 =>
  if v2 &&& 1 = v2 then some v2 else none
def fX4_text (finding : Int32) (t_items : Nat → Int32) (t_sizes : Nat → Int32) (findings : Nat → Int32) (x1 : Int32) (x2 : Int32) : Option (Int32 × Int32 × (Nat → Int32) × (Nat → Int32) × (Nat → Int32)) :=
  bd1 (fX4_isText x1) fun v1 =>
  if v1 = 0 then
    some ((-1), finding, t_items, t_sizes, findings)
  else
    if x2 ≤ 60 then
      if 0 ≤ x2 then
        bd2 (fX2_make 240 4 60 t_items t_sizes x1 x2 32) fun t_items_33 t_sizes_33 =>
        some (x2, finding, t_items_33, t_sizes_33, findings)
      else
        bd3 (fX4_find findings 5) fun v21 finding_21 findings_21 =>
        some (v21, finding_21, t_items, t_sizes, findings_21)
    else
      some ((-1), finding, t_items, t_sizes, findings)
def fX4_put (finding : Int32) (t_items : Nat → Int32) (t_sizes : Nat → Int32) (findings : Nat → Int32) (x1 : Int32) (x2 : Int32) (x3 : Int32) : Option (Int32 × Int32 × (Nat → Int32) × (Nat → Int32)) :=
  bd1 (fX4_isText x1) fun v1 =>
  if v1 = 0 then
    some ((-1), finding, t_items, findings)
  else
    bd1 (fX2_isMissing 4 t_sizes x1) fun v14 =>
    if v14 = 0 then
      bd1 (fX2_has 4 t_sizes x1 x2) fun v32 =>
      if v32 = 0 then
        bd3 (fX4_find findings 2) fun v40 finding_40 findings_40 =>
        some (v40, finding_40, t_items, findings_40)
      else
        bd1 (fX2_get 240 4 60 t_items t_sizes x1 x2) fun v50 =>
        bd1 (fX2_set 240 4 60 t_items t_sizes x1 x2 (Int8.toInt32 (Int32.toInt8 x3))) fun t_items_63 =>
        some ((v50 + 1000), finding, t_items_63, findings)
    else
      bd3 (fX4_find findings 1) fun v22 finding_22 findings_22 =>
      some (v22, finding_22, t_items, findings_22)
def fX4_fault (finding : Int32) (t_items : Nat → Int32) (t_sizes : Nat → Int32) (as_size : Int32) (as_need : Int32) (as_lifted : Int32) (as_licked : Int32) (as_morning : Int32) (as_tally : Int32) (as_kinds : Nat → Int32) (as_places : Nat → Int32) (as_lengths : Nat → Int32) (as_downs : Nat → Int32) (as_covers : Nat → Int32) (text : Int32) (place : Int32) (findings : Nat → Int32) (x1 : Int32) : Option (Int32 × Int32 × Int32 × Int32 × Int32 × Int32 × Int32 × Int32 × (Nat → Int32) × (Nat → Int32) × (Nat → Int32) × (Nat → Int32) × (Nat → Int32) × Int32 × Int32 × (Nat → Int32)) :=
  bd1 (fX4_isText x1) fun v1 =>
  if v1 = 0 then
    some ((-1), finding, as_size, as_need, as_lifted, as_licked, as_morning, as_tally, as_kinds, as_places, as_lengths, as_downs, as_covers, text, place, findings)
  else
    bd1 (fX2_isMissing 4 t_sizes x1) fun v14 =>
    if v14 = 0 then
      bd14 (fX0_read 240 4 60 t_items t_sizes as_kinds as_places as_lengths as_downs as_covers x1) fun v33 text_33 place_33 as_size_33 as_need_33 as_lifted_33 as_licked_33 as_morning_33 as_tally_33 as_kinds_33 as_places_33 as_lengths_33 as_downs_33 as_covers_33 =>
      some (v33, finding, as_size_33, as_need_33, as_lifted_33, as_licked_33, as_morning_33, as_tally_33, as_kinds_33, as_places_33, as_lengths_33, as_downs_33, as_covers_33, text_33, place_33, findings)
    else
      bd3 (fX4_find findings 1) fun v22 finding_22 findings_22 =>
      some (v22, finding_22, as_size, as_need, as_lifted, as_licked, as_morning, as_tally, as_kinds, as_places, as_lengths, as_downs, as_covers, text, place, findings_22)
def fX4_slice_B66  (rec : (Nat → Int32) → Int32 → Option (Nat → Int32)) (d_sizes : Nat → Int32) (x2 : Int32) : Option (Nat → Int32) :=
  if 3 ≤ x2 then
    some d_sizes
  else
    bd1 (fX2_remove 4 d_sizes x2) fun d_sizes_76 =>
    rec d_sizes_76 (x2 + 1)
def fX4_slice_L66  : Nat → (Nat → Int32) → Int32 → Option (Nat → Int32)
  | 0 => fun _ _ => none
  | n + 1 => fX4_slice_B66 (fX4_slice_L66 n)
def fX4_slice (finding : Int32) (t_items : Nat → Int32) (t_sizes : Nat → Int32) (d_items : Nat → Int32) (d_sizes : Nat → Int32) (st_size : Int32) (st_need : Int32) (st_lifted : Int32) (st_licked : Int32) (st_morning : Int32) (st_tally : Int32) (st_kinds : Nat → Int32) (st_places : Nat → Int32) (st_lengths : Nat → Int32) (st_downs : Nat → Int32) (st_covers : Nat → Int32) (sl_size : Int32) (sl_need : Int32) (sl_lifted : Int32) (sl_licked : Int32) (sl_morning : Int32) (sl_tally : Int32) (sl_kinds : Nat → Int32) (sl_places : Nat → Int32) (sl_lengths : Nat → Int32) (sl_downs : Nat → Int32) (sl_covers : Nat → Int32) (as_size : Int32) (as_need : Int32) (as_lifted : Int32) (as_licked : Int32) (as_morning : Int32) (as_tally : Int32) (as_kinds : Nat → Int32) (as_places : Nat → Int32) (as_lengths : Nat → Int32) (as_downs : Nat → Int32) (as_covers : Nat → Int32) (text : Int32) (place : Int32) (findings : Nat → Int32) (x1 : Int32) : Option (Int32 × Int32 × (Nat → Int32) × (Nat → Int32) × Int32 × Int32 × Int32 × Int32 × Int32 × Int32 × (Nat → Int32) × (Nat → Int32) × (Nat → Int32) × (Nat → Int32) × (Nat → Int32) × Int32 × Int32 × Int32 × Int32 × Int32 × Int32 × (Nat → Int32) × (Nat → Int32) × (Nat → Int32) × (Nat → Int32) × (Nat → Int32) × Int32 × Int32 × Int32 × Int32 × Int32 × Int32 × (Nat → Int32) × (Nat → Int32) × (Nat → Int32) × (Nat → Int32) × (Nat → Int32) × Int32 × Int32 × (Nat → Int32)) :=
  bd1 (fX4_isText x1) fun v1 =>
  if v1 = 0 then
    some ((-1), finding, d_items, d_sizes, st_size, st_need, st_lifted, st_licked, st_morning, st_tally, st_kinds, st_places, st_lengths, st_downs, st_covers, sl_size, sl_need, sl_lifted, sl_licked, sl_morning, sl_tally, sl_kinds, sl_places, sl_lengths, sl_downs, sl_covers, as_size, as_need, as_lifted, as_licked, as_morning, as_tally, as_kinds, as_places, as_lengths, as_downs, as_covers, text, place, findings)
  else
    bd1 (fX2_isMissing 4 t_sizes x1) fun v14 =>
    if v14 = 0 then
      bd14 (fX0_read 240 4 60 t_items t_sizes as_kinds as_places as_lengths as_downs as_covers x1) fun v31 text_31 place_31 as_size_31 as_need_31 as_lifted_31 as_licked_31 as_morning_31 as_tally_31 as_kinds_31 as_places_31 as_lengths_31 as_downs_31 as_covers_31 =>
      if v31 = (-9) then
        bd11 (fX3_take st_kinds st_places st_lengths st_downs st_covers as_size_31 as_need_31 as_lifted_31 as_licked_31 as_morning_31 as_tally_31 as_kinds_31 as_places_31 as_lengths_31 as_downs_31 as_covers_31) fun st_size_50 st_need_50 st_lifted_50 st_licked_50 st_morning_50 st_tally_50 st_kinds_50 st_places_50 st_lengths_50 st_downs_50 st_covers_50 =>
        bd11 (fX3_take sl_kinds sl_places sl_lengths sl_downs sl_covers st_size_50 st_need_50 st_lifted_50 st_licked_50 st_morning_50 st_tally_50 st_kinds_50 st_places_50 st_lengths_50 st_downs_50 st_covers_50) fun sl_size_61 sl_need_61 sl_lifted_61 sl_licked_61 sl_morning_61 sl_tally_61 sl_kinds_61 sl_places_61 sl_lengths_61 sl_downs_61 sl_covers_61 =>
        bd1 (fX4_slice_L66 FU d_sizes 0) fun d_sizes_L66 =>
        bd2 (fX2_make 160 4 40 d_items d_sizes_L66 3 0 0) fun d_items_92 d_sizes_92 =>
        some (sl_size_61, finding, d_items_92, d_sizes_92, st_size_50, st_need_50, st_lifted_50, st_licked_50, st_morning_50, st_tally_50, st_kinds_50, st_places_50, st_lengths_50, st_downs_50, st_covers_50, sl_size_61, sl_need_61, sl_lifted_61, sl_licked_61, sl_morning_61, sl_tally_61, sl_kinds_61, sl_places_61, sl_lengths_61, sl_downs_61, sl_covers_61, as_size_31, as_need_31, as_lifted_31, as_licked_31, as_morning_31, as_tally_31, as_kinds_31, as_places_31, as_lengths_31, as_downs_31, as_covers_31, text_31, place_31, findings)
      else
        some ((-4), finding, d_items, d_sizes, st_size, st_need, st_lifted, st_licked, st_morning, st_tally, st_kinds, st_places, st_lengths, st_downs, st_covers, sl_size, sl_need, sl_lifted, sl_licked, sl_morning, sl_tally, sl_kinds, sl_places, sl_lengths, sl_downs, sl_covers, as_size_31, as_need_31, as_lifted_31, as_licked_31, as_morning_31, as_tally_31, as_kinds_31, as_places_31, as_lengths_31, as_downs_31, as_covers_31, text_31, place_31, findings)
    else
      bd3 (fX4_find findings 1) fun v22 finding_22 findings_22 =>
      some (v22, finding_22, d_items, d_sizes, st_size, st_need, st_lifted, st_licked, st_morning, st_tally, st_kinds, st_places, st_lengths, st_downs, st_covers, sl_size, sl_need, sl_lifted, sl_licked, sl_morning, sl_tally, sl_kinds, sl_places, sl_lengths, sl_downs, sl_covers, as_size, as_need, as_lifted, as_licked, as_morning, as_tally, as_kinds, as_places, as_lengths, as_downs, as_covers, text, place, findings_22)
def fX4_peel (asked : Int32) (sl_size : Int32) (sl_lifted : Int32) (sl_kinds : Nat → Int32) (sl_places : Nat → Int32) (sl_lengths : Nat → Int32) (sl_downs : Nat → Int32) (sl_covers : Nat → Int32) (x1 : Int32) (x2 : Int32) : Option (Int32 × Int32) :=
  bd1 (fX3_has sl_size x1) fun v5 =>
  if v5 = 0 then
    some ((-1), asked)
  else
    bd1 (fX4_isIn x2 7) fun v14 =>
    if v14 = 0 then
      some ((-1), asked)
    else
      bd1 (fX3_trait sl_size sl_lifted sl_kinds sl_places sl_lengths sl_downs sl_covers x1 x2) fun v29 =>
      bd2 (fX4_tell v29) fun v32 asked_32 =>
      some (v32, asked_32)
def fX4_mark (finding : Int32) (sl_size : Int32) (sl_kinds : Nat → Int32) (sl_places : Nat → Int32) (sl_lengths : Nat → Int32) (sl_downs : Nat → Int32) (sl_covers : Nat → Int32) (findings : Nat → Int32) (x1 : Int32) (x2 : Int32) : Option (Int32 × Int32 × (Nat → Int32)) :=
  bd1 (fX3_has sl_size x1) fun v5 =>
  if v5 = 0 then
    some ((-1), finding, findings)
  else
    if x2 = 0 then
      some ((-1), finding, findings)
    else
      bd1 (fX4_isIn x2 6) fun v18 =>
      if v18 = 0 then
        some ((-1), finding, findings)
      else
        bd1 (fX3_isOf sl_size sl_kinds x1 x2) fun v32 =>
        if v32 = 0 then
          bd3 (fX4_find findings 3) fun v52 finding_52 findings_52 =>
          some (v52, finding_52, findings_52)
        else
          bd1 (fX3_tells sl_size sl_kinds sl_places sl_lengths sl_downs sl_covers x1 x2) fun v44 =>
          some (v44, finding, findings)
def fX4_hasRoom (d_sizes : Nat → Int32) (x1 : Int32) : Option Int32 :=
  bd1 (fX2_sizeOf 4 d_sizes 3) fun v5 =>
  if 40 < (v5 + x1) then
    some 0
  else
    some 1
def fX4_act (d_items : Nat → Int32) (d_sizes : Nat → Int32) (sl_size : Int32) (sl_need : Int32) (sl_lifted : Int32) (sl_licked : Int32) (sl_morning : Int32) (sl_tally : Int32) (sl_kinds : Nat → Int32) (sl_places : Nat → Int32) (sl_lengths : Nat → Int32) (sl_downs : Nat → Int32) (sl_covers : Nat → Int32) (x1 : Int32) (x2 : Int32) (x3 : Int32) : Option ((Nat → Int32) × (Nat → Int32) × Int32 × Int32 × Int32 × Int32 × (Nat → Int32) × (Nat → Int32) × (Nat → Int32)) :=
  bd2 (fX2_append 160 4 40 d_items d_sizes 3 ((((x1 * 6) + x2) * 16) + x3)) fun d_items_16 d_sizes_16 =>
  bd7 (fX3_perform sl_size sl_need sl_lifted sl_licked sl_morning sl_tally sl_kinds sl_places sl_lengths sl_downs sl_covers x1 x2 x3) fun sl_lifted_26 sl_licked_26 sl_morning_26 sl_tally_26 sl_places_26 sl_downs_26 sl_covers_26 =>
  some (d_items_16, d_sizes_16, sl_lifted_26, sl_licked_26, sl_morning_26, sl_tally_26, sl_places_26, sl_downs_26, sl_covers_26)
def fX4_morning (d_items : Nat → Int32) (d_sizes : Nat → Int32) (sl_size : Int32) (sl_need : Int32) (sl_lifted : Int32) (sl_licked : Int32) (sl_morning : Int32) (sl_tally : Int32) (sl_kinds : Nat → Int32) (sl_places : Nat → Int32) (sl_lengths : Nat → Int32) (sl_downs : Nat → Int32) (sl_covers : Nat → Int32) : Option (Int32 × (Nat → Int32) × (Nat → Int32) × Int32 × Int32 × Int32 × Int32 × (Nat → Int32) × (Nat → Int32) × (Nat → Int32)) :=
  if sl_size = 0 then
    some ((-4), d_items, d_sizes, sl_lifted, sl_licked, sl_morning, sl_tally, sl_places, sl_downs, sl_covers)
  else
    bd1 (fX4_hasRoom d_sizes 1) fun v15 =>
    if v15 = 0 then
      some ((-2), d_items, d_sizes, sl_lifted, sl_licked, sl_morning, sl_tally, sl_places, sl_downs, sl_covers)
    else
      bd9 (fX4_act d_items d_sizes sl_size sl_need sl_lifted sl_licked sl_morning sl_tally sl_kinds sl_places sl_lengths sl_downs sl_covers 0 0 0) fun d_items_28 d_sizes_28 sl_lifted_28 sl_licked_28 sl_morning_28 sl_tally_28 sl_places_28 sl_downs_28 sl_covers_28 =>
      bd1 (fX3_linesNow sl_size sl_need sl_lifted_28 sl_licked_28 sl_covers_28) fun v35 =>
      some (v35, d_items_28, d_sizes_28, sl_lifted_28, sl_licked_28, sl_morning_28, sl_tally_28, sl_places_28, sl_downs_28, sl_covers_28)
def fX4_shift (d_items : Nat → Int32) (d_sizes : Nat → Int32) (sl_size : Int32) (sl_need : Int32) (sl_lifted : Int32) (sl_licked : Int32) (sl_morning : Int32) (sl_tally : Int32) (sl_kinds : Nat → Int32) (sl_places : Nat → Int32) (sl_lengths : Nat → Int32) (sl_downs : Nat → Int32) (sl_covers : Nat → Int32) (x1 : Int32) (x2 : Int32) : Option (Int32 × (Nat → Int32) × (Nat → Int32) × Int32 × Int32 × Int32 × Int32 × (Nat → Int32) × (Nat → Int32) × (Nat → Int32)) :=
  bd1 (fX3_has sl_size x1) fun v5 =>
  if v5 = 0 then
    some ((-1), d_items, d_sizes, sl_lifted, sl_licked, sl_morning, sl_tally, sl_places, sl_downs, sl_covers)
  else
    bd1 (fX4_isIn x2 16) fun v14 =>
    if v14 = 0 then
      some ((-1), d_items, d_sizes, sl_lifted, sl_licked, sl_morning, sl_tally, sl_places, sl_downs, sl_covers)
    else
      bd1 (fX3_placeOf sl_size sl_places x1) fun v27 =>
      if v27 = x2 then
        some ((-4), d_items, d_sizes, sl_lifted, sl_licked, sl_morning, sl_tally, sl_places, sl_downs, sl_covers)
      else
        bd1 (fX4_hasRoom d_sizes 1) fun v41 =>
        if v41 = 0 then
          some ((-2), d_items, d_sizes, sl_lifted, sl_licked, sl_morning, sl_tally, sl_places, sl_downs, sl_covers)
        else
          bd9 (fX4_act d_items d_sizes sl_size sl_need sl_lifted sl_licked sl_morning sl_tally sl_kinds sl_places sl_lengths sl_downs sl_covers 1 x1 x2) fun d_items_54 d_sizes_54 sl_lifted_54 sl_licked_54 sl_morning_54 sl_tally_54 sl_places_54 sl_downs_54 sl_covers_54 =>
          some (v27, d_items_54, d_sizes_54, sl_lifted_54, sl_licked_54, sl_morning_54, sl_tally_54, sl_places_54, sl_downs_54, sl_covers_54)
def fX4_turn (d_items : Nat → Int32) (d_sizes : Nat → Int32) (sl_size : Int32) (sl_need : Int32) (sl_lifted : Int32) (sl_licked : Int32) (sl_morning : Int32) (sl_tally : Int32) (sl_kinds : Nat → Int32) (sl_places : Nat → Int32) (sl_lengths : Nat → Int32) (sl_downs : Nat → Int32) (sl_covers : Nat → Int32) (x1 : Int32) : Option (Int32 × (Nat → Int32) × (Nat → Int32) × Int32 × Int32 × Int32 × Int32 × (Nat → Int32) × (Nat → Int32) × (Nat → Int32)) :=
  bd1 (fX3_has sl_size x1) fun v5 =>
  if v5 = 0 then
    some ((-1), d_items, d_sizes, sl_lifted, sl_licked, sl_morning, sl_tally, sl_places, sl_downs, sl_covers)
  else
    bd1 (fX4_hasRoom d_sizes 1) fun v15 =>
    if v15 = 0 then
      some ((-2), d_items, d_sizes, sl_lifted, sl_licked, sl_morning, sl_tally, sl_places, sl_downs, sl_covers)
    else
      bd9 (fX4_act d_items d_sizes sl_size sl_need sl_lifted sl_licked sl_morning sl_tally sl_kinds sl_places sl_lengths sl_downs sl_covers 2 x1 0) fun d_items_28 d_sizes_28 sl_lifted_28 sl_licked_28 sl_morning_28 sl_tally_28 sl_places_28 sl_downs_28 sl_covers_28 =>
      bd1 (fX3_downOf sl_size sl_downs_28 x1) fun v36 =>
      some (v36, d_items_28, d_sizes_28, sl_lifted_28, sl_licked_28, sl_morning_28, sl_tally_28, sl_places_28, sl_downs_28, sl_covers_28)
def fX4_lift (d_items : Nat → Int32) (d_sizes : Nat → Int32) (sl_size : Int32) (sl_need : Int32) (sl_lifted : Int32) (sl_licked : Int32) (sl_morning : Int32) (sl_tally : Int32) (sl_kinds : Nat → Int32) (sl_places : Nat → Int32) (sl_lengths : Nat → Int32) (sl_downs : Nat → Int32) (sl_covers : Nat → Int32) (x1 : Int32) : Option (Int32 × (Nat → Int32) × (Nat → Int32) × Int32 × Int32 × Int32 × Int32 × (Nat → Int32) × (Nat → Int32) × (Nat → Int32)) :=
  bd1 (fX3_has sl_size x1) fun v5 =>
  if v5 = 0 then
    some ((-1), d_items, d_sizes, sl_lifted, sl_licked, sl_morning, sl_tally, sl_places, sl_downs, sl_covers)
  else
    bd1 (fX4_hasRoom d_sizes 1) fun v15 =>
    if v15 = 0 then
      some ((-2), d_items, d_sizes, sl_lifted, sl_licked, sl_morning, sl_tally, sl_places, sl_downs, sl_covers)
    else
      bd9 (fX4_act d_items d_sizes sl_size sl_need sl_lifted sl_licked sl_morning sl_tally sl_kinds sl_places sl_lengths sl_downs sl_covers 3 x1 0) fun d_items_28 d_sizes_28 sl_lifted_28 sl_licked_28 sl_morning_28 sl_tally_28 sl_places_28 sl_downs_28 sl_covers_28 =>
      bd1 (fX4_bit sl_lifted_28 x1) fun v39 =>
      some (v39, d_items_28, d_sizes_28, sl_lifted_28, sl_licked_28, sl_morning_28, sl_tally_28, sl_places_28, sl_downs_28, sl_covers_28)
def fX4_lick (d_items : Nat → Int32) (d_sizes : Nat → Int32) (sl_size : Int32) (sl_need : Int32) (sl_lifted : Int32) (sl_licked : Int32) (sl_morning : Int32) (sl_tally : Int32) (sl_kinds : Nat → Int32) (sl_places : Nat → Int32) (sl_lengths : Nat → Int32) (sl_downs : Nat → Int32) (sl_covers : Nat → Int32) (x1 : Int32) : Option (Int32 × (Nat → Int32) × (Nat → Int32) × Int32 × Int32 × Int32 × Int32 × (Nat → Int32) × (Nat → Int32) × (Nat → Int32)) :=
  bd1 (fX4_isIn x1 16) fun v3 =>
  if v3 = 0 then
    some ((-1), d_items, d_sizes, sl_lifted, sl_licked, sl_morning, sl_tally, sl_places, sl_downs, sl_covers)
  else
    if sl_size = 0 then
      some ((-4), d_items, d_sizes, sl_lifted, sl_licked, sl_morning, sl_tally, sl_places, sl_downs, sl_covers)
    else
      bd1 (fX3_canLick sl_licked x1) fun v26 =>
      if v26 = 0 then
        some ((-4), d_items, d_sizes, sl_lifted, sl_licked, sl_morning, sl_tally, sl_places, sl_downs, sl_covers)
      else
        bd1 (fX4_hasRoom d_sizes 1) fun v37 =>
        if v37 = 0 then
          some ((-2), d_items, d_sizes, sl_lifted, sl_licked, sl_morning, sl_tally, sl_places, sl_downs, sl_covers)
        else
          bd9 (fX4_act d_items d_sizes sl_size sl_need sl_lifted sl_licked sl_morning sl_tally sl_kinds sl_places sl_lengths sl_downs sl_covers 4 0 x1) fun d_items_50 d_sizes_50 sl_lifted_50 sl_licked_50 sl_morning_50 sl_tally_50 sl_places_50 sl_downs_50 sl_covers_50 =>
          bd1 (fX4_bit sl_licked_50 x1) fun v61 =>
          some (v61, d_items_50, d_sizes_50, sl_lifted_50, sl_licked_50, sl_morning_50, sl_tally_50, sl_places_50, sl_downs_50, sl_covers_50)
def fX4_doAnew_B22 (d_items : Nat → Int32) (d_sizes : Nat → Int32) (sl_size : Int32) (sl_need : Int32) (sl_kinds : Nat → Int32) (sl_lengths : Nat → Int32) (x1 : Int32) (rec : Int32 → Int32 → Int32 → Int32 → (Nat → Int32) → (Nat → Int32) → (Nat → Int32) → Int32 → Option (Int32 × Int32 × Int32 × Int32 × (Nat → Int32) × (Nat → Int32) × (Nat → Int32))) (sl_lifted : Int32) (sl_licked : Int32) (sl_morning : Int32) (sl_tally : Int32) (sl_places : Nat → Int32) (sl_downs : Nat → Int32) (sl_covers : Nat → Int32) (x2 : Int32) : Option (Int32 × Int32 × Int32 × Int32 × (Nat → Int32) × (Nat → Int32) × (Nat → Int32)) :=
  if x1 ≤ x2 then
    some (sl_lifted, sl_licked, sl_morning, sl_tally, sl_places, sl_downs, sl_covers)
  else
    bd1 (fX2_get 160 4 40 d_items d_sizes 3 x2) fun v33 =>
    bd7 (fX3_perform sl_size sl_need sl_lifted sl_licked sl_morning sl_tally sl_kinds sl_places sl_lengths sl_downs sl_covers ((v33 / 16) / 6) ((v33 / 16) - (v33 / 16) / 6 * 6) (v33 - v33 / 16 * 16)) fun sl_lifted_59 sl_licked_59 sl_morning_59 sl_tally_59 sl_places_59 sl_downs_59 sl_covers_59 =>
    rec sl_lifted_59 sl_licked_59 sl_morning_59 sl_tally_59 sl_places_59 sl_downs_59 sl_covers_59 (x2 + 1)
def fX4_doAnew_L22 (d_items : Nat → Int32) (d_sizes : Nat → Int32) (sl_size : Int32) (sl_need : Int32) (sl_kinds : Nat → Int32) (sl_lengths : Nat → Int32) (x1 : Int32) : Nat → Int32 → Int32 → Int32 → Int32 → (Nat → Int32) → (Nat → Int32) → (Nat → Int32) → Int32 → Option (Int32 × Int32 × Int32 × Int32 × (Nat → Int32) × (Nat → Int32) × (Nat → Int32))
  | 0 => fun _ _ _ _ _ _ _ _ => none
  | n + 1 => fX4_doAnew_B22 d_items d_sizes sl_size sl_need sl_kinds sl_lengths x1 (fX4_doAnew_L22 d_items d_sizes sl_size sl_need sl_kinds sl_lengths x1 n)
def fX4_doAnew (d_items : Nat → Int32) (d_sizes : Nat → Int32) (st_size : Int32) (st_need : Int32) (st_lifted : Int32) (st_licked : Int32) (st_morning : Int32) (st_tally : Int32) (st_kinds : Nat → Int32) (st_places : Nat → Int32) (st_lengths : Nat → Int32) (st_downs : Nat → Int32) (st_covers : Nat → Int32) (sl_kinds : Nat → Int32) (sl_places : Nat → Int32) (sl_lengths : Nat → Int32) (sl_downs : Nat → Int32) (sl_covers : Nat → Int32) : Option (Int32 × Int32 × Int32 × Int32 × Int32 × Int32 × (Nat → Int32) × (Nat → Int32) × (Nat → Int32) × (Nat → Int32) × (Nat → Int32)) :=
  bd11 (fX3_take sl_kinds sl_places sl_lengths sl_downs sl_covers st_size st_need st_lifted st_licked st_morning st_tally st_kinds st_places st_lengths st_downs st_covers) fun sl_size_8 sl_need_8 sl_lifted_8 sl_licked_8 sl_morning_8 sl_tally_8 sl_kinds_8 sl_places_8 sl_lengths_8 sl_downs_8 sl_covers_8 =>
  bd1 (fX2_sizeOf 4 d_sizes 3) fun v16 =>
  bd7 (fX4_doAnew_L22 d_items d_sizes sl_size_8 sl_need_8 sl_kinds_8 sl_lengths_8 v16 FU sl_lifted_8 sl_licked_8 sl_morning_8 sl_tally_8 sl_places_8 sl_downs_8 sl_covers_8 0) fun sl_lifted_L22 sl_licked_L22 sl_morning_L22 sl_tally_L22 sl_places_L22 sl_downs_L22 sl_covers_L22 =>
  some (sl_size_8, sl_need_8, sl_lifted_L22, sl_licked_L22, sl_morning_L22, sl_tally_L22, sl_kinds_8, sl_places_L22, sl_lengths_8, sl_downs_L22, sl_covers_L22)
def fX4_undo (d_items : Nat → Int32) (d_sizes : Nat → Int32) (st_size : Int32) (st_need : Int32) (st_lifted : Int32) (st_licked : Int32) (st_morning : Int32) (st_tally : Int32) (st_kinds : Nat → Int32) (st_places : Nat → Int32) (st_lengths : Nat → Int32) (st_downs : Nat → Int32) (st_covers : Nat → Int32) (sl_size : Int32) (sl_need : Int32) (sl_lifted : Int32) (sl_licked : Int32) (sl_morning : Int32) (sl_tally : Int32) (sl_kinds : Nat → Int32) (sl_places : Nat → Int32) (sl_lengths : Nat → Int32) (sl_downs : Nat → Int32) (sl_covers : Nat → Int32) (x1 : Int32) : Option (Int32 × (Nat → Int32) × Int32 × Int32 × Int32 × Int32 × Int32 × Int32 × (Nat → Int32) × (Nat → Int32) × (Nat → Int32) × (Nat → Int32) × (Nat → Int32)) :=
  bd1 (fX2_sizeOf 4 d_sizes 3) fun v5 =>
  if x1 < 0 then
    some ((-1), d_sizes, sl_size, sl_need, sl_lifted, sl_licked, sl_morning, sl_tally, sl_kinds, sl_places, sl_lengths, sl_downs, sl_covers)
  else
    if 0 ≤ (v5 - x1) then
      bd1 (fX2_cut 4 d_sizes 3 x1) fun d_sizes_27 =>
      bd11 (fX4_doAnew d_items d_sizes_27 st_size st_need st_lifted st_licked st_morning st_tally st_kinds st_places st_lengths st_downs st_covers sl_kinds sl_places sl_lengths sl_downs sl_covers) fun sl_size_31 sl_need_31 sl_lifted_31 sl_licked_31 sl_morning_31 sl_tally_31 sl_kinds_31 sl_places_31 sl_lengths_31 sl_downs_31 sl_covers_31 =>
      some ((v5 - x1), d_sizes_27, sl_size_31, sl_need_31, sl_lifted_31, sl_licked_31, sl_morning_31, sl_tally_31, sl_kinds_31, sl_places_31, sl_lengths_31, sl_downs_31, sl_covers_31)
    else
      some ((-1), d_sizes, sl_size, sl_need, sl_lifted, sl_licked, sl_morning, sl_tally, sl_kinds, sl_places, sl_lengths, sl_downs, sl_covers)
def fX4_keep (d_items : Nat → Int32) (d_sizes : Nat → Int32) (sl_size : Int32) (x1 : Int32) : Option (Int32 × (Nat → Int32) × (Nat → Int32)) :=
  bd1 (fX4_isIn x1 3) fun v2 =>
  if v2 = 0 then
    some ((-1), d_items, d_sizes)
  else
    if sl_size = 0 then
      some ((-4), d_items, d_sizes)
    else
      bd2 (fX2_copyRow 160 4 40 d_items d_sizes 3 x1) fun d_items_29 d_sizes_29 =>
      bd1 (fX2_sizeOf 4 d_sizes_29 3) fun v37 =>
      some (v37, d_items_29, d_sizes_29)
def fX4_on (finding : Int32) (d_items : Nat → Int32) (d_sizes : Nat → Int32) (st_size : Int32) (st_need : Int32) (st_lifted : Int32) (st_licked : Int32) (st_morning : Int32) (st_tally : Int32) (st_kinds : Nat → Int32) (st_places : Nat → Int32) (st_lengths : Nat → Int32) (st_downs : Nat → Int32) (st_covers : Nat → Int32) (sl_size : Int32) (sl_need : Int32) (sl_lifted : Int32) (sl_licked : Int32) (sl_morning : Int32) (sl_tally : Int32) (sl_kinds : Nat → Int32) (sl_places : Nat → Int32) (sl_lengths : Nat → Int32) (sl_downs : Nat → Int32) (sl_covers : Nat → Int32) (findings : Nat → Int32) (x1 : Int32) : Option (Int32 × Int32 × (Nat → Int32) × (Nat → Int32) × Int32 × Int32 × Int32 × Int32 × Int32 × Int32 × (Nat → Int32) × (Nat → Int32) × (Nat → Int32) × (Nat → Int32) × (Nat → Int32) × (Nat → Int32)) :=
  bd1 (fX4_isIn x1 3) fun v2 =>
  if v2 = 0 then
    some ((-1), finding, d_items, d_sizes, sl_size, sl_need, sl_lifted, sl_licked, sl_morning, sl_tally, sl_kinds, sl_places, sl_lengths, sl_downs, sl_covers, findings)
  else
    bd1 (fX2_isMissing 4 d_sizes x1) fun v15 =>
    if v15 = 0 then
      bd2 (fX2_copyRow 160 4 40 d_items d_sizes x1 3) fun d_items_33 d_sizes_33 =>
      bd11 (fX4_doAnew d_items_33 d_sizes_33 st_size st_need st_lifted st_licked st_morning st_tally st_kinds st_places st_lengths st_downs st_covers sl_kinds sl_places sl_lengths sl_downs sl_covers) fun sl_size_37 sl_need_37 sl_lifted_37 sl_licked_37 sl_morning_37 sl_tally_37 sl_kinds_37 sl_places_37 sl_lengths_37 sl_downs_37 sl_covers_37 =>
      bd1 (fX2_sizeOf 4 d_sizes_33 3) fun v45 =>
      some (v45, finding, d_items_33, d_sizes_33, sl_size_37, sl_need_37, sl_lifted_37, sl_licked_37, sl_morning_37, sl_tally_37, sl_kinds_37, sl_places_37, sl_lengths_37, sl_downs_37, sl_covers_37, findings)
    else
      bd3 (fX4_find findings 1) fun v23 finding_23 findings_23 =>
      some (v23, finding_23, d_items, d_sizes, sl_size, sl_need, sl_lifted, sl_licked, sl_morning, sl_tally, sl_kinds, sl_places, sl_lengths, sl_downs, sl_covers, findings_23)
def fX4_covers (sl_size : Int32) (sl_kinds : Nat → Int32) (sl_lengths : Nat → Int32) (x1 : Int32) (x2 : Int32) (x3 : Int32) : Option Int32 :=
  bd1 (fX3_has sl_size x1) fun v5 =>
  if v5 = 0 then
    some (-1)
  else
    bd1 (fX4_isIn x2 16) fun v14 =>
    if v14 = 0 then
      some (-1)
    else
      bd1 (fX4_isIn x3 2) fun v22 =>
      if v22 = 0 then
        some (-1)
      else
        bd1 (fX3_coverAt sl_size sl_kinds sl_lengths x1 x2 x3) fun v37 =>
        some v37
def fX4_covered (asked : Int32) (sl_size : Int32) (sl_need : Int32) (sl_lifted : Int32) (sl_licked : Int32) (sl_covers : Nat → Int32) : Option (Int32 × Int32) :=
  if sl_size = 0 then
    some ((-4), asked)
  else
    bd1 (fX3_linesNow sl_size sl_need sl_lifted sl_licked sl_covers) fun v18 =>
    bd1 (fX3_coveredNow sl_size sl_lifted sl_licked sl_covers) fun v28 =>
    some (v28, v18)
def fX4_weighs (sl_size : Int32) (sl_lifted : Int32) (sl_kinds : Nat → Int32) (sl_covers : Nat → Int32) (x1 : Int32) : Option Int32 :=
  bd1 (fX4_isIn x1 8) fun v3 =>
  if v3 = 0 then
    some (-1)
  else
    if sl_size = 0 then
      some (-4)
    else
      bd1 (fX3_weightOn sl_size sl_lifted sl_kinds sl_covers x1) fun v31 =>
      some v31
def fX4_reads (asked : Int32) (sl_size : Int32) (sl_need : Int32) (sl_lifted : Int32) (sl_licked : Int32) (sl_morning : Int32) (sl_tally : Int32) (sl_kinds : Nat → Int32) (sl_places : Nat → Int32) (sl_lengths : Nat → Int32) (sl_downs : Nat → Int32) (sl_covers : Nat → Int32) (as_size : Int32) (as_need : Int32) (as_lifted : Int32) (as_licked : Int32) (as_morning : Int32) (as_tally : Int32) (as_kinds : Nat → Int32) (as_places : Nat → Int32) (as_lengths : Nat → Int32) (as_downs : Nat → Int32) (as_covers : Nat → Int32) (x1 : Int32) : Option (Int32 × Int32 × Int32 × Int32 × Int32 × Int32 × Int32 × Int32 × (Nat → Int32) × (Nat → Int32) × (Nat → Int32) × (Nat → Int32) × (Nat → Int32)) :=
  if x1 < 0 then
    some ((-1), asked, as_size, as_need, as_lifted, as_licked, as_morning, as_tally, as_kinds, as_places, as_lengths, as_downs, as_covers)
  else
    if x1 ≤ 40 then
      if sl_size = 0 then
        some ((-4), asked, as_size, as_need, as_lifted, as_licked, as_morning, as_tally, as_kinds, as_places, as_lengths, as_downs, as_covers)
      else
        bd11 (fX3_take as_kinds as_places as_lengths as_downs as_covers sl_size sl_need sl_lifted sl_licked sl_morning sl_tally sl_kinds sl_places sl_lengths sl_downs sl_covers) fun as_size_33 as_need_33 as_lifted_33 as_licked_33 as_morning_33 as_tally_33 as_kinds_33 as_places_33 as_lengths_33 as_downs_33 as_covers_33 =>
        bd5 (fX3_fallTimes as_size_33 as_need_33 as_lifted_33 as_licked_33 as_morning_33 as_tally_33 as_kinds_33 as_places_33 as_lengths_33 as_downs_33 as_covers_33 x1) fun as_morning_41 as_tally_41 as_places_41 as_downs_41 as_covers_41 =>
        bd1 (fX3_linesNow as_size_33 as_need_33 as_lifted_33 as_licked_33 as_covers_41) fun v59 =>
        some (v59, as_tally_41, as_size_33, as_need_33, as_lifted_33, as_licked_33, as_morning_41, as_tally_41, as_kinds_33, as_places_41, as_lengths_33, as_downs_41, as_covers_41)
    else
      some ((-1), asked, as_size, as_need, as_lifted, as_licked, as_morning, as_tally, as_kinds, as_places, as_lengths, as_downs, as_covers)
def fX4_first_B37 (as_size : Int32) (as_need : Int32) (as_lifted : Int32) (as_licked : Int32) (as_kinds : Nat → Int32) (as_lengths : Nat → Int32) (x1 : Int32) (rec : Int32 → Int32 → (Nat → Int32) → (Nat → Int32) → (Nat → Int32) → Int32 → Option ((Int32 × Int32 × Int32 × Int32 × Int32 × Int32 × Int32 × (Nat → Int32) × (Nat → Int32) × (Nat → Int32) × (Nat → Int32) × (Nat → Int32)) ⊕ (Int32 × Int32 × (Nat → Int32) × (Nat → Int32) × (Nat → Int32)))) (as_morning : Int32) (as_tally : Int32) (as_places : Nat → Int32) (as_downs : Nat → Int32) (as_covers : Nat → Int32) (x2 : Int32) : Option ((Int32 × Int32 × Int32 × Int32 × Int32 × Int32 × Int32 × (Nat → Int32) × (Nat → Int32) × (Nat → Int32) × (Nat → Int32) × (Nat → Int32)) ⊕ (Int32 × Int32 × (Nat → Int32) × (Nat → Int32) × (Nat → Int32))) :=
  if 40 < x2 then
    some (.inr (as_morning, as_tally, as_places, as_downs, as_covers))
  else
    bd5 (fX3_fall as_size as_need as_lifted as_licked as_morning as_tally as_kinds as_places as_lengths as_downs as_covers) fun as_morning_47 as_tally_47 as_places_47 as_downs_47 as_covers_47 =>
    bd1 (fX3_linesNow as_size as_need as_lifted as_licked as_covers_47) fun v54 =>
    bd1 (fX4_bit v54 x1) fun v58 =>
    if v58 = 1 then
      some (.inl (x2, as_size, as_need, as_lifted, as_licked, as_morning_47, as_tally_47, as_kinds, as_places_47, as_lengths, as_downs_47, as_covers_47))
    else
      rec as_morning_47 as_tally_47 as_places_47 as_downs_47 as_covers_47 (x2 + 1)
def fX4_first_L37 (as_size : Int32) (as_need : Int32) (as_lifted : Int32) (as_licked : Int32) (as_kinds : Nat → Int32) (as_lengths : Nat → Int32) (x1 : Int32) : Nat → Int32 → Int32 → (Nat → Int32) → (Nat → Int32) → (Nat → Int32) → Int32 → Option ((Int32 × Int32 × Int32 × Int32 × Int32 × Int32 × Int32 × (Nat → Int32) × (Nat → Int32) × (Nat → Int32) × (Nat → Int32) × (Nat → Int32)) ⊕ (Int32 × Int32 × (Nat → Int32) × (Nat → Int32) × (Nat → Int32)))
  | 0 => fun _ _ _ _ _ _ => none
  | n + 1 => fX4_first_B37 as_size as_need as_lifted as_licked as_kinds as_lengths x1 (fX4_first_L37 as_size as_need as_lifted as_licked as_kinds as_lengths x1 n)
def fX4_first (sl_size : Int32) (sl_need : Int32) (sl_lifted : Int32) (sl_licked : Int32) (sl_morning : Int32) (sl_tally : Int32) (sl_kinds : Nat → Int32) (sl_places : Nat → Int32) (sl_lengths : Nat → Int32) (sl_downs : Nat → Int32) (sl_covers : Nat → Int32) (as_size : Int32) (as_need : Int32) (as_lifted : Int32) (as_licked : Int32) (as_morning : Int32) (as_tally : Int32) (as_kinds : Nat → Int32) (as_places : Nat → Int32) (as_lengths : Nat → Int32) (as_downs : Nat → Int32) (as_covers : Nat → Int32) (x1 : Int32) : Option (Int32 × Int32 × Int32 × Int32 × Int32 × Int32 × Int32 × (Nat → Int32) × (Nat → Int32) × (Nat → Int32) × (Nat → Int32) × (Nat → Int32)) :=
  bd1 (fX4_isIn x1 8) fun v3 =>
  if v3 = 0 then
    some ((-1), as_size, as_need, as_lifted, as_licked, as_morning, as_tally, as_kinds, as_places, as_lengths, as_downs, as_covers)
  else
    if sl_size = 0 then
      some ((-4), as_size, as_need, as_lifted, as_licked, as_morning, as_tally, as_kinds, as_places, as_lengths, as_downs, as_covers)
    else
      bd11 (fX3_take as_kinds as_places as_lengths as_downs as_covers sl_size sl_need sl_lifted sl_licked sl_morning sl_tally sl_kinds sl_places sl_lengths sl_downs sl_covers) fun as_size_32 as_need_32 as_lifted_32 as_licked_32 as_morning_32 as_tally_32 as_kinds_32 as_places_32 as_lengths_32 as_downs_32 as_covers_32 =>
      st5 (fX4_first_L37 as_size_32 as_need_32 as_lifted_32 as_licked_32 as_kinds_32 as_lengths_32 x1 FU as_morning_32 as_tally_32 as_places_32 as_downs_32 as_covers_32 1) fun as_morning_L37 as_tally_L37 as_places_L37 as_downs_L37 as_covers_L37 =>
      some ((-9), as_size_32, as_need_32, as_lifted_32, as_licked_32, as_morning_L37, as_tally_L37, as_kinds_32, as_places_L37, as_lengths_32, as_downs_L37, as_covers_L37)
def fX4_areLines  (x0 : Int32) : Option Int32 :=
  if x0 < 0 then
    some 0
  else
    if 255 < x0 then
      some 0
    else
      some 1
def fX4_layOutCovers_B21 (sl_size : Int32) (sl_kinds : Nat → Int32) (sl_lengths : Nat → Int32) (sl_downs : Nat → Int32) (x1 : Int32) (rec : (Nat → Int32) → Int32 → Option (Nat → Int32)) (scratch : Nat → Int32) (x2 : Int32) : Option (Nat → Int32) :=
  if 16 ≤ x2 then
    some scratch
  else
    bd1 (fX3_downOf sl_size sl_downs x1) fun v48 =>
    bd1 (fX3_coverAt sl_size sl_kinds sl_lengths x1 x2 v48) fun v51 =>
    bd1 (ast 96 scratch ((x1 * 16) + x2) v51) fun scratch_54 =>
    rec scratch_54 (x2 + 1)
def fX4_layOutCovers_L21 (sl_size : Int32) (sl_kinds : Nat → Int32) (sl_lengths : Nat → Int32) (sl_downs : Nat → Int32) (x1 : Int32) : Nat → (Nat → Int32) → Int32 → Option (Nat → Int32)
  | 0 => fun _ _ => none
  | n + 1 => fX4_layOutCovers_B21 sl_size sl_kinds sl_lengths sl_downs x1 (fX4_layOutCovers_L21 sl_size sl_kinds sl_lengths sl_downs x1 n)
def fX4_layOutCovers_B2 (sl_size : Int32) (sl_kinds : Nat → Int32) (sl_lengths : Nat → Int32) (sl_downs : Nat → Int32) (rec : (Nat → Int32) → Int32 → Option (Nat → Int32)) (scratch : Nat → Int32) (x1 : Int32) : Option (Nat → Int32) :=
  if sl_size ≤ x1 then
    some scratch
  else
    if 6 ≤ x1 then
      some scratch
    else
      bd1 (fX4_layOutCovers_L21 sl_size sl_kinds sl_lengths sl_downs x1 FU scratch 0) fun scratch_L21 =>
      rec scratch_L21 (x1 + 1)
def fX4_layOutCovers_L2 (sl_size : Int32) (sl_kinds : Nat → Int32) (sl_lengths : Nat → Int32) (sl_downs : Nat → Int32) : Nat → (Nat → Int32) → Int32 → Option (Nat → Int32)
  | 0 => fun _ _ => none
  | n + 1 => fX4_layOutCovers_B2 sl_size sl_kinds sl_lengths sl_downs (fX4_layOutCovers_L2 sl_size sl_kinds sl_lengths sl_downs n)
def fX4_layOutCovers (sl_size : Int32) (sl_kinds : Nat → Int32) (sl_lengths : Nat → Int32) (sl_downs : Nat → Int32) (scratch : Nat → Int32) : Option (Nat → Int32) :=
  bd1 (fX4_layOutCovers_L2 sl_size sl_kinds sl_lengths sl_downs FU scratch 0) fun scratch_L2 =>
  some scratch_L2
def fX4_foundByOne_B47 (sl_need : Int32) (sl_licked : Int32) (scratch : Nat → Int32) (x1 : Int32) (x2 : Int32) (x3 : Int32) (x4 : Int32) (rec : (Nat → Int32) → (Nat → Int32) → Int32 → Option ((Int32 × (Nat → Int32) × (Nat → Int32)) ⊕ ((Nat → Int32) × (Nat → Int32)))) (r_items : Nat → Int32) (r_sizes : Nat → Int32) (x5 : Int32) : Option ((Int32 × (Nat → Int32) × (Nat → Int32)) ⊕ ((Nat → Int32) × (Nat → Int32))) :=
  if 16 ≤ x5 then
    some (.inr (r_items, r_sizes))
  else
    bd1 (ald 96 scratch ((x3 * 16) + x5)) fun v67 =>
    bd1 (fX3_areRead sl_need x1 ((x4 ||| v67) &&& (sl_licked ^^^ (-1)))) fun v88 =>
    if v88 = 0 then
      rec r_items r_sizes (x5 + 1)
    else
      bd2 (fX2_make 240 6 40 r_items r_sizes x2 0 0) fun r_items_101 r_sizes_101 =>
      bd2 (fX2_append 240 6 40 r_items_101 r_sizes_101 x2 x3) fun r_items_110 r_sizes_110 =>
      bd2 (fX2_append 240 6 40 r_items_110 r_sizes_110 x2 x5) fun r_items_120 r_sizes_120 =>
      some (.inl (1, r_items_120, r_sizes_120))
def fX4_foundByOne_L47 (sl_need : Int32) (sl_licked : Int32) (scratch : Nat → Int32) (x1 : Int32) (x2 : Int32) (x3 : Int32) (x4 : Int32) : Nat → (Nat → Int32) → (Nat → Int32) → Int32 → Option ((Int32 × (Nat → Int32) × (Nat → Int32)) ⊕ ((Nat → Int32) × (Nat → Int32)))
  | 0 => fun _ _ _ => none
  | n + 1 => fX4_foundByOne_B47 sl_need sl_licked scratch x1 x2 x3 x4 (fX4_foundByOne_L47 sl_need sl_licked scratch x1 x2 x3 x4 n)
def fX4_foundByOne_j131 (rec : (Nat → Int32) → (Nat → Int32) → Int32 → Option ((Int32 × (Nat → Int32) × (Nat → Int32)) ⊕ ((Nat → Int32) × (Nat → Int32)))) (r_items : Nat → Int32) (r_sizes : Nat → Int32) (sl_size : Int32) (sl_need : Int32) (sl_lifted : Int32) (sl_licked : Int32) (sl_covers : Nat → Int32) (scratch : Nat → Int32) (x1 : Int32) (x2 : Int32) (x3 : Int32) : Option ((Int32 × (Nat → Int32) × (Nat → Int32)) ⊕ ((Nat → Int32) × (Nat → Int32))) :=
  rec r_items r_sizes (x3 + 1)
def fX4_foundByOne_B2 (sl_size : Int32) (sl_need : Int32) (sl_lifted : Int32) (sl_licked : Int32) (sl_covers : Nat → Int32) (scratch : Nat → Int32) (x1 : Int32) (x2 : Int32) (rec : (Nat → Int32) → (Nat → Int32) → Int32 → Option ((Int32 × (Nat → Int32) × (Nat → Int32)) ⊕ ((Nat → Int32) × (Nat → Int32)))) (r_items : Nat → Int32) (r_sizes : Nat → Int32) (x3 : Int32) : Option ((Int32 × (Nat → Int32) × (Nat → Int32)) ⊕ ((Nat → Int32) × (Nat → Int32))) :=
  if sl_size ≤ x3 then
    some (.inr (r_items, r_sizes))
  else
    if 6 ≤ x3 then
      some (.inr (r_items, r_sizes))
    else
      bd1 (fX3_isLifted sl_lifted x3) fun v24 =>
      if v24 = 0 then
        bd1 (fX3_coverOfAllBut sl_size sl_lifted sl_covers x3 x3) fun v39 =>
        sl2 (fX4_foundByOne_L47 sl_need sl_licked scratch x1 x2 x3 v39 FU r_items r_sizes 0) fun r_items_L47 r_sizes_L47 =>
        fX4_foundByOne_j131 rec r_items_L47 r_sizes_L47 sl_size sl_need sl_lifted sl_licked sl_covers scratch x1 x2 x3
      else
        fX4_foundByOne_j131 rec r_items r_sizes sl_size sl_need sl_lifted sl_licked sl_covers scratch x1 x2 x3
def fX4_foundByOne_L2 (sl_size : Int32) (sl_need : Int32) (sl_lifted : Int32) (sl_licked : Int32) (sl_covers : Nat → Int32) (scratch : Nat → Int32) (x1 : Int32) (x2 : Int32) : Nat → (Nat → Int32) → (Nat → Int32) → Int32 → Option ((Int32 × (Nat → Int32) × (Nat → Int32)) ⊕ ((Nat → Int32) × (Nat → Int32)))
  | 0 => fun _ _ _ => none
  | n + 1 => fX4_foundByOne_B2 sl_size sl_need sl_lifted sl_licked sl_covers scratch x1 x2 (fX4_foundByOne_L2 sl_size sl_need sl_lifted sl_licked sl_covers scratch x1 x2 n)
def fX4_foundByOne (r_items : Nat → Int32) (r_sizes : Nat → Int32) (sl_size : Int32) (sl_need : Int32) (sl_lifted : Int32) (sl_licked : Int32) (sl_covers : Nat → Int32) (scratch : Nat → Int32) (x1 : Int32) (x2 : Int32) : Option (Int32 × (Nat → Int32) × (Nat → Int32)) :=
  st2 (fX4_foundByOne_L2 sl_size sl_need sl_lifted sl_licked sl_covers scratch x1 x2 FU r_items r_sizes 0) fun r_items_L2 r_sizes_L2 =>
  some (0, r_items_L2, r_sizes_L2)
def fX4_foundByPair_B61 (sl_need : Int32) (sl_licked : Int32) (scratch : Nat → Int32) (x1 : Int32) (x2 : Int32) (x3 : Int32) (x4 : Int32) (x6 : Int32) (x7 : Int32) (rec : (Nat → Int32) → (Nat → Int32) → Int32 → Option ((Int32 × (Nat → Int32) × (Nat → Int32)) ⊕ ((Nat → Int32) × (Nat → Int32)))) (r_items : Nat → Int32) (r_sizes : Nat → Int32) (x8 : Int32) : Option ((Int32 × (Nat → Int32) × (Nat → Int32)) ⊕ ((Nat → Int32) × (Nat → Int32))) :=
  if 16 ≤ x8 then
    some (.inr (r_items, r_sizes))
  else
    bd1 (ald 96 scratch ((x3 * 16) + x8)) fun v81 =>
    bd1 (fX3_areRead sl_need x1 ((x7 ||| v81) &&& (sl_licked ^^^ (-1)))) fun v102 =>
    if v102 = 0 then
      rec r_items r_sizes (x8 + 1)
    else
      bd2 (fX2_make 240 6 40 r_items r_sizes x4 0 0) fun r_items_116 r_sizes_116 =>
      bd2 (fX2_append 240 6 40 r_items_116 r_sizes_116 x4 x2) fun r_items_126 r_sizes_126 =>
      bd2 (fX2_append 240 6 40 r_items_126 r_sizes_126 x4 x6) fun r_items_137 r_sizes_137 =>
      bd2 (fX2_append 240 6 40 r_items_137 r_sizes_137 x4 x3) fun r_items_147 r_sizes_147 =>
      bd2 (fX2_append 240 6 40 r_items_147 r_sizes_147 x4 x8) fun r_items_158 r_sizes_158 =>
      some (.inl (1, r_items_158, r_sizes_158))
def fX4_foundByPair_L61 (sl_need : Int32) (sl_licked : Int32) (scratch : Nat → Int32) (x1 : Int32) (x2 : Int32) (x3 : Int32) (x4 : Int32) (x6 : Int32) (x7 : Int32) : Nat → (Nat → Int32) → (Nat → Int32) → Int32 → Option ((Int32 × (Nat → Int32) × (Nat → Int32)) ⊕ ((Nat → Int32) × (Nat → Int32)))
  | 0 => fun _ _ _ => none
  | n + 1 => fX4_foundByPair_B61 sl_need sl_licked scratch x1 x2 x3 x4 x6 x7 (fX4_foundByPair_L61 sl_need sl_licked scratch x1 x2 x3 x4 x6 x7 n)
def fX4_foundByPair_B34 (sl_need : Int32) (sl_licked : Int32) (scratch : Nat → Int32) (x1 : Int32) (x2 : Int32) (x3 : Int32) (x4 : Int32) (x5 : Int32) (rec : (Nat → Int32) → (Nat → Int32) → Int32 → Option ((Int32 × (Nat → Int32) × (Nat → Int32)) ⊕ ((Nat → Int32) × (Nat → Int32)))) (r_items : Nat → Int32) (r_sizes : Nat → Int32) (x6 : Int32) : Option ((Int32 × (Nat → Int32) × (Nat → Int32)) ⊕ ((Nat → Int32) × (Nat → Int32))) :=
  if 16 ≤ x6 then
    some (.inr (r_items, r_sizes))
  else
    bd1 (ald 96 scratch ((x2 * 16) + x6)) fun v54 =>
    sl2 (fX4_foundByPair_L61 sl_need sl_licked scratch x1 x2 x3 x4 x6 (x5 ||| v54) FU r_items r_sizes 0) fun r_items_L61 r_sizes_L61 =>
    rec r_items_L61 r_sizes_L61 (x6 + 1)
def fX4_foundByPair_L34 (sl_need : Int32) (sl_licked : Int32) (scratch : Nat → Int32) (x1 : Int32) (x2 : Int32) (x3 : Int32) (x4 : Int32) (x5 : Int32) : Nat → (Nat → Int32) → (Nat → Int32) → Int32 → Option ((Int32 × (Nat → Int32) × (Nat → Int32)) ⊕ ((Nat → Int32) × (Nat → Int32)))
  | 0 => fun _ _ _ => none
  | n + 1 => fX4_foundByPair_B34 sl_need sl_licked scratch x1 x2 x3 x4 x5 (fX4_foundByPair_L34 sl_need sl_licked scratch x1 x2 x3 x4 x5 n)
def fX4_foundByPair (r_items : Nat → Int32) (r_sizes : Nat → Int32) (sl_size : Int32) (sl_need : Int32) (sl_lifted : Int32) (sl_licked : Int32) (sl_covers : Nat → Int32) (scratch : Nat → Int32) (x1 : Int32) (x2 : Int32) (x3 : Int32) (x4 : Int32) : Option (Int32 × (Nat → Int32) × (Nat → Int32)) :=
  bd1 (fX4_isIn x2 6) fun v3 =>
  if v3 = 0 then
    some (0, r_items, r_sizes)
  else
    bd1 (fX4_isIn x3 6) fun v12 =>
    if v12 = 0 then
      some (0, r_items, r_sizes)
    else
      bd1 (fX3_coverOfAllBut sl_size sl_lifted sl_covers x2 x3) fun v26 =>
      st2 (fX4_foundByPair_L34 sl_need sl_licked scratch x1 x2 x3 x4 v26 FU r_items r_sizes 0) fun r_items_L34 r_sizes_L34 =>
      some (0, r_items_L34, r_sizes_L34)
def fX4_foundByTwo_j67 (rec : (Nat → Int32) → (Nat → Int32) → Int32 → Option ((Int32 × (Nat → Int32) × (Nat → Int32)) ⊕ ((Nat → Int32) × (Nat → Int32)))) (r_items : Nat → Int32) (r_sizes : Nat → Int32) (sl_size : Int32) (sl_need : Int32) (sl_lifted : Int32) (sl_licked : Int32) (sl_covers : Nat → Int32) (scratch : Nat → Int32) (x1 : Int32) (x2 : Int32) (x3 : Int32) (x4 : Int32) : Option ((Int32 × (Nat → Int32) × (Nat → Int32)) ⊕ ((Nat → Int32) × (Nat → Int32))) :=
  rec r_items r_sizes (x4 + 1)
def fX4_foundByTwo_B18 (sl_size : Int32) (sl_need : Int32) (sl_lifted : Int32) (sl_licked : Int32) (sl_covers : Nat → Int32) (scratch : Nat → Int32) (x1 : Int32) (x2 : Int32) (x3 : Int32) (rec : (Nat → Int32) → (Nat → Int32) → Int32 → Option ((Int32 × (Nat → Int32) × (Nat → Int32)) ⊕ ((Nat → Int32) × (Nat → Int32)))) (r_items : Nat → Int32) (r_sizes : Nat → Int32) (x4 : Int32) : Option ((Int32 × (Nat → Int32) × (Nat → Int32)) ⊕ ((Nat → Int32) × (Nat → Int32))) :=
  if sl_size ≤ x4 then
    some (.inr (r_items, r_sizes))
  else
    bd1 (fX3_isLifted sl_lifted x3) fun v35 =>
    if v35 = 0 then
      bd1 (fX3_isLifted sl_lifted x4) fun v47 =>
      if v47 = 0 then
        bd3 (fX4_foundByPair r_items r_sizes sl_size sl_need sl_lifted sl_licked sl_covers scratch x1 x3 x4 x2) fun v59 r_items_59 r_sizes_59 =>
        if v59 = 0 then
          fX4_foundByTwo_j67 rec r_items_59 r_sizes_59 sl_size sl_need sl_lifted sl_licked sl_covers scratch x1 x2 x3 x4
        else
          some (.inl (1, r_items_59, r_sizes_59))
      else
        fX4_foundByTwo_j67 rec r_items r_sizes sl_size sl_need sl_lifted sl_licked sl_covers scratch x1 x2 x3 x4
    else
      fX4_foundByTwo_j67 rec r_items r_sizes sl_size sl_need sl_lifted sl_licked sl_covers scratch x1 x2 x3 x4
def fX4_foundByTwo_L18 (sl_size : Int32) (sl_need : Int32) (sl_lifted : Int32) (sl_licked : Int32) (sl_covers : Nat → Int32) (scratch : Nat → Int32) (x1 : Int32) (x2 : Int32) (x3 : Int32) : Nat → (Nat → Int32) → (Nat → Int32) → Int32 → Option ((Int32 × (Nat → Int32) × (Nat → Int32)) ⊕ ((Nat → Int32) × (Nat → Int32)))
  | 0 => fun _ _ _ => none
  | n + 1 => fX4_foundByTwo_B18 sl_size sl_need sl_lifted sl_licked sl_covers scratch x1 x2 x3 (fX4_foundByTwo_L18 sl_size sl_need sl_lifted sl_licked sl_covers scratch x1 x2 x3 n)
def fX4_foundByTwo_B2 (sl_size : Int32) (sl_need : Int32) (sl_lifted : Int32) (sl_licked : Int32) (sl_covers : Nat → Int32) (scratch : Nat → Int32) (x1 : Int32) (x2 : Int32) (rec : (Nat → Int32) → (Nat → Int32) → Int32 → Option ((Int32 × (Nat → Int32) × (Nat → Int32)) ⊕ ((Nat → Int32) × (Nat → Int32)))) (r_items : Nat → Int32) (r_sizes : Nat → Int32) (x3 : Int32) : Option ((Int32 × (Nat → Int32) × (Nat → Int32)) ⊕ ((Nat → Int32) × (Nat → Int32))) :=
  if sl_size ≤ x3 then
    some (.inr (r_items, r_sizes))
  else
    sl2 (fX4_foundByTwo_L18 sl_size sl_need sl_lifted sl_licked sl_covers scratch x1 x2 x3 FU r_items r_sizes (x3 + 1)) fun r_items_L18 r_sizes_L18 =>
    rec r_items_L18 r_sizes_L18 (x3 + 1)
def fX4_foundByTwo_L2 (sl_size : Int32) (sl_need : Int32) (sl_lifted : Int32) (sl_licked : Int32) (sl_covers : Nat → Int32) (scratch : Nat → Int32) (x1 : Int32) (x2 : Int32) : Nat → (Nat → Int32) → (Nat → Int32) → Int32 → Option ((Int32 × (Nat → Int32) × (Nat → Int32)) ⊕ ((Nat → Int32) × (Nat → Int32)))
  | 0 => fun _ _ _ => none
  | n + 1 => fX4_foundByTwo_B2 sl_size sl_need sl_lifted sl_licked sl_covers scratch x1 x2 (fX4_foundByTwo_L2 sl_size sl_need sl_lifted sl_licked sl_covers scratch x1 x2 n)
def fX4_foundByTwo (r_items : Nat → Int32) (r_sizes : Nat → Int32) (sl_size : Int32) (sl_need : Int32) (sl_lifted : Int32) (sl_licked : Int32) (sl_covers : Nat → Int32) (scratch : Nat → Int32) (x1 : Int32) (x2 : Int32) : Option (Int32 × (Nat → Int32) × (Nat → Int32)) :=
  st2 (fX4_foundByTwo_L2 sl_size sl_need sl_lifted sl_licked sl_covers scratch x1 x2 FU r_items r_sizes 0) fun r_items_L2 r_sizes_L2 =>
  some (0, r_items_L2, r_sizes_L2)
def fX4_found (r_items : Nat → Int32) (r_sizes : Nat → Int32) (sl_size : Int32) (sl_need : Int32) (sl_lifted : Int32) (sl_licked : Int32) (sl_kinds : Nat → Int32) (sl_lengths : Nat → Int32) (sl_downs : Nat → Int32) (sl_covers : Nat → Int32) (scratch : Nat → Int32) (x1 : Int32) (x2 : Int32) : Option (Int32 × (Nat → Int32) × (Nat → Int32) × (Nat → Int32)) :=
  bd1 (fX4_areLines x1) fun v1 =>
  if v1 = 0 then
    some ((-1), r_items, r_sizes, scratch)
  else
    bd1 (fX4_isRow x2) fun v8 =>
    if v8 = 0 then
      some ((-1), r_items, r_sizes, scratch)
    else
      if sl_size = 0 then
        some ((-4), r_items, r_sizes, scratch)
      else
        bd1 (fX3_coveredNow sl_size sl_lifted sl_licked sl_covers) fun v38 =>
        bd1 (fX3_areRead sl_need x1 v38) fun v41 =>
        if v41 = 0 then
          bd1 (fX4_layOutCovers sl_size sl_kinds sl_lengths sl_downs scratch) fun scratch_60 =>
          bd3 (fX4_foundByOne r_items r_sizes sl_size sl_need sl_lifted sl_licked sl_covers scratch_60 x1 x2) fun v66 r_items_66 r_sizes_66 =>
          if v66 = 0 then
            bd3 (fX4_foundByTwo r_items_66 r_sizes_66 sl_size sl_need sl_lifted sl_licked sl_covers scratch_60 x1 x2) fun v77 r_items_77 r_sizes_77 =>
            if v77 = 0 then
              some ((-9), r_items_77, r_sizes_77, scratch_60)
            else
              some (2, r_items_77, r_sizes_77, scratch_60)
          else
            some (1, r_items_66, r_sizes_66, scratch_60)
        else
          bd2 (fX2_make 240 6 40 r_items r_sizes x2 0 0) fun r_items_54 r_sizes_54 =>
          some (0, r_items_54, r_sizes_54, scratch)
def fX4_best_j98 (rec : Int32 → Int32 → Int32 → Option (Int32 × Int32)) (sl_size : Int32) (sl_need : Int32) (sl_licked : Int32) (sl_kinds : Nat → Int32) (sl_lengths : Nat → Int32) (sl_downs : Nat → Int32) (x1 : Int32) (x2 : Int32) (x3 : Int32) (x4 : Int32) (x5 : Int32) : Option (Int32 × Int32) :=
  rec x3 x4 (x5 + 1)
def fX4_best_B31 (sl_size : Int32) (sl_need : Int32) (sl_licked : Int32) (sl_kinds : Nat → Int32) (sl_lengths : Nat → Int32) (sl_downs : Nat → Int32) (x1 : Int32) (x2 : Int32) (rec : Int32 → Int32 → Int32 → Option (Int32 × Int32)) (x3 : Int32) (x4 : Int32) (x5 : Int32) : Option (Int32 × Int32) :=
  if 16 ≤ x5 then
    some (x3, x4)
  else
    bd1 (fX3_downOf sl_size sl_downs x1) fun v51 =>
    bd1 (fX3_coverAt sl_size sl_kinds sl_lengths x1 x5 v51) fun v54 =>
    bd1 (fX3_linesBy sl_size sl_need ((x2 ||| v54) &&& (sl_licked ^^^ (-1)))) fun v76 =>
    if (bitc v76) ≤ x4 then
      fX4_best_j98 rec sl_size sl_need sl_licked sl_kinds sl_lengths sl_downs x1 x2 x3 x4 x5
    else
      fX4_best_j98 rec sl_size sl_need sl_licked sl_kinds sl_lengths sl_downs x1 x2 x5 (bitc v76) x5
def fX4_best_L31 (sl_size : Int32) (sl_need : Int32) (sl_licked : Int32) (sl_kinds : Nat → Int32) (sl_lengths : Nat → Int32) (sl_downs : Nat → Int32) (x1 : Int32) (x2 : Int32) : Nat → Int32 → Int32 → Int32 → Option (Int32 × Int32)
  | 0 => fun _ _ _ => none
  | n + 1 => fX4_best_B31 sl_size sl_need sl_licked sl_kinds sl_lengths sl_downs x1 x2 (fX4_best_L31 sl_size sl_need sl_licked sl_kinds sl_lengths sl_downs x1 x2 n)
def fX4_best (asked : Int32) (sl_size : Int32) (sl_need : Int32) (sl_lifted : Int32) (sl_licked : Int32) (sl_kinds : Nat → Int32) (sl_lengths : Nat → Int32) (sl_downs : Nat → Int32) (sl_covers : Nat → Int32) (x1 : Int32) : Option (Int32 × Int32) :=
  bd1 (fX3_has sl_size x1) fun v5 =>
  if v5 = 0 then
    some ((-1), asked)
  else
    bd1 (fX3_coverOfAllBut sl_size sl_lifted sl_covers x1 x1) fun v19 =>
    bd2 (fX4_best_L31 sl_size sl_need sl_licked sl_kinds sl_lengths sl_downs x1 v19 FU 0 (-1) 0) fun x3_L31 x4_L31 =>
    some (x3_L31, x4_L31)
def fX4_fitGapSets_j50 (rec : Int32 → Int32 → Int32 → Int32 → Int32 → Int32 → Option (Int32 × Int32 × Int32 × Int32)) (sl_size : Int32) (sl_need : Int32) (sl_licked : Int32) (count : Int32) (least : Int32) (inAll : Int32) (inSome : Int32) (x1 : Int32) (x2 : Int32) (x3 : Int32) (x4 : Int32) : Option (Int32 × Int32 × Int32 × Int32) :=
  if ((x3 - sl_licked) &&& sl_licked) = 0 then
    some (count, least, inAll, inSome)
  else
    rec count least inAll inSome ((x3 - sl_licked) &&& sl_licked) (x4 + 1)
def fX4_fitGapSets_B20 (sl_size : Int32) (sl_need : Int32) (sl_licked : Int32) (x1 : Int32) (x2 : Int32) (rec : Int32 → Int32 → Int32 → Int32 → Int32 → Int32 → Option (Int32 × Int32 × Int32 × Int32)) (count : Int32) (least : Int32) (inAll : Int32) (inSome : Int32) (x3 : Int32) (x4 : Int32) : Option (Int32 × Int32 × Int32 × Int32) :=
  if 256 ≤ x4 then
    some (count, least, inAll, inSome)
  else
    bd1 (fX3_linesBy sl_size sl_need (x2 ||| x3)) fun v35 =>
    if v35 = x1 then
      bd4 (fX1_add count least inAll inSome x3) fun count_47 least_47 inAll_47 inSome_47 =>
      fX4_fitGapSets_j50 rec sl_size sl_need sl_licked count_47 least_47 inAll_47 inSome_47 x1 x2 x3 x4
    else
      fX4_fitGapSets_j50 rec sl_size sl_need sl_licked count least inAll inSome x1 x2 x3 x4
def fX4_fitGapSets_L20 (sl_size : Int32) (sl_need : Int32) (sl_licked : Int32) (x1 : Int32) (x2 : Int32) : Nat → Int32 → Int32 → Int32 → Int32 → Int32 → Int32 → Option (Int32 × Int32 × Int32 × Int32)
  | 0 => fun _ _ _ _ _ _ => none
  | n + 1 => fX4_fitGapSets_B20 sl_size sl_need sl_licked x1 x2 (fX4_fitGapSets_L20 sl_size sl_need sl_licked x1 x2 n)
def fX4_fitGapSets (sl_size : Int32) (sl_need : Int32) (sl_lifted : Int32) (sl_licked : Int32) (sl_covers : Nat → Int32) (x1 : Int32) : Option (Int32 × Int32 × Int32 × Int32) :=
  bd4 fX1_clear fun count_4 least_4 inAll_4 inSome_4 =>
  bd1 (fX3_coveredNow sl_size sl_lifted sl_licked sl_covers) fun v11 =>
  bd4 (fX4_fitGapSets_L20 sl_size sl_need sl_licked x1 v11 FU count_4 least_4 inAll_4 inSome_4 0 0) fun count_L20 least_L20 inAll_L20 inSome_L20 =>
  some (count_L20, least_L20, inAll_L20, inSome_L20)
def fX4_tellChance_B9  (rec : Int64 → Int64 → Int32 → Option Int64) (x5 : Int64) (x7 : Int64) (x9 : Int32) : Option Int64 :=
  if 100 ≤ x9 then
    some x5
  else
    if (lg_cmp x7 0) = 0 then
      some x5
    else
      if x7 = 0 then none else
      rec x7 (x5 - x5 / x7 * x7) (x9 + 1)
def fX4_tellChance_L9  : Nat → Int64 → Int64 → Int32 → Option Int64
  | 0 => fun _ _ _ => none
  | n + 1 => fX4_tellChance_B9 (fX4_tellChance_L9 n)
def fX4_tellChance (upper : Int64) (lower : Int64) (x1 : Int64) (x3 : Int64) : Option (Int64 × Int64) :=
  bd1 (fX4_tellChance_L9 FU x1 x3 0) fun x5_L9 =>
  if (lg_cmp x5_L9 0) ≤ 0 then
    some (upper, lower)
  else
    if x5_L9 = 0 then none else
    if x5_L9 = 0 then none else
    some ((x1 / x5_L9), (x3 / x5_L9))
def fX4_gap (asked : Int32) (upper : Int64) (lower : Int64) (sl_size : Int32) (sl_need : Int32) (sl_lifted : Int32) (sl_licked : Int32) (sl_covers : Nat → Int32) (count : Int32) (least : Int32) (inAll : Int32) (inSome : Int32) (x1 : Int32) : Option (Int32 × Int32 × Int64 × Int64 × Int32 × Int32 × Int32 × Int32) :=
  bd1 (fX4_areLines x1) fun v1 =>
  if v1 = 0 then
    some ((-1), asked, upper, lower, count, least, inAll, inSome)
  else
    if sl_size = 0 then
      some ((-4), asked, upper, lower, count, least, inAll, inSome)
    else
      bd4 (fX4_fitGapSets sl_size sl_need sl_lifted sl_licked sl_covers x1) fun count_24 least_24 inAll_24 inSome_24 =>
      bd2 (fX4_tellChance upper lower (Int32.toInt64 count_24) 1) fun upper_37 lower_37 =>
      bd2 (fX4_tell least_24) fun v48 asked_48 =>
      some (v48, asked_48, upper_37, lower_37, count_24, least_24, inAll_24, inSome_24)
def fX4_sure (finding : Int32) (asked : Int32) (sl_size : Int32) (sl_need : Int32) (sl_lifted : Int32) (sl_licked : Int32) (sl_covers : Nat → Int32) (count : Int32) (least : Int32) (inAll : Int32) (inSome : Int32) (findings : Nat → Int32) (x1 : Int32) : Option (Int32 × Int32 × Int32 × Int32 × Int32 × Int32 × Int32 × (Nat → Int32)) :=
  bd1 (fX4_areLines x1) fun v1 =>
  if v1 = 0 then
    some ((-1), finding, asked, count, least, inAll, inSome, findings)
  else
    if sl_size = 0 then
      some ((-4), finding, asked, count, least, inAll, inSome, findings)
    else
      bd4 (fX4_fitGapSets sl_size sl_need sl_lifted sl_licked sl_covers x1) fun count_24 least_24 inAll_24 inSome_24 =>
      if count_24 = 0 then
        bd3 (fX4_find findings 4) fun v39 finding_39 findings_39 =>
        some (v39, finding_39, asked, count_24, least_24, inAll_24, inSome_24, findings_39)
      else
        some (inAll_24, finding, (sl_licked &&& (inSome_24 ^^^ (-1))), count_24, least_24, inAll_24, inSome_24, findings)
def fX4_flawOfSeen_B37 (r_items : Nat → Int32) (r_sizes : Nat → Int32) (x1 : Int32) (x2 : Int32) (rec : Int32 → Option (Int32 ⊕ Unit)) (x3 : Int32) : Option (Int32 ⊕ Unit) :=
  if x2 ≤ x3 then
    some (.inr ())
  else
    bd1 (fX2_get 240 6 40 r_items r_sizes x1 x3) fun v48 =>
    bd1 (fX4_areLines v48) fun v51 =>
    if v51 = 0 then
      some (.inl 3)
    else
      rec (x3 + 1)
def fX4_flawOfSeen_L37 (r_items : Nat → Int32) (r_sizes : Nat → Int32) (x1 : Int32) (x2 : Int32) : Nat → Int32 → Option (Int32 ⊕ Unit)
  | 0 => fun _ => none
  | n + 1 => fX4_flawOfSeen_B37 r_items r_sizes x1 x2 (fX4_flawOfSeen_L37 r_items r_sizes x1 x2 n)
def fX4_flawOfSeen (r_items : Nat → Int32) (r_sizes : Nat → Int32) (x1 : Int32) : Option Int32 :=
  bd1 (fX2_sizeOf 6 r_sizes x1) fun v5 =>
  bd1 (fX2_isMissing 6 r_sizes x1) fun v14 =>
  if v14 = 0 then
    if v5 < 1 then
      some 5
    else
      if v5 ≤ 10 then
        st0 (fX4_flawOfSeen_L37 r_items r_sizes x1 v5 FU 0) fun _ =>
        some 0
      else
        some 5
  else
    some 1
def fX4_asideFits_B11 (r_items : Nat → Int32) (r_sizes : Nat → Int32) (as_size : Int32) (as_need : Int32) (as_lifted : Int32) (as_licked : Int32) (as_kinds : Nat → Int32) (as_lengths : Nat → Int32) (x1 : Int32) (x2 : Int32) (rec : Int32 → Int32 → (Nat → Int32) → (Nat → Int32) → (Nat → Int32) → Int32 → Option ((Int32 × Int32 × Int32 × (Nat → Int32) × (Nat → Int32) × (Nat → Int32)) ⊕ (Int32 × Int32 × (Nat → Int32) × (Nat → Int32) × (Nat → Int32)))) (as_morning : Int32) (as_tally : Int32) (as_places : Nat → Int32) (as_downs : Nat → Int32) (as_covers : Nat → Int32) (x3 : Int32) : Option ((Int32 × Int32 × Int32 × (Nat → Int32) × (Nat → Int32) × (Nat → Int32)) ⊕ (Int32 × Int32 × (Nat → Int32) × (Nat → Int32) × (Nat → Int32))) :=
  if x2 ≤ x3 then
    some (.inr (as_morning, as_tally, as_places, as_downs, as_covers))
  else
    bd5 (fX3_fall as_size as_need as_lifted as_licked as_morning as_tally as_kinds as_places as_lengths as_downs as_covers) fun as_morning_20 as_tally_20 as_places_20 as_downs_20 as_covers_20 =>
    bd1 (fX3_linesNow as_size as_need as_lifted as_licked as_covers_20) fun v27 =>
    bd1 (fX2_get 240 6 40 r_items r_sizes x1 x3) fun v36 =>
    if v27 = v36 then
      rec as_morning_20 as_tally_20 as_places_20 as_downs_20 as_covers_20 (x3 + 1)
    else
      some (.inl (0, as_morning_20, as_tally_20, as_places_20, as_downs_20, as_covers_20))
def fX4_asideFits_L11 (r_items : Nat → Int32) (r_sizes : Nat → Int32) (as_size : Int32) (as_need : Int32) (as_lifted : Int32) (as_licked : Int32) (as_kinds : Nat → Int32) (as_lengths : Nat → Int32) (x1 : Int32) (x2 : Int32) : Nat → Int32 → Int32 → (Nat → Int32) → (Nat → Int32) → (Nat → Int32) → Int32 → Option ((Int32 × Int32 × Int32 × (Nat → Int32) × (Nat → Int32) × (Nat → Int32)) ⊕ (Int32 × Int32 × (Nat → Int32) × (Nat → Int32) × (Nat → Int32)))
  | 0 => fun _ _ _ _ _ _ => none
  | n + 1 => fX4_asideFits_B11 r_items r_sizes as_size as_need as_lifted as_licked as_kinds as_lengths x1 x2 (fX4_asideFits_L11 r_items r_sizes as_size as_need as_lifted as_licked as_kinds as_lengths x1 x2 n)
def fX4_asideFits (r_items : Nat → Int32) (r_sizes : Nat → Int32) (as_size : Int32) (as_need : Int32) (as_lifted : Int32) (as_licked : Int32) (as_morning : Int32) (as_tally : Int32) (as_kinds : Nat → Int32) (as_places : Nat → Int32) (as_lengths : Nat → Int32) (as_downs : Nat → Int32) (as_covers : Nat → Int32) (x1 : Int32) : Option (Int32 × Int32 × Int32 × (Nat → Int32) × (Nat → Int32) × (Nat → Int32)) :=
  bd1 (fX2_sizeOf 6 r_sizes x1) fun v5 =>
  st5 (fX4_asideFits_L11 r_items r_sizes as_size as_need as_lifted as_licked as_kinds as_lengths x1 v5 FU as_morning as_tally as_places as_downs as_covers 0) fun as_morning_L11 as_tally_L11 as_places_L11 as_downs_L11 as_covers_L11 =>
  some (1, as_morning_L11, as_tally_L11, as_places_L11, as_downs_L11, as_covers_L11)
def fX4_fittingPlaces_j56 (rec : Int32 → Int32 → Int32 → Int32 → Int32 → Int32 → (Nat → Int32) → (Nat → Int32) → (Nat → Int32) → (Nat → Int32) → (Nat → Int32) → Int32 → Int32 → Option (Int32 × Int32 × Int32 × Int32 × Int32 × Int32 × (Nat → Int32) × (Nat → Int32) × (Nat → Int32) × (Nat → Int32) × (Nat → Int32) × Int32)) (r_items : Nat → Int32) (r_sizes : Nat → Int32) (sl_size : Int32) (sl_need : Int32) (sl_lifted : Int32) (sl_licked : Int32) (sl_morning : Int32) (sl_tally : Int32) (sl_kinds : Nat → Int32) (sl_places : Nat → Int32) (sl_lengths : Nat → Int32) (sl_downs : Nat → Int32) (sl_covers : Nat → Int32) (as_size : Int32) (as_need : Int32) (as_lifted : Int32) (as_licked : Int32) (as_morning : Int32) (as_tally : Int32) (as_kinds : Nat → Int32) (as_places : Nat → Int32) (as_lengths : Nat → Int32) (as_downs : Nat → Int32) (as_covers : Nat → Int32) (x1 : Int32) (x2 : Int32) (x3 : Int32) (x4 : Int32) : Option (Int32 × Int32 × Int32 × Int32 × Int32 × Int32 × (Nat → Int32) × (Nat → Int32) × (Nat → Int32) × (Nat → Int32) × (Nat → Int32) × Int32) :=
  rec as_size as_need as_lifted as_licked as_morning as_tally as_kinds as_places as_lengths as_downs as_covers x3 (x4 + 1)
def fX4_fittingPlaces_B5 (r_items : Nat → Int32) (r_sizes : Nat → Int32) (sl_size : Int32) (sl_need : Int32) (sl_lifted : Int32) (sl_licked : Int32) (sl_morning : Int32) (sl_tally : Int32) (sl_kinds : Nat → Int32) (sl_places : Nat → Int32) (sl_lengths : Nat → Int32) (sl_downs : Nat → Int32) (sl_covers : Nat → Int32) (x1 : Int32) (x2 : Int32) (rec : Int32 → Int32 → Int32 → Int32 → Int32 → Int32 → (Nat → Int32) → (Nat → Int32) → (Nat → Int32) → (Nat → Int32) → (Nat → Int32) → Int32 → Int32 → Option (Int32 × Int32 × Int32 × Int32 × Int32 × Int32 × (Nat → Int32) × (Nat → Int32) × (Nat → Int32) × (Nat → Int32) × (Nat → Int32) × Int32)) (as_size : Int32) (as_need : Int32) (as_lifted : Int32) (as_licked : Int32) (as_morning : Int32) (as_tally : Int32) (as_kinds : Nat → Int32) (as_places : Nat → Int32) (as_lengths : Nat → Int32) (as_downs : Nat → Int32) (as_covers : Nat → Int32) (x3 : Int32) (x4 : Int32) : Option (Int32 × Int32 × Int32 × Int32 × Int32 × Int32 × (Nat → Int32) × (Nat → Int32) × (Nat → Int32) × (Nat → Int32) × (Nat → Int32) × Int32) :=
  if 16 ≤ x4 then
    some (as_size, as_need, as_lifted, as_licked, as_morning, as_tally, as_kinds, as_places, as_lengths, as_downs, as_covers, x3)
  else
    bd11 (fX3_take as_kinds as_places as_lengths as_downs as_covers sl_size sl_need sl_lifted sl_licked sl_morning sl_tally sl_kinds sl_places sl_lengths sl_downs sl_covers) fun as_size_20 as_need_20 as_lifted_20 as_licked_20 as_morning_20 as_tally_20 as_kinds_20 as_places_20 as_lengths_20 as_downs_20 as_covers_20 =>
    bd1 (fX3_downOf sl_size sl_downs x1) fun v35 =>
    bd3 (fX3_settle as_size_20 as_kinds_20 as_places_20 as_lengths_20 as_downs_20 as_covers_20 x1 x4 v35) fun as_places_38 as_downs_38 as_covers_38 =>
    bd6 (fX4_asideFits r_items r_sizes as_size_20 as_need_20 as_lifted_20 as_licked_20 as_morning_20 as_tally_20 as_kinds_20 as_places_38 as_lengths_20 as_downs_38 as_covers_38 x2) fun v43 as_morning_43 as_tally_43 as_places_43 as_downs_43 as_covers_43 =>
    if v43 = 0 then
      fX4_fittingPlaces_j56 rec r_items r_sizes sl_size sl_need sl_lifted sl_licked sl_morning sl_tally sl_kinds sl_places sl_lengths sl_downs sl_covers as_size_20 as_need_20 as_lifted_20 as_licked_20 as_morning_43 as_tally_43 as_kinds_20 as_places_43 as_lengths_20 as_downs_43 as_covers_43 x1 x2 x3 x4
    else
      fX4_fittingPlaces_j56 rec r_items r_sizes sl_size sl_need sl_lifted sl_licked sl_morning sl_tally sl_kinds sl_places sl_lengths sl_downs sl_covers as_size_20 as_need_20 as_lifted_20 as_licked_20 as_morning_43 as_tally_43 as_kinds_20 as_places_43 as_lengths_20 as_downs_43 as_covers_43 x1 x2 (x3 ||| ((1 : Int32) <<< (x4 &&& 31))) x4
def fX4_fittingPlaces_L5 (r_items : Nat → Int32) (r_sizes : Nat → Int32) (sl_size : Int32) (sl_need : Int32) (sl_lifted : Int32) (sl_licked : Int32) (sl_morning : Int32) (sl_tally : Int32) (sl_kinds : Nat → Int32) (sl_places : Nat → Int32) (sl_lengths : Nat → Int32) (sl_downs : Nat → Int32) (sl_covers : Nat → Int32) (x1 : Int32) (x2 : Int32) : Nat → Int32 → Int32 → Int32 → Int32 → Int32 → Int32 → (Nat → Int32) → (Nat → Int32) → (Nat → Int32) → (Nat → Int32) → (Nat → Int32) → Int32 → Int32 → Option (Int32 × Int32 × Int32 × Int32 × Int32 × Int32 × (Nat → Int32) × (Nat → Int32) × (Nat → Int32) × (Nat → Int32) × (Nat → Int32) × Int32)
  | 0 => fun _ _ _ _ _ _ _ _ _ _ _ _ _ => none
  | n + 1 => fX4_fittingPlaces_B5 r_items r_sizes sl_size sl_need sl_lifted sl_licked sl_morning sl_tally sl_kinds sl_places sl_lengths sl_downs sl_covers x1 x2 (fX4_fittingPlaces_L5 r_items r_sizes sl_size sl_need sl_lifted sl_licked sl_morning sl_tally sl_kinds sl_places sl_lengths sl_downs sl_covers x1 x2 n)
def fX4_fittingPlaces (r_items : Nat → Int32) (r_sizes : Nat → Int32) (sl_size : Int32) (sl_need : Int32) (sl_lifted : Int32) (sl_licked : Int32) (sl_morning : Int32) (sl_tally : Int32) (sl_kinds : Nat → Int32) (sl_places : Nat → Int32) (sl_lengths : Nat → Int32) (sl_downs : Nat → Int32) (sl_covers : Nat → Int32) (as_size : Int32) (as_need : Int32) (as_lifted : Int32) (as_licked : Int32) (as_morning : Int32) (as_tally : Int32) (as_kinds : Nat → Int32) (as_places : Nat → Int32) (as_lengths : Nat → Int32) (as_downs : Nat → Int32) (as_covers : Nat → Int32) (x1 : Int32) (x2 : Int32) : Option (Int32 × Int32 × Int32 × Int32 × Int32 × Int32 × Int32 × (Nat → Int32) × (Nat → Int32) × (Nat → Int32) × (Nat → Int32) × (Nat → Int32)) :=
  bd12 (fX4_fittingPlaces_L5 r_items r_sizes sl_size sl_need sl_lifted sl_licked sl_morning sl_tally sl_kinds sl_places sl_lengths sl_downs sl_covers x1 x2 FU as_size as_need as_lifted as_licked as_morning as_tally as_kinds as_places as_lengths as_downs as_covers 0 0) fun as_size_L5 as_need_L5 as_lifted_L5 as_licked_L5 as_morning_L5 as_tally_L5 as_kinds_L5 as_places_L5 as_lengths_L5 as_downs_L5 as_covers_L5 x3_L5 =>
  some (x3_L5, as_size_L5, as_need_L5, as_lifted_L5, as_licked_L5, as_morning_L5, as_tally_L5, as_kinds_L5, as_places_L5, as_lengths_L5, as_downs_L5, as_covers_L5)
def fX4_places (finding : Int32) (r_items : Nat → Int32) (r_sizes : Nat → Int32) (sl_size : Int32) (sl_need : Int32) (sl_lifted : Int32) (sl_licked : Int32) (sl_morning : Int32) (sl_tally : Int32) (sl_kinds : Nat → Int32) (sl_places : Nat → Int32) (sl_lengths : Nat → Int32) (sl_downs : Nat → Int32) (sl_covers : Nat → Int32) (as_size : Int32) (as_need : Int32) (as_lifted : Int32) (as_licked : Int32) (as_morning : Int32) (as_tally : Int32) (as_kinds : Nat → Int32) (as_places : Nat → Int32) (as_lengths : Nat → Int32) (as_downs : Nat → Int32) (as_covers : Nat → Int32) (findings : Nat → Int32) (x1 : Int32) (x2 : Int32) : Option (Int32 × Int32 × Int32 × Int32 × Int32 × Int32 × Int32 × Int32 × (Nat → Int32) × (Nat → Int32) × (Nat → Int32) × (Nat → Int32) × (Nat → Int32) × (Nat → Int32)) :=
  bd1 (fX3_has sl_size x1) fun v5 =>
  if v5 = 0 then
    some ((-1), finding, as_size, as_need, as_lifted, as_licked, as_morning, as_tally, as_kinds, as_places, as_lengths, as_downs, as_covers, findings)
  else
    bd1 (fX4_isRow x2) fun v12 =>
    if v12 = 0 then
      some ((-1), finding, as_size, as_need, as_lifted, as_licked, as_morning, as_tally, as_kinds, as_places, as_lengths, as_downs, as_covers, findings)
    else
      bd1 (fX4_flawOfSeen r_items r_sizes x2) fun v22 =>
      if v22 = 0 then
        bd12 (fX4_fittingPlaces r_items r_sizes sl_size sl_need sl_lifted sl_licked sl_morning sl_tally sl_kinds sl_places sl_lengths sl_downs sl_covers as_size as_need as_lifted as_licked as_morning as_tally as_kinds as_places as_lengths as_downs as_covers x1 x2) fun v41 as_size_41 as_need_41 as_lifted_41 as_licked_41 as_morning_41 as_tally_41 as_kinds_41 as_places_41 as_lengths_41 as_downs_41 as_covers_41 =>
        some (v41, finding, as_size_41, as_need_41, as_lifted_41, as_licked_41, as_morning_41, as_tally_41, as_kinds_41, as_places_41, as_lengths_41, as_downs_41, as_covers_41, findings)
      else
        bd3 (fX4_find findings v22) fun v32 finding_32 findings_32 =>
        some (v32, finding_32, as_size, as_need, as_lifted, as_licked, as_morning, as_tally, as_kinds, as_places, as_lengths, as_downs, as_covers, findings_32)
def fX4_fittingKinds_j48 (rec : Int32 → Int32 → Int32 → Int32 → Int32 → Int32 → (Nat → Int32) → (Nat → Int32) → (Nat → Int32) → (Nat → Int32) → (Nat → Int32) → Int32 → Int32 → Option (Int32 × Int32 × Int32 × Int32 × Int32 × Int32 × (Nat → Int32) × (Nat → Int32) × (Nat → Int32) × (Nat → Int32) × (Nat → Int32) × Int32)) (r_items : Nat → Int32) (r_sizes : Nat → Int32) (sl_size : Int32) (sl_need : Int32) (sl_lifted : Int32) (sl_licked : Int32) (sl_morning : Int32) (sl_tally : Int32) (sl_kinds : Nat → Int32) (sl_places : Nat → Int32) (sl_lengths : Nat → Int32) (sl_downs : Nat → Int32) (sl_covers : Nat → Int32) (as_size : Int32) (as_need : Int32) (as_lifted : Int32) (as_licked : Int32) (as_morning : Int32) (as_tally : Int32) (as_kinds : Nat → Int32) (as_places : Nat → Int32) (as_lengths : Nat → Int32) (as_downs : Nat → Int32) (as_covers : Nat → Int32) (x1 : Int32) (x2 : Int32) (x3 : Int32) (x4 : Int32) : Option (Int32 × Int32 × Int32 × Int32 × Int32 × Int32 × (Nat → Int32) × (Nat → Int32) × (Nat → Int32) × (Nat → Int32) × (Nat → Int32) × Int32) :=
  rec as_size as_need as_lifted as_licked as_morning as_tally as_kinds as_places as_lengths as_downs as_covers x3 (x4 + 1)
def fX4_fittingKinds_B5 (r_items : Nat → Int32) (r_sizes : Nat → Int32) (sl_size : Int32) (sl_need : Int32) (sl_lifted : Int32) (sl_licked : Int32) (sl_morning : Int32) (sl_tally : Int32) (sl_kinds : Nat → Int32) (sl_places : Nat → Int32) (sl_lengths : Nat → Int32) (sl_downs : Nat → Int32) (sl_covers : Nat → Int32) (x1 : Int32) (x2 : Int32) (rec : Int32 → Int32 → Int32 → Int32 → Int32 → Int32 → (Nat → Int32) → (Nat → Int32) → (Nat → Int32) → (Nat → Int32) → (Nat → Int32) → Int32 → Int32 → Option (Int32 × Int32 × Int32 × Int32 × Int32 × Int32 × (Nat → Int32) × (Nat → Int32) × (Nat → Int32) × (Nat → Int32) × (Nat → Int32) × Int32)) (as_size : Int32) (as_need : Int32) (as_lifted : Int32) (as_licked : Int32) (as_morning : Int32) (as_tally : Int32) (as_kinds : Nat → Int32) (as_places : Nat → Int32) (as_lengths : Nat → Int32) (as_downs : Nat → Int32) (as_covers : Nat → Int32) (x3 : Int32) (x4 : Int32) : Option (Int32 × Int32 × Int32 × Int32 × Int32 × Int32 × (Nat → Int32) × (Nat → Int32) × (Nat → Int32) × (Nat → Int32) × (Nat → Int32) × Int32) :=
  if 6 ≤ x4 then
    some (as_size, as_need, as_lifted, as_licked, as_morning, as_tally, as_kinds, as_places, as_lengths, as_downs, as_covers, x3)
  else
    bd11 (fX3_take as_kinds as_places as_lengths as_downs as_covers sl_size sl_need sl_lifted sl_licked sl_morning sl_tally sl_kinds sl_places sl_lengths sl_downs sl_covers) fun as_size_20 as_need_20 as_lifted_20 as_licked_20 as_morning_20 as_tally_20 as_kinds_20 as_places_20 as_lengths_20 as_downs_20 as_covers_20 =>
    bd2 (fX3_setKind as_size_20 as_kinds_20 as_places_20 as_lengths_20 as_downs_20 as_covers_20 x1 x4) fun as_kinds_30 as_covers_30 =>
    bd6 (fX4_asideFits r_items r_sizes as_size_20 as_need_20 as_lifted_20 as_licked_20 as_morning_20 as_tally_20 as_kinds_30 as_places_20 as_lengths_20 as_downs_20 as_covers_30 x2) fun v35 as_morning_35 as_tally_35 as_places_35 as_downs_35 as_covers_35 =>
    if v35 = 0 then
      fX4_fittingKinds_j48 rec r_items r_sizes sl_size sl_need sl_lifted sl_licked sl_morning sl_tally sl_kinds sl_places sl_lengths sl_downs sl_covers as_size_20 as_need_20 as_lifted_20 as_licked_20 as_morning_35 as_tally_35 as_kinds_30 as_places_35 as_lengths_20 as_downs_35 as_covers_35 x1 x2 x3 x4
    else
      fX4_fittingKinds_j48 rec r_items r_sizes sl_size sl_need sl_lifted sl_licked sl_morning sl_tally sl_kinds sl_places sl_lengths sl_downs sl_covers as_size_20 as_need_20 as_lifted_20 as_licked_20 as_morning_35 as_tally_35 as_kinds_30 as_places_35 as_lengths_20 as_downs_35 as_covers_35 x1 x2 (x3 ||| ((1 : Int32) <<< (x4 &&& 31))) x4
def fX4_fittingKinds_L5 (r_items : Nat → Int32) (r_sizes : Nat → Int32) (sl_size : Int32) (sl_need : Int32) (sl_lifted : Int32) (sl_licked : Int32) (sl_morning : Int32) (sl_tally : Int32) (sl_kinds : Nat → Int32) (sl_places : Nat → Int32) (sl_lengths : Nat → Int32) (sl_downs : Nat → Int32) (sl_covers : Nat → Int32) (x1 : Int32) (x2 : Int32) : Nat → Int32 → Int32 → Int32 → Int32 → Int32 → Int32 → (Nat → Int32) → (Nat → Int32) → (Nat → Int32) → (Nat → Int32) → (Nat → Int32) → Int32 → Int32 → Option (Int32 × Int32 × Int32 × Int32 × Int32 × Int32 × (Nat → Int32) × (Nat → Int32) × (Nat → Int32) × (Nat → Int32) × (Nat → Int32) × Int32)
  | 0 => fun _ _ _ _ _ _ _ _ _ _ _ _ _ => none
  | n + 1 => fX4_fittingKinds_B5 r_items r_sizes sl_size sl_need sl_lifted sl_licked sl_morning sl_tally sl_kinds sl_places sl_lengths sl_downs sl_covers x1 x2 (fX4_fittingKinds_L5 r_items r_sizes sl_size sl_need sl_lifted sl_licked sl_morning sl_tally sl_kinds sl_places sl_lengths sl_downs sl_covers x1 x2 n)
def fX4_fittingKinds (r_items : Nat → Int32) (r_sizes : Nat → Int32) (sl_size : Int32) (sl_need : Int32) (sl_lifted : Int32) (sl_licked : Int32) (sl_morning : Int32) (sl_tally : Int32) (sl_kinds : Nat → Int32) (sl_places : Nat → Int32) (sl_lengths : Nat → Int32) (sl_downs : Nat → Int32) (sl_covers : Nat → Int32) (as_size : Int32) (as_need : Int32) (as_lifted : Int32) (as_licked : Int32) (as_morning : Int32) (as_tally : Int32) (as_kinds : Nat → Int32) (as_places : Nat → Int32) (as_lengths : Nat → Int32) (as_downs : Nat → Int32) (as_covers : Nat → Int32) (x1 : Int32) (x2 : Int32) : Option (Int32 × Int32 × Int32 × Int32 × Int32 × Int32 × Int32 × (Nat → Int32) × (Nat → Int32) × (Nat → Int32) × (Nat → Int32) × (Nat → Int32)) :=
  bd12 (fX4_fittingKinds_L5 r_items r_sizes sl_size sl_need sl_lifted sl_licked sl_morning sl_tally sl_kinds sl_places sl_lengths sl_downs sl_covers x1 x2 FU as_size as_need as_lifted as_licked as_morning as_tally as_kinds as_places as_lengths as_downs as_covers 0 0) fun as_size_L5 as_need_L5 as_lifted_L5 as_licked_L5 as_morning_L5 as_tally_L5 as_kinds_L5 as_places_L5 as_lengths_L5 as_downs_L5 as_covers_L5 x3_L5 =>
  some (x3_L5, as_size_L5, as_need_L5, as_lifted_L5, as_licked_L5, as_morning_L5, as_tally_L5, as_kinds_L5, as_places_L5, as_lengths_L5, as_downs_L5, as_covers_L5)
def fX4_kinds (finding : Int32) (r_items : Nat → Int32) (r_sizes : Nat → Int32) (sl_size : Int32) (sl_need : Int32) (sl_lifted : Int32) (sl_licked : Int32) (sl_morning : Int32) (sl_tally : Int32) (sl_kinds : Nat → Int32) (sl_places : Nat → Int32) (sl_lengths : Nat → Int32) (sl_downs : Nat → Int32) (sl_covers : Nat → Int32) (as_size : Int32) (as_need : Int32) (as_lifted : Int32) (as_licked : Int32) (as_morning : Int32) (as_tally : Int32) (as_kinds : Nat → Int32) (as_places : Nat → Int32) (as_lengths : Nat → Int32) (as_downs : Nat → Int32) (as_covers : Nat → Int32) (findings : Nat → Int32) (x1 : Int32) (x2 : Int32) : Option (Int32 × Int32 × Int32 × Int32 × Int32 × Int32 × Int32 × Int32 × (Nat → Int32) × (Nat → Int32) × (Nat → Int32) × (Nat → Int32) × (Nat → Int32) × (Nat → Int32)) :=
  bd1 (fX3_has sl_size x1) fun v5 =>
  if v5 = 0 then
    some ((-1), finding, as_size, as_need, as_lifted, as_licked, as_morning, as_tally, as_kinds, as_places, as_lengths, as_downs, as_covers, findings)
  else
    bd1 (fX4_isRow x2) fun v12 =>
    if v12 = 0 then
      some ((-1), finding, as_size, as_need, as_lifted, as_licked, as_morning, as_tally, as_kinds, as_places, as_lengths, as_downs, as_covers, findings)
    else
      bd1 (fX4_flawOfSeen r_items r_sizes x2) fun v22 =>
      if v22 = 0 then
        bd12 (fX4_fittingKinds r_items r_sizes sl_size sl_need sl_lifted sl_licked sl_morning sl_tally sl_kinds sl_places sl_lengths sl_downs sl_covers as_size as_need as_lifted as_licked as_morning as_tally as_kinds as_places as_lengths as_downs as_covers x1 x2) fun v41 as_size_41 as_need_41 as_lifted_41 as_licked_41 as_morning_41 as_tally_41 as_kinds_41 as_places_41 as_lengths_41 as_downs_41 as_covers_41 =>
        some (v41, finding, as_size_41, as_need_41, as_lifted_41, as_licked_41, as_morning_41, as_tally_41, as_kinds_41, as_places_41, as_lengths_41, as_downs_41, as_covers_41, findings)
      else
        bd3 (fX4_find findings v22) fun v32 finding_32 findings_32 =>
        some (v32, finding_32, as_size, as_need, as_lifted, as_licked, as_morning, as_tally, as_kinds, as_places, as_lengths, as_downs, as_covers, findings_32)
def fX4_lineToLookAt_B98 (scratch : Nat → Int32) (x2 : Int32) (x7 : Int32) (rec : Int32 → Int32 → Option Int32) (x8 : Int32) (x9 : Int32) : Option Int32 :=
  if 16 ≤ x9 then
    some x8
  else
    bd1 (fX4_bit x2 x9) fun v110 =>
    bd1 (ald 96 scratch x9) fun v119 =>
    bd1 (fX4_bit v119 x7) fun v122 =>
    rec (x8 + (v110 * v122)) (x9 + 1)
def fX4_lineToLookAt_L98 (scratch : Nat → Int32) (x2 : Int32) (x7 : Int32) : Nat → Int32 → Int32 → Option Int32
  | 0 => fun _ _ => none
  | n + 1 => fX4_lineToLookAt_B98 scratch x2 x7 (fX4_lineToLookAt_L98 scratch x2 x7 n)
def fX4_lineToLookAt_B3 (sl_size : Int32) (sl_need : Int32) (sl_lifted : Int32) (sl_licked : Int32) (sl_morning : Int32) (sl_tally : Int32) (sl_kinds : Nat → Int32) (sl_places : Nat → Int32) (sl_lengths : Nat → Int32) (sl_downs : Nat → Int32) (sl_covers : Nat → Int32) (x1 : Int32) (x3 : Int32) (rec : Int32 → Int32 → Int32 → Int32 → Int32 → Int32 → (Nat → Int32) → (Nat → Int32) → (Nat → Int32) → (Nat → Int32) → (Nat → Int32) → (Nat → Int32) → Int32 → Option (Int32 × Int32 × Int32 × Int32 × Int32 × Int32 × (Nat → Int32) × (Nat → Int32) × (Nat → Int32) × (Nat → Int32) × (Nat → Int32) × (Nat → Int32))) (as_size : Int32) (as_need : Int32) (as_lifted : Int32) (as_licked : Int32) (as_morning : Int32) (as_tally : Int32) (as_kinds : Nat → Int32) (as_places : Nat → Int32) (as_lengths : Nat → Int32) (as_downs : Nat → Int32) (as_covers : Nat → Int32) (scratch : Nat → Int32) (x4 : Int32) : Option (Int32 × Int32 × Int32 × Int32 × Int32 × Int32 × (Nat → Int32) × (Nat → Int32) × (Nat → Int32) × (Nat → Int32) × (Nat → Int32) × (Nat → Int32)) :=
  if 16 ≤ x4 then
    some (as_size, as_need, as_lifted, as_licked, as_morning, as_tally, as_kinds, as_places, as_lengths, as_downs, as_covers, scratch)
  else
    bd11 (fX3_take as_kinds as_places as_lengths as_downs as_covers sl_size sl_need sl_lifted sl_licked sl_morning sl_tally sl_kinds sl_places sl_lengths sl_downs sl_covers) fun as_size_18 as_need_18 as_lifted_18 as_licked_18 as_morning_18 as_tally_18 as_kinds_18 as_places_18 as_lengths_18 as_downs_18 as_covers_18 =>
    bd1 (fX3_downOf sl_size sl_downs x1) fun v33 =>
    bd3 (fX3_settle as_size_18 as_kinds_18 as_places_18 as_lengths_18 as_downs_18 as_covers_18 x1 x4 v33) fun as_places_36 as_downs_36 as_covers_36 =>
    bd5 (fX3_fallTimes as_size_18 as_need_18 as_lifted_18 as_licked_18 as_morning_18 as_tally_18 as_kinds_18 as_places_36 as_lengths_18 as_downs_36 as_covers_36 x3) fun as_morning_44 as_tally_44 as_places_44 as_downs_44 as_covers_44 =>
    bd1 (fX3_linesNow as_size_18 as_need_18 as_lifted_18 as_licked_18 as_covers_44) fun v57 =>
    bd1 (ast 96 scratch x4 v57) fun scratch_60 =>
    rec as_size_18 as_need_18 as_lifted_18 as_licked_18 as_morning_44 as_tally_44 as_kinds_18 as_places_44 as_lengths_18 as_downs_44 as_covers_44 scratch_60 (x4 + 1)
def fX4_lineToLookAt_L3 (sl_size : Int32) (sl_need : Int32) (sl_lifted : Int32) (sl_licked : Int32) (sl_morning : Int32) (sl_tally : Int32) (sl_kinds : Nat → Int32) (sl_places : Nat → Int32) (sl_lengths : Nat → Int32) (sl_downs : Nat → Int32) (sl_covers : Nat → Int32) (x1 : Int32) (x3 : Int32) : Nat → Int32 → Int32 → Int32 → Int32 → Int32 → Int32 → (Nat → Int32) → (Nat → Int32) → (Nat → Int32) → (Nat → Int32) → (Nat → Int32) → (Nat → Int32) → Int32 → Option (Int32 × Int32 × Int32 × Int32 × Int32 × Int32 × (Nat → Int32) × (Nat → Int32) × (Nat → Int32) × (Nat → Int32) × (Nat → Int32) × (Nat → Int32))
  | 0 => fun _ _ _ _ _ _ _ _ _ _ _ _ _ => none
  | n + 1 => fX4_lineToLookAt_B3 sl_size sl_need sl_lifted sl_licked sl_morning sl_tally sl_kinds sl_places sl_lengths sl_downs sl_covers x1 x3 (fX4_lineToLookAt_L3 sl_size sl_need sl_lifted sl_licked sl_morning sl_tally sl_kinds sl_places sl_lengths sl_downs sl_covers x1 x3 n)
def fX4_lineToLookAt_j162 (rec : Int32 → Int32 → Int32 → Option (Int32 × Int32)) (scratch : Nat → Int32) (x2 : Int32) (x4 : Int32) (x5 : Int32) (x6 : Int32) (x7 : Int32) : Option (Int32 × Int32) :=
  rec x5 x6 (x7 + 1)
def fX4_lineToLookAt_B85 (scratch : Nat → Int32) (x2 : Int32) (x4 : Int32) (rec : Int32 → Int32 → Int32 → Option (Int32 × Int32)) (x5 : Int32) (x6 : Int32) (x7 : Int32) : Option (Int32 × Int32) :=
  if 8 ≤ x7 then
    some (x5, x6)
  else
    bd1 (fX4_lineToLookAt_L98 scratch x2 x7 FU 0 0) fun x8_L98 =>
    if x6 ≤ (jmax x8_L98 (x4 - x8_L98)) then
      fX4_lineToLookAt_j162 rec scratch x2 x4 x5 x6 x7
    else
      fX4_lineToLookAt_j162 rec scratch x2 x4 x7 (jmax x8_L98 (x4 - x8_L98)) x7
def fX4_lineToLookAt_L85 (scratch : Nat → Int32) (x2 : Int32) (x4 : Int32) : Nat → Int32 → Int32 → Int32 → Option (Int32 × Int32)
  | 0 => fun _ _ _ => none
  | n + 1 => fX4_lineToLookAt_B85 scratch x2 x4 (fX4_lineToLookAt_L85 scratch x2 x4 n)
def fX4_lineToLookAt (sl_size : Int32) (sl_need : Int32) (sl_lifted : Int32) (sl_licked : Int32) (sl_morning : Int32) (sl_tally : Int32) (sl_kinds : Nat → Int32) (sl_places : Nat → Int32) (sl_lengths : Nat → Int32) (sl_downs : Nat → Int32) (sl_covers : Nat → Int32) (as_size : Int32) (as_need : Int32) (as_lifted : Int32) (as_licked : Int32) (as_morning : Int32) (as_tally : Int32) (as_kinds : Nat → Int32) (as_places : Nat → Int32) (as_lengths : Nat → Int32) (as_downs : Nat → Int32) (as_covers : Nat → Int32) (scratch : Nat → Int32) (x1 : Int32) (x2 : Int32) (x3 : Int32) : Option (Int32 × Int32 × Int32 × Int32 × Int32 × Int32 × Int32 × Int32 × (Nat → Int32) × (Nat → Int32) × (Nat → Int32) × (Nat → Int32) × (Nat → Int32) × (Nat → Int32)) :=
  bd12 (fX4_lineToLookAt_L3 sl_size sl_need sl_lifted sl_licked sl_morning sl_tally sl_kinds sl_places sl_lengths sl_downs sl_covers x1 x3 FU as_size as_need as_lifted as_licked as_morning as_tally as_kinds as_places as_lengths as_downs as_covers scratch 0) fun as_size_L3 as_need_L3 as_lifted_L3 as_licked_L3 as_morning_L3 as_tally_L3 as_kinds_L3 as_places_L3 as_lengths_L3 as_downs_L3 as_covers_L3 scratch_L3 =>
  bd2 (fX4_lineToLookAt_L85 scratch_L3 x2 (bitc x2) FU 0 ((bitc x2) + 1) 0) fun x5_L85 x6_L85 =>
  some (x5_L85, x6_L85, as_size_L3, as_need_L3, as_lifted_L3, as_licked_L3, as_morning_L3, as_tally_L3, as_kinds_L3, as_places_L3, as_lengths_L3, as_downs_L3, as_covers_L3, scratch_L3)
def fX4_next (finding : Int32) (asked : Int32) (r_items : Nat → Int32) (r_sizes : Nat → Int32) (sl_size : Int32) (sl_need : Int32) (sl_lifted : Int32) (sl_licked : Int32) (sl_morning : Int32) (sl_tally : Int32) (sl_kinds : Nat → Int32) (sl_places : Nat → Int32) (sl_lengths : Nat → Int32) (sl_downs : Nat → Int32) (sl_covers : Nat → Int32) (as_size : Int32) (as_need : Int32) (as_lifted : Int32) (as_licked : Int32) (as_morning : Int32) (as_tally : Int32) (as_kinds : Nat → Int32) (as_places : Nat → Int32) (as_lengths : Nat → Int32) (as_downs : Nat → Int32) (as_covers : Nat → Int32) (scratch : Nat → Int32) (findings : Nat → Int32) (x1 : Int32) (x2 : Int32) : Option (Int32 × Int32 × Int32 × Int32 × Int32 × Int32 × Int32 × Int32 × Int32 × (Nat → Int32) × (Nat → Int32) × (Nat → Int32) × (Nat → Int32) × (Nat → Int32) × (Nat → Int32) × (Nat → Int32)) :=
  bd1 (fX3_has sl_size x1) fun v5 =>
  if v5 = 0 then
    some ((-1), finding, asked, as_size, as_need, as_lifted, as_licked, as_morning, as_tally, as_kinds, as_places, as_lengths, as_downs, as_covers, scratch, findings)
  else
    bd1 (fX4_isRow x2) fun v12 =>
    if v12 = 0 then
      some ((-1), finding, asked, as_size, as_need, as_lifted, as_licked, as_morning, as_tally, as_kinds, as_places, as_lengths, as_downs, as_covers, scratch, findings)
    else
      bd1 (fX4_flawOfSeen r_items r_sizes x2) fun v22 =>
      if v22 = 0 then
        bd12 (fX4_fittingPlaces r_items r_sizes sl_size sl_need sl_lifted sl_licked sl_morning sl_tally sl_kinds sl_places sl_lengths sl_downs sl_covers as_size as_need as_lifted as_licked as_morning as_tally as_kinds as_places as_lengths as_downs as_covers x1 x2) fun v39 as_size_39 as_need_39 as_lifted_39 as_licked_39 as_morning_39 as_tally_39 as_kinds_39 as_places_39 as_lengths_39 as_downs_39 as_covers_39 =>
        if v39 = 0 then
          some ((-9), finding, asked, as_size_39, as_need_39, as_lifted_39, as_licked_39, as_morning_39, as_tally_39, as_kinds_39, as_places_39, as_lengths_39, as_downs_39, as_covers_39, scratch, findings)
        else
          bd1 (fX2_sizeOf 6 r_sizes x2) fun v63 =>
          bd14 (fX4_lineToLookAt sl_size sl_need sl_lifted sl_licked sl_morning sl_tally sl_kinds sl_places sl_lengths sl_downs sl_covers as_size_39 as_need_39 as_lifted_39 as_licked_39 as_morning_39 as_tally_39 as_kinds_39 as_places_39 as_lengths_39 as_downs_39 as_covers_39 scratch x1 v39 (v63 + 1)) fun v68 asked_68 as_size_68 as_need_68 as_lifted_68 as_licked_68 as_morning_68 as_tally_68 as_kinds_68 as_places_68 as_lengths_68 as_downs_68 as_covers_68 scratch_68 =>
          some (v68, finding, asked_68, as_size_68, as_need_68, as_lifted_68, as_licked_68, as_morning_68, as_tally_68, as_kinds_68, as_places_68, as_lengths_68, as_downs_68, as_covers_68, scratch_68, findings)
      else
        bd3 (fX4_find findings v22) fun v32 finding_32 findings_32 =>
        some (v32, finding_32, asked, as_size, as_need, as_lifted, as_licked, as_morning, as_tally, as_kinds, as_places, as_lengths, as_downs, as_covers, scratch, findings_32)
def fX4_fitLengthSets_j42 (rec : Int32 → Int32 → Int32 → Int32 → Int32 → Option (Int32 × Int32 × Int32 × Int32)) (sl_size : Int32) (sl_lengths : Nat → Int32) (count : Int32) (least : Int32) (inAll : Int32) (inSome : Int32) (x1 : Int32) (x2 : Int32) (x3 : Int32) : Option (Int32 × Int32 × Int32 × Int32) :=
  rec count least inAll inSome (x3 + 1)
def fX4_fitLengthSets_B17 (sl_size : Int32) (sl_lengths : Nat → Int32) (x1 : Int32) (x2 : Int32) (rec : Int32 → Int32 → Int32 → Int32 → Int32 → Option (Int32 × Int32 × Int32 × Int32)) (count : Int32) (least : Int32) (inAll : Int32) (inSome : Int32) (x3 : Int32) : Option (Int32 × Int32 × Int32 × Int32) :=
  if x2 < x3 then
    some (count, least, inAll, inSome)
  else
    bd1 (fX3_lengthOfAll sl_size sl_lengths x3) fun v27 =>
    if v27 = x1 then
      bd4 (fX1_add count least inAll inSome x3) fun count_39 least_39 inAll_39 inSome_39 =>
      fX4_fitLengthSets_j42 rec sl_size sl_lengths count_39 least_39 inAll_39 inSome_39 x1 x2 x3
    else
      fX4_fitLengthSets_j42 rec sl_size sl_lengths count least inAll inSome x1 x2 x3
def fX4_fitLengthSets_L17 (sl_size : Int32) (sl_lengths : Nat → Int32) (x1 : Int32) (x2 : Int32) : Nat → Int32 → Int32 → Int32 → Int32 → Int32 → Option (Int32 × Int32 × Int32 × Int32)
  | 0 => fun _ _ _ _ _ => none
  | n + 1 => fX4_fitLengthSets_B17 sl_size sl_lengths x1 x2 (fX4_fitLengthSets_L17 sl_size sl_lengths x1 x2 n)
def fX4_fitLengthSets (sl_size : Int32) (sl_lengths : Nat → Int32) (x1 : Int32) : Option (Int32 × Int32 × Int32 × Int32) :=
  bd4 fX1_clear fun count_4 least_4 inAll_4 inSome_4 =>
  bd1 (fX3_allPeels sl_size) fun v11 =>
  bd4 (fX4_fitLengthSets_L17 sl_size sl_lengths x1 v11 FU count_4 least_4 inAll_4 inSome_4 0) fun count_L17 least_L17 inAll_L17 inSome_L17 =>
  some (count_L17, least_L17, inAll_L17, inSome_L17)
def fX4_sets (asked : Int32) (upper : Int64) (lower : Int64) (sl_size : Int32) (sl_lengths : Nat → Int32) (count : Int32) (least : Int32) (inAll : Int32) (inSome : Int32) (x1 : Int32) : Option (Int32 × Int32 × Int64 × Int64 × Int32 × Int32 × Int32 × Int32) :=
  if x1 < 0 then
    some ((-1), asked, upper, lower, count, least, inAll, inSome)
  else
    if x1 ≤ 24 then
      if sl_size = 0 then
        some ((-4), asked, upper, lower, count, least, inAll, inSome)
      else
        bd4 (fX4_fitLengthSets sl_size sl_lengths x1) fun count_27 least_27 inAll_27 inSome_27 =>
        bd2 (fX4_tellChance upper lower (Int32.toInt64 count_27) 1) fun upper_40 lower_40 =>
        bd2 (fX4_tell least_27) fun v51 asked_51 =>
        some (v51, asked_51, upper_40, lower_40, count_27, least_27, inAll_27, inSome_27)
    else
      some ((-1), asked, upper, lower, count, least, inAll, inSome)
def fX4_surely (finding : Int32) (asked : Int32) (sl_size : Int32) (sl_lengths : Nat → Int32) (count : Int32) (least : Int32) (inAll : Int32) (inSome : Int32) (findings : Nat → Int32) (x1 : Int32) : Option (Int32 × Int32 × Int32 × Int32 × Int32 × Int32 × Int32 × (Nat → Int32)) :=
  if x1 < 0 then
    some ((-1), finding, asked, count, least, inAll, inSome, findings)
  else
    if x1 ≤ 24 then
      if sl_size = 0 then
        some ((-4), finding, asked, count, least, inAll, inSome, findings)
      else
        bd4 (fX4_fitLengthSets sl_size sl_lengths x1) fun count_27 least_27 inAll_27 inSome_27 =>
        if count_27 = 0 then
          bd3 (fX4_find findings 4) fun v42 finding_42 findings_42 =>
          some (v42, finding_42, asked, count_27, least_27, inAll_27, inSome_27, findings_42)
        else
          bd1 (fX3_allPeels sl_size) fun v51 =>
          some (inAll_27, finding, (v51 &&& (inSome_27 ^^^ (-1))), count_27, least_27, inAll_27, inSome_27, findings)
    else
      some ((-1), finding, asked, count, least, inAll, inSome, findings)
def fX4_weighLiftedSets_B36 (as_size : Int32) (as_need : Int32) (as_licked : Int32) (as_covers : Nat → Int32) (x1 : Int32) (rec : Int32 → (Nat → Int32) → Int32 → Option (Int32 × (Nat → Int32))) (as_lifted : Int32) (scratch : Nat → Int32) (x2 : Int32) : Option (Int32 × (Nat → Int32)) :=
  if x1 < x2 then
    some (as_lifted, scratch)
  else
    if (Int32.ofNat 96) ≤ x2 then
      some (as_lifted, scratch)
    else
      bd1 (fX3_linesNow as_size as_need x2 as_licked as_covers) fun v67 =>
      bd1 (ast 96 scratch x2 (bitc v67)) fun scratch_73 =>
      rec x2 scratch_73 (x2 + 1)
def fX4_weighLiftedSets_L36 (as_size : Int32) (as_need : Int32) (as_licked : Int32) (as_covers : Nat → Int32) (x1 : Int32) : Nat → Int32 → (Nat → Int32) → Int32 → Option (Int32 × (Nat → Int32))
  | 0 => fun _ _ _ => none
  | n + 1 => fX4_weighLiftedSets_B36 as_size as_need as_licked as_covers x1 (fX4_weighLiftedSets_L36 as_size as_need as_licked as_covers x1 n)
def fX4_weighLiftedSets (sl_size : Int32) (sl_need : Int32) (sl_lifted : Int32) (sl_licked : Int32) (sl_morning : Int32) (sl_tally : Int32) (sl_kinds : Nat → Int32) (sl_places : Nat → Int32) (sl_lengths : Nat → Int32) (sl_downs : Nat → Int32) (sl_covers : Nat → Int32) (as_kinds : Nat → Int32) (as_places : Nat → Int32) (as_lengths : Nat → Int32) (as_downs : Nat → Int32) (as_covers : Nat → Int32) (scratch : Nat → Int32) : Option (Int32 × Int32 × Int32 × Int32 × Int32 × Int32 × (Nat → Int32) × (Nat → Int32) × (Nat → Int32) × (Nat → Int32) × (Nat → Int32) × (Nat → Int32)) :=
  bd11 (fX3_take as_kinds as_places as_lengths as_downs as_covers sl_size sl_need sl_lifted sl_licked sl_morning sl_tally sl_kinds sl_places sl_lengths sl_downs sl_covers) fun as_size_8 as_need_8 as_lifted_8 as_licked_8 as_morning_8 as_tally_8 as_kinds_8 as_places_8 as_lengths_8 as_downs_8 as_covers_8 =>
  bd5 (fX3_fall as_size_8 as_need_8 0 as_licked_8 as_morning_8 as_tally_8 as_kinds_8 as_places_8 as_lengths_8 as_downs_8 as_covers_8) fun as_morning_23 as_tally_23 as_places_23 as_downs_23 as_covers_23 =>
  bd1 (fX3_allPeels as_size_8) fun v30 =>
  bd2 (fX4_weighLiftedSets_L36 as_size_8 as_need_8 as_licked_8 as_covers_23 v30 FU 0 scratch 0) fun as_lifted_L36 scratch_L36 =>
  some (as_size_8, as_need_8, as_lifted_L36, as_licked_8, as_morning_23, as_tally_23, as_kinds_8, as_places_23, as_lengths_8, as_downs_23, as_covers_23, scratch_L36)
def fX4_valueOf (scratch : Nat → Int32) (x1 : Int32) : Option Int32 :=
  bd1 (fX4_isIn x1 (Int32.ofNat 96)) fun v6 =>
  if v6 = 0 then
    some 0
  else
    bd1 (ald 96 scratch x1) fun v17 =>
    some v17
def fX4_donChooses_B24 (sl_size : Int32) (x1 : Int32) (rec : (Nat → Int32) → Int32 → Option (Nat → Int32)) (scratch : Nat → Int32) (x2 : Int32) : Option (Nat → Int32) :=
  if sl_size ≤ x2 then
    some scratch
  else
    bd1 (ald 96 scratch x1) fun v45 =>
    bd1 (fX4_valueOf scratch (x1 &&& (((1 : Int32) <<< (x2 &&& 31)) ^^^ (-1)))) fun v54 =>
    bd1 (ast 96 scratch x1 (jmax v45 v54)) fun scratch_60 =>
    rec scratch_60 (x2 + 1)
def fX4_donChooses_L24 (sl_size : Int32) (x1 : Int32) : Nat → (Nat → Int32) → Int32 → Option (Nat → Int32)
  | 0 => fun _ _ => none
  | n + 1 => fX4_donChooses_B24 sl_size x1 (fX4_donChooses_L24 sl_size x1 n)
def fX4_donChooses_B18 (sl_size : Int32) (rec : (Nat → Int32) → Int32 → Option (Nat → Int32)) (scratch : Nat → Int32) (x1 : Int32) : Option (Nat → Int32) :=
  if x1 < 0 then
    some scratch
  else
    bd1 (fX4_donChooses_L24 sl_size x1 FU scratch 0) fun scratch_L24 =>
    rec scratch_L24 (x1 + (-1))
def fX4_donChooses_L18 (sl_size : Int32) : Nat → (Nat → Int32) → Int32 → Option (Nat → Int32)
  | 0 => fun _ _ => none
  | n + 1 => fX4_donChooses_B18 sl_size (fX4_donChooses_L18 sl_size n)
def fX4_donChooses (sl_size : Int32) (scratch : Nat → Int32) : Option (Nat → Int32) :=
  bd1 (fX3_allPeels sl_size) fun v4 =>
  bd1 (fX4_donChooses_L18 sl_size FU scratch (jmin v4 ((Int32.ofNat 96) - 1))) fun scratch_L18 =>
  some scratch_L18
def fX4_bedmakerChooses_B26 (sl_size : Int32) (x2 : Int32) (rec : (Nat → Int32) → Int32 → Option (Nat → Int32)) (scratch : Nat → Int32) (x3 : Int32) : Option (Nat → Int32) :=
  if sl_size ≤ x3 then
    some scratch
  else
    bd1 (ald 96 scratch x2) fun v47 =>
    bd1 (fX4_valueOf scratch (x2 ||| ((1 : Int32) <<< (x3 &&& 31)))) fun v54 =>
    bd1 (ast 96 scratch x2 (jmin v47 v54)) fun scratch_60 =>
    rec scratch_60 (x3 + 1)
def fX4_bedmakerChooses_L26 (sl_size : Int32) (x2 : Int32) : Nat → (Nat → Int32) → Int32 → Option (Nat → Int32)
  | 0 => fun _ _ => none
  | n + 1 => fX4_bedmakerChooses_B26 sl_size x2 (fX4_bedmakerChooses_L26 sl_size x2 n)
def fX4_bedmakerChooses_B10 (sl_size : Int32) (x1 : Int32) (rec : (Nat → Int32) → Int32 → Option (Nat → Int32)) (scratch : Nat → Int32) (x2 : Int32) : Option (Nat → Int32) :=
  if x1 < x2 then
    some scratch
  else
    if (Int32.ofNat 96) ≤ x2 then
      some scratch
    else
      bd1 (fX4_bedmakerChooses_L26 sl_size x2 FU scratch 0) fun scratch_L26 =>
      rec scratch_L26 (x2 + 1)
def fX4_bedmakerChooses_L10 (sl_size : Int32) (x1 : Int32) : Nat → (Nat → Int32) → Int32 → Option (Nat → Int32)
  | 0 => fun _ _ => none
  | n + 1 => fX4_bedmakerChooses_B10 sl_size x1 (fX4_bedmakerChooses_L10 sl_size x1 n)
def fX4_bedmakerChooses (sl_size : Int32) (scratch : Nat → Int32) : Option (Nat → Int32) :=
  bd1 (fX3_allPeels sl_size) fun v4 =>
  bd1 (fX4_bedmakerChooses_L10 sl_size v4 FU scratch 0) fun scratch_L10 =>
  some scratch_L10
def fX4_duel_B30 (sl_size : Int32) (x1 : Int32) (rec : (Nat → Int32) → Int32 → Option (Nat → Int32)) (scratch : Nat → Int32) (x2 : Int32) : Option (Nat → Int32) :=
  if x1 ≤ x2 then
    some scratch
  else
    if 2 ≤ x2 then
      some scratch
    else
      bd1 (fX4_donChooses sl_size scratch) fun scratch_41 =>
      bd1 (fX4_bedmakerChooses sl_size scratch_41) fun scratch_45 =>
      rec scratch_45 (x2 + 1)
def fX4_duel_L30 (sl_size : Int32) (x1 : Int32) : Nat → (Nat → Int32) → Int32 → Option (Nat → Int32)
  | 0 => fun _ _ => none
  | n + 1 => fX4_duel_B30 sl_size x1 (fX4_duel_L30 sl_size x1 n)
def fX4_duel (asked : Int32) (sl_size : Int32) (sl_need : Int32) (sl_lifted : Int32) (sl_licked : Int32) (sl_morning : Int32) (sl_tally : Int32) (sl_kinds : Nat → Int32) (sl_places : Nat → Int32) (sl_lengths : Nat → Int32) (sl_downs : Nat → Int32) (sl_covers : Nat → Int32) (as_size : Int32) (as_need : Int32) (as_lifted : Int32) (as_licked : Int32) (as_morning : Int32) (as_tally : Int32) (as_kinds : Nat → Int32) (as_places : Nat → Int32) (as_lengths : Nat → Int32) (as_downs : Nat → Int32) (as_covers : Nat → Int32) (scratch : Nat → Int32) (x1 : Int32) : Option (Int32 × Int32 × Int32 × Int32 × Int32 × Int32 × Int32 × Int32 × (Nat → Int32) × (Nat → Int32) × (Nat → Int32) × (Nat → Int32) × (Nat → Int32) × (Nat → Int32)) :=
  if x1 < 0 then
    some ((-1), asked, as_size, as_need, as_lifted, as_licked, as_morning, as_tally, as_kinds, as_places, as_lengths, as_downs, as_covers, scratch)
  else
    if x1 ≤ 2 then
      if sl_size = 0 then
        some ((-4), asked, as_size, as_need, as_lifted, as_licked, as_morning, as_tally, as_kinds, as_places, as_lengths, as_downs, as_covers, scratch)
      else
        bd12 (fX4_weighLiftedSets sl_size sl_need sl_lifted sl_licked sl_morning sl_tally sl_kinds sl_places sl_lengths sl_downs sl_covers as_kinds as_places as_lengths as_downs as_covers scratch) fun as_size_25 as_need_25 as_lifted_25 as_licked_25 as_morning_25 as_tally_25 as_kinds_25 as_places_25 as_lengths_25 as_downs_25 as_covers_25 scratch_25 =>
        bd1 (fX4_duel_L30 sl_size x1 FU scratch_25 0) fun scratch_L30 =>
        bd1 (fX4_valueOf scratch_L30 sl_lifted) fun v63 =>
        bd2 (fX4_tell v63) fun v66 asked_66 =>
        some (v66, asked_66, as_size_25, as_need_25, as_lifted_25, as_licked_25, as_morning_25, as_tally_25, as_kinds_25, as_places_25, as_lengths_25, as_downs_25, as_covers_25, scratch_L30)
    else
      some ((-1), asked, as_size, as_need, as_lifted, as_licked, as_morning, as_tally, as_kinds, as_places, as_lengths, as_downs, as_covers, scratch)
def fX4_chanceOf_j52 (rec : Int64 → Int32 → Option Int64) (sl_size : Int32) (sl_lifted : Int32) (x1 : Int32) (x2 : Int32) (x3 : Int64) (x5 : Int32) : Option Int64 :=
  rec x3 (x5 + 1)
def fX4_chanceOf_j50 (rec : Int64 → Int32 → Option Int64) (sl_size : Int32) (sl_lifted : Int32) (x1 : Int32) (x2 : Int32) (x5 : Int32) (k0 : Int64) (k1 : Int64) : Option Int64 :=
  fX4_chanceOf_j52 rec sl_size sl_lifted x1 x2 (k0 * k1) x5
def fX4_chanceOf_B5 (sl_size : Int32) (sl_lifted : Int32) (x1 : Int32) (x2 : Int32) (rec : Int64 → Int32 → Option Int64) (x3 : Int64) (x5 : Int32) : Option Int64 :=
  if sl_size ≤ x5 then
    some x3
  else
    bd1 (fX3_isLifted sl_lifted x5) fun v23 =>
    if v23 = 0 then
      bd1 (fX4_bit x1 x5) fun v33 =>
      if v33 = 1 then
        fX4_chanceOf_j50 rec sl_size sl_lifted x1 x2 x5 x3 (Int32.toInt64 x2)
      else
        fX4_chanceOf_j50 rec sl_size sl_lifted x1 x2 x5 x3 (Int32.toInt64 (12 - x2))
    else
      fX4_chanceOf_j52 rec sl_size sl_lifted x1 x2 x3 x5
def fX4_chanceOf_L5 (sl_size : Int32) (sl_lifted : Int32) (x1 : Int32) (x2 : Int32) : Nat → Int64 → Int32 → Option Int64
  | 0 => fun _ _ => none
  | n + 1 => fX4_chanceOf_B5 sl_size sl_lifted x1 x2 (fX4_chanceOf_L5 sl_size sl_lifted x1 x2 n)
def fX4_chanceOf (sl_size : Int32) (sl_lifted : Int32) (x1 : Int32) (x2 : Int32) : Option Int64 :=
  bd1 (fX4_chanceOf_L5 sl_size sl_lifted x1 x2 FU 1 0) fun x3_L5 =>
  some x3_L5
def fX4_tellBurnt_j104 (rec : Int32 → Int64 → Int64 → Int32 → Option (Int32 × Int64 × Int64)) (sl_size : Int32) (sl_lifted : Int32) (as_size : Int32) (as_need : Int32) (as_lifted : Int32) (as_licked : Int32) (as_covers : Nat → Int32) (x1 : Int32) (x2 : Int32) (x3 : Int32) (x4 : Int64) (x6 : Int64) (x8 : Int32) : Option (Int32 × Int64 × Int64) :=
  rec as_lifted x4 x6 (x8 + 1)
def fX4_tellBurnt_B28 (sl_size : Int32) (sl_lifted : Int32) (as_size : Int32) (as_need : Int32) (as_licked : Int32) (as_covers : Nat → Int32) (x1 : Int32) (x2 : Int32) (x3 : Int32) (rec : Int32 → Int64 → Int64 → Int32 → Option (Int32 × Int64 × Int64)) (as_lifted : Int32) (x4 : Int64) (x6 : Int64) (x8 : Int32) : Option (Int32 × Int64 × Int64) :=
  if x3 < x8 then
    some (as_lifted, x4, x6)
  else
    if (x8 &&& sl_lifted) = 0 then
      bd1 (fX4_chanceOf sl_size sl_lifted x8 x2) fun v54 =>
      bd1 (fX3_linesNow as_size as_need (sl_lifted ||| x8) as_licked as_covers) fun v84 =>
      fX4_tellBurnt_j104 rec sl_size sl_lifted as_size as_need (sl_lifted ||| x8) as_licked as_covers x1 x2 x3 (x4 + (v54 * (Int32.toInt64 (bitc (v84 &&& x1))))) (x6 + v54) x8
    else
      fX4_tellBurnt_j104 rec sl_size sl_lifted as_size as_need as_lifted as_licked as_covers x1 x2 x3 x4 x6 x8
def fX4_tellBurnt_L28 (sl_size : Int32) (sl_lifted : Int32) (as_size : Int32) (as_need : Int32) (as_licked : Int32) (as_covers : Nat → Int32) (x1 : Int32) (x2 : Int32) (x3 : Int32) : Nat → Int32 → Int64 → Int64 → Int32 → Option (Int32 × Int64 × Int64)
  | 0 => fun _ _ _ _ => none
  | n + 1 => fX4_tellBurnt_B28 sl_size sl_lifted as_size as_need as_licked as_covers x1 x2 x3 (fX4_tellBurnt_L28 sl_size sl_lifted as_size as_need as_licked as_covers x1 x2 x3 n)
def fX4_tellBurnt (upper : Int64) (lower : Int64) (sl_size : Int32) (sl_need : Int32) (sl_lifted : Int32) (sl_licked : Int32) (sl_morning : Int32) (sl_tally : Int32) (sl_kinds : Nat → Int32) (sl_places : Nat → Int32) (sl_lengths : Nat → Int32) (sl_downs : Nat → Int32) (sl_covers : Nat → Int32) (as_kinds : Nat → Int32) (as_places : Nat → Int32) (as_lengths : Nat → Int32) (as_downs : Nat → Int32) (as_covers : Nat → Int32) (x1 : Int32) (x2 : Int32) : Option (Int64 × Int64 × Int32 × Int32 × Int32 × Int32 × Int32 × Int32 × (Nat → Int32) × (Nat → Int32) × (Nat → Int32) × (Nat → Int32) × (Nat → Int32)) :=
  bd11 (fX3_take as_kinds as_places as_lengths as_downs as_covers sl_size sl_need sl_lifted sl_licked sl_morning sl_tally sl_kinds sl_places sl_lengths sl_downs sl_covers) fun as_size_8 as_need_8 as_lifted_8 as_licked_8 as_morning_8 as_tally_8 as_kinds_8 as_places_8 as_lengths_8 as_downs_8 as_covers_8 =>
  bd1 (fX3_allPeels sl_size) fun v15 =>
  bd3 (fX4_tellBurnt_L28 sl_size sl_lifted as_size_8 as_need_8 as_licked_8 as_covers_8 x1 x2 v15 FU as_lifted_8 0 0 0) fun as_lifted_L28 x4_L28 x6_L28 =>
  bd2 (fX4_tellChance upper lower x4_L28 x6_L28) fun upper_115 lower_115 =>
  some (upper_115, lower_115, as_size_8, as_need_8, as_lifted_L28, as_licked_8, as_morning_8, as_tally_8, as_kinds_8, as_places_8, as_lengths_8, as_downs_8, as_covers_8)
def fX4_odds (upper : Int64) (lower : Int64) (sl_size : Int32) (sl_need : Int32) (sl_lifted : Int32) (sl_licked : Int32) (sl_morning : Int32) (sl_tally : Int32) (sl_kinds : Nat → Int32) (sl_places : Nat → Int32) (sl_lengths : Nat → Int32) (sl_downs : Nat → Int32) (sl_covers : Nat → Int32) (as_size : Int32) (as_need : Int32) (as_lifted : Int32) (as_licked : Int32) (as_morning : Int32) (as_tally : Int32) (as_kinds : Nat → Int32) (as_places : Nat → Int32) (as_lengths : Nat → Int32) (as_downs : Nat → Int32) (as_covers : Nat → Int32) (x1 : Int32) (x2 : Int32) : Option (Int32 × Int64 × Int64 × Int32 × Int32 × Int32 × Int32 × Int32 × Int32 × (Nat → Int32) × (Nat → Int32) × (Nat → Int32) × (Nat → Int32) × (Nat → Int32)) :=
  bd1 (fX4_isIn x1 8) fun v3 =>
  if v3 = 0 then
    some ((-1), upper, lower, as_size, as_need, as_lifted, as_licked, as_morning, as_tally, as_kinds, as_places, as_lengths, as_downs, as_covers)
  else
    if x2 < 0 then
      some ((-1), upper, lower, as_size, as_need, as_lifted, as_licked, as_morning, as_tally, as_kinds, as_places, as_lengths, as_downs, as_covers)
    else
      if x2 ≤ 12 then
        if sl_size = 0 then
          some ((-4), upper, lower, as_size, as_need, as_lifted, as_licked, as_morning, as_tally, as_kinds, as_places, as_lengths, as_downs, as_covers)
        else
          bd13 (fX4_tellBurnt upper lower sl_size sl_need sl_lifted sl_licked sl_morning sl_tally sl_kinds sl_places sl_lengths sl_downs sl_covers as_kinds as_places as_lengths as_downs as_covers ((1 : Int32) <<< (x1 &&& 31)) x2) fun upper_39 lower_39 as_size_39 as_need_39 as_lifted_39 as_licked_39 as_morning_39 as_tally_39 as_kinds_39 as_places_39 as_lengths_39 as_downs_39 as_covers_39 =>
          some (1, upper_39, lower_39, as_size_39, as_need_39, as_lifted_39, as_licked_39, as_morning_39, as_tally_39, as_kinds_39, as_places_39, as_lengths_39, as_downs_39, as_covers_39)
      else
        some ((-1), upper, lower, as_size, as_need, as_lifted, as_licked, as_morning, as_tally, as_kinds, as_places, as_lengths, as_downs, as_covers)
def fX4_mid (upper : Int64) (lower : Int64) (sl_size : Int32) (sl_need : Int32) (sl_lifted : Int32) (sl_licked : Int32) (sl_morning : Int32) (sl_tally : Int32) (sl_kinds : Nat → Int32) (sl_places : Nat → Int32) (sl_lengths : Nat → Int32) (sl_downs : Nat → Int32) (sl_covers : Nat → Int32) (as_size : Int32) (as_need : Int32) (as_lifted : Int32) (as_licked : Int32) (as_morning : Int32) (as_tally : Int32) (as_kinds : Nat → Int32) (as_places : Nat → Int32) (as_lengths : Nat → Int32) (as_downs : Nat → Int32) (as_covers : Nat → Int32) (x1 : Int32) : Option (Int32 × Int64 × Int64 × Int32 × Int32 × Int32 × Int32 × Int32 × Int32 × (Nat → Int32) × (Nat → Int32) × (Nat → Int32) × (Nat → Int32) × (Nat → Int32)) :=
  if x1 < 0 then
    some ((-1), upper, lower, as_size, as_need, as_lifted, as_licked, as_morning, as_tally, as_kinds, as_places, as_lengths, as_downs, as_covers)
  else
    if x1 ≤ 12 then
      if sl_size = 0 then
        some ((-4), upper, lower, as_size, as_need, as_lifted, as_licked, as_morning, as_tally, as_kinds, as_places, as_lengths, as_downs, as_covers)
      else
        bd13 (fX4_tellBurnt upper lower sl_size sl_need sl_lifted sl_licked sl_morning sl_tally sl_kinds sl_places sl_lengths sl_downs sl_covers as_kinds as_places as_lengths as_downs as_covers 255 x1) fun upper_30 lower_30 as_size_30 as_need_30 as_lifted_30 as_licked_30 as_morning_30 as_tally_30 as_kinds_30 as_places_30 as_lengths_30 as_downs_30 as_covers_30 =>
        some (1, upper_30, lower_30, as_size_30, as_need_30, as_lifted_30, as_licked_30, as_morning_30, as_tally_30, as_kinds_30, as_places_30, as_lengths_30, as_downs_30, as_covers_30)
    else
      some ((-1), upper, lower, as_size, as_need, as_lifted, as_licked, as_morning, as_tally, as_kinds, as_places, as_lengths, as_downs, as_covers)
def fX4_deedByLot  (x0 : Int32) : Option Int32 :=
  if ((x0 / 8) - (x0 / 8) / 8 * 8) = 4 then
    some 1
  else
  if ((x0 / 8) - (x0 / 8) / 8 * 8) = 5 then
    some 2
  else
  if ((x0 / 8) - (x0 / 8) / 8 * 8) = 6 then
    some 3
  else
  if ((x0 / 8) - (x0 / 8) / 8 * 8) = 7 then
    some 4
  else
  some 0
def fX4_lots_B55 (sl_size : Int32) (sl_need : Int32) (sl_kinds : Nat → Int32) (sl_lengths : Nat → Int32) (x1 : Int32) (rec : (Nat → Int32) → (Nat → Int32) → Int32 → Int32 → Int32 → Int32 → (Nat → Int32) → (Nat → Int32) → (Nat → Int32) → Int64 → Int32 → Option ((Nat → Int32) × (Nat → Int32) × Int32 × Int32 × Int32 × Int32 × (Nat → Int32) × (Nat → Int32) × (Nat → Int32))) (d_items : Nat → Int32) (d_sizes : Nat → Int32) (sl_lifted : Int32) (sl_licked : Int32) (sl_morning : Int32) (sl_tally : Int32) (sl_places : Nat → Int32) (sl_downs : Nat → Int32) (sl_covers : Nat → Int32) (x3 : Int64) (x5 : Int32) : Option ((Nat → Int32) × (Nat → Int32) × Int32 × Int32 × Int32 × Int32 × (Nat → Int32) × (Nat → Int32) × (Nat → Int32)) :=
  if x1 ≤ x5 then
    some (d_items, d_sizes, sl_lifted, sl_licked, sl_morning, sl_tally, sl_places, sl_downs, sl_covers)
  else
    if 20 ≤ x5 then
      some (d_items, d_sizes, sl_lifted, sl_licked, sl_morning, sl_tally, sl_places, sl_downs, sl_covers)
    else
      bd1 (fX4_deedByLot (Int64.toInt32 ((x3 * 48271) - (x3 * 48271) / 2147483647 * 2147483647))) fun v81 =>
      if (Int32.toInt64 sl_size) = 0 then none else
      bd9 (fX4_act d_items d_sizes sl_size sl_need sl_lifted sl_licked sl_morning sl_tally sl_kinds sl_places sl_lengths sl_downs sl_covers v81 (Int64.toInt32 (((x3 * 48271) - (x3 * 48271) / 2147483647 * 2147483647) - ((x3 * 48271) - (x3 * 48271) / 2147483647 * 2147483647) / (Int32.toInt64 sl_size) * (Int32.toInt64 sl_size))) (Int64.toInt32 ((((x3 * 48271) - (x3 * 48271) / 2147483647 * 2147483647) / 64) - (((x3 * 48271) - (x3 * 48271) / 2147483647 * 2147483647) / 64) / 16 * 16))) fun d_items_105 d_sizes_105 sl_lifted_105 sl_licked_105 sl_morning_105 sl_tally_105 sl_places_105 sl_downs_105 sl_covers_105 =>
      rec d_items_105 d_sizes_105 sl_lifted_105 sl_licked_105 sl_morning_105 sl_tally_105 sl_places_105 sl_downs_105 sl_covers_105 ((x3 * 48271) - (x3 * 48271) / 2147483647 * 2147483647) (x5 + 1)
def fX4_lots_L55 (sl_size : Int32) (sl_need : Int32) (sl_kinds : Nat → Int32) (sl_lengths : Nat → Int32) (x1 : Int32) : Nat → (Nat → Int32) → (Nat → Int32) → Int32 → Int32 → Int32 → Int32 → (Nat → Int32) → (Nat → Int32) → (Nat → Int32) → Int64 → Int32 → Option ((Nat → Int32) × (Nat → Int32) × Int32 × Int32 × Int32 × Int32 × (Nat → Int32) × (Nat → Int32) × (Nat → Int32))
  | 0 => fun _ _ _ _ _ _ _ _ _ _ _ => none
  | n + 1 => fX4_lots_B55 sl_size sl_need sl_kinds sl_lengths x1 (fX4_lots_L55 sl_size sl_need sl_kinds sl_lengths x1 n)
def fX4_lots (d_items : Nat → Int32) (d_sizes : Nat → Int32) (sl_size : Int32) (sl_need : Int32) (sl_lifted : Int32) (sl_licked : Int32) (sl_morning : Int32) (sl_tally : Int32) (sl_kinds : Nat → Int32) (sl_places : Nat → Int32) (sl_lengths : Nat → Int32) (sl_downs : Nat → Int32) (sl_covers : Nat → Int32) (x1 : Int32) (x2 : Int32) : Option (Int32 × (Nat → Int32) × (Nat → Int32) × Int32 × Int32 × Int32 × Int32 × (Nat → Int32) × (Nat → Int32) × (Nat → Int32)) :=
  if x1 < 1 then
    some ((-1), d_items, d_sizes, sl_lifted, sl_licked, sl_morning, sl_tally, sl_places, sl_downs, sl_covers)
  else
    if 20 < x1 then
      some ((-1), d_items, d_sizes, sl_lifted, sl_licked, sl_morning, sl_tally, sl_places, sl_downs, sl_covers)
    else
      if x2 < 1 then
        some ((-1), d_items, d_sizes, sl_lifted, sl_licked, sl_morning, sl_tally, sl_places, sl_downs, sl_covers)
      else
        if x2 < 2147483647 then
          if sl_size = 0 then
            some ((-4), d_items, d_sizes, sl_lifted, sl_licked, sl_morning, sl_tally, sl_places, sl_downs, sl_covers)
          else
            bd1 (fX4_hasRoom d_sizes x1) fun v40 =>
            if v40 = 0 then
              some ((-2), d_items, d_sizes, sl_lifted, sl_licked, sl_morning, sl_tally, sl_places, sl_downs, sl_covers)
            else
              bd9 (fX4_lots_L55 sl_size sl_need sl_kinds sl_lengths x1 FU d_items d_sizes sl_lifted sl_licked sl_morning sl_tally sl_places sl_downs sl_covers (Int32.toInt64 x2) 0) fun d_items_L55 d_sizes_L55 sl_lifted_L55 sl_licked_L55 sl_morning_L55 sl_tally_L55 sl_places_L55 sl_downs_L55 sl_covers_L55 =>
              some (sl_tally_L55, d_items_L55, d_sizes_L55, sl_lifted_L55, sl_licked_L55, sl_morning_L55, sl_tally_L55, sl_places_L55, sl_downs_L55, sl_covers_L55)
        else
          some ((-1), d_items, d_sizes, sl_lifted, sl_licked, sl_morning, sl_tally, sl_places, sl_downs, sl_covers)
def fX4_asked (asked : Int32) : Option Int32 :=
  some asked
def fX4_upper (upper : Int64) : Option Int64 :=
  some upper
def fX4_lower (lower : Int64) : Option Int64 :=
  some lower
def fX4_count (r_sizes : Nat → Int32) (t_sizes : Nat → Int32) (d_sizes : Nat → Int32) (sl_size : Int32) (sl_need : Int32) (sl_lifted : Int32) (sl_licked : Int32) (sl_morning : Int32) (sl_tally : Int32) (sl_kinds : Nat → Int32) (sl_covers : Nat → Int32) (x1 : Int32) : Option Int32 :=
  if x1 = 0 then
    some sl_size
  else
  if x1 = 1 then
    some sl_need
  else
  if x1 = 2 then
    some sl_morning
  else
  if x1 = 3 then
    bd1 (fX2_sizeOf 4 d_sizes 3) fun v101 =>
    some v101
  else
  if x1 = 4 then
    some sl_tally
  else
  if x1 = 5 then
    some sl_lifted
  else
  if x1 = 6 then
    some sl_licked
  else
  if x1 = 7 then
    bd1 (fX3_linesNow sl_size sl_need sl_lifted sl_licked sl_covers) fun v133 =>
    some v133
  else
  if x1 = 8 then
    bd1 (fX3_coveredNow sl_size sl_lifted sl_licked sl_covers) fun v141 =>
    some (bitc v141)
  else
  if x1 = 9 then
    bd1 (fX3_amountOf sl_size sl_kinds 1) fun v153 =>
    some v153
  else
  if x1 = 10 then
    bd1 (fX3_amountOf sl_size sl_kinds 2) fun v162 =>
    some v162
  else
  if x1 = 11 then
    bd1 (fX2_amount 6 r_sizes) fun v170 =>
    some v170
  else
  if x1 = 12 then
    bd1 (fX2_amount 4 t_sizes) fun v178 =>
    some v178
  else
  if x1 = 13 then
    bd1 (fX2_amount 4 d_sizes) fun v186 =>
    some (v186 - 1)
  else
  some (-1)
def fX4_finding (finding : Int32) : Option Int32 :=
  some finding
def fX4_findings_j10  : Option Int32 :=
  some (-1)
def fX4_findings (findings : Nat → Int32) (x1 : Int32) : Option Int32 :=
  if x1 < 1 then
    fX4_findings_j10
  else
    if x1 ≤ 5 then
      bd1 (ald 6 findings x1) fun v19 =>
      some v19
    else
      fX4_findings_j10
def fX4_digest_B6 (r_sizes : Nat → Int32) (t_sizes : Nat → Int32) (d_sizes : Nat → Int32) (sl_size : Int32) (sl_need : Int32) (sl_lifted : Int32) (sl_licked : Int32) (sl_morning : Int32) (sl_tally : Int32) (sl_kinds : Nat → Int32) (sl_covers : Nat → Int32) (rec : Int64 → Int32 → Option Int64) (x1 : Int64) (x3 : Int32) : Option Int64 :=
  if 14 ≤ x3 then
    some x1
  else
    bd1 (fX4_count r_sizes t_sizes d_sizes sl_size sl_need sl_lifted sl_licked sl_morning sl_tally sl_kinds sl_covers x3) fun v19 =>
    rec ((31 * x1) + (Int32.toInt64 v19)) (x3 + 1)
def fX4_digest_L6 (r_sizes : Nat → Int32) (t_sizes : Nat → Int32) (d_sizes : Nat → Int32) (sl_size : Int32) (sl_need : Int32) (sl_lifted : Int32) (sl_licked : Int32) (sl_morning : Int32) (sl_tally : Int32) (sl_kinds : Nat → Int32) (sl_covers : Nat → Int32) : Nat → Int64 → Int32 → Option Int64
  | 0 => fun _ _ => none
  | n + 1 => fX4_digest_B6 r_sizes t_sizes d_sizes sl_size sl_need sl_lifted sl_licked sl_morning sl_tally sl_kinds sl_covers (fX4_digest_L6 r_sizes t_sizes d_sizes sl_size sl_need sl_lifted sl_licked sl_morning sl_tally sl_kinds sl_covers n)
def fX4_digest_B86 (d_sizes : Nat → Int32) (rec : Int64 → Int32 → Option Int64) (x1 : Int64) (x3 : Int32) : Option Int64 :=
  if 3 ≤ x3 then
    some x1
  else
    bd1 (fX2_sizeOf 4 d_sizes x3) fun v101 =>
    rec ((31 * x1) + (Int32.toInt64 v101)) (x3 + 1)
def fX4_digest_L86 (d_sizes : Nat → Int32) : Nat → Int64 → Int32 → Option Int64
  | 0 => fun _ _ => none
  | n + 1 => fX4_digest_B86 d_sizes (fX4_digest_L86 d_sizes n)
def fX4_digest_B47 (sl_size : Int32) (sl_lifted : Int32) (sl_kinds : Nat → Int32) (sl_places : Nat → Int32) (sl_lengths : Nat → Int32) (sl_downs : Nat → Int32) (sl_covers : Nat → Int32) (x3 : Int32) (rec : Int64 → Int32 → Option Int64) (x1 : Int64) (x4 : Int32) : Option Int64 :=
  if 7 ≤ x4 then
    some x1
  else
    bd1 (fX3_trait sl_size sl_lifted sl_kinds sl_places sl_lengths sl_downs sl_covers x3 x4) fun v66 =>
    rec ((31 * x1) + (Int32.toInt64 v66)) (x4 + 1)
def fX4_digest_L47 (sl_size : Int32) (sl_lifted : Int32) (sl_kinds : Nat → Int32) (sl_places : Nat → Int32) (sl_lengths : Nat → Int32) (sl_downs : Nat → Int32) (sl_covers : Nat → Int32) (x3 : Int32) : Nat → Int64 → Int32 → Option Int64
  | 0 => fun _ _ => none
  | n + 1 => fX4_digest_B47 sl_size sl_lifted sl_kinds sl_places sl_lengths sl_downs sl_covers x3 (fX4_digest_L47 sl_size sl_lifted sl_kinds sl_places sl_lengths sl_downs sl_covers x3 n)
def fX4_digest_B33 (sl_size : Int32) (sl_lifted : Int32) (sl_kinds : Nat → Int32) (sl_places : Nat → Int32) (sl_lengths : Nat → Int32) (sl_downs : Nat → Int32) (sl_covers : Nat → Int32) (rec : Int64 → Int32 → Option Int64) (x1 : Int64) (x3 : Int32) : Option Int64 :=
  if sl_size ≤ x3 then
    some x1
  else
    bd1 (fX4_digest_L47 sl_size sl_lifted sl_kinds sl_places sl_lengths sl_downs sl_covers x3 FU x1 0) fun x1_L47 =>
    rec x1_L47 (x3 + 1)
def fX4_digest_L33 (sl_size : Int32) (sl_lifted : Int32) (sl_kinds : Nat → Int32) (sl_places : Nat → Int32) (sl_lengths : Nat → Int32) (sl_downs : Nat → Int32) (sl_covers : Nat → Int32) : Nat → Int64 → Int32 → Option Int64
  | 0 => fun _ _ => none
  | n + 1 => fX4_digest_B33 sl_size sl_lifted sl_kinds sl_places sl_lengths sl_downs sl_covers (fX4_digest_L33 sl_size sl_lifted sl_kinds sl_places sl_lengths sl_downs sl_covers n)
def fX4_digest (r_items : Nat → Int32) (r_sizes : Nat → Int32) (t_items : Nat → Int32) (t_sizes : Nat → Int32) (d_sizes : Nat → Int32) (sl_size : Int32) (sl_need : Int32) (sl_lifted : Int32) (sl_licked : Int32) (sl_morning : Int32) (sl_tally : Int32) (sl_kinds : Nat → Int32) (sl_places : Nat → Int32) (sl_lengths : Nat → Int32) (sl_downs : Nat → Int32) (sl_covers : Nat → Int32) : Option Int64 :=
  bd1 (fX4_digest_L6 r_sizes t_sizes d_sizes sl_size sl_need sl_lifted sl_licked sl_morning sl_tally sl_kinds sl_covers FU 17 0) fun x1_L6 =>
  bd1 (fX4_digest_L33 sl_size sl_lifted sl_kinds sl_places sl_lengths sl_downs sl_covers FU x1_L6 0) fun x1_L33 =>
  bd1 (fX4_digest_L86 d_sizes FU x1_L33 0) fun x1_L86 =>
  bd1 (fX2_addTo 240 6 40 r_items r_sizes x1_L86) fun v122 =>
  bd1 (fX2_addTo 240 4 60 t_items t_sizes v122) fun v125 =>
  some v125
