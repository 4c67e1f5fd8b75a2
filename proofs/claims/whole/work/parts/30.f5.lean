/-! ===== printed by wip/whole/gen.py: pure functions of PeelReadingsModel ===== -/
def fX5_in0  (x0 : Int32) (x1 : Int32) (x2 : Int32) : Option Int32 :=
  if x0 < x1 then
    some 0
  else
    if x2 < x0 then
      some 0
    else
      some 1
def fX5_has  (x0 : Int32) (x1 : Int32) : Option Int32 :=
  if ((x0 >>> (x1 &&& 31)) &&& 1) = 1 then
    some 1
  else
    some 0
def fX5_ones_B4 (x0 : Int32) (rec : Int32 → Int32 → Option Int32) (x1 : Int32) (x2 : Int32) : Option Int32 :=
  if 16 ≤ x2 then
    some x1
  else
    rec (x1 + ((x0 >>> (x2 &&& 31)) &&& 1)) (x2 + 1)
def fX5_ones_L4 (x0 : Int32) : Nat → Int32 → Int32 → Option Int32
  | 0 => fun _ _ => none
  | n + 1 => fX5_ones_B4 x0 (fX5_ones_L4 x0 n)
def fX5_ones  (x0 : Int32) : Option Int32 :=
  bd1 (fX5_ones_L4 x0 FU 0 0) fun x1_L4 =>
  some x1_L4
def fX5_found0 (findings : Nat → Int32) (x1 : Int32) : Option (Int32 × Int32 × (Nat → Int32)) :=
  bd1 (ald 6 findings x1) fun v11 =>
  bd1 (ast 6 findings x1 (v11 + 1)) fun findings_14 =>
  some ((-3), x1, findings_14)
def fX5_tells  (x1 : Int32) : Option (Int32 × Int32) :=
  some (1, x1)
def fX5_isRow  (x0 : Int32) : Option Int32 :=
  bd1 (fX5_in0 x0 0 5) fun v3 =>
  if v3 &&& 1 = v3 then some v3 else none
def fX5_isText  (x0 : Int32) : Option Int32 :=
  bd1 (fX5_in0 x0 0 3) fun v3 =>
  if v3 &&& 1 = v3 then some v3 else none
def fX5_row_B34 (x1 : Int32) (rec : (Nat → Int32) → Int32 → Option (Nat → Int32)) (rows : Nat → Int32) (x3 : Int32) : Option (Nat → Int32) :=
  if 40 ≤ x3 then
    some rows
  else
    bd1 (ast 240 rows ((40 * x1) + x3) 0) fun rows_51 =>
    rec rows_51 (x3 + 1)
def fX5_row_L34 (x1 : Int32) : Nat → (Nat → Int32) → Int32 → Option (Nat → Int32)
  | 0 => fun _ _ => none
  | n + 1 => fX5_row_B34 x1 (fX5_row_L34 x1 n)
def fX5_row (finding : Int32) (rowSize : Nat → Int32) (rows : Nat → Int32) (findings : Nat → Int32) (x1 : Int32) (x2 : Int32) : Option (Int32 × Int32 × (Nat → Int32) × (Nat → Int32) × (Nat → Int32)) :=
  bd1 (fX5_isRow x1) fun v1 =>
  if v1 = 0 then
    some ((-1), finding, rowSize, rows, findings)
  else
    if x2 ≤ 40 then
      if 0 ≤ x2 then
        bd1 (ast 6 rowSize x1 x2) fun rowSize_31 =>
        bd1 (fX5_row_L34 x1 FU rows 0) fun rows_L34 =>
        some (x2, finding, rowSize_31, rows_L34, findings)
      else
        bd3 (fX5_found0 findings 5) fun v21 finding_21 findings_21 =>
        some (v21, finding_21, rowSize, rows, findings_21)
    else
      some ((-1), finding, rowSize, rows, findings)
def fX5_lay (finding : Int32) (asked : Int32) (rowSize : Nat → Int32) (rows : Nat → Int32) (findings : Nat → Int32) (x1 : Int32) (x2 : Int32) (x3 : Int32) : Option (Int32 × Int32 × Int32 × (Nat → Int32) × (Nat → Int32)) :=
  bd1 (fX5_isRow x1) fun v1 =>
  if v1 = 0 then
    some ((-1), finding, asked, rows, findings)
  else
    bd1 (ald 6 rowSize x1) fun v14 =>
    if v14 = (-9) then
      bd3 (fX5_found0 findings 1) fun v22 finding_22 findings_22 =>
      some (v22, finding_22, asked, rows, findings_22)
    else
      bd1 (ald 6 rowSize x1) fun v33 =>
      bd1 (fX5_in0 x2 0 (v33 - 1)) fun v36 =>
      if v36 = 0 then
        bd3 (fX5_found0 findings 2) fun v44 finding_44 findings_44 =>
        some (v44, finding_44, asked, rows, findings_44)
      else
        bd1 (ald 240 rows ((40 * x1) + x2)) fun v58 =>
        bd1 (ast 240 rows ((40 * x1) + x2) x3) fun rows_72 =>
        bd2 (fX5_tells v58) fun v76 asked_76 =>
        some (v76, finding, asked_76, rows_72, findings)
def fX5_at (finding : Int32) (asked : Int32) (rowSize : Nat → Int32) (rows : Nat → Int32) (findings : Nat → Int32) (x1 : Int32) (x2 : Int32) : Option (Int32 × Int32 × Int32 × (Nat → Int32)) :=
  bd1 (fX5_isRow x1) fun v1 =>
  if v1 = 0 then
    some ((-1), finding, asked, findings)
  else
    bd1 (ald 6 rowSize x1) fun v14 =>
    if v14 = (-9) then
      bd3 (fX5_found0 findings 1) fun v22 finding_22 findings_22 =>
      some (v22, finding_22, asked, findings_22)
    else
      bd1 (ald 6 rowSize x1) fun v33 =>
      bd1 (fX5_in0 x2 0 (v33 - 1)) fun v36 =>
      if v36 = 0 then
        bd3 (fX5_found0 findings 2) fun v44 finding_44 findings_44 =>
        some (v44, finding_44, asked, findings_44)
      else
        bd1 (ald 240 rows ((40 * x1) + x2)) fun v59 =>
        bd2 (fX5_tells v59) fun v60 asked_60 =>
        some (v60, finding, asked_60, findings)
def fX5_tear (finding : Int32) (rowSize : Nat → Int32) (findings : Nat → Int32) (x1 : Int32) : Option (Int32 × Int32 × (Nat → Int32) × (Nat → Int32)) :=
  bd1 (fX5_isRow x1) fun v1 =>
  if v1 = 0 then
    some ((-1), finding, rowSize, findings)
  else
    bd1 (ald 6 rowSize x1) fun v14 =>
    if v14 = (-9) then
      bd3 (fX5_found0 findings 1) fun v22 finding_22 findings_22 =>
      some (v22, finding_22, rowSize, findings_22)
    else
      bd1 (ast 6 rowSize x1 (-9)) fun rowSize_33 =>
      some (1, finding, rowSize_33, findings)
def fX5_hasPart (rowSize : Nat → Int32) (x1 : Int32) (x2 : Int32) (x3 : Int32) : Option Int32 :=
  bd1 (ald 6 rowSize x1) fun v7 =>
  bd1 (fX5_in0 x2 0 v7) fun v8 =>
  if v8 = 0 then
    some 0
  else
    bd1 (ald 6 rowSize x1) fun v20 =>
    if (v20 - x2) < x3 then
      some 0
    else
      some 1
def fX5_copy_B87 (rows : Nat → Int32) (x1 : Int32) (x2 : Int32) (x5 : Int32) (rec : (Nat → Int32) → Int32 → Option (Nat → Int32)) (spare : Nat → Int32) (x6 : Int32) : Option (Nat → Int32) :=
  if x5 ≤ x6 then
    some spare
  else
    bd1 (ald 240 rows (((40 * x1) + x2) + x6)) fun v113 =>
    bd1 (ast 40 spare x6 v113) fun spare_114 =>
    rec spare_114 (x6 + 1)
def fX5_copy_L87 (rows : Nat → Int32) (x1 : Int32) (x2 : Int32) (x5 : Int32) : Nat → (Nat → Int32) → Int32 → Option (Nat → Int32)
  | 0 => fun _ _ => none
  | n + 1 => fX5_copy_B87 rows x1 x2 x5 (fX5_copy_L87 rows x1 x2 x5 n)
def fX5_copy_B124 (spare : Nat → Int32) (x3 : Int32) (x4 : Int32) (x5 : Int32) (rec : (Nat → Int32) → Int32 → Option (Nat → Int32)) (rows : Nat → Int32) (x6 : Int32) : Option (Nat → Int32) :=
  if x5 ≤ x6 then
    some rows
  else
    bd1 (ald 40 spare x6) fun v151 =>
    bd1 (ast 240 rows (((40 * x3) + x4) + x6) v151) fun rows_152 =>
    rec rows_152 (x6 + 1)
def fX5_copy_L124 (spare : Nat → Int32) (x3 : Int32) (x4 : Int32) (x5 : Int32) : Nat → (Nat → Int32) → Int32 → Option (Nat → Int32)
  | 0 => fun _ _ => none
  | n + 1 => fX5_copy_B124 spare x3 x4 x5 (fX5_copy_L124 spare x3 x4 x5 n)
def fX5_copy_j78 (rows : Nat → Int32) (spare : Nat → Int32) (findings : Nat → Int32) : Option (Int32 × Int32 × (Nat → Int32) × (Nat → Int32) × (Nat → Int32)) :=
  bd3 (fX5_found0 findings 2) fun v80 finding_80 findings_80 =>
  some (v80, finding_80, rows, spare, findings_80)
def fX5_copy_j49 (rows : Nat → Int32) (spare : Nat → Int32) (findings : Nat → Int32) : Option (Int32 × Int32 × (Nat → Int32) × (Nat → Int32) × (Nat → Int32)) :=
  bd3 (fX5_found0 findings 1) fun v51 finding_51 findings_51 =>
  some (v51, finding_51, rows, spare, findings_51)
def fX5_copy (finding : Int32) (rowSize : Nat → Int32) (rows : Nat → Int32) (spare : Nat → Int32) (findings : Nat → Int32) (x1 : Int32) (x2 : Int32) (x3 : Int32) (x4 : Int32) (x5 : Int32) : Option (Int32 × Int32 × (Nat → Int32) × (Nat → Int32) × (Nat → Int32)) :=
  bd1 (fX5_isRow x1) fun v1 =>
  if v1 = 0 then
    some ((-1), finding, rows, spare, findings)
  else
    bd1 (fX5_isRow x3) fun v8 =>
    if v8 = 0 then
      some ((-1), finding, rows, spare, findings)
    else
      if 0 ≤ x5 then
        bd1 (ald 6 rowSize x1) fun v32 =>
        if v32 = (-9) then
          fX5_copy_j49 rows spare findings
        else
          bd1 (ald 6 rowSize x3) fun v43 =>
          if v43 = (-9) then
            fX5_copy_j49 rows spare findings
          else
            bd1 (fX5_hasPart rowSize x1 x2 x5) fun v60 =>
            if v60 = 0 then
              fX5_copy_j78 rows spare findings
            else
              bd1 (fX5_hasPart rowSize x3 x4 x5) fun v72 =>
              if v72 = 0 then
                fX5_copy_j78 rows spare findings
              else
                bd1 (fX5_copy_L87 rows x1 x2 x5 FU spare 0) fun spare_L87 =>
                bd1 (fX5_copy_L124 spare_L87 x3 x4 x5 FU rows 0) fun rows_L124 =>
                some (1, finding, rows_L124, spare_L87, findings)
      else
        bd3 (fX5_found0 findings 5) fun v23 finding_23 findings_23 =>
        some (v23, finding_23, rows, spare, findings_23)
def fX5_mean_B46 (rowSize : Nat → Int32) (rows : Nat → Int32) (x1 : Int32) (rec : Int64 → Int32 → Option Int64) (x2 : Int64) (x4 : Int32) : Option Int64 :=
  bd1 (ald 6 rowSize x1) fun v53 =>
  if v53 ≤ x4 then
    some x2
  else
    bd1 (ald 240 rows ((40 * x1) + x4)) fun v69 =>
    rec (x2 + (Int32.toInt64 v69)) (x4 + 1)
def fX5_mean_L46 (rowSize : Nat → Int32) (rows : Nat → Int32) (x1 : Int32) : Nat → Int64 → Int32 → Option Int64
  | 0 => fun _ _ => none
  | n + 1 => fX5_mean_B46 rowSize rows x1 (fX5_mean_L46 rowSize rows x1 n)
def fX5_mean (finding : Int32) (asked : Int32) (rowSize : Nat → Int32) (rows : Nat → Int32) (findings : Nat → Int32) (x1 : Int32) : Option (Int32 × Int32 × Int32 × (Nat → Int32)) :=
  bd1 (fX5_isRow x1) fun v1 =>
  if v1 = 0 then
    some ((-1), finding, asked, findings)
  else
    bd1 (ald 6 rowSize x1) fun v14 =>
    if v14 = (-9) then
      bd3 (fX5_found0 findings 1) fun v22 finding_22 findings_22 =>
      some (v22, finding_22, asked, findings_22)
    else
      bd1 (ald 6 rowSize x1) fun v31 =>
      if v31 = 0 then
        bd3 (fX5_found0 findings 4) fun v37 finding_37 findings_37 =>
        some (v37, finding_37, asked, findings_37)
      else
        bd1 (fX5_mean_L46 rowSize rows x1 FU 0 0) fun x2_L46 =>
        bd1 (ald 6 rowSize x1) fun v86 =>
        if (Int32.toInt64 v86) = 0 then none else
        bd2 (fX5_tells (Int64.toInt32 (x2_L46 / (Int32.toInt64 v86)))) fun v90 asked_90 =>
        some (v90, finding, asked_90, findings)
def fX5_text_B34 (x1 : Int32) (rec : (Nat → Int32) → Int32 → Option (Nat → Int32)) (texts : Nat → Int32) (x3 : Int32) : Option (Nat → Int32) :=
  if 60 ≤ x3 then
    some texts
  else
    bd1 (ast 240 texts ((60 * x1) + x3) 32) fun texts_52 =>
    rec texts_52 (x3 + 1)
def fX5_text_L34 (x1 : Int32) : Nat → (Nat → Int32) → Int32 → Option (Nat → Int32)
  | 0 => fun _ _ => none
  | n + 1 => fX5_text_B34 x1 (fX5_text_L34 x1 n)
def fX5_text (finding : Int32) (textSize : Nat → Int32) (texts : Nat → Int32) (findings : Nat → Int32) (x1 : Int32) (x2 : Int32) : Option (Int32 × Int32 × (Nat → Int32) × (Nat → Int32) × (Nat → Int32)) :=
  bd1 (fX5_isText x1) fun v1 =>
  if v1 = 0 then
    some ((-1), finding, textSize, texts, findings)
  else
    if x2 ≤ 60 then
      if 0 ≤ x2 then
        bd1 (ast 4 textSize x1 x2) fun textSize_31 =>
        bd1 (fX5_text_L34 x1 FU texts 0) fun texts_L34 =>
        some (x2, finding, textSize_31, texts_L34, findings)
      else
        bd3 (fX5_found0 findings 5) fun v21 finding_21 findings_21 =>
        some (v21, finding_21, textSize, texts, findings_21)
    else
      some ((-1), finding, textSize, texts, findings)
def fX5_put_j96 (finding : Int32) (texts : Nat → Int32) (findings : Nat → Int32) (x4 : Int32) (k1 : Int32) (k2 : Int32) : Option (Int32 × Int32 × (Nat → Int32) × (Nat → Int32)) :=
  bd1 (ast 240 texts k1 k2) fun texts_96 =>
  some ((x4 + 1000), finding, texts_96, findings)
def fX5_put (finding : Int32) (textSize : Nat → Int32) (texts : Nat → Int32) (findings : Nat → Int32) (x1 : Int32) (x2 : Int32) (x3 : Int32) : Option (Int32 × Int32 × (Nat → Int32) × (Nat → Int32)) :=
  bd1 (fX5_isText x1) fun v1 =>
  if v1 = 0 then
    some ((-1), finding, texts, findings)
  else
    bd1 (ald 4 textSize x1) fun v14 =>
    if v14 = (-9) then
      bd3 (fX5_found0 findings 1) fun v22 finding_22 findings_22 =>
      some (v22, finding_22, texts, findings_22)
    else
      bd1 (ald 4 textSize x1) fun v33 =>
      bd1 (fX5_in0 x2 0 (v33 - 1)) fun v36 =>
      if v36 = 0 then
        bd3 (fX5_found0 findings 2) fun v44 finding_44 findings_44 =>
        some (v44, finding_44, texts, findings_44)
      else
        bd1 (ald 240 texts ((60 * x1) + x2)) fun v58 =>
        if (x3 &&& 255) ≤ 127 then
          fX5_put_j96 finding texts findings v58 ((60 * x1) + x2) (x3 &&& 255)
        else
          fX5_put_j96 finding texts findings v58 ((60 * x1) + x2) ((x3 &&& 255) - 256)
def fX5_look (m_at : Int32) (textSize : Nat → Int32) (texts : Nat → Int32) (x1 : Int32) : Option Int32 :=
  bd1 (ald 4 textSize x1) fun v9 =>
  if v9 ≤ m_at then
    some (-1000)
  else
    bd1 (ald 240 texts ((60 * x1) + m_at)) fun v26 =>
    some v26
def fX5_blanks_B0 (wrong : Int32) (textSize : Nat → Int32) (texts : Nat → Int32) (x1 : Int32) (rec : Int32 → Option Int32) (m_at : Int32) : Option Int32 :=
  if wrong = (-9) then
    bd1 (fX5_look m_at textSize texts x1) fun v11 =>
    if v11 = 32 then
      rec (m_at + 1)
    else
      some m_at
  else
    some m_at
def fX5_blanks_L0 (wrong : Int32) (textSize : Nat → Int32) (texts : Nat → Int32) (x1 : Int32) : Nat → Int32 → Option Int32
  | 0 => fun _ => none
  | n + 1 => fX5_blanks_B0 wrong textSize texts x1 (fX5_blanks_L0 wrong textSize texts x1 n)
def fX5_blanks (m_at : Int32) (wrong : Int32) (textSize : Nat → Int32) (texts : Nat → Int32) (x1 : Int32) : Option Int32 :=
  bd1 (fX5_blanks_L0 wrong textSize texts x1 FU m_at) fun m_at_L0 =>
  some m_at_L0
def fX5_fails_j18  (k1 : Int32) : Option Int32 :=
  some k1
def fX5_fails (wrong : Int32) (x1 : Int32) : Option Int32 :=
  if wrong = (-9) then
    fX5_fails_j18 x1
  else
    fX5_fails_j18 wrong
def fX5_letter_j26 (m_at : Int32) (wrong : Int32) : Option (Int32 × Int32) :=
  some ((m_at + 1), wrong)
def fX5_letter (m_at : Int32) (wrong : Int32) (textSize : Nat → Int32) (texts : Nat → Int32) (x1 : Int32) (x2 : Int32) : Option (Int32 × Int32) :=
  if wrong = (-9) then
    bd1 (fX5_look m_at textSize texts x1) fun v11 =>
    if v11 = x2 then
      fX5_letter_j26 m_at wrong
    else
      bd1 (fX5_fails wrong m_at) fun wrong_23 =>
      fX5_letter_j26 m_at wrong_23
  else
    fX5_letter_j26 m_at wrong
def fX5_figure_j28 (m_at : Int32) (wrong : Int32) (x4 : Int32) : Option (Int32 × Int32 × Int32) :=
  if wrong = (-9) then
    some (x4, (m_at + 1), wrong)
  else
    some (0, (m_at + 1), wrong)
def fX5_figure (m_at : Int32) (wrong : Int32) (textSize : Nat → Int32) (texts : Nat → Int32) (x1 : Int32) (x2 : Int32) (x3 : Int32) : Option (Int32 × Int32 × Int32) :=
  bd1 (fX5_look m_at textSize texts x1) fun v2 =>
  bd1 (fX5_in0 (v2 - 48) x2 x3) fun v14 =>
  if v14 = 0 then
    bd1 (fX5_fails wrong m_at) fun wrong_25 =>
    fX5_figure_j28 m_at wrong_25 (v2 - 48)
  else
    fX5_figure_j28 m_at wrong (v2 - 48)
def fX5_place (m_at : Int32) (wrong : Int32) (textSize : Nat → Int32) (texts : Nat → Int32) (x1 : Int32) : Option (Int32 × Int32 × Int32) :=
  bd3 (fX5_figure m_at wrong textSize texts x1 0 9) fun v12 m_at_12 wrong_12 =>
  bd3 (fX5_figure m_at_12 wrong_12 textSize texts x1 0 9) fun v23 m_at_23 wrong_23 =>
  if wrong_23 = (-9) then
    if ((10 * v12) + v23) ≤ 15 then
      some (((10 * v12) + v23), m_at_23, wrong_23)
    else
      bd1 (fX5_fails wrong_23 m_at) fun wrong_45 =>
      some (((10 * v12) + v23), m_at_23, wrong_45)
  else
    some (((10 * v12) + v23), m_at_23, wrong_23)
def fX5_kindOf  (x0 : Int32) : Option Int32 :=
  if x0 = 112 then
    some 0
  else
    if x0 = 116 then
      some 1
    else
      if x0 = 108 then
        some 2
      else
        if x0 = 99 then
          some 3
        else
          if x0 = 104 then
            some 4
          else
            if x0 = 105 then
              some 5
            else
              some (-9)
def fX5_readsPeel_j60 (m_at : Int32) (wrong : Int32) (textSize : Nat → Int32) (texts : Nat → Int32) (draft : Nat → Int32) (x1 : Int32) (x2 : Int32) (x3 : Int32) : Option (Int32 × Int32 × (Nat → Int32)) :=
  bd3 (fX5_place (m_at + 1) wrong textSize texts x1) fun v72 m_at_72 wrong_72 =>
  bd3 (fX5_figure m_at_72 wrong_72 textSize texts x1 1 4) fun v81 m_at_81 wrong_81 =>
  bd3 (fX5_figure m_at_81 wrong_81 textSize texts x1 0 1) fun v90 m_at_90 wrong_90 =>
  if wrong_90 = (-9) then
    bd1 (ast 35 draft x3 x2) fun draft_110 =>
    bd1 (ast 35 draft_110 (x3 + 1) v72) fun draft_120 =>
    bd1 (ast 35 draft_120 (x3 + 2) v81) fun draft_130 =>
    bd1 (ast 35 draft_130 (x3 + 3) v90) fun draft_140 =>
    bd1 (ald 35 draft_140 1) fun v147 =>
    bd1 (ast 35 draft_140 1 (v147 + 1)) fun draft_150 =>
    some (m_at_90, wrong_90, draft_150)
  else
    some (m_at_90, wrong_90, draft)
def fX5_readsPeel_j52 (m_at : Int32) (wrong : Int32) (textSize : Nat → Int32) (texts : Nat → Int32) (draft : Nat → Int32) (x1 : Int32) (x2 : Int32) (x3 : Int32) : Option (Int32 × Int32 × (Nat → Int32)) :=
  bd1 (fX5_fails wrong m_at) fun wrong_57 =>
  fX5_readsPeel_j60 m_at wrong_57 textSize texts draft x1 x2 x3
def fX5_readsPeel_j32 (m_at : Int32) (wrong : Int32) (textSize : Nat → Int32) (texts : Nat → Int32) (draft : Nat → Int32) (x1 : Int32) (x2 : Int32) (k0 : Int32) (k1 : Int32) (k2 : Int32) : Option (Int32 × Int32 × (Nat → Int32)) :=
  if x2 = (-9) then
    fX5_readsPeel_j52 m_at wrong textSize texts draft x1 x2 (k0 + (k1 * k2))
  else
    bd1 (ald 35 draft 1) fun v46 =>
    if v46 = 6 then
      fX5_readsPeel_j52 m_at wrong textSize texts draft x1 x2 (k0 + (k1 * k2))
    else
      fX5_readsPeel_j60 m_at wrong textSize texts draft x1 x2 (k0 + (k1 * k2))
def fX5_readsPeel (m_at : Int32) (wrong : Int32) (textSize : Nat → Int32) (texts : Nat → Int32) (draft : Nat → Int32) (x1 : Int32) : Option (Int32 × Int32 × (Nat → Int32)) :=
  bd1 (fX5_look m_at textSize texts x1) fun v2 =>
  bd1 (fX5_kindOf v2) fun v5 =>
  bd1 (ald 35 draft 1) fun v16 =>
  if 6 ≤ v16 then
    fX5_readsPeel_j32 m_at wrong textSize texts draft x1 v5 5 5 0
  else
    bd1 (ald 35 draft 1) fun v27 =>
    fX5_readsPeel_j32 m_at wrong textSize texts draft x1 v5 5 5 v27
def fX5_reads0_B2  (rec : (Nat → Int32) → Int32 → Option (Nat → Int32)) (draft : Nat → Int32) (x2 : Int32) : Option (Nat → Int32) :=
  if 35 ≤ x2 then
    some draft
  else
    bd1 (ast 35 draft x2 0) fun draft_14 =>
    rec draft_14 (x2 + 1)
def fX5_reads0_L2  : Nat → (Nat → Int32) → Int32 → Option (Nat → Int32)
  | 0 => fun _ _ => none
  | n + 1 => fX5_reads0_B2 (fX5_reads0_L2 n)
def fX5_reads0_B62 (textSize : Nat → Int32) (texts : Nat → Int32) (x1 : Int32) (rec : Int32 → Int32 → (Nat → Int32) → Option (Int32 × Int32 × (Nat → Int32))) (m_at : Int32) (wrong : Int32) (draft : Nat → Int32) : Option (Int32 × Int32 × (Nat → Int32)) :=
  if wrong = (-9) then
    bd1 (fX5_look m_at textSize texts x1) fun v73 =>
    if v73 = (-1000) then
      some (m_at, wrong, draft)
    else
      bd3 (fX5_readsPeel m_at wrong textSize texts draft x1) fun m_at_84 wrong_84 draft_84 =>
      bd1 (fX5_blanks m_at_84 wrong_84 textSize texts x1) fun m_at_89 =>
      rec m_at_89 wrong_84 draft_84
  else
    some (m_at, wrong, draft)
def fX5_reads0_L62 (textSize : Nat → Int32) (texts : Nat → Int32) (x1 : Int32) : Nat → Int32 → Int32 → (Nat → Int32) → Option (Int32 × Int32 × (Nat → Int32))
  | 0 => fun _ _ _ => none
  | n + 1 => fX5_reads0_B62 textSize texts x1 (fX5_reads0_L62 textSize texts x1 n)
def fX5_reads0_j123 (m_at : Int32) (wrong : Int32) (draft : Nat → Int32) : Option (Int32 × Int32 × Int32 × (Nat → Int32)) :=
  some (wrong, m_at, wrong, draft)
def fX5_reads0 (textSize : Nat → Int32) (texts : Nat → Int32) (draft : Nat → Int32) (x1 : Int32) : Option (Int32 × Int32 × Int32 × (Nat → Int32)) :=
  bd1 (fX5_reads0_L2 FU draft 0) fun draft_L2 =>
  bd1 (fX5_blanks 0 (-9) textSize texts x1) fun m_at_34 =>
  bd2 (fX5_letter m_at_34 (-9) textSize texts x1 110) fun m_at_41 wrong_41 =>
  bd3 (fX5_figure m_at_41 wrong_41 textSize texts x1 1 4) fun v53 m_at_53 wrong_53 =>
  bd1 (ast 35 draft_L2 0 v53) fun draft_56 =>
  bd1 (fX5_blanks m_at_53 wrong_53 textSize texts x1) fun m_at_59 =>
  bd3 (fX5_reads0_L62 textSize texts x1 FU m_at_59 wrong_53 draft_56) fun m_at_L62 wrong_L62 draft_L62 =>
  if wrong_L62 = (-9) then
    bd1 (ald 35 draft_L62 1) fun v109 =>
    if v109 = 0 then
      bd1 (ald 4 textSize x1) fun v119 =>
      bd1 (fX5_fails wrong_L62 v119) fun wrong_120 =>
      fX5_reads0_j123 m_at_L62 wrong_120 draft_L62
    else
      fX5_reads0_j123 m_at_L62 wrong_L62 draft_L62
  else
    fX5_reads0_j123 m_at_L62 wrong_L62 draft_L62
def fX5_fault (finding : Int32) (m_at : Int32) (wrong : Int32) (textSize : Nat → Int32) (texts : Nat → Int32) (draft : Nat → Int32) (findings : Nat → Int32) (x1 : Int32) : Option (Int32 × Int32 × Int32 × Int32 × (Nat → Int32) × (Nat → Int32)) :=
  bd1 (fX5_isText x1) fun v1 =>
  if v1 = 0 then
    some ((-1), finding, m_at, wrong, draft, findings)
  else
    bd1 (ald 4 textSize x1) fun v14 =>
    if v14 = (-9) then
      bd3 (fX5_found0 findings 1) fun v22 finding_22 findings_22 =>
      some (v22, finding_22, m_at, wrong, draft, findings_22)
    else
      bd4 (fX5_reads0 textSize texts draft x1) fun v30 m_at_30 wrong_30 draft_30 =>
      some (v30, finding, m_at_30, wrong_30, draft_30, findings)
def fX5_copies_B3 (n0 : Nat) (n1 : Nat) (a0 : Nat → Int32) (x1 : Int32) (x3 : Int32) (x4 : Int32) (rec : (Nat → Int32) → Int32 → Option (Nat → Int32)) (a1 : Nat → Int32) (x5 : Int32) : Option (Nat → Int32) :=
  if x4 ≤ x5 then
    some a1
  else
    bd1 (ald n0 a0 (x1 + x5)) fun v20 =>
    bd1 (ast n1 a1 (x3 + x5) v20) fun a1_21 =>
    rec a1_21 (x5 + 1)
def fX5_copies_L3 (n0 : Nat) (n1 : Nat) (a0 : Nat → Int32) (x1 : Int32) (x3 : Int32) (x4 : Int32) : Nat → (Nat → Int32) → Int32 → Option (Nat → Int32)
  | 0 => fun _ _ => none
  | n + 1 => fX5_copies_B3 n0 n1 a0 x1 x3 x4 (fX5_copies_L3 n0 n1 a0 x1 x3 x4 n)
def fX5_copies (n0 : Nat) (n1 : Nat) (a0 : Nat → Int32) (a1 : Nat → Int32) (x1 : Int32) (x3 : Int32) (x4 : Int32) : Option (Nat → Int32) :=
  bd1 (fX5_copies_L3 n0 n1 a0 x1 x3 x4 FU a1 0) fun a1_L3 =>
  some a1_L3
def fX5_slice_B61  (rec : (Nat → Int32) → Int32 → Option (Nat → Int32)) (keptDeeds : Nat → Int32) (x2 : Int32) : Option (Nat → Int32) :=
  if 3 ≤ x2 then
    some keptDeeds
  else
    bd1 (ast 3 keptDeeds x2 (-9)) fun keptDeeds_73 =>
    rec keptDeeds_73 (x2 + 1)
def fX5_slice_L61  : Nat → (Nat → Int32) → Int32 → Option (Nat → Int32)
  | 0 => fun _ _ => none
  | n + 1 => fX5_slice_B61 (fX5_slice_L61 n)
def fX5_slice (deeds : Int32) (finding : Int32) (m_at : Int32) (wrong : Int32) (textSize : Nat → Int32) (texts : Nat → Int32) (now : Nat → Int32) (draft : Nat → Int32) (keptDeeds : Nat → Int32) (findings : Nat → Int32) (x1 : Int32) : Option (Int32 × Int32 × Int32 × Int32 × Int32 × (Nat → Int32) × (Nat → Int32) × (Nat → Int32) × (Nat → Int32)) :=
  bd1 (fX5_isText x1) fun v1 =>
  if v1 = 0 then
    some ((-1), deeds, finding, m_at, wrong, now, draft, keptDeeds, findings)
  else
    bd1 (ald 4 textSize x1) fun v14 =>
    if v14 = (-9) then
      bd3 (fX5_found0 findings 1) fun v22 finding_22 findings_22 =>
      some (v22, deeds, finding_22, m_at, wrong, now, draft, keptDeeds, findings_22)
    else
      bd4 (fX5_reads0 textSize texts draft x1) fun v28 m_at_28 wrong_28 draft_28 =>
      if v28 = (-9) then
        bd1 (fX5_copies 35 35 draft_28 now 0 0 35) fun now_51 =>
        bd1 (fX5_slice_L61 FU keptDeeds 0) fun keptDeeds_L61 =>
        bd1 (ald 35 now_51 1) fun v85 =>
        some (v85, 0, finding, m_at_28, wrong_28, now_51, draft_28, keptDeeds_L61, findings)
      else
        some ((-4), deeds, finding, m_at_28, wrong_28, now, draft_28, keptDeeds, findings)
def fX5_isPeel (now : Nat → Int32) (x1 : Int32) : Option Int32 :=
  bd1 (ald 35 now 1) fun v7 =>
  bd1 (fX5_in0 x1 0 (v7 - 1)) fun v10 =>
  if v10 &&& 1 = v10 then some v10 else none
def fX5_isAny (now : Nat → Int32) : Option Int32 :=
  bd1 (ald 35 now 1) fun v5 =>
  if v5 ≤ 0 then
    some 0
  else
    some 1
def fX5_bitOf_j42  : Option Int32 :=
  some 0
def fX5_bitOf_j28 (x3 : Int32) (k0 : Int32) (k1 : Int32) : Option Int32 :=
  if 3 < x3 then
    fX5_bitOf_j42
  else
    if (k0 + k1) ≤ 3 then
      some ((1 : Int32) <<< (((4 * x3) + (k0 + k1)) &&& 31))
    else
      fX5_bitOf_j42
def fX5_bitOf_j13 (x0 : Int32) (x1 : Int32) (x2 : Int32) (k0 : Int32) (k1 : Int32) : Option Int32 :=
  if x1 = 1 then
    fX5_bitOf_j28 (k0 + k1) (x0 - x0 / 4 * 4) 0
  else
    fX5_bitOf_j28 (k0 + k1) (x0 - x0 / 4 * 4) x2
def fX5_bitOf  (x0 : Int32) (x1 : Int32) (x2 : Int32) : Option Int32 :=
  if x1 = 1 then
    fX5_bitOf_j13 x0 x1 x2 (x0 / 4) x2
  else
    fX5_bitOf_j13 x0 x1 x2 (x0 / 4) 0
def fX5_plainly_B5 (x0 : Int32) (x1 : Int32) (x2 : Int32) (rec : Int32 → Int32 → Option Int32) (x3 : Int32) (x4 : Int32) : Option Int32 :=
  if x1 ≤ x4 then
    some x3
  else
    bd1 (fX5_bitOf x0 x2 x4) fun v16 =>
    rec (x3 ||| v16) (x4 + 1)
def fX5_plainly_L5 (x0 : Int32) (x1 : Int32) (x2 : Int32) : Nat → Int32 → Int32 → Option Int32
  | 0 => fun _ _ => none
  | n + 1 => fX5_plainly_B5 x0 x1 x2 (fX5_plainly_L5 x0 x1 x2 n)
def fX5_plainly  (x0 : Int32) (x1 : Int32) (x2 : Int32) : Option Int32 :=
  bd1 (fX5_plainly_L5 x0 x1 x2 FU 0 0) fun x3_L5 =>
  some x3_L5
def fX5_thinly_j21  (k0 : Int32) (k1 : Int32) : Option Int32 :=
  some (k0 ||| k1)
def fX5_thinly  (x0 : Int32) (x1 : Int32) (x2 : Int32) : Option Int32 :=
  bd1 (fX5_bitOf x0 x2 0) fun v3 =>
  if x1 ≤ 2 then
    fX5_thinly_j21 v3 0
  else
    bd1 (fX5_bitOf x0 x2 2) fun v14 =>
    fX5_thinly_j21 v3 v14
def fX5_coversOf_j87  (k0 : Int32) (k1 : Int32) : Option Int32 :=
  some (k0 ||| k1)
def fX5_coversOf_j86  (k0 : Int32) : Option Int32 :=
  fX5_coversOf_j87 k0 0
def fX5_coversOf  (x0 : Int32) (x1 : Int32) (x2 : Int32) (x3 : Int32) : Option Int32 :=
  if x0 = 1 then
    bd1 (fX5_thinly x1 x2 x3) fun v39 =>
    some v39
  else
  if x0 = 2 then
    bd1 (fX5_bitOf x1 0 1) fun v46 =>
    bd1 (fX5_bitOf x1 1 1) fun v54 =>
    if v46 = 0 then
      fX5_coversOf_j86 ((((1 : Int32) <<< (x1 &&& 31)) ||| v46) ||| v54)
    else
      if v54 = 0 then
        fX5_coversOf_j86 ((((1 : Int32) <<< (x1 &&& 31)) ||| v46) ||| v54)
      else
        fX5_coversOf_j87 ((((1 : Int32) <<< (x1 &&& 31)) ||| v46) ||| v54) ((1 : Int32) <<< ((x1 + 5) &&& 31))
  else
  if x0 = 3 then
    bd1 (fX5_plainly x1 x2 x3) fun v92 =>
    bd1 (fX5_plainly x1 2 (1 - x3)) fun v100 =>
    some (v92 ||| v100)
  else
  if x0 = 4 then
    bd1 (fX5_thinly x1 x2 x3) fun v108 =>
    bd1 (fX5_thinly x1 x2 (1 - x3)) fun v116 =>
    some (v108 ||| v116)
  else
  if x0 = 5 then
    some ((1 : Int32) <<< (x1 &&& 31))
  else
  bd1 (fX5_plainly x1 x2 x3) fun v128 =>
  some v128
def fX5_coverOf (n0 : Nat) (a0 : Nat → Int32) (x1 : Int32) : Option Int32 :=
  bd1 (ald n0 a0 (5 + (5 * x1))) fun v8 =>
  bd1 (ald n0 a0 ((5 + (5 * x1)) + 1)) fun v13 =>
  bd1 (ald n0 a0 ((5 + (5 * x1)) + 2)) fun v18 =>
  bd1 (ald n0 a0 ((5 + (5 * x1)) + 3)) fun v23 =>
  bd1 (fX5_coversOf v8 v13 v18 v23) fun v24 =>
  some v24
def fX5_coveredBut_j42 (rec : Int32 → Int32 → Option Int32) (n0 : Nat) (a0 : Nat → Int32) (x1 : Int32) (x3 : Int32) (k0 : Int32) (k1 : Int32) : Option Int32 :=
  rec (k0 ||| k1) (x3 + 1)
def fX5_coveredBut_j33 (rec : Int32 → Int32 → Option Int32) (n0 : Nat) (a0 : Nat → Int32) (x1 : Int32) (x3 : Int32) (k0 : Int32) : Option Int32 :=
  fX5_coveredBut_j42 rec n0 a0 x1 x3 k0 0
def fX5_coveredBut_B4 (n0 : Nat) (a0 : Nat → Int32) (x1 : Int32) (rec : Int32 → Int32 → Option Int32) (x2 : Int32) (x3 : Int32) : Option Int32 :=
  bd1 (ald n0 a0 1) fun v7 =>
  if v7 ≤ x3 then
    some x2
  else
    bd1 (ald n0 a0 ((5 + (5 * x3)) + 4)) fun v20 =>
    if v20 = 1 then
      fX5_coveredBut_j33 rec n0 a0 x1 x3 x2
    else
      bd1 (fX5_has x1 x3) fun v27 =>
      if v27 = 0 then
        bd1 (fX5_coverOf n0 a0 x3) fun v39 =>
        fX5_coveredBut_j42 rec n0 a0 x1 x3 x2 v39
      else
        fX5_coveredBut_j33 rec n0 a0 x1 x3 x2
def fX5_coveredBut_L4 (n0 : Nat) (a0 : Nat → Int32) (x1 : Int32) : Nat → Int32 → Int32 → Option Int32
  | 0 => fun _ _ => none
  | n + 1 => fX5_coveredBut_B4 n0 a0 x1 (fX5_coveredBut_L4 n0 a0 x1 n)
def fX5_coveredBut (n0 : Nat) (a0 : Nat → Int32) (x1 : Int32) : Option Int32 :=
  bd1 (fX5_coveredBut_L4 n0 a0 x1 FU 0 0) fun x2_L4 =>
  bd1 (ald n0 a0 4) fun v53 =>
  some (x2_L4 &&& (v53 ^^^ (-1)))
def fX5_lineOf  (x0 : Int32) : Option Int32 :=
  if 4 ≤ x0 then
    some ((4369 : Int32) <<< ((x0 - 4) &&& 31))
  else
    some ((15 : Int32) <<< ((4 * x0) &&& 31))
def fX5_linesOf_j33 (rec : Int32 → Int32 → Option Int32) (n0 : Nat) (a0 : Nat → Int32) (x1 : Int32) (x3 : Int32) (k0 : Int32) (k1 : Int32) : Option Int32 :=
  rec (k0 ||| k1) (x3 + 1)
def fX5_linesOf_B4 (n0 : Nat) (a0 : Nat → Int32) (x1 : Int32) (rec : Int32 → Int32 → Option Int32) (x2 : Int32) (x3 : Int32) : Option Int32 :=
  if 8 ≤ x3 then
    some x2
  else
    bd1 (fX5_lineOf x3) fun v13 =>
    bd1 (fX5_ones (x1 &&& v13)) fun v17 =>
    bd1 (ald n0 a0 0) fun v22 =>
    if v17 < v22 then
      fX5_linesOf_j33 rec n0 a0 x1 x3 x2 0
    else
      fX5_linesOf_j33 rec n0 a0 x1 x3 x2 ((1 : Int32) <<< (x3 &&& 31))
def fX5_linesOf_L4 (n0 : Nat) (a0 : Nat → Int32) (x1 : Int32) : Nat → Int32 → Int32 → Option Int32
  | 0 => fun _ _ => none
  | n + 1 => fX5_linesOf_B4 n0 a0 x1 (fX5_linesOf_L4 n0 a0 x1 n)
def fX5_linesOf (n0 : Nat) (a0 : Nat → Int32) (x1 : Int32) : Option Int32 :=
  bd1 (fX5_linesOf_L4 n0 a0 x1 FU 0 0) fun x2_L4 =>
  some x2_L4
def fX5_linesIn (n0 : Nat) (a0 : Nat → Int32) : Option Int32 :=
  bd1 (fX5_coveredBut n0 a0 0) fun v3 =>
  bd1 (fX5_linesOf n0 a0 v3) fun v6 =>
  some v6
def fX5_fallsTo (n0 : Nat) (a0 : Nat → Int32) (x1 : Int32) : Option Int32 :=
  bd1 (ald n0 a0 ((5 + (5 * x1)) + 1)) fun v11 =>
  bd1 (ald n0 a0 ((5 + (5 * x1)) + 2)) fun v17 =>
  bd1 (ald n0 a0 2) fun v21 =>
  some ((((5 * v11) + v17) + v21) - (((5 * v11) + v17) + v21) / 16 * 16)
def fX5_passes_j62 (rec : (Nat → Int32) → Int32 → Option (Nat → Int32)) (n0 : Nat) (a0 : Nat → Int32) (x1 : Int32) : Option (Nat → Int32) :=
  rec a0 (x1 + 1)
def fX5_passes_j61 (rec : (Nat → Int32) → Int32 → Option (Nat → Int32)) (n0 : Nat) (a0 : Nat → Int32) (x1 : Int32) (k1 : Int32) (k2 : Int32) : Option (Nat → Int32) :=
  bd1 (ast n0 a0 k1 k2) fun a0_61 =>
  fX5_passes_j62 rec n0 a0_61 x1
def fX5_passes_B2 (n0 : Nat) (rec : (Nat → Int32) → Int32 → Option (Nat → Int32)) (a0 : Nat → Int32) (x1 : Int32) : Option (Nat → Int32) :=
  bd1 (ald n0 a0 1) fun v5 =>
  if v5 ≤ x1 then
    some a0
  else
    bd1 (ald n0 a0 ((5 + (5 * x1)) + 4)) fun v19 =>
    if v19 = 0 then
      bd1 (fX5_fallsTo n0 a0 x1) fun v29 =>
      bd1 (ast n0 a0 ((5 + (5 * x1)) + 1) v29) fun a0_32 =>
      bd1 (ald n0 a0_32 2) fun v39 =>
      if (v39 - v39 / 3 * 3) = 2 then
        bd1 (ald n0 a0_32 ((5 + (5 * x1)) + 3)) fun v51 =>
        fX5_passes_j61 rec n0 a0_32 x1 ((5 + (5 * x1)) + 3) (1 - v51)
      else
        bd1 (ald n0 a0_32 ((5 + (5 * x1)) + 3)) fun v60 =>
        fX5_passes_j61 rec n0 a0_32 x1 ((5 + (5 * x1)) + 3) v60
    else
      fX5_passes_j62 rec n0 a0 x1
def fX5_passes_L2 (n0 : Nat) : Nat → (Nat → Int32) → Int32 → Option (Nat → Int32)
  | 0 => fun _ _ => none
  | n + 1 => fX5_passes_B2 n0 (fX5_passes_L2 n0 n)
def fX5_passes (n0 : Nat) (a0 : Nat → Int32) : Option (Int32 × (Nat → Int32)) :=
  bd1 (fX5_passes_L2 n0 FU a0 0) fun a0_L2 =>
  bd1 (fX5_linesIn n0 a0_L2) fun v69 =>
  bd1 (ald n0 a0_L2 3) fun v76 =>
  bd1 (fX5_ones v69) fun v78 =>
  bd1 (ast n0 a0_L2 3 (v76 + v78)) fun a0_82 =>
  bd1 (ald n0 a0_82 2) fun v86 =>
  bd1 (ast n0 a0_82 2 (v86 + 1)) fun a0_89 =>
  some (v69, a0_89)
def fX5_weightOf_j10  : Option Int32 :=
  some 3
def fX5_weightOf  (x0 : Int32) : Option Int32 :=
  if x0 = 2 then
    fX5_weightOf_j10
  else
    if x0 = 5 then
      fX5_weightOf_j10
    else
      if x0 = 3 then
        some 2
      else
        some 1
def fX5_lifted_B4 (n0 : Nat) (a0 : Nat → Int32) (rec : Int32 → Int32 → Option Int32) (x1 : Int32) (x2 : Int32) : Option Int32 :=
  bd1 (ald n0 a0 1) fun v7 =>
  if v7 ≤ x2 then
    some x1
  else
    bd1 (ald n0 a0 ((5 + (5 * x2)) + 4)) fun v20 =>
    rec (x1 ||| (v20 <<< (x2 &&& 31))) (x2 + 1)
def fX5_lifted_L4 (n0 : Nat) (a0 : Nat → Int32) : Nat → Int32 → Int32 → Option Int32
  | 0 => fun _ _ => none
  | n + 1 => fX5_lifted_B4 n0 a0 (fX5_lifted_L4 n0 a0 n)
def fX5_lifted (n0 : Nat) (a0 : Nat → Int32) : Option Int32 :=
  bd1 (fX5_lifted_L4 n0 a0 FU 0 0) fun x1_L4 =>
  some x1_L4
def fX5_tellsOf (now : Nat → Int32) (x1 : Int32) (x2 : Int32) : Option Int32 :=
  if x2 = 5 then
    bd1 (fX5_coverOf 35 now x1) fun v16 =>
    some v16
  else
    if x2 = 6 then
      bd1 (ald 35 now (5 + (5 * x1))) fun v33 =>
      bd1 (fX5_weightOf v33) fun v34 =>
      some v34
    else
      bd1 (ald 35 now ((5 + (5 * x1)) + x2)) fun v47 =>
      some v47
def fX5_peel (asked : Int32) (now : Nat → Int32) (x1 : Int32) (x2 : Int32) : Option (Int32 × Int32) :=
  bd1 (fX5_isPeel now x1) fun v2 =>
  if v2 = 0 then
    some ((-1), asked)
  else
    bd1 (fX5_in0 x2 0 6) fun v12 =>
    if v12 = 0 then
      some ((-1), asked)
    else
      bd1 (fX5_tellsOf now x1 x2) fun v24 =>
      bd2 (fX5_tells v24) fun v27 asked_27 =>
      some (v27, asked_27)
def fX5_isOf_j25  : Option Int32 :=
  some 1
def fX5_isOf_j15 (x0 : Int32) (x1 : Int32) : Option Int32 :=
  if x0 = 5 then
    if x1 = 2 then
      fX5_isOf_j25
    else
      some 0
  else
    some 0
def fX5_isOf  (x0 : Int32) (x1 : Int32) : Option Int32 :=
  if x0 = x1 then
    fX5_isOf_j25
  else
    if x0 = 4 then
      if x1 = 1 then
        fX5_isOf_j25
      else
        fX5_isOf_j15 x0 x1
    else
      fX5_isOf_j15 x0 x1
def fX5_inStead (now : Nat → Int32) (x1 : Int32) (x2 : Int32) : Option Int32 :=
  bd1 (ald 35 now ((5 + (5 * x1)) + 1)) fun v14 =>
  bd1 (ald 35 now ((5 + (5 * x1)) + 2)) fun v22 =>
  bd1 (ald 35 now ((5 + (5 * x1)) + 3)) fun v30 =>
  bd1 (fX5_coversOf x2 v14 v22 v30) fun v31 =>
  some v31
def fX5_asHeavy_j49 (rec : Int32 → Int32 → Option Int32) (now : Nat → Int32) (x1 : Int32) (x3 : Int32) (k0 : Int32) (k1 : Int32) : Option Int32 :=
  rec (k0 + k1) (x3 + 1)
def fX5_asHeavy_B4 (now : Nat → Int32) (x1 : Int32) (rec : Int32 → Int32 → Option Int32) (x2 : Int32) (x3 : Int32) : Option Int32 :=
  bd1 (ald 35 now 1) fun v10 =>
  if v10 ≤ x3 then
    some x2
  else
    bd1 (ald 35 now (5 + (5 * x3))) fun v24 =>
    bd1 (fX5_weightOf v24) fun v25 =>
    bd1 (ald 35 now (5 + (5 * x1))) fun v37 =>
    bd1 (fX5_weightOf v37) fun v38 =>
    if v25 = v38 then
      fX5_asHeavy_j49 rec now x1 x3 x2 1
    else
      fX5_asHeavy_j49 rec now x1 x3 x2 0
def fX5_asHeavy_L4 (now : Nat → Int32) (x1 : Int32) : Nat → Int32 → Int32 → Option Int32
  | 0 => fun _ _ => none
  | n + 1 => fX5_asHeavy_B4 now x1 (fX5_asHeavy_L4 now x1 n)
def fX5_asHeavy (now : Nat → Int32) (x1 : Int32) : Option Int32 :=
  bd1 (fX5_asHeavy_L4 now x1 FU 0 0) fun x2_L4 =>
  some x2_L4
def fX5_mark (finding : Int32) (now : Nat → Int32) (findings : Nat → Int32) (x1 : Int32) (x2 : Int32) : Option (Int32 × Int32 × (Nat → Int32)) :=
  bd1 (fX5_isPeel now x1) fun v2 =>
  if v2 = 0 then
    some ((-1), finding, findings)
  else
    bd1 (fX5_in0 x2 1 5) fun v11 =>
    if v11 = 0 then
      some ((-1), finding, findings)
    else
      bd1 (ald 35 now (5 + (5 * x1))) fun v28 =>
      bd1 (fX5_isOf v28 x2) fun v30 =>
      if v30 = 0 then
        bd3 (fX5_found0 findings 3) fun v38 finding_38 findings_38 =>
        some (v38, finding_38, findings_38)
      else
        bd1 (fX5_coverOf 35 now x1) fun v47 =>
        if x2 = 1 then
          bd1 (fX5_inStead now x1 0) fun v87 =>
          bd1 (fX5_ones (v87 &&& (v47 ^^^ (-1)))) fun v94 =>
          some (v94, finding, findings)
        else
        if x2 = 2 then
          bd1 (fX5_asHeavy now x1) fun v100 =>
          some (v100, finding, findings)
        else
        if x2 = 3 then
          bd1 (fX5_inStead now x1 0) fun v108 =>
          bd1 (fX5_ones (v47 &&& (v108 ^^^ (-1)))) fun v114 =>
          some (v114, finding, findings)
        else
        if x2 = 4 then
          bd1 (fX5_inStead now x1 1) fun v122 =>
          bd1 (fX5_ones (v47 &&& (v122 ^^^ (-1)))) fun v128 =>
          some (v128, finding, findings)
        else
        bd1 (fX5_inStead now x1 2) fun v135 =>
        bd1 (fX5_ones v135) fun v138 =>
        some ((v138 - 1), finding, findings)
def fX5_notes (deeds : Int32) (now : Nat → Int32) (past : Nat → Int32) : Option (Int32 × (Nat → Int32)) :=
  bd1 (fX5_copies 35 1400 now past 0 (35 * deeds) 35) fun past_18 =>
  some ((deeds + 1), past_18)
def fX5_morning (deeds : Int32) (now : Nat → Int32) (past : Nat → Int32) : Option (Int32 × Int32 × (Nat → Int32) × (Nat → Int32)) :=
  bd1 (fX5_isAny now) fun v1 =>
  if v1 = 0 then
    some ((-4), deeds, now, past)
  else
    if deeds = 40 then
      some ((-2), deeds, now, past)
    else
      bd2 (fX5_notes deeds now past) fun deeds_23 past_23 =>
      bd2 (fX5_passes 35 now) fun v30 now_30 =>
      some (v30, deeds_23, now_30, past_23)
def fX5_shift (deeds : Int32) (now : Nat → Int32) (past : Nat → Int32) (x1 : Int32) (x2 : Int32) : Option (Int32 × Int32 × (Nat → Int32) × (Nat → Int32)) :=
  bd1 (fX5_isPeel now x1) fun v2 =>
  if v2 = 0 then
    some ((-1), deeds, now, past)
  else
    bd1 (fX5_in0 x2 0 15) fun v12 =>
    if v12 = 0 then
      some ((-1), deeds, now, past)
    else
      bd1 (ald 35 now ((5 + (5 * x1)) + 1)) fun v31 =>
      if v31 = x2 then
        some ((-4), deeds, now, past)
      else
        if deeds = 40 then
          some ((-2), deeds, now, past)
        else
          bd2 (fX5_notes deeds now past) fun deeds_54 past_54 =>
          bd1 (ast 35 now ((5 + (5 * x1)) + 1) x2) fun now_69 =>
          some (v31, deeds_54, now_69, past_54)
def fX5_changes (deeds : Int32) (now : Nat → Int32) (past : Nat → Int32) (x1 : Int32) (x2 : Int32) : Option (Int32 × Int32 × (Nat → Int32) × (Nat → Int32)) :=
  bd2 (fX5_notes deeds now past) fun deeds_1 past_1 =>
  bd1 (ald 35 now ((5 + (5 * x1)) + x2)) fun v27 =>
  bd1 (ast 35 now ((5 + (5 * x1)) + x2) (1 - v27)) fun now_29 =>
  bd1 (ald 35 now_29 ((5 + (5 * x1)) + x2)) fun v41 =>
  some (v41, deeds_1, now_29, past_1)
def fX5_turn (deeds : Int32) (now : Nat → Int32) (past : Nat → Int32) (x1 : Int32) : Option (Int32 × Int32 × (Nat → Int32) × (Nat → Int32)) :=
  bd1 (fX5_isPeel now x1) fun v2 =>
  if v2 = 0 then
    some ((-1), deeds, now, past)
  else
    if deeds = 40 then
      some ((-2), deeds, now, past)
    else
      bd4 (fX5_changes deeds now past x1 3) fun v27 deeds_27 now_27 past_27 =>
      some (v27, deeds_27, now_27, past_27)
def fX5_lift (deeds : Int32) (now : Nat → Int32) (past : Nat → Int32) (x1 : Int32) : Option (Int32 × Int32 × (Nat → Int32) × (Nat → Int32)) :=
  bd1 (fX5_isPeel now x1) fun v2 =>
  if v2 = 0 then
    some ((-1), deeds, now, past)
  else
    if deeds = 40 then
      some ((-2), deeds, now, past)
    else
      bd4 (fX5_changes deeds now past x1 4) fun v27 deeds_27 now_27 past_27 =>
      some (v27, deeds_27, now_27, past_27)
def fX5_mayLick_j27  : Option Int32 :=
  some 1
def fX5_mayLick (now : Nat → Int32) (x1 : Int32) : Option Int32 :=
  bd1 (ald 35 now 4) fun v5 =>
  bd1 (fX5_has v5 x1) fun v7 =>
  if v7 = 0 then
    bd1 (ald 35 now 4) fun v18 =>
    bd1 (fX5_ones v18) fun v19 =>
    if 8 ≤ v19 then
      some 0
    else
      fX5_mayLick_j27
  else
    fX5_mayLick_j27
def fX5_lick (deeds : Int32) (now : Nat → Int32) (past : Nat → Int32) (x1 : Int32) : Option (Int32 × Int32 × (Nat → Int32) × (Nat → Int32)) :=
  bd1 (fX5_in0 x1 0 15) fun v4 =>
  if v4 = 0 then
    some ((-1), deeds, now, past)
  else
    bd1 (fX5_isAny now) fun v13 =>
    if v13 = 0 then
      some ((-4), deeds, now, past)
    else
      bd1 (fX5_mayLick now x1) fun v21 =>
      if v21 = 0 then
        some ((-4), deeds, now, past)
      else
        if deeds = 40 then
          some ((-2), deeds, now, past)
        else
          bd2 (fX5_notes deeds now past) fun deeds_43 past_43 =>
          bd1 (ald 35 now 4) fun v52 =>
          bd1 (ast 35 now 4 (v52 ^^^ ((1 : Int32) <<< (x1 &&& 31)))) fun now_57 =>
          bd1 (ald 35 now_57 4) fun v63 =>
          some (((v63 >>> (x1 &&& 31)) &&& 1), deeds_43, now_57, past_43)
def fX5_undo_j43 (now : Nat → Int32) (x1 : Int32) (x2 : Int32) : Option (Int32 × Int32 × (Nat → Int32)) :=
  some (x2, x1, now)
def fX5_undo (deeds : Int32) (now : Nat → Int32) (past : Nat → Int32) (x1 : Int32) : Option (Int32 × Int32 × (Nat → Int32)) :=
  bd1 (fX5_in0 x1 0 deeds) fun v6 =>
  if v6 = 0 then
    some ((-1), deeds, now)
  else
    if (deeds - x1) ≤ 0 then
      fX5_undo_j43 now x1 (deeds - x1)
    else
      bd1 (fX5_copies 1400 35 past now (35 * x1) 0 35) fun now_40 =>
      fX5_undo_j43 now_40 x1 (deeds - x1)
def fX5_keep (deeds : Int32) (now : Nat → Int32) (past : Nat → Int32) (kept : Nat → Int32) (keptPast : Nat → Int32) (keptDeeds : Nat → Int32) (x1 : Int32) : Option (Int32 × (Nat → Int32) × (Nat → Int32) × (Nat → Int32)) :=
  bd1 (fX5_in0 x1 0 2) fun v3 =>
  if v3 = 0 then
    some ((-1), kept, keptPast, keptDeeds)
  else
    bd1 (fX5_isAny now) fun v12 =>
    if v12 = 0 then
      some ((-4), kept, keptPast, keptDeeds)
    else
      bd1 (fX5_copies 35 105 now kept 0 (35 * x1) 35) fun kept_36 =>
      bd1 (fX5_copies 1400 4200 past keptPast 0 (1400 * x1) 1400) fun keptPast_56 =>
      bd1 (ast 3 keptDeeds x1 deeds) fun keptDeeds_68 =>
      some (deeds, kept_36, keptPast_56, keptDeeds_68)
def fX5_on (deeds : Int32) (finding : Int32) (now : Nat → Int32) (past : Nat → Int32) (kept : Nat → Int32) (keptPast : Nat → Int32) (keptDeeds : Nat → Int32) (findings : Nat → Int32) (x1 : Int32) : Option (Int32 × Int32 × Int32 × (Nat → Int32) × (Nat → Int32) × (Nat → Int32)) :=
  bd1 (fX5_in0 x1 0 2) fun v3 =>
  if v3 = 0 then
    some ((-1), deeds, finding, now, past, findings)
  else
    bd1 (ald 3 keptDeeds x1) fun v16 =>
    if v16 = (-9) then
      bd3 (fX5_found0 findings 1) fun v24 finding_24 findings_24 =>
      some (v24, deeds, finding_24, now, past, findings_24)
    else
      bd1 (fX5_copies 105 35 kept now (35 * x1) 0 35) fun now_43 =>
      bd1 (fX5_copies 4200 1400 keptPast past (1400 * x1) 0 1400) fun past_63 =>
      bd1 (ald 3 keptDeeds x1) fun v72 =>
      some (v72, v72, finding, now_43, past_63, findings)
def fX5_covers (now : Nat → Int32) (x1 : Int32) (x2 : Int32) (x3 : Int32) : Option Int32 :=
  bd1 (fX5_isPeel now x1) fun v2 =>
  if v2 = 0 then
    some (-1)
  else
    bd1 (fX5_in0 x2 0 15) fun v12 =>
    if v12 = 0 then
      some (-1)
    else
      bd1 (fX5_in0 x3 0 1) fun v21 =>
      if v21 = 0 then
        some (-1)
      else
        bd1 (ald 35 now (5 + (5 * x1))) fun v38 =>
        bd1 (ald 35 now ((5 + (5 * x1)) + 2)) fun v51 =>
        bd1 (fX5_coversOf v38 x2 v51 x3) fun v53 =>
        some v53
def fX5_covered (asked : Int32) (now : Nat → Int32) : Option (Int32 × Int32) :=
  bd1 (fX5_isAny now) fun v1 =>
  if v1 = 0 then
    some ((-4), asked)
  else
    bd1 (fX5_linesIn 35 now) fun v15 =>
    bd2 (fX5_tells v15) fun v18 asked_18 =>
    bd1 (fX5_coveredBut 35 now 0) fun v27 =>
    some (v27, asked_18)
def fX5_weighs_j97 (rec : Int32 → Int32 → Option Int32) (now : Nat → Int32) (x1 : Int32) (x3 : Int32) (k0 : Int32) (k1 : Int32) : Option Int32 :=
  rec (k0 + k1) (x3 + 1)
def fX5_weighs_j72 (rec : Int32 → Int32 → Option Int32) (now : Nat → Int32) (x1 : Int32) (x2 : Int32) (x3 : Int32) (k0 : Int32) : Option Int32 :=
  if k0 = 0 then
    fX5_weighs_j97 rec now x1 x3 x2 0
  else
    bd1 (ald 35 now (5 + (5 * x3))) fun v89 =>
    bd1 (fX5_weightOf v89) fun v90 =>
    fX5_weighs_j97 rec now x1 x3 x2 v90
def fX5_weighs_j71 (rec : Int32 → Int32 → Option Int32) (now : Nat → Int32) (x1 : Int32) (x2 : Int32) (x3 : Int32) : Option Int32 :=
  fX5_weighs_j72 rec now x1 x2 x3 0
def fX5_weighs_B26 (now : Nat → Int32) (x1 : Int32) (rec : Int32 → Int32 → Option Int32) (x2 : Int32) (x3 : Int32) : Option Int32 :=
  bd1 (ald 35 now 1) fun v32 =>
  if v32 ≤ x3 then
    some x2
  else
    bd1 (ald 35 now ((5 + (5 * x3)) + 4)) fun v47 =>
    if v47 = 0 then
      bd1 (fX5_coverOf 35 now x3) fun v56 =>
      bd1 (fX5_lineOf x1) fun v60 =>
      if (v56 &&& v60) = 0 then
        fX5_weighs_j71 rec now x1 x2 x3
      else
        fX5_weighs_j72 rec now x1 x2 x3 1
    else
      fX5_weighs_j71 rec now x1 x2 x3
def fX5_weighs_L26 (now : Nat → Int32) (x1 : Int32) : Nat → Int32 → Int32 → Option Int32
  | 0 => fun _ _ => none
  | n + 1 => fX5_weighs_B26 now x1 (fX5_weighs_L26 now x1 n)
def fX5_weighs (now : Nat → Int32) (x1 : Int32) : Option Int32 :=
  bd1 (fX5_in0 x1 0 7) fun v4 =>
  if v4 = 0 then
    some (-1)
  else
    bd1 (fX5_isAny now) fun v13 =>
    if v13 = 0 then
      some (-4)
    else
      bd1 (fX5_weighs_L26 now x1 FU 0 0) fun x2_L26 =>
      some x2_L26
def fX5_reads_B39 (x1 : Int32) (rec : (Nat → Int32) → Int32 → Option (Nat → Int32)) (tried : Nat → Int32) (x2 : Int32) : Option (Nat → Int32) :=
  if x1 ≤ x2 then
    some tried
  else
    bd2 (fX5_passes 35 tried) fun v48 tried_48 =>
    rec tried_48 (x2 + 1)
def fX5_reads_L39 (x1 : Int32) : Nat → (Nat → Int32) → Int32 → Option (Nat → Int32)
  | 0 => fun _ _ => none
  | n + 1 => fX5_reads_B39 x1 (fX5_reads_L39 x1 n)
def fX5_reads (asked : Int32) (now : Nat → Int32) (tried : Nat → Int32) (x1 : Int32) : Option (Int32 × Int32 × (Nat → Int32)) :=
  bd1 (fX5_in0 x1 0 40) fun v4 =>
  if v4 = 0 then
    some ((-1), asked, tried)
  else
    bd1 (fX5_isAny now) fun v13 =>
    if v13 = 0 then
      some ((-4), asked, tried)
    else
      bd1 (fX5_copies 35 35 now tried 0 0 35) fun tried_34 =>
      bd1 (fX5_reads_L39 x1 FU tried_34 0) fun tried_L39 =>
      bd1 (ald 35 tried_L39 3) fun v64 =>
      bd2 (fX5_tells v64) fun v65 asked_65 =>
      bd1 (fX5_linesIn 35 tried_L39) fun v73 =>
      some (v73, asked_65, tried_L39)
def fX5_first_B39 (x1 : Int32) (rec : (Nat → Int32) → Int32 → Option ((Int32 × (Nat → Int32)) ⊕ (Nat → Int32))) (tried : Nat → Int32) (x2 : Int32) : Option ((Int32 × (Nat → Int32)) ⊕ (Nat → Int32)) :=
  if 41 ≤ x2 then
    some (.inr tried)
  else
    bd2 (fX5_passes 35 tried) fun v49 tried_49 =>
    bd1 (fX5_has v49 x1) fun v53 =>
    if v53 = 0 then
      rec tried_49 (x2 + 1)
    else
      some (.inl (x2, tried_49))
def fX5_first_L39 (x1 : Int32) : Nat → (Nat → Int32) → Int32 → Option ((Int32 × (Nat → Int32)) ⊕ (Nat → Int32))
  | 0 => fun _ _ => none
  | n + 1 => fX5_first_B39 x1 (fX5_first_L39 x1 n)
def fX5_first (now : Nat → Int32) (tried : Nat → Int32) (x1 : Int32) : Option (Int32 × (Nat → Int32)) :=
  bd1 (fX5_in0 x1 0 7) fun v4 =>
  if v4 = 0 then
    some ((-1), tried)
  else
    bd1 (fX5_isAny now) fun v13 =>
    if v13 = 0 then
      some ((-4), tried)
    else
      bd1 (fX5_copies 35 35 now tried 0 0 35) fun tried_34 =>
      st1 (fX5_first_L39 x1 FU tried_34 1) fun tried_L39 =>
      some ((-9), tried_L39)
def fX5_areRead (tried : Nat → Int32) (x1 : Int32) : Option Int32 :=
  bd1 (fX5_linesIn 35 tried) fun v5 =>
  if (x1 &&& (v5 ^^^ (-1))) = 0 then
    some 1
  else
    some 0
def fX5_answers_j71 (rec : (Nat → Int32) → Int32 → Option (Nat → Int32)) (rows : Nat → Int32) (x1 : Int32) (x2 : Int32) (x3 : Int32) (x4 : Int32) (x5 : Int32) (x6 : Int32) (x7 : Int32) (k1 : Int32) (k2 : Int32) : Option (Nat → Int32) :=
  bd1 (ast 240 rows k1 k2) fun rows_71 =>
  rec rows_71 (x7 + 1)
def fX5_answers_B10 (x1 : Int32) (x2 : Int32) (x3 : Int32) (x4 : Int32) (x5 : Int32) (x6 : Int32) (rec : (Nat → Int32) → Int32 → Option (Nat → Int32)) (rows : Nat → Int32) (x7 : Int32) : Option (Nat → Int32) :=
  if 40 ≤ x7 then
    some rows
  else
    if x7 < x2 then
      if x7 = 0 then
        fX5_answers_j71 rec rows x1 x2 x3 x4 x5 x6 x7 ((40 * x1) + x7) x3
      else
        if x7 = 1 then
          fX5_answers_j71 rec rows x1 x2 x3 x4 x5 x6 x7 ((40 * x1) + x7) x4
        else
          if x7 = 2 then
            fX5_answers_j71 rec rows x1 x2 x3 x4 x5 x6 x7 ((40 * x1) + x7) x5
          else
            fX5_answers_j71 rec rows x1 x2 x3 x4 x5 x6 x7 ((40 * x1) + x7) x6
    else
      fX5_answers_j71 rec rows x1 x2 x3 x4 x5 x6 x7 ((40 * x1) + x7) 0
def fX5_answers_L10 (x1 : Int32) (x2 : Int32) (x3 : Int32) (x4 : Int32) (x5 : Int32) (x6 : Int32) : Nat → (Nat → Int32) → Int32 → Option (Nat → Int32)
  | 0 => fun _ _ => none
  | n + 1 => fX5_answers_B10 x1 x2 x3 x4 x5 x6 (fX5_answers_L10 x1 x2 x3 x4 x5 x6 n)
def fX5_answers (rowSize : Nat → Int32) (rows : Nat → Int32) (x1 : Int32) (x2 : Int32) (x3 : Int32) (x4 : Int32) (x5 : Int32) (x6 : Int32) : Option ((Nat → Int32) × (Nat → Int32)) :=
  bd1 (ast 6 rowSize x1 x2) fun rowSize_6 =>
  bd1 (fX5_answers_L10 x1 x2 x3 x4 x5 x6 FU rows 0) fun rows_L10 =>
  some (rowSize_6, rows_L10)
def fX5_isDown (now : Nat → Int32) (x1 : Int32) : Option Int32 :=
  bd1 (ald 35 now ((5 + (5 * x1)) + 4)) fun v11 =>
  if v11 = 0 then
    some 1
  else
    some 0
def fX5_found_B80 (now : Nat → Int32) (x1 : Int32) (x2 : Int32) (x3 : Int32) (rec : (Nat → Int32) → (Nat → Int32) → (Nat → Int32) → Int32 → Option ((Int32 × (Nat → Int32) × (Nat → Int32) × (Nat → Int32)) ⊕ ((Nat → Int32) × (Nat → Int32) × (Nat → Int32)))) (rowSize : Nat → Int32) (rows : Nat → Int32) (tried : Nat → Int32) (x4 : Int32) : Option ((Int32 × (Nat → Int32) × (Nat → Int32) × (Nat → Int32)) ⊕ ((Nat → Int32) × (Nat → Int32) × (Nat → Int32))) :=
  if 16 ≤ x4 then
    some (.inr (rowSize, rows, tried))
  else
    bd1 (fX5_isDown now x3) fun v89 =>
    if v89 = 0 then
      some (.inr (rowSize, rows, tried))
    else
      bd1 (fX5_copies 35 35 now tried 0 0 35) fun tried_107 =>
      bd1 (ast 35 tried_107 ((5 + (5 * x3)) + 1) x4) fun tried_123 =>
      bd1 (fX5_areRead tried_123 x1) fun v126 =>
      if v126 = 0 then
        rec rowSize rows tried_123 (x4 + 1)
      else
        bd2 (fX5_answers rowSize rows x2 2 x3 x4 0 0) fun rowSize_140 rows_140 =>
        some (.inl (1, rowSize_140, rows_140, tried_123))
def fX5_found_L80 (now : Nat → Int32) (x1 : Int32) (x2 : Int32) (x3 : Int32) : Nat → (Nat → Int32) → (Nat → Int32) → (Nat → Int32) → Int32 → Option ((Int32 × (Nat → Int32) × (Nat → Int32) × (Nat → Int32)) ⊕ ((Nat → Int32) × (Nat → Int32) × (Nat → Int32)))
  | 0 => fun _ _ _ _ => none
  | n + 1 => fX5_found_B80 now x1 x2 x3 (fX5_found_L80 now x1 x2 x3 n)
def fX5_found_B67 (now : Nat → Int32) (x1 : Int32) (x2 : Int32) (rec : (Nat → Int32) → (Nat → Int32) → (Nat → Int32) → Int32 → Option ((Int32 × (Nat → Int32) × (Nat → Int32) × (Nat → Int32)) ⊕ ((Nat → Int32) × (Nat → Int32) × (Nat → Int32)))) (rowSize : Nat → Int32) (rows : Nat → Int32) (tried : Nat → Int32) (x3 : Int32) : Option ((Int32 × (Nat → Int32) × (Nat → Int32) × (Nat → Int32)) ⊕ ((Nat → Int32) × (Nat → Int32) × (Nat → Int32))) :=
  bd1 (ald 35 now 1) fun v73 =>
  if v73 ≤ x3 then
    some (.inr (rowSize, rows, tried))
  else
    sl3 (fX5_found_L80 now x1 x2 x3 FU rowSize rows tried 0) fun rowSize_L80 rows_L80 tried_L80 =>
    rec rowSize_L80 rows_L80 tried_L80 (x3 + 1)
def fX5_found_L67 (now : Nat → Int32) (x1 : Int32) (x2 : Int32) : Nat → (Nat → Int32) → (Nat → Int32) → (Nat → Int32) → Int32 → Option ((Int32 × (Nat → Int32) × (Nat → Int32) × (Nat → Int32)) ⊕ ((Nat → Int32) × (Nat → Int32) × (Nat → Int32)))
  | 0 => fun _ _ _ _ => none
  | n + 1 => fX5_found_B67 now x1 x2 (fX5_found_L67 now x1 x2 n)
def fX5_found_B188 (now : Nat → Int32) (x1 : Int32) (x2 : Int32) (x3 : Int32) (x4 : Int32) (rec : (Nat → Int32) → (Nat → Int32) → (Nat → Int32) → Int32 → Option ((Int32 × (Nat → Int32) × (Nat → Int32) × (Nat → Int32)) ⊕ ((Nat → Int32) × (Nat → Int32) × (Nat → Int32)))) (rowSize : Nat → Int32) (rows : Nat → Int32) (tried : Nat → Int32) (x5 : Int32) : Option ((Int32 × (Nat → Int32) × (Nat → Int32) × (Nat → Int32)) ⊕ ((Nat → Int32) × (Nat → Int32) × (Nat → Int32))) :=
  if 256 ≤ x5 then
    some (.inr (rowSize, rows, tried))
  else
    bd1 (fX5_isDown now x3) fun v198 =>
    if v198 = 0 then
      some (.inr (rowSize, rows, tried))
    else
      bd1 (fX5_isDown now x4) fun v207 =>
      if v207 = 0 then
        some (.inr (rowSize, rows, tried))
      else
        bd1 (fX5_copies 35 35 now tried 0 0 35) fun tried_225 =>
        bd1 (ast 35 tried_225 ((5 + (5 * x3)) + 1) (x5 / 16)) fun tried_244 =>
        bd1 (ast 35 tried_244 ((5 + (5 * x4)) + 1) (x5 - x5 / 16 * 16)) fun tried_262 =>
        bd1 (fX5_areRead tried_262 x1) fun v265 =>
        if v265 = 0 then
          rec rowSize rows tried_262 (x5 + 1)
        else
          bd2 (fX5_answers rowSize rows x2 4 x3 (x5 / 16) x4 (x5 - x5 / 16 * 16)) fun rowSize_287 rows_287 =>
          some (.inl (2, rowSize_287, rows_287, tried_262))
def fX5_found_L188 (now : Nat → Int32) (x1 : Int32) (x2 : Int32) (x3 : Int32) (x4 : Int32) : Nat → (Nat → Int32) → (Nat → Int32) → (Nat → Int32) → Int32 → Option ((Int32 × (Nat → Int32) × (Nat → Int32) × (Nat → Int32)) ⊕ ((Nat → Int32) × (Nat → Int32) × (Nat → Int32)))
  | 0 => fun _ _ _ _ => none
  | n + 1 => fX5_found_B188 now x1 x2 x3 x4 (fX5_found_L188 now x1 x2 x3 x4 n)
def fX5_found_B174 (now : Nat → Int32) (x1 : Int32) (x2 : Int32) (x3 : Int32) (rec : (Nat → Int32) → (Nat → Int32) → (Nat → Int32) → Int32 → Option ((Int32 × (Nat → Int32) × (Nat → Int32) × (Nat → Int32)) ⊕ ((Nat → Int32) × (Nat → Int32) × (Nat → Int32)))) (rowSize : Nat → Int32) (rows : Nat → Int32) (tried : Nat → Int32) (x4 : Int32) : Option ((Int32 × (Nat → Int32) × (Nat → Int32) × (Nat → Int32)) ⊕ ((Nat → Int32) × (Nat → Int32) × (Nat → Int32))) :=
  bd1 (ald 35 now 1) fun v181 =>
  if v181 ≤ x4 then
    some (.inr (rowSize, rows, tried))
  else
    sl3 (fX5_found_L188 now x1 x2 x3 x4 FU rowSize rows tried 0) fun rowSize_L188 rows_L188 tried_L188 =>
    rec rowSize_L188 rows_L188 tried_L188 (x4 + 1)
def fX5_found_L174 (now : Nat → Int32) (x1 : Int32) (x2 : Int32) (x3 : Int32) : Nat → (Nat → Int32) → (Nat → Int32) → (Nat → Int32) → Int32 → Option ((Int32 × (Nat → Int32) × (Nat → Int32) × (Nat → Int32)) ⊕ ((Nat → Int32) × (Nat → Int32) × (Nat → Int32)))
  | 0 => fun _ _ _ _ => none
  | n + 1 => fX5_found_B174 now x1 x2 x3 (fX5_found_L174 now x1 x2 x3 n)
def fX5_found_B159 (now : Nat → Int32) (x1 : Int32) (x2 : Int32) (rec : (Nat → Int32) → (Nat → Int32) → (Nat → Int32) → Int32 → Option ((Int32 × (Nat → Int32) × (Nat → Int32) × (Nat → Int32)) ⊕ ((Nat → Int32) × (Nat → Int32) × (Nat → Int32)))) (rowSize : Nat → Int32) (rows : Nat → Int32) (tried : Nat → Int32) (x3 : Int32) : Option ((Int32 × (Nat → Int32) × (Nat → Int32) × (Nat → Int32)) ⊕ ((Nat → Int32) × (Nat → Int32) × (Nat → Int32))) :=
  bd1 (ald 35 now 1) fun v165 =>
  if v165 ≤ x3 then
    some (.inr (rowSize, rows, tried))
  else
    sl3 (fX5_found_L174 now x1 x2 x3 FU rowSize rows tried (x3 + 1)) fun rowSize_L174 rows_L174 tried_L174 =>
    rec rowSize_L174 rows_L174 tried_L174 (x3 + 1)
def fX5_found_L159 (now : Nat → Int32) (x1 : Int32) (x2 : Int32) : Nat → (Nat → Int32) → (Nat → Int32) → (Nat → Int32) → Int32 → Option ((Int32 × (Nat → Int32) × (Nat → Int32) × (Nat → Int32)) ⊕ ((Nat → Int32) × (Nat → Int32) × (Nat → Int32)))
  | 0 => fun _ _ _ _ => none
  | n + 1 => fX5_found_B159 now x1 x2 (fX5_found_L159 now x1 x2 n)
def fX5_found (rowSize : Nat → Int32) (rows : Nat → Int32) (now : Nat → Int32) (tried : Nat → Int32) (x1 : Int32) (x2 : Int32) : Option (Int32 × (Nat → Int32) × (Nat → Int32) × (Nat → Int32)) :=
  bd1 (fX5_in0 x1 0 255) fun v5 =>
  if v5 = 0 then
    some ((-1), rowSize, rows, tried)
  else
    bd1 (fX5_isRow x2) fun v12 =>
    if v12 = 0 then
      some ((-1), rowSize, rows, tried)
    else
      bd1 (fX5_isAny now) fun v21 =>
      if v21 = 0 then
        some ((-4), rowSize, rows, tried)
      else
        bd1 (fX5_copies 35 35 now tried 0 0 35) fun tried_42 =>
        bd1 (fX5_areRead tried_42 x1) fun v47 =>
        if v47 = 0 then
          st3 (fX5_found_L67 now x1 x2 FU rowSize rows tried_42 0) fun rowSize_L67 rows_L67 tried_L67 =>
          st3 (fX5_found_L159 now x1 x2 FU rowSize_L67 rows_L67 tried_L67 0) fun rowSize_L159 rows_L159 tried_L159 =>
          some ((-9), rowSize_L159, rows_L159, tried_L159)
        else
          bd2 (fX5_answers rowSize rows x2 0 0 0 0 0) fun rowSize_60 rows_60 =>
          some (0, rowSize_60, rows_60, tried_42)
def fX5_best_j103 (rec : (Nat → Int32) → Int32 → Int32 → Int32 → Option ((Nat → Int32) × Int32 × Int32)) (now : Nat → Int32) (tried : Nat → Int32) (x1 : Int32) (x2 : Int32) (x4 : Int32) (k0 : Int32) : Option ((Nat → Int32) × Int32 × Int32) :=
  rec tried x2 k0 (x4 + 1)
def fX5_best_j90 (rec : (Nat → Int32) → Int32 → Int32 → Int32 → Option ((Nat → Int32) × Int32 × Int32)) (now : Nat → Int32) (tried : Nat → Int32) (x1 : Int32) (x3 : Int32) (x4 : Int32) (x5 : Int32) (k0 : Int32) : Option ((Nat → Int32) × Int32 × Int32) :=
  if x5 ≤ x3 then
    fX5_best_j103 rec now tried x1 k0 x4 x3
  else
    fX5_best_j103 rec now tried x1 k0 x4 x5
def fX5_best_B17 (now : Nat → Int32) (x1 : Int32) (rec : (Nat → Int32) → Int32 → Int32 → Int32 → Option ((Nat → Int32) × Int32 × Int32)) (tried : Nat → Int32) (x2 : Int32) (x3 : Int32) (x4 : Int32) : Option ((Nat → Int32) × Int32 × Int32) :=
  if 16 ≤ x4 then
    some (tried, x2, x3)
  else
    bd1 (fX5_copies 35 35 now tried 0 0 35) fun tried_36 =>
    bd1 (ast 35 tried_36 ((5 + (5 * x1)) + 1) x4) fun tried_52 =>
    bd1 (ast 35 tried_52 ((5 + (5 * x1)) + 4) 0) fun tried_65 =>
    bd1 (fX5_linesIn 35 tried_65) fun v70 =>
    bd1 (fX5_ones v70) fun v73 =>
    if v73 ≤ x3 then
      fX5_best_j90 rec now tried_65 x1 x3 x4 v73 x2
    else
      fX5_best_j90 rec now tried_65 x1 x3 x4 v73 x4
def fX5_best_L17 (now : Nat → Int32) (x1 : Int32) : Nat → (Nat → Int32) → Int32 → Int32 → Int32 → Option ((Nat → Int32) × Int32 × Int32)
  | 0 => fun _ _ _ _ => none
  | n + 1 => fX5_best_B17 now x1 (fX5_best_L17 now x1 n)
def fX5_best (asked : Int32) (now : Nat → Int32) (tried : Nat → Int32) (x1 : Int32) : Option (Int32 × Int32 × (Nat → Int32)) :=
  bd1 (fX5_isPeel now x1) fun v2 =>
  if v2 = 0 then
    some ((-1), asked, tried)
  else
    bd3 (fX5_best_L17 now x1 FU tried 0 (-1) 0) fun tried_L17 x2_L17 x3_L17 =>
    bd2 (fX5_tells x3_L17) fun v112 asked_112 =>
    some (x2_L17, asked_112, tried_L17)
def fX5_fills (now : Nat → Int32) (x1 : Int32) (x2 : Int32) : Option Int32 :=
  bd1 (ald 35 now 4) fun v6 =>
  if (x1 &&& (v6 ^^^ (-1))) = 0 then
    bd1 (fX5_coveredBut 35 now 0) fun v22 =>
    bd1 (fX5_linesOf 35 now (v22 ||| x1)) fun v27 =>
    if v27 = x2 then
      some 1
    else
      some 0
  else
    some 0
def fX5_gap_j66 (rec : Int32 → Int32 → Int32 → Option (Int32 × Int32)) (now : Nat → Int32) (x1 : Int32) (x2 : Int32) (x3 : Int32) (x4 : Int32) : Option (Int32 × Int32) :=
  rec x2 x3 (x4 + 1)
def fX5_gap_j62 (rec : Int32 → Int32 → Int32 → Option (Int32 × Int32)) (now : Nat → Int32) (x1 : Int32) (x2 : Int32) (x4 : Int32) (k0 : Int32) : Option (Int32 × Int32) :=
  fX5_gap_j66 rec now x1 (x2 + 1) k0 x4
def fX5_gap_B31 (now : Nat → Int32) (x1 : Int32) (rec : Int32 → Int32 → Int32 → Option (Int32 × Int32)) (x2 : Int32) (x3 : Int32) (x4 : Int32) : Option (Int32 × Int32) :=
  bd1 (ald 35 now 4) fun v38 =>
  if v38 < x4 then
    some (x2, x3)
  else
    bd1 (fX5_fills now x4 x1) fun v46 =>
    if v46 = 0 then
      fX5_gap_j66 rec now x1 x2 x3 x4
    else
      if x2 = 0 then
        fX5_gap_j62 rec now x1 x2 x4 x4
      else
        fX5_gap_j62 rec now x1 x2 x4 x3
def fX5_gap_L31 (now : Nat → Int32) (x1 : Int32) : Nat → Int32 → Int32 → Int32 → Option (Int32 × Int32)
  | 0 => fun _ _ _ => none
  | n + 1 => fX5_gap_B31 now x1 (fX5_gap_L31 now x1 n)
def fX5_gap (asked : Int32) (upper : Int64) (lower : Int64) (now : Nat → Int32) (x1 : Int32) : Option (Int32 × Int32 × Int64 × Int64) :=
  bd1 (fX5_in0 x1 0 255) fun v5 =>
  if v5 = 0 then
    some ((-1), asked, upper, lower)
  else
    bd1 (fX5_isAny now) fun v14 =>
    if v14 = 0 then
      some ((-4), asked, upper, lower)
    else
      bd2 (fX5_gap_L31 now x1 FU 0 (-9) 0) fun x2_L31 x3_L31 =>
      bd2 (fX5_tells x3_L31) fun v85 asked_85 =>
      some (v85, asked_85, (Int32.toInt64 x2_L31), 1)
def fX5_sure_j72 (rec : Int32 → Int32 → Int32 → Int32 → Option (Int32 × Int32 × Int32)) (now : Nat → Int32) (x1 : Int32) (x2 : Int32) (x3 : Int32) (x4 : Int32) (x5 : Int32) : Option (Int32 × Int32 × Int32) :=
  rec x2 x3 x4 (x5 + 1)
def fX5_sure_B38 (now : Nat → Int32) (x1 : Int32) (rec : Int32 → Int32 → Int32 → Int32 → Option (Int32 × Int32 × Int32)) (x2 : Int32) (x3 : Int32) (x4 : Int32) (x5 : Int32) : Option (Int32 × Int32 × Int32) :=
  bd1 (ald 35 now 4) fun v45 =>
  if v45 < x5 then
    some (x2, x3, x4)
  else
    bd1 (fX5_fills now x5 x1) fun v53 =>
    if v53 = 0 then
      fX5_sure_j72 rec now x1 x2 x3 x4 x5
    else
      fX5_sure_j72 rec now x1 (x2 &&& x5) (x3 ||| x5) (x4 + 1) x5
def fX5_sure_L38 (now : Nat → Int32) (x1 : Int32) : Nat → Int32 → Int32 → Int32 → Int32 → Option (Int32 × Int32 × Int32)
  | 0 => fun _ _ _ _ => none
  | n + 1 => fX5_sure_B38 now x1 (fX5_sure_L38 now x1 n)
def fX5_sure (finding : Int32) (asked : Int32) (now : Nat → Int32) (findings : Nat → Int32) (x1 : Int32) : Option (Int32 × Int32 × Int32 × (Nat → Int32)) :=
  bd1 (fX5_in0 x1 0 255) fun v5 =>
  if v5 = 0 then
    some ((-1), finding, asked, findings)
  else
    bd1 (fX5_isAny now) fun v14 =>
    if v14 = 0 then
      some ((-4), finding, asked, findings)
    else
      bd1 (ald 35 now 4) fun v28 =>
      bd3 (fX5_sure_L38 now x1 FU v28 0 0 0) fun x2_L38 x3_L38 x4_L38 =>
      if x4_L38 = 0 then
        bd3 (fX5_found0 findings 4) fun v85 finding_85 findings_85 =>
        some (v85, finding_85, asked, findings_85)
      else
        bd1 (ald 35 now 4) fun v95 =>
        bd2 (fX5_tells (v95 &&& (x3_L38 ^^^ (-1)))) fun v100 asked_100 =>
        some (x2_L38, finding, asked_100, findings)
def fX5_wrongIn_B32 (rowSize : Nat → Int32) (rows : Nat → Int32) (x1 : Int32) (rec : Int32 → Option (Int32 ⊕ Unit)) (x2 : Int32) : Option (Int32 ⊕ Unit) :=
  bd1 (ald 6 rowSize x1) fun v38 =>
  if v38 ≤ x2 then
    some (.inr ())
  else
    bd1 (ald 240 rows ((40 * x1) + x2)) fun v52 =>
    bd1 (fX5_in0 v52 0 255) fun v57 =>
    if v57 = 0 then
      some (.inl 3)
    else
      rec (x2 + 1)
def fX5_wrongIn_L32 (rowSize : Nat → Int32) (rows : Nat → Int32) (x1 : Int32) : Nat → Int32 → Option (Int32 ⊕ Unit)
  | 0 => fun _ => none
  | n + 1 => fX5_wrongIn_B32 rowSize rows x1 (fX5_wrongIn_L32 rowSize rows x1 n)
def fX5_wrongIn (rowSize : Nat → Int32) (rows : Nat → Int32) (x1 : Int32) : Option Int32 :=
  bd1 (ald 6 rowSize x1) fun v5 =>
  if v5 = (-9) then
    some 1
  else
    bd1 (ald 6 rowSize x1) fun v18 =>
    bd1 (fX5_in0 v18 1 10) fun v22 =>
    if v22 = 0 then
      some 5
    else
      st0 (fX5_wrongIn_L32 rowSize rows x1 FU 0) fun _ =>
      some 0
def fX5_isReadSo_j82 (rec : (Nat → Int32) → Int32 → Int32 → Option ((Nat → Int32) × Int32)) (rowSize : Nat → Int32) (rows : Nat → Int32) (tried : Nat → Int32) (x1 : Int32) (x6 : Int32) (k0 : Int32) : Option ((Nat → Int32) × Int32) :=
  rec tried k0 (x6 + 1)
def fX5_isReadSo_j81 (rec : (Nat → Int32) → Int32 → Int32 → Option ((Nat → Int32) × Int32)) (rowSize : Nat → Int32) (rows : Nat → Int32) (tried : Nat → Int32) (x1 : Int32) (x6 : Int32) : Option ((Nat → Int32) × Int32) :=
  fX5_isReadSo_j82 rec rowSize rows tried x1 x6 0
def fX5_isReadSo_B35 (rowSize : Nat → Int32) (rows : Nat → Int32) (x1 : Int32) (rec : (Nat → Int32) → Int32 → Int32 → Option ((Nat → Int32) × Int32)) (tried : Nat → Int32) (x5 : Int32) (x6 : Int32) : Option ((Nat → Int32) × Int32) :=
  bd1 (ald 6 rowSize x1) fun v42 =>
  if v42 ≤ x6 then
    some (tried, x5)
  else
    bd2 (fX5_passes 35 tried) fun v50 tried_50 =>
    if x5 = 0 then
      fX5_isReadSo_j81 rec rowSize rows tried_50 x1 x6
    else
      bd1 (ald 240 rows ((40 * x1) + x6)) fun v73 =>
      if v50 = v73 then
        fX5_isReadSo_j82 rec rowSize rows tried_50 x1 x6 1
      else
        fX5_isReadSo_j81 rec rowSize rows tried_50 x1 x6
def fX5_isReadSo_L35 (rowSize : Nat → Int32) (rows : Nat → Int32) (x1 : Int32) : Nat → (Nat → Int32) → Int32 → Int32 → Option ((Nat → Int32) × Int32)
  | 0 => fun _ _ _ => none
  | n + 1 => fX5_isReadSo_B35 rowSize rows x1 (fX5_isReadSo_L35 rowSize rows x1 n)
def fX5_isReadSo (rowSize : Nat → Int32) (rows : Nat → Int32) (now : Nat → Int32) (tried : Nat → Int32) (x1 : Int32) (x2 : Int32) (x3 : Int32) (x4 : Int32) : Option (Int32 × (Nat → Int32)) :=
  bd1 (fX5_copies 35 35 now tried 0 0 35) fun tried_12 =>
  bd1 (ast 35 tried_12 ((5 + (5 * x2)) + x3) x4) fun tried_28 =>
  bd2 (fX5_isReadSo_L35 rowSize rows x1 FU tried_28 1 0) fun tried_L35 x5_L35 =>
  if x5_L35 &&& 1 = x5_L35 then some (x5_L35, tried_L35) else none
def fX5_places_j68 (rec : (Nat → Int32) → Int32 → Int32 → Option ((Nat → Int32) × Int32)) (rowSize : Nat → Int32) (rows : Nat → Int32) (now : Nat → Int32) (tried : Nat → Int32) (x1 : Int32) (x2 : Int32) (x5 : Int32) (k0 : Int32) (k1 : Int32) : Option ((Nat → Int32) × Int32) :=
  rec tried (k0 ||| k1) (x5 + 1)
def fX5_places_B39 (rowSize : Nat → Int32) (rows : Nat → Int32) (now : Nat → Int32) (x1 : Int32) (x2 : Int32) (rec : (Nat → Int32) → Int32 → Int32 → Option ((Nat → Int32) × Int32)) (tried : Nat → Int32) (x4 : Int32) (x5 : Int32) : Option ((Nat → Int32) × Int32) :=
  if 16 ≤ x5 then
    some (tried, x4)
  else
    bd2 (fX5_isReadSo rowSize rows now tried x2 x1 1 x5) fun v54 tried_54 =>
    if v54 = 0 then
      fX5_places_j68 rec rowSize rows now tried_54 x1 x2 x5 x4 0
    else
      fX5_places_j68 rec rowSize rows now tried_54 x1 x2 x5 x4 ((1 : Int32) <<< (x5 &&& 31))
def fX5_places_L39 (rowSize : Nat → Int32) (rows : Nat → Int32) (now : Nat → Int32) (x1 : Int32) (x2 : Int32) : Nat → (Nat → Int32) → Int32 → Int32 → Option ((Nat → Int32) × Int32)
  | 0 => fun _ _ _ => none
  | n + 1 => fX5_places_B39 rowSize rows now x1 x2 (fX5_places_L39 rowSize rows now x1 x2 n)
def fX5_places (finding : Int32) (rowSize : Nat → Int32) (rows : Nat → Int32) (now : Nat → Int32) (tried : Nat → Int32) (findings : Nat → Int32) (x1 : Int32) (x2 : Int32) : Option (Int32 × Int32 × (Nat → Int32) × (Nat → Int32)) :=
  bd1 (fX5_isPeel now x1) fun v2 =>
  if v2 = 0 then
    some ((-1), finding, tried, findings)
  else
    bd1 (fX5_isRow x2) fun v9 =>
    if v9 = 0 then
      some ((-1), finding, tried, findings)
    else
      bd1 (fX5_wrongIn rowSize rows x2) fun v19 =>
      if v19 ≤ 0 then
        bd2 (fX5_places_L39 rowSize rows now x1 x2 FU tried 0 0) fun tried_L39 x4_L39 =>
        some (x4_L39, finding, tried_L39, findings)
      else
        bd3 (fX5_found0 findings v19) fun v29 finding_29 findings_29 =>
        some (v29, finding_29, tried, findings_29)
def fX5_kinds_j68 (rec : (Nat → Int32) → Int32 → Int32 → Option ((Nat → Int32) × Int32)) (rowSize : Nat → Int32) (rows : Nat → Int32) (now : Nat → Int32) (tried : Nat → Int32) (x1 : Int32) (x2 : Int32) (x5 : Int32) (k0 : Int32) (k1 : Int32) : Option ((Nat → Int32) × Int32) :=
  rec tried (k0 ||| k1) (x5 + 1)
def fX5_kinds_B39 (rowSize : Nat → Int32) (rows : Nat → Int32) (now : Nat → Int32) (x1 : Int32) (x2 : Int32) (rec : (Nat → Int32) → Int32 → Int32 → Option ((Nat → Int32) × Int32)) (tried : Nat → Int32) (x4 : Int32) (x5 : Int32) : Option ((Nat → Int32) × Int32) :=
  if 6 ≤ x5 then
    some (tried, x4)
  else
    bd2 (fX5_isReadSo rowSize rows now tried x2 x1 0 x5) fun v54 tried_54 =>
    if v54 = 0 then
      fX5_kinds_j68 rec rowSize rows now tried_54 x1 x2 x5 x4 0
    else
      fX5_kinds_j68 rec rowSize rows now tried_54 x1 x2 x5 x4 ((1 : Int32) <<< (x5 &&& 31))
def fX5_kinds_L39 (rowSize : Nat → Int32) (rows : Nat → Int32) (now : Nat → Int32) (x1 : Int32) (x2 : Int32) : Nat → (Nat → Int32) → Int32 → Int32 → Option ((Nat → Int32) × Int32)
  | 0 => fun _ _ _ => none
  | n + 1 => fX5_kinds_B39 rowSize rows now x1 x2 (fX5_kinds_L39 rowSize rows now x1 x2 n)
def fX5_kinds (finding : Int32) (rowSize : Nat → Int32) (rows : Nat → Int32) (now : Nat → Int32) (tried : Nat → Int32) (findings : Nat → Int32) (x1 : Int32) (x2 : Int32) : Option (Int32 × Int32 × (Nat → Int32) × (Nat → Int32)) :=
  bd1 (fX5_isPeel now x1) fun v2 =>
  if v2 = 0 then
    some ((-1), finding, tried, findings)
  else
    bd1 (fX5_isRow x2) fun v9 =>
    if v9 = 0 then
      some ((-1), finding, tried, findings)
    else
      bd1 (fX5_wrongIn rowSize rows x2) fun v19 =>
      if v19 ≤ 0 then
        bd2 (fX5_kinds_L39 rowSize rows now x1 x2 FU tried 0 0) fun tried_L39 x4_L39 =>
        some (x4_L39, finding, tried_L39, findings)
      else
        bd3 (fX5_found0 findings v19) fun v29 finding_29 findings_29 =>
        some (v29, finding_29, tried, findings_29)
def fX5_next_j99 (rec : (Nat → Int32) → Int32 → Int32 → Int32 → Option ((Nat → Int32) × Int32 × Int32)) (rowSize : Nat → Int32) (rows : Nat → Int32) (now : Nat → Int32) (tried : Nat → Int32) (x1 : Int32) (x2 : Int32) (x6 : Int32) (x7 : Int32) (x8 : Int32) (x9 : Int32) : Option ((Nat → Int32) × Int32 × Int32) :=
  rec tried x7 x8 (x9 + 1)
def fX5_next_B60 (rowSize : Nat → Int32) (rows : Nat → Int32) (now : Nat → Int32) (x1 : Int32) (x2 : Int32) (x6 : Int32) (rec : (Nat → Int32) → Int32 → Int32 → Int32 → Option ((Nat → Int32) × Int32 × Int32)) (tried : Nat → Int32) (x7 : Int32) (x8 : Int32) (x9 : Int32) : Option ((Nat → Int32) × Int32 × Int32) :=
  if 16 ≤ x9 then
    some (tried, x7, x8)
  else
    bd2 (fX5_isReadSo rowSize rows now tried x2 x1 1 x9) fun v73 tried_73 =>
    if v73 = 0 then
      fX5_next_j99 rec rowSize rows now tried_73 x1 x2 x6 x7 x8 x9
    else
      bd2 (fX5_passes 35 tried_73) fun v88 tried_88 =>
      fX5_next_j99 rec rowSize rows now tried_88 x1 x2 x6 (x7 + 1) (x8 + ((v88 >>> (x6 &&& 31)) &&& 1)) x9
def fX5_next_L60 (rowSize : Nat → Int32) (rows : Nat → Int32) (now : Nat → Int32) (x1 : Int32) (x2 : Int32) (x6 : Int32) : Nat → (Nat → Int32) → Int32 → Int32 → Int32 → Option ((Nat → Int32) × Int32 × Int32)
  | 0 => fun _ _ _ _ => none
  | n + 1 => fX5_next_B60 rowSize rows now x1 x2 x6 (fX5_next_L60 rowSize rows now x1 x2 x6 n)
def fX5_next_j167 (rec : (Nat → Int32) → Int32 → Int32 → Int32 → Option ((Nat → Int32) × Int32 × Int32)) (rowSize : Nat → Int32) (rows : Nat → Int32) (now : Nat → Int32) (tried : Nat → Int32) (x1 : Int32) (x2 : Int32) (x4 : Int32) (x6 : Int32) (k0 : Int32) : Option ((Nat → Int32) × Int32 × Int32) :=
  rec tried x4 k0 (x6 + 1)
def fX5_next_j165 (rec : (Nat → Int32) → Int32 → Int32 → Int32 → Option ((Nat → Int32) × Int32 × Int32)) (rowSize : Nat → Int32) (rows : Nat → Int32) (now : Nat → Int32) (tried : Nat → Int32) (x1 : Int32) (x2 : Int32) (x4 : Int32) (x5 : Int32) (x6 : Int32) : Option ((Nat → Int32) × Int32 × Int32) :=
  fX5_next_j167 rec rowSize rows now tried x1 x2 x4 x6 x5
def fX5_next_j146 (rec : (Nat → Int32) → Int32 → Int32 → Int32 → Option ((Nat → Int32) × Int32 × Int32)) (rowSize : Nat → Int32) (rows : Nat → Int32) (now : Nat → Int32) (tried : Nat → Int32) (x1 : Int32) (x2 : Int32) (x5 : Int32) (x6 : Int32) (x7 : Int32) (x9 : Int32) (k0 : Int32) : Option ((Nat → Int32) × Int32 × Int32) :=
  if x7 ≤ 0 then
    fX5_next_j165 rec rowSize rows now tried x1 x2 k0 x5 x6
  else
    if x5 ≤ x9 then
      fX5_next_j165 rec rowSize rows now tried x1 x2 k0 x5 x6
    else
      fX5_next_j167 rec rowSize rows now tried x1 x2 k0 x6 x9
def fX5_next_j144 (rec : (Nat → Int32) → Int32 → Int32 → Int32 → Option ((Nat → Int32) × Int32 × Int32)) (rowSize : Nat → Int32) (rows : Nat → Int32) (now : Nat → Int32) (tried : Nat → Int32) (x1 : Int32) (x2 : Int32) (x4 : Int32) (x5 : Int32) (x6 : Int32) (x7 : Int32) (x9 : Int32) : Option ((Nat → Int32) × Int32 × Int32) :=
  fX5_next_j146 rec rowSize rows now tried x1 x2 x5 x6 x7 x9 x4
def fX5_next_j125 (rec : (Nat → Int32) → Int32 → Int32 → Int32 → Option ((Nat → Int32) × Int32 × Int32)) (rowSize : Nat → Int32) (rows : Nat → Int32) (now : Nat → Int32) (tried : Nat → Int32) (x1 : Int32) (x2 : Int32) (x4 : Int32) (x5 : Int32) (x6 : Int32) (x7 : Int32) (k0 : Int32) : Option ((Nat → Int32) × Int32 × Int32) :=
  if x7 ≤ 0 then
    fX5_next_j144 rec rowSize rows now tried x1 x2 x4 x5 x6 x7 k0
  else
    if x5 ≤ k0 then
      fX5_next_j144 rec rowSize rows now tried x1 x2 x4 x5 x6 x7 k0
    else
      fX5_next_j146 rec rowSize rows now tried x1 x2 x5 x6 x7 k0 x6
def fX5_next_B44 (rowSize : Nat → Int32) (rows : Nat → Int32) (now : Nat → Int32) (x1 : Int32) (x2 : Int32) (rec : (Nat → Int32) → Int32 → Int32 → Int32 → Option ((Nat → Int32) × Int32 × Int32)) (tried : Nat → Int32) (x4 : Int32) (x5 : Int32) (x6 : Int32) : Option ((Nat → Int32) × Int32 × Int32) :=
  if 8 ≤ x6 then
    some (tried, x4, x5)
  else
    bd3 (fX5_next_L60 rowSize rows now x1 x2 x6 FU tried 0 0 0) fun tried_L60 x7_L60 x8_L60 =>
    if x8_L60 ≤ (x7_L60 - x8_L60) then
      fX5_next_j125 rec rowSize rows now tried_L60 x1 x2 x4 x5 x6 x7_L60 (x7_L60 - x8_L60)
    else
      fX5_next_j125 rec rowSize rows now tried_L60 x1 x2 x4 x5 x6 x7_L60 x8_L60
def fX5_next_L44 (rowSize : Nat → Int32) (rows : Nat → Int32) (now : Nat → Int32) (x1 : Int32) (x2 : Int32) : Nat → (Nat → Int32) → Int32 → Int32 → Int32 → Option ((Nat → Int32) × Int32 × Int32)
  | 0 => fun _ _ _ _ => none
  | n + 1 => fX5_next_B44 rowSize rows now x1 x2 (fX5_next_L44 rowSize rows now x1 x2 n)
def fX5_next (finding : Int32) (asked : Int32) (rowSize : Nat → Int32) (rows : Nat → Int32) (now : Nat → Int32) (tried : Nat → Int32) (findings : Nat → Int32) (x1 : Int32) (x2 : Int32) : Option (Int32 × Int32 × Int32 × (Nat → Int32) × (Nat → Int32)) :=
  bd1 (fX5_isPeel now x1) fun v2 =>
  if v2 = 0 then
    some ((-1), finding, asked, tried, findings)
  else
    bd1 (fX5_isRow x2) fun v9 =>
    if v9 = 0 then
      some ((-1), finding, asked, tried, findings)
    else
      bd1 (fX5_wrongIn rowSize rows x2) fun v19 =>
      if v19 ≤ 0 then
        bd3 (fX5_next_L44 rowSize rows now x1 x2 FU tried (-9) 17 0) fun tried_L44 x4_L44 x5_L44 =>
        if x4_L44 = (-9) then
          some (x4_L44, finding, asked, tried_L44, findings)
        else
          bd2 (fX5_tells x5_L44) fun v185 asked_185 =>
          some (x4_L44, finding, asked_185, tried_L44, findings)
      else
        bd3 (fX5_found0 findings v19) fun v29 finding_29 findings_29 =>
        some (v29, finding_29, asked, tried, findings_29)
def fX5_lengthOf_j39 (rec : Int32 → Int32 → Option Int32) (now : Nat → Int32) (x1 : Int32) (x3 : Int32) (k0 : Int32) (k1 : Int32) : Option Int32 :=
  rec (k0 + k1) (x3 + 1)
def fX5_lengthOf_B4 (now : Nat → Int32) (x1 : Int32) (rec : Int32 → Int32 → Option Int32) (x2 : Int32) (x3 : Int32) : Option Int32 :=
  bd1 (ald 35 now 1) fun v10 =>
  if v10 ≤ x3 then
    some x2
  else
    bd1 (fX5_has x1 x3) fun v17 =>
    if v17 = 0 then
      fX5_lengthOf_j39 rec now x1 x3 x2 0
    else
      bd1 (ald 35 now ((5 + (5 * x3)) + 2)) fun v34 =>
      fX5_lengthOf_j39 rec now x1 x3 x2 v34
def fX5_lengthOf_L4 (now : Nat → Int32) (x1 : Int32) : Nat → Int32 → Int32 → Option Int32
  | 0 => fun _ _ => none
  | n + 1 => fX5_lengthOf_B4 now x1 (fX5_lengthOf_L4 now x1 n)
def fX5_lengthOf (now : Nat → Int32) (x1 : Int32) : Option Int32 :=
  bd1 (fX5_lengthOf_L4 now x1 FU 0 0) fun x2_L4 =>
  some x2_L4
def fX5_sets_j67 (rec : Int32 → Int32 → Int32 → Option (Int32 × Int32)) (now : Nat → Int32) (x1 : Int32) (x2 : Int32) (x3 : Int32) (x4 : Int32) : Option (Int32 × Int32) :=
  rec x2 x3 (x4 + 1)
def fX5_sets_j63 (rec : Int32 → Int32 → Int32 → Option (Int32 × Int32)) (now : Nat → Int32) (x1 : Int32) (x2 : Int32) (x4 : Int32) (k0 : Int32) : Option (Int32 × Int32) :=
  fX5_sets_j67 rec now x1 (x2 + 1) k0 x4
def fX5_sets_B30 (now : Nat → Int32) (x1 : Int32) (rec : Int32 → Int32 → Int32 → Option (Int32 × Int32)) (x2 : Int32) (x3 : Int32) (x4 : Int32) : Option (Int32 × Int32) :=
  bd1 (ald 35 now 1) fun v38 =>
  if ((1 : Int32) <<< (v38 &&& 31)) ≤ x4 then
    some (x2, x3)
  else
    bd1 (fX5_lengthOf now x4) fun v46 =>
    if v46 = x1 then
      if x2 = 0 then
        fX5_sets_j63 rec now x1 x2 x4 x4
      else
        fX5_sets_j63 rec now x1 x2 x4 x3
    else
      fX5_sets_j67 rec now x1 x2 x3 x4
def fX5_sets_L30 (now : Nat → Int32) (x1 : Int32) : Nat → Int32 → Int32 → Int32 → Option (Int32 × Int32)
  | 0 => fun _ _ _ => none
  | n + 1 => fX5_sets_B30 now x1 (fX5_sets_L30 now x1 n)
def fX5_sets (asked : Int32) (upper : Int64) (lower : Int64) (now : Nat → Int32) (x1 : Int32) : Option (Int32 × Int32 × Int64 × Int64) :=
  bd1 (fX5_in0 x1 0 24) fun v4 =>
  if v4 = 0 then
    some ((-1), asked, upper, lower)
  else
    bd1 (fX5_isAny now) fun v13 =>
    if v13 = 0 then
      some ((-4), asked, upper, lower)
    else
      bd2 (fX5_sets_L30 now x1 FU 0 (-9) 0) fun x2_L30 x3_L30 =>
      bd2 (fX5_tells x3_L30) fun v86 asked_86 =>
      some (v86, asked_86, (Int32.toInt64 x2_L30), 1)
def fX5_surely_j75 (rec : Int32 → Int32 → Int32 → Int32 → Option (Int32 × Int32 × Int32)) (now : Nat → Int32) (x1 : Int32) (x2 : Int32) (x3 : Int32) (x4 : Int32) (x5 : Int32) (x6 : Int32) : Option (Int32 × Int32 × Int32) :=
  rec x3 x4 x5 (x6 + 1)
def fX5_surely_B44 (now : Nat → Int32) (x1 : Int32) (x2 : Int32) (rec : Int32 → Int32 → Int32 → Int32 → Option (Int32 × Int32 × Int32)) (x3 : Int32) (x4 : Int32) (x5 : Int32) (x6 : Int32) : Option (Int32 × Int32 × Int32) :=
  if x2 < x6 then
    some (x3, x4, x5)
  else
    bd1 (fX5_lengthOf now x6) fun v53 =>
    if v53 = x1 then
      fX5_surely_j75 rec now x1 x2 (x3 &&& x6) (x4 ||| x6) (x5 + 1) x6
    else
      fX5_surely_j75 rec now x1 x2 x3 x4 x5 x6
def fX5_surely_L44 (now : Nat → Int32) (x1 : Int32) (x2 : Int32) : Nat → Int32 → Int32 → Int32 → Int32 → Option (Int32 × Int32 × Int32)
  | 0 => fun _ _ _ _ => none
  | n + 1 => fX5_surely_B44 now x1 x2 (fX5_surely_L44 now x1 x2 n)
def fX5_surely (finding : Int32) (asked : Int32) (now : Nat → Int32) (findings : Nat → Int32) (x1 : Int32) : Option (Int32 × Int32 × Int32 × (Nat → Int32)) :=
  bd1 (fX5_in0 x1 0 24) fun v4 =>
  if v4 = 0 then
    some ((-1), finding, asked, findings)
  else
    bd1 (fX5_isAny now) fun v13 =>
    if v13 = 0 then
      some ((-4), finding, asked, findings)
    else
      bd1 (ald 35 now 1) fun v28 =>
      bd3 (fX5_surely_L44 now x1 (((1 : Int32) <<< (v28 &&& 31)) - 1) FU (((1 : Int32) <<< (v28 &&& 31)) - 1) 0 0 0) fun x3_L44 x4_L44 x5_L44 =>
      if x5_L44 = 0 then
        bd3 (fX5_found0 findings 4) fun v88 finding_88 findings_88 =>
        some (v88, finding_88, asked, findings_88)
      else
        bd2 (fX5_tells ((((1 : Int32) <<< (v28 &&& 31)) - 1) &&& (x4_L44 ^^^ (-1)))) fun v99 asked_99 =>
        some (x3_L44, finding, asked_99, findings)
def fX5_comes_B30 (x3 : Int32) (rec : Int32 → Int32 → Option Int32) (x4 : Int32) (x5 : Int32) : Option Int32 :=
  if x5 ≤ x3 then
    some x4
  else
    rec (x4 / 7) (x5 + (-1))
def fX5_comes_L30 (x3 : Int32) : Nat → Int32 → Int32 → Option Int32
  | 0 => fun _ _ => none
  | n + 1 => fX5_comes_B30 x3 (fX5_comes_L30 x3 n)
def fX5_comes_j119 (rec : (Nat → Int32) → Int32 → Option ((Int32 × (Nat → Int32)) ⊕ (Nat → Int32))) (now : Nat → Int32) (tried : Nat → Int32) (x1 : Int32) (x2 : Int32) (x3 : Int32) : Option ((Int32 × (Nat → Int32)) ⊕ (Nat → Int32)) :=
  rec tried (x3 + 1)
def fX5_comes_j96 (rec : (Nat → Int32) → Int32 → Option ((Int32 × (Nat → Int32)) ⊕ (Nat → Int32))) (now : Nat → Int32) (tried : Nat → Int32) (x1 : Int32) (x2 : Int32) (x3 : Int32) (x5 : Int32) : Option ((Int32 × (Nat → Int32)) ⊕ (Nat → Int32)) :=
  if x5 < 0 then
    fX5_comes_j119 rec now tried x1 x2 x3
  else
    bd1 (ast 35 tried ((5 + (5 * x5)) + 4) (1 - (x3 - x3 / 2 * 2))) fun tried_118 =>
    fX5_comes_j119 rec now tried_118 x1 x2 x3
def fX5_comes_B17 (now : Nat → Int32) (x1 : Int32) (x2 : Int32) (rec : (Nat → Int32) → Int32 → Option ((Int32 × (Nat → Int32)) ⊕ (Nat → Int32))) (tried : Nat → Int32) (x3 : Int32) : Option ((Int32 × (Nat → Int32)) ⊕ (Nat → Int32)) :=
  if x2 ≤ x3 then
    some (.inr tried)
  else
    bd1 (fX5_comes_L30 x3 FU x1 (x2 - 1)) fun x4_L30 =>
    bd1 (ald 35 now 1) fun v65 =>
    if v65 ≤ ((x4_L30 - x4_L30 / 7 * 7) - 1) then
      some (.inl ((-9), tried))
    else
      if ((x4_L30 - x4_L30 / 7 * 7) - 1) < 0 then
        fX5_comes_j96 rec now tried x1 x2 x3 ((x4_L30 - x4_L30 / 7 * 7) - 1)
      else
        bd1 (ald 35 tried ((5 + (5 * ((x4_L30 - x4_L30 / 7 * 7) - 1))) + 4)) fun v86 =>
        if v86 = (x3 - x3 / 2 * 2) then
          fX5_comes_j96 rec now tried x1 x2 x3 ((x4_L30 - x4_L30 / 7 * 7) - 1)
        else
          some (.inl ((-9), tried))
def fX5_comes_L17 (now : Nat → Int32) (x1 : Int32) (x2 : Int32) : Nat → (Nat → Int32) → Int32 → Option ((Int32 × (Nat → Int32)) ⊕ (Nat → Int32))
  | 0 => fun _ _ => none
  | n + 1 => fX5_comes_B17 now x1 x2 (fX5_comes_L17 now x1 x2 n)
def fX5_comes (now : Nat → Int32) (tried : Nat → Int32) (x1 : Int32) (x2 : Int32) : Option (Int32 × (Nat → Int32)) :=
  bd1 (fX5_copies 35 35 now tried 0 0 35) fun tried_12 =>
  st1 (fX5_comes_L17 now x1 x2 FU tried_12 0) fun tried_L17 =>
  bd2 (fX5_passes 35 tried_L17) fun v129 tried_129 =>
  bd1 (fX5_ones v129) fun v132 =>
  some (v132, tried_129)
def fX5_duel_B25 (x1 : Int32) (rec : Int32 → Int32 → Option Int32) (x2 : Int32) (x3 : Int32) : Option Int32 :=
  if (2 * x1) ≤ x3 then
    some x2
  else
    rec (x2 * 7) (x3 + 1)
def fX5_duel_L25 (x1 : Int32) : Nat → Int32 → Int32 → Option Int32
  | 0 => fun _ _ => none
  | n + 1 => fX5_duel_B25 x1 (fX5_duel_L25 x1 n)
def fX5_duel_B45 (now : Nat → Int32) (x1 : Int32) (x2 : Int32) (rec : (Nat → Int32) → (Nat → Int32) → Int32 → Option ((Nat → Int32) × (Nat → Int32))) (tried : Nat → Int32) (worth : Nat → Int32) (x3 : Int32) : Option ((Nat → Int32) × (Nat → Int32)) :=
  if x2 ≤ x3 then
    some (tried, worth)
  else
    bd2 (fX5_comes now tried x3 (2 * x1)) fun v60 tried_60 =>
    bd1 (ast 2401 worth x3 v60) fun worth_63 =>
    rec tried_60 worth_63 (x3 + 1)
def fX5_duel_L45 (now : Nat → Int32) (x1 : Int32) (x2 : Int32) : Nat → (Nat → Int32) → (Nat → Int32) → Int32 → Option ((Nat → Int32) × (Nat → Int32))
  | 0 => fun _ _ _ => none
  | n + 1 => fX5_duel_B45 now x1 x2 (fX5_duel_L45 now x1 x2 n)
def fX5_duel_j181 (rec : Int32 → Int32 → Option Int32) (worth : Nat → Int32) (x3 : Int32) (x4 : Int32) (x6 : Int32) (k0 : Int32) : Option Int32 :=
  rec k0 (x6 + 1)
def fX5_duel_j167 (rec : Int32 → Int32 → Option Int32) (worth : Nat → Int32) (x3 : Int32) (x4 : Int32) (x5 : Int32) (x6 : Int32) (x7 : Int32) (k0 : Int32) : Option Int32 :=
  if k0 = 0 then
    fX5_duel_j181 rec worth x3 x4 x6 x5
  else
    fX5_duel_j181 rec worth x3 x4 x6 x7
def fX5_duel_j166 (rec : Int32 → Int32 → Option Int32) (worth : Nat → Int32) (x3 : Int32) (x4 : Int32) (x5 : Int32) (x6 : Int32) (x7 : Int32) : Option Int32 :=
  fX5_duel_j167 rec worth x3 x4 x5 x6 x7 0
def fX5_duel_j162 (rec : Int32 → Int32 → Option Int32) (worth : Nat → Int32) (x3 : Int32) (x4 : Int32) (x5 : Int32) (x6 : Int32) (x7 : Int32) : Option Int32 :=
  fX5_duel_j167 rec worth x3 x4 x5 x6 x7 1
def fX5_duel_B109 (worth : Nat → Int32) (x3 : Int32) (x4 : Int32) (rec : Int32 → Int32 → Option Int32) (x5 : Int32) (x6 : Int32) : Option Int32 :=
  if 7 ≤ x6 then
    some x5
  else
    bd1 (ald 2401 worth ((7 * x4) + x6)) fun v128 =>
    if v128 = (-9) then
      fX5_duel_j166 rec worth x3 x4 x5 x6 v128
    else
      if (x3 - x3 / 2 * 2) = 1 then
        if v128 ≤ x5 then
          fX5_duel_j166 rec worth x3 x4 x5 x6 v128
        else
          fX5_duel_j162 rec worth x3 x4 x5 x6 v128
      else
        if x5 ≤ v128 then
          fX5_duel_j166 rec worth x3 x4 x5 x6 v128
        else
          fX5_duel_j162 rec worth x3 x4 x5 x6 v128
def fX5_duel_L109 (worth : Nat → Int32) (x3 : Int32) (x4 : Int32) : Nat → Int32 → Int32 → Option Int32
  | 0 => fun _ _ => none
  | n + 1 => fX5_duel_B109 worth x3 x4 (fX5_duel_L109 worth x3 x4 n)
def fX5_duel_B88 (x2 : Int32) (x3 : Int32) (rec : (Nat → Int32) → Int32 → Option (Nat → Int32)) (worth : Nat → Int32) (x4 : Int32) : Option (Nat → Int32) :=
  if x2 ≤ x4 then
    some worth
  else
    bd1 (ald 2401 worth (7 * x4)) fun v103 =>
    bd1 (fX5_duel_L109 worth x3 x4 FU v103 1) fun x5_L109 =>
    bd1 (ast 2401 worth x4 x5_L109) fun worth_197 =>
    rec worth_197 (x4 + 1)
def fX5_duel_L88 (x2 : Int32) (x3 : Int32) : Nat → (Nat → Int32) → Int32 → Option (Nat → Int32)
  | 0 => fun _ _ => none
  | n + 1 => fX5_duel_B88 x2 x3 (fX5_duel_L88 x2 x3 n)
def fX5_duel_B76  (rec : (Nat → Int32) → Int32 → Int32 → Option (Nat → Int32)) (worth : Nat → Int32) (x2 : Int32) (x3 : Int32) : Option (Nat → Int32) :=
  if x3 < 0 then
    some worth
  else
    bd1 (fX5_duel_L88 (x2 / 7) x3 FU worth 0) fun worth_L88 =>
    rec worth_L88 (x2 / 7) (x3 + (-1))
def fX5_duel_L76  : Nat → (Nat → Int32) → Int32 → Int32 → Option (Nat → Int32)
  | 0 => fun _ _ _ => none
  | n + 1 => fX5_duel_B76 (fX5_duel_L76 n)
def fX5_duel (asked : Int32) (now : Nat → Int32) (tried : Nat → Int32) (worth : Nat → Int32) (x1 : Int32) : Option (Int32 × Int32 × (Nat → Int32) × (Nat → Int32)) :=
  bd1 (fX5_in0 x1 0 2) fun v3 =>
  if v3 = 0 then
    some ((-1), asked, tried, worth)
  else
    bd1 (fX5_isAny now) fun v12 =>
    if v12 = 0 then
      some ((-4), asked, tried, worth)
    else
      bd1 (fX5_duel_L25 x1 FU 1 0) fun x2_L25 =>
      bd2 (fX5_duel_L45 now x1 x2_L25 FU tried worth 0) fun tried_L45 worth_L45 =>
      bd1 (fX5_duel_L76 FU worth_L45 x2_L25 ((2 * x1) - 1)) fun worth_L76 =>
      bd1 (ald 2401 worth_L76 0) fun v216 =>
      bd2 (fX5_tells v216) fun v217 asked_217 =>
      some (v217, asked_217, tried_L45, worth_L76)
def fX5_told_B6  (rec : Int64 → Int64 → Option Int64) (x5 : Int64) (x7 : Int64) : Option Int64 :=
  if (lg_cmp x7 0) = 0 then
    some x5
  else
    if x7 = 0 then none else
    rec x7 (x5 - x5 / x7 * x7)
def fX5_told_L6  : Nat → Int64 → Int64 → Option Int64
  | 0 => fun _ _ => none
  | n + 1 => fX5_told_B6 (fX5_told_L6 n)
def fX5_told  (x1 : Int64) (x3 : Int64) : Option (Int32 × Int64 × Int64) :=
  bd1 (fX5_told_L6 FU x1 x3) fun x5_L6 =>
  if x5_L6 = 0 then none else
  if x5_L6 = 0 then none else
  some (1, (x1 / x5_L6), (x3 / x5_L6))
def fX5_chances_j37 (rec : Int64 → Int32 → Option Int64) (now : Nat → Int32) (x7 : Int32) (k0 : Int64) (k1 : Int64) : Option Int64 :=
  rec (k0 * k1) (x7 + 1)
def fX5_chances_B8 (now : Nat → Int32) (rec : Int64 → Int32 → Option Int64) (x5 : Int64) (x7 : Int32) : Option Int64 :=
  bd1 (ald 35 now 1) fun v15 =>
  if v15 ≤ x7 then
    some x5
  else
    bd1 (fX5_isDown now x7) fun v24 =>
    if v24 = 0 then
      fX5_chances_j37 rec now x7 x5 1
    else
      fX5_chances_j37 rec now x7 x5 12
def fX5_chances_L8 (now : Nat → Int32) : Nat → Int64 → Int32 → Option Int64
  | 0 => fun _ _ => none
  | n + 1 => fX5_chances_B8 now (fX5_chances_L8 now n)
def fX5_chances_j127 (rec : Int64 → Int32 → Option Int64) (now : Nat → Int32) (x2 : Int32) (x7 : Int32) (x10 : Int32) (k0 : Int64) (k1 : Int64) : Option Int64 :=
  rec (k0 * k1) (x10 + 1)
def fX5_chances_B81 (now : Nat → Int32) (x2 : Int32) (x7 : Int32) (rec : Int64 → Int32 → Option Int64) (x8 : Int64) (x10 : Int32) : Option Int64 :=
  bd1 (ald 35 now 1) fun v88 =>
  if v88 ≤ x10 then
    some x8
  else
    bd1 (fX5_isDown now x10) fun v97 =>
    if v97 = 0 then
      fX5_chances_j127 rec now x2 x7 x10 x8 1
    else
      bd1 (fX5_has x7 x10) fun v111 =>
      if v111 = 0 then
        fX5_chances_j127 rec now x2 x7 x10 x8 (Int32.toInt64 (12 - x2))
      else
        fX5_chances_j127 rec now x2 x7 x10 x8 (Int32.toInt64 x2)
def fX5_chances_L81 (now : Nat → Int32) (x2 : Int32) (x7 : Int32) : Nat → Int64 → Int32 → Option Int64
  | 0 => fun _ _ => none
  | n + 1 => fX5_chances_B81 now x2 x7 (fX5_chances_L81 now x2 x7 n)
def fX5_chances_j179 (rec : Int64 → Int32 → Option Int64) (now : Nat → Int32) (x1 : Int32) (x2 : Int32) (x3 : Int64) (x7 : Int32) : Option Int64 :=
  rec x3 (x7 + 1)
def fX5_chances_j175 (rec : Int64 → Int32 → Option Int64) (now : Nat → Int32) (x1 : Int32) (x2 : Int32) (x7 : Int32) (k0 : Int64) (k1 : Int64) (k2 : Int32) : Option Int64 :=
  fX5_chances_j179 rec now x1 x2 (k0 + (k1 * (Int32.toInt64 k2))) x7
def fX5_chances_B49 (now : Nat → Int32) (x1 : Int32) (x2 : Int32) (rec : Int64 → Int32 → Option Int64) (x3 : Int64) (x7 : Int32) : Option Int64 :=
  bd1 (ald 35 now 1) fun v57 =>
  if ((1 : Int32) <<< (v57 &&& 31)) ≤ x7 then
    some x3
  else
    bd1 (fX5_lifted 35 now) fun v68 =>
    if (x7 &&& v68) = 0 then
      bd1 (fX5_chances_L81 now x2 x7 FU 1 0) fun x8_L81 =>
      bd1 (fX5_coveredBut 35 now x7) fun v146 =>
      bd1 (fX5_linesOf 35 now v146) fun v149 =>
      if 0 ≤ x1 then
        fX5_chances_j175 rec now x1 x2 x7 x3 x8_L81 ((v149 >>> (x1 &&& 31)) &&& 1)
      else
        bd1 (fX5_ones v149) fun v163 =>
        fX5_chances_j175 rec now x1 x2 x7 x3 x8_L81 v163
    else
      fX5_chances_j179 rec now x1 x2 x3 x7
def fX5_chances_L49 (now : Nat → Int32) (x1 : Int32) (x2 : Int32) : Nat → Int64 → Int32 → Option Int64
  | 0 => fun _ _ => none
  | n + 1 => fX5_chances_B49 now x1 x2 (fX5_chances_L49 now x1 x2 n)
def fX5_chances (now : Nat → Int32) (x1 : Int32) (x2 : Int32) : Option (Int32 × Int64 × Int64) :=
  bd1 (fX5_chances_L8 now FU 1 0) fun x5_L8 =>
  bd1 (fX5_chances_L49 now x1 x2 FU 0 0) fun x3_L49 =>
  bd3 (fX5_told x3_L49 x5_L8) fun v189 upper_189 lower_189 =>
  some (v189, upper_189, lower_189)
def fX5_odds (upper : Int64) (lower : Int64) (now : Nat → Int32) (x1 : Int32) (x2 : Int32) : Option (Int32 × Int64 × Int64) :=
  bd1 (fX5_in0 x1 0 7) fun v4 =>
  if v4 = 0 then
    some ((-1), upper, lower)
  else
    bd1 (fX5_in0 x2 0 12) fun v14 =>
    if v14 = 0 then
      some ((-1), upper, lower)
    else
      bd1 (fX5_isAny now) fun v23 =>
      if v23 = 0 then
        some ((-4), upper, lower)
      else
        bd3 (fX5_chances now x1 x2) fun v32 upper_32 lower_32 =>
        some (v32, upper_32, lower_32)
def fX5_mid (upper : Int64) (lower : Int64) (now : Nat → Int32) (x1 : Int32) : Option (Int32 × Int64 × Int64) :=
  bd1 (fX5_in0 x1 0 12) fun v4 =>
  if v4 = 0 then
    some ((-1), upper, lower)
  else
    bd1 (fX5_isAny now) fun v13 =>
    if v13 = 0 then
      some ((-4), upper, lower)
    else
      bd3 (fX5_chances now (-1) x1) fun v22 upper_22 lower_22 =>
      some (v22, upper_22, lower_22)
def fX5_lot_j155 (now : Nat → Int32) (k1 : Int32) (k2 : Int32) (k3 : Int32) : Option (Nat → Int32) :=
  bd1 (ast 35 now k1 (k2 ^^^ k3)) fun now_156 =>
  some now_156
def fX5_lot (now : Nat → Int32) (x1 : Int64) : Option (Nat → Int32) :=
  bd1 (ald 35 now 1) fun v19 =>
  if (Int32.toInt64 v19) = 0 then none else
  if 4 ≤ (Int64.toInt32 ((x1 / 8) - (x1 / 8) / 8 * 8)) then
    if (Int64.toInt32 ((x1 / 8) - (x1 / 8) / 8 * 8)) = 4 then
      bd1 (ast 35 now ((5 + (5 * (Int64.toInt32 (x1 - x1 / (Int32.toInt64 v19) * (Int32.toInt64 v19))))) + 1) (Int64.toInt32 ((x1 / 64) - (x1 / 64) / 16 * 16))) fun now_70 =>
      some now_70
    else
      if (Int64.toInt32 ((x1 / 8) - (x1 / 8) / 8 * 8)) = 5 then
        bd1 (ald 35 now ((5 + (5 * (Int64.toInt32 (x1 - x1 / (Int32.toInt64 v19) * (Int32.toInt64 v19))))) + 3)) fun v96 =>
        bd1 (ast 35 now ((5 + (5 * (Int64.toInt32 (x1 - x1 / (Int32.toInt64 v19) * (Int32.toInt64 v19))))) + 3) (1 - v96)) fun now_98 =>
        some now_98
      else
        if (Int64.toInt32 ((x1 / 8) - (x1 / 8) / 8 * 8)) = 6 then
          bd1 (ald 35 now ((5 + (5 * (Int64.toInt32 (x1 - x1 / (Int32.toInt64 v19) * (Int32.toInt64 v19))))) + 4)) fun v125 =>
          bd1 (ast 35 now ((5 + (5 * (Int64.toInt32 (x1 - x1 / (Int32.toInt64 v19) * (Int32.toInt64 v19))))) + 4) (1 - v125)) fun now_127 =>
          some now_127
        else
          bd1 (ald 35 now 4) fun v137 =>
          bd1 (fX5_mayLick now (Int64.toInt32 ((x1 / 64) - (x1 / 64) / 16 * 16))) fun v141 =>
          if v141 = 0 then
            fX5_lot_j155 now 4 v137 0
          else
            fX5_lot_j155 now 4 v137 ((1 : Int32) <<< ((Int64.toInt32 ((x1 / 64) - (x1 / 64) / 16 * 16)) &&& 31))
  else
    bd2 (fX5_passes 35 now) fun v48 now_48 =>
    some now_48
def fX5_lots_B52 (x1 : Int32) (rec : Int32 → (Nat → Int32) → (Nat → Int32) → Int64 → Int32 → Option (Int32 × (Nat → Int32) × (Nat → Int32))) (deeds : Int32) (now : Nat → Int32) (past : Nat → Int32) (x3 : Int64) (x5 : Int32) : Option (Int32 × (Nat → Int32) × (Nat → Int32)) :=
  if x1 ≤ x5 then
    some (deeds, now, past)
  else
    bd2 (fX5_notes deeds now past) fun deeds_69 past_69 =>
    bd1 (fX5_lot now ((x3 * 48271) - (x3 * 48271) / 2147483647 * 2147483647)) fun now_74 =>
    rec deeds_69 now_74 past_69 ((x3 * 48271) - (x3 * 48271) / 2147483647 * 2147483647) (x5 + 1)
def fX5_lots_L52 (x1 : Int32) : Nat → Int32 → (Nat → Int32) → (Nat → Int32) → Int64 → Int32 → Option (Int32 × (Nat → Int32) × (Nat → Int32))
  | 0 => fun _ _ _ _ _ => none
  | n + 1 => fX5_lots_B52 x1 (fX5_lots_L52 x1 n)
def fX5_lots (deeds : Int32) (now : Nat → Int32) (past : Nat → Int32) (x1 : Int32) (x2 : Int32) : Option (Int32 × Int32 × (Nat → Int32) × (Nat → Int32)) :=
  bd1 (fX5_in0 x1 1 20) fun v4 =>
  if v4 = 0 then
    some ((-1), deeds, now, past)
  else
    bd1 (fX5_in0 x2 1 2147483646) fun v14 =>
    if v14 = 0 then
      some ((-1), deeds, now, past)
    else
      bd1 (fX5_isAny now) fun v23 =>
      if v23 = 0 then
        some ((-4), deeds, now, past)
      else
        if (deeds + x1) ≤ 40 then
          bd3 (fX5_lots_L52 x1 FU deeds now past (Int32.toInt64 x2) 0) fun deeds_L52 now_L52 past_L52 =>
          bd1 (ald 35 now_L52 3) fun v88 =>
          some (v88, deeds_L52, now_L52, past_L52)
        else
          some ((-2), deeds, now, past)
def fX5_asked (asked : Int32) : Option Int32 :=
  some asked
def fX5_upper (upper : Int64) : Option Int64 :=
  some upper
def fX5_lower (lower : Int64) : Option Int64 :=
  some lower
def fX5_kindsThere_j37 (rec : Int32 → Int32 → Option Int32) (now : Nat → Int32) (x1 : Int32) (x3 : Int32) (k0 : Int32) (k1 : Int32) : Option Int32 :=
  rec (k0 + k1) (x3 + 1)
def fX5_kindsThere_B4 (now : Nat → Int32) (x1 : Int32) (rec : Int32 → Int32 → Option Int32) (x2 : Int32) (x3 : Int32) : Option Int32 :=
  bd1 (ald 35 now 1) fun v10 =>
  if v10 ≤ x3 then
    some x2
  else
    bd1 (ald 35 now (5 + (5 * x3))) fun v24 =>
    bd1 (fX5_isOf v24 x1) fun v26 =>
    if v26 = 0 then
      fX5_kindsThere_j37 rec now x1 x3 x2 0
    else
      fX5_kindsThere_j37 rec now x1 x3 x2 1
def fX5_kindsThere_L4 (now : Nat → Int32) (x1 : Int32) : Nat → Int32 → Int32 → Option Int32
  | 0 => fun _ _ => none
  | n + 1 => fX5_kindsThere_B4 now x1 (fX5_kindsThere_L4 now x1 n)
def fX5_kindsThere (now : Nat → Int32) (x1 : Int32) : Option Int32 :=
  bd1 (fX5_kindsThere_L4 now x1 FU 0 0) fun x2_L4 =>
  some x2_L4
def fX5_there_j24 (rec : Int32 → Int32 → Option Int32) (n0 : Nat) (a0 : Nat → Int32) (x2 : Int32) (k0 : Int32) (k1 : Int32) : Option Int32 :=
  rec (k0 + k1) (x2 + 1)
def fX5_there_B4 (n0 : Nat) (a0 : Nat → Int32) (rec : Int32 → Int32 → Option Int32) (x1 : Int32) (x2 : Int32) : Option Int32 :=
  if (Int32.ofNat n0) ≤ x2 then
    some x1
  else
    bd1 (ald n0 a0 x2) fun v13 =>
    if v13 = (-9) then
      fX5_there_j24 rec n0 a0 x2 x1 0
    else
      fX5_there_j24 rec n0 a0 x2 x1 1
def fX5_there_L4 (n0 : Nat) (a0 : Nat → Int32) : Nat → Int32 → Int32 → Option Int32
  | 0 => fun _ _ => none
  | n + 1 => fX5_there_B4 n0 a0 (fX5_there_L4 n0 a0 n)
def fX5_there (n0 : Nat) (a0 : Nat → Int32) : Option Int32 :=
  bd1 (fX5_there_L4 n0 a0 FU 0 0) fun x1_L4 =>
  some x1_L4
def fX5_count (deeds : Int32) (rowSize : Nat → Int32) (textSize : Nat → Int32) (now : Nat → Int32) (keptDeeds : Nat → Int32) (x1 : Int32) : Option Int32 :=
  if x1 = 0 then
    bd1 (ald 35 now 1) fun v77 =>
    some v77
  else
  if x1 = 1 then
    bd1 (ald 35 now 0) fun v84 =>
    some v84
  else
  if x1 = 2 then
    bd1 (ald 35 now 2) fun v91 =>
    some v91
  else
  if x1 = 3 then
    some deeds
  else
  if x1 = 4 then
    bd1 (ald 35 now 3) fun v103 =>
    some v103
  else
  if x1 = 5 then
    bd1 (fX5_lifted 35 now) fun v109 =>
    some v109
  else
  if x1 = 6 then
    bd1 (ald 35 now 4) fun v118 =>
    some v118
  else
  if x1 = 7 then
    bd1 (fX5_isAny now) fun v121 =>
    if v121 = 0 then
      some 0
    else
      bd1 (fX5_linesIn 35 now) fun v131 =>
      some v131
  else
  if x1 = 8 then
    bd1 (fX5_coveredBut 35 now 0) fun v144 =>
    bd1 (fX5_ones v144) fun v147 =>
    some v147
  else
  if x1 = 9 then
    bd1 (fX5_kindsThere now 1) fun v153 =>
    some v153
  else
  if x1 = 10 then
    bd1 (fX5_kindsThere now 2) fun v159 =>
    some v159
  else
  if x1 = 11 then
    bd1 (fX5_there 6 rowSize) fun v167 =>
    some v167
  else
  if x1 = 12 then
    bd1 (fX5_there 4 textSize) fun v175 =>
    some v175
  else
  if x1 = 13 then
    bd1 (fX5_there 3 keptDeeds) fun v183 =>
    some v183
  else
  some (-1)
def fX5_finding (finding : Int32) : Option Int32 :=
  some finding
def fX5_findings (findings : Nat → Int32) (x1 : Int32) : Option Int32 :=
  bd1 (fX5_in0 x1 1 5) fun v3 =>
  if v3 = 0 then
    some (-1)
  else
    bd1 (ald 6 findings x1) fun v14 =>
    some v14
def fX5_summed_B43 (n0 : Nat) (n1 : Nat) (a0 : Nat → Int32) (a1 : Nat → Int32) (x4 : Int32) (x7 : Int32) (rec : Int64 → Int32 → Option Int64) (x5 : Int64) (x8 : Int32) : Option Int64 :=
  bd1 (ald n0 a0 x7) fun v48 =>
  if v48 ≤ x8 then
    some x5
  else
    bd1 (ald n1 a1 ((x4 * x7) + x8)) fun v67 =>
    rec ((31 * x5) + (Int32.toInt64 v67)) (x8 + 1)
def fX5_summed_L43 (n0 : Nat) (n1 : Nat) (a0 : Nat → Int32) (a1 : Nat → Int32) (x4 : Int32) (x7 : Int32) : Nat → Int64 → Int32 → Option Int64
  | 0 => fun _ _ => none
  | n + 1 => fX5_summed_B43 n0 n1 a0 a1 x4 x7 (fX5_summed_L43 n0 n1 a0 a1 x4 x7 n)
def fX5_summed_j36 (rec : Int64 → Int32 → Option Int64) (n0 : Nat) (n1 : Nat) (a0 : Nat → Int32) (a1 : Nat → Int32) (x4 : Int32) (x7 : Int32) (k0 : Int64) (k1 : Int32) : Option Int64 :=
  bd1 (fX5_summed_L43 n0 n1 a0 a1 x4 x7 FU (k0 + (Int32.toInt64 k1)) 0) fun x5_L43 =>
  rec x5_L43 (x7 + 1)
def fX5_summed_B6 (n0 : Nat) (n1 : Nat) (a0 : Nat → Int32) (a1 : Nat → Int32) (x4 : Int32) (rec : Int64 → Int32 → Option Int64) (x5 : Int64) (x7 : Int32) : Option Int64 :=
  if (Int32.ofNat n0) ≤ x7 then
    some x5
  else
    bd1 (ald n0 a0 x7) fun v22 =>
    if v22 = (-9) then
      fX5_summed_j36 rec n0 n1 a0 a1 x4 x7 (31 * x5) (-1)
    else
      bd1 (ald n0 a0 x7) fun v35 =>
      fX5_summed_j36 rec n0 n1 a0 a1 x4 x7 (31 * x5) v35
def fX5_summed_L6 (n0 : Nat) (n1 : Nat) (a0 : Nat → Int32) (a1 : Nat → Int32) (x4 : Int32) : Nat → Int64 → Int32 → Option Int64
  | 0 => fun _ _ => none
  | n + 1 => fX5_summed_B6 n0 n1 a0 a1 x4 (fX5_summed_L6 n0 n1 a0 a1 x4 n)
def fX5_summed (n0 : Nat) (n1 : Nat) (a0 : Nat → Int32) (a1 : Nat → Int32) (x0 : Int64) (x4 : Int32) : Option Int64 :=
  bd1 (fX5_summed_L6 n0 n1 a0 a1 x4 FU x0 0) fun x5_L6 =>
  some x5_L6
def fX5_digest_B6 (deeds : Int32) (rowSize : Nat → Int32) (textSize : Nat → Int32) (now : Nat → Int32) (keptDeeds : Nat → Int32) (rec : Int64 → Int32 → Option Int64) (x1 : Int64) (x3 : Int32) : Option Int64 :=
  if 14 ≤ x3 then
    some x1
  else
    bd1 (fX5_count deeds rowSize textSize now keptDeeds x3) fun v19 =>
    rec ((31 * x1) + (Int32.toInt64 v19)) (x3 + 1)
def fX5_digest_L6 (deeds : Int32) (rowSize : Nat → Int32) (textSize : Nat → Int32) (now : Nat → Int32) (keptDeeds : Nat → Int32) : Nat → Int64 → Int32 → Option Int64
  | 0 => fun _ _ => none
  | n + 1 => fX5_digest_B6 deeds rowSize textSize now keptDeeds (fX5_digest_L6 deeds rowSize textSize now keptDeeds n)
def fX5_digest_B46 (now : Nat → Int32) (x3 : Int32) (rec : Int64 → Int32 → Option Int64) (x1 : Int64) (x4 : Int32) : Option Int64 :=
  if 7 ≤ x4 then
    some x1
  else
    bd1 (fX5_tellsOf now x3 x4) fun v62 =>
    rec ((31 * x1) + (Int32.toInt64 v62)) (x4 + 1)
def fX5_digest_L46 (now : Nat → Int32) (x3 : Int32) : Nat → Int64 → Int32 → Option Int64
  | 0 => fun _ _ => none
  | n + 1 => fX5_digest_B46 now x3 (fX5_digest_L46 now x3 n)
def fX5_digest_j113 (rec : Int64 → Int32 → Option Int64) (keptDeeds : Nat → Int32) (x3 : Int32) (k0 : Int64) (k1 : Int32) : Option Int64 :=
  rec (k0 + (Int32.toInt64 k1)) (x3 + 1)
def fX5_digest_B82 (keptDeeds : Nat → Int32) (rec : Int64 → Int32 → Option Int64) (x1 : Int64) (x3 : Int32) : Option Int64 :=
  if 3 ≤ x3 then
    some x1
  else
    bd1 (ald 3 keptDeeds x3) fun v97 =>
    if v97 = (-9) then
      fX5_digest_j113 rec keptDeeds x3 (31 * x1) (-1)
    else
      bd1 (ald 3 keptDeeds x3) fun v112 =>
      fX5_digest_j113 rec keptDeeds x3 (31 * x1) v112
def fX5_digest_L82 (keptDeeds : Nat → Int32) : Nat → Int64 → Int32 → Option Int64
  | 0 => fun _ _ => none
  | n + 1 => fX5_digest_B82 keptDeeds (fX5_digest_L82 keptDeeds n)
def fX5_digest_B33 (now : Nat → Int32) (rec : Int64 → Int32 → Option Int64) (x1 : Int64) (x3 : Int32) : Option Int64 :=
  bd1 (ald 35 now 1) fun v39 =>
  if v39 ≤ x3 then
    some x1
  else
    bd1 (fX5_digest_L46 now x3 FU x1 0) fun x1_L46 =>
    rec x1_L46 (x3 + 1)
def fX5_digest_L33 (now : Nat → Int32) : Nat → Int64 → Int32 → Option Int64
  | 0 => fun _ _ => none
  | n + 1 => fX5_digest_B33 now (fX5_digest_L33 now n)
def fX5_digest (deeds : Int32) (rowSize : Nat → Int32) (rows : Nat → Int32) (textSize : Nat → Int32) (texts : Nat → Int32) (now : Nat → Int32) (keptDeeds : Nat → Int32) : Option Int64 :=
  bd1 (fX5_digest_L6 deeds rowSize textSize now keptDeeds FU 17 0) fun x1_L6 =>
  bd1 (fX5_digest_L33 now FU x1_L6 0) fun x1_L33 =>
  bd1 (fX5_digest_L82 keptDeeds FU x1_L33 0) fun x1_L82 =>
  bd1 (fX5_summed 6 240 rowSize rows x1_L82 40) fun v133 =>
  bd1 (fX5_summed 4 240 textSize texts v133 60) fun v146 =>
  some v146
