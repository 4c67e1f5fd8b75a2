/-! ===== printed by wip/whole/gen.py: pure functions of PeelReadings$Reader ===== -/
def fX0_sign (nI : Nat) (nS : Nat) (text : Int32) (place : Int32) (width : Int32) (items : Nat → Int32) (sizes : Nat → Int32) : Option Int32 :=
  bd1 (fX2_has nS sizes text place) fun v12 =>
  if v12 = 0 then
    some 1000
  else
    bd1 (fX2_get nI nS width items sizes text place) fun v30 =>
    some v30
def fX0_skipBlanks_B2 (nI : Nat) (nS : Nat) (text : Int32) (width : Int32) (items : Nat → Int32) (sizes : Nat → Int32) (rec : Int32 → Int32 → Option Int32) (place : Int32) (x1 : Int32) : Option Int32 :=
  if 60 ≤ x1 then
    some place
  else
    bd1 (fX0_sign nI nS text place width items sizes) fun v9 =>
    if v9 = 32 then
      rec (place + 1) (x1 + 1)
    else
      some place
def fX0_skipBlanks_L2 (nI : Nat) (nS : Nat) (text : Int32) (width : Int32) (items : Nat → Int32) (sizes : Nat → Int32) : Nat → Int32 → Int32 → Option Int32
  | 0 => fun _ _ => none
  | n + 1 => fX0_skipBlanks_B2 nI nS text width items sizes (fX0_skipBlanks_L2 nI nS text width items sizes n)
def fX0_skipBlanks (nI : Nat) (nS : Nat) (text : Int32) (place : Int32) (width : Int32) (items : Nat → Int32) (sizes : Nat → Int32) : Option Int32 :=
  bd1 (fX0_skipBlanks_L2 nI nS text width items sizes FU place 0) fun place_L2 =>
  some place_L2
def fX0_figure (nI : Nat) (nS : Nat) (text : Int32) (place : Int32) (width : Int32) (items : Nat → Int32) (sizes : Nat → Int32) (x1 : Int32) (x2 : Int32) : Option (Int32 × Int32) :=
  bd1 (fX0_sign nI nS text place width items sizes) fun v1 =>
  if (v1 - 48) < x1 then
    some ((-9), place)
  else
    if (v1 - 48) ≤ x2 then
      some ((v1 - 48), (place + 1))
    else
      some ((-9), place)
def fX0_kindBy  (x0 : Int32) : Option Int32 :=
  if x0 = 99 then
    some 3
  else
  if x0 = 104 then
    some 4
  else
  if x0 = 105 then
    some 5
  else
  if x0 = 108 then
    some 2
  else
  if x0 = 112 then
    some 0
  else
  if x0 = 116 then
    some 1
  else
  some (-9)
def fX0_readPeel_j111 (place : Int32) (size : Int32) (kinds : Nat → Int32) (places : Nat → Int32) (lengths : Nat → Int32) (downs : Nat → Int32) (covers : Nat → Int32) (x1 : Int32) (x2 : Int32) (x3 : Int32) (x4 : Int32) (k0 : Int32) : Option (Int32 × Int32 × Int32 × (Nat → Int32) × (Nat → Int32) × (Nat → Int32) × (Nat → Int32) × (Nat → Int32)) :=
  if k0 = (-9) then
    some (place, place, size, kinds, places, lengths, downs, covers)
  else
    bd6 (fX3_add size kinds places lengths downs covers x1 ((x2 * 10) + x3) x4 k0) fun size_140 kinds_140 places_140 lengths_140 downs_140 covers_140 =>
    some ((-9), place, size_140, kinds_140, places_140, lengths_140, downs_140, covers_140)
def fX0_readPeel_j55 (nI : Nat) (nS : Nat) (text : Int32) (place : Int32) (width : Int32) (items : Nat → Int32) (sizes : Nat → Int32) (size : Int32) (kinds : Nat → Int32) (places : Nat → Int32) (lengths : Nat → Int32) (downs : Nat → Int32) (covers : Nat → Int32) (x1 : Int32) (x2 : Int32) (k0 : Int32) : Option (Int32 × Int32 × Int32 × (Nat → Int32) × (Nat → Int32) × (Nat → Int32) × (Nat → Int32) × (Nat → Int32)) :=
  if k0 = (-9) then
    some (place, place, size, kinds, places, lengths, downs, covers)
  else
    if ((x2 * 10) + k0) < 16 then
      bd2 (fX0_figure nI nS text place width items sizes 1 4) fun v88 place_88 =>
      if v88 = (-9) then
        fX0_readPeel_j111 place_88 size kinds places lengths downs covers x1 x2 k0 v88 (-9)
      else
        bd2 (fX0_figure nI nS text place_88 width items sizes 0 1) fun v108 place_108 =>
        fX0_readPeel_j111 place_108 size kinds places lengths downs covers x1 x2 k0 v88 v108
    else
      some ((place - 2), place, size, kinds, places, lengths, downs, covers)
def fX0_readPeel (nI : Nat) (nS : Nat) (text : Int32) (place : Int32) (width : Int32) (items : Nat → Int32) (sizes : Nat → Int32) (size : Int32) (kinds : Nat → Int32) (places : Nat → Int32) (lengths : Nat → Int32) (downs : Nat → Int32) (covers : Nat → Int32) : Option (Int32 × Int32 × Int32 × (Nat → Int32) × (Nat → Int32) × (Nat → Int32) × (Nat → Int32) × (Nat → Int32)) :=
  bd1 (fX0_sign nI nS text place width items sizes) fun v1 =>
  bd1 (fX0_kindBy v1) fun v4 =>
  if v4 = (-9) then
    some (place, place, size, kinds, places, lengths, downs, covers)
  else
    bd2 (fX0_figure nI nS text (place + 1) width items sizes 0 9) fun v33 place_33 =>
    if v33 = (-9) then
      fX0_readPeel_j55 nI nS text place_33 width items sizes size kinds places lengths downs covers v4 v33 (-9)
    else
      bd2 (fX0_figure nI nS text place_33 width items sizes 0 9) fun v52 place_52 =>
      fX0_readPeel_j55 nI nS text place_52 width items sizes size kinds places lengths downs covers v4 v33 v52
def fX0_read_B77 (nI : Nat) (nS : Nat) (text : Int32) (width : Int32) (items : Nat → Int32) (sizes : Nat → Int32) (need : Int32) (lifted : Int32) (licked : Int32) (morning : Int32) (tally : Int32) (rec : Int32 → Int32 → (Nat → Int32) → (Nat → Int32) → (Nat → Int32) → (Nat → Int32) → (Nat → Int32) → Int32 → Option ((Int32 × Int32 × Int32 × Int32 × Int32 × Int32 × Int32 × Int32 × Int32 × (Nat → Int32) × (Nat → Int32) × (Nat → Int32) × (Nat → Int32) × (Nat → Int32)) ⊕ (Int32 × Int32 × (Nat → Int32) × (Nat → Int32) × (Nat → Int32) × (Nat → Int32) × (Nat → Int32)))) (place : Int32) (size : Int32) (kinds : Nat → Int32) (places : Nat → Int32) (lengths : Nat → Int32) (downs : Nat → Int32) (covers : Nat → Int32) (x3 : Int32) : Option ((Int32 × Int32 × Int32 × Int32 × Int32 × Int32 × Int32 × Int32 × Int32 × (Nat → Int32) × (Nat → Int32) × (Nat → Int32) × (Nat → Int32) × (Nat → Int32)) ⊕ (Int32 × Int32 × (Nat → Int32) × (Nat → Int32) × (Nat → Int32) × (Nat → Int32) × (Nat → Int32))) :=
  if 6 ≤ x3 then
    some (.inr (place, size, kinds, places, lengths, downs, covers))
  else
    bd1 (fX0_sign nI nS text place width items sizes) fun v84 =>
    if v84 = 1000 then
      some (.inr (place, size, kinds, places, lengths, downs, covers))
    else
      bd8 (fX0_readPeel nI nS text place width items sizes size kinds places lengths downs covers) fun v94 place_94 size_94 kinds_94 places_94 lengths_94 downs_94 covers_94 =>
      if v94 = (-9) then
        bd1 (fX0_skipBlanks nI nS text place_94 width items sizes) fun place_110 =>
        rec place_110 size_94 kinds_94 places_94 lengths_94 downs_94 covers_94 (x3 + 1)
      else
        some (.inl (v94, text, place_94, size_94, need, lifted, licked, morning, tally, kinds_94, places_94, lengths_94, downs_94, covers_94))
def fX0_read_L77 (nI : Nat) (nS : Nat) (text : Int32) (width : Int32) (items : Nat → Int32) (sizes : Nat → Int32) (need : Int32) (lifted : Int32) (licked : Int32) (morning : Int32) (tally : Int32) : Nat → Int32 → Int32 → (Nat → Int32) → (Nat → Int32) → (Nat → Int32) → (Nat → Int32) → (Nat → Int32) → Int32 → Option ((Int32 × Int32 × Int32 × Int32 × Int32 × Int32 × Int32 × Int32 × Int32 × (Nat → Int32) × (Nat → Int32) × (Nat → Int32) × (Nat → Int32) × (Nat → Int32)) ⊕ (Int32 × Int32 × (Nat → Int32) × (Nat → Int32) × (Nat → Int32) × (Nat → Int32) × (Nat → Int32)))
  | 0 => fun _ _ _ _ _ _ _ _ => none
  | n + 1 => fX0_read_B77 nI nS text width items sizes need lifted licked morning tally (fX0_read_L77 nI nS text width items sizes need lifted licked morning tally n)
def fX0_read_j144 (text : Int32) (place : Int32) (size : Int32) (need : Int32) (lifted : Int32) (licked : Int32) (morning : Int32) (tally : Int32) (kinds : Nat → Int32) (places : Nat → Int32) (lengths : Nat → Int32) (downs : Nat → Int32) (covers : Nat → Int32) : Option (Int32 × Int32 × Int32 × Int32 × Int32 × Int32 × Int32 × Int32 × Int32 × (Nat → Int32) × (Nat → Int32) × (Nat → Int32) × (Nat → Int32) × (Nat → Int32)) :=
  some (place, text, place, size, need, lifted, licked, morning, tally, kinds, places, lengths, downs, covers)
def fX0_read (nI : Nat) (nS : Nat) (width : Int32) (items : Nat → Int32) (sizes : Nat → Int32) (kinds : Nat → Int32) (places : Nat → Int32) (lengths : Nat → Int32) (downs : Nat → Int32) (covers : Nat → Int32) (x1 : Int32) : Option (Int32 × Int32 × Int32 × Int32 × Int32 × Int32 × Int32 × Int32 × Int32 × (Nat → Int32) × (Nat → Int32) × (Nat → Int32) × (Nat → Int32) × (Nat → Int32)) :=
  bd6 fX3_clear fun size_14 need_14 lifted_14 licked_14 morning_14 tally_14 =>
  bd1 (fX0_skipBlanks nI nS x1 0 width items sizes) fun place_18 =>
  bd1 (fX0_sign nI nS x1 place_18 width items sizes) fun v22 =>
  if v22 = 110 then
    bd2 (fX0_figure nI nS x1 (place_18 + 1) width items sizes 1 4) fun v48 place_48 =>
    if v48 = (-9) then
      some (place_48, x1, place_48, size_14, need_14, lifted_14, licked_14, morning_14, tally_14, kinds, places, lengths, downs, covers)
    else
      bd1 (fX0_skipBlanks nI nS x1 place_48 width items sizes) fun place_72 =>
      st7 (fX0_read_L77 nI nS x1 width items sizes v48 lifted_14 licked_14 morning_14 tally_14 FU place_72 size_14 kinds places lengths downs covers 0) fun place_L77 size_L77 kinds_L77 places_L77 lengths_L77 downs_L77 covers_L77 =>
      if size_L77 ≤ 0 then
        fX0_read_j144 x1 place_L77 size_L77 v48 lifted_14 licked_14 morning_14 tally_14 kinds_L77 places_L77 lengths_L77 downs_L77 covers_L77
      else
        bd1 (fX0_sign nI nS x1 place_L77 width items sizes) fun v130 =>
        if v130 = 1000 then
          some ((-9), x1, place_L77, size_L77, v48, lifted_14, licked_14, morning_14, tally_14, kinds_L77, places_L77, lengths_L77, downs_L77, covers_L77)
        else
          fX0_read_j144 x1 place_L77 size_L77 v48 lifted_14 licked_14 morning_14 tally_14 kinds_L77 places_L77 lengths_L77 downs_L77 covers_L77
  else
    some (place_18, x1, place_18, size_14, need_14, lifted_14, licked_14, morning_14, tally_14, kinds, places, lengths, downs, covers)
