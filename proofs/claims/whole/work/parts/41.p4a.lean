/-! ===== printed by wip/whole/gen.py: contracts of PeelReadings ===== -/
set_option maxRecDepth 100000 in
set_option maxHeartbeats 4000000 in
theorem cc_X4_isIn {l : Launch} {D : va_G} {cI : ClassId} {tL : Nat} (x0 : Int32) (x1 : Int32) (r' : Int32) (h : fX4_isIn x0 x1 = some r') : Ci l D cI tL yX4_isIn cX4_isIn 2 .boolean rmX4_isIn [] [.int x0, .int x1] r' [] := by
  refine Ci_of (own := RX4) (by decide) (Nat.le_of_ble_eq_true rfl) rfl ?_
  intro p e s m below meth c Q A AV hc hret ls hl hG
  obtain ⟨hx, hb, hml, hown, hts, hK, hA, hz⟩ := id hc
  have hl : lv_has ls 2 [(0, .int x0), (1, .int x1)] := hl
  unfold fX4_isIn at h
  refine lv_iload_n hx hb dX4_isIn_0 rfl (lv_at hl 0 rfl) ?_
  refine lv_if_lt (tgt := 13) hx hb dX4_isIn_1 (by decide) (fun c1 => ?_) (fun c1 => ?_)
  · rw [if_pos c1] at h
    refine lv_iconst (v := 0) hx hb dX4_isIn_13 (by decide) ?_
    cases h
    exact hret _ _ _ _ hG dX4_isIn_14 rfl
  · rw [if_neg c1] at h
    refine lv_iload_n hx hb dX4_isIn_4 rfl (lv_at hl 0 rfl) ?_
    refine lv_iload_n hx hb dX4_isIn_5 rfl (lv_at hl 1 rfl) ?_
    refine lv_icmp_ge (tgt := 13) hx hb dX4_isIn_6 (by decide) (fun c6 => ?_) (fun c6 => ?_)
    · rw [if_pos c6] at h
      refine lv_iconst (v := 0) hx hb dX4_isIn_13 (by decide) ?_
      cases h
      exact hret _ _ _ _ hG dX4_isIn_14 rfl
    · rw [if_neg c6] at h
      refine lv_iconst (v := 1) hx hb dX4_isIn_9 (by decide) ?_
      refine lv_goto (tgt := 14) hx hb dX4_isIn_10 (by decide) ?_
      cases h
      exact hret _ _ _ _ hG dX4_isIn_14 rfl
set_option maxRecDepth 100000 in
set_option maxHeartbeats 4000000 in
theorem cc_X4_isRow {l : Launch} {D : va_G} {cI : ClassId} {tL : Nat} (x0 : Int32) (r' : Int32) (h : fX4_isRow x0 = some r') : Ci l D cI tL yX4_isRow cX4_isRow 1 .boolean rmX4_isRow [] [.int x0] r' [] := by
  refine Ci_of (own := RX4) (by decide) (Nat.le_of_ble_eq_true rfl) rfl ?_
  intro p e s m below meth c Q A AV hc hret ls hl hG
  obtain ⟨hx, hb, hml, hown, hts, hK, hA, hz⟩ := id hc
  have hl : lv_has ls 1 [(0, .int x0)] := hl
  unfold fX4_isRow at h
  refine lv_iload_n hx hb dX4_isRow_0 rfl (lv_at hl 0 rfl) ?_
  refine lv_bipush (v := 6) hx hb dX4_isRow_1 (by decide) ?_
  obtain ⟨v3, e3, h⟩ := bd1_some h
  refine x_si0 (rest := []) hc hG (cc_X4_isIn x0 6 v3 e3) lX4_124 ⟨rfl, rfl, by decide, by decide⟩ rfl hl.1 (Nat.le_of_ble_eq_true rfl) rfl dX4_isRow_3 (fun H locs hG => ?_)
  by_cases cz : v3 &&& 1 = v3
  · rw [if_pos cz] at h
    cases h
    exact hret _ _ _ _ hG dX4_isRow_6 (nb cz)
  · rw [if_neg cz] at h
    cases h
set_option maxRecDepth 100000 in
set_option maxHeartbeats 4000000 in
theorem cc_X4_find {l : Launch} {D : va_G} {cI : ClassId} {tL : Nat} (ad : Nat → Nat) (finding : Int32) (asked : Int32) (upper : Int64) (lower : Int64) (r_items : Nat → Int32) (r_sizes : Nat → Int32) (t_items : Nat → Int32) (t_sizes : Nat → Int32) (d_items : Nat → Int32) (d_sizes : Nat → Int32) (st_size : Int32) (st_need : Int32) (st_lifted : Int32) (st_licked : Int32) (st_morning : Int32) (st_tally : Int32) (st_kinds : Nat → Int32) (st_places : Nat → Int32) (st_lengths : Nat → Int32) (st_downs : Nat → Int32) (st_covers : Nat → Int32) (sl_size : Int32) (sl_need : Int32) (sl_lifted : Int32) (sl_licked : Int32) (sl_morning : Int32) (sl_tally : Int32) (sl_kinds : Nat → Int32) (sl_places : Nat → Int32) (sl_lengths : Nat → Int32) (sl_downs : Nat → Int32) (sl_covers : Nat → Int32) (as_size : Int32) (as_need : Int32) (as_lifted : Int32) (as_licked : Int32) (as_morning : Int32) (as_tally : Int32) (as_kinds : Nat → Int32) (as_places : Nat → Int32) (as_lengths : Nat → Int32) (as_downs : Nat → Int32) (as_covers : Nat → Int32) (text : Int32) (place : Int32) (count : Int32) (least : Int32) (inAll : Int32) (inSome : Int32) (scratch : Nat → Int32) (findings : Nat → Int32) (x1 : Int32) (r' : Int32) (finding' : Int32) (findings' : Nat → Int32) (h : fX4_find findings x1 = some (r', finding', findings')) : Ci l D cI tL yX4_find cX4_find 2 .int rmX4_find (wX4 cI ad finding asked upper lower r_items r_sizes t_items t_sizes d_items d_sizes st_size st_need st_lifted st_licked st_morning st_tally st_kinds st_places st_lengths st_downs st_covers sl_size sl_need sl_lifted sl_licked sl_morning sl_tally sl_kinds sl_places sl_lengths sl_downs sl_covers as_size as_need as_lifted as_licked as_morning as_tally as_kinds as_places as_lengths as_downs as_covers text place count least inAll inSome scratch findings) [.ref (ad 0), .int x1] r' (wX4 cI ad finding' asked upper lower r_items r_sizes t_items t_sizes d_items d_sizes st_size st_need st_lifted st_licked st_morning st_tally st_kinds st_places st_lengths st_downs st_covers sl_size sl_need sl_lifted sl_licked sl_morning sl_tally sl_kinds sl_places sl_lengths sl_downs sl_covers as_size as_need as_lifted as_licked as_morning as_tally as_kinds as_places as_lengths as_downs as_covers text place count least inAll inSome scratch findings') := by
  refine Ci_of (own := RX4) (by decide) (Nat.le_of_ble_eq_true rfl) rfl ?_
  intro p e s m below meth c Q A AV hc hret ls hl hG
  obtain ⟨hx, hb, hml, hown, hts, hK, hA, hz⟩ := id hc
  have hl : lv_has ls 2 [(0, .ref (ad 0)), (1, .int x1)] := hl
  unfold fX4_find at h
  refine lv_aload_n hx hb dX4_find_0 rfl (lv_at hl 0 rfl) ?_
  refine lv_iload_n hx hb dX4_find_1 rfl (lv_at hl 1 rfl) ?_
  refine x_put (ws' := (wX4 cI ad x1 asked upper lower r_items r_sizes t_items t_sizes d_items d_sizes st_size st_need st_lifted st_licked st_morning st_tally st_kinds st_places st_lengths st_downs st_covers sl_size sl_need sl_lifted sl_licked sl_morning sl_tally sl_kinds sl_places sl_lengths sl_downs sl_covers as_size as_need as_lifted as_licked as_morning as_tally as_kinds as_places as_lengths as_downs as_covers text place count least inAll inSome scratch findings)) hc hG 0 rfl iX4 tyX4 tyX4_ok nmX4 10 lX4_301 rfl rfl rfl (Nat.le_of_ble_eq_true rfl) rfl dX4_find_2 (fun H locs hG => ?_)
  refine lv_iload_n hx hb dX4_find_5 rfl (lv_at hl 1 rfl) ?_
  refine lv_iconst (v := 1) hx hb dX4_find_6 (by decide) ?_
  refine lv_icmp_lt (tgt := 25) hx hb dX4_find_7 (by decide) (fun c7 => ?_) (fun c7 => ?_)
  · rw [if_pos c7] at h
    refine lv_bipush (v := (-3)) hx hb dX4_find_25 (by decide) ?_
    cases h
    exact hret _ _ _ _ hG dX4_find_27 rfl
  · rw [if_neg c7] at h
    refine lv_iload_n hx hb dX4_find_10 rfl (lv_at hl 1 rfl) ?_
    refine lv_iconst (v := 5) hx hb dX4_find_11 (by decide) ?_
    refine lv_icmp_gt (tgt := 25) hx hb dX4_find_12 (by decide) (fun c12 => ?_) (fun c12 => ?_)
    · rw [if_pos c12] at h
      refine lv_bipush (v := (-3)) hx hb dX4_find_25 (by decide) ?_
      cases h
      exact hret _ _ _ _ hG dX4_find_27 rfl
    · rw [if_neg c12] at h
      refine lv_aload_n hx hb dX4_find_15 rfl (lv_at hl 0 rfl) ?_
      refine x_get hc hG 0 rfl iX4 9 lX4_61 rfl dX4_find_16 ?_
      refine lv_iload_n hx hb dX4_find_19 rfl (lv_at hl 1 rfl) ?_
      refine lv_dup2_11 hx hb dX4_find_20 rfl rfl ?_
      obtain ⟨v21, e21, h⟩ := bd1_some h
      refine x_ald hc hG 31 rfl e21 dX4_find_21 ?_
      refine lv_iconst (v := 1) hx hb dX4_find_22 (by decide) ?_
      refine lv_iadd hx hb dX4_find_23 ?_
      obtain ⟨findings_24, e24, h⟩ := bd1_some h
      refine x_ast (ws' := (wX4 cI ad x1 asked upper lower r_items r_sizes t_items t_sizes d_items d_sizes st_size st_need st_lifted st_licked st_morning st_tally st_kinds st_places st_lengths st_downs st_covers sl_size sl_need sl_lifted sl_licked sl_morning sl_tally sl_kinds sl_places sl_lengths sl_downs sl_covers as_size as_need as_lifted as_licked as_morning as_tally as_kinds as_places as_lengths as_downs as_covers text place count least inAll inSome scratch findings_24)) hc hG 31 rfl e24 rfl dX4_find_24 (fun H locs hG => ?_)
      refine lv_bipush (v := (-3)) hx hb dX4_find_25 (by decide) ?_
      cases h
      exact hret _ _ _ _ hG dX4_find_27 rfl
set_option maxRecDepth 100000 in
set_option maxHeartbeats 4000000 in
theorem cc_X4_row {l : Launch} {D : va_G} {cI : ClassId} {tL : Nat} (ad : Nat → Nat) (finding : Int32) (asked : Int32) (upper : Int64) (lower : Int64) (r_items : Nat → Int32) (r_sizes : Nat → Int32) (t_items : Nat → Int32) (t_sizes : Nat → Int32) (d_items : Nat → Int32) (d_sizes : Nat → Int32) (st_size : Int32) (st_need : Int32) (st_lifted : Int32) (st_licked : Int32) (st_morning : Int32) (st_tally : Int32) (st_kinds : Nat → Int32) (st_places : Nat → Int32) (st_lengths : Nat → Int32) (st_downs : Nat → Int32) (st_covers : Nat → Int32) (sl_size : Int32) (sl_need : Int32) (sl_lifted : Int32) (sl_licked : Int32) (sl_morning : Int32) (sl_tally : Int32) (sl_kinds : Nat → Int32) (sl_places : Nat → Int32) (sl_lengths : Nat → Int32) (sl_downs : Nat → Int32) (sl_covers : Nat → Int32) (as_size : Int32) (as_need : Int32) (as_lifted : Int32) (as_licked : Int32) (as_morning : Int32) (as_tally : Int32) (as_kinds : Nat → Int32) (as_places : Nat → Int32) (as_lengths : Nat → Int32) (as_downs : Nat → Int32) (as_covers : Nat → Int32) (text : Int32) (place : Int32) (count : Int32) (least : Int32) (inAll : Int32) (inSome : Int32) (scratch : Nat → Int32) (findings : Nat → Int32) (x1 : Int32) (x2 : Int32) (r' : Int32) (finding' : Int32) (r_items' : Nat → Int32) (r_sizes' : Nat → Int32) (findings' : Nat → Int32) (h : fX4_row finding r_items r_sizes findings x1 x2 = some (r', finding', r_items', r_sizes', findings')) : Ci l D cI tL yX4_row cX4_row 3 .int rmX4_row (wX4 cI ad finding asked upper lower r_items r_sizes t_items t_sizes d_items d_sizes st_size st_need st_lifted st_licked st_morning st_tally st_kinds st_places st_lengths st_downs st_covers sl_size sl_need sl_lifted sl_licked sl_morning sl_tally sl_kinds sl_places sl_lengths sl_downs sl_covers as_size as_need as_lifted as_licked as_morning as_tally as_kinds as_places as_lengths as_downs as_covers text place count least inAll inSome scratch findings) [.ref (ad 0), .int x1, .int x2] r' (wX4 cI ad finding' asked upper lower r_items' r_sizes' t_items t_sizes d_items d_sizes st_size st_need st_lifted st_licked st_morning st_tally st_kinds st_places st_lengths st_downs st_covers sl_size sl_need sl_lifted sl_licked sl_morning sl_tally sl_kinds sl_places sl_lengths sl_downs sl_covers as_size as_need as_lifted as_licked as_morning as_tally as_kinds as_places as_lengths as_downs as_covers text place count least inAll inSome scratch findings') := by
  refine Ci_of (own := RX4) (by decide) (Nat.le_of_ble_eq_true rfl) rfl ?_
  intro p e s m below meth c Q A AV hc hret ls hl hG
  obtain ⟨hx, hb, hml, hown, hts, hK, hA, hz⟩ := id hc
  have hl : lv_has ls 3 [(0, .ref (ad 0)), (1, .int x1), (2, .int x2)] := hl
  unfold fX4_row at h
  refine lv_iload_n hx hb dX4_row_0 rfl (lv_at hl 1 rfl) ?_
  obtain ⟨v1, e1, h⟩ := bd1_some h
  refine x_si0 (rest := []) hc hG (cc_X4_isRow x1 v1 e1) lX4_68 ⟨rfl, rfl, by decide, by decide⟩ rfl hl.1 (Nat.le_of_ble_eq_true rfl) rfl dX4_row_1 (fun H locs hG => ?_)
  refine lv_if_eq (tgt := 13) hx hb dX4_row_4 (by decide) (fun c4 => ?_) (fun c4 => ?_)
  · rw [if_pos c4] at h
    refine lv_iconst (v := (-1)) hx hb dX4_row_13 (by decide) ?_
    cases h
    exact hret _ _ _ _ hG dX4_row_14 rfl
  · rw [if_neg c4] at h
    refine lv_iload_n hx hb dX4_row_7 rfl (lv_at hl 2 rfl) ?_
    refine lv_bipush (v := 40) hx hb dX4_row_8 (by decide) ?_
    refine lv_icmp_le (tgt := 15) hx hb dX4_row_10 (by decide) (fun c10 => ?_) (fun c10 => ?_)
    · rw [if_pos c10] at h
      refine lv_iload_n hx hb dX4_row_15 rfl (lv_at hl 2 rfl) ?_
      refine lv_if_ge (tgt := 25) hx hb dX4_row_16 (by decide) (fun c16 => ?_) (fun c16 => ?_)
      · rw [if_pos c16] at h
        refine lv_aload_n hx hb dX4_row_25 rfl (lv_at hl 0 rfl) ?_
        refine x_get hc hG 0 rfl iX4 0 lX4_14 rfl dX4_row_26 ?_
        refine lv_iload_n hx hb dX4_row_29 rfl (lv_at hl 1 rfl) ?_
        refine lv_iload_n hx hb dX4_row_30 rfl (lv_at hl 2 rfl) ?_
        refine lv_iconst (v := 0) hx hb dX4_row_31 (by decide) ?_
        obtain ⟨r_items_32, r_sizes_32, e32, h⟩ := bd2_some h
        refine x_vv (rest := []) (ws' := (wX4 cI ad finding asked upper lower r_items_32 r_sizes_32 t_items t_sizes d_items d_sizes st_size st_need st_lifted st_licked st_morning st_tally st_kinds st_places st_lengths st_downs st_covers sl_size sl_need sl_lifted sl_licked sl_morning sl_tally sl_kinds sl_places sl_lengths sl_downs sl_covers as_size as_need as_lifted as_licked as_morning as_tally as_kinds as_places as_lengths as_downs as_covers text place count least inAll inSome scratch findings)) hc hG (cc_X2_make (fun k => ad (1 + k)) 240 6 40 r_items r_sizes x1 x2 0 r_items_32 r_sizes_32 e32) [1, 2, 3] [0, 4, 5, 6, 7, 8, 9, 10, 11, 12, 13, 14, 15, 16, 17, 18, 19, 20, 21, 22, 23, 24, 25, 26, 27, 28, 29, 30, 31] [0, 29, 30, 31, 1, 2, 3, 4, 5, 6, 7, 8, 9, 10, 11, 12, 13, 14, 15, 16, 17, 18, 19, 20, 21, 22, 23, 24, 25, 26, 27, 28] rfl rfl rfl 1 rfl rfl lX4_24 ⟨rfl, rfl, by decide, by decide⟩ rfl hl.1 (Nat.le_of_ble_eq_true rfl) rfl dX4_row_32 (fun H locs hG => ?_)
        refine lv_iload_n hx hb dX4_row_35 rfl (lv_at hl 2 rfl) ?_
        cases h
        exact hret _ _ _ _ hG dX4_row_36 rfl
      · rw [if_neg c16] at h
        refine lv_aload_n hx hb dX4_row_19 rfl (lv_at hl 0 rfl) ?_
        refine lv_iconst (v := 5) hx hb dX4_row_20 (by decide) ?_
        obtain ⟨v21, finding_21, findings_21, e21, h⟩ := bd3_some h
        refine x_vi (rest := []) (ws' := (wX4 cI ad finding_21 asked upper lower r_items r_sizes t_items t_sizes d_items d_sizes st_size st_need st_lifted st_licked st_morning st_tally st_kinds st_places st_lengths st_downs st_covers sl_size sl_need sl_lifted sl_licked sl_morning sl_tally sl_kinds sl_places sl_lengths sl_downs sl_covers as_size as_need as_lifted as_licked as_morning as_tally as_kinds as_places as_lengths as_downs as_covers text place count least inAll inSome scratch findings_21)) hc hG (cc_X4_find ad finding asked upper lower r_items r_sizes t_items t_sizes d_items d_sizes st_size st_need st_lifted st_licked st_morning st_tally st_kinds st_places st_lengths st_downs st_covers sl_size sl_need sl_lifted sl_licked sl_morning sl_tally sl_kinds sl_places sl_lengths sl_downs sl_covers as_size as_need as_lifted as_licked as_morning as_tally as_kinds as_places as_lengths as_downs as_covers text place count least inAll inSome scratch findings 5 v21 finding_21 findings_21 e21) [0, 1, 2, 3, 4, 5, 6, 7, 8, 9, 10, 11, 12, 13, 14, 15, 16, 17, 18, 19, 20, 21, 22, 23, 24, 25, 26, 27, 28, 29, 30, 31] [] [0, 1, 2, 3, 4, 5, 6, 7, 8, 9, 10, 11, 12, 13, 14, 15, 16, 17, 18, 19, 20, 21, 22, 23, 24, 25, 26, 27, 28, 29, 30, 31] rfl rfl rfl 0 rfl rfl lX4_72 ⟨rfl, rfl, by decide, by decide⟩ rfl hl.1 (Nat.le_of_ble_eq_true rfl) rfl dX4_row_21 (fun H locs hG => ?_)
        cases h
        exact hret _ _ _ _ hG dX4_row_24 rfl
    · rw [if_neg c10] at h
      refine lv_iconst (v := (-1)) hx hb dX4_row_13 (by decide) ?_
      cases h
      exact hret _ _ _ _ hG dX4_row_14 rfl
set_option maxRecDepth 100000 in
set_option maxHeartbeats 4000000 in
theorem cc_X4_tell {l : Launch} {D : va_G} {cI : ClassId} {tL : Nat} (ad : Nat → Nat) (finding : Int32) (asked : Int32) (upper : Int64) (lower : Int64) (r_items : Nat → Int32) (r_sizes : Nat → Int32) (t_items : Nat → Int32) (t_sizes : Nat → Int32) (d_items : Nat → Int32) (d_sizes : Nat → Int32) (st_size : Int32) (st_need : Int32) (st_lifted : Int32) (st_licked : Int32) (st_morning : Int32) (st_tally : Int32) (st_kinds : Nat → Int32) (st_places : Nat → Int32) (st_lengths : Nat → Int32) (st_downs : Nat → Int32) (st_covers : Nat → Int32) (sl_size : Int32) (sl_need : Int32) (sl_lifted : Int32) (sl_licked : Int32) (sl_morning : Int32) (sl_tally : Int32) (sl_kinds : Nat → Int32) (sl_places : Nat → Int32) (sl_lengths : Nat → Int32) (sl_downs : Nat → Int32) (sl_covers : Nat → Int32) (as_size : Int32) (as_need : Int32) (as_lifted : Int32) (as_licked : Int32) (as_morning : Int32) (as_tally : Int32) (as_kinds : Nat → Int32) (as_places : Nat → Int32) (as_lengths : Nat → Int32) (as_downs : Nat → Int32) (as_covers : Nat → Int32) (text : Int32) (place : Int32) (count : Int32) (least : Int32) (inAll : Int32) (inSome : Int32) (scratch : Nat → Int32) (findings : Nat → Int32) (x1 : Int32) (r' : Int32) (asked' : Int32) (h : fX4_tell x1 = some (r', asked')) : Ci l D cI tL yX4_tell cX4_tell 2 .int rmX4_tell (wX4 cI ad finding asked upper lower r_items r_sizes t_items t_sizes d_items d_sizes st_size st_need st_lifted st_licked st_morning st_tally st_kinds st_places st_lengths st_downs st_covers sl_size sl_need sl_lifted sl_licked sl_morning sl_tally sl_kinds sl_places sl_lengths sl_downs sl_covers as_size as_need as_lifted as_licked as_morning as_tally as_kinds as_places as_lengths as_downs as_covers text place count least inAll inSome scratch findings) [.ref (ad 0), .int x1] r' (wX4 cI ad finding asked' upper lower r_items r_sizes t_items t_sizes d_items d_sizes st_size st_need st_lifted st_licked st_morning st_tally st_kinds st_places st_lengths st_downs st_covers sl_size sl_need sl_lifted sl_licked sl_morning sl_tally sl_kinds sl_places sl_lengths sl_downs sl_covers as_size as_need as_lifted as_licked as_morning as_tally as_kinds as_places as_lengths as_downs as_covers text place count least inAll inSome scratch findings) := by
  refine Ci_of (own := RX4) (by decide) (Nat.le_of_ble_eq_true rfl) rfl ?_
  intro p e s m below meth c Q A AV hc hret ls hl hG
  obtain ⟨hx, hb, hml, hown, hts, hK, hA, hz⟩ := id hc
  have hl : lv_has ls 2 [(0, .ref (ad 0)), (1, .int x1)] := hl
  unfold fX4_tell at h
  refine lv_aload_n hx hb dX4_tell_0 rfl (lv_at hl 0 rfl) ?_
  refine lv_iload_n hx hb dX4_tell_1 rfl (lv_at hl 1 rfl) ?_
  refine x_put (ws' := (wX4 cI ad finding x1 upper lower r_items r_sizes t_items t_sizes d_items d_sizes st_size st_need st_lifted st_licked st_morning st_tally st_kinds st_places st_lengths st_downs st_covers sl_size sl_need sl_lifted sl_licked sl_morning sl_tally sl_kinds sl_places sl_lengths sl_downs sl_covers as_size as_need as_lifted as_licked as_morning as_tally as_kinds as_places as_lengths as_downs as_covers text place count least inAll inSome scratch findings)) hc hG 0 rfl iX4 tyX4 tyX4_ok nmX4 11 lX4_178 rfl rfl rfl (Nat.le_of_ble_eq_true rfl) rfl dX4_tell_2 (fun H locs hG => ?_)
  refine lv_iconst (v := 1) hx hb dX4_tell_5 (by decide) ?_
  cases h
  exact hret _ _ _ _ hG dX4_tell_6 rfl
set_option maxRecDepth 100000 in
set_option maxHeartbeats 4000000 in
theorem cc_X4_lay {l : Launch} {D : va_G} {cI : ClassId} {tL : Nat} (ad : Nat → Nat) (finding : Int32) (asked : Int32) (upper : Int64) (lower : Int64) (r_items : Nat → Int32) (r_sizes : Nat → Int32) (t_items : Nat → Int32) (t_sizes : Nat → Int32) (d_items : Nat → Int32) (d_sizes : Nat → Int32) (st_size : Int32) (st_need : Int32) (st_lifted : Int32) (st_licked : Int32) (st_morning : Int32) (st_tally : Int32) (st_kinds : Nat → Int32) (st_places : Nat → Int32) (st_lengths : Nat → Int32) (st_downs : Nat → Int32) (st_covers : Nat → Int32) (sl_size : Int32) (sl_need : Int32) (sl_lifted : Int32) (sl_licked : Int32) (sl_morning : Int32) (sl_tally : Int32) (sl_kinds : Nat → Int32) (sl_places : Nat → Int32) (sl_lengths : Nat → Int32) (sl_downs : Nat → Int32) (sl_covers : Nat → Int32) (as_size : Int32) (as_need : Int32) (as_lifted : Int32) (as_licked : Int32) (as_morning : Int32) (as_tally : Int32) (as_kinds : Nat → Int32) (as_places : Nat → Int32) (as_lengths : Nat → Int32) (as_downs : Nat → Int32) (as_covers : Nat → Int32) (text : Int32) (place : Int32) (count : Int32) (least : Int32) (inAll : Int32) (inSome : Int32) (scratch : Nat → Int32) (findings : Nat → Int32) (x1 : Int32) (x2 : Int32) (x3 : Int32) (r' : Int32) (finding' : Int32) (asked' : Int32) (r_items' : Nat → Int32) (findings' : Nat → Int32) (h : fX4_lay finding asked r_items r_sizes findings x1 x2 x3 = some (r', finding', asked', r_items', findings')) : Ci l D cI tL yX4_lay cX4_lay 5 .int rmX4_lay (wX4 cI ad finding asked upper lower r_items r_sizes t_items t_sizes d_items d_sizes st_size st_need st_lifted st_licked st_morning st_tally st_kinds st_places st_lengths st_downs st_covers sl_size sl_need sl_lifted sl_licked sl_morning sl_tally sl_kinds sl_places sl_lengths sl_downs sl_covers as_size as_need as_lifted as_licked as_morning as_tally as_kinds as_places as_lengths as_downs as_covers text place count least inAll inSome scratch findings) [.ref (ad 0), .int x1, .int x2, .int x3] r' (wX4 cI ad finding' asked' upper lower r_items' r_sizes t_items t_sizes d_items d_sizes st_size st_need st_lifted st_licked st_morning st_tally st_kinds st_places st_lengths st_downs st_covers sl_size sl_need sl_lifted sl_licked sl_morning sl_tally sl_kinds sl_places sl_lengths sl_downs sl_covers as_size as_need as_lifted as_licked as_morning as_tally as_kinds as_places as_lengths as_downs as_covers text place count least inAll inSome scratch findings') := by
  refine Ci_of (own := RX4) (by decide) (Nat.le_of_ble_eq_true rfl) rfl ?_
  intro p e s m below meth c Q A AV hc hret ls hl hG
  obtain ⟨hx, hb, hml, hown, hts, hK, hA, hz⟩ := id hc
  have hl : lv_has ls 5 [(0, .ref (ad 0)), (1, .int x1), (2, .int x2), (3, .int x3)] := hl
  unfold fX4_lay at h
  refine lv_iload_n hx hb dX4_lay_0 rfl (lv_at hl 1 rfl) ?_
  obtain ⟨v1, e1, h⟩ := bd1_some h
  refine x_si0 (rest := []) hc hG (cc_X4_isRow x1 v1 e1) lX4_68 ⟨rfl, rfl, by decide, by decide⟩ rfl hl.1 (Nat.le_of_ble_eq_true rfl) rfl dX4_lay_1 (fun H locs hG => ?_)
  refine lv_if_ne (tgt := 9) hx hb dX4_lay_4 (by decide) (fun c4 => ?_) (fun c4 => ?_)
  · rw [if_neg c4] at h
    refine lv_aload_n hx hb dX4_lay_9 rfl (lv_at hl 0 rfl) ?_
    refine x_get hc hG 0 rfl iX4 0 lX4_14 rfl dX4_lay_10 ?_
    refine lv_iload_n hx hb dX4_lay_13 rfl (lv_at hl 1 rfl) ?_
    obtain ⟨v14, e14, h⟩ := bd1_some h
    refine x_vi (rest := []) (ws' := (wX4 cI ad finding asked upper lower r_items r_sizes t_items t_sizes d_items d_sizes st_size st_need st_lifted st_licked st_morning st_tally st_kinds st_places st_lengths st_downs st_covers sl_size sl_need sl_lifted sl_licked sl_morning sl_tally sl_kinds sl_places sl_lengths sl_downs sl_covers as_size as_need as_lifted as_licked as_morning as_tally as_kinds as_places as_lengths as_downs as_covers text place count least inAll inSome scratch findings)) hc hG (cc_X2_isMissing (fun k => ad (1 + k)) 240 6 40 r_items r_sizes x1 v14 e14) [1, 2, 3] [0, 4, 5, 6, 7, 8, 9, 10, 11, 12, 13, 14, 15, 16, 17, 18, 19, 20, 21, 22, 23, 24, 25, 26, 27, 28, 29, 30, 31] [0, 29, 30, 31, 1, 2, 3, 4, 5, 6, 7, 8, 9, 10, 11, 12, 13, 14, 15, 16, 17, 18, 19, 20, 21, 22, 23, 24, 25, 26, 27, 28] rfl rfl rfl 1 rfl rfl lX4_76 ⟨rfl, rfl, by decide, by decide⟩ rfl hl.1 (Nat.le_of_ble_eq_true rfl) rfl dX4_lay_14 (fun H locs hG => ?_)
    refine lv_if_eq (tgt := 26) hx hb dX4_lay_17 (by decide) (fun c17 => ?_) (fun c17 => ?_)
    · rw [if_pos c17] at h
      refine lv_aload_n hx hb dX4_lay_26 rfl (lv_at hl 0 rfl) ?_
      refine x_get hc hG 0 rfl iX4 0 lX4_14 rfl dX4_lay_27 ?_
      refine lv_iload_n hx hb dX4_lay_30 rfl (lv_at hl 1 rfl) ?_
      refine lv_iload_n hx hb dX4_lay_31 rfl (lv_at hl 2 rfl) ?_
      obtain ⟨v32, e32, h⟩ := bd1_some h
      refine x_vi (rest := []) (ws' := (wX4 cI ad finding asked upper lower r_items r_sizes t_items t_sizes d_items d_sizes st_size st_need st_lifted st_licked st_morning st_tally st_kinds st_places st_lengths st_downs st_covers sl_size sl_need sl_lifted sl_licked sl_morning sl_tally sl_kinds sl_places sl_lengths sl_downs sl_covers as_size as_need as_lifted as_licked as_morning as_tally as_kinds as_places as_lengths as_downs as_covers text place count least inAll inSome scratch findings)) hc hG (cc_X2_has (fun k => ad (1 + k)) 240 6 40 r_items r_sizes x1 x2 v32 e32) [1, 2, 3] [0, 4, 5, 6, 7, 8, 9, 10, 11, 12, 13, 14, 15, 16, 17, 18, 19, 20, 21, 22, 23, 24, 25, 26, 27, 28, 29, 30, 31] [0, 29, 30, 31, 1, 2, 3, 4, 5, 6, 7, 8, 9, 10, 11, 12, 13, 14, 15, 16, 17, 18, 19, 20, 21, 22, 23, 24, 25, 26, 27, 28] rfl rfl rfl 1 rfl rfl lX4_79 ⟨rfl, rfl, by decide, by decide⟩ rfl hl.1 (Nat.le_of_ble_eq_true rfl) rfl dX4_lay_32 (fun H locs hG => ?_)
      refine lv_if_ne (tgt := 44) hx hb dX4_lay_35 (by decide) (fun c35 => ?_) (fun c35 => ?_)
      · rw [if_neg c35] at h
        refine lv_aload_n hx hb dX4_lay_44 rfl (lv_at hl 0 rfl) ?_
        refine x_get hc hG 0 rfl iX4 0 lX4_14 rfl dX4_lay_45 ?_
        refine lv_iload_n hx hb dX4_lay_48 rfl (lv_at hl 1 rfl) ?_
        refine lv_iload_n hx hb dX4_lay_49 rfl (lv_at hl 2 rfl) ?_
        obtain ⟨v50, e50, h⟩ := bd1_some h
        refine x_vi (rest := []) (ws' := (wX4 cI ad finding asked upper lower r_items r_sizes t_items t_sizes d_items d_sizes st_size st_need st_lifted st_licked st_morning st_tally st_kinds st_places st_lengths st_downs st_covers sl_size sl_need sl_lifted sl_licked sl_morning sl_tally sl_kinds sl_places sl_lengths sl_downs sl_covers as_size as_need as_lifted as_licked as_morning as_tally as_kinds as_places as_lengths as_downs as_covers text place count least inAll inSome scratch findings)) hc hG (cc_X2_get (fun k => ad (1 + k)) 240 6 40 r_items r_sizes x1 x2 v50 e50) [1, 2, 3] [0, 4, 5, 6, 7, 8, 9, 10, 11, 12, 13, 14, 15, 16, 17, 18, 19, 20, 21, 22, 23, 24, 25, 26, 27, 28, 29, 30, 31] [0, 29, 30, 31, 1, 2, 3, 4, 5, 6, 7, 8, 9, 10, 11, 12, 13, 14, 15, 16, 17, 18, 19, 20, 21, 22, 23, 24, 25, 26, 27, 28] rfl rfl rfl 1 rfl rfl lX4_83 ⟨rfl, rfl, by decide, by decide⟩ rfl hl.1 (Nat.le_of_ble_eq_true rfl) rfl dX4_lay_50 (fun H locs hG => ?_)
        refine lv_istore (lv' := [(4, .int v50), (0, .ref (ad 0)), (1, .int x1), (2, .int x2), (3, .int x3)]) hx hb dX4_lay_53 hl (by decide) rfl (fun ls hl => ?_)
        refine lv_aload_n hx hb dX4_lay_55 rfl (lv_at hl 1 rfl) ?_
        refine x_get hc hG 0 rfl iX4 0 lX4_14 rfl dX4_lay_56 ?_
        refine lv_iload_n hx hb dX4_lay_59 rfl (lv_at hl 2 rfl) ?_
        refine lv_iload_n hx hb dX4_lay_60 rfl (lv_at hl 3 rfl) ?_
        refine lv_iload_n hx hb dX4_lay_61 rfl (lv_at hl 4 rfl) ?_
        obtain ⟨r_items_62, e62, h⟩ := bd1_some h
        refine x_vv (rest := []) (ws' := (wX4 cI ad finding asked upper lower r_items_62 r_sizes t_items t_sizes d_items d_sizes st_size st_need st_lifted st_licked st_morning st_tally st_kinds st_places st_lengths st_downs st_covers sl_size sl_need sl_lifted sl_licked sl_morning sl_tally sl_kinds sl_places sl_lengths sl_downs sl_covers as_size as_need as_lifted as_licked as_morning as_tally as_kinds as_places as_lengths as_downs as_covers text place count least inAll inSome scratch findings)) hc hG (cc_X2_set (fun k => ad (1 + k)) 240 6 40 r_items r_sizes x1 x2 x3 r_items_62 e62) [1, 2, 3] [0, 4, 5, 6, 7, 8, 9, 10, 11, 12, 13, 14, 15, 16, 17, 18, 19, 20, 21, 22, 23, 24, 25, 26, 27, 28, 29, 30, 31] [0, 29, 30, 31, 1, 2, 3, 4, 5, 6, 7, 8, 9, 10, 11, 12, 13, 14, 15, 16, 17, 18, 19, 20, 21, 22, 23, 24, 25, 26, 27, 28] rfl rfl rfl 1 rfl rfl lX4_87 ⟨rfl, rfl, by decide, by decide⟩ rfl hl.1 (Nat.le_of_ble_eq_true rfl) rfl dX4_lay_62 (fun H locs hG => ?_)
        refine lv_aload_n hx hb dX4_lay_65 rfl (lv_at hl 1 rfl) ?_
        refine lv_iload hx hb dX4_lay_66 (lv_at hl 0 rfl) ?_
        obtain ⟨v68, asked_68, e68, h⟩ := bd2_some h
        refine x_vi (rest := []) (ws' := (wX4 cI ad finding asked_68 upper lower r_items_62 r_sizes t_items t_sizes d_items d_sizes st_size st_need st_lifted st_licked st_morning st_tally st_kinds st_places st_lengths st_downs st_covers sl_size sl_need sl_lifted sl_licked sl_morning sl_tally sl_kinds sl_places sl_lengths sl_downs sl_covers as_size as_need as_lifted as_licked as_morning as_tally as_kinds as_places as_lengths as_downs as_covers text place count least inAll inSome scratch findings)) hc hG (cc_X4_tell ad finding asked upper lower r_items_62 r_sizes t_items t_sizes d_items d_sizes st_size st_need st_lifted st_licked st_morning st_tally st_kinds st_places st_lengths st_downs st_covers sl_size sl_need sl_lifted sl_licked sl_morning sl_tally sl_kinds sl_places sl_lengths sl_downs sl_covers as_size as_need as_lifted as_licked as_morning as_tally as_kinds as_places as_lengths as_downs as_covers text place count least inAll inSome scratch findings v50 v68 asked_68 e68) [0, 1, 2, 3, 4, 5, 6, 7, 8, 9, 10, 11, 12, 13, 14, 15, 16, 17, 18, 19, 20, 21, 22, 23, 24, 25, 26, 27, 28, 29, 30, 31] [] [0, 1, 2, 3, 4, 5, 6, 7, 8, 9, 10, 11, 12, 13, 14, 15, 16, 17, 18, 19, 20, 21, 22, 23, 24, 25, 26, 27, 28, 29, 30, 31] rfl rfl rfl 0 rfl rfl lX4_90 ⟨rfl, rfl, by decide, by decide⟩ rfl hl.1 (Nat.le_of_ble_eq_true rfl) rfl dX4_lay_68 (fun H locs hG => ?_)
        cases h
        exact hret _ _ _ _ hG dX4_lay_71 rfl
      · rw [if_pos c35] at h
        refine lv_aload_n hx hb dX4_lay_38 rfl (lv_at hl 0 rfl) ?_
        refine lv_iconst (v := 2) hx hb dX4_lay_39 (by decide) ?_
        obtain ⟨v40, finding_40, findings_40, e40, h⟩ := bd3_some h
        refine x_vi (rest := []) (ws' := (wX4 cI ad finding_40 asked upper lower r_items r_sizes t_items t_sizes d_items d_sizes st_size st_need st_lifted st_licked st_morning st_tally st_kinds st_places st_lengths st_downs st_covers sl_size sl_need sl_lifted sl_licked sl_morning sl_tally sl_kinds sl_places sl_lengths sl_downs sl_covers as_size as_need as_lifted as_licked as_morning as_tally as_kinds as_places as_lengths as_downs as_covers text place count least inAll inSome scratch findings_40)) hc hG (cc_X4_find ad finding asked upper lower r_items r_sizes t_items t_sizes d_items d_sizes st_size st_need st_lifted st_licked st_morning st_tally st_kinds st_places st_lengths st_downs st_covers sl_size sl_need sl_lifted sl_licked sl_morning sl_tally sl_kinds sl_places sl_lengths sl_downs sl_covers as_size as_need as_lifted as_licked as_morning as_tally as_kinds as_places as_lengths as_downs as_covers text place count least inAll inSome scratch findings 2 v40 finding_40 findings_40 e40) [0, 1, 2, 3, 4, 5, 6, 7, 8, 9, 10, 11, 12, 13, 14, 15, 16, 17, 18, 19, 20, 21, 22, 23, 24, 25, 26, 27, 28, 29, 30, 31] [] [0, 1, 2, 3, 4, 5, 6, 7, 8, 9, 10, 11, 12, 13, 14, 15, 16, 17, 18, 19, 20, 21, 22, 23, 24, 25, 26, 27, 28, 29, 30, 31] rfl rfl rfl 0 rfl rfl lX4_72 ⟨rfl, rfl, by decide, by decide⟩ rfl hl.1 (Nat.le_of_ble_eq_true rfl) rfl dX4_lay_40 (fun H locs hG => ?_)
        cases h
        exact hret _ _ _ _ hG dX4_lay_43 rfl
    · rw [if_neg c17] at h
      refine lv_aload_n hx hb dX4_lay_20 rfl (lv_at hl 0 rfl) ?_
      refine lv_iconst (v := 1) hx hb dX4_lay_21 (by decide) ?_
      obtain ⟨v22, finding_22, findings_22, e22, h⟩ := bd3_some h
      refine x_vi (rest := []) (ws' := (wX4 cI ad finding_22 asked upper lower r_items r_sizes t_items t_sizes d_items d_sizes st_size st_need st_lifted st_licked st_morning st_tally st_kinds st_places st_lengths st_downs st_covers sl_size sl_need sl_lifted sl_licked sl_morning sl_tally sl_kinds sl_places sl_lengths sl_downs sl_covers as_size as_need as_lifted as_licked as_morning as_tally as_kinds as_places as_lengths as_downs as_covers text place count least inAll inSome scratch findings_22)) hc hG (cc_X4_find ad finding asked upper lower r_items r_sizes t_items t_sizes d_items d_sizes st_size st_need st_lifted st_licked st_morning st_tally st_kinds st_places st_lengths st_downs st_covers sl_size sl_need sl_lifted sl_licked sl_morning sl_tally sl_kinds sl_places sl_lengths sl_downs sl_covers as_size as_need as_lifted as_licked as_morning as_tally as_kinds as_places as_lengths as_downs as_covers text place count least inAll inSome scratch findings 1 v22 finding_22 findings_22 e22) [0, 1, 2, 3, 4, 5, 6, 7, 8, 9, 10, 11, 12, 13, 14, 15, 16, 17, 18, 19, 20, 21, 22, 23, 24, 25, 26, 27, 28, 29, 30, 31] [] [0, 1, 2, 3, 4, 5, 6, 7, 8, 9, 10, 11, 12, 13, 14, 15, 16, 17, 18, 19, 20, 21, 22, 23, 24, 25, 26, 27, 28, 29, 30, 31] rfl rfl rfl 0 rfl rfl lX4_72 ⟨rfl, rfl, by decide, by decide⟩ rfl hl.1 (Nat.le_of_ble_eq_true rfl) rfl dX4_lay_22 (fun H locs hG => ?_)
      cases h
      exact hret _ _ _ _ hG dX4_lay_25 rfl
  · rw [if_pos c4] at h
    refine lv_iconst (v := (-1)) hx hb dX4_lay_7 (by decide) ?_
    cases h
    exact hret _ _ _ _ hG dX4_lay_8 rfl
set_option maxRecDepth 100000 in
set_option maxHeartbeats 4000000 in
theorem cc_X4_at {l : Launch} {D : va_G} {cI : ClassId} {tL : Nat} (ad : Nat → Nat) (finding : Int32) (asked : Int32) (upper : Int64) (lower : Int64) (r_items : Nat → Int32) (r_sizes : Nat → Int32) (t_items : Nat → Int32) (t_sizes : Nat → Int32) (d_items : Nat → Int32) (d_sizes : Nat → Int32) (st_size : Int32) (st_need : Int32) (st_lifted : Int32) (st_licked : Int32) (st_morning : Int32) (st_tally : Int32) (st_kinds : Nat → Int32) (st_places : Nat → Int32) (st_lengths : Nat → Int32) (st_downs : Nat → Int32) (st_covers : Nat → Int32) (sl_size : Int32) (sl_need : Int32) (sl_lifted : Int32) (sl_licked : Int32) (sl_morning : Int32) (sl_tally : Int32) (sl_kinds : Nat → Int32) (sl_places : Nat → Int32) (sl_lengths : Nat → Int32) (sl_downs : Nat → Int32) (sl_covers : Nat → Int32) (as_size : Int32) (as_need : Int32) (as_lifted : Int32) (as_licked : Int32) (as_morning : Int32) (as_tally : Int32) (as_kinds : Nat → Int32) (as_places : Nat → Int32) (as_lengths : Nat → Int32) (as_downs : Nat → Int32) (as_covers : Nat → Int32) (text : Int32) (place : Int32) (count : Int32) (least : Int32) (inAll : Int32) (inSome : Int32) (scratch : Nat → Int32) (findings : Nat → Int32) (x1 : Int32) (x2 : Int32) (r' : Int32) (finding' : Int32) (asked' : Int32) (findings' : Nat → Int32) (h : fX4_at finding asked r_items r_sizes findings x1 x2 = some (r', finding', asked', findings')) : Ci l D cI tL yX4_at cX4_at 3 .int rmX4_at (wX4 cI ad finding asked upper lower r_items r_sizes t_items t_sizes d_items d_sizes st_size st_need st_lifted st_licked st_morning st_tally st_kinds st_places st_lengths st_downs st_covers sl_size sl_need sl_lifted sl_licked sl_morning sl_tally sl_kinds sl_places sl_lengths sl_downs sl_covers as_size as_need as_lifted as_licked as_morning as_tally as_kinds as_places as_lengths as_downs as_covers text place count least inAll inSome scratch findings) [.ref (ad 0), .int x1, .int x2] r' (wX4 cI ad finding' asked' upper lower r_items r_sizes t_items t_sizes d_items d_sizes st_size st_need st_lifted st_licked st_morning st_tally st_kinds st_places st_lengths st_downs st_covers sl_size sl_need sl_lifted sl_licked sl_morning sl_tally sl_kinds sl_places sl_lengths sl_downs sl_covers as_size as_need as_lifted as_licked as_morning as_tally as_kinds as_places as_lengths as_downs as_covers text place count least inAll inSome scratch findings') := by
  refine Ci_of (own := RX4) (by decide) (Nat.le_of_ble_eq_true rfl) rfl ?_
  intro p e s m below meth c Q A AV hc hret ls hl hG
  obtain ⟨hx, hb, hml, hown, hts, hK, hA, hz⟩ := id hc
  have hl : lv_has ls 3 [(0, .ref (ad 0)), (1, .int x1), (2, .int x2)] := hl
  unfold fX4_at at h
  refine lv_iload_n hx hb dX4_at_0 rfl (lv_at hl 1 rfl) ?_
  obtain ⟨v1, e1, h⟩ := bd1_some h
  refine x_si0 (rest := []) hc hG (cc_X4_isRow x1 v1 e1) lX4_68 ⟨rfl, rfl, by decide, by decide⟩ rfl hl.1 (Nat.le_of_ble_eq_true rfl) rfl dX4_at_1 (fun H locs hG => ?_)
  refine lv_if_ne (tgt := 9) hx hb dX4_at_4 (by decide) (fun c4 => ?_) (fun c4 => ?_)
  · rw [if_neg c4] at h
    refine lv_aload_n hx hb dX4_at_9 rfl (lv_at hl 0 rfl) ?_
    refine x_get hc hG 0 rfl iX4 0 lX4_14 rfl dX4_at_10 ?_
    refine lv_iload_n hx hb dX4_at_13 rfl (lv_at hl 1 rfl) ?_
    obtain ⟨v14, e14, h⟩ := bd1_some h
    refine x_vi (rest := []) (ws' := (wX4 cI ad finding asked upper lower r_items r_sizes t_items t_sizes d_items d_sizes st_size st_need st_lifted st_licked st_morning st_tally st_kinds st_places st_lengths st_downs st_covers sl_size sl_need sl_lifted sl_licked sl_morning sl_tally sl_kinds sl_places sl_lengths sl_downs sl_covers as_size as_need as_lifted as_licked as_morning as_tally as_kinds as_places as_lengths as_downs as_covers text place count least inAll inSome scratch findings)) hc hG (cc_X2_isMissing (fun k => ad (1 + k)) 240 6 40 r_items r_sizes x1 v14 e14) [1, 2, 3] [0, 4, 5, 6, 7, 8, 9, 10, 11, 12, 13, 14, 15, 16, 17, 18, 19, 20, 21, 22, 23, 24, 25, 26, 27, 28, 29, 30, 31] [0, 29, 30, 31, 1, 2, 3, 4, 5, 6, 7, 8, 9, 10, 11, 12, 13, 14, 15, 16, 17, 18, 19, 20, 21, 22, 23, 24, 25, 26, 27, 28] rfl rfl rfl 1 rfl rfl lX4_76 ⟨rfl, rfl, by decide, by decide⟩ rfl hl.1 (Nat.le_of_ble_eq_true rfl) rfl dX4_at_14 (fun H locs hG => ?_)
    refine lv_if_eq (tgt := 26) hx hb dX4_at_17 (by decide) (fun c17 => ?_) (fun c17 => ?_)
    · rw [if_pos c17] at h
      refine lv_aload_n hx hb dX4_at_26 rfl (lv_at hl 0 rfl) ?_
      refine x_get hc hG 0 rfl iX4 0 lX4_14 rfl dX4_at_27 ?_
      refine lv_iload_n hx hb dX4_at_30 rfl (lv_at hl 1 rfl) ?_
      refine lv_iload_n hx hb dX4_at_31 rfl (lv_at hl 2 rfl) ?_
      obtain ⟨v32, e32, h⟩ := bd1_some h
      refine x_vi (rest := []) (ws' := (wX4 cI ad finding asked upper lower r_items r_sizes t_items t_sizes d_items d_sizes st_size st_need st_lifted st_licked st_morning st_tally st_kinds st_places st_lengths st_downs st_covers sl_size sl_need sl_lifted sl_licked sl_morning sl_tally sl_kinds sl_places sl_lengths sl_downs sl_covers as_size as_need as_lifted as_licked as_morning as_tally as_kinds as_places as_lengths as_downs as_covers text place count least inAll inSome scratch findings)) hc hG (cc_X2_has (fun k => ad (1 + k)) 240 6 40 r_items r_sizes x1 x2 v32 e32) [1, 2, 3] [0, 4, 5, 6, 7, 8, 9, 10, 11, 12, 13, 14, 15, 16, 17, 18, 19, 20, 21, 22, 23, 24, 25, 26, 27, 28, 29, 30, 31] [0, 29, 30, 31, 1, 2, 3, 4, 5, 6, 7, 8, 9, 10, 11, 12, 13, 14, 15, 16, 17, 18, 19, 20, 21, 22, 23, 24, 25, 26, 27, 28] rfl rfl rfl 1 rfl rfl lX4_79 ⟨rfl, rfl, by decide, by decide⟩ rfl hl.1 (Nat.le_of_ble_eq_true rfl) rfl dX4_at_32 (fun H locs hG => ?_)
      refine lv_if_eq (tgt := 54) hx hb dX4_at_35 (by decide) (fun c35 => ?_) (fun c35 => ?_)
      · rw [if_pos c35] at h
        refine lv_aload_n hx hb dX4_at_54 rfl (lv_at hl 0 rfl) ?_
        refine lv_iconst (v := 2) hx hb dX4_at_55 (by decide) ?_
        obtain ⟨v56, finding_56, findings_56, e56, h⟩ := bd3_some h
        refine x_vi (rest := []) (ws' := (wX4 cI ad finding_56 asked upper lower r_items r_sizes t_items t_sizes d_items d_sizes st_size st_need st_lifted st_licked st_morning st_tally st_kinds st_places st_lengths st_downs st_covers sl_size sl_need sl_lifted sl_licked sl_morning sl_tally sl_kinds sl_places sl_lengths sl_downs sl_covers as_size as_need as_lifted as_licked as_morning as_tally as_kinds as_places as_lengths as_downs as_covers text place count least inAll inSome scratch findings_56)) hc hG (cc_X4_find ad finding asked upper lower r_items r_sizes t_items t_sizes d_items d_sizes st_size st_need st_lifted st_licked st_morning st_tally st_kinds st_places st_lengths st_downs st_covers sl_size sl_need sl_lifted sl_licked sl_morning sl_tally sl_kinds sl_places sl_lengths sl_downs sl_covers as_size as_need as_lifted as_licked as_morning as_tally as_kinds as_places as_lengths as_downs as_covers text place count least inAll inSome scratch findings 2 v56 finding_56 findings_56 e56) [0, 1, 2, 3, 4, 5, 6, 7, 8, 9, 10, 11, 12, 13, 14, 15, 16, 17, 18, 19, 20, 21, 22, 23, 24, 25, 26, 27, 28, 29, 30, 31] [] [0, 1, 2, 3, 4, 5, 6, 7, 8, 9, 10, 11, 12, 13, 14, 15, 16, 17, 18, 19, 20, 21, 22, 23, 24, 25, 26, 27, 28, 29, 30, 31] rfl rfl rfl 0 rfl rfl lX4_72 ⟨rfl, rfl, by decide, by decide⟩ rfl hl.1 (Nat.le_of_ble_eq_true rfl) rfl dX4_at_56 (fun H locs hG => ?_)
        cases h
        exact hret _ _ _ _ hG dX4_at_59 rfl
      · rw [if_neg c35] at h
        refine lv_aload_n hx hb dX4_at_38 rfl (lv_at hl 0 rfl) ?_
        refine lv_aload_n hx hb dX4_at_39 rfl (lv_at hl 0 rfl) ?_
        refine x_get hc hG 0 rfl iX4 0 lX4_14 rfl dX4_at_40 ?_
        refine lv_iload_n hx hb dX4_at_43 rfl (lv_at hl 1 rfl) ?_
        refine lv_iload_n hx hb dX4_at_44 rfl (lv_at hl 2 rfl) ?_
        obtain ⟨v45, e45, h⟩ := bd1_some h
        refine x_vi (rest := [.ref (ad 0)]) (ws' := (wX4 cI ad finding asked upper lower r_items r_sizes t_items t_sizes d_items d_sizes st_size st_need st_lifted st_licked st_morning st_tally st_kinds st_places st_lengths st_downs st_covers sl_size sl_need sl_lifted sl_licked sl_morning sl_tally sl_kinds sl_places sl_lengths sl_downs sl_covers as_size as_need as_lifted as_licked as_morning as_tally as_kinds as_places as_lengths as_downs as_covers text place count least inAll inSome scratch findings)) hc hG (cc_X2_get (fun k => ad (1 + k)) 240 6 40 r_items r_sizes x1 x2 v45 e45) [1, 2, 3] [0, 4, 5, 6, 7, 8, 9, 10, 11, 12, 13, 14, 15, 16, 17, 18, 19, 20, 21, 22, 23, 24, 25, 26, 27, 28, 29, 30, 31] [0, 29, 30, 31, 1, 2, 3, 4, 5, 6, 7, 8, 9, 10, 11, 12, 13, 14, 15, 16, 17, 18, 19, 20, 21, 22, 23, 24, 25, 26, 27, 28] rfl rfl rfl 1 rfl rfl lX4_83 ⟨rfl, rfl, by decide, by decide⟩ rfl hl.1 (Nat.le_of_ble_eq_true rfl) rfl dX4_at_45 (fun H locs hG => ?_)
        obtain ⟨v48, asked_48, e48, h⟩ := bd2_some h
        refine x_vi (rest := []) (ws' := (wX4 cI ad finding asked_48 upper lower r_items r_sizes t_items t_sizes d_items d_sizes st_size st_need st_lifted st_licked st_morning st_tally st_kinds st_places st_lengths st_downs st_covers sl_size sl_need sl_lifted sl_licked sl_morning sl_tally sl_kinds sl_places sl_lengths sl_downs sl_covers as_size as_need as_lifted as_licked as_morning as_tally as_kinds as_places as_lengths as_downs as_covers text place count least inAll inSome scratch findings)) hc hG (cc_X4_tell ad finding asked upper lower r_items r_sizes t_items t_sizes d_items d_sizes st_size st_need st_lifted st_licked st_morning st_tally st_kinds st_places st_lengths st_downs st_covers sl_size sl_need sl_lifted sl_licked sl_morning sl_tally sl_kinds sl_places sl_lengths sl_downs sl_covers as_size as_need as_lifted as_licked as_morning as_tally as_kinds as_places as_lengths as_downs as_covers text place count least inAll inSome scratch findings v45 v48 asked_48 e48) [0, 1, 2, 3, 4, 5, 6, 7, 8, 9, 10, 11, 12, 13, 14, 15, 16, 17, 18, 19, 20, 21, 22, 23, 24, 25, 26, 27, 28, 29, 30, 31] [] [0, 1, 2, 3, 4, 5, 6, 7, 8, 9, 10, 11, 12, 13, 14, 15, 16, 17, 18, 19, 20, 21, 22, 23, 24, 25, 26, 27, 28, 29, 30, 31] rfl rfl rfl 0 rfl rfl lX4_90 ⟨rfl, rfl, by decide, by decide⟩ rfl hl.1 (Nat.le_of_ble_eq_true rfl) rfl dX4_at_48 (fun H locs hG => ?_)
        refine lv_goto (tgt := 59) hx hb dX4_at_51 (by decide) ?_
        cases h
        exact hret _ _ _ _ hG dX4_at_59 rfl
    · rw [if_neg c17] at h
      refine lv_aload_n hx hb dX4_at_20 rfl (lv_at hl 0 rfl) ?_
      refine lv_iconst (v := 1) hx hb dX4_at_21 (by decide) ?_
      obtain ⟨v22, finding_22, findings_22, e22, h⟩ := bd3_some h
      refine x_vi (rest := []) (ws' := (wX4 cI ad finding_22 asked upper lower r_items r_sizes t_items t_sizes d_items d_sizes st_size st_need st_lifted st_licked st_morning st_tally st_kinds st_places st_lengths st_downs st_covers sl_size sl_need sl_lifted sl_licked sl_morning sl_tally sl_kinds sl_places sl_lengths sl_downs sl_covers as_size as_need as_lifted as_licked as_morning as_tally as_kinds as_places as_lengths as_downs as_covers text place count least inAll inSome scratch findings_22)) hc hG (cc_X4_find ad finding asked upper lower r_items r_sizes t_items t_sizes d_items d_sizes st_size st_need st_lifted st_licked st_morning st_tally st_kinds st_places st_lengths st_downs st_covers sl_size sl_need sl_lifted sl_licked sl_morning sl_tally sl_kinds sl_places sl_lengths sl_downs sl_covers as_size as_need as_lifted as_licked as_morning as_tally as_kinds as_places as_lengths as_downs as_covers text place count least inAll inSome scratch findings 1 v22 finding_22 findings_22 e22) [0, 1, 2, 3, 4, 5, 6, 7, 8, 9, 10, 11, 12, 13, 14, 15, 16, 17, 18, 19, 20, 21, 22, 23, 24, 25, 26, 27, 28, 29, 30, 31] [] [0, 1, 2, 3, 4, 5, 6, 7, 8, 9, 10, 11, 12, 13, 14, 15, 16, 17, 18, 19, 20, 21, 22, 23, 24, 25, 26, 27, 28, 29, 30, 31] rfl rfl rfl 0 rfl rfl lX4_72 ⟨rfl, rfl, by decide, by decide⟩ rfl hl.1 (Nat.le_of_ble_eq_true rfl) rfl dX4_at_22 (fun H locs hG => ?_)
      cases h
      exact hret _ _ _ _ hG dX4_at_25 rfl
  · rw [if_pos c4] at h
    refine lv_iconst (v := (-1)) hx hb dX4_at_7 (by decide) ?_
    cases h
    exact hret _ _ _ _ hG dX4_at_8 rfl
set_option maxRecDepth 100000 in
set_option maxHeartbeats 4000000 in
theorem cc_X4_tear {l : Launch} {D : va_G} {cI : ClassId} {tL : Nat} (ad : Nat → Nat) (finding : Int32) (asked : Int32) (upper : Int64) (lower : Int64) (r_items : Nat → Int32) (r_sizes : Nat → Int32) (t_items : Nat → Int32) (t_sizes : Nat → Int32) (d_items : Nat → Int32) (d_sizes : Nat → Int32) (st_size : Int32) (st_need : Int32) (st_lifted : Int32) (st_licked : Int32) (st_morning : Int32) (st_tally : Int32) (st_kinds : Nat → Int32) (st_places : Nat → Int32) (st_lengths : Nat → Int32) (st_downs : Nat → Int32) (st_covers : Nat → Int32) (sl_size : Int32) (sl_need : Int32) (sl_lifted : Int32) (sl_licked : Int32) (sl_morning : Int32) (sl_tally : Int32) (sl_kinds : Nat → Int32) (sl_places : Nat → Int32) (sl_lengths : Nat → Int32) (sl_downs : Nat → Int32) (sl_covers : Nat → Int32) (as_size : Int32) (as_need : Int32) (as_lifted : Int32) (as_licked : Int32) (as_morning : Int32) (as_tally : Int32) (as_kinds : Nat → Int32) (as_places : Nat → Int32) (as_lengths : Nat → Int32) (as_downs : Nat → Int32) (as_covers : Nat → Int32) (text : Int32) (place : Int32) (count : Int32) (least : Int32) (inAll : Int32) (inSome : Int32) (scratch : Nat → Int32) (findings : Nat → Int32) (x1 : Int32) (r' : Int32) (finding' : Int32) (r_sizes' : Nat → Int32) (findings' : Nat → Int32) (h : fX4_tear finding r_sizes findings x1 = some (r', finding', r_sizes', findings')) : Ci l D cI tL yX4_tear cX4_tear 2 .int rmX4_tear (wX4 cI ad finding asked upper lower r_items r_sizes t_items t_sizes d_items d_sizes st_size st_need st_lifted st_licked st_morning st_tally st_kinds st_places st_lengths st_downs st_covers sl_size sl_need sl_lifted sl_licked sl_morning sl_tally sl_kinds sl_places sl_lengths sl_downs sl_covers as_size as_need as_lifted as_licked as_morning as_tally as_kinds as_places as_lengths as_downs as_covers text place count least inAll inSome scratch findings) [.ref (ad 0), .int x1] r' (wX4 cI ad finding' asked upper lower r_items r_sizes' t_items t_sizes d_items d_sizes st_size st_need st_lifted st_licked st_morning st_tally st_kinds st_places st_lengths st_downs st_covers sl_size sl_need sl_lifted sl_licked sl_morning sl_tally sl_kinds sl_places sl_lengths sl_downs sl_covers as_size as_need as_lifted as_licked as_morning as_tally as_kinds as_places as_lengths as_downs as_covers text place count least inAll inSome scratch findings') := by
  refine Ci_of (own := RX4) (by decide) (Nat.le_of_ble_eq_true rfl) rfl ?_
  intro p e s m below meth c Q A AV hc hret ls hl hG
  obtain ⟨hx, hb, hml, hown, hts, hK, hA, hz⟩ := id hc
  have hl : lv_has ls 2 [(0, .ref (ad 0)), (1, .int x1)] := hl
  unfold fX4_tear at h
  refine lv_iload_n hx hb dX4_tear_0 rfl (lv_at hl 1 rfl) ?_
  obtain ⟨v1, e1, h⟩ := bd1_some h
  refine x_si0 (rest := []) hc hG (cc_X4_isRow x1 v1 e1) lX4_68 ⟨rfl, rfl, by decide, by decide⟩ rfl hl.1 (Nat.le_of_ble_eq_true rfl) rfl dX4_tear_1 (fun H locs hG => ?_)
  refine lv_if_ne (tgt := 9) hx hb dX4_tear_4 (by decide) (fun c4 => ?_) (fun c4 => ?_)
  · rw [if_neg c4] at h
    refine lv_aload_n hx hb dX4_tear_9 rfl (lv_at hl 0 rfl) ?_
    refine x_get hc hG 0 rfl iX4 0 lX4_14 rfl dX4_tear_10 ?_
    refine lv_iload_n hx hb dX4_tear_13 rfl (lv_at hl 1 rfl) ?_
    obtain ⟨v14, e14, h⟩ := bd1_some h
    refine x_vi (rest := []) (ws' := (wX4 cI ad finding asked upper lower r_items r_sizes t_items t_sizes d_items d_sizes st_size st_need st_lifted st_licked st_morning st_tally st_kinds st_places st_lengths st_downs st_covers sl_size sl_need sl_lifted sl_licked sl_morning sl_tally sl_kinds sl_places sl_lengths sl_downs sl_covers as_size as_need as_lifted as_licked as_morning as_tally as_kinds as_places as_lengths as_downs as_covers text place count least inAll inSome scratch findings)) hc hG (cc_X2_isMissing (fun k => ad (1 + k)) 240 6 40 r_items r_sizes x1 v14 e14) [1, 2, 3] [0, 4, 5, 6, 7, 8, 9, 10, 11, 12, 13, 14, 15, 16, 17, 18, 19, 20, 21, 22, 23, 24, 25, 26, 27, 28, 29, 30, 31] [0, 29, 30, 31, 1, 2, 3, 4, 5, 6, 7, 8, 9, 10, 11, 12, 13, 14, 15, 16, 17, 18, 19, 20, 21, 22, 23, 24, 25, 26, 27, 28] rfl rfl rfl 1 rfl rfl lX4_76 ⟨rfl, rfl, by decide, by decide⟩ rfl hl.1 (Nat.le_of_ble_eq_true rfl) rfl dX4_tear_14 (fun H locs hG => ?_)
    refine lv_if_eq (tgt := 26) hx hb dX4_tear_17 (by decide) (fun c17 => ?_) (fun c17 => ?_)
    · rw [if_pos c17] at h
      refine lv_aload_n hx hb dX4_tear_26 rfl (lv_at hl 0 rfl) ?_
      refine x_get hc hG 0 rfl iX4 0 lX4_14 rfl dX4_tear_27 ?_
      refine lv_iload_n hx hb dX4_tear_30 rfl (lv_at hl 1 rfl) ?_
      obtain ⟨r_sizes_31, e31, h⟩ := bd1_some h
      refine x_vv (rest := []) (ws' := (wX4 cI ad finding asked upper lower r_items r_sizes_31 t_items t_sizes d_items d_sizes st_size st_need st_lifted st_licked st_morning st_tally st_kinds st_places st_lengths st_downs st_covers sl_size sl_need sl_lifted sl_licked sl_morning sl_tally sl_kinds sl_places sl_lengths sl_downs sl_covers as_size as_need as_lifted as_licked as_morning as_tally as_kinds as_places as_lengths as_downs as_covers text place count least inAll inSome scratch findings)) hc hG (cc_X2_remove (fun k => ad (1 + k)) 240 6 40 r_items r_sizes x1 r_sizes_31 e31) [1, 2, 3] [0, 4, 5, 6, 7, 8, 9, 10, 11, 12, 13, 14, 15, 16, 17, 18, 19, 20, 21, 22, 23, 24, 25, 26, 27, 28, 29, 30, 31] [0, 29, 30, 31, 1, 2, 3, 4, 5, 6, 7, 8, 9, 10, 11, 12, 13, 14, 15, 16, 17, 18, 19, 20, 21, 22, 23, 24, 25, 26, 27, 28] rfl rfl rfl 1 rfl rfl lX4_93 ⟨rfl, rfl, by decide, by decide⟩ rfl hl.1 (Nat.le_of_ble_eq_true rfl) rfl dX4_tear_31 (fun H locs hG => ?_)
      refine lv_iconst (v := 1) hx hb dX4_tear_34 (by decide) ?_
      cases h
      exact hret _ _ _ _ hG dX4_tear_35 rfl
    · rw [if_neg c17] at h
      refine lv_aload_n hx hb dX4_tear_20 rfl (lv_at hl 0 rfl) ?_
      refine lv_iconst (v := 1) hx hb dX4_tear_21 (by decide) ?_
      obtain ⟨v22, finding_22, findings_22, e22, h⟩ := bd3_some h
      refine x_vi (rest := []) (ws' := (wX4 cI ad finding_22 asked upper lower r_items r_sizes t_items t_sizes d_items d_sizes st_size st_need st_lifted st_licked st_morning st_tally st_kinds st_places st_lengths st_downs st_covers sl_size sl_need sl_lifted sl_licked sl_morning sl_tally sl_kinds sl_places sl_lengths sl_downs sl_covers as_size as_need as_lifted as_licked as_morning as_tally as_kinds as_places as_lengths as_downs as_covers text place count least inAll inSome scratch findings_22)) hc hG (cc_X4_find ad finding asked upper lower r_items r_sizes t_items t_sizes d_items d_sizes st_size st_need st_lifted st_licked st_morning st_tally st_kinds st_places st_lengths st_downs st_covers sl_size sl_need sl_lifted sl_licked sl_morning sl_tally sl_kinds sl_places sl_lengths sl_downs sl_covers as_size as_need as_lifted as_licked as_morning as_tally as_kinds as_places as_lengths as_downs as_covers text place count least inAll inSome scratch findings 1 v22 finding_22 findings_22 e22) [0, 1, 2, 3, 4, 5, 6, 7, 8, 9, 10, 11, 12, 13, 14, 15, 16, 17, 18, 19, 20, 21, 22, 23, 24, 25, 26, 27, 28, 29, 30, 31] [] [0, 1, 2, 3, 4, 5, 6, 7, 8, 9, 10, 11, 12, 13, 14, 15, 16, 17, 18, 19, 20, 21, 22, 23, 24, 25, 26, 27, 28, 29, 30, 31] rfl rfl rfl 0 rfl rfl lX4_72 ⟨rfl, rfl, by decide, by decide⟩ rfl hl.1 (Nat.le_of_ble_eq_true rfl) rfl dX4_tear_22 (fun H locs hG => ?_)
      cases h
      exact hret _ _ _ _ hG dX4_tear_25 rfl
  · rw [if_pos c4] at h
    refine lv_iconst (v := (-1)) hx hb dX4_tear_7 (by decide) ?_
    cases h
    exact hret _ _ _ _ hG dX4_tear_8 rfl
set_option maxRecDepth 100000 in
set_option maxHeartbeats 4000000 in
theorem cc_X4_copy {l : Launch} {D : va_G} {cI : ClassId} {tL : Nat} (ad : Nat → Nat) (finding : Int32) (asked : Int32) (upper : Int64) (lower : Int64) (r_items : Nat → Int32) (r_sizes : Nat → Int32) (t_items : Nat → Int32) (t_sizes : Nat → Int32) (d_items : Nat → Int32) (d_sizes : Nat → Int32) (st_size : Int32) (st_need : Int32) (st_lifted : Int32) (st_licked : Int32) (st_morning : Int32) (st_tally : Int32) (st_kinds : Nat → Int32) (st_places : Nat → Int32) (st_lengths : Nat → Int32) (st_downs : Nat → Int32) (st_covers : Nat → Int32) (sl_size : Int32) (sl_need : Int32) (sl_lifted : Int32) (sl_licked : Int32) (sl_morning : Int32) (sl_tally : Int32) (sl_kinds : Nat → Int32) (sl_places : Nat → Int32) (sl_lengths : Nat → Int32) (sl_downs : Nat → Int32) (sl_covers : Nat → Int32) (as_size : Int32) (as_need : Int32) (as_lifted : Int32) (as_licked : Int32) (as_morning : Int32) (as_tally : Int32) (as_kinds : Nat → Int32) (as_places : Nat → Int32) (as_lengths : Nat → Int32) (as_downs : Nat → Int32) (as_covers : Nat → Int32) (text : Int32) (place : Int32) (count : Int32) (least : Int32) (inAll : Int32) (inSome : Int32) (scratch : Nat → Int32) (findings : Nat → Int32) (x1 : Int32) (x2 : Int32) (x3 : Int32) (x4 : Int32) (x5 : Int32) (r' : Int32) (finding' : Int32) (r_items' : Nat → Int32) (findings' : Nat → Int32) (h : fX4_copy finding r_items r_sizes findings x1 x2 x3 x4 x5 = some (r', finding', r_items', findings')) : Ci l D cI tL yX4_copy cX4_copy 6 .int rmX4_copy (wX4 cI ad finding asked upper lower r_items r_sizes t_items t_sizes d_items d_sizes st_size st_need st_lifted st_licked st_morning st_tally st_kinds st_places st_lengths st_downs st_covers sl_size sl_need sl_lifted sl_licked sl_morning sl_tally sl_kinds sl_places sl_lengths sl_downs sl_covers as_size as_need as_lifted as_licked as_morning as_tally as_kinds as_places as_lengths as_downs as_covers text place count least inAll inSome scratch findings) [.ref (ad 0), .int x1, .int x2, .int x3, .int x4, .int x5] r' (wX4 cI ad finding' asked upper lower r_items' r_sizes t_items t_sizes d_items d_sizes st_size st_need st_lifted st_licked st_morning st_tally st_kinds st_places st_lengths st_downs st_covers sl_size sl_need sl_lifted sl_licked sl_morning sl_tally sl_kinds sl_places sl_lengths sl_downs sl_covers as_size as_need as_lifted as_licked as_morning as_tally as_kinds as_places as_lengths as_downs as_covers text place count least inAll inSome scratch findings') := by
  refine Ci_of (own := RX4) (by decide) (Nat.le_of_ble_eq_true rfl) rfl ?_
  intro p e s m below meth c Q A AV hc hret ls hl hG
  obtain ⟨hx, hb, hml, hown, hts, hK, hA, hz⟩ := id hc
  have hl : lv_has ls 6 [(0, .ref (ad 0)), (1, .int x1), (2, .int x2), (3, .int x3), (4, .int x4), (5, .int x5)] := hl
  have hj_84 : ∀ (r_items : Nat → Int32) (findings : Nat → Int32) (finding : Int32), fX4_copy_j84 r_items findings = some (r', finding', r_items', findings') → ∀ (ls : Array Slot) (H : Heap) (locs : List Loc), lv_has ls 6 [(0, .ref (ad 0))] → St D A s (wX4 cI ad finding asked upper lower r_items r_sizes t_items t_sizes d_items d_sizes st_size st_need st_lifted st_licked st_morning st_tally st_kinds st_places st_lengths st_downs st_covers sl_size sl_need sl_lifted sl_licked sl_morning sl_tally sl_kinds sl_places sl_lengths sl_downs sl_covers as_size as_need as_lifted as_licked as_morning as_tally as_kinds as_places as_lengths as_downs as_covers text place count least inAll inSome scratch findings) H locs → W p l e rmX4_copy s m AV below meth c H locs 0 0 Q (F0 m 84 ls []) := by
    intro r_items findings finding h ls H locs hl hG
    unfold fX4_copy_j84 at h
    refine lv_aload_n hx hb dX4_copy_84 rfl (lv_at hl 0 rfl) ?_
    refine lv_iconst (v := 2) hx hb dX4_copy_85 (by decide) ?_
    obtain ⟨v86, finding_86, findings_86, e86, h⟩ := bd3_some h
    refine x_vi (rest := []) (ws' := (wX4 cI ad finding_86 asked upper lower r_items r_sizes t_items t_sizes d_items d_sizes st_size st_need st_lifted st_licked st_morning st_tally st_kinds st_places st_lengths st_downs st_covers sl_size sl_need sl_lifted sl_licked sl_morning sl_tally sl_kinds sl_places sl_lengths sl_downs sl_covers as_size as_need as_lifted as_licked as_morning as_tally as_kinds as_places as_lengths as_downs as_covers text place count least inAll inSome scratch findings_86)) hc hG (cc_X4_find ad finding asked upper lower r_items r_sizes t_items t_sizes d_items d_sizes st_size st_need st_lifted st_licked st_morning st_tally st_kinds st_places st_lengths st_downs st_covers sl_size sl_need sl_lifted sl_licked sl_morning sl_tally sl_kinds sl_places sl_lengths sl_downs sl_covers as_size as_need as_lifted as_licked as_morning as_tally as_kinds as_places as_lengths as_downs as_covers text place count least inAll inSome scratch findings 2 v86 finding_86 findings_86 e86) [0, 1, 2, 3, 4, 5, 6, 7, 8, 9, 10, 11, 12, 13, 14, 15, 16, 17, 18, 19, 20, 21, 22, 23, 24, 25, 26, 27, 28, 29, 30, 31] [] [0, 1, 2, 3, 4, 5, 6, 7, 8, 9, 10, 11, 12, 13, 14, 15, 16, 17, 18, 19, 20, 21, 22, 23, 24, 25, 26, 27, 28, 29, 30, 31] rfl rfl rfl 0 rfl rfl lX4_72 ⟨rfl, rfl, by decide, by decide⟩ rfl hl.1 (Nat.le_of_ble_eq_true rfl) rfl dX4_copy_86 (fun H locs hG => ?_)
    cases h
    exact hret _ _ _ _ hG dX4_copy_89 rfl
  have hj_49 : ∀ (r_items : Nat → Int32) (findings : Nat → Int32) (finding : Int32), fX4_copy_j49 r_items findings = some (r', finding', r_items', findings') → ∀ (ls : Array Slot) (H : Heap) (locs : List Loc), lv_has ls 6 [(0, .ref (ad 0))] → St D A s (wX4 cI ad finding asked upper lower r_items r_sizes t_items t_sizes d_items d_sizes st_size st_need st_lifted st_licked st_morning st_tally st_kinds st_places st_lengths st_downs st_covers sl_size sl_need sl_lifted sl_licked sl_morning sl_tally sl_kinds sl_places sl_lengths sl_downs sl_covers as_size as_need as_lifted as_licked as_morning as_tally as_kinds as_places as_lengths as_downs as_covers text place count least inAll inSome scratch findings) H locs → W p l e rmX4_copy s m AV below meth c H locs 0 0 Q (F0 m 49 ls []) := by
    intro r_items findings finding h ls H locs hl hG
    unfold fX4_copy_j49 at h
    refine lv_aload_n hx hb dX4_copy_49 rfl (lv_at hl 0 rfl) ?_
    refine lv_iconst (v := 1) hx hb dX4_copy_50 (by decide) ?_
    obtain ⟨v51, finding_51, findings_51, e51, h⟩ := bd3_some h
    refine x_vi (rest := []) (ws' := (wX4 cI ad finding_51 asked upper lower r_items r_sizes t_items t_sizes d_items d_sizes st_size st_need st_lifted st_licked st_morning st_tally st_kinds st_places st_lengths st_downs st_covers sl_size sl_need sl_lifted sl_licked sl_morning sl_tally sl_kinds sl_places sl_lengths sl_downs sl_covers as_size as_need as_lifted as_licked as_morning as_tally as_kinds as_places as_lengths as_downs as_covers text place count least inAll inSome scratch findings_51)) hc hG (cc_X4_find ad finding asked upper lower r_items r_sizes t_items t_sizes d_items d_sizes st_size st_need st_lifted st_licked st_morning st_tally st_kinds st_places st_lengths st_downs st_covers sl_size sl_need sl_lifted sl_licked sl_morning sl_tally sl_kinds sl_places sl_lengths sl_downs sl_covers as_size as_need as_lifted as_licked as_morning as_tally as_kinds as_places as_lengths as_downs as_covers text place count least inAll inSome scratch findings 1 v51 finding_51 findings_51 e51) [0, 1, 2, 3, 4, 5, 6, 7, 8, 9, 10, 11, 12, 13, 14, 15, 16, 17, 18, 19, 20, 21, 22, 23, 24, 25, 26, 27, 28, 29, 30, 31] [] [0, 1, 2, 3, 4, 5, 6, 7, 8, 9, 10, 11, 12, 13, 14, 15, 16, 17, 18, 19, 20, 21, 22, 23, 24, 25, 26, 27, 28, 29, 30, 31] rfl rfl rfl 0 rfl rfl lX4_72 ⟨rfl, rfl, by decide, by decide⟩ rfl hl.1 (Nat.le_of_ble_eq_true rfl) rfl dX4_copy_51 (fun H locs hG => ?_)
    cases h
    exact hret _ _ _ _ hG dX4_copy_54 rfl
  unfold fX4_copy at h
  refine lv_iload_n hx hb dX4_copy_0 rfl (lv_at hl 1 rfl) ?_
  obtain ⟨v1, e1, h⟩ := bd1_some h
  refine x_si0 (rest := []) hc hG (cc_X4_isRow x1 v1 e1) lX4_68 ⟨rfl, rfl, by decide, by decide⟩ rfl hl.1 (Nat.le_of_ble_eq_true rfl) rfl dX4_copy_1 (fun H locs hG => ?_)
  refine lv_if_eq (tgt := 14) hx hb dX4_copy_4 (by decide) (fun c4 => ?_) (fun c4 => ?_)
  · rw [if_pos c4] at h
    refine lv_iconst (v := (-1)) hx hb dX4_copy_14 (by decide) ?_
    cases h
    exact hret _ _ _ _ hG dX4_copy_15 rfl
  · rw [if_neg c4] at h
    refine lv_iload_n hx hb dX4_copy_7 rfl (lv_at hl 3 rfl) ?_
    obtain ⟨v8, e8, h⟩ := bd1_some h
    refine x_si0 (rest := []) hc hG (cc_X4_isRow x3 v8 e8) lX4_68 ⟨rfl, rfl, by decide, by decide⟩ rfl hl.1 (Nat.le_of_ble_eq_true rfl) rfl dX4_copy_8 (fun H locs hG => ?_)
    refine lv_if_ne (tgt := 16) hx hb dX4_copy_11 (by decide) (fun c11 => ?_) (fun c11 => ?_)
    · rw [if_neg c11] at h
      refine lv_iload hx hb dX4_copy_16 (lv_at hl 5 rfl) ?_
      refine lv_if_ge (tgt := 27) hx hb dX4_copy_18 (by decide) (fun c18 => ?_) (fun c18 => ?_)
      · rw [if_pos c18] at h
        refine lv_aload_n hx hb dX4_copy_27 rfl (lv_at hl 0 rfl) ?_
        refine x_get hc hG 0 rfl iX4 0 lX4_14 rfl dX4_copy_28 ?_
        refine lv_iload_n hx hb dX4_copy_31 rfl (lv_at hl 1 rfl) ?_
        obtain ⟨v32, e32, h⟩ := bd1_some h
        refine x_vi (rest := []) (ws' := (wX4 cI ad finding asked upper lower r_items r_sizes t_items t_sizes d_items d_sizes st_size st_need st_lifted st_licked st_morning st_tally st_kinds st_places st_lengths st_downs st_covers sl_size sl_need sl_lifted sl_licked sl_morning sl_tally sl_kinds sl_places sl_lengths sl_downs sl_covers as_size as_need as_lifted as_licked as_morning as_tally as_kinds as_places as_lengths as_downs as_covers text place count least inAll inSome scratch findings)) hc hG (cc_X2_isMissing (fun k => ad (1 + k)) 240 6 40 r_items r_sizes x1 v32 e32) [1, 2, 3] [0, 4, 5, 6, 7, 8, 9, 10, 11, 12, 13, 14, 15, 16, 17, 18, 19, 20, 21, 22, 23, 24, 25, 26, 27, 28, 29, 30, 31] [0, 29, 30, 31, 1, 2, 3, 4, 5, 6, 7, 8, 9, 10, 11, 12, 13, 14, 15, 16, 17, 18, 19, 20, 21, 22, 23, 24, 25, 26, 27, 28] rfl rfl rfl 1 rfl rfl lX4_76 ⟨rfl, rfl, by decide, by decide⟩ rfl hl.1 (Nat.le_of_ble_eq_true rfl) rfl dX4_copy_32 (fun H locs hG => ?_)
        refine lv_if_ne (tgt := 49) hx hb dX4_copy_35 (by decide) (fun c35 => ?_) (fun c35 => ?_)
        · rw [if_neg c35] at h
          exact hj_49 _ _ _ h _ _ _ (lv_sub hl [0] rfl) hG
        · rw [if_pos c35] at h
          refine lv_aload_n hx hb dX4_copy_38 rfl (lv_at hl 0 rfl) ?_
          refine x_get hc hG 0 rfl iX4 0 lX4_14 rfl dX4_copy_39 ?_
          refine lv_iload_n hx hb dX4_copy_42 rfl (lv_at hl 3 rfl) ?_
          obtain ⟨v43, e43, h⟩ := bd1_some h
          refine x_vi (rest := []) (ws' := (wX4 cI ad finding asked upper lower r_items r_sizes t_items t_sizes d_items d_sizes st_size st_need st_lifted st_licked st_morning st_tally st_kinds st_places st_lengths st_downs st_covers sl_size sl_need sl_lifted sl_licked sl_morning sl_tally sl_kinds sl_places sl_lengths sl_downs sl_covers as_size as_need as_lifted as_licked as_morning as_tally as_kinds as_places as_lengths as_downs as_covers text place count least inAll inSome scratch findings)) hc hG (cc_X2_isMissing (fun k => ad (1 + k)) 240 6 40 r_items r_sizes x3 v43 e43) [1, 2, 3] [0, 4, 5, 6, 7, 8, 9, 10, 11, 12, 13, 14, 15, 16, 17, 18, 19, 20, 21, 22, 23, 24, 25, 26, 27, 28, 29, 30, 31] [0, 29, 30, 31, 1, 2, 3, 4, 5, 6, 7, 8, 9, 10, 11, 12, 13, 14, 15, 16, 17, 18, 19, 20, 21, 22, 23, 24, 25, 26, 27, 28] rfl rfl rfl 1 rfl rfl lX4_76 ⟨rfl, rfl, by decide, by decide⟩ rfl hl.1 (Nat.le_of_ble_eq_true rfl) rfl dX4_copy_43 (fun H locs hG => ?_)
          refine lv_if_eq (tgt := 55) hx hb dX4_copy_46 (by decide) (fun c46 => ?_) (fun c46 => ?_)
          · rw [if_pos c46] at h
            refine lv_aload_n hx hb dX4_copy_55 rfl (lv_at hl 0 rfl) ?_
            refine x_get hc hG 0 rfl iX4 0 lX4_14 rfl dX4_copy_56 ?_
            refine lv_iload_n hx hb dX4_copy_59 rfl (lv_at hl 1 rfl) ?_
            refine lv_iload_n hx hb dX4_copy_60 rfl (lv_at hl 2 rfl) ?_
            refine lv_iload hx hb dX4_copy_61 (lv_at hl 5 rfl) ?_
            obtain ⟨v63, e63, h⟩ := bd1_some h
            refine x_vi (rest := []) (ws' := (wX4 cI ad finding asked upper lower r_items r_sizes t_items t_sizes d_items d_sizes st_size st_need st_lifted st_licked st_morning st_tally st_kinds st_places st_lengths st_downs st_covers sl_size sl_need sl_lifted sl_licked sl_morning sl_tally sl_kinds sl_places sl_lengths sl_downs sl_covers as_size as_need as_lifted as_licked as_morning as_tally as_kinds as_places as_lengths as_downs as_covers text place count least inAll inSome scratch findings)) hc hG (cc_X2_hasRun (fun k => ad (1 + k)) 240 6 40 r_items r_sizes x1 x2 x5 v63 e63) [1, 2, 3] [0, 4, 5, 6, 7, 8, 9, 10, 11, 12, 13, 14, 15, 16, 17, 18, 19, 20, 21, 22, 23, 24, 25, 26, 27, 28, 29, 30, 31] [0, 29, 30, 31, 1, 2, 3, 4, 5, 6, 7, 8, 9, 10, 11, 12, 13, 14, 15, 16, 17, 18, 19, 20, 21, 22, 23, 24, 25, 26, 27, 28] rfl rfl rfl 1 rfl rfl lX4_97 ⟨rfl, rfl, by decide, by decide⟩ rfl hl.1 (Nat.le_of_ble_eq_true rfl) rfl dX4_copy_63 (fun H locs hG => ?_)
            refine lv_if_eq (tgt := 84) hx hb dX4_copy_66 (by decide) (fun c66 => ?_) (fun c66 => ?_)
            · rw [if_pos c66] at h
              exact hj_84 _ _ _ h _ _ _ (lv_sub hl [0] rfl) hG
            · rw [if_neg c66] at h
              refine lv_aload_n hx hb dX4_copy_69 rfl (lv_at hl 0 rfl) ?_
              refine x_get hc hG 0 rfl iX4 0 lX4_14 rfl dX4_copy_70 ?_
              refine lv_iload_n hx hb dX4_copy_73 rfl (lv_at hl 3 rfl) ?_
              refine lv_iload hx hb dX4_copy_74 (lv_at hl 4 rfl) ?_
              refine lv_iload hx hb dX4_copy_76 (lv_at hl 5 rfl) ?_
              obtain ⟨v78, e78, h⟩ := bd1_some h
              refine x_vi (rest := []) (ws' := (wX4 cI ad finding asked upper lower r_items r_sizes t_items t_sizes d_items d_sizes st_size st_need st_lifted st_licked st_morning st_tally st_kinds st_places st_lengths st_downs st_covers sl_size sl_need sl_lifted sl_licked sl_morning sl_tally sl_kinds sl_places sl_lengths sl_downs sl_covers as_size as_need as_lifted as_licked as_morning as_tally as_kinds as_places as_lengths as_downs as_covers text place count least inAll inSome scratch findings)) hc hG (cc_X2_hasRun (fun k => ad (1 + k)) 240 6 40 r_items r_sizes x3 x4 x5 v78 e78) [1, 2, 3] [0, 4, 5, 6, 7, 8, 9, 10, 11, 12, 13, 14, 15, 16, 17, 18, 19, 20, 21, 22, 23, 24, 25, 26, 27, 28, 29, 30, 31] [0, 29, 30, 31, 1, 2, 3, 4, 5, 6, 7, 8, 9, 10, 11, 12, 13, 14, 15, 16, 17, 18, 19, 20, 21, 22, 23, 24, 25, 26, 27, 28] rfl rfl rfl 1 rfl rfl lX4_97 ⟨rfl, rfl, by decide, by decide⟩ rfl hl.1 (Nat.le_of_ble_eq_true rfl) rfl dX4_copy_78 (fun H locs hG => ?_)
              refine lv_if_ne (tgt := 90) hx hb dX4_copy_81 (by decide) (fun c81 => ?_) (fun c81 => ?_)
              · rw [if_neg c81] at h
                refine lv_aload_n hx hb dX4_copy_90 rfl (lv_at hl 0 rfl) ?_
                refine x_get hc hG 0 rfl iX4 0 lX4_14 rfl dX4_copy_91 ?_
                refine lv_iload_n hx hb dX4_copy_94 rfl (lv_at hl 1 rfl) ?_
                refine lv_iload_n hx hb dX4_copy_95 rfl (lv_at hl 2 rfl) ?_
                refine lv_iload_n hx hb dX4_copy_96 rfl (lv_at hl 3 rfl) ?_
                refine lv_iload hx hb dX4_copy_97 (lv_at hl 4 rfl) ?_
                refine lv_iload hx hb dX4_copy_99 (lv_at hl 5 rfl) ?_
                obtain ⟨r_items_101, e101, h⟩ := bd1_some h
                refine x_vv (rest := []) (ws' := (wX4 cI ad finding asked upper lower r_items_101 r_sizes t_items t_sizes d_items d_sizes st_size st_need st_lifted st_licked st_morning st_tally st_kinds st_places st_lengths st_downs st_covers sl_size sl_need sl_lifted sl_licked sl_morning sl_tally sl_kinds sl_places sl_lengths sl_downs sl_covers as_size as_need as_lifted as_licked as_morning as_tally as_kinds as_places as_lengths as_downs as_covers text place count least inAll inSome scratch findings)) hc hG (cc_X2_copyRun (fun k => ad (1 + k)) 240 6 40 r_items r_sizes x1 x2 x3 x4 x5 r_items_101 e101) [1, 2, 3] [0, 4, 5, 6, 7, 8, 9, 10, 11, 12, 13, 14, 15, 16, 17, 18, 19, 20, 21, 22, 23, 24, 25, 26, 27, 28, 29, 30, 31] [0, 29, 30, 31, 1, 2, 3, 4, 5, 6, 7, 8, 9, 10, 11, 12, 13, 14, 15, 16, 17, 18, 19, 20, 21, 22, 23, 24, 25, 26, 27, 28] rfl rfl rfl 1 rfl rfl lX4_101 ⟨rfl, rfl, by decide, by decide⟩ rfl hl.1 (Nat.le_of_ble_eq_true rfl) rfl dX4_copy_101 (fun H locs hG => ?_)
                refine lv_iconst (v := 1) hx hb dX4_copy_104 (by decide) ?_
                cases h
                exact hret _ _ _ _ hG dX4_copy_105 rfl
              · rw [if_pos c81] at h
                exact hj_84 _ _ _ h _ _ _ (lv_sub hl [0] rfl) hG
          · rw [if_neg c46] at h
            exact hj_49 _ _ _ h _ _ _ (lv_sub hl [0] rfl) hG
      · rw [if_neg c18] at h
        refine lv_aload_n hx hb dX4_copy_21 rfl (lv_at hl 0 rfl) ?_
        refine lv_iconst (v := 5) hx hb dX4_copy_22 (by decide) ?_
        obtain ⟨v23, finding_23, findings_23, e23, h⟩ := bd3_some h
        refine x_vi (rest := []) (ws' := (wX4 cI ad finding_23 asked upper lower r_items r_sizes t_items t_sizes d_items d_sizes st_size st_need st_lifted st_licked st_morning st_tally st_kinds st_places st_lengths st_downs st_covers sl_size sl_need sl_lifted sl_licked sl_morning sl_tally sl_kinds sl_places sl_lengths sl_downs sl_covers as_size as_need as_lifted as_licked as_morning as_tally as_kinds as_places as_lengths as_downs as_covers text place count least inAll inSome scratch findings_23)) hc hG (cc_X4_find ad finding asked upper lower r_items r_sizes t_items t_sizes d_items d_sizes st_size st_need st_lifted st_licked st_morning st_tally st_kinds st_places st_lengths st_downs st_covers sl_size sl_need sl_lifted sl_licked sl_morning sl_tally sl_kinds sl_places sl_lengths sl_downs sl_covers as_size as_need as_lifted as_licked as_morning as_tally as_kinds as_places as_lengths as_downs as_covers text place count least inAll inSome scratch findings 5 v23 finding_23 findings_23 e23) [0, 1, 2, 3, 4, 5, 6, 7, 8, 9, 10, 11, 12, 13, 14, 15, 16, 17, 18, 19, 20, 21, 22, 23, 24, 25, 26, 27, 28, 29, 30, 31] [] [0, 1, 2, 3, 4, 5, 6, 7, 8, 9, 10, 11, 12, 13, 14, 15, 16, 17, 18, 19, 20, 21, 22, 23, 24, 25, 26, 27, 28, 29, 30, 31] rfl rfl rfl 0 rfl rfl lX4_72 ⟨rfl, rfl, by decide, by decide⟩ rfl hl.1 (Nat.le_of_ble_eq_true rfl) rfl dX4_copy_23 (fun H locs hG => ?_)
        cases h
        exact hret _ _ _ _ hG dX4_copy_26 rfl
    · rw [if_pos c11] at h
      refine lv_iconst (v := (-1)) hx hb dX4_copy_14 (by decide) ?_
      cases h
      exact hret _ _ _ _ hG dX4_copy_15 rfl
set_option maxRecDepth 100000 in
set_option maxHeartbeats 4000000 in
theorem cc_X4_mean {l : Launch} {D : va_G} {cI : ClassId} {tL : Nat} (ad : Nat → Nat) (finding : Int32) (asked : Int32) (upper : Int64) (lower : Int64) (r_items : Nat → Int32) (r_sizes : Nat → Int32) (t_items : Nat → Int32) (t_sizes : Nat → Int32) (d_items : Nat → Int32) (d_sizes : Nat → Int32) (st_size : Int32) (st_need : Int32) (st_lifted : Int32) (st_licked : Int32) (st_morning : Int32) (st_tally : Int32) (st_kinds : Nat → Int32) (st_places : Nat → Int32) (st_lengths : Nat → Int32) (st_downs : Nat → Int32) (st_covers : Nat → Int32) (sl_size : Int32) (sl_need : Int32) (sl_lifted : Int32) (sl_licked : Int32) (sl_morning : Int32) (sl_tally : Int32) (sl_kinds : Nat → Int32) (sl_places : Nat → Int32) (sl_lengths : Nat → Int32) (sl_downs : Nat → Int32) (sl_covers : Nat → Int32) (as_size : Int32) (as_need : Int32) (as_lifted : Int32) (as_licked : Int32) (as_morning : Int32) (as_tally : Int32) (as_kinds : Nat → Int32) (as_places : Nat → Int32) (as_lengths : Nat → Int32) (as_downs : Nat → Int32) (as_covers : Nat → Int32) (text : Int32) (place : Int32) (count : Int32) (least : Int32) (inAll : Int32) (inSome : Int32) (scratch : Nat → Int32) (findings : Nat → Int32) (x1 : Int32) (r' : Int32) (finding' : Int32) (asked' : Int32) (findings' : Nat → Int32) (h : fX4_mean finding asked r_items r_sizes findings x1 = some (r', finding', asked', findings')) : Ci l D cI tL yX4_mean cX4_mean 6 .int rmX4_mean (wX4 cI ad finding asked upper lower r_items r_sizes t_items t_sizes d_items d_sizes st_size st_need st_lifted st_licked st_morning st_tally st_kinds st_places st_lengths st_downs st_covers sl_size sl_need sl_lifted sl_licked sl_morning sl_tally sl_kinds sl_places sl_lengths sl_downs sl_covers as_size as_need as_lifted as_licked as_morning as_tally as_kinds as_places as_lengths as_downs as_covers text place count least inAll inSome scratch findings) [.ref (ad 0), .int x1] r' (wX4 cI ad finding' asked' upper lower r_items r_sizes t_items t_sizes d_items d_sizes st_size st_need st_lifted st_licked st_morning st_tally st_kinds st_places st_lengths st_downs st_covers sl_size sl_need sl_lifted sl_licked sl_morning sl_tally sl_kinds sl_places sl_lengths sl_downs sl_covers as_size as_need as_lifted as_licked as_morning as_tally as_kinds as_places as_lengths as_downs as_covers text place count least inAll inSome scratch findings') := by
  refine Ci_of (own := RX4) (by decide) (Nat.le_of_ble_eq_true rfl) rfl ?_
  intro p e s m below meth c Q A AV hc hret ls hl hG
  obtain ⟨hx, hb, hml, hown, hts, hK, hA, hz⟩ := id hc
  have hl : lv_has ls 6 [(0, .ref (ad 0)), (1, .int x1)] := hl
  have hL_50 : ∀ (x1 : Int32) (x2 : Int32) (finding : Int32) (asked : Int32) (findings : Nat → Int32) (x3_o : Int64), (∀ (ls : Array Slot) (H : Heap) (locs : List Loc), lv_has ls 6 [(0, .ref (ad 0)), (2, .int x2), (3, .long x3_o)] → St D A s (wX4 cI ad finding asked upper lower r_items r_sizes t_items t_sizes d_items d_sizes st_size st_need st_lifted st_licked st_morning st_tally st_kinds st_places st_lengths st_downs st_covers sl_size sl_need sl_lifted sl_licked sl_morning sl_tally sl_kinds sl_places sl_lengths sl_downs sl_covers as_size as_need as_lifted as_licked as_morning as_tally as_kinds as_places as_lengths as_downs as_covers text place count least inAll inSome scratch findings) H locs → W p l e rmX4_mean s m AV below meth c H locs 0 0 Q (F0 m 76 ls [])) → ∀ (n : Nat) (x3 : Int64) (x5 : Int32), fX4_mean_L50 r_items r_sizes x1 x2 n x3 x5 = some x3_o → ∀ (ls : Array Slot) (H : Heap) (locs : List Loc), lv_has ls 6 [(0, .ref (ad 0)), (1, .int x1), (2, .int x2), (3, .long x3), (5, .int x5)] → St D A s (wX4 cI ad finding asked upper lower r_items r_sizes t_items t_sizes d_items d_sizes st_size st_need st_lifted st_licked st_morning st_tally st_kinds st_places st_lengths st_downs st_covers sl_size sl_need sl_lifted sl_licked sl_morning sl_tally sl_kinds sl_places sl_lengths sl_downs sl_covers as_size as_need as_lifted as_licked as_morning as_tally as_kinds as_places as_lengths as_downs as_covers text place count least inAll inSome scratch findings) H locs → W p l e rmX4_mean s m AV below meth c H locs 0 0 Q (F0 m 50 ls []) := by
    intro x1 x2 finding asked findings x3_o KE n
    induction n with
    | zero =>
      intro x3 x5 h
      exact nomatch (show none = some _ from h)
    | succ n ih =>
      intro x3 x5 h ls H locs hl hG
      have h : fX4_mean_B50 r_items r_sizes x1 x2 (fX4_mean_L50 r_items r_sizes x1 x2 n) x3 x5 = some x3_o := h
      unfold fX4_mean_B50 at h
      refine lv_iload hx hb dX4_mean_50 (lv_at hl 4 rfl) ?_
      refine lv_iload_n hx hb dX4_mean_52 rfl (lv_at hl 2 rfl) ?_
      refine lv_icmp_ge (tgt := 76) hx hb dX4_mean_53 (by decide) (fun c53 => ?_) (fun c53 => ?_)
      · rw [if_pos c53] at h
        cases h
        exact KE _ _ _ (lv_sub hl [0, 2, 3] rfl) hG
      · rw [if_neg c53] at h
        refine lv_lload_n hx hb dX4_mean_56 rfl (lv_at hl 3 rfl) ?_
        refine lv_aload_n hx hb dX4_mean_57 rfl (lv_at hl 0 rfl) ?_
        refine x_get hc hG 0 rfl iX4 0 lX4_14 rfl dX4_mean_58 ?_
        refine lv_iload_n hx hb dX4_mean_61 rfl (lv_at hl 1 rfl) ?_
        refine lv_iload hx hb dX4_mean_62 (lv_at hl 4 rfl) ?_
        obtain ⟨v64, e64, h⟩ := bd1_some h
        refine x_vi (rest := [.long x3]) (ws' := (wX4 cI ad finding asked upper lower r_items r_sizes t_items t_sizes d_items d_sizes st_size st_need st_lifted st_licked st_morning st_tally st_kinds st_places st_lengths st_downs st_covers sl_size sl_need sl_lifted sl_licked sl_morning sl_tally sl_kinds sl_places sl_lengths sl_downs sl_covers as_size as_need as_lifted as_licked as_morning as_tally as_kinds as_places as_lengths as_downs as_covers text place count least inAll inSome scratch findings)) hc hG (cc_X2_get (fun k => ad (1 + k)) 240 6 40 r_items r_sizes x1 x5 v64 e64) [1, 2, 3] [0, 4, 5, 6, 7, 8, 9, 10, 11, 12, 13, 14, 15, 16, 17, 18, 19, 20, 21, 22, 23, 24, 25, 26, 27, 28, 29, 30, 31] [0, 29, 30, 31, 1, 2, 3, 4, 5, 6, 7, 8, 9, 10, 11, 12, 13, 14, 15, 16, 17, 18, 19, 20, 21, 22, 23, 24, 25, 26, 27, 28] rfl rfl rfl 1 rfl rfl lX4_83 ⟨rfl, rfl, by decide, by decide⟩ rfl hl.1 (Nat.le_of_ble_eq_true rfl) rfl dX4_mean_64 (fun H locs hG => ?_)
        refine lv_i2l hx hb dX4_mean_67 rfl ?_
        refine lv_ladd hx hb dX4_mean_68 ?_
        refine lv_lstore_n (lv' := [(3, .long (x3 + (Int32.toInt64 v64))), (0, .ref (ad 0)), (1, .int x1), (2, .int x2), (5, .int x5)]) hx hb dX4_mean_69 rfl hl (by decide) rfl (fun ls hl => ?_)
        refine lv_iinc (v := (x5 + 1)) (lv' := [(5, .int (x5 + 1)), (3, .long (x3 + (Int32.toInt64 v64))), (0, .ref (ad 0)), (1, .int x1), (2, .int x2)]) hx hb dX4_mean_70 hl (k := 4) rfl rfl (by decide) rfl (fun ls hl => ?_)
        refine lv_goto (tgt := 50) hx hb dX4_mean_73 (by decide) ?_
        exact ih _ _ h _ _ _ (lv_sub hl [2, 3, 4, 1, 0] rfl) hG
  unfold fX4_mean at h
  refine lv_iload_n hx hb dX4_mean_0 rfl (lv_at hl 1 rfl) ?_
  obtain ⟨v1, e1, h⟩ := bd1_some h
  refine x_si0 (rest := []) hc hG (cc_X4_isRow x1 v1 e1) lX4_68 ⟨rfl, rfl, by decide, by decide⟩ rfl hl.1 (Nat.le_of_ble_eq_true rfl) rfl dX4_mean_1 (fun H locs hG => ?_)
  refine lv_if_ne (tgt := 9) hx hb dX4_mean_4 (by decide) (fun c4 => ?_) (fun c4 => ?_)
  · rw [if_neg c4] at h
    refine lv_aload_n hx hb dX4_mean_9 rfl (lv_at hl 0 rfl) ?_
    refine x_get hc hG 0 rfl iX4 0 lX4_14 rfl dX4_mean_10 ?_
    refine lv_iload_n hx hb dX4_mean_13 rfl (lv_at hl 1 rfl) ?_
    obtain ⟨v14, e14, h⟩ := bd1_some h
    refine x_vi (rest := []) (ws' := (wX4 cI ad finding asked upper lower r_items r_sizes t_items t_sizes d_items d_sizes st_size st_need st_lifted st_licked st_morning st_tally st_kinds st_places st_lengths st_downs st_covers sl_size sl_need sl_lifted sl_licked sl_morning sl_tally sl_kinds sl_places sl_lengths sl_downs sl_covers as_size as_need as_lifted as_licked as_morning as_tally as_kinds as_places as_lengths as_downs as_covers text place count least inAll inSome scratch findings)) hc hG (cc_X2_isMissing (fun k => ad (1 + k)) 240 6 40 r_items r_sizes x1 v14 e14) [1, 2, 3] [0, 4, 5, 6, 7, 8, 9, 10, 11, 12, 13, 14, 15, 16, 17, 18, 19, 20, 21, 22, 23, 24, 25, 26, 27, 28, 29, 30, 31] [0, 29, 30, 31, 1, 2, 3, 4, 5, 6, 7, 8, 9, 10, 11, 12, 13, 14, 15, 16, 17, 18, 19, 20, 21, 22, 23, 24, 25, 26, 27, 28] rfl rfl rfl 1 rfl rfl lX4_76 ⟨rfl, rfl, by decide, by decide⟩ rfl hl.1 (Nat.le_of_ble_eq_true rfl) rfl dX4_mean_14 (fun H locs hG => ?_)
    refine lv_if_eq (tgt := 26) hx hb dX4_mean_17 (by decide) (fun c17 => ?_) (fun c17 => ?_)
    · rw [if_pos c17] at h
      refine lv_aload_n hx hb dX4_mean_26 rfl (lv_at hl 0 rfl) ?_
      refine x_get hc hG 0 rfl iX4 0 lX4_14 rfl dX4_mean_27 ?_
      refine lv_iload_n hx hb dX4_mean_30 rfl (lv_at hl 1 rfl) ?_
      obtain ⟨v31, e31, h⟩ := bd1_some h
      refine x_vi (rest := []) (ws' := (wX4 cI ad finding asked upper lower r_items r_sizes t_items t_sizes d_items d_sizes st_size st_need st_lifted st_licked st_morning st_tally st_kinds st_places st_lengths st_downs st_covers sl_size sl_need sl_lifted sl_licked sl_morning sl_tally sl_kinds sl_places sl_lengths sl_downs sl_covers as_size as_need as_lifted as_licked as_morning as_tally as_kinds as_places as_lengths as_downs as_covers text place count least inAll inSome scratch findings)) hc hG (cc_X2_sizeOf (fun k => ad (1 + k)) 240 6 40 r_items r_sizes x1 v31 e31) [1, 2, 3] [0, 4, 5, 6, 7, 8, 9, 10, 11, 12, 13, 14, 15, 16, 17, 18, 19, 20, 21, 22, 23, 24, 25, 26, 27, 28, 29, 30, 31] [0, 29, 30, 31, 1, 2, 3, 4, 5, 6, 7, 8, 9, 10, 11, 12, 13, 14, 15, 16, 17, 18, 19, 20, 21, 22, 23, 24, 25, 26, 27, 28] rfl rfl rfl 1 rfl rfl lX4_105 ⟨rfl, rfl, by decide, by decide⟩ rfl hl.1 (Nat.le_of_ble_eq_true rfl) rfl dX4_mean_31 (fun H locs hG => ?_)
      refine lv_istore_n (lv' := [(2, .int v31), (0, .ref (ad 0)), (1, .int x1)]) hx hb dX4_mean_34 rfl hl (by decide) rfl (fun ls hl => ?_)
      refine lv_iload_n hx hb dX4_mean_35 rfl (lv_at hl 0 rfl) ?_
      refine lv_if_ne (tgt := 45) hx hb dX4_mean_36 (by decide) (fun c36 => ?_) (fun c36 => ?_)
      · rw [if_neg c36] at h
        refine lv_lconst (v := 0) hx hb dX4_mean_45 (by decide) ?_
        refine lv_lstore_n (lv' := [(3, .long 0), (2, .int v31), (0, .ref (ad 0)), (1, .int x1)]) hx hb dX4_mean_46 rfl hl (by decide) rfl (fun ls hl => ?_)
        refine lv_iconst (v := 0) hx hb dX4_mean_47 (by decide) ?_
        refine lv_istore (lv' := [(5, .int 0), (3, .long 0), (2, .int v31), (0, .ref (ad 0)), (1, .int x1)]) hx hb dX4_mean_48 hl (by decide) rfl (fun ls hl => ?_)
        obtain ⟨x3_L50, e50, h⟩ := bd1_some h
        refine hL_50 _ _ _ _ _ _ (fun ls H locs hl hG => ?_) _ _ _ e50 _ _ _ (lv_sub hl [3, 4, 2, 1, 0] rfl) hG
        refine lv_aload_n hx hb dX4_mean_76 rfl (lv_at hl 0 rfl) ?_
        refine lv_lload_n hx hb dX4_mean_77 rfl (lv_at hl 2 rfl) ?_
        refine lv_iload_n hx hb dX4_mean_78 rfl (lv_at hl 1 rfl) ?_
        refine lv_i2l hx hb dX4_mean_79 rfl ?_
        by_cases c80 : (Int32.toInt64 v31) = 0
        · rw [if_pos c80] at h
          cases h
        · rw [if_neg c80] at h
          refine lv_ldiv hx hb dX4_mean_80 c80 ?_
          refine lv_l2i hx hb dX4_mean_81 rfl ?_
          obtain ⟨v82, asked_82, e82, h⟩ := bd2_some h
          refine x_vi (rest := []) (ws' := (wX4 cI ad finding asked_82 upper lower r_items r_sizes t_items t_sizes d_items d_sizes st_size st_need st_lifted st_licked st_morning st_tally st_kinds st_places st_lengths st_downs st_covers sl_size sl_need sl_lifted sl_licked sl_morning sl_tally sl_kinds sl_places sl_lengths sl_downs sl_covers as_size as_need as_lifted as_licked as_morning as_tally as_kinds as_places as_lengths as_downs as_covers text place count least inAll inSome scratch findings)) hc hG (cc_X4_tell ad finding asked upper lower r_items r_sizes t_items t_sizes d_items d_sizes st_size st_need st_lifted st_licked st_morning st_tally st_kinds st_places st_lengths st_downs st_covers sl_size sl_need sl_lifted sl_licked sl_morning sl_tally sl_kinds sl_places sl_lengths sl_downs sl_covers as_size as_need as_lifted as_licked as_morning as_tally as_kinds as_places as_lengths as_downs as_covers text place count least inAll inSome scratch findings (Int64.toInt32 (x3_L50 / (Int32.toInt64 v31))) v82 asked_82 e82) [0, 1, 2, 3, 4, 5, 6, 7, 8, 9, 10, 11, 12, 13, 14, 15, 16, 17, 18, 19, 20, 21, 22, 23, 24, 25, 26, 27, 28, 29, 30, 31] [] [0, 1, 2, 3, 4, 5, 6, 7, 8, 9, 10, 11, 12, 13, 14, 15, 16, 17, 18, 19, 20, 21, 22, 23, 24, 25, 26, 27, 28, 29, 30, 31] rfl rfl rfl 0 rfl rfl lX4_90 ⟨rfl, rfl, by decide, by decide⟩ rfl hl.1 (Nat.le_of_ble_eq_true rfl) rfl dX4_mean_82 (fun H locs hG => ?_)
          cases h
          exact hret _ _ _ _ hG dX4_mean_85 rfl
      · rw [if_pos c36] at h
        refine lv_aload_n hx hb dX4_mean_39 rfl (lv_at hl 1 rfl) ?_
        refine lv_iconst (v := 4) hx hb dX4_mean_40 (by decide) ?_
        obtain ⟨v41, finding_41, findings_41, e41, h⟩ := bd3_some h
        refine x_vi (rest := []) (ws' := (wX4 cI ad finding_41 asked upper lower r_items r_sizes t_items t_sizes d_items d_sizes st_size st_need st_lifted st_licked st_morning st_tally st_kinds st_places st_lengths st_downs st_covers sl_size sl_need sl_lifted sl_licked sl_morning sl_tally sl_kinds sl_places sl_lengths sl_downs sl_covers as_size as_need as_lifted as_licked as_morning as_tally as_kinds as_places as_lengths as_downs as_covers text place count least inAll inSome scratch findings_41)) hc hG (cc_X4_find ad finding asked upper lower r_items r_sizes t_items t_sizes d_items d_sizes st_size st_need st_lifted st_licked st_morning st_tally st_kinds st_places st_lengths st_downs st_covers sl_size sl_need sl_lifted sl_licked sl_morning sl_tally sl_kinds sl_places sl_lengths sl_downs sl_covers as_size as_need as_lifted as_licked as_morning as_tally as_kinds as_places as_lengths as_downs as_covers text place count least inAll inSome scratch findings 4 v41 finding_41 findings_41 e41) [0, 1, 2, 3, 4, 5, 6, 7, 8, 9, 10, 11, 12, 13, 14, 15, 16, 17, 18, 19, 20, 21, 22, 23, 24, 25, 26, 27, 28, 29, 30, 31] [] [0, 1, 2, 3, 4, 5, 6, 7, 8, 9, 10, 11, 12, 13, 14, 15, 16, 17, 18, 19, 20, 21, 22, 23, 24, 25, 26, 27, 28, 29, 30, 31] rfl rfl rfl 0 rfl rfl lX4_72 ⟨rfl, rfl, by decide, by decide⟩ rfl hl.1 (Nat.le_of_ble_eq_true rfl) rfl dX4_mean_41 (fun H locs hG => ?_)
        cases h
        exact hret _ _ _ _ hG dX4_mean_44 rfl
    · rw [if_neg c17] at h
      refine lv_aload_n hx hb dX4_mean_20 rfl (lv_at hl 0 rfl) ?_
      refine lv_iconst (v := 1) hx hb dX4_mean_21 (by decide) ?_
      obtain ⟨v22, finding_22, findings_22, e22, h⟩ := bd3_some h
      refine x_vi (rest := []) (ws' := (wX4 cI ad finding_22 asked upper lower r_items r_sizes t_items t_sizes d_items d_sizes st_size st_need st_lifted st_licked st_morning st_tally st_kinds st_places st_lengths st_downs st_covers sl_size sl_need sl_lifted sl_licked sl_morning sl_tally sl_kinds sl_places sl_lengths sl_downs sl_covers as_size as_need as_lifted as_licked as_morning as_tally as_kinds as_places as_lengths as_downs as_covers text place count least inAll inSome scratch findings_22)) hc hG (cc_X4_find ad finding asked upper lower r_items r_sizes t_items t_sizes d_items d_sizes st_size st_need st_lifted st_licked st_morning st_tally st_kinds st_places st_lengths st_downs st_covers sl_size sl_need sl_lifted sl_licked sl_morning sl_tally sl_kinds sl_places sl_lengths sl_downs sl_covers as_size as_need as_lifted as_licked as_morning as_tally as_kinds as_places as_lengths as_downs as_covers text place count least inAll inSome scratch findings 1 v22 finding_22 findings_22 e22) [0, 1, 2, 3, 4, 5, 6, 7, 8, 9, 10, 11, 12, 13, 14, 15, 16, 17, 18, 19, 20, 21, 22, 23, 24, 25, 26, 27, 28, 29, 30, 31] [] [0, 1, 2, 3, 4, 5, 6, 7, 8, 9, 10, 11, 12, 13, 14, 15, 16, 17, 18, 19, 20, 21, 22, 23, 24, 25, 26, 27, 28, 29, 30, 31] rfl rfl rfl 0 rfl rfl lX4_72 ⟨rfl, rfl, by decide, by decide⟩ rfl hl.1 (Nat.le_of_ble_eq_true rfl) rfl dX4_mean_22 (fun H locs hG => ?_)
      cases h
      exact hret _ _ _ _ hG dX4_mean_25 rfl
  · rw [if_pos c4] at h
    refine lv_iconst (v := (-1)) hx hb dX4_mean_7 (by decide) ?_
    cases h
    exact hret _ _ _ _ hG dX4_mean_8 rfl
set_option maxRecDepth 100000 in
set_option maxHeartbeats 4000000 in
theorem cc_X4_isText {l : Launch} {D : va_G} {cI : ClassId} {tL : Nat} (x0 : Int32) (r' : Int32) (h : fX4_isText x0 = some r') : Ci l D cI tL yX4_isText cX4_isText 1 .boolean rmX4_isText [] [.int x0] r' [] := by
  refine Ci_of (own := RX4) (by decide) (Nat.le_of_ble_eq_true rfl) rfl ?_
  intro p e s m below meth c Q A AV hc hret ls hl hG
  obtain ⟨hx, hb, hml, hown, hts, hK, hA, hz⟩ := id hc
  have hl : lv_has ls 1 [(0, .int x0)] := hl
  unfold fX4_isText at h
  refine lv_iload_n hx hb dX4_isText_0 rfl (lv_at hl 0 rfl) ?_
  refine lv_iconst (v := 4) hx hb dX4_isText_1 (by decide) ?_
  obtain ⟨v2, e2, h⟩ := bd1_some h
  refine x_si0 (rest := []) hc hG (cc_X4_isIn x0 4 v2 e2) lX4_124 ⟨rfl, rfl, by decide, by decide⟩ rfl hl.1 (Nat.le_of_ble_eq_true rfl) rfl dX4_isText_2 (fun H locs hG => ?_)
  by_cases cz : v2 &&& 1 = v2
  · rw [if_pos cz] at h
    cases h
    exact hret _ _ _ _ hG dX4_isText_5 (nb cz)
  · rw [if_neg cz] at h
    cases h
set_option maxRecDepth 100000 in
set_option maxHeartbeats 4000000 in
theorem cc_X4_text {l : Launch} {D : va_G} {cI : ClassId} {tL : Nat} (ad : Nat → Nat) (finding : Int32) (asked : Int32) (upper : Int64) (lower : Int64) (r_items : Nat → Int32) (r_sizes : Nat → Int32) (t_items : Nat → Int32) (t_sizes : Nat → Int32) (d_items : Nat → Int32) (d_sizes : Nat → Int32) (st_size : Int32) (st_need : Int32) (st_lifted : Int32) (st_licked : Int32) (st_morning : Int32) (st_tally : Int32) (st_kinds : Nat → Int32) (st_places : Nat → Int32) (st_lengths : Nat → Int32) (st_downs : Nat → Int32) (st_covers : Nat → Int32) (sl_size : Int32) (sl_need : Int32) (sl_lifted : Int32) (sl_licked : Int32) (sl_morning : Int32) (sl_tally : Int32) (sl_kinds : Nat → Int32) (sl_places : Nat → Int32) (sl_lengths : Nat → Int32) (sl_downs : Nat → Int32) (sl_covers : Nat → Int32) (as_size : Int32) (as_need : Int32) (as_lifted : Int32) (as_licked : Int32) (as_morning : Int32) (as_tally : Int32) (as_kinds : Nat → Int32) (as_places : Nat → Int32) (as_lengths : Nat → Int32) (as_downs : Nat → Int32) (as_covers : Nat → Int32) (text : Int32) (place : Int32) (count : Int32) (least : Int32) (inAll : Int32) (inSome : Int32) (scratch : Nat → Int32) (findings : Nat → Int32) (x1 : Int32) (x2 : Int32) (r' : Int32) (finding' : Int32) (t_items' : Nat → Int32) (t_sizes' : Nat → Int32) (findings' : Nat → Int32) (h : fX4_text finding t_items t_sizes findings x1 x2 = some (r', finding', t_items', t_sizes', findings')) : Ci l D cI tL yX4_text cX4_text 3 .int rmX4_text (wX4 cI ad finding asked upper lower r_items r_sizes t_items t_sizes d_items d_sizes st_size st_need st_lifted st_licked st_morning st_tally st_kinds st_places st_lengths st_downs st_covers sl_size sl_need sl_lifted sl_licked sl_morning sl_tally sl_kinds sl_places sl_lengths sl_downs sl_covers as_size as_need as_lifted as_licked as_morning as_tally as_kinds as_places as_lengths as_downs as_covers text place count least inAll inSome scratch findings) [.ref (ad 0), .int x1, .int x2] r' (wX4 cI ad finding' asked upper lower r_items r_sizes t_items' t_sizes' d_items d_sizes st_size st_need st_lifted st_licked st_morning st_tally st_kinds st_places st_lengths st_downs st_covers sl_size sl_need sl_lifted sl_licked sl_morning sl_tally sl_kinds sl_places sl_lengths sl_downs sl_covers as_size as_need as_lifted as_licked as_morning as_tally as_kinds as_places as_lengths as_downs as_covers text place count least inAll inSome scratch findings') := by
  refine Ci_of (own := RX4) (by decide) (Nat.le_of_ble_eq_true rfl) rfl ?_
  intro p e s m below meth c Q A AV hc hret ls hl hG
  obtain ⟨hx, hb, hml, hown, hts, hK, hA, hz⟩ := id hc
  have hl : lv_has ls 3 [(0, .ref (ad 0)), (1, .int x1), (2, .int x2)] := hl
  unfold fX4_text at h
  refine lv_iload_n hx hb dX4_text_0 rfl (lv_at hl 1 rfl) ?_
  obtain ⟨v1, e1, h⟩ := bd1_some h
  refine x_si0 (rest := []) hc hG (cc_X4_isText x1 v1 e1) lX4_108 ⟨rfl, rfl, by decide, by decide⟩ rfl hl.1 (Nat.le_of_ble_eq_true rfl) rfl dX4_text_1 (fun H locs hG => ?_)
  refine lv_if_eq (tgt := 13) hx hb dX4_text_4 (by decide) (fun c4 => ?_) (fun c4 => ?_)
  · rw [if_pos c4] at h
    refine lv_iconst (v := (-1)) hx hb dX4_text_13 (by decide) ?_
    cases h
    exact hret _ _ _ _ hG dX4_text_14 rfl
  · rw [if_neg c4] at h
    refine lv_iload_n hx hb dX4_text_7 rfl (lv_at hl 2 rfl) ?_
    refine lv_bipush (v := 60) hx hb dX4_text_8 (by decide) ?_
    refine lv_icmp_le (tgt := 15) hx hb dX4_text_10 (by decide) (fun c10 => ?_) (fun c10 => ?_)
    · rw [if_pos c10] at h
      refine lv_iload_n hx hb dX4_text_15 rfl (lv_at hl 2 rfl) ?_
      refine lv_if_ge (tgt := 25) hx hb dX4_text_16 (by decide) (fun c16 => ?_) (fun c16 => ?_)
      · rw [if_pos c16] at h
        refine lv_aload_n hx hb dX4_text_25 rfl (lv_at hl 0 rfl) ?_
        refine x_get hc hG 0 rfl iX4 1 lX4_18 rfl dX4_text_26 ?_
        refine lv_iload_n hx hb dX4_text_29 rfl (lv_at hl 1 rfl) ?_
        refine lv_iload_n hx hb dX4_text_30 rfl (lv_at hl 2 rfl) ?_
        refine lv_bipush (v := 32) hx hb dX4_text_31 (by decide) ?_
        obtain ⟨t_items_33, t_sizes_33, e33, h⟩ := bd2_some h
        refine x_vv (rest := []) (ws' := (wX4 cI ad finding asked upper lower r_items r_sizes t_items_33 t_sizes_33 d_items d_sizes st_size st_need st_lifted st_licked st_morning st_tally st_kinds st_places st_lengths st_downs st_covers sl_size sl_need sl_lifted sl_licked sl_morning sl_tally sl_kinds sl_places sl_lengths sl_downs sl_covers as_size as_need as_lifted as_licked as_morning as_tally as_kinds as_places as_lengths as_downs as_covers text place count least inAll inSome scratch findings)) hc hG (cc_X2_make (fun k => ad (4 + k)) 240 4 60 t_items t_sizes x1 x2 32 t_items_33 t_sizes_33 e33) [4, 5, 6] [0, 1, 2, 3, 7, 8, 9, 10, 11, 12, 13, 14, 15, 16, 17, 18, 19, 20, 21, 22, 23, 24, 25, 26, 27, 28, 29, 30, 31] [0, 1, 2, 3, 29, 30, 31, 4, 5, 6, 7, 8, 9, 10, 11, 12, 13, 14, 15, 16, 17, 18, 19, 20, 21, 22, 23, 24, 25, 26, 27, 28] rfl rfl rfl 4 rfl rfl lX4_24 ⟨rfl, rfl, by decide, by decide⟩ rfl hl.1 (Nat.le_of_ble_eq_true rfl) rfl dX4_text_33 (fun H locs hG => ?_)
        refine lv_iload_n hx hb dX4_text_36 rfl (lv_at hl 2 rfl) ?_
        cases h
        exact hret _ _ _ _ hG dX4_text_37 rfl
      · rw [if_neg c16] at h
        refine lv_aload_n hx hb dX4_text_19 rfl (lv_at hl 0 rfl) ?_
        refine lv_iconst (v := 5) hx hb dX4_text_20 (by decide) ?_
        obtain ⟨v21, finding_21, findings_21, e21, h⟩ := bd3_some h
        refine x_vi (rest := []) (ws' := (wX4 cI ad finding_21 asked upper lower r_items r_sizes t_items t_sizes d_items d_sizes st_size st_need st_lifted st_licked st_morning st_tally st_kinds st_places st_lengths st_downs st_covers sl_size sl_need sl_lifted sl_licked sl_morning sl_tally sl_kinds sl_places sl_lengths sl_downs sl_covers as_size as_need as_lifted as_licked as_morning as_tally as_kinds as_places as_lengths as_downs as_covers text place count least inAll inSome scratch findings_21)) hc hG (cc_X4_find ad finding asked upper lower r_items r_sizes t_items t_sizes d_items d_sizes st_size st_need st_lifted st_licked st_morning st_tally st_kinds st_places st_lengths st_downs st_covers sl_size sl_need sl_lifted sl_licked sl_morning sl_tally sl_kinds sl_places sl_lengths sl_downs sl_covers as_size as_need as_lifted as_licked as_morning as_tally as_kinds as_places as_lengths as_downs as_covers text place count least inAll inSome scratch findings 5 v21 finding_21 findings_21 e21) [0, 1, 2, 3, 4, 5, 6, 7, 8, 9, 10, 11, 12, 13, 14, 15, 16, 17, 18, 19, 20, 21, 22, 23, 24, 25, 26, 27, 28, 29, 30, 31] [] [0, 1, 2, 3, 4, 5, 6, 7, 8, 9, 10, 11, 12, 13, 14, 15, 16, 17, 18, 19, 20, 21, 22, 23, 24, 25, 26, 27, 28, 29, 30, 31] rfl rfl rfl 0 rfl rfl lX4_72 ⟨rfl, rfl, by decide, by decide⟩ rfl hl.1 (Nat.le_of_ble_eq_true rfl) rfl dX4_text_21 (fun H locs hG => ?_)
        cases h
        exact hret _ _ _ _ hG dX4_text_24 rfl
    · rw [if_neg c10] at h
      refine lv_iconst (v := (-1)) hx hb dX4_text_13 (by decide) ?_
      cases h
      exact hret _ _ _ _ hG dX4_text_14 rfl
set_option maxRecDepth 100000 in
set_option maxHeartbeats 4000000 in
theorem cc_X4_put {l : Launch} {D : va_G} {cI : ClassId} {tL : Nat} (ad : Nat → Nat) (finding : Int32) (asked : Int32) (upper : Int64) (lower : Int64) (r_items : Nat → Int32) (r_sizes : Nat → Int32) (t_items : Nat → Int32) (t_sizes : Nat → Int32) (d_items : Nat → Int32) (d_sizes : Nat → Int32) (st_size : Int32) (st_need : Int32) (st_lifted : Int32) (st_licked : Int32) (st_morning : Int32) (st_tally : Int32) (st_kinds : Nat → Int32) (st_places : Nat → Int32) (st_lengths : Nat → Int32) (st_downs : Nat → Int32) (st_covers : Nat → Int32) (sl_size : Int32) (sl_need : Int32) (sl_lifted : Int32) (sl_licked : Int32) (sl_morning : Int32) (sl_tally : Int32) (sl_kinds : Nat → Int32) (sl_places : Nat → Int32) (sl_lengths : Nat → Int32) (sl_downs : Nat → Int32) (sl_covers : Nat → Int32) (as_size : Int32) (as_need : Int32) (as_lifted : Int32) (as_licked : Int32) (as_morning : Int32) (as_tally : Int32) (as_kinds : Nat → Int32) (as_places : Nat → Int32) (as_lengths : Nat → Int32) (as_downs : Nat → Int32) (as_covers : Nat → Int32) (text : Int32) (place : Int32) (count : Int32) (least : Int32) (inAll : Int32) (inSome : Int32) (scratch : Nat → Int32) (findings : Nat → Int32) (x1 : Int32) (x2 : Int32) (x3 : Int32) (r' : Int32) (finding' : Int32) (t_items' : Nat → Int32) (findings' : Nat → Int32) (h : fX4_put finding t_items t_sizes findings x1 x2 x3 = some (r', finding', t_items', findings')) : Ci l D cI tL yX4_put cX4_put 5 .int rmX4_put (wX4 cI ad finding asked upper lower r_items r_sizes t_items t_sizes d_items d_sizes st_size st_need st_lifted st_licked st_morning st_tally st_kinds st_places st_lengths st_downs st_covers sl_size sl_need sl_lifted sl_licked sl_morning sl_tally sl_kinds sl_places sl_lengths sl_downs sl_covers as_size as_need as_lifted as_licked as_morning as_tally as_kinds as_places as_lengths as_downs as_covers text place count least inAll inSome scratch findings) [.ref (ad 0), .int x1, .int x2, .int x3] r' (wX4 cI ad finding' asked upper lower r_items r_sizes t_items' t_sizes d_items d_sizes st_size st_need st_lifted st_licked st_morning st_tally st_kinds st_places st_lengths st_downs st_covers sl_size sl_need sl_lifted sl_licked sl_morning sl_tally sl_kinds sl_places sl_lengths sl_downs sl_covers as_size as_need as_lifted as_licked as_morning as_tally as_kinds as_places as_lengths as_downs as_covers text place count least inAll inSome scratch findings') := by
  refine Ci_of (own := RX4) (by decide) (Nat.le_of_ble_eq_true rfl) rfl ?_
  intro p e s m below meth c Q A AV hc hret ls hl hG
  obtain ⟨hx, hb, hml, hown, hts, hK, hA, hz⟩ := id hc
  have hl : lv_has ls 5 [(0, .ref (ad 0)), (1, .int x1), (2, .int x2), (3, .int x3)] := hl
  unfold fX4_put at h
  refine lv_iload_n hx hb dX4_put_0 rfl (lv_at hl 1 rfl) ?_
  obtain ⟨v1, e1, h⟩ := bd1_some h
  refine x_si0 (rest := []) hc hG (cc_X4_isText x1 v1 e1) lX4_108 ⟨rfl, rfl, by decide, by decide⟩ rfl hl.1 (Nat.le_of_ble_eq_true rfl) rfl dX4_put_1 (fun H locs hG => ?_)
  refine lv_if_ne (tgt := 9) hx hb dX4_put_4 (by decide) (fun c4 => ?_) (fun c4 => ?_)
  · rw [if_neg c4] at h
    refine lv_aload_n hx hb dX4_put_9 rfl (lv_at hl 0 rfl) ?_
    refine x_get hc hG 0 rfl iX4 1 lX4_18 rfl dX4_put_10 ?_
    refine lv_iload_n hx hb dX4_put_13 rfl (lv_at hl 1 rfl) ?_
    obtain ⟨v14, e14, h⟩ := bd1_some h
    refine x_vi (rest := []) (ws' := (wX4 cI ad finding asked upper lower r_items r_sizes t_items t_sizes d_items d_sizes st_size st_need st_lifted st_licked st_morning st_tally st_kinds st_places st_lengths st_downs st_covers sl_size sl_need sl_lifted sl_licked sl_morning sl_tally sl_kinds sl_places sl_lengths sl_downs sl_covers as_size as_need as_lifted as_licked as_morning as_tally as_kinds as_places as_lengths as_downs as_covers text place count least inAll inSome scratch findings)) hc hG (cc_X2_isMissing (fun k => ad (4 + k)) 240 4 60 t_items t_sizes x1 v14 e14) [4, 5, 6] [0, 1, 2, 3, 7, 8, 9, 10, 11, 12, 13, 14, 15, 16, 17, 18, 19, 20, 21, 22, 23, 24, 25, 26, 27, 28, 29, 30, 31] [0, 1, 2, 3, 29, 30, 31, 4, 5, 6, 7, 8, 9, 10, 11, 12, 13, 14, 15, 16, 17, 18, 19, 20, 21, 22, 23, 24, 25, 26, 27, 28] rfl rfl rfl 4 rfl rfl lX4_76 ⟨rfl, rfl, by decide, by decide⟩ rfl hl.1 (Nat.le_of_ble_eq_true rfl) rfl dX4_put_14 (fun H locs hG => ?_)
    refine lv_if_eq (tgt := 26) hx hb dX4_put_17 (by decide) (fun c17 => ?_) (fun c17 => ?_)
    · rw [if_pos c17] at h
      refine lv_aload_n hx hb dX4_put_26 rfl (lv_at hl 0 rfl) ?_
      refine x_get hc hG 0 rfl iX4 1 lX4_18 rfl dX4_put_27 ?_
      refine lv_iload_n hx hb dX4_put_30 rfl (lv_at hl 1 rfl) ?_
      refine lv_iload_n hx hb dX4_put_31 rfl (lv_at hl 2 rfl) ?_
      obtain ⟨v32, e32, h⟩ := bd1_some h
      refine x_vi (rest := []) (ws' := (wX4 cI ad finding asked upper lower r_items r_sizes t_items t_sizes d_items d_sizes st_size st_need st_lifted st_licked st_morning st_tally st_kinds st_places st_lengths st_downs st_covers sl_size sl_need sl_lifted sl_licked sl_morning sl_tally sl_kinds sl_places sl_lengths sl_downs sl_covers as_size as_need as_lifted as_licked as_morning as_tally as_kinds as_places as_lengths as_downs as_covers text place count least inAll inSome scratch findings)) hc hG (cc_X2_has (fun k => ad (4 + k)) 240 4 60 t_items t_sizes x1 x2 v32 e32) [4, 5, 6] [0, 1, 2, 3, 7, 8, 9, 10, 11, 12, 13, 14, 15, 16, 17, 18, 19, 20, 21, 22, 23, 24, 25, 26, 27, 28, 29, 30, 31] [0, 1, 2, 3, 29, 30, 31, 4, 5, 6, 7, 8, 9, 10, 11, 12, 13, 14, 15, 16, 17, 18, 19, 20, 21, 22, 23, 24, 25, 26, 27, 28] rfl rfl rfl 4 rfl rfl lX4_79 ⟨rfl, rfl, by decide, by decide⟩ rfl hl.1 (Nat.le_of_ble_eq_true rfl) rfl dX4_put_32 (fun H locs hG => ?_)
      refine lv_if_ne (tgt := 44) hx hb dX4_put_35 (by decide) (fun c35 => ?_) (fun c35 => ?_)
      · rw [if_neg c35] at h
        refine lv_aload_n hx hb dX4_put_44 rfl (lv_at hl 0 rfl) ?_
        refine x_get hc hG 0 rfl iX4 1 lX4_18 rfl dX4_put_45 ?_
        refine lv_iload_n hx hb dX4_put_48 rfl (lv_at hl 1 rfl) ?_
        refine lv_iload_n hx hb dX4_put_49 rfl (lv_at hl 2 rfl) ?_
        obtain ⟨v50, e50, h⟩ := bd1_some h
        refine x_vi (rest := []) (ws' := (wX4 cI ad finding asked upper lower r_items r_sizes t_items t_sizes d_items d_sizes st_size st_need st_lifted st_licked st_morning st_tally st_kinds st_places st_lengths st_downs st_covers sl_size sl_need sl_lifted sl_licked sl_morning sl_tally sl_kinds sl_places sl_lengths sl_downs sl_covers as_size as_need as_lifted as_licked as_morning as_tally as_kinds as_places as_lengths as_downs as_covers text place count least inAll inSome scratch findings)) hc hG (cc_X2_get (fun k => ad (4 + k)) 240 4 60 t_items t_sizes x1 x2 v50 e50) [4, 5, 6] [0, 1, 2, 3, 7, 8, 9, 10, 11, 12, 13, 14, 15, 16, 17, 18, 19, 20, 21, 22, 23, 24, 25, 26, 27, 28, 29, 30, 31] [0, 1, 2, 3, 29, 30, 31, 4, 5, 6, 7, 8, 9, 10, 11, 12, 13, 14, 15, 16, 17, 18, 19, 20, 21, 22, 23, 24, 25, 26, 27, 28] rfl rfl rfl 4 rfl rfl lX4_83 ⟨rfl, rfl, by decide, by decide⟩ rfl hl.1 (Nat.le_of_ble_eq_true rfl) rfl dX4_put_50 (fun H locs hG => ?_)
        refine lv_istore (lv' := [(4, .int v50), (0, .ref (ad 0)), (1, .int x1), (2, .int x2), (3, .int x3)]) hx hb dX4_put_53 hl (by decide) rfl (fun ls hl => ?_)
        refine lv_aload_n hx hb dX4_put_55 rfl (lv_at hl 1 rfl) ?_
        refine x_get hc hG 0 rfl iX4 1 lX4_18 rfl dX4_put_56 ?_
        refine lv_iload_n hx hb dX4_put_59 rfl (lv_at hl 2 rfl) ?_
        refine lv_iload_n hx hb dX4_put_60 rfl (lv_at hl 3 rfl) ?_
        refine lv_iload_n hx hb dX4_put_61 rfl (lv_at hl 4 rfl) ?_
        refine lv_i2b hx hb dX4_put_62 rfl ?_
        obtain ⟨t_items_63, e63, h⟩ := bd1_some h
        refine x_vv (rest := []) (ws' := (wX4 cI ad finding asked upper lower r_items r_sizes t_items_63 t_sizes d_items d_sizes st_size st_need st_lifted st_licked st_morning st_tally st_kinds st_places st_lengths st_downs st_covers sl_size sl_need sl_lifted sl_licked sl_morning sl_tally sl_kinds sl_places sl_lengths sl_downs sl_covers as_size as_need as_lifted as_licked as_morning as_tally as_kinds as_places as_lengths as_downs as_covers text place count least inAll inSome scratch findings)) hc hG (cc_X2_set (fun k => ad (4 + k)) 240 4 60 t_items t_sizes x1 x2 (Int8.toInt32 (Int32.toInt8 x3)) t_items_63 e63) [4, 5, 6] [0, 1, 2, 3, 7, 8, 9, 10, 11, 12, 13, 14, 15, 16, 17, 18, 19, 20, 21, 22, 23, 24, 25, 26, 27, 28, 29, 30, 31] [0, 1, 2, 3, 29, 30, 31, 4, 5, 6, 7, 8, 9, 10, 11, 12, 13, 14, 15, 16, 17, 18, 19, 20, 21, 22, 23, 24, 25, 26, 27, 28] rfl rfl rfl 4 rfl rfl lX4_87 ⟨rfl, rfl, by decide, by decide⟩ rfl hl.1 (Nat.le_of_ble_eq_true rfl) rfl dX4_put_63 (fun H locs hG => ?_)
        refine lv_iload hx hb dX4_put_66 (lv_at hl 0 rfl) ?_
        refine lv_sipush (v := 1000) hx hb dX4_put_68 (by decide) ?_
        refine lv_iadd hx hb dX4_put_71 ?_
        cases h
        exact hret _ _ _ _ hG dX4_put_72 rfl
      · rw [if_pos c35] at h
        refine lv_aload_n hx hb dX4_put_38 rfl (lv_at hl 0 rfl) ?_
        refine lv_iconst (v := 2) hx hb dX4_put_39 (by decide) ?_
        obtain ⟨v40, finding_40, findings_40, e40, h⟩ := bd3_some h
        refine x_vi (rest := []) (ws' := (wX4 cI ad finding_40 asked upper lower r_items r_sizes t_items t_sizes d_items d_sizes st_size st_need st_lifted st_licked st_morning st_tally st_kinds st_places st_lengths st_downs st_covers sl_size sl_need sl_lifted sl_licked sl_morning sl_tally sl_kinds sl_places sl_lengths sl_downs sl_covers as_size as_need as_lifted as_licked as_morning as_tally as_kinds as_places as_lengths as_downs as_covers text place count least inAll inSome scratch findings_40)) hc hG (cc_X4_find ad finding asked upper lower r_items r_sizes t_items t_sizes d_items d_sizes st_size st_need st_lifted st_licked st_morning st_tally st_kinds st_places st_lengths st_downs st_covers sl_size sl_need sl_lifted sl_licked sl_morning sl_tally sl_kinds sl_places sl_lengths sl_downs sl_covers as_size as_need as_lifted as_licked as_morning as_tally as_kinds as_places as_lengths as_downs as_covers text place count least inAll inSome scratch findings 2 v40 finding_40 findings_40 e40) [0, 1, 2, 3, 4, 5, 6, 7, 8, 9, 10, 11, 12, 13, 14, 15, 16, 17, 18, 19, 20, 21, 22, 23, 24, 25, 26, 27, 28, 29, 30, 31] [] [0, 1, 2, 3, 4, 5, 6, 7, 8, 9, 10, 11, 12, 13, 14, 15, 16, 17, 18, 19, 20, 21, 22, 23, 24, 25, 26, 27, 28, 29, 30, 31] rfl rfl rfl 0 rfl rfl lX4_72 ⟨rfl, rfl, by decide, by decide⟩ rfl hl.1 (Nat.le_of_ble_eq_true rfl) rfl dX4_put_40 (fun H locs hG => ?_)
        cases h
        exact hret _ _ _ _ hG dX4_put_43 rfl
    · rw [if_neg c17] at h
      refine lv_aload_n hx hb dX4_put_20 rfl (lv_at hl 0 rfl) ?_
      refine lv_iconst (v := 1) hx hb dX4_put_21 (by decide) ?_
      obtain ⟨v22, finding_22, findings_22, e22, h⟩ := bd3_some h
      refine x_vi (rest := []) (ws' := (wX4 cI ad finding_22 asked upper lower r_items r_sizes t_items t_sizes d_items d_sizes st_size st_need st_lifted st_licked st_morning st_tally st_kinds st_places st_lengths st_downs st_covers sl_size sl_need sl_lifted sl_licked sl_morning sl_tally sl_kinds sl_places sl_lengths sl_downs sl_covers as_size as_need as_lifted as_licked as_morning as_tally as_kinds as_places as_lengths as_downs as_covers text place count least inAll inSome scratch findings_22)) hc hG (cc_X4_find ad finding asked upper lower r_items r_sizes t_items t_sizes d_items d_sizes st_size st_need st_lifted st_licked st_morning st_tally st_kinds st_places st_lengths st_downs st_covers sl_size sl_need sl_lifted sl_licked sl_morning sl_tally sl_kinds sl_places sl_lengths sl_downs sl_covers as_size as_need as_lifted as_licked as_morning as_tally as_kinds as_places as_lengths as_downs as_covers text place count least inAll inSome scratch findings 1 v22 finding_22 findings_22 e22) [0, 1, 2, 3, 4, 5, 6, 7, 8, 9, 10, 11, 12, 13, 14, 15, 16, 17, 18, 19, 20, 21, 22, 23, 24, 25, 26, 27, 28, 29, 30, 31] [] [0, 1, 2, 3, 4, 5, 6, 7, 8, 9, 10, 11, 12, 13, 14, 15, 16, 17, 18, 19, 20, 21, 22, 23, 24, 25, 26, 27, 28, 29, 30, 31] rfl rfl rfl 0 rfl rfl lX4_72 ⟨rfl, rfl, by decide, by decide⟩ rfl hl.1 (Nat.le_of_ble_eq_true rfl) rfl dX4_put_22 (fun H locs hG => ?_)
      cases h
      exact hret _ _ _ _ hG dX4_put_25 rfl
  · rw [if_pos c4] at h
    refine lv_iconst (v := (-1)) hx hb dX4_put_7 (by decide) ?_
    cases h
    exact hret _ _ _ _ hG dX4_put_8 rfl
set_option maxRecDepth 100000 in
set_option maxHeartbeats 4000000 in
theorem cc_X4_fault {l : Launch} {D : va_G} {cI : ClassId} {tL : Nat} (ad : Nat → Nat) (finding : Int32) (asked : Int32) (upper : Int64) (lower : Int64) (r_items : Nat → Int32) (r_sizes : Nat → Int32) (t_items : Nat → Int32) (t_sizes : Nat → Int32) (d_items : Nat → Int32) (d_sizes : Nat → Int32) (st_size : Int32) (st_need : Int32) (st_lifted : Int32) (st_licked : Int32) (st_morning : Int32) (st_tally : Int32) (st_kinds : Nat → Int32) (st_places : Nat → Int32) (st_lengths : Nat → Int32) (st_downs : Nat → Int32) (st_covers : Nat → Int32) (sl_size : Int32) (sl_need : Int32) (sl_lifted : Int32) (sl_licked : Int32) (sl_morning : Int32) (sl_tally : Int32) (sl_kinds : Nat → Int32) (sl_places : Nat → Int32) (sl_lengths : Nat → Int32) (sl_downs : Nat → Int32) (sl_covers : Nat → Int32) (as_size : Int32) (as_need : Int32) (as_lifted : Int32) (as_licked : Int32) (as_morning : Int32) (as_tally : Int32) (as_kinds : Nat → Int32) (as_places : Nat → Int32) (as_lengths : Nat → Int32) (as_downs : Nat → Int32) (as_covers : Nat → Int32) (text : Int32) (place : Int32) (count : Int32) (least : Int32) (inAll : Int32) (inSome : Int32) (scratch : Nat → Int32) (findings : Nat → Int32) (x1 : Int32) (r' : Int32) (finding' : Int32) (as_size' : Int32) (as_need' : Int32) (as_lifted' : Int32) (as_licked' : Int32) (as_morning' : Int32) (as_tally' : Int32) (as_kinds' : Nat → Int32) (as_places' : Nat → Int32) (as_lengths' : Nat → Int32) (as_downs' : Nat → Int32) (as_covers' : Nat → Int32) (text' : Int32) (place' : Int32) (findings' : Nat → Int32) (h : fX4_fault finding t_items t_sizes as_size as_need as_lifted as_licked as_morning as_tally as_kinds as_places as_lengths as_downs as_covers text place findings x1 = some (r', finding', as_size', as_need', as_lifted', as_licked', as_morning', as_tally', as_kinds', as_places', as_lengths', as_downs', as_covers', text', place', findings')) : Ci l D cI tL yX4_fault cX4_fault 2 .int rmX4_fault (wX4 cI ad finding asked upper lower r_items r_sizes t_items t_sizes d_items d_sizes st_size st_need st_lifted st_licked st_morning st_tally st_kinds st_places st_lengths st_downs st_covers sl_size sl_need sl_lifted sl_licked sl_morning sl_tally sl_kinds sl_places sl_lengths sl_downs sl_covers as_size as_need as_lifted as_licked as_morning as_tally as_kinds as_places as_lengths as_downs as_covers text place count least inAll inSome scratch findings) [.ref (ad 0), .int x1] r' (wX4 cI ad finding' asked upper lower r_items r_sizes t_items t_sizes d_items d_sizes st_size st_need st_lifted st_licked st_morning st_tally st_kinds st_places st_lengths st_downs st_covers sl_size sl_need sl_lifted sl_licked sl_morning sl_tally sl_kinds sl_places sl_lengths sl_downs sl_covers as_size' as_need' as_lifted' as_licked' as_morning' as_tally' as_kinds' as_places' as_lengths' as_downs' as_covers' text' place' count least inAll inSome scratch findings') := by
  refine Ci_of (own := RX4) (by decide) (Nat.le_of_ble_eq_true rfl) rfl ?_
  intro p e s m below meth c Q A AV hc hret ls hl hG
  obtain ⟨hx, hb, hml, hown, hts, hK, hA, hz⟩ := id hc
  have hl : lv_has ls 2 [(0, .ref (ad 0)), (1, .int x1)] := hl
  unfold fX4_fault at h
  refine lv_iload_n hx hb dX4_fault_0 rfl (lv_at hl 1 rfl) ?_
  obtain ⟨v1, e1, h⟩ := bd1_some h
  refine x_si0 (rest := []) hc hG (cc_X4_isText x1 v1 e1) lX4_108 ⟨rfl, rfl, by decide, by decide⟩ rfl hl.1 (Nat.le_of_ble_eq_true rfl) rfl dX4_fault_1 (fun H locs hG => ?_)
  refine lv_if_ne (tgt := 9) hx hb dX4_fault_4 (by decide) (fun c4 => ?_) (fun c4 => ?_)
  · rw [if_neg c4] at h
    refine lv_aload_n hx hb dX4_fault_9 rfl (lv_at hl 0 rfl) ?_
    refine x_get hc hG 0 rfl iX4 1 lX4_18 rfl dX4_fault_10 ?_
    refine lv_iload_n hx hb dX4_fault_13 rfl (lv_at hl 1 rfl) ?_
    obtain ⟨v14, e14, h⟩ := bd1_some h
    refine x_vi (rest := []) (ws' := (wX4 cI ad finding asked upper lower r_items r_sizes t_items t_sizes d_items d_sizes st_size st_need st_lifted st_licked st_morning st_tally st_kinds st_places st_lengths st_downs st_covers sl_size sl_need sl_lifted sl_licked sl_morning sl_tally sl_kinds sl_places sl_lengths sl_downs sl_covers as_size as_need as_lifted as_licked as_morning as_tally as_kinds as_places as_lengths as_downs as_covers text place count least inAll inSome scratch findings)) hc hG (cc_X2_isMissing (fun k => ad (4 + k)) 240 4 60 t_items t_sizes x1 v14 e14) [4, 5, 6] [0, 1, 2, 3, 7, 8, 9, 10, 11, 12, 13, 14, 15, 16, 17, 18, 19, 20, 21, 22, 23, 24, 25, 26, 27, 28, 29, 30, 31] [0, 1, 2, 3, 29, 30, 31, 4, 5, 6, 7, 8, 9, 10, 11, 12, 13, 14, 15, 16, 17, 18, 19, 20, 21, 22, 23, 24, 25, 26, 27, 28] rfl rfl rfl 4 rfl rfl lX4_76 ⟨rfl, rfl, by decide, by decide⟩ rfl hl.1 (Nat.le_of_ble_eq_true rfl) rfl dX4_fault_14 (fun H locs hG => ?_)
    refine lv_if_eq (tgt := 28) hx hb dX4_fault_17 (by decide) (fun c17 => ?_) (fun c17 => ?_)
    · rw [if_pos c17] at h
      refine lv_aload_n hx hb dX4_fault_28 rfl (lv_at hl 0 rfl) ?_
      refine x_get hc hG 0 rfl iX4 6 lX4_46 rfl dX4_fault_29 ?_
      refine lv_iload_n hx hb dX4_fault_32 rfl (lv_at hl 1 rfl) ?_
      obtain ⟨v33, text_33, place_33, as_size_33, as_need_33, as_lifted_33, as_licked_33, as_morning_33, as_tally_33, as_kinds_33, as_places_33, as_lengths_33, as_downs_33, as_covers_33, e33, h⟩ := bd14_some h
      refine x_vi (rest := []) (ws' := (wX4 cI ad finding asked upper lower r_items r_sizes t_items t_sizes d_items d_sizes st_size st_need st_lifted st_licked st_morning st_tally st_kinds st_places st_lengths st_downs st_covers sl_size sl_need sl_lifted sl_licked sl_morning sl_tally sl_kinds sl_places sl_lengths sl_downs sl_covers as_size_33 as_need_33 as_lifted_33 as_licked_33 as_morning_33 as_tally_33 as_kinds_33 as_places_33 as_lengths_33 as_downs_33 as_covers_33 text_33 place_33 count least inAll inSome scratch findings)) hc hG (cc_X0_read (fun k => match k with | 0 => ad 28 | 1 => ad 4 | 2 => ad 5 | 3 => ad 6 | 4 => ad 22 | 5 => ad 23 | 6 => ad 24 | 7 => ad 25 | 8 => ad 26 | _ => ad 27) 240 4 text place 60 t_items t_sizes as_size as_need as_lifted as_licked as_morning as_tally as_kinds as_places as_lengths as_downs as_covers x1 v33 text_33 place_33 as_size_33 as_need_33 as_lifted_33 as_licked_33 as_morning_33 as_tally_33 as_kinds_33 as_places_33 as_lengths_33 as_downs_33 as_covers_33 e33) [28, 4, 5, 6, 22, 23, 24, 25, 26, 27] [0, 1, 2, 3, 7, 8, 9, 10, 11, 12, 13, 14, 15, 16, 17, 18, 19, 20, 21, 29, 30, 31] [0, 1, 2, 3, 23, 24, 25, 4, 5, 6, 7, 8, 9, 10, 11, 12, 13, 14, 15, 16, 17, 18, 26, 27, 28, 29, 30, 31, 22, 19, 20, 21] rfl rfl rfl 28 rfl rfl lX4_111 ⟨rfl, rfl, by decide, by decide⟩ rfl hl.1 (Nat.le_of_ble_eq_true rfl) rfl dX4_fault_33 (fun H locs hG => ?_)
      cases h
      exact hret _ _ _ _ hG dX4_fault_36 rfl
    · rw [if_neg c17] at h
      refine lv_aload_n hx hb dX4_fault_20 rfl (lv_at hl 0 rfl) ?_
      refine lv_iconst (v := 1) hx hb dX4_fault_21 (by decide) ?_
      obtain ⟨v22, finding_22, findings_22, e22, h⟩ := bd3_some h
      refine x_vi (rest := []) (ws' := (wX4 cI ad finding_22 asked upper lower r_items r_sizes t_items t_sizes d_items d_sizes st_size st_need st_lifted st_licked st_morning st_tally st_kinds st_places st_lengths st_downs st_covers sl_size sl_need sl_lifted sl_licked sl_morning sl_tally sl_kinds sl_places sl_lengths sl_downs sl_covers as_size as_need as_lifted as_licked as_morning as_tally as_kinds as_places as_lengths as_downs as_covers text place count least inAll inSome scratch findings_22)) hc hG (cc_X4_find ad finding asked upper lower r_items r_sizes t_items t_sizes d_items d_sizes st_size st_need st_lifted st_licked st_morning st_tally st_kinds st_places st_lengths st_downs st_covers sl_size sl_need sl_lifted sl_licked sl_morning sl_tally sl_kinds sl_places sl_lengths sl_downs sl_covers as_size as_need as_lifted as_licked as_morning as_tally as_kinds as_places as_lengths as_downs as_covers text place count least inAll inSome scratch findings 1 v22 finding_22 findings_22 e22) [0, 1, 2, 3, 4, 5, 6, 7, 8, 9, 10, 11, 12, 13, 14, 15, 16, 17, 18, 19, 20, 21, 22, 23, 24, 25, 26, 27, 28, 29, 30, 31] [] [0, 1, 2, 3, 4, 5, 6, 7, 8, 9, 10, 11, 12, 13, 14, 15, 16, 17, 18, 19, 20, 21, 22, 23, 24, 25, 26, 27, 28, 29, 30, 31] rfl rfl rfl 0 rfl rfl lX4_72 ⟨rfl, rfl, by decide, by decide⟩ rfl hl.1 (Nat.le_of_ble_eq_true rfl) rfl dX4_fault_22 (fun H locs hG => ?_)
      refine lv_goto (tgt := 36) hx hb dX4_fault_25 (by decide) ?_
      cases h
      exact hret _ _ _ _ hG dX4_fault_36 rfl
  · rw [if_pos c4] at h
    refine lv_iconst (v := (-1)) hx hb dX4_fault_7 (by decide) ?_
    cases h
    exact hret _ _ _ _ hG dX4_fault_8 rfl
set_option maxRecDepth 100000 in
set_option maxHeartbeats 4000000 in
theorem cc_X4_slice {l : Launch} {D : va_G} {cI : ClassId} {tL : Nat} (ad : Nat → Nat) (finding : Int32) (asked : Int32) (upper : Int64) (lower : Int64) (r_items : Nat → Int32) (r_sizes : Nat → Int32) (t_items : Nat → Int32) (t_sizes : Nat → Int32) (d_items : Nat → Int32) (d_sizes : Nat → Int32) (st_size : Int32) (st_need : Int32) (st_lifted : Int32) (st_licked : Int32) (st_morning : Int32) (st_tally : Int32) (st_kinds : Nat → Int32) (st_places : Nat → Int32) (st_lengths : Nat → Int32) (st_downs : Nat → Int32) (st_covers : Nat → Int32) (sl_size : Int32) (sl_need : Int32) (sl_lifted : Int32) (sl_licked : Int32) (sl_morning : Int32) (sl_tally : Int32) (sl_kinds : Nat → Int32) (sl_places : Nat → Int32) (sl_lengths : Nat → Int32) (sl_downs : Nat → Int32) (sl_covers : Nat → Int32) (as_size : Int32) (as_need : Int32) (as_lifted : Int32) (as_licked : Int32) (as_morning : Int32) (as_tally : Int32) (as_kinds : Nat → Int32) (as_places : Nat → Int32) (as_lengths : Nat → Int32) (as_downs : Nat → Int32) (as_covers : Nat → Int32) (text : Int32) (place : Int32) (count : Int32) (least : Int32) (inAll : Int32) (inSome : Int32) (scratch : Nat → Int32) (findings : Nat → Int32) (x1 : Int32) (r' : Int32) (finding' : Int32) (d_items' : Nat → Int32) (d_sizes' : Nat → Int32) (st_size' : Int32) (st_need' : Int32) (st_lifted' : Int32) (st_licked' : Int32) (st_morning' : Int32) (st_tally' : Int32) (st_kinds' : Nat → Int32) (st_places' : Nat → Int32) (st_lengths' : Nat → Int32) (st_downs' : Nat → Int32) (st_covers' : Nat → Int32) (sl_size' : Int32) (sl_need' : Int32) (sl_lifted' : Int32) (sl_licked' : Int32) (sl_morning' : Int32) (sl_tally' : Int32) (sl_kinds' : Nat → Int32) (sl_places' : Nat → Int32) (sl_lengths' : Nat → Int32) (sl_downs' : Nat → Int32) (sl_covers' : Nat → Int32) (as_size' : Int32) (as_need' : Int32) (as_lifted' : Int32) (as_licked' : Int32) (as_morning' : Int32) (as_tally' : Int32) (as_kinds' : Nat → Int32) (as_places' : Nat → Int32) (as_lengths' : Nat → Int32) (as_downs' : Nat → Int32) (as_covers' : Nat → Int32) (text' : Int32) (place' : Int32) (findings' : Nat → Int32) (h : fX4_slice finding t_items t_sizes d_items d_sizes st_size st_need st_lifted st_licked st_morning st_tally st_kinds st_places st_lengths st_downs st_covers sl_size sl_need sl_lifted sl_licked sl_morning sl_tally sl_kinds sl_places sl_lengths sl_downs sl_covers as_size as_need as_lifted as_licked as_morning as_tally as_kinds as_places as_lengths as_downs as_covers text place findings x1 = some (r', finding', d_items', d_sizes', st_size', st_need', st_lifted', st_licked', st_morning', st_tally', st_kinds', st_places', st_lengths', st_downs', st_covers', sl_size', sl_need', sl_lifted', sl_licked', sl_morning', sl_tally', sl_kinds', sl_places', sl_lengths', sl_downs', sl_covers', as_size', as_need', as_lifted', as_licked', as_morning', as_tally', as_kinds', as_places', as_lengths', as_downs', as_covers', text', place', findings')) : Ci l D cI tL yX4_slice cX4_slice 3 .int rmX4_slice (wX4 cI ad finding asked upper lower r_items r_sizes t_items t_sizes d_items d_sizes st_size st_need st_lifted st_licked st_morning st_tally st_kinds st_places st_lengths st_downs st_covers sl_size sl_need sl_lifted sl_licked sl_morning sl_tally sl_kinds sl_places sl_lengths sl_downs sl_covers as_size as_need as_lifted as_licked as_morning as_tally as_kinds as_places as_lengths as_downs as_covers text place count least inAll inSome scratch findings) [.ref (ad 0), .int x1] r' (wX4 cI ad finding' asked upper lower r_items r_sizes t_items t_sizes d_items' d_sizes' st_size' st_need' st_lifted' st_licked' st_morning' st_tally' st_kinds' st_places' st_lengths' st_downs' st_covers' sl_size' sl_need' sl_lifted' sl_licked' sl_morning' sl_tally' sl_kinds' sl_places' sl_lengths' sl_downs' sl_covers' as_size' as_need' as_lifted' as_licked' as_morning' as_tally' as_kinds' as_places' as_lengths' as_downs' as_covers' text' place' count least inAll inSome scratch findings') := by
  refine Ci_of (own := RX4) (by decide) (Nat.le_of_ble_eq_true rfl) rfl ?_
  intro p e s m below meth c Q A AV hc hret ls hl hG
  obtain ⟨hx, hb, hml, hown, hts, hK, hA, hz⟩ := id hc
  have hl : lv_has ls 3 [(0, .ref (ad 0)), (1, .int x1)] := hl
  have hL_66 : ∀ (finding : Int32) (d_items : Nat → Int32) (st_size : Int32) (st_need : Int32) (st_lifted : Int32) (st_licked : Int32) (st_morning : Int32) (st_tally : Int32) (st_kinds : Nat → Int32) (st_places : Nat → Int32) (st_lengths : Nat → Int32) (st_downs : Nat → Int32) (st_covers : Nat → Int32) (sl_size : Int32) (sl_need : Int32) (sl_lifted : Int32) (sl_licked : Int32) (sl_morning : Int32) (sl_tally : Int32) (sl_kinds : Nat → Int32) (sl_places : Nat → Int32) (sl_lengths : Nat → Int32) (sl_downs : Nat → Int32) (sl_covers : Nat → Int32) (as_size : Int32) (as_need : Int32) (as_lifted : Int32) (as_licked : Int32) (as_morning : Int32) (as_tally : Int32) (as_kinds : Nat → Int32) (as_places : Nat → Int32) (as_lengths : Nat → Int32) (as_downs : Nat → Int32) (as_covers : Nat → Int32) (text : Int32) (place : Int32) (findings : Nat → Int32) (d_sizes_o : Nat → Int32), (∀ (ls : Array Slot) (H : Heap) (locs : List Loc), lv_has ls 3 [(0, .ref (ad 0))] → St D A s (wX4 cI ad finding asked upper lower r_items r_sizes t_items t_sizes d_items d_sizes_o st_size st_need st_lifted st_licked st_morning st_tally st_kinds st_places st_lengths st_downs st_covers sl_size sl_need sl_lifted sl_licked sl_morning sl_tally sl_kinds sl_places sl_lengths sl_downs sl_covers as_size as_need as_lifted as_licked as_morning as_tally as_kinds as_places as_lengths as_downs as_covers text place count least inAll inSome scratch findings) H locs → W p l e rmX4_slice s m AV below meth c H locs 0 0 Q (F0 m 85 ls [])) → ∀ (n : Nat) (d_sizes : Nat → Int32) (x2 : Int32), fX4_slice_L66 n d_sizes x2 = some d_sizes_o → ∀ (ls : Array Slot) (H : Heap) (locs : List Loc), lv_has ls 3 [(0, .ref (ad 0)), (2, .int x2)] → St D A s (wX4 cI ad finding asked upper lower r_items r_sizes t_items t_sizes d_items d_sizes st_size st_need st_lifted st_licked st_morning st_tally st_kinds st_places st_lengths st_downs st_covers sl_size sl_need sl_lifted sl_licked sl_morning sl_tally sl_kinds sl_places sl_lengths sl_downs sl_covers as_size as_need as_lifted as_licked as_morning as_tally as_kinds as_places as_lengths as_downs as_covers text place count least inAll inSome scratch findings) H locs → W p l e rmX4_slice s m AV below meth c H locs 0 0 Q (F0 m 66 ls []) := by
    intro finding d_items st_size st_need st_lifted st_licked st_morning st_tally st_kinds st_places st_lengths st_downs st_covers sl_size sl_need sl_lifted sl_licked sl_morning sl_tally sl_kinds sl_places sl_lengths sl_downs sl_covers as_size as_need as_lifted as_licked as_morning as_tally as_kinds as_places as_lengths as_downs as_covers text place findings d_sizes_o KE n
    induction n with
    | zero =>
      intro d_sizes x2 h
      exact nomatch (show none = some _ from h)
    | succ n ih =>
      intro d_sizes x2 h ls H locs hl hG
      have h : fX4_slice_B66 (fX4_slice_L66 n) d_sizes x2 = some d_sizes_o := h
      unfold fX4_slice_B66 at h
      refine lv_iload_n hx hb dX4_slice_66 rfl (lv_at hl 1 rfl) ?_
      refine lv_iconst (v := 3) hx hb dX4_slice_67 (by decide) ?_
      refine lv_icmp_ge (tgt := 85) hx hb dX4_slice_68 (by decide) (fun c68 => ?_) (fun c68 => ?_)
      · rw [if_pos c68] at h
        cases h
        exact KE _ _ _ (lv_sub hl [0] rfl) hG
      · rw [if_neg c68] at h
        refine lv_aload_n hx hb dX4_slice_71 rfl (lv_at hl 0 rfl) ?_
        refine x_get hc hG 0 rfl iX4 2 lX4_21 rfl dX4_slice_72 ?_
        refine lv_iload_n hx hb dX4_slice_75 rfl (lv_at hl 1 rfl) ?_
        obtain ⟨d_sizes_76, e76, h⟩ := bd1_some h
        refine x_vv (rest := []) (ws' := (wX4 cI ad finding asked upper lower r_items r_sizes t_items t_sizes d_items d_sizes_76 st_size st_need st_lifted st_licked st_morning st_tally st_kinds st_places st_lengths st_downs st_covers sl_size sl_need sl_lifted sl_licked sl_morning sl_tally sl_kinds sl_places sl_lengths sl_downs sl_covers as_size as_need as_lifted as_licked as_morning as_tally as_kinds as_places as_lengths as_downs as_covers text place count least inAll inSome scratch findings)) hc hG (cc_X2_remove (fun k => ad (7 + k)) 160 4 40 d_items d_sizes x2 d_sizes_76 e76) [7, 8, 9] [0, 1, 2, 3, 4, 5, 6, 10, 11, 12, 13, 14, 15, 16, 17, 18, 19, 20, 21, 22, 23, 24, 25, 26, 27, 28, 29, 30, 31] [0, 1, 2, 3, 4, 5, 6, 29, 30, 31, 7, 8, 9, 10, 11, 12, 13, 14, 15, 16, 17, 18, 19, 20, 21, 22, 23, 24, 25, 26, 27, 28] rfl rfl rfl 7 rfl rfl lX4_93 ⟨rfl, rfl, by decide, by decide⟩ rfl hl.1 (Nat.le_of_ble_eq_true rfl) rfl dX4_slice_76 (fun H locs hG => ?_)
        refine lv_iinc (v := (x2 + 1)) (lv' := [(2, .int (x2 + 1)), (0, .ref (ad 0))]) hx hb dX4_slice_79 hl (k := 1) rfl rfl (by decide) rfl (fun ls hl => ?_)
        refine lv_goto (tgt := 66) hx hb dX4_slice_82 (by decide) ?_
        exact ih _ _ h _ _ _ (lv_sub hl [1, 0] rfl) hG
  unfold fX4_slice at h
  refine lv_iload_n hx hb dX4_slice_0 rfl (lv_at hl 1 rfl) ?_
  obtain ⟨v1, e1, h⟩ := bd1_some h
  refine x_si0 (rest := []) hc hG (cc_X4_isText x1 v1 e1) lX4_108 ⟨rfl, rfl, by decide, by decide⟩ rfl hl.1 (Nat.le_of_ble_eq_true rfl) rfl dX4_slice_1 (fun H locs hG => ?_)
  refine lv_if_ne (tgt := 9) hx hb dX4_slice_4 (by decide) (fun c4 => ?_) (fun c4 => ?_)
  · rw [if_neg c4] at h
    refine lv_aload_n hx hb dX4_slice_9 rfl (lv_at hl 0 rfl) ?_
    refine x_get hc hG 0 rfl iX4 1 lX4_18 rfl dX4_slice_10 ?_
    refine lv_iload_n hx hb dX4_slice_13 rfl (lv_at hl 1 rfl) ?_
    obtain ⟨v14, e14, h⟩ := bd1_some h
    refine x_vi (rest := []) (ws' := (wX4 cI ad finding asked upper lower r_items r_sizes t_items t_sizes d_items d_sizes st_size st_need st_lifted st_licked st_morning st_tally st_kinds st_places st_lengths st_downs st_covers sl_size sl_need sl_lifted sl_licked sl_morning sl_tally sl_kinds sl_places sl_lengths sl_downs sl_covers as_size as_need as_lifted as_licked as_morning as_tally as_kinds as_places as_lengths as_downs as_covers text place count least inAll inSome scratch findings)) hc hG (cc_X2_isMissing (fun k => ad (4 + k)) 240 4 60 t_items t_sizes x1 v14 e14) [4, 5, 6] [0, 1, 2, 3, 7, 8, 9, 10, 11, 12, 13, 14, 15, 16, 17, 18, 19, 20, 21, 22, 23, 24, 25, 26, 27, 28, 29, 30, 31] [0, 1, 2, 3, 29, 30, 31, 4, 5, 6, 7, 8, 9, 10, 11, 12, 13, 14, 15, 16, 17, 18, 19, 20, 21, 22, 23, 24, 25, 26, 27, 28] rfl rfl rfl 4 rfl rfl lX4_76 ⟨rfl, rfl, by decide, by decide⟩ rfl hl.1 (Nat.le_of_ble_eq_true rfl) rfl dX4_slice_14 (fun H locs hG => ?_)
    refine lv_if_eq (tgt := 26) hx hb dX4_slice_17 (by decide) (fun c17 => ?_) (fun c17 => ?_)
    · rw [if_pos c17] at h
      refine lv_aload_n hx hb dX4_slice_26 rfl (lv_at hl 0 rfl) ?_
      refine x_get hc hG 0 rfl iX4 6 lX4_46 rfl dX4_slice_27 ?_
      refine lv_iload_n hx hb dX4_slice_30 rfl (lv_at hl 1 rfl) ?_
      obtain ⟨v31, text_31, place_31, as_size_31, as_need_31, as_lifted_31, as_licked_31, as_morning_31, as_tally_31, as_kinds_31, as_places_31, as_lengths_31, as_downs_31, as_covers_31, e31, h⟩ := bd14_some h
      refine x_vi (rest := []) (ws' := (wX4 cI ad finding asked upper lower r_items r_sizes t_items t_sizes d_items d_sizes st_size st_need st_lifted st_licked st_morning st_tally st_kinds st_places st_lengths st_downs st_covers sl_size sl_need sl_lifted sl_licked sl_morning sl_tally sl_kinds sl_places sl_lengths sl_downs sl_covers as_size_31 as_need_31 as_lifted_31 as_licked_31 as_morning_31 as_tally_31 as_kinds_31 as_places_31 as_lengths_31 as_downs_31 as_covers_31 text_31 place_31 count least inAll inSome scratch findings)) hc hG (cc_X0_read (fun k => match k with | 0 => ad 28 | 1 => ad 4 | 2 => ad 5 | 3 => ad 6 | 4 => ad 22 | 5 => ad 23 | 6 => ad 24 | 7 => ad 25 | 8 => ad 26 | _ => ad 27) 240 4 text place 60 t_items t_sizes as_size as_need as_lifted as_licked as_morning as_tally as_kinds as_places as_lengths as_downs as_covers x1 v31 text_31 place_31 as_size_31 as_need_31 as_lifted_31 as_licked_31 as_morning_31 as_tally_31 as_kinds_31 as_places_31 as_lengths_31 as_downs_31 as_covers_31 e31) [28, 4, 5, 6, 22, 23, 24, 25, 26, 27] [0, 1, 2, 3, 7, 8, 9, 10, 11, 12, 13, 14, 15, 16, 17, 18, 19, 20, 21, 29, 30, 31] [0, 1, 2, 3, 23, 24, 25, 4, 5, 6, 7, 8, 9, 10, 11, 12, 13, 14, 15, 16, 17, 18, 26, 27, 28, 29, 30, 31, 22, 19, 20, 21] rfl rfl rfl 28 rfl rfl lX4_111 ⟨rfl, rfl, by decide, by decide⟩ rfl hl.1 (Nat.le_of_ble_eq_true rfl) rfl dX4_slice_31 (fun H locs hG => ?_)
      refine lv_bipush (v := (-9)) hx hb dX4_slice_34 (by decide) ?_
      refine lv_icmp_eq (tgt := 42) hx hb dX4_slice_36 (by decide) (fun c36 => ?_) (fun c36 => ?_)
      · rw [if_pos c36] at h
        refine lv_aload_n hx hb dX4_slice_42 rfl (lv_at hl 0 rfl) ?_
        refine x_get hc hG 0 rfl iX4 3 lX4_31 rfl dX4_slice_43 ?_
        refine lv_aload_n hx hb dX4_slice_46 rfl (lv_at hl 0 rfl) ?_
        refine x_get hc hG 0 rfl iX4 5 lX4_38 rfl dX4_slice_47 ?_
        obtain ⟨st_size_50, st_need_50, st_lifted_50, st_licked_50, st_morning_50, st_tally_50, st_kinds_50, st_places_50, st_lengths_50, st_downs_50, st_covers_50, e50, h⟩ := bd11_some h
        refine x_vv (rest := []) (ws' := (wX4 cI ad finding asked upper lower r_items r_sizes t_items t_sizes d_items d_sizes st_size_50 st_need_50 st_lifted_50 st_licked_50 st_morning_50 st_tally_50 st_kinds_50 st_places_50 st_lengths_50 st_downs_50 st_covers_50 sl_size sl_need sl_lifted sl_licked sl_morning sl_tally sl_kinds sl_places sl_lengths sl_downs sl_covers as_size_31 as_need_31 as_lifted_31 as_licked_31 as_morning_31 as_tally_31 as_kinds_31 as_places_31 as_lengths_31 as_downs_31 as_covers_31 text_31 place_31 count least inAll inSome scratch findings)) hc hG (cc_X3_take (fun k => match k with | 0 => ad 10 | 1 => ad 11 | 2 => ad 12 | 3 => ad 13 | 4 => ad 14 | 5 => ad 15 | 6 => ad 22 | 7 => ad 23 | 8 => ad 24 | 9 => ad 25 | 10 => ad 26 | _ => ad 27) st_size st_need st_lifted st_licked st_morning st_tally st_kinds st_places st_lengths st_downs st_covers as_size_31 as_need_31 as_lifted_31 as_licked_31 as_morning_31 as_tally_31 as_kinds_31 as_places_31 as_lengths_31 as_downs_31 as_covers_31 st_size_50 st_need_50 st_lifted_50 st_licked_50 st_morning_50 st_tally_50 st_kinds_50 st_places_50 st_lengths_50 st_downs_50 st_covers_50 e50) [10, 11, 12, 13, 14, 15, 22, 23, 24, 25, 26, 27] [0, 1, 2, 3, 4, 5, 6, 7, 8, 9, 16, 17, 18, 19, 20, 21, 28, 29, 30, 31] [0, 1, 2, 3, 4, 5, 6, 7, 8, 9, 20, 21, 22, 23, 24, 25, 10, 11, 12, 13, 14, 15, 26, 27, 28, 29, 30, 31, 16, 17, 18, 19] rfl rfl rfl 10 rfl rfl lX4_114 ⟨rfl, rfl, by decide, by decide⟩ rfl hl.1 (Nat.le_of_ble_eq_true rfl) rfl dX4_slice_50 (fun H locs hG => ?_)
        refine lv_aload_n hx hb dX4_slice_53 rfl (lv_at hl 0 rfl) ?_
        refine x_get hc hG 0 rfl iX4 4 lX4_35 rfl dX4_slice_54 ?_
        refine lv_aload_n hx hb dX4_slice_57 rfl (lv_at hl 0 rfl) ?_
        refine x_get hc hG 0 rfl iX4 3 lX4_31 rfl dX4_slice_58 ?_
        obtain ⟨sl_size_61, sl_need_61, sl_lifted_61, sl_licked_61, sl_morning_61, sl_tally_61, sl_kinds_61, sl_places_61, sl_lengths_61, sl_downs_61, sl_covers_61, e61, h⟩ := bd11_some h
        refine x_vv (rest := []) (ws' := (wX4 cI ad finding asked upper lower r_items r_sizes t_items t_sizes d_items d_sizes st_size_50 st_need_50 st_lifted_50 st_licked_50 st_morning_50 st_tally_50 st_kinds_50 st_places_50 st_lengths_50 st_downs_50 st_covers_50 sl_size_61 sl_need_61 sl_lifted_61 sl_licked_61 sl_morning_61 sl_tally_61 sl_kinds_61 sl_places_61 sl_lengths_61 sl_downs_61 sl_covers_61 as_size_31 as_need_31 as_lifted_31 as_licked_31 as_morning_31 as_tally_31 as_kinds_31 as_places_31 as_lengths_31 as_downs_31 as_covers_31 text_31 place_31 count least inAll inSome scratch findings)) hc hG (cc_X3_take (fun k => match k with | 0 => ad 16 | 1 => ad 17 | 2 => ad 18 | 3 => ad 19 | 4 => ad 20 | 5 => ad 21 | 6 => ad 10 | 7 => ad 11 | 8 => ad 12 | 9 => ad 13 | 10 => ad 14 | _ => ad 15) sl_size sl_need sl_lifted sl_licked sl_morning sl_tally sl_kinds sl_places sl_lengths sl_downs sl_covers st_size_50 st_need_50 st_lifted_50 st_licked_50 st_morning_50 st_tally_50 st_kinds_50 st_places_50 st_lengths_50 st_downs_50 st_covers_50 sl_size_61 sl_need_61 sl_lifted_61 sl_licked_61 sl_morning_61 sl_tally_61 sl_kinds_61 sl_places_61 sl_lengths_61 sl_downs_61 sl_covers_61 e61) [16, 17, 18, 19, 20, 21, 10, 11, 12, 13, 14, 15] [0, 1, 2, 3, 4, 5, 6, 7, 8, 9, 22, 23, 24, 25, 26, 27, 28, 29, 30, 31] [0, 1, 2, 3, 4, 5, 6, 7, 8, 9, 26, 27, 28, 29, 30, 31, 20, 21, 22, 23, 24, 25, 10, 11, 12, 13, 14, 15, 16, 17, 18, 19] rfl rfl rfl 16 rfl rfl lX4_114 ⟨rfl, rfl, by decide, by decide⟩ rfl hl.1 (Nat.le_of_ble_eq_true rfl) rfl dX4_slice_61 (fun H locs hG => ?_)
        refine lv_iconst (v := 0) hx hb dX4_slice_64 (by decide) ?_
        refine lv_istore_n (lv' := [(2, .int 0), (0, .ref (ad 0)), (1, .int x1)]) hx hb dX4_slice_65 rfl hl (by decide) rfl (fun ls hl => ?_)
        obtain ⟨d_sizes_L66, e66, h⟩ := bd1_some h
        refine hL_66 _ _ _ _ _ _ _ _ _ _ _ _ _ _ _ _ _ _ _ _ _ _ _ _ _ _ _ _ _ _ _ _ _ _ _ _ _ _ _ (fun ls H locs hl hG => ?_) _ _ _ e66 _ _ _ (lv_sub hl [1, 0] rfl) hG
        refine lv_aload_n hx hb dX4_slice_85 rfl (lv_at hl 0 rfl) ?_
        refine x_get hc hG 0 rfl iX4 2 lX4_21 rfl dX4_slice_86 ?_
        refine lv_iconst (v := 3) hx hb dX4_slice_89 (by decide) ?_
        refine lv_iconst (v := 0) hx hb dX4_slice_90 (by decide) ?_
        refine lv_iconst (v := 0) hx hb dX4_slice_91 (by decide) ?_
        obtain ⟨d_items_92, d_sizes_92, e92, h⟩ := bd2_some h
        refine x_vv (rest := []) (ws' := (wX4 cI ad finding asked upper lower r_items r_sizes t_items t_sizes d_items_92 d_sizes_92 st_size_50 st_need_50 st_lifted_50 st_licked_50 st_morning_50 st_tally_50 st_kinds_50 st_places_50 st_lengths_50 st_downs_50 st_covers_50 sl_size_61 sl_need_61 sl_lifted_61 sl_licked_61 sl_morning_61 sl_tally_61 sl_kinds_61 sl_places_61 sl_lengths_61 sl_downs_61 sl_covers_61 as_size_31 as_need_31 as_lifted_31 as_licked_31 as_morning_31 as_tally_31 as_kinds_31 as_places_31 as_lengths_31 as_downs_31 as_covers_31 text_31 place_31 count least inAll inSome scratch findings)) hc hG (cc_X2_make (fun k => ad (7 + k)) 160 4 40 d_items d_sizes_L66 3 0 0 d_items_92 d_sizes_92 e92) [7, 8, 9] [0, 1, 2, 3, 4, 5, 6, 10, 11, 12, 13, 14, 15, 16, 17, 18, 19, 20, 21, 22, 23, 24, 25, 26, 27, 28, 29, 30, 31] [0, 1, 2, 3, 4, 5, 6, 29, 30, 31, 7, 8, 9, 10, 11, 12, 13, 14, 15, 16, 17, 18, 19, 20, 21, 22, 23, 24, 25, 26, 27, 28] rfl rfl rfl 7 rfl rfl lX4_24 ⟨rfl, rfl, by decide, by decide⟩ rfl hl.1 (Nat.le_of_ble_eq_true rfl) rfl dX4_slice_92 (fun H locs hG => ?_)
        refine lv_aload_n hx hb dX4_slice_95 rfl (lv_at hl 0 rfl) ?_
        refine x_get hc hG 0 rfl iX4 4 lX4_35 rfl dX4_slice_96 ?_
        refine x_getN hc hG 16 rfl iX3 5 lX4_118 rfl dX4_slice_99 ?_
        cases h
        exact hret _ _ _ _ hG dX4_slice_102 rfl
      · rw [if_neg c36] at h
        refine lv_bipush (v := (-4)) hx hb dX4_slice_39 (by decide) ?_
        cases h
        exact hret _ _ _ _ hG dX4_slice_41 rfl
    · rw [if_neg c17] at h
      refine lv_aload_n hx hb dX4_slice_20 rfl (lv_at hl 0 rfl) ?_
      refine lv_iconst (v := 1) hx hb dX4_slice_21 (by decide) ?_
      obtain ⟨v22, finding_22, findings_22, e22, h⟩ := bd3_some h
      refine x_vi (rest := []) (ws' := (wX4 cI ad finding_22 asked upper lower r_items r_sizes t_items t_sizes d_items d_sizes st_size st_need st_lifted st_licked st_morning st_tally st_kinds st_places st_lengths st_downs st_covers sl_size sl_need sl_lifted sl_licked sl_morning sl_tally sl_kinds sl_places sl_lengths sl_downs sl_covers as_size as_need as_lifted as_licked as_morning as_tally as_kinds as_places as_lengths as_downs as_covers text place count least inAll inSome scratch findings_22)) hc hG (cc_X4_find ad finding asked upper lower r_items r_sizes t_items t_sizes d_items d_sizes st_size st_need st_lifted st_licked st_morning st_tally st_kinds st_places st_lengths st_downs st_covers sl_size sl_need sl_lifted sl_licked sl_morning sl_tally sl_kinds sl_places sl_lengths sl_downs sl_covers as_size as_need as_lifted as_licked as_morning as_tally as_kinds as_places as_lengths as_downs as_covers text place count least inAll inSome scratch findings 1 v22 finding_22 findings_22 e22) [0, 1, 2, 3, 4, 5, 6, 7, 8, 9, 10, 11, 12, 13, 14, 15, 16, 17, 18, 19, 20, 21, 22, 23, 24, 25, 26, 27, 28, 29, 30, 31] [] [0, 1, 2, 3, 4, 5, 6, 7, 8, 9, 10, 11, 12, 13, 14, 15, 16, 17, 18, 19, 20, 21, 22, 23, 24, 25, 26, 27, 28, 29, 30, 31] rfl rfl rfl 0 rfl rfl lX4_72 ⟨rfl, rfl, by decide, by decide⟩ rfl hl.1 (Nat.le_of_ble_eq_true rfl) rfl dX4_slice_22 (fun H locs hG => ?_)
      cases h
      exact hret _ _ _ _ hG dX4_slice_25 rfl
  · rw [if_pos c4] at h
    refine lv_iconst (v := (-1)) hx hb dX4_slice_7 (by decide) ?_
    cases h
    exact hret _ _ _ _ hG dX4_slice_8 rfl
set_option maxRecDepth 100000 in
set_option maxHeartbeats 4000000 in
theorem cc_X4_peel {l : Launch} {D : va_G} {cI : ClassId} {tL : Nat} (ad : Nat → Nat) (finding : Int32) (asked : Int32) (upper : Int64) (lower : Int64) (r_items : Nat → Int32) (r_sizes : Nat → Int32) (t_items : Nat → Int32) (t_sizes : Nat → Int32) (d_items : Nat → Int32) (d_sizes : Nat → Int32) (st_size : Int32) (st_need : Int32) (st_lifted : Int32) (st_licked : Int32) (st_morning : Int32) (st_tally : Int32) (st_kinds : Nat → Int32) (st_places : Nat → Int32) (st_lengths : Nat → Int32) (st_downs : Nat → Int32) (st_covers : Nat → Int32) (sl_size : Int32) (sl_need : Int32) (sl_lifted : Int32) (sl_licked : Int32) (sl_morning : Int32) (sl_tally : Int32) (sl_kinds : Nat → Int32) (sl_places : Nat → Int32) (sl_lengths : Nat → Int32) (sl_downs : Nat → Int32) (sl_covers : Nat → Int32) (as_size : Int32) (as_need : Int32) (as_lifted : Int32) (as_licked : Int32) (as_morning : Int32) (as_tally : Int32) (as_kinds : Nat → Int32) (as_places : Nat → Int32) (as_lengths : Nat → Int32) (as_downs : Nat → Int32) (as_covers : Nat → Int32) (text : Int32) (place : Int32) (count : Int32) (least : Int32) (inAll : Int32) (inSome : Int32) (scratch : Nat → Int32) (findings : Nat → Int32) (x1 : Int32) (x2 : Int32) (r' : Int32) (asked' : Int32) (h : fX4_peel asked sl_size sl_lifted sl_kinds sl_places sl_lengths sl_downs sl_covers x1 x2 = some (r', asked')) : Ci l D cI tL yX4_peel cX4_peel 3 .int rmX4_peel (wX4 cI ad finding asked upper lower r_items r_sizes t_items t_sizes d_items d_sizes st_size st_need st_lifted st_licked st_morning st_tally st_kinds st_places st_lengths st_downs st_covers sl_size sl_need sl_lifted sl_licked sl_morning sl_tally sl_kinds sl_places sl_lengths sl_downs sl_covers as_size as_need as_lifted as_licked as_morning as_tally as_kinds as_places as_lengths as_downs as_covers text place count least inAll inSome scratch findings) [.ref (ad 0), .int x1, .int x2] r' (wX4 cI ad finding asked' upper lower r_items r_sizes t_items t_sizes d_items d_sizes st_size st_need st_lifted st_licked st_morning st_tally st_kinds st_places st_lengths st_downs st_covers sl_size sl_need sl_lifted sl_licked sl_morning sl_tally sl_kinds sl_places sl_lengths sl_downs sl_covers as_size as_need as_lifted as_licked as_morning as_tally as_kinds as_places as_lengths as_downs as_covers text place count least inAll inSome scratch findings) := by
  refine Ci_of (own := RX4) (by decide) (Nat.le_of_ble_eq_true rfl) rfl ?_
  intro p e s m below meth c Q A AV hc hret ls hl hG
  obtain ⟨hx, hb, hml, hown, hts, hK, hA, hz⟩ := id hc
  have hl : lv_has ls 3 [(0, .ref (ad 0)), (1, .int x1), (2, .int x2)] := hl
  unfold fX4_peel at h
  refine lv_aload_n hx hb dX4_peel_0 rfl (lv_at hl 0 rfl) ?_
  refine x_get hc hG 0 rfl iX4 4 lX4_35 rfl dX4_peel_1 ?_
  refine lv_iload_n hx hb dX4_peel_4 rfl (lv_at hl 1 rfl) ?_
  obtain ⟨v5, e5, h⟩ := bd1_some h
  refine x_vi (rest := []) (ws' := (wX4 cI ad finding asked upper lower r_items r_sizes t_items t_sizes d_items d_sizes st_size st_need st_lifted st_licked st_morning st_tally st_kinds st_places st_lengths st_downs st_covers sl_size sl_need sl_lifted sl_licked sl_morning sl_tally sl_kinds sl_places sl_lengths sl_downs sl_covers as_size as_need as_lifted as_licked as_morning as_tally as_kinds as_places as_lengths as_downs as_covers text place count least inAll inSome scratch findings)) hc hG (cc_X3_has (fun k => ad (16 + k)) sl_size sl_need sl_lifted sl_licked sl_morning sl_tally sl_kinds sl_places sl_lengths sl_downs sl_covers x1 v5 e5) [16, 17, 18, 19, 20, 21] [0, 1, 2, 3, 4, 5, 6, 7, 8, 9, 10, 11, 12, 13, 14, 15, 22, 23, 24, 25, 26, 27, 28, 29, 30, 31] [0, 1, 2, 3, 4, 5, 6, 7, 8, 9, 10, 11, 12, 13, 14, 15, 26, 27, 28, 29, 30, 31, 16, 17, 18, 19, 20, 21, 22, 23, 24, 25] rfl rfl rfl 16 rfl rfl lX4_122 ⟨rfl, rfl, by decide, by decide⟩ rfl hl.1 (Nat.le_of_ble_eq_true rfl) rfl dX4_peel_5 (fun H locs hG => ?_)
  refine lv_if_eq (tgt := 20) hx hb dX4_peel_8 (by decide) (fun c8 => ?_) (fun c8 => ?_)
  · rw [if_pos c8] at h
    refine lv_iconst (v := (-1)) hx hb dX4_peel_20 (by decide) ?_
    cases h
    exact hret _ _ _ _ hG dX4_peel_21 rfl
  · rw [if_neg c8] at h
    refine lv_iload_n hx hb dX4_peel_11 rfl (lv_at hl 2 rfl) ?_
    refine lv_bipush (v := 7) hx hb dX4_peel_12 (by decide) ?_
    obtain ⟨v14, e14, h⟩ := bd1_some h
    refine x_si0 (rest := []) hc hG (cc_X4_isIn x2 7 v14 e14) lX4_124 ⟨rfl, rfl, by decide, by decide⟩ rfl hl.1 (Nat.le_of_ble_eq_true rfl) rfl dX4_peel_14 (fun H locs hG => ?_)
    refine lv_if_ne (tgt := 22) hx hb dX4_peel_17 (by decide) (fun c17 => ?_) (fun c17 => ?_)
    · rw [if_neg c17] at h
      refine lv_aload_n hx hb dX4_peel_22 rfl (lv_at hl 0 rfl) ?_
      refine lv_aload_n hx hb dX4_peel_23 rfl (lv_at hl 0 rfl) ?_
      refine x_get hc hG 0 rfl iX4 4 lX4_35 rfl dX4_peel_24 ?_
      refine lv_iload_n hx hb dX4_peel_27 rfl (lv_at hl 1 rfl) ?_
      refine lv_iload_n hx hb dX4_peel_28 rfl (lv_at hl 2 rfl) ?_
      obtain ⟨v29, e29, h⟩ := bd1_some h
      refine x_vi (rest := [.ref (ad 0)]) (ws' := (wX4 cI ad finding asked upper lower r_items r_sizes t_items t_sizes d_items d_sizes st_size st_need st_lifted st_licked st_morning st_tally st_kinds st_places st_lengths st_downs st_covers sl_size sl_need sl_lifted sl_licked sl_morning sl_tally sl_kinds sl_places sl_lengths sl_downs sl_covers as_size as_need as_lifted as_licked as_morning as_tally as_kinds as_places as_lengths as_downs as_covers text place count least inAll inSome scratch findings)) hc hG (cc_X3_trait (fun k => ad (16 + k)) sl_size sl_need sl_lifted sl_licked sl_morning sl_tally sl_kinds sl_places sl_lengths sl_downs sl_covers x1 x2 v29 e29) [16, 17, 18, 19, 20, 21] [0, 1, 2, 3, 4, 5, 6, 7, 8, 9, 10, 11, 12, 13, 14, 15, 22, 23, 24, 25, 26, 27, 28, 29, 30, 31] [0, 1, 2, 3, 4, 5, 6, 7, 8, 9, 10, 11, 12, 13, 14, 15, 26, 27, 28, 29, 30, 31, 16, 17, 18, 19, 20, 21, 22, 23, 24, 25] rfl rfl rfl 16 rfl rfl lX4_127 ⟨rfl, rfl, by decide, by decide⟩ rfl hl.1 (Nat.le_of_ble_eq_true rfl) rfl dX4_peel_29 (fun H locs hG => ?_)
      obtain ⟨v32, asked_32, e32, h⟩ := bd2_some h
      refine x_vi (rest := []) (ws' := (wX4 cI ad finding asked_32 upper lower r_items r_sizes t_items t_sizes d_items d_sizes st_size st_need st_lifted st_licked st_morning st_tally st_kinds st_places st_lengths st_downs st_covers sl_size sl_need sl_lifted sl_licked sl_morning sl_tally sl_kinds sl_places sl_lengths sl_downs sl_covers as_size as_need as_lifted as_licked as_morning as_tally as_kinds as_places as_lengths as_downs as_covers text place count least inAll inSome scratch findings)) hc hG (cc_X4_tell ad finding asked upper lower r_items r_sizes t_items t_sizes d_items d_sizes st_size st_need st_lifted st_licked st_morning st_tally st_kinds st_places st_lengths st_downs st_covers sl_size sl_need sl_lifted sl_licked sl_morning sl_tally sl_kinds sl_places sl_lengths sl_downs sl_covers as_size as_need as_lifted as_licked as_morning as_tally as_kinds as_places as_lengths as_downs as_covers text place count least inAll inSome scratch findings v29 v32 asked_32 e32) [0, 1, 2, 3, 4, 5, 6, 7, 8, 9, 10, 11, 12, 13, 14, 15, 16, 17, 18, 19, 20, 21, 22, 23, 24, 25, 26, 27, 28, 29, 30, 31] [] [0, 1, 2, 3, 4, 5, 6, 7, 8, 9, 10, 11, 12, 13, 14, 15, 16, 17, 18, 19, 20, 21, 22, 23, 24, 25, 26, 27, 28, 29, 30, 31] rfl rfl rfl 0 rfl rfl lX4_90 ⟨rfl, rfl, by decide, by decide⟩ rfl hl.1 (Nat.le_of_ble_eq_true rfl) rfl dX4_peel_32 (fun H locs hG => ?_)
      cases h
      exact hret _ _ _ _ hG dX4_peel_35 rfl
    · rw [if_pos c17] at h
      refine lv_iconst (v := (-1)) hx hb dX4_peel_20 (by decide) ?_
      cases h
      exact hret _ _ _ _ hG dX4_peel_21 rfl
set_option maxRecDepth 100000 in
set_option maxHeartbeats 4000000 in
theorem cc_X4_mark {l : Launch} {D : va_G} {cI : ClassId} {tL : Nat} (ad : Nat → Nat) (finding : Int32) (asked : Int32) (upper : Int64) (lower : Int64) (r_items : Nat → Int32) (r_sizes : Nat → Int32) (t_items : Nat → Int32) (t_sizes : Nat → Int32) (d_items : Nat → Int32) (d_sizes : Nat → Int32) (st_size : Int32) (st_need : Int32) (st_lifted : Int32) (st_licked : Int32) (st_morning : Int32) (st_tally : Int32) (st_kinds : Nat → Int32) (st_places : Nat → Int32) (st_lengths : Nat → Int32) (st_downs : Nat → Int32) (st_covers : Nat → Int32) (sl_size : Int32) (sl_need : Int32) (sl_lifted : Int32) (sl_licked : Int32) (sl_morning : Int32) (sl_tally : Int32) (sl_kinds : Nat → Int32) (sl_places : Nat → Int32) (sl_lengths : Nat → Int32) (sl_downs : Nat → Int32) (sl_covers : Nat → Int32) (as_size : Int32) (as_need : Int32) (as_lifted : Int32) (as_licked : Int32) (as_morning : Int32) (as_tally : Int32) (as_kinds : Nat → Int32) (as_places : Nat → Int32) (as_lengths : Nat → Int32) (as_downs : Nat → Int32) (as_covers : Nat → Int32) (text : Int32) (place : Int32) (count : Int32) (least : Int32) (inAll : Int32) (inSome : Int32) (scratch : Nat → Int32) (findings : Nat → Int32) (x1 : Int32) (x2 : Int32) (r' : Int32) (finding' : Int32) (findings' : Nat → Int32) (h : fX4_mark finding sl_size sl_kinds sl_places sl_lengths sl_downs sl_covers findings x1 x2 = some (r', finding', findings')) : Ci l D cI tL yX4_mark cX4_mark 3 .int rmX4_mark (wX4 cI ad finding asked upper lower r_items r_sizes t_items t_sizes d_items d_sizes st_size st_need st_lifted st_licked st_morning st_tally st_kinds st_places st_lengths st_downs st_covers sl_size sl_need sl_lifted sl_licked sl_morning sl_tally sl_kinds sl_places sl_lengths sl_downs sl_covers as_size as_need as_lifted as_licked as_morning as_tally as_kinds as_places as_lengths as_downs as_covers text place count least inAll inSome scratch findings) [.ref (ad 0), .int x1, .int x2] r' (wX4 cI ad finding' asked upper lower r_items r_sizes t_items t_sizes d_items d_sizes st_size st_need st_lifted st_licked st_morning st_tally st_kinds st_places st_lengths st_downs st_covers sl_size sl_need sl_lifted sl_licked sl_morning sl_tally sl_kinds sl_places sl_lengths sl_downs sl_covers as_size as_need as_lifted as_licked as_morning as_tally as_kinds as_places as_lengths as_downs as_covers text place count least inAll inSome scratch findings') := by
  refine Ci_of (own := RX4) (by decide) (Nat.le_of_ble_eq_true rfl) rfl ?_
  intro p e s m below meth c Q A AV hc hret ls hl hG
  obtain ⟨hx, hb, hml, hown, hts, hK, hA, hz⟩ := id hc
  have hl : lv_has ls 3 [(0, .ref (ad 0)), (1, .int x1), (2, .int x2)] := hl
  unfold fX4_mark at h
  refine lv_aload_n hx hb dX4_mark_0 rfl (lv_at hl 0 rfl) ?_
  refine x_get hc hG 0 rfl iX4 4 lX4_35 rfl dX4_mark_1 ?_
  refine lv_iload_n hx hb dX4_mark_4 rfl (lv_at hl 1 rfl) ?_
  obtain ⟨v5, e5, h⟩ := bd1_some h
  refine x_vi (rest := []) (ws' := (wX4 cI ad finding asked upper lower r_items r_sizes t_items t_sizes d_items d_sizes st_size st_need st_lifted st_licked st_morning st_tally st_kinds st_places st_lengths st_downs st_covers sl_size sl_need sl_lifted sl_licked sl_morning sl_tally sl_kinds sl_places sl_lengths sl_downs sl_covers as_size as_need as_lifted as_licked as_morning as_tally as_kinds as_places as_lengths as_downs as_covers text place count least inAll inSome scratch findings)) hc hG (cc_X3_has (fun k => ad (16 + k)) sl_size sl_need sl_lifted sl_licked sl_morning sl_tally sl_kinds sl_places sl_lengths sl_downs sl_covers x1 v5 e5) [16, 17, 18, 19, 20, 21] [0, 1, 2, 3, 4, 5, 6, 7, 8, 9, 10, 11, 12, 13, 14, 15, 22, 23, 24, 25, 26, 27, 28, 29, 30, 31] [0, 1, 2, 3, 4, 5, 6, 7, 8, 9, 10, 11, 12, 13, 14, 15, 26, 27, 28, 29, 30, 31, 16, 17, 18, 19, 20, 21, 22, 23, 24, 25] rfl rfl rfl 16 rfl rfl lX4_122 ⟨rfl, rfl, by decide, by decide⟩ rfl hl.1 (Nat.le_of_ble_eq_true rfl) rfl dX4_mark_5 (fun H locs hG => ?_)
  refine lv_if_eq (tgt := 24) hx hb dX4_mark_8 (by decide) (fun c8 => ?_) (fun c8 => ?_)
  · rw [if_pos c8] at h
    refine lv_iconst (v := (-1)) hx hb dX4_mark_24 (by decide) ?_
    cases h
    exact hret _ _ _ _ hG dX4_mark_25 rfl
  · rw [if_neg c8] at h
    refine lv_iload_n hx hb dX4_mark_11 rfl (lv_at hl 2 rfl) ?_
    refine lv_if_eq (tgt := 24) hx hb dX4_mark_12 (by decide) (fun c12 => ?_) (fun c12 => ?_)
    · rw [if_pos c12] at h
      refine lv_iconst (v := (-1)) hx hb dX4_mark_24 (by decide) ?_
      cases h
      exact hret _ _ _ _ hG dX4_mark_25 rfl
    · rw [if_neg c12] at h
      refine lv_iload_n hx hb dX4_mark_15 rfl (lv_at hl 2 rfl) ?_
      refine lv_bipush (v := 6) hx hb dX4_mark_16 (by decide) ?_
      obtain ⟨v18, e18, h⟩ := bd1_some h
      refine x_si0 (rest := []) hc hG (cc_X4_isIn x2 6 v18 e18) lX4_124 ⟨rfl, rfl, by decide, by decide⟩ rfl hl.1 (Nat.le_of_ble_eq_true rfl) rfl dX4_mark_18 (fun H locs hG => ?_)
      refine lv_if_ne (tgt := 26) hx hb dX4_mark_21 (by decide) (fun c21 => ?_) (fun c21 => ?_)
      · rw [if_neg c21] at h
        refine lv_aload_n hx hb dX4_mark_26 rfl (lv_at hl 0 rfl) ?_
        refine x_get hc hG 0 rfl iX4 4 lX4_35 rfl dX4_mark_27 ?_
        refine lv_iload_n hx hb dX4_mark_30 rfl (lv_at hl 1 rfl) ?_
        refine lv_iload_n hx hb dX4_mark_31 rfl (lv_at hl 2 rfl) ?_
        obtain ⟨v32, e32, h⟩ := bd1_some h
        refine x_vi (rest := []) (ws' := (wX4 cI ad finding asked upper lower r_items r_sizes t_items t_sizes d_items d_sizes st_size st_need st_lifted st_licked st_morning st_tally st_kinds st_places st_lengths st_downs st_covers sl_size sl_need sl_lifted sl_licked sl_morning sl_tally sl_kinds sl_places sl_lengths sl_downs sl_covers as_size as_need as_lifted as_licked as_morning as_tally as_kinds as_places as_lengths as_downs as_covers text place count least inAll inSome scratch findings)) hc hG (cc_X3_isOf (fun k => ad (16 + k)) sl_size sl_need sl_lifted sl_licked sl_morning sl_tally sl_kinds sl_places sl_lengths sl_downs sl_covers x1 x2 v32 e32) [16, 17, 18, 19, 20, 21] [0, 1, 2, 3, 4, 5, 6, 7, 8, 9, 10, 11, 12, 13, 14, 15, 22, 23, 24, 25, 26, 27, 28, 29, 30, 31] [0, 1, 2, 3, 4, 5, 6, 7, 8, 9, 10, 11, 12, 13, 14, 15, 26, 27, 28, 29, 30, 31, 16, 17, 18, 19, 20, 21, 22, 23, 24, 25] rfl rfl rfl 16 rfl rfl lX4_130 ⟨rfl, rfl, by decide, by decide⟩ rfl hl.1 (Nat.le_of_ble_eq_true rfl) rfl dX4_mark_32 (fun H locs hG => ?_)
        refine lv_if_eq (tgt := 50) hx hb dX4_mark_35 (by decide) (fun c35 => ?_) (fun c35 => ?_)
        · rw [if_pos c35] at h
          refine lv_aload_n hx hb dX4_mark_50 rfl (lv_at hl 0 rfl) ?_
          refine lv_iconst (v := 3) hx hb dX4_mark_51 (by decide) ?_
          obtain ⟨v52, finding_52, findings_52, e52, h⟩ := bd3_some h
          refine x_vi (rest := []) (ws' := (wX4 cI ad finding_52 asked upper lower r_items r_sizes t_items t_sizes d_items d_sizes st_size st_need st_lifted st_licked st_morning st_tally st_kinds st_places st_lengths st_downs st_covers sl_size sl_need sl_lifted sl_licked sl_morning sl_tally sl_kinds sl_places sl_lengths sl_downs sl_covers as_size as_need as_lifted as_licked as_morning as_tally as_kinds as_places as_lengths as_downs as_covers text place count least inAll inSome scratch findings_52)) hc hG (cc_X4_find ad finding asked upper lower r_items r_sizes t_items t_sizes d_items d_sizes st_size st_need st_lifted st_licked st_morning st_tally st_kinds st_places st_lengths st_downs st_covers sl_size sl_need sl_lifted sl_licked sl_morning sl_tally sl_kinds sl_places sl_lengths sl_downs sl_covers as_size as_need as_lifted as_licked as_morning as_tally as_kinds as_places as_lengths as_downs as_covers text place count least inAll inSome scratch findings 3 v52 finding_52 findings_52 e52) [0, 1, 2, 3, 4, 5, 6, 7, 8, 9, 10, 11, 12, 13, 14, 15, 16, 17, 18, 19, 20, 21, 22, 23, 24, 25, 26, 27, 28, 29, 30, 31] [] [0, 1, 2, 3, 4, 5, 6, 7, 8, 9, 10, 11, 12, 13, 14, 15, 16, 17, 18, 19, 20, 21, 22, 23, 24, 25, 26, 27, 28, 29, 30, 31] rfl rfl rfl 0 rfl rfl lX4_72 ⟨rfl, rfl, by decide, by decide⟩ rfl hl.1 (Nat.le_of_ble_eq_true rfl) rfl dX4_mark_52 (fun H locs hG => ?_)
          cases h
          exact hret _ _ _ _ hG dX4_mark_55 rfl
        · rw [if_neg c35] at h
          refine lv_aload_n hx hb dX4_mark_38 rfl (lv_at hl 0 rfl) ?_
          refine x_get hc hG 0 rfl iX4 4 lX4_35 rfl dX4_mark_39 ?_
          refine lv_iload_n hx hb dX4_mark_42 rfl (lv_at hl 1 rfl) ?_
          refine lv_iload_n hx hb dX4_mark_43 rfl (lv_at hl 2 rfl) ?_
          obtain ⟨v44, e44, h⟩ := bd1_some h
          refine x_vi (rest := []) (ws' := (wX4 cI ad finding asked upper lower r_items r_sizes t_items t_sizes d_items d_sizes st_size st_need st_lifted st_licked st_morning st_tally st_kinds st_places st_lengths st_downs st_covers sl_size sl_need sl_lifted sl_licked sl_morning sl_tally sl_kinds sl_places sl_lengths sl_downs sl_covers as_size as_need as_lifted as_licked as_morning as_tally as_kinds as_places as_lengths as_downs as_covers text place count least inAll inSome scratch findings)) hc hG (cc_X3_tells (fun k => ad (16 + k)) sl_size sl_need sl_lifted sl_licked sl_morning sl_tally sl_kinds sl_places sl_lengths sl_downs sl_covers x1 x2 v44 e44) [16, 17, 18, 19, 20, 21] [0, 1, 2, 3, 4, 5, 6, 7, 8, 9, 10, 11, 12, 13, 14, 15, 22, 23, 24, 25, 26, 27, 28, 29, 30, 31] [0, 1, 2, 3, 4, 5, 6, 7, 8, 9, 10, 11, 12, 13, 14, 15, 26, 27, 28, 29, 30, 31, 16, 17, 18, 19, 20, 21, 22, 23, 24, 25] rfl rfl rfl 16 rfl rfl lX4_133 ⟨rfl, rfl, by decide, by decide⟩ rfl hl.1 (Nat.le_of_ble_eq_true rfl) rfl dX4_mark_44 (fun H locs hG => ?_)
          refine lv_goto (tgt := 55) hx hb dX4_mark_47 (by decide) ?_
          cases h
          exact hret _ _ _ _ hG dX4_mark_55 rfl
      · rw [if_pos c21] at h
        refine lv_iconst (v := (-1)) hx hb dX4_mark_24 (by decide) ?_
        cases h
        exact hret _ _ _ _ hG dX4_mark_25 rfl
set_option maxRecDepth 100000 in
set_option maxHeartbeats 4000000 in
theorem cc_X4_hasRoom {l : Launch} {D : va_G} {cI : ClassId} {tL : Nat} (ad : Nat → Nat) (finding : Int32) (asked : Int32) (upper : Int64) (lower : Int64) (r_items : Nat → Int32) (r_sizes : Nat → Int32) (t_items : Nat → Int32) (t_sizes : Nat → Int32) (d_items : Nat → Int32) (d_sizes : Nat → Int32) (st_size : Int32) (st_need : Int32) (st_lifted : Int32) (st_licked : Int32) (st_morning : Int32) (st_tally : Int32) (st_kinds : Nat → Int32) (st_places : Nat → Int32) (st_lengths : Nat → Int32) (st_downs : Nat → Int32) (st_covers : Nat → Int32) (sl_size : Int32) (sl_need : Int32) (sl_lifted : Int32) (sl_licked : Int32) (sl_morning : Int32) (sl_tally : Int32) (sl_kinds : Nat → Int32) (sl_places : Nat → Int32) (sl_lengths : Nat → Int32) (sl_downs : Nat → Int32) (sl_covers : Nat → Int32) (as_size : Int32) (as_need : Int32) (as_lifted : Int32) (as_licked : Int32) (as_morning : Int32) (as_tally : Int32) (as_kinds : Nat → Int32) (as_places : Nat → Int32) (as_lengths : Nat → Int32) (as_downs : Nat → Int32) (as_covers : Nat → Int32) (text : Int32) (place : Int32) (count : Int32) (least : Int32) (inAll : Int32) (inSome : Int32) (scratch : Nat → Int32) (findings : Nat → Int32) (x1 : Int32) (r' : Int32) (h : fX4_hasRoom d_sizes x1 = some r') : Ci l D cI tL yX4_hasRoom cX4_hasRoom 2 .boolean rmX4_hasRoom (wX4 cI ad finding asked upper lower r_items r_sizes t_items t_sizes d_items d_sizes st_size st_need st_lifted st_licked st_morning st_tally st_kinds st_places st_lengths st_downs st_covers sl_size sl_need sl_lifted sl_licked sl_morning sl_tally sl_kinds sl_places sl_lengths sl_downs sl_covers as_size as_need as_lifted as_licked as_morning as_tally as_kinds as_places as_lengths as_downs as_covers text place count least inAll inSome scratch findings) [.ref (ad 0), .int x1] r' (wX4 cI ad finding asked upper lower r_items r_sizes t_items t_sizes d_items d_sizes st_size st_need st_lifted st_licked st_morning st_tally st_kinds st_places st_lengths st_downs st_covers sl_size sl_need sl_lifted sl_licked sl_morning sl_tally sl_kinds sl_places sl_lengths sl_downs sl_covers as_size as_need as_lifted as_licked as_morning as_tally as_kinds as_places as_lengths as_downs as_covers text place count least inAll inSome scratch findings) := by
  refine Ci_of (own := RX4) (by decide) (Nat.le_of_ble_eq_true rfl) rfl ?_
  intro p e s m below meth c Q A AV hc hret ls hl hG
  obtain ⟨hx, hb, hml, hown, hts, hK, hA, hz⟩ := id hc
  have hl : lv_has ls 2 [(0, .ref (ad 0)), (1, .int x1)] := hl
  unfold fX4_hasRoom at h
  refine lv_aload_n hx hb dX4_hasRoom_0 rfl (lv_at hl 0 rfl) ?_
  refine x_get hc hG 0 rfl iX4 2 lX4_21 rfl dX4_hasRoom_1 ?_
  refine lv_iconst (v := 3) hx hb dX4_hasRoom_4 (by decide) ?_
  obtain ⟨v5, e5, h⟩ := bd1_some h
  refine x_vi (rest := []) (ws' := (wX4 cI ad finding asked upper lower r_items r_sizes t_items t_sizes d_items d_sizes st_size st_need st_lifted st_licked st_morning st_tally st_kinds st_places st_lengths st_downs st_covers sl_size sl_need sl_lifted sl_licked sl_morning sl_tally sl_kinds sl_places sl_lengths sl_downs sl_covers as_size as_need as_lifted as_licked as_morning as_tally as_kinds as_places as_lengths as_downs as_covers text place count least inAll inSome scratch findings)) hc hG (cc_X2_sizeOf (fun k => ad (7 + k)) 160 4 40 d_items d_sizes 3 v5 e5) [7, 8, 9] [0, 1, 2, 3, 4, 5, 6, 10, 11, 12, 13, 14, 15, 16, 17, 18, 19, 20, 21, 22, 23, 24, 25, 26, 27, 28, 29, 30, 31] [0, 1, 2, 3, 4, 5, 6, 29, 30, 31, 7, 8, 9, 10, 11, 12, 13, 14, 15, 16, 17, 18, 19, 20, 21, 22, 23, 24, 25, 26, 27, 28] rfl rfl rfl 7 rfl rfl lX4_105 ⟨rfl, rfl, by decide, by decide⟩ rfl hl.1 (Nat.le_of_ble_eq_true rfl) rfl dX4_hasRoom_5 (fun H locs hG => ?_)
  refine lv_iload_n hx hb dX4_hasRoom_8 rfl (lv_at hl 1 rfl) ?_
  refine lv_iadd hx hb dX4_hasRoom_9 ?_
  refine lv_bipush (v := 40) hx hb dX4_hasRoom_10 (by decide) ?_
  refine lv_icmp_gt (tgt := 19) hx hb dX4_hasRoom_12 (by decide) (fun c12 => ?_) (fun c12 => ?_)
  · rw [if_pos c12] at h
    refine lv_iconst (v := 0) hx hb dX4_hasRoom_19 (by decide) ?_
    cases h
    exact hret _ _ _ _ hG dX4_hasRoom_20 rfl
  · rw [if_neg c12] at h
    refine lv_iconst (v := 1) hx hb dX4_hasRoom_15 (by decide) ?_
    refine lv_goto (tgt := 20) hx hb dX4_hasRoom_16 (by decide) ?_
    cases h
    exact hret _ _ _ _ hG dX4_hasRoom_20 rfl
set_option maxRecDepth 100000 in
set_option maxHeartbeats 4000000 in
theorem cc_X4_act {l : Launch} {D : va_G} {cI : ClassId} {tL : Nat} (ad : Nat → Nat) (finding : Int32) (asked : Int32) (upper : Int64) (lower : Int64) (r_items : Nat → Int32) (r_sizes : Nat → Int32) (t_items : Nat → Int32) (t_sizes : Nat → Int32) (d_items : Nat → Int32) (d_sizes : Nat → Int32) (st_size : Int32) (st_need : Int32) (st_lifted : Int32) (st_licked : Int32) (st_morning : Int32) (st_tally : Int32) (st_kinds : Nat → Int32) (st_places : Nat → Int32) (st_lengths : Nat → Int32) (st_downs : Nat → Int32) (st_covers : Nat → Int32) (sl_size : Int32) (sl_need : Int32) (sl_lifted : Int32) (sl_licked : Int32) (sl_morning : Int32) (sl_tally : Int32) (sl_kinds : Nat → Int32) (sl_places : Nat → Int32) (sl_lengths : Nat → Int32) (sl_downs : Nat → Int32) (sl_covers : Nat → Int32) (as_size : Int32) (as_need : Int32) (as_lifted : Int32) (as_licked : Int32) (as_morning : Int32) (as_tally : Int32) (as_kinds : Nat → Int32) (as_places : Nat → Int32) (as_lengths : Nat → Int32) (as_downs : Nat → Int32) (as_covers : Nat → Int32) (text : Int32) (place : Int32) (count : Int32) (least : Int32) (inAll : Int32) (inSome : Int32) (scratch : Nat → Int32) (findings : Nat → Int32) (x1 : Int32) (x2 : Int32) (x3 : Int32) (d_items' : Nat → Int32) (d_sizes' : Nat → Int32) (sl_lifted' : Int32) (sl_licked' : Int32) (sl_morning' : Int32) (sl_tally' : Int32) (sl_places' : Nat → Int32) (sl_downs' : Nat → Int32) (sl_covers' : Nat → Int32) (h : fX4_act d_items d_sizes sl_size sl_need sl_lifted sl_licked sl_morning sl_tally sl_kinds sl_places sl_lengths sl_downs sl_covers x1 x2 x3 = some (d_items', d_sizes', sl_lifted', sl_licked', sl_morning', sl_tally', sl_places', sl_downs', sl_covers')) : Cv l D cI tL yX4_act cX4_act 4 rmX4_act (wX4 cI ad finding asked upper lower r_items r_sizes t_items t_sizes d_items d_sizes st_size st_need st_lifted st_licked st_morning st_tally st_kinds st_places st_lengths st_downs st_covers sl_size sl_need sl_lifted sl_licked sl_morning sl_tally sl_kinds sl_places sl_lengths sl_downs sl_covers as_size as_need as_lifted as_licked as_morning as_tally as_kinds as_places as_lengths as_downs as_covers text place count least inAll inSome scratch findings) [.ref (ad 0), .int x1, .int x2, .int x3] (wX4 cI ad finding asked upper lower r_items r_sizes t_items t_sizes d_items' d_sizes' st_size st_need st_lifted st_licked st_morning st_tally st_kinds st_places st_lengths st_downs st_covers sl_size sl_need sl_lifted' sl_licked' sl_morning' sl_tally' sl_kinds sl_places' sl_lengths sl_downs' sl_covers' as_size as_need as_lifted as_licked as_morning as_tally as_kinds as_places as_lengths as_downs as_covers text place count least inAll inSome scratch findings) := by
  refine Cv_of (own := RX4) (by decide) (Nat.le_of_ble_eq_true rfl) rfl ?_
  intro p e s m below meth c Q A AV hc hret ls hl hG
  obtain ⟨hx, hb, hml, hown, hts, hK, hA, hz⟩ := id hc
  have hl : lv_has ls 4 [(0, .ref (ad 0)), (1, .int x1), (2, .int x2), (3, .int x3)] := hl
  unfold fX4_act at h
  refine lv_aload_n hx hb dX4_act_0 rfl (lv_at hl 0 rfl) ?_
  refine x_get hc hG 0 rfl iX4 2 lX4_21 rfl dX4_act_1 ?_
  refine lv_iconst (v := 3) hx hb dX4_act_4 (by decide) ?_
  refine lv_iload_n hx hb dX4_act_5 rfl (lv_at hl 1 rfl) ?_
  refine lv_bipush (v := 6) hx hb dX4_act_6 (by decide) ?_
  refine lv_imul hx hb dX4_act_8 ?_
  refine lv_iload_n hx hb dX4_act_9 rfl (lv_at hl 2 rfl) ?_
  refine lv_iadd hx hb dX4_act_10 ?_
  refine lv_bipush (v := 16) hx hb dX4_act_11 (by decide) ?_
  refine lv_imul hx hb dX4_act_13 ?_
  refine lv_iload_n hx hb dX4_act_14 rfl (lv_at hl 3 rfl) ?_
  refine lv_iadd hx hb dX4_act_15 ?_
  obtain ⟨d_items_16, d_sizes_16, e16, h⟩ := bd2_some h
  refine x_vv (rest := []) (ws' := (wX4 cI ad finding asked upper lower r_items r_sizes t_items t_sizes d_items_16 d_sizes_16 st_size st_need st_lifted st_licked st_morning st_tally st_kinds st_places st_lengths st_downs st_covers sl_size sl_need sl_lifted sl_licked sl_morning sl_tally sl_kinds sl_places sl_lengths sl_downs sl_covers as_size as_need as_lifted as_licked as_morning as_tally as_kinds as_places as_lengths as_downs as_covers text place count least inAll inSome scratch findings)) hc hG (cc_X2_append (fun k => ad (7 + k)) 160 4 40 d_items d_sizes 3 ((((x1 * 6) + x2) * 16) + x3) d_items_16 d_sizes_16 e16) [7, 8, 9] [0, 1, 2, 3, 4, 5, 6, 10, 11, 12, 13, 14, 15, 16, 17, 18, 19, 20, 21, 22, 23, 24, 25, 26, 27, 28, 29, 30, 31] [0, 1, 2, 3, 4, 5, 6, 29, 30, 31, 7, 8, 9, 10, 11, 12, 13, 14, 15, 16, 17, 18, 19, 20, 21, 22, 23, 24, 25, 26, 27, 28] rfl rfl rfl 7 rfl rfl lX4_314 ⟨rfl, rfl, by decide, by decide⟩ rfl hl.1 (Nat.le_of_ble_eq_true rfl) rfl dX4_act_16 (fun H locs hG => ?_)
  refine lv_aload_n hx hb dX4_act_19 rfl (lv_at hl 0 rfl) ?_
  refine x_get hc hG 0 rfl iX4 4 lX4_35 rfl dX4_act_20 ?_
  refine lv_iload_n hx hb dX4_act_23 rfl (lv_at hl 1 rfl) ?_
  refine lv_iload_n hx hb dX4_act_24 rfl (lv_at hl 2 rfl) ?_
  refine lv_iload_n hx hb dX4_act_25 rfl (lv_at hl 3 rfl) ?_
  obtain ⟨sl_lifted_26, sl_licked_26, sl_morning_26, sl_tally_26, sl_places_26, sl_downs_26, sl_covers_26, e26, h⟩ := bd7_some h
  refine x_vv (rest := []) (ws' := (wX4 cI ad finding asked upper lower r_items r_sizes t_items t_sizes d_items_16 d_sizes_16 st_size st_need st_lifted st_licked st_morning st_tally st_kinds st_places st_lengths st_downs st_covers sl_size sl_need sl_lifted_26 sl_licked_26 sl_morning_26 sl_tally_26 sl_kinds sl_places_26 sl_lengths sl_downs_26 sl_covers_26 as_size as_need as_lifted as_licked as_morning as_tally as_kinds as_places as_lengths as_downs as_covers text place count least inAll inSome scratch findings)) hc hG (cc_X3_perform (fun k => ad (16 + k)) sl_size sl_need sl_lifted sl_licked sl_morning sl_tally sl_kinds sl_places sl_lengths sl_downs sl_covers x1 x2 x3 sl_lifted_26 sl_licked_26 sl_morning_26 sl_tally_26 sl_places_26 sl_downs_26 sl_covers_26 e26) [16, 17, 18, 19, 20, 21] [0, 1, 2, 3, 4, 5, 6, 7, 8, 9, 10, 11, 12, 13, 14, 15, 22, 23, 24, 25, 26, 27, 28, 29, 30, 31] [0, 1, 2, 3, 4, 5, 6, 7, 8, 9, 10, 11, 12, 13, 14, 15, 26, 27, 28, 29, 30, 31, 16, 17, 18, 19, 20, 21, 22, 23, 24, 25] rfl rfl rfl 16 rfl rfl lX4_317 ⟨rfl, rfl, by decide, by decide⟩ rfl hl.1 (Nat.le_of_ble_eq_true rfl) rfl dX4_act_26 (fun H locs hG => ?_)
  cases h
  exact hret _ _ _ _ hG dX4_act_29
set_option maxRecDepth 100000 in
set_option maxHeartbeats 4000000 in
theorem cc_X4_morning {l : Launch} {D : va_G} {cI : ClassId} {tL : Nat} (ad : Nat → Nat) (finding : Int32) (asked : Int32) (upper : Int64) (lower : Int64) (r_items : Nat → Int32) (r_sizes : Nat → Int32) (t_items : Nat → Int32) (t_sizes : Nat → Int32) (d_items : Nat → Int32) (d_sizes : Nat → Int32) (st_size : Int32) (st_need : Int32) (st_lifted : Int32) (st_licked : Int32) (st_morning : Int32) (st_tally : Int32) (st_kinds : Nat → Int32) (st_places : Nat → Int32) (st_lengths : Nat → Int32) (st_downs : Nat → Int32) (st_covers : Nat → Int32) (sl_size : Int32) (sl_need : Int32) (sl_lifted : Int32) (sl_licked : Int32) (sl_morning : Int32) (sl_tally : Int32) (sl_kinds : Nat → Int32) (sl_places : Nat → Int32) (sl_lengths : Nat → Int32) (sl_downs : Nat → Int32) (sl_covers : Nat → Int32) (as_size : Int32) (as_need : Int32) (as_lifted : Int32) (as_licked : Int32) (as_morning : Int32) (as_tally : Int32) (as_kinds : Nat → Int32) (as_places : Nat → Int32) (as_lengths : Nat → Int32) (as_downs : Nat → Int32) (as_covers : Nat → Int32) (text : Int32) (place : Int32) (count : Int32) (least : Int32) (inAll : Int32) (inSome : Int32) (scratch : Nat → Int32) (findings : Nat → Int32) (r' : Int32) (d_items' : Nat → Int32) (d_sizes' : Nat → Int32) (sl_lifted' : Int32) (sl_licked' : Int32) (sl_morning' : Int32) (sl_tally' : Int32) (sl_places' : Nat → Int32) (sl_downs' : Nat → Int32) (sl_covers' : Nat → Int32) (h : fX4_morning d_items d_sizes sl_size sl_need sl_lifted sl_licked sl_morning sl_tally sl_kinds sl_places sl_lengths sl_downs sl_covers = some (r', d_items', d_sizes', sl_lifted', sl_licked', sl_morning', sl_tally', sl_places', sl_downs', sl_covers')) : Ci l D cI tL yX4_morning cX4_morning 1 .int rmX4_morning (wX4 cI ad finding asked upper lower r_items r_sizes t_items t_sizes d_items d_sizes st_size st_need st_lifted st_licked st_morning st_tally st_kinds st_places st_lengths st_downs st_covers sl_size sl_need sl_lifted sl_licked sl_morning sl_tally sl_kinds sl_places sl_lengths sl_downs sl_covers as_size as_need as_lifted as_licked as_morning as_tally as_kinds as_places as_lengths as_downs as_covers text place count least inAll inSome scratch findings) [.ref (ad 0)] r' (wX4 cI ad finding asked upper lower r_items r_sizes t_items t_sizes d_items' d_sizes' st_size st_need st_lifted st_licked st_morning st_tally st_kinds st_places st_lengths st_downs st_covers sl_size sl_need sl_lifted' sl_licked' sl_morning' sl_tally' sl_kinds sl_places' sl_lengths sl_downs' sl_covers' as_size as_need as_lifted as_licked as_morning as_tally as_kinds as_places as_lengths as_downs as_covers text place count least inAll inSome scratch findings) := by
  refine Ci_of (own := RX4) (by decide) (Nat.le_of_ble_eq_true rfl) rfl ?_
  intro p e s m below meth c Q A AV hc hret ls hl hG
  obtain ⟨hx, hb, hml, hown, hts, hK, hA, hz⟩ := id hc
  have hl : lv_has ls 1 [(0, .ref (ad 0))] := hl
  unfold fX4_morning at h
  refine lv_aload_n hx hb dX4_morning_0 rfl (lv_at hl 0 rfl) ?_
  refine x_get hc hG 0 rfl iX4 4 lX4_35 rfl dX4_morning_1 ?_
  refine x_getN hc hG 16 rfl iX3 5 lX4_118 rfl dX4_morning_4 ?_
  refine lv_if_ne (tgt := 13) hx hb dX4_morning_7 (by decide) (fun c7 => ?_) (fun c7 => ?_)
  · rw [if_neg c7] at h
    refine lv_aload_n hx hb dX4_morning_13 rfl (lv_at hl 0 rfl) ?_
    refine lv_iconst (v := 1) hx hb dX4_morning_14 (by decide) ?_
    obtain ⟨v15, e15, h⟩ := bd1_some h
    refine x_vi (rest := []) (ws' := (wX4 cI ad finding asked upper lower r_items r_sizes t_items t_sizes d_items d_sizes st_size st_need st_lifted st_licked st_morning st_tally st_kinds st_places st_lengths st_downs st_covers sl_size sl_need sl_lifted sl_licked sl_morning sl_tally sl_kinds sl_places sl_lengths sl_downs sl_covers as_size as_need as_lifted as_licked as_morning as_tally as_kinds as_places as_lengths as_downs as_covers text place count least inAll inSome scratch findings)) hc hG (cc_X4_hasRoom ad finding asked upper lower r_items r_sizes t_items t_sizes d_items d_sizes st_size st_need st_lifted st_licked st_morning st_tally st_kinds st_places st_lengths st_downs st_covers sl_size sl_need sl_lifted sl_licked sl_morning sl_tally sl_kinds sl_places sl_lengths sl_downs sl_covers as_size as_need as_lifted as_licked as_morning as_tally as_kinds as_places as_lengths as_downs as_covers text place count least inAll inSome scratch findings 1 v15 e15) [0, 1, 2, 3, 4, 5, 6, 7, 8, 9, 10, 11, 12, 13, 14, 15, 16, 17, 18, 19, 20, 21, 22, 23, 24, 25, 26, 27, 28, 29, 30, 31] [] [0, 1, 2, 3, 4, 5, 6, 7, 8, 9, 10, 11, 12, 13, 14, 15, 16, 17, 18, 19, 20, 21, 22, 23, 24, 25, 26, 27, 28, 29, 30, 31] rfl rfl rfl 0 rfl rfl lX4_136 ⟨rfl, rfl, by decide, by decide⟩ rfl hl.1 (Nat.le_of_ble_eq_true rfl) rfl dX4_morning_15 (fun H locs hG => ?_)
    refine lv_if_ne (tgt := 24) hx hb dX4_morning_18 (by decide) (fun c18 => ?_) (fun c18 => ?_)
    · rw [if_neg c18] at h
      refine lv_aload_n hx hb dX4_morning_24 rfl (lv_at hl 0 rfl) ?_
      refine lv_iconst (v := 0) hx hb dX4_morning_25 (by decide) ?_
      refine lv_iconst (v := 0) hx hb dX4_morning_26 (by decide) ?_
      refine lv_iconst (v := 0) hx hb dX4_morning_27 (by decide) ?_
      obtain ⟨d_items_28, d_sizes_28, sl_lifted_28, sl_licked_28, sl_morning_28, sl_tally_28, sl_places_28, sl_downs_28, sl_covers_28, e28, h⟩ := bd9_some h
      refine x_vv (rest := []) (ws' := (wX4 cI ad finding asked upper lower r_items r_sizes t_items t_sizes d_items_28 d_sizes_28 st_size st_need st_lifted st_licked st_morning st_tally st_kinds st_places st_lengths st_downs st_covers sl_size sl_need sl_lifted_28 sl_licked_28 sl_morning_28 sl_tally_28 sl_kinds sl_places_28 sl_lengths sl_downs_28 sl_covers_28 as_size as_need as_lifted as_licked as_morning as_tally as_kinds as_places as_lengths as_downs as_covers text place count least inAll inSome scratch findings)) hc hG (cc_X4_act ad finding asked upper lower r_items r_sizes t_items t_sizes d_items d_sizes st_size st_need st_lifted st_licked st_morning st_tally st_kinds st_places st_lengths st_downs st_covers sl_size sl_need sl_lifted sl_licked sl_morning sl_tally sl_kinds sl_places sl_lengths sl_downs sl_covers as_size as_need as_lifted as_licked as_morning as_tally as_kinds as_places as_lengths as_downs as_covers text place count least inAll inSome scratch findings 0 0 0 d_items_28 d_sizes_28 sl_lifted_28 sl_licked_28 sl_morning_28 sl_tally_28 sl_places_28 sl_downs_28 sl_covers_28 e28) [0, 1, 2, 3, 4, 5, 6, 7, 8, 9, 10, 11, 12, 13, 14, 15, 16, 17, 18, 19, 20, 21, 22, 23, 24, 25, 26, 27, 28, 29, 30, 31] [] [0, 1, 2, 3, 4, 5, 6, 7, 8, 9, 10, 11, 12, 13, 14, 15, 16, 17, 18, 19, 20, 21, 22, 23, 24, 25, 26, 27, 28, 29, 30, 31] rfl rfl rfl 0 rfl rfl lX4_139 ⟨rfl, rfl, by decide, by decide⟩ rfl hl.1 (Nat.le_of_ble_eq_true rfl) rfl dX4_morning_28 (fun H locs hG => ?_)
      refine lv_aload_n hx hb dX4_morning_31 rfl (lv_at hl 0 rfl) ?_
      refine x_get hc hG 0 rfl iX4 4 lX4_35 rfl dX4_morning_32 ?_
      obtain ⟨v35, e35, h⟩ := bd1_some h
      refine x_vi (rest := []) (ws' := (wX4 cI ad finding asked upper lower r_items r_sizes t_items t_sizes d_items_28 d_sizes_28 st_size st_need st_lifted st_licked st_morning st_tally st_kinds st_places st_lengths st_downs st_covers sl_size sl_need sl_lifted_28 sl_licked_28 sl_morning_28 sl_tally_28 sl_kinds sl_places_28 sl_lengths sl_downs_28 sl_covers_28 as_size as_need as_lifted as_licked as_morning as_tally as_kinds as_places as_lengths as_downs as_covers text place count least inAll inSome scratch findings)) hc hG (cc_X3_linesNow (fun k => ad (16 + k)) sl_size sl_need sl_lifted_28 sl_licked_28 sl_morning_28 sl_tally_28 sl_kinds sl_places_28 sl_lengths sl_downs_28 sl_covers_28 v35 e35) [16, 17, 18, 19, 20, 21] [0, 1, 2, 3, 4, 5, 6, 7, 8, 9, 10, 11, 12, 13, 14, 15, 22, 23, 24, 25, 26, 27, 28, 29, 30, 31] [0, 1, 2, 3, 4, 5, 6, 7, 8, 9, 10, 11, 12, 13, 14, 15, 26, 27, 28, 29, 30, 31, 16, 17, 18, 19, 20, 21, 22, 23, 24, 25] rfl rfl rfl 16 rfl rfl lX4_142 ⟨rfl, rfl, by decide, by decide⟩ rfl hl.1 (Nat.le_of_ble_eq_true rfl) rfl dX4_morning_35 (fun H locs hG => ?_)
      cases h
      exact hret _ _ _ _ hG dX4_morning_38 rfl
    · rw [if_pos c18] at h
      refine lv_bipush (v := (-2)) hx hb dX4_morning_21 (by decide) ?_
      cases h
      exact hret _ _ _ _ hG dX4_morning_23 rfl
  · rw [if_pos c7] at h
    refine lv_bipush (v := (-4)) hx hb dX4_morning_10 (by decide) ?_
    cases h
    exact hret _ _ _ _ hG dX4_morning_12 rfl
set_option maxRecDepth 100000 in
set_option maxHeartbeats 4000000 in
theorem cc_X4_shift {l : Launch} {D : va_G} {cI : ClassId} {tL : Nat} (ad : Nat → Nat) (finding : Int32) (asked : Int32) (upper : Int64) (lower : Int64) (r_items : Nat → Int32) (r_sizes : Nat → Int32) (t_items : Nat → Int32) (t_sizes : Nat → Int32) (d_items : Nat → Int32) (d_sizes : Nat → Int32) (st_size : Int32) (st_need : Int32) (st_lifted : Int32) (st_licked : Int32) (st_morning : Int32) (st_tally : Int32) (st_kinds : Nat → Int32) (st_places : Nat → Int32) (st_lengths : Nat → Int32) (st_downs : Nat → Int32) (st_covers : Nat → Int32) (sl_size : Int32) (sl_need : Int32) (sl_lifted : Int32) (sl_licked : Int32) (sl_morning : Int32) (sl_tally : Int32) (sl_kinds : Nat → Int32) (sl_places : Nat → Int32) (sl_lengths : Nat → Int32) (sl_downs : Nat → Int32) (sl_covers : Nat → Int32) (as_size : Int32) (as_need : Int32) (as_lifted : Int32) (as_licked : Int32) (as_morning : Int32) (as_tally : Int32) (as_kinds : Nat → Int32) (as_places : Nat → Int32) (as_lengths : Nat → Int32) (as_downs : Nat → Int32) (as_covers : Nat → Int32) (text : Int32) (place : Int32) (count : Int32) (least : Int32) (inAll : Int32) (inSome : Int32) (scratch : Nat → Int32) (findings : Nat → Int32) (x1 : Int32) (x2 : Int32) (r' : Int32) (d_items' : Nat → Int32) (d_sizes' : Nat → Int32) (sl_lifted' : Int32) (sl_licked' : Int32) (sl_morning' : Int32) (sl_tally' : Int32) (sl_places' : Nat → Int32) (sl_downs' : Nat → Int32) (sl_covers' : Nat → Int32) (h : fX4_shift d_items d_sizes sl_size sl_need sl_lifted sl_licked sl_morning sl_tally sl_kinds sl_places sl_lengths sl_downs sl_covers x1 x2 = some (r', d_items', d_sizes', sl_lifted', sl_licked', sl_morning', sl_tally', sl_places', sl_downs', sl_covers')) : Ci l D cI tL yX4_shift cX4_shift 4 .int rmX4_shift (wX4 cI ad finding asked upper lower r_items r_sizes t_items t_sizes d_items d_sizes st_size st_need st_lifted st_licked st_morning st_tally st_kinds st_places st_lengths st_downs st_covers sl_size sl_need sl_lifted sl_licked sl_morning sl_tally sl_kinds sl_places sl_lengths sl_downs sl_covers as_size as_need as_lifted as_licked as_morning as_tally as_kinds as_places as_lengths as_downs as_covers text place count least inAll inSome scratch findings) [.ref (ad 0), .int x1, .int x2] r' (wX4 cI ad finding asked upper lower r_items r_sizes t_items t_sizes d_items' d_sizes' st_size st_need st_lifted st_licked st_morning st_tally st_kinds st_places st_lengths st_downs st_covers sl_size sl_need sl_lifted' sl_licked' sl_morning' sl_tally' sl_kinds sl_places' sl_lengths sl_downs' sl_covers' as_size as_need as_lifted as_licked as_morning as_tally as_kinds as_places as_lengths as_downs as_covers text place count least inAll inSome scratch findings) := by
  refine Ci_of (own := RX4) (by decide) (Nat.le_of_ble_eq_true rfl) rfl ?_
  intro p e s m below meth c Q A AV hc hret ls hl hG
  obtain ⟨hx, hb, hml, hown, hts, hK, hA, hz⟩ := id hc
  have hl : lv_has ls 4 [(0, .ref (ad 0)), (1, .int x1), (2, .int x2)] := hl
  unfold fX4_shift at h
  refine lv_aload_n hx hb dX4_shift_0 rfl (lv_at hl 0 rfl) ?_
  refine x_get hc hG 0 rfl iX4 4 lX4_35 rfl dX4_shift_1 ?_
  refine lv_iload_n hx hb dX4_shift_4 rfl (lv_at hl 1 rfl) ?_
  obtain ⟨v5, e5, h⟩ := bd1_some h
  refine x_vi (rest := []) (ws' := (wX4 cI ad finding asked upper lower r_items r_sizes t_items t_sizes d_items d_sizes st_size st_need st_lifted st_licked st_morning st_tally st_kinds st_places st_lengths st_downs st_covers sl_size sl_need sl_lifted sl_licked sl_morning sl_tally sl_kinds sl_places sl_lengths sl_downs sl_covers as_size as_need as_lifted as_licked as_morning as_tally as_kinds as_places as_lengths as_downs as_covers text place count least inAll inSome scratch findings)) hc hG (cc_X3_has (fun k => ad (16 + k)) sl_size sl_need sl_lifted sl_licked sl_morning sl_tally sl_kinds sl_places sl_lengths sl_downs sl_covers x1 v5 e5) [16, 17, 18, 19, 20, 21] [0, 1, 2, 3, 4, 5, 6, 7, 8, 9, 10, 11, 12, 13, 14, 15, 22, 23, 24, 25, 26, 27, 28, 29, 30, 31] [0, 1, 2, 3, 4, 5, 6, 7, 8, 9, 10, 11, 12, 13, 14, 15, 26, 27, 28, 29, 30, 31, 16, 17, 18, 19, 20, 21, 22, 23, 24, 25] rfl rfl rfl 16 rfl rfl lX4_122 ⟨rfl, rfl, by decide, by decide⟩ rfl hl.1 (Nat.le_of_ble_eq_true rfl) rfl dX4_shift_5 (fun H locs hG => ?_)
  refine lv_if_eq (tgt := 20) hx hb dX4_shift_8 (by decide) (fun c8 => ?_) (fun c8 => ?_)
  · rw [if_pos c8] at h
    refine lv_iconst (v := (-1)) hx hb dX4_shift_20 (by decide) ?_
    cases h
    exact hret _ _ _ _ hG dX4_shift_21 rfl
  · rw [if_neg c8] at h
    refine lv_iload_n hx hb dX4_shift_11 rfl (lv_at hl 2 rfl) ?_
    refine lv_bipush (v := 16) hx hb dX4_shift_12 (by decide) ?_
    obtain ⟨v14, e14, h⟩ := bd1_some h
    refine x_si0 (rest := []) hc hG (cc_X4_isIn x2 16 v14 e14) lX4_124 ⟨rfl, rfl, by decide, by decide⟩ rfl hl.1 (Nat.le_of_ble_eq_true rfl) rfl dX4_shift_14 (fun H locs hG => ?_)
    refine lv_if_ne (tgt := 22) hx hb dX4_shift_17 (by decide) (fun c17 => ?_) (fun c17 => ?_)
    · rw [if_neg c17] at h
      refine lv_aload_n hx hb dX4_shift_22 rfl (lv_at hl 0 rfl) ?_
      refine x_get hc hG 0 rfl iX4 4 lX4_35 rfl dX4_shift_23 ?_
      refine lv_iload_n hx hb dX4_shift_26 rfl (lv_at hl 1 rfl) ?_
      obtain ⟨v27, e27, h⟩ := bd1_some h
      refine x_vi (rest := []) (ws' := (wX4 cI ad finding asked upper lower r_items r_sizes t_items t_sizes d_items d_sizes st_size st_need st_lifted st_licked st_morning st_tally st_kinds st_places st_lengths st_downs st_covers sl_size sl_need sl_lifted sl_licked sl_morning sl_tally sl_kinds sl_places sl_lengths sl_downs sl_covers as_size as_need as_lifted as_licked as_morning as_tally as_kinds as_places as_lengths as_downs as_covers text place count least inAll inSome scratch findings)) hc hG (cc_X3_placeOf (fun k => ad (16 + k)) sl_size sl_need sl_lifted sl_licked sl_morning sl_tally sl_kinds sl_places sl_lengths sl_downs sl_covers x1 v27 e27) [16, 17, 18, 19, 20, 21] [0, 1, 2, 3, 4, 5, 6, 7, 8, 9, 10, 11, 12, 13, 14, 15, 22, 23, 24, 25, 26, 27, 28, 29, 30, 31] [0, 1, 2, 3, 4, 5, 6, 7, 8, 9, 10, 11, 12, 13, 14, 15, 26, 27, 28, 29, 30, 31, 16, 17, 18, 19, 20, 21, 22, 23, 24, 25] rfl rfl rfl 16 rfl rfl lX4_146 ⟨rfl, rfl, by decide, by decide⟩ rfl hl.1 (Nat.le_of_ble_eq_true rfl) rfl dX4_shift_27 (fun H locs hG => ?_)
      refine lv_istore_n (lv' := [(3, .int v27), (0, .ref (ad 0)), (1, .int x1), (2, .int x2)]) hx hb dX4_shift_30 rfl hl (by decide) rfl (fun ls hl => ?_)
      refine lv_iload_n hx hb dX4_shift_31 rfl (lv_at hl 0 rfl) ?_
      refine lv_iload_n hx hb dX4_shift_32 rfl (lv_at hl 3 rfl) ?_
      refine lv_icmp_ne (tgt := 39) hx hb dX4_shift_33 (by decide) (fun c33 => ?_) (fun c33 => ?_)
      · rw [if_neg c33] at h
        refine lv_aload_n hx hb dX4_shift_39 rfl (lv_at hl 1 rfl) ?_
        refine lv_iconst (v := 1) hx hb dX4_shift_40 (by decide) ?_
        obtain ⟨v41, e41, h⟩ := bd1_some h
        refine x_vi (rest := []) (ws' := (wX4 cI ad finding asked upper lower r_items r_sizes t_items t_sizes d_items d_sizes st_size st_need st_lifted st_licked st_morning st_tally st_kinds st_places st_lengths st_downs st_covers sl_size sl_need sl_lifted sl_licked sl_morning sl_tally sl_kinds sl_places sl_lengths sl_downs sl_covers as_size as_need as_lifted as_licked as_morning as_tally as_kinds as_places as_lengths as_downs as_covers text place count least inAll inSome scratch findings)) hc hG (cc_X4_hasRoom ad finding asked upper lower r_items r_sizes t_items t_sizes d_items d_sizes st_size st_need st_lifted st_licked st_morning st_tally st_kinds st_places st_lengths st_downs st_covers sl_size sl_need sl_lifted sl_licked sl_morning sl_tally sl_kinds sl_places sl_lengths sl_downs sl_covers as_size as_need as_lifted as_licked as_morning as_tally as_kinds as_places as_lengths as_downs as_covers text place count least inAll inSome scratch findings 1 v41 e41) [0, 1, 2, 3, 4, 5, 6, 7, 8, 9, 10, 11, 12, 13, 14, 15, 16, 17, 18, 19, 20, 21, 22, 23, 24, 25, 26, 27, 28, 29, 30, 31] [] [0, 1, 2, 3, 4, 5, 6, 7, 8, 9, 10, 11, 12, 13, 14, 15, 16, 17, 18, 19, 20, 21, 22, 23, 24, 25, 26, 27, 28, 29, 30, 31] rfl rfl rfl 0 rfl rfl lX4_136 ⟨rfl, rfl, by decide, by decide⟩ rfl hl.1 (Nat.le_of_ble_eq_true rfl) rfl dX4_shift_41 (fun H locs hG => ?_)
        refine lv_if_ne (tgt := 50) hx hb dX4_shift_44 (by decide) (fun c44 => ?_) (fun c44 => ?_)
        · rw [if_neg c44] at h
          refine lv_aload_n hx hb dX4_shift_50 rfl (lv_at hl 1 rfl) ?_
          refine lv_iconst (v := 1) hx hb dX4_shift_51 (by decide) ?_
          refine lv_iload_n hx hb dX4_shift_52 rfl (lv_at hl 2 rfl) ?_
          refine lv_iload_n hx hb dX4_shift_53 rfl (lv_at hl 3 rfl) ?_
          obtain ⟨d_items_54, d_sizes_54, sl_lifted_54, sl_licked_54, sl_morning_54, sl_tally_54, sl_places_54, sl_downs_54, sl_covers_54, e54, h⟩ := bd9_some h
          refine x_vv (rest := []) (ws' := (wX4 cI ad finding asked upper lower r_items r_sizes t_items t_sizes d_items_54 d_sizes_54 st_size st_need st_lifted st_licked st_morning st_tally st_kinds st_places st_lengths st_downs st_covers sl_size sl_need sl_lifted_54 sl_licked_54 sl_morning_54 sl_tally_54 sl_kinds sl_places_54 sl_lengths sl_downs_54 sl_covers_54 as_size as_need as_lifted as_licked as_morning as_tally as_kinds as_places as_lengths as_downs as_covers text place count least inAll inSome scratch findings)) hc hG (cc_X4_act ad finding asked upper lower r_items r_sizes t_items t_sizes d_items d_sizes st_size st_need st_lifted st_licked st_morning st_tally st_kinds st_places st_lengths st_downs st_covers sl_size sl_need sl_lifted sl_licked sl_morning sl_tally sl_kinds sl_places sl_lengths sl_downs sl_covers as_size as_need as_lifted as_licked as_morning as_tally as_kinds as_places as_lengths as_downs as_covers text place count least inAll inSome scratch findings 1 x1 x2 d_items_54 d_sizes_54 sl_lifted_54 sl_licked_54 sl_morning_54 sl_tally_54 sl_places_54 sl_downs_54 sl_covers_54 e54) [0, 1, 2, 3, 4, 5, 6, 7, 8, 9, 10, 11, 12, 13, 14, 15, 16, 17, 18, 19, 20, 21, 22, 23, 24, 25, 26, 27, 28, 29, 30, 31] [] [0, 1, 2, 3, 4, 5, 6, 7, 8, 9, 10, 11, 12, 13, 14, 15, 16, 17, 18, 19, 20, 21, 22, 23, 24, 25, 26, 27, 28, 29, 30, 31] rfl rfl rfl 0 rfl rfl lX4_139 ⟨rfl, rfl, by decide, by decide⟩ rfl hl.1 (Nat.le_of_ble_eq_true rfl) rfl dX4_shift_54 (fun H locs hG => ?_)
          refine lv_iload_n hx hb dX4_shift_57 rfl (lv_at hl 0 rfl) ?_
          cases h
          exact hret _ _ _ _ hG dX4_shift_58 rfl
        · rw [if_pos c44] at h
          refine lv_bipush (v := (-2)) hx hb dX4_shift_47 (by decide) ?_
          cases h
          exact hret _ _ _ _ hG dX4_shift_49 rfl
      · rw [if_pos c33] at h
        refine lv_bipush (v := (-4)) hx hb dX4_shift_36 (by decide) ?_
        cases h
        exact hret _ _ _ _ hG dX4_shift_38 rfl
    · rw [if_pos c17] at h
      refine lv_iconst (v := (-1)) hx hb dX4_shift_20 (by decide) ?_
      cases h
      exact hret _ _ _ _ hG dX4_shift_21 rfl
