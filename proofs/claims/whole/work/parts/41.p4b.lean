set_option maxRecDepth 100000 in
set_option maxHeartbeats 4000000 in
theorem cc_X4_turn {l : Launch} {D : va_G} {cI : ClassId} {tL : Nat} (ad : Nat → Nat) (finding : Int32) (asked : Int32) (upper : Int64) (lower : Int64) (r_items : Nat → Int32) (r_sizes : Nat → Int32) (t_items : Nat → Int32) (t_sizes : Nat → Int32) (d_items : Nat → Int32) (d_sizes : Nat → Int32) (st_size : Int32) (st_need : Int32) (st_lifted : Int32) (st_licked : Int32) (st_morning : Int32) (st_tally : Int32) (st_kinds : Nat → Int32) (st_places : Nat → Int32) (st_lengths : Nat → Int32) (st_downs : Nat → Int32) (st_covers : Nat → Int32) (sl_size : Int32) (sl_need : Int32) (sl_lifted : Int32) (sl_licked : Int32) (sl_morning : Int32) (sl_tally : Int32) (sl_kinds : Nat → Int32) (sl_places : Nat → Int32) (sl_lengths : Nat → Int32) (sl_downs : Nat → Int32) (sl_covers : Nat → Int32) (as_size : Int32) (as_need : Int32) (as_lifted : Int32) (as_licked : Int32) (as_morning : Int32) (as_tally : Int32) (as_kinds : Nat → Int32) (as_places : Nat → Int32) (as_lengths : Nat → Int32) (as_downs : Nat → Int32) (as_covers : Nat → Int32) (text : Int32) (place : Int32) (count : Int32) (least : Int32) (inAll : Int32) (inSome : Int32) (scratch : Nat → Int32) (findings : Nat → Int32) (x1 : Int32) (r' : Int32) (d_items' : Nat → Int32) (d_sizes' : Nat → Int32) (sl_lifted' : Int32) (sl_licked' : Int32) (sl_morning' : Int32) (sl_tally' : Int32) (sl_places' : Nat → Int32) (sl_downs' : Nat → Int32) (sl_covers' : Nat → Int32) (h : fX4_turn d_items d_sizes sl_size sl_need sl_lifted sl_licked sl_morning sl_tally sl_kinds sl_places sl_lengths sl_downs sl_covers x1 = some (r', d_items', d_sizes', sl_lifted', sl_licked', sl_morning', sl_tally', sl_places', sl_downs', sl_covers')) : Ci l D cI tL yX4_turn cX4_turn 2 .int rmX4_turn (wX4 cI ad finding asked upper lower r_items r_sizes t_items t_sizes d_items d_sizes st_size st_need st_lifted st_licked st_morning st_tally st_kinds st_places st_lengths st_downs st_covers sl_size sl_need sl_lifted sl_licked sl_morning sl_tally sl_kinds sl_places sl_lengths sl_downs sl_covers as_size as_need as_lifted as_licked as_morning as_tally as_kinds as_places as_lengths as_downs as_covers text place count least inAll inSome scratch findings) [.ref (ad 0), .int x1] r' (wX4 cI ad finding asked upper lower r_items r_sizes t_items t_sizes d_items' d_sizes' st_size st_need st_lifted st_licked st_morning st_tally st_kinds st_places st_lengths st_downs st_covers sl_size sl_need sl_lifted' sl_licked' sl_morning' sl_tally' sl_kinds sl_places' sl_lengths sl_downs' sl_covers' as_size as_need as_lifted as_licked as_morning as_tally as_kinds as_places as_lengths as_downs as_covers text place count least inAll inSome scratch findings) := by
  refine Ci_of (own := RX4) (by decide) (Nat.le_of_ble_eq_true rfl) rfl ?_
  intro p e s m below meth c Q A AV hc hret ls hl hG
  obtain ⟨hx, hb, hml, hown, hts, hK, hA, hz⟩ := id hc
  have hl : lv_has ls 2 [(0, .ref (ad 0)), (1, .int x1)] := hl
  unfold fX4_turn at h
  refine lv_aload_n hx hb dX4_turn_0 rfl (lv_at hl 0 rfl) ?_
  refine x_get hc hG 0 rfl iX4 4 lX4_35 rfl dX4_turn_1 ?_
  refine lv_iload_n hx hb dX4_turn_4 rfl (lv_at hl 1 rfl) ?_
  obtain ⟨v5, e5, h⟩ := bd1_some h
  refine x_vi (rest := []) (ws' := (wX4 cI ad finding asked upper lower r_items r_sizes t_items t_sizes d_items d_sizes st_size st_need st_lifted st_licked st_morning st_tally st_kinds st_places st_lengths st_downs st_covers sl_size sl_need sl_lifted sl_licked sl_morning sl_tally sl_kinds sl_places sl_lengths sl_downs sl_covers as_size as_need as_lifted as_licked as_morning as_tally as_kinds as_places as_lengths as_downs as_covers text place count least inAll inSome scratch findings)) hc hG (cc_X3_has (fun k => ad (16 + k)) sl_size sl_need sl_lifted sl_licked sl_morning sl_tally sl_kinds sl_places sl_lengths sl_downs sl_covers x1 v5 e5) [16, 17, 18, 19, 20, 21] [0, 1, 2, 3, 4, 5, 6, 7, 8, 9, 10, 11, 12, 13, 14, 15, 22, 23, 24, 25, 26, 27, 28, 29, 30, 31] [0, 1, 2, 3, 4, 5, 6, 7, 8, 9, 10, 11, 12, 13, 14, 15, 26, 27, 28, 29, 30, 31, 16, 17, 18, 19, 20, 21, 22, 23, 24, 25] rfl rfl rfl 16 rfl rfl lX4_122 ⟨rfl, rfl, by decide, by decide⟩ rfl hl.1 (Nat.le_of_ble_eq_true rfl) rfl dX4_turn_5 (fun H locs hG => ?_)
  refine lv_if_ne (tgt := 13) hx hb dX4_turn_8 (by decide) (fun c8 => ?_) (fun c8 => ?_)
  · rw [if_neg c8] at h
    refine lv_aload_n hx hb dX4_turn_13 rfl (lv_at hl 0 rfl) ?_
    refine lv_iconst (v := 1) hx hb dX4_turn_14 (by decide) ?_
    obtain ⟨v15, e15, h⟩ := bd1_some h
    refine x_vi (rest := []) (ws' := (wX4 cI ad finding asked upper lower r_items r_sizes t_items t_sizes d_items d_sizes st_size st_need st_lifted st_licked st_morning st_tally st_kinds st_places st_lengths st_downs st_covers sl_size sl_need sl_lifted sl_licked sl_morning sl_tally sl_kinds sl_places sl_lengths sl_downs sl_covers as_size as_need as_lifted as_licked as_morning as_tally as_kinds as_places as_lengths as_downs as_covers text place count least inAll inSome scratch findings)) hc hG (cc_X4_hasRoom ad finding asked upper lower r_items r_sizes t_items t_sizes d_items d_sizes st_size st_need st_lifted st_licked st_morning st_tally st_kinds st_places st_lengths st_downs st_covers sl_size sl_need sl_lifted sl_licked sl_morning sl_tally sl_kinds sl_places sl_lengths sl_downs sl_covers as_size as_need as_lifted as_licked as_morning as_tally as_kinds as_places as_lengths as_downs as_covers text place count least inAll inSome scratch findings 1 v15 e15) [0, 1, 2, 3, 4, 5, 6, 7, 8, 9, 10, 11, 12, 13, 14, 15, 16, 17, 18, 19, 20, 21, 22, 23, 24, 25, 26, 27, 28, 29, 30, 31] [] [0, 1, 2, 3, 4, 5, 6, 7, 8, 9, 10, 11, 12, 13, 14, 15, 16, 17, 18, 19, 20, 21, 22, 23, 24, 25, 26, 27, 28, 29, 30, 31] rfl rfl rfl 0 rfl rfl lX4_136 ⟨rfl, rfl, by decide, by decide⟩ rfl hl.1 (Nat.le_of_ble_eq_true rfl) rfl dX4_turn_15 (fun H locs hG => ?_)
    refine lv_if_ne (tgt := 24) hx hb dX4_turn_18 (by decide) (fun c18 => ?_) (fun c18 => ?_)
    · rw [if_neg c18] at h
      refine lv_aload_n hx hb dX4_turn_24 rfl (lv_at hl 0 rfl) ?_
      refine lv_iconst (v := 2) hx hb dX4_turn_25 (by decide) ?_
      refine lv_iload_n hx hb dX4_turn_26 rfl (lv_at hl 1 rfl) ?_
      refine lv_iconst (v := 0) hx hb dX4_turn_27 (by decide) ?_
      obtain ⟨d_items_28, d_sizes_28, sl_lifted_28, sl_licked_28, sl_morning_28, sl_tally_28, sl_places_28, sl_downs_28, sl_covers_28, e28, h⟩ := bd9_some h
      refine x_vv (rest := []) (ws' := (wX4 cI ad finding asked upper lower r_items r_sizes t_items t_sizes d_items_28 d_sizes_28 st_size st_need st_lifted st_licked st_morning st_tally st_kinds st_places st_lengths st_downs st_covers sl_size sl_need sl_lifted_28 sl_licked_28 sl_morning_28 sl_tally_28 sl_kinds sl_places_28 sl_lengths sl_downs_28 sl_covers_28 as_size as_need as_lifted as_licked as_morning as_tally as_kinds as_places as_lengths as_downs as_covers text place count least inAll inSome scratch findings)) hc hG (cc_X4_act ad finding asked upper lower r_items r_sizes t_items t_sizes d_items d_sizes st_size st_need st_lifted st_licked st_morning st_tally st_kinds st_places st_lengths st_downs st_covers sl_size sl_need sl_lifted sl_licked sl_morning sl_tally sl_kinds sl_places sl_lengths sl_downs sl_covers as_size as_need as_lifted as_licked as_morning as_tally as_kinds as_places as_lengths as_downs as_covers text place count least inAll inSome scratch findings 2 x1 0 d_items_28 d_sizes_28 sl_lifted_28 sl_licked_28 sl_morning_28 sl_tally_28 sl_places_28 sl_downs_28 sl_covers_28 e28) [0, 1, 2, 3, 4, 5, 6, 7, 8, 9, 10, 11, 12, 13, 14, 15, 16, 17, 18, 19, 20, 21, 22, 23, 24, 25, 26, 27, 28, 29, 30, 31] [] [0, 1, 2, 3, 4, 5, 6, 7, 8, 9, 10, 11, 12, 13, 14, 15, 16, 17, 18, 19, 20, 21, 22, 23, 24, 25, 26, 27, 28, 29, 30, 31] rfl rfl rfl 0 rfl rfl lX4_139 ⟨rfl, rfl, by decide, by decide⟩ rfl hl.1 (Nat.le_of_ble_eq_true rfl) rfl dX4_turn_28 (fun H locs hG => ?_)
      refine lv_aload_n hx hb dX4_turn_31 rfl (lv_at hl 0 rfl) ?_
      refine x_get hc hG 0 rfl iX4 4 lX4_35 rfl dX4_turn_32 ?_
      refine lv_iload_n hx hb dX4_turn_35 rfl (lv_at hl 1 rfl) ?_
      obtain ⟨v36, e36, h⟩ := bd1_some h
      refine x_vi (rest := []) (ws' := (wX4 cI ad finding asked upper lower r_items r_sizes t_items t_sizes d_items_28 d_sizes_28 st_size st_need st_lifted st_licked st_morning st_tally st_kinds st_places st_lengths st_downs st_covers sl_size sl_need sl_lifted_28 sl_licked_28 sl_morning_28 sl_tally_28 sl_kinds sl_places_28 sl_lengths sl_downs_28 sl_covers_28 as_size as_need as_lifted as_licked as_morning as_tally as_kinds as_places as_lengths as_downs as_covers text place count least inAll inSome scratch findings)) hc hG (cc_X3_downOf (fun k => ad (16 + k)) sl_size sl_need sl_lifted_28 sl_licked_28 sl_morning_28 sl_tally_28 sl_kinds sl_places_28 sl_lengths sl_downs_28 sl_covers_28 x1 v36 e36) [16, 17, 18, 19, 20, 21] [0, 1, 2, 3, 4, 5, 6, 7, 8, 9, 10, 11, 12, 13, 14, 15, 22, 23, 24, 25, 26, 27, 28, 29, 30, 31] [0, 1, 2, 3, 4, 5, 6, 7, 8, 9, 10, 11, 12, 13, 14, 15, 26, 27, 28, 29, 30, 31, 16, 17, 18, 19, 20, 21, 22, 23, 24, 25] rfl rfl rfl 16 rfl rfl lX4_149 ⟨rfl, rfl, by decide, by decide⟩ rfl hl.1 (Nat.le_of_ble_eq_true rfl) rfl dX4_turn_36 (fun H locs hG => ?_)
      cases h
      exact hret _ _ _ _ hG dX4_turn_39 rfl
    · rw [if_pos c18] at h
      refine lv_bipush (v := (-2)) hx hb dX4_turn_21 (by decide) ?_
      cases h
      exact hret _ _ _ _ hG dX4_turn_23 rfl
  · rw [if_pos c8] at h
    refine lv_iconst (v := (-1)) hx hb dX4_turn_11 (by decide) ?_
    cases h
    exact hret _ _ _ _ hG dX4_turn_12 rfl
set_option maxRecDepth 100000 in
set_option maxHeartbeats 4000000 in
theorem cc_X4_lift {l : Launch} {D : va_G} {cI : ClassId} {tL : Nat} (ad : Nat → Nat) (finding : Int32) (asked : Int32) (upper : Int64) (lower : Int64) (r_items : Nat → Int32) (r_sizes : Nat → Int32) (t_items : Nat → Int32) (t_sizes : Nat → Int32) (d_items : Nat → Int32) (d_sizes : Nat → Int32) (st_size : Int32) (st_need : Int32) (st_lifted : Int32) (st_licked : Int32) (st_morning : Int32) (st_tally : Int32) (st_kinds : Nat → Int32) (st_places : Nat → Int32) (st_lengths : Nat → Int32) (st_downs : Nat → Int32) (st_covers : Nat → Int32) (sl_size : Int32) (sl_need : Int32) (sl_lifted : Int32) (sl_licked : Int32) (sl_morning : Int32) (sl_tally : Int32) (sl_kinds : Nat → Int32) (sl_places : Nat → Int32) (sl_lengths : Nat → Int32) (sl_downs : Nat → Int32) (sl_covers : Nat → Int32) (as_size : Int32) (as_need : Int32) (as_lifted : Int32) (as_licked : Int32) (as_morning : Int32) (as_tally : Int32) (as_kinds : Nat → Int32) (as_places : Nat → Int32) (as_lengths : Nat → Int32) (as_downs : Nat → Int32) (as_covers : Nat → Int32) (text : Int32) (place : Int32) (count : Int32) (least : Int32) (inAll : Int32) (inSome : Int32) (scratch : Nat → Int32) (findings : Nat → Int32) (x1 : Int32) (r' : Int32) (d_items' : Nat → Int32) (d_sizes' : Nat → Int32) (sl_lifted' : Int32) (sl_licked' : Int32) (sl_morning' : Int32) (sl_tally' : Int32) (sl_places' : Nat → Int32) (sl_downs' : Nat → Int32) (sl_covers' : Nat → Int32) (h : fX4_lift d_items d_sizes sl_size sl_need sl_lifted sl_licked sl_morning sl_tally sl_kinds sl_places sl_lengths sl_downs sl_covers x1 = some (r', d_items', d_sizes', sl_lifted', sl_licked', sl_morning', sl_tally', sl_places', sl_downs', sl_covers')) : Ci l D cI tL yX4_lift cX4_lift 2 .int rmX4_lift (wX4 cI ad finding asked upper lower r_items r_sizes t_items t_sizes d_items d_sizes st_size st_need st_lifted st_licked st_morning st_tally st_kinds st_places st_lengths st_downs st_covers sl_size sl_need sl_lifted sl_licked sl_morning sl_tally sl_kinds sl_places sl_lengths sl_downs sl_covers as_size as_need as_lifted as_licked as_morning as_tally as_kinds as_places as_lengths as_downs as_covers text place count least inAll inSome scratch findings) [.ref (ad 0), .int x1] r' (wX4 cI ad finding asked upper lower r_items r_sizes t_items t_sizes d_items' d_sizes' st_size st_need st_lifted st_licked st_morning st_tally st_kinds st_places st_lengths st_downs st_covers sl_size sl_need sl_lifted' sl_licked' sl_morning' sl_tally' sl_kinds sl_places' sl_lengths sl_downs' sl_covers' as_size as_need as_lifted as_licked as_morning as_tally as_kinds as_places as_lengths as_downs as_covers text place count least inAll inSome scratch findings) := by
  refine Ci_of (own := RX4) (by decide) (Nat.le_of_ble_eq_true rfl) rfl ?_
  intro p e s m below meth c Q A AV hc hret ls hl hG
  obtain ⟨hx, hb, hml, hown, hts, hK, hA, hz⟩ := id hc
  have hl : lv_has ls 2 [(0, .ref (ad 0)), (1, .int x1)] := hl
  unfold fX4_lift at h
  refine lv_aload_n hx hb dX4_lift_0 rfl (lv_at hl 0 rfl) ?_
  refine x_get hc hG 0 rfl iX4 4 lX4_35 rfl dX4_lift_1 ?_
  refine lv_iload_n hx hb dX4_lift_4 rfl (lv_at hl 1 rfl) ?_
  obtain ⟨v5, e5, h⟩ := bd1_some h
  refine x_vi (rest := []) (ws' := (wX4 cI ad finding asked upper lower r_items r_sizes t_items t_sizes d_items d_sizes st_size st_need st_lifted st_licked st_morning st_tally st_kinds st_places st_lengths st_downs st_covers sl_size sl_need sl_lifted sl_licked sl_morning sl_tally sl_kinds sl_places sl_lengths sl_downs sl_covers as_size as_need as_lifted as_licked as_morning as_tally as_kinds as_places as_lengths as_downs as_covers text place count least inAll inSome scratch findings)) hc hG (cc_X3_has (fun k => ad (16 + k)) sl_size sl_need sl_lifted sl_licked sl_morning sl_tally sl_kinds sl_places sl_lengths sl_downs sl_covers x1 v5 e5) [16, 17, 18, 19, 20, 21] [0, 1, 2, 3, 4, 5, 6, 7, 8, 9, 10, 11, 12, 13, 14, 15, 22, 23, 24, 25, 26, 27, 28, 29, 30, 31] [0, 1, 2, 3, 4, 5, 6, 7, 8, 9, 10, 11, 12, 13, 14, 15, 26, 27, 28, 29, 30, 31, 16, 17, 18, 19, 20, 21, 22, 23, 24, 25] rfl rfl rfl 16 rfl rfl lX4_122 ⟨rfl, rfl, by decide, by decide⟩ rfl hl.1 (Nat.le_of_ble_eq_true rfl) rfl dX4_lift_5 (fun H locs hG => ?_)
  refine lv_if_ne (tgt := 13) hx hb dX4_lift_8 (by decide) (fun c8 => ?_) (fun c8 => ?_)
  · rw [if_neg c8] at h
    refine lv_aload_n hx hb dX4_lift_13 rfl (lv_at hl 0 rfl) ?_
    refine lv_iconst (v := 1) hx hb dX4_lift_14 (by decide) ?_
    obtain ⟨v15, e15, h⟩ := bd1_some h
    refine x_vi (rest := []) (ws' := (wX4 cI ad finding asked upper lower r_items r_sizes t_items t_sizes d_items d_sizes st_size st_need st_lifted st_licked st_morning st_tally st_kinds st_places st_lengths st_downs st_covers sl_size sl_need sl_lifted sl_licked sl_morning sl_tally sl_kinds sl_places sl_lengths sl_downs sl_covers as_size as_need as_lifted as_licked as_morning as_tally as_kinds as_places as_lengths as_downs as_covers text place count least inAll inSome scratch findings)) hc hG (cc_X4_hasRoom ad finding asked upper lower r_items r_sizes t_items t_sizes d_items d_sizes st_size st_need st_lifted st_licked st_morning st_tally st_kinds st_places st_lengths st_downs st_covers sl_size sl_need sl_lifted sl_licked sl_morning sl_tally sl_kinds sl_places sl_lengths sl_downs sl_covers as_size as_need as_lifted as_licked as_morning as_tally as_kinds as_places as_lengths as_downs as_covers text place count least inAll inSome scratch findings 1 v15 e15) [0, 1, 2, 3, 4, 5, 6, 7, 8, 9, 10, 11, 12, 13, 14, 15, 16, 17, 18, 19, 20, 21, 22, 23, 24, 25, 26, 27, 28, 29, 30, 31] [] [0, 1, 2, 3, 4, 5, 6, 7, 8, 9, 10, 11, 12, 13, 14, 15, 16, 17, 18, 19, 20, 21, 22, 23, 24, 25, 26, 27, 28, 29, 30, 31] rfl rfl rfl 0 rfl rfl lX4_136 ⟨rfl, rfl, by decide, by decide⟩ rfl hl.1 (Nat.le_of_ble_eq_true rfl) rfl dX4_lift_15 (fun H locs hG => ?_)
    refine lv_if_ne (tgt := 24) hx hb dX4_lift_18 (by decide) (fun c18 => ?_) (fun c18 => ?_)
    · rw [if_neg c18] at h
      refine lv_aload_n hx hb dX4_lift_24 rfl (lv_at hl 0 rfl) ?_
      refine lv_iconst (v := 3) hx hb dX4_lift_25 (by decide) ?_
      refine lv_iload_n hx hb dX4_lift_26 rfl (lv_at hl 1 rfl) ?_
      refine lv_iconst (v := 0) hx hb dX4_lift_27 (by decide) ?_
      obtain ⟨d_items_28, d_sizes_28, sl_lifted_28, sl_licked_28, sl_morning_28, sl_tally_28, sl_places_28, sl_downs_28, sl_covers_28, e28, h⟩ := bd9_some h
      refine x_vv (rest := []) (ws' := (wX4 cI ad finding asked upper lower r_items r_sizes t_items t_sizes d_items_28 d_sizes_28 st_size st_need st_lifted st_licked st_morning st_tally st_kinds st_places st_lengths st_downs st_covers sl_size sl_need sl_lifted_28 sl_licked_28 sl_morning_28 sl_tally_28 sl_kinds sl_places_28 sl_lengths sl_downs_28 sl_covers_28 as_size as_need as_lifted as_licked as_morning as_tally as_kinds as_places as_lengths as_downs as_covers text place count least inAll inSome scratch findings)) hc hG (cc_X4_act ad finding asked upper lower r_items r_sizes t_items t_sizes d_items d_sizes st_size st_need st_lifted st_licked st_morning st_tally st_kinds st_places st_lengths st_downs st_covers sl_size sl_need sl_lifted sl_licked sl_morning sl_tally sl_kinds sl_places sl_lengths sl_downs sl_covers as_size as_need as_lifted as_licked as_morning as_tally as_kinds as_places as_lengths as_downs as_covers text place count least inAll inSome scratch findings 3 x1 0 d_items_28 d_sizes_28 sl_lifted_28 sl_licked_28 sl_morning_28 sl_tally_28 sl_places_28 sl_downs_28 sl_covers_28 e28) [0, 1, 2, 3, 4, 5, 6, 7, 8, 9, 10, 11, 12, 13, 14, 15, 16, 17, 18, 19, 20, 21, 22, 23, 24, 25, 26, 27, 28, 29, 30, 31] [] [0, 1, 2, 3, 4, 5, 6, 7, 8, 9, 10, 11, 12, 13, 14, 15, 16, 17, 18, 19, 20, 21, 22, 23, 24, 25, 26, 27, 28, 29, 30, 31] rfl rfl rfl 0 rfl rfl lX4_139 ⟨rfl, rfl, by decide, by decide⟩ rfl hl.1 (Nat.le_of_ble_eq_true rfl) rfl dX4_lift_28 (fun H locs hG => ?_)
      refine lv_aload_n hx hb dX4_lift_31 rfl (lv_at hl 0 rfl) ?_
      refine x_get hc hG 0 rfl iX4 4 lX4_35 rfl dX4_lift_32 ?_
      refine x_getN hc hG 16 rfl iX3 7 lX4_152 rfl dX4_lift_35 ?_
      refine lv_iload_n hx hb dX4_lift_38 rfl (lv_at hl 1 rfl) ?_
      obtain ⟨v39, e39, h⟩ := bd1_some h
      refine x_si0 (rest := []) hc hG (cc_X4_bit sl_lifted_28 x1 v39 e39) lX4_155 ⟨rfl, rfl, by decide, by decide⟩ rfl hl.1 (Nat.le_of_ble_eq_true rfl) rfl dX4_lift_39 (fun H locs hG => ?_)
      cases h
      exact hret _ _ _ _ hG dX4_lift_42 rfl
    · rw [if_pos c18] at h
      refine lv_bipush (v := (-2)) hx hb dX4_lift_21 (by decide) ?_
      cases h
      exact hret _ _ _ _ hG dX4_lift_23 rfl
  · rw [if_pos c8] at h
    refine lv_iconst (v := (-1)) hx hb dX4_lift_11 (by decide) ?_
    cases h
    exact hret _ _ _ _ hG dX4_lift_12 rfl
set_option maxRecDepth 100000 in
set_option maxHeartbeats 4000000 in
theorem cc_X4_lick {l : Launch} {D : va_G} {cI : ClassId} {tL : Nat} (ad : Nat → Nat) (finding : Int32) (asked : Int32) (upper : Int64) (lower : Int64) (r_items : Nat → Int32) (r_sizes : Nat → Int32) (t_items : Nat → Int32) (t_sizes : Nat → Int32) (d_items : Nat → Int32) (d_sizes : Nat → Int32) (st_size : Int32) (st_need : Int32) (st_lifted : Int32) (st_licked : Int32) (st_morning : Int32) (st_tally : Int32) (st_kinds : Nat → Int32) (st_places : Nat → Int32) (st_lengths : Nat → Int32) (st_downs : Nat → Int32) (st_covers : Nat → Int32) (sl_size : Int32) (sl_need : Int32) (sl_lifted : Int32) (sl_licked : Int32) (sl_morning : Int32) (sl_tally : Int32) (sl_kinds : Nat → Int32) (sl_places : Nat → Int32) (sl_lengths : Nat → Int32) (sl_downs : Nat → Int32) (sl_covers : Nat → Int32) (as_size : Int32) (as_need : Int32) (as_lifted : Int32) (as_licked : Int32) (as_morning : Int32) (as_tally : Int32) (as_kinds : Nat → Int32) (as_places : Nat → Int32) (as_lengths : Nat → Int32) (as_downs : Nat → Int32) (as_covers : Nat → Int32) (text : Int32) (place : Int32) (count : Int32) (least : Int32) (inAll : Int32) (inSome : Int32) (scratch : Nat → Int32) (findings : Nat → Int32) (x1 : Int32) (r' : Int32) (d_items' : Nat → Int32) (d_sizes' : Nat → Int32) (sl_lifted' : Int32) (sl_licked' : Int32) (sl_morning' : Int32) (sl_tally' : Int32) (sl_places' : Nat → Int32) (sl_downs' : Nat → Int32) (sl_covers' : Nat → Int32) (h : fX4_lick d_items d_sizes sl_size sl_need sl_lifted sl_licked sl_morning sl_tally sl_kinds sl_places sl_lengths sl_downs sl_covers x1 = some (r', d_items', d_sizes', sl_lifted', sl_licked', sl_morning', sl_tally', sl_places', sl_downs', sl_covers')) : Ci l D cI tL yX4_lick cX4_lick 2 .int rmX4_lick (wX4 cI ad finding asked upper lower r_items r_sizes t_items t_sizes d_items d_sizes st_size st_need st_lifted st_licked st_morning st_tally st_kinds st_places st_lengths st_downs st_covers sl_size sl_need sl_lifted sl_licked sl_morning sl_tally sl_kinds sl_places sl_lengths sl_downs sl_covers as_size as_need as_lifted as_licked as_morning as_tally as_kinds as_places as_lengths as_downs as_covers text place count least inAll inSome scratch findings) [.ref (ad 0), .int x1] r' (wX4 cI ad finding asked upper lower r_items r_sizes t_items t_sizes d_items' d_sizes' st_size st_need st_lifted st_licked st_morning st_tally st_kinds st_places st_lengths st_downs st_covers sl_size sl_need sl_lifted' sl_licked' sl_morning' sl_tally' sl_kinds sl_places' sl_lengths sl_downs' sl_covers' as_size as_need as_lifted as_licked as_morning as_tally as_kinds as_places as_lengths as_downs as_covers text place count least inAll inSome scratch findings) := by
  refine Ci_of (own := RX4) (by decide) (Nat.le_of_ble_eq_true rfl) rfl ?_
  intro p e s m below meth c Q A AV hc hret ls hl hG
  obtain ⟨hx, hb, hml, hown, hts, hK, hA, hz⟩ := id hc
  have hl : lv_has ls 2 [(0, .ref (ad 0)), (1, .int x1)] := hl
  unfold fX4_lick at h
  refine lv_iload_n hx hb dX4_lick_0 rfl (lv_at hl 1 rfl) ?_
  refine lv_bipush (v := 16) hx hb dX4_lick_1 (by decide) ?_
  obtain ⟨v3, e3, h⟩ := bd1_some h
  refine x_si0 (rest := []) hc hG (cc_X4_isIn x1 16 v3 e3) lX4_124 ⟨rfl, rfl, by decide, by decide⟩ rfl hl.1 (Nat.le_of_ble_eq_true rfl) rfl dX4_lick_3 (fun H locs hG => ?_)
  refine lv_if_ne (tgt := 11) hx hb dX4_lick_6 (by decide) (fun c6 => ?_) (fun c6 => ?_)
  · rw [if_neg c6] at h
    refine lv_aload_n hx hb dX4_lick_11 rfl (lv_at hl 0 rfl) ?_
    refine x_get hc hG 0 rfl iX4 4 lX4_35 rfl dX4_lick_12 ?_
    refine x_getN hc hG 16 rfl iX3 5 lX4_118 rfl dX4_lick_15 ?_
    refine lv_if_eq (tgt := 32) hx hb dX4_lick_18 (by decide) (fun c18 => ?_) (fun c18 => ?_)
    · rw [if_pos c18] at h
      refine lv_bipush (v := (-4)) hx hb dX4_lick_32 (by decide) ?_
      cases h
      exact hret _ _ _ _ hG dX4_lick_34 rfl
    · rw [if_neg c18] at h
      refine lv_aload_n hx hb dX4_lick_21 rfl (lv_at hl 0 rfl) ?_
      refine x_get hc hG 0 rfl iX4 4 lX4_35 rfl dX4_lick_22 ?_
      refine lv_iload_n hx hb dX4_lick_25 rfl (lv_at hl 1 rfl) ?_
      obtain ⟨v26, e26, h⟩ := bd1_some h
      refine x_vi (rest := []) (ws' := (wX4 cI ad finding asked upper lower r_items r_sizes t_items t_sizes d_items d_sizes st_size st_need st_lifted st_licked st_morning st_tally st_kinds st_places st_lengths st_downs st_covers sl_size sl_need sl_lifted sl_licked sl_morning sl_tally sl_kinds sl_places sl_lengths sl_downs sl_covers as_size as_need as_lifted as_licked as_morning as_tally as_kinds as_places as_lengths as_downs as_covers text place count least inAll inSome scratch findings)) hc hG (cc_X3_canLick (fun k => ad (16 + k)) sl_size sl_need sl_lifted sl_licked sl_morning sl_tally sl_kinds sl_places sl_lengths sl_downs sl_covers x1 v26 e26) [16, 17, 18, 19, 20, 21] [0, 1, 2, 3, 4, 5, 6, 7, 8, 9, 10, 11, 12, 13, 14, 15, 22, 23, 24, 25, 26, 27, 28, 29, 30, 31] [0, 1, 2, 3, 4, 5, 6, 7, 8, 9, 10, 11, 12, 13, 14, 15, 26, 27, 28, 29, 30, 31, 16, 17, 18, 19, 20, 21, 22, 23, 24, 25] rfl rfl rfl 16 rfl rfl lX4_158 ⟨rfl, rfl, by decide, by decide⟩ rfl hl.1 (Nat.le_of_ble_eq_true rfl) rfl dX4_lick_26 (fun H locs hG => ?_)
      refine lv_if_ne (tgt := 35) hx hb dX4_lick_29 (by decide) (fun c29 => ?_) (fun c29 => ?_)
      · rw [if_neg c29] at h
        refine lv_aload_n hx hb dX4_lick_35 rfl (lv_at hl 0 rfl) ?_
        refine lv_iconst (v := 1) hx hb dX4_lick_36 (by decide) ?_
        obtain ⟨v37, e37, h⟩ := bd1_some h
        refine x_vi (rest := []) (ws' := (wX4 cI ad finding asked upper lower r_items r_sizes t_items t_sizes d_items d_sizes st_size st_need st_lifted st_licked st_morning st_tally st_kinds st_places st_lengths st_downs st_covers sl_size sl_need sl_lifted sl_licked sl_morning sl_tally sl_kinds sl_places sl_lengths sl_downs sl_covers as_size as_need as_lifted as_licked as_morning as_tally as_kinds as_places as_lengths as_downs as_covers text place count least inAll inSome scratch findings)) hc hG (cc_X4_hasRoom ad finding asked upper lower r_items r_sizes t_items t_sizes d_items d_sizes st_size st_need st_lifted st_licked st_morning st_tally st_kinds st_places st_lengths st_downs st_covers sl_size sl_need sl_lifted sl_licked sl_morning sl_tally sl_kinds sl_places sl_lengths sl_downs sl_covers as_size as_need as_lifted as_licked as_morning as_tally as_kinds as_places as_lengths as_downs as_covers text place count least inAll inSome scratch findings 1 v37 e37) [0, 1, 2, 3, 4, 5, 6, 7, 8, 9, 10, 11, 12, 13, 14, 15, 16, 17, 18, 19, 20, 21, 22, 23, 24, 25, 26, 27, 28, 29, 30, 31] [] [0, 1, 2, 3, 4, 5, 6, 7, 8, 9, 10, 11, 12, 13, 14, 15, 16, 17, 18, 19, 20, 21, 22, 23, 24, 25, 26, 27, 28, 29, 30, 31] rfl rfl rfl 0 rfl rfl lX4_136 ⟨rfl, rfl, by decide, by decide⟩ rfl hl.1 (Nat.le_of_ble_eq_true rfl) rfl dX4_lick_37 (fun H locs hG => ?_)
        refine lv_if_ne (tgt := 46) hx hb dX4_lick_40 (by decide) (fun c40 => ?_) (fun c40 => ?_)
        · rw [if_neg c40] at h
          refine lv_aload_n hx hb dX4_lick_46 rfl (lv_at hl 0 rfl) ?_
          refine lv_iconst (v := 4) hx hb dX4_lick_47 (by decide) ?_
          refine lv_iconst (v := 0) hx hb dX4_lick_48 (by decide) ?_
          refine lv_iload_n hx hb dX4_lick_49 rfl (lv_at hl 1 rfl) ?_
          obtain ⟨d_items_50, d_sizes_50, sl_lifted_50, sl_licked_50, sl_morning_50, sl_tally_50, sl_places_50, sl_downs_50, sl_covers_50, e50, h⟩ := bd9_some h
          refine x_vv (rest := []) (ws' := (wX4 cI ad finding asked upper lower r_items r_sizes t_items t_sizes d_items_50 d_sizes_50 st_size st_need st_lifted st_licked st_morning st_tally st_kinds st_places st_lengths st_downs st_covers sl_size sl_need sl_lifted_50 sl_licked_50 sl_morning_50 sl_tally_50 sl_kinds sl_places_50 sl_lengths sl_downs_50 sl_covers_50 as_size as_need as_lifted as_licked as_morning as_tally as_kinds as_places as_lengths as_downs as_covers text place count least inAll inSome scratch findings)) hc hG (cc_X4_act ad finding asked upper lower r_items r_sizes t_items t_sizes d_items d_sizes st_size st_need st_lifted st_licked st_morning st_tally st_kinds st_places st_lengths st_downs st_covers sl_size sl_need sl_lifted sl_licked sl_morning sl_tally sl_kinds sl_places sl_lengths sl_downs sl_covers as_size as_need as_lifted as_licked as_morning as_tally as_kinds as_places as_lengths as_downs as_covers text place count least inAll inSome scratch findings 4 0 x1 d_items_50 d_sizes_50 sl_lifted_50 sl_licked_50 sl_morning_50 sl_tally_50 sl_places_50 sl_downs_50 sl_covers_50 e50) [0, 1, 2, 3, 4, 5, 6, 7, 8, 9, 10, 11, 12, 13, 14, 15, 16, 17, 18, 19, 20, 21, 22, 23, 24, 25, 26, 27, 28, 29, 30, 31] [] [0, 1, 2, 3, 4, 5, 6, 7, 8, 9, 10, 11, 12, 13, 14, 15, 16, 17, 18, 19, 20, 21, 22, 23, 24, 25, 26, 27, 28, 29, 30, 31] rfl rfl rfl 0 rfl rfl lX4_139 ⟨rfl, rfl, by decide, by decide⟩ rfl hl.1 (Nat.le_of_ble_eq_true rfl) rfl dX4_lick_50 (fun H locs hG => ?_)
          refine lv_aload_n hx hb dX4_lick_53 rfl (lv_at hl 0 rfl) ?_
          refine x_get hc hG 0 rfl iX4 4 lX4_35 rfl dX4_lick_54 ?_
          refine x_getN hc hG 16 rfl iX3 8 lX4_161 rfl dX4_lick_57 ?_
          refine lv_iload_n hx hb dX4_lick_60 rfl (lv_at hl 1 rfl) ?_
          obtain ⟨v61, e61, h⟩ := bd1_some h
          refine x_si0 (rest := []) hc hG (cc_X4_bit sl_licked_50 x1 v61 e61) lX4_155 ⟨rfl, rfl, by decide, by decide⟩ rfl hl.1 (Nat.le_of_ble_eq_true rfl) rfl dX4_lick_61 (fun H locs hG => ?_)
          cases h
          exact hret _ _ _ _ hG dX4_lick_64 rfl
        · rw [if_pos c40] at h
          refine lv_bipush (v := (-2)) hx hb dX4_lick_43 (by decide) ?_
          cases h
          exact hret _ _ _ _ hG dX4_lick_45 rfl
      · rw [if_pos c29] at h
        refine lv_bipush (v := (-4)) hx hb dX4_lick_32 (by decide) ?_
        cases h
        exact hret _ _ _ _ hG dX4_lick_34 rfl
  · rw [if_pos c6] at h
    refine lv_iconst (v := (-1)) hx hb dX4_lick_9 (by decide) ?_
    cases h
    exact hret _ _ _ _ hG dX4_lick_10 rfl
set_option maxRecDepth 100000 in
set_option maxHeartbeats 4000000 in
theorem cc_X4_doAnew {l : Launch} {D : va_G} {cI : ClassId} {tL : Nat} (ad : Nat → Nat) (finding : Int32) (asked : Int32) (upper : Int64) (lower : Int64) (r_items : Nat → Int32) (r_sizes : Nat → Int32) (t_items : Nat → Int32) (t_sizes : Nat → Int32) (d_items : Nat → Int32) (d_sizes : Nat → Int32) (st_size : Int32) (st_need : Int32) (st_lifted : Int32) (st_licked : Int32) (st_morning : Int32) (st_tally : Int32) (st_kinds : Nat → Int32) (st_places : Nat → Int32) (st_lengths : Nat → Int32) (st_downs : Nat → Int32) (st_covers : Nat → Int32) (sl_size : Int32) (sl_need : Int32) (sl_lifted : Int32) (sl_licked : Int32) (sl_morning : Int32) (sl_tally : Int32) (sl_kinds : Nat → Int32) (sl_places : Nat → Int32) (sl_lengths : Nat → Int32) (sl_downs : Nat → Int32) (sl_covers : Nat → Int32) (as_size : Int32) (as_need : Int32) (as_lifted : Int32) (as_licked : Int32) (as_morning : Int32) (as_tally : Int32) (as_kinds : Nat → Int32) (as_places : Nat → Int32) (as_lengths : Nat → Int32) (as_downs : Nat → Int32) (as_covers : Nat → Int32) (text : Int32) (place : Int32) (count : Int32) (least : Int32) (inAll : Int32) (inSome : Int32) (scratch : Nat → Int32) (findings : Nat → Int32) (sl_size' : Int32) (sl_need' : Int32) (sl_lifted' : Int32) (sl_licked' : Int32) (sl_morning' : Int32) (sl_tally' : Int32) (sl_kinds' : Nat → Int32) (sl_places' : Nat → Int32) (sl_lengths' : Nat → Int32) (sl_downs' : Nat → Int32) (sl_covers' : Nat → Int32) (h : fX4_doAnew d_items d_sizes st_size st_need st_lifted st_licked st_morning st_tally st_kinds st_places st_lengths st_downs st_covers sl_kinds sl_places sl_lengths sl_downs sl_covers = some (sl_size', sl_need', sl_lifted', sl_licked', sl_morning', sl_tally', sl_kinds', sl_places', sl_lengths', sl_downs', sl_covers')) : Cv l D cI tL yX4_doAnew cX4_doAnew 4 rmX4_doAnew (wX4 cI ad finding asked upper lower r_items r_sizes t_items t_sizes d_items d_sizes st_size st_need st_lifted st_licked st_morning st_tally st_kinds st_places st_lengths st_downs st_covers sl_size sl_need sl_lifted sl_licked sl_morning sl_tally sl_kinds sl_places sl_lengths sl_downs sl_covers as_size as_need as_lifted as_licked as_morning as_tally as_kinds as_places as_lengths as_downs as_covers text place count least inAll inSome scratch findings) [.ref (ad 0)] (wX4 cI ad finding asked upper lower r_items r_sizes t_items t_sizes d_items d_sizes st_size st_need st_lifted st_licked st_morning st_tally st_kinds st_places st_lengths st_downs st_covers sl_size' sl_need' sl_lifted' sl_licked' sl_morning' sl_tally' sl_kinds' sl_places' sl_lengths' sl_downs' sl_covers' as_size as_need as_lifted as_licked as_morning as_tally as_kinds as_places as_lengths as_downs as_covers text place count least inAll inSome scratch findings) := by
  refine Cv_of (own := RX4) (by decide) (Nat.le_of_ble_eq_true rfl) rfl ?_
  intro p e s m below meth c Q A AV hc hret ls hl hG
  obtain ⟨hx, hb, hml, hown, hts, hK, hA, hz⟩ := id hc
  have hl : lv_has ls 4 [(0, .ref (ad 0))] := hl
  have hL_22 : ∀ (sl_size : Int32) (sl_need : Int32) (sl_kinds : Nat → Int32) (sl_lengths : Nat → Int32) (x1 : Int32) (sl_lifted_o : Int32) (sl_licked_o : Int32) (sl_morning_o : Int32) (sl_tally_o : Int32) (sl_places_o : Nat → Int32) (sl_downs_o : Nat → Int32) (sl_covers_o : Nat → Int32), (∀ (ls : Array Slot) (H : Heap) (locs : List Loc), lv_has ls 4 [(0, .ref (ad 0))] → St D A s (wX4 cI ad finding asked upper lower r_items r_sizes t_items t_sizes d_items d_sizes st_size st_need st_lifted st_licked st_morning st_tally st_kinds st_places st_lengths st_downs st_covers sl_size sl_need sl_lifted_o sl_licked_o sl_morning_o sl_tally_o sl_kinds sl_places_o sl_lengths sl_downs_o sl_covers_o as_size as_need as_lifted as_licked as_morning as_tally as_kinds as_places as_lengths as_downs as_covers text place count least inAll inSome scratch findings) H locs → W p l e rmX4_doAnew s m AV below meth c H locs 0 0 Q (F0 m 68 ls [])) → ∀ (n : Nat) (sl_lifted : Int32) (sl_licked : Int32) (sl_morning : Int32) (sl_tally : Int32) (sl_places : Nat → Int32) (sl_downs : Nat → Int32) (sl_covers : Nat → Int32) (x2 : Int32), fX4_doAnew_L22 d_items d_sizes sl_size sl_need sl_kinds sl_lengths x1 n sl_lifted sl_licked sl_morning sl_tally sl_places sl_downs sl_covers x2 = some (sl_lifted_o, sl_licked_o, sl_morning_o, sl_tally_o, sl_places_o, sl_downs_o, sl_covers_o) → ∀ (ls : Array Slot) (H : Heap) (locs : List Loc), lv_has ls 4 [(0, .ref (ad 0)), (1, .int x1), (2, .int x2)] → St D A s (wX4 cI ad finding asked upper lower r_items r_sizes t_items t_sizes d_items d_sizes st_size st_need st_lifted st_licked st_morning st_tally st_kinds st_places st_lengths st_downs st_covers sl_size sl_need sl_lifted sl_licked sl_morning sl_tally sl_kinds sl_places sl_lengths sl_downs sl_covers as_size as_need as_lifted as_licked as_morning as_tally as_kinds as_places as_lengths as_downs as_covers text place count least inAll inSome scratch findings) H locs → W p l e rmX4_doAnew s m AV below meth c H locs 0 0 Q (F0 m 22 ls []) := by
    intro sl_size sl_need sl_kinds sl_lengths x1 sl_lifted_o sl_licked_o sl_morning_o sl_tally_o sl_places_o sl_downs_o sl_covers_o KE n
    induction n with
    | zero =>
      intro sl_lifted sl_licked sl_morning sl_tally sl_places sl_downs sl_covers x2 h
      exact nomatch (show none = some _ from h)
    | succ n ih =>
      intro sl_lifted sl_licked sl_morning sl_tally sl_places sl_downs sl_covers x2 h ls H locs hl hG
      have h : fX4_doAnew_B22 d_items d_sizes sl_size sl_need sl_kinds sl_lengths x1 (fX4_doAnew_L22 d_items d_sizes sl_size sl_need sl_kinds sl_lengths x1 n) sl_lifted sl_licked sl_morning sl_tally sl_places sl_downs sl_covers x2 = some (sl_lifted_o, sl_licked_o, sl_morning_o, sl_tally_o, sl_places_o, sl_downs_o, sl_covers_o) := h
      unfold fX4_doAnew_B22 at h
      refine lv_iload_n hx hb dX4_doAnew_22 rfl (lv_at hl 2 rfl) ?_
      refine lv_iload_n hx hb dX4_doAnew_23 rfl (lv_at hl 1 rfl) ?_
      refine lv_icmp_ge (tgt := 68) hx hb dX4_doAnew_24 (by decide) (fun c24 => ?_) (fun c24 => ?_)
      · rw [if_pos c24] at h
        cases h
        exact KE _ _ _ (lv_sub hl [0] rfl) hG
      · rw [if_neg c24] at h
        refine lv_aload_n hx hb dX4_doAnew_27 rfl (lv_at hl 0 rfl) ?_
        refine x_get hc hG 0 rfl iX4 2 lX4_21 rfl dX4_doAnew_28 ?_
        refine lv_iconst (v := 3) hx hb dX4_doAnew_31 (by decide) ?_
        refine lv_iload_n hx hb dX4_doAnew_32 rfl (lv_at hl 2 rfl) ?_
        obtain ⟨v33, e33, h⟩ := bd1_some h
        refine x_vi (rest := []) (ws' := (wX4 cI ad finding asked upper lower r_items r_sizes t_items t_sizes d_items d_sizes st_size st_need st_lifted st_licked st_morning st_tally st_kinds st_places st_lengths st_downs st_covers sl_size sl_need sl_lifted sl_licked sl_morning sl_tally sl_kinds sl_places sl_lengths sl_downs sl_covers as_size as_need as_lifted as_licked as_morning as_tally as_kinds as_places as_lengths as_downs as_covers text place count least inAll inSome scratch findings)) hc hG (cc_X2_get (fun k => ad (7 + k)) 160 4 40 d_items d_sizes 3 x2 v33 e33) [7, 8, 9] [0, 1, 2, 3, 4, 5, 6, 10, 11, 12, 13, 14, 15, 16, 17, 18, 19, 20, 21, 22, 23, 24, 25, 26, 27, 28, 29, 30, 31] [0, 1, 2, 3, 4, 5, 6, 29, 30, 31, 7, 8, 9, 10, 11, 12, 13, 14, 15, 16, 17, 18, 19, 20, 21, 22, 23, 24, 25, 26, 27, 28] rfl rfl rfl 7 rfl rfl lX4_83 ⟨rfl, rfl, by decide, by decide⟩ rfl hl.1 (Nat.le_of_ble_eq_true rfl) rfl dX4_doAnew_33 (fun H locs hG => ?_)
        refine lv_istore_n (lv' := [(3, .int v33), (0, .ref (ad 0)), (1, .int x1), (2, .int x2)]) hx hb dX4_doAnew_36 rfl hl (by decide) rfl (fun ls hl => ?_)
        refine lv_aload_n hx hb dX4_doAnew_37 rfl (lv_at hl 1 rfl) ?_
        refine x_get hc hG 0 rfl iX4 4 lX4_35 rfl dX4_doAnew_38 ?_
        refine lv_iload_n hx hb dX4_doAnew_41 rfl (lv_at hl 0 rfl) ?_
        refine lv_bipush (v := 16) hx hb dX4_doAnew_42 (by decide) ?_
        refine lv_idiv hx hb dX4_doAnew_44 (by decide) ?_
        refine lv_bipush (v := 6) hx hb dX4_doAnew_45 (by decide) ?_
        refine lv_idiv hx hb dX4_doAnew_47 (by decide) ?_
        refine lv_iload_n hx hb dX4_doAnew_48 rfl (lv_at hl 0 rfl) ?_
        refine lv_bipush (v := 16) hx hb dX4_doAnew_49 (by decide) ?_
        refine lv_idiv hx hb dX4_doAnew_51 (by decide) ?_
        refine lv_bipush (v := 6) hx hb dX4_doAnew_52 (by decide) ?_
        refine lv_irem hx hb dX4_doAnew_54 (by decide) ?_
        refine lv_iload_n hx hb dX4_doAnew_55 rfl (lv_at hl 0 rfl) ?_
        refine lv_bipush (v := 16) hx hb dX4_doAnew_56 (by decide) ?_
        refine lv_irem hx hb dX4_doAnew_58 (by decide) ?_
        obtain ⟨sl_lifted_59, sl_licked_59, sl_morning_59, sl_tally_59, sl_places_59, sl_downs_59, sl_covers_59, e59, h⟩ := bd7_some h
        refine x_vv (rest := []) (ws' := (wX4 cI ad finding asked upper lower r_items r_sizes t_items t_sizes d_items d_sizes st_size st_need st_lifted st_licked st_morning st_tally st_kinds st_places st_lengths st_downs st_covers sl_size sl_need sl_lifted_59 sl_licked_59 sl_morning_59 sl_tally_59 sl_kinds sl_places_59 sl_lengths sl_downs_59 sl_covers_59 as_size as_need as_lifted as_licked as_morning as_tally as_kinds as_places as_lengths as_downs as_covers text place count least inAll inSome scratch findings)) hc hG (cc_X3_perform (fun k => ad (16 + k)) sl_size sl_need sl_lifted sl_licked sl_morning sl_tally sl_kinds sl_places sl_lengths sl_downs sl_covers ((v33 / 16) / 6) ((v33 / 16) - (v33 / 16) / 6 * 6) (v33 - v33 / 16 * 16) sl_lifted_59 sl_licked_59 sl_morning_59 sl_tally_59 sl_places_59 sl_downs_59 sl_covers_59 e59) [16, 17, 18, 19, 20, 21] [0, 1, 2, 3, 4, 5, 6, 7, 8, 9, 10, 11, 12, 13, 14, 15, 22, 23, 24, 25, 26, 27, 28, 29, 30, 31] [0, 1, 2, 3, 4, 5, 6, 7, 8, 9, 10, 11, 12, 13, 14, 15, 26, 27, 28, 29, 30, 31, 16, 17, 18, 19, 20, 21, 22, 23, 24, 25] rfl rfl rfl 16 rfl rfl lX4_317 ⟨rfl, rfl, by decide, by decide⟩ rfl hl.1 (Nat.le_of_ble_eq_true rfl) rfl dX4_doAnew_59 (fun H locs hG => ?_)
        refine lv_iinc (v := (x2 + 1)) (lv' := [(2, .int (x2 + 1)), (3, .int v33), (0, .ref (ad 0)), (1, .int x1)]) hx hb dX4_doAnew_62 hl (k := 3) rfl rfl (by decide) rfl (fun ls hl => ?_)
        refine lv_goto (tgt := 22) hx hb dX4_doAnew_65 (by decide) ?_
        exact ih _ _ _ _ _ _ _ _ h _ _ _ (lv_sub hl [2, 3, 0] rfl) hG
  unfold fX4_doAnew at h
  refine lv_aload_n hx hb dX4_doAnew_0 rfl (lv_at hl 0 rfl) ?_
  refine x_get hc hG 0 rfl iX4 4 lX4_35 rfl dX4_doAnew_1 ?_
  refine lv_aload_n hx hb dX4_doAnew_4 rfl (lv_at hl 0 rfl) ?_
  refine x_get hc hG 0 rfl iX4 3 lX4_31 rfl dX4_doAnew_5 ?_
  obtain ⟨sl_size_8, sl_need_8, sl_lifted_8, sl_licked_8, sl_morning_8, sl_tally_8, sl_kinds_8, sl_places_8, sl_lengths_8, sl_downs_8, sl_covers_8, e8, h⟩ := bd11_some h
  refine x_vv (rest := []) (ws' := (wX4 cI ad finding asked upper lower r_items r_sizes t_items t_sizes d_items d_sizes st_size st_need st_lifted st_licked st_morning st_tally st_kinds st_places st_lengths st_downs st_covers sl_size_8 sl_need_8 sl_lifted_8 sl_licked_8 sl_morning_8 sl_tally_8 sl_kinds_8 sl_places_8 sl_lengths_8 sl_downs_8 sl_covers_8 as_size as_need as_lifted as_licked as_morning as_tally as_kinds as_places as_lengths as_downs as_covers text place count least inAll inSome scratch findings)) hc hG (cc_X3_take (fun k => match k with | 0 => ad 16 | 1 => ad 17 | 2 => ad 18 | 3 => ad 19 | 4 => ad 20 | 5 => ad 21 | 6 => ad 10 | 7 => ad 11 | 8 => ad 12 | 9 => ad 13 | 10 => ad 14 | _ => ad 15) sl_size sl_need sl_lifted sl_licked sl_morning sl_tally sl_kinds sl_places sl_lengths sl_downs sl_covers st_size st_need st_lifted st_licked st_morning st_tally st_kinds st_places st_lengths st_downs st_covers sl_size_8 sl_need_8 sl_lifted_8 sl_licked_8 sl_morning_8 sl_tally_8 sl_kinds_8 sl_places_8 sl_lengths_8 sl_downs_8 sl_covers_8 e8) [16, 17, 18, 19, 20, 21, 10, 11, 12, 13, 14, 15] [0, 1, 2, 3, 4, 5, 6, 7, 8, 9, 22, 23, 24, 25, 26, 27, 28, 29, 30, 31] [0, 1, 2, 3, 4, 5, 6, 7, 8, 9, 26, 27, 28, 29, 30, 31, 20, 21, 22, 23, 24, 25, 10, 11, 12, 13, 14, 15, 16, 17, 18, 19] rfl rfl rfl 16 rfl rfl lX4_114 ⟨rfl, rfl, by decide, by decide⟩ rfl hl.1 (Nat.le_of_ble_eq_true rfl) rfl dX4_doAnew_8 (fun H locs hG => ?_)
  refine lv_aload_n hx hb dX4_doAnew_11 rfl (lv_at hl 0 rfl) ?_
  refine x_get hc hG 0 rfl iX4 2 lX4_21 rfl dX4_doAnew_12 ?_
  refine lv_iconst (v := 3) hx hb dX4_doAnew_15 (by decide) ?_
  obtain ⟨v16, e16, h⟩ := bd1_some h
  refine x_vi (rest := []) (ws' := (wX4 cI ad finding asked upper lower r_items r_sizes t_items t_sizes d_items d_sizes st_size st_need st_lifted st_licked st_morning st_tally st_kinds st_places st_lengths st_downs st_covers sl_size_8 sl_need_8 sl_lifted_8 sl_licked_8 sl_morning_8 sl_tally_8 sl_kinds_8 sl_places_8 sl_lengths_8 sl_downs_8 sl_covers_8 as_size as_need as_lifted as_licked as_morning as_tally as_kinds as_places as_lengths as_downs as_covers text place count least inAll inSome scratch findings)) hc hG (cc_X2_sizeOf (fun k => ad (7 + k)) 160 4 40 d_items d_sizes 3 v16 e16) [7, 8, 9] [0, 1, 2, 3, 4, 5, 6, 10, 11, 12, 13, 14, 15, 16, 17, 18, 19, 20, 21, 22, 23, 24, 25, 26, 27, 28, 29, 30, 31] [0, 1, 2, 3, 4, 5, 6, 29, 30, 31, 7, 8, 9, 10, 11, 12, 13, 14, 15, 16, 17, 18, 19, 20, 21, 22, 23, 24, 25, 26, 27, 28] rfl rfl rfl 7 rfl rfl lX4_105 ⟨rfl, rfl, by decide, by decide⟩ rfl hl.1 (Nat.le_of_ble_eq_true rfl) rfl dX4_doAnew_16 (fun H locs hG => ?_)
  refine lv_istore_n (lv' := [(1, .int v16), (0, .ref (ad 0))]) hx hb dX4_doAnew_19 rfl hl (by decide) rfl (fun ls hl => ?_)
  refine lv_iconst (v := 0) hx hb dX4_doAnew_20 (by decide) ?_
  refine lv_istore_n (lv' := [(2, .int 0), (1, .int v16), (0, .ref (ad 0))]) hx hb dX4_doAnew_21 rfl hl (by decide) rfl (fun ls hl => ?_)
  obtain ⟨sl_lifted_L22, sl_licked_L22, sl_morning_L22, sl_tally_L22, sl_places_L22, sl_downs_L22, sl_covers_L22, e22, h⟩ := bd7_some h
  refine hL_22 _ _ _ _ _ _ _ _ _ _ _ _ (fun ls H locs hl hG => ?_) _ _ _ _ _ _ _ _ _ e22 _ _ _ (lv_sub hl [2, 1, 0] rfl) hG
  cases h
  exact hret _ _ _ _ hG dX4_doAnew_68
set_option maxRecDepth 100000 in
set_option maxHeartbeats 4000000 in
theorem cc_X4_undo {l : Launch} {D : va_G} {cI : ClassId} {tL : Nat} (ad : Nat → Nat) (finding : Int32) (asked : Int32) (upper : Int64) (lower : Int64) (r_items : Nat → Int32) (r_sizes : Nat → Int32) (t_items : Nat → Int32) (t_sizes : Nat → Int32) (d_items : Nat → Int32) (d_sizes : Nat → Int32) (st_size : Int32) (st_need : Int32) (st_lifted : Int32) (st_licked : Int32) (st_morning : Int32) (st_tally : Int32) (st_kinds : Nat → Int32) (st_places : Nat → Int32) (st_lengths : Nat → Int32) (st_downs : Nat → Int32) (st_covers : Nat → Int32) (sl_size : Int32) (sl_need : Int32) (sl_lifted : Int32) (sl_licked : Int32) (sl_morning : Int32) (sl_tally : Int32) (sl_kinds : Nat → Int32) (sl_places : Nat → Int32) (sl_lengths : Nat → Int32) (sl_downs : Nat → Int32) (sl_covers : Nat → Int32) (as_size : Int32) (as_need : Int32) (as_lifted : Int32) (as_licked : Int32) (as_morning : Int32) (as_tally : Int32) (as_kinds : Nat → Int32) (as_places : Nat → Int32) (as_lengths : Nat → Int32) (as_downs : Nat → Int32) (as_covers : Nat → Int32) (text : Int32) (place : Int32) (count : Int32) (least : Int32) (inAll : Int32) (inSome : Int32) (scratch : Nat → Int32) (findings : Nat → Int32) (x1 : Int32) (r' : Int32) (d_sizes' : Nat → Int32) (sl_size' : Int32) (sl_need' : Int32) (sl_lifted' : Int32) (sl_licked' : Int32) (sl_morning' : Int32) (sl_tally' : Int32) (sl_kinds' : Nat → Int32) (sl_places' : Nat → Int32) (sl_lengths' : Nat → Int32) (sl_downs' : Nat → Int32) (sl_covers' : Nat → Int32) (h : fX4_undo d_items d_sizes st_size st_need st_lifted st_licked st_morning st_tally st_kinds st_places st_lengths st_downs st_covers sl_size sl_need sl_lifted sl_licked sl_morning sl_tally sl_kinds sl_places sl_lengths sl_downs sl_covers x1 = some (r', d_sizes', sl_size', sl_need', sl_lifted', sl_licked', sl_morning', sl_tally', sl_kinds', sl_places', sl_lengths', sl_downs', sl_covers')) : Ci l D cI tL yX4_undo cX4_undo 3 .int rmX4_undo (wX4 cI ad finding asked upper lower r_items r_sizes t_items t_sizes d_items d_sizes st_size st_need st_lifted st_licked st_morning st_tally st_kinds st_places st_lengths st_downs st_covers sl_size sl_need sl_lifted sl_licked sl_morning sl_tally sl_kinds sl_places sl_lengths sl_downs sl_covers as_size as_need as_lifted as_licked as_morning as_tally as_kinds as_places as_lengths as_downs as_covers text place count least inAll inSome scratch findings) [.ref (ad 0), .int x1] r' (wX4 cI ad finding asked upper lower r_items r_sizes t_items t_sizes d_items d_sizes' st_size st_need st_lifted st_licked st_morning st_tally st_kinds st_places st_lengths st_downs st_covers sl_size' sl_need' sl_lifted' sl_licked' sl_morning' sl_tally' sl_kinds' sl_places' sl_lengths' sl_downs' sl_covers' as_size as_need as_lifted as_licked as_morning as_tally as_kinds as_places as_lengths as_downs as_covers text place count least inAll inSome scratch findings) := by
  refine Ci_of (own := RX4) (by decide) (Nat.le_of_ble_eq_true rfl) rfl ?_
  intro p e s m below meth c Q A AV hc hret ls hl hG
  obtain ⟨hx, hb, hml, hown, hts, hK, hA, hz⟩ := id hc
  have hl : lv_has ls 3 [(0, .ref (ad 0)), (1, .int x1)] := hl
  unfold fX4_undo at h
  refine lv_aload_n hx hb dX4_undo_0 rfl (lv_at hl 0 rfl) ?_
  refine x_get hc hG 0 rfl iX4 2 lX4_21 rfl dX4_undo_1 ?_
  refine lv_iconst (v := 3) hx hb dX4_undo_4 (by decide) ?_
  obtain ⟨v5, e5, h⟩ := bd1_some h
  refine x_vi (rest := []) (ws' := (wX4 cI ad finding asked upper lower r_items r_sizes t_items t_sizes d_items d_sizes st_size st_need st_lifted st_licked st_morning st_tally st_kinds st_places st_lengths st_downs st_covers sl_size sl_need sl_lifted sl_licked sl_morning sl_tally sl_kinds sl_places sl_lengths sl_downs sl_covers as_size as_need as_lifted as_licked as_morning as_tally as_kinds as_places as_lengths as_downs as_covers text place count least inAll inSome scratch findings)) hc hG (cc_X2_sizeOf (fun k => ad (7 + k)) 160 4 40 d_items d_sizes 3 v5 e5) [7, 8, 9] [0, 1, 2, 3, 4, 5, 6, 10, 11, 12, 13, 14, 15, 16, 17, 18, 19, 20, 21, 22, 23, 24, 25, 26, 27, 28, 29, 30, 31] [0, 1, 2, 3, 4, 5, 6, 29, 30, 31, 7, 8, 9, 10, 11, 12, 13, 14, 15, 16, 17, 18, 19, 20, 21, 22, 23, 24, 25, 26, 27, 28] rfl rfl rfl 7 rfl rfl lX4_105 ⟨rfl, rfl, by decide, by decide⟩ rfl hl.1 (Nat.le_of_ble_eq_true rfl) rfl dX4_undo_5 (fun H locs hG => ?_)
  refine lv_iload_n hx hb dX4_undo_8 rfl (lv_at hl 1 rfl) ?_
  refine lv_isub hx hb dX4_undo_9 ?_
  refine lv_istore_n (lv' := [(2, .int (v5 - x1)), (0, .ref (ad 0)), (1, .int x1)]) hx hb dX4_undo_10 rfl hl (by decide) rfl (fun ls hl => ?_)
  refine lv_iload_n hx hb dX4_undo_11 rfl (lv_at hl 2 rfl) ?_
  refine lv_if_lt (tgt := 19) hx hb dX4_undo_12 (by decide) (fun c12 => ?_) (fun c12 => ?_)
  · rw [if_pos c12] at h
    refine lv_iconst (v := (-1)) hx hb dX4_undo_19 (by decide) ?_
    cases h
    exact hret _ _ _ _ hG dX4_undo_20 rfl
  · rw [if_neg c12] at h
    refine lv_iload_n hx hb dX4_undo_15 rfl (lv_at hl 0 rfl) ?_
    refine lv_if_ge (tgt := 21) hx hb dX4_undo_16 (by decide) (fun c16 => ?_) (fun c16 => ?_)
    · rw [if_pos c16] at h
      refine lv_aload_n hx hb dX4_undo_21 rfl (lv_at hl 1 rfl) ?_
      refine x_get hc hG 0 rfl iX4 2 lX4_21 rfl dX4_undo_22 ?_
      refine lv_iconst (v := 3) hx hb dX4_undo_25 (by decide) ?_
      refine lv_iload_n hx hb dX4_undo_26 rfl (lv_at hl 2 rfl) ?_
      obtain ⟨d_sizes_27, e27, h⟩ := bd1_some h
      refine x_vv (rest := []) (ws' := (wX4 cI ad finding asked upper lower r_items r_sizes t_items t_sizes d_items d_sizes_27 st_size st_need st_lifted st_licked st_morning st_tally st_kinds st_places st_lengths st_downs st_covers sl_size sl_need sl_lifted sl_licked sl_morning sl_tally sl_kinds sl_places sl_lengths sl_downs sl_covers as_size as_need as_lifted as_licked as_morning as_tally as_kinds as_places as_lengths as_downs as_covers text place count least inAll inSome scratch findings)) hc hG (cc_X2_cut (fun k => ad (7 + k)) 160 4 40 d_items d_sizes 3 x1 d_sizes_27 e27) [7, 8, 9] [0, 1, 2, 3, 4, 5, 6, 10, 11, 12, 13, 14, 15, 16, 17, 18, 19, 20, 21, 22, 23, 24, 25, 26, 27, 28, 29, 30, 31] [0, 1, 2, 3, 4, 5, 6, 29, 30, 31, 7, 8, 9, 10, 11, 12, 13, 14, 15, 16, 17, 18, 19, 20, 21, 22, 23, 24, 25, 26, 27, 28] rfl rfl rfl 7 rfl rfl lX4_164 ⟨rfl, rfl, by decide, by decide⟩ rfl hl.1 (Nat.le_of_ble_eq_true rfl) rfl dX4_undo_27 (fun H locs hG => ?_)
      refine lv_aload_n hx hb dX4_undo_30 rfl (lv_at hl 1 rfl) ?_
      obtain ⟨sl_size_31, sl_need_31, sl_lifted_31, sl_licked_31, sl_morning_31, sl_tally_31, sl_kinds_31, sl_places_31, sl_lengths_31, sl_downs_31, sl_covers_31, e31, h⟩ := bd11_some h
      refine x_vv (rest := []) (ws' := (wX4 cI ad finding asked upper lower r_items r_sizes t_items t_sizes d_items d_sizes_27 st_size st_need st_lifted st_licked st_morning st_tally st_kinds st_places st_lengths st_downs st_covers sl_size_31 sl_need_31 sl_lifted_31 sl_licked_31 sl_morning_31 sl_tally_31 sl_kinds_31 sl_places_31 sl_lengths_31 sl_downs_31 sl_covers_31 as_size as_need as_lifted as_licked as_morning as_tally as_kinds as_places as_lengths as_downs as_covers text place count least inAll inSome scratch findings)) hc hG (cc_X4_doAnew ad finding asked upper lower r_items r_sizes t_items t_sizes d_items d_sizes_27 st_size st_need st_lifted st_licked st_morning st_tally st_kinds st_places st_lengths st_downs st_covers sl_size sl_need sl_lifted sl_licked sl_morning sl_tally sl_kinds sl_places sl_lengths sl_downs sl_covers as_size as_need as_lifted as_licked as_morning as_tally as_kinds as_places as_lengths as_downs as_covers text place count least inAll inSome scratch findings sl_size_31 sl_need_31 sl_lifted_31 sl_licked_31 sl_morning_31 sl_tally_31 sl_kinds_31 sl_places_31 sl_lengths_31 sl_downs_31 sl_covers_31 e31) [0, 1, 2, 3, 4, 5, 6, 7, 8, 9, 10, 11, 12, 13, 14, 15, 16, 17, 18, 19, 20, 21, 22, 23, 24, 25, 26, 27, 28, 29, 30, 31] [] [0, 1, 2, 3, 4, 5, 6, 7, 8, 9, 10, 11, 12, 13, 14, 15, 16, 17, 18, 19, 20, 21, 22, 23, 24, 25, 26, 27, 28, 29, 30, 31] rfl rfl rfl 0 rfl rfl lX4_168 ⟨rfl, rfl, by decide, by decide⟩ rfl hl.1 (Nat.le_of_ble_eq_true rfl) rfl dX4_undo_31 (fun H locs hG => ?_)
      refine lv_iload_n hx hb dX4_undo_34 rfl (lv_at hl 0 rfl) ?_
      cases h
      exact hret _ _ _ _ hG dX4_undo_35 rfl
    · rw [if_neg c16] at h
      refine lv_iconst (v := (-1)) hx hb dX4_undo_19 (by decide) ?_
      cases h
      exact hret _ _ _ _ hG dX4_undo_20 rfl
set_option maxRecDepth 100000 in
set_option maxHeartbeats 4000000 in
theorem cc_X4_keep {l : Launch} {D : va_G} {cI : ClassId} {tL : Nat} (ad : Nat → Nat) (finding : Int32) (asked : Int32) (upper : Int64) (lower : Int64) (r_items : Nat → Int32) (r_sizes : Nat → Int32) (t_items : Nat → Int32) (t_sizes : Nat → Int32) (d_items : Nat → Int32) (d_sizes : Nat → Int32) (st_size : Int32) (st_need : Int32) (st_lifted : Int32) (st_licked : Int32) (st_morning : Int32) (st_tally : Int32) (st_kinds : Nat → Int32) (st_places : Nat → Int32) (st_lengths : Nat → Int32) (st_downs : Nat → Int32) (st_covers : Nat → Int32) (sl_size : Int32) (sl_need : Int32) (sl_lifted : Int32) (sl_licked : Int32) (sl_morning : Int32) (sl_tally : Int32) (sl_kinds : Nat → Int32) (sl_places : Nat → Int32) (sl_lengths : Nat → Int32) (sl_downs : Nat → Int32) (sl_covers : Nat → Int32) (as_size : Int32) (as_need : Int32) (as_lifted : Int32) (as_licked : Int32) (as_morning : Int32) (as_tally : Int32) (as_kinds : Nat → Int32) (as_places : Nat → Int32) (as_lengths : Nat → Int32) (as_downs : Nat → Int32) (as_covers : Nat → Int32) (text : Int32) (place : Int32) (count : Int32) (least : Int32) (inAll : Int32) (inSome : Int32) (scratch : Nat → Int32) (findings : Nat → Int32) (x1 : Int32) (r' : Int32) (d_items' : Nat → Int32) (d_sizes' : Nat → Int32) (h : fX4_keep d_items d_sizes sl_size x1 = some (r', d_items', d_sizes')) : Ci l D cI tL yX4_keep cX4_keep 2 .int rmX4_keep (wX4 cI ad finding asked upper lower r_items r_sizes t_items t_sizes d_items d_sizes st_size st_need st_lifted st_licked st_morning st_tally st_kinds st_places st_lengths st_downs st_covers sl_size sl_need sl_lifted sl_licked sl_morning sl_tally sl_kinds sl_places sl_lengths sl_downs sl_covers as_size as_need as_lifted as_licked as_morning as_tally as_kinds as_places as_lengths as_downs as_covers text place count least inAll inSome scratch findings) [.ref (ad 0), .int x1] r' (wX4 cI ad finding asked upper lower r_items r_sizes t_items t_sizes d_items' d_sizes' st_size st_need st_lifted st_licked st_morning st_tally st_kinds st_places st_lengths st_downs st_covers sl_size sl_need sl_lifted sl_licked sl_morning sl_tally sl_kinds sl_places sl_lengths sl_downs sl_covers as_size as_need as_lifted as_licked as_morning as_tally as_kinds as_places as_lengths as_downs as_covers text place count least inAll inSome scratch findings) := by
  refine Ci_of (own := RX4) (by decide) (Nat.le_of_ble_eq_true rfl) rfl ?_
  intro p e s m below meth c Q A AV hc hret ls hl hG
  obtain ⟨hx, hb, hml, hown, hts, hK, hA, hz⟩ := id hc
  have hl : lv_has ls 2 [(0, .ref (ad 0)), (1, .int x1)] := hl
  unfold fX4_keep at h
  refine lv_iload_n hx hb dX4_keep_0 rfl (lv_at hl 1 rfl) ?_
  refine lv_iconst (v := 3) hx hb dX4_keep_1 (by decide) ?_
  obtain ⟨v2, e2, h⟩ := bd1_some h
  refine x_si0 (rest := []) hc hG (cc_X4_isIn x1 3 v2 e2) lX4_124 ⟨rfl, rfl, by decide, by decide⟩ rfl hl.1 (Nat.le_of_ble_eq_true rfl) rfl dX4_keep_2 (fun H locs hG => ?_)
  refine lv_if_ne (tgt := 10) hx hb dX4_keep_5 (by decide) (fun c5 => ?_) (fun c5 => ?_)
  · rw [if_neg c5] at h
    refine lv_aload_n hx hb dX4_keep_10 rfl (lv_at hl 0 rfl) ?_
    refine x_get hc hG 0 rfl iX4 4 lX4_35 rfl dX4_keep_11 ?_
    refine x_getN hc hG 16 rfl iX3 5 lX4_118 rfl dX4_keep_14 ?_
    refine lv_if_ne (tgt := 23) hx hb dX4_keep_17 (by decide) (fun c17 => ?_) (fun c17 => ?_)
    · rw [if_neg c17] at h
      refine lv_aload_n hx hb dX4_keep_23 rfl (lv_at hl 0 rfl) ?_
      refine x_get hc hG 0 rfl iX4 2 lX4_21 rfl dX4_keep_24 ?_
      refine lv_iconst (v := 3) hx hb dX4_keep_27 (by decide) ?_
      refine lv_iload_n hx hb dX4_keep_28 rfl (lv_at hl 1 rfl) ?_
      obtain ⟨d_items_29, d_sizes_29, e29, h⟩ := bd2_some h
      refine x_vv (rest := []) (ws' := (wX4 cI ad finding asked upper lower r_items r_sizes t_items t_sizes d_items_29 d_sizes_29 st_size st_need st_lifted st_licked st_morning st_tally st_kinds st_places st_lengths st_downs st_covers sl_size sl_need sl_lifted sl_licked sl_morning sl_tally sl_kinds sl_places sl_lengths sl_downs sl_covers as_size as_need as_lifted as_licked as_morning as_tally as_kinds as_places as_lengths as_downs as_covers text place count least inAll inSome scratch findings)) hc hG (cc_X2_copyRow (fun k => ad (7 + k)) 160 4 40 d_items d_sizes 3 x1 d_items_29 d_sizes_29 e29) [7, 8, 9] [0, 1, 2, 3, 4, 5, 6, 10, 11, 12, 13, 14, 15, 16, 17, 18, 19, 20, 21, 22, 23, 24, 25, 26, 27, 28, 29, 30, 31] [0, 1, 2, 3, 4, 5, 6, 29, 30, 31, 7, 8, 9, 10, 11, 12, 13, 14, 15, 16, 17, 18, 19, 20, 21, 22, 23, 24, 25, 26, 27, 28] rfl rfl rfl 7 rfl rfl lX4_171 ⟨rfl, rfl, by decide, by decide⟩ rfl hl.1 (Nat.le_of_ble_eq_true rfl) rfl dX4_keep_29 (fun H locs hG => ?_)
      refine lv_aload_n hx hb dX4_keep_32 rfl (lv_at hl 0 rfl) ?_
      refine x_get hc hG 0 rfl iX4 2 lX4_21 rfl dX4_keep_33 ?_
      refine lv_iconst (v := 3) hx hb dX4_keep_36 (by decide) ?_
      obtain ⟨v37, e37, h⟩ := bd1_some h
      refine x_vi (rest := []) (ws' := (wX4 cI ad finding asked upper lower r_items r_sizes t_items t_sizes d_items_29 d_sizes_29 st_size st_need st_lifted st_licked st_morning st_tally st_kinds st_places st_lengths st_downs st_covers sl_size sl_need sl_lifted sl_licked sl_morning sl_tally sl_kinds sl_places sl_lengths sl_downs sl_covers as_size as_need as_lifted as_licked as_morning as_tally as_kinds as_places as_lengths as_downs as_covers text place count least inAll inSome scratch findings)) hc hG (cc_X2_sizeOf (fun k => ad (7 + k)) 160 4 40 d_items_29 d_sizes_29 3 v37 e37) [7, 8, 9] [0, 1, 2, 3, 4, 5, 6, 10, 11, 12, 13, 14, 15, 16, 17, 18, 19, 20, 21, 22, 23, 24, 25, 26, 27, 28, 29, 30, 31] [0, 1, 2, 3, 4, 5, 6, 29, 30, 31, 7, 8, 9, 10, 11, 12, 13, 14, 15, 16, 17, 18, 19, 20, 21, 22, 23, 24, 25, 26, 27, 28] rfl rfl rfl 7 rfl rfl lX4_105 ⟨rfl, rfl, by decide, by decide⟩ rfl hl.1 (Nat.le_of_ble_eq_true rfl) rfl dX4_keep_37 (fun H locs hG => ?_)
      cases h
      exact hret _ _ _ _ hG dX4_keep_40 rfl
    · rw [if_pos c17] at h
      refine lv_bipush (v := (-4)) hx hb dX4_keep_20 (by decide) ?_
      cases h
      exact hret _ _ _ _ hG dX4_keep_22 rfl
  · rw [if_pos c5] at h
    refine lv_iconst (v := (-1)) hx hb dX4_keep_8 (by decide) ?_
    cases h
    exact hret _ _ _ _ hG dX4_keep_9 rfl
set_option maxRecDepth 100000 in
set_option maxHeartbeats 4000000 in
theorem cc_X4_on {l : Launch} {D : va_G} {cI : ClassId} {tL : Nat} (ad : Nat → Nat) (finding : Int32) (asked : Int32) (upper : Int64) (lower : Int64) (r_items : Nat → Int32) (r_sizes : Nat → Int32) (t_items : Nat → Int32) (t_sizes : Nat → Int32) (d_items : Nat → Int32) (d_sizes : Nat → Int32) (st_size : Int32) (st_need : Int32) (st_lifted : Int32) (st_licked : Int32) (st_morning : Int32) (st_tally : Int32) (st_kinds : Nat → Int32) (st_places : Nat → Int32) (st_lengths : Nat → Int32) (st_downs : Nat → Int32) (st_covers : Nat → Int32) (sl_size : Int32) (sl_need : Int32) (sl_lifted : Int32) (sl_licked : Int32) (sl_morning : Int32) (sl_tally : Int32) (sl_kinds : Nat → Int32) (sl_places : Nat → Int32) (sl_lengths : Nat → Int32) (sl_downs : Nat → Int32) (sl_covers : Nat → Int32) (as_size : Int32) (as_need : Int32) (as_lifted : Int32) (as_licked : Int32) (as_morning : Int32) (as_tally : Int32) (as_kinds : Nat → Int32) (as_places : Nat → Int32) (as_lengths : Nat → Int32) (as_downs : Nat → Int32) (as_covers : Nat → Int32) (text : Int32) (place : Int32) (count : Int32) (least : Int32) (inAll : Int32) (inSome : Int32) (scratch : Nat → Int32) (findings : Nat → Int32) (x1 : Int32) (r' : Int32) (finding' : Int32) (d_items' : Nat → Int32) (d_sizes' : Nat → Int32) (sl_size' : Int32) (sl_need' : Int32) (sl_lifted' : Int32) (sl_licked' : Int32) (sl_morning' : Int32) (sl_tally' : Int32) (sl_kinds' : Nat → Int32) (sl_places' : Nat → Int32) (sl_lengths' : Nat → Int32) (sl_downs' : Nat → Int32) (sl_covers' : Nat → Int32) (findings' : Nat → Int32) (h : fX4_on finding d_items d_sizes st_size st_need st_lifted st_licked st_morning st_tally st_kinds st_places st_lengths st_downs st_covers sl_size sl_need sl_lifted sl_licked sl_morning sl_tally sl_kinds sl_places sl_lengths sl_downs sl_covers findings x1 = some (r', finding', d_items', d_sizes', sl_size', sl_need', sl_lifted', sl_licked', sl_morning', sl_tally', sl_kinds', sl_places', sl_lengths', sl_downs', sl_covers', findings')) : Ci l D cI tL yX4_on cX4_on 2 .int rmX4_on (wX4 cI ad finding asked upper lower r_items r_sizes t_items t_sizes d_items d_sizes st_size st_need st_lifted st_licked st_morning st_tally st_kinds st_places st_lengths st_downs st_covers sl_size sl_need sl_lifted sl_licked sl_morning sl_tally sl_kinds sl_places sl_lengths sl_downs sl_covers as_size as_need as_lifted as_licked as_morning as_tally as_kinds as_places as_lengths as_downs as_covers text place count least inAll inSome scratch findings) [.ref (ad 0), .int x1] r' (wX4 cI ad finding' asked upper lower r_items r_sizes t_items t_sizes d_items' d_sizes' st_size st_need st_lifted st_licked st_morning st_tally st_kinds st_places st_lengths st_downs st_covers sl_size' sl_need' sl_lifted' sl_licked' sl_morning' sl_tally' sl_kinds' sl_places' sl_lengths' sl_downs' sl_covers' as_size as_need as_lifted as_licked as_morning as_tally as_kinds as_places as_lengths as_downs as_covers text place count least inAll inSome scratch findings') := by
  refine Ci_of (own := RX4) (by decide) (Nat.le_of_ble_eq_true rfl) rfl ?_
  intro p e s m below meth c Q A AV hc hret ls hl hG
  obtain ⟨hx, hb, hml, hown, hts, hK, hA, hz⟩ := id hc
  have hl : lv_has ls 2 [(0, .ref (ad 0)), (1, .int x1)] := hl
  unfold fX4_on at h
  refine lv_iload_n hx hb dX4_on_0 rfl (lv_at hl 1 rfl) ?_
  refine lv_iconst (v := 3) hx hb dX4_on_1 (by decide) ?_
  obtain ⟨v2, e2, h⟩ := bd1_some h
  refine x_si0 (rest := []) hc hG (cc_X4_isIn x1 3 v2 e2) lX4_124 ⟨rfl, rfl, by decide, by decide⟩ rfl hl.1 (Nat.le_of_ble_eq_true rfl) rfl dX4_on_2 (fun H locs hG => ?_)
  refine lv_if_ne (tgt := 10) hx hb dX4_on_5 (by decide) (fun c5 => ?_) (fun c5 => ?_)
  · rw [if_neg c5] at h
    refine lv_aload_n hx hb dX4_on_10 rfl (lv_at hl 0 rfl) ?_
    refine x_get hc hG 0 rfl iX4 2 lX4_21 rfl dX4_on_11 ?_
    refine lv_iload_n hx hb dX4_on_14 rfl (lv_at hl 1 rfl) ?_
    obtain ⟨v15, e15, h⟩ := bd1_some h
    refine x_vi (rest := []) (ws' := (wX4 cI ad finding asked upper lower r_items r_sizes t_items t_sizes d_items d_sizes st_size st_need st_lifted st_licked st_morning st_tally st_kinds st_places st_lengths st_downs st_covers sl_size sl_need sl_lifted sl_licked sl_morning sl_tally sl_kinds sl_places sl_lengths sl_downs sl_covers as_size as_need as_lifted as_licked as_morning as_tally as_kinds as_places as_lengths as_downs as_covers text place count least inAll inSome scratch findings)) hc hG (cc_X2_isMissing (fun k => ad (7 + k)) 160 4 40 d_items d_sizes x1 v15 e15) [7, 8, 9] [0, 1, 2, 3, 4, 5, 6, 10, 11, 12, 13, 14, 15, 16, 17, 18, 19, 20, 21, 22, 23, 24, 25, 26, 27, 28, 29, 30, 31] [0, 1, 2, 3, 4, 5, 6, 29, 30, 31, 7, 8, 9, 10, 11, 12, 13, 14, 15, 16, 17, 18, 19, 20, 21, 22, 23, 24, 25, 26, 27, 28] rfl rfl rfl 7 rfl rfl lX4_76 ⟨rfl, rfl, by decide, by decide⟩ rfl hl.1 (Nat.le_of_ble_eq_true rfl) rfl dX4_on_15 (fun H locs hG => ?_)
    refine lv_if_eq (tgt := 27) hx hb dX4_on_18 (by decide) (fun c18 => ?_) (fun c18 => ?_)
    · rw [if_pos c18] at h
      refine lv_aload_n hx hb dX4_on_27 rfl (lv_at hl 0 rfl) ?_
      refine x_get hc hG 0 rfl iX4 2 lX4_21 rfl dX4_on_28 ?_
      refine lv_iload_n hx hb dX4_on_31 rfl (lv_at hl 1 rfl) ?_
      refine lv_iconst (v := 3) hx hb dX4_on_32 (by decide) ?_
      obtain ⟨d_items_33, d_sizes_33, e33, h⟩ := bd2_some h
      refine x_vv (rest := []) (ws' := (wX4 cI ad finding asked upper lower r_items r_sizes t_items t_sizes d_items_33 d_sizes_33 st_size st_need st_lifted st_licked st_morning st_tally st_kinds st_places st_lengths st_downs st_covers sl_size sl_need sl_lifted sl_licked sl_morning sl_tally sl_kinds sl_places sl_lengths sl_downs sl_covers as_size as_need as_lifted as_licked as_morning as_tally as_kinds as_places as_lengths as_downs as_covers text place count least inAll inSome scratch findings)) hc hG (cc_X2_copyRow (fun k => ad (7 + k)) 160 4 40 d_items d_sizes x1 3 d_items_33 d_sizes_33 e33) [7, 8, 9] [0, 1, 2, 3, 4, 5, 6, 10, 11, 12, 13, 14, 15, 16, 17, 18, 19, 20, 21, 22, 23, 24, 25, 26, 27, 28, 29, 30, 31] [0, 1, 2, 3, 4, 5, 6, 29, 30, 31, 7, 8, 9, 10, 11, 12, 13, 14, 15, 16, 17, 18, 19, 20, 21, 22, 23, 24, 25, 26, 27, 28] rfl rfl rfl 7 rfl rfl lX4_171 ⟨rfl, rfl, by decide, by decide⟩ rfl hl.1 (Nat.le_of_ble_eq_true rfl) rfl dX4_on_33 (fun H locs hG => ?_)
      refine lv_aload_n hx hb dX4_on_36 rfl (lv_at hl 0 rfl) ?_
      obtain ⟨sl_size_37, sl_need_37, sl_lifted_37, sl_licked_37, sl_morning_37, sl_tally_37, sl_kinds_37, sl_places_37, sl_lengths_37, sl_downs_37, sl_covers_37, e37, h⟩ := bd11_some h
      refine x_vv (rest := []) (ws' := (wX4 cI ad finding asked upper lower r_items r_sizes t_items t_sizes d_items_33 d_sizes_33 st_size st_need st_lifted st_licked st_morning st_tally st_kinds st_places st_lengths st_downs st_covers sl_size_37 sl_need_37 sl_lifted_37 sl_licked_37 sl_morning_37 sl_tally_37 sl_kinds_37 sl_places_37 sl_lengths_37 sl_downs_37 sl_covers_37 as_size as_need as_lifted as_licked as_morning as_tally as_kinds as_places as_lengths as_downs as_covers text place count least inAll inSome scratch findings)) hc hG (cc_X4_doAnew ad finding asked upper lower r_items r_sizes t_items t_sizes d_items_33 d_sizes_33 st_size st_need st_lifted st_licked st_morning st_tally st_kinds st_places st_lengths st_downs st_covers sl_size sl_need sl_lifted sl_licked sl_morning sl_tally sl_kinds sl_places sl_lengths sl_downs sl_covers as_size as_need as_lifted as_licked as_morning as_tally as_kinds as_places as_lengths as_downs as_covers text place count least inAll inSome scratch findings sl_size_37 sl_need_37 sl_lifted_37 sl_licked_37 sl_morning_37 sl_tally_37 sl_kinds_37 sl_places_37 sl_lengths_37 sl_downs_37 sl_covers_37 e37) [0, 1, 2, 3, 4, 5, 6, 7, 8, 9, 10, 11, 12, 13, 14, 15, 16, 17, 18, 19, 20, 21, 22, 23, 24, 25, 26, 27, 28, 29, 30, 31] [] [0, 1, 2, 3, 4, 5, 6, 7, 8, 9, 10, 11, 12, 13, 14, 15, 16, 17, 18, 19, 20, 21, 22, 23, 24, 25, 26, 27, 28, 29, 30, 31] rfl rfl rfl 0 rfl rfl lX4_168 ⟨rfl, rfl, by decide, by decide⟩ rfl hl.1 (Nat.le_of_ble_eq_true rfl) rfl dX4_on_37 (fun H locs hG => ?_)
      refine lv_aload_n hx hb dX4_on_40 rfl (lv_at hl 0 rfl) ?_
      refine x_get hc hG 0 rfl iX4 2 lX4_21 rfl dX4_on_41 ?_
      refine lv_iconst (v := 3) hx hb dX4_on_44 (by decide) ?_
      obtain ⟨v45, e45, h⟩ := bd1_some h
      refine x_vi (rest := []) (ws' := (wX4 cI ad finding asked upper lower r_items r_sizes t_items t_sizes d_items_33 d_sizes_33 st_size st_need st_lifted st_licked st_morning st_tally st_kinds st_places st_lengths st_downs st_covers sl_size_37 sl_need_37 sl_lifted_37 sl_licked_37 sl_morning_37 sl_tally_37 sl_kinds_37 sl_places_37 sl_lengths_37 sl_downs_37 sl_covers_37 as_size as_need as_lifted as_licked as_morning as_tally as_kinds as_places as_lengths as_downs as_covers text place count least inAll inSome scratch findings)) hc hG (cc_X2_sizeOf (fun k => ad (7 + k)) 160 4 40 d_items_33 d_sizes_33 3 v45 e45) [7, 8, 9] [0, 1, 2, 3, 4, 5, 6, 10, 11, 12, 13, 14, 15, 16, 17, 18, 19, 20, 21, 22, 23, 24, 25, 26, 27, 28, 29, 30, 31] [0, 1, 2, 3, 4, 5, 6, 29, 30, 31, 7, 8, 9, 10, 11, 12, 13, 14, 15, 16, 17, 18, 19, 20, 21, 22, 23, 24, 25, 26, 27, 28] rfl rfl rfl 7 rfl rfl lX4_105 ⟨rfl, rfl, by decide, by decide⟩ rfl hl.1 (Nat.le_of_ble_eq_true rfl) rfl dX4_on_45 (fun H locs hG => ?_)
      cases h
      exact hret _ _ _ _ hG dX4_on_48 rfl
    · rw [if_neg c18] at h
      refine lv_aload_n hx hb dX4_on_21 rfl (lv_at hl 0 rfl) ?_
      refine lv_iconst (v := 1) hx hb dX4_on_22 (by decide) ?_
      obtain ⟨v23, finding_23, findings_23, e23, h⟩ := bd3_some h
      refine x_vi (rest := []) (ws' := (wX4 cI ad finding_23 asked upper lower r_items r_sizes t_items t_sizes d_items d_sizes st_size st_need st_lifted st_licked st_morning st_tally st_kinds st_places st_lengths st_downs st_covers sl_size sl_need sl_lifted sl_licked sl_morning sl_tally sl_kinds sl_places sl_lengths sl_downs sl_covers as_size as_need as_lifted as_licked as_morning as_tally as_kinds as_places as_lengths as_downs as_covers text place count least inAll inSome scratch findings_23)) hc hG (cc_X4_find ad finding asked upper lower r_items r_sizes t_items t_sizes d_items d_sizes st_size st_need st_lifted st_licked st_morning st_tally st_kinds st_places st_lengths st_downs st_covers sl_size sl_need sl_lifted sl_licked sl_morning sl_tally sl_kinds sl_places sl_lengths sl_downs sl_covers as_size as_need as_lifted as_licked as_morning as_tally as_kinds as_places as_lengths as_downs as_covers text place count least inAll inSome scratch findings 1 v23 finding_23 findings_23 e23) [0, 1, 2, 3, 4, 5, 6, 7, 8, 9, 10, 11, 12, 13, 14, 15, 16, 17, 18, 19, 20, 21, 22, 23, 24, 25, 26, 27, 28, 29, 30, 31] [] [0, 1, 2, 3, 4, 5, 6, 7, 8, 9, 10, 11, 12, 13, 14, 15, 16, 17, 18, 19, 20, 21, 22, 23, 24, 25, 26, 27, 28, 29, 30, 31] rfl rfl rfl 0 rfl rfl lX4_72 ⟨rfl, rfl, by decide, by decide⟩ rfl hl.1 (Nat.le_of_ble_eq_true rfl) rfl dX4_on_23 (fun H locs hG => ?_)
      cases h
      exact hret _ _ _ _ hG dX4_on_26 rfl
  · rw [if_pos c5] at h
    refine lv_iconst (v := (-1)) hx hb dX4_on_8 (by decide) ?_
    cases h
    exact hret _ _ _ _ hG dX4_on_9 rfl
set_option maxRecDepth 100000 in
set_option maxHeartbeats 4000000 in
theorem cc_X4_covers {l : Launch} {D : va_G} {cI : ClassId} {tL : Nat} (ad : Nat → Nat) (finding : Int32) (asked : Int32) (upper : Int64) (lower : Int64) (r_items : Nat → Int32) (r_sizes : Nat → Int32) (t_items : Nat → Int32) (t_sizes : Nat → Int32) (d_items : Nat → Int32) (d_sizes : Nat → Int32) (st_size : Int32) (st_need : Int32) (st_lifted : Int32) (st_licked : Int32) (st_morning : Int32) (st_tally : Int32) (st_kinds : Nat → Int32) (st_places : Nat → Int32) (st_lengths : Nat → Int32) (st_downs : Nat → Int32) (st_covers : Nat → Int32) (sl_size : Int32) (sl_need : Int32) (sl_lifted : Int32) (sl_licked : Int32) (sl_morning : Int32) (sl_tally : Int32) (sl_kinds : Nat → Int32) (sl_places : Nat → Int32) (sl_lengths : Nat → Int32) (sl_downs : Nat → Int32) (sl_covers : Nat → Int32) (as_size : Int32) (as_need : Int32) (as_lifted : Int32) (as_licked : Int32) (as_morning : Int32) (as_tally : Int32) (as_kinds : Nat → Int32) (as_places : Nat → Int32) (as_lengths : Nat → Int32) (as_downs : Nat → Int32) (as_covers : Nat → Int32) (text : Int32) (place : Int32) (count : Int32) (least : Int32) (inAll : Int32) (inSome : Int32) (scratch : Nat → Int32) (findings : Nat → Int32) (x1 : Int32) (x2 : Int32) (x3 : Int32) (r' : Int32) (h : fX4_covers sl_size sl_kinds sl_lengths x1 x2 x3 = some r') : Ci l D cI tL yX4_covers cX4_covers 4 .int rmX4_covers (wX4 cI ad finding asked upper lower r_items r_sizes t_items t_sizes d_items d_sizes st_size st_need st_lifted st_licked st_morning st_tally st_kinds st_places st_lengths st_downs st_covers sl_size sl_need sl_lifted sl_licked sl_morning sl_tally sl_kinds sl_places sl_lengths sl_downs sl_covers as_size as_need as_lifted as_licked as_morning as_tally as_kinds as_places as_lengths as_downs as_covers text place count least inAll inSome scratch findings) [.ref (ad 0), .int x1, .int x2, .int x3] r' (wX4 cI ad finding asked upper lower r_items r_sizes t_items t_sizes d_items d_sizes st_size st_need st_lifted st_licked st_morning st_tally st_kinds st_places st_lengths st_downs st_covers sl_size sl_need sl_lifted sl_licked sl_morning sl_tally sl_kinds sl_places sl_lengths sl_downs sl_covers as_size as_need as_lifted as_licked as_morning as_tally as_kinds as_places as_lengths as_downs as_covers text place count least inAll inSome scratch findings) := by
  refine Ci_of (own := RX4) (by decide) (Nat.le_of_ble_eq_true rfl) rfl ?_
  intro p e s m below meth c Q A AV hc hret ls hl hG
  obtain ⟨hx, hb, hml, hown, hts, hK, hA, hz⟩ := id hc
  have hl : lv_has ls 4 [(0, .ref (ad 0)), (1, .int x1), (2, .int x2), (3, .int x3)] := hl
  unfold fX4_covers at h
  refine lv_aload_n hx hb dX4_covers_0 rfl (lv_at hl 0 rfl) ?_
  refine x_get hc hG 0 rfl iX4 4 lX4_35 rfl dX4_covers_1 ?_
  refine lv_iload_n hx hb dX4_covers_4 rfl (lv_at hl 1 rfl) ?_
  obtain ⟨v5, e5, h⟩ := bd1_some h
  refine x_vi (rest := []) (ws' := (wX4 cI ad finding asked upper lower r_items r_sizes t_items t_sizes d_items d_sizes st_size st_need st_lifted st_licked st_morning st_tally st_kinds st_places st_lengths st_downs st_covers sl_size sl_need sl_lifted sl_licked sl_morning sl_tally sl_kinds sl_places sl_lengths sl_downs sl_covers as_size as_need as_lifted as_licked as_morning as_tally as_kinds as_places as_lengths as_downs as_covers text place count least inAll inSome scratch findings)) hc hG (cc_X3_has (fun k => ad (16 + k)) sl_size sl_need sl_lifted sl_licked sl_morning sl_tally sl_kinds sl_places sl_lengths sl_downs sl_covers x1 v5 e5) [16, 17, 18, 19, 20, 21] [0, 1, 2, 3, 4, 5, 6, 7, 8, 9, 10, 11, 12, 13, 14, 15, 22, 23, 24, 25, 26, 27, 28, 29, 30, 31] [0, 1, 2, 3, 4, 5, 6, 7, 8, 9, 10, 11, 12, 13, 14, 15, 26, 27, 28, 29, 30, 31, 16, 17, 18, 19, 20, 21, 22, 23, 24, 25] rfl rfl rfl 16 rfl rfl lX4_122 ⟨rfl, rfl, by decide, by decide⟩ rfl hl.1 (Nat.le_of_ble_eq_true rfl) rfl dX4_covers_5 (fun H locs hG => ?_)
  refine lv_if_eq (tgt := 28) hx hb dX4_covers_8 (by decide) (fun c8 => ?_) (fun c8 => ?_)
  · rw [if_pos c8] at h
    refine lv_iconst (v := (-1)) hx hb dX4_covers_28 (by decide) ?_
    cases h
    exact hret _ _ _ _ hG dX4_covers_29 rfl
  · rw [if_neg c8] at h
    refine lv_iload_n hx hb dX4_covers_11 rfl (lv_at hl 2 rfl) ?_
    refine lv_bipush (v := 16) hx hb dX4_covers_12 (by decide) ?_
    obtain ⟨v14, e14, h⟩ := bd1_some h
    refine x_si0 (rest := []) hc hG (cc_X4_isIn x2 16 v14 e14) lX4_124 ⟨rfl, rfl, by decide, by decide⟩ rfl hl.1 (Nat.le_of_ble_eq_true rfl) rfl dX4_covers_14 (fun H locs hG => ?_)
    refine lv_if_eq (tgt := 28) hx hb dX4_covers_17 (by decide) (fun c17 => ?_) (fun c17 => ?_)
    · rw [if_pos c17] at h
      refine lv_iconst (v := (-1)) hx hb dX4_covers_28 (by decide) ?_
      cases h
      exact hret _ _ _ _ hG dX4_covers_29 rfl
    · rw [if_neg c17] at h
      refine lv_iload_n hx hb dX4_covers_20 rfl (lv_at hl 3 rfl) ?_
      refine lv_iconst (v := 2) hx hb dX4_covers_21 (by decide) ?_
      obtain ⟨v22, e22, h⟩ := bd1_some h
      refine x_si0 (rest := []) hc hG (cc_X4_isIn x3 2 v22 e22) lX4_124 ⟨rfl, rfl, by decide, by decide⟩ rfl hl.1 (Nat.le_of_ble_eq_true rfl) rfl dX4_covers_22 (fun H locs hG => ?_)
      refine lv_if_ne (tgt := 30) hx hb dX4_covers_25 (by decide) (fun c25 => ?_) (fun c25 => ?_)
      · rw [if_neg c25] at h
        refine lv_aload_n hx hb dX4_covers_30 rfl (lv_at hl 0 rfl) ?_
        refine x_get hc hG 0 rfl iX4 4 lX4_35 rfl dX4_covers_31 ?_
        refine lv_iload_n hx hb dX4_covers_34 rfl (lv_at hl 1 rfl) ?_
        refine lv_iload_n hx hb dX4_covers_35 rfl (lv_at hl 2 rfl) ?_
        refine lv_iload_n hx hb dX4_covers_36 rfl (lv_at hl 3 rfl) ?_
        obtain ⟨v37, e37, h⟩ := bd1_some h
        refine x_vi (rest := []) (ws' := (wX4 cI ad finding asked upper lower r_items r_sizes t_items t_sizes d_items d_sizes st_size st_need st_lifted st_licked st_morning st_tally st_kinds st_places st_lengths st_downs st_covers sl_size sl_need sl_lifted sl_licked sl_morning sl_tally sl_kinds sl_places sl_lengths sl_downs sl_covers as_size as_need as_lifted as_licked as_morning as_tally as_kinds as_places as_lengths as_downs as_covers text place count least inAll inSome scratch findings)) hc hG (cc_X3_coverAt (fun k => ad (16 + k)) sl_size sl_need sl_lifted sl_licked sl_morning sl_tally sl_kinds sl_places sl_lengths sl_downs sl_covers x1 x2 x3 v37 e37) [16, 17, 18, 19, 20, 21] [0, 1, 2, 3, 4, 5, 6, 7, 8, 9, 10, 11, 12, 13, 14, 15, 22, 23, 24, 25, 26, 27, 28, 29, 30, 31] [0, 1, 2, 3, 4, 5, 6, 7, 8, 9, 10, 11, 12, 13, 14, 15, 26, 27, 28, 29, 30, 31, 16, 17, 18, 19, 20, 21, 22, 23, 24, 25] rfl rfl rfl 16 rfl rfl lX4_174 ⟨rfl, rfl, by decide, by decide⟩ rfl hl.1 (Nat.le_of_ble_eq_true rfl) rfl dX4_covers_37 (fun H locs hG => ?_)
        cases h
        exact hret _ _ _ _ hG dX4_covers_40 rfl
      · rw [if_pos c25] at h
        refine lv_iconst (v := (-1)) hx hb dX4_covers_28 (by decide) ?_
        cases h
        exact hret _ _ _ _ hG dX4_covers_29 rfl
set_option maxRecDepth 100000 in
set_option maxHeartbeats 4000000 in
theorem cc_X4_covered {l : Launch} {D : va_G} {cI : ClassId} {tL : Nat} (ad : Nat → Nat) (finding : Int32) (asked : Int32) (upper : Int64) (lower : Int64) (r_items : Nat → Int32) (r_sizes : Nat → Int32) (t_items : Nat → Int32) (t_sizes : Nat → Int32) (d_items : Nat → Int32) (d_sizes : Nat → Int32) (st_size : Int32) (st_need : Int32) (st_lifted : Int32) (st_licked : Int32) (st_morning : Int32) (st_tally : Int32) (st_kinds : Nat → Int32) (st_places : Nat → Int32) (st_lengths : Nat → Int32) (st_downs : Nat → Int32) (st_covers : Nat → Int32) (sl_size : Int32) (sl_need : Int32) (sl_lifted : Int32) (sl_licked : Int32) (sl_morning : Int32) (sl_tally : Int32) (sl_kinds : Nat → Int32) (sl_places : Nat → Int32) (sl_lengths : Nat → Int32) (sl_downs : Nat → Int32) (sl_covers : Nat → Int32) (as_size : Int32) (as_need : Int32) (as_lifted : Int32) (as_licked : Int32) (as_morning : Int32) (as_tally : Int32) (as_kinds : Nat → Int32) (as_places : Nat → Int32) (as_lengths : Nat → Int32) (as_downs : Nat → Int32) (as_covers : Nat → Int32) (text : Int32) (place : Int32) (count : Int32) (least : Int32) (inAll : Int32) (inSome : Int32) (scratch : Nat → Int32) (findings : Nat → Int32) (r' : Int32) (asked' : Int32) (h : fX4_covered asked sl_size sl_need sl_lifted sl_licked sl_covers = some (r', asked')) : Ci l D cI tL yX4_covered cX4_covered 1 .int rmX4_covered (wX4 cI ad finding asked upper lower r_items r_sizes t_items t_sizes d_items d_sizes st_size st_need st_lifted st_licked st_morning st_tally st_kinds st_places st_lengths st_downs st_covers sl_size sl_need sl_lifted sl_licked sl_morning sl_tally sl_kinds sl_places sl_lengths sl_downs sl_covers as_size as_need as_lifted as_licked as_morning as_tally as_kinds as_places as_lengths as_downs as_covers text place count least inAll inSome scratch findings) [.ref (ad 0)] r' (wX4 cI ad finding asked' upper lower r_items r_sizes t_items t_sizes d_items d_sizes st_size st_need st_lifted st_licked st_morning st_tally st_kinds st_places st_lengths st_downs st_covers sl_size sl_need sl_lifted sl_licked sl_morning sl_tally sl_kinds sl_places sl_lengths sl_downs sl_covers as_size as_need as_lifted as_licked as_morning as_tally as_kinds as_places as_lengths as_downs as_covers text place count least inAll inSome scratch findings) := by
  refine Ci_of (own := RX4) (by decide) (Nat.le_of_ble_eq_true rfl) rfl ?_
  intro p e s m below meth c Q A AV hc hret ls hl hG
  obtain ⟨hx, hb, hml, hown, hts, hK, hA, hz⟩ := id hc
  have hl : lv_has ls 1 [(0, .ref (ad 0))] := hl
  unfold fX4_covered at h
  refine lv_aload_n hx hb dX4_covered_0 rfl (lv_at hl 0 rfl) ?_
  refine x_get hc hG 0 rfl iX4 4 lX4_35 rfl dX4_covered_1 ?_
  refine x_getN hc hG 16 rfl iX3 5 lX4_118 rfl dX4_covered_4 ?_
  refine lv_if_ne (tgt := 13) hx hb dX4_covered_7 (by decide) (fun c7 => ?_) (fun c7 => ?_)
  · rw [if_neg c7] at h
    refine lv_aload_n hx hb dX4_covered_13 rfl (lv_at hl 0 rfl) ?_
    refine lv_aload_n hx hb dX4_covered_14 rfl (lv_at hl 0 rfl) ?_
    refine x_get hc hG 0 rfl iX4 4 lX4_35 rfl dX4_covered_15 ?_
    obtain ⟨v18, e18, h⟩ := bd1_some h
    refine x_vi (rest := [.ref (ad 0)]) (ws' := (wX4 cI ad finding asked upper lower r_items r_sizes t_items t_sizes d_items d_sizes st_size st_need st_lifted st_licked st_morning st_tally st_kinds st_places st_lengths st_downs st_covers sl_size sl_need sl_lifted sl_licked sl_morning sl_tally sl_kinds sl_places sl_lengths sl_downs sl_covers as_size as_need as_lifted as_licked as_morning as_tally as_kinds as_places as_lengths as_downs as_covers text place count least inAll inSome scratch findings)) hc hG (cc_X3_linesNow (fun k => ad (16 + k)) sl_size sl_need sl_lifted sl_licked sl_morning sl_tally sl_kinds sl_places sl_lengths sl_downs sl_covers v18 e18) [16, 17, 18, 19, 20, 21] [0, 1, 2, 3, 4, 5, 6, 7, 8, 9, 10, 11, 12, 13, 14, 15, 22, 23, 24, 25, 26, 27, 28, 29, 30, 31] [0, 1, 2, 3, 4, 5, 6, 7, 8, 9, 10, 11, 12, 13, 14, 15, 26, 27, 28, 29, 30, 31, 16, 17, 18, 19, 20, 21, 22, 23, 24, 25] rfl rfl rfl 16 rfl rfl lX4_142 ⟨rfl, rfl, by decide, by decide⟩ rfl hl.1 (Nat.le_of_ble_eq_true rfl) rfl dX4_covered_18 (fun H locs hG => ?_)
    refine x_put (ws' := (wX4 cI ad finding v18 upper lower r_items r_sizes t_items t_sizes d_items d_sizes st_size st_need st_lifted st_licked st_morning st_tally st_kinds st_places st_lengths st_downs st_covers sl_size sl_need sl_lifted sl_licked sl_morning sl_tally sl_kinds sl_places sl_lengths sl_downs sl_covers as_size as_need as_lifted as_licked as_morning as_tally as_kinds as_places as_lengths as_downs as_covers text place count least inAll inSome scratch findings)) hc hG 0 rfl iX4 tyX4 tyX4_ok nmX4 11 lX4_178 rfl rfl rfl (Nat.le_of_ble_eq_true rfl) rfl dX4_covered_21 (fun H locs hG => ?_)
    refine lv_aload_n hx hb dX4_covered_24 rfl (lv_at hl 0 rfl) ?_
    refine x_get hc hG 0 rfl iX4 4 lX4_35 rfl dX4_covered_25 ?_
    obtain ⟨v28, e28, h⟩ := bd1_some h
    refine x_vi (rest := []) (ws' := (wX4 cI ad finding v18 upper lower r_items r_sizes t_items t_sizes d_items d_sizes st_size st_need st_lifted st_licked st_morning st_tally st_kinds st_places st_lengths st_downs st_covers sl_size sl_need sl_lifted sl_licked sl_morning sl_tally sl_kinds sl_places sl_lengths sl_downs sl_covers as_size as_need as_lifted as_licked as_morning as_tally as_kinds as_places as_lengths as_downs as_covers text place count least inAll inSome scratch findings)) hc hG (cc_X3_coveredNow (fun k => ad (16 + k)) sl_size sl_need sl_lifted sl_licked sl_morning sl_tally sl_kinds sl_places sl_lengths sl_downs sl_covers v28 e28) [16, 17, 18, 19, 20, 21] [0, 1, 2, 3, 4, 5, 6, 7, 8, 9, 10, 11, 12, 13, 14, 15, 22, 23, 24, 25, 26, 27, 28, 29, 30, 31] [0, 1, 2, 3, 4, 5, 6, 7, 8, 9, 10, 11, 12, 13, 14, 15, 26, 27, 28, 29, 30, 31, 16, 17, 18, 19, 20, 21, 22, 23, 24, 25] rfl rfl rfl 16 rfl rfl lX4_181 ⟨rfl, rfl, by decide, by decide⟩ rfl hl.1 (Nat.le_of_ble_eq_true rfl) rfl dX4_covered_28 (fun H locs hG => ?_)
    cases h
    exact hret _ _ _ _ hG dX4_covered_31 rfl
  · rw [if_pos c7] at h
    refine lv_bipush (v := (-4)) hx hb dX4_covered_10 (by decide) ?_
    cases h
    exact hret _ _ _ _ hG dX4_covered_12 rfl
set_option maxRecDepth 100000 in
set_option maxHeartbeats 4000000 in
theorem cc_X4_weighs {l : Launch} {D : va_G} {cI : ClassId} {tL : Nat} (ad : Nat → Nat) (finding : Int32) (asked : Int32) (upper : Int64) (lower : Int64) (r_items : Nat → Int32) (r_sizes : Nat → Int32) (t_items : Nat → Int32) (t_sizes : Nat → Int32) (d_items : Nat → Int32) (d_sizes : Nat → Int32) (st_size : Int32) (st_need : Int32) (st_lifted : Int32) (st_licked : Int32) (st_morning : Int32) (st_tally : Int32) (st_kinds : Nat → Int32) (st_places : Nat → Int32) (st_lengths : Nat → Int32) (st_downs : Nat → Int32) (st_covers : Nat → Int32) (sl_size : Int32) (sl_need : Int32) (sl_lifted : Int32) (sl_licked : Int32) (sl_morning : Int32) (sl_tally : Int32) (sl_kinds : Nat → Int32) (sl_places : Nat → Int32) (sl_lengths : Nat → Int32) (sl_downs : Nat → Int32) (sl_covers : Nat → Int32) (as_size : Int32) (as_need : Int32) (as_lifted : Int32) (as_licked : Int32) (as_morning : Int32) (as_tally : Int32) (as_kinds : Nat → Int32) (as_places : Nat → Int32) (as_lengths : Nat → Int32) (as_downs : Nat → Int32) (as_covers : Nat → Int32) (text : Int32) (place : Int32) (count : Int32) (least : Int32) (inAll : Int32) (inSome : Int32) (scratch : Nat → Int32) (findings : Nat → Int32) (x1 : Int32) (r' : Int32) (h : fX4_weighs sl_size sl_lifted sl_kinds sl_covers x1 = some r') : Ci l D cI tL yX4_weighs cX4_weighs 2 .int rmX4_weighs (wX4 cI ad finding asked upper lower r_items r_sizes t_items t_sizes d_items d_sizes st_size st_need st_lifted st_licked st_morning st_tally st_kinds st_places st_lengths st_downs st_covers sl_size sl_need sl_lifted sl_licked sl_morning sl_tally sl_kinds sl_places sl_lengths sl_downs sl_covers as_size as_need as_lifted as_licked as_morning as_tally as_kinds as_places as_lengths as_downs as_covers text place count least inAll inSome scratch findings) [.ref (ad 0), .int x1] r' (wX4 cI ad finding asked upper lower r_items r_sizes t_items t_sizes d_items d_sizes st_size st_need st_lifted st_licked st_morning st_tally st_kinds st_places st_lengths st_downs st_covers sl_size sl_need sl_lifted sl_licked sl_morning sl_tally sl_kinds sl_places sl_lengths sl_downs sl_covers as_size as_need as_lifted as_licked as_morning as_tally as_kinds as_places as_lengths as_downs as_covers text place count least inAll inSome scratch findings) := by
  refine Ci_of (own := RX4) (by decide) (Nat.le_of_ble_eq_true rfl) rfl ?_
  intro p e s m below meth c Q A AV hc hret ls hl hG
  obtain ⟨hx, hb, hml, hown, hts, hK, hA, hz⟩ := id hc
  have hl : lv_has ls 2 [(0, .ref (ad 0)), (1, .int x1)] := hl
  unfold fX4_weighs at h
  refine lv_iload_n hx hb dX4_weighs_0 rfl (lv_at hl 1 rfl) ?_
  refine lv_bipush (v := 8) hx hb dX4_weighs_1 (by decide) ?_
  obtain ⟨v3, e3, h⟩ := bd1_some h
  refine x_si0 (rest := []) hc hG (cc_X4_isIn x1 8 v3 e3) lX4_124 ⟨rfl, rfl, by decide, by decide⟩ rfl hl.1 (Nat.le_of_ble_eq_true rfl) rfl dX4_weighs_3 (fun H locs hG => ?_)
  refine lv_if_ne (tgt := 11) hx hb dX4_weighs_6 (by decide) (fun c6 => ?_) (fun c6 => ?_)
  · rw [if_neg c6] at h
    refine lv_aload_n hx hb dX4_weighs_11 rfl (lv_at hl 0 rfl) ?_
    refine x_get hc hG 0 rfl iX4 4 lX4_35 rfl dX4_weighs_12 ?_
    refine x_getN hc hG 16 rfl iX3 5 lX4_118 rfl dX4_weighs_15 ?_
    refine lv_if_ne (tgt := 26) hx hb dX4_weighs_18 (by decide) (fun c18 => ?_) (fun c18 => ?_)
    · rw [if_neg c18] at h
      refine lv_aload_n hx hb dX4_weighs_26 rfl (lv_at hl 0 rfl) ?_
      refine x_get hc hG 0 rfl iX4 4 lX4_35 rfl dX4_weighs_27 ?_
      refine lv_iload_n hx hb dX4_weighs_30 rfl (lv_at hl 1 rfl) ?_
      obtain ⟨v31, e31, h⟩ := bd1_some h
      refine x_vi (rest := []) (ws' := (wX4 cI ad finding asked upper lower r_items r_sizes t_items t_sizes d_items d_sizes st_size st_need st_lifted st_licked st_morning st_tally st_kinds st_places st_lengths st_downs st_covers sl_size sl_need sl_lifted sl_licked sl_morning sl_tally sl_kinds sl_places sl_lengths sl_downs sl_covers as_size as_need as_lifted as_licked as_morning as_tally as_kinds as_places as_lengths as_downs as_covers text place count least inAll inSome scratch findings)) hc hG (cc_X3_weightOn (fun k => ad (16 + k)) sl_size sl_need sl_lifted sl_licked sl_morning sl_tally sl_kinds sl_places sl_lengths sl_downs sl_covers x1 v31 e31) [16, 17, 18, 19, 20, 21] [0, 1, 2, 3, 4, 5, 6, 7, 8, 9, 10, 11, 12, 13, 14, 15, 22, 23, 24, 25, 26, 27, 28, 29, 30, 31] [0, 1, 2, 3, 4, 5, 6, 7, 8, 9, 10, 11, 12, 13, 14, 15, 26, 27, 28, 29, 30, 31, 16, 17, 18, 19, 20, 21, 22, 23, 24, 25] rfl rfl rfl 16 rfl rfl lX4_184 ⟨rfl, rfl, by decide, by decide⟩ rfl hl.1 (Nat.le_of_ble_eq_true rfl) rfl dX4_weighs_31 (fun H locs hG => ?_)
      cases h
      exact hret _ _ _ _ hG dX4_weighs_34 rfl
    · rw [if_pos c18] at h
      refine lv_bipush (v := (-4)) hx hb dX4_weighs_21 (by decide) ?_
      refine lv_goto (tgt := 34) hx hb dX4_weighs_23 (by decide) ?_
      cases h
      exact hret _ _ _ _ hG dX4_weighs_34 rfl
  · rw [if_pos c6] at h
    refine lv_iconst (v := (-1)) hx hb dX4_weighs_9 (by decide) ?_
    cases h
    exact hret _ _ _ _ hG dX4_weighs_10 rfl
set_option maxRecDepth 100000 in
set_option maxHeartbeats 4000000 in
theorem cc_X4_reads {l : Launch} {D : va_G} {cI : ClassId} {tL : Nat} (ad : Nat → Nat) (finding : Int32) (asked : Int32) (upper : Int64) (lower : Int64) (r_items : Nat → Int32) (r_sizes : Nat → Int32) (t_items : Nat → Int32) (t_sizes : Nat → Int32) (d_items : Nat → Int32) (d_sizes : Nat → Int32) (st_size : Int32) (st_need : Int32) (st_lifted : Int32) (st_licked : Int32) (st_morning : Int32) (st_tally : Int32) (st_kinds : Nat → Int32) (st_places : Nat → Int32) (st_lengths : Nat → Int32) (st_downs : Nat → Int32) (st_covers : Nat → Int32) (sl_size : Int32) (sl_need : Int32) (sl_lifted : Int32) (sl_licked : Int32) (sl_morning : Int32) (sl_tally : Int32) (sl_kinds : Nat → Int32) (sl_places : Nat → Int32) (sl_lengths : Nat → Int32) (sl_downs : Nat → Int32) (sl_covers : Nat → Int32) (as_size : Int32) (as_need : Int32) (as_lifted : Int32) (as_licked : Int32) (as_morning : Int32) (as_tally : Int32) (as_kinds : Nat → Int32) (as_places : Nat → Int32) (as_lengths : Nat → Int32) (as_downs : Nat → Int32) (as_covers : Nat → Int32) (text : Int32) (place : Int32) (count : Int32) (least : Int32) (inAll : Int32) (inSome : Int32) (scratch : Nat → Int32) (findings : Nat → Int32) (x1 : Int32) (r' : Int32) (asked' : Int32) (as_size' : Int32) (as_need' : Int32) (as_lifted' : Int32) (as_licked' : Int32) (as_morning' : Int32) (as_tally' : Int32) (as_kinds' : Nat → Int32) (as_places' : Nat → Int32) (as_lengths' : Nat → Int32) (as_downs' : Nat → Int32) (as_covers' : Nat → Int32) (h : fX4_reads asked sl_size sl_need sl_lifted sl_licked sl_morning sl_tally sl_kinds sl_places sl_lengths sl_downs sl_covers as_size as_need as_lifted as_licked as_morning as_tally as_kinds as_places as_lengths as_downs as_covers x1 = some (r', asked', as_size', as_need', as_lifted', as_licked', as_morning', as_tally', as_kinds', as_places', as_lengths', as_downs', as_covers')) : Ci l D cI tL yX4_reads cX4_reads 2 .int rmX4_reads (wX4 cI ad finding asked upper lower r_items r_sizes t_items t_sizes d_items d_sizes st_size st_need st_lifted st_licked st_morning st_tally st_kinds st_places st_lengths st_downs st_covers sl_size sl_need sl_lifted sl_licked sl_morning sl_tally sl_kinds sl_places sl_lengths sl_downs sl_covers as_size as_need as_lifted as_licked as_morning as_tally as_kinds as_places as_lengths as_downs as_covers text place count least inAll inSome scratch findings) [.ref (ad 0), .int x1] r' (wX4 cI ad finding asked' upper lower r_items r_sizes t_items t_sizes d_items d_sizes st_size st_need st_lifted st_licked st_morning st_tally st_kinds st_places st_lengths st_downs st_covers sl_size sl_need sl_lifted sl_licked sl_morning sl_tally sl_kinds sl_places sl_lengths sl_downs sl_covers as_size' as_need' as_lifted' as_licked' as_morning' as_tally' as_kinds' as_places' as_lengths' as_downs' as_covers' text place count least inAll inSome scratch findings) := by
  refine Ci_of (own := RX4) (by decide) (Nat.le_of_ble_eq_true rfl) rfl ?_
  intro p e s m below meth c Q A AV hc hret ls hl hG
  obtain ⟨hx, hb, hml, hown, hts, hK, hA, hz⟩ := id hc
  have hl : lv_has ls 2 [(0, .ref (ad 0)), (1, .int x1)] := hl
  unfold fX4_reads at h
  refine lv_iload_n hx hb dX4_reads_0 rfl (lv_at hl 1 rfl) ?_
  refine lv_if_lt (tgt := 10) hx hb dX4_reads_1 (by decide) (fun c1 => ?_) (fun c1 => ?_)
  · rw [if_pos c1] at h
    refine lv_iconst (v := (-1)) hx hb dX4_reads_10 (by decide) ?_
    cases h
    exact hret _ _ _ _ hG dX4_reads_11 rfl
  · rw [if_neg c1] at h
    refine lv_iload_n hx hb dX4_reads_4 rfl (lv_at hl 1 rfl) ?_
    refine lv_bipush (v := 40) hx hb dX4_reads_5 (by decide) ?_
    refine lv_icmp_le (tgt := 12) hx hb dX4_reads_7 (by decide) (fun c7 => ?_) (fun c7 => ?_)
    · rw [if_pos c7] at h
      refine lv_aload_n hx hb dX4_reads_12 rfl (lv_at hl 0 rfl) ?_
      refine x_get hc hG 0 rfl iX4 4 lX4_35 rfl dX4_reads_13 ?_
      refine x_getN hc hG 16 rfl iX3 5 lX4_118 rfl dX4_reads_16 ?_
      refine lv_if_ne (tgt := 25) hx hb dX4_reads_19 (by decide) (fun c19 => ?_) (fun c19 => ?_)
      · rw [if_neg c19] at h
        refine lv_aload_n hx hb dX4_reads_25 rfl (lv_at hl 0 rfl) ?_
        refine x_get hc hG 0 rfl iX4 5 lX4_38 rfl dX4_reads_26 ?_
        refine lv_aload_n hx hb dX4_reads_29 rfl (lv_at hl 0 rfl) ?_
        refine x_get hc hG 0 rfl iX4 4 lX4_35 rfl dX4_reads_30 ?_
        obtain ⟨as_size_33, as_need_33, as_lifted_33, as_licked_33, as_morning_33, as_tally_33, as_kinds_33, as_places_33, as_lengths_33, as_downs_33, as_covers_33, e33, h⟩ := bd11_some h
        refine x_vv (rest := []) (ws' := (wX4 cI ad finding asked upper lower r_items r_sizes t_items t_sizes d_items d_sizes st_size st_need st_lifted st_licked st_morning st_tally st_kinds st_places st_lengths st_downs st_covers sl_size sl_need sl_lifted sl_licked sl_morning sl_tally sl_kinds sl_places sl_lengths sl_downs sl_covers as_size_33 as_need_33 as_lifted_33 as_licked_33 as_morning_33 as_tally_33 as_kinds_33 as_places_33 as_lengths_33 as_downs_33 as_covers_33 text place count least inAll inSome scratch findings)) hc hG (cc_X3_take (fun k => match k with | 0 => ad 22 | 1 => ad 23 | 2 => ad 24 | 3 => ad 25 | 4 => ad 26 | 5 => ad 27 | 6 => ad 16 | 7 => ad 17 | 8 => ad 18 | 9 => ad 19 | 10 => ad 20 | _ => ad 21) as_size as_need as_lifted as_licked as_morning as_tally as_kinds as_places as_lengths as_downs as_covers sl_size sl_need sl_lifted sl_licked sl_morning sl_tally sl_kinds sl_places sl_lengths sl_downs sl_covers as_size_33 as_need_33 as_lifted_33 as_licked_33 as_morning_33 as_tally_33 as_kinds_33 as_places_33 as_lengths_33 as_downs_33 as_covers_33 e33) [22, 23, 24, 25, 26, 27, 16, 17, 18, 19, 20, 21] [0, 1, 2, 3, 4, 5, 6, 7, 8, 9, 10, 11, 12, 13, 14, 15, 28, 29, 30, 31] [0, 1, 2, 3, 4, 5, 6, 7, 8, 9, 10, 11, 12, 13, 14, 15, 26, 27, 28, 29, 30, 31, 20, 21, 22, 23, 24, 25, 16, 17, 18, 19] rfl rfl rfl 22 rfl rfl lX4_114 ⟨rfl, rfl, by decide, by decide⟩ rfl hl.1 (Nat.le_of_ble_eq_true rfl) rfl dX4_reads_33 (fun H locs hG => ?_)
        refine lv_aload_n hx hb dX4_reads_36 rfl (lv_at hl 0 rfl) ?_
        refine x_get hc hG 0 rfl iX4 5 lX4_38 rfl dX4_reads_37 ?_
        refine lv_iload_n hx hb dX4_reads_40 rfl (lv_at hl 1 rfl) ?_
        obtain ⟨as_morning_41, as_tally_41, as_places_41, as_downs_41, as_covers_41, e41, h⟩ := bd5_some h
        refine x_vv (rest := []) (ws' := (wX4 cI ad finding asked upper lower r_items r_sizes t_items t_sizes d_items d_sizes st_size st_need st_lifted st_licked st_morning st_tally st_kinds st_places st_lengths st_downs st_covers sl_size sl_need sl_lifted sl_licked sl_morning sl_tally sl_kinds sl_places sl_lengths sl_downs sl_covers as_size_33 as_need_33 as_lifted_33 as_licked_33 as_morning_41 as_tally_41 as_kinds_33 as_places_41 as_lengths_33 as_downs_41 as_covers_41 text place count least inAll inSome scratch findings)) hc hG (cc_X3_fallTimes (fun k => ad (22 + k)) as_size_33 as_need_33 as_lifted_33 as_licked_33 as_morning_33 as_tally_33 as_kinds_33 as_places_33 as_lengths_33 as_downs_33 as_covers_33 x1 as_morning_41 as_tally_41 as_places_41 as_downs_41 as_covers_41 e41) [22, 23, 24, 25, 26, 27] [0, 1, 2, 3, 4, 5, 6, 7, 8, 9, 10, 11, 12, 13, 14, 15, 16, 17, 18, 19, 20, 21, 28, 29, 30, 31] [0, 1, 2, 3, 4, 5, 6, 7, 8, 9, 10, 11, 12, 13, 14, 15, 16, 17, 18, 19, 20, 21, 26, 27, 28, 29, 30, 31, 22, 23, 24, 25] rfl rfl rfl 22 rfl rfl lX4_187 ⟨rfl, rfl, by decide, by decide⟩ rfl hl.1 (Nat.le_of_ble_eq_true rfl) rfl dX4_reads_41 (fun H locs hG => ?_)
        refine lv_aload_n hx hb dX4_reads_44 rfl (lv_at hl 0 rfl) ?_
        refine lv_aload_n hx hb dX4_reads_45 rfl (lv_at hl 0 rfl) ?_
        refine x_get hc hG 0 rfl iX4 5 lX4_38 rfl dX4_reads_46 ?_
        refine x_getN hc hG 22 rfl iX3 10 lX4_190 rfl dX4_reads_49 ?_
        refine x_put (ws' := (wX4 cI ad finding as_tally_41 upper lower r_items r_sizes t_items t_sizes d_items d_sizes st_size st_need st_lifted st_licked st_morning st_tally st_kinds st_places st_lengths st_downs st_covers sl_size sl_need sl_lifted sl_licked sl_morning sl_tally sl_kinds sl_places sl_lengths sl_downs sl_covers as_size_33 as_need_33 as_lifted_33 as_licked_33 as_morning_41 as_tally_41 as_kinds_33 as_places_41 as_lengths_33 as_downs_41 as_covers_41 text place count least inAll inSome scratch findings)) hc hG 0 rfl iX4 tyX4 tyX4_ok nmX4 11 lX4_178 rfl rfl rfl (Nat.le_of_ble_eq_true rfl) rfl dX4_reads_52 (fun H locs hG => ?_)
        refine lv_aload_n hx hb dX4_reads_55 rfl (lv_at hl 0 rfl) ?_
        refine x_get hc hG 0 rfl iX4 5 lX4_38 rfl dX4_reads_56 ?_
        obtain ⟨v59, e59, h⟩ := bd1_some h
        refine x_vi (rest := []) (ws' := (wX4 cI ad finding as_tally_41 upper lower r_items r_sizes t_items t_sizes d_items d_sizes st_size st_need st_lifted st_licked st_morning st_tally st_kinds st_places st_lengths st_downs st_covers sl_size sl_need sl_lifted sl_licked sl_morning sl_tally sl_kinds sl_places sl_lengths sl_downs sl_covers as_size_33 as_need_33 as_lifted_33 as_licked_33 as_morning_41 as_tally_41 as_kinds_33 as_places_41 as_lengths_33 as_downs_41 as_covers_41 text place count least inAll inSome scratch findings)) hc hG (cc_X3_linesNow (fun k => ad (22 + k)) as_size_33 as_need_33 as_lifted_33 as_licked_33 as_morning_41 as_tally_41 as_kinds_33 as_places_41 as_lengths_33 as_downs_41 as_covers_41 v59 e59) [22, 23, 24, 25, 26, 27] [0, 1, 2, 3, 4, 5, 6, 7, 8, 9, 10, 11, 12, 13, 14, 15, 16, 17, 18, 19, 20, 21, 28, 29, 30, 31] [0, 1, 2, 3, 4, 5, 6, 7, 8, 9, 10, 11, 12, 13, 14, 15, 16, 17, 18, 19, 20, 21, 26, 27, 28, 29, 30, 31, 22, 23, 24, 25] rfl rfl rfl 22 rfl rfl lX4_142 ⟨rfl, rfl, by decide, by decide⟩ rfl hl.1 (Nat.le_of_ble_eq_true rfl) rfl dX4_reads_59 (fun H locs hG => ?_)
        cases h
        exact hret _ _ _ _ hG dX4_reads_62 rfl
      · rw [if_pos c19] at h
        refine lv_bipush (v := (-4)) hx hb dX4_reads_22 (by decide) ?_
        cases h
        exact hret _ _ _ _ hG dX4_reads_24 rfl
    · rw [if_neg c7] at h
      refine lv_iconst (v := (-1)) hx hb dX4_reads_10 (by decide) ?_
      cases h
      exact hret _ _ _ _ hG dX4_reads_11 rfl
set_option maxRecDepth 100000 in
set_option maxHeartbeats 4000000 in
theorem cc_X4_first {l : Launch} {D : va_G} {cI : ClassId} {tL : Nat} (ad : Nat → Nat) (finding : Int32) (asked : Int32) (upper : Int64) (lower : Int64) (r_items : Nat → Int32) (r_sizes : Nat → Int32) (t_items : Nat → Int32) (t_sizes : Nat → Int32) (d_items : Nat → Int32) (d_sizes : Nat → Int32) (st_size : Int32) (st_need : Int32) (st_lifted : Int32) (st_licked : Int32) (st_morning : Int32) (st_tally : Int32) (st_kinds : Nat → Int32) (st_places : Nat → Int32) (st_lengths : Nat → Int32) (st_downs : Nat → Int32) (st_covers : Nat → Int32) (sl_size : Int32) (sl_need : Int32) (sl_lifted : Int32) (sl_licked : Int32) (sl_morning : Int32) (sl_tally : Int32) (sl_kinds : Nat → Int32) (sl_places : Nat → Int32) (sl_lengths : Nat → Int32) (sl_downs : Nat → Int32) (sl_covers : Nat → Int32) (as_size : Int32) (as_need : Int32) (as_lifted : Int32) (as_licked : Int32) (as_morning : Int32) (as_tally : Int32) (as_kinds : Nat → Int32) (as_places : Nat → Int32) (as_lengths : Nat → Int32) (as_downs : Nat → Int32) (as_covers : Nat → Int32) (text : Int32) (place : Int32) (count : Int32) (least : Int32) (inAll : Int32) (inSome : Int32) (scratch : Nat → Int32) (findings : Nat → Int32) (x1 : Int32) (r' : Int32) (as_size' : Int32) (as_need' : Int32) (as_lifted' : Int32) (as_licked' : Int32) (as_morning' : Int32) (as_tally' : Int32) (as_kinds' : Nat → Int32) (as_places' : Nat → Int32) (as_lengths' : Nat → Int32) (as_downs' : Nat → Int32) (as_covers' : Nat → Int32) (h : fX4_first sl_size sl_need sl_lifted sl_licked sl_morning sl_tally sl_kinds sl_places sl_lengths sl_downs sl_covers as_size as_need as_lifted as_licked as_morning as_tally as_kinds as_places as_lengths as_downs as_covers x1 = some (r', as_size', as_need', as_lifted', as_licked', as_morning', as_tally', as_kinds', as_places', as_lengths', as_downs', as_covers')) : Ci l D cI tL yX4_first cX4_first 3 .int rmX4_first (wX4 cI ad finding asked upper lower r_items r_sizes t_items t_sizes d_items d_sizes st_size st_need st_lifted st_licked st_morning st_tally st_kinds st_places st_lengths st_downs st_covers sl_size sl_need sl_lifted sl_licked sl_morning sl_tally sl_kinds sl_places sl_lengths sl_downs sl_covers as_size as_need as_lifted as_licked as_morning as_tally as_kinds as_places as_lengths as_downs as_covers text place count least inAll inSome scratch findings) [.ref (ad 0), .int x1] r' (wX4 cI ad finding asked upper lower r_items r_sizes t_items t_sizes d_items d_sizes st_size st_need st_lifted st_licked st_morning st_tally st_kinds st_places st_lengths st_downs st_covers sl_size sl_need sl_lifted sl_licked sl_morning sl_tally sl_kinds sl_places sl_lengths sl_downs sl_covers as_size' as_need' as_lifted' as_licked' as_morning' as_tally' as_kinds' as_places' as_lengths' as_downs' as_covers' text place count least inAll inSome scratch findings) := by
  refine Ci_of (own := RX4) (by decide) (Nat.le_of_ble_eq_true rfl) rfl ?_
  intro p e s m below meth c Q A AV hc hret ls hl hG
  obtain ⟨hx, hb, hml, hown, hts, hK, hA, hz⟩ := id hc
  have hl : lv_has ls 3 [(0, .ref (ad 0)), (1, .int x1)] := hl
  have hL_37 : ∀ (as_size : Int32) (as_need : Int32) (as_lifted : Int32) (as_licked : Int32) (as_kinds : Nat → Int32) (as_lengths : Nat → Int32) (x1 : Int32) (o : ((Int32 × Int32 × Int32 × Int32 × Int32 × Int32 × Int32 × (Nat → Int32) × (Nat → Int32) × (Nat → Int32) × (Nat → Int32) × (Nat → Int32)) ⊕ (Int32 × Int32 × (Nat → Int32) × (Nat → Int32) × (Nat → Int32)))), (∀ (r : Int32) (as_size_r : Int32) (as_need_r : Int32) (as_lifted_r : Int32) (as_licked_r : Int32) (as_morning_r : Int32) (as_tally_r : Int32) (as_kinds_r : Nat → Int32) (as_places_r : Nat → Int32) (as_lengths_r : Nat → Int32) (as_downs_r : Nat → Int32) (as_covers_r : Nat → Int32), o = .inl (r, as_size_r, as_need_r, as_lifted_r, as_licked_r, as_morning_r, as_tally_r, as_kinds_r, as_places_r, as_lengths_r, as_downs_r, as_covers_r) → ∀ (H : Heap) (locs : List Loc) (pc : Nat) (ls : Array Slot), St D A s (wX4 cI ad finding asked upper lower r_items r_sizes t_items t_sizes d_items d_sizes st_size st_need st_lifted st_licked st_morning st_tally st_kinds st_places st_lengths st_downs st_covers sl_size sl_need sl_lifted sl_licked sl_morning sl_tally sl_kinds sl_places sl_lengths sl_downs sl_covers as_size_r as_need_r as_lifted_r as_licked_r as_morning_r as_tally_r as_kinds_r as_places_r as_lengths_r as_downs_r as_covers_r text place count least inAll inSome scratch findings) H locs → decode cX4_first pc = .ok (.ireturn, 1) → narrow .int (.int r) = .int r → W p l e rmX4_first s m AV below meth c H locs 0 0 Q (F0 m pc ls [.int r])) → (∀ (as_morning_o : Int32) (as_tally_o : Int32) (as_places_o : Nat → Int32) (as_downs_o : Nat → Int32) (as_covers_o : Nat → Int32), o = .inr (as_morning_o, as_tally_o, as_places_o, as_downs_o, as_covers_o) → ∀ (ls : Array Slot) (H : Heap) (locs : List Loc), lv_has ls 3 [(0, .ref (ad 0))] → St D A s (wX4 cI ad finding asked upper lower r_items r_sizes t_items t_sizes d_items d_sizes st_size st_need st_lifted st_licked st_morning st_tally st_kinds st_places st_lengths st_downs st_covers sl_size sl_need sl_lifted sl_licked sl_morning sl_tally sl_kinds sl_places sl_lengths sl_downs sl_covers as_size as_need as_lifted as_licked as_morning_o as_tally_o as_kinds as_places_o as_lengths as_downs_o as_covers_o text place count least inAll inSome scratch findings) H locs → W p l e rmX4_first s m AV below meth c H locs 0 0 Q (F0 m 73 ls [])) → ∀ (n : Nat) (as_morning : Int32) (as_tally : Int32) (as_places : Nat → Int32) (as_downs : Nat → Int32) (as_covers : Nat → Int32) (x2 : Int32), fX4_first_L37 as_size as_need as_lifted as_licked as_kinds as_lengths x1 n as_morning as_tally as_places as_downs as_covers x2 = some o → ∀ (ls : Array Slot) (H : Heap) (locs : List Loc), lv_has ls 3 [(0, .ref (ad 0)), (1, .int x1), (2, .int x2)] → St D A s (wX4 cI ad finding asked upper lower r_items r_sizes t_items t_sizes d_items d_sizes st_size st_need st_lifted st_licked st_morning st_tally st_kinds st_places st_lengths st_downs st_covers sl_size sl_need sl_lifted sl_licked sl_morning sl_tally sl_kinds sl_places sl_lengths sl_downs sl_covers as_size as_need as_lifted as_licked as_morning as_tally as_kinds as_places as_lengths as_downs as_covers text place count least inAll inSome scratch findings) H locs → W p l e rmX4_first s m AV below meth c H locs 0 0 Q (F0 m 37 ls []) := by
    intro as_size as_need as_lifted as_licked as_kinds as_lengths x1 o KR KE n
    induction n with
    | zero =>
      intro as_morning as_tally as_places as_downs as_covers x2 h
      exact nomatch (show none = some _ from h)
    | succ n ih =>
      intro as_morning as_tally as_places as_downs as_covers x2 h ls H locs hl hG
      have h : fX4_first_B37 as_size as_need as_lifted as_licked as_kinds as_lengths x1 (fX4_first_L37 as_size as_need as_lifted as_licked as_kinds as_lengths x1 n) as_morning as_tally as_places as_downs as_covers x2 = some o := h
      unfold fX4_first_B37 at h
      refine lv_iload_n hx hb dX4_first_37 rfl (lv_at hl 2 rfl) ?_
      refine lv_bipush (v := 40) hx hb dX4_first_38 (by decide) ?_
      refine lv_icmp_gt (tgt := 73) hx hb dX4_first_40 (by decide) (fun c40 => ?_) (fun c40 => ?_)
      · rw [if_pos c40] at h
        cases h
        exact KE _ _ _ _ _ rfl _ _ _ (lv_sub hl [0] rfl) hG
      · rw [if_neg c40] at h
        refine lv_aload_n hx hb dX4_first_43 rfl (lv_at hl 0 rfl) ?_
        refine x_get hc hG 0 rfl iX4 5 lX4_38 rfl dX4_first_44 ?_
        obtain ⟨as_morning_47, as_tally_47, as_places_47, as_downs_47, as_covers_47, e47, h⟩ := bd5_some h
        refine x_vv (rest := []) (ws' := (wX4 cI ad finding asked upper lower r_items r_sizes t_items t_sizes d_items d_sizes st_size st_need st_lifted st_licked st_morning st_tally st_kinds st_places st_lengths st_downs st_covers sl_size sl_need sl_lifted sl_licked sl_morning sl_tally sl_kinds sl_places sl_lengths sl_downs sl_covers as_size as_need as_lifted as_licked as_morning_47 as_tally_47 as_kinds as_places_47 as_lengths as_downs_47 as_covers_47 text place count least inAll inSome scratch findings)) hc hG (cc_X3_fall (fun k => ad (22 + k)) as_size as_need as_lifted as_licked as_morning as_tally as_kinds as_places as_lengths as_downs as_covers as_morning_47 as_tally_47 as_places_47 as_downs_47 as_covers_47 e47) [22, 23, 24, 25, 26, 27] [0, 1, 2, 3, 4, 5, 6, 7, 8, 9, 10, 11, 12, 13, 14, 15, 16, 17, 18, 19, 20, 21, 28, 29, 30, 31] [0, 1, 2, 3, 4, 5, 6, 7, 8, 9, 10, 11, 12, 13, 14, 15, 16, 17, 18, 19, 20, 21, 26, 27, 28, 29, 30, 31, 22, 23, 24, 25] rfl rfl rfl 22 rfl rfl lX4_193 ⟨rfl, rfl, by decide, by decide⟩ rfl hl.1 (Nat.le_of_ble_eq_true rfl) rfl dX4_first_47 (fun H locs hG => ?_)
        refine lv_aload_n hx hb dX4_first_50 rfl (lv_at hl 0 rfl) ?_
        refine x_get hc hG 0 rfl iX4 5 lX4_38 rfl dX4_first_51 ?_
        obtain ⟨v54, e54, h⟩ := bd1_some h
        refine x_vi (rest := []) (ws' := (wX4 cI ad finding asked upper lower r_items r_sizes t_items t_sizes d_items d_sizes st_size st_need st_lifted st_licked st_morning st_tally st_kinds st_places st_lengths st_downs st_covers sl_size sl_need sl_lifted sl_licked sl_morning sl_tally sl_kinds sl_places sl_lengths sl_downs sl_covers as_size as_need as_lifted as_licked as_morning_47 as_tally_47 as_kinds as_places_47 as_lengths as_downs_47 as_covers_47 text place count least inAll inSome scratch findings)) hc hG (cc_X3_linesNow (fun k => ad (22 + k)) as_size as_need as_lifted as_licked as_morning_47 as_tally_47 as_kinds as_places_47 as_lengths as_downs_47 as_covers_47 v54 e54) [22, 23, 24, 25, 26, 27] [0, 1, 2, 3, 4, 5, 6, 7, 8, 9, 10, 11, 12, 13, 14, 15, 16, 17, 18, 19, 20, 21, 28, 29, 30, 31] [0, 1, 2, 3, 4, 5, 6, 7, 8, 9, 10, 11, 12, 13, 14, 15, 16, 17, 18, 19, 20, 21, 26, 27, 28, 29, 30, 31, 22, 23, 24, 25] rfl rfl rfl 22 rfl rfl lX4_142 ⟨rfl, rfl, by decide, by decide⟩ rfl hl.1 (Nat.le_of_ble_eq_true rfl) rfl dX4_first_54 (fun H locs hG => ?_)
        refine lv_iload_n hx hb dX4_first_57 rfl (lv_at hl 1 rfl) ?_
        obtain ⟨v58, e58, h⟩ := bd1_some h
        refine x_si0 (rest := []) hc hG (cc_X4_bit v54 x1 v58 e58) lX4_155 ⟨rfl, rfl, by decide, by decide⟩ rfl hl.1 (Nat.le_of_ble_eq_true rfl) rfl dX4_first_58 (fun H locs hG => ?_)
        refine lv_iconst (v := 1) hx hb dX4_first_61 (by decide) ?_
        refine lv_icmp_ne (tgt := 67) hx hb dX4_first_62 (by decide) (fun c62 => ?_) (fun c62 => ?_)
        · rw [if_neg c62] at h
          refine lv_iinc (v := (x2 + 1)) (lv' := [(2, .int (x2 + 1)), (0, .ref (ad 0)), (1, .int x1)]) hx hb dX4_first_67 hl (k := 2) rfl rfl (by decide) rfl (fun ls hl => ?_)
          refine lv_goto (tgt := 37) hx hb dX4_first_70 (by decide) ?_
          exact ih _ _ _ _ _ _ h _ _ _ (lv_sub hl [1, 2, 0] rfl) hG
        · rw [if_pos c62] at h
          refine lv_iload_n hx hb dX4_first_65 rfl (lv_at hl 2 rfl) ?_
          cases h
          exact KR _ _ _ _ _ _ _ _ _ _ _ _ rfl _ _ _ _ hG dX4_first_66 rfl
  unfold fX4_first at h
  refine lv_iload_n hx hb dX4_first_0 rfl (lv_at hl 1 rfl) ?_
  refine lv_bipush (v := 8) hx hb dX4_first_1 (by decide) ?_
  obtain ⟨v3, e3, h⟩ := bd1_some h
  refine x_si0 (rest := []) hc hG (cc_X4_isIn x1 8 v3 e3) lX4_124 ⟨rfl, rfl, by decide, by decide⟩ rfl hl.1 (Nat.le_of_ble_eq_true rfl) rfl dX4_first_3 (fun H locs hG => ?_)
  refine lv_if_ne (tgt := 11) hx hb dX4_first_6 (by decide) (fun c6 => ?_) (fun c6 => ?_)
  · rw [if_neg c6] at h
    refine lv_aload_n hx hb dX4_first_11 rfl (lv_at hl 0 rfl) ?_
    refine x_get hc hG 0 rfl iX4 4 lX4_35 rfl dX4_first_12 ?_
    refine x_getN hc hG 16 rfl iX3 5 lX4_118 rfl dX4_first_15 ?_
    refine lv_if_ne (tgt := 24) hx hb dX4_first_18 (by decide) (fun c18 => ?_) (fun c18 => ?_)
    · rw [if_neg c18] at h
      refine lv_aload_n hx hb dX4_first_24 rfl (lv_at hl 0 rfl) ?_
      refine x_get hc hG 0 rfl iX4 5 lX4_38 rfl dX4_first_25 ?_
      refine lv_aload_n hx hb dX4_first_28 rfl (lv_at hl 0 rfl) ?_
      refine x_get hc hG 0 rfl iX4 4 lX4_35 rfl dX4_first_29 ?_
      obtain ⟨as_size_32, as_need_32, as_lifted_32, as_licked_32, as_morning_32, as_tally_32, as_kinds_32, as_places_32, as_lengths_32, as_downs_32, as_covers_32, e32, h⟩ := bd11_some h
      refine x_vv (rest := []) (ws' := (wX4 cI ad finding asked upper lower r_items r_sizes t_items t_sizes d_items d_sizes st_size st_need st_lifted st_licked st_morning st_tally st_kinds st_places st_lengths st_downs st_covers sl_size sl_need sl_lifted sl_licked sl_morning sl_tally sl_kinds sl_places sl_lengths sl_downs sl_covers as_size_32 as_need_32 as_lifted_32 as_licked_32 as_morning_32 as_tally_32 as_kinds_32 as_places_32 as_lengths_32 as_downs_32 as_covers_32 text place count least inAll inSome scratch findings)) hc hG (cc_X3_take (fun k => match k with | 0 => ad 22 | 1 => ad 23 | 2 => ad 24 | 3 => ad 25 | 4 => ad 26 | 5 => ad 27 | 6 => ad 16 | 7 => ad 17 | 8 => ad 18 | 9 => ad 19 | 10 => ad 20 | _ => ad 21) as_size as_need as_lifted as_licked as_morning as_tally as_kinds as_places as_lengths as_downs as_covers sl_size sl_need sl_lifted sl_licked sl_morning sl_tally sl_kinds sl_places sl_lengths sl_downs sl_covers as_size_32 as_need_32 as_lifted_32 as_licked_32 as_morning_32 as_tally_32 as_kinds_32 as_places_32 as_lengths_32 as_downs_32 as_covers_32 e32) [22, 23, 24, 25, 26, 27, 16, 17, 18, 19, 20, 21] [0, 1, 2, 3, 4, 5, 6, 7, 8, 9, 10, 11, 12, 13, 14, 15, 28, 29, 30, 31] [0, 1, 2, 3, 4, 5, 6, 7, 8, 9, 10, 11, 12, 13, 14, 15, 26, 27, 28, 29, 30, 31, 20, 21, 22, 23, 24, 25, 16, 17, 18, 19] rfl rfl rfl 22 rfl rfl lX4_114 ⟨rfl, rfl, by decide, by decide⟩ rfl hl.1 (Nat.le_of_ble_eq_true rfl) rfl dX4_first_32 (fun H locs hG => ?_)
      refine lv_iconst (v := 1) hx hb dX4_first_35 (by decide) ?_
      refine lv_istore_n (lv' := [(2, .int 1), (0, .ref (ad 0)), (1, .int x1)]) hx hb dX4_first_36 rfl hl (by decide) rfl (fun ls hl => ?_)
      rcases st5_some h with e37 | ⟨as_morning_L37, as_tally_L37, as_places_L37, as_downs_L37, as_covers_L37, e37, h⟩
      · exact hL_37 _ _ _ _ _ _ _ _ (fun _ _ _ _ _ _ _ _ _ _ _ _ e H locs pc ls hG d hn => by cases e; exact hret _ _ _ _ hG d hn) (fun _ _ _ _ _ e => by cases e) _ _ _ _ _ _ _ e37 _ _ _ (lv_sub hl [1, 2, 0] rfl) hG
      · refine hL_37 _ _ _ _ _ _ _ _ (fun _ _ _ _ _ _ _ _ _ _ _ _ e => by cases e) (fun as_morning_L37 as_tally_L37 as_places_L37 as_downs_L37 as_covers_L37 e ls H locs hl hG => ?_) _ _ _ _ _ _ _ e37 _ _ _ (lv_sub hl [1, 2, 0] rfl) hG
        cases e
        refine lv_bipush (v := (-9)) hx hb dX4_first_73 (by decide) ?_
        cases h
        exact hret _ _ _ _ hG dX4_first_75 rfl
    · rw [if_pos c18] at h
      refine lv_bipush (v := (-4)) hx hb dX4_first_21 (by decide) ?_
      cases h
      exact hret _ _ _ _ hG dX4_first_23 rfl
  · rw [if_pos c6] at h
    refine lv_iconst (v := (-1)) hx hb dX4_first_9 (by decide) ?_
    cases h
    exact hret _ _ _ _ hG dX4_first_10 rfl
set_option maxRecDepth 100000 in
set_option maxHeartbeats 4000000 in
theorem cc_X4_areLines {l : Launch} {D : va_G} {cI : ClassId} {tL : Nat} (x0 : Int32) (r' : Int32) (h : fX4_areLines x0 = some r') : Ci l D cI tL yX4_areLines cX4_areLines 1 .boolean rmX4_areLines [] [.int x0] r' [] := by
  refine Ci_of (own := RX4) (by decide) (Nat.le_of_ble_eq_true rfl) rfl ?_
  intro p e s m below meth c Q A AV hc hret ls hl hG
  obtain ⟨hx, hb, hml, hown, hts, hK, hA, hz⟩ := id hc
  have hl : lv_has ls 1 [(0, .int x0)] := hl
  unfold fX4_areLines at h
  refine lv_iload_n hx hb dX4_areLines_0 rfl (lv_at hl 0 rfl) ?_
  refine lv_if_lt (tgt := 15) hx hb dX4_areLines_1 (by decide) (fun c1 => ?_) (fun c1 => ?_)
  · rw [if_pos c1] at h
    refine lv_iconst (v := 0) hx hb dX4_areLines_15 (by decide) ?_
    cases h
    exact hret _ _ _ _ hG dX4_areLines_16 rfl
  · rw [if_neg c1] at h
    refine lv_iload_n hx hb dX4_areLines_4 rfl (lv_at hl 0 rfl) ?_
    refine lv_sipush (v := 255) hx hb dX4_areLines_5 (by decide) ?_
    refine lv_icmp_gt (tgt := 15) hx hb dX4_areLines_8 (by decide) (fun c8 => ?_) (fun c8 => ?_)
    · rw [if_pos c8] at h
      refine lv_iconst (v := 0) hx hb dX4_areLines_15 (by decide) ?_
      cases h
      exact hret _ _ _ _ hG dX4_areLines_16 rfl
    · rw [if_neg c8] at h
      refine lv_iconst (v := 1) hx hb dX4_areLines_11 (by decide) ?_
      refine lv_goto (tgt := 16) hx hb dX4_areLines_12 (by decide) ?_
      cases h
      exact hret _ _ _ _ hG dX4_areLines_16 rfl
set_option maxRecDepth 100000 in
set_option maxHeartbeats 4000000 in
theorem cc_X4_layOutCovers {l : Launch} {D : va_G} {cI : ClassId} {tL : Nat} (ad : Nat → Nat) (finding : Int32) (asked : Int32) (upper : Int64) (lower : Int64) (r_items : Nat → Int32) (r_sizes : Nat → Int32) (t_items : Nat → Int32) (t_sizes : Nat → Int32) (d_items : Nat → Int32) (d_sizes : Nat → Int32) (st_size : Int32) (st_need : Int32) (st_lifted : Int32) (st_licked : Int32) (st_morning : Int32) (st_tally : Int32) (st_kinds : Nat → Int32) (st_places : Nat → Int32) (st_lengths : Nat → Int32) (st_downs : Nat → Int32) (st_covers : Nat → Int32) (sl_size : Int32) (sl_need : Int32) (sl_lifted : Int32) (sl_licked : Int32) (sl_morning : Int32) (sl_tally : Int32) (sl_kinds : Nat → Int32) (sl_places : Nat → Int32) (sl_lengths : Nat → Int32) (sl_downs : Nat → Int32) (sl_covers : Nat → Int32) (as_size : Int32) (as_need : Int32) (as_lifted : Int32) (as_licked : Int32) (as_morning : Int32) (as_tally : Int32) (as_kinds : Nat → Int32) (as_places : Nat → Int32) (as_lengths : Nat → Int32) (as_downs : Nat → Int32) (as_covers : Nat → Int32) (text : Int32) (place : Int32) (count : Int32) (least : Int32) (inAll : Int32) (inSome : Int32) (scratch : Nat → Int32) (findings : Nat → Int32) (scratch' : Nat → Int32) (h : fX4_layOutCovers sl_size sl_kinds sl_lengths sl_downs scratch = some scratch') : Cv l D cI tL yX4_layOutCovers cX4_layOutCovers 3 rmX4_layOutCovers (wX4 cI ad finding asked upper lower r_items r_sizes t_items t_sizes d_items d_sizes st_size st_need st_lifted st_licked st_morning st_tally st_kinds st_places st_lengths st_downs st_covers sl_size sl_need sl_lifted sl_licked sl_morning sl_tally sl_kinds sl_places sl_lengths sl_downs sl_covers as_size as_need as_lifted as_licked as_morning as_tally as_kinds as_places as_lengths as_downs as_covers text place count least inAll inSome scratch findings) [.ref (ad 0)] (wX4 cI ad finding asked upper lower r_items r_sizes t_items t_sizes d_items d_sizes st_size st_need st_lifted st_licked st_morning st_tally st_kinds st_places st_lengths st_downs st_covers sl_size sl_need sl_lifted sl_licked sl_morning sl_tally sl_kinds sl_places sl_lengths sl_downs sl_covers as_size as_need as_lifted as_licked as_morning as_tally as_kinds as_places as_lengths as_downs as_covers text place count least inAll inSome scratch' findings) := by
  refine Cv_of (own := RX4) (by decide) (Nat.le_of_ble_eq_true rfl) rfl ?_
  intro p e s m below meth c Q A AV hc hret ls hl hG
  obtain ⟨hx, hb, hml, hown, hts, hK, hA, hz⟩ := id hc
  have hl : lv_has ls 3 [(0, .ref (ad 0))] := hl
  have hL_21 : ∀ (x1 : Int32) (scratch_o : Nat → Int32), (∀ (ls : Array Slot) (H : Heap) (locs : List Loc), lv_has ls 3 [(0, .ref (ad 0)), (1, .int x1)] → St D A s (wX4 cI ad finding asked upper lower r_items r_sizes t_items t_sizes d_items d_sizes st_size st_need st_lifted st_licked st_morning st_tally st_kinds st_places st_lengths st_downs st_covers sl_size sl_need sl_lifted sl_licked sl_morning sl_tally sl_kinds sl_places sl_lengths sl_downs sl_covers as_size as_need as_lifted as_licked as_morning as_tally as_kinds as_places as_lengths as_downs as_covers text place count least inAll inSome scratch_o findings) H locs → W p l e rmX4_layOutCovers s m AV below meth c H locs 0 0 Q (F0 m 61 ls [])) → ∀ (n : Nat) (scratch : Nat → Int32) (x2 : Int32), fX4_layOutCovers_L21 sl_size sl_kinds sl_lengths sl_downs x1 n scratch x2 = some scratch_o → ∀ (ls : Array Slot) (H : Heap) (locs : List Loc), lv_has ls 3 [(0, .ref (ad 0)), (1, .int x1), (2, .int x2)] → St D A s (wX4 cI ad finding asked upper lower r_items r_sizes t_items t_sizes d_items d_sizes st_size st_need st_lifted st_licked st_morning st_tally st_kinds st_places st_lengths st_downs st_covers sl_size sl_need sl_lifted sl_licked sl_morning sl_tally sl_kinds sl_places sl_lengths sl_downs sl_covers as_size as_need as_lifted as_licked as_morning as_tally as_kinds as_places as_lengths as_downs as_covers text place count least inAll inSome scratch findings) H locs → W p l e rmX4_layOutCovers s m AV below meth c H locs 0 0 Q (F0 m 21 ls []) := by
    intro x1 scratch_o KE n
    induction n with
    | zero =>
      intro scratch x2 h
      exact nomatch (show none = some _ from h)
    | succ n ih =>
      intro scratch x2 h ls H locs hl hG
      have h : fX4_layOutCovers_B21 sl_size sl_kinds sl_lengths sl_downs x1 (fX4_layOutCovers_L21 sl_size sl_kinds sl_lengths sl_downs x1 n) scratch x2 = some scratch_o := h
      unfold fX4_layOutCovers_B21 at h
      refine lv_iload_n hx hb dX4_layOutCovers_21 rfl (lv_at hl 2 rfl) ?_
      refine lv_bipush (v := 16) hx hb dX4_layOutCovers_22 (by decide) ?_
      refine lv_icmp_ge (tgt := 61) hx hb dX4_layOutCovers_24 (by decide) (fun c24 => ?_) (fun c24 => ?_)
      · rw [if_pos c24] at h
        cases h
        exact KE _ _ _ (lv_sub hl [0, 1] rfl) hG
      · rw [if_neg c24] at h
        refine lv_aload_n hx hb dX4_layOutCovers_27 rfl (lv_at hl 0 rfl) ?_
        refine x_get hc hG 0 rfl iX4 8 lX4_57 rfl dX4_layOutCovers_28 ?_
        refine lv_iload_n hx hb dX4_layOutCovers_31 rfl (lv_at hl 1 rfl) ?_
        refine lv_bipush (v := 16) hx hb dX4_layOutCovers_32 (by decide) ?_
        refine lv_imul hx hb dX4_layOutCovers_34 ?_
        refine lv_iload_n hx hb dX4_layOutCovers_35 rfl (lv_at hl 2 rfl) ?_
        refine lv_iadd hx hb dX4_layOutCovers_36 ?_
        refine lv_aload_n hx hb dX4_layOutCovers_37 rfl (lv_at hl 0 rfl) ?_
        refine x_get hc hG 0 rfl iX4 4 lX4_35 rfl dX4_layOutCovers_38 ?_
        refine lv_iload_n hx hb dX4_layOutCovers_41 rfl (lv_at hl 1 rfl) ?_
        refine lv_iload_n hx hb dX4_layOutCovers_42 rfl (lv_at hl 2 rfl) ?_
        refine lv_aload_n hx hb dX4_layOutCovers_43 rfl (lv_at hl 0 rfl) ?_
        refine x_get hc hG 0 rfl iX4 4 lX4_35 rfl dX4_layOutCovers_44 ?_
        refine lv_iload_n hx hb dX4_layOutCovers_47 rfl (lv_at hl 1 rfl) ?_
        obtain ⟨v48, e48, h⟩ := bd1_some h
        refine x_vi (rest := [.int x2, .int x1, .ref (ad 16), .int ((x1 * 16) + x2), .ref (ad 30)]) (ws' := (wX4 cI ad finding asked upper lower r_items r_sizes t_items t_sizes d_items d_sizes st_size st_need st_lifted st_licked st_morning st_tally st_kinds st_places st_lengths st_downs st_covers sl_size sl_need sl_lifted sl_licked sl_morning sl_tally sl_kinds sl_places sl_lengths sl_downs sl_covers as_size as_need as_lifted as_licked as_morning as_tally as_kinds as_places as_lengths as_downs as_covers text place count least inAll inSome scratch findings)) hc hG (cc_X3_downOf (fun k => ad (16 + k)) sl_size sl_need sl_lifted sl_licked sl_morning sl_tally sl_kinds sl_places sl_lengths sl_downs sl_covers x1 v48 e48) [16, 17, 18, 19, 20, 21] [0, 1, 2, 3, 4, 5, 6, 7, 8, 9, 10, 11, 12, 13, 14, 15, 22, 23, 24, 25, 26, 27, 28, 29, 30, 31] [0, 1, 2, 3, 4, 5, 6, 7, 8, 9, 10, 11, 12, 13, 14, 15, 26, 27, 28, 29, 30, 31, 16, 17, 18, 19, 20, 21, 22, 23, 24, 25] rfl rfl rfl 16 rfl rfl lX4_149 ⟨rfl, rfl, by decide, by decide⟩ rfl hl.1 (Nat.le_of_ble_eq_true rfl) rfl dX4_layOutCovers_48 (fun H locs hG => ?_)
        obtain ⟨v51, e51, h⟩ := bd1_some h
        refine x_vi (rest := [.int ((x1 * 16) + x2), .ref (ad 30)]) (ws' := (wX4 cI ad finding asked upper lower r_items r_sizes t_items t_sizes d_items d_sizes st_size st_need st_lifted st_licked st_morning st_tally st_kinds st_places st_lengths st_downs st_covers sl_size sl_need sl_lifted sl_licked sl_morning sl_tally sl_kinds sl_places sl_lengths sl_downs sl_covers as_size as_need as_lifted as_licked as_morning as_tally as_kinds as_places as_lengths as_downs as_covers text place count least inAll inSome scratch findings)) hc hG (cc_X3_coverAt (fun k => ad (16 + k)) sl_size sl_need sl_lifted sl_licked sl_morning sl_tally sl_kinds sl_places sl_lengths sl_downs sl_covers x1 x2 v48 v51 e51) [16, 17, 18, 19, 20, 21] [0, 1, 2, 3, 4, 5, 6, 7, 8, 9, 10, 11, 12, 13, 14, 15, 22, 23, 24, 25, 26, 27, 28, 29, 30, 31] [0, 1, 2, 3, 4, 5, 6, 7, 8, 9, 10, 11, 12, 13, 14, 15, 26, 27, 28, 29, 30, 31, 16, 17, 18, 19, 20, 21, 22, 23, 24, 25] rfl rfl rfl 16 rfl rfl lX4_174 ⟨rfl, rfl, by decide, by decide⟩ rfl hl.1 (Nat.le_of_ble_eq_true rfl) rfl dX4_layOutCovers_51 (fun H locs hG => ?_)
        obtain ⟨scratch_54, e54, h⟩ := bd1_some h
        refine x_ast (ws' := (wX4 cI ad finding asked upper lower r_items r_sizes t_items t_sizes d_items d_sizes st_size st_need st_lifted st_licked st_morning st_tally st_kinds st_places st_lengths st_downs st_covers sl_size sl_need sl_lifted sl_licked sl_morning sl_tally sl_kinds sl_places sl_lengths sl_downs sl_covers as_size as_need as_lifted as_licked as_morning as_tally as_kinds as_places as_lengths as_downs as_covers text place count least inAll inSome scratch_54 findings)) hc hG 30 rfl e54 rfl dX4_layOutCovers_54 (fun H locs hG => ?_)
        refine lv_iinc (v := (x2 + 1)) (lv' := [(2, .int (x2 + 1)), (0, .ref (ad 0)), (1, .int x1)]) hx hb dX4_layOutCovers_55 hl (k := 2) rfl rfl (by decide) rfl (fun ls hl => ?_)
        refine lv_goto (tgt := 21) hx hb dX4_layOutCovers_58 (by decide) ?_
        exact ih _ _ h _ _ _ (lv_sub hl [1, 2, 0] rfl) hG
  have hL_2 : ∀  (scratch_o : Nat → Int32), (∀ (ls : Array Slot) (H : Heap) (locs : List Loc), lv_has ls 3 [(0, .ref (ad 0))] → St D A s (wX4 cI ad finding asked upper lower r_items r_sizes t_items t_sizes d_items d_sizes st_size st_need st_lifted st_licked st_morning st_tally st_kinds st_places st_lengths st_downs st_covers sl_size sl_need sl_lifted sl_licked sl_morning sl_tally sl_kinds sl_places sl_lengths sl_downs sl_covers as_size as_need as_lifted as_licked as_morning as_tally as_kinds as_places as_lengths as_downs as_covers text place count least inAll inSome scratch_o findings) H locs → W p l e rmX4_layOutCovers s m AV below meth c H locs 0 0 Q (F0 m 67 ls [])) → ∀ (n : Nat) (scratch : Nat → Int32) (x1 : Int32), fX4_layOutCovers_L2 sl_size sl_kinds sl_lengths sl_downs n scratch x1 = some scratch_o → ∀ (ls : Array Slot) (H : Heap) (locs : List Loc), lv_has ls 3 [(0, .ref (ad 0)), (1, .int x1)] → St D A s (wX4 cI ad finding asked upper lower r_items r_sizes t_items t_sizes d_items d_sizes st_size st_need st_lifted st_licked st_morning st_tally st_kinds st_places st_lengths st_downs st_covers sl_size sl_need sl_lifted sl_licked sl_morning sl_tally sl_kinds sl_places sl_lengths sl_downs sl_covers as_size as_need as_lifted as_licked as_morning as_tally as_kinds as_places as_lengths as_downs as_covers text place count least inAll inSome scratch findings) H locs → W p l e rmX4_layOutCovers s m AV below meth c H locs 0 0 Q (F0 m 2 ls []) := by
    intro scratch_o KE n
    induction n with
    | zero =>
      intro scratch x1 h
      exact nomatch (show none = some _ from h)
    | succ n ih =>
      intro scratch x1 h ls H locs hl hG
      have h : fX4_layOutCovers_B2 sl_size sl_kinds sl_lengths sl_downs (fX4_layOutCovers_L2 sl_size sl_kinds sl_lengths sl_downs n) scratch x1 = some scratch_o := h
      unfold fX4_layOutCovers_B2 at h
      refine lv_iload_n hx hb dX4_layOutCovers_2 rfl (lv_at hl 1 rfl) ?_
      refine lv_aload_n hx hb dX4_layOutCovers_3 rfl (lv_at hl 0 rfl) ?_
      refine x_get hc hG 0 rfl iX4 4 lX4_35 rfl dX4_layOutCovers_4 ?_
      refine x_getN hc hG 16 rfl iX3 5 lX4_118 rfl dX4_layOutCovers_7 ?_
      refine lv_icmp_ge (tgt := 67) hx hb dX4_layOutCovers_10 (by decide) (fun c10 => ?_) (fun c10 => ?_)
      · rw [if_pos c10] at h
        cases h
        exact KE _ _ _ (lv_sub hl [0] rfl) hG
      · rw [if_neg c10] at h
        refine lv_iload_n hx hb dX4_layOutCovers_13 rfl (lv_at hl 1 rfl) ?_
        refine lv_bipush (v := 6) hx hb dX4_layOutCovers_14 (by decide) ?_
        refine lv_icmp_ge (tgt := 67) hx hb dX4_layOutCovers_16 (by decide) (fun c16 => ?_) (fun c16 => ?_)
        · rw [if_pos c16] at h
          cases h
          exact KE _ _ _ (lv_sub hl [0] rfl) hG
        · rw [if_neg c16] at h
          refine lv_iconst (v := 0) hx hb dX4_layOutCovers_19 (by decide) ?_
          refine lv_istore_n (lv' := [(2, .int 0), (0, .ref (ad 0)), (1, .int x1)]) hx hb dX4_layOutCovers_20 rfl hl (by decide) rfl (fun ls hl => ?_)
          obtain ⟨scratch_L21, e21, h⟩ := bd1_some h
          refine hL_21 _ _ (fun ls H locs hl hG => ?_) _ _ _ e21 _ _ _ (lv_sub hl [1, 2, 0] rfl) hG
          refine lv_iinc (v := (x1 + 1)) (lv' := [(1, .int (x1 + 1)), (0, .ref (ad 0))]) hx hb dX4_layOutCovers_61 hl (k := 1) rfl rfl (by decide) rfl (fun ls hl => ?_)
          refine lv_goto (tgt := 2) hx hb dX4_layOutCovers_64 (by decide) ?_
          exact ih _ _ h _ _ _ (lv_sub hl [1, 0] rfl) hG
  unfold fX4_layOutCovers at h
  refine lv_iconst (v := 0) hx hb dX4_layOutCovers_0 (by decide) ?_
  refine lv_istore_n (lv' := [(1, .int 0), (0, .ref (ad 0))]) hx hb dX4_layOutCovers_1 rfl hl (by decide) rfl (fun ls hl => ?_)
  obtain ⟨scratch_L2, e2, h⟩ := bd1_some h
  refine hL_2 _ (fun ls H locs hl hG => ?_) _ _ _ e2 _ _ _ (lv_sub hl [1, 0] rfl) hG
  cases h
  exact hret _ _ _ _ hG dX4_layOutCovers_67
set_option maxRecDepth 100000 in
set_option maxHeartbeats 4000000 in
theorem cc_X4_foundByOne {l : Launch} {D : va_G} {cI : ClassId} {tL : Nat} (ad : Nat → Nat) (finding : Int32) (asked : Int32) (upper : Int64) (lower : Int64) (r_items : Nat → Int32) (r_sizes : Nat → Int32) (t_items : Nat → Int32) (t_sizes : Nat → Int32) (d_items : Nat → Int32) (d_sizes : Nat → Int32) (st_size : Int32) (st_need : Int32) (st_lifted : Int32) (st_licked : Int32) (st_morning : Int32) (st_tally : Int32) (st_kinds : Nat → Int32) (st_places : Nat → Int32) (st_lengths : Nat → Int32) (st_downs : Nat → Int32) (st_covers : Nat → Int32) (sl_size : Int32) (sl_need : Int32) (sl_lifted : Int32) (sl_licked : Int32) (sl_morning : Int32) (sl_tally : Int32) (sl_kinds : Nat → Int32) (sl_places : Nat → Int32) (sl_lengths : Nat → Int32) (sl_downs : Nat → Int32) (sl_covers : Nat → Int32) (as_size : Int32) (as_need : Int32) (as_lifted : Int32) (as_licked : Int32) (as_morning : Int32) (as_tally : Int32) (as_kinds : Nat → Int32) (as_places : Nat → Int32) (as_lengths : Nat → Int32) (as_downs : Nat → Int32) (as_covers : Nat → Int32) (text : Int32) (place : Int32) (count : Int32) (least : Int32) (inAll : Int32) (inSome : Int32) (scratch : Nat → Int32) (findings : Nat → Int32) (x1 : Int32) (x2 : Int32) (r' : Int32) (r_items' : Nat → Int32) (r_sizes' : Nat → Int32) (h : fX4_foundByOne r_items r_sizes sl_size sl_need sl_lifted sl_licked sl_covers scratch x1 x2 = some (r', r_items', r_sizes')) : Ci l D cI tL yX4_foundByOne cX4_foundByOne 7 .boolean rmX4_foundByOne (wX4 cI ad finding asked upper lower r_items r_sizes t_items t_sizes d_items d_sizes st_size st_need st_lifted st_licked st_morning st_tally st_kinds st_places st_lengths st_downs st_covers sl_size sl_need sl_lifted sl_licked sl_morning sl_tally sl_kinds sl_places sl_lengths sl_downs sl_covers as_size as_need as_lifted as_licked as_morning as_tally as_kinds as_places as_lengths as_downs as_covers text place count least inAll inSome scratch findings) [.ref (ad 0), .int x1, .int x2] r' (wX4 cI ad finding asked upper lower r_items' r_sizes' t_items t_sizes d_items d_sizes st_size st_need st_lifted st_licked st_morning st_tally st_kinds st_places st_lengths st_downs st_covers sl_size sl_need sl_lifted sl_licked sl_morning sl_tally sl_kinds sl_places sl_lengths sl_downs sl_covers as_size as_need as_lifted as_licked as_morning as_tally as_kinds as_places as_lengths as_downs as_covers text place count least inAll inSome scratch findings) := by
  refine Ci_of (own := RX4) (by decide) (Nat.le_of_ble_eq_true rfl) rfl ?_
  intro p e s m below meth c Q A AV hc hret ls hl hG
  obtain ⟨hx, hb, hml, hown, hts, hK, hA, hz⟩ := id hc
  have hl : lv_has ls 7 [(0, .ref (ad 0)), (1, .int x1), (2, .int x2)] := hl
  have hL_47 : ∀ (x1 : Int32) (x2 : Int32) (x3 : Int32) (x4 : Int32) (o : ((Int32 × (Nat → Int32) × (Nat → Int32)) ⊕ ((Nat → Int32) × (Nat → Int32)))), (∀ (r : Int32) (r_items_r : Nat → Int32) (r_sizes_r : Nat → Int32), o = .inl (r, r_items_r, r_sizes_r) → ∀ (H : Heap) (locs : List Loc) (pc : Nat) (ls : Array Slot), St D A s (wX4 cI ad finding asked upper lower r_items_r r_sizes_r t_items t_sizes d_items d_sizes st_size st_need st_lifted st_licked st_morning st_tally st_kinds st_places st_lengths st_downs st_covers sl_size sl_need sl_lifted sl_licked sl_morning sl_tally sl_kinds sl_places sl_lengths sl_downs sl_covers as_size as_need as_lifted as_licked as_morning as_tally as_kinds as_places as_lengths as_downs as_covers text place count least inAll inSome scratch findings) H locs → decode cX4_foundByOne pc = .ok (.ireturn, 1) → narrow .boolean (.int r) = .int r → W p l e rmX4_foundByOne s m AV below meth c H locs 0 0 Q (F0 m pc ls [.int r])) → (∀ (r_items_o : Nat → Int32) (r_sizes_o : Nat → Int32), o = .inr (r_items_o, r_sizes_o) → ∀ (ls : Array Slot) (H : Heap) (locs : List Loc), lv_has ls 7 [(0, .ref (ad 0)), (1, .int x1), (2, .int x2), (3, .int x3)] → St D A s (wX4 cI ad finding asked upper lower r_items_o r_sizes_o t_items t_sizes d_items d_sizes st_size st_need st_lifted st_licked st_morning st_tally st_kinds st_places st_lengths st_downs st_covers sl_size sl_need sl_lifted sl_licked sl_morning sl_tally sl_kinds sl_places sl_lengths sl_downs sl_covers as_size as_need as_lifted as_licked as_morning as_tally as_kinds as_places as_lengths as_downs as_covers text place count least inAll inSome scratch findings) H locs → W p l e rmX4_foundByOne s m AV below meth c H locs 0 0 Q (F0 m 131 ls [])) → ∀ (n : Nat) (r_items : Nat → Int32) (r_sizes : Nat → Int32) (x5 : Int32), fX4_foundByOne_L47 sl_need sl_licked scratch x1 x2 x3 x4 n r_items r_sizes x5 = some o → ∀ (ls : Array Slot) (H : Heap) (locs : List Loc), lv_has ls 7 [(0, .ref (ad 0)), (1, .int x1), (2, .int x2), (3, .int x3), (4, .int x4), (5, .int x5)] → St D A s (wX4 cI ad finding asked upper lower r_items r_sizes t_items t_sizes d_items d_sizes st_size st_need st_lifted st_licked st_morning st_tally st_kinds st_places st_lengths st_downs st_covers sl_size sl_need sl_lifted sl_licked sl_morning sl_tally sl_kinds sl_places sl_lengths sl_downs sl_covers as_size as_need as_lifted as_licked as_morning as_tally as_kinds as_places as_lengths as_downs as_covers text place count least inAll inSome scratch findings) H locs → W p l e rmX4_foundByOne s m AV below meth c H locs 0 0 Q (F0 m 47 ls []) := by
    intro x1 x2 x3 x4 o KR KE n
    induction n with
    | zero =>
      intro r_items r_sizes x5 h
      exact nomatch (show none = some _ from h)
    | succ n ih =>
      intro r_items r_sizes x5 h ls H locs hl hG
      have h : fX4_foundByOne_B47 sl_need sl_licked scratch x1 x2 x3 x4 (fX4_foundByOne_L47 sl_need sl_licked scratch x1 x2 x3 x4 n) r_items r_sizes x5 = some o := h
      unfold fX4_foundByOne_B47 at h
      refine lv_iload hx hb dX4_foundByOne_47 (lv_at hl 5 rfl) ?_
      refine lv_bipush (v := 16) hx hb dX4_foundByOne_49 (by decide) ?_
      refine lv_icmp_ge (tgt := 131) hx hb dX4_foundByOne_51 (by decide) (fun c51 => ?_) (fun c51 => ?_)
      · rw [if_pos c51] at h
        cases h
        exact KE _ _ rfl _ _ _ (lv_sub hl [0, 1, 2, 3] rfl) hG
      · rw [if_neg c51] at h
        refine lv_iload hx hb dX4_foundByOne_54 (lv_at hl 4 rfl) ?_
        refine lv_aload_n hx hb dX4_foundByOne_56 rfl (lv_at hl 0 rfl) ?_
        refine x_get hc hG 0 rfl iX4 8 lX4_57 rfl dX4_foundByOne_57 ?_
        refine lv_iload_n hx hb dX4_foundByOne_60 rfl (lv_at hl 3 rfl) ?_
        refine lv_bipush (v := 16) hx hb dX4_foundByOne_61 (by decide) ?_
        refine lv_imul hx hb dX4_foundByOne_63 ?_
        refine lv_iload hx hb dX4_foundByOne_64 (lv_at hl 5 rfl) ?_
        refine lv_iadd hx hb dX4_foundByOne_66 ?_
        obtain ⟨v67, e67, h⟩ := bd1_some h
        refine x_ald hc hG 30 rfl e67 dX4_foundByOne_67 ?_
        refine lv_ior hx hb dX4_foundByOne_68 ?_
        refine lv_istore (lv' := [(6, .int (x4 ||| v67)), (0, .ref (ad 0)), (1, .int x1), (2, .int x2), (3, .int x3), (4, .int x4), (5, .int x5)]) hx hb dX4_foundByOne_69 hl (by decide) rfl (fun ls hl => ?_)
        refine lv_aload_n hx hb dX4_foundByOne_71 rfl (lv_at hl 1 rfl) ?_
        refine x_get hc hG 0 rfl iX4 4 lX4_35 rfl dX4_foundByOne_72 ?_
        refine lv_iload_n hx hb dX4_foundByOne_75 rfl (lv_at hl 2 rfl) ?_
        refine lv_iload hx hb dX4_foundByOne_76 (lv_at hl 0 rfl) ?_
        refine lv_aload_n hx hb dX4_foundByOne_78 rfl (lv_at hl 1 rfl) ?_
        refine x_get hc hG 0 rfl iX4 4 lX4_35 rfl dX4_foundByOne_79 ?_
        refine x_getN hc hG 16 rfl iX3 8 lX4_161 rfl dX4_foundByOne_82 ?_
        refine lv_iconst (v := (-1)) hx hb dX4_foundByOne_85 (by decide) ?_
        refine lv_ixor hx hb dX4_foundByOne_86 ?_
        refine lv_iand hx hb dX4_foundByOne_87 ?_
        obtain ⟨v88, e88, h⟩ := bd1_some h
        refine x_vi (rest := []) (ws' := (wX4 cI ad finding asked upper lower r_items r_sizes t_items t_sizes d_items d_sizes st_size st_need st_lifted st_licked st_morning st_tally st_kinds st_places st_lengths st_downs st_covers sl_size sl_need sl_lifted sl_licked sl_morning sl_tally sl_kinds sl_places sl_lengths sl_downs sl_covers as_size as_need as_lifted as_licked as_morning as_tally as_kinds as_places as_lengths as_downs as_covers text place count least inAll inSome scratch findings)) hc hG (cc_X3_areRead (fun k => ad (16 + k)) sl_size sl_need sl_lifted sl_licked sl_morning sl_tally sl_kinds sl_places sl_lengths sl_downs sl_covers x1 ((x4 ||| v67) &&& (sl_licked ^^^ (-1))) v88 e88) [16, 17, 18, 19, 20, 21] [0, 1, 2, 3, 4, 5, 6, 7, 8, 9, 10, 11, 12, 13, 14, 15, 22, 23, 24, 25, 26, 27, 28, 29, 30, 31] [0, 1, 2, 3, 4, 5, 6, 7, 8, 9, 10, 11, 12, 13, 14, 15, 26, 27, 28, 29, 30, 31, 16, 17, 18, 19, 20, 21, 22, 23, 24, 25] rfl rfl rfl 16 rfl rfl lX4_199 ⟨rfl, rfl, by decide, by decide⟩ rfl hl.1 (Nat.le_of_ble_eq_true rfl) rfl dX4_foundByOne_88 (fun H locs hG => ?_)
        refine lv_if_eq (tgt := 125) hx hb dX4_foundByOne_91 (by decide) (fun c91 => ?_) (fun c91 => ?_)
        · rw [if_pos c91] at h
          refine lv_iinc (v := (x5 + 1)) (lv' := [(5, .int (x5 + 1)), (6, .int (x4 ||| v67)), (0, .ref (ad 0)), (1, .int x1), (2, .int x2), (3, .int x3), (4, .int x4)]) hx hb dX4_foundByOne_125 hl (k := 6) rfl rfl (by decide) rfl (fun ls hl => ?_)
          refine lv_goto (tgt := 47) hx hb dX4_foundByOne_128 (by decide) ?_
          exact ih _ _ _ h _ _ _ (lv_sub hl [2, 3, 4, 5, 6, 0] rfl) hG
        · rw [if_neg c91] at h
          refine lv_aload_n hx hb dX4_foundByOne_94 rfl (lv_at hl 1 rfl) ?_
          refine x_get hc hG 0 rfl iX4 0 lX4_14 rfl dX4_foundByOne_95 ?_
          refine lv_iload_n hx hb dX4_foundByOne_98 rfl (lv_at hl 3 rfl) ?_
          refine lv_iconst (v := 0) hx hb dX4_foundByOne_99 (by decide) ?_
          refine lv_iconst (v := 0) hx hb dX4_foundByOne_100 (by decide) ?_
          obtain ⟨r_items_101, r_sizes_101, e101, h⟩ := bd2_some h
          refine x_vv (rest := []) (ws' := (wX4 cI ad finding asked upper lower r_items_101 r_sizes_101 t_items t_sizes d_items d_sizes st_size st_need st_lifted st_licked st_morning st_tally st_kinds st_places st_lengths st_downs st_covers sl_size sl_need sl_lifted sl_licked sl_morning sl_tally sl_kinds sl_places sl_lengths sl_downs sl_covers as_size as_need as_lifted as_licked as_morning as_tally as_kinds as_places as_lengths as_downs as_covers text place count least inAll inSome scratch findings)) hc hG (cc_X2_make (fun k => ad (1 + k)) 240 6 40 r_items r_sizes x2 0 0 r_items_101 r_sizes_101 e101) [1, 2, 3] [0, 4, 5, 6, 7, 8, 9, 10, 11, 12, 13, 14, 15, 16, 17, 18, 19, 20, 21, 22, 23, 24, 25, 26, 27, 28, 29, 30, 31] [0, 29, 30, 31, 1, 2, 3, 4, 5, 6, 7, 8, 9, 10, 11, 12, 13, 14, 15, 16, 17, 18, 19, 20, 21, 22, 23, 24, 25, 26, 27, 28] rfl rfl rfl 1 rfl rfl lX4_24 ⟨rfl, rfl, by decide, by decide⟩ rfl hl.1 (Nat.le_of_ble_eq_true rfl) rfl dX4_foundByOne_101 (fun H locs hG => ?_)
          refine lv_aload_n hx hb dX4_foundByOne_104 rfl (lv_at hl 1 rfl) ?_
          refine x_get hc hG 0 rfl iX4 0 lX4_14 rfl dX4_foundByOne_105 ?_
          refine lv_iload_n hx hb dX4_foundByOne_108 rfl (lv_at hl 3 rfl) ?_
          refine lv_iload_n hx hb dX4_foundByOne_109 rfl (lv_at hl 4 rfl) ?_
          obtain ⟨r_items_110, r_sizes_110, e110, h⟩ := bd2_some h
          refine x_vv (rest := []) (ws' := (wX4 cI ad finding asked upper lower r_items_110 r_sizes_110 t_items t_sizes d_items d_sizes st_size st_need st_lifted st_licked st_morning st_tally st_kinds st_places st_lengths st_downs st_covers sl_size sl_need sl_lifted sl_licked sl_morning sl_tally sl_kinds sl_places sl_lengths sl_downs sl_covers as_size as_need as_lifted as_licked as_morning as_tally as_kinds as_places as_lengths as_downs as_covers text place count least inAll inSome scratch findings)) hc hG (cc_X2_append (fun k => ad (1 + k)) 240 6 40 r_items_101 r_sizes_101 x2 x3 r_items_110 r_sizes_110 e110) [1, 2, 3] [0, 4, 5, 6, 7, 8, 9, 10, 11, 12, 13, 14, 15, 16, 17, 18, 19, 20, 21, 22, 23, 24, 25, 26, 27, 28, 29, 30, 31] [0, 29, 30, 31, 1, 2, 3, 4, 5, 6, 7, 8, 9, 10, 11, 12, 13, 14, 15, 16, 17, 18, 19, 20, 21, 22, 23, 24, 25, 26, 27, 28] rfl rfl rfl 1 rfl rfl lX4_314 ⟨rfl, rfl, by decide, by decide⟩ rfl hl.1 (Nat.le_of_ble_eq_true rfl) rfl dX4_foundByOne_110 (fun H locs hG => ?_)
          refine lv_aload_n hx hb dX4_foundByOne_113 rfl (lv_at hl 1 rfl) ?_
          refine x_get hc hG 0 rfl iX4 0 lX4_14 rfl dX4_foundByOne_114 ?_
          refine lv_iload_n hx hb dX4_foundByOne_117 rfl (lv_at hl 3 rfl) ?_
          refine lv_iload hx hb dX4_foundByOne_118 (lv_at hl 6 rfl) ?_
          obtain ⟨r_items_120, r_sizes_120, e120, h⟩ := bd2_some h
          refine x_vv (rest := []) (ws' := (wX4 cI ad finding asked upper lower r_items_120 r_sizes_120 t_items t_sizes d_items d_sizes st_size st_need st_lifted st_licked st_morning st_tally st_kinds st_places st_lengths st_downs st_covers sl_size sl_need sl_lifted sl_licked sl_morning sl_tally sl_kinds sl_places sl_lengths sl_downs sl_covers as_size as_need as_lifted as_licked as_morning as_tally as_kinds as_places as_lengths as_downs as_covers text place count least inAll inSome scratch findings)) hc hG (cc_X2_append (fun k => ad (1 + k)) 240 6 40 r_items_110 r_sizes_110 x2 x5 r_items_120 r_sizes_120 e120) [1, 2, 3] [0, 4, 5, 6, 7, 8, 9, 10, 11, 12, 13, 14, 15, 16, 17, 18, 19, 20, 21, 22, 23, 24, 25, 26, 27, 28, 29, 30, 31] [0, 29, 30, 31, 1, 2, 3, 4, 5, 6, 7, 8, 9, 10, 11, 12, 13, 14, 15, 16, 17, 18, 19, 20, 21, 22, 23, 24, 25, 26, 27, 28] rfl rfl rfl 1 rfl rfl lX4_314 ⟨rfl, rfl, by decide, by decide⟩ rfl hl.1 (Nat.le_of_ble_eq_true rfl) rfl dX4_foundByOne_120 (fun H locs hG => ?_)
          refine lv_iconst (v := 1) hx hb dX4_foundByOne_123 (by decide) ?_
          cases h
          exact KR _ _ _ rfl _ _ _ _ hG dX4_foundByOne_124 rfl
  have hL_2 : ∀ (x1 : Int32) (x2 : Int32) (o : ((Int32 × (Nat → Int32) × (Nat → Int32)) ⊕ ((Nat → Int32) × (Nat → Int32)))), (∀ (r : Int32) (r_items_r : Nat → Int32) (r_sizes_r : Nat → Int32), o = .inl (r, r_items_r, r_sizes_r) → ∀ (H : Heap) (locs : List Loc) (pc : Nat) (ls : Array Slot), St D A s (wX4 cI ad finding asked upper lower r_items_r r_sizes_r t_items t_sizes d_items d_sizes st_size st_need st_lifted st_licked st_morning st_tally st_kinds st_places st_lengths st_downs st_covers sl_size sl_need sl_lifted sl_licked sl_morning sl_tally sl_kinds sl_places sl_lengths sl_downs sl_covers as_size as_need as_lifted as_licked as_morning as_tally as_kinds as_places as_lengths as_downs as_covers text place count least inAll inSome scratch findings) H locs → decode cX4_foundByOne pc = .ok (.ireturn, 1) → narrow .boolean (.int r) = .int r → W p l e rmX4_foundByOne s m AV below meth c H locs 0 0 Q (F0 m pc ls [.int r])) → (∀ (r_items_o : Nat → Int32) (r_sizes_o : Nat → Int32), o = .inr (r_items_o, r_sizes_o) → ∀ (ls : Array Slot) (H : Heap) (locs : List Loc), lv_has ls 7 [(0, .ref (ad 0))] → St D A s (wX4 cI ad finding asked upper lower r_items_o r_sizes_o t_items t_sizes d_items d_sizes st_size st_need st_lifted st_licked st_morning st_tally st_kinds st_places st_lengths st_downs st_covers sl_size sl_need sl_lifted sl_licked sl_morning sl_tally sl_kinds sl_places sl_lengths sl_downs sl_covers as_size as_need as_lifted as_licked as_morning as_tally as_kinds as_places as_lengths as_downs as_covers text place count least inAll inSome scratch findings) H locs → W p l e rmX4_foundByOne s m AV below meth c H locs 0 0 Q (F0 m 137 ls [])) → ∀ (n : Nat) (r_items : Nat → Int32) (r_sizes : Nat → Int32) (x3 : Int32), fX4_foundByOne_L2 sl_size sl_need sl_lifted sl_licked sl_covers scratch x1 x2 n r_items r_sizes x3 = some o → ∀ (ls : Array Slot) (H : Heap) (locs : List Loc), lv_has ls 7 [(0, .ref (ad 0)), (1, .int x1), (2, .int x2), (3, .int x3)] → St D A s (wX4 cI ad finding asked upper lower r_items r_sizes t_items t_sizes d_items d_sizes st_size st_need st_lifted st_licked st_morning st_tally st_kinds st_places st_lengths st_downs st_covers sl_size sl_need sl_lifted sl_licked sl_morning sl_tally sl_kinds sl_places sl_lengths sl_downs sl_covers as_size as_need as_lifted as_licked as_morning as_tally as_kinds as_places as_lengths as_downs as_covers text place count least inAll inSome scratch findings) H locs → W p l e rmX4_foundByOne s m AV below meth c H locs 0 0 Q (F0 m 2 ls []) := by
    intro x1 x2 o KR KE n
    induction n with
    | zero =>
      intro r_items r_sizes x3 h
      exact nomatch (show none = some _ from h)
    | succ n ih =>
      intro r_items r_sizes x3 h ls H locs hl hG
      have h : fX4_foundByOne_B2 sl_size sl_need sl_lifted sl_licked sl_covers scratch x1 x2 (fX4_foundByOne_L2 sl_size sl_need sl_lifted sl_licked sl_covers scratch x1 x2 n) r_items r_sizes x3 = some o := h
      have hj_131 : ∀ (r_items : Nat → Int32) (r_sizes : Nat → Int32) (x3 : Int32) , fX4_foundByOne_j131 (fX4_foundByOne_L2 sl_size sl_need sl_lifted sl_licked sl_covers scratch x1 x2 n) r_items r_sizes sl_size sl_need sl_lifted sl_licked sl_covers scratch x1 x2 x3 = some o → ∀ (ls : Array Slot) (H : Heap) (locs : List Loc), lv_has ls 7 [(0, .ref (ad 0)), (1, .int x1), (2, .int x2), (3, .int x3)] → St D A s (wX4 cI ad finding asked upper lower r_items r_sizes t_items t_sizes d_items d_sizes st_size st_need st_lifted st_licked st_morning st_tally st_kinds st_places st_lengths st_downs st_covers sl_size sl_need sl_lifted sl_licked sl_morning sl_tally sl_kinds sl_places sl_lengths sl_downs sl_covers as_size as_need as_lifted as_licked as_morning as_tally as_kinds as_places as_lengths as_downs as_covers text place count least inAll inSome scratch findings) H locs → W p l e rmX4_foundByOne s m AV below meth c H locs 0 0 Q (F0 m 131 ls []) := by
        intro r_items r_sizes x3 h ls H locs hl hG
        unfold fX4_foundByOne_j131 at h
        refine lv_iinc (v := (x3 + 1)) (lv' := [(3, .int (x3 + 1)), (0, .ref (ad 0)), (1, .int x1), (2, .int x2)]) hx hb dX4_foundByOne_131 hl (k := 3) rfl rfl (by decide) rfl (fun ls hl => ?_)
        refine lv_goto (tgt := 2) hx hb dX4_foundByOne_134 (by decide) ?_
        exact ih _ _ _ h _ _ _ (lv_sub hl [1, 2, 3, 0] rfl) hG
      unfold fX4_foundByOne_B2 at h
      refine lv_iload_n hx hb dX4_foundByOne_2 rfl (lv_at hl 3 rfl) ?_
      refine lv_aload_n hx hb dX4_foundByOne_3 rfl (lv_at hl 0 rfl) ?_
      refine x_get hc hG 0 rfl iX4 4 lX4_35 rfl dX4_foundByOne_4 ?_
      refine x_getN hc hG 16 rfl iX3 5 lX4_118 rfl dX4_foundByOne_7 ?_
      refine lv_icmp_ge (tgt := 137) hx hb dX4_foundByOne_10 (by decide) (fun c10 => ?_) (fun c10 => ?_)
      · rw [if_pos c10] at h
        cases h
        exact KE _ _ rfl _ _ _ (lv_sub hl [0] rfl) hG
      · rw [if_neg c10] at h
        refine lv_iload_n hx hb dX4_foundByOne_13 rfl (lv_at hl 3 rfl) ?_
        refine lv_bipush (v := 6) hx hb dX4_foundByOne_14 (by decide) ?_
        refine lv_icmp_ge (tgt := 137) hx hb dX4_foundByOne_16 (by decide) (fun c16 => ?_) (fun c16 => ?_)
        · rw [if_pos c16] at h
          cases h
          exact KE _ _ rfl _ _ _ (lv_sub hl [0] rfl) hG
        · rw [if_neg c16] at h
          refine lv_aload_n hx hb dX4_foundByOne_19 rfl (lv_at hl 0 rfl) ?_
          refine x_get hc hG 0 rfl iX4 4 lX4_35 rfl dX4_foundByOne_20 ?_
          refine lv_iload_n hx hb dX4_foundByOne_23 rfl (lv_at hl 3 rfl) ?_
          obtain ⟨v24, e24, h⟩ := bd1_some h
          refine x_vi (rest := []) (ws' := (wX4 cI ad finding asked upper lower r_items r_sizes t_items t_sizes d_items d_sizes st_size st_need st_lifted st_licked st_morning st_tally st_kinds st_places st_lengths st_downs st_covers sl_size sl_need sl_lifted sl_licked sl_morning sl_tally sl_kinds sl_places sl_lengths sl_downs sl_covers as_size as_need as_lifted as_licked as_morning as_tally as_kinds as_places as_lengths as_downs as_covers text place count least inAll inSome scratch findings)) hc hG (cc_X3_isLifted (fun k => ad (16 + k)) sl_size sl_need sl_lifted sl_licked sl_morning sl_tally sl_kinds sl_places sl_lengths sl_downs sl_covers x3 v24 e24) [16, 17, 18, 19, 20, 21] [0, 1, 2, 3, 4, 5, 6, 7, 8, 9, 10, 11, 12, 13, 14, 15, 22, 23, 24, 25, 26, 27, 28, 29, 30, 31] [0, 1, 2, 3, 4, 5, 6, 7, 8, 9, 10, 11, 12, 13, 14, 15, 26, 27, 28, 29, 30, 31, 16, 17, 18, 19, 20, 21, 22, 23, 24, 25] rfl rfl rfl 16 rfl rfl lX4_320 ⟨rfl, rfl, by decide, by decide⟩ rfl hl.1 (Nat.le_of_ble_eq_true rfl) rfl dX4_foundByOne_24 (fun H locs hG => ?_)
          refine lv_if_eq (tgt := 33) hx hb dX4_foundByOne_27 (by decide) (fun c27 => ?_) (fun c27 => ?_)
          · rw [if_pos c27] at h
            refine lv_aload_n hx hb dX4_foundByOne_33 rfl (lv_at hl 0 rfl) ?_
            refine x_get hc hG 0 rfl iX4 4 lX4_35 rfl dX4_foundByOne_34 ?_
            refine lv_iload_n hx hb dX4_foundByOne_37 rfl (lv_at hl 3 rfl) ?_
            refine lv_iload_n hx hb dX4_foundByOne_38 rfl (lv_at hl 3 rfl) ?_
            obtain ⟨v39, e39, h⟩ := bd1_some h
            refine x_vi (rest := []) (ws' := (wX4 cI ad finding asked upper lower r_items r_sizes t_items t_sizes d_items d_sizes st_size st_need st_lifted st_licked st_morning st_tally st_kinds st_places st_lengths st_downs st_covers sl_size sl_need sl_lifted sl_licked sl_morning sl_tally sl_kinds sl_places sl_lengths sl_downs sl_covers as_size as_need as_lifted as_licked as_morning as_tally as_kinds as_places as_lengths as_downs as_covers text place count least inAll inSome scratch findings)) hc hG (cc_X3_coverOfAllBut (fun k => ad (16 + k)) sl_size sl_need sl_lifted sl_licked sl_morning sl_tally sl_kinds sl_places sl_lengths sl_downs sl_covers x3 x3 v39 e39) [16, 17, 18, 19, 20, 21] [0, 1, 2, 3, 4, 5, 6, 7, 8, 9, 10, 11, 12, 13, 14, 15, 22, 23, 24, 25, 26, 27, 28, 29, 30, 31] [0, 1, 2, 3, 4, 5, 6, 7, 8, 9, 10, 11, 12, 13, 14, 15, 26, 27, 28, 29, 30, 31, 16, 17, 18, 19, 20, 21, 22, 23, 24, 25] rfl rfl rfl 16 rfl rfl lX4_211 ⟨rfl, rfl, by decide, by decide⟩ rfl hl.1 (Nat.le_of_ble_eq_true rfl) rfl dX4_foundByOne_39 (fun H locs hG => ?_)
            refine lv_istore (lv' := [(4, .int v39), (0, .ref (ad 0)), (1, .int x1), (2, .int x2), (3, .int x3)]) hx hb dX4_foundByOne_42 hl (by decide) rfl (fun ls hl => ?_)
            refine lv_iconst (v := 0) hx hb dX4_foundByOne_44 (by decide) ?_
            refine lv_istore (lv' := [(5, .int 0), (4, .int v39), (0, .ref (ad 0)), (1, .int x1), (2, .int x2), (3, .int x3)]) hx hb dX4_foundByOne_45 hl (by decide) rfl (fun ls hl => ?_)
            rcases sl2_some h with e47 | ⟨r_items_L47, r_sizes_L47, e47, h⟩
            · obtain ⟨q, e47, rfl⟩ := e47
              exact hL_47 _ _ _ _ _ (fun _ _ _ e H locs pc ls hG d hn => by cases e; exact KR _ _ _ rfl _ _ _ _ hG d hn) (fun _ _ e => by cases e) _ _ _ _ e47 _ _ _ (lv_sub hl [2, 3, 4, 5, 1, 0] rfl) hG
            · refine hL_47 _ _ _ _ _ (fun _ _ _ e => by cases e) (fun r_items_L47 r_sizes_L47 e ls H locs hl hG => ?_) _ _ _ _ e47 _ _ _ (lv_sub hl [2, 3, 4, 5, 1, 0] rfl) hG
              cases e
              exact hj_131 _ _ _ h _ _ _ (lv_sub hl [0, 1, 2, 3] rfl) hG
          · rw [if_neg c27] at h
            refine lv_goto (tgt := 131) hx hb dX4_foundByOne_30 (by decide) ?_
            exact hj_131 _ _ _ h _ _ _ (lv_sub hl [0, 1, 2, 3] rfl) hG
  unfold fX4_foundByOne at h
  refine lv_iconst (v := 0) hx hb dX4_foundByOne_0 (by decide) ?_
  refine lv_istore_n (lv' := [(3, .int 0), (0, .ref (ad 0)), (1, .int x1), (2, .int x2)]) hx hb dX4_foundByOne_1 rfl hl (by decide) rfl (fun ls hl => ?_)
  rcases st2_some h with e2 | ⟨r_items_L2, r_sizes_L2, e2, h⟩
  · exact hL_2 _ _ _ (fun _ _ _ e H locs pc ls hG d hn => by cases e; exact hret _ _ _ _ hG d hn) (fun _ _ e => by cases e) _ _ _ _ e2 _ _ _ (lv_sub hl [1, 2, 3, 0] rfl) hG
  · refine hL_2 _ _ _ (fun _ _ _ e => by cases e) (fun r_items_L2 r_sizes_L2 e ls H locs hl hG => ?_) _ _ _ _ e2 _ _ _ (lv_sub hl [1, 2, 3, 0] rfl) hG
    cases e
    refine lv_iconst (v := 0) hx hb dX4_foundByOne_137 (by decide) ?_
    cases h
    exact hret _ _ _ _ hG dX4_foundByOne_138 rfl
set_option maxRecDepth 100000 in
set_option maxHeartbeats 4000000 in
theorem cc_X4_foundByPair {l : Launch} {D : va_G} {cI : ClassId} {tL : Nat} (ad : Nat → Nat) (finding : Int32) (asked : Int32) (upper : Int64) (lower : Int64) (r_items : Nat → Int32) (r_sizes : Nat → Int32) (t_items : Nat → Int32) (t_sizes : Nat → Int32) (d_items : Nat → Int32) (d_sizes : Nat → Int32) (st_size : Int32) (st_need : Int32) (st_lifted : Int32) (st_licked : Int32) (st_morning : Int32) (st_tally : Int32) (st_kinds : Nat → Int32) (st_places : Nat → Int32) (st_lengths : Nat → Int32) (st_downs : Nat → Int32) (st_covers : Nat → Int32) (sl_size : Int32) (sl_need : Int32) (sl_lifted : Int32) (sl_licked : Int32) (sl_morning : Int32) (sl_tally : Int32) (sl_kinds : Nat → Int32) (sl_places : Nat → Int32) (sl_lengths : Nat → Int32) (sl_downs : Nat → Int32) (sl_covers : Nat → Int32) (as_size : Int32) (as_need : Int32) (as_lifted : Int32) (as_licked : Int32) (as_morning : Int32) (as_tally : Int32) (as_kinds : Nat → Int32) (as_places : Nat → Int32) (as_lengths : Nat → Int32) (as_downs : Nat → Int32) (as_covers : Nat → Int32) (text : Int32) (place : Int32) (count : Int32) (least : Int32) (inAll : Int32) (inSome : Int32) (scratch : Nat → Int32) (findings : Nat → Int32) (x1 : Int32) (x2 : Int32) (x3 : Int32) (x4 : Int32) (r' : Int32) (r_items' : Nat → Int32) (r_sizes' : Nat → Int32) (h : fX4_foundByPair r_items r_sizes sl_size sl_need sl_lifted sl_licked sl_covers scratch x1 x2 x3 x4 = some (r', r_items', r_sizes')) : Ci l D cI tL yX4_foundByPair cX4_foundByPair 10 .boolean rmX4_foundByPair (wX4 cI ad finding asked upper lower r_items r_sizes t_items t_sizes d_items d_sizes st_size st_need st_lifted st_licked st_morning st_tally st_kinds st_places st_lengths st_downs st_covers sl_size sl_need sl_lifted sl_licked sl_morning sl_tally sl_kinds sl_places sl_lengths sl_downs sl_covers as_size as_need as_lifted as_licked as_morning as_tally as_kinds as_places as_lengths as_downs as_covers text place count least inAll inSome scratch findings) [.ref (ad 0), .int x1, .int x2, .int x3, .int x4] r' (wX4 cI ad finding asked upper lower r_items' r_sizes' t_items t_sizes d_items d_sizes st_size st_need st_lifted st_licked st_morning st_tally st_kinds st_places st_lengths st_downs st_covers sl_size sl_need sl_lifted sl_licked sl_morning sl_tally sl_kinds sl_places sl_lengths sl_downs sl_covers as_size as_need as_lifted as_licked as_morning as_tally as_kinds as_places as_lengths as_downs as_covers text place count least inAll inSome scratch findings) := by
  refine Ci_of (own := RX4) (by decide) (Nat.le_of_ble_eq_true rfl) rfl ?_
  intro p e s m below meth c Q A AV hc hret ls hl hG
  obtain ⟨hx, hb, hml, hown, hts, hK, hA, hz⟩ := id hc
  have hl : lv_has ls 10 [(0, .ref (ad 0)), (1, .int x1), (2, .int x2), (3, .int x3), (4, .int x4)] := hl
  have hL_61 : ∀ (x1 : Int32) (x2 : Int32) (x3 : Int32) (x4 : Int32) (x6 : Int32) (x7 : Int32) (x5 : Int32) (o : ((Int32 × (Nat → Int32) × (Nat → Int32)) ⊕ ((Nat → Int32) × (Nat → Int32)))), (∀ (r : Int32) (r_items_r : Nat → Int32) (r_sizes_r : Nat → Int32), o = .inl (r, r_items_r, r_sizes_r) → ∀ (H : Heap) (locs : List Loc) (pc : Nat) (ls : Array Slot), St D A s (wX4 cI ad finding asked upper lower r_items_r r_sizes_r t_items t_sizes d_items d_sizes st_size st_need st_lifted st_licked st_morning st_tally st_kinds st_places st_lengths st_downs st_covers sl_size sl_need sl_lifted sl_licked sl_morning sl_tally sl_kinds sl_places sl_lengths sl_downs sl_covers as_size as_need as_lifted as_licked as_morning as_tally as_kinds as_places as_lengths as_downs as_covers text place count least inAll inSome scratch findings) H locs → decode cX4_foundByPair pc = .ok (.ireturn, 1) → narrow .boolean (.int r) = .int r → W p l e rmX4_foundByPair s m AV below meth c H locs 0 0 Q (F0 m pc ls [.int r])) → (∀ (r_items_o : Nat → Int32) (r_sizes_o : Nat → Int32), o = .inr (r_items_o, r_sizes_o) → ∀ (ls : Array Slot) (H : Heap) (locs : List Loc), lv_has ls 10 [(0, .ref (ad 0)), (1, .int x1), (2, .int x2), (3, .int x3), (4, .int x4), (5, .int x5), (6, .int x6)] → St D A s (wX4 cI ad finding asked upper lower r_items_o r_sizes_o t_items t_sizes d_items d_sizes st_size st_need st_lifted st_licked st_morning st_tally st_kinds st_places st_lengths st_downs st_covers sl_size sl_need sl_lifted sl_licked sl_morning sl_tally sl_kinds sl_places sl_lengths sl_downs sl_covers as_size as_need as_lifted as_licked as_morning as_tally as_kinds as_places as_lengths as_downs as_covers text place count least inAll inSome scratch findings) H locs → W p l e rmX4_foundByPair s m AV below meth c H locs 0 0 Q (F0 m 169 ls [])) → ∀ (n : Nat) (r_items : Nat → Int32) (r_sizes : Nat → Int32) (x8 : Int32), fX4_foundByPair_L61 sl_need sl_licked scratch x1 x2 x3 x4 x6 x7 n r_items r_sizes x8 = some o → ∀ (ls : Array Slot) (H : Heap) (locs : List Loc), lv_has ls 10 [(0, .ref (ad 0)), (1, .int x1), (2, .int x2), (3, .int x3), (4, .int x4), (5, .int x5), (6, .int x6), (7, .int x7), (8, .int x8)] → St D A s (wX4 cI ad finding asked upper lower r_items r_sizes t_items t_sizes d_items d_sizes st_size st_need st_lifted st_licked st_morning st_tally st_kinds st_places st_lengths st_downs st_covers sl_size sl_need sl_lifted sl_licked sl_morning sl_tally sl_kinds sl_places sl_lengths sl_downs sl_covers as_size as_need as_lifted as_licked as_morning as_tally as_kinds as_places as_lengths as_downs as_covers text place count least inAll inSome scratch findings) H locs → W p l e rmX4_foundByPair s m AV below meth c H locs 0 0 Q (F0 m 61 ls []) := by
    intro x1 x2 x3 x4 x6 x7 x5 o KR KE n
    induction n with
    | zero =>
      intro r_items r_sizes x8 h
      exact nomatch (show none = some _ from h)
    | succ n ih =>
      intro r_items r_sizes x8 h ls H locs hl hG
      have h : fX4_foundByPair_B61 sl_need sl_licked scratch x1 x2 x3 x4 x6 x7 (fX4_foundByPair_L61 sl_need sl_licked scratch x1 x2 x3 x4 x6 x7 n) r_items r_sizes x8 = some o := h
      unfold fX4_foundByPair_B61 at h
      refine lv_iload hx hb dX4_foundByPair_61 (lv_at hl 8 rfl) ?_
      refine lv_bipush (v := 16) hx hb dX4_foundByPair_63 (by decide) ?_
      refine lv_icmp_ge (tgt := 169) hx hb dX4_foundByPair_65 (by decide) (fun c65 => ?_) (fun c65 => ?_)
      · rw [if_pos c65] at h
        cases h
        exact KE _ _ rfl _ _ _ (lv_sub hl [0, 1, 2, 3, 4, 5, 6] rfl) hG
      · rw [if_neg c65] at h
        refine lv_iload hx hb dX4_foundByPair_68 (lv_at hl 7 rfl) ?_
        refine lv_aload_n hx hb dX4_foundByPair_70 rfl (lv_at hl 0 rfl) ?_
        refine x_get hc hG 0 rfl iX4 8 lX4_57 rfl dX4_foundByPair_71 ?_
        refine lv_iload_n hx hb dX4_foundByPair_74 rfl (lv_at hl 3 rfl) ?_
        refine lv_bipush (v := 16) hx hb dX4_foundByPair_75 (by decide) ?_
        refine lv_imul hx hb dX4_foundByPair_77 ?_
        refine lv_iload hx hb dX4_foundByPair_78 (lv_at hl 8 rfl) ?_
        refine lv_iadd hx hb dX4_foundByPair_80 ?_
        obtain ⟨v81, e81, h⟩ := bd1_some h
        refine x_ald hc hG 30 rfl e81 dX4_foundByPair_81 ?_
        refine lv_ior hx hb dX4_foundByPair_82 ?_
        refine lv_istore (lv' := [(9, .int (x7 ||| v81)), (0, .ref (ad 0)), (1, .int x1), (2, .int x2), (3, .int x3), (4, .int x4), (5, .int x5), (6, .int x6), (7, .int x7), (8, .int x8)]) hx hb dX4_foundByPair_83 hl (by decide) rfl (fun ls hl => ?_)
        refine lv_aload_n hx hb dX4_foundByPair_85 rfl (lv_at hl 1 rfl) ?_
        refine x_get hc hG 0 rfl iX4 4 lX4_35 rfl dX4_foundByPair_86 ?_
        refine lv_iload_n hx hb dX4_foundByPair_89 rfl (lv_at hl 2 rfl) ?_
        refine lv_iload hx hb dX4_foundByPair_90 (lv_at hl 0 rfl) ?_
        refine lv_aload_n hx hb dX4_foundByPair_92 rfl (lv_at hl 1 rfl) ?_
        refine x_get hc hG 0 rfl iX4 4 lX4_35 rfl dX4_foundByPair_93 ?_
        refine x_getN hc hG 16 rfl iX3 8 lX4_161 rfl dX4_foundByPair_96 ?_
        refine lv_iconst (v := (-1)) hx hb dX4_foundByPair_99 (by decide) ?_
        refine lv_ixor hx hb dX4_foundByPair_100 ?_
        refine lv_iand hx hb dX4_foundByPair_101 ?_
        obtain ⟨v102, e102, h⟩ := bd1_some h
        refine x_vi (rest := []) (ws' := (wX4 cI ad finding asked upper lower r_items r_sizes t_items t_sizes d_items d_sizes st_size st_need st_lifted st_licked st_morning st_tally st_kinds st_places st_lengths st_downs st_covers sl_size sl_need sl_lifted sl_licked sl_morning sl_tally sl_kinds sl_places sl_lengths sl_downs sl_covers as_size as_need as_lifted as_licked as_morning as_tally as_kinds as_places as_lengths as_downs as_covers text place count least inAll inSome scratch findings)) hc hG (cc_X3_areRead (fun k => ad (16 + k)) sl_size sl_need sl_lifted sl_licked sl_morning sl_tally sl_kinds sl_places sl_lengths sl_downs sl_covers x1 ((x7 ||| v81) &&& (sl_licked ^^^ (-1))) v102 e102) [16, 17, 18, 19, 20, 21] [0, 1, 2, 3, 4, 5, 6, 7, 8, 9, 10, 11, 12, 13, 14, 15, 22, 23, 24, 25, 26, 27, 28, 29, 30, 31] [0, 1, 2, 3, 4, 5, 6, 7, 8, 9, 10, 11, 12, 13, 14, 15, 26, 27, 28, 29, 30, 31, 16, 17, 18, 19, 20, 21, 22, 23, 24, 25] rfl rfl rfl 16 rfl rfl lX4_199 ⟨rfl, rfl, by decide, by decide⟩ rfl hl.1 (Nat.le_of_ble_eq_true rfl) rfl dX4_foundByPair_102 (fun H locs hG => ?_)
        refine lv_if_eq (tgt := 163) hx hb dX4_foundByPair_105 (by decide) (fun c105 => ?_) (fun c105 => ?_)
        · rw [if_pos c105] at h
          refine lv_iinc (v := (x8 + 1)) (lv' := [(8, .int (x8 + 1)), (9, .int (x7 ||| v81)), (0, .ref (ad 0)), (1, .int x1), (2, .int x2), (3, .int x3), (4, .int x4), (5, .int x5), (6, .int x6), (7, .int x7)]) hx hb dX4_foundByPair_163 hl (k := 9) rfl rfl (by decide) rfl (fun ls hl => ?_)
          refine lv_goto (tgt := 61) hx hb dX4_foundByPair_166 (by decide) ?_
          exact ih _ _ _ h _ _ _ (lv_sub hl [2, 3, 4, 5, 6, 7, 8, 9, 0] rfl) hG
        · rw [if_neg c105] at h
          refine lv_aload_n hx hb dX4_foundByPair_108 rfl (lv_at hl 1 rfl) ?_
          refine x_get hc hG 0 rfl iX4 0 lX4_14 rfl dX4_foundByPair_109 ?_
          refine lv_iload hx hb dX4_foundByPair_112 (lv_at hl 5 rfl) ?_
          refine lv_iconst (v := 0) hx hb dX4_foundByPair_114 (by decide) ?_
          refine lv_iconst (v := 0) hx hb dX4_foundByPair_115 (by decide) ?_
          obtain ⟨r_items_116, r_sizes_116, e116, h⟩ := bd2_some h
          refine x_vv (rest := []) (ws' := (wX4 cI ad finding asked upper lower r_items_116 r_sizes_116 t_items t_sizes d_items d_sizes st_size st_need st_lifted st_licked st_morning st_tally st_kinds st_places st_lengths st_downs st_covers sl_size sl_need sl_lifted sl_licked sl_morning sl_tally sl_kinds sl_places sl_lengths sl_downs sl_covers as_size as_need as_lifted as_licked as_morning as_tally as_kinds as_places as_lengths as_downs as_covers text place count least inAll inSome scratch findings)) hc hG (cc_X2_make (fun k => ad (1 + k)) 240 6 40 r_items r_sizes x4 0 0 r_items_116 r_sizes_116 e116) [1, 2, 3] [0, 4, 5, 6, 7, 8, 9, 10, 11, 12, 13, 14, 15, 16, 17, 18, 19, 20, 21, 22, 23, 24, 25, 26, 27, 28, 29, 30, 31] [0, 29, 30, 31, 1, 2, 3, 4, 5, 6, 7, 8, 9, 10, 11, 12, 13, 14, 15, 16, 17, 18, 19, 20, 21, 22, 23, 24, 25, 26, 27, 28] rfl rfl rfl 1 rfl rfl lX4_24 ⟨rfl, rfl, by decide, by decide⟩ rfl hl.1 (Nat.le_of_ble_eq_true rfl) rfl dX4_foundByPair_116 (fun H locs hG => ?_)
          refine lv_aload_n hx hb dX4_foundByPair_119 rfl (lv_at hl 1 rfl) ?_
          refine x_get hc hG 0 rfl iX4 0 lX4_14 rfl dX4_foundByPair_120 ?_
          refine lv_iload hx hb dX4_foundByPair_123 (lv_at hl 5 rfl) ?_
          refine lv_iload_n hx hb dX4_foundByPair_125 rfl (lv_at hl 3 rfl) ?_
          obtain ⟨r_items_126, r_sizes_126, e126, h⟩ := bd2_some h
          refine x_vv (rest := []) (ws' := (wX4 cI ad finding asked upper lower r_items_126 r_sizes_126 t_items t_sizes d_items d_sizes st_size st_need st_lifted st_licked st_morning st_tally st_kinds st_places st_lengths st_downs st_covers sl_size sl_need sl_lifted sl_licked sl_morning sl_tally sl_kinds sl_places sl_lengths sl_downs sl_covers as_size as_need as_lifted as_licked as_morning as_tally as_kinds as_places as_lengths as_downs as_covers text place count least inAll inSome scratch findings)) hc hG (cc_X2_append (fun k => ad (1 + k)) 240 6 40 r_items_116 r_sizes_116 x4 x2 r_items_126 r_sizes_126 e126) [1, 2, 3] [0, 4, 5, 6, 7, 8, 9, 10, 11, 12, 13, 14, 15, 16, 17, 18, 19, 20, 21, 22, 23, 24, 25, 26, 27, 28, 29, 30, 31] [0, 29, 30, 31, 1, 2, 3, 4, 5, 6, 7, 8, 9, 10, 11, 12, 13, 14, 15, 16, 17, 18, 19, 20, 21, 22, 23, 24, 25, 26, 27, 28] rfl rfl rfl 1 rfl rfl lX4_314 ⟨rfl, rfl, by decide, by decide⟩ rfl hl.1 (Nat.le_of_ble_eq_true rfl) rfl dX4_foundByPair_126 (fun H locs hG => ?_)
          refine lv_aload_n hx hb dX4_foundByPair_129 rfl (lv_at hl 1 rfl) ?_
          refine x_get hc hG 0 rfl iX4 0 lX4_14 rfl dX4_foundByPair_130 ?_
          refine lv_iload hx hb dX4_foundByPair_133 (lv_at hl 5 rfl) ?_
          refine lv_iload hx hb dX4_foundByPair_135 (lv_at hl 7 rfl) ?_
          obtain ⟨r_items_137, r_sizes_137, e137, h⟩ := bd2_some h
          refine x_vv (rest := []) (ws' := (wX4 cI ad finding asked upper lower r_items_137 r_sizes_137 t_items t_sizes d_items d_sizes st_size st_need st_lifted st_licked st_morning st_tally st_kinds st_places st_lengths st_downs st_covers sl_size sl_need sl_lifted sl_licked sl_morning sl_tally sl_kinds sl_places sl_lengths sl_downs sl_covers as_size as_need as_lifted as_licked as_morning as_tally as_kinds as_places as_lengths as_downs as_covers text place count least inAll inSome scratch findings)) hc hG (cc_X2_append (fun k => ad (1 + k)) 240 6 40 r_items_126 r_sizes_126 x4 x6 r_items_137 r_sizes_137 e137) [1, 2, 3] [0, 4, 5, 6, 7, 8, 9, 10, 11, 12, 13, 14, 15, 16, 17, 18, 19, 20, 21, 22, 23, 24, 25, 26, 27, 28, 29, 30, 31] [0, 29, 30, 31, 1, 2, 3, 4, 5, 6, 7, 8, 9, 10, 11, 12, 13, 14, 15, 16, 17, 18, 19, 20, 21, 22, 23, 24, 25, 26, 27, 28] rfl rfl rfl 1 rfl rfl lX4_314 ⟨rfl, rfl, by decide, by decide⟩ rfl hl.1 (Nat.le_of_ble_eq_true rfl) rfl dX4_foundByPair_137 (fun H locs hG => ?_)
          refine lv_aload_n hx hb dX4_foundByPair_140 rfl (lv_at hl 1 rfl) ?_
          refine x_get hc hG 0 rfl iX4 0 lX4_14 rfl dX4_foundByPair_141 ?_
          refine lv_iload hx hb dX4_foundByPair_144 (lv_at hl 5 rfl) ?_
          refine lv_iload_n hx hb dX4_foundByPair_146 rfl (lv_at hl 4 rfl) ?_
          obtain ⟨r_items_147, r_sizes_147, e147, h⟩ := bd2_some h
          refine x_vv (rest := []) (ws' := (wX4 cI ad finding asked upper lower r_items_147 r_sizes_147 t_items t_sizes d_items d_sizes st_size st_need st_lifted st_licked st_morning st_tally st_kinds st_places st_lengths st_downs st_covers sl_size sl_need sl_lifted sl_licked sl_morning sl_tally sl_kinds sl_places sl_lengths sl_downs sl_covers as_size as_need as_lifted as_licked as_morning as_tally as_kinds as_places as_lengths as_downs as_covers text place count least inAll inSome scratch findings)) hc hG (cc_X2_append (fun k => ad (1 + k)) 240 6 40 r_items_137 r_sizes_137 x4 x3 r_items_147 r_sizes_147 e147) [1, 2, 3] [0, 4, 5, 6, 7, 8, 9, 10, 11, 12, 13, 14, 15, 16, 17, 18, 19, 20, 21, 22, 23, 24, 25, 26, 27, 28, 29, 30, 31] [0, 29, 30, 31, 1, 2, 3, 4, 5, 6, 7, 8, 9, 10, 11, 12, 13, 14, 15, 16, 17, 18, 19, 20, 21, 22, 23, 24, 25, 26, 27, 28] rfl rfl rfl 1 rfl rfl lX4_314 ⟨rfl, rfl, by decide, by decide⟩ rfl hl.1 (Nat.le_of_ble_eq_true rfl) rfl dX4_foundByPair_147 (fun H locs hG => ?_)
          refine lv_aload_n hx hb dX4_foundByPair_150 rfl (lv_at hl 1 rfl) ?_
          refine x_get hc hG 0 rfl iX4 0 lX4_14 rfl dX4_foundByPair_151 ?_
          refine lv_iload hx hb dX4_foundByPair_154 (lv_at hl 5 rfl) ?_
          refine lv_iload hx hb dX4_foundByPair_156 (lv_at hl 9 rfl) ?_
          obtain ⟨r_items_158, r_sizes_158, e158, h⟩ := bd2_some h
          refine x_vv (rest := []) (ws' := (wX4 cI ad finding asked upper lower r_items_158 r_sizes_158 t_items t_sizes d_items d_sizes st_size st_need st_lifted st_licked st_morning st_tally st_kinds st_places st_lengths st_downs st_covers sl_size sl_need sl_lifted sl_licked sl_morning sl_tally sl_kinds sl_places sl_lengths sl_downs sl_covers as_size as_need as_lifted as_licked as_morning as_tally as_kinds as_places as_lengths as_downs as_covers text place count least inAll inSome scratch findings)) hc hG (cc_X2_append (fun k => ad (1 + k)) 240 6 40 r_items_147 r_sizes_147 x4 x8 r_items_158 r_sizes_158 e158) [1, 2, 3] [0, 4, 5, 6, 7, 8, 9, 10, 11, 12, 13, 14, 15, 16, 17, 18, 19, 20, 21, 22, 23, 24, 25, 26, 27, 28, 29, 30, 31] [0, 29, 30, 31, 1, 2, 3, 4, 5, 6, 7, 8, 9, 10, 11, 12, 13, 14, 15, 16, 17, 18, 19, 20, 21, 22, 23, 24, 25, 26, 27, 28] rfl rfl rfl 1 rfl rfl lX4_314 ⟨rfl, rfl, by decide, by decide⟩ rfl hl.1 (Nat.le_of_ble_eq_true rfl) rfl dX4_foundByPair_158 (fun H locs hG => ?_)
          refine lv_iconst (v := 1) hx hb dX4_foundByPair_161 (by decide) ?_
          cases h
          exact KR _ _ _ rfl _ _ _ _ hG dX4_foundByPair_162 rfl
  have hL_34 : ∀ (x1 : Int32) (x2 : Int32) (x3 : Int32) (x4 : Int32) (x5 : Int32) (o : ((Int32 × (Nat → Int32) × (Nat → Int32)) ⊕ ((Nat → Int32) × (Nat → Int32)))), (∀ (r : Int32) (r_items_r : Nat → Int32) (r_sizes_r : Nat → Int32), o = .inl (r, r_items_r, r_sizes_r) → ∀ (H : Heap) (locs : List Loc) (pc : Nat) (ls : Array Slot), St D A s (wX4 cI ad finding asked upper lower r_items_r r_sizes_r t_items t_sizes d_items d_sizes st_size st_need st_lifted st_licked st_morning st_tally st_kinds st_places st_lengths st_downs st_covers sl_size sl_need sl_lifted sl_licked sl_morning sl_tally sl_kinds sl_places sl_lengths sl_downs sl_covers as_size as_need as_lifted as_licked as_morning as_tally as_kinds as_places as_lengths as_downs as_covers text place count least inAll inSome scratch findings) H locs → decode cX4_foundByPair pc = .ok (.ireturn, 1) → narrow .boolean (.int r) = .int r → W p l e rmX4_foundByPair s m AV below meth c H locs 0 0 Q (F0 m pc ls [.int r])) → (∀ (r_items_o : Nat → Int32) (r_sizes_o : Nat → Int32), o = .inr (r_items_o, r_sizes_o) → ∀ (ls : Array Slot) (H : Heap) (locs : List Loc), lv_has ls 10 [(0, .ref (ad 0))] → St D A s (wX4 cI ad finding asked upper lower r_items_o r_sizes_o t_items t_sizes d_items d_sizes st_size st_need st_lifted st_licked st_morning st_tally st_kinds st_places st_lengths st_downs st_covers sl_size sl_need sl_lifted sl_licked sl_morning sl_tally sl_kinds sl_places sl_lengths sl_downs sl_covers as_size as_need as_lifted as_licked as_morning as_tally as_kinds as_places as_lengths as_downs as_covers text place count least inAll inSome scratch findings) H locs → W p l e rmX4_foundByPair s m AV below meth c H locs 0 0 Q (F0 m 175 ls [])) → ∀ (n : Nat) (r_items : Nat → Int32) (r_sizes : Nat → Int32) (x6 : Int32), fX4_foundByPair_L34 sl_need sl_licked scratch x1 x2 x3 x4 x5 n r_items r_sizes x6 = some o → ∀ (ls : Array Slot) (H : Heap) (locs : List Loc), lv_has ls 10 [(0, .ref (ad 0)), (1, .int x1), (2, .int x2), (3, .int x3), (4, .int x4), (5, .int x5), (6, .int x6)] → St D A s (wX4 cI ad finding asked upper lower r_items r_sizes t_items t_sizes d_items d_sizes st_size st_need st_lifted st_licked st_morning st_tally st_kinds st_places st_lengths st_downs st_covers sl_size sl_need sl_lifted sl_licked sl_morning sl_tally sl_kinds sl_places sl_lengths sl_downs sl_covers as_size as_need as_lifted as_licked as_morning as_tally as_kinds as_places as_lengths as_downs as_covers text place count least inAll inSome scratch findings) H locs → W p l e rmX4_foundByPair s m AV below meth c H locs 0 0 Q (F0 m 34 ls []) := by
    intro x1 x2 x3 x4 x5 o KR KE n
    induction n with
    | zero =>
      intro r_items r_sizes x6 h
      exact nomatch (show none = some _ from h)
    | succ n ih =>
      intro r_items r_sizes x6 h ls H locs hl hG
      have h : fX4_foundByPair_B34 sl_need sl_licked scratch x1 x2 x3 x4 x5 (fX4_foundByPair_L34 sl_need sl_licked scratch x1 x2 x3 x4 x5 n) r_items r_sizes x6 = some o := h
      unfold fX4_foundByPair_B34 at h
      refine lv_iload hx hb dX4_foundByPair_34 (lv_at hl 6 rfl) ?_
      refine lv_bipush (v := 16) hx hb dX4_foundByPair_36 (by decide) ?_
      refine lv_icmp_ge (tgt := 175) hx hb dX4_foundByPair_38 (by decide) (fun c38 => ?_) (fun c38 => ?_)
      · rw [if_pos c38] at h
        cases h
        exact KE _ _ rfl _ _ _ (lv_sub hl [0] rfl) hG
      · rw [if_neg c38] at h
        refine lv_iload hx hb dX4_foundByPair_41 (lv_at hl 5 rfl) ?_
        refine lv_aload_n hx hb dX4_foundByPair_43 rfl (lv_at hl 0 rfl) ?_
        refine x_get hc hG 0 rfl iX4 8 lX4_57 rfl dX4_foundByPair_44 ?_
        refine lv_iload_n hx hb dX4_foundByPair_47 rfl (lv_at hl 2 rfl) ?_
        refine lv_bipush (v := 16) hx hb dX4_foundByPair_48 (by decide) ?_
        refine lv_imul hx hb dX4_foundByPair_50 ?_
        refine lv_iload hx hb dX4_foundByPair_51 (lv_at hl 6 rfl) ?_
        refine lv_iadd hx hb dX4_foundByPair_53 ?_
        obtain ⟨v54, e54, h⟩ := bd1_some h
        refine x_ald hc hG 30 rfl e54 dX4_foundByPair_54 ?_
        refine lv_ior hx hb dX4_foundByPair_55 ?_
        refine lv_istore (lv' := [(7, .int (x5 ||| v54)), (0, .ref (ad 0)), (1, .int x1), (2, .int x2), (3, .int x3), (4, .int x4), (5, .int x5), (6, .int x6)]) hx hb dX4_foundByPair_56 hl (by decide) rfl (fun ls hl => ?_)
        refine lv_iconst (v := 0) hx hb dX4_foundByPair_58 (by decide) ?_
        refine lv_istore (lv' := [(8, .int 0), (7, .int (x5 ||| v54)), (0, .ref (ad 0)), (1, .int x1), (2, .int x2), (3, .int x3), (4, .int x4), (5, .int x5), (6, .int x6)]) hx hb dX4_foundByPair_59 hl (by decide) rfl (fun ls hl => ?_)
        rcases sl2_some h with e61 | ⟨r_items_L61, r_sizes_L61, e61, h⟩
        · obtain ⟨q, e61, rfl⟩ := e61
          exact hL_61 _ _ _ _ _ _ _ _ (fun _ _ _ e H locs pc ls hG d hn => by cases e; exact KR _ _ _ rfl _ _ _ _ hG d hn) (fun _ _ e => by cases e) _ _ _ _ e61 _ _ _ (lv_sub hl [2, 3, 4, 5, 6, 7, 8, 1, 0] rfl) hG
        · refine hL_61 _ _ _ _ _ _ _ _ (fun _ _ _ e => by cases e) (fun r_items_L61 r_sizes_L61 e ls H locs hl hG => ?_) _ _ _ _ e61 _ _ _ (lv_sub hl [2, 3, 4, 5, 6, 7, 8, 1, 0] rfl) hG
          cases e
          refine lv_iinc (v := (x6 + 1)) (lv' := [(6, .int (x6 + 1)), (0, .ref (ad 0)), (1, .int x1), (2, .int x2), (3, .int x3), (4, .int x4), (5, .int x5)]) hx hb dX4_foundByPair_169 hl (k := 6) rfl rfl (by decide) rfl (fun ls hl => ?_)
          refine lv_goto (tgt := 34) hx hb dX4_foundByPair_172 (by decide) ?_
          exact ih _ _ _ h _ _ _ (lv_sub hl [1, 2, 3, 4, 5, 6, 0] rfl) hG
  unfold fX4_foundByPair at h
  refine lv_iload_n hx hb dX4_foundByPair_0 rfl (lv_at hl 2 rfl) ?_
  refine lv_bipush (v := 6) hx hb dX4_foundByPair_1 (by decide) ?_
  obtain ⟨v3, e3, h⟩ := bd1_some h
  refine x_si0 (rest := []) hc hG (cc_X4_isIn x2 6 v3 e3) lX4_124 ⟨rfl, rfl, by decide, by decide⟩ rfl hl.1 (Nat.le_of_ble_eq_true rfl) rfl dX4_foundByPair_3 (fun H locs hG => ?_)
  refine lv_if_eq (tgt := 18) hx hb dX4_foundByPair_6 (by decide) (fun c6 => ?_) (fun c6 => ?_)
  · rw [if_pos c6] at h
    refine lv_iconst (v := 0) hx hb dX4_foundByPair_18 (by decide) ?_
    cases h
    exact hret _ _ _ _ hG dX4_foundByPair_19 rfl
  · rw [if_neg c6] at h
    refine lv_iload_n hx hb dX4_foundByPair_9 rfl (lv_at hl 3 rfl) ?_
    refine lv_bipush (v := 6) hx hb dX4_foundByPair_10 (by decide) ?_
    obtain ⟨v12, e12, h⟩ := bd1_some h
    refine x_si0 (rest := []) hc hG (cc_X4_isIn x3 6 v12 e12) lX4_124 ⟨rfl, rfl, by decide, by decide⟩ rfl hl.1 (Nat.le_of_ble_eq_true rfl) rfl dX4_foundByPair_12 (fun H locs hG => ?_)
    refine lv_if_ne (tgt := 20) hx hb dX4_foundByPair_15 (by decide) (fun c15 => ?_) (fun c15 => ?_)
    · rw [if_neg c15] at h
      refine lv_aload_n hx hb dX4_foundByPair_20 rfl (lv_at hl 0 rfl) ?_
      refine x_get hc hG 0 rfl iX4 4 lX4_35 rfl dX4_foundByPair_21 ?_
      refine lv_iload_n hx hb dX4_foundByPair_24 rfl (lv_at hl 2 rfl) ?_
      refine lv_iload_n hx hb dX4_foundByPair_25 rfl (lv_at hl 3 rfl) ?_
      obtain ⟨v26, e26, h⟩ := bd1_some h
      refine x_vi (rest := []) (ws' := (wX4 cI ad finding asked upper lower r_items r_sizes t_items t_sizes d_items d_sizes st_size st_need st_lifted st_licked st_morning st_tally st_kinds st_places st_lengths st_downs st_covers sl_size sl_need sl_lifted sl_licked sl_morning sl_tally sl_kinds sl_places sl_lengths sl_downs sl_covers as_size as_need as_lifted as_licked as_morning as_tally as_kinds as_places as_lengths as_downs as_covers text place count least inAll inSome scratch findings)) hc hG (cc_X3_coverOfAllBut (fun k => ad (16 + k)) sl_size sl_need sl_lifted sl_licked sl_morning sl_tally sl_kinds sl_places sl_lengths sl_downs sl_covers x2 x3 v26 e26) [16, 17, 18, 19, 20, 21] [0, 1, 2, 3, 4, 5, 6, 7, 8, 9, 10, 11, 12, 13, 14, 15, 22, 23, 24, 25, 26, 27, 28, 29, 30, 31] [0, 1, 2, 3, 4, 5, 6, 7, 8, 9, 10, 11, 12, 13, 14, 15, 26, 27, 28, 29, 30, 31, 16, 17, 18, 19, 20, 21, 22, 23, 24, 25] rfl rfl rfl 16 rfl rfl lX4_211 ⟨rfl, rfl, by decide, by decide⟩ rfl hl.1 (Nat.le_of_ble_eq_true rfl) rfl dX4_foundByPair_26 (fun H locs hG => ?_)
      refine lv_istore (lv' := [(5, .int v26), (0, .ref (ad 0)), (1, .int x1), (2, .int x2), (3, .int x3), (4, .int x4)]) hx hb dX4_foundByPair_29 hl (by decide) rfl (fun ls hl => ?_)
      refine lv_iconst (v := 0) hx hb dX4_foundByPair_31 (by decide) ?_
      refine lv_istore (lv' := [(6, .int 0), (5, .int v26), (0, .ref (ad 0)), (1, .int x1), (2, .int x2), (3, .int x3), (4, .int x4)]) hx hb dX4_foundByPair_32 hl (by decide) rfl (fun ls hl => ?_)
      rcases st2_some h with e34 | ⟨r_items_L34, r_sizes_L34, e34, h⟩
      · exact hL_34 _ _ _ _ _ _ (fun _ _ _ e H locs pc ls hG d hn => by cases e; exact hret _ _ _ _ hG d hn) (fun _ _ e => by cases e) _ _ _ _ e34 _ _ _ (lv_sub hl [2, 3, 4, 5, 6, 1, 0] rfl) hG
      · refine hL_34 _ _ _ _ _ _ (fun _ _ _ e => by cases e) (fun r_items_L34 r_sizes_L34 e ls H locs hl hG => ?_) _ _ _ _ e34 _ _ _ (lv_sub hl [2, 3, 4, 5, 6, 1, 0] rfl) hG
        cases e
        refine lv_iconst (v := 0) hx hb dX4_foundByPair_175 (by decide) ?_
        cases h
        exact hret _ _ _ _ hG dX4_foundByPair_176 rfl
    · rw [if_pos c15] at h
      refine lv_iconst (v := 0) hx hb dX4_foundByPair_18 (by decide) ?_
      cases h
      exact hret _ _ _ _ hG dX4_foundByPair_19 rfl
