set_option maxRecDepth 100000 in
set_option maxHeartbeats 4000000 in
theorem cc_X4_next {l : Launch} {D : va_G} {cI : ClassId} {tL : Nat} (ad : Nat → Nat) (finding : Int32) (asked : Int32) (upper : Int64) (lower : Int64) (r_items : Nat → Int32) (r_sizes : Nat → Int32) (t_items : Nat → Int32) (t_sizes : Nat → Int32) (d_items : Nat → Int32) (d_sizes : Nat → Int32) (st_size : Int32) (st_need : Int32) (st_lifted : Int32) (st_licked : Int32) (st_morning : Int32) (st_tally : Int32) (st_kinds : Nat → Int32) (st_places : Nat → Int32) (st_lengths : Nat → Int32) (st_downs : Nat → Int32) (st_covers : Nat → Int32) (sl_size : Int32) (sl_need : Int32) (sl_lifted : Int32) (sl_licked : Int32) (sl_morning : Int32) (sl_tally : Int32) (sl_kinds : Nat → Int32) (sl_places : Nat → Int32) (sl_lengths : Nat → Int32) (sl_downs : Nat → Int32) (sl_covers : Nat → Int32) (as_size : Int32) (as_need : Int32) (as_lifted : Int32) (as_licked : Int32) (as_morning : Int32) (as_tally : Int32) (as_kinds : Nat → Int32) (as_places : Nat → Int32) (as_lengths : Nat → Int32) (as_downs : Nat → Int32) (as_covers : Nat → Int32) (text : Int32) (place : Int32) (count : Int32) (least : Int32) (inAll : Int32) (inSome : Int32) (scratch : Nat → Int32) (findings : Nat → Int32) (x1 : Int32) (x2 : Int32) (r' : Int32) (finding' : Int32) (asked' : Int32) (as_size' : Int32) (as_need' : Int32) (as_lifted' : Int32) (as_licked' : Int32) (as_morning' : Int32) (as_tally' : Int32) (as_kinds' : Nat → Int32) (as_places' : Nat → Int32) (as_lengths' : Nat → Int32) (as_downs' : Nat → Int32) (as_covers' : Nat → Int32) (scratch' : Nat → Int32) (findings' : Nat → Int32) (h : fX4_next finding asked r_items r_sizes sl_size sl_need sl_lifted sl_licked sl_morning sl_tally sl_kinds sl_places sl_lengths sl_downs sl_covers as_size as_need as_lifted as_licked as_morning as_tally as_kinds as_places as_lengths as_downs as_covers scratch findings x1 x2 = some (r', finding', asked', as_size', as_need', as_lifted', as_licked', as_morning', as_tally', as_kinds', as_places', as_lengths', as_downs', as_covers', scratch', findings')) : Ci l D cI tL yX4_next cX4_next 5 .int rmX4_next (wX4 cI ad finding asked upper lower r_items r_sizes t_items t_sizes d_items d_sizes st_size st_need st_lifted st_licked st_morning st_tally st_kinds st_places st_lengths st_downs st_covers sl_size sl_need sl_lifted sl_licked sl_morning sl_tally sl_kinds sl_places sl_lengths sl_downs sl_covers as_size as_need as_lifted as_licked as_morning as_tally as_kinds as_places as_lengths as_downs as_covers text place count least inAll inSome scratch findings) [.ref (ad 0), .int x1, .int x2] r' (wX4 cI ad finding' asked' upper lower r_items r_sizes t_items t_sizes d_items d_sizes st_size st_need st_lifted st_licked st_morning st_tally st_kinds st_places st_lengths st_downs st_covers sl_size sl_need sl_lifted sl_licked sl_morning sl_tally sl_kinds sl_places sl_lengths sl_downs sl_covers as_size' as_need' as_lifted' as_licked' as_morning' as_tally' as_kinds' as_places' as_lengths' as_downs' as_covers' text place count least inAll inSome scratch' findings') := by
  refine Ci_of (own := RX4) (by decide) (Nat.le_of_ble_eq_true rfl) rfl ?_
  intro p e s m below meth c Q A AV hc hret ls hl hG
  obtain ⟨hx, hb, hml, hown, hts, hK, hA, hz⟩ := id hc
  have hl : lv_has ls 5 [(0, .ref (ad 0)), (1, .int x1), (2, .int x2)] := hl
  unfold fX4_next at h
  refine lv_aload_n hx hb dX4_next_0 rfl (lv_at hl 0 rfl) ?_
  refine x_get hc hG 0 rfl iX4 4 lX4_35 rfl dX4_next_1 ?_
  refine lv_iload_n hx hb dX4_next_4 rfl (lv_at hl 1 rfl) ?_
  obtain ⟨v5, e5, h⟩ := bd1_some h
  refine x_vi (rest := []) (ws' := (wX4 cI ad finding asked upper lower r_items r_sizes t_items t_sizes d_items d_sizes st_size st_need st_lifted st_licked st_morning st_tally st_kinds st_places st_lengths st_downs st_covers sl_size sl_need sl_lifted sl_licked sl_morning sl_tally sl_kinds sl_places sl_lengths sl_downs sl_covers as_size as_need as_lifted as_licked as_morning as_tally as_kinds as_places as_lengths as_downs as_covers text place count least inAll inSome scratch findings)) hc hG (cc_X3_has (fun k => ad (16 + k)) sl_size sl_need sl_lifted sl_licked sl_morning sl_tally sl_kinds sl_places sl_lengths sl_downs sl_covers x1 v5 e5) [16, 17, 18, 19, 20, 21] [0, 1, 2, 3, 4, 5, 6, 7, 8, 9, 10, 11, 12, 13, 14, 15, 22, 23, 24, 25, 26, 27, 28, 29, 30, 31] [0, 1, 2, 3, 4, 5, 6, 7, 8, 9, 10, 11, 12, 13, 14, 15, 26, 27, 28, 29, 30, 31, 16, 17, 18, 19, 20, 21, 22, 23, 24, 25] rfl rfl rfl 16 rfl rfl lX4_122 ⟨rfl, rfl, by decide, by decide⟩ rfl hl.1 (Nat.le_of_ble_eq_true rfl) rfl dX4_next_5 (fun H locs hG => ?_)
  refine lv_if_eq (tgt := 18) hx hb dX4_next_8 (by decide) (fun c8 => ?_) (fun c8 => ?_)
  · rw [if_pos c8] at h
    refine lv_iconst (v := (-1)) hx hb dX4_next_18 (by decide) ?_
    cases h
    exact hret _ _ _ _ hG dX4_next_19 rfl
  · rw [if_neg c8] at h
    refine lv_iload_n hx hb dX4_next_11 rfl (lv_at hl 2 rfl) ?_
    obtain ⟨v12, e12, h⟩ := bd1_some h
    refine x_si0 (rest := []) hc hG (cc_X4_isRow x2 v12 e12) lX4_68 ⟨rfl, rfl, by decide, by decide⟩ rfl hl.1 (Nat.le_of_ble_eq_true rfl) rfl dX4_next_12 (fun H locs hG => ?_)
    refine lv_if_ne (tgt := 20) hx hb dX4_next_15 (by decide) (fun c15 => ?_) (fun c15 => ?_)
    · rw [if_neg c15] at h
      refine lv_aload_n hx hb dX4_next_20 rfl (lv_at hl 0 rfl) ?_
      refine lv_iload_n hx hb dX4_next_21 rfl (lv_at hl 2 rfl) ?_
      obtain ⟨v22, e22, h⟩ := bd1_some h
      refine x_vi (rest := []) (ws' := (wX4 cI ad finding asked upper lower r_items r_sizes t_items t_sizes d_items d_sizes st_size st_need st_lifted st_licked st_morning st_tally st_kinds st_places st_lengths st_downs st_covers sl_size sl_need sl_lifted sl_licked sl_morning sl_tally sl_kinds sl_places sl_lengths sl_downs sl_covers as_size as_need as_lifted as_licked as_morning as_tally as_kinds as_places as_lengths as_downs as_covers text place count least inAll inSome scratch findings)) hc hG (cc_X4_flawOfSeen ad finding asked upper lower r_items r_sizes t_items t_sizes d_items d_sizes st_size st_need st_lifted st_licked st_morning st_tally st_kinds st_places st_lengths st_downs st_covers sl_size sl_need sl_lifted sl_licked sl_morning sl_tally sl_kinds sl_places sl_lengths sl_downs sl_covers as_size as_need as_lifted as_licked as_morning as_tally as_kinds as_places as_lengths as_downs as_covers text place count least inAll inSome scratch findings x2 v22 e22) [0, 1, 2, 3, 4, 5, 6, 7, 8, 9, 10, 11, 12, 13, 14, 15, 16, 17, 18, 19, 20, 21, 22, 23, 24, 25, 26, 27, 28, 29, 30, 31] [] [0, 1, 2, 3, 4, 5, 6, 7, 8, 9, 10, 11, 12, 13, 14, 15, 16, 17, 18, 19, 20, 21, 22, 23, 24, 25, 26, 27, 28, 29, 30, 31] rfl rfl rfl 0 rfl rfl lX4_241 ⟨rfl, rfl, by decide, by decide⟩ rfl hl.1 (Nat.le_of_ble_eq_true rfl) rfl dX4_next_22 (fun H locs hG => ?_)
      refine lv_istore_n (lv' := [(3, .int v22), (0, .ref (ad 0)), (1, .int x1), (2, .int x2)]) hx hb dX4_next_25 rfl hl (by decide) rfl (fun ls hl => ?_)
      refine lv_iload_n hx hb dX4_next_26 rfl (lv_at hl 0 rfl) ?_
      refine lv_if_eq (tgt := 36) hx hb dX4_next_27 (by decide) (fun c27 => ?_) (fun c27 => ?_)
      · rw [if_pos c27] at h
        refine lv_aload_n hx hb dX4_next_36 rfl (lv_at hl 1 rfl) ?_
        refine lv_iload_n hx hb dX4_next_37 rfl (lv_at hl 2 rfl) ?_
        refine lv_iload_n hx hb dX4_next_38 rfl (lv_at hl 3 rfl) ?_
        obtain ⟨v39, as_size_39, as_need_39, as_lifted_39, as_licked_39, as_morning_39, as_tally_39, as_kinds_39, as_places_39, as_lengths_39, as_downs_39, as_covers_39, e39, h⟩ := bd12_some h
        refine x_vi (rest := []) (ws' := (wX4 cI ad finding asked upper lower r_items r_sizes t_items t_sizes d_items d_sizes st_size st_need st_lifted st_licked st_morning st_tally st_kinds st_places st_lengths st_downs st_covers sl_size sl_need sl_lifted sl_licked sl_morning sl_tally sl_kinds sl_places sl_lengths sl_downs sl_covers as_size_39 as_need_39 as_lifted_39 as_licked_39 as_morning_39 as_tally_39 as_kinds_39 as_places_39 as_lengths_39 as_downs_39 as_covers_39 text place count least inAll inSome scratch findings)) hc hG (cc_X4_fittingPlaces ad finding asked upper lower r_items r_sizes t_items t_sizes d_items d_sizes st_size st_need st_lifted st_licked st_morning st_tally st_kinds st_places st_lengths st_downs st_covers sl_size sl_need sl_lifted sl_licked sl_morning sl_tally sl_kinds sl_places sl_lengths sl_downs sl_covers as_size as_need as_lifted as_licked as_morning as_tally as_kinds as_places as_lengths as_downs as_covers text place count least inAll inSome scratch findings x1 x2 v39 as_size_39 as_need_39 as_lifted_39 as_licked_39 as_morning_39 as_tally_39 as_kinds_39 as_places_39 as_lengths_39 as_downs_39 as_covers_39 e39) [0, 1, 2, 3, 4, 5, 6, 7, 8, 9, 10, 11, 12, 13, 14, 15, 16, 17, 18, 19, 20, 21, 22, 23, 24, 25, 26, 27, 28, 29, 30, 31] [] [0, 1, 2, 3, 4, 5, 6, 7, 8, 9, 10, 11, 12, 13, 14, 15, 16, 17, 18, 19, 20, 21, 22, 23, 24, 25, 26, 27, 28, 29, 30, 31] rfl rfl rfl 0 rfl rfl lX4_244 ⟨rfl, rfl, by decide, by decide⟩ rfl hl.1 (Nat.le_of_ble_eq_true rfl) rfl dX4_next_39 (fun H locs hG => ?_)
        refine lv_istore (lv' := [(4, .int v39), (3, .int v22), (0, .ref (ad 0)), (1, .int x1), (2, .int x2)]) hx hb dX4_next_42 hl (by decide) rfl (fun ls hl => ?_)
        refine lv_iload hx hb dX4_next_44 (lv_at hl 0 rfl) ?_
        refine lv_if_ne (tgt := 54) hx hb dX4_next_46 (by decide) (fun c46 => ?_) (fun c46 => ?_)
        · rw [if_neg c46] at h
          refine lv_aload_n hx hb dX4_next_54 rfl (lv_at hl 2 rfl) ?_
          refine lv_iload_n hx hb dX4_next_55 rfl (lv_at hl 3 rfl) ?_
          refine lv_iload hx hb dX4_next_56 (lv_at hl 0 rfl) ?_
          refine lv_aload_n hx hb dX4_next_58 rfl (lv_at hl 2 rfl) ?_
          refine x_get hc hG 0 rfl iX4 0 lX4_14 rfl dX4_next_59 ?_
          refine lv_iload_n hx hb dX4_next_62 rfl (lv_at hl 4 rfl) ?_
          obtain ⟨v63, e63, h⟩ := bd1_some h
          refine x_vi (rest := [.int v39, .int x1, .ref (ad 0)]) (ws' := (wX4 cI ad finding asked upper lower r_items r_sizes t_items t_sizes d_items d_sizes st_size st_need st_lifted st_licked st_morning st_tally st_kinds st_places st_lengths st_downs st_covers sl_size sl_need sl_lifted sl_licked sl_morning sl_tally sl_kinds sl_places sl_lengths sl_downs sl_covers as_size_39 as_need_39 as_lifted_39 as_licked_39 as_morning_39 as_tally_39 as_kinds_39 as_places_39 as_lengths_39 as_downs_39 as_covers_39 text place count least inAll inSome scratch findings)) hc hG (cc_X2_sizeOf (fun k => ad (1 + k)) 240 6 40 r_items r_sizes x2 v63 e63) [1, 2, 3] [0, 4, 5, 6, 7, 8, 9, 10, 11, 12, 13, 14, 15, 16, 17, 18, 19, 20, 21, 22, 23, 24, 25, 26, 27, 28, 29, 30, 31] [0, 29, 30, 31, 1, 2, 3, 4, 5, 6, 7, 8, 9, 10, 11, 12, 13, 14, 15, 16, 17, 18, 19, 20, 21, 22, 23, 24, 25, 26, 27, 28] rfl rfl rfl 1 rfl rfl lX4_105 ⟨rfl, rfl, by decide, by decide⟩ rfl hl.1 (Nat.le_of_ble_eq_true rfl) rfl dX4_next_63 (fun H locs hG => ?_)
          refine lv_iconst (v := 1) hx hb dX4_next_66 (by decide) ?_
          refine lv_iadd hx hb dX4_next_67 ?_
          obtain ⟨v68, asked_68, as_size_68, as_need_68, as_lifted_68, as_licked_68, as_morning_68, as_tally_68, as_kinds_68, as_places_68, as_lengths_68, as_downs_68, as_covers_68, scratch_68, e68, h⟩ := bd14_some h
          refine x_vi (rest := []) (ws' := (wX4 cI ad finding asked_68 upper lower r_items r_sizes t_items t_sizes d_items d_sizes st_size st_need st_lifted st_licked st_morning st_tally st_kinds st_places st_lengths st_downs st_covers sl_size sl_need sl_lifted sl_licked sl_morning sl_tally sl_kinds sl_places sl_lengths sl_downs sl_covers as_size_68 as_need_68 as_lifted_68 as_licked_68 as_morning_68 as_tally_68 as_kinds_68 as_places_68 as_lengths_68 as_downs_68 as_covers_68 text place count least inAll inSome scratch_68 findings)) hc hG (cc_X4_lineToLookAt ad finding asked upper lower r_items r_sizes t_items t_sizes d_items d_sizes st_size st_need st_lifted st_licked st_morning st_tally st_kinds st_places st_lengths st_downs st_covers sl_size sl_need sl_lifted sl_licked sl_morning sl_tally sl_kinds sl_places sl_lengths sl_downs sl_covers as_size_39 as_need_39 as_lifted_39 as_licked_39 as_morning_39 as_tally_39 as_kinds_39 as_places_39 as_lengths_39 as_downs_39 as_covers_39 text place count least inAll inSome scratch findings x1 v39 (v63 + 1) v68 asked_68 as_size_68 as_need_68 as_lifted_68 as_licked_68 as_morning_68 as_tally_68 as_kinds_68 as_places_68 as_lengths_68 as_downs_68 as_covers_68 scratch_68 e68) [0, 1, 2, 3, 4, 5, 6, 7, 8, 9, 10, 11, 12, 13, 14, 15, 16, 17, 18, 19, 20, 21, 22, 23, 24, 25, 26, 27, 28, 29, 30, 31] [] [0, 1, 2, 3, 4, 5, 6, 7, 8, 9, 10, 11, 12, 13, 14, 15, 16, 17, 18, 19, 20, 21, 22, 23, 24, 25, 26, 27, 28, 29, 30, 31] rfl rfl rfl 0 rfl rfl lX4_250 ⟨rfl, rfl, by decide, by decide⟩ rfl hl.1 (Nat.le_of_ble_eq_true rfl) rfl dX4_next_68 (fun H locs hG => ?_)
          cases h
          exact hret _ _ _ _ hG dX4_next_71 rfl
        · rw [if_pos c46] at h
          refine lv_bipush (v := (-9)) hx hb dX4_next_49 (by decide) ?_
          refine lv_goto (tgt := 71) hx hb dX4_next_51 (by decide) ?_
          cases h
          exact hret _ _ _ _ hG dX4_next_71 rfl
      · rw [if_neg c27] at h
        refine lv_aload_n hx hb dX4_next_30 rfl (lv_at hl 1 rfl) ?_
        refine lv_iload_n hx hb dX4_next_31 rfl (lv_at hl 0 rfl) ?_
        obtain ⟨v32, finding_32, findings_32, e32, h⟩ := bd3_some h
        refine x_vi (rest := []) (ws' := (wX4 cI ad finding_32 asked upper lower r_items r_sizes t_items t_sizes d_items d_sizes st_size st_need st_lifted st_licked st_morning st_tally st_kinds st_places st_lengths st_downs st_covers sl_size sl_need sl_lifted sl_licked sl_morning sl_tally sl_kinds sl_places sl_lengths sl_downs sl_covers as_size as_need as_lifted as_licked as_morning as_tally as_kinds as_places as_lengths as_downs as_covers text place count least inAll inSome scratch findings_32)) hc hG (cc_X4_find ad finding asked upper lower r_items r_sizes t_items t_sizes d_items d_sizes st_size st_need st_lifted st_licked st_morning st_tally st_kinds st_places st_lengths st_downs st_covers sl_size sl_need sl_lifted sl_licked sl_morning sl_tally sl_kinds sl_places sl_lengths sl_downs sl_covers as_size as_need as_lifted as_licked as_morning as_tally as_kinds as_places as_lengths as_downs as_covers text place count least inAll inSome scratch findings v22 v32 finding_32 findings_32 e32) [0, 1, 2, 3, 4, 5, 6, 7, 8, 9, 10, 11, 12, 13, 14, 15, 16, 17, 18, 19, 20, 21, 22, 23, 24, 25, 26, 27, 28, 29, 30, 31] [] [0, 1, 2, 3, 4, 5, 6, 7, 8, 9, 10, 11, 12, 13, 14, 15, 16, 17, 18, 19, 20, 21, 22, 23, 24, 25, 26, 27, 28, 29, 30, 31] rfl rfl rfl 0 rfl rfl lX4_72 ⟨rfl, rfl, by decide, by decide⟩ rfl hl.1 (Nat.le_of_ble_eq_true rfl) rfl dX4_next_32 (fun H locs hG => ?_)
        cases h
        exact hret _ _ _ _ hG dX4_next_35 rfl
    · rw [if_pos c15] at h
      refine lv_iconst (v := (-1)) hx hb dX4_next_18 (by decide) ?_
      cases h
      exact hret _ _ _ _ hG dX4_next_19 rfl
set_option maxRecDepth 100000 in
set_option maxHeartbeats 4000000 in
theorem cc_X4_fitLengthSets {l : Launch} {D : va_G} {cI : ClassId} {tL : Nat} (ad : Nat → Nat) (finding : Int32) (asked : Int32) (upper : Int64) (lower : Int64) (r_items : Nat → Int32) (r_sizes : Nat → Int32) (t_items : Nat → Int32) (t_sizes : Nat → Int32) (d_items : Nat → Int32) (d_sizes : Nat → Int32) (st_size : Int32) (st_need : Int32) (st_lifted : Int32) (st_licked : Int32) (st_morning : Int32) (st_tally : Int32) (st_kinds : Nat → Int32) (st_places : Nat → Int32) (st_lengths : Nat → Int32) (st_downs : Nat → Int32) (st_covers : Nat → Int32) (sl_size : Int32) (sl_need : Int32) (sl_lifted : Int32) (sl_licked : Int32) (sl_morning : Int32) (sl_tally : Int32) (sl_kinds : Nat → Int32) (sl_places : Nat → Int32) (sl_lengths : Nat → Int32) (sl_downs : Nat → Int32) (sl_covers : Nat → Int32) (as_size : Int32) (as_need : Int32) (as_lifted : Int32) (as_licked : Int32) (as_morning : Int32) (as_tally : Int32) (as_kinds : Nat → Int32) (as_places : Nat → Int32) (as_lengths : Nat → Int32) (as_downs : Nat → Int32) (as_covers : Nat → Int32) (text : Int32) (place : Int32) (count : Int32) (least : Int32) (inAll : Int32) (inSome : Int32) (scratch : Nat → Int32) (findings : Nat → Int32) (x1 : Int32) (count' : Int32) (least' : Int32) (inAll' : Int32) (inSome' : Int32) (h : fX4_fitLengthSets sl_size sl_lengths x1 = some (count', least', inAll', inSome')) : Cv l D cI tL yX4_fitLengthSets cX4_fitLengthSets 4 rmX4_fitLengthSets (wX4 cI ad finding asked upper lower r_items r_sizes t_items t_sizes d_items d_sizes st_size st_need st_lifted st_licked st_morning st_tally st_kinds st_places st_lengths st_downs st_covers sl_size sl_need sl_lifted sl_licked sl_morning sl_tally sl_kinds sl_places sl_lengths sl_downs sl_covers as_size as_need as_lifted as_licked as_morning as_tally as_kinds as_places as_lengths as_downs as_covers text place count least inAll inSome scratch findings) [.ref (ad 0), .int x1] (wX4 cI ad finding asked upper lower r_items r_sizes t_items t_sizes d_items d_sizes st_size st_need st_lifted st_licked st_morning st_tally st_kinds st_places st_lengths st_downs st_covers sl_size sl_need sl_lifted sl_licked sl_morning sl_tally sl_kinds sl_places sl_lengths sl_downs sl_covers as_size as_need as_lifted as_licked as_morning as_tally as_kinds as_places as_lengths as_downs as_covers text place count' least' inAll' inSome' scratch findings) := by
  refine Cv_of (own := RX4) (by decide) (Nat.le_of_ble_eq_true rfl) rfl ?_
  intro p e s m below meth c Q A AV hc hret ls hl hG
  obtain ⟨hx, hb, hml, hown, hts, hK, hA, hz⟩ := id hc
  have hl : lv_has ls 4 [(0, .ref (ad 0)), (1, .int x1)] := hl
  have hL_17 : ∀ (x1 : Int32) (x2 : Int32) (count_o : Int32) (least_o : Int32) (inAll_o : Int32) (inSome_o : Int32), (∀ (ls : Array Slot) (H : Heap) (locs : List Loc), lv_has ls 4 [(0, .ref (ad 0))] → St D A s (wX4 cI ad finding asked upper lower r_items r_sizes t_items t_sizes d_items d_sizes st_size st_need st_lifted st_licked st_morning st_tally st_kinds st_places st_lengths st_downs st_covers sl_size sl_need sl_lifted sl_licked sl_morning sl_tally sl_kinds sl_places sl_lengths sl_downs sl_covers as_size as_need as_lifted as_licked as_morning as_tally as_kinds as_places as_lengths as_downs as_covers text place count_o least_o inAll_o inSome_o scratch findings) H locs → W p l e rmX4_fitLengthSets s m AV below meth c H locs 0 0 Q (F0 m 48 ls [])) → ∀ (n : Nat) (count : Int32) (least : Int32) (inAll : Int32) (inSome : Int32) (x3 : Int32), fX4_fitLengthSets_L17 sl_size sl_lengths x1 x2 n count least inAll inSome x3 = some (count_o, least_o, inAll_o, inSome_o) → ∀ (ls : Array Slot) (H : Heap) (locs : List Loc), lv_has ls 4 [(0, .ref (ad 0)), (1, .int x1), (2, .int x2), (3, .int x3)] → St D A s (wX4 cI ad finding asked upper lower r_items r_sizes t_items t_sizes d_items d_sizes st_size st_need st_lifted st_licked st_morning st_tally st_kinds st_places st_lengths st_downs st_covers sl_size sl_need sl_lifted sl_licked sl_morning sl_tally sl_kinds sl_places sl_lengths sl_downs sl_covers as_size as_need as_lifted as_licked as_morning as_tally as_kinds as_places as_lengths as_downs as_covers text place count least inAll inSome scratch findings) H locs → W p l e rmX4_fitLengthSets s m AV below meth c H locs 0 0 Q (F0 m 17 ls []) := by
    intro x1 x2 count_o least_o inAll_o inSome_o KE n
    induction n with
    | zero =>
      intro count least inAll inSome x3 h
      exact nomatch (show none = some _ from h)
    | succ n ih =>
      intro count least inAll inSome x3 h ls H locs hl hG
      have h : fX4_fitLengthSets_B17 sl_size sl_lengths x1 x2 (fX4_fitLengthSets_L17 sl_size sl_lengths x1 x2 n) count least inAll inSome x3 = some (count_o, least_o, inAll_o, inSome_o) := h
      have hj_42 : ∀ (count : Int32) (least : Int32) (inAll : Int32) (inSome : Int32) (x3 : Int32) , fX4_fitLengthSets_j42 (fX4_fitLengthSets_L17 sl_size sl_lengths x1 x2 n) sl_size sl_lengths count least inAll inSome x1 x2 x3 = some (count_o, least_o, inAll_o, inSome_o) → ∀ (ls : Array Slot) (H : Heap) (locs : List Loc), lv_has ls 4 [(0, .ref (ad 0)), (1, .int x1), (2, .int x2), (3, .int x3)] → St D A s (wX4 cI ad finding asked upper lower r_items r_sizes t_items t_sizes d_items d_sizes st_size st_need st_lifted st_licked st_morning st_tally st_kinds st_places st_lengths st_downs st_covers sl_size sl_need sl_lifted sl_licked sl_morning sl_tally sl_kinds sl_places sl_lengths sl_downs sl_covers as_size as_need as_lifted as_licked as_morning as_tally as_kinds as_places as_lengths as_downs as_covers text place count least inAll inSome scratch findings) H locs → W p l e rmX4_fitLengthSets s m AV below meth c H locs 0 0 Q (F0 m 42 ls []) := by
        intro count least inAll inSome x3 h ls H locs hl hG
        unfold fX4_fitLengthSets_j42 at h
        refine lv_iinc (v := (x3 + 1)) (lv' := [(3, .int (x3 + 1)), (0, .ref (ad 0)), (1, .int x1), (2, .int x2)]) hx hb dX4_fitLengthSets_42 hl (k := 3) rfl rfl (by decide) rfl (fun ls hl => ?_)
        refine lv_goto (tgt := 17) hx hb dX4_fitLengthSets_45 (by decide) ?_
        exact ih _ _ _ _ _ h _ _ _ (lv_sub hl [1, 2, 3, 0] rfl) hG
      unfold fX4_fitLengthSets_B17 at h
      refine lv_iload_n hx hb dX4_fitLengthSets_17 rfl (lv_at hl 3 rfl) ?_
      refine lv_iload_n hx hb dX4_fitLengthSets_18 rfl (lv_at hl 2 rfl) ?_
      refine lv_icmp_gt (tgt := 48) hx hb dX4_fitLengthSets_19 (by decide) (fun c19 => ?_) (fun c19 => ?_)
      · rw [if_pos c19] at h
        cases h
        exact KE _ _ _ (lv_sub hl [0] rfl) hG
      · rw [if_neg c19] at h
        refine lv_aload_n hx hb dX4_fitLengthSets_22 rfl (lv_at hl 0 rfl) ?_
        refine x_get hc hG 0 rfl iX4 4 lX4_35 rfl dX4_fitLengthSets_23 ?_
        refine lv_iload_n hx hb dX4_fitLengthSets_26 rfl (lv_at hl 3 rfl) ?_
        obtain ⟨v27, e27, h⟩ := bd1_some h
        refine x_vi (rest := []) (ws' := (wX4 cI ad finding asked upper lower r_items r_sizes t_items t_sizes d_items d_sizes st_size st_need st_lifted st_licked st_morning st_tally st_kinds st_places st_lengths st_downs st_covers sl_size sl_need sl_lifted sl_licked sl_morning sl_tally sl_kinds sl_places sl_lengths sl_downs sl_covers as_size as_need as_lifted as_licked as_morning as_tally as_kinds as_places as_lengths as_downs as_covers text place count least inAll inSome scratch findings)) hc hG (cc_X3_lengthOfAll (fun k => ad (16 + k)) sl_size sl_need sl_lifted sl_licked sl_morning sl_tally sl_kinds sl_places sl_lengths sl_downs sl_covers x3 v27 e27) [16, 17, 18, 19, 20, 21] [0, 1, 2, 3, 4, 5, 6, 7, 8, 9, 10, 11, 12, 13, 14, 15, 22, 23, 24, 25, 26, 27, 28, 29, 30, 31] [0, 1, 2, 3, 4, 5, 6, 7, 8, 9, 10, 11, 12, 13, 14, 15, 26, 27, 28, 29, 30, 31, 16, 17, 18, 19, 20, 21, 22, 23, 24, 25] rfl rfl rfl 16 rfl rfl lX4_333 ⟨rfl, rfl, by decide, by decide⟩ rfl hl.1 (Nat.le_of_ble_eq_true rfl) rfl dX4_fitLengthSets_27 (fun H locs hG => ?_)
        refine lv_iload_n hx hb dX4_fitLengthSets_30 rfl (lv_at hl 1 rfl) ?_
        refine lv_icmp_ne (tgt := 42) hx hb dX4_fitLengthSets_31 (by decide) (fun c31 => ?_) (fun c31 => ?_)
        · rw [if_neg c31] at h
          exact hj_42 _ _ _ _ _ h _ _ _ (lv_sub hl [0, 1, 2, 3] rfl) hG
        · rw [if_pos c31] at h
          refine lv_aload_n hx hb dX4_fitLengthSets_34 rfl (lv_at hl 0 rfl) ?_
          refine x_get hc hG 0 rfl iX4 7 lX4_53 rfl dX4_fitLengthSets_35 ?_
          refine lv_iload_n hx hb dX4_fitLengthSets_38 rfl (lv_at hl 3 rfl) ?_
          obtain ⟨count_39, least_39, inAll_39, inSome_39, e39, h⟩ := bd4_some h
          refine x_vv (rest := []) (ws' := (wX4 cI ad finding asked upper lower r_items r_sizes t_items t_sizes d_items d_sizes st_size st_need st_lifted st_licked st_morning st_tally st_kinds st_places st_lengths st_downs st_covers sl_size sl_need sl_lifted sl_licked sl_morning sl_tally sl_kinds sl_places sl_lengths sl_downs sl_covers as_size as_need as_lifted as_licked as_morning as_tally as_kinds as_places as_lengths as_downs as_covers text place count_39 least_39 inAll_39 inSome_39 scratch findings)) hc hG (cc_X1_add (fun k => ad (29 + k)) count least inAll inSome x3 count_39 least_39 inAll_39 inSome_39 e39) [29] [0, 1, 2, 3, 4, 5, 6, 7, 8, 9, 10, 11, 12, 13, 14, 15, 16, 17, 18, 19, 20, 21, 22, 23, 24, 25, 26, 27, 28, 30, 31] [0, 1, 2, 3, 4, 5, 6, 7, 8, 9, 10, 11, 12, 13, 14, 15, 16, 17, 18, 19, 20, 21, 22, 23, 24, 25, 26, 27, 28, 31, 29, 30] rfl rfl rfl 29 rfl rfl lX4_330 ⟨rfl, rfl, by decide, by decide⟩ rfl hl.1 (Nat.le_of_ble_eq_true rfl) rfl dX4_fitLengthSets_39 (fun H locs hG => ?_)
          exact hj_42 _ _ _ _ _ h _ _ _ (lv_sub hl [0, 1, 2, 3] rfl) hG
  unfold fX4_fitLengthSets at h
  refine lv_aload_n hx hb dX4_fitLengthSets_0 rfl (lv_at hl 0 rfl) ?_
  refine x_get hc hG 0 rfl iX4 7 lX4_53 rfl dX4_fitLengthSets_1 ?_
  obtain ⟨count_4, least_4, inAll_4, inSome_4, e4, h⟩ := bd4_some h
  refine x_vv (rest := []) (ws' := (wX4 cI ad finding asked upper lower r_items r_sizes t_items t_sizes d_items d_sizes st_size st_need st_lifted st_licked st_morning st_tally st_kinds st_places st_lengths st_downs st_covers sl_size sl_need sl_lifted sl_licked sl_morning sl_tally sl_kinds sl_places sl_lengths sl_downs sl_covers as_size as_need as_lifted as_licked as_morning as_tally as_kinds as_places as_lengths as_downs as_covers text place count_4 least_4 inAll_4 inSome_4 scratch findings)) hc hG (cc_X1_clear (fun k => ad (29 + k)) count least inAll inSome count_4 least_4 inAll_4 inSome_4 e4) [29] [0, 1, 2, 3, 4, 5, 6, 7, 8, 9, 10, 11, 12, 13, 14, 15, 16, 17, 18, 19, 20, 21, 22, 23, 24, 25, 26, 27, 28, 30, 31] [0, 1, 2, 3, 4, 5, 6, 7, 8, 9, 10, 11, 12, 13, 14, 15, 16, 17, 18, 19, 20, 21, 22, 23, 24, 25, 26, 27, 28, 31, 29, 30] rfl rfl rfl 29 rfl rfl lX4_327 ⟨rfl, rfl, by decide, by decide⟩ rfl hl.1 (Nat.le_of_ble_eq_true rfl) rfl dX4_fitLengthSets_4 (fun H locs hG => ?_)
  refine lv_aload_n hx hb dX4_fitLengthSets_7 rfl (lv_at hl 0 rfl) ?_
  refine x_get hc hG 0 rfl iX4 4 lX4_35 rfl dX4_fitLengthSets_8 ?_
  obtain ⟨v11, e11, h⟩ := bd1_some h
  refine x_vi (rest := []) (ws' := (wX4 cI ad finding asked upper lower r_items r_sizes t_items t_sizes d_items d_sizes st_size st_need st_lifted st_licked st_morning st_tally st_kinds st_places st_lengths st_downs st_covers sl_size sl_need sl_lifted sl_licked sl_morning sl_tally sl_kinds sl_places sl_lengths sl_downs sl_covers as_size as_need as_lifted as_licked as_morning as_tally as_kinds as_places as_lengths as_downs as_covers text place count_4 least_4 inAll_4 inSome_4 scratch findings)) hc hG (cc_X3_allPeels (fun k => ad (16 + k)) sl_size sl_need sl_lifted sl_licked sl_morning sl_tally sl_kinds sl_places sl_lengths sl_downs sl_covers v11 e11) [16, 17, 18, 19, 20, 21] [0, 1, 2, 3, 4, 5, 6, 7, 8, 9, 10, 11, 12, 13, 14, 15, 22, 23, 24, 25, 26, 27, 28, 29, 30, 31] [0, 1, 2, 3, 4, 5, 6, 7, 8, 9, 10, 11, 12, 13, 14, 15, 26, 27, 28, 29, 30, 31, 16, 17, 18, 19, 20, 21, 22, 23, 24, 25] rfl rfl rfl 16 rfl rfl lX4_256 ⟨rfl, rfl, by decide, by decide⟩ rfl hl.1 (Nat.le_of_ble_eq_true rfl) rfl dX4_fitLengthSets_11 (fun H locs hG => ?_)
  refine lv_istore_n (lv' := [(2, .int v11), (0, .ref (ad 0)), (1, .int x1)]) hx hb dX4_fitLengthSets_14 rfl hl (by decide) rfl (fun ls hl => ?_)
  refine lv_iconst (v := 0) hx hb dX4_fitLengthSets_15 (by decide) ?_
  refine lv_istore_n (lv' := [(3, .int 0), (2, .int v11), (0, .ref (ad 0)), (1, .int x1)]) hx hb dX4_fitLengthSets_16 rfl hl (by decide) rfl (fun ls hl => ?_)
  obtain ⟨count_L17, least_L17, inAll_L17, inSome_L17, e17, h⟩ := bd4_some h
  refine hL_17 _ _ _ _ _ _ (fun ls H locs hl hG => ?_) _ _ _ _ _ _ e17 _ _ _ (lv_sub hl [2, 3, 1, 0] rfl) hG
  cases h
  exact hret _ _ _ _ hG dX4_fitLengthSets_48
set_option maxRecDepth 100000 in
set_option maxHeartbeats 4000000 in
theorem cc_X4_sets {l : Launch} {D : va_G} {cI : ClassId} {tL : Nat} (ad : Nat → Nat) (finding : Int32) (asked : Int32) (upper : Int64) (lower : Int64) (r_items : Nat → Int32) (r_sizes : Nat → Int32) (t_items : Nat → Int32) (t_sizes : Nat → Int32) (d_items : Nat → Int32) (d_sizes : Nat → Int32) (st_size : Int32) (st_need : Int32) (st_lifted : Int32) (st_licked : Int32) (st_morning : Int32) (st_tally : Int32) (st_kinds : Nat → Int32) (st_places : Nat → Int32) (st_lengths : Nat → Int32) (st_downs : Nat → Int32) (st_covers : Nat → Int32) (sl_size : Int32) (sl_need : Int32) (sl_lifted : Int32) (sl_licked : Int32) (sl_morning : Int32) (sl_tally : Int32) (sl_kinds : Nat → Int32) (sl_places : Nat → Int32) (sl_lengths : Nat → Int32) (sl_downs : Nat → Int32) (sl_covers : Nat → Int32) (as_size : Int32) (as_need : Int32) (as_lifted : Int32) (as_licked : Int32) (as_morning : Int32) (as_tally : Int32) (as_kinds : Nat → Int32) (as_places : Nat → Int32) (as_lengths : Nat → Int32) (as_downs : Nat → Int32) (as_covers : Nat → Int32) (text : Int32) (place : Int32) (count : Int32) (least : Int32) (inAll : Int32) (inSome : Int32) (scratch : Nat → Int32) (findings : Nat → Int32) (x1 : Int32) (r' : Int32) (asked' : Int32) (upper' : Int64) (lower' : Int64) (count' : Int32) (least' : Int32) (inAll' : Int32) (inSome' : Int32) (h : fX4_sets asked upper lower sl_size sl_lengths count least inAll inSome x1 = some (r', asked', upper', lower', count', least', inAll', inSome')) : Ci l D cI tL yX4_sets cX4_sets 2 .int rmX4_sets (wX4 cI ad finding asked upper lower r_items r_sizes t_items t_sizes d_items d_sizes st_size st_need st_lifted st_licked st_morning st_tally st_kinds st_places st_lengths st_downs st_covers sl_size sl_need sl_lifted sl_licked sl_morning sl_tally sl_kinds sl_places sl_lengths sl_downs sl_covers as_size as_need as_lifted as_licked as_morning as_tally as_kinds as_places as_lengths as_downs as_covers text place count least inAll inSome scratch findings) [.ref (ad 0), .int x1] r' (wX4 cI ad finding asked' upper' lower' r_items r_sizes t_items t_sizes d_items d_sizes st_size st_need st_lifted st_licked st_morning st_tally st_kinds st_places st_lengths st_downs st_covers sl_size sl_need sl_lifted sl_licked sl_morning sl_tally sl_kinds sl_places sl_lengths sl_downs sl_covers as_size as_need as_lifted as_licked as_morning as_tally as_kinds as_places as_lengths as_downs as_covers text place count' least' inAll' inSome' scratch findings) := by
  refine Ci_of (own := RX4) (by decide) (Nat.le_of_ble_eq_true rfl) rfl ?_
  intro p e s m below meth c Q A AV hc hret ls hl hG
  obtain ⟨hx, hb, hml, hown, hts, hK, hA, hz⟩ := id hc
  have hl : lv_has ls 2 [(0, .ref (ad 0)), (1, .int x1)] := hl
  unfold fX4_sets at h
  refine lv_iload_n hx hb dX4_sets_0 rfl (lv_at hl 1 rfl) ?_
  refine lv_if_lt (tgt := 10) hx hb dX4_sets_1 (by decide) (fun c1 => ?_) (fun c1 => ?_)
  · rw [if_pos c1] at h
    refine lv_iconst (v := (-1)) hx hb dX4_sets_10 (by decide) ?_
    cases h
    exact hret _ _ _ _ hG dX4_sets_11 rfl
  · rw [if_neg c1] at h
    refine lv_iload_n hx hb dX4_sets_4 rfl (lv_at hl 1 rfl) ?_
    refine lv_bipush (v := 24) hx hb dX4_sets_5 (by decide) ?_
    refine lv_icmp_le (tgt := 12) hx hb dX4_sets_7 (by decide) (fun c7 => ?_) (fun c7 => ?_)
    · rw [if_pos c7] at h
      refine lv_aload_n hx hb dX4_sets_12 rfl (lv_at hl 0 rfl) ?_
      refine x_get hc hG 0 rfl iX4 4 lX4_35 rfl dX4_sets_13 ?_
      refine x_getN hc hG 16 rfl iX3 5 lX4_118 rfl dX4_sets_16 ?_
      refine lv_if_ne (tgt := 25) hx hb dX4_sets_19 (by decide) (fun c19 => ?_) (fun c19 => ?_)
      · rw [if_neg c19] at h
        refine lv_aload_n hx hb dX4_sets_25 rfl (lv_at hl 0 rfl) ?_
        refine lv_iload_n hx hb dX4_sets_26 rfl (lv_at hl 1 rfl) ?_
        obtain ⟨count_27, least_27, inAll_27, inSome_27, e27, h⟩ := bd4_some h
        refine x_vv (rest := []) (ws' := (wX4 cI ad finding asked upper lower r_items r_sizes t_items t_sizes d_items d_sizes st_size st_need st_lifted st_licked st_morning st_tally st_kinds st_places st_lengths st_downs st_covers sl_size sl_need sl_lifted sl_licked sl_morning sl_tally sl_kinds sl_places sl_lengths sl_downs sl_covers as_size as_need as_lifted as_licked as_morning as_tally as_kinds as_places as_lengths as_downs as_covers text place count_27 least_27 inAll_27 inSome_27 scratch findings)) hc hG (cc_X4_fitLengthSets ad finding asked upper lower r_items r_sizes t_items t_sizes d_items d_sizes st_size st_need st_lifted st_licked st_morning st_tally st_kinds st_places st_lengths st_downs st_covers sl_size sl_need sl_lifted sl_licked sl_morning sl_tally sl_kinds sl_places sl_lengths sl_downs sl_covers as_size as_need as_lifted as_licked as_morning as_tally as_kinds as_places as_lengths as_downs as_covers text place count least inAll inSome scratch findings x1 count_27 least_27 inAll_27 inSome_27 e27) [0, 1, 2, 3, 4, 5, 6, 7, 8, 9, 10, 11, 12, 13, 14, 15, 16, 17, 18, 19, 20, 21, 22, 23, 24, 25, 26, 27, 28, 29, 30, 31] [] [0, 1, 2, 3, 4, 5, 6, 7, 8, 9, 10, 11, 12, 13, 14, 15, 16, 17, 18, 19, 20, 21, 22, 23, 24, 25, 26, 27, 28, 29, 30, 31] rfl rfl rfl 0 rfl rfl lX4_253 ⟨rfl, rfl, by decide, by decide⟩ rfl hl.1 (Nat.le_of_ble_eq_true rfl) rfl dX4_sets_27 (fun H locs hG => ?_)
        refine lv_aload_n hx hb dX4_sets_30 rfl (lv_at hl 0 rfl) ?_
        refine lv_aload_n hx hb dX4_sets_31 rfl (lv_at hl 0 rfl) ?_
        refine x_get hc hG 0 rfl iX4 7 lX4_53 rfl dX4_sets_32 ?_
        refine x_getN hc hG 29 rfl iX1 0 lX4_225 rfl dX4_sets_35 ?_
        refine lv_i2l hx hb dX4_sets_38 rfl ?_
        refine lv_lconst (v := 1) hx hb dX4_sets_39 (by decide) ?_
        obtain ⟨upper_40, lower_40, e40, h⟩ := bd2_some h
        refine x_vv (rest := []) (ws' := (wX4 cI ad finding asked upper_40 lower_40 r_items r_sizes t_items t_sizes d_items d_sizes st_size st_need st_lifted st_licked st_morning st_tally st_kinds st_places st_lengths st_downs st_covers sl_size sl_need sl_lifted sl_licked sl_morning sl_tally sl_kinds sl_places sl_lengths sl_downs sl_covers as_size as_need as_lifted as_licked as_morning as_tally as_kinds as_places as_lengths as_downs as_covers text place count_27 least_27 inAll_27 inSome_27 scratch findings)) hc hG (cc_X4_tellChance ad finding asked upper lower r_items r_sizes t_items t_sizes d_items d_sizes st_size st_need st_lifted st_licked st_morning st_tally st_kinds st_places st_lengths st_downs st_covers sl_size sl_need sl_lifted sl_licked sl_morning sl_tally sl_kinds sl_places sl_lengths sl_downs sl_covers as_size as_need as_lifted as_licked as_morning as_tally as_kinds as_places as_lengths as_downs as_covers text place count_27 least_27 inAll_27 inSome_27 scratch findings (Int32.toInt64 count_27) 1 upper_40 lower_40 e40) [0, 1, 2, 3, 4, 5, 6, 7, 8, 9, 10, 11, 12, 13, 14, 15, 16, 17, 18, 19, 20, 21, 22, 23, 24, 25, 26, 27, 28, 29, 30, 31] [] [0, 1, 2, 3, 4, 5, 6, 7, 8, 9, 10, 11, 12, 13, 14, 15, 16, 17, 18, 19, 20, 21, 22, 23, 24, 25, 26, 27, 28, 29, 30, 31] rfl rfl rfl 0 rfl rfl lX4_228 ⟨rfl, rfl, by decide, by decide⟩ rfl hl.1 (Nat.le_of_ble_eq_true rfl) rfl dX4_sets_40 (fun H locs hG => ?_)
        refine lv_aload_n hx hb dX4_sets_43 rfl (lv_at hl 0 rfl) ?_
        refine lv_aload_n hx hb dX4_sets_44 rfl (lv_at hl 0 rfl) ?_
        refine x_get hc hG 0 rfl iX4 7 lX4_53 rfl dX4_sets_45 ?_
        refine x_getN hc hG 29 rfl iX1 1 lX4_232 rfl dX4_sets_48 ?_
        obtain ⟨v51, asked_51, e51, h⟩ := bd2_some h
        refine x_vi (rest := []) (ws' := (wX4 cI ad finding asked_51 upper_40 lower_40 r_items r_sizes t_items t_sizes d_items d_sizes st_size st_need st_lifted st_licked st_morning st_tally st_kinds st_places st_lengths st_downs st_covers sl_size sl_need sl_lifted sl_licked sl_morning sl_tally sl_kinds sl_places sl_lengths sl_downs sl_covers as_size as_need as_lifted as_licked as_morning as_tally as_kinds as_places as_lengths as_downs as_covers text place count_27 least_27 inAll_27 inSome_27 scratch findings)) hc hG (cc_X4_tell ad finding asked upper_40 lower_40 r_items r_sizes t_items t_sizes d_items d_sizes st_size st_need st_lifted st_licked st_morning st_tally st_kinds st_places st_lengths st_downs st_covers sl_size sl_need sl_lifted sl_licked sl_morning sl_tally sl_kinds sl_places sl_lengths sl_downs sl_covers as_size as_need as_lifted as_licked as_morning as_tally as_kinds as_places as_lengths as_downs as_covers text place count_27 least_27 inAll_27 inSome_27 scratch findings least_27 v51 asked_51 e51) [0, 1, 2, 3, 4, 5, 6, 7, 8, 9, 10, 11, 12, 13, 14, 15, 16, 17, 18, 19, 20, 21, 22, 23, 24, 25, 26, 27, 28, 29, 30, 31] [] [0, 1, 2, 3, 4, 5, 6, 7, 8, 9, 10, 11, 12, 13, 14, 15, 16, 17, 18, 19, 20, 21, 22, 23, 24, 25, 26, 27, 28, 29, 30, 31] rfl rfl rfl 0 rfl rfl lX4_90 ⟨rfl, rfl, by decide, by decide⟩ rfl hl.1 (Nat.le_of_ble_eq_true rfl) rfl dX4_sets_51 (fun H locs hG => ?_)
        cases h
        exact hret _ _ _ _ hG dX4_sets_54 rfl
      · rw [if_pos c19] at h
        refine lv_bipush (v := (-4)) hx hb dX4_sets_22 (by decide) ?_
        cases h
        exact hret _ _ _ _ hG dX4_sets_24 rfl
    · rw [if_neg c7] at h
      refine lv_iconst (v := (-1)) hx hb dX4_sets_10 (by decide) ?_
      cases h
      exact hret _ _ _ _ hG dX4_sets_11 rfl
set_option maxRecDepth 100000 in
set_option maxHeartbeats 4000000 in
theorem cc_X4_surely {l : Launch} {D : va_G} {cI : ClassId} {tL : Nat} (ad : Nat → Nat) (finding : Int32) (asked : Int32) (upper : Int64) (lower : Int64) (r_items : Nat → Int32) (r_sizes : Nat → Int32) (t_items : Nat → Int32) (t_sizes : Nat → Int32) (d_items : Nat → Int32) (d_sizes : Nat → Int32) (st_size : Int32) (st_need : Int32) (st_lifted : Int32) (st_licked : Int32) (st_morning : Int32) (st_tally : Int32) (st_kinds : Nat → Int32) (st_places : Nat → Int32) (st_lengths : Nat → Int32) (st_downs : Nat → Int32) (st_covers : Nat → Int32) (sl_size : Int32) (sl_need : Int32) (sl_lifted : Int32) (sl_licked : Int32) (sl_morning : Int32) (sl_tally : Int32) (sl_kinds : Nat → Int32) (sl_places : Nat → Int32) (sl_lengths : Nat → Int32) (sl_downs : Nat → Int32) (sl_covers : Nat → Int32) (as_size : Int32) (as_need : Int32) (as_lifted : Int32) (as_licked : Int32) (as_morning : Int32) (as_tally : Int32) (as_kinds : Nat → Int32) (as_places : Nat → Int32) (as_lengths : Nat → Int32) (as_downs : Nat → Int32) (as_covers : Nat → Int32) (text : Int32) (place : Int32) (count : Int32) (least : Int32) (inAll : Int32) (inSome : Int32) (scratch : Nat → Int32) (findings : Nat → Int32) (x1 : Int32) (r' : Int32) (finding' : Int32) (asked' : Int32) (count' : Int32) (least' : Int32) (inAll' : Int32) (inSome' : Int32) (findings' : Nat → Int32) (h : fX4_surely finding asked sl_size sl_lengths count least inAll inSome findings x1 = some (r', finding', asked', count', least', inAll', inSome', findings')) : Ci l D cI tL yX4_surely cX4_surely 2 .int rmX4_surely (wX4 cI ad finding asked upper lower r_items r_sizes t_items t_sizes d_items d_sizes st_size st_need st_lifted st_licked st_morning st_tally st_kinds st_places st_lengths st_downs st_covers sl_size sl_need sl_lifted sl_licked sl_morning sl_tally sl_kinds sl_places sl_lengths sl_downs sl_covers as_size as_need as_lifted as_licked as_morning as_tally as_kinds as_places as_lengths as_downs as_covers text place count least inAll inSome scratch findings) [.ref (ad 0), .int x1] r' (wX4 cI ad finding' asked' upper lower r_items r_sizes t_items t_sizes d_items d_sizes st_size st_need st_lifted st_licked st_morning st_tally st_kinds st_places st_lengths st_downs st_covers sl_size sl_need sl_lifted sl_licked sl_morning sl_tally sl_kinds sl_places sl_lengths sl_downs sl_covers as_size as_need as_lifted as_licked as_morning as_tally as_kinds as_places as_lengths as_downs as_covers text place count' least' inAll' inSome' scratch findings') := by
  refine Ci_of (own := RX4) (by decide) (Nat.le_of_ble_eq_true rfl) rfl ?_
  intro p e s m below meth c Q A AV hc hret ls hl hG
  obtain ⟨hx, hb, hml, hown, hts, hK, hA, hz⟩ := id hc
  have hl : lv_has ls 2 [(0, .ref (ad 0)), (1, .int x1)] := hl
  unfold fX4_surely at h
  refine lv_iload_n hx hb dX4_surely_0 rfl (lv_at hl 1 rfl) ?_
  refine lv_if_lt (tgt := 10) hx hb dX4_surely_1 (by decide) (fun c1 => ?_) (fun c1 => ?_)
  · rw [if_pos c1] at h
    refine lv_iconst (v := (-1)) hx hb dX4_surely_10 (by decide) ?_
    cases h
    exact hret _ _ _ _ hG dX4_surely_11 rfl
  · rw [if_neg c1] at h
    refine lv_iload_n hx hb dX4_surely_4 rfl (lv_at hl 1 rfl) ?_
    refine lv_bipush (v := 24) hx hb dX4_surely_5 (by decide) ?_
    refine lv_icmp_le (tgt := 12) hx hb dX4_surely_7 (by decide) (fun c7 => ?_) (fun c7 => ?_)
    · rw [if_pos c7] at h
      refine lv_aload_n hx hb dX4_surely_12 rfl (lv_at hl 0 rfl) ?_
      refine x_get hc hG 0 rfl iX4 4 lX4_35 rfl dX4_surely_13 ?_
      refine x_getN hc hG 16 rfl iX3 5 lX4_118 rfl dX4_surely_16 ?_
      refine lv_if_ne (tgt := 25) hx hb dX4_surely_19 (by decide) (fun c19 => ?_) (fun c19 => ?_)
      · rw [if_neg c19] at h
        refine lv_aload_n hx hb dX4_surely_25 rfl (lv_at hl 0 rfl) ?_
        refine lv_iload_n hx hb dX4_surely_26 rfl (lv_at hl 1 rfl) ?_
        obtain ⟨count_27, least_27, inAll_27, inSome_27, e27, h⟩ := bd4_some h
        refine x_vv (rest := []) (ws' := (wX4 cI ad finding asked upper lower r_items r_sizes t_items t_sizes d_items d_sizes st_size st_need st_lifted st_licked st_morning st_tally st_kinds st_places st_lengths st_downs st_covers sl_size sl_need sl_lifted sl_licked sl_morning sl_tally sl_kinds sl_places sl_lengths sl_downs sl_covers as_size as_need as_lifted as_licked as_morning as_tally as_kinds as_places as_lengths as_downs as_covers text place count_27 least_27 inAll_27 inSome_27 scratch findings)) hc hG (cc_X4_fitLengthSets ad finding asked upper lower r_items r_sizes t_items t_sizes d_items d_sizes st_size st_need st_lifted st_licked st_morning st_tally st_kinds st_places st_lengths st_downs st_covers sl_size sl_need sl_lifted sl_licked sl_morning sl_tally sl_kinds sl_places sl_lengths sl_downs sl_covers as_size as_need as_lifted as_licked as_morning as_tally as_kinds as_places as_lengths as_downs as_covers text place count least inAll inSome scratch findings x1 count_27 least_27 inAll_27 inSome_27 e27) [0, 1, 2, 3, 4, 5, 6, 7, 8, 9, 10, 11, 12, 13, 14, 15, 16, 17, 18, 19, 20, 21, 22, 23, 24, 25, 26, 27, 28, 29, 30, 31] [] [0, 1, 2, 3, 4, 5, 6, 7, 8, 9, 10, 11, 12, 13, 14, 15, 16, 17, 18, 19, 20, 21, 22, 23, 24, 25, 26, 27, 28, 29, 30, 31] rfl rfl rfl 0 rfl rfl lX4_253 ⟨rfl, rfl, by decide, by decide⟩ rfl hl.1 (Nat.le_of_ble_eq_true rfl) rfl dX4_surely_27 (fun H locs hG => ?_)
        refine lv_aload_n hx hb dX4_surely_30 rfl (lv_at hl 0 rfl) ?_
        refine x_get hc hG 0 rfl iX4 7 lX4_53 rfl dX4_surely_31 ?_
        refine x_getN hc hG 29 rfl iX1 0 lX4_225 rfl dX4_surely_34 ?_
        refine lv_if_ne (tgt := 46) hx hb dX4_surely_37 (by decide) (fun c37 => ?_) (fun c37 => ?_)
        · rw [if_neg c37] at h
          refine lv_aload_n hx hb dX4_surely_46 rfl (lv_at hl 0 rfl) ?_
          refine lv_aload_n hx hb dX4_surely_47 rfl (lv_at hl 0 rfl) ?_
          refine x_get hc hG 0 rfl iX4 4 lX4_35 rfl dX4_surely_48 ?_
          obtain ⟨v51, e51, h⟩ := bd1_some h
          refine x_vi (rest := [.ref (ad 0)]) (ws' := (wX4 cI ad finding asked upper lower r_items r_sizes t_items t_sizes d_items d_sizes st_size st_need st_lifted st_licked st_morning st_tally st_kinds st_places st_lengths st_downs st_covers sl_size sl_need sl_lifted sl_licked sl_morning sl_tally sl_kinds sl_places sl_lengths sl_downs sl_covers as_size as_need as_lifted as_licked as_morning as_tally as_kinds as_places as_lengths as_downs as_covers text place count_27 least_27 inAll_27 inSome_27 scratch findings)) hc hG (cc_X3_allPeels (fun k => ad (16 + k)) sl_size sl_need sl_lifted sl_licked sl_morning sl_tally sl_kinds sl_places sl_lengths sl_downs sl_covers v51 e51) [16, 17, 18, 19, 20, 21] [0, 1, 2, 3, 4, 5, 6, 7, 8, 9, 10, 11, 12, 13, 14, 15, 22, 23, 24, 25, 26, 27, 28, 29, 30, 31] [0, 1, 2, 3, 4, 5, 6, 7, 8, 9, 10, 11, 12, 13, 14, 15, 26, 27, 28, 29, 30, 31, 16, 17, 18, 19, 20, 21, 22, 23, 24, 25] rfl rfl rfl 16 rfl rfl lX4_256 ⟨rfl, rfl, by decide, by decide⟩ rfl hl.1 (Nat.le_of_ble_eq_true rfl) rfl dX4_surely_51 (fun H locs hG => ?_)
          refine lv_aload_n hx hb dX4_surely_54 rfl (lv_at hl 0 rfl) ?_
          refine x_get hc hG 0 rfl iX4 7 lX4_53 rfl dX4_surely_55 ?_
          refine x_getN hc hG 29 rfl iX1 3 lX4_235 rfl dX4_surely_58 ?_
          refine lv_iconst (v := (-1)) hx hb dX4_surely_61 (by decide) ?_
          refine lv_ixor hx hb dX4_surely_62 ?_
          refine lv_iand hx hb dX4_surely_63 ?_
          refine x_put (ws' := (wX4 cI ad finding (v51 &&& (inSome_27 ^^^ (-1))) upper lower r_items r_sizes t_items t_sizes d_items d_sizes st_size st_need st_lifted st_licked st_morning st_tally st_kinds st_places st_lengths st_downs st_covers sl_size sl_need sl_lifted sl_licked sl_morning sl_tally sl_kinds sl_places sl_lengths sl_downs sl_covers as_size as_need as_lifted as_licked as_morning as_tally as_kinds as_places as_lengths as_downs as_covers text place count_27 least_27 inAll_27 inSome_27 scratch findings)) hc hG 0 rfl iX4 tyX4 tyX4_ok nmX4 11 lX4_178 rfl rfl rfl (Nat.le_of_ble_eq_true rfl) rfl dX4_surely_64 (fun H locs hG => ?_)
          refine lv_aload_n hx hb dX4_surely_67 rfl (lv_at hl 0 rfl) ?_
          refine x_get hc hG 0 rfl iX4 7 lX4_53 rfl dX4_surely_68 ?_
          refine x_getN hc hG 29 rfl iX1 2 lX4_238 rfl dX4_surely_71 ?_
          cases h
          exact hret _ _ _ _ hG dX4_surely_74 rfl
        · rw [if_pos c37] at h
          refine lv_aload_n hx hb dX4_surely_40 rfl (lv_at hl 0 rfl) ?_
          refine lv_iconst (v := 4) hx hb dX4_surely_41 (by decide) ?_
          obtain ⟨v42, finding_42, findings_42, e42, h⟩ := bd3_some h
          refine x_vi (rest := []) (ws' := (wX4 cI ad finding_42 asked upper lower r_items r_sizes t_items t_sizes d_items d_sizes st_size st_need st_lifted st_licked st_morning st_tally st_kinds st_places st_lengths st_downs st_covers sl_size sl_need sl_lifted sl_licked sl_morning sl_tally sl_kinds sl_places sl_lengths sl_downs sl_covers as_size as_need as_lifted as_licked as_morning as_tally as_kinds as_places as_lengths as_downs as_covers text place count_27 least_27 inAll_27 inSome_27 scratch findings_42)) hc hG (cc_X4_find ad finding asked upper lower r_items r_sizes t_items t_sizes d_items d_sizes st_size st_need st_lifted st_licked st_morning st_tally st_kinds st_places st_lengths st_downs st_covers sl_size sl_need sl_lifted sl_licked sl_morning sl_tally sl_kinds sl_places sl_lengths sl_downs sl_covers as_size as_need as_lifted as_licked as_morning as_tally as_kinds as_places as_lengths as_downs as_covers text place count_27 least_27 inAll_27 inSome_27 scratch findings 4 v42 finding_42 findings_42 e42) [0, 1, 2, 3, 4, 5, 6, 7, 8, 9, 10, 11, 12, 13, 14, 15, 16, 17, 18, 19, 20, 21, 22, 23, 24, 25, 26, 27, 28, 29, 30, 31] [] [0, 1, 2, 3, 4, 5, 6, 7, 8, 9, 10, 11, 12, 13, 14, 15, 16, 17, 18, 19, 20, 21, 22, 23, 24, 25, 26, 27, 28, 29, 30, 31] rfl rfl rfl 0 rfl rfl lX4_72 ⟨rfl, rfl, by decide, by decide⟩ rfl hl.1 (Nat.le_of_ble_eq_true rfl) rfl dX4_surely_42 (fun H locs hG => ?_)
          cases h
          exact hret _ _ _ _ hG dX4_surely_45 rfl
      · rw [if_pos c19] at h
        refine lv_bipush (v := (-4)) hx hb dX4_surely_22 (by decide) ?_
        cases h
        exact hret _ _ _ _ hG dX4_surely_24 rfl
    · rw [if_neg c7] at h
      refine lv_iconst (v := (-1)) hx hb dX4_surely_10 (by decide) ?_
      cases h
      exact hret _ _ _ _ hG dX4_surely_11 rfl
set_option maxRecDepth 100000 in
set_option maxHeartbeats 4000000 in
theorem cc_X4_weighLiftedSets {l : Launch} {D : va_G} {cI : ClassId} {tL : Nat} (ad : Nat → Nat) (finding : Int32) (asked : Int32) (upper : Int64) (lower : Int64) (r_items : Nat → Int32) (r_sizes : Nat → Int32) (t_items : Nat → Int32) (t_sizes : Nat → Int32) (d_items : Nat → Int32) (d_sizes : Nat → Int32) (st_size : Int32) (st_need : Int32) (st_lifted : Int32) (st_licked : Int32) (st_morning : Int32) (st_tally : Int32) (st_kinds : Nat → Int32) (st_places : Nat → Int32) (st_lengths : Nat → Int32) (st_downs : Nat → Int32) (st_covers : Nat → Int32) (sl_size : Int32) (sl_need : Int32) (sl_lifted : Int32) (sl_licked : Int32) (sl_morning : Int32) (sl_tally : Int32) (sl_kinds : Nat → Int32) (sl_places : Nat → Int32) (sl_lengths : Nat → Int32) (sl_downs : Nat → Int32) (sl_covers : Nat → Int32) (as_size : Int32) (as_need : Int32) (as_lifted : Int32) (as_licked : Int32) (as_morning : Int32) (as_tally : Int32) (as_kinds : Nat → Int32) (as_places : Nat → Int32) (as_lengths : Nat → Int32) (as_downs : Nat → Int32) (as_covers : Nat → Int32) (text : Int32) (place : Int32) (count : Int32) (least : Int32) (inAll : Int32) (inSome : Int32) (scratch : Nat → Int32) (findings : Nat → Int32) (as_size' : Int32) (as_need' : Int32) (as_lifted' : Int32) (as_licked' : Int32) (as_morning' : Int32) (as_tally' : Int32) (as_kinds' : Nat → Int32) (as_places' : Nat → Int32) (as_lengths' : Nat → Int32) (as_downs' : Nat → Int32) (as_covers' : Nat → Int32) (scratch' : Nat → Int32) (h : fX4_weighLiftedSets sl_size sl_need sl_lifted sl_licked sl_morning sl_tally sl_kinds sl_places sl_lengths sl_downs sl_covers as_kinds as_places as_lengths as_downs as_covers scratch = some (as_size', as_need', as_lifted', as_licked', as_morning', as_tally', as_kinds', as_places', as_lengths', as_downs', as_covers', scratch')) : Cv l D cI tL yX4_weighLiftedSets cX4_weighLiftedSets 3 rmX4_weighLiftedSets (wX4 cI ad finding asked upper lower r_items r_sizes t_items t_sizes d_items d_sizes st_size st_need st_lifted st_licked st_morning st_tally st_kinds st_places st_lengths st_downs st_covers sl_size sl_need sl_lifted sl_licked sl_morning sl_tally sl_kinds sl_places sl_lengths sl_downs sl_covers as_size as_need as_lifted as_licked as_morning as_tally as_kinds as_places as_lengths as_downs as_covers text place count least inAll inSome scratch findings) [.ref (ad 0)] (wX4 cI ad finding asked upper lower r_items r_sizes t_items t_sizes d_items d_sizes st_size st_need st_lifted st_licked st_morning st_tally st_kinds st_places st_lengths st_downs st_covers sl_size sl_need sl_lifted sl_licked sl_morning sl_tally sl_kinds sl_places sl_lengths sl_downs sl_covers as_size' as_need' as_lifted' as_licked' as_morning' as_tally' as_kinds' as_places' as_lengths' as_downs' as_covers' text place count least inAll inSome scratch' findings) := by
  refine Cv_of (own := RX4) (by decide) (Nat.le_of_ble_eq_true rfl) rfl ?_
  intro p e s m below meth c Q A AV hc hret ls hl hG
  obtain ⟨hx, hb, hml, hown, hts, hK, hA, hz⟩ := id hc
  have hl : lv_has ls 3 [(0, .ref (ad 0))] := hl
  have hL_36 : ∀ (as_size : Int32) (as_need : Int32) (as_licked : Int32) (as_covers : Nat → Int32) (x1 : Int32) (as_morning : Int32) (as_tally : Int32) (as_kinds : Nat → Int32) (as_places : Nat → Int32) (as_lengths : Nat → Int32) (as_downs : Nat → Int32) (as_lifted_o : Int32) (scratch_o : Nat → Int32), (∀ (ls : Array Slot) (H : Heap) (locs : List Loc), lv_has ls 3 [(0, .ref (ad 0))] → St D A s (wX4 cI ad finding asked upper lower r_items r_sizes t_items t_sizes d_items d_sizes st_size st_need st_lifted st_licked st_morning st_tally st_kinds st_places st_lengths st_downs st_covers sl_size sl_need sl_lifted sl_licked sl_morning sl_tally sl_kinds sl_places sl_lengths sl_downs sl_covers as_size as_need as_lifted_o as_licked as_morning as_tally as_kinds as_places as_lengths as_downs as_covers text place count least inAll inSome scratch_o findings) H locs → W p l e rmX4_weighLiftedSets s m AV below meth c H locs 0 0 Q (F0 m 80 ls [])) → ∀ (n : Nat) (as_lifted : Int32) (scratch : Nat → Int32) (x2 : Int32), fX4_weighLiftedSets_L36 as_size as_need as_licked as_covers x1 n as_lifted scratch x2 = some (as_lifted_o, scratch_o) → ∀ (ls : Array Slot) (H : Heap) (locs : List Loc), lv_has ls 3 [(0, .ref (ad 0)), (1, .int x1), (2, .int x2)] → St D A s (wX4 cI ad finding asked upper lower r_items r_sizes t_items t_sizes d_items d_sizes st_size st_need st_lifted st_licked st_morning st_tally st_kinds st_places st_lengths st_downs st_covers sl_size sl_need sl_lifted sl_licked sl_morning sl_tally sl_kinds sl_places sl_lengths sl_downs sl_covers as_size as_need as_lifted as_licked as_morning as_tally as_kinds as_places as_lengths as_downs as_covers text place count least inAll inSome scratch findings) H locs → W p l e rmX4_weighLiftedSets s m AV below meth c H locs 0 0 Q (F0 m 36 ls []) := by
    intro as_size as_need as_licked as_covers x1 as_morning as_tally as_kinds as_places as_lengths as_downs as_lifted_o scratch_o KE n
    induction n with
    | zero =>
      intro as_lifted scratch x2 h
      exact nomatch (show none = some _ from h)
    | succ n ih =>
      intro as_lifted scratch x2 h ls H locs hl hG
      have h : fX4_weighLiftedSets_B36 as_size as_need as_licked as_covers x1 (fX4_weighLiftedSets_L36 as_size as_need as_licked as_covers x1 n) as_lifted scratch x2 = some (as_lifted_o, scratch_o) := h
      unfold fX4_weighLiftedSets_B36 at h
      refine lv_iload_n hx hb dX4_weighLiftedSets_36 rfl (lv_at hl 2 rfl) ?_
      refine lv_iload_n hx hb dX4_weighLiftedSets_37 rfl (lv_at hl 1 rfl) ?_
      refine lv_icmp_gt (tgt := 80) hx hb dX4_weighLiftedSets_38 (by decide) (fun c38 => ?_) (fun c38 => ?_)
      · rw [if_pos c38] at h
        cases h
        exact KE _ _ _ (lv_sub hl [0] rfl) hG
      · rw [if_neg c38] at h
        refine lv_iload_n hx hb dX4_weighLiftedSets_41 rfl (lv_at hl 2 rfl) ?_
        refine lv_aload_n hx hb dX4_weighLiftedSets_42 rfl (lv_at hl 0 rfl) ?_
        refine x_get hc hG 0 rfl iX4 8 lX4_57 rfl dX4_weighLiftedSets_43 ?_
        refine x_alen hc hG 30 rfl dX4_weighLiftedSets_46 ?_
        refine lv_icmp_ge (tgt := 80) hx hb dX4_weighLiftedSets_47 (by decide) (fun c47 => ?_) (fun c47 => ?_)
        · rw [if_pos c47] at h
          cases h
          exact KE _ _ _ (lv_sub hl [0] rfl) hG
        · rw [if_neg c47] at h
          refine lv_aload_n hx hb dX4_weighLiftedSets_50 rfl (lv_at hl 0 rfl) ?_
          refine x_get hc hG 0 rfl iX4 5 lX4_38 rfl dX4_weighLiftedSets_51 ?_
          refine lv_iload_n hx hb dX4_weighLiftedSets_54 rfl (lv_at hl 2 rfl) ?_
          refine x_putN (ws' := (wX4 cI ad finding asked upper lower r_items r_sizes t_items t_sizes d_items d_sizes st_size st_need st_lifted st_licked st_morning st_tally st_kinds st_places st_lengths st_downs st_covers sl_size sl_need sl_lifted sl_licked sl_morning sl_tally sl_kinds sl_places sl_lengths sl_downs sl_covers as_size as_need x2 as_licked as_morning as_tally as_kinds as_places as_lengths as_downs as_covers text place count least inAll inSome scratch findings)) hc hG 22 rfl iX3 tyX3 tyX3_ok nmX3 7 lX4_152 rfl rfl rfl (Nat.le_of_ble_eq_true rfl) rfl dX4_weighLiftedSets_55 (fun H locs hG => ?_)
          refine lv_aload_n hx hb dX4_weighLiftedSets_58 rfl (lv_at hl 0 rfl) ?_
          refine x_get hc hG 0 rfl iX4 8 lX4_57 rfl dX4_weighLiftedSets_59 ?_
          refine lv_iload_n hx hb dX4_weighLiftedSets_62 rfl (lv_at hl 2 rfl) ?_
          refine lv_aload_n hx hb dX4_weighLiftedSets_63 rfl (lv_at hl 0 rfl) ?_
          refine x_get hc hG 0 rfl iX4 5 lX4_38 rfl dX4_weighLiftedSets_64 ?_
          obtain ⟨v67, e67, h⟩ := bd1_some h
          refine x_vi (rest := [.int x2, .ref (ad 30)]) (ws' := (wX4 cI ad finding asked upper lower r_items r_sizes t_items t_sizes d_items d_sizes st_size st_need st_lifted st_licked st_morning st_tally st_kinds st_places st_lengths st_downs st_covers sl_size sl_need sl_lifted sl_licked sl_morning sl_tally sl_kinds sl_places sl_lengths sl_downs sl_covers as_size as_need x2 as_licked as_morning as_tally as_kinds as_places as_lengths as_downs as_covers text place count least inAll inSome scratch findings)) hc hG (cc_X3_linesNow (fun k => ad (22 + k)) as_size as_need x2 as_licked as_morning as_tally as_kinds as_places as_lengths as_downs as_covers v67 e67) [22, 23, 24, 25, 26, 27] [0, 1, 2, 3, 4, 5, 6, 7, 8, 9, 10, 11, 12, 13, 14, 15, 16, 17, 18, 19, 20, 21, 28, 29, 30, 31] [0, 1, 2, 3, 4, 5, 6, 7, 8, 9, 10, 11, 12, 13, 14, 15, 16, 17, 18, 19, 20, 21, 26, 27, 28, 29, 30, 31, 22, 23, 24, 25] rfl rfl rfl 22 rfl rfl lX4_142 ⟨rfl, rfl, by decide, by decide⟩ rfl hl.1 (Nat.le_of_ble_eq_true rfl) rfl dX4_weighLiftedSets_67 (fun H locs hG => ?_)
          refine x_si0 (rest := [.int x2, .ref (ad 30)]) hc hG (cJ_bitc v67) lX4_217 ⟨rfl, rfl, by decide, by decide⟩ rfl hl.1 (Nat.le_of_ble_eq_true rfl) rfl dX4_weighLiftedSets_70 (fun H locs hG => ?_)
          obtain ⟨scratch_73, e73, h⟩ := bd1_some h
          refine x_ast (ws' := (wX4 cI ad finding asked upper lower r_items r_sizes t_items t_sizes d_items d_sizes st_size st_need st_lifted st_licked st_morning st_tally st_kinds st_places st_lengths st_downs st_covers sl_size sl_need sl_lifted sl_licked sl_morning sl_tally sl_kinds sl_places sl_lengths sl_downs sl_covers as_size as_need x2 as_licked as_morning as_tally as_kinds as_places as_lengths as_downs as_covers text place count least inAll inSome scratch_73 findings)) hc hG 30 rfl e73 rfl dX4_weighLiftedSets_73 (fun H locs hG => ?_)
          refine lv_iinc (v := (x2 + 1)) (lv' := [(2, .int (x2 + 1)), (0, .ref (ad 0)), (1, .int x1)]) hx hb dX4_weighLiftedSets_74 hl (k := 2) rfl rfl (by decide) rfl (fun ls hl => ?_)
          refine lv_goto (tgt := 36) hx hb dX4_weighLiftedSets_77 (by decide) ?_
          exact ih _ _ _ h _ _ _ (lv_sub hl [1, 2, 0] rfl) hG
  unfold fX4_weighLiftedSets at h
  refine lv_aload_n hx hb dX4_weighLiftedSets_0 rfl (lv_at hl 0 rfl) ?_
  refine x_get hc hG 0 rfl iX4 5 lX4_38 rfl dX4_weighLiftedSets_1 ?_
  refine lv_aload_n hx hb dX4_weighLiftedSets_4 rfl (lv_at hl 0 rfl) ?_
  refine x_get hc hG 0 rfl iX4 4 lX4_35 rfl dX4_weighLiftedSets_5 ?_
  obtain ⟨as_size_8, as_need_8, as_lifted_8, as_licked_8, as_morning_8, as_tally_8, as_kinds_8, as_places_8, as_lengths_8, as_downs_8, as_covers_8, e8, h⟩ := bd11_some h
  refine x_vv (rest := []) (ws' := (wX4 cI ad finding asked upper lower r_items r_sizes t_items t_sizes d_items d_sizes st_size st_need st_lifted st_licked st_morning st_tally st_kinds st_places st_lengths st_downs st_covers sl_size sl_need sl_lifted sl_licked sl_morning sl_tally sl_kinds sl_places sl_lengths sl_downs sl_covers as_size_8 as_need_8 as_lifted_8 as_licked_8 as_morning_8 as_tally_8 as_kinds_8 as_places_8 as_lengths_8 as_downs_8 as_covers_8 text place count least inAll inSome scratch findings)) hc hG (cc_X3_take (fun k => match k with | 0 => ad 22 | 1 => ad 23 | 2 => ad 24 | 3 => ad 25 | 4 => ad 26 | 5 => ad 27 | 6 => ad 16 | 7 => ad 17 | 8 => ad 18 | 9 => ad 19 | 10 => ad 20 | _ => ad 21) as_size as_need as_lifted as_licked as_morning as_tally as_kinds as_places as_lengths as_downs as_covers sl_size sl_need sl_lifted sl_licked sl_morning sl_tally sl_kinds sl_places sl_lengths sl_downs sl_covers as_size_8 as_need_8 as_lifted_8 as_licked_8 as_morning_8 as_tally_8 as_kinds_8 as_places_8 as_lengths_8 as_downs_8 as_covers_8 e8) [22, 23, 24, 25, 26, 27, 16, 17, 18, 19, 20, 21] [0, 1, 2, 3, 4, 5, 6, 7, 8, 9, 10, 11, 12, 13, 14, 15, 28, 29, 30, 31] [0, 1, 2, 3, 4, 5, 6, 7, 8, 9, 10, 11, 12, 13, 14, 15, 26, 27, 28, 29, 30, 31, 20, 21, 22, 23, 24, 25, 16, 17, 18, 19] rfl rfl rfl 22 rfl rfl lX4_114 ⟨rfl, rfl, by decide, by decide⟩ rfl hl.1 (Nat.le_of_ble_eq_true rfl) rfl dX4_weighLiftedSets_8 (fun H locs hG => ?_)
  refine lv_aload_n hx hb dX4_weighLiftedSets_11 rfl (lv_at hl 0 rfl) ?_
  refine x_get hc hG 0 rfl iX4 5 lX4_38 rfl dX4_weighLiftedSets_12 ?_
  refine lv_iconst (v := 0) hx hb dX4_weighLiftedSets_15 (by decide) ?_
  refine x_putN (ws' := (wX4 cI ad finding asked upper lower r_items r_sizes t_items t_sizes d_items d_sizes st_size st_need st_lifted st_licked st_morning st_tally st_kinds st_places st_lengths st_downs st_covers sl_size sl_need sl_lifted sl_licked sl_morning sl_tally sl_kinds sl_places sl_lengths sl_downs sl_covers as_size_8 as_need_8 0 as_licked_8 as_morning_8 as_tally_8 as_kinds_8 as_places_8 as_lengths_8 as_downs_8 as_covers_8 text place count least inAll inSome scratch findings)) hc hG 22 rfl iX3 tyX3 tyX3_ok nmX3 7 lX4_152 rfl rfl rfl (Nat.le_of_ble_eq_true rfl) rfl dX4_weighLiftedSets_16 (fun H locs hG => ?_)
  refine lv_aload_n hx hb dX4_weighLiftedSets_19 rfl (lv_at hl 0 rfl) ?_
  refine x_get hc hG 0 rfl iX4 5 lX4_38 rfl dX4_weighLiftedSets_20 ?_
  obtain ⟨as_morning_23, as_tally_23, as_places_23, as_downs_23, as_covers_23, e23, h⟩ := bd5_some h
  refine x_vv (rest := []) (ws' := (wX4 cI ad finding asked upper lower r_items r_sizes t_items t_sizes d_items d_sizes st_size st_need st_lifted st_licked st_morning st_tally st_kinds st_places st_lengths st_downs st_covers sl_size sl_need sl_lifted sl_licked sl_morning sl_tally sl_kinds sl_places sl_lengths sl_downs sl_covers as_size_8 as_need_8 0 as_licked_8 as_morning_23 as_tally_23 as_kinds_8 as_places_23 as_lengths_8 as_downs_23 as_covers_23 text place count least inAll inSome scratch findings)) hc hG (cc_X3_fall (fun k => ad (22 + k)) as_size_8 as_need_8 0 as_licked_8 as_morning_8 as_tally_8 as_kinds_8 as_places_8 as_lengths_8 as_downs_8 as_covers_8 as_morning_23 as_tally_23 as_places_23 as_downs_23 as_covers_23 e23) [22, 23, 24, 25, 26, 27] [0, 1, 2, 3, 4, 5, 6, 7, 8, 9, 10, 11, 12, 13, 14, 15, 16, 17, 18, 19, 20, 21, 28, 29, 30, 31] [0, 1, 2, 3, 4, 5, 6, 7, 8, 9, 10, 11, 12, 13, 14, 15, 16, 17, 18, 19, 20, 21, 26, 27, 28, 29, 30, 31, 22, 23, 24, 25] rfl rfl rfl 22 rfl rfl lX4_193 ⟨rfl, rfl, by decide, by decide⟩ rfl hl.1 (Nat.le_of_ble_eq_true rfl) rfl dX4_weighLiftedSets_23 (fun H locs hG => ?_)
  refine lv_aload_n hx hb dX4_weighLiftedSets_26 rfl (lv_at hl 0 rfl) ?_
  refine x_get hc hG 0 rfl iX4 5 lX4_38 rfl dX4_weighLiftedSets_27 ?_
  obtain ⟨v30, e30, h⟩ := bd1_some h
  refine x_vi (rest := []) (ws' := (wX4 cI ad finding asked upper lower r_items r_sizes t_items t_sizes d_items d_sizes st_size st_need st_lifted st_licked st_morning st_tally st_kinds st_places st_lengths st_downs st_covers sl_size sl_need sl_lifted sl_licked sl_morning sl_tally sl_kinds sl_places sl_lengths sl_downs sl_covers as_size_8 as_need_8 0 as_licked_8 as_morning_23 as_tally_23 as_kinds_8 as_places_23 as_lengths_8 as_downs_23 as_covers_23 text place count least inAll inSome scratch findings)) hc hG (cc_X3_allPeels (fun k => ad (22 + k)) as_size_8 as_need_8 0 as_licked_8 as_morning_23 as_tally_23 as_kinds_8 as_places_23 as_lengths_8 as_downs_23 as_covers_23 v30 e30) [22, 23, 24, 25, 26, 27] [0, 1, 2, 3, 4, 5, 6, 7, 8, 9, 10, 11, 12, 13, 14, 15, 16, 17, 18, 19, 20, 21, 28, 29, 30, 31] [0, 1, 2, 3, 4, 5, 6, 7, 8, 9, 10, 11, 12, 13, 14, 15, 16, 17, 18, 19, 20, 21, 26, 27, 28, 29, 30, 31, 22, 23, 24, 25] rfl rfl rfl 22 rfl rfl lX4_256 ⟨rfl, rfl, by decide, by decide⟩ rfl hl.1 (Nat.le_of_ble_eq_true rfl) rfl dX4_weighLiftedSets_30 (fun H locs hG => ?_)
  refine lv_istore_n (lv' := [(1, .int v30), (0, .ref (ad 0))]) hx hb dX4_weighLiftedSets_33 rfl hl (by decide) rfl (fun ls hl => ?_)
  refine lv_iconst (v := 0) hx hb dX4_weighLiftedSets_34 (by decide) ?_
  refine lv_istore_n (lv' := [(2, .int 0), (1, .int v30), (0, .ref (ad 0))]) hx hb dX4_weighLiftedSets_35 rfl hl (by decide) rfl (fun ls hl => ?_)
  obtain ⟨as_lifted_L36, scratch_L36, e36, h⟩ := bd2_some h
  refine hL_36 _ _ _ _ _ _ _ _ _ _ _ _ _ (fun ls H locs hl hG => ?_) _ _ _ _ e36 _ _ _ (lv_sub hl [2, 1, 0] rfl) hG
  cases h
  exact hret _ _ _ _ hG dX4_weighLiftedSets_80
set_option maxRecDepth 100000 in
set_option maxHeartbeats 4000000 in
theorem cc_X4_valueOf {l : Launch} {D : va_G} {cI : ClassId} {tL : Nat} (ad : Nat → Nat) (finding : Int32) (asked : Int32) (upper : Int64) (lower : Int64) (r_items : Nat → Int32) (r_sizes : Nat → Int32) (t_items : Nat → Int32) (t_sizes : Nat → Int32) (d_items : Nat → Int32) (d_sizes : Nat → Int32) (st_size : Int32) (st_need : Int32) (st_lifted : Int32) (st_licked : Int32) (st_morning : Int32) (st_tally : Int32) (st_kinds : Nat → Int32) (st_places : Nat → Int32) (st_lengths : Nat → Int32) (st_downs : Nat → Int32) (st_covers : Nat → Int32) (sl_size : Int32) (sl_need : Int32) (sl_lifted : Int32) (sl_licked : Int32) (sl_morning : Int32) (sl_tally : Int32) (sl_kinds : Nat → Int32) (sl_places : Nat → Int32) (sl_lengths : Nat → Int32) (sl_downs : Nat → Int32) (sl_covers : Nat → Int32) (as_size : Int32) (as_need : Int32) (as_lifted : Int32) (as_licked : Int32) (as_morning : Int32) (as_tally : Int32) (as_kinds : Nat → Int32) (as_places : Nat → Int32) (as_lengths : Nat → Int32) (as_downs : Nat → Int32) (as_covers : Nat → Int32) (text : Int32) (place : Int32) (count : Int32) (least : Int32) (inAll : Int32) (inSome : Int32) (scratch : Nat → Int32) (findings : Nat → Int32) (x1 : Int32) (r' : Int32) (h : fX4_valueOf scratch x1 = some r') : Ci l D cI tL yX4_valueOf cX4_valueOf 2 .int rmX4_valueOf (wX4 cI ad finding asked upper lower r_items r_sizes t_items t_sizes d_items d_sizes st_size st_need st_lifted st_licked st_morning st_tally st_kinds st_places st_lengths st_downs st_covers sl_size sl_need sl_lifted sl_licked sl_morning sl_tally sl_kinds sl_places sl_lengths sl_downs sl_covers as_size as_need as_lifted as_licked as_morning as_tally as_kinds as_places as_lengths as_downs as_covers text place count least inAll inSome scratch findings) [.ref (ad 0), .int x1] r' (wX4 cI ad finding asked upper lower r_items r_sizes t_items t_sizes d_items d_sizes st_size st_need st_lifted st_licked st_morning st_tally st_kinds st_places st_lengths st_downs st_covers sl_size sl_need sl_lifted sl_licked sl_morning sl_tally sl_kinds sl_places sl_lengths sl_downs sl_covers as_size as_need as_lifted as_licked as_morning as_tally as_kinds as_places as_lengths as_downs as_covers text place count least inAll inSome scratch findings) := by
  refine Ci_of (own := RX4) (by decide) (Nat.le_of_ble_eq_true rfl) rfl ?_
  intro p e s m below meth c Q A AV hc hret ls hl hG
  obtain ⟨hx, hb, hml, hown, hts, hK, hA, hz⟩ := id hc
  have hl : lv_has ls 2 [(0, .ref (ad 0)), (1, .int x1)] := hl
  unfold fX4_valueOf at h
  refine lv_iload_n hx hb dX4_valueOf_0 rfl (lv_at hl 1 rfl) ?_
  refine lv_aload_n hx hb dX4_valueOf_1 rfl (lv_at hl 0 rfl) ?_
  refine x_get hc hG 0 rfl iX4 8 lX4_57 rfl dX4_valueOf_2 ?_
  refine x_alen hc hG 30 rfl dX4_valueOf_5 ?_
  obtain ⟨v6, e6, h⟩ := bd1_some h
  refine x_si0 (rest := []) hc hG (cc_X4_isIn x1 (Int32.ofNat 96) v6 e6) lX4_124 ⟨rfl, rfl, by decide, by decide⟩ rfl hl.1 (Nat.le_of_ble_eq_true rfl) rfl dX4_valueOf_6 (fun H locs hG => ?_)
  refine lv_if_eq (tgt := 21) hx hb dX4_valueOf_9 (by decide) (fun c9 => ?_) (fun c9 => ?_)
  · rw [if_pos c9] at h
    refine lv_iconst (v := 0) hx hb dX4_valueOf_21 (by decide) ?_
    cases h
    exact hret _ _ _ _ hG dX4_valueOf_22 rfl
  · rw [if_neg c9] at h
    refine lv_aload_n hx hb dX4_valueOf_12 rfl (lv_at hl 0 rfl) ?_
    refine x_get hc hG 0 rfl iX4 8 lX4_57 rfl dX4_valueOf_13 ?_
    refine lv_iload_n hx hb dX4_valueOf_16 rfl (lv_at hl 1 rfl) ?_
    obtain ⟨v17, e17, h⟩ := bd1_some h
    refine x_ald hc hG 30 rfl e17 dX4_valueOf_17 ?_
    refine lv_goto (tgt := 22) hx hb dX4_valueOf_18 (by decide) ?_
    cases h
    exact hret _ _ _ _ hG dX4_valueOf_22 rfl
set_option maxRecDepth 100000 in
set_option maxHeartbeats 4000000 in
theorem cc_X4_donChooses {l : Launch} {D : va_G} {cI : ClassId} {tL : Nat} (ad : Nat → Nat) (finding : Int32) (asked : Int32) (upper : Int64) (lower : Int64) (r_items : Nat → Int32) (r_sizes : Nat → Int32) (t_items : Nat → Int32) (t_sizes : Nat → Int32) (d_items : Nat → Int32) (d_sizes : Nat → Int32) (st_size : Int32) (st_need : Int32) (st_lifted : Int32) (st_licked : Int32) (st_morning : Int32) (st_tally : Int32) (st_kinds : Nat → Int32) (st_places : Nat → Int32) (st_lengths : Nat → Int32) (st_downs : Nat → Int32) (st_covers : Nat → Int32) (sl_size : Int32) (sl_need : Int32) (sl_lifted : Int32) (sl_licked : Int32) (sl_morning : Int32) (sl_tally : Int32) (sl_kinds : Nat → Int32) (sl_places : Nat → Int32) (sl_lengths : Nat → Int32) (sl_downs : Nat → Int32) (sl_covers : Nat → Int32) (as_size : Int32) (as_need : Int32) (as_lifted : Int32) (as_licked : Int32) (as_morning : Int32) (as_tally : Int32) (as_kinds : Nat → Int32) (as_places : Nat → Int32) (as_lengths : Nat → Int32) (as_downs : Nat → Int32) (as_covers : Nat → Int32) (text : Int32) (place : Int32) (count : Int32) (least : Int32) (inAll : Int32) (inSome : Int32) (scratch : Nat → Int32) (findings : Nat → Int32) (scratch' : Nat → Int32) (h : fX4_donChooses sl_size scratch = some scratch') : Cv l D cI tL yX4_donChooses cX4_donChooses 3 rmX4_donChooses (wX4 cI ad finding asked upper lower r_items r_sizes t_items t_sizes d_items d_sizes st_size st_need st_lifted st_licked st_morning st_tally st_kinds st_places st_lengths st_downs st_covers sl_size sl_need sl_lifted sl_licked sl_morning sl_tally sl_kinds sl_places sl_lengths sl_downs sl_covers as_size as_need as_lifted as_licked as_morning as_tally as_kinds as_places as_lengths as_downs as_covers text place count least inAll inSome scratch findings) [.ref (ad 0)] (wX4 cI ad finding asked upper lower r_items r_sizes t_items t_sizes d_items d_sizes st_size st_need st_lifted st_licked st_morning st_tally st_kinds st_places st_lengths st_downs st_covers sl_size sl_need sl_lifted sl_licked sl_morning sl_tally sl_kinds sl_places sl_lengths sl_downs sl_covers as_size as_need as_lifted as_licked as_morning as_tally as_kinds as_places as_lengths as_downs as_covers text place count least inAll inSome scratch' findings) := by
  refine Cv_of (own := RX4) (by decide) (Nat.le_of_ble_eq_true rfl) rfl ?_
  intro p e s m below meth c Q A AV hc hret ls hl hG
  obtain ⟨hx, hb, hml, hown, hts, hK, hA, hz⟩ := id hc
  have hl : lv_has ls 3 [(0, .ref (ad 0))] := hl
  have hL_24 : ∀ (x1 : Int32) (scratch_o : Nat → Int32), (∀ (ls : Array Slot) (H : Heap) (locs : List Loc), lv_has ls 3 [(0, .ref (ad 0)), (1, .int x1)] → St D A s (wX4 cI ad finding asked upper lower r_items r_sizes t_items t_sizes d_items d_sizes st_size st_need st_lifted st_licked st_morning st_tally st_kinds st_places st_lengths st_downs st_covers sl_size sl_need sl_lifted sl_licked sl_morning sl_tally sl_kinds sl_places sl_lengths sl_downs sl_covers as_size as_need as_lifted as_licked as_morning as_tally as_kinds as_places as_lengths as_downs as_covers text place count least inAll inSome scratch_o findings) H locs → W p l e rmX4_donChooses s m AV below meth c H locs 0 0 Q (F0 m 67 ls [])) → ∀ (n : Nat) (scratch : Nat → Int32) (x2 : Int32), fX4_donChooses_L24 sl_size x1 n scratch x2 = some scratch_o → ∀ (ls : Array Slot) (H : Heap) (locs : List Loc), lv_has ls 3 [(0, .ref (ad 0)), (1, .int x1), (2, .int x2)] → St D A s (wX4 cI ad finding asked upper lower r_items r_sizes t_items t_sizes d_items d_sizes st_size st_need st_lifted st_licked st_morning st_tally st_kinds st_places st_lengths st_downs st_covers sl_size sl_need sl_lifted sl_licked sl_morning sl_tally sl_kinds sl_places sl_lengths sl_downs sl_covers as_size as_need as_lifted as_licked as_morning as_tally as_kinds as_places as_lengths as_downs as_covers text place count least inAll inSome scratch findings) H locs → W p l e rmX4_donChooses s m AV below meth c H locs 0 0 Q (F0 m 24 ls []) := by
    intro x1 scratch_o KE n
    induction n with
    | zero =>
      intro scratch x2 h
      exact nomatch (show none = some _ from h)
    | succ n ih =>
      intro scratch x2 h ls H locs hl hG
      have h : fX4_donChooses_B24 sl_size x1 (fX4_donChooses_L24 sl_size x1 n) scratch x2 = some scratch_o := h
      unfold fX4_donChooses_B24 at h
      refine lv_iload_n hx hb dX4_donChooses_24 rfl (lv_at hl 2 rfl) ?_
      refine lv_aload_n hx hb dX4_donChooses_25 rfl (lv_at hl 0 rfl) ?_
      refine x_get hc hG 0 rfl iX4 4 lX4_35 rfl dX4_donChooses_26 ?_
      refine x_getN hc hG 16 rfl iX3 5 lX4_118 rfl dX4_donChooses_29 ?_
      refine lv_icmp_ge (tgt := 67) hx hb dX4_donChooses_32 (by decide) (fun c32 => ?_) (fun c32 => ?_)
      · rw [if_pos c32] at h
        cases h
        exact KE _ _ _ (lv_sub hl [0, 1] rfl) hG
      · rw [if_neg c32] at h
        refine lv_aload_n hx hb dX4_donChooses_35 rfl (lv_at hl 0 rfl) ?_
        refine x_get hc hG 0 rfl iX4 8 lX4_57 rfl dX4_donChooses_36 ?_
        refine lv_iload_n hx hb dX4_donChooses_39 rfl (lv_at hl 1 rfl) ?_
        refine lv_aload_n hx hb dX4_donChooses_40 rfl (lv_at hl 0 rfl) ?_
        refine x_get hc hG 0 rfl iX4 8 lX4_57 rfl dX4_donChooses_41 ?_
        refine lv_iload_n hx hb dX4_donChooses_44 rfl (lv_at hl 1 rfl) ?_
        obtain ⟨v45, e45, h⟩ := bd1_some h
        refine x_ald hc hG 30 rfl e45 dX4_donChooses_45 ?_
        refine lv_aload_n hx hb dX4_donChooses_46 rfl (lv_at hl 0 rfl) ?_
        refine lv_iload_n hx hb dX4_donChooses_47 rfl (lv_at hl 1 rfl) ?_
        refine lv_iconst (v := 1) hx hb dX4_donChooses_48 (by decide) ?_
        refine lv_iload_n hx hb dX4_donChooses_49 rfl (lv_at hl 2 rfl) ?_
        refine lv_ishl hx hb dX4_donChooses_50 ?_
        refine lv_iconst (v := (-1)) hx hb dX4_donChooses_51 (by decide) ?_
        refine lv_ixor hx hb dX4_donChooses_52 ?_
        refine lv_iand hx hb dX4_donChooses_53 ?_
        obtain ⟨v54, e54, h⟩ := bd1_some h
        refine x_vi (rest := [.int v45, .int x1, .ref (ad 30)]) (ws' := (wX4 cI ad finding asked upper lower r_items r_sizes t_items t_sizes d_items d_sizes st_size st_need st_lifted st_licked st_morning st_tally st_kinds st_places st_lengths st_downs st_covers sl_size sl_need sl_lifted sl_licked sl_morning sl_tally sl_kinds sl_places sl_lengths sl_downs sl_covers as_size as_need as_lifted as_licked as_morning as_tally as_kinds as_places as_lengths as_downs as_covers text place count least inAll inSome scratch findings)) hc hG (cc_X4_valueOf ad finding asked upper lower r_items r_sizes t_items t_sizes d_items d_sizes st_size st_need st_lifted st_licked st_morning st_tally st_kinds st_places st_lengths st_downs st_covers sl_size sl_need sl_lifted sl_licked sl_morning sl_tally sl_kinds sl_places sl_lengths sl_downs sl_covers as_size as_need as_lifted as_licked as_morning as_tally as_kinds as_places as_lengths as_downs as_covers text place count least inAll inSome scratch findings (x1 &&& (((1 : Int32) <<< (x2 &&& 31)) ^^^ (-1))) v54 e54) [0, 1, 2, 3, 4, 5, 6, 7, 8, 9, 10, 11, 12, 13, 14, 15, 16, 17, 18, 19, 20, 21, 22, 23, 24, 25, 26, 27, 28, 29, 30, 31] [] [0, 1, 2, 3, 4, 5, 6, 7, 8, 9, 10, 11, 12, 13, 14, 15, 16, 17, 18, 19, 20, 21, 22, 23, 24, 25, 26, 27, 28, 29, 30, 31] rfl rfl rfl 0 rfl rfl lX4_268 ⟨rfl, rfl, by decide, by decide⟩ rfl hl.1 (Nat.le_of_ble_eq_true rfl) rfl dX4_donChooses_54 (fun H locs hG => ?_)
        refine x_max (rest := [.int x1, .ref (ad 30)]) hc lX4_345 hl.1 ⟨by decide, Nat.le_of_ble_eq_true rfl⟩ dX4_donChooses_57 ?_
        obtain ⟨scratch_60, e60, h⟩ := bd1_some h
        refine x_ast (ws' := (wX4 cI ad finding asked upper lower r_items r_sizes t_items t_sizes d_items d_sizes st_size st_need st_lifted st_licked st_morning st_tally st_kinds st_places st_lengths st_downs st_covers sl_size sl_need sl_lifted sl_licked sl_morning sl_tally sl_kinds sl_places sl_lengths sl_downs sl_covers as_size as_need as_lifted as_licked as_morning as_tally as_kinds as_places as_lengths as_downs as_covers text place count least inAll inSome scratch_60 findings)) hc hG 30 rfl e60 rfl dX4_donChooses_60 (fun H locs hG => ?_)
        refine lv_iinc (v := (x2 + 1)) (lv' := [(2, .int (x2 + 1)), (0, .ref (ad 0)), (1, .int x1)]) hx hb dX4_donChooses_61 hl (k := 2) rfl rfl (by decide) rfl (fun ls hl => ?_)
        refine lv_goto (tgt := 24) hx hb dX4_donChooses_64 (by decide) ?_
        exact ih _ _ h _ _ _ (lv_sub hl [1, 2, 0] rfl) hG
  have hL_18 : ∀  (scratch_o : Nat → Int32), (∀ (ls : Array Slot) (H : Heap) (locs : List Loc), lv_has ls 3 [(0, .ref (ad 0))] → St D A s (wX4 cI ad finding asked upper lower r_items r_sizes t_items t_sizes d_items d_sizes st_size st_need st_lifted st_licked st_morning st_tally st_kinds st_places st_lengths st_downs st_covers sl_size sl_need sl_lifted sl_licked sl_morning sl_tally sl_kinds sl_places sl_lengths sl_downs sl_covers as_size as_need as_lifted as_licked as_morning as_tally as_kinds as_places as_lengths as_downs as_covers text place count least inAll inSome scratch_o findings) H locs → W p l e rmX4_donChooses s m AV below meth c H locs 0 0 Q (F0 m 73 ls [])) → ∀ (n : Nat) (scratch : Nat → Int32) (x1 : Int32), fX4_donChooses_L18 sl_size n scratch x1 = some scratch_o → ∀ (ls : Array Slot) (H : Heap) (locs : List Loc), lv_has ls 3 [(0, .ref (ad 0)), (1, .int x1)] → St D A s (wX4 cI ad finding asked upper lower r_items r_sizes t_items t_sizes d_items d_sizes st_size st_need st_lifted st_licked st_morning st_tally st_kinds st_places st_lengths st_downs st_covers sl_size sl_need sl_lifted sl_licked sl_morning sl_tally sl_kinds sl_places sl_lengths sl_downs sl_covers as_size as_need as_lifted as_licked as_morning as_tally as_kinds as_places as_lengths as_downs as_covers text place count least inAll inSome scratch findings) H locs → W p l e rmX4_donChooses s m AV below meth c H locs 0 0 Q (F0 m 18 ls []) := by
    intro scratch_o KE n
    induction n with
    | zero =>
      intro scratch x1 h
      exact nomatch (show none = some _ from h)
    | succ n ih =>
      intro scratch x1 h ls H locs hl hG
      have h : fX4_donChooses_B18 sl_size (fX4_donChooses_L18 sl_size n) scratch x1 = some scratch_o := h
      unfold fX4_donChooses_B18 at h
      refine lv_iload_n hx hb dX4_donChooses_18 rfl (lv_at hl 1 rfl) ?_
      refine lv_if_lt (tgt := 73) hx hb dX4_donChooses_19 (by decide) (fun c19 => ?_) (fun c19 => ?_)
      · rw [if_pos c19] at h
        cases h
        exact KE _ _ _ (lv_sub hl [0] rfl) hG
      · rw [if_neg c19] at h
        refine lv_iconst (v := 0) hx hb dX4_donChooses_22 (by decide) ?_
        refine lv_istore_n (lv' := [(2, .int 0), (0, .ref (ad 0)), (1, .int x1)]) hx hb dX4_donChooses_23 rfl hl (by decide) rfl (fun ls hl => ?_)
        obtain ⟨scratch_L24, e24, h⟩ := bd1_some h
        refine hL_24 _ _ (fun ls H locs hl hG => ?_) _ _ _ e24 _ _ _ (lv_sub hl [1, 2, 0] rfl) hG
        refine lv_iinc (v := (x1 + (-1))) (lv' := [(1, .int (x1 + (-1))), (0, .ref (ad 0))]) hx hb dX4_donChooses_67 hl (k := 1) rfl rfl (by decide) rfl (fun ls hl => ?_)
        refine lv_goto (tgt := 18) hx hb dX4_donChooses_70 (by decide) ?_
        exact ih _ _ h _ _ _ (lv_sub hl [1, 0] rfl) hG
  unfold fX4_donChooses at h
  refine lv_aload_n hx hb dX4_donChooses_0 rfl (lv_at hl 0 rfl) ?_
  refine x_get hc hG 0 rfl iX4 4 lX4_35 rfl dX4_donChooses_1 ?_
  obtain ⟨v4, e4, h⟩ := bd1_some h
  refine x_vi (rest := []) (ws' := (wX4 cI ad finding asked upper lower r_items r_sizes t_items t_sizes d_items d_sizes st_size st_need st_lifted st_licked st_morning st_tally st_kinds st_places st_lengths st_downs st_covers sl_size sl_need sl_lifted sl_licked sl_morning sl_tally sl_kinds sl_places sl_lengths sl_downs sl_covers as_size as_need as_lifted as_licked as_morning as_tally as_kinds as_places as_lengths as_downs as_covers text place count least inAll inSome scratch findings)) hc hG (cc_X3_allPeels (fun k => ad (16 + k)) sl_size sl_need sl_lifted sl_licked sl_morning sl_tally sl_kinds sl_places sl_lengths sl_downs sl_covers v4 e4) [16, 17, 18, 19, 20, 21] [0, 1, 2, 3, 4, 5, 6, 7, 8, 9, 10, 11, 12, 13, 14, 15, 22, 23, 24, 25, 26, 27, 28, 29, 30, 31] [0, 1, 2, 3, 4, 5, 6, 7, 8, 9, 10, 11, 12, 13, 14, 15, 26, 27, 28, 29, 30, 31, 16, 17, 18, 19, 20, 21, 22, 23, 24, 25] rfl rfl rfl 16 rfl rfl lX4_256 ⟨rfl, rfl, by decide, by decide⟩ rfl hl.1 (Nat.le_of_ble_eq_true rfl) rfl dX4_donChooses_4 (fun H locs hG => ?_)
  refine lv_aload_n hx hb dX4_donChooses_7 rfl (lv_at hl 0 rfl) ?_
  refine x_get hc hG 0 rfl iX4 8 lX4_57 rfl dX4_donChooses_8 ?_
  refine x_alen hc hG 30 rfl dX4_donChooses_11 ?_
  refine lv_iconst (v := 1) hx hb dX4_donChooses_12 (by decide) ?_
  refine lv_isub hx hb dX4_donChooses_13 ?_
  refine x_min (rest := []) hc lX4_350 hl.1 ⟨by decide, Nat.le_of_ble_eq_true rfl⟩ dX4_donChooses_14 ?_
  refine lv_istore_n (lv' := [(1, .int (jmin v4 ((Int32.ofNat 96) - 1))), (0, .ref (ad 0))]) hx hb dX4_donChooses_17 rfl hl (by decide) rfl (fun ls hl => ?_)
  obtain ⟨scratch_L18, e18, h⟩ := bd1_some h
  refine hL_18 _ (fun ls H locs hl hG => ?_) _ _ _ e18 _ _ _ (lv_sub hl [1, 0] rfl) hG
  cases h
  exact hret _ _ _ _ hG dX4_donChooses_73
set_option maxRecDepth 100000 in
set_option maxHeartbeats 4000000 in
theorem cc_X4_bedmakerChooses {l : Launch} {D : va_G} {cI : ClassId} {tL : Nat} (ad : Nat → Nat) (finding : Int32) (asked : Int32) (upper : Int64) (lower : Int64) (r_items : Nat → Int32) (r_sizes : Nat → Int32) (t_items : Nat → Int32) (t_sizes : Nat → Int32) (d_items : Nat → Int32) (d_sizes : Nat → Int32) (st_size : Int32) (st_need : Int32) (st_lifted : Int32) (st_licked : Int32) (st_morning : Int32) (st_tally : Int32) (st_kinds : Nat → Int32) (st_places : Nat → Int32) (st_lengths : Nat → Int32) (st_downs : Nat → Int32) (st_covers : Nat → Int32) (sl_size : Int32) (sl_need : Int32) (sl_lifted : Int32) (sl_licked : Int32) (sl_morning : Int32) (sl_tally : Int32) (sl_kinds : Nat → Int32) (sl_places : Nat → Int32) (sl_lengths : Nat → Int32) (sl_downs : Nat → Int32) (sl_covers : Nat → Int32) (as_size : Int32) (as_need : Int32) (as_lifted : Int32) (as_licked : Int32) (as_morning : Int32) (as_tally : Int32) (as_kinds : Nat → Int32) (as_places : Nat → Int32) (as_lengths : Nat → Int32) (as_downs : Nat → Int32) (as_covers : Nat → Int32) (text : Int32) (place : Int32) (count : Int32) (least : Int32) (inAll : Int32) (inSome : Int32) (scratch : Nat → Int32) (findings : Nat → Int32) (scratch' : Nat → Int32) (h : fX4_bedmakerChooses sl_size scratch = some scratch') : Cv l D cI tL yX4_bedmakerChooses cX4_bedmakerChooses 4 rmX4_bedmakerChooses (wX4 cI ad finding asked upper lower r_items r_sizes t_items t_sizes d_items d_sizes st_size st_need st_lifted st_licked st_morning st_tally st_kinds st_places st_lengths st_downs st_covers sl_size sl_need sl_lifted sl_licked sl_morning sl_tally sl_kinds sl_places sl_lengths sl_downs sl_covers as_size as_need as_lifted as_licked as_morning as_tally as_kinds as_places as_lengths as_downs as_covers text place count least inAll inSome scratch findings) [.ref (ad 0)] (wX4 cI ad finding asked upper lower r_items r_sizes t_items t_sizes d_items d_sizes st_size st_need st_lifted st_licked st_morning st_tally st_kinds st_places st_lengths st_downs st_covers sl_size sl_need sl_lifted sl_licked sl_morning sl_tally sl_kinds sl_places sl_lengths sl_downs sl_covers as_size as_need as_lifted as_licked as_morning as_tally as_kinds as_places as_lengths as_downs as_covers text place count least inAll inSome scratch' findings) := by
  refine Cv_of (own := RX4) (by decide) (Nat.le_of_ble_eq_true rfl) rfl ?_
  intro p e s m below meth c Q A AV hc hret ls hl hG
  obtain ⟨hx, hb, hml, hown, hts, hK, hA, hz⟩ := id hc
  have hl : lv_has ls 4 [(0, .ref (ad 0))] := hl
  have hL_26 : ∀ (x2 : Int32) (x1 : Int32) (scratch_o : Nat → Int32), (∀ (ls : Array Slot) (H : Heap) (locs : List Loc), lv_has ls 4 [(0, .ref (ad 0)), (1, .int x1), (2, .int x2)] → St D A s (wX4 cI ad finding asked upper lower r_items r_sizes t_items t_sizes d_items d_sizes st_size st_need st_lifted st_licked st_morning st_tally st_kinds st_places st_lengths st_downs st_covers sl_size sl_need sl_lifted sl_licked sl_morning sl_tally sl_kinds sl_places sl_lengths sl_downs sl_covers as_size as_need as_lifted as_licked as_morning as_tally as_kinds as_places as_lengths as_downs as_covers text place count least inAll inSome scratch_o findings) H locs → W p l e rmX4_bedmakerChooses s m AV below meth c H locs 0 0 Q (F0 m 67 ls [])) → ∀ (n : Nat) (scratch : Nat → Int32) (x3 : Int32), fX4_bedmakerChooses_L26 sl_size x2 n scratch x3 = some scratch_o → ∀ (ls : Array Slot) (H : Heap) (locs : List Loc), lv_has ls 4 [(0, .ref (ad 0)), (1, .int x1), (2, .int x2), (3, .int x3)] → St D A s (wX4 cI ad finding asked upper lower r_items r_sizes t_items t_sizes d_items d_sizes st_size st_need st_lifted st_licked st_morning st_tally st_kinds st_places st_lengths st_downs st_covers sl_size sl_need sl_lifted sl_licked sl_morning sl_tally sl_kinds sl_places sl_lengths sl_downs sl_covers as_size as_need as_lifted as_licked as_morning as_tally as_kinds as_places as_lengths as_downs as_covers text place count least inAll inSome scratch findings) H locs → W p l e rmX4_bedmakerChooses s m AV below meth c H locs 0 0 Q (F0 m 26 ls []) := by
    intro x2 x1 scratch_o KE n
    induction n with
    | zero =>
      intro scratch x3 h
      exact nomatch (show none = some _ from h)
    | succ n ih =>
      intro scratch x3 h ls H locs hl hG
      have h : fX4_bedmakerChooses_B26 sl_size x2 (fX4_bedmakerChooses_L26 sl_size x2 n) scratch x3 = some scratch_o := h
      unfold fX4_bedmakerChooses_B26 at h
      refine lv_iload_n hx hb dX4_bedmakerChooses_26 rfl (lv_at hl 3 rfl) ?_
      refine lv_aload_n hx hb dX4_bedmakerChooses_27 rfl (lv_at hl 0 rfl) ?_
      refine x_get hc hG 0 rfl iX4 4 lX4_35 rfl dX4_bedmakerChooses_28 ?_
      refine x_getN hc hG 16 rfl iX3 5 lX4_118 rfl dX4_bedmakerChooses_31 ?_
      refine lv_icmp_ge (tgt := 67) hx hb dX4_bedmakerChooses_34 (by decide) (fun c34 => ?_) (fun c34 => ?_)
      · rw [if_pos c34] at h
        cases h
        exact KE _ _ _ (lv_sub hl [0, 1, 2] rfl) hG
      · rw [if_neg c34] at h
        refine lv_aload_n hx hb dX4_bedmakerChooses_37 rfl (lv_at hl 0 rfl) ?_
        refine x_get hc hG 0 rfl iX4 8 lX4_57 rfl dX4_bedmakerChooses_38 ?_
        refine lv_iload_n hx hb dX4_bedmakerChooses_41 rfl (lv_at hl 2 rfl) ?_
        refine lv_aload_n hx hb dX4_bedmakerChooses_42 rfl (lv_at hl 0 rfl) ?_
        refine x_get hc hG 0 rfl iX4 8 lX4_57 rfl dX4_bedmakerChooses_43 ?_
        refine lv_iload_n hx hb dX4_bedmakerChooses_46 rfl (lv_at hl 2 rfl) ?_
        obtain ⟨v47, e47, h⟩ := bd1_some h
        refine x_ald hc hG 30 rfl e47 dX4_bedmakerChooses_47 ?_
        refine lv_aload_n hx hb dX4_bedmakerChooses_48 rfl (lv_at hl 0 rfl) ?_
        refine lv_iload_n hx hb dX4_bedmakerChooses_49 rfl (lv_at hl 2 rfl) ?_
        refine lv_iconst (v := 1) hx hb dX4_bedmakerChooses_50 (by decide) ?_
        refine lv_iload_n hx hb dX4_bedmakerChooses_51 rfl (lv_at hl 3 rfl) ?_
        refine lv_ishl hx hb dX4_bedmakerChooses_52 ?_
        refine lv_ior hx hb dX4_bedmakerChooses_53 ?_
        obtain ⟨v54, e54, h⟩ := bd1_some h
        refine x_vi (rest := [.int v47, .int x2, .ref (ad 30)]) (ws' := (wX4 cI ad finding asked upper lower r_items r_sizes t_items t_sizes d_items d_sizes st_size st_need st_lifted st_licked st_morning st_tally st_kinds st_places st_lengths st_downs st_covers sl_size sl_need sl_lifted sl_licked sl_morning sl_tally sl_kinds sl_places sl_lengths sl_downs sl_covers as_size as_need as_lifted as_licked as_morning as_tally as_kinds as_places as_lengths as_downs as_covers text place count least inAll inSome scratch findings)) hc hG (cc_X4_valueOf ad finding asked upper lower r_items r_sizes t_items t_sizes d_items d_sizes st_size st_need st_lifted st_licked st_morning st_tally st_kinds st_places st_lengths st_downs st_covers sl_size sl_need sl_lifted sl_licked sl_morning sl_tally sl_kinds sl_places sl_lengths sl_downs sl_covers as_size as_need as_lifted as_licked as_morning as_tally as_kinds as_places as_lengths as_downs as_covers text place count least inAll inSome scratch findings (x2 ||| ((1 : Int32) <<< (x3 &&& 31))) v54 e54) [0, 1, 2, 3, 4, 5, 6, 7, 8, 9, 10, 11, 12, 13, 14, 15, 16, 17, 18, 19, 20, 21, 22, 23, 24, 25, 26, 27, 28, 29, 30, 31] [] [0, 1, 2, 3, 4, 5, 6, 7, 8, 9, 10, 11, 12, 13, 14, 15, 16, 17, 18, 19, 20, 21, 22, 23, 24, 25, 26, 27, 28, 29, 30, 31] rfl rfl rfl 0 rfl rfl lX4_268 ⟨rfl, rfl, by decide, by decide⟩ rfl hl.1 (Nat.le_of_ble_eq_true rfl) rfl dX4_bedmakerChooses_54 (fun H locs hG => ?_)
        refine x_min (rest := [.int x2, .ref (ad 30)]) hc lX4_350 hl.1 ⟨by decide, Nat.le_of_ble_eq_true rfl⟩ dX4_bedmakerChooses_57 ?_
        obtain ⟨scratch_60, e60, h⟩ := bd1_some h
        refine x_ast (ws' := (wX4 cI ad finding asked upper lower r_items r_sizes t_items t_sizes d_items d_sizes st_size st_need st_lifted st_licked st_morning st_tally st_kinds st_places st_lengths st_downs st_covers sl_size sl_need sl_lifted sl_licked sl_morning sl_tally sl_kinds sl_places sl_lengths sl_downs sl_covers as_size as_need as_lifted as_licked as_morning as_tally as_kinds as_places as_lengths as_downs as_covers text place count least inAll inSome scratch_60 findings)) hc hG 30 rfl e60 rfl dX4_bedmakerChooses_60 (fun H locs hG => ?_)
        refine lv_iinc (v := (x3 + 1)) (lv' := [(3, .int (x3 + 1)), (0, .ref (ad 0)), (1, .int x1), (2, .int x2)]) hx hb dX4_bedmakerChooses_61 hl (k := 3) rfl rfl (by decide) rfl (fun ls hl => ?_)
        refine lv_goto (tgt := 26) hx hb dX4_bedmakerChooses_64 (by decide) ?_
        exact ih _ _ h _ _ _ (lv_sub hl [1, 2, 3, 0] rfl) hG
  have hL_10 : ∀ (x1 : Int32) (scratch_o : Nat → Int32), (∀ (ls : Array Slot) (H : Heap) (locs : List Loc), lv_has ls 4 [(0, .ref (ad 0))] → St D A s (wX4 cI ad finding asked upper lower r_items r_sizes t_items t_sizes d_items d_sizes st_size st_need st_lifted st_licked st_morning st_tally st_kinds st_places st_lengths st_downs st_covers sl_size sl_need sl_lifted sl_licked sl_morning sl_tally sl_kinds sl_places sl_lengths sl_downs sl_covers as_size as_need as_lifted as_licked as_morning as_tally as_kinds as_places as_lengths as_downs as_covers text place count least inAll inSome scratch_o findings) H locs → W p l e rmX4_bedmakerChooses s m AV below meth c H locs 0 0 Q (F0 m 73 ls [])) → ∀ (n : Nat) (scratch : Nat → Int32) (x2 : Int32), fX4_bedmakerChooses_L10 sl_size x1 n scratch x2 = some scratch_o → ∀ (ls : Array Slot) (H : Heap) (locs : List Loc), lv_has ls 4 [(0, .ref (ad 0)), (1, .int x1), (2, .int x2)] → St D A s (wX4 cI ad finding asked upper lower r_items r_sizes t_items t_sizes d_items d_sizes st_size st_need st_lifted st_licked st_morning st_tally st_kinds st_places st_lengths st_downs st_covers sl_size sl_need sl_lifted sl_licked sl_morning sl_tally sl_kinds sl_places sl_lengths sl_downs sl_covers as_size as_need as_lifted as_licked as_morning as_tally as_kinds as_places as_lengths as_downs as_covers text place count least inAll inSome scratch findings) H locs → W p l e rmX4_bedmakerChooses s m AV below meth c H locs 0 0 Q (F0 m 10 ls []) := by
    intro x1 scratch_o KE n
    induction n with
    | zero =>
      intro scratch x2 h
      exact nomatch (show none = some _ from h)
    | succ n ih =>
      intro scratch x2 h ls H locs hl hG
      have h : fX4_bedmakerChooses_B10 sl_size x1 (fX4_bedmakerChooses_L10 sl_size x1 n) scratch x2 = some scratch_o := h
      unfold fX4_bedmakerChooses_B10 at h
      refine lv_iload_n hx hb dX4_bedmakerChooses_10 rfl (lv_at hl 2 rfl) ?_
      refine lv_iload_n hx hb dX4_bedmakerChooses_11 rfl (lv_at hl 1 rfl) ?_
      refine lv_icmp_gt (tgt := 73) hx hb dX4_bedmakerChooses_12 (by decide) (fun c12 => ?_) (fun c12 => ?_)
      · rw [if_pos c12] at h
        cases h
        exact KE _ _ _ (lv_sub hl [0] rfl) hG
      · rw [if_neg c12] at h
        refine lv_iload_n hx hb dX4_bedmakerChooses_15 rfl (lv_at hl 2 rfl) ?_
        refine lv_aload_n hx hb dX4_bedmakerChooses_16 rfl (lv_at hl 0 rfl) ?_
        refine x_get hc hG 0 rfl iX4 8 lX4_57 rfl dX4_bedmakerChooses_17 ?_
        refine x_alen hc hG 30 rfl dX4_bedmakerChooses_20 ?_
        refine lv_icmp_ge (tgt := 73) hx hb dX4_bedmakerChooses_21 (by decide) (fun c21 => ?_) (fun c21 => ?_)
        · rw [if_pos c21] at h
          cases h
          exact KE _ _ _ (lv_sub hl [0] rfl) hG
        · rw [if_neg c21] at h
          refine lv_iconst (v := 0) hx hb dX4_bedmakerChooses_24 (by decide) ?_
          refine lv_istore_n (lv' := [(3, .int 0), (0, .ref (ad 0)), (1, .int x1), (2, .int x2)]) hx hb dX4_bedmakerChooses_25 rfl hl (by decide) rfl (fun ls hl => ?_)
          obtain ⟨scratch_L26, e26, h⟩ := bd1_some h
          refine hL_26 _ _ _ (fun ls H locs hl hG => ?_) _ _ _ e26 _ _ _ (lv_sub hl [1, 2, 3, 0] rfl) hG
          refine lv_iinc (v := (x2 + 1)) (lv' := [(2, .int (x2 + 1)), (0, .ref (ad 0)), (1, .int x1)]) hx hb dX4_bedmakerChooses_67 hl (k := 2) rfl rfl (by decide) rfl (fun ls hl => ?_)
          refine lv_goto (tgt := 10) hx hb dX4_bedmakerChooses_70 (by decide) ?_
          exact ih _ _ h _ _ _ (lv_sub hl [1, 2, 0] rfl) hG
  unfold fX4_bedmakerChooses at h
  refine lv_aload_n hx hb dX4_bedmakerChooses_0 rfl (lv_at hl 0 rfl) ?_
  refine x_get hc hG 0 rfl iX4 4 lX4_35 rfl dX4_bedmakerChooses_1 ?_
  obtain ⟨v4, e4, h⟩ := bd1_some h
  refine x_vi (rest := []) (ws' := (wX4 cI ad finding asked upper lower r_items r_sizes t_items t_sizes d_items d_sizes st_size st_need st_lifted st_licked st_morning st_tally st_kinds st_places st_lengths st_downs st_covers sl_size sl_need sl_lifted sl_licked sl_morning sl_tally sl_kinds sl_places sl_lengths sl_downs sl_covers as_size as_need as_lifted as_licked as_morning as_tally as_kinds as_places as_lengths as_downs as_covers text place count least inAll inSome scratch findings)) hc hG (cc_X3_allPeels (fun k => ad (16 + k)) sl_size sl_need sl_lifted sl_licked sl_morning sl_tally sl_kinds sl_places sl_lengths sl_downs sl_covers v4 e4) [16, 17, 18, 19, 20, 21] [0, 1, 2, 3, 4, 5, 6, 7, 8, 9, 10, 11, 12, 13, 14, 15, 22, 23, 24, 25, 26, 27, 28, 29, 30, 31] [0, 1, 2, 3, 4, 5, 6, 7, 8, 9, 10, 11, 12, 13, 14, 15, 26, 27, 28, 29, 30, 31, 16, 17, 18, 19, 20, 21, 22, 23, 24, 25] rfl rfl rfl 16 rfl rfl lX4_256 ⟨rfl, rfl, by decide, by decide⟩ rfl hl.1 (Nat.le_of_ble_eq_true rfl) rfl dX4_bedmakerChooses_4 (fun H locs hG => ?_)
  refine lv_istore_n (lv' := [(1, .int v4), (0, .ref (ad 0))]) hx hb dX4_bedmakerChooses_7 rfl hl (by decide) rfl (fun ls hl => ?_)
  refine lv_iconst (v := 0) hx hb dX4_bedmakerChooses_8 (by decide) ?_
  refine lv_istore_n (lv' := [(2, .int 0), (1, .int v4), (0, .ref (ad 0))]) hx hb dX4_bedmakerChooses_9 rfl hl (by decide) rfl (fun ls hl => ?_)
  obtain ⟨scratch_L10, e10, h⟩ := bd1_some h
  refine hL_10 _ _ (fun ls H locs hl hG => ?_) _ _ _ e10 _ _ _ (lv_sub hl [2, 1, 0] rfl) hG
  cases h
  exact hret _ _ _ _ hG dX4_bedmakerChooses_73
set_option maxRecDepth 100000 in
set_option maxHeartbeats 4000000 in
theorem cc_X4_duel {l : Launch} {D : va_G} {cI : ClassId} {tL : Nat} (ad : Nat → Nat) (finding : Int32) (asked : Int32) (upper : Int64) (lower : Int64) (r_items : Nat → Int32) (r_sizes : Nat → Int32) (t_items : Nat → Int32) (t_sizes : Nat → Int32) (d_items : Nat → Int32) (d_sizes : Nat → Int32) (st_size : Int32) (st_need : Int32) (st_lifted : Int32) (st_licked : Int32) (st_morning : Int32) (st_tally : Int32) (st_kinds : Nat → Int32) (st_places : Nat → Int32) (st_lengths : Nat → Int32) (st_downs : Nat → Int32) (st_covers : Nat → Int32) (sl_size : Int32) (sl_need : Int32) (sl_lifted : Int32) (sl_licked : Int32) (sl_morning : Int32) (sl_tally : Int32) (sl_kinds : Nat → Int32) (sl_places : Nat → Int32) (sl_lengths : Nat → Int32) (sl_downs : Nat → Int32) (sl_covers : Nat → Int32) (as_size : Int32) (as_need : Int32) (as_lifted : Int32) (as_licked : Int32) (as_morning : Int32) (as_tally : Int32) (as_kinds : Nat → Int32) (as_places : Nat → Int32) (as_lengths : Nat → Int32) (as_downs : Nat → Int32) (as_covers : Nat → Int32) (text : Int32) (place : Int32) (count : Int32) (least : Int32) (inAll : Int32) (inSome : Int32) (scratch : Nat → Int32) (findings : Nat → Int32) (x1 : Int32) (r' : Int32) (asked' : Int32) (as_size' : Int32) (as_need' : Int32) (as_lifted' : Int32) (as_licked' : Int32) (as_morning' : Int32) (as_tally' : Int32) (as_kinds' : Nat → Int32) (as_places' : Nat → Int32) (as_lengths' : Nat → Int32) (as_downs' : Nat → Int32) (as_covers' : Nat → Int32) (scratch' : Nat → Int32) (h : fX4_duel asked sl_size sl_need sl_lifted sl_licked sl_morning sl_tally sl_kinds sl_places sl_lengths sl_downs sl_covers as_size as_need as_lifted as_licked as_morning as_tally as_kinds as_places as_lengths as_downs as_covers scratch x1 = some (r', asked', as_size', as_need', as_lifted', as_licked', as_morning', as_tally', as_kinds', as_places', as_lengths', as_downs', as_covers', scratch')) : Ci l D cI tL yX4_duel cX4_duel 3 .int rmX4_duel (wX4 cI ad finding asked upper lower r_items r_sizes t_items t_sizes d_items d_sizes st_size st_need st_lifted st_licked st_morning st_tally st_kinds st_places st_lengths st_downs st_covers sl_size sl_need sl_lifted sl_licked sl_morning sl_tally sl_kinds sl_places sl_lengths sl_downs sl_covers as_size as_need as_lifted as_licked as_morning as_tally as_kinds as_places as_lengths as_downs as_covers text place count least inAll inSome scratch findings) [.ref (ad 0), .int x1] r' (wX4 cI ad finding asked' upper lower r_items r_sizes t_items t_sizes d_items d_sizes st_size st_need st_lifted st_licked st_morning st_tally st_kinds st_places st_lengths st_downs st_covers sl_size sl_need sl_lifted sl_licked sl_morning sl_tally sl_kinds sl_places sl_lengths sl_downs sl_covers as_size' as_need' as_lifted' as_licked' as_morning' as_tally' as_kinds' as_places' as_lengths' as_downs' as_covers' text place count least inAll inSome scratch' findings) := by
  refine Ci_of (own := RX4) (by decide) (Nat.le_of_ble_eq_true rfl) rfl ?_
  intro p e s m below meth c Q A AV hc hret ls hl hG
  obtain ⟨hx, hb, hml, hown, hts, hK, hA, hz⟩ := id hc
  have hl : lv_has ls 3 [(0, .ref (ad 0)), (1, .int x1)] := hl
  have hL_30 : ∀ (x1 : Int32) (asked : Int32) (as_size : Int32) (as_need : Int32) (as_lifted : Int32) (as_licked : Int32) (as_morning : Int32) (as_tally : Int32) (as_kinds : Nat → Int32) (as_places : Nat → Int32) (as_lengths : Nat → Int32) (as_downs : Nat → Int32) (as_covers : Nat → Int32) (scratch_o : Nat → Int32), (∀ (ls : Array Slot) (H : Heap) (locs : List Loc), lv_has ls 3 [(0, .ref (ad 0))] → St D A s (wX4 cI ad finding asked upper lower r_items r_sizes t_items t_sizes d_items d_sizes st_size st_need st_lifted st_licked st_morning st_tally st_kinds st_places st_lengths st_downs st_covers sl_size sl_need sl_lifted sl_licked sl_morning sl_tally sl_kinds sl_places sl_lengths sl_downs sl_covers as_size as_need as_lifted as_licked as_morning as_tally as_kinds as_places as_lengths as_downs as_covers text place count least inAll inSome scratch_o findings) H locs → W p l e rmX4_duel s m AV below meth c H locs 0 0 Q (F0 m 54 ls [])) → ∀ (n : Nat) (scratch : Nat → Int32) (x2 : Int32), fX4_duel_L30 sl_size x1 n scratch x2 = some scratch_o → ∀ (ls : Array Slot) (H : Heap) (locs : List Loc), lv_has ls 3 [(0, .ref (ad 0)), (1, .int x1), (2, .int x2)] → St D A s (wX4 cI ad finding asked upper lower r_items r_sizes t_items t_sizes d_items d_sizes st_size st_need st_lifted st_licked st_morning st_tally st_kinds st_places st_lengths st_downs st_covers sl_size sl_need sl_lifted sl_licked sl_morning sl_tally sl_kinds sl_places sl_lengths sl_downs sl_covers as_size as_need as_lifted as_licked as_morning as_tally as_kinds as_places as_lengths as_downs as_covers text place count least inAll inSome scratch findings) H locs → W p l e rmX4_duel s m AV below meth c H locs 0 0 Q (F0 m 30 ls []) := by
    intro x1 asked as_size as_need as_lifted as_licked as_morning as_tally as_kinds as_places as_lengths as_downs as_covers scratch_o KE n
    induction n with
    | zero =>
      intro scratch x2 h
      exact nomatch (show none = some _ from h)
    | succ n ih =>
      intro scratch x2 h ls H locs hl hG
      have h : fX4_duel_B30 sl_size x1 (fX4_duel_L30 sl_size x1 n) scratch x2 = some scratch_o := h
      unfold fX4_duel_B30 at h
      refine lv_iload_n hx hb dX4_duel_30 rfl (lv_at hl 2 rfl) ?_
      refine lv_iload_n hx hb dX4_duel_31 rfl (lv_at hl 1 rfl) ?_
      refine lv_icmp_ge (tgt := 54) hx hb dX4_duel_32 (by decide) (fun c32 => ?_) (fun c32 => ?_)
      · rw [if_pos c32] at h
        cases h
        exact KE _ _ _ (lv_sub hl [0] rfl) hG
      · rw [if_neg c32] at h
        refine lv_iload_n hx hb dX4_duel_35 rfl (lv_at hl 2 rfl) ?_
        refine lv_iconst (v := 2) hx hb dX4_duel_36 (by decide) ?_
        refine lv_icmp_ge (tgt := 54) hx hb dX4_duel_37 (by decide) (fun c37 => ?_) (fun c37 => ?_)
        · rw [if_pos c37] at h
          cases h
          exact KE _ _ _ (lv_sub hl [0] rfl) hG
        · rw [if_neg c37] at h
          refine lv_aload_n hx hb dX4_duel_40 rfl (lv_at hl 0 rfl) ?_
          obtain ⟨scratch_41, e41, h⟩ := bd1_some h
          refine x_vv (rest := []) (ws' := (wX4 cI ad finding asked upper lower r_items r_sizes t_items t_sizes d_items d_sizes st_size st_need st_lifted st_licked st_morning st_tally st_kinds st_places st_lengths st_downs st_covers sl_size sl_need sl_lifted sl_licked sl_morning sl_tally sl_kinds sl_places sl_lengths sl_downs sl_covers as_size as_need as_lifted as_licked as_morning as_tally as_kinds as_places as_lengths as_downs as_covers text place count least inAll inSome scratch_41 findings)) hc hG (cc_X4_donChooses ad finding asked upper lower r_items r_sizes t_items t_sizes d_items d_sizes st_size st_need st_lifted st_licked st_morning st_tally st_kinds st_places st_lengths st_downs st_covers sl_size sl_need sl_lifted sl_licked sl_morning sl_tally sl_kinds sl_places sl_lengths sl_downs sl_covers as_size as_need as_lifted as_licked as_morning as_tally as_kinds as_places as_lengths as_downs as_covers text place count least inAll inSome scratch findings scratch_41 e41) [0, 1, 2, 3, 4, 5, 6, 7, 8, 9, 10, 11, 12, 13, 14, 15, 16, 17, 18, 19, 20, 21, 22, 23, 24, 25, 26, 27, 28, 29, 30, 31] [] [0, 1, 2, 3, 4, 5, 6, 7, 8, 9, 10, 11, 12, 13, 14, 15, 16, 17, 18, 19, 20, 21, 22, 23, 24, 25, 26, 27, 28, 29, 30, 31] rfl rfl rfl 0 rfl rfl lX4_262 ⟨rfl, rfl, by decide, by decide⟩ rfl hl.1 (Nat.le_of_ble_eq_true rfl) rfl dX4_duel_41 (fun H locs hG => ?_)
          refine lv_aload_n hx hb dX4_duel_44 rfl (lv_at hl 0 rfl) ?_
          obtain ⟨scratch_45, e45, h⟩ := bd1_some h
          refine x_vv (rest := []) (ws' := (wX4 cI ad finding asked upper lower r_items r_sizes t_items t_sizes d_items d_sizes st_size st_need st_lifted st_licked st_morning st_tally st_kinds st_places st_lengths st_downs st_covers sl_size sl_need sl_lifted sl_licked sl_morning sl_tally sl_kinds sl_places sl_lengths sl_downs sl_covers as_size as_need as_lifted as_licked as_morning as_tally as_kinds as_places as_lengths as_downs as_covers text place count least inAll inSome scratch_45 findings)) hc hG (cc_X4_bedmakerChooses ad finding asked upper lower r_items r_sizes t_items t_sizes d_items d_sizes st_size st_need st_lifted st_licked st_morning st_tally st_kinds st_places st_lengths st_downs st_covers sl_size sl_need sl_lifted sl_licked sl_morning sl_tally sl_kinds sl_places sl_lengths sl_downs sl_covers as_size as_need as_lifted as_licked as_morning as_tally as_kinds as_places as_lengths as_downs as_covers text place count least inAll inSome scratch_41 findings scratch_45 e45) [0, 1, 2, 3, 4, 5, 6, 7, 8, 9, 10, 11, 12, 13, 14, 15, 16, 17, 18, 19, 20, 21, 22, 23, 24, 25, 26, 27, 28, 29, 30, 31] [] [0, 1, 2, 3, 4, 5, 6, 7, 8, 9, 10, 11, 12, 13, 14, 15, 16, 17, 18, 19, 20, 21, 22, 23, 24, 25, 26, 27, 28, 29, 30, 31] rfl rfl rfl 0 rfl rfl lX4_265 ⟨rfl, rfl, by decide, by decide⟩ rfl hl.1 (Nat.le_of_ble_eq_true rfl) rfl dX4_duel_45 (fun H locs hG => ?_)
          refine lv_iinc (v := (x2 + 1)) (lv' := [(2, .int (x2 + 1)), (0, .ref (ad 0)), (1, .int x1)]) hx hb dX4_duel_48 hl (k := 2) rfl rfl (by decide) rfl (fun ls hl => ?_)
          refine lv_goto (tgt := 30) hx hb dX4_duel_51 (by decide) ?_
          exact ih _ _ h _ _ _ (lv_sub hl [1, 2, 0] rfl) hG
  unfold fX4_duel at h
  refine lv_iload_n hx hb dX4_duel_0 rfl (lv_at hl 1 rfl) ?_
  refine lv_if_lt (tgt := 9) hx hb dX4_duel_1 (by decide) (fun c1 => ?_) (fun c1 => ?_)
  · rw [if_pos c1] at h
    refine lv_iconst (v := (-1)) hx hb dX4_duel_9 (by decide) ?_
    cases h
    exact hret _ _ _ _ hG dX4_duel_10 rfl
  · rw [if_neg c1] at h
    refine lv_iload_n hx hb dX4_duel_4 rfl (lv_at hl 1 rfl) ?_
    refine lv_iconst (v := 2) hx hb dX4_duel_5 (by decide) ?_
    refine lv_icmp_le (tgt := 11) hx hb dX4_duel_6 (by decide) (fun c6 => ?_) (fun c6 => ?_)
    · rw [if_pos c6] at h
      refine lv_aload_n hx hb dX4_duel_11 rfl (lv_at hl 0 rfl) ?_
      refine x_get hc hG 0 rfl iX4 4 lX4_35 rfl dX4_duel_12 ?_
      refine x_getN hc hG 16 rfl iX3 5 lX4_118 rfl dX4_duel_15 ?_
      refine lv_if_ne (tgt := 24) hx hb dX4_duel_18 (by decide) (fun c18 => ?_) (fun c18 => ?_)
      · rw [if_neg c18] at h
        refine lv_aload_n hx hb dX4_duel_24 rfl (lv_at hl 0 rfl) ?_
        obtain ⟨as_size_25, as_need_25, as_lifted_25, as_licked_25, as_morning_25, as_tally_25, as_kinds_25, as_places_25, as_lengths_25, as_downs_25, as_covers_25, scratch_25, e25, h⟩ := bd12_some h
        refine x_vv (rest := []) (ws' := (wX4 cI ad finding asked upper lower r_items r_sizes t_items t_sizes d_items d_sizes st_size st_need st_lifted st_licked st_morning st_tally st_kinds st_places st_lengths st_downs st_covers sl_size sl_need sl_lifted sl_licked sl_morning sl_tally sl_kinds sl_places sl_lengths sl_downs sl_covers as_size_25 as_need_25 as_lifted_25 as_licked_25 as_morning_25 as_tally_25 as_kinds_25 as_places_25 as_lengths_25 as_downs_25 as_covers_25 text place count least inAll inSome scratch_25 findings)) hc hG (cc_X4_weighLiftedSets ad finding asked upper lower r_items r_sizes t_items t_sizes d_items d_sizes st_size st_need st_lifted st_licked st_morning st_tally st_kinds st_places st_lengths st_downs st_covers sl_size sl_need sl_lifted sl_licked sl_morning sl_tally sl_kinds sl_places sl_lengths sl_downs sl_covers as_size as_need as_lifted as_licked as_morning as_tally as_kinds as_places as_lengths as_downs as_covers text place count least inAll inSome scratch findings as_size_25 as_need_25 as_lifted_25 as_licked_25 as_morning_25 as_tally_25 as_kinds_25 as_places_25 as_lengths_25 as_downs_25 as_covers_25 scratch_25 e25) [0, 1, 2, 3, 4, 5, 6, 7, 8, 9, 10, 11, 12, 13, 14, 15, 16, 17, 18, 19, 20, 21, 22, 23, 24, 25, 26, 27, 28, 29, 30, 31] [] [0, 1, 2, 3, 4, 5, 6, 7, 8, 9, 10, 11, 12, 13, 14, 15, 16, 17, 18, 19, 20, 21, 22, 23, 24, 25, 26, 27, 28, 29, 30, 31] rfl rfl rfl 0 rfl rfl lX4_259 ⟨rfl, rfl, by decide, by decide⟩ rfl hl.1 (Nat.le_of_ble_eq_true rfl) rfl dX4_duel_25 (fun H locs hG => ?_)
        refine lv_iconst (v := 0) hx hb dX4_duel_28 (by decide) ?_
        refine lv_istore_n (lv' := [(2, .int 0), (0, .ref (ad 0)), (1, .int x1)]) hx hb dX4_duel_29 rfl hl (by decide) rfl (fun ls hl => ?_)
        obtain ⟨scratch_L30, e30, h⟩ := bd1_some h
        refine hL_30 _ _ _ _ _ _ _ _ _ _ _ _ _ _ (fun ls H locs hl hG => ?_) _ _ _ e30 _ _ _ (lv_sub hl [1, 2, 0] rfl) hG
        refine lv_aload_n hx hb dX4_duel_54 rfl (lv_at hl 0 rfl) ?_
        refine lv_aload_n hx hb dX4_duel_55 rfl (lv_at hl 0 rfl) ?_
        refine lv_aload_n hx hb dX4_duel_56 rfl (lv_at hl 0 rfl) ?_
        refine x_get hc hG 0 rfl iX4 4 lX4_35 rfl dX4_duel_57 ?_
        refine x_getN hc hG 16 rfl iX3 7 lX4_152 rfl dX4_duel_60 ?_
        obtain ⟨v63, e63, h⟩ := bd1_some h
        refine x_vi (rest := [.ref (ad 0)]) (ws' := (wX4 cI ad finding asked upper lower r_items r_sizes t_items t_sizes d_items d_sizes st_size st_need st_lifted st_licked st_morning st_tally st_kinds st_places st_lengths st_downs st_covers sl_size sl_need sl_lifted sl_licked sl_morning sl_tally sl_kinds sl_places sl_lengths sl_downs sl_covers as_size_25 as_need_25 as_lifted_25 as_licked_25 as_morning_25 as_tally_25 as_kinds_25 as_places_25 as_lengths_25 as_downs_25 as_covers_25 text place count least inAll inSome scratch_L30 findings)) hc hG (cc_X4_valueOf ad finding asked upper lower r_items r_sizes t_items t_sizes d_items d_sizes st_size st_need st_lifted st_licked st_morning st_tally st_kinds st_places st_lengths st_downs st_covers sl_size sl_need sl_lifted sl_licked sl_morning sl_tally sl_kinds sl_places sl_lengths sl_downs sl_covers as_size_25 as_need_25 as_lifted_25 as_licked_25 as_morning_25 as_tally_25 as_kinds_25 as_places_25 as_lengths_25 as_downs_25 as_covers_25 text place count least inAll inSome scratch_L30 findings sl_lifted v63 e63) [0, 1, 2, 3, 4, 5, 6, 7, 8, 9, 10, 11, 12, 13, 14, 15, 16, 17, 18, 19, 20, 21, 22, 23, 24, 25, 26, 27, 28, 29, 30, 31] [] [0, 1, 2, 3, 4, 5, 6, 7, 8, 9, 10, 11, 12, 13, 14, 15, 16, 17, 18, 19, 20, 21, 22, 23, 24, 25, 26, 27, 28, 29, 30, 31] rfl rfl rfl 0 rfl rfl lX4_268 ⟨rfl, rfl, by decide, by decide⟩ rfl hl.1 (Nat.le_of_ble_eq_true rfl) rfl dX4_duel_63 (fun H locs hG => ?_)
        obtain ⟨v66, asked_66, e66, h⟩ := bd2_some h
        refine x_vi (rest := []) (ws' := (wX4 cI ad finding asked_66 upper lower r_items r_sizes t_items t_sizes d_items d_sizes st_size st_need st_lifted st_licked st_morning st_tally st_kinds st_places st_lengths st_downs st_covers sl_size sl_need sl_lifted sl_licked sl_morning sl_tally sl_kinds sl_places sl_lengths sl_downs sl_covers as_size_25 as_need_25 as_lifted_25 as_licked_25 as_morning_25 as_tally_25 as_kinds_25 as_places_25 as_lengths_25 as_downs_25 as_covers_25 text place count least inAll inSome scratch_L30 findings)) hc hG (cc_X4_tell ad finding asked upper lower r_items r_sizes t_items t_sizes d_items d_sizes st_size st_need st_lifted st_licked st_morning st_tally st_kinds st_places st_lengths st_downs st_covers sl_size sl_need sl_lifted sl_licked sl_morning sl_tally sl_kinds sl_places sl_lengths sl_downs sl_covers as_size_25 as_need_25 as_lifted_25 as_licked_25 as_morning_25 as_tally_25 as_kinds_25 as_places_25 as_lengths_25 as_downs_25 as_covers_25 text place count least inAll inSome scratch_L30 findings v63 v66 asked_66 e66) [0, 1, 2, 3, 4, 5, 6, 7, 8, 9, 10, 11, 12, 13, 14, 15, 16, 17, 18, 19, 20, 21, 22, 23, 24, 25, 26, 27, 28, 29, 30, 31] [] [0, 1, 2, 3, 4, 5, 6, 7, 8, 9, 10, 11, 12, 13, 14, 15, 16, 17, 18, 19, 20, 21, 22, 23, 24, 25, 26, 27, 28, 29, 30, 31] rfl rfl rfl 0 rfl rfl lX4_90 ⟨rfl, rfl, by decide, by decide⟩ rfl hl.1 (Nat.le_of_ble_eq_true rfl) rfl dX4_duel_66 (fun H locs hG => ?_)
        cases h
        exact hret _ _ _ _ hG dX4_duel_69 rfl
      · rw [if_pos c18] at h
        refine lv_bipush (v := (-4)) hx hb dX4_duel_21 (by decide) ?_
        cases h
        exact hret _ _ _ _ hG dX4_duel_23 rfl
    · rw [if_neg c6] at h
      refine lv_iconst (v := (-1)) hx hb dX4_duel_9 (by decide) ?_
      cases h
      exact hret _ _ _ _ hG dX4_duel_10 rfl
set_option maxRecDepth 100000 in
set_option maxHeartbeats 4000000 in
theorem cc_X4_chanceOf {l : Launch} {D : va_G} {cI : ClassId} {tL : Nat} (ad : Nat → Nat) (finding : Int32) (asked : Int32) (upper : Int64) (lower : Int64) (r_items : Nat → Int32) (r_sizes : Nat → Int32) (t_items : Nat → Int32) (t_sizes : Nat → Int32) (d_items : Nat → Int32) (d_sizes : Nat → Int32) (st_size : Int32) (st_need : Int32) (st_lifted : Int32) (st_licked : Int32) (st_morning : Int32) (st_tally : Int32) (st_kinds : Nat → Int32) (st_places : Nat → Int32) (st_lengths : Nat → Int32) (st_downs : Nat → Int32) (st_covers : Nat → Int32) (sl_size : Int32) (sl_need : Int32) (sl_lifted : Int32) (sl_licked : Int32) (sl_morning : Int32) (sl_tally : Int32) (sl_kinds : Nat → Int32) (sl_places : Nat → Int32) (sl_lengths : Nat → Int32) (sl_downs : Nat → Int32) (sl_covers : Nat → Int32) (as_size : Int32) (as_need : Int32) (as_lifted : Int32) (as_licked : Int32) (as_morning : Int32) (as_tally : Int32) (as_kinds : Nat → Int32) (as_places : Nat → Int32) (as_lengths : Nat → Int32) (as_downs : Nat → Int32) (as_covers : Nat → Int32) (text : Int32) (place : Int32) (count : Int32) (least : Int32) (inAll : Int32) (inSome : Int32) (scratch : Nat → Int32) (findings : Nat → Int32) (x1 : Int32) (x2 : Int32) (r' : Int64) (h : fX4_chanceOf sl_size sl_lifted x1 x2 = some r') : Cl l D cI tL yX4_chanceOf cX4_chanceOf 6 rmX4_chanceOf (wX4 cI ad finding asked upper lower r_items r_sizes t_items t_sizes d_items d_sizes st_size st_need st_lifted st_licked st_morning st_tally st_kinds st_places st_lengths st_downs st_covers sl_size sl_need sl_lifted sl_licked sl_morning sl_tally sl_kinds sl_places sl_lengths sl_downs sl_covers as_size as_need as_lifted as_licked as_morning as_tally as_kinds as_places as_lengths as_downs as_covers text place count least inAll inSome scratch findings) [.ref (ad 0), .int x1, .int x2] r' (wX4 cI ad finding asked upper lower r_items r_sizes t_items t_sizes d_items d_sizes st_size st_need st_lifted st_licked st_morning st_tally st_kinds st_places st_lengths st_downs st_covers sl_size sl_need sl_lifted sl_licked sl_morning sl_tally sl_kinds sl_places sl_lengths sl_downs sl_covers as_size as_need as_lifted as_licked as_morning as_tally as_kinds as_places as_lengths as_downs as_covers text place count least inAll inSome scratch findings) := by
  refine Cl_of (own := RX4) (by decide) (Nat.le_of_ble_eq_true rfl) rfl ?_
  intro p e s m below meth c Q A AV hc hret ls hl hG
  obtain ⟨hx, hb, hml, hown, hts, hK, hA, hz⟩ := id hc
  have hl : lv_has ls 6 [(0, .ref (ad 0)), (1, .int x1), (2, .int x2)] := hl
  have hL_5 : ∀ (x1 : Int32) (x2 : Int32) (x3_o : Int64), (∀ (ls : Array Slot) (H : Heap) (locs : List Loc), lv_has ls 6 [(0, .ref (ad 0)), (3, .long x3_o)] → St D A s (wX4 cI ad finding asked upper lower r_items r_sizes t_items t_sizes d_items d_sizes st_size st_need st_lifted st_licked st_morning st_tally st_kinds st_places st_lengths st_downs st_covers sl_size sl_need sl_lifted sl_licked sl_morning sl_tally sl_kinds sl_places sl_lengths sl_downs sl_covers as_size as_need as_lifted as_licked as_morning as_tally as_kinds as_places as_lengths as_downs as_covers text place count least inAll inSome scratch findings) H locs → W p l e rmX4_chanceOf s m AV below meth c H locs 0 0 Q (F0 m 58 ls [])) → ∀ (n : Nat) (x3 : Int64) (x5 : Int32), fX4_chanceOf_L5 sl_size sl_lifted x1 x2 n x3 x5 = some x3_o → ∀ (ls : Array Slot) (H : Heap) (locs : List Loc), lv_has ls 6 [(0, .ref (ad 0)), (1, .int x1), (2, .int x2), (3, .long x3), (5, .int x5)] → St D A s (wX4 cI ad finding asked upper lower r_items r_sizes t_items t_sizes d_items d_sizes st_size st_need st_lifted st_licked st_morning st_tally st_kinds st_places st_lengths st_downs st_covers sl_size sl_need sl_lifted sl_licked sl_morning sl_tally sl_kinds sl_places sl_lengths sl_downs sl_covers as_size as_need as_lifted as_licked as_morning as_tally as_kinds as_places as_lengths as_downs as_covers text place count least inAll inSome scratch findings) H locs → W p l e rmX4_chanceOf s m AV below meth c H locs 0 0 Q (F0 m 5 ls []) := by
    intro x1 x2 x3_o KE n
    induction n with
    | zero =>
      intro x3 x5 h
      exact nomatch (show none = some _ from h)
    | succ n ih =>
      intro x3 x5 h ls H locs hl hG
      have h : fX4_chanceOf_B5 sl_size sl_lifted x1 x2 (fX4_chanceOf_L5 sl_size sl_lifted x1 x2 n) x3 x5 = some x3_o := h
      have hj_52 : ∀ (x3 : Int64) (x5 : Int32) , fX4_chanceOf_j52 (fX4_chanceOf_L5 sl_size sl_lifted x1 x2 n) sl_size sl_lifted x1 x2 x3 x5 = some x3_o → ∀ (ls : Array Slot) (H : Heap) (locs : List Loc), lv_has ls 6 [(0, .ref (ad 0)), (1, .int x1), (2, .int x2), (3, .long x3), (5, .int x5)] → St D A s (wX4 cI ad finding asked upper lower r_items r_sizes t_items t_sizes d_items d_sizes st_size st_need st_lifted st_licked st_morning st_tally st_kinds st_places st_lengths st_downs st_covers sl_size sl_need sl_lifted sl_licked sl_morning sl_tally sl_kinds sl_places sl_lengths sl_downs sl_covers as_size as_need as_lifted as_licked as_morning as_tally as_kinds as_places as_lengths as_downs as_covers text place count least inAll inSome scratch findings) H locs → W p l e rmX4_chanceOf s m AV below meth c H locs 0 0 Q (F0 m 52 ls []) := by
        intro x3 x5 h ls H locs hl hG
        unfold fX4_chanceOf_j52 at h
        refine lv_iinc (v := (x5 + 1)) (lv' := [(5, .int (x5 + 1)), (0, .ref (ad 0)), (1, .int x1), (2, .int x2), (3, .long x3)]) hx hb dX4_chanceOf_52 hl (k := 4) rfl rfl (by decide) rfl (fun ls hl => ?_)
        refine lv_goto (tgt := 5) hx hb dX4_chanceOf_55 (by decide) ?_
        exact ih _ _ h _ _ _ (lv_sub hl [1, 2, 3, 4, 0] rfl) hG
      have hj_50 : ∀ (x5 : Int32) (k0 : Int64) (k1 : Int64) , fX4_chanceOf_j50 (fX4_chanceOf_L5 sl_size sl_lifted x1 x2 n) sl_size sl_lifted x1 x2 x5 k0 k1 = some x3_o → ∀ (ls : Array Slot) (H : Heap) (locs : List Loc), lv_has ls 6 [(0, .ref (ad 0)), (1, .int x1), (2, .int x2), (5, .int x5)] → St D A s (wX4 cI ad finding asked upper lower r_items r_sizes t_items t_sizes d_items d_sizes st_size st_need st_lifted st_licked st_morning st_tally st_kinds st_places st_lengths st_downs st_covers sl_size sl_need sl_lifted sl_licked sl_morning sl_tally sl_kinds sl_places sl_lengths sl_downs sl_covers as_size as_need as_lifted as_licked as_morning as_tally as_kinds as_places as_lengths as_downs as_covers text place count least inAll inSome scratch findings) H locs → W p l e rmX4_chanceOf s m AV below meth c H locs 0 0 Q (F0 m 50 ls [.long k1, .long k0]) := by
        intro x5 k0 k1 h ls H locs hl hG
        unfold fX4_chanceOf_j50 at h
        refine lv_lmul hx hb dX4_chanceOf_50 ?_
        refine lv_lstore_n (lv' := [(3, .long (k0 * k1)), (0, .ref (ad 0)), (1, .int x1), (2, .int x2), (5, .int x5)]) hx hb dX4_chanceOf_51 rfl hl (by decide) rfl (fun ls hl => ?_)
        exact hj_52 _ _ h _ _ _ (lv_sub hl [1, 2, 3, 0, 4] rfl) hG
      unfold fX4_chanceOf_B5 at h
      refine lv_iload hx hb dX4_chanceOf_5 (lv_at hl 4 rfl) ?_
      refine lv_aload_n hx hb dX4_chanceOf_7 rfl (lv_at hl 0 rfl) ?_
      refine x_get hc hG 0 rfl iX4 4 lX4_35 rfl dX4_chanceOf_8 ?_
      refine x_getN hc hG 16 rfl iX3 5 lX4_118 rfl dX4_chanceOf_11 ?_
      refine lv_icmp_ge (tgt := 58) hx hb dX4_chanceOf_14 (by decide) (fun c14 => ?_) (fun c14 => ?_)
      · rw [if_pos c14] at h
        cases h
        exact KE _ _ _ (lv_sub hl [0, 3] rfl) hG
      · rw [if_neg c14] at h
        refine lv_aload_n hx hb dX4_chanceOf_17 rfl (lv_at hl 0 rfl) ?_
        refine x_get hc hG 0 rfl iX4 4 lX4_35 rfl dX4_chanceOf_18 ?_
        refine lv_iload hx hb dX4_chanceOf_21 (lv_at hl 4 rfl) ?_
        obtain ⟨v23, e23, h⟩ := bd1_some h
        refine x_vi (rest := []) (ws' := (wX4 cI ad finding asked upper lower r_items r_sizes t_items t_sizes d_items d_sizes st_size st_need st_lifted st_licked st_morning st_tally st_kinds st_places st_lengths st_downs st_covers sl_size sl_need sl_lifted sl_licked sl_morning sl_tally sl_kinds sl_places sl_lengths sl_downs sl_covers as_size as_need as_lifted as_licked as_morning as_tally as_kinds as_places as_lengths as_downs as_covers text place count least inAll inSome scratch findings)) hc hG (cc_X3_isLifted (fun k => ad (16 + k)) sl_size sl_need sl_lifted sl_licked sl_morning sl_tally sl_kinds sl_places sl_lengths sl_downs sl_covers x5 v23 e23) [16, 17, 18, 19, 20, 21] [0, 1, 2, 3, 4, 5, 6, 7, 8, 9, 10, 11, 12, 13, 14, 15, 22, 23, 24, 25, 26, 27, 28, 29, 30, 31] [0, 1, 2, 3, 4, 5, 6, 7, 8, 9, 10, 11, 12, 13, 14, 15, 26, 27, 28, 29, 30, 31, 16, 17, 18, 19, 20, 21, 22, 23, 24, 25] rfl rfl rfl 16 rfl rfl lX4_320 ⟨rfl, rfl, by decide, by decide⟩ rfl hl.1 (Nat.le_of_ble_eq_true rfl) rfl dX4_chanceOf_23 (fun H locs hG => ?_)
        refine lv_if_ne (tgt := 52) hx hb dX4_chanceOf_26 (by decide) (fun c26 => ?_) (fun c26 => ?_)
        · rw [if_neg c26] at h
          exact hj_52 _ _ h _ _ _ (lv_sub hl [0, 1, 2, 3, 4] rfl) hG
        · rw [if_pos c26] at h
          refine lv_lload_n hx hb dX4_chanceOf_29 rfl (lv_at hl 3 rfl) ?_
          refine lv_iload_n hx hb dX4_chanceOf_30 rfl (lv_at hl 1 rfl) ?_
          refine lv_iload hx hb dX4_chanceOf_31 (lv_at hl 4 rfl) ?_
          obtain ⟨v33, e33, h⟩ := bd1_some h
          refine x_si0 (rest := [.long x3]) hc hG (cc_X4_bit x1 x5 v33 e33) lX4_155 ⟨rfl, rfl, by decide, by decide⟩ rfl hl.1 (Nat.le_of_ble_eq_true rfl) rfl dX4_chanceOf_33 (fun H locs hG => ?_)
          refine lv_iconst (v := 1) hx hb dX4_chanceOf_36 (by decide) ?_
          refine lv_icmp_ne (tgt := 45) hx hb dX4_chanceOf_37 (by decide) (fun c37 => ?_) (fun c37 => ?_)
          · rw [if_neg c37] at h
            refine lv_bipush (v := 12) hx hb dX4_chanceOf_45 (by decide) ?_
            refine lv_iload_n hx hb dX4_chanceOf_47 rfl (lv_at hl 2 rfl) ?_
            refine lv_isub hx hb dX4_chanceOf_48 ?_
            refine lv_i2l hx hb dX4_chanceOf_49 rfl ?_
            exact hj_50 _ _ _ h _ _ _ (lv_sub hl [0, 1, 2, 4] rfl) hG
          · rw [if_pos c37] at h
            refine lv_iload_n hx hb dX4_chanceOf_40 rfl (lv_at hl 2 rfl) ?_
            refine lv_i2l hx hb dX4_chanceOf_41 rfl ?_
            refine lv_goto (tgt := 50) hx hb dX4_chanceOf_42 (by decide) ?_
            exact hj_50 _ _ _ h _ _ _ (lv_sub hl [0, 1, 2, 4] rfl) hG
  unfold fX4_chanceOf at h
  refine lv_lconst (v := 1) hx hb dX4_chanceOf_0 (by decide) ?_
  refine lv_lstore_n (lv' := [(3, .long 1), (0, .ref (ad 0)), (1, .int x1), (2, .int x2)]) hx hb dX4_chanceOf_1 rfl hl (by decide) rfl (fun ls hl => ?_)
  refine lv_iconst (v := 0) hx hb dX4_chanceOf_2 (by decide) ?_
  refine lv_istore (lv' := [(5, .int 0), (3, .long 1), (0, .ref (ad 0)), (1, .int x1), (2, .int x2)]) hx hb dX4_chanceOf_3 hl (by decide) rfl (fun ls hl => ?_)
  obtain ⟨x3_L5, e5, h⟩ := bd1_some h
  refine hL_5 _ _ _ (fun ls H locs hl hG => ?_) _ _ _ e5 _ _ _ (lv_sub hl [2, 3, 4, 1, 0] rfl) hG
  refine lv_lload_n hx hb dX4_chanceOf_58 rfl (lv_at hl 1 rfl) ?_
  cases h
  exact hret _ _ _ _ hG dX4_chanceOf_59
set_option maxRecDepth 100000 in
set_option maxHeartbeats 4000000 in
theorem cc_X4_tellBurnt {l : Launch} {D : va_G} {cI : ClassId} {tL : Nat} (ad : Nat → Nat) (finding : Int32) (asked : Int32) (upper : Int64) (lower : Int64) (r_items : Nat → Int32) (r_sizes : Nat → Int32) (t_items : Nat → Int32) (t_sizes : Nat → Int32) (d_items : Nat → Int32) (d_sizes : Nat → Int32) (st_size : Int32) (st_need : Int32) (st_lifted : Int32) (st_licked : Int32) (st_morning : Int32) (st_tally : Int32) (st_kinds : Nat → Int32) (st_places : Nat → Int32) (st_lengths : Nat → Int32) (st_downs : Nat → Int32) (st_covers : Nat → Int32) (sl_size : Int32) (sl_need : Int32) (sl_lifted : Int32) (sl_licked : Int32) (sl_morning : Int32) (sl_tally : Int32) (sl_kinds : Nat → Int32) (sl_places : Nat → Int32) (sl_lengths : Nat → Int32) (sl_downs : Nat → Int32) (sl_covers : Nat → Int32) (as_size : Int32) (as_need : Int32) (as_lifted : Int32) (as_licked : Int32) (as_morning : Int32) (as_tally : Int32) (as_kinds : Nat → Int32) (as_places : Nat → Int32) (as_lengths : Nat → Int32) (as_downs : Nat → Int32) (as_covers : Nat → Int32) (text : Int32) (place : Int32) (count : Int32) (least : Int32) (inAll : Int32) (inSome : Int32) (scratch : Nat → Int32) (findings : Nat → Int32) (x1 : Int32) (x2 : Int32) (upper' : Int64) (lower' : Int64) (as_size' : Int32) (as_need' : Int32) (as_lifted' : Int32) (as_licked' : Int32) (as_morning' : Int32) (as_tally' : Int32) (as_kinds' : Nat → Int32) (as_places' : Nat → Int32) (as_lengths' : Nat → Int32) (as_downs' : Nat → Int32) (as_covers' : Nat → Int32) (h : fX4_tellBurnt upper lower sl_size sl_need sl_lifted sl_licked sl_morning sl_tally sl_kinds sl_places sl_lengths sl_downs sl_covers as_kinds as_places as_lengths as_downs as_covers x1 x2 = some (upper', lower', as_size', as_need', as_lifted', as_licked', as_morning', as_tally', as_kinds', as_places', as_lengths', as_downs', as_covers')) : Cv l D cI tL yX4_tellBurnt cX4_tellBurnt 11 rmX4_tellBurnt (wX4 cI ad finding asked upper lower r_items r_sizes t_items t_sizes d_items d_sizes st_size st_need st_lifted st_licked st_morning st_tally st_kinds st_places st_lengths st_downs st_covers sl_size sl_need sl_lifted sl_licked sl_morning sl_tally sl_kinds sl_places sl_lengths sl_downs sl_covers as_size as_need as_lifted as_licked as_morning as_tally as_kinds as_places as_lengths as_downs as_covers text place count least inAll inSome scratch findings) [.ref (ad 0), .int x1, .int x2] (wX4 cI ad finding asked upper' lower' r_items r_sizes t_items t_sizes d_items d_sizes st_size st_need st_lifted st_licked st_morning st_tally st_kinds st_places st_lengths st_downs st_covers sl_size sl_need sl_lifted sl_licked sl_morning sl_tally sl_kinds sl_places sl_lengths sl_downs sl_covers as_size' as_need' as_lifted' as_licked' as_morning' as_tally' as_kinds' as_places' as_lengths' as_downs' as_covers' text place count least inAll inSome scratch findings) := by
  refine Cv_of (own := RX4) (by decide) (Nat.le_of_ble_eq_true rfl) rfl ?_
  intro p e s m below meth c Q A AV hc hret ls hl hG
  obtain ⟨hx, hb, hml, hown, hts, hK, hA, hz⟩ := id hc
  have hl : lv_has ls 11 [(0, .ref (ad 0)), (1, .int x1), (2, .int x2)] := hl
  have hL_28 : ∀ (as_size : Int32) (as_need : Int32) (as_licked : Int32) (as_covers : Nat → Int32) (x1 : Int32) (x2 : Int32) (x3 : Int32) (upper : Int64) (lower : Int64) (as_morning : Int32) (as_tally : Int32) (as_kinds : Nat → Int32) (as_places : Nat → Int32) (as_lengths : Nat → Int32) (as_downs : Nat → Int32) (as_lifted_o : Int32) (x4_o : Int64) (x6_o : Int64), (∀ (ls : Array Slot) (H : Heap) (locs : List Loc), lv_has ls 11 [(0, .ref (ad 0)), (4, .long x4_o), (6, .long x6_o)] → St D A s (wX4 cI ad finding asked upper lower r_items r_sizes t_items t_sizes d_items d_sizes st_size st_need st_lifted st_licked st_morning st_tally st_kinds st_places st_lengths st_downs st_covers sl_size sl_need sl_lifted sl_licked sl_morning sl_tally sl_kinds sl_places sl_lengths sl_downs sl_covers as_size as_need as_lifted_o as_licked as_morning as_tally as_kinds as_places as_lengths as_downs as_covers text place count least inAll inSome scratch findings) H locs → W p l e rmX4_tellBurnt s m AV below meth c H locs 0 0 Q (F0 m 110 ls [])) → ∀ (n : Nat) (as_lifted : Int32) (x4 : Int64) (x6 : Int64) (x8 : Int32), fX4_tellBurnt_L28 sl_size sl_lifted as_size as_need as_licked as_covers x1 x2 x3 n as_lifted x4 x6 x8 = some (as_lifted_o, x4_o, x6_o) → ∀ (ls : Array Slot) (H : Heap) (locs : List Loc), lv_has ls 11 [(0, .ref (ad 0)), (1, .int x1), (2, .int x2), (3, .int x3), (4, .long x4), (6, .long x6), (8, .int x8)] → St D A s (wX4 cI ad finding asked upper lower r_items r_sizes t_items t_sizes d_items d_sizes st_size st_need st_lifted st_licked st_morning st_tally st_kinds st_places st_lengths st_downs st_covers sl_size sl_need sl_lifted sl_licked sl_morning sl_tally sl_kinds sl_places sl_lengths sl_downs sl_covers as_size as_need as_lifted as_licked as_morning as_tally as_kinds as_places as_lengths as_downs as_covers text place count least inAll inSome scratch findings) H locs → W p l e rmX4_tellBurnt s m AV below meth c H locs 0 0 Q (F0 m 28 ls []) := by
    intro as_size as_need as_licked as_covers x1 x2 x3 upper lower as_morning as_tally as_kinds as_places as_lengths as_downs as_lifted_o x4_o x6_o KE n
    induction n with
    | zero =>
      intro as_lifted x4 x6 x8 h
      exact nomatch (show none = some _ from h)
    | succ n ih =>
      intro as_lifted x4 x6 x8 h ls H locs hl hG
      have h : fX4_tellBurnt_B28 sl_size sl_lifted as_size as_need as_licked as_covers x1 x2 x3 (fX4_tellBurnt_L28 sl_size sl_lifted as_size as_need as_licked as_covers x1 x2 x3 n) as_lifted x4 x6 x8 = some (as_lifted_o, x4_o, x6_o) := h
      have hj_104 : ∀ (as_lifted : Int32) (x4 : Int64) (x6 : Int64) (x8 : Int32) , fX4_tellBurnt_j104 (fX4_tellBurnt_L28 sl_size sl_lifted as_size as_need as_licked as_covers x1 x2 x3 n) sl_size sl_lifted as_size as_need as_lifted as_licked as_covers x1 x2 x3 x4 x6 x8 = some (as_lifted_o, x4_o, x6_o) → ∀ (ls : Array Slot) (H : Heap) (locs : List Loc), lv_has ls 11 [(0, .ref (ad 0)), (1, .int x1), (2, .int x2), (3, .int x3), (4, .long x4), (6, .long x6), (8, .int x8)] → St D A s (wX4 cI ad finding asked upper lower r_items r_sizes t_items t_sizes d_items d_sizes st_size st_need st_lifted st_licked st_morning st_tally st_kinds st_places st_lengths st_downs st_covers sl_size sl_need sl_lifted sl_licked sl_morning sl_tally sl_kinds sl_places sl_lengths sl_downs sl_covers as_size as_need as_lifted as_licked as_morning as_tally as_kinds as_places as_lengths as_downs as_covers text place count least inAll inSome scratch findings) H locs → W p l e rmX4_tellBurnt s m AV below meth c H locs 0 0 Q (F0 m 104 ls []) := by
        intro as_lifted x4 x6 x8 h ls H locs hl hG
        unfold fX4_tellBurnt_j104 at h
        refine lv_iinc (v := (x8 + 1)) (lv' := [(8, .int (x8 + 1)), (0, .ref (ad 0)), (1, .int x1), (2, .int x2), (3, .int x3), (4, .long x4), (6, .long x6)]) hx hb dX4_tellBurnt_104 hl (k := 6) rfl rfl (by decide) rfl (fun ls hl => ?_)
        refine lv_goto (tgt := 28) hx hb dX4_tellBurnt_107 (by decide) ?_
        exact ih _ _ _ _ h _ _ _ (lv_sub hl [1, 2, 3, 4, 5, 6, 0] rfl) hG
      unfold fX4_tellBurnt_B28 at h
      refine lv_iload hx hb dX4_tellBurnt_28 (lv_at hl 6 rfl) ?_
      refine lv_iload_n hx hb dX4_tellBurnt_30 rfl (lv_at hl 3 rfl) ?_
      refine lv_icmp_gt (tgt := 110) hx hb dX4_tellBurnt_31 (by decide) (fun c31 => ?_) (fun c31 => ?_)
      · rw [if_pos c31] at h
        cases h
        exact KE _ _ _ (lv_sub hl [0, 4, 5] rfl) hG
      · rw [if_neg c31] at h
        refine lv_iload hx hb dX4_tellBurnt_34 (lv_at hl 6 rfl) ?_
        refine lv_aload_n hx hb dX4_tellBurnt_36 rfl (lv_at hl 0 rfl) ?_
        refine x_get hc hG 0 rfl iX4 4 lX4_35 rfl dX4_tellBurnt_37 ?_
        refine x_getN hc hG 16 rfl iX3 7 lX4_152 rfl dX4_tellBurnt_40 ?_
        refine lv_iand hx hb dX4_tellBurnt_43 ?_
        refine lv_if_eq (tgt := 50) hx hb dX4_tellBurnt_44 (by decide) (fun c44 => ?_) (fun c44 => ?_)
        · rw [if_pos c44] at h
          refine lv_aload_n hx hb dX4_tellBurnt_50 rfl (lv_at hl 0 rfl) ?_
          refine lv_iload hx hb dX4_tellBurnt_51 (lv_at hl 6 rfl) ?_
          refine lv_iload_n hx hb dX4_tellBurnt_53 rfl (lv_at hl 2 rfl) ?_
          obtain ⟨v54, e54, h⟩ := bd1_some h
          refine x_vl (rest := []) (ws' := (wX4 cI ad finding asked upper lower r_items r_sizes t_items t_sizes d_items d_sizes st_size st_need st_lifted st_licked st_morning st_tally st_kinds st_places st_lengths st_downs st_covers sl_size sl_need sl_lifted sl_licked sl_morning sl_tally sl_kinds sl_places sl_lengths sl_downs sl_covers as_size as_need as_lifted as_licked as_morning as_tally as_kinds as_places as_lengths as_downs as_covers text place count least inAll inSome scratch findings)) hc hG (cc_X4_chanceOf ad finding asked upper lower r_items r_sizes t_items t_sizes d_items d_sizes st_size st_need st_lifted st_licked st_morning st_tally st_kinds st_places st_lengths st_downs st_covers sl_size sl_need sl_lifted sl_licked sl_morning sl_tally sl_kinds sl_places sl_lengths sl_downs sl_covers as_size as_need as_lifted as_licked as_morning as_tally as_kinds as_places as_lengths as_downs as_covers text place count least inAll inSome scratch findings x8 x2 v54 e54) [0, 1, 2, 3, 4, 5, 6, 7, 8, 9, 10, 11, 12, 13, 14, 15, 16, 17, 18, 19, 20, 21, 22, 23, 24, 25, 26, 27, 28, 29, 30, 31] [] [0, 1, 2, 3, 4, 5, 6, 7, 8, 9, 10, 11, 12, 13, 14, 15, 16, 17, 18, 19, 20, 21, 22, 23, 24, 25, 26, 27, 28, 29, 30, 31] rfl rfl rfl 0 rfl rfl lX4_353 ⟨rfl, rfl, by decide, by decide⟩ rfl hl.1 (Nat.le_of_ble_eq_true rfl) rfl dX4_tellBurnt_54 (fun H locs hG => ?_)
          refine lv_lstore (lv' := [(9, .long v54), (0, .ref (ad 0)), (1, .int x1), (2, .int x2), (3, .int x3), (4, .long x4), (6, .long x6), (8, .int x8)]) hx hb dX4_tellBurnt_57 hl (by decide) rfl (fun ls hl => ?_)
          refine lv_aload_n hx hb dX4_tellBurnt_59 rfl (lv_at hl 1 rfl) ?_
          refine x_get hc hG 0 rfl iX4 5 lX4_38 rfl dX4_tellBurnt_60 ?_
          refine lv_aload_n hx hb dX4_tellBurnt_63 rfl (lv_at hl 1 rfl) ?_
          refine x_get hc hG 0 rfl iX4 4 lX4_35 rfl dX4_tellBurnt_64 ?_
          refine x_getN hc hG 16 rfl iX3 7 lX4_152 rfl dX4_tellBurnt_67 ?_
          refine lv_iload hx hb dX4_tellBurnt_70 (lv_at hl 7 rfl) ?_
          refine lv_ior hx hb dX4_tellBurnt_72 ?_
          refine x_putN (ws' := (wX4 cI ad finding asked upper lower r_items r_sizes t_items t_sizes d_items d_sizes st_size st_need st_lifted st_licked st_morning st_tally st_kinds st_places st_lengths st_downs st_covers sl_size sl_need sl_lifted sl_licked sl_morning sl_tally sl_kinds sl_places sl_lengths sl_downs sl_covers as_size as_need (sl_lifted ||| x8) as_licked as_morning as_tally as_kinds as_places as_lengths as_downs as_covers text place count least inAll inSome scratch findings)) hc hG 22 rfl iX3 tyX3 tyX3_ok nmX3 7 lX4_152 rfl rfl rfl (Nat.le_of_ble_eq_true rfl) rfl dX4_tellBurnt_73 (fun H locs hG => ?_)
          refine lv_lload hx hb dX4_tellBurnt_76 (lv_at hl 5 rfl) ?_
          refine lv_lload hx hb dX4_tellBurnt_78 (lv_at hl 0 rfl) ?_
          refine lv_aload_n hx hb dX4_tellBurnt_80 rfl (lv_at hl 1 rfl) ?_
          refine x_get hc hG 0 rfl iX4 5 lX4_38 rfl dX4_tellBurnt_81 ?_
          obtain ⟨v84, e84, h⟩ := bd1_some h
          refine x_vi (rest := [.long v54, .long x4]) (ws' := (wX4 cI ad finding asked upper lower r_items r_sizes t_items t_sizes d_items d_sizes st_size st_need st_lifted st_licked st_morning st_tally st_kinds st_places st_lengths st_downs st_covers sl_size sl_need sl_lifted sl_licked sl_morning sl_tally sl_kinds sl_places sl_lengths sl_downs sl_covers as_size as_need (sl_lifted ||| x8) as_licked as_morning as_tally as_kinds as_places as_lengths as_downs as_covers text place count least inAll inSome scratch findings)) hc hG (cc_X3_linesNow (fun k => ad (22 + k)) as_size as_need (sl_lifted ||| x8) as_licked as_morning as_tally as_kinds as_places as_lengths as_downs as_covers v84 e84) [22, 23, 24, 25, 26, 27] [0, 1, 2, 3, 4, 5, 6, 7, 8, 9, 10, 11, 12, 13, 14, 15, 16, 17, 18, 19, 20, 21, 28, 29, 30, 31] [0, 1, 2, 3, 4, 5, 6, 7, 8, 9, 10, 11, 12, 13, 14, 15, 16, 17, 18, 19, 20, 21, 26, 27, 28, 29, 30, 31, 22, 23, 24, 25] rfl rfl rfl 22 rfl rfl lX4_142 ⟨rfl, rfl, by decide, by decide⟩ rfl hl.1 (Nat.le_of_ble_eq_true rfl) rfl dX4_tellBurnt_84 (fun H locs hG => ?_)
          refine lv_iload_n hx hb dX4_tellBurnt_87 rfl (lv_at hl 2 rfl) ?_
          refine lv_iand hx hb dX4_tellBurnt_88 ?_
          refine x_si0 (rest := [.long v54, .long x4]) hc hG (cJ_bitc (v84 &&& x1)) lX4_217 ⟨rfl, rfl, by decide, by decide⟩ rfl hl.1 (Nat.le_of_ble_eq_true rfl) rfl dX4_tellBurnt_89 (fun H locs hG => ?_)
          refine lv_i2l hx hb dX4_tellBurnt_92 rfl ?_
          refine lv_lmul hx hb dX4_tellBurnt_93 ?_
          refine lv_ladd hx hb dX4_tellBurnt_94 ?_
          refine lv_lstore (lv' := [(4, .long (x4 + (v54 * (Int32.toInt64 (bitc (v84 &&& x1)))))), (9, .long v54), (0, .ref (ad 0)), (1, .int x1), (2, .int x2), (3, .int x3), (6, .long x6), (8, .int x8)]) hx hb dX4_tellBurnt_95 hl (by decide) rfl (fun ls hl => ?_)
          refine lv_lload hx hb dX4_tellBurnt_97 (lv_at hl 6 rfl) ?_
          refine lv_lload hx hb dX4_tellBurnt_99 (lv_at hl 1 rfl) ?_
          refine lv_ladd hx hb dX4_tellBurnt_101 ?_
          refine lv_lstore (lv' := [(6, .long (x6 + v54)), (4, .long (x4 + (v54 * (Int32.toInt64 (bitc (v84 &&& x1)))))), (9, .long v54), (0, .ref (ad 0)), (1, .int x1), (2, .int x2), (3, .int x3), (8, .int x8)]) hx hb dX4_tellBurnt_102 hl (by decide) rfl (fun ls hl => ?_)
          exact hj_104 _ _ _ _ h _ _ _ (lv_sub hl [3, 4, 5, 6, 1, 0, 7] rfl) hG
        · rw [if_neg c44] at h
          refine lv_goto (tgt := 104) hx hb dX4_tellBurnt_47 (by decide) ?_
          exact hj_104 _ _ _ _ h _ _ _ (lv_sub hl [0, 1, 2, 3, 4, 5, 6] rfl) hG
  unfold fX4_tellBurnt at h
  refine lv_aload_n hx hb dX4_tellBurnt_0 rfl (lv_at hl 0 rfl) ?_
  refine x_get hc hG 0 rfl iX4 5 lX4_38 rfl dX4_tellBurnt_1 ?_
  refine lv_aload_n hx hb dX4_tellBurnt_4 rfl (lv_at hl 0 rfl) ?_
  refine x_get hc hG 0 rfl iX4 4 lX4_35 rfl dX4_tellBurnt_5 ?_
  obtain ⟨as_size_8, as_need_8, as_lifted_8, as_licked_8, as_morning_8, as_tally_8, as_kinds_8, as_places_8, as_lengths_8, as_downs_8, as_covers_8, e8, h⟩ := bd11_some h
  refine x_vv (rest := []) (ws' := (wX4 cI ad finding asked upper lower r_items r_sizes t_items t_sizes d_items d_sizes st_size st_need st_lifted st_licked st_morning st_tally st_kinds st_places st_lengths st_downs st_covers sl_size sl_need sl_lifted sl_licked sl_morning sl_tally sl_kinds sl_places sl_lengths sl_downs sl_covers as_size_8 as_need_8 as_lifted_8 as_licked_8 as_morning_8 as_tally_8 as_kinds_8 as_places_8 as_lengths_8 as_downs_8 as_covers_8 text place count least inAll inSome scratch findings)) hc hG (cc_X3_take (fun k => match k with | 0 => ad 22 | 1 => ad 23 | 2 => ad 24 | 3 => ad 25 | 4 => ad 26 | 5 => ad 27 | 6 => ad 16 | 7 => ad 17 | 8 => ad 18 | 9 => ad 19 | 10 => ad 20 | _ => ad 21) as_size as_need as_lifted as_licked as_morning as_tally as_kinds as_places as_lengths as_downs as_covers sl_size sl_need sl_lifted sl_licked sl_morning sl_tally sl_kinds sl_places sl_lengths sl_downs sl_covers as_size_8 as_need_8 as_lifted_8 as_licked_8 as_morning_8 as_tally_8 as_kinds_8 as_places_8 as_lengths_8 as_downs_8 as_covers_8 e8) [22, 23, 24, 25, 26, 27, 16, 17, 18, 19, 20, 21] [0, 1, 2, 3, 4, 5, 6, 7, 8, 9, 10, 11, 12, 13, 14, 15, 28, 29, 30, 31] [0, 1, 2, 3, 4, 5, 6, 7, 8, 9, 10, 11, 12, 13, 14, 15, 26, 27, 28, 29, 30, 31, 20, 21, 22, 23, 24, 25, 16, 17, 18, 19] rfl rfl rfl 22 rfl rfl lX4_114 ⟨rfl, rfl, by decide, by decide⟩ rfl hl.1 (Nat.le_of_ble_eq_true rfl) rfl dX4_tellBurnt_8 (fun H locs hG => ?_)
  refine lv_aload_n hx hb dX4_tellBurnt_11 rfl (lv_at hl 0 rfl) ?_
  refine x_get hc hG 0 rfl iX4 4 lX4_35 rfl dX4_tellBurnt_12 ?_
  obtain ⟨v15, e15, h⟩ := bd1_some h
  refine x_vi (rest := []) (ws' := (wX4 cI ad finding asked upper lower r_items r_sizes t_items t_sizes d_items d_sizes st_size st_need st_lifted st_licked st_morning st_tally st_kinds st_places st_lengths st_downs st_covers sl_size sl_need sl_lifted sl_licked sl_morning sl_tally sl_kinds sl_places sl_lengths sl_downs sl_covers as_size_8 as_need_8 as_lifted_8 as_licked_8 as_morning_8 as_tally_8 as_kinds_8 as_places_8 as_lengths_8 as_downs_8 as_covers_8 text place count least inAll inSome scratch findings)) hc hG (cc_X3_allPeels (fun k => ad (16 + k)) sl_size sl_need sl_lifted sl_licked sl_morning sl_tally sl_kinds sl_places sl_lengths sl_downs sl_covers v15 e15) [16, 17, 18, 19, 20, 21] [0, 1, 2, 3, 4, 5, 6, 7, 8, 9, 10, 11, 12, 13, 14, 15, 22, 23, 24, 25, 26, 27, 28, 29, 30, 31] [0, 1, 2, 3, 4, 5, 6, 7, 8, 9, 10, 11, 12, 13, 14, 15, 26, 27, 28, 29, 30, 31, 16, 17, 18, 19, 20, 21, 22, 23, 24, 25] rfl rfl rfl 16 rfl rfl lX4_256 ⟨rfl, rfl, by decide, by decide⟩ rfl hl.1 (Nat.le_of_ble_eq_true rfl) rfl dX4_tellBurnt_15 (fun H locs hG => ?_)
  refine lv_istore_n (lv' := [(3, .int v15), (0, .ref (ad 0)), (1, .int x1), (2, .int x2)]) hx hb dX4_tellBurnt_18 rfl hl (by decide) rfl (fun ls hl => ?_)
  refine lv_lconst (v := 0) hx hb dX4_tellBurnt_19 (by decide) ?_
  refine lv_lstore (lv' := [(4, .long 0), (3, .int v15), (0, .ref (ad 0)), (1, .int x1), (2, .int x2)]) hx hb dX4_tellBurnt_20 hl (by decide) rfl (fun ls hl => ?_)
  refine lv_lconst (v := 0) hx hb dX4_tellBurnt_22 (by decide) ?_
  refine lv_lstore (lv' := [(6, .long 0), (4, .long 0), (3, .int v15), (0, .ref (ad 0)), (1, .int x1), (2, .int x2)]) hx hb dX4_tellBurnt_23 hl (by decide) rfl (fun ls hl => ?_)
  refine lv_iconst (v := 0) hx hb dX4_tellBurnt_25 (by decide) ?_
  refine lv_istore (lv' := [(8, .int 0), (6, .long 0), (4, .long 0), (3, .int v15), (0, .ref (ad 0)), (1, .int x1), (2, .int x2)]) hx hb dX4_tellBurnt_26 hl (by decide) rfl (fun ls hl => ?_)
  obtain ⟨as_lifted_L28, x4_L28, x6_L28, e28, h⟩ := bd3_some h
  refine hL_28 _ _ _ _ _ _ _ _ _ _ _ _ _ _ _ _ _ _ (fun ls H locs hl hG => ?_) _ _ _ _ _ e28 _ _ _ (lv_sub hl [4, 5, 6, 3, 2, 1, 0] rfl) hG
  refine lv_aload_n hx hb dX4_tellBurnt_110 rfl (lv_at hl 0 rfl) ?_
  refine lv_lload hx hb dX4_tellBurnt_111 (lv_at hl 1 rfl) ?_
  refine lv_lload hx hb dX4_tellBurnt_113 (lv_at hl 2 rfl) ?_
  obtain ⟨upper_115, lower_115, e115, h⟩ := bd2_some h
  refine x_vv (rest := []) (ws' := (wX4 cI ad finding asked upper_115 lower_115 r_items r_sizes t_items t_sizes d_items d_sizes st_size st_need st_lifted st_licked st_morning st_tally st_kinds st_places st_lengths st_downs st_covers sl_size sl_need sl_lifted sl_licked sl_morning sl_tally sl_kinds sl_places sl_lengths sl_downs sl_covers as_size_8 as_need_8 as_lifted_L28 as_licked_8 as_morning_8 as_tally_8 as_kinds_8 as_places_8 as_lengths_8 as_downs_8 as_covers_8 text place count least inAll inSome scratch findings)) hc hG (cc_X4_tellChance ad finding asked upper lower r_items r_sizes t_items t_sizes d_items d_sizes st_size st_need st_lifted st_licked st_morning st_tally st_kinds st_places st_lengths st_downs st_covers sl_size sl_need sl_lifted sl_licked sl_morning sl_tally sl_kinds sl_places sl_lengths sl_downs sl_covers as_size_8 as_need_8 as_lifted_L28 as_licked_8 as_morning_8 as_tally_8 as_kinds_8 as_places_8 as_lengths_8 as_downs_8 as_covers_8 text place count least inAll inSome scratch findings x4_L28 x6_L28 upper_115 lower_115 e115) [0, 1, 2, 3, 4, 5, 6, 7, 8, 9, 10, 11, 12, 13, 14, 15, 16, 17, 18, 19, 20, 21, 22, 23, 24, 25, 26, 27, 28, 29, 30, 31] [] [0, 1, 2, 3, 4, 5, 6, 7, 8, 9, 10, 11, 12, 13, 14, 15, 16, 17, 18, 19, 20, 21, 22, 23, 24, 25, 26, 27, 28, 29, 30, 31] rfl rfl rfl 0 rfl rfl lX4_228 ⟨rfl, rfl, by decide, by decide⟩ rfl hl.1 (Nat.le_of_ble_eq_true rfl) rfl dX4_tellBurnt_115 (fun H locs hG => ?_)
  cases h
  exact hret _ _ _ _ hG dX4_tellBurnt_118
set_option maxRecDepth 100000 in
set_option maxHeartbeats 4000000 in
theorem cc_X4_odds {l : Launch} {D : va_G} {cI : ClassId} {tL : Nat} (ad : Nat → Nat) (finding : Int32) (asked : Int32) (upper : Int64) (lower : Int64) (r_items : Nat → Int32) (r_sizes : Nat → Int32) (t_items : Nat → Int32) (t_sizes : Nat → Int32) (d_items : Nat → Int32) (d_sizes : Nat → Int32) (st_size : Int32) (st_need : Int32) (st_lifted : Int32) (st_licked : Int32) (st_morning : Int32) (st_tally : Int32) (st_kinds : Nat → Int32) (st_places : Nat → Int32) (st_lengths : Nat → Int32) (st_downs : Nat → Int32) (st_covers : Nat → Int32) (sl_size : Int32) (sl_need : Int32) (sl_lifted : Int32) (sl_licked : Int32) (sl_morning : Int32) (sl_tally : Int32) (sl_kinds : Nat → Int32) (sl_places : Nat → Int32) (sl_lengths : Nat → Int32) (sl_downs : Nat → Int32) (sl_covers : Nat → Int32) (as_size : Int32) (as_need : Int32) (as_lifted : Int32) (as_licked : Int32) (as_morning : Int32) (as_tally : Int32) (as_kinds : Nat → Int32) (as_places : Nat → Int32) (as_lengths : Nat → Int32) (as_downs : Nat → Int32) (as_covers : Nat → Int32) (text : Int32) (place : Int32) (count : Int32) (least : Int32) (inAll : Int32) (inSome : Int32) (scratch : Nat → Int32) (findings : Nat → Int32) (x1 : Int32) (x2 : Int32) (r' : Int32) (upper' : Int64) (lower' : Int64) (as_size' : Int32) (as_need' : Int32) (as_lifted' : Int32) (as_licked' : Int32) (as_morning' : Int32) (as_tally' : Int32) (as_kinds' : Nat → Int32) (as_places' : Nat → Int32) (as_lengths' : Nat → Int32) (as_downs' : Nat → Int32) (as_covers' : Nat → Int32) (h : fX4_odds upper lower sl_size sl_need sl_lifted sl_licked sl_morning sl_tally sl_kinds sl_places sl_lengths sl_downs sl_covers as_size as_need as_lifted as_licked as_morning as_tally as_kinds as_places as_lengths as_downs as_covers x1 x2 = some (r', upper', lower', as_size', as_need', as_lifted', as_licked', as_morning', as_tally', as_kinds', as_places', as_lengths', as_downs', as_covers')) : Ci l D cI tL yX4_odds cX4_odds 3 .int rmX4_odds (wX4 cI ad finding asked upper lower r_items r_sizes t_items t_sizes d_items d_sizes st_size st_need st_lifted st_licked st_morning st_tally st_kinds st_places st_lengths st_downs st_covers sl_size sl_need sl_lifted sl_licked sl_morning sl_tally sl_kinds sl_places sl_lengths sl_downs sl_covers as_size as_need as_lifted as_licked as_morning as_tally as_kinds as_places as_lengths as_downs as_covers text place count least inAll inSome scratch findings) [.ref (ad 0), .int x1, .int x2] r' (wX4 cI ad finding asked upper' lower' r_items r_sizes t_items t_sizes d_items d_sizes st_size st_need st_lifted st_licked st_morning st_tally st_kinds st_places st_lengths st_downs st_covers sl_size sl_need sl_lifted sl_licked sl_morning sl_tally sl_kinds sl_places sl_lengths sl_downs sl_covers as_size' as_need' as_lifted' as_licked' as_morning' as_tally' as_kinds' as_places' as_lengths' as_downs' as_covers' text place count least inAll inSome scratch findings) := by
  refine Ci_of (own := RX4) (by decide) (Nat.le_of_ble_eq_true rfl) rfl ?_
  intro p e s m below meth c Q A AV hc hret ls hl hG
  obtain ⟨hx, hb, hml, hown, hts, hK, hA, hz⟩ := id hc
  have hl : lv_has ls 3 [(0, .ref (ad 0)), (1, .int x1), (2, .int x2)] := hl
  unfold fX4_odds at h
  refine lv_iload_n hx hb dX4_odds_0 rfl (lv_at hl 1 rfl) ?_
  refine lv_bipush (v := 8) hx hb dX4_odds_1 (by decide) ?_
  obtain ⟨v3, e3, h⟩ := bd1_some h
  refine x_si0 (rest := []) hc hG (cc_X4_isIn x1 8 v3 e3) lX4_124 ⟨rfl, rfl, by decide, by decide⟩ rfl hl.1 (Nat.le_of_ble_eq_true rfl) rfl dX4_odds_3 (fun H locs hG => ?_)
  refine lv_if_eq (tgt := 19) hx hb dX4_odds_6 (by decide) (fun c6 => ?_) (fun c6 => ?_)
  · rw [if_pos c6] at h
    refine lv_iconst (v := (-1)) hx hb dX4_odds_19 (by decide) ?_
    cases h
    exact hret _ _ _ _ hG dX4_odds_20 rfl
  · rw [if_neg c6] at h
    refine lv_iload_n hx hb dX4_odds_9 rfl (lv_at hl 2 rfl) ?_
    refine lv_if_lt (tgt := 19) hx hb dX4_odds_10 (by decide) (fun c10 => ?_) (fun c10 => ?_)
    · rw [if_pos c10] at h
      refine lv_iconst (v := (-1)) hx hb dX4_odds_19 (by decide) ?_
      cases h
      exact hret _ _ _ _ hG dX4_odds_20 rfl
    · rw [if_neg c10] at h
      refine lv_iload_n hx hb dX4_odds_13 rfl (lv_at hl 2 rfl) ?_
      refine lv_bipush (v := 12) hx hb dX4_odds_14 (by decide) ?_
      refine lv_icmp_le (tgt := 21) hx hb dX4_odds_16 (by decide) (fun c16 => ?_) (fun c16 => ?_)
      · rw [if_pos c16] at h
        refine lv_aload_n hx hb dX4_odds_21 rfl (lv_at hl 0 rfl) ?_
        refine x_get hc hG 0 rfl iX4 4 lX4_35 rfl dX4_odds_22 ?_
        refine x_getN hc hG 16 rfl iX3 5 lX4_118 rfl dX4_odds_25 ?_
        refine lv_if_ne (tgt := 34) hx hb dX4_odds_28 (by decide) (fun c28 => ?_) (fun c28 => ?_)
        · rw [if_neg c28] at h
          refine lv_aload_n hx hb dX4_odds_34 rfl (lv_at hl 0 rfl) ?_
          refine lv_iconst (v := 1) hx hb dX4_odds_35 (by decide) ?_
          refine lv_iload_n hx hb dX4_odds_36 rfl (lv_at hl 1 rfl) ?_
          refine lv_ishl hx hb dX4_odds_37 ?_
          refine lv_iload_n hx hb dX4_odds_38 rfl (lv_at hl 2 rfl) ?_
          obtain ⟨upper_39, lower_39, as_size_39, as_need_39, as_lifted_39, as_licked_39, as_morning_39, as_tally_39, as_kinds_39, as_places_39, as_lengths_39, as_downs_39, as_covers_39, e39, h⟩ := bd13_some h
          refine x_vv (rest := []) (ws' := (wX4 cI ad finding asked upper_39 lower_39 r_items r_sizes t_items t_sizes d_items d_sizes st_size st_need st_lifted st_licked st_morning st_tally st_kinds st_places st_lengths st_downs st_covers sl_size sl_need sl_lifted sl_licked sl_morning sl_tally sl_kinds sl_places sl_lengths sl_downs sl_covers as_size_39 as_need_39 as_lifted_39 as_licked_39 as_morning_39 as_tally_39 as_kinds_39 as_places_39 as_lengths_39 as_downs_39 as_covers_39 text place count least inAll inSome scratch findings)) hc hG (cc_X4_tellBurnt ad finding asked upper lower r_items r_sizes t_items t_sizes d_items d_sizes st_size st_need st_lifted st_licked st_morning st_tally st_kinds st_places st_lengths st_downs st_covers sl_size sl_need sl_lifted sl_licked sl_morning sl_tally sl_kinds sl_places sl_lengths sl_downs sl_covers as_size as_need as_lifted as_licked as_morning as_tally as_kinds as_places as_lengths as_downs as_covers text place count least inAll inSome scratch findings ((1 : Int32) <<< (x1 &&& 31)) x2 upper_39 lower_39 as_size_39 as_need_39 as_lifted_39 as_licked_39 as_morning_39 as_tally_39 as_kinds_39 as_places_39 as_lengths_39 as_downs_39 as_covers_39 e39) [0, 1, 2, 3, 4, 5, 6, 7, 8, 9, 10, 11, 12, 13, 14, 15, 16, 17, 18, 19, 20, 21, 22, 23, 24, 25, 26, 27, 28, 29, 30, 31] [] [0, 1, 2, 3, 4, 5, 6, 7, 8, 9, 10, 11, 12, 13, 14, 15, 16, 17, 18, 19, 20, 21, 22, 23, 24, 25, 26, 27, 28, 29, 30, 31] rfl rfl rfl 0 rfl rfl lX4_271 ⟨rfl, rfl, by decide, by decide⟩ rfl hl.1 (Nat.le_of_ble_eq_true rfl) rfl dX4_odds_39 (fun H locs hG => ?_)
          refine lv_iconst (v := 1) hx hb dX4_odds_42 (by decide) ?_
          cases h
          exact hret _ _ _ _ hG dX4_odds_43 rfl
        · rw [if_pos c28] at h
          refine lv_bipush (v := (-4)) hx hb dX4_odds_31 (by decide) ?_
          cases h
          exact hret _ _ _ _ hG dX4_odds_33 rfl
      · rw [if_neg c16] at h
        refine lv_iconst (v := (-1)) hx hb dX4_odds_19 (by decide) ?_
        cases h
        exact hret _ _ _ _ hG dX4_odds_20 rfl
set_option maxRecDepth 100000 in
set_option maxHeartbeats 4000000 in
theorem cc_X4_mid {l : Launch} {D : va_G} {cI : ClassId} {tL : Nat} (ad : Nat → Nat) (finding : Int32) (asked : Int32) (upper : Int64) (lower : Int64) (r_items : Nat → Int32) (r_sizes : Nat → Int32) (t_items : Nat → Int32) (t_sizes : Nat → Int32) (d_items : Nat → Int32) (d_sizes : Nat → Int32) (st_size : Int32) (st_need : Int32) (st_lifted : Int32) (st_licked : Int32) (st_morning : Int32) (st_tally : Int32) (st_kinds : Nat → Int32) (st_places : Nat → Int32) (st_lengths : Nat → Int32) (st_downs : Nat → Int32) (st_covers : Nat → Int32) (sl_size : Int32) (sl_need : Int32) (sl_lifted : Int32) (sl_licked : Int32) (sl_morning : Int32) (sl_tally : Int32) (sl_kinds : Nat → Int32) (sl_places : Nat → Int32) (sl_lengths : Nat → Int32) (sl_downs : Nat → Int32) (sl_covers : Nat → Int32) (as_size : Int32) (as_need : Int32) (as_lifted : Int32) (as_licked : Int32) (as_morning : Int32) (as_tally : Int32) (as_kinds : Nat → Int32) (as_places : Nat → Int32) (as_lengths : Nat → Int32) (as_downs : Nat → Int32) (as_covers : Nat → Int32) (text : Int32) (place : Int32) (count : Int32) (least : Int32) (inAll : Int32) (inSome : Int32) (scratch : Nat → Int32) (findings : Nat → Int32) (x1 : Int32) (r' : Int32) (upper' : Int64) (lower' : Int64) (as_size' : Int32) (as_need' : Int32) (as_lifted' : Int32) (as_licked' : Int32) (as_morning' : Int32) (as_tally' : Int32) (as_kinds' : Nat → Int32) (as_places' : Nat → Int32) (as_lengths' : Nat → Int32) (as_downs' : Nat → Int32) (as_covers' : Nat → Int32) (h : fX4_mid upper lower sl_size sl_need sl_lifted sl_licked sl_morning sl_tally sl_kinds sl_places sl_lengths sl_downs sl_covers as_size as_need as_lifted as_licked as_morning as_tally as_kinds as_places as_lengths as_downs as_covers x1 = some (r', upper', lower', as_size', as_need', as_lifted', as_licked', as_morning', as_tally', as_kinds', as_places', as_lengths', as_downs', as_covers')) : Ci l D cI tL yX4_mid cX4_mid 2 .int rmX4_mid (wX4 cI ad finding asked upper lower r_items r_sizes t_items t_sizes d_items d_sizes st_size st_need st_lifted st_licked st_morning st_tally st_kinds st_places st_lengths st_downs st_covers sl_size sl_need sl_lifted sl_licked sl_morning sl_tally sl_kinds sl_places sl_lengths sl_downs sl_covers as_size as_need as_lifted as_licked as_morning as_tally as_kinds as_places as_lengths as_downs as_covers text place count least inAll inSome scratch findings) [.ref (ad 0), .int x1] r' (wX4 cI ad finding asked upper' lower' r_items r_sizes t_items t_sizes d_items d_sizes st_size st_need st_lifted st_licked st_morning st_tally st_kinds st_places st_lengths st_downs st_covers sl_size sl_need sl_lifted sl_licked sl_morning sl_tally sl_kinds sl_places sl_lengths sl_downs sl_covers as_size' as_need' as_lifted' as_licked' as_morning' as_tally' as_kinds' as_places' as_lengths' as_downs' as_covers' text place count least inAll inSome scratch findings) := by
  refine Ci_of (own := RX4) (by decide) (Nat.le_of_ble_eq_true rfl) rfl ?_
  intro p e s m below meth c Q A AV hc hret ls hl hG
  obtain ⟨hx, hb, hml, hown, hts, hK, hA, hz⟩ := id hc
  have hl : lv_has ls 2 [(0, .ref (ad 0)), (1, .int x1)] := hl
  unfold fX4_mid at h
  refine lv_iload_n hx hb dX4_mid_0 rfl (lv_at hl 1 rfl) ?_
  refine lv_if_lt (tgt := 10) hx hb dX4_mid_1 (by decide) (fun c1 => ?_) (fun c1 => ?_)
  · rw [if_pos c1] at h
    refine lv_iconst (v := (-1)) hx hb dX4_mid_10 (by decide) ?_
    cases h
    exact hret _ _ _ _ hG dX4_mid_11 rfl
  · rw [if_neg c1] at h
    refine lv_iload_n hx hb dX4_mid_4 rfl (lv_at hl 1 rfl) ?_
    refine lv_bipush (v := 12) hx hb dX4_mid_5 (by decide) ?_
    refine lv_icmp_le (tgt := 12) hx hb dX4_mid_7 (by decide) (fun c7 => ?_) (fun c7 => ?_)
    · rw [if_pos c7] at h
      refine lv_aload_n hx hb dX4_mid_12 rfl (lv_at hl 0 rfl) ?_
      refine x_get hc hG 0 rfl iX4 4 lX4_35 rfl dX4_mid_13 ?_
      refine x_getN hc hG 16 rfl iX3 5 lX4_118 rfl dX4_mid_16 ?_
      refine lv_if_ne (tgt := 25) hx hb dX4_mid_19 (by decide) (fun c19 => ?_) (fun c19 => ?_)
      · rw [if_neg c19] at h
        refine lv_aload_n hx hb dX4_mid_25 rfl (lv_at hl 0 rfl) ?_
        refine lv_sipush (v := 255) hx hb dX4_mid_26 (by decide) ?_
        refine lv_iload_n hx hb dX4_mid_29 rfl (lv_at hl 1 rfl) ?_
        obtain ⟨upper_30, lower_30, as_size_30, as_need_30, as_lifted_30, as_licked_30, as_morning_30, as_tally_30, as_kinds_30, as_places_30, as_lengths_30, as_downs_30, as_covers_30, e30, h⟩ := bd13_some h
        refine x_vv (rest := []) (ws' := (wX4 cI ad finding asked upper_30 lower_30 r_items r_sizes t_items t_sizes d_items d_sizes st_size st_need st_lifted st_licked st_morning st_tally st_kinds st_places st_lengths st_downs st_covers sl_size sl_need sl_lifted sl_licked sl_morning sl_tally sl_kinds sl_places sl_lengths sl_downs sl_covers as_size_30 as_need_30 as_lifted_30 as_licked_30 as_morning_30 as_tally_30 as_kinds_30 as_places_30 as_lengths_30 as_downs_30 as_covers_30 text place count least inAll inSome scratch findings)) hc hG (cc_X4_tellBurnt ad finding asked upper lower r_items r_sizes t_items t_sizes d_items d_sizes st_size st_need st_lifted st_licked st_morning st_tally st_kinds st_places st_lengths st_downs st_covers sl_size sl_need sl_lifted sl_licked sl_morning sl_tally sl_kinds sl_places sl_lengths sl_downs sl_covers as_size as_need as_lifted as_licked as_morning as_tally as_kinds as_places as_lengths as_downs as_covers text place count least inAll inSome scratch findings 255 x1 upper_30 lower_30 as_size_30 as_need_30 as_lifted_30 as_licked_30 as_morning_30 as_tally_30 as_kinds_30 as_places_30 as_lengths_30 as_downs_30 as_covers_30 e30) [0, 1, 2, 3, 4, 5, 6, 7, 8, 9, 10, 11, 12, 13, 14, 15, 16, 17, 18, 19, 20, 21, 22, 23, 24, 25, 26, 27, 28, 29, 30, 31] [] [0, 1, 2, 3, 4, 5, 6, 7, 8, 9, 10, 11, 12, 13, 14, 15, 16, 17, 18, 19, 20, 21, 22, 23, 24, 25, 26, 27, 28, 29, 30, 31] rfl rfl rfl 0 rfl rfl lX4_271 ⟨rfl, rfl, by decide, by decide⟩ rfl hl.1 (Nat.le_of_ble_eq_true rfl) rfl dX4_mid_30 (fun H locs hG => ?_)
        refine lv_iconst (v := 1) hx hb dX4_mid_33 (by decide) ?_
        cases h
        exact hret _ _ _ _ hG dX4_mid_34 rfl
      · rw [if_pos c19] at h
        refine lv_bipush (v := (-4)) hx hb dX4_mid_22 (by decide) ?_
        cases h
        exact hret _ _ _ _ hG dX4_mid_24 rfl
    · rw [if_neg c7] at h
      refine lv_iconst (v := (-1)) hx hb dX4_mid_10 (by decide) ?_
      cases h
      exact hret _ _ _ _ hG dX4_mid_11 rfl
set_option maxRecDepth 100000 in
set_option maxHeartbeats 4000000 in
theorem cc_X4_deedByLot {l : Launch} {D : va_G} {cI : ClassId} {tL : Nat} (x0 : Int32) (r' : Int32) (h : fX4_deedByLot x0 = some r') : Ci l D cI tL yX4_deedByLot cX4_deedByLot 1 .int rmX4_deedByLot [] [.int x0] r' [] := by
  refine Ci_of (own := RX4) (by decide) (Nat.le_of_ble_eq_true rfl) rfl ?_
  intro p e s m below meth c Q A AV hc hret ls hl hG
  obtain ⟨hx, hb, hml, hown, hts, hK, hA, hz⟩ := id hc
  have hl : lv_has ls 1 [(0, .int x0)] := hl
  unfold fX4_deedByLot at h
  refine lv_iload_n hx hb dX4_deedByLot_0 rfl (lv_at hl 0 rfl) ?_
  refine lv_bipush (v := 8) hx hb dX4_deedByLot_1 (by decide) ?_
  refine lv_idiv hx hb dX4_deedByLot_3 (by decide) ?_
  refine lv_bipush (v := 8) hx hb dX4_deedByLot_4 (by decide) ?_
  refine lv_irem hx hb dX4_deedByLot_6 (by decide) ?_
  by_cases c7_4 : ((x0 / 8) - (x0 / 8) / 8 * 8) = 4
  · rw [if_pos c7_4] at h
    refine x_swK (tgt := 36) hx hb dX4_deedByLot_7 c7_4 (by decide) (by decide) rfl (by decide) ?_
    refine lv_iconst (v := 1) hx hb dX4_deedByLot_36 (by decide) ?_
    cases h
    exact hret _ _ _ _ hG dX4_deedByLot_37 rfl
  rw [if_neg c7_4] at h
  by_cases c7_5 : ((x0 / 8) - (x0 / 8) / 8 * 8) = 5
  · rw [if_pos c7_5] at h
    refine x_swK (tgt := 38) hx hb dX4_deedByLot_7 c7_5 (by decide) (by decide) rfl (by decide) ?_
    refine lv_iconst (v := 2) hx hb dX4_deedByLot_38 (by decide) ?_
    cases h
    exact hret _ _ _ _ hG dX4_deedByLot_39 rfl
  rw [if_neg c7_5] at h
  by_cases c7_6 : ((x0 / 8) - (x0 / 8) / 8 * 8) = 6
  · rw [if_pos c7_6] at h
    refine x_swK (tgt := 40) hx hb dX4_deedByLot_7 c7_6 (by decide) (by decide) rfl (by decide) ?_
    refine lv_iconst (v := 3) hx hb dX4_deedByLot_40 (by decide) ?_
    cases h
    exact hret _ _ _ _ hG dX4_deedByLot_41 rfl
  rw [if_neg c7_6] at h
  by_cases c7_7 : ((x0 / 8) - (x0 / 8) / 8 * 8) = 7
  · rw [if_pos c7_7] at h
    refine x_swK (tgt := 42) hx hb dX4_deedByLot_7 c7_7 (by decide) (by decide) rfl (by decide) ?_
    refine lv_iconst (v := 4) hx hb dX4_deedByLot_42 (by decide) ?_
    cases h
    exact hret _ _ _ _ hG dX4_deedByLot_43 rfl
  rw [if_neg c7_7] at h
  refine x_swD (tgt := 44) hx hb dX4_deedByLot_7 [4, 5, 6, 7] (by decide) (List.forall_mem_cons.mpr ⟨lv_neT c7_4 (by decide), (List.forall_mem_cons.mpr ⟨lv_neT c7_5 (by decide), (List.forall_mem_cons.mpr ⟨lv_neT c7_6 (by decide), (List.forall_mem_cons.mpr ⟨lv_neT c7_7 (by decide), (List.forall_mem_nil _)⟩)⟩)⟩)⟩) (by decide) ?_
  refine lv_iconst (v := 0) hx hb dX4_deedByLot_44 (by decide) ?_
  cases h
  exact hret _ _ _ _ hG dX4_deedByLot_45 rfl
set_option maxRecDepth 100000 in
set_option maxHeartbeats 4000000 in
theorem cc_X4_lots {l : Launch} {D : va_G} {cI : ClassId} {tL : Nat} (ad : Nat → Nat) (finding : Int32) (asked : Int32) (upper : Int64) (lower : Int64) (r_items : Nat → Int32) (r_sizes : Nat → Int32) (t_items : Nat → Int32) (t_sizes : Nat → Int32) (d_items : Nat → Int32) (d_sizes : Nat → Int32) (st_size : Int32) (st_need : Int32) (st_lifted : Int32) (st_licked : Int32) (st_morning : Int32) (st_tally : Int32) (st_kinds : Nat → Int32) (st_places : Nat → Int32) (st_lengths : Nat → Int32) (st_downs : Nat → Int32) (st_covers : Nat → Int32) (sl_size : Int32) (sl_need : Int32) (sl_lifted : Int32) (sl_licked : Int32) (sl_morning : Int32) (sl_tally : Int32) (sl_kinds : Nat → Int32) (sl_places : Nat → Int32) (sl_lengths : Nat → Int32) (sl_downs : Nat → Int32) (sl_covers : Nat → Int32) (as_size : Int32) (as_need : Int32) (as_lifted : Int32) (as_licked : Int32) (as_morning : Int32) (as_tally : Int32) (as_kinds : Nat → Int32) (as_places : Nat → Int32) (as_lengths : Nat → Int32) (as_downs : Nat → Int32) (as_covers : Nat → Int32) (text : Int32) (place : Int32) (count : Int32) (least : Int32) (inAll : Int32) (inSome : Int32) (scratch : Nat → Int32) (findings : Nat → Int32) (x1 : Int32) (x2 : Int32) (r' : Int32) (d_items' : Nat → Int32) (d_sizes' : Nat → Int32) (sl_lifted' : Int32) (sl_licked' : Int32) (sl_morning' : Int32) (sl_tally' : Int32) (sl_places' : Nat → Int32) (sl_downs' : Nat → Int32) (sl_covers' : Nat → Int32) (h : fX4_lots d_items d_sizes sl_size sl_need sl_lifted sl_licked sl_morning sl_tally sl_kinds sl_places sl_lengths sl_downs sl_covers x1 x2 = some (r', d_items', d_sizes', sl_lifted', sl_licked', sl_morning', sl_tally', sl_places', sl_downs', sl_covers')) : Ci l D cI tL yX4_lots cX4_lots 6 .int rmX4_lots (wX4 cI ad finding asked upper lower r_items r_sizes t_items t_sizes d_items d_sizes st_size st_need st_lifted st_licked st_morning st_tally st_kinds st_places st_lengths st_downs st_covers sl_size sl_need sl_lifted sl_licked sl_morning sl_tally sl_kinds sl_places sl_lengths sl_downs sl_covers as_size as_need as_lifted as_licked as_morning as_tally as_kinds as_places as_lengths as_downs as_covers text place count least inAll inSome scratch findings) [.ref (ad 0), .int x1, .int x2] r' (wX4 cI ad finding asked upper lower r_items r_sizes t_items t_sizes d_items' d_sizes' st_size st_need st_lifted st_licked st_morning st_tally st_kinds st_places st_lengths st_downs st_covers sl_size sl_need sl_lifted' sl_licked' sl_morning' sl_tally' sl_kinds sl_places' sl_lengths sl_downs' sl_covers' as_size as_need as_lifted as_licked as_morning as_tally as_kinds as_places as_lengths as_downs as_covers text place count least inAll inSome scratch findings) := by
  refine Ci_of (own := RX4) (by decide) (Nat.le_of_ble_eq_true rfl) rfl ?_
  intro p e s m below meth c Q A AV hc hret ls hl hG
  obtain ⟨hx, hb, hml, hown, hts, hK, hA, hz⟩ := id hc
  have hl : lv_has ls 6 [(0, .ref (ad 0)), (1, .int x1), (2, .int x2)] := hl
  have hL_55 : ∀ (x1 : Int32) (d_items_o : Nat → Int32) (d_sizes_o : Nat → Int32) (sl_lifted_o : Int32) (sl_licked_o : Int32) (sl_morning_o : Int32) (sl_tally_o : Int32) (sl_places_o : Nat → Int32) (sl_downs_o : Nat → Int32) (sl_covers_o : Nat → Int32), (∀ (ls : Array Slot) (H : Heap) (locs : List Loc), lv_has ls 6 [(0, .ref (ad 0))] → St D A s (wX4 cI ad finding asked upper lower r_items r_sizes t_items t_sizes d_items_o d_sizes_o st_size st_need st_lifted st_licked st_morning st_tally st_kinds st_places st_lengths st_downs st_covers sl_size sl_need sl_lifted_o sl_licked_o sl_morning_o sl_tally_o sl_kinds sl_places_o sl_lengths sl_downs_o sl_covers_o as_size as_need as_lifted as_licked as_morning as_tally as_kinds as_places as_lengths as_downs as_covers text place count least inAll inSome scratch findings) H locs → W p l e rmX4_lots s m AV below meth c H locs 0 0 Q (F0 m 114 ls [])) → ∀ (n : Nat) (d_items : Nat → Int32) (d_sizes : Nat → Int32) (sl_lifted : Int32) (sl_licked : Int32) (sl_morning : Int32) (sl_tally : Int32) (sl_places : Nat → Int32) (sl_downs : Nat → Int32) (sl_covers : Nat → Int32) (x3 : Int64) (x5 : Int32), fX4_lots_L55 sl_size sl_need sl_kinds sl_lengths x1 n d_items d_sizes sl_lifted sl_licked sl_morning sl_tally sl_places sl_downs sl_covers x3 x5 = some (d_items_o, d_sizes_o, sl_lifted_o, sl_licked_o, sl_morning_o, sl_tally_o, sl_places_o, sl_downs_o, sl_covers_o) → ∀ (ls : Array Slot) (H : Heap) (locs : List Loc), lv_has ls 6 [(0, .ref (ad 0)), (1, .int x1), (3, .long x3), (5, .int x5)] → St D A s (wX4 cI ad finding asked upper lower r_items r_sizes t_items t_sizes d_items d_sizes st_size st_need st_lifted st_licked st_morning st_tally st_kinds st_places st_lengths st_downs st_covers sl_size sl_need sl_lifted sl_licked sl_morning sl_tally sl_kinds sl_places sl_lengths sl_downs sl_covers as_size as_need as_lifted as_licked as_morning as_tally as_kinds as_places as_lengths as_downs as_covers text place count least inAll inSome scratch findings) H locs → W p l e rmX4_lots s m AV below meth c H locs 0 0 Q (F0 m 55 ls []) := by
    intro x1 d_items_o d_sizes_o sl_lifted_o sl_licked_o sl_morning_o sl_tally_o sl_places_o sl_downs_o sl_covers_o KE n
    induction n with
    | zero =>
      intro d_items d_sizes sl_lifted sl_licked sl_morning sl_tally sl_places sl_downs sl_covers x3 x5 h
      exact nomatch (show none = some _ from h)
    | succ n ih =>
      intro d_items d_sizes sl_lifted sl_licked sl_morning sl_tally sl_places sl_downs sl_covers x3 x5 h ls H locs hl hG
      have h : fX4_lots_B55 sl_size sl_need sl_kinds sl_lengths x1 (fX4_lots_L55 sl_size sl_need sl_kinds sl_lengths x1 n) d_items d_sizes sl_lifted sl_licked sl_morning sl_tally sl_places sl_downs sl_covers x3 x5 = some (d_items_o, d_sizes_o, sl_lifted_o, sl_licked_o, sl_morning_o, sl_tally_o, sl_places_o, sl_downs_o, sl_covers_o) := h
      unfold fX4_lots_B55 at h
      refine lv_iload hx hb dX4_lots_55 (lv_at hl 3 rfl) ?_
      refine lv_iload_n hx hb dX4_lots_57 rfl (lv_at hl 1 rfl) ?_
      refine lv_icmp_ge (tgt := 114) hx hb dX4_lots_58 (by decide) (fun c58 => ?_) (fun c58 => ?_)
      · rw [if_pos c58] at h
        cases h
        exact KE _ _ _ (lv_sub hl [0] rfl) hG
      · rw [if_neg c58] at h
        refine lv_iload hx hb dX4_lots_61 (lv_at hl 3 rfl) ?_
        refine lv_bipush (v := 20) hx hb dX4_lots_63 (by decide) ?_
        refine lv_icmp_ge (tgt := 114) hx hb dX4_lots_65 (by decide) (fun c65 => ?_) (fun c65 => ?_)
        · rw [if_pos c65] at h
          cases h
          exact KE _ _ _ (lv_sub hl [0] rfl) hG
        · rw [if_neg c65] at h
          refine lv_lload_n hx hb dX4_lots_68 rfl (lv_at hl 2 rfl) ?_
          refine lv_ldc2 (v := 48271) hx hb hown (hts _ kX4_275) dX4_lots_69 ?_
          refine lv_lmul hx hb dX4_lots_72 ?_
          refine lv_ldc2 (v := 2147483647) hx hb hown (hts _ kX4_277) dX4_lots_73 ?_
          refine lv_lrem hx hb dX4_lots_76 (by decide) ?_
          refine lv_lstore_n (lv' := [(3, .long ((x3 * 48271) - (x3 * 48271) / 2147483647 * 2147483647)), (0, .ref (ad 0)), (1, .int x1), (5, .int x5)]) hx hb dX4_lots_77 rfl hl (by decide) rfl (fun ls hl => ?_)
          refine lv_aload_n hx hb dX4_lots_78 rfl (lv_at hl 1 rfl) ?_
          refine lv_lload_n hx hb dX4_lots_79 rfl (lv_at hl 0 rfl) ?_
          refine lv_l2i hx hb dX4_lots_80 rfl ?_
          obtain ⟨v81, e81, h⟩ := bd1_some h
          refine x_si0 (rest := [.ref (ad 0)]) hc hG (cc_X4_deedByLot (Int64.toInt32 ((x3 * 48271) - (x3 * 48271) / 2147483647 * 2147483647)) v81 e81) lX4_279 ⟨rfl, rfl, by decide, by decide⟩ rfl hl.1 (Nat.le_of_ble_eq_true rfl) rfl dX4_lots_81 (fun H locs hG => ?_)
          refine lv_lload_n hx hb dX4_lots_84 rfl (lv_at hl 0 rfl) ?_
          refine lv_aload_n hx hb dX4_lots_85 rfl (lv_at hl 1 rfl) ?_
          refine x_get hc hG 0 rfl iX4 4 lX4_35 rfl dX4_lots_86 ?_
          refine x_getN hc hG 16 rfl iX3 5 lX4_118 rfl dX4_lots_89 ?_
          refine lv_i2l hx hb dX4_lots_92 rfl ?_
          by_cases c93 : (Int32.toInt64 sl_size) = 0
          · rw [if_pos c93] at h
            cases h
          · rw [if_neg c93] at h
            refine lv_lrem hx hb dX4_lots_93 c93 ?_
            refine lv_l2i hx hb dX4_lots_94 rfl ?_
            refine lv_lload_n hx hb dX4_lots_95 rfl (lv_at hl 0 rfl) ?_
            refine lv_ldc2 (v := 64) hx hb hown (hts _ kX4_282) dX4_lots_96 ?_
            refine lv_ldiv hx hb dX4_lots_99 (by decide) ?_
            refine lv_ldc2 (v := 16) hx hb hown (hts _ kX4_284) dX4_lots_100 ?_
            refine lv_lrem hx hb dX4_lots_103 (by decide) ?_
            refine lv_l2i hx hb dX4_lots_104 rfl ?_
            obtain ⟨d_items_105, d_sizes_105, sl_lifted_105, sl_licked_105, sl_morning_105, sl_tally_105, sl_places_105, sl_downs_105, sl_covers_105, e105, h⟩ := bd9_some h
            refine x_vv (rest := []) (ws' := (wX4 cI ad finding asked upper lower r_items r_sizes t_items t_sizes d_items_105 d_sizes_105 st_size st_need st_lifted st_licked st_morning st_tally st_kinds st_places st_lengths st_downs st_covers sl_size sl_need sl_lifted_105 sl_licked_105 sl_morning_105 sl_tally_105 sl_kinds sl_places_105 sl_lengths sl_downs_105 sl_covers_105 as_size as_need as_lifted as_licked as_morning as_tally as_kinds as_places as_lengths as_downs as_covers text place count least inAll inSome scratch findings)) hc hG (cc_X4_act ad finding asked upper lower r_items r_sizes t_items t_sizes d_items d_sizes st_size st_need st_lifted st_licked st_morning st_tally st_kinds st_places st_lengths st_downs st_covers sl_size sl_need sl_lifted sl_licked sl_morning sl_tally sl_kinds sl_places sl_lengths sl_downs sl_covers as_size as_need as_lifted as_licked as_morning as_tally as_kinds as_places as_lengths as_downs as_covers text place count least inAll inSome scratch findings v81 (Int64.toInt32 (((x3 * 48271) - (x3 * 48271) / 2147483647 * 2147483647) - ((x3 * 48271) - (x3 * 48271) / 2147483647 * 2147483647) / (Int32.toInt64 sl_size) * (Int32.toInt64 sl_size))) (Int64.toInt32 ((((x3 * 48271) - (x3 * 48271) / 2147483647 * 2147483647) / 64) - (((x3 * 48271) - (x3 * 48271) / 2147483647 * 2147483647) / 64) / 16 * 16)) d_items_105 d_sizes_105 sl_lifted_105 sl_licked_105 sl_morning_105 sl_tally_105 sl_places_105 sl_downs_105 sl_covers_105 e105) [0, 1, 2, 3, 4, 5, 6, 7, 8, 9, 10, 11, 12, 13, 14, 15, 16, 17, 18, 19, 20, 21, 22, 23, 24, 25, 26, 27, 28, 29, 30, 31] [] [0, 1, 2, 3, 4, 5, 6, 7, 8, 9, 10, 11, 12, 13, 14, 15, 16, 17, 18, 19, 20, 21, 22, 23, 24, 25, 26, 27, 28, 29, 30, 31] rfl rfl rfl 0 rfl rfl lX4_139 ⟨rfl, rfl, by decide, by decide⟩ rfl hl.1 (Nat.le_of_ble_eq_true rfl) rfl dX4_lots_105 (fun H locs hG => ?_)
            refine lv_iinc (v := (x5 + 1)) (lv' := [(5, .int (x5 + 1)), (3, .long ((x3 * 48271) - (x3 * 48271) / 2147483647 * 2147483647)), (0, .ref (ad 0)), (1, .int x1)]) hx hb dX4_lots_108 hl (k := 3) rfl rfl (by decide) rfl (fun ls hl => ?_)
            refine lv_goto (tgt := 55) hx hb dX4_lots_111 (by decide) ?_
            exact ih _ _ _ _ _ _ _ _ _ _ _ h _ _ _ (lv_sub hl [2, 3, 1, 0] rfl) hG
  unfold fX4_lots at h
  refine lv_iload_n hx hb dX4_lots_0 rfl (lv_at hl 1 rfl) ?_
  refine lv_iconst (v := 1) hx hb dX4_lots_1 (by decide) ?_
  refine lv_icmp_lt (tgt := 23) hx hb dX4_lots_2 (by decide) (fun c2 => ?_) (fun c2 => ?_)
  · rw [if_pos c2] at h
    refine lv_iconst (v := (-1)) hx hb dX4_lots_23 (by decide) ?_
    cases h
    exact hret _ _ _ _ hG dX4_lots_24 rfl
  · rw [if_neg c2] at h
    refine lv_iload_n hx hb dX4_lots_5 rfl (lv_at hl 1 rfl) ?_
    refine lv_bipush (v := 20) hx hb dX4_lots_6 (by decide) ?_
    refine lv_icmp_gt (tgt := 23) hx hb dX4_lots_8 (by decide) (fun c8 => ?_) (fun c8 => ?_)
    · rw [if_pos c8] at h
      refine lv_iconst (v := (-1)) hx hb dX4_lots_23 (by decide) ?_
      cases h
      exact hret _ _ _ _ hG dX4_lots_24 rfl
    · rw [if_neg c8] at h
      refine lv_iload_n hx hb dX4_lots_11 rfl (lv_at hl 2 rfl) ?_
      refine lv_iconst (v := 1) hx hb dX4_lots_12 (by decide) ?_
      refine lv_icmp_lt (tgt := 23) hx hb dX4_lots_13 (by decide) (fun c13 => ?_) (fun c13 => ?_)
      · rw [if_pos c13] at h
        refine lv_iconst (v := (-1)) hx hb dX4_lots_23 (by decide) ?_
        cases h
        exact hret _ _ _ _ hG dX4_lots_24 rfl
      · rw [if_neg c13] at h
        refine lv_iload_n hx hb dX4_lots_16 rfl (lv_at hl 2 rfl) ?_
        refine lv_ldcw (v := 2147483647) hx hb hown (hts _ kX4_274) dX4_lots_17 ?_
        refine lv_icmp_lt (tgt := 25) hx hb dX4_lots_20 (by decide) (fun c20 => ?_) (fun c20 => ?_)
        · rw [if_pos c20] at h
          refine lv_aload_n hx hb dX4_lots_25 rfl (lv_at hl 0 rfl) ?_
          refine x_get hc hG 0 rfl iX4 4 lX4_35 rfl dX4_lots_26 ?_
          refine x_getN hc hG 16 rfl iX3 5 lX4_118 rfl dX4_lots_29 ?_
          refine lv_if_ne (tgt := 38) hx hb dX4_lots_32 (by decide) (fun c32 => ?_) (fun c32 => ?_)
          · rw [if_neg c32] at h
            refine lv_aload_n hx hb dX4_lots_38 rfl (lv_at hl 0 rfl) ?_
            refine lv_iload_n hx hb dX4_lots_39 rfl (lv_at hl 1 rfl) ?_
            obtain ⟨v40, e40, h⟩ := bd1_some h
            refine x_vi (rest := []) (ws' := (wX4 cI ad finding asked upper lower r_items r_sizes t_items t_sizes d_items d_sizes st_size st_need st_lifted st_licked st_morning st_tally st_kinds st_places st_lengths st_downs st_covers sl_size sl_need sl_lifted sl_licked sl_morning sl_tally sl_kinds sl_places sl_lengths sl_downs sl_covers as_size as_need as_lifted as_licked as_morning as_tally as_kinds as_places as_lengths as_downs as_covers text place count least inAll inSome scratch findings)) hc hG (cc_X4_hasRoom ad finding asked upper lower r_items r_sizes t_items t_sizes d_items d_sizes st_size st_need st_lifted st_licked st_morning st_tally st_kinds st_places st_lengths st_downs st_covers sl_size sl_need sl_lifted sl_licked sl_morning sl_tally sl_kinds sl_places sl_lengths sl_downs sl_covers as_size as_need as_lifted as_licked as_morning as_tally as_kinds as_places as_lengths as_downs as_covers text place count least inAll inSome scratch findings x1 v40 e40) [0, 1, 2, 3, 4, 5, 6, 7, 8, 9, 10, 11, 12, 13, 14, 15, 16, 17, 18, 19, 20, 21, 22, 23, 24, 25, 26, 27, 28, 29, 30, 31] [] [0, 1, 2, 3, 4, 5, 6, 7, 8, 9, 10, 11, 12, 13, 14, 15, 16, 17, 18, 19, 20, 21, 22, 23, 24, 25, 26, 27, 28, 29, 30, 31] rfl rfl rfl 0 rfl rfl lX4_136 ⟨rfl, rfl, by decide, by decide⟩ rfl hl.1 (Nat.le_of_ble_eq_true rfl) rfl dX4_lots_40 (fun H locs hG => ?_)
            refine lv_if_ne (tgt := 49) hx hb dX4_lots_43 (by decide) (fun c43 => ?_) (fun c43 => ?_)
            · rw [if_neg c43] at h
              refine lv_iload_n hx hb dX4_lots_49 rfl (lv_at hl 2 rfl) ?_
              refine lv_i2l hx hb dX4_lots_50 rfl ?_
              refine lv_lstore_n (lv' := [(3, .long (Int32.toInt64 x2)), (0, .ref (ad 0)), (1, .int x1), (2, .int x2)]) hx hb dX4_lots_51 rfl hl (by decide) rfl (fun ls hl => ?_)
              refine lv_iconst (v := 0) hx hb dX4_lots_52 (by decide) ?_
              refine lv_istore (lv' := [(5, .int 0), (3, .long (Int32.toInt64 x2)), (0, .ref (ad 0)), (1, .int x1), (2, .int x2)]) hx hb dX4_lots_53 hl (by decide) rfl (fun ls hl => ?_)
              obtain ⟨d_items_L55, d_sizes_L55, sl_lifted_L55, sl_licked_L55, sl_morning_L55, sl_tally_L55, sl_places_L55, sl_downs_L55, sl_covers_L55, e55, h⟩ := bd9_some h
              refine hL_55 _ _ _ _ _ _ _ _ _ _ (fun ls H locs hl hG => ?_) _ _ _ _ _ _ _ _ _ _ _ _ e55 _ _ _ (lv_sub hl [2, 3, 1, 0] rfl) hG
              refine lv_aload_n hx hb dX4_lots_114 rfl (lv_at hl 0 rfl) ?_
              refine x_get hc hG 0 rfl iX4 4 lX4_35 rfl dX4_lots_115 ?_
              refine x_getN hc hG 16 rfl iX3 10 lX4_190 rfl dX4_lots_118 ?_
              cases h
              exact hret _ _ _ _ hG dX4_lots_121 rfl
            · rw [if_pos c43] at h
              refine lv_bipush (v := (-2)) hx hb dX4_lots_46 (by decide) ?_
              cases h
              exact hret _ _ _ _ hG dX4_lots_48 rfl
          · rw [if_pos c32] at h
            refine lv_bipush (v := (-4)) hx hb dX4_lots_35 (by decide) ?_
            cases h
            exact hret _ _ _ _ hG dX4_lots_37 rfl
        · rw [if_neg c20] at h
          refine lv_iconst (v := (-1)) hx hb dX4_lots_23 (by decide) ?_
          cases h
          exact hret _ _ _ _ hG dX4_lots_24 rfl
