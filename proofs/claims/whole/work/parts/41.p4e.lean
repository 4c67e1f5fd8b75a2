set_option maxRecDepth 100000 in
set_option maxHeartbeats 4000000 in
theorem cc_X4_asked {l : Launch} {D : va_G} {cI : ClassId} {tL : Nat} (ad : Nat → Nat) (finding : Int32) (asked : Int32) (upper : Int64) (lower : Int64) (r_items : Nat → Int32) (r_sizes : Nat → Int32) (t_items : Nat → Int32) (t_sizes : Nat → Int32) (d_items : Nat → Int32) (d_sizes : Nat → Int32) (st_size : Int32) (st_need : Int32) (st_lifted : Int32) (st_licked : Int32) (st_morning : Int32) (st_tally : Int32) (st_kinds : Nat → Int32) (st_places : Nat → Int32) (st_lengths : Nat → Int32) (st_downs : Nat → Int32) (st_covers : Nat → Int32) (sl_size : Int32) (sl_need : Int32) (sl_lifted : Int32) (sl_licked : Int32) (sl_morning : Int32) (sl_tally : Int32) (sl_kinds : Nat → Int32) (sl_places : Nat → Int32) (sl_lengths : Nat → Int32) (sl_downs : Nat → Int32) (sl_covers : Nat → Int32) (as_size : Int32) (as_need : Int32) (as_lifted : Int32) (as_licked : Int32) (as_morning : Int32) (as_tally : Int32) (as_kinds : Nat → Int32) (as_places : Nat → Int32) (as_lengths : Nat → Int32) (as_downs : Nat → Int32) (as_covers : Nat → Int32) (text : Int32) (place : Int32) (count : Int32) (least : Int32) (inAll : Int32) (inSome : Int32) (scratch : Nat → Int32) (findings : Nat → Int32) (r' : Int32) (h : fX4_asked asked = some r') : Ci l D cI tL yX4_asked cX4_asked 1 .int rmX4_asked (wX4 cI ad finding asked upper lower r_items r_sizes t_items t_sizes d_items d_sizes st_size st_need st_lifted st_licked st_morning st_tally st_kinds st_places st_lengths st_downs st_covers sl_size sl_need sl_lifted sl_licked sl_morning sl_tally sl_kinds sl_places sl_lengths sl_downs sl_covers as_size as_need as_lifted as_licked as_morning as_tally as_kinds as_places as_lengths as_downs as_covers text place count least inAll inSome scratch findings) [.ref (ad 0)] r' (wX4 cI ad finding asked upper lower r_items r_sizes t_items t_sizes d_items d_sizes st_size st_need st_lifted st_licked st_morning st_tally st_kinds st_places st_lengths st_downs st_covers sl_size sl_need sl_lifted sl_licked sl_morning sl_tally sl_kinds sl_places sl_lengths sl_downs sl_covers as_size as_need as_lifted as_licked as_morning as_tally as_kinds as_places as_lengths as_downs as_covers text place count least inAll inSome scratch findings) := by
  refine Ci_of (own := RX4) (by decide) (Nat.le_of_ble_eq_true rfl) rfl ?_
  intro p e s m below meth c Q A AV hc hret ls hl hG
  obtain ⟨hx, hb, hml, hown, hts, hK, hA, hz⟩ := id hc
  have hl : lv_has ls 1 [(0, .ref (ad 0))] := hl
  unfold fX4_asked at h
  refine lv_aload_n hx hb dX4_asked_0 rfl (lv_at hl 0 rfl) ?_
  refine x_get hc hG 0 rfl iX4 11 lX4_178 rfl dX4_asked_1 ?_
  cases h
  exact hret _ _ _ _ hG dX4_asked_4 rfl
set_option maxRecDepth 100000 in
set_option maxHeartbeats 4000000 in
theorem cc_X4_upper {l : Launch} {D : va_G} {cI : ClassId} {tL : Nat} (ad : Nat → Nat) (finding : Int32) (asked : Int32) (upper : Int64) (lower : Int64) (r_items : Nat → Int32) (r_sizes : Nat → Int32) (t_items : Nat → Int32) (t_sizes : Nat → Int32) (d_items : Nat → Int32) (d_sizes : Nat → Int32) (st_size : Int32) (st_need : Int32) (st_lifted : Int32) (st_licked : Int32) (st_morning : Int32) (st_tally : Int32) (st_kinds : Nat → Int32) (st_places : Nat → Int32) (st_lengths : Nat → Int32) (st_downs : Nat → Int32) (st_covers : Nat → Int32) (sl_size : Int32) (sl_need : Int32) (sl_lifted : Int32) (sl_licked : Int32) (sl_morning : Int32) (sl_tally : Int32) (sl_kinds : Nat → Int32) (sl_places : Nat → Int32) (sl_lengths : Nat → Int32) (sl_downs : Nat → Int32) (sl_covers : Nat → Int32) (as_size : Int32) (as_need : Int32) (as_lifted : Int32) (as_licked : Int32) (as_morning : Int32) (as_tally : Int32) (as_kinds : Nat → Int32) (as_places : Nat → Int32) (as_lengths : Nat → Int32) (as_downs : Nat → Int32) (as_covers : Nat → Int32) (text : Int32) (place : Int32) (count : Int32) (least : Int32) (inAll : Int32) (inSome : Int32) (scratch : Nat → Int32) (findings : Nat → Int32) (r' : Int64) (h : fX4_upper upper = some r') : Cl l D cI tL yX4_upper cX4_upper 1 rmX4_upper (wX4 cI ad finding asked upper lower r_items r_sizes t_items t_sizes d_items d_sizes st_size st_need st_lifted st_licked st_morning st_tally st_kinds st_places st_lengths st_downs st_covers sl_size sl_need sl_lifted sl_licked sl_morning sl_tally sl_kinds sl_places sl_lengths sl_downs sl_covers as_size as_need as_lifted as_licked as_morning as_tally as_kinds as_places as_lengths as_downs as_covers text place count least inAll inSome scratch findings) [.ref (ad 0)] r' (wX4 cI ad finding asked upper lower r_items r_sizes t_items t_sizes d_items d_sizes st_size st_need st_lifted st_licked st_morning st_tally st_kinds st_places st_lengths st_downs st_covers sl_size sl_need sl_lifted sl_licked sl_morning sl_tally sl_kinds sl_places sl_lengths sl_downs sl_covers as_size as_need as_lifted as_licked as_morning as_tally as_kinds as_places as_lengths as_downs as_covers text place count least inAll inSome scratch findings) := by
  refine Cl_of (own := RX4) (by decide) (Nat.le_of_ble_eq_true rfl) rfl ?_
  intro p e s m below meth c Q A AV hc hret ls hl hG
  obtain ⟨hx, hb, hml, hown, hts, hK, hA, hz⟩ := id hc
  have hl : lv_has ls 1 [(0, .ref (ad 0))] := hl
  unfold fX4_upper at h
  refine lv_aload_n hx hb dX4_upper_0 rfl (lv_at hl 0 rfl) ?_
  refine x_get hc hG 0 rfl iX4 12 lX4_286 rfl dX4_upper_1 ?_
  cases h
  exact hret _ _ _ _ hG dX4_upper_4
set_option maxRecDepth 100000 in
set_option maxHeartbeats 4000000 in
theorem cc_X4_lower {l : Launch} {D : va_G} {cI : ClassId} {tL : Nat} (ad : Nat → Nat) (finding : Int32) (asked : Int32) (upper : Int64) (lower : Int64) (r_items : Nat → Int32) (r_sizes : Nat → Int32) (t_items : Nat → Int32) (t_sizes : Nat → Int32) (d_items : Nat → Int32) (d_sizes : Nat → Int32) (st_size : Int32) (st_need : Int32) (st_lifted : Int32) (st_licked : Int32) (st_morning : Int32) (st_tally : Int32) (st_kinds : Nat → Int32) (st_places : Nat → Int32) (st_lengths : Nat → Int32) (st_downs : Nat → Int32) (st_covers : Nat → Int32) (sl_size : Int32) (sl_need : Int32) (sl_lifted : Int32) (sl_licked : Int32) (sl_morning : Int32) (sl_tally : Int32) (sl_kinds : Nat → Int32) (sl_places : Nat → Int32) (sl_lengths : Nat → Int32) (sl_downs : Nat → Int32) (sl_covers : Nat → Int32) (as_size : Int32) (as_need : Int32) (as_lifted : Int32) (as_licked : Int32) (as_morning : Int32) (as_tally : Int32) (as_kinds : Nat → Int32) (as_places : Nat → Int32) (as_lengths : Nat → Int32) (as_downs : Nat → Int32) (as_covers : Nat → Int32) (text : Int32) (place : Int32) (count : Int32) (least : Int32) (inAll : Int32) (inSome : Int32) (scratch : Nat → Int32) (findings : Nat → Int32) (r' : Int64) (h : fX4_lower lower = some r') : Cl l D cI tL yX4_lower cX4_lower 1 rmX4_lower (wX4 cI ad finding asked upper lower r_items r_sizes t_items t_sizes d_items d_sizes st_size st_need st_lifted st_licked st_morning st_tally st_kinds st_places st_lengths st_downs st_covers sl_size sl_need sl_lifted sl_licked sl_morning sl_tally sl_kinds sl_places sl_lengths sl_downs sl_covers as_size as_need as_lifted as_licked as_morning as_tally as_kinds as_places as_lengths as_downs as_covers text place count least inAll inSome scratch findings) [.ref (ad 0)] r' (wX4 cI ad finding asked upper lower r_items r_sizes t_items t_sizes d_items d_sizes st_size st_need st_lifted st_licked st_morning st_tally st_kinds st_places st_lengths st_downs st_covers sl_size sl_need sl_lifted sl_licked sl_morning sl_tally sl_kinds sl_places sl_lengths sl_downs sl_covers as_size as_need as_lifted as_licked as_morning as_tally as_kinds as_places as_lengths as_downs as_covers text place count least inAll inSome scratch findings) := by
  refine Cl_of (own := RX4) (by decide) (Nat.le_of_ble_eq_true rfl) rfl ?_
  intro p e s m below meth c Q A AV hc hret ls hl hG
  obtain ⟨hx, hb, hml, hown, hts, hK, hA, hz⟩ := id hc
  have hl : lv_has ls 1 [(0, .ref (ad 0))] := hl
  unfold fX4_lower at h
  refine lv_aload_n hx hb dX4_lower_0 rfl (lv_at hl 0 rfl) ?_
  refine x_get hc hG 0 rfl iX4 13 lX4_64 rfl dX4_lower_1 ?_
  cases h
  exact hret _ _ _ _ hG dX4_lower_4
set_option maxRecDepth 100000 in
set_option maxHeartbeats 4000000 in
theorem cc_X4_count {l : Launch} {D : va_G} {cI : ClassId} {tL : Nat} (ad : Nat → Nat) (finding : Int32) (asked : Int32) (upper : Int64) (lower : Int64) (r_items : Nat → Int32) (r_sizes : Nat → Int32) (t_items : Nat → Int32) (t_sizes : Nat → Int32) (d_items : Nat → Int32) (d_sizes : Nat → Int32) (st_size : Int32) (st_need : Int32) (st_lifted : Int32) (st_licked : Int32) (st_morning : Int32) (st_tally : Int32) (st_kinds : Nat → Int32) (st_places : Nat → Int32) (st_lengths : Nat → Int32) (st_downs : Nat → Int32) (st_covers : Nat → Int32) (sl_size : Int32) (sl_need : Int32) (sl_lifted : Int32) (sl_licked : Int32) (sl_morning : Int32) (sl_tally : Int32) (sl_kinds : Nat → Int32) (sl_places : Nat → Int32) (sl_lengths : Nat → Int32) (sl_downs : Nat → Int32) (sl_covers : Nat → Int32) (as_size : Int32) (as_need : Int32) (as_lifted : Int32) (as_licked : Int32) (as_morning : Int32) (as_tally : Int32) (as_kinds : Nat → Int32) (as_places : Nat → Int32) (as_lengths : Nat → Int32) (as_downs : Nat → Int32) (as_covers : Nat → Int32) (text : Int32) (place : Int32) (count : Int32) (least : Int32) (inAll : Int32) (inSome : Int32) (scratch : Nat → Int32) (findings : Nat → Int32) (x1 : Int32) (r' : Int32) (h : fX4_count r_sizes t_sizes d_sizes sl_size sl_need sl_lifted sl_licked sl_morning sl_tally sl_kinds sl_covers x1 = some r') : Ci l D cI tL yX4_count cX4_count 2 .int rmX4_count (wX4 cI ad finding asked upper lower r_items r_sizes t_items t_sizes d_items d_sizes st_size st_need st_lifted st_licked st_morning st_tally st_kinds st_places st_lengths st_downs st_covers sl_size sl_need sl_lifted sl_licked sl_morning sl_tally sl_kinds sl_places sl_lengths sl_downs sl_covers as_size as_need as_lifted as_licked as_morning as_tally as_kinds as_places as_lengths as_downs as_covers text place count least inAll inSome scratch findings) [.ref (ad 0), .int x1] r' (wX4 cI ad finding asked upper lower r_items r_sizes t_items t_sizes d_items d_sizes st_size st_need st_lifted st_licked st_morning st_tally st_kinds st_places st_lengths st_downs st_covers sl_size sl_need sl_lifted sl_licked sl_morning sl_tally sl_kinds sl_places sl_lengths sl_downs sl_covers as_size as_need as_lifted as_licked as_morning as_tally as_kinds as_places as_lengths as_downs as_covers text place count least inAll inSome scratch findings) := by
  refine Ci_of (own := RX4) (by decide) (Nat.le_of_ble_eq_true rfl) rfl ?_
  intro p e s m below meth c Q A AV hc hret ls hl hG
  obtain ⟨hx, hb, hml, hown, hts, hK, hA, hz⟩ := id hc
  have hl : lv_has ls 2 [(0, .ref (ad 0)), (1, .int x1)] := hl
  unfold fX4_count at h
  refine lv_iload_n hx hb dX4_count_0 rfl (lv_at hl 1 rfl) ?_
  by_cases c1_0 : x1 = 0
  · rw [if_pos c1_0] at h
    refine x_swK (tgt := 72) hx hb dX4_count_1 c1_0 (by decide) (by decide) rfl (by decide) ?_
    refine lv_aload_n hx hb dX4_count_72 rfl (lv_at hl 0 rfl) ?_
    refine x_get hc hG 0 rfl iX4 4 lX4_35 rfl dX4_count_73 ?_
    refine x_getN hc hG 16 rfl iX3 5 lX4_118 rfl dX4_count_76 ?_
    cases h
    exact hret _ _ _ _ hG dX4_count_79 rfl
  rw [if_neg c1_0] at h
  by_cases c1_1 : x1 = 1
  · rw [if_pos c1_1] at h
    refine x_swK (tgt := 80) hx hb dX4_count_1 c1_1 (by decide) (by decide) rfl (by decide) ?_
    refine lv_aload_n hx hb dX4_count_80 rfl (lv_at hl 0 rfl) ?_
    refine x_get hc hG 0 rfl iX4 4 lX4_35 rfl dX4_count_81 ?_
    refine x_getN hc hG 16 rfl iX3 6 lX4_289 rfl dX4_count_84 ?_
    cases h
    exact hret _ _ _ _ hG dX4_count_87 rfl
  rw [if_neg c1_1] at h
  by_cases c1_2 : x1 = 2
  · rw [if_pos c1_2] at h
    refine x_swK (tgt := 88) hx hb dX4_count_1 c1_2 (by decide) (by decide) rfl (by decide) ?_
    refine lv_aload_n hx hb dX4_count_88 rfl (lv_at hl 0 rfl) ?_
    refine x_get hc hG 0 rfl iX4 4 lX4_35 rfl dX4_count_89 ?_
    refine x_getN hc hG 16 rfl iX3 9 lX4_292 rfl dX4_count_92 ?_
    cases h
    exact hret _ _ _ _ hG dX4_count_95 rfl
  rw [if_neg c1_2] at h
  by_cases c1_3 : x1 = 3
  · rw [if_pos c1_3] at h
    refine x_swK (tgt := 96) hx hb dX4_count_1 c1_3 (by decide) (by decide) rfl (by decide) ?_
    refine lv_aload_n hx hb dX4_count_96 rfl (lv_at hl 0 rfl) ?_
    refine x_get hc hG 0 rfl iX4 2 lX4_21 rfl dX4_count_97 ?_
    refine lv_iconst (v := 3) hx hb dX4_count_100 (by decide) ?_
    obtain ⟨v101, e101, h⟩ := bd1_some h
    refine x_vi (rest := []) (ws' := (wX4 cI ad finding asked upper lower r_items r_sizes t_items t_sizes d_items d_sizes st_size st_need st_lifted st_licked st_morning st_tally st_kinds st_places st_lengths st_downs st_covers sl_size sl_need sl_lifted sl_licked sl_morning sl_tally sl_kinds sl_places sl_lengths sl_downs sl_covers as_size as_need as_lifted as_licked as_morning as_tally as_kinds as_places as_lengths as_downs as_covers text place count least inAll inSome scratch findings)) hc hG (cc_X2_sizeOf (fun k => ad (7 + k)) 160 4 40 d_items d_sizes 3 v101 e101) [7, 8, 9] [0, 1, 2, 3, 4, 5, 6, 10, 11, 12, 13, 14, 15, 16, 17, 18, 19, 20, 21, 22, 23, 24, 25, 26, 27, 28, 29, 30, 31] [0, 1, 2, 3, 4, 5, 6, 29, 30, 31, 7, 8, 9, 10, 11, 12, 13, 14, 15, 16, 17, 18, 19, 20, 21, 22, 23, 24, 25, 26, 27, 28] rfl rfl rfl 7 rfl rfl lX4_105 ⟨rfl, rfl, by decide, by decide⟩ rfl hl.1 (Nat.le_of_ble_eq_true rfl) rfl dX4_count_101 (fun H locs hG => ?_)
    cases h
    exact hret _ _ _ _ hG dX4_count_104 rfl
  rw [if_neg c1_3] at h
  by_cases c1_4 : x1 = 4
  · rw [if_pos c1_4] at h
    refine x_swK (tgt := 105) hx hb dX4_count_1 c1_4 (by decide) (by decide) rfl (by decide) ?_
    refine lv_aload_n hx hb dX4_count_105 rfl (lv_at hl 0 rfl) ?_
    refine x_get hc hG 0 rfl iX4 4 lX4_35 rfl dX4_count_106 ?_
    refine x_getN hc hG 16 rfl iX3 10 lX4_190 rfl dX4_count_109 ?_
    cases h
    exact hret _ _ _ _ hG dX4_count_112 rfl
  rw [if_neg c1_4] at h
  by_cases c1_5 : x1 = 5
  · rw [if_pos c1_5] at h
    refine x_swK (tgt := 113) hx hb dX4_count_1 c1_5 (by decide) (by decide) rfl (by decide) ?_
    refine lv_aload_n hx hb dX4_count_113 rfl (lv_at hl 0 rfl) ?_
    refine x_get hc hG 0 rfl iX4 4 lX4_35 rfl dX4_count_114 ?_
    refine x_getN hc hG 16 rfl iX3 7 lX4_152 rfl dX4_count_117 ?_
    cases h
    exact hret _ _ _ _ hG dX4_count_120 rfl
  rw [if_neg c1_5] at h
  by_cases c1_6 : x1 = 6
  · rw [if_pos c1_6] at h
    refine x_swK (tgt := 121) hx hb dX4_count_1 c1_6 (by decide) (by decide) rfl (by decide) ?_
    refine lv_aload_n hx hb dX4_count_121 rfl (lv_at hl 0 rfl) ?_
    refine x_get hc hG 0 rfl iX4 4 lX4_35 rfl dX4_count_122 ?_
    refine x_getN hc hG 16 rfl iX3 8 lX4_161 rfl dX4_count_125 ?_
    cases h
    exact hret _ _ _ _ hG dX4_count_128 rfl
  rw [if_neg c1_6] at h
  by_cases c1_7 : x1 = 7
  · rw [if_pos c1_7] at h
    refine x_swK (tgt := 129) hx hb dX4_count_1 c1_7 (by decide) (by decide) rfl (by decide) ?_
    refine lv_aload_n hx hb dX4_count_129 rfl (lv_at hl 0 rfl) ?_
    refine x_get hc hG 0 rfl iX4 4 lX4_35 rfl dX4_count_130 ?_
    obtain ⟨v133, e133, h⟩ := bd1_some h
    refine x_vi (rest := []) (ws' := (wX4 cI ad finding asked upper lower r_items r_sizes t_items t_sizes d_items d_sizes st_size st_need st_lifted st_licked st_morning st_tally st_kinds st_places st_lengths st_downs st_covers sl_size sl_need sl_lifted sl_licked sl_morning sl_tally sl_kinds sl_places sl_lengths sl_downs sl_covers as_size as_need as_lifted as_licked as_morning as_tally as_kinds as_places as_lengths as_downs as_covers text place count least inAll inSome scratch findings)) hc hG (cc_X3_linesNow (fun k => ad (16 + k)) sl_size sl_need sl_lifted sl_licked sl_morning sl_tally sl_kinds sl_places sl_lengths sl_downs sl_covers v133 e133) [16, 17, 18, 19, 20, 21] [0, 1, 2, 3, 4, 5, 6, 7, 8, 9, 10, 11, 12, 13, 14, 15, 22, 23, 24, 25, 26, 27, 28, 29, 30, 31] [0, 1, 2, 3, 4, 5, 6, 7, 8, 9, 10, 11, 12, 13, 14, 15, 26, 27, 28, 29, 30, 31, 16, 17, 18, 19, 20, 21, 22, 23, 24, 25] rfl rfl rfl 16 rfl rfl lX4_142 ⟨rfl, rfl, by decide, by decide⟩ rfl hl.1 (Nat.le_of_ble_eq_true rfl) rfl dX4_count_133 (fun H locs hG => ?_)
    cases h
    exact hret _ _ _ _ hG dX4_count_136 rfl
  rw [if_neg c1_7] at h
  by_cases c1_8 : x1 = 8
  · rw [if_pos c1_8] at h
    refine x_swK (tgt := 137) hx hb dX4_count_1 c1_8 (by decide) (by decide) rfl (by decide) ?_
    refine lv_aload_n hx hb dX4_count_137 rfl (lv_at hl 0 rfl) ?_
    refine x_get hc hG 0 rfl iX4 4 lX4_35 rfl dX4_count_138 ?_
    obtain ⟨v141, e141, h⟩ := bd1_some h
    refine x_vi (rest := []) (ws' := (wX4 cI ad finding asked upper lower r_items r_sizes t_items t_sizes d_items d_sizes st_size st_need st_lifted st_licked st_morning st_tally st_kinds st_places st_lengths st_downs st_covers sl_size sl_need sl_lifted sl_licked sl_morning sl_tally sl_kinds sl_places sl_lengths sl_downs sl_covers as_size as_need as_lifted as_licked as_morning as_tally as_kinds as_places as_lengths as_downs as_covers text place count least inAll inSome scratch findings)) hc hG (cc_X3_coveredNow (fun k => ad (16 + k)) sl_size sl_need sl_lifted sl_licked sl_morning sl_tally sl_kinds sl_places sl_lengths sl_downs sl_covers v141 e141) [16, 17, 18, 19, 20, 21] [0, 1, 2, 3, 4, 5, 6, 7, 8, 9, 10, 11, 12, 13, 14, 15, 22, 23, 24, 25, 26, 27, 28, 29, 30, 31] [0, 1, 2, 3, 4, 5, 6, 7, 8, 9, 10, 11, 12, 13, 14, 15, 26, 27, 28, 29, 30, 31, 16, 17, 18, 19, 20, 21, 22, 23, 24, 25] rfl rfl rfl 16 rfl rfl lX4_181 ⟨rfl, rfl, by decide, by decide⟩ rfl hl.1 (Nat.le_of_ble_eq_true rfl) rfl dX4_count_141 (fun H locs hG => ?_)
    refine x_si0 (rest := []) hc hG (cJ_bitc v141) lX4_217 ⟨rfl, rfl, by decide, by decide⟩ rfl hl.1 (Nat.le_of_ble_eq_true rfl) rfl dX4_count_144 (fun H locs hG => ?_)
    cases h
    exact hret _ _ _ _ hG dX4_count_147 rfl
  rw [if_neg c1_8] at h
  by_cases c1_9 : x1 = 9
  · rw [if_pos c1_9] at h
    refine x_swK (tgt := 148) hx hb dX4_count_1 c1_9 (by decide) (by decide) rfl (by decide) ?_
    refine lv_aload_n hx hb dX4_count_148 rfl (lv_at hl 0 rfl) ?_
    refine x_get hc hG 0 rfl iX4 4 lX4_35 rfl dX4_count_149 ?_
    refine lv_iconst (v := 1) hx hb dX4_count_152 (by decide) ?_
    obtain ⟨v153, e153, h⟩ := bd1_some h
    refine x_vi (rest := []) (ws' := (wX4 cI ad finding asked upper lower r_items r_sizes t_items t_sizes d_items d_sizes st_size st_need st_lifted st_licked st_morning st_tally st_kinds st_places st_lengths st_downs st_covers sl_size sl_need sl_lifted sl_licked sl_morning sl_tally sl_kinds sl_places sl_lengths sl_downs sl_covers as_size as_need as_lifted as_licked as_morning as_tally as_kinds as_places as_lengths as_downs as_covers text place count least inAll inSome scratch findings)) hc hG (cc_X3_amountOf (fun k => ad (16 + k)) sl_size sl_need sl_lifted sl_licked sl_morning sl_tally sl_kinds sl_places sl_lengths sl_downs sl_covers 1 v153 e153) [16, 17, 18, 19, 20, 21] [0, 1, 2, 3, 4, 5, 6, 7, 8, 9, 10, 11, 12, 13, 14, 15, 22, 23, 24, 25, 26, 27, 28, 29, 30, 31] [0, 1, 2, 3, 4, 5, 6, 7, 8, 9, 10, 11, 12, 13, 14, 15, 26, 27, 28, 29, 30, 31, 16, 17, 18, 19, 20, 21, 22, 23, 24, 25] rfl rfl rfl 16 rfl rfl lX4_295 ⟨rfl, rfl, by decide, by decide⟩ rfl hl.1 (Nat.le_of_ble_eq_true rfl) rfl dX4_count_153 (fun H locs hG => ?_)
    cases h
    exact hret _ _ _ _ hG dX4_count_156 rfl
  rw [if_neg c1_9] at h
  by_cases c1_10 : x1 = 10
  · rw [if_pos c1_10] at h
    refine x_swK (tgt := 157) hx hb dX4_count_1 c1_10 (by decide) (by decide) rfl (by decide) ?_
    refine lv_aload_n hx hb dX4_count_157 rfl (lv_at hl 0 rfl) ?_
    refine x_get hc hG 0 rfl iX4 4 lX4_35 rfl dX4_count_158 ?_
    refine lv_iconst (v := 2) hx hb dX4_count_161 (by decide) ?_
    obtain ⟨v162, e162, h⟩ := bd1_some h
    refine x_vi (rest := []) (ws' := (wX4 cI ad finding asked upper lower r_items r_sizes t_items t_sizes d_items d_sizes st_size st_need st_lifted st_licked st_morning st_tally st_kinds st_places st_lengths st_downs st_covers sl_size sl_need sl_lifted sl_licked sl_morning sl_tally sl_kinds sl_places sl_lengths sl_downs sl_covers as_size as_need as_lifted as_licked as_morning as_tally as_kinds as_places as_lengths as_downs as_covers text place count least inAll inSome scratch findings)) hc hG (cc_X3_amountOf (fun k => ad (16 + k)) sl_size sl_need sl_lifted sl_licked sl_morning sl_tally sl_kinds sl_places sl_lengths sl_downs sl_covers 2 v162 e162) [16, 17, 18, 19, 20, 21] [0, 1, 2, 3, 4, 5, 6, 7, 8, 9, 10, 11, 12, 13, 14, 15, 22, 23, 24, 25, 26, 27, 28, 29, 30, 31] [0, 1, 2, 3, 4, 5, 6, 7, 8, 9, 10, 11, 12, 13, 14, 15, 26, 27, 28, 29, 30, 31, 16, 17, 18, 19, 20, 21, 22, 23, 24, 25] rfl rfl rfl 16 rfl rfl lX4_295 ⟨rfl, rfl, by decide, by decide⟩ rfl hl.1 (Nat.le_of_ble_eq_true rfl) rfl dX4_count_162 (fun H locs hG => ?_)
    cases h
    exact hret _ _ _ _ hG dX4_count_165 rfl
  rw [if_neg c1_10] at h
  by_cases c1_11 : x1 = 11
  · rw [if_pos c1_11] at h
    refine x_swK (tgt := 166) hx hb dX4_count_1 c1_11 (by decide) (by decide) rfl (by decide) ?_
    refine lv_aload_n hx hb dX4_count_166 rfl (lv_at hl 0 rfl) ?_
    refine x_get hc hG 0 rfl iX4 0 lX4_14 rfl dX4_count_167 ?_
    obtain ⟨v170, e170, h⟩ := bd1_some h
    refine x_vi (rest := []) (ws' := (wX4 cI ad finding asked upper lower r_items r_sizes t_items t_sizes d_items d_sizes st_size st_need st_lifted st_licked st_morning st_tally st_kinds st_places st_lengths st_downs st_covers sl_size sl_need sl_lifted sl_licked sl_morning sl_tally sl_kinds sl_places sl_lengths sl_downs sl_covers as_size as_need as_lifted as_licked as_morning as_tally as_kinds as_places as_lengths as_downs as_covers text place count least inAll inSome scratch findings)) hc hG (cc_X2_amount (fun k => ad (1 + k)) 240 6 40 r_items r_sizes v170 e170) [1, 2, 3] [0, 4, 5, 6, 7, 8, 9, 10, 11, 12, 13, 14, 15, 16, 17, 18, 19, 20, 21, 22, 23, 24, 25, 26, 27, 28, 29, 30, 31] [0, 29, 30, 31, 1, 2, 3, 4, 5, 6, 7, 8, 9, 10, 11, 12, 13, 14, 15, 16, 17, 18, 19, 20, 21, 22, 23, 24, 25, 26, 27, 28] rfl rfl rfl 1 rfl rfl lX4_298 ⟨rfl, rfl, by decide, by decide⟩ rfl hl.1 (Nat.le_of_ble_eq_true rfl) rfl dX4_count_170 (fun H locs hG => ?_)
    cases h
    exact hret _ _ _ _ hG dX4_count_173 rfl
  rw [if_neg c1_11] at h
  by_cases c1_12 : x1 = 12
  · rw [if_pos c1_12] at h
    refine x_swK (tgt := 174) hx hb dX4_count_1 c1_12 (by decide) (by decide) rfl (by decide) ?_
    refine lv_aload_n hx hb dX4_count_174 rfl (lv_at hl 0 rfl) ?_
    refine x_get hc hG 0 rfl iX4 1 lX4_18 rfl dX4_count_175 ?_
    obtain ⟨v178, e178, h⟩ := bd1_some h
    refine x_vi (rest := []) (ws' := (wX4 cI ad finding asked upper lower r_items r_sizes t_items t_sizes d_items d_sizes st_size st_need st_lifted st_licked st_morning st_tally st_kinds st_places st_lengths st_downs st_covers sl_size sl_need sl_lifted sl_licked sl_morning sl_tally sl_kinds sl_places sl_lengths sl_downs sl_covers as_size as_need as_lifted as_licked as_morning as_tally as_kinds as_places as_lengths as_downs as_covers text place count least inAll inSome scratch findings)) hc hG (cc_X2_amount (fun k => ad (4 + k)) 240 4 60 t_items t_sizes v178 e178) [4, 5, 6] [0, 1, 2, 3, 7, 8, 9, 10, 11, 12, 13, 14, 15, 16, 17, 18, 19, 20, 21, 22, 23, 24, 25, 26, 27, 28, 29, 30, 31] [0, 1, 2, 3, 29, 30, 31, 4, 5, 6, 7, 8, 9, 10, 11, 12, 13, 14, 15, 16, 17, 18, 19, 20, 21, 22, 23, 24, 25, 26, 27, 28] rfl rfl rfl 4 rfl rfl lX4_298 ⟨rfl, rfl, by decide, by decide⟩ rfl hl.1 (Nat.le_of_ble_eq_true rfl) rfl dX4_count_178 (fun H locs hG => ?_)
    cases h
    exact hret _ _ _ _ hG dX4_count_181 rfl
  rw [if_neg c1_12] at h
  by_cases c1_13 : x1 = 13
  · rw [if_pos c1_13] at h
    refine x_swK (tgt := 182) hx hb dX4_count_1 c1_13 (by decide) (by decide) rfl (by decide) ?_
    refine lv_aload_n hx hb dX4_count_182 rfl (lv_at hl 0 rfl) ?_
    refine x_get hc hG 0 rfl iX4 2 lX4_21 rfl dX4_count_183 ?_
    obtain ⟨v186, e186, h⟩ := bd1_some h
    refine x_vi (rest := []) (ws' := (wX4 cI ad finding asked upper lower r_items r_sizes t_items t_sizes d_items d_sizes st_size st_need st_lifted st_licked st_morning st_tally st_kinds st_places st_lengths st_downs st_covers sl_size sl_need sl_lifted sl_licked sl_morning sl_tally sl_kinds sl_places sl_lengths sl_downs sl_covers as_size as_need as_lifted as_licked as_morning as_tally as_kinds as_places as_lengths as_downs as_covers text place count least inAll inSome scratch findings)) hc hG (cc_X2_amount (fun k => ad (7 + k)) 160 4 40 d_items d_sizes v186 e186) [7, 8, 9] [0, 1, 2, 3, 4, 5, 6, 10, 11, 12, 13, 14, 15, 16, 17, 18, 19, 20, 21, 22, 23, 24, 25, 26, 27, 28, 29, 30, 31] [0, 1, 2, 3, 4, 5, 6, 29, 30, 31, 7, 8, 9, 10, 11, 12, 13, 14, 15, 16, 17, 18, 19, 20, 21, 22, 23, 24, 25, 26, 27, 28] rfl rfl rfl 7 rfl rfl lX4_298 ⟨rfl, rfl, by decide, by decide⟩ rfl hl.1 (Nat.le_of_ble_eq_true rfl) rfl dX4_count_186 (fun H locs hG => ?_)
    refine lv_iconst (v := 1) hx hb dX4_count_189 (by decide) ?_
    refine lv_isub hx hb dX4_count_190 ?_
    cases h
    exact hret _ _ _ _ hG dX4_count_191 rfl
  rw [if_neg c1_13] at h
  refine x_swD (tgt := 192) hx hb dX4_count_1 [0, 1, 2, 3, 4, 5, 6, 7, 8, 9, 10, 11, 12, 13] (by decide) (List.forall_mem_cons.mpr ⟨lv_neT c1_0 (by decide), (List.forall_mem_cons.mpr ⟨lv_neT c1_1 (by decide), (List.forall_mem_cons.mpr ⟨lv_neT c1_2 (by decide), (List.forall_mem_cons.mpr ⟨lv_neT c1_3 (by decide), (List.forall_mem_cons.mpr ⟨lv_neT c1_4 (by decide), (List.forall_mem_cons.mpr ⟨lv_neT c1_5 (by decide), (List.forall_mem_cons.mpr ⟨lv_neT c1_6 (by decide), (List.forall_mem_cons.mpr ⟨lv_neT c1_7 (by decide), (List.forall_mem_cons.mpr ⟨lv_neT c1_8 (by decide), (List.forall_mem_cons.mpr ⟨lv_neT c1_9 (by decide), (List.forall_mem_cons.mpr ⟨lv_neT c1_10 (by decide), (List.forall_mem_cons.mpr ⟨lv_neT c1_11 (by decide), (List.forall_mem_cons.mpr ⟨lv_neT c1_12 (by decide), (List.forall_mem_cons.mpr ⟨lv_neT c1_13 (by decide), (List.forall_mem_nil _)⟩)⟩)⟩)⟩)⟩)⟩)⟩)⟩)⟩)⟩)⟩)⟩)⟩)⟩) (by decide) ?_
  refine lv_iconst (v := (-1)) hx hb dX4_count_192 (by decide) ?_
  cases h
  exact hret _ _ _ _ hG dX4_count_193 rfl
set_option maxRecDepth 100000 in
set_option maxHeartbeats 4000000 in
theorem cc_X4_finding {l : Launch} {D : va_G} {cI : ClassId} {tL : Nat} (ad : Nat → Nat) (finding : Int32) (asked : Int32) (upper : Int64) (lower : Int64) (r_items : Nat → Int32) (r_sizes : Nat → Int32) (t_items : Nat → Int32) (t_sizes : Nat → Int32) (d_items : Nat → Int32) (d_sizes : Nat → Int32) (st_size : Int32) (st_need : Int32) (st_lifted : Int32) (st_licked : Int32) (st_morning : Int32) (st_tally : Int32) (st_kinds : Nat → Int32) (st_places : Nat → Int32) (st_lengths : Nat → Int32) (st_downs : Nat → Int32) (st_covers : Nat → Int32) (sl_size : Int32) (sl_need : Int32) (sl_lifted : Int32) (sl_licked : Int32) (sl_morning : Int32) (sl_tally : Int32) (sl_kinds : Nat → Int32) (sl_places : Nat → Int32) (sl_lengths : Nat → Int32) (sl_downs : Nat → Int32) (sl_covers : Nat → Int32) (as_size : Int32) (as_need : Int32) (as_lifted : Int32) (as_licked : Int32) (as_morning : Int32) (as_tally : Int32) (as_kinds : Nat → Int32) (as_places : Nat → Int32) (as_lengths : Nat → Int32) (as_downs : Nat → Int32) (as_covers : Nat → Int32) (text : Int32) (place : Int32) (count : Int32) (least : Int32) (inAll : Int32) (inSome : Int32) (scratch : Nat → Int32) (findings : Nat → Int32) (r' : Int32) (h : fX4_finding finding = some r') : Ci l D cI tL yX4_finding cX4_finding 1 .int rmX4_finding (wX4 cI ad finding asked upper lower r_items r_sizes t_items t_sizes d_items d_sizes st_size st_need st_lifted st_licked st_morning st_tally st_kinds st_places st_lengths st_downs st_covers sl_size sl_need sl_lifted sl_licked sl_morning sl_tally sl_kinds sl_places sl_lengths sl_downs sl_covers as_size as_need as_lifted as_licked as_morning as_tally as_kinds as_places as_lengths as_downs as_covers text place count least inAll inSome scratch findings) [.ref (ad 0)] r' (wX4 cI ad finding asked upper lower r_items r_sizes t_items t_sizes d_items d_sizes st_size st_need st_lifted st_licked st_morning st_tally st_kinds st_places st_lengths st_downs st_covers sl_size sl_need sl_lifted sl_licked sl_morning sl_tally sl_kinds sl_places sl_lengths sl_downs sl_covers as_size as_need as_lifted as_licked as_morning as_tally as_kinds as_places as_lengths as_downs as_covers text place count least inAll inSome scratch findings) := by
  refine Ci_of (own := RX4) (by decide) (Nat.le_of_ble_eq_true rfl) rfl ?_
  intro p e s m below meth c Q A AV hc hret ls hl hG
  obtain ⟨hx, hb, hml, hown, hts, hK, hA, hz⟩ := id hc
  have hl : lv_has ls 1 [(0, .ref (ad 0))] := hl
  unfold fX4_finding at h
  refine lv_aload_n hx hb dX4_finding_0 rfl (lv_at hl 0 rfl) ?_
  refine x_get hc hG 0 rfl iX4 10 lX4_301 rfl dX4_finding_1 ?_
  cases h
  exact hret _ _ _ _ hG dX4_finding_4 rfl
set_option maxRecDepth 100000 in
set_option maxHeartbeats 4000000 in
theorem cc_X4_findings {l : Launch} {D : va_G} {cI : ClassId} {tL : Nat} (ad : Nat → Nat) (finding : Int32) (asked : Int32) (upper : Int64) (lower : Int64) (r_items : Nat → Int32) (r_sizes : Nat → Int32) (t_items : Nat → Int32) (t_sizes : Nat → Int32) (d_items : Nat → Int32) (d_sizes : Nat → Int32) (st_size : Int32) (st_need : Int32) (st_lifted : Int32) (st_licked : Int32) (st_morning : Int32) (st_tally : Int32) (st_kinds : Nat → Int32) (st_places : Nat → Int32) (st_lengths : Nat → Int32) (st_downs : Nat → Int32) (st_covers : Nat → Int32) (sl_size : Int32) (sl_need : Int32) (sl_lifted : Int32) (sl_licked : Int32) (sl_morning : Int32) (sl_tally : Int32) (sl_kinds : Nat → Int32) (sl_places : Nat → Int32) (sl_lengths : Nat → Int32) (sl_downs : Nat → Int32) (sl_covers : Nat → Int32) (as_size : Int32) (as_need : Int32) (as_lifted : Int32) (as_licked : Int32) (as_morning : Int32) (as_tally : Int32) (as_kinds : Nat → Int32) (as_places : Nat → Int32) (as_lengths : Nat → Int32) (as_downs : Nat → Int32) (as_covers : Nat → Int32) (text : Int32) (place : Int32) (count : Int32) (least : Int32) (inAll : Int32) (inSome : Int32) (scratch : Nat → Int32) (findings : Nat → Int32) (x1 : Int32) (r' : Int32) (h : fX4_findings findings x1 = some r') : Ci l D cI tL yX4_findings cX4_findings 2 .int rmX4_findings (wX4 cI ad finding asked upper lower r_items r_sizes t_items t_sizes d_items d_sizes st_size st_need st_lifted st_licked st_morning st_tally st_kinds st_places st_lengths st_downs st_covers sl_size sl_need sl_lifted sl_licked sl_morning sl_tally sl_kinds sl_places sl_lengths sl_downs sl_covers as_size as_need as_lifted as_licked as_morning as_tally as_kinds as_places as_lengths as_downs as_covers text place count least inAll inSome scratch findings) [.ref (ad 0), .int x1] r' (wX4 cI ad finding asked upper lower r_items r_sizes t_items t_sizes d_items d_sizes st_size st_need st_lifted st_licked st_morning st_tally st_kinds st_places st_lengths st_downs st_covers sl_size sl_need sl_lifted sl_licked sl_morning sl_tally sl_kinds sl_places sl_lengths sl_downs sl_covers as_size as_need as_lifted as_licked as_morning as_tally as_kinds as_places as_lengths as_downs as_covers text place count least inAll inSome scratch findings) := by
  refine Ci_of (own := RX4) (by decide) (Nat.le_of_ble_eq_true rfl) rfl ?_
  intro p e s m below meth c Q A AV hc hret ls hl hG
  obtain ⟨hx, hb, hml, hown, hts, hK, hA, hz⟩ := id hc
  have hl : lv_has ls 2 [(0, .ref (ad 0)), (1, .int x1)] := hl
  have hj_10 : fX4_findings_j10 = some r' → ∀ (ls : Array Slot) (H : Heap) (locs : List Loc), lv_has ls 2 [(0, .ref (ad 0))] → St D A s (wX4 cI ad finding asked upper lower r_items r_sizes t_items t_sizes d_items d_sizes st_size st_need st_lifted st_licked st_morning st_tally st_kinds st_places st_lengths st_downs st_covers sl_size sl_need sl_lifted sl_licked sl_morning sl_tally sl_kinds sl_places sl_lengths sl_downs sl_covers as_size as_need as_lifted as_licked as_morning as_tally as_kinds as_places as_lengths as_downs as_covers text place count least inAll inSome scratch findings) H locs → W p l e rmX4_findings s m AV below meth c H locs 0 0 Q (F0 m 10 ls []) := by
    intro  h ls H locs hl hG
    unfold fX4_findings_j10 at h
    refine lv_iconst (v := (-1)) hx hb dX4_findings_10 (by decide) ?_
    refine lv_goto (tgt := 20) hx hb dX4_findings_11 (by decide) ?_
    cases h
    exact hret _ _ _ _ hG dX4_findings_20 rfl
  unfold fX4_findings at h
  refine lv_iload_n hx hb dX4_findings_0 rfl (lv_at hl 1 rfl) ?_
  refine lv_iconst (v := 1) hx hb dX4_findings_1 (by decide) ?_
  refine lv_icmp_lt (tgt := 10) hx hb dX4_findings_2 (by decide) (fun c2 => ?_) (fun c2 => ?_)
  · rw [if_pos c2] at h
    exact hj_10  h _ _ _ (lv_sub hl [0] rfl) hG
  · rw [if_neg c2] at h
    refine lv_iload_n hx hb dX4_findings_5 rfl (lv_at hl 1 rfl) ?_
    refine lv_iconst (v := 5) hx hb dX4_findings_6 (by decide) ?_
    refine lv_icmp_le (tgt := 14) hx hb dX4_findings_7 (by decide) (fun c7 => ?_) (fun c7 => ?_)
    · rw [if_pos c7] at h
      refine lv_aload_n hx hb dX4_findings_14 rfl (lv_at hl 0 rfl) ?_
      refine x_get hc hG 0 rfl iX4 9 lX4_61 rfl dX4_findings_15 ?_
      refine lv_iload_n hx hb dX4_findings_18 rfl (lv_at hl 1 rfl) ?_
      obtain ⟨v19, e19, h⟩ := bd1_some h
      refine x_ald hc hG 31 rfl e19 dX4_findings_19 ?_
      cases h
      exact hret _ _ _ _ hG dX4_findings_20 rfl
    · rw [if_neg c7] at h
      exact hj_10  h _ _ _ (lv_sub hl [0] rfl) hG
set_option maxRecDepth 100000 in
set_option maxHeartbeats 4000000 in
theorem cc_X4_digest {l : Launch} {D : va_G} {cI : ClassId} {tL : Nat} (ad : Nat → Nat) (finding : Int32) (asked : Int32) (upper : Int64) (lower : Int64) (r_items : Nat → Int32) (r_sizes : Nat → Int32) (t_items : Nat → Int32) (t_sizes : Nat → Int32) (d_items : Nat → Int32) (d_sizes : Nat → Int32) (st_size : Int32) (st_need : Int32) (st_lifted : Int32) (st_licked : Int32) (st_morning : Int32) (st_tally : Int32) (st_kinds : Nat → Int32) (st_places : Nat → Int32) (st_lengths : Nat → Int32) (st_downs : Nat → Int32) (st_covers : Nat → Int32) (sl_size : Int32) (sl_need : Int32) (sl_lifted : Int32) (sl_licked : Int32) (sl_morning : Int32) (sl_tally : Int32) (sl_kinds : Nat → Int32) (sl_places : Nat → Int32) (sl_lengths : Nat → Int32) (sl_downs : Nat → Int32) (sl_covers : Nat → Int32) (as_size : Int32) (as_need : Int32) (as_lifted : Int32) (as_licked : Int32) (as_morning : Int32) (as_tally : Int32) (as_kinds : Nat → Int32) (as_places : Nat → Int32) (as_lengths : Nat → Int32) (as_downs : Nat → Int32) (as_covers : Nat → Int32) (text : Int32) (place : Int32) (count : Int32) (least : Int32) (inAll : Int32) (inSome : Int32) (scratch : Nat → Int32) (findings : Nat → Int32) (r' : Int64) (h : fX4_digest r_items r_sizes t_items t_sizes d_sizes sl_size sl_need sl_lifted sl_licked sl_morning sl_tally sl_kinds sl_places sl_lengths sl_downs sl_covers = some r') : Cl l D cI tL yX4_digest cX4_digest 5 rmX4_digest (wX4 cI ad finding asked upper lower r_items r_sizes t_items t_sizes d_items d_sizes st_size st_need st_lifted st_licked st_morning st_tally st_kinds st_places st_lengths st_downs st_covers sl_size sl_need sl_lifted sl_licked sl_morning sl_tally sl_kinds sl_places sl_lengths sl_downs sl_covers as_size as_need as_lifted as_licked as_morning as_tally as_kinds as_places as_lengths as_downs as_covers text place count least inAll inSome scratch findings) [.ref (ad 0)] r' (wX4 cI ad finding asked upper lower r_items r_sizes t_items t_sizes d_items d_sizes st_size st_need st_lifted st_licked st_morning st_tally st_kinds st_places st_lengths st_downs st_covers sl_size sl_need sl_lifted sl_licked sl_morning sl_tally sl_kinds sl_places sl_lengths sl_downs sl_covers as_size as_need as_lifted as_licked as_morning as_tally as_kinds as_places as_lengths as_downs as_covers text place count least inAll inSome scratch findings) := by
  refine Cl_of (own := RX4) (by decide) (Nat.le_of_ble_eq_true rfl) rfl ?_
  intro p e s m below meth c Q A AV hc hret ls hl hG
  obtain ⟨hx, hb, hml, hown, hts, hK, hA, hz⟩ := id hc
  have hl : lv_has ls 5 [(0, .ref (ad 0))] := hl
  have hL_6 : ∀  (x1_o : Int64), (∀ (ls : Array Slot) (H : Heap) (locs : List Loc), lv_has ls 5 [(0, .ref (ad 0)), (1, .long x1_o)] → St D A s (wX4 cI ad finding asked upper lower r_items r_sizes t_items t_sizes d_items d_sizes st_size st_need st_lifted st_licked st_morning st_tally st_kinds st_places st_lengths st_downs st_covers sl_size sl_need sl_lifted sl_licked sl_morning sl_tally sl_kinds sl_places sl_lengths sl_downs sl_covers as_size as_need as_lifted as_licked as_morning as_tally as_kinds as_places as_lengths as_downs as_covers text place count least inAll inSome scratch findings) H locs → W p l e rmX4_digest s m AV below meth c H locs 0 0 Q (F0 m 31 ls [])) → ∀ (n : Nat) (x1 : Int64) (x3 : Int32), fX4_digest_L6 r_sizes t_sizes d_sizes sl_size sl_need sl_lifted sl_licked sl_morning sl_tally sl_kinds sl_covers n x1 x3 = some x1_o → ∀ (ls : Array Slot) (H : Heap) (locs : List Loc), lv_has ls 5 [(0, .ref (ad 0)), (1, .long x1), (3, .int x3)] → St D A s (wX4 cI ad finding asked upper lower r_items r_sizes t_items t_sizes d_items d_sizes st_size st_need st_lifted st_licked st_morning st_tally st_kinds st_places st_lengths st_downs st_covers sl_size sl_need sl_lifted sl_licked sl_morning sl_tally sl_kinds sl_places sl_lengths sl_downs sl_covers as_size as_need as_lifted as_licked as_morning as_tally as_kinds as_places as_lengths as_downs as_covers text place count least inAll inSome scratch findings) H locs → W p l e rmX4_digest s m AV below meth c H locs 0 0 Q (F0 m 6 ls []) := by
    intro x1_o KE n
    induction n with
    | zero =>
      intro x1 x3 h
      exact nomatch (show none = some _ from h)
    | succ n ih =>
      intro x1 x3 h ls H locs hl hG
      have h : fX4_digest_B6 r_sizes t_sizes d_sizes sl_size sl_need sl_lifted sl_licked sl_morning sl_tally sl_kinds sl_covers (fX4_digest_L6 r_sizes t_sizes d_sizes sl_size sl_need sl_lifted sl_licked sl_morning sl_tally sl_kinds sl_covers n) x1 x3 = some x1_o := h
      unfold fX4_digest_B6 at h
      refine lv_iload_n hx hb dX4_digest_6 rfl (lv_at hl 2 rfl) ?_
      refine lv_bipush (v := 14) hx hb dX4_digest_7 (by decide) ?_
      refine lv_icmp_ge (tgt := 31) hx hb dX4_digest_9 (by decide) (fun c9 => ?_) (fun c9 => ?_)
      · rw [if_pos c9] at h
        cases h
        exact KE _ _ _ (lv_sub hl [0, 1] rfl) hG
      · rw [if_neg c9] at h
        refine lv_ldc2 (v := 31) hx hb hown (hts _ kX4_306) dX4_digest_12 ?_
        refine lv_lload_n hx hb dX4_digest_15 rfl (lv_at hl 1 rfl) ?_
        refine lv_lmul hx hb dX4_digest_16 ?_
        refine lv_aload_n hx hb dX4_digest_17 rfl (lv_at hl 0 rfl) ?_
        refine lv_iload_n hx hb dX4_digest_18 rfl (lv_at hl 2 rfl) ?_
        obtain ⟨v19, e19, h⟩ := bd1_some h
        refine x_vi (rest := [.long (31 * x1)]) (ws' := (wX4 cI ad finding asked upper lower r_items r_sizes t_items t_sizes d_items d_sizes st_size st_need st_lifted st_licked st_morning st_tally st_kinds st_places st_lengths st_downs st_covers sl_size sl_need sl_lifted sl_licked sl_morning sl_tally sl_kinds sl_places sl_lengths sl_downs sl_covers as_size as_need as_lifted as_licked as_morning as_tally as_kinds as_places as_lengths as_downs as_covers text place count least inAll inSome scratch findings)) hc hG (cc_X4_count ad finding asked upper lower r_items r_sizes t_items t_sizes d_items d_sizes st_size st_need st_lifted st_licked st_morning st_tally st_kinds st_places st_lengths st_downs st_covers sl_size sl_need sl_lifted sl_licked sl_morning sl_tally sl_kinds sl_places sl_lengths sl_downs sl_covers as_size as_need as_lifted as_licked as_morning as_tally as_kinds as_places as_lengths as_downs as_covers text place count least inAll inSome scratch findings x3 v19 e19) [0, 1, 2, 3, 4, 5, 6, 7, 8, 9, 10, 11, 12, 13, 14, 15, 16, 17, 18, 19, 20, 21, 22, 23, 24, 25, 26, 27, 28, 29, 30, 31] [] [0, 1, 2, 3, 4, 5, 6, 7, 8, 9, 10, 11, 12, 13, 14, 15, 16, 17, 18, 19, 20, 21, 22, 23, 24, 25, 26, 27, 28, 29, 30, 31] rfl rfl rfl 0 rfl rfl lX4_308 ⟨rfl, rfl, by decide, by decide⟩ rfl hl.1 (Nat.le_of_ble_eq_true rfl) rfl dX4_digest_19 (fun H locs hG => ?_)
        refine lv_i2l hx hb dX4_digest_22 rfl ?_
        refine lv_ladd hx hb dX4_digest_23 ?_
        refine lv_lstore_n (lv' := [(1, .long ((31 * x1) + (Int32.toInt64 v19))), (0, .ref (ad 0)), (3, .int x3)]) hx hb dX4_digest_24 rfl hl (by decide) rfl (fun ls hl => ?_)
        refine lv_iinc (v := (x3 + 1)) (lv' := [(3, .int (x3 + 1)), (1, .long ((31 * x1) + (Int32.toInt64 v19))), (0, .ref (ad 0))]) hx hb dX4_digest_25 hl (k := 2) rfl rfl (by decide) rfl (fun ls hl => ?_)
        refine lv_goto (tgt := 6) hx hb dX4_digest_28 (by decide) ?_
        exact ih _ _ h _ _ _ (lv_sub hl [2, 1, 0] rfl) hG
  have hL_86 : ∀  (x1_o : Int64), (∀ (ls : Array Slot) (H : Heap) (locs : List Loc), lv_has ls 5 [(0, .ref (ad 0)), (1, .long x1_o)] → St D A s (wX4 cI ad finding asked upper lower r_items r_sizes t_items t_sizes d_items d_sizes st_size st_need st_lifted st_licked st_morning st_tally st_kinds st_places st_lengths st_downs st_covers sl_size sl_need sl_lifted sl_licked sl_morning sl_tally sl_kinds sl_places sl_lengths sl_downs sl_covers as_size as_need as_lifted as_licked as_morning as_tally as_kinds as_places as_lengths as_downs as_covers text place count least inAll inSome scratch findings) H locs → W p l e rmX4_digest s m AV below meth c H locs 0 0 Q (F0 m 113 ls [])) → ∀ (n : Nat) (x1 : Int64) (x3 : Int32), fX4_digest_L86 d_sizes n x1 x3 = some x1_o → ∀ (ls : Array Slot) (H : Heap) (locs : List Loc), lv_has ls 5 [(0, .ref (ad 0)), (1, .long x1), (3, .int x3)] → St D A s (wX4 cI ad finding asked upper lower r_items r_sizes t_items t_sizes d_items d_sizes st_size st_need st_lifted st_licked st_morning st_tally st_kinds st_places st_lengths st_downs st_covers sl_size sl_need sl_lifted sl_licked sl_morning sl_tally sl_kinds sl_places sl_lengths sl_downs sl_covers as_size as_need as_lifted as_licked as_morning as_tally as_kinds as_places as_lengths as_downs as_covers text place count least inAll inSome scratch findings) H locs → W p l e rmX4_digest s m AV below meth c H locs 0 0 Q (F0 m 86 ls []) := by
    intro x1_o KE n
    induction n with
    | zero =>
      intro x1 x3 h
      exact nomatch (show none = some _ from h)
    | succ n ih =>
      intro x1 x3 h ls H locs hl hG
      have h : fX4_digest_B86 d_sizes (fX4_digest_L86 d_sizes n) x1 x3 = some x1_o := h
      unfold fX4_digest_B86 at h
      refine lv_iload_n hx hb dX4_digest_86 rfl (lv_at hl 2 rfl) ?_
      refine lv_iconst (v := 3) hx hb dX4_digest_87 (by decide) ?_
      refine lv_icmp_ge (tgt := 113) hx hb dX4_digest_88 (by decide) (fun c88 => ?_) (fun c88 => ?_)
      · rw [if_pos c88] at h
        cases h
        exact KE _ _ _ (lv_sub hl [0, 1] rfl) hG
      · rw [if_neg c88] at h
        refine lv_ldc2 (v := 31) hx hb hown (hts _ kX4_306) dX4_digest_91 ?_
        refine lv_lload_n hx hb dX4_digest_94 rfl (lv_at hl 1 rfl) ?_
        refine lv_lmul hx hb dX4_digest_95 ?_
        refine lv_aload_n hx hb dX4_digest_96 rfl (lv_at hl 0 rfl) ?_
        refine x_get hc hG 0 rfl iX4 2 lX4_21 rfl dX4_digest_97 ?_
        refine lv_iload_n hx hb dX4_digest_100 rfl (lv_at hl 2 rfl) ?_
        obtain ⟨v101, e101, h⟩ := bd1_some h
        refine x_vi (rest := [.long (31 * x1)]) (ws' := (wX4 cI ad finding asked upper lower r_items r_sizes t_items t_sizes d_items d_sizes st_size st_need st_lifted st_licked st_morning st_tally st_kinds st_places st_lengths st_downs st_covers sl_size sl_need sl_lifted sl_licked sl_morning sl_tally sl_kinds sl_places sl_lengths sl_downs sl_covers as_size as_need as_lifted as_licked as_morning as_tally as_kinds as_places as_lengths as_downs as_covers text place count least inAll inSome scratch findings)) hc hG (cc_X2_sizeOf (fun k => ad (7 + k)) 160 4 40 d_items d_sizes x3 v101 e101) [7, 8, 9] [0, 1, 2, 3, 4, 5, 6, 10, 11, 12, 13, 14, 15, 16, 17, 18, 19, 20, 21, 22, 23, 24, 25, 26, 27, 28, 29, 30, 31] [0, 1, 2, 3, 4, 5, 6, 29, 30, 31, 7, 8, 9, 10, 11, 12, 13, 14, 15, 16, 17, 18, 19, 20, 21, 22, 23, 24, 25, 26, 27, 28] rfl rfl rfl 7 rfl rfl lX4_105 ⟨rfl, rfl, by decide, by decide⟩ rfl hl.1 (Nat.le_of_ble_eq_true rfl) rfl dX4_digest_101 (fun H locs hG => ?_)
        refine lv_i2l hx hb dX4_digest_104 rfl ?_
        refine lv_ladd hx hb dX4_digest_105 ?_
        refine lv_lstore_n (lv' := [(1, .long ((31 * x1) + (Int32.toInt64 v101))), (0, .ref (ad 0)), (3, .int x3)]) hx hb dX4_digest_106 rfl hl (by decide) rfl (fun ls hl => ?_)
        refine lv_iinc (v := (x3 + 1)) (lv' := [(3, .int (x3 + 1)), (1, .long ((31 * x1) + (Int32.toInt64 v101))), (0, .ref (ad 0))]) hx hb dX4_digest_107 hl (k := 2) rfl rfl (by decide) rfl (fun ls hl => ?_)
        refine lv_goto (tgt := 86) hx hb dX4_digest_110 (by decide) ?_
        exact ih _ _ h _ _ _ (lv_sub hl [2, 1, 0] rfl) hG
  have hL_47 : ∀ (x3 : Int32) (x1_o : Int64), (∀ (ls : Array Slot) (H : Heap) (locs : List Loc), lv_has ls 5 [(0, .ref (ad 0)), (1, .long x1_o), (3, .int x3)] → St D A s (wX4 cI ad finding asked upper lower r_items r_sizes t_items t_sizes d_items d_sizes st_size st_need st_lifted st_licked st_morning st_tally st_kinds st_places st_lengths st_downs st_covers sl_size sl_need sl_lifted sl_licked sl_morning sl_tally sl_kinds sl_places sl_lengths sl_downs sl_covers as_size as_need as_lifted as_licked as_morning as_tally as_kinds as_places as_lengths as_downs as_covers text place count least inAll inSome scratch findings) H locs → W p l e rmX4_digest s m AV below meth c H locs 0 0 Q (F0 m 78 ls [])) → ∀ (n : Nat) (x1 : Int64) (x4 : Int32), fX4_digest_L47 sl_size sl_lifted sl_kinds sl_places sl_lengths sl_downs sl_covers x3 n x1 x4 = some x1_o → ∀ (ls : Array Slot) (H : Heap) (locs : List Loc), lv_has ls 5 [(0, .ref (ad 0)), (1, .long x1), (3, .int x3), (4, .int x4)] → St D A s (wX4 cI ad finding asked upper lower r_items r_sizes t_items t_sizes d_items d_sizes st_size st_need st_lifted st_licked st_morning st_tally st_kinds st_places st_lengths st_downs st_covers sl_size sl_need sl_lifted sl_licked sl_morning sl_tally sl_kinds sl_places sl_lengths sl_downs sl_covers as_size as_need as_lifted as_licked as_morning as_tally as_kinds as_places as_lengths as_downs as_covers text place count least inAll inSome scratch findings) H locs → W p l e rmX4_digest s m AV below meth c H locs 0 0 Q (F0 m 47 ls []) := by
    intro x3 x1_o KE n
    induction n with
    | zero =>
      intro x1 x4 h
      exact nomatch (show none = some _ from h)
    | succ n ih =>
      intro x1 x4 h ls H locs hl hG
      have h : fX4_digest_B47 sl_size sl_lifted sl_kinds sl_places sl_lengths sl_downs sl_covers x3 (fX4_digest_L47 sl_size sl_lifted sl_kinds sl_places sl_lengths sl_downs sl_covers x3 n) x1 x4 = some x1_o := h
      unfold fX4_digest_B47 at h
      refine lv_iload hx hb dX4_digest_47 (lv_at hl 3 rfl) ?_
      refine lv_bipush (v := 7) hx hb dX4_digest_49 (by decide) ?_
      refine lv_icmp_ge (tgt := 78) hx hb dX4_digest_51 (by decide) (fun c51 => ?_) (fun c51 => ?_)
      · rw [if_pos c51] at h
        cases h
        exact KE _ _ _ (lv_sub hl [0, 1, 2] rfl) hG
      · rw [if_neg c51] at h
        refine lv_ldc2 (v := 31) hx hb hown (hts _ kX4_306) dX4_digest_54 ?_
        refine lv_lload_n hx hb dX4_digest_57 rfl (lv_at hl 1 rfl) ?_
        refine lv_lmul hx hb dX4_digest_58 ?_
        refine lv_aload_n hx hb dX4_digest_59 rfl (lv_at hl 0 rfl) ?_
        refine x_get hc hG 0 rfl iX4 4 lX4_35 rfl dX4_digest_60 ?_
        refine lv_iload_n hx hb dX4_digest_63 rfl (lv_at hl 2 rfl) ?_
        refine lv_iload hx hb dX4_digest_64 (lv_at hl 3 rfl) ?_
        obtain ⟨v66, e66, h⟩ := bd1_some h
        refine x_vi (rest := [.long (31 * x1)]) (ws' := (wX4 cI ad finding asked upper lower r_items r_sizes t_items t_sizes d_items d_sizes st_size st_need st_lifted st_licked st_morning st_tally st_kinds st_places st_lengths st_downs st_covers sl_size sl_need sl_lifted sl_licked sl_morning sl_tally sl_kinds sl_places sl_lengths sl_downs sl_covers as_size as_need as_lifted as_licked as_morning as_tally as_kinds as_places as_lengths as_downs as_covers text place count least inAll inSome scratch findings)) hc hG (cc_X3_trait (fun k => ad (16 + k)) sl_size sl_need sl_lifted sl_licked sl_morning sl_tally sl_kinds sl_places sl_lengths sl_downs sl_covers x3 x4 v66 e66) [16, 17, 18, 19, 20, 21] [0, 1, 2, 3, 4, 5, 6, 7, 8, 9, 10, 11, 12, 13, 14, 15, 22, 23, 24, 25, 26, 27, 28, 29, 30, 31] [0, 1, 2, 3, 4, 5, 6, 7, 8, 9, 10, 11, 12, 13, 14, 15, 26, 27, 28, 29, 30, 31, 16, 17, 18, 19, 20, 21, 22, 23, 24, 25] rfl rfl rfl 16 rfl rfl lX4_127 ⟨rfl, rfl, by decide, by decide⟩ rfl hl.1 (Nat.le_of_ble_eq_true rfl) rfl dX4_digest_66 (fun H locs hG => ?_)
        refine lv_i2l hx hb dX4_digest_69 rfl ?_
        refine lv_ladd hx hb dX4_digest_70 ?_
        refine lv_lstore_n (lv' := [(1, .long ((31 * x1) + (Int32.toInt64 v66))), (0, .ref (ad 0)), (3, .int x3), (4, .int x4)]) hx hb dX4_digest_71 rfl hl (by decide) rfl (fun ls hl => ?_)
        refine lv_iinc (v := (x4 + 1)) (lv' := [(4, .int (x4 + 1)), (1, .long ((31 * x1) + (Int32.toInt64 v66))), (0, .ref (ad 0)), (3, .int x3)]) hx hb dX4_digest_72 hl (k := 3) rfl rfl (by decide) rfl (fun ls hl => ?_)
        refine lv_goto (tgt := 47) hx hb dX4_digest_75 (by decide) ?_
        exact ih _ _ h _ _ _ (lv_sub hl [2, 1, 3, 0] rfl) hG
  have hL_33 : ∀  (x1_o : Int64), (∀ (ls : Array Slot) (H : Heap) (locs : List Loc), lv_has ls 5 [(0, .ref (ad 0)), (1, .long x1_o)] → St D A s (wX4 cI ad finding asked upper lower r_items r_sizes t_items t_sizes d_items d_sizes st_size st_need st_lifted st_licked st_morning st_tally st_kinds st_places st_lengths st_downs st_covers sl_size sl_need sl_lifted sl_licked sl_morning sl_tally sl_kinds sl_places sl_lengths sl_downs sl_covers as_size as_need as_lifted as_licked as_morning as_tally as_kinds as_places as_lengths as_downs as_covers text place count least inAll inSome scratch findings) H locs → W p l e rmX4_digest s m AV below meth c H locs 0 0 Q (F0 m 84 ls [])) → ∀ (n : Nat) (x1 : Int64) (x3 : Int32), fX4_digest_L33 sl_size sl_lifted sl_kinds sl_places sl_lengths sl_downs sl_covers n x1 x3 = some x1_o → ∀ (ls : Array Slot) (H : Heap) (locs : List Loc), lv_has ls 5 [(0, .ref (ad 0)), (1, .long x1), (3, .int x3)] → St D A s (wX4 cI ad finding asked upper lower r_items r_sizes t_items t_sizes d_items d_sizes st_size st_need st_lifted st_licked st_morning st_tally st_kinds st_places st_lengths st_downs st_covers sl_size sl_need sl_lifted sl_licked sl_morning sl_tally sl_kinds sl_places sl_lengths sl_downs sl_covers as_size as_need as_lifted as_licked as_morning as_tally as_kinds as_places as_lengths as_downs as_covers text place count least inAll inSome scratch findings) H locs → W p l e rmX4_digest s m AV below meth c H locs 0 0 Q (F0 m 33 ls []) := by
    intro x1_o KE n
    induction n with
    | zero =>
      intro x1 x3 h
      exact nomatch (show none = some _ from h)
    | succ n ih =>
      intro x1 x3 h ls H locs hl hG
      have h : fX4_digest_B33 sl_size sl_lifted sl_kinds sl_places sl_lengths sl_downs sl_covers (fX4_digest_L33 sl_size sl_lifted sl_kinds sl_places sl_lengths sl_downs sl_covers n) x1 x3 = some x1_o := h
      unfold fX4_digest_B33 at h
      refine lv_iload_n hx hb dX4_digest_33 rfl (lv_at hl 2 rfl) ?_
      refine lv_aload_n hx hb dX4_digest_34 rfl (lv_at hl 0 rfl) ?_
      refine x_get hc hG 0 rfl iX4 4 lX4_35 rfl dX4_digest_35 ?_
      refine x_getN hc hG 16 rfl iX3 5 lX4_118 rfl dX4_digest_38 ?_
      refine lv_icmp_ge (tgt := 84) hx hb dX4_digest_41 (by decide) (fun c41 => ?_) (fun c41 => ?_)
      · rw [if_pos c41] at h
        cases h
        exact KE _ _ _ (lv_sub hl [0, 1] rfl) hG
      · rw [if_neg c41] at h
        refine lv_iconst (v := 0) hx hb dX4_digest_44 (by decide) ?_
        refine lv_istore (lv' := [(4, .int 0), (0, .ref (ad 0)), (1, .long x1), (3, .int x3)]) hx hb dX4_digest_45 hl (by decide) rfl (fun ls hl => ?_)
        obtain ⟨x1_L47, e47, h⟩ := bd1_some h
        refine hL_47 _ _ (fun ls H locs hl hG => ?_) _ _ _ e47 _ _ _ (lv_sub hl [1, 2, 3, 0] rfl) hG
        refine lv_iinc (v := (x3 + 1)) (lv' := [(3, .int (x3 + 1)), (0, .ref (ad 0)), (1, .long x1_L47)]) hx hb dX4_digest_78 hl (k := 2) rfl rfl (by decide) rfl (fun ls hl => ?_)
        refine lv_goto (tgt := 33) hx hb dX4_digest_81 (by decide) ?_
        exact ih _ _ h _ _ _ (lv_sub hl [1, 2, 0] rfl) hG
  unfold fX4_digest at h
  refine lv_ldc2 (v := 17) hx hb hown (hts _ kX4_304) dX4_digest_0 ?_
  refine lv_lstore_n (lv' := [(1, .long 17), (0, .ref (ad 0))]) hx hb dX4_digest_3 rfl hl (by decide) rfl (fun ls hl => ?_)
  refine lv_iconst (v := 0) hx hb dX4_digest_4 (by decide) ?_
  refine lv_istore_n (lv' := [(3, .int 0), (1, .long 17), (0, .ref (ad 0))]) hx hb dX4_digest_5 rfl hl (by decide) rfl (fun ls hl => ?_)
  obtain ⟨x1_L6, e6, h⟩ := bd1_some h
  refine hL_6 _ (fun ls H locs hl hG => ?_) _ _ _ e6 _ _ _ (lv_sub hl [2, 1, 0] rfl) hG
  refine lv_iconst (v := 0) hx hb dX4_digest_31 (by decide) ?_
  refine lv_istore_n (lv' := [(3, .int 0), (0, .ref (ad 0)), (1, .long x1_L6)]) hx hb dX4_digest_32 rfl hl (by decide) rfl (fun ls hl => ?_)
  obtain ⟨x1_L33, e33, h⟩ := bd1_some h
  refine hL_33 _ (fun ls H locs hl hG => ?_) _ _ _ e33 _ _ _ (lv_sub hl [1, 2, 0] rfl) hG
  refine lv_iconst (v := 0) hx hb dX4_digest_84 (by decide) ?_
  refine lv_istore_n (lv' := [(3, .int 0), (0, .ref (ad 0)), (1, .long x1_L33)]) hx hb dX4_digest_85 rfl hl (by decide) rfl (fun ls hl => ?_)
  obtain ⟨x1_L86, e86, h⟩ := bd1_some h
  refine hL_86 _ (fun ls H locs hl hG => ?_) _ _ _ e86 _ _ _ (lv_sub hl [1, 2, 0] rfl) hG
  refine lv_aload_n hx hb dX4_digest_113 rfl (lv_at hl 0 rfl) ?_
  refine x_get hc hG 0 rfl iX4 1 lX4_18 rfl dX4_digest_114 ?_
  refine lv_aload_n hx hb dX4_digest_117 rfl (lv_at hl 0 rfl) ?_
  refine x_get hc hG 0 rfl iX4 0 lX4_14 rfl dX4_digest_118 ?_
  refine lv_lload_n hx hb dX4_digest_121 rfl (lv_at hl 1 rfl) ?_
  obtain ⟨v122, e122, h⟩ := bd1_some h
  refine x_vl (rest := [.ref (ad 4)]) (ws' := (wX4 cI ad finding asked upper lower r_items r_sizes t_items t_sizes d_items d_sizes st_size st_need st_lifted st_licked st_morning st_tally st_kinds st_places st_lengths st_downs st_covers sl_size sl_need sl_lifted sl_licked sl_morning sl_tally sl_kinds sl_places sl_lengths sl_downs sl_covers as_size as_need as_lifted as_licked as_morning as_tally as_kinds as_places as_lengths as_downs as_covers text place count least inAll inSome scratch findings)) hc hG (cc_X2_addTo (fun k => ad (1 + k)) 240 6 40 r_items r_sizes x1_L86 v122 e122) [1, 2, 3] [0, 4, 5, 6, 7, 8, 9, 10, 11, 12, 13, 14, 15, 16, 17, 18, 19, 20, 21, 22, 23, 24, 25, 26, 27, 28, 29, 30, 31] [0, 29, 30, 31, 1, 2, 3, 4, 5, 6, 7, 8, 9, 10, 11, 12, 13, 14, 15, 16, 17, 18, 19, 20, 21, 22, 23, 24, 25, 26, 27, 28] rfl rfl rfl 1 rfl rfl lX4_310 ⟨rfl, rfl, by decide, by decide⟩ rfl hl.1 (Nat.le_of_ble_eq_true rfl) rfl dX4_digest_122 (fun H locs hG => ?_)
  obtain ⟨v125, e125, h⟩ := bd1_some h
  refine x_vl (rest := []) (ws' := (wX4 cI ad finding asked upper lower r_items r_sizes t_items t_sizes d_items d_sizes st_size st_need st_lifted st_licked st_morning st_tally st_kinds st_places st_lengths st_downs st_covers sl_size sl_need sl_lifted sl_licked sl_morning sl_tally sl_kinds sl_places sl_lengths sl_downs sl_covers as_size as_need as_lifted as_licked as_morning as_tally as_kinds as_places as_lengths as_downs as_covers text place count least inAll inSome scratch findings)) hc hG (cc_X2_addTo (fun k => ad (4 + k)) 240 4 60 t_items t_sizes v122 v125 e125) [4, 5, 6] [0, 1, 2, 3, 7, 8, 9, 10, 11, 12, 13, 14, 15, 16, 17, 18, 19, 20, 21, 22, 23, 24, 25, 26, 27, 28, 29, 30, 31] [0, 1, 2, 3, 29, 30, 31, 4, 5, 6, 7, 8, 9, 10, 11, 12, 13, 14, 15, 16, 17, 18, 19, 20, 21, 22, 23, 24, 25, 26, 27, 28] rfl rfl rfl 4 rfl rfl lX4_310 ⟨rfl, rfl, by decide, by decide⟩ rfl hl.1 (Nat.le_of_ble_eq_true rfl) rfl dX4_digest_125 (fun H locs hG => ?_)
  cases h
  exact hret _ _ _ _ hG dX4_digest_128
